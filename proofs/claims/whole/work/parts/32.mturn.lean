/-! ===== a turn: the model ===== -/
theorem MR_Eqv {y : Yd} {n yr : Nat} {r : R} {M M' : mM} (h : MR y n yr r M) (e : Eqv M M') : MR y n yr r M' := by
  unfold MR at h ⊢
  rw [e.1]
  exact h
theorem MX_Eqv {y : Yd} {dr : Bool} {M M' : mM} (h : MX y dr M) (e : Eqv M M') : MX y dr M' := by
  unfold MX at h ⊢
  rw [e.1]
  exact h
theorem FrM_Eqv {M M' : mM} (e : Eqv M M') : FrM M M' := ⟨e.2, fun p _ _ _ => by rw [e.1], fun i _ _ => by rw [e.1], fun i _ => by rw [e.1], fun g => by rw [e.1]⟩
def PN (y : Yd) (n : Nat) : Prop := ∀ g h, y_p y g = some h → h < n
theorem m_isNearer {y : Yd} {n yr : Nat} {r : R} {M : mM} (h : MR y n yr r M) (hpn : PN y n) {g : Nat} (hg : g < n) (hl : (r.1 g).1 ≠ none) : f_Model_isNearer (i32 g) M = some (e01 (nea y n r.1 g), M) := by
  have hV := h.2.1
  have hn := hV.2.2.1
  obtain ⟨⟨a1, a2, a3⟩, a8⟩ := h.1.2.2.2.2.2 g hg
  obtain ⟨p, hp⟩ := Option.ne_none_iff_exists'.mp hl
  have hq := eL_lt hV (l := p.1) (c := p.2) hg hp
  rw [hp] at a2
  unfold f_Model_isNearer nea
  rw [m_g6 (by omega), Option.bind_some, a8]
  cases hy : y_p y g with
  | none => exact if_pos (show (-1 : Int32) < 0 by decide)
  | some o =>
    have ho := hpn g o hy
    obtain ⟨⟨b1, b2, b3⟩, b8⟩ := h.1.2.2.2.2.2 o ho
    simp only [ho, if_true, hp]
    rw [show eG (some o) = i32 o from rfl, if_neg (fun z => (i32_neg (by omega)).mp z), m_isFallen h.1 hV ho, Option.bind_some]
    cases hoq : (r.1 o).1 with
    | none => exact if_neg e01_t
    | some q =>
      have hq' := eL_lt hV (l := q.1) (c := q.2) ho hoq
      rw [hoq] at b2
      simp only [eC] at a2 b2
      rw [show decide (some q = none) = false from rfl, if_pos e01_f]
      simp (disch := omega) only [m_g1, Option.bind_some, a2, b2, i32_le]
      by_cases c : p.2 < q.2
      · rw [if_neg (by omega), decide_eq_true c]; rfl
      · rw [if_pos (by omega), decide_eq_false c]; rfl
/-! words -/
def WD (M : mM) (ws : List Int64) (m : Nat) : Prop := ∀ k, k < m → M.2.2.1 445 k = ws.getD k 0
theorem WD_s {M : mM} {ws : List Int64} {m : Nat} {v : Int64} (h : WD M ws m) (hv : v = ws.getD m 0) : WD (msL M 445 m v) ws (m + 1) := by
  intro k hk
  by_cases c : k = m
  · subst c; rw [gLe, hv]
  · rw [gLo c]; exact h k (by omega)
/-- what the model's rules do -/
def EqM (M M' : mM) : Prop := (M'.2.2.2, M'.2.2.1 436) = (M.2.2.2, M.2.2.1 436) ∧ (∀ p, p ≠ 436 → M'.2.1 p = M.2.1 p) ∧ ∀ i, i ≠ 18 → M'.2.1 436 i = M.2.1 436 i
theorem MR_EqM {y : Yd} {n yr : Nat} {r : R} {M M' : mM} (h : MR y n yr r M) (e : EqM M M') : MR y n yr r M' := by
  unfold MR at h ⊢
  rw [e.2.1 446 (by omega), e.2.1 447 (by omega), e.2.2 24 (by omega)]
  exact h
theorem FrM_EqM {M M' : mM} (e : EqM M M') : FrM M M' := ⟨e.1, fun p p1 _ _ => e.2.1 p p1, fun i _ i2 => e.2.2 i i2, fun i _ => by rw [e.2.1 446 (by omega)], fun g => by rw [e.2.1 446 (by omega)]⟩
def RM (φ : Option (List Int64 → Nat)) (M : mM) : Prop := match φ with
  | none => M.2.1 436 21 = -1
  | some f => (∃ k, k < 6 ∧ M.2.1 436 21 = i32 k) ∧ (∀ ws, f ws ≤ 9) ∧ ∀ M1 : mM, M1.2.1 438 = M.2.1 438 → M1.2.1 440 = M.2.1 440 → M1.2.1 441 = M.2.1 441 → M1.2.1 436 21 = M.2.1 436 21 → ∀ (x : Int32) (ws : List Int64), (∀ k, k < 12 → M1.2.2.1 445 k = ws.getD k 0) → OK (f_Model_stepsOf_258 x FUEL 0 M1) fun z => z.1 = i32 (f ws) ∧ EqM M1 z.2
theorem RM_of {φ : Option (List Int64 → Nat)} {M M' : mM} (h : RM φ M) (e1 : M'.2.1 438 = M.2.1 438) (e2 : M'.2.1 440 = M.2.1 440) (e3 : M'.2.1 441 = M.2.1 441) (e4 : M'.2.1 436 21 = M.2.1 436 21) : RM φ M' := by
  unfold RM at h ⊢
  cases φ with
  | none => exact e4.trans h
  | some f =>
    obtain ⟨⟨k, hk, h1⟩, h2, h3⟩ := h
    exact ⟨⟨k, hk, e4.trans h1⟩, h2, fun M1 a1 a2 a3 a4 => h3 M1 (a1.trans e1) (a2.trans e2) (a3.trans e3) (a4.trans e4)⟩
theorem RM_Fr {φ : Option (List Int64 → Nat)} {M M' : mM} (h : RM φ M) (hf : FrM M M') : RM φ M' := RM_of h (hf.2.1 438 (by omega) (by omega) (by omega)) (hf.2.1 440 (by omega) (by omega) (by omega)) (hf.2.1 441 (by omega) (by omega) (by omega)) (hf.2.2.1 21 (by omega) (by omega))
theorem m_stepsOf {y : Yd} {n yr : Nat} {r : R} {dr : Bool} {φ : Option (List Int64 → Nat)} {M : mM} (h : MR y n yr r M) (hx : MX y dr M) (hm : RM φ M) (hv : VY y) (hpn : PN y n) (hy : yr < 2147483648) {g l c : Nat} (hg : g < n) (hp : (r.1 g).1 = some (l, c)) : OK (f_Model_stepsOf (i32 g) M) fun z => z.1 = i32 (stp y φ n yr (dr || flo y yr) r.1 g l c) ∧ EqM M z.2 := by
  have hV := h.2.1
  have hn := hV.2.2.1
  have hL := hV.1
  have hC := hV.2.1
  have hq := (hV.2.2.2.1 g hg).1 l c hp
  have hk3 := (hV.2.2.2.1 g hg).2.1
  obtain ⟨⟨a1, a2, a3, a4, a5, a6, a7⟩, a8⟩ := h.1.2.2.2.2.2 g hg
  rw [hp] at a1 a2
  simp only [eL, eC] at a1 a2
  have a0 := h.1.2.2.2.1
  unfold f_Model_stepsOf
  rw [m_g2 (by omega), Option.bind_some, a3]
  unfold RM at hm
  cases φ with
  | none =>
    simp only [hm]
    rw [if_neg (by decide)]
    by_cases c0 : (r.1 g).2.1 = 0
    · rw [if_pos (by rw [c0]; rfl)]
      exact OK_some ⟨by show (1 : Int32) = i32 (if (r.1 g).2.1 = 0 then 1 else 2); rw [if_pos c0]; rfl, rfl, fun _ _ => rfl, fun _ _ => rfl⟩
    · rw [if_neg (by rw [neq_0 (by omega)]; exact c0)]
      exact OK_some ⟨by show (2 : Int32) = i32 (if (r.1 g).2.1 = 0 then 1 else 2); rw [if_neg c0]; rfl, rfl, fun _ _ => rfl, fun _ _ => rfl⟩
  | some f =>
    obtain ⟨⟨k, hk, e21⟩, h9, hrun⟩ := hm
    rw [show (M.2.1 436 21) = i32 k from e21, if_pos ((i32_nn (by omega)).mpr trivial)]
    let ws := wds y n yr (dr || flo y yr) r.1 g l c
    let Q : Int32 × mM → Prop := fun z => z.1 = i32 (f ws) ∧ EqM M z.2
    have f258 : ∀ M1 : mM, Eqv M M1 → WD M1 ws 12 → OK (f_Model_stepsOf_258 (i32 g) FUEL 0 M1) Q := fun M1 e hw =>
      OK_imp (hrun M1 (by rw [e.1]) (by rw [e.1]) (by rw [e.1]) (by rw [e.1]) (i32 g) ws hw) fun z hz => ⟨hz.1, hz.2.1.trans e.2, fun p hp' => (hz.2.2.1 p hp').trans (by rw [e.1]), fun i hi => (hz.2.2.2 i hi).trans (by rw [e.1])⟩
    have f242 : ∀ (M1 : mM) (s2 : Int64), Eqv M M1 → WD M1 ws 10 → s2 = ws.getD 10 0 → OK (f_Model_stepsOf_242 (i32 g) 10 s2 M1) Q := by
      intro M1 s2 e hw hs
      unfold f_Model_stepsOf_242
      rw [wrL_10 (by omega) (by omega), Option.bind_some, m_fallenMany (MR_Eqv h (Eqv_L e _ _ _)).1 hV, Option.bind_some, wrL_11 (by omega) (by omega), Option.bind_some]
      exact f258 _ (Eqv_L (Eqv_L e _ _ _) _ _ _) (WD_s (WD_s hw hs) rfl)
    have f210 : ∀ (M1 : mM) (s2 : Int64), Eqv M M1 → WD M1 ws 8 → s2 = ws.getD 8 0 → OK (f_Model_stepsOf_210 (i32 g) 8 s2 M1) Q := by
      intro M1 s2 e hw hs
      unfold f_Model_stepsOf_210
      rw [wrL_8 (by omega) (by omega), Option.bind_some, m_behindOf (MR_Eqv h (Eqv_L e _ _ _)).1 hV hg hp, Option.bind_some, wrL_9 (by omega) (by omega), Option.bind_some]
      have e2 : Eqv M (msL (msL M1 445 8 s2) 445 9 (i32 (cBeh r.1 l c n 0 0)).toInt64) := Eqv_L (Eqv_L e _ _ _) _ _ _
      have hx2 := MX_Eqv hx e2
      rw [m_isFlood hx2.1 hv (MR_Eqv h e2).1.2.2.2.1 hy hx2.2, Option.bind_some]
      have hw2 : WD (msL (msL M1 445 8 s2) 445 9 (i32 (cBeh r.1 l c n 0 0)).toInt64) ws 10 := WD_s (WD_s hw hs) rfl
      cases hd : (dr || flo y yr) with
      | false =>
        rw [if_pos e01_f]
        exact f242 _ 0 e2 hw2 (by show (0 : Int64) = (if (dr || flo y yr) = true then 1 else 0); rw [hd]; rfl)
      | true =>
        rw [if_neg e01_t]
        exact f242 _ 1 e2 hw2 (by show (1 : Int64) = (if (dr || flo y yr) = true then 1 else 0); rw [hd]; rfl)
    have f168 : ∀ (M1 : mM) (s2 : Int64), Eqv M M1 → WD M1 ws 7 → s2 = ws.getD 7 0 → OK (f_Model_stepsOf_168 (i32 g) 7 s2 M1) Q := by
      intro M1 s2 e hw hs
      unfold f_Model_stepsOf_168 f_Model_stepsOf_209
      rw [wrL_7 (by omega) (by omega), Option.bind_some]
      have e2 : Eqv M (msL M1 445 7 s2) := Eqv_L e _ _ _
      have hR := MR_Eqv h e2
      have hw2 : WD (msL M1 445 7 s2) ws 8 := WD_s hw hs
      have b1 : (msL M1 445 7 s2).2.1 446 (10 + 9 * g) = i32 l := by rw [e2.1]; exact a1
      have b2 : (msL M1 445 7 s2).2.1 446 (10 + 9 * g + 1) = i32 c := by rw [e2.1]; exact a2
      simp (disch := omega) only [m_g0, m_g1, Option.bind_some, b1, b2, nle_0]
      have w8 : ws.getD 8 0 = if 0 < c ∧ grv n r.1 l (c - 1) ≠ none then 1 else 0 := rfl
      by_cases c0 : c ≤ 0
      · rw [if_pos c0]
        exact f210 _ 0 e2 hw2 (by rw [w8, if_neg (fun z => by omega)])
      · rw [if_neg c0, nsub_1 (by omega), m_graveAt hR.1 hV (by omega) (by omega), Option.bind_some]
        by_cases c1 : grv n r.1 l (c - 1) = none
        · rw [if_pos (by rw [c1]; exact (by decide : (-1 : Int32) < 0))]
          exact f210 _ 0 e2 hw2 (by rw [w8, if_neg (fun z => z.2 c1)])
        · obtain ⟨o, ho⟩ := Option.ne_none_iff_exists'.mp c1
          have := grv_lt hn o ho
          rw [if_neg (by rw [ho]; exact fun z => (i32_neg this).mp z)]
          exact f210 _ 1 e2 hw2 (by rw [w8, if_pos ⟨by omega, c1⟩])
    have f131 : ∀ (M1 : mM) (s2 : Int64), Eqv M M1 → WD M1 ws 6 → s2 = ws.getD 6 0 → OK (f_Model_stepsOf_131 (i32 g) (eG (y_p y g)) 6 s2 M1) Q := by
      intro M1 s2 e hw hs
      unfold f_Model_stepsOf_131 f_Model_stepsOf_150
      rw [wrL_6 (by omega) (by omega), Option.bind_some]
      have e2 : Eqv M (msL M1 445 6 s2) := Eqv_L e _ _ _
      have hR := MR_Eqv h e2
      have hw2 : WD (msL M1 445 6 s2) ws 7 := WD_s hw hs
      have w7 : ws.getD 7 0 = (far y n r.1 g).toInt64 := rfl
      unfold far at w7
      cases hpy : y_p y g with
      | none =>
        rw [hpy] at w7
        rw [if_pos (show eG none < 0 from by decide)]
        exact f168 _ 0 e2 hw2 (by rw [w7]; rfl)
      | some o =>
        have ho := hpn g o hpy
        have b2 : (msL M1 445 6 s2).2.1 446 (10 + 9 * g + 1) = i32 c := by rw [e2.1]; exact a2
        have c2 := (hR.1.2.2.2.2.2 o ho).1.2.1
        rw [hpy] at w7
        rw [show eG (some o) = i32 o from rfl, if_neg (fun z => (i32_neg (by omega)).mp z), m_isFallen hR.1 hV ho, Option.bind_some]
        by_cases c1 : (r.1 o).1 = none
        · rw [decide_eq_true c1, if_neg e01_t]
          exact f168 _ 0 e2 hw2 (by rw [w7]; simp only [c1, ne_eq, not_true_eq_false, and_false, if_false]; rfl)
        · rw [decide_eq_false c1, if_pos e01_f]
          simp (disch := omega) only [m_g1, Option.bind_some, b2, c2]
          exact f168 _ _ e2 hw2 (by rw [w7]; simp only [c1, ho, hp, ne_eq, not_false_eq_true, true_and, if_true, reduceCtorEq]; rfl)
    have f114 : ∀ (M1 : mM) (s2 : Int64), Eqv M M1 → WD M1 ws 5 → s2 = ws.getD 5 0 → OK (f_Model_stepsOf_114 (i32 g) (i32 (r.1 g).2.1) (eG (y_p y g)) 5 s2 M1) Q := by
      intro M1 s2 e hw hs
      unfold f_Model_stepsOf_114
      rw [wrL_5 (by omega) (by omega), Option.bind_some]
      have e2 : Eqv M (msL M1 445 5 s2) := Eqv_L e _ _ _
      have hw2 : WD (msL M1 445 5 s2) ws 6 := WD_s hw hs
      have w6 : ws.getD 6 0 = if (r.1 g).2.1 = 2 then 1 else 0 := rfl
      by_cases c1 : (r.1 g).2.1 = 2
      · rw [if_pos (by rw [c1]; rfl)]
        exact f131 _ 1 e2 hw2 (by rw [w6, if_pos c1])
      · rw [if_neg (by rw [neq_2 (by omega)]; exact c1)]
        exact f131 _ 0 e2 hw2 (by rw [w6, if_neg c1])
    have e0 : Eqv M M := ⟨rfl, rfl⟩
    have w0 : WD M ws 0 := fun k hk => absurd hk (Nat.not_lt_zero k)
    simp (disch := omega) only [m_g0, m_g1, m_g5, m_g6, rdL_0, wrL_0, rdL_1, wrL_1, rdL_2, wrL_2, rdL_3, wrL_3, rdL_4, wrL_4, rdL_5, wrL_5, rdL_6, wrL_6, rdL_7, wrL_7, rdL_8, wrL_8, rdL_9, wrL_9, rdL_10, wrL_10, rdL_11, wrL_11, rdL_12, wrL_12, rd_3, gLI, Option.bind_some, a1, a2, a6, a8, a0]
    have w5 : ws.getD 5 0 = if (r.1 g).2.1 = 1 then 1 else 0 := rfl
    have hw5 : WD (msL (msL (msL (msL (msL M 445 0 (i32 g).toInt64) 445 1 (i32 l).toInt64) 445 2 (i32 c).toInt64) 445 3 (i32 yr).toInt64) 445 4 (i32 yr - (r.1 g).2.2.2.2.1).toInt64) ws 5 := WD_s (WD_s (WD_s (WD_s (WD_s w0 rfl) rfl) rfl) rfl) rfl
    have e5 : Eqv M (msL (msL (msL (msL (msL M 445 0 (i32 g).toInt64) 445 1 (i32 l).toInt64) 445 2 (i32 c).toInt64) 445 3 (i32 yr).toInt64) 445 4 (i32 yr - (r.1 g).2.2.2.2.1).toInt64) := e0
    by_cases c1 : (r.1 g).2.1 = 1
    · rw [if_pos (by rw [c1]; rfl)]
      exact f114 _ 1 e5 hw5 (by rw [w5, if_pos c1])
    · rw [if_neg (by rw [neq_1 (by omega)]; exact c1)]
      exact f114 _ 0 e5 hw5 (by rw [w5, if_neg c1])
/-! the turn -/
theorem m_runs {y : Yd} {dr : Bool} {n yr : Nat} (hv : VY y) {g s : Nat} (hg : g < n) (hs : s < 2147483648) : ∀ (k i f : Nat) (r : R) (M : mM), i + k = s → k < f → MR y n yr r M → MX y dr M → (r.1 g).2.1 ≠ 3 → (r.1 g).1 ≠ none → OK (f_Model_turns_59 (i32 g) f (i32 s) 1 (i32 i) M) fun M' => MR y n yr (runs y n yr g k r) M' ∧ FrM M M'
  | _, _, 0, _, _, _, hf, _, _, _, _ => absurd hf (Nat.not_lt_zero _)
  | 0, i, f + 1, r, M, hi, hf, h, hx, hk, hp => by
    unfold f_Model_turns_59
    simp (disch := omega) only [i32_le]
    rw [if_pos (by omega)]
    exact OK_some ⟨h, FrM_refl M⟩
  | k + 1, i, f + 1, r, M, hi, hf, h, hx, hk, hp => by
    unfold f_Model_turns_59
    simp (disch := omega) only [i32_le]
    rw [if_neg (by omega), if_neg (by decide)]
    refine OK_bind (m_steps h hx hv hg hp hk) fun q hq => ?_
    obtain ⟨q1, q2, q3⟩ := hq
    rw [q1, runs, nadd_1]
    cases c1 : (goS y n yr r g).1 with
    | true =>
      rw [if_pos rfl]
      have hp' : ((goS y n yr r g).2.1 g).1 ≠ none := by
        unfold goS at c1 ⊢
        split
        · rename_i h0; rw [h0] at c1; cases c1
        · rename_i h0; rw [h0] at c1; cases c1
        · rename_i h0
          rw [h0] at c1
          simp only at c1
          split
          · rename_i h1
            show (bup r.1 g _ g).1 ≠ none
            rw [bup_e]; exact Option.some_ne_none _
          · rename_i h1
            rw [h1] at c1
            simp only at c1
            split
            · rename_i h2; rw [h2] at c1; cases c1
            · show (bup r.1 g _ g).1 ≠ none
              rw [bup_e]; exact Option.some_ne_none _
      exact OK_imp (m_runs hv hg hs k (i + 1) f _ q.2 (by omega) (by omega) q2 (MX_Fr hx hv q3) (by rw [goS_kind]; exact hk) hp') fun M' hM' => ⟨hM'.1, FrM_trans q3 hM'.2⟩
    | false =>
      rw [if_neg (by decide)]
      obtain ⟨f, rfl⟩ : ∃ f', f = f' + 1 := ⟨f - 1, by omega⟩
      have e : f_Model_turns_59 (i32 g) (f + 1) (i32 s) (e01 false) (i32 (i + 1)) q.2 = some q.2 := by
        unfold f_Model_turns_59
        rw [if_pos e01_f, ite_self]
      rw [e]
      exact OK_some ⟨q2, q3⟩
theorem m_held {y : Yd} {n yr : Nat} {r : R} {M : mM} (h : MR y n yr r M) {g l c : Nat} (hg : g < n) (hp : (r.1 g).1 = some (l, c)) : MR y n yr (bup r.1 g (hldB (r.1 g)), r.2) (msI M 446 (10 + 9 * g + 3) (i32 ((r.1 g).2.2.1 - 1))) ∧ FrM M (msI M 446 (10 + 9 * g + 3) (i32 ((r.1 g).2.2.1 - 1))) := by
  obtain ⟨hS, hV, hcn, hb, hr⟩ := h
  have hn := hV.2.2.1
  have hvg := hV.2.2.2.1 g hg
  have hq := hvg.1 l c hp
  have hh9 := hvg.2.2.1
  obtain ⟨⟨a1, a2, a3, a4, a5, a6, a7⟩, a8⟩ := hS.2.2.2.2.2 g hg
  refine ⟨⟨?_, V_come hV hp hq.1 hq.2 hvg.2.1 (by show (r.1 g).2.2.1 - 1 ≤ 9; omega) (fun z => by have := hvg.2.2.2 z; show (r.1 g).2.2.1 - 1 = 0; omega) (fun i hi hig z => hig (hV.2.2.2.2 i g _ hi hg z hp)), ?_, ?_, ?_⟩, ⟨rfl, ?_, ?_, ?_, ?_⟩⟩
  · refine MS_put hS hg ?_ ⟨?_, ?_, ?_, ?_, ?_, ?_, ?_⟩ ?_
    · intro j hj
      simp (disch := omega) only [gIe, gIp, gIo, gCe, gCn, gRI, gLI, gIR, gCR, gLR, gRe, gRo, gRp, gIl]
    all_goals simp (disch := omega) only [gIe, gIp, gIo, gCe, gCn, gRI, gLI, gIR, gCR, gLR, gRe, gRo, gRp, gIl] <;> first | rfl | assumption
  · simp (disch := omega) only [gIe, gIp, gIo, gCe, gCn, gRI, gLI, gIR, gCR, gLR, gRe, gRo, gRp, gIl]
    exact hcn
  · rw [show fMany (bup r.1 g (hldB (r.1 g)), r.2).1 n = fMany r.1 n from fMany_same (g := g) (x := hldB (r.1 g)) (show ((hldB (r.1 g)).1 = none) = ((r.1 g).1 = none) from rfl)]; exact hb
  · intro k hk
    simp (disch := omega) only [gIe, gIp, gIo, gCe, gCn, gRI, gLI, gIR, gCR, gLR, gRe, gRo, gRp, gIl]
    exact hr k hk
  · intro p p1 p2 p3
    simp (disch := omega) only [gIe, gIp, gIo, gCe, gCn, gRI, gLI, gIR, gCR, gLR, gRe, gRo, gRp, gIl]
  · intro i i1 i2
    simp (disch := omega) only [gIe, gIp, gIo, gCe, gCn, gRI, gLI, gIR, gCR, gLR, gRe, gRo, gRp, gIl]
  · intro i hi
    simp (disch := omega) only [gIe, gIp, gIo, gCe, gCn, gRI, gLI, gIR, gCR, gLR, gRe, gRo, gRp, gIl]
  · intro j
    simp (disch := omega) only [gIe, gIp, gIo, gCe, gCn, gRI, gLI, gIR, gCR, gLR, gRe, gRo, gRp, gIl]
theorem m_turns {y : Yd} {n yr : Nat} {r : R} {dr : Bool} {φ : Option (List Int64 → Nat)} {M : mM} (h : MR y n yr r M) (hx : MX y dr M) (hm : RM φ M) (hv : VY y) (hpn : PN y n) (hy : yr < 2147483648) {g : Nat} (hg : g < n) (hl : (r.1 g).1 ≠ none) : OK (f_Model_turns (i32 g) M) fun M' => MR y n yr (trn y φ n yr (dr || flo y yr) r g) M' ∧ FrM M M' := by
  have hV := h.2.1
  have hn := hV.2.2.1
  have hvg := hV.2.2.2.1 g hg
  have hk3 := hvg.2.1
  have hh9 := hvg.2.2.1
  obtain ⟨⟨a1, a2, a3, a4, a5, a6, a7⟩, a8⟩ := h.1.2.2.2.2.2 g hg
  obtain ⟨⟨l, c⟩, hp⟩ := Option.ne_none_iff_exists'.mp hl
  unfold f_Model_turns
  rw [show trn y φ n yr (dr || flo y yr) r g = if 0 < (r.1 g).2.2.1 then (bup r.1 g (hldB (r.1 g)), r.2) else if (r.1 g).2.1 = 3 then r else if nea y n r.1 g = true then r else runs y n yr g (stp y φ n yr (dr || flo y yr) r.1 g l c) r by unfold trn; rw [hp]]
  simp (disch := omega) only [m_g2, m_g3, Option.bind_some, a3, a4, neq_3, nle_0]
  by_cases c1 : (r.1 g).2.1 = 3
  · rw [if_pos c1, if_neg (by have := hvg.2.2.2 c1; omega), if_pos c1]
    exact OK_some ⟨h, FrM_refl M⟩
  · rw [if_neg c1]
    by_cases c2 : 0 < (r.1 g).2.2.1
    · rw [if_neg (by omega), if_pos c2]
      simp (disch := omega) only [i32_lt, i32_le, i32_eq, i32_add, i32_mul, i32_neg, i32_nn, i32_ne1, i32_n1e, n1_lt_i32, i32_le_n1, i32_dec, i32_cl, rd_i32, ix_i32, wr_i32, pI_s, pR_s, pC_s, pZ_0, pZ_1, Option.bind_some, ite_true, ite_false, if_true, if_false, gIL, gRI, nlt_0, l0_lt, nle_0, l0_le, neq_0, nadd_0, nmul_0, nmul'_0, nadd'_0, nsub_0, nlt_1, l1_lt, nle_1, l1_le, neq_1, nadd_1, nmul_1, nmul'_1, nadd'_1, nsub_1, nlt_2, l2_lt, nle_2, l2_le, neq_2, nadd_2, nmul_2, nmul'_2, nadd'_2, nsub_2, nlt_3, l3_lt, nle_3, l3_le, neq_3, nadd_3, nmul_3, nmul'_3, nadd'_3, nsub_3, nlt_4, l4_lt, nle_4, l4_le, neq_4, nadd_4, nmul_4, nmul'_4, nadd'_4, nsub_4, nlt_5, l5_lt, nle_5, l5_le, neq_5, nadd_5, nmul_5, nmul'_5, nadd'_5, nsub_5, nlt_6, l6_lt, nle_6, l6_le, neq_6, nadd_6, nmul_6, nmul'_6, nadd'_6, nsub_6, nlt_7, l7_lt, nle_7, l7_le, neq_7, nadd_7, nmul_7, nmul'_7, nadd'_7, nsub_7, nlt_8, l8_lt, nle_8, l8_le, neq_8, nadd_8, nmul_8, nmul'_8, nadd'_8, nsub_8, nlt_9, l9_lt, nle_9, l9_le, neq_9, nadd_9, nmul_9, nmul'_9, nadd'_9, nsub_9, nlt_10, l10_lt, nle_10, l10_le, neq_10, nadd_10, nmul_10, nmul'_10, nadd'_10, nsub_10, nlt_11, l11_lt, nle_11, l11_le, neq_11, nadd_11, nmul_11, nmul'_11, nadd'_11, nsub_11, nlt_12, l12_lt, nle_12, l12_le, neq_12, nadd_12, nmul_12, nmul'_12, nadd'_12, nsub_12, nlt_13, l13_lt, nle_13, l13_le, neq_13, nadd_13, nmul_13, nmul'_13, nadd'_13, nsub_13, nlt_20, l20_lt, nle_20, l20_le, neq_20, nadd_20, nmul_20, nmul'_20, nadd'_20, nsub_20, nlt_400, l400_lt, nle_400, l400_le, neq_400, nadd_400, nmul_400, nmul'_400, nadd'_400, nsub_400, rd_0, wr_0, rd_1, wr_1, rd_2, wr_2, rd_3, wr_3, rd_4, wr_4, rd_5, wr_5, rd_6, wr_6, rd_7, wr_7, rd_8, wr_8, rd_9, wr_9, rd_10, wr_10, rd_11, wr_11, rd_12, wr_12, a4]
      exact OK_some (m_held h hg hp)
    · rw [if_pos (by omega), if_neg c2, if_neg c1, m_isNearer h hpn hg hl, Option.bind_some]
      cases hne : nea y n r.1 g with
      | true =>
        rw [if_neg e01_t, if_pos rfl]
        exact OK_some ⟨h, FrM_refl M⟩
      | false =>
        rw [if_pos e01_f, if_neg (by decide)]
        refine OK_bind (m_stepsOf h hx hm hv hpn hy hg hp) fun z hz => ?_
        rw [hz.1]
        have hs9 : stp y φ n yr (dr || flo y yr) r.1 g l c ≤ 9 := by
          unfold stp
          unfold RM at hm
          cases φ with
          | none => simp only; split <;> omega
          | some f => exact hm.2.1 _
        refine OK_imp (m_runs (dr := dr) hv hg (by omega) _ 0 FUEL r z.2 (Nat.zero_add _) (by rw [FUEL_eq]; omega) (MR_EqM h hz.2) (MX_Fr hx hv (FrM_EqM hz.2)) c1 hl) fun M' hM' => ⟨hM'.1, FrM_trans (FrM_EqM hz.2) hM'.2⟩
