/-! ===== dug ===== -/
/-- a yard empty but for roots -/
def bare (y : Yd) (k : Nat) : Yd := (y_L y, y_C y, 0, y_t y, (fun _ => none), (fun _ => false), y_r y, 0, y_fy y, k)
theorem runs_nr (y : Yd) (n yr g i j : Nat) : ∀ (k : Nat) (r : R), runs (bare y i) n yr g k r = runs (bare y j) n yr g k r
  | 0, r => rfl
  | k + 1, r => by
    rw [runs, runs]
    rw [show goS (bare y i) n yr r g = goS (bare y j) n yr r g from rfl, runs_nr y n yr g i j k]
theorem trn_nr (y : Yd) (φ : Option (List Int64 → Nat)) (n yr : Nat) (fl : Bool) (r : R) (g i j : Nat) : trn (bare y i) φ n yr fl r g = trn (bare y j) φ n yr fl r g := by
  unfold trn
  cases h : (r.1 g).1 with
  | none => rfl
  | some p =>
    obtain ⟨l, c⟩ := p
    simp only
    rw [runs_nr y n yr g i j]
    rfl
theorem yB_nr (y : Yd) (φ : Option (List Int64 → Nat)) (n yr : Nat) (fl : Bool) (b : Nat → B) (i j : Nat) : yB (bare y i) φ n yr fl b = yB (bare y j) φ n yr fl b := by
  unfold yB yea
  rw [show trn (bare y i) φ n yr fl = trn (bare y j) φ n yr fl from funext fun r => funext fun g => trn_nr y φ n yr fl r g i j]
theorem VY_bare {y : Yd} (h : VY y) {k : Nat} (hk : k ≤ 6) : VY (bare y k) := by
  obtain ⟨h1, h2, h3, h4, h5, h6, h7, h8, h9, h10, h11, h12⟩ := h
  exact ⟨h1, h2, Nat.zero_le _, Nat.zero_le _, hk, fun k hk => absurd hk (Nat.not_lt_zero _), h7, fun g h e => (by cases e), fun g hg => absurd hg (Nat.not_lt_zero _), fun g h hg => absurd hg (Nat.not_lt_zero _), fun g e => (by cases e), h12⟩
/-- one alone stays in its lane -/
def Ln (l : Nat) (b : Nat → B) : Prop := ∀ p, (b 0).1 = some p → p.1 = l
theorem Ln_goS {y : Yd} {yr l : Nat} {r : R} (h : Ln l r.1) : Ln l (goS y 1 yr r 0).2.1 := by
  unfold goS
  cases h0 : (r.1 0).1 with
  | none => exact h
  | some p =>
    have hp := h p h0
    obtain ⟨l0, c⟩ := p
    have e : l0 = l := hp
    subst e
    cases c with
    | zero =>
      intro p hp'
      have : (bup r.1 0 (none, (r.1 0).2.1, 0, i32 yr, (r.1 0).2.2.2.2.1, (r.1 0).2.2.2.2.2) 0).1 = some p := hp'
      rw [bup_e] at this
      cases this
    | succ c =>
      simp only
      cases h1 : grv 1 r.1 l0 c with
      | none =>
        intro p hp'
        have : (bup r.1 0 (comB (y_r y l0 c) l0 c 0 (r.1 0)) 0).1 = some p := hp'
        rw [bup_e] at this
        rw [← Option.some.inj this]
      | some o =>
        obtain ⟨o1, o2⟩ := grv_some h1
        have o0 : o = 0 := by omega
        rw [o0, h0] at o2
        have := congrArg Prod.snd (Option.some.inj o2)
        simp only at this
        omega
theorem Ln_runs {y : Yd} {yr l : Nat} : ∀ (k : Nat) (r : R), Ln l r.1 → Ln l (runs y 1 yr 0 k r).1
  | 0, r, h => h
  | k + 1, r, h => by
    rw [runs]
    split
    · exact Ln_runs k _ (Ln_goS h)
    · exact Ln_goS h
theorem Ln_trn {y : Yd} {φ : Option (List Int64 → Nat)} {yr l : Nat} {fl : Bool} {r : R} (h : Ln l r.1) : Ln l (trn y φ 1 yr fl r 0).1 := by
  unfold trn
  cases h0 : (r.1 0).1 with
  | none => exact h
  | some p =>
    obtain ⟨l0, c⟩ := p
    simp only
    split
    · intro p hp'
      have : (bup r.1 0 (hldB (r.1 0)) 0).1 = some p := hp'
      rw [bup_e] at this
      exact h p this
    · split
      · exact h
      · split
        · exact h
        · exact Ln_runs _ _ h
theorem Ln_trns {y : Yd} {φ : Option (List Int64 → Nat)} {yr l : Nat} {fl : Bool} : ∀ (Q : List Nat) (r : R), Ln l r.1 → (∀ a, a ∈ Q → a < 1) → Ln l (Q.foldl (trn y φ 1 yr fl) r).1
  | [], r, h, _ => h
  | a :: Q, r, h, hq => by
    have ha : a = 0 := by have := hq a List.mem_cons_self; omega
    subst ha
    exact Ln_trns Q _ (Ln_trn h) fun x hx => hq x (List.mem_cons_of_mem _ hx)
theorem Ln_yB {y : Yd} {φ : Option (List Int64 → Nat)} {yr l : Nat} {b : Nat → B} (h : Ln l b) : Ln l (yB y φ 1 yr false b) := by
  unfold yB yea
  exact Ln_trns (ord b 1) (b, []) h fun a ha => (ord_mem.mp ha).1
def dgU (c n : Nat) (b : Nat → B) (q : Nat × Int32 × Int32) : Nat × Int32 × Int32 := if eC (b 0).1 = i32 c then (q.1 + 1, if q.1 = 0 then i32 n else q.2.1, i32 n) else q
def dgF (y : Yd) (φ : Option (List Int64 → Nat)) (c : Nat) : Nat → Nat → (Nat → B) → Nat × Int32 × Int32 → Nat × Int32 × Int32
  | 0, _, _, q => q
  | k + 1, n, b, q => dgF y φ c k (n + 1) (yB (bare y 0) φ 1 n false b) (dgU c n b q)
def dgA (w : Nat) (q : Nat × Int32 × Int32) : Int32 := if w = 0 then i32 q.1 else if w = 1 then q.2.1 else q.2.2
theorem flo_bare (y : Yd) (k yr : Nat) : flo (bare y k) yr = false := rfl
theorem c_dug113 {y : Yd} {Yp : Nat} {ru : Option Nat} {φ : Option (List Int64 → Nat)} {c w : Nat} {x1 x2 : Int32} (hw : w ≤ 2) (hc : c < 20) : ∀ (k n f : Nat) (b : Nat → B) (q : Nat × Int32 × Int32) (M : mM), n + k = 41 → k < f → q.1 ≤ n → CQe (bare y 0) Yp ru φ 1 n b M → OK (f_GraveRails_dug_113 x1 x2 (i32 c) (i32 w) f (i32 q.1) q.2.1 q.2.2 (i32 n) M) fun z => z.1 = dgA w (dgF y φ c k n b q) ∧ FrY M z.2
  | _, _, 0, _, _, _, _, hf, _, _ => absurd hf (Nat.not_lt_zero _)
  | 0, n, f + 1, b, q, M, hn, hf, hq, h => by
    unfold f_GraveRails_dug_113
    simp (disch := omega) only [i32_lt, i32_le, i32_eq, i32_add, i32_mul, i32_neg, i32_nn, i32_ne1, i32_n1e, n1_lt_i32, i32_le_n1, i32_dec, i32_cl, rd_i32, ix_i32, wr_i32, pI_s, pR_s, pC_s, pZ_0, pZ_1, Option.bind_some, ite_true, ite_false, if_true, if_false, gIL, gRI, nlt_0, l0_lt, nle_0, l0_le, neq_0, nadd_0, nmul_0, nmul'_0, nadd'_0, nsub_0, nlt_1, l1_lt, nle_1, l1_le, neq_1, nadd_1, nmul_1, nmul'_1, nadd'_1, nsub_1, nlt_2, l2_lt, nle_2, l2_le, neq_2, nadd_2, nmul_2, nmul'_2, nadd'_2, nsub_2, nlt_3, l3_lt, nle_3, l3_le, neq_3, nadd_3, nmul_3, nmul'_3, nadd'_3, nsub_3, nlt_4, l4_lt, nle_4, l4_le, neq_4, nadd_4, nmul_4, nmul'_4, nadd'_4, nsub_4, nlt_5, l5_lt, nle_5, l5_le, neq_5, nadd_5, nmul_5, nmul'_5, nadd'_5, nsub_5, nlt_6, l6_lt, nle_6, l6_le, neq_6, nadd_6, nmul_6, nmul'_6, nadd'_6, nsub_6, nlt_7, l7_lt, nle_7, l7_le, neq_7, nadd_7, nmul_7, nmul'_7, nadd'_7, nsub_7, nlt_8, l8_lt, nle_8, l8_le, neq_8, nadd_8, nmul_8, nmul'_8, nadd'_8, nsub_8, nlt_9, l9_lt, nle_9, l9_le, neq_9, nadd_9, nmul_9, nmul'_9, nadd'_9, nsub_9, nlt_10, l10_lt, nle_10, l10_le, neq_10, nadd_10, nmul_10, nmul'_10, nadd'_10, nsub_10, nlt_11, l11_lt, nle_11, l11_le, neq_11, nadd_11, nmul_11, nmul'_11, nadd'_11, nsub_11, nlt_12, l12_lt, nle_12, l12_le, neq_12, nadd_12, nmul_12, nmul'_12, nadd'_12, nsub_12, nlt_13, l13_lt, nle_13, l13_le, neq_13, nadd_13, nmul_13, nmul'_13, nadd'_13, nsub_13, nlt_20, l20_lt, nle_20, l20_le, neq_20, nadd_20, nmul_20, nmul'_20, nadd'_20, nsub_20, nlt_400, l400_lt, nle_400, l400_le, neq_400, nadd_400, nmul_400, nmul'_400, nadd'_400, nsub_400, rd_0, wr_0, rd_1, wr_1, rd_2, wr_2, rd_3, wr_3, rd_4, wr_4, rd_5, wr_5, rd_6, wr_6, rd_7, wr_7, rd_8, wr_8, rd_9, wr_9, rd_10, wr_10, rd_11, wr_11, rd_12, wr_12, nlt_40, l40_lt, nle_40, l40_le, neq_40, nadd_40, nmul_40, nmul'_40, nadd'_40, nsub_40]
    rw [if_pos (by omega)]
    unfold dgA
    by_cases w0 : w = 0
    · rw [if_pos w0, if_pos w0]
      exact OK_some ⟨rfl, FrY_refl M⟩
    · rw [if_neg w0, if_neg w0]
      by_cases w1 : w = 1
      · rw [if_pos w1, if_pos w1]
        exact OK_some ⟨rfl, FrY_refl M⟩
      · rw [if_neg w1, if_neg w1]
        exact OK_some ⟨rfl, FrY_refl M⟩
  | k + 1, n, f + 1, b, q, M, hn, hf, hq, h => by
    have a2 := (h.1.choose_spec.choose_spec.2.1.1.2.2.2.2 0 (by omega)).2.1
    simp only [Nat.reduceAdd] at a2
    have e249 : M.2.1 249 0 = eC (b 0).1 := a2
    have step : ∀ q' : Nat × Int32 × Int32, q' = dgU c n b q → OK ((f_Course_goYear M).bind fun M17 => f_GraveRails_dug_113 x1 x2 (i32 c) (i32 w) f (i32 q'.1) q'.2.1 q'.2.2 (i32 (n + 1)) M17) fun z => z.1 = dgA w (dgF y φ c (k + 1) n b q) ∧ FrY M z.2 := by
      intro q' hq'
      refine OK_bind (CQe_year h (by omega)) fun M1 h1 => ?_
      rw [flo_bare] at h1
      refine OK_imp (c_dug113 hw hc k (n + 1) f _ q' M1 (by omega) (by omega) ?_ h1.1) fun z hz => ⟨?_, FrY_trans h1.2 hz.2⟩
      · rw [hq']
        unfold dgU
        split
        · show q.1 + 1 ≤ n + 1
          omega
        · omega
      · rw [hz.1, dgF, hq']
    unfold f_GraveRails_dug_113 f_GraveRails_dug_152 f_GraveRails_dug_158
    rw [if_neg (by rw [show (40 : Int32) = i32 40 from rfl, i32_lt (by omega) (by omega)]; omega), rd_0 (by omega) (by omega), Option.bind_some, e249]
    simp only [nadd_1]
    by_cases q1 : eC (b 0).1 = i32 c
    · rw [if_pos q1]
      have e := step (q.1 + 1, if q.1 = 0 then i32 n else q.2.1, i32 n) (by unfold dgU; rw [if_pos q1])
      by_cases q0 : q.1 = 0
      · rw [if_pos (show i32 (q.1 + 1) = 1 by rw [q0]; rfl)]
        rw [if_pos q0] at e
        exact e
      · rw [if_neg (show ¬ i32 (q.1 + 1) = 1 from fun z => by rw [neq_1 (by omega)] at z; omega)]
        rw [if_neg q0] at e
        exact e
    · rw [if_neg q1]
      exact step q (by unfold dgU; rw [if_neg q1])
theorem m_dug99 {y : Yd} {φ : Option (List Int64 → Nat)} {l c w kk : Nat} {fl : Int32} {x1 : Int32} {M0 M1 : mM} (hK : Kp M0 M1) (h6 : M0.2.1 446 6 = fl) (hw : w ≤ 2) (hl : l < 4) (hc : c < 20) : ∀ (k n f : Nat) (b : Nat → B) (q : Nat × Int32 × Int32) (M : mM), n + k = 41 → k < f → q.1 ≤ n → Ln l b → MYr (bare y kk) φ 1 n b false M → FrL M1 M → M.2.1 436 26 = 0 → OK (f_Model_dug_99 x1 (i32 l) (i32 c) (i32 w) f fl (i32 q.1) q.2.1 q.2.2 (i32 n) M) fun z => z.1 = dgA w (dgF y φ c k n b q) ∧ FrB M0 z.2 ∧ z.2.2.1 436 26 = 0
  | _, _, 0, _, _, _, _, hf, _, _, _, _, _ => absurd hf (Nat.not_lt_zero _)
  | 0, n, f + 1, b, q, M, hn, hf, hq, hL, h, hF, h26 => by
    unfold f_Model_dug_99
    rw [if_pos (by rw [show (40 : Int32) = i32 40 from rfl, i32_lt (by omega) (by omega)]; omega)]
    refine OK_bind (m_lay hK hF) fun M3 h3 => ?_
    obtain ⟨⟨b1, b2, b3⟩, h4, h5, h7⟩ := h3
    simp (disch := omega) only [wr_6, Option.bind_some, neq_0, neq_1]
    have hB : FrB M0 (msI M3 446 6 fl) := by
      refine ⟨fun p a1 a2 a3 a4 a5 a6 => ?_, fun i hi => by rw [gIp (by omega)]; exact b2 i hi, b3⟩
      by_cases cp : p = 446
      · rw [cp]
        funext i
        by_cases ci : i = 6
        · rw [ci, gIe, h6]
        · rw [gIo ci, b1 446 (by omega) (by omega) (by omega) (by omega) (by omega) (by omega)]
      · rw [gIp cp]; exact b1 p a1 a2 a3 a4 a5 a6
    have h26' : (msI M3 446 6 fl).2.1 436 26 = 0 := by rw [gIp (by omega), h4]; exact h26
    unfold dgA
    by_cases w0 : w = 0
    · rw [if_pos w0, if_pos w0]
      exact OK_some ⟨rfl, hB, h26'⟩
    · rw [if_neg w0, if_neg w0]
      by_cases w1 : w = 1
      · rw [if_pos w1, if_pos w1]
        exact OK_some ⟨rfl, hB, h26'⟩
      · rw [if_neg w1, if_neg w1]
        exact OK_some ⟨rfl, hB, h26'⟩
  | k + 1, n, f + 1, b, q, M, hn, hf, hq, hL, h, hF, h26 => by
    obtain ⟨a1, a2, a3⟩ := (h.2.2.2.1.2.2.2.2.2 0 (by omega)).1
    have hV := h.2.2.2.2.1
    have step : ∀ q' : Nat × Int32 × Int32, q' = dgU c n b q → OK ((f_Model_passes M).bind fun r21 => f_Model_dug_99 x1 (i32 l) (i32 c) (i32 w) f fl (i32 q'.1) q'.2.1 q'.2.2 (i32 (n + 1)) r21.2) fun z => z.1 = dgA w (dgF y φ c (k + 1) n b q) ∧ FrB M0 z.2 ∧ z.2.2.1 436 26 = 0 := by
      intro q' hq'
      refine OK_bind (MYr_step h (by omega)) fun z1 h1 => ?_
      rw [flo_bare, yB_nr y φ 1 n false b kk 0] at h1
      refine OK_imp (m_dug99 hK h6 hw hl hc k (n + 1) f _ q' z1.2 (by omega) (by omega) ?_ (Ln_yB hL) h1.1 (FrL_trans hF h1.2.1) h1.2.2) fun z hz => ⟨?_, hz.2⟩
      · rw [hq']
        unfold dgU
        split
        · show q.1 + 1 ≤ n + 1
          omega
        · omega
      · rw [hz.1, dgF, hq']
    unfold f_Model_dug_99 f_Model_dug_138 f_Model_dug_147
    rw [if_neg (by rw [show (40 : Int32) = i32 40 from rfl, i32_lt (by omega) (by omega)]; omega)]
    rw [show f_Model_graveOf 0 0 M = _ from m_g0 (g := 0) (by omega), Option.bind_some]
    dsimp only
    rw [show f_Model_graveOf 0 1 M = _ from m_g1 (g := 0) (by omega), Option.bind_some]
    dsimp only
    rw [a1, a2]
    simp only [nadd_1]
    by_cases q1 : eC (b 0).1 = i32 c
    · have hb : (b 0).1 ≠ none := by
        intro z
        rw [z] at q1
        exact (i32_n1e (by omega)).mp q1
      obtain ⟨p, hp⟩ := Option.ne_none_iff_exists'.mp hb
      have hpl := hL p hp
      rw [if_pos (show eL (b 0).1 = i32 l by rw [hp, ← hpl]; rfl), if_pos q1]
      have e := step (q.1 + 1, if q.1 = 0 then i32 n else q.2.1, i32 n) (by unfold dgU; rw [if_pos q1])
      by_cases q0 : q.1 = 0
      · rw [if_pos (show i32 q.1 = 0 by rw [q0]; rfl)]
        rw [if_pos q0] at e
        exact e
      · rw [if_neg (show ¬ i32 q.1 = 0 from fun z => q0 ((neq_0 (by omega)).mp z))]
        rw [if_neg q0] at e
        exact e
    · have e := step q (by unfold dgU; rw [if_neg q1])
      by_cases q2 : eL (b 0).1 = i32 l
      · rw [if_pos q2, if_neg q1]
        exact e
      · rw [if_neg q2]
        exact e
