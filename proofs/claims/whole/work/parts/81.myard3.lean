/-! ===== a yard is read: the model, all of it ===== -/
def FrW (M M' : mM) : Prop := M'.2.2 = M.2.2 ∧ (∀ p, p ≠ 436 → p ≠ 442 → M'.2.1 p = M.2.1 p) ∧ ∀ i, i ≠ 8 → i ≠ 9 → i ≠ 10 → i ≠ 14 → M'.2.1 436 i = M.2.1 436 i
theorem FrW_refl (M : mM) : FrW M M := ⟨rfl, fun _ _ _ => rfl, fun _ _ _ _ _ => rfl⟩
theorem FrW_trans {M M' M'' : mM} (h : FrW M M') (h' : FrW M' M'') : FrW M M'' := ⟨h'.1.trans h.1, fun p a b => (h'.2.1 p a b).trans (h.2.1 p a b), fun i a b c d => (h'.2.2 i a b c d).trans (h.2.2 i a b c d)⟩
theorem FrV_W {M M' : mM} (h : FrV M M') : FrW M M' := ⟨h.1, h.2.1, fun i a b c _ => h.2.2 i a b c⟩
theorem bz01 {o : Option (Int32 × mM)} {Q : Int32 × mM → Prop} (h : OK o fun z => (z.1 = 0 ∨ z.1 = 1) ∧ Q z) : OK (o.bind fun r => if r.1 = 0 ∨ r.1 = 1 then some (r.1, r.2) else none) Q := by
  obtain ⟨a, e, h1, h2⟩ := h
  subst e
  rw [Option.bind_some, if_pos h1]
  exact OK_some h2
theorem RsM_01 {t : Tp} {r : Except Nat (Nat × YS)} {z : Int32 × mM} (h : RsM t r z) : z.1 = 0 ∨ z.1 = 1 := by
  cases r with
  | error w => exact Or.inl h.1
  | ok q => exact Or.inr h.1
theorem bzV {t : Tp} {o : Option (Int32 × mM)} {r : Except Nat (Nat × YS)} {M : mM} (h : OK o fun z => FrV M z.2 ∧ RsM t r z) : OK (o.bind fun r => if r.1 = 0 ∨ r.1 = 1 then some (r.1, r.2) else none) fun z => FrV M z.2 ∧ RsM t r z := bz01 (OK_imp h fun z hz => ⟨RsM_01 hz.2, hz⟩)
theorem m_failV {t : Tp} (ht : t.1 ≤ 400) {p q k : Nat} {M0 M : mM} (f : FrV M0 M) (h : MTk t p M) (hq : q ≤ t.1) (hk : k ≤ 4) : OK ((f_Model_fails (i32 k) (i32 q) M).bind fun r => if r.1 = 0 ∨ r.1 = 1 then some (r.1, r.2) else none) fun z => FrV M0 z.2 ∧ RsM t (.error (flt q k)) z :=
  bz0 (OK_imp (m_fails ht h hq hk) fun z hz => ⟨hz.1, FrV_trans f (FrZ_V hz.2.2), rfl, hz.2.1⟩)
theorem my_line {t : Tp} (ht : t.1 ≤ 400) {p i : Nat} {s : YS} {M : mM} (hw : ¬ isw t 0 p = -1) (hi : i < 40) (hs : VYS s) (h0 : i = 0 → s.1 = yNil) (hL : i ≠ 0 → 0 < y_L s.1) (hM : MTk t (skp t p) M) (hR : RD s (M.2.1 442)) : OK (f_Model_yardLineHere (i32 (skp t p)) M) fun z => FrV M z.2 ∧ RsM t (sClause t p i s) z := by
  have hv := hs.1
  have v1 := hv.1
  have v3 := hv.2.2.1
  have v4 := hv.2.2.2.1
  have v5 := hv.2.2.2.2.1
  have hq := hM.2.2.2
  have sk := skp_skp t p
  have bad : (40 ≤ i ∨ ¬ (isw t 0 p = 0 ↔ i = 0) ∨ sFull s.1 (isw t 0 p) = true) → sClause t p i s = .error (flt (skp t p) 4) := by
    intro hb
    unfold sClause
    rw [if_neg hw, if_pos hb]
  have er0 : (isw t 0 p = 0 ↔ i = 0) → sFull s.1 (isw t 0 p) = false → sClause t p i s = if isw t 0 p = 0 then sSize t (nxp t p) s else if isw t 0 p = 1 then sGrave t (nxp t p) s else if isw t 0 p = 2 then sPair t (nxp t p) s else if isw t 0 p = 3 then sRoot t (nxp t p) s else if isw t 0 p = 4 then sHeavy t (nxp t p) s else sFlood t (nxp t p) s := by
    intro c3 c4
    unfold sClause
    rw [if_neg hw, if_neg (by rintro (z | z | z); omega; exact z c3; rw [c4] at z; exact Bool.false_ne_true z)]
  have hI := isw0_eq t p
  unfold f_Model_yardLineHere
  refine OK_bind (m_isWordq ht sk hM w_yard pw_yard) fun z1 h1 => ?_
  obtain ⟨e1, m1, f1⟩ := h1
  have f1' := Fr8_V f1
  have r1 : z1.2.2.1 442 = M.2.1 442 := f1.2.1 442 (by omega)
  cases c0 : eqF t (wdE t (skp t p)) (skp t p) w_yard with
  | true =>
    rw [c0, if_pos (rfl : true = true)] at hI
    rw [c0] at e1
    rw [e1, if_neg (show ¬ e01 true = 0 by decide)]
    by_cases ci : i = 0
    · rw [er0 (by rw [hI]; exact ⟨fun _ => ci, fun _ => rfl⟩) (by rw [hI]; rfl), hI, if_pos rfl]
      exact bzV (OK_imp (my_size ht hw (h0 ci) m1 (by rw [r1]; exact hR)) fun z hz => ⟨FrV_trans f1' hz.1, hz.2⟩)
    · have hL' := hL ci
      rw [bad (Or.inr (Or.inl (by rw [hI]; exact fun z => ci (z.mp rfl))))]
      unfold f_Model_isYardHere
      rw [rd_0 (by omega) (by omega), Option.bind_some, r1, hR.1, if_neg (by rw [show (0 : Int32) = i32 0 from rfl, i32_le (by omega) (by omega)]; omega)]
      refine bz01 (OK_imp (m_failV ht (q := skp t p) (k := 4) f1' m1 hq (by omega)) fun z hz => ⟨RsM_01 hz.2, hz⟩)
  | false =>
  rw [c0, if_neg Bool.false_ne_true] at hI
  rw [c0] at e1
  rw [e1, if_pos (show e01 false = 0 from rfl), rd_0 (by omega) (by omega), Option.bind_some, r1, hR.1]
  have n0 : ¬ isw t 0 p = 0 := by
    rw [hI]
    repeat' split
    all_goals decide
  by_cases ci : i = 0
  · have hL0 : y_L s.1 = 0 := by rw [h0 ci]; rfl
    rw [if_pos (by rw [hL0]; rfl), bad (Or.inr (Or.inl fun z => n0 (z.mpr ci)))]
    exact m_failV ht (k := 4) f1' m1 hq (by omega)
  have hL' := hL ci
  have c3 : isw t 0 p = 0 ↔ i = 0 := ⟨fun z => absurd z n0, fun z => absurd z ci⟩
  rw [if_neg (by rw [neq_0 (by omega)]; omega)]
  refine OK_bind (m_isWordq ht sk m1 w_grave pw_grave) fun z5 h5 => ?_
  obtain ⟨e5, m5, f5⟩ := h5
  have f5' := FrV_trans f1' (Fr8_V f5)
  have r5 : z5.2.2.1 442 = M.2.1 442 := (f5.2.1 442 (by omega)).trans r1
  cases c1 : eqF t (wdE t (skp t p)) (skp t p) w_grave with
  | true =>
    rw [c1, if_pos (rfl : true = true)] at hI
    rw [c1] at e5
    rw [e5, if_neg (show ¬ e01 true = 0 by decide)]
    by_cases cm : y_m s.1 = 10
    · rw [bad (Or.inr (Or.inr (by rw [hI]; unfold sFull; rw [decide_eq_true (show (10 : Nat) ≤ y_m s.1 by omega)]; rfl)))]
      unfold f_Model_isGraveHere
      rw [rd_2 (by omega) (by omega), Option.bind_some, r5, hR.2.2.1, if_pos (by rw [cm]; rfl)]
      exact bz01 (OK_imp (m_failV ht (q := skp t p) (k := 4) f5' m5 hq (by omega)) fun z hz => ⟨RsM_01 hz.2, hz⟩)
    · rw [er0 c3 (by rw [hI]; unfold sFull; rw [decide_eq_false (show ¬ (10 : Nat) ≤ y_m s.1 by omega)]; rfl), hI, if_neg (by decide), if_pos rfl]
      exact bzV (OK_imp (my_grave ht hw hv (by omega) m5 (by rw [r5]; exact hR)) fun z hz => ⟨FrV_trans f5' hz.1, hz.2⟩)
  | false =>
  rw [c1, if_neg Bool.false_ne_true] at hI
  rw [c1] at e5
  rw [e5, if_pos (show e01 false = 0 from rfl)]
  refine OK_bind (m_isWordq ht sk m5 w_pair pw_pair) fun z7 h7 => ?_
  obtain ⟨e7, m7, f7⟩ := h7
  have f7' := FrV_trans f5' (Fr8_V f7)
  have r7 : z7.2.2.1 442 = M.2.1 442 := (f7.2.1 442 (by omega)).trans r5
  cases c2 : eqF t (wdE t (skp t p)) (skp t p) w_pair with
  | true =>
    rw [c2, if_pos (rfl : true = true)] at hI
    rw [c2] at e7
    rw [e7, if_neg (show ¬ e01 true = 0 by decide), er0 c3 (by rw [hI]; rfl), hI, if_neg (by decide), if_neg (by decide), if_pos rfl]
    exact bzV (OK_imp (my_pair ht hw hv m7 (by rw [r7]; exact hR)) fun z hz => ⟨FrV_trans f7' hz.1, hz.2⟩)
  | false =>
  rw [c2, if_neg Bool.false_ne_true] at hI
  rw [c2] at e7
  rw [e7, if_pos (show e01 false = 0 from rfl)]
  refine OK_bind (m_isWordq ht sk m7 w_root pw_root) fun z9 h9 => ?_
  obtain ⟨e9, m9, f9⟩ := h9
  have f9' := FrV_trans f7' (Fr8_V f9)
  have r9 : z9.2.2.1 442 = M.2.1 442 := (f9.2.1 442 (by omega)).trans r7
  cases c4 : eqF t (wdE t (skp t p)) (skp t p) w_root with
  | true =>
    rw [c4, if_pos (rfl : true = true)] at hI
    rw [c4] at e9
    rw [e9, if_neg (show ¬ e01 true = 0 by decide)]
    by_cases cm : y_nr s.1 = 6
    · rw [bad (Or.inr (Or.inr (by rw [hI]; unfold sFull; rw [decide_eq_true (show (6 : Nat) ≤ y_nr s.1 by omega)]; simp)))]
      unfold f_Model_isRootHere
      rw [rd_5 (by omega) (by omega), Option.bind_some, r9, hR.2.2.2.2.1, if_pos (by rw [cm]; rfl)]
      exact bz01 (OK_imp (m_failV ht (q := skp t p) (k := 4) f9' m9 hq (by omega)) fun z hz => ⟨RsM_01 hz.2, hz⟩)
    · rw [er0 c3 (by rw [hI]; unfold sFull; rw [decide_eq_false (show ¬ (6 : Nat) ≤ y_nr s.1 by omega)]; rfl), hI, if_neg (by decide), if_neg (by decide), if_neg (by decide), if_pos rfl]
      exact bzV (OK_imp (my_root ht hw hs (by omega) m9 (by rw [r9]; exact hR)) fun z hz => ⟨FrV_trans f9' hz.1, hz.2⟩)
  | false =>
  rw [c4, if_neg Bool.false_ne_true] at hI
  rw [c4] at e9
  rw [e9, if_pos (show e01 false = 0 from rfl)]
  refine OK_bind (m_isWordq ht sk m9 w_heavy pw_heavy) fun z11 h11 => ?_
  obtain ⟨e11, m11, f11⟩ := h11
  have f11' := FrV_trans f9' (Fr8_V f11)
  have r11 : z11.2.2.1 442 = M.2.1 442 := (f11.2.1 442 (by omega)).trans r9
  cases c5 : eqF t (wdE t (skp t p)) (skp t p) w_heavy with
  | true =>
    rw [c5, if_pos (rfl : true = true)] at hI
    rw [c5] at e11
    rw [e11, if_neg (show ¬ e01 true = 0 by decide), er0 c3 (by rw [hI]; rfl), hI, if_neg (by decide), if_neg (by decide), if_neg (by decide), if_neg (by decide), if_pos rfl]
    exact bzV (OK_imp (my_heavy ht hw hv m11 (by rw [r11]; exact hR)) fun z hz => ⟨FrV_trans f11' hz.1, hz.2⟩)
  | false =>
  rw [c5, if_neg Bool.false_ne_true] at hI
  rw [c5] at e11
  rw [e11, if_pos (show e01 false = 0 from rfl)]
  have hI' : isw t 0 p = 5 := by
    cases c6 : eqF t (wdE t (skp t p)) (skp t p) w_flood with
    | true => rw [c6, if_pos (rfl : true = true)] at hI; exact hI
    | false => rw [c6, if_neg Bool.false_ne_true] at hI; exact absurd hI hw
  by_cases cm : y_nf s.1 = 6
  · rw [bad (Or.inr (Or.inr (by rw [hI']; unfold sFull; rw [decide_eq_true (show (6 : Nat) ≤ y_nf s.1 by omega)]; simp)))]
    unfold f_Model_isFloodHere
    rw [rd_6 (by omega) (by omega), Option.bind_some, r11, hR.2.2.2.2.2.1, if_pos (by rw [cm]; rfl)]
    exact bz01 (OK_imp (m_failV ht (q := skp t p) (k := 4) f11' m11 hq (by omega)) fun z hz => ⟨RsM_01 hz.2, hz⟩)
  · rw [er0 c3 (by rw [hI']; unfold sFull; rw [decide_eq_false (show ¬ (6 : Nat) ≤ y_nf s.1 by omega)]; rfl), hI', if_neg (by decide), if_neg (by decide), if_neg (by decide), if_neg (by decide), if_neg (by decide)]
    exact bzV (OK_imp (my_flood ht hw hv (by omega) m11 (by rw [r11]; exact hR)) fun z hz => ⟨FrV_trans f11' hz.1, hz.2⟩)
theorem my_clause {t : Tp} (ht : t.1 ≤ 400) {p i : Nat} {s : YS} {M : mM} (hi : i ≤ 40) (hs : VYS s) (h0 : i = 0 → s.1 = yNil) (hL : i ≠ 0 → 0 < y_L s.1) (hM : MTk t p M) (hR : RD s (M.2.1 442)) (h11 : M.2.1 436 11 = 6) (h14 : M.2.1 436 14 = i32 i) : OK (f_Model_clauseHere M) fun z => FrW M z.2 ∧ RsM t (sClause t p i s) z ∧ ((∃ q, sClause t p i s = .ok q) → z.2.2.1 436 14 = i32 (i + 1)) := by
  unfold f_Model_clauseHere
  refine OK_bind (m_see ht hM) fun z1 h1 => ?_
  obtain ⟨-, m1, f1⟩ := h1
  have r1 : z1.2.2.1 442 = M.2.1 442 := f1.2.1 442 (by omega)
  have hq := m1.2.2.2
  rw [f1.2.2 11 (by omega), h11, if_pos rfl, m1.2.1]
  unfold f_Model_clauseHere_24
  rw [if_neg (by decide)]
  refine OK_bind (m_isYardWord ht m1) fun z18 h18 => ?_
  obtain ⟨e18, m18, f18⟩ := h18
  have f18' := FrV_trans (Fr8_V f1) (Fr8_V f18)
  have r18 : z18.2.2.1 442 = M.2.1 442 := (f18.2.1 442 (by omega)).trans r1
  by_cases hw : isw t 0 p = -1
  · have er : sClause t p i s = .error (flt (skp t p) 0) := by unfold sClause; rw [if_pos hw]
    rw [if_pos (e18.mpr hw), er]
    unfold f_Model_clauseHere_49
    exact OK_imp (m_failV ht (k := 0) f18' m18 hq (by omega)) fun z hz => ⟨FrV_W hz.1, hz.2, fun ⟨q, e⟩ => by cases e⟩
  · rw [if_neg (fun z => hw (e18.mp z))]
    unfold f_Model_clauseHere_56 f_Model_clauseHere_71
    rw [if_neg (by decide), f18.2.2 14 (by omega), f1.2.2 14 (by omega), h14]
    by_cases c : i = 40
    · have er : sClause t p i s = .error (flt (skp t p) 4) := by unfold sClause; rw [if_neg hw, if_pos (Or.inl (by omega))]
      rw [if_pos (by rw [c]; rfl), er]
      exact OK_imp (m_failV ht (k := 4) f18' m18 hq (by omega)) fun z hz => ⟨FrV_W hz.1, hz.2, fun ⟨q, e⟩ => by cases e⟩
    · rw [if_neg (by rw [show (40 : Int32) = i32 40 from rfl, i32_eq (by omega) (by omega)]; exact c), pI_s, Option.bind_some, if_neg (by decide), nadd_1]
      have m8 : MTk t (skp t p) (msI z18.2 436 14 (i32 (i + 1))) := by
        obtain ⟨x0, x1, x2, x3⟩ := m18
        refine ⟨⟨?_, ?_⟩, ?_, ?_, x3⟩
        · rw [gIo (by omega)]; exact x0.1
        · rw [gIp (by omega)]; exact x0.2
        · rw [gIo (by omega)]; exact x1
        · rw [gIo (by omega)]; exact x2
      have f8 : FrW M (msI z18.2 436 14 (i32 (i + 1))) := FrW_trans (FrV_W f18') ⟨rfl, fun p a _ => gIp a, fun i _ _ _ a => gIo a⟩
      refine OK_imp (bzV (my_line ht hw (by omega) hs h0 hL m8 (by rw [gIp (by omega), r18]; exact hR))) fun z hz => ⟨FrW_trans f8 (FrV_W hz.1), hz.2, fun _ => by rw [hz.1.2.2 14 (by omega) (by omega) (by omega), gIe]⟩
def RsN (t : Tp) (r : Except Nat YS) (z : Int32 × mM) : Prop := match r with
  | .error w => z.1 = 0 ∧ z.2.2.1 436 9 = i32 w
  | .ok s => z.1 = 1 ∧ VYS s ∧ 0 < y_L s.1 ∧ RD s (z.2.2.1 442)
/-- the end of a reading -/
theorem m_end88 {t : Tp} {M : mM} (h : MP t M) : f_Model_readsAll_88 M = some (if M.2.1 436 9 = 0 then 1 else 0, msI M 436 1 0) := by
  unfold f_Model_readsAll_88
  rw [pI_s, Option.bind_some, gIo (by omega)]
  by_cases c : M.2.1 436 9 = 0
  · rw [if_pos c, if_pos c]
  · rw [if_neg c, if_neg c]
def FrYd (M M' : mM) : Prop := M'.2.2 = M.2.2 ∧ (∀ p, p ≠ 436 → p ≠ 442 → M'.2.1 p = M.2.1 p) ∧ (∀ i, i ≠ 1 → i ≠ 8 → i ≠ 9 → i ≠ 10 → i ≠ 14 → M'.2.1 436 i = M.2.1 436 i) ∧ M'.2.1 436 1 = 0
theorem FrYd_1 {M M' : mM} (h : FrW M M') : FrYd M (msI M' 436 1 0) := ⟨h.1, fun p a b => (gIp a).trans (h.2.1 p a b), fun i a b c d e => (gIo a).trans (h.2.2 i b c d e), gIe _ _ _ _⟩
theorem FrW_Yd {M M' M'' : mM} (h : FrW M M') (h' : FrYd M' M'') : FrYd M M'' := ⟨h'.1.trans h.1, fun p a b => (h'.2.1 p a b).trans (h.2.1 p a b), fun i a b c d e => (h'.2.2.1 i a b c d e).trans (h.2.2 i b c d e), h'.2.2.2⟩
theorem flt_pos {q k : Nat} : flt q k ≠ 0 := by unfold flt; omega
theorem m_fin {t : Tp} (ht : t.1 ≤ 400) (hT : OKT t) {p : Nat} {M : mM} (hM : MTk t p M) (h : ¬ sgn t p 59 = true) : OK (f_Model_readsAll_66 1 M) fun z => FrYd M z.2 ∧ z.2.2.1 442 = M.2.1 442 ∧ (knd t (skp t p) = 0 → z.1 = 1) ∧ (¬ knd t (skp t p) = 0 → z.1 = 0 ∧ z.2.2.1 436 9 = i32 (flt (skp t p) 0)) := by
  unfold f_Model_readsAll_66
  rw [if_neg (by decide)]
  refine OK_bind (m_see ht hM) fun z1 h1 => ?_
  obtain ⟨v1, m1, f1⟩ := h1
  by_cases c : knd t (skp t p) = 0
  · rw [if_pos (by rw [v1, byv_end hT]; exact c), m_end88 m1.1, if_pos m1.2.2.1]
    exact OK_some ⟨FrYd_1 (FrV_W (Fr8_V f1)), by rw [gIp (by omega)]; exact f1.2.1 442 (by omega), fun _ => rfl, fun z => absurd c z⟩
  · have hq := m1.2.2.2
    rw [if_neg (by rw [v1, byv_end hT]; exact c), m1.2.1]
    refine OK_bind (m_fails ht m1 (k := 0) hq (by omega)) fun z2 h2 => ?_
    rw [m_end88 h2.2.1.1, if_neg (by
      rw [h2.2.1.2.1, show (0 : Int32) = i32 0 from rfl, i32_eq (by unfold flt; omega) (by omega)]
      exact flt_pos)]
    exact OK_some ⟨FrYd_1 (FrV_W (FrV_trans (Fr8_V f1) (FrZ_V h2.2.2))), by rw [gIp (by omega)]; exact (h2.2.2.2.1 442 (by omega)).trans (f1.2.1 442 (by omega)), fun z => absurd z c, fun _ => ⟨rfl, by rw [gIo (by omega)]; exact h2.2.1.2.1⟩⟩
