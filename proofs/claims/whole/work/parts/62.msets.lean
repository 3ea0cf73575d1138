/-! ===== sets: the model ===== -/
def H5 (M0 M : mM) : Prop := (∀ i, i = 0 ∨ i = 1 ∨ i = 4 ∨ i = 5 ∨ i = 6 → M.2.1 446 i = M0.2.1 446 i) ∧ (∀ i, 131 ≤ i → M.2.1 446 i = M0.2.1 446 i)
theorem H5_refl (M : mM) : H5 M M := ⟨fun _ _ => rfl, fun _ _ => rfl⟩
theorem H5_trans {M M' M'' : mM} (h : H5 M M') (h' : H5 M' M'') : H5 M M'' := ⟨fun i hi => (h'.1 i hi).trans (h.1 i hi), fun i hi => (h'.2 i hi).trans (h.2 i hi)⟩
theorem H5_P {M M' : mM} (h : FrP M M') : H5 M M' := ⟨fun i hi => h.2.2.2.1 i (by omega), fun i hi => h.2.2.2.1 i (by omega)⟩
theorem m_opn4 {y : Yd} (hv : VY y) {M : mM} (h4 : M.2.1 446 4 = i32 (y_m y)) (hO : MO y (M.2.1 446)) : ∀ (k i f : Nat) (a : Int32), i + k = y_m y → k < f → f_Model_inQuestion_4 f a (i32 i) M = some (opnF y k i a, M)
  | _, _, 0, _, _, hf => absurd hf (Nat.not_lt_zero _)
  | 0, i, f + 1, a, hi, hf => by
    have v3 := hv.2.2.1
    unfold f_Model_inQuestion_4
    rw [rd_4 (by omega) (by omega), Option.bind_some, h4, if_pos (by rw [i32_le (by omega) (by omega)]; omega)]
    rfl
  | k + 1, i, f + 1, a, hi, hf => by
    have v3 := hv.2.2.1
    have hk3 := (hv.2.2.2.2.2.2.2.2.1 i (by omega)).2.2
    have e3 := (hO i (by omega)).2.2.1
    have ex : (186 : Int32) + 4 * i32 i + 2 = i32 (186 + 4 * i + 2) := by rw [nmul'_4, nadd'_186, nadd_2]
    unfold f_Model_inQuestion_4
    rw [rd_4 (by omega) (by omega), Option.bind_some, h4, if_neg (by rw [i32_le (by omega) (by omega)]; omega), ex, rd_i32 (by omega) (by omega), Option.bind_some, e3, opnF]
    unfold f_Model_inQuestion_50 f_Model_inQuestion_57
    simp only [nadd_1]
    by_cases q0 : (y_t y i).2.2 = 0
    · rw [if_pos (by rw [q0]; rfl), if_pos (Or.inl q0)]
      exact m_opn4 hv h4 hO k (i + 1) f _ (by omega) (by omega)
    · rw [if_neg (by rw [neq_0 (by omega)]; exact q0), Option.bind_some]
      by_cases q2 : (y_t y i).2.2 = 2
      · rw [if_pos (by rw [q2]; rfl), if_pos (Or.inr q2)]
        exact m_opn4 hv h4 hO k (i + 1) f _ (by omega) (by omega)
      · rw [if_neg (by rw [neq_2 (by omega)]; exact q2), if_neg (fun z => z.elim q0 q2)]
        exact m_opn4 hv h4 hO k (i + 1) f _ (by omega) (by omega)
theorem m_inQuestion {y : Yd} (hv : VY y) {M : mM} (h4 : M.2.1 446 4 = i32 (y_m y)) (hO : MO y (M.2.1 446)) : f_Model_inQuestion M = some (opn y, M) := by
  have v3 := hv.2.2.1
  exact m_opn4 hv h4 hO (y_m y) 0 FUEL 0 (Nat.zero_add _) (by rw [FUEL_eq]; omega)
theorem bit01 (x : Int32) : x &&& 1 = 0 ∨ x &&& 1 = 1 := by
  rw [← Int32.toBitVec_inj, ← Int32.toBitVec_inj, Int32.toBitVec_and]
  have h1 : (1 : Int32).toBitVec = 1#32 := rfl
  have h0 : (0 : Int32).toBitVec = 0#32 := rfl
  rw [h1, h0]
  cases hb : x.toBitVec.getLsbD 0 with
  | false =>
    refine Or.inl (BitVec.eq_of_getLsbD_eq fun i hi => ?_)
    rw [BitVec.getLsbD_and]
    cases i with
    | zero => rw [hb]; rfl
    | succ i => simp
  | true =>
    refine Or.inr (BitVec.eq_of_getLsbD_eq fun i hi => ?_)
    rw [BitVec.getLsbD_and]
    cases i with
    | zero => rw [hb]; rfl
    | succ i => simp
theorem m_isOf (x : Int32) (i : Nat) (M : mM) : f_Model_isOf x (i32 i) M = some (if ((x >>> (i32 i &&& 31)) &&& 1) = 0 then 0 else 1, M) := by
  unfold f_Model_isOf
  rcases bit01 (x >>> (i32 i &&& 31)) with h | h
  · rw [h, if_neg (by decide), if_pos rfl]
  · rw [h, if_pos rfl, if_neg (by decide)]
def tlT (y : Yd) : Nat → Option (Nat × Nat) := fun g => some ((y_t y g).1, (y_t y g).2.1)
theorem m_begins16 {y : Yd} {s : Int32} (hv : VY y) {M0 : mM} (h0 : M0.2.1 446 0 = i32 (y_L y)) (h1 : M0.2.1 446 1 = i32 (y_C y)) (h4 : M0.2.1 446 4 = i32 (y_m y)) (hO : MO y (M0.2.1 446)) : ∀ (k i f : Nat) (M : mM), i + k = y_m y → k < f → Sm 446 447 M0 M → H5 M0 M → MS y 0 i (bby y s) (M.2.1 446) → MT i (tlT y) (M.2.1 446) → MH (bar y) i (M.2.1 446) → OK (f_Model_beginsBy_16 s f (i32 i) M) fun M' => Sm 446 447 M0 M' ∧ H5 M0 M' ∧ MS y 0 (y_m y) (bby y s) (M'.2.1 446) ∧ MT (y_m y) (tlT y) (M'.2.1 446) ∧ MH (bar y) (y_m y) (M'.2.1 446)
  | _, _, 0, _, _, hf, _, _, _, _, _ => absurd hf (Nat.not_lt_zero _)
  | 0, i, f + 1, M, hi, hf, hS, h5, hM, hT, hH => by
    have v3 := hv.2.2.1
    unfold f_Model_beginsBy_16
    rw [rd_4 (by omega) (by omega), Option.bind_some, h5.1 4 (by omega), h4, if_pos (by rw [i32_le (by omega) (by omega)]; omega)]
    have : i = y_m y := by omega
    rw [← this]
    exact OK_some ⟨hS, h5, hM, hT, hH⟩
  | k + 1, i, f + 1, M, hi, hf, hS, h5, hM, hT, hH => by
    have v3 := hv.2.2.1
    have hO' : MO y (M.2.1 446) := fun g hg => by
      obtain ⟨a1, a2, a3, a4⟩ := hO g hg
      exact ⟨(h5.2 _ (by omega)).trans a1, (h5.2 _ (by omega)).trans a2, (h5.2 _ (by omega)).trans a3, (h5.2 _ (by omega)).trans a4⟩
    have h4' : M.2.1 446 4 = i32 (y_m y) := (h5.1 4 (by omega)).trans h4
    obtain ⟨o1, o2, o3, o4⟩ := hO' i (by omega)
    have ex : (186 : Int32) + 4 * i32 i = i32 (186 + 4 * i) := by rw [nmul'_4, nadd'_186]
    have go : ∀ kd : Nat, kby y s i = kd → OK (f_Model_beginsBy_84 s (f_Model_beginsBy_16 s f) (i32 i) (i32 (186 + 4 * i)) (i32 (y_t y i).1) (i32 (y_t y i).2.1) (i32 kd) M) fun M' => Sm 446 447 M0 M' ∧ H5 M0 M' ∧ MS y 0 (y_m y) (bby y s) (M'.2.1 446) ∧ MT (y_m y) (tlT y) (M'.2.1 446) ∧ MH (bar y) (y_m y) (M'.2.1 446) := by
      intro kd hkd
      unfold f_Model_beginsBy_84
      refine OK_bind (m_digs (n := i) (l := (y_t y i).1) (c := (y_t y i).2.1) (k := kd) (by omega) hM.2.2.1) fun M1 h1' => ?_
      obtain ⟨d1, d0, d01, d02, d03, d04, d05, d06, d07, d08, t0, t1, e2, e⟩ := h1'
      rw [hM.2.2.2.1] at d05
      have e4 : M1.2.1 446 (186 + 4 * i + 3) = eG (y_p y i) := (e _ (by omega) (by omega) (by omega) (by omega)).trans o4
      rw [nadd_3, rd_i32 (by omega) (by omega), Option.bind_some, e4, nmul'_9, nadd'_10, nadd_6, wr_i32 (by omega) (by omega), Option.bind_some, nadd_1]
      have eo : ∀ j, j ≠ 10 + 9 * i + 6 → (msI M1 446 (10 + 9 * i + 6) (eG (y_p y i))).2.1 446 j = M1.2.1 446 j := fun j hj => gIo hj
      have eh : ∀ j, j ≠ 2 → (j < 10 + 9 * i ∨ 10 + 9 * i + 9 ≤ j) → j ≠ 109 + 2 * i → j ≠ 109 + 2 * i + 1 → (msI M1 446 (10 + 9 * i + 6) (eG (y_p y i))).2.1 446 j = M.2.1 446 j := fun j a1 a2 a3 a4 => (eo j (by omega)).trans (e j a1 a2 a3 a4)
      refine m_begins16 hv h0 h1 h4 hO k (i + 1) f _ (by omega) (by omega) (Sm_trans hS (Sm_trans d1 (Sm_I (by omega)))) (H5_trans h5 ⟨fun j hj => eh j (by omega) (by omega) (by omega) (by omega), fun j hj => eh j (by omega) (by omega) (by omega) (by omega)⟩) ⟨(eh 0 (by omega) (by omega) (by omega) (by omega)).trans hM.1, (eh 1 (by omega) (by omega) (by omega) (by omega)).trans hM.2.1, (eo 2 (by omega)).trans e2, (eh 3 (by omega) (by omega) (by omega) (by omega)).trans hM.2.2.2.1, by omega, fun g hg => ?_⟩ (fun g hg => ?_) fun g hg => ?_
      · by_cases c : g = i
        · subst c
          refine ⟨⟨(eo _ (by omega)).trans d0, (eo _ (by omega)).trans d01, ?_, (eo _ (by omega)).trans d03, (eo _ (by omega)).trans d04, (eo _ (by omega)).trans d05, (eo _ (by omega)).trans d07⟩, gIe _ _ _ _⟩
          show _ = i32 (kby y s g)
          rw [hkd]
          exact (eo _ (by omega)).trans d02
        · obtain ⟨⟨a1, a2, a3, a4, a5, a6, a7⟩, a8⟩ := hM.2.2.2.2.2 g (by omega)
          exact ⟨⟨(eh _ (by omega) (by omega) (by omega) (by omega)).trans a1, (eh _ (by omega) (by omega) (by omega) (by omega)).trans a2, (eh _ (by omega) (by omega) (by omega) (by omega)).trans a3, (eh _ (by omega) (by omega) (by omega) (by omega)).trans a4, (eh _ (by omega) (by omega) (by omega) (by omega)).trans a5, (eh _ (by omega) (by omega) (by omega) (by omega)).trans a6, (eh _ (by omega) (by omega) (by omega) (by omega)).trans a7⟩, (eh _ (by omega) (by omega) (by omega) (by omega)).trans a8⟩
      · by_cases c : g = i
        · subst c
          exact ⟨(eo _ (by omega)).trans t0, (eo _ (by omega)).trans t1⟩
        · obtain ⟨a1, a2⟩ := hT g (by omega)
          exact ⟨(eh _ (by omega) (by omega) (by omega) (by omega)).trans a1, (eh _ (by omega) (by omega) (by omega) (by omega)).trans a2⟩
      · by_cases c : g = i
        · subst c
          exact (eo _ (by omega)).trans d08
        · exact (eh _ (by omega) (by omega) (by omega) (by omega)).trans (hH g (by omega))
    unfold f_Model_beginsBy_16
    rw [rd_4 (by omega) (by omega), Option.bind_some, h4', if_neg (by rw [i32_le (by omega) (by omega)]; omega), ex, rd_i32 (by omega) (by omega), Option.bind_some, nadd_1, rd_i32 (by omega) (by omega), Option.bind_some, m_inQuestion hv h4' hO', Option.bind_some]
    dsimp only
    rw [m_isOf, Option.bind_some, o1, o2]
    dsimp only
    by_cases q1 : ((opn y >>> (i32 i &&& 31)) &&& 1) = 0
    · rw [if_pos q1, if_pos rfl, nadd_2, rd_i32 (by omega) (by omega), Option.bind_some, o3]
      exact go _ (by unfold kby; rw [if_pos q1])
    · rw [if_neg q1, if_neg (by decide), m_isOf, Option.bind_some]
      dsimp only
      by_cases q2 : ((s >>> (i32 i &&& 31)) &&& 1) = 0
      · rw [if_pos q2, if_pos rfl]
        exact go 0 (by unfold kby; rw [if_neg q1, if_pos q2])
      · rw [if_neg q2, if_neg (by decide)]
        exact go 2 (by unfold kby; rw [if_neg q1, if_neg q2])
/-- the model, at a set's begin -/
theorem m_beginsBy {g : Gx} {s : Int32} {M0 M : mM} (hg : VG g) (hm : RMm g M0) (hL : 0 < y_L g.1.1) (h5 : H5 M0 M) (eK : ∀ p, p = 438 ∨ p = 440 ∨ p = 441 → M.2.1 p = M0.2.1 p) (e21 : M.2.1 436 21 = M0.2.1 436 21) (e26 : M.2.1 436 26 = 0) : OK (f_Model_beginsBy s M) fun M' => Sm 446 447 M M' ∧ H5 M0 M' ∧ MYr (bar g.1.1) (phi g.1.2.2.2.1 g.2.2.1.2) (y_m g.1.1) 0 (bby g.1.1 s) false M' := by
  have hv := hg.1.1
  have v3 := hv.2.2.1
  unfold f_Model_beginsBy
  rw [wr_2 (by omega) (by omega), Option.bind_some, wr_3 (by omega) (by omega), Option.bind_some]
  have hA : ∀ i, i ≠ 2 → i ≠ 3 → (msI (msI M 446 2 0) 446 3 0).2.1 446 i = M.2.1 446 i := fun i a b => by rw [gIo b, gIo a]
  have hO : MO g.1.1 ((msI (msI M 446 2 0) 446 3 0).2.1 446) := fun j hj => by
    obtain ⟨a1, a2, a3, a4⟩ := hm.1.2.2.2 j hj
    exact ⟨((hA _ (by omega) (by omega)).trans (h5.2 _ (by omega))).trans a1, ((hA _ (by omega) (by omega)).trans (h5.2 _ (by omega))).trans a2, ((hA _ (by omega) (by omega)).trans (h5.2 _ (by omega))).trans a3, ((hA _ (by omega) (by omega)).trans (h5.2 _ (by omega))).trans a4⟩
  have x0 : (msI (msI M 446 2 0) 446 3 0).2.1 446 0 = i32 (y_L g.1.1) := ((hA 0 (by omega) (by omega)).trans (h5.1 0 (by omega))).trans hm.1.1.1.1
  have x1 : (msI (msI M 446 2 0) 446 3 0).2.1 446 1 = i32 (y_C g.1.1) := ((hA 1 (by omega) (by omega)).trans (h5.1 1 (by omega))).trans hm.1.1.1.2.1
  have x4 : (msI (msI M 446 2 0) 446 3 0).2.1 446 4 = i32 (y_m g.1.1) := ((hA 4 (by omega) (by omega)).trans (h5.1 4 (by omega))).trans hm.1.1.2.2.2.1
  refine OK_imp (m_begins16 (s := s) hv x0 x1 x4 hO (y_m g.1.1) 0 FUEL (msI (msI M 446 2 0) 446 3 0) (Nat.zero_add _) (by rw [FUEL_eq]; omega) (Sm_refl _ _ _) (H5_refl _) ⟨x0, x1, by rw [gIo (by omega), gIe]; rfl, gIe _ _ _ _, Nat.zero_le _, fun j hj => absurd hj (Nat.not_lt_zero _)⟩ (fun j hj => absurd hj (Nat.not_lt_zero _)) fun j hj => absurd hj (Nat.not_lt_zero _)) fun M' h' => ?_
  obtain ⟨b1, b2, b3, b4, b5⟩ := h'
  have hS : Sm 446 447 M M' := Sm_trans (Sm_trans (Sm_I (by omega)) (Sm_I (by omega))) b1
  have h5' : H5 M0 M' := H5_trans h5 (H5_trans ⟨fun i hi => hA i (by omega) (by omega), fun i hi => hA i (by omega) (by omega)⟩ b2)
  refine ⟨hS, h5', VY_bar hv, hv.2.2.2.2.2.2.2.2.2.2.2 hL, fun a b e => (hv.2.2.2.2.2.2.2.1 a b e).2, b3, V_bby hv s, ⟨?_, by rw [Sm_i hS (by omega)]; exact e26⟩, RM_of (RM_in hg hm) (by rw [Sm_i hS (by omega)]; exact eK 438 (by omega)) (by rw [Sm_i hS (by omega)]; exact eK 440 (by omega)) (by rw [Sm_i hS (by omega)]; exact eK 441 (by omega)) (by rw [Sm_i hS (by omega)]; exact e21), tlT g.1.1, VT_told hv, b4, b5⟩
  obtain ⟨⟨rt, r5, hr, he⟩, r6, r7⟩ := hm.1.2.1
  refine ⟨⟨rt, (h5'.1 5 (by omega)).trans r5, fun j hj => ?_, he⟩, (h5'.1 6 (by omega)).trans r6, fun j hj => (h5'.2 _ (by omega)).trans (r7 j hj)⟩
  obtain ⟨a1, a2, a3, a4, a5⟩ := hr j hj
  exact ⟨a1, a2, (h5'.2 _ (by omega)).trans a3, (h5'.2 _ (by omega)).trans a4, (h5'.2 _ (by omega)).trans a5⟩
