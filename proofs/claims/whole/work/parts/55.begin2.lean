/-! ===== begin, both ===== -/
theorem i32_div' {a k : Nat} (ha : a < 2147483648) (hk : k < 2147483648) : i32 a / i32 k = i32 (a / k) := i32_div_l ha hk
theorem i32_mod' {a k : Nat} (ha : a < 2147483648) (hk : k < 2147483648) : i32 a - i32 a / i32 k * i32 k = i32 (a % k) := by
  have h1 := Nat.div_mul_le_self a k
  rw [i32_div' ha hk, i32_mul, i32_sub h1]
  congr 1
  have := Nat.div_add_mod a k
  rw [Nat.mul_comm] at this
  omega
theorem bgS_le (pl : Nat → Nat → Bool) (C : Nat) : ∀ (k i : Nat) (q : Nat × Nat), q.1 ≤ i → (bgS pl C k i q).1 ≤ i + k
  | 0, i, q, h => h
  | k + 1, i, q, h => by
    rw [bgS]
    split
    · have := bgS_le pl C k (i + 1) (q.1 + 1, if q.1 = 0 then i else q.2) (by show q.1 + 1 ≤ i + 1; omega)
      omega
    · have := bgS_le pl C k (i + 1) q (by omega)
      omega
theorem m_begin54 {g : Gx} {M0 M1 : mM} (hg : VG g) (hK : Kp M0 M1) (hm : RMm g M0) {a w : Nat} (ha : a < g.1.2.1.2.1) (hw : w ≤ 2) (hC : 2 ≤ y_C g.1.1) : ∀ (k i f : Nat) (q : Nat × Nat) (M : mM), i + k = y_L g.1.1 * y_C g.1.1 → k < f → q.1 ≤ i → (q.1 ≠ 0 → q.2 < 80) → FrL M1 M → M.2.1 446 = M0.2.1 446 → M.2.1 436 26 = 0 → OK (f_Model_begin_54 (i32 a) (i32 w) f (i32 q.1) (bgK q) (i32 i) M) fun z => z.1 = (if w = 0 then i32 (bgS (plB g a) (y_C g.1.1) k i q).1 else if w = 1 then bgL (y_C g.1.1) (bgS (plB g a) (y_C g.1.1) k i q) else bgC (y_C g.1.1) (bgS (plB g a) (y_C g.1.1) k i q)) ∧ FrL M1 z.2 ∧ z.2.2.1 446 = M0.2.1 446 ∧ z.2.2.1 436 26 = 0
  | _, _, 0, _, _, _, hf, _, _, _, _, _ => absurd hf (Nat.not_lt_zero _)
  | 0, i, f + 1, q, M, hi, hf, hq, hq2, hF, h446, h26 => by
    have v1 := hg.1.1.1
    have v2 := hg.1.1.2.1
    have hLC : y_L g.1.1 * y_C g.1.1 ≤ 4 * 20 := Nat.mul_le_mul v1 v2
    have e0 : M.2.1 446 0 = i32 (y_L g.1.1) := by rw [h446]; exact hm.1.1.1.1
    have e1 : M.2.1 446 1 = i32 (y_C g.1.1) := by rw [h446]; exact hm.1.1.1.2.1
    have nC : ¬ i32 (y_C g.1.1) = 0 := by rw [neq_0 (by omega)]; omega
    unfold f_Model_begin_54
    simp (disch := omega) only [i32_lt, i32_le, i32_eq, i32_add, i32_mul, i32_neg, i32_nn, i32_ne1, i32_n1e, n1_lt_i32, i32_le_n1, i32_dec, i32_cl, rd_i32, ix_i32, wr_i32, pI_s, pR_s, pC_s, pZ_0, pZ_1, Option.bind_some, ite_true, ite_false, if_true, if_false, gIL, gRI, nlt_0, l0_lt, nle_0, l0_le, neq_0, nadd_0, nmul_0, nmul'_0, nadd'_0, nsub_0, nlt_1, l1_lt, nle_1, l1_le, neq_1, nadd_1, nmul_1, nmul'_1, nadd'_1, nsub_1, nlt_2, l2_lt, nle_2, l2_le, neq_2, nadd_2, nmul_2, nmul'_2, nadd'_2, nsub_2, nlt_3, l3_lt, nle_3, l3_le, neq_3, nadd_3, nmul_3, nmul'_3, nadd'_3, nsub_3, nlt_4, l4_lt, nle_4, l4_le, neq_4, nadd_4, nmul_4, nmul'_4, nadd'_4, nsub_4, nlt_5, l5_lt, nle_5, l5_le, neq_5, nadd_5, nmul_5, nmul'_5, nadd'_5, nsub_5, nlt_6, l6_lt, nle_6, l6_le, neq_6, nadd_6, nmul_6, nmul'_6, nadd'_6, nsub_6, nlt_7, l7_lt, nle_7, l7_le, neq_7, nadd_7, nmul_7, nmul'_7, nadd'_7, nsub_7, nlt_8, l8_lt, nle_8, l8_le, neq_8, nadd_8, nmul_8, nmul'_8, nadd'_8, nsub_8, nlt_9, l9_lt, nle_9, l9_le, neq_9, nadd_9, nmul_9, nmul'_9, nadd'_9, nsub_9, nlt_10, l10_lt, nle_10, l10_le, neq_10, nadd_10, nmul_10, nmul'_10, nadd'_10, nsub_10, nlt_11, l11_lt, nle_11, l11_le, neq_11, nadd_11, nmul_11, nmul'_11, nadd'_11, nsub_11, nlt_12, l12_lt, nle_12, l12_le, neq_12, nadd_12, nmul_12, nmul'_12, nadd'_12, nsub_12, nlt_13, l13_lt, nle_13, l13_le, neq_13, nadd_13, nmul_13, nmul'_13, nadd'_13, nsub_13, nlt_20, l20_lt, nle_20, l20_le, neq_20, nadd_20, nmul_20, nmul'_20, nadd'_20, nsub_20, nlt_400, l400_lt, nle_400, l400_le, neq_400, nadd_400, nmul_400, nmul'_400, nadd'_400, nsub_400, rd_0, wr_0, rd_1, wr_1, rd_2, wr_2, rd_3, wr_3, rd_4, wr_4, rd_5, wr_5, rd_6, wr_6, rd_7, wr_7, rd_8, wr_8, rd_9, wr_9, rd_10, wr_10, rd_11, wr_11, rd_12, wr_12, e0, e1]
    rw [if_pos (by omega)]
    by_cases w0 : w = 0
    · rw [if_pos w0, if_pos w0]
      exact OK_some ⟨rfl, hF, h446, h26⟩
    · rw [if_neg w0, if_neg w0]
      by_cases q0 : q.1 = 0
      · rw [if_pos q0]
        refine OK_some ⟨?_, hF, h446, h26⟩
        show -2 = if w = 1 then bgL (y_C g.1.1) q else bgC (y_C g.1.1) q
        unfold bgL bgC
        rw [if_pos q0, if_pos q0, ite_self]
      · have hq80 := hq2 q0
        rw [if_neg q0]
        unfold bgK
        rw [if_neg q0]
        by_cases w1 : w = 1
        · rw [if_pos w1, if_neg (show ¬ y_C g.1.1 = 0 by omega), if_pos w1, i32_div' (by omega) (by omega)]
          refine OK_some ⟨?_, hF, h446, h26⟩
          show _ = bgL (y_C g.1.1) q
          unfold bgL
          rw [if_neg q0]
        · rw [if_neg w1, if_neg (show ¬ y_C g.1.1 = 0 by omega), if_neg w1, i32_mod' (by omega) (by omega)]
          refine OK_some ⟨?_, hF, h446, h26⟩
          show _ = bgC (y_C g.1.1) q
          unfold bgC
          rw [if_neg q0]
  | k + 1, i, f + 1, q, M, hi, hf, hq, hq2, hF, h446, h26 => by
    have v1 := hg.1.1.1
    have v2 := hg.1.1.2.1
    have hn := hg.1.2.1.2.2.2.1
    have hLC : y_L g.1.1 * y_C g.1.1 ≤ 4 * 20 := Nat.mul_le_mul v1 v2
    have e0 : M.2.1 446 0 = i32 (y_L g.1.1) := by rw [h446]; exact hm.1.1.1.1
    have e1 : M.2.1 446 1 = i32 (y_C g.1.1) := by rw [h446]; exact hm.1.1.1.2.1
    have hil : i / y_C g.1.1 < y_L g.1.1 := Nat.div_lt_of_lt_mul (by rw [Nat.mul_comm]; omega)
    have him : i % y_C g.1.1 < y_C g.1.1 := Nat.mod_lt _ (by omega)
    have hS : MS g.1.1 g.1.2.1.1 g.1.2.1.2.1 g.1.2.1.2.2.1 (M.2.1 446) := by rw [h446]; exact hm.1.1.1
    have nC : ¬ i32 (y_C g.1.1) = 0 := by rw [neq_0 (by omega)]; omega
    unfold f_Model_begin_54
    rw [rd_0 (by omega) (by omega), Option.bind_some, rd_1 (by omega) (by omega), Option.bind_some, e0, e1, i32_mul, if_neg (show ¬ i32 (y_L g.1.1 * y_C g.1.1) ≤ i32 i by rw [i32_le (by omega) (by omega)]; omega), Option.bind_some, if_neg nC, Option.bind_some, if_neg nC, i32_mod' (by omega) (by omega), i32_div' (by omega) (by omega), m_graveAt hS hg.1.2.1.1 (by omega) (by omega), Option.bind_some]
    dsimp only
    rw [bgS]
    by_cases hf0 : grv g.1.2.1.2.1 g.1.2.1.2.2.1 (i / y_C g.1.1) (i % y_C g.1.1) = none
    · rw [if_neg (by rw [hf0]; decide)]
      refine OK_bind (m_fto hg hK ha hil him hf0 hm hF h446 h26) fun z hz => ?_
      obtain ⟨z1, z2, z3, z4⟩ := hz
      rw [z1]
      cases hb : fto g.1.1 (phi g.1.2.2.2.1 g.2.2.1.2) g.1.2.1 a (i / y_C g.1.1) (i % y_C g.1.1) with
      | false =>
        have hpb : ¬ plB g a (i / y_C g.1.1) (i % y_C g.1.1) = true := by unfold plB; rw [hb, Bool.and_false]; decide
        rw [if_pos e01_f, if_neg hpb]
        unfold f_Model_begin_136
        rw [nadd_1]
        exact m_begin54 hg hK hm ha hw hC k (i + 1) f q z.2 (by omega) (by omega) (by omega) hq2 z2 z3 z4
      | true =>
        have hpb : plB g a (i / y_C g.1.1) (i % y_C g.1.1) = true := by unfold plB; rw [hb, decide_eq_true hf0]; rfl
        rw [if_neg (show ¬ e01 true = 0 by decide), if_pos hpb]
        have key := m_begin54 hg hK hm ha hw hC k (i + 1) f (q.1 + 1, if q.1 = 0 then i else q.2) z.2 (by omega) (by omega) (by show q.1 + 1 ≤ i + 1; omega) (fun _ => by
          show (if q.1 = 0 then i else q.2) < 80
          by_cases q0 : q.1 = 0
          · rw [if_pos q0]; omega
          · rw [if_neg q0]; exact hq2 q0) z2 z3 z4
        unfold f_Model_begin_131 f_Model_begin_136
        rw [nadd_1, nadd_1]
        unfold bgK at key ⊢
        rw [if_neg (show ¬ q.1 + 1 = 0 by omega)] at key
        by_cases q0 : q.1 = 0
        · rw [if_pos (show i32 q.1 = 0 by rw [q0]; rfl)]
          rw [if_pos q0] at key
          rw [if_pos q0]
          exact key
        · rw [if_neg (show ¬ i32 q.1 = 0 from fun z => q0 ((neq_0 (by omega)).mp z)), if_neg q0]
          rw [if_neg q0] at key
          rw [if_neg q0]
          exact key
    · obtain ⟨o, ho⟩ := Option.ne_none_iff_exists'.mp hf0
      have ho' := (grv_some ho).1
      have hpb : ¬ plB g a (i / y_C g.1.1) (i % y_C g.1.1) = true := by unfold plB; rw [decide_eq_false hf0, Bool.false_and]; decide
      rw [if_pos (by rw [ho]; exact (i32_nn (a := o) (by omega)).mpr trivial), if_neg hpb]
      unfold f_Model_begin_136
      rw [nadd_1]
      exact m_begin54 hg hK hm ha hw hC k (i + 1) f q M (by omega) (by omega) (by omega) hq2 hF h446 h26
theorem bgS_none {g : Gx} {a : Nat} (hg : VG g) (h : ∀ l c, plB g a l c = false) (C : Nat) : ∀ (k i : Nat) (q : Nat × Nat), bgS (plB g a) C k i q = q
  | 0, _, _ => rfl
  | k + 1, i, q => by
    rw [bgS, if_neg (by rw [h]; decide)]
    exact bgS_none hg h C k (i + 1) q
theorem pl_fallen {g : Gx} {a : Nat} (hg : VG g) (ha : a < g.1.2.1.2.1) (hf : (g.1.2.1.2.2.1 a).1 = none) (l c : Nat) : plB g a l c = false := by
  have h6 := hg.1.2.1.2.2.2.2.2.1
  obtain ⟨k, h1, h2⟩ := (h6 a ha).1 hf
  unfold plB
  have e : fto g.1.1 (phi g.1.2.2.2.1 g.2.2.1.2) g.1.2.1 a l c = false := by
    unfold fto
    have ea : (dgS g.1.2.1 l c 0).2.2.1 a = g.1.2.1.2.2.1 a := bup_o (show a ≠ g.1.2.1.2.1 by omega)
    have ed : (dgS g.1.2.1 l c 0).2.2.1 g.1.2.1.2.1 = dgB l c 0 (i32 g.1.2.1.1) := bup_e _ _ _
    rw [itU, if_pos (by rw [ea]; exact hf)]
    unfold tgB
    rw [ea, ed, decide_eq_true hf, Bool.true_and]
    refine decide_eq_false fun z => ?_
    rw [h2] at z
    exact (i32_n1e h1).mp z
  rw [e, Bool.and_false]
theorem both_begin {x1 x2 : Int32} {M : mM} (hi : Inv M) : Both (f_GraveRails_begin x1 x2) (f_Model_begin x1 x2) M := by
  have hi' := hi
  obtain ⟨g, hg, hc, hm⟩ := hi
  have hS := hc.1.2.1.1
  have hN := hm.1.1.1
  have hn := hg.1.2.1.2.2.2.1
  have hv := hg.1.1
  rcases i32_cases x1 with h1 | ⟨a, h1, rfl⟩
  · refine both_pure hi' ⟨-1, ?_, ?_⟩
    · unfold f_GraveRails_begin
      rw [c_hasN h1, bnd0]
    · unfold f_Model_begin
      rw [m_isGraveN h1, bnd0]
  · by_cases ha : a < g.1.2.1.2.1
    · have hL := hg.1.2.1.2.2.2.2.2.2 (show 0 < g.1.2.1.2.1 by omega)
      have hC := hv.2.2.2.2.2.2.2.2.2.2.2 hL
      rcases i32_cases x2 with h2 | ⟨w, h2, rfl⟩
      · refine both_pure hi' ⟨-1, ?_, ?_⟩
        · unfold f_GraveRails_begin
          rw [c_has1 hS ha, bnd1]
          exact if_pos h2
        · unfold f_Model_begin
          rw [m_isGrave hN h1, if_pos ha, bnd1]
          dsimp only
          rw [m_inN (lo := 0) (hi := 2) h2 (by omega), bnd0]
      · by_cases hw : w ≤ 2
        · have cl : OK (f_GraveRails_begin (i32 a) (i32 w) M) fun z => z.1 = (if w = 0 then i32 (bgS (plB g a) (y_C g.1.1) (y_L g.1.1 * y_C g.1.1) 0 (0, 0)).1 else if w = 1 then bgL (y_C g.1.1) (bgS (plB g a) (y_C g.1.1) (y_L g.1.1 * y_C g.1.1) 0 (0, 0)) else bgC (y_C g.1.1) (bgS (plB g a) (y_C g.1.1) (y_L g.1.1 * y_C g.1.1) 0 (0, 0))) ∧ RC g z.2 ∧ Sm 0 436 M z.2 := by
            unfold f_GraveRails_begin
            rw [c_has1 hS ha, bnd1]
            dsimp only
            rw [if_neg (fun z => (i32_neg h2).mp z), if_pos (by rw [show (2 : Int32) = i32 2 from rfl, i32_le h2 (by omega)]; exact hw)]
            have key := c_begin38 hg ha hw (y_L g.1.1) 0 FUEL (0, 0) M (Nat.zero_add _) (by have := hv.1; rw [FUEL_eq]; omega) (Nat.zero_le _) hc
            rw [Nat.zero_mul] at key
            refine OK_imp key fun z hz => ⟨hz.1, RC_Sm hg hc hz.2, Sm_le hz.2 (by omega) (by omega)⟩
          refine both_ask hg hc hm cl fun M' hc' hm' => ?_
          unfold f_Model_begin
          rw [m_isGrave hm'.1.1.1 h1, if_pos ha, bnd1]
          dsimp only
          rw [m_inY (lo := 0) (hi := 2) ⟨Nat.zero_le _, hw⟩ (by omega), bnd1]
          dsimp only
          rw [m_isFallen hm'.1.1.1 hg.1.2.1.1 ha]
          by_cases hf : (g.1.2.1.2.2.1 a).1 = none
          · rw [bgS_none hg (pl_fallen hg ha hf), decide_eq_true hf, Option.bind_some]
            dsimp only
            rw [if_neg (show ¬ e01 true = 0 by decide)]
            by_cases w0 : w = 0
            · rw [if_pos (show i32 w = 0 by rw [w0]; rfl), if_pos w0]
              exact OK_some ⟨rfl, FrN_refl _⟩
            · rw [if_neg (show ¬ i32 w = 0 from fun z => w0 ((neq_0 (by omega)).mp z)), if_neg w0]
              refine OK_some ⟨?_, FrN_refl _⟩
              show -2 = _
              unfold bgL bgC
              rw [if_pos rfl, if_pos rfl, ite_self]
          · rw [decide_eq_false hf, Option.bind_some]
            dsimp only
            rw [if_pos e01_f]
            refine OK_bind (m_begin hg hm' hL) fun M1 q => ?_
            have hv1 := hv.1
            have hv2 := hv.2.1
            have hLC : y_L g.1.1 * y_C g.1.1 ≤ 4 * 20 := Nat.mul_le_mul hv1 hv2
            have key := m_begin54 hg q.1 hm' ha hw hC (y_L g.1.1 * y_C g.1.1) 0 FUEL (0, 0) M1 (Nat.zero_add _) (by rw [FUEL_eq]; omega) (Nat.le_refl _) (fun z => absurd rfl z) (FrL_refl _) (by rw [Sm_i q.1.1 (by omega)]) q.2.2
            refine OK_imp key fun z hz => ⟨hz.1, ?_⟩
            obtain ⟨z1, z2, z3, z4⟩ := hz
            refine ⟨fun p hp => by rw [z2.1 p hp, Sm_r q.1.1 (by omega)], fun p hp => ?_, fun i hi => ?_⟩
            · by_cases c6 : p = 446
              · rw [c6]; exact z3
              · rw [z2.2.1 p (by omega) (by omega) (by omega) (by omega) (by omega) (by omega), Sm_i q.1.1 (by omega)]
            · by_cases c26 : i = 26
              · rw [c26, z4, hm'.2.2.2.1]
              · rw [z2.2.2.1 i (by omega), Sm_i q.1.1 (by omega)]
        · refine both_pure hi' ⟨-1, ?_, ?_⟩
          · unfold f_GraveRails_begin
            rw [c_has1 hS ha, bnd1]
            dsimp only
            rw [if_neg (fun z => (i32_neg h2).mp z)]
            exact if_neg (by rw [show (2 : Int32) = i32 2 from rfl, i32_le h2 (by omega)]; exact hw)
          · unfold f_Model_begin
            rw [m_isGrave hN h1, if_pos ha, bnd1]
            dsimp only
            rw [m_inX (lo := 0) (hi := 2) h2 (by omega) (by omega) (by omega), bnd0]
    · refine both_pure hi' ⟨-1, ?_, ?_⟩
      · unfold f_GraveRails_begin
        rw [c_has hS h1, if_neg ha, bnd0]
      · unfold f_Model_begin
        rw [m_isGrave hN h1, if_neg ha, bnd0]
