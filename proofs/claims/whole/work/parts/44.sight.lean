/-! ===== sight, image, back ===== -/
def addG (q : Nat × (Nat → Nat × Nat × Nat)) (x : Nat × Nat × Nat) : Nat × (Nat → Nat × Nat × Nat) := (q.1 + 1, bup q.2 q.1 x)
theorem RC_sight {g : Gx} {q : Nat × (Nat → Nat × Nat × Nat)} {M M' : mM} (hg : VG g) (h : RC g M) (hq : CG 39 q M') (e : ∀ p, p < 39 ∨ (43 ≤ p ∧ p < 246) ∨ (270 ≤ p ∧ p < 436) → M'.2.1 p = M.2.1 p) (hz : M'.2.1 269 0 = 0) : RC (setG g.1 q, g.2.1, g.2.2.1, g.2.2.2.1, g.2.2.2.2) M' := by
  obtain ⟨c1, c2, c3, c4, c5⟩ := h.1
  refine RC_put hg h ⟨CY_of c1 fun k hk => e _ (by omega), CSX_of c2 fun k hk => e _ (by omega), hq, ?_, ?_⟩ (CA_of h.2.2.2.1 fun p a b => e p (by omega)) (fun p hp => e p (by omega)) (Or.inl hz)
  · rw [e 20 (by omega)]; exact c4
  · rw [e 20 (by omega)]; exact c5
theorem RM_sight {g : Gx} {q : Nat × (Nat → Nat × Nat × Nat)} {M M' : mM} (hg : VG g) (h : RMm g M) (hq : MG q (M'.2.1 446)) (e : ∀ i, i < 155 ∨ 186 ≤ i → M'.2.1 446 i = M.2.1 446 i) (ep : ∀ p, p ≠ 446 → M'.2.1 p = M.2.1 p) : RMm (setG g.1 q, g.2.1, g.2.2.1, g.2.2.2.1, g.2.2.2.2) M' := by
  obtain ⟨w1, ⟨⟨rt, r5, hr, he⟩, r6, r7⟩, w3, w4⟩ := h.1
  have v1 := hg.1.1.2.2.2.1
  have v2 := hg.1.1.2.2.2.2.1
  have hX : MSX g.1.1 g.1.2.1 (M'.2.1 446) := MSX_of w1 fun i hi => e i (by omega)
  have hY : MY g.1.1 (M'.2.1 446) := by
    refine ⟨⟨rt, (e _ (by omega)).trans r5, fun k hk => ?_, he⟩, (e _ (by omega)).trans r6, fun k hk => (e _ (by omega)).trans (r7 k hk)⟩
    obtain ⟨a1, a2, a3, a4, a5⟩ := hr k hk
    exact ⟨a1, a2, (e _ (by omega)).trans a3, (e _ (by omega)).trans a4, (e _ (by omega)).trans a5⟩
  refine RMm_put h ⟨hX, hY, hq, fun k hk => ?_⟩ (by rw [ep 436 (by omega)]; exact h.2.1) (by rw [ep 436 (by omega)]; exact h.2.2.1) ⟨by rw [ep 436 (by omega)]; exact h.2.2.2.2.2.2.1.1, by rw [ep 449 (by omega)]; exact h.2.2.2.2.2.2.1.2⟩ (fun i hi => by rw [ep 436 (by omega)]) (fun p hp => ep p (by omega))
  obtain ⟨a1, a2, a3, a4⟩ := w4 k hk
  exact ⟨(e _ (by omega)).trans a1, (e _ (by omega)).trans a2, (e _ (by omega)).trans a3, (e _ (by omega)).trans a4⟩
theorem VG_sight {g : Gx} (hg : VG g) {q : Nat × (Nat → Nat × Nat × Nat)} (h1 : q.1 ≤ 10) (h2 : ∀ k, k < q.1 → (q.2 k).1 < y_m g.1.1 ∧ (q.2 k).2.1 < y_C g.1.1 ∧ (q.2 k).2.2 ≤ 99) : VG (setG g.1 q, g.2.1, g.2.2.1, g.2.2.2.1, g.2.2.2.2) :=
  VG_w hg ⟨hg.1.1, hg.1.2.1, h1, h2, hg.1.2.2.2.2⟩ hg.2.1 hg.2.2.2.2.2.2.1 hg.2.2.2.2.2.2.2.1
theorem both_sight {x1 x2 x3 : Int32} {M : mM} (hi : Inv M) : Both (f_GraveRails_sight x1 x2 x3) (f_Model_sight x1 x2 x3) M := by
  have hi' := hi
  obtain ⟨g, hg, hc, hm⟩ := hi
  have hv := hg.1.1
  have vL := hv.1
  have vC := hv.2.1
  have vm := hv.2.2.1
  have ns := hg.1.2.2.1
  have em : M.2.1 21 2 = i32 (y_m g.1.1) := hc.1.1.2.2.1
  have eC' : M.2.1 21 1 = i32 (y_C g.1.1) := hc.1.1.2.1
  have es : M.2.1 39 0 = i32 g.1.2.2.1.1 := hc.1.2.2.1.1
  have f4 : M.2.1 446 4 = i32 (y_m g.1.1) := hm.1.1.2.2.2.1
  have f185 : M.2.1 446 185 = i32 g.1.2.2.1.1 := hm.1.2.2.1.1
  by_cases c1 : x1 = -1
  · subst c1
    refine both_do (v := 0) hm (VG_sight hg (q := (0, fun _ => (0, 0, 0))) (Nat.zero_le _) fun k hk => absurd hk (Nat.not_lt_zero _)) ?_ fun M' hm' => ?_
    · unfold f_GraveRails_sight
      rw [if_pos rfl]
      simp only [pI_s, pZ_0, Option.bind_some]
      refine OK_some ⟨rfl, RC_sight hg hc ⟨?_, fun k hk => absurd hk (Nat.not_lt_zero _)⟩ (fun p hp => by rw [gIp (by omega), gIp (by omega)]) (gIe _ _ _ _), Sm_trans (Sm_I (by omega)) (Sm_I (by omega))⟩
      rw [gIp (by omega), gIe]; rfl
    · unfold f_Model_sight
      rw [if_pos rfl, show (185 : Int32) = i32 185 from rfl, wr_i32 (by omega) (by omega)]
      refine OK_some ⟨rfl, RM_sight hg hm' ⟨gIe _ _ _ _, fun k hk => absurd hk (Nat.not_lt_zero _)⟩ (fun i hi => gIo (by omega)) (fun p hp => gIp hp), Sm_I (by omega)⟩
  · rcases i32_cases x1 with h1 | ⟨a, h1, rfl⟩
    · refine both_pure hi' ⟨-2, ?_, ?_⟩
      · unfold f_GraveRails_sight
        rw [if_neg c1, if_pos h1]
      · unfold f_Model_sight
        rw [if_neg c1, if_pos h1]
    · by_cases ha : a < y_m g.1.1
      · have hL : 0 < y_L g.1.1 := by
          have := (hv.2.2.2.2.2.2.2.2.1 a ha).1
          omega
        rcases i32_cases x2 with h2 | ⟨c, h2, rfl⟩
        · refine both_pure hi' ⟨-2, ?_, ?_⟩
          · unfold f_GraveRails_sight
            rw [if_neg c1, if_neg (fun z => (i32_neg h1).mp z), em, if_neg (by rw [i32_le (by omega) h1]; omega), if_pos h2]
          · unfold f_Model_sight
            rw [if_neg c1, if_neg (fun z => (i32_neg h1).mp z)]
            simp (disch := omega) only [i32_lt, i32_le, i32_eq, i32_add, i32_mul, i32_neg, i32_nn, i32_ne1, i32_n1e, n1_lt_i32, i32_le_n1, i32_dec, i32_cl, rd_i32, ix_i32, wr_i32, pI_s, pR_s, pC_s, pZ_0, pZ_1, Option.bind_some, ite_true, ite_false, if_true, if_false, gIL, gRI, nlt_0, l0_lt, nle_0, l0_le, neq_0, nadd_0, nmul_0, nmul'_0, nadd'_0, nsub_0, nlt_1, l1_lt, nle_1, l1_le, neq_1, nadd_1, nmul_1, nmul'_1, nadd'_1, nsub_1, nlt_2, l2_lt, nle_2, l2_le, neq_2, nadd_2, nmul_2, nmul'_2, nadd'_2, nsub_2, nlt_3, l3_lt, nle_3, l3_le, neq_3, nadd_3, nmul_3, nmul'_3, nadd'_3, nsub_3, nlt_4, l4_lt, nle_4, l4_le, neq_4, nadd_4, nmul_4, nmul'_4, nadd'_4, nsub_4, nlt_5, l5_lt, nle_5, l5_le, neq_5, nadd_5, nmul_5, nmul'_5, nadd'_5, nsub_5, nlt_6, l6_lt, nle_6, l6_le, neq_6, nadd_6, nmul_6, nmul'_6, nadd'_6, nsub_6, nlt_7, l7_lt, nle_7, l7_le, neq_7, nadd_7, nmul_7, nmul'_7, nadd'_7, nsub_7, nlt_8, l8_lt, nle_8, l8_le, neq_8, nadd_8, nmul_8, nmul'_8, nadd'_8, nsub_8, nlt_9, l9_lt, nle_9, l9_le, neq_9, nadd_9, nmul_9, nmul'_9, nadd'_9, nsub_9, nlt_10, l10_lt, nle_10, l10_le, neq_10, nadd_10, nmul_10, nmul'_10, nadd'_10, nsub_10, nlt_11, l11_lt, nle_11, l11_le, neq_11, nadd_11, nmul_11, nmul'_11, nadd'_11, nsub_11, nlt_12, l12_lt, nle_12, l12_le, neq_12, nadd_12, nmul_12, nmul'_12, nadd'_12, nsub_12, nlt_13, l13_lt, nle_13, l13_le, neq_13, nadd_13, nmul_13, nmul'_13, nadd'_13, nsub_13, nlt_20, l20_lt, nle_20, l20_le, neq_20, nadd_20, nmul_20, nmul'_20, nadd'_20, nsub_20, nlt_400, l400_lt, nle_400, l400_le, neq_400, nadd_400, nmul_400, nmul'_400, nadd'_400, nsub_400, rd_0, wr_0, rd_1, wr_1, rd_2, wr_2, rd_3, wr_3, rd_4, wr_4, rd_5, wr_5, rd_6, wr_6, rd_7, wr_7, rd_8, wr_8, rd_9, wr_9, rd_10, wr_10, rd_11, wr_11, rd_12, wr_12, f4]
            rw [if_neg (by omega), m_isPlaceN (Or.inr h2)]
            exact bnd (if_pos rfl)
        · by_cases hcc : c < y_C g.1.1
          · have hpl : f_Model_isPlace 0 (i32 c) M = some (1, M) := by
              rw [show (0 : Int32) = i32 0 from rfl, m_isPlace hm.1.1.1.1 hm.1.1.1.2.1 hv (by omega) (by omega), if_pos ⟨hL, hcc⟩]
            rcases i32_cases x3 with h3 | ⟨yr, h3, rfl⟩
            · refine both_pure hi' ⟨-2, ?_, ?_⟩
              · unfold f_GraveRails_sight
                rw [if_neg c1, if_neg (fun z => (i32_neg h1).mp z), em, if_neg (by rw [i32_le (by omega) h1]; omega), if_neg (fun z => (i32_neg h2).mp z), eC', if_neg (by rw [i32_le (by omega) h2]; omega), if_pos h3]
              · unfold f_Model_sight
                rw [if_neg c1, if_neg (fun z => (i32_neg h1).mp z)]
                simp (disch := omega) only [i32_lt, i32_le, i32_eq, i32_add, i32_mul, i32_neg, i32_nn, i32_ne1, i32_n1e, n1_lt_i32, i32_le_n1, i32_dec, i32_cl, rd_i32, ix_i32, wr_i32, pI_s, pR_s, pC_s, pZ_0, pZ_1, Option.bind_some, ite_true, ite_false, if_true, if_false, gIL, gRI, nlt_0, l0_lt, nle_0, l0_le, neq_0, nadd_0, nmul_0, nmul'_0, nadd'_0, nsub_0, nlt_1, l1_lt, nle_1, l1_le, neq_1, nadd_1, nmul_1, nmul'_1, nadd'_1, nsub_1, nlt_2, l2_lt, nle_2, l2_le, neq_2, nadd_2, nmul_2, nmul'_2, nadd'_2, nsub_2, nlt_3, l3_lt, nle_3, l3_le, neq_3, nadd_3, nmul_3, nmul'_3, nadd'_3, nsub_3, nlt_4, l4_lt, nle_4, l4_le, neq_4, nadd_4, nmul_4, nmul'_4, nadd'_4, nsub_4, nlt_5, l5_lt, nle_5, l5_le, neq_5, nadd_5, nmul_5, nmul'_5, nadd'_5, nsub_5, nlt_6, l6_lt, nle_6, l6_le, neq_6, nadd_6, nmul_6, nmul'_6, nadd'_6, nsub_6, nlt_7, l7_lt, nle_7, l7_le, neq_7, nadd_7, nmul_7, nmul'_7, nadd'_7, nsub_7, nlt_8, l8_lt, nle_8, l8_le, neq_8, nadd_8, nmul_8, nmul'_8, nadd'_8, nsub_8, nlt_9, l9_lt, nle_9, l9_le, neq_9, nadd_9, nmul_9, nmul'_9, nadd'_9, nsub_9, nlt_10, l10_lt, nle_10, l10_le, neq_10, nadd_10, nmul_10, nmul'_10, nadd'_10, nsub_10, nlt_11, l11_lt, nle_11, l11_le, neq_11, nadd_11, nmul_11, nmul'_11, nadd'_11, nsub_11, nlt_12, l12_lt, nle_12, l12_le, neq_12, nadd_12, nmul_12, nmul'_12, nadd'_12, nsub_12, nlt_13, l13_lt, nle_13, l13_le, neq_13, nadd_13, nmul_13, nmul'_13, nadd'_13, nsub_13, nlt_20, l20_lt, nle_20, l20_le, neq_20, nadd_20, nmul_20, nmul'_20, nadd'_20, nsub_20, nlt_400, l400_lt, nle_400, l400_le, neq_400, nadd_400, nmul_400, nmul'_400, nadd'_400, nsub_400, rd_0, wr_0, rd_1, wr_1, rd_2, wr_2, rd_3, wr_3, rd_4, wr_4, rd_5, wr_5, rd_6, wr_6, rd_7, wr_7, rd_8, wr_8, rd_9, wr_9, rd_10, wr_10, rd_11, wr_11, rd_12, wr_12, f4]
                rw [if_neg (by omega), hpl]
                simp only [Option.bind_some, d10, if_false]
                rw [m_inN (lo := 0) (hi := 99) h3 (by omega)]
                exact bnd (if_pos rfl)
            · by_cases hy : yr ≤ 99
              · by_cases hn : g.1.2.2.1.1 = 10
                · refine both_pure hi' ⟨-2, ?_, ?_⟩
                  · unfold f_GraveRails_sight
                    rw [if_neg c1, if_neg (fun z => (i32_neg h1).mp z), em, if_neg (by rw [i32_le (by omega) h1]; omega), if_neg (fun z => (i32_neg h2).mp z), eC', if_neg (by rw [i32_le (by omega) h2]; omega), if_neg (fun z => (i32_neg h3).mp z), if_neg (by rw [show (99 : Int32) = i32 99 from rfl, i32_lt (by omega) h3]; omega), es, hn]
                    rfl
                  · unfold f_Model_sight
                    rw [if_neg c1, if_neg (fun z => (i32_neg h1).mp z)]
                    simp (disch := omega) only [i32_lt, i32_le, i32_eq, i32_add, i32_mul, i32_neg, i32_nn, i32_ne1, i32_n1e, n1_lt_i32, i32_le_n1, i32_dec, i32_cl, rd_i32, ix_i32, wr_i32, pI_s, pR_s, pC_s, pZ_0, pZ_1, Option.bind_some, ite_true, ite_false, if_true, if_false, gIL, gRI, nlt_0, l0_lt, nle_0, l0_le, neq_0, nadd_0, nmul_0, nmul'_0, nadd'_0, nsub_0, nlt_1, l1_lt, nle_1, l1_le, neq_1, nadd_1, nmul_1, nmul'_1, nadd'_1, nsub_1, nlt_2, l2_lt, nle_2, l2_le, neq_2, nadd_2, nmul_2, nmul'_2, nadd'_2, nsub_2, nlt_3, l3_lt, nle_3, l3_le, neq_3, nadd_3, nmul_3, nmul'_3, nadd'_3, nsub_3, nlt_4, l4_lt, nle_4, l4_le, neq_4, nadd_4, nmul_4, nmul'_4, nadd'_4, nsub_4, nlt_5, l5_lt, nle_5, l5_le, neq_5, nadd_5, nmul_5, nmul'_5, nadd'_5, nsub_5, nlt_6, l6_lt, nle_6, l6_le, neq_6, nadd_6, nmul_6, nmul'_6, nadd'_6, nsub_6, nlt_7, l7_lt, nle_7, l7_le, neq_7, nadd_7, nmul_7, nmul'_7, nadd'_7, nsub_7, nlt_8, l8_lt, nle_8, l8_le, neq_8, nadd_8, nmul_8, nmul'_8, nadd'_8, nsub_8, nlt_9, l9_lt, nle_9, l9_le, neq_9, nadd_9, nmul_9, nmul'_9, nadd'_9, nsub_9, nlt_10, l10_lt, nle_10, l10_le, neq_10, nadd_10, nmul_10, nmul'_10, nadd'_10, nsub_10, nlt_11, l11_lt, nle_11, l11_le, neq_11, nadd_11, nmul_11, nmul'_11, nadd'_11, nsub_11, nlt_12, l12_lt, nle_12, l12_le, neq_12, nadd_12, nmul_12, nmul'_12, nadd'_12, nsub_12, nlt_13, l13_lt, nle_13, l13_le, neq_13, nadd_13, nmul_13, nmul'_13, nadd'_13, nsub_13, nlt_20, l20_lt, nle_20, l20_le, neq_20, nadd_20, nmul_20, nmul'_20, nadd'_20, nsub_20, nlt_400, l400_lt, nle_400, l400_le, neq_400, nadd_400, nmul_400, nmul'_400, nadd'_400, nsub_400, rd_0, wr_0, rd_1, wr_1, rd_2, wr_2, rd_3, wr_3, rd_4, wr_4, rd_5, wr_5, rd_6, wr_6, rd_7, wr_7, rd_8, wr_8, rd_9, wr_9, rd_10, wr_10, rd_11, wr_11, rd_12, wr_12, f4]
                    rw [if_neg (by omega), hpl]
                    simp only [Option.bind_some, d10, if_false]
                    rw [m_inY (lo := 0) (hi := 99) ⟨Nat.zero_le _, hy⟩ (by omega)]
                    simp only [Option.bind_some, d10, if_false]
                    rw [show (185 : Int32) = i32 185 from rfl, rd_i32 (by omega) (by omega), f185, hn]
                    rfl
                · refine both_do (v := i32 (g.1.2.2.1.1 + 1)) hm (VG_sight hg (q := addG g.1.2.2.1 (a, c, yr)) (by show g.1.2.2.1.1 + 1 ≤ 10; omega) fun k hk => ?_) ?_ fun M' hm' => ?_
                  · have hk' : k < g.1.2.2.1.1 + 1 := hk
                    show (bup g.1.2.2.1.2 g.1.2.2.1.1 (a, c, yr) k).1 < _ ∧ (bup g.1.2.2.1.2 g.1.2.2.1.1 (a, c, yr) k).2.1 < _ ∧ (bup g.1.2.2.1.2 g.1.2.2.1.1 (a, c, yr) k).2.2 ≤ _
                    by_cases q : k = g.1.2.2.1.1
                    · subst q; rw [bup_e]; exact ⟨ha, hcc, hy⟩
                    · rw [bup_o q]; exact hg.1.2.2.2.1 k (by omega)
                  · unfold f_GraveRails_sight f_Sights_add
                    rw [if_neg c1, if_neg (fun z => (i32_neg h1).mp z), em, if_neg (by rw [i32_le (by omega) h1]; omega), if_neg (fun z => (i32_neg h2).mp z), eC', if_neg (by rw [i32_le (by omega) h2]; omega), if_neg (fun z => (i32_neg h3).mp z), if_neg (by rw [show (99 : Int32) = i32 99 from rfl, i32_lt (by omega) h3]; omega), es]
                    simp (disch := omega) only [i32_lt, i32_le, i32_eq, i32_add, i32_mul, i32_neg, i32_nn, i32_ne1, i32_n1e, n1_lt_i32, i32_le_n1, i32_dec, i32_cl, rd_i32, ix_i32, wr_i32, pI_s, pR_s, pC_s, pZ_0, pZ_1, Option.bind_some, ite_true, ite_false, if_true, if_false, gIL, gRI, nlt_0, l0_lt, nle_0, l0_le, neq_0, nadd_0, nmul_0, nmul'_0, nadd'_0, nsub_0, nlt_1, l1_lt, nle_1, l1_le, neq_1, nadd_1, nmul_1, nmul'_1, nadd'_1, nsub_1, nlt_2, l2_lt, nle_2, l2_le, neq_2, nadd_2, nmul_2, nmul'_2, nadd'_2, nsub_2, nlt_3, l3_lt, nle_3, l3_le, neq_3, nadd_3, nmul_3, nmul'_3, nadd'_3, nsub_3, nlt_4, l4_lt, nle_4, l4_le, neq_4, nadd_4, nmul_4, nmul'_4, nadd'_4, nsub_4, nlt_5, l5_lt, nle_5, l5_le, neq_5, nadd_5, nmul_5, nmul'_5, nadd'_5, nsub_5, nlt_6, l6_lt, nle_6, l6_le, neq_6, nadd_6, nmul_6, nmul'_6, nadd'_6, nsub_6, nlt_7, l7_lt, nle_7, l7_le, neq_7, nadd_7, nmul_7, nmul'_7, nadd'_7, nsub_7, nlt_8, l8_lt, nle_8, l8_le, neq_8, nadd_8, nmul_8, nmul'_8, nadd'_8, nsub_8, nlt_9, l9_lt, nle_9, l9_le, neq_9, nadd_9, nmul_9, nmul'_9, nadd'_9, nsub_9, nlt_10, l10_lt, nle_10, l10_le, neq_10, nadd_10, nmul_10, nmul'_10, nadd'_10, nsub_10, nlt_11, l11_lt, nle_11, l11_le, neq_11, nadd_11, nmul_11, nmul'_11, nadd'_11, nsub_11, nlt_12, l12_lt, nle_12, l12_le, neq_12, nadd_12, nmul_12, nmul'_12, nadd'_12, nsub_12, nlt_13, l13_lt, nle_13, l13_le, neq_13, nadd_13, nmul_13, nmul'_13, nadd'_13, nsub_13, nlt_20, l20_lt, nle_20, l20_le, neq_20, nadd_20, nmul_20, nmul'_20, nadd'_20, nsub_20, nlt_400, l400_lt, nle_400, l400_le, neq_400, nadd_400, nmul_400, nmul'_400, nadd'_400, nsub_400, rd_0, wr_0, rd_1, wr_1, rd_2, wr_2, rd_3, wr_3, rd_4, wr_4, rd_5, wr_5, rd_6, wr_6, rd_7, wr_7, rd_8, wr_8, rd_9, wr_9, rd_10, wr_10, rd_11, wr_11, rd_12, wr_12, gIe, gIp, gIo, gCe, gCn, gRI, gLI, gIR, gCR, gLR, gRe, gRo, gRp, gIl, es]
                    rw [if_pos (by omega), if_neg (by omega)]
                    simp (disch := omega) only [i32_lt, i32_le, i32_eq, i32_add, i32_mul, i32_neg, i32_nn, i32_ne1, i32_n1e, n1_lt_i32, i32_le_n1, i32_dec, i32_cl, rd_i32, ix_i32, wr_i32, pI_s, pR_s, pC_s, pZ_0, pZ_1, Option.bind_some, ite_true, ite_false, if_true, if_false, gIL, gRI, nlt_0, l0_lt, nle_0, l0_le, neq_0, nadd_0, nmul_0, nmul'_0, nadd'_0, nsub_0, nlt_1, l1_lt, nle_1, l1_le, neq_1, nadd_1, nmul_1, nmul'_1, nadd'_1, nsub_1, nlt_2, l2_lt, nle_2, l2_le, neq_2, nadd_2, nmul_2, nmul'_2, nadd'_2, nsub_2, nlt_3, l3_lt, nle_3, l3_le, neq_3, nadd_3, nmul_3, nmul'_3, nadd'_3, nsub_3, nlt_4, l4_lt, nle_4, l4_le, neq_4, nadd_4, nmul_4, nmul'_4, nadd'_4, nsub_4, nlt_5, l5_lt, nle_5, l5_le, neq_5, nadd_5, nmul_5, nmul'_5, nadd'_5, nsub_5, nlt_6, l6_lt, nle_6, l6_le, neq_6, nadd_6, nmul_6, nmul'_6, nadd'_6, nsub_6, nlt_7, l7_lt, nle_7, l7_le, neq_7, nadd_7, nmul_7, nmul'_7, nadd'_7, nsub_7, nlt_8, l8_lt, nle_8, l8_le, neq_8, nadd_8, nmul_8, nmul'_8, nadd'_8, nsub_8, nlt_9, l9_lt, nle_9, l9_le, neq_9, nadd_9, nmul_9, nmul'_9, nadd'_9, nsub_9, nlt_10, l10_lt, nle_10, l10_le, neq_10, nadd_10, nmul_10, nmul'_10, nadd'_10, nsub_10, nlt_11, l11_lt, nle_11, l11_le, neq_11, nadd_11, nmul_11, nmul'_11, nadd'_11, nsub_11, nlt_12, l12_lt, nle_12, l12_le, neq_12, nadd_12, nmul_12, nmul'_12, nadd'_12, nsub_12, nlt_13, l13_lt, nle_13, l13_le, neq_13, nadd_13, nmul_13, nmul'_13, nadd'_13, nsub_13, nlt_20, l20_lt, nle_20, l20_le, neq_20, nadd_20, nmul_20, nmul'_20, nadd'_20, nsub_20, nlt_400, l400_lt, nle_400, l400_le, neq_400, nadd_400, nmul_400, nmul'_400, nadd'_400, nsub_400, rd_0, wr_0, rd_1, wr_1, rd_2, wr_2, rd_3, wr_3, rd_4, wr_4, rd_5, wr_5, rd_6, wr_6, rd_7, wr_7, rd_8, wr_8, rd_9, wr_9, rd_10, wr_10, rd_11, wr_11, rd_12, wr_12, gIe, gIp, gIo, gCe, gCn, gRI, gLI, gIR, gCR, gLR, gRe, gRo, gRp, gIl, es]
                    refine OK_some ⟨rfl, RC_sight hg hc ⟨?_, fun k hk => ?_⟩ (fun p hp => ?_) (gIe _ _ _ _), ?_⟩
                    · show _ = i32 (g.1.2.2.1.1 + 1)
                      simp (disch := omega) only [gIe, gIp, gIo, gCe, gCn, gRI, gLI, gIR, gCR, gLR, gRe, gRo, gRp, gIl]
                    · have hk' : k < g.1.2.2.1.1 + 1 := hk
                      show _ = i32 (bup g.1.2.2.1.2 g.1.2.2.1.1 (a, c, yr) k).1 ∧ _ = i32 (bup g.1.2.2.1.2 g.1.2.2.1.1 (a, c, yr) k).2.1 ∧ _ = i32 (bup g.1.2.2.1.2 g.1.2.2.1.1 (a, c, yr) k).2.2
                      by_cases q : k = g.1.2.2.1.1
                      · subst q
                        rw [bup_e]
                        simp (disch := omega) only [gIe, gIp, gIo, gCe, gCn, gRI, gLI, gIR, gCR, gLR, gRe, gRo, gRp, gIl, and_self]
                      · rw [bup_o q]
                        have := hc.1.2.2.1.2 k (by omega)
                        simp only [Nat.reduceAdd] at this
                        simp (disch := omega) only [gIe, gIp, gIo, gCe, gCn, gRI, gLI, gIR, gCR, gLR, gRe, gRo, gRp, gIl, this, and_self]
                    · simp (disch := omega) only [gIe, gIp, gIo, gCe, gCn, gRI, gLI, gIR, gCR, gLR, gRe, gRo, gRp, gIl]
                    · intro p hp
                      simp (disch := omega) only [gIe, gIp, gIo, gCe, gCn, gRI, gLI, gIR, gCR, gLR, gRe, gRo, gRp, gIl, and_self]
                  · have f4' : M'.2.1 446 4 = i32 (y_m g.1.1) := hm'.1.1.2.2.2.1
                    have f185' : M'.2.1 446 185 = i32 g.1.2.2.1.1 := hm'.1.2.2.1.1
                    have hpl' : f_Model_isPlace 0 (i32 c) M' = some (1, M') := by
                      rw [show (0 : Int32) = i32 0 from rfl, m_isPlace hm'.1.1.1.1 hm'.1.1.1.2.1 hv (by omega) (by omega), if_pos ⟨hL, hcc⟩]
                    unfold f_Model_sight
                    rw [if_neg c1, if_neg (fun z => (i32_neg h1).mp z)]
                    simp (disch := omega) only [i32_lt, i32_le, i32_eq, i32_add, i32_mul, i32_neg, i32_nn, i32_ne1, i32_n1e, n1_lt_i32, i32_le_n1, i32_dec, i32_cl, rd_i32, ix_i32, wr_i32, pI_s, pR_s, pC_s, pZ_0, pZ_1, Option.bind_some, ite_true, ite_false, if_true, if_false, gIL, gRI, nlt_0, l0_lt, nle_0, l0_le, neq_0, nadd_0, nmul_0, nmul'_0, nadd'_0, nsub_0, nlt_1, l1_lt, nle_1, l1_le, neq_1, nadd_1, nmul_1, nmul'_1, nadd'_1, nsub_1, nlt_2, l2_lt, nle_2, l2_le, neq_2, nadd_2, nmul_2, nmul'_2, nadd'_2, nsub_2, nlt_3, l3_lt, nle_3, l3_le, neq_3, nadd_3, nmul_3, nmul'_3, nadd'_3, nsub_3, nlt_4, l4_lt, nle_4, l4_le, neq_4, nadd_4, nmul_4, nmul'_4, nadd'_4, nsub_4, nlt_5, l5_lt, nle_5, l5_le, neq_5, nadd_5, nmul_5, nmul'_5, nadd'_5, nsub_5, nlt_6, l6_lt, nle_6, l6_le, neq_6, nadd_6, nmul_6, nmul'_6, nadd'_6, nsub_6, nlt_7, l7_lt, nle_7, l7_le, neq_7, nadd_7, nmul_7, nmul'_7, nadd'_7, nsub_7, nlt_8, l8_lt, nle_8, l8_le, neq_8, nadd_8, nmul_8, nmul'_8, nadd'_8, nsub_8, nlt_9, l9_lt, nle_9, l9_le, neq_9, nadd_9, nmul_9, nmul'_9, nadd'_9, nsub_9, nlt_10, l10_lt, nle_10, l10_le, neq_10, nadd_10, nmul_10, nmul'_10, nadd'_10, nsub_10, nlt_11, l11_lt, nle_11, l11_le, neq_11, nadd_11, nmul_11, nmul'_11, nadd'_11, nsub_11, nlt_12, l12_lt, nle_12, l12_le, neq_12, nadd_12, nmul_12, nmul'_12, nadd'_12, nsub_12, nlt_13, l13_lt, nle_13, l13_le, neq_13, nadd_13, nmul_13, nmul'_13, nadd'_13, nsub_13, nlt_20, l20_lt, nle_20, l20_le, neq_20, nadd_20, nmul_20, nmul'_20, nadd'_20, nsub_20, nlt_400, l400_lt, nle_400, l400_le, neq_400, nadd_400, nmul_400, nmul'_400, nadd'_400, nsub_400, rd_0, wr_0, rd_1, wr_1, rd_2, wr_2, rd_3, wr_3, rd_4, wr_4, rd_5, wr_5, rd_6, wr_6, rd_7, wr_7, rd_8, wr_8, rd_9, wr_9, rd_10, wr_10, rd_11, wr_11, rd_12, wr_12, f4']
                    rw [if_neg (by omega), hpl']
                    simp only [Option.bind_some, d10, if_false]
                    rw [m_inY (lo := 0) (hi := 99) ⟨Nat.zero_le _, hy⟩ (by omega)]
                    simp only [Option.bind_some, d10, if_false]
                    rw [show (185 : Int32) = i32 185 from rfl]
                    simp (disch := omega) only [i32_lt, i32_le, i32_eq, i32_add, i32_mul, i32_neg, i32_nn, i32_ne1, i32_n1e, n1_lt_i32, i32_le_n1, i32_dec, i32_cl, rd_i32, ix_i32, wr_i32, pI_s, pR_s, pC_s, pZ_0, pZ_1, Option.bind_some, ite_true, ite_false, if_true, if_false, gIL, gRI, nlt_0, l0_lt, nle_0, l0_le, neq_0, nadd_0, nmul_0, nmul'_0, nadd'_0, nsub_0, nlt_1, l1_lt, nle_1, l1_le, neq_1, nadd_1, nmul_1, nmul'_1, nadd'_1, nsub_1, nlt_2, l2_lt, nle_2, l2_le, neq_2, nadd_2, nmul_2, nmul'_2, nadd'_2, nsub_2, nlt_3, l3_lt, nle_3, l3_le, neq_3, nadd_3, nmul_3, nmul'_3, nadd'_3, nsub_3, nlt_4, l4_lt, nle_4, l4_le, neq_4, nadd_4, nmul_4, nmul'_4, nadd'_4, nsub_4, nlt_5, l5_lt, nle_5, l5_le, neq_5, nadd_5, nmul_5, nmul'_5, nadd'_5, nsub_5, nlt_6, l6_lt, nle_6, l6_le, neq_6, nadd_6, nmul_6, nmul'_6, nadd'_6, nsub_6, nlt_7, l7_lt, nle_7, l7_le, neq_7, nadd_7, nmul_7, nmul'_7, nadd'_7, nsub_7, nlt_8, l8_lt, nle_8, l8_le, neq_8, nadd_8, nmul_8, nmul'_8, nadd'_8, nsub_8, nlt_9, l9_lt, nle_9, l9_le, neq_9, nadd_9, nmul_9, nmul'_9, nadd'_9, nsub_9, nlt_10, l10_lt, nle_10, l10_le, neq_10, nadd_10, nmul_10, nmul'_10, nadd'_10, nsub_10, nlt_11, l11_lt, nle_11, l11_le, neq_11, nadd_11, nmul_11, nmul'_11, nadd'_11, nsub_11, nlt_12, l12_lt, nle_12, l12_le, neq_12, nadd_12, nmul_12, nmul'_12, nadd'_12, nsub_12, nlt_13, l13_lt, nle_13, l13_le, neq_13, nadd_13, nmul_13, nmul'_13, nadd'_13, nsub_13, nlt_20, l20_lt, nle_20, l20_le, neq_20, nadd_20, nmul_20, nmul'_20, nadd'_20, nsub_20, nlt_400, l400_lt, nle_400, l400_le, neq_400, nadd_400, nmul_400, nmul'_400, nadd'_400, nsub_400, rd_0, wr_0, rd_1, wr_1, rd_2, wr_2, rd_3, wr_3, rd_4, wr_4, rd_5, wr_5, rd_6, wr_6, rd_7, wr_7, rd_8, wr_8, rd_9, wr_9, rd_10, wr_10, rd_11, wr_11, rd_12, wr_12, gIe, gIp, gIo, gCe, gCn, gRI, gLI, gIR, gCR, gLR, gRe, gRo, gRp, gIl, nlt_155, l155_lt, nle_155, l155_le, neq_155, nadd_155, nmul_155, nmul'_155, nadd'_155, nsub_155, f185']
                    rw [if_neg hn]
                    refine OK_some ⟨rfl, RM_sight hg hm' ⟨?_, fun k hk => ?_⟩ (fun i hi => ?_) (fun p hp => ?_), ?_⟩
                    · show _ = i32 (g.1.2.2.1.1 + 1)
                      simp (disch := omega) only [gIe, gIp, gIo, gCe, gCn, gRI, gLI, gIR, gCR, gLR, gRe, gRo, gRp, gIl]
                    · have hk' : k < g.1.2.2.1.1 + 1 := hk
                      show _ = i32 (bup g.1.2.2.1.2 g.1.2.2.1.1 (a, c, yr) k).1 ∧ _ = i32 (bup g.1.2.2.1.2 g.1.2.2.1.1 (a, c, yr) k).2.1 ∧ _ = i32 (bup g.1.2.2.1.2 g.1.2.2.1.1 (a, c, yr) k).2.2
                      by_cases q : k = g.1.2.2.1.1
                      · subst q
                        rw [bup_e]
                        simp (disch := omega) only [gIe, gIp, gIo, gCe, gCn, gRI, gLI, gIR, gCR, gLR, gRe, gRo, gRp, gIl, and_self]
                      · rw [bup_o q]
                        have := hm'.1.2.2.1.2 k (by omega)
                        simp (disch := omega) only [gIe, gIp, gIo, gCe, gCn, gRI, gLI, gIR, gCR, gLR, gRe, gRo, gRp, gIl, this, and_self]
                    · simp (disch := omega) only [gIe, gIp, gIo, gCe, gCn, gRI, gLI, gIR, gCR, gLR, gRe, gRo, gRp, gIl]
                    · simp (disch := omega) only [gIe, gIp, gIo, gCe, gCn, gRI, gLI, gIR, gCR, gLR, gRe, gRo, gRp, gIl]
                    · intro p hp
                      simp (disch := omega) only [gIe, gIp, gIo, gCe, gCn, gRI, gLI, gIR, gCR, gLR, gRe, gRo, gRp, gIl, and_self]
              · refine both_pure hi' ⟨-2, ?_, ?_⟩
                · unfold f_GraveRails_sight
                  rw [if_neg c1, if_neg (fun z => (i32_neg h1).mp z), em, if_neg (by rw [i32_le (by omega) h1]; omega), if_neg (fun z => (i32_neg h2).mp z), eC', if_neg (by rw [i32_le (by omega) h2]; omega), if_neg (fun z => (i32_neg h3).mp z), if_pos (by rw [show (99 : Int32) = i32 99 from rfl, i32_lt (by omega) h3]; omega)]
                · unfold f_Model_sight
                  rw [if_neg c1, if_neg (fun z => (i32_neg h1).mp z)]
                  simp (disch := omega) only [i32_lt, i32_le, i32_eq, i32_add, i32_mul, i32_neg, i32_nn, i32_ne1, i32_n1e, n1_lt_i32, i32_le_n1, i32_dec, i32_cl, rd_i32, ix_i32, wr_i32, pI_s, pR_s, pC_s, pZ_0, pZ_1, Option.bind_some, ite_true, ite_false, if_true, if_false, gIL, gRI, nlt_0, l0_lt, nle_0, l0_le, neq_0, nadd_0, nmul_0, nmul'_0, nadd'_0, nsub_0, nlt_1, l1_lt, nle_1, l1_le, neq_1, nadd_1, nmul_1, nmul'_1, nadd'_1, nsub_1, nlt_2, l2_lt, nle_2, l2_le, neq_2, nadd_2, nmul_2, nmul'_2, nadd'_2, nsub_2, nlt_3, l3_lt, nle_3, l3_le, neq_3, nadd_3, nmul_3, nmul'_3, nadd'_3, nsub_3, nlt_4, l4_lt, nle_4, l4_le, neq_4, nadd_4, nmul_4, nmul'_4, nadd'_4, nsub_4, nlt_5, l5_lt, nle_5, l5_le, neq_5, nadd_5, nmul_5, nmul'_5, nadd'_5, nsub_5, nlt_6, l6_lt, nle_6, l6_le, neq_6, nadd_6, nmul_6, nmul'_6, nadd'_6, nsub_6, nlt_7, l7_lt, nle_7, l7_le, neq_7, nadd_7, nmul_7, nmul'_7, nadd'_7, nsub_7, nlt_8, l8_lt, nle_8, l8_le, neq_8, nadd_8, nmul_8, nmul'_8, nadd'_8, nsub_8, nlt_9, l9_lt, nle_9, l9_le, neq_9, nadd_9, nmul_9, nmul'_9, nadd'_9, nsub_9, nlt_10, l10_lt, nle_10, l10_le, neq_10, nadd_10, nmul_10, nmul'_10, nadd'_10, nsub_10, nlt_11, l11_lt, nle_11, l11_le, neq_11, nadd_11, nmul_11, nmul'_11, nadd'_11, nsub_11, nlt_12, l12_lt, nle_12, l12_le, neq_12, nadd_12, nmul_12, nmul'_12, nadd'_12, nsub_12, nlt_13, l13_lt, nle_13, l13_le, neq_13, nadd_13, nmul_13, nmul'_13, nadd'_13, nsub_13, nlt_20, l20_lt, nle_20, l20_le, neq_20, nadd_20, nmul_20, nmul'_20, nadd'_20, nsub_20, nlt_400, l400_lt, nle_400, l400_le, neq_400, nadd_400, nmul_400, nmul'_400, nadd'_400, nsub_400, rd_0, wr_0, rd_1, wr_1, rd_2, wr_2, rd_3, wr_3, rd_4, wr_4, rd_5, wr_5, rd_6, wr_6, rd_7, wr_7, rd_8, wr_8, rd_9, wr_9, rd_10, wr_10, rd_11, wr_11, rd_12, wr_12, f4]
                  rw [if_neg (by omega), hpl]
                  simp only [Option.bind_some, d10, if_false]
                  rw [m_inX (lo := 0) (hi := 99) h3 (by omega) (by omega) (by omega)]
                  exact bnd (if_pos rfl)
          · refine both_pure hi' ⟨-2, ?_, ?_⟩
            · unfold f_GraveRails_sight
              rw [if_neg c1, if_neg (fun z => (i32_neg h1).mp z), em, if_neg (by rw [i32_le (by omega) h1]; omega), if_neg (fun z => (i32_neg h2).mp z), eC', if_pos (by rw [i32_le (by omega) h2]; omega)]
            · unfold f_Model_sight
              rw [if_neg c1, if_neg (fun z => (i32_neg h1).mp z)]
              simp (disch := omega) only [i32_lt, i32_le, i32_eq, i32_add, i32_mul, i32_neg, i32_nn, i32_ne1, i32_n1e, n1_lt_i32, i32_le_n1, i32_dec, i32_cl, rd_i32, ix_i32, wr_i32, pI_s, pR_s, pC_s, pZ_0, pZ_1, Option.bind_some, ite_true, ite_false, if_true, if_false, gIL, gRI, nlt_0, l0_lt, nle_0, l0_le, neq_0, nadd_0, nmul_0, nmul'_0, nadd'_0, nsub_0, nlt_1, l1_lt, nle_1, l1_le, neq_1, nadd_1, nmul_1, nmul'_1, nadd'_1, nsub_1, nlt_2, l2_lt, nle_2, l2_le, neq_2, nadd_2, nmul_2, nmul'_2, nadd'_2, nsub_2, nlt_3, l3_lt, nle_3, l3_le, neq_3, nadd_3, nmul_3, nmul'_3, nadd'_3, nsub_3, nlt_4, l4_lt, nle_4, l4_le, neq_4, nadd_4, nmul_4, nmul'_4, nadd'_4, nsub_4, nlt_5, l5_lt, nle_5, l5_le, neq_5, nadd_5, nmul_5, nmul'_5, nadd'_5, nsub_5, nlt_6, l6_lt, nle_6, l6_le, neq_6, nadd_6, nmul_6, nmul'_6, nadd'_6, nsub_6, nlt_7, l7_lt, nle_7, l7_le, neq_7, nadd_7, nmul_7, nmul'_7, nadd'_7, nsub_7, nlt_8, l8_lt, nle_8, l8_le, neq_8, nadd_8, nmul_8, nmul'_8, nadd'_8, nsub_8, nlt_9, l9_lt, nle_9, l9_le, neq_9, nadd_9, nmul_9, nmul'_9, nadd'_9, nsub_9, nlt_10, l10_lt, nle_10, l10_le, neq_10, nadd_10, nmul_10, nmul'_10, nadd'_10, nsub_10, nlt_11, l11_lt, nle_11, l11_le, neq_11, nadd_11, nmul_11, nmul'_11, nadd'_11, nsub_11, nlt_12, l12_lt, nle_12, l12_le, neq_12, nadd_12, nmul_12, nmul'_12, nadd'_12, nsub_12, nlt_13, l13_lt, nle_13, l13_le, neq_13, nadd_13, nmul_13, nmul'_13, nadd'_13, nsub_13, nlt_20, l20_lt, nle_20, l20_le, neq_20, nadd_20, nmul_20, nmul'_20, nadd'_20, nsub_20, nlt_400, l400_lt, nle_400, l400_le, neq_400, nadd_400, nmul_400, nmul'_400, nadd'_400, nsub_400, rd_0, wr_0, rd_1, wr_1, rd_2, wr_2, rd_3, wr_3, rd_4, wr_4, rd_5, wr_5, rd_6, wr_6, rd_7, wr_7, rd_8, wr_8, rd_9, wr_9, rd_10, wr_10, rd_11, wr_11, rd_12, wr_12, f4]
              rw [if_neg (by omega)]
              have hpl : f_Model_isPlace 0 (i32 c) M = some (0, M) := by
                rw [show (0 : Int32) = i32 0 from rfl, m_isPlace hm.1.1.1.1 hm.1.1.1.2.1 hv (by omega) (by omega), if_neg (fun z => hcc z.2)]
                rfl
              rw [hpl]
              exact bnd (if_pos rfl)
      · refine both_pure hi' ⟨-2, ?_, ?_⟩
        · unfold f_GraveRails_sight
          rw [if_neg c1, if_neg (fun z => (i32_neg h1).mp z), em, if_pos (by rw [i32_le (by omega) h1]; omega)]
        · unfold f_Model_sight
          rw [if_neg c1, if_neg (fun z => (i32_neg h1).mp z)]
          simp (disch := omega) only [i32_lt, i32_le, i32_eq, i32_add, i32_mul, i32_neg, i32_nn, i32_ne1, i32_n1e, n1_lt_i32, i32_le_n1, i32_dec, i32_cl, rd_i32, ix_i32, wr_i32, pI_s, pR_s, pC_s, pZ_0, pZ_1, Option.bind_some, ite_true, ite_false, if_true, if_false, gIL, gRI, nlt_0, l0_lt, nle_0, l0_le, neq_0, nadd_0, nmul_0, nmul'_0, nadd'_0, nsub_0, nlt_1, l1_lt, nle_1, l1_le, neq_1, nadd_1, nmul_1, nmul'_1, nadd'_1, nsub_1, nlt_2, l2_lt, nle_2, l2_le, neq_2, nadd_2, nmul_2, nmul'_2, nadd'_2, nsub_2, nlt_3, l3_lt, nle_3, l3_le, neq_3, nadd_3, nmul_3, nmul'_3, nadd'_3, nsub_3, nlt_4, l4_lt, nle_4, l4_le, neq_4, nadd_4, nmul_4, nmul'_4, nadd'_4, nsub_4, nlt_5, l5_lt, nle_5, l5_le, neq_5, nadd_5, nmul_5, nmul'_5, nadd'_5, nsub_5, nlt_6, l6_lt, nle_6, l6_le, neq_6, nadd_6, nmul_6, nmul'_6, nadd'_6, nsub_6, nlt_7, l7_lt, nle_7, l7_le, neq_7, nadd_7, nmul_7, nmul'_7, nadd'_7, nsub_7, nlt_8, l8_lt, nle_8, l8_le, neq_8, nadd_8, nmul_8, nmul'_8, nadd'_8, nsub_8, nlt_9, l9_lt, nle_9, l9_le, neq_9, nadd_9, nmul_9, nmul'_9, nadd'_9, nsub_9, nlt_10, l10_lt, nle_10, l10_le, neq_10, nadd_10, nmul_10, nmul'_10, nadd'_10, nsub_10, nlt_11, l11_lt, nle_11, l11_le, neq_11, nadd_11, nmul_11, nmul'_11, nadd'_11, nsub_11, nlt_12, l12_lt, nle_12, l12_le, neq_12, nadd_12, nmul_12, nmul'_12, nadd'_12, nsub_12, nlt_13, l13_lt, nle_13, l13_le, neq_13, nadd_13, nmul_13, nmul'_13, nadd'_13, nsub_13, nlt_20, l20_lt, nle_20, l20_le, neq_20, nadd_20, nmul_20, nmul'_20, nadd'_20, nsub_20, nlt_400, l400_lt, nle_400, l400_le, neq_400, nadd_400, nmul_400, nmul'_400, nadd'_400, nsub_400, rd_0, wr_0, rd_1, wr_1, rd_2, wr_2, rd_3, wr_3, rd_4, wr_4, rd_5, wr_5, rd_6, wr_6, rd_7, wr_7, rd_8, wr_8, rd_9, wr_9, rd_10, wr_10, rd_11, wr_11, rd_12, wr_12, f4]
          rw [if_pos (by omega)]
