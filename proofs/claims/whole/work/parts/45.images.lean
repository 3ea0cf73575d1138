/-! ===== images ===== -/
theorem c_copyYard {S T : Nat} (hd : S + 8 ≤ T ∨ T + 8 ≤ S) {y : Yd} {M : mM} (hv : VY y) (h : CY T y M) : OK (f_Yard_copyFrom S T M) fun M' => CY S y M' ∧ Sm S (S + 8) M M' := by
  obtain ⟨h0, h1, h2, h8, h10, hg, hp, hr, hf⟩ := h
  have v3 := hv.2.2.1
  have v4 := hv.2.2.2.1
  unfold f_Yard_copyFrom
  simp (disch := omega) only [i32_lt, i32_le, i32_eq, i32_add, i32_mul, i32_neg, i32_nn, i32_ne1, i32_n1e, n1_lt_i32, i32_le_n1, i32_dec, i32_cl, rd_i32, ix_i32, wr_i32, pI_s, pR_s, pC_s, pZ_0, pZ_1, Option.bind_some, ite_true, ite_false, if_true, if_false, gIL, gRI, nlt_0, l0_lt, nle_0, l0_le, neq_0, nadd_0, nmul_0, nmul'_0, nadd'_0, nsub_0, nlt_1, l1_lt, nle_1, l1_le, neq_1, nadd_1, nmul_1, nmul'_1, nadd'_1, nsub_1, nlt_2, l2_lt, nle_2, l2_le, neq_2, nadd_2, nmul_2, nmul'_2, nadd'_2, nsub_2, nlt_3, l3_lt, nle_3, l3_le, neq_3, nadd_3, nmul_3, nmul'_3, nadd'_3, nsub_3, nlt_4, l4_lt, nle_4, l4_le, neq_4, nadd_4, nmul_4, nmul'_4, nadd'_4, nsub_4, nlt_5, l5_lt, nle_5, l5_le, neq_5, nadd_5, nmul_5, nmul'_5, nadd'_5, nsub_5, nlt_6, l6_lt, nle_6, l6_le, neq_6, nadd_6, nmul_6, nmul'_6, nadd'_6, nsub_6, nlt_7, l7_lt, nle_7, l7_le, neq_7, nadd_7, nmul_7, nmul'_7, nadd'_7, nsub_7, nlt_8, l8_lt, nle_8, l8_le, neq_8, nadd_8, nmul_8, nmul'_8, nadd'_8, nsub_8, nlt_9, l9_lt, nle_9, l9_le, neq_9, nadd_9, nmul_9, nmul'_9, nadd'_9, nsub_9, nlt_10, l10_lt, nle_10, l10_le, neq_10, nadd_10, nmul_10, nmul'_10, nadd'_10, nsub_10, nlt_11, l11_lt, nle_11, l11_le, neq_11, nadd_11, nmul_11, nmul'_11, nadd'_11, nsub_11, nlt_12, l12_lt, nle_12, l12_le, neq_12, nadd_12, nmul_12, nmul'_12, nadd'_12, nsub_12, nlt_13, l13_lt, nle_13, l13_le, neq_13, nadd_13, nmul_13, nmul'_13, nadd'_13, nsub_13, nlt_20, l20_lt, nle_20, l20_le, neq_20, nadd_20, nmul_20, nmul'_20, nadd'_20, nsub_20, nlt_400, l400_lt, nle_400, l400_le, neq_400, nadd_400, nmul_400, nmul'_400, nadd'_400, nsub_400, rd_0, wr_0, rd_1, wr_1, rd_2, wr_2, rd_3, wr_3, rd_4, wr_4, rd_5, wr_5, rd_6, wr_6, rd_7, wr_7, rd_8, wr_8, rd_9, wr_9, rd_10, wr_10, rd_11, wr_11, rd_12, wr_12, gIe, gIp, gIo, gCe, gCn, gRI, gLI, gIR, gCR, gLR, gRe, gRo, gRp, gIl]
  refine OK_some ⟨⟨?_, ?_, ?_, ?_, ?_, fun g q => ?_, fun g q => ?_, fun l c q1 q2 => ?_, fun k q => ?_⟩, ?_⟩
  · simp (disch := omega) only [gIe, gIp, gIo, gCe, gCn, gRI, gLI, gIR, gCR, gLR, gRe, gRo, gRp, gIl, h0]
  · simp (disch := omega) only [gIe, gIp, gIo, gCe, gCn, gRI, gLI, gIR, gCR, gLR, gRe, gRo, gRp, gIl, h1]
  · simp (disch := omega) only [gIe, gIp, gIo, gCe, gCn, gRI, gLI, gIR, gCR, gLR, gRe, gRo, gRp, gIl, h2]
  · simp (disch := omega) only [gIe, gIp, gIo, gCe, gCn, gRI, gLI, gIR, gCR, gLR, gRe, gRo, gRp, gIl, h8]
  · simp (disch := omega) only [gIe, gIp, gIo, gCe, gCn, gRI, gLI, gIR, gCR, gLR, gRe, gRo, gRp, gIl, h10]
  · have := hg g q
    simp (disch := omega) only [gIe, gIp, gIo, gCe, gCn, gRI, gLI, gIR, gCR, gLR, gRe, gRo, gRp, gIl, this, and_self]
  · have := hp g q
    simp (disch := omega) only [gIe, gIp, gIo, gCe, gCn, gRI, gLI, gIR, gCR, gLR, gRe, gRo, gRp, gIl, this, and_self]
  · have := hr l c q1 q2
    simp (disch := omega) only [gIe, gIp, gIo, gCe, gCn, gRI, gLI, gIR, gCR, gLR, gRe, gRo, gRp, gIl, this]
  · have := hf k q
    simp (disch := omega) only [gIe, gIp, gIo, gCe, gCn, gRI, gLI, gIR, gCR, gLR, gRe, gRo, gRp, gIl, this]
  · intro p hp
    simp (disch := omega) only [gIe, gIp, gIo, gCe, gCn, gRI, gLI, gIR, gCR, gLR, gRe, gRo, gRp, gIl, and_self]
theorem c_copySights {S T : Nat} (hd : S + 4 ≤ T ∨ T + 4 ≤ S) {q : Nat × (Nat → Nat × Nat × Nat)} {M : mM} (hq : q.1 ≤ 10) (h : CG T q M) : OK (f_Sights_copyFrom S T M) fun M' => CG S q M' ∧ Sm S (S + 4) M M' := by
  obtain ⟨h0, h1⟩ := h
  unfold f_Sights_copyFrom
  simp (disch := omega) only [i32_lt, i32_le, i32_eq, i32_add, i32_mul, i32_neg, i32_nn, i32_ne1, i32_n1e, n1_lt_i32, i32_le_n1, i32_dec, i32_cl, rd_i32, ix_i32, wr_i32, pI_s, pR_s, pC_s, pZ_0, pZ_1, Option.bind_some, ite_true, ite_false, if_true, if_false, gIL, gRI, nlt_0, l0_lt, nle_0, l0_le, neq_0, nadd_0, nmul_0, nmul'_0, nadd'_0, nsub_0, nlt_1, l1_lt, nle_1, l1_le, neq_1, nadd_1, nmul_1, nmul'_1, nadd'_1, nsub_1, nlt_2, l2_lt, nle_2, l2_le, neq_2, nadd_2, nmul_2, nmul'_2, nadd'_2, nsub_2, nlt_3, l3_lt, nle_3, l3_le, neq_3, nadd_3, nmul_3, nmul'_3, nadd'_3, nsub_3, nlt_4, l4_lt, nle_4, l4_le, neq_4, nadd_4, nmul_4, nmul'_4, nadd'_4, nsub_4, nlt_5, l5_lt, nle_5, l5_le, neq_5, nadd_5, nmul_5, nmul'_5, nadd'_5, nsub_5, nlt_6, l6_lt, nle_6, l6_le, neq_6, nadd_6, nmul_6, nmul'_6, nadd'_6, nsub_6, nlt_7, l7_lt, nle_7, l7_le, neq_7, nadd_7, nmul_7, nmul'_7, nadd'_7, nsub_7, nlt_8, l8_lt, nle_8, l8_le, neq_8, nadd_8, nmul_8, nmul'_8, nadd'_8, nsub_8, nlt_9, l9_lt, nle_9, l9_le, neq_9, nadd_9, nmul_9, nmul'_9, nadd'_9, nsub_9, nlt_10, l10_lt, nle_10, l10_le, neq_10, nadd_10, nmul_10, nmul'_10, nadd'_10, nsub_10, nlt_11, l11_lt, nle_11, l11_le, neq_11, nadd_11, nmul_11, nmul'_11, nadd'_11, nsub_11, nlt_12, l12_lt, nle_12, l12_le, neq_12, nadd_12, nmul_12, nmul'_12, nadd'_12, nsub_12, nlt_13, l13_lt, nle_13, l13_le, neq_13, nadd_13, nmul_13, nmul'_13, nadd'_13, nsub_13, nlt_20, l20_lt, nle_20, l20_le, neq_20, nadd_20, nmul_20, nmul'_20, nadd'_20, nsub_20, nlt_400, l400_lt, nle_400, l400_le, neq_400, nadd_400, nmul_400, nmul'_400, nadd'_400, nsub_400, rd_0, wr_0, rd_1, wr_1, rd_2, wr_2, rd_3, wr_3, rd_4, wr_4, rd_5, wr_5, rd_6, wr_6, rd_7, wr_7, rd_8, wr_8, rd_9, wr_9, rd_10, wr_10, rd_11, wr_11, rd_12, wr_12, gIe, gIp, gIo, gCe, gCn, gRI, gLI, gIR, gCR, gLR, gRe, gRo, gRp, gIl]
  refine OK_some ⟨⟨?_, fun k hk => ?_⟩, ?_⟩
  · simp (disch := omega) only [gIe, gIp, gIo, gCe, gCn, gRI, gLI, gIR, gCR, gLR, gRe, gRo, gRp, gIl, h0]
  · have := h1 k hk
    simp (disch := omega) only [gIe, gIp, gIo, gCe, gCn, gRI, gLI, gIR, gCR, gLR, gRe, gRo, gRp, gIl, this, and_self]
  · intro p hp
    simp (disch := omega) only [gIe, gIp, gIo, gCe, gCn, gRI, gLI, gIR, gCR, gLR, gRe, gRo, gRp, gIl, and_self]
theorem c_copyWorld {S T : Nat} (hd : S + 23 ≤ T ∨ T + 23 ≤ S) {w : Wx} {M : mM} (hv : VW w) (h : CW T w M) : OK (f_World_copyFrom S T M) fun M' => CW S w M' ∧ Sm S (S + 23) M M' ∧ M'.2.1 S 5 = M.2.1 S 5 := by
  obtain ⟨h1, h2, h3, h4, h5⟩ := h
  unfold f_World_copyFrom
  refine OK_bind (c_copyYard (S := S + 1) (T := T + 1) (by omega) hv.1 h1) fun M1 q1 => ?_
  refine OK_bind (c_copyX (S := S + 9) (T := T + 9) (by omega) (s := w.2.1) (CSX_of h2 fun k hk => Sm_i q1.2 (by omega))) fun M2 q2 => ?_
  refine OK_bind (c_copySights (S := S + 19) (T := T + 19) (by omega) hv.2.2.1 (CG_of h3 fun k hk => by rw [Sm_i q2.2 (by omega), Sm_i q1.2 (by omega)])) fun M3 q3 => ?_
  have e3 : M3.2.1 T = M.2.1 T := by rw [Sm_i q3.2 (by omega), Sm_i q2.2 (by omega), Sm_i q1.2 (by omega)]
  have e4 : M3.2.1 S = M.2.1 S := by rw [Sm_i q3.2 (by omega), Sm_i q2.2 (by omega), Sm_i q1.2 (by omega)]
  simp (disch := omega) only [i32_lt, i32_le, i32_eq, i32_add, i32_mul, i32_neg, i32_nn, i32_ne1, i32_n1e, n1_lt_i32, i32_le_n1, i32_dec, i32_cl, rd_i32, ix_i32, wr_i32, pI_s, pR_s, pC_s, pZ_0, pZ_1, Option.bind_some, ite_true, ite_false, if_true, if_false, gIL, gRI, nlt_0, l0_lt, nle_0, l0_le, neq_0, nadd_0, nmul_0, nmul'_0, nadd'_0, nsub_0, nlt_1, l1_lt, nle_1, l1_le, neq_1, nadd_1, nmul_1, nmul'_1, nadd'_1, nsub_1, nlt_2, l2_lt, nle_2, l2_le, neq_2, nadd_2, nmul_2, nmul'_2, nadd'_2, nsub_2, nlt_3, l3_lt, nle_3, l3_le, neq_3, nadd_3, nmul_3, nmul'_3, nadd'_3, nsub_3, nlt_4, l4_lt, nle_4, l4_le, neq_4, nadd_4, nmul_4, nmul'_4, nadd'_4, nsub_4, nlt_5, l5_lt, nle_5, l5_le, neq_5, nadd_5, nmul_5, nmul'_5, nadd'_5, nsub_5, nlt_6, l6_lt, nle_6, l6_le, neq_6, nadd_6, nmul_6, nmul'_6, nadd'_6, nsub_6, nlt_7, l7_lt, nle_7, l7_le, neq_7, nadd_7, nmul_7, nmul'_7, nadd'_7, nsub_7, nlt_8, l8_lt, nle_8, l8_le, neq_8, nadd_8, nmul_8, nmul'_8, nadd'_8, nsub_8, nlt_9, l9_lt, nle_9, l9_le, neq_9, nadd_9, nmul_9, nmul'_9, nadd'_9, nsub_9, nlt_10, l10_lt, nle_10, l10_le, neq_10, nadd_10, nmul_10, nmul'_10, nadd'_10, nsub_10, nlt_11, l11_lt, nle_11, l11_le, neq_11, nadd_11, nmul_11, nmul'_11, nadd'_11, nsub_11, nlt_12, l12_lt, nle_12, l12_le, neq_12, nadd_12, nmul_12, nmul'_12, nadd'_12, nsub_12, nlt_13, l13_lt, nle_13, l13_le, neq_13, nadd_13, nmul_13, nmul'_13, nadd'_13, nsub_13, nlt_20, l20_lt, nle_20, l20_le, neq_20, nadd_20, nmul_20, nmul'_20, nadd'_20, nsub_20, nlt_400, l400_lt, nle_400, l400_le, neq_400, nadd_400, nmul_400, nmul'_400, nadd'_400, nsub_400, rd_0, wr_0, rd_1, wr_1, rd_2, wr_2, rd_3, wr_3, rd_4, wr_4, rd_5, wr_5, rd_6, wr_6, rd_7, wr_7, rd_8, wr_8, rd_9, wr_9, rd_10, wr_10, rd_11, wr_11, rd_12, wr_12, gIe, gIp, gIo, gCe, gCn, gRI, gLI, gIR, gCR, gLR, gRe, gRo, gRp, gIl]
  rw [e3]
  refine OK_some ⟨⟨CY_of q1.1 fun k hk => ?_, CSX_of q2.1 fun k hk => ?_, CG_of q3.1 fun k hk => ?_, ?_, ?_⟩, ?_, ?_⟩
  · rw [gIp (by omega), gIp (by omega), Sm_i q3.2 (by omega), Sm_i q2.2 (by omega)]
  · rw [gIp (by omega), gIp (by omega), Sm_i q3.2 (by omega)]
  · rw [gIp (by omega), gIp (by omega)]
  · rw [gIo (by omega), gIe]; exact h4
  · rw [gIe]; exact h5
  · exact Sm_trans (Sm_le q1.2 (by omega) (by omega)) (Sm_trans (Sm_le q2.2 (by omega) (by omega)) (Sm_trans (Sm_le q3.2 (by omega) (by omega)) (Sm_trans (Sm_I (by omega)) (Sm_I (by omega)))))
  · rw [gIo (by omega), gIo (by omega), e4]
theorem m_image43 {M0 : mM} {k : Nat} (hk : k < 4) : ∀ (d i f : Nat) (M : mM), i + d = 226 → d < f → Sm 453 454 M0 M → (∀ j, j < i → M.2.1 453 (226 * k + j) = M0.2.1 446 j) → (∀ j, j < 226 * k ∨ 226 * k + 226 ≤ j → M.2.1 453 j = M0.2.1 453 j) → OK (f_Model_image_43 (i32 k) f (i32 i) M) fun z => z.1 = M0.2.1 446 3 ∧ Sm 453 454 M0 z.2 ∧ (∀ j, j < 226 → z.2.2.1 453 (226 * k + j) = M0.2.1 446 j) ∧ ∀ j, j < 226 * k ∨ 226 * k + 226 ≤ j → z.2.2.1 453 j = M0.2.1 453 j
  | _, _, 0, _, _, hf, _, _, _ => absurd hf (Nat.not_lt_zero _)
  | 0, i, f + 1, M, hi, hf, hS, h, h' => by
    unfold f_Model_image_43
    simp (disch := omega) only [i32_lt, i32_le, i32_eq, i32_add, i32_mul, i32_neg, i32_nn, i32_ne1, i32_n1e, n1_lt_i32, i32_le_n1, i32_dec, i32_cl, rd_i32, ix_i32, wr_i32, pI_s, pR_s, pC_s, pZ_0, pZ_1, Option.bind_some, ite_true, ite_false, if_true, if_false, gIL, gRI, nlt_0, l0_lt, nle_0, l0_le, neq_0, nadd_0, nmul_0, nmul'_0, nadd'_0, nsub_0, nlt_1, l1_lt, nle_1, l1_le, neq_1, nadd_1, nmul_1, nmul'_1, nadd'_1, nsub_1, nlt_2, l2_lt, nle_2, l2_le, neq_2, nadd_2, nmul_2, nmul'_2, nadd'_2, nsub_2, nlt_3, l3_lt, nle_3, l3_le, neq_3, nadd_3, nmul_3, nmul'_3, nadd'_3, nsub_3, nlt_4, l4_lt, nle_4, l4_le, neq_4, nadd_4, nmul_4, nmul'_4, nadd'_4, nsub_4, nlt_5, l5_lt, nle_5, l5_le, neq_5, nadd_5, nmul_5, nmul'_5, nadd'_5, nsub_5, nlt_6, l6_lt, nle_6, l6_le, neq_6, nadd_6, nmul_6, nmul'_6, nadd'_6, nsub_6, nlt_7, l7_lt, nle_7, l7_le, neq_7, nadd_7, nmul_7, nmul'_7, nadd'_7, nsub_7, nlt_8, l8_lt, nle_8, l8_le, neq_8, nadd_8, nmul_8, nmul'_8, nadd'_8, nsub_8, nlt_9, l9_lt, nle_9, l9_le, neq_9, nadd_9, nmul_9, nmul'_9, nadd'_9, nsub_9, nlt_10, l10_lt, nle_10, l10_le, neq_10, nadd_10, nmul_10, nmul'_10, nadd'_10, nsub_10, nlt_11, l11_lt, nle_11, l11_le, neq_11, nadd_11, nmul_11, nmul'_11, nadd'_11, nsub_11, nlt_12, l12_lt, nle_12, l12_le, neq_12, nadd_12, nmul_12, nmul'_12, nadd'_12, nsub_12, nlt_13, l13_lt, nle_13, l13_le, neq_13, nadd_13, nmul_13, nmul'_13, nadd'_13, nsub_13, nlt_20, l20_lt, nle_20, l20_le, neq_20, nadd_20, nmul_20, nmul'_20, nadd'_20, nsub_20, nlt_400, l400_lt, nle_400, l400_le, neq_400, nadd_400, nmul_400, nmul'_400, nadd'_400, nsub_400, rd_0, wr_0, rd_1, wr_1, rd_2, wr_2, rd_3, wr_3, rd_4, wr_4, rd_5, wr_5, rd_6, wr_6, rd_7, wr_7, rd_8, wr_8, rd_9, wr_9, rd_10, wr_10, rd_11, wr_11, rd_12, wr_12, nlt_226, l226_lt, nle_226, l226_le, neq_226, nadd_226, nmul_226, nmul'_226, nadd'_226, nsub_226]
    rw [if_pos (by omega)]
    exact OK_some ⟨by show M.2.1 446 3 = _; rw [Sm_i hS (by omega)], hS, fun j hj => h j (by omega), h'⟩
  | d + 1, i, f + 1, M, hi, hf, hS, h, h' => by
    unfold f_Model_image_43
    simp (disch := omega) only [i32_lt, i32_le, i32_eq, i32_add, i32_mul, i32_neg, i32_nn, i32_ne1, i32_n1e, n1_lt_i32, i32_le_n1, i32_dec, i32_cl, rd_i32, ix_i32, wr_i32, pI_s, pR_s, pC_s, pZ_0, pZ_1, Option.bind_some, ite_true, ite_false, if_true, if_false, gIL, gRI, nlt_0, l0_lt, nle_0, l0_le, neq_0, nadd_0, nmul_0, nmul'_0, nadd'_0, nsub_0, nlt_1, l1_lt, nle_1, l1_le, neq_1, nadd_1, nmul_1, nmul'_1, nadd'_1, nsub_1, nlt_2, l2_lt, nle_2, l2_le, neq_2, nadd_2, nmul_2, nmul'_2, nadd'_2, nsub_2, nlt_3, l3_lt, nle_3, l3_le, neq_3, nadd_3, nmul_3, nmul'_3, nadd'_3, nsub_3, nlt_4, l4_lt, nle_4, l4_le, neq_4, nadd_4, nmul_4, nmul'_4, nadd'_4, nsub_4, nlt_5, l5_lt, nle_5, l5_le, neq_5, nadd_5, nmul_5, nmul'_5, nadd'_5, nsub_5, nlt_6, l6_lt, nle_6, l6_le, neq_6, nadd_6, nmul_6, nmul'_6, nadd'_6, nsub_6, nlt_7, l7_lt, nle_7, l7_le, neq_7, nadd_7, nmul_7, nmul'_7, nadd'_7, nsub_7, nlt_8, l8_lt, nle_8, l8_le, neq_8, nadd_8, nmul_8, nmul'_8, nadd'_8, nsub_8, nlt_9, l9_lt, nle_9, l9_le, neq_9, nadd_9, nmul_9, nmul'_9, nadd'_9, nsub_9, nlt_10, l10_lt, nle_10, l10_le, neq_10, nadd_10, nmul_10, nmul'_10, nadd'_10, nsub_10, nlt_11, l11_lt, nle_11, l11_le, neq_11, nadd_11, nmul_11, nmul'_11, nadd'_11, nsub_11, nlt_12, l12_lt, nle_12, l12_le, neq_12, nadd_12, nmul_12, nmul'_12, nadd'_12, nsub_12, nlt_13, l13_lt, nle_13, l13_le, neq_13, nadd_13, nmul_13, nmul'_13, nadd'_13, nsub_13, nlt_20, l20_lt, nle_20, l20_le, neq_20, nadd_20, nmul_20, nmul'_20, nadd'_20, nsub_20, nlt_400, l400_lt, nle_400, l400_le, neq_400, nadd_400, nmul_400, nmul'_400, nadd'_400, nsub_400, rd_0, wr_0, rd_1, wr_1, rd_2, wr_2, rd_3, wr_3, rd_4, wr_4, rd_5, wr_5, rd_6, wr_6, rd_7, wr_7, rd_8, wr_8, rd_9, wr_9, rd_10, wr_10, rd_11, wr_11, rd_12, wr_12, nlt_226, l226_lt, nle_226, l226_le, neq_226, nadd_226, nmul_226, nmul'_226, nadd'_226, nsub_226]
    rw [if_neg (by omega)]
    refine m_image43 hk d (i + 1) f _ (by omega) (by omega) (Sm_trans hS (Sm_I (by omega))) (fun j hj => ?_) fun j hj => ?_
    · by_cases c : j = i
      · subst c
        rw [gIe, Sm_i hS (by omega)]
      · rw [gIo (by omega)]
        exact h j (by omega)
    · rw [gIo (by omega)]
      exact h' j hj
theorem m_back50 {M0 : mM} {k : Nat} (hk : k < 4) : ∀ (d i f : Nat) (M : mM), i + d = 226 → d < f → Sm 446 447 M0 M → (∀ j, j < i → M.2.1 446 j = M0.2.1 453 (226 * k + j)) → OK (f_Model_back_50 (i32 k) f (i32 i) M) fun z => z.1 = z.2.2.1 446 3 ∧ Sm 446 447 M0 z.2 ∧ (∀ j, j < 226 → z.2.2.1 446 j = M0.2.1 453 (226 * k + j))
  | _, _, 0, _, _, hf, _, _ => absurd hf (Nat.not_lt_zero _)
  | 0, i, f + 1, M, hi, hf, hS, h => by
    unfold f_Model_back_50
    simp (disch := omega) only [i32_lt, i32_le, i32_eq, i32_add, i32_mul, i32_neg, i32_nn, i32_ne1, i32_n1e, n1_lt_i32, i32_le_n1, i32_dec, i32_cl, rd_i32, ix_i32, wr_i32, pI_s, pR_s, pC_s, pZ_0, pZ_1, Option.bind_some, ite_true, ite_false, if_true, if_false, gIL, gRI, nlt_0, l0_lt, nle_0, l0_le, neq_0, nadd_0, nmul_0, nmul'_0, nadd'_0, nsub_0, nlt_1, l1_lt, nle_1, l1_le, neq_1, nadd_1, nmul_1, nmul'_1, nadd'_1, nsub_1, nlt_2, l2_lt, nle_2, l2_le, neq_2, nadd_2, nmul_2, nmul'_2, nadd'_2, nsub_2, nlt_3, l3_lt, nle_3, l3_le, neq_3, nadd_3, nmul_3, nmul'_3, nadd'_3, nsub_3, nlt_4, l4_lt, nle_4, l4_le, neq_4, nadd_4, nmul_4, nmul'_4, nadd'_4, nsub_4, nlt_5, l5_lt, nle_5, l5_le, neq_5, nadd_5, nmul_5, nmul'_5, nadd'_5, nsub_5, nlt_6, l6_lt, nle_6, l6_le, neq_6, nadd_6, nmul_6, nmul'_6, nadd'_6, nsub_6, nlt_7, l7_lt, nle_7, l7_le, neq_7, nadd_7, nmul_7, nmul'_7, nadd'_7, nsub_7, nlt_8, l8_lt, nle_8, l8_le, neq_8, nadd_8, nmul_8, nmul'_8, nadd'_8, nsub_8, nlt_9, l9_lt, nle_9, l9_le, neq_9, nadd_9, nmul_9, nmul'_9, nadd'_9, nsub_9, nlt_10, l10_lt, nle_10, l10_le, neq_10, nadd_10, nmul_10, nmul'_10, nadd'_10, nsub_10, nlt_11, l11_lt, nle_11, l11_le, neq_11, nadd_11, nmul_11, nmul'_11, nadd'_11, nsub_11, nlt_12, l12_lt, nle_12, l12_le, neq_12, nadd_12, nmul_12, nmul'_12, nadd'_12, nsub_12, nlt_13, l13_lt, nle_13, l13_le, neq_13, nadd_13, nmul_13, nmul'_13, nadd'_13, nsub_13, nlt_20, l20_lt, nle_20, l20_le, neq_20, nadd_20, nmul_20, nmul'_20, nadd'_20, nsub_20, nlt_400, l400_lt, nle_400, l400_le, neq_400, nadd_400, nmul_400, nmul'_400, nadd'_400, nsub_400, rd_0, wr_0, rd_1, wr_1, rd_2, wr_2, rd_3, wr_3, rd_4, wr_4, rd_5, wr_5, rd_6, wr_6, rd_7, wr_7, rd_8, wr_8, rd_9, wr_9, rd_10, wr_10, rd_11, wr_11, rd_12, wr_12, nlt_226, l226_lt, nle_226, l226_le, neq_226, nadd_226, nmul_226, nmul'_226, nadd'_226, nsub_226]
    rw [if_pos (by omega)]
    exact OK_some ⟨rfl, hS, fun j hj => h j (by omega)⟩
  | d + 1, i, f + 1, M, hi, hf, hS, h => by
    unfold f_Model_back_50
    simp (disch := omega) only [i32_lt, i32_le, i32_eq, i32_add, i32_mul, i32_neg, i32_nn, i32_ne1, i32_n1e, n1_lt_i32, i32_le_n1, i32_dec, i32_cl, rd_i32, ix_i32, wr_i32, pI_s, pR_s, pC_s, pZ_0, pZ_1, Option.bind_some, ite_true, ite_false, if_true, if_false, gIL, gRI, nlt_0, l0_lt, nle_0, l0_le, neq_0, nadd_0, nmul_0, nmul'_0, nadd'_0, nsub_0, nlt_1, l1_lt, nle_1, l1_le, neq_1, nadd_1, nmul_1, nmul'_1, nadd'_1, nsub_1, nlt_2, l2_lt, nle_2, l2_le, neq_2, nadd_2, nmul_2, nmul'_2, nadd'_2, nsub_2, nlt_3, l3_lt, nle_3, l3_le, neq_3, nadd_3, nmul_3, nmul'_3, nadd'_3, nsub_3, nlt_4, l4_lt, nle_4, l4_le, neq_4, nadd_4, nmul_4, nmul'_4, nadd'_4, nsub_4, nlt_5, l5_lt, nle_5, l5_le, neq_5, nadd_5, nmul_5, nmul'_5, nadd'_5, nsub_5, nlt_6, l6_lt, nle_6, l6_le, neq_6, nadd_6, nmul_6, nmul'_6, nadd'_6, nsub_6, nlt_7, l7_lt, nle_7, l7_le, neq_7, nadd_7, nmul_7, nmul'_7, nadd'_7, nsub_7, nlt_8, l8_lt, nle_8, l8_le, neq_8, nadd_8, nmul_8, nmul'_8, nadd'_8, nsub_8, nlt_9, l9_lt, nle_9, l9_le, neq_9, nadd_9, nmul_9, nmul'_9, nadd'_9, nsub_9, nlt_10, l10_lt, nle_10, l10_le, neq_10, nadd_10, nmul_10, nmul'_10, nadd'_10, nsub_10, nlt_11, l11_lt, nle_11, l11_le, neq_11, nadd_11, nmul_11, nmul'_11, nadd'_11, nsub_11, nlt_12, l12_lt, nle_12, l12_le, neq_12, nadd_12, nmul_12, nmul'_12, nadd'_12, nsub_12, nlt_13, l13_lt, nle_13, l13_le, neq_13, nadd_13, nmul_13, nmul'_13, nadd'_13, nsub_13, nlt_20, l20_lt, nle_20, l20_le, neq_20, nadd_20, nmul_20, nmul'_20, nadd'_20, nsub_20, nlt_400, l400_lt, nle_400, l400_le, neq_400, nadd_400, nmul_400, nmul'_400, nadd'_400, nsub_400, rd_0, wr_0, rd_1, wr_1, rd_2, wr_2, rd_3, wr_3, rd_4, wr_4, rd_5, wr_5, rd_6, wr_6, rd_7, wr_7, rd_8, wr_8, rd_9, wr_9, rd_10, wr_10, rd_11, wr_11, rd_12, wr_12, nlt_226, l226_lt, nle_226, l226_le, neq_226, nadd_226, nmul_226, nmul'_226, nadd'_226, nsub_226]
    rw [if_neg (by omega)]
    refine m_back50 hk d (i + 1) f _ (by omega) (by omega) (Sm_trans hS (Sm_I (by omega))) fun j hj => ?_
    by_cases c : j = i
    · subst c
      rw [gIe, Sm_i hS (by omega)]
    · rw [gIo (by omega)]
      exact h j (by omega)
theorem narZ1 : vp_nar .boolean 1 = 1 := by decide
theorem c_img {k : Nat} {M : mM} (hk : k < 4) : f_GraveRails_imageNumber (i32 k) M = some (some (344 + 23 * k), M) := by
  unfold f_GraveRails_imageNumber
  rw [if_neg (fun z => (i32_neg (a := k) (by omega)).mp z), if_neg (by rw [show (4 : Int32) = i32 4 from rfl, i32_le (by omega) (by omega)]; omega), ix_i32 hk (by omega)]
  rfl
theorem c_imgX {k : Nat} {M : mM} (h1 : k < 2147483648) (hk : ¬ k < 4) : f_GraveRails_imageNumber (i32 k) M = some (none, M) := by
  unfold f_GraveRails_imageNumber
  rw [if_neg (fun z => (i32_neg h1).mp z), if_pos (by rw [show (4 : Int32) = i32 4 from rfl, i32_le (by omega) h1]; omega)]
theorem c_imgN {x1 : Int32} {M : mM} (h1 : x1 < 0) : f_GraveRails_imageNumber x1 M = some (none, M) := if_pos h1
theorem both_image {x1 : Int32} {M : mM} (hi : Inv M) : Both (f_GraveRails_image x1) (f_Model_image x1) M := by
  have hi' := hi
  obtain ⟨g, hg, hc, hm⟩ := hi
  rcases i32_cases x1 with h1 | ⟨k, h1, rfl⟩
  · refine both_pure hi' ⟨-1, by unfold f_GraveRails_image; rw [c_imgN h1, Option.bind_some]; exact if_pos rfl, ?_⟩
    unfold f_Model_image
    rw [m_inN (lo := 0) (hi := 3) h1 (by omega)]
    exact bnd (if_pos rfl)
  · by_cases hk : k < 4
    · have hx : VG (g.1, g.2.1, g.2.2.1, g.2.2.2.1, bup g.2.2.2.2 k (some g.1)) := by
        refine ⟨hg.1, hg.2.1, hg.2.2.1, hg.2.2.2.1, hg.2.2.2.2.1, hg.2.2.2.2.2.1, hg.2.2.2.2.2.2.1, hg.2.2.2.2.2.2.2.1, fun j w hj => ?_⟩
        have hj' : bup g.2.2.2.2 k (some g.1) j = some w := hj
        by_cases q : j = k
        · subst q
          rw [bup_e] at hj'
          cases hj'
          exact ⟨hg.1, hg.2.1⟩
        · rw [bup_o q] at hj'
          exact hg.2.2.2.2.2.2.2.2 j w hj'
      refine both_do (v := i32 g.1.2.1.1) hm hx ?_ fun M' hm' => ?_
      · unfold f_GraveRails_image
        rw [c_img hk, Option.bind_some]
        dsimp only
        rw [if_sm, nnl_s (ar_wo hk).1, Option.bind_some]
        refine OK_bind (c_copyWorld (S := 344 + 23 * k) (T := 20) (by omega) hg.1 hc.1) fun M1 q1 => ?_
        obtain ⟨q1, q2, q3⟩ := q1
        simp (disch := omega) only [pZ_1, Option.bind_some, gIp]
        have e0 : M1.2.1 29 0 = i32 g.1.2.1.1 := by rw [Sm_i q2 (by omega)]; exact hc.1.2.1.1.1
        have ep : ∀ p, p < 344 + 23 * k ∨ 344 + 23 * k + 23 ≤ p → (msI M1 (344 + 23 * k) 5 1).2.1 p = M.2.1 p := fun p hp => by rw [gIp (by omega), Sm_i q2 (by omega)]
        obtain ⟨c1, c2, c3, c4, c5, c6, c7⟩ := hc
        have hU : CU g.2.2.1 (msI M1 (344 + 23 * k) 5 1) := CU_of c3 (ep 0 (by omega)) fun p a b => ep p (by have := hg.2.2.2.2.1; omega)
        refine OK_some ⟨e0, ⟨CW_of c1 fun j hj => ep _ (by omega), CP_of c2 (by rw [ep 1 (by omega)]) (ep 2 (by omega)), hU, CA_of c4 fun p a b => ep p (by omega), fun j hj => ?_, CE_of c6 fun p hp => ep p (by omega), CZ_of c7 (fun p hp => ep p (by omega)) ?_⟩, Sm_le (Sm_trans q2 (Sm_I (by omega))) (by omega) (by omega)⟩
        · show CI (344 + 23 * j) (bup g.2.2.2.2 k (some g.1) j) _
          by_cases q : j = k
          · subst q
            rw [bup_e]
            obtain ⟨w1, w2, w3, w4, w5⟩ := q1
            refine ⟨gIe _ _ _ _, CY_of w1 fun j hj => gIp (by omega), CSX_of w2 fun j hj => gIp (by omega), CG_of w3 fun j hj => gIp (by omega), ?_, ?_⟩
            · rw [gIo (by omega)]; exact w4
            · rw [gIo (by omega)]; exact w5
          · rw [bup_o q]
            exact CI_of (c5 j hj) fun i hi => ep _ (by omega)
        · show M1.2.2.2 269 = _
          rw [Sm_r q2 (by omega)]
      · unfold f_Model_image
        rw [m_inY (lo := 0) (hi := 3) ⟨Nat.zero_le _, by omega⟩ (by omega)]
        simp (disch := omega) only [Option.bind_some, d10, if_false, wrZ_i32, wr_i32, narZ1]
        refine OK_imp (m_image43 hk 226 0 FUEL _ rfl (by rw [FUEL_eq]; omega) (Sm_refl _ _ _) (fun j hj => by omega) fun _ _ => rfl) fun z hz => ?_
        obtain ⟨z1, z2, z3, z4⟩ := hz
        have ep : ∀ p, p ≠ 453 → p ≠ 454 → p ≠ 455 → p ≠ 456 → z.2.2.1 p = M'.2.1 p := fun p a b c d => by rw [Sm_i z2 (by omega), gIp (by omega), gIp (by omega), gIp (by omega)]
        have e6 : z.2.2.1 456 = (msI M' 456 k 1).2.1 456 := by rw [Sm_i z2 (by omega), gIp (by omega), gIp (by omega)]
        have x21 : (msI M' 456 k 1).2.1 436 21 = M'.2.1 436 21 := by rw [gIp (show 436 ≠ 456 by omega)]
        have x22 : (msI (msI M' 456 k 1) 454 k ((msI M' 456 k 1).2.1 436 21)).2.1 436 22 = M'.2.1 436 22 := by rw [gIp (show 436 ≠ 454 by omega), gIp (show 436 ≠ 456 by omega)]
        have e4 : ∀ j, z.2.2.1 454 j = (msI M' 454 k (M'.2.1 436 21)).2.1 454 j := fun j => by
          rw [Sm_i z2 (by omega), gIp (show 454 ≠ 455 by omega), x21]
          by_cases q : j = k
          · rw [q, gIe, gIe]
          · rw [gIo q, gIo q, gIp (show 454 ≠ 456 by omega)]
        have e5 : ∀ j, z.2.2.1 455 j = (msI M' 455 k (M'.2.1 436 22)).2.1 455 j := fun j => by
          rw [Sm_i z2 (by omega), x22]
          by_cases q : j = k
          · rw [q, gIe, gIe]
          · rw [gIo q, gIo q, gIp (show 455 ≠ 454 by omega), gIp (show 455 ≠ 456 by omega)]
        have e446 := ep 446 (by omega) (by omega) (by omega) (by omega)
        have e436 := ep 436 (by omega) (by omega) (by omega) (by omega)
        obtain ⟨y1, h2, h3, h4, h5, h6, h7, h8⟩ := hm'
        refine ⟨?_, ⟨by rw [e446]; exact y1, by rw [e436]; exact h2, by rw [e436]; exact h3, by rw [e436]; exact h4, ⟨by rw [e436]; exact h5.1, by rw [ep 437 (by omega) (by omega) (by omega) (by omega)]; exact h5.2⟩, ⟨by rw [e436]; exact h6.1, fun j hj => RMk_of (h6.2 j hj) (fun i _ => by rw [ep 438 (by omega) (by omega) (by omega) (by omega)]) (fun i _ => by rw [ep 440 (by omega) (by omega) (by omega) (by omega)]) (by rw [ep 441 (by omega) (by omega) (by omega) (by omega)])⟩, ⟨by rw [e436]; exact h7.1, by rw [ep 449 (by omega) (by omega) (by omega) (by omega)]; exact h7.2⟩, fun j hj => ?_⟩, Sm_trans (Sm_trans (Sm_trans (Sm_I (by omega)) (Sm_I (by omega))) (Sm_I (by omega))) (Sm_le z2 (by omega) (by omega))⟩
        · rw [z1, gIp (by omega), gIp (by omega), gIp (by omega)]
          exact y1.1.1.2.2.2.1
        · show MI j (bup g.2.2.2.2 k (some g.1) j) _
          by_cases q : j = k
          · subst q
            rw [bup_e]
            refine ⟨by rw [e6, gIe], by rw [e4, gIe]; exact h2, by rw [e5, gIe]; exact h3, MW_of hg.1 y1 fun i hi => ?_⟩
            rw [z3 i hi, gIp (by omega), gIp (by omega), gIp (by omega)]
          · rw [bup_o q]
            have := h8 j hj
            unfold MI at this ⊢
            rw [e6, e4, e5, gIo q, gIo q, gIo q]
            cases ho : g.2.2.2.2 j with
            | none => rw [ho] at this; exact this
            | some w =>
              rw [ho] at this
              refine ⟨this.1, this.2.1, this.2.2.1, MW_of (hg.2.2.2.2.2.2.2.2 j w ho).1 this.2.2.2 fun i hi => ?_⟩
              rw [z4 _ (by omega), gIp (by omega), gIp (by omega), gIp (by omega)]
    · refine both_pure hi' ⟨-1, ?_, ?_⟩
      · unfold f_GraveRails_image
        rw [c_imgX h1 hk, Option.bind_some]
        exact if_pos rfl
      · unfold f_Model_image
        rw [m_inX (lo := 0) (hi := 3) h1 (by omega) (by omega) (by omega)]
        exact bnd (if_pos rfl)
