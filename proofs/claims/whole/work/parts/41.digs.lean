/-! ===== a grave dug ===== -/
def dgB (l c k : Nat) (yr : Int32) : B := (some (l, c), k, 0, -1, yr, 0)
def dgS (s : Sx) (l c k : Nat) : Sx := (s.1, s.2.1 + 1, bup s.2.2.1 s.2.1 (dgB l c k (i32 s.1)), bup s.2.2.2 s.2.1 (some (l, c)))
theorem c_add {S : Nat} {s : Sx} {M : mM} (h : CSX S s M) (hn : s.2.1 ≤ 10) {l c k : Nat} : OK (f_State_add S (i32 l) (i32 c) (i32 k) M) fun M' => CSX S (dgS s l c k) M' ∧ Sm S (S + 10) M M' := by
  obtain ⟨⟨h0, h1, h2, h3, h4⟩, h5⟩ := h
  unfold f_State_add
  simp (disch := omega) only [i32_lt, i32_le, i32_eq, i32_add, i32_mul, i32_neg, i32_nn, i32_ne1, i32_n1e, n1_lt_i32, i32_le_n1, i32_dec, i32_cl, rd_i32, ix_i32, wr_i32, pI_s, pR_s, pC_s, pZ_0, pZ_1, Option.bind_some, ite_true, ite_false, if_true, if_false, gIL, gRI, nlt_0, l0_lt, nle_0, l0_le, neq_0, nadd_0, nmul_0, nmul'_0, nadd'_0, nsub_0, nlt_1, l1_lt, nle_1, l1_le, neq_1, nadd_1, nmul_1, nmul'_1, nadd'_1, nsub_1, nlt_2, l2_lt, nle_2, l2_le, neq_2, nadd_2, nmul_2, nmul'_2, nadd'_2, nsub_2, nlt_3, l3_lt, nle_3, l3_le, neq_3, nadd_3, nmul_3, nmul'_3, nadd'_3, nsub_3, nlt_4, l4_lt, nle_4, l4_le, neq_4, nadd_4, nmul_4, nmul'_4, nadd'_4, nsub_4, nlt_5, l5_lt, nle_5, l5_le, neq_5, nadd_5, nmul_5, nmul'_5, nadd'_5, nsub_5, nlt_6, l6_lt, nle_6, l6_le, neq_6, nadd_6, nmul_6, nmul'_6, nadd'_6, nsub_6, nlt_7, l7_lt, nle_7, l7_le, neq_7, nadd_7, nmul_7, nmul'_7, nadd'_7, nsub_7, nlt_8, l8_lt, nle_8, l8_le, neq_8, nadd_8, nmul_8, nmul'_8, nadd'_8, nsub_8, nlt_9, l9_lt, nle_9, l9_le, neq_9, nadd_9, nmul_9, nmul'_9, nadd'_9, nsub_9, nlt_10, l10_lt, nle_10, l10_le, neq_10, nadd_10, nmul_10, nmul'_10, nadd'_10, nsub_10, nlt_11, l11_lt, nle_11, l11_le, neq_11, nadd_11, nmul_11, nmul'_11, nadd'_11, nsub_11, nlt_12, l12_lt, nle_12, l12_le, neq_12, nadd_12, nmul_12, nmul'_12, nadd'_12, nsub_12, nlt_13, l13_lt, nle_13, l13_le, neq_13, nadd_13, nmul_13, nmul'_13, nadd'_13, nsub_13, nlt_20, l20_lt, nle_20, l20_le, neq_20, nadd_20, nmul_20, nmul'_20, nadd'_20, nsub_20, nlt_400, l400_lt, nle_400, l400_le, neq_400, nadd_400, nmul_400, nmul'_400, nadd'_400, nsub_400, rd_0, wr_0, rd_1, wr_1, rd_2, wr_2, rd_3, wr_3, rd_4, wr_4, rd_5, wr_5, rd_6, wr_6, rd_7, wr_7, rd_8, wr_8, rd_9, wr_9, rd_10, wr_10, rd_11, wr_11, rd_12, wr_12, gIe, gIp, gIo, gCe, gCn, gRI, gLI, gIR, gCR, gLR, gRe, gRo, gRp, gIl, h0, h1]
  rw [if_pos (by omega)]
  refine OK_some ⟨⟨⟨?_, ?_, ?_, ?_, fun g hg => ?_⟩, fun g hg => ?_⟩, ?_⟩
  · show _ = i32 s.1
    simp (disch := omega) only [gIe, gIp, gIo, gCe, gCn, gRI, gLI, gIR, gCR, gLR, gRe, gRo, gRp, gIl, h0]
  · show _ = i32 (s.2.1 + 1)
    simp (disch := omega) only [gIe, gIp, gIo, gCe, gCn, gRI, gLI, gIR, gCR, gLR, gRe, gRo, gRp, gIl]
  · show _ = i32 (fMany (bup s.2.2.1 s.2.1 (dgB l c k (i32 s.1))) (s.2.1 + 1))
    rw [fMany, fMany_out (Nat.le_refl _), bup_e]
    simp (disch := omega) only [gIe, gIp, gIo, gCe, gCn, gRI, gLI, gIR, gCR, gLR, gRe, gRo, gRp, gIl, h2, dgB, reduceCtorEq, if_false, Nat.add_zero]
  · show s.2.1 + 1 ≤ 11
    omega
  · have hg' : g < s.2.1 + 1 := hg
    show CB S g (bup s.2.2.1 s.2.1 (dgB l c k (i32 s.1)) g) _
    by_cases q : g = s.2.1
    · subst q
      rw [bup_e]
      unfold CB dgB
      simp (disch := omega) only [gIe, gIp, gIo, gCe, gCn, gRI, gLI, gIR, gCR, gLR, gRe, gRo, gRp, gIl, eL, eC]
      exact ⟨trivial, trivial, trivial, rfl, trivial, trivial, trivial⟩
    · rw [bup_o q]
      obtain ⟨a1, a2, a3, a4, a5, a6, a7⟩ := h4 g (by omega)
      unfold CB
      simp (disch := omega) only [gIe, gIp, gIo, gCe, gCn, gRI, gLI, gIR, gCR, gLR, gRe, gRo, gRp, gIl, a1, a2, a3, a4, a5, a6, a7, and_self]
  · have hg' : g < s.2.1 + 1 := hg
    show _ = eL (bup s.2.2.2 s.2.1 (some (l, c)) g) ∧ _ = eC (bup s.2.2.2 s.2.1 (some (l, c)) g)
    by_cases q : g = s.2.1
    · subst q
      rw [bup_e]
      simp (disch := omega) only [gIe, gIp, gIo, gCe, gCn, gRI, gLI, gIR, gCR, gLR, gRe, gRo, gRp, gIl, eL, eC, and_self]
    · rw [bup_o q]
      have := h5 g (by omega)
      simp (disch := omega) only [gIe, gIp, gIo, gCe, gCn, gRI, gLI, gIR, gCR, gLR, gRe, gRo, gRp, gIl, this, and_self]
  · intro p hp
    simp (disch := omega) only [gIe, gIp, gIo, gCe, gCn, gRI, gLI, gIR, gCR, gLR, gRe, gRo, gRp, gIl, and_self]
/-- the model's row behind digs -/
def Dg (n l c k : Nat) (yr : Int32) (F F' : Nat → Int32) : Prop := F' (10 + 9 * n) = i32 l ∧ F' (10 + 9 * n + 1) = i32 c ∧ F' (10 + 9 * n + 2) = i32 k ∧ F' (10 + 9 * n + 3) = 0 ∧ F' (10 + 9 * n + 4) = -1 ∧ F' (10 + 9 * n + 5) = yr ∧ F' (10 + 9 * n + 6) = -1 ∧ F' (10 + 9 * n + 7) = 0 ∧ F' (10 + 9 * n + 8) = 0 ∧ F' (109 + 2 * n) = i32 l ∧ F' (109 + 2 * n + 1) = i32 c ∧ F' 2 = i32 (n + 1) ∧ ∀ i, i ≠ 2 → (i < 10 + 9 * n ∨ 10 + 9 * n + 9 ≤ i) → i ≠ 109 + 2 * n → i ≠ 109 + 2 * n + 1 → F' i = F i
theorem m_digs21 {M0 : mM} {n l c k : Nat} (hn : n ≤ 10) (h2 : M0.2.1 446 2 = i32 n) : ∀ (d i f : Nat) (M : mM), i + d = 9 → d < f → Sm 446 447 M0 M → (∀ j, j < i → M.2.1 446 (10 + 9 * n + j) = 0) → (∀ j, j < 10 + 9 * n ∨ 10 + 9 * n + 9 ≤ j → M.2.1 446 j = M0.2.1 446 j) → OK (f_Model_digs_21 (i32 l) (i32 c) (i32 k) f (i32 n) (i32 (10 + 9 * n)) (i32 i) M) fun M' => Sm 446 447 M0 M' ∧ Dg n l c k (M0.2.1 446 3) (M0.2.1 446) (M'.2.1 446)
  | _, _, 0, _, _, hf, _, _, _ => absurd hf (Nat.not_lt_zero _)
  | 0, i, f + 1, M, hi, hf, hS, h, h' => by
    have e2 : M.2.1 446 2 = i32 n := (h' 2 (by omega)).trans h2
    have e3 : M.2.1 446 3 = M0.2.1 446 3 := h' 3 (by omega)
    unfold f_Model_digs_21
    simp (disch := omega) only [i32_lt, i32_le, i32_eq, i32_add, i32_mul, i32_neg, i32_nn, i32_ne1, i32_n1e, n1_lt_i32, i32_le_n1, i32_dec, i32_cl, rd_i32, ix_i32, wr_i32, pI_s, pR_s, pC_s, pZ_0, pZ_1, Option.bind_some, ite_true, ite_false, if_true, if_false, gIL, gRI, nlt_0, l0_lt, nle_0, l0_le, neq_0, nadd_0, nmul_0, nmul'_0, nadd'_0, nsub_0, nlt_1, l1_lt, nle_1, l1_le, neq_1, nadd_1, nmul_1, nmul'_1, nadd'_1, nsub_1, nlt_2, l2_lt, nle_2, l2_le, neq_2, nadd_2, nmul_2, nmul'_2, nadd'_2, nsub_2, nlt_3, l3_lt, nle_3, l3_le, neq_3, nadd_3, nmul_3, nmul'_3, nadd'_3, nsub_3, nlt_4, l4_lt, nle_4, l4_le, neq_4, nadd_4, nmul_4, nmul'_4, nadd'_4, nsub_4, nlt_5, l5_lt, nle_5, l5_le, neq_5, nadd_5, nmul_5, nmul'_5, nadd'_5, nsub_5, nlt_6, l6_lt, nle_6, l6_le, neq_6, nadd_6, nmul_6, nmul'_6, nadd'_6, nsub_6, nlt_7, l7_lt, nle_7, l7_le, neq_7, nadd_7, nmul_7, nmul'_7, nadd'_7, nsub_7, nlt_8, l8_lt, nle_8, l8_le, neq_8, nadd_8, nmul_8, nmul'_8, nadd'_8, nsub_8, nlt_9, l9_lt, nle_9, l9_le, neq_9, nadd_9, nmul_9, nmul'_9, nadd'_9, nsub_9, nlt_10, l10_lt, nle_10, l10_le, neq_10, nadd_10, nmul_10, nmul'_10, nadd'_10, nsub_10, nlt_11, l11_lt, nle_11, l11_le, neq_11, nadd_11, nmul_11, nmul'_11, nadd'_11, nsub_11, nlt_12, l12_lt, nle_12, l12_le, neq_12, nadd_12, nmul_12, nmul'_12, nadd'_12, nsub_12, nlt_13, l13_lt, nle_13, l13_le, neq_13, nadd_13, nmul_13, nmul'_13, nadd'_13, nsub_13, nlt_20, l20_lt, nle_20, l20_le, neq_20, nadd_20, nmul_20, nmul'_20, nadd'_20, nsub_20, nlt_400, l400_lt, nle_400, l400_le, neq_400, nadd_400, nmul_400, nmul'_400, nadd'_400, nsub_400, rd_0, wr_0, rd_1, wr_1, rd_2, wr_2, rd_3, wr_3, rd_4, wr_4, rd_5, wr_5, rd_6, wr_6, rd_7, wr_7, rd_8, wr_8, rd_9, wr_9, rd_10, wr_10, rd_11, wr_11, rd_12, wr_12, gIe, gIp, gIo, gCe, gCn, gRI, gLI, gIR, gCR, gLR, gRe, gRo, gRp, gIl, nlt_109, l109_lt, nle_109, l109_le, neq_109, nadd_109, nmul_109, nmul'_109, nadd'_109, nsub_109, e2, e3]
    rw [if_pos (by omega)]
    refine OK_some ⟨?_, ?_⟩
    · refine Sm_trans hS fun p hp => ?_
      simp (disch := omega) only [gIe, gIp, gIo, gCe, gCn, gRI, gLI, gIR, gCR, gLR, gRe, gRo, gRp, gIl, and_self]
    · have z3 := h 3 (by omega)
      have z7 := h 7 (by omega)
      have z8 := h 8 (by omega)
      refine ⟨?_, ?_, ?_, ?_, ?_, ?_, ?_, ?_, ?_, ?_, ?_, ?_, fun j j1 j2 j3 j4 => ?_⟩
      · simp (disch := omega) only [gIe, gIp, gIo, gCe, gCn, gRI, gLI, gIR, gCR, gLR, gRe, gRo, gRp, gIl]
      · simp (disch := omega) only [gIe, gIp, gIo, gCe, gCn, gRI, gLI, gIR, gCR, gLR, gRe, gRo, gRp, gIl]
      · simp (disch := omega) only [gIe, gIp, gIo, gCe, gCn, gRI, gLI, gIR, gCR, gLR, gRe, gRo, gRp, gIl]
      · simp (disch := omega) only [gIe, gIp, gIo, gCe, gCn, gRI, gLI, gIR, gCR, gLR, gRe, gRo, gRp, gIl, z3]
      · simp (disch := omega) only [gIe, gIp, gIo, gCe, gCn, gRI, gLI, gIR, gCR, gLR, gRe, gRo, gRp, gIl]
      · simp (disch := omega) only [gIe, gIp, gIo, gCe, gCn, gRI, gLI, gIR, gCR, gLR, gRe, gRo, gRp, gIl]
      · simp (disch := omega) only [gIe, gIp, gIo, gCe, gCn, gRI, gLI, gIR, gCR, gLR, gRe, gRo, gRp, gIl]
      · simp (disch := omega) only [gIe, gIp, gIo, gCe, gCn, gRI, gLI, gIR, gCR, gLR, gRe, gRo, gRp, gIl, z7]
      · simp (disch := omega) only [gIe, gIp, gIo, gCe, gCn, gRI, gLI, gIR, gCR, gLR, gRe, gRo, gRp, gIl, z8]
      · simp (disch := omega) only [gIe, gIp, gIo, gCe, gCn, gRI, gLI, gIR, gCR, gLR, gRe, gRo, gRp, gIl]
      · simp (disch := omega) only [gIe, gIp, gIo, gCe, gCn, gRI, gLI, gIR, gCR, gLR, gRe, gRo, gRp, gIl]
      · simp (disch := omega) only [gIe, gIp, gIo, gCe, gCn, gRI, gLI, gIR, gCR, gLR, gRe, gRo, gRp, gIl]
      · simp (disch := omega) only [gIe, gIp, gIo, gCe, gCn, gRI, gLI, gIR, gCR, gLR, gRe, gRo, gRp, gIl]
        exact h' j j2
  | d + 1, i, f + 1, M, hi, hf, hS, h, h' => by
    unfold f_Model_digs_21
    simp (disch := omega) only [i32_lt, i32_le, i32_eq, i32_add, i32_mul, i32_neg, i32_nn, i32_ne1, i32_n1e, n1_lt_i32, i32_le_n1, i32_dec, i32_cl, rd_i32, ix_i32, wr_i32, pI_s, pR_s, pC_s, pZ_0, pZ_1, Option.bind_some, ite_true, ite_false, if_true, if_false, gIL, gRI, nlt_0, l0_lt, nle_0, l0_le, neq_0, nadd_0, nmul_0, nmul'_0, nadd'_0, nsub_0, nlt_1, l1_lt, nle_1, l1_le, neq_1, nadd_1, nmul_1, nmul'_1, nadd'_1, nsub_1, nlt_2, l2_lt, nle_2, l2_le, neq_2, nadd_2, nmul_2, nmul'_2, nadd'_2, nsub_2, nlt_3, l3_lt, nle_3, l3_le, neq_3, nadd_3, nmul_3, nmul'_3, nadd'_3, nsub_3, nlt_4, l4_lt, nle_4, l4_le, neq_4, nadd_4, nmul_4, nmul'_4, nadd'_4, nsub_4, nlt_5, l5_lt, nle_5, l5_le, neq_5, nadd_5, nmul_5, nmul'_5, nadd'_5, nsub_5, nlt_6, l6_lt, nle_6, l6_le, neq_6, nadd_6, nmul_6, nmul'_6, nadd'_6, nsub_6, nlt_7, l7_lt, nle_7, l7_le, neq_7, nadd_7, nmul_7, nmul'_7, nadd'_7, nsub_7, nlt_8, l8_lt, nle_8, l8_le, neq_8, nadd_8, nmul_8, nmul'_8, nadd'_8, nsub_8, nlt_9, l9_lt, nle_9, l9_le, neq_9, nadd_9, nmul_9, nmul'_9, nadd'_9, nsub_9, nlt_10, l10_lt, nle_10, l10_le, neq_10, nadd_10, nmul_10, nmul'_10, nadd'_10, nsub_10, nlt_11, l11_lt, nle_11, l11_le, neq_11, nadd_11, nmul_11, nmul'_11, nadd'_11, nsub_11, nlt_12, l12_lt, nle_12, l12_le, neq_12, nadd_12, nmul_12, nmul'_12, nadd'_12, nsub_12, nlt_13, l13_lt, nle_13, l13_le, neq_13, nadd_13, nmul_13, nmul'_13, nadd'_13, nsub_13, nlt_20, l20_lt, nle_20, l20_le, neq_20, nadd_20, nmul_20, nmul'_20, nadd'_20, nsub_20, nlt_400, l400_lt, nle_400, l400_le, neq_400, nadd_400, nmul_400, nmul'_400, nadd'_400, nsub_400, rd_0, wr_0, rd_1, wr_1, rd_2, wr_2, rd_3, wr_3, rd_4, wr_4, rd_5, wr_5, rd_6, wr_6, rd_7, wr_7, rd_8, wr_8, rd_9, wr_9, rd_10, wr_10, rd_11, wr_11, rd_12, wr_12]
    rw [if_neg (by omega)]
    refine m_digs21 hn h2 d (i + 1) f _ (by omega) (by omega) (Sm_trans hS (Sm_I (by omega))) (fun j hj => ?_) fun j hj => ?_
    · by_cases q : j = i
      · subst q
        rw [gIe]
      · rw [gIo (by omega)]
        exact h j (by omega)
    · rw [gIo (by omega)]
      exact h' j hj
theorem m_digs {M : mM} {n l c k : Nat} (hn : n ≤ 10) (h2 : M.2.1 446 2 = i32 n) : OK (f_Model_digs (i32 l) (i32 c) (i32 k) M) fun M' => Sm 446 447 M M' ∧ Dg n l c k (M.2.1 446 3) (M.2.1 446) (M'.2.1 446) := by
  unfold f_Model_digs
  simp (disch := omega) only [i32_lt, i32_le, i32_eq, i32_add, i32_mul, i32_neg, i32_nn, i32_ne1, i32_n1e, n1_lt_i32, i32_le_n1, i32_dec, i32_cl, rd_i32, ix_i32, wr_i32, pI_s, pR_s, pC_s, pZ_0, pZ_1, Option.bind_some, ite_true, ite_false, if_true, if_false, gIL, gRI, nlt_0, l0_lt, nle_0, l0_le, neq_0, nadd_0, nmul_0, nmul'_0, nadd'_0, nsub_0, nlt_1, l1_lt, nle_1, l1_le, neq_1, nadd_1, nmul_1, nmul'_1, nadd'_1, nsub_1, nlt_2, l2_lt, nle_2, l2_le, neq_2, nadd_2, nmul_2, nmul'_2, nadd'_2, nsub_2, nlt_3, l3_lt, nle_3, l3_le, neq_3, nadd_3, nmul_3, nmul'_3, nadd'_3, nsub_3, nlt_4, l4_lt, nle_4, l4_le, neq_4, nadd_4, nmul_4, nmul'_4, nadd'_4, nsub_4, nlt_5, l5_lt, nle_5, l5_le, neq_5, nadd_5, nmul_5, nmul'_5, nadd'_5, nsub_5, nlt_6, l6_lt, nle_6, l6_le, neq_6, nadd_6, nmul_6, nmul'_6, nadd'_6, nsub_6, nlt_7, l7_lt, nle_7, l7_le, neq_7, nadd_7, nmul_7, nmul'_7, nadd'_7, nsub_7, nlt_8, l8_lt, nle_8, l8_le, neq_8, nadd_8, nmul_8, nmul'_8, nadd'_8, nsub_8, nlt_9, l9_lt, nle_9, l9_le, neq_9, nadd_9, nmul_9, nmul'_9, nadd'_9, nsub_9, nlt_10, l10_lt, nle_10, l10_le, neq_10, nadd_10, nmul_10, nmul'_10, nadd'_10, nsub_10, nlt_11, l11_lt, nle_11, l11_le, neq_11, nadd_11, nmul_11, nmul'_11, nadd'_11, nsub_11, nlt_12, l12_lt, nle_12, l12_le, neq_12, nadd_12, nmul_12, nmul'_12, nadd'_12, nsub_12, nlt_13, l13_lt, nle_13, l13_le, neq_13, nadd_13, nmul_13, nmul'_13, nadd'_13, nsub_13, nlt_20, l20_lt, nle_20, l20_le, neq_20, nadd_20, nmul_20, nmul'_20, nadd'_20, nsub_20, nlt_400, l400_lt, nle_400, l400_le, neq_400, nadd_400, nmul_400, nmul'_400, nadd'_400, nsub_400, rd_0, wr_0, rd_1, wr_1, rd_2, wr_2, rd_3, wr_3, rd_4, wr_4, rd_5, wr_5, rd_6, wr_6, rd_7, wr_7, rd_8, wr_8, rd_9, wr_9, rd_10, wr_10, rd_11, wr_11, rd_12, wr_12, h2]
  exact m_digs21 hn h2 9 0 FUEL M rfl (by rw [FUEL_eq]; omega) (Sm_refl _ _ _) (fun j hj => by omega) fun _ _ => rfl
theorem y_p_out {y : Yd} (hv : VY y) {n : Nat} (hn : y_m y ≤ n) : y_p y n = none := by
  cases h : y_p y n with
  | none => rfl
  | some q =>
    have := (hv.2.2.2.2.2.2.2.1 n q h).1
    omega
theorem y_h_out {y : Yd} (hv : VY y) {n : Nat} (hn : y_m y ≤ n) : y_h y n = false := by
  cases h : y_h y n with
  | false => rfl
  | true =>
    have := hv.2.2.2.2.2.2.2.2.2.2.1 n h
    omega
theorem MSX_dig {y : Yd} {s : Sx} {F F' : Nat → Int32} {l c k : Nat} (h : MSX y s F) (hn : s.2.1 ≤ 10) (hp : y_p y s.2.1 = none) (hh : y_h y s.2.1 = false) (hd : Dg s.2.1 l c k (i32 s.1) F F') : MSX y (dgS s l c k) F' := by
  obtain ⟨⟨m0, m1, m2, m3, m4, m5⟩, t, q, f4, f5, f6⟩ := h
  obtain ⟨d0, d1, d2, d3, d4, d5, d6, d7, d8, t0, t1, e2, e⟩ := hd
  refine ⟨⟨(e 0 (by omega) (by omega) (by omega) (by omega)).trans m0, (e 1 (by omega) (by omega) (by omega) (by omega)).trans m1, e2, (e 3 (by omega) (by omega) (by omega) (by omega)).trans m3, ?_, fun g hg => ?_⟩, fun g hg => ?_, fun g hg => ?_, (e 4 (by omega) (by omega) (by omega) (by omega)).trans f4, (e 5 (by omega) (by omega) (by omega) (by omega)).trans f5, (e 6 (by omega) (by omega) (by omega) (by omega)).trans f6⟩
  · show s.2.1 + 1 ≤ 11
    omega
  · have hg' : g < s.2.1 + 1 := hg
    show MB F' g (bup s.2.2.1 s.2.1 (dgB l c k (i32 s.1)) g) ∧ _
    by_cases c' : g = s.2.1
    · subst c'
      rw [bup_e, hp]
      exact ⟨⟨d0, d1, d2, d3, d4, d5, d7⟩, d6⟩
    · rw [bup_o c']
      obtain ⟨⟨a1, a2, a3, a4, a5, a6, a7⟩, a8⟩ := m5 g (by omega)
      refine ⟨⟨?_, ?_, ?_, ?_, ?_, ?_, ?_⟩, ?_⟩
      · exact (e _ (by omega) (by omega) (by omega) (by omega)).trans a1
      · exact (e _ (by omega) (by omega) (by omega) (by omega)).trans a2
      · exact (e _ (by omega) (by omega) (by omega) (by omega)).trans a3
      · exact (e _ (by omega) (by omega) (by omega) (by omega)).trans a4
      · exact (e _ (by omega) (by omega) (by omega) (by omega)).trans a5
      · exact (e _ (by omega) (by omega) (by omega) (by omega)).trans a6
      · exact (e _ (by omega) (by omega) (by omega) (by omega)).trans a7
      · exact (e _ (by omega) (by omega) (by omega) (by omega)).trans a8
  · have hg' : g < s.2.1 + 1 := hg
    show _ = eL (bup s.2.2.2 s.2.1 (some (l, c)) g) ∧ _ = eC (bup s.2.2.2 s.2.1 (some (l, c)) g)
    by_cases c' : g = s.2.1
    · subst c'
      rw [bup_e]
      exact ⟨t0, t1⟩
    · rw [bup_o c']
      have := t g (by omega)
      exact ⟨(e _ (by omega) (by omega) (by omega) (by omega)).trans this.1, (e _ (by omega) (by omega) (by omega) (by omega)).trans this.2⟩
  · have hg' : g < s.2.1 + 1 := hg
    by_cases c' : g = s.2.1
    · subst c'
      rw [hh]
      exact d8
    · exact (e _ (by omega) (by omega) (by omega) (by omega)).trans (q g (by omega))
theorem V_dig {L C n : Nat} {b : Nat → B} {x : B} {l c : Nat} (h : V L C n b) (hn : n ≤ 10) (hx : x.1 = some (l, c)) (hl : l < L) (hc : c < C) (hk : x.2.1 ≤ 3) (hh : x.2.2.1 = 0) (hf : grv n b l c = none) : V L C (n + 1) (bup b n x) := by
  obtain ⟨h1, h2, h3, h4, h5⟩ := h
  refine ⟨h1, h2, by omega, fun g hg => ?_, fun i j p hi hj pi pj => ?_⟩
  · by_cases q : g = n
    · subst q
      rw [bup_e]
      exact ⟨fun l' c' z => by rw [hx] at z; cases z; exact ⟨hl, hc⟩, hk, by omega, fun _ => hh⟩
    · rw [bup_o q]
      exact h4 g (by omega)
  · by_cases q : i = n
    · by_cases q' : j = n
      · rw [q, q']
      · subst q
        rw [bup_e, hx] at pi
        rw [bup_o q', ← pi] at pj
        exact absurd pj (grv_none hf (by omega))
    · by_cases q' : j = n
      · subst q'
        rw [bup_e, hx] at pj
        rw [bup_o q, ← pj] at pi
        exact absurd pi (grv_none hf (by omega))
      · rw [bup_o q] at pi
        rw [bup_o q'] at pj
        exact h5 i j p (by omega) (by omega) pi pj
theorem VT_dig {n : Nat} {t : Nat → Option (Nat × Nat)} (h : VT n t) {l c : Nat} (hl : l < 4) (hc : c < 20) : VT (n + 1) (bup t n (some (l, c))) := by
  intro g hg l' c' e
  by_cases q : g = n
  · subst q
    rw [bup_e] at e
    cases e
    exact ⟨hl, hc⟩
  · rw [bup_o q] at e
    exact h g (by omega) l' c' e
theorem VF_dig {n : Nat} {b : Nat → B} (h : VF n b) {l c k : Nat} {yr : Int32} : VF (n + 1) (bup b n (dgB l c k yr)) := by
  intro g hg
  by_cases q : g = n
  · subst q
    rw [bup_e]
    exact ⟨fun z => (by cases z), fun _ => rfl⟩
  · rw [bup_o q]
    exact h g (by omega)
theorem VS_dig {y : Yd} {s : Sx} (h : VS y s) (hv : VY y) (hn : s.2.1 < 10) {l c k : Nat} (hl : l < y_L y) (hc : c < y_C y) (hk : k ≤ 3) (hf : grv s.2.1 s.2.2.1 l c = none) : VS y (dgS s l c k) := by
  obtain ⟨h1, h2, h3, h4, h5, h6, h7⟩ := h
  have v1 := hv.1
  have v2 := hv.2.1
  refine ⟨V_dig h1 (by omega) rfl hl hc hk rfl hf, VT_dig h2 (by omega) (by omega), ?_, ?_, h5, VF_dig h6, fun _ => by omega⟩
  · show y_m y ≤ s.2.1 + 1
    omega
  · show s.2.1 + 1 ≤ 10
    omega
