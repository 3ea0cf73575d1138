/-! ===== a year: the model ===== -/
def FrQ (M M' : mM) : Prop := (M'.2.2.2, M'.2.2.1 436) = (M.2.2.2, M.2.2.1 436) ∧ (∀ p, p ≠ 436 → p ≠ 448 → M'.2.1 p = M.2.1 p) ∧ ∀ i, i ≠ 28 → M'.2.1 436 i = M.2.1 436 i
theorem FrQ_refl (M : mM) : FrQ M M := ⟨rfl, fun _ _ _ => rfl, fun _ _ => rfl⟩
theorem FrQ_trans {M M' M'' : mM} (h : FrQ M M') (h' : FrQ M' M'') : FrQ M M'' := ⟨h'.1.trans h.1, fun p a b => (h'.2.1 p a b).trans (h.2.1 p a b), fun i hi => (h'.2.2 i hi).trans (h.2.2 i hi)⟩
theorem MR_FrQ {y : Yd} {n yr : Nat} {r : R} {M M' : mM} (h : MR y n yr r M) (e : FrQ M M') : MR y n yr r M' := by
  unfold MR at h ⊢
  rw [e.2.1 446 (by omega) (by omega), e.2.1 447 (by omega) (by omega), e.2.2 24 (by omega)]
  exact h
theorem MX_FrQ {y : Yd} {dr : Bool} {M M' : mM} (h : MX y dr M) (e : FrQ M M') : MX y dr M' := by
  unfold MX at h ⊢
  rw [e.2.1 446 (by omega) (by omega), e.2.2 26 (by omega)]
  exact h
theorem m_sR {y : Yd} {n yr : Nat} {r : R} {M0 : mM} {x1 : Int32} {k7 : Int32 → mM → Option mM} {P : mM → Prop} (h : MR y n yr r M0) {c : Nat} (hc : c < 20) : ∀ (k l f : Nat) (A : List Nat) (M : mM), l + k = y_L y → k < f → A.length + (scR r.1 n c k l).length ≤ 11 → FrQ M0 M → M.2.1 436 28 = i32 A.length → lst (M.2.1 448) id 0 A → (∀ M', FrQ M0 M' → M'.2.1 436 28 = i32 (A ++ scR r.1 n c k l).length → lst (M'.2.1 448) id 0 (A ++ scR r.1 n c k l) → OK (k7 (i32 (c + 1)) M') P) → OK (f_Model_sorts_14 x1 k7 f (i32 c) (i32 l) M) P
  | _, _, 0, _, _, _, hf, _, _, _, _, _ => absurd hf (Nat.not_lt_zero _)
  | 0, l, f + 1, A, M, hi, hf, hA, hF, e28, hl, hk => by
    have hL := h.2.1.1
    have hR := MR_FrQ h hF
    unfold f_Model_sorts_14
    simp (disch := omega) only [i32_lt, i32_le, i32_eq, i32_add, i32_mul, i32_neg, i32_nn, i32_ne1, i32_n1e, n1_lt_i32, i32_le_n1, i32_dec, i32_cl, rd_i32, ix_i32, wr_i32, pI_s, pR_s, pC_s, pZ_0, pZ_1, Option.bind_some, ite_true, ite_false, if_true, if_false, gIL, gRI, nlt_0, l0_lt, nle_0, l0_le, neq_0, nadd_0, nmul_0, nmul'_0, nadd'_0, nsub_0, nlt_1, l1_lt, nle_1, l1_le, neq_1, nadd_1, nmul_1, nmul'_1, nadd'_1, nsub_1, nlt_2, l2_lt, nle_2, l2_le, neq_2, nadd_2, nmul_2, nmul'_2, nadd'_2, nsub_2, nlt_3, l3_lt, nle_3, l3_le, neq_3, nadd_3, nmul_3, nmul'_3, nadd'_3, nsub_3, nlt_4, l4_lt, nle_4, l4_le, neq_4, nadd_4, nmul_4, nmul'_4, nadd'_4, nsub_4, nlt_5, l5_lt, nle_5, l5_le, neq_5, nadd_5, nmul_5, nmul'_5, nadd'_5, nsub_5, nlt_6, l6_lt, nle_6, l6_le, neq_6, nadd_6, nmul_6, nmul'_6, nadd'_6, nsub_6, nlt_7, l7_lt, nle_7, l7_le, neq_7, nadd_7, nmul_7, nmul'_7, nadd'_7, nsub_7, nlt_8, l8_lt, nle_8, l8_le, neq_8, nadd_8, nmul_8, nmul'_8, nadd'_8, nsub_8, nlt_9, l9_lt, nle_9, l9_le, neq_9, nadd_9, nmul_9, nmul'_9, nadd'_9, nsub_9, nlt_10, l10_lt, nle_10, l10_le, neq_10, nadd_10, nmul_10, nmul'_10, nadd'_10, nsub_10, nlt_11, l11_lt, nle_11, l11_le, neq_11, nadd_11, nmul_11, nmul'_11, nadd'_11, nsub_11, nlt_12, l12_lt, nle_12, l12_le, neq_12, nadd_12, nmul_12, nmul'_12, nadd'_12, nsub_12, nlt_13, l13_lt, nle_13, l13_le, neq_13, nadd_13, nmul_13, nmul'_13, nadd'_13, nsub_13, nlt_20, l20_lt, nle_20, l20_le, neq_20, nadd_20, nmul_20, nmul'_20, nadd'_20, nsub_20, nlt_400, l400_lt, nle_400, l400_le, neq_400, nadd_400, nmul_400, nmul'_400, nadd'_400, nsub_400, rd_0, wr_0, rd_1, wr_1, rd_2, wr_2, rd_3, wr_3, rd_4, wr_4, rd_5, wr_5, rd_6, wr_6, rd_7, wr_7, rd_8, wr_8, rd_9, wr_9, rd_10, wr_10, rd_11, wr_11, rd_12, wr_12, hR.1.1]
    rw [if_pos (by omega)]
    simp only [scR, List.append_nil] at hk
    exact hk M hF e28 hl
  | k + 1, l, f + 1, A, M, hi, hf, hA, hF, e28, hl, hk => by
    have hL := h.2.1.1
    have hV := h.2.1
    have hn := hV.2.2.1
    have hR := MR_FrQ h hF
    unfold f_Model_sorts_14 f_Model_sorts_61
    simp (disch := omega) only [i32_lt, i32_le, i32_eq, i32_add, i32_mul, i32_neg, i32_nn, i32_ne1, i32_n1e, n1_lt_i32, i32_le_n1, i32_dec, i32_cl, rd_i32, ix_i32, wr_i32, pI_s, pR_s, pC_s, pZ_0, pZ_1, Option.bind_some, ite_true, ite_false, if_true, if_false, gIL, gRI, nlt_0, l0_lt, nle_0, l0_le, neq_0, nadd_0, nmul_0, nmul'_0, nadd'_0, nsub_0, nlt_1, l1_lt, nle_1, l1_le, neq_1, nadd_1, nmul_1, nmul'_1, nadd'_1, nsub_1, nlt_2, l2_lt, nle_2, l2_le, neq_2, nadd_2, nmul_2, nmul'_2, nadd'_2, nsub_2, nlt_3, l3_lt, nle_3, l3_le, neq_3, nadd_3, nmul_3, nmul'_3, nadd'_3, nsub_3, nlt_4, l4_lt, nle_4, l4_le, neq_4, nadd_4, nmul_4, nmul'_4, nadd'_4, nsub_4, nlt_5, l5_lt, nle_5, l5_le, neq_5, nadd_5, nmul_5, nmul'_5, nadd'_5, nsub_5, nlt_6, l6_lt, nle_6, l6_le, neq_6, nadd_6, nmul_6, nmul'_6, nadd'_6, nsub_6, nlt_7, l7_lt, nle_7, l7_le, neq_7, nadd_7, nmul_7, nmul'_7, nadd'_7, nsub_7, nlt_8, l8_lt, nle_8, l8_le, neq_8, nadd_8, nmul_8, nmul'_8, nadd'_8, nsub_8, nlt_9, l9_lt, nle_9, l9_le, neq_9, nadd_9, nmul_9, nmul'_9, nadd'_9, nsub_9, nlt_10, l10_lt, nle_10, l10_le, neq_10, nadd_10, nmul_10, nmul'_10, nadd'_10, nsub_10, nlt_11, l11_lt, nle_11, l11_le, neq_11, nadd_11, nmul_11, nmul'_11, nadd'_11, nsub_11, nlt_12, l12_lt, nle_12, l12_le, neq_12, nadd_12, nmul_12, nmul'_12, nadd'_12, nsub_12, nlt_13, l13_lt, nle_13, l13_le, neq_13, nadd_13, nmul_13, nmul'_13, nadd'_13, nsub_13, nlt_20, l20_lt, nle_20, l20_le, neq_20, nadd_20, nmul_20, nmul'_20, nadd'_20, nsub_20, nlt_400, l400_lt, nle_400, l400_le, neq_400, nadd_400, nmul_400, nmul'_400, nadd'_400, nsub_400, rd_0, wr_0, rd_1, wr_1, rd_2, wr_2, rd_3, wr_3, rd_4, wr_4, rd_5, wr_5, rd_6, wr_6, rd_7, wr_7, rd_8, wr_8, rd_9, wr_9, rd_10, wr_10, rd_11, wr_11, rd_12, wr_12, hR.1.1, m_graveAt hR.1 hV, eG_ge (grv_lt hn)]
    rw [if_neg (by omega)]
    rw [scR] at hA hk
    cases hg : grv n r.1 l c with
    | none =>
      rw [hg] at hA hk
      rw [if_neg (fun z => z rfl)]
      exact m_sR h hc k (l + 1) f A M (by omega) (by omega) hA hF e28 hl hk
    | some g =>
      rw [hg] at hA hk
      simp only [List.length_cons] at hA
      have hgn := (grv_some hg).1
      rw [if_pos (Option.some_ne_none _)]
      simp (disch := omega) only [i32_lt, i32_le, i32_eq, i32_add, i32_mul, i32_neg, i32_nn, i32_ne1, i32_n1e, n1_lt_i32, i32_le_n1, i32_dec, i32_cl, rd_i32, ix_i32, wr_i32, pI_s, pR_s, pC_s, pZ_0, pZ_1, Option.bind_some, ite_true, ite_false, if_true, if_false, gIL, gRI, nlt_0, l0_lt, nle_0, l0_le, neq_0, nadd_0, nmul_0, nmul'_0, nadd'_0, nsub_0, nlt_1, l1_lt, nle_1, l1_le, neq_1, nadd_1, nmul_1, nmul'_1, nadd'_1, nsub_1, nlt_2, l2_lt, nle_2, l2_le, neq_2, nadd_2, nmul_2, nmul'_2, nadd'_2, nsub_2, nlt_3, l3_lt, nle_3, l3_le, neq_3, nadd_3, nmul_3, nmul'_3, nadd'_3, nsub_3, nlt_4, l4_lt, nle_4, l4_le, neq_4, nadd_4, nmul_4, nmul'_4, nadd'_4, nsub_4, nlt_5, l5_lt, nle_5, l5_le, neq_5, nadd_5, nmul_5, nmul'_5, nadd'_5, nsub_5, nlt_6, l6_lt, nle_6, l6_le, neq_6, nadd_6, nmul_6, nmul'_6, nadd'_6, nsub_6, nlt_7, l7_lt, nle_7, l7_le, neq_7, nadd_7, nmul_7, nmul'_7, nadd'_7, nsub_7, nlt_8, l8_lt, nle_8, l8_le, neq_8, nadd_8, nmul_8, nmul'_8, nadd'_8, nsub_8, nlt_9, l9_lt, nle_9, l9_le, neq_9, nadd_9, nmul_9, nmul'_9, nadd'_9, nsub_9, nlt_10, l10_lt, nle_10, l10_le, neq_10, nadd_10, nmul_10, nmul'_10, nadd'_10, nsub_10, nlt_11, l11_lt, nle_11, l11_le, neq_11, nadd_11, nmul_11, nmul'_11, nadd'_11, nsub_11, nlt_12, l12_lt, nle_12, l12_le, neq_12, nadd_12, nmul_12, nmul'_12, nadd'_12, nsub_12, nlt_13, l13_lt, nle_13, l13_le, neq_13, nadd_13, nmul_13, nmul'_13, nadd'_13, nsub_13, nlt_20, l20_lt, nle_20, l20_le, neq_20, nadd_20, nmul_20, nmul'_20, nadd'_20, nsub_20, nlt_400, l400_lt, nle_400, l400_le, neq_400, nadd_400, nmul_400, nmul'_400, nadd'_400, nsub_400, rd_0, wr_0, rd_1, wr_1, rd_2, wr_2, rd_3, wr_3, rd_4, wr_4, rd_5, wr_5, rd_6, wr_6, rd_7, wr_7, rd_8, wr_8, rd_9, wr_9, rd_10, wr_10, rd_11, wr_11, rd_12, wr_12, gIe, gIp, gIo, gCe, gCn, gRI, gLI, gIR, gCR, gLR, gRe, gRo, gRp, gIl, e28, show eG (some g) = i32 g from rfl]
      refine m_sR h hc k (l + 1) f (A ++ [g]) _ (by omega) (by omega) (by simp only [List.length_append, List.length_singleton]; omega) (FrQ_trans hF ⟨rfl, fun p p1 p2 => ?_, fun i hi => ?_⟩) ?_ (lst_app.mpr ⟨?_, ?_, trivial⟩) ?_
      · simp (disch := omega) only [gIe, gIp, gIo, gCe, gCn, gRI, gLI, gIR, gCR, gLR, gRe, gRo, gRp, gIl]
      · simp (disch := omega) only [gIe, gIp, gIo, gCe, gCn, gRI, gLI, gIR, gCR, gLR, gRe, gRo, gRp, gIl]
      · simp (disch := omega) only [gIe, gIp, gIo, gCe, gCn, gRI, gLI, gIR, gCR, gLR, gRe, gRo, gRp, gIl, List.length_append, List.length_singleton]
      · refine lst_agree (fun j j1 j2 => ?_) hl
        simp (disch := omega) only [gIe, gIp, gIo, gCe, gCn, gRI, gLI, gIR, gCR, gLR, gRe, gRo, gRp, gIl]
      · simp (disch := omega) only [gIe, gIp, gIo, gCe, gCn, gRI, gLI, gIR, gCR, gLR, gRe, gRo, gRp, gIl, Nat.zero_add, id]
      · rw [List.append_assoc]
        exact hk
theorem m_sC {y : Yd} {n yr : Nat} {r : R} {M0 : mM} {K : Nat} {P : mM → Prop} (h : MR y n yr r M0) (hK : K ≤ 20) (hK1 : 1 ≤ K) : ∀ (k c f : Nat) (A : List Nat) (M : mM), c + k = K → k < f → A.length + (scC r.1 n (y_L y) k c).length ≤ 11 → FrQ M0 M → M.2.1 436 28 = i32 A.length → lst (M.2.1 448) id 0 A → (∀ M', FrQ M0 M' → M'.2.1 436 28 = i32 (A ++ scC r.1 n (y_L y) k c).length → lst (M'.2.1 448) id 0 (A ++ scC r.1 n (y_L y) k c) → P M') → OK (f_Model_sorts_7 (i32 (K - 1)) f (i32 c) M) P
  | _, _, 0, _, _, _, hf, _, _, _, _, _ => absurd hf (Nat.not_lt_zero _)
  | 0, c, f + 1, A, M, hi, hf, hA, hF, e28, hl, hk => by
    unfold f_Model_sorts_7
    simp (disch := omega) only [i32_lt]
    rw [if_pos (by omega)]
    simp only [scC, List.append_nil] at hk
    exact OK_some (hk M hF e28 hl)
  | k + 1, c, f + 1, A, M, hi, hf, hA, hF, e28, hl, hk => by
    have hL := h.2.1.1
    rw [scC, List.length_append] at hA
    unfold f_Model_sorts_7
    simp (disch := omega) only [i32_lt]
    rw [if_neg (by omega)]
    refine m_sR h (by omega) (y_L y) 0 FUEL A M (Nat.zero_add _) (by rw [FUEL_eq]; omega) (by omega) hF e28 hl fun M' q1 q2 q3 => ?_
    refine m_sC h hK hK1 k (c + 1) f _ M' (by omega) (by omega) (by rw [List.length_append]; omega) q1 q2 q3 fun M'' t1 t2 t3 => ?_
    rw [List.append_assoc] at t2 t3
    rw [scC] at hk
    exact hk M'' t1 t2 t3
theorem m_sorts {y : Yd} {n yr : Nat} {r : R} {M : mM} {K : Nat} (h : MR y n yr r M) (hK : K ≤ 20) (hK1 : 1 ≤ K) : OK (f_Model_sorts (i32 (K - 1)) M) fun M' => FrQ M M' ∧ M'.2.1 436 28 = i32 (scC r.1 n (y_L y) K 0).length ∧ lst (M'.2.1 448) id 0 (scC r.1 n (y_L y) K 0) := by
  have hl := scan_len (K := K) h.2.1
  have hn := h.2.1.2.2.1
  unfold f_Model_sorts
  simp only [pI_s, Option.bind_some]
  refine m_sC h hK hK1 K 0 FUEL [] _ (Nat.zero_add _) (by rw [FUEL_eq]; omega) (by simp only [List.length_nil]; omega) ⟨rfl, fun p p1 p2 => gIp p1, fun i hi => gIo hi⟩ (gIe _ _ _ _) trivial fun M' q1 q2 q3 => ⟨q1, q2, q3⟩
/-! stones -/
def FrT (M M' : mM) : Prop := (M'.2.2.2, M'.2.2.1 436) = (M.2.2.2, M.2.2.1 436) ∧ (∀ p, p ≠ 446 → M'.2.1 p = M.2.1 p) ∧ ∀ i, i < 109 ∨ 131 ≤ i → M'.2.1 446 i = M.2.1 446 i
theorem FrT_refl (M : mM) : FrT M M := ⟨rfl, fun _ _ => rfl, fun _ _ => rfl⟩
theorem FrT_trans {M M' M'' : mM} (h : FrT M M') (h' : FrT M' M'') : FrT M M'' := ⟨h'.1.trans h.1, fun p a => (h'.2.1 p a).trans (h.2.1 p a), fun i hi => (h'.2.2 i hi).trans (h.2.2 i hi)⟩
theorem MS_cong {y : Yd} {yr n : Nat} {b : Nat → B} {F F' : Nat → Int32} (h : MS y yr n b F) (e : ∀ i, i < 109 → F' i = F i) : MS y yr n b F' := by
  obtain ⟨h0, h1, h2, h3, h4, h5⟩ := h
  refine ⟨(e 0 (by omega)).trans h0, (e 1 (by omega)).trans h1, (e 2 (by omega)).trans h2, (e 3 (by omega)).trans h3, h4, fun g hg => ?_⟩
  obtain ⟨⟨a1, a2, a3, a4, a5, a6, a7⟩, a8⟩ := h5 g hg
  exact ⟨⟨(e _ (by omega)).trans a1, (e _ (by omega)).trans a2, (e _ (by omega)).trans a3, (e _ (by omega)).trans a4, (e _ (by omega)).trans a5, (e _ (by omega)).trans a6, (e _ (by omega)).trans a7⟩, (e _ (by omega)).trans a8⟩
theorem m_stone89 {g l c : Nat} {k2 : Int32 → mM → Option mM} {P : mM → Prop} {M : mM} (hg : g < 11) (hl : l < 4) (hc : c < 20) (e1 : M.2.1 446 (109 + 2 * g) = i32 l) (e2 : M.2.1 446 (109 + 2 * g + 1) = i32 c) (hk : ∀ M', FrT M M' → M'.2.1 446 (109 + 2 * g) = eL (if c = 0 then none else some (l, c - 1)) → M'.2.1 446 (109 + 2 * g + 1) = eC (if c = 0 then none else some (l, c - 1)) → (∀ j, j ≠ g → M'.2.1 446 (109 + 2 * j) = M.2.1 446 (109 + 2 * j) ∧ M'.2.1 446 (109 + 2 * j + 1) = M.2.1 446 (109 + 2 * j + 1)) → OK (k2 (i32 (g + 1)) M') P) : OK (f_Model_stonesGo_89 k2 (i32 g) (i32 (109 + 2 * g)) M) P := by
  unfold f_Model_stonesGo_89 f_Model_stonesGo_119
  simp (disch := omega) only [nadd_1, rd_i32, wr_i32, Option.bind_some, e2, gIe]
  by_cases c0 : c = 0
  · subst c0
    rw [if_neg (by decide)]
    refine hk _ ⟨rfl, fun p h1 => ?_, fun i hi => ?_⟩ ?_ ?_ fun j hj => ⟨?_, ?_⟩
    · simp (disch := omega) only [gIe, gIp, gIo, gCe, gCn, gRI, gLI, gIR, gCR, gLR, gRe, gRo, gRp, gIl]
    · simp (disch := omega) only [gIe, gIp, gIo, gCe, gCn, gRI, gLI, gIR, gCR, gLR, gRe, gRo, gRp, gIl]
    · simp (disch := omega) only [gIe, gIp, gIo, gCe, gCn, gRI, gLI, gIR, gCR, gLR, gRe, gRo, gRp, gIl, if_true]; rfl
    · simp (disch := omega) only [gIe, gIp, gIo, gCe, gCn, gRI, gLI, gIR, gCR, gLR, gRe, gRo, gRp, gIl, if_true]; rfl
    · simp (disch := omega) only [gIe, gIp, gIo, gCe, gCn, gRI, gLI, gIR, gCR, gLR, gRe, gRo, gRp, gIl]
    · simp (disch := omega) only [gIe, gIp, gIo, gCe, gCn, gRI, gLI, gIR, gCR, gLR, gRe, gRo, gRp, gIl]
  · rw [nsub_1 (by omega), if_pos ((i32_nn (by omega)).mpr trivial)]
    refine hk _ ⟨rfl, fun p h1 => ?_, fun i hi => ?_⟩ ?_ ?_ fun j hj => ⟨?_, ?_⟩
    · simp (disch := omega) only [gIe, gIp, gIo, gCe, gCn, gRI, gLI, gIR, gCR, gLR, gRe, gRo, gRp, gIl]
    · simp (disch := omega) only [gIe, gIp, gIo, gCe, gCn, gRI, gLI, gIR, gCR, gLR, gRe, gRo, gRp, gIl]
    · simp (disch := omega) only [gIe, gIp, gIo, gCe, gCn, gRI, gLI, gIR, gCR, gLR, gRe, gRo, gRp, gIl, c0, if_false]; exact e1
    · simp (disch := omega) only [gIe, gIp, gIo, gCe, gCn, gRI, gLI, gIR, gCR, gLR, gRe, gRo, gRp, gIl, c0, if_false]; rfl
    · simp (disch := omega) only [gIe, gIp, gIo, gCe, gCn, gRI, gLI, gIR, gCR, gLR, gRe, gRo, gRp, gIl]
    · simp (disch := omega) only [gIe, gIp, gIo, gCe, gCn, gRI, gLI, gIR, gCR, gLR, gRe, gRo, gRp, gIl]
theorem m_stones {y : Yd} {yr n L C : Nat} {b : Nat → B} {t : Nat → Option (Nat × Nat)} {P : mM → Prop} {M0 : mM} (hS : MS y yr n b (M0.2.1 446)) (hV : V L C n b) (hh : MH y n (M0.2.1 446)) (hT : VT n t) (hy : yr < 2147483648) : ∀ (k g f : Nat) (M : mM), g + k = n → k < f → FrT M0 M → MT n (fun i => if i < g then stn y yr b t i else t i) (M.2.1 446) → (∀ M', FrT M0 M' → MT n (stn y yr b t) (M'.2.1 446) → P M') → OK (f_Model_stonesGo_2 f (i32 g) M) P
  | _, _, 0, _, _, hf, _, _, _ => absurd hf (Nat.not_lt_zero _)
  | 0, g, f + 1, M, hi, hf, hF, hc, hk => by
    have hn := hV.2.2.1
    have hS' := MS_cong hS (fun i hi => hF.2.2 i (by omega))
    unfold f_Model_stonesGo_2
    simp (disch := omega) only [i32_lt, i32_le, i32_eq, i32_add, i32_mul, i32_neg, i32_nn, i32_ne1, i32_n1e, n1_lt_i32, i32_le_n1, i32_dec, i32_cl, rd_i32, ix_i32, wr_i32, pI_s, pR_s, pC_s, pZ_0, pZ_1, Option.bind_some, ite_true, ite_false, if_true, if_false, gIL, gRI, nlt_0, l0_lt, nle_0, l0_le, neq_0, nadd_0, nmul_0, nmul'_0, nadd'_0, nsub_0, nlt_1, l1_lt, nle_1, l1_le, neq_1, nadd_1, nmul_1, nmul'_1, nadd'_1, nsub_1, nlt_2, l2_lt, nle_2, l2_le, neq_2, nadd_2, nmul_2, nmul'_2, nadd'_2, nsub_2, nlt_3, l3_lt, nle_3, l3_le, neq_3, nadd_3, nmul_3, nmul'_3, nadd'_3, nsub_3, nlt_4, l4_lt, nle_4, l4_le, neq_4, nadd_4, nmul_4, nmul'_4, nadd'_4, nsub_4, nlt_5, l5_lt, nle_5, l5_le, neq_5, nadd_5, nmul_5, nmul'_5, nadd'_5, nsub_5, nlt_6, l6_lt, nle_6, l6_le, neq_6, nadd_6, nmul_6, nmul'_6, nadd'_6, nsub_6, nlt_7, l7_lt, nle_7, l7_le, neq_7, nadd_7, nmul_7, nmul'_7, nadd'_7, nsub_7, nlt_8, l8_lt, nle_8, l8_le, neq_8, nadd_8, nmul_8, nmul'_8, nadd'_8, nsub_8, nlt_9, l9_lt, nle_9, l9_le, neq_9, nadd_9, nmul_9, nmul'_9, nadd'_9, nsub_9, nlt_10, l10_lt, nle_10, l10_le, neq_10, nadd_10, nmul_10, nmul'_10, nadd'_10, nsub_10, nlt_11, l11_lt, nle_11, l11_le, neq_11, nadd_11, nmul_11, nmul'_11, nadd'_11, nsub_11, nlt_12, l12_lt, nle_12, l12_le, neq_12, nadd_12, nmul_12, nmul'_12, nadd'_12, nsub_12, nlt_13, l13_lt, nle_13, l13_le, neq_13, nadd_13, nmul_13, nmul'_13, nadd'_13, nsub_13, nlt_20, l20_lt, nle_20, l20_le, neq_20, nadd_20, nmul_20, nmul'_20, nadd'_20, nsub_20, nlt_400, l400_lt, nle_400, l400_le, neq_400, nadd_400, nmul_400, nmul'_400, nadd'_400, nsub_400, rd_0, wr_0, rd_1, wr_1, rd_2, wr_2, rd_3, wr_3, rd_4, wr_4, rd_5, wr_5, rd_6, wr_6, rd_7, wr_7, rd_8, wr_8, rd_9, wr_9, rd_10, wr_10, rd_11, wr_11, rd_12, wr_12, hS'.2.2.1]
    rw [if_pos (by omega)]
    refine OK_some (hk M hF fun i hi' => ?_)
    have := hc i hi'
    simp only [show i < g from by omega, if_true] at this
    exact this
  | k + 1, g, f + 1, M, hi, hf, hF, hc, hk => by
    have hn := hV.2.2.1
    have hS' := MS_cong hS (fun i hi => hF.2.2 i (by omega))
    have hg : g < n := by omega
    have e := hc g hg
    simp only [Nat.lt_irrefl, if_false] at e
    have eh : M.2.1 446 (10 + 9 * g + 8) = e01 (y_h y g) := (hF.2.2 _ (by omega)).trans (hh g hg)
    have go : ∀ M', FrT M M' → M'.2.1 446 (109 + 2 * g) = eL (stn y yr b t g) → M'.2.1 446 (109 + 2 * g + 1) = eC (stn y yr b t g) → (∀ j, j ≠ g → M'.2.1 446 (109 + 2 * j) = M.2.1 446 (109 + 2 * j) ∧ M'.2.1 446 (109 + 2 * j + 1) = M.2.1 446 (109 + 2 * j + 1)) → OK (f_Model_stonesGo_2 f (i32 (g + 1)) M') P := by
      intro M' q1 q2 q3 q4
      refine m_stones hS hV hh hT hy k (g + 1) f M' (by omega) (by omega) (FrT_trans hF q1) (fun i hi' => ?_) hk
      by_cases ci : i = g
      · subst ci
        simp only [show i < i + 1 from by omega, if_true]
        exact ⟨q2, q3⟩
      · have h1 := hc i hi'
        have h2 := q4 i ci
        simp only [show (i < g + 1) = (i < g) from propext (by omega)] at h1 ⊢
        exact ⟨h2.1.trans h1.1, h2.2.trans h1.2⟩
    have skip : stn y yr b t g = t g → OK (f_Model_stonesGo_2 f (i32 (g + 1)) M) P := fun es => go M (FrT_refl M) (by rw [es]; exact e.1) (by rw [es]; exact e.2) fun j _ => ⟨rfl, rfl⟩
    unfold f_Model_stonesGo_2 f_Model_stonesGo_57 f_Model_stonesGo_53
    simp (disch := omega) only [i32_lt, i32_le, i32_eq, i32_add, i32_mul, i32_neg, i32_nn, i32_ne1, i32_n1e, n1_lt_i32, i32_le_n1, i32_dec, i32_cl, rd_i32, ix_i32, wr_i32, pI_s, pR_s, pC_s, pZ_0, pZ_1, Option.bind_some, ite_true, ite_false, if_true, if_false, gIL, gRI, nlt_0, l0_lt, nle_0, l0_le, neq_0, nadd_0, nmul_0, nmul'_0, nadd'_0, nsub_0, nlt_1, l1_lt, nle_1, l1_le, neq_1, nadd_1, nmul_1, nmul'_1, nadd'_1, nsub_1, nlt_2, l2_lt, nle_2, l2_le, neq_2, nadd_2, nmul_2, nmul'_2, nadd'_2, nsub_2, nlt_3, l3_lt, nle_3, l3_le, neq_3, nadd_3, nmul_3, nmul'_3, nadd'_3, nsub_3, nlt_4, l4_lt, nle_4, l4_le, neq_4, nadd_4, nmul_4, nmul'_4, nadd'_4, nsub_4, nlt_5, l5_lt, nle_5, l5_le, neq_5, nadd_5, nmul_5, nmul'_5, nadd'_5, nsub_5, nlt_6, l6_lt, nle_6, l6_le, neq_6, nadd_6, nmul_6, nmul'_6, nadd'_6, nsub_6, nlt_7, l7_lt, nle_7, l7_le, neq_7, nadd_7, nmul_7, nmul'_7, nadd'_7, nsub_7, nlt_8, l8_lt, nle_8, l8_le, neq_8, nadd_8, nmul_8, nmul'_8, nadd'_8, nsub_8, nlt_9, l9_lt, nle_9, l9_le, neq_9, nadd_9, nmul_9, nmul'_9, nadd'_9, nsub_9, nlt_10, l10_lt, nle_10, l10_le, neq_10, nadd_10, nmul_10, nmul'_10, nadd'_10, nsub_10, nlt_11, l11_lt, nle_11, l11_le, neq_11, nadd_11, nmul_11, nmul'_11, nadd'_11, nsub_11, nlt_12, l12_lt, nle_12, l12_le, neq_12, nadd_12, nmul_12, nmul'_12, nadd'_12, nsub_12, nlt_13, l13_lt, nle_13, l13_le, neq_13, nadd_13, nmul_13, nmul'_13, nadd'_13, nsub_13, nlt_20, l20_lt, nle_20, l20_le, neq_20, nadd_20, nmul_20, nmul'_20, nadd'_20, nsub_20, nlt_400, l400_lt, nle_400, l400_le, neq_400, nadd_400, nmul_400, nmul'_400, nadd'_400, nsub_400, rd_0, wr_0, rd_1, wr_1, rd_2, wr_2, rd_3, wr_3, rd_4, wr_4, rd_5, wr_5, rd_6, wr_6, rd_7, wr_7, rd_8, wr_8, rd_9, wr_9, rd_10, wr_10, rd_11, wr_11, rd_12, wr_12, nlt_109, l109_lt, nle_109, l109_le, neq_109, nadd_109, nmul_109, nmul'_109, nadd'_109, nsub_109, hS'.2.2.1, e.1]
    rw [if_neg (by omega)]
    cases ht : t g with
    | none =>
      rw [if_pos (show eL none < 0 from by decide)]
      unfold f_Model_stonesGo_58 f_Model_stonesGo_119
      rw [if_pos rfl, nadd_1]
      exact skip (by unfold stn; rw [ht])
    | some p =>
      obtain ⟨l, c⟩ := p
      have hlc := hT g hg l c ht
      have es : stn y yr b t g = if lag (b g) c = true ∧ (yr % 2 = 0 ∨ y_h y g = false) then (if c = 0 then none else some (l, c - 1)) else some (l, c) := by
        unfold stn; rw [ht]
      rw [ht] at e
      have go58 : lag (b g) c = true → OK (f_Model_stonesGo_58 (f_Model_stonesGo_2 f) (i32 g) (i32 (109 + 2 * g)) 1 M) P := by
        intro hlag
        unfold f_Model_stonesGo_58 f_Model_stonesGo_119
        rw [if_neg (by decide), m_g8 (by omega), Option.bind_some, eh]
        by_cases cc : yr % 2 = 0 ∨ y_h y g = false
        · rw [es, if_pos ⟨hlag, cc⟩] at go
          have fin := m_stone89 (P := P) (k2 := f_Model_stonesGo_2 f) (g := g) (by omega) hlc.1 hlc.2 e.1 e.2 go
          cases ch : y_h y g with
          | false => rw [if_neg (show ¬ e01 false = 1 by decide)]; exact fin
          | true =>
            rw [if_pos (show e01 true = 1 from rfl), rd_3 (by omega) (by omega), Option.bind_some, hS'.2.2.2.1]
            have h0 : yr % 2 = 0 := cc.resolve_right (by rw [ch]; decide)
            rw [if_neg]
            · exact fin
            · rw [show (2 : Int32) = i32 2 from rfl, show i32 yr / i32 2 = i32 (yr / 2) from i32_div_l (by omega) (by omega), i32_mul, i32_sub (by omega), neq_1 (by omega)]
              omega
        · have ch : y_h y g = true := by cases h : y_h y g; exact absurd (Or.inr h) cc; rfl
          rw [ch, if_pos (show e01 true = 1 from rfl), rd_3 (by omega) (by omega), Option.bind_some, hS'.2.2.2.1]
          rw [if_pos]
          · rw [nadd_1]
            exact skip (by rw [es, if_neg (fun z => cc z.2), ht])
          · rw [show (2 : Int32) = i32 2 from rfl, show i32 yr / i32 2 = i32 (yr / 2) from i32_div_l (by omega) (by omega), i32_mul, i32_sub (by omega), neq_1 (by omega)]
            have : ¬ yr % 2 = 0 := fun z => cc (Or.inl z)
            omega
      have no58 : lag (b g) c = false → OK (f_Model_stonesGo_58 (f_Model_stonesGo_2 f) (i32 g) (i32 (109 + 2 * g)) 0 M) P := by
        intro hlag
        unfold f_Model_stonesGo_58 f_Model_stonesGo_119
        rw [if_pos rfl, nadd_1]
        exact skip (by rw [es, if_neg (fun z => by rw [hlag] at z; exact absurd z.1 (by decide)), ht])
      rw [show eL (some (l, c)) = i32 l from rfl, if_neg (fun z => (i32_neg (by omega)).mp z), m_isFallen hS' hV hg, Option.bind_some]
      cases hp : (b g).1 with
      | none =>
        rw [show decide ((none : Option (Nat × Nat)) = none) = true from rfl, if_neg e01_t]
        exact go58 (by unfold lag; rw [hp])
      | some q =>
        have hq := eL_lt hV (l := q.1) (c := q.2) hg hp
        have a2 := (hS'.2.2.2.2.2 g hg).1.2.1
        rw [hp] at a2
        rw [show decide (some q = none) = false from rfl, if_pos e01_f]
        simp (disch := omega) only [m_g1, Option.bind_some, a2, rd_i32, e.2, eC, i32_le]
        by_cases cq : q.2 < c
        · rw [if_neg (by omega)]
          exact go58 (by unfold lag; rw [hp]; exact decide_eq_true cq)
        · rw [if_pos (by omega)]
          exact no58 (by unfold lag; rw [hp]; exact decide_eq_false cq)
theorem m_stonesGo {y : Yd} {yr n L C : Nat} {b : Nat → B} {t : Nat → Option (Nat × Nat)} {M : mM} (hS : MS y yr n b (M.2.1 446)) (hV : V L C n b) (hh : MH y n (M.2.1 446)) (hT : VT n t) (hy : yr < 2147483648) (hc : MT n t (M.2.1 446)) : OK (f_Model_stonesGo M) fun M' => FrT M M' ∧ MT n (stn y yr b t) (M'.2.1 446) := by
  have hn := hV.2.2.1
  have hc' : MT n (fun i => if i < 0 then stn y yr b t i else t i) (M.2.1 446) := hc
  exact m_stones hS hV hh hT hy n 0 FUEL M (by omega) (by rw [FUEL_eq]; omega) (FrT_refl M) hc' fun M' q1 q2 => ⟨q1, q2⟩
/-! the year -/
/-- what the model's year leaves as it was -/
def FrP (M M' : mM) : Prop := (M'.2.2.2, M'.2.2.1 436) = (M.2.2.2, M.2.2.1 436) ∧ (∀ p, p ≠ 436 → p ≠ 446 → p ≠ 447 → p ≠ 448 → M'.2.1 p = M.2.1 p) ∧ (∀ i, i ≠ 18 → i ≠ 24 → i ≠ 25 → i ≠ 28 → M'.2.1 436 i = M.2.1 436 i) ∧ (∀ i, (i < 10 ∧ i ≠ 3) ∨ 131 ≤ i → M'.2.1 446 i = M.2.1 446 i) ∧ ∀ g, g < 11 → M'.2.1 446 (10 + 9 * g + 8) = M.2.1 446 (10 + 9 * g + 8)
theorem FrP_trans {M M' M'' : mM} (h : FrP M M') (h' : FrP M' M'') : FrP M M'' := ⟨h'.1.trans h.1, fun p a b c d => (h'.2.1 p a b c d).trans (h.2.1 p a b c d), fun i a b c d => (h'.2.2.1 i a b c d).trans (h.2.2.1 i a b c d), fun i hi => (h'.2.2.2.1 i hi).trans (h.2.2.2.1 i hi), fun g hg => (h'.2.2.2.2 g hg).trans (h.2.2.2.2 g hg)⟩
theorem FrP_M {M M' : mM} (h : FrM M M') : FrP M M' := ⟨h.1, fun p a b c _ => h.2.1 p a b c, fun i a b _ _ => h.2.2.1 i b a, fun i hi => h.2.2.2.1 i (by omega), fun g _ => h.2.2.2.2 g⟩
theorem FrP_Q {M M' : mM} (h : FrQ M M') : FrP M M' := ⟨h.1, fun p a _ _ d => h.2.1 p a d, fun i _ _ _ d => h.2.2 i d, fun i _ => by rw [h.2.1 446 (by omega) (by omega)], fun g _ => by rw [h.2.1 446 (by omega) (by omega)]⟩
theorem FrP_T {M M' : mM} (h : FrT M M') : FrP M M' := ⟨h.1, fun p _ b _ _ => h.2.1 p b, fun i _ _ _ _ => by rw [h.2.1 436 (by omega)], fun i hi => h.2.2 i (by omega), fun g hg => h.2.2 _ (by omega)⟩
theorem MT_cong {n : Nat} {t : Nat → Option (Nat × Nat)} {F F' : Nat → Int32} (h : MT n t F) (hn : n ≤ 11) (e : ∀ i, 109 ≤ i → i < 131 → F' i = F i) : MT n t F' := fun g hg => ⟨(e _ (by omega) (by omega)).trans (h g hg).1, (e _ (by omega) (by omega)).trans (h g hg).2⟩
theorem m_passes70 {y : Yd} {dr : Bool} {φ : Option (List Int64 → Nat)} {n yr t0 : Nat} {t : Nat → Option (Nat × Nat)} (hv : VY y) (hpn : PN y n) (hy : yr < 2147483647) (ht0 : t0 ≤ 11) (hT : VT n t) : ∀ (Q : List Nat) (i f : Nat) (r : R) (M : mM), i + Q.length = t0 → Q.length < f → Q.Nodup → (∀ a, a ∈ Q → a < n ∧ (r.1 a).1 ≠ none) → M.2.1 436 28 = i32 t0 → lst (M.2.1 448) id i Q → MR y n yr r M → MX y dr M → RM φ M → MH y n (M.2.1 446) → MT n t (M.2.1 446) → OK (f_Model_passes_70 f (i32 i) M) fun z => z.1 = i32 (Q.foldl (trn y φ n yr (dr || flo y yr)) r).2.length ∧ MR y n (yr + 1) (Q.foldl (trn y φ n yr (dr || flo y yr)) r) z.2 ∧ MT n (stn y yr (Q.foldl (trn y φ n yr (dr || flo y yr)) r).1 t) (z.2.2.1 446) ∧ FrP M z.2 ∧ z.2.2.1 436 25 = M.2.1 436 25
  | _, _, 0, _, _, _, hf, _, _, _, _, _, _, _, _, _ => absurd hf (Nat.not_lt_zero _)
  | [], i, f + 1, r, M, hi, hf, hnd, hm, e28, hl, h, hx, hr, hh, hc => by
    simp only [List.length_nil, Nat.add_zero] at hi
    have hn := h.2.1.2.2.1
    unfold f_Model_passes_70
    simp (disch := omega) only [i32_le, e28]
    rw [if_pos (by omega)]
    refine OK_bind (m_stonesGo h.1 h.2.1 hh hT (by omega) hc) fun M1 h1 => ?_
    have hS1 := MS_cong h.1 (fun i hi => h1.1.2.2 i (by omega))
    simp (disch := omega) only [i32_lt, i32_le, i32_eq, i32_add, i32_mul, i32_neg, i32_nn, i32_ne1, i32_n1e, n1_lt_i32, i32_le_n1, i32_dec, i32_cl, rd_i32, ix_i32, wr_i32, pI_s, pR_s, pC_s, pZ_0, pZ_1, Option.bind_some, ite_true, ite_false, if_true, if_false, gIL, gRI, nlt_0, l0_lt, nle_0, l0_le, neq_0, nadd_0, nmul_0, nmul'_0, nadd'_0, nsub_0, nlt_1, l1_lt, nle_1, l1_le, neq_1, nadd_1, nmul_1, nmul'_1, nadd'_1, nsub_1, nlt_2, l2_lt, nle_2, l2_le, neq_2, nadd_2, nmul_2, nmul'_2, nadd'_2, nsub_2, nlt_3, l3_lt, nle_3, l3_le, neq_3, nadd_3, nmul_3, nmul'_3, nadd'_3, nsub_3, nlt_4, l4_lt, nle_4, l4_le, neq_4, nadd_4, nmul_4, nmul'_4, nadd'_4, nsub_4, nlt_5, l5_lt, nle_5, l5_le, neq_5, nadd_5, nmul_5, nmul'_5, nadd'_5, nsub_5, nlt_6, l6_lt, nle_6, l6_le, neq_6, nadd_6, nmul_6, nmul'_6, nadd'_6, nsub_6, nlt_7, l7_lt, nle_7, l7_le, neq_7, nadd_7, nmul_7, nmul'_7, nadd'_7, nsub_7, nlt_8, l8_lt, nle_8, l8_le, neq_8, nadd_8, nmul_8, nmul'_8, nadd'_8, nsub_8, nlt_9, l9_lt, nle_9, l9_le, neq_9, nadd_9, nmul_9, nmul'_9, nadd'_9, nsub_9, nlt_10, l10_lt, nle_10, l10_le, neq_10, nadd_10, nmul_10, nmul'_10, nadd'_10, nsub_10, nlt_11, l11_lt, nle_11, l11_le, neq_11, nadd_11, nmul_11, nmul'_11, nadd'_11, nsub_11, nlt_12, l12_lt, nle_12, l12_le, neq_12, nadd_12, nmul_12, nmul'_12, nadd'_12, nsub_12, nlt_13, l13_lt, nle_13, l13_le, neq_13, nadd_13, nmul_13, nmul'_13, nadd'_13, nsub_13, nlt_20, l20_lt, nle_20, l20_le, neq_20, nadd_20, nmul_20, nmul'_20, nadd'_20, nsub_20, nlt_400, l400_lt, nle_400, l400_le, neq_400, nadd_400, nmul_400, nmul'_400, nadd'_400, nsub_400, rd_0, wr_0, rd_1, wr_1, rd_2, wr_2, rd_3, wr_3, rd_4, wr_4, rd_5, wr_5, rd_6, wr_6, rd_7, wr_7, rd_8, wr_8, rd_9, wr_9, rd_10, wr_10, rd_11, wr_11, rd_12, wr_12, hS1.2.2.2.1]
    have e24 : M1.2.1 436 24 = i32 r.2.length := by rw [h1.1.2.1 436 (by omega)]; exact h.2.2.1
    refine OK_some ⟨by rw [gIp (by omega)]; exact e24, ⟨?_, h.2.1, by rw [gIp (by omega)]; exact e24, h.2.2.2.1, ?_⟩, ?_, FrP_trans (FrP_T h1.1) ⟨rfl, fun p p1 p2 p3 p4 => gIp p2, fun j _ _ _ _ => by rw [gIp (by omega)], fun j hj => gIo (by omega), fun g hg => gIo (by omega)⟩, ?_⟩
    · obtain ⟨s0, s1, s2, s3, s4, s5⟩ := hS1
      refine ⟨(gIo (by omega)).trans s0, (gIo (by omega)).trans s1, (gIo (by omega)).trans s2, gIe _ _ _ _, s4, fun g hg => ?_⟩
      obtain ⟨⟨a1, a2, a3, a4, a5, a6, a7⟩, a8⟩ := s5 g hg
      exact ⟨⟨(gIo (by omega)).trans a1, (gIo (by omega)).trans a2, (gIo (by omega)).trans a3, (gIo (by omega)).trans a4, (gIo (by omega)).trans a5, (gIo (by omega)).trans a6, (gIo (by omega)).trans a7⟩, (gIo (by omega)).trans a8⟩
    · intro k hk
      rw [gIp (by omega), h1.1.2.1 447 (by omega)]
      exact h.2.2.2.2 k hk
    · exact MT_cong h1.2 hn fun j j1 j2 => gIo (by omega)
    · rw [gIp (by omega), h1.1.2.1 436 (by omega)]
  | a :: Q, i, f + 1, r, M, hi, hf, hnd, hm, e28, hl, h, hx, hr, hh, hc => by
    simp only [List.length_cons] at hi hf
    have hn := h.2.1.2.2.1
    have hnd' := List.nodup_cons.mp hnd
    have ha := hm a List.mem_cons_self
    unfold f_Model_passes_70
    simp (disch := omega) only [i32_le, e28, rd_i32, hl.1, id, Option.bind_some]
    rw [if_neg (by omega)]
    refine OK_bind (m_turns h hx hr hv hpn (by omega) ha.1 ha.2) fun M1 h1 => ?_
    rw [nadd_1]
    have e448 : M1.2.1 448 = M.2.1 448 := h1.2.2.1 448 (by omega) (by omega) (by omega)
    have hm' : ∀ x, x ∈ Q → x < n ∧ ((trn y φ n yr (dr || flo y yr) r a).1 x).1 ≠ none := fun x hx' => by
      have hxa : x ≠ a := fun z => hnd'.1 (z ▸ hx')
      refine ⟨(hm x (List.mem_cons_of_mem _ hx')).1, ?_⟩
      have h0 := (hm x (List.mem_cons_of_mem _ hx')).2
      have hcom : ∀ (r' : R) (l c : Nat) (u : Int32), ((com y r' a l c u).2.1 x) = r'.1 x := fun r' l c u => bup_o hxa
      have hgo : ∀ r' : R, ((goS y n yr r' a).2.1 x) = r'.1 x := fun r' => by
        unfold goS
        split
        · rfl
        · exact bup_o hxa
        · split
          · exact hcom r' _ _ _
          · split
            · rfl
            · exact hcom r' _ _ _
      have hru : ∀ (k : Nat) (r' : R), ((runs y n yr a k r').1 x) = r'.1 x := fun k => by
        induction k with
        | zero => intro r'; rfl
        | succ k ih =>
          intro r'
          rw [runs]
          split
          · rw [ih, hgo]
          · rw [hgo]
      have : (trn y φ n yr (dr || flo y yr) r a).1 x = r.1 x := by
        unfold trn
        split
        · rfl
        · split
          · exact bup_o hxa
          · split
            · rfl
            · split
              · rfl
              · exact hru _ _
      rw [this]
      exact h0
    refine OK_imp (m_passes70 hv hpn hy ht0 hT Q (i + 1) f _ M1 (by omega) (by omega) hnd'.2 hm' ((h1.2.2.2.1 28 (by omega) (by omega)).trans e28) (by rw [e448]; exact hl.2) h1.1 (MX_Fr hx hv h1.2) (RM_Fr hr h1.2) (fun g hg => (h1.2.2.2.2.2 g).trans (hh g hg)) (MT_cong hc hn fun j j1 j2 => h1.2.2.2.2.1 j (by omega))) fun z hz => ⟨hz.1, hz.2.1, hz.2.2.1, FrP_trans (FrP_M h1.2) hz.2.2.2.1, hz.2.2.2.2.trans (h1.2.2.2.1 25 (by omega) (by omega))⟩
theorem m_passes56 {y : Yd} {dr : Bool} {φ : Option (List Int64 → Nat)} {n yr : Nat} {t : Nat → Option (Nat × Nat)} {r : R} {M : mM} (hv : VY y) (hC1 : 1 ≤ y_C y) (hpn : PN y n) (hy : yr < 2147483647) (hT : VT n t) (h : MR y n yr r M) (hx : MX y dr M) (hr : RM φ M) (hh : MH y n (M.2.1 446)) (hc : MT n t (M.2.1 446)) : OK (f_Model_passes_56 M) fun z => z.1 = i32 ((ord r.1 n).foldl (trn y φ n yr (dr || flo y yr)) r).2.length ∧ MR y n (yr + 1) ((ord r.1 n).foldl (trn y φ n yr (dr || flo y yr)) r) z.2 ∧ MT n (stn y yr ((ord r.1 n).foldl (trn y φ n yr (dr || flo y yr)) r).1 t) (z.2.2.1 446) ∧ FrP M z.2 ∧ z.2.2.1 436 25 = M.2.1 436 25 := by
  have hV := h.2.1
  have hn := hV.2.2.1
  have hC := hV.2.1
  unfold f_Model_passes_56
  rw [rd_1 (by omega) (by omega), Option.bind_some, h.1.2.1, nsub_1 hC1]
  refine OK_bind (m_sorts h hC hC1) fun M1 h1 => ?_
  rw [scan_all hV] at h1
  have e446 : M1.2.1 446 = M.2.1 446 := h1.1.2.1 446 (by omega) (by omega)
  have hlen := ord_len (b := r.1) (n := n)
  refine OK_imp (m_passes70 hv hpn hy (t0 := (ord r.1 n).length) (by omega) hT (ord r.1 n) 0 FUEL r M1 (Nat.zero_add _) (by rw [FUEL_eq]; omega) (SL_nodup (ord_SL hV)) (fun a ha => ord_mem.mp ha) h1.2.1 h1.2.2 (MR_FrQ h h1.1) (MX_FrQ hx h1.1) (RM_of hr (h1.1.2.1 438 (by omega) (by omega)) (h1.1.2.1 440 (by omega) (by omega)) (h1.1.2.1 441 (by omega) (by omega)) (h1.1.2.2 21 (by omega))) (by rw [e446]; exact hh) (by rw [e446]; exact hc)) fun z hz => ⟨hz.1, hz.2.1, hz.2.2.1, FrP_trans (FrP_Q h1.1) hz.2.2.2.1, hz.2.2.2.2.trans (h1.1.2.2 25 (by omega))⟩
theorem m_passes24 {y : Yd} {dr : Bool} {n yr t0 : Nat} {P : Int32 × mM → Prop} (hv : VY y) (ht0 : t0 ≤ 11) : ∀ (Q : List Nat) (i f : Nat) (r : R) (M : mM), i + Q.length = t0 → Q.length < f → Q.Nodup → (∀ a, a ∈ Q → a < n ∧ (r.1 a).1 ≠ none) → M.2.1 436 28 = i32 t0 → lst (M.2.1 448) id i Q → MR y n yr r M → (∀ M', MR y n yr (Q.foldl (drp yr) r) M' → FrM M M' → OK (f_Model_passes_56 (msI M' 436 25 (i32 (Q.foldl (drp yr) r).2.length))) P) → OK (f_Model_passes_24 f (i32 i) M) P
  | _, _, 0, _, _, _, hf, _, _, _, _, _, _ => absurd hf (Nat.not_lt_zero _)
  | [], i, f + 1, r, M, hi, hf, hnd, hm, e28, hl, h, hk => by
    simp only [List.length_nil, Nat.add_zero] at hi
    unfold f_Model_passes_24
    simp (disch := omega) only [i32_le, e28, pI_s, Option.bind_some, h.2.2.1]
    rw [if_pos (by omega)]
    exact hk M h (FrM_refl M)
  | a :: Q, i, f + 1, r, M, hi, hf, hnd, hm, e28, hl, h, hk => by
    simp only [List.length_cons] at hi hf
    have hnd' := List.nodup_cons.mp hnd
    have ha := hm a List.mem_cons_self
    unfold f_Model_passes_24
    simp (disch := omega) only [i32_le, e28, rd_i32, hl.1, id, Option.bind_some]
    rw [if_neg (by omega)]
    refine OK_bind (m_falls h ha.1 ha.2) fun M1 h1 => ?_
    rw [nadd_1]
    have e448 : M1.2.1 448 = M.2.1 448 := h1.2.2.1 448 (by omega) (by omega) (by omega)
    refine m_passes24 (dr := dr) hv ht0 Q (i + 1) f (drp yr r a) M1 (by omega) (by omega) hnd'.2 (fun x hx => ?_) ((h1.2.2.2.1 28 (by omega) (by omega)).trans e28) (by rw [e448]; exact hl.2) h1.1 fun M' q1 q2 => hk M' q1 (FrM_trans h1.2 q2)
    have hxa : x ≠ a := fun z => hnd'.1 (z ▸ hx)
    have h0 := hm x (List.mem_cons_of_mem _ hx)
    refine ⟨h0.1, ?_⟩
    rw [show (drp yr r a).1 x = r.1 x from bup_o hxa]
    exact h0.2
theorem drp_len {yr : Nat} : ∀ {Q : List Nat} {r : R}, (Q.foldl (drp yr) r).2.length = r.2.length + Q.length
  | [], r => rfl
  | a :: Q, r => by
    rw [List.foldl_cons, drp_len, List.length_cons]
    show (r.2 ++ [a]).length + _ = _
    rw [List.length_append, List.length_singleton]
    omega
theorem m_passes {y : Yd} {dr : Bool} {φ : Option (List Int64 → Nat)} {n yr : Nat} {t : Nat → Option (Nat × Nat)} {b : Nat → B} {M : mM} (hv : VY y) (hC1 : 2 ≤ y_C y) (hpn : PN y n) (hy : yr < 2147483647) (hT : VT n t) (h : MS y yr n b (M.2.1 446)) (hV : V (y_L y) (y_C y) n b) (hx : MX y dr M) (hr : RM φ M) (hh : MH y n (M.2.1 446)) (hc : MT n t (M.2.1 446)) : OK (f_Model_passes M) fun z => z.1 = i32 (yea y φ n yr (dr || flo y yr) (b, []) 0).1.2.length ∧ MR y n (yr + 1) (yea y φ n yr (dr || flo y yr) (b, []) 0).1 z.2 ∧ MT n (stn y yr (yea y φ n yr (dr || flo y yr) (b, []) 0).1.1 t) (z.2.2.1 446) ∧ FrP M z.2 ∧ z.2.2.1 436 25 = i32 (yea y φ n yr (dr || flo y yr) (b, []) 0).2 := by
  have hn := hV.2.2.1
  unfold f_Model_passes
  simp only [pI_s, Option.bind_some]
  let M2 : mM := msI (msI M 436 24 0) 436 25 0
  have e446 : M2.2.1 446 = M.2.1 446 := (gIp (by omega)).trans (gIp (by omega))
  have hF2 : FrP M M2 := ⟨rfl, fun p p1 _ _ _ => (gIp p1).trans (gIp p1), fun i _ i2 i3 _ => (gIo i3).trans (gIo i2), fun i _ => by rw [e446], fun g _ => by rw [e446]⟩
  have hR2 : MR y n yr (b, []) M2 := ⟨by rw [e446]; exact h, hV, (gIo (by omega)).trans (gIe _ _ _ _), Nat.zero_le _, fun k hk => absurd hk (Nat.not_lt_zero k)⟩
  have hX2 : MX y dr M2 := ⟨by rw [e446]; exact hx.1, (gIo (by omega)).trans ((gIo (by omega)).trans hx.2)⟩
  have hr2 : RM φ M2 := RM_of hr ((gIp (by omega)).trans (gIp (by omega))) ((gIp (by omega)).trans (gIp (by omega))) ((gIp (by omega)).trans (gIp (by omega))) ((gIo (by omega)).trans (gIo (by omega)))
  have hh2 : MH y n (M2.2.1 446) := by rw [e446]; exact hh
  have hc2 : MT n t (M2.2.1 446) := by rw [e446]; exact hc
  have e25 : M2.2.1 436 25 = 0 := gIe _ _ _ _
  show OK ((f_Model_isFlood M2).bind _) _
  rw [m_isFlood hX2.1 hv hR2.1.2.2.2.1 (by omega) hX2.2, Option.bind_some]
  cases hd : (dr || flo y yr) with
  | false =>
    rw [if_pos e01_f]
    refine OK_imp (m_passes56 hv (by omega) hpn hy hT hR2 hX2 hr2 hh2 hc2) fun z hz => ?_
    rw [hd] at hz
    exact ⟨hz.1, hz.2.1, hz.2.2.1, FrP_trans hF2 hz.2.2.2.1, hz.2.2.2.2.trans e25⟩
  | true =>
    rw [if_neg e01_t]
    have hms := m_sorts (K := 2) hR2 (by omega) (by omega)
    refine OK_bind hms fun M3 h3 => ?_
    have hsc : scC b n (y_L y) 2 0 = (ord b n).filter (low b 2) := scan_eq hV
    have h3' : M3.2.1 436 28 = i32 ((ord b n).filter (low b 2)).length ∧ lst (M3.2.1 448) id 0 ((ord b n).filter (low b 2)) := by rw [← hsc]; exact h3.2
    have hlen : ((ord b n).filter (low b 2)).length ≤ n := Nat.le_trans (List.length_filter_le _ _) ord_len
    have e3 : M3.2.1 446 = M2.2.1 446 := h3.1.2.1 446 (by omega) (by omega)
    have hnd : (ord b n).Nodup := SL_nodup (ord_SL hV)
    refine m_passes24 (dr := dr) (y := y) (n := n) (yr := yr) hv (t0 := ((ord b n).filter (low b 2)).length) (by omega) _ 0 FUEL (b, []) M3 (Nat.zero_add _) (by rw [FUEL_eq]; omega) (List.Pairwise.filter _ hnd) (fun a ha => ord_mem.mp (List.mem_filter.mp ha).1) h3'.1 h3'.2 (MR_FrQ hR2 h3.1) fun M4 q1 q2 => ?_
    have efld := fld_eq (yr := yr) (r := (b, [])) (k := 0) hnd
    have eyea : yea y φ n yr true (b, []) 0 = ((ord (((ord b n).filter (low b 2)).foldl (drp yr) (b, [])).1 n).foldl (trn y φ n yr true) (((ord b n).filter (low b 2)).foldl (drp yr) (b, [])), ((ord b n).filter (low b 2)).length) := by
      unfold yea
      rw [if_pos rfl, efld, Nat.zero_add]
    let M5 : mM := msI M4 436 25 (i32 (((ord b n).filter (low b 2)).foldl (drp yr) (b, [])).2.length)
    have e5 : M5.2.1 446 = M4.2.1 446 := gIp (by omega)
    have hR5 : MR y n yr (((ord b n).filter (low b 2)).foldl (drp yr) (b, [])) M5 := by
      obtain ⟨t1, t2, t3, t4, t5⟩ := q1
      exact ⟨by rw [e5]; exact t1, t2, (gIo (by omega)).trans t3, t4, by rw [show M5.2.1 447 = M4.2.1 447 from gIp (by omega)]; exact t5⟩
    have hX4 := MX_Fr (MX_FrQ hX2 h3.1) hv q2
    have hX5 : MX y dr M5 := ⟨by rw [e5]; exact hX4.1, (gIo (by omega)).trans hX4.2⟩
    have hr5 : RM φ M5 := RM_of (RM_Fr (RM_of hr2 (h3.1.2.1 438 (by omega) (by omega)) (h3.1.2.1 440 (by omega) (by omega)) (h3.1.2.1 441 (by omega) (by omega)) (h3.1.2.2 21 (by omega))) q2) (gIp (by omega)) (gIp (by omega)) (gIp (by omega)) (gIo (by omega))
    have hh5 : MH y n (M5.2.1 446) := fun g hg => by rw [e5, q2.2.2.2.2 g, e3]; exact hh2 g hg
    have hc5 : MT n t (M5.2.1 446) := by rw [e5]; exact MT_cong hc2 hn fun j j1 j2 => by rw [q2.2.2.2.1 j (by omega), e3]
    have hF5 : FrP M M5 := FrP_trans hF2 (FrP_trans (FrP_Q h3.1) (FrP_trans (FrP_M q2) ⟨rfl, fun p p1 _ _ _ => gIp p1, fun i _ _ i3 _ => gIo i3, fun i _ => by rw [e5], fun g _ => by rw [e5]⟩))
    refine OK_imp (m_passes56 hv (by omega) hpn hy hT hR5 hX5 hr5 hh5 hc5) fun z hz => ?_
    rw [hd] at hz
    rw [eyea]
    refine ⟨hz.1, hz.2.1, hz.2.2.1, FrP_trans hF5 hz.2.2.2.1, hz.2.2.2.2.trans ?_⟩
    show (msI M4 436 25 _).2.1 436 25 = _
    rw [gIe, drp_len]
    show i32 (0 + _) = _
    rw [Nat.zero_add]
