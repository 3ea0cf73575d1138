/-! ===== one grave's steps: the model ===== -/
def MR (y : Yd) (n yr : Nat) (r : R) (M : mM) : Prop := MS y yr n r.1 (M.2.1 446) ∧ V (y_L y) (y_C y) n r.1 ∧ M.2.1 436 24 = i32 r.2.length ∧ r.2.length ≤ fMany r.1 n ∧ ∀ k, k < r.2.length → M.2.1 447 k = i32 (r.2.getD k 0)
def MX (y : Yd) (dr : Bool) (M : mM) : Prop := MY y (M.2.1 446) ∧ M.2.1 436 26 = e01 dr
def FrM (M M' : mM) : Prop := (M'.2.2.2, M'.2.2.1 436) = (M.2.2.2, M.2.2.1 436) ∧ (∀ p, p ≠ 436 → p ≠ 446 → p ≠ 447 → M'.2.1 p = M.2.1 p) ∧ (∀ i, i ≠ 24 → i ≠ 18 → M'.2.1 436 i = M.2.1 436 i) ∧ (∀ i, i < 10 ∨ 109 ≤ i → M'.2.1 446 i = M.2.1 446 i) ∧ ∀ g, M'.2.1 446 (10 + 9 * g + 8) = M.2.1 446 (10 + 9 * g + 8)
theorem FrM_refl (M : mM) : FrM M M := ⟨rfl, fun _ _ _ _ => rfl, fun _ _ _ => rfl, fun _ _ => rfl, fun _ => rfl⟩
theorem FrM_trans {M M' M'' : mM} (h : FrM M M') (h' : FrM M' M'') : FrM M M'' := ⟨h'.1.trans h.1, fun p a b c => (h'.2.1 p a b c).trans (h.2.1 p a b c), fun i a b => (h'.2.2.1 i a b).trans (h.2.2.1 i a b), fun i a => (h'.2.2.2.1 i a).trans (h.2.2.2.1 i a), fun g => (h'.2.2.2.2 g).trans (h.2.2.2.2 g)⟩
theorem MY_cong {y : Yd} {F F' : Nat → Int32} (h : MY y F) (hv : VY y) (e : ∀ i, i < 10 ∨ 109 ≤ i → F' i = F i) : MY y F' := by
  obtain ⟨⟨rt, h5, hr, he⟩, h6, h7⟩ := h
  refine ⟨⟨rt, (e 5 (by omega)).trans h5, fun k hk => ?_, he⟩, (e 6 (by omega)).trans h6, fun k hk => (e (149 + k) (by omega)).trans (h7 k hk)⟩
  obtain ⟨a1, a2, a3, a4, a5⟩ := hr k hk
  exact ⟨a1, a2, (e (131 + 3 * k) (by omega)).trans a3, (e (131 + 3 * k + 1) (by omega)).trans a4, (e (131 + 3 * k + 2) (by omega)).trans a5⟩
theorem MX_Fr {y : Yd} {dr : Bool} {M M' : mM} (h : MX y dr M) (hv : VY y) (hf : FrM M M') : MX y dr M' := ⟨MY_cong h.1 hv hf.2.2.2.1, (hf.2.2.1 26 (by omega) (by omega)).trans h.2⟩
theorem MS_put {y : Yd} {yr n : Nat} {b : Nat → B} {F F' : Nat → Int32} {g : Nat} {x : B} (h : MS y yr n b F) (hg : g < n) (eo : ∀ j, j < 10 + 9 * g ∨ 10 + 9 * g + 9 ≤ j → F' j = F j) (eg : MB F' g x) (e6 : F' (10 + 9 * g + 6) = F (10 + 9 * g + 6)) : MS y yr n (bup b g x) F' := by
  obtain ⟨h0, h1, h2, h3, h4, h5⟩ := h
  refine ⟨(eo 0 (by omega)).trans h0, (eo 1 (by omega)).trans h1, (eo 2 (by omega)).trans h2, (eo 3 (by omega)).trans h3, h4, fun j hj => ?_⟩
  by_cases c : j = g
  · subst c
    rw [bup_e]
    exact ⟨eg, e6.trans (h5 j hj).2⟩
  · rw [bup_o c]
    obtain ⟨⟨a1, a2, a3, a4, a5, a6, a7⟩, a8⟩ := h5 j hj
    exact ⟨⟨(eo _ (by omega)).trans a1, (eo _ (by omega)).trans a2, (eo _ (by omega)).trans a3, (eo _ (by omega)).trans a4, (eo _ (by omega)).trans a5, (eo _ (by omega)).trans a6, (eo _ (by omega)).trans a7⟩, (eo _ (by omega)).trans a8⟩
theorem m_falls {y : Yd} {n yr : Nat} {r : R} {M : mM} (h : MR y n yr r M) {g : Nat} (hg : g < n) (hl : (r.1 g).1 ≠ none) : OK (f_Model_falls (i32 g) M) fun M' => MR y n yr (drp yr r g) M' ∧ FrM M M' := by
  obtain ⟨hS, hV, hc, hb, hr⟩ := h
  have hn := hV.2.2.1
  have h1 := fMany_lt hl hg
  obtain ⟨⟨a1, a2, a3, a4, a5, a6, a7⟩, a8⟩ := hS.2.2.2.2.2 g hg
  unfold f_Model_falls
  simp (disch := omega) only [i32_lt, i32_le, i32_eq, i32_add, i32_mul, i32_neg, i32_nn, i32_ne1, i32_n1e, n1_lt_i32, i32_le_n1, i32_dec, i32_cl, rd_i32, ix_i32, wr_i32, pI_s, pR_s, pC_s, pZ_0, pZ_1, Option.bind_some, ite_true, ite_false, if_true, if_false, gIL, gRI, nlt_0, l0_lt, nle_0, l0_le, neq_0, nadd_0, nmul_0, nmul'_0, nadd'_0, nsub_0, nlt_1, l1_lt, nle_1, l1_le, neq_1, nadd_1, nmul_1, nmul'_1, nadd'_1, nsub_1, nlt_2, l2_lt, nle_2, l2_le, neq_2, nadd_2, nmul_2, nmul'_2, nadd'_2, nsub_2, nlt_3, l3_lt, nle_3, l3_le, neq_3, nadd_3, nmul_3, nmul'_3, nadd'_3, nsub_3, nlt_4, l4_lt, nle_4, l4_le, neq_4, nadd_4, nmul_4, nmul'_4, nadd'_4, nsub_4, nlt_5, l5_lt, nle_5, l5_le, neq_5, nadd_5, nmul_5, nmul'_5, nadd'_5, nsub_5, nlt_6, l6_lt, nle_6, l6_le, neq_6, nadd_6, nmul_6, nmul'_6, nadd'_6, nsub_6, nlt_7, l7_lt, nle_7, l7_le, neq_7, nadd_7, nmul_7, nmul'_7, nadd'_7, nsub_7, nlt_8, l8_lt, nle_8, l8_le, neq_8, nadd_8, nmul_8, nmul'_8, nadd'_8, nsub_8, nlt_9, l9_lt, nle_9, l9_le, neq_9, nadd_9, nmul_9, nmul'_9, nadd'_9, nsub_9, nlt_10, l10_lt, nle_10, l10_le, neq_10, nadd_10, nmul_10, nmul'_10, nadd'_10, nsub_10, nlt_11, l11_lt, nle_11, l11_le, neq_11, nadd_11, nmul_11, nmul'_11, nadd'_11, nsub_11, nlt_12, l12_lt, nle_12, l12_le, neq_12, nadd_12, nmul_12, nmul'_12, nadd'_12, nsub_12, nlt_13, l13_lt, nle_13, l13_le, neq_13, nadd_13, nmul_13, nmul'_13, nadd'_13, nsub_13, nlt_20, l20_lt, nle_20, l20_le, neq_20, nadd_20, nmul_20, nmul'_20, nadd'_20, nsub_20, nlt_400, l400_lt, nle_400, l400_le, neq_400, nadd_400, nmul_400, nmul'_400, nadd'_400, nsub_400, rd_0, wr_0, rd_1, wr_1, rd_2, wr_2, rd_3, wr_3, rd_4, wr_4, rd_5, wr_5, rd_6, wr_6, rd_7, wr_7, rd_8, wr_8, rd_9, wr_9, rd_10, wr_10, rd_11, wr_11, rd_12, wr_12, gIe, gIp, gIo, gCe, gCn, gRI, gLI, gIR, gCR, gLR, gRe, gRo, gRp, gIl, hc, hS.2.2.2.1]
  refine OK_some ⟨⟨?_, V_drop hV rfl (hV.2.2.2.1 g hg).2.1 rfl, ?_, ?_, ?_⟩, ⟨rfl, ?_, ?_, ?_, ?_⟩⟩
  · refine MS_put hS hg ?_ ⟨?_, ?_, ?_, ?_, ?_, ?_, ?_⟩ ?_
    · intro j hj
      simp (disch := omega) only [gIe, gIp, gIo, gCe, gCn, gRI, gLI, gIR, gCR, gLR, gRe, gRo, gRp, gIl]
    all_goals simp (disch := omega) only [gIe, gIp, gIo, gCe, gCn, gRI, gLI, gIR, gCR, gLR, gRe, gRo, gRp, gIl] <;> first | rfl | assumption
  · simp (disch := omega) only [gIe, gIp, gIo, gCe, gCn, gRI, gLI, gIR, gCR, gLR, gRe, gRo, gRp, gIl, drp, List.length_append, List.length_singleton]
  · show (r.2 ++ [g]).length ≤ fMany (bup r.1 g _) n
    rw [fMany_drop rfl hl hg]
    simp only [List.length_append, List.length_singleton]
    omega
  · intro k hk
    simp only [drp, List.length_append, List.length_singleton] at hk
    by_cases c : k = r.2.length
    · subst c
      simp (disch := omega) only [gIe, gIp, gIo, gCe, gCn, gRI, gLI, gIR, gCR, gLR, gRe, gRo, gRp, gIl, drp, List.getD_eq_getElem?_getD, List.getElem?_concat_length, Option.getD_some]
    · simp (disch := omega) only [gIe, gIp, gIo, gCe, gCn, gRI, gLI, gIR, gCR, gLR, gRe, gRo, gRp, gIl, drp]
      rw [hr k (by omega), List.getD_eq_getElem?_getD, List.getD_eq_getElem?_getD, List.getElem?_append_left (by omega)]
  · intro p p1 p2 p3
    simp (disch := omega) only [gIe, gIp, gIo, gCe, gCn, gRI, gLI, gIR, gCR, gLR, gRe, gRo, gRp, gIl]
  · intro i i1 i2
    simp (disch := omega) only [gIe, gIp, gIo, gCe, gCn, gRI, gLI, gIR, gCR, gLR, gRe, gRo, gRp, gIl]
  · intro i hi
    simp (disch := omega) only [gIe, gIp, gIo, gCe, gCn, gRI, gLI, gIR, gCR, gLR, gRe, gRo, gRp, gIl]
  · intro j
    simp (disch := omega) only [gIe, gIp, gIo, gCe, gCn, gRI, gLI, gIR, gCR, gLR, gRe, gRo, gRp, gIl]
theorem e01_01 (x : Bool) : e01 x = 0 ∨ e01 x = 1 := by cases x; exact Or.inl rfl; exact Or.inr rfl
theorem m_comes {y : Yd} {n yr : Nat} {r : R} {dr : Bool} {M : mM} (h : MR y n yr r M) (hx : MX y dr M) (hv : VY y) {g l c : Nat} {x : Int32} (hg : g < n) (hp : (r.1 g).1 ≠ none) (hl : l < y_L y) (hc : c < y_C y) (hk : (r.1 g).2.1 ≠ 3) (hf : ∀ i, i < n → i ≠ g → (r.1 i).1 ≠ some (l, c)) (h7 : M.2.1 446 (10 + 9 * g + 7) = (r.1 g).2.2.2.2.2) : OK (f_Model_comesInto (i32 g) (i32 l) (i32 c) M) fun q => q.1 = e01 (com y r g l c 0).1 ∧ MR y n yr (com y r g l c 0).2 q.2 ∧ FrM M q.2 := by
  obtain ⟨hS, hV, hcn, hb, hr⟩ := h
  have hn := hV.2.2.1
  obtain ⟨⟨a1, a2, a3, a4, a5, a6, a7⟩, a8⟩ := hS.2.2.2.2.2 g hg
  have hL := hV.1
  have hC := hV.2.1
  have hr9 := hv.2.2.2.2.2.2.1 l c
  have hkk := (hV.2.2.2.1 g hg).2.1
  unfold f_Model_comesInto
  simp (disch := omega) only [i32_lt, i32_le, i32_eq, i32_add, i32_mul, i32_neg, i32_nn, i32_ne1, i32_n1e, n1_lt_i32, i32_le_n1, i32_dec, i32_cl, rd_i32, ix_i32, wr_i32, pI_s, pR_s, pC_s, pZ_0, pZ_1, Option.bind_some, ite_true, ite_false, if_true, if_false, gIL, gRI, nlt_0, l0_lt, nle_0, l0_le, neq_0, nadd_0, nmul_0, nmul'_0, nadd'_0, nsub_0, nlt_1, l1_lt, nle_1, l1_le, neq_1, nadd_1, nmul_1, nmul'_1, nadd'_1, nsub_1, nlt_2, l2_lt, nle_2, l2_le, neq_2, nadd_2, nmul_2, nmul'_2, nadd'_2, nsub_2, nlt_3, l3_lt, nle_3, l3_le, neq_3, nadd_3, nmul_3, nmul'_3, nadd'_3, nsub_3, nlt_4, l4_lt, nle_4, l4_le, neq_4, nadd_4, nmul_4, nmul'_4, nadd'_4, nsub_4, nlt_5, l5_lt, nle_5, l5_le, neq_5, nadd_5, nmul_5, nmul'_5, nadd'_5, nsub_5, nlt_6, l6_lt, nle_6, l6_le, neq_6, nadd_6, nmul_6, nmul'_6, nadd'_6, nsub_6, nlt_7, l7_lt, nle_7, l7_le, neq_7, nadd_7, nmul_7, nmul'_7, nadd'_7, nsub_7, nlt_8, l8_lt, nle_8, l8_le, neq_8, nadd_8, nmul_8, nmul'_8, nadd'_8, nsub_8, nlt_9, l9_lt, nle_9, l9_le, neq_9, nadd_9, nmul_9, nmul'_9, nadd'_9, nsub_9, nlt_10, l10_lt, nle_10, l10_le, neq_10, nadd_10, nmul_10, nmul'_10, nadd'_10, nsub_10, nlt_11, l11_lt, nle_11, l11_le, neq_11, nadd_11, nmul_11, nmul'_11, nadd'_11, nsub_11, nlt_12, l12_lt, nle_12, l12_le, neq_12, nadd_12, nmul_12, nmul'_12, nadd'_12, nsub_12, nlt_13, l13_lt, nle_13, l13_le, neq_13, nadd_13, nmul_13, nmul'_13, nadd'_13, nsub_13, nlt_20, l20_lt, nle_20, l20_le, neq_20, nadd_20, nmul_20, nmul'_20, nadd'_20, nsub_20, nlt_400, l400_lt, nle_400, l400_le, neq_400, nadd_400, nmul_400, nmul'_400, nadd'_400, nsub_400, rd_0, wr_0, rd_1, wr_1, rd_2, wr_2, rd_3, wr_3, rd_4, wr_4, rd_5, wr_5, rd_6, wr_6, rd_7, wr_7, rd_8, wr_8, rd_9, wr_9, rd_10, wr_10, rd_11, wr_11, rd_12, wr_12, gIe, gIp, gIo, gCe, gCn, gRI, gLI, gIR, gCR, gLR, gRe, gRo, gRp, gIl]
  rw [m_rootAt (y := y) (MY_cong hx.1 hv (fun i hi => ?_)) hv (by omega) (by omega)]
  · simp (disch := omega) only [i32_lt, i32_le, i32_eq, i32_add, i32_mul, i32_neg, i32_nn, i32_ne1, i32_n1e, n1_lt_i32, i32_le_n1, i32_dec, i32_cl, rd_i32, ix_i32, wr_i32, pI_s, pR_s, pC_s, pZ_0, pZ_1, Option.bind_some, ite_true, ite_false, if_true, if_false, gIL, gRI, nlt_0, l0_lt, nle_0, l0_le, neq_0, nadd_0, nmul_0, nmul'_0, nadd'_0, nsub_0, nlt_1, l1_lt, nle_1, l1_le, neq_1, nadd_1, nmul_1, nmul'_1, nadd'_1, nsub_1, nlt_2, l2_lt, nle_2, l2_le, neq_2, nadd_2, nmul_2, nmul'_2, nadd'_2, nsub_2, nlt_3, l3_lt, nle_3, l3_le, neq_3, nadd_3, nmul_3, nmul'_3, nadd'_3, nsub_3, nlt_4, l4_lt, nle_4, l4_le, neq_4, nadd_4, nmul_4, nmul'_4, nadd'_4, nsub_4, nlt_5, l5_lt, nle_5, l5_le, neq_5, nadd_5, nmul_5, nmul'_5, nadd'_5, nsub_5, nlt_6, l6_lt, nle_6, l6_le, neq_6, nadd_6, nmul_6, nmul'_6, nadd'_6, nsub_6, nlt_7, l7_lt, nle_7, l7_le, neq_7, nadd_7, nmul_7, nmul'_7, nadd'_7, nsub_7, nlt_8, l8_lt, nle_8, l8_le, neq_8, nadd_8, nmul_8, nmul'_8, nadd'_8, nsub_8, nlt_9, l9_lt, nle_9, l9_le, neq_9, nadd_9, nmul_9, nmul'_9, nadd'_9, nsub_9, nlt_10, l10_lt, nle_10, l10_le, neq_10, nadd_10, nmul_10, nmul'_10, nadd'_10, nsub_10, nlt_11, l11_lt, nle_11, l11_le, neq_11, nadd_11, nmul_11, nmul'_11, nadd'_11, nsub_11, nlt_12, l12_lt, nle_12, l12_le, neq_12, nadd_12, nmul_12, nmul'_12, nadd'_12, nsub_12, nlt_13, l13_lt, nle_13, l13_le, neq_13, nadd_13, nmul_13, nmul'_13, nadd'_13, nsub_13, nlt_20, l20_lt, nle_20, l20_le, neq_20, nadd_20, nmul_20, nmul'_20, nadd'_20, nsub_20, nlt_400, l400_lt, nle_400, l400_le, neq_400, nadd_400, nmul_400, nmul'_400, nadd'_400, nsub_400, rd_0, wr_0, rd_1, wr_1, rd_2, wr_2, rd_3, wr_3, rd_4, wr_4, rd_5, wr_5, rd_6, wr_6, rd_7, wr_7, rd_8, wr_8, rd_9, wr_9, rd_10, wr_10, rd_11, wr_11, rd_12, wr_12, gIe, gIp, gIo, gCe, gCn, gRI, gLI, gIR, gCR, gLR, gRe, gRo, gRp, gIl]
    have hfm : fMany (com y r g l c 0).2.1 n = fMany r.1 n := fMany_same (by simp only [comB, reduceCtorEq]; exact (eq_false hp).symm)
    have fin : ∀ M', M' = msI (msI (msI M 446 (10 + 9 * g) (i32 l)) 446 (10 + 9 * g + 1) (i32 c)) 446 (10 + 9 * g + 3) (i32 (y_r y l c)) → MR y n yr (com y r g l c 0).2 M' ∧ FrM M M' := by
      intro M' hM'
      subst hM'
      refine ⟨⟨?_, V_come hV rfl hl hc hkk hr9 (fun z => absurd z hk) hf, ?_, ?_, ?_⟩, ⟨rfl, ?_, ?_, ?_, ?_⟩⟩
      · refine MS_put hS hg ?_ ⟨?_, ?_, ?_, ?_, ?_, ?_, ?_⟩ ?_
        · intro j hj
          simp (disch := omega) only [gIe, gIp, gIo, gCe, gCn, gRI, gLI, gIR, gCR, gLR, gRe, gRo, gRp, gIl]
        all_goals simp (disch := omega) only [gIe, gIp, gIo, gCe, gCn, gRI, gLI, gIR, gCR, gLR, gRe, gRo, gRp, gIl] <;> first | rfl | assumption | (rw [a7]; exact (Int32.add_zero _).symm)
      · simp (disch := omega) only [gIe, gIp, gIo, gCe, gCn, gRI, gLI, gIR, gCR, gLR, gRe, gRo, gRp, gIl]
        exact hcn
      · rw [hfm]; exact hb
      · intro k hk
        simp (disch := omega) only [gIe, gIp, gIo, gCe, gCn, gRI, gLI, gIR, gCR, gLR, gRe, gRo, gRp, gIl]
        exact hr k hk
      · intro p p1 p2 p3
        simp (disch := omega) only [gIe, gIp, gIo, gCe, gCn, gRI, gLI, gIR, gCR, gLR, gRe, gRo, gRp, gIl]
      · intro i i1 i2
        simp (disch := omega) only [gIe, gIp, gIo, gCe, gCn, gRI, gLI, gIR, gCR, gLR, gRe, gRo, gRp, gIl]
      · intro i hi
        simp (disch := omega) only [gIe, gIp, gIo, gCe, gCn, gRI, gLI, gIR, gCR, gLR, gRe, gRo, gRp, gIl]
      · intro j
        simp (disch := omega) only [gIe, gIp, gIo, gCe, gCn, gRI, gLI, gIR, gCR, gLR, gRe, gRo, gRp, gIl]
    by_cases c1 : y_r y l c = 0
    · rw [if_pos c1]
      refine OK_some ⟨?_, fin _ rfl⟩
      simp only [com, c1, decide_true, e01, if_true]
    · rw [if_neg c1]
      refine OK_some ⟨?_, fin _ rfl⟩
      simp only [com, c1, decide_false, e01, if_false, Bool.false_eq_true]
  · simp (disch := omega) only [gIe, gIp, gIo, gCe, gCn, gRI, gLI, gIR, gCR, gLR, gRe, gRo, gRp, gIl]
theorem eG_ge {o : Option Nat} (h : ∀ g, o = some g → g < 2147483648) : (0 ≤ eG o) = (o ≠ none) := by
  cases o with
  | none => exact propext ⟨fun z => absurd z (by decide), fun z => absurd rfl z⟩
  | some g => simp (disch := exact h g rfl) only [eG, i32_nn, ne_eq, reduceCtorEq, not_false_eq_true]
theorem m_isFree {y : Yd} {n yr : Nat} {r : R} {M : mM} (h : MR y n yr r M) (hv : VY y) {l c : Nat} (hl : l < 2147483648) (hc : c < y_C y) : f_Model_isFree (i32 l) (i32 c) M = some (e01 (decide (l < y_L y ∧ grv n r.1 l c = none)), M) := by
  have hn := h.1.2.2.2.2.1
  have hC := h.2.1.2.1
  unfold f_Model_isFree
  by_cases c1 : l < y_L y
  · rw [m_isPlace h.1.1 h.1.2.1 hv hl (by omega), if_pos ⟨c1, hc⟩]
    simp only [Option.bind_some, show ((1 : Int32) = 0) = False from by decide, if_false]
    rw [m_graveAt h.1 h.2.1 (by omega) (by omega)]
    simp only [Option.bind_some, eG_ge (grv_lt hn)]
    by_cases c2 : grv n r.1 l c = none
    · rw [if_neg (fun z => z c2)]
      simp only [c1, c2, and_self, decide_true]; rfl
    · rw [if_pos c2]
      simp only [c1, c2, and_false, decide_false]; rfl
  · rw [m_isPlace h.1.1 h.1.2.1 hv hl (by omega), if_neg (fun z => c1 z.1)]
    simp only [c1, false_and, decide_false]; rfl
theorem m_isFreeN {M : mM} {x z : Int32} (hx : x < 0) : f_Model_isFree x z M = some (0, M) := by
  unfold f_Model_isFree
  rw [m_isPlaceN (Or.inl hx)]
  rfl
def rndB (b : B) : B := (b.1, b.2.1, b.2.2.1, b.2.2.2.1, b.2.2.2.2.1, b.2.2.2.2.2 + 1)
theorem MR_rounds {y : Yd} {n yr : Nat} {r : R} {M : mM} (h : MR y n yr r M) {g l c : Nat} (hg : g < n) (hp : (r.1 g).1 = some (l, c)) : MR y n yr (bup r.1 g (rndB (r.1 g)), r.2) (msI M 446 (10 + 9 * g + 7) ((r.1 g).2.2.2.2.2 + 1)) ∧ FrM M (msI M 446 (10 + 9 * g + 7) ((r.1 g).2.2.2.2.2 + 1)) := by
  obtain ⟨hS, hV, hcn, hb, hr⟩ := h
  have hn := hV.2.2.1
  have hq := (hV.2.2.2.1 g hg).1 l c hp
  obtain ⟨⟨a1, a2, a3, a4, a5, a6, a7⟩, a8⟩ := hS.2.2.2.2.2 g hg
  refine ⟨⟨?_, V_come hV hp hq.1 hq.2 (hV.2.2.2.1 g hg).2.1 (hV.2.2.2.1 g hg).2.2.1 (hV.2.2.2.1 g hg).2.2.2 (fun i hi hig z => hig (hV.2.2.2.2 i g _ hi hg z hp)), ?_, ?_, ?_⟩, ⟨rfl, ?_, ?_, ?_, ?_⟩⟩
  · refine MS_put hS hg ?_ ⟨?_, ?_, ?_, ?_, ?_, ?_, ?_⟩ ?_
    · intro j hj
      simp (disch := omega) only [gIe, gIp, gIo, gCe, gCn, gRI, gLI, gIR, gCR, gLR, gRe, gRo, gRp, gIl]
    all_goals simp (disch := omega) only [gIe, gIp, gIo, gCe, gCn, gRI, gLI, gIR, gCR, gLR, gRe, gRo, gRp, gIl] <;> first | rfl | assumption
  · simp (disch := omega) only [gIe, gIp, gIo, gCe, gCn, gRI, gLI, gIR, gCR, gLR, gRe, gRo, gRp, gIl]
    exact hcn
  · rw [show fMany (bup r.1 g (rndB (r.1 g)), r.2).1 n = fMany r.1 n from fMany_same (g := g) (x := rndB (r.1 g)) (show ((rndB (r.1 g)).1 = none) = ((r.1 g).1 = none) from rfl)]; exact hb
  · intro k hk
    simp (disch := omega) only [gIe, gIp, gIo, gCe, gCn, gRI, gLI, gIR, gCR, gLR, gRe, gRo, gRp, gIl]
    exact hr k hk
  · intro p p1 p2 p3
    simp (disch := omega) only [gIe, gIp, gIo, gCe, gCn, gRI, gLI, gIR, gCR, gLR, gRe, gRo, gRp, gIl]
  · intro i i1 i2
    simp (disch := omega) only [gIe, gIp, gIo, gCe, gCn, gRI, gLI, gIR, gCR, gLR, gRe, gRo, gRp, gIl]
  · intro i hi
    simp (disch := omega) only [gIe, gIp, gIo, gCe, gCn, gRI, gLI, gIR, gCR, gLR, gRe, gRo, gRp, gIl]
  · intro j
    simp (disch := omega) only [gIe, gIp, gIo, gCe, gCn, gRI, gLI, gIR, gCR, gLR, gRe, gRo, gRp, gIl]
theorem com_round (y : Yd) (r : R) (g l c : Nat) : com y (bup r.1 g (rndB (r.1 g)), r.2) g l c 0 = com y r g l c 1 := by
  unfold com
  refine Prod.ext rfl (Prod.ext (funext fun j => ?_) rfl)
  show bup (bup r.1 g _) g _ j = bup r.1 g _ j
  by_cases cj : j = g
  · subst cj
    rw [bup_e, bup_e]
    simp only [bup_e, comB, rndB, Int32.add_zero]
  · rw [bup_o cj, bup_o cj, bup_o cj]
theorem m_steps98 {y : Yd} {n yr : Nat} {r : R} {dr : Bool} {M : mM} (h : MR y n yr r M) (hx : MX y dr M) (hv : VY y) {g l c l' c' : Nat} (hg : g < n) (hp : (r.1 g).1 = some (l', c')) (hl : l < y_L y) (hc : c < y_C y) (hk : (r.1 g).2.1 ≠ 3) (hf : grv n r.1 l c = none) : OK (f_Model_steps_98 (i32 g) (i32 c) (i32 l) M) fun q => q.1 = e01 (com y r g l c 1).1 ∧ MR y n yr (com y r g l c 1).2 q.2 ∧ FrM M q.2 := by
  have hn := h.2.1.2.2.1
  have hL := h.2.1.1
  have a7 := (h.1.2.2.2.2.2 g hg).1.2.2.2.2.2.2
  unfold f_Model_steps_98
  simp (disch := omega) only [i32_nn, if_true, i32_lt, i32_le, i32_eq, i32_add, i32_mul, i32_neg, i32_nn, i32_ne1, i32_n1e, n1_lt_i32, i32_le_n1, i32_dec, i32_cl, rd_i32, ix_i32, wr_i32, pI_s, pR_s, pC_s, pZ_0, pZ_1, Option.bind_some, ite_true, ite_false, if_true, if_false, gIL, gRI, nlt_0, l0_lt, nle_0, l0_le, neq_0, nadd_0, nmul_0, nmul'_0, nadd'_0, nsub_0, nlt_1, l1_lt, nle_1, l1_le, neq_1, nadd_1, nmul_1, nmul'_1, nadd'_1, nsub_1, nlt_2, l2_lt, nle_2, l2_le, neq_2, nadd_2, nmul_2, nmul'_2, nadd'_2, nsub_2, nlt_3, l3_lt, nle_3, l3_le, neq_3, nadd_3, nmul_3, nmul'_3, nadd'_3, nsub_3, nlt_4, l4_lt, nle_4, l4_le, neq_4, nadd_4, nmul_4, nmul'_4, nadd'_4, nsub_4, nlt_5, l5_lt, nle_5, l5_le, neq_5, nadd_5, nmul_5, nmul'_5, nadd'_5, nsub_5, nlt_6, l6_lt, nle_6, l6_le, neq_6, nadd_6, nmul_6, nmul'_6, nadd'_6, nsub_6, nlt_7, l7_lt, nle_7, l7_le, neq_7, nadd_7, nmul_7, nmul'_7, nadd'_7, nsub_7, nlt_8, l8_lt, nle_8, l8_le, neq_8, nadd_8, nmul_8, nmul'_8, nadd'_8, nsub_8, nlt_9, l9_lt, nle_9, l9_le, neq_9, nadd_9, nmul_9, nmul'_9, nadd'_9, nsub_9, nlt_10, l10_lt, nle_10, l10_le, neq_10, nadd_10, nmul_10, nmul'_10, nadd'_10, nsub_10, nlt_11, l11_lt, nle_11, l11_le, neq_11, nadd_11, nmul_11, nmul'_11, nadd'_11, nsub_11, nlt_12, l12_lt, nle_12, l12_le, neq_12, nadd_12, nmul_12, nmul'_12, nadd'_12, nsub_12, nlt_13, l13_lt, nle_13, l13_le, neq_13, nadd_13, nmul_13, nmul'_13, nadd'_13, nsub_13, nlt_20, l20_lt, nle_20, l20_le, neq_20, nadd_20, nmul_20, nmul'_20, nadd'_20, nsub_20, nlt_400, l400_lt, nle_400, l400_le, neq_400, nadd_400, nmul_400, nmul'_400, nadd'_400, nsub_400, rd_0, wr_0, rd_1, wr_1, rd_2, wr_2, rd_3, wr_3, rd_4, wr_4, rd_5, wr_5, rd_6, wr_6, rd_7, wr_7, rd_8, wr_8, rd_9, wr_9, rd_10, wr_10, rd_11, wr_11, rd_12, wr_12, a7]
  have h1 := MR_rounds h hg hp
  have hne : (r.1 g).1 ≠ none := by rw [hp]; exact Option.some_ne_none _
  refine OK_bind (m_comes (x := 0) h1.1 (MX_Fr hx hv h1.2) hv hg (by show (bup r.1 g _ g).1 ≠ none; rw [bup_e]; exact hne) hl hc (by show (bup r.1 g _ g).2.1 ≠ 3; rw [bup_e]; exact hk) (fun i hi hig => by show (bup r.1 g _ i).1 ≠ _; rw [bup_o hig]; exact grv_none hf hi) (by show _ = (bup r.1 g _ g).2.2.2.2.2; rw [bup_e, gIe]; rfl)) fun q hq => ?_
  rw [com_round] at hq
  rw [hq.1, if_pos (e01_01 _)]
  exact OK_some ⟨rfl, hq.2.1, FrM_trans h1.2 hq.2.2⟩
theorem m_steps {y : Yd} {n yr : Nat} {r : R} {dr : Bool} {M : mM} (h : MR y n yr r M) (hx : MX y dr M) (hv : VY y) {g : Nat} (hg : g < n) (hp : (r.1 g).1 ≠ none) (hk : (r.1 g).2.1 ≠ 3) : OK (f_Model_steps (i32 g) M) fun q => q.1 = e01 (goS y n yr r g).1 ∧ MR y n yr (goS y n yr r g).2 q.2 ∧ FrM M q.2 := by
  have hn := h.1.2.2.2.2.1
  have hV := h.2.1
  have hL := hV.1
  have hC := hV.2.1
  obtain ⟨⟨a1, a2, a3, a4, a5, a6, a7⟩, a8⟩ := h.1.2.2.2.2.2 g hg
  unfold f_Model_steps goS
  cases hpq : (r.1 g).1 with
  | none => exact absurd hpq hp
  | some q =>
    obtain ⟨l, c⟩ := q
    have hq := (hV.2.2.2.1 g hg).1 l c hpq
    rw [hpq] at a1 a2
    simp only [eL, eC] at a1 a2
    simp (disch := omega) only [i32_lt, i32_le, i32_eq, i32_add, i32_mul, i32_neg, i32_nn, i32_ne1, i32_n1e, n1_lt_i32, i32_le_n1, i32_dec, i32_cl, rd_i32, ix_i32, wr_i32, pI_s, pR_s, pC_s, pZ_0, pZ_1, Option.bind_some, ite_true, ite_false, if_true, if_false, gIL, gRI, nlt_0, l0_lt, nle_0, l0_le, neq_0, nadd_0, nmul_0, nmul'_0, nadd'_0, nsub_0, nlt_1, l1_lt, nle_1, l1_le, neq_1, nadd_1, nmul_1, nmul'_1, nadd'_1, nsub_1, nlt_2, l2_lt, nle_2, l2_le, neq_2, nadd_2, nmul_2, nmul'_2, nadd'_2, nsub_2, nlt_3, l3_lt, nle_3, l3_le, neq_3, nadd_3, nmul_3, nmul'_3, nadd'_3, nsub_3, nlt_4, l4_lt, nle_4, l4_le, neq_4, nadd_4, nmul_4, nmul'_4, nadd'_4, nsub_4, nlt_5, l5_lt, nle_5, l5_le, neq_5, nadd_5, nmul_5, nmul'_5, nadd'_5, nsub_5, nlt_6, l6_lt, nle_6, l6_le, neq_6, nadd_6, nmul_6, nmul'_6, nadd'_6, nsub_6, nlt_7, l7_lt, nle_7, l7_le, neq_7, nadd_7, nmul_7, nmul'_7, nadd'_7, nsub_7, nlt_8, l8_lt, nle_8, l8_le, neq_8, nadd_8, nmul_8, nmul'_8, nadd'_8, nsub_8, nlt_9, l9_lt, nle_9, l9_le, neq_9, nadd_9, nmul_9, nmul'_9, nadd'_9, nsub_9, nlt_10, l10_lt, nle_10, l10_le, neq_10, nadd_10, nmul_10, nmul'_10, nadd'_10, nsub_10, nlt_11, l11_lt, nle_11, l11_le, neq_11, nadd_11, nmul_11, nmul'_11, nadd'_11, nsub_11, nlt_12, l12_lt, nle_12, l12_le, neq_12, nadd_12, nmul_12, nmul'_12, nadd'_12, nsub_12, nlt_13, l13_lt, nle_13, l13_le, neq_13, nadd_13, nmul_13, nmul'_13, nadd'_13, nsub_13, nlt_20, l20_lt, nle_20, l20_le, neq_20, nadd_20, nmul_20, nmul'_20, nadd'_20, nsub_20, nlt_400, l400_lt, nle_400, l400_le, neq_400, nadd_400, nmul_400, nmul'_400, nadd'_400, nsub_400, rd_0, wr_0, rd_1, wr_1, rd_2, wr_2, rd_3, wr_3, rd_4, wr_4, rd_5, wr_5, rd_6, wr_6, rd_7, wr_7, rd_8, wr_8, rd_9, wr_9, rd_10, wr_10, rd_11, wr_11, rd_12, wr_12, m_g0, m_g1, a1, a2]
    cases c with
    | zero =>
      rw [if_neg (by decide)]
      refine OK_bind (m_falls h hg hp) fun M' hM' => OK_some ⟨rfl, hM'.1, hM'.2⟩
    | succ c =>
      simp (disch := omega) only [i32_lt, i32_le, i32_eq, i32_add, i32_mul, i32_neg, i32_nn, i32_ne1, i32_n1e, n1_lt_i32, i32_le_n1, i32_dec, i32_cl, rd_i32, ix_i32, wr_i32, pI_s, pR_s, pC_s, pZ_0, pZ_1, Option.bind_some, ite_true, ite_false, if_true, if_false, gIL, gRI, nlt_0, l0_lt, nle_0, l0_le, neq_0, nadd_0, nmul_0, nmul'_0, nadd'_0, nsub_0, nlt_1, l1_lt, nle_1, l1_le, neq_1, nadd_1, nmul_1, nmul'_1, nadd'_1, nsub_1, nlt_2, l2_lt, nle_2, l2_le, neq_2, nadd_2, nmul_2, nmul'_2, nadd'_2, nsub_2, nlt_3, l3_lt, nle_3, l3_le, neq_3, nadd_3, nmul_3, nmul'_3, nadd'_3, nsub_3, nlt_4, l4_lt, nle_4, l4_le, neq_4, nadd_4, nmul_4, nmul'_4, nadd'_4, nsub_4, nlt_5, l5_lt, nle_5, l5_le, neq_5, nadd_5, nmul_5, nmul'_5, nadd'_5, nsub_5, nlt_6, l6_lt, nle_6, l6_le, neq_6, nadd_6, nmul_6, nmul'_6, nadd'_6, nsub_6, nlt_7, l7_lt, nle_7, l7_le, neq_7, nadd_7, nmul_7, nmul'_7, nadd'_7, nsub_7, nlt_8, l8_lt, nle_8, l8_le, neq_8, nadd_8, nmul_8, nmul'_8, nadd'_8, nsub_8, nlt_9, l9_lt, nle_9, l9_le, neq_9, nadd_9, nmul_9, nmul'_9, nadd'_9, nsub_9, nlt_10, l10_lt, nle_10, l10_le, neq_10, nadd_10, nmul_10, nmul'_10, nadd'_10, nsub_10, nlt_11, l11_lt, nle_11, l11_le, neq_11, nadd_11, nmul_11, nmul'_11, nadd'_11, nsub_11, nlt_12, l12_lt, nle_12, l12_le, neq_12, nadd_12, nmul_12, nmul'_12, nadd'_12, nsub_12, nlt_13, l13_lt, nle_13, l13_le, neq_13, nadd_13, nmul_13, nmul'_13, nadd'_13, nsub_13, nlt_20, l20_lt, nle_20, l20_le, neq_20, nadd_20, nmul_20, nmul'_20, nadd'_20, nsub_20, nlt_400, l400_lt, nle_400, l400_le, neq_400, nadd_400, nmul_400, nmul'_400, nadd'_400, nsub_400, rd_0, wr_0, rd_1, wr_1, rd_2, wr_2, rd_3, wr_3, rd_4, wr_4, rd_5, wr_5, rd_6, wr_6, rd_7, wr_7, rd_8, wr_8, rd_9, wr_9, rd_10, wr_10, rd_11, wr_11, rd_12, wr_12, Nat.add_sub_cancel, Nat.zero_le, m_graveAt h.1 hV, eG_ge (grv_lt hn)]
      cases ho : grv n r.1 l c with
      | none =>
        rw [if_neg (fun z => z rfl)]
        refine OK_bind (m_comes (x := 0) h hx hv hg hp hq.1 (by omega) hk (fun i hi _ => grv_none ho hi) a7) fun q hq' => ?_
        rw [hq'.1, if_pos (e01_01 _)]
        exact OK_some ⟨rfl, hq'.2.1, hq'.2.2⟩
      | some o =>
        obtain ⟨ho1, ho2⟩ := grv_some ho
        have b3 := (h.1.2.2.2.2.2 o ho1).1.2.2.1
        have k3 := (hV.2.2.2.1 o ho1).2.1
        rw [if_pos (Option.some_ne_none _), show eG (some o) = i32 o from rfl, m_g2 (show o < 11 by omega)]
        simp (disch := omega) only [Option.bind_some, b3, neq_3]
        have none98 : OK (f_Model_steps_98 (i32 g) (i32 c) (-1) M) fun q => q.1 = e01 false ∧ MR y n yr r q.2 ∧ FrM M q.2 := by
          unfold f_Model_steps_98
          rw [if_neg (by decide)]
          exact OK_some ⟨rfl, h, FrM_refl M⟩
        by_cases c1 : (r.1 o).2.1 = 3
        · rw [if_pos c1]
          unfold side
          rw [if_pos c1]
          by_cases c2 : 0 < l ∧ grv n r.1 (l - 1) c = none
          · rw [if_pos c2, nsub_1 (show 1 ≤ l by omega), m_isFree h hv (by omega) (by omega)]
            simp only [Option.bind_some, show (l - 1 < y_L y ∧ grv n r.1 (l - 1) c = none) = True from eq_true ⟨by omega, c2.2⟩, decide_true]
            rw [if_neg e01_t]
            exact m_steps98 h hx hv hg hpq (by omega) (by omega) hk c2.2
          · rw [if_neg c2]
            have e1 : f_Model_isFree (i32 l - 1) (i32 c) M = some (0, M) := by
              by_cases c3 : 0 < l
              · rw [nsub_1 (show 1 ≤ l by omega), m_isFree h hv (by omega) (by omega), show decide (l - 1 < y_L y ∧ grv n r.1 (l - 1) c = none) = false from decide_eq_false (fun z => c2 ⟨c3, z.2⟩)]
                rfl
              · have : l = 0 := by omega
                subst this
                exact m_isFreeN (by decide)
            rw [e1, Option.bind_some, if_pos rfl, m_isFree h hv (by omega) (by omega)]
            simp only [Option.bind_some]
            by_cases c3 : l + 1 < y_L y ∧ grv n r.1 (l + 1) c = none
            · rw [if_pos c3, decide_eq_true c3, if_neg e01_t]
              exact m_steps98 h hx hv hg hpq c3.1 (by omega) hk c3.2
            · rw [if_neg c3, decide_eq_false c3, if_pos e01_f]
              exact none98
        · rw [if_neg c1]
          unfold side
          rw [if_neg c1]
          exact none98
