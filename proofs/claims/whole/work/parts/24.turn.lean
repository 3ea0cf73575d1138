/-! ===== one grave's turn: the class ===== -/
theorem c_comeTo0 {y : Yd} {Yp : Nat} {n yr : Nat} {r : R} {M : mM} (h : CR y n yr r M) (hx : M.2.2.2 246 5 = some Yp ∧ Yp ∈ ydL ∧ (Yp + 8 ≤ 246 ∨ 269 ≤ Yp) ∧ CY Yp y M) (hv : VY y) {g l c : Nat} (hg : g < n) (hp : (r.1 g).1 ≠ none) (hl : l < y_L y) (hc : c < y_C y) (hk : (r.1 g).2.1 ≠ 3) (hf : ∀ i, i < n → i ≠ g → (r.1 i).1 ≠ some (l, c)) : OK (f_Course_comeTo (i32 g) (i32 l) (i32 c) M) fun M' => CR y n yr (com y r g l c 0).2 M' ∧ Fr M M' ∧ M'.2.1 246 3 = M.2.1 246 3 ∧ M'.2.1 251 g = i32 (y_r y l c) := by
  obtain ⟨hS, hV, hcn, hb, hr⟩ := h
  have hn := hV.2.2.1
  have hS' := hS
  obtain ⟨x1, x2, x3, x4⟩ := hx
  obtain ⟨s0, s1, s2, s3, s4⟩ := hS
  obtain ⟨a1, a2, a3, a4, a5, a6, a7⟩ := s4 g hg
  have hL := hV.1
  have hC := hV.2.1
  have hr9 := hv.2.2.2.2.2.2.1 l c
  have hkk := (hV.2.2.2.1 g hg).2.1
  unfold f_Course_comeTo
  rw [c_has1 hS' hg]
  simp (disch := omega) only [i32_lt, i32_le, i32_eq, i32_add, i32_mul, i32_neg, i32_nn, i32_ne1, i32_n1e, n1_lt_i32, i32_le_n1, i32_dec, i32_cl, rd_i32, ix_i32, wr_i32, pI_s, pR_s, pC_s, pZ_0, pZ_1, Option.bind_some, ite_true, ite_false, if_true, if_false, gIL, gRI, nlt_0, l0_lt, nle_0, l0_le, neq_0, nadd_0, nmul_0, nmul'_0, nadd'_0, nsub_0, nlt_1, l1_lt, nle_1, l1_le, neq_1, nadd_1, nmul_1, nmul'_1, nadd'_1, nsub_1, nlt_2, l2_lt, nle_2, l2_le, neq_2, nadd_2, nmul_2, nmul'_2, nadd'_2, nsub_2, nlt_3, l3_lt, nle_3, l3_le, neq_3, nadd_3, nmul_3, nmul'_3, nadd'_3, nsub_3, nlt_4, l4_lt, nle_4, l4_le, neq_4, nadd_4, nmul_4, nmul'_4, nadd'_4, nsub_4, nlt_5, l5_lt, nle_5, l5_le, neq_5, nadd_5, nmul_5, nmul'_5, nadd'_5, nsub_5, nlt_6, l6_lt, nle_6, l6_le, neq_6, nadd_6, nmul_6, nmul'_6, nadd'_6, nsub_6, nlt_7, l7_lt, nle_7, l7_le, neq_7, nadd_7, nmul_7, nmul'_7, nadd'_7, nsub_7, nlt_8, l8_lt, nle_8, l8_le, neq_8, nadd_8, nmul_8, nmul'_8, nadd'_8, nsub_8, nlt_9, l9_lt, nle_9, l9_le, neq_9, nadd_9, nmul_9, nmul'_9, nadd'_9, nsub_9, nlt_10, l10_lt, nle_10, l10_le, neq_10, nadd_10, nmul_10, nmul'_10, nadd'_10, nsub_10, nlt_11, l11_lt, nle_11, l11_le, neq_11, nadd_11, nmul_11, nmul'_11, nadd'_11, nsub_11, nlt_12, l12_lt, nle_12, l12_le, neq_12, nadd_12, nmul_12, nmul'_12, nadd'_12, nsub_12, nlt_13, l13_lt, nle_13, l13_le, neq_13, nadd_13, nmul_13, nmul'_13, nadd'_13, nsub_13, nlt_20, l20_lt, nle_20, l20_le, neq_20, nadd_20, nmul_20, nmul'_20, nadd'_20, nsub_20, nlt_400, l400_lt, nle_400, l400_le, neq_400, nadd_400, nmul_400, nmul'_400, nadd'_400, nsub_400, rd_0, wr_0, rd_1, wr_1, rd_2, wr_2, rd_3, wr_3, rd_4, wr_4, rd_5, wr_5, rd_6, wr_6, rd_7, wr_7, rd_8, wr_8, rd_9, wr_9, rd_10, wr_10, rd_11, wr_11, rd_12, wr_12, gIe, gIp, gIo, gCe, gCn, gRI, gLI, gIR, gCR, gLR, gRe, gRo, gRp, gIl, x1, nnl_s x2, show ((1 : Int32) = 0) = False from by decide]
  rw [c_rootAt (y := y) (CY_Sm (lo := 246) (hi := 258) x4 ?_ (by omega)) (by omega) (by omega)]
  · simp (disch := omega) only [i32_lt, i32_le, i32_eq, i32_add, i32_mul, i32_neg, i32_nn, i32_ne1, i32_n1e, n1_lt_i32, i32_le_n1, i32_dec, i32_cl, rd_i32, ix_i32, wr_i32, pI_s, pR_s, pC_s, pZ_0, pZ_1, Option.bind_some, ite_true, ite_false, if_true, if_false, gIL, gRI, nlt_0, l0_lt, nle_0, l0_le, neq_0, nadd_0, nmul_0, nmul'_0, nadd'_0, nsub_0, nlt_1, l1_lt, nle_1, l1_le, neq_1, nadd_1, nmul_1, nmul'_1, nadd'_1, nsub_1, nlt_2, l2_lt, nle_2, l2_le, neq_2, nadd_2, nmul_2, nmul'_2, nadd'_2, nsub_2, nlt_3, l3_lt, nle_3, l3_le, neq_3, nadd_3, nmul_3, nmul'_3, nadd'_3, nsub_3, nlt_4, l4_lt, nle_4, l4_le, neq_4, nadd_4, nmul_4, nmul'_4, nadd'_4, nsub_4, nlt_5, l5_lt, nle_5, l5_le, neq_5, nadd_5, nmul_5, nmul'_5, nadd'_5, nsub_5, nlt_6, l6_lt, nle_6, l6_le, neq_6, nadd_6, nmul_6, nmul'_6, nadd'_6, nsub_6, nlt_7, l7_lt, nle_7, l7_le, neq_7, nadd_7, nmul_7, nmul'_7, nadd'_7, nsub_7, nlt_8, l8_lt, nle_8, l8_le, neq_8, nadd_8, nmul_8, nmul'_8, nadd'_8, nsub_8, nlt_9, l9_lt, nle_9, l9_le, neq_9, nadd_9, nmul_9, nmul'_9, nadd'_9, nsub_9, nlt_10, l10_lt, nle_10, l10_le, neq_10, nadd_10, nmul_10, nmul'_10, nadd'_10, nsub_10, nlt_11, l11_lt, nle_11, l11_le, neq_11, nadd_11, nmul_11, nmul'_11, nadd'_11, nsub_11, nlt_12, l12_lt, nle_12, l12_le, neq_12, nadd_12, nmul_12, nmul'_12, nadd'_12, nsub_12, nlt_13, l13_lt, nle_13, l13_le, neq_13, nadd_13, nmul_13, nmul'_13, nadd'_13, nsub_13, nlt_20, l20_lt, nle_20, l20_le, neq_20, nadd_20, nmul_20, nmul'_20, nadd'_20, nsub_20, nlt_400, l400_lt, nle_400, l400_le, neq_400, nadd_400, nmul_400, nmul'_400, nadd'_400, nsub_400, rd_0, wr_0, rd_1, wr_1, rd_2, wr_2, rd_3, wr_3, rd_4, wr_4, rd_5, wr_5, rd_6, wr_6, rd_7, wr_7, rd_8, wr_8, rd_9, wr_9, rd_10, wr_10, rd_11, wr_11, rd_12, wr_12, gIe, gIp, gIo, gCe, gCn, gRI, gLI, gIR, gCR, gLR, gRe, gRo, gRp, gIl]
    have hfm : fMany (com y r g l c 0).2.1 n = fMany r.1 n := fMany_same (by simp only [comB, reduceCtorEq]; exact (eq_false hp).symm)
    refine OK_some ⟨⟨?_, V_come hV rfl hl hc hkk hr9 (fun z => absurd z hk) hf, ?_, ?_, ?_⟩, ⟨rfl, ?_, ?_⟩, ?_, ?_⟩
    · refine CS_put hS' ?_ ?_ ?_ ?_ ?_
      · simp (disch := omega) only [gIe, gIp, gIo, gCe, gCn, gRI, gLI, gIR, gCR, gLR, gRe, gRo, gRp, gIl]
      · simp (disch := omega) only [gIe, gIp, gIo, gCe, gCn, gRI, gLI, gIR, gCR, gLR, gRe, gRo, gRp, gIl]
      · simp (disch := omega) only [gIe, gIp, gIo, gCe, gCn, gRI, gLI, gIR, gCR, gLR, gRe, gRo, gRp, gIl]
        rw [s2]
        exact congrArg i32 hfm.symm
      · intro j hj
        simp (disch := omega) only [gIe, gIp, gIo, gCe, gCn, gRI, gLI, gIR, gCR, gLR, gRe, gRo, gRp, gIl, and_self]
      · refine ⟨?_, ?_, ?_, ?_, ?_, ?_, ?_⟩ <;> simp (disch := omega) only [gIe, gIp, gIo, gCe, gCn, gRI, gLI, gIR, gCR, gLR, gRe, gRo, gRp, gIl] <;> first | rfl | assumption | (rw [a7]; exact (Int32.add_zero _).symm)
    · simp (disch := omega) only [gIe, gIp, gIo, gCe, gCn, gRI, gLI, gIR, gCR, gLR, gRe, gRo, gRp, gIl]
      exact hcn
    · rw [hfm]; exact hb
    · intro k hk
      simp (disch := omega) only [gIe, gIp, gIo, gCe, gCn, gRI, gLI, gIR, gCR, gLR, gRe, gRo, gRp, gIl]
      exact hr k hk
    · intro p hp
      simp (disch := omega) only [gIe, gIp, gIo, gCe, gCn, gRI, gLI, gIR, gCR, gLR, gRe, gRo, gRp, gIl]
    · intro i h2 h3
      simp (disch := omega) only [gIe, gIp, gIo, gCe, gCn, gRI, gLI, gIR, gCR, gLR, gRe, gRo, gRp, gIl]
    · simp (disch := omega) only [gIe, gIp, gIo, gCe, gCn, gRI, gLI, gIR, gCR, gLR, gRe, gRo, gRp, gIl]
    · simp (disch := omega) only [gIe, gIp, gIo, gCe, gCn, gRI, gLI, gIR, gCR, gLR, gRe, gRo, gRp, gIl]
  · intro p hp
    simp (disch := omega) only [gIe, gIp, gIo, gCe, gCn, gRI, gLI, gIR, gCR, gLR, gRe, gRo, gRp, gIl, and_self]
theorem c_comeTo {y : Yd} {Yp : Nat} {ru : Option Nat} {fl : Bool} {n yr : Nat} {r : R} {M : mM} (h : CR y n yr r M) (hx : CX y Yp ru fl M) (hv : VY y) {g l c : Nat} (hg : g < n) (hp : (r.1 g).1 ≠ none) (hl : l < y_L y) (hc : c < y_C y) (hk : (r.1 g).2.1 ≠ 3) (hf : ∀ i, i < n → i ≠ g → (r.1 i).1 ≠ some (l, c)) : OK (f_Course_comeTo (i32 g) (i32 l) (i32 c) M) fun M' => CR y n yr (com y r g l c 0).2 M' ∧ Fr M M' ∧ M'.2.1 246 3 = M.2.1 246 3 ∧ M'.2.1 251 g = i32 (y_r y l c) := c_comeTo0 h ⟨hx.1, hx.2.1, hx.2.2.1, hx.2.2.2.1⟩ hv hg hp hl hc hk hf
theorem CR_grv {y : Yd} {n yr : Nat} {r : R} {M : mM} (h : CR y n yr r M) {l c : Nat} (hl : l < 2147483648) (hc : c < 2147483648) : f_State_graveAt 247 (i32 l) (i32 c) M = some (eG (grv n r.1 l c), M) := c_graveAt h.1 h.2.1 hl hc
theorem eG_ne1 {o : Option Nat} (h : ∀ g, o = some g → g < 2147483648) : (eG o = -1) = (o = none) := by
  cases o with
  | none => simp only [eG]
  | some g => simp only [eG, i32_ne1 (h g rfl), reduceCtorEq]
theorem grv_lt {n : Nat} {b : Nat → B} {l c : Nat} (hn : n ≤ 11) : ∀ g, grv n b l c = some g → g < 2147483648 := fun g h => by
  have := (grv_some h).1
  omega
theorem c_laneRound_49 {y : Yd} {Yp : Nat} {ru : Option Nat} {fl : Bool} {n yr : Nat} {r : R} {M : mM} (h : CR y n yr r M) (hx : CX y Yp ru fl M) (hv : VY y) {l c : Nat} {x : Int32} (hl : l < 4) (hc : c < 20) : f_Course_laneRound_49 x (i32 l) (i32 c) M = some (eG (if l + 1 < y_L y ∧ grv n r.1 (l + 1) c = none then some (l + 1) else none), M) := by
  obtain ⟨x1, x2, x3, x4, x5, x6⟩ := hx
  have v1 := hv.1
  unfold f_Course_laneRound_49
  simp (disch := omega) only [i32_lt, i32_le, i32_eq, i32_add, i32_mul, i32_neg, i32_nn, i32_ne1, i32_n1e, n1_lt_i32, i32_le_n1, i32_dec, i32_cl, rd_i32, ix_i32, wr_i32, pI_s, pR_s, pC_s, pZ_0, pZ_1, Option.bind_some, ite_true, ite_false, if_true, if_false, gIL, gRI, nlt_0, l0_lt, nle_0, l0_le, neq_0, nadd_0, nmul_0, nmul'_0, nadd'_0, nsub_0, nlt_1, l1_lt, nle_1, l1_le, neq_1, nadd_1, nmul_1, nmul'_1, nadd'_1, nsub_1, nlt_2, l2_lt, nle_2, l2_le, neq_2, nadd_2, nmul_2, nmul'_2, nadd'_2, nsub_2, nlt_3, l3_lt, nle_3, l3_le, neq_3, nadd_3, nmul_3, nmul'_3, nadd'_3, nsub_3, nlt_4, l4_lt, nle_4, l4_le, neq_4, nadd_4, nmul_4, nmul'_4, nadd'_4, nsub_4, nlt_5, l5_lt, nle_5, l5_le, neq_5, nadd_5, nmul_5, nmul'_5, nadd'_5, nsub_5, nlt_6, l6_lt, nle_6, l6_le, neq_6, nadd_6, nmul_6, nmul'_6, nadd'_6, nsub_6, nlt_7, l7_lt, nle_7, l7_le, neq_7, nadd_7, nmul_7, nmul'_7, nadd'_7, nsub_7, nlt_8, l8_lt, nle_8, l8_le, neq_8, nadd_8, nmul_8, nmul'_8, nadd'_8, nsub_8, nlt_9, l9_lt, nle_9, l9_le, neq_9, nadd_9, nmul_9, nmul'_9, nadd'_9, nsub_9, nlt_10, l10_lt, nle_10, l10_le, neq_10, nadd_10, nmul_10, nmul'_10, nadd'_10, nsub_10, nlt_11, l11_lt, nle_11, l11_le, neq_11, nadd_11, nmul_11, nmul'_11, nadd'_11, nsub_11, nlt_12, l12_lt, nle_12, l12_le, neq_12, nadd_12, nmul_12, nmul'_12, nadd'_12, nsub_12, nlt_13, l13_lt, nle_13, l13_le, neq_13, nadd_13, nmul_13, nmul'_13, nadd'_13, nsub_13, nlt_20, l20_lt, nle_20, l20_le, neq_20, nadd_20, nmul_20, nmul'_20, nadd'_20, nsub_20, nlt_400, l400_lt, nle_400, l400_le, neq_400, nadd_400, nmul_400, nmul'_400, nadd'_400, nsub_400, rd_0, wr_0, rd_1, wr_1, rd_2, wr_2, rd_3, wr_3, rd_4, wr_4, rd_5, wr_5, rd_6, wr_6, rd_7, wr_7, rd_8, wr_8, rd_9, wr_9, rd_10, wr_10, rd_11, wr_11, rd_12, wr_12, x1, nnl_s x2, x4.1, CR_grv h, eG_ne1 (grv_lt h.1.2.2.2.1)]
  by_cases c1 : l + 1 < y_L y
  · rw [if_neg (by omega)]
    by_cases c2 : grv n r.1 (l + 1) c = none
    · rw [if_pos c2, if_pos ⟨c1, c2⟩]; rfl
    · rw [if_neg c2, if_neg (fun z => c2 z.2)]; rfl
  · rw [if_pos (by omega), if_neg (fun z => c1 z.1)]; rfl
theorem c_laneRound {y : Yd} {Yp : Nat} {ru : Option Nat} {fl : Bool} {n yr : Nat} {r : R} {M : mM} (h : CR y n yr r M) (hx : CX y Yp ru fl M) (hv : VY y) {o l c : Nat} (ho : o < n) (hl : l < 4) (hc : c < 20) : f_Course_laneRound (i32 o) (i32 l) (i32 c) M = some (eG (side y n r.1 o l c), M) := by
  have hn := h.1.2.2.2.1
  obtain ⟨a1, a2, a3, -⟩ := h.1.2.2.2.2 o ho
  have hk := (h.2.1.2.2.2.1 o ho).2.1
  have e49 := c_laneRound_49 (x := i32 o) h hx hv hl hc
  unfold f_Course_laneRound side
  rw [c_has1 h.1 ho]
  simp (disch := omega) only [i32_lt, i32_le, i32_eq, i32_add, i32_mul, i32_neg, i32_nn, i32_ne1, i32_n1e, n1_lt_i32, i32_le_n1, i32_dec, i32_cl, rd_i32, ix_i32, wr_i32, pI_s, pR_s, pC_s, pZ_0, pZ_1, Option.bind_some, ite_true, ite_false, if_true, if_false, gIL, gRI, nlt_0, l0_lt, nle_0, l0_le, neq_0, nadd_0, nmul_0, nmul'_0, nadd'_0, nsub_0, nlt_1, l1_lt, nle_1, l1_le, neq_1, nadd_1, nmul_1, nmul'_1, nadd'_1, nsub_1, nlt_2, l2_lt, nle_2, l2_le, neq_2, nadd_2, nmul_2, nmul'_2, nadd'_2, nsub_2, nlt_3, l3_lt, nle_3, l3_le, neq_3, nadd_3, nmul_3, nmul'_3, nadd'_3, nsub_3, nlt_4, l4_lt, nle_4, l4_le, neq_4, nadd_4, nmul_4, nmul'_4, nadd'_4, nsub_4, nlt_5, l5_lt, nle_5, l5_le, neq_5, nadd_5, nmul_5, nmul'_5, nadd'_5, nsub_5, nlt_6, l6_lt, nle_6, l6_le, neq_6, nadd_6, nmul_6, nmul'_6, nadd'_6, nsub_6, nlt_7, l7_lt, nle_7, l7_le, neq_7, nadd_7, nmul_7, nmul'_7, nadd'_7, nsub_7, nlt_8, l8_lt, nle_8, l8_le, neq_8, nadd_8, nmul_8, nmul'_8, nadd'_8, nsub_8, nlt_9, l9_lt, nle_9, l9_le, neq_9, nadd_9, nmul_9, nmul'_9, nadd'_9, nsub_9, nlt_10, l10_lt, nle_10, l10_le, neq_10, nadd_10, nmul_10, nmul'_10, nadd'_10, nsub_10, nlt_11, l11_lt, nle_11, l11_le, neq_11, nadd_11, nmul_11, nmul'_11, nadd'_11, nsub_11, nlt_12, l12_lt, nle_12, l12_le, neq_12, nadd_12, nmul_12, nmul'_12, nadd'_12, nsub_12, nlt_13, l13_lt, nle_13, l13_le, neq_13, nadd_13, nmul_13, nmul'_13, nadd'_13, nsub_13, nlt_20, l20_lt, nle_20, l20_le, neq_20, nadd_20, nmul_20, nmul'_20, nadd'_20, nsub_20, nlt_400, l400_lt, nle_400, l400_le, neq_400, nadd_400, nmul_400, nmul'_400, nadd'_400, nsub_400, rd_0, wr_0, rd_1, wr_1, rd_2, wr_2, rd_3, wr_3, rd_4, wr_4, rd_5, wr_5, rd_6, wr_6, rd_7, wr_7, rd_8, wr_8, rd_9, wr_9, rd_10, wr_10, rd_11, wr_11, rd_12, wr_12, show ((1 : Int32) = 0) = False from by decide, Nat.reduceAdd] at a3 ⊢
  simp (disch := omega) only [i32_lt, i32_le, i32_eq, i32_add, i32_mul, i32_neg, i32_nn, i32_ne1, i32_n1e, n1_lt_i32, i32_le_n1, i32_dec, i32_cl, rd_i32, ix_i32, wr_i32, pI_s, pR_s, pC_s, pZ_0, pZ_1, Option.bind_some, ite_true, ite_false, if_true, if_false, gIL, gRI, nlt_0, l0_lt, nle_0, l0_le, neq_0, nadd_0, nmul_0, nmul'_0, nadd'_0, nsub_0, nlt_1, l1_lt, nle_1, l1_le, neq_1, nadd_1, nmul_1, nmul'_1, nadd'_1, nsub_1, nlt_2, l2_lt, nle_2, l2_le, neq_2, nadd_2, nmul_2, nmul'_2, nadd'_2, nsub_2, nlt_3, l3_lt, nle_3, l3_le, neq_3, nadd_3, nmul_3, nmul'_3, nadd'_3, nsub_3, nlt_4, l4_lt, nle_4, l4_le, neq_4, nadd_4, nmul_4, nmul'_4, nadd'_4, nsub_4, nlt_5, l5_lt, nle_5, l5_le, neq_5, nadd_5, nmul_5, nmul'_5, nadd'_5, nsub_5, nlt_6, l6_lt, nle_6, l6_le, neq_6, nadd_6, nmul_6, nmul'_6, nadd'_6, nsub_6, nlt_7, l7_lt, nle_7, l7_le, neq_7, nadd_7, nmul_7, nmul'_7, nadd'_7, nsub_7, nlt_8, l8_lt, nle_8, l8_le, neq_8, nadd_8, nmul_8, nmul'_8, nadd'_8, nsub_8, nlt_9, l9_lt, nle_9, l9_le, neq_9, nadd_9, nmul_9, nmul'_9, nadd'_9, nsub_9, nlt_10, l10_lt, nle_10, l10_le, neq_10, nadd_10, nmul_10, nmul'_10, nadd'_10, nsub_10, nlt_11, l11_lt, nle_11, l11_le, neq_11, nadd_11, nmul_11, nmul'_11, nadd'_11, nsub_11, nlt_12, l12_lt, nle_12, l12_le, neq_12, nadd_12, nmul_12, nmul'_12, nadd'_12, nsub_12, nlt_13, l13_lt, nle_13, l13_le, neq_13, nadd_13, nmul_13, nmul'_13, nadd'_13, nsub_13, nlt_20, l20_lt, nle_20, l20_le, neq_20, nadd_20, nmul_20, nmul'_20, nadd'_20, nsub_20, nlt_400, l400_lt, nle_400, l400_le, neq_400, nadd_400, nmul_400, nmul'_400, nadd'_400, nsub_400, rd_0, wr_0, rd_1, wr_1, rd_2, wr_2, rd_3, wr_3, rd_4, wr_4, rd_5, wr_5, rd_6, wr_6, rd_7, wr_7, rd_8, wr_8, rd_9, wr_9, rd_10, wr_10, rd_11, wr_11, rd_12, wr_12, a3]
  by_cases c1 : (r.1 o).2.1 = 3
  · rw [if_pos c1, if_pos c1]
    by_cases c2 : 0 < l
    · rw [if_neg (by omega)]
      simp (disch := omega) only [i32_lt, i32_le, i32_eq, i32_add, i32_mul, i32_neg, i32_nn, i32_ne1, i32_n1e, n1_lt_i32, i32_le_n1, i32_dec, i32_cl, rd_i32, ix_i32, wr_i32, pI_s, pR_s, pC_s, pZ_0, pZ_1, Option.bind_some, ite_true, ite_false, if_true, if_false, gIL, gRI, nlt_0, l0_lt, nle_0, l0_le, neq_0, nadd_0, nmul_0, nmul'_0, nadd'_0, nsub_0, nlt_1, l1_lt, nle_1, l1_le, neq_1, nadd_1, nmul_1, nmul'_1, nadd'_1, nsub_1, nlt_2, l2_lt, nle_2, l2_le, neq_2, nadd_2, nmul_2, nmul'_2, nadd'_2, nsub_2, nlt_3, l3_lt, nle_3, l3_le, neq_3, nadd_3, nmul_3, nmul'_3, nadd'_3, nsub_3, nlt_4, l4_lt, nle_4, l4_le, neq_4, nadd_4, nmul_4, nmul'_4, nadd'_4, nsub_4, nlt_5, l5_lt, nle_5, l5_le, neq_5, nadd_5, nmul_5, nmul'_5, nadd'_5, nsub_5, nlt_6, l6_lt, nle_6, l6_le, neq_6, nadd_6, nmul_6, nmul'_6, nadd'_6, nsub_6, nlt_7, l7_lt, nle_7, l7_le, neq_7, nadd_7, nmul_7, nmul'_7, nadd'_7, nsub_7, nlt_8, l8_lt, nle_8, l8_le, neq_8, nadd_8, nmul_8, nmul'_8, nadd'_8, nsub_8, nlt_9, l9_lt, nle_9, l9_le, neq_9, nadd_9, nmul_9, nmul'_9, nadd'_9, nsub_9, nlt_10, l10_lt, nle_10, l10_le, neq_10, nadd_10, nmul_10, nmul'_10, nadd'_10, nsub_10, nlt_11, l11_lt, nle_11, l11_le, neq_11, nadd_11, nmul_11, nmul'_11, nadd'_11, nsub_11, nlt_12, l12_lt, nle_12, l12_le, neq_12, nadd_12, nmul_12, nmul'_12, nadd'_12, nsub_12, nlt_13, l13_lt, nle_13, l13_le, neq_13, nadd_13, nmul_13, nmul'_13, nadd'_13, nsub_13, nlt_20, l20_lt, nle_20, l20_le, neq_20, nadd_20, nmul_20, nmul'_20, nadd'_20, nsub_20, nlt_400, l400_lt, nle_400, l400_le, neq_400, nadd_400, nmul_400, nmul'_400, nadd'_400, nsub_400, rd_0, wr_0, rd_1, wr_1, rd_2, wr_2, rd_3, wr_3, rd_4, wr_4, rd_5, wr_5, rd_6, wr_6, rd_7, wr_7, rd_8, wr_8, rd_9, wr_9, rd_10, wr_10, rd_11, wr_11, rd_12, wr_12, CR_grv h, eG_ne1 (grv_lt hn)]
      by_cases c3 : grv n r.1 (l - 1) c = none
      · rw [if_pos c3, if_pos ⟨c2, c3⟩]; rfl
      · rw [if_neg c3, if_neg (fun z => c3 z.2), e49]
    · rw [if_pos (by omega), if_neg (fun z => c2 z.1), e49]
  · rw [if_neg c1, if_neg c1]; rfl
theorem side_some {y : Yd} {n : Nat} {b : Nat → B} {o l c l' : Nat} (h : side y n b o l c = some l') (hl : l < y_L y) : l' < y_L y ∧ grv n b l' c = none := by
  unfold side at h
  split at h
  · split at h
    · cases h
      rename_i h1
      exact ⟨by omega, h1.2⟩
    · split at h
      · cases h
        rename_i h1
        exact h1
      · cases h
  · cases h
theorem Fr_I {M : mM} {p i : Nat} {v : Int32} (h : (247 ≤ p ∧ p < 255) ∨ p = 257) : Fr M (msI M p i v) := ⟨rfl, fun q hq => gIp (by omega), fun j _ _ => by rw [gIp (by omega)]⟩
theorem c_goStep {y : Yd} {Yp : Nat} {ru : Option Nat} {fl : Bool} {n yr : Nat} {r : R} {M : mM} (h : CR y n yr r M) (hx : CX y Yp ru fl M) (hv : VY y) {g : Nat} (hg : g < n) (hk : (r.1 g).2.1 ≠ 3) : OK (f_Course_goStep (i32 g) M) fun q => q.1 = e01 (goS y n yr r g).1 ∧ CR y n yr (goS y n yr r g).2 q.2 ∧ Fr M q.2 ∧ q.2.2.1 246 3 = M.2.1 246 3 := by
  have hn := h.1.2.2.2.1
  have hV := h.2.1
  have hL := hV.1
  have hC := hV.2.1
  obtain ⟨a1, a2, a3, a4, a5, a6, a7⟩ := h.1.2.2.2.2 g hg
  simp only [Nat.reduceAdd] at a1 a2 a3 a4 a5 a6 a7
  unfold f_Course_goStep goS
  cases hp : (r.1 g).1 with
  | none =>
    rw [c_lies0 h.1 hV (by omega) (fun z => z.2 hp)]
    exact OK_some ⟨rfl, h, Fr_refl M, rfl⟩
  | some q =>
    obtain ⟨l, c⟩ := q
    have hq := (hV.2.2.2.1 g hg).1 l c hp
    rw [c_lies1 h.1 hV hg (by rw [hp]; exact Option.some_ne_none _)]
    rw [hp] at a1 a2
    simp only [eL, eC] at a1 a2
    simp (disch := omega) only [i32_lt, i32_le, i32_eq, i32_add, i32_mul, i32_neg, i32_nn, i32_ne1, i32_n1e, n1_lt_i32, i32_le_n1, i32_dec, i32_cl, rd_i32, ix_i32, wr_i32, pI_s, pR_s, pC_s, pZ_0, pZ_1, Option.bind_some, ite_true, ite_false, if_true, if_false, gIL, gRI, nlt_0, l0_lt, nle_0, l0_le, neq_0, nadd_0, nmul_0, nmul'_0, nadd'_0, nsub_0, nlt_1, l1_lt, nle_1, l1_le, neq_1, nadd_1, nmul_1, nmul'_1, nadd'_1, nsub_1, nlt_2, l2_lt, nle_2, l2_le, neq_2, nadd_2, nmul_2, nmul'_2, nadd'_2, nsub_2, nlt_3, l3_lt, nle_3, l3_le, neq_3, nadd_3, nmul_3, nmul'_3, nadd'_3, nsub_3, nlt_4, l4_lt, nle_4, l4_le, neq_4, nadd_4, nmul_4, nmul'_4, nadd'_4, nsub_4, nlt_5, l5_lt, nle_5, l5_le, neq_5, nadd_5, nmul_5, nmul'_5, nadd'_5, nsub_5, nlt_6, l6_lt, nle_6, l6_le, neq_6, nadd_6, nmul_6, nmul'_6, nadd'_6, nsub_6, nlt_7, l7_lt, nle_7, l7_le, neq_7, nadd_7, nmul_7, nmul'_7, nadd'_7, nsub_7, nlt_8, l8_lt, nle_8, l8_le, neq_8, nadd_8, nmul_8, nmul'_8, nadd'_8, nsub_8, nlt_9, l9_lt, nle_9, l9_le, neq_9, nadd_9, nmul_9, nmul'_9, nadd'_9, nsub_9, nlt_10, l10_lt, nle_10, l10_le, neq_10, nadd_10, nmul_10, nmul'_10, nadd'_10, nsub_10, nlt_11, l11_lt, nle_11, l11_le, neq_11, nadd_11, nmul_11, nmul'_11, nadd'_11, nsub_11, nlt_12, l12_lt, nle_12, l12_le, neq_12, nadd_12, nmul_12, nmul'_12, nadd'_12, nsub_12, nlt_13, l13_lt, nle_13, l13_le, neq_13, nadd_13, nmul_13, nmul'_13, nadd'_13, nsub_13, nlt_20, l20_lt, nle_20, l20_le, neq_20, nadd_20, nmul_20, nmul'_20, nadd'_20, nsub_20, nlt_400, l400_lt, nle_400, l400_le, neq_400, nadd_400, nmul_400, nmul'_400, nadd'_400, nsub_400, rd_0, wr_0, rd_1, wr_1, rd_2, wr_2, rd_3, wr_3, rd_4, wr_4, rd_5, wr_5, rd_6, wr_6, rd_7, wr_7, rd_8, wr_8, rd_9, wr_9, rd_10, wr_10, rd_11, wr_11, rd_12, wr_12, a1, a2, show ((1 : Int32) = 0) = False from by decide]
    cases c with
    | zero =>
      rw [if_neg (by decide)]
      refine OK_bind (c_drop h hg (by rw [hp]; exact Option.some_ne_none _)) fun M' hM' => OK_some ⟨rfl, hM'.1, hM'.2.1, hM'.2.2⟩
    | succ c =>
      simp (disch := omega) only [i32_lt, i32_le, i32_eq, i32_add, i32_mul, i32_neg, i32_nn, i32_ne1, i32_n1e, n1_lt_i32, i32_le_n1, i32_dec, i32_cl, rd_i32, ix_i32, wr_i32, pI_s, pR_s, pC_s, pZ_0, pZ_1, Option.bind_some, ite_true, ite_false, if_true, if_false, gIL, gRI, nlt_0, l0_lt, nle_0, l0_le, neq_0, nadd_0, nmul_0, nmul'_0, nadd'_0, nsub_0, nlt_1, l1_lt, nle_1, l1_le, neq_1, nadd_1, nmul_1, nmul'_1, nadd'_1, nsub_1, nlt_2, l2_lt, nle_2, l2_le, neq_2, nadd_2, nmul_2, nmul'_2, nadd'_2, nsub_2, nlt_3, l3_lt, nle_3, l3_le, neq_3, nadd_3, nmul_3, nmul'_3, nadd'_3, nsub_3, nlt_4, l4_lt, nle_4, l4_le, neq_4, nadd_4, nmul_4, nmul'_4, nadd'_4, nsub_4, nlt_5, l5_lt, nle_5, l5_le, neq_5, nadd_5, nmul_5, nmul'_5, nadd'_5, nsub_5, nlt_6, l6_lt, nle_6, l6_le, neq_6, nadd_6, nmul_6, nmul'_6, nadd'_6, nsub_6, nlt_7, l7_lt, nle_7, l7_le, neq_7, nadd_7, nmul_7, nmul'_7, nadd'_7, nsub_7, nlt_8, l8_lt, nle_8, l8_le, neq_8, nadd_8, nmul_8, nmul'_8, nadd'_8, nsub_8, nlt_9, l9_lt, nle_9, l9_le, neq_9, nadd_9, nmul_9, nmul'_9, nadd'_9, nsub_9, nlt_10, l10_lt, nle_10, l10_le, neq_10, nadd_10, nmul_10, nmul'_10, nadd'_10, nsub_10, nlt_11, l11_lt, nle_11, l11_le, neq_11, nadd_11, nmul_11, nmul'_11, nadd'_11, nsub_11, nlt_12, l12_lt, nle_12, l12_le, neq_12, nadd_12, nmul_12, nmul'_12, nadd'_12, nsub_12, nlt_13, l13_lt, nle_13, l13_le, neq_13, nadd_13, nmul_13, nmul'_13, nadd'_13, nsub_13, nlt_20, l20_lt, nle_20, l20_le, neq_20, nadd_20, nmul_20, nmul'_20, nadd'_20, nsub_20, nlt_400, l400_lt, nle_400, l400_le, neq_400, nadd_400, nmul_400, nmul'_400, nadd'_400, nsub_400, rd_0, wr_0, rd_1, wr_1, rd_2, wr_2, rd_3, wr_3, rd_4, wr_4, rd_5, wr_5, rd_6, wr_6, rd_7, wr_7, rd_8, wr_8, rd_9, wr_9, rd_10, wr_10, rd_11, wr_11, rd_12, wr_12, Nat.add_sub_cancel, Nat.zero_le, CR_grv h, eG_ne1 (grv_lt hn)]
      cases ho : grv n r.1 l c with
      | none =>
        simp only [if_true]
        unfold f_Course_goStep_92
        refine OK_bind (c_comeTo h hx hv hg (by rw [hp]; exact Option.some_ne_none _) hq.1 (by omega) hk (fun i hi _ => grv_none ho hi)) fun M' hM' => ?_
        have hr9 := hv.2.2.2.2.2.2.1 l c
        simp (disch := omega) only [i32_lt, i32_le, i32_eq, i32_add, i32_mul, i32_neg, i32_nn, i32_ne1, i32_n1e, n1_lt_i32, i32_le_n1, i32_dec, i32_cl, rd_i32, ix_i32, wr_i32, pI_s, pR_s, pC_s, pZ_0, pZ_1, Option.bind_some, ite_true, ite_false, if_true, if_false, gIL, gRI, nlt_0, l0_lt, nle_0, l0_le, neq_0, nadd_0, nmul_0, nmul'_0, nadd'_0, nsub_0, nlt_1, l1_lt, nle_1, l1_le, neq_1, nadd_1, nmul_1, nmul'_1, nadd'_1, nsub_1, nlt_2, l2_lt, nle_2, l2_le, neq_2, nadd_2, nmul_2, nmul'_2, nadd'_2, nsub_2, nlt_3, l3_lt, nle_3, l3_le, neq_3, nadd_3, nmul_3, nmul'_3, nadd'_3, nsub_3, nlt_4, l4_lt, nle_4, l4_le, neq_4, nadd_4, nmul_4, nmul'_4, nadd'_4, nsub_4, nlt_5, l5_lt, nle_5, l5_le, neq_5, nadd_5, nmul_5, nmul'_5, nadd'_5, nsub_5, nlt_6, l6_lt, nle_6, l6_le, neq_6, nadd_6, nmul_6, nmul'_6, nadd'_6, nsub_6, nlt_7, l7_lt, nle_7, l7_le, neq_7, nadd_7, nmul_7, nmul'_7, nadd'_7, nsub_7, nlt_8, l8_lt, nle_8, l8_le, neq_8, nadd_8, nmul_8, nmul'_8, nadd'_8, nsub_8, nlt_9, l9_lt, nle_9, l9_le, neq_9, nadd_9, nmul_9, nmul'_9, nadd'_9, nsub_9, nlt_10, l10_lt, nle_10, l10_le, neq_10, nadd_10, nmul_10, nmul'_10, nadd'_10, nsub_10, nlt_11, l11_lt, nle_11, l11_le, neq_11, nadd_11, nmul_11, nmul'_11, nadd'_11, nsub_11, nlt_12, l12_lt, nle_12, l12_le, neq_12, nadd_12, nmul_12, nmul'_12, nadd'_12, nsub_12, nlt_13, l13_lt, nle_13, l13_le, neq_13, nadd_13, nmul_13, nmul'_13, nadd'_13, nsub_13, nlt_20, l20_lt, nle_20, l20_le, neq_20, nadd_20, nmul_20, nmul'_20, nadd'_20, nsub_20, nlt_400, l400_lt, nle_400, l400_le, neq_400, nadd_400, nmul_400, nmul'_400, nadd'_400, nsub_400, rd_0, wr_0, rd_1, wr_1, rd_2, wr_2, rd_3, wr_3, rd_4, wr_4, rd_5, wr_5, rd_6, wr_6, rd_7, wr_7, rd_8, wr_8, rd_9, wr_9, rd_10, wr_10, rd_11, wr_11, rd_12, wr_12, hM'.2.2.2]
        by_cases c1 : y_r y l c = 0
        · rw [if_pos c1]
          refine OK_some ⟨?_, hM'.1, hM'.2.1, hM'.2.2.1⟩
          simp only [com, c1, decide_true, e01, if_true]
        · rw [if_neg c1]
          refine OK_some ⟨?_, hM'.1, hM'.2.1, hM'.2.2.1⟩
          simp only [com, c1, decide_false, e01, if_false, Bool.false_eq_true]
      | some o =>
        obtain ⟨ho1, ho2⟩ := grv_some ho
        simp only [reduceCtorEq, if_false, show eG (some o) = i32 o from rfl, c_laneRound h hx hv ho1 (show l < 4 by omega) (show c < 20 by omega), Option.bind_some]
        have hsd : ∀ g', side y n r.1 o l c = some g' → g' < 2147483648 := fun g' hg' => by
          have := (side_some hg' hq.1).1
          omega
        simp only [eG_ne1 hsd]
        cases hs : side y n r.1 o l c with
        | none =>
          simp only [if_true]
          exact OK_some ⟨rfl, h, Fr_refl M, rfl⟩
        | some l' =>
          obtain ⟨t1, t2⟩ := side_some hs hq.1
          simp (disch := omega) only [reduceCtorEq, i32_lt, i32_le, i32_eq, i32_add, i32_mul, i32_neg, i32_nn, i32_ne1, i32_n1e, n1_lt_i32, i32_le_n1, i32_dec, i32_cl, rd_i32, ix_i32, wr_i32, pI_s, pR_s, pC_s, pZ_0, pZ_1, Option.bind_some, ite_true, ite_false, if_true, if_false, gIL, gRI, nlt_0, l0_lt, nle_0, l0_le, neq_0, nadd_0, nmul_0, nmul'_0, nadd'_0, nsub_0, nlt_1, l1_lt, nle_1, l1_le, neq_1, nadd_1, nmul_1, nmul'_1, nadd'_1, nsub_1, nlt_2, l2_lt, nle_2, l2_le, neq_2, nadd_2, nmul_2, nmul'_2, nadd'_2, nsub_2, nlt_3, l3_lt, nle_3, l3_le, neq_3, nadd_3, nmul_3, nmul'_3, nadd'_3, nsub_3, nlt_4, l4_lt, nle_4, l4_le, neq_4, nadd_4, nmul_4, nmul'_4, nadd'_4, nsub_4, nlt_5, l5_lt, nle_5, l5_le, neq_5, nadd_5, nmul_5, nmul'_5, nadd'_5, nsub_5, nlt_6, l6_lt, nle_6, l6_le, neq_6, nadd_6, nmul_6, nmul'_6, nadd'_6, nsub_6, nlt_7, l7_lt, nle_7, l7_le, neq_7, nadd_7, nmul_7, nmul'_7, nadd'_7, nsub_7, nlt_8, l8_lt, nle_8, l8_le, neq_8, nadd_8, nmul_8, nmul'_8, nadd'_8, nsub_8, nlt_9, l9_lt, nle_9, l9_le, neq_9, nadd_9, nmul_9, nmul'_9, nadd'_9, nsub_9, nlt_10, l10_lt, nle_10, l10_le, neq_10, nadd_10, nmul_10, nmul'_10, nadd'_10, nsub_10, nlt_11, l11_lt, nle_11, l11_le, neq_11, nadd_11, nmul_11, nmul'_11, nadd'_11, nsub_11, nlt_12, l12_lt, nle_12, l12_le, neq_12, nadd_12, nmul_12, nmul'_12, nadd'_12, nsub_12, nlt_13, l13_lt, nle_13, l13_le, neq_13, nadd_13, nmul_13, nmul'_13, nadd'_13, nsub_13, nlt_20, l20_lt, nle_20, l20_le, neq_20, nadd_20, nmul_20, nmul'_20, nadd'_20, nsub_20, nlt_400, l400_lt, nle_400, l400_le, neq_400, nadd_400, nmul_400, nmul'_400, nadd'_400, nsub_400, rd_0, wr_0, rd_1, wr_1, rd_2, wr_2, rd_3, wr_3, rd_4, wr_4, rd_5, wr_5, rd_6, wr_6, rd_7, wr_7, rd_8, wr_8, rd_9, wr_9, rd_10, wr_10, rd_11, wr_11, rd_12, wr_12, eG, a7]
          let x' : B := ((r.1 g).1, (r.1 g).2.1, (r.1 g).2.2.1, (r.1 g).2.2.2.1, (r.1 g).2.2.2.2.1, (r.1 g).2.2.2.2.2 + 1)
          have hfm : fMany (bup r.1 g x') n = fMany r.1 n := fMany_same (g := g) (x := x') (show (x'.1 = none) = ((r.1 g).1 = none) from rfl)
          have hV' : V (y_L y) (y_C y) n (bup r.1 g x') := V_come hV hp hq.1 hq.2 (hV.2.2.2.1 g hg).2.1 (hV.2.2.2.1 g hg).2.2.1 (hV.2.2.2.1 g hg).2.2.2 (fun i hi hig z => hig (hV.2.2.2.2 i g _ hi hg z hp))
          have h1 : CR y n yr (bup r.1 g x', r.2) (msI M 254 g ((r.1 g).2.2.2.2.2 + 1)) := by
            refine ⟨?_, hV', ?_, ?_, ?_⟩
            · refine CS_put h.1 ?_ ?_ ?_ ?_ ?_
              · simp (disch := omega) only [gIe, gIp, gIo, gCe, gCn, gRI, gLI, gIR, gCR, gLR, gRe, gRo, gRp, gIl]
              · simp (disch := omega) only [gIe, gIp, gIo, gCe, gCn, gRI, gLI, gIR, gCR, gLR, gRe, gRo, gRp, gIl]
              · simp (disch := omega) only [gIe, gIp, gIo, gCe, gCn, gRI, gLI, gIR, gCR, gLR, gRe, gRo, gRp, gIl]
                rw [h.1.2.2.1]
                exact congrArg i32 hfm.symm
              · intro j hj
                simp (disch := omega) only [gIe, gIp, gIo, gCe, gCn, gRI, gLI, gIR, gCR, gLR, gRe, gRo, gRp, gIl, and_self]
              · refine ⟨?_, ?_, ?_, ?_, ?_, ?_, ?_⟩ <;> simp (disch := omega) only [gIe, gIp, gIo, gCe, gCn, gRI, gLI, gIR, gCR, gLR, gRe, gRo, gRp, gIl] <;> first | rfl | assumption | (rw [hp]; assumption)
            · rw [gIp (by omega)]; exact h.2.2.1
            · rw [hfm]; exact h.2.2.2.1
            · intro k hk
              rw [gIp (by omega)]; exact h.2.2.2.2 k hk
          have hF1 : Fr M (msI M 254 g ((r.1 g).2.2.2.2.2 + 1)) := Fr_I (by omega)
          unfold f_Course_goStep_92
          have hgr : ∀ i, i < n → i ≠ g → (bup r.1 g x' i).1 ≠ some (l', c) := fun i hi hig => by rw [bup_o hig]; exact grv_none t2 hi
          refine OK_bind (c_comeTo h1 (CX_Fr hx hF1) hv hg (by show (bup r.1 g x' g).1 ≠ none; rw [bup_e]; show (r.1 g).1 ≠ none; rw [hp]; exact Option.some_ne_none _) t1 (by omega) (by show (bup r.1 g x' g).2.1 ≠ 3; rw [bup_e]; exact hk) hgr) fun M' hM' => ?_
          have hr9 := hv.2.2.2.2.2.2.1 l' c
          have e1 : (com y (bup r.1 g x', r.2) g l' c 0).2 = (com y r g l' c 1).2 := by
            unfold com
            refine Prod.ext (funext fun j => ?_) rfl
            show bup (bup r.1 g x') g _ j = bup r.1 g _ j
            by_cases cj : j = g
            · subst cj
              rw [bup_e, bup_e]
              simp only [bup_e, comB, x', Int32.add_zero]
            · rw [bup_o cj, bup_o cj, bup_o cj]
          rw [e1] at hM'
          have e3 : M'.2.1 246 3 = M.2.1 246 3 := hM'.2.2.1.trans (by rw [gIp (by omega)])
          simp (disch := omega) only [i32_lt, i32_le, i32_eq, i32_add, i32_mul, i32_neg, i32_nn, i32_ne1, i32_n1e, n1_lt_i32, i32_le_n1, i32_dec, i32_cl, rd_i32, ix_i32, wr_i32, pI_s, pR_s, pC_s, pZ_0, pZ_1, Option.bind_some, ite_true, ite_false, if_true, if_false, gIL, gRI, nlt_0, l0_lt, nle_0, l0_le, neq_0, nadd_0, nmul_0, nmul'_0, nadd'_0, nsub_0, nlt_1, l1_lt, nle_1, l1_le, neq_1, nadd_1, nmul_1, nmul'_1, nadd'_1, nsub_1, nlt_2, l2_lt, nle_2, l2_le, neq_2, nadd_2, nmul_2, nmul'_2, nadd'_2, nsub_2, nlt_3, l3_lt, nle_3, l3_le, neq_3, nadd_3, nmul_3, nmul'_3, nadd'_3, nsub_3, nlt_4, l4_lt, nle_4, l4_le, neq_4, nadd_4, nmul_4, nmul'_4, nadd'_4, nsub_4, nlt_5, l5_lt, nle_5, l5_le, neq_5, nadd_5, nmul_5, nmul'_5, nadd'_5, nsub_5, nlt_6, l6_lt, nle_6, l6_le, neq_6, nadd_6, nmul_6, nmul'_6, nadd'_6, nsub_6, nlt_7, l7_lt, nle_7, l7_le, neq_7, nadd_7, nmul_7, nmul'_7, nadd'_7, nsub_7, nlt_8, l8_lt, nle_8, l8_le, neq_8, nadd_8, nmul_8, nmul'_8, nadd'_8, nsub_8, nlt_9, l9_lt, nle_9, l9_le, neq_9, nadd_9, nmul_9, nmul'_9, nadd'_9, nsub_9, nlt_10, l10_lt, nle_10, l10_le, neq_10, nadd_10, nmul_10, nmul'_10, nadd'_10, nsub_10, nlt_11, l11_lt, nle_11, l11_le, neq_11, nadd_11, nmul_11, nmul'_11, nadd'_11, nsub_11, nlt_12, l12_lt, nle_12, l12_le, neq_12, nadd_12, nmul_12, nmul'_12, nadd'_12, nsub_12, nlt_13, l13_lt, nle_13, l13_le, neq_13, nadd_13, nmul_13, nmul'_13, nadd'_13, nsub_13, nlt_20, l20_lt, nle_20, l20_le, neq_20, nadd_20, nmul_20, nmul'_20, nadd'_20, nsub_20, nlt_400, l400_lt, nle_400, l400_le, neq_400, nadd_400, nmul_400, nmul'_400, nadd'_400, nsub_400, rd_0, wr_0, rd_1, wr_1, rd_2, wr_2, rd_3, wr_3, rd_4, wr_4, rd_5, wr_5, rd_6, wr_6, rd_7, wr_7, rd_8, wr_8, rd_9, wr_9, rd_10, wr_10, rd_11, wr_11, rd_12, wr_12, hM'.2.2.2]
          by_cases c1 : y_r y l' c = 0
          · rw [if_pos c1]
            refine OK_some ⟨?_, hM'.1, Fr_trans hF1 hM'.2.1, e3⟩
            simp only [com, c1, decide_true, e01, if_true]
          · rw [if_neg c1]
            refine OK_some ⟨?_, hM'.1, Fr_trans hF1 hM'.2.1, e3⟩
            simp only [com, c1, decide_false, e01, if_false, Bool.false_eq_true]
