/-! ===== the yard as data, and the class's readers of it ===== -/
/-- lanes, cells, graves told, what was told of each (lane, cell, kind), pairs, heavy ones, roots' years, floods: how many, which; roots: how many -/
abbrev Yd : Type := Nat × Nat × Nat × (Nat → Nat × Nat × Nat) × (Nat → Option Nat) × (Nat → Bool) × (Nat → Nat → Nat) × Nat × (Nat → Nat) × Nat
abbrev y_L (y : Yd) : Nat := y.1
abbrev y_C (y : Yd) : Nat := y.2.1
abbrev y_m (y : Yd) : Nat := y.2.2.1
abbrev y_t (y : Yd) : Nat → Nat × Nat × Nat := y.2.2.2.1
abbrev y_p (y : Yd) : Nat → Option Nat := y.2.2.2.2.1
abbrev y_h (y : Yd) : Nat → Bool := y.2.2.2.2.2.1
abbrev y_r (y : Yd) : Nat → Nat → Nat := y.2.2.2.2.2.2.1
abbrev y_nf (y : Yd) : Nat := y.2.2.2.2.2.2.2.1
abbrev y_fy (y : Yd) : Nat → Nat := y.2.2.2.2.2.2.2.2.1
abbrev y_nr (y : Yd) : Nat := y.2.2.2.2.2.2.2.2.2
def e01 (x : Bool) : Int32 := if x then 1 else 0
/-- the class's yard at S -/
def CY (S : Nat) (y : Yd) (M : mM) : Prop := M.2.1 S 0 = i32 (y_L y) ∧ M.2.1 S 1 = i32 (y_C y) ∧ M.2.1 S 2 = i32 (y_m y) ∧ M.2.1 S 8 = i32 (y_nr y) ∧ M.2.1 S 10 = i32 (y_nf y) ∧ (∀ g, g < y_m y → M.2.1 (S + 1) g = i32 (y_t y g).1 ∧ M.2.1 (S + 2) g = i32 (y_t y g).2.1 ∧ M.2.1 (S + 3) g = i32 (y_t y g).2.2) ∧ (∀ g, g < 11 → M.2.1 (S + 4) g = eG (y_p y g) ∧ M.2.1 (S + 5) g = e01 (y_h y g)) ∧ (∀ l c, l < 4 → c < 20 → M.2.1 (S + 6) (l * 20 + c) = i32 (y_r y l c)) ∧ ∀ k, k < y_nf y → M.2.1 (S + 7) k = i32 (y_fy y k)
/-- a yard as it can be told -/
def VY (y : Yd) : Prop := y_L y ≤ 4 ∧ y_C y ≤ 20 ∧ y_m y ≤ 10 ∧ y_nf y ≤ 6 ∧ y_nr y ≤ 6 ∧ (∀ k, k < y_nf y → y_fy y k ≤ 99) ∧ (∀ l c, y_r y l c ≤ 9) ∧ (∀ g h, y_p y g = some h → g < y_m y ∧ h < y_m y) ∧ (∀ g, g < y_m y → (y_t y g).1 < y_L y ∧ (y_t y g).2.1 < y_C y ∧ (y_t y g).2.2 ≤ 3) ∧ (∀ g h, g < y_m y → h < y_m y → (y_t y g).1 = (y_t y h).1 → (y_t y g).2.1 = (y_t y h).2.1 → g = h) ∧ (∀ g, y_h y g = true → g < y_m y) ∧ (0 < y_L y → 2 ≤ y_C y)
theorem CY_Sm {lo hi S : Nat} {y : Yd} {M M' : mM} (h : CY S y M) (hs : Sm lo hi M M') (hd : S + 8 ≤ lo ∨ hi ≤ S) : CY S y M' := by
  have e : ∀ k, k ≤ 7 → M'.2.1 (S + k) = M.2.1 (S + k) := fun k hk => Sm_i hs (by omega)
  have e0 := e 0 (by omega)
  obtain ⟨h0, h1, h2, h3, h4, h5, h6, h7, h8⟩ := h
  unfold CY
  rw [e 1 (by omega), e 2 (by omega), e 3 (by omega), e 4 (by omega), e 5 (by omega), e 6 (by omega), e 7 (by omega), show M'.2.1 S = M.2.1 S from e0]
  exact ⟨h0, h1, h2, h3, h4, h5, h6, h7, h8⟩
theorem CS_Sm {lo hi S y n : Nat} {b : Nat → B} {M M' : mM} (h : CS S y n b M) (hs : Sm lo hi M M') (hd : S + 10 ≤ lo ∨ hi ≤ S) : CS S y n b M' := by
  have e : ∀ k, k ≤ 7 → M'.2.1 (S + k) = M.2.1 (S + k) := fun k hk => Sm_i hs (by omega)
  have e0 := e 0 (by omega)
  unfold CS CB
  rw [e 1 (by omega), e 2 (by omega), e 3 (by omega), e 4 (by omega), e 5 (by omega), e 6 (by omega), e 7 (by omega), show M'.2.1 S = M.2.1 S from e0]
  exact h
theorem c_hasPlace {S : Nat} {y : Yd} {M : mM} (h : CY S y M) (hv : VY y) {l c : Nat} (hl : l < 2147483648) (hc : c < 2147483648) : f_Yard_hasPlace S (i32 l) (i32 c) M = some (if l < y_L y ∧ c < y_C y then 1 else 0, M) := by
  obtain ⟨h0, h1, -⟩ := h
  have v1 := hv.1
  have v2 := hv.2.1
  unfold f_Yard_hasPlace
  simp (disch := omega) only [i32_lt, i32_le, i32_eq, i32_add, i32_mul, i32_neg, i32_nn, i32_ne1, i32_n1e, n1_lt_i32, i32_le_n1, i32_dec, i32_cl, rd_i32, ix_i32, wr_i32, pI_s, pR_s, pC_s, pZ_0, pZ_1, Option.bind_some, ite_true, ite_false, if_true, if_false, gIL, gRI, nlt_0, l0_lt, nle_0, l0_le, neq_0, nadd_0, nmul_0, nmul'_0, nadd'_0, nsub_0, nlt_1, l1_lt, nle_1, l1_le, neq_1, nadd_1, nmul_1, nmul'_1, nadd'_1, nsub_1, nlt_2, l2_lt, nle_2, l2_le, neq_2, nadd_2, nmul_2, nmul'_2, nadd'_2, nsub_2, nlt_3, l3_lt, nle_3, l3_le, neq_3, nadd_3, nmul_3, nmul'_3, nadd'_3, nsub_3, nlt_4, l4_lt, nle_4, l4_le, neq_4, nadd_4, nmul_4, nmul'_4, nadd'_4, nsub_4, nlt_5, l5_lt, nle_5, l5_le, neq_5, nadd_5, nmul_5, nmul'_5, nadd'_5, nsub_5, nlt_6, l6_lt, nle_6, l6_le, neq_6, nadd_6, nmul_6, nmul'_6, nadd'_6, nsub_6, nlt_7, l7_lt, nle_7, l7_le, neq_7, nadd_7, nmul_7, nmul'_7, nadd'_7, nsub_7, nlt_8, l8_lt, nle_8, l8_le, neq_8, nadd_8, nmul_8, nmul'_8, nadd'_8, nsub_8, nlt_9, l9_lt, nle_9, l9_le, neq_9, nadd_9, nmul_9, nmul'_9, nadd'_9, nsub_9, nlt_10, l10_lt, nle_10, l10_le, neq_10, nadd_10, nmul_10, nmul'_10, nadd'_10, nsub_10, nlt_11, l11_lt, nle_11, l11_le, neq_11, nadd_11, nmul_11, nmul'_11, nadd'_11, nsub_11, nlt_12, l12_lt, nle_12, l12_le, neq_12, nadd_12, nmul_12, nmul'_12, nadd'_12, nsub_12, nlt_13, l13_lt, nle_13, l13_le, neq_13, nadd_13, nmul_13, nmul'_13, nadd'_13, nsub_13, nlt_20, l20_lt, nle_20, l20_le, neq_20, nadd_20, nmul_20, nmul'_20, nadd'_20, nsub_20, nlt_400, l400_lt, nle_400, l400_le, neq_400, nadd_400, nmul_400, nmul'_400, nadd'_400, nsub_400, rd_0, wr_0, rd_1, wr_1, rd_2, wr_2, rd_3, wr_3, rd_4, wr_4, rd_5, wr_5, rd_6, wr_6, rd_7, wr_7, rd_8, wr_8, rd_9, wr_9, rd_10, wr_10, rd_11, wr_11, rd_12, wr_12, h0, h1]
  by_cases c1 : l < y_L y
  · rw [if_neg (by omega), if_neg (by omega)]
    by_cases c2 : c < y_C y
    · rw [if_neg (by omega), if_neg (by omega), if_pos ⟨c1, c2⟩]
    · rw [if_pos (by omega), if_neg (fun z => c2 z.2)]
  · rw [if_pos (by omega), if_neg (fun z => c1 z.1)]
theorem c_hasPlaceN {S : Nat} {M : mM} {x z : Int32} (hx : x < 0 ∨ z < 0) : f_Yard_hasPlace S x z M = some (0, M) := by
  unfold f_Yard_hasPlace
  by_cases c1 : x < 0
  · rw [if_pos c1]
  · rw [if_neg c1]
    have c2 : z < 0 := hx.resolve_left c1
    simp only [c2, if_true, ite_self]
theorem c_rootAt {S : Nat} {y : Yd} {M : mM} (h : CY S y M) {l c : Nat} (hl : l < 4) (hc : c < 20) : f_Yard_rootAt S (i32 l) (i32 c) M = some (i32 (y_r y l c), M) := by
  obtain ⟨h0, h1, h2, h3, h4, h5, h6, h7, h8⟩ := h
  unfold f_Yard_rootAt
  simp (disch := omega) only [i32_lt, i32_le, i32_eq, i32_add, i32_mul, i32_neg, i32_nn, i32_ne1, i32_n1e, n1_lt_i32, i32_le_n1, i32_dec, i32_cl, rd_i32, ix_i32, wr_i32, pI_s, pR_s, pC_s, pZ_0, pZ_1, Option.bind_some, ite_true, ite_false, if_true, if_false, gIL, gRI, nlt_0, l0_lt, nle_0, l0_le, neq_0, nadd_0, nmul_0, nmul'_0, nadd'_0, nsub_0, nlt_1, l1_lt, nle_1, l1_le, neq_1, nadd_1, nmul_1, nmul'_1, nadd'_1, nsub_1, nlt_2, l2_lt, nle_2, l2_le, neq_2, nadd_2, nmul_2, nmul'_2, nadd'_2, nsub_2, nlt_3, l3_lt, nle_3, l3_le, neq_3, nadd_3, nmul_3, nmul'_3, nadd'_3, nsub_3, nlt_4, l4_lt, nle_4, l4_le, neq_4, nadd_4, nmul_4, nmul'_4, nadd'_4, nsub_4, nlt_5, l5_lt, nle_5, l5_le, neq_5, nadd_5, nmul_5, nmul'_5, nadd'_5, nsub_5, nlt_6, l6_lt, nle_6, l6_le, neq_6, nadd_6, nmul_6, nmul'_6, nadd'_6, nsub_6, nlt_7, l7_lt, nle_7, l7_le, neq_7, nadd_7, nmul_7, nmul'_7, nadd'_7, nsub_7, nlt_8, l8_lt, nle_8, l8_le, neq_8, nadd_8, nmul_8, nmul'_8, nadd'_8, nsub_8, nlt_9, l9_lt, nle_9, l9_le, neq_9, nadd_9, nmul_9, nmul'_9, nadd'_9, nsub_9, nlt_10, l10_lt, nle_10, l10_le, neq_10, nadd_10, nmul_10, nmul'_10, nadd'_10, nsub_10, nlt_11, l11_lt, nle_11, l11_le, neq_11, nadd_11, nmul_11, nmul'_11, nadd'_11, nsub_11, nlt_12, l12_lt, nle_12, l12_le, neq_12, nadd_12, nmul_12, nmul'_12, nadd'_12, nsub_12, nlt_13, l13_lt, nle_13, l13_le, neq_13, nadd_13, nmul_13, nmul'_13, nadd'_13, nsub_13, nlt_20, l20_lt, nle_20, l20_le, neq_20, nadd_20, nmul_20, nmul'_20, nadd'_20, nsub_20, nlt_400, l400_lt, nle_400, l400_le, neq_400, nadd_400, nmul_400, nmul'_400, nadd'_400, nsub_400, rd_0, wr_0, rd_1, wr_1, rd_2, wr_2, rd_3, wr_3, rd_4, wr_4, rd_5, wr_5, rd_6, wr_6, rd_7, wr_7, rd_8, wr_8, rd_9, wr_9, rd_10, wr_10, rd_11, wr_11, rd_12, wr_12, f_Yard_rootAt_24, h7 l c hl hc]
  rw [if_neg (by omega), if_neg (by omega), if_neg (by decide)]
theorem c_isTold {S : Nat} {y : Yd} {M : mM} (h : CY S y M) (hv : VY y) : f_Yard_isTold S M = some (if 0 < y_L y then 1 else 0, M) := by
  have v1 := hv.1
  unfold f_Yard_isTold
  simp (disch := omega) only [i32_lt, i32_le, i32_eq, i32_add, i32_mul, i32_neg, i32_nn, i32_ne1, i32_n1e, n1_lt_i32, i32_le_n1, i32_dec, i32_cl, rd_i32, ix_i32, wr_i32, pI_s, pR_s, pC_s, pZ_0, pZ_1, Option.bind_some, ite_true, ite_false, if_true, if_false, gIL, gRI, nlt_0, l0_lt, nle_0, l0_le, neq_0, nadd_0, nmul_0, nmul'_0, nadd'_0, nsub_0, nlt_1, l1_lt, nle_1, l1_le, neq_1, nadd_1, nmul_1, nmul'_1, nadd'_1, nsub_1, nlt_2, l2_lt, nle_2, l2_le, neq_2, nadd_2, nmul_2, nmul'_2, nadd'_2, nsub_2, nlt_3, l3_lt, nle_3, l3_le, neq_3, nadd_3, nmul_3, nmul'_3, nadd'_3, nsub_3, nlt_4, l4_lt, nle_4, l4_le, neq_4, nadd_4, nmul_4, nmul'_4, nadd'_4, nsub_4, nlt_5, l5_lt, nle_5, l5_le, neq_5, nadd_5, nmul_5, nmul'_5, nadd'_5, nsub_5, nlt_6, l6_lt, nle_6, l6_le, neq_6, nadd_6, nmul_6, nmul'_6, nadd'_6, nsub_6, nlt_7, l7_lt, nle_7, l7_le, neq_7, nadd_7, nmul_7, nmul'_7, nadd'_7, nsub_7, nlt_8, l8_lt, nle_8, l8_le, neq_8, nadd_8, nmul_8, nmul'_8, nadd'_8, nsub_8, nlt_9, l9_lt, nle_9, l9_le, neq_9, nadd_9, nmul_9, nmul'_9, nadd'_9, nsub_9, nlt_10, l10_lt, nle_10, l10_le, neq_10, nadd_10, nmul_10, nmul'_10, nadd'_10, nsub_10, nlt_11, l11_lt, nle_11, l11_le, neq_11, nadd_11, nmul_11, nmul'_11, nadd'_11, nsub_11, nlt_12, l12_lt, nle_12, l12_le, neq_12, nadd_12, nmul_12, nmul'_12, nadd'_12, nsub_12, nlt_13, l13_lt, nle_13, l13_le, neq_13, nadd_13, nmul_13, nmul'_13, nadd'_13, nsub_13, nlt_20, l20_lt, nle_20, l20_le, neq_20, nadd_20, nmul_20, nmul'_20, nadd'_20, nsub_20, nlt_400, l400_lt, nle_400, l400_le, neq_400, nadd_400, nmul_400, nmul'_400, nadd'_400, nsub_400, rd_0, wr_0, rd_1, wr_1, rd_2, wr_2, rd_3, wr_3, rd_4, wr_4, rd_5, wr_5, rd_6, wr_6, rd_7, wr_7, rd_8, wr_8, rd_9, wr_9, rd_10, wr_10, rd_11, wr_11, rd_12, wr_12, h.1]
  by_cases c1 : 0 < y_L y
  · rw [if_neg (by omega), if_pos c1]
  · rw [if_pos (by omega), if_neg c1]
theorem c_pairOf {S : Nat} {y : Yd} {M : mM} (h : CY S y M) {g : Nat} (hg : g < 11) : f_Yard_pairOf S (i32 g) M = some (eG (y_p y g), M) := by
  obtain ⟨h0, h1, h2, h3, h4, h5, h6, h7, h8⟩ := h
  unfold f_Yard_pairOf
  simp (disch := omega) only [i32_lt, i32_le, i32_eq, i32_add, i32_mul, i32_neg, i32_nn, i32_ne1, i32_n1e, n1_lt_i32, i32_le_n1, i32_dec, i32_cl, rd_i32, ix_i32, wr_i32, pI_s, pR_s, pC_s, pZ_0, pZ_1, Option.bind_some, ite_true, ite_false, if_true, if_false, gIL, gRI, nlt_0, l0_lt, nle_0, l0_le, neq_0, nadd_0, nmul_0, nmul'_0, nadd'_0, nsub_0, nlt_1, l1_lt, nle_1, l1_le, neq_1, nadd_1, nmul_1, nmul'_1, nadd'_1, nsub_1, nlt_2, l2_lt, nle_2, l2_le, neq_2, nadd_2, nmul_2, nmul'_2, nadd'_2, nsub_2, nlt_3, l3_lt, nle_3, l3_le, neq_3, nadd_3, nmul_3, nmul'_3, nadd'_3, nsub_3, nlt_4, l4_lt, nle_4, l4_le, neq_4, nadd_4, nmul_4, nmul'_4, nadd'_4, nsub_4, nlt_5, l5_lt, nle_5, l5_le, neq_5, nadd_5, nmul_5, nmul'_5, nadd'_5, nsub_5, nlt_6, l6_lt, nle_6, l6_le, neq_6, nadd_6, nmul_6, nmul'_6, nadd'_6, nsub_6, nlt_7, l7_lt, nle_7, l7_le, neq_7, nadd_7, nmul_7, nmul'_7, nadd'_7, nsub_7, nlt_8, l8_lt, nle_8, l8_le, neq_8, nadd_8, nmul_8, nmul'_8, nadd'_8, nsub_8, nlt_9, l9_lt, nle_9, l9_le, neq_9, nadd_9, nmul_9, nmul'_9, nadd'_9, nsub_9, nlt_10, l10_lt, nle_10, l10_le, neq_10, nadd_10, nmul_10, nmul'_10, nadd'_10, nsub_10, nlt_11, l11_lt, nle_11, l11_le, neq_11, nadd_11, nmul_11, nmul'_11, nadd'_11, nsub_11, nlt_12, l12_lt, nle_12, l12_le, neq_12, nadd_12, nmul_12, nmul'_12, nadd'_12, nsub_12, nlt_13, l13_lt, nle_13, l13_le, neq_13, nadd_13, nmul_13, nmul'_13, nadd'_13, nsub_13, nlt_20, l20_lt, nle_20, l20_le, neq_20, nadd_20, nmul_20, nmul'_20, nadd'_20, nsub_20, nlt_400, l400_lt, nle_400, l400_le, neq_400, nadd_400, nmul_400, nmul'_400, nadd'_400, nsub_400, rd_0, wr_0, rd_1, wr_1, rd_2, wr_2, rd_3, wr_3, rd_4, wr_4, rd_5, wr_5, rd_6, wr_6, rd_7, wr_7, rd_8, wr_8, rd_9, wr_9, rd_10, wr_10, rd_11, wr_11, rd_12, wr_12, (h6 g hg).1]
  rw [if_neg (by omega)]
theorem c_isHeavy {S : Nat} {y : Yd} {M : mM} (h : CY S y M) {g : Nat} (hg : g < 11) : f_Yard_isHeavy S (i32 g) M = some (e01 (y_h y g), M) := by
  obtain ⟨h0, h1, h2, h3, h4, h5, h6, h7, h8⟩ := h
  unfold f_Yard_isHeavy
  simp (disch := omega) only [i32_lt, i32_le, i32_eq, i32_add, i32_mul, i32_neg, i32_nn, i32_ne1, i32_n1e, n1_lt_i32, i32_le_n1, i32_dec, i32_cl, rd_i32, ix_i32, wr_i32, pI_s, pR_s, pC_s, pZ_0, pZ_1, Option.bind_some, ite_true, ite_false, if_true, if_false, gIL, gRI, nlt_0, l0_lt, nle_0, l0_le, neq_0, nadd_0, nmul_0, nmul'_0, nadd'_0, nsub_0, nlt_1, l1_lt, nle_1, l1_le, neq_1, nadd_1, nmul_1, nmul'_1, nadd'_1, nsub_1, nlt_2, l2_lt, nle_2, l2_le, neq_2, nadd_2, nmul_2, nmul'_2, nadd'_2, nsub_2, nlt_3, l3_lt, nle_3, l3_le, neq_3, nadd_3, nmul_3, nmul'_3, nadd'_3, nsub_3, nlt_4, l4_lt, nle_4, l4_le, neq_4, nadd_4, nmul_4, nmul'_4, nadd'_4, nsub_4, nlt_5, l5_lt, nle_5, l5_le, neq_5, nadd_5, nmul_5, nmul'_5, nadd'_5, nsub_5, nlt_6, l6_lt, nle_6, l6_le, neq_6, nadd_6, nmul_6, nmul'_6, nadd'_6, nsub_6, nlt_7, l7_lt, nle_7, l7_le, neq_7, nadd_7, nmul_7, nmul'_7, nadd'_7, nsub_7, nlt_8, l8_lt, nle_8, l8_le, neq_8, nadd_8, nmul_8, nmul'_8, nadd'_8, nsub_8, nlt_9, l9_lt, nle_9, l9_le, neq_9, nadd_9, nmul_9, nmul'_9, nadd'_9, nsub_9, nlt_10, l10_lt, nle_10, l10_le, neq_10, nadd_10, nmul_10, nmul'_10, nadd'_10, nsub_10, nlt_11, l11_lt, nle_11, l11_le, neq_11, nadd_11, nmul_11, nmul'_11, nadd'_11, nsub_11, nlt_12, l12_lt, nle_12, l12_le, neq_12, nadd_12, nmul_12, nmul'_12, nadd'_12, nsub_12, nlt_13, l13_lt, nle_13, l13_le, neq_13, nadd_13, nmul_13, nmul'_13, nadd'_13, nsub_13, nlt_20, l20_lt, nle_20, l20_le, neq_20, nadd_20, nmul_20, nmul'_20, nadd'_20, nsub_20, nlt_400, l400_lt, nle_400, l400_le, neq_400, nadd_400, nmul_400, nmul'_400, nadd'_400, nsub_400, rd_0, wr_0, rd_1, wr_1, rd_2, wr_2, rd_3, wr_3, rd_4, wr_4, rd_5, wr_5, rd_6, wr_6, rd_7, wr_7, rd_8, wr_8, rd_9, wr_9, rd_10, wr_10, rd_11, wr_11, rd_12, wr_12, (h6 g hg).2]
  rw [if_neg (by omega)]
  cases y_h y g with
  | true => exact if_neg (by decide)
  | false => exact if_pos (by decide)
def isFl (fy : Nat → Nat) (yr : Nat) : Nat → Nat → Bool
  | 0, _ => false
  | k + 1, i => if fy i = yr then true else isFl fy yr k (i + 1)
theorem c_isFl {S : Nat} {y : Yd} {M : mM} (h : CY S y M) (hv : VY y) {yr : Nat} (hy : yr < 2147483648) : ∀ (k i f : Nat), i + k = y_nf y → k < f → f_Yard_isFlood_2 S (i32 yr) f (i32 i) M = some (e01 (isFl (y_fy y) yr k i), M)
  | _, _, 0, _, hf => absurd hf (Nat.not_lt_zero _)
  | 0, i, f + 1, hi, hf => by
    have v1 := hv.2.2.2.1
    unfold f_Yard_isFlood_2
    simp (disch := omega) only [i32_lt, i32_le, i32_eq, i32_add, i32_mul, i32_neg, i32_nn, i32_ne1, i32_n1e, n1_lt_i32, i32_le_n1, i32_dec, i32_cl, rd_i32, ix_i32, wr_i32, pI_s, pR_s, pC_s, pZ_0, pZ_1, Option.bind_some, ite_true, ite_false, if_true, if_false, gIL, gRI, nlt_0, l0_lt, nle_0, l0_le, neq_0, nadd_0, nmul_0, nmul'_0, nadd'_0, nsub_0, nlt_1, l1_lt, nle_1, l1_le, neq_1, nadd_1, nmul_1, nmul'_1, nadd'_1, nsub_1, nlt_2, l2_lt, nle_2, l2_le, neq_2, nadd_2, nmul_2, nmul'_2, nadd'_2, nsub_2, nlt_3, l3_lt, nle_3, l3_le, neq_3, nadd_3, nmul_3, nmul'_3, nadd'_3, nsub_3, nlt_4, l4_lt, nle_4, l4_le, neq_4, nadd_4, nmul_4, nmul'_4, nadd'_4, nsub_4, nlt_5, l5_lt, nle_5, l5_le, neq_5, nadd_5, nmul_5, nmul'_5, nadd'_5, nsub_5, nlt_6, l6_lt, nle_6, l6_le, neq_6, nadd_6, nmul_6, nmul'_6, nadd'_6, nsub_6, nlt_7, l7_lt, nle_7, l7_le, neq_7, nadd_7, nmul_7, nmul'_7, nadd'_7, nsub_7, nlt_8, l8_lt, nle_8, l8_le, neq_8, nadd_8, nmul_8, nmul'_8, nadd'_8, nsub_8, nlt_9, l9_lt, nle_9, l9_le, neq_9, nadd_9, nmul_9, nmul'_9, nadd'_9, nsub_9, nlt_10, l10_lt, nle_10, l10_le, neq_10, nadd_10, nmul_10, nmul'_10, nadd'_10, nsub_10, nlt_11, l11_lt, nle_11, l11_le, neq_11, nadd_11, nmul_11, nmul'_11, nadd'_11, nsub_11, nlt_12, l12_lt, nle_12, l12_le, neq_12, nadd_12, nmul_12, nmul'_12, nadd'_12, nsub_12, nlt_13, l13_lt, nle_13, l13_le, neq_13, nadd_13, nmul_13, nmul'_13, nadd'_13, nsub_13, nlt_20, l20_lt, nle_20, l20_le, neq_20, nadd_20, nmul_20, nmul'_20, nadd'_20, nsub_20, nlt_400, l400_lt, nle_400, l400_le, neq_400, nadd_400, nmul_400, nmul'_400, nadd'_400, nsub_400, rd_0, wr_0, rd_1, wr_1, rd_2, wr_2, rd_3, wr_3, rd_4, wr_4, rd_5, wr_5, rd_6, wr_6, rd_7, wr_7, rd_8, wr_8, rd_9, wr_9, rd_10, wr_10, rd_11, wr_11, rd_12, wr_12, h.2.2.2.2.1]
    rw [if_pos (by omega)]
    rfl
  | k + 1, i, f + 1, hi, hf => by
    have ih := c_isFl h hv hy k (i + 1) f (by omega) (by omega)
    have v1 := hv.2.2.2.1
    have h8 := h.2.2.2.2.2.2.2.2 i (by omega)
    have v2 := hv.2.2.2.2.2.1 i (by omega)
    unfold f_Yard_isFlood_2
    simp (disch := omega) only [i32_lt, i32_le, i32_eq, i32_add, i32_mul, i32_neg, i32_nn, i32_ne1, i32_n1e, n1_lt_i32, i32_le_n1, i32_dec, i32_cl, rd_i32, ix_i32, wr_i32, pI_s, pR_s, pC_s, pZ_0, pZ_1, Option.bind_some, ite_true, ite_false, if_true, if_false, gIL, gRI, nlt_0, l0_lt, nle_0, l0_le, neq_0, nadd_0, nmul_0, nmul'_0, nadd'_0, nsub_0, nlt_1, l1_lt, nle_1, l1_le, neq_1, nadd_1, nmul_1, nmul'_1, nadd'_1, nsub_1, nlt_2, l2_lt, nle_2, l2_le, neq_2, nadd_2, nmul_2, nmul'_2, nadd'_2, nsub_2, nlt_3, l3_lt, nle_3, l3_le, neq_3, nadd_3, nmul_3, nmul'_3, nadd'_3, nsub_3, nlt_4, l4_lt, nle_4, l4_le, neq_4, nadd_4, nmul_4, nmul'_4, nadd'_4, nsub_4, nlt_5, l5_lt, nle_5, l5_le, neq_5, nadd_5, nmul_5, nmul'_5, nadd'_5, nsub_5, nlt_6, l6_lt, nle_6, l6_le, neq_6, nadd_6, nmul_6, nmul'_6, nadd'_6, nsub_6, nlt_7, l7_lt, nle_7, l7_le, neq_7, nadd_7, nmul_7, nmul'_7, nadd'_7, nsub_7, nlt_8, l8_lt, nle_8, l8_le, neq_8, nadd_8, nmul_8, nmul'_8, nadd'_8, nsub_8, nlt_9, l9_lt, nle_9, l9_le, neq_9, nadd_9, nmul_9, nmul'_9, nadd'_9, nsub_9, nlt_10, l10_lt, nle_10, l10_le, neq_10, nadd_10, nmul_10, nmul'_10, nadd'_10, nsub_10, nlt_11, l11_lt, nle_11, l11_le, neq_11, nadd_11, nmul_11, nmul'_11, nadd'_11, nsub_11, nlt_12, l12_lt, nle_12, l12_le, neq_12, nadd_12, nmul_12, nmul'_12, nadd'_12, nsub_12, nlt_13, l13_lt, nle_13, l13_le, neq_13, nadd_13, nmul_13, nmul'_13, nadd'_13, nsub_13, nlt_20, l20_lt, nle_20, l20_le, neq_20, nadd_20, nmul_20, nmul'_20, nadd'_20, nsub_20, nlt_400, l400_lt, nle_400, l400_le, neq_400, nadd_400, nmul_400, nmul'_400, nadd'_400, nsub_400, rd_0, wr_0, rd_1, wr_1, rd_2, wr_2, rd_3, wr_3, rd_4, wr_4, rd_5, wr_5, rd_6, wr_6, rd_7, wr_7, rd_8, wr_8, rd_9, wr_9, rd_10, wr_10, rd_11, wr_11, rd_12, wr_12, h.2.2.2.2.1, h8, ih]
    rw [if_neg (by omega), if_neg (by omega), isFl]
    by_cases c1 : y_fy y i = yr
    · rw [if_pos c1, if_pos c1]; rfl
    · rw [if_neg c1, if_neg c1]
def flo (y : Yd) (yr : Nat) : Bool := isFl (y_fy y) yr (y_nf y) 0
theorem c_isFlood {S : Nat} {y : Yd} {M : mM} (h : CY S y M) (hv : VY y) {yr : Nat} (hy : yr < 2147483648) : f_Yard_isFlood S (i32 yr) M = some (e01 (flo y yr), M) := by
  have v1 := hv.2.2.2.1
  exact c_isFl h hv hy (y_nf y) 0 FUEL (by omega) (by rw [FUEL_eq]; omega)
/-! stones -/
def CT (S n : Nat) (t : Nat → Option (Nat × Nat)) (M : mM) : Prop := ∀ g, g < n → M.2.1 (S + 8) g = eL (t g) ∧ M.2.1 (S + 9) g = eC (t g)
/-- the state at S in M' is that at T in M -/
def View (T S : Nat) (M M' : mM) : Prop := (∀ i, i < 3 → M'.2.1 S i = M.2.1 T i) ∧ ∀ k j, 1 ≤ k → k ≤ 9 → j < 11 → M'.2.1 (S + k) j = M.2.1 (T + k) j
theorem View_CS {T S y n : Nat} {b : Nat → B} {M M' : mM} (hw : View T S M M') (h : CS T y n b M) : CS S y n b M' := by
  obtain ⟨h0, h1, h2, h3, h4⟩ := h
  refine ⟨(hw.1 0 (by omega)).trans h0, (hw.1 1 (by omega)).trans h1, (hw.1 2 (by omega)).trans h2, h3, fun g hg => ?_⟩
  obtain ⟨a1, a2, a3, a4, a5, a6, a7⟩ := h4 g hg
  exact ⟨(hw.2 1 g (by omega) (by omega) (by omega)).trans a1, (hw.2 2 g (by omega) (by omega) (by omega)).trans a2, (hw.2 3 g (by omega) (by omega) (by omega)).trans a3, (hw.2 4 g (by omega) (by omega) (by omega)).trans a4, (hw.2 5 g (by omega) (by omega) (by omega)).trans a5, (hw.2 6 g (by omega) (by omega) (by omega)).trans a6, (hw.2 7 g (by omega) (by omega) (by omega)).trans a7⟩
theorem View_CT {T S n : Nat} {t : Nat → Option (Nat × Nat)} {M M' : mM} (hw : View T S M M') (hn : n ≤ 11) (h : CT T n t M) : CT S n t M' := fun g hg =>
  ⟨(hw.2 8 g (by omega) (by omega) (by omega)).trans (h g hg).1, (hw.2 9 g (by omega) (by omega) (by omega)).trans (h g hg).2⟩
theorem CT_Sm {lo hi S n : Nat} {t : Nat → Option (Nat × Nat)} {M M' : mM} (h : CT S n t M) (hs : Sm lo hi M M') (hd : S + 10 ≤ lo ∨ hi ≤ S) : CT S n t M' := by
  unfold CT
  rw [Sm_i hs (show S + 8 < lo ∨ hi ≤ S + 8 by omega), Sm_i hs (show S + 9 < lo ∨ hi ≤ S + 9 by omega)]
  exact h
theorem c_copyState {S T : Nat} (hd : S + 10 ≤ T ∨ T + 10 ≤ S) (M : mM) : OK (f_State_copyFrom S T M) fun M' => View T S M M' ∧ Sm S (S + 10) M M' := by
  unfold f_State_copyFrom
  simp (disch := omega) only [i32_lt, i32_le, i32_eq, i32_add, i32_mul, i32_neg, i32_nn, i32_ne1, i32_n1e, n1_lt_i32, i32_le_n1, i32_dec, i32_cl, rd_i32, ix_i32, wr_i32, pI_s, pR_s, pC_s, pZ_0, pZ_1, Option.bind_some, ite_true, ite_false, if_true, if_false, gIL, gRI, nlt_0, l0_lt, nle_0, l0_le, neq_0, nadd_0, nmul_0, nmul'_0, nadd'_0, nsub_0, nlt_1, l1_lt, nle_1, l1_le, neq_1, nadd_1, nmul_1, nmul'_1, nadd'_1, nsub_1, nlt_2, l2_lt, nle_2, l2_le, neq_2, nadd_2, nmul_2, nmul'_2, nadd'_2, nsub_2, nlt_3, l3_lt, nle_3, l3_le, neq_3, nadd_3, nmul_3, nmul'_3, nadd'_3, nsub_3, nlt_4, l4_lt, nle_4, l4_le, neq_4, nadd_4, nmul_4, nmul'_4, nadd'_4, nsub_4, nlt_5, l5_lt, nle_5, l5_le, neq_5, nadd_5, nmul_5, nmul'_5, nadd'_5, nsub_5, nlt_6, l6_lt, nle_6, l6_le, neq_6, nadd_6, nmul_6, nmul'_6, nadd'_6, nsub_6, nlt_7, l7_lt, nle_7, l7_le, neq_7, nadd_7, nmul_7, nmul'_7, nadd'_7, nsub_7, nlt_8, l8_lt, nle_8, l8_le, neq_8, nadd_8, nmul_8, nmul'_8, nadd'_8, nsub_8, nlt_9, l9_lt, nle_9, l9_le, neq_9, nadd_9, nmul_9, nmul'_9, nadd'_9, nsub_9, nlt_10, l10_lt, nle_10, l10_le, neq_10, nadd_10, nmul_10, nmul'_10, nadd'_10, nsub_10, nlt_11, l11_lt, nle_11, l11_le, neq_11, nadd_11, nmul_11, nmul'_11, nadd'_11, nsub_11, nlt_12, l12_lt, nle_12, l12_le, neq_12, nadd_12, nmul_12, nmul'_12, nadd'_12, nsub_12, nlt_13, l13_lt, nle_13, l13_le, neq_13, nadd_13, nmul_13, nmul'_13, nadd'_13, nsub_13, nlt_20, l20_lt, nle_20, l20_le, neq_20, nadd_20, nmul_20, nmul'_20, nadd'_20, nsub_20, nlt_400, l400_lt, nle_400, l400_le, neq_400, nadd_400, nmul_400, nmul'_400, nadd'_400, nsub_400, rd_0, wr_0, rd_1, wr_1, rd_2, wr_2, rd_3, wr_3, rd_4, wr_4, rd_5, wr_5, rd_6, wr_6, rd_7, wr_7, rd_8, wr_8, rd_9, wr_9, rd_10, wr_10, rd_11, wr_11, rd_12, wr_12, gIe, gIp, gIo, gCe, gCn, gRI, gLI, gIR, gCR, gLR, gRe, gRo, gRp, gIl]
  refine OK_some ⟨⟨fun i hi => ?_, fun k j h1 h2 hj => ?_⟩, ?_⟩
  · have h3 : i = 0 ∨ i = 1 ∨ i = 2 := by omega
    rcases h3 with rfl | rfl | rfl <;> simp (disch := omega) only [gIe, gIp, gIo, gCe, gCn, gRI, gLI, gIR, gCR, gLR, gRe, gRo, gRp, gIl]
  · have h3 : k = 1 ∨ k = 2 ∨ k = 3 ∨ k = 4 ∨ k = 5 ∨ k = 6 ∨ k = 7 ∨ k = 8 ∨ k = 9 := by omega
    rcases h3 with rfl | rfl | rfl | rfl | rfl | rfl | rfl | rfl | rfl <;> simp (disch := omega) only [gIe, gIp, gIo, gCe, gCn, gRI, gLI, gIR, gCR, gLR, gRe, gRo, gRp, gIl]
  · intro p hp
    simp (disch := omega) only [gIe, gIp, gIo, gCe, gCn, gRI, gLI, gIR, gCR, gLR, gRe, gRo, gRp, gIl, and_self]
