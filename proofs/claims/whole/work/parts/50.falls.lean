/-! ===== fall, abreast ===== -/
def itU (y : Yd) (φ : Option (List Int64 → Nat)) (n a : Nat) : Nat → Nat → (Nat → B) → (Nat → B)
  | 0, _, b => b
  | k + 1, yr, b => if (b a).1 = none then b else itU y φ n a k (yr + 1) (yB y φ n yr (flo y yr) b)
theorem itU_B {y : Yd} {φ : Option (List Int64 → Nat)} {n a : Nat} : ∀ (k yr : Nat) (b : Nat → B), ∃ j, j ≤ k ∧ itU y φ n a k yr b = itB y φ n j yr b
  | 0, yr, b => ⟨0, Nat.le_refl _, rfl⟩
  | k + 1, yr, b => by
    rw [itU]
    by_cases c : (b a).1 = none
    · rw [if_pos c]
      exact ⟨0, Nat.zero_le _, rfl⟩
    · rw [if_neg c]
      obtain ⟨j, h1, h2⟩ := itU_B k (yr + 1) (yB y φ n yr (flo y yr) b)
      exact ⟨j + 1, by omega, h2⟩
theorem itU_VF {y : Yd} {φ : Option (List Int64 → Nat)} {n a k yr : Nat} {b : Nat → B} (h : VF n b) (hy : yr + k < 2147483648) : VF n (itU y φ n a k yr b) := by
  obtain ⟨j, h1, h2⟩ := itU_B (y := y) (φ := φ) (n := n) (a := a) k yr b
  rw [h2]
  exact itB_VF j yr b h (by omega)
theorem c_fall56 {y : Yd} {Yp : Nat} {ru : Option Nat} {φ : Option (List Int64 → Nat)} {n a yr : Nat} {b : Nat → B} {M : mM} (ha : a < n) (h : CQe y Yp ru φ n yr b M) : f_GraveRails_fall_56 (i32 a) M = some (if (b a).1 = none then (b a).2.2.2.1 else -2, M) := by
  obtain ⟨⟨P, kk, hq⟩, h4⟩ := h
  have hV := hq.2.1.2.1
  have hn := hV.2.2.1
  obtain ⟨a1, a2, a3, a4, a5, a6, a7⟩ := hq.2.1.1.2.2.2.2 a ha
  simp only [Nat.reduceAdd] at a5
  unfold f_GraveRails_fall_56
  by_cases c : (b a).1 = none
  · rw [c_lies0 hq.2.1.1 hV (by omega) (fun z => z.2 c), if_pos c]
    simp (disch := omega) only [i32_lt, i32_le, i32_eq, i32_add, i32_mul, i32_neg, i32_nn, i32_ne1, i32_n1e, n1_lt_i32, i32_le_n1, i32_dec, i32_cl, rd_i32, ix_i32, wr_i32, pI_s, pR_s, pC_s, pZ_0, pZ_1, Option.bind_some, ite_true, ite_false, if_true, if_false, gIL, gRI, nlt_0, l0_lt, nle_0, l0_le, neq_0, nadd_0, nmul_0, nmul'_0, nadd'_0, nsub_0, nlt_1, l1_lt, nle_1, l1_le, neq_1, nadd_1, nmul_1, nmul'_1, nadd'_1, nsub_1, nlt_2, l2_lt, nle_2, l2_le, neq_2, nadd_2, nmul_2, nmul'_2, nadd'_2, nsub_2, nlt_3, l3_lt, nle_3, l3_le, neq_3, nadd_3, nmul_3, nmul'_3, nadd'_3, nsub_3, nlt_4, l4_lt, nle_4, l4_le, neq_4, nadd_4, nmul_4, nmul'_4, nadd'_4, nsub_4, nlt_5, l5_lt, nle_5, l5_le, neq_5, nadd_5, nmul_5, nmul'_5, nadd'_5, nsub_5, nlt_6, l6_lt, nle_6, l6_le, neq_6, nadd_6, nmul_6, nmul'_6, nadd'_6, nsub_6, nlt_7, l7_lt, nle_7, l7_le, neq_7, nadd_7, nmul_7, nmul'_7, nadd'_7, nsub_7, nlt_8, l8_lt, nle_8, l8_le, neq_8, nadd_8, nmul_8, nmul'_8, nadd'_8, nsub_8, nlt_9, l9_lt, nle_9, l9_le, neq_9, nadd_9, nmul_9, nmul'_9, nadd'_9, nsub_9, nlt_10, l10_lt, nle_10, l10_le, neq_10, nadd_10, nmul_10, nmul'_10, nadd'_10, nsub_10, nlt_11, l11_lt, nle_11, l11_le, neq_11, nadd_11, nmul_11, nmul'_11, nadd'_11, nsub_11, nlt_12, l12_lt, nle_12, l12_le, neq_12, nadd_12, nmul_12, nmul'_12, nadd'_12, nsub_12, nlt_13, l13_lt, nle_13, l13_le, neq_13, nadd_13, nmul_13, nmul'_13, nadd'_13, nsub_13, nlt_20, l20_lt, nle_20, l20_le, neq_20, nadd_20, nmul_20, nmul'_20, nadd'_20, nsub_20, nlt_400, l400_lt, nle_400, l400_le, neq_400, nadd_400, nmul_400, nmul'_400, nadd'_400, nsub_400, rd_0, wr_0, rd_1, wr_1, rd_2, wr_2, rd_3, wr_3, rd_4, wr_4, rd_5, wr_5, rd_6, wr_6, rd_7, wr_7, rd_8, wr_8, rd_9, wr_9, rd_10, wr_10, rd_11, wr_11, rd_12, wr_12, a5]
  · rw [c_lies1 hq.2.1.1 hV ha c, if_neg c]
    exact bnd (if_neg (show ¬ (1 : Int32) = 0 by decide))
theorem c_fall22 {y : Yd} {Yp : Nat} {ru : Option Nat} {φ : Option (List Int64 → Nat)} {n a : Nat} (ha : a < n) : ∀ (k i f yr : Nat) (b : Nat → B) (M : mM), i + k = 200 → k < f → yr + k < 2147483647 → CQe y Yp ru φ n yr b M → OK (f_GraveRails_fall_22 (i32 a) f (i32 i) M) fun z => z.1 = (if (itU y φ n a k yr b a).1 = none then (itU y φ n a k yr b a).2.2.2.1 else -2) ∧ FrY M z.2
  | _, _, 0, _, _, _, _, hf, _, _ => absurd hf (Nat.not_lt_zero _)
  | 0, i, f + 1, yr, b, M, hi, hf, hy, h => by
    unfold f_GraveRails_fall_22
    simp (disch := omega) only [i32_lt, i32_le, i32_eq, i32_add, i32_mul, i32_neg, i32_nn, i32_ne1, i32_n1e, n1_lt_i32, i32_le_n1, i32_dec, i32_cl, rd_i32, ix_i32, wr_i32, pI_s, pR_s, pC_s, pZ_0, pZ_1, Option.bind_some, ite_true, ite_false, if_true, if_false, gIL, gRI, nlt_0, l0_lt, nle_0, l0_le, neq_0, nadd_0, nmul_0, nmul'_0, nadd'_0, nsub_0, nlt_1, l1_lt, nle_1, l1_le, neq_1, nadd_1, nmul_1, nmul'_1, nadd'_1, nsub_1, nlt_2, l2_lt, nle_2, l2_le, neq_2, nadd_2, nmul_2, nmul'_2, nadd'_2, nsub_2, nlt_3, l3_lt, nle_3, l3_le, neq_3, nadd_3, nmul_3, nmul'_3, nadd'_3, nsub_3, nlt_4, l4_lt, nle_4, l4_le, neq_4, nadd_4, nmul_4, nmul'_4, nadd'_4, nsub_4, nlt_5, l5_lt, nle_5, l5_le, neq_5, nadd_5, nmul_5, nmul'_5, nadd'_5, nsub_5, nlt_6, l6_lt, nle_6, l6_le, neq_6, nadd_6, nmul_6, nmul'_6, nadd'_6, nsub_6, nlt_7, l7_lt, nle_7, l7_le, neq_7, nadd_7, nmul_7, nmul'_7, nadd'_7, nsub_7, nlt_8, l8_lt, nle_8, l8_le, neq_8, nadd_8, nmul_8, nmul'_8, nadd'_8, nsub_8, nlt_9, l9_lt, nle_9, l9_le, neq_9, nadd_9, nmul_9, nmul'_9, nadd'_9, nsub_9, nlt_10, l10_lt, nle_10, l10_le, neq_10, nadd_10, nmul_10, nmul'_10, nadd'_10, nsub_10, nlt_11, l11_lt, nle_11, l11_le, neq_11, nadd_11, nmul_11, nmul'_11, nadd'_11, nsub_11, nlt_12, l12_lt, nle_12, l12_le, neq_12, nadd_12, nmul_12, nmul'_12, nadd'_12, nsub_12, nlt_13, l13_lt, nle_13, l13_le, neq_13, nadd_13, nmul_13, nmul'_13, nadd'_13, nsub_13, nlt_20, l20_lt, nle_20, l20_le, neq_20, nadd_20, nmul_20, nmul'_20, nadd'_20, nsub_20, nlt_400, l400_lt, nle_400, l400_le, neq_400, nadd_400, nmul_400, nmul'_400, nadd'_400, nsub_400, rd_0, wr_0, rd_1, wr_1, rd_2, wr_2, rd_3, wr_3, rd_4, wr_4, rd_5, wr_5, rd_6, wr_6, rd_7, wr_7, rd_8, wr_8, rd_9, wr_9, rd_10, wr_10, rd_11, wr_11, rd_12, wr_12, nlt_200, l200_lt, nle_200, l200_le, neq_200, nadd_200, nmul_200, nmul'_200, nadd'_200, nsub_200]
    rw [if_pos (by omega), c_fall56 ha h]
    exact OK_some ⟨rfl, FrY_refl M⟩
  | k + 1, i, f + 1, yr, b, M, hi, hf, hy, h => by
    have h' := h
    obtain ⟨⟨P, kk, hq⟩, h4⟩ := h
    have hV := hq.2.1.2.1
    have hn := hV.2.2.1
    unfold f_GraveRails_fall_22
    simp (disch := omega) only [i32_lt, i32_le, i32_eq, i32_add, i32_mul, i32_neg, i32_nn, i32_ne1, i32_n1e, n1_lt_i32, i32_le_n1, i32_dec, i32_cl, rd_i32, ix_i32, wr_i32, pI_s, pR_s, pC_s, pZ_0, pZ_1, Option.bind_some, ite_true, ite_false, if_true, if_false, gIL, gRI, nlt_0, l0_lt, nle_0, l0_le, neq_0, nadd_0, nmul_0, nmul'_0, nadd'_0, nsub_0, nlt_1, l1_lt, nle_1, l1_le, neq_1, nadd_1, nmul_1, nmul'_1, nadd'_1, nsub_1, nlt_2, l2_lt, nle_2, l2_le, neq_2, nadd_2, nmul_2, nmul'_2, nadd'_2, nsub_2, nlt_3, l3_lt, nle_3, l3_le, neq_3, nadd_3, nmul_3, nmul'_3, nadd'_3, nsub_3, nlt_4, l4_lt, nle_4, l4_le, neq_4, nadd_4, nmul_4, nmul'_4, nadd'_4, nsub_4, nlt_5, l5_lt, nle_5, l5_le, neq_5, nadd_5, nmul_5, nmul'_5, nadd'_5, nsub_5, nlt_6, l6_lt, nle_6, l6_le, neq_6, nadd_6, nmul_6, nmul'_6, nadd'_6, nsub_6, nlt_7, l7_lt, nle_7, l7_le, neq_7, nadd_7, nmul_7, nmul'_7, nadd'_7, nsub_7, nlt_8, l8_lt, nle_8, l8_le, neq_8, nadd_8, nmul_8, nmul'_8, nadd'_8, nsub_8, nlt_9, l9_lt, nle_9, l9_le, neq_9, nadd_9, nmul_9, nmul'_9, nadd'_9, nsub_9, nlt_10, l10_lt, nle_10, l10_le, neq_10, nadd_10, nmul_10, nmul'_10, nadd'_10, nsub_10, nlt_11, l11_lt, nle_11, l11_le, neq_11, nadd_11, nmul_11, nmul'_11, nadd'_11, nsub_11, nlt_12, l12_lt, nle_12, l12_le, neq_12, nadd_12, nmul_12, nmul'_12, nadd'_12, nsub_12, nlt_13, l13_lt, nle_13, l13_le, neq_13, nadd_13, nmul_13, nmul'_13, nadd'_13, nsub_13, nlt_20, l20_lt, nle_20, l20_le, neq_20, nadd_20, nmul_20, nmul'_20, nadd'_20, nsub_20, nlt_400, l400_lt, nle_400, l400_le, neq_400, nadd_400, nmul_400, nmul'_400, nadd'_400, nsub_400, rd_0, wr_0, rd_1, wr_1, rd_2, wr_2, rd_3, wr_3, rd_4, wr_4, rd_5, wr_5, rd_6, wr_6, rd_7, wr_7, rd_8, wr_8, rd_9, wr_9, rd_10, wr_10, rd_11, wr_11, rd_12, wr_12, nlt_200, l200_lt, nle_200, l200_le, neq_200, nadd_200, nmul_200, nmul'_200, nadd'_200, nsub_200]
    rw [if_neg (by omega), itU]
    by_cases c : (b a).1 = none
    · rw [c_lies0 hq.2.1.1 hV (by omega) (fun z => z.2 c), if_pos c]
      refine OK_eq (bnd ((if_pos rfl).trans (c_fall56 ha h'))) ⟨rfl, FrY_refl M⟩
    · rw [c_lies1 hq.2.1.1 hV ha c, if_neg c]
      simp only [Option.bind_some, d10, if_false]
      refine OK_bind (CQe_year h' (by omega)) fun M1 h1 => ?_
      exact OK_imp (c_fall22 ha k (i + 1) f (yr + 1) _ M1 (by omega) (by omega) (by omega) h1.1) fun z hz => ⟨hz.1, FrY_trans h1.2 hz.2⟩
theorem m_fallOf2 {y : Yd} {φ : Option (List Int64 → Nat)} {n a : Nat} (ha : a < n) : ∀ (k i f yr : Nat) (b : Nat → B) (M : mM), i + k = 200 → k < f → yr + k < 2147483647 → MYr y φ n yr b false M → M.2.1 436 26 = 0 → OK (f_Model_fallOf_2 (i32 a) f (i32 i) M) fun z => z.1 = (itU y φ n a k yr b a).2.2.2.1 ∧ (∃ yr', MYr y φ n yr' (itU y φ n a k yr b) false z.2) ∧ FrL M z.2 ∧ z.2.2.1 436 26 = 0
  | _, _, 0, _, _, _, _, hf, _, _, _ => absurd hf (Nat.not_lt_zero _)
  | 0, i, f + 1, yr, b, M, hi, hf, hy, h, h26 => by
    have hn := h.2.2.2.2.1.2.2.1
    obtain ⟨a1, a2, a3, a4, a5, a6⟩ := (h.2.2.2.1.2.2.2.2.2 a ha).1
    unfold f_Model_fallOf_2 f_Model_fallOf_28
    simp (disch := omega) only [i32_lt, i32_le, i32_eq, i32_add, i32_mul, i32_neg, i32_nn, i32_ne1, i32_n1e, n1_lt_i32, i32_le_n1, i32_dec, i32_cl, rd_i32, ix_i32, wr_i32, pI_s, pR_s, pC_s, pZ_0, pZ_1, Option.bind_some, ite_true, ite_false, if_true, if_false, gIL, gRI, nlt_0, l0_lt, nle_0, l0_le, neq_0, nadd_0, nmul_0, nmul'_0, nadd'_0, nsub_0, nlt_1, l1_lt, nle_1, l1_le, neq_1, nadd_1, nmul_1, nmul'_1, nadd'_1, nsub_1, nlt_2, l2_lt, nle_2, l2_le, neq_2, nadd_2, nmul_2, nmul'_2, nadd'_2, nsub_2, nlt_3, l3_lt, nle_3, l3_le, neq_3, nadd_3, nmul_3, nmul'_3, nadd'_3, nsub_3, nlt_4, l4_lt, nle_4, l4_le, neq_4, nadd_4, nmul_4, nmul'_4, nadd'_4, nsub_4, nlt_5, l5_lt, nle_5, l5_le, neq_5, nadd_5, nmul_5, nmul'_5, nadd'_5, nsub_5, nlt_6, l6_lt, nle_6, l6_le, neq_6, nadd_6, nmul_6, nmul'_6, nadd'_6, nsub_6, nlt_7, l7_lt, nle_7, l7_le, neq_7, nadd_7, nmul_7, nmul'_7, nadd'_7, nsub_7, nlt_8, l8_lt, nle_8, l8_le, neq_8, nadd_8, nmul_8, nmul'_8, nadd'_8, nsub_8, nlt_9, l9_lt, nle_9, l9_le, neq_9, nadd_9, nmul_9, nmul'_9, nadd'_9, nsub_9, nlt_10, l10_lt, nle_10, l10_le, neq_10, nadd_10, nmul_10, nmul'_10, nadd'_10, nsub_10, nlt_11, l11_lt, nle_11, l11_le, neq_11, nadd_11, nmul_11, nmul'_11, nadd'_11, nsub_11, nlt_12, l12_lt, nle_12, l12_le, neq_12, nadd_12, nmul_12, nmul'_12, nadd'_12, nsub_12, nlt_13, l13_lt, nle_13, l13_le, neq_13, nadd_13, nmul_13, nmul'_13, nadd'_13, nsub_13, nlt_20, l20_lt, nle_20, l20_le, neq_20, nadd_20, nmul_20, nmul'_20, nadd'_20, nsub_20, nlt_400, l400_lt, nle_400, l400_le, neq_400, nadd_400, nmul_400, nmul'_400, nadd'_400, nsub_400, rd_0, wr_0, rd_1, wr_1, rd_2, wr_2, rd_3, wr_3, rd_4, wr_4, rd_5, wr_5, rd_6, wr_6, rd_7, wr_7, rd_8, wr_8, rd_9, wr_9, rd_10, wr_10, rd_11, wr_11, rd_12, wr_12, nlt_200, l200_lt, nle_200, l200_le, neq_200, nadd_200, nmul_200, nmul'_200, nadd'_200, nsub_200]
    rw [if_pos (by omega), m_g4 (by omega)]
    exact OK_some ⟨a5, ⟨yr, h⟩, FrL_refl M, h26⟩
  | k + 1, i, f + 1, yr, b, M, hi, hf, hy, h, h26 => by
    have hn := h.2.2.2.2.1.2.2.1
    obtain ⟨a1, a2, a3, a4, a5, a6⟩ := (h.2.2.2.1.2.2.2.2.2 a ha).1
    unfold f_Model_fallOf_2 f_Model_fallOf_28
    simp (disch := omega) only [i32_lt, i32_le, i32_eq, i32_add, i32_mul, i32_neg, i32_nn, i32_ne1, i32_n1e, n1_lt_i32, i32_le_n1, i32_dec, i32_cl, rd_i32, ix_i32, wr_i32, pI_s, pR_s, pC_s, pZ_0, pZ_1, Option.bind_some, ite_true, ite_false, if_true, if_false, gIL, gRI, nlt_0, l0_lt, nle_0, l0_le, neq_0, nadd_0, nmul_0, nmul'_0, nadd'_0, nsub_0, nlt_1, l1_lt, nle_1, l1_le, neq_1, nadd_1, nmul_1, nmul'_1, nadd'_1, nsub_1, nlt_2, l2_lt, nle_2, l2_le, neq_2, nadd_2, nmul_2, nmul'_2, nadd'_2, nsub_2, nlt_3, l3_lt, nle_3, l3_le, neq_3, nadd_3, nmul_3, nmul'_3, nadd'_3, nsub_3, nlt_4, l4_lt, nle_4, l4_le, neq_4, nadd_4, nmul_4, nmul'_4, nadd'_4, nsub_4, nlt_5, l5_lt, nle_5, l5_le, neq_5, nadd_5, nmul_5, nmul'_5, nadd'_5, nsub_5, nlt_6, l6_lt, nle_6, l6_le, neq_6, nadd_6, nmul_6, nmul'_6, nadd'_6, nsub_6, nlt_7, l7_lt, nle_7, l7_le, neq_7, nadd_7, nmul_7, nmul'_7, nadd'_7, nsub_7, nlt_8, l8_lt, nle_8, l8_le, neq_8, nadd_8, nmul_8, nmul'_8, nadd'_8, nsub_8, nlt_9, l9_lt, nle_9, l9_le, neq_9, nadd_9, nmul_9, nmul'_9, nadd'_9, nsub_9, nlt_10, l10_lt, nle_10, l10_le, neq_10, nadd_10, nmul_10, nmul'_10, nadd'_10, nsub_10, nlt_11, l11_lt, nle_11, l11_le, neq_11, nadd_11, nmul_11, nmul'_11, nadd'_11, nsub_11, nlt_12, l12_lt, nle_12, l12_le, neq_12, nadd_12, nmul_12, nmul'_12, nadd'_12, nsub_12, nlt_13, l13_lt, nle_13, l13_le, neq_13, nadd_13, nmul_13, nmul'_13, nadd'_13, nsub_13, nlt_20, l20_lt, nle_20, l20_le, neq_20, nadd_20, nmul_20, nmul'_20, nadd'_20, nsub_20, nlt_400, l400_lt, nle_400, l400_le, neq_400, nadd_400, nmul_400, nmul'_400, nadd'_400, nsub_400, rd_0, wr_0, rd_1, wr_1, rd_2, wr_2, rd_3, wr_3, rd_4, wr_4, rd_5, wr_5, rd_6, wr_6, rd_7, wr_7, rd_8, wr_8, rd_9, wr_9, rd_10, wr_10, rd_11, wr_11, rd_12, wr_12, nlt_200, l200_lt, nle_200, l200_le, neq_200, nadd_200, nmul_200, nmul'_200, nadd'_200, nsub_200]
    rw [if_neg (by omega), m_isFallen h.2.2.2.1 h.2.2.2.2.1 ha, itU]
    simp only [Option.bind_some, e01_d]
    by_cases c : (b a).1 = none
    · rw [if_neg (fun z => z c), if_pos c, m_g4 (by omega)]
      exact OK_some ⟨a5, ⟨yr, h⟩, FrL_refl M, h26⟩
    · rw [if_pos c, if_neg c]
      refine OK_bind (MYr_step h (by omega)) fun z1 h1 => ?_
      exact OK_imp (m_fallOf2 ha k (i + 1) f (yr + 1) _ z1.2 (by omega) (by omega) (by omega) h1.1 h1.2.2) fun z hz => ⟨hz.1, hz.2.1, FrL_trans h1.2.1 hz.2.2.1, hz.2.2.2⟩
theorem fell_nn {n : Nat} {b : Nat → B} (h : VF n b) {a : Nat} (ha : a < n) : (0 ≤ (b a).2.2.2.1) = ((b a).1 = none) := by
  by_cases c : (b a).1 = none
  · obtain ⟨k, h1, h2⟩ := (h a ha).1 c
    rw [h2, i32_nn h1]
    exact propext ⟨fun _ => c, fun _ => trivial⟩
  · rw [(h a ha).2 c]
    exact propext ⟨fun z => absurd z (by decide), fun z => absurd z c⟩
theorem both_fall {x1 : Int32} {M : mM} (hi : Inv M) : Both (f_GraveRails_fall x1) (f_Model_fall x1) M := by
  have hi' := hi
  obtain ⟨g, hg, hc, hm⟩ := hi
  have hS := hc.1.2.1.1
  have hN := hm.1.1.1
  have hn := hg.1.2.1.2.2.2.1
  have hy := hg.1.2.1.2.2.2.2.1
  rcases i32_cases x1 with h1 | ⟨a, h1, rfl⟩
  · refine both_pure hi' ⟨-1, ?_, ?_⟩
    · unfold f_GraveRails_fall
      rw [c_hasN h1]
      exact bnd (if_pos rfl)
    · unfold f_Model_fall
      rw [m_isGraveN h1]
      exact bnd (if_pos rfl)
  · by_cases ha : a < g.1.2.1.2.1
    · refine both_ask (v := if (itU g.1.1 (phi g.1.2.2.2.1 g.2.2.1.2) g.1.2.1.2.1 a 200 g.1.2.1.1 g.1.2.1.2.2.1 a).1 = none then (itU g.1.1 (phi g.1.2.2.2.1 g.2.2.1.2) g.1.2.1.2.1 a 200 g.1.2.1.1 g.1.2.1.2.2.1 a).2.2.2.1 else -2) hg hc hm ?_ fun M' hc' hm' => ?_
      · unfold f_GraveRails_fall
        rw [c_has1 hS ha]
        simp only [Option.bind_some, d10, if_false]
        refine OK_bind (c_sfn hg hc) fun M1 q => ?_
        refine OK_imp (c_fall22 ha 200 0 FUEL _ _ M1 (by omega) (by rw [FUEL_eq]; omega) (by omega) ⟨⟨_, _, q.1⟩, q.2.1⟩) fun z hz => ?_
        have := Sm_trans q.2.2.2 (Sm_Y hz.2)
        exact ⟨hz.1, RC_Sm hg hc this, Sm_le this (by omega) (by omega)⟩
      · unfold f_Model_fall
        rw [m_isGrave hm'.1.1.1 h1, if_pos ha]
        simp only [Option.bind_some, d10, if_false]
        refine OK_bind (m_begin hg hm' (hg.1.2.1.2.2.2.2.2.2 (by omega))) fun M1 q => ?_
        refine OK_bind (m_fallOf2 ha 200 0 FUEL _ _ M1 (by omega) (by rw [FUEL_eq]; omega) (by omega) q.2.1 q.2.2) fun z hz => ?_
        refine OK_bind (m_lay q.1 hz.2.2.1) fun M3 h3 => ?_
        have h26 : M3.2.1 436 26 = M'.2.1 436 26 := by rw [h3.2.1, hz.2.2.2, hm'.2.2.2.1]
        have hF := itU_VF (y := g.1.1) (φ := phi g.1.2.2.2.1 g.2.2.1.2) (a := a) (k := 200) (yr := g.1.2.1.1) hg.1.2.1.2.2.2.2.2.1 (by omega)
        have hnn := fell_nn hF ha
        rw [hz.1]
        by_cases c : (itU g.1.1 (phi g.1.2.2.2.1 g.2.2.1.2) g.1.2.1.2.1 a 200 g.1.2.1.1 g.1.2.1.2.2.1 a).1 = none
        · rw [if_pos (by rw [hnn]; exact c), if_pos c]
          exact OK_some ⟨rfl, FrN_B h3.1 h26⟩
        · rw [if_neg (by rw [hnn]; exact c), if_neg c]
          exact OK_some ⟨rfl, FrN_B h3.1 h26⟩
    · refine both_pure hi' ⟨-1, ?_, ?_⟩
      · unfold f_GraveRails_fall
        rw [c_has hS h1, if_neg ha]
        exact bnd (if_pos rfl)
      · unfold f_Model_fall
        rw [m_isGrave hN h1, if_neg ha]
        exact bnd (if_pos rfl)
/-! abreast -/
def abrF (y : Yd) (φ : Option (List Int64 → Nat)) (n a c : Nat) : Nat → Nat → (Nat → B) → Int32
  | 0, _, _ => -2
  | k + 1, yr, b => if (b a).1 = none ∨ (b c).1 = none then -2 else if eC (b a).1 = eC (b c).1 then i32 yr else abrF y φ n a c k (yr + 1) (yB y φ n yr (flo y yr) b)
theorem c_abr50 {y : Yd} {Yp : Nat} {ru : Option Nat} {φ : Option (List Int64 → Nat)} {n a c : Nat} (ha : a < n) (hcc : c < n) : ∀ (k i f yr : Nat) (b : Nat → B) (M : mM), i + k = 201 → k < f → yr + k < 2147483647 → CQe y Yp ru φ n yr b M → OK (f_GraveRails_abreast_50 (i32 a) (i32 c) f (i32 i) M) fun z => z.1 = abrF y φ n a c k yr b ∧ FrY M z.2
  | _, _, 0, _, _, _, _, hf, _, _ => absurd hf (Nat.not_lt_zero _)
  | 0, i, f + 1, yr, b, M, hi, hf, hy, h => by
    unfold f_GraveRails_abreast_50
    simp (disch := omega) only [i32_lt, i32_le, i32_eq, i32_add, i32_mul, i32_neg, i32_nn, i32_ne1, i32_n1e, n1_lt_i32, i32_le_n1, i32_dec, i32_cl, rd_i32, ix_i32, wr_i32, pI_s, pR_s, pC_s, pZ_0, pZ_1, Option.bind_some, ite_true, ite_false, if_true, if_false, gIL, gRI, nlt_0, l0_lt, nle_0, l0_le, neq_0, nadd_0, nmul_0, nmul'_0, nadd'_0, nsub_0, nlt_1, l1_lt, nle_1, l1_le, neq_1, nadd_1, nmul_1, nmul'_1, nadd'_1, nsub_1, nlt_2, l2_lt, nle_2, l2_le, neq_2, nadd_2, nmul_2, nmul'_2, nadd'_2, nsub_2, nlt_3, l3_lt, nle_3, l3_le, neq_3, nadd_3, nmul_3, nmul'_3, nadd'_3, nsub_3, nlt_4, l4_lt, nle_4, l4_le, neq_4, nadd_4, nmul_4, nmul'_4, nadd'_4, nsub_4, nlt_5, l5_lt, nle_5, l5_le, neq_5, nadd_5, nmul_5, nmul'_5, nadd'_5, nsub_5, nlt_6, l6_lt, nle_6, l6_le, neq_6, nadd_6, nmul_6, nmul'_6, nadd'_6, nsub_6, nlt_7, l7_lt, nle_7, l7_le, neq_7, nadd_7, nmul_7, nmul'_7, nadd'_7, nsub_7, nlt_8, l8_lt, nle_8, l8_le, neq_8, nadd_8, nmul_8, nmul'_8, nadd'_8, nsub_8, nlt_9, l9_lt, nle_9, l9_le, neq_9, nadd_9, nmul_9, nmul'_9, nadd'_9, nsub_9, nlt_10, l10_lt, nle_10, l10_le, neq_10, nadd_10, nmul_10, nmul'_10, nadd'_10, nsub_10, nlt_11, l11_lt, nle_11, l11_le, neq_11, nadd_11, nmul_11, nmul'_11, nadd'_11, nsub_11, nlt_12, l12_lt, nle_12, l12_le, neq_12, nadd_12, nmul_12, nmul'_12, nadd'_12, nsub_12, nlt_13, l13_lt, nle_13, l13_le, neq_13, nadd_13, nmul_13, nmul'_13, nadd'_13, nsub_13, nlt_20, l20_lt, nle_20, l20_le, neq_20, nadd_20, nmul_20, nmul'_20, nadd'_20, nsub_20, nlt_400, l400_lt, nle_400, l400_le, neq_400, nadd_400, nmul_400, nmul'_400, nadd'_400, nsub_400, rd_0, wr_0, rd_1, wr_1, rd_2, wr_2, rd_3, wr_3, rd_4, wr_4, rd_5, wr_5, rd_6, wr_6, rd_7, wr_7, rd_8, wr_8, rd_9, wr_9, rd_10, wr_10, rd_11, wr_11, rd_12, wr_12, nlt_200, l200_lt, nle_200, l200_le, neq_200, nadd_200, nmul_200, nmul'_200, nadd'_200, nsub_200]
    rw [if_pos (by omega)]
    exact OK_some ⟨rfl, FrY_refl M⟩
  | k + 1, i, f + 1, yr, b, M, hi, hf, hy, h => by
    have h' := h
    obtain ⟨⟨P, kk, hq⟩, h4⟩ := h
    have hV := hq.2.1.2.1
    have hn := hV.2.2.1
    have a2 := (hq.2.1.1.2.2.2.2 a ha).2.1
    have c2 := (hq.2.1.1.2.2.2.2 c hcc).2.1
    have e0 := hq.2.1.1.1
    simp only [Nat.reduceAdd] at a2 c2
    unfold f_GraveRails_abreast_50
    simp (disch := omega) only [i32_lt, i32_le, i32_eq, i32_add, i32_mul, i32_neg, i32_nn, i32_ne1, i32_n1e, n1_lt_i32, i32_le_n1, i32_dec, i32_cl, rd_i32, ix_i32, wr_i32, pI_s, pR_s, pC_s, pZ_0, pZ_1, Option.bind_some, ite_true, ite_false, if_true, if_false, gIL, gRI, nlt_0, l0_lt, nle_0, l0_le, neq_0, nadd_0, nmul_0, nmul'_0, nadd'_0, nsub_0, nlt_1, l1_lt, nle_1, l1_le, neq_1, nadd_1, nmul_1, nmul'_1, nadd'_1, nsub_1, nlt_2, l2_lt, nle_2, l2_le, neq_2, nadd_2, nmul_2, nmul'_2, nadd'_2, nsub_2, nlt_3, l3_lt, nle_3, l3_le, neq_3, nadd_3, nmul_3, nmul'_3, nadd'_3, nsub_3, nlt_4, l4_lt, nle_4, l4_le, neq_4, nadd_4, nmul_4, nmul'_4, nadd'_4, nsub_4, nlt_5, l5_lt, nle_5, l5_le, neq_5, nadd_5, nmul_5, nmul'_5, nadd'_5, nsub_5, nlt_6, l6_lt, nle_6, l6_le, neq_6, nadd_6, nmul_6, nmul'_6, nadd'_6, nsub_6, nlt_7, l7_lt, nle_7, l7_le, neq_7, nadd_7, nmul_7, nmul'_7, nadd'_7, nsub_7, nlt_8, l8_lt, nle_8, l8_le, neq_8, nadd_8, nmul_8, nmul'_8, nadd'_8, nsub_8, nlt_9, l9_lt, nle_9, l9_le, neq_9, nadd_9, nmul_9, nmul'_9, nadd'_9, nsub_9, nlt_10, l10_lt, nle_10, l10_le, neq_10, nadd_10, nmul_10, nmul'_10, nadd'_10, nsub_10, nlt_11, l11_lt, nle_11, l11_le, neq_11, nadd_11, nmul_11, nmul'_11, nadd'_11, nsub_11, nlt_12, l12_lt, nle_12, l12_le, neq_12, nadd_12, nmul_12, nmul'_12, nadd'_12, nsub_12, nlt_13, l13_lt, nle_13, l13_le, neq_13, nadd_13, nmul_13, nmul'_13, nadd'_13, nsub_13, nlt_20, l20_lt, nle_20, l20_le, neq_20, nadd_20, nmul_20, nmul'_20, nadd'_20, nsub_20, nlt_400, l400_lt, nle_400, l400_le, neq_400, nadd_400, nmul_400, nmul'_400, nadd'_400, nsub_400, rd_0, wr_0, rd_1, wr_1, rd_2, wr_2, rd_3, wr_3, rd_4, wr_4, rd_5, wr_5, rd_6, wr_6, rd_7, wr_7, rd_8, wr_8, rd_9, wr_9, rd_10, wr_10, rd_11, wr_11, rd_12, wr_12, nlt_200, l200_lt, nle_200, l200_le, neq_200, nadd_200, nmul_200, nmul'_200, nadd'_200, nsub_200]
    rw [if_neg (by omega), abrF]
    by_cases q1 : (b a).1 = none
    · rw [c_lies0 hq.2.1.1 hV (by omega) (fun z => z.2 q1), if_pos (Or.inl q1)]
      exact OK_eq (bnd (if_pos rfl)) ⟨rfl, FrY_refl M⟩
    · rw [c_lies1 hq.2.1.1 hV ha q1]
      simp only [Option.bind_some, d10, if_false]
      by_cases q2 : (b c).1 = none
      · rw [c_lies0 hq.2.1.1 hV (by omega) (fun z => z.2 q2), if_pos (Or.inr q2)]
        exact OK_eq (bnd (if_pos rfl)) ⟨rfl, FrY_refl M⟩
      · rw [c_lies1 hq.2.1.1 hV hcc q2, if_neg (fun z => z.elim q1 q2)]
        simp (disch := omega) only [i32_lt, i32_le, i32_eq, i32_add, i32_mul, i32_neg, i32_nn, i32_ne1, i32_n1e, n1_lt_i32, i32_le_n1, i32_dec, i32_cl, rd_i32, ix_i32, wr_i32, pI_s, pR_s, pC_s, pZ_0, pZ_1, Option.bind_some, ite_true, ite_false, if_true, if_false, gIL, gRI, nlt_0, l0_lt, nle_0, l0_le, neq_0, nadd_0, nmul_0, nmul'_0, nadd'_0, nsub_0, nlt_1, l1_lt, nle_1, l1_le, neq_1, nadd_1, nmul_1, nmul'_1, nadd'_1, nsub_1, nlt_2, l2_lt, nle_2, l2_le, neq_2, nadd_2, nmul_2, nmul'_2, nadd'_2, nsub_2, nlt_3, l3_lt, nle_3, l3_le, neq_3, nadd_3, nmul_3, nmul'_3, nadd'_3, nsub_3, nlt_4, l4_lt, nle_4, l4_le, neq_4, nadd_4, nmul_4, nmul'_4, nadd'_4, nsub_4, nlt_5, l5_lt, nle_5, l5_le, neq_5, nadd_5, nmul_5, nmul'_5, nadd'_5, nsub_5, nlt_6, l6_lt, nle_6, l6_le, neq_6, nadd_6, nmul_6, nmul'_6, nadd'_6, nsub_6, nlt_7, l7_lt, nle_7, l7_le, neq_7, nadd_7, nmul_7, nmul'_7, nadd'_7, nsub_7, nlt_8, l8_lt, nle_8, l8_le, neq_8, nadd_8, nmul_8, nmul'_8, nadd'_8, nsub_8, nlt_9, l9_lt, nle_9, l9_le, neq_9, nadd_9, nmul_9, nmul'_9, nadd'_9, nsub_9, nlt_10, l10_lt, nle_10, l10_le, neq_10, nadd_10, nmul_10, nmul'_10, nadd'_10, nsub_10, nlt_11, l11_lt, nle_11, l11_le, neq_11, nadd_11, nmul_11, nmul'_11, nadd'_11, nsub_11, nlt_12, l12_lt, nle_12, l12_le, neq_12, nadd_12, nmul_12, nmul'_12, nadd'_12, nsub_12, nlt_13, l13_lt, nle_13, l13_le, neq_13, nadd_13, nmul_13, nmul'_13, nadd'_13, nsub_13, nlt_20, l20_lt, nle_20, l20_le, neq_20, nadd_20, nmul_20, nmul'_20, nadd'_20, nsub_20, nlt_400, l400_lt, nle_400, l400_le, neq_400, nadd_400, nmul_400, nmul'_400, nadd'_400, nsub_400, rd_0, wr_0, rd_1, wr_1, rd_2, wr_2, rd_3, wr_3, rd_4, wr_4, rd_5, wr_5, rd_6, wr_6, rd_7, wr_7, rd_8, wr_8, rd_9, wr_9, rd_10, wr_10, rd_11, wr_11, rd_12, wr_12, d10, a2, c2]
        by_cases q3 : eC (b a).1 = eC (b c).1
        · rw [if_pos q3, if_pos q3]
          exact OK_some ⟨e0, FrY_refl M⟩
        · rw [if_neg q3, if_neg q3]
          refine OK_bind (CQe_year h' (by omega)) fun M1 h1 => ?_
          exact OK_imp (c_abr50 ha hcc k (i + 1) f (yr + 1) _ M1 (by omega) (by omega) (by omega) h1.1) fun z hz => ⟨hz.1, FrY_trans h1.2 hz.2⟩
theorem m_areAbreast {y : Yd} {φ : Option (List Int64 → Nat)} {n yr a c : Nat} {b : Nat → B} {M : mM} (h : MYr y φ n yr b false M) (ha : a < n) (hcc : c < n) (hac : a ≠ c) : f_Model_areAbreast (i32 a) (i32 c) M = some (e01 (decide ((b a).1 ≠ none ∧ (b c).1 ≠ none ∧ eC (b a).1 = eC (b c).1)), M) := by
  have hV := h.2.2.2.2.1
  have hn := hV.2.2.1
  obtain ⟨a1, a2, a3, a4, a5, a6⟩ := (h.2.2.2.1.2.2.2.2.2 a ha).1
  obtain ⟨b1, b2, b3, b4, b5, b6⟩ := (h.2.2.2.1.2.2.2.2.2 c hcc).1
  unfold f_Model_areAbreast
  rw [m_isFallen h.2.2.2.1 hV ha]
  simp only [Option.bind_some, e01_d]
  by_cases q1 : (b a).1 = none
  · rw [if_neg (fun z => z q1), decide_eq_false (fun z => z.1 q1)]
    rfl
  · rw [if_pos q1, m_isFallen h.2.2.2.1 hV hcc]
    simp only [Option.bind_some, e01_d]
    by_cases q2 : (b c).1 = none
    · rw [if_neg (fun z => z q2), decide_eq_false (fun z => z.2.1 q2)]
      rfl
    · rw [if_pos q2]
      simp (disch := omega) only [m_g0, m_g1, Option.bind_some, a1, a2, b1, b2]
      by_cases q3 : eC (b a).1 = eC (b c).1
      · rw [decide_eq_true ⟨q1, q2, q3⟩]
        have hl : ¬ eL (b a).1 = eL (b c).1 := by
          intro z
          obtain ⟨p, hp⟩ := Option.ne_none_iff_exists'.mp q1
          obtain ⟨q, hq⟩ := Option.ne_none_iff_exists'.mp q2
          have p1 := eL_lt hV (l := p.1) (c := p.2) ha hp
          have p2 := eL_lt hV (l := q.1) (c := q.2) hcc hq
          rw [hp, hq] at z q3
          simp only [eL, eC] at z q3
          rw [i32_eq (by omega) (by omega)] at z q3
          exact hac (hV.2.2.2.2 a c p ha hcc hp (hq.trans (congrArg some (Prod.ext z.symm q3.symm))))
        rw [if_neg hl, if_pos q3]
        rfl
      · rw [decide_eq_false (fun z => q3 z.2.2)]
        by_cases hl : eL (b a).1 = eL (b c).1
        · rw [if_pos hl]
          rfl
        · rw [if_neg hl, if_neg q3]
          rfl
theorem m_abrNo {y : Yd} {φ : Option (List Int64 → Nat)} {n a c : Nat} {M0 M1 : mM} (hK : Kp M0 M1) (ha : a < n) (hcc : c < n) (hac : a ≠ c) : ∀ (k i f yr : Nat) (b : Nat → B) (M : mM), i + k = 201 → k < f → yr + k < 2147483647 → ((b a).1 = none ∨ (b c).1 = none) → MYr y φ n yr b false M → FrL M1 M → M.2.1 436 26 = 0 → OK (f_Model_abreast_33 (i32 a) (i32 c) f (-2) (i32 i) M) fun z => z.1 = -2 ∧ FrB M0 z.2 ∧ z.2.2.1 436 26 = 0
  | _, _, 0, _, _, _, _, hf, _, _, _, _, _ => absurd hf (Nat.not_lt_zero _)
  | 0, i, f + 1, yr, b, M, hi, hf, hy, hn, h, hF, h26 => by
    unfold f_Model_abreast_33 f_Model_abreast_72
    simp (disch := omega) only [i32_lt, i32_le, i32_eq, i32_add, i32_mul, i32_neg, i32_nn, i32_ne1, i32_n1e, n1_lt_i32, i32_le_n1, i32_dec, i32_cl, rd_i32, ix_i32, wr_i32, pI_s, pR_s, pC_s, pZ_0, pZ_1, Option.bind_some, ite_true, ite_false, if_true, if_false, gIL, gRI, nlt_0, l0_lt, nle_0, l0_le, neq_0, nadd_0, nmul_0, nmul'_0, nadd'_0, nsub_0, nlt_1, l1_lt, nle_1, l1_le, neq_1, nadd_1, nmul_1, nmul'_1, nadd'_1, nsub_1, nlt_2, l2_lt, nle_2, l2_le, neq_2, nadd_2, nmul_2, nmul'_2, nadd'_2, nsub_2, nlt_3, l3_lt, nle_3, l3_le, neq_3, nadd_3, nmul_3, nmul'_3, nadd'_3, nsub_3, nlt_4, l4_lt, nle_4, l4_le, neq_4, nadd_4, nmul_4, nmul'_4, nadd'_4, nsub_4, nlt_5, l5_lt, nle_5, l5_le, neq_5, nadd_5, nmul_5, nmul'_5, nadd'_5, nsub_5, nlt_6, l6_lt, nle_6, l6_le, neq_6, nadd_6, nmul_6, nmul'_6, nadd'_6, nsub_6, nlt_7, l7_lt, nle_7, l7_le, neq_7, nadd_7, nmul_7, nmul'_7, nadd'_7, nsub_7, nlt_8, l8_lt, nle_8, l8_le, neq_8, nadd_8, nmul_8, nmul'_8, nadd'_8, nsub_8, nlt_9, l9_lt, nle_9, l9_le, neq_9, nadd_9, nmul_9, nmul'_9, nadd'_9, nsub_9, nlt_10, l10_lt, nle_10, l10_le, neq_10, nadd_10, nmul_10, nmul'_10, nadd'_10, nsub_10, nlt_11, l11_lt, nle_11, l11_le, neq_11, nadd_11, nmul_11, nmul'_11, nadd'_11, nsub_11, nlt_12, l12_lt, nle_12, l12_le, neq_12, nadd_12, nmul_12, nmul'_12, nadd'_12, nsub_12, nlt_13, l13_lt, nle_13, l13_le, neq_13, nadd_13, nmul_13, nmul'_13, nadd'_13, nsub_13, nlt_20, l20_lt, nle_20, l20_le, neq_20, nadd_20, nmul_20, nmul'_20, nadd'_20, nsub_20, nlt_400, l400_lt, nle_400, l400_le, neq_400, nadd_400, nmul_400, nmul'_400, nadd'_400, nsub_400, rd_0, wr_0, rd_1, wr_1, rd_2, wr_2, rd_3, wr_3, rd_4, wr_4, rd_5, wr_5, rd_6, wr_6, rd_7, wr_7, rd_8, wr_8, rd_9, wr_9, rd_10, wr_10, rd_11, wr_11, rd_12, wr_12, nlt_200, l200_lt, nle_200, l200_le, neq_200, nadd_200, nmul_200, nmul'_200, nadd'_200, nsub_200]
    rw [if_pos (by omega)]
    exact OK_bind (m_lay hK hF) fun M3 h3 => OK_some ⟨rfl, h3.1, by rw [h3.2.1]; exact h26⟩
  | k + 1, i, f + 1, yr, b, M, hi, hf, hy, hn, h, hF, h26 => by
    unfold f_Model_abreast_33
    simp (disch := omega) only [i32_lt, i32_le, i32_eq, i32_add, i32_mul, i32_neg, i32_nn, i32_ne1, i32_n1e, n1_lt_i32, i32_le_n1, i32_dec, i32_cl, rd_i32, ix_i32, wr_i32, pI_s, pR_s, pC_s, pZ_0, pZ_1, Option.bind_some, ite_true, ite_false, if_true, if_false, gIL, gRI, nlt_0, l0_lt, nle_0, l0_le, neq_0, nadd_0, nmul_0, nmul'_0, nadd'_0, nsub_0, nlt_1, l1_lt, nle_1, l1_le, neq_1, nadd_1, nmul_1, nmul'_1, nadd'_1, nsub_1, nlt_2, l2_lt, nle_2, l2_le, neq_2, nadd_2, nmul_2, nmul'_2, nadd'_2, nsub_2, nlt_3, l3_lt, nle_3, l3_le, neq_3, nadd_3, nmul_3, nmul'_3, nadd'_3, nsub_3, nlt_4, l4_lt, nle_4, l4_le, neq_4, nadd_4, nmul_4, nmul'_4, nadd'_4, nsub_4, nlt_5, l5_lt, nle_5, l5_le, neq_5, nadd_5, nmul_5, nmul'_5, nadd'_5, nsub_5, nlt_6, l6_lt, nle_6, l6_le, neq_6, nadd_6, nmul_6, nmul'_6, nadd'_6, nsub_6, nlt_7, l7_lt, nle_7, l7_le, neq_7, nadd_7, nmul_7, nmul'_7, nadd'_7, nsub_7, nlt_8, l8_lt, nle_8, l8_le, neq_8, nadd_8, nmul_8, nmul'_8, nadd'_8, nsub_8, nlt_9, l9_lt, nle_9, l9_le, neq_9, nadd_9, nmul_9, nmul'_9, nadd'_9, nsub_9, nlt_10, l10_lt, nle_10, l10_le, neq_10, nadd_10, nmul_10, nmul'_10, nadd'_10, nsub_10, nlt_11, l11_lt, nle_11, l11_le, neq_11, nadd_11, nmul_11, nmul'_11, nadd'_11, nsub_11, nlt_12, l12_lt, nle_12, l12_le, neq_12, nadd_12, nmul_12, nmul'_12, nadd'_12, nsub_12, nlt_13, l13_lt, nle_13, l13_le, neq_13, nadd_13, nmul_13, nmul'_13, nadd'_13, nsub_13, nlt_20, l20_lt, nle_20, l20_le, neq_20, nadd_20, nmul_20, nmul'_20, nadd'_20, nsub_20, nlt_400, l400_lt, nle_400, l400_le, neq_400, nadd_400, nmul_400, nmul'_400, nadd'_400, nsub_400, rd_0, wr_0, rd_1, wr_1, rd_2, wr_2, rd_3, wr_3, rd_4, wr_4, rd_5, wr_5, rd_6, wr_6, rd_7, wr_7, rd_8, wr_8, rd_9, wr_9, rd_10, wr_10, rd_11, wr_11, rd_12, wr_12, nlt_200, l200_lt, nle_200, l200_le, neq_200, nadd_200, nmul_200, nmul'_200, nadd'_200, nsub_200]
    rw [if_neg (by omega), if_neg (by decide), m_areAbreast h ha hcc hac, decide_eq_false (fun z => hn.elim z.1 z.2.1)]
    simp only [Option.bind_some]
    rw [if_pos e01_f]
    unfold f_Model_abreast_61
    refine OK_bind (MYr_step h (by omega)) fun z1 h1 => ?_
    rw [nadd_1]
    refine m_abrNo hK ha hcc hac k (i + 1) f (yr + 1) _ z1.2 (by omega) (by omega) (by omega) ?_ h1.1 (FrL_trans hF h1.2.1) h1.2.2
    have e := Evo_yB y φ n yr (flo y yr) b
    rcases hn with z | z
    · exact Or.inl (by rw [(e a).1 z]; exact z)
    · exact Or.inr (by rw [(e c).1 z]; exact z)
theorem m_abr33 {y : Yd} {φ : Option (List Int64 → Nat)} {n a c : Nat} {M0 M1 : mM} (hK : Kp M0 M1) (ha : a < n) (hcc : c < n) (hac : a ≠ c) : ∀ (k i f yr : Nat) (b : Nat → B) (M : mM), i + k = 201 → k < f → yr + k < 2147483647 → MYr y φ n yr b false M → FrL M1 M → M.2.1 436 26 = 0 → OK (f_Model_abreast_33 (i32 a) (i32 c) f (-2) (i32 i) M) fun z => z.1 = abrF y φ n a c k yr b ∧ FrB M0 z.2 ∧ z.2.2.1 436 26 = 0
  | _, _, 0, _, _, _, _, hf, _, _, _, _ => absurd hf (Nat.not_lt_zero _)
  | 0, i, f + 1, yr, b, M, hi, hf, hy, h, hF, h26 => by
    unfold f_Model_abreast_33 f_Model_abreast_72
    simp (disch := omega) only [i32_lt, i32_le, i32_eq, i32_add, i32_mul, i32_neg, i32_nn, i32_ne1, i32_n1e, n1_lt_i32, i32_le_n1, i32_dec, i32_cl, rd_i32, ix_i32, wr_i32, pI_s, pR_s, pC_s, pZ_0, pZ_1, Option.bind_some, ite_true, ite_false, if_true, if_false, gIL, gRI, nlt_0, l0_lt, nle_0, l0_le, neq_0, nadd_0, nmul_0, nmul'_0, nadd'_0, nsub_0, nlt_1, l1_lt, nle_1, l1_le, neq_1, nadd_1, nmul_1, nmul'_1, nadd'_1, nsub_1, nlt_2, l2_lt, nle_2, l2_le, neq_2, nadd_2, nmul_2, nmul'_2, nadd'_2, nsub_2, nlt_3, l3_lt, nle_3, l3_le, neq_3, nadd_3, nmul_3, nmul'_3, nadd'_3, nsub_3, nlt_4, l4_lt, nle_4, l4_le, neq_4, nadd_4, nmul_4, nmul'_4, nadd'_4, nsub_4, nlt_5, l5_lt, nle_5, l5_le, neq_5, nadd_5, nmul_5, nmul'_5, nadd'_5, nsub_5, nlt_6, l6_lt, nle_6, l6_le, neq_6, nadd_6, nmul_6, nmul'_6, nadd'_6, nsub_6, nlt_7, l7_lt, nle_7, l7_le, neq_7, nadd_7, nmul_7, nmul'_7, nadd'_7, nsub_7, nlt_8, l8_lt, nle_8, l8_le, neq_8, nadd_8, nmul_8, nmul'_8, nadd'_8, nsub_8, nlt_9, l9_lt, nle_9, l9_le, neq_9, nadd_9, nmul_9, nmul'_9, nadd'_9, nsub_9, nlt_10, l10_lt, nle_10, l10_le, neq_10, nadd_10, nmul_10, nmul'_10, nadd'_10, nsub_10, nlt_11, l11_lt, nle_11, l11_le, neq_11, nadd_11, nmul_11, nmul'_11, nadd'_11, nsub_11, nlt_12, l12_lt, nle_12, l12_le, neq_12, nadd_12, nmul_12, nmul'_12, nadd'_12, nsub_12, nlt_13, l13_lt, nle_13, l13_le, neq_13, nadd_13, nmul_13, nmul'_13, nadd'_13, nsub_13, nlt_20, l20_lt, nle_20, l20_le, neq_20, nadd_20, nmul_20, nmul'_20, nadd'_20, nsub_20, nlt_400, l400_lt, nle_400, l400_le, neq_400, nadd_400, nmul_400, nmul'_400, nadd'_400, nsub_400, rd_0, wr_0, rd_1, wr_1, rd_2, wr_2, rd_3, wr_3, rd_4, wr_4, rd_5, wr_5, rd_6, wr_6, rd_7, wr_7, rd_8, wr_8, rd_9, wr_9, rd_10, wr_10, rd_11, wr_11, rd_12, wr_12, nlt_200, l200_lt, nle_200, l200_le, neq_200, nadd_200, nmul_200, nmul'_200, nadd'_200, nsub_200]
    rw [if_pos (by omega)]
    exact OK_bind (m_lay hK hF) fun M3 h3 => OK_some ⟨rfl, h3.1, by rw [h3.2.1]; exact h26⟩
  | k + 1, i, f + 1, yr, b, M, hi, hf, hy, h, hF, h26 => by
    rw [abrF]
    by_cases hn : (b a).1 = none ∨ (b c).1 = none
    · rw [if_pos hn]
      exact m_abrNo hK ha hcc hac (k + 1) i (f + 1) yr b M hi hf hy hn h hF h26
    · rw [if_neg hn]
      have e3 : M.2.1 446 3 = i32 yr := h.2.2.2.1.2.2.2.1
      unfold f_Model_abreast_33
      simp (disch := omega) only [i32_lt, i32_le, i32_eq, i32_add, i32_mul, i32_neg, i32_nn, i32_ne1, i32_n1e, n1_lt_i32, i32_le_n1, i32_dec, i32_cl, rd_i32, ix_i32, wr_i32, pI_s, pR_s, pC_s, pZ_0, pZ_1, Option.bind_some, ite_true, ite_false, if_true, if_false, gIL, gRI, nlt_0, l0_lt, nle_0, l0_le, neq_0, nadd_0, nmul_0, nmul'_0, nadd'_0, nsub_0, nlt_1, l1_lt, nle_1, l1_le, neq_1, nadd_1, nmul_1, nmul'_1, nadd'_1, nsub_1, nlt_2, l2_lt, nle_2, l2_le, neq_2, nadd_2, nmul_2, nmul'_2, nadd'_2, nsub_2, nlt_3, l3_lt, nle_3, l3_le, neq_3, nadd_3, nmul_3, nmul'_3, nadd'_3, nsub_3, nlt_4, l4_lt, nle_4, l4_le, neq_4, nadd_4, nmul_4, nmul'_4, nadd'_4, nsub_4, nlt_5, l5_lt, nle_5, l5_le, neq_5, nadd_5, nmul_5, nmul'_5, nadd'_5, nsub_5, nlt_6, l6_lt, nle_6, l6_le, neq_6, nadd_6, nmul_6, nmul'_6, nadd'_6, nsub_6, nlt_7, l7_lt, nle_7, l7_le, neq_7, nadd_7, nmul_7, nmul'_7, nadd'_7, nsub_7, nlt_8, l8_lt, nle_8, l8_le, neq_8, nadd_8, nmul_8, nmul'_8, nadd'_8, nsub_8, nlt_9, l9_lt, nle_9, l9_le, neq_9, nadd_9, nmul_9, nmul'_9, nadd'_9, nsub_9, nlt_10, l10_lt, nle_10, l10_le, neq_10, nadd_10, nmul_10, nmul'_10, nadd'_10, nsub_10, nlt_11, l11_lt, nle_11, l11_le, neq_11, nadd_11, nmul_11, nmul'_11, nadd'_11, nsub_11, nlt_12, l12_lt, nle_12, l12_le, neq_12, nadd_12, nmul_12, nmul'_12, nadd'_12, nsub_12, nlt_13, l13_lt, nle_13, l13_le, neq_13, nadd_13, nmul_13, nmul'_13, nadd'_13, nsub_13, nlt_20, l20_lt, nle_20, l20_le, neq_20, nadd_20, nmul_20, nmul'_20, nadd'_20, nsub_20, nlt_400, l400_lt, nle_400, l400_le, neq_400, nadd_400, nmul_400, nmul'_400, nadd'_400, nsub_400, rd_0, wr_0, rd_1, wr_1, rd_2, wr_2, rd_3, wr_3, rd_4, wr_4, rd_5, wr_5, rd_6, wr_6, rd_7, wr_7, rd_8, wr_8, rd_9, wr_9, rd_10, wr_10, rd_11, wr_11, rd_12, wr_12, nlt_200, l200_lt, nle_200, l200_le, neq_200, nadd_200, nmul_200, nmul'_200, nadd'_200, nsub_200, e3]
      rw [if_neg (by omega), if_neg (by decide), m_areAbreast h ha hcc hac]
      by_cases q3 : eC (b a).1 = eC (b c).1
      · rw [if_pos q3, decide_eq_true ⟨fun z => hn (Or.inl z), fun z => hn (Or.inr z), q3⟩]
        simp only [Option.bind_some]
        rw [if_neg (show ¬ e01 true = 0 by decide)]
        simp only [e3]
        unfold f_Model_abreast_61
        refine OK_bind (MYr_step h (by omega)) fun z1 h1 => ?_
        have hF1 := FrL_trans hF h1.2.1
        cases f with
        | zero => omega
        | succ f =>
          unfold f_Model_abreast_33 f_Model_abreast_72
          have fin : OK ((f_Model_laysBack z1.2).bind fun M8 => some (i32 yr, M8)) fun z => z.1 = i32 yr ∧ FrB M0 z.2 ∧ z.2.2.1 436 26 = 0 := OK_bind (m_lay hK hF1) fun M3 h3 => OK_some ⟨rfl, h3.1, by rw [h3.2.1]; exact h1.2.2⟩
          split
          · exact fin
          · rw [if_pos ((i32_nn (by omega)).mpr trivial)]
            exact fin
      · rw [if_neg q3, decide_eq_false (fun z => q3 z.2.2)]
        simp only [Option.bind_some]
        rw [if_pos e01_f]
        unfold f_Model_abreast_61
        refine OK_bind (MYr_step h (by omega)) fun z1 h1 => ?_
        rw [nadd_1]
        exact m_abr33 hK ha hcc hac k (i + 1) f (yr + 1) _ z1.2 (by omega) (by omega) (by omega) h1.1 (FrL_trans hF h1.2.1) h1.2.2
theorem both_abreast {x1 x2 : Int32} {M : mM} (hi : Inv M) : Both (f_GraveRails_abreast x1 x2) (f_Model_abreast x1 x2) M := by
  have hi' := hi
  obtain ⟨g, hg, hc, hm⟩ := hi
  have hS := hc.1.2.1.1
  have hN := hm.1.1.1
  have hn := hg.1.2.1.2.2.2.1
  have hy := hg.1.2.1.2.2.2.2.1
  rcases i32_cases x1 with h1 | ⟨a, h1, rfl⟩
  · refine both_pure hi' ⟨-1, ?_, ?_⟩
    · unfold f_GraveRails_abreast
      rw [c_hasN h1]
      exact bnd (if_pos rfl)
    · unfold f_Model_abreast
      rw [m_isGraveN h1]
      exact bnd (if_pos rfl)
  · by_cases ha : a < g.1.2.1.2.1
    · rcases i32_cases x2 with h2 | ⟨c, h2, rfl⟩
      · refine both_pure hi' ⟨-1, ?_, ?_⟩
        · unfold f_GraveRails_abreast
          rw [c_has1 hS ha]
          simp only [Option.bind_some, d10, if_false]
          rw [c_hasN h2]
          exact bnd (if_pos rfl)
        · unfold f_Model_abreast
          rw [m_isGrave hN h1, if_pos ha]
          simp only [Option.bind_some, d10, if_false]
          rw [m_isGraveN h2]
          exact bnd (if_pos rfl)
      · by_cases hcc : c < g.1.2.1.2.1
        · by_cases hac : a = c
          · refine both_pure hi' ⟨-1, ?_, ?_⟩
            · unfold f_GraveRails_abreast
              rw [c_has1 hS ha]
              simp only [Option.bind_some, d10, if_false]
              rw [c_has1 hS hcc]
              simp only [Option.bind_some, d10, if_false]
              rw [if_pos (by rw [hac])]
            · unfold f_Model_abreast
              rw [m_isGrave hN h1, if_pos ha]
              simp only [Option.bind_some, d10, if_false]
              rw [m_isGrave hN h2, if_pos hcc]
              simp only [Option.bind_some, d10, if_false]
              rw [if_pos (by rw [hac])]
          · refine both_ask (v := abrF g.1.1 (phi g.1.2.2.2.1 g.2.2.1.2) g.1.2.1.2.1 a c 201 g.1.2.1.1 g.1.2.1.2.2.1) hg hc hm ?_ fun M' hc' hm' => ?_
            · unfold f_GraveRails_abreast
              rw [c_has1 hS ha]
              simp only [Option.bind_some, d10, if_false]
              rw [c_has1 hS hcc]
              simp only [Option.bind_some, d10, if_false]
              rw [if_neg (by rw [i32_eq h1 h2]; exact hac)]
              refine OK_bind (c_sfn hg hc) fun M1 q => ?_
              refine OK_imp (c_abr50 ha hcc 201 0 FUEL _ _ M1 (by omega) (by rw [FUEL_eq]; omega) (by omega) ⟨⟨_, _, q.1⟩, q.2.1⟩) fun z hz => ?_
              have := Sm_trans q.2.2.2 (Sm_Y hz.2)
              exact ⟨hz.1, RC_Sm hg hc this, Sm_le this (by omega) (by omega)⟩
            · unfold f_Model_abreast
              rw [m_isGrave hm'.1.1.1 h1, if_pos ha]
              simp only [Option.bind_some, d10, if_false]
              rw [m_isGrave hm'.1.1.1 h2, if_pos hcc]
              simp only [Option.bind_some, d10, if_false]
              rw [if_neg (by rw [i32_eq h1 h2]; exact hac)]
              refine OK_bind (m_begin hg hm' (hg.1.2.1.2.2.2.2.2.2 (by omega))) fun M1 q => ?_
              refine OK_imp (m_abr33 q.1 ha hcc hac 201 0 FUEL _ _ M1 (by omega) (by rw [FUEL_eq]; omega) (by omega) q.2.1 (FrL_refl _) q.2.2) fun z hz => ?_
              exact ⟨hz.1, FrN_B hz.2.1 (hz.2.2.trans hm'.2.2.2.1.symm)⟩
        · refine both_pure hi' ⟨-1, ?_, ?_⟩
          · unfold f_GraveRails_abreast
            rw [c_has1 hS ha]
            simp only [Option.bind_some, d10, if_false]
            rw [c_has hS h2, if_neg hcc]
            exact bnd (if_pos rfl)
          · unfold f_Model_abreast
            rw [m_isGrave hN h1, if_pos ha]
            simp only [Option.bind_some, d10, if_false]
            rw [m_isGrave hN h2, if_neg hcc]
            exact bnd (if_pos rfl)
    · refine both_pure hi' ⟨-1, ?_, ?_⟩
      · unfold f_GraveRails_abreast
        rw [c_has hS h1, if_neg ha]
        exact bnd (if_pos rfl)
      · unfold f_Model_abreast
        rw [m_isGrave hN h1, if_neg ha]
        exact bnd (if_pos rfl)
