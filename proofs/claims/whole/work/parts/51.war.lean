/-! ===== war, order ===== -/
def rmF (n : Nat) (b : Nat → B) (C : Nat) : Nat → Nat → Nat → Nat
  | 0, _, a => a
  | k + 1, l, a => rmF n b C k (l + 1) (a + (if grv n b l (C - 1) = none then 1 else 0))
def waF (y : Yd) (φ : Option (List Int64 → Nat)) (n : Nat) : Nat → Nat → (Nat → B) → Nat → Nat
  | 0, _, _, a => a
  | k + 1, yr, b, a => waF y φ n k (yr + 1) (yB y φ n yr (flo y yr) b) (rmF n b (y_C y) (y_L y) 0 a)
theorem c_war42 {y : Yd} {ru : Option Nat} {φ : Option (List Int64 → Nat)} {n yr i : Nat} {b : Nat → B} {x : Int32} {K : Int32 → Int32 → mM → Option (Int32 × mM)} {Q : Int32 × mM → Prop} {M : mM} (h : CQe y 21 ru φ n yr b M) (hC : 0 < y_C y) (hy : yr < 2147483647) : ∀ (k l f a : Nat), l + k = y_L y → k < f → (∀ M', CQe y 21 ru φ n (yr + 1) (yB y φ n yr (flo y yr) b) M' → FrY M M' → OK (K (i32 (rmF n b (y_C y) k l a)) (i32 (i + 1)) M') Q) → OK (f_GraveRails_war_42 x K f (i32 a) (i32 i) (i32 l) M) Q
  | _, _, 0, _, _, hf, _ => absurd hf (Nat.not_lt_zero _)
  | 0, l, f + 1, a, hl, hf, hk => by
    have hv := h.1.choose_spec.choose_spec.1
    have v1 := hv.1
    have e0 : M.2.1 21 0 = i32 (y_L y) := h.1.choose_spec.choose_spec.2.2.1.2.2.2.1.1
    unfold f_GraveRails_war_42
    simp (disch := omega) only [i32_lt, i32_le, i32_eq, i32_add, i32_mul, i32_neg, i32_nn, i32_ne1, i32_n1e, n1_lt_i32, i32_le_n1, i32_dec, i32_cl, rd_i32, ix_i32, wr_i32, pI_s, pR_s, pC_s, pZ_0, pZ_1, Option.bind_some, ite_true, ite_false, if_true, if_false, gIL, gRI, nlt_0, l0_lt, nle_0, l0_le, neq_0, nadd_0, nmul_0, nmul'_0, nadd'_0, nsub_0, nlt_1, l1_lt, nle_1, l1_le, neq_1, nadd_1, nmul_1, nmul'_1, nadd'_1, nsub_1, nlt_2, l2_lt, nle_2, l2_le, neq_2, nadd_2, nmul_2, nmul'_2, nadd'_2, nsub_2, nlt_3, l3_lt, nle_3, l3_le, neq_3, nadd_3, nmul_3, nmul'_3, nadd'_3, nsub_3, nlt_4, l4_lt, nle_4, l4_le, neq_4, nadd_4, nmul_4, nmul'_4, nadd'_4, nsub_4, nlt_5, l5_lt, nle_5, l5_le, neq_5, nadd_5, nmul_5, nmul'_5, nadd'_5, nsub_5, nlt_6, l6_lt, nle_6, l6_le, neq_6, nadd_6, nmul_6, nmul'_6, nadd'_6, nsub_6, nlt_7, l7_lt, nle_7, l7_le, neq_7, nadd_7, nmul_7, nmul'_7, nadd'_7, nsub_7, nlt_8, l8_lt, nle_8, l8_le, neq_8, nadd_8, nmul_8, nmul'_8, nadd'_8, nsub_8, nlt_9, l9_lt, nle_9, l9_le, neq_9, nadd_9, nmul_9, nmul'_9, nadd'_9, nsub_9, nlt_10, l10_lt, nle_10, l10_le, neq_10, nadd_10, nmul_10, nmul'_10, nadd'_10, nsub_10, nlt_11, l11_lt, nle_11, l11_le, neq_11, nadd_11, nmul_11, nmul'_11, nadd'_11, nsub_11, nlt_12, l12_lt, nle_12, l12_le, neq_12, nadd_12, nmul_12, nmul'_12, nadd'_12, nsub_12, nlt_13, l13_lt, nle_13, l13_le, neq_13, nadd_13, nmul_13, nmul'_13, nadd'_13, nsub_13, nlt_20, l20_lt, nle_20, l20_le, neq_20, nadd_20, nmul_20, nmul'_20, nadd'_20, nsub_20, nlt_400, l400_lt, nle_400, l400_le, neq_400, nadd_400, nmul_400, nmul'_400, nadd'_400, nsub_400, rd_0, wr_0, rd_1, wr_1, rd_2, wr_2, rd_3, wr_3, rd_4, wr_4, rd_5, wr_5, rd_6, wr_6, rd_7, wr_7, rd_8, wr_8, rd_9, wr_9, rd_10, wr_10, rd_11, wr_11, rd_12, wr_12, e0]
    rw [if_pos (by omega)]
    exact OK_bind (CQe_year h hy) fun M1 h1 => hk M1 h1.1 h1.2
  | k + 1, l, f + 1, a, hl, hf, hk => by
    have hq := h.1.choose_spec.choose_spec
    have hv := hq.1
    have v1 := hv.1
    have v2 := hv.2.1
    have e0 : M.2.1 21 0 = i32 (y_L y) := hq.2.2.1.2.2.2.1.1
    have e1 : M.2.1 21 1 = i32 (y_C y) := hq.2.2.1.2.2.2.1.2.1
    have hn := hq.2.1.2.1.2.2.1
    unfold f_GraveRails_war_42 f_GraveRails_war_91
    simp (disch := omega) only [i32_lt, i32_le, i32_eq, i32_add, i32_mul, i32_neg, i32_nn, i32_ne1, i32_n1e, n1_lt_i32, i32_le_n1, i32_dec, i32_cl, rd_i32, ix_i32, wr_i32, pI_s, pR_s, pC_s, pZ_0, pZ_1, Option.bind_some, ite_true, ite_false, if_true, if_false, gIL, gRI, nlt_0, l0_lt, nle_0, l0_le, neq_0, nadd_0, nmul_0, nmul'_0, nadd'_0, nsub_0, nlt_1, l1_lt, nle_1, l1_le, neq_1, nadd_1, nmul_1, nmul'_1, nadd'_1, nsub_1, nlt_2, l2_lt, nle_2, l2_le, neq_2, nadd_2, nmul_2, nmul'_2, nadd'_2, nsub_2, nlt_3, l3_lt, nle_3, l3_le, neq_3, nadd_3, nmul_3, nmul'_3, nadd'_3, nsub_3, nlt_4, l4_lt, nle_4, l4_le, neq_4, nadd_4, nmul_4, nmul'_4, nadd'_4, nsub_4, nlt_5, l5_lt, nle_5, l5_le, neq_5, nadd_5, nmul_5, nmul'_5, nadd'_5, nsub_5, nlt_6, l6_lt, nle_6, l6_le, neq_6, nadd_6, nmul_6, nmul'_6, nadd'_6, nsub_6, nlt_7, l7_lt, nle_7, l7_le, neq_7, nadd_7, nmul_7, nmul'_7, nadd'_7, nsub_7, nlt_8, l8_lt, nle_8, l8_le, neq_8, nadd_8, nmul_8, nmul'_8, nadd'_8, nsub_8, nlt_9, l9_lt, nle_9, l9_le, neq_9, nadd_9, nmul_9, nmul'_9, nadd'_9, nsub_9, nlt_10, l10_lt, nle_10, l10_le, neq_10, nadd_10, nmul_10, nmul'_10, nadd'_10, nsub_10, nlt_11, l11_lt, nle_11, l11_le, neq_11, nadd_11, nmul_11, nmul'_11, nadd'_11, nsub_11, nlt_12, l12_lt, nle_12, l12_le, neq_12, nadd_12, nmul_12, nmul'_12, nadd'_12, nsub_12, nlt_13, l13_lt, nle_13, l13_le, neq_13, nadd_13, nmul_13, nmul'_13, nadd'_13, nsub_13, nlt_20, l20_lt, nle_20, l20_le, neq_20, nadd_20, nmul_20, nmul'_20, nadd'_20, nsub_20, nlt_400, l400_lt, nle_400, l400_le, neq_400, nadd_400, nmul_400, nmul'_400, nadd'_400, nsub_400, rd_0, wr_0, rd_1, wr_1, rd_2, wr_2, rd_3, wr_3, rd_4, wr_4, rd_5, wr_5, rd_6, wr_6, rd_7, wr_7, rd_8, wr_8, rd_9, wr_9, rd_10, wr_10, rd_11, wr_11, rd_12, wr_12, e0, e1]
    rw [if_neg (by omega), c_graveAt hq.2.1.1 hq.2.1.2.1 (by omega) (by omega)]
    simp only [Option.bind_some, eG_ne (grv_b hn)]
    rw [rmF] at hk
    by_cases c : grv n b l (y_C y - 1) = none
    · rw [if_pos c]
      rw [if_pos c] at hk
      exact c_war42 h hC hy k (l + 1) f (a + 1) (by omega) (by omega) hk
    · rw [if_neg c]
      rw [if_neg c] at hk
      exact c_war42 h hC hy k (l + 1) f (a + 0) (by omega) (by omega) hk
theorem c_war34 {y : Yd} {ru : Option Nat} {φ : Option (List Int64 → Nat)} {n N : Nat} (hC : 0 < y_C y) (hN : N ≤ 50) (hL : y_L y ≤ 4) : ∀ (k i f yr a : Nat) (b : Nat → B) (M : mM), i + k = N → k < f → yr + k < 2147483647 → CQe y 21 ru φ n yr b M → OK (f_GraveRails_war_34 (i32 N) f (i32 a) (i32 i) M) fun z => z.1 = i32 (waF y φ n k yr b a) ∧ FrY M z.2
  | _, _, 0, _, _, _, _, _, hf, _, _ => absurd hf (Nat.not_lt_zero _)
  | 0, i, f + 1, yr, a, b, M, hi, hf, hy, h => by
    unfold f_GraveRails_war_34
    simp (disch := omega) only [i32_lt, i32_le, i32_eq, i32_add, i32_mul, i32_neg, i32_nn, i32_ne1, i32_n1e, n1_lt_i32, i32_le_n1, i32_dec, i32_cl, rd_i32, ix_i32, wr_i32, pI_s, pR_s, pC_s, pZ_0, pZ_1, Option.bind_some, ite_true, ite_false, if_true, if_false, gIL, gRI, nlt_0, l0_lt, nle_0, l0_le, neq_0, nadd_0, nmul_0, nmul'_0, nadd'_0, nsub_0, nlt_1, l1_lt, nle_1, l1_le, neq_1, nadd_1, nmul_1, nmul'_1, nadd'_1, nsub_1, nlt_2, l2_lt, nle_2, l2_le, neq_2, nadd_2, nmul_2, nmul'_2, nadd'_2, nsub_2, nlt_3, l3_lt, nle_3, l3_le, neq_3, nadd_3, nmul_3, nmul'_3, nadd'_3, nsub_3, nlt_4, l4_lt, nle_4, l4_le, neq_4, nadd_4, nmul_4, nmul'_4, nadd'_4, nsub_4, nlt_5, l5_lt, nle_5, l5_le, neq_5, nadd_5, nmul_5, nmul'_5, nadd'_5, nsub_5, nlt_6, l6_lt, nle_6, l6_le, neq_6, nadd_6, nmul_6, nmul'_6, nadd'_6, nsub_6, nlt_7, l7_lt, nle_7, l7_le, neq_7, nadd_7, nmul_7, nmul'_7, nadd'_7, nsub_7, nlt_8, l8_lt, nle_8, l8_le, neq_8, nadd_8, nmul_8, nmul'_8, nadd'_8, nsub_8, nlt_9, l9_lt, nle_9, l9_le, neq_9, nadd_9, nmul_9, nmul'_9, nadd'_9, nsub_9, nlt_10, l10_lt, nle_10, l10_le, neq_10, nadd_10, nmul_10, nmul'_10, nadd'_10, nsub_10, nlt_11, l11_lt, nle_11, l11_le, neq_11, nadd_11, nmul_11, nmul'_11, nadd'_11, nsub_11, nlt_12, l12_lt, nle_12, l12_le, neq_12, nadd_12, nmul_12, nmul'_12, nadd'_12, nsub_12, nlt_13, l13_lt, nle_13, l13_le, neq_13, nadd_13, nmul_13, nmul'_13, nadd'_13, nsub_13, nlt_20, l20_lt, nle_20, l20_le, neq_20, nadd_20, nmul_20, nmul'_20, nadd'_20, nsub_20, nlt_400, l400_lt, nle_400, l400_le, neq_400, nadd_400, nmul_400, nmul'_400, nadd'_400, nsub_400, rd_0, wr_0, rd_1, wr_1, rd_2, wr_2, rd_3, wr_3, rd_4, wr_4, rd_5, wr_5, rd_6, wr_6, rd_7, wr_7, rd_8, wr_8, rd_9, wr_9, rd_10, wr_10, rd_11, wr_11, rd_12, wr_12]
    rw [if_pos (by omega)]
    exact OK_some ⟨rfl, FrY_refl M⟩
  | k + 1, i, f + 1, yr, a, b, M, hi, hf, hy, h => by
    unfold f_GraveRails_war_34
    rw [if_neg (by rw [i32_le (by omega) (by omega)]; omega)]
    refine c_war42 h hC (by omega) (y_L y) 0 FUEL a (Nat.zero_add _) (by rw [FUEL_eq]; omega) fun M1 h1 h2 => ?_
    exact OK_imp (c_war34 hC hN hL k (i + 1) f (yr + 1) _ _ M1 (by omega) (by omega) (by omega) h1) fun z hz => ⟨hz.1, FrY_trans h2 hz.2⟩
theorem m_war37 {y : Yd} {φ : Option (List Int64 → Nat)} {n yr i : Nat} {b : Nat → B} {x : Int32} {K : Int32 → Int32 → mM → Option (Int32 × mM)} {Q : Int32 × mM → Prop} {M : mM} (h : MYr y φ n yr b false M) (hC : 0 < y_C y) (hy : yr < 2147483647) : ∀ (k l f a : Nat), l + k = y_L y → k < f → (∀ M', MYr y φ n (yr + 1) (yB y φ n yr (flo y yr) b) false M' → FrL M M' → M'.2.1 436 26 = 0 → OK (K (i32 (rmF n b (y_C y) k l a)) (i32 (i + 1)) M') Q) → OK (f_Model_war_37 x K f (i32 a) (i32 i) (i32 l) M) Q
  | _, _, 0, _, _, hf, _ => absurd hf (Nat.not_lt_zero _)
  | 0, l, f + 1, a, hl, hf, hk => by
    have hv := h.1
    have v1 := hv.1
    have e0 := h.2.2.2.1.1
    unfold f_Model_war_37
    simp (disch := omega) only [i32_lt, i32_le, i32_eq, i32_add, i32_mul, i32_neg, i32_nn, i32_ne1, i32_n1e, n1_lt_i32, i32_le_n1, i32_dec, i32_cl, rd_i32, ix_i32, wr_i32, pI_s, pR_s, pC_s, pZ_0, pZ_1, Option.bind_some, ite_true, ite_false, if_true, if_false, gIL, gRI, nlt_0, l0_lt, nle_0, l0_le, neq_0, nadd_0, nmul_0, nmul'_0, nadd'_0, nsub_0, nlt_1, l1_lt, nle_1, l1_le, neq_1, nadd_1, nmul_1, nmul'_1, nadd'_1, nsub_1, nlt_2, l2_lt, nle_2, l2_le, neq_2, nadd_2, nmul_2, nmul'_2, nadd'_2, nsub_2, nlt_3, l3_lt, nle_3, l3_le, neq_3, nadd_3, nmul_3, nmul'_3, nadd'_3, nsub_3, nlt_4, l4_lt, nle_4, l4_le, neq_4, nadd_4, nmul_4, nmul'_4, nadd'_4, nsub_4, nlt_5, l5_lt, nle_5, l5_le, neq_5, nadd_5, nmul_5, nmul'_5, nadd'_5, nsub_5, nlt_6, l6_lt, nle_6, l6_le, neq_6, nadd_6, nmul_6, nmul'_6, nadd'_6, nsub_6, nlt_7, l7_lt, nle_7, l7_le, neq_7, nadd_7, nmul_7, nmul'_7, nadd'_7, nsub_7, nlt_8, l8_lt, nle_8, l8_le, neq_8, nadd_8, nmul_8, nmul'_8, nadd'_8, nsub_8, nlt_9, l9_lt, nle_9, l9_le, neq_9, nadd_9, nmul_9, nmul'_9, nadd'_9, nsub_9, nlt_10, l10_lt, nle_10, l10_le, neq_10, nadd_10, nmul_10, nmul'_10, nadd'_10, nsub_10, nlt_11, l11_lt, nle_11, l11_le, neq_11, nadd_11, nmul_11, nmul'_11, nadd'_11, nsub_11, nlt_12, l12_lt, nle_12, l12_le, neq_12, nadd_12, nmul_12, nmul'_12, nadd'_12, nsub_12, nlt_13, l13_lt, nle_13, l13_le, neq_13, nadd_13, nmul_13, nmul'_13, nadd'_13, nsub_13, nlt_20, l20_lt, nle_20, l20_le, neq_20, nadd_20, nmul_20, nmul'_20, nadd'_20, nsub_20, nlt_400, l400_lt, nle_400, l400_le, neq_400, nadd_400, nmul_400, nmul'_400, nadd'_400, nsub_400, rd_0, wr_0, rd_1, wr_1, rd_2, wr_2, rd_3, wr_3, rd_4, wr_4, rd_5, wr_5, rd_6, wr_6, rd_7, wr_7, rd_8, wr_8, rd_9, wr_9, rd_10, wr_10, rd_11, wr_11, rd_12, wr_12, e0]
    rw [if_pos (by omega)]
    exact OK_bind (MYr_step h hy) fun z1 h1 => hk z1.2 h1.1 h1.2.1 h1.2.2
  | k + 1, l, f + 1, a, hl, hf, hk => by
    have hv := h.1
    have v1 := hv.1
    have v2 := hv.2.1
    have e0 := h.2.2.2.1.1
    have e1 := h.2.2.2.1.2.1
    have hn := h.2.2.2.2.1.2.2.1
    unfold f_Model_war_37 f_Model_war_71
    simp (disch := omega) only [i32_lt, i32_le, i32_eq, i32_add, i32_mul, i32_neg, i32_nn, i32_ne1, i32_n1e, n1_lt_i32, i32_le_n1, i32_dec, i32_cl, rd_i32, ix_i32, wr_i32, pI_s, pR_s, pC_s, pZ_0, pZ_1, Option.bind_some, ite_true, ite_false, if_true, if_false, gIL, gRI, nlt_0, l0_lt, nle_0, l0_le, neq_0, nadd_0, nmul_0, nmul'_0, nadd'_0, nsub_0, nlt_1, l1_lt, nle_1, l1_le, neq_1, nadd_1, nmul_1, nmul'_1, nadd'_1, nsub_1, nlt_2, l2_lt, nle_2, l2_le, neq_2, nadd_2, nmul_2, nmul'_2, nadd'_2, nsub_2, nlt_3, l3_lt, nle_3, l3_le, neq_3, nadd_3, nmul_3, nmul'_3, nadd'_3, nsub_3, nlt_4, l4_lt, nle_4, l4_le, neq_4, nadd_4, nmul_4, nmul'_4, nadd'_4, nsub_4, nlt_5, l5_lt, nle_5, l5_le, neq_5, nadd_5, nmul_5, nmul'_5, nadd'_5, nsub_5, nlt_6, l6_lt, nle_6, l6_le, neq_6, nadd_6, nmul_6, nmul'_6, nadd'_6, nsub_6, nlt_7, l7_lt, nle_7, l7_le, neq_7, nadd_7, nmul_7, nmul'_7, nadd'_7, nsub_7, nlt_8, l8_lt, nle_8, l8_le, neq_8, nadd_8, nmul_8, nmul'_8, nadd'_8, nsub_8, nlt_9, l9_lt, nle_9, l9_le, neq_9, nadd_9, nmul_9, nmul'_9, nadd'_9, nsub_9, nlt_10, l10_lt, nle_10, l10_le, neq_10, nadd_10, nmul_10, nmul'_10, nadd'_10, nsub_10, nlt_11, l11_lt, nle_11, l11_le, neq_11, nadd_11, nmul_11, nmul'_11, nadd'_11, nsub_11, nlt_12, l12_lt, nle_12, l12_le, neq_12, nadd_12, nmul_12, nmul'_12, nadd'_12, nsub_12, nlt_13, l13_lt, nle_13, l13_le, neq_13, nadd_13, nmul_13, nmul'_13, nadd'_13, nsub_13, nlt_20, l20_lt, nle_20, l20_le, neq_20, nadd_20, nmul_20, nmul'_20, nadd'_20, nsub_20, nlt_400, l400_lt, nle_400, l400_le, neq_400, nadd_400, nmul_400, nmul'_400, nadd'_400, nsub_400, rd_0, wr_0, rd_1, wr_1, rd_2, wr_2, rd_3, wr_3, rd_4, wr_4, rd_5, wr_5, rd_6, wr_6, rd_7, wr_7, rd_8, wr_8, rd_9, wr_9, rd_10, wr_10, rd_11, wr_11, rd_12, wr_12, e0, e1]
    rw [if_neg (by omega), m_graveAt h.2.2.2.1 h.2.2.2.2.1 (by omega) (by omega)]
    simp only [Option.bind_some, eG_nn (grv_b hn)]
    rw [rmF] at hk
    by_cases c : grv n b l (y_C y - 1) = none
    · rw [if_neg (fun z => z c)]
      rw [if_pos c] at hk
      exact m_war37 h hC hy k (l + 1) f (a + 1) (by omega) (by omega) hk
    · rw [if_pos c]
      rw [if_neg c] at hk
      exact m_war37 h hC hy k (l + 1) f (a + 0) (by omega) (by omega) hk
theorem m_war29 {y : Yd} {φ : Option (List Int64 → Nat)} {n N : Nat} {M0 M1 : mM} (hK : Kp M0 M1) (hC : 0 < y_C y) (hN : N ≤ 50) (hL : y_L y ≤ 4) : ∀ (k i f yr a : Nat) (b : Nat → B) (M : mM), i + k = N → k < f → yr + k < 2147483647 → MYr y φ n yr b false M → FrL M1 M → M.2.1 436 26 = 0 → OK (f_Model_war_29 (i32 N) f (i32 a) (i32 i) M) fun z => z.1 = i32 (waF y φ n k yr b a) ∧ FrB M0 z.2 ∧ z.2.2.1 436 26 = 0
  | _, _, 0, _, _, _, _, _, hf, _, _, _, _ => absurd hf (Nat.not_lt_zero _)
  | 0, i, f + 1, yr, a, b, M, hi, hf, hy, h, hF, h26 => by
    unfold f_Model_war_29
    simp (disch := omega) only [i32_lt, i32_le, i32_eq, i32_add, i32_mul, i32_neg, i32_nn, i32_ne1, i32_n1e, n1_lt_i32, i32_le_n1, i32_dec, i32_cl, rd_i32, ix_i32, wr_i32, pI_s, pR_s, pC_s, pZ_0, pZ_1, Option.bind_some, ite_true, ite_false, if_true, if_false, gIL, gRI, nlt_0, l0_lt, nle_0, l0_le, neq_0, nadd_0, nmul_0, nmul'_0, nadd'_0, nsub_0, nlt_1, l1_lt, nle_1, l1_le, neq_1, nadd_1, nmul_1, nmul'_1, nadd'_1, nsub_1, nlt_2, l2_lt, nle_2, l2_le, neq_2, nadd_2, nmul_2, nmul'_2, nadd'_2, nsub_2, nlt_3, l3_lt, nle_3, l3_le, neq_3, nadd_3, nmul_3, nmul'_3, nadd'_3, nsub_3, nlt_4, l4_lt, nle_4, l4_le, neq_4, nadd_4, nmul_4, nmul'_4, nadd'_4, nsub_4, nlt_5, l5_lt, nle_5, l5_le, neq_5, nadd_5, nmul_5, nmul'_5, nadd'_5, nsub_5, nlt_6, l6_lt, nle_6, l6_le, neq_6, nadd_6, nmul_6, nmul'_6, nadd'_6, nsub_6, nlt_7, l7_lt, nle_7, l7_le, neq_7, nadd_7, nmul_7, nmul'_7, nadd'_7, nsub_7, nlt_8, l8_lt, nle_8, l8_le, neq_8, nadd_8, nmul_8, nmul'_8, nadd'_8, nsub_8, nlt_9, l9_lt, nle_9, l9_le, neq_9, nadd_9, nmul_9, nmul'_9, nadd'_9, nsub_9, nlt_10, l10_lt, nle_10, l10_le, neq_10, nadd_10, nmul_10, nmul'_10, nadd'_10, nsub_10, nlt_11, l11_lt, nle_11, l11_le, neq_11, nadd_11, nmul_11, nmul'_11, nadd'_11, nsub_11, nlt_12, l12_lt, nle_12, l12_le, neq_12, nadd_12, nmul_12, nmul'_12, nadd'_12, nsub_12, nlt_13, l13_lt, nle_13, l13_le, neq_13, nadd_13, nmul_13, nmul'_13, nadd'_13, nsub_13, nlt_20, l20_lt, nle_20, l20_le, neq_20, nadd_20, nmul_20, nmul'_20, nadd'_20, nsub_20, nlt_400, l400_lt, nle_400, l400_le, neq_400, nadd_400, nmul_400, nmul'_400, nadd'_400, nsub_400, rd_0, wr_0, rd_1, wr_1, rd_2, wr_2, rd_3, wr_3, rd_4, wr_4, rd_5, wr_5, rd_6, wr_6, rd_7, wr_7, rd_8, wr_8, rd_9, wr_9, rd_10, wr_10, rd_11, wr_11, rd_12, wr_12]
    rw [if_pos (by omega)]
    exact OK_bind (m_lay hK hF) fun M3 h3 => OK_some ⟨rfl, h3.1, by rw [h3.2.1]; exact h26⟩
  | k + 1, i, f + 1, yr, a, b, M, hi, hf, hy, h, hF, h26 => by
    unfold f_Model_war_29
    rw [if_neg (by rw [i32_le (by omega) (by omega)]; omega)]
    refine m_war37 h hC (by omega) (y_L y) 0 FUEL a (Nat.zero_add _) (by rw [FUEL_eq]; omega) fun M2 h1 h2 h3 => ?_
    exact m_war29 hK hC hN hL k (i + 1) f (yr + 1) _ _ M2 (by omega) (by omega) (by omega) h1 (FrL_trans hF h2) h3
theorem m_isYard {y : Yd} {M : mM} (h0 : M.2.1 446 0 = i32 (y_L y)) (hv : VY y) : f_Model_isYard M = some (if 0 < y_L y then 1 else 0, M) := by
  have v1 := hv.1
  unfold f_Model_isYard
  simp (disch := omega) only [i32_lt, i32_le, i32_eq, i32_add, i32_mul, i32_neg, i32_nn, i32_ne1, i32_n1e, n1_lt_i32, i32_le_n1, i32_dec, i32_cl, rd_i32, ix_i32, wr_i32, pI_s, pR_s, pC_s, pZ_0, pZ_1, Option.bind_some, ite_true, ite_false, if_true, if_false, gIL, gRI, nlt_0, l0_lt, nle_0, l0_le, neq_0, nadd_0, nmul_0, nmul'_0, nadd'_0, nsub_0, nlt_1, l1_lt, nle_1, l1_le, neq_1, nadd_1, nmul_1, nmul'_1, nadd'_1, nsub_1, nlt_2, l2_lt, nle_2, l2_le, neq_2, nadd_2, nmul_2, nmul'_2, nadd'_2, nsub_2, nlt_3, l3_lt, nle_3, l3_le, neq_3, nadd_3, nmul_3, nmul'_3, nadd'_3, nsub_3, nlt_4, l4_lt, nle_4, l4_le, neq_4, nadd_4, nmul_4, nmul'_4, nadd'_4, nsub_4, nlt_5, l5_lt, nle_5, l5_le, neq_5, nadd_5, nmul_5, nmul'_5, nadd'_5, nsub_5, nlt_6, l6_lt, nle_6, l6_le, neq_6, nadd_6, nmul_6, nmul'_6, nadd'_6, nsub_6, nlt_7, l7_lt, nle_7, l7_le, neq_7, nadd_7, nmul_7, nmul'_7, nadd'_7, nsub_7, nlt_8, l8_lt, nle_8, l8_le, neq_8, nadd_8, nmul_8, nmul'_8, nadd'_8, nsub_8, nlt_9, l9_lt, nle_9, l9_le, neq_9, nadd_9, nmul_9, nmul'_9, nadd'_9, nsub_9, nlt_10, l10_lt, nle_10, l10_le, neq_10, nadd_10, nmul_10, nmul'_10, nadd'_10, nsub_10, nlt_11, l11_lt, nle_11, l11_le, neq_11, nadd_11, nmul_11, nmul'_11, nadd'_11, nsub_11, nlt_12, l12_lt, nle_12, l12_le, neq_12, nadd_12, nmul_12, nmul'_12, nadd'_12, nsub_12, nlt_13, l13_lt, nle_13, l13_le, neq_13, nadd_13, nmul_13, nmul'_13, nadd'_13, nsub_13, nlt_20, l20_lt, nle_20, l20_le, neq_20, nadd_20, nmul_20, nmul'_20, nadd'_20, nsub_20, nlt_400, l400_lt, nle_400, l400_le, neq_400, nadd_400, nmul_400, nmul'_400, nadd'_400, nsub_400, rd_0, wr_0, rd_1, wr_1, rd_2, wr_2, rd_3, wr_3, rd_4, wr_4, rd_5, wr_5, rd_6, wr_6, rd_7, wr_7, rd_8, wr_8, rd_9, wr_9, rd_10, wr_10, rd_11, wr_11, rd_12, wr_12, h0]
  by_cases c : 0 < y_L y
  · rw [if_neg (by omega), if_pos c]
  · rw [if_pos (by omega), if_neg c]
theorem bnd1 {M : mM} {A C : Int32 × mM → Option (Int32 × mM)} : ((some ((1 : Int32), M)).bind fun r => if r.1 = 0 then A r else C r) = C (1, M) := by
  rw [Option.bind_some, if_neg (show ¬ ((1 : Int32), M).1 = 0 from d10.mp)]
theorem bnd0 {M : mM} {A C : Int32 × mM → Option (Int32 × mM)} : ((some ((0 : Int32), M)).bind fun r => if r.1 = 0 then A r else C r) = A (0, M) := by
  rw [Option.bind_some, if_pos (show ((0 : Int32), M).1 = 0 from rfl)]
theorem both_war {x1 : Int32} {M : mM} (hi : Inv M) : Both (f_GraveRails_war x1) (f_Model_war x1) M := by
  have hi' := hi
  obtain ⟨g, hg, hc, hm⟩ := hi
  have hv := hg.1.1
  have hy := hg.1.2.1.2.2.2.2.1
  by_cases hL : 0 < y_L g.1.1
  · have ct := c_isTold hc.1.1 hv
    have mt := m_isYard hm.1.1.1.1 hv
    rw [if_pos hL] at ct mt
    rcases i32_cases x1 with h1 | ⟨N, h1, rfl⟩
    · refine both_pure hi' ⟨-1, ?_, ?_⟩
      · unfold f_GraveRails_war
        rw [ct]
        simp only [Option.bind_some, d10, if_false]
        rw [if_pos (show x1 < 1 from lt_neg h1 (k := 1) (by omega))]
      · unfold f_Model_war
        rw [mt]
        simp only [Option.bind_some, d10, if_false]
        rw [m_inN (lo := 1) (hi := 50) h1 (by omega)]
        exact bnd (if_pos rfl)
    · by_cases hN : 1 ≤ N ∧ N ≤ 50
      · refine both_ask (v := i32 (waF g.1.1 (phi g.1.2.2.2.1 g.2.2.1.2) g.1.2.1.2.1 N g.1.2.1.1 g.1.2.1.2.2.1 0)) hg hc hm ?_ fun M' hc' hm' => ?_
        · unfold f_GraveRails_war
          rw [ct]
          simp only [Option.bind_some, d10, if_false]
          rw [if_neg (by rw [show (1 : Int32) = i32 1 from rfl, i32_lt h1 (by omega)]; omega), if_pos (by rw [show (50 : Int32) = i32 50 from rfl, i32_le h1 (by omega)]; omega)]
          refine OK_bind (c_sfn hg hc) fun M1 q => ?_
          have v12 := hv.2.2.2.2.2.2.2.2.2.2.2 hL
          refine OK_imp (c_war34 (by omega) hN.2 hv.1 N 0 FUEL _ 0 _ M1 (by omega) (by rw [FUEL_eq]; omega) (by omega) ⟨⟨_, _, q.1⟩, q.2.1⟩) fun z hz => ?_
          have := Sm_trans q.2.2.2 (Sm_Y hz.2)
          exact ⟨hz.1, RC_Sm hg hc this, Sm_le this (by omega) (by omega)⟩
        · have mt' := m_isYard hm'.1.1.1.1 hv
          rw [if_pos hL] at mt'
          unfold f_Model_war
          rw [mt']
          simp only [Option.bind_some, d10, if_false]
          rw [m_inY (lo := 1) (hi := 50) hN (by omega), bnd1]
          dsimp only
          have v12 := hv.2.2.2.2.2.2.2.2.2.2.2 hL
          refine OK_bind (m_begin hg hm' hL) fun M1 q => ?_
          refine OK_imp (m_war29 q.1 (by omega) hN.2 hv.1 N 0 FUEL _ 0 _ M1 (by omega) (by rw [FUEL_eq]; omega) (by omega) q.2.1 (FrL_refl _) q.2.2) fun z hz => ?_
          exact ⟨hz.1, FrN_B hz.2.1 (hz.2.2.trans hm'.2.2.2.1.symm)⟩
      · refine both_pure hi' ⟨-1, ?_, ?_⟩
        · unfold f_GraveRails_war
          rw [ct]
          simp only [Option.bind_some, d10, if_false]
          by_cases q : N < 1
          · rw [if_pos (by rw [show (1 : Int32) = i32 1 from rfl, i32_lt h1 (by omega)]; exact q)]
          · rw [if_neg (by rw [show (1 : Int32) = i32 1 from rfl, i32_lt h1 (by omega)]; exact q), if_neg (by rw [show (50 : Int32) = i32 50 from rfl, i32_le h1 (by omega)]; omega)]
        · unfold f_Model_war
          rw [mt]
          simp only [Option.bind_some, d10, if_false]
          rw [m_inX (lo := 1) (hi := 50) h1 hN (by omega) (by omega)]
          exact bnd (if_pos rfl)
  · have ct := c_isTold hc.1.1 hv
    have mt := m_isYard hm.1.1.1.1 hv
    rw [if_neg hL] at ct mt
    refine both_pure hi' ⟨-1, ?_, ?_⟩
    · unfold f_GraveRails_war
      rw [ct]
      exact bnd (if_pos rfl)
    · unfold f_Model_war
      rw [mt]
      exact bnd (if_pos rfl)
/-! order: who falls are graves -/
def Fl (n : Nat) (P : List Nat) : Prop := ∀ x, x ∈ P → x < n
theorem Fl_app {n : Nat} {P : List Nat} {g : Nat} (h : Fl n P) (hg : g < n) : Fl n (P ++ [g]) := fun x hx => by
  rcases List.mem_append.mp hx with q | q
  · exact h x q
  · rw [List.mem_singleton.mp q]; exact hg
theorem Fl_goS {y : Yd} {n yr : Nat} {r : R} {g : Nat} (h : Fl n r.2) (hg : g < n) : Fl n (goS y n yr r g).2.2 := by
  unfold goS
  cases h0 : (r.1 g).1 with
  | none => exact h
  | some p =>
    obtain ⟨l, c⟩ := p
    cases c with
    | zero => exact Fl_app h hg
    | succ c =>
      simp only
      cases h1 : grv n r.1 l c with
      | none => exact h
      | some o =>
        simp only
        cases h2 : side y n r.1 o l c with
        | none => exact h
        | some l' => exact h
theorem Fl_runs {y : Yd} {n yr g : Nat} (hg : g < n) : ∀ (k : Nat) (r : R), Fl n r.2 → Fl n (runs y n yr g k r).2
  | 0, r, h => h
  | k + 1, r, h => by
    rw [runs]
    split
    · exact Fl_runs hg k _ (Fl_goS h hg)
    · exact Fl_goS h hg
theorem Fl_trn {y : Yd} {φ : Option (List Int64 → Nat)} {n yr : Nat} {fl : Bool} {r : R} {g : Nat} (h : Fl n r.2) (hg : g < n) : Fl n (trn y φ n yr fl r g).2 := by
  unfold trn
  cases h0 : (r.1 g).1 with
  | none => exact h
  | some p =>
    obtain ⟨l, c⟩ := p
    simp only
    split
    · exact h
    · split
      · exact h
      · split
        · exact h
        · exact Fl_runs hg _ _ h
theorem Fl_trns {y : Yd} {φ : Option (List Int64 → Nat)} {n yr : Nat} {fl : Bool} : ∀ (Q : List Nat) (r : R), Fl n r.2 → (∀ a, a ∈ Q → a < n) → Fl n (Q.foldl (trn y φ n yr fl) r).2
  | [], r, h, _ => h
  | a :: Q, r, h, hq => Fl_trns Q _ (Fl_trn h (hq a List.mem_cons_self)) fun x hx => hq x (List.mem_cons_of_mem _ hx)
theorem Fl_fld {n yr : Nat} : ∀ (Q : List Nat) (r : R) (k : Nat), Fl n r.2 → (∀ a, a ∈ Q → a < n) → Fl n (fld yr Q r k).1.2
  | [], r, k, h, _ => h
  | a :: Q, r, k, h, hq => by
    unfold fld
    cases h0 : (r.1 a).1 with
    | none => exact Fl_fld Q r k h fun x hx => hq x (List.mem_cons_of_mem _ hx)
    | some p =>
      simp only
      split
      · exact Fl_fld Q _ _ (Fl_app h (hq a List.mem_cons_self)) fun x hx => hq x (List.mem_cons_of_mem _ hx)
      · exact Fl_fld Q r k h fun x hx => hq x (List.mem_cons_of_mem _ hx)
theorem Fl_yF (y : Yd) (φ : Option (List Int64 → Nat)) (n yr : Nat) (fl : Bool) (b : Nat → B) : Fl n (yF y φ n yr fl b) := by
  have h0 : Fl n ((b, []) : R).2 := fun x hx => by cases hx
  unfold yF yea
  cases fl with
  | false => exact Fl_trns (ord b n) (b, []) h0 fun a ha => (ord_mem.mp ha).1
  | true => exact Fl_trns _ _ (Fl_fld (ord b n) (b, []) 0 h0 fun a ha => (ord_mem.mp ha).1) fun a ha => (ord_mem.mp ha).1
def orF (y : Yd) (φ : Option (List Int64 → Nat)) (n x : Nat) : Nat → Nat → (Nat → B) → List Nat → Int32
  | 0, _, _, P => if x < P.length then i32 (P.getD x 0) else -2
  | k + 1, yr, b, P => if x < P.length then i32 (P.getD x 0) else orF y φ n x k (yr + 1) (yB y φ n yr (flo y yr) b) (P ++ yF y φ n yr (flo y yr) b)
theorem c_ord56 {y : Yd} {Yp : Nat} {ru : Option Nat} {φ : Option (List Int64 → Nat)} {n yr x k : Nat} {b : Nat → B} {P : List Nat} {M : mM} (h : CQ y Yp ru φ n yr b P k M) (hx : x < 2147483648) : f_GraveRails_order_56 (i32 x) M = some (if x < P.length then i32 (P.getD x 0) else -2, M) := by
  have hn := h.2.1.2.1.2.2.1
  have hl := h.2.1.2.2.2.1
  have hf := fMany_le (b := b) (n := n)
  have hl' : P.length ≤ fMany b n := hl
  have e2 : M.2.1 246 2 = i32 P.length := h.2.1.2.2.1
  unfold f_GraveRails_order_56
  simp (disch := omega) only [i32_lt, i32_le, i32_eq, i32_add, i32_mul, i32_neg, i32_nn, i32_ne1, i32_n1e, n1_lt_i32, i32_le_n1, i32_dec, i32_cl, rd_i32, ix_i32, wr_i32, pI_s, pR_s, pC_s, pZ_0, pZ_1, Option.bind_some, ite_true, ite_false, if_true, if_false, gIL, gRI, nlt_0, l0_lt, nle_0, l0_le, neq_0, nadd_0, nmul_0, nmul'_0, nadd'_0, nsub_0, nlt_1, l1_lt, nle_1, l1_le, neq_1, nadd_1, nmul_1, nmul'_1, nadd'_1, nsub_1, nlt_2, l2_lt, nle_2, l2_le, neq_2, nadd_2, nmul_2, nmul'_2, nadd'_2, nsub_2, nlt_3, l3_lt, nle_3, l3_le, neq_3, nadd_3, nmul_3, nmul'_3, nadd'_3, nsub_3, nlt_4, l4_lt, nle_4, l4_le, neq_4, nadd_4, nmul_4, nmul'_4, nadd'_4, nsub_4, nlt_5, l5_lt, nle_5, l5_le, neq_5, nadd_5, nmul_5, nmul'_5, nadd'_5, nsub_5, nlt_6, l6_lt, nle_6, l6_le, neq_6, nadd_6, nmul_6, nmul'_6, nadd'_6, nsub_6, nlt_7, l7_lt, nle_7, l7_le, neq_7, nadd_7, nmul_7, nmul'_7, nadd'_7, nsub_7, nlt_8, l8_lt, nle_8, l8_le, neq_8, nadd_8, nmul_8, nmul'_8, nadd'_8, nsub_8, nlt_9, l9_lt, nle_9, l9_le, neq_9, nadd_9, nmul_9, nmul'_9, nadd'_9, nsub_9, nlt_10, l10_lt, nle_10, l10_le, neq_10, nadd_10, nmul_10, nmul'_10, nadd'_10, nsub_10, nlt_11, l11_lt, nle_11, l11_le, neq_11, nadd_11, nmul_11, nmul'_11, nadd'_11, nsub_11, nlt_12, l12_lt, nle_12, l12_le, neq_12, nadd_12, nmul_12, nmul'_12, nadd'_12, nsub_12, nlt_13, l13_lt, nle_13, l13_le, neq_13, nadd_13, nmul_13, nmul'_13, nadd'_13, nsub_13, nlt_20, l20_lt, nle_20, l20_le, neq_20, nadd_20, nmul_20, nmul'_20, nadd'_20, nsub_20, nlt_400, l400_lt, nle_400, l400_le, neq_400, nadd_400, nmul_400, nmul'_400, nadd'_400, nsub_400, rd_0, wr_0, rd_1, wr_1, rd_2, wr_2, rd_3, wr_3, rd_4, wr_4, rd_5, wr_5, rd_6, wr_6, rd_7, wr_7, rd_8, wr_8, rd_9, wr_9, rd_10, wr_10, rd_11, wr_11, rd_12, wr_12, e2]
  by_cases c : x < P.length
  · rw [if_neg (by omega), if_neg (by omega), if_pos c]
    have : M.2.1 257 x = i32 (P.getD x 0) := h.2.1.2.2.2.2 x c
    rw [this]
  · rw [if_pos (by omega), if_neg c]
theorem c_ord25 {y : Yd} {Yp : Nat} {ru : Option Nat} {φ : Option (List Int64 → Nat)} {n x : Nat} (hx : x < 2147483648) : ∀ (k i f yr : Nat) (b : Nat → B) (P : List Nat) (kk : Nat) (M : mM), i + k = 200 → k < f → yr + k < 2147483647 → CQ y Yp ru φ n yr b P kk M → M.2.1 246 4 = 0 → OK (f_GraveRails_order_25 (i32 x) f (i32 i) M) fun z => z.1 = orF y φ n x k yr b P ∧ FrY M z.2
  | _, _, 0, _, _, _, _, _, _, hf, _, _, _ => absurd hf (Nat.not_lt_zero _)
  | 0, i, f + 1, yr, b, P, kk, M, hi, hf, hy, h, h4 => by
    unfold f_GraveRails_order_25
    simp (disch := omega) only [i32_lt, i32_le, i32_eq, i32_add, i32_mul, i32_neg, i32_nn, i32_ne1, i32_n1e, n1_lt_i32, i32_le_n1, i32_dec, i32_cl, rd_i32, ix_i32, wr_i32, pI_s, pR_s, pC_s, pZ_0, pZ_1, Option.bind_some, ite_true, ite_false, if_true, if_false, gIL, gRI, nlt_0, l0_lt, nle_0, l0_le, neq_0, nadd_0, nmul_0, nmul'_0, nadd'_0, nsub_0, nlt_1, l1_lt, nle_1, l1_le, neq_1, nadd_1, nmul_1, nmul'_1, nadd'_1, nsub_1, nlt_2, l2_lt, nle_2, l2_le, neq_2, nadd_2, nmul_2, nmul'_2, nadd'_2, nsub_2, nlt_3, l3_lt, nle_3, l3_le, neq_3, nadd_3, nmul_3, nmul'_3, nadd'_3, nsub_3, nlt_4, l4_lt, nle_4, l4_le, neq_4, nadd_4, nmul_4, nmul'_4, nadd'_4, nsub_4, nlt_5, l5_lt, nle_5, l5_le, neq_5, nadd_5, nmul_5, nmul'_5, nadd'_5, nsub_5, nlt_6, l6_lt, nle_6, l6_le, neq_6, nadd_6, nmul_6, nmul'_6, nadd'_6, nsub_6, nlt_7, l7_lt, nle_7, l7_le, neq_7, nadd_7, nmul_7, nmul'_7, nadd'_7, nsub_7, nlt_8, l8_lt, nle_8, l8_le, neq_8, nadd_8, nmul_8, nmul'_8, nadd'_8, nsub_8, nlt_9, l9_lt, nle_9, l9_le, neq_9, nadd_9, nmul_9, nmul'_9, nadd'_9, nsub_9, nlt_10, l10_lt, nle_10, l10_le, neq_10, nadd_10, nmul_10, nmul'_10, nadd'_10, nsub_10, nlt_11, l11_lt, nle_11, l11_le, neq_11, nadd_11, nmul_11, nmul'_11, nadd'_11, nsub_11, nlt_12, l12_lt, nle_12, l12_le, neq_12, nadd_12, nmul_12, nmul'_12, nadd'_12, nsub_12, nlt_13, l13_lt, nle_13, l13_le, neq_13, nadd_13, nmul_13, nmul'_13, nadd'_13, nsub_13, nlt_20, l20_lt, nle_20, l20_le, neq_20, nadd_20, nmul_20, nmul'_20, nadd'_20, nsub_20, nlt_400, l400_lt, nle_400, l400_le, neq_400, nadd_400, nmul_400, nmul'_400, nadd'_400, nsub_400, rd_0, wr_0, rd_1, wr_1, rd_2, wr_2, rd_3, wr_3, rd_4, wr_4, rd_5, wr_5, rd_6, wr_6, rd_7, wr_7, rd_8, wr_8, rd_9, wr_9, rd_10, wr_10, rd_11, wr_11, rd_12, wr_12, nlt_200, l200_lt, nle_200, l200_le, neq_200, nadd_200, nmul_200, nmul'_200, nadd'_200, nsub_200]
    rw [if_pos (by omega), c_ord56 h hx]
    exact OK_some ⟨rfl, FrY_refl M⟩
  | k + 1, i, f + 1, yr, b, P, kk, M, hi, hf, hy, h, h4 => by
    have hn := h.2.1.2.1.2.2.1
    have hl' : P.length ≤ fMany b n := h.2.1.2.2.2.1
    have hfm := fMany_le (b := b) (n := n)
    have e2 : M.2.1 246 2 = i32 P.length := h.2.1.2.2.1
    unfold f_GraveRails_order_25
    simp (disch := omega) only [i32_lt, i32_le, i32_eq, i32_add, i32_mul, i32_neg, i32_nn, i32_ne1, i32_n1e, n1_lt_i32, i32_le_n1, i32_dec, i32_cl, rd_i32, ix_i32, wr_i32, pI_s, pR_s, pC_s, pZ_0, pZ_1, Option.bind_some, ite_true, ite_false, if_true, if_false, gIL, gRI, nlt_0, l0_lt, nle_0, l0_le, neq_0, nadd_0, nmul_0, nmul'_0, nadd'_0, nsub_0, nlt_1, l1_lt, nle_1, l1_le, neq_1, nadd_1, nmul_1, nmul'_1, nadd'_1, nsub_1, nlt_2, l2_lt, nle_2, l2_le, neq_2, nadd_2, nmul_2, nmul'_2, nadd'_2, nsub_2, nlt_3, l3_lt, nle_3, l3_le, neq_3, nadd_3, nmul_3, nmul'_3, nadd'_3, nsub_3, nlt_4, l4_lt, nle_4, l4_le, neq_4, nadd_4, nmul_4, nmul'_4, nadd'_4, nsub_4, nlt_5, l5_lt, nle_5, l5_le, neq_5, nadd_5, nmul_5, nmul'_5, nadd'_5, nsub_5, nlt_6, l6_lt, nle_6, l6_le, neq_6, nadd_6, nmul_6, nmul'_6, nadd'_6, nsub_6, nlt_7, l7_lt, nle_7, l7_le, neq_7, nadd_7, nmul_7, nmul'_7, nadd'_7, nsub_7, nlt_8, l8_lt, nle_8, l8_le, neq_8, nadd_8, nmul_8, nmul'_8, nadd'_8, nsub_8, nlt_9, l9_lt, nle_9, l9_le, neq_9, nadd_9, nmul_9, nmul'_9, nadd'_9, nsub_9, nlt_10, l10_lt, nle_10, l10_le, neq_10, nadd_10, nmul_10, nmul'_10, nadd'_10, nsub_10, nlt_11, l11_lt, nle_11, l11_le, neq_11, nadd_11, nmul_11, nmul'_11, nadd'_11, nsub_11, nlt_12, l12_lt, nle_12, l12_le, neq_12, nadd_12, nmul_12, nmul'_12, nadd'_12, nsub_12, nlt_13, l13_lt, nle_13, l13_le, neq_13, nadd_13, nmul_13, nmul'_13, nadd'_13, nsub_13, nlt_20, l20_lt, nle_20, l20_le, neq_20, nadd_20, nmul_20, nmul'_20, nadd'_20, nsub_20, nlt_400, l400_lt, nle_400, l400_le, neq_400, nadd_400, nmul_400, nmul'_400, nadd'_400, nsub_400, rd_0, wr_0, rd_1, wr_1, rd_2, wr_2, rd_3, wr_3, rd_4, wr_4, rd_5, wr_5, rd_6, wr_6, rd_7, wr_7, rd_8, wr_8, rd_9, wr_9, rd_10, wr_10, rd_11, wr_11, rd_12, wr_12, nlt_200, l200_lt, nle_200, l200_le, neq_200, nadd_200, nmul_200, nmul'_200, nadd'_200, nsub_200, e2]
    rw [if_neg (by omega), orF]
    by_cases c : x < P.length
    · rw [if_pos c, if_pos c, c_ord56 h hx, if_pos c]
      exact OK_some ⟨rfl, FrY_refl M⟩
    · rw [if_neg c, if_neg c]
      refine OK_bind (CQ_year h (dr := false) h4 (by omega)) fun M1 h1 => ?_
      rw [Bool.false_or] at h1
      exact OK_imp (c_ord25 hx k (i + 1) f (yr + 1) _ _ _ M1 (by omega) (by omega) (by omega) h1.1 (h1.2.2.2.trans h4)) fun z hz => ⟨hz.1, FrY_trans h1.2 hz.2⟩
theorem getD_app {P Q : List Nat} {x : Nat} (h : ¬ x < P.length) : (P ++ Q).getD x 0 = Q.getD (x - P.length) 0 := by
  rw [List.getD_eq_getElem?_getD, List.getD_eq_getElem?_getD, List.getElem?_append_right (by omega)]
theorem m_ord25 {y : Yd} {φ : Option (List Int64 → Nat)} {n x : Nat} {M0 M1 : mM} (hK : Kp M0 M1) (hx : x < 2147483648) : ∀ (k i f yr : Nat) (b : Nat → B) (P : List Nat) (M : mM), i + k = 200 → k + 1 < f → yr + k < 2147483647 → P.length ≤ 11 * i → ¬ x < P.length → MYr y φ n yr b false M → FrL M1 M → M.2.1 436 26 = 0 → OK (f_Model_order_25 (i32 x) f (-2) (i32 P.length) (i32 i) M) fun z => z.1 = orF y φ n x k yr b P ∧ FrB M0 z.2 ∧ z.2.2.1 436 26 = 0
  | _, _, 0, _, _, _, _, _, hf, _, _, _, _, _, _ => absurd hf (Nat.not_lt_zero _)
  | 0, i, f + 1, yr, b, P, M, hi, hf, hy, hP, hxP, h, hF, h26 => by
    unfold f_Model_order_25 f_Model_order_74
    simp (disch := omega) only [i32_lt, i32_le, i32_eq, i32_add, i32_mul, i32_neg, i32_nn, i32_ne1, i32_n1e, n1_lt_i32, i32_le_n1, i32_dec, i32_cl, rd_i32, ix_i32, wr_i32, pI_s, pR_s, pC_s, pZ_0, pZ_1, Option.bind_some, ite_true, ite_false, if_true, if_false, gIL, gRI, nlt_0, l0_lt, nle_0, l0_le, neq_0, nadd_0, nmul_0, nmul'_0, nadd'_0, nsub_0, nlt_1, l1_lt, nle_1, l1_le, neq_1, nadd_1, nmul_1, nmul'_1, nadd'_1, nsub_1, nlt_2, l2_lt, nle_2, l2_le, neq_2, nadd_2, nmul_2, nmul'_2, nadd'_2, nsub_2, nlt_3, l3_lt, nle_3, l3_le, neq_3, nadd_3, nmul_3, nmul'_3, nadd'_3, nsub_3, nlt_4, l4_lt, nle_4, l4_le, neq_4, nadd_4, nmul_4, nmul'_4, nadd'_4, nsub_4, nlt_5, l5_lt, nle_5, l5_le, neq_5, nadd_5, nmul_5, nmul'_5, nadd'_5, nsub_5, nlt_6, l6_lt, nle_6, l6_le, neq_6, nadd_6, nmul_6, nmul'_6, nadd'_6, nsub_6, nlt_7, l7_lt, nle_7, l7_le, neq_7, nadd_7, nmul_7, nmul'_7, nadd'_7, nsub_7, nlt_8, l8_lt, nle_8, l8_le, neq_8, nadd_8, nmul_8, nmul'_8, nadd'_8, nsub_8, nlt_9, l9_lt, nle_9, l9_le, neq_9, nadd_9, nmul_9, nmul'_9, nadd'_9, nsub_9, nlt_10, l10_lt, nle_10, l10_le, neq_10, nadd_10, nmul_10, nmul'_10, nadd'_10, nsub_10, nlt_11, l11_lt, nle_11, l11_le, neq_11, nadd_11, nmul_11, nmul'_11, nadd'_11, nsub_11, nlt_12, l12_lt, nle_12, l12_le, neq_12, nadd_12, nmul_12, nmul'_12, nadd'_12, nsub_12, nlt_13, l13_lt, nle_13, l13_le, neq_13, nadd_13, nmul_13, nmul'_13, nadd'_13, nsub_13, nlt_20, l20_lt, nle_20, l20_le, neq_20, nadd_20, nmul_20, nmul'_20, nadd'_20, nsub_20, nlt_400, l400_lt, nle_400, l400_le, neq_400, nadd_400, nmul_400, nmul'_400, nadd'_400, nsub_400, rd_0, wr_0, rd_1, wr_1, rd_2, wr_2, rd_3, wr_3, rd_4, wr_4, rd_5, wr_5, rd_6, wr_6, rd_7, wr_7, rd_8, wr_8, rd_9, wr_9, rd_10, wr_10, rd_11, wr_11, rd_12, wr_12, nlt_200, l200_lt, nle_200, l200_le, neq_200, nadd_200, nmul_200, nmul'_200, nadd'_200, nsub_200]
    rw [if_pos (by omega), orF, if_neg hxP]
    exact OK_bind (m_lay hK hF) fun M3 h3 => OK_some ⟨rfl, h3.1, by rw [h3.2.1]; exact h26⟩
  | k + 1, i, f + 1, yr, b, P, M, hi, hf, hy, hP, hxP, h, hF, h26 => by
    unfold f_Model_order_25
    simp (disch := omega) only [i32_lt, i32_le, i32_eq, i32_add, i32_mul, i32_neg, i32_nn, i32_ne1, i32_n1e, n1_lt_i32, i32_le_n1, i32_dec, i32_cl, rd_i32, ix_i32, wr_i32, pI_s, pR_s, pC_s, pZ_0, pZ_1, Option.bind_some, ite_true, ite_false, if_true, if_false, gIL, gRI, nlt_0, l0_lt, nle_0, l0_le, neq_0, nadd_0, nmul_0, nmul'_0, nadd'_0, nsub_0, nlt_1, l1_lt, nle_1, l1_le, neq_1, nadd_1, nmul_1, nmul'_1, nadd'_1, nsub_1, nlt_2, l2_lt, nle_2, l2_le, neq_2, nadd_2, nmul_2, nmul'_2, nadd'_2, nsub_2, nlt_3, l3_lt, nle_3, l3_le, neq_3, nadd_3, nmul_3, nmul'_3, nadd'_3, nsub_3, nlt_4, l4_lt, nle_4, l4_le, neq_4, nadd_4, nmul_4, nmul'_4, nadd'_4, nsub_4, nlt_5, l5_lt, nle_5, l5_le, neq_5, nadd_5, nmul_5, nmul'_5, nadd'_5, nsub_5, nlt_6, l6_lt, nle_6, l6_le, neq_6, nadd_6, nmul_6, nmul'_6, nadd'_6, nsub_6, nlt_7, l7_lt, nle_7, l7_le, neq_7, nadd_7, nmul_7, nmul'_7, nadd'_7, nsub_7, nlt_8, l8_lt, nle_8, l8_le, neq_8, nadd_8, nmul_8, nmul'_8, nadd'_8, nsub_8, nlt_9, l9_lt, nle_9, l9_le, neq_9, nadd_9, nmul_9, nmul'_9, nadd'_9, nsub_9, nlt_10, l10_lt, nle_10, l10_le, neq_10, nadd_10, nmul_10, nmul'_10, nadd'_10, nsub_10, nlt_11, l11_lt, nle_11, l11_le, neq_11, nadd_11, nmul_11, nmul'_11, nadd'_11, nsub_11, nlt_12, l12_lt, nle_12, l12_le, neq_12, nadd_12, nmul_12, nmul'_12, nadd'_12, nsub_12, nlt_13, l13_lt, nle_13, l13_le, neq_13, nadd_13, nmul_13, nmul'_13, nadd'_13, nsub_13, nlt_20, l20_lt, nle_20, l20_le, neq_20, nadd_20, nmul_20, nmul'_20, nadd'_20, nsub_20, nlt_400, l400_lt, nle_400, l400_le, neq_400, nadd_400, nmul_400, nmul'_400, nadd'_400, nsub_400, rd_0, wr_0, rd_1, wr_1, rd_2, wr_2, rd_3, wr_3, rd_4, wr_4, rd_5, wr_5, rd_6, wr_6, rd_7, wr_7, rd_8, wr_8, rd_9, wr_9, rd_10, wr_10, rd_11, wr_11, rd_12, wr_12, nlt_200, l200_lt, nle_200, l200_le, neq_200, nadd_200, nmul_200, nmul'_200, nadd'_200, nsub_200]
    rw [if_neg (by omega), if_neg (by decide), orF, if_neg hxP]
    refine OK_bind (MYr_year h (by omega)) fun z1 h1 => ?_
    rw [Bool.false_or] at h1
    obtain ⟨p1, p2, p3, p4, p5, p6, hlen⟩ := h1
    have hFl := Fl_yF y φ n yr (flo y yr) b
    have hn := h.2.2.2.2.1.2.2.1
    have z26 : z1.2.2.1 436 26 = 0 := p2.2.2.2.2.2.1.2
    have hF1 := FrL_trans hF (FrL_P p3)
    simp only [p5, i32_add, i32_le (show P.length + (yF y φ n yr (flo y yr) b).length < 2147483648 by omega) hx]
    by_cases c : x < P.length + (yF y φ n yr (flo y yr) b).length
    · rw [if_neg (by omega), i32_sub (by omega), rd_i32 (by omega) (by omega), p6 _ (by omega)]
      simp only [Option.bind_some]
      unfold f_Model_order_61
      have hlt : (yF y φ n yr (flo y yr) b).getD (x - P.length) 0 < n := by
        rw [List.getD_eq_getElem?_getD, List.getElem?_eq_getElem (by omega)]
        exact hFl _ (List.getElem_mem _)
      have e : orF y φ n x k (yr + 1) (yB y φ n yr (flo y yr) b) (P ++ yF y φ n yr (flo y yr) b) = i32 ((yF y φ n yr (flo y yr) b).getD (x - P.length) 0) := by
        have hc : x < (P ++ yF y φ n yr (flo y yr) b).length := by rw [List.length_append]; exact c
        cases k with
        | zero => rw [orF, if_pos hc, getD_app hxP]
        | succ k => rw [orF, if_pos hc, getD_app hxP]
      rw [e]
      cases f with
      | zero => omega
      | succ f =>
        unfold f_Model_order_25 f_Model_order_74
        have fin : OK ((f_Model_laysBack z1.2).bind fun M6 => some (i32 ((yF y φ n yr (flo y yr) b).getD (x - P.length) 0), M6)) fun z => z.1 = i32 ((yF y φ n yr (flo y yr) b).getD (x - P.length) 0) ∧ FrB M0 z.2 ∧ z.2.2.1 436 26 = 0 := OK_bind (m_lay hK hF1) fun M3 h3 => OK_some ⟨rfl, h3.1, by rw [h3.2.1]; exact z26⟩
        split
        · exact fin
        · rw [if_pos ((i32_nn (by omega)).mpr trivial)]
          exact fin
    · rw [if_pos (by omega)]
      unfold f_Model_order_61
      rw [p5, i32_add, nadd_1, ← List.length_append]
      exact m_ord25 hK hx k (i + 1) f (yr + 1) _ _ z1.2 (by omega) (by omega) (by omega) (by rw [List.length_append]; omega) (by rw [List.length_append]; exact c) p2 hF1 z26
theorem both_order {x1 : Int32} {M : mM} (hi : Inv M) : Both (f_GraveRails_order x1) (f_Model_order x1) M := by
  have hi' := hi
  obtain ⟨g, hg, hc, hm⟩ := hi
  have hv := hg.1.1
  have hy := hg.1.2.1.2.2.2.2.1
  by_cases hL : 0 < y_L g.1.1
  · have ct := c_isTold hc.1.1 hv
    have mt := m_isYard hm.1.1.1.1 hv
    rw [if_pos hL] at ct mt
    rcases i32_cases x1 with h1 | ⟨x, h1, rfl⟩
    · refine both_pure hi' ⟨-1, ?_, ?_⟩
      · unfold f_GraveRails_order
        rw [ct, bnd1]
        exact if_neg (Int32.not_le.mpr h1)
      · unfold f_Model_order
        rw [mt, bnd1]
        exact if_neg (Int32.not_le.mpr h1)
    · refine both_ask (v := orF g.1.1 (phi g.1.2.2.2.1 g.2.2.1.2) g.1.2.1.2.1 x 200 g.1.2.1.1 g.1.2.1.2.2.1 []) hg hc hm ?_ fun M' hc' hm' => ?_
      · unfold f_GraveRails_order
        rw [ct, bnd1, if_pos ((i32_nn h1).mpr trivial)]
        dsimp only
        refine OK_bind (c_sfn hg hc) fun M1 q => ?_
        refine OK_imp (c_ord25 h1 200 0 FUEL _ _ _ _ M1 (by omega) (by rw [FUEL_eq]; omega) (by omega) q.1 q.2.1) fun z hz => ?_
        have := Sm_trans q.2.2.2 (Sm_Y hz.2)
        exact ⟨hz.1, RC_Sm hg hc this, Sm_le this (by omega) (by omega)⟩
      · have mt' := m_isYard hm'.1.1.1.1 hv
        rw [if_pos hL] at mt'
        unfold f_Model_order
        rw [mt', bnd1, if_pos ((i32_nn h1).mpr trivial)]
        dsimp only
        refine OK_bind (m_begin hg hm' hL) fun M1 q => ?_
        refine OK_imp (m_ord25 q.1 h1 200 0 FUEL _ _ [] M1 (by omega) (by rw [FUEL_eq]; omega) (by omega) (Nat.zero_le _) (Nat.not_lt_zero _) q.2.1 (FrL_refl _) q.2.2) fun z hz => ?_
        exact ⟨hz.1, FrN_B hz.2.1 (hz.2.2.trans hm'.2.2.2.1.symm)⟩
  · have ct := c_isTold hc.1.1 hv
    have mt := m_isYard hm.1.1.1.1 hv
    rw [if_neg hL] at ct mt
    refine both_pure hi' ⟨-1, ?_, ?_⟩
    · unfold f_GraveRails_order
      rw [ct]
      exact bnd (if_pos rfl)
    · unfold f_Model_order
      rw [mt]
      exact bnd (if_pos rfl)
