/-! ===== frost, both ===== -/
theorem frz_ok {y : Yd} {n l : Nat} {b0 : Nat → B} (hv : VY y) (hl : l < y_L y) : ∀ (k c free near : Nat) (b : Nat → B), c + k = y_C y → FJ (y_L y) (y_C y) n l c free b0 b → VF n b → V (y_L y) (y_C y) n (frz y n l b0 k c free near b).2 ∧ VF n (frz y n l b0 k c free near b).2 ∧ (frz y n l b0 k c free near b).1 ≤ near + k
  | 0, c, free, near, b, _, h, hF => ⟨h.2.2.2.2, hF, Nat.le_refl _⟩
  | k + 1, c, free, near, b, hc, h, hF => by
    rw [frz]
    cases hq : grv n b0 l c with
    | none =>
      simp only
      have := frz_ok hv hl k (c + 1) free near b (by omega) (FJ_none h hq) hF
      exact ⟨this.1, this.2.1, by omega⟩
    | some g =>
      simp only
      by_cases q1 : (b0 g).2.1 = 3 ∨ 0 < (b0 g).2.2.1
      · rw [if_pos q1]
        have := frz_ok hv hl k (c + 1) (c + 1) near b (by omega) (FJ_stay h) hF
        exact ⟨this.1, this.2.1, by omega⟩
      · rw [if_neg q1]
        by_cases q2 : free < c
        · rw [if_pos q2]
          obtain ⟨g1, g2⟩ := grv_some hq
          have eg := h.2.2.1 g g1 c (Nat.le_refl _) g2
          have := frz_ok hv hl k (c + 1) (free + 1) (near + 1) _ (by omega) (FJ_go h hv hl (by omega) hq (fun z => q1 (Or.inl z)) q2) (VF_com hF (by rw [eg, g2]; exact Option.some_ne_none _))
          exact ⟨this.1, this.2.1, by omega⟩
        · rw [if_neg q2]
          have := frz_ok hv hl k (c + 1) (c + 1) near b (by omega) (FJ_stay h) hF
          exact ⟨this.1, this.2.1, by omega⟩
theorem c_frz7 {y : Yd} {n yr l : Nat} {b0 : Nat → B} (hv : VY y) (hl : l < y_L y) : ∀ (k c f free near : Nat) (b : Nat → B) (M : mM), c + k = y_C y → k < f → FJ (y_L y) (y_C y) n l c free b0 b → CR y n yr (b, []) M → M.2.2.2 246 5 = some 21 → CY 21 y M → OK (f_Course_freeze_7 (i32 l) f (i32 near) (i32 free) (i32 c) M) fun z => z.1 = i32 (frz y n l b0 k c free near b).1 ∧ CR y n yr ((frz y n l b0 k c free near b).2, []) z.2 ∧ Fr M z.2
  | _, _, 0, _, _, _, _, _, hf, _, _, _, _ => absurd hf (Nat.not_lt_zero _)
  | 0, c, f + 1, free, near, b, M, hc, hf, h, hR, h5, hY => by
    have v2 := hv.2.1
    have e1 : M.2.1 21 1 = i32 (y_C y) := hY.2.1
    unfold f_Course_freeze_7
    rw [h5, nnl_s (show 21 ∈ ydL by decide)]
    simp (disch := omega) only [i32_lt, i32_le, i32_eq, i32_add, i32_mul, i32_neg, i32_nn, i32_ne1, i32_n1e, n1_lt_i32, i32_le_n1, i32_dec, i32_cl, rd_i32, ix_i32, wr_i32, pI_s, pR_s, pC_s, pZ_0, pZ_1, Option.bind_some, ite_true, ite_false, if_true, if_false, gIL, gRI, nlt_0, l0_lt, nle_0, l0_le, neq_0, nadd_0, nmul_0, nmul'_0, nadd'_0, nsub_0, nlt_1, l1_lt, nle_1, l1_le, neq_1, nadd_1, nmul_1, nmul'_1, nadd'_1, nsub_1, nlt_2, l2_lt, nle_2, l2_le, neq_2, nadd_2, nmul_2, nmul'_2, nadd'_2, nsub_2, nlt_3, l3_lt, nle_3, l3_le, neq_3, nadd_3, nmul_3, nmul'_3, nadd'_3, nsub_3, nlt_4, l4_lt, nle_4, l4_le, neq_4, nadd_4, nmul_4, nmul'_4, nadd'_4, nsub_4, nlt_5, l5_lt, nle_5, l5_le, neq_5, nadd_5, nmul_5, nmul'_5, nadd'_5, nsub_5, nlt_6, l6_lt, nle_6, l6_le, neq_6, nadd_6, nmul_6, nmul'_6, nadd'_6, nsub_6, nlt_7, l7_lt, nle_7, l7_le, neq_7, nadd_7, nmul_7, nmul'_7, nadd'_7, nsub_7, nlt_8, l8_lt, nle_8, l8_le, neq_8, nadd_8, nmul_8, nmul'_8, nadd'_8, nsub_8, nlt_9, l9_lt, nle_9, l9_le, neq_9, nadd_9, nmul_9, nmul'_9, nadd'_9, nsub_9, nlt_10, l10_lt, nle_10, l10_le, neq_10, nadd_10, nmul_10, nmul'_10, nadd'_10, nsub_10, nlt_11, l11_lt, nle_11, l11_le, neq_11, nadd_11, nmul_11, nmul'_11, nadd'_11, nsub_11, nlt_12, l12_lt, nle_12, l12_le, neq_12, nadd_12, nmul_12, nmul'_12, nadd'_12, nsub_12, nlt_13, l13_lt, nle_13, l13_le, neq_13, nadd_13, nmul_13, nmul'_13, nadd'_13, nsub_13, nlt_20, l20_lt, nle_20, l20_le, neq_20, nadd_20, nmul_20, nmul'_20, nadd'_20, nsub_20, nlt_400, l400_lt, nle_400, l400_le, neq_400, nadd_400, nmul_400, nmul'_400, nadd'_400, nsub_400, rd_0, wr_0, rd_1, wr_1, rd_2, wr_2, rd_3, wr_3, rd_4, wr_4, rd_5, wr_5, rd_6, wr_6, rd_7, wr_7, rd_8, wr_8, rd_9, wr_9, rd_10, wr_10, rd_11, wr_11, rd_12, wr_12, e1]
    rw [if_pos (by omega)]
    exact OK_some ⟨rfl, hR, Fr_refl M⟩
  | k + 1, c, f + 1, free, near, b, M, hc, hf, h, hR, h5, hY => by
    have v1 := hv.1
    have v2 := hv.2.1
    have hV := h.2.2.2.2
    have hn := hV.2.2.1
    have e1 : M.2.1 21 1 = i32 (y_C y) := hY.2.1
    have hfc := h.1
    have hg0 := FJ_grv h
    have go : ∀ free' near' b' M', FJ (y_L y) (y_C y) n l (c + 1) free' b0 b' → CR y n yr (b', []) M' → Fr M M' → OK (f_Course_freeze_7 (i32 l) f (i32 near') (i32 free') (i32 (c + 1)) M') fun z => z.1 = i32 (frz y n l b0 k (c + 1) free' near' b').1 ∧ CR y n yr ((frz y n l b0 k (c + 1) free' near' b').2, []) z.2 ∧ Fr M z.2 := by
      intro free' near' b' M' j1 j2 j3
      refine OK_imp (c_frz7 hv hl k (c + 1) f free' near' b' M' (by omega) (by omega) j1 j2 (by rw [j3.1]; exact h5) (CY_of hY fun j hj => j3.2.1 _ (by omega))) fun z hz => ⟨hz.1, hz.2.1, Fr_trans j3 hz.2.2⟩
    unfold f_Course_freeze_7
    rw [h5, nnl_s (show 21 ∈ ydL by decide)]
    simp (disch := omega) only [i32_lt, i32_le, i32_eq, i32_add, i32_mul, i32_neg, i32_nn, i32_ne1, i32_n1e, n1_lt_i32, i32_le_n1, i32_dec, i32_cl, rd_i32, ix_i32, wr_i32, pI_s, pR_s, pC_s, pZ_0, pZ_1, Option.bind_some, ite_true, ite_false, if_true, if_false, gIL, gRI, nlt_0, l0_lt, nle_0, l0_le, neq_0, nadd_0, nmul_0, nmul'_0, nadd'_0, nsub_0, nlt_1, l1_lt, nle_1, l1_le, neq_1, nadd_1, nmul_1, nmul'_1, nadd'_1, nsub_1, nlt_2, l2_lt, nle_2, l2_le, neq_2, nadd_2, nmul_2, nmul'_2, nadd'_2, nsub_2, nlt_3, l3_lt, nle_3, l3_le, neq_3, nadd_3, nmul_3, nmul'_3, nadd'_3, nsub_3, nlt_4, l4_lt, nle_4, l4_le, neq_4, nadd_4, nmul_4, nmul'_4, nadd'_4, nsub_4, nlt_5, l5_lt, nle_5, l5_le, neq_5, nadd_5, nmul_5, nmul'_5, nadd'_5, nsub_5, nlt_6, l6_lt, nle_6, l6_le, neq_6, nadd_6, nmul_6, nmul'_6, nadd'_6, nsub_6, nlt_7, l7_lt, nle_7, l7_le, neq_7, nadd_7, nmul_7, nmul'_7, nadd'_7, nsub_7, nlt_8, l8_lt, nle_8, l8_le, neq_8, nadd_8, nmul_8, nmul'_8, nadd'_8, nsub_8, nlt_9, l9_lt, nle_9, l9_le, neq_9, nadd_9, nmul_9, nmul'_9, nadd'_9, nsub_9, nlt_10, l10_lt, nle_10, l10_le, neq_10, nadd_10, nmul_10, nmul'_10, nadd'_10, nsub_10, nlt_11, l11_lt, nle_11, l11_le, neq_11, nadd_11, nmul_11, nmul'_11, nadd'_11, nsub_11, nlt_12, l12_lt, nle_12, l12_le, neq_12, nadd_12, nmul_12, nmul'_12, nadd'_12, nsub_12, nlt_13, l13_lt, nle_13, l13_le, neq_13, nadd_13, nmul_13, nmul'_13, nadd'_13, nsub_13, nlt_20, l20_lt, nle_20, l20_le, neq_20, nadd_20, nmul_20, nmul'_20, nadd'_20, nsub_20, nlt_400, l400_lt, nle_400, l400_le, neq_400, nadd_400, nmul_400, nmul'_400, nadd'_400, nsub_400, rd_0, wr_0, rd_1, wr_1, rd_2, wr_2, rd_3, wr_3, rd_4, wr_4, rd_5, wr_5, rd_6, wr_6, rd_7, wr_7, rd_8, wr_8, rd_9, wr_9, rd_10, wr_10, rd_11, wr_11, rd_12, wr_12, e1]
    rw [if_neg (by omega), c_graveAt hR.1 hV (by omega) (by omega), frz]
    rw [show grv n (b, ([] : List Nat)).1 l c = grv n b0 l c from hg0]
    cases hq : grv n b0 l c with
    | none =>
      simp only [Option.bind_some, eG]
      rw [c_hasN (by decide), bnd0]
      dsimp only
      unfold f_Course_freeze_108
      rw [nadd_1]
      exact go free near b M (FJ_none h hq) hR (Fr_refl M)
    | some g =>
      obtain ⟨g1, g2⟩ := grv_some hq
      have eg := h.2.2.1 g g1 c (Nat.le_refl _) g2
      obtain ⟨a1, a2, a3, a4, a5, a6, a7⟩ := hR.1.2.2.2.2 g g1
      simp only [Nat.reduceAdd, eg] at a3 a4
      have hkb := (hV.2.2.2.1 g g1).2
      rw [eg] at hkb
      simp only [Option.bind_some, eG]
      rw [c_has1 hR.1 g1, bnd1]
      dsimp only
      rw [rd_i32 (by omega) (by omega), Option.bind_some, a3]
      by_cases q1 : (b0 g).2.1 = 3
      · rw [if_pos (by rw [q1]; rfl), if_pos (Or.inl q1)]
        unfold f_Course_freeze_70 f_Course_freeze_75 f_Course_freeze_105 f_Course_freeze_108
        rw [if_neg (by decide), nadd_1]
        exact go (c + 1) near b M (FJ_stay h) hR (Fr_refl M)
      · rw [if_neg (by rw [show (3 : Int32) = i32 3 from rfl, i32_eq (by omega) (by omega)]; exact q1), rd_i32 (by omega) (by omega), Option.bind_some, a4]
        by_cases q2 : 0 < (b0 g).2.2.1
        · rw [if_neg (by rw [show (0 : Int32) = i32 0 from rfl, i32_le (by omega) (by omega)]; omega), if_pos (Or.inr q2)]
          unfold f_Course_freeze_70 f_Course_freeze_75 f_Course_freeze_105 f_Course_freeze_108
          rw [if_neg (by decide), nadd_1]
          exact go (c + 1) near b M (FJ_stay h) hR (Fr_refl M)
        · rw [if_pos (by rw [show (0 : Int32) = i32 0 from rfl, i32_le (by omega) (by omega)]; omega), if_neg (fun z => z.elim q1 q2)]
          unfold f_Course_freeze_75 f_Course_freeze_105 f_Course_freeze_108
          rw [if_pos rfl]
          by_cases q3 : free < c
          · rw [if_neg (by rw [i32_le (by omega) (by omega)]; omega), if_pos q3]
            refine OK_bind (c_comeTo0 (Yp := 21) hR ⟨h5, by decide, by omega, hY⟩ hv g1 (by rw [show (b, ([] : List Nat)).1 g = b g from rfl, eg, g2]; exact Option.some_ne_none _) hl (show free < y_C y by omega) (by rw [show (b, ([] : List Nat)).1 g = b g from rfl, eg]; exact q1) fun i hi _ => h.2.2.2.1 i hi free (Nat.le_refl _) q3) fun M1 h1 => ?_
            rw [nadd_1, nadd_1, nadd_1]
            exact go (free + 1) (near + 1) _ M1 (FJ_go h hv hl (by omega) hq q1 q3) h1.1 h1.2.1
          · rw [if_pos (by rw [i32_le (by omega) (by omega)]; omega), if_neg q3, nadd_1, nadd_1]
            have e : free = c := by omega
            rw [e]
            exact go (c + 1) near b M (FJ_stay h) hR (Fr_refl M)
theorem m_frz0 {y : Yd} {n yr l : Nat} {b0 : Nat → B} {M : mM} (hv : VY y) (hl : l < y_L y) (hS : MS y yr n b0 (M.2.1 446)) (hV : V (y_L y) (y_C y) n b0) : ∀ (k c f free near : Nat) (b : Nat → B), c + k = y_C y → k < f → free ≤ c → f_Model_freezes_8 (i32 l) 0 f (i32 near) (i32 free) (i32 c) M = some (i32 (frz y n l b0 k c free near b).1, M)
  | _, _, 0, _, _, _, _, hf, _ => absurd hf (Nat.not_lt_zero _)
  | 0, c, f + 1, free, near, b, hc, hf, hfc => by
    have v2 := hv.2.1
    unfold f_Model_freezes_8
    simp (disch := omega) only [i32_lt, i32_le, i32_eq, i32_add, i32_mul, i32_neg, i32_nn, i32_ne1, i32_n1e, n1_lt_i32, i32_le_n1, i32_dec, i32_cl, rd_i32, ix_i32, wr_i32, pI_s, pR_s, pC_s, pZ_0, pZ_1, Option.bind_some, ite_true, ite_false, if_true, if_false, gIL, gRI, nlt_0, l0_lt, nle_0, l0_le, neq_0, nadd_0, nmul_0, nmul'_0, nadd'_0, nsub_0, nlt_1, l1_lt, nle_1, l1_le, neq_1, nadd_1, nmul_1, nmul'_1, nadd'_1, nsub_1, nlt_2, l2_lt, nle_2, l2_le, neq_2, nadd_2, nmul_2, nmul'_2, nadd'_2, nsub_2, nlt_3, l3_lt, nle_3, l3_le, neq_3, nadd_3, nmul_3, nmul'_3, nadd'_3, nsub_3, nlt_4, l4_lt, nle_4, l4_le, neq_4, nadd_4, nmul_4, nmul'_4, nadd'_4, nsub_4, nlt_5, l5_lt, nle_5, l5_le, neq_5, nadd_5, nmul_5, nmul'_5, nadd'_5, nsub_5, nlt_6, l6_lt, nle_6, l6_le, neq_6, nadd_6, nmul_6, nmul'_6, nadd'_6, nsub_6, nlt_7, l7_lt, nle_7, l7_le, neq_7, nadd_7, nmul_7, nmul'_7, nadd'_7, nsub_7, nlt_8, l8_lt, nle_8, l8_le, neq_8, nadd_8, nmul_8, nmul'_8, nadd'_8, nsub_8, nlt_9, l9_lt, nle_9, l9_le, neq_9, nadd_9, nmul_9, nmul'_9, nadd'_9, nsub_9, nlt_10, l10_lt, nle_10, l10_le, neq_10, nadd_10, nmul_10, nmul'_10, nadd'_10, nsub_10, nlt_11, l11_lt, nle_11, l11_le, neq_11, nadd_11, nmul_11, nmul'_11, nadd'_11, nsub_11, nlt_12, l12_lt, nle_12, l12_le, neq_12, nadd_12, nmul_12, nmul'_12, nadd'_12, nsub_12, nlt_13, l13_lt, nle_13, l13_le, neq_13, nadd_13, nmul_13, nmul'_13, nadd'_13, nsub_13, nlt_20, l20_lt, nle_20, l20_le, neq_20, nadd_20, nmul_20, nmul'_20, nadd'_20, nsub_20, nlt_400, l400_lt, nle_400, l400_le, neq_400, nadd_400, nmul_400, nmul'_400, nadd'_400, nsub_400, rd_0, wr_0, rd_1, wr_1, rd_2, wr_2, rd_3, wr_3, rd_4, wr_4, rd_5, wr_5, rd_6, wr_6, rd_7, wr_7, rd_8, wr_8, rd_9, wr_9, rd_10, wr_10, rd_11, wr_11, rd_12, wr_12, hS.2.1]
    rw [if_pos (by omega)]
    rfl
  | k + 1, c, f + 1, free, near, b, hc, hf, hfc => by
    have v1 := hv.1
    have v2 := hv.2.1
    have hn := hV.2.2.1
    unfold f_Model_freezes_8
    simp (disch := omega) only [i32_lt, i32_le, i32_eq, i32_add, i32_mul, i32_neg, i32_nn, i32_ne1, i32_n1e, n1_lt_i32, i32_le_n1, i32_dec, i32_cl, rd_i32, ix_i32, wr_i32, pI_s, pR_s, pC_s, pZ_0, pZ_1, Option.bind_some, ite_true, ite_false, if_true, if_false, gIL, gRI, nlt_0, l0_lt, nle_0, l0_le, neq_0, nadd_0, nmul_0, nmul'_0, nadd'_0, nsub_0, nlt_1, l1_lt, nle_1, l1_le, neq_1, nadd_1, nmul_1, nmul'_1, nadd'_1, nsub_1, nlt_2, l2_lt, nle_2, l2_le, neq_2, nadd_2, nmul_2, nmul'_2, nadd'_2, nsub_2, nlt_3, l3_lt, nle_3, l3_le, neq_3, nadd_3, nmul_3, nmul'_3, nadd'_3, nsub_3, nlt_4, l4_lt, nle_4, l4_le, neq_4, nadd_4, nmul_4, nmul'_4, nadd'_4, nsub_4, nlt_5, l5_lt, nle_5, l5_le, neq_5, nadd_5, nmul_5, nmul'_5, nadd'_5, nsub_5, nlt_6, l6_lt, nle_6, l6_le, neq_6, nadd_6, nmul_6, nmul'_6, nadd'_6, nsub_6, nlt_7, l7_lt, nle_7, l7_le, neq_7, nadd_7, nmul_7, nmul'_7, nadd'_7, nsub_7, nlt_8, l8_lt, nle_8, l8_le, neq_8, nadd_8, nmul_8, nmul'_8, nadd'_8, nsub_8, nlt_9, l9_lt, nle_9, l9_le, neq_9, nadd_9, nmul_9, nmul'_9, nadd'_9, nsub_9, nlt_10, l10_lt, nle_10, l10_le, neq_10, nadd_10, nmul_10, nmul'_10, nadd'_10, nsub_10, nlt_11, l11_lt, nle_11, l11_le, neq_11, nadd_11, nmul_11, nmul'_11, nadd'_11, nsub_11, nlt_12, l12_lt, nle_12, l12_le, neq_12, nadd_12, nmul_12, nmul'_12, nadd'_12, nsub_12, nlt_13, l13_lt, nle_13, l13_le, neq_13, nadd_13, nmul_13, nmul'_13, nadd'_13, nsub_13, nlt_20, l20_lt, nle_20, l20_le, neq_20, nadd_20, nmul_20, nmul'_20, nadd'_20, nsub_20, nlt_400, l400_lt, nle_400, l400_le, neq_400, nadd_400, nmul_400, nmul'_400, nadd'_400, nsub_400, rd_0, wr_0, rd_1, wr_1, rd_2, wr_2, rd_3, wr_3, rd_4, wr_4, rd_5, wr_5, rd_6, wr_6, rd_7, wr_7, rd_8, wr_8, rd_9, wr_9, rd_10, wr_10, rd_11, wr_11, rd_12, wr_12, hS.2.1]
    rw [if_neg (by omega), m_graveAt hS hV (by omega) (by omega), frz]
    cases hq : grv n b0 l c with
    | none =>
      simp only [Option.bind_some, eG]
      rw [if_neg (by decide)]
      unfold f_Model_freezes_121
      rw [nadd_1]
      exact m_frz0 hv hl hS hV k (c + 1) f free near b (by omega) (by omega) (by omega)
    | some g =>
      obtain ⟨g1, g2⟩ := grv_some hq
      obtain ⟨a1, a2, a3, a4, a5, a6, a7⟩ := (hS.2.2.2.2.2 g g1).1
      have hkb := (hV.2.2.2.1 g g1).2
      simp only [Option.bind_some, eG]
      rw [if_pos ((i32_nn (by omega)).mpr trivial), m_g2 (by omega)]
      simp only [Option.bind_some, a3]
      have stay : OK (f_Model_freezes_68 (i32 l) 0 (f_Model_freezes_8 (i32 l) 0 f) (i32 near) (i32 free) (i32 c) (i32 g) M) fun z => z = (i32 (frz y n l b0 k (c + 1) (c + 1) near b).1, M) := by
        unfold f_Model_freezes_68 f_Model_freezes_69 f_Model_freezes_82 f_Model_freezes_103 f_Model_freezes_119 f_Model_freezes_121
        rw [if_pos rfl, if_pos rfl, if_pos rfl]
        rw [show i32 near + 0 = i32 near from Int32.add_zero _, nadd_1]
        exact OK_eq (m_frz0 hv hl hS hV k (c + 1) f (c + 1) near b (by omega) (by omega) (by omega)) rfl
      obtain ⟨zs, hzs, rfl⟩ := stay
      by_cases q1 : (b0 g).2.1 = 3
      · rw [if_pos (by rw [q1]; rfl), if_pos (Or.inl q1)]
        exact hzs
      · rw [if_neg (by rw [show (3 : Int32) = i32 3 from rfl, i32_eq (by omega) (by omega)]; exact q1), m_g3 (by omega)]
        simp only [Option.bind_some, a4]
        by_cases q2 : 0 < (b0 g).2.2.1
        · rw [if_neg (by rw [show (0 : Int32) = i32 0 from rfl, i32_eq (by omega) (by omega)]; omega), if_pos (Or.inr q2)]
          exact hzs
        · rw [if_pos (by rw [show (0 : Int32) = i32 0 from rfl, i32_eq (by omega) (by omega)]; omega), if_neg (show ¬ ((b0 g).2.1 = 3 ∨ 0 < (b0 g).2.2.1) from fun z => z.elim q1 q2)]
          by_cases q3 : free < c
          · rw [if_neg (show ¬ c ≤ free by omega), if_pos q3]
            unfold f_Model_freezes_69 f_Model_freezes_82 f_Model_freezes_103 f_Model_freezes_119 f_Model_freezes_121
            rw [if_neg (by decide), if_neg (by decide), if_pos rfl, if_neg (by decide), nadd_1, nadd_1, nadd_1]
            exact m_frz0 hv hl hS hV k (c + 1) f (free + 1) (near + 1) _ (by omega) (by omega) (by omega)
          · rw [if_pos (show c ≤ free by omega), if_neg q3]
            exact hzs
theorem m_comesS {y : Yd} {n yr : Nat} {b : Nat → B} {M : mM} (hS : MS y yr n b (M.2.1 446)) (hY : MY y (M.2.1 446)) (hv : VY y) {g l c : Nat} (hg : g < n) (hl : l < 4) (hc : c < 20) : OK (f_Model_comesInto (i32 g) (i32 l) (i32 c) M) fun q => MS y yr n (bup b g (comB (y_r y l c) l c 0 (b g))) (q.2.2.1 446) ∧ Sm 446 447 M q.2 ∧ (∀ i, i < 10 ∨ 109 ≤ i → q.2.2.1 446 i = M.2.1 446 i) ∧ ∀ j, q.2.2.1 446 (10 + 9 * j + 8) = M.2.1 446 (10 + 9 * j + 8) := by
  have hn := hS.2.2.2.2.1
  obtain ⟨⟨a1, a2, a3, a4, a5, a6, a7⟩, a8⟩ := hS.2.2.2.2.2 g hg
  unfold f_Model_comesInto
  simp (disch := omega) only [i32_lt, i32_le, i32_eq, i32_add, i32_mul, i32_neg, i32_nn, i32_ne1, i32_n1e, n1_lt_i32, i32_le_n1, i32_dec, i32_cl, rd_i32, ix_i32, wr_i32, pI_s, pR_s, pC_s, pZ_0, pZ_1, Option.bind_some, ite_true, ite_false, if_true, if_false, gIL, gRI, nlt_0, l0_lt, nle_0, l0_le, neq_0, nadd_0, nmul_0, nmul'_0, nadd'_0, nsub_0, nlt_1, l1_lt, nle_1, l1_le, neq_1, nadd_1, nmul_1, nmul'_1, nadd'_1, nsub_1, nlt_2, l2_lt, nle_2, l2_le, neq_2, nadd_2, nmul_2, nmul'_2, nadd'_2, nsub_2, nlt_3, l3_lt, nle_3, l3_le, neq_3, nadd_3, nmul_3, nmul'_3, nadd'_3, nsub_3, nlt_4, l4_lt, nle_4, l4_le, neq_4, nadd_4, nmul_4, nmul'_4, nadd'_4, nsub_4, nlt_5, l5_lt, nle_5, l5_le, neq_5, nadd_5, nmul_5, nmul'_5, nadd'_5, nsub_5, nlt_6, l6_lt, nle_6, l6_le, neq_6, nadd_6, nmul_6, nmul'_6, nadd'_6, nsub_6, nlt_7, l7_lt, nle_7, l7_le, neq_7, nadd_7, nmul_7, nmul'_7, nadd'_7, nsub_7, nlt_8, l8_lt, nle_8, l8_le, neq_8, nadd_8, nmul_8, nmul'_8, nadd'_8, nsub_8, nlt_9, l9_lt, nle_9, l9_le, neq_9, nadd_9, nmul_9, nmul'_9, nadd'_9, nsub_9, nlt_10, l10_lt, nle_10, l10_le, neq_10, nadd_10, nmul_10, nmul'_10, nadd'_10, nsub_10, nlt_11, l11_lt, nle_11, l11_le, neq_11, nadd_11, nmul_11, nmul'_11, nadd'_11, nsub_11, nlt_12, l12_lt, nle_12, l12_le, neq_12, nadd_12, nmul_12, nmul'_12, nadd'_12, nsub_12, nlt_13, l13_lt, nle_13, l13_le, neq_13, nadd_13, nmul_13, nmul'_13, nadd'_13, nsub_13, nlt_20, l20_lt, nle_20, l20_le, neq_20, nadd_20, nmul_20, nmul'_20, nadd'_20, nsub_20, nlt_400, l400_lt, nle_400, l400_le, neq_400, nadd_400, nmul_400, nmul'_400, nadd'_400, nsub_400, rd_0, wr_0, rd_1, wr_1, rd_2, wr_2, rd_3, wr_3, rd_4, wr_4, rd_5, wr_5, rd_6, wr_6, rd_7, wr_7, rd_8, wr_8, rd_9, wr_9, rd_10, wr_10, rd_11, wr_11, rd_12, wr_12, gIe, gIp, gIo, gCe, gCn, gRI, gLI, gIR, gCR, gLR, gRe, gRo, gRp, gIl]
  rw [m_rootAt (y := y) (MY_cong hY hv (fun i hi => ?_)) hv (by omega) (by omega)]
  · simp (disch := omega) only [i32_lt, i32_le, i32_eq, i32_add, i32_mul, i32_neg, i32_nn, i32_ne1, i32_n1e, n1_lt_i32, i32_le_n1, i32_dec, i32_cl, rd_i32, ix_i32, wr_i32, pI_s, pR_s, pC_s, pZ_0, pZ_1, Option.bind_some, ite_true, ite_false, if_true, if_false, gIL, gRI, nlt_0, l0_lt, nle_0, l0_le, neq_0, nadd_0, nmul_0, nmul'_0, nadd'_0, nsub_0, nlt_1, l1_lt, nle_1, l1_le, neq_1, nadd_1, nmul_1, nmul'_1, nadd'_1, nsub_1, nlt_2, l2_lt, nle_2, l2_le, neq_2, nadd_2, nmul_2, nmul'_2, nadd'_2, nsub_2, nlt_3, l3_lt, nle_3, l3_le, neq_3, nadd_3, nmul_3, nmul'_3, nadd'_3, nsub_3, nlt_4, l4_lt, nle_4, l4_le, neq_4, nadd_4, nmul_4, nmul'_4, nadd'_4, nsub_4, nlt_5, l5_lt, nle_5, l5_le, neq_5, nadd_5, nmul_5, nmul'_5, nadd'_5, nsub_5, nlt_6, l6_lt, nle_6, l6_le, neq_6, nadd_6, nmul_6, nmul'_6, nadd'_6, nsub_6, nlt_7, l7_lt, nle_7, l7_le, neq_7, nadd_7, nmul_7, nmul'_7, nadd'_7, nsub_7, nlt_8, l8_lt, nle_8, l8_le, neq_8, nadd_8, nmul_8, nmul'_8, nadd'_8, nsub_8, nlt_9, l9_lt, nle_9, l9_le, neq_9, nadd_9, nmul_9, nmul'_9, nadd'_9, nsub_9, nlt_10, l10_lt, nle_10, l10_le, neq_10, nadd_10, nmul_10, nmul'_10, nadd'_10, nsub_10, nlt_11, l11_lt, nle_11, l11_le, neq_11, nadd_11, nmul_11, nmul'_11, nadd'_11, nsub_11, nlt_12, l12_lt, nle_12, l12_le, neq_12, nadd_12, nmul_12, nmul'_12, nadd'_12, nsub_12, nlt_13, l13_lt, nle_13, l13_le, neq_13, nadd_13, nmul_13, nmul'_13, nadd'_13, nsub_13, nlt_20, l20_lt, nle_20, l20_le, neq_20, nadd_20, nmul_20, nmul'_20, nadd'_20, nsub_20, nlt_400, l400_lt, nle_400, l400_le, neq_400, nadd_400, nmul_400, nmul'_400, nadd'_400, nsub_400, rd_0, wr_0, rd_1, wr_1, rd_2, wr_2, rd_3, wr_3, rd_4, wr_4, rd_5, wr_5, rd_6, wr_6, rd_7, wr_7, rd_8, wr_8, rd_9, wr_9, rd_10, wr_10, rd_11, wr_11, rd_12, wr_12, gIe, gIp, gIo, gCe, gCn, gRI, gLI, gIR, gCR, gLR, gRe, gRo, gRp, gIl]
    have fin : ∀ M', M' = msI (msI (msI M 446 (10 + 9 * g) (i32 l)) 446 (10 + 9 * g + 1) (i32 c)) 446 (10 + 9 * g + 3) (i32 (y_r y l c)) → MS y yr n (bup b g (comB (y_r y l c) l c 0 (b g))) (M'.2.1 446) ∧ Sm 446 447 M M' ∧ (∀ i, i < 10 ∨ 109 ≤ i → M'.2.1 446 i = M.2.1 446 i) ∧ ∀ j, M'.2.1 446 (10 + 9 * j + 8) = M.2.1 446 (10 + 9 * j + 8) := by
      intro M' hM'
      subst hM'
      refine ⟨?_, Sm_trans (Sm_trans (Sm_I (by omega)) (Sm_I (by omega))) (Sm_I (by omega)), fun i hi => ?_, fun j => ?_⟩
      · refine MS_put hS hg ?_ ⟨?_, ?_, ?_, ?_, ?_, ?_, ?_⟩ ?_
        · intro j hj
          simp (disch := omega) only [gIe, gIp, gIo, gCe, gCn, gRI, gLI, gIR, gCR, gLR, gRe, gRo, gRp, gIl]
        all_goals simp (disch := omega) only [gIe, gIp, gIo, gCe, gCn, gRI, gLI, gIR, gCR, gLR, gRe, gRo, gRp, gIl] <;> first | rfl | assumption | (rw [a7]; exact (Int32.add_zero _).symm)
      · simp (disch := omega) only [gIe, gIp, gIo, gCe, gCn, gRI, gLI, gIR, gCR, gLR, gRe, gRo, gRp, gIl]
      · simp (disch := omega) only [gIe, gIp, gIo, gCe, gCn, gRI, gLI, gIR, gCR, gLR, gRe, gRo, gRp, gIl]
    split
    · exact OK_some (fin _ rfl)
    · exact OK_some (fin _ rfl)
  · simp (disch := omega) only [gIe, gIp, gIo, gCe, gCn, gRI, gLI, gIR, gCR, gLR, gRe, gRo, gRp, gIl]
theorem m_frz1 {y : Yd} {n yr l : Nat} {b0 : Nat → B} (hv : VY y) (hl : l < y_L y) : ∀ (k c f free near : Nat) (b : Nat → B) (M : mM), c + k = y_C y → k < f → FJ (y_L y) (y_C y) n l c free b0 b → MS y yr n b (M.2.1 446) → MY y (M.2.1 446) → OK (f_Model_freezes_8 (i32 l) 1 f (i32 near) (i32 free) (i32 c) M) fun z => z.1 = i32 (frz y n l b0 k c free near b).1 ∧ MS y yr n (frz y n l b0 k c free near b).2 (z.2.2.1 446) ∧ Sm 446 447 M z.2 ∧ (∀ i, i < 10 ∨ 109 ≤ i → z.2.2.1 446 i = M.2.1 446 i) ∧ ∀ j, z.2.2.1 446 (10 + 9 * j + 8) = M.2.1 446 (10 + 9 * j + 8)
  | _, _, 0, _, _, _, _, _, hf, _, _, _ => absurd hf (Nat.not_lt_zero _)
  | 0, c, f + 1, free, near, b, M, hc, hf, h, hS, hY => by
    have v2 := hv.2.1
    unfold f_Model_freezes_8
    simp (disch := omega) only [i32_lt, i32_le, i32_eq, i32_add, i32_mul, i32_neg, i32_nn, i32_ne1, i32_n1e, n1_lt_i32, i32_le_n1, i32_dec, i32_cl, rd_i32, ix_i32, wr_i32, pI_s, pR_s, pC_s, pZ_0, pZ_1, Option.bind_some, ite_true, ite_false, if_true, if_false, gIL, gRI, nlt_0, l0_lt, nle_0, l0_le, neq_0, nadd_0, nmul_0, nmul'_0, nadd'_0, nsub_0, nlt_1, l1_lt, nle_1, l1_le, neq_1, nadd_1, nmul_1, nmul'_1, nadd'_1, nsub_1, nlt_2, l2_lt, nle_2, l2_le, neq_2, nadd_2, nmul_2, nmul'_2, nadd'_2, nsub_2, nlt_3, l3_lt, nle_3, l3_le, neq_3, nadd_3, nmul_3, nmul'_3, nadd'_3, nsub_3, nlt_4, l4_lt, nle_4, l4_le, neq_4, nadd_4, nmul_4, nmul'_4, nadd'_4, nsub_4, nlt_5, l5_lt, nle_5, l5_le, neq_5, nadd_5, nmul_5, nmul'_5, nadd'_5, nsub_5, nlt_6, l6_lt, nle_6, l6_le, neq_6, nadd_6, nmul_6, nmul'_6, nadd'_6, nsub_6, nlt_7, l7_lt, nle_7, l7_le, neq_7, nadd_7, nmul_7, nmul'_7, nadd'_7, nsub_7, nlt_8, l8_lt, nle_8, l8_le, neq_8, nadd_8, nmul_8, nmul'_8, nadd'_8, nsub_8, nlt_9, l9_lt, nle_9, l9_le, neq_9, nadd_9, nmul_9, nmul'_9, nadd'_9, nsub_9, nlt_10, l10_lt, nle_10, l10_le, neq_10, nadd_10, nmul_10, nmul'_10, nadd'_10, nsub_10, nlt_11, l11_lt, nle_11, l11_le, neq_11, nadd_11, nmul_11, nmul'_11, nadd'_11, nsub_11, nlt_12, l12_lt, nle_12, l12_le, neq_12, nadd_12, nmul_12, nmul'_12, nadd'_12, nsub_12, nlt_13, l13_lt, nle_13, l13_le, neq_13, nadd_13, nmul_13, nmul'_13, nadd'_13, nsub_13, nlt_20, l20_lt, nle_20, l20_le, neq_20, nadd_20, nmul_20, nmul'_20, nadd'_20, nsub_20, nlt_400, l400_lt, nle_400, l400_le, neq_400, nadd_400, nmul_400, nmul'_400, nadd'_400, nsub_400, rd_0, wr_0, rd_1, wr_1, rd_2, wr_2, rd_3, wr_3, rd_4, wr_4, rd_5, wr_5, rd_6, wr_6, rd_7, wr_7, rd_8, wr_8, rd_9, wr_9, rd_10, wr_10, rd_11, wr_11, rd_12, wr_12, hS.2.1]
    rw [if_pos (by omega)]
    exact OK_some ⟨rfl, hS, Sm_refl _ _ _, fun _ _ => rfl, fun _ => rfl⟩
  | k + 1, c, f + 1, free, near, b, M, hc, hf, h, hS, hY => by
    have v1 := hv.1
    have v2 := hv.2.1
    have hV := h.2.2.2.2
    have hn := hV.2.2.1
    have hfc := h.1
    have go : ∀ free' near' b' M', FJ (y_L y) (y_C y) n l (c + 1) free' b0 b' → MS y yr n b' (M'.2.1 446) → Sm 446 447 M M' → (∀ i, i < 10 ∨ 109 ≤ i → M'.2.1 446 i = M.2.1 446 i) → (∀ j, M'.2.1 446 (10 + 9 * j + 8) = M.2.1 446 (10 + 9 * j + 8)) → OK (f_Model_freezes_8 (i32 l) 1 f (i32 near') (i32 free') (i32 (c + 1)) M') fun z => z.1 = i32 (frz y n l b0 k (c + 1) free' near' b').1 ∧ MS y yr n (frz y n l b0 k (c + 1) free' near' b').2 (z.2.2.1 446) ∧ Sm 446 447 M z.2 ∧ (∀ i, i < 10 ∨ 109 ≤ i → z.2.2.1 446 i = M.2.1 446 i) ∧ ∀ j, z.2.2.1 446 (10 + 9 * j + 8) = M.2.1 446 (10 + 9 * j + 8) := by
      intro free' near' b' M' j1 j2 j3 j4 j5
      refine OK_imp (m_frz1 hv hl k (c + 1) f free' near' b' M' (by omega) (by omega) j1 j2 (MY_cong hY hv j4)) fun z hz => ⟨hz.1, hz.2.1, Sm_trans j3 hz.2.2.1, fun i hi => (hz.2.2.2.1 i hi).trans (j4 i hi), fun j => (hz.2.2.2.2 j).trans (j5 j)⟩
    unfold f_Model_freezes_8
    simp (disch := omega) only [i32_lt, i32_le, i32_eq, i32_add, i32_mul, i32_neg, i32_nn, i32_ne1, i32_n1e, n1_lt_i32, i32_le_n1, i32_dec, i32_cl, rd_i32, ix_i32, wr_i32, pI_s, pR_s, pC_s, pZ_0, pZ_1, Option.bind_some, ite_true, ite_false, if_true, if_false, gIL, gRI, nlt_0, l0_lt, nle_0, l0_le, neq_0, nadd_0, nmul_0, nmul'_0, nadd'_0, nsub_0, nlt_1, l1_lt, nle_1, l1_le, neq_1, nadd_1, nmul_1, nmul'_1, nadd'_1, nsub_1, nlt_2, l2_lt, nle_2, l2_le, neq_2, nadd_2, nmul_2, nmul'_2, nadd'_2, nsub_2, nlt_3, l3_lt, nle_3, l3_le, neq_3, nadd_3, nmul_3, nmul'_3, nadd'_3, nsub_3, nlt_4, l4_lt, nle_4, l4_le, neq_4, nadd_4, nmul_4, nmul'_4, nadd'_4, nsub_4, nlt_5, l5_lt, nle_5, l5_le, neq_5, nadd_5, nmul_5, nmul'_5, nadd'_5, nsub_5, nlt_6, l6_lt, nle_6, l6_le, neq_6, nadd_6, nmul_6, nmul'_6, nadd'_6, nsub_6, nlt_7, l7_lt, nle_7, l7_le, neq_7, nadd_7, nmul_7, nmul'_7, nadd'_7, nsub_7, nlt_8, l8_lt, nle_8, l8_le, neq_8, nadd_8, nmul_8, nmul'_8, nadd'_8, nsub_8, nlt_9, l9_lt, nle_9, l9_le, neq_9, nadd_9, nmul_9, nmul'_9, nadd'_9, nsub_9, nlt_10, l10_lt, nle_10, l10_le, neq_10, nadd_10, nmul_10, nmul'_10, nadd'_10, nsub_10, nlt_11, l11_lt, nle_11, l11_le, neq_11, nadd_11, nmul_11, nmul'_11, nadd'_11, nsub_11, nlt_12, l12_lt, nle_12, l12_le, neq_12, nadd_12, nmul_12, nmul'_12, nadd'_12, nsub_12, nlt_13, l13_lt, nle_13, l13_le, neq_13, nadd_13, nmul_13, nmul'_13, nadd'_13, nsub_13, nlt_20, l20_lt, nle_20, l20_le, neq_20, nadd_20, nmul_20, nmul'_20, nadd'_20, nsub_20, nlt_400, l400_lt, nle_400, l400_le, neq_400, nadd_400, nmul_400, nmul'_400, nadd'_400, nsub_400, rd_0, wr_0, rd_1, wr_1, rd_2, wr_2, rd_3, wr_3, rd_4, wr_4, rd_5, wr_5, rd_6, wr_6, rd_7, wr_7, rd_8, wr_8, rd_9, wr_9, rd_10, wr_10, rd_11, wr_11, rd_12, wr_12, hS.2.1]
    rw [if_neg (by omega), m_graveAt hS hV (by omega) (by omega), frz, FJ_grv h]
    cases hq : grv n b0 l c with
    | none =>
      simp only [Option.bind_some, eG]
      rw [if_neg (by decide)]
      unfold f_Model_freezes_121
      rw [nadd_1]
      exact go free near b M (FJ_none h hq) hS (Sm_refl _ _ _) (fun _ _ => rfl) fun _ => rfl
    | some g =>
      obtain ⟨g1, g2⟩ := grv_some hq
      have eg := h.2.2.1 g g1 c (Nat.le_refl _) g2
      obtain ⟨a1, a2, a3, a4, a5, a6, a7⟩ := (hS.2.2.2.2.2 g g1).1
      rw [eg] at a3 a4
      have hkb := (hV.2.2.2.1 g g1).2
      rw [eg] at hkb
      simp only [Option.bind_some, eG]
      rw [if_pos ((i32_nn (by omega)).mpr trivial), m_g2 (by omega)]
      simp only [Option.bind_some, a3]
      have stay : OK (f_Model_freezes_68 (i32 l) 1 (f_Model_freezes_8 (i32 l) 1 f) (i32 near) (i32 free) (i32 c) (i32 g) M) fun z => z.1 = i32 (frz y n l b0 k (c + 1) (c + 1) near b).1 ∧ MS y yr n (frz y n l b0 k (c + 1) (c + 1) near b).2 (z.2.2.1 446) ∧ Sm 446 447 M z.2 ∧ (∀ i, i < 10 ∨ 109 ≤ i → z.2.2.1 446 i = M.2.1 446 i) ∧ ∀ j, z.2.2.1 446 (10 + 9 * j + 8) = M.2.1 446 (10 + 9 * j + 8) := by
        unfold f_Model_freezes_68 f_Model_freezes_69 f_Model_freezes_82 f_Model_freezes_103 f_Model_freezes_119 f_Model_freezes_121
        rw [if_pos rfl, if_pos rfl, if_pos rfl]
        rw [show i32 near + 0 = i32 near from Int32.add_zero _, nadd_1]
        exact go (c + 1) near b M (FJ_stay h) hS (Sm_refl _ _ _) (fun _ _ => rfl) fun _ => rfl
      by_cases q1 : (b0 g).2.1 = 3
      · rw [if_pos (by rw [q1]; rfl), if_pos (Or.inl q1)]
        exact stay
      · rw [if_neg (by rw [show (3 : Int32) = i32 3 from rfl, i32_eq (by omega) (by omega)]; exact q1), m_g3 (by omega)]
        simp only [Option.bind_some, a4]
        by_cases q2 : 0 < (b0 g).2.2.1
        · rw [if_neg (by rw [show (0 : Int32) = i32 0 from rfl, i32_eq (by omega) (by omega)]; omega), if_pos (Or.inr q2)]
          exact stay
        · rw [if_pos (by rw [show (0 : Int32) = i32 0 from rfl, i32_eq (by omega) (by omega)]; omega), if_neg (show ¬ ((b0 g).2.1 = 3 ∨ 0 < (b0 g).2.2.1) from fun z => z.elim q1 q2)]
          by_cases q3 : free < c
          · rw [if_neg (show ¬ c ≤ free by omega), if_pos q3]
            unfold f_Model_freezes_69 f_Model_freezes_82 f_Model_freezes_103 f_Model_freezes_119 f_Model_freezes_121
            rw [if_neg (by decide), if_neg (by decide), if_neg (by decide)]
            refine OK_bind (m_comesS hS hY hv g1 (l := l) (c := free) (by omega) (by omega)) fun q hqq => ?_
            rw [if_neg (by decide), nadd_1, nadd_1, nadd_1]
            exact go (free + 1) (near + 1) _ q.2 (FJ_go h hv hl (by omega) hq q1 q3) hqq.1 hqq.2.1 hqq.2.2.1 hqq.2.2.2
          · rw [if_pos (show c ≤ free by omega), if_neg q3]
            exact stay
theorem FJ_0 {L C n l : Nat} {b : Nat → B} (hV : V L C n b) : FJ L C n l 0 0 b b := ⟨Nat.le_refl _, fun _ _ _ _ => Iff.rfl, fun _ _ _ _ _ => rfl, fun _ _ _ _ h => by omega, hV⟩
theorem both_frost {x1 : Int32} {M : mM} (hi : Inv M) : Both (f_GraveRails_frost x1) (f_Model_frost x1) M := by
  have hi' := hi
  obtain ⟨g, hg, hc, hm⟩ := hi
  have hv := hg.1.1
  have v1 := hv.1
  have v2 := hv.2.1
  have hn := hg.1.2.1.2.2.2.1
  have e0 : M.2.1 21 0 = i32 (y_L g.1.1) := hc.1.1.1
  rcases i32_cases x1 with h1 | ⟨l, h1, rfl⟩
  · refine both_pure hi' ⟨-1, if_pos h1, ?_⟩
    unfold f_Model_frost
    rw [m_isPlaceN (Or.inl h1), bnd0]
  · by_cases hl : l < y_L g.1.1
    · have hC := hv.2.2.2.2.2.2.2.2.2.2.2 (show 0 < y_L g.1.1 by omega)
      have hJ := FJ_0 (l := l) hg.1.2.1.1
      have hok := frz_ok hv hl (y_C g.1.1) 0 0 0 g.1.2.1.2.2.1 (Nat.zero_add _) hJ hg.1.2.1.2.2.2.2.2.1
      have cfz : OK (f_GraveRails_startFromNow M) fun M1 => OK (f_Course_freeze (i32 l) M1) fun z => z.1 = i32 (frz g.1.1 g.1.2.1.2.1 l g.1.2.1.2.2.1 (y_C g.1.1) 0 0 0 g.1.2.1.2.2.1).1 ∧ CSX 247 (g.1.2.1.1, g.1.2.1.2.1, (frz g.1.1 g.1.2.1.2.1 l g.1.2.1.2.2.1 (y_C g.1.1) 0 0 0 g.1.2.1.2.2.1).2, g.1.2.1.2.2.2) z.2 ∧ Sm 246 269 M z.2 := by
        refine OK_imp (c_sfn hg hc) fun M1 h2 => ?_
        obtain ⟨⟨q1, q2, q3, q4, q5⟩, q6, q7, q8⟩ := h2
        refine OK_imp (c_frz7 hv hl (y_C g.1.1) 0 FUEL 0 0 _ M1 (Nat.zero_add _) (by rw [FUEL_eq]; omega) hJ q2 q3.1 q3.2.2.2.1) fun z hz => ?_
        refine ⟨hz.1, ⟨hz.2.1.1, ?_⟩, Sm_trans q8 fun p hp => ⟨hz.2.2.2.1 p (by omega), by rw [hz.2.2.1]⟩⟩
        refine CT_Fr q7.2 (hz.2.2.2.1 255 (by omega)) (hz.2.2.2.1 256 (by omega))
      obtain ⟨M1, hM1, z, hz, z1, z2, z3⟩ := cfz
      have mfz : ∀ M', RMm g M' → f_Model_freezes (i32 l) 0 M' = some (i32 (frz g.1.1 g.1.2.1.2.1 l g.1.2.1.2.2.1 (y_C g.1.1) 0 0 0 g.1.2.1.2.2.1).1, M') := fun M' hm' => m_frz0 hv hl hm'.1.1.1 hg.1.2.1.1 (y_C g.1.1) 0 FUEL 0 0 _ (Nat.zero_add _) (by rw [FUEL_eq]; omega) (Nat.le_refl _)
      have mpl : ∀ M', RMm g M' → f_Model_isPlace (i32 l) 0 M' = some (1, M') := fun M' hm' => by
        have := m_isPlace hm'.1.1.1.1 hm'.1.1.1.2.1 hv (l := l) (c := 0) (by omega) (by omega)
        rw [if_pos ⟨hl, by omega⟩] at this
        exact this
      by_cases hz0 : (frz g.1.1 g.1.2.1.2.1 l g.1.2.1.2.2.1 (y_C g.1.1) 0 0 0 g.1.2.1.2.2.1).1 = 0
      · refine both_ask (v := -1) hg hc hm ?_ fun M' hc' hm' => ?_
        · unfold f_GraveRails_frost
          rw [if_neg (fun z => (i32_neg h1).mp z), e0, if_pos (by rw [i32_lt h1 (by omega)]; exact hl), hM1, Option.bind_some, hz, Option.bind_some, z1, hz0]
          rw [if_pos (show i32 0 = 0 from rfl)]
          exact OK_some ⟨rfl, RC_Sm hg hc z3, Sm_le z3 (by omega) (by omega)⟩
        · unfold f_Model_frost
          rw [mpl M' hm', bnd1]
          dsimp only
          rw [mfz M' hm', hz0]
          exact ⟨_, bnd (if_pos rfl), rfl, FrN_refl _⟩
      · have hS' : VS g.1.1 (g.1.2.1.1, g.1.2.1.2.1, (frz g.1.1 g.1.2.1.2.1 l g.1.2.1.2.2.1 (y_C g.1.1) 0 0 0 g.1.2.1.2.2.1).2, g.1.2.1.2.2.2) := ⟨hok.1, hg.1.2.1.2.1, hg.1.2.1.2.2.1, hg.1.2.1.2.2.2.1, hg.1.2.1.2.2.2.2.1, hok.2.1, hg.1.2.1.2.2.2.2.2.2⟩
        have hle := hok.2.2
        refine both_do (v := i32 (frz g.1.1 g.1.2.1.2.1 l g.1.2.1.2.2.1 (y_C g.1.1) 0 0 0 g.1.2.1.2.2.1).1) hm (VG_state hg hS') ?_ fun M' hm' => ?_
        · unfold f_GraveRails_frost
          rw [if_neg (fun z => (i32_neg h1).mp z), e0, if_pos (by rw [i32_lt h1 (by omega)]; exact hl), hM1, Option.bind_some, hz, Option.bind_some, z1]
          rw [if_neg (by rw [show (0 : Int32) = i32 0 from rfl, i32_eq (by omega) (by omega)]; exact hz0)]
          have hcz := RC_Sm hg hc z3
          refine OK_bind (c_keep (by omega) hg.2.2.2.2.2.2.1 hcz.1.2.1 hcz.2.2.2.1) fun M2 h2 => ?_
          refine OK_bind (c_copyX (S := 29) (T := 247) (by omega) (CSX_of z2 fun j hj => Sm_i h2.2 (by omega))) fun M3 h3 => ?_
          refine OK_some ⟨rfl, RC_state hg hcz h3.1 (CA_of h2.1 fun p a b => Sm_i h3.2 (by omega)) (fun p hp => ?_) ?_, ?_⟩
          · rw [Sm_i h3.2 (by omega), Sm_i h2.2 (by omega)]
          · show M3.2.2.2 269 = _
            rw [Sm_r h3.2 (by omega), Sm_r h2.2 (by omega)]
          · exact Sm_trans (Sm_le z3 (by omega) (by omega)) (Sm_trans (Sm_le h2.2 (by omega) (by omega)) (Sm_le h3.2 (by omega) (by omega)))
        · unfold f_Model_frost
          rw [mpl M' hm', bnd1]
          dsimp only
          rw [mfz M' hm', Option.bind_some]
          dsimp only
          rw [if_neg (by rw [show (0 : Int32) = i32 0 from rfl, i32_eq (by omega) (by omega)]; exact hz0)]
          refine OK_bind (m_keepsAct hg.2.2.2.2.2.2.1 hm'.1.1 hm'.2.2.2.2.2.2.1) fun M2 h2 => ?_
          obtain ⟨k1, k2, k3, k4⟩ := h2
          have e446 : M2.2.1 446 = M'.2.1 446 := k2 446 (by omega) (by omega)
          refine OK_bind (m_frz1 hv hl (y_C g.1.1) 0 FUEL 0 0 _ M2 (Nat.zero_add _) (by rw [FUEL_eq]; omega) hJ (by rw [e446]; exact hm'.1.1.1) (by rw [e446]; exact hm'.1.2.1)) fun q hq => ?_
          obtain ⟨q1, q2, q3, q4, q5⟩ := hq
          rw [e446] at q4 q5
          obtain ⟨x1, x2, x3, x4, x5, x6⟩ := hm'.1.1
          refine OK_some ⟨q1, RM_state hg hm' ⟨q2, MT_cong x2 (show g.1.2.1.2.1 ≤ 11 by omega) fun i a b => q4 i (by omega), fun j hj => (q5 j).trans (x3 j hj), (q4 4 (by omega)).trans x4, (q4 5 (by omega)).trans x5, (q4 6 (by omega)).trans x6⟩ (fun i hi => q4 i (by omega)) ⟨?_, ?_⟩ (fun i hi => ?_) (fun p hp => ?_), Sm_trans (Sm_le k3 (by omega) (by omega)) (Sm_le q3 (by omega) (by omega))⟩
          · show q.2.2.1 436 30 = _
            rw [Sm_i q3 (by omega)]; exact k1.1
          · show ∀ j, j < _ → MSX _ _ fun i => q.2.2.1 449 (131 * j + i)
            rw [Sm_i q3 (by omega)]; exact k1.2
          · show q.2.2.1 436 i = _
            rw [Sm_i q3 (by omega)]; exact k4 i (by omega)
          · show q.2.2.1 p = _
            rw [Sm_i q3 (by omega)]; exact k2 p (by omega) (by omega)
    · refine both_pure hi' ⟨-1, ?_, ?_⟩
      · unfold f_GraveRails_frost
        rw [if_neg (fun z => (i32_neg h1).mp z), e0, if_neg (by rw [i32_lt h1 (by omega)]; exact hl)]
      · unfold f_Model_frost
        have := m_isPlace hm.1.1.1.1 hm.1.1.1.2.1 hv (l := l) (c := 0) h1 (by omega)
        rw [if_neg (fun z => hl z.1)] at this
        rw [show f_Model_isPlace (i32 l) 0 M = _ from this, bnd0]
