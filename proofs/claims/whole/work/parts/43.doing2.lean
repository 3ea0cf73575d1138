/-! ===== pay, undo, sight ===== -/
theorem g_lies {y : Yd} {s : Sx} (h : VS y s) {a l c : Nat} (ha : a < s.2.1) (hp : (s.2.2.1 a).1 = some (l, c)) : l < 4 ∧ c < 20 := eL_lt h.1 ha hp
theorem e01_d {p : Prop} [Decidable p] : (e01 (decide p) = 0) = ¬ p := by
  by_cases h : p
  · rw [decide_eq_true h]
    exact propext ⟨fun z => absurd z (by decide), fun z => absurd h z⟩
  · rw [decide_eq_false h]
    exact propext ⟨fun _ => h, fun _ => rfl⟩
/-- of a body another kind -/
def kndB (k : Nat) (b : B) : B := (b.1, k, b.2.2.1, b.2.2.2.1, b.2.2.2.2.1, b.2.2.2.2.2)
theorem VS_pay {y : Yd} {s : Sx} (h : VS y s) {a : Nat} (ha : a < s.2.1) (hk : (s.2.2.1 a).2.1 = 2) : VS y (s.1, s.2.1, bup s.2.2.1 a (kndB 0 (s.2.2.1 a)), s.2.2.2) := by
  obtain ⟨⟨h1, h1', h1'', h4, h5⟩, h2, h3, hn, hy, h6, h7⟩ := h
  refine ⟨⟨h1, h1', h1'', fun g hg => ?_, fun i j p hi hj pi pj => ?_⟩, h2, h3, hn, hy, fun g hg => ?_, h7⟩
  · by_cases q : g = a
    · subst q
      simp only [bup_e]
      exact ⟨(h4 g hg).1, Nat.zero_le _, (h4 g hg).2.2.1, fun z => (by cases z)⟩
    · simp only [bup_o q]
      exact h4 g hg
  · have e : ∀ i, (bup s.2.2.1 a (kndB 0 (s.2.2.1 a)) i).1 = (s.2.2.1 i).1 := fun i => by
      by_cases q : i = a
      · subst q; rw [bup_e]; rfl
      · rw [bup_o q]
    rw [e] at pi pj
    exact h5 i j p hi hj pi pj
  · by_cases q : g = a
    · subst q
      simp only [bup_e]
      exact h6 g hg
    · simp only [bup_o q]
      exact h6 g hg
theorem both_pay {x1 : Int32} {M : mM} (hi : Inv M) : Both (f_GraveRails_pay x1) (f_Model_pay x1) M := by
  have hi' := hi
  obtain ⟨g, hg, hc, hm⟩ := hi
  have hn := hg.1.2.1.2.2.2.1
  have hS := hc.1.2.1.1
  have hN := hm.1.1.1
  rcases i32_cases x1 with h1 | ⟨a, h1, rfl⟩
  · refine both_pure hi' ⟨0, ?_, ?_⟩
    · unfold f_GraveRails_pay
      rw [c_hasN h1]
      exact bnd (if_pos rfl)
    · unfold f_Model_pay
      rw [m_isGraveN h1]
      exact bnd (if_pos rfl)
  · by_cases ha : a < g.1.2.1.2.1
    · obtain ⟨ha11, ⟨e0, e1, e2, e3, e4, e5, e6, e7, e8⟩, -⟩ := g_both hg hc hm ha
      have ek : M.2.1 32 a = i32 (g.1.2.1.2.2.1 a).2.1 := (hS.2.2.2.2 a ha).2.2.1
      have mk : M.2.1 446 (10 + 9 * a + 2) = i32 (g.1.2.1.2.2.1 a).2.1 := e2.symm.trans ek
      have k3 := (hg.1.2.1.1.2.2.2.1 a ha).2.1
      by_cases ck : (g.1.2.1.2.2.1 a).2.1 = 2
      · by_cases cl : (g.1.2.1.2.2.1 a).1 = none
        · refine both_pure hi' ⟨0, ?_, ?_⟩
          · unfold f_GraveRails_pay
            rw [c_has1 hS ha]
            simp (disch := omega) only [i32_lt, i32_le, i32_eq, i32_add, i32_mul, i32_neg, i32_nn, i32_ne1, i32_n1e, n1_lt_i32, i32_le_n1, i32_dec, i32_cl, rd_i32, ix_i32, wr_i32, pI_s, pR_s, pC_s, pZ_0, pZ_1, Option.bind_some, ite_true, ite_false, if_true, if_false, gIL, gRI, nlt_0, l0_lt, nle_0, l0_le, neq_0, nadd_0, nmul_0, nmul'_0, nadd'_0, nsub_0, nlt_1, l1_lt, nle_1, l1_le, neq_1, nadd_1, nmul_1, nmul'_1, nadd'_1, nsub_1, nlt_2, l2_lt, nle_2, l2_le, neq_2, nadd_2, nmul_2, nmul'_2, nadd'_2, nsub_2, nlt_3, l3_lt, nle_3, l3_le, neq_3, nadd_3, nmul_3, nmul'_3, nadd'_3, nsub_3, nlt_4, l4_lt, nle_4, l4_le, neq_4, nadd_4, nmul_4, nmul'_4, nadd'_4, nsub_4, nlt_5, l5_lt, nle_5, l5_le, neq_5, nadd_5, nmul_5, nmul'_5, nadd'_5, nsub_5, nlt_6, l6_lt, nle_6, l6_le, neq_6, nadd_6, nmul_6, nmul'_6, nadd'_6, nsub_6, nlt_7, l7_lt, nle_7, l7_le, neq_7, nadd_7, nmul_7, nmul'_7, nadd'_7, nsub_7, nlt_8, l8_lt, nle_8, l8_le, neq_8, nadd_8, nmul_8, nmul'_8, nadd'_8, nsub_8, nlt_9, l9_lt, nle_9, l9_le, neq_9, nadd_9, nmul_9, nmul'_9, nadd'_9, nsub_9, nlt_10, l10_lt, nle_10, l10_le, neq_10, nadd_10, nmul_10, nmul'_10, nadd'_10, nsub_10, nlt_11, l11_lt, nle_11, l11_le, neq_11, nadd_11, nmul_11, nmul'_11, nadd'_11, nsub_11, nlt_12, l12_lt, nle_12, l12_le, neq_12, nadd_12, nmul_12, nmul'_12, nadd'_12, nsub_12, nlt_13, l13_lt, nle_13, l13_le, neq_13, nadd_13, nmul_13, nmul'_13, nadd'_13, nsub_13, nlt_20, l20_lt, nle_20, l20_le, neq_20, nadd_20, nmul_20, nmul'_20, nadd'_20, nsub_20, nlt_400, l400_lt, nle_400, l400_le, neq_400, nadd_400, nmul_400, nmul'_400, nadd'_400, nsub_400, rd_0, wr_0, rd_1, wr_1, rd_2, wr_2, rd_3, wr_3, rd_4, wr_4, rd_5, wr_5, rd_6, wr_6, rd_7, wr_7, rd_8, wr_8, rd_9, wr_9, rd_10, wr_10, rd_11, wr_11, rd_12, wr_12, d10, ek]
            rw [if_pos ck, c_lies0 hS hg.1.2.1.1 (by omega) (fun z => z.2 cl)]
            exact bnd (if_pos rfl)
          · unfold f_Model_pay
            rw [m_isGrave hN (by omega), if_pos ha]
            simp only [Option.bind_some, d10, if_false]
            rw [m_isFallen hN hg.1.2.1.1 ha]
            simp only [Option.bind_some, e01_d]
            rw [if_neg (fun z => z cl)]
        · refine both_do (v := 1) (g' := (setS g.1 (g.1.2.1.1, g.1.2.1.2.1, bup g.1.2.1.2.2.1 a (kndB 0 (g.1.2.1.2.2.1 a)), g.1.2.1.2.2.2), g.2.1, g.2.2.1, push g.2.2.2.1 g.1.2.1, g.2.2.2.2)) hm (VG_state hg (VS_pay hg.1.2.1 ha ck)) ?_ fun M' hm' => ?_
          · unfold f_GraveRails_pay
            rw [c_has1 hS ha]
            simp (disch := omega) only [i32_lt, i32_le, i32_eq, i32_add, i32_mul, i32_neg, i32_nn, i32_ne1, i32_n1e, n1_lt_i32, i32_le_n1, i32_dec, i32_cl, rd_i32, ix_i32, wr_i32, pI_s, pR_s, pC_s, pZ_0, pZ_1, Option.bind_some, ite_true, ite_false, if_true, if_false, gIL, gRI, nlt_0, l0_lt, nle_0, l0_le, neq_0, nadd_0, nmul_0, nmul'_0, nadd'_0, nsub_0, nlt_1, l1_lt, nle_1, l1_le, neq_1, nadd_1, nmul_1, nmul'_1, nadd'_1, nsub_1, nlt_2, l2_lt, nle_2, l2_le, neq_2, nadd_2, nmul_2, nmul'_2, nadd'_2, nsub_2, nlt_3, l3_lt, nle_3, l3_le, neq_3, nadd_3, nmul_3, nmul'_3, nadd'_3, nsub_3, nlt_4, l4_lt, nle_4, l4_le, neq_4, nadd_4, nmul_4, nmul'_4, nadd'_4, nsub_4, nlt_5, l5_lt, nle_5, l5_le, neq_5, nadd_5, nmul_5, nmul'_5, nadd'_5, nsub_5, nlt_6, l6_lt, nle_6, l6_le, neq_6, nadd_6, nmul_6, nmul'_6, nadd'_6, nsub_6, nlt_7, l7_lt, nle_7, l7_le, neq_7, nadd_7, nmul_7, nmul'_7, nadd'_7, nsub_7, nlt_8, l8_lt, nle_8, l8_le, neq_8, nadd_8, nmul_8, nmul'_8, nadd'_8, nsub_8, nlt_9, l9_lt, nle_9, l9_le, neq_9, nadd_9, nmul_9, nmul'_9, nadd'_9, nsub_9, nlt_10, l10_lt, nle_10, l10_le, neq_10, nadd_10, nmul_10, nmul'_10, nadd'_10, nsub_10, nlt_11, l11_lt, nle_11, l11_le, neq_11, nadd_11, nmul_11, nmul'_11, nadd'_11, nsub_11, nlt_12, l12_lt, nle_12, l12_le, neq_12, nadd_12, nmul_12, nmul'_12, nadd'_12, nsub_12, nlt_13, l13_lt, nle_13, l13_le, neq_13, nadd_13, nmul_13, nmul'_13, nadd'_13, nsub_13, nlt_20, l20_lt, nle_20, l20_le, neq_20, nadd_20, nmul_20, nmul'_20, nadd'_20, nsub_20, nlt_400, l400_lt, nle_400, l400_le, neq_400, nadd_400, nmul_400, nmul'_400, nadd'_400, nsub_400, rd_0, wr_0, rd_1, wr_1, rd_2, wr_2, rd_3, wr_3, rd_4, wr_4, rd_5, wr_5, rd_6, wr_6, rd_7, wr_7, rd_8, wr_8, rd_9, wr_9, rd_10, wr_10, rd_11, wr_11, rd_12, wr_12, d10, ek]
            rw [if_pos ck, c_lies1 hS hg.1.2.1.1 ha cl]
            simp only [Option.bind_some, d10, if_false]
            refine OK_bind (c_keep (by omega) hg.2.2.2.2.2.2.1 hc.1.2.1 hc.2.2.2.1) fun M1 h1' => ?_
            have hX : CSX 29 g.1.2.1 M1 := CSX_of hc.1.2.1 fun j hj => Sm_i h1'.2 (by omega)
            refine OK_some ⟨rfl, RC_state hg hc ⟨CS_put (g := a) hX.1 ?_ ?_ ?_ (fun j hj => ?_) ?_, fun j hj => ?_⟩ (CA_of h1'.1 fun p a b => gIp (by omega)) (fun p hp => ?_) ?_, Sm_trans (Sm_le h1'.2 (by omega) (by omega)) (Sm_I (by omega))⟩
            · rw [gIp (by omega)]
            · rw [gIp (by omega)]
            · rw [gIp (by omega)]
              have : fMany (bup g.1.2.1.2.2.1 a (kndB 0 (g.1.2.1.2.2.1 a))) g.1.2.1.2.1 = fMany g.1.2.1.2.2.1 g.1.2.1.2.1 := fMany_same (g := a) (x := kndB 0 (g.1.2.1.2.2.1 a)) (show ((kndB 0 (g.1.2.1.2.2.1 a)).1 = none) = ((g.1.2.1.2.2.1 a).1 = none) from rfl)
              rw [this]
              exact hX.1.2.2.1
            · simp (disch := omega) only [gIe, gIp, gIo, gCe, gCn, gRI, gLI, gIR, gCR, gLR, gRe, gRo, gRp, gIl, and_self]
            · obtain ⟨a1, a2, a3, a4, a5, a6, a7⟩ := hX.1.2.2.2.2 a ha
              simp only [Nat.reduceAdd] at a1 a2 a3 a4 a5 a6 a7
              unfold CB kndB
              simp (disch := omega) only [gIe, gIp, gIo, gCe, gCn, gRI, gLI, gIR, gCR, gLR, gRe, gRo, gRp, gIl, Nat.reduceAdd, a1, a2, a4, a5, a6, a7]
              exact ⟨trivial, trivial, rfl, trivial, trivial, trivial, trivial⟩
            · rw [gIp (by omega), gIp (by omega)]
              exact hX.2 j hj
            · rw [gIp (by omega), Sm_i h1'.2 (by omega)]
            · show M1.2.2.2 269 = _
              rw [Sm_r h1'.2 (by omega)]
          · have hN' := hm'.1.1.1
            have mk' : M'.2.1 446 (10 + 9 * a + 2) = i32 (g.1.2.1.2.2.1 a).2.1 := (hN'.2.2.2.2.2 a ha).1.2.2.1
            unfold f_Model_pay
            rw [m_isGrave hN' (by omega), if_pos ha]
            simp only [Option.bind_some, d10, if_false]
            rw [m_isFallen hN' hg.1.2.1.1 ha]
            simp only [Option.bind_some, e01_d]
            rw [if_pos cl, m_g2 ha11]
            simp (disch := omega) only [i32_lt, i32_le, i32_eq, i32_add, i32_mul, i32_neg, i32_nn, i32_ne1, i32_n1e, n1_lt_i32, i32_le_n1, i32_dec, i32_cl, rd_i32, ix_i32, wr_i32, pI_s, pR_s, pC_s, pZ_0, pZ_1, Option.bind_some, ite_true, ite_false, if_true, if_false, gIL, gRI, nlt_0, l0_lt, nle_0, l0_le, neq_0, nadd_0, nmul_0, nmul'_0, nadd'_0, nsub_0, nlt_1, l1_lt, nle_1, l1_le, neq_1, nadd_1, nmul_1, nmul'_1, nadd'_1, nsub_1, nlt_2, l2_lt, nle_2, l2_le, neq_2, nadd_2, nmul_2, nmul'_2, nadd'_2, nsub_2, nlt_3, l3_lt, nle_3, l3_le, neq_3, nadd_3, nmul_3, nmul'_3, nadd'_3, nsub_3, nlt_4, l4_lt, nle_4, l4_le, neq_4, nadd_4, nmul_4, nmul'_4, nadd'_4, nsub_4, nlt_5, l5_lt, nle_5, l5_le, neq_5, nadd_5, nmul_5, nmul'_5, nadd'_5, nsub_5, nlt_6, l6_lt, nle_6, l6_le, neq_6, nadd_6, nmul_6, nmul'_6, nadd'_6, nsub_6, nlt_7, l7_lt, nle_7, l7_le, neq_7, nadd_7, nmul_7, nmul'_7, nadd'_7, nsub_7, nlt_8, l8_lt, nle_8, l8_le, neq_8, nadd_8, nmul_8, nmul'_8, nadd'_8, nsub_8, nlt_9, l9_lt, nle_9, l9_le, neq_9, nadd_9, nmul_9, nmul'_9, nadd'_9, nsub_9, nlt_10, l10_lt, nle_10, l10_le, neq_10, nadd_10, nmul_10, nmul'_10, nadd'_10, nsub_10, nlt_11, l11_lt, nle_11, l11_le, neq_11, nadd_11, nmul_11, nmul'_11, nadd'_11, nsub_11, nlt_12, l12_lt, nle_12, l12_le, neq_12, nadd_12, nmul_12, nmul'_12, nadd'_12, nsub_12, nlt_13, l13_lt, nle_13, l13_le, neq_13, nadd_13, nmul_13, nmul'_13, nadd'_13, nsub_13, nlt_20, l20_lt, nle_20, l20_le, neq_20, nadd_20, nmul_20, nmul'_20, nadd'_20, nsub_20, nlt_400, l400_lt, nle_400, l400_le, neq_400, nadd_400, nmul_400, nmul'_400, nadd'_400, nsub_400, rd_0, wr_0, rd_1, wr_1, rd_2, wr_2, rd_3, wr_3, rd_4, wr_4, rd_5, wr_5, rd_6, wr_6, rd_7, wr_7, rd_8, wr_8, rd_9, wr_9, rd_10, wr_10, rd_11, wr_11, rd_12, wr_12, mk']
            rw [if_pos ck]
            refine OK_bind (m_keepsAct hg.2.2.2.2.2.2.1 hm'.1.1 hm'.2.2.2.2.2.2.1) fun M1 h1' => ?_
            obtain ⟨k1, k2, k3', k4⟩ := h1'
            have e446 : M1.2.1 446 = M'.2.1 446 := k2 446 (by omega) (by omega)
            obtain ⟨⟨m0, m1, m2, m3, m4, m5⟩, t, q, f4, f5, f6⟩ := hm'.1.1
            have eo : ∀ i, i ≠ 10 + 9 * a + 2 → (msI M1 446 (10 + 9 * a + 2) 0).2.1 446 i = M'.2.1 446 i := fun i hi => by rw [gIo hi, e446]
            refine OK_some ⟨rfl, RM_state hg hm' ⟨⟨(eo 0 (by omega)).trans m0, (eo 1 (by omega)).trans m1, (eo 2 (by omega)).trans m2, (eo 3 (by omega)).trans m3, m4, fun j hj => ?_⟩, fun j hj => ⟨(eo _ (by have hj' : j < g.1.2.1.2.1 := hj; omega)).trans (t j hj).1, (eo _ (by have hj' : j < g.1.2.1.2.1 := hj; omega)).trans (t j hj).2⟩, fun j hj => (eo _ (by omega)).trans (q j hj), (eo 4 (by omega)).trans f4, (eo 5 (by omega)).trans f5, (eo 6 (by omega)).trans f6⟩ (fun i hi => eo i (by omega)) ⟨by rw [gIp (by omega)]; exact k1.1, by rw [gIp (by omega)]; exact k1.2⟩ (fun i hi => by rw [gIp (by omega)]; exact k4 i (by omega)) (fun p hp => by rw [gIp (by omega)]; exact k2 p (by omega) (by omega)), Sm_trans (Sm_le k3' (by omega) (by omega)) (Sm_I (by omega))⟩
            have hj' : j < g.1.2.1.2.1 := hj
            show MB _ j (bup g.1.2.1.2.2.1 a (kndB 0 (g.1.2.1.2.2.1 a)) j) ∧ _
            obtain ⟨⟨a1, a2, a3, a4, a5, a6, a7⟩, a8⟩ := m5 j hj'
            by_cases qj : j = a
            · subst qj
              rw [bup_e]
              exact ⟨⟨(eo _ (by omega)).trans a1, (eo _ (by omega)).trans a2, gIe _ _ _ _, (eo _ (by omega)).trans a4, (eo _ (by omega)).trans a5, (eo _ (by omega)).trans a6, (eo _ (by omega)).trans a7⟩, (eo _ (by omega)).trans a8⟩
            · rw [bup_o qj]
              exact ⟨⟨(eo _ (by omega)).trans a1, (eo _ (by omega)).trans a2, (eo _ (by omega)).trans a3, (eo _ (by omega)).trans a4, (eo _ (by omega)).trans a5, (eo _ (by omega)).trans a6, (eo _ (by omega)).trans a7⟩, (eo _ (by omega)).trans a8⟩
      · refine both_pure hi' ⟨0, ?_, ?_⟩
        · unfold f_GraveRails_pay
          rw [c_has1 hS ha]
          simp (disch := omega) only [i32_lt, i32_le, i32_eq, i32_add, i32_mul, i32_neg, i32_nn, i32_ne1, i32_n1e, n1_lt_i32, i32_le_n1, i32_dec, i32_cl, rd_i32, ix_i32, wr_i32, pI_s, pR_s, pC_s, pZ_0, pZ_1, Option.bind_some, ite_true, ite_false, if_true, if_false, gIL, gRI, nlt_0, l0_lt, nle_0, l0_le, neq_0, nadd_0, nmul_0, nmul'_0, nadd'_0, nsub_0, nlt_1, l1_lt, nle_1, l1_le, neq_1, nadd_1, nmul_1, nmul'_1, nadd'_1, nsub_1, nlt_2, l2_lt, nle_2, l2_le, neq_2, nadd_2, nmul_2, nmul'_2, nadd'_2, nsub_2, nlt_3, l3_lt, nle_3, l3_le, neq_3, nadd_3, nmul_3, nmul'_3, nadd'_3, nsub_3, nlt_4, l4_lt, nle_4, l4_le, neq_4, nadd_4, nmul_4, nmul'_4, nadd'_4, nsub_4, nlt_5, l5_lt, nle_5, l5_le, neq_5, nadd_5, nmul_5, nmul'_5, nadd'_5, nsub_5, nlt_6, l6_lt, nle_6, l6_le, neq_6, nadd_6, nmul_6, nmul'_6, nadd'_6, nsub_6, nlt_7, l7_lt, nle_7, l7_le, neq_7, nadd_7, nmul_7, nmul'_7, nadd'_7, nsub_7, nlt_8, l8_lt, nle_8, l8_le, neq_8, nadd_8, nmul_8, nmul'_8, nadd'_8, nsub_8, nlt_9, l9_lt, nle_9, l9_le, neq_9, nadd_9, nmul_9, nmul'_9, nadd'_9, nsub_9, nlt_10, l10_lt, nle_10, l10_le, neq_10, nadd_10, nmul_10, nmul'_10, nadd'_10, nsub_10, nlt_11, l11_lt, nle_11, l11_le, neq_11, nadd_11, nmul_11, nmul'_11, nadd'_11, nsub_11, nlt_12, l12_lt, nle_12, l12_le, neq_12, nadd_12, nmul_12, nmul'_12, nadd'_12, nsub_12, nlt_13, l13_lt, nle_13, l13_le, neq_13, nadd_13, nmul_13, nmul'_13, nadd'_13, nsub_13, nlt_20, l20_lt, nle_20, l20_le, neq_20, nadd_20, nmul_20, nmul'_20, nadd'_20, nsub_20, nlt_400, l400_lt, nle_400, l400_le, neq_400, nadd_400, nmul_400, nmul'_400, nadd'_400, nsub_400, rd_0, wr_0, rd_1, wr_1, rd_2, wr_2, rd_3, wr_3, rd_4, wr_4, rd_5, wr_5, rd_6, wr_6, rd_7, wr_7, rd_8, wr_8, rd_9, wr_9, rd_10, wr_10, rd_11, wr_11, rd_12, wr_12, d10, ek]
          rw [if_neg ck]
        · unfold f_Model_pay
          rw [m_isGrave hN (by omega), if_pos ha]
          simp only [Option.bind_some, d10, if_false]
          rw [m_isFallen hN hg.1.2.1.1 ha]
          simp only [Option.bind_some, e01_d]
          by_cases cl : (g.1.2.1.2.2.1 a).1 = none
          · rw [if_neg (fun z => z cl)]
          · rw [if_pos cl, m_g2 ha11]
            simp (disch := omega) only [i32_lt, i32_le, i32_eq, i32_add, i32_mul, i32_neg, i32_nn, i32_ne1, i32_n1e, n1_lt_i32, i32_le_n1, i32_dec, i32_cl, rd_i32, ix_i32, wr_i32, pI_s, pR_s, pC_s, pZ_0, pZ_1, Option.bind_some, ite_true, ite_false, if_true, if_false, gIL, gRI, nlt_0, l0_lt, nle_0, l0_le, neq_0, nadd_0, nmul_0, nmul'_0, nadd'_0, nsub_0, nlt_1, l1_lt, nle_1, l1_le, neq_1, nadd_1, nmul_1, nmul'_1, nadd'_1, nsub_1, nlt_2, l2_lt, nle_2, l2_le, neq_2, nadd_2, nmul_2, nmul'_2, nadd'_2, nsub_2, nlt_3, l3_lt, nle_3, l3_le, neq_3, nadd_3, nmul_3, nmul'_3, nadd'_3, nsub_3, nlt_4, l4_lt, nle_4, l4_le, neq_4, nadd_4, nmul_4, nmul'_4, nadd'_4, nsub_4, nlt_5, l5_lt, nle_5, l5_le, neq_5, nadd_5, nmul_5, nmul'_5, nadd'_5, nsub_5, nlt_6, l6_lt, nle_6, l6_le, neq_6, nadd_6, nmul_6, nmul'_6, nadd'_6, nsub_6, nlt_7, l7_lt, nle_7, l7_le, neq_7, nadd_7, nmul_7, nmul'_7, nadd'_7, nsub_7, nlt_8, l8_lt, nle_8, l8_le, neq_8, nadd_8, nmul_8, nmul'_8, nadd'_8, nsub_8, nlt_9, l9_lt, nle_9, l9_le, neq_9, nadd_9, nmul_9, nmul'_9, nadd'_9, nsub_9, nlt_10, l10_lt, nle_10, l10_le, neq_10, nadd_10, nmul_10, nmul'_10, nadd'_10, nsub_10, nlt_11, l11_lt, nle_11, l11_le, neq_11, nadd_11, nmul_11, nmul'_11, nadd'_11, nsub_11, nlt_12, l12_lt, nle_12, l12_le, neq_12, nadd_12, nmul_12, nmul'_12, nadd'_12, nsub_12, nlt_13, l13_lt, nle_13, l13_le, neq_13, nadd_13, nmul_13, nmul'_13, nadd'_13, nsub_13, nlt_20, l20_lt, nle_20, l20_le, neq_20, nadd_20, nmul_20, nmul'_20, nadd'_20, nsub_20, nlt_400, l400_lt, nle_400, l400_le, neq_400, nadd_400, nmul_400, nmul'_400, nadd'_400, nsub_400, rd_0, wr_0, rd_1, wr_1, rd_2, wr_2, rd_3, wr_3, rd_4, wr_4, rd_5, wr_5, rd_6, wr_6, rd_7, wr_7, rd_8, wr_8, rd_9, wr_9, rd_10, wr_10, rd_11, wr_11, rd_12, wr_12, mk]
            rw [if_neg ck]
    · refine both_pure hi' ⟨0, ?_, ?_⟩
      · unfold f_GraveRails_pay
        rw [c_has hS (by omega), if_neg ha]
        exact bnd (if_pos rfl)
      · unfold f_Model_pay
        rw [m_isGrave hN (by omega), if_neg ha]
        exact bnd (if_pos rfl)
theorem both_undo {M : mM} (hi : Inv M) : Both f_GraveRails_undo f_Model_undo M := by
  have hi' := hi
  obtain ⟨g, hg, hc, hm⟩ := hi
  have ha20 := hg.2.2.2.2.2.2.1
  by_cases ha : 0 < g.2.2.2.1.1
  · refine both_do (v := i32 (g.2.2.2.1.1 - 1)) (g' := (setS g.1 (g.2.2.2.1.2 (g.2.2.2.1.1 - 1)), g.2.1, g.2.2.1, (g.2.2.2.1.1 - 1, g.2.2.2.1.2), g.2.2.2.2)) hm ?_ ?_ fun M' hm' => ?_
    · refine VG_w hg ⟨hg.1.1, hg.2.2.2.2.2.2.2.1 _ (by omega), hg.1.2.2.1, hg.1.2.2.2.1, hg.1.2.2.2.2⟩ hg.2.1 ?_ fun j hj => ?_
      · show g.2.2.2.1.1 - 1 ≤ 20
        omega
      · have hj' : j < g.2.2.2.1.1 - 1 := hj
        exact hg.2.2.2.2.2.2.2.1 j (by omega)
    · unfold f_GraveRails_undo
      refine OK_bind (c_takeBack ha20 hc.2.2.2.1 ha) fun z hz => ?_
      obtain ⟨z1, z2, z3, z4⟩ := hz
      rw [if_neg (by rw [z1]; decide)]
      refine OK_some ⟨z2.1, RC_state hg hc z3 z2 (fun p hp => (z4 p (by omega) (by omega)).1) (z4 269 (by omega) (by omega)).2, fun p hp => z4 p (by omega) (by omega)⟩
    · refine OK_imp (m_undo ha20 hm'.2.2.2.2.2.2.1 ha) fun z hz => ?_
      obtain ⟨z1, z2, z3, z4, z5, z6, z7⟩ := hz
      exact ⟨z1, RM_state hg hm' z3 z4 z2 (fun i hi => z7 i (by omega)) (fun p hp => z5 p (by omega) (by omega)), z6⟩
  · have e0 : g.2.2.2.1.1 = 0 := by omega
    refine both_pure hi' ⟨-1, ?_, ?_⟩
    · unfold f_GraveRails_undo f_Acts_takeBack
      rw [hc.2.2.2.1.1, e0]
      rfl
    · unfold f_Model_undo
      rw [hm.2.2.2.2.2.2.1.1, e0]
      rfl
