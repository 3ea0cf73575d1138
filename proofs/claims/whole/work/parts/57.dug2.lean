/-! ===== dug, both ===== -/
def dgb (l C k : Nat) : Nat → B := bup (fun _ => (none, 0, 0, 0, 0, 0)) 0 (dgB l (C - 1) k (i32 0))
def dS0 : Sx := (0, 0, (fun _ => (none, 0, 0, 0, 0, 0)), fun _ => none)
theorem Ln_dg {l C k : Nat} : Ln l (dgb l C k) := fun p hp => by
  unfold dgb at hp
  rw [bup_e] at hp
  rw [← Option.some.inj hp]
theorem V_dS0 {L C : Nat} (hL : L ≤ 4) (hC : C ≤ 20) : V L C 0 dS0.2.2.1 := ⟨hL, hC, Nat.zero_le _, fun g hg => absurd hg (Nat.not_lt_zero _), fun g h p hg => absurd hg (Nat.not_lt_zero _)⟩
theorem RC_bare {g : Gx} {M M' : mM} (hg : VG g) (h : RC g M) (he : CE M') (e : ∀ p, p < 246 ∨ (269 ≤ p ∧ p < 290) ∨ (308 ≤ p ∧ p < 436) → M'.2.1 p = M.2.1 p) (er : M'.2.2.2 269 = M.2.2.2 269) : RC g M' := by
  obtain ⟨h1, h2, h3, h4, h5, h6, h7⟩ := h
  have := hg.2.2.2.2.1
  exact ⟨CW_of h1 fun k hk => e _ (by omega), CP_of h2 (by rw [e 1 (by omega)]) (e 2 (by omega)), CU_of h3 (e 0 (by omega)) fun p a b => e p (by omega), CA_of h4 fun p a b => e p (by omega), fun k hk => CI_of (h5 k hk) fun j hj => e _ (by omega), he, CZ_of h7 (fun p hp => e p (by omega)) er⟩
theorem dug_no {x1 x2 x3 x4 : Int32} {M : mM} (hi : Inv M) (h : x1 < 0 ∨ 2 < x1 ∨ (∃ g, VG g ∧ RC g M ∧ RMm g M ∧ f_Yard_hasPlace 21 x2 x3 M = some (0, M) ∧ f_Model_isPlace x2 x3 M = some (0, M)) ∨ x4 < 0 ∨ 2 < x4) : Both (f_GraveRails_dug x1 x2 x3 x4) (f_Model_dug x1 x2 x3 x4) M := by
  have hi' := hi
  obtain ⟨g, hg, hc, hm⟩ := hi
  refine both_pure hi' ⟨-1, ?_, ?_⟩
  · unfold f_GraveRails_dug
    by_cases q1 : x1 < 0
    · rw [if_pos q1]
    · rw [if_neg q1]
      by_cases q2 : 2 < x1
      · rw [if_pos q2]
      · rw [if_neg q2]
        rcases place_both hg hc hm x2 x3 with ⟨p1, p2⟩ | ⟨l, c, rfl, rfl, b1, b2, b3, b4, p1, p2⟩
        · rw [p1, bnd0]
        · rw [p1, bnd1]
          dsimp only
          by_cases q3 : x4 < 0
          · rw [if_pos q3]
          · rw [if_neg q3]
            refine if_neg fun z => ?_
            rcases h with w | w | ⟨g', _, _, _, w, _⟩ | w | w
            · exact q1 w
            · exact q2 w
            · rw [p1] at w
              have := congrArg Prod.fst (Option.some.inj w)
              exact d10.mp this
            · exact q3 w
            · exact Int32.not_lt.mpr z w
  · unfold f_Model_dug
    rcases i32_cases x1 with h1 | ⟨k, h1, rfl⟩
    · rw [m_inN (lo := 0) (hi := 2) h1 (by omega), bnd0]
    · by_cases ck : k ≤ 2
      · rw [m_inY (lo := 0) (hi := 2) ⟨Nat.zero_le _, ck⟩ (by omega), bnd1]
        dsimp only
        rcases place_both hg hc hm x2 x3 with ⟨p1, p2⟩ | ⟨l, c, rfl, rfl, b1, b2, b3, b4, p1, p2⟩
        · rw [p2, bnd0]
        · rw [p2, bnd1]
          dsimp only
          rcases i32_cases x4 with h4 | ⟨w, h4, rfl⟩
          · rw [m_inN (lo := 0) (hi := 2) h4 (by omega), bnd0]
          · have cw : ¬ w ≤ 2 := by
              intro cw
              rcases h with z | z | ⟨g', _, _, _, z, _⟩ | z | z
              · exact (i32_neg h1).mp z
              · rw [show (2 : Int32) = i32 2 from rfl, i32_lt (by omega) h1] at z; omega
              · rw [p1] at z
                have := congrArg Prod.fst (Option.some.inj z)
                exact d10.mp this
              · exact (i32_neg h4).mp z
              · rw [show (2 : Int32) = i32 2 from rfl, i32_lt (by omega) h4] at z; omega
            rw [m_inX (lo := 0) (hi := 2) h4 (by omega) (by omega) (by omega), bnd0]
      · rw [m_inX (lo := 0) (hi := 2) h1 (by omega) (by omega) (by omega), bnd0]
theorem c_bare {g : Gx} {M : mM} (hg : VG g) (hc : RC g M) : OK (f_Yard_becomeBare 290 21 M) fun M' => CY 290 (bare g.1.1 0) M' ∧ CE M' ∧ Sm 290 298 M M' := by
  obtain ⟨h0, h1, h2, h8, h10, hgr, hp, hr, hf⟩ := hc.1.1
  obtain ⟨e2, e8, e10, eg⟩ := hc.2.2.2.2.2.1
  simp only [Nat.reduceAdd] at h0 h1 hr
  unfold f_Yard_becomeBare
  simp (disch := omega) only [i32_lt, i32_le, i32_eq, i32_add, i32_mul, i32_neg, i32_nn, i32_ne1, i32_n1e, n1_lt_i32, i32_le_n1, i32_dec, i32_cl, rd_i32, ix_i32, wr_i32, pI_s, pR_s, pC_s, pZ_0, pZ_1, Option.bind_some, ite_true, ite_false, if_true, if_false, gIL, gRI, nlt_0, l0_lt, nle_0, l0_le, neq_0, nadd_0, nmul_0, nmul'_0, nadd'_0, nsub_0, nlt_1, l1_lt, nle_1, l1_le, neq_1, nadd_1, nmul_1, nmul'_1, nadd'_1, nsub_1, nlt_2, l2_lt, nle_2, l2_le, neq_2, nadd_2, nmul_2, nmul'_2, nadd'_2, nsub_2, nlt_3, l3_lt, nle_3, l3_le, neq_3, nadd_3, nmul_3, nmul'_3, nadd'_3, nsub_3, nlt_4, l4_lt, nle_4, l4_le, neq_4, nadd_4, nmul_4, nmul'_4, nadd'_4, nsub_4, nlt_5, l5_lt, nle_5, l5_le, neq_5, nadd_5, nmul_5, nmul'_5, nadd'_5, nsub_5, nlt_6, l6_lt, nle_6, l6_le, neq_6, nadd_6, nmul_6, nmul'_6, nadd'_6, nsub_6, nlt_7, l7_lt, nle_7, l7_le, neq_7, nadd_7, nmul_7, nmul'_7, nadd'_7, nsub_7, nlt_8, l8_lt, nle_8, l8_le, neq_8, nadd_8, nmul_8, nmul'_8, nadd'_8, nsub_8, nlt_9, l9_lt, nle_9, l9_le, neq_9, nadd_9, nmul_9, nmul'_9, nadd'_9, nsub_9, nlt_10, l10_lt, nle_10, l10_le, neq_10, nadd_10, nmul_10, nmul'_10, nadd'_10, nsub_10, nlt_11, l11_lt, nle_11, l11_le, neq_11, nadd_11, nmul_11, nmul'_11, nadd'_11, nsub_11, nlt_12, l12_lt, nle_12, l12_le, neq_12, nadd_12, nmul_12, nmul'_12, nadd'_12, nsub_12, nlt_13, l13_lt, nle_13, l13_le, neq_13, nadd_13, nmul_13, nmul'_13, nadd'_13, nsub_13, nlt_20, l20_lt, nle_20, l20_le, neq_20, nadd_20, nmul_20, nmul'_20, nadd'_20, nsub_20, nlt_400, l400_lt, nle_400, l400_le, neq_400, nadd_400, nmul_400, nmul'_400, nadd'_400, nsub_400, rd_0, wr_0, rd_1, wr_1, rd_2, wr_2, rd_3, wr_3, rd_4, wr_4, rd_5, wr_5, rd_6, wr_6, rd_7, wr_7, rd_8, wr_8, rd_9, wr_9, rd_10, wr_10, rd_11, wr_11, rd_12, wr_12, gIe, gIp, gIo, gCe, gCn, gRI, gLI, gIR, gCR, gLR, gRe, gRo, gRp, gIl, h0, h1, Nat.reduceAdd]
  refine OK_some ⟨⟨?_, ?_, ?_, ?_, ?_, fun g' q => absurd q (Nat.not_lt_zero _), fun g' q => ?_, fun l c q1 q2 => ?_, fun k q => absurd q (Nat.not_lt_zero _)⟩, ⟨?_, ?_, ?_, fun g' q => ?_⟩, ?_⟩
  · simp (disch := omega) only [gIe, gIp, gIo, gCe, gCn, gRI, gLI, gIR, gCR, gLR, gRe, gRo, gRp, gIl]
    rfl
  · simp (disch := omega) only [gIe, gIp, gIo, gCe, gCn, gRI, gLI, gIR, gCR, gLR, gRe, gRo, gRp, gIl]
    rfl
  · simp (disch := omega) only [gIe, gIp, gIo, gCe, gCn, gRI, gLI, gIR, gCR, gLR, gRe, gRo, gRp, gIl, e2]
    rfl
  · simp (disch := omega) only [gIe, gIp, gIo, gCe, gCn, gRI, gLI, gIR, gCR, gLR, gRe, gRo, gRp, gIl, e8]
    rfl
  · simp (disch := omega) only [gIe, gIp, gIo, gCe, gCn, gRI, gLI, gIR, gCR, gLR, gRe, gRo, gRp, gIl, e10]
    rfl
  · have := eg g' q
    simp (disch := omega) only [gIe, gIp, gIo, gCe, gCn, gRI, gLI, gIR, gCR, gLR, gRe, gRo, gRp, gIl, Nat.reduceAdd, this]
    exact ⟨rfl, rfl⟩
  · have := hr l c q1 q2
    simp (disch := omega) only [gIe, gIp, gIo, gCe, gCn, gRI, gLI, gIR, gCR, gLR, gRe, gRo, gRp, gIl, Nat.reduceAdd, this]
    rfl
  · simp (disch := omega) only [gIe, gIp, gIo, gCe, gCn, gRI, gLI, gIR, gCR, gLR, gRe, gRo, gRp, gIl, e2]
  · simp (disch := omega) only [gIe, gIp, gIo, gCe, gCn, gRI, gLI, gIR, gCR, gLR, gRe, gRo, gRp, gIl, e8]
  · simp (disch := omega) only [gIe, gIp, gIo, gCe, gCn, gRI, gLI, gIR, gCR, gLR, gRe, gRo, gRp, gIl, e10]
  · have := eg g' q
    simp (disch := omega) only [gIe, gIp, gIo, gCe, gCn, gRI, gLI, gIR, gCR, gLR, gRe, gRo, gRp, gIl, this, and_self]
  · intro p hp'
    simp (disch := omega) only [gIe, gIp, gIo, gCe, gCn, gRI, gLI, gIR, gCR, gLR, gRe, gRo, gRp, gIl, and_self]
theorem c_startOf0 {S T : Nat} {M : mM} (hT : M.2.1 T 2 = 0) (hd : T < S ∨ S + 10 ≤ T) : OK (f_State_startOf S T M) fun M' => CSX S dS0 M' ∧ Sm S (S + 10) M M' := by
  unfold f_State_startOf
  simp (disch := omega) only [i32_lt, i32_le, i32_eq, i32_add, i32_mul, i32_neg, i32_nn, i32_ne1, i32_n1e, n1_lt_i32, i32_le_n1, i32_dec, i32_cl, rd_i32, ix_i32, wr_i32, pI_s, pR_s, pC_s, pZ_0, pZ_1, Option.bind_some, ite_true, ite_false, if_true, if_false, gIL, gRI, nlt_0, l0_lt, nle_0, l0_le, neq_0, nadd_0, nmul_0, nmul'_0, nadd'_0, nsub_0, nlt_1, l1_lt, nle_1, l1_le, neq_1, nadd_1, nmul_1, nmul'_1, nadd'_1, nsub_1, nlt_2, l2_lt, nle_2, l2_le, neq_2, nadd_2, nmul_2, nmul'_2, nadd'_2, nsub_2, nlt_3, l3_lt, nle_3, l3_le, neq_3, nadd_3, nmul_3, nmul'_3, nadd'_3, nsub_3, nlt_4, l4_lt, nle_4, l4_le, neq_4, nadd_4, nmul_4, nmul'_4, nadd'_4, nsub_4, nlt_5, l5_lt, nle_5, l5_le, neq_5, nadd_5, nmul_5, nmul'_5, nadd'_5, nsub_5, nlt_6, l6_lt, nle_6, l6_le, neq_6, nadd_6, nmul_6, nmul'_6, nadd'_6, nsub_6, nlt_7, l7_lt, nle_7, l7_le, neq_7, nadd_7, nmul_7, nmul'_7, nadd'_7, nsub_7, nlt_8, l8_lt, nle_8, l8_le, neq_8, nadd_8, nmul_8, nmul'_8, nadd'_8, nsub_8, nlt_9, l9_lt, nle_9, l9_le, neq_9, nadd_9, nmul_9, nmul'_9, nadd'_9, nsub_9, nlt_10, l10_lt, nle_10, l10_le, neq_10, nadd_10, nmul_10, nmul'_10, nadd'_10, nsub_10, nlt_11, l11_lt, nle_11, l11_le, neq_11, nadd_11, nmul_11, nmul'_11, nadd'_11, nsub_11, nlt_12, l12_lt, nle_12, l12_le, neq_12, nadd_12, nmul_12, nmul'_12, nadd'_12, nsub_12, nlt_13, l13_lt, nle_13, l13_le, neq_13, nadd_13, nmul_13, nmul'_13, nadd'_13, nsub_13, nlt_20, l20_lt, nle_20, l20_le, neq_20, nadd_20, nmul_20, nmul'_20, nadd'_20, nsub_20, nlt_400, l400_lt, nle_400, l400_le, neq_400, nadd_400, nmul_400, nmul'_400, nadd'_400, nsub_400, rd_0, wr_0, rd_1, wr_1, rd_2, wr_2, rd_3, wr_3, rd_4, wr_4, rd_5, wr_5, rd_6, wr_6, rd_7, wr_7, rd_8, wr_8, rd_9, wr_9, rd_10, wr_10, rd_11, wr_11, rd_12, wr_12, gIe, gIp, gIo, gCe, gCn, gRI, gLI, gIR, gCR, gLR, gRe, gRo, gRp, gIl]
  rw [show FUEL = 99999 + 1 from rfl, f_State_startOf_17, gIp (by omega), gIp (by omega), gIp (by omega), hT, if_pos (by decide)]
  refine OK_some ⟨⟨⟨?_, ?_, ?_, Nat.zero_le _, fun g hg => absurd hg (Nat.not_lt_zero _)⟩, fun g hg => absurd hg (Nat.not_lt_zero _)⟩, Sm_trans (Sm_trans (Sm_I (by omega)) (Sm_I (by omega))) (Sm_I (by omega))⟩
  · simp (disch := omega) only [gIe, gIp, gIo, gCe, gCn, gRI, gLI, gIR, gCR, gLR, gRe, gRo, gRp, gIl]
    rfl
  · simp (disch := omega) only [gIe, gIp, gIo, gCe, gCn, gRI, gLI, gIR, gCR, gLR, gRe, gRo, gRp, gIl]
    rfl
  · simp (disch := omega) only [gIe, gIp, gIo, gCe, gCn, gRI, gLI, gIR, gCR, gLR, gRe, gRo, gRp, gIl]
    rfl
theorem both_dug {x1 x2 x3 x4 : Int32} {M : mM} (hi : Inv M) : Both (f_GraveRails_dug x1 x2 x3 x4) (f_Model_dug x1 x2 x3 x4) M := by
  have hi' := hi
  obtain ⟨g, hg, hc, hm⟩ := hi
  have hv := hg.1.1
  have v1 := hv.1
  have v2 := hv.2.1
  rcases i32_cases x1 with h1 | ⟨k, h1, rfl⟩
  · exact dug_no hi' (Or.inl h1)
  · by_cases ck : k ≤ 2
    · rcases place_both hg hc hm x2 x3 with ⟨p1, p2⟩ | ⟨l, c, rfl, rfl, b1, b2, b3, b4, p1, p2⟩
      · exact dug_no hi' (Or.inr (Or.inr (Or.inl ⟨g, hg, hc, hm, p1, p2⟩)))
      · rcases i32_cases x4 with h4 | ⟨w, h4, rfl⟩
        · exact dug_no hi' (Or.inr (Or.inr (Or.inr (Or.inl h4))))
        · by_cases cw : w ≤ 2
          · have hC := hv.2.2.2.2.2.2.2.2.2.2.2 (show 0 < y_L g.1.1 by omega)
            have hV1 : V (y_L g.1.1) (y_C g.1.1) 1 (dgb l (y_C g.1.1) k) := V_dig (V_dS0 v1 v2) (Nat.zero_le _) rfl b1 (show y_C g.1.1 - 1 < y_C g.1.1 by omega) (show k ≤ 3 by omega) rfl rfl
            have hT1 : VT 1 (bup (fun _ => none) 0 (some (l, y_C g.1.1 - 1))) := VT_dig (n := 0) (fun g hg => absurd hg (Nat.not_lt_zero _)) b3 (by omega)
            refine both_ask (v := dgA w (dgF g.1.1 (phi g.1.2.2.2.1 g.2.2.1.2) c 41 0 (dgb l (y_C g.1.1) k) (0, -2, -2))) hg hc hm ?_ fun M' hc' hm' => ?_
            · unfold f_GraveRails_dug
              rw [if_neg (fun z => (i32_neg h1).mp z), if_neg (by rw [show (2 : Int32) = i32 2 from rfl, i32_lt (by omega) h1]; omega), p1, bnd1]
              dsimp only
              rw [if_neg (fun z => (i32_neg h4).mp z), if_pos (by rw [show (2 : Int32) = i32 2 from rfl, i32_le h4 (by omega)]; exact cw)]
              refine OK_bind (c_bare hg hc) fun M1 q1 => ?_
              refine OK_bind (c_startOf0 (S := 298) (T := 290) q1.2.1.1 (by omega)) fun M2 q2 => ?_
              have e1 : M2.2.1 290 1 = i32 (y_C g.1.1) := by rw [Sm_i q2.2 (by omega)]; exact q1.1.2.1
              rw [e1, nsub_1 (by omega)]
              refine OK_bind (c_add (l := l) (c := y_C g.1.1 - 1) (k := k) q2.1 (Nat.zero_le _)) fun M3 q3 => ?_
              have hCE : CE M3 := CE_of q1.2.1 fun p hp => by rw [Sm_i q3.2 (by omega), Sm_i q2.2 (by omega)]
              have hS3 : Sm 290 308 M M3 := Sm_trans (Sm_le q1.2.2 (by omega) (by omega)) (Sm_trans (Sm_le q2.2 (by omega) (by omega)) (Sm_le q3.2 (by omega) (by omega)))
              have hR3 : RC g M3 := RC_bare hg hc hCE (fun p hp => Sm_i hS3 (by omega)) (Sm_r hS3 (by omega))
              rw [c_rif hg hR3, Option.bind_some]
              dsimp only
              refine OK_bind (c_start (y := bare g.1.1 0) (Yp := 290) (T := 298) (VY_bare hv (by omega)) (by decide) (by omega) (CY_of q1.1 fun j hj => by rw [Sm_i q3.2 (by omega), Sm_i q2.2 (by omega)]) (by omega) q3.1 hV1 hT1 (RL_in hg hR3.2.2.1)) fun M4 q4 => ?_
              refine OK_imp (c_dug113 (y := g.1.1) cw b4 41 0 FUEL _ (0, -2, -2) M4 (by omega) (by rw [FUEL_eq]; omega) (Nat.le_refl _) ⟨⟨_, _, q4.1⟩, q4.2.1⟩) fun z hz => ?_
              have hS4 := Sm_trans q4.2.2.2 (Sm_Y hz.2)
              exact ⟨hz.1, RC_Sm hg hR3 hS4, Sm_trans (Sm_le hS3 (by omega) (by omega)) (Sm_le hS4 (by omega) (by omega))⟩
            · unfold f_Model_dug
              rw [m_inY (lo := 0) (hi := 2) ⟨Nat.zero_le _, ck⟩ (by omega), bnd1]
              dsimp only
              rw [m_isPlace hm'.1.1.1.1 hm'.1.1.1.2.1 hv (by omega) (by omega), if_pos ⟨b1, b2⟩, bnd1]
              dsimp only
              rw [m_inY (lo := 0) (hi := 2) ⟨Nat.zero_le _, cw⟩ (by omega), bnd1]
              dsimp only
              rw [rd_6 (by omega) (by omega), Option.bind_some]
              refine OK_bind (m_begin hg hm' (by omega)) fun M1 q => ?_
              obtain ⟨hK, hM1, h26⟩ := q
              rw [wr_2 (by omega) (by omega), Option.bind_some, wr_3 (by omega) (by omega), Option.bind_some, wr_6 (by omega) (by omega), Option.bind_some, rd_1 (by omega) (by omega), Option.bind_some]
              have e446 : M1.2.1 446 = M'.2.1 446 := Sm_i hK.1 (by omega)
              have e1 : (msI (msI (msI M1 446 2 0) 446 3 0) 446 6 0).2.1 446 1 = i32 (y_C g.1.1) := by rw [gIo (by omega), gIo (by omega), gIo (by omega), e446]; exact hm'.1.1.1.2.1
              rw [e1, nsub_1 (by omega)]
              refine OK_bind (m_digs (n := 0) (l := l) (c := y_C g.1.1 - 1) (k := k) (Nat.zero_le _) (by rw [gIo (by omega), gIo (by omega), gIe]; rfl)) fun M2 q2 => ?_
              obtain ⟨d1, d0, d01, d02, d03, d04, d05, d06, d07, d08, t0, t1, e2, e⟩ := q2
              have ex : ∀ i, 131 ≤ i → M2.2.1 446 i = M'.2.1 446 i := fun i hi => by rw [e i (by omega) (by omega) (by omega) (by omega), gIo (by omega), gIo (by omega), gIo (by omega), e446]
              have eK : ∀ p, p = 438 ∨ p = 440 ∨ p = 441 → M2.2.1 p = M'.2.1 p := fun p hp => by rw [Sm_i d1 (by omega), gIp (by omega), gIp (by omega), gIp (by omega), Sm_i hK.1 (by omega)]
              have e436 : M2.2.1 436 = M1.2.1 436 := by rw [Sm_i d1 (by omega), gIp (by omega), gIp (by omega), gIp (by omega)]
              have e3 : M2.2.1 446 3 = 0 := by rw [e 3 (by omega) (by omega) (by omega) (by omega), gIo (by omega), gIe]
              have hS : MS (bare g.1.1 (y_nr g.1.1)) 0 1 (dgb l (y_C g.1.1) k) (M2.2.1 446) := by
                refine ⟨?_, ?_, e2, e3, by omega, fun j hj => ?_⟩
                · rw [e 0 (by omega) (by omega) (by omega) (by omega), gIo (by omega), gIo (by omega), gIo (by omega), e446]; exact hm'.1.1.1.1
                · rw [e 1 (by omega) (by omega) (by omega) (by omega)]; exact e1
                · have j0 : j = 0 := by omega
                  subst j0
                  have eb : dgb l (y_C g.1.1) k 0 = dgB l (y_C g.1.1 - 1) k (i32 0) := bup_e _ _ _
                  rw [eb]
                  have d5' : M2.2.1 446 (10 + 9 * 0 + 5) = i32 0 := by rw [d05, gIo (by omega), gIe]; rfl
                  exact ⟨⟨d0, d01, d02, d03, d04, d5', d07⟩, d06⟩
              have hM : MYr (bare g.1.1 (y_nr g.1.1)) (phi g.1.2.2.2.1 g.2.2.1.2) 1 0 (dgb l (y_C g.1.1) k) false M2 := by
                refine ⟨VY_bare hv hv.2.2.2.2.1, hC, fun a b z => (by cases z), hS, hV1, ⟨?_, by rw [e436]; exact h26⟩, RM_of (RM_in hg hm') (eK 438 (by omega)) (eK 440 (by omega)) (eK 441 (by omega)) (by rw [e436, Sm_i hK.1 (by omega)]), _, hT1, ?_, ?_⟩
                · obtain ⟨⟨rt, r5, hr, he⟩, r6, r7⟩ := hm'.1.2.1
                  refine ⟨⟨rt, ?_, fun j hj => ?_, he⟩, ?_, fun j hj => absurd hj (Nat.not_lt_zero _)⟩
                  · rw [e 5 (by omega) (by omega) (by omega) (by omega), gIo (by omega), gIo (by omega), gIo (by omega), e446]; exact r5
                  · obtain ⟨a1, a2, a3, a4, a5⟩ := hr j hj
                    exact ⟨a1, a2, (ex _ (by omega)).trans a3, (ex _ (by omega)).trans a4, (ex _ (by omega)).trans a5⟩
                  · rw [e 6 (by omega) (by omega) (by omega) (by omega), gIe]; rfl
                · intro j hj
                  have j0 : j = 0 := by omega
                  subst j0
                  rw [bup_e]
                  exact ⟨t0, t1⟩
                · intro j hj
                  have j0 : j = 0 := by omega
                  subst j0
                  exact d08
              have hF : FrL M1 M2 := ⟨fun p hp => by rw [Sm_r d1 (by omega)]; rfl, fun p a b _ _ _ _ => by rw [Sm_i d1 (by omega), gIp b, gIp b, gIp b], fun i _ => by rw [e436], fun i hi => by rw [ex i hi, e446]⟩
              have key := m_dug99 (x1 := i32 k) hK (show M'.2.1 446 6 = M'.2.1 446 6 from rfl) cw b3 b4 41 0 FUEL _ (0, -2, -2) M2 (by omega) (by rw [FUEL_eq]; omega) (Nat.le_refl _) Ln_dg hM hF (by rw [e436]; exact h26)
              exact OK_imp key fun z hz => ⟨hz.1, FrN_B hz.2.1 (hz.2.2.trans hm'.2.2.2.1.symm)⟩
          · exact dug_no hi' (Or.inr (Or.inr (Or.inr (Or.inr (by rw [show (2 : Int32) = i32 2 from rfl, i32_lt (by omega) h4]; omega)))))
    · exact dug_no hi' (Or.inr (Or.inl (by rw [show (2 : Int32) = i32 2 from rfl, i32_lt (by omega) h1]; omega)))
