/-! ===== the tape ===== -/
def byt (x s : Int32) : Int32 := vp_nar .byte (Int8.toInt32 (Int32.toInt8 (x >>> (s &&& 31))))
theorem byt_8 (x s : Int32) : ∃ z : Int8, byt x s = z.toInt32 := by
  refine ⟨(Int8.toInt32 (Int32.toInt8 (x >>> (s &&& 31)))).toInt8, ?_⟩
  rfl
def putT (t : Nat × (Nat → Int32)) (v : Int32) : Nat × (Nat → Int32) := (t.1 + 1, bup t.2 t.1 v)
def fdT (x : Int32) (t : Nat × (Nat → Int32)) : Nat × (Nat → Int32) := putT (putT (putT (putT t (byt x 24)) (byt x 16)) (byt x 8)) (byt x 0)
def OKT (t : Nat × (Nat → Int32)) : Prop := ∀ k, k < t.1 → ∃ z : Int8, t.2 k = z.toInt32
theorem OKT_put {t : Nat × (Nat → Int32)} (h : OKT t) (x s : Int32) : OKT (putT t (byt x s)) := by
  intro k hk
  have hk' : k < t.1 + 1 := hk
  show ∃ z : Int8, bup t.2 t.1 (byt x s) k = z.toInt32
  by_cases c : k = t.1
  · subst c; rw [bup_e]; exact byt_8 x s
  · rw [bup_o c]; exact h k (by omega)
theorem OKT_fd {t : Nat × (Nat → Int32)} (h : OKT t) (x : Int32) : OKT (fdT x t) := OKT_put (OKT_put (OKT_put (OKT_put h x 24) x 16) x 8) x 0
theorem c_byte {t : Nat × (Nat → Int32)} {M : mM} (h : CP t M) (ht : t.1 < 400) (x : Int32) {s : Int32} (hs : ¬ s < 0) (f : Nat) : ∃ M', f_Text_addNumber_3 x (f + 1) s M = f_Text_addNumber_3 x f (s + (-8)) M' ∧ CP (putT t (byt x s)) M' ∧ Sm 1 3 M M' := by
  refine ⟨msI (msI M 2 t.1 (byt x s)) 1 1 (i32 (t.1 + 1)), ?_, ⟨gIe _ _ _ _, fun k hk => ?_⟩, Sm_trans (Sm_I (by omega)) (Sm_I (by omega))⟩
  · rw [f_Text_addNumber_3, if_neg hs, h.1, if_neg (fun z => (i32_neg (a := t.1) (by omega)).mp z), if_neg (by rw [show (400 : Int32) = i32 400 from rfl, i32_le (by omega) (by omega)]; omega), wrB_i32 ht (by omega)]
    simp (disch := omega) only [i32_lt, i32_le, i32_eq, i32_add, i32_mul, i32_neg, i32_nn, i32_ne1, i32_n1e, n1_lt_i32, i32_le_n1, i32_dec, i32_cl, rd_i32, ix_i32, wr_i32, pI_s, pR_s, pC_s, pZ_0, pZ_1, Option.bind_some, ite_true, ite_false, if_true, if_false, gIL, gRI, nlt_0, l0_lt, nle_0, l0_le, neq_0, nadd_0, nmul_0, nmul'_0, nadd'_0, nsub_0, nlt_1, l1_lt, nle_1, l1_le, neq_1, nadd_1, nmul_1, nmul'_1, nadd'_1, nsub_1, nlt_2, l2_lt, nle_2, l2_le, neq_2, nadd_2, nmul_2, nmul'_2, nadd'_2, nsub_2, nlt_3, l3_lt, nle_3, l3_le, neq_3, nadd_3, nmul_3, nmul'_3, nadd'_3, nsub_3, nlt_4, l4_lt, nle_4, l4_le, neq_4, nadd_4, nmul_4, nmul'_4, nadd'_4, nsub_4, nlt_5, l5_lt, nle_5, l5_le, neq_5, nadd_5, nmul_5, nmul'_5, nadd'_5, nsub_5, nlt_6, l6_lt, nle_6, l6_le, neq_6, nadd_6, nmul_6, nmul'_6, nadd'_6, nsub_6, nlt_7, l7_lt, nle_7, l7_le, neq_7, nadd_7, nmul_7, nmul'_7, nadd'_7, nsub_7, nlt_8, l8_lt, nle_8, l8_le, neq_8, nadd_8, nmul_8, nmul'_8, nadd'_8, nsub_8, nlt_9, l9_lt, nle_9, l9_le, neq_9, nadd_9, nmul_9, nmul'_9, nadd'_9, nsub_9, nlt_10, l10_lt, nle_10, l10_le, neq_10, nadd_10, nmul_10, nmul'_10, nadd'_10, nsub_10, nlt_11, l11_lt, nle_11, l11_le, neq_11, nadd_11, nmul_11, nmul'_11, nadd'_11, nsub_11, nlt_12, l12_lt, nle_12, l12_le, neq_12, nadd_12, nmul_12, nmul'_12, nadd'_12, nsub_12, nlt_13, l13_lt, nle_13, l13_le, neq_13, nadd_13, nmul_13, nmul'_13, nadd'_13, nsub_13, nlt_20, l20_lt, nle_20, l20_le, neq_20, nadd_20, nmul_20, nmul'_20, nadd'_20, nsub_20, nlt_400, l400_lt, nle_400, l400_le, neq_400, nadd_400, nmul_400, nmul'_400, nadd'_400, nsub_400, rd_0, wr_0, rd_1, wr_1, rd_2, wr_2, rd_3, wr_3, rd_4, wr_4, rd_5, wr_5, rd_6, wr_6, rd_7, wr_7, rd_8, wr_8, rd_9, wr_9, rd_10, wr_10, rd_11, wr_11, rd_12, wr_12, gIe, gIp, gIo, gCe, gCn, gRI, gLI, gIR, gCR, gLR, gRe, gRo, gRp, gIl, h.1]
    rfl
  · have hk' : k < t.1 + 1 := hk
    show _ = bup t.2 t.1 (byt x s) k
    rw [gIp (by omega)]
    by_cases c : k = t.1
    · subst c; rw [gIe, bup_e]
    · rw [gIo c, bup_o c]; exact h.2 k (by omega)
theorem c_addNumber {t : Nat × (Nat → Int32)} {M : mM} (h : CP t M) (ht : t.1 + 4 ≤ 400) (x : Int32) : OK (f_Text_addNumber x M) fun M' => CP (fdT x t) M' ∧ Sm 1 3 M M' := by
  unfold f_Text_addNumber
  obtain ⟨M1, e1, p1, s1⟩ := c_byte h (by omega) x (s := 24) (by decide) 99999
  obtain ⟨M2, e2, p2, s2⟩ := c_byte p1 (by show t.1 + 1 < 400; omega) x (s := 16) (by decide) 99998
  obtain ⟨M3, e3, p3, s3⟩ := c_byte p2 (by show t.1 + 1 + 1 < 400; omega) x (s := 8) (by decide) 99997
  obtain ⟨M4, e4, p4, s4⟩ := c_byte p3 (by show t.1 + 1 + 1 + 1 < 400; omega) x (s := 0) (by decide) 99996
  rw [show FUEL = 99999 + 1 from rfl, e1, show (24 : Int32) + (-8) = 16 by decide, show 99999 = 99998 + 1 from rfl, e2, show (16 : Int32) + (-8) = 8 by decide, show 99998 = 99997 + 1 from rfl, e3, show (8 : Int32) + (-8) = 0 by decide, show 99997 = 99996 + 1 from rfl, e4, show 99996 = 99995 + 1 from rfl, f_Text_addNumber_3, if_pos (by decide)]
  exact OK_some ⟨p4, Sm_trans s1 (Sm_trans s2 (Sm_trans s3 s4))⟩
theorem m_byte {t : Nat × (Nat → Int32)} {M : mM} (h : MP t M) (ht : t.1 < 400) (x : Int32) {s : Int32} (hs : ¬ s < 0) (f : Nat) : ∃ M', f_Model_four_3 x (f + 1) s M = f_Model_four_3 x f (s + (-8)) M' ∧ MP (putT t (byt x s)) M' ∧ Sm 436 438 M M' ∧ ∀ i, i ≠ 1 → M'.2.1 436 i = M.2.1 436 i := by
  refine ⟨msI (msI M 437 t.1 (byt x s)) 436 1 (i32 (t.1 + 1)), ?_, ⟨gIe _ _ _ _, fun k hk => ?_⟩, Sm_trans (Sm_I (by omega)) (Sm_I (by omega)), fun i hi => by rw [gIo hi, gIp (by omega)]⟩
  · rw [f_Model_four_3, if_neg hs, h.1, wrB_i32 ht (by omega)]
    simp (disch := omega) only [i32_lt, i32_le, i32_eq, i32_add, i32_mul, i32_neg, i32_nn, i32_ne1, i32_n1e, n1_lt_i32, i32_le_n1, i32_dec, i32_cl, rd_i32, ix_i32, wr_i32, pI_s, pR_s, pC_s, pZ_0, pZ_1, Option.bind_some, ite_true, ite_false, if_true, if_false, gIL, gRI, nlt_0, l0_lt, nle_0, l0_le, neq_0, nadd_0, nmul_0, nmul'_0, nadd'_0, nsub_0, nlt_1, l1_lt, nle_1, l1_le, neq_1, nadd_1, nmul_1, nmul'_1, nadd'_1, nsub_1, nlt_2, l2_lt, nle_2, l2_le, neq_2, nadd_2, nmul_2, nmul'_2, nadd'_2, nsub_2, nlt_3, l3_lt, nle_3, l3_le, neq_3, nadd_3, nmul_3, nmul'_3, nadd'_3, nsub_3, nlt_4, l4_lt, nle_4, l4_le, neq_4, nadd_4, nmul_4, nmul'_4, nadd'_4, nsub_4, nlt_5, l5_lt, nle_5, l5_le, neq_5, nadd_5, nmul_5, nmul'_5, nadd'_5, nsub_5, nlt_6, l6_lt, nle_6, l6_le, neq_6, nadd_6, nmul_6, nmul'_6, nadd'_6, nsub_6, nlt_7, l7_lt, nle_7, l7_le, neq_7, nadd_7, nmul_7, nmul'_7, nadd'_7, nsub_7, nlt_8, l8_lt, nle_8, l8_le, neq_8, nadd_8, nmul_8, nmul'_8, nadd'_8, nsub_8, nlt_9, l9_lt, nle_9, l9_le, neq_9, nadd_9, nmul_9, nmul'_9, nadd'_9, nsub_9, nlt_10, l10_lt, nle_10, l10_le, neq_10, nadd_10, nmul_10, nmul'_10, nadd'_10, nsub_10, nlt_11, l11_lt, nle_11, l11_le, neq_11, nadd_11, nmul_11, nmul'_11, nadd'_11, nsub_11, nlt_12, l12_lt, nle_12, l12_le, neq_12, nadd_12, nmul_12, nmul'_12, nadd'_12, nsub_12, nlt_13, l13_lt, nle_13, l13_le, neq_13, nadd_13, nmul_13, nmul'_13, nadd'_13, nsub_13, nlt_20, l20_lt, nle_20, l20_le, neq_20, nadd_20, nmul_20, nmul'_20, nadd'_20, nsub_20, nlt_400, l400_lt, nle_400, l400_le, neq_400, nadd_400, nmul_400, nmul'_400, nadd'_400, nsub_400, rd_0, wr_0, rd_1, wr_1, rd_2, wr_2, rd_3, wr_3, rd_4, wr_4, rd_5, wr_5, rd_6, wr_6, rd_7, wr_7, rd_8, wr_8, rd_9, wr_9, rd_10, wr_10, rd_11, wr_11, rd_12, wr_12, gIe, gIp, gIo, gCe, gCn, gRI, gLI, gIR, gCR, gLR, gRe, gRo, gRp, gIl, h.1]
    rfl
  · have hk' : k < t.1 + 1 := hk
    show _ = bup t.2 t.1 (byt x s) k
    rw [gIp (by omega)]
    by_cases c : k = t.1
    · subst c; rw [gIe, bup_e]
    · rw [gIo c, bup_o c]; exact h.2 k (by omega)
theorem m_four {t : Nat × (Nat → Int32)} {M : mM} (h : MP t M) (ht : t.1 + 4 ≤ 400) (x : Int32) : OK (f_Model_four x M) fun M' => MP (fdT x t) M' ∧ Sm 436 438 M M' ∧ ∀ i, i ≠ 1 → M'.2.1 436 i = M.2.1 436 i := by
  unfold f_Model_four
  obtain ⟨M1, e1, p1, s1, i1⟩ := m_byte h (by omega) x (s := 24) (by decide) 99999
  obtain ⟨M2, e2, p2, s2, i2⟩ := m_byte p1 (by show t.1 + 1 < 400; omega) x (s := 16) (by decide) 99998
  obtain ⟨M3, e3, p3, s3, i3⟩ := m_byte p2 (by show t.1 + 1 + 1 < 400; omega) x (s := 8) (by decide) 99997
  obtain ⟨M4, e4, p4, s4, i4⟩ := m_byte p3 (by show t.1 + 1 + 1 + 1 < 400; omega) x (s := 0) (by decide) 99996
  rw [show FUEL = 99999 + 1 from rfl, e1, show (24 : Int32) + (-8) = 16 by decide, show 99999 = 99998 + 1 from rfl, e2, show (16 : Int32) + (-8) = 8 by decide, show 99998 = 99997 + 1 from rfl, e3, show (8 : Int32) + (-8) = 0 by decide, show 99997 = 99996 + 1 from rfl, e4, show 99996 = 99995 + 1 from rfl, f_Model_four_3, if_pos (by decide)]
  exact OK_some ⟨p4, Sm_trans s1 (Sm_trans s2 (Sm_trans s3 s4)), fun i hi => (i4 i hi).trans ((i3 i hi).trans ((i2 i hi).trans (i1 i hi)))⟩
theorem RC_tape {g : Gx} {t : Nat × (Nat → Int32)} {M M' : mM} (hg : VG g) (h : RC g M) (ht : CP t M') (e : Sm 1 3 M M') : RC (g.1, t, g.2.2) M' := by
  obtain ⟨h1, h2, h3, h4, h5, h6, h7⟩ := h
  have ep : ∀ p, p = 0 ∨ 3 ≤ p → M'.2.1 p = M.2.1 p := fun p hp => Sm_i e (by omega)
  exact ⟨CW_of h1 fun k hk => ep _ (by omega), ht, CU_of h3 (ep 0 (by omega)) fun p a b => ep p (by omega), CA_of h4 fun p a b => ep p (by omega), fun k hk => CI_of (h5 k hk) fun j hj => ep _ (by omega), CE_of h6 fun p hp => ep p (by omega), CZ_of h7 (fun p hp => ep p (by omega)) (Sm_r e (by omega))⟩
theorem RM_tape {g : Gx} {t : Nat × (Nat → Int32)} {M M' : mM} (h : RMm g M) (ht : MP t M') (e : Sm 436 438 M M') (ei : ∀ i, i ≠ 1 → M'.2.1 436 i = M.2.1 436 i) : RMm (g.1, t, g.2.2) M' := by
  obtain ⟨h1, h2, h3, h4, h5, h6, h7, h8⟩ := h
  have ep : ∀ p, 438 ≤ p → M'.2.1 p = M.2.1 p := fun p hp => Sm_i e (by omega)
  refine ⟨by rw [ep 446 (by omega)]; exact h1, (ei 21 (by omega)).trans h2, (ei 22 (by omega)).trans h3, (ei 26 (by omega)).trans h4, ht, ⟨(ei 2 (by omega)).trans h6.1, fun k hk => RMk_of (h6.2 k hk) (fun i _ => by rw [ep 438 (by omega)]) (fun i _ => by rw [ep 440 (by omega)]) (by rw [ep 441 (by omega)])⟩, ⟨(ei 30 (by omega)).trans h7.1, by rw [ep 449 (by omega)]; exact h7.2⟩, fun k hk => ?_⟩
  have := h8 k hk
  unfold MI at this ⊢
  rw [ep 456 (by omega), ep 454 (by omega), ep 455 (by omega), ep 453 (by omega)]
  exact this
theorem VG_tape {g : Gx} (hg : VG g) {t : Nat × (Nat → Int32)} (h1 : t.1 ≤ 400) (h2 : OKT t) : VG (g.1, t, g.2.2) := ⟨hg.1, hg.2.1, h1, h2, hg.2.2.2.2⟩
theorem both_feed {a b c d e : Int32} {M : mM} (hi : Inv M) : Both (f_GraveRails_feed a b c d e) (f_Model_feed a b c d e) M := by
  have hi' := hi
  obtain ⟨g, hg, hc, hm⟩ := hi
  have ht := hg.2.2.1
  have hc2 := hc.2.1
  have hm2 := hm.2.2.2.2.1
  by_cases h : g.2.1.1 ≤ 380
  · have l : ∀ x t, (fdT x t).1 = t.1 + 4 := fun x t => rfl
    refine both_do (v := i32 (g.2.1.1 + 20)) hm (VG_tape hg (t := fdT e (fdT d (fdT c (fdT b (fdT a g.2.1))))) (by rw [l, l, l, l, l]; omega) (OKT_fd (OKT_fd (OKT_fd (OKT_fd (OKT_fd hg.2.2.2.1 a) b) c) d) e)) ?_ fun M' hm' => ?_
    · unfold f_GraveRails_feed
      rw [hc2.1, if_pos (by rw [show (380 : Int32) = i32 380 from rfl, i32_le (by omega) (by omega)]; exact h)]
      refine OK_bind (c_addNumber hc2 (by omega) a) fun M1 h1 => ?_
      refine OK_bind (c_addNumber h1.1 (by rw [l]; omega) b) fun M2 h2 => ?_
      refine OK_bind (c_addNumber h2.1 (by rw [l, l]; omega) c) fun M3 h3 => ?_
      refine OK_bind (c_addNumber h3.1 (by rw [l, l, l]; omega) d) fun M4 h4 => ?_
      refine OK_bind (c_addNumber h4.1 (by rw [l, l, l, l]; omega) e) fun M5 h5 => ?_
      have hS := Sm_trans h1.2 (Sm_trans h2.2 (Sm_trans h3.2 (Sm_trans h4.2 h5.2)))
      exact OK_some ⟨h5.1.1, RC_tape hg hc h5.1 hS, Sm_le hS (by omega) (by omega)⟩
    · have hp := hm'.2.2.2.2.1
      unfold f_Model_feed
      rw [hp.1, nadd_20, if_pos (by rw [show (400 : Int32) = i32 400 from rfl, i32_le (by omega) (by omega)]; omega)]
      refine OK_bind (m_four hp (by omega) a) fun M1 h1 => ?_
      refine OK_bind (m_four h1.1 (by rw [l]; omega) b) fun M2 h2 => ?_
      refine OK_bind (m_four h2.1 (by rw [l, l]; omega) c) fun M3 h3 => ?_
      refine OK_bind (m_four h3.1 (by rw [l, l, l]; omega) d) fun M4 h4 => ?_
      refine OK_bind (m_four h4.1 (by rw [l, l, l, l]; omega) e) fun M5 h5 => ?_
      have hS := Sm_trans h1.2.1 (Sm_trans h2.2.1 (Sm_trans h3.2.1 (Sm_trans h4.2.1 h5.2.1)))
      exact OK_some ⟨h5.1.1, RM_tape hm' h5.1 hS fun i hi => (h5.2.2 i hi).trans ((h4.2.2 i hi).trans ((h3.2.2 i hi).trans ((h2.2.2 i hi).trans (h1.2.2 i hi)))), Sm_le hS (by omega) (by omega)⟩
  · refine both_pure hi' ⟨-1, ?_, ?_⟩
    · unfold f_GraveRails_feed
      rw [hc2.1, if_neg (by rw [show (380 : Int32) = i32 380 from rfl, i32_le (by omega) (by omega)]; exact h)]
    · unfold f_Model_feed
      rw [hm2.1, nadd_20, if_neg (by rw [show (400 : Int32) = i32 400 from rfl, i32_le (by omega) (by omega)]; omega)]
theorem both_end {x1 : Int32} {M : mM} (hi : Inv M) : Both (f_GraveRails_end x1) (f_Model_end x1) M := by
  have hi' := hi
  obtain ⟨g, hg, hc, hm⟩ := hi
  have ht := hg.2.2.1
  have hc2 := hc.2.1
  have hm2 := hm.2.2.2.2.1
  rcases i32_cases x1 with h1 | ⟨n, h1, rfl⟩
  · exact both_pure hi' ⟨-1, if_pos h1, if_pos h1⟩
  · by_cases h : n ≤ g.2.1.1
    · refine both_do (v := i32 n) hm (VG_tape hg (t := (n, g.2.1.2)) (by show n ≤ 400; omega) (fun k hk => hg.2.2.2.1 k (by have hk' : k < n := hk; omega))) ?_ fun M' hm' => ?_
      · unfold f_GraveRails_end
        rw [if_neg (fun z => (i32_neg h1).mp z), hc2.1, if_pos (by rw [i32_le h1 (by omega)]; exact h)]
        simp only [pI_s, Option.bind_some]
        exact OK_some ⟨rfl, RC_tape hg hc ⟨gIe _ _ _ _, fun k hk => by have hk' : k < n := hk; rw [gIp (by omega)]; exact hc2.2 k (by omega)⟩ (Sm_I (by omega)), Sm_I (by omega)⟩
      · have hp := hm'.2.2.2.2.1
        unfold f_Model_end
        rw [if_neg (fun z => (i32_neg h1).mp z), hp.1, if_pos (by rw [i32_le h1 (by omega)]; exact h)]
        simp only [pI_s, Option.bind_some]
        exact OK_some ⟨rfl, RM_tape hm' ⟨gIe _ _ _ _, fun k hk => by have hk' : k < n := hk; rw [gIp (by omega)]; exact hp.2 k (by omega)⟩ (Sm_I (by omega)) fun i hi => gIo hi, Sm_I (by omega)⟩
    · refine both_pure hi' ⟨-1, ?_, ?_⟩
      · unfold f_GraveRails_end
        rw [if_neg (fun z => (i32_neg h1).mp z), hc2.1, if_neg (by rw [i32_le h1 (by omega)]; exact h)]
      · unfold f_Model_end
        rw [if_neg (fun z => (i32_neg h1).mp z), hm2.1, if_neg (by rw [i32_le h1 (by omega)]; exact h)]
