/-! ===== calls that ask of what is ===== -/
theorem lg_neg {x y : Int64} : (lg_cmp x y < 0) = (x < y) := by
  unfold lg_cmp
  by_cases c : x > y
  · rw [if_pos c]
    exact propext ⟨fun z => absurd z (by decide), fun z => absurd (Int64.lt_trans z c) (Int64.lt_irrefl)⟩
  · rw [if_neg c]
    by_cases c' : x = y
    · rw [if_pos c', c']
      exact propext ⟨fun z => absurd z (by decide), fun z => absurd z (Int64.lt_irrefl)⟩
    · rw [if_neg c']
      have : x < y := Int64.lt_of_le_of_ne (Int64.not_lt.mp c) c'
      exact propext ⟨fun _ => this, fun _ => by decide⟩
theorem lg_pos {x y : Int64} : (0 < lg_cmp x y) = (y < x) := by
  unfold lg_cmp
  by_cases c : x > y
  · rw [if_pos c]
    exact propext ⟨fun _ => c, fun _ => by decide⟩
  · rw [if_neg c]
    by_cases c' : x = y
    · rw [if_pos c', c']
      exact propext ⟨fun z => absurd z (by decide), fun z => absurd z (Int64.lt_irrefl)⟩
    · rw [if_neg c']
      exact propext ⟨fun z => absurd z (by decide), fun z => absurd z c⟩
theorem i64_toInt {k : Nat} (h : k < 2147483648) : (Int64.ofNat k).toInt = (k : Int) := Int64.toInt_ofNat_of_lt (by omega)
theorem m_inI {a lo hi : Nat} (ha : a < 2147483648) (hl : lo < 2147483648) (hh : hi < 2147483648) (M : mM) : f_Model_in (Int32.toInt64 (i32 a)) (OfNat.ofNat lo) (OfNat.ofNat hi) M = some (if lo ≤ a ∧ a ≤ hi then 1 else 0, M) := by
  unfold f_Model_in
  have e1 : ((Int32.toInt64 (i32 a)) < (OfNat.ofNat lo : Int64)) = (a < lo) := by
    rw [Int64.lt_iff_toInt_lt, Int32.toInt_toInt64, i32_toInt ha, show ((OfNat.ofNat lo : Int64)).toInt = (lo : Int) from i64_toInt hl]
    exact propext Int.ofNat_lt
  have e2 : ((OfNat.ofNat hi : Int64) < (Int32.toInt64 (i32 a))) = (hi < a) := by
    rw [Int64.lt_iff_toInt_lt, Int32.toInt_toInt64, i32_toInt ha, show ((OfNat.ofNat hi : Int64)).toInt = (hi : Int) from i64_toInt hh]
    exact propext Int.ofNat_lt
  simp only [lg_neg, lg_pos, e1, e2]
  by_cases c1 : a < lo
  · rw [if_pos c1, if_neg (by omega)]
  · rw [if_neg c1]
    by_cases c2 : hi < a
    · rw [if_pos c2, if_neg (by omega)]
    · rw [if_neg c2, if_pos (by omega)]
theorem m_inY {a lo hi : Nat} (h : lo ≤ a ∧ a ≤ hi) (hh : hi < 2147483648) (M : mM) : f_Model_in (Int32.toInt64 (i32 a)) (OfNat.ofNat lo) (OfNat.ofNat hi) M = some (1, M) := by
  rw [m_inI (by omega) (by omega) hh, if_pos h]
theorem m_inX {a lo hi : Nat} (ha : a < 2147483648) (h : ¬ (lo ≤ a ∧ a ≤ hi)) (hl : lo < 2147483648) (hh : hi < 2147483648) (M : mM) : f_Model_in (Int32.toInt64 (i32 a)) (OfNat.ofNat lo) (OfNat.ofNat hi) M = some (0, M) := by
  rw [m_inI ha hl hh, if_neg h]
theorem m_inN {x : Int32} (hx : x < 0) {lo hi : Nat} (hl : lo < 2147483648) (M : mM) : f_Model_in (Int32.toInt64 x) (OfNat.ofNat lo) (OfNat.ofNat hi) M = some (0, M) := by
  unfold f_Model_in
  have e1 : (Int32.toInt64 x) < (OfNat.ofNat lo : Int64) := by
    rw [Int64.lt_iff_toInt_lt, Int32.toInt_toInt64, show ((OfNat.ofNat lo : Int64)).toInt = (lo : Int) from i64_toInt hl]
    have := Int32.lt_iff_toInt_lt.mp hx
    have h0 : (0 : Int32).toInt = 0 := by decide
    omega
  rw [if_pos (by rw [lg_neg]; exact e1)]
theorem ne_neg {x : Int32} (hx : x < 0) {k : Nat} (hk : k < 2147483648) : ¬ x = (OfNat.ofNat k : Int32) := by
  intro z
  have h1 : (0 : Int32).toInt = 0 := by decide
  have h2 := Int32.lt_iff_toInt_lt.mp hx
  have h3 : ((OfNat.ofNat k : Int32)).toInt = (k : Int) := i32_toInt hk
  rw [z, h3, h1] at h2
  omega
theorem nlt_neg {x : Int32} (hx : x < 0) {k : Nat} (hk : k < 2147483648) : ¬ i32 k < x := by
  intro z
  have h1 : (0 : Int32).toInt = 0 := by decide
  have h2 := Int32.lt_iff_toInt_lt.mp hx
  have h3 := Int32.lt_iff_toInt_lt.mp z
  rw [i32_toInt hk] at h3
  omega
theorem le_neg {x : Int32} (hx : x < 0) {k : Nat} (hk : k < 2147483648) : x ≤ i32 k := Int32.not_lt.mp (nlt_neg hx hk)
theorem lt_neg {x : Int32} (hx : x < 0) {k : Nat} (hk : k < 2147483648) : x < i32 k := by
  rw [Int32.lt_iff_toInt_lt, i32_toInt hk]
  have h1 : (0 : Int32).toInt = 0 := by decide
  have h2 := Int32.lt_iff_toInt_lt.mp hx
  omega
theorem m_isGrave {y : Yd} {yr n : Nat} {b : Nat → B} {M : mM} (h : MS y yr n b (M.2.1 446)) {a : Nat} (ha : a < 2147483648) : f_Model_isGrave (i32 a) M = some (if a < n then 1 else 0, M) := by
  have hn := h.2.2.2.2.1
  unfold f_Model_isGrave
  simp (disch := omega) only [i32_lt, i32_le, i32_eq, i32_add, i32_mul, i32_neg, i32_nn, i32_ne1, i32_n1e, n1_lt_i32, i32_le_n1, i32_dec, i32_cl, rd_i32, ix_i32, wr_i32, pI_s, pR_s, pC_s, pZ_0, pZ_1, Option.bind_some, ite_true, ite_false, if_true, if_false, gIL, gRI, nlt_0, l0_lt, nle_0, l0_le, neq_0, nadd_0, nmul_0, nmul'_0, nadd'_0, nsub_0, nlt_1, l1_lt, nle_1, l1_le, neq_1, nadd_1, nmul_1, nmul'_1, nadd'_1, nsub_1, nlt_2, l2_lt, nle_2, l2_le, neq_2, nadd_2, nmul_2, nmul'_2, nadd'_2, nsub_2, nlt_3, l3_lt, nle_3, l3_le, neq_3, nadd_3, nmul_3, nmul'_3, nadd'_3, nsub_3, nlt_4, l4_lt, nle_4, l4_le, neq_4, nadd_4, nmul_4, nmul'_4, nadd'_4, nsub_4, nlt_5, l5_lt, nle_5, l5_le, neq_5, nadd_5, nmul_5, nmul'_5, nadd'_5, nsub_5, nlt_6, l6_lt, nle_6, l6_le, neq_6, nadd_6, nmul_6, nmul'_6, nadd'_6, nsub_6, nlt_7, l7_lt, nle_7, l7_le, neq_7, nadd_7, nmul_7, nmul'_7, nadd'_7, nsub_7, nlt_8, l8_lt, nle_8, l8_le, neq_8, nadd_8, nmul_8, nmul'_8, nadd'_8, nsub_8, nlt_9, l9_lt, nle_9, l9_le, neq_9, nadd_9, nmul_9, nmul'_9, nadd'_9, nsub_9, nlt_10, l10_lt, nle_10, l10_le, neq_10, nadd_10, nmul_10, nmul'_10, nadd'_10, nsub_10, nlt_11, l11_lt, nle_11, l11_le, neq_11, nadd_11, nmul_11, nmul'_11, nadd'_11, nsub_11, nlt_12, l12_lt, nle_12, l12_le, neq_12, nadd_12, nmul_12, nmul'_12, nadd'_12, nsub_12, nlt_13, l13_lt, nle_13, l13_le, neq_13, nadd_13, nmul_13, nmul'_13, nadd'_13, nsub_13, nlt_20, l20_lt, nle_20, l20_le, neq_20, nadd_20, nmul_20, nmul'_20, nadd'_20, nsub_20, nlt_400, l400_lt, nle_400, l400_le, neq_400, nadd_400, nmul_400, nmul'_400, nadd'_400, nsub_400, rd_0, wr_0, rd_1, wr_1, rd_2, wr_2, rd_3, wr_3, rd_4, wr_4, rd_5, wr_5, rd_6, wr_6, rd_7, wr_7, rd_8, wr_8, rd_9, wr_9, rd_10, wr_10, rd_11, wr_11, rd_12, wr_12, h.2.2.1]
  by_cases c : a < n
  · rw [if_neg (by omega), if_pos c]
  · rw [if_pos (by omega), if_neg c]
theorem m_isGraveN {M : mM} {x : Int32} (hx : x < 0) : f_Model_isGrave x M = some (0, M) := if_pos hx
theorem bnd {α β : Type} {v : α} {f : α → Option β} {w : Option β} (h : f v = w) : (some v).bind f = w := h
theorem d10 : ((1 : Int32) = 0) = False := eq_false (by decide)
theorem d00 : ((0 : Int32) = 0) = True := eq_true rfl
/-- a grave that is there, on both sides -/
theorem g_both {g : Gx} {M : mM} (hg : VG g) (hc : RC g M) (hm : RMm g M) {a : Nat} (ha : a < g.1.2.1.2.1) : a < 11 ∧ (M.2.1 30 a = M.2.1 446 (10 + 9 * a) ∧ M.2.1 31 a = M.2.1 446 (10 + 9 * a + 1) ∧ M.2.1 32 a = M.2.1 446 (10 + 9 * a + 2) ∧ M.2.1 33 a = M.2.1 446 (10 + 9 * a + 3) ∧ M.2.1 34 a = M.2.1 446 (10 + 9 * a + 4) ∧ M.2.1 35 a = M.2.1 446 (10 + 9 * a + 5) ∧ M.2.1 25 a = M.2.1 446 (10 + 9 * a + 6) ∧ M.2.1 36 a = M.2.1 446 (10 + 9 * a + 7) ∧ M.2.1 26 a = M.2.1 446 (10 + 9 * a + 8)) ∧ M.2.1 37 a = M.2.1 446 (109 + 2 * a) ∧ M.2.1 38 a = M.2.1 446 (109 + 2 * a + 1) := by
  obtain ⟨⟨c1, c2, c3, c4, c5⟩, -⟩ := hc
  obtain ⟨⟨⟨m1, m2, m3, m4, m5, m6⟩, -⟩, -⟩ := hm
  have hn := m1.2.2.2.2.1
  obtain ⟨a1, a2, a3, a4, a5, a6, a7⟩ := c2.1.2.2.2.2 a ha
  obtain ⟨⟨b1, b2, b3, b4, b5, b6, b7⟩, b8⟩ := m1.2.2.2.2.2 a ha
  obtain ⟨p1, p2⟩ := c1.2.2.2.2.2.2.1 a (by omega)
  have t1 := c2.2 a ha
  have t2 := m2 a ha
  have t3 := m3 a ha
  exact ⟨by omega, ⟨a1.trans b1.symm, a2.trans b2.symm, a3.trans b3.symm, a4.trans b4.symm, a5.trans b5.symm, a6.trans b6.symm, p1.trans b8.symm, a7.trans b7.symm, p2.trans t3.symm⟩, t1.1.trans t2.1.symm, t1.2.trans t2.2.symm⟩
theorem both_grave {x1 x2 : Int32} {M : mM} (hi : Inv M) : Both (f_GraveRails_grave x1 x2) (f_Model_grave x1 x2) M := by
  refine both_pure hi ?_
  obtain ⟨g, hg, hc, hm⟩ := hi
  have hS := hc.1.2.1.1
  have hN := hm.1.1.1
  have hn := hN.2.2.2.2.1
  unfold f_GraveRails_grave f_Model_grave
  rcases i32_cases x1 with h1 | ⟨a, h1, rfl⟩
  · rw [c_hasN h1, m_isGraveN h1]
    exact ⟨_, bnd (if_pos rfl), bnd (if_pos rfl)⟩
  · rw [c_has hS h1, m_isGrave hN h1]
    by_cases c : a < g.1.2.1.2.1
    · obtain ⟨ha, ⟨e0, e1, e2, e3, e4, e5, e6, e7, e8⟩, -⟩ := g_both hg hc hm c
      rw [if_pos c]
      simp only [Option.bind_some, d10, if_false]
      rcases i32_cases x2 with h2 | ⟨k, h2, rfl⟩
      · refine ⟨-2, ?_, ?_⟩
        · rw [if_neg (ne_neg (k := 0) h2 (by omega)), if_neg (ne_neg (k := 1) h2 (by omega)), if_neg (ne_neg (k := 2) h2 (by omega)), if_neg (ne_neg (k := 3) h2 (by omega)), if_neg (ne_neg (k := 4) h2 (by omega)), if_neg (ne_neg (k := 5) h2 (by omega)), if_neg (ne_neg (k := 6) h2 (by omega)), if_neg (ne_neg (k := 7) h2 (by omega))]
        · rw [m_inN (lo := 0) (hi := 7) h2 (by omega)]
          rfl
      · by_cases ck : k ≤ 7
        · rw [m_inY (lo := 0) (hi := 7) ⟨Nat.zero_le k, ck⟩ (by omega)]
          simp only [Option.bind_some, d10, if_false]
          rw [m_graveOf ha (show k < 9 by omega)]
          refine ⟨M.2.1 446 (10 + 9 * a + k), ?_, rfl⟩
          have h3 : k = 0 ∨ k = 1 ∨ k = 2 ∨ k = 3 ∨ k = 4 ∨ k = 5 ∨ k = 6 ∨ k = 7 := by omega
          rcases h3 with rfl | rfl | rfl | rfl | rfl | rfl | rfl | rfl
          · rw [if_pos (by decide)]
            simp (disch := omega) only [i32_lt, i32_le, i32_eq, i32_add, i32_mul, i32_neg, i32_nn, i32_ne1, i32_n1e, n1_lt_i32, i32_le_n1, i32_dec, i32_cl, rd_i32, ix_i32, wr_i32, pI_s, pR_s, pC_s, pZ_0, pZ_1, Option.bind_some, ite_true, ite_false, if_true, if_false, gIL, gRI, nlt_0, l0_lt, nle_0, l0_le, neq_0, nadd_0, nmul_0, nmul'_0, nadd'_0, nsub_0, nlt_1, l1_lt, nle_1, l1_le, neq_1, nadd_1, nmul_1, nmul'_1, nadd'_1, nsub_1, nlt_2, l2_lt, nle_2, l2_le, neq_2, nadd_2, nmul_2, nmul'_2, nadd'_2, nsub_2, nlt_3, l3_lt, nle_3, l3_le, neq_3, nadd_3, nmul_3, nmul'_3, nadd'_3, nsub_3, nlt_4, l4_lt, nle_4, l4_le, neq_4, nadd_4, nmul_4, nmul'_4, nadd'_4, nsub_4, nlt_5, l5_lt, nle_5, l5_le, neq_5, nadd_5, nmul_5, nmul'_5, nadd'_5, nsub_5, nlt_6, l6_lt, nle_6, l6_le, neq_6, nadd_6, nmul_6, nmul'_6, nadd'_6, nsub_6, nlt_7, l7_lt, nle_7, l7_le, neq_7, nadd_7, nmul_7, nmul'_7, nadd'_7, nsub_7, nlt_8, l8_lt, nle_8, l8_le, neq_8, nadd_8, nmul_8, nmul'_8, nadd'_8, nsub_8, nlt_9, l9_lt, nle_9, l9_le, neq_9, nadd_9, nmul_9, nmul'_9, nadd'_9, nsub_9, nlt_10, l10_lt, nle_10, l10_le, neq_10, nadd_10, nmul_10, nmul'_10, nadd'_10, nsub_10, nlt_11, l11_lt, nle_11, l11_le, neq_11, nadd_11, nmul_11, nmul'_11, nadd'_11, nsub_11, nlt_12, l12_lt, nle_12, l12_le, neq_12, nadd_12, nmul_12, nmul'_12, nadd'_12, nsub_12, nlt_13, l13_lt, nle_13, l13_le, neq_13, nadd_13, nmul_13, nmul'_13, nadd'_13, nsub_13, nlt_20, l20_lt, nle_20, l20_le, neq_20, nadd_20, nmul_20, nmul'_20, nadd'_20, nsub_20, nlt_400, l400_lt, nle_400, l400_le, neq_400, nadd_400, nmul_400, nmul'_400, nadd'_400, nsub_400, rd_0, wr_0, rd_1, wr_1, rd_2, wr_2, rd_3, wr_3, rd_4, wr_4, rd_5, wr_5, rd_6, wr_6, rd_7, wr_7, rd_8, wr_8, rd_9, wr_9, rd_10, wr_10, rd_11, wr_11, rd_12, wr_12, e0, Nat.add_zero]
          · rw [if_neg (by decide), if_pos (by decide)]
            simp (disch := omega) only [i32_lt, i32_le, i32_eq, i32_add, i32_mul, i32_neg, i32_nn, i32_ne1, i32_n1e, n1_lt_i32, i32_le_n1, i32_dec, i32_cl, rd_i32, ix_i32, wr_i32, pI_s, pR_s, pC_s, pZ_0, pZ_1, Option.bind_some, ite_true, ite_false, if_true, if_false, gIL, gRI, nlt_0, l0_lt, nle_0, l0_le, neq_0, nadd_0, nmul_0, nmul'_0, nadd'_0, nsub_0, nlt_1, l1_lt, nle_1, l1_le, neq_1, nadd_1, nmul_1, nmul'_1, nadd'_1, nsub_1, nlt_2, l2_lt, nle_2, l2_le, neq_2, nadd_2, nmul_2, nmul'_2, nadd'_2, nsub_2, nlt_3, l3_lt, nle_3, l3_le, neq_3, nadd_3, nmul_3, nmul'_3, nadd'_3, nsub_3, nlt_4, l4_lt, nle_4, l4_le, neq_4, nadd_4, nmul_4, nmul'_4, nadd'_4, nsub_4, nlt_5, l5_lt, nle_5, l5_le, neq_5, nadd_5, nmul_5, nmul'_5, nadd'_5, nsub_5, nlt_6, l6_lt, nle_6, l6_le, neq_6, nadd_6, nmul_6, nmul'_6, nadd'_6, nsub_6, nlt_7, l7_lt, nle_7, l7_le, neq_7, nadd_7, nmul_7, nmul'_7, nadd'_7, nsub_7, nlt_8, l8_lt, nle_8, l8_le, neq_8, nadd_8, nmul_8, nmul'_8, nadd'_8, nsub_8, nlt_9, l9_lt, nle_9, l9_le, neq_9, nadd_9, nmul_9, nmul'_9, nadd'_9, nsub_9, nlt_10, l10_lt, nle_10, l10_le, neq_10, nadd_10, nmul_10, nmul'_10, nadd'_10, nsub_10, nlt_11, l11_lt, nle_11, l11_le, neq_11, nadd_11, nmul_11, nmul'_11, nadd'_11, nsub_11, nlt_12, l12_lt, nle_12, l12_le, neq_12, nadd_12, nmul_12, nmul'_12, nadd'_12, nsub_12, nlt_13, l13_lt, nle_13, l13_le, neq_13, nadd_13, nmul_13, nmul'_13, nadd'_13, nsub_13, nlt_20, l20_lt, nle_20, l20_le, neq_20, nadd_20, nmul_20, nmul'_20, nadd'_20, nsub_20, nlt_400, l400_lt, nle_400, l400_le, neq_400, nadd_400, nmul_400, nmul'_400, nadd'_400, nsub_400, rd_0, wr_0, rd_1, wr_1, rd_2, wr_2, rd_3, wr_3, rd_4, wr_4, rd_5, wr_5, rd_6, wr_6, rd_7, wr_7, rd_8, wr_8, rd_9, wr_9, rd_10, wr_10, rd_11, wr_11, rd_12, wr_12, e1]
          · rw [if_neg (by decide), if_neg (by decide), if_pos (by decide)]
            simp (disch := omega) only [i32_lt, i32_le, i32_eq, i32_add, i32_mul, i32_neg, i32_nn, i32_ne1, i32_n1e, n1_lt_i32, i32_le_n1, i32_dec, i32_cl, rd_i32, ix_i32, wr_i32, pI_s, pR_s, pC_s, pZ_0, pZ_1, Option.bind_some, ite_true, ite_false, if_true, if_false, gIL, gRI, nlt_0, l0_lt, nle_0, l0_le, neq_0, nadd_0, nmul_0, nmul'_0, nadd'_0, nsub_0, nlt_1, l1_lt, nle_1, l1_le, neq_1, nadd_1, nmul_1, nmul'_1, nadd'_1, nsub_1, nlt_2, l2_lt, nle_2, l2_le, neq_2, nadd_2, nmul_2, nmul'_2, nadd'_2, nsub_2, nlt_3, l3_lt, nle_3, l3_le, neq_3, nadd_3, nmul_3, nmul'_3, nadd'_3, nsub_3, nlt_4, l4_lt, nle_4, l4_le, neq_4, nadd_4, nmul_4, nmul'_4, nadd'_4, nsub_4, nlt_5, l5_lt, nle_5, l5_le, neq_5, nadd_5, nmul_5, nmul'_5, nadd'_5, nsub_5, nlt_6, l6_lt, nle_6, l6_le, neq_6, nadd_6, nmul_6, nmul'_6, nadd'_6, nsub_6, nlt_7, l7_lt, nle_7, l7_le, neq_7, nadd_7, nmul_7, nmul'_7, nadd'_7, nsub_7, nlt_8, l8_lt, nle_8, l8_le, neq_8, nadd_8, nmul_8, nmul'_8, nadd'_8, nsub_8, nlt_9, l9_lt, nle_9, l9_le, neq_9, nadd_9, nmul_9, nmul'_9, nadd'_9, nsub_9, nlt_10, l10_lt, nle_10, l10_le, neq_10, nadd_10, nmul_10, nmul'_10, nadd'_10, nsub_10, nlt_11, l11_lt, nle_11, l11_le, neq_11, nadd_11, nmul_11, nmul'_11, nadd'_11, nsub_11, nlt_12, l12_lt, nle_12, l12_le, neq_12, nadd_12, nmul_12, nmul'_12, nadd'_12, nsub_12, nlt_13, l13_lt, nle_13, l13_le, neq_13, nadd_13, nmul_13, nmul'_13, nadd'_13, nsub_13, nlt_20, l20_lt, nle_20, l20_le, neq_20, nadd_20, nmul_20, nmul'_20, nadd'_20, nsub_20, nlt_400, l400_lt, nle_400, l400_le, neq_400, nadd_400, nmul_400, nmul'_400, nadd'_400, nsub_400, rd_0, wr_0, rd_1, wr_1, rd_2, wr_2, rd_3, wr_3, rd_4, wr_4, rd_5, wr_5, rd_6, wr_6, rd_7, wr_7, rd_8, wr_8, rd_9, wr_9, rd_10, wr_10, rd_11, wr_11, rd_12, wr_12, e2]
          · rw [if_neg (by decide), if_neg (by decide), if_neg (by decide), if_pos (by decide)]
            simp (disch := omega) only [i32_lt, i32_le, i32_eq, i32_add, i32_mul, i32_neg, i32_nn, i32_ne1, i32_n1e, n1_lt_i32, i32_le_n1, i32_dec, i32_cl, rd_i32, ix_i32, wr_i32, pI_s, pR_s, pC_s, pZ_0, pZ_1, Option.bind_some, ite_true, ite_false, if_true, if_false, gIL, gRI, nlt_0, l0_lt, nle_0, l0_le, neq_0, nadd_0, nmul_0, nmul'_0, nadd'_0, nsub_0, nlt_1, l1_lt, nle_1, l1_le, neq_1, nadd_1, nmul_1, nmul'_1, nadd'_1, nsub_1, nlt_2, l2_lt, nle_2, l2_le, neq_2, nadd_2, nmul_2, nmul'_2, nadd'_2, nsub_2, nlt_3, l3_lt, nle_3, l3_le, neq_3, nadd_3, nmul_3, nmul'_3, nadd'_3, nsub_3, nlt_4, l4_lt, nle_4, l4_le, neq_4, nadd_4, nmul_4, nmul'_4, nadd'_4, nsub_4, nlt_5, l5_lt, nle_5, l5_le, neq_5, nadd_5, nmul_5, nmul'_5, nadd'_5, nsub_5, nlt_6, l6_lt, nle_6, l6_le, neq_6, nadd_6, nmul_6, nmul'_6, nadd'_6, nsub_6, nlt_7, l7_lt, nle_7, l7_le, neq_7, nadd_7, nmul_7, nmul'_7, nadd'_7, nsub_7, nlt_8, l8_lt, nle_8, l8_le, neq_8, nadd_8, nmul_8, nmul'_8, nadd'_8, nsub_8, nlt_9, l9_lt, nle_9, l9_le, neq_9, nadd_9, nmul_9, nmul'_9, nadd'_9, nsub_9, nlt_10, l10_lt, nle_10, l10_le, neq_10, nadd_10, nmul_10, nmul'_10, nadd'_10, nsub_10, nlt_11, l11_lt, nle_11, l11_le, neq_11, nadd_11, nmul_11, nmul'_11, nadd'_11, nsub_11, nlt_12, l12_lt, nle_12, l12_le, neq_12, nadd_12, nmul_12, nmul'_12, nadd'_12, nsub_12, nlt_13, l13_lt, nle_13, l13_le, neq_13, nadd_13, nmul_13, nmul'_13, nadd'_13, nsub_13, nlt_20, l20_lt, nle_20, l20_le, neq_20, nadd_20, nmul_20, nmul'_20, nadd'_20, nsub_20, nlt_400, l400_lt, nle_400, l400_le, neq_400, nadd_400, nmul_400, nmul'_400, nadd'_400, nsub_400, rd_0, wr_0, rd_1, wr_1, rd_2, wr_2, rd_3, wr_3, rd_4, wr_4, rd_5, wr_5, rd_6, wr_6, rd_7, wr_7, rd_8, wr_8, rd_9, wr_9, rd_10, wr_10, rd_11, wr_11, rd_12, wr_12, e3]
          · rw [if_neg (by decide), if_neg (by decide), if_neg (by decide), if_neg (by decide), if_pos (by decide)]
            simp (disch := omega) only [i32_lt, i32_le, i32_eq, i32_add, i32_mul, i32_neg, i32_nn, i32_ne1, i32_n1e, n1_lt_i32, i32_le_n1, i32_dec, i32_cl, rd_i32, ix_i32, wr_i32, pI_s, pR_s, pC_s, pZ_0, pZ_1, Option.bind_some, ite_true, ite_false, if_true, if_false, gIL, gRI, nlt_0, l0_lt, nle_0, l0_le, neq_0, nadd_0, nmul_0, nmul'_0, nadd'_0, nsub_0, nlt_1, l1_lt, nle_1, l1_le, neq_1, nadd_1, nmul_1, nmul'_1, nadd'_1, nsub_1, nlt_2, l2_lt, nle_2, l2_le, neq_2, nadd_2, nmul_2, nmul'_2, nadd'_2, nsub_2, nlt_3, l3_lt, nle_3, l3_le, neq_3, nadd_3, nmul_3, nmul'_3, nadd'_3, nsub_3, nlt_4, l4_lt, nle_4, l4_le, neq_4, nadd_4, nmul_4, nmul'_4, nadd'_4, nsub_4, nlt_5, l5_lt, nle_5, l5_le, neq_5, nadd_5, nmul_5, nmul'_5, nadd'_5, nsub_5, nlt_6, l6_lt, nle_6, l6_le, neq_6, nadd_6, nmul_6, nmul'_6, nadd'_6, nsub_6, nlt_7, l7_lt, nle_7, l7_le, neq_7, nadd_7, nmul_7, nmul'_7, nadd'_7, nsub_7, nlt_8, l8_lt, nle_8, l8_le, neq_8, nadd_8, nmul_8, nmul'_8, nadd'_8, nsub_8, nlt_9, l9_lt, nle_9, l9_le, neq_9, nadd_9, nmul_9, nmul'_9, nadd'_9, nsub_9, nlt_10, l10_lt, nle_10, l10_le, neq_10, nadd_10, nmul_10, nmul'_10, nadd'_10, nsub_10, nlt_11, l11_lt, nle_11, l11_le, neq_11, nadd_11, nmul_11, nmul'_11, nadd'_11, nsub_11, nlt_12, l12_lt, nle_12, l12_le, neq_12, nadd_12, nmul_12, nmul'_12, nadd'_12, nsub_12, nlt_13, l13_lt, nle_13, l13_le, neq_13, nadd_13, nmul_13, nmul'_13, nadd'_13, nsub_13, nlt_20, l20_lt, nle_20, l20_le, neq_20, nadd_20, nmul_20, nmul'_20, nadd'_20, nsub_20, nlt_400, l400_lt, nle_400, l400_le, neq_400, nadd_400, nmul_400, nmul'_400, nadd'_400, nsub_400, rd_0, wr_0, rd_1, wr_1, rd_2, wr_2, rd_3, wr_3, rd_4, wr_4, rd_5, wr_5, rd_6, wr_6, rd_7, wr_7, rd_8, wr_8, rd_9, wr_9, rd_10, wr_10, rd_11, wr_11, rd_12, wr_12, e4]
          · rw [if_neg (by decide), if_neg (by decide), if_neg (by decide), if_neg (by decide), if_neg (by decide), if_pos (by decide)]
            simp (disch := omega) only [i32_lt, i32_le, i32_eq, i32_add, i32_mul, i32_neg, i32_nn, i32_ne1, i32_n1e, n1_lt_i32, i32_le_n1, i32_dec, i32_cl, rd_i32, ix_i32, wr_i32, pI_s, pR_s, pC_s, pZ_0, pZ_1, Option.bind_some, ite_true, ite_false, if_true, if_false, gIL, gRI, nlt_0, l0_lt, nle_0, l0_le, neq_0, nadd_0, nmul_0, nmul'_0, nadd'_0, nsub_0, nlt_1, l1_lt, nle_1, l1_le, neq_1, nadd_1, nmul_1, nmul'_1, nadd'_1, nsub_1, nlt_2, l2_lt, nle_2, l2_le, neq_2, nadd_2, nmul_2, nmul'_2, nadd'_2, nsub_2, nlt_3, l3_lt, nle_3, l3_le, neq_3, nadd_3, nmul_3, nmul'_3, nadd'_3, nsub_3, nlt_4, l4_lt, nle_4, l4_le, neq_4, nadd_4, nmul_4, nmul'_4, nadd'_4, nsub_4, nlt_5, l5_lt, nle_5, l5_le, neq_5, nadd_5, nmul_5, nmul'_5, nadd'_5, nsub_5, nlt_6, l6_lt, nle_6, l6_le, neq_6, nadd_6, nmul_6, nmul'_6, nadd'_6, nsub_6, nlt_7, l7_lt, nle_7, l7_le, neq_7, nadd_7, nmul_7, nmul'_7, nadd'_7, nsub_7, nlt_8, l8_lt, nle_8, l8_le, neq_8, nadd_8, nmul_8, nmul'_8, nadd'_8, nsub_8, nlt_9, l9_lt, nle_9, l9_le, neq_9, nadd_9, nmul_9, nmul'_9, nadd'_9, nsub_9, nlt_10, l10_lt, nle_10, l10_le, neq_10, nadd_10, nmul_10, nmul'_10, nadd'_10, nsub_10, nlt_11, l11_lt, nle_11, l11_le, neq_11, nadd_11, nmul_11, nmul'_11, nadd'_11, nsub_11, nlt_12, l12_lt, nle_12, l12_le, neq_12, nadd_12, nmul_12, nmul'_12, nadd'_12, nsub_12, nlt_13, l13_lt, nle_13, l13_le, neq_13, nadd_13, nmul_13, nmul'_13, nadd'_13, nsub_13, nlt_20, l20_lt, nle_20, l20_le, neq_20, nadd_20, nmul_20, nmul'_20, nadd'_20, nsub_20, nlt_400, l400_lt, nle_400, l400_le, neq_400, nadd_400, nmul_400, nmul'_400, nadd'_400, nsub_400, rd_0, wr_0, rd_1, wr_1, rd_2, wr_2, rd_3, wr_3, rd_4, wr_4, rd_5, wr_5, rd_6, wr_6, rd_7, wr_7, rd_8, wr_8, rd_9, wr_9, rd_10, wr_10, rd_11, wr_11, rd_12, wr_12, e5]
          · rw [if_neg (by decide), if_neg (by decide), if_neg (by decide), if_neg (by decide), if_neg (by decide), if_neg (by decide), if_pos (by decide), c_pairOf hc.1.1 ha, ← (hc.1.1.2.2.2.2.2.2.1 a ha).1]
            simp (disch := omega) only [i32_lt, i32_le, i32_eq, i32_add, i32_mul, i32_neg, i32_nn, i32_ne1, i32_n1e, n1_lt_i32, i32_le_n1, i32_dec, i32_cl, rd_i32, ix_i32, wr_i32, pI_s, pR_s, pC_s, pZ_0, pZ_1, Option.bind_some, ite_true, ite_false, if_true, if_false, gIL, gRI, nlt_0, l0_lt, nle_0, l0_le, neq_0, nadd_0, nmul_0, nmul'_0, nadd'_0, nsub_0, nlt_1, l1_lt, nle_1, l1_le, neq_1, nadd_1, nmul_1, nmul'_1, nadd'_1, nsub_1, nlt_2, l2_lt, nle_2, l2_le, neq_2, nadd_2, nmul_2, nmul'_2, nadd'_2, nsub_2, nlt_3, l3_lt, nle_3, l3_le, neq_3, nadd_3, nmul_3, nmul'_3, nadd'_3, nsub_3, nlt_4, l4_lt, nle_4, l4_le, neq_4, nadd_4, nmul_4, nmul'_4, nadd'_4, nsub_4, nlt_5, l5_lt, nle_5, l5_le, neq_5, nadd_5, nmul_5, nmul'_5, nadd'_5, nsub_5, nlt_6, l6_lt, nle_6, l6_le, neq_6, nadd_6, nmul_6, nmul'_6, nadd'_6, nsub_6, nlt_7, l7_lt, nle_7, l7_le, neq_7, nadd_7, nmul_7, nmul'_7, nadd'_7, nsub_7, nlt_8, l8_lt, nle_8, l8_le, neq_8, nadd_8, nmul_8, nmul'_8, nadd'_8, nsub_8, nlt_9, l9_lt, nle_9, l9_le, neq_9, nadd_9, nmul_9, nmul'_9, nadd'_9, nsub_9, nlt_10, l10_lt, nle_10, l10_le, neq_10, nadd_10, nmul_10, nmul'_10, nadd'_10, nsub_10, nlt_11, l11_lt, nle_11, l11_le, neq_11, nadd_11, nmul_11, nmul'_11, nadd'_11, nsub_11, nlt_12, l12_lt, nle_12, l12_le, neq_12, nadd_12, nmul_12, nmul'_12, nadd'_12, nsub_12, nlt_13, l13_lt, nle_13, l13_le, neq_13, nadd_13, nmul_13, nmul'_13, nadd'_13, nsub_13, nlt_20, l20_lt, nle_20, l20_le, neq_20, nadd_20, nmul_20, nmul'_20, nadd'_20, nsub_20, nlt_400, l400_lt, nle_400, l400_le, neq_400, nadd_400, nmul_400, nmul'_400, nadd'_400, nsub_400, rd_0, wr_0, rd_1, wr_1, rd_2, wr_2, rd_3, wr_3, rd_4, wr_4, rd_5, wr_5, rd_6, wr_6, rd_7, wr_7, rd_8, wr_8, rd_9, wr_9, rd_10, wr_10, rd_11, wr_11, rd_12, wr_12, e6]
          · rw [if_neg (by decide), if_neg (by decide), if_neg (by decide), if_neg (by decide), if_neg (by decide), if_neg (by decide), if_neg (by decide), if_pos (by decide)]
            simp (disch := omega) only [i32_lt, i32_le, i32_eq, i32_add, i32_mul, i32_neg, i32_nn, i32_ne1, i32_n1e, n1_lt_i32, i32_le_n1, i32_dec, i32_cl, rd_i32, ix_i32, wr_i32, pI_s, pR_s, pC_s, pZ_0, pZ_1, Option.bind_some, ite_true, ite_false, if_true, if_false, gIL, gRI, nlt_0, l0_lt, nle_0, l0_le, neq_0, nadd_0, nmul_0, nmul'_0, nadd'_0, nsub_0, nlt_1, l1_lt, nle_1, l1_le, neq_1, nadd_1, nmul_1, nmul'_1, nadd'_1, nsub_1, nlt_2, l2_lt, nle_2, l2_le, neq_2, nadd_2, nmul_2, nmul'_2, nadd'_2, nsub_2, nlt_3, l3_lt, nle_3, l3_le, neq_3, nadd_3, nmul_3, nmul'_3, nadd'_3, nsub_3, nlt_4, l4_lt, nle_4, l4_le, neq_4, nadd_4, nmul_4, nmul'_4, nadd'_4, nsub_4, nlt_5, l5_lt, nle_5, l5_le, neq_5, nadd_5, nmul_5, nmul'_5, nadd'_5, nsub_5, nlt_6, l6_lt, nle_6, l6_le, neq_6, nadd_6, nmul_6, nmul'_6, nadd'_6, nsub_6, nlt_7, l7_lt, nle_7, l7_le, neq_7, nadd_7, nmul_7, nmul'_7, nadd'_7, nsub_7, nlt_8, l8_lt, nle_8, l8_le, neq_8, nadd_8, nmul_8, nmul'_8, nadd'_8, nsub_8, nlt_9, l9_lt, nle_9, l9_le, neq_9, nadd_9, nmul_9, nmul'_9, nadd'_9, nsub_9, nlt_10, l10_lt, nle_10, l10_le, neq_10, nadd_10, nmul_10, nmul'_10, nadd'_10, nsub_10, nlt_11, l11_lt, nle_11, l11_le, neq_11, nadd_11, nmul_11, nmul'_11, nadd'_11, nsub_11, nlt_12, l12_lt, nle_12, l12_le, neq_12, nadd_12, nmul_12, nmul'_12, nadd'_12, nsub_12, nlt_13, l13_lt, nle_13, l13_le, neq_13, nadd_13, nmul_13, nmul'_13, nadd'_13, nsub_13, nlt_20, l20_lt, nle_20, l20_le, neq_20, nadd_20, nmul_20, nmul'_20, nadd'_20, nsub_20, nlt_400, l400_lt, nle_400, l400_le, neq_400, nadd_400, nmul_400, nmul'_400, nadd'_400, nsub_400, rd_0, wr_0, rd_1, wr_1, rd_2, wr_2, rd_3, wr_3, rd_4, wr_4, rd_5, wr_5, rd_6, wr_6, rd_7, wr_7, rd_8, wr_8, rd_9, wr_9, rd_10, wr_10, rd_11, wr_11, rd_12, wr_12, e7]
        · rw [m_inX (lo := 0) (hi := 7) h2 (by omega) (by omega) (by omega)]
          refine ⟨-2, ?_, rfl⟩
          simp (disch := omega) only [neq_0, neq_1, neq_2, neq_3, neq_4, neq_5, neq_6, neq_7]
          rw [if_neg (by omega), if_neg (by omega), if_neg (by omega), if_neg (by omega), if_neg (by omega), if_neg (by omega), if_neg (by omega), if_neg (by omega)]
    · rw [if_neg c]
      exact ⟨_, bnd (if_pos rfl), bnd (if_pos rfl)⟩
theorem both_stone {x1 x2 : Int32} {M : mM} (hi : Inv M) : Both (f_GraveRails_stone x1 x2) (f_Model_stone x1 x2) M := by
  refine both_pure hi ?_
  obtain ⟨g, hg, hc, hm⟩ := hi
  have hS := hc.1.2.1.1
  have hN := hm.1.1.1
  have hn := hN.2.2.2.2.1
  unfold f_GraveRails_stone f_Model_stone
  rcases i32_cases x1 with h1 | ⟨a, h1, rfl⟩
  · rw [c_hasN h1, m_isGraveN h1]
    exact ⟨_, bnd (if_pos rfl), bnd (if_pos rfl)⟩
  · rw [c_has hS h1, m_isGrave hN h1]
    by_cases c : a < g.1.2.1.2.1
    · obtain ⟨ha, ⟨e0, e1, e2, e3, e4, e5, e6, e7, e8⟩, t1, t2⟩ := g_both hg hc hm c
      rw [if_pos c]
      simp only [Option.bind_some, d10, if_false]
      rcases i32_cases x2 with h2 | ⟨k, h2, rfl⟩
      · refine ⟨-2, ?_, ?_⟩
        · rw [if_neg (ne_neg (k := 0) h2 (by omega)), if_neg (ne_neg (k := 1) h2 (by omega)), if_neg (ne_neg (k := 2) h2 (by omega)), if_neg (ne_neg (k := 3) h2 (by omega))]
        · rw [m_inN (lo := 0) (hi := 3) h2 (by omega)]
          rfl
      · by_cases ck : k ≤ 3
        · rw [m_inY (lo := 0) (hi := 3) ⟨Nat.zero_le k, ck⟩ (by omega)]
          have h3 : k = 0 ∨ k = 1 ∨ k = 2 ∨ k = 3 := by omega
          rcases h3 with rfl | rfl | rfl | rfl
          · simp (disch := omega) only [i32_lt, i32_le, i32_eq, i32_add, i32_mul, i32_neg, i32_nn, i32_ne1, i32_n1e, n1_lt_i32, i32_le_n1, i32_dec, i32_cl, rd_i32, ix_i32, wr_i32, pI_s, pR_s, pC_s, pZ_0, pZ_1, Option.bind_some, ite_true, ite_false, if_true, if_false, gIL, gRI, nlt_0, l0_lt, nle_0, l0_le, neq_0, nadd_0, nmul_0, nmul'_0, nadd'_0, nsub_0, nlt_1, l1_lt, nle_1, l1_le, neq_1, nadd_1, nmul_1, nmul'_1, nadd'_1, nsub_1, nlt_2, l2_lt, nle_2, l2_le, neq_2, nadd_2, nmul_2, nmul'_2, nadd'_2, nsub_2, nlt_3, l3_lt, nle_3, l3_le, neq_3, nadd_3, nmul_3, nmul'_3, nadd'_3, nsub_3, nlt_4, l4_lt, nle_4, l4_le, neq_4, nadd_4, nmul_4, nmul'_4, nadd'_4, nsub_4, nlt_5, l5_lt, nle_5, l5_le, neq_5, nadd_5, nmul_5, nmul'_5, nadd'_5, nsub_5, nlt_6, l6_lt, nle_6, l6_le, neq_6, nadd_6, nmul_6, nmul'_6, nadd'_6, nsub_6, nlt_7, l7_lt, nle_7, l7_le, neq_7, nadd_7, nmul_7, nmul'_7, nadd'_7, nsub_7, nlt_8, l8_lt, nle_8, l8_le, neq_8, nadd_8, nmul_8, nmul'_8, nadd'_8, nsub_8, nlt_9, l9_lt, nle_9, l9_le, neq_9, nadd_9, nmul_9, nmul'_9, nadd'_9, nsub_9, nlt_10, l10_lt, nle_10, l10_le, neq_10, nadd_10, nmul_10, nmul'_10, nadd'_10, nsub_10, nlt_11, l11_lt, nle_11, l11_le, neq_11, nadd_11, nmul_11, nmul'_11, nadd'_11, nsub_11, nlt_12, l12_lt, nle_12, l12_le, neq_12, nadd_12, nmul_12, nmul'_12, nadd'_12, nsub_12, nlt_13, l13_lt, nle_13, l13_le, neq_13, nadd_13, nmul_13, nmul'_13, nadd'_13, nsub_13, nlt_20, l20_lt, nle_20, l20_le, neq_20, nadd_20, nmul_20, nmul'_20, nadd'_20, nsub_20, nlt_400, l400_lt, nle_400, l400_le, neq_400, nadd_400, nmul_400, nmul'_400, nadd'_400, nsub_400, rd_0, wr_0, rd_1, wr_1, rd_2, wr_2, rd_3, wr_3, rd_4, wr_4, rd_5, wr_5, rd_6, wr_6, rd_7, wr_7, rd_8, wr_8, rd_9, wr_9, rd_10, wr_10, rd_11, wr_11, rd_12, wr_12, nlt_109, l109_lt, nle_109, l109_le, neq_109, nadd_109, nmul_109, nmul'_109, nadd'_109, nsub_109, d10]
            refine ⟨M.2.1 446 (109 + 2 * a), ?_, rfl⟩
            rw [t1]
          · simp (disch := omega) only [i32_lt, i32_le, i32_eq, i32_add, i32_mul, i32_neg, i32_nn, i32_ne1, i32_n1e, n1_lt_i32, i32_le_n1, i32_dec, i32_cl, rd_i32, ix_i32, wr_i32, pI_s, pR_s, pC_s, pZ_0, pZ_1, Option.bind_some, ite_true, ite_false, if_true, if_false, gIL, gRI, nlt_0, l0_lt, nle_0, l0_le, neq_0, nadd_0, nmul_0, nmul'_0, nadd'_0, nsub_0, nlt_1, l1_lt, nle_1, l1_le, neq_1, nadd_1, nmul_1, nmul'_1, nadd'_1, nsub_1, nlt_2, l2_lt, nle_2, l2_le, neq_2, nadd_2, nmul_2, nmul'_2, nadd'_2, nsub_2, nlt_3, l3_lt, nle_3, l3_le, neq_3, nadd_3, nmul_3, nmul'_3, nadd'_3, nsub_3, nlt_4, l4_lt, nle_4, l4_le, neq_4, nadd_4, nmul_4, nmul'_4, nadd'_4, nsub_4, nlt_5, l5_lt, nle_5, l5_le, neq_5, nadd_5, nmul_5, nmul'_5, nadd'_5, nsub_5, nlt_6, l6_lt, nle_6, l6_le, neq_6, nadd_6, nmul_6, nmul'_6, nadd'_6, nsub_6, nlt_7, l7_lt, nle_7, l7_le, neq_7, nadd_7, nmul_7, nmul'_7, nadd'_7, nsub_7, nlt_8, l8_lt, nle_8, l8_le, neq_8, nadd_8, nmul_8, nmul'_8, nadd'_8, nsub_8, nlt_9, l9_lt, nle_9, l9_le, neq_9, nadd_9, nmul_9, nmul'_9, nadd'_9, nsub_9, nlt_10, l10_lt, nle_10, l10_le, neq_10, nadd_10, nmul_10, nmul'_10, nadd'_10, nsub_10, nlt_11, l11_lt, nle_11, l11_le, neq_11, nadd_11, nmul_11, nmul'_11, nadd'_11, nsub_11, nlt_12, l12_lt, nle_12, l12_le, neq_12, nadd_12, nmul_12, nmul'_12, nadd'_12, nsub_12, nlt_13, l13_lt, nle_13, l13_le, neq_13, nadd_13, nmul_13, nmul'_13, nadd'_13, nsub_13, nlt_20, l20_lt, nle_20, l20_le, neq_20, nadd_20, nmul_20, nmul'_20, nadd'_20, nsub_20, nlt_400, l400_lt, nle_400, l400_le, neq_400, nadd_400, nmul_400, nmul'_400, nadd'_400, nsub_400, rd_0, wr_0, rd_1, wr_1, rd_2, wr_2, rd_3, wr_3, rd_4, wr_4, rd_5, wr_5, rd_6, wr_6, rd_7, wr_7, rd_8, wr_8, rd_9, wr_9, rd_10, wr_10, rd_11, wr_11, rd_12, wr_12, nlt_109, l109_lt, nle_109, l109_le, neq_109, nadd_109, nmul_109, nmul'_109, nadd'_109, nsub_109, d10]
            refine ⟨M.2.1 446 (109 + 2 * a + 1), ?_, rfl⟩
            rw [if_neg (by decide), t2]
          · simp (disch := omega) only [i32_lt, i32_le, i32_eq, i32_add, i32_mul, i32_neg, i32_nn, i32_ne1, i32_n1e, n1_lt_i32, i32_le_n1, i32_dec, i32_cl, rd_i32, ix_i32, wr_i32, pI_s, pR_s, pC_s, pZ_0, pZ_1, Option.bind_some, ite_true, ite_false, if_true, if_false, gIL, gRI, nlt_0, l0_lt, nle_0, l0_le, neq_0, nadd_0, nmul_0, nmul'_0, nadd'_0, nsub_0, nlt_1, l1_lt, nle_1, l1_le, neq_1, nadd_1, nmul_1, nmul'_1, nadd'_1, nsub_1, nlt_2, l2_lt, nle_2, l2_le, neq_2, nadd_2, nmul_2, nmul'_2, nadd'_2, nsub_2, nlt_3, l3_lt, nle_3, l3_le, neq_3, nadd_3, nmul_3, nmul'_3, nadd'_3, nsub_3, nlt_4, l4_lt, nle_4, l4_le, neq_4, nadd_4, nmul_4, nmul'_4, nadd'_4, nsub_4, nlt_5, l5_lt, nle_5, l5_le, neq_5, nadd_5, nmul_5, nmul'_5, nadd'_5, nsub_5, nlt_6, l6_lt, nle_6, l6_le, neq_6, nadd_6, nmul_6, nmul'_6, nadd'_6, nsub_6, nlt_7, l7_lt, nle_7, l7_le, neq_7, nadd_7, nmul_7, nmul'_7, nadd'_7, nsub_7, nlt_8, l8_lt, nle_8, l8_le, neq_8, nadd_8, nmul_8, nmul'_8, nadd'_8, nsub_8, nlt_9, l9_lt, nle_9, l9_le, neq_9, nadd_9, nmul_9, nmul'_9, nadd'_9, nsub_9, nlt_10, l10_lt, nle_10, l10_le, neq_10, nadd_10, nmul_10, nmul'_10, nadd'_10, nsub_10, nlt_11, l11_lt, nle_11, l11_le, neq_11, nadd_11, nmul_11, nmul'_11, nadd'_11, nsub_11, nlt_12, l12_lt, nle_12, l12_le, neq_12, nadd_12, nmul_12, nmul'_12, nadd'_12, nsub_12, nlt_13, l13_lt, nle_13, l13_le, neq_13, nadd_13, nmul_13, nmul'_13, nadd'_13, nsub_13, nlt_20, l20_lt, nle_20, l20_le, neq_20, nadd_20, nmul_20, nmul'_20, nadd'_20, nsub_20, nlt_400, l400_lt, nle_400, l400_le, neq_400, nadd_400, nmul_400, nmul'_400, nadd'_400, nsub_400, rd_0, wr_0, rd_1, wr_1, rd_2, wr_2, rd_3, wr_3, rd_4, wr_4, rd_5, wr_5, rd_6, wr_6, rd_7, wr_7, rd_8, wr_8, rd_9, wr_9, rd_10, wr_10, rd_11, wr_11, rd_12, wr_12, nlt_109, l109_lt, nle_109, l109_le, neq_109, nadd_109, nmul_109, nmul'_109, nadd'_109, nsub_109, d10]
            refine ⟨M.2.1 446 (10 + 9 * a + 8), ?_, ?_⟩
            · rw [c_isHeavy hc.1.1 ha]
              have e9 : M.2.1 446 (10 + 9 * a + 8) = e01 (y_h g.1.1 a) := (hm.1.1.2.2.1 a c)
              rw [e9]
              simp only [Option.bind_some]
              cases y_h g.1.1 a with
              | true => rfl
              | false => rfl
            · rw [m_g8 ha]
              rfl
          · simp (disch := omega) only [i32_lt, i32_le, i32_eq, i32_add, i32_mul, i32_neg, i32_nn, i32_ne1, i32_n1e, n1_lt_i32, i32_le_n1, i32_dec, i32_cl, rd_i32, ix_i32, wr_i32, pI_s, pR_s, pC_s, pZ_0, pZ_1, Option.bind_some, ite_true, ite_false, if_true, if_false, gIL, gRI, nlt_0, l0_lt, nle_0, l0_le, neq_0, nadd_0, nmul_0, nmul'_0, nadd'_0, nsub_0, nlt_1, l1_lt, nle_1, l1_le, neq_1, nadd_1, nmul_1, nmul'_1, nadd'_1, nsub_1, nlt_2, l2_lt, nle_2, l2_le, neq_2, nadd_2, nmul_2, nmul'_2, nadd'_2, nsub_2, nlt_3, l3_lt, nle_3, l3_le, neq_3, nadd_3, nmul_3, nmul'_3, nadd'_3, nsub_3, nlt_4, l4_lt, nle_4, l4_le, neq_4, nadd_4, nmul_4, nmul'_4, nadd'_4, nsub_4, nlt_5, l5_lt, nle_5, l5_le, neq_5, nadd_5, nmul_5, nmul'_5, nadd'_5, nsub_5, nlt_6, l6_lt, nle_6, l6_le, neq_6, nadd_6, nmul_6, nmul'_6, nadd'_6, nsub_6, nlt_7, l7_lt, nle_7, l7_le, neq_7, nadd_7, nmul_7, nmul'_7, nadd'_7, nsub_7, nlt_8, l8_lt, nle_8, l8_le, neq_8, nadd_8, nmul_8, nmul'_8, nadd'_8, nsub_8, nlt_9, l9_lt, nle_9, l9_le, neq_9, nadd_9, nmul_9, nmul'_9, nadd'_9, nsub_9, nlt_10, l10_lt, nle_10, l10_le, neq_10, nadd_10, nmul_10, nmul'_10, nadd'_10, nsub_10, nlt_11, l11_lt, nle_11, l11_le, neq_11, nadd_11, nmul_11, nmul'_11, nadd'_11, nsub_11, nlt_12, l12_lt, nle_12, l12_le, neq_12, nadd_12, nmul_12, nmul'_12, nadd'_12, nsub_12, nlt_13, l13_lt, nle_13, l13_le, neq_13, nadd_13, nmul_13, nmul'_13, nadd'_13, nsub_13, nlt_20, l20_lt, nle_20, l20_le, neq_20, nadd_20, nmul_20, nmul'_20, nadd'_20, nsub_20, nlt_400, l400_lt, nle_400, l400_le, neq_400, nadd_400, nmul_400, nmul'_400, nadd'_400, nsub_400, rd_0, wr_0, rd_1, wr_1, rd_2, wr_2, rd_3, wr_3, rd_4, wr_4, rd_5, wr_5, rd_6, wr_6, rd_7, wr_7, rd_8, wr_8, rd_9, wr_9, rd_10, wr_10, rd_11, wr_11, rd_12, wr_12, nlt_109, l109_lt, nle_109, l109_le, neq_109, nadd_109, nmul_109, nmul'_109, nadd'_109, nsub_109, d10]
            have q := hc.1.2.1.2 a c
            simp only [Nat.reduceAdd] at q
            rw [← t1, ← t2, q.1, q.2]
            have hT := hg.1.2.1.2.1 a c
            cases ht : g.1.2.1.2.2.2 a with
            | none =>
              rw [show eL none = -1 from rfl, show eC none = -1 from rfl, c_graveAtN (by decide), if_neg (by decide)]
              exact ⟨-1, rfl, rfl⟩
            | some p =>
              have hp := hT p.1 p.2 ht
              rw [show eL (some p) = i32 p.1 from rfl, show eC (some p) = i32 p.2 from rfl, if_pos ((i32_nn (by omega)).mpr trivial), c_graveAt hS hg.1.2.1.1 (by omega) (by omega), m_graveAt hN hg.1.2.1.1 (by omega) (by omega)]
              exact ⟨_, rfl, rfl⟩
        · rw [m_inX (lo := 0) (hi := 3) h2 (by omega) (by omega) (by omega)]
          refine ⟨-2, ?_, rfl⟩
          simp (disch := omega) only [neq_0, neq_1, neq_2, neq_3]
          rw [if_neg (by omega), if_neg (by omega), if_neg (by omega), if_neg (by omega)]
    · rw [if_neg c]
      exact ⟨_, bnd (if_pos rfl), bnd (if_pos rfl)⟩
/-- a place, on both sides -/
theorem place_both {g : Gx} {M : mM} (hg : VG g) (hc : RC g M) (hm : RMm g M) (x1 x2 : Int32) : (f_Yard_hasPlace 21 x1 x2 M = some (0, M) ∧ f_Model_isPlace x1 x2 M = some (0, M)) ∨ ∃ l c, x1 = i32 l ∧ x2 = i32 c ∧ l < y_L g.1.1 ∧ c < y_C g.1.1 ∧ l < 4 ∧ c < 20 ∧ f_Yard_hasPlace 21 x1 x2 M = some (1, M) ∧ f_Model_isPlace x1 x2 M = some (1, M) := by
  have hv := hg.1.1
  have v1 := hv.1
  have v2 := hv.2.1
  rcases i32_cases x1 with h1 | ⟨l, h1, rfl⟩
  · exact Or.inl ⟨c_hasPlaceN (Or.inl h1), m_isPlaceN (Or.inl h1)⟩
  · rcases i32_cases x2 with h2 | ⟨c, h2, rfl⟩
    · exact Or.inl ⟨c_hasPlaceN (Or.inr h2), m_isPlaceN (Or.inr h2)⟩
    · rw [c_hasPlace hc.1.1 hv h1 h2, m_isPlace hm.1.1.1.1 hm.1.1.1.2.1 hv h1 h2]
      by_cases q : l < y_L g.1.1 ∧ c < y_C g.1.1
      · rw [if_pos q]
        exact Or.inr ⟨l, c, rfl, rfl, q.1, q.2, by omega, by omega, rfl, rfl⟩
      · rw [if_neg q]
        exact Or.inl ⟨rfl, rfl⟩
theorem both_at {x1 x2 : Int32} {M : mM} (hi : Inv M) : Both (f_GraveRails_at x1 x2) (f_Model_at x1 x2) M := by
  refine both_pure hi ?_
  obtain ⟨g, hg, hc, hm⟩ := hi
  unfold f_GraveRails_at f_Model_at
  rcases place_both hg hc hm x1 x2 with ⟨h1, h2⟩ | ⟨l, c, rfl, rfl, p1, p2, p3, p4, h1, h2⟩
  · rw [h1, h2]
    exact ⟨_, bnd (if_pos rfl), bnd (if_pos rfl)⟩
  · rw [h1, h2]
    simp only [Option.bind_some, d10, if_false]
    rw [c_graveAt hc.1.2.1.1 hg.1.2.1.1 (by omega) (by omega), m_graveAt hm.1.1.1 hg.1.2.1.1 (by omega) (by omega)]
    exact ⟨_, rfl, rfl⟩
theorem both_root {x1 x2 : Int32} {M : mM} (hi : Inv M) : Both (f_GraveRails_root x1 x2) (f_Model_root x1 x2) M := by
  refine both_pure hi ?_
  obtain ⟨g, hg, hc, hm⟩ := hi
  unfold f_GraveRails_root f_Model_root
  rcases place_both hg hc hm x1 x2 with ⟨h1, h2⟩ | ⟨l, c, rfl, rfl, p1, p2, p3, p4, h1, h2⟩
  · rw [h1, h2]
    exact ⟨_, bnd (if_pos rfl), bnd (if_pos rfl)⟩
  · rw [h1, h2]
    simp only [Option.bind_some, d10, if_false]
    rw [c_rootAt hc.1.1 p3 p4, m_rootAt hm.1.2.1 hg.1.1 p3 p4]
    exact ⟨_, rfl, rfl⟩
