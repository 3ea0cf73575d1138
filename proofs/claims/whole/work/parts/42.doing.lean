/-! ===== dig, pay, undo, sight ===== -/
theorem RC_state {g : Gx} {s' : Sx} {a' : Nat × (Nat → Sx)} {M M' : mM} (hg : VG g) (h : RC g M) (hs : CSX 29 s' M') (ha : CA a' M') (e : ∀ p, p < 29 ∨ (39 ≤ p ∧ p < 44) ∨ (269 ≤ p ∧ p < 436) → M'.2.1 p = M.2.1 p) (er : M'.2.2.2 269 = M.2.2.2 269) : RC (setS g.1 s', g.2.1, g.2.2.1, a', g.2.2.2.2) M' := by
  obtain ⟨c1, c2, c3, c4, c5⟩ := h.1
  refine RC_put hg h ⟨CY_of c1 fun k hk => e _ (by omega), hs, CG_of c3 fun k hk => e _ (by omega), ?_, ?_⟩ ha (fun p hp => e p (by omega)) (CZ_set h.2.2.2.2.2.2 rfl rfl rfl (fun p hp => e p (by omega)) er)
  · rw [e 20 (by omega)]; exact c4
  · rw [e 20 (by omega)]; exact c5
theorem RM_state {g : Gx} {s' : Sx} {a' : Nat × (Nat → Sx)} {M M' : mM} (hg : VG g) (h : RMm g M) (hs : MSX g.1.1 s' (M'.2.1 446)) (e : ∀ i, 131 ≤ i → M'.2.1 446 i = M.2.1 446 i) (ha : MA g.1.1 a' M') (ei : ∀ i, i = 1 ∨ i = 2 ∨ i = 21 ∨ i = 22 ∨ i = 26 → M'.2.1 436 i = M.2.1 436 i) (ep : ∀ p, p = 437 ∨ p = 438 ∨ p = 440 ∨ p = 441 ∨ p = 453 ∨ p = 454 ∨ p = 455 ∨ p = 456 → M'.2.1 p = M.2.1 p) : RMm (setS g.1 s', g.2.1, g.2.2.1, a', g.2.2.2.2) M' := by
  obtain ⟨w1, ⟨⟨rt, r5, hr, he⟩, r6, r7⟩, w3, w4⟩ := h.1
  refine RMm_put h ⟨hs, ⟨⟨rt, hs.2.2.2.2.1, fun k hk => ?_, he⟩, hs.2.2.2.2.2, fun k hk => (e _ (by omega)).trans (r7 k hk)⟩, ⟨(e _ (by omega)).trans w3.1, fun k hk => ?_⟩, fun k hk => ?_⟩ ((ei 21 (by omega)).trans h.2.1) ((ei 22 (by omega)).trans h.2.2.1) ha (fun i hi => ei i (by omega)) ep
  · obtain ⟨a1, a2, a3, a4, a5⟩ := hr k hk
    exact ⟨a1, a2, (e _ (by omega)).trans a3, (e _ (by omega)).trans a4, (e _ (by omega)).trans a5⟩
  · obtain ⟨a1, a2, a3⟩ := w3.2 k hk
    exact ⟨(e _ (by omega)).trans a1, (e _ (by omega)).trans a2, (e _ (by omega)).trans a3⟩
  · obtain ⟨a1, a2, a3, a4⟩ := w4 k hk
    exact ⟨(e _ (by omega)).trans a1, (e _ (by omega)).trans a2, (e _ (by omega)).trans a3, (e _ (by omega)).trans a4⟩
theorem push_le {a : Nat × (Nat → Sx)} {s : Sx} (h : a.1 ≤ 20) : (push a s).1 ≤ 20 := by
  unfold push
  split
  · show a.1 + 1 ≤ 20
    omega
  · exact Nat.le_refl _
theorem push_VS {y : Yd} {a : Nat × (Nat → Sx)} {s : Sx} (h : ∀ j, j < a.1 → VS y (a.2 j)) (hs : VS y s) : ∀ j, j < (push a s).1 → VS y ((push a s).2 j) := by
  intro j hj
  unfold push at hj ⊢
  by_cases c : a.1 < 20
  · rw [if_pos c] at hj ⊢
    show VS y (bup a.2 a.1 s j)
    have hj' : j < a.1 + 1 := hj
    by_cases q : j = a.1
    · subst q; rw [bup_e]; exact hs
    · rw [bup_o q]; exact h j (by omega)
  · rw [if_neg c] at hj ⊢
    show VS y (if j = 19 then s else a.2 (j + 1))
    have hj' : j < 20 := hj
    by_cases q : j = 19
    · rw [if_pos q]; exact hs
    · rw [if_neg q]; exact h _ (by omega)
theorem VG_state {g : Gx} (hg : VG g) {s' : Sx} (hs : VS g.1.1 s') : VG (setS g.1 s', g.2.1, g.2.2.1, push g.2.2.2.1 g.1.2.1, g.2.2.2.2) :=
  VG_w hg ⟨hg.1.1, hs, hg.1.2.2.1, hg.1.2.2.2.1, hg.1.2.2.2.2⟩ hg.2.1 (push_le hg.2.2.2.2.2.2.1) (push_VS hg.2.2.2.2.2.2.2.1 hg.1.2.1)
theorem eG_ne {o : Option Nat} (h : ∀ k, o = some k → k < 2147483648) : (eG o = -1) = (o = none) := by
  cases o with
  | none => exact propext ⟨fun _ => rfl, fun _ => rfl⟩
  | some k => exact propext ⟨fun z => absurd z (fun q => (i32_ne1 (h k rfl)).mp q), fun z => by cases z⟩
theorem eG_nn {o : Option Nat} (h : ∀ k, o = some k → k < 2147483648) : (0 ≤ eG o) = (o ≠ none) := by
  cases o with
  | none => exact propext ⟨fun z => absurd z (by decide), fun z => absurd rfl z⟩
  | some k => exact propext ⟨fun _ => Option.some_ne_none _, fun _ => (i32_nn (h k rfl)).mpr trivial⟩
theorem grv_b {n : Nat} {b : Nat → B} {l c : Nat} (hn : n ≤ 11) : ∀ k, grv n b l c = some k → k < 2147483648 := fun k e => by
  have := (grv_some e).1
  omega
theorem c_isFree {g : Gx} {M : mM} (hg : VG g) (hc : RC g M) {l c : Nat} (h1 : f_Yard_hasPlace 21 (i32 l) (i32 c) M = some (1, M)) (hl : l < 4) (hcc : c < 20) : f_GraveRails_isFree (i32 l) (i32 c) M = some (if grv g.1.2.1.2.1 g.1.2.1.2.2.1 l c = none then 1 else 0, M) := by
  have hn := hc.1.2.1.1.2.2.2.1
  unfold f_GraveRails_isFree
  rw [h1]
  simp only [Option.bind_some, d10, if_false]
  rw [c_graveAt hc.1.2.1.1 hg.1.2.1.1 (by omega) (by omega)]
  simp only [Option.bind_some]
  simp only [eG_ne (grv_b hn)]
  by_cases q : grv g.1.2.1.2.1 g.1.2.1.2.2.1 l c = none
  · rw [if_pos q, if_pos q]
  · rw [if_neg q, if_neg q]
theorem both_dig {x1 x2 x3 : Int32} {M : mM} (hi : Inv M) : Both (f_GraveRails_dig x1 x2 x3) (f_Model_dig x1 x2 x3) M := by
  have hi' := hi
  obtain ⟨g, hg, hc, hm⟩ := hi
  have hn := hg.1.2.1.2.2.2.1
  have hS := hc.1.2.1.1
  have hN := hm.1.1.1
  have e1 : M.2.1 29 1 = i32 g.1.2.1.2.1 := hS.2.1
  rcases place_both hg hc hm x1 x2 with ⟨h1, h2⟩ | ⟨l, c, rfl, rfl, p1, p2, p3, p4, h1, h2⟩
  · refine both_pure hi' ⟨-1, ?_, ?_⟩
    · unfold f_GraveRails_dig f_GraveRails_isFree
      rw [h1]
      rfl
    · unfold f_Model_dig
      rw [h2]
      rfl
  · have hfr := c_isFree hg hc h1 p3 p4
    have hga := m_graveAt hN hg.1.2.1.1 (l := l) (c := c) (by omega) (by omega)
    have no : (grv g.1.2.1.2.1 g.1.2.1.2.2.1 l c ≠ none ∨ x3 < 0 ∨ 3 < x3 ∨ g.1.2.1.2.1 = 10) → Both (f_GraveRails_dig (i32 l) (i32 c) x3) (f_Model_dig (i32 l) (i32 c) x3) M := by
      intro hno
      refine both_pure hi' ⟨-1, ?_, ?_⟩
      · unfold f_GraveRails_dig
        rw [hfr]
        by_cases q : grv g.1.2.1.2.1 g.1.2.1.2.2.1 l c = none
        · rw [if_pos q]
          simp only [Option.bind_some, d10, if_false, e1]
          by_cases q1 : x3 < 0
          · rw [if_pos q1]
          · rw [if_neg q1]
            by_cases q2 : 3 < x3
            · rw [if_pos q2]
            · rw [if_neg q2]
              have : g.1.2.1.2.1 = 10 := by
                rcases hno with z | z | z | z
                · exact absurd q z
                · exact absurd z q1
                · exact absurd z q2
                · exact z
              rw [this]
              rfl
        · rw [if_neg q]
          exact bnd (if_pos rfl)
      · unfold f_Model_dig
        rw [h2]
        simp only [Option.bind_some, d10, if_false]
        rcases i32_cases x3 with h3 | ⟨k, h3, rfl⟩
        · rw [m_inN (lo := 0) (hi := 3) h3 (by omega)]
          exact bnd (if_pos rfl)
        · by_cases ck : k ≤ 3
          · rw [m_inY (lo := 0) (hi := 3) ⟨Nat.zero_le k, ck⟩ (by omega)]
            simp only [Option.bind_some, d10, if_false]
            rw [hga]
            simp (disch := omega) only [i32_lt, i32_le, i32_eq, i32_add, i32_mul, i32_neg, i32_nn, i32_ne1, i32_n1e, n1_lt_i32, i32_le_n1, i32_dec, i32_cl, rd_i32, ix_i32, wr_i32, pI_s, pR_s, pC_s, pZ_0, pZ_1, Option.bind_some, ite_true, ite_false, if_true, if_false, gIL, gRI, nlt_0, l0_lt, nle_0, l0_le, neq_0, nadd_0, nmul_0, nmul'_0, nadd'_0, nsub_0, nlt_1, l1_lt, nle_1, l1_le, neq_1, nadd_1, nmul_1, nmul'_1, nadd'_1, nsub_1, nlt_2, l2_lt, nle_2, l2_le, neq_2, nadd_2, nmul_2, nmul'_2, nadd'_2, nsub_2, nlt_3, l3_lt, nle_3, l3_le, neq_3, nadd_3, nmul_3, nmul'_3, nadd'_3, nsub_3, nlt_4, l4_lt, nle_4, l4_le, neq_4, nadd_4, nmul_4, nmul'_4, nadd'_4, nsub_4, nlt_5, l5_lt, nle_5, l5_le, neq_5, nadd_5, nmul_5, nmul'_5, nadd'_5, nsub_5, nlt_6, l6_lt, nle_6, l6_le, neq_6, nadd_6, nmul_6, nmul'_6, nadd'_6, nsub_6, nlt_7, l7_lt, nle_7, l7_le, neq_7, nadd_7, nmul_7, nmul'_7, nadd'_7, nsub_7, nlt_8, l8_lt, nle_8, l8_le, neq_8, nadd_8, nmul_8, nmul'_8, nadd'_8, nsub_8, nlt_9, l9_lt, nle_9, l9_le, neq_9, nadd_9, nmul_9, nmul'_9, nadd'_9, nsub_9, nlt_10, l10_lt, nle_10, l10_le, neq_10, nadd_10, nmul_10, nmul'_10, nadd'_10, nsub_10, nlt_11, l11_lt, nle_11, l11_le, neq_11, nadd_11, nmul_11, nmul'_11, nadd'_11, nsub_11, nlt_12, l12_lt, nle_12, l12_le, neq_12, nadd_12, nmul_12, nmul'_12, nadd'_12, nsub_12, nlt_13, l13_lt, nle_13, l13_le, neq_13, nadd_13, nmul_13, nmul'_13, nadd'_13, nsub_13, nlt_20, l20_lt, nle_20, l20_le, neq_20, nadd_20, nmul_20, nmul'_20, nadd'_20, nsub_20, nlt_400, l400_lt, nle_400, l400_le, neq_400, nadd_400, nmul_400, nmul'_400, nadd'_400, nsub_400, rd_0, wr_0, rd_1, wr_1, rd_2, wr_2, rd_3, wr_3, rd_4, wr_4, rd_5, wr_5, rd_6, wr_6, rd_7, wr_7, rd_8, wr_8, rd_9, wr_9, rd_10, wr_10, rd_11, wr_11, rd_12, wr_12, d10, hN.2.2.1, eG_nn (grv_b hN.2.2.2.2.1)]
            by_cases q : grv g.1.2.1.2.1 g.1.2.1.2.2.1 l c = none
            · rw [if_neg (fun z => z q)]
              have : g.1.2.1.2.1 = 10 := by
                rcases hno with z | z | z | z
                · exact absurd q z
                · exact absurd z (fun z => (i32_neg h3).mp z)
                · rw [show (3 : Int32) = i32 3 from rfl, i32_lt (by omega) h3] at z; omega
                · exact z
              rw [if_pos this]
            · rw [if_pos q]
          · rw [m_inX (lo := 0) (hi := 3) h3 (by omega) (by omega) (by omega)]
            exact bnd (if_pos rfl)
    by_cases q : grv g.1.2.1.2.1 g.1.2.1.2.2.1 l c = none
    · rcases i32_cases x3 with h3 | ⟨k, h3, rfl⟩
      · exact no (Or.inr (Or.inl h3))
      · by_cases ck : k ≤ 3
        · by_cases c10 : g.1.2.1.2.1 = 10
          · exact no (Or.inr (Or.inr (Or.inr c10)))
          · refine both_do (v := i32 g.1.2.1.2.1) hm (VG_state hg (VS_dig hg.1.2.1 hg.1.1 (by omega) p1 p2 ck q)) ?_ fun M' hm' => ?_
            · unfold f_GraveRails_dig
              rw [hfr, if_pos q]
              simp (disch := omega) only [Option.bind_some, d10, if_false, e1, i32_neg, nlt_10, l3_lt]
              rw [if_neg (by omega), if_pos (by omega)]
              refine OK_bind (c_keep (by omega) hg.2.2.2.2.2.2.1 hc.1.2.1 hc.2.2.2.1) fun M1 h1' => ?_
              have hX : CSX 29 g.1.2.1 M1 := CSX_of hc.1.2.1 fun j hj => Sm_i h1'.2 (by omega)
              refine OK_bind (c_add (l := l) (c := c) (k := k) hX hn) fun M2 h2' => ?_
              have hS2 := Sm_trans (Sm_le h1'.2 (show 29 ≤ 44 by omega) (show 246 ≤ 246 by omega)) (Sm_le h2'.2 (show 29 ≤ 29 by omega) (show 39 ≤ 246 by omega))
              have e2 : M2.2.1 29 1 = i32 (g.1.2.1.2.1 + 1) := h2'.1.1.2.1
              refine OK_some ⟨?_, RC_state hg hc h2'.1 (CA_of h1'.1 fun p a b => Sm_i h2'.2 (by omega)) (fun p hp => ?_) (Sm_r hS2 (by omega)), Sm_le hS2 (by omega) (by omega)⟩
              · show M2.2.1 29 1 - 1 = _
                rw [e2, nsub_1 (by omega)]
                rfl
              · rw [Sm_i h2'.2 (by omega), Sm_i h1'.2 (by omega)]
            · have hN' := hm'.1.1.1
              unfold f_Model_dig
              rw [m_isPlace hN'.1 hN'.2.1 hg.1.1 (by omega) (by omega), if_pos ⟨p1, p2⟩]
              simp only [Option.bind_some, d10, if_false]
              rw [m_inY (lo := 0) (hi := 3) ⟨Nat.zero_le k, ck⟩ (by omega)]
              simp only [Option.bind_some, d10, if_false]
              rw [m_graveAt hN' hg.1.2.1.1 (l := l) (c := c) (by omega) (by omega)]
              simp (disch := omega) only [i32_lt, i32_le, i32_eq, i32_add, i32_mul, i32_neg, i32_nn, i32_ne1, i32_n1e, n1_lt_i32, i32_le_n1, i32_dec, i32_cl, rd_i32, ix_i32, wr_i32, pI_s, pR_s, pC_s, pZ_0, pZ_1, Option.bind_some, ite_true, ite_false, if_true, if_false, gIL, gRI, nlt_0, l0_lt, nle_0, l0_le, neq_0, nadd_0, nmul_0, nmul'_0, nadd'_0, nsub_0, nlt_1, l1_lt, nle_1, l1_le, neq_1, nadd_1, nmul_1, nmul'_1, nadd'_1, nsub_1, nlt_2, l2_lt, nle_2, l2_le, neq_2, nadd_2, nmul_2, nmul'_2, nadd'_2, nsub_2, nlt_3, l3_lt, nle_3, l3_le, neq_3, nadd_3, nmul_3, nmul'_3, nadd'_3, nsub_3, nlt_4, l4_lt, nle_4, l4_le, neq_4, nadd_4, nmul_4, nmul'_4, nadd'_4, nsub_4, nlt_5, l5_lt, nle_5, l5_le, neq_5, nadd_5, nmul_5, nmul'_5, nadd'_5, nsub_5, nlt_6, l6_lt, nle_6, l6_le, neq_6, nadd_6, nmul_6, nmul'_6, nadd'_6, nsub_6, nlt_7, l7_lt, nle_7, l7_le, neq_7, nadd_7, nmul_7, nmul'_7, nadd'_7, nsub_7, nlt_8, l8_lt, nle_8, l8_le, neq_8, nadd_8, nmul_8, nmul'_8, nadd'_8, nsub_8, nlt_9, l9_lt, nle_9, l9_le, neq_9, nadd_9, nmul_9, nmul'_9, nadd'_9, nsub_9, nlt_10, l10_lt, nle_10, l10_le, neq_10, nadd_10, nmul_10, nmul'_10, nadd'_10, nsub_10, nlt_11, l11_lt, nle_11, l11_le, neq_11, nadd_11, nmul_11, nmul'_11, nadd'_11, nsub_11, nlt_12, l12_lt, nle_12, l12_le, neq_12, nadd_12, nmul_12, nmul'_12, nadd'_12, nsub_12, nlt_13, l13_lt, nle_13, l13_le, neq_13, nadd_13, nmul_13, nmul'_13, nadd'_13, nsub_13, nlt_20, l20_lt, nle_20, l20_le, neq_20, nadd_20, nmul_20, nmul'_20, nadd'_20, nsub_20, nlt_400, l400_lt, nle_400, l400_le, neq_400, nadd_400, nmul_400, nmul'_400, nadd'_400, nsub_400, rd_0, wr_0, rd_1, wr_1, rd_2, wr_2, rd_3, wr_3, rd_4, wr_4, rd_5, wr_5, rd_6, wr_6, rd_7, wr_7, rd_8, wr_8, rd_9, wr_9, rd_10, wr_10, rd_11, wr_11, rd_12, wr_12, d10, hN'.2.2.1, eG_nn (grv_b hN'.2.2.2.2.1)]
              rw [if_neg (fun z => z q), if_neg c10]
              refine OK_bind (m_keepsAct hg.2.2.2.2.2.2.1 hm'.1.1 hm'.2.2.2.2.2.2.1) fun M1 h1' => ?_
              obtain ⟨k1, k2, k3, k4⟩ := h1'
              have e446 : M1.2.1 446 = M'.2.1 446 := k2 446 (by omega) (by omega)
              refine OK_bind (m_digs (M := M1) (n := g.1.2.1.2.1) (l := l) (c := c) (k := k) hn (by rw [e446]; exact hN'.2.2.1)) fun M2 h2' => ?_
              obtain ⟨d1, d2⟩ := h2'
              rw [e446, hN'.2.2.2.1] at d2
              have hX := MSX_dig hm'.1.1 hn (y_p_out hg.1.1 hg.1.2.1.2.2.1) (y_h_out hg.1.1 hg.1.2.1.2.2.1) d2
              have e2 : M2.2.1 446 2 = i32 (g.1.2.1.2.1 + 1) := hX.1.2.2.1
              simp (disch := omega) only [i32_lt, i32_le, i32_eq, i32_add, i32_mul, i32_neg, i32_nn, i32_ne1, i32_n1e, n1_lt_i32, i32_le_n1, i32_dec, i32_cl, rd_i32, ix_i32, wr_i32, pI_s, pR_s, pC_s, pZ_0, pZ_1, Option.bind_some, ite_true, ite_false, if_true, if_false, gIL, gRI, nlt_0, l0_lt, nle_0, l0_le, neq_0, nadd_0, nmul_0, nmul'_0, nadd'_0, nsub_0, nlt_1, l1_lt, nle_1, l1_le, neq_1, nadd_1, nmul_1, nmul'_1, nadd'_1, nsub_1, nlt_2, l2_lt, nle_2, l2_le, neq_2, nadd_2, nmul_2, nmul'_2, nadd'_2, nsub_2, nlt_3, l3_lt, nle_3, l3_le, neq_3, nadd_3, nmul_3, nmul'_3, nadd'_3, nsub_3, nlt_4, l4_lt, nle_4, l4_le, neq_4, nadd_4, nmul_4, nmul'_4, nadd'_4, nsub_4, nlt_5, l5_lt, nle_5, l5_le, neq_5, nadd_5, nmul_5, nmul'_5, nadd'_5, nsub_5, nlt_6, l6_lt, nle_6, l6_le, neq_6, nadd_6, nmul_6, nmul'_6, nadd'_6, nsub_6, nlt_7, l7_lt, nle_7, l7_le, neq_7, nadd_7, nmul_7, nmul'_7, nadd'_7, nsub_7, nlt_8, l8_lt, nle_8, l8_le, neq_8, nadd_8, nmul_8, nmul'_8, nadd'_8, nsub_8, nlt_9, l9_lt, nle_9, l9_le, neq_9, nadd_9, nmul_9, nmul'_9, nadd'_9, nsub_9, nlt_10, l10_lt, nle_10, l10_le, neq_10, nadd_10, nmul_10, nmul'_10, nadd'_10, nsub_10, nlt_11, l11_lt, nle_11, l11_le, neq_11, nadd_11, nmul_11, nmul'_11, nadd'_11, nsub_11, nlt_12, l12_lt, nle_12, l12_le, neq_12, nadd_12, nmul_12, nmul'_12, nadd'_12, nsub_12, nlt_13, l13_lt, nle_13, l13_le, neq_13, nadd_13, nmul_13, nmul'_13, nadd'_13, nsub_13, nlt_20, l20_lt, nle_20, l20_le, neq_20, nadd_20, nmul_20, nmul'_20, nadd'_20, nsub_20, nlt_400, l400_lt, nle_400, l400_le, neq_400, nadd_400, nmul_400, nmul'_400, nadd'_400, nsub_400, rd_0, wr_0, rd_1, wr_1, rd_2, wr_2, rd_3, wr_3, rd_4, wr_4, rd_5, wr_5, rd_6, wr_6, rd_7, wr_7, rd_8, wr_8, rd_9, wr_9, rd_10, wr_10, rd_11, wr_11, rd_12, wr_12, e2, Nat.add_sub_cancel]
              refine OK_some ⟨rfl, RM_state hg hm' hX (fun i hi => ?_) ?_ (fun i hi => ?_) fun p hp => ?_, Sm_trans (Sm_le k3 (by omega) (by omega)) (Sm_le d1 (by omega) (by omega))⟩
              · exact d2.2.2.2.2.2.2.2.2.2.2.2.2 i (by omega) (by omega) (by omega) (by omega)
              · refine ⟨?_, ?_⟩
                · rw [Sm_i d1 (by omega)]; exact k1.1
                · rw [Sm_i d1 (by omega)]; exact k1.2
              · rw [Sm_i d1 (by omega)]; exact k4 i (by omega)
              · rw [Sm_i d1 (by omega)]; exact k2 p (by omega) (by omega)
        · exact no (Or.inr (Or.inr (Or.inl (by rw [show (3 : Int32) = i32 3 from rfl, i32_lt (by omega) h3]; omega))))
    · exact no (Or.inl q)
