/-! ===== calls that change what is ===== -/
theorem RC_put {g : Gx} {w' : Wx} {a' : Nat × (Nat → Sx)} {M M' : mM} (hg : VG g) (h : RC g M) (hw : CW 20 w' M') (ha : CA a' M') (e : ∀ p, p < 20 ∨ (290 ≤ p ∧ p < 436) → M'.2.1 p = M.2.1 p) (hz : CZ w' g.2.2.1.2 M') : RC (w', g.2.1, g.2.2.1, a', g.2.2.2.2) M' := by
  obtain ⟨h1, h2, h3, h4, h5, h6, h7⟩ := h
  have := hg.2.2.2.2.1
  have hU : CU g.2.2.1 M' := CU_of h3 (e 0 (by omega)) fun p a b => e p (by omega)
  exact ⟨hw, CP_of h2 (by rw [e 1 (by omega)]) (e 2 (by omega)), hU, ha, fun k hk => CI_of (h5 k hk) fun j hj => e _ (by omega), CE_of h6 fun p hp => e p (by omega), hz⟩
theorem RMm_put {g : Gx} {w' : Wx} {a' : Nat × (Nat → Sx)} {M M' : mM} (h : RMm g M) (hw : MW w' (M'.2.1 446)) (hf : M'.2.1 436 21 = eG w'.2.2.2.1) (hx : M'.2.1 436 22 = i32 w'.2.2.2.2) (ha : MA w'.1 a' M') (ei : ∀ i, i = 1 ∨ i = 2 ∨ i = 26 → M'.2.1 436 i = M.2.1 436 i) (ep : ∀ p, p = 437 ∨ p = 438 ∨ p = 440 ∨ p = 441 ∨ p = 453 ∨ p = 454 ∨ p = 455 ∨ p = 456 → M'.2.1 p = M.2.1 p) : RMm (w', g.2.1, g.2.2.1, a', g.2.2.2.2) M' := by
  obtain ⟨h1, h2, h3, h4, h5, h6, h7, h8⟩ := h
  refine ⟨hw, hf, hx, (ei 26 (by omega)).trans h4, ⟨(ei 1 (by omega)).trans h5.1, by rw [ep 437 (by omega)]; exact h5.2⟩, ⟨(ei 2 (by omega)).trans h6.1, fun k hk => RMk_of (h6.2 k hk) (fun i _ => by rw [ep 438 (by omega)]) (fun i _ => by rw [ep 440 (by omega)]) (by rw [ep 441 (by omega)])⟩, ha, fun k hk => ?_⟩
  have := h8 k hk
  unfold MI at this ⊢
  show match g.2.2.2.2 k with | none => _ | some w => _
  rw [ep 456 (by omega), ep 454 (by omega), ep 455 (by omega), ep 453 (by omega)]
  exact this
/-- a wold with another rule in force, another x, other sights, another state -/
def setF (w : Wx) (f : Option Nat) : Wx := (w.1, w.2.1, w.2.2.1, f, w.2.2.2.2)
def setX (w : Wx) (x : Nat) : Wx := (w.1, w.2.1, w.2.2.1, w.2.2.2.1, x)
def setG (w : Wx) (q : Nat × (Nat → Nat × Nat × Nat)) : Wx := (w.1, w.2.1, q, w.2.2.2.1, w.2.2.2.2)
def setS (w : Wx) (s : Sx) : Wx := (w.1, s, w.2.2.1, w.2.2.2.1, w.2.2.2.2)
theorem CZ_set {w w' : Wx} {φs : Nat → List Int64 → Nat} {M M' : mM} (h : CZ w φs M) (e1 : w'.1 = w.1) (e2 : w'.2.2.1 = w.2.2.1) (e3 : w'.2.2.2.1 = w.2.2.2.1) (e : ∀ p, p = 269 ∨ p = 270 → M'.2.1 p = M.2.1 p) (er : M'.2.2.2 269 = M.2.2.2 269) : CZ w' φs M' := by
  have h' := CZ_of h e er
  unfold CZ CK at h' ⊢
  rw [e1, e2, e3]
  exact h'
theorem VG_w {g : Gx} (hg : VG g) {w' : Wx} {a' : Nat × (Nat → Sx)} (hw : VW w') (hf : ∀ k, w'.2.2.2.1 = some k → k < g.2.2.1.1) (ha : a'.1 ≤ 20) (hs : ∀ j, j < a'.1 → VS w'.1 (a'.2 j)) : VG (w', g.2.1, g.2.2.1, a', g.2.2.2.2) := ⟨hw, hf, hg.2.2.1, hg.2.2.2.1, hg.2.2.2.2.1, hg.2.2.2.2.2.1, ha, hs, hg.2.2.2.2.2.2.2.2⟩
theorem eG_lt {nr : Nat} {f : Option Nat} (h : ∀ k, f = some k → k < nr) (hn : nr < 2147483648) : eG f < i32 nr := by
  cases f with
  | none =>
    rw [show eG none = -1 from rfl]
    exact lt_neg (by decide) hn
  | some k =>
    have := h k rfl
    rw [show eG (some k) = i32 k from rfl, i32_lt (by omega) hn]
    exact this
theorem force_do {g : Gx} {M : mM} (hg : VG g) (hc : RC g M) (hm : RMm g M) (f : Option Nat) (hf : ∀ k, f = some k → k < g.2.2.1.1) : Both (f_GraveRails_force (eG f)) (f_Model_force (eG f)) M := by
  have hr := hg.2.2.2.2.1
  have hx : VG (setF g.1 f, g.2.1, g.2.2.1, g.2.2.2.1, g.2.2.2.2) := VG_w hg ⟨hg.1.1, hg.1.2.1, hg.1.2.2.1, hg.1.2.2.2.1, hg.1.2.2.2.2⟩ hf hg.2.2.2.2.2.2.1 hg.2.2.2.2.2.2.2.1
  refine both_do (v := eG g.1.2.2.2.1) hm hx ?_ fun M' hm' => ?_
  · unfold f_GraveRails_force
    have e1 : ¬ eG f < -1 := by
      cases f with
      | none => exact Int32.lt_irrefl
      | some k => have := hf k rfl; exact fun z => (i32_lt_n1 (a := k) (by omega)).mp z
    rw [if_neg e1, hc.2.2.1.1, if_pos (eG_lt hf (by omega))]
    simp only [pI_s, pZ_0, Option.bind_some]
    refine OK_some ⟨hc.1.2.2.2.1, RC_put hg hc ?_ ?_ ?_ (Or.inl (gIe _ _ _ _)), Sm_trans (Sm_I (by omega)) (Sm_I (by omega))⟩
    · obtain ⟨c1, c2, c3, c4, c5⟩ := hc.1
      refine ⟨CY_of c1 fun k hk => ?_, CSX_of c2 fun k hk => ?_, CG_of c3 fun k hk => ?_, ?_, ?_⟩
      · rw [gIp (by omega), gIp (by omega)]
      · rw [gIp (by omega), gIp (by omega)]
      · rw [gIp (by omega), gIp (by omega)]
      · rw [gIp (by omega), gIe]; rfl
      · rw [gIp (by omega), gIo (by omega)]; exact c5
    · exact CA_of hc.2.2.2.1 fun p a b => by rw [gIp (by omega), gIp (by omega)]
    · intro p hp
      rw [gIp (by omega), gIp (by omega)]
  · have key : OK (f_Model_force_16 (eG f) M') fun z => z.1 = eG g.1.2.2.2.1 ∧ RMm (setF g.1 f, g.2.1, g.2.2.1, g.2.2.2.1, g.2.2.2.2) z.2 ∧ Sm 436 457 M' z.2 := by
      unfold f_Model_force_16
      simp only [pI_s, Option.bind_some]
      refine OK_some ⟨hm'.2.1, RMm_put hm' ?_ (gIe _ _ _ _) ?_ ?_ ?_ ?_, Sm_I (by omega)⟩
      · rw [gIp (by omega)]; exact hm'.1
      · rw [gIo (by omega)]; exact hm'.2.2.1
      · refine ⟨?_, ?_⟩
        · rw [gIo (by omega)]; exact hm'.2.2.2.2.2.2.1.1
        · rw [gIp (by omega)]; exact hm'.2.2.2.2.2.2.1.2
      · intro i hi
        rw [gIo (by omega)]
      · intro p hp
        rw [gIp (by omega)]
    unfold f_Model_force
    cases f with
    | none => rw [if_pos (show eG none = -1 from rfl)]; exact key
    | some k =>
      have := hf k rfl
      rw [show eG (some k) = i32 k from rfl] at key ⊢
      rw [if_neg (fun z => (i32_ne1 (by omega)).mp z)]
      unfold f_Model_isRule
      simp (disch := omega) only [i32_lt, i32_le, i32_eq, i32_add, i32_mul, i32_neg, i32_nn, i32_ne1, i32_n1e, n1_lt_i32, i32_le_n1, i32_dec, i32_cl, rd_i32, ix_i32, wr_i32, pI_s, pR_s, pC_s, pZ_0, pZ_1, Option.bind_some, ite_true, ite_false, if_true, if_false, gIL, gRI, nlt_0, l0_lt, nle_0, l0_le, neq_0, nadd_0, nmul_0, nmul'_0, nadd'_0, nsub_0, nlt_1, l1_lt, nle_1, l1_le, neq_1, nadd_1, nmul_1, nmul'_1, nadd'_1, nsub_1, nlt_2, l2_lt, nle_2, l2_le, neq_2, nadd_2, nmul_2, nmul'_2, nadd'_2, nsub_2, nlt_3, l3_lt, nle_3, l3_le, neq_3, nadd_3, nmul_3, nmul'_3, nadd'_3, nsub_3, nlt_4, l4_lt, nle_4, l4_le, neq_4, nadd_4, nmul_4, nmul'_4, nadd'_4, nsub_4, nlt_5, l5_lt, nle_5, l5_le, neq_5, nadd_5, nmul_5, nmul'_5, nadd'_5, nsub_5, nlt_6, l6_lt, nle_6, l6_le, neq_6, nadd_6, nmul_6, nmul'_6, nadd'_6, nsub_6, nlt_7, l7_lt, nle_7, l7_le, neq_7, nadd_7, nmul_7, nmul'_7, nadd'_7, nsub_7, nlt_8, l8_lt, nle_8, l8_le, neq_8, nadd_8, nmul_8, nmul'_8, nadd'_8, nsub_8, nlt_9, l9_lt, nle_9, l9_le, neq_9, nadd_9, nmul_9, nmul'_9, nadd'_9, nsub_9, nlt_10, l10_lt, nle_10, l10_le, neq_10, nadd_10, nmul_10, nmul'_10, nadd'_10, nsub_10, nlt_11, l11_lt, nle_11, l11_le, neq_11, nadd_11, nmul_11, nmul'_11, nadd'_11, nsub_11, nlt_12, l12_lt, nle_12, l12_le, neq_12, nadd_12, nmul_12, nmul'_12, nadd'_12, nsub_12, nlt_13, l13_lt, nle_13, l13_le, neq_13, nadd_13, nmul_13, nmul'_13, nadd'_13, nsub_13, nlt_20, l20_lt, nle_20, l20_le, neq_20, nadd_20, nmul_20, nmul'_20, nadd'_20, nsub_20, nlt_400, l400_lt, nle_400, l400_le, neq_400, nadd_400, nmul_400, nmul'_400, nadd'_400, nsub_400, rd_0, wr_0, rd_1, wr_1, rd_2, wr_2, rd_3, wr_3, rd_4, wr_4, rd_5, wr_5, rd_6, wr_6, rd_7, wr_7, rd_8, wr_8, rd_9, wr_9, rd_10, wr_10, rd_11, wr_11, rd_12, wr_12, hm'.2.2.2.2.2.1.1]
      rw [if_neg (by omega)]
      exact key
theorem both_force {x1 : Int32} {M : mM} (hi : Inv M) : Both (f_GraveRails_force x1) (f_Model_force x1) M := by
  have hi' := hi
  obtain ⟨g, hg, hc, hm⟩ := hi
  have hr := hg.2.2.2.2.1
  rcases i32_cases x1 with h1 | ⟨k, h1, rfl⟩
  · by_cases c : x1 = -1
    · subst c
      exact force_do hg hc hm none (fun k z => by cases z)
    · refine both_pure hi' ⟨-2, ?_, ?_⟩
      · unfold f_GraveRails_force
        refine if_pos ?_
        rw [Int32.lt_iff_toInt_lt, show (-1 : Int32).toInt = -1 by decide]
        have h0 : (0 : Int32).toInt = 0 := by decide
        have h2 := Int32.lt_iff_toInt_lt.mp h1
        have h3 : x1.toInt ≠ -1 := fun z => c (Int32.toInt_inj.mp (z.trans (by decide)))
        omega
      · unfold f_Model_force f_Model_isRule
        rw [if_neg c, if_pos h1]
        exact bnd (if_pos rfl)
  · by_cases c : k < g.2.2.1.1
    · exact force_do hg hc hm (some k) (fun j z => by cases z; exact c)
    · refine both_pure hi' ⟨-2, ?_, ?_⟩
      · unfold f_GraveRails_force
        rw [if_neg (fun z => (i32_lt_n1 h1).mp z), hc.2.2.1.1, if_neg (by rw [i32_lt h1 (by omega)]; exact c)]
      · unfold f_Model_force f_Model_isRule
        rw [if_neg (fun z => (i32_ne1 h1).mp z)]
        simp (disch := omega) only [i32_lt, i32_le, i32_eq, i32_add, i32_mul, i32_neg, i32_nn, i32_ne1, i32_n1e, n1_lt_i32, i32_le_n1, i32_dec, i32_cl, rd_i32, ix_i32, wr_i32, pI_s, pR_s, pC_s, pZ_0, pZ_1, Option.bind_some, ite_true, ite_false, if_true, if_false, gIL, gRI, nlt_0, l0_lt, nle_0, l0_le, neq_0, nadd_0, nmul_0, nmul'_0, nadd'_0, nsub_0, nlt_1, l1_lt, nle_1, l1_le, neq_1, nadd_1, nmul_1, nmul'_1, nadd'_1, nsub_1, nlt_2, l2_lt, nle_2, l2_le, neq_2, nadd_2, nmul_2, nmul'_2, nadd'_2, nsub_2, nlt_3, l3_lt, nle_3, l3_le, neq_3, nadd_3, nmul_3, nmul'_3, nadd'_3, nsub_3, nlt_4, l4_lt, nle_4, l4_le, neq_4, nadd_4, nmul_4, nmul'_4, nadd'_4, nsub_4, nlt_5, l5_lt, nle_5, l5_le, neq_5, nadd_5, nmul_5, nmul'_5, nadd'_5, nsub_5, nlt_6, l6_lt, nle_6, l6_le, neq_6, nadd_6, nmul_6, nmul'_6, nadd'_6, nsub_6, nlt_7, l7_lt, nle_7, l7_le, neq_7, nadd_7, nmul_7, nmul'_7, nadd'_7, nsub_7, nlt_8, l8_lt, nle_8, l8_le, neq_8, nadd_8, nmul_8, nmul'_8, nadd'_8, nsub_8, nlt_9, l9_lt, nle_9, l9_le, neq_9, nadd_9, nmul_9, nmul'_9, nadd'_9, nsub_9, nlt_10, l10_lt, nle_10, l10_le, neq_10, nadd_10, nmul_10, nmul'_10, nadd'_10, nsub_10, nlt_11, l11_lt, nle_11, l11_le, neq_11, nadd_11, nmul_11, nmul'_11, nadd'_11, nsub_11, nlt_12, l12_lt, nle_12, l12_le, neq_12, nadd_12, nmul_12, nmul'_12, nadd'_12, nsub_12, nlt_13, l13_lt, nle_13, l13_le, neq_13, nadd_13, nmul_13, nmul'_13, nadd'_13, nsub_13, nlt_20, l20_lt, nle_20, l20_le, neq_20, nadd_20, nmul_20, nmul'_20, nadd'_20, nsub_20, nlt_400, l400_lt, nle_400, l400_le, neq_400, nadd_400, nmul_400, nmul'_400, nadd'_400, nsub_400, rd_0, wr_0, rd_1, wr_1, rd_2, wr_2, rd_3, wr_3, rd_4, wr_4, rd_5, wr_5, rd_6, wr_6, rd_7, wr_7, rd_8, wr_8, rd_9, wr_9, rd_10, wr_10, rd_11, wr_11, rd_12, wr_12, hm.2.2.2.2.2.1.1]
        rw [if_pos (by omega)]
        exact bnd (if_pos rfl)
theorem both_seed {x1 : Int32} {M : mM} (hi : Inv M) : Both (f_GraveRails_seed x1) (f_Model_seed x1) M := by
  have hi' := hi
  obtain ⟨g, hg, hc, hm⟩ := hi
  rcases i32_cases x1 with h1 | ⟨k, h1, rfl⟩
  · exact both_pure hi' ⟨-1, if_neg (Int32.not_le.mpr h1), if_neg (Int32.not_le.mpr h1)⟩
  · have hx : VG (setX g.1 k, g.2.1, g.2.2.1, g.2.2.2.1, g.2.2.2.2) := VG_w hg ⟨hg.1.1, hg.1.2.1, hg.1.2.2.1, hg.1.2.2.2.1, h1⟩ hg.2.1 hg.2.2.2.2.2.2.1 hg.2.2.2.2.2.2.2.1
    refine both_do (v := i32 g.1.2.2.2.2) hm hx ?_ fun M' hm' => ?_
    · unfold f_GraveRails_seed
      rw [if_pos ((i32_nn h1).mpr trivial)]
      simp only [pI_s, Option.bind_some]
      refine OK_some ⟨hc.1.2.2.2.2, RC_put hg hc ?_ ?_ ?_ ?_, Sm_I (by omega)⟩
      · obtain ⟨c1, c2, c3, c4, c5⟩ := hc.1
        refine ⟨CY_of c1 fun k hk => ?_, CSX_of c2 fun k hk => ?_, CG_of c3 fun k hk => ?_, ?_, ?_⟩
        · rw [gIp (by omega)]
        · rw [gIp (by omega)]
        · rw [gIp (by omega)]
        · rw [gIo (by omega)]; exact c4
        · rw [gIe]; rfl
      · exact CA_of hc.2.2.2.1 fun p a b => by rw [gIp (by omega)]
      · intro p hp
        rw [gIp (by omega)]
      · exact CZ_set hc.2.2.2.2.2.2 rfl rfl rfl (fun p hp => by rw [gIp (by omega)]) rfl
    · unfold f_Model_seed
      rw [if_pos ((i32_nn h1).mpr trivial)]
      simp only [pI_s, Option.bind_some]
      refine OK_some ⟨hm'.2.2.1, RMm_put hm' ?_ ?_ (gIe _ _ _ _) ?_ ?_ ?_, Sm_I (by omega)⟩
      · rw [gIp (by omega)]; exact hm'.1
      · rw [gIo (by omega)]; exact hm'.2.1
      · refine ⟨?_, ?_⟩
        · rw [gIo (by omega)]; exact hm'.2.2.2.2.2.2.1.1
        · rw [gIp (by omega)]; exact hm'.2.2.2.2.2.2.1.2
      · intro i hi
        rw [gIo (by omega)]
      · intro p hp
        rw [gIp (by omega)]
