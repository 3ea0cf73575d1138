/-! ===== the call yard ===== -/
theorem RC_tape2 {g : Gx} {t : Nat × (Nat → Int32)} {M M' : mM} (hg : VG g) (h : RC g M) (ht : CP t M') (e : ∀ p, p = 0 ∨ 19 ≤ p → M'.2.1 p = M.2.1 p) (er : M'.2.2.2 269 = M.2.2.2 269) : RC (g.1, t, g.2.2) M' := by
  obtain ⟨h1, h2, h3, h4, h5, h6, h7⟩ := h
  exact ⟨CW_of h1 fun k hk => e _ (by omega), ht, CU_of h3 (e 0 (by omega)) fun p a b => e p (by omega), CA_of h4 fun p a b => e p (by omega), fun k hk => CI_of (h5 k hk) fun j hj => e _ (by omega), CE_of h6 fun p hp => e p (by omega), CZ_of h7 (fun p hp => e p (by omega)) er⟩
theorem RM_tape2 {g : Gx} {t : Nat × (Nat → Int32)} {M M' : mM} (h : RMm g M) (ht : MP t M') (ei : ∀ i, i = 2 ∨ i = 21 ∨ i = 22 ∨ i = 26 ∨ i = 30 → M'.2.1 436 i = M.2.1 436 i) (ep : ∀ p, p = 438 ∨ p = 440 ∨ p = 441 ∨ p = 446 ∨ p = 449 ∨ p = 453 ∨ p = 454 ∨ p = 455 ∨ p = 456 → M'.2.1 p = M.2.1 p) : RMm (g.1, t, g.2.2) M' := by
  obtain ⟨h1, h2, h3, h4, h5, h6, h7, h8⟩ := h
  refine ⟨by rw [ep 446 (by omega)]; exact h1, (ei 21 (by omega)).trans h2, (ei 22 (by omega)).trans h3, (ei 26 (by omega)).trans h4, ht, ⟨(ei 2 (by omega)).trans h6.1, fun k hk => RMk_of (h6.2 k hk) (fun i _ => by rw [ep 438 (by omega)]) (fun i _ => by rw [ep 440 (by omega)]) (by rw [ep 441 (by omega)])⟩, ⟨(ei 30 (by omega)).trans h7.1, by rw [ep 449 (by omega)]; exact h7.2⟩, fun k hk => ?_⟩
  have := h8 k hk
  unfold MI at this ⊢
  rw [ep 456 (by omega), ep 454 (by omega), ep 455 (by omega), ep 453 (by omega)]
  exact this
/-- a world whose yard was told anew -/
def tlW (w : Wx) (y : Yd) : Wx := (y, tlS y (y_m y), (0, w.2.2.1.2), w.2.2.2.1, w.2.2.2.2)
def tlG (g : Gx) (y : Yd) : Gx := (tlW g.1 y, (0, g.2.1.2), g.2.2.1, (0, g.2.2.2.1.2), g.2.2.2.2)
theorem VS_tl {y : Yd} (hv : VY y) (hL : 0 < y_L y) : VS y (tlS y (y_m y)) := by
  obtain ⟨v1, v2, v3, v4, v5, v6, v7, v8, v9, v10, v11, v12⟩ := hv
  refine ⟨⟨v1, v2, by show y_m y ≤ 11; omega, fun g hg => ⟨fun l c e => ?_, (v9 g hg).2.2, Nat.zero_le _, fun _ => rfl⟩, fun g h p hg hh e1 e2 => ?_⟩, fun g hg l c e => ?_, Nat.le_refl _, v3, Nat.zero_le _, fun g hg => ⟨fun e => (by cases e), fun _ => rfl⟩, fun _ => hL⟩
  · have e' : some ((y_t y g).1, (y_t y g).2.1) = some (l, c) := e
    cases e'
    exact ⟨(v9 g hg).1, (v9 g hg).2.1⟩
  · have e1' : some ((y_t y g).1, (y_t y g).2.1) = some p := e1
    have e2' : some ((y_t y h).1, (y_t y h).2.1) = some p := e2
    have e3 := e1'.trans e2'.symm
    have e4 := Option.some.inj e3
    exact v10 g h hg hh (Prod.mk.inj e4).1 (Prod.mk.inj e4).2
  · have e' : some ((y_t y g).1, (y_t y g).2.1) = some (l, c) := e
    cases e'
    have := v9 g hg
    exact ⟨by omega, by omega⟩
theorem VG_tl {g : Gx} (hg : VG g) {y : Yd} (hv : VY y) (hL : 0 < y_L y) : VG (tlG g y) := by
  obtain ⟨h1, h2, h3, h4, h5, h6, h7, h8, h9⟩ := hg
  exact ⟨⟨hv, VS_tl hv hL, Nat.zero_le _, fun k hk => absurd hk (Nat.not_lt_zero _), h1.2.2.2.2⟩, h2, Nat.zero_le _, fun k hk => absurd hk (Nat.not_lt_zero _), h5, h6, Nat.zero_le _, fun j hj => absurd hj (Nat.not_lt_zero _), h9⟩
theorem VG_t0 {g : Gx} (hg : VG g) : VG (g.1, (0, g.2.1.2), g.2.2) := VG_tape hg (t := (0, g.2.1.2)) (Nat.zero_le _) fun k hk => absurd hk (Nat.not_lt_zero _)
/-- the class -/
theorem c_tellY {g : Gx} {M : mM} (hg : VG g) (hc : RC g M) (rt : Nat → Nat × Nat × Nat) : OK (f_GraveRails_yard M) fun z => Sm 0 436 M z.2 ∧ match sYard g.2.1 41 0 0 (yNil, rt) with
    | .error w => z.1 = -2 - i32 w ∧ RC (g.1, (0, g.2.1.2), g.2.2) z.2
    | .ok s => z.1 = i32 (y_m s.1) ∧ VYS s ∧ 0 < y_L s.1 ∧ RC (tlG g s.1) z.2 := by
  have ht := hg.2.2.1
  unfold f_GraveRails_yard
  refine OK_bind (c_readYard ht hc.2.1 rt) fun z1 h1 => ?_
  obtain ⟨s1, b1, r1⟩ := h1
  rw [pI_s, Option.bind_some]
  have sA : Sm 1 12 M (msI z1.2 1 1 0) := Sm_trans s1 (Sm_I (by omega))
  have cp : CP (0, g.2.1.2) (msI z1.2 1 1 0) := ⟨gIe _ _ _ _, fun k hk => absurd hk (Nat.not_lt_zero _)⟩
  cases e : sYard g.2.1 41 0 0 (yNil, rt) with
  | error w =>
    rw [e] at r1
    obtain ⟨q1, q2, q3⟩ := r1
    rw [q1, if_neg (by rw [show (0 : Int32) = i32 0 from rfl, i32_eq (by omega) (by omega)]; omega)]
    exact OK_some ⟨Sm_le sA (by omega) (by omega), rfl, RC_tape2 hg hc cp (fun p hp => Sm_i sA (by omega)) (Sm_r sA (by omega))⟩
  | ok s =>
    rw [e] at r1
    obtain ⟨q1, q2, q3, q4⟩ := r1
    have hv := q3.1
    have v3 := hv.2.2.1
    rw [q1, if_pos rfl]
    have hY : CY 4 s.1 (msI z1.2 1 1 0) := CY_of q2 fun k hk => gIp (by omega)
    refine OK_bind (c_copyYard (S := 21) (T := 4) (by omega) hv hY) fun M4 h4 => ?_
    refine OK_bind (c_startOf hv (S := 29) (T := 21) (by omega) h4.1) fun M5 h5 => ?_
    rw [pI_s, Option.bind_some, pI_s, Option.bind_some, pZ_0, Option.bind_some]
    have sB : Sm 1 43 M M5 := Sm_trans (Sm_le sA (by omega) (by omega)) (Sm_trans (Sm_le h4.2 (by omega) (by omega)) (Sm_le h5.2 (by omega) (by omega)))
    have eM : ∀ p, p ≠ 39 → p ≠ 44 → p ≠ 269 → (msI (msI (msI M5 39 0 0) 44 0 0) 269 0 0).2.1 p = M5.2.1 p := fun p a b c => by rw [gIp c, gIp b, gIp a]
    have e5 : ∀ p, p < 29 ∨ 39 ≤ p → M5.2.1 p = M4.2.1 p := fun p hp => Sm_i h5.2 (by omega)
    have e4 : ∀ p, p < 21 ∨ 29 ≤ p → M4.2.1 p = (msI z1.2 1 1 0).2.1 p := fun p hp => Sm_i h4.2 (by omega)
    have eA : ∀ p, p < 1 ∨ 12 ≤ p → (msI z1.2 1 1 0).2.1 p = M.2.1 p := fun p hp => Sm_i sA (by omega)
    have eF : ∀ p, p = 0 ∨ p = 20 ∨ (46 ≤ p ∧ p < 269) ∨ 270 ≤ p → (msI (msI (msI M5 39 0 0) 44 0 0) 269 0 0).2.1 p = M.2.1 p := fun p hp => by rw [eM p (by omega) (by omega) (by omega), e5 p (by omega), e4 p (by omega), eA p (by omega)]
    obtain ⟨h1', h2', h3', h4', h5', h6', h7'⟩ := hc
    refine OK_some ⟨Sm_trans (Sm_le sB (by omega) (by omega)) (Sm_trans (Sm_I (by omega)) (Sm_trans (Sm_I (by omega)) (Sm_I (by omega)))), ?_, q3, q4, ⟨?_, ?_, ?_, ?_, ?_⟩, ?_, ?_, ?_, ?_, ?_, ?_⟩
    · dsimp only
      rw [eM 21 (by omega) (by omega) (by omega), e5 21 (by omega)]
      exact h4.1.2.2.1
    · exact CY_of h4.1 fun k hk => by rw [eM _ (by omega) (by omega) (by omega), e5 _ (by omega)]
    · exact CSX_of h5.1 fun k hk => eM _ (by omega) (by omega) (by omega)
    · refine ⟨?_, fun k hk => absurd hk (Nat.not_lt_zero _)⟩
      rw [gIp (show 20 + 19 ≠ 269 by omega), gIp (show 20 + 19 ≠ 44 by omega), gIe]
      rfl
    · rw [eF 20 (by omega)]; exact h1'.2.2.2.1
    · rw [eF 20 (by omega)]; exact h1'.2.2.2.2
    · refine ⟨?_, fun k hk => absurd hk (Nat.not_lt_zero _)⟩
      rw [eM 1 (by omega) (by omega) (by omega), e5 1 (by omega), e4 1 (by omega), gIe]
      rfl
    · exact CU_of h3' (eF 0 (by omega)) fun p a b => eF p (by omega)
    · obtain ⟨a1, nx, a2, a3, a4⟩ := h4'
      refine ⟨?_, nx, a2, ?_, fun j hj => absurd hj (Nat.not_lt_zero _)⟩
      · rw [gIp (by omega), gIe]; rfl
      · rw [gIp (by omega), gIo (by omega), gIp (by omega), e5 44 (by omega), e4 44 (by omega), eA 44 (by omega)]
        exact a3
    · intro k hk
      exact CI_of (h5' k hk) fun j hj => eF _ (by omega)
    · exact CE_of h6' fun p hp => eF p (by omega)
    · exact Or.inl (gIe _ _ _ _)
/-! the model -/
theorem my_loop {t : Tp} (ht : t.1 ≤ 400) (hT : OKT t) : ∀ (k i p f : Nat) (s : YS) (M : mM), i + k = 40 → k + 2 < f → VYS s → 0 < y_L s.1 → MTk t p M → RD s (M.2.1 442) → M.2.1 436 11 = 6 → M.2.1 436 14 = i32 (i + 1) → i < 40 → OK (f_Model_readsAll_35 f 1 M) fun z => FrYd M z.2 ∧ RsN t (ebd (mor t p) fun o => match o with | none => .ok s | some p' => sYard t k (i + 1) p' s) z
  | _, _, _, 0, _, _, _, hf, _, _, _, _, _, _, _ => absurd hf (Nat.not_lt_zero _)
  | k, i, p, f + 1, s, M, hi, hf, hs, hL, hM, hR, h11, h14, hi4 => by
    obtain ⟨f, rfl⟩ : ∃ f', f = f' + 1 := ⟨f - 1, by omega⟩
    obtain ⟨k, rfl⟩ : ∃ k', k = k' + 1 := ⟨k - 1, by omega⟩
    rw [f_Model_readsAll_35, if_neg (by decide)]
    refine OK_bind (m_see ht hM) fun z14 h14' => ?_
    obtain ⟨v14, m14, f14⟩ := h14'
    have r14 : z14.2.2.1 442 = M.2.1 442 := f14.2.1 442 (by omega)
    have b59 : (z14.1 = 59) = (sgn t p 59 = true) := by rw [v14]; exact byv_sgn hT (by decide) (by decide) (by decide)
    by_cases c : sgn t p 59 = true
    · rw [if_pos (by rw [b59]; exact c), pI_s, Option.bind_some, m14.2.1, nadd_1, ← nxp_sgn (by decide) (by decide) (by decide) (by decide) c]
      have hk : ¬ knd t (skp t p) = 0 := by
        unfold sgn at c
        rw [Bool.and_eq_true, decide_eq_true_iff] at c
        omega
      have em : mor t p = .ok (some (nxp t p)) := by unfold mor; rw [if_neg hk, if_pos c]
      have mN : MTk t (nxp t p) (msI z14.2 436 8 (i32 (nxp t p))) := MTk_at m14 (nxp_le t hM.2.2.2)
      have f8 : FrW M (msI z14.2 436 8 (i32 (nxp t p))) := FrV_W (Fr8_V (Fr8_trans f14 Fr8_I))
      rw [em, ebd_o]
      refine OK_bind (my_clause ht (i := i + 1) (s := s) (by omega) hs (fun z => by omega) (fun _ => hL) mN (by rw [gIp (by omega), r14]; exact hR) (by rw [gIo (by omega), f14.2.2 11 (by omega)]; exact h11) (by rw [gIo (by omega), f14.2.2 14 (by omega)]; exact h14)) fun z17 h17 => ?_
      obtain ⟨f17, r17, l17⟩ := h17
      show OK _ fun z => FrYd M z.2 ∧ RsN t (sYard t (k + 1) (i + 1) (nxp t p) s) z
      rw [sYard]
      cases e : sClause t (nxp t p) (i + 1) s with
      | error w =>
        rw [e] at r17
        obtain ⟨w1, wm, we, wl, wh⟩ := r17
        rw [w1, ebd_e, f_Model_readsAll_35, if_pos rfl]
        unfold f_Model_readsAll_66
        rw [if_pos rfl, m_end88 wm, if_neg (by rw [we, show (0 : Int32) = i32 0 from rfl, i32_eq (by omega) (by omega)]; omega)]
        exact OK_some ⟨FrYd_1 (FrW_trans f8 f17), rfl, by rw [gIo (by omega)]; exact we⟩
      | ok q =>
        obtain ⟨p', s'⟩ := q
        rw [e] at r17
        obtain ⟨w1, w2, w3⟩ := r17
        have hV := VYS_clause hs (fun z => by omega) (fun _ => hL) e
        have hl := sClause_le (nxp_le t hM.2.2.2) e
        rw [w1, ebd_o]
        refine OK_imp (my_loop ht hT k (i + 1) p' (f + 1) s' z17.2 (by omega) (by omega) hV.1 hV.2 w2 w3 (by rw [f17.2.2 11 (by omega) (by omega) (by omega) (by omega), gIo (by omega), f14.2.2 11 (by omega)]; exact h11) (l17 ⟨_, e⟩) hl.1) fun z hz => ⟨FrW_Yd (FrW_trans f8 f17) hz.1, hz.2⟩
    · rw [if_neg (by rw [b59]; exact c)]
      refine OK_imp (m_fin ht hT m14 (by unfold sgn; rw [skp_skp]; exact c)) fun z hz => ⟨FrW_Yd (FrV_W (Fr8_V f14)) hz.1, ?_⟩
      obtain ⟨-, e2, e3, e4⟩ := hz
      rw [skp_skp] at e3 e4
      by_cases d : knd t (skp t p) = 0
      · have em : mor t p = .ok none := by unfold mor; rw [if_pos d]
        rw [em, ebd_o]
        exact ⟨e3 d, hs, hL, by rw [e2, r14]; exact hR⟩
      · have em : mor t p = .error (flt (skp t p) 0) := by unfold mor; rw [if_neg d, if_neg c]
        rw [em, ebd_e]
        exact e4 d
  termination_by _ _ _ f => f
def FrYe (M M' : mM) : Prop := M'.2.2 = M.2.2 ∧ (∀ p, p ≠ 436 → p ≠ 439 → p ≠ 442 → M'.2.1 p = M.2.1 p) ∧ (∀ i, i ≠ 1 → i ≠ 8 → i ≠ 9 → i ≠ 10 → i ≠ 12 → i ≠ 14 → M'.2.1 436 i = M.2.1 436 i) ∧ M'.2.1 436 1 = 0
theorem m_readsY {t : Tp} (ht : t.1 ≤ 400) (hT : OKT t) {M : mM} (hP : MP t M) (h11 : M.2.1 436 11 = 6) (rt : Nat → Nat × Nat × Nat) (hz : ∀ k, k < 10 → M.2.1 442 k = 0) : OK (f_Model_readsAll M) fun z => FrYe M z.2 ∧ RsN t (sYard t 41 0 0 (yNil, rt)) z := by
  unfold f_Model_readsAll
  rw [h11, wr_6 (by omega) (by omega), Option.bind_some, pI_s, Option.bind_some, pI_s, Option.bind_some, pI_s, Option.bind_some, pI_s, Option.bind_some]
  obtain ⟨M5, hM5⟩ : ∃ M5, M5 = msI (msI (msI (msI (msI M 439 6 0) 436 14 0) 436 8 0) 436 9 0) 436 12 0 := ⟨_, rfl⟩
  rw [← hM5]
  have fA : M5.2.2 = M.2.2 ∧ (∀ p, p ≠ 436 → p ≠ 439 → M5.2.1 p = M.2.1 p) ∧ (∀ i, i ≠ 8 → i ≠ 9 → i ≠ 12 → i ≠ 14 → M5.2.1 436 i = M.2.1 436 i) := by
    rw [hM5]
    refine ⟨rfl, fun p a b => ?_, fun i a b c d => ?_⟩
    · rw [gIp a, gIp a, gIp a, gIp a, gIp b]
    · rw [gIo c, gIo b, gIo a, gIo d, gIp (by omega)]
  have x14 : M5.2.1 436 14 = 0 := by rw [hM5, gIo (by omega), gIo (by omega), gIo (by omega), gIe]
  have x8 : M5.2.1 436 8 = 0 := by rw [hM5, gIo (by omega), gIo (by omega), gIe]
  have x9 : M5.2.1 436 9 = 0 := by rw [hM5, gIo (by omega), gIe]
  clear hM5
  have mT : MTk t 0 M5 := by
    refine ⟨⟨?_, ?_⟩, x8, x9, Nat.zero_le _⟩
    · rw [fA.2.2 1 (by omega) (by omega) (by omega) (by omega)]; exact hP.1
    · rw [fA.2.1 437 (by omega) (by omega)]; exact hP.2
  have r5 : M5.2.1 442 = M.2.1 442 := fA.2.1 442 (by omega) (by omega)
  have hR : RD (yNil, rt) (M5.2.1 442) := by
    rw [r5]
    exact ⟨hz 0 (by omega), hz 1 (by omega), hz 2 (by omega), hz 3 (by omega), hz 5 (by omega), hz 6 (by omega), fun g hg => absurd hg (Nat.not_lt_zero _), fun g hg => absurd hg (Nat.not_lt_zero _), fun g hg => absurd hg (Nat.not_lt_zero _)⟩
  have x11 : M5.2.1 436 11 = 6 := by rw [fA.2.2 11 (by omega) (by omega) (by omega) (by omega)]; exact h11
  have fin : ∀ {M' : mM}, FrYd M5 M' → FrYe M M' := fun h => ⟨h.1.trans fA.1, fun p a b c => (h.2.1 p a c).trans (fA.2.1 p a b), fun i a b c d e f => (h.2.2.1 i a b c d f).trans (fA.2.2 i b c e f), h.2.2.2⟩
  refine OK_bind (my_clause ht (i := 0) (s := (yNil, rt)) (by omega) (VYS_nil rt) (fun _ => rfl) (fun z => absurd rfl z) mT hR x11 x14) fun z6 h6 => ?_
  obtain ⟨f6, r6, l6⟩ := h6
  rw [sYard]
  cases e : sClause t 0 0 (yNil, rt) with
  | error w =>
    rw [e] at r6
    obtain ⟨w1, wm, we, wl, wh⟩ := r6
    rw [w1, ebd_e, show FUEL = 99999 + 1 from rfl, f_Model_readsAll_35, if_pos rfl]
    unfold f_Model_readsAll_66
    rw [if_pos rfl, m_end88 wm, if_neg (by rw [we, show (0 : Int32) = i32 0 from rfl, i32_eq (by omega) (by omega)]; omega)]
    exact OK_some ⟨fin (FrYd_1 f6), rfl, by rw [gIo (by omega)]; exact we⟩
  | ok q =>
    obtain ⟨p', s'⟩ := q
    rw [e] at r6
    obtain ⟨w1, w2, w3⟩ := r6
    have hV := VYS_clause (VYS_nil rt) (fun _ => rfl) (fun z => absurd rfl z) e
    rw [w1, ebd_o]
    refine OK_imp (my_loop ht hT 40 0 p' FUEL s' z6.2 (by omega) (by rw [FUEL_eq]; omega) hV.1 hV.2 w2 w3 (by rw [f6.2.2 11 (by omega) (by omega) (by omega) (by omega)]; exact x11) (l6 ⟨_, e⟩) (by omega)) fun z hz => ⟨fin (FrW_Yd f6 hz.1), hz.2⟩
