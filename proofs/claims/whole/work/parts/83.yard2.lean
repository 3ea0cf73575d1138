/-! ===== the call yard: the model's end, both ===== -/
theorem my_zero {M0 : mM} : ∀ (k i f : Nat) (M : mM), i + k = 10 → k < f → (∀ j, j < i → M.2.1 442 j = 0) → (M.2.2 = M0.2.2 ∧ (∀ p, p ≠ 442 → M.2.1 p = M0.2.1 p)) → ∃ f' M', f_Model_yard_8 f (i32 i) M = f_Model_yard_8 (f' + 1) 10 M' ∧ (∀ j, j < 10 → M'.2.1 442 j = 0) ∧ M'.2.2 = M0.2.2 ∧ ∀ p, p ≠ 442 → M'.2.1 p = M0.2.1 p
  | _, _, 0, _, _, hf, _, _ => absurd hf (Nat.not_lt_zero _)
  | 0, i, f + 1, M, hi, hf, hz, hM => by
    have : i = 10 := by omega
    subst this
    exact ⟨f, M, rfl, hz, hM⟩
  | k + 1, i, f + 1, M, hi, hf, hz, hM => by
    rw [f_Model_yard_8, if_neg (by rw [show (10 : Int32) = i32 10 from rfl, i32_le (by omega) (by omega)]; omega), wr_i32 (by omega) (by omega), Option.bind_some, nadd_1]
    refine my_zero k (i + 1) f _ (by omega) (by omega) (fun j hj => ?_) ⟨hM.1, fun p hp => (gIp hp).trans (hM.2 p hp)⟩
    by_cases c : j = i
    · rw [c, gIe]
    · rw [gIo c]; exact hz j (by omega)
/-- all of it goes over -/
theorem my_over {M0 : mM} : ∀ (k i f : Nat) (M : mM), i + k = 226 → k < f → (∀ j, j < i → M.2.1 446 j = if j < 155 then M0.2.1 442 j else 0) → (M.2.2 = M0.2.2 ∧ (∀ p, p ≠ 446 → M.2.1 p = M0.2.1 p)) → ∃ f' M', f_Model_yard_44 f (i32 i) M = f_Model_yard_44 (f' + 1) 226 M' ∧ (∀ j, j < 226 → M'.2.1 446 j = if j < 155 then M0.2.1 442 j else 0) ∧ M'.2.2 = M0.2.2 ∧ ∀ p, p ≠ 446 → M'.2.1 p = M0.2.1 p
  | _, _, 0, _, _, hf, _, _ => absurd hf (Nat.not_lt_zero _)
  | 0, i, f + 1, M, hi, hf, hz, hM => by
    have : i = 226 := by omega
    subst this
    exact ⟨f, M, rfl, hz, hM⟩
  | k + 1, i, f + 1, M, hi, hf, hz, hM => by
    rw [f_Model_yard_44, if_neg (by rw [show (226 : Int32) = i32 226 from rfl, i32_le (by omega) (by omega)]; omega)]
    have go : ∀ v : Int32, v = (if i < 155 then M0.2.1 442 i else 0) → ∃ f' M', f_Model_yard_73 (f_Model_yard_44 f) (i32 i) (i32 i) v M = f_Model_yard_44 (f' + 1) 226 M' ∧ (∀ j, j < 226 → M'.2.1 446 j = if j < 155 then M0.2.1 442 j else 0) ∧ M'.2.2 = M0.2.2 ∧ ∀ p, p ≠ 446 → M'.2.1 p = M0.2.1 p := by
      intro v hv
      unfold f_Model_yard_73
      rw [wr_i32 (by omega) (by omega), Option.bind_some, nadd_1]
      refine my_over k (i + 1) f _ (by omega) (by omega) (fun j hj => ?_) ⟨hM.1, fun p hp => (gIp hp).trans (hM.2 p hp)⟩
      by_cases c : j = i
      · rw [c, gIe]; exact hv
      · rw [gIo c]; exact hz j (by omega)
    by_cases c : i < 155
    · rw [if_neg (by rw [show (155 : Int32) = i32 155 from rfl, i32_le (by omega) (by omega)]; omega), rd_i32 (by omega) (by omega), Option.bind_some, hM.2 442 (by omega)]
      exact go _ (by rw [if_pos c])
    · rw [if_pos (by rw [show (155 : Int32) = i32 155 from rfl, i32_le (by omega) (by omega)]; omega)]
      exact go _ (by rw [if_neg c])
theorem my_told {y : Yd} (hv : VY y) {M0 : mM} (h2 : M0.2.1 446 2 = i32 (y_m y)) (hg : ∀ g, g < y_m y → M0.2.1 446 (10 + 9 * g) = i32 (y_t y g).1 ∧ M0.2.1 446 (10 + 9 * g + 1) = i32 (y_t y g).2.1 ∧ M0.2.1 446 (10 + 9 * g + 2) = i32 (y_t y g).2.2 ∧ M0.2.1 446 (10 + 9 * g + 6) = eG (y_p y g)) : ∀ (k i f : Nat) (M : mM), i + k = y_m y → k < f → (∀ g, g < i → M.2.1 446 (186 + 4 * g) = i32 (y_t y g).1 ∧ M.2.1 446 (186 + 4 * g + 1) = i32 (y_t y g).2.1 ∧ M.2.1 446 (186 + 4 * g + 2) = i32 (y_t y g).2.2 ∧ M.2.1 446 (186 + 4 * g + 3) = eG (y_p y g)) → (∀ j, j < 186 → M.2.1 446 j = M0.2.1 446 j) → (M.2.2 = M0.2.2 ∧ (∀ p, p ≠ 446 → M.2.1 p = M0.2.1 p)) →
    OK (f_Model_yard_94 f (i32 i) M) fun z => z.1 = i32 (y_m y) ∧ z.2.2.1 436 30 = 0 ∧ z.2.2.2 = M0.2.2 ∧ (∀ p, p ≠ 446 → p ≠ 436 → z.2.2.1 p = M0.2.1 p) ∧ (∀ i, i ≠ 30 → z.2.2.1 436 i = M0.2.1 436 i) ∧ (∀ j, j < 186 → z.2.2.1 446 j = M0.2.1 446 j) ∧ ∀ g, g < y_m y → z.2.2.1 446 (186 + 4 * g) = i32 (y_t y g).1 ∧ z.2.2.1 446 (186 + 4 * g + 1) = i32 (y_t y g).2.1 ∧ z.2.2.1 446 (186 + 4 * g + 2) = i32 (y_t y g).2.2 ∧ z.2.2.1 446 (186 + 4 * g + 3) = eG (y_p y g)
  | _, _, 0, _, _, hf, _, _, _ => absurd hf (Nat.not_lt_zero _)
  | 0, i, f + 1, M, hi, hf, hG, hj, hM => by
    have v3 := hv.2.2.1
    rw [f_Model_yard_94, rd_2 (by omega) (by omega), Option.bind_some, hj 2 (by omega), h2, if_pos (by rw [i32_le (by omega) (by omega)]; omega), pI_s, Option.bind_some, rd_2 (by omega) (by omega), Option.bind_some, gIp (by omega), hj 2 (by omega), h2]
    refine OK_some ⟨rfl, gIe _ _ _ _, hM.1, fun p a b => (gIp b).trans (hM.2 p a), fun i hi => (gIo hi).trans (by rw [hM.2 436 (by omega)]), fun j hj' => by rw [gIp (by omega)]; exact hj j hj', fun g hg' => ?_⟩
    rw [gIp (show 446 ≠ 436 by omega)]
    exact hG g (by omega)
  | k + 1, i, f + 1, M, hi, hf, hG, hj, hM => by
    have v3 := hv.2.2.1
    obtain ⟨g0, g1, g2, g6⟩ := hg i (by omega)
    rw [f_Model_yard_94, rd_2 (by omega) (by omega), Option.bind_some, hj 2 (by omega), h2, if_neg (by rw [i32_le (by omega) (by omega)]; omega), m_g0 (by omega), Option.bind_some, nmul'_4, nadd'_186]
    dsimp only
    rw [hj _ (by omega), g0, wr_i32 (by omega) (by omega), Option.bind_some, m_g1 (by omega), Option.bind_some]
    dsimp only
    rw [gIo (by omega), hj _ (by omega), g1, nadd_1, wr_i32 (by omega) (by omega), Option.bind_some, m_g2 (by omega), Option.bind_some]
    dsimp only
    rw [gIo (by omega), gIo (by omega), hj _ (by omega), g2, nadd_2, wr_i32 (by omega) (by omega), Option.bind_some, m_g6 (by omega), Option.bind_some]
    dsimp only
    rw [gIo (by omega), gIo (by omega), gIo (by omega), hj _ (by omega), g6, nadd_3, wr_i32 (by omega) (by omega), Option.bind_some, nadd_1]
    refine my_told hv h2 hg k (i + 1) f _ (by omega) (by omega) (fun g hg' => ?_) (fun j hj' => ?_) ⟨hM.1, fun p hp => ?_⟩
    · by_cases c : g = i
      · subst c
        refine ⟨?_, ?_, ?_, ?_⟩
        · rw [gIo (by omega), gIo (by omega), gIo (by omega), gIe]
        · rw [gIo (by omega), gIo (by omega), gIe]
        · rw [gIo (by omega), gIe]
        · rw [gIe]
      · obtain ⟨b0, b1, b2, b3⟩ := hG g (by omega)
        refine ⟨?_, ?_, ?_, ?_⟩
        · rw [gIo (by omega), gIo (by omega), gIo (by omega), gIo (by omega)]; exact b0
        · rw [gIo (by omega), gIo (by omega), gIo (by omega), gIo (by omega)]; exact b1
        · rw [gIo (by omega), gIo (by omega), gIo (by omega), gIo (by omega)]; exact b2
        · rw [gIo (by omega), gIo (by omega), gIo (by omega), gIo (by omega)]; exact b3
    · rw [gIo (by omega), gIo (by omega), gIo (by omega), gIo (by omega)]
      exact hj j hj'
    · rw [gIp hp, gIp hp, gIp hp, gIp hp]
      exact hM.2 p hp
theorem m_tellY {g : Gx} {M : mM} (hg : VG g) (hm : RMm g M) (rt : Nat → Nat × Nat × Nat) : OK (f_Model_yard M) fun z => Sm 436 457 M z.2 ∧ match sYard g.2.1 41 0 0 (yNil, rt) with
    | .error w => z.1 = -2 - i32 w ∧ RMm (g.1, (0, g.2.1.2), g.2.2) z.2
    | .ok s => z.1 = i32 (y_m s.1) ∧ RMm (tlG g s.1) z.2 := by
  have ht := hg.2.2.1
  unfold f_Model_yard
  rw [pI_s, Option.bind_some]
  obtain ⟨f', M1, e1, z1, a1, b1⟩ := my_zero (M0 := msI M 436 11 6) 10 0 FUEL _ (by omega) (by rw [FUEL_eq]; omega) (fun j hj => absurd hj (Nat.not_lt_zero _)) ⟨rfl, fun _ _ => rfl⟩
  rw [show (0 : Int32) = i32 0 from rfl, e1, f_Model_yard_8, if_pos (by decide)]
  have x1 : ∀ i, i ≠ 11 → M1.2.1 436 i = M.2.1 436 i := fun i hi => by rw [b1 436 (by omega), gIo hi]
  have mp1 : MP g.2.1 M1 := by
    refine ⟨(x1 1 (by omega)).trans hm.2.2.2.2.1.1, ?_⟩
    rw [b1 437 (by omega), gIp (by omega)]
    exact hm.2.2.2.2.1.2
  refine OK_bind (m_readsY ht hg.2.2.2.1 mp1 (by rw [b1 436 (by omega), gIe]) rt z1) fun z3 h3 => ?_
  obtain ⟨f3, r3⟩ := h3
  have fI : ∀ i, i ≠ 1 → i ≠ 8 → i ≠ 9 → i ≠ 10 → i ≠ 11 → i ≠ 12 → i ≠ 14 → z3.2.2.1 436 i = M.2.1 436 i := fun i a b c d e f h => (f3.2.2.1 i a b c d f h).trans (x1 i e)
  have fP : ∀ p, p ≠ 436 → p ≠ 439 → p ≠ 442 → z3.2.2.1 p = M.2.1 p := fun p a b c => by rw [f3.2.1 p a b c, b1 p c, gIp a]
  have fR : z3.2.2.2 = M.2.2 := by rw [f3.1, a1]; rfl
  cases e : sYard g.2.1 41 0 0 (yNil, rt) with
  | error w =>
    rw [e] at r3
    obtain ⟨w1, w2⟩ := r3
    rw [w1, if_pos rfl, w2]
    refine OK_some ⟨fun p hp => ⟨fP p (by omega) (by omega) (by omega), by rw [fR]⟩, rfl, ?_⟩
    exact RM_tape2 hm ⟨f3.2.2.2, fun k hk => absurd hk (Nat.not_lt_zero _)⟩ (fun i hi => fI i (by omega) (by omega) (by omega) (by omega) (by omega) (by omega) (by omega)) fun p hp => fP p (by omega) (by omega) (by omega)
  | ok s =>
    rw [e] at r3
    obtain ⟨w1, hs, hL, hR⟩ := r3
    have hv := hs.1
    have v3 := hv.2.2.1
    have v4 := hv.2.2.2.1
    have v5 := hv.2.2.2.2.1
    rw [w1, if_neg (by decide)]
    obtain ⟨f4, M4, e4, z4, a4, b4⟩ := my_over (M0 := z3.2) 226 0 FUEL z3.2 (by omega) (by rw [FUEL_eq]; omega) (fun j hj => absurd hj (Nat.not_lt_zero _)) ⟨rfl, fun _ _ => rfl⟩
    obtain ⟨q0, q1, q2, q3, q5, q6, qg, qr, qf⟩ := hR
    have o4 : ∀ j, j < 155 → M4.2.1 446 j = z3.2.2.1 442 j := fun j hj => by rw [z4 j (by omega), if_pos hj]
    rw [show (0 : Int32) = i32 0 from rfl, e4, f_Model_yard_44, if_pos (by decide), rd_2 (by omega) (by omega), Option.bind_some, o4 2 (by omega), q2, wr_4 (by omega) (by omega), Option.bind_some]
    have o5 : ∀ j, j < 155 → j ≠ 4 → (msI M4 446 4 (i32 (y_m s.1))).2.1 446 j = z3.2.2.1 442 j := fun j hj h4 => by rw [gIo h4]; exact o4 j hj
    refine OK_imp (my_told hv (M0 := msI M4 446 4 (i32 (y_m s.1))) ((o5 2 (by omega) (by omega)).trans q2) (fun g hg => ⟨(o5 _ (by omega) (by omega)).trans (qg g hg).1.1, (o5 _ (by omega) (by omega)).trans (qg g hg).1.2.1, (o5 _ (by omega) (by omega)).trans (qg g hg).1.2.2.1, (o5 _ (by omega) (by omega)).trans (qg g hg).2.1⟩) (y_m s.1) 0 FUEL _ (Nat.zero_add _) (by rw [FUEL_eq]; omega) (fun g hg => absurd hg (Nat.not_lt_zero _)) (fun _ _ => rfl) ⟨rfl, fun _ _ => rfl⟩) fun z hz => ?_
    obtain ⟨t1, t2, t3, t4, t5, t6, t7⟩ := hz
    have gP : ∀ p, p ≠ 436 → p ≠ 439 → p ≠ 442 → p ≠ 446 → z.2.2.1 p = M.2.1 p := fun p a b c d => by rw [t4 p d a, gIp d, b4 p d, fP p a b c]
    have gI' : ∀ i, i ≠ 1 → i ≠ 8 → i ≠ 9 → i ≠ 10 → i ≠ 11 → i ≠ 12 → i ≠ 14 → i ≠ 30 → z.2.2.1 436 i = M.2.1 436 i := fun i a b c d e f h k => by rw [t5 i k, gIp (by omega), b4 436 (by omega), fI i a b c d e f h]
    have gG : ∀ j, j < 155 → j ≠ 4 → z.2.2.1 446 j = z3.2.2.1 442 j := fun j a b => (t6 j (by omega)).trans (o5 j a b)
    have g4 : z.2.2.1 446 4 = i32 (y_m s.1) := (t6 4 (by omega)).trans (gIe _ _ _ _)
    have g185 : z.2.2.1 446 185 = 0 := by rw [t6 185 (by omega), gIo (by omega), z4 185 (by omega), if_neg (by omega)]
    refine ⟨fun p hp => ⟨gP p (by omega) (by omega) (by omega) (by omega), by rw [show z.2.2.2 = M4.2.2 from t3, a4, fR]⟩, t1, ?_⟩
    obtain ⟨h1, h2, h3', h4, h5, h6, h7, h8⟩ := hm
    refine ⟨⟨⟨⟨?_, ?_, ?_, ?_, ?_, fun g hg => ⟨?_, ?_⟩⟩, fun g hg => ⟨?_, ?_⟩, fun g hg => ?_, ?_, ?_, ?_⟩, ⟨⟨s.2, ?_, fun k hk => ?_, fun l c hl hc => hs.2.2 l c hl hc⟩, ?_, fun k hk => ?_⟩, ⟨?_, fun k hk => absurd hk (Nat.not_lt_zero _)⟩, fun g hg => ?_⟩, ?_, ?_, ?_, ⟨?_, fun k hk => absurd hk (Nat.not_lt_zero _)⟩, ⟨?_, fun k hk => ?_⟩, ⟨t2, fun j hj => absurd hj (Nat.not_lt_zero _)⟩, fun k hk => ?_⟩
    · exact (gG 0 (by omega) (by omega)).trans q0
    · exact (gG 1 (by omega) (by omega)).trans q1
    · exact (gG 2 (by omega) (by omega)).trans q2
    · exact (gG 3 (by omega) (by omega)).trans q3
    · show y_m s.1 ≤ 11
      omega
    · have hg' : g < y_m s.1 := hg
      exact MB_of (qg g hg).1 fun i hi => gG _ (by omega) (by omega)
    · have hg' : g < y_m s.1 := hg
      exact (gG _ (by omega) (by omega)).trans (qg g hg).2.1
    · have hg' : g < y_m s.1 := hg
      exact (gG _ (by omega) (by omega)).trans (qg g hg).2.2.2.1
    · have hg' : g < y_m s.1 := hg
      exact (gG _ (by omega) (by omega)).trans (qg g hg).2.2.2.2
    · have hg' : g < y_m s.1 := hg
      exact (gG _ (by omega) (by omega)).trans (qg g hg).2.2.1
    · exact g4
    · exact (gG 5 (by omega) (by omega)).trans q5
    · exact (gG 6 (by omega) (by omega)).trans q6
    · exact (gG 5 (by omega) (by omega)).trans q5
    · have hk' : k < y_nr s.1 := hk
      obtain ⟨x1, x2, x3⟩ := hs.2.1 k hk
      obtain ⟨r1, r2, r3⟩ := qr k hk
      exact ⟨x1, x2, (gG _ (by omega) (by omega)).trans r1, (gG _ (by omega) (by omega)).trans r2, (gG _ (by omega) (by omega)).trans r3⟩
    · exact (gG 6 (by omega) (by omega)).trans q6
    · have hk' : k < y_nf s.1 := hk
      exact (gG _ (by omega) (by omega)).trans (qf k hk)
    · exact g185
    · exact t7 g hg
    · exact (gI' 21 (by omega) (by omega) (by omega) (by omega) (by omega) (by omega) (by omega) (by omega)).trans h2
    · exact (gI' 22 (by omega) (by omega) (by omega) (by omega) (by omega) (by omega) (by omega) (by omega)).trans h3'
    · exact (gI' 26 (by omega) (by omega) (by omega) (by omega) (by omega) (by omega) (by omega) (by omega)).trans h4
    · rw [t5 1 (by omega), gIp (by omega), b4 436 (by omega)]
      exact f3.2.2.2
    · exact (gI' 2 (by omega) (by omega) (by omega) (by omega) (by omega) (by omega) (by omega) (by omega)).trans h6.1
    · exact RMk_of (h6.2 k hk) (fun i _ => by rw [gP 438 (by omega) (by omega) (by omega) (by omega)]) (fun i _ => by rw [gP 440 (by omega) (by omega) (by omega) (by omega)]) (by rw [gP 441 (by omega) (by omega) (by omega) (by omega)])
    · have := h8 k hk
      unfold MI at this ⊢
      rw [gP 456 (by omega) (by omega) (by omega) (by omega), gP 454 (by omega) (by omega) (by omega) (by omega), gP 455 (by omega) (by omega) (by omega) (by omega), gP 453 (by omega) (by omega) (by omega) (by omega)]
      exact this
theorem both_yard {M : mM} (hi : Inv M) : Both f_GraveRails_yard f_Model_yard M := by
  obtain ⟨g, hg, hc, hm⟩ := hi
  have h1 := c_tellY hg hc fun _ => (0, 0, 0)
  have h2 : ∀ M', RMm g M' → _ := fun M' hm' => m_tellY hg hm' fun _ => (0, 0, 0)
  cases e : sYard g.2.1 41 0 0 (yNil, fun _ => (0, 0, 0)) with
  | error w =>
    rw [e] at h1
    refine both_do (v := -2 - i32 w) hm (VG_t0 hg) (OK_imp h1 fun z hz => ⟨hz.2.1, hz.2.2, hz.1⟩) fun M' hm' => ?_
    have h := h2 M' hm'
    rw [e] at h
    exact OK_imp h fun z hz => ⟨hz.2.1, hz.2.2, hz.1⟩
  | ok s =>
    rw [e] at h1
    obtain ⟨z1, e1, q1, q2, q3, q4, q5⟩ := h1
    refine both_do (v := i32 (y_m s.1)) hm (VG_tl hg q3.1 q4) ⟨z1, e1, q2, q5, q1⟩ fun M' hm' => ?_
    have h := h2 M' hm'
    rw [e] at h
    exact OK_imp h fun z hz => ⟨hz.2.1, hz.2.2, hz.1⟩
