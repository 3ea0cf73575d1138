theorem both_back {x1 : Int32} {M : mM} (hi : Inv M) : Both (f_GraveRails_back x1) (f_Model_back x1) M := by
  have hi' := hi
  obtain ⟨g, hg, hc, hm⟩ := hi
  rcases i32_cases x1 with h1 | ⟨k, h1, rfl⟩
  · refine both_pure hi' ⟨-1, by unfold f_GraveRails_back; rw [c_imgN h1, Option.bind_some]; exact if_pos rfl, ?_⟩
    unfold f_Model_back
    rw [m_inN (lo := 0) (hi := 3) h1 (by omega)]
    exact bnd (if_pos rfl)
  · by_cases hk : k < 4
    · cases ho : g.2.2.2.2 k with
      | none =>
        have c5 := hc.2.2.2.2.1 k hk
        have h8 := hm.2.2.2.2.2.2.2 k hk
        rw [ho] at c5 h8
        refine both_pure hi' ⟨-1, ?_, ?_⟩
        · unfold f_GraveRails_back
          rw [c_img hk, Option.bind_some]
          dsimp only
          rw [if_sm, nnl_s (ar_wo hk).1, Option.bind_some, show M.2.1 (344 + 23 * k) 5 = 0 from c5, if_pos rfl]
        · unfold f_Model_back
          rw [m_inY (lo := 0) (hi := 3) ⟨Nat.zero_le _, by omega⟩ (by omega), Option.bind_some, if_neg (show ¬ (1 : Int32) = 0 by decide), rd_i32 hk (by omega), Option.bind_some]
          have e : M.2.1 456 k = 0 := h8
          show (if M.2.1 456 k = 0 then _ else _) = _
          rw [e]
          exact if_pos rfl
      | some w =>
        have c5 := hc.2.2.2.2.1 k hk
        rw [ho] at c5
        have hw := hg.2.2.2.2.2.2.2.2 k w ho
        have hx : VG (w, g.2.1, g.2.2.1, (0, g.2.2.2.1.2), g.2.2.2.2) := VG_w hg hw.1 hw.2 (Nat.zero_le _) fun j hj => absurd hj (Nat.not_lt_zero _)
        refine both_do (v := i32 w.2.1.1) hm hx ?_ fun M' hm' => ?_
        · unfold f_GraveRails_back
          rw [c_img hk, Option.bind_some]
          dsimp only
          rw [if_sm, nnl_s (ar_wo hk).1, Option.bind_some, show M.2.1 (344 + 23 * k) 5 = 1 from c5.1, if_neg (by decide)]
          refine OK_bind (c_copyWorld (S := 20) (T := 344 + 23 * k) (by omega) hw.1 c5.2) fun M1 q1 => ?_
          obtain ⟨q1, q2, q3⟩ := q1
          simp (disch := omega) only [pI_s, pZ_0, Option.bind_some, gIp]
          have ep : ∀ p, 45 ≤ p → p ≠ 269 → (msI (msI M1 44 0 0) 269 0 0).2.1 p = M.2.1 p := fun p hp hq => by rw [gIp (by omega), gIp (by omega), Sm_i q2 (by omega)]
          obtain ⟨a0, nx, a1, a2, a3⟩ := hc.2.2.2.1
          refine OK_some ⟨q1.2.1.1.1, RC_put hg hc (CW_of q1 fun j hj => ?_) ⟨?_, nx, a1, ?_, fun j hj => absurd hj (Nat.not_lt_zero _)⟩ (fun p hp => ?_) (Or.inl (gIe _ _ _ _)), Sm_trans (Sm_le q2 (by omega) (by omega)) (Sm_trans (Sm_I (by omega)) (Sm_I (by omega)))⟩
          · rw [gIp (by omega), gIp (by omega)]
          · rw [gIp (by omega), gIe]; rfl
          · rw [gIp (by omega), gIo (by omega), Sm_i q2 (by omega)]; exact a2
          · rw [gIp (by omega), gIp (by omega), Sm_i q2 (by omega)]
        · have h8 := hm'.2.2.2.2.2.2.2 k hk
          rw [ho] at h8
          obtain ⟨b1, b2, b3, b4⟩ := h8
          unfold f_Model_back
          rw [m_inY (lo := 0) (hi := 3) ⟨Nat.zero_le _, by omega⟩ (by omega), Option.bind_some, if_neg (show ¬ (1 : Int32) = 0 by decide), rd_i32 hk (by omega), Option.bind_some]
          show OK (if M'.2.1 456 k = 0 then _ else _) _
          rw [b1, if_neg (show ¬ (1 : Int32) = 0 by decide)]
          rw [show (1, M').2 = M' from rfl, rd_i32 hk (by omega), Option.bind_some, pI_s, Option.bind_some, rd_i32 hk (by omega), Option.bind_some, pI_s, Option.bind_some, pI_s, Option.bind_some, gIp (show 455 ≠ 436 by omega), b2, b3]
          refine OK_imp (m_back50 hk 226 0 FUEL _ rfl (by rw [FUEL_eq]; omega) (Sm_refl _ _ _) (fun j hj => by omega)) fun z hz => ?_
          obtain ⟨z1, z2, z3⟩ := hz
          have hW : MW w (z.2.2.1 446) := MW_of hw.1 b4 fun i hi => by rw [z3 i hi, gIp (by omega), gIp (by omega), gIp (by omega)]
          have ep : ∀ p, p ≠ 436 → p ≠ 446 → z.2.2.1 p = M'.2.1 p := fun p a b => by rw [Sm_i z2 (by omega), gIp (by omega), gIp (by omega), gIp (by omega)]
          have ei : ∀ i, z.2.2.1 436 i = (msI (msI (msI M' 436 21 (eG w.2.2.2.1)) 436 22 (i32 w.2.2.2.2)) 436 30 0).2.1 436 i := fun i => by rw [Sm_i z2 (by omega)]
          refine ⟨z1.trans hW.1.1.2.2.2.1, RMm_put hm' hW ?_ ?_ ⟨?_, fun j hj => absurd hj (Nat.not_lt_zero _)⟩ (fun i hi => ?_) (fun p hp => ep p (by omega) (by omega)), Sm_trans (Sm_trans (Sm_trans (Sm_I (by omega)) (Sm_I (by omega))) (Sm_I (by omega))) (Sm_le z2 (by omega) (by omega))⟩
          · rw [ei, gIo (by omega), gIo (by omega), gIe]
          · rw [ei, gIo (by omega), gIe]
          · rw [ei, gIe]; rfl
          · rw [ei, gIo (by omega), gIo (by omega), gIo (by omega)]
    · refine both_pure hi' ⟨-1, ?_, ?_⟩
      · unfold f_GraveRails_back
        rw [c_imgX h1 hk, Option.bind_some]
        exact if_pos rfl
      · unfold f_Model_back
        rw [m_inX (lo := 0) (hi := 3) h1 (by omega) (by omega) (by omega)]
        exact bnd (if_pos rfl)
