/-! ===== years that are only asked about ===== -/
theorem c_rif {g : Gx} {M : mM} (hg : VG g) (hc : RC g M) : f_GraveRails_ruleInForce M = some (ruf g.1.2.2.2.1, M) := by
  have hr := hg.2.2.2.2.1
  unfold f_GraveRails_ruleInForce
  rw [hc.1.2.2.2.1, hc.2.2.1.1]
  cases hf : g.1.2.2.2.1 with
  | none => exact if_pos (by decide)
  | some k =>
    have hk := hg.2.1 k hf
    rw [show eG (some k) = i32 k from rfl, if_neg (fun z => (i32_neg (a := k) (by omega)).mp z), if_neg (by rw [i32_le (by omega) (by omega)]; omega), if_neg (by rw [show (6 : Int32) = i32 6 from rfl, i32_le (by omega) (by omega)]; omega), ix_i32 (by omega) (by omega)]
    rfl
theorem RL_in {g : Gx} {M : mM} (hg : VG g) (hu : CU g.2.2.1 M) : RL (ruf g.1.2.2.2.1) (phi g.1.2.2.2.1 g.2.2.1.2) M := by
  have hr := hg.2.2.2.2.1
  unfold RL ruf phi
  cases hf : g.1.2.2.2.1 with
  | none => trivial
  | some k =>
    have hk := hg.2.1 k hf
    refine ⟨?_, hg.2.2.2.2.2.1 k hk, fun M1 h1 ws hw => hu.2 k hk M1 (fun p a b => h1 p (by omega) (by omega)) ws hw⟩
    have h6 : k = 0 ∨ k = 1 ∨ k = 2 ∨ k = 3 ∨ k = 4 ∨ k = 5 := by omega
    rcases h6 with rfl | rfl | rfl | rfl | rfl | rfl <;> decide
theorem c_start {y : Yd} {Yp T : Nat} {ru : Option Nat} {φ : Option (List Int64 → Nat)} {s : Sx} {M : mM} (hv : VY y) (hY : Yp ∈ ydL) (hd : Yp + 8 ≤ 246 ∨ 269 ≤ Yp) (hc : CY Yp y M) (hT : T + 10 ≤ 246 ∨ 269 ≤ T) (hs : CSX T s M) (hV : V (y_L y) (y_C y) s.2.1 s.2.2.1) (ht : VT s.2.1 s.2.2.2) (hr : RL ru φ M) : OK (f_Course_start Yp T ru M) fun M' => CQ y Yp ru φ s.2.1 s.1 s.2.2.1 [] 0 M' ∧ M'.2.1 246 4 = 0 ∧ CSX 247 s M' ∧ Sm 246 269 M M' := by
  unfold f_Course_start f_Course_start_13
  simp only [pR_s, pI_s, pZ_0, Option.bind_some]
  refine OK_bind (c_copyX (S := 247) (T := T) (s := s) (by omega) (CSX_of hs fun k hk => ?_)) fun M1 h1 => ?_
  · rw [gIp (by omega), gIp (by omega), gIp (by omega), gRI, gRI]
  · have ep : ∀ p, p < 246 ∨ 257 ≤ p → M1.2.1 p = M.2.1 p := fun p hp => by rw [Sm_i h1.2 (by omega), gIp (by omega), gIp (by omega), gIp (by omega), gRI, gRI]
    have er : M1.2.2.2 246 = (msR (msR M 246 5 (some Yp)) 246 6 ru).2.2.2 246 := by rw [Sm_r h1.2 (by omega), gIR, gIR, gIR]
    refine OK_some ⟨⟨hv, ⟨h1.1.1, hV, ?_, Nat.zero_le _, fun k hk => absurd hk (Nat.not_lt_zero _)⟩, ⟨?_, hY, hd, CY_of hc fun k hk => ep _ (by omega), ?_, RL_of hr fun p a b => ep p (by omega)⟩, ?_, s.2.2.2, ht, h1.1.2⟩, ?_, h1.1, ?_⟩
    · rw [Sm_i h1.2 (by omega), gIo (by omega), gIo (by omega), gIe]; rfl
    · rw [er, gRo (by omega), gRe]
    · rw [er, gRe]
    · rw [Sm_i h1.2 (by omega), gIo (by omega), gIe]; rfl
    · rw [Sm_i h1.2 (by omega), gIe]
    · exact Sm_trans (Sm_trans (Sm_trans (Sm_trans (Sm_trans (Sm_R (by omega)) (Sm_R (by omega))) (Sm_I (by omega))) (Sm_I (by omega))) (Sm_I (by omega))) (Sm_le h1.2 (by omega) (by omega))
theorem c_sfn {g : Gx} {M : mM} (hg : VG g) (hc : RC g M) : OK (f_GraveRails_startFromNow M) fun M' => CQ g.1.1 21 (ruf g.1.2.2.2.1) (phi g.1.2.2.2.1 g.2.2.1.2) g.1.2.1.2.1 g.1.2.1.1 g.1.2.1.2.2.1 [] 0 M' ∧ M'.2.1 246 4 = 0 ∧ CSX 247 g.1.2.1 M' ∧ Sm 246 269 M M' := by
  unfold f_GraveRails_startFromNow
  rw [c_rif hg hc]
  simp only [Option.bind_some]
  exact OK_bind (c_start hg.1.1 (by decide) (by omega) hc.1.1 (by omega) hc.1.2.1 hg.1.2.1.1 hg.1.2.1.2.1 (RL_in hg hc.2.2.1)) fun M' h => OK_some h
/-- the course at a year's begin, whoever fell before -/
def CQe (y : Yd) (Yp : Nat) (ru : Option Nat) (φ : Option (List Int64 → Nat)) (n yr : Nat) (b : Nat → B) (M : mM) : Prop := (∃ P k, CQ y Yp ru φ n yr b P k M) ∧ M.2.1 246 4 = 0
theorem CQe_year {y : Yd} {Yp : Nat} {ru : Option Nat} {φ : Option (List Int64 → Nat)} {n yr : Nat} {b : Nat → B} {M : mM} (h : CQe y Yp ru φ n yr b M) (hy : yr < 2147483647) : OK (f_Course_goYear M) fun M' => CQe y Yp ru φ n (yr + 1) (yB y φ n yr (flo y yr) b) M' ∧ FrY M M' := by
  obtain ⟨⟨P, k, hq⟩, h4⟩ := h
  refine OK_imp (CQ_year hq (dr := false) h4 hy) fun M' h' => ?_
  rw [Bool.false_or] at h'
  exact ⟨⟨⟨_, _, h'.1⟩, h'.2.2.2.trans h4⟩, h'.2⟩
theorem FrY_refl (M : mM) : FrY M M := ⟨rfl, fun _ _ => rfl, rfl⟩
theorem Sm_Y {M M' : mM} (h : FrY M M') : Sm 246 269 M M' := fun p hp => ⟨h.2.1 p hp, by rw [h.1]⟩
/-! the model -/
def FrL (M M' : mM) : Prop := (∀ p, p < 436 → M'.2.2.2 p = M.2.2.2 p) ∧ (∀ p, p ≠ 436 → p ≠ 446 → p ≠ 447 → p ≠ 448 → p ≠ 451 → p ≠ 452 → M'.2.1 p = M.2.1 p) ∧ (∀ i, i = 1 ∨ i = 2 ∨ i = 21 ∨ i = 22 ∨ i = 30 → M'.2.1 436 i = M.2.1 436 i) ∧ ∀ i, 131 ≤ i → M'.2.1 446 i = M.2.1 446 i
theorem FrL_refl (M : mM) : FrL M M := ⟨fun _ _ => rfl, fun _ _ _ _ _ _ _ => rfl, fun _ _ => rfl, fun _ _ => rfl⟩
theorem FrL_trans {M M' M'' : mM} (h : FrL M M') (h' : FrL M' M'') : FrL M M'' := ⟨fun p hp => (h'.1 p hp).trans (h.1 p hp), fun p a b c d e f => (h'.2.1 p a b c d e f).trans (h.2.1 p a b c d e f), fun i hi => (h'.2.2.1 i hi).trans (h.2.2.1 i hi), fun i hi => (h'.2.2.2 i hi).trans (h.2.2.2 i hi)⟩
theorem FrL_P {M M' : mM} (h : FrP M M') : FrL M M' := ⟨fun p _ => congrFun (congrArg Prod.fst h.1) p, fun p a b c d _ _ => h.2.1 p a b c d, fun i hi => h.2.2.1 i (by omega) (by omega) (by omega) (by omega), fun i hi => h.2.2.2.1 i (by omega)⟩
theorem RM_in {g : Gx} {M : mM} (hg : VG g) (hm : RMm g M) : RM (phi g.1.2.2.2.1 g.2.2.1.2) M := by
  have hr := hg.2.2.2.2.1
  have h2 := hm.2.1
  have hu := hm.2.2.2.2.2.1
  unfold RM phi
  cases hf : g.1.2.2.2.1 with
  | none => rw [hf] at h2; exact h2
  | some k =>
    have hk := hg.2.1 k hf
    rw [hf] at h2
    refine ⟨⟨k, by omega, h2⟩, hg.2.2.2.2.2.1 k hk, fun M1 h1 h3 h4 h5 x ws hw => hu.2 k hk M1 (fun i _ => by rw [h1]) (fun i _ => by rw [h3]) (by rw [h4]) (h5.trans h2) x ws hw⟩
theorem m_start {g : Gx} {M : mM} (hg : VG g) (hm : RMm g M) (hL : 0 < y_L g.1.1) : MYr g.1.1 (phi g.1.2.2.2.1 g.2.2.1.2) g.1.2.1.2.1 g.1.2.1.1 g.1.2.1.2.2.1 false M := by
  have hv := hg.1.1
  refine ⟨hv, hv.2.2.2.2.2.2.2.2.2.2.2 hL, VS_PN hg.1.2.1 hv, hm.1.1.1, hg.1.2.1.1, ⟨hm.1.2.1, hm.2.2.2.1⟩, RM_in hg hm, g.1.2.1.2.2.2, hg.1.2.1.2.1, hm.1.1.2.1, hm.1.1.2.2.1⟩
theorem MYr_of {y : Yd} {φ : Option (List Int64 → Nat)} {n yr : Nat} {b : Nat → B} {dr : Bool} {M M' : mM} (h : MYr y φ n yr b dr M) (e : ∀ p, p = 438 ∨ p = 440 ∨ p = 441 ∨ p = 446 → M'.2.1 p = M.2.1 p) (ei : ∀ i, i = 21 ∨ i = 26 → M'.2.1 436 i = M.2.1 436 i) : MYr y φ n yr b dr M' := by
  obtain ⟨hv, hC, hpn, hS, hV, hx, hr, t, hT, hc, hh⟩ := h
  refine ⟨hv, hC, hpn, by rw [e 446 (by omega)]; exact hS, hV, ⟨by rw [e 446 (by omega)]; exact hx.1, (ei 26 (by omega)).trans hx.2⟩, RM_of hr (e 438 (by omega)) (e 440 (by omega)) (e 441 (by omega)) (ei 21 (by omega)), t, hT, by rw [e 446 (by omega)]; exact hc, by rw [e 446 (by omega)]; exact hh⟩
/-- a year of the model's, no flood drawn -/
theorem MYr_step {y : Yd} {φ : Option (List Int64 → Nat)} {n yr : Nat} {b : Nat → B} {M : mM} (h : MYr y φ n yr b false M) (hy : yr < 2147483647) : OK (f_Model_passes M) fun z => MYr y φ n (yr + 1) (yB y φ n yr (flo y yr) b) false z.2 ∧ FrL M z.2 ∧ z.2.2.1 436 26 = 0 := by
  refine OK_imp (MYr_year h hy) fun z hz => ?_
  rw [Bool.false_or] at hz
  exact ⟨hz.2.1, FrL_P hz.2.2.1, hz.2.1.2.2.2.2.2.1.2⟩
/-- kept, and laid back -/
def Kp (M M1 : mM) : Prop := Sm 450 451 M M1 ∧ ∀ j, j < 131 → M1.2.1 450 j = M.2.1 446 j
theorem Kp_L {M M1 M2 : mM} (h : Kp M M1) (h' : FrL M1 M2) : M2.2.1 450 = M1.2.1 450 := h'.2.1 450 (by omega) (by omega) (by omega) (by omega) (by omega) (by omega)
theorem FrL_K {M M1 : mM} (h : Kp M M1) : ∀ p, p ≠ 450 → M1.2.1 p = M.2.1 p ∧ M1.2.2.2 p = M.2.2.2 p := fun p hp => h.1 p (by omega)
/-- what is laid back is as it was -/
def FrB (M M' : mM) : Prop := (∀ p, p ≠ 436 → p ≠ 447 → p ≠ 448 → p ≠ 450 → p ≠ 451 → p ≠ 452 → M'.2.1 p = M.2.1 p) ∧ (∀ i, i = 1 ∨ i = 2 ∨ i = 21 ∨ i = 22 ∨ i = 30 → M'.2.1 436 i = M.2.1 436 i) ∧ ∀ p, p < 436 → M'.2.2.2 p = M.2.2.2 p
theorem m_lay {M M1 M2 : mM} (h : Kp M M1) (h' : FrL M1 M2) : OK (f_Model_laysBack M2) fun M3 => FrB M M3 ∧ M3.2.1 436 = M2.2.1 436 ∧ (∀ j, j < 131 → M3.2.1 450 j = M.2.1 446 j) ∧ FrL M1 M3 ∧ M3.2.2.1 = M2.2.2.1 ∧ Sm 446 447 M2 M3 := by
  refine OK_imp (m_laysBack M2) fun M3 h3 => ?_
  obtain ⟨q1, q2, q3, q4⟩ := h3
  have e450 : M3.2.1 450 = M1.2.1 450 := by rw [Sm_i q1 (by omega), Kp_L h h']
  have e446 : M3.2.1 446 = M.2.1 446 := by
    funext j
    by_cases c : j < 131
    · rw [q2 j c, Kp_L h h', h.2 j c]
    · rw [q3 j (by omega), h'.2.2.2 j (by omega), Sm_i h.1 (by omega)]
  refine ⟨⟨fun p a b c d e f => ?_, fun i hi => ?_, fun p hp => ?_⟩, Sm_i q1 (by omega), fun j hj => by rw [e450]; exact h.2 j hj, ⟨?_, fun p a b c d e f => ?_, fun i hi => ?_, fun i hi => ?_⟩, q4, q1⟩
  · by_cases c6 : p = 446
    · rw [c6]; exact e446
    · rw [Sm_i q1 (by omega), h'.2.1 p a c6 b c e f, Sm_i h.1 (by omega)]
  · rw [Sm_i q1 (by omega), h'.2.2.1 i hi, Sm_i h.1 (by omega)]
  · rw [Sm_r q1 (by omega), h'.1 p hp, Sm_r h.1 (by omega)]
  · intro p hp
    rw [Sm_r q1 (by omega), h'.1 p hp]
  · rw [Sm_i q1 (by omega)]; exact h'.2.1 p a b c d e f
  · rw [Sm_i q1 (by omega)]; exact h'.2.2.1 i hi
  · rw [q3 i hi]; exact h'.2.2.2 i hi
/-- an answer of the model's that only asked -/
theorem FrN_B {M M' : mM} (h : FrB M M') (h26 : M'.2.1 436 26 = M.2.1 436 26) : FrN M M' := ⟨h.2.2, fun p hp => h.1 p (by omega) (by omega) (by omega) (by omega) (by omega) (by omega), fun i hi => by
  by_cases c : i = 26
  · rw [c]; exact h26
  · exact h.2.1 i (by omega)⟩
