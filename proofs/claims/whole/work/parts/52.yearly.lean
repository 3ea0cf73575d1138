/-! ===== year ===== -/
def yrS (y : Yd) (φ : Option (List Int64 → Nat)) (s : Sx) : Sx := (s.1 + 1, s.2.1, yB y φ s.2.1 s.1 (flo y s.1) s.2.2.1, stn y s.1 (yB y φ s.2.1 s.1 (flo y s.1) s.2.2.1) s.2.2.2)
theorem VS_yr {y : Yd} {φ : Option (List Int64 → Nat)} {s : Sx} (h : VS y s) (hV : V (y_L y) (y_C y) s.2.1 (yB y φ s.2.1 s.1 (flo y s.1) s.2.2.1)) (hy : s.1 < 999) : VS y (yrS y φ s) := by
  obtain ⟨h1, h2, h3, h4, h5, h6, h7⟩ := h
  refine ⟨hV, VT_stn h2, h3, h4, ?_, VF_yB h6 (by omega), h7⟩
  show s.1 + 1 ≤ 999
  omega
/-- acts may be kept at any time -/
theorem RC_kept {g : Gx} {M M1 : mM} (hg : VG g) (hc : RC g M) (h1 : CA (push g.2.2.2.1 g.1.2.1) M1) (h2 : Sm 44 246 M M1) : RC (setS g.1 g.1.2.1, g.2.1, g.2.2.1, push g.2.2.2.1 g.1.2.1, g.2.2.2.2) M1 :=
  RC_state hg hc (CSX_of hc.1.2.1 fun j hj => Sm_i h2 (by omega)) h1 (fun p hp => Sm_i h2 (by omega)) (Sm_r h2 (by omega))
theorem m_yearV {y : Yd} {φ : Option (List Int64 → Nat)} {s : Sx} {M : mM} (hv : VY y) (hC : 2 ≤ y_C y) (hs : VS y s) (hX : MSX y s (M.2.1 446)) (hY : MX y false M) (hr : RM φ M) : OK (f_Model_passes M) fun z => z.1 = i32 (yF y φ s.2.1 s.1 (flo y s.1) s.2.2.1).length ∧ MSX y (yrS y φ s) (z.2.2.1 446) ∧ V (y_L y) (y_C y) s.2.1 (yB y φ s.2.1 s.1 (flo y s.1) s.2.2.1) ∧ FrP M z.2 := by
  obtain ⟨x1, x2, x3, x4, x5, x6⟩ := hX
  have hn := hs.2.2.2.1
  refine OK_imp (m_passes hv hC (VS_PN hs hv) (by have := hs.2.2.2.2.1; omega) hs.2.1 x1 hs.1 hY hr x3 x2) fun z hz => ?_
  rw [Bool.false_or] at hz
  obtain ⟨z1, z2, z3, z4, z5⟩ := hz
  refine ⟨z1, ⟨z2.1, z3, fun g hg => (z4.2.2.2.2 g (by have hg' : g < s.2.1 := hg; omega)).trans (x3 g hg), (z4.2.2.2.1 4 (by omega)).trans x4, (z4.2.2.2.1 5 (by omega)).trans x5, (z4.2.2.2.1 6 (by omega)).trans x6⟩, z2.2.1, z4⟩
theorem both_year {M : mM} (hi : Inv M) : Both f_GraveRails_year f_Model_year M := by
  have hi' := hi
  obtain ⟨g, hg, hc, hm⟩ := hi
  have hv := hg.1.1
  have hn := hg.1.2.1.2.2.2.1
  have hy := hg.1.2.1.2.2.2.2.1
  have e0 : M.2.1 29 0 = i32 g.1.2.1.1 := hc.1.2.1.1.1
  have m3 : M.2.1 446 3 = i32 g.1.2.1.1 := hm.1.1.1.2.2.2.1
  have ct := c_isTold hc.1.1 hv
  have mt := m_isYard hm.1.1.1.1 hv
  by_cases hL : 0 < y_L g.1.1
  · rw [if_pos hL] at ct mt
    by_cases h9 : g.1.2.1.1 < 999
    · have hC := hv.2.2.2.2.2.2.2.2.2.2.2 hL
      obtain ⟨z, hz, hz1⟩ := m_yearV hv hC hg.1.2.1 hm.1.1 ⟨hm.1.2.1, hm.2.2.2.1⟩ (RM_in hg hm)
      have hS' : VS g.1.1 (yrS g.1.1 (phi g.1.2.2.2.1 g.2.2.1.2) g.1.2.1) := VS_yr hg.1.2.1 hz1.2.2.1 h9
      refine both_do (v := i32 (yF g.1.1 (phi g.1.2.2.2.1 g.2.2.1.2) g.1.2.1.2.1 g.1.2.1.1 (flo g.1.1 g.1.2.1.1) g.1.2.1.2.2.1).length) hm (VG_state hg hS') ?_ fun M' hm' => ?_
      · unfold f_GraveRails_year
        rw [ct, bnd1]
        dsimp only
        rw [e0, if_pos (by rw [show (999 : Int32) = i32 999 from rfl, i32_lt (by omega) (by omega)]; exact h9)]
        refine OK_bind (c_keep (by omega) hg.2.2.2.2.2.2.1 hc.1.2.1 hc.2.2.2.1) fun M1 h1 => ?_
        have hc1 := RC_kept hg hc h1.1 h1.2
        have hg1 := VG_state hg hg.1.2.1
        refine OK_bind (c_sfn hg1 hc1) fun M2 h2 => ?_
        obtain ⟨⟨q1, q2, q3, q4, q5⟩, q6, q7, q8⟩ := h2
        refine OK_bind (c_goYear (dr := false) (t := g.1.2.1.2.2.2) hv q2 q3 q6 q4 hg.1.2.1.2.1 q7.2 (by show g.1.2.1.1 < 2147483647; omega)) fun M3 h3 => ?_
        rw [Bool.false_or] at h3
        obtain ⟨r1, r2, r3, r4⟩ := h3
        have hX : CSX 247 (yrS g.1.1 (phi g.1.2.2.2.1 g.2.2.1.2) g.1.2.1) M3 := ⟨r1.1, r2⟩
        refine OK_bind (c_copyX (S := 29) (T := 247) (by omega) hX) fun M4 h4 => ?_
        have e2 : M4.2.1 246 2 = M3.2.1 246 2 := by rw [Sm_i h4.2 (by omega)]
        have hS3 : Sm 44 269 M M3 := Sm_trans (Sm_le h1.2 (by omega) (by omega)) (Sm_trans (Sm_le q8 (by omega) (by omega)) (Sm_le (Sm_Y r3) (by omega) (by omega)))
        have hS4 : Sm 29 269 M M4 := Sm_trans (Sm_le hS3 (by omega) (by omega)) (Sm_le h4.2 (by omega) (by omega))
        refine OK_some ⟨e2.trans r1.2.2.1, RC_state hg hc h4.1 (CA_of h1.1 fun p a b => ?_) (fun p hp => ?_) (Sm_r hS4 (by omega)), Sm_le hS4 (by omega) (by omega)⟩
        · rw [Sm_i h4.2 (by omega), Sm_i (Sm_Y r3) (by omega), Sm_i q8 (by omega)]
        · rcases hp with hp | hp | hp
          · exact Sm_i hS4 (by omega)
          · rw [Sm_i h4.2 (by omega), Sm_i hS3 (by omega)]
          · exact Sm_i hS4 (by omega)
      · have mt' := m_isYard hm'.1.1.1.1 hv
        rw [if_pos hL] at mt'
        have m3' : M'.2.1 446 3 = i32 g.1.2.1.1 := hm'.1.1.1.2.2.2.1
        unfold f_Model_year
        rw [mt', bnd1]
        dsimp only
        rw [rd_3 (by omega) (by omega), Option.bind_some, m3', if_neg (by rw [show (999 : Int32) = i32 999 from rfl, i32_eq (by omega) (by omega)]; omega)]
        refine OK_bind (m_keepsAct hg.2.2.2.2.2.2.1 hm'.1.1 hm'.2.2.2.2.2.2.1) fun M1 h1 => ?_
        obtain ⟨k1, k2, k3, k4⟩ := h1
        have e446 : M1.2.1 446 = M'.2.1 446 := k2 446 (by omega) (by omega)
        have hr1 : RM (phi g.1.2.2.2.1 g.2.2.1.2) M1 := RM_of (RM_in hg hm') (k2 438 (by omega) (by omega)) (k2 440 (by omega) (by omega)) (k2 441 (by omega) (by omega)) (k4 21 (by omega))
        refine OK_bind (m_yearV hv hC hg.1.2.1 (by rw [e446]; exact hm'.1.1) ⟨by rw [e446]; exact hm'.1.2.1, (k4 26 (by omega)).trans hm'.2.2.2.1⟩ hr1) fun z hz => ?_
        obtain ⟨z1, z2, z3, z4⟩ := hz
        refine OK_some ⟨z1, RM_state hg hm' z2 (fun i hi => ?_) ⟨?_, ?_⟩ (fun i hi => ?_) (fun p hp => ?_), Sm_trans (Sm_le k3 (by omega) (by omega)) fun p hp => ⟨z4.2.1 p (by omega) (by omega) (by omega) (by omega), congrFun (congrArg Prod.fst z4.1) p⟩⟩
        · show z.2.2.1 446 i = _
          rw [z4.2.2.2.1 i (by omega), e446]
        · show z.2.2.1 436 30 = _
          rw [z4.2.2.1 30 (by omega) (by omega) (by omega) (by omega)]; exact k1.1
        · show ∀ j, j < _ → MSX _ _ fun i => z.2.2.1 449 (131 * j + i)
          rw [z4.2.1 449 (by omega) (by omega) (by omega) (by omega)]; exact k1.2
        · show z.2.2.1 436 i = _
          rw [z4.2.2.1 i (by omega) (by omega) (by omega) (by omega)]; exact k4 i (by omega)
        · show z.2.2.1 p = _
          rw [z4.2.1 p (by omega) (by omega) (by omega) (by omega)]; exact k2 p (by omega) (by omega)
    · have e9 : g.1.2.1.1 = 999 := by omega
      refine both_pure hi' ⟨-1, ?_, ?_⟩
      · unfold f_GraveRails_year
        rw [ct, bnd1]
        dsimp only
        rw [e0, e9]
        exact if_neg (by decide)
      · unfold f_Model_year
        rw [mt, bnd1]
        dsimp only
        rw [rd_3 (by omega) (by omega), Option.bind_some, m3, e9]
        exact if_pos rfl
  · rw [if_neg hL] at ct mt
    refine both_pure hi' ⟨-1, ?_, ?_⟩
    · unfold f_GraveRails_year
      rw [ct, bnd0]
    · unfold f_Model_year
      rw [mt, bnd0]
/-! ===== frost ===== -/
def frz (y : Yd) (n l : Nat) (b0 : Nat → B) : Nat → Nat → Nat → Nat → (Nat → B) → Nat × (Nat → B)
  | 0, _, _, near, b => (near, b)
  | k + 1, c, free, near, b => match grv n b0 l c with
    | none => frz y n l b0 k (c + 1) free near b
    | some g => if (b0 g).2.1 = 3 ∨ 0 < (b0 g).2.2.1 then frz y n l b0 k (c + 1) (c + 1) near b else if free < c then frz y n l b0 k (c + 1) (free + 1) (near + 1) (bup b g (comB (y_r y l free) l free 0 (b g))) else frz y n l b0 k (c + 1) (c + 1) near b
def FJ (L C n l c free : Nat) (b0 b : Nat → B) : Prop := free ≤ c ∧ (∀ g, g < n → ∀ c', c ≤ c' → ((b g).1 = some (l, c') ↔ (b0 g).1 = some (l, c'))) ∧ (∀ g, g < n → ∀ c', c ≤ c' → (b0 g).1 = some (l, c') → b g = b0 g) ∧ (∀ g, g < n → ∀ c', free ≤ c' → c' < c → (b g).1 ≠ some (l, c')) ∧ V L C n b
theorem FJ_grv {L C n l c free : Nat} {b0 b : Nat → B} (h : FJ L C n l c free b0 b) : grv n b l c = grv n b0 l c := by
  obtain ⟨h1, h2, h3, h4, h5⟩ := h
  cases q : grv n b0 l c with
  | none =>
    cases q' : grv n b l c with
    | none => rfl
    | some g =>
      obtain ⟨q1, q2⟩ := grv_some q'
      exact absurd ((h2 g q1 c (Nat.le_refl _)).mp q2) (grv_none q q1)
  | some g =>
    obtain ⟨q1, q2⟩ := grv_some q
    exact grv_of h5 q1 ((h2 g q1 c (Nat.le_refl _)).mpr q2)
theorem FJ_none {L C n l c free : Nat} {b0 b : Nat → B} (h : FJ L C n l c free b0 b) (hq : grv n b0 l c = none) : FJ L C n l (c + 1) free b0 b := by
  have hq' := FJ_grv h
  obtain ⟨h1, h2, h3, h4, h5⟩ := h
  refine ⟨by omega, fun g hg c' hc' => h2 g hg c' (by omega), fun g hg c' hc' => h3 g hg c' (by omega), fun g hg c' a1 a2 => ?_, h5⟩
  by_cases q : c' = c
  · rw [q]
    exact grv_none (hq'.trans hq) hg
  · exact h4 g hg c' a1 (by omega)
theorem FJ_stay {L C n l c free : Nat} {b0 b : Nat → B} (h : FJ L C n l c free b0 b) : FJ L C n l (c + 1) (c + 1) b0 b := by
  obtain ⟨h1, h2, h3, h4, h5⟩ := h
  exact ⟨Nat.le_refl _, fun g hg c' hc' => h2 g hg c' (by omega), fun g hg c' hc' => h3 g hg c' (by omega), fun g hg c' a1 a2 => by omega, h5⟩
theorem FJ_go {y : Yd} {n l c free : Nat} {b0 b : Nat → B} (h : FJ (y_L y) (y_C y) n l c free b0 b) (hv : VY y) (hl : l < y_L y) (hc : c < y_C y) {g : Nat} (hq : grv n b0 l c = some g) (hk : ¬ (b0 g).2.1 = 3) (hf : free < c) : FJ (y_L y) (y_C y) n l (c + 1) (free + 1) b0 (bup b g (comB (y_r y l free) l free 0 (b g))) := by
  obtain ⟨q1, q2⟩ := grv_some hq
  obtain ⟨h1, h2, h3, h4, h5⟩ := h
  have eg := h3 g q1 c (Nat.le_refl _) q2
  refine ⟨by omega, fun i hi c' hc' => ?_, fun i hi c' hc' hp => ?_, fun i hi c' a1 a2 => ?_, ?_⟩
  · by_cases q : i = g
    · subst q
      rw [bup_e]
      refine ⟨fun z => ?_, fun z => ?_⟩
      · have : free = c' := congrArg Prod.snd (Option.some.inj z)
        omega
      · rw [q2] at z
        have : c = c' := congrArg Prod.snd (Option.some.inj z)
        omega
    · rw [bup_o q]
      exact h2 i hi c' (by omega)
  · by_cases q : i = g
    · subst q
      rw [q2] at hp
      have : c = c' := congrArg Prod.snd (Option.some.inj hp)
      omega
    · rw [bup_o q]
      exact h3 i hi c' (by omega) hp
  · by_cases q : i = g
    · subst q
      rw [bup_e]
      intro z
      have : free = c' := congrArg Prod.snd (Option.some.inj z)
      omega
    · rw [bup_o q]
      by_cases q' : c' = c
      · rw [q']
        intro z
        exact q (h5.2.2.2.2 i g _ hi q1 z (by rw [eg]; exact q2))
      · exact h4 i hi c' (by omega) (by omega)
  · refine V_come h5 rfl hl (by omega) ?_ (hv.2.2.2.2.2.2.1 l free) (fun z => absurd z ?_) fun i hi _ => h4 i hi free (Nat.le_refl _) hf
    · exact (h5.2.2.2.1 g q1).2.1
    · show ¬ (b g).2.1 = 3
      rw [eg]; exact hk
theorem VF_com {n : Nat} {b : Nat → B} (h : VF n b) {g l c hh : Nat} {x : Int32} (hb : (b g).1 ≠ none) : VF n (bup b g (comB hh l c x (b g))) := by
  intro i hi
  by_cases q : i = g
  · subst q
    rw [bup_e]
    exact ⟨fun z => absurd z (Option.some_ne_none _), fun _ => (h i hi).2 hb⟩
  · rw [bup_o q]
    exact h i hi
