/-! ===== the sets found ===== -/
theorem fndF_len (y : Yd) (φ : Option (List Int64 → Nat)) (q : Nat × (Nat → Nat × Nat × Nat)) : ∀ (k i : Nat), (fndF y φ q k i).length ≤ k
  | 0, i => Nat.le_refl _
  | k + 1, i => by
    have := fndF_len y φ q k (i + 1)
    rw [fndF]
    split
    · rw [List.length_cons]; omega
    · omega
theorem fndF_lt (y : Yd) (φ : Option (List Int64 → Nat)) (q : Nat × (Nat → Nat × Nat × Nat)) : ∀ (k i x : Nat), x ∈ fndF y φ q k i → x < i + k
  | 0, i, x, h => by cases h
  | k + 1, i, x, h => by
    rw [fndF] at h
    split at h
    · rcases List.mem_cons.mp h with h | h
      · omega
      · have := fndF_lt y φ q k (i + 1) x h
        omega
    · have := fndF_lt y φ q k (i + 1) x h
      omega
/-- the sets' row as it is found -/
def FdR (p f : Nat) (F : List Nat) (M : mM) : Prop := ∀ k, k < F.length → M.2.1 p k = i32 (F.getD k 0)
theorem FdR_add {p i : Nat} {F : List Nat} {M M' : mM} (h : FdR p 0 F M) (e1 : ∀ k, k < F.length → M'.2.1 p k = M.2.1 p k) (e2 : M'.2.1 p F.length = i32 i) : FdR p 0 (F ++ [i]) M' := by
  intro k hk
  rw [List.length_append, List.length_singleton] at hk
  by_cases c : k < F.length
  · rw [e1 k c, h k c, List.getD_eq_getElem?_getD, List.getD_eq_getElem?_getD, List.getElem?_append_left c]
  · have : k = F.length := by omega
    subst this
    rw [e2, List.getD_eq_getElem?_getD, List.getElem?_concat_length, Option.getD_some]
/-- what finding sets leaves -/
def FrFd (M M' : mM) : Prop := (∀ p, p < 246 ∨ 271 ≤ p ∧ p < 280 ∨ 290 ≤ p → M'.2.1 p = M.2.1 p) ∧ (∀ i, i ≠ 1 → M'.2.1 269 i = M.2.1 269 i) ∧ (∀ p, p < 246 ∨ 269 ≤ p → p < 280 ∨ 290 ≤ p → M'.2.2.2 p = M.2.2.2 p)
theorem FrFd_refl (M : mM) : FrFd M M := ⟨fun _ _ => rfl, fun _ _ => rfl, fun _ _ _ => rfl⟩
theorem FrFd_trans {M M' M'' : mM} (h : FrFd M M') (h' : FrFd M' M'') : FrFd M M'' := ⟨fun p hp => (h'.1 p hp).trans (h.1 p hp), fun i hi => (h'.2.1 i hi).trans (h.2.1 i hi), fun p a b => (h'.2.2 p a b).trans (h.2.2 p a b)⟩
theorem FrFd_St {M M' : mM} (h : FrSt M M') : FrFd M M' := ⟨fun p hp => (h p (by omega)).1, fun i _ => by rw [(h 269 (by omega)).1], fun p a b => (h p (by omega)).2⟩
theorem c_find37 {y : Yd} {ru : Option Nat} {φ : Option (List Int64 → Nat)} {q : Nat × (Nat → Nat × Nat × Nat)} {x2 : Option Nat} {M0 : mM} (hv : VY y) (hY : CY 21 y M0) (hr8 : M0.2.2.2 269 8 = some 21) (hr9 : M0.2.2.2 269 9 = ru) (h6 : M0.2.1 269 6 = opn y) (hRL : RL ru φ M0) (hG : CG 39 q M0) (hq : q.1 ≤ 10) (hg : ∀ k, k < q.1 → (q.2 k).1 < y_m y ∧ (q.2 k).2.1 < 20 ∧ (q.2 k).2.2 ≤ 99) : ∀ (k i f : Nat) (F : List Nat) (M : mM), i + k = 1024 → k < f → F.length ≤ i → M.2.1 269 1 = i32 F.length → FdR 270 0 F M → FrFd M0 M → OK (f_Sets_find_37 20 x2 f (i32 i) M) fun M' => M'.2.1 269 0 = 1 ∧ M'.2.1 269 2 = -1 ∧ M'.2.1 269 1 = i32 (F ++ fndF y φ q k i).length ∧ FdR 270 0 (F ++ fndF y φ q k i) M' ∧ (∀ j, j ≠ 0 → j ≠ 1 → j ≠ 2 → M'.2.1 269 j = M0.2.1 269 j) ∧ (∀ p, p < 246 ∨ 271 ≤ p ∧ p < 280 ∨ 290 ≤ p → M'.2.1 p = M0.2.1 p) ∧ ∀ p, p < 246 ∨ 269 ≤ p → p < 280 ∨ 290 ≤ p → M'.2.2.2 p = M0.2.2.2 p
  | _, _, 0, _, _, _, hf, _, _, _, _ => absurd hf (Nat.not_lt_zero _)
  | 0, i, f + 1, F, M, hi, hf, hl, h1, hR, hF => by
    unfold f_Sets_find_37
    rw [if_pos (by rw [show (1024 : Int32) = i32 1024 from rfl, i32_le (by omega) (by omega)]; omega)]
    simp only [pI_s, pZ_1, Option.bind_some]
    rw [show F ++ fndF y φ q 0 i = F from List.append_nil F]
    refine OK_some ⟨gIe _ _ _ _, ?_, ?_, fun j hj => ?_, fun j j0 j1 j2 => ?_, fun p hp => ?_, fun p a b => ?_⟩
    · rw [gIo (by omega), gIe]
    · rw [gIo (by omega), gIo (by omega)]; exact h1
    · rw [gIp (by omega), gIp (by omega)]; exact hR j hj
    · rw [gIo j0, gIo j2]; exact hF.2.1 j j1
    · rw [gIp (by omega), gIp (by omega)]; exact hF.1 p hp
    · exact hF.2.2 p a b
  | k + 1, i, f + 1, F, M, hi, hf, hl, h1, hR, hF => by
    have e6 : M.2.1 269 6 = opn y := (hF.2.1 6 (by omega)).trans h6
    unfold f_Sets_find_37 f_Sets_find_104
    rw [if_neg (by rw [show (1024 : Int32) = i32 1024 from rfl, i32_le (by omega) (by omega)]; omega), e6, fndF]
    simp only [nadd_1]
    by_cases c : (i32 i &&& (opn y ^^^ -1)) = 0
    · rw [if_pos c]
      have hY' : CY 21 y M := CY_of hY fun j hj => hF.1 _ (by omega)
      refine OK_bind (c_isSeen (s := i32 i) (φ := φ) (ru := ru) hv hY' (by rw [hF.2.2 269 (by omega) (by omega)]; exact hr8) (by rw [hF.2.2 269 (by omega) (by omega)]; exact hr9) e6 (RL_of hRL fun p a b => hF.1 p (by omega)) (CG_of hG fun j hj => hF.1 _ (by omega)) hq hg) fun z hz => ?_
      obtain ⟨z1, z2⟩ := hz
      have e1 : z.2.2.1 269 1 = i32 F.length := by rw [(z2 269 (by omega)).1]; exact h1
      have hR' : FdR 270 0 F z.2 := fun j hj => by rw [(z2 270 (by omega)).1]; exact hR j hj
      rw [z1]
      cases hs : sen y φ q (i32 i) with
      | false =>
        rw [if_pos e01_f, if_neg (fun w => absurd w.2 (by decide))]
        exact c_find37 hv hY hr8 hr9 h6 hRL hG hq hg k (i + 1) f F z.2 (by omega) (by omega) (by omega) e1 hR' (FrFd_trans hF (FrFd_St z2))
      | true =>
        rw [if_neg (show ¬ e01 true = 0 by decide), e1, if_neg (by rw [show (1024 : Int32) = i32 1024 from rfl, i32_le (by omega) (by omega)]; omega), wr_i32 (by omega) (by omega), Option.bind_some, pI_s, Option.bind_some, gIp (by omega), e1, nadd_1, if_pos ⟨c, rfl⟩]
        have hF2 : FrFd M0 (msI (msI z.2 270 F.length (i32 i)) 269 1 (i32 (F.length + 1))) := FrFd_trans (FrFd_trans hF (FrFd_St z2)) ⟨fun p hp => by rw [gIp (by omega), gIp (by omega)], fun j hj => by rw [gIo hj, gIp (by omega)], fun p _ _ => rfl⟩
        have key := c_find37 (x2 := x2) hv hY hr8 hr9 h6 hRL hG hq hg k (i + 1) f (F ++ [i]) (msI (msI z.2 270 F.length (i32 i)) 269 1 (i32 (F.length + 1))) (by omega) (by omega) (by rw [List.length_append, List.length_singleton]; omega) (by rw [gIe, List.length_append, List.length_singleton]) (FdR_add hR' (fun j hj => by rw [gIp (by omega), gIo (by omega)]) (by rw [gIp (by omega), gIe])) hF2
        rw [List.append_assoc, List.singleton_append] at key
        exact key
    · rw [if_neg c, if_neg (fun w => c w.1)]
      exact c_find37 hv hY hr8 hr9 h6 hRL hG hq hg k (i + 1) f F M (by omega) (by omega) (by omega) h1 hR hF
/-- the sets are found, or were -/
theorem c_find {g : Gx} {M : mM} (hg : VG g) (hc : RC g M) (hL : 0 < y_L g.1.1) : OK (f_Sets_find 20 (ruf g.1.2.2.2.1) M) fun M' => RC g M' ∧ M'.2.1 269 0 = 1 ∧ CK g.1 g.2.2.1.2 M' ∧ Sm 0 436 M M' := by
  have hv := hg.1.1
  have hq := hg.1.2.2.1
  have v2 := hv.2.1
  unfold f_Sets_find
  rcases hc.2.2.2.2.2.2 with h0 | ⟨h0, hk⟩
  · rw [h0, if_pos rfl]
    simp only [pR_s, Option.bind_some]
    have hY2 : CY 21 g.1.1 (msR (msR M 269 8 (some (20 + 1))) 269 9 (ruf g.1.2.2.2.1)) := CY_of hc.1.1 fun k hk => rfl
    have r8 : (msR (msR M 269 8 (some (20 + 1))) 269 9 (ruf g.1.2.2.2.1)).2.2.2 269 8 = some 21 := by rw [gRo (by omega), gRe]
    have r9 : (msR (msR M 269 8 (some (20 + 1))) 269 9 (ruf g.1.2.2.2.1)).2.2.2 269 9 = ruf g.1.2.2.2.1 := gRe _ _ _ _
    refine OK_bind (c_takeOpen hv hY2 r8) fun M1 h1 => ?_
    obtain ⟨o1, o2, o3, o4⟩ := h1
    rw [pI_s, Option.bind_some]
    have ep : ∀ p, p ≠ 269 → (msI M1 269 1 0).2.1 p = M.2.1 p := fun p hp => by rw [gIp hp, Sm_i o2 (by omega)]; rfl
    have er : ∀ p, (msI M1 269 1 0).2.2.2 p = (msR (msR M 269 8 (some (20 + 1))) 269 9 (ruf g.1.2.2.2.1)).2.2.2 p := fun p => by
      show M1.2.2.2 p = _
      rw [o3]
    refine OK_imp (c_find37 (M0 := msI M1 269 1 0) (x2 := ruf g.1.2.2.2.1) hv (CY_of hc.1.1 fun k hk => ep _ (by omega)) (by rw [er]; exact r8) (by rw [er]; exact r9) (by rw [gIo (by omega)]; exact o1) (RL_of (RL_in hg hc.2.2.1) fun p a b => ep p (by omega)) (CG_of hc.1.2.2.1 fun k hk => ep _ (by omega)) hq (fun k hk => by have := hg.1.2.2.2.1 k hk; omega) 1024 0 FUEL [] _ (Nat.zero_add _) (by rw [FUEL_eq]; omega) (Nat.le_refl _) (gIe _ _ _ _) (fun k hk => absurd hk (Nat.not_lt_zero _)) (FrFd_refl _)) fun M' h' => ?_
    obtain ⟨a0, a2, a1, aR, aj, ap, ar⟩ := h'
    rw [List.nil_append] at a1 aR
    have hK : CK g.1 g.2.2.1.2 M' := by
      refine ⟨?_, ?_, ?_, a1, aR, Or.inl a2⟩
      · rw [ar 269 (by omega) (by omega), er]; exact r8
      · rw [ar 269 (by omega) (by omega), er]; exact r9
      · rw [aj 6 (by omega) (by omega) (by omega), gIo (by omega)]; exact o1
    have ep' : ∀ p, p < 246 ∨ 290 ≤ p → M'.2.1 p = M.2.1 p := fun p hp => by rw [ap p (by omega), ep p (by omega)]
    obtain ⟨c1, c2, c3, c4, c5, c6, c7⟩ := hc
    have := hg.2.2.2.2.1
    refine ⟨⟨CW_of c1 fun k hk => ep' _ (by omega), CP_of c2 (by rw [ep' 1 (by omega)]) (ep' 2 (by omega)), CU_of c3 (ep' 0 (by omega)) fun p a b => ep' p (by omega), CA_of c4 fun p a b => ep' p (by omega), fun k hk => CI_of (c5 k hk) fun j hj => ep' _ (by omega), CE_of c6 fun p hp => ep' p (by omega), Or.inr ⟨a0, hK⟩⟩, a0, hK, fun p hp => ⟨ep' p (by omega), ?_⟩⟩
    rw [ar p (by omega) (by omega), er, gRp (by omega), gRp (by omega)]
  · rw [h0, if_neg (by decide)]
    exact OK_some ⟨hc, h0, hk, Sm_refl _ _ _⟩
