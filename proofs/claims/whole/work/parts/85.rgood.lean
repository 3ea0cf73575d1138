/-! ===== what is read of a rule is well formed ===== -/
theorem sgT_k {t : Tp} {p s : Nat} (h : sgT t p = some s) : s < 12 ∧ knd t (skp t p) = 3 ∧ p < nxp t p ∧ nxp t p ≤ t.1 := by
  unfold sgT at h
  split at h
  · rename_i a; cases h; exact ⟨by omega, sgn_3 a, sgn_gt a⟩
  · split at h
    · rename_i a; cases h; exact ⟨by omega, sgn_3 a, sgn_gt a⟩
    · split at h
      · rename_i a; cases h; exact ⟨by omega, sgn_3 a, sgn_gt a⟩
      · cases h
theorem sgS_k {t : Tp} {p s : Nat} (h : sgS t p = some s) : s < 12 ∧ knd t (skp t p) = 3 ∧ p < nxp t p ∧ nxp t p ≤ t.1 := by
  unfold sgS at h
  split at h
  · rename_i a; cases h; exact ⟨by omega, sgn_3 a, sgn_gt a⟩
  · split at h
    · rename_i a; cases h; exact ⟨by omega, sgn_3 a, sgn_gt a⟩
    · cases h
theorem sgC_k {t : Tp} {p s : Nat} (h : sgC t p = some s) : 5 ≤ s ∧ s ≤ 9 ∧ knd t (skp t p) = 3 ∧ p < nxp t p ∧ nxp t p ≤ t.1 := by
  unfold sgC at h
  split at h
  · rename_i a; cases h; exact ⟨by omega, by omega, sgn_3 a, sgn_gt a⟩
  · split at h
    · rename_i a; cases h; exact ⟨by omega, by omega, sgn_3 a, sgn_gt a⟩
    · split at h
      · rename_i a; cases h; exact ⟨by omega, by omega, sgn_3 a, sgn_gt a⟩
      · split at h
        · rename_i a; cases h; exact ⟨by omega, by omega, sgn_3 a, sgn_gt a⟩
        · split at h
          · rename_i a; cases h; exact ⟨by omega, by omega, sgn_3 a, sgn_gt a⟩
          · cases h
theorem isw_2 {t : Tp} {b p : Nat} (hb : b < 8) (h : ¬ isw t b p = -1) : knd t (skp t p) = 2 := by
  refine Classical.byContradiction fun z => h ?_
  exact idx_no (knd_wd z) (wl b) 0 fun w hw => ((wl_ok b hb).2 w hw).1
theorem isw_gt {t : Tp} {b p : Nat} (hb : b < 8) (h : ¬ isw t b p = -1) : p < nxp t p ∧ nxp t p ≤ t.1 := nxp_gt (by rw [isw_2 hb h]; decide)
theorem sVal_ok {t : Tp} {p m : Nat} {r : Oq × Nat × Nat} (h : sVal t p m = .ok r) : Pu [r.1] ∧ r.1.1 ≤ 1 ∧ p < r.2.1 ∧ r.2.1 ≤ t.1 ∧ r.2.2 = m + 1 ∧ m < 60 := by
  unfold sVal at h
  by_cases c : knd t (skp t p) = 1
  · rw [if_pos c] at h
    obtain ⟨v, e1, h⟩ := ebd_ok h
    by_cases d : 60 ≤ m
    · rw [if_pos d] at h; cases h
    · rw [if_neg d] at h
      have hv := nmr_ok e1
      have := Except.ok.inj h
      subst this
      have hn := nxp_gt (t := t) (p := p) (by rw [c]; decide)
      exact ⟨Pu_0 hv.2, by show (0 : Nat) ≤ 1; omega, hn.1, hn.2, rfl, by omega⟩
  · rw [if_neg c] at h
    by_cases w : isw t 3 p = -1
    · rw [if_pos w] at h; cases h
    · rw [if_neg w] at h
      by_cases d : 60 ≤ m
      · rw [if_pos d] at h; cases h
      · rw [if_neg d] at h
        have := Except.ok.inj h
        subst this
        obtain ⟨k, hk, ek⟩ := isw_k w
        have hk : k < 12 := hk
        have hn := isw_gt (by omega) w
        refine ⟨?_, by show (1 : Nat) ≤ 1; omega, hn.1, hn.2, rfl, by omega⟩
        show Pu [(1, (isw t 3 p).toNatClampNeg)]
        rw [ek, i32_cl (by omega)]
        exact Pu_1 hk
theorem Gd_v {t : Tp} {b c p m : Nat} {v : Oq} {p' m' : Nat} (h : Pu [v] ∧ v.1 ≤ 1 ∧ p < p' ∧ p' ≤ t.1 ∧ m' = m + 1 ∧ m < 60) (hb : b ≤ p) (hc : c ≤ m) : Gd t b c [v] p' m' := by
  obtain ⟨h1, h2, h3, h4, h5, h6⟩ := h
  have e : nv [v] = 1 := by unfold nv; rw [if_pos h2]; rfl
  exact ⟨h1, by show b + 1 ≤ p'; omega, by rw [e]; omega, by omega, h4⟩
/-- one more, joined by a sign -/
theorem Gd_2 {t : Tp} {b c : Nat} {e y : List Oq} {p m p' m' s : Nat} (h1 : Gd t b c e p m) (h2 : Gd t (b + e.length + 1) (c + nv e) y p' m') (hs : s < 12) : Gd t b c (e ++ y ++ [(2, s)]) p' m' := by
  obtain ⟨a1, a2, a3, a4, a5⟩ := h1
  obtain ⟨b1, b2, b3, b4, b5⟩ := h2
  refine ⟨Pu_2 a1 b1 hs, ?_, ?_, b4, b5⟩
  · rw [List.length_append, List.length_append]
    show b + (e.length + y.length + 1) ≤ p'
    omega
  · rw [nv_app, nv_app]
    show c + (nv e + nv y + 0) ≤ m'
    omega
theorem Gd_3 {t : Tp} {b c : Nat} {e : List Oq} {p m : Nat} (h : Gd t (b + 1) c e p m) : Gd t b c (e ++ [(3, 0)]) p m := by
  obtain ⟨a1, a2, a3, a4, a5⟩ := h
  refine ⟨Pu_3 a1, ?_, ?_, a4, a5⟩
  · rw [List.length_append]
    show b + (e.length + 1) ≤ p
    omega
  · rw [nv_app]
    show c + (nv e + 0) ≤ m
    omega
theorem sTerm_ok {t : Tp} {b c : Nat} : ∀ (k p m : Nat) (e : List Oq) (r : List Oq × Nat × Nat), Gd t b c e p m → sTerm t k p m e = .ok r → Gd t b c r.1 r.2.1 r.2.2 ∧ p ≤ r.2.1
  | 0, p, m, e, r, hg, h => by
    have := Except.ok.inj h
    subst this
    exact ⟨hg, Nat.le_refl _⟩
  | k + 1, p, m, e, r, hg, h => by
    rw [sTerm] at h
    cases es : sgT t p with
    | none =>
      rw [es, obd_n] at h
      have := Except.ok.inj h
      subst this
      exact ⟨hg, Nat.le_refl _⟩
    | some s =>
      rw [es, obd_s] at h
      obtain ⟨v, ev, h⟩ := ebd_ok h
      have hk := sgT_k es
      have hv := sVal_ok ev
      obtain ⟨a1, a2, a3, a4, a5⟩ := id hg
      have h2 := sTerm_ok k _ _ _ r (Gd_2 hg (Gd_v (b := b + e.length + 1) (c := c + nv e) hv (by omega) (by omega)) hk.1) h
      exact ⟨h2.1, by have := h2.2; omega⟩
theorem sSumL_ok {t : Tp} {b c : Nat} : ∀ (k p m : Nat) (e : List Oq) (r : List Oq × Nat × Nat), Gd t b c e p m → sSumL t k p m e = .ok r → Gd t b c r.1 r.2.1 r.2.2 ∧ p ≤ r.2.1
  | 0, p, m, e, r, hg, h => by
    have := Except.ok.inj h
    subst this
    exact ⟨hg, Nat.le_refl _⟩
  | k + 1, p, m, e, r, hg, h => by
    rw [sSumL] at h
    cases es : sgS t p with
    | none =>
      rw [es, obd_n] at h
      have := Except.ok.inj h
      subst this
      exact ⟨hg, Nat.le_refl _⟩
    | some s =>
      rw [es, obd_s] at h
      obtain ⟨v, ev, h⟩ := ebd_ok h
      obtain ⟨y, ey, h⟩ := ebd_ok h
      have hk := sgS_k es
      have hv := sVal_ok ev
      obtain ⟨a1, a2, a3, a4, a5⟩ := id hg
      have hy := sTerm_ok 401 _ _ _ y (Gd_v (b := b + e.length + 1) (c := c + nv e) hv (by omega) (by omega)) ey
      have h2 := sSumL_ok k _ _ _ r (Gd_2 hg hy.1 hk.1) h
      exact ⟨h2.1, by have := h2.2; have := hy.2; omega⟩
theorem sSum_ok {t : Tp} {b c p m : Nat} {r : List Oq × Nat × Nat} (hb : b ≤ p) (hc : c ≤ m) (h : sSum t p m = .ok r) : Gd t b c r.1 r.2.1 r.2.2 ∧ p < r.2.1 := by
  unfold sSum at h
  obtain ⟨v, ev, h⟩ := ebd_ok h
  obtain ⟨y, ey, h⟩ := ebd_ok h
  have hv := sVal_ok ev
  have hy := sTerm_ok 401 _ _ _ y (Gd_v (b := b) (c := c) hv hb hc) ey
  have h2 := sSumL_ok 401 _ _ _ r hy.1 h
  exact ⟨h2.1, by have := h2.2; have := hy.2; omega⟩
theorem sCmp_ok {t : Tp} {b c p m : Nat} {r : List Oq × Nat × Nat} (hb : b ≤ p) (hc : c ≤ m) (h : sCmp t p m = .ok r) : Gd t b c r.1 r.2.1 r.2.2 ∧ p < r.2.1 ∧ Tr r.1 := by
  unfold sCmp at h
  obtain ⟨a, ea, h⟩ := ebd_ok h
  have ha := sSum_ok hb hc ea
  cases es : sgC t a.2.1 with
  | none => rw [es, obd_n] at h; cases h
  | some s =>
    rw [es, obd_s] at h
    by_cases d : 60 ≤ a.2.2
    · rw [if_pos d] at h; cases h
    · rw [if_neg d] at h
      obtain ⟨y, ey, h⟩ := ebd_ok h
      have hk := sgC_k es
      obtain ⟨a1, a2, a3, a4, a5⟩ := id ha.1
      have hy := sSum_ok (b := b + a.1.length + 1) (c := c + nv a.1) (by omega) (by omega) ey
      have := Except.ok.inj h
      subst this
      exact ⟨Gd_2 ha.1 hy.1 (by omega), by show p < y.2.1; omega, Tr_c a1 hy.1.1 hk.1 hk.2.1⟩
def FcOK (t : Tp) (fc : Nat → Nat → Rs) : Prop := ∀ b c p m r, b ≤ p → c ≤ m → fc p m = .ok r → Gd t b c r.1 r.2.1 r.2.2 ∧ p < r.2.1 ∧ Tr r.1
theorem sAnd_ok {t : Tp} {fc : Nat → Nat → Rs} (hf : FcOK t fc) {b c : Nat} : ∀ (k p m : Nat) (e : List Oq) (r : List Oq × Nat × Nat), Gd t b c e p m → Tr e → sAnd t fc k p m e = .ok r → Gd t b c r.1 r.2.1 r.2.2 ∧ p ≤ r.2.1 ∧ Tr r.1
  | 0, p, m, e, r, hg, ht, h => by
    have := Except.ok.inj h
    subst this
    exact ⟨hg, Nat.le_refl _, ht⟩
  | k + 1, p, m, e, r, hg, ht, h => by
    rw [sAnd] at h
    by_cases w : isw t 6 p = -1
    · rw [if_pos w] at h
      have := Except.ok.inj h
      subst this
      exact ⟨hg, Nat.le_refl _, ht⟩
    · rw [if_neg w] at h
      obtain ⟨z, ez, h⟩ := ebd_ok h
      have hn := isw_gt (by omega) w
      obtain ⟨a1, a2, a3, a4, a5⟩ := id hg
      have hz := hf (b + e.length + 1) (c + nv e) _ _ z (by omega) (by omega) ez
      have h2 := sAnd_ok hf k _ _ _ r (Gd_2 hg hz.1 (by omega)) (Tr_j a1 hz.1.1 ht hz.2.2 (Or.inl rfl)) h
      exact ⟨h2.1, by have := h2.2.1; omega, h2.2.2⟩
theorem sOr_ok {t : Tp} {fc : Nat → Nat → Rs} (hf : FcOK t fc) {b c : Nat} : ∀ (k p m : Nat) (e : List Oq) (r : List Oq × Nat × Nat), Gd t b c e p m → Tr e → sOr t fc k p m e = .ok r → Gd t b c r.1 r.2.1 r.2.2 ∧ p ≤ r.2.1 ∧ Tr r.1
  | 0, p, m, e, r, hg, ht, h => by
    have := Except.ok.inj h
    subst this
    exact ⟨hg, Nat.le_refl _, ht⟩
  | k + 1, p, m, e, r, hg, ht, h => by
    rw [sOr] at h
    by_cases w : isw t 7 p = -1
    · rw [if_pos w] at h
      have := Except.ok.inj h
      subst this
      exact ⟨hg, Nat.le_refl _, ht⟩
    · rw [if_neg w] at h
      obtain ⟨z, ez, h⟩ := ebd_ok h
      obtain ⟨y, ey, h⟩ := ebd_ok h
      have hn := isw_gt (by omega) w
      obtain ⟨a1, a2, a3, a4, a5⟩ := id hg
      have hz := hf (b + e.length + 1) (c + nv e) _ _ z (by omega) (by omega) ez
      have hy := sAnd_ok hf 401 _ _ _ y hz.1 hz.2.2 ey
      have h2 := sOr_ok hf k _ _ _ r (Gd_2 hg hy.1 (by omega)) (Tr_j a1 hy.1.1 ht hy.2.2 (Or.inr rfl)) h
      exact ⟨h2.1, by have := h2.2.1; have := hy.2.1; omega, h2.2.2⟩
theorem sTst_ok {t : Tp} {fc : Nat → Nat → Rs} (hf : FcOK t fc) {b c p m : Nat} {r : List Oq × Nat × Nat} (hb : b ≤ p) (hc : c ≤ m) (h : sTst t fc p m = .ok r) : Gd t b c r.1 r.2.1 r.2.2 ∧ p < r.2.1 ∧ Tr r.1 := by
  unfold sTst at h
  obtain ⟨z, ez, h⟩ := ebd_ok h
  obtain ⟨y, ey, h⟩ := ebd_ok h
  have hz := hf b c _ _ z hb hc ez
  have hy := sAnd_ok hf 401 _ _ _ y hz.1 hz.2.2 ey
  have h2 := sOr_ok hf 401 _ _ _ r hy.1 hy.2.2 h
  exact ⟨h2.1, by have := h2.2.1; have := hy.2.1; omega, h2.2.2⟩
theorem sFct_ok {t : Tp} : ∀ (n d : Nat), FcOK t (sFct t n d)
  | 0, d => fun b c p m r _ _ h => by cases h
  | n + 1, d => fun b c p m r hb hc h => by
    rw [sFct] at h
    by_cases w : isw t 5 p = -1
    · rw [if_neg (fun z => z w)] at h
      by_cases s : sgn t p 91 = true
      · rw [if_pos s] at h
        by_cases d10 : 10 ≤ d
        · rw [if_pos d10] at h; cases h
        · rw [if_neg d10] at h
          obtain ⟨z, ez, h⟩ := ebd_ok h
          have hn := sgn_gt s
          have hz := sTst_ok (sFct_ok n (d + 1)) (b := b) (c := c) (by omega) hc ez
          by_cases g : sgn t z.2.1 93 = true
          · rw [if_pos g] at h
            have := Except.ok.inj h
            subst this
            have hg := sgn_gt g
            obtain ⟨⟨a1, a2, a3, a4, a5⟩, a6, a7⟩ := hz
            exact ⟨⟨a1, by show b + z.1.length ≤ nxp t z.2.1; omega, a3, a4, hg.2⟩, by show p < nxp t z.2.1; omega, a7⟩
          · rw [if_neg g] at h; cases h
      · rw [if_neg s] at h
        exact sCmp_ok hb hc h
    · rw [if_pos w] at h
      by_cases d10 : 10 ≤ d
      · rw [if_pos d10] at h; cases h
      · rw [if_neg d10] at h
        obtain ⟨z, ez, h⟩ := ebd_ok h
        have hn := isw_gt (by omega) w
        have hz := sFct_ok n (d + 1) (b + 1) c _ _ z (by omega) hc ez
        have := Except.ok.inj h
        subst this
        exact ⟨Gd_3 hz.1, by show p < z.2.1; omega, Tr_n hz.1.1 hz.2.2⟩
def zl (z : Option (List Oq)) : List Oq := match z with
  | none => []
  | some c => c
/-- a clause well formed -/
def Cw (k : Cl) : Prop := Pu k.1 ∧ nv k.1 ≤ 60 ∧ ∀ z, k.2 = some z → Pu z ∧ Tr z ∧ nv z ≤ 60
theorem sCls_ok {t : Tp} {b p m : Nat} {r : Cl × Nat × Nat} (hb : b ≤ p) (h : sCls t p m = .ok r) : Cw r.1 ∧ b + r.1.1.length + (zl r.1.2).length ≤ r.2.1 ∧ r.2.1 ≤ t.1 ∧ r.2.2 ≤ 60 ∧ p < r.2.1 := by
  unfold sCls at h
  obtain ⟨s, es, h⟩ := ebd_ok h
  have hs := sSum_ok (c := 0) hb (Nat.zero_le _) es
  obtain ⟨⟨a1, a2, a3, a4, a5⟩, a6⟩ := id hs
  by_cases w : isw t 4 s.2.1 = -1
  · rw [if_pos w] at h
    have := Except.ok.inj h
    subst this
    exact ⟨⟨a1, by show nv s.1 ≤ 60; omega, fun z e => by cases e⟩, a2, a5, a4, a6⟩
  · rw [if_neg w] at h
    obtain ⟨z, ez, h⟩ := ebd_ok h
    have := Except.ok.inj h
    subst this
    have hn := isw_gt (by omega) w
    have hz := sTst_ok (sFct_ok 11 0) (b := b + s.1.length) (c := 0) (by omega) (Nat.zero_le _) ez
    obtain ⟨⟨b1, b2, b3, b4, b5⟩, b6, b7⟩ := id hz
    refine ⟨⟨a1, by show nv s.1 ≤ 60; omega, fun y e => ?_⟩, b2, b5, b4, by show p < z.2.1; omega⟩
    have e' : some z.1 = some y := e
    cases e'
    exact ⟨b1, b7, by omega⟩
