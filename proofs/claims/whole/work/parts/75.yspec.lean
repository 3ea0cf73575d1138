/-! ===== a yard's text, as data ===== -/
def ebd {α β : Type} (x : Except Nat α) (f : α → Except Nat β) : Except Nat β := match x with
  | .error w => .error w
  | .ok a => f a
theorem ebd_e {α β : Type} (w : Nat) (f : α → Except Nat β) : ebd (.error w) f = .error w := rfl
theorem ebd_o {α β : Type} (a : α) (f : α → Except Nat β) : ebd (.ok a) f = f a := rfl
abbrev YS : Type := Yd × (Nat → Nat × Nat × Nat)
def yNil : Yd := (0, 0, 0, fun _ => (0, 0, 0), fun _ => none, fun _ => false, fun _ _ => 0, 0, fun _ => 0, 0)
def ySz (y : Yd) (L C : Nat) : Yd := (L, C, y_m y, y_t y, y_p y, y_h y, y_r y, y_nf y, y_fy y, y_nr y)
def yGr (y : Yd) (l c k : Nat) : Yd := (y_L y, y_C y, y_m y + 1, bup (y_t y) (y_m y) (l, c, k), y_p y, y_h y, y_r y, y_nf y, y_fy y, y_nr y)
def yPr (y : Yd) (a b : Nat) : Yd := (y_L y, y_C y, y_m y, y_t y, bup (bup (y_p y) a (some b)) b (some a), y_h y, y_r y, y_nf y, y_fy y, y_nr y)
def yRt (y : Yd) (l c n : Nat) : Yd := (y_L y, y_C y, y_m y, y_t y, y_p y, y_h y, fun l' c' => if l' = l ∧ c' = c then n else y_r y l' c', y_nf y, y_fy y, y_nr y + 1)
def yHv (y : Yd) (g : Nat) : Yd := (y_L y, y_C y, y_m y, y_t y, y_p y, bup (y_h y) g true, y_r y, y_nf y, y_fy y, y_nr y)
def yFl (y : Yd) (n : Nat) : Yd := (y_L y, y_C y, y_m y, y_t y, y_p y, y_h y, y_r y, y_nf y + 1, bup (y_fy y) (y_nf y) n, y_nr y)
def tak (y : Yd) (l c : Nat) : Nat → Nat → Bool
  | 0, _ => false
  | k + 1, i => if (y_t y i).1 = l ∧ (y_t y i).2.1 = c then true else tak y l c k (i + 1)
def sSize (t : Tp) (p : Nat) (s : YS) : Except Nat (Nat × YS) :=
  ebd (nmr t p 1 5) fun L => ebd (nmr t (nxp t p) 2 21) fun C => .ok (nxp t (nxp t p), (ySz s.1 L C, s.2))
def sGrave (t : Tp) (p : Nat) (s : YS) : Except Nat (Nat × YS) :=
  ebd (nmr t p 0 (y_L s.1)) fun l => ebd (nmr t (nxp t p) 0 (y_C s.1)) fun c =>
  if tak s.1 l c (y_m s.1) 0 = true then .error (flt (skp t (nxp t p)) 1) else
  if isw t 1 (nxp t (nxp t p)) = -1 then .error (flt (skp t (nxp t (nxp t p))) 0) else .ok (nxp t (nxp t (nxp t p)), (yGr s.1 l c (isw t 1 (nxp t (nxp t p))).toNatClampNeg, s.2))
def sPair (t : Tp) (p : Nat) (s : YS) : Except Nat (Nat × YS) :=
  ebd (nmr t p 0 (y_m s.1)) fun a =>
  if y_p s.1 a ≠ none then .error (flt (skp t p) 1) else
  ebd (nmr t (nxp t p) 0 (y_m s.1)) fun b =>
  if b = a ∨ y_p s.1 b ≠ none then .error (flt (skp t (nxp t p)) 1) else .ok (nxp t (nxp t p), (yPr s.1 a b, s.2))
def sRoot (t : Tp) (p : Nat) (s : YS) : Except Nat (Nat × YS) :=
  ebd (nmr t p 0 (y_L s.1)) fun l => ebd (nmr t (nxp t p) 0 (y_C s.1)) fun c =>
  if y_r s.1 l c ≠ 0 then .error (flt (skp t (nxp t p)) 1) else
  ebd (nmr t (nxp t (nxp t p)) 1 10) fun n => .ok (nxp t (nxp t (nxp t p)), (yRt s.1 l c n, bup s.2 (y_nr s.1) (l, c, n)))
def sHeavy (t : Tp) (p : Nat) (s : YS) : Except Nat (Nat × YS) :=
  ebd (nmr t p 0 (y_m s.1)) fun g => .ok (nxp t p, (yHv s.1 g, s.2))
def sFlood (t : Tp) (p : Nat) (s : YS) : Except Nat (Nat × YS) :=
  ebd (nmr t p 0 100) fun n => if flo s.1 n = true then .error (flt (skp t p) 1) else .ok (nxp t p, (yFl s.1 n, s.2))
def sFull (y : Yd) (k : Int32) : Bool := (decide (k = 1) && decide (10 ≤ y_m y)) || (decide (k = 3) && decide (6 ≤ y_nr y)) || (decide (k = 5) && decide (6 ≤ y_nf y))
def sClause (t : Tp) (p i : Nat) (s : YS) : Except Nat (Nat × YS) :=
  if isw t 0 p = -1 then .error (flt (skp t p) 0) else
  if 40 ≤ i ∨ ¬ (isw t 0 p = 0 ↔ i = 0) ∨ sFull s.1 (isw t 0 p) = true then .error (flt (skp t p) 4) else
  if isw t 0 p = 0 then sSize t (nxp t p) s else if isw t 0 p = 1 then sGrave t (nxp t p) s else if isw t 0 p = 2 then sPair t (nxp t p) s else if isw t 0 p = 3 then sRoot t (nxp t p) s else if isw t 0 p = 4 then sHeavy t (nxp t p) s else sFlood t (nxp t p) s
def sYard (t : Tp) : Nat → Nat → Nat → YS → Except Nat YS
  | 0, _, _, _ => .error 1
  | k + 1, i, p, s => ebd (sClause t p i s) fun z => ebd (mor t z.1) fun o => match o with
    | none => .ok z.2
    | some p' => sYard t k (i + 1) p' z.2
theorem nmr_ok {t : Tp} {p lo h v : Nat} (e : nmr t p lo h = .ok v) : lo ≤ v ∧ v < h := by
  unfold nmr at e
  split at e
  · split at e
    · rename_i h2
      cases e
      exact ⟨h2.2.1, h2.2.2⟩
    · cases e
  · cases e
theorem isw_k {t : Tp} {b p : Nat} (h : ¬ isw t b p = -1) : ∃ k, k < (wl b).length ∧ isw t b p = i32 k := by
  rcases idx_cases t (skp t p) (wl b) 0 with h1 | ⟨k, hk, h1⟩
  · exact absurd h1 h
  · exact ⟨k, hk, by unfold isw; rw [h1, Nat.zero_add]⟩
/-- what holds of a yard while it is told -/
def VYS (s : YS) : Prop := VY s.1 ∧ (∀ k, k < y_nr s.1 → (s.2 k).1 < 4 ∧ (s.2 k).2.1 < 20 ∧ 1 ≤ (s.2 k).2.2) ∧ ∀ l c, l < 4 → c < 20 → y_r s.1 l c = rlook s.2 l c (y_nr s.1) 0
theorem VYS_nil (rt : Nat → Nat × Nat × Nat) : VYS (yNil, rt) := by
  refine ⟨⟨Nat.zero_le _, Nat.zero_le _, Nat.zero_le _, Nat.zero_le _, Nat.zero_le _, fun k hk => absurd hk (Nat.not_lt_zero _), fun _ _ => Nat.zero_le _, fun g h e => (by cases e), fun g hg => absurd hg (Nat.not_lt_zero _), fun g h hg => absurd hg (Nat.not_lt_zero _), fun g h => absurd h Bool.false_ne_true, fun h => absurd h (Nat.lt_irrefl _)⟩, fun k hk => absurd hk (Nat.not_lt_zero _), fun l c _ _ => rfl⟩
theorem tak_no {y : Yd} {l c : Nat} : ∀ {k i : Nat}, tak y l c k i = false → ∀ g, i ≤ g → g < i + k → ¬ ((y_t y g).1 = l ∧ (y_t y g).2.1 = c)
  | 0, i, _, g, h1, h2 => by omega
  | k + 1, i, h, g, h1, h2 => by
    rw [tak] at h
    by_cases c1 : (y_t y i).1 = l ∧ (y_t y i).2.1 = c
    · rw [if_pos c1] at h
      cases h
    · rw [if_neg c1] at h
      by_cases c2 : g = i
      · rw [c2]; exact c1
      · exact tak_no h g (by omega) (by omega)
theorem rlook_s (rt : Nat → Nat × Nat × Nat) (l c k i : Nat) : rlook rt l c (k + 1) i = if (rt i).1 = l ∧ (rt i).2.1 = c then (rt i).2.2 else rlook rt l c k (i + 1) := rfl
theorem rlook_up {rt : Nat → Nat × Nat × Nat} {n : Nat} {v : Nat × Nat × Nat} {l c : Nat} : ∀ (k i : Nat), i + k = n → (∀ j, i ≤ j → j < n → 1 ≤ (rt j).2.2) → rlook (bup rt n v) l c (k + 1) i = (if rlook rt l c k i ≠ 0 then rlook rt l c k i else if v.1 = l ∧ v.2.1 = c then v.2.2 else 0)
  | 0, i, h, _ => by
    have : i = n := by omega
    subst this
    rw [rlook_s, bup_e, show rlook rt l c 0 i = 0 from rfl, if_neg (show ¬ ((0 : Nat) ≠ 0) from fun z => z rfl)]
    rfl
  | k + 1, i, h, hr => by
    rw [rlook_s (bup rt n v) l c (k + 1) i, bup_o (by omega), rlook_s rt l c k i]
    by_cases c1 : (rt i).1 = l ∧ (rt i).2.1 = c
    · have := hr i (Nat.le_refl _) (by omega)
      rw [if_pos c1, if_pos c1, if_pos (by omega)]
    · rw [if_neg c1, if_neg c1, rlook_up k (i + 1) (by omega) fun j h1 h2 => hr j (by omega) h2]
/-- a root's years are 1 or more: so 0 says that none stands there -/
theorem rlook_0 {rt : Nat → Nat × Nat × Nat} {l c : Nat} : ∀ (k i : Nat), (∀ j, i ≤ j → j < i + k → 1 ≤ (rt j).2.2) → (rlook rt l c k i = 0 ↔ ∀ j, i ≤ j → j < i + k → ¬ ((rt j).1 = l ∧ (rt j).2.1 = c))
  | 0, i, _ => ⟨fun _ j h1 h2 => by omega, fun _ => rfl⟩
  | k + 1, i, h => by
    rw [rlook]
    by_cases c1 : (rt i).1 = l ∧ (rt i).2.1 = c
    · rw [if_pos c1]
      have := h i (Nat.le_refl _) (by omega)
      exact ⟨fun z => by omega, fun z => absurd c1 (z i (Nat.le_refl _) (by omega))⟩
    · rw [if_neg c1, rlook_0 k (i + 1) fun j h1 h2 => h j (by omega) (by omega)]
      constructor
      · intro z j h1 h2
        by_cases c2 : j = i
        · rw [c2]; exact c1
        · exact z j (by omega) (by omega)
      · intro z j h1 h2
        exact z j (by omega) (by omega)
theorem VYS_clause {t : Tp} {p i p' : Nat} {s s' : YS} (hs : VYS s) (h0 : i = 0 → s.1 = yNil) (hL : i ≠ 0 → 0 < y_L s.1) (h : sClause t p i s = .ok (p', s')) : VYS s' ∧ 0 < y_L s'.1 := by
  obtain ⟨⟨v1, v2, v3, v4, v5, v6, v7, v8, v9, v10, v11, v12⟩, r1, r2⟩ := hs
  unfold sClause at h
  by_cases a1 : isw t 0 p = -1
  · rw [if_pos a1] at h; cases h
  rw [if_neg a1] at h
  by_cases a2 : 40 ≤ i ∨ ¬ (isw t 0 p = 0 ↔ i = 0) ∨ sFull s.1 (isw t 0 p) = true
  · rw [if_pos a2] at h; cases h
  rw [if_neg a2] at h
  have a3 : isw t 0 p = 0 ↔ i = 0 := Classical.byContradiction fun z => a2 (Or.inr (Or.inl z))
  have a4 : ¬ sFull s.1 (isw t 0 p) = true := fun z => a2 (Or.inr (Or.inr z))
  by_cases b0 : isw t 0 p = 0
  · rw [if_pos b0] at h
    have hn := h0 (a3.mp b0)
    unfold sSize at h
    cases e1 : nmr t (nxp t p) 1 5 with
    | error w => rw [e1, ebd_e] at h; cases h
    | ok L =>
      rw [e1, ebd_o] at h
      cases e2 : nmr t (nxp t (nxp t p)) 2 21 with
      | error w => rw [e2, ebd_e] at h; cases h
      | ok C =>
        rw [e2, ebd_o] at h
        have k1 := nmr_ok e1
        have k2 := nmr_ok e2
        have h' := Except.ok.inj h
        have h2 : s' = (ySz s.1 L C, s.2) := (congrArg Prod.snd h').symm
        rw [h2]
        refine ⟨⟨⟨by show L ≤ 4; omega, by show C ≤ 20; omega, v3, v4, v5, v6, v7, v8, fun g hg => ?_, v10, v11, fun _ => k2.1⟩, r1, r2⟩, by show 0 < L; omega⟩
        have hg' : g < y_m s.1 := hg
        rw [hn] at hg'
        exact absurd hg' (Nat.not_lt_zero _)
  rw [if_neg b0] at h
  have hi : i ≠ 0 := fun z => b0 (a3.mpr z)
  have hL' := hL hi
  by_cases b1 : isw t 0 p = 1
  · rw [if_pos b1] at h
    have hm : y_m s.1 < 10 := by
      refine Classical.byContradiction fun z => a4 ?_
      unfold sFull
      rw [b1, decide_eq_true (show (10 : Nat) ≤ y_m s.1 by omega)]
      rfl
    unfold sGrave at h
    cases e1 : nmr t (nxp t p) 0 (y_L s.1) with
    | error w => rw [e1, ebd_e] at h; cases h
    | ok l =>
    rw [e1, ebd_o] at h
    cases e2 : nmr t (nxp t (nxp t p)) 0 (y_C s.1) with
    | error w => rw [e2, ebd_e] at h; cases h
    | ok c =>
    rw [e2, ebd_o] at h
    have k1 := nmr_ok e1
    have k2 := nmr_ok e2
    cases e3 : tak s.1 l c (y_m s.1) 0 with
    | true => rw [e3, if_pos rfl] at h; cases h
    | false =>
    rw [e3, if_neg Bool.false_ne_true] at h
    by_cases e4 : isw t 1 (nxp t (nxp t (nxp t p))) = -1
    · rw [if_pos e4] at h; cases h
    rw [if_neg e4] at h
    obtain ⟨k, hk, ek⟩ := isw_k e4
    have hk4 : k < 4 := hk
    rw [ek, i32_cl (by omega)] at h
    have h' := Except.ok.inj h
    have h2 : s' = (yGr s.1 l c k, s.2) := (congrArg Prod.snd h').symm
    rw [h2]
    have bt : ∀ g, g < y_m s.1 → bup (y_t s.1) (y_m s.1) (l, c, k) g = y_t s.1 g := fun g hg => bup_o (by omega)
    refine ⟨⟨⟨v1, v2, by show y_m s.1 + 1 ≤ 10; omega, v4, v5, v6, v7, fun g h e => ?_, fun g hg => ?_, fun g h hg hh e1 e2 => ?_, fun g e => ?_, v12⟩, r1, r2⟩, hL'⟩
    · have := v8 g h e
      exact ⟨Nat.lt_succ_of_lt this.1, Nat.lt_succ_of_lt this.2⟩
    · have hg' : g < y_m s.1 + 1 := hg
      show (bup (y_t s.1) (y_m s.1) (l, c, k) g).1 < y_L s.1 ∧ (bup (y_t s.1) (y_m s.1) (l, c, k) g).2.1 < y_C s.1 ∧ (bup (y_t s.1) (y_m s.1) (l, c, k) g).2.2 ≤ 3
      by_cases c1 : g = y_m s.1
      · rw [c1, bup_e]; exact ⟨k1.2, k2.2, by show k ≤ 3; omega⟩
      · rw [bup_o c1]; exact v9 g (by omega)
    · have hg' : g < y_m s.1 + 1 := hg
      have hh' : h < y_m s.1 + 1 := hh
      have e1' : (bup (y_t s.1) (y_m s.1) (l, c, k) g).1 = (bup (y_t s.1) (y_m s.1) (l, c, k) h).1 := e1
      have e2' : (bup (y_t s.1) (y_m s.1) (l, c, k) g).2.1 = (bup (y_t s.1) (y_m s.1) (l, c, k) h).2.1 := e2
      by_cases c1 : g = y_m s.1
      · by_cases c2 : h = y_m s.1
        · omega
        · exfalso
          rw [c1, bup_e, bup_o c2] at e1' e2'
          exact tak_no e3 h (Nat.zero_le _) (by omega) ⟨e1'.symm, e2'.symm⟩
      · by_cases c2 : h = y_m s.1
        · exfalso
          rw [c2, bup_e, bup_o c1] at e1' e2'
          exact tak_no e3 g (Nat.zero_le _) (by omega) ⟨e1', e2'⟩
        · rw [bup_o c1, bup_o c2] at e1' e2'
          exact v10 g h (by omega) (by omega) e1' e2'
    · exact Nat.lt_succ_of_lt (v11 g e)
  rw [if_neg b1] at h
  by_cases b2 : isw t 0 p = 2
  · rw [if_pos b2] at h
    unfold sPair at h
    cases e1 : nmr t (nxp t p) 0 (y_m s.1) with
    | error w => rw [e1, ebd_e] at h; cases h
    | ok a =>
    rw [e1, ebd_o] at h
    by_cases c1 : y_p s.1 a ≠ none
    · rw [if_pos c1] at h; cases h
    rw [if_neg c1] at h
    cases e2 : nmr t (nxp t (nxp t p)) 0 (y_m s.1) with
    | error w => rw [e2, ebd_e] at h; cases h
    | ok b =>
    rw [e2, ebd_o] at h
    by_cases c2 : b = a ∨ y_p s.1 b ≠ none
    · rw [if_pos c2] at h; cases h
    rw [if_neg c2] at h
    have k1 := nmr_ok e1
    have k2 := nmr_ok e2
    have h' := Except.ok.inj h
    have h2 : s' = (yPr s.1 a b, s.2) := (congrArg Prod.snd h').symm
    rw [h2]
    refine ⟨⟨⟨v1, v2, v3, v4, v5, v6, v7, fun g h e => ?_, v9, v10, v11, v12⟩, r1, r2⟩, hL'⟩
    have e' : bup (bup (y_p s.1) a (some b)) b (some a) g = some h := e
    show g < y_m s.1 ∧ h < y_m s.1
    by_cases d1 : g = b
    · rw [d1, bup_e] at e'
      cases e'
      exact ⟨by omega, k1.2⟩
    · rw [bup_o d1] at e'
      by_cases d2 : g = a
      · rw [d2, bup_e] at e'
        cases e'
        exact ⟨by omega, k2.2⟩
      · rw [bup_o d2] at e'
        exact v8 g h e'
  rw [if_neg b2] at h
  by_cases b3 : isw t 0 p = 3
  · rw [if_pos b3] at h
    have hm : y_nr s.1 < 6 := by
      refine Classical.byContradiction fun z => a4 ?_
      unfold sFull
      rw [b3, decide_eq_true (show (6 : Nat) ≤ y_nr s.1 by omega)]
      simp
    unfold sRoot at h
    cases e1 : nmr t (nxp t p) 0 (y_L s.1) with
    | error w => rw [e1, ebd_e] at h; cases h
    | ok l =>
    rw [e1, ebd_o] at h
    cases e2 : nmr t (nxp t (nxp t p)) 0 (y_C s.1) with
    | error w => rw [e2, ebd_e] at h; cases h
    | ok c =>
    rw [e2, ebd_o] at h
    have k1 := nmr_ok e1
    have k2 := nmr_ok e2
    by_cases c1 : y_r s.1 l c ≠ 0
    · rw [if_pos c1] at h; cases h
    rw [if_neg c1] at h
    cases e3 : nmr t (nxp t (nxp t (nxp t p))) 1 10 with
    | error w => rw [e3, ebd_e] at h; cases h
    | ok n =>
    rw [e3, ebd_o] at h
    have k3 := nmr_ok e3
    have h' := Except.ok.inj h
    have h2 : s' = (yRt s.1 l c n, bup s.2 (y_nr s.1) (l, c, n)) := (congrArg Prod.snd h').symm
    rw [h2]
    have c1' : y_r s.1 l c = 0 := Classical.byContradiction c1
    refine ⟨⟨⟨v1, v2, v3, v4, by show y_nr s.1 + 1 ≤ 6; omega, v6, fun l' c' => ?_, v8, v9, v10, v11, v12⟩, fun k hk => ?_, fun l' c' hl' hc' => ?_⟩, hL'⟩
    · show (if l' = l ∧ c' = c then n else y_r s.1 l' c') ≤ 9
      by_cases d : l' = l ∧ c' = c
      · rw [if_pos d]; omega
      · rw [if_neg d]; exact v7 l' c'
    · have hk' : k < y_nr s.1 + 1 := hk
      show (bup s.2 (y_nr s.1) (l, c, n) k).1 < 4 ∧ (bup s.2 (y_nr s.1) (l, c, n) k).2.1 < 20 ∧ 1 ≤ (bup s.2 (y_nr s.1) (l, c, n) k).2.2
      by_cases d : k = y_nr s.1
      · rw [d, bup_e]; exact ⟨by show l < 4; omega, by show c < 20; omega, k3.1⟩
      · rw [bup_o d]; exact r1 k (by omega)
    · show (if l' = l ∧ c' = c then n else y_r s.1 l' c') = rlook (bup s.2 (y_nr s.1) (l, c, n)) l' c' (y_nr s.1 + 1) 0
      rw [rlook_up (y_nr s.1) 0 (Nat.zero_add _) fun j _ h2 => (r1 j h2).2.2, ← r2 l' c' hl' hc']
      by_cases d : l' = l ∧ c' = c
      · have dd : y_r s.1 l' c' = 0 := by rw [d.1, d.2]; exact c1'
        rw [if_pos d, dd, if_neg (show ¬ ((0 : Nat) ≠ 0) from fun z => z rfl), if_pos ⟨d.1.symm, d.2.symm⟩]
      · rw [if_neg d]
        by_cases dd : y_r s.1 l' c' = 0
        · rw [dd, if_neg (show ¬ ((0 : Nat) ≠ 0) from fun z => z rfl), if_neg (fun z => d ⟨z.1.symm, z.2.symm⟩)]
        · rw [if_pos dd]
  rw [if_neg b3] at h
  by_cases b4 : isw t 0 p = 4
  · rw [if_pos b4] at h
    unfold sHeavy at h
    cases e1 : nmr t (nxp t p) 0 (y_m s.1) with
    | error w => rw [e1, ebd_e] at h; cases h
    | ok g =>
    rw [e1, ebd_o] at h
    have k1 := nmr_ok e1
    have h' := Except.ok.inj h
    have h2 : s' = (yHv s.1 g, s.2) := (congrArg Prod.snd h').symm
    rw [h2]
    refine ⟨⟨⟨v1, v2, v3, v4, v5, v6, v7, v8, v9, v10, fun g' e => ?_, v12⟩, r1, r2⟩, hL'⟩
    have e' : bup (y_h s.1) g true g' = true := e
    show g' < y_m s.1
    by_cases d1 : g' = g
    · rw [d1]; exact k1.2
    · rw [bup_o d1] at e'
      exact v11 g' e'
  rw [if_neg b4] at h
  have hm : y_nf s.1 < 6 := by
    refine Classical.byContradiction fun z => a4 ?_
    obtain ⟨k, hk, ek⟩ := isw_k a1
    have hk6 : k < 6 := hk
    have : k = 5 := by
      rw [ek] at b0 b1 b2 b3 b4
      have n0 : k ≠ 0 := fun z => b0 (by rw [z]; rfl)
      have n1 : k ≠ 1 := fun z => b1 (by rw [z]; rfl)
      have n2 : k ≠ 2 := fun z => b2 (by rw [z]; rfl)
      have n3 : k ≠ 3 := fun z => b3 (by rw [z]; rfl)
      have n4 : k ≠ 4 := fun z => b4 (by rw [z]; rfl)
      omega
    unfold sFull
    rw [ek, this, decide_eq_true (show (6 : Nat) ≤ y_nf s.1 by omega), decide_eq_true (show i32 5 = 5 from rfl)]
    simp
  unfold sFlood at h
  cases e1 : nmr t (nxp t p) 0 100 with
  | error w => rw [e1, ebd_e] at h; cases h
  | ok n =>
  rw [e1, ebd_o] at h
  cases e3 : flo s.1 n with
  | true => rw [e3, if_pos rfl] at h; cases h
  | false =>
  rw [e3, if_neg Bool.false_ne_true] at h
  have k1 := nmr_ok e1
  have h' := Except.ok.inj h
  have h2 : s' = (yFl s.1 n, s.2) := (congrArg Prod.snd h').symm
  rw [h2]
  refine ⟨⟨⟨v1, v2, v3, by show y_nf s.1 + 1 ≤ 6; omega, v5, fun k hk => ?_, v7, v8, v9, v10, v11, v12⟩, r1, r2⟩, hL'⟩
  have hk' : k < y_nf s.1 + 1 := hk
  show bup (y_fy s.1) (y_nf s.1) n k ≤ 99
  by_cases d : k = y_nf s.1
  · rw [d, bup_e]; omega
  · rw [bup_o d]; exact v6 k (by omega)
