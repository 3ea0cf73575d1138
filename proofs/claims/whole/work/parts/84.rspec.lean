/-! ===== a rule, as data: what is told is a list of signs behind their values ===== -/
abbrev Oq : Type := Nat × Nat
def jn (k : Nat) (a b : Int64) : Int64 :=
  if k = 0 then a + b else if k = 1 then a - b else if k = 2 then a * b else if k = 3 then (if b = 0 then 0 else a / b) else if k = 4 then (if b = 0 then 0 else a - a / b * b) else if k = 5 then (if a < b then 1 else 0) else if k = 6 then (if b < a then 0 else 1) else if k = 7 then (if a = b then 1 else 0) else if k = 8 then (if a < b then 0 else 1) else if k = 9 then (if b < a then 1 else 0) else if k = 10 then a &&& b else a ||| b
def stq (ws : List Int64) (o : Oq) (st : List Int64) : List Int64 :=
  if o.1 = 0 then Int64.ofNat o.2 :: st else if o.1 = 1 then ws.getD o.2 0 :: st else if o.1 = 3 then (1 - st.headD 0) :: st.tail else jn o.2 (st.tail.headD 0) (st.headD 0) :: st.tail.tail
def runO (ws : List Int64) : List Oq → List Int64 → List Int64
  | [], st => st
  | o :: c, st => runO ws c (stq ws o st)
def ev (ws : List Int64) (c : List Oq) : Int64 := (runO ws c []).headD 0
/-- how deep the stack is behind it; nothing where it has too little -/
def sdp (o : Oq) (n : Nat) : Option Nat := if o.1 ≤ 1 then some (n + 1) else if o.1 = 3 then (if 1 ≤ n then some n else none) else (if 2 ≤ n then some (n - 1) else none)
def sd : List Oq → Nat → Option Nat
  | [], n => some n
  | o :: c, n => (sdp o n).bind (sd c)
def nv : List Oq → Nat
  | [] => 0
  | o :: c => (if o.1 ≤ 1 then 1 else 0) + nv c
def vo (o : Oq) : Prop := (o.1 = 0 ∧ o.2 < 100000) ∨ (o.1 = 1 ∧ o.2 < 12) ∨ (o.1 = 2 ∧ o.2 < 12) ∨ o.1 = 3
/-- worth one value -/
def Pu (c : List Oq) : Prop := (∀ o, o ∈ c → vo o) ∧ (∀ n, sd c n = some (n + 1)) ∧ ∀ ws st, runO ws c st = ev ws c :: st
/-- worth 0 or 1 -/
def Tr (c : List Oq) : Prop := ∀ ws, ev ws c = 0 ∨ ev ws c = 1
theorem runO_app (ws : List Int64) : ∀ (a b : List Oq) (st : List Int64), runO ws (a ++ b) st = runO ws b (runO ws a st)
  | [], _, _ => rfl
  | o :: a, b, st => by rw [List.cons_append, runO, runO, runO_app ws a b]
theorem sd_app : ∀ (a b : List Oq) (n : Nat), sd (a ++ b) n = (sd a n).bind (sd b)
  | [], _, _ => rfl
  | o :: a, b, n => by
    rw [List.cons_append, sd, sd]
    cases sdp o n with
    | none => rfl
    | some m => rw [Option.bind_some, Option.bind_some, sd_app a b]
theorem nv_app : ∀ (a b : List Oq), nv (a ++ b) = nv a + nv b
  | [], b => (Nat.zero_add _).symm
  | o :: a, b => by rw [List.cons_append, nv, nv, nv_app a b, Nat.add_assoc]
theorem Pu_0 {n : Nat} (h : n < 100000) : Pu [(0, n)] := ⟨fun o ho => by rw [List.mem_singleton] at ho; subst ho; exact Or.inl ⟨rfl, h⟩, fun _ => rfl, fun _ _ => rfl⟩
theorem Pu_1 {k : Nat} (h : k < 12) : Pu [(1, k)] := ⟨fun o ho => by rw [List.mem_singleton] at ho; subst ho; exact Or.inr (Or.inl ⟨rfl, h⟩), fun _ => rfl, fun _ _ => rfl⟩
theorem ev_2 {a b : List Oq} (ha : Pu a) (hb : Pu b) (k : Nat) (ws : List Int64) (st : List Int64) : runO ws (a ++ b ++ [(2, k)]) st = jn k (ev ws a) (ev ws b) :: st := by
  rw [runO_app, runO_app, ha.2.2, hb.2.2]
  rfl
theorem ev_2' {a b : List Oq} (ha : Pu a) (hb : Pu b) (k : Nat) (ws : List Int64) : ev ws (a ++ b ++ [(2, k)]) = jn k (ev ws a) (ev ws b) := by
  unfold ev
  rw [ev_2 ha hb]
  rfl
theorem Pu_2 {a b : List Oq} {k : Nat} (ha : Pu a) (hb : Pu b) (hk : k < 12) : Pu (a ++ b ++ [(2, k)]) := by
  refine ⟨fun o ho => ?_, fun n => ?_, fun ws st => ?_⟩
  · rw [List.mem_append, List.mem_append, List.mem_singleton] at ho
    rcases ho with (ho | ho) | ho
    · exact ha.1 o ho
    · exact hb.1 o ho
    · subst ho; exact Or.inr (Or.inr (Or.inl ⟨rfl, hk⟩))
  · rw [sd_app, sd_app, ha.2.1, Option.bind_some, hb.2.1, Option.bind_some]
    show (sdp (2, k) (n + 1 + 1)).bind (sd []) = _
    unfold sdp
    rw [if_neg (show ¬ (2 : Nat) ≤ 1 by decide), if_neg (show ¬ (2 : Nat) = 3 by decide), if_pos (by omega)]
    rfl
  · rw [ev_2 ha hb, ev_2' ha hb]
theorem ev_3' {a : List Oq} (ha : Pu a) (ws : List Int64) : ev ws (a ++ [(3, 0)]) = 1 - ev ws a := by
  unfold ev
  rw [runO_app, ha.2.2]
  rfl
theorem Pu_3 {a : List Oq} (ha : Pu a) : Pu (a ++ [(3, 0)]) := by
  refine ⟨fun o ho => ?_, fun n => ?_, fun ws st => ?_⟩
  · rw [List.mem_append, List.mem_singleton] at ho
    rcases ho with ho | ho
    · exact ha.1 o ho
    · subst ho; exact Or.inr (Or.inr (Or.inr rfl))
  · rw [sd_app, ha.2.1, Option.bind_some]
    show (sdp (3, 0) (n + 1)).bind (sd []) = _
    unfold sdp
    rw [if_neg (by decide), if_pos rfl, if_pos (by omega)]
    rfl
  · rw [ev_3' ha, runO_app, ha.2.2]
    rfl
theorem Tr_c {a b : List Oq} {k : Nat} (ha : Pu a) (hb : Pu b) (h5 : 5 ≤ k) (h9 : k ≤ 9) : Tr (a ++ b ++ [(2, k)]) := by
  intro ws
  rw [ev_2' ha hb]
  unfold jn
  rw [if_neg (by omega), if_neg (by omega), if_neg (by omega), if_neg (by omega), if_neg (by omega)]
  have h : k = 5 ∨ k = 6 ∨ k = 7 ∨ k = 8 ∨ k = 9 := by omega
  rcases h with h | h | h | h | h <;> subst h
  · rw [if_pos rfl]; split; exact Or.inr rfl; exact Or.inl rfl
  · rw [if_neg (by decide), if_pos rfl]; split; exact Or.inl rfl; exact Or.inr rfl
  · rw [if_neg (by decide), if_neg (by decide), if_pos rfl]; split; exact Or.inr rfl; exact Or.inl rfl
  · rw [if_neg (by decide), if_neg (by decide), if_neg (by decide), if_pos rfl]; split; exact Or.inl rfl; exact Or.inr rfl
  · rw [if_neg (by decide), if_neg (by decide), if_neg (by decide), if_neg (by decide), if_pos rfl]; split; exact Or.inr rfl; exact Or.inl rfl
theorem Tr_j {a b : List Oq} {k : Nat} (ha : Pu a) (hb : Pu b) (ta : Tr a) (tb : Tr b) (hk : k = 10 ∨ k = 11) : Tr (a ++ b ++ [(2, k)]) := by
  intro ws
  rw [ev_2' ha hb]
  rcases hk with h | h <;> subst h
  · show ev ws a &&& ev ws b = 0 ∨ ev ws a &&& ev ws b = 1
    rcases ta ws with x | x <;> rcases tb ws with y | y <;> rw [x, y] <;> decide
  · show ev ws a ||| ev ws b = 0 ∨ ev ws a ||| ev ws b = 1
    rcases ta ws with x | x <;> rcases tb ws with y | y <;> rw [x, y] <;> decide
theorem Tr_n {a : List Oq} (ha : Pu a) (ta : Tr a) : Tr (a ++ [(3, 0)]) := by
  intro ws
  rw [ev_3' ha]
  rcases ta ws with x | x <;> rw [x] <;> decide
theorem Pu_pos {c : List Oq} (h : Pu c) : 1 ≤ c.length := by
  cases c with
  | nil => have := h.2.1 0; cases this
  | cons o c => exact Nat.succ_le_succ (Nat.zero_le _)
/-! reading -/
def obd {α β : Type} (o : Option α) (y : β) (f : α → β) : β := match o with
  | none => y
  | some a => f a
theorem obd_n {α β : Type} (y : β) (f : α → β) : obd none y f = y := rfl
theorem obd_s {α β : Type} (a : α) (y : β) (f : α → β) : obd (some a) y f = f a := rfl
def sgT (t : Tp) (p : Nat) : Option Nat := if sgn t p 42 = true then some 2 else if sgn t p 47 = true then some 3 else if sgn t p 37 = true then some 4 else none
def sgS (t : Tp) (p : Nat) : Option Nat := if sgn t p 43 = true then some 0 else if sgn t p 45 = true then some 1 else none
def sgC (t : Tp) (p : Nat) : Option Nat := if sgn t p 60 = true then some 5 else if sgn t p 316 = true then some 6 else if sgn t p 61 = true then some 7 else if sgn t p 318 = true then some 8 else if sgn t p 62 = true then some 9 else none
/-- a code, how far, how many are counted -/
abbrev Rs : Type := Except Nat (List Oq × Nat × Nat)
def sVal (t : Tp) (p m : Nat) : Except Nat (Oq × Nat × Nat) :=
  if knd t (skp t p) = 1 then ebd (nmr t p 0 100000) fun v => if 60 ≤ m then .error (flt (skp t p) 3) else .ok ((0, v), nxp t p, m + 1)
  else if isw t 3 p = -1 then .error (flt (skp t p) 0) else if 60 ≤ m then .error (flt (skp t p) 3) else .ok ((1, (isw t 3 p).toNatClampNeg), nxp t p, m + 1)
def sTerm (t : Tp) : Nat → Nat → Nat → List Oq → Rs
  | 0, p, m, e => .ok (e, p, m)
  | k + 1, p, m, e => obd (sgT t p) (.ok (e, p, m)) fun s => ebd (sVal t (nxp t p) m) fun v => sTerm t k v.2.1 v.2.2 (e ++ [v.1] ++ [(2, s)])
def sSumL (t : Tp) : Nat → Nat → Nat → List Oq → Rs
  | 0, p, m, e => .ok (e, p, m)
  | k + 1, p, m, e => obd (sgS t p) (.ok (e, p, m)) fun s => ebd (sVal t (nxp t p) m) fun v => ebd (sTerm t 401 v.2.1 v.2.2 [v.1]) fun y => sSumL t k y.2.1 y.2.2 (e ++ y.1 ++ [(2, s)])
def sSum (t : Tp) (p m : Nat) : Rs := ebd (sVal t p m) fun v => ebd (sTerm t 401 v.2.1 v.2.2 [v.1]) fun y => sSumL t 401 y.2.1 y.2.2 y.1
def sCmp (t : Tp) (p m : Nat) : Rs := ebd (sSum t p m) fun a => obd (sgC t a.2.1) (.error (flt (skp t a.2.1) 0)) fun s => if 60 ≤ a.2.2 then .error (flt (skp t a.2.1) 3) else ebd (sSum t (nxp t a.2.1) (a.2.2 + 1)) fun b => .ok (a.1 ++ b.1 ++ [(2, s)], b.2.1, b.2.2)
def sAnd (t : Tp) (fc : Nat → Nat → Rs) : Nat → Nat → Nat → List Oq → Rs
  | 0, p, m, e => .ok (e, p, m)
  | k + 1, p, m, e => if isw t 6 p = -1 then .ok (e, p, m) else ebd (fc (nxp t p) m) fun z => sAnd t fc k z.2.1 z.2.2 (e ++ z.1 ++ [(2, 10)])
def sOr (t : Tp) (fc : Nat → Nat → Rs) : Nat → Nat → Nat → List Oq → Rs
  | 0, p, m, e => .ok (e, p, m)
  | k + 1, p, m, e => if isw t 7 p = -1 then .ok (e, p, m) else ebd (fc (nxp t p) m) fun z => ebd (sAnd t fc 401 z.2.1 z.2.2 z.1) fun y => sOr t fc k y.2.1 y.2.2 (e ++ y.1 ++ [(2, 11)])
def sTst (t : Tp) (fc : Nat → Nat → Rs) (p m : Nat) : Rs := ebd (fc p m) fun z => ebd (sAnd t fc 401 z.2.1 z.2.2 z.1) fun y => sOr t fc 401 y.2.1 y.2.2 y.1
def sFct (t : Tp) : Nat → Nat → Nat → Nat → Rs
  | 0, _, _, _ => .error 1
  | n + 1, d, p, m =>
    if ¬ isw t 5 p = -1 then (if 10 ≤ d then .error (flt (skp t p) 2) else ebd (sFct t n (d + 1) (nxp t p) m) fun z => .ok (z.1 ++ [(3, 0)], z.2.1, z.2.2))
    else if sgn t p 91 = true then (if 10 ≤ d then .error (flt (skp t p) 2) else ebd (sTst t (sFct t n (d + 1)) (nxp t p) m) fun z => if sgn t z.2.1 93 = true then .ok (z.1, nxp t z.2.1, z.2.2) else .error (flt (skp t z.2.1) 0))
    else sCmp t p m
abbrev Cl : Type := List Oq × Option (List Oq)
def sCls (t : Tp) (p m : Nat) : Except Nat (Cl × Nat × Nat) := ebd (sSum t p m) fun s => if isw t 4 s.2.1 = -1 then .ok ((s.1, none), s.2.1, s.2.2) else ebd (sTst t (sFct t 11 0) (nxp t s.2.1) s.2.2) fun z => .ok ((s.1, some z.1), z.2.1, z.2.2)
def sClaR (t : Tp) (i p m : Nat) : Except Nat (Cl × Nat × Nat) := if isw t 2 p = -1 then .error (flt (skp t p) 0) else if 12 ≤ i then .error (flt (skp t p) 4) else sCls t (nxp t p) m
def sRule (t : Tp) : Nat → Nat → Nat → Nat → List Cl → Except Nat (List Cl)
  | 0, _, _, _, _ => .error 1
  | k + 1, i, p, m, R => ebd (sClaR t i p m) fun z => ebd (mor t z.2.1) fun o => obd o (.ok (R ++ [z.1])) fun p' => sRule t k (i + 1) p' z.2.2 (R ++ [z.1])
/-! what is read is well formed, and no longer than what was passed -/
def Gd (t : Tp) (b c : Nat) (e : List Oq) (p m : Nat) : Prop := Pu e ∧ b + e.length ≤ p ∧ c + nv e ≤ m ∧ m ≤ 60 ∧ p ≤ t.1
theorem knd_bhd {t : Tp} {q : Nat} (h : knd t q ≠ 0) : q < bhd t q ∧ bhd t q ≤ t.1 := by
  have hq := knd_lt h
  have hle := bhd_le t (Nat.le_of_lt hq)
  refine ⟨?_, hle⟩
  have hk := knd_le t q
  by_cases c1 : knd t q = 1
  · rw [bhd_1 c1]
    have h2 : isD (t.2 q) = true := by
      unfold knd at c1
      rw [if_pos hq] at c1
      by_cases d : isD (t.2 q) = true
      · exact d
      · rw [if_neg d] at c1
        split at c1 <;> omega
    unfold nmE
    rw [show t.1 - q = (t.1 - (q + 1)) + 1 by omega, nmF, if_pos h2]
    have := (nmF_ge t (t.1 - (q + 1)) (q + 1) (0 + 1) (if 0 < 5 then 10 * 0 + dig (t.2 q) else 0)).1
    omega
  by_cases c2 : knd t q = 2
  · rw [bhd_2 c2]
    have h2 : isA (t.2 q) = true := by
      unfold knd at c2
      rw [if_pos hq] at c2
      by_cases d : isD (t.2 q) = true
      · rw [if_pos d] at c2; omega
      · rw [if_neg d] at c2
        by_cases a : isA (t.2 q) = true
        · exact a
        · rw [if_neg a] at c2; omega
    unfold wdE
    rw [show t.1 - q = (t.1 - (q + 1)) + 1 by omega, wdF, if_pos h2]
    have := (wdF_ge t (t.1 - (q + 1)) (q + 1)).1
    omega
  · have c3 : knd t q = 3 := by omega
    rw [bhd_3 c3]
    split <;> omega
theorem nxp_gt {t : Tp} {p : Nat} (h : knd t (skp t p) ≠ 0) : p < nxp t p ∧ nxp t p ≤ t.1 := by
  have := knd_bhd h
  have := skp_ge t p
  unfold nxp
  omega
theorem sgn_3 {t : Tp} {p : Nat} {x : Int32} (h : sgn t p x = true) : knd t (skp t p) = 3 := by
  unfold sgn at h
  rw [Bool.and_eq_true, decide_eq_true_iff] at h
  exact h.1
theorem sgn_gt {t : Tp} {p : Nat} {x : Int32} (h : sgn t p x = true) : p < nxp t p ∧ nxp t p ≤ t.1 := nxp_gt (by rw [sgn_3 h]; decide)
