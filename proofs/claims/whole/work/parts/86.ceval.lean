/-! ===== a rule's worth: the class ===== -/
def cB (k : Nat) : Int32 := [43, 45, 42, 47, 37, 60, 316, 61, 318, 62, 38, 124].getD k 0
def cE (o : Oq) : Int32 := if o.1 = 0 then i32 (1000 + o.2) else if o.1 = 1 then i32 o.2 else if o.1 = 3 then 33 else cB o.2
/-- the code c stands at o -/
def cel (enc : Oq → Int32) : List Oq → Nat → (Nat → Int32) → Prop
  | [], _, _ => True
  | x :: c, o, F => F o = enc x ∧ cel enc c (o + 1) F
theorem cel_app {enc : Oq → Int32} {F : Nat → Int32} : ∀ (a b : List Oq) (o : Nat), cel enc (a ++ b) o F ↔ cel enc a o F ∧ cel enc b (o + a.length) F
  | [], b, o => ⟨fun h => ⟨True.intro, h⟩, fun h => h.2⟩
  | x :: a, b, o => by
    have ih := cel_app (F := F) (enc := enc) a b (o + 1)
    rw [show o + 1 + a.length = o + (x :: a).length by rw [List.length_cons]; omega] at ih
    rw [List.cons_append]
    exact ⟨fun h => ⟨⟨h.1, (ih.mp h.2).1⟩, (ih.mp h.2).2⟩, fun h => ⟨h.1.1, ih.mpr ⟨h.1.2, h.2⟩⟩⟩
theorem cel_of {enc : Oq → Int32} {F F' : Nat → Int32} : ∀ (c : List Oq) (o : Nat), (∀ i, o ≤ i → i < o + c.length → F' i = F i) → cel enc c o F → cel enc c o F'
  | [], _, _, _ => True.intro
  | x :: c, o, e, h => by
    rw [List.length_cons] at e
    exact ⟨(e o (Nat.le_refl _) (by omega)).trans h.1, cel_of c (o + 1) (fun i a b => e i (by omega) (by omega)) h.2⟩
/-- the stack -/
def stkL : List Int64 → (Nat → Int64) → Prop
  | [], _ => True
  | v :: st, F => F st.length = v ∧ stkL st F
theorem stkL_of {F F' : Nat → Int64} : ∀ (st : List Int64), (∀ i, i < st.length → F' i = F i) → stkL st F → stkL st F'
  | [], _, _ => True.intro
  | v :: st, e, h => by
    rw [List.length_cons] at e
    exact ⟨(e st.length (by omega)).trans h.1, stkL_of st (fun i hi => e i (by omega)) h.2⟩
theorem stkL_push {M : mM} {p : Nat} {st : List Int64} {v : Int64} (h : stkL st (M.2.2.1 p)) : stkL (v :: st) ((msL M p st.length v).2.2.1 p) := ⟨gLe _ _ _ _, stkL_of st (fun i hi => gLo (by omega)) h⟩
theorem lg_le0 {x y : Int64} : (lg_cmp x y ≤ 0) = ¬ (y < x) := by
  rw [← lg_pos]
  exact propext Int32.not_lt.symm
theorem c_join {k : Nat} (hk : k < 12) (a b : Int64) (M : mM) : f_Rule_join (cB k) a b M = some (jn k a b, M) := by
  have h : k = 0 ∨ k = 1 ∨ k = 2 ∨ k = 3 ∨ k = 4 ∨ k = 5 ∨ k = 6 ∨ k = 7 ∨ k = 8 ∨ k = 9 ∨ k = 10 ∨ k = 11 := by omega
  rcases h with h | h | h | h | h | h | h | h | h | h | h | h <;> subst h
  · rfl
  · rfl
  · rfl
  · show (if lg_cmp b 0 = 0 then some (0, M) else if b = 0 then none else some (a / b, M)) = some (if b = 0 then 0 else a / b, M)
    simp only [lg_eq0]
    by_cases c : b = 0
    · rw [if_pos c, if_pos c]
    · rw [if_neg c, if_neg c, if_neg c]
  · show (if lg_cmp b 0 = 0 then some (0, M) else if b = 0 then none else some (a - a / b * b, M)) = some (if b = 0 then 0 else a - a / b * b, M)
    simp only [lg_eq0]
    by_cases c : b = 0
    · rw [if_pos c, if_pos c]
    · rw [if_neg c, if_neg c, if_neg c]
  · show (if 0 ≤ lg_cmp a b then some (0, M) else some (1, M)) = some (if a < b then 1 else 0, M)
    simp only [lg_ge]
    by_cases c : a < b
    · rw [if_neg (fun z => z c), if_pos c]
    · rw [if_pos c, if_neg c]
  · show (if 0 < lg_cmp a b then some (0, M) else some (1, M)) = some (if b < a then 0 else 1, M)
    simp only [lg_pos]
    by_cases c : b < a
    · rw [if_pos c, if_pos c]
    · rw [if_neg c, if_neg c]
  · show (if lg_cmp a b = 0 then some (1, M) else some (0, M)) = some (if a = b then 1 else 0, M)
    simp only [lg_eq0]
    by_cases c : a = b
    · rw [if_pos c, if_pos c]
    · rw [if_neg c, if_neg c]
  · show (if lg_cmp a b < 0 then some (0, M) else some (1, M)) = some (if a < b then 0 else 1, M)
    simp only [lg_neg]
    by_cases c : a < b
    · rw [if_pos c, if_pos c]
    · rw [if_neg c, if_neg c]
  · show (if lg_cmp a b ≤ 0 then some (0, M) else some (1, M)) = some (if b < a then 1 else 0, M)
    simp only [lg_le0]
    by_cases c : b < a
    · rw [if_neg (fun z => z c), if_pos c]
    · rw [if_pos c, if_neg c]
  · rfl
  · rfl
theorem cB_ok {k : Nat} (hk : k < 12) : ¬ 1000 ≤ cB k ∧ ¬ cB k < 0 ∧ 12 ≤ cB k ∧ cB k ≠ 33 := by
  have : ∀ k : Fin 12, ¬ 1000 ≤ cB k.1 ∧ ¬ cB k.1 < 0 ∧ 12 ≤ cB k.1 ∧ cB k.1 ≠ 33 := by decide
  exact this ⟨k, hk⟩
/-- the stack's longs alone change -/
def EvL (q : Nat) (M M' : mM) : Prop := M'.2.1 = M.2.1 ∧ M'.2.2.2 = M.2.2.2 ∧ ∀ p, p ≠ q → M'.2.2.1 p = M.2.2.1 p
theorem EvL_refl (q : Nat) (M : mM) : EvL q M M := ⟨rfl, rfl, fun _ _ => rfl⟩
theorem EvL_trans {q : Nat} {M M' M'' : mM} (h : EvL q M M') (h' : EvL q M' M'') : EvL q M M'' := ⟨h'.1.trans h.1, h'.2.1.trans h.2.1, fun p hp => (h'.2.2 p hp).trans (h.2.2 p hp)⟩
theorem EvL_L {q : Nat} {M : mM} {i : Nat} {v : Int64} : EvL q M (msL M q i v) := ⟨rfl, rfl, fun p hp => gLp hp⟩
theorem EvL_Eqv {q : Nat} {M M' : mM} (h : EvL q M M') (hq : q ≠ 436) : Eqv M M' := ⟨h.1, by rw [h.2.1, h.2.2 436 (Ne.symm hq)]⟩
theorem sdp_2 {k n m : Nat} (h : sdp (2, k) n = some m) : 2 ≤ n ∧ m = n - 1 := by
  unfold sdp at h
  rw [if_neg (show ¬ (2 : Nat) ≤ 1 by decide), if_neg (show ¬ (2 : Nat) = 3 by decide)] at h
  by_cases c : 2 ≤ n
  · rw [if_pos c] at h; exact ⟨c, (Option.some.inj h).symm⟩
  · rw [if_neg c] at h; cases h
theorem sdp_3 {k n m : Nat} (h : sdp (3, k) n = some m) : 1 ≤ n ∧ m = n := by
  unfold sdp at h
  rw [if_neg (show ¬ (3 : Nat) ≤ 1 by decide), if_pos (show (3 : Nat) = 3 from rfl)] at h
  by_cases c : 1 ≤ n
  · rw [if_pos c] at h; exact ⟨c, (Option.some.inj h).symm⟩
  · rw [if_neg c] at h; cases h
theorem sd_c {o : Oq} {c : List Oq} {n m : Nat} (h : sd (o :: c) n = some m) : ∃ j, sdp o n = some j ∧ sd c j = some m := by
  rw [sd] at h
  cases e : sdp o n with
  | none => rw [e] at h; cases h
  | some j => rw [e] at h; exact ⟨j, rfl, h⟩
theorem l12_no {k : Nat} (h : k < 12) : ¬ (1000 : Int32) ≤ i32 k ∧ ¬ i32 k < 0 ∧ ¬ (12 : Int32) ≤ i32 k ∧ i32 k < 1000 := by
  have : ∀ k : Fin 12, ¬ (1000 : Int32) ≤ i32 k.1 ∧ ¬ i32 k.1 < 0 ∧ ¬ (12 : Int32) ≤ i32 k.1 ∧ i32 k.1 < 1000 := by decide
  exact this ⟨k, h⟩
theorem c_worth10 {S : Nat} (hS : S + 5 ≠ 268) {ws : List Int64} {x1 : Int32} {e : Nat} (he : e ≤ 400) {v : Int64} : ∀ (c : List Oq) (o f : Nat) (st : List Int64) (M : mM), cel cE c o (M.2.1 (S + 1)) → (∀ x, x ∈ c → vo x) → sd c st.length = some 1 → runO ws c st = [v] → st.length + nv c ≤ 60 → o + c.length = e → stkL st (M.2.2.1 (S + 5)) → (∀ k, k < 12 → M.2.2.1 268 k = ws.getD k 0) → c.length < f → OK (f_Rule_worth_10 S x1 (i32 e) f (i32 st.length) (i32 o) M) fun z => z.1 = v ∧ EvL (S + 5) M z.2
  | _, _, 0, _, _, _, _, _, _, _, _, _, _, hf => absurd hf (Nat.not_lt_zero _)
  | [], o, f + 1, st, M, hc, hv, hs, hr, hn, ho, hst, hw, hf => by
    have hr' : st = [v] := hr
    subst hr'
    rw [List.length_nil] at ho
    unfold f_Rule_worth_10
    rw [if_pos (by rw [i32_le (by omega) (by omega)]; omega)]
    unfold f_Rule_worth_181
    rw [List.length_singleton, if_neg (show ¬ i32 1 < 1 by decide), rdL_0 (by omega) (by omega), Option.bind_some]
    exact OK_some ⟨hst.1, EvL_refl _ _⟩
  | x :: c, o, f + 1, st, M, hc, hv, hs, hr, hn, ho, hst, hw, hf => by
    rw [List.length_cons] at ho hf
    rw [nv] at hn
    obtain ⟨hc1, hc2⟩ := hc
    obtain ⟨j, hj, hs2⟩ := sd_c hs
    rw [runO] at hr
    have hvx := hv x List.mem_cons_self
    have hv2 : ∀ y, y ∈ c → vo y := fun y hy => hv y (List.mem_cons_of_mem _ hy)
    unfold f_Rule_worth_10
    rw [if_neg (by rw [i32_le (by omega) (by omega)]; omega), if_neg (by rw [show (400 : Int32) = i32 400 from rfl, i32_le (by omega) (by omega)]; omega), rd_i32 (by omega) (by omega), Option.bind_some, hc1]
    obtain ⟨x0, x2⟩ := x
    -- one more on the stack
    have push : ∀ w : Int64, stq ws (x0, x2) st = w :: st → nv ((x0, x2) :: c) = 1 + nv c → j = st.length + 1 → OK (f_Rule_worth_93 S x1 (i32 e) (f_Rule_worth_10 S x1 (i32 e) f) (i32 st.length) (i32 o) (i32 st.length) w M) fun z => z.1 = v ∧ EvL (S + 5) M z.2 := by
      intro w hw1 hn1 hj1
      rw [nv] at hn1
      unfold f_Rule_worth_93 f_Rule_worth_175
      rw [wrL_i32 (by omega) (by omega), Option.bind_some, nadd_1, nadd_1]
      rw [hw1] at hr
      subst hj1
      exact OK_imp (c_worth10 hS he c (o + 1) f (w :: st) _ hc2 hv2 hs2 hr (by rw [List.length_cons]; omega) (by omega) (stkL_push hst) (fun k hk => by rw [gLp (Ne.symm hS)]; exact hw k hk) (by omega)) fun z hz => ⟨hz.1, EvL_trans EvL_L hz.2⟩
    rcases hvx with ⟨h1, h2⟩ | ⟨h1, h2⟩ | ⟨h1, h2⟩ | h1
    · have h1 : x0 = 0 := h1
      have h2 : x2 < 100000 := h2
      subst h1
      have e1 : cE (0, x2) = i32 (1000 + x2) := rfl
      rw [e1, if_pos (by rw [show (1000 : Int32) = i32 1000 from rfl, i32_le (by omega) (by omega)]; omega)]
      have hn' : st.length + (1 + nv c) ≤ 60 := hn
      unfold f_Rule_worth_55
      rw [if_neg (by rw [show (64 : Int32) = i32 64 from rfl, i32_le (by omega) (by omega)]; omega), if_neg (by rw [show (1000 : Int32) = i32 1000 from rfl, i32_lt (by omega) (by omega)]; omega), show (1000 : Int32) = i32 1000 from rfl, i32_sub (by omega), show 1000 + x2 - 1000 = x2 by omega, toI64_i32 (by omega)]
      exact push _ rfl rfl (Option.some.inj hj).symm
    · have h1 : x0 = 1 := h1
      have h2 : x2 < 12 := h2
      subst h1
      have e1 : cE (1, x2) = i32 x2 := rfl
      have e2 := l12_no h2
      have hn' : st.length + (1 + nv c) ≤ 60 := hn
      rw [e1, if_neg e2.1, if_neg e2.2.1, if_neg e2.2.2.1]
      unfold f_Rule_worth_55
      rw [if_neg (by rw [show (64 : Int32) = i32 64 from rfl, i32_le (by omega) (by omega)]; omega), if_pos e2.2.2.2, rdL_i32 (by omega) (by omega), Option.bind_some, hw x2 h2]
      exact push _ rfl rfl (Option.some.inj hj).symm
    · have h1 : x0 = 2 := h1
      have h2 : x2 < 12 := h2
      subst h1
      have e1 : cE (2, x2) = cB x2 := rfl
      have e2 := cB_ok h2
      rw [e1, if_neg e2.1, if_neg e2.2.1, if_pos e2.2.2.1]
      obtain ⟨hl, hj1⟩ := sdp_2 hj
      obtain ⟨b, a, st', rfl⟩ : ∃ b a st', st = b :: a :: st' := by
        cases st with
        | nil => exact absurd hl (by show ¬ (2 ≤ 0); omega)
        | cons b st =>
          cases st with
          | nil => exact absurd hl (by show ¬ (2 ≤ 1); omega)
          | cons a st => exact ⟨b, a, st, rfl⟩
      have el : (b :: a :: st').length = st'.length + 1 + 1 := rfl
      have hn' : st'.length + 1 + 1 + (0 + nv c) ≤ 60 := hn
      obtain ⟨s1, s2, s3⟩ := hst
      have s1 : M.2.2.1 (S + 5) (st'.length + 1) = b := s1
      unfold f_Rule_worth_100
      rw [if_neg e2.2.2.2, el, if_neg (by rw [show (2 : Int32) = i32 2 from rfl, i32_lt (by omega) (by omega)]; omega), i32_dec (by omega), show st'.length + 1 + 1 - 1 = st'.length + 1 by omega, show (1 : Int32) = i32 1 from rfl, i32_sub (by omega), show st'.length + 1 - 1 = st'.length by omega, rdL_i32 (by omega) (by omega), Option.bind_some, rdL_i32 (by omega) (by omega), Option.bind_some, s1, s2, c_join h2, Option.bind_some]
      dsimp only
      rw [wrL_i32 (by omega) (by omega), Option.bind_some]
      unfold f_Rule_worth_175
      rw [nadd_1]
      have hr' : runO ws c (jn x2 a b :: st') = [v] := hr
      have hs2' : sd c (jn x2 a b :: st').length = some 1 := by
        rw [List.length_cons]
        rw [hj1, el] at hs2
        exact hs2
      have := c_worth10 hS he (x1 := x1) c (o + 1) f (jn x2 a b :: st') (msL M (S + 5) st'.length (jn x2 a b)) hc2 hv2 hs2' hr' (by rw [List.length_cons]; omega) (by omega) (stkL_push s3) (fun k hk => by rw [gLp (Ne.symm hS)]; exact hw k hk) (by omega)
      exact OK_imp this fun z hz => ⟨hz.1, EvL_trans EvL_L hz.2⟩
    · have h1 : x0 = 3 := h1
      subst h1
      have e1 : cE (3, x2) = 33 := rfl
      rw [e1, if_neg (by decide), if_neg (by decide), if_pos (by decide)]
      obtain ⟨hl, hj1⟩ := sdp_3 hj
      obtain ⟨b, st', rfl⟩ : ∃ b st', st = b :: st' := by
        cases st with
        | nil => exact absurd hl (by show ¬ (1 ≤ 0); omega)
        | cons b st => exact ⟨b, st, rfl⟩
      have el : (b :: st').length = st'.length + 1 := rfl
      have hn' : st'.length + 1 + (0 + nv c) ≤ 60 := hn
      obtain ⟨s1, s3⟩ := hst
      unfold f_Rule_worth_100
      rw [if_pos rfl, el, if_neg (by rw [show (1 : Int32) = i32 1 from rfl, i32_lt (by omega) (by omega)]; omega), show (1 : Int32) = i32 1 from rfl, i32_sub (by omega), show st'.length + 1 - 1 = st'.length by omega, rdL_i32 (by omega) (by omega), Option.bind_some, s1, wrL_i32 (by omega) (by omega), Option.bind_some]
      unfold f_Rule_worth_175
      rw [nadd_1]
      have hr' : runO ws c ((1 - b) :: st') = [v] := hr
      have hs2' : sd c ((1 - b) :: st').length = some 1 := by
        rw [List.length_cons]
        rw [hj1, el] at hs2
        exact hs2
      have := c_worth10 hS he (x1 := x1) c (o + 1) f ((1 - b) :: st') (msL M (S + 5) st'.length (1 - b)) hc2 hv2 hs2' hr' (by rw [List.length_cons]; omega) (by omega) (stkL_push s3) (fun k hk => by rw [gLp (Ne.symm hS)]; exact hw k hk) (by omega)
      exact OK_imp this fun z hz => ⟨hz.1, EvL_trans EvL_L hz.2⟩
theorem c_worth {S : Nat} (hS : S + 5 ≠ 268) {ws : List Int64} {c : List Oq} (hp : Pu c) (hn : nv c ≤ 60) {o : Nat} (ho : o + c.length ≤ 400) {M : mM} (hc : cel cE c o (M.2.1 (S + 1))) (hw : ∀ k, k < 12 → M.2.2.1 268 k = ws.getD k 0) : OK (f_Rule_worth S (i32 o) (i32 (o + c.length)) M) fun z => z.1 = ev ws c ∧ EvL (S + 5) M z.2 := by
  unfold f_Rule_worth
  have e : (if 0 < i32 o then i32 o else 0) = i32 o := by
    by_cases c : 0 < o
    · rw [if_pos (by rw [show (0 : Int32) = i32 0 from rfl, i32_lt (by omega) (by omega)]; exact c)]
    · rw [show o = 0 by omega]; rfl
  rw [e]
  exact c_worth10 hS ho c o FUEL [] M hc hp.1 (hp.2.1 0) (hp.2.2 ws []) (by show 0 + nv c ≤ 60; omega) rfl True.intro hw (by rw [FUEL_eq]; omega)
/-! clauses -/
def cl (v : Int64) : Nat := if v < 0 then 0 else if v < 9 then v.toNatClampNeg else 9
theorem cl_le (v : Int64) : cl v ≤ 9 := by
  unfold cl
  split
  · omega
  · rename_i h
    split
    · rename_i h2
      rw [Int64.lt_iff_toInt_lt, show (9 : Int64).toInt = 9 by decide] at h2
      have : v.toNatClampNeg = v.toInt.toNat := rfl
      omega
    · omega
theorem cl_32 {v : Int64} (h : ¬ v < 0) (h2 : ¬ 9 < v) : Int64.toInt32 v = i32 (cl v) := by
  rw [Int64.lt_iff_toInt_lt, show (0 : Int64).toInt = 0 by decide] at h
  rw [Int64.lt_iff_toInt_lt, show (9 : Int64).toInt = 9 by decide] at h2
  have e : v = Int64.ofNat v.toInt.toNat := by
    rw [← Int64.toInt_inj, i64_toInt (by omega)]
    omega
  obtain ⟨n, hn, e⟩ : ∃ n, n < 10 ∧ v = Int64.ofNat n := ⟨v.toInt.toNat, by omega, e⟩
  rw [e]
  have : ∀ n : Fin 10, Int64.toInt32 (Int64.ofNat n.1) = i32 (cl (Int64.ofNat n.1)) := by decide
  exact this ⟨n, hn⟩
theorem c_clamp (v : Int64) : Int64.toInt32 (if (if v < 9 then v else 9) < 0 then 0 else (if v < 9 then v else 9)) = i32 (cl v) := by
  by_cases a : v < 0
  · have b : v < 9 := by
      rw [Int64.lt_iff_toInt_lt, show (0 : Int64).toInt = 0 by decide] at a
      rw [Int64.lt_iff_toInt_lt, show (9 : Int64).toInt = 9 by decide]
      omega
    rw [if_pos b, if_pos a]
    unfold cl
    rw [if_pos a]
    rfl
  · by_cases b : v < 9
    · rw [if_pos b, if_neg a]
      refine cl_32 a ?_
      rw [Int64.lt_iff_toInt_lt, show (9 : Int64).toInt = 9 by decide] at b ⊢
      omega
    · rw [if_neg b, if_neg (by decide)]
      unfold cl
      rw [if_neg a, if_neg b]
      rfl
/-- what a rule says -/
def rf (ws : List Int64) : List Cl → Nat
  | [] => 0
  | k :: R => obd k.2 (cl (ev ws k.1)) fun z => if ev ws z = 0 then rf ws R else cl (ev ws k.1)
theorem rf_le (ws : List Int64) : ∀ R : List Cl, rf ws R ≤ 9
  | [] => Nat.zero_le _
  | k :: R => by
    rw [rf]
    cases k.2 with
    | none => rw [obd_n]; exact cl_le _
    | some z =>
      rw [obd_s]
      split
      · exact rf_le ws R
      · exact cl_le _
def lnC (k : Cl) : Nat := k.1.length + (zl k.2).length
def lnR : List Cl → Nat
  | [] => 0
  | k :: R => lnC k + lnR R
/-- the class's clauses from the i-th on, their code from o on -/
def ofc (S : Nat) (M : mM) : List Cl → Nat → Nat → Prop
  | [], _, _ => True
  | k :: R, i, o => (M.2.1 (S + 2) i = i32 o ∧ M.2.1 (S + 3) i = i32 (o + k.1.length) ∧ M.2.1 (S + 4) i = i32 (o + k.1.length + (zl k.2).length)) ∧ cel cE k.1 o (M.2.1 (S + 1)) ∧ cel cE (zl k.2) (o + k.1.length) (M.2.1 (S + 1)) ∧ ofc S M R (i + 1) (o + lnC k)
theorem ofc_of {S : Nat} {M M' : mM} : ∀ (R : List Cl) (i o : Nat), (∀ j, i ≤ j → j < i + R.length → M'.2.1 (S + 2) j = M.2.1 (S + 2) j ∧ M'.2.1 (S + 3) j = M.2.1 (S + 3) j ∧ M'.2.1 (S + 4) j = M.2.1 (S + 4) j) → (∀ j, o ≤ j → j < o + lnR R → M'.2.1 (S + 1) j = M.2.1 (S + 1) j) → ofc S M R i o → ofc S M' R i o
  | [], _, _, _, _, _ => True.intro
  | k :: R, i, o, e1, e2, h => by
    rw [List.length_cons] at e1
    rw [lnR] at e2
    have el : lnC k = k.1.length + (zl k.2).length := rfl
    obtain ⟨⟨h1, h2, h3⟩, h4, h5, h6⟩ := h
    obtain ⟨a1, a2, a3⟩ := e1 i (Nat.le_refl _) (by omega)
    exact ⟨⟨a1.trans h1, a2.trans h2, a3.trans h3⟩, cel_of _ _ (fun j a b => e2 j a (by omega)) h4, cel_of _ _ (fun j a b => e2 j (by omega) (by omega)) h5, ofc_of R (i + 1) (o + lnC k) (fun j a b => e1 j (by omega) (by omega)) (fun j a b => e2 j (by omega) (by omega)) h6⟩
theorem c_steps2 {S : Nat} (hS : S + 5 ≠ 268) {ws : List Int64} {N : Nat} (hN : N ≤ 12) : ∀ (R : List Cl) (i o f : Nat) (M : mM), ofc S M R i o → (∀ k, k ∈ R → Cw k) → i + R.length = N → M.2.1 S 5 = i32 N → o + lnR R ≤ 400 → (∀ k, k < 12 → M.2.2.1 268 k = ws.getD k 0) → R.length < f → OK (f_Rule_stepsBy_2 S f (i32 i) M) fun z => z.1 = i32 (rf ws R) ∧ EvL (S + 5) M z.2
  | _, _, _, 0, _, _, _, _, _, _, _, hf => absurd hf (Nat.not_lt_zero _)
  | [], i, o, f + 1, M, hc, hk, hi, h5, ho, hw, hf => by
    rw [List.length_nil] at hi
    unfold f_Rule_stepsBy_2
    rw [h5, if_pos (by rw [i32_le (by omega) (by omega)]; omega)]
    exact OK_some ⟨rfl, EvL_refl _ _⟩
  | k :: R, i, o, f + 1, M, hc, hk, hi, h5, ho, hw, hf => by
    rw [List.length_cons] at hi hf
    rw [lnR] at ho
    have el : lnC k = k.1.length + (zl k.2).length := rfl
    obtain ⟨⟨h1, h2, h3⟩, h4, h6, h7⟩ := hc
    obtain ⟨w1, w2, w3⟩ := hk k List.mem_cons_self
    unfold f_Rule_stepsBy_2
    rw [h5, if_neg (by rw [i32_le (by omega) (by omega)]; omega), if_neg (by rw [show (12 : Int32) = i32 12 from rfl, i32_le (by omega) (by omega)]; omega), rd_i32 (by omega) (by omega), Option.bind_some, rd_i32 (by omega) (by omega), Option.bind_some, h2, h3, rf]
    have sum : ∀ M1 : mM, EvL (S + 5) M M1 → OK (f_Rule_stepsBy_63 S (i32 i) M1) fun z => z.1 = i32 (cl (ev ws k.1)) ∧ EvL (S + 5) M z.2 := by
      intro M1 e1
      unfold f_Rule_stepsBy_63
      rw [rd_i32 (by omega) (by omega), Option.bind_some, rd_i32 (by omega) (by omega), Option.bind_some, e1.1, h1, h2]
      refine OK_bind (c_worth hS w1 w2 (o := o) (by omega) (by rw [e1.1]; exact h4) (ws := ws) (fun j hj => by rw [e1.2.2 268 (Ne.symm hS)]; exact hw j hj)) fun z hz => ?_
      rw [hz.1]
      exact OK_some ⟨c_clamp _, EvL_trans e1 hz.2⟩
    cases ez : k.2 with
    | none =>
      rw [obd_n]
      have e0 : (zl none).length = 0 := rfl
      rw [if_pos (by rw [e0, i32_le (by omega) (by omega)]; omega)]
      unfold f_Rule_stepsBy_36
      rw [if_pos rfl]
      exact sum M (EvL_refl _ _)
    | some y =>
      rw [obd_s]
      obtain ⟨y1, y2, y3⟩ := w3 y ez
      rw [ez] at h3 h6 el
      have e0 : zl (some y) = y := rfl
      rw [e0] at h3 h6 el ⊢
      have yl := Pu_pos y1
      rw [if_neg (by rw [i32_le (by omega) (by omega)]; omega)]
      unfold f_Rule_stepsBy_36
      rw [if_neg (by decide), rd_i32 (by omega) (by omega), Option.bind_some, rd_i32 (by omega) (by omega), Option.bind_some, h2, h3]
      refine OK_bind (c_worth hS y1 y3 (o := o + k.1.length) (by omega) h6 hw) fun z hz => ?_
      have en : (lg_cmp z.1 0 = 0) = (ev ws y = 0) := by rw [lg_eq0, hz.1]
      by_cases c : ev ws y = 0
      · rw [if_pos (by rw [en]; exact c), if_pos c, nadd_1]
        refine OK_imp (c_steps2 hS (ws := ws) hN R (i + 1) (o + lnC k) f z.2 (ofc_of R _ _ (fun j _ _ => by rw [hz.2.1]; exact ⟨rfl, rfl, rfl⟩) (fun j _ _ => by rw [hz.2.1]) h7) (fun k hk' => hk k (List.mem_cons_of_mem _ hk')) (by omega) (by rw [hz.2.1]; exact h5) (by omega) (fun j hj => by rw [hz.2.2.2 268 (Ne.symm hS)]; exact hw j hj) (by omega)) fun z' hz' => ⟨hz'.1, EvL_trans hz.2 hz'.2⟩
      · rw [if_neg (by rw [en]; exact c), if_neg c]
        exact sum z.2 hz.2
/-- a rule of the class, as read -/
def CRl (S : Nat) (R : List Cl) (M : mM) : Prop := M.2.1 S 5 = i32 R.length ∧ R.length ≤ 12 ∧ lnR R ≤ 400 ∧ ofc S M R 0 0
theorem RLk_R {k : Nat} (hk : k < 6) {R : List Cl} {M : mM} (h : CRl (308 + 6 * k) R M) (hw : ∀ c, c ∈ R → Cw c) : RLk k (fun ws => rf ws R) M := by
  intro M1 h1 ws hws
  obtain ⟨r1, r2, r3, r4⟩ := h
  unfold f_Rule_stepsBy
  have e0 : M1.2.1 (308 + 6 * k) = M.2.1 (308 + 6 * k) := h1 _ (by omega) (by omega)
  have e1 : M1.2.1 (308 + 6 * k + 1) = M.2.1 (308 + 6 * k + 1) := h1 _ (by omega) (by omega)
  have e2 : M1.2.1 (308 + 6 * k + 2) = M.2.1 (308 + 6 * k + 2) := h1 _ (by omega) (by omega)
  have e3 : M1.2.1 (308 + 6 * k + 3) = M.2.1 (308 + 6 * k + 3) := h1 _ (by omega) (by omega)
  have e4 : M1.2.1 (308 + 6 * k + 4) = M.2.1 (308 + 6 * k + 4) := h1 _ (by omega) (by omega)
  refine OK_imp (c_steps2 (S := 308 + 6 * k) (by omega) r2 R 0 0 FUEL M1 (ofc_of R 0 0 (fun j _ _ => by rw [e2, e3, e4]; exact ⟨rfl, rfl, rfl⟩) (fun j _ _ => by rw [e1]) r4) hw (Nat.zero_add _) (by rw [e0]; exact r1) (by omega) hws (by rw [FUEL_eq]; omega)) fun z hz => ⟨hz.1, EvL_Eqv hz.2 (by omega)⟩
