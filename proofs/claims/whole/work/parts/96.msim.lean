/-! ===== a rule is read: the model's tests are what is told of them ===== -/
section
variable {x : Nat} {t : Tp} {M0 : mM}
theorem PC_11 {S : List Nat} {l : List Oq} {p m : Nat} {r : Rt} : PC x t M0 (11 :: S) l p m r = PC x t M0 S (l ++ [(3, 0)]) p m r := by
  unfold PC
  have : stl 3 (11 :: S) l = stl 3 S (l ++ [(3, 0)]) := by rw [stl, if_neg (show ¬ srt 11 < 3 by decide)]; rfl
  rw [this]
def bas (B : List Nat) : Prop := B = [] ∨ ∃ B', B = 91 :: B'
def stA (A : Pd) (S : List Nat) : List Nat := obd A S fun _ => 12 :: S
def stO (T : Pd) (S : List Nat) : List Nat := obd T S fun _ => 13 :: S
def okA (A : Pd) : Prop := A = none ∨ ∃ a, A = some (10, a)
def okO (T : Pd) : Prop := T = none ∨ ∃ a, T = some (11, a)
theorem stl_b {k : Nat} (hk : 1 ≤ k) {B : List Nat} (hB : bas B) (l : List Oq) : stl k B l = (B, l) := by
  rcases hB with h | ⟨B', h⟩ <;> subst h
  · rfl
  · rw [stl, if_pos (show srt 91 < k from by have : srt 91 = 0 := rfl; omega)]
theorem stl_o {k : Nat} (hk : 2 ≤ k) {B : List Nat} (hB : bas B) (T : Pd) (l : List Oq) : stl k (stO T B) l = (stO T B, l) := by
  cases T with
  | none => exact stl_b (by omega) hB l
  | some q =>
    show stl k (13 :: B) l = _
    rw [stl, if_pos (show srt 13 < k from by have : srt 13 = 1 := rfl; omega)]
    rfl
theorem stl_a3 {B : List Nat} (hB : bas B) (A T : Pd) (l : List Oq) : stl 3 (stA A (stO T B)) l = (stA A (stO T B), l) := by
  cases A with
  | none => exact stl_o (by omega) hB T l
  | some q =>
    show stl 3 (12 :: stO T B) l = _
    rw [stl, if_pos (show srt 12 < 3 by decide)]
    rfl
theorem stl_a2 {B : List Nat} (hB : bas B) {A : Pd} (hA : okA A) (T : Pd) (l e : List Oq) : stl 2 (stA A (stO T B)) (l ++ ja A ++ e) = (stO T B, l ++ jo A e) := by
  rcases hA with h | ⟨a, h⟩ <;> subst h
  · show stl 2 (stO T B) (l ++ [] ++ e) = _
    rw [List.append_nil, stl_o (by omega) hB]
    rfl
  · show stl 2 (12 :: stO T B) (l ++ a ++ e) = _
    rw [stl, if_neg (show ¬ srt 12 < 2 by decide), stl_o (by omega) hB]
    show (stO T B, l ++ a ++ e ++ [(2, 10)]) = (stO T B, l ++ (a ++ e ++ [(2, 10)]))
    simp only [List.append_assoc]
theorem stl_o1 {B : List Nat} (hB : bas B) {T : Pd} (hT : okO T) (l e : List Oq) : stl 1 (stO T B) (l ++ ja T ++ e) = (B, l ++ jo T e) := by
  rcases hT with h | ⟨a, h⟩ <;> subst h
  · show stl 1 B (l ++ [] ++ e) = _
    rw [List.append_nil, stl_b (by omega) hB]
    rfl
  · show stl 1 (13 :: B) (l ++ a ++ e) = _
    rw [stl, if_neg (show ¬ srt 13 < 1 by decide), stl_b (by omega) hB]
    show (B, l ++ a ++ e ++ [(2, 11)]) = (B, l ++ (a ++ e ++ [(2, 11)]))
    simp only [List.append_assoc]
theorem stl_a1 {B : List Nat} (hB : bas B) {A T : Pd} (hA : okA A) (hT : okO T) (l e : List Oq) : stl 1 (stA A (stO T B)) (l ++ ja T ++ ja A ++ e) = (B, l ++ jo T (jo A e)) := by
  rcases hA with h | ⟨a, h⟩ <;> subst h
  · show stl 1 (stO T B) (l ++ ja T ++ [] ++ e) = _
    rw [List.append_nil, stl_o1 hB hT]
    rfl
  · show stl 1 (12 :: stO T B) (l ++ ja T ++ a ++ e) = _
    rw [stl, if_neg (show ¬ srt 12 < 1 by decide)]
    have : l ++ ja T ++ a ++ e ++ [opc 12] = l ++ ja T ++ (a ++ e ++ [(2, 10)]) := by
      show l ++ ja T ++ a ++ e ++ [(2, 10)] = _
      simp only [List.append_assoc]
    rw [this, stl_o1 hB hT]
    rfl
theorem mem_b {B : List Nat} (hB : bas B) : 91 ∈ B ↔ B ≠ [] := by
  rcases hB with h | ⟨B', h⟩ <;> subst h
  · exact ⟨fun z => (by cases z), fun z => absurd rfl z⟩
  · exact ⟨fun _ z => (by cases z), fun _ => List.mem_cons_self⟩
theorem mem_o {B : List Nat} (T : Pd) : 91 ∈ stO T B ↔ 91 ∈ B := by
  cases T with
  | none => exact Iff.rfl
  | some q => exact ⟨fun z => by rcases List.mem_cons.mp z with y | y; exact absurd y (by decide); exact y, fun z => List.mem_cons_of_mem _ z⟩
theorem mem_a {B : List Nat} (A T : Pd) : 91 ∈ stA A (stO T B) ↔ 91 ∈ B := by
  cases A with
  | none => exact mem_o T
  | some q =>
    refine Iff.trans ?_ (mem_o T)
    exact ⟨fun z => by rcases List.mem_cons.mp z with y | y; exact absurd y (by decide); exact y, fun z => List.mem_cons_of_mem _ z⟩
theorem dp_o (T : Pd) (B : List Nat) : dpS (stO T B) = dpS B := by
  cases T with
  | none => rfl
  | some q => exact Nat.zero_add _
/-- the and-group so far is y -/
def PNd (x : Nat) (t : Tp) (M0 : mM) (T : Pd) (B : List Nat) (l y : List Oq) (p m : Nat) (r : Rt) : Prop := ∀ A e, okA A → jo A e = y → PC x t M0 (stA A (stO T B)) (l ++ ja A ++ e) p m r
/-- a reader of facts does what is told of it -/
def FS (x : Nat) (t : Tp) (M0 : mM) (fc : Nat → Nat → Rs) (d : Nat) : Prop := ∀ S l p m, dpS S = d → (∀ w, fc p m = .error w → PF x t M0 S l p m (.error w)) ∧ (∀ e p' m' r, fc p m = .ok (e, p', m') → PC x t M0 S (l ++ e) p' m' r → PF x t M0 S l p m r)
theorem isw_sg {b p : Nat} {c : Int32} (hb : b < 8) (h : ¬ isw t b p = -1) : ¬ sgn t p c = true := fun z => by
  have h1 := isw_2 hb h
  have h2 := sgn_3 z
  omega
theorem PN_and (hx : x < 6) (ht : t.1 ≤ 400) (hT : OKT t) {T : Pd} {B : List Nat} (hB : bas B) {l y : List Oq} {p m : Nat} {r : Rt} (w : ¬ isw t 6 p = -1) (h : PF x t M0 (12 :: stO T B) (l ++ y) (nxp t p) m r) : PNd x t M0 T B l y p m r := by
  intro A e hA hy
  unfold PC
  rw [stl_a3 hB]
  refine PD_step hx ht hT (fun s => absurd s (isw_sg (by omega) w)) (fun _ _ => ?_) (fun _ z => absurd z w) (fun _ z => absurd z w) (fun z => absurd z w)
  dsimp only
  rw [stl_a2 hB hA, hy]
  exact h
theorem AndS (hx : x < 6) (ht : t.1 ≤ 400) (hT : OKT t) {fc : Nat → Nat → Rs} {d : Nat} (hF : FS x t M0 fc d) (hO : FcOK t fc) {T : Pd} {B : List Nat} (hB : bas B) (hd : dpS B = d) {l : List Oq} : ∀ (k p m : Nat) (y : List Oq), t.1 < p + k → p ≤ t.1 → (∀ w, sAnd t fc k p m y = .error w → PNd x t M0 T B l y p m (.error w)) ∧ (∀ y' p' m' r, sAnd t fc k p m y = .ok (y', p', m') → (isw t 6 p' = -1 → PNd x t M0 T B l y' p' m' r) → PNd x t M0 T B l y p m r)
  | 0, p, m, y, hk, hp => by omega
  | k + 1, p, m, y, hk, hp => by
    rw [sAnd]
    by_cases w : isw t 6 p = -1
    · rw [if_pos w]
      refine ⟨fun w' e => (by cases e), fun y' p' m' r e h => ?_⟩
      have e1 := Except.ok.inj e
      have e2 : y = y' := congrArg Prod.fst e1
      have e3 : p = p' := congrArg (fun z => z.2.1) e1
      have e4 : m = m' := congrArg (fun z => z.2.2) e1
      subst e2 e3 e4
      exact h w
    · have hn := isw_gt (by omega) w
      rw [if_neg w]
      have hS : dpS (12 :: stO T B) = d := by
        show (if 12 = 11 ∨ 12 = 91 then 1 else 0) + dpS (stO T B) = d
        rw [if_neg (by decide), Nat.zero_add, dp_o]
        exact hd
      have hf := hF (12 :: stO T B) (l ++ y) (nxp t p) m hS
      cases ez : fc (nxp t p) m with
      | error w' =>
        rw [ebd_e]
        refine ⟨fun w2 e => ?_, fun y' p' m' r e _ => (by cases e)⟩
        have e1 : w' = w2 := Except.error.inj e
        subst e1
        exact PN_and hx ht hT hB w (hf.1 w' ez)
      | ok z =>
        obtain ⟨z, p1, m1⟩ := z
        have b6 : nxp t p < p1 := (hO 0 0 _ _ _ (Nat.zero_le _) (Nat.zero_le _) ez).2.1
        have b5 : p1 ≤ t.1 := (hO 0 0 _ _ _ (Nat.zero_le _) (Nat.zero_le _) ez).1.2.2.2.2
        rw [ebd_o]
        have ih := AndS hx ht hT hF hO hB hd (T := T) (l := l) k p1 m1 (y ++ z ++ [(2, 10)]) (by omega) b5
        have on : ∀ r, PNd x t M0 T B l (y ++ z ++ [(2, 10)]) p1 m1 r → PNd x t M0 T B l y p m r := by
          intro r h
          refine PN_and hx ht hT hB w (hf.2 z p1 m1 r ez ?_)
          exact h (some (10, y)) z (Or.inr ⟨y, rfl⟩) rfl
        exact ⟨fun w' e => on _ (ih.1 w' e), fun y' p' m' r e h => on _ (ih.2 y' p' m' r e h)⟩
/-- the test is over -/
def PE (x : Nat) (t : Tp) (M0 : mM) (B : List Nat) (l : List Oq) (p m : Nat) (r : Rt) : Prop := (B = [] → r = .ok (l, p, m)) ∧ ∀ B', B = 91 :: B' → (sgn t p 93 = true → PC x t M0 B' l (nxp t p) m r) ∧ (¬ sgn t p 93 = true → r = .error (flt (skp t p) 0))
/-- the or-group so far is v -/
def PQ (x : Nat) (t : Tp) (M0 : mM) (B : List Nat) (l v : List Oq) (p m : Nat) (r : Rt) : Prop := ∀ T y, okO T → jo T y = v → PNd x t M0 T B (l ++ ja T) y p m r
theorem PQ_end (hx : x < 6) (ht : t.1 ≤ 400) (hT : OKT t) {B : List Nat} (hB : bas B) {l v : List Oq} {p m : Nat} {r : Rt} (w6 : isw t 6 p = -1) (w7 : isw t 7 p = -1) (h : PE x t M0 B (l ++ v) p m r) : PQ x t M0 B l v p m r := by
  intro T y hO hy A e hA he
  unfold PC
  rw [stl_a3 hB]
  have e1 : stl 1 (stA A (stO T B)) (l ++ ja T ++ ja A ++ e) = (B, l ++ v) := by rw [stl_a1 hB hA hO, he, hy]
  refine PD_step hx ht hT (fun s hm => ?_) (fun _ z => absurd w6 z) (fun _ _ z => absurd w7 z) (fun hc _ _ hm => ?_) (fun _ _ hm => ?_)
  · dsimp only at hm ⊢
    rw [mem_a] at hm
    rcases hB with hb | ⟨B', hb⟩
    · rw [hb] at hm; cases hm
    · exact ⟨B', l ++ v, by rw [e1, hb], (h.2 B' hb).1 s⟩
  · dsimp only at hm hc
    have hm' := hm
    rw [mem_a] at hm
    rcases hB with hb | ⟨B', hb⟩
    · rw [hb] at hm; cases hm
    · exact (h.2 B' hb).2 fun z => hc ⟨z, hm'⟩
  · dsimp only at hm ⊢
    rw [mem_a] at hm
    rcases hB with hb | ⟨B', hb⟩
    · exact ⟨l ++ v, by rw [e1, hb], h.1 hb⟩
    · exact absurd (by rw [hb]; exact List.mem_cons_self) hm
theorem PQ_or (hx : x < 6) (ht : t.1 ≤ 400) (hT : OKT t) {B : List Nat} (hB : bas B) {l v : List Oq} {p m : Nat} {r : Rt} (w6 : isw t 6 p = -1) (w7 : ¬ isw t 7 p = -1) (h : PF x t M0 (13 :: B) (l ++ v) (nxp t p) m r) : PQ x t M0 B l v p m r := by
  intro T y hO hy A e hA he
  unfold PC
  rw [stl_a3 hB]
  have e1 : stl 1 (stA A (stO T B)) (l ++ ja T ++ ja A ++ e) = (B, l ++ v) := by rw [stl_a1 hB hA hO, he, hy]
  refine PD_step hx ht hT (fun s => absurd s (isw_sg (by omega) w7)) (fun _ z => absurd w6 z) (fun _ _ _ => ?_) (fun _ _ z => absurd z w7) (fun _ z => absurd z w7)
  dsimp only
  rw [e1]
  exact h
theorem OrS (hx : x < 6) (ht : t.1 ≤ 400) (hT : OKT t) {fc : Nat → Nat → Rs} {d : Nat} (hF : FS x t M0 fc d) (hO : FcOK t fc) {B : List Nat} (hB : bas B) (hd : dpS B = d) {l : List Oq} : ∀ (k p m : Nat) (v : List Oq), t.1 < p + k → p ≤ t.1 → isw t 6 p = -1 → (∀ w, sOr t fc k p m v = .error w → PQ x t M0 B l v p m (.error w)) ∧ (∀ v' p' m' r, sOr t fc k p m v = .ok (v', p', m') → PE x t M0 B (l ++ v') p' m' r → PQ x t M0 B l v p m r)
  | 0, p, m, v, hk, hp, w6 => by omega
  | k + 1, p, m, v, hk, hp, w6 => by
    rw [sOr]
    by_cases w : isw t 7 p = -1
    · rw [if_pos w]
      refine ⟨fun w' e => (by cases e), fun v' p' m' r e h => ?_⟩
      have e1 := Except.ok.inj e
      have e2 : v = v' := congrArg Prod.fst e1
      have e3 : p = p' := congrArg (fun z => z.2.1) e1
      have e4 : m = m' := congrArg (fun z => z.2.2) e1
      subst e2 e3 e4
      exact PQ_end hx ht hT hB w6 w h
    · have hn := isw_gt (by omega) w
      rw [if_neg w]
      have hS : dpS (13 :: B) = d := by
        show (if 13 = 11 ∨ 13 = 91 then 1 else 0) + dpS B = d
        rw [if_neg (by decide), Nat.zero_add]
        exact hd
      have hf := hF (13 :: B) (l ++ v) (nxp t p) m hS
      cases ez : fc (nxp t p) m with
      | error w' =>
        rw [ebd_e]
        refine ⟨fun w2 e => ?_, fun y' p' m' r e _ => (by cases e)⟩
        have e1 : w' = w2 := Except.error.inj e
        subst e1
        exact PQ_or hx ht hT hB w6 w (hf.1 w' ez)
      | ok z =>
        obtain ⟨z, p1, m1⟩ := z
        have kz := hO 0 0 _ _ _ (Nat.zero_le _) (Nat.zero_le _) ez
        have b6 : nxp t p < p1 := kz.2.1
        have b5 : p1 ≤ t.1 := kz.1.2.2.2.2
        rw [ebd_o]
        have on1 : ∀ r, PNd x t M0 (some (11, v)) B (l ++ v) z p1 m1 r → PQ x t M0 B l v p m r := by
          intro r h
          refine PQ_or hx ht hT hB w6 w (hf.2 z p1 m1 r ez ?_)
          have := h none z (Or.inl rfl) rfl
          have el : l ++ v ++ ja none ++ z = l ++ v ++ z := by show l ++ v ++ [] ++ z = _; rw [List.append_nil]
          rw [el] at this
          exact this
        have ih1 := AndS hx ht hT hF hO hB hd (T := some (11, v)) (l := l ++ v) 401 p1 m1 z (by omega) b5
        show (∀ w, ebd (sAnd t fc 401 p1 m1 z) _ = .error w → _) ∧ (∀ v' p' m' r, ebd (sAnd t fc 401 p1 m1 z) _ = .ok (v', p', m') → _ → _)
        cases ey : sAnd t fc 401 p1 m1 z with
        | error w' =>
          rw [ebd_e]
          refine ⟨fun w2 e => ?_, fun y' p' m' r e _ => (by cases e)⟩
          have e1 : w' = w2 := Except.error.inj e
          subst e1
          exact on1 _ (ih1.1 w' ey)
        | ok y =>
          obtain ⟨y, p2, m2⟩ := y
          have ky := sAnd_ok hO 401 p1 m1 z _ kz.1 kz.2.2 ey
          have c6 : p1 ≤ p2 := ky.2.1
          have c5 : p2 ≤ t.1 := ky.1.2.2.2.2
          rw [ebd_o]
          have on : ∀ r, (isw t 6 p2 = -1 → PQ x t M0 B l (v ++ y ++ [(2, 11)]) p2 m2 r) → PQ x t M0 B l v p m r := by
            intro r h
            refine on1 r (ih1.2 y p2 m2 r ey fun w2 => ?_)
            exact h w2 (some (11, v)) y (Or.inr ⟨v, rfl⟩) rfl
          exact ⟨fun w' e => on _ fun w2 => (OrS hx ht hT hF hO hB hd k p2 m2 _ (by omega) c5 w2).1 w' e, fun v' p' m' r e h => on _ fun w2 => (OrS hx ht hT hF hO hB hd k p2 m2 _ (by omega) c5 w2).2 v' p' m' r e h⟩
theorem TestS (hx : x < 6) (ht : t.1 ≤ 400) (hT : OKT t) {fc : Nat → Nat → Rs} {d : Nat} (hF : FS x t M0 fc d) (hO : FcOK t fc) {B : List Nat} (hB : bas B) (hd : dpS B = d) {l : List Oq} {p m : Nat} : (∀ w, sTst t fc p m = .error w → PF x t M0 B l p m (.error w)) ∧ (∀ v p' m' r, sTst t fc p m = .ok (v, p', m') → PE x t M0 B (l ++ v) p' m' r → PF x t M0 B l p m r) := by
  unfold sTst
  have hf := hF B l p m hd
  cases ez : fc p m with
  | error w' =>
    rw [ebd_e]
    refine ⟨fun w2 e => ?_, fun y' p' m' r e _ => (by cases e)⟩
    have e1 : w' = w2 := Except.error.inj e
    subst e1
    exact hf.1 w' ez
  | ok z =>
    obtain ⟨z, p1, m1⟩ := z
    have kz := hO 0 0 _ _ _ (Nat.zero_le _) (Nat.zero_le _) ez
    have b5 : p1 ≤ t.1 := kz.1.2.2.2.2
    rw [ebd_o]
    have on1 : ∀ r, PNd x t M0 none B l z p1 m1 r → PF x t M0 B l p m r := by
      intro r h
      refine hf.2 z p1 m1 r ez ?_
      have := h none z (Or.inl rfl) rfl
      have el : l ++ ja none ++ z = l ++ z := by show l ++ [] ++ z = _; rw [List.append_nil]
      rw [el] at this
      exact this
    have ih1 := AndS hx ht hT hF hO hB hd (T := none) (l := l) 401 p1 m1 z (by omega) b5
    show (∀ w, ebd (sAnd t fc 401 p1 m1 z) _ = .error w → _) ∧ (∀ v' p' m' r, ebd (sAnd t fc 401 p1 m1 z) _ = .ok (v', p', m') → _ → _)
    cases ey : sAnd t fc 401 p1 m1 z with
    | error w' =>
      rw [ebd_e]
      refine ⟨fun w2 e => ?_, fun y' p' m' r e _ => (by cases e)⟩
      have e1 : w' = w2 := Except.error.inj e
      subst e1
      exact on1 _ (ih1.1 w' ey)
    | ok y =>
      obtain ⟨y, p2, m2⟩ := y
      have ky := sAnd_ok hO 401 p1 m1 z _ kz.1 kz.2.2 ey
      have c5 : p2 ≤ t.1 := ky.1.2.2.2.2
      rw [ebd_o]
      have on : ∀ r, (isw t 6 p2 = -1 → PQ x t M0 B l y p2 m2 r) → PF x t M0 B l p m r := by
        intro r h
        refine on1 r (ih1.2 y p2 m2 r ey fun w2 => ?_)
        have := h w2 none y (Or.inl rfl) rfl
        have el : l ++ ja none = l := by show l ++ [] = _; rw [List.append_nil]
        rw [el] at this
        exact this
      exact ⟨fun w' e => on _ fun w2 => (OrS hx ht hT hF hO hB hd 401 p2 m2 _ (by omega) c5 w2).1 w' e, fun v' p' m' r e h => on _ fun w2 => (OrS hx ht hT hF hO hB hd 401 p2 m2 _ (by omega) c5 w2).2 v' p' m' r e h⟩
theorem FactS (hx : x < 6) (ht : t.1 ≤ 400) (hT : OKT t) : ∀ (n d : Nat), 11 ≤ n + d → d ≤ 10 → FS x t M0 (sFct t n d) d
  | 0, d, h1, h2 => by omega
  | n + 1, d, h1, h2 => by
    intro S l p m hd
    have d11 : dpS (11 :: S) = d + 1 := by
      show (if 11 = 11 ∨ 11 = 91 then 1 else 0) + dpS S = _
      rw [if_pos (by decide), hd, Nat.add_comm]
    have d91 : dpS (91 :: S) = d + 1 := by
      show (if 91 = 11 ∨ 91 = 91 then 1 else 0) + dpS S = _
      rw [if_pos (by decide), hd, Nat.add_comm]
    rw [sFct]
    by_cases w : isw t 5 p = -1
    · rw [if_neg (fun z => z w)]
      by_cases s : sgn t p 91 = true
      · rw [if_pos s]
        by_cases c : 10 ≤ d
        · rw [if_pos c]
          refine ⟨fun w' e => ?_, fun e p' m' r e' _ => (by cases e')⟩
          exact PF_step hx ht hT (by omega) (fun z => absurd w z) (fun z => absurd w z) (fun _ _ _ => e.symm) (fun _ _ z => absurd (by rw [hd]; exact c) z) (fun _ _ z => absurd s z) (fun _ _ _ _ z => absurd s z)
        · rw [if_neg c]
          have hb : bas (91 :: S) := Or.inr ⟨S, rfl⟩
          have ih := TestS hx ht hT (FactS hx ht hT n (d + 1) (by omega) (by omega)) (sFct_ok n (d + 1)) hb d91 (l := l) (p := nxp t p) (m := m)
          have on : ∀ r, PF x t M0 (91 :: S) l (nxp t p) m r → PF x t M0 S l p m r := fun r h => PF_step hx ht hT (by omega) (fun z => absurd w z) (fun z => absurd w z) (fun _ _ z => absurd z (by omega)) (fun _ _ _ => h) (fun _ _ z => absurd s z) (fun _ _ _ _ z => absurd s z)
          cases ez : sTst t (sFct t n (d + 1)) (nxp t p) m with
          | error w' =>
            rw [ebd_e]
            refine ⟨fun w2 e => ?_, fun e p' m' r e' _ => (by cases e')⟩
            have e1 : w' = w2 := Except.error.inj e
            subst e1
            exact on _ (ih.1 w' ez)
          | ok z =>
            obtain ⟨z, p1, m1⟩ := z
            rw [ebd_o]
            dsimp only
            by_cases g : sgn t p1 93 = true
            · rw [if_pos g]
              refine ⟨fun w' e => (by cases e), fun e p' m' r e' h => on _ (ih.2 z p1 m1 r ez ⟨fun y => (by cases y), fun B' hB' => ⟨fun _ => ?_, fun y => absurd g y⟩⟩)⟩
              have e1 := Except.ok.inj e'
              have e2 : z = e := congrArg Prod.fst e1
              have e3 : nxp t p1 = p' := congrArg (fun z => z.2.1) e1
              have e4 : m1 = m' := congrArg (fun z => z.2.2) e1
              have e5 : S = B' := by cases hB'; rfl
              subst e2 e3 e4 e5
              exact h
            · rw [if_neg g]
              refine ⟨fun w' e => on _ (ih.2 z p1 m1 _ ez ⟨fun y => (by cases y), fun B' _ => ⟨fun y => absurd y g, fun _ => e.symm⟩⟩), fun e p' m' r e' _ => (by cases e')⟩
      · rw [if_neg s]
        refine ⟨fun w' e => ?_, fun e p' m' r e' h => ?_⟩
        · refine PF_step hx ht hT (by omega) (fun z => absurd w z) (fun z => absurd w z) (fun _ z => absurd z s) (fun _ z => absurd z s) (fun w2 _ _ e2 => ?_) (fun e2 p2 m2 _ _ e3 => ?_)
          · rw [e] at e2; exact congrArg _ (Except.error.inj e2)
          · rw [e] at e3; cases e3
        · refine PF_step hx ht hT (by omega) (fun z => absurd w z) (fun z => absurd w z) (fun _ z => absurd z s) (fun _ z => absurd z s) (fun w2 _ _ e2 => ?_) (fun e2 p2 m2 _ _ e3 => ?_)
          · rw [e'] at e2; cases e2
          · rw [e'] at e3
            have e1 := Except.ok.inj e3
            have f2 : e = e2 := congrArg Prod.fst e1
            have f3 : p' = p2 := congrArg (fun z => z.2.1) e1
            have f4 : m' = m2 := congrArg (fun z => z.2.2) e1
            subst f2 f3 f4
            exact h
    · rw [if_pos w]
      by_cases c : 10 ≤ d
      · rw [if_pos c]
        refine ⟨fun w' e => ?_, fun e p' m' r e' _ => (by cases e')⟩
        exact PF_step hx ht hT (by omega) (fun _ _ => e.symm) (fun _ z => absurd (by rw [hd]; exact c) z) (fun z => absurd z w) (fun z => absurd z w) (fun _ z => absurd z w) (fun _ _ _ z => absurd z w)
      · rw [if_neg c]
        have ih := FactS hx ht hT n (d + 1) (by omega) (by omega) (11 :: S) l (nxp t p) m d11
        have on : ∀ r, PF x t M0 (11 :: S) l (nxp t p) m r → PF x t M0 S l p m r := fun r h => PF_step hx ht hT (by omega) (fun _ z => absurd z (by omega)) (fun _ _ => h) (fun z => absurd z w) (fun z => absurd z w) (fun _ z => absurd z w) (fun _ _ _ z => absurd z w)
        cases ez : sFct t n (d + 1) (nxp t p) m with
        | error w' =>
          rw [ebd_e]
          refine ⟨fun w2 e => ?_, fun e p' m' r e' _ => (by cases e')⟩
          have e1 : w' = w2 := Except.error.inj e
          subst e1
          exact on _ (ih.1 w' ez)
        | ok z =>
          obtain ⟨z, p1, m1⟩ := z
          rw [ebd_o]
          refine ⟨fun w' e => (by cases e), fun e p' m' r e' h => on _ (ih.2 z p1 m1 r ez ?_)⟩
          have e1 := Except.ok.inj e'
          have e2 : z ++ [(3, 0)] = e := congrArg Prod.fst e1
          have e3 : p1 = p' := congrArg (fun z => z.2.1) e1
          have e4 : m1 = m' := congrArg (fun z => z.2.2) e1
          subst e2 e3 e4
          rw [PC_11, List.append_assoc]
          exact h
/-- a test, the model -/
theorem m_tested (hx : x < 6) (ht : t.1 ≤ 400) (hT : OKT t) {l : List Oq} {p m : Nat} {M : mM} (hp : p ≤ t.1) (hm : m ≤ 60) (hl : l.length ≤ p) (h : GM x t p m l M0 M) (hf : FrMt x M0 M) : OK (f_Model_tested M) fun z => match sTst t (sFct t 11 0) p m with
    | .error w => BT x t w M0 z
    | .ok q => z.1 = 1 ∧ TS x t [] (l ++ q.1) q.2.1 q.2.2 M0 z.2 := by
  unfold f_Model_tested
  rw [pI_s, Option.bind_some, pI_s, Option.bind_some]
  have T : TS x t [] l p m M0 (msI (msI M 436 16 0) 436 13 0) := by
    obtain ⟨g1, g2, g3, g4, g5⟩ := h
    have key : ∀ q', MTk t q' M → MTk t q' (msI (msI M 436 16 0) 436 13 0) := fun q' y => ⟨⟨by rw [gIo (by omega), gIo (by omega)]; exact y.1.1, by rw [gIp (by omega), gIp (by omega)]; exact y.1.2⟩, by rw [gIo (by omega), gIo (by omega)]; exact y.2.1, by rw [gIo (by omega), gIo (by omega)]; exact y.2.2.1, y.2.2.2⟩
    refine ⟨?_, ⟨by rw [gIp (by omega), gIp (by omega)]; exact g2.1, by rw [gIp (by omega), gIp (by omega)]; exact g2.2⟩, by rw [gIo (by omega), gIo (by omega)]; exact g3, by rw [gIo (by omega), gIo (by omega)]; exact g4, by rw [gIo (by omega), gIe]; rfl, by rw [gIe]; rfl, True.intro, FrMt_trans hf ⟨rfl, fun p a _ _ _ => by rw [gIp a, gIp a], fun i _ _ _ _ a b => by rw [gIo a, gIo b], fun j _ => by rw [gIp (by omega), gIp (by omega)], fun j _ => by rw [gIp (by omega), gIp (by omega)]⟩⟩
    rcases g1 with g1 | g1
    · exact Or.inl (key _ g1)
    · exact Or.inr (key _ g1)
  have sz : Sz t [] l p m := ⟨fun a ha => (by cases ha), by show 0 + l.length ≤ p; omega, hp, hm⟩
  have ih := TestS hx ht hT (M0 := M0) (FactS hx ht hT 11 0 (by omega) (by omega)) (sFct_ok 11 0) (B := []) (Or.inl rfl) rfl (l := l) (p := p) (m := m)
  rw [show FUEL = 99999 + 1 from rfl, tested_s]
  cases e : sTst t (sFct t 11 0) p m with
  | error w => exact ih.1 w e _ FUEL 99999 sz T (by rw [FUEL_eq]; omega) (by omega)
  | ok q => exact ih.2 q.1 q.2.1 q.2.2 (.ok (l ++ q.1, q.2.1, q.2.2)) e ⟨fun _ => rfl, fun B' hB' => (by cases hB')⟩ _ FUEL 99999 sz T (by rw [FUEL_eq]; omega) (by omega)
end
