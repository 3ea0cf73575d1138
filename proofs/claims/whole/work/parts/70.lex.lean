/-! ===== what stands on a tape, as data ===== -/
abbrev Tp : Type := Nat × (Nat → Int32)
def skF (t : Tp) : Nat → Nat → Nat
  | 0, p => p
  | k + 1, p => if t.2 p = 32 then skF t k (p + 1) else p
/-- behind the blanks -/
def skp (t : Tp) (p : Nat) : Nat := skF t (t.1 - p) p
def isD (b : Int32) : Bool := decide (¬ b < 48) && decide (¬ 57 < b)
def isA (b : Int32) : Bool := decide (¬ b < 97) && decide (¬ 122 < b)
/-- behind the letters -/
def wdF (t : Tp) : Nat → Nat → Nat
  | 0, p => p
  | k + 1, p => if isA (t.2 p) = true then wdF t k (p + 1) else p
def wdE (t : Tp) (q : Nat) : Nat := wdF t (t.1 - q) q
/-- behind the digits, how many, their number (of the first five) -/
def dig (b : Int32) : Nat := b.toInt.toNat - 48
def nmF (t : Tp) : Nat → Nat → Nat → Nat → Nat × Nat × Nat
  | 0, p, c, v => (p, c, v)
  | k + 1, p, c, v => if isD (t.2 p) = true then nmF t k (p + 1) (c + 1) (if c < 5 then 10 * v + dig (t.2 p) else v) else (p, c, v)
def nmE (t : Tp) (q : Nat) : Nat × Nat × Nat := nmF t (t.1 - q) q 0 0
/-- what kind of token is at q: 0 the end, 1 a number, 2 a word, 3 a sign -/
def knd (t : Tp) (q : Nat) : Nat := if q < t.1 then (if isD (t.2 q) = true then 1 else if isA (t.2 q) = true then 2 else 3) else 0
def two (t : Tp) (q : Nat) : Bool := (decide (t.2 q = 60) || decide (t.2 q = 62)) && decide (q + 1 < t.1) && decide (t.2 (q + 1) = 61)
def bhd (t : Tp) (q : Nat) : Nat := if knd t q = 1 then (nmE t q).1 else if knd t q = 2 then wdE t q else if knd t q = 3 then (if two t q = true then q + 2 else q + 1) else q
def val (t : Tp) (q : Nat) : Int32 := if knd t q = 1 then (if (nmE t q).2.1 ≤ 5 then i32 (nmE t q).2.2 else -1) else if two t q = true then t.2 q + 256 else t.2 q
theorem isA_lo {b : Int32} (h : b < 97) : ¬ isA b = true := by
  unfold isA
  rw [decide_eq_false (fun z => z h), Bool.false_and]
  exact Bool.false_ne_true
theorem isA_hi {b : Int32} (h : 122 < b) : ¬ isA b = true := by
  have e : decide (¬ 122 < b) = false := decide_eq_false (fun z => z h)
  unfold isA
  rw [e, Bool.and_false]
  exact Bool.false_ne_true
theorem isA_in {b : Int32} (h : ¬ b < 97) (h2 : ¬ 122 < b) : isA b = true := by
  unfold isA
  rw [decide_eq_true h, decide_eq_true h2]
  rfl
theorem isD_lo {b : Int32} (h : b < 48) : ¬ isD b = true := by
  unfold isD
  rw [decide_eq_false (fun z => z h), Bool.false_and]
  exact Bool.false_ne_true
theorem isD_hi {b : Int32} (h : 57 < b) : ¬ isD b = true := by
  have e : decide (¬ 57 < b) = false := decide_eq_false (fun z => z h)
  unfold isD
  rw [e, Bool.and_false]
  exact Bool.false_ne_true
theorem isD_in {b : Int32} (h : ¬ b < 48) (h2 : ¬ 57 < b) : isD b = true := by
  unfold isD
  rw [decide_eq_true h, decide_eq_true h2]
  rfl
theorem bhd_0 {t : Tp} {q : Nat} (h : knd t q = 0) : bhd t q = q := by unfold bhd; rw [h, if_neg (by decide), if_neg (by decide), if_neg (by decide)]
theorem bhd_1 {t : Tp} {q : Nat} (h : knd t q = 1) : bhd t q = (nmE t q).1 := by unfold bhd; rw [if_pos h]
theorem bhd_2 {t : Tp} {q : Nat} (h : knd t q = 2) : bhd t q = wdE t q := by unfold bhd; rw [if_neg (by rw [h]; decide), if_pos h]
theorem bhd_3 {t : Tp} {q : Nat} (h : knd t q = 3) : bhd t q = if two t q = true then q + 2 else q + 1 := by unfold bhd; rw [if_neg (by rw [h]; decide), if_neg (by rw [h]; decide), if_pos h]
theorem val_1 {t : Tp} {q : Nat} (h : knd t q = 1) : val t q = if (nmE t q).2.1 ≤ 5 then i32 (nmE t q).2.2 else -1 := by unfold val; rw [if_pos h]
theorem val_3 {t : Tp} {q : Nat} (h : knd t q = 3) : val t q = if two t q = true then t.2 q + 256 else t.2 q := by unfold val; rw [if_neg (by rw [h]; decide)]
theorem skF_ge (t : Tp) : ∀ (k p : Nat), p ≤ skF t k p ∧ skF t k p ≤ p + k
  | 0, p => ⟨Nat.le_refl _, Nat.le_refl _⟩
  | k + 1, p => by
    rw [skF]
    split
    · have := skF_ge t k (p + 1); omega
    · omega
theorem skp_ge (t : Tp) (p : Nat) : p ≤ skp t p := (skF_ge t _ p).1
theorem skp_le (t : Tp) {p : Nat} (h : p ≤ t.1) : skp t p ≤ t.1 := by
  have := (skF_ge t (t.1 - p) p).2
  unfold skp
  omega
theorem skF_not (t : Tp) : ∀ (k p : Nat), p + k = t.1 → skF t k p < t.1 → t.2 (skF t k p) ≠ 32
  | 0, p, h, h2 => by
    have : skF t 0 p = p := rfl
    omega
  | k + 1, p, h, h2 => by
    rw [skF] at h2 ⊢
    by_cases c : t.2 p = 32
    · rw [if_pos c] at h2 ⊢
      exact skF_not t k (p + 1) (by omega) h2
    · rw [if_neg c]
      exact c
theorem skp_not (t : Tp) {p : Nat} (h : skp t p < t.1) : t.2 (skp t p) ≠ 32 := by
  have h1 := skp_ge t p
  exact skF_not t (t.1 - p) p (by omega) h
/-- past the blanks nothing is skipped -/
theorem skp_id (t : Tp) {q : Nat} (h : q < t.1 → t.2 q ≠ 32) : skp t q = q := by
  unfold skp
  cases hk : t.1 - q with
  | zero => rfl
  | succ k =>
    rw [skF, if_neg (h (by omega))]
theorem skp_skp (t : Tp) (p : Nat) : skp t (skp t p) = skp t p := skp_id t fun h => skp_not t h
theorem skp_step (t : Tp) {p : Nat} (h : p < t.1) (h2 : t.2 p = 32) : skp t p = skp t (p + 1) := by
  unfold skp
  rw [show t.1 - p = (t.1 - (p + 1)) + 1 by omega, skF, if_pos h2]
theorem wdF_ge (t : Tp) : ∀ (k p : Nat), p ≤ wdF t k p ∧ wdF t k p ≤ p + k
  | 0, p => ⟨Nat.le_refl _, Nat.le_refl _⟩
  | k + 1, p => by
    rw [wdF]
    split
    · have := wdF_ge t k (p + 1); omega
    · omega
theorem wdE_ge (t : Tp) (q : Nat) : q ≤ wdE t q := (wdF_ge t _ q).1
theorem wdE_le (t : Tp) {q : Nat} (h : q ≤ t.1) : wdE t q ≤ t.1 := by
  have := (wdF_ge t (t.1 - q) q).2
  unfold wdE
  omega
theorem nmF_ge (t : Tp) : ∀ (k p c v : Nat), p ≤ (nmF t k p c v).1 ∧ (nmF t k p c v).1 ≤ p + k ∧ (nmF t k p c v).2.1 = c + ((nmF t k p c v).1 - p)
  | 0, p, c, v => ⟨Nat.le_refl _, Nat.le_refl _, by show c = c + (p - p); omega⟩
  | k + 1, p, c, v => by
    rw [nmF]
    split
    · have := nmF_ge t k (p + 1) (c + 1) (if c < 5 then 10 * v + dig (t.2 p) else v)
      omega
    · exact ⟨Nat.le_refl _, by omega, by show c = c + (p - p); omega⟩
theorem nmE_ge (t : Tp) (q : Nat) : q ≤ (nmE t q).1 := (nmF_ge t _ q 0 0).1
theorem nmE_le (t : Tp) {q : Nat} (h : q ≤ t.1) : (nmE t q).1 ≤ t.1 := by
  have := (nmF_ge t (t.1 - q) q 0 0).2.1
  unfold nmE
  omega
theorem nmE_c (t : Tp) (q : Nat) : (nmE t q).2.1 = (nmE t q).1 - q := by
  have := (nmF_ge t (t.1 - q) q 0 0).2.2
  unfold nmE
  omega
theorem dig_lt {b : Int32} (h : isD b = true) : dig b < 10 ∧ b = i32 (48 + dig b) := by
  unfold isD at h
  rw [Bool.and_eq_true, decide_eq_true_iff, decide_eq_true_iff] at h
  obtain ⟨h1, h2⟩ := h
  rw [Int32.lt_iff_toInt_lt, show (48 : Int32).toInt = 48 by decide] at h1
  rw [Int32.lt_iff_toInt_lt, show (57 : Int32).toInt = 57 by decide] at h2
  unfold dig
  refine ⟨by omega, ?_⟩
  rw [← Int32.toInt_inj, i32_toInt (by omega)]
  omega
theorem nmF_v (t : Tp) : ∀ (k p c v : Nat), v < 10 ^ (min c 5) → (nmF t k p c v).2.2 < 10 ^ (min (nmF t k p c v).2.1 5)
  | 0, p, c, v, h => h
  | k + 1, p, c, v, h => by
    rw [nmF]
    by_cases d : isD (t.2 p) = true
    · rw [if_pos d]
      have hd := (dig_lt d).1
      refine nmF_v t k (p + 1) (c + 1) _ ?_
      by_cases c5 : c < 5
      · rw [if_pos c5, show min (c + 1) 5 = c + 1 by omega, Nat.pow_succ]
        rw [show min c 5 = c by omega] at h
        omega
      · rw [if_neg c5, show min (c + 1) 5 = 5 by omega]
        rw [show min c 5 = 5 by omega] at h
        exact h
    · rw [if_neg d]
      exact h
theorem nmE_v (t : Tp) (q : Nat) : (nmE t q).2.2 < 100000 := by
  have h := nmF_v t (t.1 - q) q 0 0 (by decide)
  have h2 : 10 ^ (min (nmF t (t.1 - q) q 0 0).2.1 5) ≤ 10 ^ 5 := Nat.pow_le_pow_right (by omega) (Nat.min_le_right _ _)
  unfold nmE
  omega
theorem bhd_ge (t : Tp) (q : Nat) : q ≤ bhd t q := by
  unfold bhd
  split
  · exact nmE_ge t q
  · split
    · exact wdE_ge t q
    · split
      · split <;> omega
      · omega
theorem bhd_le (t : Tp) {q : Nat} (h : q ≤ t.1) : bhd t q ≤ t.1 := by
  unfold bhd
  split
  · exact nmE_le t h
  · split
    · exact wdE_le t h
    · split
      · rename_i h3
        have hq : q < t.1 := by
          unfold knd at h3
          by_cases c : q < t.1
          · exact c
          · rw [if_neg c] at h3; omega
        split
        · rename_i h4
          unfold two at h4
          rw [Bool.and_eq_true, Bool.and_eq_true, decide_eq_true_iff, decide_eq_true_iff] at h4
          omega
        · omega
      · exact h
/-! the class's text -/
/-- the class's token, of what stands behind p -/
def CTk (t : Tp) (p : Nat) (M : mM) : Prop := CP t M ∧ M.2.1 1 6 = 0 ∧ M.2.1 1 2 = i32 (skp t p) ∧ M.2.1 1 3 = i32 (bhd t (skp t p)) ∧ M.2.1 1 4 = i32 (knd t (skp t p)) ∧ (knd t (skp t p) = 1 ∨ knd t (skp t p) = 3 → M.2.1 1 5 = val t (skp t p))
/-- refused, with the fault w -/
def CRf (t : Tp) (w : Nat) (M : mM) : Prop := CP t M ∧ M.2.1 1 6 = i32 w ∧ 0 < w ∧ w < 10000 ∧ M.2.1 1 4 = 4
/-- the text's fields alone change -/
def FrX (M M' : mM) : Prop := M'.2.2 = M.2.2 ∧ (∀ p, p ≠ 1 → M'.2.1 p = M.2.1 p) ∧ M'.2.1 1 1 = M.2.1 1 1
theorem FrX_refl (M : mM) : FrX M M := ⟨rfl, fun _ _ => rfl, rfl⟩
theorem FrX_trans {M M' M'' : mM} (h : FrX M M') (h' : FrX M' M'') : FrX M M'' := ⟨h'.1.trans h.1, fun p hp => (h'.2.1 p hp).trans (h.2.1 p hp), h'.2.2.trans h.2.2⟩
theorem FrX_I {M : mM} {i : Nat} {v : Int32} (h : i ≠ 1) : FrX M (msI M 1 i v) := ⟨rfl, fun p hp => gIp hp, gIo (Ne.symm h)⟩
theorem CP_X {t : Tp} {M M' : mM} (h : CP t M) (e : FrX M M') : CP t M' := CP_of h e.2.2 (e.2.1 2 (by omega))
theorem c_passNum {t : Tp} (ht : t.1 ≤ 400) {q : Nat} {M0 : mM} (h0 : CP t M0) (hq : M0.2.1 1 2 = i32 q) : ∀ (k p f c v : Nat) (M : mM), p + k = t.1 → k < f → c = p - q → q ≤ p → v < 10 ^ (min c 5) → FrX M0 M → M.2.1 1 2 = i32 q → M.2.1 1 3 = i32 p → M.2.1 1 5 = (if c ≤ 5 then i32 v else -1) → OK (f_Text_passNumber_10 f M) fun M' => FrX M0 M' ∧ M'.2.1 1 2 = i32 q ∧ M'.2.1 1 3 = i32 (nmF t k p c v).1 ∧ M'.2.1 1 5 = (if (nmF t k p c v).2.1 ≤ 5 then i32 (nmF t k p c v).2.2 else -1) ∧ M'.2.1 1 4 = M.2.1 1 4 ∧ M'.2.1 1 6 = M.2.1 1 6
  | _, _, 0, _, _, _, _, hf, _, _, _, _, _, _, _ => absurd hf (Nat.not_lt_zero _)
  | 0, p, f + 1, c, v, M, hp, hf, hc, hqp, hv, hF, h2, h3, h5 => by
    have e1 : M.2.1 1 1 = i32 t.1 := (hF.2.2).trans h0.1
    unfold f_Text_passNumber_10
    rw [e1, h3, if_pos (by rw [i32_le (by omega) (by omega)]; omega)]
    exact OK_some ⟨hF, h2, h3, h5, rfl, rfl⟩
  | k + 1, p, f + 1, c, v, M, hp, hf, hc, hqp, hv, hF, h2, h3, h5 => by
    have e1 : M.2.1 1 1 = i32 t.1 := (hF.2.2).trans h0.1
    have eb : M.2.1 2 p = t.2 p := (CP_X h0 hF).2 p (by omega)
    unfold f_Text_passNumber_10
    rw [e1, h3, if_neg (by rw [i32_le (by omega) (by omega)]; omega), if_neg (by rw [show (400 : Int32) = i32 400 from rfl, i32_le (by omega) (by omega)]; omega), rd_i32 (by omega) (by omega), Option.bind_some, eb, nmF]
    have stop : isD (t.2 p) = false → (t.2 p < 48 ∨ 57 < t.2 p) := by
      intro h
      unfold isD at h
      by_cases c1 : t.2 p < 48
      · exact Or.inl c1
      · by_cases c2 : 57 < t.2 p
        · exact Or.inr c2
        · rw [decide_eq_true c1, decide_eq_true c2] at h
          cases h
    cases hd : isD (t.2 p) with
    | false =>
      rw [if_neg (show ¬ (false = true) by decide)]
      have fin : OK (some M) fun M' => FrX M0 M' ∧ M'.2.1 1 2 = i32 q ∧ M'.2.1 1 3 = i32 (p, c, v).1 ∧ M'.2.1 1 5 = (if (p, c, v).2.1 ≤ 5 then i32 (p, c, v).2.2 else -1) ∧ M'.2.1 1 4 = M.2.1 1 4 ∧ M'.2.1 1 6 = M.2.1 1 6 := OK_some ⟨hF, h2, h3, h5, rfl, rfl⟩
      by_cases c1 : t.2 p < 48
      · rw [if_pos c1]; exact fin
      · rw [if_neg c1, Option.bind_some, if_pos ((stop hd).resolve_left c1)]
        exact fin
    | true =>
      have hdg := dig_lt hd
      have hd' := hd
      unfold isD at hd'
      rw [Bool.and_eq_true, decide_eq_true_iff, decide_eq_true_iff] at hd'
      rw [if_pos rfl, if_neg hd'.1, Option.bind_some, if_neg hd'.2, h2, i32_sub hqp]
      have step : ∀ x : Int32, x = (if c + 1 ≤ 5 then i32 (if c < 5 then 10 * v + dig (t.2 p) else v) else -1) → OK (f_Text_passNumber_117 (f_Text_passNumber_10 f) x M) fun M' => FrX M0 M' ∧ M'.2.1 1 2 = i32 q ∧ M'.2.1 1 3 = i32 (nmF t k (p + 1) (c + 1) (if c < 5 then 10 * v + dig (t.2 p) else v)).1 ∧ M'.2.1 1 5 = (if (nmF t k (p + 1) (c + 1) (if c < 5 then 10 * v + dig (t.2 p) else v)).2.1 ≤ 5 then i32 (nmF t k (p + 1) (c + 1) (if c < 5 then 10 * v + dig (t.2 p) else v)).2.2 else -1) ∧ M'.2.1 1 4 = M.2.1 1 4 ∧ M'.2.1 1 6 = M.2.1 1 6 := by
        intro x hx
        unfold f_Text_passNumber_117
        rw [pI_s, Option.bind_some, gIo (by omega), h3, nadd_1, pI_s, Option.bind_some]
        have hv' : (if c < 5 then 10 * v + dig (t.2 p) else v) < 10 ^ (min (c + 1) 5) := by
          by_cases c5 : c < 5
          · rw [if_pos c5, show min (c + 1) 5 = c + 1 by omega, Nat.pow_succ]
            rw [show min c 5 = c by omega] at hv
            have := hdg.1
            omega
          · rw [if_neg c5, show min (c + 1) 5 = 5 by omega]
            rw [show min c 5 = 5 by omega] at hv
            exact hv
        refine OK_imp (c_passNum ht h0 hq k (p + 1) f (c + 1) _ (msI (msI M 1 5 x) 1 3 (i32 (p + 1))) (by omega) (by omega) (by omega) (by omega) hv' (FrX_trans hF (FrX_trans (FrX_I (by omega)) (FrX_I (by omega)))) (by rw [gIo (by omega), gIo (by omega)]; exact h2) (gIe _ _ _ _) (by rw [gIo (by omega), gIe]; exact hx)) fun M' h' => ⟨h'.1, h'.2.1, h'.2.2.1, h'.2.2.2.1, h'.2.2.2.2.1.trans (by rw [gIo (by omega), gIo (by omega)]), h'.2.2.2.2.2.trans (by rw [gIo (by omega), gIo (by omega)])⟩
      have hv5 : v < 100000 := Nat.lt_of_lt_of_le hv (Nat.pow_le_pow_right (n := 10) (by omega) (Nat.min_le_right c 5))
      by_cases c5 : c < 5
      · rw [if_neg (by rw [show (5 : Int32) = i32 5 from rfl, i32_le (by omega) (by omega)]; omega), h5, if_pos (show c ≤ 5 by omega), if_neg (fun z => (i32_ne1 (by omega)).mp z)]
        unfold f_Text_passNumber_87
        rw [if_neg (by decide), h3, rd_i32 (by omega) (by omega), Option.bind_some, eb, h5, if_pos (show c ≤ 5 by omega), hdg.2, nmul_10, i32_add]
        rw [← hdg.2]
        refine step _ ?_
        rw [if_pos (show c + 1 ≤ 5 by omega), if_pos c5, show (48 : Int32) = i32 48 from rfl, i32_sub (by omega)]
        congr 1
        omega
      · rw [if_pos (by rw [show (5 : Int32) = i32 5 from rfl, i32_le (by omega) (by omega)]; omega)]
        unfold f_Text_passNumber_86 f_Text_passNumber_87
        rw [if_pos rfl]
        exact step _ (by rw [if_neg (by omega)])
theorem c_passWd {t : Tp} (ht : t.1 ≤ 400) {M0 : mM} (h0 : CP t M0) : ∀ (k p f : Nat) (M : mM), p + k = t.1 → k < f → FrX M0 M → M.2.1 1 3 = i32 p → OK (f_Text_passWord_5 f M) fun M' => FrX M0 M' ∧ M'.2.1 1 3 = i32 (wdF t k p) ∧ ∀ i, i ≠ 3 → M'.2.1 1 i = M.2.1 1 i
  | _, _, 0, _, _, hf, _, _ => absurd hf (Nat.not_lt_zero _)
  | 0, p, f + 1, M, hp, hf, hF, h3 => by
    have e1 : M.2.1 1 1 = i32 t.1 := (hF.2.2).trans h0.1
    unfold f_Text_passWord_5
    rw [e1, h3, if_pos (by rw [i32_le (by omega) (by omega)]; omega)]
    exact OK_some ⟨hF, h3, fun _ _ => rfl⟩
  | k + 1, p, f + 1, M, hp, hf, hF, h3 => by
    have e1 : M.2.1 1 1 = i32 t.1 := (hF.2.2).trans h0.1
    have eb : M.2.1 2 p = t.2 p := (CP_X h0 hF).2 p (by omega)
    unfold f_Text_passWord_5
    rw [e1, h3, if_neg (by rw [i32_le (by omega) (by omega)]; omega), if_neg (by rw [show (400 : Int32) = i32 400 from rfl, i32_le (by omega) (by omega)]; omega), rd_i32 (by omega) (by omega), Option.bind_some, eb, wdF]
    by_cases c1 : t.2 p < 97
    · have hd := isA_lo c1
      rw [if_pos c1, if_neg hd]
      exact OK_some ⟨hF, h3, fun _ _ => rfl⟩
    · rw [if_neg c1, Option.bind_some]
      by_cases c2 : 122 < t.2 p
      · have hd := isA_hi c2
        rw [if_pos c2, if_neg hd]
        exact OK_some ⟨hF, h3, fun _ _ => rfl⟩
      · have hd := isA_in c1 c2
        rw [if_neg c2, if_pos hd, pI_s, Option.bind_some, nadd_1]
        refine OK_imp (c_passWd ht h0 k (p + 1) f _ (by omega) (by omega) (FrX_trans hF (FrX_I (by omega))) (gIe _ _ _ _)) fun M' h' => ⟨h'.1, h'.2.1, fun i hi => (h'.2.2 i hi).trans (gIo hi)⟩
theorem c_passSign {t : Tp} (ht : t.1 ≤ 400) {q : Nat} {M : mM} (h0 : CP t M) (hq : M.2.1 1 2 = i32 q) (hlt : q < t.1) : OK (f_Text_passSign (t.2 q) M) fun M' => FrX M M' ∧ M'.2.1 1 2 = i32 q ∧ M'.2.1 1 3 = i32 (if two t q = true then q + 2 else q + 1) ∧ M'.2.1 1 4 = 3 ∧ M'.2.1 1 5 = (if two t q = true then t.2 q + 256 else t.2 q) ∧ M'.2.1 1 6 = M.2.1 1 6 := by
  unfold f_Text_passSign
  simp only [pI_s, Option.bind_some]
  rw [gIo (by omega), gIo (by omega), hq, nadd_1]
  have plain : two t q = false → OK (some (msI (msI (msI M 1 4 3) 1 5 (t.2 q)) 1 3 (i32 (q + 1)))) fun M' => FrX M M' ∧ M'.2.1 1 2 = i32 q ∧ M'.2.1 1 3 = i32 (if two t q = true then q + 2 else q + 1) ∧ M'.2.1 1 4 = 3 ∧ M'.2.1 1 5 = (if two t q = true then t.2 q + 256 else t.2 q) ∧ M'.2.1 1 6 = M.2.1 1 6 := by
    intro h
    rw [if_neg (by rw [h]; decide), if_neg (by rw [h]; decide)]
    refine OK_some ⟨FrX_trans (FrX_trans (FrX_I (by omega)) (FrX_I (by omega))) (FrX_I (by omega)), ?_, gIe _ _ _ _, ?_, ?_, ?_⟩
    · rw [gIo (by omega), gIo (by omega), gIo (by omega)]; exact hq
    · rw [gIo (by omega), gIo (by omega), gIe]
    · rw [gIo (by omega), gIe]
    · rw [gIo (by omega), gIo (by omega), gIo (by omega)]
  have cmp : (t.2 q = 60 ∨ t.2 q = 62) → OK (f_Text_passSign_32 (t.2 q) (msI (msI (msI M 1 4 3) 1 5 (t.2 q)) 1 3 (i32 (q + 1)))) fun M' => FrX M M' ∧ M'.2.1 1 2 = i32 q ∧ M'.2.1 1 3 = i32 (if two t q = true then q + 2 else q + 1) ∧ M'.2.1 1 4 = 3 ∧ M'.2.1 1 5 = (if two t q = true then t.2 q + 256 else t.2 q) ∧ M'.2.1 1 6 = M.2.1 1 6 := by
    intro h
    have hb : (decide (t.2 q = 60) || decide (t.2 q = 62)) = true := by
      rcases h with h | h
      · rw [decide_eq_true h]; rfl
      · rw [decide_eq_true h, Bool.or_true]
    have e1 : (msI (msI (msI M 1 4 3) 1 5 (t.2 q)) 1 3 (i32 (q + 1))).2.1 1 1 = i32 t.1 := by rw [gIo (by omega), gIo (by omega), gIo (by omega)]; exact h0.1
    have e3 : (msI (msI (msI M 1 4 3) 1 5 (t.2 q)) 1 3 (i32 (q + 1))).2.1 1 3 = i32 (q + 1) := gIe _ _ _ _
    unfold f_Text_passSign_32 f_Text_passSign_37
    rw [if_neg (by decide), e1, e3]
    by_cases c1 : q + 1 < t.1
    · have e2 : (msI (msI (msI M 1 4 3) 1 5 (t.2 q)) 1 3 (i32 (q + 1))).2.1 2 (q + 1) = t.2 (q + 1) := by rw [gIp (by omega), gIp (by omega), gIp (by omega)]; exact h0.2 _ c1
      rw [if_neg (by rw [i32_le (by omega) (by omega)]; omega), if_neg (by rw [show (400 : Int32) = i32 400 from rfl, i32_le (by omega) (by omega)]; omega), rd_i32 (by omega) (by omega), Option.bind_some, e2]
      by_cases c2 : t.2 (q + 1) = 61
      · have h2 : two t q = true := by unfold two; rw [hb, decide_eq_true c1, decide_eq_true c2]; rfl
        rw [if_pos c2, pI_s, Option.bind_some, gIo (by omega), e3, nadd_1, pI_s, Option.bind_some, if_pos h2, if_pos h2]
        refine OK_some ⟨FrX_trans (FrX_trans (FrX_trans (FrX_trans (FrX_I (by omega)) (FrX_I (by omega))) (FrX_I (by omega))) (FrX_I (by omega))) (FrX_I (by omega)), ?_, gIe _ _ _ _, ?_, ?_, ?_⟩
        · rw [gIo (by omega), gIo (by omega), gIo (by omega), gIo (by omega), gIo (by omega)]; exact hq
        · rw [gIo (by omega), gIo (by omega), gIo (by omega), gIo (by omega), gIe]
        · rw [gIo (by omega), gIe]
        · rw [gIo (by omega), gIo (by omega), gIo (by omega), gIo (by omega), gIo (by omega)]
      · rw [if_neg c2]
        exact plain (by unfold two; rw [decide_eq_false c2, Bool.and_false])
    · rw [if_pos (by rw [i32_le (by omega) (by omega)]; omega)]
      exact plain (by unfold two; rw [decide_eq_false c1, Bool.and_false, Bool.false_and])
  by_cases c1 : t.2 q = 60
  · rw [if_pos c1]; exact cmp (Or.inl c1)
  · rw [if_neg c1]
    by_cases c2 : t.2 q = 62
    · rw [if_pos c2]; exact cmp (Or.inr c2)
    · rw [if_neg c2]
      unfold f_Text_passSign_37
      rw [if_pos rfl]
      exact plain (by unfold two; rw [decide_eq_false c1, decide_eq_false c2]; rfl)
theorem c_adv71 {t : Tp} (ht : t.1 ≤ 400) {p : Nat} {M : mM} (h0 : CP t M) (hq : M.2.1 1 2 = i32 (skp t p)) (hp : p ≤ t.1) (h6 : M.2.1 1 6 = 0) : OK (f_Text_advance_71 M) fun M' => CTk t p M' ∧ FrX M M' := by
  have hle := skp_le t hp
  have e1 : M.2.1 1 1 = i32 t.1 := h0.1
  unfold f_Text_advance_71 f_Text_advance_102
  rw [pI_s, Option.bind_some, hq]
  have f1 : FrX M (msI M 1 3 (i32 (skp t p))) := FrX_I (by omega)
  have e1' : (msI M 1 3 (i32 (skp t p))).2.1 1 1 = i32 t.1 := (gIo (by omega)).trans e1
  have e2' : (msI M 1 3 (i32 (skp t p))).2.1 1 2 = i32 (skp t p) := (gIo (by omega)).trans hq
  have e6' : (msI M 1 3 (i32 (skp t p))).2.1 1 6 = 0 := (gIo (by omega)).trans h6
  have h0' := CP_X h0 f1
  rw [e1', e2']
  by_cases c : skp t p < t.1
  · have eb : (msI M 1 3 (i32 (skp t p))).2.1 2 (skp t p) = t.2 (skp t p) := h0'.2 _ c
    rw [if_neg (by rw [i32_le (by omega) (by omega)]; omega), if_pos (by rw [show (400 : Int32) = i32 400 from rfl, i32_lt (by omega) (by omega)]; omega), rd_i32 (by omega) (by omega), Option.bind_some, eb]
    have kD : isD (t.2 (skp t p)) = true → knd t (skp t p) = 1 := fun h => by unfold knd; rw [if_pos c, if_pos h]
    have hA : ¬ isD (t.2 (skp t p)) = true → OK (f_Text_advance_137 (t.2 (skp t p)) (msI M 1 3 (i32 (skp t p)))) fun M' => CTk t p M' ∧ FrX M M' := by
      intro hnd
      have sgn : ¬ isA (t.2 (skp t p)) = true → OK (f_Text_advance_156 (t.2 (skp t p)) (msI M 1 3 (i32 (skp t p)))) fun M' => CTk t p M' ∧ FrX M M' := by
        intro hna
        have hk : knd t (skp t p) = 3 := by unfold knd; rw [if_pos c, if_neg hnd, if_neg hna]
        unfold f_Text_advance_156
        refine OK_bind (c_passSign ht h0' e2' c) fun M1 h1 => OK_some ⟨⟨CP_X h0' h1.1, h1.2.2.2.2.2.trans e6', h1.2.1, ?_, ?_, fun _ => ?_⟩, FrX_trans f1 h1.1⟩
        · rw [h1.2.2.1, bhd_3 hk]
        · rw [h1.2.2.2.1, hk]; rfl
        · rw [h1.2.2.2.2.1, val_3 hk]
      unfold f_Text_advance_137
      by_cases c1 : t.2 (skp t p) < 97
      · rw [if_pos c1]
        exact sgn (isA_lo c1)
      · rw [if_neg c1]
        by_cases c2 : 122 < t.2 (skp t p)
        · rw [if_pos c2]
          exact sgn (isA_hi c2)
        · have ha := isA_in c1 c2
          have hk : knd t (skp t p) = 2 := by unfold knd; rw [if_pos c, if_neg hnd, if_pos ha]
          rw [if_neg c2]
          unfold f_Text_passWord
          rw [pI_s, Option.bind_some]
          have f2 : FrX (msI M 1 3 (i32 (skp t p))) (msI (msI M 1 3 (i32 (skp t p))) 1 4 2) := FrX_I (by omega)
          refine OK_bind (c_passWd ht (CP_X h0' f2) (t.1 - skp t p) (skp t p) FUEL _ (by omega) (by rw [FUEL_eq]; omega) (FrX_refl _) (by rw [gIo (by omega), gIe])) fun M1 h1 => OK_some ⟨⟨CP_X (CP_X h0' f2) h1.1, ?_, ?_, ?_, ?_, fun hh => by rw [hk] at hh; omega⟩, FrX_trans f1 (FrX_trans f2 h1.1)⟩
          · rw [h1.2.2 6 (by omega), gIo (by omega)]; exact e6'
          · rw [h1.2.2 2 (by omega), gIo (by omega)]; exact e2'
          · rw [h1.2.1, bhd_2 hk]; rfl
          · rw [h1.2.2 4 (by omega), gIe, hk]; rfl
    by_cases c1 : t.2 (skp t p) < 48
    · rw [if_pos c1]
      exact hA (isD_lo c1)
    · rw [if_neg c1]
      by_cases c2 : 57 < t.2 (skp t p)
      · rw [if_pos c2]
        exact hA (isD_hi c2)
      · have hd := isD_in c1 c2
        have hk := kD hd
        rw [if_neg c2]
        unfold f_Text_passNumber
        rw [pI_s, Option.bind_some, pI_s, Option.bind_some]
        have f2 : FrX (msI M 1 3 (i32 (skp t p))) (msI (msI (msI M 1 3 (i32 (skp t p))) 1 4 1) 1 5 0) := FrX_trans (FrX_I (by omega)) (FrX_I (by omega))
        refine OK_bind (c_passNum ht (CP_X h0' f2) (by rw [gIo (by omega), gIo (by omega)]; exact e2') (t.1 - skp t p) (skp t p) FUEL 0 0 _ (by omega) (by rw [FUEL_eq]; omega) (by omega) (Nat.le_refl _) (by decide) (FrX_refl _) (by rw [gIo (by omega), gIo (by omega)]; exact e2') (by rw [gIo (by omega), gIo (by omega), gIe]) (by rw [gIe]; rfl)) fun M1 h1 => OK_some ⟨⟨CP_X (CP_X h0' f2) h1.1, ?_, h1.2.1, ?_, ?_, fun _ => ?_⟩, FrX_trans f1 (FrX_trans f2 h1.1)⟩
        · rw [h1.2.2.2.2.2, gIo (by omega), gIo (by omega)]; exact e6'
        · rw [h1.2.2.1, bhd_1 hk]; rfl
        · rw [h1.2.2.2.2.1, gIo (by omega), gIe, hk]; rfl
        · rw [h1.2.2.2.1, val_1 hk]; rfl
  · have hk : knd t (skp t p) = 0 := by unfold knd; rw [if_neg c]
    rw [if_pos (by rw [i32_le (by omega) (by omega)]; omega), pI_s, Option.bind_some]
    refine OK_some ⟨⟨CP_X h0' (FrX_I (by omega)), ?_, ?_, ?_, ?_, fun hh => by rw [hk] at hh; omega⟩, FrX_trans f1 (FrX_I (by omega))⟩
    · rw [gIo (by omega)]; exact e6'
    · rw [gIo (by omega)]; exact e2'
    · rw [gIo (by omega), gIe, bhd_0 hk]
    · rw [gIe, hk]; rfl
theorem c_adv21 {t : Tp} (ht : t.1 ≤ 400) {p : Nat} {M0 : mM} (h0 : CP t M0) (hp : p ≤ t.1) (h6 : M0.2.1 1 6 = 0) : ∀ (k q f : Nat) (M : mM), q + k = t.1 → k < f → skF t k q = skp t p → FrX M0 M → M.2.1 1 2 = i32 q → M.2.1 1 6 = 0 → OK (f_Text_advance_21 f M) fun M' => CTk t p M' ∧ FrX M0 M'
  | _, _, 0, _, _, hf, _, _, _, _ => absurd hf (Nat.not_lt_zero _)
  | 0, q, f + 1, M, hq, hf, hs, hF, h2, h6' => by
    have e1 : M.2.1 1 1 = i32 t.1 := (hF.2.2).trans h0.1
    unfold f_Text_advance_21
    rw [e1, h2, if_pos (by rw [i32_le (by omega) (by omega)]; omega)]
    have : q = skp t p := hs
    rw [this] at h2
    exact OK_imp (c_adv71 ht (CP_X h0 hF) h2 hp h6') fun M' h' => ⟨h'.1, FrX_trans hF h'.2⟩
  | k + 1, q, f + 1, M, hq, hf, hs, hF, h2, h6' => by
    have e1 : M.2.1 1 1 = i32 t.1 := (hF.2.2).trans h0.1
    have eb : M.2.1 2 q = t.2 q := (CP_X h0 hF).2 q (by omega)
    unfold f_Text_advance_21
    rw [e1, h2, if_neg (by rw [i32_le (by omega) (by omega)]; omega), if_neg (by rw [show (400 : Int32) = i32 400 from rfl, i32_le (by omega) (by omega)]; omega), rd_i32 (by omega) (by omega), Option.bind_some, eb]
    rw [skF] at hs
    by_cases c : t.2 q = 32
    · rw [if_pos c] at hs
      rw [if_pos c, pI_s, Option.bind_some, nadd_1]
      exact c_adv21 ht h0 hp h6 k (q + 1) f _ (by omega) (by omega) hs (FrX_trans hF (FrX_I (by omega))) (gIe _ _ _ _) ((gIo (by omega)).trans h6')
    · rw [if_neg c] at hs
      rw [if_neg c]
      rw [hs] at h2
      exact OK_imp (c_adv71 ht (CP_X h0 hF) h2 hp h6') fun M' h' => ⟨h'.1, FrX_trans hF h'.2⟩
/-- on to the next token -/
theorem c_advance {t : Tp} (ht : t.1 ≤ 400) {p : Nat} {M : mM} (h0 : CP t M) (hp : p ≤ t.1) (h6 : M.2.1 1 6 = 0) (h3 : M.2.1 1 3 = i32 p) (h4 : M.2.1 1 4 ≠ 4) : OK (f_Text_advance M) fun M' => CTk t p M' ∧ FrX M M' := by
  unfold f_Text_advance
  rw [if_neg h4, h3]
  have e : (if 0 < i32 p then i32 p else 0) = i32 p := by
    by_cases c : 0 < p
    · rw [if_pos (by rw [show (0 : Int32) = i32 0 from rfl, i32_lt (by omega) (by omega)]; exact c)]
    · rw [show p = 0 by omega]; rfl
  rw [e, pI_s, Option.bind_some]
  refine OK_imp (c_adv21 (M0 := msI M 1 2 (i32 p)) ht (CP_X h0 (FrX_I (by omega))) hp ((gIo (by omega)).trans h6) (t.1 - p) p FUEL _ (by omega) (by rw [FUEL_eq]; omega) rfl (FrX_refl _) (gIe _ _ _ _) ((gIo (by omega)).trans h6)) fun M' h' => ⟨h'.1, FrX_trans (FrX_I (by omega)) h'.2⟩
