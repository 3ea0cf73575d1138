/-! ===== the model's text ===== -/
def MTk (t : Tp) (p : Nat) (M : mM) : Prop := MP t M ∧ M.2.1 436 8 = i32 p ∧ M.2.1 436 9 = 0 ∧ p ≤ t.1
def MRf (t : Tp) (w : Nat) (M : mM) : Prop := MP t M ∧ M.2.1 436 9 = i32 w ∧ 0 < w ∧ w < 10000
/-- next alone changes -/
def Fr8 (M M' : mM) : Prop := M'.2.2 = M.2.2 ∧ (∀ p, p ≠ 436 → M'.2.1 p = M.2.1 p) ∧ ∀ i, i ≠ 8 → M'.2.1 436 i = M.2.1 436 i
/-- next, wrong and number alone change -/
def FrZ (M M' : mM) : Prop := M'.2.2 = M.2.2 ∧ (∀ p, p ≠ 436 → M'.2.1 p = M.2.1 p) ∧ ∀ i, i ≠ 8 → i ≠ 9 → i ≠ 10 → M'.2.1 436 i = M.2.1 436 i
theorem Fr8_refl (M : mM) : Fr8 M M := ⟨rfl, fun _ _ => rfl, fun _ _ => rfl⟩
theorem FrZ_refl (M : mM) : FrZ M M := ⟨rfl, fun _ _ => rfl, fun _ _ _ _ => rfl⟩
theorem Fr8_trans {M M' M'' : mM} (h : Fr8 M M') (h' : Fr8 M' M'') : Fr8 M M'' := ⟨h'.1.trans h.1, fun p hp => (h'.2.1 p hp).trans (h.2.1 p hp), fun i hi => (h'.2.2 i hi).trans (h.2.2 i hi)⟩
theorem FrZ_trans {M M' M'' : mM} (h : FrZ M M') (h' : FrZ M' M'') : FrZ M M'' := ⟨h'.1.trans h.1, fun p hp => (h'.2.1 p hp).trans (h.2.1 p hp), fun i a b c => (h'.2.2 i a b c).trans (h.2.2 i a b c)⟩
theorem Fr8_Z {M M' : mM} (h : Fr8 M M') : FrZ M M' := ⟨h.1, h.2.1, fun i a _ _ => h.2.2 i a⟩
theorem Fr8_I {M : mM} {v : Int32} : Fr8 M (msI M 436 8 v) := ⟨rfl, fun p hp => gIp hp, fun i hi => gIo hi⟩
theorem FrZ_I {M : mM} {i : Nat} {v : Int32} (h : i = 8 ∨ i = 9 ∨ i = 10) : FrZ M (msI M 436 i v) := ⟨rfl, fun p hp => gIp hp, fun j a b c => gIo (by omega)⟩
theorem MP_Z {t : Tp} {M M' : mM} (h : MP t M) (e : FrZ M M') : MP t M' := by
  unfold MP at h ⊢
  rw [e.2.2 1 (by omega) (by omega) (by omega), e.2.1 437 (by omega)]
  exact h
theorem MTk_at {t : Tp} {p p' : Nat} {M : mM} (h : MTk t p M) (hp : p' ≤ t.1) : MTk t p' (msI M 436 8 (i32 p')) := ⟨MP_Z h.1 (Fr8_Z Fr8_I), gIe _ _ _ _, (gIo (by omega)).trans h.2.2.1, hp⟩
def byv (t : Tp) (q : Nat) : Int32 := if q < t.1 then t.2 q &&& 255 else -1
theorem m_see38 {t : Tp} (ht : t.1 ≤ 400) {q : Nat} {M : mM} (h : MTk t q M) : f_Model_see_38 M = some (byv t q, M) := by
  obtain ⟨h0, h8, h9, hq⟩ := h
  unfold f_Model_see_38 byv
  rw [h0.1, h8]
  by_cases c : q < t.1
  · rw [if_neg (by rw [i32_le (by omega) (by omega)]; omega), rd_i32 (by omega) (by omega), Option.bind_some, h0.2 q c, if_pos c]
  · rw [if_pos (by rw [i32_le (by omega) (by omega)]; omega), if_neg c]
theorem m_see0 {t : Tp} (ht : t.1 ≤ 400) : ∀ (k q f : Nat) (M : mM), q + k = t.1 → k < f → MTk t q M → OK (f_Model_see_0 f M) fun z => z.1 = byv t (skF t k q) ∧ MTk t (skF t k q) z.2 ∧ Fr8 M z.2
  | _, _, 0, _, _, hf, _ => absurd hf (Nat.not_lt_zero _)
  | 0, q, f + 1, M, hq, hf, h => by
    have e1 := h.1.1
    have e8 := h.2.1
    unfold f_Model_see_0
    rw [e1, e8, if_pos (by rw [i32_le (by omega) (by omega)]; omega), m_see38 ht h]
    exact OK_some ⟨rfl, h, Fr8_refl _⟩
  | k + 1, q, f + 1, M, hq, hf, h => by
    have e1 := h.1.1
    have e8 := h.2.1
    unfold f_Model_see_0
    rw [e1, e8, if_neg (by rw [i32_le (by omega) (by omega)]; omega), rd_i32 (by omega) (by omega), Option.bind_some, h.1.2 q (by omega), skF]
    by_cases c : t.2 q = 32
    · rw [if_pos c, pI_s, Option.bind_some, nadd_1, if_pos c]
      exact OK_imp (m_see0 ht k (q + 1) f _ (by omega) (by omega) (MTk_at h (by omega))) fun z hz => ⟨hz.1, hz.2.1, Fr8_trans Fr8_I hz.2.2⟩
    · rw [if_neg c, m_see38 ht h, if_neg c]
      exact OK_some ⟨rfl, h, Fr8_refl _⟩
theorem m_see {t : Tp} (ht : t.1 ≤ 400) {p : Nat} {M : mM} (h : MTk t p M) : OK (f_Model_see M) fun z => z.1 = byv t (skp t p) ∧ MTk t (skp t p) z.2 ∧ Fr8 M z.2 := by
  have := h.2.2.2
  exact m_see0 ht (t.1 - p) p FUEL M (by omega) (by rw [FUEL_eq]; omega) h
def lett (t : Tp) (q : Nat) : Bool := decide (q < t.1) && isA (t.2 q)
def digi (t : Tp) (q : Nat) : Bool := decide (q < t.1) && isD (t.2 q)
theorem m_lett {t : Tp} (ht : t.1 ≤ 400) {q : Nat} {M : mM} (h : MP t M) (hq : q < 2147483648) : f_Model_isLetter (i32 q) M = some (e01 (lett t q), M) := by
  unfold f_Model_isLetter lett
  rw [h.1]
  by_cases c : q < t.1
  · rw [if_neg (by rw [i32_le (by omega) (by omega)]; omega), rd_i32 (by omega) (by omega), Option.bind_some, h.2 q c, decide_eq_true c, Bool.true_and]
    by_cases c1 : t.2 q < 97
    · rw [if_pos c1, Bool.eq_false_iff.mpr (isA_lo c1)]; rfl
    · rw [if_neg c1, Option.bind_some]
      by_cases c2 : 122 < t.2 q
      · rw [if_pos c2, Bool.eq_false_iff.mpr (isA_hi c2)]; rfl
      · rw [if_neg c2, isA_in c1 c2]; rfl
  · rw [if_pos (by rw [i32_le (by omega) (by omega)]; omega), decide_eq_false c]
    rfl
theorem m_digi {t : Tp} (ht : t.1 ≤ 400) {q : Nat} {M : mM} (h : MP t M) (hq : q < 2147483648) : f_Model_isDigit (i32 q) M = some (e01 (digi t q), M) := by
  unfold f_Model_isDigit digi
  rw [h.1]
  by_cases c : q < t.1
  · rw [if_neg (by rw [i32_le (by omega) (by omega)]; omega), rd_i32 (by omega) (by omega), Option.bind_some, h.2 q c, decide_eq_true c, Bool.true_and]
    by_cases c1 : t.2 q < 48
    · rw [if_pos c1, Bool.eq_false_iff.mpr (isD_lo c1)]; rfl
    · rw [if_neg c1, Option.bind_some]
      by_cases c2 : 57 < t.2 q
      · rw [if_pos c2, Bool.eq_false_iff.mpr (isD_hi c2)]; rfl
      · rw [if_neg c2, isD_in c1 c2]; rfl
  · rw [if_pos (by rw [i32_le (by omega) (by omega)]; omega), decide_eq_false c]
    rfl
/-! words as longs -/
def pks (a : Int64) (c : Int32) : Int64 := (a <<< (Int32.toInt64 8 &&& 63)) ||| Int32.toInt64 c
def pk (l : List Int32) (a : Int64) : Int64 := l.foldl pks a
def pkN (l : List Int32) (a : Nat) : Nat := l.foldl (fun a c => 256 * a + c.toNatClampNeg) a
theorem isA_nat {c : Int32} (h : isA c = true) : 97 ≤ c.toNatClampNeg ∧ c.toNatClampNeg ≤ 122 ∧ c = i32 c.toNatClampNeg := by
  unfold isA at h
  rw [Bool.and_eq_true, decide_eq_true_iff, decide_eq_true_iff] at h
  obtain ⟨h1, h2⟩ := h
  rw [Int32.lt_iff_toInt_lt, show (97 : Int32).toInt = 97 by decide] at h1
  rw [Int32.lt_iff_toInt_lt, show (122 : Int32).toInt = 122 by decide] at h2
  have h3 : c.toNatClampNeg = c.toInt.toNat := rfl
  refine ⟨by omega, by omega, ?_⟩
  rw [← Int32.toInt_inj, i32_toInt (by omega)]
  omega
theorem toI64_i32 {n : Nat} (h : n < 2147483648) : Int32.toInt64 (i32 n) = Int64.ofNat n := by
  rw [← Int64.toInt_inj, Int32.toInt_toInt64, i32_toInt h, i64_toInt h]
theorem pks_N {a c : Nat} (ha : a < 2 ^ 55) (hc : c < 256) : pks (Int64.ofNat a) (i32 c) = Int64.ofNat (256 * a + c) := by
  unfold pks
  rw [toI64_i32 (by omega), show (Int32.toInt64 8 &&& 63 : Int64) = 8 by decide]
  rw [← Int64.toBitVec_inj]
  apply BitVec.eq_of_toNat_eq
  rw [Int64.toBitVec_or, BitVec.toNat_or, Int64.toBitVec_shiftLeft]
  have e8 : ((8 : Int64).toBitVec.smod 64) = 8#64 := by decide
  rw [e8]
  show ((BitVec.ofNat 64 a) <<< (8#64)).toNat ||| (BitVec.ofNat 64 c).toNat = (BitVec.ofNat 64 (256 * a + c)).toNat
  rw [show ((BitVec.ofNat 64 a) <<< (8#64)) = (BitVec.ofNat 64 a) <<< 8 from rfl, BitVec.toNat_shiftLeft, BitVec.toNat_ofNat, BitVec.toNat_ofNat, BitVec.toNat_ofNat]
  rw [Nat.mod_eq_of_lt (show a < 2 ^ 64 by omega), Nat.mod_eq_of_lt (show c < 2 ^ 64 by omega), Nat.mod_eq_of_lt (show 256 * a + c < 2 ^ 64 by omega), Nat.shiftLeft_eq, Nat.mod_eq_of_lt (show a * 2 ^ 8 < 2 ^ 64 by omega)]
  have := Nat.two_pow_add_eq_or_of_lt (i := 8) (b := c) (by omega) a
  rw [show a * 2 ^ 8 = 2 ^ 8 * a from Nat.mul_comm _ _, ← this]
theorem pk_N : ∀ (l : List Int32) (a : Nat), (∀ c, c ∈ l → isA c = true) → (a + 1) * 256 ^ l.length ≤ 2 ^ 63 → pk l (Int64.ofNat a) = Int64.ofNat (pkN l a)
  | [], a, _, _ => rfl
  | c :: l, a, h, hb => by
    obtain ⟨h1, h2, h3⟩ := isA_nat (h c List.mem_cons_self)
    rw [List.length_cons, Nat.pow_succ, Nat.mul_comm (256 ^ l.length) 256, ← Nat.mul_assoc] at hb
    have hp : 1 ≤ 256 ^ l.length := Nat.pos_of_ne_zero (by exact Nat.ne_of_gt (Nat.pow_pos (by omega)))
    have hm : (a + 1) * 256 * 1 ≤ (a + 1) * 256 * 256 ^ l.length := Nat.mul_le_mul_left _ hp
    show pk l (pks (Int64.ofNat a) c) = Int64.ofNat (pkN l (256 * a + c.toNatClampNeg))
    have e : pks (Int64.ofNat a) c = Int64.ofNat (256 * a + c.toNatClampNeg) := by
      conv => lhs; rw [h3]
      exact pks_N (by omega) (by omega)
    rw [e]
    refine pk_N l _ (fun x hx => h x (List.mem_cons_of_mem _ hx)) ?_
    exact Nat.le_trans (Nat.mul_le_mul_right _ (show 256 * a + c.toNatClampNeg + 1 ≤ (a + 1) * 256 by omega)) hb
theorem pkN_lt : ∀ (l : List Int32) (a : Nat), (∀ c, c ∈ l → isA c = true) → a * 256 ^ l.length ≤ pkN l a ∧ pkN l a < (a + 1) * 256 ^ l.length
  | [], a, _ => by
    show a * 1 ≤ a ∧ a < (a + 1) * 1
    omega
  | c :: l, a, h => by
    obtain ⟨h1, h2, h3⟩ := isA_nat (h c List.mem_cons_self)
    have ih := pkN_lt l (256 * a + c.toNatClampNeg) fun x hx => h x (List.mem_cons_of_mem _ hx)
    rw [List.length_cons, Nat.pow_succ, Nat.mul_comm (256 ^ l.length) 256, ← Nat.mul_assoc, ← Nat.mul_assoc]
    show _ ≤ pkN l (256 * a + c.toNatClampNeg) ∧ pkN l (256 * a + c.toNatClampNeg) < _
    exact ⟨Nat.le_trans (Nat.mul_le_mul_right _ (by omega)) ih.1, Nat.lt_of_lt_of_le ih.2 (Nat.mul_le_mul_right _ (by omega))⟩
theorem pkN_inj : ∀ (l l' : List Int32) (a a' : Nat), l.length = l'.length → (∀ c, c ∈ l → isA c = true) → (∀ c, c ∈ l' → isA c = true) → pkN l a = pkN l' a' → l = l' ∧ a = a'
  | [], [], a, a', _, _, _, e => ⟨rfl, e⟩
  | [], _ :: _, _, _, h, _, _, _ => absurd h (by simp)
  | _ :: _, [], _, _, h, _, _, _ => absurd h (by simp)
  | c :: l, c' :: l', a, a', h, h1, h2, e => by
    obtain ⟨x1, x2, x3⟩ := isA_nat (h1 c List.mem_cons_self)
    obtain ⟨y1, y2, y3⟩ := isA_nat (h2 c' List.mem_cons_self)
    obtain ⟨e1, e2⟩ := pkN_inj l l' (256 * a + c.toNatClampNeg) (256 * a' + c'.toNatClampNeg) (by simpa using h) (fun x hx => h1 x (List.mem_cons_of_mem _ hx)) (fun x hx => h2 x (List.mem_cons_of_mem _ hx)) e
    have : c.toNatClampNeg = c'.toNatClampNeg := by omega
    refine ⟨?_, by omega⟩
    rw [e1, x3, y3, this]
theorem pkN_len {l l' : List Int32} (h : l.length < l'.length) (h1 : ∀ c, c ∈ l → isA c = true) (h2 : ∀ c, c ∈ l' → isA c = true) : pkN l 0 < pkN l' 0 := by
  cases l' with
  | nil => exact absurd h (Nat.not_lt_zero _)
  | cons c cs =>
    obtain ⟨x1, x2, x3⟩ := isA_nat (h2 c List.mem_cons_self)
    have a1 := (pkN_lt l 0 h1).2
    have a2 := (pkN_lt cs (256 * 0 + c.toNatClampNeg) fun x hx => h2 x (List.mem_cons_of_mem _ hx)).1
    rw [List.length_cons] at h
    have a3 : 256 ^ l.length ≤ 256 ^ cs.length := Nat.pow_le_pow_right (by omega) (by omega)
    have a4 : 1 * 256 ^ cs.length ≤ (256 * 0 + c.toNatClampNeg) * 256 ^ cs.length := Nat.mul_le_mul_right _ (by omega)
    show pkN l 0 < pkN cs (256 * 0 + c.toNatClampNeg)
    omega
theorem i64_ofNat_inj {a b : Nat} (ha : a < 2 ^ 63) (hb : b < 2 ^ 63) (h : Int64.ofNat a = Int64.ofNat b) : a = b := by
  have h1 := congrArg Int64.toInt h
  rw [Int64.toInt_ofNat_of_lt (by omega), Int64.toInt_ofNat_of_lt (by omega)] at h1
  omega
theorem pk_inj {l w : List Int32} (hl : l.length < 8) (hw : w.length < 8) (h1 : ∀ c, c ∈ l → isA c = true) (h2 : ∀ c, c ∈ w → isA c = true) : pk l 0 = pk w 0 ↔ l = w := by
  constructor
  · intro e
    have b : ∀ l : List Int32, l.length < 8 → (0 + 1) * 256 ^ l.length ≤ 2 ^ 63 := by
      intro l hl
      have : 256 ^ l.length ≤ 256 ^ 7 := Nat.pow_le_pow_right (by omega) (by omega)
      omega
    have e' : pk l (Int64.ofNat 0) = pk w (Int64.ofNat 0) := e
    rw [pk_N l 0 h1 (b l hl), pk_N w 0 h2 (b w hw)] at e'
    have c1 := pkN_lt l 0 h1
    have c2 := pkN_lt w 0 h2
    have b1 := b l hl
    have b2 := b w hw
    have e2 := i64_ofNat_inj (by omega) (by omega) e'
    rcases Nat.lt_trichotomy l.length w.length with d | d | d
    · have := pkN_len d h1 h2
      omega
    · exact (pkN_inj l w 0 0 d h1 h2 e2).1
    · have := pkN_len d h2 h1
      omega
  · intro e
    rw [e]
def tkl (t : Tp) : Nat → Nat → List Int32
  | _, 0 => []
  | q, n + 1 => t.2 q :: tkl t (q + 1) n
theorem tkl_len (t : Tp) : ∀ (n q : Nat), (tkl t q n).length = n
  | 0, _ => rfl
  | n + 1, q => by rw [tkl, List.length_cons, tkl_len t n]
theorem tkl_snoc (t : Tp) : ∀ (n q : Nat), tkl t q (n + 1) = tkl t q n ++ [t.2 (q + n)]
  | 0, q => rfl
  | n + 1, q => by
    rw [tkl, tkl_snoc t n (q + 1), tkl, List.cons_append, show q + 1 + n = q + (n + 1) by omega]
theorem tkl_mem (t : Tp) : ∀ (n q : Nat) (c : Int32), c ∈ tkl t q n → ∃ j, q ≤ j ∧ j < q + n ∧ c = t.2 j
  | 0, q, c, h => by cases h
  | n + 1, q, c, h => by
    rw [tkl] at h
    rcases List.mem_cons.mp h with h | h
    · exact ⟨q, Nat.le_refl _, by omega, h⟩
    · obtain ⟨j, h1, h2, h3⟩ := tkl_mem t n (q + 1) c h
      exact ⟨j, by omega, by omega, h3⟩
theorem eqF_tkl (t : Tp) : ∀ (w : List Int32) (q k : Nat), eqF t (q + k) q w = decide (tkl t q k = w)
  | [], q, 0 => by
    rw [eqF, decide_eq_true (show q = q + 0 from rfl), decide_eq_true (show tkl t q 0 = [] from rfl)]
  | [], q, k + 1 => by
    rw [eqF, decide_eq_false (show ¬ q = q + (k + 1) by omega), decide_eq_false (by rw [tkl]; exact fun z => by cases z)]
  | c :: cs, q, 0 => by
    rw [eqF, decide_eq_false (show ¬ q < q + 0 by omega), Bool.false_and, Bool.false_and, decide_eq_false (by rw [tkl]; exact fun z => by cases z)]
  | c :: cs, q, k + 1 => by
    rw [eqF, decide_eq_true (show q < q + (k + 1) by omega), Bool.true_and, show q + (k + 1) = (q + 1) + k by omega, eqF_tkl t cs (q + 1) k, tkl]
    by_cases c1 : t.2 q = c
    · rw [decide_eq_true c1, Bool.true_and, c1]
      by_cases c2 : tkl t (q + 1) k = cs
      · rw [decide_eq_true c2, decide_eq_true (by rw [c2])]
      · rw [decide_eq_false c2, decide_eq_false (fun z => c2 (List.cons.inj z).2)]
    · rw [decide_eq_false c1, Bool.false_and, decide_eq_false (fun z => c1 (List.cons.inj z).1)]
theorem wdF_lett (t : Tp) : ∀ (k p : Nat), p + k = t.1 → (∀ j, p ≤ j → j < wdF t k p → lett t j = true) ∧ lett t (wdF t k p) = false
  | 0, p, h => by
    refine ⟨fun j a b => ?_, ?_⟩
    · have b' : j < p := b
      omega
    · show lett t p = false
      unfold lett
      rw [decide_eq_false (by omega), Bool.false_and]
  | k + 1, p, h => by
    rw [wdF]
    by_cases c : isA (t.2 p) = true
    · rw [if_pos c]
      obtain ⟨h1, h2⟩ := wdF_lett t k (p + 1) (by omega)
      refine ⟨fun j a b => ?_, h2⟩
      by_cases d : j = p
      · subst d
        unfold lett
        rw [decide_eq_true (show j < t.1 by omega), c]
        rfl
      · exact h1 j (by omega) b
    · rw [if_neg c]
      refine ⟨fun j a b => by omega, ?_⟩
      unfold lett
      rw [Bool.eq_false_iff.mpr c, Bool.and_false]
theorem wdE_lett (t : Tp) {q : Nat} (h : q ≤ t.1) : (∀ j, q ≤ j → j < wdE t q → lett t j = true) ∧ lett t (wdE t q) = false := wdF_lett t (t.1 - q) q (by omega)
theorem lett_A {t : Tp} {j : Nat} (h : lett t j = true) : j < t.1 ∧ isA (t.2 j) = true := by
  unfold lett at h
  rw [Bool.and_eq_true, decide_eq_true_iff] at h
  exact h
theorem lg_eq0 {x y : Int64} : (lg_cmp x y = 0) = (x = y) := by
  unfold lg_cmp
  by_cases c : x > y
  · rw [if_pos c]
    refine propext ⟨fun z => absurd z (by decide), fun z => ?_⟩
    rw [z] at c
    exact absurd c Int64.lt_irrefl
  · rw [if_neg c]
    by_cases c' : x = y
    · rw [if_pos c', c']
      exact propext ⟨fun _ => rfl, fun _ => rfl⟩
    · rw [if_neg c']
      exact propext ⟨fun z => absurd z (by decide), fun z => absurd z c'⟩
theorem m_isW {t : Tp} (ht : t.1 ≤ 400) {q : Nat} {M : mM} {W : Int64} (h : MTk t q M) : ∀ (k n f : Nat) (a : Int64), q + n + k = wdE t q → k < f → (n ≤ 8 → a = pk (tkl t q n) 0) → f_Model_isWord_10 W f a (i32 n) M = some (e01 (decide (0 < wdE t q - q) && decide (wdE t q - q < 8) && decide (pk (tkl t q (wdE t q - q)) 0 = W)), M)
  | _, _, 0, _, _, hf, _ => absurd hf (Nat.not_lt_zero _)
  | 0, n, f + 1, a, hk, hf, ha => by
    have hle := wdE_le t h.2.2.2
    have hn : wdE t q - q = n := by omega
    unfold f_Model_isWord_10
    rw [h.2.1, i32_add, m_lett ht h.1 (by omega), Option.bind_some, show q + n = wdE t q by omega, (wdE_lett t h.2.2.2).2, hn, if_pos (show (e01 false, M).1 = 0 from rfl)]
    by_cases c0 : 0 < n
    · rw [if_neg (by rw [show (0 : Int32) = i32 0 from rfl, i32_le (by omega) (by omega)]; omega)]
      by_cases c8 : n < 8
      · rw [if_neg (by rw [show (8 : Int32) = i32 8 from rfl, i32_le (by omega) (by omega)]; omega), decide_eq_true c0, decide_eq_true c8, Bool.true_and, Bool.true_and]
        by_cases c : pk (tkl t q n) 0 = W
        · rw [if_pos (by rw [lg_eq0, ha (by omega)]; exact c), decide_eq_true c]; rfl
        · rw [if_neg (by rw [lg_eq0, ha (by omega)]; exact c), decide_eq_false c]; rfl
      · rw [if_pos (by rw [show (8 : Int32) = i32 8 from rfl, i32_le (by omega) (by omega)]; omega), decide_eq_false c8, Bool.and_false, Bool.false_and]
        rfl
    · rw [if_pos (by rw [show (0 : Int32) = i32 0 from rfl, i32_le (by omega) (by omega)]; omega), decide_eq_false c0, Bool.false_and, Bool.false_and]
      rfl
  | k + 1, n, f + 1, a, hk, hf, ha => by
    have hle := wdE_le t h.2.2.2
    have hl := (wdE_lett t h.2.2.2).1 (q + n) (by omega) (by omega)
    unfold f_Model_isWord_10
    rw [h.2.1, i32_add, m_lett ht h.1 (by omega), Option.bind_some, hl, if_neg (fun z => absurd z (show ¬ e01 true = 0 by decide))]
    dsimp only
    by_cases c8 : n < 8
    · rw [if_neg (by rw [show (8 : Int32) = i32 8 from rfl, i32_le (by omega) (by omega)]; omega), h.2.1, i32_add, rd_i32 (by omega) (by omega), Option.bind_some, h.1.2 (q + n) (lett_A hl).1]
      unfold f_Model_isWord_50
      rw [nadd_1]
      refine m_isW ht h k (n + 1) f _ (by omega) (by omega) fun _ => ?_
      rw [ha (by omega), tkl_snoc]
      unfold pk
      rw [List.foldl_append]
      rfl
    · rw [if_pos (by rw [show (8 : Int32) = i32 8 from rfl, i32_le (by omega) (by omega)]; omega)]
      unfold f_Model_isWord_50
      rw [nadd_1]
      exact m_isW ht h k (n + 1) f a (by omega) (by omega) fun z => by omega
/-- is the word w at p -/
theorem m_isWord {t : Tp} (ht : t.1 ≤ 400) {p : Nat} {M : mM} {W : Int64} (h : MTk t p M) (w : List Int32) (hw : pk w 0 = W ∧ w ≠ [] ∧ w.length < 8 ∧ ∀ c, c ∈ w → isA c = true) : OK (f_Model_isWord W M) fun z => z.1 = e01 (eqF t (wdE t (skp t p)) (skp t p) w) ∧ MTk t (skp t p) z.2 ∧ Fr8 M z.2 := by
  obtain ⟨w1, w2, w3, w4⟩ := hw
  unfold f_Model_isWord
  refine OK_bind (m_see ht h) fun z hz => ?_
  obtain ⟨hz1, hz2, hz3⟩ := hz
  have hq := hz2.2.2.2
  have hle := wdE_le t hq
  have hge := wdE_ge t (skp t p)
  refine OK_eq (m_isW ht hz2 (wdE t (skp t p) - skp t p) 0 FUEL 0 (by omega) (by rw [FUEL_eq]; omega) fun _ => rfl) ⟨?_, hz2, hz3⟩
  show e01 _ = e01 _
  congr 1
  have e := eqF_tkl t w (skp t p) (wdE t (skp t p) - skp t p)
  rw [show skp t p + (wdE t (skp t p) - skp t p) = wdE t (skp t p) by omega] at e
  rw [e]
  by_cases c : wdE t (skp t p) - skp t p < 8
  · have inj := pk_inj (l := tkl t (skp t p) (wdE t (skp t p) - skp t p)) (w := w) (by rw [tkl_len]; exact c) w3 (fun x hx => by
      obtain ⟨j, j1, j2, j3⟩ := tkl_mem t _ _ x hx
      rw [j3]
      exact (lett_A ((wdE_lett t hq).1 j j1 (by omega))).2) w4
    rw [decide_eq_true c, Bool.and_true, ← w1]
    by_cases d : tkl t (skp t p) (wdE t (skp t p) - skp t p) = w
    · have d0 : 0 < wdE t (skp t p) - skp t p := by
        rcases Nat.eq_zero_or_pos (wdE t (skp t p) - skp t p) with z | z
        · rw [z] at d
          exact absurd d.symm w2
        · exact z
      rw [decide_eq_true d, decide_eq_true d0, decide_eq_true (inj.mpr d)]
      rfl
    · rw [decide_eq_false d, decide_eq_false (fun z => d (inj.mp z)), Bool.and_false]
  · have d : ¬ tkl t (skp t p) (wdE t (skp t p) - skp t p) = w := by
      intro z
      rw [← z, tkl_len] at w3
      omega
    rw [decide_eq_false c, Bool.and_false, Bool.false_and, decide_eq_false d]
theorem m_passW {t : Tp} (ht : t.1 ≤ 400) : ∀ (k q f : Nat) (M : mM), q + k = t.1 → k < f → MTk t q M → OK (f_Model_passWord_0 f M) fun M' => MTk t (wdF t k q) M' ∧ Fr8 M M'
  | _, _, 0, _, _, hf, _ => absurd hf (Nat.not_lt_zero _)
  | 0, q, f + 1, M, hq, hf, h => by
    unfold f_Model_passWord_0
    have e : lett t q = false := by unfold lett; rw [decide_eq_false (by omega), Bool.false_and]
    rw [h.2.1, m_lett ht h.1 (by omega), Option.bind_some, e, if_pos (show (e01 false, M).1 = 0 from rfl)]
    exact OK_some ⟨h, Fr8_refl _⟩
  | k + 1, q, f + 1, M, hq, hf, h => by
    unfold f_Model_passWord_0
    rw [h.2.1, m_lett ht h.1 (by omega), Option.bind_some, wdF]
    cases c : isA (t.2 q) with
    | false =>
      have e : lett t q = false := by unfold lett; rw [c, Bool.and_false]
      rw [e, if_pos (show (e01 false, M).1 = 0 from rfl), if_neg Bool.false_ne_true]
      exact OK_some ⟨h, Fr8_refl _⟩
    | true =>
      have e : lett t q = true := by unfold lett; rw [c, decide_eq_true (by omega)]; rfl
      rw [e, if_neg (fun z => absurd z (show ¬ e01 true = 0 by decide)), if_pos (rfl : true = true)]
      dsimp only
      rw [pI_s, Option.bind_some, h.2.1, nadd_1]
      exact OK_imp (m_passW ht k (q + 1) f _ (by omega) (by omega) (MTk_at h (by omega))) fun M' h' => ⟨h'.1, Fr8_trans Fr8_I h'.2⟩
theorem m_passWord {t : Tp} (ht : t.1 ≤ 400) {q : Nat} {M : mM} (h : MTk t q M) : OK (f_Model_passWord M) fun M' => MTk t (wdE t q) M' ∧ Fr8 M M' := by
  have := h.2.2.2
  exact m_passW ht (t.1 - q) q FUEL M (by omega) (by rw [FUEL_eq]; omega) h
theorem m_fails {t : Tp} (ht : t.1 ≤ 400) {p q k : Nat} {M : mM} (h : MTk t p M) (hq : q ≤ t.1) (hk : k ≤ 4) : OK (f_Model_fails (i32 k) (i32 q) M) fun z => z.1 = 0 ∧ MRf t (flt q k) z.2 ∧ FrZ M z.2 := by
  unfold f_Model_fails
  rw [if_pos h.2.2.1, pI_s, Option.bind_some, show (8 : Int32) * i32 q = i32 (8 * q) from i32_mul 8 _, show (1 : Int32) + i32 (8 * q) = i32 (1 + 8 * q) from i32_add 1 _, i32_add]
  exact OK_some ⟨rfl, ⟨MP_Z h.1 (FrZ_I (by omega)), gIe _ _ _ _, by unfold flt; omega, by unfold flt; omega⟩, FrZ_I (by omega)⟩
/-- the model's test of 0 or 1 behind a call -/
theorem bz0 {o : Option (Int32 × mM)} {Q : Int32 × mM → Prop} (h : OK o fun z => z.1 = 0 ∧ Q (0, z.2)) : OK (o.bind fun r => if r.1 = 0 ∨ r.1 = 1 then some (r.1, r.2) else none) Q := by
  obtain ⟨⟨a, b⟩, e, h1, h2⟩ := h
  subst e
  have h1' : a = 0 := h1
  subst h1'
  rw [Option.bind_some, if_pos (Or.inl rfl)]
  exact OK_some h2
