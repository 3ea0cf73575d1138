/-! ===== numbers: small naturals as ints; pieces of the printed functions ===== -/
def i32 (n : Nat) : Int32 := Int32.ofNat n
theorem lit32 (k : Nat) : (OfNat.ofNat k : Int32) = i32 k := rfl
theorem i32_toInt {a : Nat} (h : a < 2147483648) : (i32 a).toInt = (a : Int) := Int32.toInt_ofNat_of_lt (by omega)
theorem i32_lt {a b : Nat} (ha : a < 2147483648) (hb : b < 2147483648) : (i32 a < i32 b) = (a < b) := by
  rw [Int32.lt_iff_toInt_lt, i32_toInt ha, i32_toInt hb]
  exact propext Int.ofNat_lt
theorem i32_le {a b : Nat} (ha : a < 2147483648) (hb : b < 2147483648) : (i32 a ≤ i32 b) = (a ≤ b) := by
  rw [Int32.le_iff_toInt_le, i32_toInt ha, i32_toInt hb]
  exact propext Int.ofNat_le
theorem i32_eq {a b : Nat} (ha : a < 2147483648) (hb : b < 2147483648) : (i32 a = i32 b) = (a = b) := by
  rw [← Int32.toInt_inj, i32_toInt ha, i32_toInt hb]
  exact propext Int.ofNat_inj
theorem i32_lt_l {a k : Nat} (ha : a < 2147483648) (hb : k < 2147483648) : (i32 a < (OfNat.ofNat k : Int32)) = (a < k) := i32_lt ha hb
theorem i32_l_lt {a k : Nat} (ha : a < 2147483648) (hb : k < 2147483648) : ((OfNat.ofNat k : Int32) < i32 a) = (k < a) := i32_lt hb ha
theorem i32_le_l {a k : Nat} (ha : a < 2147483648) (hb : k < 2147483648) : (i32 a ≤ (OfNat.ofNat k : Int32)) = (a ≤ k) := i32_le ha hb
theorem i32_l_le {a k : Nat} (ha : a < 2147483648) (hb : k < 2147483648) : ((OfNat.ofNat k : Int32) ≤ i32 a) = (k ≤ a) := i32_le hb ha
theorem i32_eq_l {a k : Nat} (ha : a < 2147483648) (hb : k < 2147483648) : (i32 a = (OfNat.ofNat k : Int32)) = (a = k) := i32_eq ha hb
theorem i32_l_eq {a k : Nat} (ha : a < 2147483648) (hb : k < 2147483648) : ((OfNat.ofNat k : Int32) = i32 a) = (k = a) := i32_eq hb ha
theorem i32_add (a b : Nat) : i32 a + i32 b = i32 (a + b) := (Int32.ofNat_add a b).symm
theorem i32_add_l (a k : Nat) : i32 a + (OfNat.ofNat k : Int32) = i32 (a + k) := (Int32.ofNat_add a k).symm
theorem i32_mul_l (a k : Nat) : i32 a * (OfNat.ofNat k : Int32) = i32 (a * k) := (Int32.ofNat_mul a k).symm
theorem i32_mul (a b : Nat) : i32 a * i32 b = i32 (a * b) := (Int32.ofNat_mul a b).symm
theorem i32_sub {a b : Nat} (h : b ≤ a) : i32 a - i32 b = i32 (a - b) := by
  conv => lhs; rw [show a = (a - b) + b by omega, ← i32_add]
  rw [Int32.add_sub_cancel]
theorem i32_sub_l {a k : Nat} (h : k ≤ a) : i32 a - (OfNat.ofNat k : Int32) = i32 (a - k) := i32_sub h
theorem i32_dec {a : Nat} (h : 0 < a) : i32 a + (-1) = i32 (a - 1) := by
  rw [← i32_sub (show 1 ≤ a from h), Int32.sub_eq_add_neg]
  rfl
theorem i32_neg {a : Nat} (h : a < 2147483648) : (i32 a < 0) = False := by
  rw [show (0 : Int32) = i32 0 from rfl, i32_lt h (by omega)]
  exact eq_false (Nat.not_lt_zero a)
theorem i32_nn {a : Nat} (h : a < 2147483648) : (0 ≤ i32 a) = True := by
  rw [show (0 : Int32) = i32 0 from rfl, i32_le (by omega) h]
  exact eq_true (Nat.zero_le a)
theorem i32_ne1 {a : Nat} (h : a < 2147483648) : (i32 a = -1) = False := by
  refine eq_false fun z => ?_
  have h1 := congrArg Int32.toInt z
  rw [i32_toInt h] at h1
  have h2 : (-1 : Int32).toInt = -1 := by decide
  omega
theorem i32_n1e {a : Nat} (h : a < 2147483648) : (-1 = i32 a) = False := by
  exact eq_false fun z => (i32_ne1 h).mp z.symm
theorem n1_lt_i32 {a : Nat} (h : a < 2147483648) : (-1 < i32 a) = True := by
  refine eq_true ?_
  rw [Int32.lt_iff_toInt_lt, i32_toInt h]
  have h2 : (-1 : Int32).toInt = -1 := by decide
  omega
theorem i32_le_n1 {a : Nat} (h : a < 2147483648) : (i32 a ≤ -1) = False := by
  refine eq_false fun z => ?_
  rw [Int32.le_iff_toInt_le, i32_toInt h] at z
  have h2 : (-1 : Int32).toInt = -1 := by decide
  omega
theorem i32_lt_n1 {a : Nat} (h : a < 2147483648) : (i32 a < -1) = False := by
  refine eq_false fun z => ?_
  rw [Int32.lt_iff_toInt_lt, i32_toInt h] at z
  have h2 : (-1 : Int32).toInt = -1 := by decide
  omega
theorem i32_cl {a : Nat} (h : a < 2147483648) : (i32 a).toNatClampNeg = a := Int32.toNatClampNeg_ofNat_of_lt (by omega)
theorem i32_div_l {a k : Nat} (ha : a < 2147483648) (hk : k < 2147483648) : i32 a / (OfNat.ofNat k : Int32) = i32 (a / k) := by
  rw [lit32, ← Int32.toInt_inj, Int32.toInt_div, i32_toInt ha, i32_toInt hk, i32_toInt (Nat.lt_of_le_of_lt (Nat.div_le_self a k) ha)]
  rw [show (a : Int).tdiv (k : Int) = ((a / k : Nat) : Int) from rfl]
  have h1 := Nat.div_le_self a k
  have h2 : ((a / k : Nat) : Int) ≤ a := Int.ofNat_le.mpr h1
  have h3 : (0 : Int) ≤ ((a / k : Nat) : Int) := Int.natCast_nonneg _
  rw [Int.bmod_eq_of_le (by omega) (by omega)]
/-- every int is below 0 or a natural -/
theorem i32_cases (x : Int32) : x < 0 ∨ ∃ a, a < 2147483648 ∧ x = i32 a := by
  by_cases h : x < 0
  · exact Or.inl h
  · refine Or.inr ⟨x.toNatClampNeg, ?_, ?_⟩
    · have h1 := Int32.toInt_lt x
      show x.toInt.toNat < _
      omega
    · rw [← Int32.toInt_inj]
      have h1 := Int32.toInt_lt x
      have h2 : 0 ≤ x.toInt := by
        rw [Int32.lt_iff_toInt_lt] at h
        have : (0 : Int32).toInt = 0 := by decide
        omega
      have h3 : x.toNatClampNeg = x.toInt.toNat := rfl
      rw [i32_toInt (by omega)]
      omega
theorem mxin_i {a n : Nat} (h : a < n) (hn : n < 2147483648) : mxin (i32 a) n = true := by
  unfold mxin
  rw [i32_cl (by omega)]
  have h1 := i32_neg (a := a) (by omega)
  exact decide_eq_true (fun z => z.elim (fun q => h1.mp q) (by omega))
theorem rd_i32 {M : mM} {p n a : Nat} (h : a < n) (hn : n < 2147483648) : rd M p n (i32 a) = some (M.2.1 p a) := by
  unfold rd
  rw [if_pos (mxin_i h hn), i32_cl (by omega)]
theorem rd_l {M : mM} {p n k : Nat} (h : k < n) (hn : n < 2147483648) : rd M p n (OfNat.ofNat k) = some (M.2.1 p k) := rd_i32 h hn
theorem rdL_i32 {M : mM} {p n a : Nat} (h : a < n) (hn : n < 2147483648) : rdL M p n (i32 a) = some (M.2.2.1 p a) := by
  unfold rdL
  rw [if_pos (mxin_i h hn), i32_cl (by omega)]
theorem rdL_l {M : mM} {p n k : Nat} (h : k < n) (hn : n < 2147483648) : rdL M p n (OfNat.ofNat k) = some (M.2.2.1 p k) := rdL_i32 h hn
theorem ix_i32 {n a : Nat} (h : a < n) (hn : n < 2147483648) : ix n (i32 a) = some a := by
  unfold ix
  rw [if_pos (mxin_i h hn), i32_cl (by omega)]
theorem wr_i32 {M : mM} {p n a : Nat} {v : Int32} (h : a < n) (hn : n < 2147483648) : wr M p n (i32 a) v = some (msI M p a v) := by
  unfold wr
  rw [if_pos (mxin_i h hn), i32_cl (by omega)]
theorem wr_l {M : mM} {p n k : Nat} {v : Int32} (h : k < n) (hn : n < 2147483648) : wr M p n (OfNat.ofNat k) v = some (msI M p k v) := wr_i32 h hn
theorem wrL_i32 {M : mM} {p n a : Nat} {v : Int64} (h : a < n) (hn : n < 2147483648) : wrL M p n (i32 a) v = some (msL M p a v) := by
  unfold wrL
  rw [if_pos (mxin_i h hn), i32_cl (by omega)]
theorem wrL_l {M : mM} {p n k : Nat} {v : Int64} (h : k < n) (hn : n < 2147483648) : wrL M p n (OfNat.ofNat k) v = some (msL M p k v) := wrL_i32 h hn
theorem wrZ_i32 {M : mM} {p n a : Nat} {v : Int32} (h : a < n) (hn : n < 2147483648) : wrZ M p n (i32 a) v = some (msI M p a (vp_nar .boolean v)) := by
  unfold wrZ
  rw [if_pos (mxin_i h hn), i32_cl (by omega)]
theorem wrB_i32 {M : mM} {p n a : Nat} {v : Int32} (h : a < n) (hn : n < 2147483648) : wrB M p n (i32 a) v = some (msI M p a (vp_nar .byte v)) := by
  unfold wrB
  rw [if_pos (mxin_i h hn), i32_cl (by omega)]
theorem pI_s (M : mM) (p i : Nat) (v : Int32) : pI M p i v = some (msI M p i v) := rfl
theorem pR_s (M : mM) (p i : Nat) (v : Option Nat) : pR M p i v = some (msR M p i v) := rfl
theorem pL_s (M : mM) (p i : Nat) (v : Int64) : pL M p i v = some (msL M p i v) := rfl
theorem pC_s (M : mM) (p q n : Nat) : pC M p q n = some (mcpy M p q 0 0 n) := rfl
theorem pZ_0 (M : mM) (p i : Nat) : pZ M p i 0 = some (msI M p i 0) := if_pos (Or.inl rfl)
theorem pZ_1 (M : mM) (p i : Nat) : pZ M p i 1 = some (msI M p i 1) := if_pos (Or.inr rfl)
/-- reading behind a write -/
theorem gI (M : mM) (p i : Nat) (v : Int32) (q j : Nat) : (msI M p i v).2.1 q j = if q = p ∧ j = i then v else M.2.1 q j := by
  show m2 M.2.1 p i v q j = _
  unfold m2
  by_cases h : q = p
  · rw [if_pos h]
    subst h
    show va_up _ _ _ _ = _
    unfold va_up
    simp only [true_and]
  · rw [if_neg h, if_neg (fun z => h z.1)]
theorem gIe (M : mM) (p i : Nat) (v : Int32) : (msI M p i v).2.1 p i = v := by rw [gI, if_pos ⟨rfl, rfl⟩]
theorem gIn {M : mM} {p i : Nat} {v : Int32} {q j : Nat} (h : q ≠ p ∨ j ≠ i) : (msI M p i v).2.1 q j = M.2.1 q j := by
  rw [gI, if_neg (by omega)]
theorem gIp {M : mM} {p i : Nat} {v : Int32} {q : Nat} (h : q ≠ p) : (msI M p i v).2.1 q = M.2.1 q := if_neg h
theorem gIL (M : mM) (p i : Nat) (v : Int32) : (msI M p i v).2.2 = M.2.2 := rfl
theorem gRI (M : mM) (p i : Nat) (v : Option Nat) : (msR M p i v).2.1 = M.2.1 := rfl
theorem gRL (M : mM) (p i : Nat) (v : Option Nat) : (msR M p i v).2.2.1 = M.2.2.1 := rfl
theorem gR (M : mM) (p i : Nat) (v : Option Nat) (q j : Nat) : (msR M p i v).2.2.2 q j = if q = p ∧ j = i then v else M.2.2.2 q j := by
  show m2 M.2.2.2 p i v q j = _
  unfold m2
  by_cases h : q = p
  · rw [if_pos h]
    subst h
    show va_up _ _ _ _ = _
    unfold va_up
    simp only [true_and]
  · rw [if_neg h, if_neg (fun z => h z.1)]
theorem gLI (M : mM) (p i : Nat) (v : Int64) : (msL M p i v).2.1 = M.2.1 := rfl
theorem gLR (M : mM) (p i : Nat) (v : Int64) : (msL M p i v).2.2.2 = M.2.2.2 := rfl
theorem gL (M : mM) (p i : Nat) (v : Int64) (q j : Nat) : (msL M p i v).2.2.1 q j = if q = p ∧ j = i then v else M.2.2.1 q j := by
  show m2 M.2.2.1 p i v q j = _
  unfold m2
  by_cases h : q = p
  · rw [if_pos h]
    subst h
    show va_up _ _ _ _ = _
    unfold va_up
    simp only [true_and]
  · rw [if_neg h, if_neg (fun z => h z.1)]
theorem gC (M : mM) (p q n r j : Nat) : (mcpy M p q 0 0 n).2.1 r j = if r = q ∧ j < n then M.2.1 p j else M.2.1 r j := by
  show (if r = q then va_cpy (M.2.1 p) (M.2.1 q) 0 0 n else M.2.1 r) j = _
  by_cases h : r = q
  · subst h
    rw [if_pos rfl]
    unfold va_cpy
    simp only [Nat.zero_le, true_and, Nat.zero_add, Nat.sub_zero]
  · rw [if_neg h, if_neg (fun z => h z.1)]
theorem gIo {M : mM} {p i : Nat} {v : Int32} {j : Nat} (h : j ≠ i) : (msI M p i v).2.1 p j = M.2.1 p j := gIn (Or.inr h)
theorem gCn {M : mM} {p q n r : Nat} (h : r ≠ q) : (mcpy M p q 0 0 n).2.1 r = M.2.1 r := if_neg h
theorem gCe {M : mM} {p q n j : Nat} (h : j < n) : (mcpy M p q 0 0 n).2.1 q j = M.2.1 p j := by rw [gC, if_pos ⟨rfl, h⟩]
theorem gLe (M : mM) (p i : Nat) (v : Int64) : (msL M p i v).2.2.1 p i = v := by rw [gL, if_pos ⟨rfl, rfl⟩]
theorem gLo {M : mM} {p i : Nat} {v : Int64} {j : Nat} (h : j ≠ i) : (msL M p i v).2.2.1 p j = M.2.2.1 p j := by rw [gL, if_neg (fun z => h z.2)]
theorem gLp {M : mM} {p i : Nat} {v : Int64} {q : Nat} (h : q ≠ p) : (msL M p i v).2.2.1 q = M.2.2.1 q := if_neg h
theorem gRe (M : mM) (p i : Nat) (v : Option Nat) : (msR M p i v).2.2.2 p i = v := by rw [gR, if_pos ⟨rfl, rfl⟩]
theorem gRo {M : mM} {p i : Nat} {v : Option Nat} {j : Nat} (h : j ≠ i) : (msR M p i v).2.2.2 p j = M.2.2.2 p j := by rw [gR, if_neg (fun z => h z.2)]
theorem gRp {M : mM} {p i : Nat} {v : Option Nat} {q : Nat} (h : q ≠ p) : (msR M p i v).2.2.2 q = M.2.2.2 q := if_neg h
theorem gIR (M : mM) (p i : Nat) (v : Int32) : (msI M p i v).2.2.2 = M.2.2.2 := rfl
theorem gIl (M : mM) (p i : Nat) (v : Int32) : (msI M p i v).2.2.1 = M.2.2.1 := rfl
theorem gCR (M : mM) (p q n : Nat) : (mcpy M p q 0 0 n).2.2.2 = M.2.2.2 := rfl
theorem gCL (M : mM) (p q n : Nat) : (mcpy M p q 0 0 n).2.2 = M.2.2 := rfl
/-- one place alone may change between lo and hi: all rows beside are the same -/
def Sm (lo hi : Nat) (M M' : mM) : Prop := ∀ p, p < lo ∨ hi ≤ p → M'.2.1 p = M.2.1 p ∧ M'.2.2.2 p = M.2.2.2 p
theorem Sm_refl (lo hi : Nat) (M : mM) : Sm lo hi M M := fun _ _ => ⟨rfl, rfl⟩
theorem Sm_trans {lo hi : Nat} {M M' M'' : mM} (h : Sm lo hi M M') (h' : Sm lo hi M' M'') : Sm lo hi M M'' := fun p hp => ⟨((h' p hp).1).trans (h p hp).1, ((h' p hp).2).trans (h p hp).2⟩
theorem Sm_le {lo hi lo' hi' : Nat} {M M' : mM} (h : Sm lo hi M M') (h1 : lo' ≤ lo) (h2 : hi ≤ hi') : Sm lo' hi' M M' := fun p hp => h p (by omega)
theorem Sm_I {lo hi : Nat} {M : mM} {p i : Nat} {v : Int32} (h : lo ≤ p ∧ p < hi) : Sm lo hi M (msI M p i v) := fun q hq => ⟨gIp (by omega), rfl⟩
theorem Sm_R {lo hi : Nat} {M : mM} {p i : Nat} {v : Option Nat} (h : lo ≤ p ∧ p < hi) : Sm lo hi M (msR M p i v) := fun q hq => ⟨rfl, if_neg (by omega)⟩
theorem Sm_L {lo hi : Nat} {M : mM} {p i : Nat} {v : Int64} : Sm lo hi M (msL M p i v) := fun q hq => ⟨rfl, rfl⟩
theorem Sm_C {lo hi : Nat} {M : mM} {p q n : Nat} (h : lo ≤ q ∧ q < hi) : Sm lo hi M (mcpy M p q 0 0 n) := fun r hr => ⟨if_neg (by omega), rfl⟩
/-- partial answers -/
def OK {α : Type} (x : Option α) (Q : α → Prop) : Prop := ∃ a, x = some a ∧ Q a
theorem OK_some {α : Type} {a : α} {Q : α → Prop} (h : Q a) : OK (some a) Q := ⟨a, rfl, h⟩
theorem OK_bind {α β : Type} {x : Option α} {f : α → Option β} {P : α → Prop} {Q : β → Prop} (h : OK x P) (h' : ∀ a, P a → OK (f a) Q) : OK (x.bind f) Q := by
  obtain ⟨a, rfl, ha⟩ := h
  exact h' a ha
theorem OK_imp {α : Type} {x : Option α} {P Q : α → Prop} (h : OK x P) (h' : ∀ a, P a → Q a) : OK x Q := by
  obtain ⟨a, e, ha⟩ := h
  exact ⟨a, e, h' a ha⟩
theorem OK_pos {α : Type} {c : Prop} [Decidable c] {a b : Option α} {Q : α → Prop} (hc : c) (h : OK a Q) : OK (if c then a else b) Q := by rw [if_pos hc]; exact h
theorem OK_neg {α : Type} {c : Prop} [Decidable c] {a b : Option α} {Q : α → Prop} (hc : ¬ c) (h : OK b Q) : OK (if c then a else b) Q := by rw [if_neg hc]; exact h
theorem Sm_i {lo hi : Nat} {M M' : mM} (h : Sm lo hi M M') {p : Nat} (hp : p < lo ∨ hi ≤ p) : M'.2.1 p = M.2.1 p := (h p hp).1
theorem Sm_r {lo hi : Nat} {M M' : mM} (h : Sm lo hi M M') {p : Nat} (hp : p < lo ∨ hi ≤ p) : M'.2.2.2 p = M.2.2.2 p := (h p hp).2
theorem OK_eq {α : Type} {x : Option α} {a : α} {Q : α → Prop} (h : x = some a) (hq : Q a) : OK x Q := ⟨a, h, hq⟩
theorem nlt_0 {a : Nat} (h : a < 2147483648) : (i32 a < 0) = (a < 0) := i32_lt h (by decide)
theorem l0_lt {a : Nat} (h : a < 2147483648) : (0 < i32 a) = (0 < a) := i32_lt (by decide) h
theorem nle_0 {a : Nat} (h : a < 2147483648) : (i32 a ≤ 0) = (a ≤ 0) := i32_le h (by decide)
theorem l0_le {a : Nat} (h : a < 2147483648) : (0 ≤ i32 a) = (0 ≤ a) := i32_le (by decide) h
theorem neq_0 {a : Nat} (h : a < 2147483648) : (i32 a = 0) = (a = 0) := i32_eq h (by decide)
theorem nadd_0 (a : Nat) : i32 a + 0 = i32 (a + 0) := i32_add a 0
theorem nmul_0 (a : Nat) : i32 a * 0 = i32 (a * 0) := i32_mul a 0
theorem nmul'_0 (a : Nat) : 0 * i32 a = i32 (0 * a) := i32_mul 0 a
theorem nadd'_0 (a : Nat) : 0 + i32 a = i32 (0 + a) := i32_add 0 a
theorem nsub_0 {a : Nat} (h : 0 ≤ a) : i32 a - 0 = i32 (a - 0) := i32_sub h
theorem nlt_1 {a : Nat} (h : a < 2147483648) : (i32 a < 1) = (a < 1) := i32_lt h (by decide)
theorem l1_lt {a : Nat} (h : a < 2147483648) : (1 < i32 a) = (1 < a) := i32_lt (by decide) h
theorem nle_1 {a : Nat} (h : a < 2147483648) : (i32 a ≤ 1) = (a ≤ 1) := i32_le h (by decide)
theorem l1_le {a : Nat} (h : a < 2147483648) : (1 ≤ i32 a) = (1 ≤ a) := i32_le (by decide) h
theorem neq_1 {a : Nat} (h : a < 2147483648) : (i32 a = 1) = (a = 1) := i32_eq h (by decide)
theorem nadd_1 (a : Nat) : i32 a + 1 = i32 (a + 1) := i32_add a 1
theorem nmul_1 (a : Nat) : i32 a * 1 = i32 (a * 1) := i32_mul a 1
theorem nmul'_1 (a : Nat) : 1 * i32 a = i32 (1 * a) := i32_mul 1 a
theorem nadd'_1 (a : Nat) : 1 + i32 a = i32 (1 + a) := i32_add 1 a
theorem nsub_1 {a : Nat} (h : 1 ≤ a) : i32 a - 1 = i32 (a - 1) := i32_sub h
theorem nlt_2 {a : Nat} (h : a < 2147483648) : (i32 a < 2) = (a < 2) := i32_lt h (by decide)
theorem l2_lt {a : Nat} (h : a < 2147483648) : (2 < i32 a) = (2 < a) := i32_lt (by decide) h
theorem nle_2 {a : Nat} (h : a < 2147483648) : (i32 a ≤ 2) = (a ≤ 2) := i32_le h (by decide)
theorem l2_le {a : Nat} (h : a < 2147483648) : (2 ≤ i32 a) = (2 ≤ a) := i32_le (by decide) h
theorem neq_2 {a : Nat} (h : a < 2147483648) : (i32 a = 2) = (a = 2) := i32_eq h (by decide)
theorem nadd_2 (a : Nat) : i32 a + 2 = i32 (a + 2) := i32_add a 2
theorem nmul_2 (a : Nat) : i32 a * 2 = i32 (a * 2) := i32_mul a 2
theorem nmul'_2 (a : Nat) : 2 * i32 a = i32 (2 * a) := i32_mul 2 a
theorem nadd'_2 (a : Nat) : 2 + i32 a = i32 (2 + a) := i32_add 2 a
theorem nsub_2 {a : Nat} (h : 2 ≤ a) : i32 a - 2 = i32 (a - 2) := i32_sub h
theorem nlt_3 {a : Nat} (h : a < 2147483648) : (i32 a < 3) = (a < 3) := i32_lt h (by decide)
theorem l3_lt {a : Nat} (h : a < 2147483648) : (3 < i32 a) = (3 < a) := i32_lt (by decide) h
theorem nle_3 {a : Nat} (h : a < 2147483648) : (i32 a ≤ 3) = (a ≤ 3) := i32_le h (by decide)
theorem l3_le {a : Nat} (h : a < 2147483648) : (3 ≤ i32 a) = (3 ≤ a) := i32_le (by decide) h
theorem neq_3 {a : Nat} (h : a < 2147483648) : (i32 a = 3) = (a = 3) := i32_eq h (by decide)
theorem nadd_3 (a : Nat) : i32 a + 3 = i32 (a + 3) := i32_add a 3
theorem nmul_3 (a : Nat) : i32 a * 3 = i32 (a * 3) := i32_mul a 3
theorem nmul'_3 (a : Nat) : 3 * i32 a = i32 (3 * a) := i32_mul 3 a
theorem nadd'_3 (a : Nat) : 3 + i32 a = i32 (3 + a) := i32_add 3 a
theorem nsub_3 {a : Nat} (h : 3 ≤ a) : i32 a - 3 = i32 (a - 3) := i32_sub h
theorem nlt_4 {a : Nat} (h : a < 2147483648) : (i32 a < 4) = (a < 4) := i32_lt h (by decide)
theorem l4_lt {a : Nat} (h : a < 2147483648) : (4 < i32 a) = (4 < a) := i32_lt (by decide) h
theorem nle_4 {a : Nat} (h : a < 2147483648) : (i32 a ≤ 4) = (a ≤ 4) := i32_le h (by decide)
theorem l4_le {a : Nat} (h : a < 2147483648) : (4 ≤ i32 a) = (4 ≤ a) := i32_le (by decide) h
theorem neq_4 {a : Nat} (h : a < 2147483648) : (i32 a = 4) = (a = 4) := i32_eq h (by decide)
theorem nadd_4 (a : Nat) : i32 a + 4 = i32 (a + 4) := i32_add a 4
theorem nmul_4 (a : Nat) : i32 a * 4 = i32 (a * 4) := i32_mul a 4
theorem nmul'_4 (a : Nat) : 4 * i32 a = i32 (4 * a) := i32_mul 4 a
theorem nadd'_4 (a : Nat) : 4 + i32 a = i32 (4 + a) := i32_add 4 a
theorem nsub_4 {a : Nat} (h : 4 ≤ a) : i32 a - 4 = i32 (a - 4) := i32_sub h
theorem nlt_5 {a : Nat} (h : a < 2147483648) : (i32 a < 5) = (a < 5) := i32_lt h (by decide)
theorem l5_lt {a : Nat} (h : a < 2147483648) : (5 < i32 a) = (5 < a) := i32_lt (by decide) h
theorem nle_5 {a : Nat} (h : a < 2147483648) : (i32 a ≤ 5) = (a ≤ 5) := i32_le h (by decide)
theorem l5_le {a : Nat} (h : a < 2147483648) : (5 ≤ i32 a) = (5 ≤ a) := i32_le (by decide) h
theorem neq_5 {a : Nat} (h : a < 2147483648) : (i32 a = 5) = (a = 5) := i32_eq h (by decide)
theorem nadd_5 (a : Nat) : i32 a + 5 = i32 (a + 5) := i32_add a 5
theorem nmul_5 (a : Nat) : i32 a * 5 = i32 (a * 5) := i32_mul a 5
theorem nmul'_5 (a : Nat) : 5 * i32 a = i32 (5 * a) := i32_mul 5 a
theorem nadd'_5 (a : Nat) : 5 + i32 a = i32 (5 + a) := i32_add 5 a
theorem nsub_5 {a : Nat} (h : 5 ≤ a) : i32 a - 5 = i32 (a - 5) := i32_sub h
theorem nlt_6 {a : Nat} (h : a < 2147483648) : (i32 a < 6) = (a < 6) := i32_lt h (by decide)
theorem l6_lt {a : Nat} (h : a < 2147483648) : (6 < i32 a) = (6 < a) := i32_lt (by decide) h
theorem nle_6 {a : Nat} (h : a < 2147483648) : (i32 a ≤ 6) = (a ≤ 6) := i32_le h (by decide)
theorem l6_le {a : Nat} (h : a < 2147483648) : (6 ≤ i32 a) = (6 ≤ a) := i32_le (by decide) h
theorem neq_6 {a : Nat} (h : a < 2147483648) : (i32 a = 6) = (a = 6) := i32_eq h (by decide)
theorem nadd_6 (a : Nat) : i32 a + 6 = i32 (a + 6) := i32_add a 6
theorem nmul_6 (a : Nat) : i32 a * 6 = i32 (a * 6) := i32_mul a 6
theorem nmul'_6 (a : Nat) : 6 * i32 a = i32 (6 * a) := i32_mul 6 a
theorem nadd'_6 (a : Nat) : 6 + i32 a = i32 (6 + a) := i32_add 6 a
theorem nsub_6 {a : Nat} (h : 6 ≤ a) : i32 a - 6 = i32 (a - 6) := i32_sub h
theorem nlt_7 {a : Nat} (h : a < 2147483648) : (i32 a < 7) = (a < 7) := i32_lt h (by decide)
theorem l7_lt {a : Nat} (h : a < 2147483648) : (7 < i32 a) = (7 < a) := i32_lt (by decide) h
theorem nle_7 {a : Nat} (h : a < 2147483648) : (i32 a ≤ 7) = (a ≤ 7) := i32_le h (by decide)
theorem l7_le {a : Nat} (h : a < 2147483648) : (7 ≤ i32 a) = (7 ≤ a) := i32_le (by decide) h
theorem neq_7 {a : Nat} (h : a < 2147483648) : (i32 a = 7) = (a = 7) := i32_eq h (by decide)
theorem nadd_7 (a : Nat) : i32 a + 7 = i32 (a + 7) := i32_add a 7
theorem nmul_7 (a : Nat) : i32 a * 7 = i32 (a * 7) := i32_mul a 7
theorem nmul'_7 (a : Nat) : 7 * i32 a = i32 (7 * a) := i32_mul 7 a
theorem nadd'_7 (a : Nat) : 7 + i32 a = i32 (7 + a) := i32_add 7 a
theorem nsub_7 {a : Nat} (h : 7 ≤ a) : i32 a - 7 = i32 (a - 7) := i32_sub h
theorem nlt_8 {a : Nat} (h : a < 2147483648) : (i32 a < 8) = (a < 8) := i32_lt h (by decide)
theorem l8_lt {a : Nat} (h : a < 2147483648) : (8 < i32 a) = (8 < a) := i32_lt (by decide) h
theorem nle_8 {a : Nat} (h : a < 2147483648) : (i32 a ≤ 8) = (a ≤ 8) := i32_le h (by decide)
theorem l8_le {a : Nat} (h : a < 2147483648) : (8 ≤ i32 a) = (8 ≤ a) := i32_le (by decide) h
theorem neq_8 {a : Nat} (h : a < 2147483648) : (i32 a = 8) = (a = 8) := i32_eq h (by decide)
theorem nadd_8 (a : Nat) : i32 a + 8 = i32 (a + 8) := i32_add a 8
theorem nmul_8 (a : Nat) : i32 a * 8 = i32 (a * 8) := i32_mul a 8
theorem nmul'_8 (a : Nat) : 8 * i32 a = i32 (8 * a) := i32_mul 8 a
theorem nadd'_8 (a : Nat) : 8 + i32 a = i32 (8 + a) := i32_add 8 a
theorem nsub_8 {a : Nat} (h : 8 ≤ a) : i32 a - 8 = i32 (a - 8) := i32_sub h
theorem nlt_9 {a : Nat} (h : a < 2147483648) : (i32 a < 9) = (a < 9) := i32_lt h (by decide)
theorem l9_lt {a : Nat} (h : a < 2147483648) : (9 < i32 a) = (9 < a) := i32_lt (by decide) h
theorem nle_9 {a : Nat} (h : a < 2147483648) : (i32 a ≤ 9) = (a ≤ 9) := i32_le h (by decide)
theorem l9_le {a : Nat} (h : a < 2147483648) : (9 ≤ i32 a) = (9 ≤ a) := i32_le (by decide) h
theorem neq_9 {a : Nat} (h : a < 2147483648) : (i32 a = 9) = (a = 9) := i32_eq h (by decide)
theorem nadd_9 (a : Nat) : i32 a + 9 = i32 (a + 9) := i32_add a 9
theorem nmul_9 (a : Nat) : i32 a * 9 = i32 (a * 9) := i32_mul a 9
theorem nmul'_9 (a : Nat) : 9 * i32 a = i32 (9 * a) := i32_mul 9 a
theorem nadd'_9 (a : Nat) : 9 + i32 a = i32 (9 + a) := i32_add 9 a
theorem nsub_9 {a : Nat} (h : 9 ≤ a) : i32 a - 9 = i32 (a - 9) := i32_sub h
theorem nlt_10 {a : Nat} (h : a < 2147483648) : (i32 a < 10) = (a < 10) := i32_lt h (by decide)
theorem l10_lt {a : Nat} (h : a < 2147483648) : (10 < i32 a) = (10 < a) := i32_lt (by decide) h
theorem nle_10 {a : Nat} (h : a < 2147483648) : (i32 a ≤ 10) = (a ≤ 10) := i32_le h (by decide)
theorem l10_le {a : Nat} (h : a < 2147483648) : (10 ≤ i32 a) = (10 ≤ a) := i32_le (by decide) h
theorem neq_10 {a : Nat} (h : a < 2147483648) : (i32 a = 10) = (a = 10) := i32_eq h (by decide)
theorem nadd_10 (a : Nat) : i32 a + 10 = i32 (a + 10) := i32_add a 10
theorem nmul_10 (a : Nat) : i32 a * 10 = i32 (a * 10) := i32_mul a 10
theorem nmul'_10 (a : Nat) : 10 * i32 a = i32 (10 * a) := i32_mul 10 a
theorem nadd'_10 (a : Nat) : 10 + i32 a = i32 (10 + a) := i32_add 10 a
theorem nsub_10 {a : Nat} (h : 10 ≤ a) : i32 a - 10 = i32 (a - 10) := i32_sub h
theorem nlt_11 {a : Nat} (h : a < 2147483648) : (i32 a < 11) = (a < 11) := i32_lt h (by decide)
theorem l11_lt {a : Nat} (h : a < 2147483648) : (11 < i32 a) = (11 < a) := i32_lt (by decide) h
theorem nle_11 {a : Nat} (h : a < 2147483648) : (i32 a ≤ 11) = (a ≤ 11) := i32_le h (by decide)
theorem l11_le {a : Nat} (h : a < 2147483648) : (11 ≤ i32 a) = (11 ≤ a) := i32_le (by decide) h
theorem neq_11 {a : Nat} (h : a < 2147483648) : (i32 a = 11) = (a = 11) := i32_eq h (by decide)
theorem nadd_11 (a : Nat) : i32 a + 11 = i32 (a + 11) := i32_add a 11
theorem nmul_11 (a : Nat) : i32 a * 11 = i32 (a * 11) := i32_mul a 11
theorem nmul'_11 (a : Nat) : 11 * i32 a = i32 (11 * a) := i32_mul 11 a
theorem nadd'_11 (a : Nat) : 11 + i32 a = i32 (11 + a) := i32_add 11 a
theorem nsub_11 {a : Nat} (h : 11 ≤ a) : i32 a - 11 = i32 (a - 11) := i32_sub h
theorem nlt_12 {a : Nat} (h : a < 2147483648) : (i32 a < 12) = (a < 12) := i32_lt h (by decide)
theorem l12_lt {a : Nat} (h : a < 2147483648) : (12 < i32 a) = (12 < a) := i32_lt (by decide) h
theorem nle_12 {a : Nat} (h : a < 2147483648) : (i32 a ≤ 12) = (a ≤ 12) := i32_le h (by decide)
theorem l12_le {a : Nat} (h : a < 2147483648) : (12 ≤ i32 a) = (12 ≤ a) := i32_le (by decide) h
theorem neq_12 {a : Nat} (h : a < 2147483648) : (i32 a = 12) = (a = 12) := i32_eq h (by decide)
theorem nadd_12 (a : Nat) : i32 a + 12 = i32 (a + 12) := i32_add a 12
theorem nmul_12 (a : Nat) : i32 a * 12 = i32 (a * 12) := i32_mul a 12
theorem nmul'_12 (a : Nat) : 12 * i32 a = i32 (12 * a) := i32_mul 12 a
theorem nadd'_12 (a : Nat) : 12 + i32 a = i32 (12 + a) := i32_add 12 a
theorem nsub_12 {a : Nat} (h : 12 ≤ a) : i32 a - 12 = i32 (a - 12) := i32_sub h
theorem nlt_13 {a : Nat} (h : a < 2147483648) : (i32 a < 13) = (a < 13) := i32_lt h (by decide)
theorem l13_lt {a : Nat} (h : a < 2147483648) : (13 < i32 a) = (13 < a) := i32_lt (by decide) h
theorem nle_13 {a : Nat} (h : a < 2147483648) : (i32 a ≤ 13) = (a ≤ 13) := i32_le h (by decide)
theorem l13_le {a : Nat} (h : a < 2147483648) : (13 ≤ i32 a) = (13 ≤ a) := i32_le (by decide) h
theorem neq_13 {a : Nat} (h : a < 2147483648) : (i32 a = 13) = (a = 13) := i32_eq h (by decide)
theorem nadd_13 (a : Nat) : i32 a + 13 = i32 (a + 13) := i32_add a 13
theorem nmul_13 (a : Nat) : i32 a * 13 = i32 (a * 13) := i32_mul a 13
theorem nmul'_13 (a : Nat) : 13 * i32 a = i32 (13 * a) := i32_mul 13 a
theorem nadd'_13 (a : Nat) : 13 + i32 a = i32 (13 + a) := i32_add 13 a
theorem nsub_13 {a : Nat} (h : 13 ≤ a) : i32 a - 13 = i32 (a - 13) := i32_sub h
theorem nlt_20 {a : Nat} (h : a < 2147483648) : (i32 a < 20) = (a < 20) := i32_lt h (by decide)
theorem l20_lt {a : Nat} (h : a < 2147483648) : (20 < i32 a) = (20 < a) := i32_lt (by decide) h
theorem nle_20 {a : Nat} (h : a < 2147483648) : (i32 a ≤ 20) = (a ≤ 20) := i32_le h (by decide)
theorem l20_le {a : Nat} (h : a < 2147483648) : (20 ≤ i32 a) = (20 ≤ a) := i32_le (by decide) h
theorem neq_20 {a : Nat} (h : a < 2147483648) : (i32 a = 20) = (a = 20) := i32_eq h (by decide)
theorem nadd_20 (a : Nat) : i32 a + 20 = i32 (a + 20) := i32_add a 20
theorem nmul_20 (a : Nat) : i32 a * 20 = i32 (a * 20) := i32_mul a 20
theorem nmul'_20 (a : Nat) : 20 * i32 a = i32 (20 * a) := i32_mul 20 a
theorem nadd'_20 (a : Nat) : 20 + i32 a = i32 (20 + a) := i32_add 20 a
theorem nsub_20 {a : Nat} (h : 20 ≤ a) : i32 a - 20 = i32 (a - 20) := i32_sub h
theorem nlt_400 {a : Nat} (h : a < 2147483648) : (i32 a < 400) = (a < 400) := i32_lt h (by decide)
theorem l400_lt {a : Nat} (h : a < 2147483648) : (400 < i32 a) = (400 < a) := i32_lt (by decide) h
theorem nle_400 {a : Nat} (h : a < 2147483648) : (i32 a ≤ 400) = (a ≤ 400) := i32_le h (by decide)
theorem l400_le {a : Nat} (h : a < 2147483648) : (400 ≤ i32 a) = (400 ≤ a) := i32_le (by decide) h
theorem neq_400 {a : Nat} (h : a < 2147483648) : (i32 a = 400) = (a = 400) := i32_eq h (by decide)
theorem nadd_400 (a : Nat) : i32 a + 400 = i32 (a + 400) := i32_add a 400
theorem nmul_400 (a : Nat) : i32 a * 400 = i32 (a * 400) := i32_mul a 400
theorem nmul'_400 (a : Nat) : 400 * i32 a = i32 (400 * a) := i32_mul 400 a
theorem nadd'_400 (a : Nat) : 400 + i32 a = i32 (400 + a) := i32_add 400 a
theorem nsub_400 {a : Nat} (h : 400 ≤ a) : i32 a - 400 = i32 (a - 400) := i32_sub h
theorem nlt_15 {a : Nat} (h : a < 2147483648) : (i32 a < 15) = (a < 15) := i32_lt h (by decide)
theorem l15_lt {a : Nat} (h : a < 2147483648) : (15 < i32 a) = (15 < a) := i32_lt (by decide) h
theorem nle_15 {a : Nat} (h : a < 2147483648) : (i32 a ≤ 15) = (a ≤ 15) := i32_le h (by decide)
theorem l15_le {a : Nat} (h : a < 2147483648) : (15 ≤ i32 a) = (15 ≤ a) := i32_le (by decide) h
theorem neq_15 {a : Nat} (h : a < 2147483648) : (i32 a = 15) = (a = 15) := i32_eq h (by decide)
theorem nadd_15 (a : Nat) : i32 a + 15 = i32 (a + 15) := i32_add a 15
theorem nmul_15 (a : Nat) : i32 a * 15 = i32 (a * 15) := i32_mul a 15
theorem nmul'_15 (a : Nat) : 15 * i32 a = i32 (15 * a) := i32_mul 15 a
theorem nadd'_15 (a : Nat) : 15 + i32 a = i32 (15 + a) := i32_add 15 a
theorem nsub_15 {a : Nat} (h : 15 ≤ a) : i32 a - 15 = i32 (a - 15) := i32_sub h
theorem nlt_16 {a : Nat} (h : a < 2147483648) : (i32 a < 16) = (a < 16) := i32_lt h (by decide)
theorem l16_lt {a : Nat} (h : a < 2147483648) : (16 < i32 a) = (16 < a) := i32_lt (by decide) h
theorem nle_16 {a : Nat} (h : a < 2147483648) : (i32 a ≤ 16) = (a ≤ 16) := i32_le h (by decide)
theorem l16_le {a : Nat} (h : a < 2147483648) : (16 ≤ i32 a) = (16 ≤ a) := i32_le (by decide) h
theorem neq_16 {a : Nat} (h : a < 2147483648) : (i32 a = 16) = (a = 16) := i32_eq h (by decide)
theorem nadd_16 (a : Nat) : i32 a + 16 = i32 (a + 16) := i32_add a 16
theorem nmul_16 (a : Nat) : i32 a * 16 = i32 (a * 16) := i32_mul a 16
theorem nmul'_16 (a : Nat) : 16 * i32 a = i32 (16 * a) := i32_mul 16 a
theorem nadd'_16 (a : Nat) : 16 + i32 a = i32 (16 + a) := i32_add 16 a
theorem nsub_16 {a : Nat} (h : 16 ≤ a) : i32 a - 16 = i32 (a - 16) := i32_sub h
theorem nlt_19 {a : Nat} (h : a < 2147483648) : (i32 a < 19) = (a < 19) := i32_lt h (by decide)
theorem l19_lt {a : Nat} (h : a < 2147483648) : (19 < i32 a) = (19 < a) := i32_lt (by decide) h
theorem nle_19 {a : Nat} (h : a < 2147483648) : (i32 a ≤ 19) = (a ≤ 19) := i32_le h (by decide)
theorem l19_le {a : Nat} (h : a < 2147483648) : (19 ≤ i32 a) = (19 ≤ a) := i32_le (by decide) h
theorem neq_19 {a : Nat} (h : a < 2147483648) : (i32 a = 19) = (a = 19) := i32_eq h (by decide)
theorem nadd_19 (a : Nat) : i32 a + 19 = i32 (a + 19) := i32_add a 19
theorem nmul_19 (a : Nat) : i32 a * 19 = i32 (a * 19) := i32_mul a 19
theorem nmul'_19 (a : Nat) : 19 * i32 a = i32 (19 * a) := i32_mul 19 a
theorem nadd'_19 (a : Nat) : 19 + i32 a = i32 (19 + a) := i32_add 19 a
theorem nsub_19 {a : Nat} (h : 19 ≤ a) : i32 a - 19 = i32 (a - 19) := i32_sub h
theorem nlt_21 {a : Nat} (h : a < 2147483648) : (i32 a < 21) = (a < 21) := i32_lt h (by decide)
theorem l21_lt {a : Nat} (h : a < 2147483648) : (21 < i32 a) = (21 < a) := i32_lt (by decide) h
theorem nle_21 {a : Nat} (h : a < 2147483648) : (i32 a ≤ 21) = (a ≤ 21) := i32_le h (by decide)
theorem l21_le {a : Nat} (h : a < 2147483648) : (21 ≤ i32 a) = (21 ≤ a) := i32_le (by decide) h
theorem neq_21 {a : Nat} (h : a < 2147483648) : (i32 a = 21) = (a = 21) := i32_eq h (by decide)
theorem nadd_21 (a : Nat) : i32 a + 21 = i32 (a + 21) := i32_add a 21
theorem nmul_21 (a : Nat) : i32 a * 21 = i32 (a * 21) := i32_mul a 21
theorem nmul'_21 (a : Nat) : 21 * i32 a = i32 (21 * a) := i32_mul 21 a
theorem nadd'_21 (a : Nat) : 21 + i32 a = i32 (21 + a) := i32_add 21 a
theorem nsub_21 {a : Nat} (h : 21 ≤ a) : i32 a - 21 = i32 (a - 21) := i32_sub h
theorem nlt_23 {a : Nat} (h : a < 2147483648) : (i32 a < 23) = (a < 23) := i32_lt h (by decide)
theorem l23_lt {a : Nat} (h : a < 2147483648) : (23 < i32 a) = (23 < a) := i32_lt (by decide) h
theorem nle_23 {a : Nat} (h : a < 2147483648) : (i32 a ≤ 23) = (a ≤ 23) := i32_le h (by decide)
theorem l23_le {a : Nat} (h : a < 2147483648) : (23 ≤ i32 a) = (23 ≤ a) := i32_le (by decide) h
theorem neq_23 {a : Nat} (h : a < 2147483648) : (i32 a = 23) = (a = 23) := i32_eq h (by decide)
theorem nadd_23 (a : Nat) : i32 a + 23 = i32 (a + 23) := i32_add a 23
theorem nmul_23 (a : Nat) : i32 a * 23 = i32 (a * 23) := i32_mul a 23
theorem nmul'_23 (a : Nat) : 23 * i32 a = i32 (23 * a) := i32_mul 23 a
theorem nadd'_23 (a : Nat) : 23 + i32 a = i32 (23 + a) := i32_add 23 a
theorem nsub_23 {a : Nat} (h : 23 ≤ a) : i32 a - 23 = i32 (a - 23) := i32_sub h
theorem nlt_32 {a : Nat} (h : a < 2147483648) : (i32 a < 32) = (a < 32) := i32_lt h (by decide)
theorem l32_lt {a : Nat} (h : a < 2147483648) : (32 < i32 a) = (32 < a) := i32_lt (by decide) h
theorem nle_32 {a : Nat} (h : a < 2147483648) : (i32 a ≤ 32) = (a ≤ 32) := i32_le h (by decide)
theorem l32_le {a : Nat} (h : a < 2147483648) : (32 ≤ i32 a) = (32 ≤ a) := i32_le (by decide) h
theorem neq_32 {a : Nat} (h : a < 2147483648) : (i32 a = 32) = (a = 32) := i32_eq h (by decide)
theorem nadd_32 (a : Nat) : i32 a + 32 = i32 (a + 32) := i32_add a 32
theorem nmul_32 (a : Nat) : i32 a * 32 = i32 (a * 32) := i32_mul a 32
theorem nmul'_32 (a : Nat) : 32 * i32 a = i32 (32 * a) := i32_mul 32 a
theorem nadd'_32 (a : Nat) : 32 + i32 a = i32 (32 + a) := i32_add 32 a
theorem nsub_32 {a : Nat} (h : 32 ≤ a) : i32 a - 32 = i32 (a - 32) := i32_sub h
theorem nlt_40 {a : Nat} (h : a < 2147483648) : (i32 a < 40) = (a < 40) := i32_lt h (by decide)
theorem l40_lt {a : Nat} (h : a < 2147483648) : (40 < i32 a) = (40 < a) := i32_lt (by decide) h
theorem nle_40 {a : Nat} (h : a < 2147483648) : (i32 a ≤ 40) = (a ≤ 40) := i32_le h (by decide)
theorem l40_le {a : Nat} (h : a < 2147483648) : (40 ≤ i32 a) = (40 ≤ a) := i32_le (by decide) h
theorem neq_40 {a : Nat} (h : a < 2147483648) : (i32 a = 40) = (a = 40) := i32_eq h (by decide)
theorem nadd_40 (a : Nat) : i32 a + 40 = i32 (a + 40) := i32_add a 40
theorem nmul_40 (a : Nat) : i32 a * 40 = i32 (a * 40) := i32_mul a 40
theorem nmul'_40 (a : Nat) : 40 * i32 a = i32 (40 * a) := i32_mul 40 a
theorem nadd'_40 (a : Nat) : 40 + i32 a = i32 (40 + a) := i32_add 40 a
theorem nsub_40 {a : Nat} (h : 40 ≤ a) : i32 a - 40 = i32 (a - 40) := i32_sub h
theorem nlt_48 {a : Nat} (h : a < 2147483648) : (i32 a < 48) = (a < 48) := i32_lt h (by decide)
theorem l48_lt {a : Nat} (h : a < 2147483648) : (48 < i32 a) = (48 < a) := i32_lt (by decide) h
theorem nle_48 {a : Nat} (h : a < 2147483648) : (i32 a ≤ 48) = (a ≤ 48) := i32_le h (by decide)
theorem l48_le {a : Nat} (h : a < 2147483648) : (48 ≤ i32 a) = (48 ≤ a) := i32_le (by decide) h
theorem neq_48 {a : Nat} (h : a < 2147483648) : (i32 a = 48) = (a = 48) := i32_eq h (by decide)
theorem nadd_48 (a : Nat) : i32 a + 48 = i32 (a + 48) := i32_add a 48
theorem nmul_48 (a : Nat) : i32 a * 48 = i32 (a * 48) := i32_mul a 48
theorem nmul'_48 (a : Nat) : 48 * i32 a = i32 (48 * a) := i32_mul 48 a
theorem nadd'_48 (a : Nat) : 48 + i32 a = i32 (48 + a) := i32_add 48 a
theorem nsub_48 {a : Nat} (h : 48 ≤ a) : i32 a - 48 = i32 (a - 48) := i32_sub h
theorem nlt_50 {a : Nat} (h : a < 2147483648) : (i32 a < 50) = (a < 50) := i32_lt h (by decide)
theorem l50_lt {a : Nat} (h : a < 2147483648) : (50 < i32 a) = (50 < a) := i32_lt (by decide) h
theorem nle_50 {a : Nat} (h : a < 2147483648) : (i32 a ≤ 50) = (a ≤ 50) := i32_le h (by decide)
theorem l50_le {a : Nat} (h : a < 2147483648) : (50 ≤ i32 a) = (50 ≤ a) := i32_le (by decide) h
theorem neq_50 {a : Nat} (h : a < 2147483648) : (i32 a = 50) = (a = 50) := i32_eq h (by decide)
theorem nadd_50 (a : Nat) : i32 a + 50 = i32 (a + 50) := i32_add a 50
theorem nmul_50 (a : Nat) : i32 a * 50 = i32 (a * 50) := i32_mul a 50
theorem nmul'_50 (a : Nat) : 50 * i32 a = i32 (50 * a) := i32_mul 50 a
theorem nadd'_50 (a : Nat) : 50 + i32 a = i32 (50 + a) := i32_add 50 a
theorem nsub_50 {a : Nat} (h : 50 ≤ a) : i32 a - 50 = i32 (a - 50) := i32_sub h
theorem nlt_57 {a : Nat} (h : a < 2147483648) : (i32 a < 57) = (a < 57) := i32_lt h (by decide)
theorem l57_lt {a : Nat} (h : a < 2147483648) : (57 < i32 a) = (57 < a) := i32_lt (by decide) h
theorem nle_57 {a : Nat} (h : a < 2147483648) : (i32 a ≤ 57) = (a ≤ 57) := i32_le h (by decide)
theorem l57_le {a : Nat} (h : a < 2147483648) : (57 ≤ i32 a) = (57 ≤ a) := i32_le (by decide) h
theorem neq_57 {a : Nat} (h : a < 2147483648) : (i32 a = 57) = (a = 57) := i32_eq h (by decide)
theorem nadd_57 (a : Nat) : i32 a + 57 = i32 (a + 57) := i32_add a 57
theorem nmul_57 (a : Nat) : i32 a * 57 = i32 (a * 57) := i32_mul a 57
theorem nmul'_57 (a : Nat) : 57 * i32 a = i32 (57 * a) := i32_mul 57 a
theorem nadd'_57 (a : Nat) : 57 + i32 a = i32 (57 + a) := i32_add 57 a
theorem nsub_57 {a : Nat} (h : 57 ≤ a) : i32 a - 57 = i32 (a - 57) := i32_sub h
theorem nlt_60 {a : Nat} (h : a < 2147483648) : (i32 a < 60) = (a < 60) := i32_lt h (by decide)
theorem l60_lt {a : Nat} (h : a < 2147483648) : (60 < i32 a) = (60 < a) := i32_lt (by decide) h
theorem nle_60 {a : Nat} (h : a < 2147483648) : (i32 a ≤ 60) = (a ≤ 60) := i32_le h (by decide)
theorem l60_le {a : Nat} (h : a < 2147483648) : (60 ≤ i32 a) = (60 ≤ a) := i32_le (by decide) h
theorem neq_60 {a : Nat} (h : a < 2147483648) : (i32 a = 60) = (a = 60) := i32_eq h (by decide)
theorem nadd_60 (a : Nat) : i32 a + 60 = i32 (a + 60) := i32_add a 60
theorem nmul_60 (a : Nat) : i32 a * 60 = i32 (a * 60) := i32_mul a 60
theorem nmul'_60 (a : Nat) : 60 * i32 a = i32 (60 * a) := i32_mul 60 a
theorem nadd'_60 (a : Nat) : 60 + i32 a = i32 (60 + a) := i32_add 60 a
theorem nsub_60 {a : Nat} (h : 60 ≤ a) : i32 a - 60 = i32 (a - 60) := i32_sub h
theorem nlt_64 {a : Nat} (h : a < 2147483648) : (i32 a < 64) = (a < 64) := i32_lt h (by decide)
theorem l64_lt {a : Nat} (h : a < 2147483648) : (64 < i32 a) = (64 < a) := i32_lt (by decide) h
theorem nle_64 {a : Nat} (h : a < 2147483648) : (i32 a ≤ 64) = (a ≤ 64) := i32_le h (by decide)
theorem l64_le {a : Nat} (h : a < 2147483648) : (64 ≤ i32 a) = (64 ≤ a) := i32_le (by decide) h
theorem neq_64 {a : Nat} (h : a < 2147483648) : (i32 a = 64) = (a = 64) := i32_eq h (by decide)
theorem nadd_64 (a : Nat) : i32 a + 64 = i32 (a + 64) := i32_add a 64
theorem nmul_64 (a : Nat) : i32 a * 64 = i32 (a * 64) := i32_mul a 64
theorem nmul'_64 (a : Nat) : 64 * i32 a = i32 (64 * a) := i32_mul 64 a
theorem nadd'_64 (a : Nat) : 64 + i32 a = i32 (64 + a) := i32_add 64 a
theorem nsub_64 {a : Nat} (h : 64 ≤ a) : i32 a - 64 = i32 (a - 64) := i32_sub h
theorem nlt_97 {a : Nat} (h : a < 2147483648) : (i32 a < 97) = (a < 97) := i32_lt h (by decide)
theorem l97_lt {a : Nat} (h : a < 2147483648) : (97 < i32 a) = (97 < a) := i32_lt (by decide) h
theorem nle_97 {a : Nat} (h : a < 2147483648) : (i32 a ≤ 97) = (a ≤ 97) := i32_le h (by decide)
theorem l97_le {a : Nat} (h : a < 2147483648) : (97 ≤ i32 a) = (97 ≤ a) := i32_le (by decide) h
theorem neq_97 {a : Nat} (h : a < 2147483648) : (i32 a = 97) = (a = 97) := i32_eq h (by decide)
theorem nadd_97 (a : Nat) : i32 a + 97 = i32 (a + 97) := i32_add a 97
theorem nmul_97 (a : Nat) : i32 a * 97 = i32 (a * 97) := i32_mul a 97
theorem nmul'_97 (a : Nat) : 97 * i32 a = i32 (97 * a) := i32_mul 97 a
theorem nadd'_97 (a : Nat) : 97 + i32 a = i32 (97 + a) := i32_add 97 a
theorem nsub_97 {a : Nat} (h : 97 ≤ a) : i32 a - 97 = i32 (a - 97) := i32_sub h
theorem nlt_99 {a : Nat} (h : a < 2147483648) : (i32 a < 99) = (a < 99) := i32_lt h (by decide)
theorem l99_lt {a : Nat} (h : a < 2147483648) : (99 < i32 a) = (99 < a) := i32_lt (by decide) h
theorem nle_99 {a : Nat} (h : a < 2147483648) : (i32 a ≤ 99) = (a ≤ 99) := i32_le h (by decide)
theorem l99_le {a : Nat} (h : a < 2147483648) : (99 ≤ i32 a) = (99 ≤ a) := i32_le (by decide) h
theorem neq_99 {a : Nat} (h : a < 2147483648) : (i32 a = 99) = (a = 99) := i32_eq h (by decide)
theorem nadd_99 (a : Nat) : i32 a + 99 = i32 (a + 99) := i32_add a 99
theorem nmul_99 (a : Nat) : i32 a * 99 = i32 (a * 99) := i32_mul a 99
theorem nmul'_99 (a : Nat) : 99 * i32 a = i32 (99 * a) := i32_mul 99 a
theorem nadd'_99 (a : Nat) : 99 + i32 a = i32 (99 + a) := i32_add 99 a
theorem nsub_99 {a : Nat} (h : 99 ≤ a) : i32 a - 99 = i32 (a - 99) := i32_sub h
theorem nlt_100 {a : Nat} (h : a < 2147483648) : (i32 a < 100) = (a < 100) := i32_lt h (by decide)
theorem l100_lt {a : Nat} (h : a < 2147483648) : (100 < i32 a) = (100 < a) := i32_lt (by decide) h
theorem nle_100 {a : Nat} (h : a < 2147483648) : (i32 a ≤ 100) = (a ≤ 100) := i32_le h (by decide)
theorem l100_le {a : Nat} (h : a < 2147483648) : (100 ≤ i32 a) = (100 ≤ a) := i32_le (by decide) h
theorem neq_100 {a : Nat} (h : a < 2147483648) : (i32 a = 100) = (a = 100) := i32_eq h (by decide)
theorem nadd_100 (a : Nat) : i32 a + 100 = i32 (a + 100) := i32_add a 100
theorem nmul_100 (a : Nat) : i32 a * 100 = i32 (a * 100) := i32_mul a 100
theorem nmul'_100 (a : Nat) : 100 * i32 a = i32 (100 * a) := i32_mul 100 a
theorem nadd'_100 (a : Nat) : 100 + i32 a = i32 (100 + a) := i32_add 100 a
theorem nsub_100 {a : Nat} (h : 100 ≤ a) : i32 a - 100 = i32 (a - 100) := i32_sub h
theorem nlt_109 {a : Nat} (h : a < 2147483648) : (i32 a < 109) = (a < 109) := i32_lt h (by decide)
theorem l109_lt {a : Nat} (h : a < 2147483648) : (109 < i32 a) = (109 < a) := i32_lt (by decide) h
theorem nle_109 {a : Nat} (h : a < 2147483648) : (i32 a ≤ 109) = (a ≤ 109) := i32_le h (by decide)
theorem l109_le {a : Nat} (h : a < 2147483648) : (109 ≤ i32 a) = (109 ≤ a) := i32_le (by decide) h
theorem neq_109 {a : Nat} (h : a < 2147483648) : (i32 a = 109) = (a = 109) := i32_eq h (by decide)
theorem nadd_109 (a : Nat) : i32 a + 109 = i32 (a + 109) := i32_add a 109
theorem nmul_109 (a : Nat) : i32 a * 109 = i32 (a * 109) := i32_mul a 109
theorem nmul'_109 (a : Nat) : 109 * i32 a = i32 (109 * a) := i32_mul 109 a
theorem nadd'_109 (a : Nat) : 109 + i32 a = i32 (109 + a) := i32_add 109 a
theorem nsub_109 {a : Nat} (h : 109 ≤ a) : i32 a - 109 = i32 (a - 109) := i32_sub h
theorem nlt_122 {a : Nat} (h : a < 2147483648) : (i32 a < 122) = (a < 122) := i32_lt h (by decide)
theorem l122_lt {a : Nat} (h : a < 2147483648) : (122 < i32 a) = (122 < a) := i32_lt (by decide) h
theorem nle_122 {a : Nat} (h : a < 2147483648) : (i32 a ≤ 122) = (a ≤ 122) := i32_le h (by decide)
theorem l122_le {a : Nat} (h : a < 2147483648) : (122 ≤ i32 a) = (122 ≤ a) := i32_le (by decide) h
theorem neq_122 {a : Nat} (h : a < 2147483648) : (i32 a = 122) = (a = 122) := i32_eq h (by decide)
theorem nadd_122 (a : Nat) : i32 a + 122 = i32 (a + 122) := i32_add a 122
theorem nmul_122 (a : Nat) : i32 a * 122 = i32 (a * 122) := i32_mul a 122
theorem nmul'_122 (a : Nat) : 122 * i32 a = i32 (122 * a) := i32_mul 122 a
theorem nadd'_122 (a : Nat) : 122 + i32 a = i32 (122 + a) := i32_add 122 a
theorem nsub_122 {a : Nat} (h : 122 ≤ a) : i32 a - 122 = i32 (a - 122) := i32_sub h
theorem nlt_131 {a : Nat} (h : a < 2147483648) : (i32 a < 131) = (a < 131) := i32_lt h (by decide)
theorem l131_lt {a : Nat} (h : a < 2147483648) : (131 < i32 a) = (131 < a) := i32_lt (by decide) h
theorem nle_131 {a : Nat} (h : a < 2147483648) : (i32 a ≤ 131) = (a ≤ 131) := i32_le h (by decide)
theorem l131_le {a : Nat} (h : a < 2147483648) : (131 ≤ i32 a) = (131 ≤ a) := i32_le (by decide) h
theorem neq_131 {a : Nat} (h : a < 2147483648) : (i32 a = 131) = (a = 131) := i32_eq h (by decide)
theorem nadd_131 (a : Nat) : i32 a + 131 = i32 (a + 131) := i32_add a 131
theorem nmul_131 (a : Nat) : i32 a * 131 = i32 (a * 131) := i32_mul a 131
theorem nmul'_131 (a : Nat) : 131 * i32 a = i32 (131 * a) := i32_mul 131 a
theorem nadd'_131 (a : Nat) : 131 + i32 a = i32 (131 + a) := i32_add 131 a
theorem nsub_131 {a : Nat} (h : 131 ≤ a) : i32 a - 131 = i32 (a - 131) := i32_sub h
theorem nlt_149 {a : Nat} (h : a < 2147483648) : (i32 a < 149) = (a < 149) := i32_lt h (by decide)
theorem l149_lt {a : Nat} (h : a < 2147483648) : (149 < i32 a) = (149 < a) := i32_lt (by decide) h
theorem nle_149 {a : Nat} (h : a < 2147483648) : (i32 a ≤ 149) = (a ≤ 149) := i32_le h (by decide)
theorem l149_le {a : Nat} (h : a < 2147483648) : (149 ≤ i32 a) = (149 ≤ a) := i32_le (by decide) h
theorem neq_149 {a : Nat} (h : a < 2147483648) : (i32 a = 149) = (a = 149) := i32_eq h (by decide)
theorem nadd_149 (a : Nat) : i32 a + 149 = i32 (a + 149) := i32_add a 149
theorem nmul_149 (a : Nat) : i32 a * 149 = i32 (a * 149) := i32_mul a 149
theorem nmul'_149 (a : Nat) : 149 * i32 a = i32 (149 * a) := i32_mul 149 a
theorem nadd'_149 (a : Nat) : 149 + i32 a = i32 (149 + a) := i32_add 149 a
theorem nsub_149 {a : Nat} (h : 149 ≤ a) : i32 a - 149 = i32 (a - 149) := i32_sub h
theorem nlt_155 {a : Nat} (h : a < 2147483648) : (i32 a < 155) = (a < 155) := i32_lt h (by decide)
theorem l155_lt {a : Nat} (h : a < 2147483648) : (155 < i32 a) = (155 < a) := i32_lt (by decide) h
theorem nle_155 {a : Nat} (h : a < 2147483648) : (i32 a ≤ 155) = (a ≤ 155) := i32_le h (by decide)
theorem l155_le {a : Nat} (h : a < 2147483648) : (155 ≤ i32 a) = (155 ≤ a) := i32_le (by decide) h
theorem neq_155 {a : Nat} (h : a < 2147483648) : (i32 a = 155) = (a = 155) := i32_eq h (by decide)
theorem nadd_155 (a : Nat) : i32 a + 155 = i32 (a + 155) := i32_add a 155
theorem nmul_155 (a : Nat) : i32 a * 155 = i32 (a * 155) := i32_mul a 155
theorem nmul'_155 (a : Nat) : 155 * i32 a = i32 (155 * a) := i32_mul 155 a
theorem nadd'_155 (a : Nat) : 155 + i32 a = i32 (155 + a) := i32_add 155 a
theorem nsub_155 {a : Nat} (h : 155 ≤ a) : i32 a - 155 = i32 (a - 155) := i32_sub h
theorem nlt_186 {a : Nat} (h : a < 2147483648) : (i32 a < 186) = (a < 186) := i32_lt h (by decide)
theorem l186_lt {a : Nat} (h : a < 2147483648) : (186 < i32 a) = (186 < a) := i32_lt (by decide) h
theorem nle_186 {a : Nat} (h : a < 2147483648) : (i32 a ≤ 186) = (a ≤ 186) := i32_le h (by decide)
theorem l186_le {a : Nat} (h : a < 2147483648) : (186 ≤ i32 a) = (186 ≤ a) := i32_le (by decide) h
theorem neq_186 {a : Nat} (h : a < 2147483648) : (i32 a = 186) = (a = 186) := i32_eq h (by decide)
theorem nadd_186 (a : Nat) : i32 a + 186 = i32 (a + 186) := i32_add a 186
theorem nmul_186 (a : Nat) : i32 a * 186 = i32 (a * 186) := i32_mul a 186
theorem nmul'_186 (a : Nat) : 186 * i32 a = i32 (186 * a) := i32_mul 186 a
theorem nadd'_186 (a : Nat) : 186 + i32 a = i32 (186 + a) := i32_add 186 a
theorem nsub_186 {a : Nat} (h : 186 ≤ a) : i32 a - 186 = i32 (a - 186) := i32_sub h
theorem nlt_200 {a : Nat} (h : a < 2147483648) : (i32 a < 200) = (a < 200) := i32_lt h (by decide)
theorem l200_lt {a : Nat} (h : a < 2147483648) : (200 < i32 a) = (200 < a) := i32_lt (by decide) h
theorem nle_200 {a : Nat} (h : a < 2147483648) : (i32 a ≤ 200) = (a ≤ 200) := i32_le h (by decide)
theorem l200_le {a : Nat} (h : a < 2147483648) : (200 ≤ i32 a) = (200 ≤ a) := i32_le (by decide) h
theorem neq_200 {a : Nat} (h : a < 2147483648) : (i32 a = 200) = (a = 200) := i32_eq h (by decide)
theorem nadd_200 (a : Nat) : i32 a + 200 = i32 (a + 200) := i32_add a 200
theorem nmul_200 (a : Nat) : i32 a * 200 = i32 (a * 200) := i32_mul a 200
theorem nmul'_200 (a : Nat) : 200 * i32 a = i32 (200 * a) := i32_mul 200 a
theorem nadd'_200 (a : Nat) : 200 + i32 a = i32 (200 + a) := i32_add 200 a
theorem nsub_200 {a : Nat} (h : 200 ≤ a) : i32 a - 200 = i32 (a - 200) := i32_sub h
theorem nlt_210 {a : Nat} (h : a < 2147483648) : (i32 a < 210) = (a < 210) := i32_lt h (by decide)
theorem l210_lt {a : Nat} (h : a < 2147483648) : (210 < i32 a) = (210 < a) := i32_lt (by decide) h
theorem nle_210 {a : Nat} (h : a < 2147483648) : (i32 a ≤ 210) = (a ≤ 210) := i32_le h (by decide)
theorem l210_le {a : Nat} (h : a < 2147483648) : (210 ≤ i32 a) = (210 ≤ a) := i32_le (by decide) h
theorem neq_210 {a : Nat} (h : a < 2147483648) : (i32 a = 210) = (a = 210) := i32_eq h (by decide)
theorem nadd_210 (a : Nat) : i32 a + 210 = i32 (a + 210) := i32_add a 210
theorem nmul_210 (a : Nat) : i32 a * 210 = i32 (a * 210) := i32_mul a 210
theorem nmul'_210 (a : Nat) : 210 * i32 a = i32 (210 * a) := i32_mul 210 a
theorem nadd'_210 (a : Nat) : 210 + i32 a = i32 (210 + a) := i32_add 210 a
theorem nsub_210 {a : Nat} (h : 210 ≤ a) : i32 a - 210 = i32 (a - 210) := i32_sub h
theorem nlt_226 {a : Nat} (h : a < 2147483648) : (i32 a < 226) = (a < 226) := i32_lt h (by decide)
theorem l226_lt {a : Nat} (h : a < 2147483648) : (226 < i32 a) = (226 < a) := i32_lt (by decide) h
theorem nle_226 {a : Nat} (h : a < 2147483648) : (i32 a ≤ 226) = (a ≤ 226) := i32_le h (by decide)
theorem l226_le {a : Nat} (h : a < 2147483648) : (226 ≤ i32 a) = (226 ≤ a) := i32_le (by decide) h
theorem neq_226 {a : Nat} (h : a < 2147483648) : (i32 a = 226) = (a = 226) := i32_eq h (by decide)
theorem nadd_226 (a : Nat) : i32 a + 226 = i32 (a + 226) := i32_add a 226
theorem nmul_226 (a : Nat) : i32 a * 226 = i32 (a * 226) := i32_mul a 226
theorem nmul'_226 (a : Nat) : 226 * i32 a = i32 (226 * a) := i32_mul 226 a
theorem nadd'_226 (a : Nat) : 226 + i32 a = i32 (226 + a) := i32_add 226 a
theorem nsub_226 {a : Nat} (h : 226 ≤ a) : i32 a - 226 = i32 (a - 226) := i32_sub h
theorem nlt_231 {a : Nat} (h : a < 2147483648) : (i32 a < 231) = (a < 231) := i32_lt h (by decide)
theorem l231_lt {a : Nat} (h : a < 2147483648) : (231 < i32 a) = (231 < a) := i32_lt (by decide) h
theorem nle_231 {a : Nat} (h : a < 2147483648) : (i32 a ≤ 231) = (a ≤ 231) := i32_le h (by decide)
theorem l231_le {a : Nat} (h : a < 2147483648) : (231 ≤ i32 a) = (231 ≤ a) := i32_le (by decide) h
theorem neq_231 {a : Nat} (h : a < 2147483648) : (i32 a = 231) = (a = 231) := i32_eq h (by decide)
theorem nadd_231 (a : Nat) : i32 a + 231 = i32 (a + 231) := i32_add a 231
theorem nmul_231 (a : Nat) : i32 a * 231 = i32 (a * 231) := i32_mul a 231
theorem nmul'_231 (a : Nat) : 231 * i32 a = i32 (231 * a) := i32_mul 231 a
theorem nadd'_231 (a : Nat) : 231 + i32 a = i32 (231 + a) := i32_add 231 a
theorem nsub_231 {a : Nat} (h : 231 ≤ a) : i32 a - 231 = i32 (a - 231) := i32_sub h
theorem nlt_256 {a : Nat} (h : a < 2147483648) : (i32 a < 256) = (a < 256) := i32_lt h (by decide)
theorem l256_lt {a : Nat} (h : a < 2147483648) : (256 < i32 a) = (256 < a) := i32_lt (by decide) h
theorem nle_256 {a : Nat} (h : a < 2147483648) : (i32 a ≤ 256) = (a ≤ 256) := i32_le h (by decide)
theorem l256_le {a : Nat} (h : a < 2147483648) : (256 ≤ i32 a) = (256 ≤ a) := i32_le (by decide) h
theorem neq_256 {a : Nat} (h : a < 2147483648) : (i32 a = 256) = (a = 256) := i32_eq h (by decide)
theorem nadd_256 (a : Nat) : i32 a + 256 = i32 (a + 256) := i32_add a 256
theorem nmul_256 (a : Nat) : i32 a * 256 = i32 (a * 256) := i32_mul a 256
theorem nmul'_256 (a : Nat) : 256 * i32 a = i32 (256 * a) := i32_mul 256 a
theorem nadd'_256 (a : Nat) : 256 + i32 a = i32 (256 + a) := i32_add 256 a
theorem nsub_256 {a : Nat} (h : 256 ≤ a) : i32 a - 256 = i32 (a - 256) := i32_sub h
theorem nlt_380 {a : Nat} (h : a < 2147483648) : (i32 a < 380) = (a < 380) := i32_lt h (by decide)
theorem l380_lt {a : Nat} (h : a < 2147483648) : (380 < i32 a) = (380 < a) := i32_lt (by decide) h
theorem nle_380 {a : Nat} (h : a < 2147483648) : (i32 a ≤ 380) = (a ≤ 380) := i32_le h (by decide)
theorem l380_le {a : Nat} (h : a < 2147483648) : (380 ≤ i32 a) = (380 ≤ a) := i32_le (by decide) h
theorem neq_380 {a : Nat} (h : a < 2147483648) : (i32 a = 380) = (a = 380) := i32_eq h (by decide)
theorem nadd_380 (a : Nat) : i32 a + 380 = i32 (a + 380) := i32_add a 380
theorem nmul_380 (a : Nat) : i32 a * 380 = i32 (a * 380) := i32_mul a 380
theorem nmul'_380 (a : Nat) : 380 * i32 a = i32 (380 * a) := i32_mul 380 a
theorem nadd'_380 (a : Nat) : 380 + i32 a = i32 (380 + a) := i32_add 380 a
theorem nsub_380 {a : Nat} (h : 380 ≤ a) : i32 a - 380 = i32 (a - 380) := i32_sub h
theorem nlt_999 {a : Nat} (h : a < 2147483648) : (i32 a < 999) = (a < 999) := i32_lt h (by decide)
theorem l999_lt {a : Nat} (h : a < 2147483648) : (999 < i32 a) = (999 < a) := i32_lt (by decide) h
theorem nle_999 {a : Nat} (h : a < 2147483648) : (i32 a ≤ 999) = (a ≤ 999) := i32_le h (by decide)
theorem l999_le {a : Nat} (h : a < 2147483648) : (999 ≤ i32 a) = (999 ≤ a) := i32_le (by decide) h
theorem neq_999 {a : Nat} (h : a < 2147483648) : (i32 a = 999) = (a = 999) := i32_eq h (by decide)
theorem nadd_999 (a : Nat) : i32 a + 999 = i32 (a + 999) := i32_add a 999
theorem nmul_999 (a : Nat) : i32 a * 999 = i32 (a * 999) := i32_mul a 999
theorem nmul'_999 (a : Nat) : 999 * i32 a = i32 (999 * a) := i32_mul 999 a
theorem nadd'_999 (a : Nat) : 999 + i32 a = i32 (999 + a) := i32_add 999 a
theorem nsub_999 {a : Nat} (h : 999 ≤ a) : i32 a - 999 = i32 (a - 999) := i32_sub h
theorem nlt_1000 {a : Nat} (h : a < 2147483648) : (i32 a < 1000) = (a < 1000) := i32_lt h (by decide)
theorem l1000_lt {a : Nat} (h : a < 2147483648) : (1000 < i32 a) = (1000 < a) := i32_lt (by decide) h
theorem nle_1000 {a : Nat} (h : a < 2147483648) : (i32 a ≤ 1000) = (a ≤ 1000) := i32_le h (by decide)
theorem l1000_le {a : Nat} (h : a < 2147483648) : (1000 ≤ i32 a) = (1000 ≤ a) := i32_le (by decide) h
theorem neq_1000 {a : Nat} (h : a < 2147483648) : (i32 a = 1000) = (a = 1000) := i32_eq h (by decide)
theorem nadd_1000 (a : Nat) : i32 a + 1000 = i32 (a + 1000) := i32_add a 1000
theorem nmul_1000 (a : Nat) : i32 a * 1000 = i32 (a * 1000) := i32_mul a 1000
theorem nmul'_1000 (a : Nat) : 1000 * i32 a = i32 (1000 * a) := i32_mul 1000 a
theorem nadd'_1000 (a : Nat) : 1000 + i32 a = i32 (1000 + a) := i32_add 1000 a
theorem nsub_1000 {a : Nat} (h : 1000 ≤ a) : i32 a - 1000 = i32 (a - 1000) := i32_sub h
theorem nlt_1024 {a : Nat} (h : a < 2147483648) : (i32 a < 1024) = (a < 1024) := i32_lt h (by decide)
theorem l1024_lt {a : Nat} (h : a < 2147483648) : (1024 < i32 a) = (1024 < a) := i32_lt (by decide) h
theorem nle_1024 {a : Nat} (h : a < 2147483648) : (i32 a ≤ 1024) = (a ≤ 1024) := i32_le h (by decide)
theorem l1024_le {a : Nat} (h : a < 2147483648) : (1024 ≤ i32 a) = (1024 ≤ a) := i32_le (by decide) h
theorem neq_1024 {a : Nat} (h : a < 2147483648) : (i32 a = 1024) = (a = 1024) := i32_eq h (by decide)
theorem nadd_1024 (a : Nat) : i32 a + 1024 = i32 (a + 1024) := i32_add a 1024
theorem nmul_1024 (a : Nat) : i32 a * 1024 = i32 (a * 1024) := i32_mul a 1024
theorem nmul'_1024 (a : Nat) : 1024 * i32 a = i32 (1024 * a) := i32_mul 1024 a
theorem nadd'_1024 (a : Nat) : 1024 + i32 a = i32 (1024 + a) := i32_add 1024 a
theorem nsub_1024 {a : Nat} (h : 1024 ≤ a) : i32 a - 1024 = i32 (a - 1024) := i32_sub h
theorem nlt_2620 {a : Nat} (h : a < 2147483648) : (i32 a < 2620) = (a < 2620) := i32_lt h (by decide)
theorem l2620_lt {a : Nat} (h : a < 2147483648) : (2620 < i32 a) = (2620 < a) := i32_lt (by decide) h
theorem nle_2620 {a : Nat} (h : a < 2147483648) : (i32 a ≤ 2620) = (a ≤ 2620) := i32_le h (by decide)
theorem l2620_le {a : Nat} (h : a < 2147483648) : (2620 ≤ i32 a) = (2620 ≤ a) := i32_le (by decide) h
theorem neq_2620 {a : Nat} (h : a < 2147483648) : (i32 a = 2620) = (a = 2620) := i32_eq h (by decide)
theorem nadd_2620 (a : Nat) : i32 a + 2620 = i32 (a + 2620) := i32_add a 2620
theorem nmul_2620 (a : Nat) : i32 a * 2620 = i32 (a * 2620) := i32_mul a 2620
theorem nmul'_2620 (a : Nat) : 2620 * i32 a = i32 (2620 * a) := i32_mul 2620 a
theorem nadd'_2620 (a : Nat) : 2620 + i32 a = i32 (2620 + a) := i32_add 2620 a
theorem nsub_2620 {a : Nat} (h : 2620 ≤ a) : i32 a - 2620 = i32 (a - 2620) := i32_sub h
theorem rd_0 {M : mM} {p n : Nat} (h : 0 < n) (hn : n < 2147483648) : rd M p n 0 = some (M.2.1 p 0) := rd_i32 h hn
theorem wr_0 {M : mM} {p n : Nat} {v : Int32} (h : 0 < n) (hn : n < 2147483648) : wr M p n 0 v = some (msI M p 0 v) := wr_i32 h hn
theorem rdL_0 {M : mM} {p n : Nat} (h : 0 < n) (hn : n < 2147483648) : rdL M p n 0 = some (M.2.2.1 p 0) := rdL_i32 h hn
theorem wrL_0 {M : mM} {p n : Nat} {v : Int64} (h : 0 < n) (hn : n < 2147483648) : wrL M p n 0 v = some (msL M p 0 v) := wrL_i32 h hn
theorem rd_1 {M : mM} {p n : Nat} (h : 1 < n) (hn : n < 2147483648) : rd M p n 1 = some (M.2.1 p 1) := rd_i32 h hn
theorem wr_1 {M : mM} {p n : Nat} {v : Int32} (h : 1 < n) (hn : n < 2147483648) : wr M p n 1 v = some (msI M p 1 v) := wr_i32 h hn
theorem rdL_1 {M : mM} {p n : Nat} (h : 1 < n) (hn : n < 2147483648) : rdL M p n 1 = some (M.2.2.1 p 1) := rdL_i32 h hn
theorem wrL_1 {M : mM} {p n : Nat} {v : Int64} (h : 1 < n) (hn : n < 2147483648) : wrL M p n 1 v = some (msL M p 1 v) := wrL_i32 h hn
theorem rd_2 {M : mM} {p n : Nat} (h : 2 < n) (hn : n < 2147483648) : rd M p n 2 = some (M.2.1 p 2) := rd_i32 h hn
theorem wr_2 {M : mM} {p n : Nat} {v : Int32} (h : 2 < n) (hn : n < 2147483648) : wr M p n 2 v = some (msI M p 2 v) := wr_i32 h hn
theorem rdL_2 {M : mM} {p n : Nat} (h : 2 < n) (hn : n < 2147483648) : rdL M p n 2 = some (M.2.2.1 p 2) := rdL_i32 h hn
theorem wrL_2 {M : mM} {p n : Nat} {v : Int64} (h : 2 < n) (hn : n < 2147483648) : wrL M p n 2 v = some (msL M p 2 v) := wrL_i32 h hn
theorem rd_3 {M : mM} {p n : Nat} (h : 3 < n) (hn : n < 2147483648) : rd M p n 3 = some (M.2.1 p 3) := rd_i32 h hn
theorem wr_3 {M : mM} {p n : Nat} {v : Int32} (h : 3 < n) (hn : n < 2147483648) : wr M p n 3 v = some (msI M p 3 v) := wr_i32 h hn
theorem rdL_3 {M : mM} {p n : Nat} (h : 3 < n) (hn : n < 2147483648) : rdL M p n 3 = some (M.2.2.1 p 3) := rdL_i32 h hn
theorem wrL_3 {M : mM} {p n : Nat} {v : Int64} (h : 3 < n) (hn : n < 2147483648) : wrL M p n 3 v = some (msL M p 3 v) := wrL_i32 h hn
theorem rd_4 {M : mM} {p n : Nat} (h : 4 < n) (hn : n < 2147483648) : rd M p n 4 = some (M.2.1 p 4) := rd_i32 h hn
theorem wr_4 {M : mM} {p n : Nat} {v : Int32} (h : 4 < n) (hn : n < 2147483648) : wr M p n 4 v = some (msI M p 4 v) := wr_i32 h hn
theorem rdL_4 {M : mM} {p n : Nat} (h : 4 < n) (hn : n < 2147483648) : rdL M p n 4 = some (M.2.2.1 p 4) := rdL_i32 h hn
theorem wrL_4 {M : mM} {p n : Nat} {v : Int64} (h : 4 < n) (hn : n < 2147483648) : wrL M p n 4 v = some (msL M p 4 v) := wrL_i32 h hn
theorem rd_5 {M : mM} {p n : Nat} (h : 5 < n) (hn : n < 2147483648) : rd M p n 5 = some (M.2.1 p 5) := rd_i32 h hn
theorem wr_5 {M : mM} {p n : Nat} {v : Int32} (h : 5 < n) (hn : n < 2147483648) : wr M p n 5 v = some (msI M p 5 v) := wr_i32 h hn
theorem rdL_5 {M : mM} {p n : Nat} (h : 5 < n) (hn : n < 2147483648) : rdL M p n 5 = some (M.2.2.1 p 5) := rdL_i32 h hn
theorem wrL_5 {M : mM} {p n : Nat} {v : Int64} (h : 5 < n) (hn : n < 2147483648) : wrL M p n 5 v = some (msL M p 5 v) := wrL_i32 h hn
theorem rd_6 {M : mM} {p n : Nat} (h : 6 < n) (hn : n < 2147483648) : rd M p n 6 = some (M.2.1 p 6) := rd_i32 h hn
theorem wr_6 {M : mM} {p n : Nat} {v : Int32} (h : 6 < n) (hn : n < 2147483648) : wr M p n 6 v = some (msI M p 6 v) := wr_i32 h hn
theorem rdL_6 {M : mM} {p n : Nat} (h : 6 < n) (hn : n < 2147483648) : rdL M p n 6 = some (M.2.2.1 p 6) := rdL_i32 h hn
theorem wrL_6 {M : mM} {p n : Nat} {v : Int64} (h : 6 < n) (hn : n < 2147483648) : wrL M p n 6 v = some (msL M p 6 v) := wrL_i32 h hn
theorem rd_7 {M : mM} {p n : Nat} (h : 7 < n) (hn : n < 2147483648) : rd M p n 7 = some (M.2.1 p 7) := rd_i32 h hn
theorem wr_7 {M : mM} {p n : Nat} {v : Int32} (h : 7 < n) (hn : n < 2147483648) : wr M p n 7 v = some (msI M p 7 v) := wr_i32 h hn
theorem rdL_7 {M : mM} {p n : Nat} (h : 7 < n) (hn : n < 2147483648) : rdL M p n 7 = some (M.2.2.1 p 7) := rdL_i32 h hn
theorem wrL_7 {M : mM} {p n : Nat} {v : Int64} (h : 7 < n) (hn : n < 2147483648) : wrL M p n 7 v = some (msL M p 7 v) := wrL_i32 h hn
theorem rd_8 {M : mM} {p n : Nat} (h : 8 < n) (hn : n < 2147483648) : rd M p n 8 = some (M.2.1 p 8) := rd_i32 h hn
theorem wr_8 {M : mM} {p n : Nat} {v : Int32} (h : 8 < n) (hn : n < 2147483648) : wr M p n 8 v = some (msI M p 8 v) := wr_i32 h hn
theorem rdL_8 {M : mM} {p n : Nat} (h : 8 < n) (hn : n < 2147483648) : rdL M p n 8 = some (M.2.2.1 p 8) := rdL_i32 h hn
theorem wrL_8 {M : mM} {p n : Nat} {v : Int64} (h : 8 < n) (hn : n < 2147483648) : wrL M p n 8 v = some (msL M p 8 v) := wrL_i32 h hn
theorem rd_9 {M : mM} {p n : Nat} (h : 9 < n) (hn : n < 2147483648) : rd M p n 9 = some (M.2.1 p 9) := rd_i32 h hn
theorem wr_9 {M : mM} {p n : Nat} {v : Int32} (h : 9 < n) (hn : n < 2147483648) : wr M p n 9 v = some (msI M p 9 v) := wr_i32 h hn
theorem rdL_9 {M : mM} {p n : Nat} (h : 9 < n) (hn : n < 2147483648) : rdL M p n 9 = some (M.2.2.1 p 9) := rdL_i32 h hn
theorem wrL_9 {M : mM} {p n : Nat} {v : Int64} (h : 9 < n) (hn : n < 2147483648) : wrL M p n 9 v = some (msL M p 9 v) := wrL_i32 h hn
theorem rd_10 {M : mM} {p n : Nat} (h : 10 < n) (hn : n < 2147483648) : rd M p n 10 = some (M.2.1 p 10) := rd_i32 h hn
theorem wr_10 {M : mM} {p n : Nat} {v : Int32} (h : 10 < n) (hn : n < 2147483648) : wr M p n 10 v = some (msI M p 10 v) := wr_i32 h hn
theorem rdL_10 {M : mM} {p n : Nat} (h : 10 < n) (hn : n < 2147483648) : rdL M p n 10 = some (M.2.2.1 p 10) := rdL_i32 h hn
theorem wrL_10 {M : mM} {p n : Nat} {v : Int64} (h : 10 < n) (hn : n < 2147483648) : wrL M p n 10 v = some (msL M p 10 v) := wrL_i32 h hn
theorem rd_11 {M : mM} {p n : Nat} (h : 11 < n) (hn : n < 2147483648) : rd M p n 11 = some (M.2.1 p 11) := rd_i32 h hn
theorem wr_11 {M : mM} {p n : Nat} {v : Int32} (h : 11 < n) (hn : n < 2147483648) : wr M p n 11 v = some (msI M p 11 v) := wr_i32 h hn
theorem rdL_11 {M : mM} {p n : Nat} (h : 11 < n) (hn : n < 2147483648) : rdL M p n 11 = some (M.2.2.1 p 11) := rdL_i32 h hn
theorem wrL_11 {M : mM} {p n : Nat} {v : Int64} (h : 11 < n) (hn : n < 2147483648) : wrL M p n 11 v = some (msL M p 11 v) := wrL_i32 h hn
theorem rd_12 {M : mM} {p n : Nat} (h : 12 < n) (hn : n < 2147483648) : rd M p n 12 = some (M.2.1 p 12) := rd_i32 h hn
theorem wr_12 {M : mM} {p n : Nat} {v : Int32} (h : 12 < n) (hn : n < 2147483648) : wr M p n 12 v = some (msI M p 12 v) := wr_i32 h hn
theorem rdL_12 {M : mM} {p n : Nat} (h : 12 < n) (hn : n < 2147483648) : rdL M p n 12 = some (M.2.2.1 p 12) := rdL_i32 h hn
theorem wrL_12 {M : mM} {p n : Nat} {v : Int64} (h : 12 < n) (hn : n < 2147483648) : wrL M p n 12 v = some (msL M p 12 v) := wrL_i32 h hn
theorem FUEL_eq : FUEL = 100000 := rfl
theorem nnl_s {L : List Nat} {y : Nat} (h : y ∈ L) : nnl L (some y) = some y := by
  show (if y ∈ L then some y else none) = some y
  rw [if_pos h]
