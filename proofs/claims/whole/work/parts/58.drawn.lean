/-! ===== floods drawn ===== -/
def l64 (n : Nat) : Int64 := Int64.ofNat n
theorem l64_toInt {a : Nat} (h : a < 9223372036854775808) : (l64 a).toInt = (a : Int) := Int64.toInt_ofNat_of_lt (by omega)
theorem l64_add (a k : Nat) : l64 a + (OfNat.ofNat k : Int64) = l64 (a + k) := (Int64.ofNat_add a k).symm
theorem l64_mul (a k : Nat) : l64 a * (OfNat.ofNat k : Int64) = l64 (a * k) := (Int64.ofNat_mul a k).symm
theorem l64_sub {a b : Nat} (h : b ≤ a) : l64 a - l64 b = l64 (a - b) := by
  conv => lhs; rw [show a = (a - b) + b by omega, show l64 (a - b + b) = l64 (a - b) + l64 b from Int64.ofNat_add _ _]
  rw [Int64.add_sub_cancel]
theorem l64_div {a k : Nat} (ha : a < 9223372036854775808) (hk : k < 9223372036854775808) : l64 a / (OfNat.ofNat k : Int64) = l64 (a / k) := by
  have hd : a / k < 9223372036854775808 := Nat.lt_of_le_of_lt (Nat.div_le_self a k) ha
  rw [show (OfNat.ofNat k : Int64) = l64 k from rfl, ← Int64.toInt_inj, Int64.toInt_div, l64_toInt ha, l64_toInt hk, l64_toInt hd]
  rw [show (a : Int).tdiv (k : Int) = ((a / k : Nat) : Int) from rfl]
  have h3 : (0 : Int) ≤ ((a / k : Nat) : Int) := Int.natCast_nonneg _
  rw [Int.bmod_eq_of_le (by omega) (by omega)]
theorem l64_mod {a k : Nat} (ha : a < 9223372036854775808) (hk : k < 9223372036854775808) : l64 a - l64 a / (OfNat.ofNat k : Int64) * (OfNat.ofNat k : Int64) = l64 (a % k) := by
  have h1 := Nat.div_mul_le_self a k
  rw [l64_div ha hk, l64_mul, l64_sub h1]
  congr 1
  have := Nat.div_add_mod a k
  rw [Nat.mul_comm] at this
  omega
theorem i32_64 {a : Nat} (h : a < 2147483648) : (i32 a).toInt64 = l64 a := by
  rw [← Int64.toInt_inj, Int32.toInt_toInt64, i32_toInt h, l64_toInt (by omega)]
theorem l64_32 {a : Nat} (h : a < 2147483648) : (l64 a).toInt32 = i32 a := by
  rw [← i32_64 h]
  exact Int32.toInt32_toInt64 _
theorem lq_lt {a b : Nat} (ha : a < 9223372036854775808) (hb : b < 9223372036854775808) : (l64 a < l64 b) = (a < b) := by
  rw [Int64.lt_iff_toInt_lt, l64_toInt ha, l64_toInt hb]
  exact propext Int.ofNat_lt
theorem lg_ge {x y : Int64} : (0 ≤ lg_cmp x y) = ¬ (x < y) := by
  rw [← lg_neg]
  exact propext Int32.not_lt.symm
def nxt (X : Nat) : Nat := (X * 1103515245 + 12345) % 2147483648
theorem nxt_lt (X : Nat) : nxt X < 2147483648 := Nat.mod_lt _ (by omega)
theorem nxt_64 {X : Nat} (h : X < 2147483648) : (l64 X * 1103515245 + 12345) - (l64 X * 1103515245 + 12345) / 2147483648 * 2147483648 = l64 (nxt X) := by
  rw [show l64 X * 1103515245 = l64 (X * 1103515245) from l64_mul X 1103515245, show l64 (X * 1103515245) + 12345 = l64 (X * 1103515245 + 12345) from l64_add _ 12345]
  exact l64_mod (k := 2147483648) (by omega) (by decide)
theorem drw_64 {Y : Nat} (h : Y < 2147483648) : l64 Y / 65536 - l64 Y / 65536 / 100 * 100 = l64 (Y / 65536 % 100) := by
  rw [show l64 Y / 65536 = l64 (Y / 65536) from l64_div (k := 65536) (by omega) (by decide)]
  exact l64_mod (k := 100) (by have := Nat.div_le_self Y 65536; omega) (by decide)
def dr (X p : Nat) : Bool := decide (nxt X / 65536 % 100 < p)
def drI (y : Yd) (φ : Option (List Int64 → Nat)) (n p : Nat) : Nat → Nat → Nat → (Nat → B) → Nat × Nat → Nat × Nat × Nat
  | 0, X, _, _, q => (X, q)
  | k + 1, X, yr, b, q => drI y φ n p k (nxt X) (yr + 1) (yB y φ n yr (dr X p || flo y yr) b) (q.1 + (yF y φ n yr (dr X p || flo y yr) b).length, q.2 + yK y φ n yr (dr X p || flo y yr) b)
def drO (y : Yd) (φ : Option (List Int64 → Nat)) (n p N yr : Nat) (b : Nat → B) : Nat → Nat → Nat × Nat → Nat × Nat
  | 0, _, q => q
  | k + 1, X, q => drO y φ n p N yr b k (drI y φ n p N X yr b q).1 (drI y φ n p N X yr b q).2
theorem drI_lt {y : Yd} {φ : Option (List Int64 → Nat)} {n p : Nat} : ∀ (k X yr : Nat) (b : Nat → B) (q : Nat × Nat), X < 2147483648 → (drI y φ n p k X yr b q).1 < 2147483648
  | 0, X, yr, b, q, h => h
  | k + 1, X, yr, b, q, h => by
    rw [drI]
    exact drI_lt k _ _ _ _ (nxt_lt X)
theorem CQ_fl {y : Yd} {Yp : Nat} {ru : Option Nat} {φ : Option (List Int64 → Nat)} {n yr : Nat} {b : Nat → B} {P : List Nat} {k : Nat} {M : mM} (h : CQ y Yp ru φ n yr b P k M) (v : Int32) : CQ y Yp ru φ n yr b P k (msI M 246 4 v) := by
  obtain ⟨q1, q2, q3, q4, t, q5, q6⟩ := h
  obtain ⟨r1, r2, r3, r4, r5⟩ := q2
  obtain ⟨s1, s2, s3, s4, s5, s6⟩ := q3
  refine ⟨q1, ⟨(CSX_of (s := (yr, n, b, t)) ⟨r1, q6⟩ fun j hj => gIp (by omega)).1, r2, ?_, r4, ?_⟩, ⟨s1, s2, s3, CY_of s4 fun j hj => gIp (by omega), s5, RL_of s6 fun p a b => gIp (by omega)⟩, ?_, t, q5, (CSX_of (s := (yr, n, b, t)) ⟨r1, q6⟩ fun j hj => gIp (by omega)).2⟩
  · rw [gIo (by omega)]; exact r3
  · rw [gIp (by omega)]; exact r5
  · rw [gIo (by omega)]; exact q4
theorem c_drawn93 {y : Yd} {ru : Option Nat} {φ : Option (List Int64 → Nat)} {n p N b1 b2 i : Nat} {x1 x4 : Int32} {K : Int64 → Int32 → Int32 → Int32 → mM → Option (Int32 × mM)} {Q : Int32 × mM → Prop} {M0 : mM} (hp : p ≤ 100) (hN : N ≤ 60) : ∀ (k j f X yr : Nat) (b : Nat → B) (P : List Nat) (kk : Nat) (M : mM), j + k = N → k < f → X < 2147483648 → yr + k < 2147483647 → CQ y 21 ru φ n yr b P kk M → Sm 246 269 M0 M → (∀ M', Sm 246 269 M0 M' → OK (K (l64 (drI y φ n p k X yr b (b1 + P.length, b2 + kk)).1) (i32 (drI y φ n p k X yr b (b1 + P.length, b2 + kk)).2.1) (i32 (drI y φ n p k X yr b (b1 + P.length, b2 + kk)).2.2) (i32 (i + 1)) M') Q) → OK (f_GraveRails_drawn_93 x1 (i32 N) (i32 p) x4 K f (l64 X) (i32 b1) (i32 b2) (i32 i) (i32 j) M) Q
  | _, _, 0, _, _, _, _, _, _, _, hf, _, _, _, _, _ => absurd hf (Nat.not_lt_zero _)
  | 0, j, f + 1, X, yr, b, P, kk, M, hj, hf, hX, hy, h, hS, hk => by
    unfold f_GraveRails_drawn_93
    rw [if_pos (by rw [i32_le (by omega) (by omega)]; omega)]
    have e2 : M.2.1 246 2 = i32 P.length := h.2.1.2.2.1
    have e3 : M.2.1 246 3 = i32 kk := h.2.2.2.1
    rw [e2, e3, i32_add, i32_add, nadd_1]
    exact hk M hS
  | k + 1, j, f + 1, X, yr, b, P, kk, M, hj, hf, hX, hy, h, hS, hk => by
    have hnx := nxt_lt X
    have step : ∀ (M1 : mM), CQ y 21 ru φ n yr b P kk M1 → M1.2.1 246 4 = e01 (dr X p) → Sm 246 269 M0 M1 → OK ((f_Course_goYear M1).bind fun M17 => f_GraveRails_drawn_93 x1 (i32 N) (i32 p) x4 K f (l64 (nxt X)) (i32 b1) (i32 b2) (i32 i) (i32 (j + 1)) M17) Q := by
      intro M1 h1 h4 hS1
      refine OK_bind (CQ_year h1 h4 (by omega)) fun M2 h2 => ?_
      refine c_drawn93 hp hN k (j + 1) f (nxt X) (yr + 1) _ _ _ M2 (by omega) (by omega) hnx (by omega) h2.1 (Sm_trans hS1 (Sm_Y h2.2)) fun M' hM' => ?_
      have := hk M' hM'
      rw [drI] at this
      rw [List.length_append, ← Nat.add_assoc, ← Nat.add_assoc]
      exact this
    unfold f_GraveRails_drawn_93 f_GraveRails_drawn_140
    rw [if_neg (by rw [i32_le (by omega) (by omega)]; omega), nxt_64 hX, drw_64 hnx, i32_64 (show p < 2147483648 by omega), nadd_1]
    have hm := Nat.mod_lt (nxt X / 65536) (show 0 < 100 by omega)
    simp only [lg_ge, lq_lt (show nxt X / 65536 % 100 < 9223372036854775808 by omega) (show p < 9223372036854775808 by omega), pZ_0, pZ_1, Option.bind_some]
    by_cases c : nxt X / 65536 % 100 < p
    · rw [if_neg (fun z => z c)]
      refine step _ (CQ_fl h 1) ?_ (Sm_trans hS (Sm_I (by omega)))
      rw [gIe]
      unfold dr
      rw [decide_eq_true c]
      rfl
    · rw [if_pos c]
      refine step _ (CQ_fl h 0) ?_ (Sm_trans hS (Sm_I (by omega)))
      rw [gIe]
      unfold dr
      rw [decide_eq_false c]
      rfl
theorem c_drawn80 {g : Gx} {m p N w : Nat} (hg : VG g) (hmm : m ≤ 10) (hp : p ≤ 100) (hN : N ≤ 60) (hw : w ≤ 1) {M0 : mM} (hR0 : RC g M0) : ∀ (k i f X : Nat) (q : Nat × Nat) (M : mM), i + k = m → k < f → X < 2147483648 → Sm 246 269 M0 M → OK (f_GraveRails_drawn_80 (i32 m) (i32 N) (i32 p) (i32 w) f (l64 X) (i32 q.1) (i32 q.2) (i32 i) M) fun z => z.1 = (if w = 0 then i32 (drO g.1.1 (phi g.1.2.2.2.1 g.2.2.1.2) g.1.2.1.2.1 p N g.1.2.1.1 g.1.2.1.2.2.1 k X q).1 else i32 (drO g.1.1 (phi g.1.2.2.2.1 g.2.2.1.2) g.1.2.1.2.1 p N g.1.2.1.1 g.1.2.1.2.2.1 k X q).2) ∧ Sm 246 269 M0 z.2
  | _, _, 0, _, _, _, _, hf, _, _ => absurd hf (Nat.not_lt_zero _)
  | 0, i, f + 1, X, q, M, hi, hf, hX, hS => by
    unfold f_GraveRails_drawn_80
    simp (disch := omega) only [i32_le, neq_0]
    rw [if_pos (by omega)]
    by_cases w0 : w = 0
    · rw [if_pos w0, if_pos w0]
      exact OK_some ⟨rfl, hS⟩
    · rw [if_neg w0, if_neg w0]
      exact OK_some ⟨rfl, hS⟩
  | k + 1, i, f + 1, X, q, M, hi, hf, hX, hS => by
    have hR := RC_Sm hg hR0 hS
    have hy := hg.1.2.1.2.2.2.2.1
    unfold f_GraveRails_drawn_80
    rw [if_neg (by rw [i32_le (by omega) (by omega)]; omega)]
    refine OK_bind (c_sfn hg hR) fun M1 h1 => ?_
    refine c_drawn93 (M0 := M0) hp hN N 0 FUEL X _ _ _ _ M1 (Nat.zero_add _) (by rw [FUEL_eq]; omega) hX (by omega) h1.1 (Sm_trans hS h1.2.2.2) fun M' hM' => ?_
    have key := c_drawn80 (M0 := M0) hg hmm hp hN hw hR0 k (i + 1) f (drI g.1.1 (phi g.1.2.2.2.1 g.2.2.1.2) g.1.2.1.2.1 p N X g.1.2.1.1 g.1.2.1.2.2.1 q).1 (drI g.1.1 (phi g.1.2.2.2.1 g.2.2.1.2) g.1.2.1.2.1 p N X g.1.2.1.1 g.1.2.1.2.2.1 q).2 M' (by omega) (by omega) (drI_lt _ _ _ _ _ hX) hM'
    rw [drO]
    exact key
/-! the model -/
theorem MYr_dr {y : Yd} {φ : Option (List Int64 → Nat)} {n yr : Nat} {b : Nat → B} {d : Bool} {M : mM} (h : MYr y φ n yr b d M) (d' : Bool) {M' : mM} (e : ∀ p, p ≠ 436 → M'.2.1 p = M.2.1 p) (e21 : M'.2.1 436 21 = M.2.1 436 21) (e26 : M'.2.1 436 26 = e01 d') : MYr y φ n yr b d' M' := by
  obtain ⟨hv, hC, hpn, hS, hV, hx, hr, t, hT, hc, hh⟩ := h
  refine ⟨hv, hC, hpn, by rw [e 446 (by omega)]; exact hS, hV, ⟨by rw [e 446 (by omega)]; exact hx.1, e26⟩, RM_of hr (e 438 (by omega)) (e 440 (by omega)) (e 441 (by omega)) e21, t, hT, by rw [e 446 (by omega)]; exact hc, by rw [e 446 (by omega)]; exact hh⟩
theorem m_drawn87 {g : Gx} {p N i : Nat} {x1 x4 : Int32} {K : Int32 → Int32 → Int32 → mM → Option (Int32 × mM)} {Q : Int32 × mM → Prop} {M0 M1 : mM} (hK : Kp M0 M1) (hp : p ≤ 100) (hN : N ≤ 60) {y : Yd} {φ : Option (List Int64 → Nat)} {n : Nat} : ∀ (k j f X yr : Nat) (b : Nat → B) (q : Nat × Nat) (d : Bool) (M : mM), j + k = N → k < f → X < 2147483648 → M.2.2.1 436 35 = l64 X → yr + k < 2147483647 → MYr y φ n yr b d M → FrL M1 M → (∀ M', M'.2.2.1 436 35 = l64 (drI y φ n p k X yr b q).1 → FrB M0 M' → (∀ j, j < 131 → M'.2.1 450 j = M0.2.1 446 j) → FrL M1 M' → OK (K (i32 (drI y φ n p k X yr b q).2.1) (i32 (drI y φ n p k X yr b q).2.2) (i32 (i + 1)) M') Q) → OK (f_Model_drawn_87 x1 (i32 N) (i32 p) x4 K f (i32 q.1) (i32 q.2) (i32 i) (i32 j) M) Q
  | _, _, 0, _, _, _, _, _, _, _, hf, _, _, _, _, _, _ => absurd hf (Nat.not_lt_zero _)
  | 0, j, f + 1, X, yr, b, q, d, M, hj, hf, hX, hL, hy, h, hF, hk => by
    unfold f_Model_drawn_87
    rw [if_pos (by rw [i32_le (by omega) (by omega)]; omega), nadd_1]
    refine OK_bind (m_lay hK hF) fun M3 h3 => hk M3 ?_ h3.1 h3.2.2.1 h3.2.2.2
    sorry
  | k + 1, j, f + 1, X, yr, b, q, d, M, hj, hf, hX, hL, hy, h, hF, hk => by
    sorry
