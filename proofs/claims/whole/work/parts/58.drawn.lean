/-! ===== floods drawn ===== -/
def l64 (n : Nat) : Int64 := Int64.ofNat n
theorem l64_toInt {a : Nat} (h : a < 9223372036854775808) : (l64 a).toInt = (a : Int) := Int64.toInt_ofNat_of_lt (by omega)
theorem l64_add (a k : Nat) : l64 a + (OfNat.ofNat k : Int64) = l64 (a + k) := (Int64.ofNat_add a k).symm
theorem l64_mul (a k : Nat) : l64 a * (OfNat.ofNat k : Int64) = l64 (a * k) := (Int64.ofNat_mul a k).symm
theorem l64_sub {a b : Nat} (h : b ≤ a) : l64 a - l64 b = l64 (a - b) := by
  conv => lhs; rw [show a = (a - b) + b by omega, show l64 (a - b + b) = l64 (a - b) + l64 b from Int64.ofNat_add _ _]
  rw [Int64.add_sub_cancel]
theorem l64_div {a k : Nat} (ha : a < 9223372036854775808) (hk : k < 9223372036854775808) : l64 a / (OfNat.ofNat k : Int64) = l64 (a / k) := by
  have hd : a / k < 9223372036854775808 := Nat.lt_of_le_of_lt (Nat.div_le_self a k) ha
  rw [show (OfNat.ofNat k : Int64) = l64 k from rfl, ← Int64.toInt_inj, Int64.toInt_div, l64_toInt ha, l64_toInt hk, l64_toInt hd]
  rw [show (a : Int).tdiv (k : Int) = ((a / k : Nat) : Int) from rfl]
  have h3 : (0 : Int) ≤ ((a / k : Nat) : Int) := Int.natCast_nonneg _
  rw [Int.bmod_eq_of_le (by omega) (by omega)]
theorem l64_mod {a k : Nat} (ha : a < 9223372036854775808) (hk : k < 9223372036854775808) : l64 a - l64 a / (OfNat.ofNat k : Int64) * (OfNat.ofNat k : Int64) = l64 (a % k) := by
  have h1 := Nat.div_mul_le_self a k
  rw [l64_div ha hk, l64_mul, l64_sub h1]
  congr 1
  have := Nat.div_add_mod a k
  rw [Nat.mul_comm] at this
  omega
theorem i32_64 {a : Nat} (h : a < 2147483648) : (i32 a).toInt64 = l64 a := by
  rw [← Int64.toInt_inj, Int32.toInt_toInt64, i32_toInt h, l64_toInt (by omega)]
theorem l64_32 {a : Nat} (h : a < 2147483648) : (l64 a).toInt32 = i32 a := by
  rw [← i32_64 h]
  exact Int32.toInt32_toInt64 _
theorem lq_lt {a b : Nat} (ha : a < 9223372036854775808) (hb : b < 9223372036854775808) : (l64 a < l64 b) = (a < b) := by
  rw [Int64.lt_iff_toInt_lt, l64_toInt ha, l64_toInt hb]
  exact propext Int.ofNat_lt
theorem lg_ge {x y : Int64} : (0 ≤ lg_cmp x y) = ¬ (x < y) := by
  rw [← lg_neg]
  exact propext Int32.not_lt.symm
def nxt (X : Nat) : Nat := (X * 1103515245 + 12345) % 2147483648
theorem nxt_lt (X : Nat) : nxt X < 2147483648 := Nat.mod_lt _ (by omega)
theorem nxt_64 {X : Nat} (h : X < 2147483648) : (l64 X * 1103515245 + 12345) - (l64 X * 1103515245 + 12345) / 2147483648 * 2147483648 = l64 (nxt X) := by
  rw [show l64 X * 1103515245 = l64 (X * 1103515245) from l64_mul X 1103515245, show l64 (X * 1103515245) + 12345 = l64 (X * 1103515245 + 12345) from l64_add _ 12345]
  exact l64_mod (k := 2147483648) (by omega) (by decide)
theorem drw_64 {Y : Nat} (h : Y < 2147483648) : l64 Y / 65536 - l64 Y / 65536 / 100 * 100 = l64 (Y / 65536 % 100) := by
  rw [show l64 Y / 65536 = l64 (Y / 65536) from l64_div (k := 65536) (by omega) (by decide)]
  exact l64_mod (k := 100) (by have := Nat.div_le_self Y 65536; omega) (by decide)
def dr (X p : Nat) : Bool := decide (nxt X / 65536 % 100 < p)
def drI (y : Yd) (φ : Option (List Int64 → Nat)) (n p : Nat) : Nat → Nat → Nat → (Nat → B) → Nat × Nat → Nat × Nat × Nat
  | 0, X, _, _, q => (X, q)
  | k + 1, X, yr, b, q => drI y φ n p k (nxt X) (yr + 1) (yB y φ n yr (dr X p || flo y yr) b) (q.1 + (yF y φ n yr (dr X p || flo y yr) b).length, q.2 + yK y φ n yr (dr X p || flo y yr) b)
def drO (y : Yd) (φ : Option (List Int64 → Nat)) (n p N yr : Nat) (b : Nat → B) : Nat → Nat → Nat × Nat → Nat × Nat
  | 0, _, q => q
  | k + 1, X, q => drO y φ n p N yr b k (drI y φ n p N X yr b q).1 (drI y φ n p N X yr b q).2
theorem drI_lt {y : Yd} {φ : Option (List Int64 → Nat)} {n p : Nat} : ∀ (k X yr : Nat) (b : Nat → B) (q : Nat × Nat), X < 2147483648 → (drI y φ n p k X yr b q).1 < 2147483648
  | 0, X, yr, b, q, h => h
  | k + 1, X, yr, b, q, h => by
    rw [drI]
    exact drI_lt k _ _ _ _ (nxt_lt X)
theorem CQ_fl {y : Yd} {Yp : Nat} {ru : Option Nat} {φ : Option (List Int64 → Nat)} {n yr : Nat} {b : Nat → B} {P : List Nat} {k : Nat} {M : mM} (h : CQ y Yp ru φ n yr b P k M) (v : Int32) : CQ y Yp ru φ n yr b P k (msI M 246 4 v) := by
  obtain ⟨q1, q2, q3, q4, t, q5, q6⟩ := h
  obtain ⟨r1, r2, r3, r4, r5⟩ := q2
  obtain ⟨s1, s2, s3, s4, s5, s6⟩ := q3
  refine ⟨q1, ⟨(CSX_of (s := (yr, n, b, t)) ⟨r1, q6⟩ fun j hj => gIp (by omega)).1, r2, ?_, r4, ?_⟩, ⟨s1, s2, s3, CY_of s4 fun j hj => gIp (by omega), s5, RL_of s6 fun p a b => gIp (by omega)⟩, ?_, t, q5, (CSX_of (s := (yr, n, b, t)) ⟨r1, q6⟩ fun j hj => gIp (by omega)).2⟩
  · rw [gIo (by omega)]; exact r3
  · rw [gIp (by omega)]; exact r5
  · rw [gIo (by omega)]; exact q4
theorem c_drawn93 {y : Yd} {ru : Option Nat} {φ : Option (List Int64 → Nat)} {n p N b1 b2 i : Nat} {x1 x4 : Int32} {K : Int64 → Int32 → Int32 → Int32 → mM → Option (Int32 × mM)} {Q : Int32 × mM → Prop} {M0 : mM} (hp : p ≤ 100) (hN : N ≤ 60) : ∀ (k j f X yr : Nat) (b : Nat → B) (P : List Nat) (kk : Nat) (M : mM), j + k = N → k < f → X < 2147483648 → yr + k < 2147483647 → CQ y 21 ru φ n yr b P kk M → Sm 246 269 M0 M → (∀ M', Sm 246 269 M0 M' → OK (K (l64 (drI y φ n p k X yr b (b1 + P.length, b2 + kk)).1) (i32 (drI y φ n p k X yr b (b1 + P.length, b2 + kk)).2.1) (i32 (drI y φ n p k X yr b (b1 + P.length, b2 + kk)).2.2) (i32 (i + 1)) M') Q) → OK (f_GraveRails_drawn_93 x1 (i32 N) (i32 p) x4 K f (l64 X) (i32 b1) (i32 b2) (i32 i) (i32 j) M) Q
  | _, _, 0, _, _, _, _, _, _, _, hf, _, _, _, _, _ => absurd hf (Nat.not_lt_zero _)
  | 0, j, f + 1, X, yr, b, P, kk, M, hj, hf, hX, hy, h, hS, hk => by
    unfold f_GraveRails_drawn_93
    rw [if_pos (by rw [i32_le (by omega) (by omega)]; omega)]
    have e2 : M.2.1 246 2 = i32 P.length := h.2.1.2.2.1
    have e3 : M.2.1 246 3 = i32 kk := h.2.2.2.1
    rw [e2, e3, i32_add, i32_add, nadd_1]
    exact hk M hS
  | k + 1, j, f + 1, X, yr, b, P, kk, M, hj, hf, hX, hy, h, hS, hk => by
    have hnx := nxt_lt X
    have step : ∀ (M1 : mM), CQ y 21 ru φ n yr b P kk M1 → M1.2.1 246 4 = e01 (dr X p) → Sm 246 269 M0 M1 → OK ((f_Course_goYear M1).bind fun M17 => f_GraveRails_drawn_93 x1 (i32 N) (i32 p) x4 K f (l64 (nxt X)) (i32 b1) (i32 b2) (i32 i) (i32 (j + 1)) M17) Q := by
      intro M1 h1 h4 hS1
      refine OK_bind (CQ_year h1 h4 (by omega)) fun M2 h2 => ?_
      refine c_drawn93 hp hN k (j + 1) f (nxt X) (yr + 1) _ _ _ M2 (by omega) (by omega) hnx (by omega) h2.1 (Sm_trans hS1 (Sm_Y h2.2)) fun M' hM' => ?_
      have := hk M' hM'
      rw [drI] at this
      rw [List.length_append, ← Nat.add_assoc, ← Nat.add_assoc]
      exact this
    unfold f_GraveRails_drawn_93 f_GraveRails_drawn_140
    rw [if_neg (by rw [i32_le (by omega) (by omega)]; omega), nxt_64 hX, drw_64 hnx, i32_64 (show p < 2147483648 by omega), nadd_1]
    have hm := Nat.mod_lt (nxt X / 65536) (show 0 < 100 by omega)
    simp only [lg_ge, lq_lt (show nxt X / 65536 % 100 < 9223372036854775808 by omega) (show p < 9223372036854775808 by omega), pZ_0, pZ_1, Option.bind_some]
    by_cases c : nxt X / 65536 % 100 < p
    · rw [if_neg (fun z => z c)]
      refine step _ (CQ_fl h 1) ?_ (Sm_trans hS (Sm_I (by omega)))
      rw [gIe]
      unfold dr
      rw [decide_eq_true c]
      rfl
    · rw [if_pos c]
      refine step _ (CQ_fl h 0) ?_ (Sm_trans hS (Sm_I (by omega)))
      rw [gIe]
      unfold dr
      rw [decide_eq_false c]
      rfl
theorem c_drawn80 {g : Gx} {m p N w : Nat} (hg : VG g) (hmm : m ≤ 10) (hp : p ≤ 100) (hN : N ≤ 60) (hw : w ≤ 1) {M0 : mM} (hR0 : RC g M0) : ∀ (k i f X : Nat) (q : Nat × Nat) (M : mM), i + k = m → k < f → X < 2147483648 → Sm 246 269 M0 M → OK (f_GraveRails_drawn_80 (i32 m) (i32 N) (i32 p) (i32 w) f (l64 X) (i32 q.1) (i32 q.2) (i32 i) M) fun z => z.1 = (if w = 0 then i32 (drO g.1.1 (phi g.1.2.2.2.1 g.2.2.1.2) g.1.2.1.2.1 p N g.1.2.1.1 g.1.2.1.2.2.1 k X q).1 else i32 (drO g.1.1 (phi g.1.2.2.2.1 g.2.2.1.2) g.1.2.1.2.1 p N g.1.2.1.1 g.1.2.1.2.2.1 k X q).2) ∧ Sm 246 269 M0 z.2
  | _, _, 0, _, _, _, _, hf, _, _ => absurd hf (Nat.not_lt_zero _)
  | 0, i, f + 1, X, q, M, hi, hf, hX, hS => by
    unfold f_GraveRails_drawn_80
    simp (disch := omega) only [i32_le, neq_0]
    rw [if_pos (by omega)]
    by_cases w0 : w = 0
    · rw [if_pos w0, if_pos w0]
      exact OK_some ⟨rfl, hS⟩
    · rw [if_neg w0, if_neg w0]
      exact OK_some ⟨rfl, hS⟩
  | k + 1, i, f + 1, X, q, M, hi, hf, hX, hS => by
    have hR := RC_Sm hg hR0 hS
    have hy := hg.1.2.1.2.2.2.2.1
    unfold f_GraveRails_drawn_80
    rw [if_neg (by rw [i32_le (by omega) (by omega)]; omega)]
    refine OK_bind (c_sfn hg hR) fun M1 h1 => ?_
    refine c_drawn93 (M0 := M0) hp hN N 0 FUEL X _ _ _ _ M1 (Nat.zero_add _) (by rw [FUEL_eq]; omega) hX (by omega) h1.1 (Sm_trans hS h1.2.2.2) fun M' hM' => ?_
    have key := c_drawn80 (M0 := M0) hg hmm hp hN hw hR0 k (i + 1) f (drI g.1.1 (phi g.1.2.2.2.1 g.2.2.1.2) g.1.2.1.2.1 p N X g.1.2.1.1 g.1.2.1.2.2.1 q).1 (drI g.1.1 (phi g.1.2.2.2.1 g.2.2.1.2) g.1.2.1.2.1 p N X g.1.2.1.1 g.1.2.1.2.2.1 q).2 M' (by omega) (by omega) (drI_lt _ _ _ _ _ hX) hM'
    rw [drO]
    exact key
/-! the model -/
theorem MYr_dr {y : Yd} {φ : Option (List Int64 → Nat)} {n yr : Nat} {b : Nat → B} {d : Bool} {M : mM} (h : MYr y φ n yr b d M) (d' : Bool) {M' : mM} (e : ∀ p, p = 438 ∨ p = 440 ∨ p = 441 ∨ p = 446 → M'.2.1 p = M.2.1 p) (e21 : M'.2.1 436 21 = M.2.1 436 21) (e26 : M'.2.1 436 26 = e01 d') : MYr y φ n yr b d' M' := by
  obtain ⟨hv, hC, hpn, hS, hV, hx, hr, t, hT, hc, hh⟩ := h
  refine ⟨hv, hC, hpn, by rw [e 446 (by omega)]; exact hS, hV, ⟨by rw [e 446 (by omega)]; exact hx.1, e26⟩, RM_of hr (e 438 (by omega)) (e 440 (by omega)) (e 441 (by omega)) e21, t, hT, by rw [e 446 (by omega)]; exact hc, by rw [e 446 (by omega)]; exact hh⟩
theorem m_draw {X : Nat} {M : mM} (hX : X < 2147483648) (h : M.2.2.1 436 35 = l64 X) : f_Model_draw 100 M = some (i32 (nxt X / 65536 % 100), msL M 436 35 (l64 (nxt X))) := by
  have hm := Nat.mod_lt (nxt X / 65536) (show 0 < 100 by omega)
  unfold f_Model_draw
  rw [h, nxt_64 hX, pL_s, Option.bind_some, gLe, show Int32.toInt64 100 = (100 : Int64) from by decide, if_neg (by decide), drw_64 (nxt_lt X), l64_32 (by omega)]
theorem m_drawn87 {p N i : Nat} {x1 x4 : Int32} {K : Int32 → Int32 → Int32 → mM → Option (Int32 × mM)} {Q : Int32 × mM → Prop} {M0 M1 : mM} (hK : Kp M0 M1) (hp : p ≤ 100) (hN : N ≤ 60) {y : Yd} {φ : Option (List Int64 → Nat)} {n : Nat} : ∀ (k j f X yr : Nat) (b : Nat → B) (q : Nat × Nat) (d : Bool) (M : mM), j + k = N → k < f → X < 2147483648 → M.2.2.1 436 35 = l64 X → yr + k < 2147483647 → MYr y φ n yr b d M → FrL M1 M → (∀ M', M'.2.2.1 436 35 = l64 (drI y φ n p k X yr b q).1 → FrB M0 M' → (∀ j, j < 131 → M'.2.1 450 j = M0.2.1 446 j) → FrL M1 M' → (∃ v : Bool, M'.2.1 436 26 = e01 v) → OK (K (i32 (drI y φ n p k X yr b q).2.1) (i32 (drI y φ n p k X yr b q).2.2) (i32 (i + 1)) M') Q) → OK (f_Model_drawn_87 x1 (i32 N) (i32 p) x4 K f (i32 q.1) (i32 q.2) (i32 i) (i32 j) M) Q
  | _, _, 0, _, _, _, _, _, _, _, hf, _, _, _, _, _, _ => absurd hf (Nat.not_lt_zero _)
  | 0, j, f + 1, X, yr, b, q, d, M, hj, hf, hX, hL, hy, h, hF, hk => by
    unfold f_Model_drawn_87
    rw [if_pos (by rw [i32_le (by omega) (by omega)]; omega), nadd_1]
    refine OK_bind (m_lay hK hF) fun M3 h3 => hk M3 ?_ h3.1 h3.2.2.1 h3.2.2.2.1 ⟨d, by rw [h3.2.1]; exact h.2.2.2.2.2.1.2⟩
    rw [h3.2.2.2.2.1]
    exact hL
  | k + 1, j, f + 1, X, yr, b, q, d, M, hj, hf, hX, hL, hy, h, hF, hk => by
    have hnx := nxt_lt X
    have hm := Nat.mod_lt (nxt X / 65536) (show 0 < 100 by omega)
    have hM1 : MYr y φ n yr b d (msL M 436 35 (l64 (nxt X))) := h
    have step : ∀ (v : Bool), v = dr X p → OK (f_Model_drawn_109 x1 (i32 N) (i32 p) x4 K (f_Model_drawn_87 x1 (i32 N) (i32 p) x4 K f) (i32 q.1) (i32 q.2) (i32 i) (i32 j) (e01 v) (msL M 436 35 (l64 (nxt X)))) Q := by
      intro v hv
      have ez : pZ (msL M 436 35 (l64 (nxt X))) 436 26 (e01 v) = some (msI (msL M 436 35 (l64 (nxt X))) 436 26 (e01 v)) := by cases v; exact pZ_0 _ _ _; exact pZ_1 _ _ _
      unfold f_Model_drawn_109
      rw [ez, Option.bind_some]
      have hM2 := MYr_dr hM1 v (M' := msI (msL M 436 35 (l64 (nxt X))) 436 26 (e01 v)) (fun p hp => gIp (by omega)) (gIo (by omega)) (gIe _ _ _ _)
      refine OK_bind (MYr_year hM2 (by omega)) fun z hz => ?_
      obtain ⟨z1, z2, z3, z4, z5, z6, z7⟩ := hz
      rw [z1, z4, i32_add, i32_add, nadd_1]
      have hF2 : FrL M1 (msI (msL M 436 35 (l64 (nxt X))) 436 26 (e01 v)) := FrL_trans hF ⟨fun _ _ => rfl, fun p a _ _ _ _ _ => gIp a, fun i hi => gIo (by omega), fun i _ => by rw [gIp (by omega)]; rfl⟩
      refine m_drawn87 hK hp hN k (j + 1) f (nxt X) (yr + 1) _ (q.1 + (yF y φ n yr (v || flo y yr) b).length, q.2 + yK y φ n yr (v || flo y yr) b) v z.2 (by omega) (by omega) hnx ?_ (by omega) z2 (FrL_trans hF2 (FrL_P z3)) fun M' a1 a2 a3 a4 a5 => ?_
      · have := congrFun (congrArg Prod.snd z3.1) 35
        simp only [gIl] at this
        rw [this, gLe]
      · have := hk M' (by rw [drI, ← hv]; exact a1) a2 a3 a4 a5
        rw [drI, ← hv] at this
        exact this
    unfold f_Model_drawn_87
    rw [if_neg (by rw [i32_le (by omega) (by omega)]; omega), m_draw hX hL, Option.bind_some]
    dsimp only
    by_cases c : nxt X / 65536 % 100 < p
    · rw [if_neg (by rw [i32_le (by omega) (by omega)]; omega)]
      exact step true (by unfold dr; rw [decide_eq_true c])
    · rw [if_pos (by rw [i32_le (by omega) (by omega)]; omega)]
      exact step false (by unfold dr; rw [decide_eq_false c])
theorem m_drawn78 {g : Gx} {m p N w : Nat} (hg : VG g) (hmm : m ≤ 10) (hp : p ≤ 100) (hN : N ≤ 60) (hw : w ≤ 1) {M0 M1 : mM} (hm : RMm g M0) (hL : 0 < y_L g.1.1) (hK : Kp M0 M1) : ∀ (k i f X : Nat) (q : Nat × Nat) (M : mM), i + k = m → k < f → X < 2147483648 → M.2.2.1 436 35 = l64 X → FrB M0 M → (∀ j, j < 131 → M.2.1 450 j = M0.2.1 446 j) → FrL M1 M → (∃ v : Bool, M.2.1 436 26 = e01 v) → OK (f_Model_drawn_78 (i32 m) (i32 N) (i32 p) (i32 w) f (i32 q.1) (i32 q.2) (i32 i) M) fun z => z.1 = (if w = 0 then i32 (drO g.1.1 (phi g.1.2.2.2.1 g.2.2.1.2) g.1.2.1.2.1 p N g.1.2.1.1 g.1.2.1.2.2.1 k X q).1 else i32 (drO g.1.1 (phi g.1.2.2.2.1 g.2.2.1.2) g.1.2.1.2.1 p N g.1.2.1.1 g.1.2.1.2.2.1 k X q).2) ∧ FrB M0 z.2 ∧ z.2.2.1 436 26 = 0
  | _, _, 0, _, _, _, _, hf, _, _, _, _, _, _ => absurd hf (Nat.not_lt_zero _)
  | 0, i, f + 1, X, q, M, hi, hf, hX, hl, hB, h450, hF, h26 => by
    have hB' : FrB M0 (msI M 436 26 0) := ⟨fun p a b c d e f => by rw [gIp a]; exact hB.1 p a b c d e f, fun i hi => by rw [gIo (by omega)]; exact hB.2.1 i hi, hB.2.2⟩
    unfold f_Model_drawn_78
    rw [if_pos (by rw [i32_le (by omega) (by omega)]; omega), pZ_0, Option.bind_some]
    by_cases w0 : w = 0
    · rw [if_pos (show i32 w = 0 by rw [w0]; rfl), if_pos w0]
      exact OK_some ⟨rfl, hB', gIe _ _ _ _⟩
    · rw [if_neg (show ¬ i32 w = 0 from fun z => w0 ((neq_0 (by omega)).mp z)), if_neg w0]
      exact OK_some ⟨rfl, hB', gIe _ _ _ _⟩
  | k + 1, i, f + 1, X, q, M, hi, hf, hX, hl, hB, h450, hF, h26 => by
    have hy := hg.1.2.1.2.2.2.2.1
    obtain ⟨v, hv⟩ := h26
    have hs := MYr_dr (m_start hg hm hL) v (M' := M) (fun p hp => hB.1 p (by omega) (by omega) (by omega) (by omega) (by omega) (by omega)) (hB.2.1 21 (by omega)) hv
    unfold f_Model_drawn_78
    rw [if_neg (by rw [i32_le (by omega) (by omega)]; omega)]
    refine m_drawn87 hK hp hN N 0 FUEL X _ _ q v M (Nat.zero_add _) (by rw [FUEL_eq]; omega) hX hl (by omega) hs hF fun M' a1 a2 a3 a4 a5 => ?_
    rw [drO]
    exact m_drawn78 hg hmm hp hN hw hm hL hK k (i + 1) f _ _ M' (by omega) (by omega) (drI_lt _ _ _ _ _ hX) a1 a2 a3 a4 a5
theorem drawn_no {x1 x2 x3 x4 : Int32} {g : Gx} {M : mM} (hi : Inv M) (hg : VG g) (hc : RC g M) (hm : RMm g M) (hL : 0 < y_L g.1.1) (h : x1 < 1 ∨ 10 < x1 ∨ x2 < 1 ∨ 60 < x2 ∨ x3 < 0 ∨ 100 < x3 ∨ x4 < 0 ∨ ¬ x4 ≤ 1) : Both (f_GraveRails_drawn x1 x2 x3 x4) (f_Model_drawn x1 x2 x3 x4) M := by
  have hv := hg.1.1
  have ct := c_isTold hc.1.1 hv
  have mt := m_isYard hm.1.1.1.1 hv
  rw [if_pos hL] at ct mt
  have e100 : (0 < lg_cmp (Int32.toInt64 x3) 100) = (100 < x3) := by
    rw [lg_pos, show (100 : Int64) = Int32.toInt64 100 by decide]
    rw [Int64.lt_iff_toInt_lt, Int32.toInt_toInt64, Int32.toInt_toInt64, Int32.lt_iff_toInt_lt]
  refine both_pure hi ⟨-1, ?_, ?_⟩
  · unfold f_GraveRails_drawn
    rw [ct, bnd1]
    simp only [e100]
    by_cases q1 : x1 < 1
    · rw [if_pos q1]
    · rw [if_neg q1]
      by_cases q2 : 10 < x1
      · rw [if_pos q2]
      · rw [if_neg q2]
        by_cases q3 : x2 < 1
        · rw [if_pos q3]
        · rw [if_neg q3]
          by_cases q4 : 60 < x2
          · rw [if_pos q4]
          · rw [if_neg q4]
            by_cases q5 : x3 < 0
            · rw [if_pos q5]
            · rw [if_neg q5]
              by_cases q6 : 100 < x3
              · rw [if_pos q6]
              · rw [if_neg q6]
                by_cases q7 : x4 < 0
                · rw [if_pos q7]
                · rw [if_neg q7]
                  have q8 : ¬ x4 ≤ 1 := by
                    rcases h with z | z | z | z | z | z | z | z
                    · exact absurd z q1
                    · exact absurd z q2
                    · exact absurd z q3
                    · exact absurd z q4
                    · exact absurd z q5
                    · exact absurd z q6
                    · exact absurd z q7
                    · exact z
                  rw [if_neg q8]
  · unfold f_Model_drawn
    rw [mt, bnd1]
    dsimp only
    have in3 : ∀ (x : Int32) (lo hi : Nat), lo < 2147483648 → hi < 2147483648 → (f_Model_in (Int32.toInt64 x) (OfNat.ofNat lo) (OfNat.ofNat hi) M = some (0, M)) ∨ (f_Model_in (Int32.toInt64 x) (OfNat.ofNat lo) (OfNat.ofNat hi) M = some (1, M) ∧ ∃ a, x = i32 a ∧ lo ≤ a ∧ a ≤ hi) := by
      intro x lo hi h1 h2
      rcases i32_cases x with hx | ⟨a, ha, rfl⟩
      · exact Or.inl (m_inN hx h1 M)
      · by_cases q : lo ≤ a ∧ a ≤ hi
        · exact Or.inr ⟨m_inY q h2 M, a, rfl, q.1, q.2⟩
        · exact Or.inl (m_inX ha q h1 h2 M)
    rcases in3 x1 1 10 (by omega) (by omega) with z | ⟨z, a1, rfl, b1, c1⟩
    · rw [show f_Model_in (Int32.toInt64 x1) 1 10 M = _ from z, bnd0]
    · rw [show f_Model_in (Int32.toInt64 (i32 a1)) 1 10 M = _ from z, bnd1]
      dsimp only
      rcases in3 x2 1 60 (by omega) (by omega) with z | ⟨z, a2, rfl, b2, c2⟩
      · rw [show f_Model_in (Int32.toInt64 x2) 1 60 M = _ from z, bnd0]
      · rw [show f_Model_in (Int32.toInt64 (i32 a2)) 1 60 M = _ from z, bnd1]
        dsimp only
        rcases in3 x3 0 100 (by omega) (by omega) with z | ⟨z, a3, rfl, b3, c3⟩
        · rw [show f_Model_in (Int32.toInt64 x3) 0 100 M = _ from z, bnd0]
        · rw [show f_Model_in (Int32.toInt64 (i32 a3)) 0 100 M = _ from z, bnd1]
          dsimp only
          rcases in3 x4 0 1 (by omega) (by omega) with z | ⟨z, a4, rfl, b4, c4⟩
          · rw [show f_Model_in (Int32.toInt64 x4) 0 1 M = _ from z, bnd0]
          · exfalso
            rcases h with z | z | z | z | z | z | z | z
            · rw [show (1 : Int32) = i32 1 from rfl, i32_lt (by omega) (by omega)] at z; omega
            · rw [show (10 : Int32) = i32 10 from rfl, i32_lt (by omega) (by omega)] at z; omega
            · rw [show (1 : Int32) = i32 1 from rfl, i32_lt (by omega) (by omega)] at z; omega
            · rw [show (60 : Int32) = i32 60 from rfl, i32_lt (by omega) (by omega)] at z; omega
            · exact (i32_neg (a := a3) (by omega)).mp z
            · rw [show (100 : Int32) = i32 100 from rfl, i32_lt (by omega) (by omega)] at z; omega
            · exact (i32_neg (a := a4) (by omega)).mp z
            · rw [show (1 : Int32) = i32 1 from rfl, i32_le (by omega) (by omega)] at z; omega
theorem both_drawn {x1 x2 x3 x4 : Int32} {M : mM} (hi : Inv M) : Both (f_GraveRails_drawn x1 x2 x3 x4) (f_Model_drawn x1 x2 x3 x4) M := by
  have hi' := hi
  obtain ⟨g, hg, hc, hm⟩ := hi
  have hv := hg.1.1
  by_cases hL : 0 < y_L g.1.1
  · by_cases hno : x1 < 1 ∨ 10 < x1 ∨ x2 < 1 ∨ 60 < x2 ∨ x3 < 0 ∨ 100 < x3 ∨ x4 < 0 ∨ ¬ x4 ≤ 1
    · exact drawn_no hi' hg hc hm hL hno
    · have toN : ∀ (x : Int32) (lo hi : Nat), lo < 2147483648 → hi < 2147483648 → ¬ x < i32 lo → ¬ i32 hi < x → ∃ a, x = i32 a ∧ lo ≤ a ∧ a ≤ hi := by
        intro x lo hi h1 h2 h3 h4
        rcases i32_cases x with hx | ⟨a, ha, rfl⟩
        · exact absurd (lt_neg hx h1) h3
        · rw [i32_lt ha h1] at h3
          rw [i32_lt h2 ha] at h4
          exact ⟨a, rfl, by omega, by omega⟩
      obtain ⟨m, rfl, m1, m2⟩ := toN x1 1 10 (by omega) (by omega) (fun z => hno (Or.inl z)) (fun z => hno (Or.inr (Or.inl z)))
      obtain ⟨N, rfl, n1, n2⟩ := toN x2 1 60 (by omega) (by omega) (fun z => hno (Or.inr (Or.inr (Or.inl z)))) (fun z => hno (Or.inr (Or.inr (Or.inr (Or.inl z)))))
      obtain ⟨p, rfl, p1, p2⟩ := toN x3 0 100 (by omega) (by omega) (fun z => hno (Or.inr (Or.inr (Or.inr (Or.inr (Or.inl z)))))) (fun z => hno (Or.inr (Or.inr (Or.inr (Or.inr (Or.inr (Or.inl z)))))))
      obtain ⟨w, rfl, w1, w2⟩ := toN x4 0 1 (by omega) (by omega) (fun z => hno (Or.inr (Or.inr (Or.inr (Or.inr (Or.inr (Or.inr (Or.inl z)))))))) (fun z => hno (Or.inr (Or.inr (Or.inr (Or.inr (Or.inr (Or.inr (Or.inr (Int32.not_le.mpr z)))))))))
      have hx := hg.1.2.2.2.2
      refine both_ask (v := if w = 0 then i32 (drO g.1.1 (phi g.1.2.2.2.1 g.2.2.1.2) g.1.2.1.2.1 p N g.1.2.1.1 g.1.2.1.2.2.1 m g.1.2.2.2.2 (0, 0)).1 else i32 (drO g.1.1 (phi g.1.2.2.2.1 g.2.2.1.2) g.1.2.1.2.1 p N g.1.2.1.1 g.1.2.1.2.2.1 m g.1.2.2.2.2 (0, 0)).2) hg hc hm ?_ fun M' hc' hm' => ?_
      · have ct := c_isTold hc.1.1 hv
        rw [if_pos hL] at ct
        have e100 : ¬ 0 < lg_cmp (Int32.toInt64 (i32 p)) 100 := by
          rw [lg_pos, i32_64 (by omega), show (100 : Int64) = l64 100 from rfl, lq_lt (by omega) (by omega)]
          omega
        unfold f_GraveRails_drawn
        rw [ct, bnd1]
        dsimp only
        rw [if_neg (fun z => hno (Or.inl z)), if_neg (fun z => hno (Or.inr (Or.inl z))), if_neg (fun z => hno (Or.inr (Or.inr (Or.inl z)))), if_neg (fun z => hno (Or.inr (Or.inr (Or.inr (Or.inl z))))), if_neg (fun z => hno (Or.inr (Or.inr (Or.inr (Or.inr (Or.inl z)))))), if_neg e100, if_neg (fun z => hno (Or.inr (Or.inr (Or.inr (Or.inr (Or.inr (Or.inr (Or.inl z)))))))), if_pos (by rw [show (1 : Int32) = i32 1 from rfl, i32_le (by omega) (by omega)]; exact w2)]
        have ex : M.2.1 20 4 = i32 g.1.2.2.2.2 := hc.1.2.2.2.2
        rw [ex, i32_64 hx]
        have key := c_drawn80 (M0 := M) hg m2 p2 n2 w2 hc m 0 FUEL g.1.2.2.2.2 (0, 0) M (Nat.zero_add _) (by rw [FUEL_eq]; omega) hx (Sm_refl _ _ _)
        exact OK_imp key fun z hz => ⟨hz.1, RC_Sm hg hc hz.2, Sm_le hz.2 (by omega) (by omega)⟩
      · have mt' := m_isYard hm'.1.1.1.1 hv
        rw [if_pos hL] at mt'
        unfold f_Model_drawn
        rw [mt', bnd1]
        dsimp only
        rw [m_inY (lo := 1) (hi := 10) ⟨m1, m2⟩ (by omega), bnd1]
        dsimp only
        rw [m_inY (lo := 1) (hi := 60) ⟨n1, n2⟩ (by omega), bnd1]
        dsimp only
        rw [m_inY (lo := 0) (hi := 100) ⟨p1, p2⟩ (by omega), bnd1]
        dsimp only
        rw [m_inY (lo := 0) (hi := 1) ⟨w1, w2⟩ (by omega), bnd1]
        dsimp only
        rw [pL_s, Option.bind_some, hm'.2.2.1, i32_64 hx]
        have hmL : RMm g (msL M' 436 35 (l64 g.1.2.2.2.2)) := RMm_N hm' ⟨fun _ _ => rfl, fun _ _ => rfl, fun _ _ => rfl⟩
        refine OK_bind (m_keeps _) fun M1 q => ?_
        obtain ⟨q1, q2, q3⟩ := q
        have hK : Kp (msL M' 436 35 (l64 g.1.2.2.2.2)) M1 := ⟨q1, q2⟩
        have key := m_drawn78 hg m2 p2 n2 w2 hmL hL hK m 0 FUEL g.1.2.2.2.2 (0, 0) M1 (Nat.zero_add _) (by rw [FUEL_eq]; omega) hx (by rw [q3]; exact gLe _ _ _ _) ⟨fun p a b c d e f => Sm_i q1 (by omega), fun i hi => by rw [Sm_i q1 (by omega)], fun p hp => Sm_r q1 (by omega)⟩ q2 (FrL_refl _) ⟨false, by rw [Sm_i q1 (by omega)]; exact hmL.2.2.2.1⟩
        refine OK_imp key fun z hz => ⟨hz.1, ?_⟩
        have hN := FrN_B hz.2.1 (hz.2.2.trans hmL.2.2.2.1.symm)
        exact ⟨fun p hp => (hN.1 p hp), fun p hp => hN.2.1 p hp, fun i hi => hN.2.2 i hi⟩
  · have ct := c_isTold hc.1.1 hv
    have mt := m_isYard hm.1.1.1.1 hv
    rw [if_neg hL] at ct mt
    refine both_pure hi' ⟨-1, ?_, ?_⟩
    · unfold f_GraveRails_drawn
      rw [ct, bnd0]
    · unfold f_Model_drawn
      rw [mt, bnd0]
