/-! ===== sets: the class ===== -/
theorem c_opn {y : Yd} (hv : VY y) {M0 : mM} (hY : CY 21 y M0) (hr : M0.2.2.2 269 8 = some 21) : ∀ (k i f : Nat) (M : mM), i + k = y_m y → k < f → Sm 269 270 M0 M → M.2.2.2 = M0.2.2.2 → (∀ j, j ≠ 6 → M.2.1 269 j = M0.2.1 269 j) → OK (f_Sets_takeOpen_7 f (i32 i) M) fun M' => M'.2.1 269 6 = opnF y k i (M.2.1 269 6) ∧ Sm 269 270 M0 M' ∧ M'.2.2.2 = M0.2.2.2 ∧ ∀ j, j ≠ 6 → M'.2.1 269 j = M0.2.1 269 j
  | _, _, 0, _, _, hf, _, _, _ => absurd hf (Nat.not_lt_zero _)
  | 0, i, f + 1, M, hi, hf, hS, hR, hj => by
    have v3 := hv.2.2.1
    have e2 : M.2.1 21 2 = i32 (y_m y) := by rw [Sm_i hS (by omega)]; exact hY.2.2.1
    unfold f_Sets_takeOpen_7
    rw [hR, hr, nnl_s (show 21 ∈ ydL by decide), Option.bind_some, e2, if_pos (by rw [i32_le (by omega) (by omega)]; omega)]
    exact OK_some ⟨rfl, hS, hR, hj⟩
  | k + 1, i, f + 1, M, hi, hf, hS, hR, hj => by
    have v3 := hv.2.2.1
    have e2 : M.2.1 21 2 = i32 (y_m y) := by rw [Sm_i hS (by omega)]; exact hY.2.2.1
    have e3 : M.2.1 (21 + 3) i = i32 (y_t y i).2.2 := by rw [Sm_i hS (by omega)]; exact (hY.2.2.2.2.2.1 i (by omega)).2.2
    have hk3 := (hv.2.2.2.2.2.2.2.2.1 i (by omega)).2.2
    have go : ∀ x, OK (f_Sets_takeOpen_61 (f_Sets_takeOpen_7 f) (i32 i) (M.2.1 269 6) x M) fun M' => M'.2.1 269 6 = opnF y k (i + 1) (M.2.1 269 6 ||| x) ∧ Sm 269 270 M0 M' ∧ M'.2.2.2 = M0.2.2.2 ∧ ∀ j, j ≠ 6 → M'.2.1 269 j = M0.2.1 269 j := by
      intro x
      unfold f_Sets_takeOpen_61
      rw [pI_s, Option.bind_some, nadd_1]
      have := c_opn hv hY hr k (i + 1) f (msI M 269 6 (M.2.1 269 6 ||| x)) (by omega) (by omega) (Sm_trans hS (Sm_I (by omega))) hR fun j h => (gIo h).trans (hj j h)
      rw [gIe] at this
      exact this
    unfold f_Sets_takeOpen_7
    rw [hR, hr, nnl_s (show 21 ∈ ydL by decide), Option.bind_some, e2, if_neg (by rw [i32_le (by omega) (by omega)]; omega), if_neg (by rw [show (11 : Int32) = i32 11 from rfl, i32_le (by omega) (by omega)]; omega), Option.bind_some, rd_i32 (by omega) (by omega), Option.bind_some, e3, opnF]
    by_cases q0 : (y_t y i).2.2 = 0
    · rw [if_pos (by rw [q0]; rfl), if_pos (Or.inl q0)]
      unfold f_Sets_takeOpen_54
      exact go _
    · rw [if_neg (by rw [neq_0 (by omega)]; exact q0), Option.bind_some, rd_i32 (by omega) (by omega), Option.bind_some, e3]
      by_cases q2 : (y_t y i).2.2 = 2
      · rw [if_pos (by rw [q2]; rfl), if_pos (Or.inr q2)]
        unfold f_Sets_takeOpen_54
        exact go _
      · rw [if_neg (by rw [neq_2 (by omega)]; exact q2), if_neg (fun z => z.elim q0 q2)]
        exact go 0
theorem c_takeOpen {y : Yd} (hv : VY y) {M : mM} (hY : CY 21 y M) (hr : M.2.2.2 269 8 = some 21) : OK (f_Sets_takeOpen M) fun M' => M'.2.1 269 6 = opn y ∧ Sm 269 270 M M' ∧ M'.2.2.2 = M.2.2.2 ∧ ∀ j, j ≠ 6 → M'.2.1 269 j = M.2.1 269 j := by
  have v3 := hv.2.2.1
  unfold f_Sets_takeOpen
  rw [pI_s, Option.bind_some]
  have hY' : CY 21 y (msI M 269 6 0) := CY_of hY fun k hk => gIp (by omega)
  refine OK_imp (c_opn hv hY' hr (y_m y) 0 FUEL (msI M 269 6 0) (Nat.zero_add _) (by rw [FUEL_eq]; omega) (Sm_refl _ _ _) rfl fun _ _ => rfl) fun M' h => ?_
  rw [gIe] at h
  exact ⟨h.1, Sm_trans (Sm_I (by omega)) h.2.1, h.2.2.1, fun j hj => (h.2.2.2 j hj).trans (gIo hj)⟩
theorem bup_same {α : Type} (f : Nat → α) (i : Nat) : bup f i (f i) = f := by
  funext j
  unfold bup
  by_cases h : j = i
  · rw [if_pos h, h]
  · rw [if_neg h]
/-- the yard as told, its first i graves -/
def tlB (y : Yd) (g : Nat) : B := dgB (y_t y g).1 (y_t y g).2.1 (y_t y g).2.2 (i32 0)
def tlS (y : Yd) (i : Nat) : Sx := (0, i, tlB y, fun g => some ((y_t y g).1, (y_t y g).2.1))
theorem tlS_dig (y : Yd) (i : Nat) : dgS (tlS y i) (y_t y i).1 (y_t y i).2.1 (y_t y i).2.2 = tlS y (i + 1) := by
  show (0, i + 1, bup (tlB y) i (tlB y i), bup (fun g => some ((y_t y g).1, (y_t y g).2.1)) i (some ((y_t y i).1, (y_t y i).2.1))) = _
  rw [bup_same, show bup (fun g => some ((y_t y g).1, (y_t y g).2.1)) i (some ((y_t y i).1, (y_t y i).2.1)) = fun g => some ((y_t y g).1, (y_t y g).2.1) from bup_same (fun g => some ((y_t y g).1, (y_t y g).2.1)) i]
  rfl
theorem c_startOf17 {y : Yd} (hv : VY y) {S T : Nat} (hd : T + 8 ≤ S ∨ S + 10 ≤ T) {M0 : mM} (hY : CY T y M0) : ∀ (k i f : Nat) (M : mM), i + k = y_m y → k < f → CSX S (tlS y i) M → Sm S (S + 10) M0 M → OK (f_State_startOf_17 S T f (i32 i) M) fun M' => CSX S (tlS y (y_m y)) M' ∧ Sm S (S + 10) M0 M'
  | _, _, 0, _, _, hf, _, _ => absurd hf (Nat.not_lt_zero _)
  | 0, i, f + 1, M, hi, hf, hX, hS => by
    have v3 := hv.2.2.1
    have e2 : M.2.1 T 2 = i32 (y_m y) := by rw [Sm_i hS (by omega)]; exact hY.2.2.1
    unfold f_State_startOf_17
    rw [e2, if_pos (by rw [i32_le (by omega) (by omega)]; omega)]
    have : i = y_m y := by omega
    rw [← this]
    exact OK_some ⟨hX, hS⟩
  | k + 1, i, f + 1, M, hi, hf, hX, hS => by
    have v3 := hv.2.2.1
    have e2 : M.2.1 T 2 = i32 (y_m y) := by rw [Sm_i hS (by omega)]; exact hY.2.2.1
    obtain ⟨t1, t2, t3⟩ := hY.2.2.2.2.2.1 i (by omega)
    rw [← Sm_i hS (show T + 1 < S ∨ S + 10 ≤ T + 1 by omega)] at t1
    rw [← Sm_i hS (show T + 2 < S ∨ S + 10 ≤ T + 2 by omega)] at t2
    rw [← Sm_i hS (show T + 3 < S ∨ S + 10 ≤ T + 3 by omega)] at t3
    unfold f_State_startOf_17
    rw [e2, if_neg (by rw [i32_le (by omega) (by omega)]; omega), if_neg (by rw [show (10 : Int32) = i32 10 from rfl, i32_le (by omega) (by omega)]; omega), rd_i32 (by omega) (by omega), Option.bind_some, rd_i32 (by omega) (by omega), Option.bind_some, rd_i32 (by omega) (by omega), Option.bind_some, t1, t2, t3]
    refine OK_bind (c_add hX (show i ≤ 10 by omega)) fun M1 h1 => ?_
    rw [tlS_dig] at h1
    rw [nadd_1]
    exact c_startOf17 hv hd hY k (i + 1) f M1 (by omega) (by omega) h1.1 (Sm_trans hS h1.2)
theorem c_startOf {y : Yd} (hv : VY y) {S T : Nat} (hd : T + 8 ≤ S ∨ S + 10 ≤ T) {M : mM} (hY : CY T y M) : OK (f_State_startOf S T M) fun M' => CSX S (tlS y (y_m y)) M' ∧ Sm S (S + 10) M M' := by
  have v3 := hv.2.2.1
  unfold f_State_startOf
  simp only [pI_s, Option.bind_some]
  have hS : Sm S (S + 10) M (msI (msI (msI M S 0 0) S 1 0) S 2 0) := Sm_trans (Sm_trans (Sm_I (by omega)) (Sm_I (by omega))) (Sm_I (by omega))
  refine OK_imp (c_startOf17 hv hd (CY_of hY fun k hk => Sm_i hS (by omega)) (y_m y) 0 FUEL _ (Nat.zero_add _) (by rw [FUEL_eq]; omega) ⟨⟨?_, ?_, ?_, Nat.zero_le _, fun g hg => absurd hg (Nat.not_lt_zero _)⟩, fun g hg => absurd hg (Nat.not_lt_zero _)⟩ (Sm_refl _ _ _)) fun M' h => ⟨h.1, Sm_trans hS h.2⟩
  · rw [gIo (by omega), gIo (by omega), gIe]; rfl
  · rw [gIo (by omega), gIe]; rfl
  · rw [gIe]; rfl
/-- the told one, the first i by the set -/
def mix (y : Yd) (s : Int32) (i : Nat) (g : Nat) : B := if g < i then bby y s g else tlB y g
theorem tl_bby (y : Yd) (s : Int32) (g : Nat) : tlB y g = (some ((y_t y g).1, (y_t y g).2.1), (y_t y g).2.2, 0, -1, 0, 0) := rfl
theorem mix_up {y : Yd} {s : Int32} {i : Nat} (x : B) (hx : x = bby y s i) : bup (mix y s i) i x = mix y s (i + 1) := by
  funext g
  unfold bup mix
  by_cases h : g = i
  · subst h
    rw [if_pos rfl, if_pos (Nat.lt_succ_self _), hx]
  · rw [if_neg h]
    by_cases h' : g < i
    · rw [if_pos h', if_pos (by omega)]
    · rw [if_neg h', if_neg (by omega)]
theorem mix_eq {y : Yd} {s : Int32} {i : Nat} (h : bby y s i = tlB y i) : mix y s i = mix y s (i + 1) := by
  rw [← mix_up (tlB y i) h.symm]
  have : mix y s i i = tlB y i := by unfold mix; rw [if_neg (Nat.lt_irrefl _)]
  rw [← this, bup_same]
def FrSt (M M' : mM) : Prop := ∀ p, p < 246 ∨ (269 ≤ p ∧ p < 280) ∨ 290 ≤ p → M'.2.1 p = M.2.1 p ∧ M'.2.2.2 p = M.2.2.2 p
theorem FrSt_trans {M M' M'' : mM} (h : FrSt M M') (h' : FrSt M' M'') : FrSt M M'' := fun p hp => ⟨((h' p hp).1).trans (h p hp).1, ((h' p hp).2).trans (h p hp).2⟩
theorem FrSt_Sm {M M' : mM} (h : Sm 246 269 M M') : FrSt M M' := fun p hp => h p (by omega)
theorem FrSt_S2 {M M' : mM} (h : Sm 280 290 M M') : FrSt M M' := fun p hp => h p (by omega)
theorem FrSt_refl (M : mM) : FrSt M M := fun _ _ => ⟨rfl, rfl⟩
theorem V_told {y : Yd} (hv : VY y) (b : Nat → B) (hp : ∀ g, g < y_m y → (b g).1 = some ((y_t y g).1, (y_t y g).2.1)) (hk : ∀ g, g < y_m y → (b g).2.1 ≤ 3) (hh : ∀ g, g < y_m y → (b g).2.2.1 = 0) : V (y_L y) (y_C y) (y_m y) b := by
  have v3 := hv.2.2.1
  refine ⟨hv.1, hv.2.1, by omega, fun g hg => ⟨fun l c e => ?_, hk g hg, by rw [hh g hg]; omega, fun _ => hh g hg⟩, fun g h p hg hh' e1 e2 => ?_⟩
  · rw [hp g hg] at e
    cases e
    have := hv.2.2.2.2.2.2.2.2.1 g hg
    exact ⟨this.1, this.2.1⟩
  · rw [hp g hg] at e1
    rw [hp h hh'] at e2
    rw [← e1] at e2
    have e3 := Option.some.inj e2
    exact hv.2.2.2.2.2.2.2.2.2.1 g h hg hh' (congrArg Prod.fst e3).symm (congrArg Prod.snd e3).symm
theorem kby_le {y : Yd} (hv : VY y) {s : Int32} {g : Nat} (hg : g < y_m y) : kby y s g ≤ 3 := by
  unfold kby
  have := (hv.2.2.2.2.2.2.2.2.1 g hg).2.2
  split
  · exact this
  · split <;> omega
theorem V_bby {y : Yd} (hv : VY y) (s : Int32) : V (y_L y) (y_C y) (y_m y) (bby y s) := V_told hv _ (fun _ _ => rfl) (fun g hg => kby_le hv hg) fun _ _ => rfl
theorem VT_told {y : Yd} (hv : VY y) : VT (y_m y) fun g => some ((y_t y g).1, (y_t y g).2.1) := fun g hg l c e => by
  cases e
  have := hv.2.2.2.2.2.2.2.2.1 g hg
  have := hv.1
  have := hv.2.1
  omega
theorem VF_bby (y : Yd) (s : Int32) (n : Nat) : VF n (bby y s) := fun g _ => ⟨fun z => (by cases z), fun _ => rfl⟩
theorem c_with13 {y : Yd} {s : Int32} {ru : Option Nat} {φ : Option (List Int64 → Nat)} (hv : VY y) {M0 : mM} (hY : CY 21 y M0) (hr8 : M0.2.2.2 269 8 = some 21) (hr9 : M0.2.2.2 269 9 = ru) (h6 : M0.2.1 269 6 = opn y) (hRL : RL ru φ M0) : ∀ (k i f : Nat) (M : mM), i + k = y_m y → k < f → CSX 280 (0, y_m y, mix y s i, fun g => some ((y_t y g).1, (y_t y g).2.1)) M → FrSt M0 M → OK (f_Sets_startWith_13 s f (i32 i) M) fun M' => CQ y 21 ru φ (y_m y) 0 (bby y s) [] 0 M' ∧ M'.2.1 246 4 = 0 ∧ FrSt M0 M'
  | _, _, 0, _, _, hf, _, _ => absurd hf (Nat.not_lt_zero _)
  | 0, i, f + 1, M, hi, hf, hX, hS => by
    have v3 := hv.2.2.1
    have e1 : M.2.1 280 1 = i32 (y_m y) := hX.1.2.1
    have hX' : CSX 280 (0, y_m y, bby y s, fun g => some ((y_t y g).1, (y_t y g).2.1)) M := by
      refine ⟨⟨hX.1.1, hX.1.2.1, ?_, hX.1.2.2.2.1, fun g hg => ?_⟩, hX.2⟩
      · have e : ∀ (n : Nat), n ≤ i → fMany (mix y s i) n = fMany (bby y s) n := by
          intro n
          induction n with
          | zero => intro _; rfl
          | succ n ih =>
            intro hn
            rw [fMany, fMany, ih (by omega)]
            have : mix y s i n = bby y s n := by unfold mix; rw [if_pos (by omega)]
            rw [this]
        have := hX.1.2.2.1
        rw [this]
        exact congrArg i32 (e (y_m y) (by omega))
      · have := hX.1.2.2.2.2 g hg
        have hg' : g < y_m y := hg
        have e : mix y s i g = bby y s g := by unfold mix; rw [if_pos (by omega)]
        have h2 : CB 280 g (mix y s i g) M := this
        rw [e] at h2
        exact h2
    unfold f_Sets_startWith_13 f_Sets_startWith_69
    rw [e1, if_pos (by rw [i32_le (by omega) (by omega)]; omega), (hS 269 (by omega)).2, hr8, nnl_s (show 21 ∈ ydL by decide), Option.bind_some, hr9]
    refine OK_bind (c_start hv (by decide) (by omega) (CY_of hY fun j hj => (hS _ (by omega)).1) (by omega) hX' (V_bby hv s) (VT_told hv) (RL_of hRL fun p a b => (hS _ (by omega)).1)) fun M1 h1 => ?_
    exact OK_some ⟨h1.1, h1.2.1, FrSt_trans hS (FrSt_Sm h1.2.2.2)⟩
  | k + 1, i, f + 1, M, hi, hf, hX, hS => by
    have v3 := hv.2.2.1
    have e1 : M.2.1 280 1 = i32 (y_m y) := hX.1.2.1
    have e6 : M.2.1 269 6 = opn y := by rw [(hS 269 (by omega)).1]; exact h6
    unfold f_Sets_startWith_13
    rw [e1, if_neg (by rw [i32_le (by omega) (by omega)]; omega), if_neg (by rw [show (11 : Int32) = i32 11 from rfl, i32_le (by omega) (by omega)]; omega), e6]
    have put : ∀ (kd : Nat), kby y s i = kd → OK (f_Sets_startWith_62 s (f_Sets_startWith_13 s f) (i32 i) (i32 i) (i32 kd) M) fun M' => CQ y 21 ru φ (y_m y) 0 (bby y s) [] 0 M' ∧ M'.2.1 246 4 = 0 ∧ FrSt M0 M' := by
      intro kd hkd
      unfold f_Sets_startWith_62 f_Sets_startWith_63
      rw [wr_i32 (by omega) (by omega), Option.bind_some, nadd_1]
      have hb : mix y s i i = tlB y i := by unfold mix; rw [if_neg (Nat.lt_irrefl _)]
      refine c_with13 hv hY hr8 hr9 h6 hRL k (i + 1) f _ (by omega) (by omega) ?_ (FrSt_trans hS (FrSt_S2 (Sm_I (by omega))))
      rw [← mix_up (kndB kd (mix y s i i)) (by rw [hb]; unfold kndB bby; rw [hkd]; rfl)]
      refine ⟨CS_put (g := i) hX.1 ?_ ?_ ?_ (fun j hj => ?_) ?_, fun j hj => ?_⟩
      · rw [gIp (by omega)]
      · rw [gIp (by omega)]
      · rw [gIp (by omega)]
        have : fMany (bup (mix y s i) i (kndB kd (mix y s i i))) (y_m y) = fMany (mix y s i) (y_m y) := fMany_same (g := i) (x := kndB kd (mix y s i i)) (show ((kndB kd (mix y s i i)).1 = none) = ((mix y s i i).1 = none) from rfl)
        rw [this]
        exact hX.1.2.2.1
      · simp (disch := omega) only [gIe, gIp, gIo, gCe, gCn, gRI, gLI, gIR, gCR, gLR, gRe, gRo, gRp, gIl, and_self]
      · obtain ⟨a1, a2, a3, a4, a5, a6, a7⟩ := hX.1.2.2.2.2 i (by show i < y_m y; omega)
        simp only [Nat.reduceAdd] at a1 a2 a3 a4 a5 a6 a7
        unfold CB kndB
        simp (disch := omega) only [gIe, gIp, gIo, gCe, gCn, gRI, gLI, gIR, gCR, gLR, gRe, gRo, gRp, gIl, Nat.reduceAdd, a1, a2, a4, a5, a6, a7, and_self]
      · rw [gIp (by omega), gIp (by omega)]
        exact hX.2 j hj
    by_cases q1 : ((opn y >>> (i32 i &&& 31)) &&& 1) = 0
    · rw [if_pos q1]
      unfold f_Sets_startWith_63
      rw [nadd_1]
      have hb : bby y s i = tlB y i := by
        unfold bby kby
        rw [if_pos q1]
        rfl
      rw [mix_eq hb] at hX
      exact c_with13 hv hY hr8 hr9 h6 hRL k (i + 1) f M (by omega) (by omega) hX hS
    · rw [if_neg q1]
      by_cases q2 : ((s >>> (i32 i &&& 31)) &&& 1) = 0
      · rw [if_pos q2]
        exact put 0 (by unfold kby; rw [if_neg q1, if_pos q2])
      · rw [if_neg q2]
        exact put 2 (by unfold kby; rw [if_neg q1, if_neg q2])
theorem c_startWith {y : Yd} {s : Int32} {ru : Option Nat} {φ : Option (List Int64 → Nat)} (hv : VY y) {M : mM} (hY : CY 21 y M) (hr8 : M.2.2.2 269 8 = some 21) (hr9 : M.2.2.2 269 9 = ru) (h6 : M.2.1 269 6 = opn y) (hRL : RL ru φ M) : OK (f_Sets_startWith s M) fun M' => CQ y 21 ru φ (y_m y) 0 (bby y s) [] 0 M' ∧ M'.2.1 246 4 = 0 ∧ FrSt M M' := by
  have v3 := hv.2.2.1
  unfold f_Sets_startWith
  rw [hr8, nnl_s (show 21 ∈ ydL by decide), Option.bind_some]
  refine OK_bind (c_startOf hv (S := 280) (T := 21) (by omega) hY) fun M1 h1 => ?_
  have e : tlS y (y_m y) = (0, y_m y, mix y s 0, fun g => some ((y_t y g).1, (y_t y g).2.1)) := rfl
  rw [e] at h1
  exact c_with13 hv hY hr8 hr9 h6 hRL (y_m y) 0 FUEL M1 (Nat.zero_add _) (by rw [FUEL_eq]; omega) h1.1 (FrSt_S2 h1.2)
