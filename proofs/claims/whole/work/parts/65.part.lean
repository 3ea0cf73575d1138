/-! ===== look: how the sets part, the class ===== -/
theorem mstF_ge (f : Nat → Nat) : ∀ (n i : Nat), i < n → f i ≤ mstF f n
  | 0, i, h => absurd h (Nat.not_lt_zero _)
  | n + 1, i, h => by
    rw [mstF]
    by_cases c : i = n
    · subst c
      split <;> omega
    · have := mstF_ge f n i (by omega)
      split <;> omega
theorem mstF_le (f : Nat → Nat) (m : Nat) : ∀ (n : Nat), (∀ i, i < n → f i ≤ m) → mstF f n ≤ m
  | 0, _ => Nat.zero_le _
  | n + 1, h => by
    rw [mstF]
    have h1 := mstF_le f m n fun i hi => h i (by omega)
    have h2 := h n (Nat.lt_succ_self _)
    split <;> omega
theorem mstF_rot (f : Nat → Nat) : mstF (fun k => f (if k = 0 then 20 else k - 1)) 21 = mstF f 21 := by
  refine Nat.le_antisymm (mstF_le _ _ 21 fun i hi => ?_) (mstF_le _ _ 21 fun i hi => ?_)
  · show f (if i = 0 then 20 else i - 1) ≤ _
    by_cases c : i = 0
    · rw [if_pos c]; exact mstF_ge f 21 20 (by omega)
    · rw [if_neg c]; exact mstF_ge f 21 (i - 1) (by omega)
  · by_cases c : i = 20
    · have := mstF_ge (fun k => f (if k = 0 then 20 else k - 1)) 21 0 (by omega)
      simp only [if_pos rfl] at this
      rw [c]
      exact this
    · have := mstF_ge (fun k => f (if k = 0 then 20 else k - 1)) 21 (i + 1) (by omega)
      simp only [if_neg (Nat.succ_ne_zero i), Nat.add_sub_cancel] at this
      exact this
theorem bnd1g {β : Type} {M : mM} {A C : Int32 × mM → Option β} : ((some ((1 : Int32), M)).bind fun r => if r.1 = 0 then A r else C r) = C (1, M) := by
  rw [Option.bind_some, if_neg (show ¬ ((1 : Int32), M).1 = 0 from d10.mp)]
theorem bnd0g {β : Type} {M : mM} {A C : Int32 × mM → Option β} : ((some ((0 : Int32), M)).bind fun r => if r.1 = 0 then A r else C r) = A (0, M) := by
  rw [Option.bind_some, if_pos (show ((0 : Int32), M).1 = 0 from rfl)]
/-- the class's row of a body, 0 if it fell -/
def cls (b : B) : Nat := match b.1 with
  | none => 0
  | some p => p.2 + 1
def Tb (m : Nat) (T : Nat → Nat → Nat) (M : mM) : Prop := ∀ g k, g < m → k < 21 → M.2.1 271 (g * 21 + k) = i32 (T g k)
theorem Tb_put {m : Nat} {T : Nat → Nat → Nat} {M : mM} {g0 k0 : Nat} (h : Tb m T M) (hg : g0 < m) (hk : k0 < 21) : Tb m (fun g k => T g k + if g = g0 ∧ k = k0 then 1 else 0) (msI M 271 (g0 * 21 + k0) (i32 (T g0 k0 + 1))) := by
  intro g k h1 h2
  show _ = i32 (T g k + if g = g0 ∧ k = k0 then 1 else 0)
  by_cases c : g = g0 ∧ k = k0
  · rw [if_pos c, c.1, c.2, gIe]
  · rw [if_neg c, gIo (by omega), Nat.add_zero]
    exact h g k h1 h2
theorem Tb_cong {m : Nat} {T T' : Nat → Nat → Nat} {M : mM} (h : Tb m T M) (e : ∀ g k, g < m → k < 21 → T' g k = T g k) : Tb m T' M := fun g k h1 h2 => by rw [e g k h1 h2]; exact h g k h1 h2
theorem cls_lt {L C n : Nat} {b : Nat → B} (hV : V L C n b) {g : Nat} (hg : g < n) : cls (b g) < 21 := by
  unfold cls
  cases h : (b g).1 with
  | none => simp only; omega
  | some p =>
    have := eL_lt hV (l := p.1) (c := p.2) hg h
    simp only
    omega
theorem c_cells2 {y : Yd} {ru : Option Nat} {φ : Option (List Int64 → Nat)} {yr : Nat} {b : Nat → B} {T : Nat → Nat → Nat} {M0 : mM} (h : CQe y 21 ru φ (y_m y) yr b M0) (hr8 : M0.2.2.2 269 8 = some 21) (hT : ∀ g k, T g k < 2147483646) : ∀ (k i f : Nat) (M : mM), i + k = y_m y → k < f → Sm 271 272 M0 M → Tb (y_m y) (fun g k => T g k + if g < i ∧ k = cls (b g) then 1 else 0) M → OK (f_Sets_countCells_2 247 f (i32 i) M) fun M' => Sm 271 272 M0 M' ∧ Tb (y_m y) (fun g k => T g k + if k = cls (b g) then 1 else 0) M'
  | _, _, 0, _, _, hf, _, _ => absurd hf (Nat.not_lt_zero _)
  | 0, i, f + 1, M, hi, hf, hS, hB => by
    have hq := h.1.choose_spec.choose_spec
    have v3 := hq.1.2.2.1
    have e2 : M.2.1 21 2 = i32 (y_m y) := by rw [Sm_i hS (by omega)]; exact hq.2.2.1.2.2.2.1.2.2.1
    unfold f_Sets_countCells_2
    rw [Sm_r hS (by omega), hr8, nnl_s (show 21 ∈ ydL by decide), Option.bind_some, e2, if_pos (by rw [i32_le (by omega) (by omega)]; omega)]
    refine OK_some ⟨hS, Tb_cong hB fun g k h1 h2 => ?_⟩
    have : g < i := by omega
    simp only [this, true_and]
  | k + 1, i, f + 1, M, hi, hf, hS, hB => by
    have hq := h.1.choose_spec.choose_spec
    have v3 := hq.1.2.2.1
    have hV : V (y_L y) (y_C y) (y_m y) b := hq.2.1.2.1
    have e2 : M.2.1 21 2 = i32 (y_m y) := by rw [Sm_i hS (by omega)]; exact hq.2.2.1.2.2.2.1.2.2.1
    have hS' : CS 247 yr (y_m y) b M := CS_Sm (lo := 271) (hi := 272) hq.2.1.1 hS (by omega)
    have a2 := (hS'.2.2.2.2 i (by omega)).2.1
    simp only [Nat.reduceAdd] at a2
    have hlt := cls_lt hV (show i < y_m y by omega)
    have go : ∀ c, c = cls (b i) → OK (f_Sets_countCells_43 247 (f_Sets_countCells_2 247 f) (i32 i) (i32 (i * 21)) (i32 c) M) fun M' => Sm 271 272 M0 M' ∧ Tb (y_m y) (fun g k => T g k + if k = cls (b g) then 1 else 0) M' := by
      intro c hc
      have e0 : M.2.1 271 (i * 21 + c) = i32 (T i c) := by
        have := hB i c (by omega) (by omega)
        rw [this]
        simp only [Nat.lt_irrefl, false_and, if_false, Nat.add_zero]
      unfold f_Sets_countCells_43 f_Sets_countCells_68
      rw [i32_add, if_neg (fun z => (i32_neg (a := i * 21 + c) (by omega)).mp z), if_neg (by rw [show (231 : Int32) = i32 231 from rfl, i32_le (by omega) (by omega)]; omega), rd_i32 (by omega) (by omega), Option.bind_some, wr_i32 (by omega) (by omega), Option.bind_some, e0, nadd_1, nadd_1]
      refine c_cells2 h hr8 hT k (i + 1) f _ (by omega) (by omega) (Sm_trans hS (Sm_I (by omega))) ?_
      have hp := Tb_put (g0 := i) (k0 := c) hB (by omega) (by omega)
      simp only [Nat.lt_irrefl, false_and, if_false, Nat.add_zero] at hp
      refine Tb_cong hp fun g k h1 h2 => ?_
      by_cases c1 : g = i
      · subst c1
        simp only [Nat.lt_irrefl, false_and, if_false, Nat.add_zero, true_and, Nat.lt_succ_self, hc]
      · have e2 : (g < i + 1) = (g < i) := propext (by omega)
        simp only [c1, false_and, if_false, Nat.add_zero, e2]
    unfold f_Sets_countCells_2
    rw [Sm_r hS (by omega), hr8, nnl_s (show 21 ∈ ydL by decide), Option.bind_some, e2, if_neg (by rw [i32_le (by omega) (by omega)]; omega), if_neg (by rw [show (11 : Int32) = i32 11 from rfl, i32_le (by omega) (by omega)]; omega)]
    cases hb : (b i).1 with
    | none =>
      rw [c_lies0 hS' hV (by omega) (fun z => z.2 hb), bnd0g]
      dsimp only
      rw [nmul_21]
      exact go 0 (by unfold cls; rw [hb])
    | some p =>
      have hp := eL_lt hV (l := p.1) (c := p.2) (show i < y_m y by omega) hb
      rw [c_lies1 hS' hV (by omega) (by rw [hb]; exact Option.some_ne_none _), bnd1g]
      dsimp only
      rw [rd_i32 (by omega) (by omega), Option.bind_some, a2, hb, nmul_21, show eC (some p) = i32 p.2 from rfl, nadd_1]
      exact go (p.2 + 1) (by unfold cls; rw [hb])
theorem all_fell {n : Nat} {b : Nat → B} (h : n ≤ fMany b n) {g : Nat} (hg : g < n) : (b g).1 = none := by
  cases hb : (b g).1 with
  | none => rfl
  | some p =>
    have := fMany_lt (b := b) (by rw [hb]; exact Option.some_ne_none _) hg
    omega
/-- to the year, or until all fell -/
theorem c_part55 {y : Yd} {ru : Option Nat} {φ : Option (List Int64 → Nat)} {T : Nat → Nat → Nat} {Y : Nat} {K : Int32 → mM → Option mM} {Q : mM → Prop} {j : Nat} {b0 : Nat → B} {M0 : mM} (hr8 : M0.2.2.2 269 8 = some 21) (hY : Y ≤ 99) (hT : ∀ g k, T g k < 2147483646) : ∀ (k yr f : Nat) (b : Nat → B) (M : mM), yr + k = Y → k < f → (∀ g, g < y_m y → itB y φ (y_m y) k yr b g = itB y φ (y_m y) Y 0 b0 g) → CQe y 21 ru φ (y_m y) yr b M → FrSt M0 M → Tb (y_m y) T M → (∀ M', (∀ p, p < 246 ∨ 269 ≤ p ∧ p < 271 ∨ 272 ≤ p ∧ p < 280 ∨ 290 ≤ p → M'.2.1 p = M0.2.1 p ∧ M'.2.2.2 p = M0.2.2.2 p) → Tb (y_m y) (fun g k => T g k + if k = cls (itB y φ (y_m y) Y 0 b0 g) then 1 else 0) M' → (∀ g, g < y_m y → cls (itB y φ (y_m y) Y 0 b0 g) < 21) → OK (K (i32 (j + 1)) M') Q) → OK (f_Sets_part_55 (i32 Y) K f (i32 j) (i32 yr) M) Q
  | _, _, 0, _, _, _, hf, _, _, _, _, _ => absurd hf (Nat.not_lt_zero _)
  | k, yr, f + 1, b, M, hy, hf, he, h, hS, hB, hk => by
    have hq := h.1.choose_spec.choose_spec
    have v3 := hq.1.2.2.1
    have hr8' : M.2.2.2 269 8 = some 21 := by rw [(hS 269 (by omega)).2]; exact hr8
    have fin : (∀ g, g < y_m y → b g = itB y φ (y_m y) Y 0 b0 g) → OK (f_Sets_part_88 (i32 Y) K (i32 j) M) Q := by
      intro hb
      unfold f_Sets_part_88 f_Sets_countCells
      refine OK_bind (c_cells2 h hr8' hT (y_m y) 0 FUEL M (Nat.zero_add _) (by rw [FUEL_eq]; omega) (Sm_refl _ _ _) (Tb_cong hB fun g k _ _ => by simp only [Nat.not_lt_zero, false_and, if_false, Nat.add_zero])) fun M1 h1 => ?_
      rw [nadd_1]
      refine hk M1 (fun p hp => ⟨?_, ?_⟩) (Tb_cong h1.2 fun g k h2 _ => by rw [hb g h2]) fun g hg => by rw [← hb g hg]; exact cls_lt hq.2.1.2.1 hg
      · rw [Sm_i h1.1 (by omega)]; exact (hS p (by omega)).1
      · rw [Sm_r h1.1 (by omega)]; exact (hS p (by omega)).2
    unfold f_Sets_part_55
    by_cases k0 : k = 0
    · subst k0
      rw [if_pos (by rw [i32_le (by omega) (by omega)]; omega)]
      exact fin fun g hg => he g hg
    · obtain ⟨k', hk'⟩ : ∃ k', k = k' + 1 := ⟨k - 1, by omega⟩
      subst hk'
      have e1 : M.2.1 247 1 = i32 (y_m y) := hq.2.1.1.2.1
      have e2 : M.2.1 247 2 = i32 (fMany b (y_m y)) := hq.2.1.1.2.2.1
      have hle := fMany_le (b := b) (n := y_m y)
      rw [if_neg (by rw [i32_le (by omega) (by omega)]; omega), e1, e2]
      by_cases cf : y_m y ≤ fMany b (y_m y)
      · rw [if_pos (by rw [i32_le (by omega) (by omega)]; exact cf)]
        exact fin fun g hg => by rw [← he g hg, itB_none _ _ _ (all_fell cf hg)]
      · rw [if_neg (by rw [i32_le (by omega) (by omega)]; exact cf)]
        refine OK_bind (CQe_year h (by omega)) fun M1 h1 => ?_
        have hS1 := FrSt_trans hS (FrSt_Sm (Sm_Y h1.2))
        rw [nadd_1]
        exact c_part55 hr8 hY hT k' (yr + 1) f _ M1 (by omega) (by omega) (fun g hg => he g hg) h1.1 hS1 (fun g k a1 a2 => by rw [Sm_i (Sm_Y h1.2) (by omega)]; exact hB g k a1 a2) hk
