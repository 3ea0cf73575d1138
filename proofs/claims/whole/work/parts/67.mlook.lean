/-! ===== look: the model ===== -/
def Tm (m : Nat) (T : Nat → Nat → Nat) (M : mM) : Prop := ∀ g c, g < m → c < 21 → M.2.1 452 (21 * g + c) = i32 (T g c)
theorem ccd_lt {L C n : Nat} {b : Nat → B} (hV : V L C n b) {g : Nat} (hg : g < n) : ccd (b g) < 21 := by
  unfold ccd
  cases h : (b g).1 with
  | none => simp only; omega
  | some p =>
    have := eL_lt hV (l := p.1) (c := p.2) hg h
    simp only
    omega
theorem m_cc66 {y : Yd} {φ : Option (List Int64 → Nat)} {yr j : Nat} {b : Nat → B} {T : Nat → Nat → Nat} {x : Int32} {K : Int32 → mM → Option mM} {Q : mM → Prop} {M0 : mM} (h : MYr (bar y) φ (y_m y) yr b false M0) (h4 : M0.2.1 446 4 = i32 (y_m y)) (hk : ∀ M', Sm 452 453 M0 M' → Tm (y_m y) (fun g c => T g c + if ccd (b g) = c then 1 else 0) M' → OK (K (i32 (j + 1)) M') Q) : ∀ (k i f : Nat) (M : mM), i + k = y_m y → k < f → Sm 452 453 M0 M → Tm (y_m y) (fun g c => T g c + if g < i ∧ ccd (b g) = c then 1 else 0) M → OK (f_Model_countsCells_66 x K f (i32 j) (i32 i) M) Q
  | _, _, 0, _, _, hf, _, _ => absurd hf (Nat.not_lt_zero _)
  | 0, i, f + 1, M, hi, hf, hS, hB => by
    have v3 := h.1.2.2.1
    have e4 : M.2.1 446 4 = i32 (y_m y) := by rw [Sm_i hS (by omega)]; exact h4
    have v3' : y_m y ≤ 10 := v3
    unfold f_Model_countsCells_66
    rw [rd_4 (by omega) (by omega), Option.bind_some, e4, if_pos (by rw [i32_le (by omega) (by omega)]; omega), nadd_1]
    refine hk M hS fun g c h1 h2 => ?_
    rw [hB g c h1 h2]
    have : g < i := by omega
    simp only [this, true_and]
  | k + 1, i, f + 1, M, hi, hf, hS, hB => by
    have v3 : y_m y ≤ 10 := h.1.2.2.1
    have hV := h.2.2.2.2.1
    have e4 : M.2.1 446 4 = i32 (y_m y) := by rw [Sm_i hS (by omega)]; exact h4
    have hM : MS (bar y) yr (y_m y) b (M.2.1 446) := by rw [Sm_i hS (by omega)]; exact h.2.2.2.1
    have a2 := (hM.2.2.2.2.2 i (by omega)).1.2.1
    have hlt := ccd_lt hV (show i < y_m y by omega)
    have go : ∀ c, c = ccd (b i) → OK (f_Model_countsCells_103 x K (f_Model_countsCells_66 x K f) (i32 j) (i32 i) (i32 (21 * i)) (i32 c) M) Q := by
      intro c hc
      have e0 : M.2.1 452 (21 * i + c) = i32 (T i c) := by
        have := hB i c (by omega) (by omega)
        rw [this]
        simp only [Nat.lt_irrefl, false_and, if_false, Nat.add_zero]
      unfold f_Model_countsCells_103
      rw [i32_add, rd_i32 (by omega) (by omega), Option.bind_some, wr_i32 (by omega) (by omega), Option.bind_some, e0, nadd_1, nadd_1]
      refine m_cc66 h h4 hk k (i + 1) f _ (by omega) (by omega) (Sm_trans hS (Sm_I (by omega))) fun g d h1 h2 => ?_
      by_cases q : g = i ∧ d = c
      · rw [q.1, q.2, gIe]
        simp only [Nat.lt_succ_self, true_and, hc, if_true]
      · rw [gIo (by omega), hB g d h1 h2]
        by_cases c1 : g = i
        · subst c1
          have : ¬ ccd (b g) = d := fun z => q ⟨rfl, by rw [hc, z]⟩
          simp only [Nat.lt_irrefl, false_and, if_false, Nat.add_zero, Nat.lt_succ_self, true_and, this]
        · have e2 : (g < i + 1) = (g < i) := propext (by omega)
          simp only [e2]
    unfold f_Model_countsCells_66
    rw [rd_4 (by omega) (by omega), Option.bind_some, e4, if_neg (by rw [i32_le (by omega) (by omega)]; omega), m_isFallen hM hV (by omega), Option.bind_some]
    dsimp only
    rw [nmul'_21]
    cases hb : (b i).1 with
    | none =>
      rw [decide_eq_true rfl, if_neg (show ¬ e01 true = 0 by decide)]
      exact go 20 (by unfold ccd; rw [hb])
    | some p =>
      rw [decide_eq_false (Option.some_ne_none _), if_pos e01_f, m_g1 (by omega), Option.bind_some, a2, hb]
      exact go p.2 (by unfold ccd; rw [hb])
theorem m_cc46 {g : Gx} {Y j : Nat} {T : Nat → Nat → Nat} {b0 : Nat → B} {K : Int32 → mM → Option mM} {Q : mM → Prop} {M0 Ms : mM} (hg : VG g) (hm : RMm g M0) (hY : Y ≤ 99) (hk : ∀ M', H5 M0 M' → FrL Ms M' → M'.2.1 436 26 = 0 → M'.2.1 451 = Ms.2.1 451 → M'.2.1 436 33 = Ms.2.1 436 33 → Tm (y_m g.1.1) (fun h c => T h c + if ccd (itB g.1.1 (phi g.1.2.2.2.1 g.2.2.1.2) (y_m g.1.1) Y 0 b0 h) = c then 1 else 0) M' → OK (K (i32 (j + 1)) M') Q) : ∀ (k yr f : Nat) (b : Nat → B) (M : mM), yr + k = Y → k < f → itB g.1.1 (phi g.1.2.2.2.1 g.2.2.1.2) (y_m g.1.1) k yr b = itB g.1.1 (phi g.1.2.2.2.1 g.2.2.1.2) (y_m g.1.1) Y 0 b0 → MYr (bar g.1.1) (phi g.1.2.2.2.1 g.2.2.1.2) (y_m g.1.1) yr b false M → H5 M0 M → FrL Ms M → Sc Ms M → Tm (y_m g.1.1) T M → OK (f_Model_countsCells_46 (i32 Y) K f (i32 j) M) Q
  | _, _, 0, _, _, _, hf, _, _, _, _, _, _ => absurd hf (Nat.not_lt_zero _)
  | 0, yr, f + 1, b, M, hy, hf, he, h, h5, hF, hc, hT => by
    have e3 : M.2.1 446 3 = i32 yr := h.2.2.2.1.2.2.2.1
    have v3 := hg.1.1.2.2.1
    unfold f_Model_countsCells_46
    rw [rd_3 (by omega) (by omega), Option.bind_some, e3, if_pos (by rw [i32_le (by omega) (by omega)]; omega)]
    have he' : b = itB g.1.1 (phi g.1.2.2.2.1 g.2.2.1.2) (y_m g.1.1) Y 0 b0 := he
    have h4 : M.2.1 446 4 = i32 (y_m g.1.1) := (h5.1 4 (by omega)).trans hm.1.1.2.2.2.1
    refine m_cc66 (T := T) h h4 (fun M' hS hT' => ?_) (y_m g.1.1) 0 FUEL M (Nat.zero_add _) (by rw [FUEL_eq]; omega) (Sm_refl _ _ _) (fun a c h1 h2 => by rw [hT a c h1 h2]; simp only [Nat.not_lt_zero, false_and, if_false, Nat.add_zero])
    rw [he'] at hT'
    refine hk M' (H5_trans h5 ⟨fun i hi => by rw [Sm_i hS (by omega)], fun i hi => by rw [Sm_i hS (by omega)]⟩) (FrL_trans hF ⟨fun p hp => Sm_r hS (by omega), fun p a b1 c1 d1 e1 f1 => Sm_i hS (by omega), fun i hi => by rw [Sm_i hS (by omega)], fun i hi => by rw [Sm_i hS (by omega)]⟩) (by rw [Sm_i hS (by omega)]; exact h.2.2.2.2.2.1.2) (by rw [Sm_i hS (by omega)]; exact hc.1) (by rw [Sm_i hS (by omega)]; exact hc.2.2) hT'
  | k + 1, yr, f + 1, b, M, hy, hf, he, h, h5, hF, hc, hT => by
    have e3 : M.2.1 446 3 = i32 yr := h.2.2.2.1.2.2.2.1
    unfold f_Model_countsCells_46
    rw [rd_3 (by omega) (by omega), Option.bind_some, e3, if_neg (by rw [i32_le (by omega) (by omega)]; omega)]
    refine OK_bind (MYr_year h (by omega)) fun z1 h1 => ?_
    rw [Bool.false_or] at h1
    have hM := h1.2.1
    rw [yB_bar, show flo (bar g.1.1) yr = flo g.1.1 yr from rfl] at hM
    have hsc := Sc_P h1.2.2.1
    exact m_cc46 hg hm hY hk k (yr + 1) f _ z1.2 (by omega) (by omega) he hM (H5_trans h5 (H5_P h1.2.2.1)) (FrL_trans hF (FrL_P h1.2.2.1)) (Sc_trans hc hsc) fun a c h1 h2 => by rw [hsc.2.1]; exact hT a c h1 h2
theorem m_cc28 {g : Gx} {Y : Nat} {F : List Nat} {M0 M1 : mM} (hg : VG g) (hm : RMm g M0) (hL : 0 < y_L g.1.1) (hK : Kp M0 M1) (hY : Y ≤ 99) (hl : F.length ≤ 1024) : ∀ (k j f : Nat) (M : mM), j + k = F.length → k < f → H5 M0 M → FrL M1 M → M.2.1 436 26 = 0 → M.2.1 436 33 = i32 F.length → FdR 451 0 F M → Tm (y_m g.1.1) (cnt g.1.1 (phi g.1.2.2.2.1 g.2.2.1.2) Y (tk F j)) M → OK (f_Model_countsCells_28 (i32 Y) f (i32 j) M) fun M' => FrB M0 M' ∧ M'.2.1 436 26 = 0 ∧ Tm (y_m g.1.1) (cnt g.1.1 (phi g.1.2.2.2.1 g.2.2.1.2) Y F) M'
  | _, _, 0, _, _, hf, _, _, _, _, _, _ => absurd hf (Nat.not_lt_zero _)
  | 0, j, f + 1, M, hj, hf, h5, hF, h26, h33, hR, hT => by
    unfold f_Model_countsCells_28
    rw [h33, if_pos (by rw [i32_le (by omega) (by omega)]; omega)]
    have hj' : j = F.length := by omega
    rw [hj', tk_all] at hT
    exact OK_bind (m_lay hK hF) fun M3 h3 => OK_some ⟨h3.1, by rw [h3.2.1]; exact h26, fun a c h1 h2 => by rw [Sm_i h3.2.2.2.2.2 (by omega)]; exact hT a c h1 h2⟩
  | k + 1, j, f + 1, M, hj, hf, h5, hF, h26, h33, hR, hT => by
    unfold f_Model_countsCells_28
    rw [h33, if_neg (by rw [i32_le (by omega) (by omega)]; omega), rd_i32 (by omega) (by omega), Option.bind_some, hR j (by omega)]
    refine OK_bind (m_beginsBy (s := i32 (F.getD j 0)) hg hm hL h5 (fun p hp => ?_) ?_ h26) fun M2 h2 => ?_
    · rw [hF.2.1 p (by omega) (by omega) (by omega) (by omega) (by omega) (by omega), Sm_i hK.1 (by omega)]
    · rw [hF.2.2.1 21 (by omega), Sm_i hK.1 (by omega)]
    · obtain ⟨b1, b2, b3⟩ := h2
      have hF2 : FrL M1 M2 := FrL_trans hF (FrL_S b1 fun i hi => (b2.2 i hi).trans (h5.2 i hi).symm)
      refine m_cc46 (T := cnt g.1.1 (phi g.1.2.2.2.1 g.2.2.1.2) Y (tk F j)) (Ms := M) hg hm hY (fun M' a1 a2 a3 a4 a5 a6 => ?_) Y 0 FUEL _ M2 (Nat.zero_add _) (by rw [FUEL_eq]; omega) rfl b3 b2 (FrL_S b1 fun i hi => (b2.2 i hi).trans (h5.2 i hi).symm) (Sc_S b1) fun a c h1 h2 => by rw [Sm_i b1 (by omega)]; exact hT a c h1 h2
      refine m_cc28 hg hm hL hK hY hl k (j + 1) f M' (by omega) (by omega) a1 (FrL_trans hF a2) a3 (a5.trans h33) (fun i hi => by rw [a4]; exact hR i hi) fun a c h1 h2 => ?_
      rw [a6 a c h1 h2, tk, cnt_add]
theorem m_zero210 {M0 : mM} {x : Int32} {Q : mM → Prop} (hk : ∀ M', Sm 452 453 M0 M' → (∀ j, j < 210 → M'.2.1 452 j = 0) → OK ((f_Model_keeps M').bind fun M2 => f_Model_countsCells_28 x FUEL 0 M2) Q) : ∀ (k i f : Nat) (M : mM), i + k = 210 → k < f → Sm 452 453 M0 M → (∀ j, j < i → M.2.1 452 j = 0) → OK (f_Model_countsCells_2 x f (i32 i) M) Q
  | _, _, 0, _, _, hf, _, _ => absurd hf (Nat.not_lt_zero _)
  | 0, i, f + 1, M, hi, hf, hS, h => by
    unfold f_Model_countsCells_2
    rw [if_pos (by rw [show (210 : Int32) = i32 210 from rfl, i32_le (by omega) (by omega)]; omega)]
    exact hk M hS fun j hj => h j (by omega)
  | k + 1, i, f + 1, M, hi, hf, hS, h => by
    unfold f_Model_countsCells_2
    rw [if_neg (by rw [show (210 : Int32) = i32 210 from rfl, i32_le (by omega) (by omega)]; omega), wr_i32 (by omega) (by omega), Option.bind_some, nadd_1]
    refine m_zero210 hk k (i + 1) f _ (by omega) (by omega) (Sm_trans hS (Sm_I (by omega))) fun j hj => ?_
    by_cases c : j = i
    · subst c; exact gIe _ _ _ _
    · rw [gIo c]; exact h j (by omega)
theorem m_countsCells {g : Gx} {Y : Nat} {F : List Nat} {M0 M : mM} (hg : VG g) (hm0 : RMm g M0) (hB : FrB M0 M) (h26 : M.2.1 436 26 = 0) (hL : 0 < y_L g.1.1) (hY : Y ≤ 99) (hl : F.length ≤ 1024) (h33 : M.2.1 436 33 = i32 F.length) (hR : FdR 451 0 F M) : OK (f_Model_countsCells (i32 Y) M) fun M' => FrB M0 M' ∧ M'.2.1 436 26 = 0 ∧ Tm (y_m g.1.1) (cnt g.1.1 (phi g.1.2.2.2.1 g.2.2.1.2) Y F) M' := by
  have v3 := hg.1.1.2.2.1
  have hm : RMm g M := RMm_N hm0 (FrN_B hB (h26.trans hm0.2.2.2.1.symm))
  unfold f_Model_countsCells
  refine m_zero210 (M0 := M) (fun M1 hS hz => ?_) 210 0 FUEL M (Nat.zero_add _) (by rw [FUEL_eq]; omega) (Sm_refl _ _ _) fun j hj => absurd hj (Nat.not_lt_zero _)
  have hm1 : RMm g M1 := RMm_N hm ⟨fun p hp => Sm_r hS (by omega), fun p hp => Sm_i hS (by omega), fun i hi => by rw [Sm_i hS (by omega)]⟩
  refine OK_bind (m_keeps M1) fun M2 h2 => ?_
  obtain ⟨k1, k2, k3⟩ := h2
  have key := m_cc28 (F := F) hg hm1 hL ⟨k1, k2⟩ hY hl F.length 0 FUEL M2 (Nat.zero_add _) (by rw [FUEL_eq]; omega) ⟨fun i hi => by rw [Sm_i k1 (by omega)], fun i hi => by rw [Sm_i k1 (by omega)]⟩ (FrL_refl _) (by rw [Sm_i k1 (by omega)]; exact hm1.2.2.2.1) (by rw [Sm_i k1 (by omega), Sm_i hS (by omega)]; exact h33) (fun i hi => by rw [Sm_i k1 (by omega), Sm_i hS (by omega)]; exact hR i hi) (fun a c h1 h2 => by rw [Sm_i k1 (by omega), hz _ (by omega)]; rfl)
  refine OK_imp key fun M' h' => ⟨?_, h'.2⟩
  obtain ⟨q1, q2, q3⟩ := h'.1
  refine ⟨fun p a b c d e f => ?_, fun i hi => ?_, fun p hp => ?_⟩
  · rw [q1 p a b c d e f, Sm_i hS (by omega)]; exact hB.1 p a b c d e f
  · rw [q2 i hi, Sm_i hS (by omega)]; exact hB.2.1 i hi
  · rw [q3 p hp, Sm_r hS (by omega)]; exact hB.2.2 p hp
theorem m_look77 {m : Nat} {T : Nat → Nat → Nat} {M : mM} {x1 x2 l3 l4 : Int32} {K : Int32 → Int32 → Int32 → mM → Option (Int32 × mM)} (hB : Tm m T M) (hm : m ≤ 10) (hT : ∀ g c, T g c ≤ 1024) {g : Nat} (hg : g < m) : ∀ (k i f : Nat), i + k = 21 → k < f → f_Model_look_77 x1 x2 K f l3 l4 (i32 g) (i32 (mstF (T g) i)) (i32 i) M = (if l3 < 0 then K (i32 g) (i32 (mstF (T g) 21)) (i32 (g + 1)) M else if i32 (mstF (T g) 21) < l4 then K (i32 g) (i32 (mstF (T g) 21)) (i32 (g + 1)) M else K l3 l4 (i32 (g + 1)) M)
  | _, _, 0, _, hf => absurd hf (Nat.not_lt_zero _)
  | 0, i, f + 1, hi, hf => by
    unfold f_Model_look_77 f_Model_look_142 f_Model_look_149
    rw [if_pos (by rw [show (20 : Int32) = i32 20 from rfl, i32_lt (by omega) (by omega)]; omega), show i = 21 by omega, nadd_1]
  | k + 1, i, f + 1, hi, hf => by
    have h1 : mstF (T g) i ≤ 1024 := mstF_le _ _ i fun j _ => hT g j
    have h2 := hT g i
    have ih := m_look77 (x1 := x1) (x2 := x2) (l3 := l3) (l4 := l4) (K := K) hB hm hT hg k (i + 1) f (by omega) (by omega)
    rw [mstF] at ih
    unfold f_Model_look_77 f_Model_look_120
    rw [if_neg (by rw [show (20 : Int32) = i32 20 from rfl, i32_lt (by omega) (by omega)]; omega), nmul'_21, i32_add, rd_i32 (by omega) (by omega), Option.bind_some, hB g i hg (by omega), nadd_1]
    by_cases c : mstF (T g) i < T g i
    · rw [if_neg (by rw [i32_le (by omega) (by omega)]; omega), Option.bind_some]
      rw [if_pos c] at ih
      exact ih
    · rw [if_pos (by rw [i32_le (by omega) (by omega)]; omega)]
      rw [if_neg c] at ih
      exact ih
theorem m_look60 {y : Yd} {T : Nat → Nat → Nat} {M : mM} {x1 : Int32} {w : Nat} (hv : VY y) (h4 : M.2.1 446 4 = i32 (y_m y)) (hB : Tm (y_m y) T M) (hT : ∀ g c, T g c ≤ 1024) (hw : w ≤ 1) : ∀ (k i f : Nat) (l3 l4 : Int32), i + k = y_m y → k < f → (i = 0 → l3 = -2 ∧ l4 = -2) → (0 < i → l3 = i32 (bstF (fun g => mstF (T g) 21) (i - 1)).1 ∧ l4 = i32 (bstF (fun g => mstF (T g) 21) (i - 1)).2) → f_Model_look_60 x1 (i32 w) f l3 l4 (i32 i) M = some (if y_m y = 0 then -2 else if w = 0 then i32 (bstF (fun g => mstF (T g) 21) (y_m y - 1)).1 else i32 (bstF (fun g => mstF (T g) 21) (y_m y - 1)).2, M)
  | _, _, 0, _, _, _, hf, _, _ => absurd hf (Nat.not_lt_zero _)
  | 0, i, f + 1, l3, l4, hi, hf, h0, h1 => by
    have v3 := hv.2.2.1
    unfold f_Model_look_60
    rw [rd_4 (by omega) (by omega), Option.bind_some, h4, if_pos (by rw [i32_le (by omega) (by omega)]; omega)]
    have hi' : i = y_m y := by omega
    rw [hi'] at h0 h1
    by_cases m0 : y_m y = 0
    · obtain ⟨e3, e4⟩ := h0 m0
      rw [if_pos m0, e3, e4, ite_self]
    · obtain ⟨e3, e4⟩ := h1 (by omega)
      rw [if_neg m0, e3, e4]
      by_cases w0 : w = 0
      · rw [if_pos (show i32 w = 0 by rw [w0]; rfl), if_pos w0]
      · rw [if_neg (show ¬ i32 w = 0 from fun z => w0 ((neq_0 (by omega)).mp z)), if_neg w0]
  | k + 1, i, f + 1, l3, l4, hi, hf, h0, h1 => by
    have v3 := hv.2.2.1
    have hm1 : ∀ g, mstF (T g) 21 ≤ 1024 := fun g => mstF_le _ _ 21 fun j _ => hT g j
    have hbl := bstF_le (fun g => mstF (T g) 21) 1024 hm1
    unfold f_Model_look_60
    rw [rd_4 (by omega) (by omega), Option.bind_some, h4, if_neg (by rw [i32_le (by omega) (by omega)]; omega)]
    rw [show f_Model_look_77 x1 (i32 w) (f_Model_look_60 x1 (i32 w) f) FUEL l3 l4 (i32 i) 0 0 M = _ from m_look77 hB v3 hT (show i < y_m y by omega) 21 0 FUEL (by omega) (by rw [FUEL_eq]; omega)]
    by_cases i0 : i = 0
    · rw [if_pos (by rw [(h0 i0).1]; decide)]
      refine m_look60 hv h4 hB hT hw k (i + 1) f _ _ (by omega) (by omega) (fun z => by omega) fun _ => ?_
      rw [i0]
      exact ⟨rfl, rfl⟩
    · obtain ⟨b1, b2⟩ := h1 (by omega)
      have hb := hbl (i - 1)
      have hmi := hm1 i
      rw [if_neg (by rw [b1]; exact fun z => (i32_neg (by omega)).mp z), b2]
      obtain ⟨i', hi'⟩ : ∃ i', i = i' + 1 := ⟨i - 1, by omega⟩
      subst hi'
      rw [Nat.add_sub_cancel] at hb b1 b2 ⊢
      by_cases c : mstF (T (i' + 1)) 21 < (bstF (fun g => mstF (T g) 21) i').2
      · rw [if_pos (by rw [i32_lt (by omega) (by omega)]; exact c)]
        refine m_look60 hv h4 hB hT hw k (i' + 1 + 1) f _ _ (by omega) (by omega) (fun z => by omega) fun _ => ?_
        rw [Nat.add_sub_cancel, bstF, if_pos c]
        exact ⟨rfl, rfl⟩
      · rw [if_neg (by rw [i32_lt (by omega) (by omega)]; exact c)]
        refine m_look60 hv h4 hB hT hw k (i' + 1 + 1) f _ _ (by omega) (by omega) (fun z => by omega) fun _ => ?_
        rw [Nat.add_sub_cancel, bstF, if_neg c]
        exact ⟨b1, rfl⟩
