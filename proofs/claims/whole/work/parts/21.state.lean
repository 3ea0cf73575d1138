/-! ===== graves, as data ===== -/
/-- a grave: place (lane, cell), kind, held, fell in, dug in, rounds -/
abbrev B : Type := Option (Nat × Nat) × Nat × Nat × Int32 × Int32 × Int32
def eL : Option (Nat × Nat) → Int32
  | none => -1
  | some p => i32 p.1
def eC : Option (Nat × Nat) → Int32
  | none => -1
  | some p => i32 p.2
def eG : Option Nat → Int32
  | none => -1
  | some g => i32 g
/-- one row of the class's table at S -/
def CB (S g : Nat) (b : B) (M : mM) : Prop := M.2.1 (S + 1) g = eL b.1 ∧ M.2.1 (S + 2) g = eC b.1 ∧ M.2.1 (S + 3) g = i32 b.2.1 ∧ M.2.1 (S + 4) g = i32 b.2.2.1 ∧ M.2.1 (S + 5) g = b.2.2.2.1 ∧ M.2.1 (S + 6) g = b.2.2.2.2.1 ∧ M.2.1 (S + 7) g = b.2.2.2.2.2
def fMany (b : Nat → B) : Nat → Nat
  | 0 => 0
  | k + 1 => fMany b k + (if (b k).1 = none then 1 else 0)
/-- the class's state at S -/
def CS (S y n : Nat) (b : Nat → B) (M : mM) : Prop := M.2.1 S 0 = i32 y ∧ M.2.1 S 1 = i32 n ∧ M.2.1 S 2 = i32 (fMany b n) ∧ n ≤ 11 ∧ ∀ g, g < n → CB S g (b g) M
/-- places, kinds and roots' years in their bounds; no two in one place -/
def V (L C n : Nat) (b : Nat → B) : Prop := L ≤ 4 ∧ C ≤ 20 ∧ n ≤ 11 ∧ (∀ g, g < n → (∀ l c, (b g).1 = some (l, c) → l < L ∧ c < C) ∧ (b g).2.1 ≤ 3 ∧ (b g).2.2.1 ≤ 9 ∧ ((b g).2.1 = 3 → (b g).2.2.1 = 0)) ∧ ∀ g h p, g < n → h < n → (b g).1 = some p → (b h).1 = some p → g = h
def gAt (b : Nat → B) (l c : Nat) : Nat → Nat → Option Nat
  | 0, _ => none
  | k + 1, i => if (b i).1 = some (l, c) then some i else gAt b l c k (i + 1)
/-- who lies in a place -/
def grv (n : Nat) (b : Nat → B) (l c : Nat) : Option Nat := gAt b l c n 0
theorem gAt_some {b : Nat → B} {l c : Nat} : ∀ {k i g : Nat}, gAt b l c k i = some g → i ≤ g ∧ g < i + k ∧ (b g).1 = some (l, c)
  | 0, i, g, h => by cases h
  | k + 1, i, g, h => by
    unfold gAt at h
    split at h
    · cases h
      exact ⟨Nat.le_refl _, by omega, by assumption⟩
    · obtain ⟨h1, h2, h3⟩ := gAt_some h
      exact ⟨by omega, by omega, h3⟩
theorem gAt_none {b : Nat → B} {l c : Nat} : ∀ {k i : Nat}, gAt b l c k i = none → ∀ g, i ≤ g → g < i + k → (b g).1 ≠ some (l, c)
  | 0, i, h => fun g h1 h2 => by omega
  | k + 1, i, h => fun g h1 h2 => by
    unfold gAt at h
    split at h
    · cases h
    · rename_i h3
      by_cases hg : g = i
      · subst hg; exact h3
      · exact gAt_none h g (by omega) (by omega)
theorem grv_some {n : Nat} {b : Nat → B} {l c g : Nat} (h : grv n b l c = some g) : g < n ∧ (b g).1 = some (l, c) := by
  obtain ⟨h1, h2, h3⟩ := gAt_some h
  exact ⟨by omega, h3⟩
theorem grv_none {n : Nat} {b : Nat → B} {l c g : Nat} (h : grv n b l c = none) (hg : g < n) : (b g).1 ≠ some (l, c) := gAt_none h g (by omega) (by omega)
theorem grv_of {L C n : Nat} {b : Nat → B} (hV : V L C n b) {l c g : Nat} (hg : g < n) (h : (b g).1 = some (l, c)) : grv n b l c = some g := by
  cases h1 : grv n b l c with
  | none => exact absurd h (grv_none h1 hg)
  | some g' =>
    obtain ⟨h2, h3⟩ := grv_some h1
    rw [hV.2.2.2.2 g' g _ h2 hg h3 h]
theorem eL_lt {L C n : Nat} {b : Nat → B} (hV : V L C n b) {g l c : Nat} (hg : g < n) (h : (b g).1 = some (l, c)) : l < 4 ∧ c < 20 := by
  have h1 := (hV.2.2.2.1 g hg).1 l c h
  have h2 := hV.1
  have h3 := hV.2.1
  omega
/-! the class's readers -/
theorem c_has {S y n : Nat} {b : Nat → B} {M : mM} (h : CS S y n b M) {g : Nat} (hg : g < 2147483648) : f_State_has S (i32 g) M = some (if g < n then 1 else 0, M) := by
  obtain ⟨h0, h1, h2, h3, h4⟩ := h
  unfold f_State_has
  simp (disch := omega) only [i32_lt, i32_le, i32_eq, i32_add, i32_mul, i32_neg, i32_nn, i32_ne1, i32_n1e, n1_lt_i32, i32_le_n1, i32_dec, i32_cl, rd_i32, ix_i32, wr_i32, pI_s, pR_s, pC_s, pZ_0, pZ_1, Option.bind_some, ite_true, ite_false, if_true, if_false, gIL, gRI, nlt_0, l0_lt, nle_0, l0_le, neq_0, nadd_0, nmul_0, nmul'_0, nadd'_0, nsub_0, nlt_1, l1_lt, nle_1, l1_le, neq_1, nadd_1, nmul_1, nmul'_1, nadd'_1, nsub_1, nlt_2, l2_lt, nle_2, l2_le, neq_2, nadd_2, nmul_2, nmul'_2, nadd'_2, nsub_2, nlt_3, l3_lt, nle_3, l3_le, neq_3, nadd_3, nmul_3, nmul'_3, nadd'_3, nsub_3, nlt_4, l4_lt, nle_4, l4_le, neq_4, nadd_4, nmul_4, nmul'_4, nadd'_4, nsub_4, nlt_5, l5_lt, nle_5, l5_le, neq_5, nadd_5, nmul_5, nmul'_5, nadd'_5, nsub_5, nlt_6, l6_lt, nle_6, l6_le, neq_6, nadd_6, nmul_6, nmul'_6, nadd'_6, nsub_6, nlt_7, l7_lt, nle_7, l7_le, neq_7, nadd_7, nmul_7, nmul'_7, nadd'_7, nsub_7, nlt_8, l8_lt, nle_8, l8_le, neq_8, nadd_8, nmul_8, nmul'_8, nadd'_8, nsub_8, nlt_9, l9_lt, nle_9, l9_le, neq_9, nadd_9, nmul_9, nmul'_9, nadd'_9, nsub_9, nlt_10, l10_lt, nle_10, l10_le, neq_10, nadd_10, nmul_10, nmul'_10, nadd'_10, nsub_10, nlt_11, l11_lt, nle_11, l11_le, neq_11, nadd_11, nmul_11, nmul'_11, nadd'_11, nsub_11, nlt_12, l12_lt, nle_12, l12_le, neq_12, nadd_12, nmul_12, nmul'_12, nadd'_12, nsub_12, nlt_13, l13_lt, nle_13, l13_le, neq_13, nadd_13, nmul_13, nmul'_13, nadd'_13, nsub_13, nlt_20, l20_lt, nle_20, l20_le, neq_20, nadd_20, nmul_20, nmul'_20, nadd'_20, nsub_20, nlt_400, l400_lt, nle_400, l400_le, neq_400, nadd_400, nmul_400, nmul'_400, nadd'_400, nsub_400, rd_0, wr_0, rd_1, wr_1, rd_2, wr_2, rd_3, wr_3, rd_4, wr_4, rd_5, wr_5, rd_6, wr_6, rd_7, wr_7, rd_8, wr_8, rd_9, wr_9, rd_10, wr_10, rd_11, wr_11, rd_12, wr_12, h1]
  by_cases c1 : n ≤ g
  · rw [if_pos c1, if_neg (by omega)]
  · rw [if_neg c1, if_neg (by omega), if_pos (by omega)]
theorem c_hasN {S : Nat} {M : mM} {x : Int32} (hx : x < 0) : f_State_has S x M = some (0, M) := by
  unfold f_State_has
  rw [if_pos hx]
theorem c_lies {S y n : Nat} {b : Nat → B} {M : mM} {L C : Nat} (h : CS S y n b M) (hV : V L C n b) {g : Nat} (hg : g < 2147483648) : f_State_lies S (i32 g) M = some (if g < n ∧ (b g).1 ≠ none then 1 else 0, M) := by
  obtain ⟨h0, h1, h2, h3, h4⟩ := h
  unfold f_State_lies
  simp (disch := omega) only [i32_lt, i32_le, i32_eq, i32_add, i32_mul, i32_neg, i32_nn, i32_ne1, i32_n1e, n1_lt_i32, i32_le_n1, i32_dec, i32_cl, rd_i32, ix_i32, wr_i32, pI_s, pR_s, pC_s, pZ_0, pZ_1, Option.bind_some, ite_true, ite_false, if_true, if_false, gIL, gRI, nlt_0, l0_lt, nle_0, l0_le, neq_0, nadd_0, nmul_0, nmul'_0, nadd'_0, nsub_0, nlt_1, l1_lt, nle_1, l1_le, neq_1, nadd_1, nmul_1, nmul'_1, nadd'_1, nsub_1, nlt_2, l2_lt, nle_2, l2_le, neq_2, nadd_2, nmul_2, nmul'_2, nadd'_2, nsub_2, nlt_3, l3_lt, nle_3, l3_le, neq_3, nadd_3, nmul_3, nmul'_3, nadd'_3, nsub_3, nlt_4, l4_lt, nle_4, l4_le, neq_4, nadd_4, nmul_4, nmul'_4, nadd'_4, nsub_4, nlt_5, l5_lt, nle_5, l5_le, neq_5, nadd_5, nmul_5, nmul'_5, nadd'_5, nsub_5, nlt_6, l6_lt, nle_6, l6_le, neq_6, nadd_6, nmul_6, nmul'_6, nadd'_6, nsub_6, nlt_7, l7_lt, nle_7, l7_le, neq_7, nadd_7, nmul_7, nmul'_7, nadd'_7, nsub_7, nlt_8, l8_lt, nle_8, l8_le, neq_8, nadd_8, nmul_8, nmul'_8, nadd'_8, nsub_8, nlt_9, l9_lt, nle_9, l9_le, neq_9, nadd_9, nmul_9, nmul'_9, nadd'_9, nsub_9, nlt_10, l10_lt, nle_10, l10_le, neq_10, nadd_10, nmul_10, nmul'_10, nadd'_10, nsub_10, nlt_11, l11_lt, nle_11, l11_le, neq_11, nadd_11, nmul_11, nmul'_11, nadd'_11, nsub_11, nlt_12, l12_lt, nle_12, l12_le, neq_12, nadd_12, nmul_12, nmul'_12, nadd'_12, nsub_12, nlt_13, l13_lt, nle_13, l13_le, neq_13, nadd_13, nmul_13, nmul'_13, nadd'_13, nsub_13, nlt_20, l20_lt, nle_20, l20_le, neq_20, nadd_20, nmul_20, nmul'_20, nadd'_20, nsub_20, nlt_400, l400_lt, nle_400, l400_le, neq_400, nadd_400, nmul_400, nmul'_400, nadd'_400, nsub_400, rd_0, wr_0, rd_1, wr_1, rd_2, wr_2, rd_3, wr_3, rd_4, wr_4, rd_5, wr_5, rd_6, wr_6, rd_7, wr_7, rd_8, wr_8, rd_9, wr_9, rd_10, wr_10, rd_11, wr_11, rd_12, wr_12, h1]
  by_cases c1 : n ≤ g
  · rw [if_pos c1, if_neg (by omega)]
  · rw [if_neg c1, if_neg (by omega)]
    simp (disch := omega) only [i32_lt, i32_le, i32_eq, i32_add, i32_mul, i32_neg, i32_nn, i32_ne1, i32_n1e, n1_lt_i32, i32_le_n1, i32_dec, i32_cl, rd_i32, ix_i32, wr_i32, pI_s, pR_s, pC_s, pZ_0, pZ_1, Option.bind_some, ite_true, ite_false, if_true, if_false, gIL, gRI, nlt_0, l0_lt, nle_0, l0_le, neq_0, nadd_0, nmul_0, nmul'_0, nadd'_0, nsub_0, nlt_1, l1_lt, nle_1, l1_le, neq_1, nadd_1, nmul_1, nmul'_1, nadd'_1, nsub_1, nlt_2, l2_lt, nle_2, l2_le, neq_2, nadd_2, nmul_2, nmul'_2, nadd'_2, nsub_2, nlt_3, l3_lt, nle_3, l3_le, neq_3, nadd_3, nmul_3, nmul'_3, nadd'_3, nsub_3, nlt_4, l4_lt, nle_4, l4_le, neq_4, nadd_4, nmul_4, nmul'_4, nadd'_4, nsub_4, nlt_5, l5_lt, nle_5, l5_le, neq_5, nadd_5, nmul_5, nmul'_5, nadd'_5, nsub_5, nlt_6, l6_lt, nle_6, l6_le, neq_6, nadd_6, nmul_6, nmul'_6, nadd'_6, nsub_6, nlt_7, l7_lt, nle_7, l7_le, neq_7, nadd_7, nmul_7, nmul'_7, nadd'_7, nsub_7, nlt_8, l8_lt, nle_8, l8_le, neq_8, nadd_8, nmul_8, nmul'_8, nadd'_8, nsub_8, nlt_9, l9_lt, nle_9, l9_le, neq_9, nadd_9, nmul_9, nmul'_9, nadd'_9, nsub_9, nlt_10, l10_lt, nle_10, l10_le, neq_10, nadd_10, nmul_10, nmul'_10, nadd'_10, nsub_10, nlt_11, l11_lt, nle_11, l11_le, neq_11, nadd_11, nmul_11, nmul'_11, nadd'_11, nsub_11, nlt_12, l12_lt, nle_12, l12_le, neq_12, nadd_12, nmul_12, nmul'_12, nadd'_12, nsub_12, nlt_13, l13_lt, nle_13, l13_le, neq_13, nadd_13, nmul_13, nmul'_13, nadd'_13, nsub_13, nlt_20, l20_lt, nle_20, l20_le, neq_20, nadd_20, nmul_20, nmul'_20, nadd'_20, nsub_20, nlt_400, l400_lt, nle_400, l400_le, neq_400, nadd_400, nmul_400, nmul'_400, nadd'_400, nsub_400, rd_0, wr_0, rd_1, wr_1, rd_2, wr_2, rd_3, wr_3, rd_4, wr_4, rd_5, wr_5, rd_6, wr_6, rd_7, wr_7, rd_8, wr_8, rd_9, wr_9, rd_10, wr_10, rd_11, wr_11, rd_12, wr_12, (h4 g (by omega)).2.1]
    cases h5 : (b g).1 with
    | none => simp only [eC, if_true, ne_eq, not_true_eq_false, and_false, if_false]
    | some p =>
      have h6 := eL_lt hV (l := p.1) (c := p.2) (by omega) h5
      simp (disch := omega) only [eC, i32_lt, i32_le, i32_eq, i32_add, i32_mul, i32_neg, i32_nn, i32_ne1, i32_n1e, n1_lt_i32, i32_le_n1, i32_dec, i32_cl, rd_i32, ix_i32, wr_i32, pI_s, pR_s, pC_s, pZ_0, pZ_1, Option.bind_some, ite_true, ite_false, if_true, if_false, gIL, gRI, nlt_0, l0_lt, nle_0, l0_le, neq_0, nadd_0, nmul_0, nmul'_0, nadd'_0, nsub_0, nlt_1, l1_lt, nle_1, l1_le, neq_1, nadd_1, nmul_1, nmul'_1, nadd'_1, nsub_1, nlt_2, l2_lt, nle_2, l2_le, neq_2, nadd_2, nmul_2, nmul'_2, nadd'_2, nsub_2, nlt_3, l3_lt, nle_3, l3_le, neq_3, nadd_3, nmul_3, nmul'_3, nadd'_3, nsub_3, nlt_4, l4_lt, nle_4, l4_le, neq_4, nadd_4, nmul_4, nmul'_4, nadd'_4, nsub_4, nlt_5, l5_lt, nle_5, l5_le, neq_5, nadd_5, nmul_5, nmul'_5, nadd'_5, nsub_5, nlt_6, l6_lt, nle_6, l6_le, neq_6, nadd_6, nmul_6, nmul'_6, nadd'_6, nsub_6, nlt_7, l7_lt, nle_7, l7_le, neq_7, nadd_7, nmul_7, nmul'_7, nadd'_7, nsub_7, nlt_8, l8_lt, nle_8, l8_le, neq_8, nadd_8, nmul_8, nmul'_8, nadd'_8, nsub_8, nlt_9, l9_lt, nle_9, l9_le, neq_9, nadd_9, nmul_9, nmul'_9, nadd'_9, nsub_9, nlt_10, l10_lt, nle_10, l10_le, neq_10, nadd_10, nmul_10, nmul'_10, nadd'_10, nsub_10, nlt_11, l11_lt, nle_11, l11_le, neq_11, nadd_11, nmul_11, nmul'_11, nadd'_11, nsub_11, nlt_12, l12_lt, nle_12, l12_le, neq_12, nadd_12, nmul_12, nmul'_12, nadd'_12, nsub_12, nlt_13, l13_lt, nle_13, l13_le, neq_13, nadd_13, nmul_13, nmul'_13, nadd'_13, nsub_13, nlt_20, l20_lt, nle_20, l20_le, neq_20, nadd_20, nmul_20, nmul'_20, nadd'_20, nsub_20, nlt_400, l400_lt, nle_400, l400_le, neq_400, nadd_400, nmul_400, nmul'_400, nadd'_400, nsub_400, rd_0, wr_0, rd_1, wr_1, rd_2, wr_2, rd_3, wr_3, rd_4, wr_4, rd_5, wr_5, rd_6, wr_6, rd_7, wr_7, rd_8, wr_8, rd_9, wr_9, rd_10, wr_10, rd_11, wr_11, rd_12, wr_12]
      rw [if_pos ⟨by omega, by simp⟩]
theorem c_liesN {S : Nat} {M : mM} {x : Int32} (hx : x < 0) : f_State_lies S x M = some (0, M) := by
  unfold f_State_lies
  rw [if_pos hx]
theorem c_gAt {S y n : Nat} {b : Nat → B} {M : mM} {L C : Nat} (h : CS S y n b M) (hV : V L C n b) {l c : Nat} (hl : l < 2147483648) (hc : c < 2147483648) : ∀ (k i f : Nat), i + k = n → k < f → f_State_graveAt_8 S (i32 l) (i32 c) f (i32 i) M = some (eG (gAt b l c k i), M)
  | _, _, 0, _, hf => absurd hf (Nat.not_lt_zero _)
  | 0, i, f + 1, hi, hf => by
    obtain ⟨h0, h1, h2, h3, h4⟩ := h
    unfold f_State_graveAt_8
    simp (disch := omega) only [i32_lt, i32_le, i32_eq, i32_add, i32_mul, i32_neg, i32_nn, i32_ne1, i32_n1e, n1_lt_i32, i32_le_n1, i32_dec, i32_cl, rd_i32, ix_i32, wr_i32, pI_s, pR_s, pC_s, pZ_0, pZ_1, Option.bind_some, ite_true, ite_false, if_true, if_false, gIL, gRI, nlt_0, l0_lt, nle_0, l0_le, neq_0, nadd_0, nmul_0, nmul'_0, nadd'_0, nsub_0, nlt_1, l1_lt, nle_1, l1_le, neq_1, nadd_1, nmul_1, nmul'_1, nadd'_1, nsub_1, nlt_2, l2_lt, nle_2, l2_le, neq_2, nadd_2, nmul_2, nmul'_2, nadd'_2, nsub_2, nlt_3, l3_lt, nle_3, l3_le, neq_3, nadd_3, nmul_3, nmul'_3, nadd'_3, nsub_3, nlt_4, l4_lt, nle_4, l4_le, neq_4, nadd_4, nmul_4, nmul'_4, nadd'_4, nsub_4, nlt_5, l5_lt, nle_5, l5_le, neq_5, nadd_5, nmul_5, nmul'_5, nadd'_5, nsub_5, nlt_6, l6_lt, nle_6, l6_le, neq_6, nadd_6, nmul_6, nmul'_6, nadd'_6, nsub_6, nlt_7, l7_lt, nle_7, l7_le, neq_7, nadd_7, nmul_7, nmul'_7, nadd'_7, nsub_7, nlt_8, l8_lt, nle_8, l8_le, neq_8, nadd_8, nmul_8, nmul'_8, nadd'_8, nsub_8, nlt_9, l9_lt, nle_9, l9_le, neq_9, nadd_9, nmul_9, nmul'_9, nadd'_9, nsub_9, nlt_10, l10_lt, nle_10, l10_le, neq_10, nadd_10, nmul_10, nmul'_10, nadd'_10, nsub_10, nlt_11, l11_lt, nle_11, l11_le, neq_11, nadd_11, nmul_11, nmul'_11, nadd'_11, nsub_11, nlt_12, l12_lt, nle_12, l12_le, neq_12, nadd_12, nmul_12, nmul'_12, nadd'_12, nsub_12, nlt_13, l13_lt, nle_13, l13_le, neq_13, nadd_13, nmul_13, nmul'_13, nadd'_13, nsub_13, nlt_20, l20_lt, nle_20, l20_le, neq_20, nadd_20, nmul_20, nmul'_20, nadd'_20, nsub_20, nlt_400, l400_lt, nle_400, l400_le, neq_400, nadd_400, nmul_400, nmul'_400, nadd'_400, nsub_400, rd_0, wr_0, rd_1, wr_1, rd_2, wr_2, rd_3, wr_3, rd_4, wr_4, rd_5, wr_5, rd_6, wr_6, rd_7, wr_7, rd_8, wr_8, rd_9, wr_9, rd_10, wr_10, rd_11, wr_11, rd_12, wr_12, h1]
    rw [if_pos (by omega)]
    rfl
  | k + 1, i, f + 1, hi, hf => by
    have ih := c_gAt h hV hl hc k (i + 1) f (by omega) (by omega)
    obtain ⟨h0, h1, h2, h3, h4⟩ := h
    obtain ⟨h5, h6, h7⟩ := h4 i (by omega)
    unfold f_State_graveAt_8
    simp (disch := omega) only [i32_lt, i32_le, i32_eq, i32_add, i32_mul, i32_neg, i32_nn, i32_ne1, i32_n1e, n1_lt_i32, i32_le_n1, i32_dec, i32_cl, rd_i32, ix_i32, wr_i32, pI_s, pR_s, pC_s, pZ_0, pZ_1, Option.bind_some, ite_true, ite_false, if_true, if_false, gIL, gRI, nlt_0, l0_lt, nle_0, l0_le, neq_0, nadd_0, nmul_0, nmul'_0, nadd'_0, nsub_0, nlt_1, l1_lt, nle_1, l1_le, neq_1, nadd_1, nmul_1, nmul'_1, nadd'_1, nsub_1, nlt_2, l2_lt, nle_2, l2_le, neq_2, nadd_2, nmul_2, nmul'_2, nadd'_2, nsub_2, nlt_3, l3_lt, nle_3, l3_le, neq_3, nadd_3, nmul_3, nmul'_3, nadd'_3, nsub_3, nlt_4, l4_lt, nle_4, l4_le, neq_4, nadd_4, nmul_4, nmul'_4, nadd'_4, nsub_4, nlt_5, l5_lt, nle_5, l5_le, neq_5, nadd_5, nmul_5, nmul'_5, nadd'_5, nsub_5, nlt_6, l6_lt, nle_6, l6_le, neq_6, nadd_6, nmul_6, nmul'_6, nadd'_6, nsub_6, nlt_7, l7_lt, nle_7, l7_le, neq_7, nadd_7, nmul_7, nmul'_7, nadd'_7, nsub_7, nlt_8, l8_lt, nle_8, l8_le, neq_8, nadd_8, nmul_8, nmul'_8, nadd'_8, nsub_8, nlt_9, l9_lt, nle_9, l9_le, neq_9, nadd_9, nmul_9, nmul'_9, nadd'_9, nsub_9, nlt_10, l10_lt, nle_10, l10_le, neq_10, nadd_10, nmul_10, nmul'_10, nadd'_10, nsub_10, nlt_11, l11_lt, nle_11, l11_le, neq_11, nadd_11, nmul_11, nmul'_11, nadd'_11, nsub_11, nlt_12, l12_lt, nle_12, l12_le, neq_12, nadd_12, nmul_12, nmul'_12, nadd'_12, nsub_12, nlt_13, l13_lt, nle_13, l13_le, neq_13, nadd_13, nmul_13, nmul'_13, nadd'_13, nsub_13, nlt_20, l20_lt, nle_20, l20_le, neq_20, nadd_20, nmul_20, nmul'_20, nadd'_20, nsub_20, nlt_400, l400_lt, nle_400, l400_le, neq_400, nadd_400, nmul_400, nmul'_400, nadd'_400, nsub_400, rd_0, wr_0, rd_1, wr_1, rd_2, wr_2, rd_3, wr_3, rd_4, wr_4, rd_5, wr_5, rd_6, wr_6, rd_7, wr_7, rd_8, wr_8, rd_9, wr_9, rd_10, wr_10, rd_11, wr_11, rd_12, wr_12, h1, h5, h6, f_State_graveAt_44, ih]
    rw [if_neg (by omega), if_neg (by omega)]
    rw [gAt]
    cases h8 : (b i).1 with
    | none => simp (disch := omega) only [eC, eL, i32_lt, i32_le, i32_eq, i32_add, i32_mul, i32_neg, i32_nn, i32_ne1, i32_n1e, n1_lt_i32, i32_le_n1, i32_dec, i32_cl, rd_i32, ix_i32, wr_i32, pI_s, pR_s, pC_s, pZ_0, pZ_1, Option.bind_some, ite_true, ite_false, if_true, if_false, gIL, gRI, nlt_0, l0_lt, nle_0, l0_le, neq_0, nadd_0, nmul_0, nmul'_0, nadd'_0, nsub_0, nlt_1, l1_lt, nle_1, l1_le, neq_1, nadd_1, nmul_1, nmul'_1, nadd'_1, nsub_1, nlt_2, l2_lt, nle_2, l2_le, neq_2, nadd_2, nmul_2, nmul'_2, nadd'_2, nsub_2, nlt_3, l3_lt, nle_3, l3_le, neq_3, nadd_3, nmul_3, nmul'_3, nadd'_3, nsub_3, nlt_4, l4_lt, nle_4, l4_le, neq_4, nadd_4, nmul_4, nmul'_4, nadd'_4, nsub_4, nlt_5, l5_lt, nle_5, l5_le, neq_5, nadd_5, nmul_5, nmul'_5, nadd'_5, nsub_5, nlt_6, l6_lt, nle_6, l6_le, neq_6, nadd_6, nmul_6, nmul'_6, nadd'_6, nsub_6, nlt_7, l7_lt, nle_7, l7_le, neq_7, nadd_7, nmul_7, nmul'_7, nadd'_7, nsub_7, nlt_8, l8_lt, nle_8, l8_le, neq_8, nadd_8, nmul_8, nmul'_8, nadd'_8, nsub_8, nlt_9, l9_lt, nle_9, l9_le, neq_9, nadd_9, nmul_9, nmul'_9, nadd'_9, nsub_9, nlt_10, l10_lt, nle_10, l10_le, neq_10, nadd_10, nmul_10, nmul'_10, nadd'_10, nsub_10, nlt_11, l11_lt, nle_11, l11_le, neq_11, nadd_11, nmul_11, nmul'_11, nadd'_11, nsub_11, nlt_12, l12_lt, nle_12, l12_le, neq_12, nadd_12, nmul_12, nmul'_12, nadd'_12, nsub_12, nlt_13, l13_lt, nle_13, l13_le, neq_13, nadd_13, nmul_13, nmul'_13, nadd'_13, nsub_13, nlt_20, l20_lt, nle_20, l20_le, neq_20, nadd_20, nmul_20, nmul'_20, nadd'_20, nsub_20, nlt_400, l400_lt, nle_400, l400_le, neq_400, nadd_400, nmul_400, nmul'_400, nadd'_400, nsub_400, rd_0, wr_0, rd_1, wr_1, rd_2, wr_2, rd_3, wr_3, rd_4, wr_4, rd_5, wr_5, rd_6, wr_6, rd_7, wr_7, rd_8, wr_8, rd_9, wr_9, rd_10, wr_10, rd_11, wr_11, rd_12, wr_12, reduceCtorEq]
    | some p =>
      have h9 := eL_lt hV (l := p.1) (c := p.2) (by omega) h8
      simp (disch := omega) only [eC, eL, i32_lt, i32_le, i32_eq, i32_add, i32_mul, i32_neg, i32_nn, i32_ne1, i32_n1e, n1_lt_i32, i32_le_n1, i32_dec, i32_cl, rd_i32, ix_i32, wr_i32, pI_s, pR_s, pC_s, pZ_0, pZ_1, Option.bind_some, ite_true, ite_false, if_true, if_false, gIL, gRI, nlt_0, l0_lt, nle_0, l0_le, neq_0, nadd_0, nmul_0, nmul'_0, nadd'_0, nsub_0, nlt_1, l1_lt, nle_1, l1_le, neq_1, nadd_1, nmul_1, nmul'_1, nadd'_1, nsub_1, nlt_2, l2_lt, nle_2, l2_le, neq_2, nadd_2, nmul_2, nmul'_2, nadd'_2, nsub_2, nlt_3, l3_lt, nle_3, l3_le, neq_3, nadd_3, nmul_3, nmul'_3, nadd'_3, nsub_3, nlt_4, l4_lt, nle_4, l4_le, neq_4, nadd_4, nmul_4, nmul'_4, nadd'_4, nsub_4, nlt_5, l5_lt, nle_5, l5_le, neq_5, nadd_5, nmul_5, nmul'_5, nadd'_5, nsub_5, nlt_6, l6_lt, nle_6, l6_le, neq_6, nadd_6, nmul_6, nmul'_6, nadd'_6, nsub_6, nlt_7, l7_lt, nle_7, l7_le, neq_7, nadd_7, nmul_7, nmul'_7, nadd'_7, nsub_7, nlt_8, l8_lt, nle_8, l8_le, neq_8, nadd_8, nmul_8, nmul'_8, nadd'_8, nsub_8, nlt_9, l9_lt, nle_9, l9_le, neq_9, nadd_9, nmul_9, nmul'_9, nadd'_9, nsub_9, nlt_10, l10_lt, nle_10, l10_le, neq_10, nadd_10, nmul_10, nmul'_10, nadd'_10, nsub_10, nlt_11, l11_lt, nle_11, l11_le, neq_11, nadd_11, nmul_11, nmul'_11, nadd'_11, nsub_11, nlt_12, l12_lt, nle_12, l12_le, neq_12, nadd_12, nmul_12, nmul'_12, nadd'_12, nsub_12, nlt_13, l13_lt, nle_13, l13_le, neq_13, nadd_13, nmul_13, nmul'_13, nadd'_13, nsub_13, nlt_20, l20_lt, nle_20, l20_le, neq_20, nadd_20, nmul_20, nmul'_20, nadd'_20, nsub_20, nlt_400, l400_lt, nle_400, l400_le, neq_400, nadd_400, nmul_400, nmul'_400, nadd'_400, nsub_400, rd_0, wr_0, rd_1, wr_1, rd_2, wr_2, rd_3, wr_3, rd_4, wr_4, rd_5, wr_5, rd_6, wr_6, rd_7, wr_7, rd_8, wr_8, rd_9, wr_9, rd_10, wr_10, rd_11, wr_11, rd_12, wr_12]
      by_cases c1 : p.2 = c
      · by_cases c2 : p.1 = l
        · rw [if_pos c1, if_pos c2, if_pos (by rw [← c1, ← c2])]
          rfl
        · rw [if_pos c1, if_neg c2, if_neg (fun z => c2 (congrArg Prod.fst (Option.some.inj z)))]
      · rw [if_neg c1, if_neg (fun z => c1 (congrArg Prod.snd (Option.some.inj z)))]
theorem c_graveAt {S y n : Nat} {b : Nat → B} {M : mM} {L C : Nat} (h : CS S y n b M) (hV : V L C n b) {l c : Nat} (hl : l < 2147483648) (hc : c < 2147483648) : f_State_graveAt S (i32 l) (i32 c) M = some (eG (grv n b l c), M) := by
  unfold f_State_graveAt
  rw [if_pos ((i32_nn hc).mpr trivial)]
  have h3 := h.2.2.2.1
  exact c_gAt h hV hl hc n 0 FUEL (by omega) (by rw [FUEL_eq]; omega)
theorem c_graveAtN {S : Nat} {M : mM} {x z : Int32} (hz : z < 0) : f_State_graveAt S x z M = some (-1, M) := by
  unfold f_State_graveAt
  rw [if_neg (Int32.not_le.mpr hz)]
def cBeh (b : Nat → B) (l c : Nat) : Nat → Nat → Nat → Nat
  | 0, _, a => a
  | k + 1, i, a => cBeh b l c k (i + 1) (a + (match (b i).1 with | none => 0 | some p => if p.1 = l ∧ c < p.2 then 1 else 0))
theorem c_cBeh {S y n : Nat} {b : Nat → B} {M : mM} {L C : Nat} (h : CS S y n b M) (hV : V L C n b) {l c : Nat} (hl : l < 2147483648) (hc : c < 2147483648) : ∀ (k i a f : Nat), i + k = n → k < f → f_State_countBehind_5 S (i32 l) (i32 c) f (i32 a) (i32 i) M = some (i32 (cBeh b l c k i a), M)
  | _, _, _, 0, _, hf => absurd hf (Nat.not_lt_zero _)
  | 0, i, a, f + 1, hi, hf => by
    obtain ⟨h0, h1, h2, h3, h4⟩ := h
    unfold f_State_countBehind_5
    simp (disch := omega) only [i32_lt, i32_le, i32_eq, i32_add, i32_mul, i32_neg, i32_nn, i32_ne1, i32_n1e, n1_lt_i32, i32_le_n1, i32_dec, i32_cl, rd_i32, ix_i32, wr_i32, pI_s, pR_s, pC_s, pZ_0, pZ_1, Option.bind_some, ite_true, ite_false, if_true, if_false, gIL, gRI, nlt_0, l0_lt, nle_0, l0_le, neq_0, nadd_0, nmul_0, nmul'_0, nadd'_0, nsub_0, nlt_1, l1_lt, nle_1, l1_le, neq_1, nadd_1, nmul_1, nmul'_1, nadd'_1, nsub_1, nlt_2, l2_lt, nle_2, l2_le, neq_2, nadd_2, nmul_2, nmul'_2, nadd'_2, nsub_2, nlt_3, l3_lt, nle_3, l3_le, neq_3, nadd_3, nmul_3, nmul'_3, nadd'_3, nsub_3, nlt_4, l4_lt, nle_4, l4_le, neq_4, nadd_4, nmul_4, nmul'_4, nadd'_4, nsub_4, nlt_5, l5_lt, nle_5, l5_le, neq_5, nadd_5, nmul_5, nmul'_5, nadd'_5, nsub_5, nlt_6, l6_lt, nle_6, l6_le, neq_6, nadd_6, nmul_6, nmul'_6, nadd'_6, nsub_6, nlt_7, l7_lt, nle_7, l7_le, neq_7, nadd_7, nmul_7, nmul'_7, nadd'_7, nsub_7, nlt_8, l8_lt, nle_8, l8_le, neq_8, nadd_8, nmul_8, nmul'_8, nadd'_8, nsub_8, nlt_9, l9_lt, nle_9, l9_le, neq_9, nadd_9, nmul_9, nmul'_9, nadd'_9, nsub_9, nlt_10, l10_lt, nle_10, l10_le, neq_10, nadd_10, nmul_10, nmul'_10, nadd'_10, nsub_10, nlt_11, l11_lt, nle_11, l11_le, neq_11, nadd_11, nmul_11, nmul'_11, nadd'_11, nsub_11, nlt_12, l12_lt, nle_12, l12_le, neq_12, nadd_12, nmul_12, nmul'_12, nadd'_12, nsub_12, nlt_13, l13_lt, nle_13, l13_le, neq_13, nadd_13, nmul_13, nmul'_13, nadd'_13, nsub_13, nlt_20, l20_lt, nle_20, l20_le, neq_20, nadd_20, nmul_20, nmul'_20, nadd'_20, nsub_20, nlt_400, l400_lt, nle_400, l400_le, neq_400, nadd_400, nmul_400, nmul'_400, nadd'_400, nsub_400, rd_0, wr_0, rd_1, wr_1, rd_2, wr_2, rd_3, wr_3, rd_4, wr_4, rd_5, wr_5, rd_6, wr_6, rd_7, wr_7, rd_8, wr_8, rd_9, wr_9, rd_10, wr_10, rd_11, wr_11, rd_12, wr_12, h1]
    rw [if_pos (by omega)]
    rfl
  | k + 1, i, a, f + 1, hi, hf => by
    have ih0 := c_cBeh h hV hl hc k (i + 1) a f (by omega) (by omega)
    have ih1 := c_cBeh h hV hl hc k (i + 1) (a + 1) f (by omega) (by omega)
    obtain ⟨h0, h1, h2, h3, h4⟩ := h
    obtain ⟨h5, h6, h7⟩ := h4 i (by omega)
    unfold f_State_countBehind_5
    simp (disch := omega) only [i32_lt, i32_le, i32_eq, i32_add, i32_mul, i32_neg, i32_nn, i32_ne1, i32_n1e, n1_lt_i32, i32_le_n1, i32_dec, i32_cl, rd_i32, ix_i32, wr_i32, pI_s, pR_s, pC_s, pZ_0, pZ_1, Option.bind_some, ite_true, ite_false, if_true, if_false, gIL, gRI, nlt_0, l0_lt, nle_0, l0_le, neq_0, nadd_0, nmul_0, nmul'_0, nadd'_0, nsub_0, nlt_1, l1_lt, nle_1, l1_le, neq_1, nadd_1, nmul_1, nmul'_1, nadd'_1, nsub_1, nlt_2, l2_lt, nle_2, l2_le, neq_2, nadd_2, nmul_2, nmul'_2, nadd'_2, nsub_2, nlt_3, l3_lt, nle_3, l3_le, neq_3, nadd_3, nmul_3, nmul'_3, nadd'_3, nsub_3, nlt_4, l4_lt, nle_4, l4_le, neq_4, nadd_4, nmul_4, nmul'_4, nadd'_4, nsub_4, nlt_5, l5_lt, nle_5, l5_le, neq_5, nadd_5, nmul_5, nmul'_5, nadd'_5, nsub_5, nlt_6, l6_lt, nle_6, l6_le, neq_6, nadd_6, nmul_6, nmul'_6, nadd'_6, nsub_6, nlt_7, l7_lt, nle_7, l7_le, neq_7, nadd_7, nmul_7, nmul'_7, nadd'_7, nsub_7, nlt_8, l8_lt, nle_8, l8_le, neq_8, nadd_8, nmul_8, nmul'_8, nadd'_8, nsub_8, nlt_9, l9_lt, nle_9, l9_le, neq_9, nadd_9, nmul_9, nmul'_9, nadd'_9, nsub_9, nlt_10, l10_lt, nle_10, l10_le, neq_10, nadd_10, nmul_10, nmul'_10, nadd'_10, nsub_10, nlt_11, l11_lt, nle_11, l11_le, neq_11, nadd_11, nmul_11, nmul'_11, nadd'_11, nsub_11, nlt_12, l12_lt, nle_12, l12_le, neq_12, nadd_12, nmul_12, nmul'_12, nadd'_12, nsub_12, nlt_13, l13_lt, nle_13, l13_le, neq_13, nadd_13, nmul_13, nmul'_13, nadd'_13, nsub_13, nlt_20, l20_lt, nle_20, l20_le, neq_20, nadd_20, nmul_20, nmul'_20, nadd'_20, nsub_20, nlt_400, l400_lt, nle_400, l400_le, neq_400, nadd_400, nmul_400, nmul'_400, nadd'_400, nsub_400, rd_0, wr_0, rd_1, wr_1, rd_2, wr_2, rd_3, wr_3, rd_4, wr_4, rd_5, wr_5, rd_6, wr_6, rd_7, wr_7, rd_8, wr_8, rd_9, wr_9, rd_10, wr_10, rd_11, wr_11, rd_12, wr_12, h1, h5, h6, f_State_countBehind_48, f_State_countBehind_49, Nat.add_zero, ih0, ih1]
    rw [if_neg (by omega), if_neg (by omega)]
    rw [cBeh]
    cases h8 : (b i).1 with
    | none =>
      simp (disch := omega) only [eC, eL, i32_lt, i32_le, i32_eq, i32_add, i32_mul, i32_neg, i32_nn, i32_ne1, i32_n1e, n1_lt_i32, i32_le_n1, i32_dec, i32_cl, rd_i32, ix_i32, wr_i32, pI_s, pR_s, pC_s, pZ_0, pZ_1, Option.bind_some, ite_true, ite_false, if_true, if_false, gIL, gRI, nlt_0, l0_lt, nle_0, l0_le, neq_0, nadd_0, nmul_0, nmul'_0, nadd'_0, nsub_0, nlt_1, l1_lt, nle_1, l1_le, neq_1, nadd_1, nmul_1, nmul'_1, nadd'_1, nsub_1, nlt_2, l2_lt, nle_2, l2_le, neq_2, nadd_2, nmul_2, nmul'_2, nadd'_2, nsub_2, nlt_3, l3_lt, nle_3, l3_le, neq_3, nadd_3, nmul_3, nmul'_3, nadd'_3, nsub_3, nlt_4, l4_lt, nle_4, l4_le, neq_4, nadd_4, nmul_4, nmul'_4, nadd'_4, nsub_4, nlt_5, l5_lt, nle_5, l5_le, neq_5, nadd_5, nmul_5, nmul'_5, nadd'_5, nsub_5, nlt_6, l6_lt, nle_6, l6_le, neq_6, nadd_6, nmul_6, nmul'_6, nadd'_6, nsub_6, nlt_7, l7_lt, nle_7, l7_le, neq_7, nadd_7, nmul_7, nmul'_7, nadd'_7, nsub_7, nlt_8, l8_lt, nle_8, l8_le, neq_8, nadd_8, nmul_8, nmul'_8, nadd'_8, nsub_8, nlt_9, l9_lt, nle_9, l9_le, neq_9, nadd_9, nmul_9, nmul'_9, nadd'_9, nsub_9, nlt_10, l10_lt, nle_10, l10_le, neq_10, nadd_10, nmul_10, nmul'_10, nadd'_10, nsub_10, nlt_11, l11_lt, nle_11, l11_le, neq_11, nadd_11, nmul_11, nmul'_11, nadd'_11, nsub_11, nlt_12, l12_lt, nle_12, l12_le, neq_12, nadd_12, nmul_12, nmul'_12, nadd'_12, nsub_12, nlt_13, l13_lt, nle_13, l13_le, neq_13, nadd_13, nmul_13, nmul'_13, nadd'_13, nsub_13, nlt_20, l20_lt, nle_20, l20_le, neq_20, nadd_20, nmul_20, nmul'_20, nadd'_20, nsub_20, nlt_400, l400_lt, nle_400, l400_le, neq_400, nadd_400, nmul_400, nmul'_400, nadd'_400, nsub_400, rd_0, wr_0, rd_1, wr_1, rd_2, wr_2, rd_3, wr_3, rd_4, wr_4, rd_5, wr_5, rd_6, wr_6, rd_7, wr_7, rd_8, wr_8, rd_9, wr_9, rd_10, wr_10, rd_11, wr_11, rd_12, wr_12, Nat.add_zero]
    | some p =>
      have h9 := eL_lt hV (l := p.1) (c := p.2) (by omega) h8
      simp (disch := omega) only [eC, eL, i32_lt, i32_le, i32_eq, i32_add, i32_mul, i32_neg, i32_nn, i32_ne1, i32_n1e, n1_lt_i32, i32_le_n1, i32_dec, i32_cl, rd_i32, ix_i32, wr_i32, pI_s, pR_s, pC_s, pZ_0, pZ_1, Option.bind_some, ite_true, ite_false, if_true, if_false, gIL, gRI, nlt_0, l0_lt, nle_0, l0_le, neq_0, nadd_0, nmul_0, nmul'_0, nadd'_0, nsub_0, nlt_1, l1_lt, nle_1, l1_le, neq_1, nadd_1, nmul_1, nmul'_1, nadd'_1, nsub_1, nlt_2, l2_lt, nle_2, l2_le, neq_2, nadd_2, nmul_2, nmul'_2, nadd'_2, nsub_2, nlt_3, l3_lt, nle_3, l3_le, neq_3, nadd_3, nmul_3, nmul'_3, nadd'_3, nsub_3, nlt_4, l4_lt, nle_4, l4_le, neq_4, nadd_4, nmul_4, nmul'_4, nadd'_4, nsub_4, nlt_5, l5_lt, nle_5, l5_le, neq_5, nadd_5, nmul_5, nmul'_5, nadd'_5, nsub_5, nlt_6, l6_lt, nle_6, l6_le, neq_6, nadd_6, nmul_6, nmul'_6, nadd'_6, nsub_6, nlt_7, l7_lt, nle_7, l7_le, neq_7, nadd_7, nmul_7, nmul'_7, nadd'_7, nsub_7, nlt_8, l8_lt, nle_8, l8_le, neq_8, nadd_8, nmul_8, nmul'_8, nadd'_8, nsub_8, nlt_9, l9_lt, nle_9, l9_le, neq_9, nadd_9, nmul_9, nmul'_9, nadd'_9, nsub_9, nlt_10, l10_lt, nle_10, l10_le, neq_10, nadd_10, nmul_10, nmul'_10, nadd'_10, nsub_10, nlt_11, l11_lt, nle_11, l11_le, neq_11, nadd_11, nmul_11, nmul'_11, nadd'_11, nsub_11, nlt_12, l12_lt, nle_12, l12_le, neq_12, nadd_12, nmul_12, nmul'_12, nadd'_12, nsub_12, nlt_13, l13_lt, nle_13, l13_le, neq_13, nadd_13, nmul_13, nmul'_13, nadd'_13, nsub_13, nlt_20, l20_lt, nle_20, l20_le, neq_20, nadd_20, nmul_20, nmul'_20, nadd'_20, nsub_20, nlt_400, l400_lt, nle_400, l400_le, neq_400, nadd_400, nmul_400, nmul'_400, nadd'_400, nsub_400, rd_0, wr_0, rd_1, wr_1, rd_2, wr_2, rd_3, wr_3, rd_4, wr_4, rd_5, wr_5, rd_6, wr_6, rd_7, wr_7, rd_8, wr_8, rd_9, wr_9, rd_10, wr_10, rd_11, wr_11, rd_12, wr_12]
      by_cases c1 : p.1 = l
      · by_cases c2 : p.2 ≤ c
        · rw [if_pos c1, if_pos c2, if_neg (by omega)]
          rfl
        · rw [if_pos c1, if_neg c2, if_pos (by omega)]
      · rw [if_neg c1, if_neg (by omega)]
        rfl
theorem c_countBehind {S y n : Nat} {b : Nat → B} {M : mM} {L C : Nat} (h : CS S y n b M) (hV : V L C n b) {l c : Nat} (hl : l < 2147483648) (hc : c < 2147483648) : f_State_countBehind S (i32 l) (i32 c) M = some (i32 (cBeh b l c n 0 0), M) := by
  unfold f_State_countBehind
  have h3 := h.2.2.2.1
  exact c_cBeh h hV hl hc n 0 0 FUEL (by omega) (by rw [FUEL_eq]; omega)
