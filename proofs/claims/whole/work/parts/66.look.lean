/-! ===== look: the class ===== -/
def tk (F : List Nat) : Nat → List Nat
  | 0 => []
  | j + 1 => tk F j ++ [F.getD j 0]
theorem tk_take (F : List Nat) : ∀ (j : Nat), j ≤ F.length → tk F j = F.take j
  | 0, _ => rfl
  | j + 1, h => by
    rw [tk, tk_take F j (by omega), List.take_add_one, List.getD_eq_getElem?_getD, List.getElem?_eq_getElem (by omega)]
    rfl
theorem tk_all (F : List Nat) : tk F F.length = F := by rw [tk_take F _ (Nat.le_refl _), List.take_length]
theorem cnt_add (y : Yd) (φ : Option (List Int64 → Nat)) (Y : Nat) (F : List Nat) (s g c : Nat) : cnt y φ Y (F ++ [s]) g c = cnt y φ Y F g c + if ccd (itB y φ (y_m y) Y 0 (bby y (i32 s)) g) = c then 1 else 0 := by
  unfold cnt
  rw [List.filter_append, List.length_append]
  congr 1
  by_cases h : ccd (itB y φ (y_m y) Y 0 (bby y (i32 s)) g) = c
  · rw [if_pos h, List.filter_cons_of_pos (by exact decide_eq_true h)]
    rfl
  · rw [if_neg h, List.filter_cons_of_neg (by rw [decide_eq_false h]; decide)]
    rfl
theorem cls_ccd {b : B} (h : cls b < 21) {k : Nat} (hk : k < 21) : (k = cls b) = (ccd b = if k = 0 then 20 else k - 1) := by
  unfold cls ccd at *
  cases hb : b.1 with
  | none =>
    simp only
    refine propext ⟨fun z => by rw [if_pos z], fun z => ?_⟩
    by_cases c : k = 0
    · exact c
    · rw [if_neg c] at z; omega
  | some p =>
    rw [hb] at h
    simp only at h ⊢
    refine propext ⟨fun z => by rw [if_neg (by omega)]; omega, fun z => ?_⟩
    by_cases c : k = 0
    · rw [if_pos c] at z; omega
    · rw [if_neg c] at z; omega
/-- the class's table over the sets -/
def cT (y : Yd) (φ : Option (List Int64 → Nat)) (Y : Nat) (F : List Nat) (g k : Nat) : Nat := cnt y φ Y F g (if k = 0 then 20 else k - 1)
theorem cnt_le (y : Yd) (φ : Option (List Int64 → Nat)) (Y : Nat) (F : List Nat) (g c : Nat) : cnt y φ Y F g c ≤ F.length := List.length_filter_le _ _
theorem tk_len (F : List Nat) : ∀ j, (tk F j).length = j
  | 0 => rfl
  | j + 1 => by rw [tk, List.length_append, tk_len F j]; rfl
theorem mst_cT (y : Yd) (φ : Option (List Int64 → Nat)) (Y : Nat) (F : List Nat) (g : Nat) : mstF (cT y φ Y F g) 21 = mst y φ Y F g := mstF_rot (cnt y φ Y F g)
theorem mstA_le (y : Yd) (φ : Option (List Int64 → Nat)) (Y : Nat) (F : List Nat) (g : Nat) : mst y φ Y F g ≤ F.length := mstF_le _ _ 21 fun i _ => cnt_le y φ Y F g i
theorem c_most4 {m : Nat} {T : Nat → Nat → Nat} {M : mM} (hB : Tb m T M) (hm : m ≤ 10) (hT : ∀ g k, T g k ≤ 1024) {g : Nat} (hg : g < m) : ∀ (k i f : Nat), i + k = 21 → k < f → f_Sets_mostAlike_4 (i32 g) f (i32 (mstF (T g) i)) (i32 i) M = some (i32 (mstF (T g) 21), M)
  | _, _, 0, _, hf => absurd hf (Nat.not_lt_zero _)
  | 0, i, f + 1, hi, hf => by
    unfold f_Sets_mostAlike_4
    rw [if_pos (by rw [show (20 : Int32) = i32 20 from rfl, i32_lt (by omega) (by omega)]; omega), show i = 21 by omega]
  | k + 1, i, f + 1, hi, hf => by
    have h1 : mstF (T g) i ≤ 1024 := mstF_le _ _ i fun j _ => hT g j
    have h2 := hT g i
    unfold f_Sets_mostAlike_4 f_Sets_mostAlike_45
    rw [if_neg (by rw [show (20 : Int32) = i32 20 from rfl, i32_lt (by omega) (by omega)]; omega), nmul_21, i32_add, if_neg (fun z => (i32_neg (a := g * 21 + i) (by omega)).mp z), if_neg (by rw [show (231 : Int32) = i32 231 from rfl, i32_le (by omega) (by omega)]; omega), rd_i32 (by omega) (by omega), Option.bind_some, hB g i hg (by omega), nadd_1]
    have ih := c_most4 hB hm hT hg k (i + 1) f (by omega) (by omega)
    rw [mstF] at ih
    by_cases c : mstF (T g) i < T g i
    · rw [if_pos (by rw [i32_lt (by omega) (by omega)]; exact c)]
      rw [if_pos c] at ih
      exact ih
    · rw [if_neg (by rw [i32_lt (by omega) (by omega)]; exact c)]
      rw [if_neg c] at ih
      exact ih
theorem bstF_le (f : Nat → Nat) (m : Nat) (h : ∀ i, f i ≤ m) : ∀ k, (bstF f k).1 ≤ k ∧ (bstF f k).2 ≤ m
  | 0 => ⟨Nat.le_refl _, h 0⟩
  | k + 1 => by
    rw [bstF]
    have := bstF_le f m h k
    split
    · exact ⟨Nat.le_refl _, h _⟩
    · exact ⟨by omega, this.2⟩
theorem c_best114 {y : Yd} {T : Nat → Nat → Nat} {x : Int32} {M0 : mM} (hv : VY y) (hY : CY 21 y M0) (hr8 : M0.2.2.2 269 8 = some 21) (hB : Tb (y_m y) T M0) (hT : ∀ g k, T g k ≤ 1024) : ∀ (k i f : Nat) (M : mM), i + k = y_m y → k < f → Sm 269 270 M0 M → M.2.2.2 = M0.2.2.2 → (∀ j, j ≠ 3 → j ≠ 4 → M.2.1 269 j = M0.2.1 269 j) → (i = 0 → M.2.1 269 3 = -1) → (0 < i → M.2.1 269 3 = i32 (bstF (fun g => mstF (T g) 21) (i - 1)).1 ∧ M.2.1 269 4 = i32 (bstF (fun g => mstF (T g) 21) (i - 1)).2) → OK (f_Sets_part_114 x f (i32 i) M) fun M' => Sm 269 270 M0 M' ∧ M'.2.2.2 = M0.2.2.2 ∧ (∀ j, j ≠ 3 → j ≠ 4 → M'.2.1 269 j = M0.2.1 269 j) ∧ (0 < y_m y → M'.2.1 269 3 = i32 (bstF (fun g => mstF (T g) 21) (y_m y - 1)).1 ∧ M'.2.1 269 4 = i32 (bstF (fun g => mstF (T g) 21) (y_m y - 1)).2)
  | _, _, 0, _, _, hf, _, _, _, _, _ => absurd hf (Nat.not_lt_zero _)
  | 0, i, f + 1, M, hi, hf, hS, hR, hj, h0, h1 => by
    have v3 := hv.2.2.1
    have e2 : M.2.1 21 2 = i32 (y_m y) := by rw [Sm_i hS (by omega)]; exact hY.2.2.1
    unfold f_Sets_part_114
    rw [hR, hr8, nnl_s (show 21 ∈ ydL by decide), Option.bind_some, e2, if_pos (by rw [i32_le (by omega) (by omega)]; omega)]
    have : i = y_m y := by omega
    rw [this] at h1
    exact OK_some ⟨hS, hR, hj, h1⟩
  | k + 1, i, f + 1, M, hi, hf, hS, hR, hj, h0, h1 => by
    have v3 := hv.2.2.1
    have e2 : M.2.1 21 2 = i32 (y_m y) := by rw [Sm_i hS (by omega)]; exact hY.2.2.1
    have hB' : Tb (y_m y) T M := fun g k a b => by rw [Sm_i hS (by omega)]; exact hB g k a b
    have hmost := c_most4 hB' v3 hT (show i < y_m y by omega) 21 0 FUEL (by omega) (by rw [FUEL_eq]; omega)
    have hm1 : ∀ g, mstF (T g) 21 ≤ 1024 := fun g => mstF_le _ _ 21 fun j _ => hT g j
    have hbl := bstF_le (fun g => mstF (T g) 21) 1024 hm1
    have take : (i = 0 ∨ mstF (T i) 21 < (bstF (fun g => mstF (T g) 21) (i - 1)).2) → OK (f_Sets_part_155 x (f_Sets_part_114 x f) (i32 i) (i32 (mstF (T i) 21)) M) fun M' => Sm 269 270 M0 M' ∧ M'.2.2.2 = M0.2.2.2 ∧ (∀ j, j ≠ 3 → j ≠ 4 → M'.2.1 269 j = M0.2.1 269 j) ∧ (0 < y_m y → M'.2.1 269 3 = i32 (bstF (fun g => mstF (T g) 21) (y_m y - 1)).1 ∧ M'.2.1 269 4 = i32 (bstF (fun g => mstF (T g) 21) (y_m y - 1)).2) := by
      intro ht
      unfold f_Sets_part_155 f_Sets_part_166
      rw [pI_s, Option.bind_some, pI_s, Option.bind_some, nadd_1]
      refine c_best114 hv hY hr8 hB hT k (i + 1) f _ (by omega) (by omega) (Sm_trans hS (Sm_trans (Sm_I (by omega)) (Sm_I (by omega)))) hR (fun j j3 j4 => by rw [gIo j4, gIo j3]; exact hj j j3 j4) (fun z => by omega) fun _ => ?_
      have eb : bstF (fun g => mstF (T g) 21) (i + 1 - 1) = (i, mstF (T i) 21) := by
        rw [Nat.add_sub_cancel]
        rcases ht with h | h
        · rw [h]; rfl
        · obtain ⟨i', hi'⟩ : ∃ i', i = i' + 1 := ⟨i - 1, by
            by_cases z : i = 0
            · rw [z] at h
              exact absurd h (Nat.lt_irrefl _)
            · omega⟩
          subst hi'
          rw [Nat.add_sub_cancel] at h
          rw [bstF, if_pos h]
      rw [eb]
      exact ⟨by rw [gIo (by omega), gIe], gIe _ _ _ _⟩
    unfold f_Sets_part_114 f_Sets_mostAlike
    rw [hR, hr8, nnl_s (show 21 ∈ ydL by decide), Option.bind_some, e2, if_neg (by rw [i32_le (by omega) (by omega)]; omega), if_neg (by rw [show (11 : Int32) = i32 11 from rfl, i32_le (by omega) (by omega)]; omega)]
    rw [show f_Sets_mostAlike_4 (i32 i) FUEL 0 0 M = _ from hmost, Option.bind_some]
    dsimp only
    by_cases i0 : i = 0
    · rw [if_pos (h0 i0)]
      exact take (Or.inl i0)
    · obtain ⟨b1, b2⟩ := h1 (by omega)
      have hb := hbl (i - 1)
      have hmi := hm1 i
      rw [if_neg (by rw [b1]; exact fun z => (i32_ne1 (by omega)).mp z), b2]
      by_cases c : mstF (T i) 21 < (bstF (fun g => mstF (T g) 21) (i - 1)).2
      · rw [if_neg (by rw [i32_le (by omega) (by omega)]; omega)]
        exact take (Or.inr c)
      · rw [if_pos (by rw [i32_le (by omega) (by omega)]; omega)]
        unfold f_Sets_part_166
        rw [nadd_1]
        have eb : bstF (fun g => mstF (T g) 21) (i + 1 - 1) = bstF (fun g => mstF (T g) 21) (i - 1) := by
          rw [Nat.add_sub_cancel]
          obtain ⟨i', hi'⟩ : ∃ i', i = i' + 1 := ⟨i - 1, by omega⟩
          subst hi'
          rw [Nat.add_sub_cancel] at c
          rw [bstF, if_neg c, Nat.add_sub_cancel]
        exact c_best114 hv hY hr8 hB hT k (i + 1) f M (by omega) (by omega) hS hR hj (fun z => by omega) fun _ => by rw [eb]; exact ⟨b1, b2⟩
/-- what parting leaves -/
def FrPt (M M' : mM) : Prop := (∀ p, p < 246 ∨ p = 270 ∨ 272 ≤ p ∧ p < 280 ∨ 290 ≤ p → M'.2.1 p = M.2.1 p) ∧ (∀ i, i ≠ 2 → i ≠ 3 → i ≠ 4 → M'.2.1 269 i = M.2.1 269 i) ∧ ∀ p, p < 246 ∨ 269 ≤ p → p < 280 ∨ 290 ≤ p → p ≠ 271 → M'.2.2.2 p = M.2.2.2 p
theorem c_part24 {y : Yd} {ru : Option Nat} {φ : Option (List Int64 → Nat)} {F : List Nat} {Y : Nat} {M0 : mM} (hv : VY y) (hY : CY 21 y M0) (hr8 : M0.2.2.2 269 8 = some 21) (hr9 : M0.2.2.2 269 9 = ru) (h6 : M0.2.1 269 6 = opn y) (hRL : RL ru φ M0) (h1 : M0.2.1 269 1 = i32 F.length) (hF : FdR 270 0 F M0) (hl : F.length ≤ 1024) (hYl : Y ≤ 99) : ∀ (k j f : Nat) (M : mM), j + k = F.length → k < f → (∀ p, p < 246 ∨ 269 ≤ p ∧ p < 271 ∨ 272 ≤ p ∧ p < 280 ∨ 290 ≤ p → M.2.1 p = M0.2.1 p ∧ M.2.2.2 p = M0.2.2.2 p) → Tb (y_m y) (cT y φ Y (tk F j)) M → OK (f_Sets_part_24 (i32 Y) f (i32 j) M) fun M' => FrPt M0 M' ∧ M'.2.1 269 2 = M0.2.1 269 2 ∧ (0 < y_m y → M'.2.1 269 3 = i32 (bst y φ Y F).1 ∧ M'.2.1 269 4 = i32 (bst y φ Y F).2)
  | _, _, 0, _, _, hf, _, _ => absurd hf (Nat.not_lt_zero _)
  | 0, j, f + 1, M, hj, hf, hS, hB => by
    have e1 : M.2.1 269 1 = i32 F.length := by rw [(hS 269 (by omega)).1]; exact h1
    unfold f_Sets_part_24 f_Sets_part_102
    rw [e1, if_pos (by rw [i32_le (by omega) (by omega)]; omega), pI_s, Option.bind_some, pI_s, Option.bind_some]
    have hj' : j = F.length := by omega
    rw [hj', tk_all] at hB
    have hT : ∀ g k, cT y φ Y F g k ≤ 1024 := fun g k => Nat.le_trans (cnt_le y φ Y F g _) hl
    have v3 := hv.2.2.1
    refine OK_imp (c_best114 (x := i32 Y) (M0 := msI (msI M 269 3 (-1)) 269 4 0) hv (CY_of hY fun a b => by rw [gIp (by omega), gIp (by omega)]; exact (hS _ (by omega)).1) (show M.2.2.2 269 8 = some 21 by rw [(hS 269 (by omega)).2]; exact hr8) (fun g k a b => by rw [gIp (by omega), gIp (by omega)]; exact hB g k a b) hT (y_m y) 0 FUEL _ (Nat.zero_add _) (by rw [FUEL_eq]; omega) (Sm_refl _ _ _) rfl (fun _ _ _ => rfl) (fun _ => by rw [gIo (by omega), gIe]) fun z => absurd z (Nat.lt_irrefl _)) fun M' h' => ?_
    obtain ⟨a1, a2, a3, a4⟩ := h'
    refine ⟨⟨fun p hp => ?_, fun i i2 i3 i4 => ?_, fun p hp hp2 hp3 => ?_⟩, ?_, fun hm => ?_⟩
    · rw [Sm_i a1 (by omega), gIp (by omega), gIp (by omega)]; exact (hS p (by omega)).1
    · rw [a3 i i3 i4, gIo i4, gIo i3, (hS 269 (by omega)).1]
    · rw [a2]
      exact (hS p (by omega)).2
    · rw [a3 2 (by omega) (by omega), gIo (by omega), gIo (by omega), (hS 269 (by omega)).1]
    · have := a4 hm
      have e : (fun g => mstF (cT y φ Y F g) 21) = mst y φ Y F := funext fun g => mst_cT y φ Y F g
      rw [e] at this
      exact this
  | k + 1, j, f + 1, M, hj, hf, hS, hB => by
    have e1 : M.2.1 269 1 = i32 F.length := by rw [(hS 269 (by omega)).1]; exact h1
    have e270 : M.2.1 270 j = i32 (F.getD j 0) := by rw [(hS 270 (by omega)).1]; exact hF j (by omega)
    have r8 : M.2.2.2 269 8 = some 21 := by rw [(hS 269 (by omega)).2]; exact hr8
    unfold f_Sets_part_24
    rw [e1, if_neg (by rw [i32_le (by omega) (by omega)]; omega), if_neg (by rw [show (1024 : Int32) = i32 1024 from rfl, i32_le (by omega) (by omega)]; omega), rd_i32 (by omega) (by omega), Option.bind_some, e270]
    refine OK_bind (c_startWith (s := i32 (F.getD j 0)) hv (CY_of hY fun a b => (hS _ (by omega)).1) r8 (by rw [(hS 269 (by omega)).2]; exact hr9) (by rw [(hS 269 (by omega)).1]; exact h6) (RL_of hRL fun p a b => (hS p (by omega)).1)) fun M1 h1' => ?_
    refine c_part55 (φ := φ) (ru := ru) (T := cT y φ Y (tk F j)) (M0 := M) r8 hYl (fun g k => ?_) Y 0 FUEL (bby y (i32 (F.getD j 0))) M1 (Nat.zero_add _) (by rw [FUEL_eq]; omega) (fun _ _ => rfl) ⟨⟨_, _, h1'.1⟩, h1'.2.1⟩ h1'.2.2 (fun g k a b => by rw [(h1'.2.2 271 (by omega)).1]; exact hB g k a b) fun M' hM' hB' hc' => ?_
    · have := cnt_le y φ Y (tk F j) g (if k = 0 then 20 else k - 1)
      rw [tk_len] at this
      show cnt _ _ _ _ _ _ < _
      omega
    · refine c_part24 hv hY hr8 hr9 h6 hRL h1 hF hl hYl k (j + 1) f M' (by omega) (by omega) (fun p hp => ⟨((hM' p hp).1).trans (hS p hp).1, ((hM' p hp).2).trans (hS p hp).2⟩) (Tb_cong hB' fun g k a b => ?_)
      show cnt y φ Y (tk F (j + 1)) g (if k = 0 then 20 else k - 1) = cnt y φ Y (tk F j) g (if k = 0 then 20 else k - 1) + _
      rw [tk, cnt_add]
      congr 1
      simp only [cls_ccd (hc' g a) b]
theorem fill5 {p n : Nat} {v : Int32} {M0 : mM} (hn : n < 2147483648) : ∀ (k i f : Nat) (M : mM), i + k = n → k < f → Sm p (p + 1) M0 M → M.2.2.2 = M0.2.2.2 → (∀ j, j < i → M.2.1 p j = v) → (∀ j, n ≤ j → M.2.1 p j = M0.2.1 p j) → OK (f_J_fill_5 p n v f (i32 i) (i32 n) M) fun M' => Sm p (p + 1) M0 M' ∧ M'.2.2.2 = M0.2.2.2 ∧ (∀ j, j < n → M'.2.1 p j = v) ∧ ∀ j, n ≤ j → M'.2.1 p j = M0.2.1 p j
  | _, _, 0, _, _, hf, _, _, _, _ => absurd hf (Nat.not_lt_zero _)
  | 0, i, f + 1, M, hi, hf, hS, hR, h, h' => by
    unfold f_J_fill_5
    rw [if_pos (by rw [i32_le (by omega) (by omega)]; omega)]
    exact OK_some ⟨hS, hR, fun j hj => h j (by omega), h'⟩
  | k + 1, i, f + 1, M, hi, hf, hS, hR, h, h' => by
    unfold f_J_fill_5
    rw [if_neg (by rw [i32_le (by omega) (by omega)]; omega), wr_i32 (by omega) (by omega), Option.bind_some, nadd_1]
    refine fill5 hn k (i + 1) f _ (by omega) (by omega) (Sm_trans hS (Sm_I (by omega))) hR (fun j hj => ?_) fun j hj => ?_
    · by_cases c : j = i
      · subst c; exact gIe _ _ _ _
      · rw [gIo c]; exact h j (by omega)
    · rw [gIo (by omega)]; exact h' j hj
theorem c_fill {p n : Nat} {v : Int32} (hn : n < 100000) (M : mM) : OK (f_J_fill p n v M) fun M' => Sm p (p + 1) M M' ∧ M'.2.2.2 = M.2.2.2 ∧ (∀ j, j < n → M'.2.1 p j = v) ∧ ∀ j, n ≤ j → M'.2.1 p j = M.2.1 p j := by
  unfold f_J_fill
  exact fill5 (by omega) n 0 FUEL M (Nat.zero_add _) (by rw [FUEL_eq]; exact hn) (Sm_refl _ _ _) rfl (fun j hj => absurd hj (Nat.not_lt_zero _)) fun _ _ => rfl
/-- they part, or did so before -/
theorem c_part {g : Gx} {Y : Nat} {M : mM} (hg : VG g) (hc : RC g M) (hk : M.2.1 269 0 = 1) (hK : CK g.1 g.2.2.1.2 M) (hY : Y ≤ 99) (hm : 0 < y_m g.1.1) : OK (f_Sets_part (i32 Y) M) fun M' => RC g M' ∧ M'.2.1 269 3 = i32 (bst g.1.1 (phi g.1.2.2.2.1 g.2.2.1.2) Y (fnd g.1.1 (phi g.1.2.2.2.1 g.2.2.1.2) g.1.2.2.1)).1 ∧ M'.2.1 269 4 = i32 (bst g.1.1 (phi g.1.2.2.2.1 g.2.2.1.2) Y (fnd g.1.1 (phi g.1.2.2.2.1 g.2.2.1.2) g.1.2.2.1)).2 ∧ Sm 0 436 M M' := by
  have hv := hg.1.1
  have hl : (fnd g.1.1 (phi g.1.2.2.2.1 g.2.2.1.2) g.1.2.2.1).length ≤ 1024 := fndF_len _ _ _ 1024 0
  obtain ⟨k8, k9, k6, k1, kR, k2⟩ := hK
  unfold f_Sets_part
  by_cases c : i32 Y = M.2.1 269 2
  · rw [if_pos c]
    rcases k2 with k2 | ⟨yr, y1, y2, y3, y4⟩
    · rw [k2] at c
      exact absurd c (fun z => (i32_ne1 (by omega)).mp z)
    · rw [y2, i32_eq (by omega) (by omega)] at c
      rw [c]
      exact OK_some ⟨hc, y3, y4, Sm_refl _ _ _⟩
  · rw [if_neg c, pI_s, Option.bind_some]
    refine OK_bind (c_fill (p := 271) (n := 231) (v := 0) (by omega) _) fun M1 h1 => ?_
    obtain ⟨f1, f2, f3, f4⟩ := h1
    have ep : ∀ p, p ≠ 269 → p ≠ 271 → M1.2.1 p = M.2.1 p := fun p a b => by rw [Sm_i f1 (by omega), gIp a]
    have e269 : ∀ i, i ≠ 2 → M1.2.1 269 i = M.2.1 269 i := fun i hi => by rw [Sm_i f1 (by omega), gIo hi]
    have er : M1.2.2.2 = M.2.2.2 := f2
    have key := c_part24 (F := fnd g.1.1 (phi g.1.2.2.2.1 g.2.2.1.2) g.1.2.2.1) (φ := phi g.1.2.2.2.1 g.2.2.1.2) (ru := ruf g.1.2.2.2.1) (M0 := M1) hv (CY_of hc.1.1 fun a b => ep _ (by omega) (by omega)) (by rw [er]; exact k8) (by rw [er]; exact k9) ((e269 6 (by omega)).trans k6) (RL_of (RL_in hg hc.2.2.1) fun p a b => ep p (by omega) (by omega)) ((e269 1 (by omega)).trans k1) (fun k hk => by rw [ep 270 (by omega) (by omega)]; exact kR k hk) hl hY _ 0 FUEL M1 (Nat.zero_add _) (by rw [FUEL_eq]; omega) (fun p hp => ⟨rfl, rfl⟩) (fun a b h1 h2 => by rw [f3 _ (by have := hv.2.2.1; omega)]; rfl)
    refine OK_imp key fun M' h' => ?_
    obtain ⟨⟨p1, p2, p3⟩, p4, p5⟩ := h'
    obtain ⟨b1, b2⟩ := p5 hm
    have eM : ∀ p, p < 246 ∨ p = 270 ∨ 272 ≤ p ∧ p < 280 ∨ 290 ≤ p → M'.2.1 p = M.2.1 p := fun p hp => by rw [p1 p hp, ep p (by omega) (by omega)]
    have e2 : M'.2.1 269 2 = i32 Y := by rw [p4, Sm_i f1 (by omega), gIe]
    have eR : ∀ p, p < 246 ∨ 269 ≤ p → p < 280 ∨ 290 ≤ p → p ≠ 271 → M'.2.2.2 p = M.2.2.2 p := fun p a b d => by rw [p3 p a b d, er]
    have ei : ∀ i, i ≠ 2 → i ≠ 3 → i ≠ 4 → M'.2.1 269 i = M.2.1 269 i := fun i a b d => by rw [p2 i a b d, e269 i a]
    have hK' : CK g.1 g.2.2.1.2 M' := by
      refine ⟨by rw [eR 269 (by omega) (by omega) (by omega)]; exact k8, by rw [eR 269 (by omega) (by omega) (by omega)]; exact k9, (ei 6 (by omega) (by omega) (by omega)).trans k6, (ei 1 (by omega) (by omega) (by omega)).trans k1, by rw [eM 270 (by omega)]; exact kR, Or.inr ⟨Y, hY, e2, b1, b2⟩⟩
    obtain ⟨c1, c2, c3, c4, c5, c6, c7⟩ := hc
    have := hg.2.2.2.2.1
    exact ⟨⟨CW_of c1 fun k hk => eM _ (by omega), CP_of c2 (by rw [eM 1 (by omega)]) (eM 2 (by omega)), CU_of c3 (eM 0 (by omega)) fun p a b => eM p (by omega), CA_of c4 fun p a b => eM p (by omega), fun k hk => CI_of (c5 k hk) fun j hj => eM _ (by omega), CE_of c6 fun p hp => eM p (by omega), Or.inr ⟨(ei 0 (by omega) (by omega) (by omega)).trans hk, hK'⟩⟩, b1, b2, fun p hp => ⟨eM p (by omega), eR p (by omega) (by omega) (by omega)⟩⟩
