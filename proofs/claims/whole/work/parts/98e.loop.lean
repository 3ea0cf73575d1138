/-! ===== the law's loop: each call answers alike, and all that is told stays alike ===== -/
theorem zl_c {L a : Nat} (hL : L ≤ 3072) (ha : a ≤ 4000) : (Int32.ofNat L - 6 < i32 a) = (L < a + 6) := by
  by_cases h : 6 ≤ L
  · rw [show Int32.ofNat L - 6 = i32 (L - 6) from i32_sub_l h, i32_lt (by omega) (by omega)]
    exact propext ⟨fun _ => by omega, fun _ => by omega⟩
  · have h1 : (Int32.ofNat L - 6).toInt < 0 := by
      have h2 : ∀ k, k < 6 → (Int32.ofNat k - 6).toInt < 0 := by decide
      exact h2 L (by omega)
    rw [Int32.lt_iff_toInt_lt, i32_toInt (by omega)]
    exact propext ⟨fun _ => by omega, fun _ => by omega⟩
theorem zl_rd {L i : Nat} {xs : Nat → Int32} (hL : L ≤ 3072) (h : i < L) : rdS (L, xs) (i32 i) = some (xs i) := by
  unfold rdS
  rw [if_pos (zs_in h (by omega)), i32_cl (by omega)]
theorem zl_s {fc fm : mM → Option (Int32 × mM)} {M : mM} {X : mX} {k : Int32 → mM → Option (Int32 × mM)} {l : Int32} {Q : Int32 × mM → Prop} (h : Both fc fm M) (hk : ∀ M', Inv M' → OK (f_J_law_1021 X k l M') Q) : OK ((fc M).bind fun r => (fm r.2).bind fun r' => if r.1 = r'.1 then f_J_law_1021 X k l r'.2 else some (0, r'.2)) Q := by
  obtain ⟨z, h1, z', h2, h3, h4⟩ := h
  rw [h1, Option.bind_some, h2, Option.bind_some, if_pos h3]
  exact hk _ h4
set_option maxRecDepth 20000 in
theorem zl_loop {L : Nat} {xs : Nat → Int32} (hL : L ≤ 3072) : ∀ (n c : Nat) (M : mM), Inv M → c ≤ L / 6 → L / 6 - c < n → OK (f_J_law_18 (L, xs) n (i32 (6 * c)) M) fun z => z.1 = 1
  | 0, c, M, hi, h1, h2 => absurd h2 (Nat.not_lt_zero _)
  | n + 1, c, M, hi, h1, h2 => by
    rw [f_J_law_18]
    by_cases hc : L < 6 * c + 6
    · rw [if_pos (show Int32.ofNat L - 6 < i32 (6 * c) from by rw [zl_c hL (by omega)]; exact hc)]
      exact OK_some rfl
    rw [if_neg (show ¬ Int32.ofNat L - 6 < i32 (6 * c) from by rw [zl_c hL (by omega)]; exact hc)]
    have e0 : rdS (L, xs) (i32 (6 * c)) = some (xs (6 * c)) := zl_rd hL (by omega)
    have e1 : rdS (L, xs) (i32 (6 * c) + 1) = some (xs (6 * c + 1)) := by rw [nadd_1]; exact zl_rd hL (by omega)
    have e2 : rdS (L, xs) (i32 (6 * c) + 2) = some (xs (6 * c + 2)) := by rw [nadd_2]; exact zl_rd hL (by omega)
    have e3 : rdS (L, xs) (i32 (6 * c) + 3) = some (xs (6 * c + 3)) := by rw [nadd_3]; exact zl_rd hL (by omega)
    have e4 : rdS (L, xs) (i32 (6 * c) + 4) = some (xs (6 * c + 4)) := by rw [nadd_4]; exact zl_rd hL (by omega)
    have e5 : rdS (L, xs) (i32 (6 * c) + 5) = some (xs (6 * c + 5)) := by rw [nadd_5]; exact zl_rd hL (by omega)
    have hk : ∀ M', Inv M' → OK (f_J_law_1021 (L, xs) (f_J_law_18 (L, xs) n) (i32 (6 * c)) M') fun z => z.1 = 1 := by
      intro M' hi'
      rw [f_J_law_1021, nadd_6, show 6 * c + 6 = 6 * (c + 1) from by omega]
      exact zl_loop hL n (c + 1) M' hi' (by omega) (by omega)
    rw [e0, Option.bind_some]
    generalize xs (6 * c) &&& 31 = w
    by_cases k0 : w = 0
    · rw [if_pos k0]
      simp only [e1, e2, e3, e4, e5, Option.bind_some]
      exact zl_s (both_feed hi) hk
    rw [if_neg k0]
    by_cases k1 : w = 1
    · rw [if_pos k1]
      simp only [e1, Option.bind_some]
      exact zl_s (both_end hi) hk
    rw [if_neg k1]
    by_cases k2 : w = 2
    · rw [if_pos k2]
      exact zl_s (both_yard hi) hk
    rw [if_neg k2]
    by_cases k3 : w = 3
    · rw [if_pos k3]
      exact zl_s (both_rule hi) hk
    rw [if_neg k3]
    by_cases k4 : w = 4
    · rw [if_pos k4]
      simp only [e1, Option.bind_some]
      exact zl_s (both_force hi) hk
    rw [if_neg k4]
    by_cases k5 : w = 5
    · rw [if_pos k5]
      simp only [e1, e2, Option.bind_some]
      exact zl_s (both_grave hi) hk
    rw [if_neg k5]
    by_cases k6 : w = 6
    · rw [if_pos k6]
      simp only [e1, e2, Option.bind_some]
      exact zl_s (both_stone hi) hk
    rw [if_neg k6]
    by_cases k7 : w = 7
    · rw [if_pos k7]
      simp only [e1, e2, Option.bind_some]
      exact zl_s (both_at hi) hk
    rw [if_neg k7]
    by_cases k8 : w = 8
    · rw [if_pos k8]
      simp only [e1, e2, Option.bind_some]
      exact zl_s (both_root hi) hk
    rw [if_neg k8]
    by_cases k9 : w = 9
    · rw [if_pos k9]
      exact zl_s (both_year hi) hk
    rw [if_neg k9]
    by_cases k10 : w = 10
    · rw [if_pos k10]
      simp only [e1, e2, e3, Option.bind_some]
      exact zl_s (both_dig hi) hk
    rw [if_neg k10]
    by_cases k11 : w = 11
    · rw [if_pos k11]
      simp only [e1, Option.bind_some]
      exact zl_s (both_pay hi) hk
    rw [if_neg k11]
    by_cases k12 : w = 12
    · rw [if_pos k12]
      simp only [e1, Option.bind_some]
      exact zl_s (both_frost hi) hk
    rw [if_neg k12]
    by_cases k13 : w = 13
    · rw [if_pos k13]
      exact zl_s (both_undo hi) hk
    rw [if_neg k13]
    by_cases k14 : w = 14
    · rw [if_pos k14]
      simp only [e1, e2, e3, Option.bind_some]
      exact zl_s (both_ahead hi) hk
    rw [if_neg k14]
    by_cases k15 : w = 15
    · rw [if_pos k15]
      simp only [e1, Option.bind_some]
      exact zl_s (both_fall hi) hk
    rw [if_neg k15]
    by_cases k16 : w = 16
    · rw [if_pos k16]
      simp only [e1, e2, Option.bind_some]
      exact zl_s (both_abreast hi) hk
    rw [if_neg k16]
    by_cases k17 : w = 17
    · rw [if_pos k17]
      simp only [e1, e2, Option.bind_some]
      exact zl_s (both_begin hi) hk
    rw [if_neg k17]
    by_cases k18 : w = 18
    · rw [if_pos k18]
      simp only [e1, e2, e3, e4, Option.bind_some]
      exact zl_s (both_dug hi) hk
    rw [if_neg k18]
    by_cases k19 : w = 19
    · rw [if_pos k19]
      simp only [e1, e2, e3, Option.bind_some]
      exact zl_s (both_sight hi) hk
    rw [if_neg k19]
    by_cases k20 : w = 20
    · rw [if_pos k20]
      simp only [e1, Option.bind_some]
      exact zl_s (both_unpaid hi) hk
    rw [if_neg k20]
    by_cases k21 : w = 21
    · rw [if_pos k21]
      simp only [e1, e2, Option.bind_some]
      exact zl_s (both_look hi) hk
    rw [if_neg k21]
    by_cases k22 : w = 22
    · rw [if_pos k22]
      simp only [e1, Option.bind_some]
      exact zl_s (both_war hi) hk
    rw [if_neg k22]
    by_cases k23 : w = 23
    · rw [if_pos k23]
      simp only [e1, Option.bind_some]
      exact zl_s (both_order hi) hk
    rw [if_neg k23]
    by_cases k24 : w = 24
    · rw [if_pos k24]
      simp only [e1, Option.bind_some]
      exact zl_s (both_seed hi) hk
    rw [if_neg k24]
    by_cases k25 : w = 25
    · rw [if_pos k25]
      simp only [e1, e2, e3, e4, Option.bind_some]
      exact zl_s (both_drawn hi) hk
    rw [if_neg k25]
    by_cases k26 : w = 26
    · rw [if_pos k26]
      simp only [e1, Option.bind_some]
      exact zl_s (both_count hi) hk
    rw [if_neg k26]
    by_cases k27 : w = 27
    · rw [if_pos k27]
      simp only [e1, Option.bind_some]
      exact zl_s (both_image hi) hk
    rw [if_neg k27]
    by_cases k28 : w = 28
    · rw [if_pos k28]
      simp only [e1, Option.bind_some]
      exact zl_s (both_back hi) hk
    rw [if_neg k28]
    exact hk M hi
