/-! ===== who can have been unpaid: the class ===== -/
theorem c_last4 {q : Nat × (Nat → Nat × Nat × Nat)} {M : mM} (h : CG 39 q M) (hq : q.1 ≤ 10) (hy : ∀ k, k < q.1 → (q.2 k).2.2 ≤ 99) : ∀ (k i f a : Nat), i + k = q.1 → k < f → a ≤ 99 → f_Sights_last_4 39 f (i32 a) (i32 i) M = some (i32 (lasF q.2 k i a), M)
  | _, _, 0, _, _, hf, _ => absurd hf (Nat.not_lt_zero _)
  | 0, i, f + 1, a, hi, hf, ha => by
    unfold f_Sights_last_4
    rw [h.1, if_pos (by rw [i32_le (by omega) (by omega)]; omega)]
    rfl
  | k + 1, i, f + 1, a, hi, hf, ha => by
    have h3 := (h.2 i (by omega)).2.2
    have hy' := hy i (by omega)
    unfold f_Sights_last_4
    rw [h.1, if_neg (by rw [i32_le (by omega) (by omega)]; omega), if_neg (by rw [show (10 : Int32) = i32 10 from rfl, i32_le (by omega) (by omega)]; omega), rd_i32 (by omega) (by omega), Option.bind_some, h3, nadd_1, lasF]
    by_cases c : a < (q.2 i).2.2
    · rw [if_pos (by rw [i32_lt (by omega) (by omega)]; exact c), if_pos c]
      exact c_last4 h hq hy k (i + 1) f _ (by omega) (by omega) hy'
    · rw [if_neg (by rw [i32_lt (by omega) (by omega)]; exact c), if_neg c]
      exact c_last4 h hq hy k (i + 1) f _ (by omega) (by omega) ha
def las (q : Nat × (Nat → Nat × Nat × Nat)) : Nat := lasF q.2 q.1 0 0
theorem las_le {q : Nat → Nat × Nat × Nat} {n : Nat} (hy : ∀ k, k < n → (q k).2.2 ≤ 99) : ∀ (k i a : Nat), i + k = n → a ≤ 99 → lasF q k i a ≤ 99
  | 0, _, _, _, h => h
  | k + 1, i, a, hi, h => by
    rw [lasF]
    split
    · exact las_le hy k (i + 1) _ (by omega) (hy i (by omega))
    · exact las_le hy k (i + 1) _ (by omega) h
theorem c_last {q : Nat × (Nat → Nat × Nat × Nat)} {M : mM} (h : CG 39 q M) (hq : q.1 ≤ 10) (hy : ∀ k, k < q.1 → (q.2 k).2.2 ≤ 99) : f_Sights_last 39 M = some (if q.1 = 0 then -1 else i32 (las q), M) := by
  unfold f_Sights_last
  rw [show FUEL = 99999 + 1 from rfl, f_Sights_last_4, h.1]
  by_cases c : q.1 = 0
  · rw [if_pos c, c, if_pos (by decide)]
  · have h3 := (h.2 0 (by omega)).2.2
    have hy' := hy 0 (by omega)
    rw [if_neg (by rw [show (0 : Int32) = i32 0 from rfl, i32_le (by omega) (by omega)]; omega), if_neg (by decide), show rd M (39 + 3) 10 0 = _ from rd_i32 (a := 0) (by omega) (by omega), Option.bind_some, h3, if_neg c, if_pos (n1_lt_i32 (a := (q.2 0).2.2) (by omega) ▸ trivial)]
    have := c_last4 h hq hy (q.1 - 1) 1 99999 (q.2 0).2.2 (by omega) (by omega) hy'
    rw [show (0 : Int32) + 1 = i32 1 from rfl, this]
    unfold las
    obtain ⟨n, hn⟩ : ∃ n, q.1 = n + 1 := ⟨q.1 - 1, by omega⟩
    rw [hn, Nat.add_sub_cancel, lasF]
    by_cases c0 : 0 < (q.2 0).2.2
    · rw [if_pos c0]
    · rw [if_neg c0, show (q.2 0).2.2 = 0 by omega]
theorem c_agree {y : Yd} {Yp : Nat} {ru : Option Nat} {φ : Option (List Int64 → Nat)} {n yr : Nat} {b : Nat → B} {q : Nat × (Nat → Nat × Nat × Nat)} {M : mM} (h : CQe y Yp ru φ n yr b M) (hG : CG 39 q M) (hq : q.1 ≤ 10) (hg : ∀ k, k < q.1 → (q.2 k).1 < n ∧ (q.2 k).2.1 < 20 ∧ (q.2 k).2.2 ≤ 99) (hy : yr < 2147483648) : ∀ (k i f : Nat), i + k = q.1 → k < f → f_Sights_agree_2 39 247 f (i32 i) M = some (e01 (agrF q.2 yr b k i), M)
  | _, _, 0, _, hf => absurd hf (Nat.not_lt_zero _)
  | 0, i, f + 1, hi, hf => by
    unfold f_Sights_agree_2
    rw [hG.1, if_pos (by rw [i32_le (by omega) (by omega)]; omega)]
    rfl
  | k + 1, i, f + 1, hi, hf => by
    have ih := c_agree h hG hq hg hy k (i + 1) f (by omega) (by omega)
    obtain ⟨⟨P, kk, hq'⟩, h4⟩ := h
    have hV := hq'.2.1.2.1
    have hn := hV.2.2.1
    obtain ⟨g1, g2, g3⟩ := hG.2 i (by omega)
    obtain ⟨b1, b2, b3⟩ := hg i (by omega)
    have a2 := (hq'.2.1.1.2.2.2.2 _ b1).2.1
    have e0 : M.2.1 247 0 = i32 yr := hq'.2.1.1.1
    unfold f_Sights_agree_2 f_Sights_agree_64
    rw [hG.1, if_neg (by rw [i32_le (by omega) (by omega)]; omega), if_neg (by rw [show (10 : Int32) = i32 10 from rfl, i32_le (by omega) (by omega)]; omega), rd_i32 (by omega) (by omega), Option.bind_some, g3, e0, nadd_1, agrF]
    by_cases c : (q.2 i).2.2 = yr
    · rw [if_pos (by rw [c]), rd_i32 (by omega) (by omega), Option.bind_some, g1]
      by_cases c2 : (b (q.2 i).1).1 = none
      · rw [c_lies0 hq'.2.1.1 hV (by omega) (fun z => z.2 c2), bnd0, if_pos ⟨c, by rw [c2]; exact fun z => (i32_n1e (by omega)).mp z⟩]
        rfl
      · rw [c_lies1 hq'.2.1.1 hV b1 c2, bnd1]
        dsimp only
        rw [rd_i32 (by omega) (by omega), Option.bind_some, g1, rd_i32 (by omega) (by omega), Option.bind_some, rd_i32 (by omega) (by omega), Option.bind_some, a2, g2]
        by_cases c3 : eC (b (q.2 i).1).1 = i32 (q.2 i).2.1
        · rw [if_pos c3, if_neg (fun z => z.2 c3)]
          exact ih
        · rw [if_neg c3, if_pos ⟨c, c3⟩]
          rfl
    · rw [if_neg (by rw [i32_eq (by omega) (by omega)]; exact c), if_neg (fun z => c z.1)]
      exact ih
theorem c_seen18 {y : Yd} {ru : Option Nat} {φ : Option (List Int64 → Nat)} {q : Nat × (Nat → Nat × Nat × Nat)} {s : Int32} {M0 : mM} (hG : CG 39 q M0) (hq : q.1 ≤ 10) (hg : ∀ k, k < q.1 → (q.2 k).1 < y_m y ∧ (q.2 k).2.1 < 20 ∧ (q.2 k).2.2 ≤ 99) {L : Nat} (hL : L ≤ 99) : ∀ (k yr f : Nat) (b : Nat → B) (M : mM), yr + k = L → k + 1 < f → CQe y 21 ru φ (y_m y) yr b M → FrSt M0 M → OK (f_Sets_isSeen_18 s 39 f (i32 L) 1 (i32 yr) M) fun z => z.1 = e01 (senF y φ q k yr b) ∧ FrSt M0 z.2
  | _, _, 0, _, _, _, hf, _, _ => absurd hf (Nat.not_lt_zero _)
  | 0, yr, f + 1, b, M, hy, hf, h, hS => by
    have hG' : CG 39 q M := CG_of hG fun j hj => (hS _ (by omega)).1
    have ha := c_agree h hG' hq hg (by omega) q.1 0 FUEL (Nat.zero_add _) (by rw [FUEL_eq]; omega)
    unfold f_Sets_isSeen_18 f_Sights_agree
    rw [if_neg (by rw [i32_lt (by omega) (by omega)]; omega), if_neg (by decide), show f_Sights_agree_2 39 247 FUEL 0 M = _ from ha, Option.bind_some]
    dsimp only
    rw [if_pos (by rw [i32_le (by omega) (by omega)]; omega)]
    unfold f_Sets_isSeen_56
    rw [nadd_1]
    cases f with
    | zero => omega
    | succ f =>
      unfold f_Sets_isSeen_18
      rw [if_pos (by rw [i32_lt (by omega) (by omega)]; omega), if_pos (by cases agrF q.2 yr b q.1 0; exact Or.inl rfl; exact Or.inr rfl)]
      exact OK_some ⟨rfl, hS⟩
  | k + 1, yr, f + 1, b, M, hy, hf, h, hS => by
    have hG' : CG 39 q M := CG_of hG fun j hj => (hS _ (by omega)).1
    have ha := c_agree h hG' hq hg (by omega) q.1 0 FUEL (Nat.zero_add _) (by rw [FUEL_eq]; omega)
    unfold f_Sets_isSeen_18 f_Sights_agree
    rw [if_neg (by rw [i32_lt (by omega) (by omega)]; omega), if_neg (by decide), show f_Sights_agree_2 39 247 FUEL 0 M = _ from ha, Option.bind_some]
    dsimp only
    rw [if_neg (by rw [i32_le (by omega) (by omega)]; omega), senF]
    unfold f_Sets_isSeen_56
    cases hb : agrF q.2 yr b q.1 0 with
    | false =>
      rw [if_pos e01_f, if_neg (by decide), nadd_1]
      cases f with
      | zero => omega
      | succ f =>
        unfold f_Sets_isSeen_18
        rw [if_neg (by rw [i32_lt (by omega) (by omega)]; omega), if_pos e01_f, if_pos (show e01 false = 0 ∨ e01 false = 1 from Or.inl rfl)]
        exact OK_some ⟨rfl, hS⟩
    | true =>
      rw [if_neg (show ¬ e01 true = 0 by decide), if_pos rfl]
      refine OK_bind (CQe_year h (by omega)) fun M1 h1 => ?_
      rw [nadd_1]
      exact c_seen18 hG hq hg hL k (yr + 1) f _ M1 (by omega) (by omega) h1.1 (FrSt_trans hS (FrSt_Sm (Sm_Y h1.2)))
theorem agrF_none (q : Nat → Nat × Nat × Nat) (yr : Nat) (b : Nat → B) (i : Nat) : agrF q yr b 0 i = true := rfl
theorem c_isSeen {y : Yd} {ru : Option Nat} {φ : Option (List Int64 → Nat)} {q : Nat × (Nat → Nat × Nat × Nat)} {s : Int32} {M : mM} (hv : VY y) (hY : CY 21 y M) (hr8 : M.2.2.2 269 8 = some 21) (hr9 : M.2.2.2 269 9 = ru) (h6 : M.2.1 269 6 = opn y) (hRL : RL ru φ M) (hG : CG 39 q M) (hq : q.1 ≤ 10) (hg : ∀ k, k < q.1 → (q.2 k).1 < y_m y ∧ (q.2 k).2.1 < 20 ∧ (q.2 k).2.2 ≤ 99) : OK (f_Sets_isSeen s 39 M) fun z => z.1 = e01 (sen y φ q s) ∧ FrSt M z.2 := by
  unfold f_Sets_isSeen
  refine OK_bind (c_startWith hv hY hr8 hr9 h6 hRL) fun M1 h1 => ?_
  have hG' : CG 39 q M1 := CG_of hG fun j hj => (h1.2.2 _ (by omega)).1
  rw [c_last hG' hq fun k hk => (hg k hk).2.2, Option.bind_some]
  dsimp only
  have hle := las_le (q := q.2) (fun k hk => (hg k hk).2.2) q.1 0 0 (Nat.zero_add _) (Nat.zero_le _)
  by_cases c : q.1 = 0
  · rw [if_pos c, show FUEL = 99999 + 1 from rfl, f_Sets_isSeen_18, if_pos (by decide), if_pos (Or.inr rfl)]
    refine OK_some ⟨?_, h1.2.2⟩
    unfold sen
    rw [c]
    show (1 : Int32) = e01 (agrF q.2 0 (bby y s) q.1 0)
    rw [c]
    rfl
  · rw [if_neg c]
    unfold sen
    exact c_seen18 hG hq hg (L := las q) hle (las q) 0 FUEL _ M1 (Nat.zero_add _) (by rw [FUEL_eq]; unfold las; omega) ⟨⟨_, _, h1.1⟩, h1.2.1⟩ h1.2.2
