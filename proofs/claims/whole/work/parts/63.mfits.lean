/-! ===== sets: the model's sights ===== -/
theorem yB_bar (y : Yd) (φ : Option (List Int64 → Nat)) (n yr : Nat) (fl : Bool) (b : Nat → B) : yB (bar y) φ n yr fl b = yB y φ n yr fl b := by
  unfold yB
  rw [yea_bar]
theorem m_last4 {q : Nat × (Nat → Nat × Nat × Nat)} {M : mM} (h : MG q (M.2.1 446)) (hq : q.1 ≤ 10) (hy : ∀ k, k < q.1 → (q.2 k).2.2 ≤ 99) : ∀ (k i f a : Nat), i + k = q.1 → k < f → a ≤ 99 → f_Model_lastSight_4 f (i32 a) (i32 i) M = some (i32 (lasF q.2 k i a), M)
  | _, _, 0, _, _, hf, _ => absurd hf (Nat.not_lt_zero _)
  | 0, i, f + 1, a, hi, hf, ha => by
    unfold f_Model_lastSight_4
    rw [show (185 : Int32) = i32 185 from rfl, rd_i32 (by omega) (by omega), Option.bind_some, h.1, if_pos (by rw [i32_le (by omega) (by omega)]; omega)]
    rfl
  | k + 1, i, f + 1, a, hi, hf, ha => by
    have h3 := (h.2 i (by omega)).2.2
    have hy' := hy i (by omega)
    have ex : (155 : Int32) + 3 * i32 i + 2 = i32 (155 + 3 * i + 2) := by rw [nmul'_3, nadd'_155, nadd_2]
    unfold f_Model_lastSight_4 f_Model_lastSight_52
    rw [show (185 : Int32) = i32 185 from rfl, rd_i32 (by omega) (by omega), Option.bind_some, h.1, if_neg (by rw [i32_le (by omega) (by omega)]; omega), ex, rd_i32 (by omega) (by omega), Option.bind_some, h3, nadd_1, lasF]
    by_cases c : a < (q.2 i).2.2
    · rw [if_neg (by rw [i32_le (by omega) (by omega)]; omega), Option.bind_some, if_pos c]
      exact m_last4 h hq hy k (i + 1) f _ (by omega) (by omega) hy'
    · rw [if_pos (by rw [i32_le (by omega) (by omega)]; omega), if_neg c]
      exact m_last4 h hq hy k (i + 1) f _ (by omega) (by omega) ha
theorem m_seen2 {y : Yd} {φ : Option (List Int64 → Nat)} {n yr : Nat} {b : Nat → B} {q : Nat × (Nat → Nat × Nat × Nat)} {M : mM} (h : MYr y φ n yr b false M) (hG : MG q (M.2.1 446)) (hq : q.1 ≤ 10) (hg : ∀ k, k < q.1 → (q.2 k).1 < n ∧ (q.2 k).2.1 < 20 ∧ (q.2 k).2.2 ≤ 99) (hy : yr < 2147483648) : ∀ (k i f : Nat), i + k = q.1 → k < f → f_Model_isSeenSo_2 f (i32 i) M = some (e01 (agrF q.2 yr b k i), M)
  | _, _, 0, _, hf => absurd hf (Nat.not_lt_zero _)
  | 0, i, f + 1, hi, hf => by
    unfold f_Model_isSeenSo_2
    rw [show (185 : Int32) = i32 185 from rfl, rd_i32 (by omega) (by omega), Option.bind_some, hG.1, if_pos (by rw [i32_le (by omega) (by omega)]; omega)]
    rfl
  | k + 1, i, f + 1, hi, hf => by
    have ih := m_seen2 h hG hq hg hy k (i + 1) f (by omega) (by omega)
    have hn := h.2.2.2.2.1.2.2.1
    obtain ⟨g1, g2, g3⟩ := hG.2 i (by omega)
    obtain ⟨b1, b2, b3⟩ := hg i (by omega)
    have a2 := (h.2.2.2.1.2.2.2.2.2 _ b1).1.2.1
    have e3 : M.2.1 446 3 = i32 yr := h.2.2.2.1.2.2.2.1
    have ex : (155 : Int32) + 3 * i32 i = i32 (155 + 3 * i) := by rw [nmul'_3, nadd'_155]
    unfold f_Model_isSeenSo_2 f_Model_isSeenSo_63
    rw [show (185 : Int32) = i32 185 from rfl, rd_i32 (by omega) (by omega), Option.bind_some, hG.1, if_neg (by rw [i32_le (by omega) (by omega)]; omega), ex, nadd_2, nadd_1, nadd_1, rd_i32 (by omega) (by omega), Option.bind_some, rd_3 (by omega) (by omega), Option.bind_some, g3, e3, agrF]
    by_cases c : (q.2 i).2.2 = yr
    · rw [if_pos (by rw [c]), rd_i32 (by omega) (by omega), Option.bind_some, g1, m_g1 (by omega), Option.bind_some]
      dsimp only
      rw [rd_i32 (by omega) (by omega), Option.bind_some, a2, g2]
      by_cases c3 : eC (b (q.2 i).1).1 = i32 (q.2 i).2.1
      · rw [if_pos c3, if_neg (fun z => z.2 c3)]
        exact ih
      · rw [if_neg c3, if_pos ⟨c, c3⟩]
        rfl
    · rw [if_neg (by rw [i32_eq (by omega) (by omega)]; exact c), if_neg (fun z => c z.1)]
      exact ih
theorem MG_H5 {q : Nat × (Nat → Nat × Nat × Nat)} {M0 M : mM} (h : MG q (M0.2.1 446)) (h5 : H5 M0 M) : MG q (M.2.1 446) := ⟨(h5.2 _ (by omega)).trans h.1, fun k hk => by
  obtain ⟨a1, a2, a3⟩ := h.2 k hk
  exact ⟨(h5.2 _ (by omega)).trans a1, (h5.2 _ (by omega)).trans a2, (h5.2 _ (by omega)).trans a3⟩⟩
def Sc (M M' : mM) : Prop := M'.2.1 451 = M.2.1 451 ∧ M'.2.1 452 = M.2.1 452 ∧ M'.2.1 436 33 = M.2.1 436 33
theorem Sc_refl (M : mM) : Sc M M := ⟨rfl, rfl, rfl⟩
theorem Sc_trans {M M' M'' : mM} (h : Sc M M') (h' : Sc M' M'') : Sc M M'' := ⟨h'.1.trans h.1, h'.2.1.trans h.2.1, h'.2.2.trans h.2.2⟩
theorem Sc_P {M M' : mM} (h : FrP M M') : Sc M M' := ⟨h.2.1 451 (by omega) (by omega) (by omega) (by omega), h.2.1 452 (by omega) (by omega) (by omega) (by omega), h.2.2.1 33 (by omega) (by omega) (by omega) (by omega)⟩
theorem Sc_S {M M' : mM} (h : Sm 446 447 M M') : Sc M M' := ⟨Sm_i h (by omega), Sm_i h (by omega), by rw [Sm_i h (by omega)]⟩
theorem m_fits15 {g : Gx} {s : Int32} {M0 : mM} (hg : VG g) (hm : RMm g M0) {L : Nat} (hL : L ≤ 99) : ∀ (k yr f : Nat) (b : Nat → B) (M : mM), yr + k = L → k < f → MYr (bar g.1.1) (phi g.1.2.2.2.1 g.2.2.1.2) (y_m g.1.1) yr b false M → H5 M0 M → OK (f_Model_fitsSights_15 s f (i32 L) (e01 (agrF g.1.2.2.1.2 yr b g.1.2.2.1.1 0)) M) fun z => z.1 = e01 (senF g.1.1 (phi g.1.2.2.2.1 g.2.2.1.2) g.1.2.2.1 k yr b) ∧ H5 M0 z.2 ∧ FrL M z.2 ∧ z.2.2.1 436 26 = 0 ∧ Sc M z.2
  | _, _, 0, _, _, _, hf, _, _ => absurd hf (Nat.not_lt_zero _)
  | 0, yr, f + 1, b, M, hy, hf, h, h5 => by
    have e3 : M.2.1 446 3 = i32 yr := h.2.2.2.1.2.2.2.1
    have fin : OK (if e01 (agrF g.1.2.2.1.2 yr b g.1.2.2.1.1 0) = 0 ∨ e01 (agrF g.1.2.2.1.2 yr b g.1.2.2.1.1 0) = 1 then some (e01 (agrF g.1.2.2.1.2 yr b g.1.2.2.1.1 0), M) else none) fun z => z.1 = e01 (senF g.1.1 (phi g.1.2.2.2.1 g.2.2.1.2) g.1.2.2.1 0 yr b) ∧ H5 M0 z.2 ∧ FrL M z.2 ∧ z.2.2.1 436 26 = 0 ∧ Sc M z.2 := by
      rw [if_pos (by cases agrF g.1.2.2.1.2 yr b g.1.2.2.1.1 0; exact Or.inl rfl; exact Or.inr rfl)]
      exact OK_some ⟨rfl, h5, FrL_refl _, h.2.2.2.2.2.1.2, Sc_refl _⟩
    unfold f_Model_fitsSights_15
    split
    · exact fin
    · rw [rd_3 (by omega) (by omega), Option.bind_some, e3, if_pos (by rw [i32_le (by omega) (by omega)]; omega)]
      exact fin
  | k + 1, yr, f + 1, b, M, hy, hf, h, h5 => by
    have e3 : M.2.1 446 3 = i32 yr := h.2.2.2.1.2.2.2.1
    unfold f_Model_fitsSights_15
    rw [senF]
    cases hb : agrF g.1.2.2.1.2 yr b g.1.2.2.1.1 0 with
    | false =>
      rw [if_pos e01_f, if_pos (show e01 false = 0 ∨ e01 false = 1 from Or.inl rfl), if_neg (by decide)]
      exact OK_some ⟨rfl, h5, FrL_refl _, h.2.2.2.2.2.1.2, Sc_refl _⟩
    | true =>
      rw [if_neg (show ¬ e01 true = 0 by decide), rd_3 (by omega) (by omega), Option.bind_some, e3, if_neg (by rw [i32_le (by omega) (by omega)]; omega), if_pos rfl]
      refine OK_bind (MYr_year h (by omega)) fun z1 h1 => ?_
      rw [Bool.false_or] at h1
      have hM := h1.2.1
      rw [yB_bar, show flo (bar g.1.1) yr = flo g.1.1 yr from rfl] at hM
      have h5' := H5_trans h5 (H5_P h1.2.2.1)
      have hq := hg.1.2.2.1
      have v2 := hg.1.1.2.1
      have hs := m_seen2 hM (MG_H5 hm.1.2.2.1 h5') hq (fun k hk => by have := hg.1.2.2.2.1 k hk; omega) (by omega) g.1.2.2.1.1 0 FUEL (Nat.zero_add _) (by rw [FUEL_eq]; omega)
      unfold f_Model_isSeenSo
      rw [show f_Model_isSeenSo_2 FUEL 0 z1.2 = _ from hs, Option.bind_some]
      exact OK_imp (m_fits15 hg hm hL k (yr + 1) f _ z1.2 (by omega) (by omega) hM h5') fun z hz => ⟨hz.1, hz.2.1, FrL_trans (FrL_P h1.2.2.1) hz.2.2.1, hz.2.2.2.1, Sc_trans (Sc_P h1.2.2.1) hz.2.2.2.2⟩
theorem FrL_S {M M' : mM} (h : Sm 446 447 M M') (e : ∀ i, 131 ≤ i → M'.2.1 446 i = M.2.1 446 i) : FrL M M' := ⟨fun p hp => Sm_r h (by omega), fun p a b _ _ _ _ => Sm_i h (by omega), fun i _ => by rw [Sm_i h (by omega)], e⟩
theorem m_fits {g : Gx} {s : Int32} {M0 M : mM} (hg : VG g) (hm : RMm g M0) (hL : 0 < y_L g.1.1) (h5 : H5 M0 M) (eK : ∀ p, p = 438 ∨ p = 440 ∨ p = 441 → M.2.1 p = M0.2.1 p) (e21 : M.2.1 436 21 = M0.2.1 436 21) (e26 : M.2.1 436 26 = 0) : OK (f_Model_fitsSights s M) fun z => z.1 = e01 (sen g.1.1 (phi g.1.2.2.2.1 g.2.2.1.2) g.1.2.2.1 s) ∧ H5 M0 z.2 ∧ FrL M z.2 ∧ z.2.2.1 436 26 = 0 ∧ Sc M z.2 := by
  have hq := hg.1.2.2.1
  have v2 := hg.1.1.2.1
  have hG := hg.1.2.2.2.1
  unfold f_Model_fitsSights
  refine OK_bind (m_beginsBy (s := s) hg hm hL h5 eK e21 e26) fun M1 h1 => ?_
  obtain ⟨b1, b2, b3⟩ := h1
  have hF : FrL M M1 := FrL_S b1 fun i hi => (b2.2 i hi).trans (h5.2 i hi).symm
  have hl := m_last4 (MG_H5 hm.1.2.2.1 b2) hq (fun k hk => (hG k hk).2.2) g.1.2.2.1.1 0 FUEL 0 (Nat.zero_add _) (by rw [FUEL_eq]; omega) (Nat.zero_le _)
  unfold f_Model_lastSight
  rw [show f_Model_lastSight_4 FUEL 0 0 M1 = _ from hl, Option.bind_some]
  dsimp only
  have hs := m_seen2 b3 (MG_H5 hm.1.2.2.1 b2) hq (fun k hk => by have := hG k hk; omega) (by omega) g.1.2.2.1.1 0 FUEL (Nat.zero_add _) (by rw [FUEL_eq]; omega)
  unfold f_Model_isSeenSo
  rw [show f_Model_isSeenSo_2 FUEL 0 M1 = _ from hs, Option.bind_some]
  dsimp only
  have hle := las_le (q := g.1.2.2.1.2) (fun k hk => (hG k hk).2.2) g.1.2.2.1.1 0 0 (Nat.zero_add _) (Nat.zero_le _)
  exact OK_imp (m_fits15 (s := s) hg hm hle (lasF g.1.2.2.1.2 g.1.2.2.1.1 0 0) 0 FUEL _ M1 (Nat.zero_add _) (by rw [FUEL_eq]; omega) b3 b2) fun z hz => ⟨hz.1, hz.2.1, FrL_trans hF hz.2.2.1, hz.2.2.2.1, Sc_trans (Sc_S b1) hz.2.2.2.2⟩
/-! bits -/
theorem i32_or (a b : Nat) : i32 a ||| i32 b = i32 (a ||| b) := by
  rw [← Int32.toBitVec_inj, Int32.toBitVec_or]
  exact (BitVec.ofNat_or).symm
theorem opnF_nat (y : Yd) : ∀ (k i a : Nat), i + k ≤ 10 → a < 1024 → ∃ o, o < 1024 ∧ opnF y k i (i32 a) = i32 o
  | 0, i, a, _, ha => ⟨a, ha, rfl⟩
  | k + 1, i, a, hi, ha => by
    rw [opnF]
    have hb : ∃ b, b < 1024 ∧ (if (y_t y i).2.2 = 0 ∨ (y_t y i).2.2 = 2 then (1 : Int32) <<< (i32 i &&& 31) else 0) = i32 b := by
      split
      · have h10 : i = 0 ∨ i = 1 ∨ i = 2 ∨ i = 3 ∨ i = 4 ∨ i = 5 ∨ i = 6 ∨ i = 7 ∨ i = 8 ∨ i = 9 := by omega
        rcases h10 with rfl | rfl | rfl | rfl | rfl | rfl | rfl | rfl | rfl | rfl
        · exact ⟨1, by omega, by decide⟩
        · exact ⟨2, by omega, by decide⟩
        · exact ⟨4, by omega, by decide⟩
        · exact ⟨8, by omega, by decide⟩
        · exact ⟨16, by omega, by decide⟩
        · exact ⟨32, by omega, by decide⟩
        · exact ⟨64, by omega, by decide⟩
        · exact ⟨128, by omega, by decide⟩
        · exact ⟨256, by omega, by decide⟩
        · exact ⟨512, by omega, by decide⟩
      · exact ⟨0, by omega, rfl⟩
    obtain ⟨b, hb1, hb2⟩ := hb
    rw [hb2, i32_or]
    exact opnF_nat y k (i + 1) (a ||| b) (by omega) (Nat.or_lt_two_pow (n := 10) ha hb1)
theorem opn_nat {y : Yd} (hv : VY y) : ∃ o, o < 1024 ∧ opn y = i32 o := opnF_nat y (y_m y) 0 0 (by have := hv.2.2.1; omega) (by omega)
theorem sub_le {s o : Nat} (hs : s < 2147483648) (ho : o < 2147483648) (h : (i32 s &&& (i32 o ^^^ (-1))) = 0) : s ≤ o := by
  rw [← Int32.toBitVec_inj, Int32.toBitVec_and, Int32.toBitVec_xor] at h
  have e1 : (i32 s).toBitVec = BitVec.ofNat 32 s := rfl
  have e2 : (i32 o).toBitVec = BitVec.ofNat 32 o := rfl
  have e3 : ((-1 : Int32)).toBitVec = BitVec.allOnes 32 := by decide
  have e0 : ((0 : Int32)).toBitVec = 0#32 := rfl
  rw [e1, e2, e3, e0] at h
  have hb : BitVec.ofNat 32 s = BitVec.ofNat 32 s &&& BitVec.ofNat 32 o := by
    refine BitVec.eq_of_getLsbD_eq fun i hi => ?_
    have := congrArg (fun v => v.getLsbD i) h
    simp only [BitVec.getLsbD_and, BitVec.getLsbD_xor, BitVec.getLsbD_allOnes, BitVec.getLsbD_zero, hi, decide_true, Bool.xor_true] at this
    rw [BitVec.getLsbD_and]
    cases h1 : (BitVec.ofNat 32 s).getLsbD i with
    | false => rfl
    | true =>
      rw [h1] at this
      cases h2 : (BitVec.ofNat 32 o).getLsbD i with
      | true => rfl
      | false =>
        rw [h2] at this
        cases this
  have hn := congrArg BitVec.toNat hb
  rw [BitVec.toNat_and, BitVec.toNat_ofNat, BitVec.toNat_ofNat, Nat.mod_eq_of_lt (by omega), Nat.mod_eq_of_lt (by omega)] at hn
  rw [hn]
  exact Nat.and_le_right
theorem fndF_nil {y : Yd} {φ : Option (List Int64 → Nat)} {q : Nat × (Nat → Nat × Nat × Nat)} {o : Nat} (ho : opn y = i32 o) (ho2 : o < 1024) : ∀ (k i : Nat), o < i → i + k ≤ 1024 → fndF y φ q k i = []
  | 0, i, _, _ => rfl
  | k + 1, i, h, hk => by
    rw [fndF, if_neg]
    · exact fndF_nil ho ho2 k (i + 1) (by omega) (by omega)
    · intro z
      have := z.1
      rw [ho] at this
      have := sub_le (by omega) (by omega) this
      omega
