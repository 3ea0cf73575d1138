/-! ===== the model's numbers and signs ===== -/
theorem m_in2 {v lo h : Nat} (hv : v < 1000000) (hl : lo < 1000000) (hh : h < 1000000) (M : mM) : f_Model_in (Int32.toInt64 (i32 v)) (Int32.toInt64 (i32 lo)) (Int32.toInt64 (i32 h - 1)) M = some (if lo ≤ v ∧ v < h then 1 else 0, M) := by
  unfold f_Model_in
  have eh : (i32 h - 1).toInt = (h : Int) - 1 := by
    by_cases c : h = 0
    · subst c; decide
    · rw [show (1 : Int32) = i32 1 from rfl, i32_sub (by omega), i32_toInt (by omega)]; omega
  have e1 : (Int32.toInt64 (i32 v) < Int32.toInt64 (i32 lo)) = (v < lo) := by
    rw [Int64.lt_iff_toInt_lt, Int32.toInt_toInt64, Int32.toInt_toInt64, i32_toInt (by omega), i32_toInt (by omega)]
    exact propext Int.ofNat_lt
  have e2 : (Int32.toInt64 (i32 h - 1) < Int32.toInt64 (i32 v)) = ¬ (v < h) := by
    rw [Int64.lt_iff_toInt_lt, Int32.toInt_toInt64, Int32.toInt_toInt64, i32_toInt (by omega), eh]
    exact propext ⟨fun z => by omega, fun z => by omega⟩
  simp only [lg_neg, lg_pos, e1, e2]
  by_cases c1 : v < lo
  · rw [if_pos c1, if_neg (by omega)]
  · rw [if_neg c1]
    by_cases c2 : v < h
    · rw [if_neg (by omega), if_pos (by omega)]
    · rw [if_pos c2, if_neg (by omega)]
theorem m_numF {t : Tp} (ht : t.1 ≤ 400) {q lo h : Nat} (hl : lo < 1000000) (hh : h < 1000000) : ∀ (k p f c v : Nat) (M : mM), p + k = t.1 → k < f → c = p - q → q ≤ p → v < 10 ^ (min c 5) → MTk t p M →
    OK (f_Model_numberHere_34 (i32 lo) (i32 h - 1) f (i32 q) (i32 v) M) fun z => FrZ M z.2 ∧ ((nmF t k p c v).2.1 ≤ 5 ∧ lo ≤ (nmF t k p c v).2.2 ∧ (nmF t k p c v).2.2 < h → z.1 = 1 ∧ MTk t (nmF t k p c v).1 z.2 ∧ z.2.2.1 436 10 = i32 (nmF t k p c v).2.2) ∧ (¬ ((nmF t k p c v).2.1 ≤ 5 ∧ lo ≤ (nmF t k p c v).2.2 ∧ (nmF t k p c v).2.2 < h) → z.1 = 0 ∧ MRf t (flt q 1) z.2)
  | k, p, 0, _, _, _, _, hf, _, _, _, _ => absurd hf (Nat.not_lt_zero _)
  | k, p, f + 1, c, v, M, hp, hf, hc, hqp, hv, hM => by
    have h5 : v < 10 ^ 5 := Nat.lt_of_lt_of_le hv (Nat.pow_le_pow_right (by omega) (Nat.min_le_right _ _))
    unfold f_Model_numberHere_34
    rw [hM.2.1, m_digi ht hM.1 (by omega), Option.bind_some]
    cases hd : digi t p with
    | false =>
      have eN : nmF t k p c v = (p, c, v) := by
        cases k with
        | zero => rfl
        | succ k =>
          rw [nmF]
          unfold digi at hd
          rw [decide_eq_true (show p < t.1 by omega), Bool.true_and] at hd
          rw [if_neg (by rw [hd]; exact Bool.false_ne_true)]
      rw [if_pos (show (e01 false, M).1 = 0 from rfl), pI_s, Option.bind_some, gIo (by omega), hM.2.1, i32_sub hqp, eN]
      have hM' : MTk t p (msI M 436 10 (i32 v)) := ⟨MP_Z hM.1 (FrZ_I (by omega)), (gIo (by omega)).trans hM.2.1, (gIo (by omega)).trans hM.2.2.1, hM.2.2.2⟩
      have bad : ¬ (c ≤ 5 ∧ lo ≤ v ∧ v < h) → OK (f_Model_numberHere_117 (i32 lo) (i32 h - 1) (i32 q) (msI M 436 10 (i32 v))) fun z => FrZ M z.2 ∧ (c ≤ 5 ∧ lo ≤ v ∧ v < h → z.1 = 1 ∧ MTk t p z.2 ∧ z.2.2.1 436 10 = i32 v) ∧ (¬ (c ≤ 5 ∧ lo ≤ v ∧ v < h) → z.1 = 0 ∧ MRf t (flt q 1) z.2) := by
        intro hb
        unfold f_Model_numberHere_117
        refine OK_bind (m_fails ht hM' (q := q) (k := 1) (by have := hM.2.2.2; omega) (by omega)) fun z hz => ?_
        refine OK_pos hz.1 (OK_some ⟨FrZ_trans (FrZ_I (by omega)) hz.2.2, fun z => absurd z hb, fun _ => ⟨rfl, hz.2.1⟩⟩)
      by_cases c5 : c ≤ 5
      · rw [if_neg (by rw [show (5 : Int32) = i32 5 from rfl, i32_lt (by omega) (by omega)]; omega), m_in2 (by omega) hl hh, Option.bind_some]
        by_cases cv : lo ≤ v ∧ v < h
        · rw [if_pos cv, if_neg (fun z => absurd z (show ¬ (1 : Int32) = 0 by decide))]
          exact OK_some ⟨FrZ_I (by omega), fun _ => ⟨rfl, hM', gIe _ _ _ _⟩, fun z => absurd ⟨c5, cv⟩ z⟩
        · rw [if_neg cv, if_pos (show ((0 : Int32), msI M 436 10 (i32 v)).1 = 0 from rfl)]
          exact bad fun z => cv z.2
      · rw [if_pos (by rw [show (5 : Int32) = i32 5 from rfl, i32_lt (by omega) (by omega)]; omega)]
        exact bad fun z => c5 z.1
    | true =>
      have hd' := hd
      unfold digi at hd'
      rw [Bool.and_eq_true, decide_eq_true_iff] at hd'
      obtain ⟨hpt, hdD⟩ := hd'
      obtain ⟨k', rfl⟩ : ∃ k', k = k' + 1 := ⟨k - 1, by omega⟩
      have hdg := dig_lt hdD
      rw [if_neg (fun z => absurd z (show ¬ e01 true = 0 by decide)), nmF, if_pos hdD]
      dsimp only
      rw [hM.2.1, i32_sub hqp]
      have step : ∀ x : Nat, x = (if c < 5 then 10 * v + dig (t.2 p) else v) → OK (f_Model_numberHere_75 (i32 lo) (i32 h - 1) (f_Model_numberHere_34 (i32 lo) (i32 h - 1) f) (i32 q) (i32 x) M) fun z => FrZ M z.2 ∧ ((nmF t k' (p + 1) (c + 1) (if c < 5 then 10 * v + dig (t.2 p) else v)).2.1 ≤ 5 ∧ lo ≤ (nmF t k' (p + 1) (c + 1) (if c < 5 then 10 * v + dig (t.2 p) else v)).2.2 ∧ (nmF t k' (p + 1) (c + 1) (if c < 5 then 10 * v + dig (t.2 p) else v)).2.2 < h → z.1 = 1 ∧ MTk t (nmF t k' (p + 1) (c + 1) (if c < 5 then 10 * v + dig (t.2 p) else v)).1 z.2 ∧ z.2.2.1 436 10 = i32 (nmF t k' (p + 1) (c + 1) (if c < 5 then 10 * v + dig (t.2 p) else v)).2.2) ∧ (¬ ((nmF t k' (p + 1) (c + 1) (if c < 5 then 10 * v + dig (t.2 p) else v)).2.1 ≤ 5 ∧ lo ≤ (nmF t k' (p + 1) (c + 1) (if c < 5 then 10 * v + dig (t.2 p) else v)).2.2 ∧ (nmF t k' (p + 1) (c + 1) (if c < 5 then 10 * v + dig (t.2 p) else v)).2.2 < h) → z.1 = 0 ∧ MRf t (flt q 1) z.2) := by
        intro x hx
        have hv' : (if c < 5 then 10 * v + dig (t.2 p) else v) < 10 ^ (min (c + 1) 5) := by
          by_cases c5 : c < 5
          · rw [if_pos c5, show min (c + 1) 5 = c + 1 by omega, Nat.pow_succ]
            rw [show min c 5 = c by omega] at hv
            have := hdg.1
            omega
          · rw [if_neg c5, show min (c + 1) 5 = 5 by omega]
            rw [show min c 5 = 5 by omega] at hv
            exact hv
        subst hx
        unfold f_Model_numberHere_75
        rw [pI_s, Option.bind_some, hM.2.1, nadd_1]
        exact OK_imp (m_numF ht hl hh k' (p + 1) f (c + 1) _ _ (by omega) (by omega) (by omega) (by omega) hv' (MTk_at hM (by omega))) fun z hz => ⟨FrZ_trans (Fr8_Z Fr8_I) hz.1, hz.2⟩
      by_cases c5 : c < 5
      · rw [if_neg (by rw [show (5 : Int32) = i32 5 from rfl, i32_le (by omega) (by omega)]; omega), rd_i32 (by omega) (by omega), Option.bind_some, hM.1.2 p hpt]
        have e : 10 * i32 v + t.2 p - 48 = i32 (10 * v + dig (t.2 p)) := by
          have h1 := hdg.1
          conv => lhs; rw [hdg.2]
          rw [nmul'_10, i32_add, nsub_48 (by omega)]
          congr 1
          omega
        rw [e]
        exact step _ (by rw [if_pos c5])
      · rw [if_pos (by rw [show (5 : Int32) = i32 5 from rfl, i32_le (by omega) (by omega)]; omega)]
        exact step _ (by rw [if_neg c5])
  termination_by _ _ f => f
theorem digi_knd {t : Tp} {q : Nat} : (digi t q = true) = (knd t q = 1) := by
  unfold digi knd
  by_cases c : q < t.1
  · rw [if_pos c, decide_eq_true c, Bool.true_and]
    by_cases d : isD (t.2 q) = true
    · rw [if_pos d, d]; exact propext ⟨fun _ => rfl, fun _ => rfl⟩
    · rw [if_neg d]
      refine propext ⟨fun z => absurd z d, fun z => ?_⟩
      split at z <;> omega
  · rw [if_neg c, decide_eq_false c, Bool.false_and]
    exact propext ⟨fun z => absurd z Bool.false_ne_true, fun z => by omega⟩
/-- a number, the model -/
theorem m_num {t : Tp} (ht : t.1 ≤ 400) {p lo h : Nat} {M : mM} (hl : lo < 1000000) (hh : h < 1000000) (hM : MTk t p M) : OK (f_Model_numberHere (i32 lo) (i32 h - 1) M) fun z => FrZ M z.2 ∧ match nmr t p lo h with
    | .error w => z.1 = 0 ∧ MRf t w z.2
    | .ok v => z.1 = 1 ∧ MTk t (nxp t p) z.2 ∧ z.2.2.1 436 10 = i32 v := by
  unfold f_Model_numberHere
  refine OK_bind (m_see ht hM) fun z1 h1 => ?_
  obtain ⟨-, m1, f1⟩ := h1
  have hq := m1.2.2.2
  rw [m1.2.1, m_digi ht m1.1 (by omega), Option.bind_some]
  cases hd : digi t (skp t p) with
  | false =>
    have hk : ¬ knd t (skp t p) = 1 := by rw [← digi_knd, hd]; exact Bool.false_ne_true
    have e : nmr t p lo h = .error (flt (skp t p) 0) := by unfold nmr; rw [if_neg hk]
    rw [if_pos (show (e01 false, z1.2).1 = 0 from rfl), e]
    dsimp only
    rw [m1.2.1]
    exact bz0 (OK_imp (m_fails ht m1 (k := 0) hq (by omega)) fun z hz => ⟨hz.1, FrZ_trans (Fr8_Z f1) hz.2.2, rfl, hz.2.1⟩)
  | true =>
    have hk : knd t (skp t p) = 1 := by rw [← digi_knd]; exact hd
    rw [if_neg (fun z => absurd z (show ¬ e01 true = 0 by decide))]
    dsimp only
    rw [m1.2.1]
    refine OK_imp (m_numF ht hl hh (t.1 - skp t p) (skp t p) FUEL 0 0 z1.2 (by omega) (by rw [FUEL_eq]; omega) (by omega) (Nat.le_refl _) (by decide) m1) fun z hz => ⟨FrZ_trans (Fr8_Z f1) hz.1, ?_⟩
    have hz2 := hz.2
    rw [show nmF t (t.1 - skp t p) (skp t p) 0 0 = nmE t (skp t p) from rfl] at hz2
    unfold nmr
    rw [if_pos hk]
    by_cases c : (nmE t (skp t p)).2.1 ≤ 5 ∧ lo ≤ (nmE t (skp t p)).2.2 ∧ (nmE t (skp t p)).2.2 < h
    · rw [if_pos c]
      have := hz2.1 c
      refine ⟨this.1, ?_, this.2.2⟩
      unfold nxp
      rw [bhd_1 hk]
      exact this.2.1
    · rw [if_neg c]
      exact hz2.2 c
/-! bytes -/
theorem b8 (z : Int8) : z = Int8.ofNat z.toBitVec.toNat := by
  rw [← Int8.toBitVec_inj]
  show z.toBitVec = BitVec.ofNat 8 z.toBitVec.toNat
  rw [BitVec.ofNat_toNat, BitVec.setWidth_eq]
def sgL2 : List Int32 := [37, 42, 43, 45, 47, 59, 60, 61, 62, 91, 93]
theorem b8_all : ∀ n : Fin 256, ((Int8.ofNat n.1).toInt32 &&& 255 ≠ -1) ∧ ∀ c, c ∈ sgL2 → ((Int8.ofNat n.1).toInt32 &&& 255 = c ↔ (Int8.ofNat n.1).toInt32 = c) := by decide +kernel
theorem b8_c {t : Tp} (hT : OKT t) {q : Nat} (hq : q < t.1) : t.2 q &&& 255 ≠ -1 ∧ ∀ c, c ∈ sgL2 → (t.2 q &&& 255 = c ↔ t.2 q = c) := by
  obtain ⟨z, hz⟩ := hT q hq
  rw [hz, b8 z]
  exact b8_all ⟨z.toBitVec.toNat, z.toBitVec.isLt⟩
theorem byv_end {t : Tp} (hT : OKT t) {q : Nat} : (byv t q = -1) = (knd t q = 0) := by
  unfold byv knd
  by_cases c : q < t.1
  · rw [if_pos c, if_pos c]
    refine propext ⟨fun z => absurd z (b8_c hT c).1, fun z => ?_⟩
    split at z
    · omega
    · split at z <;> omega
  · rw [if_neg c, if_neg c]
    exact propext ⟨fun _ => rfl, fun _ => rfl⟩
theorem sgL2_ok : ∀ c, c ∈ sgL2 → isD c = false ∧ isA c = false ∧ c ≠ -1 ∧ c ≠ 316 ∧ c ≠ 318 := by decide +kernel
/-- a sign's byte -/
theorem byv_c {t : Tp} (hT : OKT t) {q : Nat} {c : Int32} (hc : c ∈ sgL2) : (byv t q = c) = (q < t.1 ∧ t.2 q = c) := by
  unfold byv
  by_cases d : q < t.1
  · rw [if_pos d]
    exact propext ⟨fun z => ⟨d, ((b8_c hT d).2 c hc).mp z⟩, fun z => ((b8_c hT d).2 c hc).mpr z.2⟩
  · rw [if_neg d]
    exact propext ⟨fun z => absurd z.symm (sgL2_ok c hc).2.2.1, fun z => absurd z.1 d⟩
theorem knd_c {t : Tp} {q : Nat} {c : Int32} (hc : c ∈ sgL2) (h : q < t.1 ∧ t.2 q = c) : knd t q = 3 := by
  obtain ⟨h1, h2, -⟩ := sgL2_ok c hc
  unfold knd
  rw [if_pos h.1, h.2, if_neg (by rw [h1]; exact Bool.false_ne_true), if_neg (by rw [h2]; exact Bool.false_ne_true)]
theorem knd_lt {t : Tp} {q : Nat} (h : knd t q ≠ 0) : q < t.1 := by
  unfold knd at h
  by_cases c : q < t.1
  · exact c
  · rw [if_neg c] at h
    exact absurd rfl h
theorem two_60 {t : Tp} {q : Nat} (h : two t q = true) : t.2 q = 60 ∨ t.2 q = 62 := by
  unfold two at h
  rw [Bool.and_eq_true, Bool.and_eq_true, Bool.or_eq_true, decide_eq_true_iff, decide_eq_true_iff] at h
  exact h.1.1
/-- a sign of one byte -/
theorem byv_sgn {t : Tp} (hT : OKT t) {p : Nat} {c : Int32} (hc : c ∈ sgL2) (h60 : c ≠ 60) (h62 : c ≠ 62) : (byv t (skp t p) = c) = (sgn t p c = true) := by
  rw [byv_c hT hc]
  unfold sgn
  rw [Bool.and_eq_true, decide_eq_true_iff, decide_eq_true_iff]
  refine propext ⟨fun h => ?_, fun h => ?_⟩
  · have hk := knd_c hc h
    have h2 : ¬ two t (skp t p) = true := by
      intro z
      rcases two_60 z with z | z
      · rw [h.2] at z; exact h60 z
      · rw [h.2] at z; exact h62 z
    exact ⟨hk, by rw [val_3 hk, if_neg h2]; exact h.2⟩
  · obtain ⟨hk, hv⟩ := h
    have hl := knd_lt (t := t) (q := skp t p) (by rw [hk]; decide)
    rw [val_3 hk] at hv
    by_cases h2 : two t (skp t p) = true
    · rw [if_pos h2] at hv
      rcases two_60 h2 with z | z
      · rw [z] at hv
        exact absurd hv.symm (sgL2_ok c hc).2.2.2.1
      · rw [z] at hv
        exact absurd hv.symm (sgL2_ok c hc).2.2.2.2
    · rw [if_neg h2] at hv
      exact ⟨hl, hv⟩
/-- behind a sign of one byte -/
theorem nxp_sgn {t : Tp} {p : Nat} {c : Int32} (h60 : c ≠ 60) (h62 : c ≠ 62) (h316 : c ≠ 316) (h318 : c ≠ 318) (h : sgn t p c = true) : nxp t p = skp t p + 1 := by
  unfold sgn at h
  rw [Bool.and_eq_true, decide_eq_true_iff, decide_eq_true_iff] at h
  obtain ⟨hk, hv⟩ := h
  rw [val_3 hk] at hv
  unfold nxp
  rw [bhd_3 hk]
  by_cases h2 : two t (skp t p) = true
  · rw [if_pos h2] at hv
    rcases two_60 h2 with z | z
    · rw [z] at hv
      exact absurd hv.symm h316
    · rw [z] at hv
      exact absurd hv.symm h318
  · rw [if_neg h2]
