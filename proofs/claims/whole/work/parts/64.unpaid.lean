/-! ===== unpaid ===== -/
theorem m_gather16 {g : Gx} {M0 M1 : mM} (hg : VG g) (hm : RMm g M0) (hL : 0 < y_L g.1.1) (hK : Kp M0 M1) {o : Nat} (ho : opn g.1.1 = i32 o) (ho2 : o < 1024) : ∀ (k i f : Nat) (F : List Nat) (M : mM), i + k = o + 1 → k < f → F.length ≤ i → M.2.1 436 33 = i32 F.length → FdR 451 0 F M → H5 M0 M → FrL M1 M → M.2.1 436 26 = 0 → OK (f_Model_gathersFit_16 f (i32 o) (i32 i) M) fun M' => FrB M0 M' ∧ M'.2.1 436 26 = 0 ∧ M'.2.1 436 33 = i32 (F ++ fndF g.1.1 (phi g.1.2.2.2.1 g.2.2.1.2) g.1.2.2.1 (k + (1023 - o)) i).length ∧ FdR 451 0 (F ++ fndF g.1.1 (phi g.1.2.2.2.1 g.2.2.1.2) g.1.2.2.1 (k + (1023 - o)) i) M'
  | _, _, 0, _, _, _, hf, _, _, _, _, _, _ => absurd hf (Nat.not_lt_zero _)
  | 0, i, f + 1, F, M, hi, hf, hl, h33, hR, h5, hF, h26 => by
    unfold f_Model_gathersFit_16
    rw [if_pos (by rw [i32_lt (by omega) (by omega)]; omega), fndF_nil ho ho2 _ i (by omega) (by omega), List.append_nil]
    refine OK_bind (m_lay hK hF) fun M3 h3 => OK_some ⟨h3.1, by rw [h3.2.1]; exact h26, by rw [h3.2.1]; exact h33, fun j hj => ?_⟩
    rw [Sm_i h3.2.2.2.2.2 (by omega)]
    exact hR j hj
  | k + 1, i, f + 1, F, M, hi, hf, hl, h33, hR, h5, hF, h26 => by
    unfold f_Model_gathersFit_16 f_Model_gathersFit_60
    rw [if_neg (by rw [i32_lt (by omega) (by omega)]; omega), show k + 1 + (1023 - o) = k + (1023 - o) + 1 by omega, fndF, ho]
    simp only [nadd_1]
    by_cases c : (i32 i &&& (i32 o ^^^ -1)) = 0
    · rw [if_pos c]
      refine OK_bind (m_fits (s := i32 i) hg hm hL h5 (fun p hp => ?_) ?_ h26) fun z hz => ?_
      · rw [hF.2.1 p (by omega) (by omega) (by omega) (by omega) (by omega) (by omega), Sm_i hK.1 (by omega)]
      · rw [hF.2.2.1 21 (by omega), Sm_i hK.1 (by omega)]
      · obtain ⟨z1, z2, z3, z4, z5, z6, z7⟩ := hz
        have e33 : z.2.2.1 436 33 = i32 F.length := z7.trans h33
        have hR' : FdR 451 0 F z.2 := fun j hj => by rw [z5]; exact hR j hj
        rw [z1]
        cases hs : sen g.1.1 (phi g.1.2.2.2.1 g.2.2.1.2) g.1.2.2.1 (i32 i) with
        | false =>
          rw [if_pos e01_f, if_neg (fun w => absurd w.2 (by decide))]
          exact m_gather16 hg hm hL hK ho ho2 k (i + 1) f F z.2 (by omega) (by omega) (by omega) e33 hR' z2 (FrL_trans hF z3) z4
        | true =>
          rw [if_neg (show ¬ e01 true = 0 by decide), e33, wr_i32 (by omega) (by omega), Option.bind_some, pI_s, Option.bind_some, gIp (by omega), e33, nadd_1, if_pos ⟨c, rfl⟩]
          have key := m_gather16 hg hm hL hK ho ho2 k (i + 1) f (F ++ [i]) (msI (msI z.2 451 F.length (i32 i)) 436 33 (i32 (F.length + 1))) (by omega) (by omega) (by rw [List.length_append, List.length_singleton]; omega) (by rw [gIe, List.length_append, List.length_singleton]) (FdR_add hR' (fun j hj => by rw [gIp (by omega), gIo (by omega)]) (by rw [gIp (by omega), gIe])) (H5_trans z2 ⟨fun j hj => by rw [gIp (by omega), gIp (by omega)], fun j hj => by rw [gIp (by omega), gIp (by omega)]⟩) (FrL_trans (FrL_trans hF z3) ⟨fun p hp => rfl, fun p a b _ _ e1 _ => by rw [gIp a, gIp e1], fun j hj => by rw [gIo (by omega), gIp (by omega)], fun j hj => by rw [gIp (by omega), gIp (by omega)]⟩) (by rw [gIo (by omega), gIp (by omega)]; exact z4)
          rw [List.append_assoc, List.singleton_append] at key
          exact key
    · rw [if_neg c, if_neg (fun w => c w.1)]
      exact m_gather16 hg hm hL hK ho ho2 k (i + 1) f F M (by omega) (by omega) (by omega) h33 hR h5 hF h26
theorem m_gather {g : Gx} {M : mM} (hg : VG g) (hm : RMm g M) (hL : 0 < y_L g.1.1) : OK (f_Model_gathersFit M) fun M' => FrB M M' ∧ M'.2.1 436 26 = 0 ∧ M'.2.1 436 33 = i32 (fnd g.1.1 (phi g.1.2.2.2.1 g.2.2.1.2) g.1.2.2.1).length ∧ FdR 451 0 (fnd g.1.1 (phi g.1.2.2.2.1 g.2.2.1.2) g.1.2.2.1) M' := by
  obtain ⟨o, ho2, ho⟩ := opn_nat hg.1.1
  unfold f_Model_gathersFit
  rw [m_inQuestion hg.1.1 hm.1.1.2.2.2.1 hm.1.2.2.2, Option.bind_some]
  dsimp only
  refine OK_bind (m_keeps M) fun M1 h1 => ?_
  obtain ⟨k1, k2, k3⟩ := h1
  rw [pI_s, Option.bind_some, ho]
  have key := m_gather16 hg hm hL ⟨k1, k2⟩ ho ho2 (o + 1) 0 FUEL [] (msI M1 436 33 0) (Nat.zero_add _) (by rw [FUEL_eq]; omega) (Nat.le_refl _) (gIe _ _ _ _) (fun k hk => absurd hk (Nat.not_lt_zero _)) ⟨fun i hi => by rw [gIp (by omega), Sm_i k1 (by omega)], fun i hi => by rw [gIp (by omega), Sm_i k1 (by omega)]⟩ ⟨fun p hp => rfl, fun p a _ _ _ _ _ => gIp a, fun i hi => gIo (by omega), fun i hi => by rw [gIp (by omega)]⟩ (by rw [gIo (by omega), Sm_i k1 (by omega)]; exact hm.2.2.2.1)
  rw [List.nil_append, show o + 1 + (1023 - o) = 1024 by omega] at key
  exact key
def anF (F : List Nat) : Nat → Nat → Int32 → Int32
  | 0, _, a => a
  | k + 1, i, a => anF F k (i + 1) (a &&& i32 (F.getD i 0))
def noF (F : List Nat) : Nat → Nat → Int32 → Int32
  | 0, _, a => a
  | k + 1, i, a => noF F k (i + 1) (a &&& (i32 (F.getD i 0) ^^^ (-1)))
def orG (F : List Nat) : Nat → Nat → Int32 → Int32
  | 0, _, a => a
  | k + 1, i, a => orG F k (i + 1) (a ||| i32 (F.getD i 0))
theorem and_not (a b x : Int32) : (a &&& (b ^^^ (-1))) &&& (x ^^^ (-1)) = a &&& ((b ||| x) ^^^ (-1)) := by
  rw [← Int32.toBitVec_inj]
  simp only [Int32.toBitVec_and, Int32.toBitVec_xor, Int32.toBitVec_or]
  have e3 : ((-1 : Int32)).toBitVec = BitVec.allOnes 32 := by decide
  rw [e3]
  refine BitVec.eq_of_getLsbD_eq fun i hi => ?_
  simp only [BitVec.getLsbD_and, BitVec.getLsbD_xor, BitVec.getLsbD_or, BitVec.getLsbD_allOnes, hi, decide_true, Bool.xor_true]
  cases a.toBitVec.getLsbD i <;> cases b.toBitVec.getLsbD i <;> cases x.toBitVec.getLsbD i <;> rfl
theorem and_not0 (a : Int32) : a &&& (0 ^^^ (-1)) = a := by
  rw [← Int32.toBitVec_inj]
  simp only [Int32.toBitVec_and, Int32.toBitVec_xor]
  have e3 : ((-1 : Int32)).toBitVec = BitVec.allOnes 32 := by decide
  have e0 : ((0 : Int32)).toBitVec = 0#32 := rfl
  rw [e3, e0]
  refine BitVec.eq_of_getLsbD_eq fun i hi => ?_
  simp only [BitVec.getLsbD_and, BitVec.getLsbD_xor, BitVec.getLsbD_allOnes, BitVec.getLsbD_zero, hi, decide_true, Bool.xor_true, Bool.not_false, Bool.and_true]
theorem noF_or (F : List Nat) (a : Int32) : ∀ (k i : Nat) (b : Int32), noF F k i (a &&& (b ^^^ (-1))) = a &&& (orG F k i b ^^^ (-1))
  | 0, i, b => rfl
  | k + 1, i, b => by
    rw [noF, orG, and_not]
    exact noF_or F a k (i + 1) _
theorem c_inAll18 {F : List Nat} {M : mM} (h1 : M.2.1 269 1 = i32 F.length) (hR : FdR 270 0 F M) (hl : F.length ≤ 1024) : ∀ (k i f : Nat) (a : Int32), i + k = F.length → k < f → f_Sets_inAll_18 f a (i32 i) M = some (anF F k i a, M)
  | _, _, 0, _, _, hf => absurd hf (Nat.not_lt_zero _)
  | 0, i, f + 1, a, hi, hf => by
    unfold f_Sets_inAll_18
    rw [h1, if_pos (by rw [i32_le (by omega) (by omega)]; omega)]
    rfl
  | k + 1, i, f + 1, a, hi, hf => by
    unfold f_Sets_inAll_18
    rw [h1, if_neg (by rw [i32_le (by omega) (by omega)]; omega), if_neg (by rw [show (1024 : Int32) = i32 1024 from rfl, i32_le (by omega) (by omega)]; omega), rd_i32 (by omega) (by omega), Option.bind_some, hR i (by omega), nadd_1]
    exact c_inAll18 h1 hR hl k (i + 1) f _ (by omega) (by omega)
theorem c_inNone18 {F : List Nat} {M : mM} (h1 : M.2.1 269 1 = i32 F.length) (hR : FdR 270 0 F M) (hl : F.length ≤ 1024) : ∀ (k i f : Nat) (a : Int32), i + k = F.length → k < f → f_Sets_inNone_18 f a (i32 i) M = some (noF F k i a, M)
  | _, _, 0, _, _, hf => absurd hf (Nat.not_lt_zero _)
  | 0, i, f + 1, a, hi, hf => by
    unfold f_Sets_inNone_18
    rw [h1, if_pos (by rw [i32_le (by omega) (by omega)]; omega)]
    rfl
  | k + 1, i, f + 1, a, hi, hf => by
    unfold f_Sets_inNone_18
    rw [h1, if_neg (by rw [i32_le (by omega) (by omega)]; omega), if_neg (by rw [show (1024 : Int32) = i32 1024 from rfl, i32_le (by omega) (by omega)]; omega), rd_i32 (by omega) (by omega), Option.bind_some, hR i (by omega), nadd_1]
    exact c_inNone18 h1 hR hl k (i + 1) f _ (by omega) (by omega)
def unA (y : Yd) (F : List Nat) (w : Nat) : Int32 := if w = 0 then i32 F.length else if F.length = 0 then 0 else if w = 1 then anF F F.length 0 (opn y) else noF F F.length 0 (opn y)
theorem anF_0 (F : List Nat) : ∀ (k i : Nat), anF F k i 0 = 0
  | 0, _ => rfl
  | k + 1, i => by
    rw [anF, Int32.zero_and]
    exact anF_0 F k (i + 1)
theorem m_unp35 {y : Yd} {F : List Nat} {M : mM} (hv : VY y) (h4 : M.2.1 446 4 = i32 (y_m y)) (hO : MO y (M.2.1 446)) (h1 : M.2.1 436 33 = i32 F.length) (hR : FdR 451 0 F M) (hl : F.length ≤ 1024) {w : Nat} (hw : w ≤ 2) : ∀ (k i f : Nat) (a b : Int32), i + k = F.length → k < f → f_Model_unpaid_35 (i32 w) f a b (i32 i) M = some (if w = 0 then i32 F.length else if F.length = 0 then 0 else if w = 1 then anF F k i a else opn y &&& (orG F k i b ^^^ (-1)), M)
  | _, _, 0, _, _, _, hf => absurd hf (Nat.not_lt_zero _)
  | 0, i, f + 1, a, b, hi, hf => by
    unfold f_Model_unpaid_35
    rw [h1, if_pos (by rw [i32_le (by omega) (by omega)]; omega)]
    by_cases w0 : w = 0
    · rw [if_pos (show i32 w = 0 by rw [w0]; rfl), if_pos w0]
    · rw [if_neg (show ¬ i32 w = 0 from fun z => w0 ((neq_0 (by omega)).mp z)), if_neg w0]
      by_cases l0 : F.length = 0
      · rw [if_pos (show i32 F.length = 0 by rw [l0]; rfl), if_pos l0]
      · rw [if_neg (show ¬ i32 F.length = 0 from fun z => l0 ((neq_0 (by omega)).mp z)), if_neg l0]
        by_cases w1 : w = 1
        · rw [if_pos (show i32 w = 1 by rw [w1]; rfl), if_pos w1]
          rfl
        · rw [if_neg (show ¬ i32 w = 1 from fun z => w1 ((neq_1 (by omega)).mp z)), if_neg w1, m_inQuestion hv h4 hO]
          rfl
  | k + 1, i, f + 1, a, b, hi, hf => by
    unfold f_Model_unpaid_35
    rw [h1, if_neg (by rw [i32_le (by omega) (by omega)]; omega), rd_i32 (by omega) (by omega), Option.bind_some, Option.bind_some, hR i (by omega), nadd_1, m_unp35 hv h4 hO h1 hR hl hw k (i + 1) f _ _ (by omega) (by omega)]
    rfl
theorem both_unpaid {x1 : Int32} {M : mM} (hi : Inv M) : Both (f_GraveRails_unpaid x1) (f_Model_unpaid x1) M := by
  have hi' := hi
  obtain ⟨g, hg, hc, hm⟩ := hi
  have hv := hg.1.1
  have ct := c_isTold hc.1.1 hv
  have mt := m_isYard hm.1.1.1.1 hv
  have hl := fndF_len g.1.1 (phi g.1.2.2.2.1 g.2.2.1.2) g.1.2.2.1 1024 0
  by_cases hL : 0 < y_L g.1.1
  · rw [if_pos hL] at ct mt
    rcases i32_cases x1 with h1 | ⟨w, h1, rfl⟩
    · refine both_pure hi' ⟨-1, ?_, ?_⟩
      · unfold f_GraveRails_unpaid
        rw [ct, bnd1]
        exact if_pos h1
      · unfold f_Model_unpaid
        rw [mt, bnd1]
        dsimp only
        rw [m_inN (lo := 0) (hi := 2) h1 (by omega), bnd0]
    · by_cases hw : w ≤ 2
      · refine both_ask (v := unA g.1.1 (fnd g.1.1 (phi g.1.2.2.2.1 g.2.2.1.2) g.1.2.2.1) w) hg hc hm ?_ fun M' hc' hm' => ?_
        · unfold f_GraveRails_unpaid
          rw [ct, bnd1]
          dsimp only
          rw [if_neg (fun z => (i32_neg h1).mp z), if_pos (by rw [show (2 : Int32) = i32 2 from rfl, i32_le h1 (by omega)]; exact hw), c_rif hg hc, Option.bind_some]
          dsimp only
          refine OK_bind (c_find hg hc hL) fun M1 q => ?_
          obtain ⟨q1, q2, q3, q4⟩ := q
          obtain ⟨k8, k9, k6, k1, kR, -⟩ := q3
          have hF : (fnd g.1.1 (phi g.1.2.2.2.1 g.2.2.1.2) g.1.2.2.1).length ≤ 1024 := hl
          by_cases w0 : w = 0
          · rw [if_pos (show i32 w = 0 by rw [w0]; rfl)]
            refine OK_some ⟨?_, q1, q4⟩
            unfold unA
            rw [if_pos w0]
            exact k1
          · rw [if_neg (show ¬ i32 w = 0 from fun z => w0 ((neq_0 (by omega)).mp z))]
            unfold unA
            rw [if_neg w0]
            by_cases w1 : w = 1
            · rw [if_pos (show i32 w = 1 by rw [w1]; rfl), if_pos w1]
              unfold f_Sets_inAll f_Sets_inAll_15
              rw [k1, k6]
              by_cases l0 : (fnd g.1.1 (phi g.1.2.2.2.1 g.2.2.1.2) g.1.2.2.1).length = 0
              · rw [if_pos (by rw [l0]; decide), if_pos l0]
                rw [show f_Sets_inAll_18 FUEL 0 0 M1 = _ from c_inAll18 k1 kR hF _ 0 FUEL 0 (Nat.zero_add _) (by rw [FUEL_eq]; omega), anF_0]
                exact OK_some ⟨rfl, q1, q4⟩
              · rw [if_neg (by rw [show (0 : Int32) = i32 0 from rfl, i32_le (by omega) (by omega)]; omega), if_neg l0]
                rw [show f_Sets_inAll_18 FUEL (opn g.1.1) 0 M1 = _ from c_inAll18 k1 kR hF _ 0 FUEL _ (Nat.zero_add _) (by rw [FUEL_eq]; omega)]
                exact OK_some ⟨rfl, q1, q4⟩
            · rw [if_neg (show ¬ i32 w = 1 from fun z => w1 ((neq_1 (by omega)).mp z)), if_neg w1]
              unfold f_Sets_inNone f_Sets_inNone_15
              rw [k1, k6]
              by_cases l0 : (fnd g.1.1 (phi g.1.2.2.2.1 g.2.2.1.2) g.1.2.2.1).length = 0
              · rw [if_pos (by rw [l0]; decide), if_pos l0]
                have e := c_inNone18 k1 kR hF _ 0 FUEL 0 (Nat.zero_add _) (by rw [FUEL_eq]; omega)
                rw [l0] at e
                rw [show f_Sets_inNone_18 FUEL 0 0 M1 = _ from e]
                exact OK_some ⟨rfl, q1, q4⟩
              · rw [if_neg (by rw [show (0 : Int32) = i32 0 from rfl, i32_le (by omega) (by omega)]; omega), if_neg l0]
                rw [show f_Sets_inNone_18 FUEL (opn g.1.1) 0 M1 = _ from c_inNone18 k1 kR hF _ 0 FUEL _ (Nat.zero_add _) (by rw [FUEL_eq]; omega)]
                exact OK_some ⟨rfl, q1, q4⟩
        · have mt' := m_isYard hm'.1.1.1.1 hv
          rw [if_pos hL] at mt'
          unfold f_Model_unpaid
          rw [mt', bnd1]
          dsimp only
          rw [m_inY (lo := 0) (hi := 2) ⟨Nat.zero_le _, hw⟩ (by omega), bnd1]
          dsimp only
          refine OK_bind (m_gather hg hm' hL) fun M1 q => ?_
          obtain ⟨q1, q2, q3, q4⟩ := q
          have e446 : M1.2.1 446 = M'.2.1 446 := q1.1 446 (by omega) (by omega) (by omega) (by omega) (by omega) (by omega)
          have h4 : M1.2.1 446 4 = i32 (y_m g.1.1) := by rw [e446]; exact hm'.1.1.2.2.2.1
          have hO : MO g.1.1 (M1.2.1 446) := by rw [e446]; exact hm'.1.2.2.2
          rw [m_inQuestion hv h4 hO, Option.bind_some]
          dsimp only
          rw [show f_Model_unpaid_35 (i32 w) FUEL (opn g.1.1) 0 0 M1 = _ from m_unp35 hv h4 hO q3 q4 hl hw _ 0 FUEL (opn g.1.1) 0 (Nat.zero_add _) (by rw [FUEL_eq]; have : (fnd g.1.1 (phi g.1.2.2.2.1 g.2.2.1.2) g.1.2.2.1).length ≤ 1024 := hl; omega)]
          refine OK_some ⟨?_, FrN_B q1 (q2.trans hm'.2.2.2.1.symm)⟩
          unfold unA
          rw [← noF_or, and_not0]
      · refine both_pure hi' ⟨-1, ?_, ?_⟩
        · unfold f_GraveRails_unpaid
          rw [ct, bnd1]
          dsimp only
          rw [if_neg (fun z => (i32_neg h1).mp z)]
          exact if_neg (by rw [show (2 : Int32) = i32 2 from rfl, i32_le h1 (by omega)]; exact hw)
        · unfold f_Model_unpaid
          rw [mt, bnd1]
          dsimp only
          rw [m_inX (lo := 0) (hi := 2) h1 (by omega) (by omega) (by omega), bnd0]
  · rw [if_neg hL] at ct mt
    refine both_pure hi' ⟨-1, ?_, ?_⟩
    · unfold f_GraveRails_unpaid
      rw [ct, bnd0]
    · unfold f_Model_unpaid
      rw [mt, bnd0]
