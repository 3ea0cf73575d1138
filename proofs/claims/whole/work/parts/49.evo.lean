/-! ===== what a year does to one ===== -/
def Evo (yr : Nat) (b b' : Nat → B) : Prop := ∀ g, ((b g).1 = none → b' g = b g) ∧ ((b g).1 ≠ none → ((b' g).1 ≠ none ∧ (b' g).2.2.2.1 = (b g).2.2.2.1) ∨ ((b' g).1 = none ∧ (b' g).2.2.2.1 = i32 yr))
theorem Evo_refl (yr : Nat) (b : Nat → B) : Evo yr b b := fun g => ⟨fun _ => rfl, fun h => Or.inl ⟨h, rfl⟩⟩
theorem Evo_trans {yr : Nat} {b b' b'' : Nat → B} (h : Evo yr b b') (h' : Evo yr b' b'') : Evo yr b b'' := by
  intro g
  refine ⟨fun z => ?_, fun z => ?_⟩
  · have e := (h g).1 z
    rw [(h' g).1 (by rw [e]; exact z), e]
  · rcases (h g).2 z with ⟨q1, q2⟩ | ⟨q1, q2⟩
    · rcases (h' g).2 q1 with ⟨p1, p2⟩ | ⟨p1, p2⟩
      · exact Or.inl ⟨p1, p2.trans q2⟩
      · exact Or.inr ⟨p1, p2⟩
    · rw [(h' g).1 q1]
      exact Or.inr ⟨q1, q2⟩
theorem Evo_bup {yr : Nat} {b : Nat → B} {g : Nat} {x : B} (hb : (b g).1 ≠ none) (hx : (x.1 ≠ none ∧ x.2.2.2.1 = (b g).2.2.2.1) ∨ (x.1 = none ∧ x.2.2.2.1 = i32 yr)) : Evo yr b (bup b g x) := by
  intro i
  by_cases c : i = g
  · subst c
    rw [bup_e]
    exact ⟨fun z => absurd z hb, fun _ => hx⟩
  · rw [bup_o c]
    exact ⟨fun _ => rfl, fun z => Or.inl ⟨z, rfl⟩⟩
theorem Evo_drp {yr : Nat} {r : R} {g : Nat} (hb : (r.1 g).1 ≠ none) : Evo yr r.1 (drp yr r g).1 := Evo_bup hb (Or.inr ⟨rfl, rfl⟩)
theorem Evo_com {y : Yd} {yr : Nat} {r : R} {g l c : Nat} {x : Int32} (hb : (r.1 g).1 ≠ none) : Evo yr r.1 (com y r g l c x).2.1 := Evo_bup hb (Or.inl ⟨Option.some_ne_none _, rfl⟩)
theorem Evo_goS {y : Yd} {n yr : Nat} {r : R} {g : Nat} : Evo yr r.1 (goS y n yr r g).2.1 := by
  unfold goS
  cases h : (r.1 g).1 with
  | none => exact Evo_refl _ _
  | some p =>
    have hb : (r.1 g).1 ≠ none := by rw [h]; exact Option.some_ne_none _
    obtain ⟨l, c⟩ := p
    cases c with
    | zero => exact Evo_drp hb
    | succ c =>
      simp only
      cases h1 : grv n r.1 l c with
      | none => exact Evo_com hb
      | some o =>
        simp only
        cases h2 : side y n r.1 o l c with
        | none => exact Evo_refl _ _
        | some l' => exact Evo_com hb
theorem Evo_runs {y : Yd} {n yr g : Nat} : ∀ (k : Nat) (r : R), Evo yr r.1 (runs y n yr g k r).1
  | 0, r => Evo_refl _ _
  | k + 1, r => by
    rw [runs]
    split
    · exact Evo_trans Evo_goS (Evo_runs k _)
    · exact Evo_goS
theorem Evo_trn {y : Yd} {φ : Option (List Int64 → Nat)} {n yr : Nat} {fl : Bool} {r : R} {g : Nat} : Evo yr r.1 (trn y φ n yr fl r g).1 := by
  unfold trn
  cases h : (r.1 g).1 with
  | none => exact Evo_refl _ _
  | some p =>
    have hb : (r.1 g).1 ≠ none := by rw [h]; exact Option.some_ne_none _
    obtain ⟨l, c⟩ := p
    simp only
    split
    · exact Evo_bup hb (Or.inl ⟨hb, rfl⟩)
    · split
      · exact Evo_refl _ _
      · split
        · exact Evo_refl _ _
        · exact Evo_runs _ _
theorem Evo_trns {y : Yd} {φ : Option (List Int64 → Nat)} {n yr : Nat} {fl : Bool} : ∀ (Q : List Nat) (r : R), Evo yr r.1 (Q.foldl (trn y φ n yr fl) r).1
  | [], r => Evo_refl _ _
  | a :: Q, r => Evo_trans Evo_trn (Evo_trns Q _)
theorem Evo_fld {yr : Nat} : ∀ (Q : List Nat) (r : R) (k : Nat), Evo yr r.1 (fld yr Q r k).1.1
  | [], r, k => Evo_refl _ _
  | a :: Q, r, k => by
    unfold fld
    cases h : (r.1 a).1 with
    | none => exact Evo_fld Q r k
    | some p =>
      have hb : (r.1 a).1 ≠ none := by rw [h]; exact Option.some_ne_none _
      simp only
      split
      · exact Evo_trans (Evo_drp hb) (Evo_fld Q _ _)
      · exact Evo_fld Q r k
theorem Evo_yB (y : Yd) (φ : Option (List Int64 → Nat)) (n yr : Nat) (fl : Bool) (b : Nat → B) : Evo yr b (yB y φ n yr fl b) := by
  unfold yB yea
  cases fl with
  | false => exact Evo_trns (ord b n) (b, [])
  | true => exact Evo_trans (Evo_fld _ (b, []) 0) (Evo_trns _ _)
theorem VF_yB {y : Yd} {φ : Option (List Int64 → Nat)} {n yr : Nat} {fl : Bool} {b : Nat → B} (h : VF n b) (hy : yr < 2147483648) : VF n (yB y φ n yr fl b) := by
  intro g hg
  have e := Evo_yB y φ n yr fl b g
  obtain ⟨h1, h2⟩ := h g hg
  by_cases c : (b g).1 = none
  · rw [e.1 c]
    exact ⟨h1, h2⟩
  · rcases e.2 c with ⟨q1, q2⟩ | ⟨q1, q2⟩
    · exact ⟨fun z => absurd z q1, fun _ => q2.trans (h2 c)⟩
    · exact ⟨fun _ => ⟨yr, hy, q2⟩, fun z => absurd q1 z⟩
/-- who fell stays as it is -/
theorem itB_none {y : Yd} {φ : Option (List Int64 → Nat)} {n g : Nat} : ∀ (k yr : Nat) (b : Nat → B), (b g).1 = none → itB y φ n k yr b g = b g
  | 0, yr, b, _ => rfl
  | k + 1, yr, b, h => by
    have e := (Evo_yB y φ n yr (flo y yr) b g).1 h
    rw [itB, itB_none k (yr + 1) _ (by rw [e]; exact h), e]
/-- who falls later falls later -/
theorem itB_late {y : Yd} {φ : Option (List Int64 → Nat)} {n g : Nat} : ∀ (k yr : Nat) (b : Nat → B), (b g).1 ≠ none → ((itB y φ n k yr b g).1 ≠ none ∧ (itB y φ n k yr b g).2.2.2.1 = (b g).2.2.2.1) ∨ ((itB y φ n k yr b g).1 = none ∧ ∃ j, yr ≤ j ∧ j < yr + k ∧ (itB y φ n k yr b g).2.2.2.1 = i32 j)
  | 0, yr, b, h => Or.inl ⟨h, rfl⟩
  | k + 1, yr, b, h => by
    rw [itB]
    rcases (Evo_yB y φ n yr (flo y yr) b g).2 h with ⟨q1, q2⟩ | ⟨q1, q2⟩
    · rcases itB_late k (yr + 1) _ q1 with ⟨p1, p2⟩ | ⟨p1, j, p2, p3, p4⟩
      · exact Or.inl ⟨p1, p2.trans q2⟩
      · exact Or.inr ⟨p1, j, by omega, by omega, p4⟩
    · rw [itB_none k (yr + 1) _ q1]
      exact Or.inr ⟨q1, yr, Nat.le_refl _, by omega, q2⟩
theorem itB_VF {y : Yd} {φ : Option (List Int64 → Nat)} {n : Nat} : ∀ (k yr : Nat) (b : Nat → B), VF n b → yr + k < 2147483648 → VF n (itB y φ n k yr b)
  | 0, yr, b, h, _ => h
  | k + 1, yr, b, h, hk => itB_VF k (yr + 1) _ (VF_yB h (by omega)) (by omega)
/-! ===== ahead ===== -/
theorem c_ahead44 {y : Yd} {Yp : Nat} {ru : Option Nat} {φ : Option (List Int64 → Nat)} {n a N w : Nat} (ha : a < n) (hn : n ≤ 11) (hN : N ≤ 200) (hw : w ≤ 1) : ∀ (k i f yr : Nat) (b : Nat → B) (M : mM), i + k = N → k < f → yr + k < 2147483647 → CQe y Yp ru φ n yr b M → OK (f_GraveRails_ahead_44 (i32 a) (i32 N) (i32 w) f (i32 i) M) fun z => z.1 = (if w = 0 then eL (itB y φ n k yr b a).1 else eC (itB y φ n k yr b a).1) ∧ FrY M z.2
  | _, _, 0, _, _, _, _, hf, _, _ => absurd hf (Nat.not_lt_zero _)
  | 0, i, f + 1, yr, b, M, hi, hf, hy, h => by
    obtain ⟨⟨P, kk, hq⟩, h4⟩ := h
    obtain ⟨a1, a2, a3, a4, a5, a6, a7⟩ := hq.2.1.1.2.2.2.2 a ha
    simp only [Nat.reduceAdd] at a1 a2
    unfold f_GraveRails_ahead_44
    simp (disch := omega) only [i32_lt, i32_le, i32_eq, i32_add, i32_mul, i32_neg, i32_nn, i32_ne1, i32_n1e, n1_lt_i32, i32_le_n1, i32_dec, i32_cl, rd_i32, ix_i32, wr_i32, pI_s, pR_s, pC_s, pZ_0, pZ_1, Option.bind_some, ite_true, ite_false, if_true, if_false, gIL, gRI, nlt_0, l0_lt, nle_0, l0_le, neq_0, nadd_0, nmul_0, nmul'_0, nadd'_0, nsub_0, nlt_1, l1_lt, nle_1, l1_le, neq_1, nadd_1, nmul_1, nmul'_1, nadd'_1, nsub_1, nlt_2, l2_lt, nle_2, l2_le, neq_2, nadd_2, nmul_2, nmul'_2, nadd'_2, nsub_2, nlt_3, l3_lt, nle_3, l3_le, neq_3, nadd_3, nmul_3, nmul'_3, nadd'_3, nsub_3, nlt_4, l4_lt, nle_4, l4_le, neq_4, nadd_4, nmul_4, nmul'_4, nadd'_4, nsub_4, nlt_5, l5_lt, nle_5, l5_le, neq_5, nadd_5, nmul_5, nmul'_5, nadd'_5, nsub_5, nlt_6, l6_lt, nle_6, l6_le, neq_6, nadd_6, nmul_6, nmul'_6, nadd'_6, nsub_6, nlt_7, l7_lt, nle_7, l7_le, neq_7, nadd_7, nmul_7, nmul'_7, nadd'_7, nsub_7, nlt_8, l8_lt, nle_8, l8_le, neq_8, nadd_8, nmul_8, nmul'_8, nadd'_8, nsub_8, nlt_9, l9_lt, nle_9, l9_le, neq_9, nadd_9, nmul_9, nmul'_9, nadd'_9, nsub_9, nlt_10, l10_lt, nle_10, l10_le, neq_10, nadd_10, nmul_10, nmul'_10, nadd'_10, nsub_10, nlt_11, l11_lt, nle_11, l11_le, neq_11, nadd_11, nmul_11, nmul'_11, nadd'_11, nsub_11, nlt_12, l12_lt, nle_12, l12_le, neq_12, nadd_12, nmul_12, nmul'_12, nadd'_12, nsub_12, nlt_13, l13_lt, nle_13, l13_le, neq_13, nadd_13, nmul_13, nmul'_13, nadd'_13, nsub_13, nlt_20, l20_lt, nle_20, l20_le, neq_20, nadd_20, nmul_20, nmul'_20, nadd'_20, nsub_20, nlt_400, l400_lt, nle_400, l400_le, neq_400, nadd_400, nmul_400, nmul'_400, nadd'_400, nsub_400, rd_0, wr_0, rd_1, wr_1, rd_2, wr_2, rd_3, wr_3, rd_4, wr_4, rd_5, wr_5, rd_6, wr_6, rd_7, wr_7, rd_8, wr_8, rd_9, wr_9, rd_10, wr_10, rd_11, wr_11, rd_12, wr_12, a1, a2]
    rw [if_pos (by omega)]
    by_cases c : w = 0
    · rw [if_pos c, if_pos c]
      exact OK_some ⟨rfl, FrY_refl M⟩
    · rw [if_neg c, if_neg c]
      exact OK_some ⟨rfl, FrY_refl M⟩
  | k + 1, i, f + 1, yr, b, M, hi, hf, hy, h => by
    unfold f_GraveRails_ahead_44
    simp (disch := omega) only [i32_lt, i32_le, i32_eq, i32_add, i32_mul, i32_neg, i32_nn, i32_ne1, i32_n1e, n1_lt_i32, i32_le_n1, i32_dec, i32_cl, rd_i32, ix_i32, wr_i32, pI_s, pR_s, pC_s, pZ_0, pZ_1, Option.bind_some, ite_true, ite_false, if_true, if_false, gIL, gRI, nlt_0, l0_lt, nle_0, l0_le, neq_0, nadd_0, nmul_0, nmul'_0, nadd'_0, nsub_0, nlt_1, l1_lt, nle_1, l1_le, neq_1, nadd_1, nmul_1, nmul'_1, nadd'_1, nsub_1, nlt_2, l2_lt, nle_2, l2_le, neq_2, nadd_2, nmul_2, nmul'_2, nadd'_2, nsub_2, nlt_3, l3_lt, nle_3, l3_le, neq_3, nadd_3, nmul_3, nmul'_3, nadd'_3, nsub_3, nlt_4, l4_lt, nle_4, l4_le, neq_4, nadd_4, nmul_4, nmul'_4, nadd'_4, nsub_4, nlt_5, l5_lt, nle_5, l5_le, neq_5, nadd_5, nmul_5, nmul'_5, nadd'_5, nsub_5, nlt_6, l6_lt, nle_6, l6_le, neq_6, nadd_6, nmul_6, nmul'_6, nadd'_6, nsub_6, nlt_7, l7_lt, nle_7, l7_le, neq_7, nadd_7, nmul_7, nmul'_7, nadd'_7, nsub_7, nlt_8, l8_lt, nle_8, l8_le, neq_8, nadd_8, nmul_8, nmul'_8, nadd'_8, nsub_8, nlt_9, l9_lt, nle_9, l9_le, neq_9, nadd_9, nmul_9, nmul'_9, nadd'_9, nsub_9, nlt_10, l10_lt, nle_10, l10_le, neq_10, nadd_10, nmul_10, nmul'_10, nadd'_10, nsub_10, nlt_11, l11_lt, nle_11, l11_le, neq_11, nadd_11, nmul_11, nmul'_11, nadd'_11, nsub_11, nlt_12, l12_lt, nle_12, l12_le, neq_12, nadd_12, nmul_12, nmul'_12, nadd'_12, nsub_12, nlt_13, l13_lt, nle_13, l13_le, neq_13, nadd_13, nmul_13, nmul'_13, nadd'_13, nsub_13, nlt_20, l20_lt, nle_20, l20_le, neq_20, nadd_20, nmul_20, nmul'_20, nadd'_20, nsub_20, nlt_400, l400_lt, nle_400, l400_le, neq_400, nadd_400, nmul_400, nmul'_400, nadd'_400, nsub_400, rd_0, wr_0, rd_1, wr_1, rd_2, wr_2, rd_3, wr_3, rd_4, wr_4, rd_5, wr_5, rd_6, wr_6, rd_7, wr_7, rd_8, wr_8, rd_9, wr_9, rd_10, wr_10, rd_11, wr_11, rd_12, wr_12]
    rw [if_neg (by omega)]
    refine OK_bind (CQe_year h (by omega)) fun M1 h1 => ?_
    exact OK_imp (c_ahead44 ha hn hN hw k (i + 1) f (yr + 1) _ M1 (by omega) (by omega) (by omega) h1.1) fun z hz => ⟨hz.1, FrY_trans h1.2 hz.2⟩
theorem m_ahead40 {y : Yd} {φ : Option (List Int64 → Nat)} {n a N w : Nat} {M0 M1 : mM} (hK : Kp M0 M1) (ha : a < n) (hn : n ≤ 11) (hN : N ≤ 200) (hw : w ≤ 1) : ∀ (k i f yr : Nat) (b : Nat → B) (M : mM), i + k = N → k < f → yr + k < 2147483647 → MYr y φ n yr b false M → FrL M1 M → M.2.1 436 26 = 0 → OK (f_Model_ahead_40 (i32 a) (i32 N) (i32 w) f (i32 i) M) fun z => z.1 = (if w = 0 then eL (itB y φ n k yr b a).1 else eC (itB y φ n k yr b a).1) ∧ FrB M0 z.2 ∧ z.2.2.1 436 26 = 0
  | _, _, 0, _, _, _, _, hf, _, _, _, _ => absurd hf (Nat.not_lt_zero _)
  | 0, i, f + 1, yr, b, M, hi, hf, hy, h, hF, h26 => by
    obtain ⟨a1, a2, a3⟩ := (h.2.2.2.1.2.2.2.2.2 a ha).1
    unfold f_Model_ahead_40
    simp (disch := omega) only [i32_lt, i32_le, i32_eq, i32_add, i32_mul, i32_neg, i32_nn, i32_ne1, i32_n1e, n1_lt_i32, i32_le_n1, i32_dec, i32_cl, rd_i32, ix_i32, wr_i32, pI_s, pR_s, pC_s, pZ_0, pZ_1, Option.bind_some, ite_true, ite_false, if_true, if_false, gIL, gRI, nlt_0, l0_lt, nle_0, l0_le, neq_0, nadd_0, nmul_0, nmul'_0, nadd'_0, nsub_0, nlt_1, l1_lt, nle_1, l1_le, neq_1, nadd_1, nmul_1, nmul'_1, nadd'_1, nsub_1, nlt_2, l2_lt, nle_2, l2_le, neq_2, nadd_2, nmul_2, nmul'_2, nadd'_2, nsub_2, nlt_3, l3_lt, nle_3, l3_le, neq_3, nadd_3, nmul_3, nmul'_3, nadd'_3, nsub_3, nlt_4, l4_lt, nle_4, l4_le, neq_4, nadd_4, nmul_4, nmul'_4, nadd'_4, nsub_4, nlt_5, l5_lt, nle_5, l5_le, neq_5, nadd_5, nmul_5, nmul'_5, nadd'_5, nsub_5, nlt_6, l6_lt, nle_6, l6_le, neq_6, nadd_6, nmul_6, nmul'_6, nadd'_6, nsub_6, nlt_7, l7_lt, nle_7, l7_le, neq_7, nadd_7, nmul_7, nmul'_7, nadd'_7, nsub_7, nlt_8, l8_lt, nle_8, l8_le, neq_8, nadd_8, nmul_8, nmul'_8, nadd'_8, nsub_8, nlt_9, l9_lt, nle_9, l9_le, neq_9, nadd_9, nmul_9, nmul'_9, nadd'_9, nsub_9, nlt_10, l10_lt, nle_10, l10_le, neq_10, nadd_10, nmul_10, nmul'_10, nadd'_10, nsub_10, nlt_11, l11_lt, nle_11, l11_le, neq_11, nadd_11, nmul_11, nmul'_11, nadd'_11, nsub_11, nlt_12, l12_lt, nle_12, l12_le, neq_12, nadd_12, nmul_12, nmul'_12, nadd'_12, nsub_12, nlt_13, l13_lt, nle_13, l13_le, neq_13, nadd_13, nmul_13, nmul'_13, nadd'_13, nsub_13, nlt_20, l20_lt, nle_20, l20_le, neq_20, nadd_20, nmul_20, nmul'_20, nadd'_20, nsub_20, nlt_400, l400_lt, nle_400, l400_le, neq_400, nadd_400, nmul_400, nmul'_400, nadd'_400, nsub_400, rd_0, wr_0, rd_1, wr_1, rd_2, wr_2, rd_3, wr_3, rd_4, wr_4, rd_5, wr_5, rd_6, wr_6, rd_7, wr_7, rd_8, wr_8, rd_9, wr_9, rd_10, wr_10, rd_11, wr_11, rd_12, wr_12]
    rw [if_pos (by omega), m_graveOf (by omega) (by omega)]
    simp only [Option.bind_some]
    refine OK_bind (m_lay hK hF) fun M3 h3 => OK_some ⟨?_, h3.1, by rw [h3.2.1]; exact h26⟩
    by_cases c : w = 0
    · subst c
      rw [if_pos rfl]
      exact a1
    · have c1 : w = 1 := by omega
      subst c1
      rw [if_neg (by decide)]
      exact a2
  | k + 1, i, f + 1, yr, b, M, hi, hf, hy, h, hF, h26 => by
    unfold f_Model_ahead_40
    simp (disch := omega) only [i32_lt, i32_le, i32_eq, i32_add, i32_mul, i32_neg, i32_nn, i32_ne1, i32_n1e, n1_lt_i32, i32_le_n1, i32_dec, i32_cl, rd_i32, ix_i32, wr_i32, pI_s, pR_s, pC_s, pZ_0, pZ_1, Option.bind_some, ite_true, ite_false, if_true, if_false, gIL, gRI, nlt_0, l0_lt, nle_0, l0_le, neq_0, nadd_0, nmul_0, nmul'_0, nadd'_0, nsub_0, nlt_1, l1_lt, nle_1, l1_le, neq_1, nadd_1, nmul_1, nmul'_1, nadd'_1, nsub_1, nlt_2, l2_lt, nle_2, l2_le, neq_2, nadd_2, nmul_2, nmul'_2, nadd'_2, nsub_2, nlt_3, l3_lt, nle_3, l3_le, neq_3, nadd_3, nmul_3, nmul'_3, nadd'_3, nsub_3, nlt_4, l4_lt, nle_4, l4_le, neq_4, nadd_4, nmul_4, nmul'_4, nadd'_4, nsub_4, nlt_5, l5_lt, nle_5, l5_le, neq_5, nadd_5, nmul_5, nmul'_5, nadd'_5, nsub_5, nlt_6, l6_lt, nle_6, l6_le, neq_6, nadd_6, nmul_6, nmul'_6, nadd'_6, nsub_6, nlt_7, l7_lt, nle_7, l7_le, neq_7, nadd_7, nmul_7, nmul'_7, nadd'_7, nsub_7, nlt_8, l8_lt, nle_8, l8_le, neq_8, nadd_8, nmul_8, nmul'_8, nadd'_8, nsub_8, nlt_9, l9_lt, nle_9, l9_le, neq_9, nadd_9, nmul_9, nmul'_9, nadd'_9, nsub_9, nlt_10, l10_lt, nle_10, l10_le, neq_10, nadd_10, nmul_10, nmul'_10, nadd'_10, nsub_10, nlt_11, l11_lt, nle_11, l11_le, neq_11, nadd_11, nmul_11, nmul'_11, nadd'_11, nsub_11, nlt_12, l12_lt, nle_12, l12_le, neq_12, nadd_12, nmul_12, nmul'_12, nadd'_12, nsub_12, nlt_13, l13_lt, nle_13, l13_le, neq_13, nadd_13, nmul_13, nmul'_13, nadd'_13, nsub_13, nlt_20, l20_lt, nle_20, l20_le, neq_20, nadd_20, nmul_20, nmul'_20, nadd'_20, nsub_20, nlt_400, l400_lt, nle_400, l400_le, neq_400, nadd_400, nmul_400, nmul'_400, nadd'_400, nsub_400, rd_0, wr_0, rd_1, wr_1, rd_2, wr_2, rd_3, wr_3, rd_4, wr_4, rd_5, wr_5, rd_6, wr_6, rd_7, wr_7, rd_8, wr_8, rd_9, wr_9, rd_10, wr_10, rd_11, wr_11, rd_12, wr_12]
    rw [if_neg (by omega)]
    refine OK_bind (MYr_step h (by omega)) fun z1 h1 => ?_
    exact m_ahead40 hK ha hn hN hw k (i + 1) f (yr + 1) _ z1.2 (by omega) (by omega) (by omega) h1.1 (FrL_trans hF h1.2.1) h1.2.2
theorem m_begin {g : Gx} {M : mM} (hg : VG g) (hm : RMm g M) (hL : 0 < y_L g.1.1) : OK (f_Model_keeps M) fun M1 => Kp M M1 ∧ MYr g.1.1 (phi g.1.2.2.2.1 g.2.2.1.2) g.1.2.1.2.1 g.1.2.1.1 g.1.2.1.2.2.1 false M1 ∧ M1.2.1 436 26 = 0 := by
  refine OK_imp (m_keeps M) fun M1 h => ⟨⟨h.1, h.2.1⟩, MYr_of (m_start hg hm hL) (fun p hp => Sm_i h.1 (by omega)) (fun i hi => by rw [Sm_i h.1 (by omega)]), ?_⟩
  rw [Sm_i h.1 (by omega)]
  exact hm.2.2.2.1
theorem both_ahead {x1 x2 x3 : Int32} {M : mM} (hi : Inv M) : Both (f_GraveRails_ahead x1 x2 x3) (f_Model_ahead x1 x2 x3) M := by
  have hi' := hi
  obtain ⟨g, hg, hc, hm⟩ := hi
  have hS := hc.1.2.1.1
  have hN := hm.1.1.1
  have hn := hg.1.2.1.2.2.2.1
  have hy := hg.1.2.1.2.2.2.2.1
  rcases i32_cases x1 with h1 | ⟨a, h1, rfl⟩
  · refine both_pure hi' ⟨-2, ?_, ?_⟩
    · unfold f_GraveRails_ahead
      rw [c_hasN h1]
      exact bnd (if_pos rfl)
    · unfold f_Model_ahead
      rw [m_isGraveN h1]
      exact bnd (if_pos rfl)
  · by_cases ha : a < g.1.2.1.2.1
    · have no : (x2 < 0 ∨ 200 < x2 ∨ x3 < 0 ∨ ¬ x3 ≤ 1) → Both (f_GraveRails_ahead (i32 a) x2 x3) (f_Model_ahead (i32 a) x2 x3) M := by
        intro hno
        refine both_pure hi' ⟨-2, ?_, ?_⟩
        · unfold f_GraveRails_ahead
          rw [c_has1 hS ha]
          simp only [Option.bind_some, d10, if_false]
          by_cases q1 : x2 < 0
          · rw [if_pos q1]
          · rw [if_neg q1]
            by_cases q2 : 200 < x2
            · rw [if_pos q2]
            · rw [if_neg q2]
              by_cases q3 : x3 < 0
              · rw [if_pos q3]
              · rw [if_neg q3]
                have q4 : ¬ x3 ≤ 1 := by
                  rcases hno with z | z | z | z
                  · exact absurd z q1
                  · exact absurd z q2
                  · exact absurd z q3
                  · exact z
                rw [if_neg q4]
        · unfold f_Model_ahead
          rw [m_isGrave hN h1, if_pos ha]
          simp only [Option.bind_some, d10, if_false]
          rcases i32_cases x2 with h2 | ⟨N, h2, rfl⟩
          · rw [m_inN (lo := 0) (hi := 200) h2 (by omega)]
            exact bnd (if_pos rfl)
          · by_cases cN : N ≤ 200
            · rw [m_inY (lo := 0) (hi := 200) ⟨Nat.zero_le _, cN⟩ (by omega)]
              simp only [Option.bind_some, d10, if_false]
              rcases i32_cases x3 with h3 | ⟨w, h3, rfl⟩
              · rw [m_inN (lo := 0) (hi := 1) h3 (by omega)]
                exact bnd (if_pos rfl)
              · have cw : ¬ w ≤ 1 := by
                  rcases hno with z | z | z | z
                  · exact absurd z (fun z => (i32_neg h2).mp z)
                  · rw [show (200 : Int32) = i32 200 from rfl, i32_lt (by omega) h2] at z; omega
                  · exact absurd z (fun z => (i32_neg h3).mp z)
                  · rw [show (1 : Int32) = i32 1 from rfl, i32_le h3 (by omega)] at z; exact z
                rw [m_inX (lo := 0) (hi := 1) h3 (by omega) (by omega) (by omega)]
                exact bnd (if_pos rfl)
            · rw [m_inX (lo := 0) (hi := 200) h2 (by omega) (by omega) (by omega)]
              exact bnd (if_pos rfl)
      rcases i32_cases x2 with h2 | ⟨N, h2, rfl⟩
      · exact no (Or.inl h2)
      · by_cases cN : N ≤ 200
        · rcases i32_cases x3 with h3 | ⟨w, h3, rfl⟩
          · exact no (Or.inr (Or.inr (Or.inl h3)))
          · by_cases cw : w ≤ 1
            · refine both_ask (v := if w = 0 then eL (itB g.1.1 (phi g.1.2.2.2.1 g.2.2.1.2) g.1.2.1.2.1 N g.1.2.1.1 g.1.2.1.2.2.1 a).1 else eC (itB g.1.1 (phi g.1.2.2.2.1 g.2.2.1.2) g.1.2.1.2.1 N g.1.2.1.1 g.1.2.1.2.2.1 a).1) hg hc hm ?_ fun M' hc' hm' => ?_
              · unfold f_GraveRails_ahead
                rw [c_has1 hS ha]
                simp only [Option.bind_some, d10, if_false]
                rw [if_neg (fun z => (i32_neg h2).mp z), if_neg (by rw [show (200 : Int32) = i32 200 from rfl, i32_lt (by omega) h2]; omega), if_neg (fun z => (i32_neg h3).mp z), if_pos (by rw [show (1 : Int32) = i32 1 from rfl, i32_le h3 (by omega)]; exact cw)]
                refine OK_bind (c_sfn hg hc) fun M1 q => ?_
                refine OK_imp (c_ahead44 ha (by omega) cN cw N 0 FUEL _ _ M1 (by omega) (by rw [FUEL_eq]; omega) (by omega) ⟨⟨_, _, q.1⟩, q.2.1⟩) fun z hz => ?_
                have := Sm_trans q.2.2.2 (Sm_Y hz.2)
                exact ⟨hz.1, RC_Sm hg hc this, Sm_le this (by omega) (by omega)⟩
              · unfold f_Model_ahead
                rw [m_isGrave hm'.1.1.1 h1, if_pos ha]
                simp only [Option.bind_some, d10, if_false]
                rw [m_inY (lo := 0) (hi := 200) ⟨Nat.zero_le _, cN⟩ (by omega)]
                simp only [Option.bind_some, d10, if_false]
                rw [m_inY (lo := 0) (hi := 1) ⟨Nat.zero_le _, cw⟩ (by omega)]
                simp only [Option.bind_some, d10, if_false]
                refine OK_bind (m_begin hg hm' (hg.1.2.1.2.2.2.2.2.2 (by omega))) fun M1 q => ?_
                refine OK_imp (m_ahead40 q.1 ha (by omega) cN cw N 0 FUEL _ _ M1 (by omega) (by rw [FUEL_eq]; omega) (by omega) q.2.1 (FrL_refl _) q.2.2) fun z hz => ?_
                exact ⟨hz.1, FrN_B hz.2.1 (hz.2.2.trans hm'.2.2.2.1.symm)⟩
            · exact no (Or.inr (Or.inr (Or.inr (by rw [show (1 : Int32) = i32 1 from rfl, i32_le h3 (by omega)]; exact cw))))
        · exact no (Or.inr (Or.inl (by rw [show (200 : Int32) = i32 200 from rfl, i32_lt (by omega) h2]; omega)))
    · refine both_pure hi' ⟨-2, ?_, ?_⟩
      · unfold f_GraveRails_ahead
        rw [c_has hS h1, if_neg ha]
        exact bnd (if_pos rfl)
      · unfold f_Model_ahead
        rw [m_isGrave hN h1, if_neg ha]
        exact bnd (if_pos rfl)
