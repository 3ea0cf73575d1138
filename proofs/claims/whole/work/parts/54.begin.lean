/-! ===== begin ===== -/
def itW (y : Yd) (φ : Option (List Int64 → Nat)) (n a d : Nat) : Nat → Nat → (Nat → B) → (Nat → B)
  | 0, _, b => b
  | k + 1, yr, b => if (b a).1 = none ∨ (b d).1 = none then b else itW y φ n a d k (yr + 1) (yB y φ n yr (flo y yr) b)
def tog (a d : Nat) (b : Nat → B) : Prop := (b a).1 = none ∧ (b d).2.2.2.1 = (b a).2.2.2.1
def tgB (a d : Nat) (b : Nat → B) : Bool := decide ((b a).1 = none) && decide ((b d).2.2.2.1 = (b a).2.2.2.1)
def twB (a d : Nat) (b : Nat → B) : Bool := decide ((b a).1 = none) && decide ((b d).1 = none) && decide ((b a).2.2.2.1 = (b d).2.2.2.1)
theorem tw_tg {n a d : Nat} {b : Nat → B} (h : VF n b) (ha : a < n) (hd : d < n) : twB a d b = tgB a d b := by
  unfold twB tgB
  by_cases c : (b a).1 = none
  · obtain ⟨k, h1, h2⟩ := (h a ha).1 c
    by_cases c' : (b d).1 = none
    · rw [decide_eq_true c, decide_eq_true c', Bool.true_and, Bool.true_and, Bool.true_and]
      exact decide_eq_decide.mpr ⟨fun z => z.symm, fun z => z.symm⟩
    · rw [decide_eq_true c, decide_eq_false c', Bool.true_and, Bool.false_and, Bool.true_and]
      symm
      refine decide_eq_false fun z => ?_
      rw [(h d hd).2 c', h2] at z
      exact (i32_n1e h1).mp z
  · rw [decide_eq_false c, Bool.false_and, Bool.false_and, Bool.false_and]
theorem itW_U {y : Yd} {φ : Option (List Int64 → Nat)} {n a d : Nat} (ha : a < n) (hd : d < n) : ∀ (k yr : Nat) (b : Nat → B), VF n b → ((b d).1 = none → ∃ m, m < yr ∧ (b d).2.2.2.1 = i32 m) → yr + k < 2147483648 → twB a d (itW y φ n a d k yr b) = tgB a d (itU y φ n a k yr b)
  | 0, yr, b, h, _, _ => tw_tg h ha hd
  | k + 1, yr, b, h, hm, hy => by
    rw [itW, itU]
    by_cases c : (b a).1 = none
    · rw [if_pos (Or.inl c), if_pos c]
      exact tw_tg h ha hd
    · rw [if_neg c]
      by_cases c' : (b d).1 = none
      · rw [if_pos (Or.inr c')]
        obtain ⟨m, m1, m2⟩ := hm c'
        have e1 : twB a d b = false := by unfold twB; rw [decide_eq_false c, Bool.false_and, Bool.false_and]
        rw [e1]
        symm
        obtain ⟨j, j1, j2⟩ := itU_B (y := y) (φ := φ) (n := n) (a := a) k (yr + 1) (yB y φ n yr (flo y yr) b)
        have e2 : itU y φ n a k (yr + 1) (yB y φ n yr (flo y yr) b) = itB y φ n (j + 1) yr b := j2
        rw [e2]
        unfold tgB
        rcases itB_late (y := y) (φ := φ) (n := n) (j + 1) yr b c with ⟨p1, p2⟩ | ⟨p1, i, p2, p3, p4⟩
        · rw [decide_eq_false p1, Bool.false_and]
        · rw [decide_eq_true p1, Bool.true_and]
          refine decide_eq_false fun z => ?_
          rw [itB_none (j + 1) yr b c', m2, p4, i32_eq (by omega) (by omega)] at z
          omega
      · rw [if_neg (fun z => z.elim c c')]
        refine itW_U ha hd k (yr + 1) _ (VF_yB h (by omega)) (fun z => ?_) (by omega)
        rcases (Evo_yB y φ n yr (flo y yr) b d).2 c' with ⟨q1, q2⟩ | ⟨q1, q2⟩
        · exact absurd z q1
        · exact ⟨yr, by omega, q2⟩
def fto (y : Yd) (φ : Option (List Int64 → Nat)) (s : Sx) (a l c : Nat) : Bool := tgB a s.2.1 (itU y φ (s.2.1 + 1) a 200 s.1 (dgS s l c 0).2.2.1)
theorem c_fto71 {y : Yd} {Yp : Nat} {ru : Option Nat} {φ : Option (List Int64 → Nat)} {n a d yr : Nat} {b : Nat → B} {x2 x3 : Int32} {M : mM} (ha : a < n) (hd : d < n) (h : CQe y Yp ru φ n yr b M) : f_GraveRails_fallsWithOneDugAt_71 (i32 a) x2 x3 (i32 d) M = some (e01 (twB a d b), M) := by
  obtain ⟨⟨P, kk, hq⟩, h4⟩ := h
  have hV := hq.2.1.2.1
  have hn := hV.2.2.1
  have a5 := (hq.2.1.1.2.2.2.2 a ha).2.2.2.2.1
  have d5 := (hq.2.1.1.2.2.2.2 d hd).2.2.2.2.1
  simp only [Nat.reduceAdd] at a5 d5
  unfold f_GraveRails_fallsWithOneDugAt_71 twB
  rw [c_has1 hq.2.1.1 ha, bnd1]
  dsimp only
  rw [c_has1 hq.2.1.1 hd, bnd1]
  dsimp only
  by_cases c : (b a).1 = none
  · rw [c_lies0 hq.2.1.1 hV (by omega) (fun z => z.2 c), bnd0, decide_eq_true c]
    dsimp only
    by_cases c' : (b d).1 = none
    · rw [c_lies0 hq.2.1.1 hV (by omega) (fun z => z.2 c'), bnd0, decide_eq_true c']
      dsimp only
      rw [rd_i32 (by omega) (by omega), Option.bind_some, rd_i32 (by omega) (by omega), Option.bind_some, a5, d5, Bool.true_and, Bool.true_and]
      by_cases q : (b a).2.2.2.1 = (b d).2.2.2.1
      · rw [if_pos q, decide_eq_true q]; rfl
      · rw [if_neg q, decide_eq_false q]; rfl
    · rw [c_lies1 hq.2.1.1 hV hd c', bnd1, decide_eq_false c']
      rfl
  · rw [c_lies1 hq.2.1.1 hV ha c, bnd1, decide_eq_false c]
    rfl
theorem c_fto31 {y : Yd} {Yp : Nat} {ru : Option Nat} {φ : Option (List Int64 → Nat)} {n a d : Nat} {x2 x3 : Int32} (ha : a < n) (hd : d < n) : ∀ (k i f yr : Nat) (b : Nat → B) (M : mM), i + k = 200 → k < f → yr + k < 2147483647 → CQe y Yp ru φ n yr b M → OK (f_GraveRails_fallsWithOneDugAt_31 (i32 a) x2 x3 f (i32 d) (i32 i) M) fun z => z.1 = e01 (twB a d (itW y φ n a d k yr b)) ∧ FrY M z.2
  | _, _, 0, _, _, _, _, hf, _, _ => absurd hf (Nat.not_lt_zero _)
  | 0, i, f + 1, yr, b, M, hi, hf, hy, h => by
    unfold f_GraveRails_fallsWithOneDugAt_31
    simp (disch := omega) only [i32_lt, i32_le, i32_eq, i32_add, i32_mul, i32_neg, i32_nn, i32_ne1, i32_n1e, n1_lt_i32, i32_le_n1, i32_dec, i32_cl, rd_i32, ix_i32, wr_i32, pI_s, pR_s, pC_s, pZ_0, pZ_1, Option.bind_some, ite_true, ite_false, if_true, if_false, gIL, gRI, nlt_0, l0_lt, nle_0, l0_le, neq_0, nadd_0, nmul_0, nmul'_0, nadd'_0, nsub_0, nlt_1, l1_lt, nle_1, l1_le, neq_1, nadd_1, nmul_1, nmul'_1, nadd'_1, nsub_1, nlt_2, l2_lt, nle_2, l2_le, neq_2, nadd_2, nmul_2, nmul'_2, nadd'_2, nsub_2, nlt_3, l3_lt, nle_3, l3_le, neq_3, nadd_3, nmul_3, nmul'_3, nadd'_3, nsub_3, nlt_4, l4_lt, nle_4, l4_le, neq_4, nadd_4, nmul_4, nmul'_4, nadd'_4, nsub_4, nlt_5, l5_lt, nle_5, l5_le, neq_5, nadd_5, nmul_5, nmul'_5, nadd'_5, nsub_5, nlt_6, l6_lt, nle_6, l6_le, neq_6, nadd_6, nmul_6, nmul'_6, nadd'_6, nsub_6, nlt_7, l7_lt, nle_7, l7_le, neq_7, nadd_7, nmul_7, nmul'_7, nadd'_7, nsub_7, nlt_8, l8_lt, nle_8, l8_le, neq_8, nadd_8, nmul_8, nmul'_8, nadd'_8, nsub_8, nlt_9, l9_lt, nle_9, l9_le, neq_9, nadd_9, nmul_9, nmul'_9, nadd'_9, nsub_9, nlt_10, l10_lt, nle_10, l10_le, neq_10, nadd_10, nmul_10, nmul'_10, nadd'_10, nsub_10, nlt_11, l11_lt, nle_11, l11_le, neq_11, nadd_11, nmul_11, nmul'_11, nadd'_11, nsub_11, nlt_12, l12_lt, nle_12, l12_le, neq_12, nadd_12, nmul_12, nmul'_12, nadd'_12, nsub_12, nlt_13, l13_lt, nle_13, l13_le, neq_13, nadd_13, nmul_13, nmul'_13, nadd'_13, nsub_13, nlt_20, l20_lt, nle_20, l20_le, neq_20, nadd_20, nmul_20, nmul'_20, nadd'_20, nsub_20, nlt_400, l400_lt, nle_400, l400_le, neq_400, nadd_400, nmul_400, nmul'_400, nadd'_400, nsub_400, rd_0, wr_0, rd_1, wr_1, rd_2, wr_2, rd_3, wr_3, rd_4, wr_4, rd_5, wr_5, rd_6, wr_6, rd_7, wr_7, rd_8, wr_8, rd_9, wr_9, rd_10, wr_10, rd_11, wr_11, rd_12, wr_12, nlt_200, l200_lt, nle_200, l200_le, neq_200, nadd_200, nmul_200, nmul'_200, nadd'_200, nsub_200]
    rw [if_pos (by omega), c_fto71 ha hd h]
    exact OK_some ⟨rfl, FrY_refl M⟩
  | k + 1, i, f + 1, yr, b, M, hi, hf, hy, h => by
    have h' := h
    obtain ⟨⟨P, kk, hq⟩, h4⟩ := h
    have hV := hq.2.1.2.1
    have hn := hV.2.2.1
    unfold f_GraveRails_fallsWithOneDugAt_31
    simp (disch := omega) only [i32_lt, i32_le, i32_eq, i32_add, i32_mul, i32_neg, i32_nn, i32_ne1, i32_n1e, n1_lt_i32, i32_le_n1, i32_dec, i32_cl, rd_i32, ix_i32, wr_i32, pI_s, pR_s, pC_s, pZ_0, pZ_1, Option.bind_some, ite_true, ite_false, if_true, if_false, gIL, gRI, nlt_0, l0_lt, nle_0, l0_le, neq_0, nadd_0, nmul_0, nmul'_0, nadd'_0, nsub_0, nlt_1, l1_lt, nle_1, l1_le, neq_1, nadd_1, nmul_1, nmul'_1, nadd'_1, nsub_1, nlt_2, l2_lt, nle_2, l2_le, neq_2, nadd_2, nmul_2, nmul'_2, nadd'_2, nsub_2, nlt_3, l3_lt, nle_3, l3_le, neq_3, nadd_3, nmul_3, nmul'_3, nadd'_3, nsub_3, nlt_4, l4_lt, nle_4, l4_le, neq_4, nadd_4, nmul_4, nmul'_4, nadd'_4, nsub_4, nlt_5, l5_lt, nle_5, l5_le, neq_5, nadd_5, nmul_5, nmul'_5, nadd'_5, nsub_5, nlt_6, l6_lt, nle_6, l6_le, neq_6, nadd_6, nmul_6, nmul'_6, nadd'_6, nsub_6, nlt_7, l7_lt, nle_7, l7_le, neq_7, nadd_7, nmul_7, nmul'_7, nadd'_7, nsub_7, nlt_8, l8_lt, nle_8, l8_le, neq_8, nadd_8, nmul_8, nmul'_8, nadd'_8, nsub_8, nlt_9, l9_lt, nle_9, l9_le, neq_9, nadd_9, nmul_9, nmul'_9, nadd'_9, nsub_9, nlt_10, l10_lt, nle_10, l10_le, neq_10, nadd_10, nmul_10, nmul'_10, nadd'_10, nsub_10, nlt_11, l11_lt, nle_11, l11_le, neq_11, nadd_11, nmul_11, nmul'_11, nadd'_11, nsub_11, nlt_12, l12_lt, nle_12, l12_le, neq_12, nadd_12, nmul_12, nmul'_12, nadd'_12, nsub_12, nlt_13, l13_lt, nle_13, l13_le, neq_13, nadd_13, nmul_13, nmul'_13, nadd'_13, nsub_13, nlt_20, l20_lt, nle_20, l20_le, neq_20, nadd_20, nmul_20, nmul'_20, nadd'_20, nsub_20, nlt_400, l400_lt, nle_400, l400_le, neq_400, nadd_400, nmul_400, nmul'_400, nadd'_400, nsub_400, rd_0, wr_0, rd_1, wr_1, rd_2, wr_2, rd_3, wr_3, rd_4, wr_4, rd_5, wr_5, rd_6, wr_6, rd_7, wr_7, rd_8, wr_8, rd_9, wr_9, rd_10, wr_10, rd_11, wr_11, rd_12, wr_12, nlt_200, l200_lt, nle_200, l200_le, neq_200, nadd_200, nmul_200, nmul'_200, nadd'_200, nsub_200]
    rw [if_neg (by omega), itW]
    by_cases c : (b a).1 = none
    · rw [c_lies0 hq.2.1.1 hV (by omega) (fun z => z.2 c), bnd0, if_pos (Or.inl c)]
      dsimp only
      rw [c_fto71 ha hd h']
      exact OK_some ⟨rfl, FrY_refl M⟩
    · rw [c_lies1 hq.2.1.1 hV ha c, bnd1]
      dsimp only
      by_cases c' : (b d).1 = none
      · rw [c_lies0 hq.2.1.1 hV (by omega) (fun z => z.2 c'), bnd0, if_pos (Or.inr c')]
        dsimp only
        rw [c_fto71 ha hd h']
        exact OK_some ⟨rfl, FrY_refl M⟩
      · rw [c_lies1 hq.2.1.1 hV hd c', bnd1, if_neg (fun z => z.elim c c')]
        refine OK_bind (CQe_year h' (by omega)) fun M1 h1 => ?_
        exact OK_imp (c_fto31 ha hd k (i + 1) f (yr + 1) _ M1 (by omega) (by omega) (by omega) h1.1) fun z hz => ⟨hz.1, FrY_trans h1.2 hz.2⟩
theorem c_fto {g : Gx} {M : mM} (hg : VG g) (hc : RC g M) {a l c : Nat} (ha : a < g.1.2.1.2.1) (hl : l < y_L g.1.1) (hcc : c < y_C g.1.1) (hf : grv g.1.2.1.2.1 g.1.2.1.2.2.1 l c = none) : OK (f_GraveRails_fallsWithOneDugAt (i32 a) (i32 l) (i32 c) M) fun z => z.1 = e01 (fto g.1.1 (phi g.1.2.2.2.1 g.2.2.1.2) g.1.2.1 a l c) ∧ Sm 246 269 M z.2 := by
  have hn := hg.1.2.1.2.2.2.1
  have hy := hg.1.2.1.2.2.2.2.1
  have hv := hg.1.1
  have v1 := hv.1
  have v2 := hv.2.1
  unfold f_GraveRails_fallsWithOneDugAt
  refine OK_bind (c_sfn hg hc) fun M1 h1 => ?_
  obtain ⟨⟨q1, q2, q3, q4, q5⟩, q6, q7, q8⟩ := h1
  refine OK_bind (c_add (l := l) (c := c) (k := 0) q7 hn) fun M2 h2 => ?_
  have e1 : M1.2.1 247 1 = i32 g.1.2.1.2.1 := q7.1.2.1
  have hV' : V (y_L g.1.1) (y_C g.1.1) (g.1.2.1.2.1 + 1) (dgS g.1.2.1 l c 0).2.2.1 := V_dig hg.1.2.1.1 hn rfl hl hcc (Nat.zero_le _) rfl hf
  have hQ : CQe g.1.1 21 (ruf g.1.2.2.2.1) (phi g.1.2.2.2.1 g.2.2.1.2) (g.1.2.1.2.1 + 1) g.1.2.1.1 (dgS g.1.2.1 l c 0).2.2.1 M2 := by
    refine ⟨⟨[], 0, q1, ⟨h2.1.1, hV', ?_, Nat.zero_le _, fun k hk => absurd hk (Nat.not_lt_zero _)⟩, ⟨?_, q3.2.1, q3.2.2.1, CY_of q3.2.2.2.1 fun k hk => Sm_i h2.2 (by omega), ?_, RL_of q3.2.2.2.2.2 fun p a b => Sm_i h2.2 (by omega)⟩, ?_, _, VT_dig hg.1.2.1.2.1 (by omega) (by omega), h2.1.2⟩, ?_⟩
    · rw [Sm_i h2.2 (by omega)]; exact q2.2.2.1
    · rw [Sm_r h2.2 (by omega)]; exact q3.1
    · rw [Sm_r h2.2 (by omega)]; exact q3.2.2.2.2.1
    · rw [Sm_i h2.2 (by omega)]; exact q4
    · rw [Sm_i h2.2 (by omega)]; exact q6
  rw [e1]
  refine OK_imp (c_fto31 (x2 := i32 l) (x3 := i32 c) (show a < g.1.2.1.2.1 + 1 by omega) (Nat.lt_succ_self _) 200 0 FUEL _ _ M2 (by omega) (by rw [FUEL_eq]; omega) (by omega) hQ) fun z hz => ⟨?_, Sm_trans q8 (Sm_trans (Sm_le h2.2 (by omega) (by omega)) (Sm_Y hz.2))⟩
  have hVF : VF (g.1.2.1.2.1 + 1) (dgS g.1.2.1 l c 0).2.2.1 := VF_dig hg.1.2.1.2.2.2.2.2.1
  rw [hz.1, itW_U (by omega) (by omega) 200 _ _ hVF (fun z => ?_) (by omega)]
  · rfl
  · have e : ((dgS g.1.2.1 l c 0).2.2.1 g.1.2.1.2.1) = dgB l c 0 (i32 g.1.2.1.1) := bup_e _ _ _
    rw [e] at z
    cases z
/-! the places, one by one -/
def bgS (pl : Nat → Nat → Bool) (C : Nat) : Nat → Nat → Nat × Nat → Nat × Nat
  | 0, _, q => q
  | k + 1, i, q => bgS pl C k (i + 1) (if pl (i / C) (i % C) = true then (q.1 + 1, if q.1 = 0 then i else q.2) else q)
theorem bgS_add (pl : Nat → Nat → Bool) (C : Nat) : ∀ (j k i : Nat) (q : Nat × Nat), bgS pl C (j + k) i q = bgS pl C k (i + j) (bgS pl C j i q)
  | 0, k, i, q => by rw [Nat.zero_add]; rfl
  | j + 1, k, i, q => by
    rw [show j + 1 + k = j + k + 1 by omega, bgS, bgS_add pl C j k (i + 1), bgS, show i + 1 + j = i + (j + 1) by omega]
def bgL (C : Nat) (q : Nat × Nat) : Int32 := if q.1 = 0 then -2 else i32 (q.2 / C)
def bgC (C : Nat) (q : Nat × Nat) : Int32 := if q.1 = 0 then -2 else i32 (q.2 % C)
def bgK (q : Nat × Nat) : Int32 := if q.1 = 0 then -2 else i32 q.2
def plB (g : Gx) (a l c : Nat) : Bool := decide (grv g.1.2.1.2.1 g.1.2.1.2.2.1 l c = none) && fto g.1.1 (phi g.1.2.2.2.1 g.2.2.1.2) g.1.2.1 a l c
theorem c_begin56 {g : Gx} {a l : Nat} {x2 : Int32} {K : Int32 → Int32 → Int32 → Int32 → mM → Option (Int32 × mM)} {Q : Int32 × mM → Prop} (hg : VG g) (ha : a < g.1.2.1.2.1) (hl : l < y_L g.1.1) : ∀ (k c f : Nat) (q : Nat × Nat) (M : mM), c + k = y_C g.1.1 → k < f → q.1 ≤ l * y_C g.1.1 + c → RC g M → (∀ M' q', q' = bgS (plB g a) (y_C g.1.1) k (l * y_C g.1.1 + c) q → Sm 246 269 M M' → q'.1 ≤ (l + 1) * y_C g.1.1 → OK (K (i32 q'.1) (bgL (y_C g.1.1) q') (bgC (y_C g.1.1) q') (i32 (l + 1)) M') Q) → OK (f_GraveRails_begin_56 (i32 a) x2 K f (i32 q.1) (bgL (y_C g.1.1) q) (bgC (y_C g.1.1) q) (i32 l) (i32 c) M) Q
  | _, _, 0, _, _, _, hf, _, _, _ => absurd hf (Nat.not_lt_zero _)
  | 0, c, f + 1, q, M, hc, hf, hq, hR, hk => by
    have v2 := hg.1.1.2.1
    have e1 : M.2.1 21 1 = i32 (y_C g.1.1) := hR.1.1.2.1
    unfold f_GraveRails_begin_56
    simp (disch := omega) only [i32_lt, i32_le, i32_eq, i32_add, i32_mul, i32_neg, i32_nn, i32_ne1, i32_n1e, n1_lt_i32, i32_le_n1, i32_dec, i32_cl, rd_i32, ix_i32, wr_i32, pI_s, pR_s, pC_s, pZ_0, pZ_1, Option.bind_some, ite_true, ite_false, if_true, if_false, gIL, gRI, nlt_0, l0_lt, nle_0, l0_le, neq_0, nadd_0, nmul_0, nmul'_0, nadd'_0, nsub_0, nlt_1, l1_lt, nle_1, l1_le, neq_1, nadd_1, nmul_1, nmul'_1, nadd'_1, nsub_1, nlt_2, l2_lt, nle_2, l2_le, neq_2, nadd_2, nmul_2, nmul'_2, nadd'_2, nsub_2, nlt_3, l3_lt, nle_3, l3_le, neq_3, nadd_3, nmul_3, nmul'_3, nadd'_3, nsub_3, nlt_4, l4_lt, nle_4, l4_le, neq_4, nadd_4, nmul_4, nmul'_4, nadd'_4, nsub_4, nlt_5, l5_lt, nle_5, l5_le, neq_5, nadd_5, nmul_5, nmul'_5, nadd'_5, nsub_5, nlt_6, l6_lt, nle_6, l6_le, neq_6, nadd_6, nmul_6, nmul'_6, nadd'_6, nsub_6, nlt_7, l7_lt, nle_7, l7_le, neq_7, nadd_7, nmul_7, nmul'_7, nadd'_7, nsub_7, nlt_8, l8_lt, nle_8, l8_le, neq_8, nadd_8, nmul_8, nmul'_8, nadd'_8, nsub_8, nlt_9, l9_lt, nle_9, l9_le, neq_9, nadd_9, nmul_9, nmul'_9, nadd'_9, nsub_9, nlt_10, l10_lt, nle_10, l10_le, neq_10, nadd_10, nmul_10, nmul'_10, nadd'_10, nsub_10, nlt_11, l11_lt, nle_11, l11_le, neq_11, nadd_11, nmul_11, nmul'_11, nadd'_11, nsub_11, nlt_12, l12_lt, nle_12, l12_le, neq_12, nadd_12, nmul_12, nmul'_12, nadd'_12, nsub_12, nlt_13, l13_lt, nle_13, l13_le, neq_13, nadd_13, nmul_13, nmul'_13, nadd'_13, nsub_13, nlt_20, l20_lt, nle_20, l20_le, neq_20, nadd_20, nmul_20, nmul'_20, nadd'_20, nsub_20, nlt_400, l400_lt, nle_400, l400_le, neq_400, nadd_400, nmul_400, nmul'_400, nadd'_400, nsub_400, rd_0, wr_0, rd_1, wr_1, rd_2, wr_2, rd_3, wr_3, rd_4, wr_4, rd_5, wr_5, rd_6, wr_6, rd_7, wr_7, rd_8, wr_8, rd_9, wr_9, rd_10, wr_10, rd_11, wr_11, rd_12, wr_12, e1]
    rw [if_pos (by omega)]
    refine hk M q rfl (Sm_refl _ _ _) ?_
    rw [Nat.succ_mul]
    omega
  | k + 1, c, f + 1, q, M, hc, hf, hq, hR, hk => by
    have v1 := hg.1.1.1
    have v2 := hg.1.1.2.1
    have hcC : c < y_C g.1.1 := by omega
    have hlC : l * y_C g.1.1 ≤ 3 * 20 := Nat.mul_le_mul (by omega) v2
    have e1 : M.2.1 21 1 = i32 (y_C g.1.1) := hR.1.1.2.1
    have ed : (l * y_C g.1.1 + c) / y_C g.1.1 = l := by
      rw [Nat.mul_comm, Nat.mul_add_div (by omega), Nat.div_eq_of_lt hcC, Nat.add_zero]
    have em : (l * y_C g.1.1 + c) % y_C g.1.1 = c := by
      rw [Nat.mul_comm, Nat.mul_add_mod, Nat.mod_eq_of_lt hcC]
    have hpl : f_Yard_hasPlace 21 (i32 l) (i32 c) M = some (1, M) := by
      have := c_hasPlace hR.1.1 hg.1.1 (l := l) (c := c) (by omega) (by omega)
      rw [if_pos ⟨hl, hcC⟩] at this
      exact this
    rw [bgS, ed, em] at hk
    unfold f_GraveRails_begin_56
    simp (disch := omega) only [i32_lt, i32_le, i32_eq, i32_add, i32_mul, i32_neg, i32_nn, i32_ne1, i32_n1e, n1_lt_i32, i32_le_n1, i32_dec, i32_cl, rd_i32, ix_i32, wr_i32, pI_s, pR_s, pC_s, pZ_0, pZ_1, Option.bind_some, ite_true, ite_false, if_true, if_false, gIL, gRI, nlt_0, l0_lt, nle_0, l0_le, neq_0, nadd_0, nmul_0, nmul'_0, nadd'_0, nsub_0, nlt_1, l1_lt, nle_1, l1_le, neq_1, nadd_1, nmul_1, nmul'_1, nadd'_1, nsub_1, nlt_2, l2_lt, nle_2, l2_le, neq_2, nadd_2, nmul_2, nmul'_2, nadd'_2, nsub_2, nlt_3, l3_lt, nle_3, l3_le, neq_3, nadd_3, nmul_3, nmul'_3, nadd'_3, nsub_3, nlt_4, l4_lt, nle_4, l4_le, neq_4, nadd_4, nmul_4, nmul'_4, nadd'_4, nsub_4, nlt_5, l5_lt, nle_5, l5_le, neq_5, nadd_5, nmul_5, nmul'_5, nadd'_5, nsub_5, nlt_6, l6_lt, nle_6, l6_le, neq_6, nadd_6, nmul_6, nmul'_6, nadd'_6, nsub_6, nlt_7, l7_lt, nle_7, l7_le, neq_7, nadd_7, nmul_7, nmul'_7, nadd'_7, nsub_7, nlt_8, l8_lt, nle_8, l8_le, neq_8, nadd_8, nmul_8, nmul'_8, nadd'_8, nsub_8, nlt_9, l9_lt, nle_9, l9_le, neq_9, nadd_9, nmul_9, nmul'_9, nadd'_9, nsub_9, nlt_10, l10_lt, nle_10, l10_le, neq_10, nadd_10, nmul_10, nmul'_10, nadd'_10, nsub_10, nlt_11, l11_lt, nle_11, l11_le, neq_11, nadd_11, nmul_11, nmul'_11, nadd'_11, nsub_11, nlt_12, l12_lt, nle_12, l12_le, neq_12, nadd_12, nmul_12, nmul'_12, nadd'_12, nsub_12, nlt_13, l13_lt, nle_13, l13_le, neq_13, nadd_13, nmul_13, nmul'_13, nadd'_13, nsub_13, nlt_20, l20_lt, nle_20, l20_le, neq_20, nadd_20, nmul_20, nmul'_20, nadd'_20, nsub_20, nlt_400, l400_lt, nle_400, l400_le, neq_400, nadd_400, nmul_400, nmul'_400, nadd'_400, nsub_400, rd_0, wr_0, rd_1, wr_1, rd_2, wr_2, rd_3, wr_3, rd_4, wr_4, rd_5, wr_5, rd_6, wr_6, rd_7, wr_7, rd_8, wr_8, rd_9, wr_9, rd_10, wr_10, rd_11, wr_11, rd_12, wr_12, e1]
    rw [if_neg (by omega), c_isFree hg hR hpl (by omega) (by omega)]
    by_cases hf0 : grv g.1.2.1.2.1 g.1.2.1.2.2.1 l c = none
    · rw [if_pos hf0, bnd1]
      dsimp only
      refine OK_bind (c_fto hg hR ha hl hcC hf0) fun z hz => ?_
      rw [hz.1]
      have hR' := RC_Sm hg hR hz.2
      cases hb : fto g.1.1 (phi g.1.2.2.2.1 g.2.2.1.2) g.1.2.1 a l c with
      | false =>
        rw [if_pos e01_f]
        unfold f_GraveRails_begin_123
        rw [nadd_1]
        have hpb : ¬ plB g a l c = true := by unfold plB; rw [hb, Bool.and_false]; decide
        rw [if_neg hpb] at hk
        exact c_begin56 hg ha hl k (c + 1) f q z.2 (by omega) (by omega) (by omega) hR' fun M' q' h1 h2 => hk M' q' h1 (Sm_trans hz.2 h2)
      | true =>
        rw [if_neg (show ¬ e01 true = 0 by decide)]
        have hpb : plB g a l c = true := by unfold plB; rw [hb, decide_eq_true hf0]; rfl
        rw [if_pos hpb] at hk
        have key := c_begin56 (Q := Q) (K := K) (x2 := x2) hg ha hl k (c + 1) f (q.1 + 1, if q.1 = 0 then l * y_C g.1.1 + c else q.2) z.2 (by omega) (by omega) (by show q.1 + 1 ≤ _; omega) hR' fun M' q' h1 h2 => hk M' q' h1 (Sm_trans hz.2 h2)
        unfold f_GraveRails_begin_105 f_GraveRails_begin_118 f_GraveRails_begin_123
        simp only [nadd_1]
        by_cases q0 : q.1 = 0
        · rw [if_pos q0, if_pos (show i32 q.1 = 0 by rw [q0]; rfl)]
          rw [if_pos q0] at key
          unfold bgL bgC at key
          rw [if_neg (show ¬ q.1 + 1 = 0 by omega), if_neg (show ¬ q.1 + 1 = 0 by omega), ed, em] at key
          exact key
        · rw [if_neg q0, if_neg (show ¬ i32 q.1 = 0 from fun z => q0 ((neq_0 (by omega)).mp z))]
          rw [if_neg q0] at key
          unfold bgL bgC at key ⊢
          rw [if_neg (show ¬ q.1 + 1 = 0 by omega), if_neg (show ¬ q.1 + 1 = 0 by omega)] at key
          rw [if_neg q0, if_neg q0]
          exact key
    · rw [if_neg hf0, bnd0]
      dsimp only
      unfold f_GraveRails_begin_123
      rw [nadd_1]
      have hpb : ¬ plB g a l c = true := by unfold plB; rw [decide_eq_false hf0, Bool.false_and]; decide
      rw [if_neg hpb] at hk
      exact c_begin56 hg ha hl k (c + 1) f q M (by omega) (by omega) (by omega) hR hk
theorem c_begin38 {g : Gx} {a w : Nat} (hg : VG g) (ha : a < g.1.2.1.2.1) (hw : w ≤ 2) : ∀ (k l f : Nat) (q : Nat × Nat) (M : mM), l + k = y_L g.1.1 → k < f → q.1 ≤ l * y_C g.1.1 → RC g M → OK (f_GraveRails_begin_38 (i32 a) (i32 w) f (i32 q.1) (bgL (y_C g.1.1) q) (bgC (y_C g.1.1) q) (i32 l) M) fun z => z.1 = (if w = 0 then i32 (bgS (plB g a) (y_C g.1.1) (k * y_C g.1.1) (l * y_C g.1.1) q).1 else if w = 1 then bgL (y_C g.1.1) (bgS (plB g a) (y_C g.1.1) (k * y_C g.1.1) (l * y_C g.1.1) q) else bgC (y_C g.1.1) (bgS (plB g a) (y_C g.1.1) (k * y_C g.1.1) (l * y_C g.1.1) q)) ∧ Sm 246 269 M z.2
  | _, _, 0, _, _, _, hf, _, _ => absurd hf (Nat.not_lt_zero _)
  | 0, l, f + 1, q, M, hl, hf, hq, hR => by
    have v1 := hg.1.1.1
    have e0 : M.2.1 21 0 = i32 (y_L g.1.1) := hR.1.1.1
    unfold f_GraveRails_begin_38
    simp (disch := omega) only [i32_lt, i32_le, i32_eq, i32_add, i32_mul, i32_neg, i32_nn, i32_ne1, i32_n1e, n1_lt_i32, i32_le_n1, i32_dec, i32_cl, rd_i32, ix_i32, wr_i32, pI_s, pR_s, pC_s, pZ_0, pZ_1, Option.bind_some, ite_true, ite_false, if_true, if_false, gIL, gRI, nlt_0, l0_lt, nle_0, l0_le, neq_0, nadd_0, nmul_0, nmul'_0, nadd'_0, nsub_0, nlt_1, l1_lt, nle_1, l1_le, neq_1, nadd_1, nmul_1, nmul'_1, nadd'_1, nsub_1, nlt_2, l2_lt, nle_2, l2_le, neq_2, nadd_2, nmul_2, nmul'_2, nadd'_2, nsub_2, nlt_3, l3_lt, nle_3, l3_le, neq_3, nadd_3, nmul_3, nmul'_3, nadd'_3, nsub_3, nlt_4, l4_lt, nle_4, l4_le, neq_4, nadd_4, nmul_4, nmul'_4, nadd'_4, nsub_4, nlt_5, l5_lt, nle_5, l5_le, neq_5, nadd_5, nmul_5, nmul'_5, nadd'_5, nsub_5, nlt_6, l6_lt, nle_6, l6_le, neq_6, nadd_6, nmul_6, nmul'_6, nadd'_6, nsub_6, nlt_7, l7_lt, nle_7, l7_le, neq_7, nadd_7, nmul_7, nmul'_7, nadd'_7, nsub_7, nlt_8, l8_lt, nle_8, l8_le, neq_8, nadd_8, nmul_8, nmul'_8, nadd'_8, nsub_8, nlt_9, l9_lt, nle_9, l9_le, neq_9, nadd_9, nmul_9, nmul'_9, nadd'_9, nsub_9, nlt_10, l10_lt, nle_10, l10_le, neq_10, nadd_10, nmul_10, nmul'_10, nadd'_10, nsub_10, nlt_11, l11_lt, nle_11, l11_le, neq_11, nadd_11, nmul_11, nmul'_11, nadd'_11, nsub_11, nlt_12, l12_lt, nle_12, l12_le, neq_12, nadd_12, nmul_12, nmul'_12, nadd'_12, nsub_12, nlt_13, l13_lt, nle_13, l13_le, neq_13, nadd_13, nmul_13, nmul'_13, nadd'_13, nsub_13, nlt_20, l20_lt, nle_20, l20_le, neq_20, nadd_20, nmul_20, nmul'_20, nadd'_20, nsub_20, nlt_400, l400_lt, nle_400, l400_le, neq_400, nadd_400, nmul_400, nmul'_400, nadd'_400, nsub_400, rd_0, wr_0, rd_1, wr_1, rd_2, wr_2, rd_3, wr_3, rd_4, wr_4, rd_5, wr_5, rd_6, wr_6, rd_7, wr_7, rd_8, wr_8, rd_9, wr_9, rd_10, wr_10, rd_11, wr_11, rd_12, wr_12, e0]
    rw [if_pos (by omega), Nat.zero_mul]
    by_cases w0 : w = 0
    · rw [if_pos w0, if_pos w0]
      exact OK_some ⟨rfl, Sm_refl _ _ _⟩
    · rw [if_neg w0, if_neg w0]
      by_cases w1 : w = 1
      · rw [if_pos w1, if_pos w1]
        exact OK_some ⟨rfl, Sm_refl _ _ _⟩
      · rw [if_neg w1, if_neg w1]
        exact OK_some ⟨rfl, Sm_refl _ _ _⟩
  | k + 1, l, f + 1, q, M, hl, hf, hq, hR => by
    have v1 := hg.1.1.1
    have e0 : M.2.1 21 0 = i32 (y_L g.1.1) := hR.1.1.1
    unfold f_GraveRails_begin_38
    rw [e0, if_neg (by rw [i32_le (by omega) (by omega)]; omega)]
    refine c_begin56 hg ha (by omega) (y_C g.1.1) 0 FUEL q M (Nat.zero_add _) (by have := hg.1.1.2.1; rw [FUEL_eq]; omega) hq hR fun M' q' h1 h2 h3 => ?_
    refine OK_imp (c_begin38 hg ha hw k (l + 1) f q' M' (by omega) (by omega) h3 (RC_Sm hg hR h2)) fun z hz => ⟨?_, Sm_trans h2 hz.2⟩
    have h1' : q' = bgS (plB g a) (y_C g.1.1) (y_C g.1.1) (l * y_C g.1.1) q := h1
    rw [hz.1, h1', Nat.succ_mul l, show (k + 1) * y_C g.1.1 = y_C g.1.1 + k * y_C g.1.1 by rw [Nat.succ_mul, Nat.add_comm], bgS_add]
/-! the model -/
theorem m_fto {g : Gx} {M0 M1 : mM} (hg : VG g) (hK : Kp M0 M1) {a l c : Nat} (ha : a < g.1.2.1.2.1) (hl : l < y_L g.1.1) (hcc : c < y_C g.1.1) (hf : grv g.1.2.1.2.1 g.1.2.1.2.2.1 l c = none) {M : mM} (hm : RMm g M0) (hF : FrL M1 M) (h446 : M.2.1 446 = M0.2.1 446) (h26 : M.2.1 436 26 = 0) : OK (f_Model_fallTogether (i32 a) (i32 l) (i32 c) M) fun z => z.1 = e01 (fto g.1.1 (phi g.1.2.2.2.1 g.2.2.1.2) g.1.2.1 a l c) ∧ FrL M1 z.2 ∧ z.2.2.1 446 = M0.2.1 446 ∧ z.2.2.1 436 26 = 0 := by
  have hn := hg.1.2.1.2.2.2.1
  have hy := hg.1.2.1.2.2.2.2.1
  have hv := hg.1.1
  have v1 := hv.1
  have v2 := hv.2.1
  have hX := hm.1.1
  rw [← h446] at hX
  have e2 : M.2.1 446 2 = i32 g.1.2.1.2.1 := hX.1.2.2.1
  unfold f_Model_fallTogether
  rw [rd_2 (by omega) (by omega), Option.bind_some, e2]
  refine OK_bind (m_digs (M := M) (l := l) (c := c) (k := 0) hn e2) fun M2 h2 => ?_
  obtain ⟨d1, d2⟩ := h2
  rw [hX.1.2.2.2.1] at d2
  have hX2 := MSX_dig hX hn (y_p_out hv hg.1.2.1.2.2.1) (y_h_out hv hg.1.2.1.2.2.1) d2
  have hV' : V (y_L g.1.1) (y_C g.1.1) (g.1.2.1.2.1 + 1) (dgS g.1.2.1 l c 0).2.2.1 := V_dig hg.1.2.1.1 hn rfl hl hcc (Nat.zero_le _) rfl hf
  have e131 : ∀ i, 131 ≤ i → M2.2.1 446 i = M.2.1 446 i := fun i hi => d2.2.2.2.2.2.2.2.2.2.2.2.2 i (by omega) (by omega) (by omega) (by omega)
  have eK : ∀ p, p = 438 ∨ p = 440 ∨ p = 441 → M2.2.1 p = M0.2.1 p := fun p hp => by rw [Sm_i d1 (by omega), hF.2.1 p (by omega) (by omega) (by omega) (by omega) (by omega) (by omega), Sm_i hK.1 (by omega)]
  have e21 : M2.2.1 436 21 = M0.2.1 436 21 := by rw [Sm_i d1 (by omega), hF.2.2.1 21 (by omega), Sm_i hK.1 (by omega)]
  have hM : MYr g.1.1 (phi g.1.2.2.2.1 g.2.2.1.2) (g.1.2.1.2.1 + 1) g.1.2.1.1 (dgS g.1.2.1 l c 0).2.2.1 false M2 := by
    refine ⟨hv, hv.2.2.2.2.2.2.2.2.2.2.2 (by omega), fun a b q => Nat.lt_succ_of_lt (VS_PN hg.1.2.1 hv a b q), hX2.1, hV', ⟨?_, ?_⟩, RM_of (RM_in hg hm) (eK 438 (by omega)) (eK 440 (by omega)) (eK 441 (by omega)) e21, _, VT_dig hg.1.2.1.2.1 (show l < 4 by omega) (show c < 20 by omega), hX2.2.1, hX2.2.2.1⟩
    · obtain ⟨⟨rt, r5, hr, he⟩, r6, r7⟩ := hm.1.2.1
      rw [← h446] at hr r7
      refine ⟨⟨rt, hX2.2.2.2.2.1, fun k hk => ?_, he⟩, hX2.2.2.2.2.2, fun k hk => (e131 _ (by omega)).trans (r7 k hk)⟩
      obtain ⟨a1, a2, a3, a4, a5⟩ := hr k hk
      exact ⟨a1, a2, (e131 _ (by omega)).trans a3, (e131 _ (by omega)).trans a4, (e131 _ (by omega)).trans a5⟩
    · rw [Sm_i d1 (by omega)]; exact h26
  have h26' : M2.2.1 436 26 = 0 := hM.2.2.2.2.2.1.2
  have hF2 : FrL M1 M2 := FrL_trans hF ⟨fun p hp => Sm_r d1 (by omega), fun p a b _ _ _ _ => Sm_i d1 (by omega), fun i _ => by rw [Sm_i d1 (by omega)], e131⟩
  refine OK_bind (m_fallOf2 (show a < g.1.2.1.2.1 + 1 by omega) 200 0 FUEL _ _ M2 (by omega) (by rw [FUEL_eq]; omega) (by omega) hM h26') fun z hz => ?_
  obtain ⟨z1, ⟨yr', z2⟩, z3, z4⟩ := hz
  have hF3 := FrL_trans hF2 z3
  have hVF : VF (g.1.2.1.2.1 + 1) (dgS g.1.2.1 l c 0).2.2.1 := VF_dig hg.1.2.1.2.2.2.2.2.1
  have hVF2 := itU_VF (y := g.1.1) (φ := phi g.1.2.2.2.1 g.2.2.1.2) (a := a) (k := 200) (yr := g.1.2.1.1) hVF (by omega)
  have hnn := fell_nn hVF2 (show a < g.1.2.1.2.1 + 1 by omega)
  have fin : ∀ (v : Bool) (M' : mM), M' = z.2 → OK (f_Model_fallTogether_44 (i32 a) (i32 l) (i32 c) (e01 v) M') fun z => z.1 = e01 v ∧ FrL M1 z.2 ∧ z.2.2.1 446 = M0.2.1 446 ∧ z.2.2.1 436 26 = 0 := by
    intro v M' hM'
    subst hM'
    unfold f_Model_fallTogether_44
    refine OK_bind (m_lay hK hF3) fun M3 h3 => ?_
    rw [if_pos (by cases v; exact Or.inl rfl; exact Or.inr rfl)]
    exact OK_some ⟨rfl, h3.2.2.2.1, h3.1.1 446 (by omega) (by omega) (by omega) (by omega) (by omega) (by omega), by rw [h3.2.1]; exact z4⟩
  rw [z1]
  by_cases q : (itU g.1.1 (phi g.1.2.2.2.1 g.2.2.1.2) (g.1.2.1.2.1 + 1) a 200 g.1.2.1.1 (dgS g.1.2.1 l c 0).2.2.1 a).1 = none
  · have hge := hnn.mpr q
    rw [if_neg (Int32.not_lt.mpr hge), m_g4 (show g.1.2.1.2.1 < 11 by omega), Option.bind_some]
    have e4 : z.2.2.1 446 (10 + 9 * g.1.2.1.2.1 + 4) = _ := (z2.2.2.2.1.2.2.2.2.2 g.1.2.1.2.1 (Nat.lt_succ_self _)).1.2.2.2.2.1
    have efto : fto g.1.1 (phi g.1.2.2.2.1 g.2.2.1.2) g.1.2.1 a l c = decide ((itU g.1.1 (phi g.1.2.2.2.1 g.2.2.1.2) (g.1.2.1.2.1 + 1) a 200 g.1.2.1.1 (dgS g.1.2.1 l c 0).2.2.1 g.1.2.1.2.1).2.2.2.1 = (itU g.1.1 (phi g.1.2.2.2.1 g.2.2.1.2) (g.1.2.1.2.1 + 1) a 200 g.1.2.1.1 (dgS g.1.2.1 l c 0).2.2.1 a).2.2.2.1) := by
      unfold fto tgB
      rw [decide_eq_true q, Bool.true_and]
    rw [efto]
    dsimp only
    rw [e4]
    by_cases q' : (itU g.1.1 (phi g.1.2.2.2.1 g.2.2.1.2) (g.1.2.1.2.1 + 1) a 200 g.1.2.1.1 (dgS g.1.2.1 l c 0).2.2.1 g.1.2.1.2.1).2.2.2.1 = (itU g.1.1 (phi g.1.2.2.2.1 g.2.2.1.2) (g.1.2.1.2.1 + 1) a 200 g.1.2.1.1 (dgS g.1.2.1 l c 0).2.2.1 a).2.2.2.1
    · rw [if_pos q', decide_eq_true q']
      exact fin true _ rfl
    · rw [if_neg q', decide_eq_false q']
      exact fin false _ rfl
  · rw [if_pos (Int32.not_le.mp (fun w => q (hnn.mp w)))]
    have efto : fto g.1.1 (phi g.1.2.2.2.1 g.2.2.1.2) g.1.2.1 a l c = false := by
      unfold fto tgB
      rw [decide_eq_false q, Bool.false_and]
    rw [efto]
    exact fin false _ rfl
