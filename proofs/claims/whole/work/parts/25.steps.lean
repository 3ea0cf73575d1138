/-! ===== a turn: pairs, words, steps ===== -/
def runs (y : Yd) (n yr g : Nat) : Nat → R → R
  | 0, r => r
  | k + 1, r => if (goS y n yr r g).1 = true then runs y n yr g k (goS y n yr r g).2 else (goS y n yr r g).2
theorem com_kind (y : Yd) (r : R) (g l c : Nat) (x : Int32) (i : Nat) : ((com y r g l c x).2.1 i).2.1 = (r.1 i).2.1 := by
  show (bup r.1 g _ i).2.1 = _
  by_cases h : i = g
  · subst h; rw [bup_e]; rfl
  · rw [bup_o h]
theorem drp_kind (yr : Nat) (r : R) (g i : Nat) : ((drp yr r g).1 i).2.1 = (r.1 i).2.1 := by
  show (bup r.1 g _ i).2.1 = _
  by_cases h : i = g
  · subst h; rw [bup_e]
  · rw [bup_o h]
theorem goS_kind (y : Yd) (n yr : Nat) (r : R) (g i : Nat) : ((goS y n yr r g).2.1 i).2.1 = (r.1 i).2.1 := by
  unfold goS
  split
  · rfl
  · exact drp_kind yr r g i
  · split
    · exact com_kind y r g _ _ _ i
    · split
      · rfl
      · exact com_kind y r g _ _ _ i
theorem c_runs {y : Yd} {Yp : Nat} {ru : Option Nat} {fl : Bool} {n yr : Nat} (hv : VY y) {g s : Nat} (hg : g < n) (hs : s ≤ 9) : ∀ (k i f : Nat) (r : R) (M : mM), i + k = s → k < f → CR y n yr r M → CX y Yp ru fl M → (r.1 g).2.1 ≠ 3 → OK (f_Course_takeTurn_107 (i32 g) f (i32 s) 1 (i32 i) M) fun M' => CR y n yr (runs y n yr g k r) M' ∧ Fr M M' ∧ M'.2.1 246 3 = M.2.1 246 3
  | _, _, 0, _, _, _, hf, _, _, _ => absurd hf (Nat.not_lt_zero _)
  | 0, i, f + 1, r, M, hi, hf, h, hx, hk => by
    unfold f_Course_takeTurn_107
    simp (disch := omega) only [i32_lt, i32_le, i32_eq, i32_add, i32_mul, i32_neg, i32_nn, i32_ne1, i32_n1e, n1_lt_i32, i32_le_n1, i32_dec, i32_cl, rd_i32, ix_i32, wr_i32, pI_s, pR_s, pC_s, pZ_0, pZ_1, Option.bind_some, ite_true, ite_false, if_true, if_false, gIL, gRI, nlt_0, l0_lt, nle_0, l0_le, neq_0, nadd_0, nmul_0, nmul'_0, nadd'_0, nsub_0, nlt_1, l1_lt, nle_1, l1_le, neq_1, nadd_1, nmul_1, nmul'_1, nadd'_1, nsub_1, nlt_2, l2_lt, nle_2, l2_le, neq_2, nadd_2, nmul_2, nmul'_2, nadd'_2, nsub_2, nlt_3, l3_lt, nle_3, l3_le, neq_3, nadd_3, nmul_3, nmul'_3, nadd'_3, nsub_3, nlt_4, l4_lt, nle_4, l4_le, neq_4, nadd_4, nmul_4, nmul'_4, nadd'_4, nsub_4, nlt_5, l5_lt, nle_5, l5_le, neq_5, nadd_5, nmul_5, nmul'_5, nadd'_5, nsub_5, nlt_6, l6_lt, nle_6, l6_le, neq_6, nadd_6, nmul_6, nmul'_6, nadd'_6, nsub_6, nlt_7, l7_lt, nle_7, l7_le, neq_7, nadd_7, nmul_7, nmul'_7, nadd'_7, nsub_7, nlt_8, l8_lt, nle_8, l8_le, neq_8, nadd_8, nmul_8, nmul'_8, nadd'_8, nsub_8, nlt_9, l9_lt, nle_9, l9_le, neq_9, nadd_9, nmul_9, nmul'_9, nadd'_9, nsub_9, nlt_10, l10_lt, nle_10, l10_le, neq_10, nadd_10, nmul_10, nmul'_10, nadd'_10, nsub_10, nlt_11, l11_lt, nle_11, l11_le, neq_11, nadd_11, nmul_11, nmul'_11, nadd'_11, nsub_11, nlt_12, l12_lt, nle_12, l12_le, neq_12, nadd_12, nmul_12, nmul'_12, nadd'_12, nsub_12, nlt_13, l13_lt, nle_13, l13_le, neq_13, nadd_13, nmul_13, nmul'_13, nadd'_13, nsub_13, nlt_20, l20_lt, nle_20, l20_le, neq_20, nadd_20, nmul_20, nmul'_20, nadd'_20, nsub_20, nlt_400, l400_lt, nle_400, l400_le, neq_400, nadd_400, nmul_400, nmul'_400, nadd'_400, nsub_400, rd_0, wr_0, rd_1, wr_1, rd_2, wr_2, rd_3, wr_3, rd_4, wr_4, rd_5, wr_5, rd_6, wr_6, rd_7, wr_7, rd_8, wr_8, rd_9, wr_9, rd_10, wr_10, rd_11, wr_11, rd_12, wr_12]
    rw [if_pos (by omega)]
    exact OK_some ⟨h, Fr_refl M, rfl⟩
  | k + 1, i, f + 1, r, M, hi, hf, h, hx, hk => by
    unfold f_Course_takeTurn_107
    simp (disch := omega) only [i32_lt, i32_le, i32_eq, i32_add, i32_mul, i32_neg, i32_nn, i32_ne1, i32_n1e, n1_lt_i32, i32_le_n1, i32_dec, i32_cl, rd_i32, ix_i32, wr_i32, pI_s, pR_s, pC_s, pZ_0, pZ_1, Option.bind_some, ite_true, ite_false, if_true, if_false, gIL, gRI, nlt_0, l0_lt, nle_0, l0_le, neq_0, nadd_0, nmul_0, nmul'_0, nadd'_0, nsub_0, nlt_1, l1_lt, nle_1, l1_le, neq_1, nadd_1, nmul_1, nmul'_1, nadd'_1, nsub_1, nlt_2, l2_lt, nle_2, l2_le, neq_2, nadd_2, nmul_2, nmul'_2, nadd'_2, nsub_2, nlt_3, l3_lt, nle_3, l3_le, neq_3, nadd_3, nmul_3, nmul'_3, nadd'_3, nsub_3, nlt_4, l4_lt, nle_4, l4_le, neq_4, nadd_4, nmul_4, nmul'_4, nadd'_4, nsub_4, nlt_5, l5_lt, nle_5, l5_le, neq_5, nadd_5, nmul_5, nmul'_5, nadd'_5, nsub_5, nlt_6, l6_lt, nle_6, l6_le, neq_6, nadd_6, nmul_6, nmul'_6, nadd'_6, nsub_6, nlt_7, l7_lt, nle_7, l7_le, neq_7, nadd_7, nmul_7, nmul'_7, nadd'_7, nsub_7, nlt_8, l8_lt, nle_8, l8_le, neq_8, nadd_8, nmul_8, nmul'_8, nadd'_8, nsub_8, nlt_9, l9_lt, nle_9, l9_le, neq_9, nadd_9, nmul_9, nmul'_9, nadd'_9, nsub_9, nlt_10, l10_lt, nle_10, l10_le, neq_10, nadd_10, nmul_10, nmul'_10, nadd'_10, nsub_10, nlt_11, l11_lt, nle_11, l11_le, neq_11, nadd_11, nmul_11, nmul'_11, nadd'_11, nsub_11, nlt_12, l12_lt, nle_12, l12_le, neq_12, nadd_12, nmul_12, nmul'_12, nadd'_12, nsub_12, nlt_13, l13_lt, nle_13, l13_le, neq_13, nadd_13, nmul_13, nmul'_13, nadd'_13, nsub_13, nlt_20, l20_lt, nle_20, l20_le, neq_20, nadd_20, nmul_20, nmul'_20, nadd'_20, nsub_20, nlt_400, l400_lt, nle_400, l400_le, neq_400, nadd_400, nmul_400, nmul'_400, nadd'_400, nsub_400, rd_0, wr_0, rd_1, wr_1, rd_2, wr_2, rd_3, wr_3, rd_4, wr_4, rd_5, wr_5, rd_6, wr_6, rd_7, wr_7, rd_8, wr_8, rd_9, wr_9, rd_10, wr_10, rd_11, wr_11, rd_12, wr_12, show ((1 : Int32) = 0) = False from by decide]
    rw [if_neg (by omega), if_neg (by omega)]
    refine OK_bind (c_goStep h hx hv hg hk) fun q hq => ?_
    obtain ⟨q1, q2, q3, q4⟩ := hq
    rw [q1, runs]
    cases c1 : (goS y n yr r g).1 with
    | true =>
      rw [if_pos rfl]
      refine OK_imp (c_runs hv hg hs k (i + 1) f _ q.2 (by omega) (by omega) q2 (CX_Fr hx q3) (by rw [goS_kind]; exact hk)) fun M' hM' => ⟨hM'.1, Fr_trans q3 hM'.2.1, hM'.2.2.trans q4⟩
    | false =>
      rw [if_neg (by decide)]
      obtain ⟨f, rfl⟩ : ∃ f', f = f' + 1 := ⟨f - 1, by omega⟩
      have e : f_Course_takeTurn_107 (i32 g) (f + 1) (i32 s) (e01 false) (i32 (i + 1)) q.2 = some q.2 := by
        unfold f_Course_takeTurn_107
        simp only [e01, if_false, Bool.false_eq_true, if_true, ite_self]
      rw [e]
      exact OK_some ⟨q2, q3, q4⟩
/-! pairs -/
def far (y : Yd) (n : Nat) (b : Nat → B) (g : Nat) : Int32 := match y_p y g with
  | none => 0
  | some h => if h < n ∧ (b g).1 ≠ none ∧ (b h).1 ≠ none then eC (b h).1 - eC (b g).1 else 0
def nea (y : Yd) (n : Nat) (b : Nat → B) (g : Nat) : Bool := match y_p y g with
  | none => false
  | some h => if h < n then (match (b g).1, (b h).1 with | some p, some q => decide (p.2 < q.2) | _, _ => false) else false
theorem c_farther {y : Yd} {Yp : Nat} {ru : Option Nat} {fl : Bool} {n yr : Nat} {r : R} {M : mM} (h : CR y n yr r M) (hx : CX y Yp ru fl M) (hv : VY y) {g : Nat} (hg : g < n) (hl : (r.1 g).1 ≠ none) : f_Course_fartherBy (i32 g) M = some (far y n r.1 g, M) := by
  have hn := h.1.2.2.2.1
  obtain ⟨x1, x2, x3, x4, x5, x6⟩ := hx
  have a2 := (h.1.2.2.2.2 g hg).2.1
  simp only [Nat.reduceAdd] at a2
  unfold f_Course_fartherBy far
  simp (disch := omega) only [x1, nnl_s x2, Option.bind_some, c_pairOf x4 (show g < 11 by omega), c_lies1 h.1 h.2.1 hg hl, show ((1 : Int32) = 0) = False from by decide, if_false]
  cases hp : y_p y g with
  | none =>
    rw [show eG none = -1 from rfl, c_liesN (show (-1 : Int32) < 0 by decide)]
    rfl
  | some o =>
    have ho := hv.2.2.2.2.2.2.2.1 g o hp
    have hm := hv.2.2.1
    rw [show eG (some o) = i32 o from rfl, c_lies h.1 h.2.1 (show o < 2147483648 by omega)]
    simp only [Option.bind_some]
    by_cases c : o < n ∧ (r.1 o).1 ≠ none
    · rw [if_pos c, if_neg (by decide)]
      have b2 := (h.1.2.2.2.2 o c.1).2.1
      simp only [Nat.reduceAdd] at b2
      simp (disch := omega) only [rd_i32, Option.bind_some, a2, b2]
      rw [if_pos ⟨c.1, hl, c.2⟩]
    · rw [if_neg c, if_pos rfl, if_neg (fun z => c ⟨z.1, z.2.2⟩)]
theorem i32_subd {a b : Nat} (ha : a < 1073741824) (hb : b < 1073741824) : (i32 a - i32 b ≤ 0) = (a ≤ b) := by
  rw [Int32.le_iff_toInt_le, Int32.toInt_sub, i32_toInt (by omega), i32_toInt (by omega), Int.bmod_eq_of_le (by omega) (by omega)]
  have : (0 : Int32).toInt = 0 := by decide
  rw [this]
  exact propext (by omega)
theorem far_le {y : Yd} {n : Nat} {b : Nat → B} {L C g : Nat} (hV : V L C n b) (hg : g < n) : (far y n b g ≤ 0) = (nea y n b g = false) := by
  unfold far nea
  cases hp : y_p y g with
  | none => simp only [eq_true (show (0 : Int32) ≤ 0 by decide)]
  | some o =>
    simp only
    by_cases c1 : o < n
    · simp only [c1, true_and, if_true]
      cases c2 : (b g).1 with
      | none => simp only [ne_eq, not_true_eq_false, false_and, if_false, eq_true (show (0 : Int32) ≤ 0 by decide)]
      | some p =>
        cases c3 : (b o).1 with
        | none => simp only [ne_eq, not_true_eq_false, and_false, if_false, eq_true (show (0 : Int32) ≤ 0 by decide)]
        | some q =>
          have h1 := eL_lt hV (l := p.1) (c := p.2) hg c2
          have h2 := eL_lt hV (l := q.1) (c := q.2) c1 c3
          rw [if_pos ⟨Option.some_ne_none _, Option.some_ne_none _⟩]
          show (i32 q.2 - i32 p.2 ≤ 0) = _
          rw [i32_subd (by omega) (by omega)]
          exact propext (by rw [decide_eq_false_iff_not]; omega)
    · simp only [c1, false_and, if_false, eq_true (show (0 : Int32) ≤ 0 by decide)]
/-! words -/
def wds (y : Yd) (n yr : Nat) (fl : Bool) (b : Nat → B) (g l c : Nat) : List Int64 :=
  [(i32 g).toInt64, (i32 l).toInt64, (i32 c).toInt64, (i32 yr).toInt64, (i32 yr - (b g).2.2.2.2.1).toInt64, if (b g).2.1 = 1 then 1 else 0, if (b g).2.1 = 2 then 1 else 0, (far y n b g).toInt64, if 0 < c ∧ grv n b l (c - 1) ≠ none then 1 else 0, (i32 (cBeh b l c n 0 0)).toInt64, if fl = true then 1 else 0, (i32 (fMany b n)).toInt64]
/-- only what is beside the longs counts -/
def Eqv (M M' : mM) : Prop := M'.2.1 = M.2.1 ∧ (M'.2.2.2, M'.2.2.1 436) = (M.2.2.2, M.2.2.1 436)
theorem CR_Eqv {y : Yd} {n yr : Nat} {r : R} {M M' : mM} (h : CR y n yr r M) (e : Eqv M M') : CR y n yr r M' := by
  unfold CR CS CB at h ⊢
  rw [e.1]
  exact h
theorem CX_Eqv {y : Yd} {Yp : Nat} {ru : Option Nat} {fl : Bool} {M M' : mM} (h : CX y Yp ru fl M) (e : Eqv M M') : CX y Yp ru fl M' := by
  unfold CX CY at h ⊢
  rw [e.1, show M'.2.2.2 = M.2.2.2 from congrArg Prod.fst e.2]
  exact h
theorem Fr_Eqv {M M' : mM} (e : Eqv M M') : Fr M M' := ⟨congrArg Prod.fst e.2, fun p _ => by rw [e.1], fun i _ _ => by rw [e.1]⟩
theorem Eqv_L {M M' : mM} (e : Eqv M M') (p i : Nat) (v : Int64) (hp : p ≠ 436 := by omega) : Eqv M (msL M' p i v) := ⟨e.1, by rw [gLp (Ne.symm hp)]; exact e.2⟩
theorem getL12 {F : Nat → Int64} {a0 a1 a2 a3 a4 a5 a6 a7 a8 a9 a10 a11 : Int64} (h0 : F 0 = a0) (h1 : F 1 = a1) (h2 : F 2 = a2) (h3 : F 3 = a3) (h4 : F 4 = a4) (h5 : F 5 = a5) (h6 : F 6 = a6) (h7 : F 7 = a7) (h8 : F 8 = a8) (h9 : F 9 = a9) (h10 : F 10 = a10) (h11 : F 11 = a11) : ∀ k, k < 12 → F k = [a0, a1, a2, a3, a4, a5, a6, a7, a8, a9, a10, a11].getD k 0 := by
  intro k hk
  have h : k = 0 ∨ k = 1 ∨ k = 2 ∨ k = 3 ∨ k = 4 ∨ k = 5 ∨ k = 6 ∨ k = 7 ∨ k = 8 ∨ k = 9 ∨ k = 10 ∨ k = 11 := by omega
  rcases h with rfl | rfl | rfl | rfl | rfl | rfl | rfl | rfl | rfl | rfl | rfl | rfl <;> assumption
theorem c_fillWords {y : Yd} {Yp : Nat} {ru : Option Nat} {fl : Bool} {n yr : Nat} {r : R} {M : mM} (h : CR y n yr r M) (hx : CX y Yp ru fl M) (hv : VY y) {g l c : Nat} (hg : g < n) (hp : (r.1 g).1 = some (l, c)) : OK (f_Course_fillWords (i32 g) M) fun M' => Eqv M M' ∧ ∀ k, k < 12 → M'.2.2.1 268 k = (wds y n yr fl r.1 g l c).getD k 0 := by
  have hn := h.1.2.2.2.1
  have hV := h.2.1
  have hq := (hV.2.2.2.1 g hg).1 l c hp
  have hk := (hV.2.2.2.1 g hg).2.1
  have hL := hV.1
  have hC := hV.2.1
  obtain ⟨a1, a2, a3, a4, a5, a6, a7⟩ := h.1.2.2.2.2 g hg
  have s0 := h.1.1
  have s2 := h.1.2.2.1
  have x6 := hx.2.2.2.2.2
  simp only [Nat.reduceAdd] at a1 a2 a3 a4 a5 a6 a7
  rw [hp] at a1 a2
  simp only [eL, eC] at a1 a2
  have eF : ∀ M', Eqv M M' → f_Course_fartherBy (i32 g) M' = some (far y n r.1 g, M') := fun M' e => c_farther (CR_Eqv h e) (CX_Eqv hx e) hv hg (by rw [hp]; exact Option.some_ne_none _)
  have eB : ∀ M', Eqv M M' → f_State_countBehind 247 (i32 l) (i32 c) M' = some (i32 (cBeh r.1 l c n 0 0), M') := fun M' e => c_countBehind (CR_Eqv h e).1 hV (by omega) (by omega)
  have eA : ∀ M', Eqv M M' → f_State_graveAt 247 (i32 l) (i32 c - 1) M' = some (eG (if 0 < c ∧ grv n r.1 l (c - 1) ≠ none then grv n r.1 l (c - 1) else none), M') := fun M' e => by
    by_cases c0 : 0 < c
    · simp (disch := omega) only [nsub_1, c_graveAt (CR_Eqv h e).1 hV]
      by_cases c1 : grv n r.1 l (c - 1) = none
      · rw [if_neg (fun z => z.2 c1), c1]
      · rw [if_pos ⟨c0, c1⟩]
    · have : c = 0 := by omega
      subst this
      rw [c_graveAtN (by decide), if_neg (fun z => c0 z.1)]
      rfl
  have eN : (eG (if 0 < c ∧ grv n r.1 l (c - 1) ≠ none then grv n r.1 l (c - 1) else none) = -1) = ¬ (0 < c ∧ grv n r.1 l (c - 1) ≠ none) := by
    by_cases c0 : 0 < c ∧ grv n r.1 l (c - 1) ≠ none
    · rw [if_pos c0, eG_ne1 (grv_lt hn)]
      simp only [c0.2, c0, ne_eq, not_false_eq_true, and_self, not_true_eq_false]
    · rw [if_neg c0]
      simp only [eG, c0, not_false_eq_true]
  have k1 : ((i32 (r.1 g).2.1 = 1)) = ((r.1 g).2.1 = 1) := neq_1 (by omega)
  have k2 : ((i32 (r.1 g).2.1 = 2)) = ((r.1 g).2.1 = 2) := neq_2 (by omega)
  have xe : (e01 fl = 0) = (fl = false) := by cases fl <;> simp [e01]
  unfold f_Course_fillWords
  rw [c_has1 h.1 hg]
  simp (disch := omega) only [Option.bind_some, rd_i32, rdL_0, wrL_0, rdL_1, wrL_1, rdL_2, wrL_2, rdL_3, wrL_3, rdL_4, wrL_4, rdL_5, wrL_5, rdL_6, wrL_6, rdL_7, wrL_7, rdL_8, wrL_8, rdL_9, wrL_9, rdL_10, wrL_10, rdL_11, wrL_11, rdL_12, wrL_12, gLI, a1, a2, a3, a6, s0, show ((1 : Int32) = 0) = False from by decide, if_false, k1]
  have fin218 : ∀ (M1 : mM) (s2' : Int64), Eqv M M1 → s2' = (if fl = true then 1 else 0) → (M1.2.2.1 268 0 = (i32 g).toInt64 ∧ M1.2.2.1 268 1 = (i32 l).toInt64 ∧ M1.2.2.1 268 2 = (i32 c).toInt64 ∧ M1.2.2.1 268 3 = (i32 yr).toInt64 ∧ M1.2.2.1 268 4 = (i32 yr - (r.1 g).2.2.2.2.1).toInt64 ∧ M1.2.2.1 268 5 = (if (r.1 g).2.1 = 1 then 1 else 0) ∧ M1.2.2.1 268 6 = (if (r.1 g).2.1 = 2 then 1 else 0) ∧ M1.2.2.1 268 7 = (far y n r.1 g).toInt64 ∧ M1.2.2.1 268 8 = (if 0 < c ∧ grv n r.1 l (c - 1) ≠ none then 1 else 0) ∧ M1.2.2.1 268 9 = (i32 (cBeh r.1 l c n 0 0)).toInt64) → OK (f_Course_fillWords_218 (i32 g) 10 s2' M1) fun M' => Eqv M M' ∧ ∀ k, k < 12 → M'.2.2.1 268 k = (wds y n yr fl r.1 g l c).getD k 0 := by
    intro M1 s2' e hs hw
    obtain ⟨w0, w1, w2, w3, w4, w5, w6, w7, w8, w9⟩ := hw
    unfold f_Course_fillWords_218
    simp (disch := omega) only [Option.bind_some, rdL_0, wrL_0, rdL_1, wrL_1, rdL_2, wrL_2, rdL_3, wrL_3, rdL_4, wrL_4, rdL_5, wrL_5, rdL_6, wrL_6, rdL_7, wrL_7, rdL_8, wrL_8, rdL_9, wrL_9, rdL_10, wrL_10, rdL_11, wrL_11, rdL_12, wrL_12, gLI]
    refine OK_some ⟨e, getL12 ?_ ?_ ?_ ?_ ?_ ?_ ?_ ?_ ?_ ?_ ?_ ?_⟩ <;> simp (disch := omega) only [gLe, gLo] <;> first | assumption | rw [e.1, s2]
  have fin182 : ∀ (M1 : mM) (s2' : Int64), Eqv M M1 → s2' = (if 0 < c ∧ grv n r.1 l (c - 1) ≠ none then 1 else 0) → (M1.2.2.1 268 0 = (i32 g).toInt64 ∧ M1.2.2.1 268 1 = (i32 l).toInt64 ∧ M1.2.2.1 268 2 = (i32 c).toInt64 ∧ M1.2.2.1 268 3 = (i32 yr).toInt64 ∧ M1.2.2.1 268 4 = (i32 yr - (r.1 g).2.2.2.2.1).toInt64 ∧ M1.2.2.1 268 5 = (if (r.1 g).2.1 = 1 then 1 else 0) ∧ M1.2.2.1 268 6 = (if (r.1 g).2.1 = 2 then 1 else 0) ∧ M1.2.2.1 268 7 = (far y n r.1 g).toInt64) → OK (f_Course_fillWords_182 (i32 g) (i32 l) (i32 c) 8 s2' M1) fun M' => Eqv M M' ∧ ∀ k, k < 12 → M'.2.2.1 268 k = (wds y n yr fl r.1 g l c).getD k 0 := by
    intro M1 s2' e hs hw
    obtain ⟨w0, w1, w2, w3, w4, w5, w6, w7⟩ := hw
    unfold f_Course_fillWords_182
    simp (disch := omega) only [Option.bind_some, rdL_0, wrL_0, rdL_1, wrL_1, rdL_2, wrL_2, rdL_3, wrL_3, rdL_4, wrL_4, rdL_5, wrL_5, rdL_6, wrL_6, rdL_7, wrL_7, rdL_8, wrL_8, rdL_9, wrL_9, rdL_10, wrL_10, rdL_11, wrL_11, rdL_12, wrL_12]
    rw [eB _ (Eqv_L e _ _ _)]
    simp (disch := omega) only [Option.bind_some, rdL_0, wrL_0, rdL_1, wrL_1, rdL_2, wrL_2, rdL_3, wrL_3, rdL_4, wrL_4, rdL_5, wrL_5, rdL_6, wrL_6, rdL_7, wrL_7, rdL_8, wrL_8, rdL_9, wrL_9, rdL_10, wrL_10, rdL_11, wrL_11, rdL_12, wrL_12, gLI, e.1, x6, xe]
    have hw' : ∀ M2 : mM, M2 = msL (msL M1 268 8 s2') 268 9 (i32 (cBeh r.1 l c n 0 0)).toInt64 → (M2.2.2.1 268 0 = (i32 g).toInt64 ∧ M2.2.2.1 268 1 = (i32 l).toInt64 ∧ M2.2.2.1 268 2 = (i32 c).toInt64 ∧ M2.2.2.1 268 3 = (i32 yr).toInt64 ∧ M2.2.2.1 268 4 = (i32 yr - (r.1 g).2.2.2.2.1).toInt64 ∧ M2.2.2.1 268 5 = (if (r.1 g).2.1 = 1 then 1 else 0) ∧ M2.2.2.1 268 6 = (if (r.1 g).2.1 = 2 then 1 else 0) ∧ M2.2.2.1 268 7 = (far y n r.1 g).toInt64 ∧ M2.2.2.1 268 8 = (if 0 < c ∧ grv n r.1 l (c - 1) ≠ none then 1 else 0) ∧ M2.2.2.1 268 9 = (i32 (cBeh r.1 l c n 0 0)).toInt64) := by
      intro M2 hM2
      subst hM2
      refine ⟨?_, ?_, ?_, ?_, ?_, ?_, ?_, ?_, ?_, ?_⟩ <;> simp (disch := omega) only [gLe, gLo] <;> assumption
    cases fl with
    | false => rw [if_pos rfl]; exact fin218 _ _ (Eqv_L (Eqv_L e _ _ _) _ _ _) rfl (hw' _ rfl)
    | true => rw [if_neg (by decide)]; exact fin218 _ _ (Eqv_L (Eqv_L e _ _ _) _ _ _) rfl (hw' _ rfl)
  have fin142 : ∀ (M1 : mM) (s2' : Int64), Eqv M M1 → s2' = (if (r.1 g).2.1 = 2 then 1 else 0) → (M1.2.2.1 268 0 = (i32 g).toInt64 ∧ M1.2.2.1 268 1 = (i32 l).toInt64 ∧ M1.2.2.1 268 2 = (i32 c).toInt64 ∧ M1.2.2.1 268 3 = (i32 yr).toInt64 ∧ M1.2.2.1 268 4 = (i32 yr - (r.1 g).2.2.2.2.1).toInt64 ∧ M1.2.2.1 268 5 = (if (r.1 g).2.1 = 1 then 1 else 0)) → OK (f_Course_fillWords_142 (i32 g) (i32 l) (i32 c) 6 s2' M1) fun M' => Eqv M M' ∧ ∀ k, k < 12 → M'.2.2.1 268 k = (wds y n yr fl r.1 g l c).getD k 0 := by
    intro M1 s2' e hs hw
    obtain ⟨w0, w1, w2, w3, w4, w5⟩ := hw
    unfold f_Course_fillWords_142
    simp (disch := omega) only [Option.bind_some, rdL_0, wrL_0, rdL_1, wrL_1, rdL_2, wrL_2, rdL_3, wrL_3, rdL_4, wrL_4, rdL_5, wrL_5, rdL_6, wrL_6, rdL_7, wrL_7, rdL_8, wrL_8, rdL_9, wrL_9, rdL_10, wrL_10, rdL_11, wrL_11, rdL_12, wrL_12]
    rw [eF _ (Eqv_L e _ _ _)]
    simp (disch := omega) only [Option.bind_some, rdL_0, wrL_0, rdL_1, wrL_1, rdL_2, wrL_2, rdL_3, wrL_3, rdL_4, wrL_4, rdL_5, wrL_5, rdL_6, wrL_6, rdL_7, wrL_7, rdL_8, wrL_8, rdL_9, wrL_9, rdL_10, wrL_10, rdL_11, wrL_11, rdL_12, wrL_12]
    rw [eA _ (Eqv_L (Eqv_L e _ _ _) _ _ _)]
    simp only [Option.bind_some, eN]
    by_cases c0 : 0 < c ∧ grv n r.1 l (c - 1) ≠ none
    · rw [if_neg (fun z => z c0)]
      refine fin182 _ _ (Eqv_L (Eqv_L e _ _ _) _ _ _) (if_pos c0).symm ⟨?_, ?_, ?_, ?_, ?_, ?_, ?_, ?_⟩ <;> simp (disch := omega) only [gLe, gLo] <;> assumption
    · rw [if_pos c0]
      refine fin182 _ _ (Eqv_L (Eqv_L e _ _ _) _ _ _) (if_neg c0).symm ⟨?_, ?_, ?_, ?_, ?_, ?_, ?_, ?_⟩ <;> simp (disch := omega) only [gLe, gLo] <;> assumption
  have fin117 : ∀ (M1 : mM) (s2' : Int64), Eqv M M1 → s2' = (if (r.1 g).2.1 = 1 then 1 else 0) → (M1.2.2.1 268 0 = (i32 g).toInt64 ∧ M1.2.2.1 268 1 = (i32 l).toInt64 ∧ M1.2.2.1 268 2 = (i32 c).toInt64 ∧ M1.2.2.1 268 3 = (i32 yr).toInt64 ∧ M1.2.2.1 268 4 = (i32 yr - (r.1 g).2.2.2.2.1).toInt64) → OK (f_Course_fillWords_117 (i32 g) (i32 l) (i32 c) 5 s2' M1) fun M' => Eqv M M' ∧ ∀ k, k < 12 → M'.2.2.1 268 k = (wds y n yr fl r.1 g l c).getD k 0 := by
    intro M1 s2' e hs hw
    obtain ⟨w0, w1, w2, w3, w4⟩ := hw
    unfold f_Course_fillWords_117
    simp (disch := omega) only [Option.bind_some, rdL_0, wrL_0, rdL_1, wrL_1, rdL_2, wrL_2, rdL_3, wrL_3, rdL_4, wrL_4, rdL_5, wrL_5, rdL_6, wrL_6, rdL_7, wrL_7, rdL_8, wrL_8, rdL_9, wrL_9, rdL_10, wrL_10, rdL_11, wrL_11, rdL_12, wrL_12, rd_i32, gLI, e.1, a3, k2]
    by_cases c0 : (r.1 g).2.1 = 2
    · rw [if_pos c0]
      refine fin142 _ _ (Eqv_L e _ _ _) (if_pos c0).symm ⟨?_, ?_, ?_, ?_, ?_, ?_⟩ <;> simp (disch := omega) only [gLe, gLo] <;> assumption
    · rw [if_neg c0]
      refine fin142 _ _ (Eqv_L e _ _ _) (if_neg c0).symm ⟨?_, ?_, ?_, ?_, ?_, ?_⟩ <;> simp (disch := omega) only [gLe, gLo] <;> assumption
  have e0 : Eqv M M := ⟨rfl, rfl⟩
  by_cases c0 : (r.1 g).2.1 = 1
  · rw [if_pos c0]
    refine fin117 _ _ (Eqv_L (Eqv_L (Eqv_L (Eqv_L (Eqv_L e0 _ _ _) _ _ _) _ _ _) _ _ _) _ _ _) (if_pos c0).symm ⟨?_, ?_, ?_, ?_, ?_⟩ <;> simp (disch := omega) only [gLe, gLo]
  · rw [if_neg c0]
    refine fin117 _ _ (Eqv_L (Eqv_L (Eqv_L (Eqv_L (Eqv_L e0 _ _ _) _ _ _) _ _ _) _ _ _) _ _ _) (if_neg c0).symm ⟨?_, ?_, ?_, ?_, ?_⟩ <;> simp (disch := omega) only [gLe, gLo]
