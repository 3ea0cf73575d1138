/-! ===== a year: what it does to the graves, as data; the class does it ===== -/
def bup {α : Type} (f : Nat → α) (i : Nat) (v : α) : Nat → α := fun j => if j = i then v else f j
theorem bup_e {α : Type} (f : Nat → α) (i : Nat) (v : α) : bup f i v i = v := if_pos rfl
theorem bup_o {α : Type} {f : Nat → α} {i j : Nat} {v : α} (h : j ≠ i) : bup f i v j = f j := if_neg h
/-- the graves as a year goes on, and who has fallen -/
abbrev R : Type := (Nat → B) × List Nat
def drp (yr : Nat) (r : R) (g : Nat) : R := (bup r.1 g (none, (r.1 g).2.1, 0, i32 yr, (r.1 g).2.2.2.2.1, (r.1 g).2.2.2.2.2), r.2 ++ [g])
def comB (h l c : Nat) (x : Int32) (b : B) : B := (some (l, c), b.2.1, h, b.2.2.2.1, b.2.2.2.2.1, b.2.2.2.2.2 + x)
def com (y : Yd) (r : R) (g l c : Nat) (x : Int32) : Bool × R := (decide (y_r y l c = 0), (bup r.1 g (comB (y_r y l c) l c x (r.1 g)), r.2))
def side (y : Yd) (n : Nat) (b : Nat → B) (o l c : Nat) : Option Nat :=
  if (b o).2.1 = 3 then (if 0 < l ∧ grv n b (l - 1) c = none then some (l - 1) else if l + 1 < y_L y ∧ grv n b (l + 1) c = none then some (l + 1) else none) else none
def goS (y : Yd) (n yr : Nat) (r : R) (g : Nat) : Bool × R := match (r.1 g).1 with
  | none => (false, r)
  | some (_, 0) => (false, drp yr r g)
  | some (l, c + 1) => match grv n r.1 l c with
    | none => com y r g l c 0
    | some o => match side y n r.1 o l c with
      | none => (false, r)
      | some l' => com y r g l' c 1
/-! validity -/
theorem V_drop {L C n : Nat} {b : Nat → B} (h : V L C n b) {g : Nat} {x : B} (hx : x.1 = none) (hk : x.2.1 ≤ 3) (hh : x.2.2.1 = 0) : V L C n (bup b g x) := by
  obtain ⟨h1, h2, h3, h4, h5⟩ := h
  refine ⟨h1, h2, h3, fun i hi => ?_, fun i j p hi hj pi pj => ?_⟩
  · by_cases c : i = g
    · subst c
      rw [bup_e]
      exact ⟨fun l c z => (by rw [hx] at z; cases z), hk, by omega, fun _ => hh⟩
    · rw [bup_o c]
      exact h4 i hi
  · by_cases c : i = g
    · subst c
      rw [bup_e, hx] at pi
      cases pi
    · by_cases c' : j = g
      · subst c'
        rw [bup_e, hx] at pj
        cases pj
      · rw [bup_o c] at pi
        rw [bup_o c'] at pj
        exact h5 i j p hi hj pi pj
theorem V_come {L C n : Nat} {b : Nat → B} (h : V L C n b) {g l c : Nat} {x : B} (hx : x.1 = some (l, c)) (hl : l < L) (hc : c < C) (hk : x.2.1 ≤ 3) (hh : x.2.2.1 ≤ 9) (h3 : x.2.1 = 3 → x.2.2.1 = 0) (hf : ∀ i, i < n → i ≠ g → (b i).1 ≠ some (l, c)) : V L C n (bup b g x) := by
  obtain ⟨h1, h2, h3', h4, h5⟩ := h
  refine ⟨h1, h2, h3', fun i hi => ?_, fun i j p hi hj pi pj => ?_⟩
  · by_cases q : i = g
    · subst q
      rw [bup_e]
      refine ⟨fun l' c' z => ?_, hk, hh, h3⟩
      rw [hx] at z
      cases z
      exact ⟨hl, hc⟩
    · rw [bup_o q]
      exact h4 i hi
  · by_cases q : i = g
    · by_cases q' : j = g
      · rw [q, q']
      · subst q
        rw [bup_e, hx] at pi
        rw [bup_o q'] at pj
        rw [← pi] at pj
        exact absurd pj (hf j hj q')
    · by_cases q' : j = g
      · subst q'
        rw [bup_e, hx] at pj
        rw [bup_o q] at pi
        rw [← pj] at pi
        exact absurd pi (hf i hi q)
      · rw [bup_o q] at pi
        rw [bup_o q'] at pj
        exact h5 i j p hi hj pi pj
theorem fMany_out {b : Nat → B} {g : Nat} {x : B} : ∀ {n : Nat}, n ≤ g → fMany (bup b g x) n = fMany b n
  | 0, _ => rfl
  | n + 1, h => by
    show fMany (bup b g x) n + _ = fMany b n + _
    rw [fMany_out (n := n) (by omega), bup_o (show n ≠ g by omega)]
theorem fMany_same {b : Nat → B} {g : Nat} {x : B} (hx : (x.1 = none) = ((b g).1 = none)) : ∀ {n : Nat}, fMany (bup b g x) n = fMany b n
  | 0 => rfl
  | n + 1 => by
    show fMany (bup b g x) n + _ = fMany b n + _
    rw [fMany_same hx (n := n)]
    by_cases c : n = g
    · subst c
      rw [bup_e]
      simp only [hx]
    · rw [bup_o c]
theorem fMany_drop {b : Nat → B} {g : Nat} {x : B} (hx : x.1 = none) (hb : (b g).1 ≠ none) : ∀ {n : Nat}, g < n → fMany (bup b g x) n = fMany b n + 1
  | 0, h => absurd h (Nat.not_lt_zero _)
  | n + 1, h => by
    show fMany (bup b g x) n + _ = fMany b n + _ + 1
    by_cases c : n = g
    · subst c
      rw [bup_e, fMany_out (Nat.le_refl _), if_pos hx, if_neg hb]
    · rw [bup_o c, fMany_drop hx hb (n := n) (by omega)]
      omega
theorem fMany_le {b : Nat → B} : ∀ {n : Nat}, fMany b n ≤ n
  | 0 => Nat.le_refl _
  | n + 1 => by
    show fMany b n + _ ≤ n + 1
    have h := fMany_le (b := b) (n := n)
    split <;> omega
theorem fMany_lt {b : Nat → B} {g : Nat} (hb : (b g).1 ≠ none) : ∀ {n : Nat}, g < n → fMany b n < n
  | 0, h => absurd h (Nat.not_lt_zero _)
  | n + 1, h => by
    show fMany b n + _ < n + 1
    by_cases c : n = g
    · subst c
      rw [if_neg hb]
      have := fMany_le (b := b) (n := n)
      omega
    · have := fMany_lt hb (n := n) (by omega)
      split <;> omega
theorem CS_put {S y n : Nat} {b : Nat → B} {M M' : mM} {g : Nat} {x : B} (h : CS S y n b M) (e0 : M'.2.1 S 0 = M.2.1 S 0) (e1 : M'.2.1 S 1 = M.2.1 S 1) (e2 : M'.2.1 S 2 = i32 (fMany (bup b g x) n)) (eo : ∀ j, j ≠ g → M'.2.1 (S + 1) j = M.2.1 (S + 1) j ∧ M'.2.1 (S + 2) j = M.2.1 (S + 2) j ∧ M'.2.1 (S + 3) j = M.2.1 (S + 3) j ∧ M'.2.1 (S + 4) j = M.2.1 (S + 4) j ∧ M'.2.1 (S + 5) j = M.2.1 (S + 5) j ∧ M'.2.1 (S + 6) j = M.2.1 (S + 6) j ∧ M'.2.1 (S + 7) j = M.2.1 (S + 7) j) (eg : CB S g x M') : CS S y n (bup b g x) M' := by
  obtain ⟨h0, h1, h2, h3, h4⟩ := h
  refine ⟨e0.trans h0, e1.trans h1, e2, h3, fun j hj => ?_⟩
  by_cases c : j = g
  · subst c
    rw [bup_e]
    exact eg
  · rw [bup_o c]
    obtain ⟨a1, a2, a3, a4, a5, a6, a7⟩ := h4 j hj
    obtain ⟨o1, o2, o3, o4, o5, o6, o7⟩ := eo j c
    exact ⟨o1.trans a1, o2.trans a2, o3.trans a3, o4.trans a4, o5.trans a5, o6.trans a6, o7.trans a7⟩
/-! the class's course -/
def CR (y : Yd) (n yr : Nat) (r : R) (M : mM) : Prop := CS 247 yr n r.1 M ∧ V (y_L y) (y_C y) n r.1 ∧ M.2.1 246 2 = i32 r.2.length ∧ r.2.length ≤ fMany r.1 n ∧ ∀ k, k < r.2.length → M.2.1 257 k = i32 (r.2.getD k 0)
def CX (y : Yd) (Yp : Nat) (ru : Option Nat) (fl : Bool) (M : mM) : Prop := M.2.2.2 246 5 = some Yp ∧ Yp ∈ ydL ∧ (Yp + 8 ≤ 246 ∨ 269 ≤ Yp) ∧ CY Yp y M ∧ M.2.2.2 246 6 = ru ∧ M.2.1 246 7 = e01 fl
def Fr (M M' : mM) : Prop := M'.2.2.2 = M.2.2.2 ∧ (∀ p, p < 246 ∨ p = 255 ∨ p = 256 ∨ 258 ≤ p → M'.2.1 p = M.2.1 p) ∧ ∀ i, i ≠ 2 → i ≠ 3 → M'.2.1 246 i = M.2.1 246 i
theorem Fr_refl (M : mM) : Fr M M := ⟨rfl, fun _ _ => rfl, fun _ _ _ => rfl⟩
theorem Fr_trans {M M' M'' : mM} (h : Fr M M') (h' : Fr M' M'') : Fr M M'' := ⟨h'.1.trans h.1, fun p hp => (h'.2.1 p hp).trans (h.2.1 p hp), fun i h1 h2 => (h'.2.2 i h1 h2).trans (h.2.2 i h1 h2)⟩
theorem CX_Fr {y : Yd} {Yp : Nat} {ru : Option Nat} {fl : Bool} {M M' : mM} (h : CX y Yp ru fl M) (hf : Fr M M') : CX y Yp ru fl M' := by
  obtain ⟨h1, h2, h3, h4, h5, h6⟩ := h
  refine ⟨by rw [hf.1]; exact h1, h2, h3, ?_, by rw [hf.1]; exact h5, (hf.2.2 7 (by omega) (by omega)).trans h6⟩
  exact CY_Sm (lo := 246) (hi := 258) h4 (fun p hp => ⟨hf.2.1 p (by omega), by rw [hf.1]⟩) (by omega)
theorem c_lies1 {S y n : Nat} {b : Nat → B} {M : mM} {L C : Nat} (h : CS S y n b M) (hV : V L C n b) {g : Nat} (hg : g < n) (hl : (b g).1 ≠ none) : f_State_lies S (i32 g) M = some (1, M) := by
  rw [c_lies h hV (by have := hV.2.2.1; omega), if_pos ⟨hg, hl⟩]
theorem c_lies0 {S y n : Nat} {b : Nat → B} {M : mM} {L C : Nat} (h : CS S y n b M) (hV : V L C n b) {g : Nat} (hg : g < 2147483648) (hl : ¬ (g < n ∧ (b g).1 ≠ none)) : f_State_lies S (i32 g) M = some (0, M) := by
  rw [c_lies h hV hg, if_neg hl]
theorem c_has1 {S y n : Nat} {b : Nat → B} {M : mM} (h : CS S y n b M) {g : Nat} (hg : g < n) : f_State_has S (i32 g) M = some (1, M) := by
  rw [c_has h (by have := h.2.2.2.1; omega), if_pos hg]
theorem c_drop {y : Yd} {n yr : Nat} {r : R} {M : mM} (h : CR y n yr r M) {g : Nat} (hg : g < n) (hl : (r.1 g).1 ≠ none) : OK (f_Course_drop (i32 g) M) fun M' => CR y n yr (drp yr r g) M' ∧ Fr M M' ∧ M'.2.1 246 3 = M.2.1 246 3 := by
  obtain ⟨hS, hV, hc, hb, hr⟩ := h
  have hn := hV.2.2.1
  have h1 := fMany_lt hl hg
  have hS' := hS
  obtain ⟨s0, s1, s2, s3, s4⟩ := hS
  obtain ⟨a1, a2, a3, a4, a5, a6, a7⟩ := s4 g hg
  unfold f_Course_drop
  rw [c_lies1 hS' hV hg hl]
  simp (disch := omega) only [i32_lt, i32_le, i32_eq, i32_add, i32_mul, i32_neg, i32_nn, i32_ne1, i32_n1e, n1_lt_i32, i32_le_n1, i32_dec, i32_cl, rd_i32, ix_i32, wr_i32, pI_s, pR_s, pC_s, pZ_0, pZ_1, Option.bind_some, ite_true, ite_false, if_true, if_false, gIL, gRI, nlt_0, l0_lt, nle_0, l0_le, neq_0, nadd_0, nmul_0, nmul'_0, nadd'_0, nsub_0, nlt_1, l1_lt, nle_1, l1_le, neq_1, nadd_1, nmul_1, nmul'_1, nadd'_1, nsub_1, nlt_2, l2_lt, nle_2, l2_le, neq_2, nadd_2, nmul_2, nmul'_2, nadd'_2, nsub_2, nlt_3, l3_lt, nle_3, l3_le, neq_3, nadd_3, nmul_3, nmul'_3, nadd'_3, nsub_3, nlt_4, l4_lt, nle_4, l4_le, neq_4, nadd_4, nmul_4, nmul'_4, nadd'_4, nsub_4, nlt_5, l5_lt, nle_5, l5_le, neq_5, nadd_5, nmul_5, nmul'_5, nadd'_5, nsub_5, nlt_6, l6_lt, nle_6, l6_le, neq_6, nadd_6, nmul_6, nmul'_6, nadd'_6, nsub_6, nlt_7, l7_lt, nle_7, l7_le, neq_7, nadd_7, nmul_7, nmul'_7, nadd'_7, nsub_7, nlt_8, l8_lt, nle_8, l8_le, neq_8, nadd_8, nmul_8, nmul'_8, nadd'_8, nsub_8, nlt_9, l9_lt, nle_9, l9_le, neq_9, nadd_9, nmul_9, nmul'_9, nadd'_9, nsub_9, nlt_10, l10_lt, nle_10, l10_le, neq_10, nadd_10, nmul_10, nmul'_10, nadd'_10, nsub_10, nlt_11, l11_lt, nle_11, l11_le, neq_11, nadd_11, nmul_11, nmul'_11, nadd'_11, nsub_11, nlt_12, l12_lt, nle_12, l12_le, neq_12, nadd_12, nmul_12, nmul'_12, nadd'_12, nsub_12, nlt_13, l13_lt, nle_13, l13_le, neq_13, nadd_13, nmul_13, nmul'_13, nadd'_13, nsub_13, nlt_20, l20_lt, nle_20, l20_le, neq_20, nadd_20, nmul_20, nmul'_20, nadd'_20, nsub_20, nlt_400, l400_lt, nle_400, l400_le, neq_400, nadd_400, nmul_400, nmul'_400, nadd'_400, nsub_400, rd_0, wr_0, rd_1, wr_1, rd_2, wr_2, rd_3, wr_3, rd_4, wr_4, rd_5, wr_5, rd_6, wr_6, rd_7, wr_7, rd_8, wr_8, rd_9, wr_9, rd_10, wr_10, rd_11, wr_11, rd_12, wr_12, gIe, gIp, gIo, gCe, gCn, gRI, gLI, gIR, gCR, gLR, gRe, gRo, gRp, gIl, s0, s2, hc, show ((1 : Int32) = 0) = False from by decide]
  rw [if_neg (by omega)]
  refine OK_some ⟨⟨?_, V_drop hV rfl (hV.2.2.2.1 g hg).2.1 rfl, ?_, ?_, ?_⟩, ⟨rfl, ?_, ?_⟩, ?_⟩
  · refine CS_put hS' ?_ ?_ ?_ ?_ ?_
    · simp (disch := omega) only [gIe, gIp, gIo, gCe, gCn, gRI, gLI, gIR, gCR, gLR, gRe, gRo, gRp, gIl]
    · simp (disch := omega) only [gIe, gIp, gIo, gCe, gCn, gRI, gLI, gIR, gCR, gLR, gRe, gRo, gRp, gIl]
    · simp (disch := omega) only [gIe, gIp, gIo, gCe, gCn, gRI, gLI, gIR, gCR, gLR, gRe, gRo, gRp, gIl]
      rw [fMany_drop rfl hl hg]
    · intro j hj
      simp (disch := omega) only [gIe, gIp, gIo, gCe, gCn, gRI, gLI, gIR, gCR, gLR, gRe, gRo, gRp, gIl, and_self]
    · refine ⟨?_, ?_, ?_, ?_, ?_, ?_, ?_⟩ <;> simp (disch := omega) only [gIe, gIp, gIo, gCe, gCn, gRI, gLI, gIR, gCR, gLR, gRe, gRo, gRp, gIl] <;> first | rfl | assumption
  · simp (disch := omega) only [gIe, gIp, gIo, gCe, gCn, gRI, gLI, gIR, gCR, gLR, gRe, gRo, gRp, gIl, drp, List.length_append, List.length_singleton]
  · show (r.2 ++ [g]).length ≤ fMany (bup r.1 g _) n
    rw [fMany_drop rfl hl hg]
    simp only [List.length_append, List.length_singleton]
    omega
  · intro k hk
    simp only [drp, List.length_append, List.length_singleton] at hk
    by_cases c : k = r.2.length
    · subst c
      simp (disch := omega) only [gIe, gIp, gIo, gCe, gCn, gRI, gLI, gIR, gCR, gLR, gRe, gRo, gRp, gIl, drp, List.getD_eq_getElem?_getD, List.getElem?_concat_length, Option.getD_some]
    · simp (disch := omega) only [gIe, gIp, gIo, gCe, gCn, gRI, gLI, gIR, gCR, gLR, gRe, gRo, gRp, gIl, drp]
      rw [hr k (by omega), List.getD_eq_getElem?_getD, List.getD_eq_getElem?_getD, List.getElem?_append_left (by omega)]
  · intro p hp
    simp (disch := omega) only [gIe, gIp, gIo, gCe, gCn, gRI, gLI, gIR, gCR, gLR, gRe, gRo, gRp, gIl]
  · intro i h2 h3
    simp (disch := omega) only [gIe, gIp, gIo, gCe, gCn, gRI, gLI, gIR, gCR, gLR, gRe, gRo, gRp, gIl]
  · simp (disch := omega) only [gIe, gIp, gIo, gCe, gCn, gRI, gLI, gIR, gCR, gLR, gRe, gRo, gRp, gIl]
