/-! ===== who goes when: the class's order ===== -/
def lst (F : Nat → Int32) (e : Nat → Nat) : Nat → List Nat → Prop
  | _, [] => True
  | i, a :: L => F i = i32 (e a) ∧ lst F e (i + 1) L
theorem lst_app {F : Nat → Int32} {e : Nat → Nat} : ∀ {i : Nat} {A Z : List Nat}, lst F e i (A ++ Z) ↔ lst F e i A ∧ lst F e (i + A.length) Z
  | i, [], Z => by simp only [List.nil_append, lst, List.length_nil, Nat.add_zero, true_and]
  | i, a :: A, Z => by
    simp only [List.cons_append, lst, lst_app (A := A), List.length_cons, and_assoc]
    rw [show i + 1 + A.length = i + (A.length + 1) by omega]
theorem lst_agree {F F' : Nat → Int32} {e : Nat → Nat} : ∀ {i : Nat} {L : List Nat}, (∀ j, i ≤ j → j < i + L.length → F' j = F j) → lst F e i L → lst F' e i L
  | _, [], _, _ => trivial
  | i, a :: L, h, hl => ⟨(h i (Nat.le_refl i) (by simp only [List.length_cons]; omega)).trans hl.1, lst_agree (fun j h1 h2 => h j (by omega) (by simp only [List.length_cons]; omega)) hl.2⟩
theorem lst_at {F : Nat → Int32} {e : Nat → Nat} : ∀ {i : Nat} {L : List Nat}, lst F e i L → ∀ k, k < L.length → F (i + k) = i32 (e (L.getD k 0))
  | _, [], _, _, h => absurd h (Nat.not_lt_zero _)
  | i, a :: L, h, 0, _ => h.1
  | i, a :: L, h, k + 1, hk => by
    have := lst_at h.2 k (by simp only [List.length_cons] at hk; omega)
    rw [show i + (k + 1) = i + 1 + k by omega, this]
    rfl
def key (b : Nat → B) (g : Nat) : Nat := match (b g).1 with
  | none => 0
  | some p => p.2 * 4 + p.1
def insR (b : Nat → B) (g : Nat) : List Nat → List Nat → List Nat
  | [], Z => g :: Z
  | a :: ra, Z => if key b a ≤ key b g then (a :: ra).reverse ++ g :: Z else insR b g ra (a :: Z)
def ordL (b : Nat → B) : Nat → Nat → List Nat → List Nat
  | 0, _, L => L
  | k + 1, g, L => ordL b k (g + 1) (if (b g).1 = none then L else insR b g L.reverse [])
def FrO (M M' : mM) : Prop := M'.2.2.2 = M.2.2.2 ∧ (∀ p, p ≠ 246 → p ≠ 266 → p ≠ 267 → M'.2.1 p = M.2.1 p) ∧ ∀ i, i ≠ 10 → M'.2.1 246 i = M.2.1 246 i
theorem FrO_refl (M : mM) : FrO M M := ⟨rfl, fun _ _ _ _ => rfl, fun _ _ => rfl⟩
theorem FrO_trans {M M' M'' : mM} (h : FrO M M') (h' : FrO M' M'') : FrO M M'' := ⟨h'.1.trans h.1, fun p a b c => (h'.2.1 p a b c).trans (h.2.1 p a b c), fun i hi => (h'.2.2 i hi).trans (h.2.2 i hi)⟩
theorem CS_FrO {y n : Nat} {b : Nat → B} {M M' : mM} (h : CS 247 y n b M) (hf : FrO M M') : CS 247 y n b M' := by
  unfold CS CB at h ⊢
  rw [hf.2.1 247 (by omega) (by omega) (by omega), hf.2.1 (247 + 1) (by omega) (by omega) (by omega), hf.2.1 (247 + 2) (by omega) (by omega) (by omega), hf.2.1 (247 + 3) (by omega) (by omega) (by omega), hf.2.1 (247 + 4) (by omega) (by omega) (by omega), hf.2.1 (247 + 5) (by omega) (by omega) (by omega), hf.2.1 (247 + 6) (by omega) (by omega) (by omega), hf.2.1 (247 + 7) (by omega) (by omega) (by omega)]
  exact h
theorem CR_FrO {y : Yd} {n yr : Nat} {r : R} {M M' : mM} (h : CR y n yr r M) (hf : FrO M M') : CR y n yr r M' := by
  refine ⟨CS_FrO h.1 hf, h.2.1, (hf.2.2 2 (by omega)).trans h.2.2.1, h.2.2.2.1, ?_⟩
  rw [hf.2.1 257 (by omega) (by omega) (by omega)]
  exact h.2.2.2.2
theorem CX_FrO {y : Yd} {Yp : Nat} {ru : Option Nat} {fl : Bool} {M M' : mM} (h : CX y Yp ru fl M) (hf : FrO M M') : CX y Yp ru fl M' := by
  obtain ⟨h1, h2, h3, h4, h5, h6⟩ := h
  refine ⟨by rw [hf.1]; exact h1, h2, h3, ?_, by rw [hf.1]; exact h5, (hf.2.2 7 (by omega)).trans h6⟩
  exact CY_Sm (lo := 246) (hi := 269) h4 (fun p hp => ⟨hf.2.1 p (by omega) (by omega) (by omega), by rw [hf.1]⟩) (by omega)
/-- the rows of an order -/
def OL (b : Nat → B) (L : List Nat) (M : mM) : Prop := M.2.1 246 10 = i32 L.length ∧ lst (M.2.1 266) id 0 L ∧ lst (M.2.1 267) (key b) 0 L
theorem key_lt {b : Nat → B} {L C n g : Nat} (hV : V L C n b) (hg : g < n) : key b g < 2147483648 := by
  unfold key
  cases h : (b g).1 with
  | none => exact by decide
  | some p =>
    have := eL_lt hV (l := p.1) (c := p.2) hg h
    show p.2 * 4 + p.1 < _
    omega
theorem c_ins {b : Nat → B} {g n Ln Cn : Nat} {P : mM → Prop} {k7 : Int32 → mM → Option mM} {M0 : mM} (hV : V Ln Cn n b) (hg : g < n) : ∀ (ra Z : List Nat) (f : Nat) (M : mM), ra.length < f → ra.length + Z.length < 11 → (∀ a, a ∈ ra → a < n) → FrO M0 M → M.2.1 246 10 = i32 (ra.length + Z.length) → lst (M.2.1 266) id 0 ra.reverse → lst (M.2.1 266) id (ra.length + 1) Z → lst (M.2.1 267) (key b) 0 ra.reverse → lst (M.2.1 267) (key b) (ra.length + 1) Z → (∀ M', FrO M0 M' → M'.2.1 246 10 = i32 (ra.length + Z.length + 1) → lst (M'.2.1 266) id 0 (insR b g ra Z) → lst (M'.2.1 267) (key b) 0 (insR b g ra Z) → OK (k7 (i32 (g + 1)) M') P) → OK (f_Course_takeOrder_65 k7 f (i32 g) (i32 (key b g)) (i32 ra.length) M) P
  | _, _, 0, _, hf, _, _, _, _, _, _, _, _, _ => absurd hf (Nat.not_lt_zero _)
  | [], Z, f + 1, M, hf, ht, hn, h0, hc, h1, h2, h3, h4, hk => by
    have hn11 := hV.2.2.1
    simp only [List.length_nil, Nat.zero_add] at ht hc h2 h4 hk ⊢
    unfold f_Course_takeOrder_65 f_Course_takeOrder_115 f_Course_takeOrder_139
    simp (disch := omega) only [i32_lt, i32_le, i32_eq, i32_add, i32_mul, i32_neg, i32_nn, i32_ne1, i32_n1e, n1_lt_i32, i32_le_n1, i32_dec, i32_cl, rd_i32, ix_i32, wr_i32, pI_s, pR_s, pC_s, pZ_0, pZ_1, Option.bind_some, ite_true, ite_false, if_true, if_false, gIL, gRI, nlt_0, l0_lt, nle_0, l0_le, neq_0, nadd_0, nmul_0, nmul'_0, nadd'_0, nsub_0, nlt_1, l1_lt, nle_1, l1_le, neq_1, nadd_1, nmul_1, nmul'_1, nadd'_1, nsub_1, nlt_2, l2_lt, nle_2, l2_le, neq_2, nadd_2, nmul_2, nmul'_2, nadd'_2, nsub_2, nlt_3, l3_lt, nle_3, l3_le, neq_3, nadd_3, nmul_3, nmul'_3, nadd'_3, nsub_3, nlt_4, l4_lt, nle_4, l4_le, neq_4, nadd_4, nmul_4, nmul'_4, nadd'_4, nsub_4, nlt_5, l5_lt, nle_5, l5_le, neq_5, nadd_5, nmul_5, nmul'_5, nadd'_5, nsub_5, nlt_6, l6_lt, nle_6, l6_le, neq_6, nadd_6, nmul_6, nmul'_6, nadd'_6, nsub_6, nlt_7, l7_lt, nle_7, l7_le, neq_7, nadd_7, nmul_7, nmul'_7, nadd'_7, nsub_7, nlt_8, l8_lt, nle_8, l8_le, neq_8, nadd_8, nmul_8, nmul'_8, nadd'_8, nsub_8, nlt_9, l9_lt, nle_9, l9_le, neq_9, nadd_9, nmul_9, nmul'_9, nadd'_9, nsub_9, nlt_10, l10_lt, nle_10, l10_le, neq_10, nadd_10, nmul_10, nmul'_10, nadd'_10, nsub_10, nlt_11, l11_lt, nle_11, l11_le, neq_11, nadd_11, nmul_11, nmul'_11, nadd'_11, nsub_11, nlt_12, l12_lt, nle_12, l12_le, neq_12, nadd_12, nmul_12, nmul'_12, nadd'_12, nsub_12, nlt_13, l13_lt, nle_13, l13_le, neq_13, nadd_13, nmul_13, nmul'_13, nadd'_13, nsub_13, nlt_20, l20_lt, nle_20, l20_le, neq_20, nadd_20, nmul_20, nmul'_20, nadd'_20, nsub_20, nlt_400, l400_lt, nle_400, l400_le, neq_400, nadd_400, nmul_400, nmul'_400, nadd'_400, nsub_400, rd_0, wr_0, rd_1, wr_1, rd_2, wr_2, rd_3, wr_3, rd_4, wr_4, rd_5, wr_5, rd_6, wr_6, rd_7, wr_7, rd_8, wr_8, rd_9, wr_9, rd_10, wr_10, rd_11, wr_11, rd_12, wr_12, gIe, gIp, gIo, gCe, gCn, gRI, gLI, gIR, gCR, gLR, gRe, gRo, gRp, gIl, hc, Nat.le_refl]
    refine hk _ (FrO_trans h0 ⟨rfl, fun p a1 a2 a3 => ?_, fun i hi => ?_⟩) ?_ ⟨?_, ?_⟩ ⟨?_, ?_⟩
    · simp (disch := omega) only [gIe, gIp, gIo, gCe, gCn, gRI, gLI, gIR, gCR, gLR, gRe, gRo, gRp, gIl]
    · simp (disch := omega) only [gIe, gIp, gIo, gCe, gCn, gRI, gLI, gIR, gCR, gLR, gRe, gRo, gRp, gIl]
    · simp (disch := omega) only [gIe, gIp, gIo, gCe, gCn, gRI, gLI, gIR, gCR, gLR, gRe, gRo, gRp, gIl]
    · simp (disch := omega) only [gIe, gIp, gIo, gCe, gCn, gRI, gLI, gIR, gCR, gLR, gRe, gRo, gRp, gIl, id]
    · refine lst_agree (fun j j1 j2 => ?_) h2
      simp (disch := omega) only [gIe, gIp, gIo, gCe, gCn, gRI, gLI, gIR, gCR, gLR, gRe, gRo, gRp, gIl]
    · simp (disch := omega) only [gIe, gIp, gIo, gCe, gCn, gRI, gLI, gIR, gCR, gLR, gRe, gRo, gRp, gIl]
    · refine lst_agree (fun j j1 j2 => ?_) h4
      simp (disch := omega) only [gIe, gIp, gIo, gCe, gCn, gRI, gLI, gIR, gCR, gLR, gRe, gRo, gRp, gIl]
  | a :: ra, Z, f + 1, M, hf, ht, hn, h0, hc, h1, h2, h3, h4, hk => by
    have hn11 := hV.2.2.1
    have ha := hn a (List.mem_cons_self)
    have kg := key_lt hV hg
    have ka := key_lt hV ha
    simp only [List.length_cons] at hf ht hc h2 h4 hk ⊢
    rw [List.reverse_cons, lst_app] at h1 h3
    have e1 := h1.2.1
    have e3 := h3.2.1
    simp only [List.length_reverse, Nat.zero_add, id] at e1 e3
    unfold f_Course_takeOrder_65
    simp (disch := omega) only [i32_lt, i32_le, i32_eq, i32_add, i32_mul, i32_neg, i32_nn, i32_ne1, i32_n1e, n1_lt_i32, i32_le_n1, i32_dec, i32_cl, rd_i32, ix_i32, wr_i32, pI_s, pR_s, pC_s, pZ_0, pZ_1, Option.bind_some, ite_true, ite_false, if_true, if_false, gIL, gRI, nlt_0, l0_lt, nle_0, l0_le, neq_0, nadd_0, nmul_0, nmul'_0, nadd'_0, nsub_0, nlt_1, l1_lt, nle_1, l1_le, neq_1, nadd_1, nmul_1, nmul'_1, nadd'_1, nsub_1, nlt_2, l2_lt, nle_2, l2_le, neq_2, nadd_2, nmul_2, nmul'_2, nadd'_2, nsub_2, nlt_3, l3_lt, nle_3, l3_le, neq_3, nadd_3, nmul_3, nmul'_3, nadd'_3, nsub_3, nlt_4, l4_lt, nle_4, l4_le, neq_4, nadd_4, nmul_4, nmul'_4, nadd'_4, nsub_4, nlt_5, l5_lt, nle_5, l5_le, neq_5, nadd_5, nmul_5, nmul'_5, nadd'_5, nsub_5, nlt_6, l6_lt, nle_6, l6_le, neq_6, nadd_6, nmul_6, nmul'_6, nadd'_6, nsub_6, nlt_7, l7_lt, nle_7, l7_le, neq_7, nadd_7, nmul_7, nmul'_7, nadd'_7, nsub_7, nlt_8, l8_lt, nle_8, l8_le, neq_8, nadd_8, nmul_8, nmul'_8, nadd'_8, nsub_8, nlt_9, l9_lt, nle_9, l9_le, neq_9, nadd_9, nmul_9, nmul'_9, nadd'_9, nsub_9, nlt_10, l10_lt, nle_10, l10_le, neq_10, nadd_10, nmul_10, nmul'_10, nadd'_10, nsub_10, nlt_11, l11_lt, nle_11, l11_le, neq_11, nadd_11, nmul_11, nmul'_11, nadd'_11, nsub_11, nlt_12, l12_lt, nle_12, l12_le, neq_12, nadd_12, nmul_12, nmul'_12, nadd'_12, nsub_12, nlt_13, l13_lt, nle_13, l13_le, neq_13, nadd_13, nmul_13, nmul'_13, nadd'_13, nsub_13, nlt_20, l20_lt, nle_20, l20_le, neq_20, nadd_20, nmul_20, nmul'_20, nadd'_20, nsub_20, nlt_400, l400_lt, nle_400, l400_le, neq_400, nadd_400, nmul_400, nmul'_400, nadd'_400, nsub_400, rd_0, wr_0, rd_1, wr_1, rd_2, wr_2, rd_3, wr_3, rd_4, wr_4, rd_5, wr_5, rd_6, wr_6, rd_7, wr_7, rd_8, wr_8, rd_9, wr_9, rd_10, wr_10, rd_11, wr_11, rd_12, wr_12, Nat.add_sub_cancel, e3]
    rw [if_neg (by omega)]
    by_cases c : key b a ≤ key b g
    · rw [if_pos c]
      unfold f_Course_takeOrder_115 f_Course_takeOrder_139
      simp (disch := omega) only [i32_lt, i32_le, i32_eq, i32_add, i32_mul, i32_neg, i32_nn, i32_ne1, i32_n1e, n1_lt_i32, i32_le_n1, i32_dec, i32_cl, rd_i32, ix_i32, wr_i32, pI_s, pR_s, pC_s, pZ_0, pZ_1, Option.bind_some, ite_true, ite_false, if_true, if_false, gIL, gRI, nlt_0, l0_lt, nle_0, l0_le, neq_0, nadd_0, nmul_0, nmul'_0, nadd'_0, nsub_0, nlt_1, l1_lt, nle_1, l1_le, neq_1, nadd_1, nmul_1, nmul'_1, nadd'_1, nsub_1, nlt_2, l2_lt, nle_2, l2_le, neq_2, nadd_2, nmul_2, nmul'_2, nadd'_2, nsub_2, nlt_3, l3_lt, nle_3, l3_le, neq_3, nadd_3, nmul_3, nmul'_3, nadd'_3, nsub_3, nlt_4, l4_lt, nle_4, l4_le, neq_4, nadd_4, nmul_4, nmul'_4, nadd'_4, nsub_4, nlt_5, l5_lt, nle_5, l5_le, neq_5, nadd_5, nmul_5, nmul'_5, nadd'_5, nsub_5, nlt_6, l6_lt, nle_6, l6_le, neq_6, nadd_6, nmul_6, nmul'_6, nadd'_6, nsub_6, nlt_7, l7_lt, nle_7, l7_le, neq_7, nadd_7, nmul_7, nmul'_7, nadd'_7, nsub_7, nlt_8, l8_lt, nle_8, l8_le, neq_8, nadd_8, nmul_8, nmul'_8, nadd'_8, nsub_8, nlt_9, l9_lt, nle_9, l9_le, neq_9, nadd_9, nmul_9, nmul'_9, nadd'_9, nsub_9, nlt_10, l10_lt, nle_10, l10_le, neq_10, nadd_10, nmul_10, nmul'_10, nadd'_10, nsub_10, nlt_11, l11_lt, nle_11, l11_le, neq_11, nadd_11, nmul_11, nmul'_11, nadd'_11, nsub_11, nlt_12, l12_lt, nle_12, l12_le, neq_12, nadd_12, nmul_12, nmul'_12, nadd'_12, nsub_12, nlt_13, l13_lt, nle_13, l13_le, neq_13, nadd_13, nmul_13, nmul'_13, nadd'_13, nsub_13, nlt_20, l20_lt, nle_20, l20_le, neq_20, nadd_20, nmul_20, nmul'_20, nadd'_20, nsub_20, nlt_400, l400_lt, nle_400, l400_le, neq_400, nadd_400, nmul_400, nmul'_400, nadd'_400, nsub_400, rd_0, wr_0, rd_1, wr_1, rd_2, wr_2, rd_3, wr_3, rd_4, wr_4, rd_5, wr_5, rd_6, wr_6, rd_7, wr_7, rd_8, wr_8, rd_9, wr_9, rd_10, wr_10, rd_11, wr_11, rd_12, wr_12, gIe, gIp, gIo, gCe, gCn, gRI, gLI, gIR, gCR, gLR, gRe, gRo, gRp, gIl, hc]
      rw [show insR b g (a :: ra) Z = (a :: ra).reverse ++ g :: Z from if_pos c] at hk
      have la : ((a :: ra).reverse).length = ra.length + 1 := by simp only [List.length_reverse, List.length_cons]
      refine hk _ (FrO_trans h0 ⟨rfl, fun p a1 a2 a3 => ?_, fun i hi => ?_⟩) ?_ (lst_app.mpr ⟨?_, ?_⟩) (lst_app.mpr ⟨?_, ?_⟩)
      · simp (disch := omega) only [gIe, gIp, gIo, gCe, gCn, gRI, gLI, gIR, gCR, gLR, gRe, gRo, gRp, gIl]
      · simp (disch := omega) only [gIe, gIp, gIo, gCe, gCn, gRI, gLI, gIR, gCR, gLR, gRe, gRo, gRp, gIl]
      · simp (disch := omega) only [gIe, gIp, gIo, gCe, gCn, gRI, gLI, gIR, gCR, gLR, gRe, gRo, gRp, gIl]
      · rw [List.reverse_cons]
        refine lst_agree (fun j j1 j2 => ?_) (lst_app.mpr h1)
        rw [← List.reverse_cons, la] at j2
        simp (disch := omega) only [gIe, gIp, gIo, gCe, gCn, gRI, gLI, gIR, gCR, gLR, gRe, gRo, gRp, gIl]
      · rw [la]
        refine ⟨?_, lst_agree (fun j j1 j2 => ?_) (show lst (M.2.1 266) id (0 + (ra.length + 1) + 1) Z by rw [Nat.zero_add]; exact h2)⟩
        · simp (disch := omega) only [gIe, gIp, gIo, gCe, gCn, gRI, gLI, gIR, gCR, gLR, gRe, gRo, gRp, gIl, id, Nat.zero_add]
        · simp (disch := omega) only [gIe, gIp, gIo, gCe, gCn, gRI, gLI, gIR, gCR, gLR, gRe, gRo, gRp, gIl]
      · rw [List.reverse_cons]
        refine lst_agree (fun j j1 j2 => ?_) (lst_app.mpr h3)
        rw [← List.reverse_cons, la] at j2
        simp (disch := omega) only [gIe, gIp, gIo, gCe, gCn, gRI, gLI, gIR, gCR, gLR, gRe, gRo, gRp, gIl]
      · rw [la]
        refine ⟨?_, lst_agree (fun j j1 j2 => ?_) (show lst (M.2.1 267) (key b) (0 + (ra.length + 1) + 1) Z by rw [Nat.zero_add]; exact h4)⟩
        · simp (disch := omega) only [gIe, gIp, gIo, gCe, gCn, gRI, gLI, gIR, gCR, gLR, gRe, gRo, gRp, gIl, Nat.zero_add]
        · simp (disch := omega) only [gIe, gIp, gIo, gCe, gCn, gRI, gLI, gIR, gCR, gLR, gRe, gRo, gRp, gIl]
    · rw [if_neg c]
      simp (disch := omega) only [i32_lt, i32_le, i32_eq, i32_add, i32_mul, i32_neg, i32_nn, i32_ne1, i32_n1e, n1_lt_i32, i32_le_n1, i32_dec, i32_cl, rd_i32, ix_i32, wr_i32, pI_s, pR_s, pC_s, pZ_0, pZ_1, Option.bind_some, ite_true, ite_false, if_true, if_false, gIL, gRI, nlt_0, l0_lt, nle_0, l0_le, neq_0, nadd_0, nmul_0, nmul'_0, nadd'_0, nsub_0, nlt_1, l1_lt, nle_1, l1_le, neq_1, nadd_1, nmul_1, nmul'_1, nadd'_1, nsub_1, nlt_2, l2_lt, nle_2, l2_le, neq_2, nadd_2, nmul_2, nmul'_2, nadd'_2, nsub_2, nlt_3, l3_lt, nle_3, l3_le, neq_3, nadd_3, nmul_3, nmul'_3, nadd'_3, nsub_3, nlt_4, l4_lt, nle_4, l4_le, neq_4, nadd_4, nmul_4, nmul'_4, nadd'_4, nsub_4, nlt_5, l5_lt, nle_5, l5_le, neq_5, nadd_5, nmul_5, nmul'_5, nadd'_5, nsub_5, nlt_6, l6_lt, nle_6, l6_le, neq_6, nadd_6, nmul_6, nmul'_6, nadd'_6, nsub_6, nlt_7, l7_lt, nle_7, l7_le, neq_7, nadd_7, nmul_7, nmul'_7, nadd'_7, nsub_7, nlt_8, l8_lt, nle_8, l8_le, neq_8, nadd_8, nmul_8, nmul'_8, nadd'_8, nsub_8, nlt_9, l9_lt, nle_9, l9_le, neq_9, nadd_9, nmul_9, nmul'_9, nadd'_9, nsub_9, nlt_10, l10_lt, nle_10, l10_le, neq_10, nadd_10, nmul_10, nmul'_10, nadd'_10, nsub_10, nlt_11, l11_lt, nle_11, l11_le, neq_11, nadd_11, nmul_11, nmul'_11, nadd'_11, nsub_11, nlt_12, l12_lt, nle_12, l12_le, neq_12, nadd_12, nmul_12, nmul'_12, nadd'_12, nsub_12, nlt_13, l13_lt, nle_13, l13_le, neq_13, nadd_13, nmul_13, nmul'_13, nadd'_13, nsub_13, nlt_20, l20_lt, nle_20, l20_le, neq_20, nadd_20, nmul_20, nmul'_20, nadd'_20, nsub_20, nlt_400, l400_lt, nle_400, l400_le, neq_400, nadd_400, nmul_400, nmul'_400, nadd'_400, nsub_400, rd_0, wr_0, rd_1, wr_1, rd_2, wr_2, rd_3, wr_3, rd_4, wr_4, rd_5, wr_5, rd_6, wr_6, rd_7, wr_7, rd_8, wr_8, rd_9, wr_9, rd_10, wr_10, rd_11, wr_11, rd_12, wr_12, gIe, gIp, gIo, gCe, gCn, gRI, gLI, gIR, gCR, gLR, gRe, gRo, gRp, gIl, Nat.add_sub_cancel, e1]
      rw [show insR b g (a :: ra) Z = insR b g ra (a :: Z) from if_neg c] at hk
      refine c_ins hV hg ra (a :: Z) f _ (by omega) (by simp only [List.length_cons]; omega) (fun a' h' => hn a' (List.mem_cons_of_mem _ h')) (FrO_trans h0 ⟨rfl, fun p a1 a2 a3 => ?_, fun i hi => ?_⟩) ?_ ?_ ⟨?_, ?_⟩ ?_ ⟨?_, ?_⟩ ?_
      · simp (disch := omega) only [gIe, gIp, gIo, gCe, gCn, gRI, gLI, gIR, gCR, gLR, gRe, gRo, gRp, gIl]
      · simp (disch := omega) only [gIe, gIp, gIo, gCe, gCn, gRI, gLI, gIR, gCR, gLR, gRe, gRo, gRp, gIl]
      · simp (disch := omega) only [gIe, gIp, gIo, gCe, gCn, gRI, gLI, gIR, gCR, gLR, gRe, gRo, gRp, gIl, List.length_cons, hc]
        exact congrArg i32 (by omega)
      · refine lst_agree (fun j j1 j2 => ?_) h1.1
        simp only [List.length_reverse] at j2
        simp (disch := omega) only [gIe, gIp, gIo, gCe, gCn, gRI, gLI, gIR, gCR, gLR, gRe, gRo, gRp, gIl]
      · simp (disch := omega) only [gIe, gIp, gIo, gCe, gCn, gRI, gLI, gIR, gCR, gLR, gRe, gRo, gRp, gIl, id]
      · refine lst_agree (fun j j1 j2 => ?_) h2
        simp (disch := omega) only [gIe, gIp, gIo, gCe, gCn, gRI, gLI, gIR, gCR, gLR, gRe, gRo, gRp, gIl]
      · refine lst_agree (fun j j1 j2 => ?_) h3.1
        simp only [List.length_reverse] at j2
        simp (disch := omega) only [gIe, gIp, gIo, gCe, gCn, gRI, gLI, gIR, gCR, gLR, gRe, gRo, gRp, gIl]
      · simp (disch := omega) only [gIe, gIp, gIo, gCe, gCn, gRI, gLI, gIR, gCR, gLR, gRe, gRo, gRp, gIl]
      · refine lst_agree (fun j j1 j2 => ?_) h4
        simp (disch := omega) only [gIe, gIp, gIo, gCe, gCn, gRI, gLI, gIR, gCR, gLR, gRe, gRo, gRp, gIl]
      · intro M' q1 q2 q3 q4
        refine hk M' q1 ?_ q3 q4
        rw [q2]
        exact congrArg i32 (by simp only [List.length_cons]; omega)
theorem insR_len {b : Nat → B} {g : Nat} : ∀ {ra Z : List Nat}, (insR b g ra Z).length = ra.length + Z.length + 1
  | [], Z => by simp only [insR, List.length_cons, List.length_nil, Nat.zero_add]
  | a :: ra, Z => by
    unfold insR
    split
    · simp only [List.length_append, List.length_reverse, List.length_cons]; omega
    · rw [insR_len]; simp only [List.length_cons]; omega
theorem insR_mem {b : Nat → B} {g x : Nat} : ∀ {ra Z : List Nat}, x ∈ insR b g ra Z ↔ x = g ∨ x ∈ ra ∨ x ∈ Z
  | [], Z => by simp only [insR, List.mem_cons, List.not_mem_nil, false_or]
  | a :: ra, Z => by
    unfold insR
    split
    · simp only [List.mem_append, List.mem_reverse, List.mem_cons]
      constructor
      · rintro ((h | h) | h | h)
        · exact Or.inr (Or.inl (Or.inl h))
        · exact Or.inr (Or.inl (Or.inr h))
        · exact Or.inl h
        · exact Or.inr (Or.inr h)
      · rintro (h | (h | h) | h)
        · exact Or.inr (Or.inl h)
        · exact Or.inl (Or.inl h)
        · exact Or.inl (Or.inr h)
        · exact Or.inr (Or.inr h)
    · rw [insR_mem]
      simp only [List.mem_cons]
      constructor
      · rintro (h | h | h | h)
        · exact Or.inl h
        · exact Or.inr (Or.inl (Or.inr h))
        · exact Or.inr (Or.inl (Or.inl h))
        · exact Or.inr (Or.inr h)
      · rintro (h | (h | h) | h)
        · exact Or.inl h
        · exact Or.inr (Or.inr (Or.inl h))
        · exact Or.inr (Or.inl h)
        · exact Or.inr (Or.inr (Or.inr h))
theorem c_takeOrder_7 {y : Yd} {n yr : Nat} {r : R} {M0 : mM} {P : mM → Prop} (h : CR y n yr r M0) : ∀ (k g f : Nat) (L : List Nat) (M : mM), g + k = n → k < f → L.length ≤ g → (∀ a, a ∈ L → a < g) → FrO M0 M → OL r.1 L M → (∀ M', FrO M0 M' → OL r.1 (ordL r.1 k g L) M' → OK (some M') P) → OK (f_Course_takeOrder_7 f (i32 g) M) P
  | _, _, 0, _, _, _, hf, _, _, _, _, _ => absurd hf (Nat.not_lt_zero _)
  | 0, g, f + 1, L, M, hi, hf, hL, hm, h0, hO, hk => by
    have hn := h.1.2.2.2.1
    have s1 := (CR_FrO h h0).1.2.1
    unfold f_Course_takeOrder_7
    simp (disch := omega) only [i32_lt, i32_le, i32_eq, i32_add, i32_mul, i32_neg, i32_nn, i32_ne1, i32_n1e, n1_lt_i32, i32_le_n1, i32_dec, i32_cl, rd_i32, ix_i32, wr_i32, pI_s, pR_s, pC_s, pZ_0, pZ_1, Option.bind_some, ite_true, ite_false, if_true, if_false, gIL, gRI, nlt_0, l0_lt, nle_0, l0_le, neq_0, nadd_0, nmul_0, nmul'_0, nadd'_0, nsub_0, nlt_1, l1_lt, nle_1, l1_le, neq_1, nadd_1, nmul_1, nmul'_1, nadd'_1, nsub_1, nlt_2, l2_lt, nle_2, l2_le, neq_2, nadd_2, nmul_2, nmul'_2, nadd'_2, nsub_2, nlt_3, l3_lt, nle_3, l3_le, neq_3, nadd_3, nmul_3, nmul'_3, nadd'_3, nsub_3, nlt_4, l4_lt, nle_4, l4_le, neq_4, nadd_4, nmul_4, nmul'_4, nadd'_4, nsub_4, nlt_5, l5_lt, nle_5, l5_le, neq_5, nadd_5, nmul_5, nmul'_5, nadd'_5, nsub_5, nlt_6, l6_lt, nle_6, l6_le, neq_6, nadd_6, nmul_6, nmul'_6, nadd'_6, nsub_6, nlt_7, l7_lt, nle_7, l7_le, neq_7, nadd_7, nmul_7, nmul'_7, nadd'_7, nsub_7, nlt_8, l8_lt, nle_8, l8_le, neq_8, nadd_8, nmul_8, nmul'_8, nadd'_8, nsub_8, nlt_9, l9_lt, nle_9, l9_le, neq_9, nadd_9, nmul_9, nmul'_9, nadd'_9, nsub_9, nlt_10, l10_lt, nle_10, l10_le, neq_10, nadd_10, nmul_10, nmul'_10, nadd'_10, nsub_10, nlt_11, l11_lt, nle_11, l11_le, neq_11, nadd_11, nmul_11, nmul'_11, nadd'_11, nsub_11, nlt_12, l12_lt, nle_12, l12_le, neq_12, nadd_12, nmul_12, nmul'_12, nadd'_12, nsub_12, nlt_13, l13_lt, nle_13, l13_le, neq_13, nadd_13, nmul_13, nmul'_13, nadd'_13, nsub_13, nlt_20, l20_lt, nle_20, l20_le, neq_20, nadd_20, nmul_20, nmul'_20, nadd'_20, nsub_20, nlt_400, l400_lt, nle_400, l400_le, neq_400, nadd_400, nmul_400, nmul'_400, nadd'_400, nsub_400, rd_0, wr_0, rd_1, wr_1, rd_2, wr_2, rd_3, wr_3, rd_4, wr_4, rd_5, wr_5, rd_6, wr_6, rd_7, wr_7, rd_8, wr_8, rd_9, wr_9, rd_10, wr_10, rd_11, wr_11, rd_12, wr_12, s1]
    rw [if_pos (by omega)]
    exact hk M h0 hO
  | k + 1, g, f + 1, L, M, hi, hf, hL, hm, h0, hO, hk => by
    have hn := h.1.2.2.2.1
    have hR := CR_FrO h h0
    have s1 := hR.1.2.1
    have hV := h.2.1
    unfold f_Course_takeOrder_7
    simp (disch := omega) only [i32_lt, i32_le, i32_eq, i32_add, i32_mul, i32_neg, i32_nn, i32_ne1, i32_n1e, n1_lt_i32, i32_le_n1, i32_dec, i32_cl, rd_i32, ix_i32, wr_i32, pI_s, pR_s, pC_s, pZ_0, pZ_1, Option.bind_some, ite_true, ite_false, if_true, if_false, gIL, gRI, nlt_0, l0_lt, nle_0, l0_le, neq_0, nadd_0, nmul_0, nmul'_0, nadd'_0, nsub_0, nlt_1, l1_lt, nle_1, l1_le, neq_1, nadd_1, nmul_1, nmul'_1, nadd'_1, nsub_1, nlt_2, l2_lt, nle_2, l2_le, neq_2, nadd_2, nmul_2, nmul'_2, nadd'_2, nsub_2, nlt_3, l3_lt, nle_3, l3_le, neq_3, nadd_3, nmul_3, nmul'_3, nadd'_3, nsub_3, nlt_4, l4_lt, nle_4, l4_le, neq_4, nadd_4, nmul_4, nmul'_4, nadd'_4, nsub_4, nlt_5, l5_lt, nle_5, l5_le, neq_5, nadd_5, nmul_5, nmul'_5, nadd'_5, nsub_5, nlt_6, l6_lt, nle_6, l6_le, neq_6, nadd_6, nmul_6, nmul'_6, nadd'_6, nsub_6, nlt_7, l7_lt, nle_7, l7_le, neq_7, nadd_7, nmul_7, nmul'_7, nadd'_7, nsub_7, nlt_8, l8_lt, nle_8, l8_le, neq_8, nadd_8, nmul_8, nmul'_8, nadd'_8, nsub_8, nlt_9, l9_lt, nle_9, l9_le, neq_9, nadd_9, nmul_9, nmul'_9, nadd'_9, nsub_9, nlt_10, l10_lt, nle_10, l10_le, neq_10, nadd_10, nmul_10, nmul'_10, nadd'_10, nsub_10, nlt_11, l11_lt, nle_11, l11_le, neq_11, nadd_11, nmul_11, nmul'_11, nadd'_11, nsub_11, nlt_12, l12_lt, nle_12, l12_le, neq_12, nadd_12, nmul_12, nmul'_12, nadd'_12, nsub_12, nlt_13, l13_lt, nle_13, l13_le, neq_13, nadd_13, nmul_13, nmul'_13, nadd'_13, nsub_13, nlt_20, l20_lt, nle_20, l20_le, neq_20, nadd_20, nmul_20, nmul'_20, nadd'_20, nsub_20, nlt_400, l400_lt, nle_400, l400_le, neq_400, nadd_400, nmul_400, nmul'_400, nadd'_400, nsub_400, rd_0, wr_0, rd_1, wr_1, rd_2, wr_2, rd_3, wr_3, rd_4, wr_4, rd_5, wr_5, rd_6, wr_6, rd_7, wr_7, rd_8, wr_8, rd_9, wr_9, rd_10, wr_10, rd_11, wr_11, rd_12, wr_12, s1, hO.1]
    rw [if_neg (by omega), if_neg (by omega)]
    by_cases c : (r.1 g).1 = none
    · rw [c_lies0 hR.1 hV (by omega) (fun z => z.2 c)]
      simp only [Option.bind_some, if_true, f_Course_takeOrder_139, nadd_1]
      refine c_takeOrder_7 h k (g + 1) f L M (by omega) (by omega) (by omega) (fun a ha => by have := hm a ha; omega) h0 hO fun M' q1 q2 => hk M' q1 ?_
      rw [ordL, if_pos c]
      exact q2
    · rw [c_lies1 hR.1 hV (by omega) c]
      have a1 := (hR.1.2.2.2.2 g (by omega)).1
      have a2 := (hR.1.2.2.2.2 g (by omega)).2.1
      simp only [Nat.reduceAdd] at a1 a2
      obtain ⟨p, hp⟩ := Option.ne_none_iff_exists'.mp c
      have hq := eL_lt hV (l := p.1) (c := p.2) (g := g) (by omega) hp
      have ek : key r.1 g = p.2 * 4 + p.1 := by unfold key; rw [hp]
      rw [hp] at a1 a2
      simp only [eL, eC] at a1 a2
      simp (disch := omega) only [i32_lt, i32_le, i32_eq, i32_add, i32_mul, i32_neg, i32_nn, i32_ne1, i32_n1e, n1_lt_i32, i32_le_n1, i32_dec, i32_cl, rd_i32, ix_i32, wr_i32, pI_s, pR_s, pC_s, pZ_0, pZ_1, Option.bind_some, ite_true, ite_false, if_true, if_false, gIL, gRI, nlt_0, l0_lt, nle_0, l0_le, neq_0, nadd_0, nmul_0, nmul'_0, nadd'_0, nsub_0, nlt_1, l1_lt, nle_1, l1_le, neq_1, nadd_1, nmul_1, nmul'_1, nadd'_1, nsub_1, nlt_2, l2_lt, nle_2, l2_le, neq_2, nadd_2, nmul_2, nmul'_2, nadd'_2, nsub_2, nlt_3, l3_lt, nle_3, l3_le, neq_3, nadd_3, nmul_3, nmul'_3, nadd'_3, nsub_3, nlt_4, l4_lt, nle_4, l4_le, neq_4, nadd_4, nmul_4, nmul'_4, nadd'_4, nsub_4, nlt_5, l5_lt, nle_5, l5_le, neq_5, nadd_5, nmul_5, nmul'_5, nadd'_5, nsub_5, nlt_6, l6_lt, nle_6, l6_le, neq_6, nadd_6, nmul_6, nmul'_6, nadd'_6, nsub_6, nlt_7, l7_lt, nle_7, l7_le, neq_7, nadd_7, nmul_7, nmul'_7, nadd'_7, nsub_7, nlt_8, l8_lt, nle_8, l8_le, neq_8, nadd_8, nmul_8, nmul'_8, nadd'_8, nsub_8, nlt_9, l9_lt, nle_9, l9_le, neq_9, nadd_9, nmul_9, nmul'_9, nadd'_9, nsub_9, nlt_10, l10_lt, nle_10, l10_le, neq_10, nadd_10, nmul_10, nmul'_10, nadd'_10, nsub_10, nlt_11, l11_lt, nle_11, l11_le, neq_11, nadd_11, nmul_11, nmul'_11, nadd'_11, nsub_11, nlt_12, l12_lt, nle_12, l12_le, neq_12, nadd_12, nmul_12, nmul'_12, nadd'_12, nsub_12, nlt_13, l13_lt, nle_13, l13_le, neq_13, nadd_13, nmul_13, nmul'_13, nadd'_13, nsub_13, nlt_20, l20_lt, nle_20, l20_le, neq_20, nadd_20, nmul_20, nmul'_20, nadd'_20, nsub_20, nlt_400, l400_lt, nle_400, l400_le, neq_400, nadd_400, nmul_400, nmul'_400, nadd'_400, nsub_400, rd_0, wr_0, rd_1, wr_1, rd_2, wr_2, rd_3, wr_3, rd_4, wr_4, rd_5, wr_5, rd_6, wr_6, rd_7, wr_7, rd_8, wr_8, rd_9, wr_9, rd_10, wr_10, rd_11, wr_11, rd_12, wr_12, a1, a2, show ((1 : Int32) = 0) = False from by decide, hO.1]
      rw [← ek, show L.length = L.reverse.length from List.length_reverse.symm]
      have hl2 : L.reverse.length ≤ g := by rw [List.length_reverse]; exact hL
      refine c_ins hV (by omega) L.reverse [] FUEL M (by rw [FUEL_eq]; omega) (by simp only [List.length_nil]; omega) (fun a ha => by have := hm a (List.mem_reverse.mp ha); omega) h0 (by rw [List.length_reverse]; exact hO.1) (by rw [List.reverse_reverse]; exact hO.2.1) trivial (by rw [List.reverse_reverse]; exact hO.2.2) trivial fun M' q1 q2 q3 q4 => ?_
      refine c_takeOrder_7 h k (g + 1) f (insR r.1 g L.reverse []) M' (by omega) (by omega) (by rw [insR_len]; simp only [List.length_nil]; omega) (fun a ha => ?_) q1 ⟨by rw [insR_len]; exact q2, q3, q4⟩ fun M'' t1 t2 => hk M'' t1 ?_
      · rcases insR_mem.mp ha with z | z | z
        · omega
        · have := hm a (List.mem_reverse.mp z); omega
        · cases z
      · rw [ordL, if_neg c]
        exact t2
theorem c_takeOrder {y : Yd} {n yr : Nat} {r : R} {M : mM} (h : CR y n yr r M) : OK (f_Course_takeOrder M) fun M' => FrO M M' ∧ OL r.1 (ordL r.1 n 0 []) M' := by
  have hn := h.1.2.2.2.1
  unfold f_Course_takeOrder
  simp only [pI_s, Option.bind_some]
  refine c_takeOrder_7 h n 0 FUEL [] _ (by omega) (by rw [FUEL_eq]; omega) (Nat.le_refl _) (fun a ha => by cases ha) ⟨rfl, fun p a1 a2 a3 => ?_, fun i hi => ?_⟩ ⟨?_, trivial, trivial⟩ fun M' q1 q2 => OK_some ⟨q1, q2⟩
  · simp (disch := omega) only [gIe, gIp, gIo, gCe, gCn, gRI, gLI, gIR, gCR, gLR, gRe, gRo, gRp, gIl]
  · simp (disch := omega) only [gIe, gIp, gIo, gCe, gCn, gRI, gLI, gIR, gCR, gLR, gRe, gRo, gRp, gIl]
  · simp (disch := omega) only [gIe, gIp, gIo, gCe, gCn, gRI, gLI, gIR, gCR, gLR, gRe, gRo, gRp, gIl]
    rfl
