/-! ===== a year: the class ===== -/
def stp (y : Yd) (φ : Option (List Int64 → Nat)) (n yr : Nat) (fl : Bool) (b : Nat → B) (g l c : Nat) : Nat := match φ with
  | none => if (b g).2.1 = 0 then 1 else 2
  | some f => f (wds y n yr fl b g l c)
def hldB (b : B) : B := (b.1, b.2.1, b.2.2.1 - 1, b.2.2.2.1, b.2.2.2.2.1, b.2.2.2.2.2)
def trn (y : Yd) (φ : Option (List Int64 → Nat)) (n yr : Nat) (fl : Bool) (r : R) (g : Nat) : R := match (r.1 g).1 with
  | none => r
  | some (l, c) => if 0 < (r.1 g).2.2.1 then (bup r.1 g (hldB (r.1 g)), r.2) else if (r.1 g).2.1 = 3 then r else if nea y n r.1 g = true then r else runs y n yr g (stp y φ n yr fl r.1 g l c) r
/-- what a rule's object does -/
def RL (ru : Option Nat) (φ : Option (List Int64 → Nat)) (M : mM) : Prop := match ru, φ with
  | none, none => True
  | some q, some f => q ∈ ruL ∧ (∀ ws, f ws ≤ 9) ∧ ∀ M1 : mM, (∀ p, 308 ≤ p → p < 344 → M1.2.1 p = M.2.1 p) → ∀ ws : List Int64, (∀ k, k < 12 → M1.2.2.1 268 k = ws.getD k 0) → OK (f_Rule_stepsBy q M1) fun z => z.1 = i32 (f ws) ∧ Eqv M1 z.2
  | _, _ => False
theorem RL_of {ru : Option Nat} {φ : Option (List Int64 → Nat)} {M M' : mM} (h : RL ru φ M) (e : ∀ p, 308 ≤ p → p < 344 → M'.2.1 p = M.2.1 p) : RL ru φ M' := by
  unfold RL at h ⊢
  cases ru with
  | none => cases φ with
    | none => trivial
    | some f => exact h
  | some q => cases φ with
    | none => exact h
    | some f =>
      refine ⟨h.1, h.2.1, fun M1 h1 ws hw => h.2.2 M1 (fun p a b => ?_) ws hw⟩
      rw [h1 p a b, e p a b]
theorem CS_held {n yr : Nat} {b : Nat → B} {M : mM} (h : CS 247 yr n b M) {g : Nat} (hg : g < n) : CS 247 yr n (bup b g (hldB (b g))) (msI M 251 g (i32 ((b g).2.2.1 - 1))) := by
  obtain ⟨a1, a2, a3, a4, a5, a6, a7⟩ := h.2.2.2.2 g hg
  simp only [Nat.reduceAdd] at a1 a2 a3 a4 a5 a6 a7
  refine CS_put h ?_ ?_ ?_ ?_ ?_
  · simp (disch := omega) only [gIe, gIp, gIo, gCe, gCn, gRI, gLI, gIR, gCR, gLR, gRe, gRo, gRp, gIl]
  · simp (disch := omega) only [gIe, gIp, gIo, gCe, gCn, gRI, gLI, gIR, gCR, gLR, gRe, gRo, gRp, gIl]
  · simp (disch := omega) only [gIe, gIp, gIo, gCe, gCn, gRI, gLI, gIR, gCR, gLR, gRe, gRo, gRp, gIl]
    rw [h.2.2.1, fMany_same (show ((hldB (b g)).1 = none) = ((b g).1 = none) from rfl)]
  · intro j hj
    simp (disch := omega) only [gIe, gIp, gIo, gCe, gCn, gRI, gLI, gIR, gCR, gLR, gRe, gRo, gRp, gIl, and_self]
  · refine ⟨?_, ?_, ?_, ?_, ?_, ?_, ?_⟩ <;> simp (disch := omega) only [gIe, gIp, gIo, gCe, gCn, gRI, gLI, gIR, gCR, gLR, gRe, gRo, gRp, gIl] <;> first | rfl | assumption
theorem c_takeTurn {y : Yd} {Yp : Nat} {ru : Option Nat} {φ : Option (List Int64 → Nat)} {fl : Bool} {n yr : Nat} {r : R} {M : mM} (h : CR y n yr r M) (hx : CX y Yp ru fl M) (hr : RL ru φ M) (hv : VY y) {g : Nat} (hg : g < n) : OK (f_Course_takeTurn (i32 g) M) fun M' => CR y n yr (trn y φ n yr fl r g) M' ∧ Fr M M' ∧ M'.2.1 246 3 = M.2.1 246 3 := by
  have hn := h.1.2.2.2.1
  have hV := h.2.1
  have hL := hV.1
  have hC := hV.2.1
  have hvg := hV.2.2.2.1 g hg
  have hk3 := hvg.2.1
  have hh9 := hvg.2.2.1
  obtain ⟨a1, a2, a3, a4, a5, a6, a7⟩ := h.1.2.2.2.2 g hg
  simp only [Nat.reduceAdd] at a1 a2 a3 a4 a5 a6 a7
  unfold f_Course_takeTurn trn
  cases hp : (r.1 g).1 with
  | none =>
    rw [c_lies0 h.1 hV (by omega) (fun z => z.2 hp)]
    exact OK_some ⟨h, Fr_refl M, rfl⟩
  | some q =>
    obtain ⟨l, c⟩ := q
    have hl : (r.1 g).1 ≠ none := by rw [hp]; exact Option.some_ne_none _
    have hq := hvg.1 l c hp
    rw [c_lies1 h.1 hV hg hl]
    simp (disch := omega) only [i32_lt, i32_le, i32_eq, i32_add, i32_mul, i32_neg, i32_nn, i32_ne1, i32_n1e, n1_lt_i32, i32_le_n1, i32_dec, i32_cl, rd_i32, ix_i32, wr_i32, pI_s, pR_s, pC_s, pZ_0, pZ_1, Option.bind_some, ite_true, ite_false, if_true, if_false, gIL, gRI, nlt_0, l0_lt, nle_0, l0_le, neq_0, nadd_0, nmul_0, nmul'_0, nadd'_0, nsub_0, nlt_1, l1_lt, nle_1, l1_le, neq_1, nadd_1, nmul_1, nmul'_1, nadd'_1, nsub_1, nlt_2, l2_lt, nle_2, l2_le, neq_2, nadd_2, nmul_2, nmul'_2, nadd'_2, nsub_2, nlt_3, l3_lt, nle_3, l3_le, neq_3, nadd_3, nmul_3, nmul'_3, nadd'_3, nsub_3, nlt_4, l4_lt, nle_4, l4_le, neq_4, nadd_4, nmul_4, nmul'_4, nadd'_4, nsub_4, nlt_5, l5_lt, nle_5, l5_le, neq_5, nadd_5, nmul_5, nmul'_5, nadd'_5, nsub_5, nlt_6, l6_lt, nle_6, l6_le, neq_6, nadd_6, nmul_6, nmul'_6, nadd'_6, nsub_6, nlt_7, l7_lt, nle_7, l7_le, neq_7, nadd_7, nmul_7, nmul'_7, nadd'_7, nsub_7, nlt_8, l8_lt, nle_8, l8_le, neq_8, nadd_8, nmul_8, nmul'_8, nadd'_8, nsub_8, nlt_9, l9_lt, nle_9, l9_le, neq_9, nadd_9, nmul_9, nmul'_9, nadd'_9, nsub_9, nlt_10, l10_lt, nle_10, l10_le, neq_10, nadd_10, nmul_10, nmul'_10, nadd'_10, nsub_10, nlt_11, l11_lt, nle_11, l11_le, neq_11, nadd_11, nmul_11, nmul'_11, nadd'_11, nsub_11, nlt_12, l12_lt, nle_12, l12_le, neq_12, nadd_12, nmul_12, nmul'_12, nadd'_12, nsub_12, nlt_13, l13_lt, nle_13, l13_le, neq_13, nadd_13, nmul_13, nmul'_13, nadd'_13, nsub_13, nlt_20, l20_lt, nle_20, l20_le, neq_20, nadd_20, nmul_20, nmul'_20, nadd'_20, nsub_20, nlt_400, l400_lt, nle_400, l400_le, neq_400, nadd_400, nmul_400, nmul'_400, nadd'_400, nsub_400, rd_0, wr_0, rd_1, wr_1, rd_2, wr_2, rd_3, wr_3, rd_4, wr_4, rd_5, wr_5, rd_6, wr_6, rd_7, wr_7, rd_8, wr_8, rd_9, wr_9, rd_10, wr_10, rd_11, wr_11, rd_12, wr_12, a3, a4, show ((1 : Int32) = 0) = False from by decide]
    by_cases c1 : 0 < (r.1 g).2.2.1
    · rw [if_neg (by omega), if_pos c1]
      refine OK_some ⟨⟨CS_held h.1 hg, V_come hV hp hq.1 hq.2 hk3 (by show (r.1 g).2.2.1 - 1 ≤ 9; omega) (fun z => by have := hvg.2.2.2 z; show (r.1 g).2.2.1 - 1 = 0; omega) (fun i hi hig z => hig (hV.2.2.2.2 i g _ hi hg z hp)), ?_, ?_, ?_⟩, Fr_I (by omega), ?_⟩
      · rw [gIp (by omega)]; exact h.2.2.1
      · have : fMany (bup r.1 g (hldB (r.1 g))) n = fMany r.1 n := fMany_same (g := g) (x := hldB (r.1 g)) (show ((hldB (r.1 g)).1 = none) = ((r.1 g).1 = none) from rfl)
        show r.2.length ≤ fMany (bup r.1 g (hldB (r.1 g))) n
        rw [this]; exact h.2.2.2.1
      · intro k hk
        rw [gIp (by omega)]; exact h.2.2.2.2 k hk
      · rw [gIp (by omega)]
    · rw [if_pos (by omega), if_neg c1]
      by_cases c2 : (r.1 g).2.1 = 3
      · rw [if_pos c2, if_pos c2]
        exact OK_some ⟨h, Fr_refl M, rfl⟩
      · rw [if_neg c2, if_neg c2, c_farther h hx hv hg hl]
        simp only [Option.bind_some, far_le hV hg]
        cases c3 : nea y n r.1 g with
        | true =>
          rw [if_neg (by decide), if_pos rfl]
          exact OK_some ⟨h, Fr_refl M, rfl⟩
        | false =>
          rw [if_pos rfl, if_neg (show ¬ (false = true) by decide)]
          simp (disch := omega) only [rd_i32, Option.bind_some, a3, neq_0]
          have key77 : ∀ s : Nat, s = (if (r.1 g).2.1 = 0 then 1 else 2) → OK (f_Course_takeTurn_77 (i32 g) (i32 s) M) fun M' => CR y n yr (runs y n yr g (stp y φ n yr fl r.1 g l c) r) M' ∧ Fr M M' ∧ M'.2.1 246 3 = M.2.1 246 3 := by
            intro s hs
            unfold f_Course_takeTurn_77 f_Course_takeTurn_102
            rw [hx.2.2.2.2.1]
            unfold RL at hr
            cases ru with
            | none => cases φ with
              | some f => exact absurd hr (fun z => z)
              | none =>
                rw [if_pos rfl]
                have hs2 : s ≤ 9 := by rw [hs]; split <;> omega
                refine OK_imp (c_runs (fl := fl) (Yp := Yp) (ru := none) hv hg hs2 s 0 FUEL r M (by omega) (by rw [FUEL_eq]; omega) h hx c2) fun M' hM' => ?_
                rw [show stp y none n yr fl r.1 g l c = s from hs.symm]
                exact hM'
            | some q => cases φ with
              | none => exact absurd hr (fun z => z)
              | some f =>
                rw [if_neg (Option.some_ne_none _)]
                refine OK_bind (c_fillWords h hx hv hg hp) fun M1 h1 => ?_
                rw [show M1.2.2.2 = M.2.2.2 from congrArg Prod.fst h1.1.2, hx.2.2.2.2.1, nnl_s hr.1]
                simp only [Option.bind_some]
                refine OK_bind (hr.2.2 M1 (fun p _ _ => by rw [h1.1.1]) _ h1.2) fun z hz => ?_
                have e2 : Eqv M z.2 := ⟨hz.2.1.trans h1.1.1, hz.2.2.trans h1.1.2⟩
                rw [hz.1]
                refine OK_imp (c_runs (fl := fl) (Yp := Yp) (ru := some q) hv hg (hr.2.1 _) _ 0 FUEL r z.2 (Nat.zero_add _) (by have := hr.2.1 (wds y n yr fl r.1 g l c); rw [FUEL_eq]; omega) (CR_Eqv h e2) (CX_Eqv hx e2) c2) fun M' hM' => ⟨hM'.1, Fr_trans (Fr_Eqv e2) hM'.2.1, hM'.2.2.trans (by rw [e2.1])⟩
          by_cases c4 : (r.1 g).2.1 = 0
          · rw [if_pos c4]; exact key77 1 (if_pos c4).symm
          · rw [if_neg c4]; exact key77 2 (if_neg c4).symm
theorem c_turns {y : Yd} {Yp : Nat} {ru : Option Nat} {φ : Option (List Int64 → Nat)} {fl : Bool} {n yr t : Nat} {P : mM → Prop} (hv : VY y) (ht : t ≤ 11) : ∀ (Q : List Nat) (i f : Nat) (r : R) (M : mM), i + Q.length = t → Q.length < f → M.2.1 246 10 = i32 t → lst (M.2.1 266) id i Q → (∀ a, a ∈ Q → a < n) → CR y n yr r M → CX y Yp ru fl M → RL ru φ M → (∀ M', CR y n yr (Q.foldl (trn y φ n yr fl) r) M' → Fr M M' → M'.2.1 246 3 = M.2.1 246 3 → OK (f_Course_goYear_80 M') P) → OK (f_Course_goYear_50 f (i32 i) M) P
  | _, _, 0, _, _, _, hf, _, _, _, _, _, _, _ => absurd hf (Nat.not_lt_zero _)
  | [], i, f + 1, r, M, hi, hf, hc, hl, hn, h, hx, hr, hk => by
    simp only [List.length_nil, Nat.add_zero] at hi
    unfold f_Course_goYear_50
    simp (disch := omega) only [i32_lt, i32_le, i32_eq, i32_add, i32_mul, i32_neg, i32_nn, i32_ne1, i32_n1e, n1_lt_i32, i32_le_n1, i32_dec, i32_cl, rd_i32, ix_i32, wr_i32, pI_s, pR_s, pC_s, pZ_0, pZ_1, Option.bind_some, ite_true, ite_false, if_true, if_false, gIL, gRI, nlt_0, l0_lt, nle_0, l0_le, neq_0, nadd_0, nmul_0, nmul'_0, nadd'_0, nsub_0, nlt_1, l1_lt, nle_1, l1_le, neq_1, nadd_1, nmul_1, nmul'_1, nadd'_1, nsub_1, nlt_2, l2_lt, nle_2, l2_le, neq_2, nadd_2, nmul_2, nmul'_2, nadd'_2, nsub_2, nlt_3, l3_lt, nle_3, l3_le, neq_3, nadd_3, nmul_3, nmul'_3, nadd'_3, nsub_3, nlt_4, l4_lt, nle_4, l4_le, neq_4, nadd_4, nmul_4, nmul'_4, nadd'_4, nsub_4, nlt_5, l5_lt, nle_5, l5_le, neq_5, nadd_5, nmul_5, nmul'_5, nadd'_5, nsub_5, nlt_6, l6_lt, nle_6, l6_le, neq_6, nadd_6, nmul_6, nmul'_6, nadd'_6, nsub_6, nlt_7, l7_lt, nle_7, l7_le, neq_7, nadd_7, nmul_7, nmul'_7, nadd'_7, nsub_7, nlt_8, l8_lt, nle_8, l8_le, neq_8, nadd_8, nmul_8, nmul'_8, nadd'_8, nsub_8, nlt_9, l9_lt, nle_9, l9_le, neq_9, nadd_9, nmul_9, nmul'_9, nadd'_9, nsub_9, nlt_10, l10_lt, nle_10, l10_le, neq_10, nadd_10, nmul_10, nmul'_10, nadd'_10, nsub_10, nlt_11, l11_lt, nle_11, l11_le, neq_11, nadd_11, nmul_11, nmul'_11, nadd'_11, nsub_11, nlt_12, l12_lt, nle_12, l12_le, neq_12, nadd_12, nmul_12, nmul'_12, nadd'_12, nsub_12, nlt_13, l13_lt, nle_13, l13_le, neq_13, nadd_13, nmul_13, nmul'_13, nadd'_13, nsub_13, nlt_20, l20_lt, nle_20, l20_le, neq_20, nadd_20, nmul_20, nmul'_20, nadd'_20, nsub_20, nlt_400, l400_lt, nle_400, l400_le, neq_400, nadd_400, nmul_400, nmul'_400, nadd'_400, nsub_400, rd_0, wr_0, rd_1, wr_1, rd_2, wr_2, rd_3, wr_3, rd_4, wr_4, rd_5, wr_5, rd_6, wr_6, rd_7, wr_7, rd_8, wr_8, rd_9, wr_9, rd_10, wr_10, rd_11, wr_11, rd_12, wr_12, hc]
    rw [if_pos (by omega)]
    exact hk M h (Fr_refl M) rfl
  | a :: Q, i, f + 1, r, M, hi, hf, hc, hl, hn, h, hx, hr, hk => by
    simp only [List.length_cons] at hi hf
    unfold f_Course_goYear_50
    simp (disch := omega) only [i32_lt, i32_le, i32_eq, i32_add, i32_mul, i32_neg, i32_nn, i32_ne1, i32_n1e, n1_lt_i32, i32_le_n1, i32_dec, i32_cl, rd_i32, ix_i32, wr_i32, pI_s, pR_s, pC_s, pZ_0, pZ_1, Option.bind_some, ite_true, ite_false, if_true, if_false, gIL, gRI, nlt_0, l0_lt, nle_0, l0_le, neq_0, nadd_0, nmul_0, nmul'_0, nadd'_0, nsub_0, nlt_1, l1_lt, nle_1, l1_le, neq_1, nadd_1, nmul_1, nmul'_1, nadd'_1, nsub_1, nlt_2, l2_lt, nle_2, l2_le, neq_2, nadd_2, nmul_2, nmul'_2, nadd'_2, nsub_2, nlt_3, l3_lt, nle_3, l3_le, neq_3, nadd_3, nmul_3, nmul'_3, nadd'_3, nsub_3, nlt_4, l4_lt, nle_4, l4_le, neq_4, nadd_4, nmul_4, nmul'_4, nadd'_4, nsub_4, nlt_5, l5_lt, nle_5, l5_le, neq_5, nadd_5, nmul_5, nmul'_5, nadd'_5, nsub_5, nlt_6, l6_lt, nle_6, l6_le, neq_6, nadd_6, nmul_6, nmul'_6, nadd'_6, nsub_6, nlt_7, l7_lt, nle_7, l7_le, neq_7, nadd_7, nmul_7, nmul'_7, nadd'_7, nsub_7, nlt_8, l8_lt, nle_8, l8_le, neq_8, nadd_8, nmul_8, nmul'_8, nadd'_8, nsub_8, nlt_9, l9_lt, nle_9, l9_le, neq_9, nadd_9, nmul_9, nmul'_9, nadd'_9, nsub_9, nlt_10, l10_lt, nle_10, l10_le, neq_10, nadd_10, nmul_10, nmul'_10, nadd'_10, nsub_10, nlt_11, l11_lt, nle_11, l11_le, neq_11, nadd_11, nmul_11, nmul'_11, nadd'_11, nsub_11, nlt_12, l12_lt, nle_12, l12_le, neq_12, nadd_12, nmul_12, nmul'_12, nadd'_12, nsub_12, nlt_13, l13_lt, nle_13, l13_le, neq_13, nadd_13, nmul_13, nmul'_13, nadd'_13, nsub_13, nlt_20, l20_lt, nle_20, l20_le, neq_20, nadd_20, nmul_20, nmul'_20, nadd'_20, nsub_20, nlt_400, l400_lt, nle_400, l400_le, neq_400, nadd_400, nmul_400, nmul'_400, nadd'_400, nsub_400, rd_0, wr_0, rd_1, wr_1, rd_2, wr_2, rd_3, wr_3, rd_4, wr_4, rd_5, wr_5, rd_6, wr_6, rd_7, wr_7, rd_8, wr_8, rd_9, wr_9, rd_10, wr_10, rd_11, wr_11, rd_12, wr_12, hc, hl.1, id]
    rw [if_neg (by omega), if_neg (by omega)]
    refine OK_bind (c_takeTurn h hx hr hv (hn a List.mem_cons_self)) fun M1 h1 => ?_
    have e266 : M1.2.1 266 = M.2.1 266 := h1.2.1.2.1 266 (by omega)
    refine c_turns hv ht Q (i + 1) f (trn y φ n yr fl r a) M1 (by omega) (by omega) ((h1.2.1.2.2 10 (by omega) (by omega)).trans hc) (by rw [e266]; exact hl.2) (fun x hx' => hn x (List.mem_cons_of_mem _ hx')) h1.1 (CX_Fr hx h1.2.1) (RL_of hr fun p p1 p2 => h1.2.1.2.1 p (by omega)) fun M' q1 q2 q3 => hk M' q1 (Fr_trans h1.2.1 q2) (q3.trans h1.2.2)
/-! floods -/
def fld (yr : Nat) : List Nat → R → Nat → R × Nat
  | [], r, k => (r, k)
  | g :: L, r, k => match (r.1 g).1 with
    | none => fld yr L r k
    | some p => if p.2 ≤ 1 then fld yr L (drp yr r g) (k + 1) else fld yr L r k
theorem c_floods {y : Yd} {Yp : Nat} {ru : Option Nat} {fl : Bool} {n yr t : Nat} {P : mM → Prop} (ht : t ≤ 11) : ∀ (Q : List Nat) (i f k : Nat) (r : R) (M : mM), i + Q.length = t → Q.length < f → M.2.1 246 10 = i32 t → lst (M.2.1 266) id i Q → (∀ a, a ∈ Q → a < n) → CR y n yr r M → M.2.1 246 3 = i32 k → (∀ M', CR y n yr (fld yr Q r k).1 M' → Fr M M' → M'.2.1 246 3 = i32 (fld yr Q r k).2 → P M') → OK (f_Course_floodRows_6 f (i32 i) M) P
  | _, _, 0, _, _, _, _, hf, _, _, _, _, _, _ => absurd hf (Nat.not_lt_zero _)
  | [], i, f + 1, k, r, M, hi, hf, hc, hl, hn, h, hx, hk => by
    simp only [List.length_nil, Nat.add_zero] at hi
    unfold f_Course_floodRows_6
    simp (disch := omega) only [i32_lt, i32_le, i32_eq, i32_add, i32_mul, i32_neg, i32_nn, i32_ne1, i32_n1e, n1_lt_i32, i32_le_n1, i32_dec, i32_cl, rd_i32, ix_i32, wr_i32, pI_s, pR_s, pC_s, pZ_0, pZ_1, Option.bind_some, ite_true, ite_false, if_true, if_false, gIL, gRI, nlt_0, l0_lt, nle_0, l0_le, neq_0, nadd_0, nmul_0, nmul'_0, nadd'_0, nsub_0, nlt_1, l1_lt, nle_1, l1_le, neq_1, nadd_1, nmul_1, nmul'_1, nadd'_1, nsub_1, nlt_2, l2_lt, nle_2, l2_le, neq_2, nadd_2, nmul_2, nmul'_2, nadd'_2, nsub_2, nlt_3, l3_lt, nle_3, l3_le, neq_3, nadd_3, nmul_3, nmul'_3, nadd'_3, nsub_3, nlt_4, l4_lt, nle_4, l4_le, neq_4, nadd_4, nmul_4, nmul'_4, nadd'_4, nsub_4, nlt_5, l5_lt, nle_5, l5_le, neq_5, nadd_5, nmul_5, nmul'_5, nadd'_5, nsub_5, nlt_6, l6_lt, nle_6, l6_le, neq_6, nadd_6, nmul_6, nmul'_6, nadd'_6, nsub_6, nlt_7, l7_lt, nle_7, l7_le, neq_7, nadd_7, nmul_7, nmul'_7, nadd'_7, nsub_7, nlt_8, l8_lt, nle_8, l8_le, neq_8, nadd_8, nmul_8, nmul'_8, nadd'_8, nsub_8, nlt_9, l9_lt, nle_9, l9_le, neq_9, nadd_9, nmul_9, nmul'_9, nadd'_9, nsub_9, nlt_10, l10_lt, nle_10, l10_le, neq_10, nadd_10, nmul_10, nmul'_10, nadd'_10, nsub_10, nlt_11, l11_lt, nle_11, l11_le, neq_11, nadd_11, nmul_11, nmul'_11, nadd'_11, nsub_11, nlt_12, l12_lt, nle_12, l12_le, neq_12, nadd_12, nmul_12, nmul'_12, nadd'_12, nsub_12, nlt_13, l13_lt, nle_13, l13_le, neq_13, nadd_13, nmul_13, nmul'_13, nadd'_13, nsub_13, nlt_20, l20_lt, nle_20, l20_le, neq_20, nadd_20, nmul_20, nmul'_20, nadd'_20, nsub_20, nlt_400, l400_lt, nle_400, l400_le, neq_400, nadd_400, nmul_400, nmul'_400, nadd'_400, nsub_400, rd_0, wr_0, rd_1, wr_1, rd_2, wr_2, rd_3, wr_3, rd_4, wr_4, rd_5, wr_5, rd_6, wr_6, rd_7, wr_7, rd_8, wr_8, rd_9, wr_9, rd_10, wr_10, rd_11, wr_11, rd_12, wr_12, hc]
    rw [if_pos (by omega)]
    exact OK_some (hk M h (Fr_refl M) hx)
  | a :: Q, i, f + 1, k, r, M, hi, hf, hc, hl, hn, h, hx, hk => by
    simp only [List.length_cons] at hi hf
    have ha := hn a List.mem_cons_self
    have hV := h.2.1
    have hn11 := hV.2.2.1
    unfold f_Course_floodRows_6
    simp (disch := omega) only [i32_lt, i32_le, i32_eq, i32_add, i32_mul, i32_neg, i32_nn, i32_ne1, i32_n1e, n1_lt_i32, i32_le_n1, i32_dec, i32_cl, rd_i32, ix_i32, wr_i32, pI_s, pR_s, pC_s, pZ_0, pZ_1, Option.bind_some, ite_true, ite_false, if_true, if_false, gIL, gRI, nlt_0, l0_lt, nle_0, l0_le, neq_0, nadd_0, nmul_0, nmul'_0, nadd'_0, nsub_0, nlt_1, l1_lt, nle_1, l1_le, neq_1, nadd_1, nmul_1, nmul'_1, nadd'_1, nsub_1, nlt_2, l2_lt, nle_2, l2_le, neq_2, nadd_2, nmul_2, nmul'_2, nadd'_2, nsub_2, nlt_3, l3_lt, nle_3, l3_le, neq_3, nadd_3, nmul_3, nmul'_3, nadd'_3, nsub_3, nlt_4, l4_lt, nle_4, l4_le, neq_4, nadd_4, nmul_4, nmul'_4, nadd'_4, nsub_4, nlt_5, l5_lt, nle_5, l5_le, neq_5, nadd_5, nmul_5, nmul'_5, nadd'_5, nsub_5, nlt_6, l6_lt, nle_6, l6_le, neq_6, nadd_6, nmul_6, nmul'_6, nadd'_6, nsub_6, nlt_7, l7_lt, nle_7, l7_le, neq_7, nadd_7, nmul_7, nmul'_7, nadd'_7, nsub_7, nlt_8, l8_lt, nle_8, l8_le, neq_8, nadd_8, nmul_8, nmul'_8, nadd'_8, nsub_8, nlt_9, l9_lt, nle_9, l9_le, neq_9, nadd_9, nmul_9, nmul'_9, nadd'_9, nsub_9, nlt_10, l10_lt, nle_10, l10_le, neq_10, nadd_10, nmul_10, nmul'_10, nadd'_10, nsub_10, nlt_11, l11_lt, nle_11, l11_le, neq_11, nadd_11, nmul_11, nmul'_11, nadd'_11, nsub_11, nlt_12, l12_lt, nle_12, l12_le, neq_12, nadd_12, nmul_12, nmul'_12, nadd'_12, nsub_12, nlt_13, l13_lt, nle_13, l13_le, neq_13, nadd_13, nmul_13, nmul'_13, nadd'_13, nsub_13, nlt_20, l20_lt, nle_20, l20_le, neq_20, nadd_20, nmul_20, nmul'_20, nadd'_20, nsub_20, nlt_400, l400_lt, nle_400, l400_le, neq_400, nadd_400, nmul_400, nmul'_400, nadd'_400, nsub_400, rd_0, wr_0, rd_1, wr_1, rd_2, wr_2, rd_3, wr_3, rd_4, wr_4, rd_5, wr_5, rd_6, wr_6, rd_7, wr_7, rd_8, wr_8, rd_9, wr_9, rd_10, wr_10, rd_11, wr_11, rd_12, wr_12, hc, hl.1, id]
    rw [if_neg (by omega), if_neg (by omega)]
    cases hp : (r.1 a).1 with
    | none =>
      rw [c_lies0 h.1 hV (by omega) (fun z => z.2 hp)]
      simp only [Option.bind_some, if_true, f_Course_floodRows_66, nadd_1]
      refine c_floods (Yp := Yp) (ru := ru) (fl := fl) ht Q (i + 1) f k r M (by omega) (by omega) hc hl.2 (fun x hx' => hn x (List.mem_cons_of_mem _ hx')) h hx fun M' q1 q2 q3 => ?_
      rw [show fld yr (a :: Q) r k = fld yr Q r k by rw [fld, hp]] at hk
      exact hk M' q1 q2 q3
    | some p =>
      have hl0 : (r.1 a).1 ≠ none := by rw [hp]; exact Option.some_ne_none _
      have hq := eL_lt hV (l := p.1) (c := p.2) ha hp
      have a2 := (h.1.2.2.2.2 a ha).2.1
      simp only [Nat.reduceAdd] at a2
      rw [hp] at a2
      simp only [eC] at a2
      rw [c_lies1 h.1 hV ha hl0]
      simp (disch := omega) only [Option.bind_some, show ((1 : Int32) = 0) = False from by decide, if_false, rd_i32, a2, l1_lt]
      by_cases c : p.2 ≤ 1
      · rw [if_neg (by omega)]
        refine OK_bind (c_drop h ha hl0) fun M1 h1 => ?_
        simp only [pI_s, Option.bind_some, f_Course_floodRows_66, nadd_1]
        have hF : Fr M1 (msI M1 246 3 (M1.2.1 246 3 + 1)) := ⟨rfl, fun q hq => gIp (by omega), fun j _ j3 => gIo j3⟩
        have hR : CR y n yr (drp yr r a) (msI M1 246 3 (M1.2.1 246 3 + 1)) := by
          refine ⟨CS_Sm (lo := 246) (hi := 247) h1.1.1 (Sm_I (by omega)) (by omega), h1.1.2.1, (gIo (by omega)).trans h1.1.2.2.1, h1.1.2.2.2.1, ?_⟩
          rw [gIp (by omega)]; exact h1.1.2.2.2.2
        have e266 : (msI M1 246 3 (M1.2.1 246 3 + 1)).2.1 266 = M.2.1 266 := (gIp (by omega)).trans (h1.2.1.2.1 266 (by omega))
        refine c_floods (Yp := Yp) (ru := ru) (fl := fl) ht Q (i + 1) f (k + 1) (drp yr r a) _ (by omega) (by omega) ((gIo (by omega)).trans ((h1.2.1.2.2 10 (by omega) (by omega)).trans hc)) (by rw [e266]; exact hl.2) (fun x hx' => hn x (List.mem_cons_of_mem _ hx')) hR (by rw [gIe, h1.2.2, hx, nadd_1]) fun M' q1 q2 q3 => ?_
        rw [show fld yr (a :: Q) r k = fld yr Q (drp yr r a) (k + 1) by rw [fld, hp]; exact if_pos c] at hk
        exact hk M' q1 (Fr_trans h1.2.1 (Fr_trans hF q2)) q3
      · rw [if_pos (by omega)]
        simp only [f_Course_floodRows_66, nadd_1]
        refine c_floods (Yp := Yp) (ru := ru) (fl := fl) ht Q (i + 1) f k r M (by omega) (by omega) hc hl.2 (fun x hx' => hn x (List.mem_cons_of_mem _ hx')) h hx fun M' q1 q2 q3 => ?_
        rw [show fld yr (a :: Q) r k = fld yr Q r k by rw [fld, hp]; exact if_neg c] at hk
        exact hk M' q1 q2 q3
