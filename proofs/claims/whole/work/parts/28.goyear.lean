/-! ===== stones; the whole year of the class ===== -/
theorem e01_f : e01 false = 0 := rfl
theorem e01_t : ¬ e01 true = 0 := by decide
theorem ordL_mem {b : Nat → B} {x : Nat} : ∀ {k g : Nat} {L : List Nat}, x ∈ ordL b k g L ↔ x ∈ L ∨ (g ≤ x ∧ x < g + k ∧ (b x).1 ≠ none)
  | 0, g, L => by
    simp only [ordL]
    exact ⟨Or.inl, fun h => h.elim id (fun z => by omega)⟩
  | k + 1, g, L => by
    rw [ordL, ordL_mem]
    by_cases c : (b g).1 = none
    · rw [if_pos c]
      constructor
      · rintro (h | h)
        · exact Or.inl h
        · exact Or.inr ⟨by omega, by omega, h.2.2⟩
      · rintro (h | h)
        · exact Or.inl h
        · refine Or.inr ⟨?_, by omega, h.2.2⟩
          by_cases e : x = g
          · subst e; exact absurd c h.2.2
          · omega
    · rw [if_neg c, insR_mem, List.mem_reverse]
      constructor
      · rintro ((h | h | h) | h)
        · subst h; exact Or.inr ⟨Nat.le_refl _, by omega, c⟩
        · exact Or.inl h
        · cases h
        · exact Or.inr ⟨by omega, by omega, h.2.2⟩
      · rintro (h | h)
        · exact Or.inl (Or.inr (Or.inl h))
        · by_cases e : x = g
          · exact Or.inl (Or.inl e)
          · exact Or.inr ⟨by omega, by omega, h.2.2⟩
theorem ordL_len {b : Nat → B} : ∀ {k g : Nat} {L : List Nat}, (ordL b k g L).length ≤ L.length + k
  | 0, g, L => Nat.le_refl _
  | k + 1, g, L => by
    rw [ordL]
    refine Nat.le_trans ordL_len ?_
    split
    · omega
    · rw [insR_len, List.length_reverse]
      simp only [List.length_nil]
      omega
def ord (b : Nat → B) (n : Nat) : List Nat := ordL b n 0 []
theorem ord_mem {b : Nat → B} {n x : Nat} : x ∈ ord b n ↔ x < n ∧ (b x).1 ≠ none := by
  unfold ord
  rw [ordL_mem]
  constructor
  · rintro (h | h)
    · cases h
    · exact ⟨by omega, h.2.2⟩
  · intro h
    exact Or.inr ⟨by omega, by omega, h.2⟩
theorem ord_len {b : Nat → B} {n : Nat} : (ord b n).length ≤ n := by
  have := ordL_len (b := b) (k := n) (g := 0) (L := [])
  simp only [List.length_nil, Nat.zero_add] at this
  exact this
/-! stones -/
def VT (n : Nat) (t : Nat → Option (Nat × Nat)) : Prop := ∀ g, g < n → ∀ l c, t g = some (l, c) → l < 4 ∧ c < 20
def lag (b : B) (c : Nat) : Bool := match b.1 with
  | none => true
  | some p => decide (p.2 < c)
def stn (y : Yd) (yr : Nat) (b : Nat → B) (t : Nat → Option (Nat × Nat)) (g : Nat) : Option (Nat × Nat) := match t g with
  | none => none
  | some (l, c) => if lag (b g) c = true ∧ (yr % 2 = 0 ∨ y_h y g = false) then (if c = 0 then none else some (l, c - 1)) else some (l, c)
theorem VT_stn {y : Yd} {yr n : Nat} {b : Nat → B} {t : Nat → Option (Nat × Nat)} (h : VT n t) : VT n (stn y yr b t) := by
  intro g hg l c e
  unfold stn at e
  cases ht : t g with
  | none => rw [ht] at e; cases e
  | some p =>
    obtain ⟨l', c'⟩ := p
    have h1 := h g hg l' c' ht
    rw [ht] at e
    simp only at e
    split at e
    · split at e
      · cases e
      · cases e
        exact ⟨h1.1, by omega⟩
    · cases e
      exact h1
def FrS (M M' : mM) : Prop := M'.2.2.2 = M.2.2.2 ∧ ∀ p, p ≠ 255 → p ≠ 256 → M'.2.1 p = M.2.1 p
theorem FrS_refl (M : mM) : FrS M M := ⟨rfl, fun _ _ _ => rfl⟩
theorem FrS_trans {M M' M'' : mM} (h : FrS M M') (h' : FrS M' M'') : FrS M M'' := ⟨h'.1.trans h.1, fun p a b => (h'.2 p a b).trans (h.2 p a b)⟩
theorem CS_FrS {yr n : Nat} {b : Nat → B} {M M' : mM} (h : CS 247 yr n b M) (hf : FrS M M') : CS 247 yr n b M' := by
  unfold CS CB at h ⊢
  rw [hf.2 247 (by omega) (by omega), hf.2 (247 + 1) (by omega) (by omega), hf.2 (247 + 2) (by omega) (by omega), hf.2 (247 + 3) (by omega) (by omega), hf.2 (247 + 4) (by omega) (by omega), hf.2 (247 + 5) (by omega) (by omega), hf.2 (247 + 6) (by omega) (by omega), hf.2 (247 + 7) (by omega) (by omega)]
  exact h
theorem CX_FrS {y : Yd} {Yp : Nat} {ru : Option Nat} {fl : Bool} {M M' : mM} (h : CX y Yp ru fl M) (hf : FrS M M') : CX y Yp ru fl M' := by
  obtain ⟨h1, h2, h3, h4, h5, h6⟩ := h
  refine ⟨by rw [hf.1]; exact h1, h2, h3, ?_, by rw [hf.1]; exact h5, by rw [hf.2 246 (by omega) (by omega)]; exact h6⟩
  exact CY_Sm (lo := 255) (hi := 257) h4 (fun p hp => ⟨hf.2 p (by omega) (by omega), by rw [hf.1]⟩) (by omega)
theorem c_stone107 {g l c : Nat} {l1 : Int32} {k20 : Int32 → Int32 → mM → Option mM} {P : mM → Prop} {M : mM} (hg : g < 11) (hl : l < 4) (hc : c < 20) (e1 : M.2.1 255 g = i32 l) (e2 : M.2.1 256 g = i32 c) (hk : ∀ M', FrS M M' → M'.2.1 255 g = eL (if c = 0 then none else some (l, c - 1)) → M'.2.1 256 g = eC (if c = 0 then none else some (l, c - 1)) → (∀ j, j ≠ g → M'.2.1 255 j = M.2.1 255 j ∧ M'.2.1 256 j = M.2.1 256 j) → OK (k20 l1 (i32 (g + 1)) M') P) : OK (f_Course_moveStones_107 k20 l1 (i32 g) M) P := by
  unfold f_Course_moveStones_107 f_Course_moveStones_154 f_Course_moveStones_155
  simp (disch := omega) only [rd_i32, wr_i32, Option.bind_some, e2, gIe, nadd_1]
  by_cases c0 : c = 0
  · subst c0
    rw [if_pos (by decide)]
    refine hk _ ⟨rfl, fun p h1 h2 => ?_⟩ ?_ ?_ fun j hj => ⟨?_, ?_⟩
    · simp (disch := omega) only [gIe, gIp, gIo, gCe, gCn, gRI, gLI, gIR, gCR, gLR, gRe, gRo, gRp, gIl]
    · simp (disch := omega) only [gIe, gIp, gIo, gCe, gCn, gRI, gLI, gIR, gCR, gLR, gRe, gRo, gRp, gIl, if_true]; rfl
    · simp (disch := omega) only [gIe, gIp, gIo, gCe, gCn, gRI, gLI, gIR, gCR, gLR, gRe, gRo, gRp, gIl, if_true]; rfl
    · simp (disch := omega) only [gIe, gIp, gIo, gCe, gCn, gRI, gLI, gIR, gCR, gLR, gRe, gRo, gRp, gIl]
    · simp (disch := omega) only [gIe, gIp, gIo, gCe, gCn, gRI, gLI, gIR, gCR, gLR, gRe, gRo, gRp, gIl]
  · rw [nsub_1 (by omega), if_neg (fun z => (i32_ne1 (by omega)).mp z)]
    refine hk _ ⟨rfl, fun p h1 h2 => ?_⟩ ?_ ?_ fun j hj => ⟨?_, ?_⟩
    · simp (disch := omega) only [gIe, gIp, gIo, gCe, gCn, gRI, gLI, gIR, gCR, gLR, gRe, gRo, gRp, gIl]
    · simp (disch := omega) only [gIe, gIp, gIo, gCe, gCn, gRI, gLI, gIR, gCR, gLR, gRe, gRo, gRp, gIl, c0, if_false]; exact e1
    · simp (disch := omega) only [gIe, gIp, gIo, gCe, gCn, gRI, gLI, gIR, gCR, gLR, gRe, gRo, gRp, gIl, c0, if_false]; rfl
    · simp (disch := omega) only [gIe, gIp, gIo, gCe, gCn, gRI, gLI, gIR, gCR, gLR, gRe, gRo, gRp, gIl]
    · simp (disch := omega) only [gIe, gIp, gIo, gCe, gCn, gRI, gLI, gIR, gCR, gLR, gRe, gRo, gRp, gIl]
theorem c_stone74 {y : Yd} {Yp : Nat} {ru : Option Nat} {fl : Bool} {yr n g : Nat} {b : Nat → B} {t : Nat → Option (Nat × Nat)} {l1 s0 : Int32} {k20 : Int32 → Int32 → mM → Option mM} {P : mM → Prop} {M : mM} (hx : CX y Yp ru fl M) (hn : n ≤ 11) (hg : g < n) (hT : VT n t) (e1 : M.2.1 255 g = eL (t g)) (e2 : M.2.1 256 g = eC (t g)) (hl1 : l1 = e01 (decide (yr % 2 = 0))) (hs0 : ∀ l c, t g = some (l, c) → s0 = e01 (lag (b g) c)) (hk : ∀ M', FrS M M' → M'.2.1 255 g = eL (stn y yr b t g) → M'.2.1 256 g = eC (stn y yr b t g) → (∀ j, j ≠ g → M'.2.1 255 j = M.2.1 255 j ∧ M'.2.1 256 j = M.2.1 256 j) → OK (k20 l1 (i32 (g + 1)) M') P) : OK (f_Course_moveStones_74 k20 l1 (i32 g) s0 M) P := by
  unfold f_Course_moveStones_74
  simp (disch := omega) only [rd_i32, Option.bind_some, e2, f_Course_moveStones_155, nadd_1]
  cases ht : t g with
  | none =>
    rw [show eC none = -1 from rfl, if_pos rfl]
    have hs : stn y yr b t g = none := by unfold stn; rw [ht]
    rw [hs] at hk
    rw [ht] at e1 e2
    exact hk M (FrS_refl M) e1 e2 fun j _ => ⟨rfl, rfl⟩
  | some p =>
    obtain ⟨l, c⟩ := p
    have hlc := hT g hg l c ht
    have hs := hs0 l c ht
    have es : stn y yr b t g = if lag (b g) c = true ∧ (yr % 2 = 0 ∨ y_h y g = false) then (if c = 0 then none else some (l, c - 1)) else some (l, c) := by
      unfold stn; rw [ht]
    rw [es] at hk
    rw [ht] at e1 e2
    rw [show eC (some (l, c)) = i32 c from rfl, if_neg (fun z => (i32_ne1 (by omega)).mp z)]
    cases hlag : lag (b g) c with
    | false =>
      rw [hlag] at hs
      rw [if_pos (by rw [hs]; rfl)]
      rw [if_neg (by rw [hlag]; exact fun z => absurd z.1 (by decide))] at hk
      exact hk M (FrS_refl M) e1 e2 fun j _ => ⟨rfl, rfl⟩
    | true =>
      rw [hlag] at hs
      rw [if_neg (by rw [hs]; decide)]
      by_cases ce : yr % 2 = 0
      · rw [if_neg (by rw [hl1, decide_eq_true ce]; decide)]
        rw [if_pos ⟨hlag, Or.inl ce⟩] at hk
        exact c_stone107 (by omega) hlc.1 hlc.2 e1 e2 hk
      · rw [if_pos (by rw [hl1, decide_eq_false ce]; rfl), hx.1, nnl_s hx.2.1]
        simp only [Option.bind_some]
        rw [c_isHeavy hx.2.2.2.1 (show g < 11 by omega)]
        simp only [Option.bind_some]
        cases ch : y_h y g with
        | false =>
          rw [if_pos e01_f]
          rw [if_pos ⟨hlag, Or.inr ch⟩] at hk
          exact c_stone107 (by omega) hlc.1 hlc.2 e1 e2 hk
        | true =>
          rw [if_neg (by decide)]
          rw [if_neg (by rw [ch]; rintro ⟨-, z | z⟩; exact ce z; cases z)] at hk
          exact hk M (FrS_refl M) e1 e2 fun j _ => ⟨rfl, rfl⟩
theorem c_stones {y : Yd} {Yp : Nat} {ru : Option Nat} {fl : Bool} {yr n L C : Nat} {b : Nat → B} {t : Nat → Option (Nat × Nat)} {l1 : Int32} {P : mM → Prop} {M0 : mM} (hS : CS 247 yr n b M0) (hV : V L C n b) (hx : CX y Yp ru fl M0) (hT : VT n t) (hl1 : l1 = e01 (decide (yr % 2 = 0))) : ∀ (k g f : Nat) (M : mM), g + k = n → k < f → FrS M0 M → CT 247 n (fun i => if i < g then stn y yr b t i else t i) M → (∀ M', FrS M0 M' → CT 247 n (stn y yr b t) M' → P M') → OK (f_Course_moveStones_20 f l1 (i32 g) M) P
  | _, _, 0, _, _, hf, _, _, _ => absurd hf (Nat.not_lt_zero _)
  | 0, g, f + 1, M, hi, hf, hF, hc, hk => by
    have hn := hV.2.2.1
    unfold f_Course_moveStones_20
    simp (disch := omega) only [i32_lt, i32_le, i32_eq, i32_add, i32_mul, i32_neg, i32_nn, i32_ne1, i32_n1e, n1_lt_i32, i32_le_n1, i32_dec, i32_cl, rd_i32, ix_i32, wr_i32, pI_s, pR_s, pC_s, pZ_0, pZ_1, Option.bind_some, ite_true, ite_false, if_true, if_false, gIL, gRI, nlt_0, l0_lt, nle_0, l0_le, neq_0, nadd_0, nmul_0, nmul'_0, nadd'_0, nsub_0, nlt_1, l1_lt, nle_1, l1_le, neq_1, nadd_1, nmul_1, nmul'_1, nadd'_1, nsub_1, nlt_2, l2_lt, nle_2, l2_le, neq_2, nadd_2, nmul_2, nmul'_2, nadd'_2, nsub_2, nlt_3, l3_lt, nle_3, l3_le, neq_3, nadd_3, nmul_3, nmul'_3, nadd'_3, nsub_3, nlt_4, l4_lt, nle_4, l4_le, neq_4, nadd_4, nmul_4, nmul'_4, nadd'_4, nsub_4, nlt_5, l5_lt, nle_5, l5_le, neq_5, nadd_5, nmul_5, nmul'_5, nadd'_5, nsub_5, nlt_6, l6_lt, nle_6, l6_le, neq_6, nadd_6, nmul_6, nmul'_6, nadd'_6, nsub_6, nlt_7, l7_lt, nle_7, l7_le, neq_7, nadd_7, nmul_7, nmul'_7, nadd'_7, nsub_7, nlt_8, l8_lt, nle_8, l8_le, neq_8, nadd_8, nmul_8, nmul'_8, nadd'_8, nsub_8, nlt_9, l9_lt, nle_9, l9_le, neq_9, nadd_9, nmul_9, nmul'_9, nadd'_9, nsub_9, nlt_10, l10_lt, nle_10, l10_le, neq_10, nadd_10, nmul_10, nmul'_10, nadd'_10, nsub_10, nlt_11, l11_lt, nle_11, l11_le, neq_11, nadd_11, nmul_11, nmul'_11, nadd'_11, nsub_11, nlt_12, l12_lt, nle_12, l12_le, neq_12, nadd_12, nmul_12, nmul'_12, nadd'_12, nsub_12, nlt_13, l13_lt, nle_13, l13_le, neq_13, nadd_13, nmul_13, nmul'_13, nadd'_13, nsub_13, nlt_20, l20_lt, nle_20, l20_le, neq_20, nadd_20, nmul_20, nmul'_20, nadd'_20, nsub_20, nlt_400, l400_lt, nle_400, l400_le, neq_400, nadd_400, nmul_400, nmul'_400, nadd'_400, nsub_400, rd_0, wr_0, rd_1, wr_1, rd_2, wr_2, rd_3, wr_3, rd_4, wr_4, rd_5, wr_5, rd_6, wr_6, rd_7, wr_7, rd_8, wr_8, rd_9, wr_9, rd_10, wr_10, rd_11, wr_11, rd_12, wr_12, (CS_FrS hS hF).2.1]
    rw [if_pos (by omega)]
    refine OK_some (hk M hF fun i hi' => ?_)
    have := hc i hi'
    simp only [show i < g from by omega, if_true] at this
    exact this
  | k + 1, g, f + 1, M, hi, hf, hF, hc, hk => by
    have hn := hV.2.2.1
    have hS' := CS_FrS hS hF
    have hg : g < n := by omega
    have e := hc g hg
    simp only [Nat.lt_irrefl, if_false, Nat.reduceAdd] at e
    unfold f_Course_moveStones_20
    simp (disch := omega) only [i32_lt, i32_le, i32_eq, i32_add, i32_mul, i32_neg, i32_nn, i32_ne1, i32_n1e, n1_lt_i32, i32_le_n1, i32_dec, i32_cl, rd_i32, ix_i32, wr_i32, pI_s, pR_s, pC_s, pZ_0, pZ_1, Option.bind_some, ite_true, ite_false, if_true, if_false, gIL, gRI, nlt_0, l0_lt, nle_0, l0_le, neq_0, nadd_0, nmul_0, nmul'_0, nadd'_0, nsub_0, nlt_1, l1_lt, nle_1, l1_le, neq_1, nadd_1, nmul_1, nmul'_1, nadd'_1, nsub_1, nlt_2, l2_lt, nle_2, l2_le, neq_2, nadd_2, nmul_2, nmul'_2, nadd'_2, nsub_2, nlt_3, l3_lt, nle_3, l3_le, neq_3, nadd_3, nmul_3, nmul'_3, nadd'_3, nsub_3, nlt_4, l4_lt, nle_4, l4_le, neq_4, nadd_4, nmul_4, nmul'_4, nadd'_4, nsub_4, nlt_5, l5_lt, nle_5, l5_le, neq_5, nadd_5, nmul_5, nmul'_5, nadd'_5, nsub_5, nlt_6, l6_lt, nle_6, l6_le, neq_6, nadd_6, nmul_6, nmul'_6, nadd'_6, nsub_6, nlt_7, l7_lt, nle_7, l7_le, neq_7, nadd_7, nmul_7, nmul'_7, nadd'_7, nsub_7, nlt_8, l8_lt, nle_8, l8_le, neq_8, nadd_8, nmul_8, nmul'_8, nadd'_8, nsub_8, nlt_9, l9_lt, nle_9, l9_le, neq_9, nadd_9, nmul_9, nmul'_9, nadd'_9, nsub_9, nlt_10, l10_lt, nle_10, l10_le, neq_10, nadd_10, nmul_10, nmul'_10, nadd'_10, nsub_10, nlt_11, l11_lt, nle_11, l11_le, neq_11, nadd_11, nmul_11, nmul'_11, nadd'_11, nsub_11, nlt_12, l12_lt, nle_12, l12_le, neq_12, nadd_12, nmul_12, nmul'_12, nadd'_12, nsub_12, nlt_13, l13_lt, nle_13, l13_le, neq_13, nadd_13, nmul_13, nmul'_13, nadd'_13, nsub_13, nlt_20, l20_lt, nle_20, l20_le, neq_20, nadd_20, nmul_20, nmul'_20, nadd'_20, nsub_20, nlt_400, l400_lt, nle_400, l400_le, neq_400, nadd_400, nmul_400, nmul'_400, nadd'_400, nsub_400, rd_0, wr_0, rd_1, wr_1, rd_2, wr_2, rd_3, wr_3, rd_4, wr_4, rd_5, wr_5, rd_6, wr_6, rd_7, wr_7, rd_8, wr_8, rd_9, wr_9, rd_10, wr_10, rd_11, wr_11, rd_12, wr_12, hS'.2.1]
    rw [if_neg (by omega), if_neg (by omega)]
    have go : ∀ M', FrS M M' → M'.2.1 255 g = eL (stn y yr b t g) → M'.2.1 256 g = eC (stn y yr b t g) → (∀ j, j ≠ g → M'.2.1 255 j = M.2.1 255 j ∧ M'.2.1 256 j = M.2.1 256 j) → OK (f_Course_moveStones_20 f l1 (i32 (g + 1)) M') P := by
      intro M' q1 q2 q3 q4
      refine c_stones hS hV hx hT hl1 k (g + 1) f M' (by omega) (by omega) (FrS_trans hF q1) (fun i hi' => ?_) hk
      by_cases ci : i = g
      · subst ci
        simp only [show i < i + 1 from by omega, if_true]
        exact ⟨q2, q3⟩
      · have h1 := hc i hi'
        have h2 := q4 i ci
        simp only [show (i < g + 1) = (i < g) from propext (by omega), Nat.reduceAdd] at h1 ⊢
        exact ⟨h2.1.trans h1.1, h2.2.trans h1.2⟩
    cases hp : (b g).1 with
    | none =>
      rw [c_lies0 hS' hV (by omega) (fun z => z.2 hp)]
      simp only [Option.bind_some, if_true, f_Course_moveStones_69]
      refine c_stone74 (b := b) (CX_FrS hx hF) hn hg hT e.1 e.2 hl1 (fun l c _ => ?_) go
      unfold lag; rw [hp]; rfl
    | some p =>
      have hl0 : (b g).1 ≠ none := by rw [hp]; exact Option.some_ne_none _
      have hq := eL_lt hV (l := p.1) (c := p.2) hg hp
      have a2 := (hS'.2.2.2.2 g hg).2.1
      simp only [Nat.reduceAdd] at a2
      rw [hp] at a2
      simp only [eC] at a2
      rw [c_lies1 hS' hV hg hl0]
      simp (disch := omega) only [Option.bind_some, show ((1 : Int32) = 0) = False from by decide, if_false, rd_i32, a2, e.2]
      by_cases c2 : eC (t g) ≤ i32 p.2
      · rw [if_pos c2]
        refine c_stone74 (b := b) (CX_FrS hx hF) hn hg hT e.1 e.2 hl1 (fun l c ht => ?_) go
        have := hT g hg l c ht
        rw [ht, show eC (some (l, c)) = i32 c from rfl, i32_le (by omega) (by omega)] at c2
        unfold lag; rw [hp]
        simp only [show ¬ p.2 < c by omega, decide_false]
        rfl
      · rw [if_neg c2, f_Course_moveStones_69]
        refine c_stone74 (b := b) (CX_FrS hx hF) hn hg hT e.1 e.2 hl1 (fun l c ht => ?_) go
        have := hT g hg l c ht
        rw [ht, show eC (some (l, c)) = i32 c from rfl, i32_le (by omega) (by omega)] at c2
        unfold lag; rw [hp]
        simp only [show p.2 < c by omega, decide_true]
        rfl
theorem c_moveStones {y : Yd} {Yp : Nat} {ru : Option Nat} {fl : Bool} {yr n L C : Nat} {b : Nat → B} {t : Nat → Option (Nat × Nat)} {M : mM} (hS : CS 247 yr n b M) (hV : V L C n b) (hx : CX y Yp ru fl M) (hT : VT n t) (hc : CT 247 n t M) (hy : yr < 2147483647) : OK (f_Course_moveStones M) fun M' => FrS M M' ∧ CT 247 n (stn y yr b t) M' := by
  have hn := hV.2.2.1
  unfold f_Course_moveStones f_Course_moveStones_17
  have e0 : ((M.2.1 247 0 - M.2.1 247 0 / 2 * 2 = 0)) = (yr % 2 = 0) := by
    rw [hS.1, show (2 : Int32) = i32 2 from rfl]
    rw [show i32 yr / i32 2 = i32 (yr / 2) from i32_div_l (by omega) (by omega), i32_mul, i32_sub (by omega)]
    rw [neq_0 (by omega)]
    exact propext (by omega)
  have hc' : CT 247 n (fun i => if i < 0 then stn y yr b t i else t i) M := hc
  by_cases c : yr % 2 = 0
  · rw [if_pos (by rw [e0]; exact c)]
    exact c_stones hS hV hx hT (show (1 : Int32) = _ by rw [decide_eq_true c]; rfl) n 0 FUEL M (by omega) (by rw [FUEL_eq]; omega) (FrS_refl M) hc' fun M' q1 q2 => ⟨q1, q2⟩
  · rw [if_neg (by rw [e0]; exact c)]
    exact c_stones hS hV hx hT (show (0 : Int32) = _ by rw [decide_eq_false c]; rfl) n 0 FUEL M (by omega) (by rw [FUEL_eq]; omega) (FrS_refl M) hc' fun M' q1 q2 => ⟨q1, q2⟩
/-! the year -/
def yea (y : Yd) (φ : Option (List Int64 → Nat)) (n yr : Nat) (fl : Bool) (r : R) (k : Nat) : R × Nat :=
  let q := if fl = true then fld yr (ord r.1 n) r k else (r, k)
  ((ord q.1.1 n).foldl (trn y φ n yr fl) q.1, q.2)
theorem CR_yr {y : Yd} {n yr : Nat} {r : R} {M : mM} (h : CR y n yr r M) : CR y n (yr + 1) r (msI M 247 0 (i32 (yr + 1))) := by
  obtain ⟨⟨s0, s1, s2, s3, s4⟩, hV, h1, h2, h3⟩ := h
  refine ⟨⟨gIe _ _ _ _, (gIo (by omega)).trans s1, (gIo (by omega)).trans s2, s3, fun g hg => ?_⟩, hV, (by rw [gIp (by omega)]; exact h1), h2, (by rw [gIp (by omega)]; exact h3)⟩
  unfold CB
  rw [gIp (by omega), gIp (by omega), gIp (by omega), gIp (by omega), gIp (by omega), gIp (by omega), gIp (by omega)]
  exact s4 g hg
theorem fld_b {yr g : Nat} : ∀ {Q : List Nat} {r : R} {k : Nat}, (((fld yr Q r k).1.1 g).1 ≠ none) → (r.1 g).1 ≠ none
  | [], r, k, h => h
  | a :: Q, r, k, h => by
    unfold fld at h
    split at h
    · exact fld_b h
    · split at h
      · have := fld_b h
        intro z
        apply this
        show (bup r.1 a _ g).1 = none
        by_cases c : g = a
        · subst c; rw [bup_e]
        · rw [bup_o c]; exact z
      · exact fld_b h
/-- what a year leaves as it was -/
def FrY (M M' : mM) : Prop := M'.2.2.2 = M.2.2.2 ∧ (∀ p, p < 246 ∨ 269 ≤ p → M'.2.1 p = M.2.1 p) ∧ M'.2.1 246 4 = M.2.1 246 4
theorem FrY_trans {M M' M'' : mM} (h : FrY M M') (h' : FrY M' M'') : FrY M M'' := ⟨h'.1.trans h.1, fun p hp => (h'.2.1 p hp).trans (h.2.1 p hp), h'.2.2.trans h.2.2⟩
theorem FrY_Fr {M M' : mM} (h : Fr M M') : FrY M M' := ⟨h.1, fun p hp => h.2.1 p (by omega), h.2.2 4 (by omega) (by omega)⟩
theorem FrY_O {M M' : mM} (h : FrO M M') : FrY M M' := ⟨h.1, fun p hp => h.2.1 p (by omega) (by omega) (by omega), h.2.2 4 (by omega)⟩
theorem FrY_S {M M' : mM} (h : FrS M M') : FrY M M' := ⟨h.1, fun p hp => h.2 p (by omega) (by omega), by rw [h.2 246 (by omega) (by omega)]⟩
theorem c_year80 {y : Yd} {Yp : Nat} {ru : Option Nat} {fl : Bool} {n yr : Nat} {t : Nat → Option (Nat × Nat)} {r : R} {M : mM} (h : CR y n yr r M) (hx : CX y Yp ru fl M) (hT : VT n t) (hc : CT 247 n t M) (hy : yr < 2147483647) : OK (f_Course_goYear_80 M) fun M' => CR y n (yr + 1) r M' ∧ CT 247 n (stn y yr r.1 t) M' ∧ FrY M M' ∧ M'.2.1 246 3 = M.2.1 246 3 := by
  unfold f_Course_goYear_80
  refine OK_bind (c_moveStones h.1 h.2.1 hx hT hc hy) fun M1 h1 => ?_
  have hR : CR y n yr r M1 := by
    refine ⟨CS_FrS h.1 h1.1, h.2.1, ?_, h.2.2.2.1, ?_⟩
    · rw [h1.1.2 246 (by omega) (by omega)]; exact h.2.2.1
    · rw [h1.1.2 257 (by omega) (by omega)]; exact h.2.2.2.2
  simp only [pI_s, Option.bind_some, hR.1.1, nadd_1]
  refine OK_some ⟨CR_yr hR, fun g hg => ?_, FrY_trans (FrY_S h1.1) ⟨rfl, fun p hp => gIp (by omega), by rw [gIp (by omega)]⟩, ?_⟩
  · have := h1.2 g hg
    simp (disch := omega) only [Nat.reduceAdd, gIp] at this ⊢
    exact this
  · rw [gIp (by omega), h1.1.2 246 (by omega) (by omega)]
theorem CT_Fr {n : Nat} {t : Nat → Option (Nat × Nat)} {M M' : mM} (h : CT 247 n t M) (e5 : M'.2.1 255 = M.2.1 255) (e6 : M'.2.1 256 = M.2.1 256) : CT 247 n t M' := by
  intro g hg
  have := h g hg
  simp only [Nat.reduceAdd] at this ⊢
  rw [e5, e6]
  exact this
theorem c_year44 {y : Yd} {Yp : Nat} {ru : Option Nat} {φ : Option (List Int64 → Nat)} {fl : Bool} {n yr : Nat} {t : Nat → Option (Nat × Nat)} {r : R} {M : mM} (hv : VY y) (h : CR y n yr r M) (hx : CX y Yp ru fl M) (hr : RL ru φ M) (hT : VT n t) (hc : CT 247 n t M) (hy : yr < 2147483647) : OK (f_Course_goYear_44 M) fun M' => CR y n (yr + 1) ((ord r.1 n).foldl (trn y φ n yr fl) r) M' ∧ CT 247 n (stn y yr ((ord r.1 n).foldl (trn y φ n yr fl) r).1 t) M' ∧ FrY M M' ∧ M'.2.1 246 3 = M.2.1 246 3 := by
  have hn := h.1.2.2.2.1
  unfold f_Course_goYear_44
  refine OK_bind (c_takeOrder h) fun M1 h1 => ?_
  have ho : ordL r.1 n 0 [] = ord r.1 n := rfl
  rw [ho] at h1
  have hlen := ord_len (b := r.1) (n := n)
  refine c_turns hv (t := (ord r.1 n).length) (by omega) (ord r.1 n) 0 FUEL r M1 (Nat.zero_add _) (by rw [FUEL_eq]; omega) h1.2.1 h1.2.2.1 (fun a ha => (ord_mem.mp ha).1) (CR_FrO h h1.1) (CX_FrO hx h1.1) (RL_of hr fun p p1 p2 => h1.1.2.1 p (by omega) (by omega) (by omega)) fun M2 q1 q2 q3 => ?_
  have e5 : M2.2.1 255 = M.2.1 255 := (q2.2.1 255 (by omega)).trans (h1.1.2.1 255 (by omega) (by omega) (by omega))
  have e6 : M2.2.1 256 = M.2.1 256 := (q2.2.1 256 (by omega)).trans (h1.1.2.1 256 (by omega) (by omega) (by omega))
  refine OK_imp (c_year80 q1 (CX_Fr (CX_FrO hx h1.1) q2) hT (CT_Fr hc e5 e6) hy) fun M3 h3 => ⟨h3.1, h3.2.1, FrY_trans (FrY_O h1.1) (FrY_trans (FrY_Fr q2) h3.2.2.1), h3.2.2.2.trans (q3.trans (h1.1.2.2 3 (by omega)))⟩
/-- what a course needs before a year -/
def CC (y : Yd) (Yp : Nat) (ru : Option Nat) (φ : Option (List Int64 → Nat)) (M : mM) : Prop := M.2.2.2 246 5 = some Yp ∧ Yp ∈ ydL ∧ (Yp + 8 ≤ 246 ∨ 269 ≤ Yp) ∧ CY Yp y M ∧ M.2.2.2 246 6 = ru ∧ RL ru φ M
theorem CC_FrY {y : Yd} {Yp : Nat} {ru : Option Nat} {φ : Option (List Int64 → Nat)} {M M' : mM} (h : CC y Yp ru φ M) (hf : FrY M M') : CC y Yp ru φ M' := by
  obtain ⟨h1, h2, h3, h4, h5, h6⟩ := h
  refine ⟨by rw [hf.1]; exact h1, h2, h3, ?_, by rw [hf.1]; exact h5, RL_of h6 fun p p1 p2 => hf.2.1 p (by omega)⟩
  exact CY_Sm (lo := 246) (hi := 269) h4 (fun p hp => ⟨hf.2.1 p hp, by rw [hf.1]⟩) (by omega)
theorem c_goYear {y : Yd} {Yp : Nat} {ru : Option Nat} {φ : Option (List Int64 → Nat)} {dr : Bool} {n yr k : Nat} {t : Nat → Option (Nat × Nat)} {r : R} {M : mM} (hv : VY y) (h : CR y n yr r M) (hx : CC y Yp ru φ M) (hd : M.2.1 246 4 = e01 dr) (hk : M.2.1 246 3 = i32 k) (hT : VT n t) (hc : CT 247 n t M) (hy : yr < 2147483647) : OK (f_Course_goYear M) fun M' => CR y n (yr + 1) (yea y φ n yr (dr || flo y yr) r k).1 M' ∧ CT 247 n (stn y yr (yea y φ n yr (dr || flo y yr) r k).1.1 t) M' ∧ FrY M M' ∧ M'.2.1 246 3 = i32 (yea y φ n yr (dr || flo y yr) r k).2 := by
  have hn := h.1.2.2.2.1
  obtain ⟨x1, x2, x3, x4, x5, x6⟩ := hx
  have go30 : ∀ fl : Bool, OK (f_Course_goYear_30 (e01 fl) M) fun M' => CR y n (yr + 1) (yea y φ n yr fl r k).1 M' ∧ CT 247 n (stn y yr (yea y φ n yr fl r k).1.1 t) M' ∧ FrY M M' ∧ M'.2.1 246 3 = i32 (yea y φ n yr fl r k).2 := by
    intro fl
    have ez : pZ M 246 7 (e01 fl) = some (msI M 246 7 (e01 fl)) := by cases fl; exact pZ_0 _ _ _; exact pZ_1 _ _ _
    unfold f_Course_goYear_30
    rw [ez]
    simp only [Option.bind_some, gIe]
    have hF0 : FrY M (msI M 246 7 (e01 fl)) := ⟨rfl, fun p hp => gIp (by omega), gIo (by omega)⟩
    have hR0 : CR y n yr r (msI M 246 7 (e01 fl)) := ⟨CS_Sm (lo := 246) (hi := 247) h.1 (Sm_I (by omega)) (by omega), h.2.1, (gIo (by omega)).trans h.2.2.1, h.2.2.2.1, by rw [gIp (by omega)]; exact h.2.2.2.2⟩
    have hC0 := CC_FrY ⟨x1, x2, x3, x4, x5, x6⟩ hF0
    have hX0 : CX y Yp ru fl (msI M 246 7 (e01 fl)) := ⟨hC0.1, x2, x3, hC0.2.2.2.1, hC0.2.2.2.2.1, gIe _ _ _ _⟩
    have hT0 : CT 247 n t (msI M 246 7 (e01 fl)) := CT_Fr hc (gIp (by omega)) (gIp (by omega))
    have e30 : (msI M 246 7 (e01 fl)).2.1 246 3 = i32 k := (gIo (by omega)).trans hk
    cases fl with
    | false =>
      rw [if_pos e01_f]
      refine OK_imp (c_year44 hv hR0 hX0 hC0.2.2.2.2.2 hT hT0 hy) fun M' h' => ⟨h'.1, h'.2.1, FrY_trans hF0 h'.2.2.1, h'.2.2.2.trans e30⟩
    | true =>
      rw [if_neg (by decide)]
      unfold f_Course_floodRows
      have hlen := ord_len (b := r.1) (n := n)
      refine OK_bind (P := fun M' => CR y n yr (fld yr (ord r.1 n) r k).1 M' ∧ FrY M M' ∧ M'.2.1 246 3 = i32 (fld yr (ord r.1 n) r k).2 ∧ CX y Yp ru true M' ∧ CT 247 n t M') (OK_bind (c_takeOrder hR0) fun M1 h1 => ?_) fun M2 h2 => ?_
      · rw [show ordL r.1 n 0 [] = ord r.1 n from rfl] at h1
        refine c_floods (y := y) (Yp := Yp) (ru := ru) (fl := true) (t := (ord r.1 n).length) (by omega) (ord r.1 n) 0 FUEL k r M1 (Nat.zero_add _) (by rw [FUEL_eq]; omega) h1.2.1 h1.2.2.1 (fun a ha => (ord_mem.mp ha).1) (CR_FrO hR0 h1.1) ((h1.1.2.2 3 (by omega)).trans e30) fun M' q1 q2 q3 => ⟨q1, FrY_trans hF0 (FrY_trans (FrY_O h1.1) (FrY_Fr q2)), q3, CX_Fr (CX_FrO hX0 h1.1) q2, CT_Fr hT0 ((q2.2.1 255 (by omega)).trans (h1.1.2.1 255 (by omega) (by omega) (by omega))) ((q2.2.1 256 (by omega)).trans (h1.1.2.1 256 (by omega) (by omega) (by omega)))⟩
      · refine OK_imp (c_year44 hv h2.1 h2.2.2.2.1 (RL_of x6 fun p p1 p2 => h2.2.1.2.1 p (by omega)) hT h2.2.2.2.2 hy) fun M' h' => ⟨h'.1, h'.2.1, FrY_trans h2.2.1 h'.2.2.1, h'.2.2.2.trans h2.2.2.1⟩
  unfold f_Course_goYear f_Course_goYear_25
  rw [hd]
  cases dr with
  | true =>
    rw [if_neg (by decide)]
    exact go30 true
  | false =>
    rw [if_pos e01_f, x1, nnl_s x2]
    simp only [Option.bind_some, h.1.1]
    rw [c_isFlood x4 hv (by omega)]
    simp only [Option.bind_some, Bool.false_or]
    cases flo y yr with
    | false => rw [if_pos e01_f]; exact go30 false
    | true => rw [if_neg (by decide)]; exact go30 true
