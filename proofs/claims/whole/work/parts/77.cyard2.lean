/-! ===== a yard is read: the class, all of it ===== -/
theorem FrU_Sm {M M' : mM} (h : FrU M M') : Sm 1 12 M M' := fun p hp => ⟨h.2.1 p (by omega) (by omega), by rw [h.1]⟩
theorem isw6 {t : Tp} {p : Nat} (h : ¬ isw t 0 p = -1) : isw t 0 p = 0 ∨ isw t 0 p = 1 ∨ isw t 0 p = 2 ∨ isw t 0 p = 3 ∨ isw t 0 p = 4 ∨ isw t 0 p = 5 := by
  obtain ⟨k, hk, e⟩ := isw_k h
  have hk6 : k < 6 := hk
  rw [e]
  have : k = 0 ∨ k = 1 ∨ k = 2 ∨ k = 3 ∨ k = 4 ∨ k = 5 := by omega
  rcases this with z | z | z | z | z | z <;> subst z
  · exact Or.inl rfl
  · exact Or.inr (Or.inl rfl)
  · exact Or.inr (Or.inr (Or.inl rfl))
  · exact Or.inr (Or.inr (Or.inr (Or.inl rfl)))
  · exact Or.inr (Or.inr (Or.inr (Or.inr (Or.inl rfl))))
  · exact Or.inr (Or.inr (Or.inr (Or.inr (Or.inr rfl))))
theorem c_isFull {y : Yd} {M : mM} (hv : VY y) (hY : CY 4 y M) {x : Int32} (h : x = 0 ∨ x = 1 ∨ x = 2 ∨ x = 3 ∨ x = 4 ∨ x = 5) : f_YardReader_isFull x M = some (e01 (sFull y x), M) := by
  obtain ⟨y1, y2, y3, y4, y5, -⟩ := hY
  have v3 := hv.2.2.1
  have v4 := hv.2.2.2.1
  have v5 := hv.2.2.2.2.1
  unfold f_YardReader_isFull sFull
  rw [y3, y4, y5]
  rcases h with h | h | h | h | h | h <;> subst h
  · rfl
  · rw [if_pos (show (1 : Int32) = 1 from rfl)]
    by_cases c : 10 ≤ y_m y
    · rw [if_neg (by rw [show (10 : Int32) = i32 10 from rfl, i32_lt (by omega) (by omega)]; omega), decide_eq_true c]; rfl
    · rw [if_pos (by rw [show (10 : Int32) = i32 10 from rfl, i32_lt (by omega) (by omega)]; omega), decide_eq_false c]; rfl
  · rfl
  · rw [if_neg (show ¬ (3 : Int32) = 1 by decide), if_neg (show ¬ (3 : Int32) = 2 by decide), if_pos (show (3 : Int32) = 3 from rfl)]
    by_cases c : 6 ≤ y_nr y
    · rw [if_neg (by rw [show (6 : Int32) = i32 6 from rfl, i32_lt (by omega) (by omega)]; omega), decide_eq_true c]; rfl
    · rw [if_pos (by rw [show (6 : Int32) = i32 6 from rfl, i32_lt (by omega) (by omega)]; omega), decide_eq_false c]; rfl
  · rfl
  · rw [if_neg (show ¬ (5 : Int32) = 1 by decide), if_neg (show ¬ (5 : Int32) = 2 by decide), if_neg (show ¬ (5 : Int32) = 3 by decide), if_neg (show ¬ (5 : Int32) = 4 by decide), if_pos (show (5 : Int32) = 5 from rfl)]
    by_cases c : 6 ≤ y_nf y
    · rw [if_neg (by rw [show (6 : Int32) = i32 6 from rfl, i32_lt (by omega) (by omega)]; omega), decide_eq_true c]; rfl
    · rw [if_pos (by rw [show (6 : Int32) = i32 6 from rfl, i32_lt (by omega) (by omega)]; omega), decide_eq_false c]; rfl
theorem cy_clause {t : Tp} (ht : t.1 ≤ 400) {p i : Nat} {s : YS} {M : mM} (hp : p ≤ t.1) (hi : i ≤ 40) (hv : VY s.1) (hT : CTk t p M) (hY : CY 4 s.1 M) : OK (f_YardReader_readClause (i32 i) M) fun M' => FrU M M' ∧ RsC t (sClause t p i s) M' := by
  unfold f_YardReader_readClause
  rw [c_wordAmong ht (by omega) hp hT, Option.bind_some]
  show OK (if isw t 0 p = -1 then _ else if isw t 0 p = 0 then f_YardReader_readClause_33 (i32 i) (isw t 0 p) 1 M else f_YardReader_readClause_33 (i32 i) (isw t 0 p) 0 M) _
  by_cases c1 : isw t 0 p = -1
  · have er : sClause t p i s = .error (flt (skp t p) 0) := by unfold sClause; rw [if_pos c1]
    rw [if_pos c1, er]
    exact OK_bind (c_refuse ht (k := 0) hp (by omega) hT) fun M' h' => OK_some ⟨FrX_U h'.2, h'.1⟩
  rw [if_neg c1]
  have h50 : (if isw t 0 p = 0 then f_YardReader_readClause_33 (i32 i) (isw t 0 p) 1 M else f_YardReader_readClause_33 (i32 i) (isw t 0 p) 0 M) = f_YardReader_readClause_50 (i32 i) (isw t 0 p) (e01 (!decide (isw t 0 p = 0 ↔ i = 0))) M := by
    unfold f_YardReader_readClause_33 f_YardReader_readClause_42
    by_cases a : isw t 0 p = 0
    · by_cases b : i = 0
      · rw [if_pos a, if_pos (by rw [b]; rfl), if_pos rfl, decide_eq_true (show isw t 0 p = 0 ↔ i = 0 from ⟨fun _ => b, fun _ => a⟩)]; rfl
      · rw [if_pos a, if_neg (by rw [neq_0 (by omega)]; exact b), if_neg (by decide), decide_eq_false (show ¬ (isw t 0 p = 0 ↔ i = 0) from fun z => b (z.mp a))]; rfl
    · by_cases b : i = 0
      · rw [if_neg a, if_pos (by rw [b]; rfl), if_neg (by decide), decide_eq_false (show ¬ (isw t 0 p = 0 ↔ i = 0) from fun z => a (z.mpr b))]; rfl
      · rw [if_neg a, if_neg (by rw [neq_0 (by omega)]; exact b), if_pos rfl, decide_eq_true (show isw t 0 p = 0 ↔ i = 0 from ⟨fun y => absurd y a, fun y => absurd y b⟩)]; rfl
  rw [h50]
  have bad : (40 ≤ i ∨ ¬ (isw t 0 p = 0 ↔ i = 0) ∨ sFull s.1 (isw t 0 p) = true) → OK (f_YardReader_readClause_69 (i32 i) M) fun M' => FrU M M' ∧ RsC t (sClause t p i s) M' := by
    intro hb
    have er : sClause t p i s = .error (flt (skp t p) 4) := by unfold sClause; rw [if_neg c1, if_pos hb]
    unfold f_YardReader_readClause_69
    rw [er]
    exact OK_bind (c_refuse ht (k := 4) hp (by omega) hT) fun M' h' => OK_some ⟨FrX_U h'.2, h'.1⟩
  unfold f_YardReader_readClause_50
  by_cases c2 : 40 ≤ i
  · rw [if_pos (by rw [show (40 : Int32) = i32 40 from rfl, i32_le (by omega) (by omega)]; exact c2)]
    exact bad (Or.inl c2)
  rw [if_neg (by rw [show (40 : Int32) = i32 40 from rfl, i32_le (by omega) (by omega)]; exact c2)]
  by_cases c3 : isw t 0 p = 0 ↔ i = 0
  · rw [decide_eq_true c3, if_pos (show e01 (!true) = 0 from rfl), c_isFull hv hY (isw6 c1), Option.bind_some]
    cases c4 : sFull s.1 (isw t 0 p) with
    | true =>
      rw [if_neg (fun z => absurd z (show ¬ e01 true = 0 by decide))]
      exact bad (Or.inr (Or.inr c4))
    | false =>
      rw [if_pos (show (e01 false, M).1 = 0 from rfl)]
      have er0 : sClause t p i s = if isw t 0 p = 0 then sSize t (nxp t p) s else if isw t 0 p = 1 then sGrave t (nxp t p) s else if isw t 0 p = 2 then sPair t (nxp t p) s else if isw t 0 p = 3 then sRoot t (nxp t p) s else if isw t 0 p = 4 then sHeavy t (nxp t p) s else sFlood t (nxp t p) s := by
        unfold sClause
        rw [if_neg c1, if_neg (by rintro (z | z | z); exact c2 z; exact z c3; rw [c4] at z; exact Bool.false_ne_true z)]
      rw [er0]
      have hp2 := nxp_le t hp
      refine OK_bind (c_adv ht hp hT) fun M1 h1 => ?_
      have hY1 := CY_X hY h1.2
      have f1 := FrX_U h1.2
      by_cases d0 : isw t 0 p = 0
      · rw [if_pos d0, if_pos d0]
        exact OK_bind (cy_size (s := s) ht hp2 h1.1 hY1) fun M2 h2 => OK_some ⟨FrU_trans f1 h2.1, h2.2⟩
      rw [if_neg d0, if_neg d0]
      by_cases d1 : isw t 0 p = 1
      · have hm : y_m s.1 < 10 := by
          refine Classical.byContradiction fun z => ?_
          unfold sFull at c4
          rw [d1, decide_eq_true (show (10 : Nat) ≤ y_m s.1 by omega)] at c4
          exact absurd c4 (by simp)
        rw [if_pos d1, if_pos d1]
        exact OK_bind (cy_grave (s := s) ht hp2 hv hm h1.1 hY1) fun M2 h2 => OK_some ⟨FrU_trans f1 h2.1, h2.2⟩
      rw [if_neg d1, if_neg d1]
      by_cases d2 : isw t 0 p = 2
      · rw [if_pos d2, if_pos d2]
        exact OK_bind (cy_pair (s := s) ht hp2 hv h1.1 hY1) fun M2 h2 => OK_some ⟨FrU_trans f1 h2.1, h2.2⟩
      rw [if_neg d2, if_neg d2]
      by_cases d3 : isw t 0 p = 3
      · rw [if_pos d3, if_pos d3]
        exact OK_bind (cy_root (s := s) ht hp2 hv h1.1 hY1) fun M2 h2 => OK_some ⟨FrU_trans f1 h2.1, h2.2⟩
      rw [if_neg d3, if_neg d3]
      by_cases d4 : isw t 0 p = 4
      · rw [if_pos d4, if_pos d4]
        exact OK_bind (cy_heavy (s := s) ht hp2 hv h1.1 hY1) fun M2 h2 => OK_some ⟨FrU_trans f1 h2.1, h2.2⟩
      rw [if_neg d4, if_neg d4]
      have hm : y_nf s.1 < 6 := by
        have d5 : isw t 0 p = 5 := by
          rcases isw6 c1 with z | z | z | z | z | z
          · exact absurd z d0
          · exact absurd z d1
          · exact absurd z d2
          · exact absurd z d3
          · exact absurd z d4
          · exact z
        refine Classical.byContradiction fun z => ?_
        unfold sFull at c4
        rw [d5, decide_eq_true (show (6 : Nat) ≤ y_nf s.1 by omega)] at c4
        exact absurd c4 (by simp)
      exact OK_bind (cy_flood (s := s) ht hp2 hv hm h1.1 hY1) fun M2 h2 => OK_some ⟨FrU_trans f1 h2.1, h2.2⟩
  · rw [decide_eq_false c3, if_neg (show ¬ e01 (!false) = 0 by decide)]
    exact bad (Or.inr (Or.inl c3))
theorem ebd_ok {α β : Type} {x : Except Nat α} {f : α → Except Nat β} {r : β} (h : ebd x f = .ok r) : ∃ a, x = .ok a ∧ f a = .ok r := by
  cases x with
  | error w => cases h
  | ok a => exact ⟨a, rfl, h⟩
theorem sClause_le {t : Tp} {p i p' : Nat} {s s' : YS} (hp : p ≤ t.1) (h : sClause t p i s = .ok (p', s')) : i < 40 ∧ p' ≤ t.1 := by
  have h1 := nxp_le t hp
  have h2 := nxp_le t h1
  have h3 := nxp_le t h2
  have h4 := nxp_le t h3
  unfold sClause at h
  by_cases a1 : isw t 0 p = -1
  · rw [if_pos a1] at h; cases h
  rw [if_neg a1] at h
  by_cases a2 : 40 ≤ i ∨ ¬ (isw t 0 p = 0 ↔ i = 0) ∨ sFull s.1 (isw t 0 p) = true
  · rw [if_pos a2] at h; cases h
  rw [if_neg a2] at h
  refine ⟨Nat.not_le.mp fun z => a2 (Or.inl z), ?_⟩
  by_cases b0 : isw t 0 p = 0
  · rw [if_pos b0] at h
    obtain ⟨L, -, h⟩ := ebd_ok h
    obtain ⟨C, -, h⟩ := ebd_ok h
    have e : nxp t (nxp t (nxp t p)) = p' := congrArg Prod.fst (Except.ok.inj h)
    rw [← e]; exact h3
  rw [if_neg b0] at h
  by_cases b1 : isw t 0 p = 1
  · rw [if_pos b1] at h
    obtain ⟨l, -, h⟩ := ebd_ok h
    obtain ⟨c, -, h⟩ := ebd_ok h
    split at h
    · cases h
    · split at h
      · cases h
      · have e : nxp t (nxp t (nxp t (nxp t p))) = p' := congrArg Prod.fst (Except.ok.inj h)
        rw [← e]; exact h4
  rw [if_neg b1] at h
  by_cases b2 : isw t 0 p = 2
  · rw [if_pos b2] at h
    obtain ⟨l, -, h⟩ := ebd_ok h
    split at h
    · cases h
    · obtain ⟨c, -, h⟩ := ebd_ok h
      split at h
      · cases h
      · have e : nxp t (nxp t (nxp t p)) = p' := congrArg Prod.fst (Except.ok.inj h)
        rw [← e]; exact h3
  rw [if_neg b2] at h
  by_cases b3 : isw t 0 p = 3
  · rw [if_pos b3] at h
    obtain ⟨l, -, h⟩ := ebd_ok h
    obtain ⟨c, -, h⟩ := ebd_ok h
    split at h
    · cases h
    · obtain ⟨n, -, h⟩ := ebd_ok h
      have e : nxp t (nxp t (nxp t (nxp t p))) = p' := congrArg Prod.fst (Except.ok.inj h)
      rw [← e]; exact h4
  rw [if_neg b3] at h
  by_cases b4 : isw t 0 p = 4
  · rw [if_pos b4] at h
    obtain ⟨l, -, h⟩ := ebd_ok h
    have e : nxp t (nxp t p) = p' := congrArg Prod.fst (Except.ok.inj h)
    rw [← e]; exact h2
  rw [if_neg b4] at h
  obtain ⟨l, -, h⟩ := ebd_ok h
  split at h
  · cases h
  · have e : nxp t (nxp t p) = p' := congrArg Prod.fst (Except.ok.inj h)
    rw [← e]; exact h2
theorem mor_le {t : Tp} {p p' : Nat} (hp : p ≤ t.1) (h : mor t p = .ok (some p')) : p' ≤ t.1 := by
  unfold mor at h
  split at h
  · cases h
  · split at h
    · cases h; exact nxp_le t hp
    · cases h
def RsY (r : Except Nat YS) (z : Int32 × mM) : Prop := match r with
  | .error w => z.1 = i32 w ∧ 0 < w ∧ w < 10000
  | .ok s => z.1 = 0 ∧ CY 4 s.1 z.2 ∧ VYS s ∧ 0 < y_L s.1
theorem cy_loop {t : Tp} (ht : t.1 ≤ 400) : ∀ (k i p f : Nat) (s : YS) (M : mM), i + k = 40 → k + 2 < f → p ≤ t.1 → VYS s → (i = 0 → s.1 = yNil) → (i ≠ 0 → 0 < y_L s.1) → CTk t p M → CY 4 s.1 M → OK (f_YardReader_readYard_18 f 1 (i32 i) M) fun z => FrU M z.2 ∧ RsY (sYard t (k + 1) i p s) z
  | _, _, _, 0, _, _, _, hf, _, _, _, _, _, _ => absurd hf (Nat.not_lt_zero _)
  | k, i, p, f + 1, s, M, hi, hf, hp, hs, h0, hL, hT, hY => by
    obtain ⟨f, rfl⟩ : ∃ f', f = f' + 1 := ⟨f - 1, by omega⟩
    rw [f_YardReader_readYard_18, if_neg (by rw [show (40 : Int32) = i32 40 from rfl, i32_lt (by omega) (by omega)]; omega), if_neg (by decide), sYard]
    have stop : ∀ M5 : mM, f_YardReader_readYard_18 (f + 1) 0 (i32 i + 1) M5 = some (M5.2.1 1 6, M5) := by
      intro M5
      rw [f_YardReader_readYard_18]
      unfold f_YardReader_readYard_47
      by_cases c : (40 : Int32) < i32 i + 1
      · rw [if_pos c]
      · rw [if_neg c, if_pos rfl]
    refine OK_bind (cy_clause ht (s := s) hp (by omega) hs.1 hT hY) fun M5 h5 => ?_
    obtain ⟨f5, h5⟩ := h5
    cases e1 : sClause t p i s with
    | error w =>
      rw [e1] at h5
      have h5' : CRf t w M5 := h5
      rw [CRf_more h5', Option.bind_some, stop, ebd_e]
      exact OK_some ⟨f5, h5'.2.1, h5'.2.2.1, h5'.2.2.2.1⟩
    | ok q =>
      obtain ⟨p', s'⟩ := q
      rw [e1] at h5
      have hT5 : CTk t p' M5 := h5.1
      have hY5 : CY 4 s'.1 M5 := h5.2
      have hle := sClause_le hp e1
      have hV := VYS_clause hs h0 hL e1
      rw [ebd_o]
      refine OK_bind (c_more ht hle.2 hT5) fun z6 h6 => ?_
      show OK _ fun z => FrU M z.2 ∧ RsY (ebd (mor t p') _) z
      cases e2 : mor t p' with
      | error w =>
        rw [e2] at h6
        rw [h6.1, stop, ebd_e]
        exact OK_some ⟨FrU_trans f5 (FrX_U h6.2.2), h6.2.1.2.1, h6.2.1.2.2.1, h6.2.1.2.2.2.1⟩
      | ok o =>
        rw [ebd_o]
        cases o with
        | none =>
          rw [e2] at h6
          have h6' : z6 = (0, M5) := h6
          subst h6'
          rw [stop]
          exact OK_some ⟨f5, CTk_f hT5, hY5, hV.1, hV.2⟩
        | some p'' =>
          rw [e2] at h6
          have h6' : z6.1 = 1 ∧ CTk t p'' z6.2 ∧ FrX M5 z6.2 := h6
          rw [h6'.1, nadd_1]
          obtain ⟨k, rfl⟩ : ∃ k', k = k' + 1 := ⟨k - 1, by omega⟩
          exact OK_imp (cy_loop ht k (i + 1) p'' (f + 1) s' z6.2 (by omega) (by omega) (mor_le hle.2 e2) hV.1 (fun z => by omega) (fun _ => hV.2) h6'.2.1 (CY_X hY5 h6'.2.2)) fun z hz => ⟨FrU_trans f5 (FrU_trans (FrX_U h6'.2.2) hz.1), hz.2⟩
  termination_by _ _ _ f => f
theorem c_clear (M : mM) : OK (f_Yard_clear 4 M) fun M' => Sm 4 12 M M' ∧ CY 4 yNil M' := by
  obtain ⟨M5, s5, a0, a1, a2, a8, a10, e⟩ : ∃ M5, Sm 4 12 M M5 ∧ M5.2.1 4 0 = 0 ∧ M5.2.1 4 1 = 0 ∧ M5.2.1 4 2 = 0 ∧ M5.2.1 4 8 = 0 ∧ M5.2.1 4 10 = 0 ∧ f_Yard_clear 4 M = (f_J_fill (4 + 4) 11 (-1) M5).bind fun M6 => (f_J_fill (4 + 5) 11 0 M6).bind fun M7 => (f_J_fill (4 + 6) 80 0 M7).bind fun M8 => some M8 := by
    refine ⟨msI (msI (msI (msI (msI M 4 0 0) 4 1 0) 4 2 0) 4 8 0) 4 10 0, Sm_trans (Sm_I (by omega)) (Sm_trans (Sm_I (by omega)) (Sm_trans (Sm_I (by omega)) (Sm_trans (Sm_I (by omega)) (Sm_I (by omega))))), ?_, ?_, ?_, ?_, ?_, ?_⟩
    · rw [gIo (by omega), gIo (by omega), gIo (by omega), gIo (by omega), gIe]
    · rw [gIo (by omega), gIo (by omega), gIo (by omega), gIe]
    · rw [gIo (by omega), gIo (by omega), gIe]
    · rw [gIo (by omega), gIe]
    · rw [gIe]
    · unfold f_Yard_clear
      rw [pI_s, Option.bind_some, pI_s, Option.bind_some, pI_s, Option.bind_some, pI_s, Option.bind_some, pI_s, Option.bind_some]
  rw [e]
  refine OK_bind (c_fill (p := 4 + 4) (n := 11) (v := -1) (by omega) M5) fun M6 h6 => ?_
  refine OK_bind (c_fill (p := 4 + 5) (n := 11) (v := 0) (by omega) M6) fun M7 h7 => ?_
  refine OK_bind (c_fill (p := 4 + 6) (n := 80) (v := 0) (by omega) M7) fun M8 h8 => ?_
  have e8 : ∀ q, q ≠ 10 → M8.2.1 q = M7.2.1 q := fun q hq => Sm_i h8.1 (by omega)
  have e7 : ∀ q, q ≠ 9 → M7.2.1 q = M6.2.1 q := fun q hq => Sm_i h7.1 (by omega)
  have e6 : ∀ q, q ≠ 8 → M6.2.1 q = M5.2.1 q := fun q hq => Sm_i h6.1 (by omega)
  have e4 : M8.2.1 4 = M5.2.1 4 := (e8 4 (by omega)).trans ((e7 4 (by omega)).trans (e6 4 (by omega)))
  have s6 : Sm 4 12 M5 M6 := Sm_le h6.1 (by omega) (by omega)
  have s7 : Sm 4 12 M6 M7 := Sm_le h7.1 (by omega) (by omega)
  have s8 : Sm 4 12 M7 M8 := Sm_le h8.1 (by omega) (by omega)
  refine OK_some ⟨Sm_trans s5 (Sm_trans s6 (Sm_trans s7 s8)), ?_⟩
  refine ⟨by rw [e4, a0]; rfl, by rw [e4, a1]; rfl, by rw [e4, a2]; rfl, by rw [e4, a8]; rfl, by rw [e4, a10]; rfl, fun g hg => absurd hg (Nat.not_lt_zero _), fun g hg => ⟨?_, ?_⟩, fun l c hl hc => ?_, fun k hk => absurd hk (Nat.not_lt_zero _)⟩
  · rw [e8 (4 + 4) (by omega), e7 (4 + 4) (by omega), h6.2.2.1 g hg]
    rfl
  · rw [e8 (4 + 5) (by omega), h7.2.2.1 g hg]
    rfl
  · rw [h8.2.2.1 (l * 20 + c) (by omega)]
    rfl
theorem c_readYard {t : Tp} (ht : t.1 ≤ 400) {M : mM} (h : CP t M) (rt : Nat → Nat × Nat × Nat) : OK (f_YardReader_readYard M) fun z => Sm 1 12 M z.2 ∧ z.2.2.1 2 = M.2.1 2 ∧ RsY (sYard t 41 0 0 (yNil, rt)) z := by
  unfold f_YardReader_readYard
  refine OK_bind (c_clear M) fun M1 h1 => ?_
  have e1 : M1.2.1 1 = M.2.1 1 := Sm_i h1.1 (by omega)
  have e2 : M1.2.1 2 = M.2.1 2 := Sm_i h1.1 (by omega)
  refine OK_bind (c_rewind ht (CP_of h (by rw [e1]) e2)) fun M2 h2 => ?_
  refine OK_imp (cy_loop ht 40 0 0 FUEL (yNil, rt) M2 (by omega) (by rw [FUEL_eq]; omega) (Nat.zero_le _) (VYS_nil rt) (fun _ => rfl) (fun z => absurd rfl z) h2.1 (CY_X h1.2 h2.2)) fun z hz => ?_
  exact ⟨Sm_trans (Sm_le h1.1 (by omega) (by omega)) (Sm_trans (FrU_Sm (FrX_U h2.2)) (FrU_Sm hz.1)), (hz.1.2.1 2 (by omega) (by omega)).trans ((h2.2.2.1 2 (by omega)).trans e2), hz.2⟩
