/-! ===== a yard is read: the class ===== -/
/-- the text's fields and the told yard alone change -/
def FrU (M M' : mM) : Prop := M'.2.2 = M.2.2 ∧ (∀ p, p ≠ 1 → p < 4 ∨ 12 ≤ p → M'.2.1 p = M.2.1 p) ∧ M'.2.1 1 1 = M.2.1 1 1
theorem FrU_refl (M : mM) : FrU M M := ⟨rfl, fun _ _ _ => rfl, rfl⟩
theorem FrU_trans {M M' M'' : mM} (h : FrU M M') (h' : FrU M' M'') : FrU M M'' := ⟨h'.1.trans h.1, fun p a b => (h'.2.1 p a b).trans (h.2.1 p a b), h'.2.2.trans h.2.2⟩
theorem FrX_U {M M' : mM} (h : FrX M M') : FrU M M' := ⟨h.1, fun p a _ => h.2.1 p a, h.2.2⟩
theorem FrU_I {M : mM} {p i : Nat} {v : Int32} (h : 4 ≤ p ∧ p < 12) : FrU M (msI M p i v) := ⟨rfl, fun q a b => gIp (by omega), by rw [gIp (by omega)]⟩
def RsC (t : Tp) (r : Except Nat (Nat × YS)) (M : mM) : Prop := match r with
  | .error w => CRf t w M
  | .ok z => CTk t z.1 M ∧ CY 4 z.2.1 M
theorem CY_X {y : Yd} {M M' : mM} (h : CY 4 y M) (e : FrX M M') : CY 4 y M' := CY_of h fun k hk => e.2.1 _ (by omega)
theorem CTk_I {t : Tp} {p : Nat} {M : mM} (h : CTk t p M) {q i : Nat} {v : Int32} (hq : 2 < q) : CTk t p (msI M q i v) := CTk_X h (gIp (by omega)) (gIp (by omega))
theorem CTk_f {t : Tp} {p : Nat} {M : mM} (h : CTk t p M) : M.2.1 1 6 = 0 := h.2.1
theorem cy_size {t : Tp} (ht : t.1 ≤ 400) {p : Nat} {s : YS} {M : mM} (hp : p ≤ t.1) (hT : CTk t p M) (hY : CY 4 s.1 M) : OK (f_YardReader_readSize M) fun M' => FrU M M' ∧ RsC t (sSize t p s) M' := by
  unfold f_YardReader_readSize
  refine OK_bind (c_num ht (lo := 1) (h := 5) hp (by omega) (by omega) hT) fun z1 h1 => ?_
  cases e1 : nmr t p 1 5 with
  | error w =>
    rw [e1] at h1
    have er : sSize t p s = .error w := by unfold sSize; rw [e1, ebd_e]
    rw [CRf_adv h1.2.1, Option.bind_some, CRf_num h1.2.1, Option.bind_some, CRf_adv h1.2.1, Option.bind_some, if_neg (CRf_f h1.2.1), er]
    exact OK_some ⟨FrX_U h1.2.2, h1.2.1⟩
  | ok L =>
    rw [e1] at h1
    have h1' : z1 = (i32 L, M) := h1
    subst h1'
    refine OK_bind (c_adv ht hp hT) fun M2 h2 => ?_
    refine OK_bind (c_num ht (lo := 2) (h := 21) (nxp_le t hp) (by omega) (by omega) h2.1) fun z3 h3 => ?_
    cases e2 : nmr t (nxp t p) 2 21 with
    | error w =>
      rw [e2] at h3
      have er : sSize t p s = .error w := by unfold sSize; rw [e1, ebd_o, e2, ebd_e]
      rw [CRf_adv h3.2.1, Option.bind_some, if_neg (CRf_f h3.2.1), er]
      exact OK_some ⟨FrU_trans (FrX_U h2.2) (FrX_U h3.2.2), h3.2.1⟩
    | ok C =>
      rw [e2] at h3
      have h3' : z3 = (i32 C, M2) := h3
      subst h3'
      have er : sSize t p s = .ok (nxp t (nxp t p), (ySz s.1 L C, s.2)) := by unfold sSize; rw [e1, ebd_o, e2, ebd_o]
      refine OK_bind (c_adv ht (nxp_le t hp) h2.1) fun M4 h4 => ?_
      rw [if_pos (CTk_f h4.1), pI_s, Option.bind_some, pI_s, Option.bind_some, er]
      have hY4 := CY_X (CY_X hY h2.2) h4.2
      refine OK_some ⟨FrU_trans (FrX_U h2.2) (FrU_trans (FrX_U h4.2) (FrU_trans (FrU_I (by omega)) (FrU_I (by omega)))), CTk_I (CTk_I h4.1 (by omega)) (by omega), ?_⟩
      obtain ⟨y1, y2, y3, y4, y5, y6, y7, y8, y9⟩ := hY4
      refine ⟨?_, ?_, ?_, ?_, ?_, ?_, ?_, ?_, ?_⟩
      · rw [gIo (by omega), gIe]; rfl
      · rw [gIe]; rfl
      · rw [gIo (by omega), gIo (by omega)]; exact y3
      · rw [gIo (by omega), gIo (by omega)]; exact y4
      · rw [gIo (by omega), gIo (by omega)]; exact y5
      · intro g hg
        rw [gIp (by omega), gIp (by omega), gIp (by omega), gIp (by omega), gIp (by omega), gIp (by omega)]
        exact y6 g hg
      · intro g hg
        rw [gIp (by omega), gIp (by omega), gIp (by omega), gIp (by omega)]
        exact y7 g hg
      · intro l c hl hc
        rw [gIp (by omega), gIp (by omega)]
        exact y8 l c hl hc
      · intro k hk
        rw [gIp (by omega), gIp (by omega)]
        exact y9 k hk
theorem c_tak {y : Yd} {M : mM} (hv : VY y) (hY : CY 4 y M) {l c : Nat} (hl : l < 2147483648) (hc : c < 2147483648) : ∀ (k i f : Nat), i + k = y_m y → k < f → f_Yard_isTaken_2 4 (i32 l) (i32 c) f (i32 i) M = some (e01 (tak y l c k i), M)
  | _, _, 0, _, hf => absurd hf (Nat.not_lt_zero _)
  | 0, i, f + 1, hi, hf => by
    have v3 := hv.2.2.1
    unfold f_Yard_isTaken_2
    rw [hY.2.2.1, if_pos (by rw [i32_le (by omega) (by omega)]; omega)]
    rfl
  | k + 1, i, f + 1, hi, hf => by
    have v3 := hv.2.2.1
    have v9 := hv.2.2.2.2.2.2.2.2.1 i (by omega)
    have v1 := hv.1
    have v2 := hv.2.1
    obtain ⟨a1, a2, a3⟩ := hY.2.2.2.2.2.1 i (by omega)
    have ih := c_tak hv hY hl hc k (i + 1) f (by omega) (by omega)
    have ih' : f_Yard_isTaken_38 4 (i32 l) (i32 c) (f_Yard_isTaken_2 4 (i32 l) (i32 c) f) (i32 i) M = some (e01 (tak y l c k (i + 1)), M) := by
      unfold f_Yard_isTaken_38
      rw [nadd_1]
      exact ih
    unfold f_Yard_isTaken_2
    rw [hY.2.2.1, if_neg (by rw [i32_le (by omega) (by omega)]; omega), if_neg (by rw [show (11 : Int32) = i32 11 from rfl, i32_le (by omega) (by omega)]; omega), rd_i32 (by omega) (by omega), Option.bind_some, a1, tak]
    by_cases c1 : (y_t y i).1 = l
    · rw [if_pos (by rw [c1]), rd_i32 (by omega) (by omega), Option.bind_some, a2]
      by_cases c2 : (y_t y i).2.1 = c
      · rw [if_pos (by rw [c2]), if_pos ⟨c1, c2⟩]; rfl
      · rw [if_neg (by rw [i32_eq (by omega) (by omega)]; exact c2), if_neg (fun z => c2 z.2), ih']
    · rw [if_neg (by rw [i32_eq (by omega) (by omega)]; exact c1), if_neg (fun z => c1 z.1), ih']
theorem c_isTaken {y : Yd} {M : mM} (hv : VY y) (hY : CY 4 y M) {l c : Nat} (hl : l < 2147483648) (hc : c < 2147483648) : f_Yard_isTaken 4 (i32 l) (i32 c) M = some (e01 (tak y l c (y_m y) 0), M) := by
  have v3 := hv.2.2.1
  exact c_tak hv hY hl hc (y_m y) 0 FUEL (Nat.zero_add _) (by rw [FUEL_eq]; omega)
theorem g103_rf {t : Tp} {w : Nat} {M : mM} (h : CRf t w M) (a b c : Int32) : f_YardReader_readGrave_103 a b c M = some M := by
  unfold f_YardReader_readGrave_103
  rw [CRf_adv h, Option.bind_some, if_neg (CRf_f h)]
theorem g73_rf {t : Tp} {w : Nat} {M : mM} (h : CRf t w M) (a b : Int32) : f_YardReader_readGrave_73 a b M = some M := by
  unfold f_YardReader_readGrave_73
  rw [CRf_adv h, Option.bind_some, CRf_wd h, Option.bind_some, if_pos (show ((-1 : Int32), M).1 = -1 from rfl), CRf_rf h, Option.bind_some]
  exact g103_rf h _ _ _
theorem c_addGrave {t : Tp} {p l c k : Nat} {y : Yd} {M : mM} (hT : CTk t p M) (hY : CY 4 y M) (hm : y_m y < 10) : OK (f_Yard_addGrave 4 (i32 l) (i32 c) (i32 k) M) fun M' => FrU M M' ∧ CTk t p M' ∧ CY 4 (yGr y l c k) M' := by
  obtain ⟨y1, y2, y3, y4, y5, y6, y7, y8, y9⟩ := hY
  unfold f_Yard_addGrave
  rw [y3, if_neg (fun z => (i32_neg (a := y_m y) (by omega)).mp z), if_neg (by rw [show (10 : Int32) = i32 10 from rfl, i32_le (by omega) (by omega)]; omega), wr_i32 (by omega) (by omega), Option.bind_some, gIp (by omega), y3, wr_i32 (by omega) (by omega), Option.bind_some, gIp (by omega), gIp (by omega), y3, wr_i32 (by omega) (by omega), Option.bind_some, gIp (by omega), gIp (by omega), gIp (by omega), y3, nadd_1, pI_s, Option.bind_some]
  refine OK_some ⟨FrU_trans (FrU_trans (FrU_trans (FrU_I (by omega)) (FrU_I (by omega))) (FrU_I (by omega))) (FrU_I (by omega)), CTk_I (CTk_I (CTk_I (CTk_I hT (by omega)) (by omega)) (by omega)) (by omega), ?_⟩
  refine ⟨?_, ?_, ?_, ?_, ?_, ?_, ?_, ?_, ?_⟩
  · rw [gIo (by omega), gIp (by omega), gIp (by omega), gIp (by omega)]; exact y1
  · rw [gIo (by omega), gIp (by omega), gIp (by omega), gIp (by omega)]; exact y2
  · rw [gIe]; rfl
  · rw [gIo (by omega), gIp (by omega), gIp (by omega), gIp (by omega)]; exact y4
  · rw [gIo (by omega), gIp (by omega), gIp (by omega), gIp (by omega)]; exact y5
  · intro g hg
    have hg' : g < y_m y + 1 := hg
    show _ = i32 (bup (y_t y) (y_m y) (l, c, k) g).1 ∧ _ = i32 (bup (y_t y) (y_m y) (l, c, k) g).2.1 ∧ _ = i32 (bup (y_t y) (y_m y) (l, c, k) g).2.2
    rw [gIp (show 4 + 1 ≠ 4 by omega), gIp (show 4 + 1 ≠ 4 + 3 by omega), gIp (show 4 + 1 ≠ 4 + 2 by omega), gIp (show 4 + 2 ≠ 4 by omega), gIp (show 4 + 2 ≠ 4 + 3 by omega), gIp (show 4 + 3 ≠ 4 by omega)]
    by_cases d : g = y_m y
    · rw [d, bup_e, gIe, gIe, gIe]
      exact ⟨rfl, rfl, rfl⟩
    · rw [bup_o d, gIo d, gIo d, gIo d, gIp (show 4 + 2 ≠ 4 + 1 by omega), gIp (show 4 + 3 ≠ 4 + 2 by omega), gIp (show 4 + 3 ≠ 4 + 1 by omega)]
      exact y6 g (by omega)
  · intro g hg
    rw [gIp (by omega), gIp (by omega), gIp (by omega), gIp (by omega), gIp (by omega), gIp (by omega), gIp (by omega), gIp (by omega)]
    exact y7 g hg
  · intro l c hl hc
    rw [gIp (by omega), gIp (by omega), gIp (by omega), gIp (by omega)]
    exact y8 l c hl hc
  · intro k hk
    rw [gIp (by omega), gIp (by omega), gIp (by omega), gIp (by omega)]
    exact y9 k hk
theorem cy_grave {t : Tp} (ht : t.1 ≤ 400) {p : Nat} {s : YS} {M : mM} (hp : p ≤ t.1) (hv : VY s.1) (hm : y_m s.1 < 10) (hT : CTk t p M) (hY : CY 4 s.1 M) : OK (f_YardReader_readGrave M) fun M' => FrU M M' ∧ RsC t (sGrave t p s) M' := by
  have v1 := hv.1
  have v2 := hv.2.1
  have hp2 := nxp_le t hp
  have hp3 := nxp_le t hp2
  unfold f_YardReader_readGrave
  rw [hY.1]
  refine OK_bind (c_num ht (lo := 0) (h := y_L s.1) hp (by omega) (by omega) hT) fun z1 h1 => ?_
  cases e1 : nmr t p 0 (y_L s.1) with
  | error w =>
    rw [e1] at h1
    have er : sGrave t p s = .error w := by unfold sGrave; rw [e1, ebd_e]
    rw [CRf_adv h1.2.1, Option.bind_some, CRf_num h1.2.1, Option.bind_some, if_neg (CRf_f h1.2.1), g73_rf h1.2.1, er]
    exact OK_some ⟨FrX_U h1.2.2, h1.2.1⟩
  | ok l =>
  rw [e1] at h1
  have h1' : z1 = (i32 l, M) := h1
  subst h1'
  have k1 := nmr_ok e1
  refine OK_bind (c_adv ht hp hT) fun M2 h2 => ?_
  have hY2 := CY_X hY h2.2
  rw [hY2.2.1]
  refine OK_bind (c_num ht (lo := 0) (h := y_C s.1) hp2 (by omega) (by omega) h2.1) fun z3 h3 => ?_
  cases e2 : nmr t (nxp t p) 0 (y_C s.1) with
  | error w =>
    rw [e2] at h3
    have er : sGrave t p s = .error w := by unfold sGrave; rw [e1, ebd_o, e2, ebd_e]
    rw [if_neg (CRf_f h3.2.1), g73_rf h3.2.1, er]
    exact OK_some ⟨FrU_trans (FrX_U h2.2) (FrX_U h3.2.2), h3.2.1⟩
  | ok c =>
  rw [e2] at h3
  have h3' : z3 = (i32 c, M2) := h3
  subst h3'
  have k2 := nmr_ok e2
  rw [if_pos (CTk_f h2.1), c_isTaken hv hY2 (by omega) (by omega), Option.bind_some]
  cases e3 : tak s.1 l c (y_m s.1) 0 with
  | true =>
    have er : sGrave t p s = .error (flt (skp t (nxp t p)) 1) := by unfold sGrave; rw [e1, ebd_o, e2, ebd_o, e3, if_pos rfl]
    rw [if_neg (fun z => absurd z (show ¬ e01 true = 0 by decide)), er]
    refine OK_bind (c_refuse ht (k := 1) hp2 (by omega) h2.1) fun M5 h5 => ?_
    rw [g73_rf h5.1]
    exact OK_some ⟨FrU_trans (FrX_U h2.2) (FrX_U h5.2), h5.1⟩
  | false =>
  rw [if_pos (show (e01 false, M2).1 = 0 from rfl)]
  unfold f_YardReader_readGrave_73
  refine OK_bind (c_adv ht hp2 h2.1) fun M5 h5 => ?_
  have hY5 := CY_X hY2 h5.2
  rw [c_wordAmong ht (by omega) hp3 h5.1, Option.bind_some]
  show OK (if isw t 1 (nxp t (nxp t p)) = -1 then _ else _) _
  by_cases e4 : isw t 1 (nxp t (nxp t p)) = -1
  · have er : sGrave t p s = .error (flt (skp t (nxp t (nxp t p))) 0) := by unfold sGrave; rw [e1, ebd_o, e2, ebd_o, e3, if_neg Bool.false_ne_true, if_pos e4]
    rw [if_pos e4, er]
    refine OK_bind (c_refuse ht (k := 0) hp3 (by omega) h5.1) fun M6 h6 => ?_
    rw [g103_rf h6.1]
    exact OK_some ⟨FrU_trans (FrX_U h2.2) (FrU_trans (FrX_U h5.2) (FrX_U h6.2)), h6.1⟩
  · have er : sGrave t p s = .ok (nxp t (nxp t (nxp t p)), (yGr s.1 l c (isw t 1 (nxp t (nxp t p))).toNatClampNeg, s.2)) := by unfold sGrave; rw [e1, ebd_o, e2, ebd_o, e3, if_neg Bool.false_ne_true, if_neg e4]
    obtain ⟨k, hk, ek⟩ := isw_k e4
    have hk4 : k < 4 := hk
    rw [ek, i32_cl (by omega)] at er
    rw [if_neg e4, er]
    unfold f_YardReader_readGrave_103
    refine OK_bind (c_adv ht hp3 h5.1) fun M8 h8 => ?_
    have hY8 := CY_X hY5 h8.2
    rw [if_pos (CTk_f h8.1)]
    have ek' : (idx t (skp t (nxp t (nxp t p))) (wl 1) 0, M5).1 = i32 k := ek
    rw [ek']
    refine OK_bind (c_addGrave h8.1 hY8 hm) fun M9 h9 => OK_some ⟨FrU_trans (FrX_U h2.2) (FrU_trans (FrX_U h5.2) (FrU_trans (FrX_U h8.2) h9.1)), h9.2⟩
theorem up53_rf {t : Tp} {w : Nat} {M : mM} (h : CRf t w M) (a b : Int32) : f_YardReader_readUnpaired_53 a b M = some (b, M) := by
  unfold f_YardReader_readUnpaired_53
  rw [CRf_adv h, Option.bind_some]
theorem up_rf {t : Tp} {w : Nat} {M : mM} (h : CRf t w M) (a : Int32) : f_YardReader_readUnpaired a M = some (-1, M) := by
  unfold f_YardReader_readUnpaired
  rw [CRf_num h, Option.bind_some, if_neg (CRf_f h), up53_rf h]
/-- an unpaired grave -/
theorem c_unp {t : Tp} (ht : t.1 ≤ 400) {p : Nat} {y : Yd} {M : mM} {x : Int32} (hp : p ≤ t.1) (hv : VY y) (hT : CTk t p M) (hY : CY 4 y M) : OK (f_YardReader_readUnpaired x M) fun z => FrX M z.2 ∧ match nmr t p 0 (y_m y) with
    | .error w => CRf t w z.2
    | .ok g => if i32 g = x ∨ y_p y g ≠ none then CRf t (flt (skp t p) 1) z.2 else CTk t (nxp t p) z.2 ∧ z.1 = i32 g := by
  have v3 := hv.2.2.1
  unfold f_YardReader_readUnpaired
  rw [hY.2.2.1]
  refine OK_bind (c_num ht (lo := 0) (h := y_m y) hp (by omega) (by omega) hT) fun z1 h1 => ?_
  cases e1 : nmr t p 0 (y_m y) with
  | error w =>
    rw [e1] at h1
    rw [if_neg (CRf_f h1.2.1), up53_rf h1.2.1]
    exact OK_some ⟨h1.2.2, h1.2.1⟩
  | ok g =>
    rw [e1] at h1
    have h1' : z1 = (i32 g, M) := h1
    subst h1'
    have k1 := nmr_ok e1
    rw [if_pos (CTk_f hT)]
    have bad : (i32 g = x ∨ y_p y g ≠ none) → OK (f_YardReader_readUnpaired_45 x (i32 g) M) fun z => FrX M z.2 ∧ if i32 g = x ∨ y_p y g ≠ none then CRf t (flt (skp t p) 1) z.2 else CTk t (nxp t p) z.2 ∧ z.1 = i32 g := by
      intro hb
      unfold f_YardReader_readUnpaired_45
      refine OK_bind (c_refuse ht (k := 1) hp (by omega) hT) fun M5 h5 => ?_
      rw [up53_rf h5.1]
      exact OK_some ⟨h5.2, by rw [if_pos hb]; exact h5.1⟩
    by_cases c1 : i32 g = x
    · rw [if_pos c1]
      exact bad (Or.inl c1)
    · rw [if_neg c1, c_pairOf hY (by omega), Option.bind_some]
      cases e2 : y_p y g with
      | some h =>
        have v8 := (hv.2.2.2.2.2.2.2.1 g h e2).2
        rw [if_neg (by show ¬ i32 h = -1; rw [i32_ne1 (by omega)]; exact id)]
        exact bad (Or.inr (by rw [e2]; exact fun z => by cases z))
      | none =>
        rw [if_pos (show (eG none, M).1 = -1 from rfl)]
        unfold f_YardReader_readUnpaired_53
        refine OK_bind (c_adv ht hp hT) fun M3 h3 => OK_some ⟨h3.2, ?_⟩
        have nb : ¬ (i32 g = x ∨ y_p y g ≠ none) := fun z => z.elim c1 fun z => z e2
        show if i32 g = x ∨ y_p y g ≠ none then _ else _
        rw [if_neg nb]
        exact ⟨h3.1, rfl⟩
theorem c_addPair {t : Tp} {p a b : Nat} {y : Yd} {M : mM} (hT : CTk t p M) (hY : CY 4 y M) (ha : a < 11) (hb : b < 11) : OK (f_Yard_addPair 4 (i32 a) (i32 b) M) fun M' => FrU M M' ∧ CTk t p M' ∧ CY 4 (yPr y a b) M' := by
  obtain ⟨y1, y2, y3, y4, y5, y6, y7, y8, y9⟩ := hY
  unfold f_Yard_addPair
  rw [if_neg (fun z => (i32_neg (a := a) (by omega)).mp z), if_neg (by rw [show (11 : Int32) = i32 11 from rfl, i32_le (by omega) (by omega)]; omega), if_neg (fun z => (i32_neg (a := b) (by omega)).mp z), if_neg (by rw [show (11 : Int32) = i32 11 from rfl, i32_le (by omega) (by omega)]; omega), wr_i32 (by omega) (by omega), Option.bind_some, wr_i32 (by omega) (by omega), Option.bind_some]
  refine OK_some ⟨FrU_trans (FrU_I (by omega)) (FrU_I (by omega)), CTk_I (CTk_I hT (by omega)) (by omega), ?_⟩
  refine ⟨?_, ?_, ?_, ?_, ?_, ?_, ?_, ?_, ?_⟩
  · rw [gIp (by omega), gIp (by omega)]; exact y1
  · rw [gIp (by omega), gIp (by omega)]; exact y2
  · rw [gIp (by omega), gIp (by omega)]; exact y3
  · rw [gIp (by omega), gIp (by omega)]; exact y4
  · rw [gIp (by omega), gIp (by omega)]; exact y5
  · intro g hg
    rw [gIp (by omega), gIp (by omega), gIp (by omega), gIp (by omega), gIp (by omega), gIp (by omega)]
    exact y6 g hg
  · intro g hg
    show _ = eG (bup (bup (y_p y) a (some b)) b (some a) g) ∧ _
    rw [gIp (show 4 + 5 ≠ 4 + 4 by omega), gIp (show 4 + 5 ≠ 4 + 4 by omega)]
    refine ⟨?_, (y7 g hg).2⟩
    by_cases d1 : g = b
    · rw [d1, gIe, bup_e]; rfl
    · rw [gIo d1, bup_o d1]
      by_cases d2 : g = a
      · rw [d2, gIe, bup_e]; rfl
      · rw [gIo d2, bup_o d2]
        exact (y7 g hg).1
  · intro l c hl hc
    rw [gIp (by omega), gIp (by omega)]
    exact y8 l c hl hc
  · intro k hk
    rw [gIp (by omega), gIp (by omega)]
    exact y9 k hk
theorem cy_pair {t : Tp} (ht : t.1 ≤ 400) {p : Nat} {s : YS} {M : mM} (hp : p ≤ t.1) (hv : VY s.1) (hT : CTk t p M) (hY : CY 4 s.1 M) : OK (f_YardReader_readPair M) fun M' => FrU M M' ∧ RsC t (sPair t p s) M' := by
  have v3 := hv.2.2.1
  have hp2 := nxp_le t hp
  unfold f_YardReader_readPair
  refine OK_bind (c_unp ht (x := -1) hp hv hT hY) fun z1 h1 => ?_
  obtain ⟨f1, h1⟩ := h1
  have bad : ∀ w, CRf t w z1.2 → sPair t p s = .error w → OK ((f_YardReader_readUnpaired z1.1 z1.2).bind fun r2 => if (r2.2.2.1 1 6) = 0 then (f_Yard_addPair 4 z1.1 r2.1 r2.2).bind fun M4 => some M4 else some r2.2) fun M' => FrU M M' ∧ RsC t (sPair t p s) M' := by
    intro w hw er
    rw [up_rf hw, Option.bind_some, if_neg (CRf_f hw), er]
    exact OK_some ⟨FrX_U f1, hw⟩
  cases e1 : nmr t p 0 (y_m s.1) with
  | error w =>
    rw [e1] at h1
    exact bad w h1 (by unfold sPair; rw [e1, ebd_e])
  | ok a =>
  rw [e1] at h1
  have k1 := nmr_ok e1
  by_cases c1 : y_p s.1 a ≠ none
  · have h1' : CRf t (flt (skp t p) 1) z1.2 := by
      have := h1
      dsimp only at this
      rw [if_pos (Or.inr c1)] at this
      exact this
    exact bad _ h1' (by unfold sPair; rw [e1, ebd_o, if_pos c1])
  · have h1' : CTk t (nxp t p) z1.2 ∧ z1.1 = i32 a := by
      have := h1
      dsimp only at this
      rw [if_neg (by rintro (z | z); exact (i32_ne1 (by omega)).mp z; exact c1 z)] at this
      exact this
    have hY1 := CY_X hY f1
    refine OK_bind (c_unp ht (x := z1.1) hp2 hv h1'.1 hY1) fun z2 h2 => ?_
    obtain ⟨f2, h2⟩ := h2
    have bad2 : ∀ w, CRf t w z2.2 → sPair t p s = .error w → OK (if (z2.2.2.1 1 6) = 0 then (f_Yard_addPair 4 z1.1 z2.1 z2.2).bind fun M4 => some M4 else some z2.2) fun M' => FrU M M' ∧ RsC t (sPair t p s) M' := by
      intro w hw er
      rw [if_neg (CRf_f hw), er]
      exact OK_some ⟨FrU_trans (FrX_U f1) (FrX_U f2), hw⟩
    cases e2 : nmr t (nxp t p) 0 (y_m s.1) with
    | error w =>
      rw [e2] at h2
      exact bad2 w h2 (by unfold sPair; rw [e1, ebd_o, if_neg c1, e2, ebd_e])
    | ok b =>
    rw [e2] at h2
    have k2 := nmr_ok e2
    by_cases c2 : b = a ∨ y_p s.1 b ≠ none
    · have h2' : CRf t (flt (skp t (nxp t p)) 1) z2.2 := by
        have := h2
        dsimp only at this
        rw [if_pos (c2.imp (fun z => by rw [z, h1'.2]) id)] at this
        exact this
      exact bad2 _ h2' (by unfold sPair; rw [e1, ebd_o, if_neg c1, e2, ebd_o, if_pos c2])
    · have h2' : CTk t (nxp t (nxp t p)) z2.2 ∧ z2.1 = i32 b := by
        have := h2
        dsimp only at this
        rw [if_neg (fun z => c2 (z.imp (fun z => by rw [h1'.2, i32_eq (by omega) (by omega)] at z; exact z) id))] at this
        exact this
      have er : sPair t p s = .ok (nxp t (nxp t p), (yPr s.1 a b, s.2)) := by unfold sPair; rw [e1, ebd_o, if_neg c1, e2, ebd_o, if_neg c2]
      rw [if_pos (CTk_f h2'.1), h1'.2, h2'.2, er]
      refine OK_bind (c_addPair h2'.1 (CY_X hY1 f2) (by omega) (by omega)) fun M4 h4 => OK_some ⟨FrU_trans (FrX_U f1) (FrU_trans (FrX_U f2) h4.1), h4.2⟩
theorem r73_rf {t : Tp} {w : Nat} {M : mM} (h : CRf t w M) (a b : Int32) : f_YardReader_readRoot_73 a b M = some M := by
  unfold f_YardReader_readRoot_73
  rw [CRf_adv h, Option.bind_some, CRf_num h, Option.bind_some, CRf_adv h, Option.bind_some, if_neg (CRf_f h)]
theorem c_addRoot {t : Tp} {p l c n : Nat} {y : Yd} {M : mM} (hv : VY y) (hT : CTk t p M) (hY : CY 4 y M) (hl : l < y_L y) (hc : c < y_C y) : OK (f_Yard_addRoot 4 (i32 l) (i32 c) (i32 n) M) fun M' => FrU M M' ∧ CTk t p M' ∧ CY 4 (yRt y l c n) M' := by
  have v1 := hv.1
  have v2 := hv.2.1
  unfold f_Yard_addRoot
  rw [c_hasPlace hY hv (by omega) (by omega), if_pos (show l < y_L y ∧ c < y_C y from ⟨hl, hc⟩), Option.bind_some, if_neg (fun z => absurd z (show ¬ (1 : Int32) = 0 by decide))]
  obtain ⟨y1, y2, y3, y4, y5, y6, y7, y8, y9⟩ := hY
  dsimp only
  rw [nmul_20, i32_add, wr_i32 (by omega) (by omega), Option.bind_some, gIp (by omega), y4, nadd_1, pI_s, Option.bind_some]
  refine OK_some ⟨FrU_trans (FrU_I (by omega)) (FrU_I (by omega)), CTk_I (CTk_I hT (by omega)) (by omega), ?_⟩
  refine ⟨?_, ?_, ?_, ?_, ?_, ?_, ?_, ?_, ?_⟩
  · rw [gIo (by omega), gIp (by omega)]; exact y1
  · rw [gIo (by omega), gIp (by omega)]; exact y2
  · rw [gIo (by omega), gIp (by omega)]; exact y3
  · rw [gIe]; rfl
  · rw [gIo (by omega), gIp (by omega)]; exact y5
  · intro g hg
    rw [gIp (by omega), gIp (by omega), gIp (by omega), gIp (by omega), gIp (by omega), gIp (by omega)]
    exact y6 g hg
  · intro g hg
    rw [gIp (by omega), gIp (by omega), gIp (by omega), gIp (by omega)]
    exact y7 g hg
  · intro l' c' hl' hc'
    show _ = i32 (if l' = l ∧ c' = c then n else y_r y l' c')
    rw [gIp (show 4 + 6 ≠ 4 by omega)]
    by_cases d : l' = l ∧ c' = c
    · rw [if_pos d, d.1, d.2, gIe]
    · rw [if_neg d, gIo (by omega)]
      exact y8 l' c' hl' hc'
  · intro k hk
    rw [gIp (by omega), gIp (by omega)]
    exact y9 k hk
theorem cy_root {t : Tp} (ht : t.1 ≤ 400) {p : Nat} {s : YS} {M : mM} (hp : p ≤ t.1) (hv : VY s.1) (hT : CTk t p M) (hY : CY 4 s.1 M) : OK (f_YardReader_readRoot M) fun M' => FrU M M' ∧ RsC t (sRoot t p s) M' := by
  have v1 := hv.1
  have v2 := hv.2.1
  have hp2 := nxp_le t hp
  have hp3 := nxp_le t hp2
  unfold f_YardReader_readRoot
  rw [hY.1]
  refine OK_bind (c_num ht (lo := 0) (h := y_L s.1) hp (by omega) (by omega) hT) fun z1 h1 => ?_
  cases e1 : nmr t p 0 (y_L s.1) with
  | error w =>
    rw [e1] at h1
    have er : sRoot t p s = .error w := by unfold sRoot; rw [e1, ebd_e]
    rw [CRf_adv h1.2.1, Option.bind_some, CRf_num h1.2.1, Option.bind_some, if_neg (CRf_f h1.2.1), r73_rf h1.2.1, er]
    exact OK_some ⟨FrX_U h1.2.2, h1.2.1⟩
  | ok l =>
  rw [e1] at h1
  have h1' : z1 = (i32 l, M) := h1
  subst h1'
  have k1 := nmr_ok e1
  refine OK_bind (c_adv ht hp hT) fun M2 h2 => ?_
  have hY2 := CY_X hY h2.2
  rw [hY2.2.1]
  refine OK_bind (c_num ht (lo := 0) (h := y_C s.1) hp2 (by omega) (by omega) h2.1) fun z3 h3 => ?_
  cases e2 : nmr t (nxp t p) 0 (y_C s.1) with
  | error w =>
    rw [e2] at h3
    have er : sRoot t p s = .error w := by unfold sRoot; rw [e1, ebd_o, e2, ebd_e]
    rw [if_neg (CRf_f h3.2.1), r73_rf h3.2.1, er]
    exact OK_some ⟨FrU_trans (FrX_U h2.2) (FrX_U h3.2.2), h3.2.1⟩
  | ok c =>
  rw [e2] at h3
  have h3' : z3 = (i32 c, M2) := h3
  subst h3'
  have k2 := nmr_ok e2
  have v7 := hv.2.2.2.2.2.2.1 l c
  rw [if_pos (CTk_f h2.1), c_rootAt hY2 (by omega) (by omega), Option.bind_some]
  by_cases e3 : y_r s.1 l c ≠ 0
  · have er : sRoot t p s = .error (flt (skp t (nxp t p)) 1) := by unfold sRoot; rw [e1, ebd_o, e2, ebd_o, if_pos e3]
    rw [if_neg (by show ¬ i32 (y_r s.1 l c) = 0; rw [neq_0 (by omega)]; exact e3), er]
    refine OK_bind (c_refuse ht (k := 1) hp2 (by omega) h2.1) fun M5 h5 => ?_
    rw [r73_rf h5.1]
    exact OK_some ⟨FrU_trans (FrX_U h2.2) (FrX_U h5.2), h5.1⟩
  · have e3' : y_r s.1 l c = 0 := Classical.byContradiction e3
    rw [if_pos (by show i32 (y_r s.1 l c) = 0; rw [e3']; rfl)]
    unfold f_YardReader_readRoot_73
    refine OK_bind (c_adv ht hp2 h2.1) fun M5 h5 => ?_
    have hY5 := CY_X hY2 h5.2
    refine OK_bind (c_num ht (lo := 1) (h := 10) hp3 (by omega) (by omega) h5.1) fun z6 h6 => ?_
    cases e4 : nmr t (nxp t (nxp t p)) 1 10 with
    | error w =>
      rw [e4] at h6
      have er : sRoot t p s = .error w := by unfold sRoot; rw [e1, ebd_o, e2, ebd_o, if_neg e3, e4, ebd_e]
      rw [CRf_adv h6.2.1, Option.bind_some, if_neg (CRf_f h6.2.1), er]
      exact OK_some ⟨FrU_trans (FrX_U h2.2) (FrU_trans (FrX_U h5.2) (FrX_U h6.2.2)), h6.2.1⟩
    | ok n =>
      rw [e4] at h6
      have h6' : z6 = (i32 n, M5) := h6
      subst h6'
      have er : sRoot t p s = .ok (nxp t (nxp t (nxp t p)), (yRt s.1 l c n, bup s.2 (y_nr s.1) (l, c, n))) := by unfold sRoot; rw [e1, ebd_o, e2, ebd_o, if_neg e3, e4, ebd_o]
      refine OK_bind (c_adv ht hp3 h5.1) fun M7 h7 => ?_
      rw [if_pos (CTk_f h7.1), er]
      refine OK_bind (c_addRoot hv h7.1 (CY_X hY5 h7.2) k1.2 k2.2) fun M9 h9 => OK_some ⟨FrU_trans (FrX_U h2.2) (FrU_trans (FrX_U h5.2) (FrU_trans (FrX_U h7.2) h9.1)), h9.2⟩
theorem cy_heavy {t : Tp} (ht : t.1 ≤ 400) {p : Nat} {s : YS} {M : mM} (hp : p ≤ t.1) (hv : VY s.1) (hT : CTk t p M) (hY : CY 4 s.1 M) : OK (f_YardReader_readHeavy M) fun M' => FrU M M' ∧ RsC t (sHeavy t p s) M' := by
  have v3 := hv.2.2.1
  unfold f_YardReader_readHeavy
  rw [hY.2.2.1]
  refine OK_bind (c_num ht (lo := 0) (h := y_m s.1) hp (by omega) (by omega) hT) fun z1 h1 => ?_
  cases e1 : nmr t p 0 (y_m s.1) with
  | error w =>
    rw [e1] at h1
    have er : sHeavy t p s = .error w := by unfold sHeavy; rw [e1, ebd_e]
    rw [CRf_adv h1.2.1, Option.bind_some, if_neg (CRf_f h1.2.1), er]
    exact OK_some ⟨FrX_U h1.2.2, h1.2.1⟩
  | ok g =>
  rw [e1] at h1
  have h1' : z1 = (i32 g, M) := h1
  subst h1'
  have k1 := nmr_ok e1
  have er : sHeavy t p s = .ok (nxp t p, (yHv s.1 g, s.2)) := by unfold sHeavy; rw [e1, ebd_o]
  refine OK_bind (c_adv ht hp hT) fun M2 h2 => ?_
  obtain ⟨y1, y2, y3, y4, y5, y6, y7, y8, y9⟩ := CY_X hY h2.2
  rw [if_pos (CTk_f h2.1), er]
  unfold f_Yard_makeHeavy
  rw [if_neg (fun z => (i32_neg (a := g) (by omega)).mp z), if_neg (by rw [show (11 : Int32) = i32 11 from rfl, i32_le (by omega) (by omega)]; omega), wr_i32 (by omega) (by omega), Option.bind_some, Option.bind_some]
  refine OK_some ⟨FrU_trans (FrX_U h2.2) (FrU_I (by omega)), CTk_I h2.1 (by omega), ?_⟩
  refine ⟨?_, ?_, ?_, ?_, ?_, ?_, ?_, ?_, ?_⟩
  · rw [gIp (by omega)]; exact y1
  · rw [gIp (by omega)]; exact y2
  · rw [gIp (by omega)]; exact y3
  · rw [gIp (by omega)]; exact y4
  · rw [gIp (by omega)]; exact y5
  · intro g hg
    rw [gIp (by omega), gIp (by omega), gIp (by omega)]
    exact y6 g hg
  · intro g' hg
    show _ ∧ _ = e01 (bup (y_h s.1) g true g')
    rw [gIp (show 4 + 4 ≠ 4 + 5 by omega)]
    refine ⟨(y7 g' hg).1, ?_⟩
    by_cases d : g' = g
    · rw [d, gIe, bup_e]; rfl
    · rw [gIo d, bup_o d]; exact (y7 g' hg).2
  · intro l c hl hc
    rw [gIp (by omega)]
    exact y8 l c hl hc
  · intro k hk
    rw [gIp (by omega)]
    exact y9 k hk
theorem f40_rf {t : Tp} {w : Nat} {M : mM} (h : CRf t w M) (a : Int32) : f_YardReader_readFlood_40 a M = some M := by
  unfold f_YardReader_readFlood_40
  rw [CRf_adv h, Option.bind_some, if_neg (CRf_f h)]
theorem cy_flood {t : Tp} (ht : t.1 ≤ 400) {p : Nat} {s : YS} {M : mM} (hp : p ≤ t.1) (hv : VY s.1) (hm : y_nf s.1 < 6) (hT : CTk t p M) (hY : CY 4 s.1 M) : OK (f_YardReader_readFlood M) fun M' => FrU M M' ∧ RsC t (sFlood t p s) M' := by
  unfold f_YardReader_readFlood
  refine OK_bind (c_num ht (lo := 0) (h := 100) hp (by omega) (by omega) hT) fun z1 h1 => ?_
  cases e1 : nmr t p 0 100 with
  | error w =>
    rw [e1] at h1
    have er : sFlood t p s = .error w := by unfold sFlood; rw [e1, ebd_e]
    rw [if_neg (CRf_f h1.2.1), f40_rf h1.2.1, er]
    exact OK_some ⟨FrX_U h1.2.2, h1.2.1⟩
  | ok n =>
  rw [e1] at h1
  have h1' : z1 = (i32 n, M) := h1
  subst h1'
  have k1 := nmr_ok e1
  rw [if_pos (CTk_f hT), c_isFlood hY hv (by omega), Option.bind_some]
  cases e3 : flo s.1 n with
  | true =>
    have er : sFlood t p s = .error (flt (skp t p) 1) := by unfold sFlood; rw [e1, ebd_o, e3, if_pos rfl]
    rw [if_neg (fun z => absurd z (show ¬ e01 true = 0 by decide)), er]
    refine OK_bind (c_refuse ht (k := 1) hp (by omega) hT) fun M5 h5 => ?_
    rw [f40_rf h5.1]
    exact OK_some ⟨FrX_U h5.2, h5.1⟩
  | false =>
  have er : sFlood t p s = .ok (nxp t p, (yFl s.1 n, s.2)) := by unfold sFlood; rw [e1, ebd_o, e3, if_neg Bool.false_ne_true]
  rw [if_pos (show (e01 false, M).1 = 0 from rfl), er]
  unfold f_YardReader_readFlood_40
  refine OK_bind (c_adv ht hp hT) fun M3 h3 => ?_
  rw [if_pos (CTk_f h3.1)]
  obtain ⟨y1, y2, y3, y4, y5, y6, y7, y8, y9⟩ := CY_X hY h3.2
  unfold f_Yard_addFlood
  rw [y5, if_neg (fun z => (i32_neg (a := y_nf s.1) (by omega)).mp z), if_neg (by rw [show (6 : Int32) = i32 6 from rfl, i32_le (by omega) (by omega)]; omega), wr_i32 (by omega) (by omega), Option.bind_some, gIp (by omega), y5, nadd_1, pI_s, Option.bind_some, Option.bind_some]
  refine OK_some ⟨FrU_trans (FrX_U h3.2) (FrU_trans (FrU_I (by omega)) (FrU_I (by omega))), CTk_I (CTk_I h3.1 (by omega)) (by omega), ?_⟩
  refine ⟨?_, ?_, ?_, ?_, ?_, ?_, ?_, ?_, ?_⟩
  · rw [gIo (by omega), gIp (by omega)]; exact y1
  · rw [gIo (by omega), gIp (by omega)]; exact y2
  · rw [gIo (by omega), gIp (by omega)]; exact y3
  · rw [gIo (by omega), gIp (by omega)]; exact y4
  · rw [gIe]; rfl
  · intro g hg
    rw [gIp (by omega), gIp (by omega), gIp (by omega), gIp (by omega), gIp (by omega), gIp (by omega)]
    exact y6 g hg
  · intro g hg
    rw [gIp (by omega), gIp (by omega), gIp (by omega), gIp (by omega)]
    exact y7 g hg
  · intro l c hl hc
    rw [gIp (by omega), gIp (by omega)]
    exact y8 l c hl hc
  · intro k hk
    have hk' : k < y_nf s.1 + 1 := hk
    show _ = i32 (bup (y_fy s.1) (y_nf s.1) n k)
    rw [gIp (by omega)]
    by_cases d : k = y_nf s.1
    · rw [d, gIe, bup_e]
    · rw [gIo d, bup_o d]; exact y9 k (by omega)
