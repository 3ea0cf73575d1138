/-! ===== a rule is read: the class, clauses ===== -/
def FrRr (S : Nat) (M M' : mM) : Prop := M'.2.2 = M.2.2 ∧ (∀ p, p ≠ 1 → p ≠ 12 → p < S ∨ S + 5 ≤ p → M'.2.1 p = M.2.1 p) ∧ M'.2.1 1 1 = M.2.1 1 1
theorem FrRr_refl (S : Nat) (M : mM) : FrRr S M M := ⟨rfl, fun _ _ _ _ => rfl, rfl⟩
theorem FrRr_trans {S : Nat} {M M' M'' : mM} (h : FrRr S M M') (h' : FrRr S M' M'') : FrRr S M M'' := ⟨h'.1.trans h.1, fun p a b c => (h'.2.1 p a b c).trans (h.2.1 p a b c), h'.2.2.trans h.2.2⟩
theorem FrRu_r {S : Nat} {M M' : mM} (h : FrRu S M M') : FrRr S M M' := ⟨h.1, fun p a b c => h.2.1 p a b (by omega) (by omega), h.2.2.2.1⟩
theorem FrX_r {S : Nat} {M M' : mM} (h : FrX M M') : FrRr S M M' := ⟨h.1, fun p a _ _ => h.2.1 p a, h.2.2⟩
/-- the rule's own places alone change -/
def FrOw (S : Nat) (M M' : mM) : Prop := M'.2.2 = M.2.2 ∧ ∀ p, p < S ∨ S + 5 ≤ p → M'.2.1 p = M.2.1 p
theorem FrOw_r {S : Nat} (hS : 13 ≤ S) {M M' : mM} (h : FrOw S M M') : FrRr S M M' := ⟨h.1, fun p _ _ c => h.2 p c, by rw [h.2 1 (by omega)]⟩
theorem c_openX (S : Nat) (M : mM) : OK (f_Rule_openClause S M) fun M' => FrOw S M M' := by
  unfold f_Rule_openClause
  rcases i32_cases (M.2.1 S 5) with c | ⟨a, ha, c⟩
  · exact OK_pos c (OK_some ⟨rfl, fun _ _ => rfl⟩)
  · rw [c, if_neg (fun z => (i32_neg (a := a) (by omega)).mp z)]
    by_cases d : 12 ≤ a
    · rw [if_pos (by rw [show (12 : Int32) = i32 12 from rfl, i32_le (by omega) (by omega)]; exact d)]
      exact OK_some ⟨rfl, fun _ _ => rfl⟩
    · rw [if_neg (by rw [show (12 : Int32) = i32 12 from rfl, i32_le (by omega) (by omega)]; exact d), wr_i32 (by omega) (by omega), Option.bind_some]
      exact OK_some ⟨rfl, fun p a => gIp (by omega)⟩
theorem c_testX (S : Nat) (M : mM) : OK (f_Rule_openTest S M) fun M' => FrOw S M M' := by
  unfold f_Rule_openTest
  rcases i32_cases (M.2.1 S 5) with c | ⟨a, ha, c⟩
  · exact OK_pos c (OK_some ⟨rfl, fun _ _ => rfl⟩)
  · rw [c, if_neg (fun z => (i32_neg (a := a) (by omega)).mp z)]
    by_cases d : 12 ≤ a
    · rw [if_pos (by rw [show (12 : Int32) = i32 12 from rfl, i32_le (by omega) (by omega)]; exact d)]
      exact OK_some ⟨rfl, fun _ _ => rfl⟩
    · rw [if_neg (by rw [show (12 : Int32) = i32 12 from rfl, i32_le (by omega) (by omega)]; exact d), wr_i32 (by omega) (by omega), Option.bind_some]
      exact OK_some ⟨rfl, fun p a => gIp (by omega)⟩
theorem c_closeX (S : Nat) (M : mM) : OK (f_Rule_closeClause S M) fun M' => FrOw S M M' := by
  unfold f_Rule_closeClause
  rcases i32_cases (M.2.1 S 5) with c | ⟨a, ha, c⟩
  · exact OK_pos c (OK_some ⟨rfl, fun _ _ => rfl⟩)
  · rw [c, if_neg (fun z => (i32_neg (a := a) (by omega)).mp z)]
    by_cases d : 12 ≤ a
    · rw [if_pos (by rw [show (12 : Int32) = i32 12 from rfl, i32_le (by omega) (by omega)]; exact d)]
      exact OK_some ⟨rfl, fun _ _ => rfl⟩
    · rw [if_neg (by rw [show (12 : Int32) = i32 12 from rfl, i32_le (by omega) (by omega)]; exact d), wr_i32 (by omega) (by omega), Option.bind_some, pI_s, Option.bind_some]
      exact OK_some ⟨rfl, fun p a => by rw [gIp (by omega), gIp (by omega)]⟩
/-- refused, over a wide frame -/
def BR (S : Nat) (t : Tp) (w : Nat) (M M' : mM) : Prop := CRf t w M' ∧ M'.2.2.2 12 1 = some S ∧ FrRr S M M'
theorem BR_O {S : Nat} (hS : 13 ≤ S) {t : Tp} {w : Nat} {M0 M M' : mM} (h : BR S t w M0 M) (e : FrOw S M M') : BR S t w M0 M' := ⟨CRf_X h.1 (e.2 1 (by omega)) (e.2 2 (by omega)), by rw [e.1]; exact h.2.1, FrRr_trans h.2.2 (FrOw_r hS e)⟩
theorem BR_B {S : Nat} {t : Tp} {w : Nat} {M0 M M' : mM} (h : FrRr S M0 M) (e : BS S t w M M') : BR S t w M0 M' := ⟨e.1, e.2.1, FrRr_trans h (FrRu_r e.2.2)⟩
theorem BR_nn {S : Nat} (hr : is_ru S) {t : Tp} {w : Nat} {M0 M : mM} (h : BR S t w M0 M) : nnl ruL (M.2.2.2 12 1) = some S := by rw [h.2.1]; exact nnl_s hr
theorem BR_stop {S : Nat} {t : Tp} {w : Nat} {M0 M : mM} (h : BR S t w M0 M) (f : Nat) (i : Int32) : OK (f_RuleReader_readRule_32 S (f + 1) 0 i M) fun z => FrRr S M0 z.2 ∧ z.1 = i32 w := by
  rw [f_RuleReader_readRule_32]
  unfold f_RuleReader_readRule_143
  by_cases c : 12 < i
  · rw [if_pos c]; exact OK_some ⟨h.2.2, h.1.2.1⟩
  · rw [if_neg c, if_pos rfl]; exact OK_some ⟨h.2.2, h.1.2.1⟩
theorem BR_122 {S : Nat} (hr : is_ru S) (hS : 13 ≤ S) {t : Tp} {w : Nat} {M0 M : mM} (h : BR S t w M0 M) (f : Nat) (i : Int32) : OK (f_RuleReader_readRule_122 S (f_RuleReader_readRule_32 S (f + 1)) i M) fun z => FrRr S M0 z.2 ∧ z.1 = i32 w := by
  unfold f_RuleReader_readRule_122
  rw [BR_nn hr h, Option.bind_some]
  refine OK_bind (c_closeX S M) fun M1 h1 => ?_
  have b1 := BR_O hS h h1
  rw [CRf_more b1.1, Option.bind_some]
  exact BR_stop b1 f _
theorem BR_80 {S : Nat} (hr : is_ru S) (hS : 13 ≤ S) {t : Tp} {w : Nat} {M0 M : mM} (h : BR S t w M0 M) (f : Nat) (i : Int32) : OK (f_RuleReader_readRule_80 S (f_RuleReader_readRule_32 S (f + 1)) i M) fun z => FrRr S M0 z.2 ∧ z.1 = i32 w := by
  unfold f_RuleReader_readRule_80
  rw [CRf_adv h.1, Option.bind_some, BR_nn hr h, Option.bind_some]
  refine OK_bind (c_openX S M) fun M1 h1 => ?_
  have b1 := BR_O hS h h1
  refine OK_bind (BS_sum hr hS (M0 := M1) ⟨b1.1, b1.2.1, FrRu_refl S M1⟩) fun M2 h2 => ?_
  have b2 := BR_B b1.2.2 h2
  rw [BR_nn hr b2, Option.bind_some]
  refine OK_bind (c_testX S M2) fun M3 h3 => ?_
  have b3 := BR_O hS b2 h3
  rw [CRf_tw b3.1, Option.bind_some, if_pos (show ((0 : Int32), M3).1 = 0 from rfl)]
  exact BR_122 hr hS b3 f i
theorem cel_det {enc : Oq → Int32} {F F' : Nat → Int32} : ∀ (l : List Oq) (o : Nat), cel enc l o F → cel enc l o F' → ∀ j, o ≤ j → j < o + l.length → F' j = F j
  | [], o, _, _, j, h1, h2 => by rw [List.length_nil] at h2; omega
  | x :: l, o, h, h', j, h1, h2 => by
    rw [List.length_cons] at h2
    by_cases c : j = o
    · rw [c, h.1, h'.1]
    · exact cel_det l (o + 1) h.2 h'.2 j (by omega) (by omega)
theorem lnR_app : ∀ (R Q : List Cl), lnR (R ++ Q) = lnR R + lnR Q
  | [], Q => (Nat.zero_add _).symm
  | k :: R, Q => by rw [List.cons_append, lnR, lnR, lnR_app R Q, Nat.add_assoc]
theorem ofc_app {S : Nat} {M : mM} : ∀ (R Q : List Cl) (i o : Nat), ofc S M R i o → ofc S M Q (i + R.length) (o + lnR R) → ofc S M (R ++ Q) i o
  | [], Q, i, o, _, h => h
  | k :: R, Q, i, o, ⟨h1, h2, h3, h4⟩, h => by
    refine ⟨h1, h2, h3, ofc_app R Q (i + 1) (o + lnC k) h4 ?_⟩
    rw [List.length_cons, lnR] at h
    rw [show i + 1 + R.length = i + (R.length + 1) by omega, show o + lnC k + lnR R = o + (lnC k + lnR R) by omega]
    exact h
/-- so many clauses read, the text at p -/
def CqR (S : Nat) (t : Tp) (p m : Nat) (R : List Cl) (l : List Oq) (M0 M : mM) : Prop := CTk t p M ∧ Pg S l M ∧ M.2.1 12 2 = i32 m ∧ M.2.2.2 12 1 = some S ∧ M.2.1 S 5 = i32 R.length ∧ ofc S M R 0 0 ∧ l.length = lnR R ∧ FrRr S M0 M
/-- a clause behind its go -/
def RsK (S : Nat) (t : Tp) (R : List Cl) (l : List Oq) (r : Except Nat (Cl × Nat × Nat)) (M0 M : mM) : Prop := match r with
  | .error w => BR S t w M0 M
  | .ok z => CqR S t z.2.1 z.2.2 (R ++ [z.1]) (l ++ z.1.1 ++ zl z.1.2) M0 M
theorem c_closing {S : Nat} (hr : is_ru S) (hS : 13 ≤ S) {t : Tp} {R : List Cl} {l s z : List Oq} {o : Option (List Oq)} (ho : zl o = z) {p m : Nat} {M0 M M2 M4 : mM} (hR : R.length < 12) (hl : l.length + s.length + z.length ≤ 400) (hM : CqR S t p m R l M0 M) {p4 m4 : Nat} (g : CTk t p4 M4 ∧ Pg S (l ++ s ++ z) M4 ∧ M4.2.1 12 2 = i32 m4 ∧ M4.2.2.2 12 1 = some S ∧ FrRr S M0 M4) (e5 : M4.2.1 S 5 = i32 R.length) (e2 : ∀ j, M4.2.1 (S + 2) j = if j = R.length then i32 l.length else M.2.1 (S + 2) j) (e3 : ∀ j, M4.2.1 (S + 3) j = if j = R.length then i32 (l.length + s.length) else M.2.1 (S + 3) j) (e4 : M4.2.1 (S + 4) = M.2.1 (S + 4)) : OK (f_Rule_closeClause S M4) fun M5 => CqR S t p4 m4 (R ++ [(s, o)]) (l ++ s ++ z) M0 M5 := by
  obtain ⟨q1, q2, q3, q4, q5, q6, q7, q8⟩ := hM
  obtain ⟨g1, g2, g3, g4, g5⟩ := g
  have hlz : (l ++ s ++ z).length = l.length + s.length + z.length := by rw [List.length_append, List.length_append]
  unfold f_Rule_closeClause
  rw [e5, if_neg (fun z => (i32_neg (a := R.length) (by omega)).mp z), if_neg (by rw [show (12 : Int32) = i32 12 from rfl, i32_le (by omega) (by omega)]; omega), wr_i32 hR (by omega), Option.bind_some, pI_s, Option.bind_some, gIp (by omega), e5, nadd_1, g2.1, hlz]
  obtain ⟨M5, hM5⟩ : ∃ M5, M5 = msI (msI M4 (S + 4) R.length (i32 (l.length + s.length + z.length))) S 5 (i32 (R.length + 1)) := ⟨_, rfl⟩
  rw [← hM5]
  have f5 : FrOw S M4 M5 := by rw [hM5]; exact ⟨rfl, fun p a => by rw [gIp (by omega), gIp (by omega)]⟩
  have x1 : M5.2.1 S 1 = M4.2.1 S 1 := by rw [hM5, gIo (by omega), gIp (by omega)]
  have x5 : M5.2.1 S 5 = i32 (R.length + 1) := by rw [hM5, gIe]
  have y1 : M5.2.1 (S + 1) = M4.2.1 (S + 1) := by rw [hM5, gIp (by omega), gIp (by omega)]
  have y2 : M5.2.1 (S + 2) = M4.2.1 (S + 2) := by rw [hM5, gIp (by omega), gIp (by omega)]
  have y3 : M5.2.1 (S + 3) = M4.2.1 (S + 3) := by rw [hM5, gIp (by omega), gIp (by omega)]
  have y4 : ∀ j, M5.2.1 (S + 4) j = if j = R.length then i32 (l.length + s.length + z.length) else M4.2.1 (S + 4) j := by
    intro j
    rw [hM5, gIp (by omega)]
    by_cases c : j = R.length
    · rw [if_pos c, c, gIe]
    · rw [if_neg c, gIo c]
  clear hM5
  have P5 : Pg S (l ++ s ++ z) M5 := Pg_of g2 x1 y1
  have hc := P5.2
  rw [cel_app, cel_app, Nat.zero_add, Nat.zero_add] at hc
  obtain ⟨⟨hc1, hc2⟩, hc3⟩ := hc
  refine OK_some ⟨CTk_X g1 (f5.2 1 (by omega)) (f5.2 2 (by omega)), P5, by rw [f5.2 12 (by omega)]; exact g3, by rw [f5.1]; exact g4, by rw [x5, List.length_append]; rfl, ?_, ?_, FrRr_trans g5 (FrOw_r hS f5)⟩
  · refine ofc_app R [(s, o)] 0 0 (ofc_of R 0 0 (fun j _ hj => ?_) (fun j _ hj => ?_) q6) ?_
    · have hj' : j ≠ R.length := by omega
      rw [y2, y3, y4, e2, e3, if_neg hj', if_neg hj', if_neg hj', e4]
      exact ⟨rfl, rfl, rfl⟩
    · exact cel_det l 0 q2.2 hc1 j (Nat.zero_le _) (by omega)
    · rw [Nat.zero_add, Nat.zero_add, ← q7]
      refine ⟨⟨?_, ?_, ?_⟩, hc2, ?_, True.intro⟩
      · rw [y2, e2, if_pos rfl]
      · rw [y3, e3, if_pos rfl]
      · rw [y4, if_pos rfl]; show _ = i32 (l.length + s.length + (zl o).length); rw [ho]
      · show cel cE (zl o) (l.length + s.length) _
        rw [ho, ← List.length_append]
        exact hc3
  · rw [hlz, lnR_app, ← q7]
    show _ = l.length + (s.length + (zl o).length + 0)
    rw [ho]
    omega
theorem c_clause {S : Nat} (hr : is_ru S) (hS : 13 ≤ S) {t : Tp} (ht : t.1 ≤ 400) {R : List Cl} {l : List Oq} {p m : Nat} {M0 M : mM} (hR : R.length < 12) (hp : p ≤ t.1) (hm : m ≤ 60) (hl : l.length ≤ p) (h : CqR S t p m R l M0 M) (k32 : Int32 → Int32 → mM → Option (Int32 × mM)) (i : Int32) {Q : Int32 × mM → Prop} (hG : ∀ z M5, sCls t p m = .ok z → CqR S t z.2.1 z.2.2 (R ++ [z.1]) (l ++ z.1.1 ++ zl z.1.2) M0 M5 → OK ((f_Text_takeMore M5).bind fun r21 => k32 r21.1 (i + 1) r21.2) Q) (hB : ∀ w M5, sCls t p m = .error w → BR S t w M0 M5 → OK (f_RuleReader_readRule_122 S k32 i M5) Q) (hBt : ∀ w M5, sCls t p m = .error w → BR S t w M0 M5 → OK ((f_Rule_openTest S M5).bind fun M16 => (f_Text_takeWord 4 M16).bind fun r17 => if r17.1 = 0 then f_RuleReader_readRule_122 S k32 i r17.2 else (f_RuleReader_readTest 40 0 r17.2).bind fun M22 => f_RuleReader_readRule_122 S k32 i M22) Q) : OK ((f_Rule_openClause S M).bind fun M13 => (f_RuleReader_readSum M13).bind fun M14 => (nnl ruL (M14.2.2.2 12 1)).bind fun y15 => (f_Rule_openTest y15 M14).bind fun M16 => (f_Text_takeWord 4 M16).bind fun r17 => if r17.1 = 0 then f_RuleReader_readRule_122 S k32 i r17.2 else (f_RuleReader_readTest 40 0 r17.2).bind fun M22 => f_RuleReader_readRule_122 S k32 i M22) Q := by
  obtain ⟨q1, q2, q3, q4, q5, q6, q7, q8⟩ := id h
  have eo : f_Rule_openClause S M = some (msI M (S + 2) R.length (i32 l.length)) := by
    unfold f_Rule_openClause
    rw [q5, if_neg (fun z => (i32_neg (a := R.length) (by omega)).mp z), if_neg (by rw [show (12 : Int32) = i32 12 from rfl, i32_le (by omega) (by omega)]; omega), wr_i32 hR (by omega), Option.bind_some, q2.1]
  rw [eo, Option.bind_some]
  obtain ⟨M1, hM1⟩ : ∃ M1, M1 = msI M (S + 2) R.length (i32 l.length) := ⟨_, rfl⟩
  rw [← hM1]
  have fo1 : FrOw S M M1 := by rw [hM1]; exact ⟨rfl, fun p a => gIp (by omega)⟩
  have a0 : M1.2.1 S = M.2.1 S := by rw [hM1, gIp (by omega)]
  have a1 : M1.2.1 (S + 1) = M.2.1 (S + 1) := by rw [hM1, gIp (by omega)]
  have a2 : ∀ j, M1.2.1 (S + 2) j = if j = R.length then i32 l.length else M.2.1 (S + 2) j := by
    intro j
    by_cases c : j = R.length
    · rw [if_pos c, c, hM1, gIe]
    · rw [if_neg c, hM1, gIo c]
  have a3 : M1.2.1 (S + 3) = M.2.1 (S + 3) := by rw [hM1, gIp (by omega)]
  have a4 : M1.2.1 (S + 4) = M.2.1 (S + 4) := by rw [hM1, gIp (by omega)]
  clear hM1 eo
  have G1 : GS S t p m l M1 M1 := ⟨CTk_X q1 (fo1.2 1 (by omega)) (fo1.2 2 (by omega)), Pg_of q2 (by rw [a0]) a1, by rw [fo1.2 12 (by omega)]; exact q3, by rw [fo1.1]; exact q4, FrRu_refl S M1⟩
  have fr1 : FrRr S M0 M1 := FrRr_trans q8 (FrOw_r hS fo1)
  refine OK_bind (c_sum hr hS ht hp hm hl G1) fun M2 h2 => ?_
  cases es : sSum t p m with
  | error w =>
    rw [es] at h2
    have h2 : BS S t w M1 M2 := h2
    have er : sCls t p m = .error w := by unfold sCls; rw [es, ebd_e]
    rw [BS_nn hr h2, Option.bind_some]
    exact hBt w M2 er (BR_B fr1 h2)
  | ok s =>
    obtain ⟨s, p2, m2⟩ := s
    rw [es] at h2
    have h2 : GS S t p2 m2 (l ++ s) M1 M2 := h2
    obtain ⟨⟨b1, b2, b3, b4, b5⟩, b6⟩ := sSum_ok (b := l.length) (c := 0) hl (Nat.zero_le _) es
    have b2 : l.length + s.length ≤ p2 := b2
    have b4 : m2 ≤ 60 := b4
    have b5 : p2 ≤ t.1 := b5
    have f2 := h2.2.2.2.2
    have n5 : M2.2.1 S 5 = i32 R.length := by rw [f2.2.2.1 5 (by omega), a0]; exact q5
    have n2 : M2.2.1 (S + 2) = M1.2.1 (S + 2) := f2.2.1 _ (by omega) (by omega) (by omega) (by omega)
    have n3 : M2.2.1 (S + 3) = M.2.1 (S + 3) := (f2.2.1 _ (by omega) (by omega) (by omega) (by omega)).trans a3
    have n4 : M2.2.1 (S + 4) = M.2.1 (S + 4) := (f2.2.1 _ (by omega) (by omega) (by omega) (by omega)).trans a4
    rw [GS_nn hr h2, Option.bind_some]
    have et : f_Rule_openTest S M2 = some (msI M2 (S + 3) R.length (i32 (l.length + s.length))) := by
      unfold f_Rule_openTest
      rw [n5, if_neg (fun z => (i32_neg (a := R.length) (by omega)).mp z), if_neg (by rw [show (12 : Int32) = i32 12 from rfl, i32_le (by omega) (by omega)]; omega), wr_i32 hR (by omega), Option.bind_some, h2.2.1.1, List.length_append]
    rw [et, Option.bind_some]
    obtain ⟨M3, hM3⟩ : ∃ M3, M3 = msI M2 (S + 3) R.length (i32 (l.length + s.length)) := ⟨_, rfl⟩
    rw [← hM3]
    have fo3 : FrOw S M2 M3 := by rw [hM3]; exact ⟨rfl, fun p a => gIp (by omega)⟩
    have d0 : M3.2.1 S = M2.2.1 S := by rw [hM3, gIp (by omega)]
    have d1 : M3.2.1 (S + 1) = M2.2.1 (S + 1) := by rw [hM3, gIp (by omega)]
    have d2 : ∀ j, M3.2.1 (S + 2) j = if j = R.length then i32 l.length else M.2.1 (S + 2) j := by intro j; rw [hM3, gIp (by omega), n2]; exact a2 j
    have d3 : ∀ j, M3.2.1 (S + 3) j = if j = R.length then i32 (l.length + s.length) else M.2.1 (S + 3) j := by
      intro j
      by_cases c : j = R.length
      · rw [if_pos c, c, hM3, gIe]
      · rw [if_neg c, hM3, gIo c, n3]
    have d4 : M3.2.1 (S + 4) = M.2.1 (S + 4) := by rw [hM3, gIp (by omega), n4]
    clear hM3 et
    have fr3 : FrRr S M0 M3 := FrRr_trans fr1 (FrRr_trans (FrRu_r f2) (FrOw_r hS fo3))
    have T3 : CTk t p2 M3 := CTk_X h2.1 (fo3.2 1 (by omega)) (fo3.2 2 (by omega))
    have P3 : Pg S (l ++ s) M3 := Pg_of h2.2.1 (by rw [d0]) d1
    have m3 : M3.2.1 12 2 = i32 m2 := by rw [fo3.2 12 (by omega)]; exact h2.2.2.1
    have r3 : M3.2.2.2 12 1 = some S := by rw [fo3.1]; exact h2.2.2.2.1
    have n5' : M3.2.1 S 5 = i32 R.length := by rw [d0]; exact n5
    by_cases w : isw t 4 p2 = -1
    · have er : sCls t p m = .ok ((s, none), p2, m2) := by
        unfold sCls
        rw [es, ebd_o]
        exact if_pos w
      rw [c_take0 ht (by omega) b5 T3 w, Option.bind_some, if_pos (show ((0 : Int32), M3).1 = 0 from rfl)]
      unfold f_RuleReader_readRule_122
      rw [r3, nnl_s hr, Option.bind_some]
      refine OK_bind (c_closing hr hS (R := R) (l := l) (s := s) (z := []) (o := none) rfl (M2 := M3) hR (by show _ + 0 ≤ 400; omega) h (p4 := p2) (m4 := m2) ⟨T3, by rw [List.append_nil]; exact P3, m3, r3, fr3⟩ n5' d2 d3 d4) fun M5 h5 => ?_
      exact hG _ M5 er h5
    · have hn := isw_gt (by omega) w
      have er : sCls t p m = ebd (sTst t (sFct t 11 0) (nxp t p2) m2) fun z => .ok ((s, some z.1), z.2.1, z.2.2) := by
        unfold sCls
        rw [es, ebd_o]
        exact if_neg w
      refine OK_bind (c_take1 ht (by omega) b5 T3 w) fun z4 h4 => ?_
      rw [h4.1, if_neg (by decide)]
      have e4' := h4.2.2
      have G4 : GS S t (nxp t p2) m2 (l ++ s) z4.2 z4.2 := ⟨h4.2.1, Pg_X hS P3 e4', by rw [e4'.2.1 12 (by omega)]; exact m3, by rw [e4'.1]; exact r3, FrRu_refl S _⟩
      have fr4 : FrRr S M0 z4.2 := FrRr_trans fr3 (FrX_r e4')
      have hd : f_RuleReader_readTest 40 0 z4.2 = f_RuleReader_readTest_b (f_rec 39).1 (f_rec 39).2 0 z4.2 := rfl
      rw [hd]
      refine OK_bind (c_test hr hS ht (c_fact hr hS ht 11 39 0 (by omega) (by omega) (by omega)) (sFct_ok 11 0) hn.2 b4 (by rw [List.length_append]; omega) G4) fun M5 h5 => ?_
      cases ez : sTst t (sFct t 11 0) (nxp t p2) m2 with
      | error w' =>
        rw [ez] at h5
        rw [ez, ebd_e] at er
        exact hB w' M5 er (BR_B fr4 h5)
      | ok z =>
        obtain ⟨z, p5, m5⟩ := z
        rw [ez] at h5
        rw [ez, ebd_o] at er
        have h5 : GS S t p5 m5 (l ++ s ++ z) z4.2 M5 := h5
        obtain ⟨⟨c1, c2, c3, c4, c5⟩, c6, c7⟩ := sTst_ok (sFct_ok 11 0) (b := l.length + s.length) (c := 0) (by omega) (Nat.zero_le _) ez
        have c2 : l.length + s.length + z.length ≤ p5 := c2
        have c5 : p5 ≤ t.1 := c5
        have f5 := h5.2.2.2.2
        unfold f_RuleReader_readRule_122
        rw [GS_nn hr h5, Option.bind_some]
        refine OK_bind (c_closing hr hS (R := R) (l := l) (s := s) (z := z) (o := some z) rfl (M2 := M3) hR (by omega) h (p4 := p5) (m4 := m5) ⟨h5.1, h5.2.1, h5.2.2.1, h5.2.2.2.1, FrRr_trans fr4 (FrRu_r f5)⟩ ?_ (fun j => ?_) (fun j => ?_) ?_) fun M6 h6 => ?_
        · rw [f5.2.2.1 5 (by omega), e4'.2.1 S (by omega)]; exact n5'
        · rw [f5.2.1 (S + 2) (by omega) (by omega) (by omega) (by omega), e4'.2.1 (S + 2) (by omega)]; exact d2 j
        · rw [f5.2.1 (S + 3) (by omega) (by omega) (by omega) (by omega), e4'.2.1 (S + 3) (by omega)]; exact d3 j
        · rw [f5.2.1 (S + 4) (by omega) (by omega) (by omega) (by omega), e4'.2.1 (S + 4) (by omega)]; exact d4
        · exact hG _ M6 er h6
