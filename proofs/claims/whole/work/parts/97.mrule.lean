/-! ===== a rule is read: the model, clauses ===== -/
def FrMr (x : Nat) (M M' : mM) : Prop := M'.2.2 = M.2.2 ∧ (∀ p, p ≠ 436 → p ≠ 438 → p ≠ 439 → p ≠ 440 → p ≠ 441 → p ≠ 443 → M'.2.1 p = M.2.1 p) ∧ (∀ i, i ≠ 8 → i ≠ 9 → i ≠ 10 → i ≠ 12 → i ≠ 13 → i ≠ 14 → i ≠ 16 → M'.2.1 436 i = M.2.1 436 i) ∧ (∀ j, j < 400 * x ∨ 400 * x + 400 ≤ j → M'.2.1 438 j = M.2.1 438 j) ∧ (∀ j, j < 48 * x ∨ 48 * x + 48 ≤ j → M'.2.1 440 j = M.2.1 440 j) ∧ ∀ j, j ≠ x → M'.2.1 441 j = M.2.1 441 j
theorem FrMr_refl (x : Nat) (M : mM) : FrMr x M M := ⟨rfl, fun _ _ _ _ _ _ _ => rfl, fun _ _ _ _ _ _ _ _ => rfl, fun _ _ => rfl, fun _ _ => rfl, fun _ _ => rfl⟩
theorem FrMr_trans {x : Nat} {M M' M'' : mM} (h : FrMr x M M') (h' : FrMr x M' M'') : FrMr x M M'' := ⟨h'.1.trans h.1, fun p a b c d e f => (h'.2.1 p a b c d e f).trans (h.2.1 p a b c d e f), fun i a b c d e f g => (h'.2.2.1 i a b c d e f g).trans (h.2.2.1 i a b c d e f g), fun j a => (h'.2.2.2.1 j a).trans (h.2.2.2.1 j a), fun j a => (h'.2.2.2.2.1 j a).trans (h.2.2.2.2.1 j a), fun j a => (h'.2.2.2.2.2 j a).trans (h.2.2.2.2.2 j a)⟩
theorem FrMt_r {x : Nat} {M M' : mM} (h : FrMt x M M') : FrMr x M M' := ⟨h.1, fun p a b c _ _ d => h.2.1 p a b c d, fun i a b c d e _ f => h.2.2.1 i a b c d e f, h.2.2.2.1, fun j _ => by rw [h.2.1 440 (by omega) (by omega) (by omega) (by omega)], fun j _ => by rw [h.2.1 441 (by omega) (by omega) (by omega) (by omega)]⟩
theorem Fr8_r {x : Nat} {M M' : mM} (h : Fr8 M M') : FrMr x M M' := FrMt_r (FrMs_t (Fr8_Ms h))
theorem FrMr_440 {x : Nat} {M : mM} {a : Nat} {v : Int32} (h : 48 * x ≤ a ∧ a < 48 * x + 48) : FrMr x M (msI M 440 a v) := ⟨rfl, fun p _ _ _ b _ _ => gIp b, fun i _ _ _ _ _ _ _ => by rw [gIp (by omega)], fun j _ => by rw [gIp (by omega)], fun j _ => gIo (by omega), fun j _ => by rw [gIp (by omega)]⟩
/-- a write into the clauses leaves the reading as it was -/
theorem GM_440 {x : Nat} {t : Tp} {p m : Nat} {l : List Oq} {M0 M : mM} {a : Nat} {v : Int32} (h : GM x t p m l M0 M) : GM x t p m l (msI M 440 a v) (msI M 440 a v) := by
  obtain ⟨g1, g2, g3, g4, g5⟩ := h
  have e : ∀ q, q ≠ 440 → (msI M 440 a v).2.1 q = M.2.1 q := fun q hq => gIp hq
  have key : ∀ q', MTk t q' M → MTk t q' (msI M 440 a v) := fun q' y => by
    unfold MTk MP
    rw [e 436 (by omega), e 437 (by omega)]
    exact y
  refine ⟨?_, ⟨by rw [e 439 (by omega)]; exact g2.1, by rw [e 438 (by omega)]; exact g2.2⟩, by rw [e 436 (by omega)]; exact g3, by rw [e 436 (by omega)]; exact g4, FrMs_refl x _⟩
  rcases g1 with g1 | g1
  · exact Or.inl (key _ g1)
  · exact Or.inr (key _ g1)
theorem ofm_app {x : Nat} {M : mM} : ∀ (R Q : List Cl) (i o : Nat), ofm x M R i o → ofm x M Q (i + R.length) (o + lnR R) → ofm x M (R ++ Q) i o
  | [], Q, i, o, _, h => h
  | k :: R, Q, i, o, ⟨h1, h2, h3, h4⟩, h => by
    refine ⟨h1, h2, h3, ofm_app R Q (i + 1) (o + lnC k) h4 ?_⟩
    rw [List.length_cons, lnR] at h
    rw [show i + 1 + R.length = i + (R.length + 1) by omega, show o + lnC k + lnR R = o + (lnC k + lnR R) by omega]
    exact h
/-- so many clauses read, the text at p -/
def CqM (x : Nat) (t : Tp) (p m : Nat) (R : List Cl) (l : List Oq) (M0 M : mM) : Prop := MTs t p M ∧ Qg x l M ∧ M.2.1 436 12 = i32 m ∧ M.2.1 436 11 = i32 x ∧ M.2.1 441 x = i32 R.length ∧ ofm x M R 0 0 ∧ l.length = lnR R ∧ FrMr x M0 M
theorem m_closing {x : Nat} (hx : x < 6) {t : Tp} {R : List Cl} {l s z : List Oq} {o : Option (List Oq)} (ho : zl o = z) {p m : Nat} {M0 M M6 : mM} (hR : R.length < 12) (hl : l.length + s.length + z.length ≤ 400) (hM : CqM x t p m R l M0 M) {p4 m4 : Nat} (g : MTs t p4 M6 ∧ Qg x (l ++ s ++ z) M6 ∧ M6.2.1 436 12 = i32 m4 ∧ M6.2.1 436 11 = i32 x ∧ FrMr x M0 M6) (e5 : M6.2.1 441 x = i32 R.length) (e4 : ∀ j, M6.2.1 440 j = if j = 48 * x + 4 * R.length then i32 l.length else if j = 48 * x + 4 * R.length + 1 then i32 (l.length + s.length) else if j = 48 * x + 4 * R.length + 2 then obd o (-1) (fun _ => i32 (l.length + s.length)) else M.2.1 440 j) : OK (f_Model_isGoHere_110 (i32 (48 * x + 4 * R.length)) M6) fun y => y.1 = 1 ∧ CqM x t p4 m4 (R ++ [(s, o)]) (l ++ s ++ z) M0 y.2 ∧ y.2.2.1 436 14 = M6.2.1 436 14 := by
  obtain ⟨q1, q2, q3, q4, q5, q6, q7, q8⟩ := hM
  obtain ⟨g1, g2, g3, g4, g5⟩ := g
  have hlz : (l ++ s ++ z).length = l.length + s.length + z.length := by rw [List.length_append, List.length_append]
  unfold f_Model_isGoHere_110
  rw [g4, rd_i32 (by omega) (by omega), Option.bind_some, g2.1, hlz, nadd_3, wr_i32 (by omega) (by omega), Option.bind_some, gIp (show 436 ≠ 440 by omega), g4, rd_i32 (by omega) (by omega), Option.bind_some, gIp (show 441 ≠ 440 by omega), e5, nadd_1, wr_i32 (by omega) (by omega), Option.bind_some]
  obtain ⟨M7, hM7⟩ : ∃ M7, M7 = msI (msI M6 440 (48 * x + 4 * R.length + 3) (i32 (l.length + s.length + z.length))) 441 x (i32 (R.length + 1)) := ⟨_, rfl⟩
  rw [← hM7]
  have f7 : FrMr x M6 M7 := by
    rw [hM7]
    refine FrMr_trans (FrMr_440 (by omega)) ⟨rfl, fun p _ _ _ _ b _ => gIp b, fun i _ _ _ _ _ _ _ => by rw [gIp (by omega)], fun j _ => by rw [gIp (by omega)], fun j _ => by rw [gIp (by omega)], fun j hj => gIo hj⟩
  have x36 : M7.2.1 436 = M6.2.1 436 := by rw [hM7, gIp (by omega), gIp (by omega)]
  have x37 : M7.2.1 437 = M6.2.1 437 := by rw [hM7, gIp (by omega), gIp (by omega)]
  have x38 : M7.2.1 438 = M6.2.1 438 := by rw [hM7, gIp (by omega), gIp (by omega)]
  have x39 : M7.2.1 439 = M6.2.1 439 := by rw [hM7, gIp (by omega), gIp (by omega)]
  have x41 : M7.2.1 441 x = i32 (R.length + 1) := by rw [hM7, gIe]
  have x40 : ∀ j, M7.2.1 440 j = if j = 48 * x + 4 * R.length + 3 then i32 (l.length + s.length + z.length) else M6.2.1 440 j := by
    intro j
    rw [hM7, gIp (by omega)]
    by_cases c : j = 48 * x + 4 * R.length + 3
    · rw [if_pos c, c, gIe]
    · rw [if_neg c, gIo c]
  clear hM7
  have P7 : Qg x (l ++ s ++ z) M7 := ⟨by rw [x39]; exact g2.1, by rw [x38]; exact g2.2⟩
  have hc := P7.2
  rw [cel_app, cel_app] at hc
  obtain ⟨⟨hc1, hc2⟩, hc3⟩ := hc
  have key : ∀ q', MTk t q' M6 → MTk t q' M7 := fun q' y => by
    unfold MTk MP
    rw [x36, x37]
    exact y
  refine OK_some ⟨rfl, ⟨?_, P7, by rw [x36]; exact g3, by rw [x36]; exact g4, by rw [x41, List.length_append]; rfl, ?_, ?_, FrMr_trans g5 f7⟩, by rw [x36]⟩
  · rcases g1 with g1 | g1
    · exact Or.inl (key _ g1)
    · exact Or.inr (key _ g1)
  · refine ofm_app R [(s, o)] 0 0 (ofm_of R 0 0 (fun j _ hj => ?_) (fun j _ hj => ?_) q6) ?_
    · rw [x40, if_neg (by omega), e4, if_neg (by omega), if_neg (by omega), if_neg (by omega)]
    · exact cel_det l (400 * x) q2.2 hc1 _ (by omega) (by omega)
    · rw [Nat.zero_add, Nat.zero_add, ← q7]
      refine ⟨⟨?_, ?_, ?_, ?_⟩, hc2, ?_, True.intro⟩
      · rw [x40, if_neg (by omega), e4, if_pos rfl]
      · rw [x40, if_neg (by omega), e4, if_neg (by omega), if_pos rfl]
      · rw [x40, if_neg (by omega), e4, if_neg (by omega), if_neg (by omega), if_pos rfl]
      · rw [x40, if_pos rfl]; show _ = i32 (l.length + s.length + (zl o).length); rw [ho]
      · show cel mE (zl o) (400 * x + (l.length + s.length)) _
        rw [ho]
        rw [List.length_append] at hc3
        exact hc3
  · rw [hlz, lnR_app, ← q7]
    show _ = l.length + (s.length + (zl o).length + 0)
    rw [ho]
    omega
theorem m_takesS {t : Tp} (ht : t.1 ≤ 400) {b p : Nat} (hb : b < 8) {M : mM} {W : Int64} (h : MTs t p M) (w : List Int32) (hw : pk w 0 = W ∧ w ≠ [] ∧ w.length < 8 ∧ ∀ c, c ∈ w → isA c = true) (hwl : wl b = [w]) : OK (f_Model_takesWord W M) fun z => Fr8 M z.2 ∧ (isw t b p = -1 → z.1 = 0 ∧ MTs t p z.2) ∧ (¬ isw t b p = -1 → z.1 = 1 ∧ MTs t (nxp t p) z.2) := by
  have he := isw1w_eq t b p w hwl
  unfold f_Model_takesWord
  refine OK_bind (m_isWordS ht h w hw) fun z1 h1 => ?_
  obtain ⟨v1, m1, f1⟩ := h1
  cases e : eqF t (wdE t (skp t p)) (skp t p) w with
  | false =>
    rw [e, if_neg Bool.false_ne_true] at he
    rw [v1, e, if_pos (show e01 false = 0 from rfl)]
    exact OK_some ⟨f1, fun _ => ⟨rfl, Or.inr m1⟩, fun z => absurd he z⟩
  | true =>
    rw [e, if_pos rfl] at he
    have wn : ¬ isw t b p = -1 := by rw [he]; decide
    rw [v1, e, if_neg (show ¬ e01 true = 0 by decide)]
    refine OK_bind (m_passWord ht m1) fun M3 h3 => ?_
    rw [← nxp_w (t := t) (b := b) hb wn] at h3
    exact OK_some ⟨Fr8_trans f1 h3.2, fun z => absurd z wn, fun _ => ⟨rfl, Or.inl h3.1⟩⟩
def BRm (x : Nat) (t : Tp) (w : Nat) (M0 : mM) (z : Int32 × mM) : Prop := z.1 = 0 ∧ MRf t w z.2 ∧ FrMr x M0 z.2
/-- a clause read -/
def RsKm (x : Nat) (t : Tp) (R : List Cl) (l : List Oq) (M0 : mM) (n : Int32) (r : Except Nat (Cl × Nat × Nat)) (z : Int32 × mM) : Prop := match r with
  | .error w => BRm x t w M0 z
  | .ok q => z.1 = 1 ∧ CqM x t q.2.1 q.2.2 (R ++ [q.1]) (l ++ q.1.1 ++ zl q.1.2) M0 z.2 ∧ z.2.2.1 436 14 = n
theorem m_go {x : Nat} (hx : x < 6) {t : Tp} (ht : t.1 ≤ 400) (hT : OKT t) {R : List Cl} {l : List Oq} {p m : Nat} {M0 M : mM} (hR : R.length < 12) (hp : p ≤ t.1) (hm : m ≤ 60) (hl : l.length ≤ p) (w2 : ¬ isw t 2 p = -1) (hk : MTk t (skp t p) M) (h : CqM x t p m R l M0 M) : OK (f_Model_isGoHere M) fun z => RsKm x t R l M0 (M.2.1 436 14) (sCls t (nxp t p) m) z := by
  have hn := isw_gt (by omega) w2
  unfold f_Model_isGoHere
  refine OK_bind (m_passWord ht hk) fun M1 h1 => ?_
  obtain ⟨m1, f1⟩ := h1
  rw [← nxp_w (t := t) (b := 2) (by omega) w2] at m1
  obtain ⟨q1, q2, q3, q4, q5, q6, q7, q8⟩ := id h
  have e4 : M1.2.1 436 11 = i32 x := by rw [f1.2.2 11 (by omega)]; exact q4
  have e41 : M1.2.1 441 x = i32 R.length := by rw [f1.2.1 441 (by omega)]; exact q5
  have e39 : M1.2.1 439 x = i32 l.length := by rw [f1.2.1 439 (by omega)]; exact q2.1
  have eix : (48 : Int32) * i32 x + 4 * i32 R.length = i32 (48 * x + 4 * R.length) := by
    rw [show (48 : Int32) * i32 x = i32 (48 * x) from i32_mul 48 x, show (4 : Int32) * i32 R.length = i32 (4 * R.length) from i32_mul 4 _, i32_add]
  rw [e4, rd_i32 (by omega) (by omega), Option.bind_some, rd_i32 (by omega) (by omega), Option.bind_some, e41, e39, eix, wr_i32 (by omega) (by omega), Option.bind_some]
  have g1 : GM x t (nxp t p) m l M1 M1 := ⟨Or.inl m1, ⟨e39, by rw [f1.2.1 438 (by omega)]; exact q2.2⟩, by rw [f1.2.2 12 (by omega)]; exact q3, e4, FrMs_refl x M1⟩
  have g4 := GM_440 (a := 48 * x + 4 * R.length) (v := i32 l.length) g1
  have n4 : ∀ j, (msI M1 440 (48 * x + 4 * R.length) (i32 l.length)).2.1 440 j = if j = 48 * x + 4 * R.length then i32 l.length else M.2.1 440 j := by
    intro j
    by_cases c : j = 48 * x + 4 * R.length
    · rw [if_pos c, c, gIe]
    · rw [if_neg c, gIo c, f1.2.1 440 (by omega)]
  have n41 : (msI M1 440 (48 * x + 4 * R.length) (i32 l.length)).2.1 441 x = i32 R.length := by rw [gIp (by omega)]; exact e41
  have n14 : (msI M1 440 (48 * x + 4 * R.length) (i32 l.length)).2.1 436 14 = M.2.1 436 14 := by rw [gIp (by omega), f1.2.2 14 (by omega)]
  have fr4 : FrMr x M0 (msI M1 440 (48 * x + 4 * R.length) (i32 l.length)) := FrMr_trans q8 (FrMr_trans (Fr8_r f1) (FrMr_440 (by omega)))
  obtain ⟨M4, hM4⟩ : ∃ M4, M4 = msI M1 440 (48 * x + 4 * R.length) (i32 l.length) := ⟨_, rfl⟩
  rw [← hM4] at g4 n4 n41 n14 fr4 ⊢
  clear hM4
  refine OK_bind (m_sum hx ht hT hn.2 hm (by omega) g4) fun z5 h5 => ?_
  cases es : sSum t (nxp t p) m with
  | error w =>
    rw [es] at h5
    have h5 : BM x t w M4 z5 := h5
    have er : sCls t (nxp t p) m = .error w := by unfold sCls; rw [es, ebd_e]
    rw [h5.1, if_pos rfl, er]
    exact OK_some ⟨rfl, h5.2.1, FrMr_trans fr4 (FrMt_r (FrMs_t h5.2.2))⟩
  | ok s =>
    obtain ⟨s, p2, m2⟩ := s
    rw [es] at h5
    obtain ⟨h51, h52⟩ := h5
    have h52 : GM x t p2 m2 (l ++ s) M4 z5.2 := h52
    obtain ⟨⟨b1, b2, b3, b4, b5⟩, b6⟩ := sSum_ok (b := l.length) (c := 0) (by omega) (Nat.zero_le _) es
    have b2 : l.length + s.length ≤ p2 := b2
    have b4 : m2 ≤ 60 := b4
    have b5 : p2 ≤ t.1 := b5
    have f5 := h52.2.2.2.2
    rw [h51, if_neg (by decide), h52.2.2.2.1, rd_i32 (by omega) (by omega), Option.bind_some, h52.2.1.1, List.length_append, nadd_1, wr_i32 (by omega) (by omega), Option.bind_some, nadd_2, wr_i32 (by omega) (by omega), Option.bind_some]
    have g8 := GM_440 (a := 48 * x + 4 * R.length + 1) (v := i32 (l.length + s.length)) h52
    have g9 := GM_440 (a := 48 * x + 4 * R.length + 2) (v := -1) g8
    have k9 : ∀ j, (msI (msI z5.2 440 (48 * x + 4 * R.length + 1) (i32 (l.length + s.length))) 440 (48 * x + 4 * R.length + 2) (-1)).2.1 440 j = if j = 48 * x + 4 * R.length then i32 l.length else if j = 48 * x + 4 * R.length + 1 then i32 (l.length + s.length) else if j = 48 * x + 4 * R.length + 2 then -1 else M.2.1 440 j := by
      intro j
      by_cases c2 : j = 48 * x + 4 * R.length + 2
      · rw [c2, gIe, if_neg (by omega), if_neg (by omega), if_pos rfl]
      · rw [gIo c2]
        by_cases c1 : j = 48 * x + 4 * R.length + 1
        · rw [c1, gIe, if_neg (by omega), if_pos rfl]
        · rw [gIo c1, f5.2.1 440 (by omega) (by omega) (by omega), n4, if_neg c1, if_neg c2]
    have k41 : (msI (msI z5.2 440 (48 * x + 4 * R.length + 1) (i32 (l.length + s.length))) 440 (48 * x + 4 * R.length + 2) (-1)).2.1 441 x = i32 R.length := by rw [gIp (by omega), gIp (by omega), f5.2.1 441 (by omega) (by omega) (by omega)]; exact n41
    have k14 : (msI (msI z5.2 440 (48 * x + 4 * R.length + 1) (i32 (l.length + s.length))) 440 (48 * x + 4 * R.length + 2) (-1)).2.1 436 14 = M.2.1 436 14 := by rw [gIp (by omega), gIp (by omega), f5.2.2.1 14 (by omega) (by omega) (by omega) (by omega)]; exact n14
    have fr9 : FrMr x M0 (msI (msI z5.2 440 (48 * x + 4 * R.length + 1) (i32 (l.length + s.length))) 440 (48 * x + 4 * R.length + 2) (-1)) := FrMr_trans fr4 (FrMr_trans (FrMt_r (FrMs_t f5)) (FrMr_trans (FrMr_440 (by omega)) (FrMr_440 (by omega))))
    obtain ⟨M9, hM9⟩ : ∃ M9, M9 = msI (msI z5.2 440 (48 * x + 4 * R.length + 1) (i32 (l.length + s.length))) 440 (48 * x + 4 * R.length + 2) (-1) := ⟨_, rfl⟩
    rw [← hM9] at g9 k9 k41 k14 fr9 ⊢
    clear hM9
    refine OK_bind (m_takesS ht (b := 4) (by omega) g9.1 w_if pw_if rfl) fun z10 h10 => ?_
    obtain ⟨f10, t0, t1⟩ := h10
    by_cases w : isw t 4 p2 = -1
    · have er : sCls t (nxp t p) m = .ok ((s, none), p2, m2) := by
        unfold sCls
        rw [es, ebd_o]
        exact if_pos w
      obtain ⟨u1, u2⟩ := t0 w
      have g10 := GM_8 g9 u2 f10
      rw [u1, if_pos rfl, er]
      refine OK_imp (m_closing hx (R := R) (l := l) (s := s) (z := []) (o := none) rfl hR (by show _ + 0 ≤ 400; omega) h (p4 := p2) (m4 := m2) ⟨u2, by rw [List.append_nil]; exact g10.2.1, g10.2.2.1, g10.2.2.2.1, FrMr_trans fr9 (Fr8_r f10)⟩ (by rw [f10.2.1 441 (by omega)]; exact k41) (fun j => by rw [f10.2.1 440 (by omega)]; exact k9 j)) fun y hy => ⟨hy.1, hy.2.1, ?_⟩
      rw [hy.2.2, f10.2.2 14 (by omega)]
      exact k14
    · have hn2 := isw_gt (by omega) w
      have er : sCls t (nxp t p) m = ebd (sTst t (sFct t 11 0) (nxp t p2) m2) fun z => .ok ((s, some z.1), z.2.1, z.2.2) := by
        unfold sCls
        rw [es, ebd_o]
        exact if_neg w
      obtain ⟨u1, u2⟩ := t1 w
      have g10 := GM_8 g9 u2 f10
      rw [u1, if_neg (by decide), g10.2.2.2.1, rd_i32 (by omega) (by omega), Option.bind_some, g10.2.1.1, List.length_append, wr_i32 (by omega) (by omega), Option.bind_some]
      have g17 := GM_440 (a := 48 * x + 4 * R.length + 2) (v := i32 (l.length + s.length)) g10
      have j17 : ∀ j, (msI z10.2 440 (48 * x + 4 * R.length + 2) (i32 (l.length + s.length))).2.1 440 j = if j = 48 * x + 4 * R.length then i32 l.length else if j = 48 * x + 4 * R.length + 1 then i32 (l.length + s.length) else if j = 48 * x + 4 * R.length + 2 then i32 (l.length + s.length) else M.2.1 440 j := by
        intro j
        by_cases c2 : j = 48 * x + 4 * R.length + 2
        · rw [c2, gIe, if_neg (by omega), if_neg (by omega), if_pos rfl]
        · rw [gIo c2, f10.2.1 440 (by omega), k9, if_neg c2, if_neg c2]
      have j41 : (msI z10.2 440 (48 * x + 4 * R.length + 2) (i32 (l.length + s.length))).2.1 441 x = i32 R.length := by rw [gIp (by omega), f10.2.1 441 (by omega)]; exact k41
      have j14 : (msI z10.2 440 (48 * x + 4 * R.length + 2) (i32 (l.length + s.length))).2.1 436 14 = M.2.1 436 14 := by rw [gIp (by omega), f10.2.2 14 (by omega)]; exact k14
      have fr17 : FrMr x M0 (msI z10.2 440 (48 * x + 4 * R.length + 2) (i32 (l.length + s.length))) := FrMr_trans fr9 (FrMr_trans (Fr8_r f10) (FrMr_440 (by omega)))
      obtain ⟨M17, hM17⟩ : ∃ M17, M17 = msI z10.2 440 (48 * x + 4 * R.length + 2) (i32 (l.length + s.length)) := ⟨_, rfl⟩
      rw [← hM17] at g17 j17 j41 j14 fr17 ⊢
      clear hM17
      refine OK_bind (m_tested hx ht hT (M0 := M17) hn2.2 b4 (by rw [List.length_append]; omega) g17 (FrMt_refl x M17)) fun z18 h18 => ?_
      cases ez : sTst t (sFct t 11 0) (nxp t p2) m2 with
      | error w' =>
        rw [ez] at h18
        rw [ez, ebd_e] at er
        have h18 : BT x t w' M17 z18 := h18
        rw [h18.1, if_pos rfl, er]
        exact OK_some ⟨rfl, h18.2.1, FrMr_trans fr17 (FrMt_r h18.2.2)⟩
      | ok z =>
        obtain ⟨z, p5, m5⟩ := z
        rw [ez] at h18
        rw [ez, ebd_o] at er
        obtain ⟨u18, T18⟩ := h18
        have T18 : TS x t [] (l ++ s ++ z) p5 m5 M17 z18.2 := T18
        obtain ⟨⟨c1, c2, c3, c4, c5⟩, c6, c7⟩ := sTst_ok (sFct_ok 11 0) (b := l.length + s.length) (c := 0) (by omega) (Nat.zero_le _) ez
        have c2 : l.length + s.length + z.length ≤ p5 := c2
        have c5 : p5 ≤ t.1 := c5
        have f18 := T18.2.2.2.2.2.2.2
        rw [u18, if_neg (by decide), er]
        refine OK_imp (m_closing hx (R := R) (l := l) (s := s) (z := z) (o := some z) rfl hR (by omega) h (p4 := p5) (m4 := m5) ⟨T18.1, T18.2.1, T18.2.2.1, T18.2.2.2.1, FrMr_trans fr17 (FrMt_r f18)⟩ (by rw [f18.2.1 441 (by omega) (by omega) (by omega) (by omega)]; exact j41) (fun j => by rw [f18.2.1 440 (by omega) (by omega) (by omega) (by omega)]; exact j17 j)) fun y hy => ⟨hy.1, hy.2.1, ?_⟩
        rw [hy.2.2, f18.2.2.1 14 (by omega) (by omega) (by omega) (by omega) (by omega) (by omega)]
        exact j14
theorem bzK {x : Nat} {t : Tp} {R : List Cl} {l : List Oq} {M0 : mM} {n : Int32} {r : Except Nat (Cl × Nat × Nat)} {o : Option (Int32 × mM)} (h : OK o fun z => RsKm x t R l M0 n r z) : OK (o.bind fun r => if r.1 = 0 ∨ r.1 = 1 then some (r.1, r.2) else none) fun z => RsKm x t R l M0 n r z := bz01 (OK_imp h fun z hz => ⟨by cases r with | error w => exact Or.inl hz.1 | ok q => exact Or.inr hz.1, hz⟩)
theorem CqM_8 {x : Nat} {t : Tp} {p p' m : Nat} {R : List Cl} {l : List Oq} {M0 M M' : mM} (h : CqM x t p m R l M0 M) (hT : MTs t p' M') (e : Fr8 M M') : CqM x t p' m R l M0 M' := by
  obtain ⟨q1, q2, q3, q4, q5, q6, q7, q8⟩ := h
  exact ⟨hT, ⟨by rw [e.2.1 439 (by omega)]; exact q2.1, by rw [e.2.1 438 (by omega)]; exact q2.2⟩, by rw [e.2.2 12 (by omega)]; exact q3, by rw [e.2.2 11 (by omega)]; exact q4, by rw [e.2.1 441 (by omega)]; exact q5, ofm_of R 0 0 (fun j _ _ => by rw [e.2.1 440 (by omega)]) (fun j _ _ => by rw [e.2.1 438 (by omega)]) q6, q7, FrMr_trans q8 (Fr8_r e)⟩
theorem m_rclause {x : Nat} (hx : x < 6) {t : Tp} (ht : t.1 ≤ 400) (hT : OKT t) {R : List Cl} {l : List Oq} {p m : Nat} {M0 M : mM} (hR : R.length ≤ 12) (hp : p ≤ t.1) (hm : m ≤ 60) (hl : l.length ≤ p) (h14 : M.2.1 436 14 = i32 R.length) (h : CqM x t p m R l M0 M) : OK (f_Model_clauseHere M) fun z => RsKm x t R l M0 (i32 (R.length + 1)) (sClaR t R.length p m) z := by
  have hq := skp_le t hp
  unfold f_Model_clauseHere
  refine OK_bind (m_seeS ht h.1) fun z1 h1 => ?_
  obtain ⟨-, m1, f1⟩ := h1
  have g1 := CqM_8 (p' := p) h (Or.inr m1) f1
  rw [g1.2.2.2.1, if_neg (by rw [show (6 : Int32) = i32 6 from rfl, i32_eq (by omega) (by omega)]; omega), m1.2.1]
  unfold f_Model_clauseHere_24
  rw [if_pos rfl]
  refine OK_bind (m_isWordS ht g1.1 w_go pw_go) fun z4 h4 => ?_
  obtain ⟨v4, m4, f4⟩ := h4
  have g4 := CqM_8 (p' := p) g1 (Or.inr m4) f4
  have he := isw1w_eq t 2 p w_go rfl
  have e14 : z4.2.2.1 436 14 = i32 R.length := by rw [f4.2.2 14 (by omega), f1.2.2 14 (by omega)]; exact h14
  have bad : ∀ k, k ≤ 4 → OK ((f_Model_fails (i32 k) (i32 (skp t p)) z4.2).bind fun r => if r.1 = 0 ∨ r.1 = 1 then some (r.1, r.2) else none) fun z => RsKm x t R l M0 (i32 (R.length + 1)) (.error (flt (skp t p) k)) z := by
    intro k hk
    exact bz0 (OK_imp (m_fails ht m4 hq hk) fun z hz => ⟨hz.1, rfl, hz.2.1, FrMr_trans g4.2.2.2.2.2.2.2 (FrMt_r (FrMs_t (FrZ_Ms hz.2.2)))⟩)
  cases ew : eqF t (wdE t (skp t p)) (skp t p) w_go with
  | false =>
    rw [ew, if_neg Bool.false_ne_true] at he
    have er : sClaR t R.length p m = .error (flt (skp t p) 0) := by unfold sClaR; rw [if_pos he]
    rw [v4, ew, if_pos (show e01 false = 0 from rfl), er]
    unfold f_Model_clauseHere_49
    exact bad 0 (by omega)
  | true =>
    rw [ew, if_pos rfl] at he
    have w : ¬ isw t 2 p = -1 := by rw [he]; decide
    rw [v4, ew, if_neg (show ¬ e01 true = 0 by decide)]
    unfold f_Model_clauseHere_56 f_Model_clauseHere_71
    rw [if_pos rfl, e14]
    by_cases c : R.length = 12
    · have er : sClaR t R.length p m = .error (flt (skp t p) 4) := by unfold sClaR; rw [if_neg w, if_pos (by omega)]
      rw [if_pos (by rw [c]; rfl), er]
      exact bad 4 (by omega)
    · have er : sClaR t R.length p m = sCls t (nxp t p) m := by unfold sClaR; rw [if_neg w, if_neg (by omega)]
      rw [if_neg (by rw [show (12 : Int32) = i32 12 from rfl, i32_eq (by omega) (by omega)]; exact c), pI_s, Option.bind_some, if_pos rfl, nadd_1, er]
      have key : ∀ q', MTk t q' z4.2 → MTk t q' (msI z4.2 436 14 (i32 (R.length + 1))) := fun q' y => ⟨⟨(gIo (by omega)).trans y.1.1, by rw [gIp (by omega)]; exact y.1.2⟩, (gIo (by omega)).trans y.2.1, (gIo (by omega)).trans y.2.2.1, y.2.2.2⟩
      obtain ⟨q1, q2, q3, q4, q5, q6, q7, q8⟩ := g4
      have g8 : CqM x t p m R l M0 (msI z4.2 436 14 (i32 (R.length + 1))) := ⟨Or.inr (key _ m4), ⟨by rw [gIp (by omega)]; exact q2.1, by rw [gIp (by omega)]; exact q2.2⟩, (gIo (by omega)).trans q3, (gIo (by omega)).trans q4, by rw [gIp (by omega)]; exact q5, ofm_of R 0 0 (fun j _ _ => by rw [gIp (by omega)]) (fun j _ _ => by rw [gIp (by omega)]) q6, q7, FrMr_trans q8 ⟨rfl, fun p a _ _ _ _ _ => gIp a, fun i _ _ _ _ _ a _ => gIo a, fun j _ => by rw [gIp (by omega)], fun j _ => by rw [gIp (by omega)], fun j _ => by rw [gIp (by omega)]⟩⟩
      have := m_go hx ht hT (by omega) hp hm hl w (key _ m4) g8
      rw [gIe] at this
      exact bzK this
