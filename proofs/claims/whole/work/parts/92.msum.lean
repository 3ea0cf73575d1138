/-! ===== a rule is read: the model, sums ===== -/
/-- the text, the counts and the rule's code alone change -/
def FrMs (x : Nat) (M M' : mM) : Prop := M'.2.2 = M.2.2 ∧ (∀ p, p ≠ 436 → p ≠ 438 → p ≠ 439 → M'.2.1 p = M.2.1 p) ∧ (∀ i, i ≠ 8 → i ≠ 9 → i ≠ 10 → i ≠ 12 → M'.2.1 436 i = M.2.1 436 i) ∧ (∀ j, j < 400 * x ∨ 400 * x + 400 ≤ j → M'.2.1 438 j = M.2.1 438 j) ∧ ∀ j, j ≠ x → M'.2.1 439 j = M.2.1 439 j
theorem FrMs_refl (x : Nat) (M : mM) : FrMs x M M := ⟨rfl, fun _ _ _ _ => rfl, fun _ _ _ _ _ => rfl, fun _ _ => rfl, fun _ _ => rfl⟩
theorem FrMs_trans {x : Nat} {M M' M'' : mM} (h : FrMs x M M') (h' : FrMs x M' M'') : FrMs x M M'' := ⟨h'.1.trans h.1, fun p a b c => (h'.2.1 p a b c).trans (h.2.1 p a b c), fun i a b c d => (h'.2.2.1 i a b c d).trans (h.2.2.1 i a b c d), fun j a => (h'.2.2.2.1 j a).trans (h.2.2.2.1 j a), fun j a => (h'.2.2.2.2 j a).trans (h.2.2.2.2 j a)⟩
theorem FrZ_Ms {x : Nat} {M M' : mM} (h : FrZ M M') : FrMs x M M' := ⟨h.1, fun p a _ _ => h.2.1 p a, fun i a b c _ => h.2.2 i a b c, fun j _ => by rw [h.2.1 438 (by omega)], fun j _ => by rw [h.2.1 439 (by omega)]⟩
theorem Fr8_Ms {x : Nat} {M M' : mM} (h : Fr8 M M') : FrMs x M M' := FrZ_Ms (Fr8_Z h)
/-- the model's text at p, or behind the blanks there -/
def MTs (t : Tp) (p : Nat) (M : mM) : Prop := MTk t p M ∨ MTk t (skp t p) M
theorem MTs_P {t : Tp} {p : Nat} {M : mM} (h : MTs t p M) : ∃ q, MTk t q M ∧ skp t q = skp t p := by
  rcases h with h | h
  · exact ⟨p, h, rfl⟩
  · exact ⟨_, h, skp_skp t p⟩
theorem m_seeS {t : Tp} (ht : t.1 ≤ 400) {p : Nat} {M : mM} (h : MTs t p M) : OK (f_Model_see M) fun z => z.1 = byv t (skp t p) ∧ MTk t (skp t p) z.2 ∧ Fr8 M z.2 := by
  obtain ⟨q, hq, e⟩ := MTs_P h
  rw [← e]
  exact m_see ht hq
theorem m_isWordS {t : Tp} (ht : t.1 ≤ 400) {p : Nat} {M : mM} {W : Int64} (h : MTs t p M) (w : List Int32) (hw : pk w 0 = W ∧ w ≠ [] ∧ w.length < 8 ∧ ∀ c, c ∈ w → isA c = true) : OK (f_Model_isWord W M) fun z => z.1 = e01 (eqF t (wdE t (skp t p)) (skp t p) w) ∧ MTk t (skp t p) z.2 ∧ Fr8 M z.2 := by
  obtain ⟨q, hq, e⟩ := MTs_P h
  rw [← e]
  exact m_isWord ht hq w hw
/-- the code so far -/
def Qg (x : Nat) (l : List Oq) (M : mM) : Prop := M.2.1 439 x = i32 l.length ∧ cel mE l (400 * x) (M.2.1 438)
/-- going on -/
def GM (x : Nat) (t : Tp) (p m : Nat) (l : List Oq) (M0 M : mM) : Prop := MTs t p M ∧ Qg x l M ∧ M.2.1 436 12 = i32 m ∧ M.2.1 436 11 = i32 x ∧ FrMs x M0 M
/-- refused -/
def BM (x : Nat) (t : Tp) (w : Nat) (M0 : mM) (z : Int32 × mM) : Prop := z.1 = 0 ∧ MRf t w z.2 ∧ FrMs x M0 z.2
theorem GM_Z {x : Nat} {t : Tp} {p p' m : Nat} {l : List Oq} {M0 M M' : mM} (h : GM x t p m l M0 M) (hT : MTs t p' M') (e : FrZ M M') : GM x t p' m l M0 M' := by
  obtain ⟨h1, h2, h3, h4, h5⟩ := h
  refine ⟨hT, ⟨by rw [e.2.1 439 (by omega)]; exact h2.1, by rw [e.2.1 438 (by omega)]; exact h2.2⟩, by rw [e.2.2 12 (by omega) (by omega) (by omega)]; exact h3, by rw [e.2.2 11 (by omega) (by omega) (by omega)]; exact h4, FrMs_trans h5 (FrZ_Ms e)⟩
theorem GM_8 {x : Nat} {t : Tp} {p p' m : Nat} {l : List Oq} {M0 M M' : mM} (h : GM x t p m l M0 M) (hT : MTs t p' M') (e : Fr8 M M') : GM x t p' m l M0 M' := GM_Z h hT (Fr8_Z e)
theorem GM_fails {x : Nat} {t : Tp} (ht : t.1 ≤ 400) {p m q k : Nat} {l : List Oq} {M0 M : mM} (h : GM x t p m l M0 M) (hq : q ≤ t.1) (hk : k ≤ 4) : OK (f_Model_fails (i32 k) (i32 q) M) fun z => BM x t (flt q k) M0 z := by
  obtain ⟨q', hT, -⟩ := MTs_P h.1
  exact OK_imp (m_fails ht hT hq hk) fun z hz => ⟨hz.1, hz.2.1, FrMs_trans h.2.2.2.2 (FrZ_Ms hz.2.2)⟩
theorem GM_failsB {x : Nat} {t : Tp} (ht : t.1 ≤ 400) {p m q k : Nat} {l : List Oq} {M0 M : mM} (h : GM x t p m l M0 M) (hq : q ≤ t.1) (hk : k ≤ 4) : OK ((f_Model_fails (i32 k) (i32 q) M).bind fun r => if r.1 = 0 ∨ r.1 = 1 then some (r.1, r.2) else none) fun z => BM x t (flt q k) M0 z :=
  bz0 (OK_imp (GM_fails ht h hq hk) fun z hz => ⟨hz.1, rfl, hz.2⟩)
/-- one more counted -/
theorem GM_makes {x : Nat} {t : Tp} (ht : t.1 ≤ 400) {p m q : Nat} {l : List Oq} {M0 M : mM} (hm : m ≤ 60) (hq : q ≤ t.1) (h : GM x t p m l M0 M) : OK (f_Model_makes (i32 q) M) fun z => (60 ≤ m → BM x t (flt q 3) M0 z) ∧ (¬ 60 ≤ m → z.1 = 1 ∧ GM x t p (m + 1) l M0 z.2 ∧ z.2.2.1 436 10 = M.2.1 436 10 ∧ z.2.2.1 436 8 = M.2.1 436 8 ∧ ∀ q', MTk t q' M → MTk t q' z.2) := by
  unfold f_Model_makes
  rw [h.2.2.1]
  by_cases c : 60 ≤ m
  · rw [if_pos (by rw [show (60 : Int32) = i32 60 from rfl, i32_eq (by omega) (by omega)]; omega)]
    exact OK_imp (GM_failsB ht h (k := 3) hq (by omega)) fun z hz => ⟨fun _ => hz, fun z => absurd c z⟩
  · rw [if_neg (by rw [show (60 : Int32) = i32 60 from rfl, i32_eq (by omega) (by omega)]; omega), pI_s, Option.bind_some, nadd_1]
    obtain ⟨h1, h2, h3, h4, h5⟩ := h
    have key : ∀ q', MTk t q' M → MTk t q' (msI M 436 12 (i32 (m + 1))) := fun q' x => ⟨⟨(gIo (by omega)).trans x.1.1, by rw [gIp (by omega)]; exact x.1.2⟩, (gIo (by omega)).trans x.2.1, (gIo (by omega)).trans x.2.2.1, x.2.2.2⟩
    refine OK_some ⟨fun z => absurd z c, fun _ => ⟨rfl, ⟨?_, ⟨by rw [gIp (by omega)]; exact h2.1, by rw [gIp (by omega)]; exact h2.2⟩, gIe _ _ _ _, (gIo (by omega)).trans h4, FrMs_trans h5 ⟨rfl, fun p a _ _ => gIp a, fun i _ _ _ d => gIo d, fun j _ => by rw [gIp (by omega)], fun j _ => by rw [gIp (by omega)]⟩⟩, gIo (by omega), gIo (by omega), key⟩⟩
    rcases h1 with h1 | h1
    · exact Or.inl (key _ h1)
    · exact Or.inr (key _ h1)
/-- one more sign told -/
theorem GM_puts {x : Nat} (hx : x < 6) {t : Tp} {p m : Nat} {l : List Oq} {o : Oq} {a b : Int32} {M0 M : mM} (h : GM x t p m l M0 M) (hl : l.length < 400) (e : a + 16 * b = mE o) : OK (f_Model_puts a b M) fun M' => GM x t p m (l ++ [o]) M0 M' := by
  obtain ⟨h1, h2, h3, h4, h5⟩ := h
  have ix1 : (400 : Int32) * i32 x + i32 l.length = i32 (400 * x + l.length) := by
    rw [show (400 : Int32) * i32 x = i32 (400 * x) from i32_mul 400 x, i32_add]
  unfold f_Model_puts
  rw [h4, rd_i32 (by omega) (by omega), Option.bind_some, h2.1, ix1, wr_i32 (by omega) (by omega), Option.bind_some, e, gIp (show 436 ≠ 438 by omega), h4, rd_i32 (by omega) (by omega), Option.bind_some, gIp (show 439 ≠ 438 by omega), h2.1, nadd_1, wr_i32 (by omega) (by omega), Option.bind_some]
  have key : ∀ q', MTk t q' M → MTk t q' (msI (msI M 438 (400 * x + l.length) (mE o)) 439 x (i32 (l.length + 1))) := by
    intro q' y
    have e1 : (msI (msI M 438 (400 * x + l.length) (mE o)) 439 x (i32 (l.length + 1))).2.1 436 = M.2.1 436 := by rw [gIp (by omega), gIp (by omega)]
    have e2 : (msI (msI M 438 (400 * x + l.length) (mE o)) 439 x (i32 (l.length + 1))).2.1 437 = M.2.1 437 := by rw [gIp (by omega), gIp (by omega)]
    unfold MTk MP
    rw [e1, e2]
    exact y
  refine OK_some ⟨?_, ⟨?_, ?_⟩, ?_, ?_, FrMs_trans h5 ⟨rfl, fun p a b c => by rw [gIp c, gIp b], fun i _ _ _ _ => by rw [gIp (by omega), gIp (by omega)], fun j hj => by rw [gIp (by omega), gIo (by omega)], fun j hj => by rw [gIo hj, gIp (by omega)]⟩⟩
  · rcases h1 with h1 | h1
    · exact Or.inl (key _ h1)
    · exact Or.inr (key _ h1)
  · rw [gIe, List.length_append]; rfl
  · rw [gIp (by omega), cel_app]
    refine ⟨cel_of l _ (fun i _ hi => gIo (by omega)) h2.2, gIe _ _ _ _, True.intro⟩
  · rw [gIp (by omega), gIp (by omega)]; exact h3
  · rw [gIp (by omega), gIp (by omega)]; exact h4
def RsMv (x : Nat) (t : Tp) (l : List Oq) (r : Except Nat (Oq × Nat × Nat)) (M0 : mM) (z : Int32 × mM) : Prop := match r with
  | .error w => BM x t w M0 z
  | .ok q => z.1 = 1 ∧ GM x t q.2.1 q.2.2 (l ++ [q.1]) M0 z.2
def RsMs (x : Nat) (t : Tp) (l : List Oq) (r : Rs) (M0 : mM) (z : Int32 × mM) : Prop := match r with
  | .error w => BM x t w M0 z
  | .ok q => z.1 = 1 ∧ GM x t q.2.1 q.2.2 (l ++ q.1) M0 z.2
theorem nmr_skp {t : Tp} {p lo h : Nat} : nmr t (skp t p) lo h = nmr t p lo h := by unfold nmr; rw [skp_skp]
theorem nxp_skp {t : Tp} {p : Nat} : nxp t (skp t p) = nxp t p := by unfold nxp; rw [skp_skp]
theorem m_value {x : Nat} (hx : x < 6) {t : Tp} (ht : t.1 ≤ 400) {p m : Nat} {l : List Oq} {M0 M : mM} (hp : p ≤ t.1) (hm : m ≤ 60) (hl : l.length ≤ p) (h : GM x t p m l M0 M) : OK (f_Model_value M) fun z => RsMv x t l (sVal t p m) M0 z := by
  have hq := skp_le t hp
  unfold f_Model_value sVal
  refine OK_bind (m_seeS ht h.1) fun z1 h1 => ?_
  obtain ⟨-, m1, f1⟩ := h1
  have g1 := GM_8 h (Or.inr m1) f1
  have e8 : z1.2.2.1 436 8 = i32 (skp t p) := m1.2.1
  rw [e8, m_digi ht m1.1 (by omega), Option.bind_some]
  cases hd : digi t (skp t p) with
  | false =>
    have hk : ¬ knd t (skp t p) = 1 := by rw [← digi_knd, hd]; exact Bool.false_ne_true
    rw [if_pos (show (e01 false, z1.2).1 = 0 from rfl), if_neg hk]
    refine OK_bind (m_wordHere ht m1) fun z4 h4 => ?_
    obtain ⟨e4, m4, f4⟩ := h4
    have g4 := GM_8 g1 (Or.inr m4) f4
    rw [e4]
    by_cases w : isw t 3 p = -1
    · rw [if_pos w, w, if_neg (by decide)]
      exact GM_failsB ht g4 (k := 0) hq (by omega)
    · have hn := isw_gt (by omega) w
      rw [if_neg w]
      obtain ⟨k, hk3, ek⟩ := isw_k w
      have hk3 : k < 12 := hk3
      have e1 : (isw t 3 p).toNatClampNeg = k := by rw [ek]; exact i32_cl (by omega)
      rw [e1, ek, if_pos (by rw [show (0 : Int32) = i32 0 from rfl, i32_le (by omega) (by omega)]; omega)]
      refine OK_bind (GM_makes ht hm hq g4) fun z6 h6 => ?_
      by_cases c : 60 ≤ m
      · have b6 := h6.1 c
        rw [b6.1, if_pos rfl, if_pos c]
        exact OK_some ⟨rfl, b6.2⟩
      · obtain ⟨c1, g6, -, -, c4⟩ := h6.2 c
        rw [c1, if_neg (by decide), if_neg c]
        refine OK_bind (m_passWord ht (c4 _ m4)) fun M8 h8 => ?_
        have e9 := nxp_w (t := t) (b := 3) (by omega) w
        rw [← e9] at h8
        have g8 := GM_8 g6 (Or.inl h8.1) h8.2
        have ev : (1 : Int32) + 16 * i32 k = mE (1, k) := by
          rw [show (16 : Int32) * i32 k = i32 (16 * k) from i32_mul 16 k]
          exact i32_add 1 (16 * k)
        refine OK_bind (GM_puts hx g8 (by omega) ev) fun M9 h9 => OK_some ⟨rfl, h9⟩
  | true =>
    have hk : knd t (skp t p) = 1 := by rw [← digi_knd]; exact hd
    have hn := nxp_gt (t := t) (p := p) (by rw [hk]; decide)
    rw [if_neg (fun z => absurd z (show ¬ e01 true = 0 by decide)), if_pos hk]
    refine OK_bind (m_num ht (lo := 0) (h := 100000) (by omega) (by omega) m1) fun z12 h12 => ?_
    obtain ⟨f12, r12⟩ := h12
    rw [nmr_skp, nxp_skp] at r12
    cases e : nmr t p 0 100000 with
    | error w =>
      rw [e] at r12
      rw [r12.1, if_pos rfl, ebd_e]
      exact OK_some ⟨rfl, r12.2, FrMs_trans g1.2.2.2.2 (FrZ_Ms f12)⟩
    | ok v =>
      rw [e] at r12
      obtain ⟨r1, r2, r3⟩ := r12
      have g12 := GM_Z g1 (Or.inl r2) f12
      have hv := nmr_ok e
      rw [r1, if_neg (by decide), ebd_o]
      refine OK_bind (GM_makes ht hm hq g12) fun z14 h14 => ?_
      by_cases c : 60 ≤ m
      · have b6 := h14.1 c
        rw [b6.1, if_pos rfl, if_pos c]
        exact OK_some ⟨rfl, b6.2⟩
      · obtain ⟨c1, g14, c2, -, -⟩ := h14.2 c
        rw [c1, if_neg (by decide), if_neg c, c2, r3]
        have ev : (0 : Int32) + 16 * i32 v = mE (0, v) := by
          rw [show (16 : Int32) * i32 v = i32 (16 * v) from i32_mul 16 v]
          show i32 0 + i32 (16 * v) = _
          rw [i32_add, Nat.zero_add]
          rfl
        refine OK_bind (GM_puts hx g14 (by omega) ev) fun M9 h9 => OK_some ⟨rfl, h9⟩
theorem mE_2 {s : Nat} : mB s + 16 * 0 = mE (2, s) := by
  show mB s + (16 : Int32) * 0 = mB s
  rw [show (16 : Int32) * 0 = 0 by decide, Int32.add_zero]
/-- past a sign of one byte -/
theorem GM_next {x : Nat} {t : Tp} {p m : Nat} {l : List Oq} {M0 M : mM} (h : GM x t p m l M0 M) (hM : MTk t (skp t p) M) (e : nxp t p = skp t p + 1) (hn : nxp t p ≤ t.1) : M.2.1 436 8 + 1 = i32 (nxp t p) ∧ GM x t (nxp t p) m l M0 (msI M 436 8 (i32 (nxp t p))) := by
  refine ⟨by rw [hM.2.1, nadd_1, e], GM_8 h (Or.inl (MTk_at hM hn)) Fr8_I⟩
theorem m_term74 {x : Nat} (hx : x < 6) {t : Tp} (ht : t.1 ≤ 400) {p m s : Nat} {l : List Oq} {M0 M : mM} {k9 : mM → Option (Int32 × mM)} {R : Except Nat (Oq × Nat × Nat) → Rs} {l0 : List Oq} (hm : m ≤ 60) (hl : l.length + 1 ≤ nxp t p) (hM : MTk t (skp t p) M) (e : nxp t p = skp t p + 1) (hn : nxp t p ≤ t.1) (h : GM x t p m l M0 M) (hE : ∀ w, R (.error w) = .error w) (hk : ∀ v M', sVal t (nxp t p) m = .ok v → GM x t v.2.1 v.2.2 (l ++ [v.1] ++ [(2, s)]) M0 M' → OK (k9 M') fun z => RsMs x t l0 (R (.ok v)) M0 z) : OK (f_Model_term_74 k9 (mB s) M) fun z => RsMs x t l0 (R (sVal t (nxp t p) m)) M0 z := by
  obtain ⟨e1, g1⟩ := GM_next h hM e hn
  unfold f_Model_term_74
  rw [e1, pI_s, Option.bind_some]
  refine OK_bind (m_value hx ht hn hm (by omega) g1) fun z h1 => ?_
  cases ev : sVal t (nxp t p) m with
  | error w =>
    rw [ev] at h1
    rw [h1.1, if_pos rfl, hE]
    exact OK_some ⟨rfl, h1.2⟩
  | ok v =>
    rw [ev] at h1
    have hv := sVal_ok ev
    rw [h1.1, if_neg (by decide)]
    exact OK_bind (GM_puts hx h1.2 (by rw [List.length_append]; show l.length + 1 < 400; omega) mE_2) fun M' h' => hk v M' ev h'
theorem m_byt {t : Tp} (ht : t.1 ≤ 400) {q : Nat} {c : Int32} {M : mM} (h : MTk t q M) (hc : q < t.1 ∧ t.2 q = c) : rd M 437 400 (M.2.1 436 8) = some c := by
  rw [h.2.1, rd_i32 (by omega) (by omega), h.1.2 q hc.1, hc.2]
theorem m_term9 {x : Nat} (hx : x < 6) {t : Tp} (ht : t.1 ≤ 400) (hT : OKT t) {l : List Oq} {M0 : mM} : ∀ (f k p m : Nat) (e : List Oq) (M : mM), t.1 < p + f → t.1 < p + k → p ≤ t.1 → m ≤ 60 → l.length + e.length ≤ p → GM x t p m (l ++ e) M0 M → OK (f_Model_term_9 f M) fun z => RsMs x t l (sTerm t k p m e) M0 z
  | 0, k, p, m, e, M, hf, hk, hp, hm, hl, h => by omega
  | f + 1, k, p, m, e, M, hf, hk, hp, hm, hl, h => by
    obtain ⟨k, rfl⟩ : ∃ k', k = k' + 1 := ⟨k - 1, by omega⟩
    have hq := skp_le t hp
    rw [f_Model_term_9, sTerm]
    have go : ∀ (s : Nat) (M1 : mM), sgT t p = some s → nxp t p = skp t p + 1 → MTk t (skp t p) M1 → GM x t p m (l ++ e) M0 M1 → OK (f_Model_term_74 (f_Model_term_9 f) (mB s) M1) fun z => RsMs x t l (ebd (sVal t (nxp t p) m) fun v => sTerm t k v.2.1 v.2.2 (e ++ [v.1] ++ [(2, s)])) M0 z := by
      intro s M1 es en m1 g1
      have hs := sgT_k es
      refine m_term74 hx ht (R := fun r => ebd r fun v => sTerm t k v.2.1 v.2.2 (e ++ [v.1] ++ [(2, s)])) hm (by rw [List.length_append]; omega) m1 en hs.2.2.2 g1 (fun w => rfl) fun v M' ev h' => ?_
      have hv := sVal_ok ev
      have el : l ++ (e ++ [v.1] ++ [(2, s)]) = l ++ e ++ [v.1] ++ [(2, s)] := by simp only [List.append_assoc]
      exact m_term9 hx ht hT f k v.2.1 v.2.2 (e ++ [v.1] ++ [(2, s)]) M' (by omega) (by omega) hv.2.2.2.1 (by omega) (by rw [List.length_append, List.length_append]; show l.length + (e.length + 1 + 1) ≤ v.2.1; omega) (by rw [el]; exact h')
    refine OK_bind (m_seeS ht h.1) fun z3 h3 => ?_
    obtain ⟨v3, m3, f3⟩ := h3
    have g3 := GM_8 (p' := p) h (Or.inr m3) f3
    have b42 : (z3.1 = 42) = (sgn t p 42 = true) := by rw [v3]; exact byv_sgn hT (by decide) (by decide) (by decide)
    by_cases c1 : sgn t p 42 = true
    · have es : sgT t p = some 2 := by unfold sgT; rw [if_pos c1]
      have by1 : skp t p < t.1 ∧ t.2 (skp t p) = 42 := by rw [← byv_c hT (by decide), byv_sgn hT (by decide) (by decide) (by decide)]; exact c1
      rw [if_pos (by rw [b42]; exact c1), es, obd_s]
      unfold f_Model_term_36
      rw [m_byt ht m3 by1, Option.bind_some, if_pos rfl]
      exact go 2 z3.2 es (nxp_sgn (by decide) (by decide) (by decide) (by decide) c1) m3 g3
    rw [if_neg (by rw [b42]; exact c1)]
    refine OK_bind (m_seeS ht g3.1) fun z13 h13 => ?_
    obtain ⟨v13, m13, f13⟩ := h13
    have g13 := GM_8 (p' := p) g3 (Or.inr m13) f13
    have b47 : (z13.1 = 47) = (sgn t p 47 = true) := by rw [v13]; exact byv_sgn hT (by decide) (by decide) (by decide)
    by_cases c2 : sgn t p 47 = true
    · have es : sgT t p = some 3 := by unfold sgT; rw [if_neg c1, if_pos c2]
      have by1 : skp t p < t.1 ∧ t.2 (skp t p) = 47 := by rw [← byv_c hT (by decide), byv_sgn hT (by decide) (by decide) (by decide)]; exact c2
      rw [if_pos (by rw [b47]; exact c2), es, obd_s]
      unfold f_Model_term_36
      rw [m_byt ht m13 by1, Option.bind_some, Option.bind_some, if_neg (by decide), if_pos rfl]
      exact go 3 z13.2 es (nxp_sgn (by decide) (by decide) (by decide) (by decide) c2) m13 g13
    rw [if_neg (by rw [b47]; exact c2)]
    refine OK_bind (m_seeS ht g13.1) fun z15 h15 => ?_
    obtain ⟨v15, m15, f15⟩ := h15
    have g15 := GM_8 (p' := p) g13 (Or.inr m15) f15
    have b37 : (z15.1 = 37) = (sgn t p 37 = true) := by rw [v15]; exact byv_sgn hT (by decide) (by decide) (by decide)
    by_cases c3 : sgn t p 37 = true
    · have es : sgT t p = some 4 := by unfold sgT; rw [if_neg c1, if_neg c2, if_pos c3]
      have by1 : skp t p < t.1 ∧ t.2 (skp t p) = 37 := by rw [← byv_c hT (by decide), byv_sgn hT (by decide) (by decide) (by decide)]; exact c3
      rw [if_pos (by rw [b37]; exact c3), es, obd_s]
      unfold f_Model_term_36
      rw [m_byt ht m15 by1, Option.bind_some, Option.bind_some, if_neg (by decide), if_neg (by decide)]
      exact go 4 z15.2 es (nxp_sgn (by decide) (by decide) (by decide) (by decide) c3) m15 g15
    · have es : sgT t p = none := by unfold sgT; rw [if_neg c1, if_neg c2, if_neg c3]
      rw [if_neg (by rw [b37]; exact c3), es, obd_n]
      exact OK_some ⟨rfl, g15⟩
theorem m_term {x : Nat} (hx : x < 6) {t : Tp} (ht : t.1 ≤ 400) (hT : OKT t) {l : List Oq} {M0 M : mM} {p m : Nat} (hp : p ≤ t.1) (hm : m ≤ 60) (hl : l.length ≤ p) (h : GM x t p m l M0 M) : OK (f_Model_term M) fun z => RsMs x t l (ebd (sVal t p m) fun v => sTerm t 401 v.2.1 v.2.2 [v.1]) M0 z := by
  unfold f_Model_term
  refine OK_bind (m_value hx ht hp hm hl h) fun z h1 => ?_
  cases ev : sVal t p m with
  | error w =>
    rw [ev] at h1
    rw [h1.1, if_pos rfl, ebd_e]
    exact OK_some ⟨rfl, h1.2⟩
  | ok v =>
    rw [ev] at h1
    have hv := sVal_ok ev
    rw [h1.1, if_neg (by decide), ebd_o]
    exact m_term9 hx ht hT FUEL 401 v.2.1 v.2.2 [v.1] z.2 (by rw [FUEL_eq]; omega) (by omega) hv.2.2.2.1 (by omega) (by show l.length + 1 ≤ v.2.1; omega) h1.2
theorem m_sum46 {x : Nat} (hx : x < 6) {t : Tp} (ht : t.1 ≤ 400) (hT : OKT t) {p m s : Nat} {l : List Oq} {M0 M : mM} {k9 : mM → Option (Int32 × mM)} {R : Rs → Rs} {l0 : List Oq} (hm : m ≤ 60) (hl : l.length + 1 ≤ nxp t p) (hM : MTk t (skp t p) M) (e : nxp t p = skp t p + 1) (hn : nxp t p ≤ t.1) (h : GM x t p m l M0 M) (hE : ∀ w, R (.error w) = .error w) (hk : ∀ v M', (ebd (sVal t (nxp t p) m) fun v => sTerm t 401 v.2.1 v.2.2 [v.1]) = .ok v → GM x t v.2.1 v.2.2 (l ++ v.1 ++ [(2, s)]) M0 M' → OK (k9 M') fun z => RsMs x t l0 (R (.ok v)) M0 z) : OK (f_Model_sum_46 k9 (mB s) M) fun z => RsMs x t l0 (R (ebd (sVal t (nxp t p) m) fun v => sTerm t 401 v.2.1 v.2.2 [v.1])) M0 z := by
  obtain ⟨e1, g1⟩ := GM_next h hM e hn
  unfold f_Model_sum_46
  rw [e1, pI_s, Option.bind_some]
  refine OK_bind (m_term hx ht hT hn hm (by omega) g1) fun z h1 => ?_
  cases ev : (ebd (sVal t (nxp t p) m) fun v => sTerm t 401 v.2.1 v.2.2 [v.1]) with
  | error w =>
    rw [ev] at h1
    rw [h1.1, if_pos rfl, hE]
    exact OK_some ⟨rfl, h1.2⟩
  | ok v =>
    rw [ev] at h1
    obtain ⟨v0, ev0, ev1⟩ := ebd_ok ev
    have hv := sTerm_ok 401 _ _ _ v (Gd_v (b := l.length + 1) (c := 0) (sVal_ok ev0) (by omega) (Nat.zero_le _)) ev1
    obtain ⟨⟨b1, b2, b3, b4, b5⟩, b6⟩ := hv
    rw [h1.1, if_neg (by decide)]
    exact OK_bind (GM_puts hx h1.2 (by rw [List.length_append]; omega) mE_2) fun M' h' => hk v M' ev h'
theorem m_sum9 {x : Nat} (hx : x < 6) {t : Tp} (ht : t.1 ≤ 400) (hT : OKT t) {l : List Oq} {M0 : mM} : ∀ (f k p m : Nat) (e : List Oq) (M : mM), t.1 < p + f → t.1 < p + k → p ≤ t.1 → m ≤ 60 → l.length + e.length ≤ p → GM x t p m (l ++ e) M0 M → OK (f_Model_sum_9 f M) fun z => RsMs x t l (sSumL t k p m e) M0 z
  | 0, k, p, m, e, M, hf, hk, hp, hm, hl, h => by omega
  | f + 1, k, p, m, e, M, hf, hk, hp, hm, hl, h => by
    obtain ⟨k, rfl⟩ : ∃ k', k = k' + 1 := ⟨k - 1, by omega⟩
    have hq := skp_le t hp
    rw [f_Model_sum_9, sSumL]
    have go : ∀ (s : Nat) (M1 : mM), sgS t p = some s → nxp t p = skp t p + 1 → MTk t (skp t p) M1 → GM x t p m (l ++ e) M0 M1 → OK (f_Model_sum_46 (f_Model_sum_9 f) (mB s) M1) fun z => RsMs x t l (ebd (sVal t (nxp t p) m) fun v => ebd (sTerm t 401 v.2.1 v.2.2 [v.1]) fun y => sSumL t k y.2.1 y.2.2 (e ++ y.1 ++ [(2, s)])) M0 z := by
      intro s M1 es en m1 g1
      have hs := sgS_k es
      rw [← ebd_as]
      refine m_sum46 hx ht hT (R := fun r => ebd r fun y => sSumL t k y.2.1 y.2.2 (e ++ y.1 ++ [(2, s)])) hm (by rw [List.length_append]; omega) m1 en hs.2.2.2 g1 (fun w => rfl) fun v M' ev h' => ?_
      obtain ⟨v0, ev0, ev1⟩ := ebd_ok ev
      have hv0 := sVal_ok ev0
      have hv := sTerm_ok 401 _ _ _ v (Gd_v (b := l.length + e.length + 1) (c := 0) hv0 (by omega) (Nat.zero_le _)) ev1
      obtain ⟨⟨b1, b2, b3, b4, b5⟩, b6⟩ := hv
      have el : l ++ (e ++ v.1 ++ [(2, s)]) = l ++ e ++ v.1 ++ [(2, s)] := by simp only [List.append_assoc]
      exact m_sum9 hx ht hT f k v.2.1 v.2.2 (e ++ v.1 ++ [(2, s)]) M' (by omega) (by omega) b5 b4 (by rw [List.length_append, List.length_append]; show l.length + (e.length + v.1.length + 1) ≤ v.2.1; omega) (by rw [el]; exact h')
    refine OK_bind (m_seeS ht h.1) fun z3 h3 => ?_
    obtain ⟨v3, m3, f3⟩ := h3
    have g3 := GM_8 (p' := p) h (Or.inr m3) f3
    have b43 : (z3.1 = 43) = (sgn t p 43 = true) := by rw [v3]; exact byv_sgn hT (by decide) (by decide) (by decide)
    by_cases c1 : sgn t p 43 = true
    · have es : sgS t p = some 0 := by unfold sgS; rw [if_pos c1]
      have by1 : skp t p < t.1 ∧ t.2 (skp t p) = 43 := by rw [← byv_c hT (by decide), byv_sgn hT (by decide) (by decide) (by decide)]; exact c1
      rw [if_pos (by rw [b43]; exact c1), es, obd_s]
      unfold f_Model_sum_27
      rw [m_byt ht m3 by1, Option.bind_some, if_pos rfl]
      exact go 0 z3.2 es (nxp_sgn (by decide) (by decide) (by decide) (by decide) c1) m3 g3
    rw [if_neg (by rw [b43]; exact c1)]
    refine OK_bind (m_seeS ht g3.1) fun z13 h13 => ?_
    obtain ⟨v13, m13, f13⟩ := h13
    have g13 := GM_8 (p' := p) g3 (Or.inr m13) f13
    have b45 : (z13.1 = 45) = (sgn t p 45 = true) := by rw [v13]; exact byv_sgn hT (by decide) (by decide) (by decide)
    by_cases c2 : sgn t p 45 = true
    · have es : sgS t p = some 1 := by unfold sgS; rw [if_neg c1, if_pos c2]
      have by1 : skp t p < t.1 ∧ t.2 (skp t p) = 45 := by rw [← byv_c hT (by decide), byv_sgn hT (by decide) (by decide) (by decide)]; exact c2
      rw [if_pos (by rw [b45]; exact c2), es, obd_s]
      unfold f_Model_sum_27
      rw [m_byt ht m13 by1, Option.bind_some, if_neg (by decide)]
      exact go 1 z13.2 es (nxp_sgn (by decide) (by decide) (by decide) (by decide) c2) m13 g13
    · have es : sgS t p = none := by unfold sgS; rw [if_neg c1, if_neg c2]
      rw [if_neg (by rw [b45]; exact c2), es, obd_n]
      exact OK_some ⟨rfl, g13⟩
theorem m_sum {x : Nat} (hx : x < 6) {t : Tp} (ht : t.1 ≤ 400) (hT : OKT t) {l : List Oq} {M0 M : mM} {p m : Nat} (hp : p ≤ t.1) (hm : m ≤ 60) (hl : l.length ≤ p) (h : GM x t p m l M0 M) : OK (f_Model_sum M) fun z => RsMs x t l (sSum t p m) M0 z := by
  unfold f_Model_sum sSum
  rw [← ebd_as]
  refine OK_bind (m_term hx ht hT hp hm hl h) fun z h1 => ?_
  cases ev : (ebd (sVal t p m) fun v => sTerm t 401 v.2.1 v.2.2 [v.1]) with
  | error w =>
    rw [ev] at h1
    rw [h1.1, if_pos rfl, ebd_e]
    exact OK_some ⟨rfl, h1.2⟩
  | ok v =>
    rw [ev] at h1
    obtain ⟨v0, ev0, ev1⟩ := ebd_ok ev
    have hv := sTerm_ok 401 _ _ _ v (Gd_v (b := l.length) (c := 0) (sVal_ok ev0) hl (Nat.zero_le _)) ev1
    obtain ⟨⟨b1, b2, b3, b4, b5⟩, b6⟩ := hv
    rw [h1.1, if_neg (by decide), ebd_o]
    exact m_sum9 hx ht hT FUEL 401 v.2.1 v.2.2 v.1 z.2 (by rw [FUEL_eq]; omega) (by omega) b5 b4 b2 h1.2
