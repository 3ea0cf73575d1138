/-! ===== a rule is read: the model, tests ===== -/
/-- behind a fact -/
def Kc (f2 : Nat) (M12 : mM) : Option (Int32 × mM) := (f_Model_isWord 6385252 M12).bind fun r13 =>
  (if r13.1 = 0 then
  (f_Model_isWord 28530 r13.2).bind fun r23 =>
  (if r23.1 = 0 then
  f_Model_tested_54  (f_Model_tested_12   f2) 0 r23.2
else
  f_Model_tested_49  (f_Model_tested_12   f2)  r23.2)
else
  f_Model_tested_49  (f_Model_tested_12   f2)  r13.2)
def Kt (f2 : Nat) (r10 : Int32 × mM) : Option (Int32 × mM) := (if r10.1 = 0 then
  some (0, r10.2)
else
  (f_Model_closes  r10.2).bind fun M12 => Kc f2 M12)
theorem tested_s (f2 : Nat) (M : mM) : f_Model_tested_12 (f2 + 1) 1 M = (f_Model_fact M).bind (Kt f2) := rfl
abbrev Rt : Type := Except Nat (List Oq × Nat × Nat)
/-- how a test ends -/
def Ps (x : Nat) (t : Tp) (M0 : mM) (r : Rt) (z : Int32 × mM) : Prop := match r with
  | .error w => BT x t w M0 z
  | .ok q => z.1 = 1 ∧ TS x t [] q.1 q.2.1 q.2.2 M0 z.2
/-- the sizes -/
def Sz (t : Tp) (S : List Nat) (l : List Oq) (p m : Nat) : Prop := okS S ∧ S.length + l.length ≤ p ∧ p ≤ t.1 ∧ m ≤ 60
/-- at a fact: r comes out -/
def PF (x : Nat) (t : Tp) (M0 : mM) (S : List Nat) (l : List Oq) (p m : Nat) (r : Rt) : Prop := ∀ M f f2, Sz t S l p m → TS x t S l p m M0 M → t.1 + 1 < p + f → t.1 + 1 < p + f2 → OK ((f_Model_fact_2 f 1 M).bind (Kt f2)) (Ps x t M0 r)
/-- behind a fact, what stood on top settled -/
def PD (x : Nat) (t : Tp) (M0 : mM) (S : List Nat) (l : List Oq) (p m : Nat) (r : Rt) : Prop := ∀ M f f2, Sz t S l p m → TS x t S l p m M0 M → t.1 < p + f → t.1 + 1 < p + f2 → OK ((f_Model_closes_5 f M).bind (Kc f2)) (Ps x t M0 r)
def PC (x : Nat) (t : Tp) (M0 : mM) (S : List Nat) (l : List Oq) (p m : Nat) (r : Rt) : Prop := PD x t M0 (stl 3 S l).1 (stl 3 S l).2 p m r
theorem Sz_stl {t : Tp} {S : List Nat} {l : List Oq} {p m : Nat} (k : Nat) (h : Sz t S l p m) : Sz t (stl k S l).1 (stl k S l).2 p m := ⟨stl_ok k S l h.1, by rw [stl_len]; exact h.2.1, h.2.2⟩
theorem bind_as {α β γ : Type} (o : Option α) (f : α → Option β) (g : β → Option γ) : (o.bind f).bind g = o.bind fun a => (f a).bind g := by cases o <;> rfl
theorem m_settl {x : Nat} (hx : x < 6) {t : Tp} (ht : t.1 ≤ 400) {k : Nat} (hk : 1 ≤ k ∧ k ≤ 3) {p m : Nat} {M0 : mM} {S : List Nat} {l : List Oq} {M : mM} (hz : Sz t S l p m) (h : TS x t S l p m M0 M) : OK (f_Model_settles (i32 k) M) fun M' => TS x t (stl k S l).1 (stl k S l).2 p m M0 M' :=
  m_settles hx ht hk S l FUEL M hz.1 (by have := hz.2; omega) (by have := hz.2; rw [FUEL_eq]; omega) h
section
variable {x : Nat} {t : Tp} {M0 : mM}
theorem not_eq (t : Tp) (p : Nat) : isw t 5 p = if eqF t (wdE t (skp t p)) (skp t p) w_not = true then 0 else -1 := isw1w_eq t 5 p w_not rfl
theorem and_eq (t : Tp) (p : Nat) : isw t 6 p = if eqF t (wdE t (skp t p)) (skp t p) w_and = true then 0 else -1 := isw1w_eq t 6 p w_and rfl
theorem or_eq (t : Tp) (p : Nat) : isw t 7 p = if eqF t (wdE t (skp t p)) (skp t p) w_or = true then 0 else -1 := isw1w_eq t 7 p w_or rfl
/-- a fact's first look -/
theorem m_look (ht : t.1 ≤ 400) {S : List Nat} {l : List Oq} {p m : Nat} {M : mM} (h : TS x t S l p m M0 M) : OK (f_Model_see M) fun z4 => z4.1 = byv t (skp t p) ∧ OK (f_Model_isWord 7237492 z4.2) fun z5 => z5.1 = e01 (eqF t (wdE t (skp t p)) (skp t p) w_not) ∧ MTk t (skp t p) z5.2 ∧ TS x t S l p m M0 z5.2 := by
  refine OK_imp (m_seeS ht h.1) fun z4 h4 => ⟨h4.1, ?_⟩
  have g4 := TS_8 (p' := p) h (Or.inr h4.2.1) h4.2.2
  exact OK_imp (m_isWordS ht g4.1 w_not pw_not) fun z5 h5 => ⟨h5.1, h5.2.1, TS_8 g4 (Or.inr h5.2.1) h5.2.2⟩
theorem PF_step (hx : x < 6) (ht : t.1 ≤ 400) (hT : OKT t) {S : List Nat} {l : List Oq} {p m : Nat} {r : Rt} (hd : dpS S ≤ 10) (h1 : ¬ isw t 5 p = -1 → 10 ≤ dpS S → r = .error (flt (skp t p) 2)) (h2 : ¬ isw t 5 p = -1 → ¬ 10 ≤ dpS S → PF x t M0 (11 :: S) l (nxp t p) m r) (h3 : isw t 5 p = -1 → sgn t p 91 = true → 10 ≤ dpS S → r = .error (flt (skp t p) 2)) (h4 : isw t 5 p = -1 → sgn t p 91 = true → ¬ 10 ≤ dpS S → PF x t M0 (91 :: S) l (nxp t p) m r) (h5 : ∀ w, isw t 5 p = -1 → ¬ sgn t p 91 = true → sCmp t p m = .error w → r = .error w) (h6 : ∀ e p' m', isw t 5 p = -1 → ¬ sgn t p 91 = true → sCmp t p m = .ok (e, p', m') → PC x t M0 S (l ++ e) p' m' r) : PF x t M0 S l p m r := by
  intro M f f2 hz hM hf hf2
  obtain ⟨z1, z2, z3, z4⟩ := id hz
  obtain ⟨f, rfl⟩ : ∃ f', f = f' + 1 := ⟨f - 1, by omega⟩
  obtain ⟨f, rfl⟩ : ∃ f', f = f' + 1 := ⟨f - 1, by omega⟩
  have hq := skp_le t z3
  rw [f_Model_fact_2, if_neg (by decide), bind_as]
  refine OK_bind (m_look ht hM) fun y4 k4 => ?_
  obtain ⟨v4, k4⟩ := k4
  rw [bind_as]
  refine OK_bind k4 fun y5 k5 => ?_
  obtain ⟨v5, m5, g5⟩ := k5
  have hw := not_eq t p
  cases en : eqF t (wdE t (skp t p)) (skp t p) w_not with
  | true =>
    rw [en, if_pos rfl] at hw
    have w : ¬ isw t 5 p = -1 := by rw [hw]; decide
    have hn := isw_gt (by omega) w
    rw [v5, en, if_neg (show ¬ e01 true = 0 by decide), bind_as]
    refine OK_bind (m_opens hx ht (a := 11) hd (by omega) (Or.inl rfl) z3 m5 g5) fun y11 k11 => ?_
    by_cases c : 10 ≤ dpS S
    · have b := k11.1 c
      rw [b.1, if_pos rfl, Option.bind_some, h1 w c]
      unfold Kt
      rw [if_pos rfl]
      exact OK_some ⟨rfl, b.2⟩
    · obtain ⟨c1, c2, c3⟩ := k11.2 c
      rw [c1, if_neg (by decide), bind_as]
      refine OK_bind (m_passWord ht c3) fun M13 k13 => ?_
      have e9 := nxp_w (t := t) (b := 5) (by omega) w
      rw [← e9] at k13
      exact h2 w c M13 (f + 1) f2 ⟨okS_c (Or.inl rfl) z1, by rw [List.length_cons]; omega, hn.2, z4⟩ (TS_8 c2 (Or.inl k13.1) k13.2) (by omega) (by omega)
  | false =>
    rw [en, if_neg Bool.false_ne_true] at hw
    rw [v5, en, if_pos (show e01 false = 0 from rfl), v4]
    have b91 : (byv t (skp t p) = 91) = (sgn t p 91 = true) := byv_sgn hT (by decide) (by decide) (by decide)
    by_cases s : sgn t p 91 = true
    · have hn := sgn_gt s
      rw [if_pos (by rw [b91]; exact s), bind_as]
      refine OK_bind (m_opens hx ht (a := 91) hd (by omega) (Or.inr rfl) z3 m5 g5) fun y8 k8 => ?_
      by_cases c : 10 ≤ dpS S
      · have b := k8.1 c
        rw [b.1, if_pos rfl, Option.bind_some, h3 hw s c]
        unfold Kt
        rw [if_pos rfl]
        exact OK_some ⟨rfl, b.2⟩
      · obtain ⟨c1, c2, c3⟩ := k8.2 c
        have e9 := nxp_sgn (by decide) (by decide) (by decide) (by decide) s
        rw [c1, if_neg (by decide), c3.2.1, nadd_1, ← e9, pI_s, Option.bind_some]
        exact h4 hw s c _ (f + 1) f2 ⟨okS_c (Or.inr (Or.inr (Or.inr rfl))) z1, by rw [List.length_cons]; omega, hn.2, z4⟩ (TS_8 c2 (Or.inl (MTk_at c3 hn.2)) Fr8_I) (by omega) (by omega)
    · rw [if_neg (by rw [b91]; exact s), f_Model_fact_2, if_pos rfl, bind_as]
      refine OK_bind (m_compare hx ht hT z3 z4 (by omega) (TS_G g5)) fun y2 k2 => ?_
      cases ec : sCmp t p m with
      | error w =>
        rw [ec] at k2
        have k2 : BM x t w y5.2 y2 := k2
        rw [k2.1, if_pos (Or.inl rfl), Option.bind_some, h5 w hw s ec]
        unfold Kt
        rw [if_pos rfl]
        have := G_BT g5 k2
        exact OK_some ⟨rfl, this.2⟩
      | ok q =>
        obtain ⟨e, p', m'⟩ := q
        rw [ec] at k2
        obtain ⟨k21, k22⟩ := k2
        have k22 : GM x t p' m' (l ++ e) y5.2 y2.2 := k22
        obtain ⟨⟨b1, b2, b3, b4, b5⟩, b6, b7⟩ := sCmp_ok (b := S.length + l.length) (c := 0) z2 (Nat.zero_le _) ec
        have b2 : S.length + l.length + e.length ≤ p' := b2
        have b4 : m' ≤ 60 := b4
        have b5 : p' ≤ t.1 := b5
        have b6 : p < p' := b6
        have g2 := G_TS g5 k22
        have sz : Sz t S (l ++ e) p' m' := ⟨z1, by rw [List.length_append]; omega, b5, b4⟩
        rw [k21, if_pos (Or.inr rfl), Option.bind_some]
        unfold Kt
        rw [if_neg (show ¬ (1 : Int32) = 0 by decide)]
        unfold f_Model_closes
        rw [bind_as]
        refine OK_bind (m_settl hx ht (k := 3) (by omega) sz g2) fun M1 k1 => ?_
        exact h6 e p' m' hw s ec M1 FUEL f2 (Sz_stl 3 sz) k1 (by rw [FUEL_eq]; omega) (by omega)
theorem MT_word (ht : t.1 ≤ 400) {S : List Nat} {l : List Oq} {p m : Nat} {M : mM} {W : Int64} {w : List Int32} (hw : pk w 0 = W ∧ w ≠ [] ∧ w.length < 8 ∧ ∀ c, c ∈ w → isA c = true) (h : TS x t S l p m M0 M) : OK (f_Model_isWord W M) fun z => z.1 = e01 (eqF t (wdE t (skp t p)) (skp t p) w) ∧ MTk t (skp t p) z.2 ∧ TS x t S l p m M0 z.2 := OK_imp (m_isWordS ht h.1 w hw) fun z hz => ⟨hz.1, hz.2.1, TS_8 h (Or.inr hz.2.1) hz.2.2⟩
/-- an and or an or is put up -/
theorem m_joins (hx : x < 6) (ht : t.1 ≤ 400) {S : List Nat} {l : List Oq} {p m a k b : Nat} {r : Rt} {M : mM} {f2 : Nat} {l1 : Int32} (ha : a = 12 ∧ k = 2 ∨ a = 13 ∧ k = 1) (hb : b < 8) (hl1 : l1 = 1) (w : ¬ isw t b p = -1) (hz : Sz t S l p m) (hM : TS x t S l p m M0 M) (hk : MTk t (skp t p) M) (hf2 : t.1 + 1 < p + f2) (h : PF x t M0 (a :: (stl k S l).1) (stl k S l).2 (nxp t p) m r) : OK (f_Model_tested_76 (f_Model_tested_12 f2) l1 (i32 a) M) (Ps x t M0 r) := by
  have hn := isw_gt hb w
  obtain ⟨z1, z2, z3, z4⟩ := id hz
  unfold f_Model_tested_76
  refine OK_bind (m_passWord ht hk) fun M18 k18 => ?_
  rw [← nxp_w (t := t) (b := b) hb w] at k18
  have g18 := TS_8 hM (Or.inl k18.1) k18.2
  have es : srt a = k := by rcases ha with ⟨e1, e2⟩ | ⟨e1, e2⟩ <;> subst e1 e2 <;> rfl
  rw [m_strength a (by omega), Option.bind_some, es]
  have sz : Sz t S l (nxp t p) m := ⟨z1, by omega, hn.2, z4⟩
  refine OK_bind (m_settl hx ht (k := k) (by omega) sz g18) fun M20 k20 => ?_
  have sz2 := Sz_stl k sz
  have hlen := stl_len k S l
  obtain ⟨S', l', hS'⟩ : ∃ S' l', stl k S l = (S', l') := ⟨_, _, rfl⟩
  rw [hS'] at k20 sz2 hlen h
  have k20 : TS x t S' l' (nxp t p) m M0 M20 := k20
  have hlen : S'.length + l'.length = S.length + l.length := hlen
  have h : PF x t M0 (a :: S') l' (nxp t p) m r := h
  obtain ⟨s1, s2, s3, s4⟩ : Sz t S' l' (nxp t p) m := sz2
  obtain ⟨a1, a2, a3, a4, a5, a6, a7, a8⟩ := id k20
  rw [a5, wr_i32 (by omega) (by omega), Option.bind_some, pI_s, Option.bind_some, gIp (show 436 ≠ 443 by omega), a5, nadd_1, hl1]
  have ed : dpS (a :: S') = dpS S' := by
    show (if a = 11 ∨ a = 91 then 1 else 0) + dpS S' = _
    rw [if_neg (by omega), Nat.zero_add]
  have T : TS x t (a :: S') l' (nxp t p) m M0 (msI (msI M20 443 S'.length (i32 a)) 436 16 (i32 (S'.length + 1))) := by
    refine TS_S k20 rfl (fun p a b => by rw [gIp a, gIp b]) (fun i a b => by rw [gIo b, gIp (by omega)]) (gIe _ _ _ _) ?_ ⟨?_, stk_of S' (fun i hi => ?_) a7⟩
    · rw [gIo (by omega), gIp (by omega), ed]; exact a6
    · rw [gIp (by omega), gIe]
    · rw [gIp (by omega), gIo (by omega)]
  obtain ⟨f2, rfl⟩ : ∃ f', f2 = f' + 1 := ⟨f2 - 1, by omega⟩
  rw [tested_s]
  exact h _ FUEL f2 ⟨okS_c (by omega) s1, by rw [List.length_cons]; omega, hn.2, z4⟩ T (by rw [FUEL_eq]; omega) (by omega)
theorem m_settlP (hx : x < 6) (ht : t.1 ≤ 400) {k : Nat} (hk : 1 ≤ k ∧ k ≤ 3) {p m : Nat} {S : List Nat} {l : List Oq} {M : mM} (hz : Sz t S l p m) (h : TS x t S l p m M0 M) (hM : MTk t (skp t p) M) : OK (f_Model_settles (i32 k) M) fun M' => TS x t (stl k S l).1 (stl k S l).2 p m M0 M' ∧ MTk t (skp t p) M' := by
  have hge := skp_ge t p
  have hle := skp_le t hz.2.2.1
  refine OK_imp (m_settl (p := skp t p) hx ht hk ⟨hz.1, by have := hz.2.1; omega, hle, hz.2.2.2⟩ ⟨Or.inl hM, h.2⟩) fun M' h' => ?_
  have hm : MTk t (skp t p) M' := by
    rcases h'.1 with y | y
    · exact y
    · rw [skp_skp] at y; exact y
  exact ⟨⟨Or.inr hm, h'.2⟩, hm⟩
theorem PD_step (hx : x < 6) (ht : t.1 ≤ 400) (hT : OKT t) {S : List Nat} {l : List Oq} {p m : Nat} {r : Rt} (h1 : sgn t p 93 = true → 91 ∈ S → ∃ S' l', stl 1 S l = (91 :: S', l') ∧ PC x t M0 S' l' (nxp t p) m r) (h2 : ¬ (sgn t p 93 = true ∧ 91 ∈ S) → ¬ isw t 6 p = -1 → PF x t M0 (12 :: (stl 2 S l).1) (stl 2 S l).2 (nxp t p) m r) (h3 : ¬ (sgn t p 93 = true ∧ 91 ∈ S) → isw t 6 p = -1 → ¬ isw t 7 p = -1 → PF x t M0 (13 :: (stl 1 S l).1) (stl 1 S l).2 (nxp t p) m r) (h4 : ¬ (sgn t p 93 = true ∧ 91 ∈ S) → isw t 6 p = -1 → isw t 7 p = -1 → 91 ∈ S → r = .error (flt (skp t p) 0)) (h5 : isw t 6 p = -1 → isw t 7 p = -1 → ¬ 91 ∈ S → ∃ l', stl 1 S l = ([], l') ∧ r = .ok (l', p, m)) : PD x t M0 S l p m r := by
  intro M f f2 hz hM hf hf2
  obtain ⟨z1, z2, z3, z4⟩ := id hz
  obtain ⟨f, rfl⟩ : ∃ f', f = f' + 1 := ⟨f - 1, by omega⟩
  have hq := skp_le t z3
  rw [f_Model_closes_5, bind_as]
  refine OK_bind (m_seeS ht hM.1) fun y2 k2 => ?_
  obtain ⟨v2, m2, f2'⟩ := k2
  have g2 := TS_8 (p' := p) hM (Or.inr m2) f2'
  have b93 : (y2.1 = 93) = (sgn t p 93 = true) := by rw [v2]; exact byv_sgn hT (by decide) (by decide) (by decide)
  -- nothing is closed
  have go : ¬ (sgn t p 93 = true ∧ 91 ∈ S) → ∀ M1, TS x t S l p m M0 M1 → OK (Kc f2 M1) (Ps x t M0 r) := by
    intro hc M1 g1
    unfold Kc
    have ha := and_eq t p
    have ho := or_eq t p
    refine OK_bind (MT_word ht pw_and g1) fun y13 k13 => ?_
    obtain ⟨v13, m13, g13⟩ := k13
    cases ea : eqF t (wdE t (skp t p)) (skp t p) w_and with
    | true =>
      rw [ea, if_pos rfl] at ha
      have w : ¬ isw t 6 p = -1 := by rw [ha]; decide
      rw [v13, ea, if_neg (show ¬ e01 true = 0 by decide)]
      unfold f_Model_tested_49 f_Model_tested_54
      rw [if_neg (by decide)]
      refine OK_bind (MT_word ht pw_and g13) fun y16 k16 => ?_
      obtain ⟨v16, m16, g16⟩ := k16
      rw [v16, ea, if_neg (show ¬ e01 true = 0 by decide)]
      exact m_joins hx ht (a := 12) (b := 6) (Or.inl ⟨rfl, rfl⟩) (by omega) rfl w hz g16 m16 hf2 (h2 hc w)
    | false =>
      rw [ea, if_neg Bool.false_ne_true] at ha
      rw [v13, ea, if_pos (show e01 false = 0 from rfl)]
      refine OK_bind (MT_word ht pw_or g13) fun y23 k23 => ?_
      obtain ⟨v23, m23, g23⟩ := k23
      cases eo' : eqF t (wdE t (skp t p)) (skp t p) w_or with
      | true =>
        rw [eo', if_pos rfl] at ho
        have w : ¬ isw t 7 p = -1 := by rw [ho]; decide
        rw [v23, eo', if_neg (show ¬ e01 true = 0 by decide)]
        unfold f_Model_tested_49 f_Model_tested_54
        rw [if_neg (by decide)]
        refine OK_bind (MT_word ht pw_and g23) fun y16 k16 => ?_
        obtain ⟨v16, m16, g16⟩ := k16
        rw [v16, ea, if_pos (show e01 false = 0 from rfl)]
        exact m_joins hx ht (a := 13) (b := 7) (Or.inr ⟨rfl, rfl⟩) (by omega) rfl w hz g16 m16 hf2 (h3 hc ha w)
      | false =>
        rw [eo', if_neg Bool.false_ne_true] at ho
        rw [v23, eo', if_pos (show e01 false = 0 from rfl)]
        unfold f_Model_tested_54
        rw [if_pos rfl]
        obtain ⟨f2, rfl⟩ : ∃ f', f2 = f' + 1 := ⟨f2 - 1, by omega⟩
        rw [f_Model_tested_12, if_pos rfl]
        refine OK_bind (m_inside z1 (by omega) g23) fun y4 k4 => ?_
        obtain ⟨e4, k4⟩ := k4
        rcases k4 with ⟨c1, c2⟩ | ⟨c1, c2⟩
        · obtain ⟨l', e1, e2⟩ := h5 ha ho c2
          rw [c1, if_pos rfl, e4]
          refine OK_bind (m_settl hx ht (k := 1) (by omega) hz g23) fun M6 k6 => OK_some ?_
          rw [e1] at k6
          rw [e2]
          exact ⟨rfl, k6⟩
        · rw [c1, if_neg (by decide), e4]
          refine OK_bind (m_seeS ht g23.1) fun y7 k7 => ?_
          obtain ⟨v7, m7, f7⟩ := k7
          have g7 := TS_8 (p' := p) g23 (Or.inr m7) f7
          rw [m7.2.1, h4 hc ha ho c2]
          exact OK_imp (GM_failsB ht (TS_G g7) (k := 0) hq (by omega)) fun z hz => G_BT g7 hz
  by_cases s : sgn t p 93 = true
  · rw [if_pos (by rw [b93]; exact s), bind_as]
    refine OK_bind (m_inside z1 (by omega) g2) fun y4 k4 => ?_
    obtain ⟨e4, k4⟩ := k4
    rcases k4 with ⟨c1, c2⟩ | ⟨c1, c2⟩
    · rw [c1, if_pos rfl, Option.bind_some, e4]
      exact go (fun z => c2 z.2) y2.2 g2
    · have hn := sgn_gt s
      have e9 := nxp_sgn (by decide) (by decide) (by decide) (by decide) s
      obtain ⟨S', l', e1, hC⟩ := h1 s c2
      rw [c1, if_neg (by decide), e4, bind_as]
      have mk : ∀ M6, TS x t (stl 1 S l).1 (stl 1 S l).2 p m M0 M6 → TS x t (91 :: S') l' p m M0 M6 := fun M6 h => by rw [e1] at h; exact h
      -- the settling keeps the place
      refine OK_bind (m_settlP hx ht (k := 1) (by omega) hz g2 m2) fun M6 k6 => ?_
      have g6 := mk M6 k6.1
      have m6 := k6.2
      obtain ⟨a1, a2, a3, a4, a5, a6, a7, a8⟩ := id g6
      have hlen := stl_len 1 S l
      rw [e1] at hlen
      have hlen : S'.length + 1 + l'.length = S.length + l.length := hlen
      have okS' : okS S' := by
        have := stl_ok 1 S l z1
        rw [e1] at this
        exact okS_t this
      have a5 : M6.2.1 436 16 = i32 (S'.length + 1) := a5
      have a6 : M6.2.1 436 13 = i32 (dpS (91 :: S')) := a6
      have ed : dpS (91 :: S') = dpS S' + 1 := Nat.add_comm _ _
      rw [a5, show (1 : Int32) = i32 1 from rfl, i32_sub (by omega), show S'.length + 1 - 1 = S'.length by omega, pI_s, Option.bind_some, gIo (by omega), a6, ed, i32_sub (by omega), show dpS S' + 1 - 1 = dpS S' by omega, pI_s, Option.bind_some, gIo (by omega), gIo (by omega), m6.2.1, i32_add, ← e9, pI_s, Option.bind_some]
      have T0 : TS x t S' l' p m M0 (msI (msI M6 436 16 (i32 S'.length)) 436 13 (i32 (dpS S'))) := by
        refine TS_S g6 rfl (fun p a b => by rw [gIp a, gIp a]) (fun i a b => by rw [gIo a, gIo b]) ?_ (gIe _ _ _ _) ?_
        · rw [gIo (by omega), gIe]
        · rw [gIp (by omega), gIp (by omega)]; exact a7.2
      have mT : MTk t (skp t p) (msI (msI M6 436 16 (i32 S'.length)) 436 13 (i32 (dpS S'))) := by
        refine ⟨⟨?_, ?_⟩, ?_, ?_, m6.2.2.2⟩
        · rw [gIo (by omega), gIo (by omega)]; exact m6.1.1
        · rw [gIp (by omega), gIp (by omega)]; exact m6.1.2
        · rw [gIo (by omega), gIo (by omega)]; exact m6.2.1
        · rw [gIo (by omega), gIo (by omega)]; exact m6.2.2.1
      have T1 := TS_8 T0 (Or.inl (MTk_at mT hn.2)) Fr8_I
      have sz : Sz t S' l' (nxp t p) m := ⟨okS', by omega, hn.2, z4⟩
      rw [bind_as]
      refine OK_bind (m_settl hx ht (k := 3) (by omega) sz T1) fun M10 k10 => ?_
      exact hC M10 f f2 (Sz_stl 3 sz) k10 (by omega) (by omega)
  · rw [if_neg (by rw [b93]; exact s), Option.bind_some]
    exact go (fun z => s z.1) y2.2 g2
end
