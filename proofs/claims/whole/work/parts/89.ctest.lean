/-! ===== a rule is read: the class, tests ===== -/
theorem BS_170 {S : Nat} (hr : is_ru S) (hS : 13 ≤ S) {t : Tp} {w : Nat} {M0 M : mM} (h : BS S t w M0 M) (gT gF : Int32 → mM → Option mM) (d x : Int32) : OK (f_RuleReader_readFact_170 gT gF d x M) fun M' => BS S t w M0 M' := by
  unfold f_RuleReader_readFact_170
  refine OK_bind (BS_count hS h) fun M1 h1 => ?_
  rw [CRf_adv h1.1, Option.bind_some]
  refine OK_bind (BS_sum hr hS h1) fun M2 h2 => ?_
  rw [BS_nn hr h2, Option.bind_some]
  exact OK_bind (BS_emit hS h2 x) fun M3 h3 => OK_some h3
theorem c_cmp {S : Nat} (hr : is_ru S) (hS : 13 ≤ S) {t : Tp} (ht : t.1 ≤ 400) (gT gF : Int32 → mM → Option mM) (d : Int32) {l : List Oq} {p m : Nat} {M0 M : mM} (hp : p ≤ t.1) (hm : m ≤ 60) (hl : l.length ≤ p) (h : GS S t p m l M0 M) : OK (f_RuleReader_readFact_60 gT gF d 0 0 M) fun M' => RsS S t l (sCmp t p m) M0 M' := by
  unfold f_RuleReader_readFact_60 sCmp
  rw [if_pos rfl, if_pos rfl]
  refine OK_bind (c_sum hr hS ht hp hm hl h) fun M1 h1 => ?_
  cases ea : sSum t p m with
  | error w =>
    rw [ea] at h1
    have h1 : BS S t w M0 M1 := h1
    rw [BS_sign h1.1, Option.bind_some, if_pos (show ((-1 : Int32), M1).1 = -1 from rfl)]
    dsimp only
    rw [CRf_rf h1.1, Option.bind_some, ebd_e]
    exact BS_170 hr hS h1 gT gF d _
  | ok a =>
    obtain ⟨a, p1, m1⟩ := a
    rw [ea] at h1
    have h1 : GS S t p1 m1 (l ++ a) M0 M1 := h1
    have ka := sSum_ok (b := l.length) (c := 0) hl (Nat.zero_le _) ea
    obtain ⟨⟨a1, a2, a3, a4, a5⟩, a6⟩ := ka
    have a2 : l.length + a.length ≤ p1 := a2
    have a4 : m1 ≤ 60 := a4
    have a5 : p1 ≤ t.1 := a5
    rw [ebd_o, c_sgC h1.1, Option.bind_some]
    dsimp only
    cases es : sgC t p1 with
    | none =>
      rw [obd_n, show eo none = -1 from rfl, if_pos rfl]
      exact OK_bind (c_refuse ht a5 (k := 0) (by omega) h1.1) fun M2 h2 => BS_170 hr hS (GS_B hS h1 h2) gT gF d _
    | some s =>
      have hs := sgC_k es
      rw [obd_s, show eo (some s) = cB s from rfl, if_neg (cB_n1 (by omega))]
      unfold f_RuleReader_readFact_170
      refine OK_bind (GS_count ht hS a5 a4 h1) fun M2 h2 => ?_
      by_cases c : 60 ≤ m1
      · have h2 := h2.1 c
        rw [if_pos c, CRf_adv h2.1, Option.bind_some]
        refine OK_bind (BS_sum hr hS h2) fun M3 h3 => ?_
        rw [BS_nn hr h3, Option.bind_some]
        exact OK_bind (BS_emit hS h3 _) fun M4 h4 => OK_some h4
      · have h2 := h2.2 c
        rw [if_neg c]
        refine OK_bind (c_adv ht a5 h2.1) fun M3 h3 => ?_
        have g3 := GS_X hS h2 h3
        refine OK_bind (c_sum hr hS ht hs.2.2.2.2 (by omega) (by rw [List.length_append]; omega) g3) fun M4 h4 => ?_
        cases eb : sSum t (nxp t p1) (m1 + 1) with
        | error w =>
          rw [eb] at h4
          have h4 : BS S t w M0 M4 := h4
          rw [ebd_e, BS_nn hr h4, Option.bind_some]
          exact OK_bind (BS_emit hS h4 _) fun M5 h5 => OK_some h5
        | ok y =>
          obtain ⟨y, p2, m2⟩ := y
          rw [eb] at h4
          have h4 : GS S t p2 m2 (l ++ a ++ y) M0 M4 := h4
          have ky := sSum_ok (b := l.length + a.length + 1) (c := 0) (by omega) (Nat.zero_le _) eb
          obtain ⟨⟨b1, b2, b3, b4, b5⟩, b6⟩ := ky
          have b2 : l.length + a.length + 1 + y.length ≤ p2 := b2
          have b5 : p2 ≤ t.1 := b5
          rw [ebd_o, GS_nn hr h4, Option.bind_some]
          refine OK_bind (GS_emit hS (o := (2, s)) h4 (by rw [List.length_append, List.length_append]; omega)) fun M5 h5 => OK_some ?_
          show GS S t p2 m2 (l ++ (a ++ y ++ [(2, s)])) M0 M5
          have : l ++ (a ++ y ++ [(2, s)]) = l ++ a ++ y ++ [(2, s)] := by simp only [List.append_assoc]
          rw [this]
          exact h5
/-- a reader of facts does what is told of it -/
def FcC (S : Nat) (t : Tp) (M0 : mM) (gF : Int32 → mM → Option mM) (d : Int32) (fc : Nat → Nat → Rs) : Prop := ∀ p m l M, p ≤ t.1 → m ≤ 60 → l.length ≤ p → GS S t p m l M0 M → OK (gF d M) fun M' => RsS S t l (fc p m) M0 M'
theorem BS_63 {S : Nat} (hr : is_ru S) (hS : 13 ≤ S) {t : Tp} {w : Nat} {M0 M : mM} (h : BS S t w M0 M) (gT gF : Int32 → mM → Option mM) (d : Int32) (f : Nat) (i : Int32) : OK (f_RuleReader_readTest_63 gT gF d (f_RuleReader_readTest_4 gT gF d (f + 1)) i M) fun M' => BS S t w M0 M' := by
  have stop : ∀ M1 : mM, BS S t w M0 M1 → OK (f_RuleReader_readTest_76 gT gF d (f_RuleReader_readTest_4 gT gF d (f + 1)) i M1) fun M' => BS S t w M0 M' := by
    intro M1 h1
    unfold f_RuleReader_readTest_76
    rw [CRf_tw h1.1, Option.bind_some, f_RuleReader_readTest_4]
    by_cases c : (400 : Int32) ≤ i + 1
    · rw [if_pos c]; exact OK_some h1
    · rw [if_neg c, if_pos rfl]; exact OK_some h1
  unfold f_RuleReader_readTest_63
  by_cases c : i ≤ 0
  · rw [if_pos c]; exact stop M h
  · rw [if_neg c, BS_nn hr h, Option.bind_some]
    exact OK_bind (BS_emit hS h _) fun M1 h1 => stop M1 h1
theorem BS_23 {S : Nat} {t : Tp} {w : Nat} {M0 M : mM} (h : BS S t w M0 M) (gT gF : Int32 → mM → Option mM) (d : Int32) (k4 : Int32 → Int32 → mM → Option mM) (f : Nat) (i j : Int32) {Q : mM → Prop} (hQ : OK (f_RuleReader_readTest_63 gT gF d k4 i M) Q) : OK (f_RuleReader_readTest_23 gT gF d k4 (f + 1) i j M) Q := by
  rw [f_RuleReader_readTest_23]
  by_cases c : (400 : Int32) ≤ j
  · rw [if_pos c]; exact hQ
  · rw [if_neg c, CRf_tw h.1, Option.bind_some, if_pos (show ((0 : Int32), M).1 = 0 from rfl)]
    exact hQ
theorem c_and {S : Nat} (hr : is_ru S) (hS : 13 ≤ S) {t : Tp} (ht : t.1 ≤ 400) {gT gF : Int32 → mM → Option mM} {d : Int32} {fc : Nat → Nat → Rs} {M0 : mM} (hF : FcC S t M0 gF d fc) (hO : FcOK t fc) {k4 : Int32 → Int32 → mM → Option mM} {i : Int32} {l : List Oq} {Q : mM → Prop} : ∀ (f k j p m : Nat) (e : List Oq) (M : mM), t.1 + 1 < p + f → t.1 < p + k → 2 * j ≤ p → p ≤ t.1 → m ≤ 60 → l.length + e.length ≤ p → GS S t p m (l ++ e) M0 M → (∀ M', RsS S t l (sAnd t fc k p m e) M0 M' → OK (f_RuleReader_readTest_63 gT gF d k4 i M') Q) → OK (f_RuleReader_readTest_23 gT gF d k4 f i (i32 j) M) Q
  | 0, k, j, p, m, e, M, hf, hk, hj, hp, hm, hl, h, hQ => by omega
  | f + 1, k, j, p, m, e, M, hf, hk, hj, hp, hm, hl, h, hQ => by
    obtain ⟨k, rfl⟩ : ∃ k', k = k' + 1 := ⟨k - 1, by omega⟩
    rw [f_RuleReader_readTest_23, if_neg (by rw [show (400 : Int32) = i32 400 from rfl, i32_le (by omega) (by omega)]; omega)]
    rw [sAnd] at hQ
    by_cases c : isw t 6 p = -1
    · rw [c_take0 ht (by omega) hp h.1 c, Option.bind_some, if_pos (show ((0 : Int32), M).1 = 0 from rfl)]
      rw [if_pos c] at hQ
      exact hQ M h
    · have hn := isw_gt (by omega) c
      rw [if_neg c] at hQ
      refine OK_bind (c_take1 ht (by omega) hp h.1 c) fun z1 h1 => ?_
      rw [h1.1, if_neg (by decide)]
      have g1 := GS_X hS h h1.2
      refine OK_bind (hF _ _ _ _ hn.2 hm (by rw [List.length_append]; omega) g1) fun M2 h2 => ?_
      cases ez : fc (nxp t p) m with
      | error w =>
        rw [ez] at h2 hQ
        have h2 : BS S t w M0 M2 := h2
        rw [BS_nn hr h2, Option.bind_some]
        refine OK_bind (BS_emit hS h2 _) fun M3 h3 => ?_
        obtain ⟨f, rfl⟩ : ∃ f', f = f' + 1 := ⟨f - 1, by omega⟩
        exact BS_23 h3 gT gF d k4 f i _ (hQ M3 h3)
      | ok z =>
        obtain ⟨z, p1, m1⟩ := z
        rw [ez] at h2 hQ
        have h2 : GS S t p1 m1 (l ++ e ++ z) M0 M2 := h2
        obtain ⟨⟨b1, b2, b3, b4, b5⟩, b6, b7⟩ := hO (l.length + e.length + 1) 0 _ _ _ (by omega) (Nat.zero_le _) ez
        have b2 : l.length + e.length + 1 + z.length ≤ p1 := b2
        have b4 : m1 ≤ 60 := b4
        have b5 : p1 ≤ t.1 := b5
        have b6 : nxp t p < p1 := b6
        rw [GS_nn hr h2, Option.bind_some]
        refine OK_bind (GS_emit hS (o := (2, 10)) h2 (by rw [List.length_append, List.length_append]; omega)) fun M3 h3 => ?_
        have el : l ++ (e ++ z ++ [(2, 10)]) = l ++ e ++ z ++ [(2, 10)] := by simp only [List.append_assoc]
        rw [nadd_1]
        exact c_and hr hS ht hF hO f k (j + 1) p1 m1 (e ++ z ++ [(2, 10)]) M3 (by omega) (by omega) (by omega) b5 b4 (by rw [List.length_append, List.length_append]; show l.length + (e.length + z.length + 1) ≤ p1; omega) (by rw [el]; exact h3) hQ
theorem c_or {S : Nat} (hr : is_ru S) (hS : 13 ≤ S) {t : Tp} (ht : t.1 ≤ 400) {gT gF : Int32 → mM → Option mM} {d : Int32} {fc : Nat → Nat → Rs} {M0 : mM} (hF : FcC S t M0 gF d fc) (hO : FcOK t fc) {l : List Oq} : ∀ (f k i p m : Nat) (T : Pd) (M : mM), t.1 + 1 < p + f → t.1 < p + k → 2 * i ≤ p → p ≤ t.1 → m ≤ 60 → (T = none ∧ i = 0 ∨ (∃ e, T = some (11, e)) ∧ 0 < i) → l.length + (ja T).length + pn T ≤ p → GS S t p m (l ++ ja T) M0 M → OK (f_RuleReader_readTest_4 gT gF d f 1 (i32 i) M) fun M' => RsS S t l (ebd (fc p m) fun z => ebd (sAnd t fc 401 z.2.1 z.2.2 z.1) fun y => sOr t fc k y.2.1 y.2.2 (jo T y.1)) M0 M'
  | 0, k, i, p, m, T, M, hf, hk, hi, hp, hm, hT, hl, h => by omega
  | f + 1, k, i, p, m, T, M, hf, hk, hi, hp, hm, hT, hl, h => by
    obtain ⟨f, rfl⟩ : ∃ f', f = f' + 1 := ⟨f - 1, by omega⟩
    obtain ⟨k, rfl⟩ : ∃ k', k = k' + 1 := ⟨k - 1, by omega⟩
    rw [f_RuleReader_readTest_4, if_neg (by rw [show (400 : Int32) = i32 400 from rfl, i32_le (by omega) (by omega)]; omega), if_neg (by decide)]
    refine OK_bind (hF _ _ _ _ hp hm (by rw [List.length_append]; omega) h) fun M1 h1 => ?_
    cases ez : fc p m with
    | error w =>
      rw [ez] at h1
      have h1 : BS S t w M0 M1 := h1
      rw [ebd_e, show FUEL = 99999 + 1 from rfl]
      exact BS_23 h1 gT gF d _ _ _ _ (BS_63 hr hS h1 gT gF d f _)
    | ok z =>
      obtain ⟨z, p1, m1⟩ := z
      rw [ez] at h1
      have h1 : GS S t p1 m1 (l ++ ja T ++ z) M0 M1 := h1
      have kz := hO (l.length + (ja T).length + pn T) 0 _ _ _ (by omega) (Nat.zero_le _) ez
      obtain ⟨⟨b1, b2, b3, b4, b5⟩, b6, b7⟩ := id kz
      have b2 : l.length + (ja T).length + pn T + z.length ≤ p1 := b2
      have b4 : m1 ≤ 60 := b4
      have b5 : p1 ≤ t.1 := b5
      have b6 : p < p1 := b6
      rw [ebd_o]
      refine c_and hr hS ht hF hO FUEL 401 0 p1 m1 z M1 (by rw [FUEL_eq]; omega) (by omega) (by omega) b5 b4 (by rw [List.length_append]; omega) h1 fun M2 h2 => ?_
      show OK _ fun M' => RsS S t l (ebd (sAnd t fc 401 p1 m1 z) _) M0 M'
      cases ey : sAnd t fc 401 p1 m1 z with
      | error w =>
        rw [ey] at h2
        rw [ebd_e]
        exact BS_63 hr hS h2 gT gF d f _
      | ok y =>
        obtain ⟨y, p2, m2⟩ := y
        rw [ey] at h2
        have h2 : GS S t p2 m2 (l ++ ja T ++ y) M0 M2 := h2
        obtain ⟨⟨c1, c2, c3, c4, c5⟩, c6, c7⟩ := sAnd_ok hO 401 p1 m1 z _ kz.1 kz.2.2 ey
        have c2 : l.length + (ja T).length + pn T + y.length ≤ p2 := c2
        have c4 : m2 ≤ 60 := c4
        have c5 : p2 ≤ t.1 := c5
        have c6 : p1 ≤ p2 := c6
        rw [ebd_o]
        dsimp only
        have lj : (jo T y).length = (ja T).length + y.length + pn T := by
          cases T with
          | none => show y.length = 0 + y.length + 0; omega
          | some q => show (q.2 ++ y ++ [(2, q.1)]).length = _; rw [List.length_append, List.length_append]; rfl
        have key : ∀ M3 : mM, GS S t p2 m2 (l ++ jo T y) M0 M3 → OK (f_RuleReader_readTest_76 gT gF d (f_RuleReader_readTest_4 gT gF d (f + 1)) (i32 i) M3) fun M' => RsS S t l (sOr t fc (k + 1) p2 m2 (jo T y)) M0 M' := by
          intro M3 h3
          unfold f_RuleReader_readTest_76
          rw [sOr]
          by_cases c : isw t 7 p2 = -1
          · rw [c_take0 ht (by omega) c5 h3.1 c, Option.bind_some, if_pos c, f_RuleReader_readTest_4]
            dsimp only
            by_cases c9 : (400 : Int32) ≤ i32 i + 1
            · rw [if_pos c9]; exact OK_some h3
            · rw [if_neg c9, if_pos rfl]; exact OK_some h3
          · have hn := isw_gt (by omega) c
            rw [if_neg c]
            refine OK_bind (c_take1 ht (by omega) c5 h3.1 c) fun z4 h4 => ?_
            have g4 := GS_X hS h3 h4.2
            rw [h4.1, nadd_1]
            exact c_or hr hS ht hF hO (f + 1) k (i + 1) (nxp t p2) m2 (some (11, jo T y)) z4.2 (by omega) (by omega) (by omega) hn.2 c4 (Or.inr ⟨⟨_, rfl⟩, by omega⟩) (by show l.length + (jo T y).length + 1 ≤ _; rw [lj]; omega) g4
        unfold f_RuleReader_readTest_63
        rcases hT with ⟨hT1, hT2⟩ | ⟨⟨e, hT1⟩, hT2⟩
        · rw [if_pos (by rw [hT2]; decide)]
          refine key M2 ?_
          rw [hT1] at h2 ⊢
          have : l ++ ja none ++ y = l ++ jo none y := by show l ++ [] ++ y = l ++ y; rw [List.append_nil]
          rw [← this]
          exact h2
        · rw [if_neg (by rw [show (0 : Int32) = i32 0 from rfl, i32_le (by omega) (by omega)]; omega), GS_nn hr h2, Option.bind_some]
          have e1 : pn T = 1 := by rw [hT1]; rfl
          refine OK_bind (GS_emit hS (o := (2, 11)) h2 (by rw [List.length_append, List.length_append]; omega)) fun M3 h3 => ?_
          refine key M3 ?_
          rw [hT1] at h3 ⊢
          have : l ++ ja (some (11, e)) ++ y ++ [(2, 11)] = l ++ jo (some (11, e)) y := by
            show l ++ e ++ y ++ [(2, 11)] = l ++ (e ++ y ++ [(2, 11)])
            simp only [List.append_assoc]
          rw [← this]
          exact h3
  termination_by f => f
theorem c_test {S : Nat} (hr : is_ru S) (hS : 13 ≤ S) {t : Tp} (ht : t.1 ≤ 400) {gT gF : Int32 → mM → Option mM} {d : Int32} {fc : Nat → Nat → Rs} {M0 : mM} (hF : FcC S t M0 gF d fc) (hO : FcOK t fc) {l : List Oq} {p m : Nat} {M : mM} (hp : p ≤ t.1) (hm : m ≤ 60) (hl : l.length ≤ p) (h : GS S t p m l M0 M) : OK (f_RuleReader_readTest_b gT gF d M) fun M' => RsS S t l (sTst t fc p m) M0 M' := by
  unfold f_RuleReader_readTest_b sTst
  exact c_or hr hS ht hF hO FUEL 401 0 p m none M (by rw [FUEL_eq]; omega) (by omega) (by omega) hp hm (Or.inl ⟨rfl, rfl⟩) (by show l.length + 0 + 0 ≤ p; omega) (by show GS S t p m (l ++ []) M0 M; rw [List.append_nil]; exact h)
theorem c_fact {S : Nat} (hr : is_ru S) (hS : 13 ≤ S) {t : Tp} (ht : t.1 ≤ 400) {M0 : mM} : ∀ (n N d : Nat), 11 ≤ n + d → d ≤ 10 → 2 * n ≤ N → FcC S t M0 (f_RuleReader_readFact N) (i32 d) (sFct t n d)
  | 0, N, d, h1, h2, h3 => by omega
  | n + 1, N, d, h1, h2, h3 => by
    intro p m l M hp hm hl h
    obtain ⟨N, rfl⟩ : ∃ N', N = N' + 1 + 1 := ⟨N - 2, by omega⟩
    show OK (f_RuleReader_readFact_b (f_rec (N + 1)).1 (f_rec (N + 1)).2 (i32 d) M) _
    unfold f_RuleReader_readFact_b
    rw [c_wordAmong ht (by omega) hp h.1, Option.bind_some, sFct]
    show OK (if isw t 5 p = -1 then _ else _) _
    have deep : ∀ (x : Int32), ¬ d < 10 → OK (f_RuleReader_readFact_40 (f_rec (N + 1)).1 (f_rec (N + 1)).2 (i32 d) x 1 M) fun M' => RsS S t l (.error (flt (skp t p) 2)) M0 M' := by
      intro x hd
      unfold f_RuleReader_readFact_40
      rw [if_neg (by decide), if_neg (by rw [show (10 : Int32) = i32 10 from rfl, i32_lt (by omega) (by omega)]; exact hd)]
      exact OK_bind (c_refuse ht hp (k := 2) (by omega) h.1) fun M1 h1 => OK_some (GS_B hS h h1)
    by_cases w : isw t 5 p = -1
    · rw [if_pos w, if_neg (fun z => z w)]
      unfold f_RuleReader_readFact_18
      rw [if_pos rfl]
      dsimp only
      rw [c_sign h.1, Option.bind_some]
      cases es : sgn t p 91 with
      | false =>
        rw [if_pos (show (e01 false, M).1 = 0 from rfl), if_neg Bool.false_ne_true]
        unfold f_RuleReader_readFact_40
        rw [if_pos rfl]
        exact c_cmp hr hS ht _ _ _ hp hm hl h
      | true =>
        have hn := sgn_gt es
        rw [if_neg (fun z => absurd z (show ¬ e01 true = 0 by decide)), if_pos rfl]
        unfold f_RuleReader_readFact_35
        by_cases d10 : d < 10
        · rw [if_neg (show ¬ 10 ≤ d by omega)]
          unfold f_RuleReader_readFact_40
          rw [if_neg (by decide), if_pos (by rw [show (10 : Int32) = i32 10 from rfl, i32_lt (by omega) (by omega)]; exact d10)]
          unfold f_RuleReader_readFact_60
          rw [if_pos rfl, if_neg (by decide)]
          refine OK_bind (c_adv ht hp h.1) fun M1 h1' => ?_
          have g1 := GS_X hS h h1'
          rw [nadd_1]
          refine OK_bind (c_test hr hS ht (c_fact hr hS ht n N (d + 1) (by omega) (by omega) (by omega)) (sFct_ok n (d + 1)) hn.2 hm (by omega) g1) fun M2 h2' => ?_
          cases ez : sTst t (sFct t n (d + 1)) (nxp t p) m with
          | error w' =>
            rw [ez] at h2'
            have h2' : BS S t w' M0 M2 := h2'
            rw [ebd_e, CRf_sg h2'.1, Option.bind_some, if_pos (show ((0 : Int32), M2).1 = 0 from rfl)]
            dsimp only
            rw [CRf_rf h2'.1, Option.bind_some]
            unfold f_RuleReader_readFact_126
            rw [CRf_adv h2'.1, Option.bind_some]
            exact OK_some h2'
          | ok z =>
            obtain ⟨z, p1, m1⟩ := z
            rw [ez] at h2'
            have h2' : GS S t p1 m1 (l ++ z) M0 M2 := h2'
            obtain ⟨⟨b1, b2, b3, b4, b5⟩, b6, b7⟩ := sTst_ok (sFct_ok n (d + 1)) (b := 0) (c := 0) (Nat.zero_le _) (Nat.zero_le _) ez
            have b5 : p1 ≤ t.1 := b5
            rw [ebd_o, c_sign h2'.1, Option.bind_some]
            dsimp only
            unfold f_RuleReader_readFact_126
            cases eg : sgn t p1 93 with
            | false =>
              rw [if_pos (show e01 false = 0 from rfl), if_neg Bool.false_ne_true]
              refine OK_bind (c_refuse ht b5 (k := 0) (by omega) h2'.1) fun M3 h3' => ?_
              have q3 := GS_B hS h2' h3'
              rw [CRf_adv q3.1, Option.bind_some]
              exact OK_some q3
            | true =>
              rw [if_neg (show ¬ e01 true = 0 by decide), if_pos rfl]
              exact OK_bind (c_adv ht b5 h2'.1) fun M3 h3' => OK_some (GS_X hS h2' h3')
        · rw [if_pos (show 10 ≤ d by omega)]
          exact deep _ d10
    · have hn := isw_gt (by omega) w
      rw [if_neg w, if_pos w]
      unfold f_RuleReader_readFact_18
      rw [if_neg (by decide)]
      unfold f_RuleReader_readFact_35
      by_cases d10 : d < 10
      · rw [if_neg (show ¬ 10 ≤ d by omega)]
        unfold f_RuleReader_readFact_40
        rw [if_neg (by decide), if_pos (by rw [show (10 : Int32) = i32 10 from rfl, i32_lt (by omega) (by omega)]; exact d10)]
        unfold f_RuleReader_readFact_60
        rw [if_neg (by decide)]
        refine OK_bind (c_adv ht hp h.1) fun M1 h1' => ?_
        have g1 := GS_X hS h h1'
        rw [nadd_1]
        refine OK_bind (c_fact hr hS ht n (N + 1) (d + 1) (by omega) (by omega) (by omega) _ _ _ _ hn.2 hm (by omega) g1) fun M2 h2' => ?_
        cases ez : sFct t n (d + 1) (nxp t p) m with
        | error w' =>
          rw [ez] at h2'
          have h2' : BS S t w' M0 M2 := h2'
          rw [ebd_e, BS_nn hr h2', Option.bind_some]
          exact OK_bind (BS_emit hS h2' _) fun M3 h3' => OK_some h3'
        | ok z =>
          obtain ⟨z, p1, m1⟩ := z
          rw [ez] at h2'
          have h2' : GS S t p1 m1 (l ++ z) M0 M2 := h2'
          obtain ⟨⟨b1, b2, b3, b4, b5⟩, b6, b7⟩ := sFct_ok n (d + 1) (l.length + 1) 0 _ _ _ (by omega) (Nat.zero_le _) ez
          have b2 : l.length + 1 + z.length ≤ p1 := b2
          have b5 : p1 ≤ t.1 := b5
          rw [ebd_o, GS_nn hr h2', Option.bind_some]
          refine OK_bind (GS_emit hS (o := (3, 0)) h2' (by rw [List.length_append]; omega)) fun M3 h3' => OK_some ?_
          show GS S t p1 m1 (l ++ (z ++ [(3, 0)])) M0 M3
          rw [← List.append_assoc]
          exact h3'
      · rw [if_pos (show 10 ≤ d by omega)]
        exact deep _ d10
