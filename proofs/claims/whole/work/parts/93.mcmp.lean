/-! ===== a rule is read: the model, facts made of a sign ===== -/
theorem two_no {t : Tp} {q : Nat} (h : t.2 q ≠ 60) (h2 : t.2 q ≠ 62) : two t q = false := by
  cases e : two t q with
  | false => rfl
  | true => rcases two_60 e with z | z; exact absurd z h; exact absurd z h2
theorem sgC_60 {t : Tp} {p : Nat} (h : skp t p < t.1 ∧ t.2 (skp t p) = 60) : sgC t p = some (if two t (skp t p) = true then 6 else 5) ∧ nxp t p = if two t (skp t p) = true then skp t p + 2 else skp t p + 1 := by
  have hk := knd_c (c := 60) (by decide) h
  have hn : nxp t p = if two t (skp t p) = true then skp t p + 2 else skp t p + 1 := bhd_3 hk
  refine ⟨?_, hn⟩
  have hv := val_3 hk
  rw [h.2] at hv
  unfold sgC
  simp only [sgn_v hk]
  rw [hv]
  cases two t (skp t p) with
  | true => decide
  | false => decide
theorem sgC_62 {t : Tp} {p : Nat} (h : skp t p < t.1 ∧ t.2 (skp t p) = 62) : sgC t p = some (if two t (skp t p) = true then 8 else 9) ∧ nxp t p = if two t (skp t p) = true then skp t p + 2 else skp t p + 1 := by
  have hk := knd_c (c := 62) (by decide) h
  have hn : nxp t p = if two t (skp t p) = true then skp t p + 2 else skp t p + 1 := bhd_3 hk
  refine ⟨?_, hn⟩
  have hv := val_3 hk
  rw [h.2] at hv
  unfold sgC
  simp only [sgn_v hk]
  rw [hv]
  cases two t (skp t p) with
  | true => decide
  | false => decide
theorem sgC_61 {t : Tp} {p : Nat} (h : skp t p < t.1 ∧ t.2 (skp t p) = 61) : sgC t p = some 7 ∧ nxp t p = skp t p + 1 := by
  have hk := knd_c (c := 61) (by decide) h
  have h2 := two_no (t := t) (q := skp t p) (by rw [h.2]; decide) (by rw [h.2]; decide)
  have hn : nxp t p = if two t (skp t p) = true then skp t p + 2 else skp t p + 1 := bhd_3 hk
  have hv := val_3 hk
  rw [h2, if_neg Bool.false_ne_true] at hn hv
  rw [h.2] at hv
  refine ⟨?_, hn⟩
  unfold sgC
  simp only [sgn_v hk]
  rw [hv]
  decide
theorem b8_big : ∀ n : Fin 256, (Int8.ofNat n.1).toInt32 ≠ 316 ∧ (Int8.ofNat n.1).toInt32 ≠ 318 := by decide +kernel
theorem b8_no {t : Tp} (hT : OKT t) {q : Nat} (hq : q < t.1) : t.2 q ≠ 316 ∧ t.2 q ≠ 318 := by
  obtain ⟨z, hz⟩ := hT q hq
  rw [hz, b8 z]
  exact b8_big ⟨z.toBitVec.toNat, z.toBitVec.isLt⟩
theorem sgC_no {t : Tp} (hT : OKT t) {p : Nat} (h0 : ¬ (skp t p < t.1 ∧ t.2 (skp t p) = 60)) (h1 : ¬ (skp t p < t.1 ∧ t.2 (skp t p) = 61)) (h2 : ¬ (skp t p < t.1 ∧ t.2 (skp t p) = 62)) : sgC t p = none := by
  by_cases hk : knd t (skp t p) = 3
  · have hl := knd_lt (t := t) (q := skp t p) (by rw [hk]; decide)
    have ht := two_no (t := t) (q := skp t p) (fun z => h0 ⟨hl, z⟩) (fun z => h2 ⟨hl, z⟩)
    have hv := val_3 hk
    rw [ht, if_neg Bool.false_ne_true] at hv
    have n316 : ¬ val t (skp t p) = 316 ∧ ¬ val t (skp t p) = 318 := by
      rw [hv]
      exact b8_no hT hl
    unfold sgC
    rw [if_neg (by rw [sgn_v hk, hv]; exact fun z => h0 ⟨hl, z⟩), if_neg (by rw [sgn_v hk]; exact n316.1), if_neg (by rw [sgn_v hk, hv]; exact fun z => h1 ⟨hl, z⟩), if_neg (by rw [sgn_v hk]; exact n316.2), if_neg (by rw [sgn_v hk, hv]; exact fun z => h2 ⟨hl, z⟩)]
  · unfold sgC
    rw [if_neg (sgn_no hk _), if_neg (sgn_no hk _), if_neg (sgn_no hk _), if_neg (sgn_no hk _), if_neg (sgn_no hk _)]
theorem m_c152 {x : Nat} (hx : x < 6) {t : Tp} (ht : t.1 ≤ 400) (hT : OKT t) {p m s : Nat} {s0 : Int32} {l a : List Oq} {M0 M : mM} (hs : 6 + s0 = mB s) (hp : p ≤ t.1) (hm : m ≤ 60) (hl : l.length + a.length + 1 ≤ p) (h : GM x t p m (l ++ a) M0 M) : OK (f_Model_compare_152 s0 M) fun z => RsMs x t l (ebd (sSum t p m) fun b => .ok (a ++ b.1 ++ [(2, s)], b.2.1, b.2.2)) M0 z := by
  unfold f_Model_compare_152
  refine OK_bind (m_sum hx ht hT hp hm (by rw [List.length_append]; omega) h) fun z h1 => ?_
  cases eb : sSum t p m with
  | error w =>
    rw [eb] at h1
    rw [h1.1, if_pos rfl, ebd_e]
    exact OK_some ⟨rfl, h1.2⟩
  | ok b =>
    rw [eb] at h1
    obtain ⟨⟨b1, b2, b3, b4, b5⟩, b6⟩ := sSum_ok (b := l.length + a.length + 1) (c := 0) hl (Nat.zero_le _) eb
    rw [h1.1, if_neg (by decide), ebd_o, hs]
    refine OK_bind (GM_puts hx h1.2 (by rw [List.length_append, List.length_append]; omega) mE_2) fun M' h' => OK_some ⟨rfl, ?_⟩
    show GM x t b.2.1 b.2.2 (l ++ (a ++ b.1 ++ [(2, s)])) M0 M'
    have : l ++ (a ++ b.1 ++ [(2, s)]) = l ++ a ++ b.1 ++ [(2, s)] := by simp only [List.append_assoc]
    rw [this]
    exact h'
theorem m_c105 {x : Nat} (hx : x < 6) {t : Tp} (ht : t.1 ≤ 400) (hT : OKT t) {p q m s : Nat} {l1 l3 : Int32} {l a : List Oq} {M0 M : mM} (hs : (l1 = 60 ∧ l3 = 0 ∧ s = 5) ∨ (l1 = 60 ∧ l3 = 1 ∧ s = 6) ∨ (l1 = 61 ∧ l3 = 0 ∧ s = 7) ∨ (l1 = 62 ∧ l3 = 1 ∧ s = 8) ∨ (l1 = 62 ∧ l3 = 0 ∧ s = 9)) (hp : p ≤ t.1) (hq : q ≤ t.1) (hm : m ≤ 60) (hl : l.length + a.length + 1 ≤ p) (h : GM x t p m (l ++ a) M0 M) : OK (f_Model_compare_105 l1 (i32 q) l3 M) fun z => RsMs x t l (if 60 ≤ m then .error (flt q 3) else ebd (sSum t p (m + 1)) fun b => .ok (a ++ b.1 ++ [(2, s)], b.2.1, b.2.2)) M0 z := by
  unfold f_Model_compare_105
  refine OK_bind (GM_makes ht hm hq h) fun z6 h6 => ?_
  by_cases c : 60 ≤ m
  · have b6 := h6.1 c
    rw [b6.1, if_pos rfl, if_pos c]
    exact OK_some ⟨rfl, b6.2⟩
  · obtain ⟨c1, g6, -, -, -⟩ := h6.2 c
    rw [c1, if_neg (by decide), if_neg c]
    rcases hs with ⟨e1, e3, es⟩ | ⟨e1, e3, es⟩ | ⟨e1, e3, es⟩ | ⟨e1, e3, es⟩ | ⟨e1, e3, es⟩ <;> subst e1 e3 es
    · rw [if_pos rfl, if_pos rfl]
      exact m_c152 hx ht hT (by decide) hp (by omega) hl g6
    · rw [if_pos rfl, if_neg (by decide)]
      exact m_c152 hx ht hT (by decide) hp (by omega) hl g6
    · rw [if_neg (by decide), if_pos rfl]
      exact m_c152 hx ht hT (by decide) hp (by omega) hl g6
    · rw [if_neg (by decide), if_neg (by decide), if_neg (by decide)]
      exact m_c152 hx ht hT (by decide) hp (by omega) hl g6
    · rw [if_neg (by decide), if_neg (by decide), if_pos rfl]
      exact m_c152 hx ht hT (by decide) hp (by omega) hl g6
theorem m_compare {x : Nat} (hx : x < 6) {t : Tp} (ht : t.1 ≤ 400) (hT : OKT t) {p m : Nat} {l : List Oq} {M0 M : mM} (hp : p ≤ t.1) (hm : m ≤ 60) (hl : l.length ≤ p) (h : GM x t p m l M0 M) : OK (f_Model_compare M) fun z => RsMs x t l (sCmp t p m) M0 z := by
  unfold f_Model_compare sCmp
  refine OK_bind (m_sum hx ht hT hp hm hl h) fun z1 h1 => ?_
  cases ea : sSum t p m with
  | error w =>
    rw [ea] at h1
    rw [h1.1, if_pos rfl, ebd_e]
    exact OK_some ⟨rfl, h1.2⟩
  | ok a =>
    obtain ⟨a, p1, m1⟩ := a
    rw [ea] at h1
    obtain ⟨h11, g1⟩ := h1
    have g1 : GM x t p1 m1 (l ++ a) M0 z1.2 := g1
    obtain ⟨⟨a1, a2, a3, a4, a5⟩, a6⟩ := sSum_ok (b := l.length) (c := 0) hl (Nat.zero_le _) ea
    have a2 : l.length + a.length ≤ p1 := a2
    have a4 : m1 ≤ 60 := a4
    have a5 : p1 ≤ t.1 := a5
    have hq := skp_le t a5
    have hge := skp_ge t p1
    rw [h11, if_neg (by decide), ebd_o]
    refine OK_bind (m_seeS ht g1.1) fun z3 h3 => ?_
    obtain ⟨v3, m3, f3⟩ := h3
    have g3 := GM_8 (p' := p1) g1 (Or.inr m3) f3
    have e8 : z3.2.2.1 436 8 = i32 (skp t p1) := m3.2.1
    have b60 : (z3.1 = 60) = (skp t p1 < t.1 ∧ t.2 (skp t p1) = 60) := by rw [v3]; exact byv_c hT (by decide)
    have b61 : (z3.1 = 61) = (skp t p1 < t.1 ∧ t.2 (skp t p1) = 61) := by rw [v3]; exact byv_c hT (by decide)
    have b62 : (z3.1 = 62) = (skp t p1 < t.1 ∧ t.2 (skp t p1) = 62) := by rw [v3]; exact byv_c hT (by decide)
    rw [e8]
    show OK _ fun z => RsMs x t l (obd (sgC t p1) (.error (flt (skp t p1) 0)) fun s => if 60 ≤ m1 then .error (flt (skp t p1) 3) else ebd (sSum t (nxp t p1) (m1 + 1)) fun b => .ok (a ++ b.1 ++ [(2, s)], b.2.1, b.2.2)) M0 z
    -- past the sign
    have at1 : ∀ q', skp t p1 < q' → q' ≤ t.1 → ∀ M5, M5 = msI z3.2 436 8 (i32 q') → GM x t q' m1 (l ++ a) M0 M5 ∧ MTk t q' M5 := by
      intro q' h1 h2 M5 e
      subst e
      have := MTk_at m3 h2
      exact ⟨GM_8 g3 (Or.inl this) Fr8_I, this⟩
    have sgn2 : ∀ (c : Int32), z3.1 = c → (c = 60 ∧ sgC t p1 = some (if two t (skp t p1) = true then 6 else 5) ∨ c = 62 ∧ sgC t p1 = some (if two t (skp t p1) = true then 8 else 9)) → skp t p1 < t.1 → t.2 (skp t p1) = c → nxp t p1 = (if two t (skp t p1) = true then skp t p1 + 2 else skp t p1 + 1) → OK (f_Model_compare_44 c (i32 (skp t p1)) z3.2) fun z => RsMs x t l (obd (sgC t p1) (.error (flt (skp t p1) 0)) fun s => if 60 ≤ m1 then .error (flt (skp t p1) 3) else ebd (sSum t (nxp t p1) (m1 + 1)) fun b => .ok (a ++ b.1 ++ [(2, s)], b.2.1, b.2.2)) M0 z := by
      intro c hc hs hlt hcc hn
      have hn2 := nxp_le t a5
      unfold f_Model_compare_44
      rw [e8, nadd_1, pI_s, Option.bind_some]
      obtain ⟨g5, m5⟩ := at1 (skp t p1 + 1) (by omega) (by omega) _ rfl
      rw [if_neg (by rcases hs with hs | hs <;> rw [hs.1] <;> decide), m5.1.1, m5.2.1]
      have c6 : c = 60 ∨ c = 62 := by rcases hs with hs | hs; exact Or.inl hs.1; exact Or.inr hs.1
      cases e2 : two t (skp t p1) with
      | true =>
        rw [e2] at hs hn
        rw [if_pos rfl] at hn
        have et := e2
        unfold two at et
        rw [Bool.and_eq_true, Bool.and_eq_true, decide_eq_true_iff, decide_eq_true_iff] at et
        obtain ⟨⟨-, et1⟩, et2⟩ := et
        rw [if_neg (by rw [i32_le (by omega) (by omega)]; omega), rd_i32 (by omega) (by omega), Option.bind_some, m5.1.2 _ et1, if_pos et2]
        unfold f_Model_compare_90
        rw [if_neg (by decide), m5.2.1, nadd_1, pI_s, Option.bind_some]
        have m6 := MTk_at (p' := skp t p1 + 1 + 1) m5 (by omega)
        have g6 := GM_8 g5 (Or.inl m6) Fr8_I
        rw [show skp t p1 + 1 + 1 = nxp t p1 by omega] at g6 ⊢
        rcases hs with ⟨hs1, hs2⟩ | ⟨hs1, hs2⟩
        · rw [hs2, if_pos rfl, obd_s, hs1]
          exact m_c105 hx ht hT (Or.inr (Or.inl ⟨rfl, rfl, rfl⟩)) hn2 hq a4 (by omega) g6
        · rw [hs2, if_pos rfl, obd_s, hs1]
          exact m_c105 hx ht hT (Or.inr (Or.inr (Or.inr (Or.inl ⟨rfl, rfl, rfl⟩)))) hn2 hq a4 (by omega) g6
      | false =>
        rw [e2] at hs hn
        rw [if_neg Bool.false_ne_true] at hn
        have out : OK (f_Model_compare_89 c (i32 (skp t p1)) (msI z3.2 436 8 (i32 (skp t p1 + 1)))) fun z => RsMs x t l (obd (sgC t p1) (.error (flt (skp t p1) 0)) fun s => if 60 ≤ m1 then .error (flt (skp t p1) 3) else ebd (sSum t (nxp t p1) (m1 + 1)) fun b => .ok (a ++ b.1 ++ [(2, s)], b.2.1, b.2.2)) M0 z := by
          unfold f_Model_compare_89 f_Model_compare_90
          rw [if_pos rfl]
          rw [← hn] at g5 ⊢
          rcases hs with ⟨hs1, hs2⟩ | ⟨hs1, hs2⟩
          · rw [hs2, if_neg Bool.false_ne_true, obd_s, hs1]
            exact m_c105 hx ht hT (Or.inl ⟨rfl, rfl, rfl⟩) hn2 hq a4 (by omega) g5
          · rw [hs2, if_neg Bool.false_ne_true, obd_s, hs1]
            exact m_c105 hx ht hT (Or.inr (Or.inr (Or.inr (Or.inr ⟨rfl, rfl, rfl⟩)))) hn2 hq a4 (by omega) g5
        by_cases d : skp t p1 + 1 < t.1
        · rw [if_neg (by rw [i32_le (by omega) (by omega)]; omega), rd_i32 (by omega) (by omega), Option.bind_some, m5.1.2 _ d]
          by_cases d2 : t.2 (skp t p1 + 1) = 61
          · exfalso
            unfold two at e2
            rw [decide_eq_true d, decide_eq_true d2, hcc] at e2
            rcases c6 with z | z <;> rw [z] at e2 <;> revert e2 <;> decide
          · rw [if_neg d2]
            exact out
        · rw [if_pos (by rw [i32_le (by omega) (by omega)]; omega)]
          exact out
    by_cases c0 : z3.1 = 60
    · have h60 := b60.mp c0
      have s60 := sgC_60 h60
      rw [if_pos c0, c0]
      exact sgn2 60 c0 (Or.inl ⟨rfl, s60.1⟩) h60.1 h60.2 s60.2
    rw [if_neg c0]
    by_cases c1 : z3.1 = 61
    · have h61 := b61.mp c1
      have s61 := sgC_61 h61
      have hn2 := nxp_le t a5
      rw [if_pos c1, c1, s61.1, obd_s]
      unfold f_Model_compare_44
      rw [e8, nadd_1, pI_s, Option.bind_some, if_pos rfl]
      obtain ⟨g5, m5⟩ := at1 (skp t p1 + 1) (by omega) (by omega) _ rfl
      unfold f_Model_compare_89 f_Model_compare_90
      rw [if_pos rfl]
      rw [← s61.2] at g5 ⊢
      exact m_c105 hx ht hT (Or.inr (Or.inr (Or.inl ⟨rfl, rfl, rfl⟩))) hn2 hq a4 (by omega) g5
    rw [if_neg c1]
    by_cases c2 : z3.1 = 62
    · have h62 := b62.mp c2
      have s62 := sgC_62 h62
      rw [if_pos c2, c2]
      exact sgn2 62 c2 (Or.inr ⟨rfl, s62.1⟩) h62.1 h62.2 s62.2
    rw [if_neg c2, sgC_no hT (by rw [← b60]; exact c0) (by rw [← b61]; exact c1) (by rw [← b62]; exact c2), obd_n]
    exact GM_failsB ht g3 (k := 0) hq (by omega)
