/-! ===== a rule is read: the model, the stack of what is open ===== -/
def FrMt (x : Nat) (M M' : mM) : Prop := M'.2.2 = M.2.2 ∧ (∀ p, p ≠ 436 → p ≠ 438 → p ≠ 439 → p ≠ 443 → M'.2.1 p = M.2.1 p) ∧ (∀ i, i ≠ 8 → i ≠ 9 → i ≠ 10 → i ≠ 12 → i ≠ 13 → i ≠ 16 → M'.2.1 436 i = M.2.1 436 i) ∧ (∀ j, j < 400 * x ∨ 400 * x + 400 ≤ j → M'.2.1 438 j = M.2.1 438 j) ∧ ∀ j, j ≠ x → M'.2.1 439 j = M.2.1 439 j
theorem FrMt_refl (x : Nat) (M : mM) : FrMt x M M := ⟨rfl, fun _ _ _ _ _ => rfl, fun _ _ _ _ _ _ _ => rfl, fun _ _ => rfl, fun _ _ => rfl⟩
theorem FrMt_trans {x : Nat} {M M' M'' : mM} (h : FrMt x M M') (h' : FrMt x M' M'') : FrMt x M M'' := ⟨h'.1.trans h.1, fun p a b c d => (h'.2.1 p a b c d).trans (h.2.1 p a b c d), fun i a b c d e f => (h'.2.2.1 i a b c d e f).trans (h.2.2.1 i a b c d e f), fun j a => (h'.2.2.2.1 j a).trans (h.2.2.2.1 j a), fun j a => (h'.2.2.2.2 j a).trans (h.2.2.2.2 j a)⟩
theorem FrMs_t {x : Nat} {M M' : mM} (h : FrMs x M M') : FrMt x M M' := ⟨h.1, fun p a b c _ => h.2.1 p a b c, fun i a b c d _ _ => h.2.2.1 i a b c d, h.2.2.2.1, h.2.2.2.2⟩
def stk : List Nat → (Nat → Int32) → Prop
  | [], _ => True
  | a :: S, F => F S.length = i32 a ∧ stk S F
theorem stk_of {F F' : Nat → Int32} : ∀ (S : List Nat), (∀ i, i < S.length → F' i = F i) → stk S F → stk S F'
  | [], _, _ => True.intro
  | a :: S, e, h => by
    rw [List.length_cons] at e
    exact ⟨(e S.length (by omega)).trans h.1, stk_of S (fun i hi => e i (by omega)) h.2⟩
/-- how deep: those that close -/
def dpS : List Nat → Nat
  | [] => 0
  | a :: S => (if a = 11 ∨ a = 91 then 1 else 0) + dpS S
def okS (S : List Nat) : Prop := ∀ a, a ∈ S → a = 11 ∨ a = 12 ∨ a = 13 ∨ a = 91
theorem okS_t {a : Nat} {S : List Nat} (h : okS (a :: S)) : okS S := fun b hb => h b (List.mem_cons_of_mem _ hb)
theorem okS_c {a : Nat} {S : List Nat} (ha : a = 11 ∨ a = 12 ∨ a = 13 ∨ a = 91) (h : okS S) : okS (a :: S) := fun b hb => by
  rcases List.mem_cons.mp hb with z | z
  · rw [z]; exact ha
  · exact h b z
def srt (a : Nat) : Nat := if a = 13 then 1 else if a = 12 then 2 else if a = 11 then 3 else 0
def opc (a : Nat) : Oq := if a = 11 then (3, 0) else if a = 12 then (2, 10) else (2, 11)
def stl (k : Nat) : List Nat → List Oq → List Nat × List Oq
  | [], l => ([], l)
  | a :: S, l => if srt a < k then (a :: S, l) else stl k S (l ++ [opc a])
theorem stl_len (k : Nat) : ∀ (S : List Nat) (l : List Oq), (stl k S l).1.length + (stl k S l).2.length = S.length + l.length
  | [], l => rfl
  | a :: S, l => by
    rw [stl]
    by_cases c : srt a < k
    · rw [if_pos c]
    · rw [if_neg c, stl_len k S, List.length_append]
      have e1 : [opc a].length = 1 := rfl
      have e2 : (a :: S).length = S.length + 1 := rfl
      omega
theorem stl_ok (k : Nat) : ∀ (S : List Nat) (l : List Oq), okS S → okS (stl k S l).1
  | [], l, h => h
  | a :: S, l, h => by
    rw [stl]
    by_cases c : srt a < k
    · rw [if_pos c]; exact h
    · rw [if_neg c]; exact stl_ok k S _ (okS_t h)
/-- all of the model's state while a test is read -/
def TS (x : Nat) (t : Tp) (S : List Nat) (l : List Oq) (p m : Nat) (M0 M : mM) : Prop := MTs t p M ∧ Qg x l M ∧ M.2.1 436 12 = i32 m ∧ M.2.1 436 11 = i32 x ∧ M.2.1 436 16 = i32 S.length ∧ M.2.1 436 13 = i32 (dpS S) ∧ stk S (M.2.1 443) ∧ FrMt x M0 M
def BT (x : Nat) (t : Tp) (w : Nat) (M0 : mM) (z : Int32 × mM) : Prop := z.1 = 0 ∧ MRf t w z.2 ∧ FrMt x M0 z.2
theorem TS_G {x : Nat} {t : Tp} {S : List Nat} {l : List Oq} {p m : Nat} {M0 M : mM} (h : TS x t S l p m M0 M) : GM x t p m l M M := ⟨h.1, h.2.1, h.2.2.1, h.2.2.2.1, FrMs_refl x M⟩
theorem G_TS {x : Nat} {t : Tp} {S : List Nat} {l l' : List Oq} {p p' m m' : Nat} {M0 M M' : mM} (h : TS x t S l p m M0 M) (g : GM x t p' m' l' M M') : TS x t S l' p' m' M0 M' := by
  obtain ⟨h1, h2, h3, h4, h5, h6, h7, h8⟩ := h
  obtain ⟨g1, g2, g3, g4, g5⟩ := g
  exact ⟨g1, g2, g3, g4, by rw [g5.2.2.1 16 (by omega) (by omega) (by omega) (by omega)]; exact h5, by rw [g5.2.2.1 13 (by omega) (by omega) (by omega) (by omega)]; exact h6, by rw [g5.2.1 443 (by omega) (by omega) (by omega)]; exact h7, FrMt_trans h8 (FrMs_t g5)⟩
theorem G_BT {x : Nat} {t : Tp} {S : List Nat} {l : List Oq} {p m w : Nat} {M0 M : mM} {z : Int32 × mM} (h : TS x t S l p m M0 M) (b : BM x t w M z) : BT x t w M0 z := ⟨b.1, b.2.1, FrMt_trans h.2.2.2.2.2.2.2 (FrMs_t b.2.2)⟩
theorem TS_8 {x : Nat} {t : Tp} {S : List Nat} {l : List Oq} {p p' m : Nat} {M0 M M' : mM} (h : TS x t S l p m M0 M) (hT : MTs t p' M') (e : Fr8 M M') : TS x t S l p' m M0 M' := G_TS h (GM_8 (TS_G h) hT e)
/-- the stack, its height and the depth are set -/
theorem TS_S {x : Nat} {t : Tp} {S S' : List Nat} {l : List Oq} {p m : Nat} {M0 M M' : mM} (h : TS x t S l p m M0 M) (e1 : M'.2.2 = M.2.2) (e2 : ∀ p, p ≠ 436 → p ≠ 443 → M'.2.1 p = M.2.1 p) (e3 : ∀ i, i ≠ 13 → i ≠ 16 → M'.2.1 436 i = M.2.1 436 i) (h5 : M'.2.1 436 16 = i32 S'.length) (h6 : M'.2.1 436 13 = i32 (dpS S')) (h7 : stk S' (M'.2.1 443)) : TS x t S' l p m M0 M' := by
  obtain ⟨a1, a2, a3, a4, a5, a6, a7, a8⟩ := h
  have key : ∀ q', MTk t q' M → MTk t q' M' := fun q' y => ⟨⟨(e3 1 (by omega) (by omega)).trans y.1.1, by rw [e2 437 (by omega) (by omega)]; exact y.1.2⟩, (e3 8 (by omega) (by omega)).trans y.2.1, (e3 9 (by omega) (by omega)).trans y.2.2.1, y.2.2.2⟩
  refine ⟨?_, ⟨by rw [e2 439 (by omega) (by omega)]; exact a2.1, by rw [e2 438 (by omega) (by omega)]; exact a2.2⟩, (e3 12 (by omega) (by omega)).trans a3, (e3 11 (by omega) (by omega)).trans a4, h5, h6, h7, FrMt_trans a8 ⟨e1, fun p a _ _ b => e2 p a b, fun i _ _ _ _ a b => e3 i a b, fun j _ => by rw [e2 438 (by omega) (by omega)], fun j _ => by rw [e2 439 (by omega) (by omega)]⟩⟩
  rcases a1 with a1 | a1
  · exact Or.inl (key _ a1)
  · exact Or.inr (key _ a1)
theorem m_strength (a : Nat) (ha : a = 11 ∨ a = 12 ∨ a = 13 ∨ a = 91) (M : mM) : f_Model_strength (i32 a) M = some (i32 (srt a), M) := by
  rcases ha with z | z | z | z <;> subst z <;> rfl
theorem m_opc (a : Nat) (ha : a = 11 ∨ a = 12 ∨ a = 13) : i32 a + 16 * 0 = mE (opc a) := by
  rcases ha with z | z | z <;> subst z <;> decide
theorem srt_lt (a : Nat) : srt a < 4 := by
  unfold srt
  split
  · omega
  · split
    · omega
    · split <;> omega
theorem m_settles {x : Nat} (hx : x < 6) {t : Tp} (ht : t.1 ≤ 400) {k : Nat} (hk : 1 ≤ k ∧ k ≤ 3) {p m : Nat} {M0 : mM} : ∀ (S : List Nat) (l : List Oq) (f : Nat) (M : mM), okS S → S.length + l.length ≤ 400 → S.length < f → TS x t S l p m M0 M → OK (f_Model_settles_0 (i32 k) f M) fun M' => TS x t (stl k S l).1 (stl k S l).2 p m M0 M'
  | _, _, 0, _, _, _, hf, _ => absurd hf (Nat.not_lt_zero _)
  | [], l, f + 1, M, hS, hl, hf, h => by
    have e16 : M.2.1 436 16 = 0 := h.2.2.2.2.1
    rw [f_Model_settles_0, e16, if_pos (by decide)]
    exact OK_some h
  | a :: S, l, f + 1, M, hS, hl, hf, h => by
    rw [List.length_cons] at hl hf
    obtain ⟨h1, h2, h3, h4, h5, h6, h7, h8⟩ := id h
    rw [List.length_cons] at h5
    have ha := hS a List.mem_cons_self
    rw [f_Model_settles_0, h5, if_neg (by rw [show (0 : Int32) = i32 0 from rfl, i32_le (by omega) (by omega)]; omega), show (1 : Int32) = i32 1 from rfl, i32_sub (by omega), show S.length + 1 - 1 = S.length by omega, rd_i32 (by omega) (by omega), Option.bind_some, h7.1, m_strength a ha, Option.bind_some, stl]
    dsimp only
    have hs4 := srt_lt a
    by_cases c : srt a < k
    · rw [if_pos (by rw [i32_lt (by omega) (by omega)]; exact c), if_pos c]
      exact OK_some h
    · rw [if_neg (by rw [i32_lt (by omega) (by omega)]; exact c), if_neg c, h5, i32_sub (by omega), show S.length + 1 - 1 = S.length by omega, pI_s, Option.bind_some, gIe, rd_i32 (by omega) (by omega), Option.bind_some, gIp (show 443 ≠ 436 by omega), h7.1]
      have ha3 : a = 11 ∨ a = 12 ∨ a = 13 := by
        rcases ha with z | z | z | z
        · exact Or.inl z
        · exact Or.inr (Or.inl z)
        · exact Or.inr (Or.inr z)
        · exfalso
          apply c
          rw [z]
          show srt 91 < k
          have : srt 91 = 0 := rfl
          omega
      -- the sign is told, the rest stands
      have gP : GM x t p m l (msI M 436 16 (i32 S.length)) (msI M 436 16 (i32 S.length)) := by
        have key : ∀ q', MTk t q' M → MTk t q' (msI M 436 16 (i32 S.length)) := fun q' y => ⟨⟨(gIo (by omega)).trans y.1.1, by rw [gIp (by omega)]; exact y.1.2⟩, (gIo (by omega)).trans y.2.1, (gIo (by omega)).trans y.2.2.1, y.2.2.2⟩
        refine ⟨?_, ⟨by rw [gIp (by omega)]; exact h2.1, by rw [gIp (by omega)]; exact h2.2⟩, (gIo (by omega)).trans h3, (gIo (by omega)).trans h4, FrMs_refl x _⟩
        rcases h1 with h1 | h1
        · exact Or.inl (key _ h1)
        · exact Or.inr (key _ h1)
      refine OK_bind (GM_puts hx gP (by omega) (m_opc a ha3)) fun M7 h9 => ?_
      obtain ⟨g1, g2, g3, g4, g5⟩ := h9
      have z16 : M7.2.1 436 16 = i32 S.length := by rw [g5.2.2.1 16 (by omega) (by omega) (by omega) (by omega), gIe]
      have z13 : M7.2.1 436 13 = i32 (dpS (a :: S)) := by rw [g5.2.2.1 13 (by omega) (by omega) (by omega) (by omega), gIo (by omega)]; exact h6
      have z443 : M7.2.1 443 = M.2.1 443 := by rw [g5.2.1 443 (by omega) (by omega) (by omega), gIp (by omega)]
      have fr0 : FrMt x M (msI M 436 16 (i32 S.length)) := ⟨rfl, fun p a _ _ _ => gIp a, fun i _ _ _ _ _ a => gIo a, fun j _ => by rw [gIp (by omega)], fun j _ => by rw [gIp (by omega)]⟩
      have fr7 : FrMt x M0 M7 := FrMt_trans h8 (FrMt_trans fr0 (FrMs_t g5))
      rw [z16, rd_i32 (by omega) (by omega), Option.bind_some, z443, h7.1]
      by_cases c11 : a = 11
      · have ed : dpS (a :: S) = 1 + dpS S := by show (if a = 11 ∨ a = 91 then 1 else 0) + dpS S = _; rw [if_pos (Or.inl c11)]
        rw [if_pos (by rw [c11]; rfl), z13, ed, i32_sub (by omega), show 1 + dpS S - 1 = dpS S by omega, pI_s, Option.bind_some]
        have key : ∀ q', MTk t q' M7 → MTk t q' (msI M7 436 13 (i32 (dpS S))) := fun q' y => ⟨⟨(gIo (by omega)).trans y.1.1, by rw [gIp (by omega)]; exact y.1.2⟩, (gIo (by omega)).trans y.2.1, (gIo (by omega)).trans y.2.2.1, y.2.2.2⟩
        refine m_settles hx ht hk S (l ++ [opc a]) f _ (okS_t hS) (by rw [List.length_append]; show S.length + (l.length + 1) ≤ 400; omega) (by omega) ⟨?_, ⟨by rw [gIp (by omega)]; exact g2.1, by rw [gIp (by omega)]; exact g2.2⟩, (gIo (by omega)).trans g3, (gIo (by omega)).trans g4, (gIo (by omega)).trans z16, gIe _ _ _ _, by rw [gIp (by omega), z443]; exact h7.2, FrMt_trans fr7 ⟨rfl, fun p a _ _ _ => gIp a, fun i _ _ _ _ a _ => gIo a, fun j _ => by rw [gIp (by omega)], fun j _ => by rw [gIp (by omega)]⟩⟩
        rcases g1 with g1 | g1
        · exact Or.inl (key _ g1)
        · exact Or.inr (key _ g1)
      · have ed : dpS (a :: S) = dpS S := by
          show (if a = 11 ∨ a = 91 then 1 else 0) + dpS S = _
          rw [if_neg (by rcases ha3 with z | z | z <;> omega), Nat.zero_add]
        rw [if_neg (by rw [show (11 : Int32) = i32 11 from rfl, i32_eq (by omega) (by omega)]; exact c11)]
        exact m_settles hx ht hk S (l ++ [opc a]) f M7 (okS_t hS) (by rw [List.length_append]; show S.length + (l.length + 1) ≤ 400; omega) (by omega) ⟨g1, g2, g3, g4, z16, by rw [z13, ed], by rw [z443]; exact h7.2, fr7⟩
theorem stk_mem {F : Nat → Int32} : ∀ (S : List Nat), okS S → stk S F → (91 ∈ S ↔ ∃ i, i < S.length ∧ F i = 91)
  | [], _, _ => ⟨fun z => (by cases z), fun ⟨i, hi, _⟩ => absurd hi (Nat.not_lt_zero _)⟩
  | a :: S, hS, h => by
    have ih := stk_mem S (okS_t hS) h.2
    rw [List.length_cons]
    constructor
    · intro z
      rcases List.mem_cons.mp z with z | z
      · exact ⟨S.length, by omega, by rw [h.1, ← z]; rfl⟩
      · obtain ⟨i, hi, e⟩ := ih.mp z
        exact ⟨i, by omega, e⟩
    · rintro ⟨i, hi, e⟩
      by_cases c : i = S.length
      · rw [c, h.1] at e
        have ha := hS a List.mem_cons_self
        have : a = 91 := by
          rw [show (91 : Int32) = i32 91 from rfl, i32_eq (by omega) (by omega)] at e
          exact e
        rw [this]
        exact List.mem_cons_self
      · exact List.mem_cons_of_mem _ (ih.mpr ⟨i, by omega, e⟩)
theorem m_ins {n : Nat} (hn : n ≤ 400) {M : mM} (h : M.2.1 436 16 = i32 n) : ∀ (k j f : Nat), j + k = n → k < f → OK (f_Model_isInside_2 f (i32 j) M) fun z => z.2 = M ∧ ((z.1 = 0 ∧ ∀ i, j ≤ i → i < n → M.2.1 443 i ≠ 91) ∨ (z.1 = 1 ∧ ∃ i, i < n ∧ M.2.1 443 i = 91))
  | _, _, 0, _, hf => absurd hf (Nat.not_lt_zero _)
  | 0, j, f + 1, hj, hf => by
    rw [f_Model_isInside_2, h, if_pos (by rw [i32_le (by omega) (by omega)]; omega)]
    exact OK_some ⟨rfl, Or.inl ⟨rfl, fun i a b => by omega⟩⟩
  | k + 1, j, f + 1, hj, hf => by
    rw [f_Model_isInside_2, h, if_neg (by rw [i32_le (by omega) (by omega)]; omega), rd_i32 (by omega) (by omega), Option.bind_some]
    by_cases c : M.2.1 443 j = 91
    · rw [if_pos c]
      exact OK_some ⟨rfl, Or.inr ⟨rfl, j, by omega, c⟩⟩
    · rw [if_neg c, nadd_1]
      refine OK_imp (m_ins hn h k (j + 1) f (by omega) (by omega)) fun z hz => ⟨hz.1, ?_⟩
      rcases hz.2 with ⟨a, b⟩ | a
      · refine Or.inl ⟨a, fun i x y => ?_⟩
        by_cases d : i = j
        · rw [d]; exact c
        · exact b i (by omega) y
      · exact Or.inr a
theorem m_inside {x : Nat} {t : Tp} {S : List Nat} {l : List Oq} {p m : Nat} {M0 M : mM} (hS : okS S) (hl : S.length ≤ 400) (h : TS x t S l p m M0 M) : OK (f_Model_isInside M) fun z => z.2 = M ∧ ((z.1 = 0 ∧ ¬ 91 ∈ S) ∨ (z.1 = 1 ∧ 91 ∈ S)) := by
  obtain ⟨h1, h2, h3, h4, h5, h6, h7, h8⟩ := h
  refine OK_imp (m_ins hl h5 S.length 0 FUEL (Nat.zero_add _) (by rw [FUEL_eq]; omega)) fun z hz => ⟨hz.1, ?_⟩
  rw [stk_mem S hS h7]
  rcases hz.2 with ⟨a, b⟩ | a
  · exact Or.inl ⟨a, fun ⟨i, hi, e⟩ => b i (Nat.zero_le _) hi e⟩
  · exact Or.inr a
theorem m_opens {x : Nat} (hx : x < 6) {t : Tp} (ht : t.1 ≤ 400) {S : List Nat} {l : List Oq} {a p m : Nat} {M0 M : mM} (hd : dpS S ≤ 10) (hl : S.length < 400) (ha : a = 11 ∨ a = 91) (hp : p ≤ t.1) (hM : MTk t (skp t p) M) (h : TS x t S l p m M0 M) : OK (f_Model_opens (i32 a) M) fun z => (10 ≤ dpS S → BT x t (flt (skp t p) 2) M0 z) ∧ (¬ 10 ≤ dpS S → z.1 = 1 ∧ TS x t (a :: S) l p m M0 z.2 ∧ MTk t (skp t p) z.2) := by
  obtain ⟨h1, h2, h3, h4, h5, h6, h7, h8⟩ := id h
  unfold f_Model_opens
  rw [h6]
  by_cases c : 10 ≤ dpS S
  · rw [if_pos (by rw [show (10 : Int32) = i32 10 from rfl, i32_eq (by omega) (by omega)]; omega), hM.2.1]
    exact OK_imp (GM_failsB ht (TS_G h) (k := 2) (skp_le t hp) (by omega)) fun z hz => ⟨fun _ => G_BT h hz, fun y => absurd c y⟩
  · rw [if_neg (by rw [show (10 : Int32) = i32 10 from rfl, i32_eq (by omega) (by omega)]; omega), pI_s, Option.bind_some, nadd_1, gIo (show 16 ≠ 13 by omega), h5, wr_i32 (by omega) (by omega), Option.bind_some, pI_s, Option.bind_some, gIp (show 436 ≠ 443 by omega), gIo (show 16 ≠ 13 by omega), h5, nadd_1]
    have ed : dpS (a :: S) = dpS S + 1 := by
      show (if a = 11 ∨ a = 91 then 1 else 0) + dpS S = _
      rw [if_pos ha, Nat.add_comm]
    have T : TS x t (a :: S) l p m M0 (msI (msI (msI M 436 13 (i32 (dpS S + 1))) 443 S.length (i32 a)) 436 16 (i32 (S.length + 1))) := by
      refine TS_S h rfl (fun p a b => by rw [gIp a, gIp b, gIp a]) (fun i a b => by rw [gIo b, gIp (by omega), gIo a]) (gIe _ _ _ _) ?_ ⟨?_, stk_of S (fun i hi => ?_) h7⟩
      · rw [gIo (by omega), gIp (by omega), gIe, ed]
      · rw [gIp (by omega), gIe]
      · rw [gIp (by omega), gIo (by omega), gIp (by omega)]
    refine OK_some ⟨fun y => absurd y c, fun _ => ⟨rfl, T, ?_⟩⟩
    refine ⟨⟨?_, ?_⟩, ?_, ?_, hM.2.2.2⟩
    · rw [gIo (by omega), gIp (by omega), gIo (by omega)]; exact hM.1.1
    · rw [gIp (by omega), gIp (by omega), gIp (by omega)]; exact hM.1.2
    · rw [gIo (by omega), gIp (by omega), gIo (by omega)]; exact hM.2.1
    · rw [gIo (by omega), gIp (by omega), gIo (by omega)]; exact hM.2.2.1
