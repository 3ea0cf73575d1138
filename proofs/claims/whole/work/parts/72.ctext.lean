/-! ===== the class's text: faults, numbers, signs ===== -/
def flt (q k : Nat) : Nat := 1 + 8 * q + k
/-- the number at p of lo .. h - 1, or the fault -/
def nmr (t : Tp) (p lo h : Nat) : Except Nat Nat :=
  if knd t (skp t p) = 1 then (if (nmE t (skp t p)).2.1 ≤ 5 ∧ lo ≤ (nmE t (skp t p)).2.2 ∧ (nmE t (skp t p)).2.2 < h then .ok (nmE t (skp t p)).2.2 else .error (flt (skp t p) 1)) else .error (flt (skp t p) 0)
/-- behind the token at p -/
def nxp (t : Tp) (p : Nat) : Nat := bhd t (skp t p)
/-- is the sign x at p -/
def sgn (t : Tp) (p : Nat) (x : Int32) : Bool := decide (knd t (skp t p) = 3) && decide (val t (skp t p) = x)
/-- behind a clause: the end, or on, or a fault -/
def mor (t : Tp) (p : Nat) : Except Nat (Option Nat) :=
  if knd t (skp t p) = 0 then .ok none else if sgn t p 59 = true then .ok (some (nxp t p)) else .error (flt (skp t p) 0)
theorem knd_le (t : Tp) (q : Nat) : knd t q < 4 := by
  unfold knd
  split
  · split
    · omega
    · split <;> omega
  · omega
theorem nxp_le (t : Tp) {p : Nat} (h : p ≤ t.1) : nxp t p ≤ t.1 := bhd_le t (skp_le t h)
theorem nxp_ge (t : Tp) (p : Nat) : p ≤ nxp t p := Nat.le_trans (skp_ge t p) (bhd_ge t _)
theorem msI_id {M : mM} {p i : Nat} {v : Int32} (h : M.2.1 p i = v) : msI M p i v = M := by
  show (M.1, m2 M.2.1 p i v, M.2.2.1, M.2.2.2) = M
  have : m2 M.2.1 p i v = M.2.1 := by
    funext q
    unfold m2
    by_cases c : q = p
    · rw [if_pos c]
      funext j
      unfold va_up
      by_cases d : j = i
      · rw [if_pos d, c, d, h]
      · rw [if_neg d]
    · rw [if_neg c]
  rw [this]
theorem CRf_rf {t : Tp} {w : Nat} {M : mM} (h : CRf t w M) (x : Int32) : f_Text_refuse x M = some M := by
  obtain ⟨h0, h6, h1, h2, h4⟩ := h
  unfold f_Text_refuse f_Text_refuse_22
  rw [if_neg (by rw [h6, show (0 : Int32) = i32 0 from rfl, i32_eq (by omega) (by omega)]; omega), pI_s, Option.bind_some, msI_id h4]
theorem CRf_adv {t : Tp} {w : Nat} {M : mM} (h : CRf t w M) : f_Text_advance M = some M := by
  unfold f_Text_advance
  rw [if_pos h.2.2.2.2]
theorem CRf_num {t : Tp} {w : Nat} {M : mM} (h : CRf t w M) (a b : Int32) : f_Text_numberFrom a b M = some (-1, M) := by
  unfold f_Text_numberFrom
  rw [if_neg (by rw [h.2.2.2.2]; decide), CRf_rf h, Option.bind_some]
theorem CRf_wd {t : Tp} {w : Nat} {M : mM} (h : CRf t w M) (b : Nat) : f_Text_wordAmong b M = some (-1, M) := by
  unfold f_Text_wordAmong
  rw [if_neg (by rw [h.2.2.2.2]; decide)]
theorem CRf_tw {t : Tp} {w : Nat} {M : mM} (h : CRf t w M) (b : Nat) : f_Text_takeWord b M = some (0, M) := by
  unfold f_Text_takeWord
  rw [CRf_wd h, Option.bind_some, if_pos rfl]
theorem CRf_sg {t : Tp} {w : Nat} {M : mM} (h : CRf t w M) (x : Int32) : f_Text_isSign x M = some (0, M) := by
  unfold f_Text_isSign
  rw [if_neg (by rw [h.2.2.2.2]; decide)]
theorem CRf_more {t : Tp} {w : Nat} {M : mM} (h : CRf t w M) : f_Text_takeMore M = some (0, M) := by
  unfold f_Text_takeMore
  rw [if_neg (by rw [h.2.2.2.2]; decide), CRf_sg h, Option.bind_some, if_pos rfl, CRf_rf h, Option.bind_some]
theorem CRf_f {t : Tp} {w : Nat} {M : mM} (h : CRf t w M) : ¬ M.2.1 1 6 = 0 := by
  obtain ⟨h0, h6, h1, h2, h4⟩ := h
  rw [h6, show (0 : Int32) = i32 0 from rfl, i32_eq (by omega) (by omega)]
  omega
theorem CRf_X {t : Tp} {w : Nat} {M M' : mM} (h : CRf t w M) (e1 : M'.2.1 1 = M.2.1 1) (e2 : M'.2.1 2 = M.2.1 2) : CRf t w M' := by
  obtain ⟨h0, h6, h1, h2, h4⟩ := h
  exact ⟨CP_of h0 (by rw [e1]) e2, by rw [e1]; exact h6, h1, h2, by rw [e1]; exact h4⟩
theorem CTk_X {t : Tp} {p : Nat} {M M' : mM} (h : CTk t p M) (e1 : M'.2.1 1 = M.2.1 1) (e2 : M'.2.1 2 = M.2.1 2) : CTk t p M' := by
  obtain ⟨h0, h1⟩ := h
  exact ⟨CP_of h0 (by rw [e1]) e2, by rw [e1]; exact h1⟩
theorem c_refuse {t : Tp} (ht : t.1 ≤ 400) {p k : Nat} {M : mM} (hp : p ≤ t.1) (hk : k ≤ 4) (h : CTk t p M) : OK (f_Text_refuse (i32 k) M) fun M' => CRf t (flt (skp t p) k) M' ∧ FrX M M' := by
  obtain ⟨h0, h6, h2, h3, h4, h5⟩ := h
  have hle := skp_le t hp
  unfold f_Text_refuse f_Text_refuse_22
  rw [if_pos h6, pI_s, Option.bind_some, pI_s, Option.bind_some, h2, show (8 : Int32) * i32 (skp t p) = i32 (8 * skp t p) from i32_mul 8 _, show (1 : Int32) + i32 (8 * skp t p) = i32 (1 + 8 * skp t p) from i32_add 1 _, i32_add]
  have f : FrX M (msI (msI M 1 6 (i32 (1 + 8 * skp t p + k))) 1 4 4) := FrX_trans (FrX_I (by omega)) (FrX_I (by omega))
  exact OK_some ⟨⟨CP_X h0 f, by rw [gIo (by omega), gIe]; rfl, by unfold flt; omega, by unfold flt; omega, gIe _ _ _ _⟩, f⟩
theorem c_num {t : Tp} (ht : t.1 ≤ 400) {p lo h : Nat} {M : mM} (hp : p ≤ t.1) (hl : lo < 1000000) (hh : h < 1000000) (hT : CTk t p M) : OK (f_Text_numberFrom (i32 lo) (i32 h - 1) M) fun z => match nmr t p lo h with
    | .error w => z.1 = -1 ∧ CRf t w z.2 ∧ FrX M z.2
    | .ok v => z = (i32 v, M) := by
  have hle := skp_le t hp
  have hv := nmE_v t (skp t p)
  have hk := knd_le t (skp t p)
  unfold f_Text_numberFrom
  obtain ⟨h0, h6, h2, h3, h4, h5⟩ := hT
  rw [h4]
  have hT : CTk t p M := ⟨h0, h6, h2, h3, h4, h5⟩
  by_cases c : knd t (skp t p) = 1
  · rw [if_pos (by rw [c]; rfl), h5 (Or.inl c), val_1 c]
    have bad : nmr t p lo h = .error (flt (skp t p) 1) → OK (f_Text_numberFrom_39 (i32 lo) (i32 h - 1) M) fun z => match nmr t p lo h with
        | .error w => z.1 = -1 ∧ CRf t w z.2 ∧ FrX M z.2
        | .ok v => z = (i32 v, M) := by
      intro e
      rw [e]
      unfold f_Text_numberFrom_39
      exact OK_bind (c_refuse ht hp (k := 1) (by omega) hT) fun M' h' => OK_some ⟨rfl, h'.1, h'.2⟩
    by_cases c5 : (nmE t (skp t p)).2.1 ≤ 5
    · rw [if_pos c5, if_neg (fun z => (i32_ne1 (a := (nmE t (skp t p)).2.2) (by omega)).mp z)]
      by_cases cl : lo ≤ (nmE t (skp t p)).2.2
      · rw [if_neg (by rw [i32_lt (by omega) (by omega)]; omega)]
        by_cases ch : (nmE t (skp t p)).2.2 < h
        · have e : nmr t p lo h = .ok (nmE t (skp t p)).2.2 := by unfold nmr; rw [if_pos c, if_pos ⟨c5, cl, ch⟩]
          rw [if_pos (by rw [show (1 : Int32) = i32 1 from rfl, i32_sub (by omega), i32_le (by omega) (by omega)]; omega), e]
          exact OK_some rfl
        · have e : nmr t p lo h = .error (flt (skp t p) 1) := by unfold nmr; rw [if_pos c, if_neg (fun z => ch z.2.2)]
          have en : ¬ i32 (nmE t (skp t p)).2.2 ≤ i32 h - 1 := by
            by_cases c0 : h = 0
            · subst c0
              rw [show i32 0 - 1 = (-1 : Int32) from rfl]
              exact fun z => (i32_le_n1 (by omega)).mp z
            · rw [show (1 : Int32) = i32 1 from rfl, i32_sub (by omega), i32_le (by omega) (by omega)]
              omega
          rw [if_neg en]
          exact bad e
      · have e : nmr t p lo h = .error (flt (skp t p) 1) := by unfold nmr; rw [if_pos c, if_neg (fun z => cl z.2.1)]
        rw [if_pos (by rw [i32_lt (by omega) (by omega)]; omega)]
        exact bad e
    · have e : nmr t p lo h = .error (flt (skp t p) 1) := by unfold nmr; rw [if_pos c, if_neg (fun z => c5 z.1)]
      rw [if_neg c5, if_pos rfl]
      exact bad e
  · have e : nmr t p lo h = .error (flt (skp t p) 0) := by unfold nmr; rw [if_neg c]
    rw [if_neg (by rw [show (1 : Int32) = i32 1 from rfl, i32_eq (by omega) (by omega)]; exact c), e]
    exact OK_bind (c_refuse ht hp (k := 0) (by omega) hT) fun M' h' => OK_some ⟨rfl, h'.1, h'.2⟩
theorem c_sign {t : Tp} {p : Nat} {M : mM} (h : CTk t p M) (x : Int32) : f_Text_isSign x M = some (e01 (sgn t p x), M) := by
  obtain ⟨h0, h6, h2, h3, h4, h5⟩ := h
  have hk := knd_le t (skp t p)
  unfold f_Text_isSign sgn
  rw [h4]
  by_cases c : knd t (skp t p) = 3
  · rw [if_pos (by rw [c]; rfl), h5 (Or.inr c), decide_eq_true c, Bool.true_and]
    by_cases d : val t (skp t p) = x
    · rw [if_pos d, decide_eq_true d]; rfl
    · rw [if_neg d, decide_eq_false d]; rfl
  · rw [if_neg (by rw [show (3 : Int32) = i32 3 from rfl, i32_eq (by omega) (by omega)]; exact c), decide_eq_false c]
    rfl
theorem c_adv {t : Tp} (ht : t.1 ≤ 400) {p : Nat} {M : mM} (hp : p ≤ t.1) (h : CTk t p M) : OK (f_Text_advance M) fun M' => CTk t (nxp t p) M' ∧ FrX M M' := by
  have hk := knd_le t (skp t p)
  exact c_advance ht h.1 (nxp_le t hp) h.2.1 h.2.2.2.1 (by rw [h.2.2.2.2.1, show (4 : Int32) = i32 4 from rfl]; intro z; rw [i32_eq (by omega) (by omega)] at z; omega)
theorem c_more {t : Tp} (ht : t.1 ≤ 400) {p : Nat} {M : mM} (hp : p ≤ t.1) (h : CTk t p M) : OK (f_Text_takeMore M) fun z => match mor t p with
    | .error w => z.1 = 0 ∧ CRf t w z.2 ∧ FrX M z.2
    | .ok none => z = (0, M)
    | .ok (some p') => z.1 = 1 ∧ CTk t p' z.2 ∧ FrX M z.2 := by
  have hk := knd_le t (skp t p)
  unfold f_Text_takeMore mor
  rw [h.2.2.2.2.1]
  by_cases c : knd t (skp t p) = 0
  · rw [if_pos (by rw [c]; rfl), if_pos c]
    exact OK_some rfl
  · rw [if_neg (by rw [show (0 : Int32) = i32 0 from rfl, i32_eq (by omega) (by omega)]; exact c), if_neg c, c_sign h, Option.bind_some]
    cases d : sgn t p 59 with
    | true =>
      rw [if_neg (fun z => absurd z (show ¬ e01 true = 0 by decide)), if_pos (rfl : true = true)]
      exact OK_bind (c_adv ht hp h) fun M' h' => OK_some ⟨rfl, h'.1, h'.2⟩
    | false =>
      rw [if_pos (show (e01 false, M).1 = 0 from rfl), if_neg Bool.false_ne_true]
      exact OK_bind (c_refuse ht hp (k := 0) (by omega) h) fun M' h' => OK_some ⟨rfl, h'.1, h'.2⟩
/-- is a word of the list b at p -/
def isw (t : Tp) (b p : Nat) : Int32 := idx t (skp t p) (wl b) 0
theorem c_take0 {t : Tp} (ht : t.1 ≤ 400) {b p : Nat} {M : mM} (hb : b < 8) (hp : p ≤ t.1) (h : CTk t p M) (c : isw t b p = -1) : f_Text_takeWord b M = some (0, M) := by
  unfold f_Text_takeWord
  rw [c_wordAmong ht hb hp h, Option.bind_some]
  exact if_pos c
theorem c_take1 {t : Tp} (ht : t.1 ≤ 400) {b p : Nat} {M : mM} (hb : b < 8) (hp : p ≤ t.1) (h : CTk t p M) (c : ¬ isw t b p = -1) : OK (f_Text_takeWord b M) fun z => z.1 = 1 ∧ CTk t (nxp t p) z.2 ∧ FrX M z.2 := by
  unfold f_Text_takeWord
  rw [c_wordAmong ht hb hp h, Option.bind_some]
  refine OK_neg c ?_
  exact OK_bind (c_adv ht hp h) fun M' h' => OK_some ⟨rfl, h'.1, h'.2⟩
theorem c_rewind {t : Tp} (ht : t.1 ≤ 400) {M : mM} (h : CP t M) : OK (f_Text_rewind M) fun M' => CTk t 0 M' ∧ FrX M M' := by
  unfold f_Text_rewind
  rw [pI_s, Option.bind_some, pI_s, Option.bind_some, pI_s, Option.bind_some]
  have f : FrX M (msI (msI (msI M 1 3 0) 1 6 0) 1 4 0) := FrX_trans (FrX_trans (FrX_I (by omega)) (FrX_I (by omega))) (FrX_I (by omega))
  refine OK_bind (c_advance ht (p := 0) (CP_X h f) (Nat.zero_le _) (by rw [gIo (by omega), gIe]) (by rw [gIo (by omega), gIo (by omega), gIe]; rfl) (by rw [gIe]; decide)) fun M' h' => OK_some ⟨h'.1, FrX_trans f h'.2⟩
/-- the words' numbers -/
theorem idx_cases (t : Tp) (q : Nat) : ∀ (ws : List (List Int32)) (n : Nat), idx t q ws n = -1 ∨ ∃ k, k < ws.length ∧ idx t q ws n = i32 (n + k)
  | [], n => Or.inl rfl
  | w :: ws, n => by
    rw [idx]
    by_cases c : eqF t (wdE t q) q w = true
    · rw [if_pos c]
      exact Or.inr ⟨0, Nat.zero_lt_succ _, rfl⟩
    · rw [if_neg c]
      rcases idx_cases t q ws (n + 1) with h | ⟨k, hk, h⟩
      · exact Or.inl h
      · exact Or.inr ⟨k + 1, Nat.succ_lt_succ hk, by rw [h]; congr 1; omega⟩
