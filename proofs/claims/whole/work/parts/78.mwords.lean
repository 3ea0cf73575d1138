/-! ===== words, the model ===== -/
abbrev w_yard : List Int32 := [121, 97, 114, 100]
theorem pw_yard : pk w_yard 0 = 2036429412 ∧ w_yard ≠ [] ∧ w_yard.length < 8 ∧ ∀ c, c ∈ w_yard → isA c = true := by decide +kernel
abbrev w_grave : List Int32 := [103, 114, 97, 118, 101]
theorem pw_grave : pk w_grave 0 = 444300621413 ∧ w_grave ≠ [] ∧ w_grave.length < 8 ∧ ∀ c, c ∈ w_grave → isA c = true := by decide +kernel
abbrev w_pair : List Int32 := [112, 97, 105, 114]
theorem pw_pair : pk w_pair 0 = 1885432178 ∧ w_pair ≠ [] ∧ w_pair.length < 8 ∧ ∀ c, c ∈ w_pair → isA c = true := by decide +kernel
abbrev w_root : List Int32 := [114, 111, 111, 116]
theorem pw_root : pk w_root 0 = 1919905652 ∧ w_root ≠ [] ∧ w_root.length < 8 ∧ ∀ c, c ∈ w_root → isA c = true := by decide +kernel
abbrev w_heavy : List Int32 := [104, 101, 97, 118, 121]
theorem pw_heavy : pk w_heavy 0 = 448377484921 ∧ w_heavy ≠ [] ∧ w_heavy.length < 8 ∧ ∀ c, c ∈ w_heavy → isA c = true := by decide +kernel
abbrev w_flood : List Int32 := [102, 108, 111, 111, 100]
theorem pw_flood : pk w_flood 0 = 439905906532 ∧ w_flood ≠ [] ∧ w_flood.length < 8 ∧ ∀ c, c ∈ w_flood → isA c = true := by decide +kernel
abbrev w_plain : List Int32 := [112, 108, 97, 105, 110]
theorem pw_plain : pk w_plain 0 = 482854660462 ∧ w_plain ≠ [] ∧ w_plain.length < 8 ∧ ∀ c, c ∈ w_plain → isA c = true := by decide +kernel
abbrev w_child : List Int32 := [99, 104, 105, 108, 100]
theorem pw_child : pk w_child 0 = 426953501796 ∧ w_child ≠ [] ∧ w_child.length < 8 ∧ ∀ c, c ∈ w_child → isA c = true := by decide +kernel
abbrev w_unpaid : List Int32 := [117, 110, 112, 97, 105, 100]
theorem pw_unpaid : pk w_unpaid 0 = 129117192284516 ∧ w_unpaid ≠ [] ∧ w_unpaid.length < 8 ∧ ∀ c, c ∈ w_unpaid → isA c = true := by decide +kernel
abbrev w_stands : List Int32 := [115, 116, 97, 110, 100, 115]
theorem pw_stands : pk w_stands 0 = 126943688025203 ∧ w_stands ≠ [] ∧ w_stands.length < 8 ∧ ∀ c, c ∈ w_stands → isA c = true := by decide +kernel
abbrev w_lane : List Int32 := [108, 97, 110, 101]
theorem pw_lane : pk w_lane 0 = 1818324581 ∧ w_lane ≠ [] ∧ w_lane.length < 8 ∧ ∀ c, c ∈ w_lane → isA c = true := by decide +kernel
abbrev w_cell : List Int32 := [99, 101, 108, 108]
theorem pw_cell : pk w_cell 0 = 1667591276 ∧ w_cell ≠ [] ∧ w_cell.length < 8 ∧ ∀ c, c ∈ w_cell → isA c = true := by decide +kernel
abbrev w_year : List Int32 := [121, 101, 97, 114]
theorem pw_year : pk w_year 0 = 2036687218 ∧ w_year ≠ [] ∧ w_year.length < 8 ∧ ∀ c, c ∈ w_year → isA c = true := by decide +kernel
abbrev w_age : List Int32 := [97, 103, 101]
theorem pw_age : pk w_age 0 = 6383461 ∧ w_age ≠ [] ∧ w_age.length < 8 ∧ ∀ c, c ∈ w_age → isA c = true := by decide +kernel
abbrev w_ahead : List Int32 := [97, 104, 101, 97, 100]
theorem pw_ahead : pk w_ahead 0 = 418363302244 ∧ w_ahead ≠ [] ∧ w_ahead.length < 8 ∧ ∀ c, c ∈ w_ahead → isA c = true := by decide +kernel
abbrev w_behind : List Int32 := [98, 101, 104, 105, 110, 100]
theorem pw_behind : pk w_behind 0 = 108187682958948 ∧ w_behind ≠ [] ∧ w_behind.length < 8 ∧ ∀ c, c ∈ w_behind → isA c = true := by decide +kernel
abbrev w_fallen : List Int32 := [102, 97, 108, 108, 101, 110]
theorem pw_fallen : pk w_fallen 0 = 112568616904046 ∧ w_fallen ≠ [] ∧ w_fallen.length < 8 ∧ ∀ c, c ∈ w_fallen → isA c = true := by decide +kernel
abbrev w_go : List Int32 := [103, 111]
theorem pw_go : pk w_go 0 = 26479 ∧ w_go ≠ [] ∧ w_go.length < 8 ∧ ∀ c, c ∈ w_go → isA c = true := by decide +kernel
abbrev w_if : List Int32 := [105, 102]
theorem pw_if : pk w_if 0 = 26982 ∧ w_if ≠ [] ∧ w_if.length < 8 ∧ ∀ c, c ∈ w_if → isA c = true := by decide +kernel
abbrev w_not : List Int32 := [110, 111, 116]
theorem pw_not : pk w_not 0 = 7237492 ∧ w_not ≠ [] ∧ w_not.length < 8 ∧ ∀ c, c ∈ w_not → isA c = true := by decide +kernel
abbrev w_and : List Int32 := [97, 110, 100]
theorem pw_and : pk w_and 0 = 6385252 ∧ w_and ≠ [] ∧ w_and.length < 8 ∧ ∀ c, c ∈ w_and → isA c = true := by decide +kernel
abbrev w_or : List Int32 := [111, 114]
theorem pw_or : pk w_or 0 = 28530 ∧ w_or ≠ [] ∧ w_or.length < 8 ∧ ∀ c, c ∈ w_or → isA c = true := by decide +kernel
/-- a word of a row of words: its number -/
def wch : List (List Int32 × Int64 × Int32) → Int32 → mM → Option (Int32 × mM)
  | [], no, M => some (no, M)
  | a :: ws, no, M => (f_Model_isWord a.2.1 M).bind fun r => if r.1 = 0 then wch ws no r.2 else some (a.2.2, r.2)
def tch : List (List Int32 × Int64 × Int32) → Int32 → mM → Option (Int32 × mM)
  | [], no, M => some (no, M)
  | a :: ws, no, M => (f_Model_takesWord a.2.1 M).bind fun r => if r.1 = 0 then tch ws no r.2 else some (a.2.2, r.2)
def vch (t : Tp) (q : Nat) : List (List Int32 × Int64 × Int32) → Int32 → Int32
  | [], no => no
  | a :: ws, no => if eqF t (wdE t q) q a.1 = true then a.2.2 else vch t q ws no
def okW (a : List Int32 × Int64 × Int32) : Prop := pk a.1 0 = a.2.1 ∧ a.1 ≠ [] ∧ a.1.length < 8 ∧ ∀ c, c ∈ a.1 → isA c = true
theorem m_isWordq {t : Tp} (ht : t.1 ≤ 400) {q : Nat} {M : mM} {W : Int64} (hq : skp t q = q) (h : MTk t q M) (w : List Int32) (hw : pk w 0 = W ∧ w ≠ [] ∧ w.length < 8 ∧ ∀ c, c ∈ w → isA c = true) : OK (f_Model_isWord W M) fun z => z.1 = e01 (eqF t (wdE t q) q w) ∧ MTk t q z.2 ∧ Fr8 M z.2 := by
  have := m_isWord ht h w hw
  rw [hq] at this
  exact this
theorem m_wch {t : Tp} (ht : t.1 ≤ 400) {q : Nat} (hq : skp t q = q) : ∀ (ws : List (List Int32 × Int64 × Int32)) (no : Int32) (M : mM), (∀ a, a ∈ ws → okW a) → MTk t q M → OK (wch ws no M) fun z => z.1 = vch t q ws no ∧ MTk t q z.2 ∧ Fr8 M z.2
  | [], no, M, _, h => OK_some ⟨rfl, h, Fr8_refl _⟩
  | a :: ws, no, M, hw, h => by
    rw [wch, vch]
    refine OK_bind (m_isWordq ht hq h a.1 (hw a List.mem_cons_self)) fun z hz => ?_
    obtain ⟨e, m, f⟩ := hz
    cases c : eqF t (wdE t q) q a.1 with
    | true =>
      rw [c] at e
      rw [e, if_neg (show ¬ e01 true = 0 by decide), if_pos (rfl : true = true)]
      exact OK_some ⟨rfl, m, f⟩
    | false =>
      rw [c] at e
      rw [e, if_pos (show e01 false = 0 from rfl), if_neg Bool.false_ne_true]
      exact OK_imp (m_wch ht hq ws no z.2 (fun x hx => hw x (List.mem_cons_of_mem _ hx)) m) fun z' hz' => ⟨hz'.1, hz'.2.1, Fr8_trans f hz'.2.2⟩
theorem m_takes {t : Tp} (ht : t.1 ≤ 400) {q : Nat} {M : mM} {W : Int64} (hq : skp t q = q) (h : MTk t q M) (w : List Int32) (hw : pk w 0 = W ∧ w ≠ [] ∧ w.length < 8 ∧ ∀ c, c ∈ w → isA c = true) : OK (f_Model_takesWord W M) fun z => z.1 = e01 (eqF t (wdE t q) q w) ∧ MTk t (if eqF t (wdE t q) q w = true then wdE t q else q) z.2 ∧ Fr8 M z.2 := by
  unfold f_Model_takesWord
  refine OK_bind (m_isWordq ht hq h w hw) fun z hz => ?_
  obtain ⟨e, m, f⟩ := hz
  cases c : eqF t (wdE t q) q w with
  | true =>
    rw [c] at e
    rw [e, if_neg (show ¬ e01 true = 0 by decide), if_pos (rfl : true = true)]
    exact OK_bind (m_passWord ht m) fun M3 h3 => OK_some ⟨rfl, h3.1, Fr8_trans f h3.2⟩
  | false =>
    rw [c] at e
    rw [e, if_pos (show e01 false = 0 from rfl), if_neg Bool.false_ne_true]
    exact OK_some ⟨rfl, m, f⟩
theorem m_tch {t : Tp} (ht : t.1 ≤ 400) {q : Nat} (hq : skp t q = q) : ∀ (ws : List (List Int32 × Int64 × Int32)) (no : Int32) (M : mM), (∀ a, a ∈ ws → okW a ∧ a.2.2 ≠ no) → MTk t q M → OK (tch ws no M) fun z => z.1 = vch t q ws no ∧ MTk t (if vch t q ws no = no then q else wdE t q) z.2 ∧ Fr8 M z.2
  | [], no, M, _, h => OK_some ⟨rfl, by rw [vch, if_pos rfl]; exact h, Fr8_refl _⟩
  | a :: ws, no, M, hw, h => by
    rw [tch, vch]
    refine OK_bind (m_takes ht hq h a.1 (hw a List.mem_cons_self).1) fun z hz => ?_
    obtain ⟨e, m, f⟩ := hz
    cases c : eqF t (wdE t q) q a.1 with
    | true =>
      rw [c] at e
      rw [c, if_pos (rfl : true = true)] at m
      rw [e, if_neg (show ¬ e01 true = 0 by decide), if_pos (rfl : true = true), if_neg (hw a List.mem_cons_self).2]
      exact OK_some ⟨rfl, m, f⟩
    | false =>
      rw [c] at e
      rw [c, if_neg Bool.false_ne_true] at m
      rw [e, if_pos (show e01 false = 0 from rfl), if_neg Bool.false_ne_true]
      exact OK_imp (m_tch ht hq ws no z.2 (fun x hx => hw x (List.mem_cons_of_mem _ hx)) m) fun z' hz' => ⟨hz'.1, hz'.2.1, Fr8_trans f hz'.2.2⟩
def c_yard : List (List Int32 × Int64 × Int32) := [(w_yard, 2036429412, 1), (w_grave, 444300621413, 1), (w_pair, 1885432178, 1), (w_root, 1919905652, 1), (w_heavy, 448377484921, 1), (w_flood, 439905906532, 1)]
def c_grave : List (List Int32 × Int64 × Int32) := [(w_grave, 444300621413, 0), (w_lane, 1818324581, 1), (w_cell, 1667591276, 2), (w_year, 2036687218, 3), (w_age, 6383461, 4), (w_child, 426953501796, 5), (w_unpaid, 129117192284516, 6), (w_pair, 1885432178, 7), (w_ahead, 418363302244, 8), (w_behind, 108187682958948, 9), (w_flood, 439905906532, 10), (w_fallen, 112568616904046, 11)]
def c_kinds : List (List Int32 × Int64 × Int32) := [(w_plain, 482854660462, 0), (w_child, 426953501796, 1), (w_unpaid, 129117192284516, 2), (w_stands, 126943688025203, 3)]
theorem ok_yard : ∀ a, a ∈ c_yard → okW a := by
  intro a h
  unfold c_yard at h
  simp only [List.mem_cons, List.not_mem_nil, or_false] at h
  rcases h with h | h | h | h | h | h <;> subst h
  · exact pw_yard
  · exact pw_grave
  · exact pw_pair
  · exact pw_root
  · exact pw_heavy
  · exact pw_flood
theorem ok_grave : ∀ a, a ∈ c_grave → okW a := by
  intro a h
  unfold c_grave at h
  simp only [List.mem_cons, List.not_mem_nil, or_false] at h
  rcases h with h | h | h | h | h | h | h | h | h | h | h | h <;> subst h
  · exact pw_grave
  · exact pw_lane
  · exact pw_cell
  · exact pw_year
  · exact pw_age
  · exact pw_child
  · exact pw_unpaid
  · exact pw_pair
  · exact pw_ahead
  · exact pw_behind
  · exact pw_flood
  · exact pw_fallen
theorem ok_kinds : ∀ a, a ∈ c_kinds → okW a ∧ a.2.2 ≠ -1 := by
  intro a h
  unfold c_kinds at h
  simp only [List.mem_cons, List.not_mem_nil, or_false] at h
  rcases h with h | h | h | h <;> subst h
  · exact ⟨pw_plain, by decide⟩
  · exact ⟨pw_child, by decide⟩
  · exact ⟨pw_unpaid, by decide⟩
  · exact ⟨pw_stands, by decide⟩
theorem f_isYardWord (M : mM) : f_Model_isYardWord M = wch c_yard 0 M := rfl
theorem f_wordHere (M : mM) : f_Model_wordHere M = wch c_grave (-1) M := rfl
theorem f_kindHere (M : mM) : f_Model_kindHere M = tch c_kinds (-1) M := rfl
theorem v_grave {t : Tp} {p : Nat} : vch t (skp t p) c_grave (-1) = isw t 3 p := rfl
theorem v_kinds {t : Tp} {p : Nat} : vch t (skp t p) c_kinds (-1) = isw t 1 p := rfl
/-- a clause's word, one after another -/
theorem isw0_eq (t : Tp) (p : Nat) : isw t 0 p = if eqF t (wdE t (skp t p)) (skp t p) w_yard = true then 0 else if eqF t (wdE t (skp t p)) (skp t p) w_grave = true then 1 else if eqF t (wdE t (skp t p)) (skp t p) w_pair = true then 2 else if eqF t (wdE t (skp t p)) (skp t p) w_root = true then 3 else if eqF t (wdE t (skp t p)) (skp t p) w_heavy = true then 4 else if eqF t (wdE t (skp t p)) (skp t p) w_flood = true then 5 else -1 := rfl
theorem isw1w_eq (t : Tp) (b p : Nat) (w : List Int32) (h : wl b = [w]) : isw t b p = if eqF t (wdE t (skp t p)) (skp t p) w = true then 0 else -1 := by
  unfold isw
  rw [h]
  rfl
/-- a word ends where its letters end -/
theorem nxp_w {t : Tp} {b p : Nat} (hb : b < 8) (h : ¬ isw t b p = -1) : nxp t p = wdE t (skp t p) := by
  have hk : knd t (skp t p) = 2 := by
    refine Classical.byContradiction fun z => h ?_
    exact idx_no (knd_wd z) (wl b) 0 fun w hw => ((wl_ok b hb).2 w hw).1
  unfold nxp
  rw [bhd_2 hk]
theorem m_isYardWord {t : Tp} (ht : t.1 ≤ 400) {p : Nat} {M : mM} (h : MTk t (skp t p) M) : OK (f_Model_isYardWord M) fun z => (z.1 = 0 ↔ isw t 0 p = -1) ∧ MTk t (skp t p) z.2 ∧ Fr8 M z.2 := by
  rw [f_isYardWord]
  refine OK_imp (m_wch ht (skp_skp t p) c_yard 0 M ok_yard h) fun z hz => ⟨?_, hz.2⟩
  rw [hz.1, isw0_eq]
  show (if eqF t (wdE t (skp t p)) (skp t p) w_yard = true then (1 : Int32) else if eqF t (wdE t (skp t p)) (skp t p) w_grave = true then 1 else if eqF t (wdE t (skp t p)) (skp t p) w_pair = true then 1 else if eqF t (wdE t (skp t p)) (skp t p) w_root = true then 1 else if eqF t (wdE t (skp t p)) (skp t p) w_heavy = true then 1 else if eqF t (wdE t (skp t p)) (skp t p) w_flood = true then 1 else 0) = 0 ↔ _
  repeat' split
  all_goals decide
theorem m_wordHere {t : Tp} (ht : t.1 ≤ 400) {p : Nat} {M : mM} (h : MTk t (skp t p) M) : OK (f_Model_wordHere M) fun z => z.1 = isw t 3 p ∧ MTk t (skp t p) z.2 ∧ Fr8 M z.2 := by
  rw [f_wordHere]
  exact m_wch ht (skp_skp t p) c_grave (-1) M ok_grave h
theorem m_kindHere {t : Tp} (ht : t.1 ≤ 400) {p : Nat} {M : mM} (h : MTk t (skp t p) M) : OK (f_Model_kindHere M) fun z => z.1 = isw t 1 p ∧ MTk t (if isw t 1 p = -1 then skp t p else nxp t p) z.2 ∧ Fr8 M z.2 := by
  rw [f_kindHere]
  refine OK_imp (m_tch ht (skp_skp t p) c_kinds (-1) M ok_kinds h) fun z hz => ⟨hz.1, ?_, hz.2.2⟩
  have h2 := hz.2.1
  rw [v_kinds] at h2
  by_cases c : isw t 1 p = -1
  · rw [if_pos c] at h2 ⊢
    exact h2
  · rw [if_neg c] at h2 ⊢
    rw [nxp_w (by omega) c]
    exact h2
