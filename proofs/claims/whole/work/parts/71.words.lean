/-! ===== words ===== -/
def chs (b : Nat) : List Int32 := mm_sb2.getD b []
theorem chs_len : ∀ b, b < 8 → mm_sl.getD b 0 = (chs b).length := by
  have : ∀ b : Fin 8, mm_sl.getD b.1 0 = (chs b.1).length := by decide +kernel
  exact fun b hb => this ⟨b, hb⟩
theorem chs_255 : ∀ b, b < 8 → ∀ c, c ∈ chs b → c &&& 255 = c := by
  have : ∀ b : Fin 8, ∀ c, c ∈ chs b.1 → c &&& 255 = c := by decide +kernel
  exact fun b hb => this ⟨b, hb⟩
theorem chs_le {b : Nat} (hb : b < 8) : (chs b).length ≤ 100 := by
  have : ∀ b : Fin 8, (chs b.1).length ≤ 100 := by decide +kernel
  exact this ⟨b, hb⟩
theorem f_len_eq {b : Nat} (hb : b < 8) : f_len b = i32 (chs b).length := by
  unfold f_len
  rw [chs_len b hb]
  rfl
theorem f_cha_eq {b i : Nat} (hb : b < 8) (hi : i < (chs b).length) : f_cha b (i32 i) = some ((chs b).getD i 0) := by
  have h1 := chs_le hb
  unfold f_cha
  rw [chs_len b hb, if_pos (mxin_i hi (by omega))]
  unfold mm_ch
  rw [i32_cl (by omega), mm_sb_eq]
  show some ((chs b).getD i 0 &&& 255) = _
  rw [chs_255 b hb]
  rw [List.getD_eq_getElem?_getD, List.getElem?_eq_getElem hi]
  exact List.getElem_mem hi
def scn (t : Tp) (q e : Nat) : List Int32 → Nat → Nat → Bool → Int32
  | [], n, a, s => if s = true ∧ a = e then i32 n else -1
  | c :: cs, n, a, s => if c = 32 then (if s = true ∧ a = e then i32 n else scn t q e cs (n + 1) q true) else scn t q e cs n (a + 1) (s && decide (a < e) && decide (t.2 a = c))
theorem c_among {t : Tp} (ht : t.1 ≤ 400) {b q e : Nat} {M : mM} (hb : b < 8) (h0 : CP t M) (h2 : M.2.1 1 2 = i32 q) (h3 : M.2.1 1 3 = i32 e) (hq : q ≤ e) (he : e ≤ t.1) : ∀ (cs : List Int32) (i f n a : Nat) (s : Bool), i + cs.length = (chs b).length → cs = (chs b).drop i → cs.length + 1 < f → a ≤ q + i → q ≤ a → n ≤ i → f_Text_wordAmong_23 b f (i32 n) (i32 a) (e01 s) (i32 i) M = some (scn t q e cs n a s, M)
  | _, _, 0, _, _, _, _, _, hf, _, _, _ => absurd hf (Nat.not_lt_zero _)
  | [], i, f + 1, n, a, s, hi, hcs, hf, ha, hqa, hn => by
    have h100 := chs_le hb
    simp only [List.length_nil, Nat.add_zero] at hi hf
    unfold f_Text_wordAmong_23
    rw [f_len_eq hb, if_neg (by rw [i32_lt (by omega) (by omega)]; omega), if_pos (by rw [hi])]
    unfold f_Text_wordAmong_52 f_Text_wordAmong_67 f_Text_wordAmong_132
    rw [h3, scn]
    have fin : f_Text_wordAmong_23 b f (i32 n + 1) (M.2.1 1 2) 1 (i32 i + 1) M = some (-1, M) := by
      cases f with
      | zero => omega
      | succ f =>
        unfold f_Text_wordAmong_23
        rw [f_len_eq hb, nadd_1, nadd_1, if_pos (by rw [i32_lt (by omega) (by omega)]; omega)]
    cases s with
    | false => rw [if_pos e01_f, fin, if_neg (fun z => absurd z.1 Bool.false_ne_true)]
    | true =>
      rw [if_neg (show ¬ e01 true = 0 by decide)]
      by_cases c : a = e
      · rw [if_pos (by rw [c]), if_pos ⟨rfl, c⟩]
      · rw [if_neg (by rw [i32_eq (by omega) (by omega)]; exact c), fin, if_neg (fun z => c z.2)]
  | ch :: cs, i, f + 1, n, a, s, hi, hcs, hf, ha, hqa, hn => by
    have h100 := chs_le hb
    rw [List.length_cons] at hi hf
    have hil : i < (chs b).length := by omega
    have hget : (chs b).getD i 0 = ch := by
      rw [List.getD_eq_getElem?_getD]
      have : ((chs b).drop i)[0]? = some ch := by rw [← hcs]; rfl
      rw [List.getElem?_drop, Nat.add_zero] at this
      rw [this]
      rfl
    have hcs' : cs = (chs b).drop (i + 1) := by
      rw [← List.drop_drop, ← hcs]
      rfl
    unfold f_Text_wordAmong_23
    rw [f_len_eq hb, if_neg (by rw [i32_lt (by omega) (by omega)]; omega), if_neg (by rw [i32_eq (by omega) (by omega)]; omega), f_cha_eq hb hil, Option.bind_some, hget, scn]
    by_cases c32 : ch = 32
    · rw [if_pos c32, if_pos c32]
      unfold f_Text_wordAmong_52 f_Text_wordAmong_67 f_Text_wordAmong_132
      have nx : f_Text_wordAmong_23 b f (i32 n + 1) (M.2.1 1 2) 1 (i32 i + 1) M = some (scn t q e cs (n + 1) q true, M) := by
        rw [h2, nadd_1, nadd_1]
        exact c_among ht hb h0 h2 h3 hq he cs (i + 1) f (n + 1) q true (by omega) hcs' (by omega) (by omega) (Nat.le_refl _) (by omega)
      rw [h3]
      cases s with
      | false => rw [if_pos e01_f, nx, if_neg (fun z => absurd z.1 Bool.false_ne_true)]
      | true =>
        rw [if_neg (show ¬ e01 true = 0 by decide)]
        by_cases c : a = e
        · rw [if_pos (by rw [c]), if_pos ⟨rfl, c⟩]
        · rw [if_neg (by rw [i32_eq (by omega) (by omega)]; exact c), nx, if_neg (fun z => c z.2)]
    · rw [if_neg c32, if_neg c32]
      unfold f_Text_wordAmong_126 f_Text_wordAmong_127 f_Text_wordAmong_132
      rw [nadd_1, nadd_1]
      have nx : ∀ s' : Bool, f_Text_wordAmong_23 b f (i32 n) (i32 (a + 1)) (e01 s') (i32 (i + 1)) M = some (scn t q e cs n (a + 1) s', M) := fun s' => c_among ht hb h0 h2 h3 hq he cs (i + 1) f n (a + 1) s' (by omega) hcs' (by omega) (by omega) (by omega) (by omega)
      have n0 := nx false
      have n1 := nx true
      rw [show e01 false = 0 from rfl] at n0
      rw [show e01 true = 1 from rfl] at n1
      cases s with
      | false => rw [if_pos e01_f, n0]; rfl
      | true =>
        rw [if_neg (show ¬ e01 true = 0 by decide), if_neg (fun z => (i32_neg (a := a) (by omega)).mp z), h3]
        by_cases c : a < e
        · have eb : M.2.1 2 a = t.2 a := h0.2 a (by omega)
          rw [if_neg (by rw [i32_le (by omega) (by omega)]; omega), if_neg (by rw [show (400 : Int32) = i32 400 from rfl, i32_le (by omega) (by omega)]; omega), rd_i32 (by omega) (by omega), Option.bind_some, Option.bind_some, eb, decide_eq_true c, Bool.true_and, Bool.true_and]
          by_cases c2 : t.2 a = ch
          · rw [if_pos c2, decide_eq_true c2, n1]
          · rw [if_neg c2, decide_eq_false c2, n0]
        · rw [if_pos (by rw [i32_le (by omega) (by omega)]; omega), n0, decide_eq_false c, Bool.and_false, Bool.false_and]
def eqF (t : Tp) (e : Nat) : Nat → List Int32 → Bool
  | a, [] => decide (a = e)
  | a, c :: cs => decide (a < e) && decide (t.2 a = c) && eqF t e (a + 1) cs
theorem scn_word (t : Tp) (q e : Nat) (cs : List Int32) (n : Nat) : ∀ (w : List Int32) (a : Nat) (s : Bool), (∀ c, c ∈ w → c ≠ 32) → scn t q e (w ++ 32 :: cs) n a s = if (s && eqF t e a w) = true then i32 n else scn t q e cs (n + 1) q true
  | [], a, s, _ => by
    rw [List.nil_append, scn, if_pos rfl, eqF]
    cases s with
    | false => rw [if_neg (fun z => absurd z.1 Bool.false_ne_true), Bool.false_and, if_neg Bool.false_ne_true]
    | true =>
      by_cases c : a = e
      · rw [if_pos ⟨rfl, c⟩, decide_eq_true c, if_pos (show (true && true) = true from rfl)]
      · rw [if_neg (fun z => c z.2), decide_eq_false c, Bool.and_false, if_neg Bool.false_ne_true]
  | ch :: w, a, s, h => by
    rw [List.cons_append, scn, if_neg (h ch List.mem_cons_self), scn_word t q e cs n w _ _ fun c hc => h c (List.mem_cons_of_mem _ hc), eqF]
    simp only [Bool.and_assoc]
theorem scn_last (t : Tp) (q e : Nat) (n : Nat) : ∀ (w : List Int32) (a : Nat) (s : Bool), (∀ c, c ∈ w → c ≠ 32) → scn t q e w n a s = if (s && eqF t e a w) = true then i32 n else -1
  | [], a, s, _ => by
    rw [scn, eqF]
    cases s with
    | false => rw [if_neg (fun z => absurd z.1 Bool.false_ne_true), Bool.false_and, if_neg Bool.false_ne_true]
    | true =>
      by_cases c : a = e
      · rw [if_pos ⟨rfl, c⟩, decide_eq_true c, if_pos (show (true && true) = true from rfl)]
      · rw [if_neg (fun z => c z.2), decide_eq_false c, Bool.and_false, if_neg Bool.false_ne_true]
  | ch :: w, a, s, h => by
    rw [scn, if_neg (h ch List.mem_cons_self), scn_last t q e n w _ _ fun c hc => h c (List.mem_cons_of_mem _ hc), eqF]
    simp only [Bool.and_assoc]
/-- which of the words stands at q -/
def idx (t : Tp) (q : Nat) : List (List Int32) → Nat → Int32
  | [], _ => -1
  | w :: ws, n => if eqF t (wdE t q) q w = true then i32 n else idx t q ws (n + 1)
def joi : List (List Int32) → List Int32
  | [] => []
  | [w] => w
  | w :: ws => w ++ 32 :: joi ws
theorem scn_idx (t : Tp) (q : Nat) : ∀ (ws : List (List Int32)) (n : Nat), ws ≠ [] → (∀ w, w ∈ ws → ∀ c, c ∈ w → c ≠ 32) → scn t q (wdE t q) (joi ws) n q true = idx t q ws n
  | [], n, h, _ => absurd rfl h
  | [w], n, _, h => by
    rw [joi, scn_last t q _ n w q true (h w List.mem_cons_self), Bool.true_and]
    rfl
  | w :: w2 :: ws, n, _, h => by
    rw [show joi (w :: w2 :: ws) = w ++ 32 :: joi (w2 :: ws) from rfl, scn_word t q _ _ n w q true (h w List.mem_cons_self), Bool.true_and, scn_idx t q (w2 :: ws) (n + 1) (List.cons_ne_nil _ _) fun x hx => h x (List.mem_cons_of_mem _ hx)]
    rfl
  termination_by ws => ws.length
/-- the words of the class's strings -/
def wl : Nat → List (List Int32)
  | 0 => [[121, 97, 114, 100], [103, 114, 97, 118, 101], [112, 97, 105, 114], [114, 111, 111, 116], [104, 101, 97, 118, 121], [102, 108, 111, 111, 100]]
  | 1 => [[112, 108, 97, 105, 110], [99, 104, 105, 108, 100], [117, 110, 112, 97, 105, 100], [115, 116, 97, 110, 100, 115]]
  | 2 => [[103, 111]]
  | 3 => [[103, 114, 97, 118, 101], [108, 97, 110, 101], [99, 101, 108, 108], [121, 101, 97, 114], [97, 103, 101], [99, 104, 105, 108, 100], [117, 110, 112, 97, 105, 100], [112, 97, 105, 114], [97, 104, 101, 97, 100], [98, 101, 104, 105, 110, 100], [102, 108, 111, 111, 100], [102, 97, 108, 108, 101, 110]]
  | 4 => [[105, 102]]
  | 5 => [[110, 111, 116]]
  | 6 => [[97, 110, 100]]
  | _ => [[111, 114]]
theorem wl_joi : ∀ b, b < 8 → joi (wl b) = chs b := by
  have : ∀ b : Fin 8, joi (wl b.1) = chs b.1 := by decide +kernel
  exact fun b hb => this ⟨b, hb⟩
theorem wl_ok : ∀ b, b < 8 → wl b ≠ [] ∧ ∀ w, w ∈ wl b → w ≠ [] ∧ w.length < 8 ∧ ∀ c, c ∈ w → isA c = true ∧ c ≠ 32 := by
  have : ∀ b : Fin 8, wl b.1 ≠ [] ∧ ∀ w, w ∈ wl b.1 → w ≠ [] ∧ w.length < 8 ∧ ∀ c, c ∈ w → isA c = true ∧ c ≠ 32 := by decide +kernel
  exact fun b hb => this ⟨b, hb⟩
theorem eqF_no {t : Tp} {q : Nat} {w : List Int32} (hw : w ≠ []) : eqF t q q w = false := by
  cases w with
  | nil => exact absurd rfl hw
  | cons c cs => rw [eqF, decide_eq_false (Nat.lt_irrefl _), Bool.false_and, Bool.false_and]
theorem idx_no {t : Tp} {q : Nat} (hq : wdE t q = q) : ∀ (ws : List (List Int32)) (n : Nat), (∀ w, w ∈ ws → w ≠ []) → idx t q ws n = -1
  | [], n, _ => rfl
  | w :: ws, n, h => by
    rw [idx, hq, eqF_no (h w List.mem_cons_self), if_neg Bool.false_ne_true]
    exact idx_no hq ws (n + 1) fun x hx => h x (List.mem_cons_of_mem _ hx)
theorem knd_wd {t : Tp} {q : Nat} (h : knd t q ≠ 2) : wdE t q = q := by
  unfold wdE
  by_cases c : q < t.1
  · rw [show t.1 - q = (t.1 - q - 1) + 1 by omega, wdF]
    by_cases ha : isA (t.2 q) = true
    · exfalso
      unfold knd at h
      rw [if_pos c] at h
      by_cases hd : isD (t.2 q) = true
      · have h1 := (dig_lt hd).2
        have h2 := (dig_lt hd).1
        unfold isA at ha
        rw [Bool.and_eq_true, decide_eq_true_iff] at ha
        refine ha.1 ?_
        rw [h1, show (97 : Int32) = i32 97 from rfl, i32_lt (by omega) (by omega)]
        omega
      · rw [if_neg hd, if_pos ha] at h
        exact h rfl
    · rw [if_neg ha]
  · rw [show t.1 - q = 0 by omega]
    rfl
/-- which word, the class -/
theorem c_wordAmong {t : Tp} (ht : t.1 ≤ 400) {b p : Nat} {M : mM} (hb : b < 8) (hp : p ≤ t.1) (h : CTk t p M) : f_Text_wordAmong b M = some (idx t (skp t p) (wl b) 0, M) := by
  obtain ⟨h0, h6, h2, h3, h4, h5⟩ := h
  have hle := skp_le t hp
  have hwl := wl_ok b hb
  unfold f_Text_wordAmong
  rw [h4]
  by_cases c : knd t (skp t p) = 2
  · rw [if_pos (by rw [c]; rfl), h2]
    rw [bhd_2 c] at h3
    have h100 := chs_le hb
    have key := c_among ht hb h0 h2 h3 (wdE_ge t _) (wdE_le t hle) (chs b) 0 FUEL 0 (skp t p) true (Nat.zero_add _) rfl (by rw [FUEL_eq]; omega) (Nat.le_refl _) (Nat.le_refl _) (Nat.le_refl _)
    rw [← wl_joi b hb, scn_idx t _ (wl b) 0 hwl.1 fun w hw c hc => ((hwl.2 w hw).2.2 c hc).2] at key
    exact key
  · have hk : knd t (skp t p) < 4 := by
      unfold knd
      split
      · split
        · omega
        · split <;> omega
      · omega
    rw [if_neg (by rw [show (2 : Int32) = i32 2 from rfl, i32_eq (by omega) (by omega)]; exact c), idx_no (knd_wd c) _ _ fun w hw => (hwl.2 w hw).1]
