/-! ===== a rule is read: the class, sums ===== -/
/-- the text, the count and the rule's code alone change -/
def FrRu (S : Nat) (M M' : mM) : Prop := M'.2.2 = M.2.2 ∧ (∀ p, p ≠ 1 → p ≠ 12 → p ≠ S → p ≠ S + 1 → M'.2.1 p = M.2.1 p) ∧ (∀ i, i ≠ 1 → M'.2.1 S i = M.2.1 S i) ∧ M'.2.1 1 1 = M.2.1 1 1 ∧ ∀ i, i ≠ 2 → M'.2.1 12 i = M.2.1 12 i
theorem FrRu_refl (S : Nat) (M : mM) : FrRu S M M := ⟨rfl, fun _ _ _ _ _ => rfl, fun _ _ => rfl, rfl, fun _ _ => rfl⟩
theorem FrRu_trans {S : Nat} {M M' M'' : mM} (h : FrRu S M M') (h' : FrRu S M' M'') : FrRu S M M'' := ⟨h'.1.trans h.1, fun p a b c d => (h'.2.1 p a b c d).trans (h.2.1 p a b c d), fun i a => (h'.2.2.1 i a).trans (h.2.2.1 i a), h'.2.2.2.1.trans h.2.2.2.1, fun i a => (h'.2.2.2.2 i a).trans (h.2.2.2.2 i a)⟩
theorem FrX_Ru {S : Nat} (hS : 13 ≤ S) {M M' : mM} (h : FrX M M') : FrRu S M M' := ⟨h.1, fun p a _ _ _ => h.2.1 p a, fun i _ => by rw [h.2.1 S (by omega)], h.2.2, fun i _ => by rw [h.2.1 12 (by omega)]⟩
def FrE (S : Nat) (M M' : mM) : Prop := M'.2.2 = M.2.2 ∧ (∀ p, p ≠ S → p ≠ S + 1 → M'.2.1 p = M.2.1 p) ∧ ∀ i, i ≠ 1 → M'.2.1 S i = M.2.1 S i
theorem FrE_Ru {S : Nat} (hS : 13 ≤ S) {M M' : mM} (h : FrE S M M') : FrRu S M M' := ⟨h.1, fun p _ _ a b => h.2.1 p a b, h.2.2, by rw [h.2.1 1 (by omega) (by omega)], fun i _ => by rw [h.2.1 12 (by omega) (by omega)]⟩
/-- the code so far -/
def Pg (S : Nat) (l : List Oq) (M : mM) : Prop := M.2.1 S 1 = i32 l.length ∧ cel cE l 0 (M.2.1 (S + 1))
theorem Pg_of {S : Nat} {l : List Oq} {M M' : mM} (h : Pg S l M) (e : M'.2.1 S 1 = M.2.1 S 1) (e1 : M'.2.1 (S + 1) = M.2.1 (S + 1)) : Pg S l M' := by
  unfold Pg at h ⊢
  rw [e, e1]
  exact h
theorem Pg_X {S : Nat} (hS : 13 ≤ S) {l : List Oq} {M M' : mM} (h : Pg S l M) (e : FrX M M') : Pg S l M' := Pg_of h (by rw [e.2.1 S (by omega)]) (e.2.1 _ (by omega))
theorem c_emit {S : Nat} {l : List Oq} {o : Oq} {M : mM} (h : Pg S l M) (hl : l.length < 400) : OK (f_Rule_emit S (cE o) M) fun M' => Pg S (l ++ [o]) M' ∧ FrE S M M' := by
  unfold f_Rule_emit
  rw [h.1, if_neg (fun z => (i32_neg (a := l.length) (by omega)).mp z), if_neg (by rw [show (400 : Int32) = i32 400 from rfl, i32_le (by omega) (by omega)]; omega), wr_i32 hl (by omega), Option.bind_some, pI_s, Option.bind_some, gIp (by omega), h.1, nadd_1]
  refine OK_some ⟨⟨?_, ?_⟩, rfl, fun p a b => by rw [gIp a, gIp b], fun i hi => by rw [gIo hi, gIp (by omega)]⟩
  · rw [gIe, List.length_append]
    rfl
  · rw [cel_app]
    refine ⟨cel_of l 0 (fun i _ hi => ?_) h.2, ?_, True.intro⟩
    · rw [gIp (by omega), gIo (by omega)]
    · rw [gIp (by omega), Nat.zero_add, gIe]
theorem c_emitX (S : Nat) (x : Int32) (M : mM) : OK (f_Rule_emit S x M) fun M' => FrE S M M' := by
  unfold f_Rule_emit
  rcases i32_cases (M.2.1 S 1) with c | ⟨a, ha, c⟩
  · exact OK_pos c (OK_some ⟨rfl, fun _ _ _ => rfl, fun _ _ => rfl⟩)
  · rw [c, if_neg (fun z => (i32_neg (a := a) (by omega)).mp z)]
    by_cases d : 400 ≤ a
    · rw [if_pos (by rw [show (400 : Int32) = i32 400 from rfl, i32_le (by omega) (by omega)]; exact d)]
      exact OK_some ⟨rfl, fun _ _ _ => rfl, fun _ _ => rfl⟩
    · rw [if_neg (by rw [show (400 : Int32) = i32 400 from rfl, i32_le (by omega) (by omega)]; exact d), wr_i32 (by omega) (by omega), Option.bind_some, pI_s, Option.bind_some]
      exact OK_some ⟨rfl, fun p a b => by rw [gIp a, gIp b], fun i hi => by rw [gIo hi, gIp (by omega)]⟩
/-- refused: what is done then -/
def BS (S : Nat) (t : Tp) (w : Nat) (M M' : mM) : Prop := CRf t w M' ∧ M'.2.2.2 12 1 = some S ∧ FrRu S M M'
/-- going on -/
def GS (S : Nat) (t : Tp) (p m : Nat) (l : List Oq) (M M' : mM) : Prop := CTk t p M' ∧ Pg S l M' ∧ M'.2.1 12 2 = i32 m ∧ M'.2.2.2 12 1 = some S ∧ FrRu S M M'
theorem CRf_E {S : Nat} (hS : 13 ≤ S) {t : Tp} {w : Nat} {M M' : mM} (h : CRf t w M) (e : FrE S M M') : CRf t w M' := CRf_X h (e.2.1 1 (by omega) (by omega)) (e.2.1 2 (by omega) (by omega))
theorem CTk_E {S : Nat} (hS : 13 ≤ S) {t : Tp} {p : Nat} {M M' : mM} (h : CTk t p M) (e : FrE S M M') : CTk t p M' := CTk_X h (e.2.1 1 (by omega) (by omega)) (e.2.1 2 (by omega) (by omega))
theorem BS_emit {S : Nat} (hS : 13 ≤ S) {t : Tp} {w : Nat} {M0 M : mM} (h : BS S t w M0 M) (x : Int32) : OK (f_Rule_emit S x M) fun M' => BS S t w M0 M' := OK_imp (c_emitX S x M) fun M' e => ⟨CRf_E hS h.1 e, by rw [e.1]; exact h.2.1, FrRu_trans h.2.2 (FrE_Ru hS e)⟩
theorem GS_emit {S : Nat} (hS : 13 ≤ S) {t : Tp} {p m : Nat} {l : List Oq} {o : Oq} {M0 M : mM} (h : GS S t p m l M0 M) (hl : l.length < 400) : OK (f_Rule_emit S (cE o) M) fun M' => GS S t p m (l ++ [o]) M0 M' := OK_imp (c_emit h.2.1 hl) fun M' e => ⟨CTk_E hS h.1 e.2, e.1, by rw [e.2.2.1 12 (by omega) (by omega)]; exact h.2.2.1, by rw [e.2.1]; exact h.2.2.2.1, FrRu_trans h.2.2.2.2 (FrE_Ru hS e.2)⟩
theorem GS_X {S : Nat} (hS : 13 ≤ S) {t : Tp} {p p' m : Nat} {l : List Oq} {M0 M M' : mM} (h : GS S t p m l M0 M) (e : CTk t p' M' ∧ FrX M M') : GS S t p' m l M0 M' := ⟨e.1, Pg_X hS h.2.1 e.2, by rw [e.2.2.1 12 (by omega)]; exact h.2.2.1, by rw [e.2.1]; exact h.2.2.2.1, FrRu_trans h.2.2.2.2 (FrX_Ru hS e.2)⟩
theorem GS_B {S : Nat} (hS : 13 ≤ S) {t : Tp} {p m w : Nat} {l : List Oq} {M0 M M' : mM} (h : GS S t p m l M0 M) (e : CRf t w M' ∧ FrX M M') : BS S t w M0 M' := ⟨e.1, by rw [e.2.1]; exact h.2.2.2.1, FrRu_trans h.2.2.2.2 (FrX_Ru hS e.2)⟩
theorem BS_nn {S : Nat} (hr : is_ru S) {t : Tp} {w : Nat} {M0 M : mM} (h : BS S t w M0 M) : nnl ruL (M.2.2.2 12 1) = some S := by rw [h.2.1]; exact nnl_s hr
theorem GS_nn {S : Nat} (hr : is_ru S) {t : Tp} {p m : Nat} {l : List Oq} {M0 M : mM} (h : GS S t p m l M0 M) : nnl ruL (M.2.2.2 12 1) = some S := by rw [h.2.2.2.1]; exact nnl_s hr
def RsS (S : Nat) (t : Tp) (l : List Oq) (r : Rs) (M M' : mM) : Prop := match r with
  | .error w => BS S t w M M'
  | .ok q => GS S t q.2.1 q.2.2 (l ++ q.1) M M'
/-! counting -/
theorem BS_count {S : Nat} {t : Tp} {w : Nat} {M0 M : mM} (hS : 13 ≤ S) (h : BS S t w M0 M) : OK (f_RuleReader_countOne M) fun M' => BS S t w M0 M' := by
  have e : f_RuleReader_countOne M = f_RuleReader_countOne_17 M := by
    unfold f_RuleReader_countOne
    rw [CRf_rf h.1, Option.bind_some]
    split <;> rfl
  rw [e]
  unfold f_RuleReader_countOne_17
  rw [pI_s, Option.bind_some]
  exact OK_some ⟨CRf_X h.1 (gIp (by omega)) (gIp (by omega)), h.2.1, FrRu_trans h.2.2 ⟨rfl, fun p _ a _ _ => gIp a, fun i _ => by rw [gIp (by omega)], by rw [gIp (by omega)], fun i hi => gIo hi⟩⟩
theorem GS_count {S : Nat} {t : Tp} (ht : t.1 ≤ 400) {p m : Nat} {l : List Oq} {M0 M : mM} (hS : 13 ≤ S) (hp : p ≤ t.1) (hm : m ≤ 60) (h : GS S t p m l M0 M) : OK (f_RuleReader_countOne M) fun M' => (60 ≤ m → BS S t (flt (skp t p) 3) M0 M') ∧ (¬ 60 ≤ m → GS S t p (m + 1) l M0 M') := by
  unfold f_RuleReader_countOne
  by_cases c : 60 ≤ m
  · rw [h.2.2.1, if_neg (by rw [show (60 : Int32) = i32 60 from rfl, i32_lt (by omega) (by omega)]; omega)]
    refine OK_bind (c_refuse ht hp (k := 3) (by omega) h.1) fun M1 h1 => ?_
    have b1 := GS_B hS h h1
    unfold f_RuleReader_countOne_17
    rw [pI_s, Option.bind_some]
    exact OK_some ⟨fun _ => ⟨CRf_X b1.1 (gIp (by omega)) (gIp (by omega)), b1.2.1, FrRu_trans b1.2.2 ⟨rfl, fun p _ a _ _ => gIp a, fun i _ => by rw [gIp (by omega)], by rw [gIp (by omega)], fun i hi => gIo hi⟩⟩, fun z => absurd c z⟩
  · rw [h.2.2.1, if_pos (by rw [show (60 : Int32) = i32 60 from rfl, i32_lt (by omega) (by omega)]; omega)]
    unfold f_RuleReader_countOne_17
    rw [pI_s, Option.bind_some, h.2.2.1, nadd_1]
    exact OK_some ⟨fun z => absurd z c, fun _ => ⟨CTk_X h.1 (gIp (by omega)) (gIp (by omega)), Pg_of h.2.1 (by rw [gIp (by omega)]) (gIp (by omega)), gIe _ _ _ _, h.2.2.2.1, FrRu_trans h.2.2.2.2 ⟨rfl, fun p _ a _ _ => gIp a, fun i _ => by rw [gIp (by omega)], by rw [gIp (by omega)], fun i hi => gIo hi⟩⟩⟩
/-! values -/
theorem BS_52 {S : Nat} (hr : is_ru S) (hS : 13 ≤ S) {t : Tp} {w : Nat} {M0 M : mM} (h : BS S t w M0 M) (x : Int32) : OK (f_RuleReader_readValue_52 x M) fun M' => BS S t w M0 M' := by
  unfold f_RuleReader_readValue_52
  refine OK_bind (BS_count hS h) fun M1 h1 => ?_
  rw [CRf_adv h1.1, Option.bind_some, BS_nn hr h1, Option.bind_some]
  exact OK_bind (BS_emit hS h1 x) fun M2 h2 => OK_some h2
theorem BS_value {S : Nat} (hr : is_ru S) (hS : 13 ≤ S) {t : Tp} {w : Nat} {M0 M : mM} (h : BS S t w M0 M) : OK (f_RuleReader_readValue M) fun M' => BS S t w M0 M' := by
  unfold f_RuleReader_readValue
  rw [if_neg (by rw [h.1.2.2.2.2]; decide), CRf_wd h.1, Option.bind_some, if_pos (show ((-1 : Int32), M).1 = -1 from rfl)]
  dsimp only
  rw [CRf_rf h.1, Option.bind_some]
  exact BS_52 hr hS h (-1)
/-- a value that is counted, passed and told -/
theorem GS_52 {S : Nat} (hr : is_ru S) (hS : 13 ≤ S) {t : Tp} (ht : t.1 ≤ 400) {p m : Nat} {l : List Oq} {o : Oq} {M0 M : mM} (hp : p ≤ t.1) (hm : m ≤ 60) (hl : l.length < 400) (h : GS S t p m l M0 M) : OK (f_RuleReader_readValue_52 (cE o) M) fun M' => (60 ≤ m → BS S t (flt (skp t p) 3) M0 M') ∧ (¬ 60 ≤ m → GS S t (nxp t p) (m + 1) (l ++ [o]) M0 M') := by
  unfold f_RuleReader_readValue_52
  refine OK_bind (GS_count ht hS hp hm h) fun M1 h1 => ?_
  by_cases c : 60 ≤ m
  · have h1 := h1.1 c
    rw [CRf_adv h1.1, Option.bind_some, BS_nn hr h1, Option.bind_some]
    exact OK_bind (BS_emit hS h1 _) fun M2 h2 => OK_some ⟨fun _ => h2, fun z => absurd c z⟩
  · have h1 := h1.2 c
    refine OK_bind (c_adv ht hp h1.1) fun M2 h2 => ?_
    have g2 := GS_X hS h1 h2
    rw [GS_nn hr g2, Option.bind_some]
    exact OK_bind (GS_emit hS g2 hl) fun M3 h3 => OK_some ⟨fun z => absurd z c, fun _ => h3⟩
def RsV (S : Nat) (t : Tp) (l : List Oq) (r : Except Nat (Oq × Nat × Nat)) (M M' : mM) : Prop := match r with
  | .error w => BS S t w M M'
  | .ok q => GS S t q.2.1 q.2.2 (l ++ [q.1]) M M'
theorem c_value {S : Nat} (hr : is_ru S) (hS : 13 ≤ S) {t : Tp} (ht : t.1 ≤ 400) {p m : Nat} {l : List Oq} {M0 M : mM} (hp : p ≤ t.1) (hm : m ≤ 60) (hl : l.length ≤ p) (h : GS S t p m l M0 M) : OK (f_RuleReader_readValue M) fun M' => RsV S t l (sVal t p m) M0 M' := by
  have hk := knd_le t (skp t p)
  unfold f_RuleReader_readValue sVal
  rw [h.1.2.2.2.2.1]
  by_cases c : knd t (skp t p) = 1
  · have hn := nxp_gt (t := t) (p := p) (by rw [c]; decide)
    rw [if_pos (by rw [c]; rfl), if_pos c]
    refine OK_bind (c_num (lo := 0) (h := 100000) ht hp (by omega) (by omega) h.1) fun z hz => ?_
    cases e : nmr t p 0 100000 with
    | error w =>
      rw [e] at hz
      rw [ebd_e]
      exact BS_52 hr hS (GS_B hS h ⟨hz.2.1, hz.2.2⟩) _
    | ok v =>
      rw [e] at hz
      have hz' : z = (i32 v, M) := hz
      subst hz'
      rw [ebd_o]
      have ev : (1000 : Int32) + i32 v = cE (0, v) := i32_add 1000 v
      dsimp only
      rw [ev]
      refine OK_imp (GS_52 hr hS ht hp hm (by omega) h) fun M' h' => ?_
      by_cases d : 60 ≤ m
      · rw [if_pos d]; exact h'.1 d
      · rw [if_neg d]; exact h'.2 d
  · rw [if_neg (by rw [show (1 : Int32) = i32 1 from rfl, i32_eq (by omega) (by omega)]; exact c), if_neg c, c_wordAmong ht (by omega) hp h.1, Option.bind_some]
    show OK (if isw t 3 p = -1 then _ else _) _
    by_cases w : isw t 3 p = -1
    · rw [if_pos w, if_pos w]
      exact OK_bind (c_refuse ht hp (k := 0) (by omega) h.1) fun M1 h1 => BS_52 hr hS (GS_B hS h h1) _
    · have hn := isw_gt (by omega) w
      rw [if_neg w, if_neg w]
      obtain ⟨k, hk, ek⟩ := isw_k w
      have hk : k < 12 := hk
      have e1 : (isw t 3 p).toNatClampNeg = k := by rw [ek]; exact i32_cl (by omega)
      have ev : isw t 3 p = cE (1, k) := ek
      rw [e1]
      show OK (f_RuleReader_readValue_52 (isw t 3 p) M) _
      rw [ev]
      refine OK_imp (GS_52 hr hS ht hp hm (by omega) h) fun M' h' => ?_
      by_cases d : 60 ≤ m
      · rw [if_pos d]; exact h'.1 d
      · rw [if_neg d]; exact h'.2 d
/-! signs -/
theorem BS_sign {t : Tp} {w : Nat} {M : mM} (h : CRf t w M) (a b c d e : Int32) : f_RuleReader_signAmong a b c d e M = some (-1, M) := by
  unfold f_RuleReader_signAmong
  rw [if_neg (by rw [h.2.2.2.2]; decide)]
  unfold f_RuleReader_signAmong_22
  repeat' split
  all_goals first | rfl | (rename_i z; rw [z]) | skip
  all_goals rfl
def eo (o : Option Nat) : Int32 := obd o (-1) cB
theorem sgn_v {t : Tp} {p : Nat} (h : knd t (skp t p) = 3) (x : Int32) : (sgn t p x = true) = (val t (skp t p) = x) := by
  unfold sgn
  rw [decide_eq_true h, Bool.true_and, decide_eq_true_iff]
theorem sgn_no {t : Tp} {p : Nat} (h : ¬ knd t (skp t p) = 3) (x : Int32) : ¬ sgn t p x = true := fun z => h (sgn_3 z)
theorem c_sg5 {t : Tp} {p : Nat} {M : mM} (h : CTk t p M) (a b c d e : Int32) : f_RuleReader_signAmong a b c d e M = f_RuleReader_signAmong_22 a b c d e (if knd t (skp t p) = 3 then val t (skp t p) else -1) M := by
  have hk := knd_le t (skp t p)
  unfold f_RuleReader_signAmong
  rw [h.2.2.2.2.1]
  by_cases k : knd t (skp t p) = 3
  · rw [if_pos (by rw [k]; rfl), if_pos k, h.2.2.2.2.2 (Or.inr k)]
  · rw [if_neg (by rw [show (3 : Int32) = i32 3 from rfl, i32_eq (by omega) (by omega)]; exact k), if_neg k]
theorem c_sgT {t : Tp} {p : Nat} {M : mM} (h : CTk t p M) : f_RuleReader_signAmong 42 47 37 (-1) (-1) M = some (eo (sgT t p), M) := by
  rw [c_sg5 h]
  unfold f_RuleReader_signAmong_22 sgT
  by_cases k : knd t (skp t p) = 3
  · rw [if_pos k]
    simp only [sgn_v k]
    by_cases a : val t (skp t p) = 42
    · rw [if_pos a, if_pos a, a]; rfl
    rw [if_neg a, if_neg a]
    by_cases b : val t (skp t p) = 47
    · rw [if_pos b, if_pos b, b]; rfl
    rw [if_neg b, if_neg b]
    by_cases c : val t (skp t p) = 37
    · rw [if_pos c, if_pos c, c]; rfl
    rw [if_neg c, if_neg c]
    by_cases d : val t (skp t p) = -1
    · rw [if_pos d, d]; rfl
    · rw [if_neg d, if_neg d]; rfl
  · rw [if_neg k, if_neg (sgn_no k _), if_neg (sgn_no k _), if_neg (sgn_no k _)]
    rfl
theorem c_sgS {t : Tp} {p : Nat} {M : mM} (h : CTk t p M) : f_RuleReader_signAmong 43 45 (-1) (-1) (-1) M = some (eo (sgS t p), M) := by
  rw [c_sg5 h]
  unfold f_RuleReader_signAmong_22 sgS
  by_cases k : knd t (skp t p) = 3
  · rw [if_pos k]
    simp only [sgn_v k]
    by_cases a : val t (skp t p) = 43
    · rw [if_pos a, if_pos a, a]; rfl
    rw [if_neg a, if_neg a]
    by_cases b : val t (skp t p) = 45
    · rw [if_pos b, if_pos b, b]; rfl
    rw [if_neg b, if_neg b]
    by_cases d : val t (skp t p) = -1
    · rw [if_pos d, d]; rfl
    · rw [if_neg d, if_neg d, if_neg d]; rfl
  · rw [if_neg k, if_neg (sgn_no k _), if_neg (sgn_no k _)]
    rfl
theorem c_sgC {t : Tp} {p : Nat} {M : mM} (h : CTk t p M) : f_RuleReader_signAmong 60 316 61 318 62 M = some (eo (sgC t p), M) := by
  rw [c_sg5 h]
  unfold f_RuleReader_signAmong_22 sgC
  by_cases k : knd t (skp t p) = 3
  · rw [if_pos k]
    simp only [sgn_v k]
    by_cases a : val t (skp t p) = 60
    · rw [if_pos a, if_pos a, a]; rfl
    rw [if_neg a, if_neg a]
    by_cases b : val t (skp t p) = 316
    · rw [if_pos b, if_pos b, b]; rfl
    rw [if_neg b, if_neg b]
    by_cases c : val t (skp t p) = 61
    · rw [if_pos c, if_pos c, c]; rfl
    rw [if_neg c, if_neg c]
    by_cases d : val t (skp t p) = 318
    · rw [if_pos d, if_pos d, d]; rfl
    rw [if_neg d, if_neg d]
    by_cases e : val t (skp t p) = 62
    · rw [if_pos e, if_pos e, e]; rfl
    rw [if_neg e, if_neg e]
    rfl
  · rw [if_neg k, if_neg (sgn_no k _), if_neg (sgn_no k _), if_neg (sgn_no k _), if_neg (sgn_no k _), if_neg (sgn_no k _)]
    rfl
/-! sums -/
theorem cB_n1 {k : Nat} (hk : k < 12) : ¬ cB k = -1 := by
  have : ∀ k : Fin 12, ¬ cB k.1 = -1 := by decide
  exact this ⟨k, hk⟩
theorem BS_38 {S : Nat} (hr : is_ru S) (hS : 13 ≤ S) {t : Tp} {w : Nat} {M0 M : mM} (h : BS S t w M0 M) (f : Nat) (a i : Int32) : OK (f_RuleReader_readSum_38 (f_RuleReader_readSum_9 (f + 1)) a i M) fun M' => BS S t w M0 M' := by
  have stop : ∀ M1 : mM, BS S t w M0 M1 → OK (f_RuleReader_readSum_69 (f_RuleReader_readSum_9 (f + 1)) (-1) i M1) fun M' => BS S t w M0 M' := by
    intro M1 h1
    unfold f_RuleReader_readSum_69
    rw [BS_sign h1.1, Option.bind_some]
    unfold f_RuleReader_readSum_81
    rw [if_pos rfl, if_pos (show ((-1 : Int32), M1).1 = -1 from rfl)]
    unfold f_RuleReader_readSum_96
    rw [if_pos rfl]
    unfold f_RuleReader_readSum_108 f_RuleReader_readSum_9
    dsimp only
    split
    · exact OK_some h1
    · rw [if_pos rfl]
      exact OK_some h1
  unfold f_RuleReader_readSum_38
  rw [BS_sign h.1, Option.bind_some, if_pos (show ((-1 : Int32), M).1 = -1 from rfl)]
  dsimp only
  by_cases c : a = -1
  · rw [if_pos c]
    exact stop M h
  · rw [if_neg c, BS_nn hr h, Option.bind_some]
    exact OK_bind (BS_emit hS h a) fun M1 h1 => stop M1 h1
theorem BS_sum {S : Nat} (hr : is_ru S) (hS : 13 ≤ S) {t : Tp} {w : Nat} {M0 M : mM} (h : BS S t w M0 M) : OK (f_RuleReader_readSum M) fun M' => BS S t w M0 M' := by
  unfold f_RuleReader_readSum
  rw [show FUEL = 99998 + 1 + 1 from rfl, f_RuleReader_readSum_9, if_neg (by decide), if_neg (by decide)]
  refine OK_bind (BS_value hr hS h) fun M1 h1 => ?_
  rw [if_pos rfl]
  exact BS_38 hr hS h1 _ _ _
abbrev Pd : Type := Option (Nat × List Oq)
def jo (F : Pd) (c : List Oq) : List Oq := obd F c fun q => q.2 ++ c ++ [(2, q.1)]
def ja (F : Pd) : List Oq := obd F [] fun q => q.2
def pn (F : Pd) : Nat := obd F 0 fun _ => 1
def oc (F : Pd) : Int32 := obd F (-1) fun q => cB q.1
def okP (F : Pd) : Prop := obd F True fun q => q.1 < 12
theorem ebd_as {α β γ : Type} (x : Except Nat α) (f : α → Except Nat β) (g : β → Except Nat γ) : ebd (ebd x f) g = ebd x fun a => ebd (f a) g := by
  cases x <;> rfl
theorem c_sum9 {S : Nat} (hr : is_ru S) (hS : 13 ≤ S) {t : Tp} (ht : t.1 ≤ 400) {l : List Oq} {M0 : mM} : ∀ (f i p m kT kS : Nat) (T F : Pd) (M : mM), t.1 + 1 < p + f → t.1 < p + kT → t.1 < p + kS → 2 * i ≤ p → p ≤ t.1 → m ≤ 60 → okP T → okP F → l.length + (ja T).length + (ja F).length + pn T + pn F ≤ p → GS S t p m (l ++ ja T ++ ja F) M0 M →
    OK (f_RuleReader_readSum_9 f (oc T) (oc F) 1 (i32 i) M) fun M' => RsS S t l (ebd (sVal t p m) fun v => ebd (sTerm t kT v.2.1 v.2.2 (jo F [v.1])) fun y => sSumL t kS y.2.1 y.2.2 (jo T y.1)) M0 M'
  | 0, i, p, m, kT, kS, T, F, M, hf, hT, hK, hi, hp, hm, oT, oF, hl, h => by omega
  | f + 1, i, p, m, kT, kS, T, F, M, hf, hT, hK, hi, hp, hm, oT, oF, hl, h => by
    obtain ⟨f, rfl⟩ : ∃ f', f = f' + 1 := ⟨f - 1, by omega⟩
    rw [f_RuleReader_readSum_9, if_neg (by rw [show (400 : Int32) = i32 400 from rfl, i32_le (by omega) (by omega)]; omega), if_neg (by decide)]
    have hl0 : (l ++ ja T ++ ja F).length = l.length + (ja T).length + (ja F).length := by rw [List.length_append, List.length_append]
    refine OK_bind (c_value hr hS ht hp hm (by omega) h) fun M1 h1 => ?_
    cases e : sVal t p m with
    | error w =>
      rw [e] at h1
      rw [ebd_e]
      have h1 : BS S t w M0 M1 := h1
      by_cases c : oc F = -1
      · rw [if_pos c]
        exact BS_38 hr hS h1 f _ _
      · rw [if_neg c, BS_nn hr h1, Option.bind_some]
        exact OK_bind (BS_emit hS h1 _) fun M2 h2 => BS_38 hr hS h2 f _ _
    | ok v =>
      obtain ⟨v, p1, m1⟩ := v
      rw [e] at h1
      have h1 : GS S t p1 m1 (l ++ ja T ++ ja F ++ [v]) M0 M1 := h1
      have hv := sVal_ok e
      have v3 : p < p1 := hv.2.2.1
      have v4 : p1 ≤ t.1 := hv.2.2.2.1
      have v5 : m1 = m + 1 := hv.2.2.2.2.1
      have v6 := hv.2.2.2.2.2
      rw [ebd_o]
      dsimp only
      -- behind the value's sign
      have key : ∀ M2 : mM, GS S t p1 m1 (l ++ ja T ++ jo F [v]) M0 M2 → OK (f_RuleReader_readSum_38 (f_RuleReader_readSum_9 (f + 1)) (oc T) (i32 i) M2) fun M' => RsS S t l (ebd (sTerm t kT p1 m1 (jo F [v])) fun y => sSumL t kS y.2.1 y.2.2 (jo T y.1)) M0 M' := by
        intro M2 h2
        have lj : (jo F [v]).length = (ja F).length + 1 + pn F := by
          cases F with
          | none => rfl
          | some q => show (q.2 ++ [v] ++ [(2, q.1)]).length = _; rw [List.length_append, List.length_append]; rfl
        obtain ⟨kT, rfl⟩ : ∃ k', kT = k' + 1 := ⟨kT - 1, by omega⟩
        obtain ⟨kS, rfl⟩ : ∃ k', kS = k' + 1 := ⟨kS - 1, by omega⟩
        unfold f_RuleReader_readSum_38
        rw [c_sgT h2.1, Option.bind_some, sTerm]
        cases es : sgT t p1 with
        | some s =>
          have hs := sgT_k es
          rw [obd_s, show eo (some s) = cB s from rfl, if_neg (cB_n1 hs.1)]
          dsimp only
          unfold f_RuleReader_readSum_81 f_RuleReader_readSum_91 f_RuleReader_readSum_96
          rw [if_neg (cB_n1 hs.1), if_neg (by decide)]
          refine OK_bind (c_adv ht v4 h2.1) fun M3 h3 => ?_
          have g3 := GS_X hS h2 h3
          unfold f_RuleReader_readSum_108
          rw [nadd_1, ebd_as]
          exact c_sum9 hr hS ht (f + 1) (i + 1) (nxp t p1) m1 kT (kS + 1) T (some (s, jo F [v])) M3 (by omega) (by omega) (by omega) (by omega) (by omega) (by omega) oT hs.1 (by show l.length + (ja T).length + (jo F [v]).length + pn T + 1 ≤ _; rw [lj]; omega) g3
        | none =>
          rw [obd_n, show eo none = -1 from rfl, if_pos rfl, ebd_o]
          dsimp only
          have lT : (jo T (jo F [v])).length = (ja T).length + (jo F [v]).length + pn T := by
            cases T with
            | none => show (jo F [v]).length = 0 + (jo F [v]).length + 0; omega
            | some q => show (q.2 ++ jo F [v] ++ [(2, q.1)]).length = _; rw [List.length_append, List.length_append]; rfl
          have key2 : ∀ M3 : mM, GS S t p1 m1 (l ++ jo T (jo F [v])) M0 M3 → OK (f_RuleReader_readSum_69 (f_RuleReader_readSum_9 (f + 1)) (-1) (i32 i) M3) fun M' => RsS S t l (sSumL t (kS + 1) p1 m1 (jo T (jo F [v]))) M0 M' := by
            intro M3 h3
            unfold f_RuleReader_readSum_69
            rw [c_sgS h3.1, Option.bind_some, sSumL]
            cases eu : sgS t p1 with
            | none =>
              rw [obd_n, show eo none = -1 from rfl]
              unfold f_RuleReader_readSum_81
              rw [if_pos rfl, if_pos (show ((-1 : Int32), M3).1 = -1 from rfl)]
              unfold f_RuleReader_readSum_96
              rw [if_pos rfl]
              unfold f_RuleReader_readSum_108
              dsimp only
              rw [f_RuleReader_readSum_9]
              by_cases c4 : (400 : Int32) ≤ i32 i + 1
              · rw [if_pos c4]
                exact OK_some h3
              · rw [if_neg c4, if_pos rfl]
                exact OK_some h3
            | some s =>
              have hs := sgS_k eu
              rw [obd_s, show eo (some s) = cB s from rfl]
              unfold f_RuleReader_readSum_81
              rw [if_pos rfl, if_neg (show ¬ (cB s, M3).1 = -1 from cB_n1 hs.1)]
              unfold f_RuleReader_readSum_91 f_RuleReader_readSum_96
              rw [if_neg (by decide)]
              refine OK_bind (c_adv ht v4 h3.1) fun M4 h4 => ?_
              have g4 := GS_X hS h3 h4
              unfold f_RuleReader_readSum_108
              rw [nadd_1]
              exact c_sum9 hr hS ht (f + 1) (i + 1) (nxp t p1) m1 401 kS (some (s, jo T (jo F [v]))) none M4 (by omega) (by omega) (by omega) (by omega) (by omega) (by omega) hs.1 True.intro (by show l.length + (jo T (jo F [v])).length + 0 + 1 + 0 ≤ _; rw [lT, lj]; omega) (by show GS S t (nxp t p1) m1 (l ++ jo T (jo F [v]) ++ []) M0 M4; rw [List.append_nil]; exact g4)
          cases T with
          | none =>
            have h2' : GS S t p1 m1 (l ++ jo none (jo F [v])) M0 M2 := by
              have : l ++ ja none ++ jo F [v] = l ++ jo none (jo F [v]) := by show l ++ [] ++ _ = _; rw [List.append_nil]; rfl
              rw [← this]; exact h2
            rw [if_pos (show oc none = -1 from rfl)]
            exact key2 M2 h2'
          | some q =>
            have oT' : q.1 < 12 := oT
            rw [if_neg (show ¬ oc (some q) = -1 from cB_n1 oT'), GS_nn hr h2, Option.bind_some]
            refine OK_bind (GS_emit hS (o := (2, q.1)) h2 ?_) fun M3 h3 => ?_
            · rw [List.length_append, List.length_append, lj]
              have : pn (some q) = 1 := rfl
              omega
            · have : l ++ ja (some q) ++ jo F [v] ++ [(2, q.1)] = l ++ jo (some q) (jo F [v]) := by
                show l ++ q.2 ++ jo F [v] ++ [(2, q.1)] = l ++ (q.2 ++ jo F [v] ++ [(2, q.1)])
                simp only [List.append_assoc]
              rw [this] at h3
              exact key2 M3 h3
      cases F with
      | none =>
        rw [if_pos (show oc none = -1 from rfl)]
        refine key M1 ?_
        have : l ++ ja T ++ ja none ++ [v] = l ++ ja T ++ jo none [v] := by show l ++ ja T ++ [] ++ [v] = l ++ ja T ++ [v]; rw [List.append_nil]
        rw [← this]; exact h1
      | some q =>
        have oF' : q.1 < 12 := oF
        rw [if_neg (show ¬ oc (some q) = -1 from cB_n1 oF'), GS_nn hr h1, Option.bind_some]
        refine OK_bind (GS_emit hS (o := (2, q.1)) h1 ?_) fun M2 h2 => ?_
        · rw [List.length_append, hl0]
          have : pn (some q) = 1 := rfl
          show l.length + (ja T).length + (ja (some q)).length + 1 < 400
          omega
        · refine key M2 ?_
          have : l ++ ja T ++ ja (some q) ++ [v] ++ [(2, q.1)] = l ++ ja T ++ jo (some q) [v] := by
            show l ++ ja T ++ q.2 ++ [v] ++ [(2, q.1)] = l ++ ja T ++ (q.2 ++ [v] ++ [(2, q.1)])
            simp only [List.append_assoc]
          rw [← this]; exact h2
  termination_by f => f
theorem c_sum {S : Nat} (hr : is_ru S) (hS : 13 ≤ S) {t : Tp} (ht : t.1 ≤ 400) {l : List Oq} {p m : Nat} {M0 M : mM} (hp : p ≤ t.1) (hm : m ≤ 60) (hl : l.length ≤ p) (h : GS S t p m l M0 M) : OK (f_RuleReader_readSum M) fun M' => RsS S t l (sSum t p m) M0 M' := by
  unfold f_RuleReader_readSum sSum
  exact c_sum9 hr hS ht FUEL 0 p m 401 401 none none M (by rw [FUEL_eq]; omega) (by omega) (by omega) (by omega) hp hm True.intro True.intro (by show l.length + 0 + 0 + 0 + 0 ≤ p; omega) (by show GS S t p m (l ++ [] ++ []) M0 M; rw [List.append_nil, List.append_nil]; exact h)
