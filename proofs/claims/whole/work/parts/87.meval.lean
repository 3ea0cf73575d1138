/-! ===== a rule's worth: the model ===== -/
def mB (k : Nat) : Int32 := [2, 3, 4, 5, 14, 6, 7, 8, 9, 10, 12, 13].getD k 0
def mE (o : Oq) : Int32 := if o.1 = 0 then i32 (16 * o.2) else if o.1 = 1 then i32 (1 + 16 * o.2) else if o.1 = 3 then 11 else mB o.2
theorem and15 {a : Nat} : i32 a &&& 15 = i32 (a % 16) := by
  rw [← Int32.toBitVec_inj, Int32.toBitVec_and]
  apply BitVec.eq_of_toNat_eq
  rw [BitVec.toNat_and]
  show (BitVec.ofNat 32 a).toNat &&& (15 : Nat) = (BitVec.ofNat 32 (a % 16)).toNat
  rw [BitVec.toNat_ofNat, BitVec.toNat_ofNat]
  have : (a % 2 ^ 32) &&& 15 = (a % 2 ^ 32) % 16 := Nat.and_two_pow_sub_one_eq_mod _ 4
  rw [this]
  omega
theorem shr4 {a : Nat} (h : a < 2147483648) : i32 a >>> ((4 : Int32) &&& 31) = i32 (a / 16) := by
  rw [show ((4 : Int32) &&& 31) = 4 by decide, ← Int32.toBitVec_inj, Int32.toBitVec_shiftRight]
  have e4 : ((4 : Int32).toBitVec.smod 32) = 4#32 := by decide
  rw [e4]
  show (BitVec.ofNat 32 a).sshiftRight' (4#32) = BitVec.ofNat 32 (a / 16)
  rw [BitVec.sshiftRight_eq']
  have hm : (BitVec.ofNat 32 a).msb = false := by
    rw [BitVec.msb_eq_false_iff_two_mul_lt, BitVec.toNat_ofNat]
    omega
  rw [BitVec.sshiftRight_eq_of_msb_false hm]
  apply BitVec.eq_of_toNat_eq
  rw [BitVec.toNat_ushiftRight, BitVec.toNat_ofNat]
  show (a % 2 ^ 32) >>> 4 = (BitVec.ofNat 32 (a / 16)).toNat
  rw [BitVec.toNat_ofNat, Nat.shiftRight_eq_div_pow]
  omega
theorem m_one {k : Nat} (hk : k < 12) (a b : Int64) (M : mM) : f_Model_one (mB k) a b M = some (jn k a b, M) := by
  have h : k = 0 ∨ k = 1 ∨ k = 2 ∨ k = 3 ∨ k = 4 ∨ k = 5 ∨ k = 6 ∨ k = 7 ∨ k = 8 ∨ k = 9 ∨ k = 10 ∨ k = 11 := by omega
  rcases h with h | h | h | h | h | h | h | h | h | h | h | h <;> subst h
  · rfl
  · rfl
  · rfl
  · show (if lg_cmp b 0 = 0 then some (0, M) else if b = 0 then none else some (a / b, M)) = some (if b = 0 then 0 else a / b, M)
    simp only [lg_eq0]
    by_cases c : b = 0
    · rw [if_pos c, if_pos c]
    · rw [if_neg c, if_neg c, if_neg c]
  · show (if lg_cmp b 0 = 0 then some (0, M) else if b = 0 then none else some (a - a / b * b, M)) = some (if b = 0 then 0 else a - a / b * b, M)
    simp only [lg_eq0]
    by_cases c : b = 0
    · rw [if_pos c, if_pos c]
    · rw [if_neg c, if_neg c, if_neg c]
  · show (if 0 ≤ lg_cmp a b then some (0, M) else some (1, M)) = some (if a < b then 1 else 0, M)
    simp only [lg_ge]
    by_cases c : a < b
    · rw [if_neg (fun z => z c), if_pos c]
    · rw [if_pos c, if_neg c]
  · show (if 0 < lg_cmp a b then some (0, M) else some (1, M)) = some (if b < a then 0 else 1, M)
    simp only [lg_pos]
    by_cases c : b < a
    · rw [if_pos c, if_pos c]
    · rw [if_neg c, if_neg c]
  · show (if lg_cmp a b = 0 then some (1, M) else some (0, M)) = some (if a = b then 1 else 0, M)
    simp only [lg_eq0]
    by_cases c : a = b
    · rw [if_pos c, if_pos c]
    · rw [if_neg c, if_neg c]
  · show (if lg_cmp a b < 0 then some (0, M) else some (1, M)) = some (if a < b then 0 else 1, M)
    simp only [lg_neg]
    by_cases c : a < b
    · rw [if_pos c, if_pos c]
    · rw [if_neg c, if_neg c]
  · show (if lg_cmp a b ≤ 0 then some (0, M) else some (1, M)) = some (if b < a then 1 else 0, M)
    simp only [lg_le0]
    by_cases c : b < a
    · rw [if_neg (fun z => z c), if_pos c]
    · rw [if_pos c, if_neg c]
  · rfl
  · rfl
theorem mB_ok {k : Nat} (hk : k < 12) : mB k &&& 15 = mB k ∧ mB k ≠ 0 ∧ mB k ≠ 1 ∧ mB k ≠ 11 := by
  have : ∀ k : Fin 12, mB k.1 &&& 15 = mB k.1 ∧ mB k.1 ≠ 0 ∧ mB k.1 ≠ 1 ∧ mB k.1 ≠ 11 := by decide
  exact this ⟨k, hk⟩
/-- the stack alone changes -/
def EvM (M M' : mM) : Prop := M'.2.2.2 = M.2.2.2 ∧ (∀ p, p ≠ 444 → M'.2.2.1 p = M.2.2.1 p) ∧ (∀ p, p ≠ 436 → M'.2.1 p = M.2.1 p) ∧ ∀ i, i ≠ 18 → M'.2.1 436 i = M.2.1 436 i
theorem EvM_refl (M : mM) : EvM M M := ⟨rfl, fun _ _ => rfl, fun _ _ => rfl, fun _ _ => rfl⟩
theorem EvM_trans {M M' M'' : mM} (h : EvM M M') (h' : EvM M' M'') : EvM M M'' := ⟨h'.1.trans h.1, fun p hp => (h'.2.1 p hp).trans (h.2.1 p hp), fun p hp => (h'.2.2.1 p hp).trans (h.2.2.1 p hp), fun i hi => (h'.2.2.2 i hi).trans (h.2.2.2 i hi)⟩
theorem EvM_I {M : mM} {v : Int32} : EvM M (msI M 436 18 v) := ⟨rfl, fun _ _ => rfl, fun p hp => gIp hp, fun i hi => gIo hi⟩
theorem EvM_L {M : mM} {i : Nat} {v : Int64} : EvM M (msL M 444 i v) := ⟨rfl, fun p hp => gLp hp, fun _ _ => rfl, fun _ _ => rfl⟩
theorem EvM_EqM {M M' : mM} (h : EvM M M') : EqM M M' := ⟨by rw [h.1, h.2.1 436 (by omega)], h.2.2.1, h.2.2.2⟩
/-- the model's stack -/
def SkM (st : List Int64) (M : mM) : Prop := M.2.1 436 18 = i32 st.length ∧ stkL st (M.2.2.1 444)
theorem m_push {st : List Int64} {M : mM} (h : SkM st M) (hl : st.length < 64) (v : Int64) : OK (f_Model_push v M) fun M' => SkM (v :: st) M' ∧ EvM M M' := by
  unfold f_Model_push
  rw [h.1, wrL_i32 hl (by omega), Option.bind_some, pI_s, Option.bind_some]
  have e : (msL M 444 st.length v).2.1 436 18 = i32 st.length := h.1
  rw [e, nadd_1]
  exact OK_some ⟨⟨gIe _ _ _ _, stkL_push h.2⟩, EvM_trans EvM_L EvM_I⟩
theorem m_pop {v : Int64} {st : List Int64} {M : mM} (h : SkM (v :: st) M) (hl : st.length < 64) : OK (f_Model_pop M) fun z => z.1 = v ∧ SkM st z.2 ∧ EvM M z.2 := by
  unfold f_Model_pop
  rw [h.1, List.length_cons, show (1 : Int32) = i32 1 from rfl, i32_sub (by omega), show st.length + 1 - 1 = st.length by omega, pI_s, Option.bind_some, gIe, rdL_i32 hl (by omega), Option.bind_some]
  exact OK_some ⟨h.2.1, ⟨gIe _ _ _ _, h.2.2⟩, EvM_I⟩
theorem m_reck {x : Nat} (hx : x < 6) {ws : List Int64} {x2 : Int32} {e : Nat} (he : e ≤ 400) {v : Int64} : ∀ (c : List Oq) (o f : Nat) (st : List Int64) (M : mM), cel mE c (400 * x + o) (M.2.1 438) → (∀ y, y ∈ c → vo y) → sd c st.length = some 1 → runO ws c st = [v] → st.length + nv c ≤ 60 → o + c.length = e → SkM st M → (∀ k, k < 12 → M.2.2.1 445 k = ws.getD k 0) → c.length < f → OK (f_Model_reckons_8 (i32 x) x2 (i32 e) f (i32 o) M) fun z => z.1 = v ∧ EvM M z.2
  | _, _, 0, _, _, _, _, _, _, _, _, _, _, hf => absurd hf (Nat.not_lt_zero _)
  | [], o, f + 1, st, M, hc, hv, hs, hr, hn, ho, hst, hw, hf => by
    have hr' : st = [v] := hr
    subst hr'
    rw [List.length_nil] at ho
    unfold f_Model_reckons_8
    rw [if_pos (by rw [i32_le (by omega) (by omega)]; omega)]
    refine OK_bind (m_pop hst (by show (0 : Nat) < 64; omega)) fun z hz => OK_some ⟨hz.1, hz.2.2⟩
  | y :: c, o, f + 1, st, M, hc, hv, hs, hr, hn, ho, hst, hw, hf => by
    rw [List.length_cons] at ho hf
    rw [nv] at hn
    obtain ⟨hc1, hc2⟩ := hc
    obtain ⟨j, hj, hs2⟩ := sd_c hs
    rw [runO] at hr
    have hvx := hv y List.mem_cons_self
    have hv2 : ∀ y, y ∈ c → vo y := fun y hy => hv y (List.mem_cons_of_mem _ hy)
    have hix : 400 * i32 x + i32 o = i32 (400 * x + o) := by
      rw [show (400 : Int32) * i32 x = i32 (400 * x) from i32_mul 400 x, i32_add]
    unfold f_Model_reckons_8
    rw [if_neg (by rw [i32_le (by omega) (by omega)]; omega), hix, rd_i32 (by omega) (by omega), Option.bind_some, Option.bind_some, hc1]
    obtain ⟨x0, y2⟩ := y
    -- on with what is on the stack
    have go : ∀ (st' : List Int64) (M' : mM), stq ws (x0, y2) st = st' → j = st'.length → st'.length + nv c ≤ 60 → SkM st' M' → EvM M M' → OK (f_Model_reckons_129 (i32 x) x2 (i32 e) (f_Model_reckons_8 (i32 x) x2 (i32 e) f) (i32 o) M') fun z => z.1 = v ∧ EvM M z.2 := by
      intro st' M' a1 a2 a3 a4 a5
      unfold f_Model_reckons_129
      rw [nadd_1]
      subst a1
      rw [a2] at hs2
      refine OK_imp (m_reck hx he c (o + 1) f _ M' ?_ hv2 hs2 hr a3 (by omega) a4 (fun k hk => by rw [a5.2.1 445 (by omega)]; exact hw k hk) (by omega)) fun z hz => ⟨hz.1, EvM_trans a5 hz.2⟩
      rw [a5.2.2.1 438 (by omega)]
      exact hc2
    rcases hvx with ⟨h1, h2⟩ | ⟨h1, h2⟩ | ⟨h1, h2⟩ | h1
    · have h1 : x0 = 0 := h1
      have h2 : y2 < 100000 := h2
      subst h1
      have hn' : st.length + (1 + nv c) ≤ 60 := hn
      have e1 : mE (0, y2) = i32 (16 * y2) := rfl
      rw [e1, and15, show 16 * y2 % 16 = 0 by omega, if_pos (show i32 0 = 0 from rfl), shr4 (by omega), show 16 * y2 / 16 = y2 by omega, toI64_i32 (by omega)]
      refine OK_bind (m_push hst (by omega) _) fun M' h' => ?_
      exact go _ M' rfl (Option.some.inj hj).symm (by show st.length + 1 + nv c ≤ 60; omega) h'.1 h'.2
    · have h1 : x0 = 1 := h1
      have h2 : y2 < 12 := h2
      subst h1
      have hn' : st.length + (1 + nv c) ≤ 60 := hn
      have e1 : mE (1, y2) = i32 (1 + 16 * y2) := rfl
      rw [e1, and15, show (1 + 16 * y2) % 16 = 1 by omega, if_neg (show ¬ i32 1 = 0 by decide), if_pos (show i32 1 = 1 from rfl), shr4 (by omega), show (1 + 16 * y2) / 16 = y2 by omega, rdL_i32 (by omega) (by omega), Option.bind_some, hw y2 h2]
      refine OK_bind (m_push hst (by omega) _) fun M' h' => ?_
      exact go _ M' rfl (Option.some.inj hj).symm (by show st.length + 1 + nv c ≤ 60; omega) h'.1 h'.2
    · have h1 : x0 = 2 := h1
      have h2 : y2 < 12 := h2
      subst h1
      have e1 : mE (2, y2) = mB y2 := rfl
      have e2 := mB_ok h2
      rw [e1, e2.1, if_neg e2.2.1, if_neg e2.2.2.1, if_neg e2.2.2.2]
      obtain ⟨hl, hj1⟩ := sdp_2 hj
      obtain ⟨b, a, st', rfl⟩ : ∃ b a st', st = b :: a :: st' := by
        cases st with
        | nil => exact absurd hl (by show ¬ (2 ≤ 0); omega)
        | cons b st =>
          cases st with
          | nil => exact absurd hl (by show ¬ (2 ≤ 1); omega)
          | cons a st => exact ⟨b, a, st, rfl⟩
      have el : (b :: a :: st').length = st'.length + 1 + 1 := rfl
      have hn' : st'.length + 1 + 1 + (0 + nv c) ≤ 60 := hn
      refine OK_bind (m_pop hst (by rw [List.length_cons]; omega)) fun r9 h9 => ?_
      refine OK_bind (m_pop h9.2.1 (by omega)) fun r10 h10 => ?_
      rw [h9.1, h10.1, m_one h2, Option.bind_some]
      refine OK_bind (m_push h10.2.1 (by omega) _) fun M' h' => ?_
      exact go (jn y2 a b :: st') M' rfl (by rw [hj1, el]; rfl) (by show st'.length + 1 + nv c ≤ 60; omega) h'.1 (EvM_trans h9.2.2 (EvM_trans h10.2.2 h'.2))
    · have h1 : x0 = 3 := h1
      subst h1
      have e1 : mE (3, y2) = 11 := rfl
      rw [e1, if_neg (by decide), if_neg (by decide), if_pos (by decide)]
      obtain ⟨hl, hj1⟩ := sdp_3 hj
      obtain ⟨b, st', rfl⟩ : ∃ b st', st = b :: st' := by
        cases st with
        | nil => exact absurd hl (by show ¬ (1 ≤ 0); omega)
        | cons b st => exact ⟨b, st, rfl⟩
      have el : (b :: st').length = st'.length + 1 := rfl
      have hn' : st'.length + 1 + (0 + nv c) ≤ 60 := hn
      refine OK_bind (m_pop hst (by omega)) fun r9 h9 => ?_
      rw [h9.1]
      refine OK_bind (m_push h9.2.1 (by omega) _) fun M' h' => ?_
      exact go ((1 - b) :: st') M' rfl (by rw [hj1, el]; rfl) (by show st'.length + 1 + nv c ≤ 60; omega) h'.1 (EvM_trans h9.2.2 h'.2)
theorem m_reckons {x : Nat} (hx : x < 6) {ws : List Int64} {c : List Oq} (hp : Pu c) (hn : nv c ≤ 60) {o : Nat} (ho : o + c.length ≤ 400) {M : mM} (hc : cel mE c (400 * x + o) (M.2.1 438)) (hw : ∀ k, k < 12 → M.2.2.1 445 k = ws.getD k 0) : OK (f_Model_reckons (i32 x) (i32 o) (i32 (o + c.length)) M) fun z => z.1 = ev ws c ∧ EvM M z.2 := by
  unfold f_Model_reckons
  rw [pI_s, Option.bind_some]
  refine OK_imp (m_reck hx ho c o FUEL [] (msI M 436 18 0) (by rw [gIp (by omega)]; exact hc) hp.1 (hp.2.1 0) (hp.2.2 ws []) (by show 0 + nv c ≤ 60; omega) rfl ⟨gIe _ _ _ _, True.intro⟩ hw (by rw [FUEL_eq]; omega)) fun z hz => ⟨hz.1, EvM_trans EvM_I hz.2⟩
/-! clauses -/
theorem m_clamp {v : Int64} {M : mM} : (if 0 ≤ lg_cmp v 0 then (if lg_cmp v 9 ≤ 0 then some (Int64.toInt32 v, M) else some (9, M)) else some (0, M)) = some (i32 (cl v), M) := by
  simp only [lg_ge, lg_le0]
  by_cases a : v < 0
  · rw [if_neg (fun z => z a)]
    unfold cl
    rw [if_pos a]
    rfl
  · rw [if_pos a]
    by_cases b : 9 < v
    · have b' : ¬ v < 9 := by
        rw [Int64.lt_iff_toInt_lt, show (9 : Int64).toInt = 9 by decide] at b ⊢
        omega
      rw [if_neg (fun z => z b)]
      unfold cl
      rw [if_neg a, if_neg b']
      rfl
    · rw [if_pos b, cl_32 a b]
/-- the model's clauses from the i-th on, their code from o on -/
def ofm (x : Nat) (M : mM) : List Cl → Nat → Nat → Prop
  | [], _, _ => True
  | k :: R, i, o => (M.2.1 440 (48 * x + 4 * i) = i32 o ∧ M.2.1 440 (48 * x + 4 * i + 1) = i32 (o + k.1.length) ∧ M.2.1 440 (48 * x + 4 * i + 2) = obd k.2 (-1) (fun _ => i32 (o + k.1.length)) ∧ M.2.1 440 (48 * x + 4 * i + 3) = i32 (o + k.1.length + (zl k.2).length)) ∧ cel mE k.1 (400 * x + o) (M.2.1 438) ∧ cel mE (zl k.2) (400 * x + (o + k.1.length)) (M.2.1 438) ∧ ofm x M R (i + 1) (o + lnC k)
theorem ofm_of {x : Nat} {M M' : mM} : ∀ (R : List Cl) (i o : Nat), (∀ j, 4 * i ≤ j → j < 4 * i + 4 * R.length → M'.2.1 440 (48 * x + j) = M.2.1 440 (48 * x + j)) → (∀ j, o ≤ j → j < o + lnR R → M'.2.1 438 (400 * x + j) = M.2.1 438 (400 * x + j)) → ofm x M R i o → ofm x M' R i o
  | [], _, _, _, _, _ => True.intro
  | k :: R, i, o, e1, e2, h => by
    rw [List.length_cons] at e1
    rw [lnR] at e2
    have el : lnC k = k.1.length + (zl k.2).length := rfl
    obtain ⟨⟨h1, h2, h3, h3'⟩, h4, h5, h6⟩ := h
    refine ⟨⟨(e1 (4 * i) (by omega) (by omega)).trans h1, (e1 (4 * i + 1) (by omega) (by omega)).trans h2, (e1 (4 * i + 2) (by omega) (by omega)).trans h3, (e1 (4 * i + 3) (by omega) (by omega)).trans h3'⟩, cel_of _ _ (fun j a b => ?_) h4, cel_of _ _ (fun j a b => ?_) h5, ofm_of R (i + 1) (o + lnC k) (fun j a b => e1 j (by omega) (by omega)) (fun j a b => e2 j (by omega) (by omega)) h6⟩
    · obtain ⟨j', rfl⟩ : ∃ j', j = 400 * x + j' := ⟨j - 400 * x, by omega⟩
      exact e2 j' (by omega) (by omega)
    · obtain ⟨j', rfl⟩ : ∃ j', j = 400 * x + j' := ⟨j - 400 * x, by omega⟩
      exact e2 j' (by omega) (by omega)
theorem m_steps2 {x : Nat} (hx : x < 6) {xx : Int32} {ws : List Int64} {N : Nat} (hN : N ≤ 12) : ∀ (R : List Cl) (i o f : Nat) (M : mM), ofm x M R i o → (∀ k, k ∈ R → Cw k) → i + R.length = N → M.2.1 441 x = i32 N → M.2.1 436 21 = i32 x → o + lnR R ≤ 400 → (∀ k, k < 12 → M.2.2.1 445 k = ws.getD k 0) → R.length < f → OK (f_Model_stepsOf_258 xx f (i32 i) M) fun z => z.1 = i32 (rf ws R) ∧ EvM M z.2
  | _, _, _, 0, _, _, _, _, _, _, _, _, hf => absurd hf (Nat.not_lt_zero _)
  | [], i, o, f + 1, M, hc, hk, hi, h5, h21, ho, hw, hf => by
    rw [List.length_nil] at hi
    unfold f_Model_stepsOf_258
    rw [h21, rd_i32 hx (by omega), Option.bind_some, h5, if_pos (by rw [i32_le (by omega) (by omega)]; omega)]
    exact OK_some ⟨rfl, EvM_refl _⟩
  | k :: R, i, o, f + 1, M, hc, hk, hi, h5, h21, ho, hw, hf => by
    rw [List.length_cons] at hi hf
    rw [lnR] at ho
    have el : lnC k = k.1.length + (zl k.2).length := rfl
    obtain ⟨⟨h1, h2, h3, h3'⟩, h4, h6, h7⟩ := hc
    obtain ⟨w1, w2, w3⟩ := hk k List.mem_cons_self
    have i0 : 48 * i32 x + 4 * i32 i = i32 (48 * x + 4 * i) := by
      rw [show (48 : Int32) * i32 x = i32 (48 * x) from i32_mul 48 x, show (4 : Int32) * i32 i = i32 (4 * i) from i32_mul 4 i, i32_add]
    unfold f_Model_stepsOf_258
    rw [h21, rd_i32 hx (by omega), Option.bind_some, h5, if_neg (by rw [i32_le (by omega) (by omega)]; omega), i0, nadd_2, rd_i32 (by omega) (by omega), Option.bind_some, h3, rf]
    have sum : ∀ M1 : mM, EvM M M1 → OK (f_Model_stepsOf_332 xx (i32 (48 * x + 4 * i)) M1) fun z => z.1 = i32 (cl (ev ws k.1)) ∧ EvM M z.2 := by
      intro M1 e1
      unfold f_Model_stepsOf_332
      rw [nadd_1, rd_i32 (by omega) (by omega), Option.bind_some, rd_i32 (by omega) (by omega), Option.bind_some, e1.2.2.1 440 (by omega), h1, h2, e1.2.2.2 21 (by omega), h21]
      refine OK_bind (m_reckons hx w1 w2 (o := o) (by omega) (by rw [e1.2.2.1 438 (by omega)]; exact h4) (ws := ws) (fun j hj => by rw [e1.2.1 445 (by omega)]; exact hw j hj)) fun z hz => ?_
      rw [m_clamp, hz.1]
      exact OK_some ⟨rfl, EvM_trans e1 hz.2⟩
    cases ez : k.2 with
    | none =>
      rw [obd_n, obd_n, if_pos (by decide)]
      exact sum M (EvM_refl _)
    | some y =>
      rw [obd_s, obd_s]
      obtain ⟨y1, y2, y3⟩ := w3 y ez
      rw [ez] at h3' h6 el
      have e0 : zl (some y) = y := rfl
      rw [e0] at h3' h6 el
      rw [if_neg (fun z => (i32_neg (a := o + k.1.length) (by omega)).mp z), Option.bind_some, nadd_3, rd_i32 (by omega) (by omega), Option.bind_some, h3']
      refine OK_bind (m_reckons hx y1 y3 (o := o + k.1.length) (by omega) h6 hw) fun z hz => ?_
      have en : (lg_cmp z.1 1 = 0) = (ev ws y = 1) := by rw [lg_eq0, hz.1]
      by_cases c : ev ws y = 0
      · rw [if_neg (by rw [en, c]; decide), if_pos c, nadd_1]
        refine OK_imp (m_steps2 hx (ws := ws) hN R (i + 1) (o + lnC k) f z.2 (ofm_of R _ _ (fun j _ _ => by rw [hz.2.2.2.1 440 (by omega)]) (fun j _ _ => by rw [hz.2.2.2.1 438 (by omega)]) h7) (fun k hk' => hk k (List.mem_cons_of_mem _ hk')) (by omega) (by rw [hz.2.2.2.1 441 (by omega)]; exact h5) (by rw [hz.2.2.2.2 21 (by omega)]; exact h21) (by omega) (fun j hj => by rw [hz.2.2.1 445 (by omega)]; exact hw j hj) (by omega)) fun z' hz' => ⟨hz'.1, EvM_trans hz.2 hz'.2⟩
      · rw [if_pos (by rw [en]; exact (y2 ws).resolve_left c), if_neg c]
        exact sum z.2 hz.2
/-- a rule of the model, as read -/
def MRl (x : Nat) (R : List Cl) (M : mM) : Prop := M.2.1 441 x = i32 R.length ∧ R.length ≤ 12 ∧ lnR R ≤ 400 ∧ ofm x M R 0 0
theorem RMk_R {x : Nat} (hx : x < 6) {R : List Cl} {M : mM} (h : MRl x R M) (hw : ∀ c, c ∈ R → Cw c) : RMk x (fun ws => rf ws R) M := by
  intro M1 h1 h2 h3 h4 xx ws hws
  obtain ⟨r1, r2, r3, r4⟩ := h
  refine OK_imp (m_steps2 hx r2 R 0 0 FUEL M1 (ofm_of R 0 0 (fun j _ b => h2 j (by omega)) (fun j _ b => h1 j (by omega)) r4) hw (Nat.zero_add _) (by rw [h3]; exact r1) h4 (by omega) hws (by rw [FUEL_eq]; omega)) fun z hz => ⟨hz.1, EvM_EqM hz.2⟩
