/-! ===== the small machine's worlds over the real heap; an instruction that goes on ===== -/
/-- where it all lies: the base, places to addresses, classes and slots, classes of arrays, the constants' byte rows, the script -/
abbrev mG : Type := Nat × (Nat → Nat) × va_G × (Nat → ClassId) × (Nat → Nat) × (Nat × (Nat → Int32))
def gA (G : mG) : Nat → Nat := G.2.1
def gD (G : mG) : va_G := G.2.2.1
def gT (G : mG) : Nat → ClassId := G.2.2.2.1
def gV (G : mG) : Nat → Nat := G.2.2.2.2.1
def gX (G : mG) : Nat × (Nat → Int32) := G.2.2.2.2.2
def gP (G : mG) : Nat → Prop := fun q => G.1 ≤ q
def tv (ad : Nat → Nat) : Value → Value
  | .ref p => .ref (ad p)
  | v => v
theorem tv_rf (ad : Nat → Nat) (r : Option Nat) : tv ad (va_rf r) = va_rf (r.map ad) := by cases r <;> rfl
theorem tv_cat (ad : Nat → Nat) (v : Value) : (tv ad v).category = v.category := by cases v <;> rfl
def mls (ad : Nat → Nat) (l : List (Nat × Value)) : List (Nat × Value) := l.map (fun q => (q.1, tv ad q.2))
theorem mget_mem {ad : Nat → Nat} : ∀ {l : List (Nat × Value)} {i : Nat} {v : Value}, mget l i = some v → (i, tv ad v) ∈ mls ad l
  | [], _, _, h => by cases h
  | q :: r, i, v, h => by
    rw [mget] at h
    by_cases hq : q.1 = i
    · rw [if_pos hq] at h
      cases h
      subst hq
      exact List.mem_cons_self
    · rw [if_neg hq] at h
      exact List.mem_cons_of_mem _ (mget_mem h)
theorem mls_put1 (ad : Nat → Nat) (l : List (Nat × Value)) (i : Nat) (v : Value) : (i, tv ad v) :: (mls ad l).filter (fun q => !(q.1 == i) && !(q.1 + 1 == i && q.2.category == 2)) = mls ad (mput1 l i v) := by
  simp only [mls, mput1, List.map_cons, List.filter_map]
  congr 3
  funext q
  simp [tv_cat]
theorem mls_put2 (ad : Nat → Nat) (l : List (Nat × Value)) (i : Nat) (v : Value) : (i, tv ad v) :: (mls ad l).filter (fun q => !(q.1 == i) && (!(q.1 == i + 1) && !(q.1 + 1 == i && q.2.category == 2))) = mls ad (mput2 l i v) := by
  simp only [mls, mput2, List.map_cons, List.filter_map]
  congr 3
  funext q
  simp [tv_cat]
theorem mget_slot {ad : Nat → Nat} {lsA : Array Slot} {n : Nat} {l : List (Nat × Value)} (hl : lv_has lsA n (mls ad l)) {i : Nat} {v : Value} (h : mget l i = some v) : lsA[i]? = some (.val (tv ad v)) := hl.2.2 (i, tv ad v) (mget_mem h)
/-- a cell's entry in the world -/
def mEnt (G : mG) (M : mM) (p : Nat) (s : Nat × Nat) : va_E :=
  if s.1 < 20 then .inr (s.1, (List.range (mm_N s.1)).map (fun k => tv (gA G) (mVp M p (mm_ty s.1 k) k)))
  else if s.1 = 23 then .inl (gT G s.1, s.2, .inr (.inl (M.2.2.1 p)))
  else if s.1 < 23 then .inl (gT G s.1, s.2, .inl (M.2.1 p))
  else .inl (gT G s.1, s.2, .inr (.inr (.inr (.inr (fun i => (M.2.2.2 p i).map (gA G))))))
def mWs (G : mG) (M : mM) : va_W := M.1.mapIdx (fun p s => (gA G p, mEnt G M p s))
theorem mWs_get {G : mG} {M : mM} {p : Nat} {s : Nat × Nat} (h : M.1[p]? = some s) : (mWs G M)[p]? = some (gA G p, mEnt G M p s) := by
  simp [mWs, h]
theorem mWs_len (G : mG) (M : mM) : (mWs G M).length = M.1.length := by simp [mWs]
theorem mEnt_same {G : mG} {M M' : mM} {p : Nat} (s : Nat × Nat) (h : M'.2.1 p = M.2.1 p ∧ M'.2.2.1 p = M.2.2.1 p ∧ M'.2.2.2 p = M.2.2.2 p) : mEnt G M' p s = mEnt G M p s := by
  obtain ⟨h1, h2, h3⟩ := h
  simp only [mEnt, mVp, h1, h2, h3]
theorem mWs_set {G : mG} {M M' : mM} {p : Nat} {s : Nat × Nat} (h : M.1[p]? = some s) (h1 : M'.1 = M.1) (hk : ∀ q, q ≠ p → M'.2.1 q = M.2.1 q ∧ M'.2.2.1 q = M.2.2.1 q ∧ M'.2.2.2 q = M.2.2.2 q) : mWs G M' = (mWs G M).set p (gA G p, mEnt G M' p s) := by
  have hp : p < (mWs G M).length := by rw [mWs_len]; exact (List.getElem?_eq_some_iff.mp h).1
  apply List.ext_getElem?
  intro j
  by_cases hj : p = j
  · subst hj
    rw [List.getElem?_set_self hp, mWs_get (by rw [h1]; exact h)]
  · rw [List.getElem?_set_ne hj]
    simp only [mWs, List.getElem?_mapIdx, h1]
    cases M.1[j]? with
    | none => rfl
    | some t => simp only [Option.map_some]; rw [mEnt_same t (hk j (fun e => hj e.symm))]
def mWld (G : mG) (M : mM) (H : Heap) : Prop := va_P (gD G) mm_cls (mWs G M) H ∧ M.1.length ≤ 100000
/-- what the heap holds below the base: the script, the constants, two statics -/
def mm_sb : List (List Int32) := mm_tx.map (fun t => t.toList.map (fun c => Int32.ofNat c.toNat))
def mm_sl : List Nat := mm_tx.map (fun t => t.length)
def mHp (G : mG) (U : State) : Prop :=
  G.1 ≤ U.heap.size ∧ gA G mscr < G.1 ∧ (gX G).1 < 2 ^ 31 ∧ (∀ p, p < 100000 → gA G p = G.1 + p) ∧ va_X (gA G mscr) (gX G).1 (gX G).2 U U.heap ∧
  vk_S 8 mm_sl mm_sb (fun i => gA G (mstr + i)) (gV G) (gP G) U U.heap ∧ va_Z "java/lang/String" "COMPACT_STRINGS" "Z" (.int 1) (gP G) U U.heap ∧
  va_Zq "jdk/internal/util/Preconditions" "SIOOBE_FORMATTER" "Ljava/util/function/BiFunction;" (gP G) U U.heap
def mEnv (G : mG) (U : State) : Prop :=
  va_K (gD G) mm_cls [] U ∧ (∀ t ty, mm_aty t = some ty → ArrOfT U (gT G t) ty ∧ va_RA U (gT G t) ty) ∧
  (∀ o q, q ∈ mm_nl o → va_Nw (.methodLinkNest (mm_R o) q.1 (mm_y q.2) "GraveRails") U) ∧ (∀ t, 24 ≤ t → t ≤ 26 → va_AO (mm_R (mm_ac t)) U) ∧
  (∀ o q, q ∈ mm_ks o → vk_R (mm_R o) q.1 (mm_tx.getD q.2 "") (gA G (mstr + q.2)) U) ∧ mHp G U
theorem mHp_move {G : mG} {s U : State} {H : Heap} {locs : List Loc} (h : mHp G s) (hv : s.vm.Alike U.vm) (hU : U.heap = H) (hS : va_S (gP G) s.heap H locs) : mHp G U := by
  obtain ⟨h1, h2, h3, h4, h5, h6, h7, h8⟩ := h
  subst hU
  refine ⟨Nat.le_trans h1 hS.1, h2, h3, h4, ?_, (h6.kept hS.2.1).moved hv, va_Z.moved hv (h7.kept hS.2.1), va_Zq.moved hv (h8.kept hS.2.1)⟩
  exact va_X.moved hv (h5.kept (hS.2.1 _ (Nat.lt_of_lt_of_le h2 h1) (Nat.not_le.mpr h2)))
theorem mEnv_move {G : mG} {s U : State} {H : Heap} {locs : List Loc} (h : mEnv G s) (hW : s.WarmedH U.vm) (hU : U.heap = H) (hS : va_S (gP G) s.heap H locs) : mEnv G U := by
  obtain ⟨h1, h2, h3, h4, h5, h6⟩ := h
  exact ⟨va_K.moved hW.alike h1, fun t ty ht => ⟨arrOfT_moved hW.alike (h2 t ty ht).1, (h2 t ty ht).2.moved hW.alike⟩, fun o q hq => va_Nw.warmM hW (h3 o q hq), fun t a b => va_AO.moved hW.alike (h4 t a b), fun o q hq => (h5 o q hq).warm hW, mHp_move h6 hW.alike hU hS⟩
/-- the frame on top makes no difference -/
theorem mEnv_calling {G : mG} {U : State} {g : JFrame} {mk : MethodId} {a : Array Value} (h : mEnv G U) : mEnv G (U.calling g mk a) := by
  obtain ⟨h1, h2, h3, h4, h5, h6⟩ := h
  have hv : U.vm.Alike (U.calling g mk a).vm := Vm.Alike.refl U.vm
  exact ⟨va_K.moved hv h1, fun t ty ht => ⟨arrOfT_moved hv (h2 t ty ht).1, (h2 t ty ht).2.moved hv⟩, fun o q hq => va_Nw.same rfl rfl (h3 o q hq), fun t a b => va_AO.moved hv (h4 t a b), fun o q hq => vk_R.same rfl (h5 o q hq), mHp_move h6 hv rfl va_S.rf⟩
theorem mK1 {G : mG} {s : State} (E : mEnv G s) {t : Nat} {ty : FieldType} (h : mm_aty t = some ty) : va_K (gD G) mm_cls [(gT G t, ty)] s := by
  refine ⟨E.1.1, fun k q hk => ?_⟩
  cases k with
  | zero => cases hk; exact E.2.1 t ty h
  | succ k => simp at hk
theorem mWld_D {G : mG} {s : State} {M : mM} {H : Heap} (E : mEnv G s) (hW : mWld G M H) : va_D (gP G) (mWs G M) := by
  have hA := E.2.2.2.2.2.2.2.2.1
  have key : ∀ (i : Nat) (p : Nat × va_E), (mWs G M)[i]? = some p → p.1 = G.1 + i := by
    intro i p hp
    have hi := (List.getElem?_eq_some_iff.mp hp).1
    rw [mWs_len] at hi
    rw [mWs_get (List.getElem?_eq_getElem hi)] at hp
    cases hp
    exact hA i (by have := hW.2; omega)
  refine ⟨fun i j p q hi hj h => ?_, fun k q hk => ?_⟩
  · rw [key i p hi, key j q hj] at h
    omega
  · show G.1 ≤ q.1
    rw [key k q hk]
    omega
theorem mxin_of {i : Int32} {n : Nat} (h : mxin i n = true) : vp_in i n := by
  show ¬ (i < 0 ∨ n ≤ i.toNatClampNeg)
  exact of_decide_eq_true h
-- what the pieces say
theorem mq_ld_of {kd i nx : Nat} {f f' : mF} (h : mq_ld kd i nx f = some f') : ∃ v, mget f.2.1 i = some v ∧ mkv v = kd ∧ f' = (nx, f.2.1, v :: f.2.2.1, f.2.2.2) := by
  unfold mq_ld at h
  split at h
  · rename_i v hv
    split at h
    · cases h; rename_i hk; exact ⟨v, hv, hk, rfl⟩
    · cases h
  · cases h
theorem mq_st_of {kd i nx : Nat} {f f' : mF} (h : mq_st kd i nx f = some f') : ∃ v r, f.2.2.1 = v :: r ∧ mkv v = kd ∧ f' = (nx, (if kd = 1 then mput2 f.2.1 i v else mput1 f.2.1 i v), r, f.2.2.2) := by
  unfold mq_st at h
  split at h
  · rename_i v r hv
    split at h
    · cases h; rename_i hk; exact ⟨v, r, hv, hk, rfl⟩
    · cases h
  · cases h
theorem mq_b_of {g : Int32 → Int32 → Int32} {nx : Nat} {f f' : mF} (h : mq_b g nx f = some f') : ∃ x y r, f.2.2.1 = .int y :: .int x :: r ∧ f' = (nx, f.2.1, .int (g x y) :: r, f.2.2.2) := by
  unfold mq_b at h
  split at h
  · cases h; rename_i hv; exact ⟨_, _, _, hv, rfl⟩
  · cases h
theorem mq_bz_of {g : Int32 → Int32 → Int32} {nx : Nat} {f f' : mF} (h : mq_bz g nx f = some f') : ∃ x y r, f.2.2.1 = .int y :: .int x :: r ∧ ¬ y = 0 ∧ f' = (nx, f.2.1, .int (g x y) :: r, f.2.2.2) := by
  unfold mq_bz at h
  split at h
  · rename_i hv
    split at h
    · cases h
    · cases h; rename_i h0; exact ⟨_, _, _, hv, h0, rfl⟩
  · cases h
theorem mq_l_of {g : Int64 → Int64 → Int64} {nx : Nat} {f f' : mF} (h : mq_l g nx f = some f') : ∃ x y r, f.2.2.1 = .long y :: .long x :: r ∧ f' = (nx, f.2.1, .long (g x y) :: r, f.2.2.2) := by
  unfold mq_l at h
  split at h
  · cases h; rename_i hv; exact ⟨_, _, _, hv, rfl⟩
  · cases h
theorem mq_lz_of {g : Int64 → Int64 → Int64} {nx : Nat} {f f' : mF} (h : mq_lz g nx f = some f') : ∃ x y r, f.2.2.1 = .long y :: .long x :: r ∧ ¬ y = 0 ∧ f' = (nx, f.2.1, .long (g x y) :: r, f.2.2.2) := by
  unfold mq_lz at h
  split at h
  · rename_i hv
    split at h
    · cases h
    · cases h; rename_i h0; exact ⟨_, _, _, hv, h0, rfl⟩
  · cases h
theorem mq_m2_of {g : Int32 → Int32 → Int32} {nx : Nat} {f f' : mF} (h : mq_m2 g nx f = some f') : ∃ x y r, f.2.2.1 = .int y :: .int x :: r ∧ r.length ≤ 4 ∧ f' = (nx, f.2.1, .int (g x y) :: r, f.2.2.2) := by
  unfold mq_m2 at h
  split at h
  · rename_i hv
    split at h
    · cases h; rename_i h0; exact ⟨_, _, _, hv, h0, rfl⟩
    · cases h
  · cases h
theorem mq_m2l_of {g : Int64 → Int64 → Int64} {nx : Nat} {f f' : mF} (h : mq_m2l g nx f = some f') : ∃ x y r, f.2.2.1 = .long y :: .long x :: r ∧ r.length ≤ 4 ∧ f' = (nx, f.2.1, .long (g x y) :: r, f.2.2.2) := by
  unfold mq_m2l at h
  split at h
  · rename_i hv
    split at h
    · cases h; rename_i h0; exact ⟨_, _, _, hv, h0, rfl⟩
    · cases h
  · cases h
theorem m_sum4 {r : List Value} (ad : Nat → Nat) (h : r.length ≤ 4) : ((r.map (tv ad)).map fun v => v.category).sum ≤ 8 := by
  have key : ∀ (l : List Value), ((l.map (tv ad)).map fun v => v.category).sum ≤ 2 * l.length := by
    intro l
    induction l with
    | nil => simp
    | cons v l ih =>
      simp only [List.map_cons, List.sum_cons, List.length_cons]
      have := lv_cat (tv ad v)
      omega
  have := key r
  omega
theorem m_nar {ty : FieldType} {x : Int32} (h : mbo ty x = true) : narrow ty (.int x) = .int x ∧ fits ty (.int x) = true := by
  cases ty <;> simp only [mbo] at h <;> first | (cases h; done) | exact ⟨rfl, rfl⟩ | skip
  simp only [Bool.or_eq_true, beq_iff_eq] at h
  rcases h with rfl | rfl <;> exact ⟨by decide, by decide⟩
/-- a field written: the shape stays, the rows of other cells stay, the field's value fits -/
theorem mq_putv_of {M M' : mM} {p k : Nat} {ty : FieldType} {v : Value} (ad : Nat → Nat) (h : mq_putv M p ty k v = some M') :
    M'.1 = M.1 ∧ (∀ q, q ≠ p → M'.2.1 q = M.2.1 q ∧ M'.2.2.1 q = M.2.2.1 q ∧ M'.2.2.2 q = M.2.2.2 q) ∧ (∀ j ty', j ≠ k → mVp M' p ty' j = mVp M p ty' j) ∧ mVp M' p ty k = v ∧ narrow ty (tv ad v) = tv ad v ∧ fits ty (tv ad v) = true := by
  have off : ∀ {α : Type} (f : Nat → Nat → α) (x : α) (q : Nat), q ≠ p → m2 f p k x q = f q := fun f x q hq => if_neg hq
  have col : ∀ {α : Type} (f : Nat → Nat → α) (x : α) (j : Nat), j ≠ k → m2 f p k x p j = f p j := fun f x j hj => by simp [m2, va_up, hj]
  have hit : ∀ {α : Type} (f : Nat → Nat → α) (x : α), m2 f p k x p k = x := fun f x => by simp [m2, va_up]
  unfold mq_putv at h
  split at h
  · rename_i x hk
    split at h
    · rename_i hb
      cases h
      refine ⟨rfl, fun q hq => ⟨off _ _ q hq, rfl, rfl⟩, fun j ty' hj => ?_, ?_, m_nar hb⟩
      · simp only [mVp, msI, col _ _ _ hj]
      · simp only [mVp, msI, hk, hit]
    · cases h
  · rename_i x hk
    cases h
    refine ⟨rfl, fun q hq => ⟨rfl, off _ _ q hq, rfl⟩, fun j ty' hj => ?_, ?_, ?_⟩
    · simp only [mVp, msL, col _ _ _ hj]
    · simp only [mVp, msL, hk, hit]
    · cases ty <;> simp [mkf] at hk <;> exact ⟨rfl, rfl⟩
  · rename_i x hk
    cases h
    refine ⟨rfl, fun q hq => ⟨rfl, rfl, off _ _ q hq⟩, fun j ty' hj => ?_, ?_, ?_⟩
    · simp only [mVp, msR, col _ _ _ hj]
    · simp only [mVp, msR, hk, hit]; rfl
    · cases ty <;> simp [mkf] at hk <;> exact ⟨rfl, rfl⟩
  · rename_i hk
    cases h
    refine ⟨rfl, fun q hq => ⟨rfl, rfl, off _ _ q hq⟩, fun j ty' hj => ?_, ?_, ?_⟩
    · simp only [mVp, msR, col _ _ _ hj]
    · simp only [mVp, msR, hk, hit]; rfl
    · cases ty <;> simp [mkf] at hk <;> exact ⟨rfl, rfl⟩
  · cases h
theorem mm_clsN {t : Nat} (ht : t < 13) : ∃ q : vw_C, mm_cls[t]? = some q ∧ q.2.2 = mm_N t := by
  have hl : t < mm_cls.length := ht
  exact ⟨mm_cls[t], List.getElem?_eq_getElem hl, by rw [mm_N, List.getElem?_eq_getElem hl]⟩
theorem mq_get_of {nx a : Nat} {f f' : mF} (h : mq_get nx a f = some f') : ∃ p r s, f.2.2.1 = .ref p :: r ∧ f.2.2.2.1[p]? = some s ∧ s.1 = a / 100 ∧ f' = (nx, f.2.1, mVp f.2.2.2 p (mm_ty (a / 100) (a % 100)) (a % 100) :: r, f.2.2.2) := by
  unfold mq_get at h
  split at h
  · split at h
    · split at h
      · cases h; exact ⟨_, _, _, by assumption, by assumption, by assumption, rfl⟩
      · cases h
    · cases h
  · cases h
theorem mq_put_of {nx a : Nat} {f f' : mF} (h : mq_put nx a f = some f') : ∃ v p r s M', f.2.2.1 = v :: .ref p :: r ∧ f.2.2.2.1[p]? = some s ∧ s.1 = a / 100 ∧ mq_putv f.2.2.2 p (mm_ty (a / 100) (a % 100)) (a % 100) v = some M' ∧ f' = (nx, f.2.1, r, M') := by
  unfold mq_put at h
  split at h
  · split at h
    · split at h
      · obtain ⟨M', hM', rfl⟩ := Option.map_eq_some_iff.mp h
        exact ⟨_, _, _, _, M', by assumption, by assumption, by assumption, hM', rfl⟩
      · cases h
    · cases h
  · cases h
theorem mq_iald_of {X : Nat × (Nat → Int32)} {nx : Nat} {f f' : mF} (h : mq_iald X nx f = some f') : (∃ i r, f.2.2.1 = .int i :: .ref mscr :: r ∧ mxin i X.1 = true ∧ f' = (nx, f.2.1, .int (X.2 i.toNatClampNeg) :: r, f.2.2.2)) ∨
    ∃ i p r s, f.2.2.1 = .int i :: .ref p :: r ∧ f.2.2.2.1[p]? = some s ∧ s.1 = 20 ∧ mxin i s.2 = true ∧ f' = (nx, f.2.1, .int (f.2.2.2.2.1 p i.toNatClampNeg) :: r, f.2.2.2) := by
  unfold mq_iald at h
  split at h
  · split at h
    · rename_i hp
      subst hp
      split at h
      · cases h; exact Or.inl ⟨_, _, by assumption, by assumption, rfl⟩
      · cases h
    · split at h
      · split at h
        · rename_i hc
          cases h; exact Or.inr ⟨_, _, _, _, by assumption, by assumption, hc.1, hc.2, rfl⟩
        · cases h
      · cases h
  · cases h
theorem mq_bald_of {nx : Nat} {f f' : mF} (h : mq_bald nx f = some f') : ∃ i p r s, f.2.2.1 = .int i :: .ref p :: r ∧ f.2.2.2.1[p]? = some s ∧ (s.1 = 21 ∨ s.1 = 22) ∧ mxin i s.2 = true ∧ f' = (nx, f.2.1, .int (f.2.2.2.2.1 p i.toNatClampNeg) :: r, f.2.2.2) := by
  unfold mq_bald at h
  split at h
  · split at h
    · split at h
      · rename_i hc
        cases h; exact ⟨_, _, _, _, by assumption, by assumption, hc.1, hc.2, rfl⟩
      · cases h
    · cases h
  · cases h
theorem mq_lald_of {nx : Nat} {f f' : mF} (h : mq_lald nx f = some f') : ∃ i p r s, f.2.2.1 = .int i :: .ref p :: r ∧ f.2.2.2.1[p]? = some s ∧ s.1 = 23 ∧ mxin i s.2 = true ∧ f' = (nx, f.2.1, .long (f.2.2.2.2.2.1 p i.toNatClampNeg) :: r, f.2.2.2) := by
  unfold mq_lald at h
  split at h
  · split at h
    · split at h
      · rename_i hc
        cases h; exact ⟨_, _, _, _, by assumption, by assumption, hc.1, hc.2, rfl⟩
      · cases h
    · cases h
  · cases h
theorem mq_aald_of {nx : Nat} {f f' : mF} (h : mq_aald nx f = some f') : ∃ i p r s, f.2.2.1 = .int i :: .ref p :: r ∧ f.2.2.2.1[p]? = some s ∧ (24 ≤ s.1 ∧ s.1 ≤ 26) ∧ mxin i s.2 = true ∧ f' = (nx, f.2.1, va_rf (f.2.2.2.2.2.2 p i.toNatClampNeg) :: r, f.2.2.2) := by
  unfold mq_aald at h
  split at h
  · split at h
    · split at h
      · rename_i hc
        cases h; exact ⟨_, _, _, _, by assumption, by assumption, hc.1, hc.2, rfl⟩
      · cases h
    · cases h
  · cases h
theorem mq_iast_of {nx : Nat} {f f' : mF} (h : mq_iast nx f = some f') : ∃ x i p r s, f.2.2.1 = .int x :: .int i :: .ref p :: r ∧ f.2.2.2.1[p]? = some s ∧ s.1 = 20 ∧ mxin i s.2 = true ∧ f' = (nx, f.2.1, r, msI f.2.2.2 p i.toNatClampNeg x) := by
  unfold mq_iast at h
  split at h
  · split at h
    · split at h
      · rename_i hc
        cases h; exact ⟨_, _, _, _, _, by assumption, by assumption, hc.1, hc.2, rfl⟩
      · cases h
    · cases h
  · cases h
theorem mq_bast_of {nx : Nat} {f f' : mF} (h : mq_bast nx f = some f') : ∃ x i p r s, f.2.2.1 = .int x :: .int i :: .ref p :: r ∧ f.2.2.2.1[p]? = some s ∧ mxin i s.2 = true ∧ ((s.1 = 21 ∧ f' = (nx, f.2.1, r, msI f.2.2.2 p i.toNatClampNeg (vp_nar .byte x))) ∨ (s.1 = 22 ∧ f' = (nx, f.2.1, r, msI f.2.2.2 p i.toNatClampNeg (vp_nar .boolean x)))) := by
  unfold mq_bast at h
  split at h
  · split at h
    · split at h
      · split at h
        · cases h; exact ⟨_, _, _, _, _, by assumption, by assumption, by assumption, Or.inl ⟨by assumption, rfl⟩⟩
        · split at h
          · cases h; exact ⟨_, _, _, _, _, by assumption, by assumption, by assumption, Or.inr ⟨by assumption, rfl⟩⟩
          · cases h
      · cases h
    · cases h
  · cases h
theorem mq_last_of {nx : Nat} {f f' : mF} (h : mq_last nx f = some f') : ∃ x i p r s, f.2.2.1 = .long x :: .int i :: .ref p :: r ∧ f.2.2.2.1[p]? = some s ∧ s.1 = 23 ∧ mxin i s.2 = true ∧ f' = (nx, f.2.1, r, msL f.2.2.2 p i.toNatClampNeg x) := by
  unfold mq_last at h
  split at h
  · split at h
    · split at h
      · rename_i hc
        cases h; exact ⟨_, _, _, _, _, by assumption, by assumption, hc.1, hc.2, rfl⟩
      · cases h
    · cases h
  · cases h
theorem mq_aast_of {nx : Nat} {f f' : mF} (h : mq_aast nx f = some f') : ∃ v i p r s s2, f.2.2.1 = .ref v :: .int i :: .ref p :: r ∧ f.2.2.2.1[p]? = some s ∧ f.2.2.2.1[v]? = some s2 ∧ (24 ≤ s.1 ∧ s.1 ≤ 26) ∧ mxin i s.2 = true ∧ s2.1 = mm_ac s.1 ∧ f' = (nx, f.2.1, r, msR f.2.2.2 p i.toNatClampNeg (some v)) := by
  unfold mq_aast at h
  split at h
  · split at h
    · split at h
      · rename_i hc
        cases h; exact ⟨_, _, _, _, _, _, by assumption, by assumption, by assumption, hc.1, hc.2.1, hc.2.2, rfl⟩
      · cases h
    · cases h
  · cases h
theorem mq_alen_of {X : Nat × (Nat → Int32)} {nx : Nat} {f f' : mF} (h : mq_alen X nx f = some f') : (∃ r, f.2.2.1 = .ref mscr :: r ∧ f' = (nx, f.2.1, .int (Int32.ofNat X.1) :: r, f.2.2.2)) ∨
    ∃ p r s, f.2.2.1 = .ref p :: r ∧ f.2.2.2.1[p]? = some s ∧ (20 ≤ s.1 ∧ s.1 ≤ 26) ∧ f' = (nx, f.2.1, .int (Int32.ofNat s.2) :: r, f.2.2.2) := by
  unfold mq_alen at h
  split at h
  · split at h
    · rename_i hp
      subst hp
      cases h; exact Or.inl ⟨_, by assumption, rfl⟩
    · split at h
      · split at h
        · cases h; exact Or.inr ⟨_, _, _, by assumption, by assumption, by assumption, rfl⟩
        · cases h
      · cases h
  · cases h
theorem mq_ac_of {nx : Nat} {f f' : mF} (h : mq_ac nx f = some f') : ∃ n dp q sp p r s t, f.2.2.1 = .int n :: .int dp :: .ref q :: .int sp :: .ref p :: r ∧ f.2.2.2.1[p]? = some s ∧ f.2.2.2.1[q]? = some t ∧
    (s.1 = 20 ∧ t.1 = 20 ∧ ¬ sp < 0 ∧ ¬ dp < 0 ∧ ¬ n < 0 ∧ sp.toNatClampNeg + n.toNatClampNeg ≤ s.2 ∧ dp.toNatClampNeg + n.toNatClampNeg ≤ t.2 ∧ r.length ≤ 4) ∧ f' = (nx, f.2.1, r, mcpy f.2.2.2 p q sp.toNatClampNeg dp.toNatClampNeg n.toNatClampNeg) := by
  unfold mq_ac at h
  split at h
  · split at h
    · split at h
      · rename_i hc
        cases h; exact ⟨_, _, _, _, _, _, _, _, by assumption, by assumption, by assumption, hc, rfl⟩
      · cases h
    · cases h
  · cases h
theorem m2_off {α : Type} {f : Nat → Nat → α} {p i q : Nat} {x : α} (hq : q ≠ p) : m2 f p i x q = f q := if_neg hq
theorem m2_at {α : Type} {f : Nat → Nat → α} {p i : Nat} {x : α} : m2 f p i x p = va_up (f p) i x := if_pos rfl
theorem msI_off {M : mM} {p i : Nat} {x : Int32} (q : Nat) (hq : q ≠ p) : (msI M p i x).2.1 q = M.2.1 q ∧ (msI M p i x).2.2.1 q = M.2.2.1 q ∧ (msI M p i x).2.2.2 q = M.2.2.2 q := ⟨m2_off hq, rfl, rfl⟩
theorem msL_off {M : mM} {p i : Nat} {x : Int64} (q : Nat) (hq : q ≠ p) : (msL M p i x).2.1 q = M.2.1 q ∧ (msL M p i x).2.2.1 q = M.2.2.1 q ∧ (msL M p i x).2.2.2 q = M.2.2.2 q := ⟨rfl, m2_off hq, rfl⟩
theorem msR_off {M : mM} {p i : Nat} {x : Option Nat} (q : Nat) (hq : q ≠ p) : (msR M p i x).2.1 q = M.2.1 q ∧ (msR M p i x).2.2.1 q = M.2.2.1 q ∧ (msR M p i x).2.2.2 q = M.2.2.2 q := ⟨rfl, rfl, m2_off hq⟩
/-- an array's entry -/
theorem mEnt_i {G : mG} {M : mM} {p : Nat} {s : Nat × Nat} (h1 : 20 ≤ s.1) (h2 : s.1 < 23) : mEnt G M p s = .inl (gT G s.1, s.2, .inl (M.2.1 p)) := by
  rw [mEnt, if_neg (by omega), if_neg (by omega), if_pos h2]
theorem mEnt_l {G : mG} {M : mM} {p : Nat} {s : Nat × Nat} (h1 : s.1 = 23) : mEnt G M p s = .inl (gT G s.1, s.2, .inr (.inl (M.2.2.1 p))) := by
  rw [mEnt, if_neg (by omega), if_pos h1]
theorem mEnt_q {G : mG} {M : mM} {p : Nat} {s : Nat × Nat} (h1 : 24 ≤ s.1) : mEnt G M p s = .inl (gT G s.1, s.2, .inr (.inr (.inr (.inr (fun i => (M.2.2.2 p i).map (gA G)))))) := by
  rw [mEnt, if_neg (by omega), if_neg (by omega), if_neg (by omega)]
theorem mEnt_o {G : mG} {M : mM} {p : Nat} {s : Nat × Nat} (h1 : s.1 < 20) : mEnt G M p s = .inr (s.1, (List.range (mm_N s.1)).map (fun k => tv (gA G) (mVp M p (mm_ty s.1 k) k))) := by
  rw [mEnt, if_pos h1]
theorem mm_aty_i {t : Nat} (h : 20 ≤ t) (h2 : t ≤ 26) : ∃ ty, mm_aty t = some ty := by
  have : t = 20 ∨ t = 21 ∨ t = 22 ∨ t = 23 ∨ t = 24 ∨ t = 25 ∨ t = 26 := by omega
  rcases this with rfl | rfl | rfl | rfl | rfl | rfl | rfl <;> exact ⟨_, rfl⟩
theorem mm_aty_q {t : Nat} (h : 24 ≤ t) (h2 : t ≤ 26) : mm_aty t = some (.object (mm_R (mm_ac t))) ∧ mm_ac t < 13 := by
  have : t = 24 ∨ t = 25 ∨ t = 26 := by omega
  rcases this with rfl | rfl | rfl <;> exact ⟨rfl, by decide⟩
