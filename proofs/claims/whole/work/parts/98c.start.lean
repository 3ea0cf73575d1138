/-! ===== the start: what the two constructors make ===== -/
/-- what was done: 0 a cell made (tag, length, its place), 1 an int set to -1 (place, slot), 2 a reference set (place, slot, what), 3 an array filled with -1 (place, length) -/
abbrev Ev4 : Type := Nat × Nat × Nat × Nat
def zs_fill (M : mM) (q : Nat) : Nat → mM
  | 0 => M
  | k + 1 => msI (zs_fill M q k) q k (-1)
/-- the memory behind it, the last first -/
def zs_M : List Ev4 → mM
  | [] => mM0
  | e :: E => match e.1 with
    | 0 => mnew (zs_M E) e.2.1 e.2.2.1
    | 1 => msI (zs_M E) e.2.1 e.2.2.1 (-1)
    | 2 => msR (zs_M E) e.2.1 e.2.2.1 (some e.2.2.2)
    | _ => zs_fill (zs_M E) e.2.1 e.2.2.1
theorem zs_fill_sh (M : mM) (q : Nat) : ∀ k, (zs_fill M q k).1 = M.1
  | 0 => rfl
  | k + 1 => zs_fill_sh M q k
theorem zs_fill_rf (M : mM) (q : Nat) : ∀ k, (zs_fill M q k).2.2.2 = M.2.2.2
  | 0 => rfl
  | k + 1 => zs_fill_rf M q k
section
variable {E : List Ev4} {n m a b c p q i v : Nat} {s : Nat × Nat}
theorem zs_ln0 (h : (zs_M E).1.length = n) (hm : n + 1 = m) : (zs_M ((0, a, b, c) :: E)).1.length = m := by
  show ((zs_M E).1 ++ [(a, b)]).length = m
  rw [List.length_append, h]
  exact hm
theorem zs_ln1 (h : (zs_M E).1.length = n) : (zs_M ((1, a, b, c) :: E)).1.length = n := h
theorem zs_ln2 (h : (zs_M E).1.length = n) : (zs_M ((2, a, b, c) :: E)).1.length = n := h
theorem zs_ln3 (h : (zs_M E).1.length = n) : (zs_M ((3, a, b, c) :: E)).1.length = n := by
  show (zs_fill (zs_M E) a b).1.length = n
  rw [zs_fill_sh]
  exact h
theorem zs_sh0 (h : (zs_M E).1[p]? = some s) : (zs_M ((0, a, b, c) :: E)).1[p]? = some s := by
  show ((zs_M E).1 ++ [(a, b)])[p]? = some s
  rw [List.getElem?_append_left (List.getElem?_eq_some_iff.mp h).1]
  exact h
theorem zs_sh1 (h : (zs_M E).1[p]? = some s) : (zs_M ((1, a, b, c) :: E)).1[p]? = some s := h
theorem zs_sh2 (h : (zs_M E).1[p]? = some s) : (zs_M ((2, a, b, c) :: E)).1[p]? = some s := h
theorem zs_sh3 (h : (zs_M E).1[p]? = some s) : (zs_M ((3, a, b, c) :: E)).1[p]? = some s := by
  show (zs_fill (zs_M E) a b).1[p]? = some s
  rw [zs_fill_sh]
  exact h
theorem zs_new (h : (zs_M E).1.length = n) : (zs_M ((0, a, b, c) :: E)).1[n]? = some (a, b) := by
  show ((zs_M E).1 ++ [(a, b)])[n]? = _
  rw [List.getElem?_append_right (Nat.le_of_eq h), h, Nat.sub_self]
  rfl
theorem zs_ltp (hn : (zs_M E).1.length = n) (h : (zs_M E).1[p]? = some s) : p < n := by
  have := (List.getElem?_eq_some_iff.mp h).1
  omega
theorem zs_ne (h : p ≤ 999) : p ≠ mscr := fun z => by
  unfold mscr at z
  omega
/-- a cell of this shape, with this reference -/
def zs_H (E : List Ev4) (p : Nat) (s : Nat × Nat) (i v : Nat) : Prop := (zs_M E).1[p]? = some s ∧ (zs_M E).2.2.2 p i = some v
theorem zs_lt (hn : (zs_M E).1.length = n) (h : zs_H E p s i v) : p < n := zs_ltp hn h.1
theorem zs_H0 (h : zs_H E p s i v) : zs_H ((0, a, b, c) :: E) p s i v := by
  refine ⟨zs_sh0 h.1, ?_⟩
  show (if p = (zs_M E).1.length then (fun _ => none) else (zs_M E).2.2.2 p) i = _
  have := (List.getElem?_eq_some_iff.mp h.1).1
  rw [if_neg (by omega)]
  exact h.2
theorem zs_H1 (h : zs_H E p s i v) : zs_H ((1, a, b, c) :: E) p s i v := h
theorem zs_H2 (hne : a ≠ p ∨ b ≠ i) (h : zs_H E p s i v) : zs_H ((2, a, b, c) :: E) p s i v := by
  refine ⟨h.1, ?_⟩
  show m2 (zs_M E).2.2.2 a b (some c) p i = _
  by_cases hp : p = a
  · rw [hp, m2_at]
    have hi : ¬ i = b := fun z => by rcases hne with z' | z' <;> omega
    show (if i = b then some c else (zs_M E).2.2.2 a i) = _
    rw [if_neg hi, ← hp]
    exact h.2
  · rw [m2_off hp]
    exact h.2
theorem zs_H3 (h : zs_H E p s i v) : zs_H ((3, a, b, c) :: E) p s i v := by
  refine ⟨zs_sh3 h.1, ?_⟩
  show (zs_fill (zs_M E) a b).2.2.2 p i = _
  rw [zs_fill_rf]
  exact h.2
theorem zs_Hn (h : (zs_M E).1[p]? = some s) : zs_H ((2, p, i, v) :: E) p s i v := by
  refine ⟨h, ?_⟩
  show m2 (zs_M E).2.2.2 p i (some v) p i = _
  rw [m2_at]
  exact if_pos rfl
end
theorem zs_le {n k B C : Nat} (hl : n ≤ B) (h : B + k ≤ C) : n + k ≤ C := Nat.le_trans (Nat.add_le_add_right hl k) h
theorem zs_nne {n k p : Nat} (h : p < n) : n + k ≠ p := by omega
theorem zs_in {i n : Nat} (h : i < n) (hn : n < 2147483648) : mxin (i32 i) n = true := by
  refine decide_eq_true ?_
  rw [i32_neg (by omega), i32_cl (by omega)]
  rintro (z | z)
  · exact z
  · omega
theorem RR_al {X : mX} {d k : Nat} {f f' : mF} {q : Instr × Nat × Nat} {Q : Option Value → mM → Prop} (h : mfind (mm_cd k) f.1 = some q) (hr : mRe k q.1 f = none) (hc : mCa q.1 q.2.1 q.2.2 f = none) (ha : mAl q.1 q.2.1 q.2.2 f = some f') (kk : RR X d k f' Q) : RR X d k f Q := by
  obtain ⟨N, n, v, M', h1, h2⟩ := kk
  refine ⟨N, n + 1, v, M', ?_, h2⟩
  rw [mrun, h]
  simp only [hr, hc, ha, h1]
section
variable {X : mX} {d k pc nx a x n s p i v : Nat} {lc : List (Nat × Value)} {st : List Value} {E : List Ev4} {Q : Option Value → mM → Prop} {sh : Nat × Nat}
theorem zs_Knew (h : mfind (mm_cd k) pc = some (.new x, nx, a)) (hn : (zs_M E).1.length = n) (hl : n ≤ 999) (hs : mm_N a = s) (kk : KK X d k nx lc (.ref n :: st) (zs_M ((0, a, s, n) :: E)) Q) : KK X d k pc lc st (zs_M E) Q := by
  subst hs
  intro ls hls
  refine RR_al h rfl rfl ?_ (kk ls hls)
  show (if (zs_M E).1.length < 100000 then some (nx, ls, Value.ref (zs_M E).1.length :: st, mnew (zs_M E) a (mm_N a)) else none) = _
  rw [hn, if_pos (by omega)]
  rfl
theorem zs_Kna {t : ClassFile.ArrayType} {w : Int32} (h : mfind (mm_cd k) pc = some (.newarray t, nx, a)) (hn : (zs_M E).1.length = n) (hl : n ≤ 999) (h0 : ¬ w < 0) (hs : w.toNatClampNeg = s) (hm : s ≤ 60000000) (kk : KK X d k nx lc (.ref n :: st) (zs_M ((0, a, s, n) :: E)) Q) : KK X d k pc lc (.int w :: st) (zs_M E) Q := by
  subst hs
  intro ls hls
  refine RR_al h rfl rfl ?_ (kk ls hls)
  show (if (zs_M E).1.length < 100000 ∧ ¬ w < 0 ∧ w.toNatClampNeg ≤ 60000000 then some (nx, ls, Value.ref (zs_M E).1.length :: st, mnew (zs_M E) a w.toNatClampNeg) else none) = _
  rw [hn, if_pos ⟨by omega, h0, hm⟩]
  rfl
theorem zs_Kan {w : Int32} (h : mfind (mm_cd k) pc = some (.anewarray x, nx, a)) (hn : (zs_M E).1.length = n) (hl : n ≤ 999) (h0 : ¬ w < 0) (hs : w.toNatClampNeg = s) (hm : s ≤ 60000000) (kk : KK X d k nx lc (.ref n :: st) (zs_M ((0, a, s, n) :: E)) Q) : KK X d k pc lc (.int w :: st) (zs_M E) Q := by
  subst hs
  intro ls hls
  refine RR_al h rfl rfl ?_ (kk ls hls)
  show (if (zs_M E).1.length < 100000 ∧ ¬ w < 0 ∧ w.toNatClampNeg ≤ 60000000 then some (nx, ls, Value.ref (zs_M E).1.length :: st, mnew (zs_M E) a w.toNatClampNeg) else none) = _
  rw [hn, if_pos ⟨by omega, h0, hm⟩]
  rfl
theorem zs_Koi {M : mM} (h : mfind (mm_cd k) pc = some (.invokespecial x, nx, 9000)) (hl : st.length ≤ 4) (kk : KK X d k nx lc st M Q) : KK X d k pc lc (.ref p :: st) M Q :=
  K_co h (fun _ => rfl) (fun _ => by simp only [mCa]; exact if_neg (by decide)) (fun _ => rfl) (fun ls => by
    show (if (9000 : Nat) = 9000 then mq_oi nx (pc, ls, Value.ref p :: st, M) else none) = _
    rw [if_pos rfl]
    exact if_pos hl) kk
theorem zs_Kca {M : mM} {b : Nat} {P : Option Value → mM → Prop} (as rest : List Value) (h : mfind (mm_cd k) pc = some (.invokespecial x, nx, a)) (hn : mm_np a = as.length) (ha : a < 9000) (hl : rest.length ≤ 4) (he : EV X d a (.ref b :: as) M P) (kk : ∀ v M', P v M' → KK X d k nx lc (v.toList ++ rest) M' Q) : KK X d k pc lc (as.reverse ++ .ref b :: rest) M Q := by
  refine K_ca h (fun _ => rfl) (fun ls => ?_) he kk
  obtain ⟨t1, t2⟩ := mca_take (as := as) (rest := .ref b :: rest) hn
  simp only [mCa, t1, t2]
  rw [if_pos ha, if_pos hl]
theorem zs_Kpr (h : mfind (mm_cd k) pc = some (.putfield x, nx, a)) (hs : (zs_M E).1[p]? = some sh) (ht : sh.1 = a / 100) (hk : mkf (mm_ty (a / 100) (a % 100)) = 2) (hi : a % 100 = i) (kk : KK X d k nx lc st (zs_M ((2, p, i, v) :: E)) Q) : KK X d k pc lc (.ref v :: .ref p :: st) (zs_M E) Q := K_putR h hs ht hk i hi kk
theorem zs_Kpi (h : mfind (mm_cd k) pc = some (.putfield x, nx, a)) (hs : (zs_M E).1[p]? = some sh) (ht : sh.1 = a / 100) (hk : mm_ty (a / 100) (a % 100) = .int) (hi : a % 100 = i) (kk : KK X d k nx lc st (zs_M ((1, p, i, 0) :: E)) Q) : KK X d k pc lc (.int (-1) :: .ref p :: st) (zs_M E) Q := K_putI h hs ht hk i hi kk
theorem zs_Kgr (h : mfind (mm_cd k) pc = some (.getfield x, nx, a)) (hH : zs_H E p sh i v) (ht : sh.1 = a / 100) (hk : mkf (mm_ty (a / 100) (a % 100)) = 2) (hi : a % 100 = i) (kk : KK X d k nx lc (.ref v :: st) (zs_M E) Q) : KK X d k pc lc (.ref p :: st) (zs_M E) Q := K_getR h hH.1 ht hk i hi hH.2 kk
theorem zs_Kaa {w : Int32} {t m : Nat} (h : mfind (mm_cd k) pc = some (.aastore, nx, a)) (hs : (zs_M E).1[p]? = some (t, m)) (ht : 24 ≤ t ∧ t ≤ 26) (hi : mxin w m = true) (hj : w.toNatClampNeg = i) (hv : (zs_M E).1[v]? = some sh) (hc : sh.1 = mm_ac t) (kk : KK X d k nx lc st (zs_M ((2, p, i, v) :: E)) Q) : KK X d k pc lc (.ref v :: .int w :: .ref p :: st) (zs_M E) Q := by
  subst hj
  refine K_co h (fun _ => rfl) (fun _ => rfl) (fun _ => rfl) (fun ls => ?_) kk
  show mq_aast nx (pc, ls, .ref v :: .int w :: .ref p :: st, zs_M E) = _
  simp only [mq_aast, hs, hv]
  rw [if_pos ⟨ht, hi, hc⟩]
  rfl
end
set_option maxRecDepth 20000 in
theorem zs_Lfill {X : mX} {E : List Ev4} {q s : Nat} (hq : (zs_M E).1[q]? = some (20, s)) (hs : s < 2147483648) : ∀ (r i : Nat), i + r = s → KK X 0 247 5 [(0, .ref q), (1, .int (-1)), (2, .int (i32 i)), (3, .int (i32 s))] [] (zs_fill (zs_M E) q i) (fun v M' => v = none ∧ M' = zs_M ((3, q, s, 0) :: E))
  | 0, i, hi => by
    refine K_iload_n rfl 2 rfl ?_
    refine K_iload_n rfl 3 rfl ?_
    refine K_ic_ge rfl (fun _ => ?_) (fun c => ?_)
    · refine K_vret rfl rfl ⟨rfl, ?_⟩
      rw [show i = s by omega]
      rfl
    · refine absurd ?_ c
      rw [i32_le (by omega) (by omega)]
      omega
  | r + 1, i, hi => by
    refine K_iload_n rfl 2 rfl ?_
    refine K_iload_n rfl 3 rfl ?_
    refine K_ic_ge rfl (fun c => ?_) (fun _ => ?_)
    · rw [i32_le (by omega) (by omega)] at c
      omega
    · refine K_aload_n rfl 0 rfl ?_
      refine K_iload_n rfl 2 rfl ?_
      refine K_iload_n rfl 1 rfl ?_
      refine K_iast (n := s) rfl (by rw [zs_fill_sh]; exact hq) (zs_in (by omega) hs) ?_
      rw [i32_cl (by omega)]
      refine K_iinc (y := i32 (i + 1)) rfl 2 rfl (nadd_1 i) ?_
      refine K_goto rfl ?_
      refine K_pick [1, 2, 0, 3] ?_
      exact zs_Lfill hq hs r (i + 1) (by omega)
set_option maxRecDepth 20000 in
theorem zs_Ifill {X : mX} {E : List Ev4} {q s : Nat} (hq : (zs_M E).1[q]? = some (20, s)) (hs : s < 2147483648) (hne : q ≠ mscr) : EV X 1 247 [.ref q, .int (-1)] (zs_M E) (fun v M' => v = none ∧ M' = zs_M ((3, q, s, 0) :: E)) := by
  refine EV_of (lc := [(0, .ref q), (1, .int (-1))]) (Nat.le_of_ble_eq_true rfl) (by exact Nat.le_of_ble_eq_true rfl) (by exact List.forall_mem_cons.mpr ⟨rfl, List.forall_mem_cons.mpr ⟨rfl, fun _ h => absurd h List.not_mem_nil⟩⟩) ?_
  refine K_iconst (v := i32 0) rfl (by decide) ?_
  refine K_istore_n rfl ?_
  refine K_aload_n rfl 1 rfl ?_
  refine K_alen (v := i32 s) rfl hq ⟨by decide, by decide⟩ hne rfl ?_
  refine K_istore_n rfl ?_
  refine K_pick [2, 3, 1, 0] ?_
  exact zs_Lfill hq hs s 0 (by omega)
def zs_Text (p n : Nat) (E : List Ev4) : List Ev4 := ((2, p, 0, n) :: ((0, 21, 400, n) :: E))
set_option maxRecDepth 20000 in
theorem zs_Text_len {p n m : Nat} {E : List Ev4} (hn : (zs_M E).1.length = n) (hm : n + 1 = m) : (zs_M (zs_Text p n E)).1.length = m := by
  subst hm
  unfold zs_Text
  exact (zs_ln2 (zs_ln0 hn rfl))
set_option maxRecDepth 20000 in
theorem zs_Text_sh {p n q : Nat} {s : Nat × Nat} {E : List Ev4} (h : (zs_M E).1[q]? = some s) : (zs_M (zs_Text p n E)).1[q]? = some s := by
  unfold zs_Text
  exact (zs_sh2 (zs_sh0 h))
set_option maxRecDepth 20000 in
theorem zs_Text_H {p n q i v : Nat} {s : Nat × Nat} {E : List Ev4} (hn : (zs_M E).1.length = n) (hne : p ≠ q) (h : zs_H E q s i v) : zs_H (zs_Text p n E) q s i v := by
  have hq := zs_lt hn h
  unfold zs_Text
  exact (zs_H2 (Or.inl (by omega)) (zs_H0 h))
set_option maxRecDepth 20000 in
theorem zs_IText {X : mX} {p n : Nat} {E : List Ev4} (hp : (zs_M E).1[p]? = some (8, 7)) (hn : (zs_M E).1.length = n) (hl : n ≤ 600) : EV X 1 1 [.ref p] (zs_M E) (fun v M' => v = none ∧ M' = zs_M (zs_Text p n E)) := by
  have hpn := zs_ltp hn hp
  refine EV_of (lc := [(0, .ref p)]) (Nat.le_of_ble_eq_true rfl) (by exact Nat.le_of_ble_eq_true rfl) (by exact List.forall_mem_cons.mpr ⟨rfl, fun _ h => absurd h List.not_mem_nil⟩) ?_
  refine K_aload_n rfl 0 rfl ?_
  refine zs_Koi rfl (Nat.le_of_ble_eq_true rfl) ?_
  refine K_aload_n rfl 0 rfl ?_
  refine K_sipush (v := 400) rfl (by decide) ?_
  refine zs_Kna (n := n) (s := 400) rfl hn (zs_le (k := 0) hl (Nat.le_of_ble_eq_true rfl)) (by decide) (by decide) (by decide) ?_
  have l1 := zs_ln0 (a := 21) (b := 400) (c := n) (m := n + 1) hn rfl
  have x2 := zs_sh0 (a := 21) (b := 400) (c := n) hp
  have x3 := zs_new (a := 21) (b := 400) (c := n) hn
  refine zs_Kpr (i := 0) rfl x2 rfl rfl rfl ?_
  have l4 := zs_ln2 (a := p) (b := 0) (c := n) l1
  have x5 := zs_sh2 (a := p) (b := 0) (c := n) x2
  have x6 := zs_sh2 (a := p) (b := 0) (c := n) x3
  exact K_vret rfl rfl ⟨rfl, rfl⟩
def zs_State (p n : Nat) (E : List Ev4) : List Ev4 := ((2, p, 11, n + 8) :: ((0, 20, 11, n + 8) :: ((2, p, 10, n + 7) :: ((0, 20, 11, n + 7) :: ((2, p, 9, n + 6) :: ((0, 20, 11, n + 6) :: ((2, p, 8, n + 5) :: ((0, 20, 11, n + 5) :: ((2, p, 7, n + 4) :: ((0, 20, 11, n + 4) :: ((2, p, 6, n + 3) :: ((0, 20, 11, n + 3) :: ((2, p, 5, n + 2) :: ((0, 20, 11, n + 2) :: ((2, p, 4, n + 1) :: ((0, 20, 11, n + 1) :: ((2, p, 3, n) :: ((0, 20, 11, n) :: E))))))))))))))))))
set_option maxRecDepth 20000 in
theorem zs_State_len {p n m : Nat} {E : List Ev4} (hn : (zs_M E).1.length = n) (hm : n + 9 = m) : (zs_M (zs_State p n E)).1.length = m := by
  subst hm
  unfold zs_State
  exact (zs_ln2 (zs_ln0 (zs_ln2 (zs_ln0 (zs_ln2 (zs_ln0 (zs_ln2 (zs_ln0 (zs_ln2 (zs_ln0 (zs_ln2 (zs_ln0 (zs_ln2 (zs_ln0 (zs_ln2 (zs_ln0 (zs_ln2 (zs_ln0 hn rfl)) rfl)) rfl)) rfl)) rfl)) rfl)) rfl)) rfl)) rfl))
set_option maxRecDepth 20000 in
theorem zs_State_sh {p n q : Nat} {s : Nat × Nat} {E : List Ev4} (h : (zs_M E).1[q]? = some s) : (zs_M (zs_State p n E)).1[q]? = some s := by
  unfold zs_State
  exact (zs_sh2 (zs_sh0 (zs_sh2 (zs_sh0 (zs_sh2 (zs_sh0 (zs_sh2 (zs_sh0 (zs_sh2 (zs_sh0 (zs_sh2 (zs_sh0 (zs_sh2 (zs_sh0 (zs_sh2 (zs_sh0 (zs_sh2 (zs_sh0 h))))))))))))))))))
set_option maxRecDepth 20000 in
theorem zs_State_H {p n q i v : Nat} {s : Nat × Nat} {E : List Ev4} (hn : (zs_M E).1.length = n) (hne : p ≠ q) (h : zs_H E q s i v) : zs_H (zs_State p n E) q s i v := by
  have hq := zs_lt hn h
  unfold zs_State
  exact (zs_H2 (Or.inl (by omega)) (zs_H0 (zs_H2 (Or.inl (by omega)) (zs_H0 (zs_H2 (Or.inl (by omega)) (zs_H0 (zs_H2 (Or.inl (by omega)) (zs_H0 (zs_H2 (Or.inl (by omega)) (zs_H0 (zs_H2 (Or.inl (by omega)) (zs_H0 (zs_H2 (Or.inl (by omega)) (zs_H0 (zs_H2 (Or.inl (by omega)) (zs_H0 (zs_H2 (Or.inl (by omega)) (zs_H0 h))))))))))))))))))
set_option maxRecDepth 20000 in
theorem zs_IState {X : mX} {p n : Nat} {E : List Ev4} (hp : (zs_M E).1[p]? = some (7, 12)) (hn : (zs_M E).1.length = n) (hl : n ≤ 600) : EV X 1 7 [.ref p] (zs_M E) (fun v M' => v = none ∧ M' = zs_M (zs_State p n E)) := by
  have hpn := zs_ltp hn hp
  refine EV_of (lc := [(0, .ref p)]) (Nat.le_of_ble_eq_true rfl) (by exact Nat.le_of_ble_eq_true rfl) (by exact List.forall_mem_cons.mpr ⟨rfl, fun _ h => absurd h List.not_mem_nil⟩) ?_
  refine K_aload_n rfl 0 rfl ?_
  refine zs_Koi rfl (Nat.le_of_ble_eq_true rfl) ?_
  refine K_aload_n rfl 0 rfl ?_
  refine K_bipush (v := 11) rfl (by decide) ?_
  refine zs_Kna (n := n) (s := 11) rfl hn (zs_le (k := 0) hl (Nat.le_of_ble_eq_true rfl)) (by decide) (by decide) (by decide) ?_
  have l1 := zs_ln0 (a := 20) (b := 11) (c := n) (m := n + 1) hn rfl
  have x2 := zs_sh0 (a := 20) (b := 11) (c := n) hp
  have x3 := zs_new (a := 20) (b := 11) (c := n) hn
  refine zs_Kpr (i := 3) rfl x2 rfl rfl rfl ?_
  have l4 := zs_ln2 (a := p) (b := 3) (c := n) l1
  have x5 := zs_sh2 (a := p) (b := 3) (c := n) x2
  have x6 := zs_sh2 (a := p) (b := 3) (c := n) x3
  refine K_aload_n rfl 0 rfl ?_
  refine K_bipush (v := 11) rfl (by decide) ?_
  refine zs_Kna (n := n + 1) (s := 11) rfl l4 (zs_le (k := 1) hl (Nat.le_of_ble_eq_true rfl)) (by decide) (by decide) (by decide) ?_
  have l7 := zs_ln0 (a := 20) (b := 11) (c := n + 1) (m := n + 2) l4 rfl
  have x8 := zs_sh0 (a := 20) (b := 11) (c := n + 1) x5
  have x9 := zs_new (a := 20) (b := 11) (c := n + 1) l4
  refine zs_Kpr (i := 4) rfl x8 rfl rfl rfl ?_
  have l10 := zs_ln2 (a := p) (b := 4) (c := n + 1) l7
  have x11 := zs_sh2 (a := p) (b := 4) (c := n + 1) x8
  have x12 := zs_sh2 (a := p) (b := 4) (c := n + 1) x9
  refine K_aload_n rfl 0 rfl ?_
  refine K_bipush (v := 11) rfl (by decide) ?_
  refine zs_Kna (n := n + 2) (s := 11) rfl l10 (zs_le (k := 2) hl (Nat.le_of_ble_eq_true rfl)) (by decide) (by decide) (by decide) ?_
  have l13 := zs_ln0 (a := 20) (b := 11) (c := n + 2) (m := n + 3) l10 rfl
  have x14 := zs_sh0 (a := 20) (b := 11) (c := n + 2) x11
  have x15 := zs_new (a := 20) (b := 11) (c := n + 2) l10
  refine zs_Kpr (i := 5) rfl x14 rfl rfl rfl ?_
  have l16 := zs_ln2 (a := p) (b := 5) (c := n + 2) l13
  have x17 := zs_sh2 (a := p) (b := 5) (c := n + 2) x14
  have x18 := zs_sh2 (a := p) (b := 5) (c := n + 2) x15
  refine K_aload_n rfl 0 rfl ?_
  refine K_bipush (v := 11) rfl (by decide) ?_
  refine zs_Kna (n := n + 3) (s := 11) rfl l16 (zs_le (k := 3) hl (Nat.le_of_ble_eq_true rfl)) (by decide) (by decide) (by decide) ?_
  have l19 := zs_ln0 (a := 20) (b := 11) (c := n + 3) (m := n + 4) l16 rfl
  have x20 := zs_sh0 (a := 20) (b := 11) (c := n + 3) x17
  have x21 := zs_new (a := 20) (b := 11) (c := n + 3) l16
  refine zs_Kpr (i := 6) rfl x20 rfl rfl rfl ?_
  have l22 := zs_ln2 (a := p) (b := 6) (c := n + 3) l19
  have x23 := zs_sh2 (a := p) (b := 6) (c := n + 3) x20
  have x24 := zs_sh2 (a := p) (b := 6) (c := n + 3) x21
  refine K_aload_n rfl 0 rfl ?_
  refine K_bipush (v := 11) rfl (by decide) ?_
  refine zs_Kna (n := n + 4) (s := 11) rfl l22 (zs_le (k := 4) hl (Nat.le_of_ble_eq_true rfl)) (by decide) (by decide) (by decide) ?_
  have l25 := zs_ln0 (a := 20) (b := 11) (c := n + 4) (m := n + 5) l22 rfl
  have x26 := zs_sh0 (a := 20) (b := 11) (c := n + 4) x23
  have x27 := zs_new (a := 20) (b := 11) (c := n + 4) l22
  refine zs_Kpr (i := 7) rfl x26 rfl rfl rfl ?_
  have l28 := zs_ln2 (a := p) (b := 7) (c := n + 4) l25
  have x29 := zs_sh2 (a := p) (b := 7) (c := n + 4) x26
  have x30 := zs_sh2 (a := p) (b := 7) (c := n + 4) x27
  refine K_aload_n rfl 0 rfl ?_
  refine K_bipush (v := 11) rfl (by decide) ?_
  refine zs_Kna (n := n + 5) (s := 11) rfl l28 (zs_le (k := 5) hl (Nat.le_of_ble_eq_true rfl)) (by decide) (by decide) (by decide) ?_
  have l31 := zs_ln0 (a := 20) (b := 11) (c := n + 5) (m := n + 6) l28 rfl
  have x32 := zs_sh0 (a := 20) (b := 11) (c := n + 5) x29
  have x33 := zs_new (a := 20) (b := 11) (c := n + 5) l28
  refine zs_Kpr (i := 8) rfl x32 rfl rfl rfl ?_
  have l34 := zs_ln2 (a := p) (b := 8) (c := n + 5) l31
  have x35 := zs_sh2 (a := p) (b := 8) (c := n + 5) x32
  have x36 := zs_sh2 (a := p) (b := 8) (c := n + 5) x33
  refine K_aload_n rfl 0 rfl ?_
  refine K_bipush (v := 11) rfl (by decide) ?_
  refine zs_Kna (n := n + 6) (s := 11) rfl l34 (zs_le (k := 6) hl (Nat.le_of_ble_eq_true rfl)) (by decide) (by decide) (by decide) ?_
  have l37 := zs_ln0 (a := 20) (b := 11) (c := n + 6) (m := n + 7) l34 rfl
  have x38 := zs_sh0 (a := 20) (b := 11) (c := n + 6) x35
  have x39 := zs_new (a := 20) (b := 11) (c := n + 6) l34
  refine zs_Kpr (i := 9) rfl x38 rfl rfl rfl ?_
  have l40 := zs_ln2 (a := p) (b := 9) (c := n + 6) l37
  have x41 := zs_sh2 (a := p) (b := 9) (c := n + 6) x38
  have x42 := zs_sh2 (a := p) (b := 9) (c := n + 6) x39
  refine K_aload_n rfl 0 rfl ?_
  refine K_bipush (v := 11) rfl (by decide) ?_
  refine zs_Kna (n := n + 7) (s := 11) rfl l40 (zs_le (k := 7) hl (Nat.le_of_ble_eq_true rfl)) (by decide) (by decide) (by decide) ?_
  have l43 := zs_ln0 (a := 20) (b := 11) (c := n + 7) (m := n + 8) l40 rfl
  have x44 := zs_sh0 (a := 20) (b := 11) (c := n + 7) x41
  have x45 := zs_new (a := 20) (b := 11) (c := n + 7) l40
  refine zs_Kpr (i := 10) rfl x44 rfl rfl rfl ?_
  have l46 := zs_ln2 (a := p) (b := 10) (c := n + 7) l43
  have x47 := zs_sh2 (a := p) (b := 10) (c := n + 7) x44
  have x48 := zs_sh2 (a := p) (b := 10) (c := n + 7) x45
  refine K_aload_n rfl 0 rfl ?_
  refine K_bipush (v := 11) rfl (by decide) ?_
  refine zs_Kna (n := n + 8) (s := 11) rfl l46 (zs_le (k := 8) hl (Nat.le_of_ble_eq_true rfl)) (by decide) (by decide) (by decide) ?_
  have l49 := zs_ln0 (a := 20) (b := 11) (c := n + 8) (m := n + 9) l46 rfl
  have x50 := zs_sh0 (a := 20) (b := 11) (c := n + 8) x47
  have x51 := zs_new (a := 20) (b := 11) (c := n + 8) l46
  refine zs_Kpr (i := 11) rfl x50 rfl rfl rfl ?_
  have l52 := zs_ln2 (a := p) (b := 11) (c := n + 8) l49
  have x53 := zs_sh2 (a := p) (b := 11) (c := n + 8) x50
  have x54 := zs_sh2 (a := p) (b := 11) (c := n + 8) x51
  exact K_vret rfl rfl ⟨rfl, rfl⟩
def zs_Sights (p n : Nat) (E : List Ev4) : List Ev4 := ((2, p, 3, n + 2) :: ((0, 20, 10, n + 2) :: ((2, p, 2, n + 1) :: ((0, 20, 10, n + 1) :: ((2, p, 1, n) :: ((0, 20, 10, n) :: E))))))
set_option maxRecDepth 20000 in
theorem zs_Sights_len {p n m : Nat} {E : List Ev4} (hn : (zs_M E).1.length = n) (hm : n + 3 = m) : (zs_M (zs_Sights p n E)).1.length = m := by
  subst hm
  unfold zs_Sights
  exact (zs_ln2 (zs_ln0 (zs_ln2 (zs_ln0 (zs_ln2 (zs_ln0 hn rfl)) rfl)) rfl))
set_option maxRecDepth 20000 in
theorem zs_Sights_sh {p n q : Nat} {s : Nat × Nat} {E : List Ev4} (h : (zs_M E).1[q]? = some s) : (zs_M (zs_Sights p n E)).1[q]? = some s := by
  unfold zs_Sights
  exact (zs_sh2 (zs_sh0 (zs_sh2 (zs_sh0 (zs_sh2 (zs_sh0 h))))))
set_option maxRecDepth 20000 in
theorem zs_Sights_H {p n q i v : Nat} {s : Nat × Nat} {E : List Ev4} (hn : (zs_M E).1.length = n) (hne : p ≠ q) (h : zs_H E q s i v) : zs_H (zs_Sights p n E) q s i v := by
  have hq := zs_lt hn h
  unfold zs_Sights
  exact (zs_H2 (Or.inl (by omega)) (zs_H0 (zs_H2 (Or.inl (by omega)) (zs_H0 (zs_H2 (Or.inl (by omega)) (zs_H0 h))))))
set_option maxRecDepth 20000 in
theorem zs_ISights {X : mX} {p n : Nat} {E : List Ev4} (hp : (zs_M E).1[p]? = some (6, 4)) (hn : (zs_M E).1.length = n) (hl : n ≤ 600) : EV X 1 8 [.ref p] (zs_M E) (fun v M' => v = none ∧ M' = zs_M (zs_Sights p n E)) := by
  have hpn := zs_ltp hn hp
  refine EV_of (lc := [(0, .ref p)]) (Nat.le_of_ble_eq_true rfl) (by exact Nat.le_of_ble_eq_true rfl) (by exact List.forall_mem_cons.mpr ⟨rfl, fun _ h => absurd h List.not_mem_nil⟩) ?_
  refine K_aload_n rfl 0 rfl ?_
  refine zs_Koi rfl (Nat.le_of_ble_eq_true rfl) ?_
  refine K_aload_n rfl 0 rfl ?_
  refine K_bipush (v := 10) rfl (by decide) ?_
  refine zs_Kna (n := n) (s := 10) rfl hn (zs_le (k := 0) hl (Nat.le_of_ble_eq_true rfl)) (by decide) (by decide) (by decide) ?_
  have l1 := zs_ln0 (a := 20) (b := 10) (c := n) (m := n + 1) hn rfl
  have x2 := zs_sh0 (a := 20) (b := 10) (c := n) hp
  have x3 := zs_new (a := 20) (b := 10) (c := n) hn
  refine zs_Kpr (i := 1) rfl x2 rfl rfl rfl ?_
  have l4 := zs_ln2 (a := p) (b := 1) (c := n) l1
  have x5 := zs_sh2 (a := p) (b := 1) (c := n) x2
  have x6 := zs_sh2 (a := p) (b := 1) (c := n) x3
  refine K_aload_n rfl 0 rfl ?_
  refine K_bipush (v := 10) rfl (by decide) ?_
  refine zs_Kna (n := n + 1) (s := 10) rfl l4 (zs_le (k := 1) hl (Nat.le_of_ble_eq_true rfl)) (by decide) (by decide) (by decide) ?_
  have l7 := zs_ln0 (a := 20) (b := 10) (c := n + 1) (m := n + 2) l4 rfl
  have x8 := zs_sh0 (a := 20) (b := 10) (c := n + 1) x5
  have x9 := zs_new (a := 20) (b := 10) (c := n + 1) l4
  refine zs_Kpr (i := 2) rfl x8 rfl rfl rfl ?_
  have l10 := zs_ln2 (a := p) (b := 2) (c := n + 1) l7
  have x11 := zs_sh2 (a := p) (b := 2) (c := n + 1) x8
  have x12 := zs_sh2 (a := p) (b := 2) (c := n + 1) x9
  refine K_aload_n rfl 0 rfl ?_
  refine K_bipush (v := 10) rfl (by decide) ?_
  refine zs_Kna (n := n + 2) (s := 10) rfl l10 (zs_le (k := 2) hl (Nat.le_of_ble_eq_true rfl)) (by decide) (by decide) (by decide) ?_
  have l13 := zs_ln0 (a := 20) (b := 10) (c := n + 2) (m := n + 3) l10 rfl
  have x14 := zs_sh0 (a := 20) (b := 10) (c := n + 2) x11
  have x15 := zs_new (a := 20) (b := 10) (c := n + 2) l10
  refine zs_Kpr (i := 3) rfl x14 rfl rfl rfl ?_
  have l16 := zs_ln2 (a := p) (b := 3) (c := n + 2) l13
  have x17 := zs_sh2 (a := p) (b := 3) (c := n + 2) x14
  have x18 := zs_sh2 (a := p) (b := 3) (c := n + 2) x15
  exact K_vret rfl rfl ⟨rfl, rfl⟩
def zs_Rule (p n : Nat) (E : List Ev4) : List Ev4 := ((2, p, 6, n + 4) :: ((0, 23, 64, n + 4) :: ((2, p, 4, n + 3) :: ((0, 20, 12, n + 3) :: ((2, p, 3, n + 2) :: ((0, 20, 12, n + 2) :: ((2, p, 2, n + 1) :: ((0, 20, 12, n + 1) :: ((2, p, 0, n) :: ((0, 20, 400, n) :: E))))))))))
set_option maxRecDepth 20000 in
theorem zs_Rule_len {p n m : Nat} {E : List Ev4} (hn : (zs_M E).1.length = n) (hm : n + 5 = m) : (zs_M (zs_Rule p n E)).1.length = m := by
  subst hm
  unfold zs_Rule
  exact (zs_ln2 (zs_ln0 (zs_ln2 (zs_ln0 (zs_ln2 (zs_ln0 (zs_ln2 (zs_ln0 (zs_ln2 (zs_ln0 hn rfl)) rfl)) rfl)) rfl)) rfl))
set_option maxRecDepth 20000 in
theorem zs_Rule_sh {p n q : Nat} {s : Nat × Nat} {E : List Ev4} (h : (zs_M E).1[q]? = some s) : (zs_M (zs_Rule p n E)).1[q]? = some s := by
  unfold zs_Rule
  exact (zs_sh2 (zs_sh0 (zs_sh2 (zs_sh0 (zs_sh2 (zs_sh0 (zs_sh2 (zs_sh0 (zs_sh2 (zs_sh0 h))))))))))
set_option maxRecDepth 20000 in
theorem zs_Rule_H {p n q i v : Nat} {s : Nat × Nat} {E : List Ev4} (hn : (zs_M E).1.length = n) (hne : p ≠ q) (h : zs_H E q s i v) : zs_H (zs_Rule p n E) q s i v := by
  have hq := zs_lt hn h
  unfold zs_Rule
  exact (zs_H2 (Or.inl (by omega)) (zs_H0 (zs_H2 (Or.inl (by omega)) (zs_H0 (zs_H2 (Or.inl (by omega)) (zs_H0 (zs_H2 (Or.inl (by omega)) (zs_H0 (zs_H2 (Or.inl (by omega)) (zs_H0 h))))))))))
set_option maxRecDepth 20000 in
theorem zs_IRule {X : mX} {p n : Nat} {E : List Ev4} (hp : (zs_M E).1[p]? = some (3, 7)) (hn : (zs_M E).1.length = n) (hl : n ≤ 600) : EV X 1 5 [.ref p] (zs_M E) (fun v M' => v = none ∧ M' = zs_M (zs_Rule p n E)) := by
  have hpn := zs_ltp hn hp
  refine EV_of (lc := [(0, .ref p)]) (Nat.le_of_ble_eq_true rfl) (by exact Nat.le_of_ble_eq_true rfl) (by exact List.forall_mem_cons.mpr ⟨rfl, fun _ h => absurd h List.not_mem_nil⟩) ?_
  refine K_aload_n rfl 0 rfl ?_
  refine zs_Koi rfl (Nat.le_of_ble_eq_true rfl) ?_
  refine K_aload_n rfl 0 rfl ?_
  refine K_sipush (v := 400) rfl (by decide) ?_
  refine zs_Kna (n := n) (s := 400) rfl hn (zs_le (k := 0) hl (Nat.le_of_ble_eq_true rfl)) (by decide) (by decide) (by decide) ?_
  have l1 := zs_ln0 (a := 20) (b := 400) (c := n) (m := n + 1) hn rfl
  have x2 := zs_sh0 (a := 20) (b := 400) (c := n) hp
  have x3 := zs_new (a := 20) (b := 400) (c := n) hn
  refine zs_Kpr (i := 0) rfl x2 rfl rfl rfl ?_
  have l4 := zs_ln2 (a := p) (b := 0) (c := n) l1
  have x5 := zs_sh2 (a := p) (b := 0) (c := n) x2
  have x6 := zs_sh2 (a := p) (b := 0) (c := n) x3
  refine K_aload_n rfl 0 rfl ?_
  refine K_bipush (v := 12) rfl (by decide) ?_
  refine zs_Kna (n := n + 1) (s := 12) rfl l4 (zs_le (k := 1) hl (Nat.le_of_ble_eq_true rfl)) (by decide) (by decide) (by decide) ?_
  have l7 := zs_ln0 (a := 20) (b := 12) (c := n + 1) (m := n + 2) l4 rfl
  have x8 := zs_sh0 (a := 20) (b := 12) (c := n + 1) x5
  have x9 := zs_new (a := 20) (b := 12) (c := n + 1) l4
  refine zs_Kpr (i := 2) rfl x8 rfl rfl rfl ?_
  have l10 := zs_ln2 (a := p) (b := 2) (c := n + 1) l7
  have x11 := zs_sh2 (a := p) (b := 2) (c := n + 1) x8
  have x12 := zs_sh2 (a := p) (b := 2) (c := n + 1) x9
  refine K_aload_n rfl 0 rfl ?_
  refine K_bipush (v := 12) rfl (by decide) ?_
  refine zs_Kna (n := n + 2) (s := 12) rfl l10 (zs_le (k := 2) hl (Nat.le_of_ble_eq_true rfl)) (by decide) (by decide) (by decide) ?_
  have l13 := zs_ln0 (a := 20) (b := 12) (c := n + 2) (m := n + 3) l10 rfl
  have x14 := zs_sh0 (a := 20) (b := 12) (c := n + 2) x11
  have x15 := zs_new (a := 20) (b := 12) (c := n + 2) l10
  refine zs_Kpr (i := 3) rfl x14 rfl rfl rfl ?_
  have l16 := zs_ln2 (a := p) (b := 3) (c := n + 2) l13
  have x17 := zs_sh2 (a := p) (b := 3) (c := n + 2) x14
  have x18 := zs_sh2 (a := p) (b := 3) (c := n + 2) x15
  refine K_aload_n rfl 0 rfl ?_
  refine K_bipush (v := 12) rfl (by decide) ?_
  refine zs_Kna (n := n + 3) (s := 12) rfl l16 (zs_le (k := 3) hl (Nat.le_of_ble_eq_true rfl)) (by decide) (by decide) (by decide) ?_
  have l19 := zs_ln0 (a := 20) (b := 12) (c := n + 3) (m := n + 4) l16 rfl
  have x20 := zs_sh0 (a := 20) (b := 12) (c := n + 3) x17
  have x21 := zs_new (a := 20) (b := 12) (c := n + 3) l16
  refine zs_Kpr (i := 4) rfl x20 rfl rfl rfl ?_
  have l22 := zs_ln2 (a := p) (b := 4) (c := n + 3) l19
  have x23 := zs_sh2 (a := p) (b := 4) (c := n + 3) x20
  have x24 := zs_sh2 (a := p) (b := 4) (c := n + 3) x21
  refine K_aload_n rfl 0 rfl ?_
  refine K_bipush (v := 64) rfl (by decide) ?_
  refine zs_Kna (n := n + 4) (s := 64) rfl l22 (zs_le (k := 4) hl (Nat.le_of_ble_eq_true rfl)) (by decide) (by decide) (by decide) ?_
  have l25 := zs_ln0 (a := 23) (b := 64) (c := n + 4) (m := n + 5) l22 rfl
  have x26 := zs_sh0 (a := 23) (b := 64) (c := n + 4) x23
  have x27 := zs_new (a := 23) (b := 64) (c := n + 4) l22
  refine zs_Kpr (i := 6) rfl x26 rfl rfl rfl ?_
  have l28 := zs_ln2 (a := p) (b := 6) (c := n + 4) l25
  have x29 := zs_sh2 (a := p) (b := 6) (c := n + 4) x26
  have x30 := zs_sh2 (a := p) (b := 6) (c := n + 4) x27
  exact K_vret rfl rfl ⟨rfl, rfl⟩
def zs_Yard (p n : Nat) (E : List Ev4) : List Ev4 := ((3, n + 3, 11, 0) :: ((2, p, 11, n + 6) :: ((0, 20, 6, n + 6) :: ((2, p, 9, n + 5) :: ((0, 20, 80, n + 5) :: ((2, p, 7, n + 4) :: ((0, 20, 11, n + 4) :: ((2, p, 6, n + 3) :: ((0, 20, 11, n + 3) :: ((2, p, 5, n + 2) :: ((0, 20, 11, n + 2) :: ((2, p, 4, n + 1) :: ((0, 20, 11, n + 1) :: ((2, p, 3, n) :: ((0, 20, 11, n) :: E)))))))))))))))
set_option maxRecDepth 20000 in
theorem zs_Yard_len {p n m : Nat} {E : List Ev4} (hn : (zs_M E).1.length = n) (hm : n + 7 = m) : (zs_M (zs_Yard p n E)).1.length = m := by
  subst hm
  unfold zs_Yard
  exact (zs_ln3 (zs_ln2 (zs_ln0 (zs_ln2 (zs_ln0 (zs_ln2 (zs_ln0 (zs_ln2 (zs_ln0 (zs_ln2 (zs_ln0 (zs_ln2 (zs_ln0 (zs_ln2 (zs_ln0 hn rfl)) rfl)) rfl)) rfl)) rfl)) rfl)) rfl)))
set_option maxRecDepth 20000 in
theorem zs_Yard_sh {p n q : Nat} {s : Nat × Nat} {E : List Ev4} (h : (zs_M E).1[q]? = some s) : (zs_M (zs_Yard p n E)).1[q]? = some s := by
  unfold zs_Yard
  exact (zs_sh3 (zs_sh2 (zs_sh0 (zs_sh2 (zs_sh0 (zs_sh2 (zs_sh0 (zs_sh2 (zs_sh0 (zs_sh2 (zs_sh0 (zs_sh2 (zs_sh0 (zs_sh2 (zs_sh0 h)))))))))))))))
set_option maxRecDepth 20000 in
theorem zs_Yard_H {p n q i v : Nat} {s : Nat × Nat} {E : List Ev4} (hn : (zs_M E).1.length = n) (hne : p ≠ q) (h : zs_H E q s i v) : zs_H (zs_Yard p n E) q s i v := by
  have hq := zs_lt hn h
  unfold zs_Yard
  exact (zs_H3 (zs_H2 (Or.inl (by omega)) (zs_H0 (zs_H2 (Or.inl (by omega)) (zs_H0 (zs_H2 (Or.inl (by omega)) (zs_H0 (zs_H2 (Or.inl (by omega)) (zs_H0 (zs_H2 (Or.inl (by omega)) (zs_H0 (zs_H2 (Or.inl (by omega)) (zs_H0 (zs_H2 (Or.inl (by omega)) (zs_H0 h)))))))))))))))
set_option maxRecDepth 20000 in
theorem zs_IYard {X : mX} {p n : Nat} {E : List Ev4} (hp : (zs_M E).1[p]? = some (10, 12)) (hn : (zs_M E).1.length = n) (hl : n ≤ 600) : EV X 2 3 [.ref p] (zs_M E) (fun v M' => v = none ∧ M' = zs_M (zs_Yard p n E)) := by
  have hpn := zs_ltp hn hp
  refine EV_of (lc := [(0, .ref p)]) (Nat.le_of_ble_eq_true rfl) (by exact Nat.le_of_ble_eq_true rfl) (by exact List.forall_mem_cons.mpr ⟨rfl, fun _ h => absurd h List.not_mem_nil⟩) ?_
  refine K_aload_n rfl 0 rfl ?_
  refine zs_Koi rfl (Nat.le_of_ble_eq_true rfl) ?_
  refine K_aload_n rfl 0 rfl ?_
  refine K_bipush (v := 11) rfl (by decide) ?_
  refine zs_Kna (n := n) (s := 11) rfl hn (zs_le (k := 0) hl (Nat.le_of_ble_eq_true rfl)) (by decide) (by decide) (by decide) ?_
  have l1 := zs_ln0 (a := 20) (b := 11) (c := n) (m := n + 1) hn rfl
  have x2 := zs_sh0 (a := 20) (b := 11) (c := n) hp
  have x3 := zs_new (a := 20) (b := 11) (c := n) hn
  refine zs_Kpr (i := 3) rfl x2 rfl rfl rfl ?_
  have l4 := zs_ln2 (a := p) (b := 3) (c := n) l1
  have x5 := zs_sh2 (a := p) (b := 3) (c := n) x2
  have x6 := zs_sh2 (a := p) (b := 3) (c := n) x3
  refine K_aload_n rfl 0 rfl ?_
  refine K_bipush (v := 11) rfl (by decide) ?_
  refine zs_Kna (n := n + 1) (s := 11) rfl l4 (zs_le (k := 1) hl (Nat.le_of_ble_eq_true rfl)) (by decide) (by decide) (by decide) ?_
  have l7 := zs_ln0 (a := 20) (b := 11) (c := n + 1) (m := n + 2) l4 rfl
  have x8 := zs_sh0 (a := 20) (b := 11) (c := n + 1) x5
  have x9 := zs_new (a := 20) (b := 11) (c := n + 1) l4
  refine zs_Kpr (i := 4) rfl x8 rfl rfl rfl ?_
  have l10 := zs_ln2 (a := p) (b := 4) (c := n + 1) l7
  have x11 := zs_sh2 (a := p) (b := 4) (c := n + 1) x8
  have x12 := zs_sh2 (a := p) (b := 4) (c := n + 1) x9
  refine K_aload_n rfl 0 rfl ?_
  refine K_bipush (v := 11) rfl (by decide) ?_
  refine zs_Kna (n := n + 2) (s := 11) rfl l10 (zs_le (k := 2) hl (Nat.le_of_ble_eq_true rfl)) (by decide) (by decide) (by decide) ?_
  have l13 := zs_ln0 (a := 20) (b := 11) (c := n + 2) (m := n + 3) l10 rfl
  have x14 := zs_sh0 (a := 20) (b := 11) (c := n + 2) x11
  have x15 := zs_new (a := 20) (b := 11) (c := n + 2) l10
  refine zs_Kpr (i := 5) rfl x14 rfl rfl rfl ?_
  have l16 := zs_ln2 (a := p) (b := 5) (c := n + 2) l13
  have x17 := zs_sh2 (a := p) (b := 5) (c := n + 2) x14
  have x18 := zs_sh2 (a := p) (b := 5) (c := n + 2) x15
  refine K_aload_n rfl 0 rfl ?_
  refine K_bipush (v := 11) rfl (by decide) ?_
  refine zs_Kna (n := n + 3) (s := 11) rfl l16 (zs_le (k := 3) hl (Nat.le_of_ble_eq_true rfl)) (by decide) (by decide) (by decide) ?_
  have l19 := zs_ln0 (a := 20) (b := 11) (c := n + 3) (m := n + 4) l16 rfl
  have x20 := zs_sh0 (a := 20) (b := 11) (c := n + 3) x17
  have x21 := zs_new (a := 20) (b := 11) (c := n + 3) l16
  refine zs_Kpr (i := 6) rfl x20 rfl rfl rfl ?_
  have l22 := zs_ln2 (a := p) (b := 6) (c := n + 3) l19
  have x23 := zs_sh2 (a := p) (b := 6) (c := n + 3) x20
  have x24 := zs_sh2 (a := p) (b := 6) (c := n + 3) x21
  have y25 := zs_Hn (i := 6) (v := n + 3) x20
  refine K_aload_n rfl 0 rfl ?_
  refine K_bipush (v := 11) rfl (by decide) ?_
  refine zs_Kna (n := n + 4) (s := 11) rfl l22 (zs_le (k := 4) hl (Nat.le_of_ble_eq_true rfl)) (by decide) (by decide) (by decide) ?_
  have l26 := zs_ln0 (a := 20) (b := 11) (c := n + 4) (m := n + 5) l22 rfl
  have x27 := zs_sh0 (a := 20) (b := 11) (c := n + 4) x23
  have x28 := zs_sh0 (a := 20) (b := 11) (c := n + 4) x24
  have y29 := zs_H0 (a := 20) (b := 11) (c := n + 4) y25
  have x30 := zs_new (a := 20) (b := 11) (c := n + 4) l22
  refine zs_Kpr (i := 7) rfl x27 rfl rfl rfl ?_
  have l31 := zs_ln2 (a := p) (b := 7) (c := n + 4) l26
  have x32 := zs_sh2 (a := p) (b := 7) (c := n + 4) x27
  have x33 := zs_sh2 (a := p) (b := 7) (c := n + 4) x28
  have x34 := zs_sh2 (a := p) (b := 7) (c := n + 4) x30
  have y35 := zs_H2 (a := p) (b := 7) (c := n + 4) (Or.inr (by decide)) y29
  refine K_aload_n rfl 0 rfl ?_
  refine K_bipush (v := 80) rfl (by decide) ?_
  refine zs_Kna (n := n + 5) (s := 80) rfl l31 (zs_le (k := 5) hl (Nat.le_of_ble_eq_true rfl)) (by decide) (by decide) (by decide) ?_
  have l36 := zs_ln0 (a := 20) (b := 80) (c := n + 5) (m := n + 6) l31 rfl
  have x37 := zs_sh0 (a := 20) (b := 80) (c := n + 5) x32
  have x38 := zs_sh0 (a := 20) (b := 80) (c := n + 5) x33
  have y39 := zs_H0 (a := 20) (b := 80) (c := n + 5) y35
  have x40 := zs_new (a := 20) (b := 80) (c := n + 5) l31
  refine zs_Kpr (i := 9) rfl x37 rfl rfl rfl ?_
  have l41 := zs_ln2 (a := p) (b := 9) (c := n + 5) l36
  have x42 := zs_sh2 (a := p) (b := 9) (c := n + 5) x37
  have x43 := zs_sh2 (a := p) (b := 9) (c := n + 5) x38
  have x44 := zs_sh2 (a := p) (b := 9) (c := n + 5) x40
  have y45 := zs_H2 (a := p) (b := 9) (c := n + 5) (Or.inr (by decide)) y39
  refine K_aload_n rfl 0 rfl ?_
  refine K_bipush (v := 6) rfl (by decide) ?_
  refine zs_Kna (n := n + 6) (s := 6) rfl l41 (zs_le (k := 6) hl (Nat.le_of_ble_eq_true rfl)) (by decide) (by decide) (by decide) ?_
  have l46 := zs_ln0 (a := 20) (b := 6) (c := n + 6) (m := n + 7) l41 rfl
  have x47 := zs_sh0 (a := 20) (b := 6) (c := n + 6) x42
  have x48 := zs_sh0 (a := 20) (b := 6) (c := n + 6) x43
  have y49 := zs_H0 (a := 20) (b := 6) (c := n + 6) y45
  have x50 := zs_new (a := 20) (b := 6) (c := n + 6) l41
  refine zs_Kpr (i := 11) rfl x47 rfl rfl rfl ?_
  have l51 := zs_ln2 (a := p) (b := 11) (c := n + 6) l46
  have x52 := zs_sh2 (a := p) (b := 11) (c := n + 6) x47
  have x53 := zs_sh2 (a := p) (b := 11) (c := n + 6) x48
  have x54 := zs_sh2 (a := p) (b := 11) (c := n + 6) x50
  have y55 := zs_H2 (a := p) (b := 11) (c := n + 6) (Or.inr (by decide)) y49
  refine K_aload_n rfl 0 rfl ?_
  refine zs_Kgr (i := 6) rfl y55 rfl rfl rfl ?_
  refine K_iconst (v := (-1)) rfl (by decide) ?_
  refine K_callS [.ref (n + 3), .int (-1)] [] rfl rfl (Nat.le_of_ble_eq_true rfl) (Nat.le_of_ble_eq_true rfl) (EV_le (Nat.le_of_ble_eq_true rfl) (zs_Ifill x53 (by decide) (zs_ne (zs_le (k := 3) hl (Nat.le_of_ble_eq_true rfl))))) ?_
  rintro v M' ⟨rfl, rfl⟩
  have l56 := zs_ln3 (a := n + 3) (b := 11) (c := 0) l51
  have x57 := zs_sh3 (a := n + 3) (b := 11) (c := 0) x52
  have x58 := zs_sh3 (a := n + 3) (b := 11) (c := 0) x53
  have y59 := zs_H3 (a := n + 3) (b := 11) (c := 0) y55
  exact K_vret rfl rfl ⟨rfl, rfl⟩
def zs_World (p n : Nat) (E : List Ev4) : List Ev4 := ((1, p, 3, 0) :: ((2, p, 2, n + 18) :: (zs_Sights (n + 18) (n + 19) ((0, 6, 4, n + 18) :: ((2, p, 1, n + 8) :: (zs_State (n + 8) (n + 9) ((0, 7, 12, n + 8) :: ((2, p, 0, n) :: (zs_Yard n (n + 1) ((0, 10, 12, n) :: E))))))))))
set_option maxRecDepth 20000 in
theorem zs_World_len {p n m : Nat} {E : List Ev4} (hn : (zs_M E).1.length = n) (hm : n + 22 = m) : (zs_M (zs_World p n E)).1.length = m := by
  subst hm
  unfold zs_World
  exact (zs_ln1 (zs_ln2 (zs_Sights_len (zs_ln0 (zs_ln2 (zs_State_len (zs_ln0 (zs_ln2 (zs_Yard_len (zs_ln0 hn rfl) rfl)) rfl) rfl)) rfl) rfl)))
set_option maxRecDepth 20000 in
theorem zs_World_sh {p n q : Nat} {s : Nat × Nat} {E : List Ev4} (h : (zs_M E).1[q]? = some s) : (zs_M (zs_World p n E)).1[q]? = some s := by
  unfold zs_World
  exact (zs_sh1 (zs_sh2 (zs_Sights_sh (zs_sh0 (zs_sh2 (zs_State_sh (zs_sh0 (zs_sh2 (zs_Yard_sh (zs_sh0 h))))))))))
set_option maxRecDepth 20000 in
theorem zs_World_H {p n q i v : Nat} {s : Nat × Nat} {E : List Ev4} (hn : (zs_M E).1.length = n) (hne : p ≠ q) (h : zs_H E q s i v) : zs_H (zs_World p n E) q s i v := by
  have hq := zs_lt hn h
  unfold zs_World
  exact (zs_H1 (zs_H2 (Or.inl (by omega)) (zs_Sights_H (zs_ln0 (zs_ln2 (zs_State_len (zs_ln0 (zs_ln2 (zs_Yard_len (zs_ln0 hn rfl) rfl)) rfl) rfl)) rfl) (by omega) (zs_H0 (zs_H2 (Or.inl (by omega)) (zs_State_H (zs_ln0 (zs_ln2 (zs_Yard_len (zs_ln0 hn rfl) rfl)) rfl) (by omega) (zs_H0 (zs_H2 (Or.inl (by omega)) (zs_Yard_H (zs_ln0 hn rfl) (by omega) (zs_H0 h))))))))))
set_option maxRecDepth 20000 in
theorem zs_IWorld {X : mX} {p n : Nat} {E : List Ev4} (hp : (zs_M E).1[p]? = some (9, 6)) (hn : (zs_M E).1.length = n) (hl : n ≤ 500) : EV X 3 6 [.ref p] (zs_M E) (fun v M' => v = none ∧ M' = zs_M (zs_World p n E)) := by
  have hpn := zs_ltp hn hp
  refine EV_of (lc := [(0, .ref p)]) (Nat.le_of_ble_eq_true rfl) (by exact Nat.le_of_ble_eq_true rfl) (by exact List.forall_mem_cons.mpr ⟨rfl, fun _ h => absurd h List.not_mem_nil⟩) ?_
  refine K_aload_n rfl 0 rfl ?_
  refine zs_Koi rfl (Nat.le_of_ble_eq_true rfl) ?_
  refine K_aload_n rfl 0 rfl ?_
  refine zs_Knew (n := n) (s := 12) rfl hn (zs_le (k := 0) hl (Nat.le_of_ble_eq_true rfl)) rfl ?_
  have l1 := zs_ln0 (a := 10) (b := 12) (c := n) (m := n + 1) hn rfl
  have x2 := zs_sh0 (a := 10) (b := 12) (c := n) hp
  have x3 := zs_new (a := 10) (b := 12) (c := n) hn
  refine K_dup rfl rfl ?_
  refine zs_Kca [] [.ref n, .ref p] rfl rfl (Nat.le_of_ble_eq_true rfl) (Nat.le_of_ble_eq_true rfl) (EV_le (Nat.le_of_ble_eq_true rfl) (zs_IYard x3 l1 (zs_le (k := 1) hl (Nat.le_of_ble_eq_true rfl)))) ?_
  rintro v M' ⟨rfl, rfl⟩
  have l4 := zs_Yard_len (p := n) (m := n + 8) l1 rfl
  have x5 := zs_Yard_sh (p := n) (n := n + 1) x2
  have x6 := zs_Yard_sh (p := n) (n := n + 1) x3
  refine zs_Kpr (i := 0) rfl x5 rfl rfl rfl ?_
  have l7 := zs_ln2 (a := p) (b := 0) (c := n) l4
  have x8 := zs_sh2 (a := p) (b := 0) (c := n) x5
  have x9 := zs_sh2 (a := p) (b := 0) (c := n) x6
  refine K_aload_n rfl 0 rfl ?_
  refine zs_Knew (n := n + 8) (s := 12) rfl l7 (zs_le (k := 8) hl (Nat.le_of_ble_eq_true rfl)) rfl ?_
  have l10 := zs_ln0 (a := 7) (b := 12) (c := n + 8) (m := n + 9) l7 rfl
  have x11 := zs_sh0 (a := 7) (b := 12) (c := n + 8) x8
  have x12 := zs_new (a := 7) (b := 12) (c := n + 8) l7
  refine K_dup rfl rfl ?_
  refine zs_Kca [] [.ref (n + 8), .ref p] rfl rfl (Nat.le_of_ble_eq_true rfl) (Nat.le_of_ble_eq_true rfl) (EV_le (Nat.le_of_ble_eq_true rfl) (zs_IState x12 l10 (zs_le (k := 9) hl (Nat.le_of_ble_eq_true rfl)))) ?_
  rintro v M' ⟨rfl, rfl⟩
  have l13 := zs_State_len (p := n + 8) (m := n + 18) l10 rfl
  have x14 := zs_State_sh (p := n + 8) (n := n + 9) x11
  have x15 := zs_State_sh (p := n + 8) (n := n + 9) x12
  refine zs_Kpr (i := 1) rfl x14 rfl rfl rfl ?_
  have l16 := zs_ln2 (a := p) (b := 1) (c := n + 8) l13
  have x17 := zs_sh2 (a := p) (b := 1) (c := n + 8) x14
  have x18 := zs_sh2 (a := p) (b := 1) (c := n + 8) x15
  refine K_aload_n rfl 0 rfl ?_
  refine zs_Knew (n := n + 18) (s := 4) rfl l16 (zs_le (k := 18) hl (Nat.le_of_ble_eq_true rfl)) rfl ?_
  have l19 := zs_ln0 (a := 6) (b := 4) (c := n + 18) (m := n + 19) l16 rfl
  have x20 := zs_sh0 (a := 6) (b := 4) (c := n + 18) x17
  have x21 := zs_new (a := 6) (b := 4) (c := n + 18) l16
  refine K_dup rfl rfl ?_
  refine zs_Kca [] [.ref (n + 18), .ref p] rfl rfl (Nat.le_of_ble_eq_true rfl) (Nat.le_of_ble_eq_true rfl) (EV_le (Nat.le_of_ble_eq_true rfl) (zs_ISights x21 l19 (zs_le (k := 19) hl (Nat.le_of_ble_eq_true rfl)))) ?_
  rintro v M' ⟨rfl, rfl⟩
  have l22 := zs_Sights_len (p := n + 18) (m := n + 22) l19 rfl
  have x23 := zs_Sights_sh (p := n + 18) (n := n + 19) x20
  have x24 := zs_Sights_sh (p := n + 18) (n := n + 19) x21
  refine zs_Kpr (i := 2) rfl x23 rfl rfl rfl ?_
  have l25 := zs_ln2 (a := p) (b := 2) (c := n + 18) l22
  have x26 := zs_sh2 (a := p) (b := 2) (c := n + 18) x23
  have x27 := zs_sh2 (a := p) (b := 2) (c := n + 18) x24
  refine K_aload_n rfl 0 rfl ?_
  refine K_iconst (v := (-1)) rfl (by decide) ?_
  refine zs_Kpi (i := 3) rfl x26 rfl rfl rfl ?_
  have l28 := zs_ln1 (a := p) (b := 3) (c := 0) l25
  have x29 := zs_sh1 (a := p) (b := 3) (c := 0) x26
  exact K_vret rfl rfl ⟨rfl, rfl⟩
def zs_Course (p n : Nat) (E : List Ev4) : List Ev4 := ((2, p, 11, n + 21) :: ((0, 23, 12, n + 21) :: ((2, p, 9, n + 20) :: ((0, 20, 11, n + 20) :: ((2, p, 8, n + 19) :: ((0, 20, 11, n + 19) :: ((2, p, 5, n + 11) :: (zs_Yard (n + 11) (n + 12) ((0, 10, 12, n + 11) :: ((2, p, 1, n + 10) :: ((0, 20, 11, n + 10) :: ((2, p, 0, n) :: (zs_State n (n + 1) ((0, 7, 12, n) :: E))))))))))))))
set_option maxRecDepth 20000 in
theorem zs_Course_len {p n m : Nat} {E : List Ev4} (hn : (zs_M E).1.length = n) (hm : n + 22 = m) : (zs_M (zs_Course p n E)).1.length = m := by
  subst hm
  unfold zs_Course
  exact (zs_ln2 (zs_ln0 (zs_ln2 (zs_ln0 (zs_ln2 (zs_ln0 (zs_ln2 (zs_Yard_len (zs_ln0 (zs_ln2 (zs_ln0 (zs_ln2 (zs_State_len (zs_ln0 hn rfl) rfl)) rfl)) rfl) rfl)) rfl)) rfl)) rfl))
set_option maxRecDepth 20000 in
theorem zs_Course_sh {p n q : Nat} {s : Nat × Nat} {E : List Ev4} (h : (zs_M E).1[q]? = some s) : (zs_M (zs_Course p n E)).1[q]? = some s := by
  unfold zs_Course
  exact (zs_sh2 (zs_sh0 (zs_sh2 (zs_sh0 (zs_sh2 (zs_sh0 (zs_sh2 (zs_Yard_sh (zs_sh0 (zs_sh2 (zs_sh0 (zs_sh2 (zs_State_sh (zs_sh0 h))))))))))))))
set_option maxRecDepth 20000 in
theorem zs_Course_H {p n q i v : Nat} {s : Nat × Nat} {E : List Ev4} (hn : (zs_M E).1.length = n) (hne : p ≠ q) (h : zs_H E q s i v) : zs_H (zs_Course p n E) q s i v := by
  have hq := zs_lt hn h
  unfold zs_Course
  exact (zs_H2 (Or.inl (by omega)) (zs_H0 (zs_H2 (Or.inl (by omega)) (zs_H0 (zs_H2 (Or.inl (by omega)) (zs_H0 (zs_H2 (Or.inl (by omega)) (zs_Yard_H (zs_ln0 (zs_ln2 (zs_ln0 (zs_ln2 (zs_State_len (zs_ln0 hn rfl) rfl)) rfl)) rfl) (by omega) (zs_H0 (zs_H2 (Or.inl (by omega)) (zs_H0 (zs_H2 (Or.inl (by omega)) (zs_State_H (zs_ln0 hn rfl) (by omega) (zs_H0 h))))))))))))))
set_option maxRecDepth 20000 in
theorem zs_ICourse {X : mX} {p n : Nat} {E : List Ev4} (hp : (zs_M E).1[p]? = some (2, 12)) (hn : (zs_M E).1.length = n) (hl : n ≤ 500) : EV X 3 10 [.ref p] (zs_M E) (fun v M' => v = none ∧ M' = zs_M (zs_Course p n E)) := by
  have hpn := zs_ltp hn hp
  refine EV_of (lc := [(0, .ref p)]) (Nat.le_of_ble_eq_true rfl) (by exact Nat.le_of_ble_eq_true rfl) (by exact List.forall_mem_cons.mpr ⟨rfl, fun _ h => absurd h List.not_mem_nil⟩) ?_
  refine K_aload_n rfl 0 rfl ?_
  refine zs_Koi rfl (Nat.le_of_ble_eq_true rfl) ?_
  refine K_aload_n rfl 0 rfl ?_
  refine zs_Knew (n := n) (s := 12) rfl hn (zs_le (k := 0) hl (Nat.le_of_ble_eq_true rfl)) rfl ?_
  have l1 := zs_ln0 (a := 7) (b := 12) (c := n) (m := n + 1) hn rfl
  have x2 := zs_sh0 (a := 7) (b := 12) (c := n) hp
  have x3 := zs_new (a := 7) (b := 12) (c := n) hn
  refine K_dup rfl rfl ?_
  refine zs_Kca [] [.ref n, .ref p] rfl rfl (Nat.le_of_ble_eq_true rfl) (Nat.le_of_ble_eq_true rfl) (EV_le (Nat.le_of_ble_eq_true rfl) (zs_IState x3 l1 (zs_le (k := 1) hl (Nat.le_of_ble_eq_true rfl)))) ?_
  rintro v M' ⟨rfl, rfl⟩
  have l4 := zs_State_len (p := n) (m := n + 10) l1 rfl
  have x5 := zs_State_sh (p := n) (n := n + 1) x2
  have x6 := zs_State_sh (p := n) (n := n + 1) x3
  refine zs_Kpr (i := 0) rfl x5 rfl rfl rfl ?_
  have l7 := zs_ln2 (a := p) (b := 0) (c := n) l4
  have x8 := zs_sh2 (a := p) (b := 0) (c := n) x5
  have x9 := zs_sh2 (a := p) (b := 0) (c := n) x6
  refine K_aload_n rfl 0 rfl ?_
  refine K_bipush (v := 11) rfl (by decide) ?_
  refine zs_Kna (n := n + 10) (s := 11) rfl l7 (zs_le (k := 10) hl (Nat.le_of_ble_eq_true rfl)) (by decide) (by decide) (by decide) ?_
  have l10 := zs_ln0 (a := 20) (b := 11) (c := n + 10) (m := n + 11) l7 rfl
  have x11 := zs_sh0 (a := 20) (b := 11) (c := n + 10) x8
  have x12 := zs_new (a := 20) (b := 11) (c := n + 10) l7
  refine zs_Kpr (i := 1) rfl x11 rfl rfl rfl ?_
  have l13 := zs_ln2 (a := p) (b := 1) (c := n + 10) l10
  have x14 := zs_sh2 (a := p) (b := 1) (c := n + 10) x11
  have x15 := zs_sh2 (a := p) (b := 1) (c := n + 10) x12
  refine K_aload_n rfl 0 rfl ?_
  refine zs_Knew (n := n + 11) (s := 12) rfl l13 (zs_le (k := 11) hl (Nat.le_of_ble_eq_true rfl)) rfl ?_
  have l16 := zs_ln0 (a := 10) (b := 12) (c := n + 11) (m := n + 12) l13 rfl
  have x17 := zs_sh0 (a := 10) (b := 12) (c := n + 11) x14
  have x18 := zs_new (a := 10) (b := 12) (c := n + 11) l13
  refine K_dup rfl rfl ?_
  refine zs_Kca [] [.ref (n + 11), .ref p] rfl rfl (Nat.le_of_ble_eq_true rfl) (Nat.le_of_ble_eq_true rfl) (EV_le (Nat.le_of_ble_eq_true rfl) (zs_IYard x18 l16 (zs_le (k := 12) hl (Nat.le_of_ble_eq_true rfl)))) ?_
  rintro v M' ⟨rfl, rfl⟩
  have l19 := zs_Yard_len (p := n + 11) (m := n + 19) l16 rfl
  have x20 := zs_Yard_sh (p := n + 11) (n := n + 12) x17
  have x21 := zs_Yard_sh (p := n + 11) (n := n + 12) x18
  refine zs_Kpr (i := 5) rfl x20 rfl rfl rfl ?_
  have l22 := zs_ln2 (a := p) (b := 5) (c := n + 11) l19
  have x23 := zs_sh2 (a := p) (b := 5) (c := n + 11) x20
  have x24 := zs_sh2 (a := p) (b := 5) (c := n + 11) x21
  refine K_aload_n rfl 0 rfl ?_
  refine K_bipush (v := 11) rfl (by decide) ?_
  refine zs_Kna (n := n + 19) (s := 11) rfl l22 (zs_le (k := 19) hl (Nat.le_of_ble_eq_true rfl)) (by decide) (by decide) (by decide) ?_
  have l25 := zs_ln0 (a := 20) (b := 11) (c := n + 19) (m := n + 20) l22 rfl
  have x26 := zs_sh0 (a := 20) (b := 11) (c := n + 19) x23
  have x27 := zs_new (a := 20) (b := 11) (c := n + 19) l22
  refine zs_Kpr (i := 8) rfl x26 rfl rfl rfl ?_
  have l28 := zs_ln2 (a := p) (b := 8) (c := n + 19) l25
  have x29 := zs_sh2 (a := p) (b := 8) (c := n + 19) x26
  have x30 := zs_sh2 (a := p) (b := 8) (c := n + 19) x27
  refine K_aload_n rfl 0 rfl ?_
  refine K_bipush (v := 11) rfl (by decide) ?_
  refine zs_Kna (n := n + 20) (s := 11) rfl l28 (zs_le (k := 20) hl (Nat.le_of_ble_eq_true rfl)) (by decide) (by decide) (by decide) ?_
  have l31 := zs_ln0 (a := 20) (b := 11) (c := n + 20) (m := n + 21) l28 rfl
  have x32 := zs_sh0 (a := 20) (b := 11) (c := n + 20) x29
  have x33 := zs_new (a := 20) (b := 11) (c := n + 20) l28
  refine zs_Kpr (i := 9) rfl x32 rfl rfl rfl ?_
  have l34 := zs_ln2 (a := p) (b := 9) (c := n + 20) l31
  have x35 := zs_sh2 (a := p) (b := 9) (c := n + 20) x32
  have x36 := zs_sh2 (a := p) (b := 9) (c := n + 20) x33
  refine K_aload_n rfl 0 rfl ?_
  refine K_bipush (v := 12) rfl (by decide) ?_
  refine zs_Kna (n := n + 21) (s := 12) rfl l34 (zs_le (k := 21) hl (Nat.le_of_ble_eq_true rfl)) (by decide) (by decide) (by decide) ?_
  have l37 := zs_ln0 (a := 23) (b := 12) (c := n + 21) (m := n + 22) l34 rfl
  have x38 := zs_sh0 (a := 23) (b := 12) (c := n + 21) x35
  have x39 := zs_new (a := 23) (b := 12) (c := n + 21) l34
  refine zs_Kpr (i := 11) rfl x38 rfl rfl rfl ?_
  have l40 := zs_ln2 (a := p) (b := 11) (c := n + 21) l37
  have x41 := zs_sh2 (a := p) (b := 11) (c := n + 21) x38
  have x42 := zs_sh2 (a := p) (b := 11) (c := n + 21) x39
  exact K_vret rfl rfl ⟨rfl, rfl⟩
def zs_Sets (p n : Nat) (E : List Ev4) : List Ev4 := ((2, p, 10, n + 10) :: (zs_State (n + 10) (n + 11) ((0, 7, 12, n + 10) :: ((2, p, 8, n + 2) :: (zs_Yard (n + 2) (n + 3) ((0, 10, 12, n + 2) :: ((2, p, 7, n + 1) :: ((0, 20, 231, n + 1) :: ((2, p, 5, n) :: ((0, 20, 1024, n) :: ((1, p, 2, 0) :: E)))))))))))
set_option maxRecDepth 20000 in
theorem zs_Sets_len {p n m : Nat} {E : List Ev4} (hn : (zs_M E).1.length = n) (hm : n + 20 = m) : (zs_M (zs_Sets p n E)).1.length = m := by
  subst hm
  unfold zs_Sets
  exact (zs_ln2 (zs_State_len (zs_ln0 (zs_ln2 (zs_Yard_len (zs_ln0 (zs_ln2 (zs_ln0 (zs_ln2 (zs_ln0 (zs_ln1 hn) rfl)) rfl)) rfl) rfl)) rfl) rfl))
set_option maxRecDepth 20000 in
theorem zs_Sets_sh {p n q : Nat} {s : Nat × Nat} {E : List Ev4} (h : (zs_M E).1[q]? = some s) : (zs_M (zs_Sets p n E)).1[q]? = some s := by
  unfold zs_Sets
  exact (zs_sh2 (zs_State_sh (zs_sh0 (zs_sh2 (zs_Yard_sh (zs_sh0 (zs_sh2 (zs_sh0 (zs_sh2 (zs_sh0 (zs_sh1 h)))))))))))
set_option maxRecDepth 20000 in
theorem zs_Sets_H {p n q i v : Nat} {s : Nat × Nat} {E : List Ev4} (hn : (zs_M E).1.length = n) (hne : p ≠ q) (h : zs_H E q s i v) : zs_H (zs_Sets p n E) q s i v := by
  have hq := zs_lt hn h
  unfold zs_Sets
  exact (zs_H2 (Or.inl (by omega)) (zs_State_H (zs_ln0 (zs_ln2 (zs_Yard_len (zs_ln0 (zs_ln2 (zs_ln0 (zs_ln2 (zs_ln0 (zs_ln1 hn) rfl)) rfl)) rfl) rfl)) rfl) (by omega) (zs_H0 (zs_H2 (Or.inl (by omega)) (zs_Yard_H (zs_ln0 (zs_ln2 (zs_ln0 (zs_ln2 (zs_ln0 (zs_ln1 hn) rfl)) rfl)) rfl) (by omega) (zs_H0 (zs_H2 (Or.inl (by omega)) (zs_H0 (zs_H2 (Or.inl (by omega)) (zs_H0 (zs_H1 h)))))))))))
set_option maxRecDepth 20000 in
theorem zs_ISets {X : mX} {p n : Nat} {E : List Ev4} (hp : (zs_M E).1[p]? = some (5, 11)) (hn : (zs_M E).1.length = n) (hl : n ≤ 500) : EV X 3 11 [.ref p] (zs_M E) (fun v M' => v = none ∧ M' = zs_M (zs_Sets p n E)) := by
  have hpn := zs_ltp hn hp
  refine EV_of (lc := [(0, .ref p)]) (Nat.le_of_ble_eq_true rfl) (by exact Nat.le_of_ble_eq_true rfl) (by exact List.forall_mem_cons.mpr ⟨rfl, fun _ h => absurd h List.not_mem_nil⟩) ?_
  refine K_aload_n rfl 0 rfl ?_
  refine zs_Koi rfl (Nat.le_of_ble_eq_true rfl) ?_
  refine K_aload_n rfl 0 rfl ?_
  refine K_iconst (v := (-1)) rfl (by decide) ?_
  refine zs_Kpi (i := 2) rfl hp rfl rfl rfl ?_
  have l1 := zs_ln1 (a := p) (b := 2) (c := 0) hn
  have x2 := zs_sh1 (a := p) (b := 2) (c := 0) hp
  refine K_aload_n rfl 0 rfl ?_
  refine K_sipush (v := 1024) rfl (by decide) ?_
  refine zs_Kna (n := n) (s := 1024) rfl l1 (zs_le (k := 0) hl (Nat.le_of_ble_eq_true rfl)) (by decide) (by decide) (by decide) ?_
  have l3 := zs_ln0 (a := 20) (b := 1024) (c := n) (m := n + 1) l1 rfl
  have x4 := zs_sh0 (a := 20) (b := 1024) (c := n) x2
  have x5 := zs_new (a := 20) (b := 1024) (c := n) l1
  refine zs_Kpr (i := 5) rfl x4 rfl rfl rfl ?_
  have l6 := zs_ln2 (a := p) (b := 5) (c := n) l3
  have x7 := zs_sh2 (a := p) (b := 5) (c := n) x4
  have x8 := zs_sh2 (a := p) (b := 5) (c := n) x5
  refine K_aload_n rfl 0 rfl ?_
  refine K_sipush (v := 231) rfl (by decide) ?_
  refine zs_Kna (n := n + 1) (s := 231) rfl l6 (zs_le (k := 1) hl (Nat.le_of_ble_eq_true rfl)) (by decide) (by decide) (by decide) ?_
  have l9 := zs_ln0 (a := 20) (b := 231) (c := n + 1) (m := n + 2) l6 rfl
  have x10 := zs_sh0 (a := 20) (b := 231) (c := n + 1) x7
  have x11 := zs_new (a := 20) (b := 231) (c := n + 1) l6
  refine zs_Kpr (i := 7) rfl x10 rfl rfl rfl ?_
  have l12 := zs_ln2 (a := p) (b := 7) (c := n + 1) l9
  have x13 := zs_sh2 (a := p) (b := 7) (c := n + 1) x10
  have x14 := zs_sh2 (a := p) (b := 7) (c := n + 1) x11
  refine K_aload_n rfl 0 rfl ?_
  refine zs_Knew (n := n + 2) (s := 12) rfl l12 (zs_le (k := 2) hl (Nat.le_of_ble_eq_true rfl)) rfl ?_
  have l15 := zs_ln0 (a := 10) (b := 12) (c := n + 2) (m := n + 3) l12 rfl
  have x16 := zs_sh0 (a := 10) (b := 12) (c := n + 2) x13
  have x17 := zs_new (a := 10) (b := 12) (c := n + 2) l12
  refine K_dup rfl rfl ?_
  refine zs_Kca [] [.ref (n + 2), .ref p] rfl rfl (Nat.le_of_ble_eq_true rfl) (Nat.le_of_ble_eq_true rfl) (EV_le (Nat.le_of_ble_eq_true rfl) (zs_IYard x17 l15 (zs_le (k := 3) hl (Nat.le_of_ble_eq_true rfl)))) ?_
  rintro v M' ⟨rfl, rfl⟩
  have l18 := zs_Yard_len (p := n + 2) (m := n + 10) l15 rfl
  have x19 := zs_Yard_sh (p := n + 2) (n := n + 3) x16
  have x20 := zs_Yard_sh (p := n + 2) (n := n + 3) x17
  refine zs_Kpr (i := 8) rfl x19 rfl rfl rfl ?_
  have l21 := zs_ln2 (a := p) (b := 8) (c := n + 2) l18
  have x22 := zs_sh2 (a := p) (b := 8) (c := n + 2) x19
  have x23 := zs_sh2 (a := p) (b := 8) (c := n + 2) x20
  refine K_aload_n rfl 0 rfl ?_
  refine zs_Knew (n := n + 10) (s := 12) rfl l21 (zs_le (k := 10) hl (Nat.le_of_ble_eq_true rfl)) rfl ?_
  have l24 := zs_ln0 (a := 7) (b := 12) (c := n + 10) (m := n + 11) l21 rfl
  have x25 := zs_sh0 (a := 7) (b := 12) (c := n + 10) x22
  have x26 := zs_new (a := 7) (b := 12) (c := n + 10) l21
  refine K_dup rfl rfl ?_
  refine zs_Kca [] [.ref (n + 10), .ref p] rfl rfl (Nat.le_of_ble_eq_true rfl) (Nat.le_of_ble_eq_true rfl) (EV_le (Nat.le_of_ble_eq_true rfl) (zs_IState x26 l24 (zs_le (k := 11) hl (Nat.le_of_ble_eq_true rfl)))) ?_
  rintro v M' ⟨rfl, rfl⟩
  have l27 := zs_State_len (p := n + 10) (m := n + 20) l24 rfl
  have x28 := zs_State_sh (p := n + 10) (n := n + 11) x25
  have x29 := zs_State_sh (p := n + 10) (n := n + 11) x26
  refine zs_Kpr (i := 10) rfl x28 rfl rfl rfl ?_
  have l30 := zs_ln2 (a := p) (b := 10) (c := n + 10) l27
  have x31 := zs_sh2 (a := p) (b := 10) (c := n + 10) x28
  have x32 := zs_sh2 (a := p) (b := 10) (c := n + 10) x29
  exact K_vret rfl rfl ⟨rfl, rfl⟩
def zs_YRd (p n t : Nat) (E : List Ev4) : List Ev4 := ((2, p, 1, t) :: ((2, p, 0, n) :: (zs_Yard n (n + 1) ((0, 10, 12, n) :: E))))
set_option maxRecDepth 20000 in
theorem zs_YRd_len {p n m t : Nat} {E : List Ev4} (hn : (zs_M E).1.length = n) (hm : n + 8 = m) : (zs_M (zs_YRd p n t E)).1.length = m := by
  subst hm
  unfold zs_YRd
  exact (zs_ln2 (zs_ln2 (zs_Yard_len (zs_ln0 hn rfl) rfl)))
set_option maxRecDepth 20000 in
theorem zs_YRd_sh {p n q t : Nat} {s : Nat × Nat} {E : List Ev4} (h : (zs_M E).1[q]? = some s) : (zs_M (zs_YRd p n t E)).1[q]? = some s := by
  unfold zs_YRd
  exact (zs_sh2 (zs_sh2 (zs_Yard_sh (zs_sh0 h))))
set_option maxRecDepth 20000 in
theorem zs_YRd_H {p n q i v t : Nat} {s : Nat × Nat} {E : List Ev4} (hn : (zs_M E).1.length = n) (hne : p ≠ q) (h : zs_H E q s i v) : zs_H (zs_YRd p n t E) q s i v := by
  have hq := zs_lt hn h
  unfold zs_YRd
  exact (zs_H2 (Or.inl (by omega)) (zs_H2 (Or.inl (by omega)) (zs_Yard_H (zs_ln0 hn rfl) (by omega) (zs_H0 h))))
set_option maxRecDepth 20000 in
theorem zs_IYRd {X : mX} {p n t : Nat} {E : List Ev4} (hp : (zs_M E).1[p]? = some (11, 2)) (hn : (zs_M E).1.length = n) (hl : n ≤ 500) : EV X 3 2 [.ref p, .ref t] (zs_M E) (fun v M' => v = none ∧ M' = zs_M (zs_YRd p n t E)) := by
  have hpn := zs_ltp hn hp
  refine EV_of (lc := [(0, .ref p), (1, .ref t)]) (Nat.le_of_ble_eq_true rfl) (by exact Nat.le_of_ble_eq_true rfl) (by exact List.forall_mem_cons.mpr ⟨rfl, List.forall_mem_cons.mpr ⟨rfl, fun _ h => absurd h List.not_mem_nil⟩⟩) ?_
  refine K_aload_n rfl 0 rfl ?_
  refine zs_Koi rfl (Nat.le_of_ble_eq_true rfl) ?_
  refine K_aload_n rfl 0 rfl ?_
  refine zs_Knew (n := n) (s := 12) rfl hn (zs_le (k := 0) hl (Nat.le_of_ble_eq_true rfl)) rfl ?_
  have l1 := zs_ln0 (a := 10) (b := 12) (c := n) (m := n + 1) hn rfl
  have x2 := zs_sh0 (a := 10) (b := 12) (c := n) hp
  have x3 := zs_new (a := 10) (b := 12) (c := n) hn
  refine K_dup rfl rfl ?_
  refine zs_Kca [] [.ref n, .ref p] rfl rfl (Nat.le_of_ble_eq_true rfl) (Nat.le_of_ble_eq_true rfl) (EV_le (Nat.le_of_ble_eq_true rfl) (zs_IYard x3 l1 (zs_le (k := 1) hl (Nat.le_of_ble_eq_true rfl)))) ?_
  rintro v M' ⟨rfl, rfl⟩
  have l4 := zs_Yard_len (p := n) (m := n + 8) l1 rfl
  have x5 := zs_Yard_sh (p := n) (n := n + 1) x2
  have x6 := zs_Yard_sh (p := n) (n := n + 1) x3
  refine zs_Kpr (i := 0) rfl x5 rfl rfl rfl ?_
  have l7 := zs_ln2 (a := p) (b := 0) (c := n) l4
  have x8 := zs_sh2 (a := p) (b := 0) (c := n) x5
  have x9 := zs_sh2 (a := p) (b := 0) (c := n) x6
  refine K_aload_n rfl 0 rfl ?_
  refine K_aload_n rfl 1 rfl ?_
  refine zs_Kpr (i := 1) rfl x8 rfl rfl rfl ?_
  have l10 := zs_ln2 (a := p) (b := 1) (c := t) l7
  have x11 := zs_sh2 (a := p) (b := 1) (c := t) x8
  exact K_vret rfl rfl ⟨rfl, rfl⟩
def zs_RRd (p n t : Nat) (E : List Ev4) : List Ev4 := ((2, p, 1, n) :: (zs_Rule n (n + 1) ((0, 3, 7, n) :: ((2, p, 0, t) :: E))))
set_option maxRecDepth 20000 in
theorem zs_RRd_len {p n m t : Nat} {E : List Ev4} (hn : (zs_M E).1.length = n) (hm : n + 6 = m) : (zs_M (zs_RRd p n t E)).1.length = m := by
  subst hm
  unfold zs_RRd
  exact (zs_ln2 (zs_Rule_len (zs_ln0 (zs_ln2 hn) rfl) rfl))
set_option maxRecDepth 20000 in
theorem zs_RRd_sh {p n q t : Nat} {s : Nat × Nat} {E : List Ev4} (h : (zs_M E).1[q]? = some s) : (zs_M (zs_RRd p n t E)).1[q]? = some s := by
  unfold zs_RRd
  exact (zs_sh2 (zs_Rule_sh (zs_sh0 (zs_sh2 h))))
set_option maxRecDepth 20000 in
theorem zs_RRd_H {p n q i v t : Nat} {s : Nat × Nat} {E : List Ev4} (hn : (zs_M E).1.length = n) (hne : p ≠ q) (h : zs_H E q s i v) : zs_H (zs_RRd p n t E) q s i v := by
  have hq := zs_lt hn h
  unfold zs_RRd
  exact (zs_H2 (Or.inl (by omega)) (zs_Rule_H (zs_ln0 (zs_ln2 hn) rfl) (by omega) (zs_H0 (zs_H2 (Or.inl (by omega)) h))))
set_option maxRecDepth 20000 in
theorem zs_IRRd {X : mX} {p n t : Nat} {E : List Ev4} (hp : (zs_M E).1[p]? = some (4, 3)) (hn : (zs_M E).1.length = n) (hl : n ≤ 500) : EV X 2 4 [.ref p, .ref t] (zs_M E) (fun v M' => v = none ∧ M' = zs_M (zs_RRd p n t E)) := by
  have hpn := zs_ltp hn hp
  refine EV_of (lc := [(0, .ref p), (1, .ref t)]) (Nat.le_of_ble_eq_true rfl) (by exact Nat.le_of_ble_eq_true rfl) (by exact List.forall_mem_cons.mpr ⟨rfl, List.forall_mem_cons.mpr ⟨rfl, fun _ h => absurd h List.not_mem_nil⟩⟩) ?_
  refine K_aload_n rfl 0 rfl ?_
  refine zs_Koi rfl (Nat.le_of_ble_eq_true rfl) ?_
  refine K_aload_n rfl 0 rfl ?_
  refine K_aload_n rfl 1 rfl ?_
  refine zs_Kpr (i := 0) rfl hp rfl rfl rfl ?_
  have l1 := zs_ln2 (a := p) (b := 0) (c := t) hn
  have x2 := zs_sh2 (a := p) (b := 0) (c := t) hp
  refine K_aload_n rfl 0 rfl ?_
  refine zs_Knew (n := n) (s := 7) rfl l1 (zs_le (k := 0) hl (Nat.le_of_ble_eq_true rfl)) rfl ?_
  have l3 := zs_ln0 (a := 3) (b := 7) (c := n) (m := n + 1) l1 rfl
  have x4 := zs_sh0 (a := 3) (b := 7) (c := n) x2
  have x5 := zs_new (a := 3) (b := 7) (c := n) l1
  refine K_dup rfl rfl ?_
  refine zs_Kca [] [.ref n, .ref p] rfl rfl (Nat.le_of_ble_eq_true rfl) (Nat.le_of_ble_eq_true rfl) (EV_le (Nat.le_of_ble_eq_true rfl) (zs_IRule x5 l3 (zs_le (k := 1) hl (Nat.le_of_ble_eq_true rfl)))) ?_
  rintro v M' ⟨rfl, rfl⟩
  have l6 := zs_Rule_len (p := n) (m := n + 6) l3 rfl
  have x7 := zs_Rule_sh (p := n) (n := n + 1) x4
  have x8 := zs_Rule_sh (p := n) (n := n + 1) x5
  refine zs_Kpr (i := 1) rfl x7 rfl rfl rfl ?_
  have l9 := zs_ln2 (a := p) (b := 1) (c := n) l6
  have x10 := zs_sh2 (a := p) (b := 1) (c := n) x7
  have x11 := zs_sh2 (a := p) (b := 1) (c := n) x8
  exact K_vret rfl rfl ⟨rfl, rfl⟩
def zs_Model (p n : Nat) (E : List Ev4) : List Ev4 := ((2, p, 39, n + 19) :: ((0, 22, 4, n + 19) :: ((2, p, 38, n + 18) :: ((0, 20, 4, n + 18) :: ((2, p, 37, n + 17) :: ((0, 20, 4, n + 17) :: ((2, p, 36, n + 16) :: ((0, 20, 904, n + 16) :: ((2, p, 34, n + 15) :: ((0, 20, 210, n + 15) :: ((2, p, 32, n + 14) :: ((0, 20, 1024, n + 14) :: ((2, p, 31, n + 13) :: ((0, 20, 131, n + 13) :: ((2, p, 29, n + 12) :: ((0, 20, 2620, n + 12) :: ((2, p, 27, n + 11) :: ((0, 20, 11, n + 11) :: ((2, p, 23, n + 10) :: ((0, 20, 11, n + 10) :: ((1, p, 21, 0) :: ((2, p, 20, n + 9) :: ((0, 20, 226, n + 9) :: ((2, p, 19, n + 8) :: ((0, 23, 12, n + 8) :: ((2, p, 17, n + 7) :: ((0, 23, 64, n + 7) :: ((2, p, 15, n + 6) :: ((0, 20, 400, n + 6) :: ((2, p, 7, n + 5) :: ((0, 20, 155, n + 5) :: ((2, p, 6, n + 4) :: ((0, 20, 6, n + 4) :: ((2, p, 5, n + 3) :: ((0, 20, 288, n + 3) :: ((2, p, 4, n + 2) :: ((0, 20, 7, n + 2) :: ((2, p, 3, n + 1) :: ((0, 20, 2400, n + 1) :: ((2, p, 0, n) :: ((0, 21, 400, n) :: E)))))))))))))))))))))))))))))))))))))))))
set_option maxRecDepth 20000 in
theorem zs_Model_len {p n m : Nat} {E : List Ev4} (hn : (zs_M E).1.length = n) (hm : n + 20 = m) : (zs_M (zs_Model p n E)).1.length = m := by
  subst hm
  unfold zs_Model
  exact (zs_ln2 (zs_ln0 (zs_ln2 (zs_ln0 (zs_ln2 (zs_ln0 (zs_ln2 (zs_ln0 (zs_ln2 (zs_ln0 (zs_ln2 (zs_ln0 (zs_ln2 (zs_ln0 (zs_ln2 (zs_ln0 (zs_ln2 (zs_ln0 (zs_ln2 (zs_ln0 (zs_ln1 (zs_ln2 (zs_ln0 (zs_ln2 (zs_ln0 (zs_ln2 (zs_ln0 (zs_ln2 (zs_ln0 (zs_ln2 (zs_ln0 (zs_ln2 (zs_ln0 (zs_ln2 (zs_ln0 (zs_ln2 (zs_ln0 (zs_ln2 (zs_ln0 (zs_ln2 (zs_ln0 hn rfl)) rfl)) rfl)) rfl)) rfl)) rfl)) rfl)) rfl)) rfl)) rfl))) rfl)) rfl)) rfl)) rfl)) rfl)) rfl)) rfl)) rfl)) rfl)) rfl))
set_option maxRecDepth 20000 in
theorem zs_Model_sh {p n q : Nat} {s : Nat × Nat} {E : List Ev4} (h : (zs_M E).1[q]? = some s) : (zs_M (zs_Model p n E)).1[q]? = some s := by
  unfold zs_Model
  exact (zs_sh2 (zs_sh0 (zs_sh2 (zs_sh0 (zs_sh2 (zs_sh0 (zs_sh2 (zs_sh0 (zs_sh2 (zs_sh0 (zs_sh2 (zs_sh0 (zs_sh2 (zs_sh0 (zs_sh2 (zs_sh0 (zs_sh2 (zs_sh0 (zs_sh2 (zs_sh0 (zs_sh1 (zs_sh2 (zs_sh0 (zs_sh2 (zs_sh0 (zs_sh2 (zs_sh0 (zs_sh2 (zs_sh0 (zs_sh2 (zs_sh0 (zs_sh2 (zs_sh0 (zs_sh2 (zs_sh0 (zs_sh2 (zs_sh0 (zs_sh2 (zs_sh0 (zs_sh2 (zs_sh0 h)))))))))))))))))))))))))))))))))))))))))
set_option maxRecDepth 20000 in
theorem zs_Model_H {p n q i v : Nat} {s : Nat × Nat} {E : List Ev4} (hn : (zs_M E).1.length = n) (hne : p ≠ q) (h : zs_H E q s i v) : zs_H (zs_Model p n E) q s i v := by
  have hq := zs_lt hn h
  unfold zs_Model
  exact (zs_H2 (Or.inl (by omega)) (zs_H0 (zs_H2 (Or.inl (by omega)) (zs_H0 (zs_H2 (Or.inl (by omega)) (zs_H0 (zs_H2 (Or.inl (by omega)) (zs_H0 (zs_H2 (Or.inl (by omega)) (zs_H0 (zs_H2 (Or.inl (by omega)) (zs_H0 (zs_H2 (Or.inl (by omega)) (zs_H0 (zs_H2 (Or.inl (by omega)) (zs_H0 (zs_H2 (Or.inl (by omega)) (zs_H0 (zs_H2 (Or.inl (by omega)) (zs_H0 (zs_H1 (zs_H2 (Or.inl (by omega)) (zs_H0 (zs_H2 (Or.inl (by omega)) (zs_H0 (zs_H2 (Or.inl (by omega)) (zs_H0 (zs_H2 (Or.inl (by omega)) (zs_H0 (zs_H2 (Or.inl (by omega)) (zs_H0 (zs_H2 (Or.inl (by omega)) (zs_H0 (zs_H2 (Or.inl (by omega)) (zs_H0 (zs_H2 (Or.inl (by omega)) (zs_H0 (zs_H2 (Or.inl (by omega)) (zs_H0 (zs_H2 (Or.inl (by omega)) (zs_H0 h)))))))))))))))))))))))))))))))))))))))))
set_option maxRecDepth 20000 in
theorem zs_IModel {X : mX} {p n : Nat} {E : List Ev4} (hp : (zs_M E).1[p]? = some (12, 40)) (hn : (zs_M E).1.length = n) (hl : n ≤ 600) : EV X 1 137 [.ref p] (zs_M E) (fun v M' => v = none ∧ M' = zs_M (zs_Model p n E)) := by
  have hpn := zs_ltp hn hp
  refine EV_of (lc := [(0, .ref p)]) (Nat.le_of_ble_eq_true rfl) (by exact Nat.le_of_ble_eq_true rfl) (by exact List.forall_mem_cons.mpr ⟨rfl, fun _ h => absurd h List.not_mem_nil⟩) ?_
  refine K_aload_n rfl 0 rfl ?_
  refine zs_Koi rfl (Nat.le_of_ble_eq_true rfl) ?_
  refine K_aload_n rfl 0 rfl ?_
  refine K_sipush (v := 400) rfl (by decide) ?_
  refine zs_Kna (n := n) (s := 400) rfl hn (zs_le (k := 0) hl (Nat.le_of_ble_eq_true rfl)) (by decide) (by decide) (by decide) ?_
  have l1 := zs_ln0 (a := 21) (b := 400) (c := n) (m := n + 1) hn rfl
  have x2 := zs_sh0 (a := 21) (b := 400) (c := n) hp
  have x3 := zs_new (a := 21) (b := 400) (c := n) hn
  refine zs_Kpr (i := 0) rfl x2 rfl rfl rfl ?_
  have l4 := zs_ln2 (a := p) (b := 0) (c := n) l1
  have x5 := zs_sh2 (a := p) (b := 0) (c := n) x2
  have x6 := zs_sh2 (a := p) (b := 0) (c := n) x3
  refine K_aload_n rfl 0 rfl ?_
  refine K_sipush (v := 2400) rfl (by decide) ?_
  refine zs_Kna (n := n + 1) (s := 2400) rfl l4 (zs_le (k := 1) hl (Nat.le_of_ble_eq_true rfl)) (by decide) (by decide) (by decide) ?_
  have l7 := zs_ln0 (a := 20) (b := 2400) (c := n + 1) (m := n + 2) l4 rfl
  have x8 := zs_sh0 (a := 20) (b := 2400) (c := n + 1) x5
  have x9 := zs_new (a := 20) (b := 2400) (c := n + 1) l4
  refine zs_Kpr (i := 3) rfl x8 rfl rfl rfl ?_
  have l10 := zs_ln2 (a := p) (b := 3) (c := n + 1) l7
  have x11 := zs_sh2 (a := p) (b := 3) (c := n + 1) x8
  have x12 := zs_sh2 (a := p) (b := 3) (c := n + 1) x9
  refine K_aload_n rfl 0 rfl ?_
  refine K_bipush (v := 7) rfl (by decide) ?_
  refine zs_Kna (n := n + 2) (s := 7) rfl l10 (zs_le (k := 2) hl (Nat.le_of_ble_eq_true rfl)) (by decide) (by decide) (by decide) ?_
  have l13 := zs_ln0 (a := 20) (b := 7) (c := n + 2) (m := n + 3) l10 rfl
  have x14 := zs_sh0 (a := 20) (b := 7) (c := n + 2) x11
  have x15 := zs_new (a := 20) (b := 7) (c := n + 2) l10
  refine zs_Kpr (i := 4) rfl x14 rfl rfl rfl ?_
  have l16 := zs_ln2 (a := p) (b := 4) (c := n + 2) l13
  have x17 := zs_sh2 (a := p) (b := 4) (c := n + 2) x14
  have x18 := zs_sh2 (a := p) (b := 4) (c := n + 2) x15
  refine K_aload_n rfl 0 rfl ?_
  refine K_sipush (v := 288) rfl (by decide) ?_
  refine zs_Kna (n := n + 3) (s := 288) rfl l16 (zs_le (k := 3) hl (Nat.le_of_ble_eq_true rfl)) (by decide) (by decide) (by decide) ?_
  have l19 := zs_ln0 (a := 20) (b := 288) (c := n + 3) (m := n + 4) l16 rfl
  have x20 := zs_sh0 (a := 20) (b := 288) (c := n + 3) x17
  have x21 := zs_new (a := 20) (b := 288) (c := n + 3) l16
  refine zs_Kpr (i := 5) rfl x20 rfl rfl rfl ?_
  have l22 := zs_ln2 (a := p) (b := 5) (c := n + 3) l19
  have x23 := zs_sh2 (a := p) (b := 5) (c := n + 3) x20
  have x24 := zs_sh2 (a := p) (b := 5) (c := n + 3) x21
  refine K_aload_n rfl 0 rfl ?_
  refine K_bipush (v := 6) rfl (by decide) ?_
  refine zs_Kna (n := n + 4) (s := 6) rfl l22 (zs_le (k := 4) hl (Nat.le_of_ble_eq_true rfl)) (by decide) (by decide) (by decide) ?_
  have l25 := zs_ln0 (a := 20) (b := 6) (c := n + 4) (m := n + 5) l22 rfl
  have x26 := zs_sh0 (a := 20) (b := 6) (c := n + 4) x23
  have x27 := zs_new (a := 20) (b := 6) (c := n + 4) l22
  refine zs_Kpr (i := 6) rfl x26 rfl rfl rfl ?_
  have l28 := zs_ln2 (a := p) (b := 6) (c := n + 4) l25
  have x29 := zs_sh2 (a := p) (b := 6) (c := n + 4) x26
  have x30 := zs_sh2 (a := p) (b := 6) (c := n + 4) x27
  refine K_aload_n rfl 0 rfl ?_
  refine K_sipush (v := 155) rfl (by decide) ?_
  refine zs_Kna (n := n + 5) (s := 155) rfl l28 (zs_le (k := 5) hl (Nat.le_of_ble_eq_true rfl)) (by decide) (by decide) (by decide) ?_
  have l31 := zs_ln0 (a := 20) (b := 155) (c := n + 5) (m := n + 6) l28 rfl
  have x32 := zs_sh0 (a := 20) (b := 155) (c := n + 5) x29
  have x33 := zs_new (a := 20) (b := 155) (c := n + 5) l28
  refine zs_Kpr (i := 7) rfl x32 rfl rfl rfl ?_
  have l34 := zs_ln2 (a := p) (b := 7) (c := n + 5) l31
  have x35 := zs_sh2 (a := p) (b := 7) (c := n + 5) x32
  have x36 := zs_sh2 (a := p) (b := 7) (c := n + 5) x33
  refine K_aload_n rfl 0 rfl ?_
  refine K_sipush (v := 400) rfl (by decide) ?_
  refine zs_Kna (n := n + 6) (s := 400) rfl l34 (zs_le (k := 6) hl (Nat.le_of_ble_eq_true rfl)) (by decide) (by decide) (by decide) ?_
  have l37 := zs_ln0 (a := 20) (b := 400) (c := n + 6) (m := n + 7) l34 rfl
  have x38 := zs_sh0 (a := 20) (b := 400) (c := n + 6) x35
  have x39 := zs_new (a := 20) (b := 400) (c := n + 6) l34
  refine zs_Kpr (i := 15) rfl x38 rfl rfl rfl ?_
  have l40 := zs_ln2 (a := p) (b := 15) (c := n + 6) l37
  have x41 := zs_sh2 (a := p) (b := 15) (c := n + 6) x38
  have x42 := zs_sh2 (a := p) (b := 15) (c := n + 6) x39
  refine K_aload_n rfl 0 rfl ?_
  refine K_bipush (v := 64) rfl (by decide) ?_
  refine zs_Kna (n := n + 7) (s := 64) rfl l40 (zs_le (k := 7) hl (Nat.le_of_ble_eq_true rfl)) (by decide) (by decide) (by decide) ?_
  have l43 := zs_ln0 (a := 23) (b := 64) (c := n + 7) (m := n + 8) l40 rfl
  have x44 := zs_sh0 (a := 23) (b := 64) (c := n + 7) x41
  have x45 := zs_new (a := 23) (b := 64) (c := n + 7) l40
  refine zs_Kpr (i := 17) rfl x44 rfl rfl rfl ?_
  have l46 := zs_ln2 (a := p) (b := 17) (c := n + 7) l43
  have x47 := zs_sh2 (a := p) (b := 17) (c := n + 7) x44
  have x48 := zs_sh2 (a := p) (b := 17) (c := n + 7) x45
  refine K_aload_n rfl 0 rfl ?_
  refine K_bipush (v := 12) rfl (by decide) ?_
  refine zs_Kna (n := n + 8) (s := 12) rfl l46 (zs_le (k := 8) hl (Nat.le_of_ble_eq_true rfl)) (by decide) (by decide) (by decide) ?_
  have l49 := zs_ln0 (a := 23) (b := 12) (c := n + 8) (m := n + 9) l46 rfl
  have x50 := zs_sh0 (a := 23) (b := 12) (c := n + 8) x47
  have x51 := zs_new (a := 23) (b := 12) (c := n + 8) l46
  refine zs_Kpr (i := 19) rfl x50 rfl rfl rfl ?_
  have l52 := zs_ln2 (a := p) (b := 19) (c := n + 8) l49
  have x53 := zs_sh2 (a := p) (b := 19) (c := n + 8) x50
  have x54 := zs_sh2 (a := p) (b := 19) (c := n + 8) x51
  refine K_aload_n rfl 0 rfl ?_
  refine K_sipush (v := 226) rfl (by decide) ?_
  refine zs_Kna (n := n + 9) (s := 226) rfl l52 (zs_le (k := 9) hl (Nat.le_of_ble_eq_true rfl)) (by decide) (by decide) (by decide) ?_
  have l55 := zs_ln0 (a := 20) (b := 226) (c := n + 9) (m := n + 10) l52 rfl
  have x56 := zs_sh0 (a := 20) (b := 226) (c := n + 9) x53
  have x57 := zs_new (a := 20) (b := 226) (c := n + 9) l52
  refine zs_Kpr (i := 20) rfl x56 rfl rfl rfl ?_
  have l58 := zs_ln2 (a := p) (b := 20) (c := n + 9) l55
  have x59 := zs_sh2 (a := p) (b := 20) (c := n + 9) x56
  have x60 := zs_sh2 (a := p) (b := 20) (c := n + 9) x57
  refine K_aload_n rfl 0 rfl ?_
  refine K_iconst (v := (-1)) rfl (by decide) ?_
  refine zs_Kpi (i := 21) rfl x59 rfl rfl rfl ?_
  have l61 := zs_ln1 (a := p) (b := 21) (c := 0) l58
  have x62 := zs_sh1 (a := p) (b := 21) (c := 0) x59
  refine K_aload_n rfl 0 rfl ?_
  refine K_bipush (v := 11) rfl (by decide) ?_
  refine zs_Kna (n := n + 10) (s := 11) rfl l61 (zs_le (k := 10) hl (Nat.le_of_ble_eq_true rfl)) (by decide) (by decide) (by decide) ?_
  have l63 := zs_ln0 (a := 20) (b := 11) (c := n + 10) (m := n + 11) l61 rfl
  have x64 := zs_sh0 (a := 20) (b := 11) (c := n + 10) x62
  have x65 := zs_new (a := 20) (b := 11) (c := n + 10) l61
  refine zs_Kpr (i := 23) rfl x64 rfl rfl rfl ?_
  have l66 := zs_ln2 (a := p) (b := 23) (c := n + 10) l63
  have x67 := zs_sh2 (a := p) (b := 23) (c := n + 10) x64
  have x68 := zs_sh2 (a := p) (b := 23) (c := n + 10) x65
  refine K_aload_n rfl 0 rfl ?_
  refine K_bipush (v := 11) rfl (by decide) ?_
  refine zs_Kna (n := n + 11) (s := 11) rfl l66 (zs_le (k := 11) hl (Nat.le_of_ble_eq_true rfl)) (by decide) (by decide) (by decide) ?_
  have l69 := zs_ln0 (a := 20) (b := 11) (c := n + 11) (m := n + 12) l66 rfl
  have x70 := zs_sh0 (a := 20) (b := 11) (c := n + 11) x67
  have x71 := zs_new (a := 20) (b := 11) (c := n + 11) l66
  refine zs_Kpr (i := 27) rfl x70 rfl rfl rfl ?_
  have l72 := zs_ln2 (a := p) (b := 27) (c := n + 11) l69
  have x73 := zs_sh2 (a := p) (b := 27) (c := n + 11) x70
  have x74 := zs_sh2 (a := p) (b := 27) (c := n + 11) x71
  refine K_aload_n rfl 0 rfl ?_
  refine K_sipush (v := 2620) rfl (by decide) ?_
  refine zs_Kna (n := n + 12) (s := 2620) rfl l72 (zs_le (k := 12) hl (Nat.le_of_ble_eq_true rfl)) (by decide) (by decide) (by decide) ?_
  have l75 := zs_ln0 (a := 20) (b := 2620) (c := n + 12) (m := n + 13) l72 rfl
  have x76 := zs_sh0 (a := 20) (b := 2620) (c := n + 12) x73
  have x77 := zs_new (a := 20) (b := 2620) (c := n + 12) l72
  refine zs_Kpr (i := 29) rfl x76 rfl rfl rfl ?_
  have l78 := zs_ln2 (a := p) (b := 29) (c := n + 12) l75
  have x79 := zs_sh2 (a := p) (b := 29) (c := n + 12) x76
  have x80 := zs_sh2 (a := p) (b := 29) (c := n + 12) x77
  refine K_aload_n rfl 0 rfl ?_
  refine K_sipush (v := 131) rfl (by decide) ?_
  refine zs_Kna (n := n + 13) (s := 131) rfl l78 (zs_le (k := 13) hl (Nat.le_of_ble_eq_true rfl)) (by decide) (by decide) (by decide) ?_
  have l81 := zs_ln0 (a := 20) (b := 131) (c := n + 13) (m := n + 14) l78 rfl
  have x82 := zs_sh0 (a := 20) (b := 131) (c := n + 13) x79
  have x83 := zs_new (a := 20) (b := 131) (c := n + 13) l78
  refine zs_Kpr (i := 31) rfl x82 rfl rfl rfl ?_
  have l84 := zs_ln2 (a := p) (b := 31) (c := n + 13) l81
  have x85 := zs_sh2 (a := p) (b := 31) (c := n + 13) x82
  have x86 := zs_sh2 (a := p) (b := 31) (c := n + 13) x83
  refine K_aload_n rfl 0 rfl ?_
  refine K_sipush (v := 1024) rfl (by decide) ?_
  refine zs_Kna (n := n + 14) (s := 1024) rfl l84 (zs_le (k := 14) hl (Nat.le_of_ble_eq_true rfl)) (by decide) (by decide) (by decide) ?_
  have l87 := zs_ln0 (a := 20) (b := 1024) (c := n + 14) (m := n + 15) l84 rfl
  have x88 := zs_sh0 (a := 20) (b := 1024) (c := n + 14) x85
  have x89 := zs_new (a := 20) (b := 1024) (c := n + 14) l84
  refine zs_Kpr (i := 32) rfl x88 rfl rfl rfl ?_
  have l90 := zs_ln2 (a := p) (b := 32) (c := n + 14) l87
  have x91 := zs_sh2 (a := p) (b := 32) (c := n + 14) x88
  have x92 := zs_sh2 (a := p) (b := 32) (c := n + 14) x89
  refine K_aload_n rfl 0 rfl ?_
  refine K_sipush (v := 210) rfl (by decide) ?_
  refine zs_Kna (n := n + 15) (s := 210) rfl l90 (zs_le (k := 15) hl (Nat.le_of_ble_eq_true rfl)) (by decide) (by decide) (by decide) ?_
  have l93 := zs_ln0 (a := 20) (b := 210) (c := n + 15) (m := n + 16) l90 rfl
  have x94 := zs_sh0 (a := 20) (b := 210) (c := n + 15) x91
  have x95 := zs_new (a := 20) (b := 210) (c := n + 15) l90
  refine zs_Kpr (i := 34) rfl x94 rfl rfl rfl ?_
  have l96 := zs_ln2 (a := p) (b := 34) (c := n + 15) l93
  have x97 := zs_sh2 (a := p) (b := 34) (c := n + 15) x94
  have x98 := zs_sh2 (a := p) (b := 34) (c := n + 15) x95
  refine K_aload_n rfl 0 rfl ?_
  refine K_sipush (v := 904) rfl (by decide) ?_
  refine zs_Kna (n := n + 16) (s := 904) rfl l96 (zs_le (k := 16) hl (Nat.le_of_ble_eq_true rfl)) (by decide) (by decide) (by decide) ?_
  have l99 := zs_ln0 (a := 20) (b := 904) (c := n + 16) (m := n + 17) l96 rfl
  have x100 := zs_sh0 (a := 20) (b := 904) (c := n + 16) x97
  have x101 := zs_new (a := 20) (b := 904) (c := n + 16) l96
  refine zs_Kpr (i := 36) rfl x100 rfl rfl rfl ?_
  have l102 := zs_ln2 (a := p) (b := 36) (c := n + 16) l99
  have x103 := zs_sh2 (a := p) (b := 36) (c := n + 16) x100
  have x104 := zs_sh2 (a := p) (b := 36) (c := n + 16) x101
  refine K_aload_n rfl 0 rfl ?_
  refine K_iconst (v := 4) rfl (by decide) ?_
  refine zs_Kna (n := n + 17) (s := 4) rfl l102 (zs_le (k := 17) hl (Nat.le_of_ble_eq_true rfl)) (by decide) (by decide) (by decide) ?_
  have l105 := zs_ln0 (a := 20) (b := 4) (c := n + 17) (m := n + 18) l102 rfl
  have x106 := zs_sh0 (a := 20) (b := 4) (c := n + 17) x103
  have x107 := zs_new (a := 20) (b := 4) (c := n + 17) l102
  refine zs_Kpr (i := 37) rfl x106 rfl rfl rfl ?_
  have l108 := zs_ln2 (a := p) (b := 37) (c := n + 17) l105
  have x109 := zs_sh2 (a := p) (b := 37) (c := n + 17) x106
  have x110 := zs_sh2 (a := p) (b := 37) (c := n + 17) x107
  refine K_aload_n rfl 0 rfl ?_
  refine K_iconst (v := 4) rfl (by decide) ?_
  refine zs_Kna (n := n + 18) (s := 4) rfl l108 (zs_le (k := 18) hl (Nat.le_of_ble_eq_true rfl)) (by decide) (by decide) (by decide) ?_
  have l111 := zs_ln0 (a := 20) (b := 4) (c := n + 18) (m := n + 19) l108 rfl
  have x112 := zs_sh0 (a := 20) (b := 4) (c := n + 18) x109
  have x113 := zs_new (a := 20) (b := 4) (c := n + 18) l108
  refine zs_Kpr (i := 38) rfl x112 rfl rfl rfl ?_
  have l114 := zs_ln2 (a := p) (b := 38) (c := n + 18) l111
  have x115 := zs_sh2 (a := p) (b := 38) (c := n + 18) x112
  have x116 := zs_sh2 (a := p) (b := 38) (c := n + 18) x113
  refine K_aload_n rfl 0 rfl ?_
  refine K_iconst (v := 4) rfl (by decide) ?_
  refine zs_Kna (n := n + 19) (s := 4) rfl l114 (zs_le (k := 19) hl (Nat.le_of_ble_eq_true rfl)) (by decide) (by decide) (by decide) ?_
  have l117 := zs_ln0 (a := 22) (b := 4) (c := n + 19) (m := n + 20) l114 rfl
  have x118 := zs_sh0 (a := 22) (b := 4) (c := n + 19) x115
  have x119 := zs_new (a := 22) (b := 4) (c := n + 19) l114
  refine zs_Kpr (i := 39) rfl x118 rfl rfl rfl ?_
  have l120 := zs_ln2 (a := p) (b := 39) (c := n + 19) l117
  have x121 := zs_sh2 (a := p) (b := 39) (c := n + 19) x118
  have x122 := zs_sh2 (a := p) (b := 39) (c := n + 19) x119
  exact K_vret rfl rfl ⟨rfl, rfl⟩
def zs_lState (A n : Nat) (E : List Ev4) : Nat → List Ev4
  | 0 => E
  | i + 1 => (2, A, i, n + 10 * i) :: zs_State (n + 10 * i) (n + 10 * i + 1) ((0, 7, 12, n + 10 * i) :: zs_lState A n E i)
theorem zs_lState_len {A n : Nat} {E : List Ev4} (hn : (zs_M E).1.length = n) : ∀ i, (zs_M (zs_lState A n E i)).1.length = n + 10 * i
  | 0 => hn
  | i + 1 => zs_ln2 (zs_State_len (zs_ln0 (zs_lState_len hn i) rfl) (by omega))
theorem zs_lState_sh {A n q : Nat} {s : Nat × Nat} {E : List Ev4} (h : (zs_M E).1[q]? = some s) : ∀ i, (zs_M (zs_lState A n E i)).1[q]? = some s
  | 0 => h
  | i + 1 => zs_sh2 (zs_State_sh (zs_sh0 (zs_lState_sh h i)))
theorem zs_lState_H {A n q j v : Nat} {s : Nat × Nat} {E : List Ev4} (hn : (zs_M E).1.length = n) (hA : A ≠ q) (h : zs_H E q s j v) : ∀ i, zs_H (zs_lState A n E i) q s j v
  | 0 => h
  | i + 1 => zs_H2 (Or.inl hA) (zs_State_H (zs_ln0 (zs_lState_len hn i) rfl) (by have := zs_lt hn h; omega) (zs_H0 (zs_lState_H hn hA h i)))
set_option maxRecDepth 20000 in
theorem zs_L9_15 {X : mX} {p A n : Nat} {E : List Ev4} {Q : Option Value → mM → Prop} (hH : zs_H E p (1, 3) 2 A) (hA : (zs_M E).1[A]? = some (26, 20)) (hAp : A ≠ p) (hn : (zs_M E).1.length = n) (hAn : A < n) (hl : n ≤ 400) (kk : KK X 1 9 43 [(0, .ref p), (1, .int (i32 20))] [] (zs_M (zs_lState A n E 20)) Q) : ∀ (r i : Nat), i + r = 20 → KK X 1 9 15 [(0, .ref p), (1, .int (i32 i))] [] (zs_M (zs_lState A n E i)) Q
  | 0, i, hi => by
    have hi2 : i = 20 := by omega
    have hi3 : 20 ≤ i := by omega
    have hA9 : A ≤ 999 := by omega
    have ha1 : i < 2147483648 := by omega
    have hln := zs_lState_len (A := A) hn i
    have hH1 := zs_lState_H hn hAp hH i
    have hA1 := zs_lState_sh (A := A) (n := n) hA i
    refine K_iload_n rfl 1 rfl ?_
    refine K_aload_n rfl 0 rfl ?_
    refine zs_Kgr (i := 2) rfl hH1 rfl rfl rfl ?_
    refine K_alen (v := i32 20) rfl hA1 ⟨by decide, by decide⟩ (zs_ne hA9) rfl ?_
    refine K_ic_ge rfl (fun _ => ?_) (fun c => ?_)
    · subst hi2
      exact kk
    · refine absurd ?_ c
      rw [i32_le (a := 20) (b := i) (by decide) ha1]
      exact hi3
  | r + 1, i, hi => by
    have hi2 : ¬ 20 ≤ i := by omega
    have hi3 : i < 20 := by omega
    have hi4 : i + 1 + r = 20 := by omega
    have hb1 : n + 10 * i ≤ 999 := by omega
    have hb2 : n + 10 * i + 1 ≤ 600 := by omega
    have hA9 : A ≤ 999 := by omega
    have ha1 : i < 2147483648 := by omega
    have hln := zs_lState_len (A := A) hn i
    have hH1 := zs_lState_H hn hAp hH i
    have hA1 := zs_lState_sh (A := A) (n := n) hA i
    refine K_iload_n rfl 1 rfl ?_
    refine K_aload_n rfl 0 rfl ?_
    refine zs_Kgr (i := 2) rfl hH1 rfl rfl rfl ?_
    refine K_alen (v := i32 20) rfl hA1 ⟨by decide, by decide⟩ (zs_ne hA9) rfl ?_
    refine K_ic_ge rfl (fun c => ?_) (fun _ => ?_)
    · rw [i32_le (a := 20) (b := i) (by decide) ha1] at c
      exact absurd c hi2
    · refine K_aload_n rfl 0 rfl ?_
      refine zs_Kgr (i := 2) rfl hH1 rfl rfl rfl ?_
      refine K_iload_n rfl 1 rfl ?_
      refine zs_Knew (n := n + 10 * i) (s := 12) rfl hln hb1 rfl ?_
      refine K_dup rfl rfl ?_
      refine zs_Kca [] [.ref (n + 10 * i), .int (i32 i), .ref A] rfl rfl (Nat.le_of_ble_eq_true rfl) (Nat.le_of_ble_eq_true rfl) (EV_le (Nat.le_of_ble_eq_true rfl) (zs_IState (zs_new hln) (zs_ln0 hln rfl) hb2)) ?_
      rintro v M' ⟨rfl, rfl⟩
      refine zs_Kaa (i := i) rfl (zs_State_sh (zs_sh0 hA1)) ⟨by decide, by decide⟩ (zs_in hi3 (by decide)) (i32_cl ha1) (zs_State_sh (zs_new hln)) rfl ?_
      refine K_iinc (y := i32 (i + 1)) rfl 1 rfl (nadd_1 i) ?_
      refine K_goto rfl ?_
      refine K_pick [1, 0] ?_
      exact zs_L9_15 hH hA hAp hn hAn hl kk r (i + 1) hi4
def zs_Acts (p n : Nat) (E : List Ev4) : List Ev4 := zs_lState n (n + 1) ((2, p, 2, n) :: ((0, 26, 20, n) :: E)) 20
theorem zs_Acts_len {p n m : Nat} {E : List Ev4} (hn : (zs_M E).1.length = n) (hm : n + 201 = m) : (zs_M (zs_Acts p n E)).1.length = m := by
  subst hm
  unfold zs_Acts
  exact (zs_lState_len (zs_ln2 (zs_ln0 hn rfl)) 20).trans (by omega)
theorem zs_Acts_sh {p n q : Nat} {s : Nat × Nat} {E : List Ev4} (h : (zs_M E).1[q]? = some s) : (zs_M (zs_Acts p n E)).1[q]? = some s := zs_lState_sh (zs_sh2 (zs_sh0 h)) 20
theorem zs_Acts_H {p n q i v : Nat} {s : Nat × Nat} {E : List Ev4} (hn : (zs_M E).1.length = n) (hne : p ≠ q) (h : zs_H E q s i v) : zs_H (zs_Acts p n E) q s i v := by
  have hq := zs_lt hn h
  exact zs_lState_H (zs_ln2 (zs_ln0 hn rfl)) (by omega) (zs_H2 (Or.inl hne) (zs_H0 h)) 20
set_option maxRecDepth 20000 in
theorem zs_IActs {X : mX} {p n : Nat} {E : List Ev4} (hp : (zs_M E).1[p]? = some (1, 3)) (hn : (zs_M E).1.length = n) (hl : n ≤ 300) : EV X 2 9 [.ref p] (zs_M E) (fun v M' => v = none ∧ M' = zs_M (zs_Acts p n E)) := by
  have hpn := zs_ltp hn hp
  have hne : n ≠ p := by omega
  have hl1 : n + 1 ≤ 400 := by omega
  refine EV_of (lc := [(0, .ref p)]) (Nat.le_of_ble_eq_true rfl) (by exact Nat.le_of_ble_eq_true rfl) (by exact List.forall_mem_cons.mpr ⟨rfl, fun _ h => absurd h List.not_mem_nil⟩) ?_
  refine K_aload_n rfl 0 rfl ?_
  refine zs_Koi rfl (Nat.le_of_ble_eq_true rfl) ?_
  refine K_aload_n rfl 0 rfl ?_
  refine K_bipush (v := 20) rfl (by decide) ?_
  refine zs_Kan (n := n) (s := 20) rfl hn (zs_le (k := 0) hl (Nat.le_of_ble_eq_true rfl)) (by decide) (by decide) (by decide) ?_
  have l1 := zs_ln0 (a := 26) (b := 20) (c := n) (m := n + 1) hn rfl
  have x2 := zs_sh0 (a := 26) (b := 20) (c := n) hp
  have x3 := zs_new (a := 26) (b := 20) (c := n) hn
  refine zs_Kpr (i := 2) rfl x2 rfl rfl rfl ?_
  have l4 := zs_ln2 (a := p) (b := 2) (c := n) l1
  have x5 := zs_sh2 (a := p) (b := 2) (c := n) x2
  have x6 := zs_sh2 (a := p) (b := 2) (c := n) x3
  have y7 := zs_Hn (i := 2) (v := n) x2
  refine K_iconst (v := i32 0) rfl (by decide) ?_
  refine K_istore_n rfl ?_
  refine K_pick [1, 0] ?_
  refine zs_L9_15 (A := n) y7 x6 hne l4 (Nat.lt_succ_self n) hl1 ?_ 20 0 rfl
  exact K_vret rfl rfl ⟨rfl, rfl⟩
def zs_lRule (A n : Nat) (E : List Ev4) : Nat → List Ev4
  | 0 => E
  | i + 1 => (2, A, i, n + 6 * i) :: zs_Rule (n + 6 * i) (n + 6 * i + 1) ((0, 3, 7, n + 6 * i) :: zs_lRule A n E i)
theorem zs_lRule_len {A n : Nat} {E : List Ev4} (hn : (zs_M E).1.length = n) : ∀ i, (zs_M (zs_lRule A n E i)).1.length = n + 6 * i
  | 0 => hn
  | i + 1 => zs_ln2 (zs_Rule_len (zs_ln0 (zs_lRule_len hn i) rfl) (by omega))
theorem zs_lRule_sh {A n q : Nat} {s : Nat × Nat} {E : List Ev4} (h : (zs_M E).1[q]? = some s) : ∀ i, (zs_M (zs_lRule A n E i)).1[q]? = some s
  | 0 => h
  | i + 1 => zs_sh2 (zs_Rule_sh (zs_sh0 (zs_lRule_sh h i)))
theorem zs_lRule_H {A n q j v : Nat} {s : Nat × Nat} {E : List Ev4} (hn : (zs_M E).1.length = n) (hA : A ≠ q) (h : zs_H E q s j v) : ∀ i, zs_H (zs_lRule A n E i) q s j v
  | 0 => h
  | i + 1 => zs_H2 (Or.inl hA) (zs_Rule_H (zs_ln0 (zs_lRule_len hn i) rfl) (by have := zs_lt hn h; omega) (zs_H0 (zs_lRule_H hn hA h i)))
def zs_lWorld (A n : Nat) (E : List Ev4) : Nat → List Ev4
  | 0 => E
  | i + 1 => (2, A, i, n + 23 * i) :: zs_World (n + 23 * i) (n + 23 * i + 1) ((0, 9, 6, n + 23 * i) :: zs_lWorld A n E i)
theorem zs_lWorld_len {A n : Nat} {E : List Ev4} (hn : (zs_M E).1.length = n) : ∀ i, (zs_M (zs_lWorld A n E i)).1.length = n + 23 * i
  | 0 => hn
  | i + 1 => zs_ln2 (zs_World_len (zs_ln0 (zs_lWorld_len hn i) rfl) (by omega))
theorem zs_lWorld_sh {A n q : Nat} {s : Nat × Nat} {E : List Ev4} (h : (zs_M E).1[q]? = some s) : ∀ i, (zs_M (zs_lWorld A n E i)).1[q]? = some s
  | 0 => h
  | i + 1 => zs_sh2 (zs_World_sh (zs_sh0 (zs_lWorld_sh h i)))
theorem zs_lWorld_H {A n q j v : Nat} {s : Nat × Nat} {E : List Ev4} (hn : (zs_M E).1.length = n) (hA : A ≠ q) (h : zs_H E q s j v) : ∀ i, zs_H (zs_lWorld A n E i) q s j v
  | 0 => h
  | i + 1 => zs_H2 (Or.inl hA) (zs_World_H (zs_ln0 (zs_lWorld_len hn i) rfl) (by have := zs_lt hn h; omega) (zs_H0 (zs_lWorld_H hn hA h i)))
set_option maxRecDepth 20000 in
theorem zs_L0_130 {X : mX} {p A n : Nat} {E : List Ev4} {Q : Option Value → mM → Prop} (hH : zs_H E p (0, 12) 3 A) (hA : (zs_M E).1[A]? = some (24, 6)) (hAp : A ≠ p) (hn : (zs_M E).1.length = n) (hAn : A < n) (hl : n ≤ 400) (kk : KK X 4 0 158 [(0, .ref p), (1, .int (i32 6))] [] (zs_M (zs_lRule A n E 6)) Q) : ∀ (r i : Nat), i + r = 6 → KK X 4 0 130 [(0, .ref p), (1, .int (i32 i))] [] (zs_M (zs_lRule A n E i)) Q
  | 0, i, hi => by
    have hi2 : i = 6 := by omega
    have hi3 : 6 ≤ i := by omega
    have hA9 : A ≤ 999 := by omega
    have ha1 : i < 2147483648 := by omega
    have hln := zs_lRule_len (A := A) hn i
    have hH1 := zs_lRule_H hn hAp hH i
    have hA1 := zs_lRule_sh (A := A) (n := n) hA i
    refine K_iload_n rfl 1 rfl ?_
    refine K_aload_n rfl 0 rfl ?_
    refine zs_Kgr (i := 3) rfl hH1 rfl rfl rfl ?_
    refine K_alen (v := i32 6) rfl hA1 ⟨by decide, by decide⟩ (zs_ne hA9) rfl ?_
    refine K_ic_ge rfl (fun _ => ?_) (fun c => ?_)
    · subst hi2
      exact kk
    · refine absurd ?_ c
      rw [i32_le (a := 6) (b := i) (by decide) ha1]
      exact hi3
  | r + 1, i, hi => by
    have hi2 : ¬ 6 ≤ i := by omega
    have hi3 : i < 6 := by omega
    have hi4 : i + 1 + r = 6 := by omega
    have hb1 : n + 6 * i ≤ 999 := by omega
    have hb2 : n + 6 * i + 1 ≤ 600 := by omega
    have hA9 : A ≤ 999 := by omega
    have ha1 : i < 2147483648 := by omega
    have hln := zs_lRule_len (A := A) hn i
    have hH1 := zs_lRule_H hn hAp hH i
    have hA1 := zs_lRule_sh (A := A) (n := n) hA i
    refine K_iload_n rfl 1 rfl ?_
    refine K_aload_n rfl 0 rfl ?_
    refine zs_Kgr (i := 3) rfl hH1 rfl rfl rfl ?_
    refine K_alen (v := i32 6) rfl hA1 ⟨by decide, by decide⟩ (zs_ne hA9) rfl ?_
    refine K_ic_ge rfl (fun c => ?_) (fun _ => ?_)
    · rw [i32_le (a := 6) (b := i) (by decide) ha1] at c
      exact absurd c hi2
    · refine K_aload_n rfl 0 rfl ?_
      refine zs_Kgr (i := 3) rfl hH1 rfl rfl rfl ?_
      refine K_iload_n rfl 1 rfl ?_
      refine zs_Knew (n := n + 6 * i) (s := 7) rfl hln hb1 rfl ?_
      refine K_dup rfl rfl ?_
      refine zs_Kca [] [.ref (n + 6 * i), .int (i32 i), .ref A] rfl rfl (Nat.le_of_ble_eq_true rfl) (Nat.le_of_ble_eq_true rfl) (EV_le (Nat.le_of_ble_eq_true rfl) (zs_IRule (zs_new hln) (zs_ln0 hln rfl) hb2)) ?_
      rintro v M' ⟨rfl, rfl⟩
      refine zs_Kaa (i := i) rfl (zs_Rule_sh (zs_sh0 hA1)) ⟨by decide, by decide⟩ (zs_in hi3 (by decide)) (i32_cl ha1) (zs_Rule_sh (zs_new hln)) rfl ?_
      refine K_iinc (y := i32 (i + 1)) rfl 1 rfl (nadd_1 i) ?_
      refine K_goto rfl ?_
      refine K_pick [1, 0] ?_
      exact zs_L0_130 hH hA hAp hn hAn hl kk r (i + 1) hi4
set_option maxRecDepth 20000 in
theorem zs_L0_160 {X : mX} {p A n : Nat} {E : List Ev4} {Q : Option Value → mM → Prop} (hH : zs_H E p (0, 12) 6 A) (hA : (zs_M E).1[A]? = some (25, 4)) (hAp : A ≠ p) (hn : (zs_M E).1.length = n) (hAn : A < n) (hl : n ≤ 400) (kk : KK X 4 0 188 [(0, .ref p), (1, .int (i32 4))] [] (zs_M (zs_lWorld A n E 4)) Q) : ∀ (r i : Nat), i + r = 4 → KK X 4 0 160 [(0, .ref p), (1, .int (i32 i))] [] (zs_M (zs_lWorld A n E i)) Q
  | 0, i, hi => by
    have hi2 : i = 4 := by omega
    have hi3 : 4 ≤ i := by omega
    have hA9 : A ≤ 999 := by omega
    have ha1 : i < 2147483648 := by omega
    have hln := zs_lWorld_len (A := A) hn i
    have hH1 := zs_lWorld_H hn hAp hH i
    have hA1 := zs_lWorld_sh (A := A) (n := n) hA i
    refine K_iload_n rfl 1 rfl ?_
    refine K_aload_n rfl 0 rfl ?_
    refine zs_Kgr (i := 6) rfl hH1 rfl rfl rfl ?_
    refine K_alen (v := i32 4) rfl hA1 ⟨by decide, by decide⟩ (zs_ne hA9) rfl ?_
    refine K_ic_ge rfl (fun _ => ?_) (fun c => ?_)
    · subst hi2
      exact kk
    · refine absurd ?_ c
      rw [i32_le (a := 4) (b := i) (by decide) ha1]
      exact hi3
  | r + 1, i, hi => by
    have hi2 : ¬ 4 ≤ i := by omega
    have hi3 : i < 4 := by omega
    have hi4 : i + 1 + r = 4 := by omega
    have hb1 : n + 23 * i ≤ 999 := by omega
    have hb2 : n + 23 * i + 1 ≤ 500 := by omega
    have hA9 : A ≤ 999 := by omega
    have ha1 : i < 2147483648 := by omega
    have hln := zs_lWorld_len (A := A) hn i
    have hH1 := zs_lWorld_H hn hAp hH i
    have hA1 := zs_lWorld_sh (A := A) (n := n) hA i
    refine K_iload_n rfl 1 rfl ?_
    refine K_aload_n rfl 0 rfl ?_
    refine zs_Kgr (i := 6) rfl hH1 rfl rfl rfl ?_
    refine K_alen (v := i32 4) rfl hA1 ⟨by decide, by decide⟩ (zs_ne hA9) rfl ?_
    refine K_ic_ge rfl (fun c => ?_) (fun _ => ?_)
    · rw [i32_le (a := 4) (b := i) (by decide) ha1] at c
      exact absurd c hi2
    · refine K_aload_n rfl 0 rfl ?_
      refine zs_Kgr (i := 6) rfl hH1 rfl rfl rfl ?_
      refine K_iload_n rfl 1 rfl ?_
      refine zs_Knew (n := n + 23 * i) (s := 6) rfl hln hb1 rfl ?_
      refine K_dup rfl rfl ?_
      refine zs_Kca [] [.ref (n + 23 * i), .int (i32 i), .ref A] rfl rfl (Nat.le_of_ble_eq_true rfl) (Nat.le_of_ble_eq_true rfl) (EV_le (Nat.le_of_ble_eq_true rfl) (zs_IWorld (zs_new hln) (zs_ln0 hln rfl) hb2)) ?_
      rintro v M' ⟨rfl, rfl⟩
      refine zs_Kaa (i := i) rfl (zs_World_sh (zs_sh0 hA1)) ⟨by decide, by decide⟩ (zs_in hi3 (by decide)) (i32_cl ha1) (zs_World_sh (zs_new hln)) rfl ?_
      refine K_iinc (y := i32 (i + 1)) rfl 1 rfl (nadd_1 i) ?_
      refine K_goto rfl ?_
      refine K_pick [1, 0] ?_
      exact zs_L0_160 hH hA hAp hn hAn hl kk r (i + 1) hi4
def zs_Gra1 (p n : Nat) (E : List Ev4) : List Ev4 := ((2, p, 11, n + 297) :: (zs_State (n + 297) (n + 298) ((0, 7, 12, n + 297) :: ((2, p, 10, n + 289) :: (zs_Yard (n + 289) (n + 290) ((0, 10, 12, n + 289) :: ((2, p, 9, n + 268) :: (zs_Sets (n + 268) (n + 269) ((0, 5, 11, n + 268) :: ((2, p, 8, n + 245) :: (zs_Course (n + 245) (n + 246) ((0, 2, 12, n + 245) :: ((2, p, 7, n + 43) :: (zs_Acts (n + 43) (n + 44) ((0, 1, 3, n + 43) :: ((2, p, 6, n + 42) :: ((0, 25, 4, n + 42) :: ((2, p, 5, n + 19) :: (zs_World (n + 19) (n + 20) ((0, 9, 6, n + 19) :: ((2, p, 3, n + 18) :: ((0, 24, 6, n + 18) :: ((2, p, 2, n + 11) :: (zs_RRd (n + 11) (n + 12) n ((0, 4, 3, n + 11) :: ((2, p, 1, n + 2) :: (zs_YRd (n + 2) (n + 3) n ((0, 11, 2, n + 2) :: ((2, p, 0, n) :: (zs_Text n (n + 1) ((0, 8, 7, n) :: E)))))))))))))))))))))))))))))))
def zs_Grave (p n : Nat) (E : List Ev4) : List Ev4 := zs_lWorld (n + 42) (n + 343) (zs_lRule (n + 18) (n + 307) (zs_Gra1 p n E) 6) 4
set_option maxRecDepth 20000 in
theorem zs_Gra1_len {p n : Nat} {E : List Ev4} (hn : (zs_M E).1.length = n) : (zs_M (zs_Gra1 p n E)).1.length = n + 307 := by
  unfold zs_Gra1
  exact (zs_ln2 (zs_State_len (zs_ln0 (zs_ln2 (zs_Yard_len (zs_ln0 (zs_ln2 (zs_Sets_len (zs_ln0 (zs_ln2 (zs_Course_len (zs_ln0 (zs_ln2 (zs_Acts_len (zs_ln0 (zs_ln2 (zs_ln0 (zs_ln2 (zs_World_len (zs_ln0 (zs_ln2 (zs_ln0 (zs_ln2 (zs_RRd_len (zs_ln0 (zs_ln2 (zs_YRd_len (zs_ln0 (zs_ln2 (zs_Text_len (zs_ln0 hn rfl) rfl)) rfl) rfl)) rfl) rfl)) rfl)) rfl) rfl)) rfl)) rfl) rfl)) rfl) rfl)) rfl) rfl)) rfl) rfl)) rfl) rfl))
theorem zs_Grave_len {p n m : Nat} {E : List Ev4} (hn : (zs_M E).1.length = n) (hm : n + 435 = m) : (zs_M (zs_Grave p n E)).1.length = m := by
  subst hm
  exact (zs_lWorld_len ((zs_lRule_len (zs_Gra1_len hn) 6).trans (by omega)) 4).trans (by omega)
set_option maxRecDepth 20000 in
theorem zs_IGrave {X : mX} {p n : Nat} {E : List Ev4} (hp : (zs_M E).1[p]? = some (0, 12)) (hn : (zs_M E).1.length = n) (hl : n ≤ 50) : EV X 5 0 [.ref p] (zs_M E) (fun v M' => v = none ∧ M' = zs_M (zs_Grave p n E)) := by
  have hpn := zs_ltp hn hp
  have e1 : n + 18 ≠ p := by omega
  have e2 : n + 42 ≠ p := by omega
  have e3 : n + 18 < n + 307 := by omega
  have e4 : n + 307 ≤ 400 := by omega
  have e5 : n + 42 < n + 343 := by omega
  have e6 : n + 343 ≤ 400 := by omega
  have e7 : n + 307 + 6 * 6 = n + 343 := by omega
  refine EV_of (lc := [(0, .ref p)]) (Nat.le_of_ble_eq_true rfl) (by exact Nat.le_of_ble_eq_true rfl) (by exact List.forall_mem_cons.mpr ⟨rfl, fun _ h => absurd h List.not_mem_nil⟩) ?_
  refine K_aload_n rfl 0 rfl ?_
  refine zs_Koi rfl (Nat.le_of_ble_eq_true rfl) ?_
  refine K_aload_n rfl 0 rfl ?_
  refine zs_Knew (n := n) (s := 7) rfl hn (zs_le (k := 0) hl (Nat.le_of_ble_eq_true rfl)) rfl ?_
  have l1 := zs_ln0 (a := 8) (b := 7) (c := n) (m := n + 1) hn rfl
  have x2 := zs_sh0 (a := 8) (b := 7) (c := n) hp
  have x3 := zs_new (a := 8) (b := 7) (c := n) hn
  refine K_dup rfl rfl ?_
  refine zs_Kca [] [.ref n, .ref p] rfl rfl (Nat.le_of_ble_eq_true rfl) (Nat.le_of_ble_eq_true rfl) (EV_le (Nat.le_of_ble_eq_true rfl) (zs_IText x3 l1 (zs_le (k := 1) hl (Nat.le_of_ble_eq_true rfl)))) ?_
  rintro v M' ⟨rfl, rfl⟩
  have l4 := zs_Text_len (p := n) (m := n + 2) l1 rfl
  have x5 := zs_Text_sh (p := n) (n := n + 1) x2
  have x6 := zs_Text_sh (p := n) (n := n + 1) x3
  refine zs_Kpr (i := 0) rfl x5 rfl rfl rfl ?_
  have l7 := zs_ln2 (a := p) (b := 0) (c := n) l4
  have x8 := zs_sh2 (a := p) (b := 0) (c := n) x5
  have x9 := zs_sh2 (a := p) (b := 0) (c := n) x6
  have y10 := zs_Hn (i := 0) (v := n) x5
  refine K_aload_n rfl 0 rfl ?_
  refine zs_Knew (n := n + 2) (s := 2) rfl l7 (zs_le (k := 2) hl (Nat.le_of_ble_eq_true rfl)) rfl ?_
  have l11 := zs_ln0 (a := 11) (b := 2) (c := n + 2) (m := n + 3) l7 rfl
  have x12 := zs_sh0 (a := 11) (b := 2) (c := n + 2) x8
  have x13 := zs_sh0 (a := 11) (b := 2) (c := n + 2) x9
  have y14 := zs_H0 (a := 11) (b := 2) (c := n + 2) y10
  have x15 := zs_new (a := 11) (b := 2) (c := n + 2) l7
  refine K_dup rfl rfl ?_
  refine K_aload_n rfl 0 rfl ?_
  refine zs_Kgr (i := 0) rfl y14 rfl rfl rfl ?_
  refine zs_Kca [.ref n] [.ref (n + 2), .ref p] rfl rfl (Nat.le_of_ble_eq_true rfl) (Nat.le_of_ble_eq_true rfl) (EV_le (Nat.le_of_ble_eq_true rfl) (zs_IYRd x15 l11 (zs_le (k := 3) hl (Nat.le_of_ble_eq_true rfl)))) ?_
  rintro v M' ⟨rfl, rfl⟩
  have l16 := zs_YRd_len (p := n + 2) (t := n) (m := n + 11) l11 rfl
  have x17 := zs_YRd_sh (p := n + 2) (t := n) (n := n + 3) x12
  have x18 := zs_YRd_sh (p := n + 2) (t := n) (n := n + 3) x13
  have x19 := zs_YRd_sh (p := n + 2) (t := n) (n := n + 3) x15
  have y20 := zs_YRd_H (p := n + 2) (t := n) l11 (zs_nne (k := 2) hpn) y14
  refine zs_Kpr (i := 1) rfl x17 rfl rfl rfl ?_
  have l21 := zs_ln2 (a := p) (b := 1) (c := n + 2) l16
  have x22 := zs_sh2 (a := p) (b := 1) (c := n + 2) x17
  have x23 := zs_sh2 (a := p) (b := 1) (c := n + 2) x18
  have x24 := zs_sh2 (a := p) (b := 1) (c := n + 2) x19
  have y25 := zs_H2 (a := p) (b := 1) (c := n + 2) (Or.inr (by decide)) y20
  refine K_aload_n rfl 0 rfl ?_
  refine zs_Knew (n := n + 11) (s := 3) rfl l21 (zs_le (k := 11) hl (Nat.le_of_ble_eq_true rfl)) rfl ?_
  have l26 := zs_ln0 (a := 4) (b := 3) (c := n + 11) (m := n + 12) l21 rfl
  have x27 := zs_sh0 (a := 4) (b := 3) (c := n + 11) x22
  have x28 := zs_sh0 (a := 4) (b := 3) (c := n + 11) x23
  have y29 := zs_H0 (a := 4) (b := 3) (c := n + 11) y25
  have x30 := zs_new (a := 4) (b := 3) (c := n + 11) l21
  refine K_dup rfl rfl ?_
  refine K_aload_n rfl 0 rfl ?_
  refine zs_Kgr (i := 0) rfl y29 rfl rfl rfl ?_
  refine zs_Kca [.ref n] [.ref (n + 11), .ref p] rfl rfl (Nat.le_of_ble_eq_true rfl) (Nat.le_of_ble_eq_true rfl) (EV_le (Nat.le_of_ble_eq_true rfl) (zs_IRRd x30 l26 (zs_le (k := 12) hl (Nat.le_of_ble_eq_true rfl)))) ?_
  rintro v M' ⟨rfl, rfl⟩
  have l31 := zs_RRd_len (p := n + 11) (t := n) (m := n + 18) l26 rfl
  have x32 := zs_RRd_sh (p := n + 11) (t := n) (n := n + 12) x27
  have x33 := zs_RRd_sh (p := n + 11) (t := n) (n := n + 12) x28
  have x34 := zs_RRd_sh (p := n + 11) (t := n) (n := n + 12) x30
  have y35 := zs_RRd_H (p := n + 11) (t := n) l26 (zs_nne (k := 11) hpn) y29
  refine zs_Kpr (i := 2) rfl x32 rfl rfl rfl ?_
  have l36 := zs_ln2 (a := p) (b := 2) (c := n + 11) l31
  have x37 := zs_sh2 (a := p) (b := 2) (c := n + 11) x32
  have x38 := zs_sh2 (a := p) (b := 2) (c := n + 11) x33
  have x39 := zs_sh2 (a := p) (b := 2) (c := n + 11) x34
  have y40 := zs_H2 (a := p) (b := 2) (c := n + 11) (Or.inr (by decide)) y35
  refine K_aload_n rfl 0 rfl ?_
  refine K_bipush (v := 6) rfl (by decide) ?_
  refine zs_Kan (n := n + 18) (s := 6) rfl l36 (zs_le (k := 18) hl (Nat.le_of_ble_eq_true rfl)) (by decide) (by decide) (by decide) ?_
  have l41 := zs_ln0 (a := 24) (b := 6) (c := n + 18) (m := n + 19) l36 rfl
  have x42 := zs_sh0 (a := 24) (b := 6) (c := n + 18) x37
  have x43 := zs_sh0 (a := 24) (b := 6) (c := n + 18) x38
  have y44 := zs_H0 (a := 24) (b := 6) (c := n + 18) y40
  have x45 := zs_new (a := 24) (b := 6) (c := n + 18) l36
  refine zs_Kpr (i := 3) rfl x42 rfl rfl rfl ?_
  have l46 := zs_ln2 (a := p) (b := 3) (c := n + 18) l41
  have x47 := zs_sh2 (a := p) (b := 3) (c := n + 18) x42
  have x48 := zs_sh2 (a := p) (b := 3) (c := n + 18) x43
  have x49 := zs_sh2 (a := p) (b := 3) (c := n + 18) x45
  have y50 := zs_H2 (a := p) (b := 3) (c := n + 18) (Or.inr (by decide)) y44
  have y51 := zs_Hn (i := 3) (v := n + 18) x42
  refine K_aload_n rfl 0 rfl ?_
  refine zs_Knew (n := n + 19) (s := 6) rfl l46 (zs_le (k := 19) hl (Nat.le_of_ble_eq_true rfl)) rfl ?_
  have l52 := zs_ln0 (a := 9) (b := 6) (c := n + 19) (m := n + 20) l46 rfl
  have x53 := zs_sh0 (a := 9) (b := 6) (c := n + 19) x47
  have x54 := zs_sh0 (a := 9) (b := 6) (c := n + 19) x48
  have x55 := zs_sh0 (a := 9) (b := 6) (c := n + 19) x49
  have y56 := zs_H0 (a := 9) (b := 6) (c := n + 19) y50
  have y57 := zs_H0 (a := 9) (b := 6) (c := n + 19) y51
  have x58 := zs_new (a := 9) (b := 6) (c := n + 19) l46
  refine K_dup rfl rfl ?_
  refine zs_Kca [] [.ref (n + 19), .ref p] rfl rfl (Nat.le_of_ble_eq_true rfl) (Nat.le_of_ble_eq_true rfl) (EV_le (Nat.le_of_ble_eq_true rfl) (zs_IWorld x58 l52 (zs_le (k := 20) hl (Nat.le_of_ble_eq_true rfl)))) ?_
  rintro v M' ⟨rfl, rfl⟩
  have l59 := zs_World_len (p := n + 19) (m := n + 42) l52 rfl
  have x60 := zs_World_sh (p := n + 19) (n := n + 20) x53
  have x61 := zs_World_sh (p := n + 19) (n := n + 20) x54
  have x62 := zs_World_sh (p := n + 19) (n := n + 20) x55
  have x63 := zs_World_sh (p := n + 19) (n := n + 20) x58
  have y64 := zs_World_H (p := n + 19) l52 (zs_nne (k := 19) hpn) y56
  have y65 := zs_World_H (p := n + 19) l52 (zs_nne (k := 19) hpn) y57
  refine zs_Kpr (i := 5) rfl x60 rfl rfl rfl ?_
  have l66 := zs_ln2 (a := p) (b := 5) (c := n + 19) l59
  have x67 := zs_sh2 (a := p) (b := 5) (c := n + 19) x60
  have x68 := zs_sh2 (a := p) (b := 5) (c := n + 19) x61
  have x69 := zs_sh2 (a := p) (b := 5) (c := n + 19) x62
  have x70 := zs_sh2 (a := p) (b := 5) (c := n + 19) x63
  have y71 := zs_H2 (a := p) (b := 5) (c := n + 19) (Or.inr (by decide)) y64
  have y72 := zs_H2 (a := p) (b := 5) (c := n + 19) (Or.inr (by decide)) y65
  refine K_aload_n rfl 0 rfl ?_
  refine K_iconst (v := 4) rfl (by decide) ?_
  refine zs_Kan (n := n + 42) (s := 4) rfl l66 (zs_le (k := 42) hl (Nat.le_of_ble_eq_true rfl)) (by decide) (by decide) (by decide) ?_
  have l73 := zs_ln0 (a := 25) (b := 4) (c := n + 42) (m := n + 43) l66 rfl
  have x74 := zs_sh0 (a := 25) (b := 4) (c := n + 42) x67
  have x75 := zs_sh0 (a := 25) (b := 4) (c := n + 42) x68
  have x76 := zs_sh0 (a := 25) (b := 4) (c := n + 42) x69
  have y77 := zs_H0 (a := 25) (b := 4) (c := n + 42) y71
  have y78 := zs_H0 (a := 25) (b := 4) (c := n + 42) y72
  have x79 := zs_new (a := 25) (b := 4) (c := n + 42) l66
  refine zs_Kpr (i := 6) rfl x74 rfl rfl rfl ?_
  have l80 := zs_ln2 (a := p) (b := 6) (c := n + 42) l73
  have x81 := zs_sh2 (a := p) (b := 6) (c := n + 42) x74
  have x82 := zs_sh2 (a := p) (b := 6) (c := n + 42) x75
  have x83 := zs_sh2 (a := p) (b := 6) (c := n + 42) x76
  have x84 := zs_sh2 (a := p) (b := 6) (c := n + 42) x79
  have y85 := zs_H2 (a := p) (b := 6) (c := n + 42) (Or.inr (by decide)) y77
  have y86 := zs_H2 (a := p) (b := 6) (c := n + 42) (Or.inr (by decide)) y78
  have y87 := zs_Hn (i := 6) (v := n + 42) x74
  refine K_aload_n rfl 0 rfl ?_
  refine zs_Knew (n := n + 43) (s := 3) rfl l80 (zs_le (k := 43) hl (Nat.le_of_ble_eq_true rfl)) rfl ?_
  have l88 := zs_ln0 (a := 1) (b := 3) (c := n + 43) (m := n + 44) l80 rfl
  have x89 := zs_sh0 (a := 1) (b := 3) (c := n + 43) x81
  have x90 := zs_sh0 (a := 1) (b := 3) (c := n + 43) x82
  have x91 := zs_sh0 (a := 1) (b := 3) (c := n + 43) x83
  have x92 := zs_sh0 (a := 1) (b := 3) (c := n + 43) x84
  have y93 := zs_H0 (a := 1) (b := 3) (c := n + 43) y85
  have y94 := zs_H0 (a := 1) (b := 3) (c := n + 43) y86
  have y95 := zs_H0 (a := 1) (b := 3) (c := n + 43) y87
  have x96 := zs_new (a := 1) (b := 3) (c := n + 43) l80
  refine K_dup rfl rfl ?_
  refine zs_Kca [] [.ref (n + 43), .ref p] rfl rfl (Nat.le_of_ble_eq_true rfl) (Nat.le_of_ble_eq_true rfl) (EV_le (Nat.le_of_ble_eq_true rfl) (zs_IActs x96 l88 (zs_le (k := 44) hl (Nat.le_of_ble_eq_true rfl)))) ?_
  rintro v M' ⟨rfl, rfl⟩
  have l97 := zs_Acts_len (p := n + 43) (m := n + 245) l88 rfl
  have x98 := zs_Acts_sh (p := n + 43) (n := n + 44) x89
  have x99 := zs_Acts_sh (p := n + 43) (n := n + 44) x90
  have x100 := zs_Acts_sh (p := n + 43) (n := n + 44) x91
  have x101 := zs_Acts_sh (p := n + 43) (n := n + 44) x92
  have x102 := zs_Acts_sh (p := n + 43) (n := n + 44) x96
  have y103 := zs_Acts_H (p := n + 43) l88 (zs_nne (k := 43) hpn) y93
  have y104 := zs_Acts_H (p := n + 43) l88 (zs_nne (k := 43) hpn) y94
  have y105 := zs_Acts_H (p := n + 43) l88 (zs_nne (k := 43) hpn) y95
  refine zs_Kpr (i := 7) rfl x98 rfl rfl rfl ?_
  have l106 := zs_ln2 (a := p) (b := 7) (c := n + 43) l97
  have x107 := zs_sh2 (a := p) (b := 7) (c := n + 43) x98
  have x108 := zs_sh2 (a := p) (b := 7) (c := n + 43) x99
  have x109 := zs_sh2 (a := p) (b := 7) (c := n + 43) x100
  have x110 := zs_sh2 (a := p) (b := 7) (c := n + 43) x101
  have x111 := zs_sh2 (a := p) (b := 7) (c := n + 43) x102
  have y112 := zs_H2 (a := p) (b := 7) (c := n + 43) (Or.inr (by decide)) y103
  have y113 := zs_H2 (a := p) (b := 7) (c := n + 43) (Or.inr (by decide)) y104
  have y114 := zs_H2 (a := p) (b := 7) (c := n + 43) (Or.inr (by decide)) y105
  refine K_aload_n rfl 0 rfl ?_
  refine zs_Knew (n := n + 245) (s := 12) rfl l106 (zs_le (k := 245) hl (Nat.le_of_ble_eq_true rfl)) rfl ?_
  have l115 := zs_ln0 (a := 2) (b := 12) (c := n + 245) (m := n + 246) l106 rfl
  have x116 := zs_sh0 (a := 2) (b := 12) (c := n + 245) x107
  have x117 := zs_sh0 (a := 2) (b := 12) (c := n + 245) x108
  have x118 := zs_sh0 (a := 2) (b := 12) (c := n + 245) x109
  have x119 := zs_sh0 (a := 2) (b := 12) (c := n + 245) x110
  have y120 := zs_H0 (a := 2) (b := 12) (c := n + 245) y112
  have y121 := zs_H0 (a := 2) (b := 12) (c := n + 245) y113
  have y122 := zs_H0 (a := 2) (b := 12) (c := n + 245) y114
  have x123 := zs_new (a := 2) (b := 12) (c := n + 245) l106
  refine K_dup rfl rfl ?_
  refine zs_Kca [] [.ref (n + 245), .ref p] rfl rfl (Nat.le_of_ble_eq_true rfl) (Nat.le_of_ble_eq_true rfl) (EV_le (Nat.le_of_ble_eq_true rfl) (zs_ICourse x123 l115 (zs_le (k := 246) hl (Nat.le_of_ble_eq_true rfl)))) ?_
  rintro v M' ⟨rfl, rfl⟩
  have l124 := zs_Course_len (p := n + 245) (m := n + 268) l115 rfl
  have x125 := zs_Course_sh (p := n + 245) (n := n + 246) x116
  have x126 := zs_Course_sh (p := n + 245) (n := n + 246) x117
  have x127 := zs_Course_sh (p := n + 245) (n := n + 246) x118
  have x128 := zs_Course_sh (p := n + 245) (n := n + 246) x119
  have x129 := zs_Course_sh (p := n + 245) (n := n + 246) x123
  have y130 := zs_Course_H (p := n + 245) l115 (zs_nne (k := 245) hpn) y120
  have y131 := zs_Course_H (p := n + 245) l115 (zs_nne (k := 245) hpn) y121
  have y132 := zs_Course_H (p := n + 245) l115 (zs_nne (k := 245) hpn) y122
  refine zs_Kpr (i := 8) rfl x125 rfl rfl rfl ?_
  have l133 := zs_ln2 (a := p) (b := 8) (c := n + 245) l124
  have x134 := zs_sh2 (a := p) (b := 8) (c := n + 245) x125
  have x135 := zs_sh2 (a := p) (b := 8) (c := n + 245) x126
  have x136 := zs_sh2 (a := p) (b := 8) (c := n + 245) x127
  have x137 := zs_sh2 (a := p) (b := 8) (c := n + 245) x128
  have x138 := zs_sh2 (a := p) (b := 8) (c := n + 245) x129
  have y139 := zs_H2 (a := p) (b := 8) (c := n + 245) (Or.inr (by decide)) y130
  have y140 := zs_H2 (a := p) (b := 8) (c := n + 245) (Or.inr (by decide)) y131
  have y141 := zs_H2 (a := p) (b := 8) (c := n + 245) (Or.inr (by decide)) y132
  refine K_aload_n rfl 0 rfl ?_
  refine zs_Knew (n := n + 268) (s := 11) rfl l133 (zs_le (k := 268) hl (Nat.le_of_ble_eq_true rfl)) rfl ?_
  have l142 := zs_ln0 (a := 5) (b := 11) (c := n + 268) (m := n + 269) l133 rfl
  have x143 := zs_sh0 (a := 5) (b := 11) (c := n + 268) x134
  have x144 := zs_sh0 (a := 5) (b := 11) (c := n + 268) x135
  have x145 := zs_sh0 (a := 5) (b := 11) (c := n + 268) x136
  have x146 := zs_sh0 (a := 5) (b := 11) (c := n + 268) x137
  have y147 := zs_H0 (a := 5) (b := 11) (c := n + 268) y139
  have y148 := zs_H0 (a := 5) (b := 11) (c := n + 268) y140
  have y149 := zs_H0 (a := 5) (b := 11) (c := n + 268) y141
  have x150 := zs_new (a := 5) (b := 11) (c := n + 268) l133
  refine K_dup rfl rfl ?_
  refine zs_Kca [] [.ref (n + 268), .ref p] rfl rfl (Nat.le_of_ble_eq_true rfl) (Nat.le_of_ble_eq_true rfl) (EV_le (Nat.le_of_ble_eq_true rfl) (zs_ISets x150 l142 (zs_le (k := 269) hl (Nat.le_of_ble_eq_true rfl)))) ?_
  rintro v M' ⟨rfl, rfl⟩
  have l151 := zs_Sets_len (p := n + 268) (m := n + 289) l142 rfl
  have x152 := zs_Sets_sh (p := n + 268) (n := n + 269) x143
  have x153 := zs_Sets_sh (p := n + 268) (n := n + 269) x144
  have x154 := zs_Sets_sh (p := n + 268) (n := n + 269) x145
  have x155 := zs_Sets_sh (p := n + 268) (n := n + 269) x146
  have x156 := zs_Sets_sh (p := n + 268) (n := n + 269) x150
  have y157 := zs_Sets_H (p := n + 268) l142 (zs_nne (k := 268) hpn) y147
  have y158 := zs_Sets_H (p := n + 268) l142 (zs_nne (k := 268) hpn) y148
  have y159 := zs_Sets_H (p := n + 268) l142 (zs_nne (k := 268) hpn) y149
  refine zs_Kpr (i := 9) rfl x152 rfl rfl rfl ?_
  have l160 := zs_ln2 (a := p) (b := 9) (c := n + 268) l151
  have x161 := zs_sh2 (a := p) (b := 9) (c := n + 268) x152
  have x162 := zs_sh2 (a := p) (b := 9) (c := n + 268) x153
  have x163 := zs_sh2 (a := p) (b := 9) (c := n + 268) x154
  have x164 := zs_sh2 (a := p) (b := 9) (c := n + 268) x155
  have x165 := zs_sh2 (a := p) (b := 9) (c := n + 268) x156
  have y166 := zs_H2 (a := p) (b := 9) (c := n + 268) (Or.inr (by decide)) y157
  have y167 := zs_H2 (a := p) (b := 9) (c := n + 268) (Or.inr (by decide)) y158
  have y168 := zs_H2 (a := p) (b := 9) (c := n + 268) (Or.inr (by decide)) y159
  refine K_aload_n rfl 0 rfl ?_
  refine zs_Knew (n := n + 289) (s := 12) rfl l160 (zs_le (k := 289) hl (Nat.le_of_ble_eq_true rfl)) rfl ?_
  have l169 := zs_ln0 (a := 10) (b := 12) (c := n + 289) (m := n + 290) l160 rfl
  have x170 := zs_sh0 (a := 10) (b := 12) (c := n + 289) x161
  have x171 := zs_sh0 (a := 10) (b := 12) (c := n + 289) x162
  have x172 := zs_sh0 (a := 10) (b := 12) (c := n + 289) x163
  have x173 := zs_sh0 (a := 10) (b := 12) (c := n + 289) x164
  have y174 := zs_H0 (a := 10) (b := 12) (c := n + 289) y166
  have y175 := zs_H0 (a := 10) (b := 12) (c := n + 289) y167
  have y176 := zs_H0 (a := 10) (b := 12) (c := n + 289) y168
  have x177 := zs_new (a := 10) (b := 12) (c := n + 289) l160
  refine K_dup rfl rfl ?_
  refine zs_Kca [] [.ref (n + 289), .ref p] rfl rfl (Nat.le_of_ble_eq_true rfl) (Nat.le_of_ble_eq_true rfl) (EV_le (Nat.le_of_ble_eq_true rfl) (zs_IYard x177 l169 (zs_le (k := 290) hl (Nat.le_of_ble_eq_true rfl)))) ?_
  rintro v M' ⟨rfl, rfl⟩
  have l178 := zs_Yard_len (p := n + 289) (m := n + 297) l169 rfl
  have x179 := zs_Yard_sh (p := n + 289) (n := n + 290) x170
  have x180 := zs_Yard_sh (p := n + 289) (n := n + 290) x171
  have x181 := zs_Yard_sh (p := n + 289) (n := n + 290) x172
  have x182 := zs_Yard_sh (p := n + 289) (n := n + 290) x173
  have x183 := zs_Yard_sh (p := n + 289) (n := n + 290) x177
  have y184 := zs_Yard_H (p := n + 289) l169 (zs_nne (k := 289) hpn) y174
  have y185 := zs_Yard_H (p := n + 289) l169 (zs_nne (k := 289) hpn) y175
  have y186 := zs_Yard_H (p := n + 289) l169 (zs_nne (k := 289) hpn) y176
  refine zs_Kpr (i := 10) rfl x179 rfl rfl rfl ?_
  have l187 := zs_ln2 (a := p) (b := 10) (c := n + 289) l178
  have x188 := zs_sh2 (a := p) (b := 10) (c := n + 289) x179
  have x189 := zs_sh2 (a := p) (b := 10) (c := n + 289) x180
  have x190 := zs_sh2 (a := p) (b := 10) (c := n + 289) x181
  have x191 := zs_sh2 (a := p) (b := 10) (c := n + 289) x182
  have x192 := zs_sh2 (a := p) (b := 10) (c := n + 289) x183
  have y193 := zs_H2 (a := p) (b := 10) (c := n + 289) (Or.inr (by decide)) y184
  have y194 := zs_H2 (a := p) (b := 10) (c := n + 289) (Or.inr (by decide)) y185
  have y195 := zs_H2 (a := p) (b := 10) (c := n + 289) (Or.inr (by decide)) y186
  refine K_aload_n rfl 0 rfl ?_
  refine zs_Knew (n := n + 297) (s := 12) rfl l187 (zs_le (k := 297) hl (Nat.le_of_ble_eq_true rfl)) rfl ?_
  have l196 := zs_ln0 (a := 7) (b := 12) (c := n + 297) (m := n + 298) l187 rfl
  have x197 := zs_sh0 (a := 7) (b := 12) (c := n + 297) x188
  have x198 := zs_sh0 (a := 7) (b := 12) (c := n + 297) x189
  have x199 := zs_sh0 (a := 7) (b := 12) (c := n + 297) x190
  have x200 := zs_sh0 (a := 7) (b := 12) (c := n + 297) x191
  have y201 := zs_H0 (a := 7) (b := 12) (c := n + 297) y193
  have y202 := zs_H0 (a := 7) (b := 12) (c := n + 297) y194
  have y203 := zs_H0 (a := 7) (b := 12) (c := n + 297) y195
  have x204 := zs_new (a := 7) (b := 12) (c := n + 297) l187
  refine K_dup rfl rfl ?_
  refine zs_Kca [] [.ref (n + 297), .ref p] rfl rfl (Nat.le_of_ble_eq_true rfl) (Nat.le_of_ble_eq_true rfl) (EV_le (Nat.le_of_ble_eq_true rfl) (zs_IState x204 l196 (zs_le (k := 298) hl (Nat.le_of_ble_eq_true rfl)))) ?_
  rintro v M' ⟨rfl, rfl⟩
  have l205 := zs_State_len (p := n + 297) (m := n + 307) l196 rfl
  have x206 := zs_State_sh (p := n + 297) (n := n + 298) x197
  have x207 := zs_State_sh (p := n + 297) (n := n + 298) x198
  have x208 := zs_State_sh (p := n + 297) (n := n + 298) x199
  have x209 := zs_State_sh (p := n + 297) (n := n + 298) x200
  have x210 := zs_State_sh (p := n + 297) (n := n + 298) x204
  have y211 := zs_State_H (p := n + 297) l196 (zs_nne (k := 297) hpn) y201
  have y212 := zs_State_H (p := n + 297) l196 (zs_nne (k := 297) hpn) y202
  have y213 := zs_State_H (p := n + 297) l196 (zs_nne (k := 297) hpn) y203
  refine zs_Kpr (i := 11) rfl x206 rfl rfl rfl ?_
  have l214 := zs_ln2 (a := p) (b := 11) (c := n + 297) l205
  have x215 := zs_sh2 (a := p) (b := 11) (c := n + 297) x206
  have x216 := zs_sh2 (a := p) (b := 11) (c := n + 297) x207
  have x217 := zs_sh2 (a := p) (b := 11) (c := n + 297) x208
  have x218 := zs_sh2 (a := p) (b := 11) (c := n + 297) x209
  have x219 := zs_sh2 (a := p) (b := 11) (c := n + 297) x210
  have y220 := zs_H2 (a := p) (b := 11) (c := n + 297) (Or.inr (by decide)) y211
  have y221 := zs_H2 (a := p) (b := 11) (c := n + 297) (Or.inr (by decide)) y212
  have y222 := zs_H2 (a := p) (b := 11) (c := n + 297) (Or.inr (by decide)) y213
  refine K_iconst (v := i32 0) rfl (by decide) ?_
  refine K_istore_n rfl ?_
  refine K_pick [1, 0] ?_
  have ll := (zs_lRule_len (A := n + 18) l214 6).trans e7
  refine zs_L0_130 (A := n + 18) (n := n + 307) y221 x217 e1 l214 e3 e4 ?_ 6 0 rfl
  refine K_iconst (v := i32 0) rfl (by decide) ?_
  refine K_istore_n rfl ?_
  refine K_pick [1, 0] ?_
  refine zs_L0_160 (A := n + 42) (n := n + 343) (zs_lRule_H l214 e1 y222 6) (zs_lRule_sh x218 6) e2 ll e5 e6 ?_ 4 0 rfl
  exact K_vret rfl rfl ⟨rfl, rfl⟩
/-- all that is done ahead of the law's loop -/
def zs_E : List Ev4 := zs_Model 436 437 ((0, 12, 40, 436) :: zs_Grave 0 1 [(0, 0, 12, 0)])
set_option maxRecDepth 20000 in
theorem zs_law {X : mX} {Q : Option Value → mM → Prop} (kk : KK X 62 250 18 [(0, .ref mscr), (1, .ref 0), (2, .ref 436), (3, .int 0)] [] (zs_M zs_E) Q) : KK X 62 250 0 [(0, .ref mscr)] [] mM0 Q := by
  show KK X 62 250 0 [(0, .ref mscr)] [] (zs_M []) Q
  have h0 : (zs_M []).1.length = 0 := rfl
  refine zs_Knew (n := 0) (s := 12) rfl h0 (Nat.le_of_ble_eq_true rfl) rfl ?_
  refine K_dup rfl rfl ?_
  refine zs_Kca [] [.ref 0] rfl rfl (Nat.le_of_ble_eq_true rfl) (Nat.le_of_ble_eq_true rfl) (EV_le (Nat.le_of_ble_eq_true rfl) (zs_IGrave (n := 1) (zs_new h0) (zs_ln0 h0 rfl) (Nat.le_of_ble_eq_true rfl))) ?_
  rintro v M' ⟨rfl, rfl⟩
  refine K_astore_n rfl ?_
  have h1 : (zs_M (zs_Grave 0 1 [(0, 0, 12, 0)])).1.length = 436 := zs_Grave_len (zs_ln0 h0 rfl) rfl
  refine zs_Knew (n := 436) (s := 40) rfl h1 (Nat.le_of_ble_eq_true rfl) rfl ?_
  refine K_dup rfl rfl ?_
  refine zs_Kca [] [.ref 436] rfl rfl (Nat.le_of_ble_eq_true rfl) (Nat.le_of_ble_eq_true rfl) (EV_le (Nat.le_of_ble_eq_true rfl) (zs_IModel (n := 437) (zs_new h1) (zs_ln0 h1 rfl) (Nat.le_of_ble_eq_true rfl))) ?_
  rintro v M' ⟨rfl, rfl⟩
  refine K_astore_n rfl ?_
  refine K_iconst (v := 0) rfl (by decide) ?_
  refine K_istore_n rfl ?_
  refine K_pick [3, 2, 1, 0] ?_
  exact kk
