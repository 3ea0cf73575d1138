/-! ===== runs without fuel: a judgement over the small machine, and its rows ===== -/
theorem mrun_le {X : mX} {E E' : Nat → List Value → mM → Option mRet} (hE : ∀ j as M r, E j as M = some r → E' j as M = some r) {k : Nat} : ∀ (n n' : Nat) (f : mF) (r : mRet), n ≤ n' → mrun X E k n f = some r → mrun X E' k n' f = some r
  | 0, _, _, _, _, h => by cases h
  | n + 1, 0, _, _, hn, _ => by omega
  | n + 1, n' + 1, f, r, hn, h => by
    have hn' : n ≤ n' := by omega
    rw [mrun] at h ⊢
    split at h
    · cases h
    · rename_i q hq
      split at h
      · exact h
      · split at h
        · split at h
          · cases h
          · rename_i r' hr
            rw [hE _ _ _ _ hr]
            exact mrun_le hE n n' _ r hn' h
        · split at h
          · exact mrun_le hE n n' _ r hn' h
          · split at h
            · exact mrun_le hE n n' _ r hn' h
            · cases h
theorem mex_le {X : mX} {N N' : Nat} (hN : N ≤ N') : ∀ (d d' j : Nat) (as : List Value) (M : mM) (r : mRet), d ≤ d' → mex X N d j as M = some r → mex X N' d' j as M = some r
  | 0, _, _, _, _, _, _, h => by cases h
  | d + 1, 0, _, _, _, _, hd, _ => by omega
  | d + 1, d' + 1, j, as, M, r, hd, h => by
    have hd' : d ≤ d' := by omega
    rw [mex] at h ⊢
    split at h
    · rename_i hj
      rw [if_pos hj]
      split at h
      · cases h
      · rename_i h3
        rw [if_neg (by omega)]
        exact h
    · rename_i hj
      rw [if_neg hj]
      split at h
      · rename_i hl
        rw [if_pos hl]
        exact mrun_le (fun j as M r hr => mex_le hN d d' j as M r hd' hr) N N' _ r hN h
      · cases h
/-- a frame comes to the method's end, with Q -/
def RR (X : mX) (d k : Nat) (f : mF) (Q : Option Value → mM → Prop) : Prop := ∃ (N n : Nat) (v : Option Value) (M' : mM), mrun X (mex X N d) k n f = some (v, M') ∧ Q v M'
/-- a call does -/
def EV (X : mX) (d j : Nat) (as : List Value) (M : mM) (Q : Option Value → mM → Prop) : Prop := ∃ (N : Nat) (v : Option Value) (M' : mM), mex X N d j as M = some (v, M') ∧ Q v M'
/-- a frame of which these locals are known does -/
def KK (X : mX) (d k pc : Nat) (lc : List (Nat × Value)) (st : List Value) (M : mM) (Q : Option Value → mM → Prop) : Prop := ∀ ls, (∀ q ∈ lc, mget ls q.1 = some q.2) → RR X d k (pc, ls, st, M) Q
theorem EV_le {X : mX} {d d' j : Nat} {as : List Value} {M : mM} {Q : Option Value → mM → Prop} (hd : d ≤ d') (h : EV X d j as M Q) : EV X d' j as M Q := by
  obtain ⟨N, v, M', h1, h2⟩ := h
  exact ⟨N, v, M', mex_le (Nat.le_refl N) d d' j as M _ hd h1, h2⟩
theorem EV_q {X : mX} {d j : Nat} {as : List Value} {M : mM} {Q Q' : Option Value → mM → Prop} (h : EV X d j as M Q) (hq : ∀ v M', Q v M' → Q' v M') : EV X d j as M Q' := by
  obtain ⟨N, v, M', h1, h2⟩ := h
  exact ⟨N, v, M', h1, hq _ _ h2⟩
theorem EV_of {X : mX} {d j : Nat} {as : List Value} {M : mM} {Q : Option Value → mM → Prop} (hj : j < 248) (hl : (lg_sl as).length ≤ mm_ml j) {lc : List (Nat × Value)} (hlc : ∀ q ∈ lc, mget (lv_args 0 as) q.1 = some q.2) (h : KK X d j 0 lc [] M Q) : EV X (d + 1) j as M Q := by
  obtain ⟨N, n, v, M', h1, h2⟩ := h (lv_args 0 as) hlc
  refine ⟨max N n, v, M', ?_, h2⟩
  rw [mex, if_neg (by omega), if_pos hl]
  exact mrun_le (fun j as M r hr => mex_le (Nat.le_max_left N n) d d j as M r (Nat.le_refl d) hr) n _ _ _ (Nat.le_max_right N n) h1
theorem RR_co {X : mX} {d k : Nat} {f f' : mF} {q : Instr × Nat × Nat} {Q : Option Value → mM → Prop} (h : mfind (mm_cd k) f.1 = some q) (hr : mRe k q.1 f = none) (hc : mCa q.1 q.2.1 q.2.2 f = none) (ha : mAl q.1 q.2.1 q.2.2 f = none) (hm : mCo X q.1 f.1 q.2.1 q.2.2 f = some f') (kk : RR X d k f' Q) : RR X d k f Q := by
  obtain ⟨N, n, v, M', h1, h2⟩ := kk
  refine ⟨N, n + 1, v, M', ?_, h2⟩
  rw [mrun, h]
  simp only [hr, hc, ha, hm, h1]
theorem RR_re {X : mX} {d k : Nat} {f : mF} {q : Instr × Nat × Nat} {v : Option Value} {M' : mM} {Q : Option Value → mM → Prop} (h : mfind (mm_cd k) f.1 = some q) (hr : mRe k q.1 f = some (v, M')) (kk : Q v M') : RR X d k f Q := by
  refine ⟨0, 1, v, M', ?_, kk⟩
  rw [mrun, h]
  simp only [hr]
theorem RR_ca {X : mX} {d k j : Nat} {f f1 : mF} {q : Instr × Nat × Nat} {as : List Value} {P Q : Option Value → mM → Prop} (h : mfind (mm_cd k) f.1 = some q) (hr : mRe k q.1 f = none) (hc : mCa q.1 q.2.1 q.2.2 f = some (j, as, f1)) (he : EV X d j as f.2.2.2 P) (kk : ∀ v M', P v M' → RR X d k (f1.1, f1.2.1, v.toList ++ f1.2.2.1, M') Q) : RR X d k f Q := by
  obtain ⟨N, v, M', h1, h2⟩ := he
  obtain ⟨N2, n, v2, M2, h3, h4⟩ := kk v M' h2
  refine ⟨max N N2, n + 1, v2, M2, ?_, h4⟩
  rw [mrun, h]
  simp only [hr, hc]
  rw [mex_le (Nat.le_max_left N N2) d d j as _ _ (Nat.le_refl d) h1]
  exact mrun_le (fun j as M r hr => mex_le (Nat.le_max_right N N2) d d j as M r (Nat.le_refl d) hr) n n _ _ (Nat.le_refl n) h3
theorem mget_filter (p : Nat × Value → Bool) {j : Nat} {w : Value} : ∀ {l : List (Nat × Value)}, mget l j = some w → p (j, w) = true → mget (l.filter p) j = some w
  | [], h, _ => by cases h
  | (i, u) :: r, h, hp => by
    rw [mget] at h
    by_cases hq : i = j
    · rw [if_pos hq] at h
      cases h
      subst hq
      rw [List.filter_cons_of_pos hp, mget, if_pos rfl]
    · rw [if_neg hq] at h
      have ih := mget_filter p h hp
      by_cases hp2 : p (i, u) = true
      · rw [List.filter_cons_of_pos hp2, mget, if_neg hq]
        exact ih
      · rw [List.filter_cons_of_neg hp2]
        exact ih
theorem mget_put1 {ls : List (Nat × Value)} {i j : Nat} {v w : Value} (h : mget ls j = some w) (hj : j ≠ i) (hc : ¬ (j + 1 = i ∧ w.category = 2)) : mget (mput1 ls i v) j = some w := by
  rw [mput1, mget, if_neg (fun z => hj z.symm)]
  refine mget_filter _ h ?_
  simp only [Bool.and_eq_true, Bool.not_eq_true', beq_eq_false_iff_ne, ne_eq, Bool.and_eq_false_iff]
  refine ⟨hj, ?_⟩
  by_cases h1 : j + 1 = i
  · exact Or.inr (fun h2 => hc ⟨h1, h2⟩)
  · exact Or.inl h1
theorem mget_put2 {ls : List (Nat × Value)} {i j : Nat} {v w : Value} (h : mget ls j = some w) (hj : j ≠ i) (hj1 : j ≠ i + 1) (hc : ¬ (j + 1 = i ∧ w.category = 2)) : mget (mput2 ls i v) j = some w := by
  rw [mput2, mget, if_neg (fun z => hj z.symm)]
  refine mget_filter _ h ?_
  simp only [Bool.and_eq_true, Bool.not_eq_true', beq_eq_false_iff_ne, ne_eq, Bool.and_eq_false_iff]
  refine ⟨hj, hj1, ?_⟩
  by_cases h1 : j + 1 = i
  · exact Or.inr (fun h2 => hc ⟨h1, h2⟩)
  · exact Or.inl h1
theorem mput1_ok {ls lc : List (Nat × Value)} {i : Nat} {v : Value} (h : ∀ q ∈ lc, mget ls q.1 = some q.2) : ∀ q ∈ mput1 lc i v, mget (mput1 ls i v) q.1 = some q.2 := by
  intro q hq
  rcases List.mem_cons.mp hq with rfl | hq
  · simp [mput1, mget]
  · obtain ⟨h1, h2⟩ := List.mem_filter.mp hq
    simp only [Bool.and_eq_true, Bool.not_eq_true', beq_eq_false_iff_ne, ne_eq, Bool.and_eq_false_iff] at h2
    refine mget_put1 (h q h1) h2.1 ?_
    rintro ⟨z1, z2⟩
    rcases h2.2 with h3 | h3
    · exact h3 z1
    · exact h3 z2
theorem mput2_ok {ls lc : List (Nat × Value)} {i : Nat} {v : Value} (h : ∀ q ∈ lc, mget ls q.1 = some q.2) : ∀ q ∈ mput2 lc i v, mget (mput2 ls i v) q.1 = some q.2 := by
  intro q hq
  rcases List.mem_cons.mp hq with rfl | hq
  · simp [mput2, mget]
  · obtain ⟨h1, h2⟩ := List.mem_filter.mp hq
    simp only [Bool.and_eq_true, Bool.not_eq_true', beq_eq_false_iff_ne, ne_eq, Bool.and_eq_false_iff] at h2
    refine mget_put2 (h q h1) h2.1 h2.2.1 ?_
    rintro ⟨z1, z2⟩
    rcases h2.2.2 with h3 | h3
    · exact h3 z1
    · exact h3 z2
section KROWS
variable {X : mX} {d k pc nx a : Nat} {lc : List (Nat × Value)} {st : List Value} {M M' : mM} {Q : Option Value → mM → Prop}
theorem K_pick (ks : List Nat) (kk : KK X d k pc (lv_pick lc ks) st M Q) : KK X d k pc lc st M Q := by
  intro ls hl
  refine kk ls (fun q hq => ?_)
  obtain ⟨j, -, hj⟩ := List.mem_filterMap.mp hq
  exact hl q (List.mem_of_getElem? hj)
/-- an instruction that leaves the locals -/
theorem K_co {i : Instr} {pc' : Nat} {st' : List Value} (h : mfind (mm_cd k) pc = some (i, nx, a)) (hr : ∀ f, mRe k i f = none) (hc : ∀ f, mCa i nx a f = none) (ha : ∀ f, mAl i nx a f = none) (hm : ∀ ls, mCo X i pc nx a (pc, ls, st, M) = some (pc', ls, st', M')) (kk : KK X d k pc' lc st' M' Q) : KK X d k pc lc st M Q :=
  fun ls hl => RR_co h (hr _) (hc _) (ha _) (hm ls) (kk ls hl)
theorem K_iconst {n : Int} (h : mfind (mm_cd k) pc = some (.iconst n, nx, a)) {v : Int32} (hv : Int32.ofInt n = v) (kk : KK X d k nx lc (.int v :: st) M Q) : KK X d k pc lc st M Q := by
  subst hv
  exact K_co h (fun _ => rfl) (fun _ => rfl) (fun _ => rfl) (fun _ => rfl) kk
theorem K_bipush {n : Int} (h : mfind (mm_cd k) pc = some (.bipush n, nx, a)) {v : Int32} (hv : (Int8.ofInt n).toInt32 = v) (kk : KK X d k nx lc (.int v :: st) M Q) : KK X d k pc lc st M Q := by
  subst hv
  exact K_co h (fun _ => rfl) (fun _ => rfl) (fun _ => rfl) (fun _ => rfl) kk
theorem K_sipush {n : Int} (h : mfind (mm_cd k) pc = some (.sipush n, nx, a)) {v : Int32} (hv : (Int16.ofInt n).toInt32 = v) (kk : KK X d k nx lc (.int v :: st) M Q) : KK X d k pc lc st M Q := by
  subst hv
  exact K_co h (fun _ => rfl) (fun _ => rfl) (fun _ => rfl) (fun _ => rfl) kk
theorem K_lconst {n : Fin 2} (h : mfind (mm_cd k) pc = some (.lconst n, nx, a)) {v : Int64} (hv : Int64.ofNat (n : Nat) = v) (kk : KK X d k nx lc (.long v :: st) M Q) : KK X d k pc lc st M Q := by
  subst hv
  exact K_co h (fun _ => rfl) (fun _ => rfl) (fun _ => rfl) (fun _ => rfl) kk
theorem K_null (h : mfind (mm_cd k) pc = some (.aconst_null, nx, a)) (kk : KK X d k nx lc (va_rf none :: st) M Q) : KK X d k pc lc st M Q :=
  K_co h (fun _ => rfl) (fun _ => rfl) (fun _ => rfl) (fun _ => rfl) kk
theorem K_ldcs {x : Nat} (h : mfind (mm_cd k) pc = some (.ldc x, nx, a)) (ha : a < 100) (kk : KK X d k nx lc (.ref (mstr + a) :: st) M Q) : KK X d k pc lc st M Q :=
  K_co h (fun _ => rfl) (fun _ => rfl) (fun _ => rfl) (fun ls => by
    show (if a < 100 then mq_push nx (.ref (mstr + a)) (pc, ls, st, M) else _) = _
    rw [if_pos ha]
    rfl) kk
theorem K_ldc {x : Nat} (h : mfind (mm_cd k) pc = some (.ldc x, nx, a)) (ha : ¬ a < 100) {v : Int32} (hv : Int32.ofNat (a - 100) = v) (kk : KK X d k nx lc (.int v :: st) M Q) : KK X d k pc lc st M Q := by
  subst hv
  exact K_co h (fun _ => rfl) (fun _ => rfl) (fun _ => rfl) (fun ls => by
    show (if a < 100 then _ else mq_push nx (.int (Int32.ofNat (a - 100))) (pc, ls, st, M)) = _
    rw [if_neg ha]
    rfl) kk
theorem K_ldc2 {x : Nat} (h : mfind (mm_cd k) pc = some (.ldc2_w x, nx, a)) {v : Int64} (hv : Int64.ofNat a = v) (kk : KK X d k nx lc (.long v :: st) M Q) : KK X d k pc lc st M Q := by
  subst hv
  exact K_co h (fun _ => rfl) (fun _ => rfl) (fun _ => rfl) (fun _ => rfl) kk
/-- loads: the local by its place in the list -/
theorem K_ld {i : Instr} {n kd : Nat} {v : Value} (h : mfind (mm_cd k) pc = some (i, nx, a)) (hr : ∀ f, mRe k i f = none) (hc : ∀ f, mCa i nx a f = none) (ha : ∀ f, mAl i nx a f = none) (hm : ∀ f, mCo X i pc nx a f = mq_ld kd n nx f) (hk : mkv v = kd) (j : Nat) (hl : lc[j]? = some (n, v)) (kk : KK X d k nx lc (v :: st) M Q) : KK X d k pc lc st M Q := by
  intro ls hls
  refine RR_co h (hr _) (hc _) (ha _) ?_ (kk ls hls)
  show mCo X i pc nx a (pc, ls, st, M) = _
  rw [hm, mq_ld, show mget (pc, ls, st, M).2.1 n = some v from hls _ (List.mem_of_getElem? hl)]
  exact if_pos hk
theorem K_iload_n {n : Fin 4} {x : Int32} (h : mfind (mm_cd k) pc = some (.iload_n n, nx, a)) (j : Nat) (hl : lc[j]? = some ((n : Nat), .int x)) (kk : KK X d k nx lc (.int x :: st) M Q) : KK X d k pc lc st M Q := K_ld h (fun _ => rfl) (fun _ => rfl) (fun _ => rfl) (fun _ => rfl) rfl j hl kk
theorem K_iload {n : Nat} {x : Int32} (h : mfind (mm_cd k) pc = some (.iload n, nx, a)) (j : Nat) (hl : lc[j]? = some (n, .int x)) (kk : KK X d k nx lc (.int x :: st) M Q) : KK X d k pc lc st M Q := K_ld h (fun _ => rfl) (fun _ => rfl) (fun _ => rfl) (fun _ => rfl) rfl j hl kk
theorem K_lload_n {n : Fin 4} {x : Int64} (h : mfind (mm_cd k) pc = some (.lload_n n, nx, a)) (j : Nat) (hl : lc[j]? = some ((n : Nat), .long x)) (kk : KK X d k nx lc (.long x :: st) M Q) : KK X d k pc lc st M Q := K_ld h (fun _ => rfl) (fun _ => rfl) (fun _ => rfl) (fun _ => rfl) rfl j hl kk
theorem K_lload {n : Nat} {x : Int64} (h : mfind (mm_cd k) pc = some (.lload n, nx, a)) (j : Nat) (hl : lc[j]? = some (n, .long x)) (kk : KK X d k nx lc (.long x :: st) M Q) : KK X d k pc lc st M Q := K_ld h (fun _ => rfl) (fun _ => rfl) (fun _ => rfl) (fun _ => rfl) rfl j hl kk
theorem K_aload_n {n : Fin 4} {x : Nat} (h : mfind (mm_cd k) pc = some (.aload_n n, nx, a)) (j : Nat) (hl : lc[j]? = some ((n : Nat), .ref x)) (kk : KK X d k nx lc (.ref x :: st) M Q) : KK X d k pc lc st M Q := K_ld h (fun _ => rfl) (fun _ => rfl) (fun _ => rfl) (fun _ => rfl) rfl j hl kk
theorem K_aload {n : Nat} {x : Nat} (h : mfind (mm_cd k) pc = some (.aload n, nx, a)) (j : Nat) (hl : lc[j]? = some (n, .ref x)) (kk : KK X d k nx lc (.ref x :: st) M Q) : KK X d k pc lc st M Q := K_ld h (fun _ => rfl) (fun _ => rfl) (fun _ => rfl) (fun _ => rfl) rfl j hl kk
theorem mkv_rf (r : Option Nat) : mkv (va_rf r) = 2 := by cases r <;> rfl
theorem K_aload_nq {n : Fin 4} {x : Option Nat} (h : mfind (mm_cd k) pc = some (.aload_n n, nx, a)) (j : Nat) (hl : lc[j]? = some ((n : Nat), va_rf x)) (kk : KK X d k nx lc (va_rf x :: st) M Q) : KK X d k pc lc st M Q := K_ld h (fun _ => rfl) (fun _ => rfl) (fun _ => rfl) (fun _ => rfl) (mkv_rf x) j hl kk
theorem K_aloadq {n : Nat} {x : Option Nat} (h : mfind (mm_cd k) pc = some (.aload n, nx, a)) (j : Nat) (hl : lc[j]? = some (n, va_rf x)) (kk : KK X d k nx lc (va_rf x :: st) M Q) : KK X d k pc lc st M Q := K_ld h (fun _ => rfl) (fun _ => rfl) (fun _ => rfl) (fun _ => rfl) (mkv_rf x) j hl kk
/-- stores -/
theorem K_s1 {i : Instr} {n kd : Nat} {v : Value} (h : mfind (mm_cd k) pc = some (i, nx, a)) (hr : ∀ f, mRe k i f = none) (hc : ∀ f, mCa i nx a f = none) (ha : ∀ f, mAl i nx a f = none) (hm : ∀ f, mCo X i pc nx a f = mq_st kd n nx f) (hk : mkv v = kd) (h1 : ¬ kd = 1) (kk : KK X d k nx (mput1 lc n v) st M Q) : KK X d k pc lc (v :: st) M Q := by
  intro ls hls
  refine RR_co (f' := (nx, mput1 ls n v, st, M)) h (hr _) (hc _) (ha _) ?_ (kk _ (mput1_ok hls))
  show mCo X i pc nx a (pc, ls, v :: st, M) = _
  rw [hm, mq_st]
  show (if mkv v = kd then _ else _) = _
  rw [if_pos hk, if_neg h1]
theorem K_s2 {i : Instr} {n : Nat} {v : Int64} (h : mfind (mm_cd k) pc = some (i, nx, a)) (hr : ∀ f, mRe k i f = none) (hc : ∀ f, mCa i nx a f = none) (ha : ∀ f, mAl i nx a f = none) (hm : ∀ f, mCo X i pc nx a f = mq_st 1 n nx f) (kk : KK X d k nx (mput2 lc n (.long v)) st M Q) : KK X d k pc lc (.long v :: st) M Q := by
  intro ls hls
  refine RR_co (f' := (nx, mput2 ls n (.long v), st, M)) h (hr _) (hc _) (ha _) ?_ (kk _ (mput2_ok hls))
  show mCo X i pc nx a (pc, ls, .long v :: st, M) = _
  rw [hm, mq_st]
  rfl
theorem K_istore_n {n : Fin 4} {x : Int32} (h : mfind (mm_cd k) pc = some (.istore_n n, nx, a)) (kk : KK X d k nx (mput1 lc n (.int x)) st M Q) : KK X d k pc lc (.int x :: st) M Q := K_s1 h (fun _ => rfl) (fun _ => rfl) (fun _ => rfl) (fun _ => rfl) rfl (by decide) kk
theorem K_istore {n : Nat} {x : Int32} (h : mfind (mm_cd k) pc = some (.istore n, nx, a)) (kk : KK X d k nx (mput1 lc n (.int x)) st M Q) : KK X d k pc lc (.int x :: st) M Q := K_s1 h (fun _ => rfl) (fun _ => rfl) (fun _ => rfl) (fun _ => rfl) rfl (by decide) kk
theorem K_lstore_n {n : Fin 4} {x : Int64} (h : mfind (mm_cd k) pc = some (.lstore_n n, nx, a)) (kk : KK X d k nx (mput2 lc n (.long x)) st M Q) : KK X d k pc lc (.long x :: st) M Q := K_s2 h (fun _ => rfl) (fun _ => rfl) (fun _ => rfl) (fun _ => rfl) kk
theorem K_lstore {n : Nat} {x : Int64} (h : mfind (mm_cd k) pc = some (.lstore n, nx, a)) (kk : KK X d k nx (mput2 lc n (.long x)) st M Q) : KK X d k pc lc (.long x :: st) M Q := K_s2 h (fun _ => rfl) (fun _ => rfl) (fun _ => rfl) (fun _ => rfl) kk
theorem K_astore_n {n : Fin 4} {x : Nat} (h : mfind (mm_cd k) pc = some (.astore_n n, nx, a)) (kk : KK X d k nx (mput1 lc n (.ref x)) st M Q) : KK X d k pc lc (.ref x :: st) M Q := K_s1 h (fun _ => rfl) (fun _ => rfl) (fun _ => rfl) (fun _ => rfl) rfl (by decide) kk
theorem K_astore {n : Nat} {x : Nat} (h : mfind (mm_cd k) pc = some (.astore n, nx, a)) (kk : KK X d k nx (mput1 lc n (.ref x)) st M Q) : KK X d k pc lc (.ref x :: st) M Q := K_s1 h (fun _ => rfl) (fun _ => rfl) (fun _ => rfl) (fun _ => rfl) rfl (by decide) kk
theorem K_astore_nq {n : Fin 4} {x : Option Nat} (h : mfind (mm_cd k) pc = some (.astore_n n, nx, a)) (kk : KK X d k nx (mput1 lc n (va_rf x)) st M Q) : KK X d k pc lc (va_rf x :: st) M Q := K_s1 h (fun _ => rfl) (fun _ => rfl) (fun _ => rfl) (fun _ => rfl) (mkv_rf x) (by decide) kk
theorem K_astoreq {n : Nat} {x : Option Nat} (h : mfind (mm_cd k) pc = some (.astore n, nx, a)) (kk : KK X d k nx (mput1 lc n (va_rf x)) st M Q) : KK X d k pc lc (va_rf x :: st) M Q := K_s1 h (fun _ => rfl) (fun _ => rfl) (fun _ => rfl) (fun _ => rfl) (mkv_rf x) (by decide) kk
theorem K_iinc {n : Nat} {c : Int} {x y : Int32} (h : mfind (mm_cd k) pc = some (.iinc n c, nx, a)) (j : Nat) (hl : lc[j]? = some (n, .int x)) (hy : x + Int32.ofInt c = y) (kk : KK X d k nx (mput1 lc n (.int y)) st M Q) : KK X d k pc lc st M Q := by
  subst hy
  intro ls hls
  refine RR_co (f' := (nx, mput1 ls n (.int (x + Int32.ofInt c)), st, M)) h rfl rfl rfl ?_ (kk _ (mput1_ok hls))
  show mq_iinc n c nx (pc, ls, st, M) = _
  rw [mq_iinc, show mget (pc, ls, st, M).2.1 n = some (.int x) from hls _ (List.mem_of_getElem? hl)]
theorem K_iadd {x y : Int32} (h : mfind (mm_cd k) pc = some (.iadd, nx, a)) (kk : KK X d k nx lc (.int (x + y) :: st) M Q) : KK X d k pc lc (.int y :: .int x :: st) M Q := K_co h (fun _ => rfl) (fun _ => rfl) (fun _ => rfl) (fun _ => rfl) kk
theorem K_isub {x y : Int32} (h : mfind (mm_cd k) pc = some (.isub, nx, a)) (kk : KK X d k nx lc (.int (x - y) :: st) M Q) : KK X d k pc lc (.int y :: .int x :: st) M Q := K_co h (fun _ => rfl) (fun _ => rfl) (fun _ => rfl) (fun _ => rfl) kk
theorem K_imul {x y : Int32} (h : mfind (mm_cd k) pc = some (.imul, nx, a)) (kk : KK X d k nx lc (.int (x * y) :: st) M Q) : KK X d k pc lc (.int y :: .int x :: st) M Q := K_co h (fun _ => rfl) (fun _ => rfl) (fun _ => rfl) (fun _ => rfl) kk
theorem K_iand {x y : Int32} (h : mfind (mm_cd k) pc = some (.iand, nx, a)) (kk : KK X d k nx lc (.int (x &&& y) :: st) M Q) : KK X d k pc lc (.int y :: .int x :: st) M Q := K_co h (fun _ => rfl) (fun _ => rfl) (fun _ => rfl) (fun _ => rfl) kk
theorem K_ior {x y : Int32} (h : mfind (mm_cd k) pc = some (.ior, nx, a)) (kk : KK X d k nx lc (.int (x ||| y) :: st) M Q) : KK X d k pc lc (.int y :: .int x :: st) M Q := K_co h (fun _ => rfl) (fun _ => rfl) (fun _ => rfl) (fun _ => rfl) kk
theorem K_ixor {x y : Int32} (h : mfind (mm_cd k) pc = some (.ixor, nx, a)) (kk : KK X d k nx lc (.int (x ^^^ y) :: st) M Q) : KK X d k pc lc (.int y :: .int x :: st) M Q := K_co h (fun _ => rfl) (fun _ => rfl) (fun _ => rfl) (fun _ => rfl) kk
theorem K_ishl {x y : Int32} (h : mfind (mm_cd k) pc = some (.ishl, nx, a)) (kk : KK X d k nx lc (.int (x <<< (y &&& 31)) :: st) M Q) : KK X d k pc lc (.int y :: .int x :: st) M Q := K_co h (fun _ => rfl) (fun _ => rfl) (fun _ => rfl) (fun _ => rfl) kk
theorem K_ishr {x y : Int32} (h : mfind (mm_cd k) pc = some (.ishr, nx, a)) (kk : KK X d k nx lc (.int (x >>> (y &&& 31)) :: st) M Q) : KK X d k pc lc (.int y :: .int x :: st) M Q := K_co h (fun _ => rfl) (fun _ => rfl) (fun _ => rfl) (fun _ => rfl) kk
theorem K_idiv {x y : Int32} (h : mfind (mm_cd k) pc = some (.idiv, nx, a)) (h0 : ¬ y = 0) (kk : KK X d k nx lc (.int (x / y) :: st) M Q) : KK X d k pc lc (.int y :: .int x :: st) M Q := K_co h (fun _ => rfl) (fun _ => rfl) (fun _ => rfl) (fun _ => if_neg h0) kk
theorem K_irem {x y : Int32} (h : mfind (mm_cd k) pc = some (.irem, nx, a)) (h0 : ¬ y = 0) (kk : KK X d k nx lc (.int (x - x / y * y) :: st) M Q) : KK X d k pc lc (.int y :: .int x :: st) M Q := K_co h (fun _ => rfl) (fun _ => rfl) (fun _ => rfl) (fun _ => if_neg h0) kk
theorem K_ladd {x y : Int64} (h : mfind (mm_cd k) pc = some (.ladd, nx, a)) (kk : KK X d k nx lc (.long (x + y) :: st) M Q) : KK X d k pc lc (.long y :: .long x :: st) M Q := K_co h (fun _ => rfl) (fun _ => rfl) (fun _ => rfl) (fun _ => rfl) kk
theorem K_lsub {x y : Int64} (h : mfind (mm_cd k) pc = some (.lsub, nx, a)) (kk : KK X d k nx lc (.long (x - y) :: st) M Q) : KK X d k pc lc (.long y :: .long x :: st) M Q := K_co h (fun _ => rfl) (fun _ => rfl) (fun _ => rfl) (fun _ => rfl) kk
theorem K_lmul {x y : Int64} (h : mfind (mm_cd k) pc = some (.lmul, nx, a)) (kk : KK X d k nx lc (.long (x * y) :: st) M Q) : KK X d k pc lc (.long y :: .long x :: st) M Q := K_co h (fun _ => rfl) (fun _ => rfl) (fun _ => rfl) (fun _ => rfl) kk
theorem K_land {x y : Int64} (h : mfind (mm_cd k) pc = some (.land, nx, a)) (kk : KK X d k nx lc (.long (x &&& y) :: st) M Q) : KK X d k pc lc (.long y :: .long x :: st) M Q := K_co h (fun _ => rfl) (fun _ => rfl) (fun _ => rfl) (fun _ => rfl) kk
theorem K_lor {x y : Int64} (h : mfind (mm_cd k) pc = some (.lor, nx, a)) (kk : KK X d k nx lc (.long (x ||| y) :: st) M Q) : KK X d k pc lc (.long y :: .long x :: st) M Q := K_co h (fun _ => rfl) (fun _ => rfl) (fun _ => rfl) (fun _ => rfl) kk
theorem K_ldiv {x y : Int64} (h : mfind (mm_cd k) pc = some (.ldiv, nx, a)) (h0 : ¬ y = 0) (kk : KK X d k nx lc (.long (x / y) :: st) M Q) : KK X d k pc lc (.long y :: .long x :: st) M Q := K_co h (fun _ => rfl) (fun _ => rfl) (fun _ => rfl) (fun _ => if_neg h0) kk
theorem K_lrem {x y : Int64} (h : mfind (mm_cd k) pc = some (.lrem, nx, a)) (h0 : ¬ y = 0) (kk : KK X d k nx lc (.long (x - x / y * y) :: st) M Q) : KK X d k pc lc (.long y :: .long x :: st) M Q := K_co h (fun _ => rfl) (fun _ => rfl) (fun _ => rfl) (fun _ => if_neg h0) kk
theorem K_lcmp {x y : Int64} (h : mfind (mm_cd k) pc = some (.lcmp, nx, a)) (kk : KK X d k nx lc (.int (lg_cmp x y) :: st) M Q) : KK X d k pc lc (.long y :: .long x :: st) M Q := K_co h (fun _ => rfl) (fun _ => rfl) (fun _ => rfl) (fun _ => rfl) kk
theorem K_lshl {x : Int64} {y : Int32} (h : mfind (mm_cd k) pc = some (.lshl, nx, a)) (kk : KK X d k nx lc (.long (x <<< (y.toInt64 &&& 63)) :: st) M Q) : KK X d k pc lc (.int y :: .long x :: st) M Q := K_co h (fun _ => rfl) (fun _ => rfl) (fun _ => rfl) (fun _ => rfl) kk
theorem K_i2l {x : Int32} (h : mfind (mm_cd k) pc = some (.i2l, nx, a)) (kk : KK X d k nx lc (.long x.toInt64 :: st) M Q) : KK X d k pc lc (.int x :: st) M Q := K_co h (fun _ => rfl) (fun _ => rfl) (fun _ => rfl) (fun _ => rfl) kk
theorem K_l2i {x : Int64} (h : mfind (mm_cd k) pc = some (.l2i, nx, a)) (kk : KK X d k nx lc (.int x.toInt32 :: st) M Q) : KK X d k pc lc (.long x :: st) M Q := K_co h (fun _ => rfl) (fun _ => rfl) (fun _ => rfl) (fun _ => rfl) kk
theorem K_i2b {x : Int32} (h : mfind (mm_cd k) pc = some (.i2b, nx, a)) (kk : KK X d k nx lc (.int x.toInt8.toInt32 :: st) M Q) : KK X d k pc lc (.int x :: st) M Q := K_co h (fun _ => rfl) (fun _ => rfl) (fun _ => rfl) (fun _ => rfl) kk
theorem K_goto {o : Int} (h : mfind (mm_cd k) pc = some (.goto o, nx, a)) (kk : KK X d k a lc st M Q) : KK X d k pc lc st M Q := K_co h (fun _ => rfl) (fun _ => rfl) (fun _ => rfl) (fun _ => rfl) kk
theorem K_dup {v : Value} (h : mfind (mm_cd k) pc = some (.dup, nx, a)) (hv : v.category = 1) (kk : KK X d k nx lc (v :: v :: st) M Q) : KK X d k pc lc (v :: st) M Q := K_co h (fun _ => rfl) (fun _ => rfl) (fun _ => rfl) (fun _ => if_pos hv) kk
theorem K_dup2 {v w : Value} (h : mfind (mm_cd k) pc = some (.dup2, nx, a)) (hv : v.category = 1 ∧ w.category = 1) (kk : KK X d k nx lc (v :: w :: v :: w :: st) M Q) : KK X d k pc lc (v :: w :: st) M Q := K_co h (fun _ => rfl) (fun _ => rfl) (fun _ => rfl) (fun _ => if_pos hv) kk
theorem K_pop {v : Value} (h : mfind (mm_cd k) pc = some (.pop, nx, a)) (hv : v.category = 1) (kk : KK X d k nx lc st M Q) : KK X d k pc lc (v :: st) M Q := K_co h (fun _ => rfl) (fun _ => rfl) (fun _ => rfl) (fun _ => if_pos hv) kk
theorem K_if_eq {x : Int32} {o : Int} (h : mfind (mm_cd k) pc = some (.ifCond .eq o, nx, a)) (kt : x = 0 → KK X d k a lc st M Q) (kf : ¬ x = 0 → KK X d k nx lc st M Q) : KK X d k pc lc (.int x :: st) M Q := by
  by_cases z : x = 0
  · exact K_co h (fun _ => rfl) (fun _ => rfl) (fun _ => rfl) (fun _ => if_pos (decide_eq_true z)) (kt z)
  · exact K_co h (fun _ => rfl) (fun _ => rfl) (fun _ => rfl) (fun _ => if_neg (fun q => z (of_decide_eq_true q))) (kf z)
theorem K_ic_eq {x y : Int32} {o : Int} (h : mfind (mm_cd k) pc = some (.if_icmp .eq o, nx, a)) (kt : x = y → KK X d k a lc st M Q) (kf : ¬ x = y → KK X d k nx lc st M Q) : KK X d k pc lc (.int y :: .int x :: st) M Q := by
  by_cases z : x = y
  · exact K_co h (fun _ => rfl) (fun _ => rfl) (fun _ => rfl) (fun _ => if_pos (decide_eq_true z)) (kt z)
  · exact K_co h (fun _ => rfl) (fun _ => rfl) (fun _ => rfl) (fun _ => if_neg (fun q => z (of_decide_eq_true q))) (kf z)
theorem K_if_ne {x : Int32} {o : Int} (h : mfind (mm_cd k) pc = some (.ifCond .ne o, nx, a)) (kt : ¬ x = 0 → KK X d k a lc st M Q) (kf : x = 0 → KK X d k nx lc st M Q) : KK X d k pc lc (.int x :: st) M Q := by
  by_cases z : x = 0
  · exact K_co h (fun _ => rfl) (fun _ => rfl) (fun _ => rfl) (fun _ => if_neg (fun q => absurd z (of_decide_eq_true q))) (kf z)
  · exact K_co h (fun _ => rfl) (fun _ => rfl) (fun _ => rfl) (fun _ => if_pos (decide_eq_true z)) (kt z)
theorem K_ic_ne {x y : Int32} {o : Int} (h : mfind (mm_cd k) pc = some (.if_icmp .ne o, nx, a)) (kt : ¬ x = y → KK X d k a lc st M Q) (kf : x = y → KK X d k nx lc st M Q) : KK X d k pc lc (.int y :: .int x :: st) M Q := by
  by_cases z : x = y
  · exact K_co h (fun _ => rfl) (fun _ => rfl) (fun _ => rfl) (fun _ => if_neg (fun q => absurd z (of_decide_eq_true q))) (kf z)
  · exact K_co h (fun _ => rfl) (fun _ => rfl) (fun _ => rfl) (fun _ => if_pos (decide_eq_true z)) (kt z)
theorem K_if_lt {x : Int32} {o : Int} (h : mfind (mm_cd k) pc = some (.ifCond .lt o, nx, a)) (kt : x < 0 → KK X d k a lc st M Q) (kf : ¬ x < 0 → KK X d k nx lc st M Q) : KK X d k pc lc (.int x :: st) M Q := by
  by_cases z : x < 0
  · exact K_co h (fun _ => rfl) (fun _ => rfl) (fun _ => rfl) (fun _ => if_pos (decide_eq_true z)) (kt z)
  · exact K_co h (fun _ => rfl) (fun _ => rfl) (fun _ => rfl) (fun _ => if_neg (fun q => z (of_decide_eq_true q))) (kf z)
theorem K_ic_lt {x y : Int32} {o : Int} (h : mfind (mm_cd k) pc = some (.if_icmp .lt o, nx, a)) (kt : x < y → KK X d k a lc st M Q) (kf : ¬ x < y → KK X d k nx lc st M Q) : KK X d k pc lc (.int y :: .int x :: st) M Q := by
  by_cases z : x < y
  · exact K_co h (fun _ => rfl) (fun _ => rfl) (fun _ => rfl) (fun _ => if_pos (decide_eq_true z)) (kt z)
  · exact K_co h (fun _ => rfl) (fun _ => rfl) (fun _ => rfl) (fun _ => if_neg (fun q => z (of_decide_eq_true q))) (kf z)
theorem K_if_ge {x : Int32} {o : Int} (h : mfind (mm_cd k) pc = some (.ifCond .ge o, nx, a)) (kt : 0 ≤ x → KK X d k a lc st M Q) (kf : ¬ 0 ≤ x → KK X d k nx lc st M Q) : KK X d k pc lc (.int x :: st) M Q := by
  by_cases z : 0 ≤ x
  · exact K_co h (fun _ => rfl) (fun _ => rfl) (fun _ => rfl) (fun _ => if_pos (decide_eq_true z)) (kt z)
  · exact K_co h (fun _ => rfl) (fun _ => rfl) (fun _ => rfl) (fun _ => if_neg (fun q => z (of_decide_eq_true q))) (kf z)
theorem K_ic_ge {x y : Int32} {o : Int} (h : mfind (mm_cd k) pc = some (.if_icmp .ge o, nx, a)) (kt : y ≤ x → KK X d k a lc st M Q) (kf : ¬ y ≤ x → KK X d k nx lc st M Q) : KK X d k pc lc (.int y :: .int x :: st) M Q := by
  by_cases z : y ≤ x
  · exact K_co h (fun _ => rfl) (fun _ => rfl) (fun _ => rfl) (fun _ => if_pos (decide_eq_true z)) (kt z)
  · exact K_co h (fun _ => rfl) (fun _ => rfl) (fun _ => rfl) (fun _ => if_neg (fun q => z (of_decide_eq_true q))) (kf z)
theorem K_if_gt {x : Int32} {o : Int} (h : mfind (mm_cd k) pc = some (.ifCond .gt o, nx, a)) (kt : 0 < x → KK X d k a lc st M Q) (kf : ¬ 0 < x → KK X d k nx lc st M Q) : KK X d k pc lc (.int x :: st) M Q := by
  by_cases z : 0 < x
  · exact K_co h (fun _ => rfl) (fun _ => rfl) (fun _ => rfl) (fun _ => if_pos (decide_eq_true z)) (kt z)
  · exact K_co h (fun _ => rfl) (fun _ => rfl) (fun _ => rfl) (fun _ => if_neg (fun q => z (of_decide_eq_true q))) (kf z)
theorem K_ic_gt {x y : Int32} {o : Int} (h : mfind (mm_cd k) pc = some (.if_icmp .gt o, nx, a)) (kt : y < x → KK X d k a lc st M Q) (kf : ¬ y < x → KK X d k nx lc st M Q) : KK X d k pc lc (.int y :: .int x :: st) M Q := by
  by_cases z : y < x
  · exact K_co h (fun _ => rfl) (fun _ => rfl) (fun _ => rfl) (fun _ => if_pos (decide_eq_true z)) (kt z)
  · exact K_co h (fun _ => rfl) (fun _ => rfl) (fun _ => rfl) (fun _ => if_neg (fun q => z (of_decide_eq_true q))) (kf z)
theorem K_if_le {x : Int32} {o : Int} (h : mfind (mm_cd k) pc = some (.ifCond .le o, nx, a)) (kt : x ≤ 0 → KK X d k a lc st M Q) (kf : ¬ x ≤ 0 → KK X d k nx lc st M Q) : KK X d k pc lc (.int x :: st) M Q := by
  by_cases z : x ≤ 0
  · exact K_co h (fun _ => rfl) (fun _ => rfl) (fun _ => rfl) (fun _ => if_pos (decide_eq_true z)) (kt z)
  · exact K_co h (fun _ => rfl) (fun _ => rfl) (fun _ => rfl) (fun _ => if_neg (fun q => z (of_decide_eq_true q))) (kf z)
theorem K_ic_le {x y : Int32} {o : Int} (h : mfind (mm_cd k) pc = some (.if_icmp .le o, nx, a)) (kt : x ≤ y → KK X d k a lc st M Q) (kf : ¬ x ≤ y → KK X d k nx lc st M Q) : KK X d k pc lc (.int y :: .int x :: st) M Q := by
  by_cases z : x ≤ y
  · exact K_co h (fun _ => rfl) (fun _ => rfl) (fun _ => rfl) (fun _ => if_pos (decide_eq_true z)) (kt z)
  · exact K_co h (fun _ => rfl) (fun _ => rfl) (fun _ => rfl) (fun _ => if_neg (fun q => z (of_decide_eq_true q))) (kf z)
theorem K_ifnull {r : Option Nat} {o : Int} (h : mfind (mm_cd k) pc = some (.ifnull o, nx, a)) (kn : r = none → KK X d k a lc st M Q) (ks : ∀ y, r = some y → KK X d k nx lc st M Q) : KK X d k pc lc (va_rf r :: st) M Q := by
  cases r with
  | none => exact K_co h (fun _ => rfl) (fun _ => rfl) (fun _ => rfl) (fun _ => rfl) (kn rfl)
  | some y => exact K_co h (fun _ => rfl) (fun _ => rfl) (fun _ => rfl) (fun _ => rfl) (ks y rfl)
theorem K_ifnonnull {r : Option Nat} {o : Int} (h : mfind (mm_cd k) pc = some (.ifnonnull o, nx, a)) (kn : r = none → KK X d k nx lc st M Q) (ks : ∀ y, r = some y → KK X d k a lc st M Q) : KK X d k pc lc (va_rf r :: st) M Q := by
  cases r with
  | none => exact K_co h (fun _ => rfl) (fun _ => rfl) (fun _ => rfl) (fun _ => rfl) (kn rfl)
  | some y => exact K_co h (fun _ => rfl) (fun _ => rfl) (fun _ => rfl) (fun _ => rfl) (ks y rfl)
theorem K_ifnullR {r : Nat} {o : Int} (h : mfind (mm_cd k) pc = some (.ifnull o, nx, a)) (kk : KK X d k nx lc st M Q) : KK X d k pc lc (.ref r :: st) M Q := K_co h (fun _ => rfl) (fun _ => rfl) (fun _ => rfl) (fun _ => rfl) kk
theorem K_ifnonnullR {r : Nat} {o : Int} (h : mfind (mm_cd k) pc = some (.ifnonnull o, nx, a)) (kk : KK X d k a lc st M Q) : KK X d k pc lc (.ref r :: st) M Q := K_co h (fun _ => rfl) (fun _ => rfl) (fun _ => rfl) (fun _ => rfl) kk
/-- fields -/
theorem K_get {x p : Nat} {s : Nat × Nat} {v : Value} (h : mfind (mm_cd k) pc = some (.getfield x, nx, a)) (hs : M.1[p]? = some s) (ht : s.1 = a / 100) (hv : mVp M p (mm_ty (a / 100) (a % 100)) (a % 100) = v) (kk : KK X d k nx lc (v :: st) M Q) : KK X d k pc lc (.ref p :: st) M Q := by
  subst hv
  refine K_co h (fun _ => rfl) (fun _ => rfl) (fun _ => rfl) (fun ls => ?_) kk
  show mq_get nx a (pc, ls, .ref p :: st, M) = _
  simp only [mq_get, hs, ht, if_true]
theorem K_getI {x p : Nat} {s : Nat × Nat} (h : mfind (mm_cd k) pc = some (.getfield x, nx, a)) (hs : M.1[p]? = some s) (ht : s.1 = a / 100) (hk : mkf (mm_ty (a / 100) (a % 100)) = 0) (i : Nat) (hi : a % 100 = i) (kk : KK X d k nx lc (.int (M.2.1 p i) :: st) M Q) : KK X d k pc lc (.ref p :: st) M Q := by
  subst hi
  exact K_get h hs ht (by simp only [mVp, hk]) kk
theorem K_getL {x p : Nat} {s : Nat × Nat} (h : mfind (mm_cd k) pc = some (.getfield x, nx, a)) (hs : M.1[p]? = some s) (ht : s.1 = a / 100) (hk : mkf (mm_ty (a / 100) (a % 100)) = 1) (i : Nat) (hi : a % 100 = i) (kk : KK X d k nx lc (.long (M.2.2.1 p i) :: st) M Q) : KK X d k pc lc (.ref p :: st) M Q := by
  subst hi
  exact K_get h hs ht (by simp only [mVp, hk]) kk
theorem K_getQ {x p : Nat} {s : Nat × Nat} (h : mfind (mm_cd k) pc = some (.getfield x, nx, a)) (hs : M.1[p]? = some s) (ht : s.1 = a / 100) (hk : mkf (mm_ty (a / 100) (a % 100)) = 2) (i : Nat) (hi : a % 100 = i) (kk : KK X d k nx lc (va_rf (M.2.2.2 p i) :: st) M Q) : KK X d k pc lc (.ref p :: st) M Q := by
  subst hi
  exact K_get h hs ht (by simp only [mVp, hk]) kk
theorem K_getR {x p q : Nat} {s : Nat × Nat} (h : mfind (mm_cd k) pc = some (.getfield x, nx, a)) (hs : M.1[p]? = some s) (ht : s.1 = a / 100) (hk : mkf (mm_ty (a / 100) (a % 100)) = 2) (i : Nat) (hi : a % 100 = i) (hr : M.2.2.2 p i = some q) (kk : KK X d k nx lc (.ref q :: st) M Q) : KK X d k pc lc (.ref p :: st) M Q := by
  subst hi
  exact K_get h hs ht (by simp only [mVp, hk, hr]; rfl) kk
theorem K_put {x p : Nat} {s : Nat × Nat} {v : Value} (h : mfind (mm_cd k) pc = some (.putfield x, nx, a)) (hs : M.1[p]? = some s) (ht : s.1 = a / 100) (hv : mq_putv M p (mm_ty (a / 100) (a % 100)) (a % 100) v = some M') (kk : KK X d k nx lc st M' Q) : KK X d k pc lc (v :: .ref p :: st) M Q := by
  refine K_co h (fun _ => rfl) (fun _ => rfl) (fun _ => rfl) (fun ls => ?_) kk
  show mq_put nx a (pc, ls, v :: .ref p :: st, M) = _
  simp only [mq_put, hs, ht, if_true, hv, Option.map_some]
theorem K_putI {x p : Nat} {s : Nat × Nat} {v : Int32} (h : mfind (mm_cd k) pc = some (.putfield x, nx, a)) (hs : M.1[p]? = some s) (ht : s.1 = a / 100) (hk : mm_ty (a / 100) (a % 100) = .int) (i : Nat) (hi : a % 100 = i) (kk : KK X d k nx lc st (msI M p i v) Q) : KK X d k pc lc (.int v :: .ref p :: st) M Q := by
  subst hi
  exact K_put h hs ht (by rw [hk]; rfl) kk
theorem K_putZ {x p : Nat} {s : Nat × Nat} {v : Int32} (h : mfind (mm_cd k) pc = some (.putfield x, nx, a)) (hs : M.1[p]? = some s) (ht : s.1 = a / 100) (hk : mm_ty (a / 100) (a % 100) = .boolean) (i : Nat) (hi : a % 100 = i) (hv : v = 0 ∨ v = 1) (kk : KK X d k nx lc st (msI M p i v) Q) : KK X d k pc lc (.int v :: .ref p :: st) M Q := by
  subst hi
  exact K_put h hs ht (by rw [hk]; rcases hv with rfl | rfl <;> rfl) kk
theorem K_putL {x p : Nat} {s : Nat × Nat} {v : Int64} (h : mfind (mm_cd k) pc = some (.putfield x, nx, a)) (hs : M.1[p]? = some s) (ht : s.1 = a / 100) (hk : mm_ty (a / 100) (a % 100) = .long) (i : Nat) (hi : a % 100 = i) (kk : KK X d k nx lc st (msL M p i v) Q) : KK X d k pc lc (.long v :: .ref p :: st) M Q := by
  subst hi
  exact K_put h hs ht (by rw [hk]; rfl) kk
theorem K_putR {x p : Nat} {s : Nat × Nat} {v : Nat} (h : mfind (mm_cd k) pc = some (.putfield x, nx, a)) (hs : M.1[p]? = some s) (ht : s.1 = a / 100) (hk : mkf (mm_ty (a / 100) (a % 100)) = 2) (i : Nat) (hi : a % 100 = i) (kk : KK X d k nx lc st (msR M p i (some v)) Q) : KK X d k pc lc (.ref v :: .ref p :: st) M Q := by
  subst hi
  exact K_put h hs ht (by simp only [mq_putv, hk]) kk
theorem K_putQ {x p : Nat} {s : Nat × Nat} {v : Option Nat} (h : mfind (mm_cd k) pc = some (.putfield x, nx, a)) (hs : M.1[p]? = some s) (ht : s.1 = a / 100) (hk : mkf (mm_ty (a / 100) (a % 100)) = 2) (i : Nat) (hi : a % 100 = i) (kk : KK X d k nx lc st (msR M p i v) Q) : KK X d k pc lc (va_rf v :: .ref p :: st) M Q := by
  subst hi
  cases v with
  | none => exact K_put h hs ht (by simp only [mq_putv, hk, va_rf]) kk
  | some v => exact K_put h hs ht (by simp only [mq_putv, hk, va_rf]) kk
/-- arrays -/
theorem K_iald {p n : Nat} {i : Int32} (h : mfind (mm_cd k) pc = some (.iaload, nx, a)) (hs : M.1[p]? = some (20, n)) (hp : p ≠ mscr) (hi : mxin i n = true) (kk : KK X d k nx lc (.int (M.2.1 p i.toNatClampNeg) :: st) M Q) : KK X d k pc lc (.int i :: .ref p :: st) M Q := by
  refine K_co h (fun _ => rfl) (fun _ => rfl) (fun _ => rfl) (fun ls => ?_) kk
  show mq_iald X nx (pc, ls, .int i :: .ref p :: st, M) = _
  simp only [mq_iald, hp, if_false, hs, hi, and_self, if_true]
theorem K_sald {i : Int32} (h : mfind (mm_cd k) pc = some (.iaload, nx, a)) (hi : mxin i X.1 = true) (kk : KK X d k nx lc (.int (X.2 i.toNatClampNeg) :: st) M Q) : KK X d k pc lc (.int i :: .ref mscr :: st) M Q := by
  refine K_co h (fun _ => rfl) (fun _ => rfl) (fun _ => rfl) (fun ls => ?_) kk
  show mq_iald X nx (pc, ls, .int i :: .ref mscr :: st, M) = _
  simp only [mq_iald, if_true, hi]
theorem K_bald {p n t : Nat} {i : Int32} (h : mfind (mm_cd k) pc = some (.baload, nx, a)) (hs : M.1[p]? = some (t, n)) (ht : t = 21 ∨ t = 22) (hi : mxin i n = true) (kk : KK X d k nx lc (.int (M.2.1 p i.toNatClampNeg) :: st) M Q) : KK X d k pc lc (.int i :: .ref p :: st) M Q := by
  refine K_co h (fun _ => rfl) (fun _ => rfl) (fun _ => rfl) (fun ls => ?_) kk
  show mq_bald nx (pc, ls, .int i :: .ref p :: st, M) = _
  simp only [mq_bald, hs]
  rw [if_pos ⟨ht, hi⟩]
theorem K_lald {p n : Nat} {i : Int32} (h : mfind (mm_cd k) pc = some (.laload, nx, a)) (hs : M.1[p]? = some (23, n)) (hi : mxin i n = true) (kk : KK X d k nx lc (.long (M.2.2.1 p i.toNatClampNeg) :: st) M Q) : KK X d k pc lc (.int i :: .ref p :: st) M Q := by
  refine K_co h (fun _ => rfl) (fun _ => rfl) (fun _ => rfl) (fun ls => ?_) kk
  show mq_lald nx (pc, ls, .int i :: .ref p :: st, M) = _
  simp only [mq_lald, hs, hi, and_self, if_true]
theorem K_aald {p n t q : Nat} {i : Int32} (h : mfind (mm_cd k) pc = some (.aaload, nx, a)) (hs : M.1[p]? = some (t, n)) (ht : 24 ≤ t ∧ t ≤ 26) (hi : mxin i n = true) (hr : M.2.2.2 p i.toNatClampNeg = some q) (kk : KK X d k nx lc (.ref q :: st) M Q) : KK X d k pc lc (.int i :: .ref p :: st) M Q := by
  refine K_co h (fun _ => rfl) (fun _ => rfl) (fun _ => rfl) (fun ls => ?_) kk
  show mq_aald nx (pc, ls, .int i :: .ref p :: st, M) = _
  simp only [mq_aald, hs]
  rw [if_pos ⟨ht, hi⟩, hr]
  rfl
theorem K_iast {p n : Nat} {i x : Int32} (h : mfind (mm_cd k) pc = some (.iastore, nx, a)) (hs : M.1[p]? = some (20, n)) (hi : mxin i n = true) (kk : KK X d k nx lc st (msI M p i.toNatClampNeg x) Q) : KK X d k pc lc (.int x :: .int i :: .ref p :: st) M Q := by
  refine K_co h (fun _ => rfl) (fun _ => rfl) (fun _ => rfl) (fun ls => ?_) kk
  show mq_iast nx (pc, ls, .int x :: .int i :: .ref p :: st, M) = _
  simp only [mq_iast, hs, hi, and_self, if_true]
theorem K_bast {p n : Nat} {i x : Int32} (h : mfind (mm_cd k) pc = some (.bastore, nx, a)) (hs : M.1[p]? = some (21, n)) (hi : mxin i n = true) (kk : KK X d k nx lc st (msI M p i.toNatClampNeg (vp_nar .byte x)) Q) : KK X d k pc lc (.int x :: .int i :: .ref p :: st) M Q := by
  refine K_co h (fun _ => rfl) (fun _ => rfl) (fun _ => rfl) (fun ls => ?_) kk
  show mq_bast nx (pc, ls, .int x :: .int i :: .ref p :: st, M) = _
  simp only [mq_bast, hs, hi, if_true]
theorem K_zast {p n : Nat} {i x : Int32} (h : mfind (mm_cd k) pc = some (.bastore, nx, a)) (hs : M.1[p]? = some (22, n)) (hi : mxin i n = true) (kk : KK X d k nx lc st (msI M p i.toNatClampNeg (vp_nar .boolean x)) Q) : KK X d k pc lc (.int x :: .int i :: .ref p :: st) M Q := by
  refine K_co h (fun _ => rfl) (fun _ => rfl) (fun _ => rfl) (fun ls => ?_) kk
  show mq_bast nx (pc, ls, .int x :: .int i :: .ref p :: st, M) = _
  simp only [mq_bast, hs, hi, if_true]
  rfl
theorem K_last {p n : Nat} {i : Int32} {x : Int64} (h : mfind (mm_cd k) pc = some (.lastore, nx, a)) (hs : M.1[p]? = some (23, n)) (hi : mxin i n = true) (kk : KK X d k nx lc st (msL M p i.toNatClampNeg x) Q) : KK X d k pc lc (.long x :: .int i :: .ref p :: st) M Q := by
  refine K_co h (fun _ => rfl) (fun _ => rfl) (fun _ => rfl) (fun ls => ?_) kk
  show mq_last nx (pc, ls, .long x :: .int i :: .ref p :: st, M) = _
  simp only [mq_last, hs, hi, and_self, if_true]
theorem K_alen {p n t : Nat} (h : mfind (mm_cd k) pc = some (.arraylength, nx, a)) (hs : M.1[p]? = some (t, n)) (ht : 20 ≤ t ∧ t ≤ 26) (hp : p ≠ mscr) {v : Int32} (hv : Int32.ofNat n = v) (kk : KK X d k nx lc (.int v :: st) M Q) : KK X d k pc lc (.ref p :: st) M Q := by
  subst hv
  refine K_co h (fun _ => rfl) (fun _ => rfl) (fun _ => rfl) (fun ls => ?_) kk
  show mq_alen X nx (pc, ls, .ref p :: st, M) = _
  simp only [mq_alen, hp, if_false, hs]
  rw [if_pos ht]
theorem K_slen (h : mfind (mm_cd k) pc = some (.arraylength, nx, a)) (kk : KK X d k nx lc (.int (Int32.ofNat X.1) :: st) M Q) : KK X d k pc lc (.ref mscr :: st) M Q := by
  refine K_co h (fun _ => rfl) (fun _ => rfl) (fun _ => rfl) (fun ls => ?_) kk
  show mq_alen X nx (pc, ls, .ref mscr :: st, M) = _
  simp only [mq_alen, if_true]
theorem K_acp {p q n0 n1 x : Nat} {sp dp n : Int32} (h : mfind (mm_cd k) pc = some (.invokestatic x, nx, 9001)) (hs : M.1[p]? = some (20, n0)) (ht : M.1[q]? = some (20, n1)) (hc : ¬ sp < 0 ∧ ¬ dp < 0 ∧ ¬ n < 0 ∧ sp.toNatClampNeg + n.toNatClampNeg ≤ n0 ∧ dp.toNatClampNeg + n.toNatClampNeg ≤ n1) (hl : st.length ≤ 4) (kk : KK X d k nx lc st (mcpy M p q sp.toNatClampNeg dp.toNatClampNeg n.toNatClampNeg) Q) : KK X d k pc lc (.int n :: .int dp :: .ref q :: .int sp :: .ref p :: st) M Q := by
  refine K_co h (fun _ => rfl) (fun _ => rfl) (fun _ => rfl) (fun ls => ?_) kk
  show mq_ac nx (pc, ls, .int n :: .int dp :: .ref q :: .int sp :: .ref p :: st, M) = _
  simp only [mq_ac, hs, ht]
  rw [if_pos ⟨trivial, trivial, hc.1, hc.2.1, hc.2.2.1, hc.2.2.2.1, hc.2.2.2.2, hl⟩]
theorem K_max {x : Nat} {u v : Int32} (h : mfind (mm_cd k) pc = some (.invokestatic x, nx, 9002)) (hl : st.length ≤ 4) (kk : KK X d k nx lc (.int (if u < v then v else u) :: st) M Q) : KK X d k pc lc (.int v :: .int u :: st) M Q := K_co h (fun _ => rfl) (fun _ => rfl) (fun _ => rfl) (fun _ => if_pos hl) kk
theorem K_min {x : Nat} {u v : Int32} (h : mfind (mm_cd k) pc = some (.invokestatic x, nx, 9003)) (hl : st.length ≤ 4) (kk : KK X d k nx lc (.int (if v < u then v else u) :: st) M Q) : KK X d k pc lc (.int v :: .int u :: st) M Q := K_co h (fun _ => rfl) (fun _ => rfl) (fun _ => rfl) (fun _ => if_pos hl) kk
theorem K_maxl {x : Nat} {u v : Int64} (h : mfind (mm_cd k) pc = some (.invokestatic x, nx, 9004)) (hl : st.length ≤ 4) (kk : KK X d k nx lc (.long (if v < u then u else v) :: st) M Q) : KK X d k pc lc (.long v :: .long u :: st) M Q := K_co h (fun _ => rfl) (fun _ => rfl) (fun _ => rfl) (fun _ => if_pos hl) kk
theorem K_minl {x : Nat} {u v : Int64} (h : mfind (mm_cd k) pc = some (.invokestatic x, nx, 9005)) (hl : st.length ≤ 4) (kk : KK X d k nx lc (.long (if v < u then v else u) :: st) M Q) : KK X d k pc lc (.long v :: .long u :: st) M Q := K_co h (fun _ => rfl) (fun _ => rfl) (fun _ => rfl) (fun _ => if_pos hl) kk
theorem K_ts {dd lo hi : Int} {os : Array Int} {x : Int32} {t : Nat} (h : mfind (mm_cd k) pc = some (.tableswitch dd lo hi os, nx, a)) (hm : ∀ ls, mq_ts dd lo hi os pc a (pc, ls, .int x :: st, M) = some (t, ls, st, M)) (kk : KK X d k t lc st M Q) : KK X d k pc lc (.int x :: st) M Q := K_co h (fun _ => rfl) (fun _ => rfl) (fun _ => rfl) hm kk
theorem K_tsd {dd lo hi : Int} {os : Array Int} {x : Int32} (h : mfind (mm_cd k) pc = some (.tableswitch dd lo hi os, nx, a)) (hx : x.toInt < lo ∨ hi < x.toInt) (kk : KK X d k a lc st M Q) : KK X d k pc lc (.int x :: st) M Q := K_co h (fun _ => rfl) (fun _ => rfl) (fun _ => rfl) (fun _ => if_pos hx) kk
theorem K_ls {dd : Int} {ps : Array (Int × Int)} {x : Int32} {t : Nat} (h : mfind (mm_cd k) pc = some (.lookupswitch dd ps, nx, a)) (ht : (pc : Int) + Op.lookupswitch.offset ps.toList dd x.toInt = (t : Int)) (kk : KK X d k t lc st M Q) : KK X d k pc lc (.int x :: st) M Q := by
  refine K_co h (fun _ => rfl) (fun _ => rfl) (fun _ => rfl) (fun ls => ?_) kk
  show mq_ls dd ps pc (pc, ls, .int x :: st, M) = _
  simp only [mq_ls, ht, Int.toNat_natCast]
  rw [if_pos (Int.natCast_nonneg t)]
/-- answers -/
theorem K_re {i : Instr} {v : Option Value} (h : mfind (mm_cd k) pc = some (i, nx, a)) (hr : ∀ ls, mRe k i (pc, ls, st, M) = some (v, M')) (kk : Q v M') : KK X d k pc lc st M Q := fun ls _ => RR_re h (hr ls) kk
theorem K_iret {v : Int32} (h : mfind (mm_cd k) pc = some (.ireturn, nx, a)) (hk : mm_rk k = 1 ∨ (mm_rk k = 2 ∧ (v = 0 ∨ v = 1))) (kk : Q (some (.int v)) M) : KK X d k pc lc [.int v] M Q := K_re h (fun _ => if_pos hk) kk
theorem K_lret {v : Int64} (h : mfind (mm_cd k) pc = some (.lreturn, nx, a)) (hk : mm_rk k = 3) (kk : Q (some (.long v)) M) : KK X d k pc lc [.long v] M Q := K_re h (fun _ => if_pos hk) kk
theorem K_aret {r : Option Nat} (h : mfind (mm_cd k) pc = some (.areturn, nx, a)) (hk : mm_rk k = 4 ∨ mm_rk k = 6 ∨ mm_rk k = 7) (kk : Q (some (va_rf r)) M) : KK X d k pc lc [va_rf r] M Q := by
  cases r with
  | none => exact K_re h (fun _ => if_pos hk) kk
  | some r => exact K_re h (fun _ => if_pos hk) kk
theorem K_vret (h : mfind (mm_cd k) pc = some (.return_, nx, a)) (hk : mm_rk k = 0) (kk : Q none M) : KK X d k pc lc [] M Q := K_re h (fun _ => if_pos hk) kk
/-- calls -/
theorem K_ca {i : Instr} {j : Nat} {as rest : List Value} {P : Option Value → mM → Prop} (h : mfind (mm_cd k) pc = some (i, nx, a)) (hr : ∀ f, mRe k i f = none) (hc : ∀ ls, mCa i nx a (pc, ls, st, M) = some (j, as, (nx, ls, rest, M))) (he : EV X d j as M P) (kk : ∀ v M', P v M' → KK X d k nx lc (v.toList ++ rest) M' Q) : KK X d k pc lc st M Q :=
  fun ls hl => RR_ca h (hr _) (hc ls) he (fun v M' hp => kk v M' hp ls hl)
theorem mca_take {as rest : List Value} {n : Nat} (hn : n = as.length) : ((as.reverse ++ rest).take n).reverse = as ∧ (as.reverse ++ rest).drop n = rest := by
  subst hn
  constructor
  · rw [List.take_append_of_le_length (by simp), List.take_of_length_le (by simp), List.reverse_reverse]
  · rw [List.drop_append_of_le_length (by simp), List.drop_of_length_le (by simp)]
    rfl
theorem K_callV {x b : Nat} {s : Nat × Nat} {P : Option Value → mM → Prop} (as rest : List Value) (h : mfind (mm_cd k) pc = some (.invokevirtual x, nx, a)) (hn : mm_np a = as.length) (ha : a < 248) (hl : rest.length ≤ 4) (hs : M.1[b]? = some s) (ho : s.1 = mm_ow a) (he : EV X d a (.ref b :: as) M P) (kk : ∀ v M', P v M' → KK X d k nx lc (v.toList ++ rest) M' Q) : KK X d k pc lc (as.reverse ++ .ref b :: rest) M Q := by
  refine K_ca h (fun _ => rfl) (fun ls => ?_) he kk
  obtain ⟨t1, t2⟩ := mca_take (as := as) (rest := .ref b :: rest) hn
  simp only [mCa, t1, t2]
  rw [if_pos ⟨hl, Or.inr ⟨ha, by rw [hs]; exact congrArg some ho⟩⟩]
theorem K_callT {x b : Nat} {P : Option Value → mM → Prop} (as rest : List Value) (h : mfind (mm_cd k) pc = some (.invokevirtual x, nx, a)) (hn : mm_np a = as.length) (ha : a = 248 ∨ a = 249) (hl : rest.length ≤ 4) (hb : b < 8) (he : EV X d a (.ref (mstr + b) :: as) M P) (kk : ∀ v M', P v M' → KK X d k nx lc (v.toList ++ rest) M' Q) : KK X d k pc lc (as.reverse ++ .ref (mstr + b) :: rest) M Q := by
  refine K_ca h (fun _ => rfl) (fun ls => ?_) he kk
  obtain ⟨t1, t2⟩ := mca_take (as := as) (rest := .ref (mstr + b) :: rest) hn
  simp only [mCa, t1, t2]
  rw [if_pos ⟨hl, Or.inl ⟨Nat.le_add_right _ _, Nat.add_lt_add_left hb _, ha⟩⟩]
theorem K_callS {x : Nat} {P : Option Value → mM → Prop} (as rest : List Value) (h : mfind (mm_cd k) pc = some (.invokestatic x, nx, a)) (hn : mm_np a = as.length) (ha : a < 9000) (hl : rest.length ≤ 4) (he : EV X d a as M P) (kk : ∀ v M', P v M' → KK X d k nx lc (v.toList ++ rest) M' Q) : KK X d k pc lc (as.reverse ++ rest) M Q := by
  refine K_ca h (fun _ => rfl) (fun ls => ?_) he kk
  obtain ⟨t1, t2⟩ := mca_take (as := as) (rest := rest) hn
  simp only [mCa, t1, t2]
  rw [if_pos ha, if_pos ⟨by rw [hn]; simp, hl⟩]
end KROWS
