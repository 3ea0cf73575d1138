/-! ===== an instruction that goes on and makes no cell: the real machine does the same ===== -/
section MCO
variable {p : Program} {l : Launch} {e : Env} {R : Room} {s : State} {m : MethodId} {args : Array Value} {below : List Frame} {meth : Method} {c : Code} {H : Heap} {locs : List Loc} {cells slots : Nat} {Q : State → Prop}
variable {cc : ByteArray} {pc : Nat} {lsA : Array Slot}
theorem W_if (hexec : p.tables.exec = Jvm.exec) (hb : c.code = cc) {cd : ClassFile.Cond} {x : Int32} {off : Int} {tgt : Nat} {rest : List Value} (hdg : decode cc pc = .ok (.ifCond cd off, 3)) (ht : (pc : Int) + off = (tgt : Int))
    (kt : mcond cd x 0 = true → W p l e R s m args below meth c H locs cells slots Q (F0 m tgt lsA rest)) (kf : mcond cd x 0 = false → W p l e R s m args below meth c H locs cells slots Q (F0 m (pc + 3) lsA rest)) : W p l e R s m args below meth c H locs cells slots Q (F0 m pc lsA (.int x :: rest)) := by
  cases cd
  · exact lv_if_eq hexec hb hdg ht (fun h => kt (decide_eq_true h)) (fun h => kf (decide_eq_false h))
  · exact lv_if_ne hexec hb hdg ht (fun h => kt (decide_eq_true h)) (fun h => kf (decide_eq_false (fun q => q h)))
  · exact lv_if_lt hexec hb hdg ht (fun h => kt (decide_eq_true h)) (fun h => kf (decide_eq_false h))
  · exact lv_if_ge hexec hb hdg ht (fun h => kt (decide_eq_true h)) (fun h => kf (decide_eq_false h))
  · exact lv_if_gt hexec hb hdg ht (fun h => kt (decide_eq_true h)) (fun h => kf (decide_eq_false h))
  · exact lv_if_le hexec hb hdg ht (fun h => kt (decide_eq_true h)) (fun h => kf (decide_eq_false h))
theorem W_icmp (hexec : p.tables.exec = Jvm.exec) (hb : c.code = cc) {cd : ClassFile.Cond} {x y : Int32} {off : Int} {tgt : Nat} {rest : List Value} (hdg : decode cc pc = .ok (.if_icmp cd off, 3)) (ht : (pc : Int) + off = (tgt : Int))
    (kt : mcond cd x y = true → W p l e R s m args below meth c H locs cells slots Q (F0 m tgt lsA rest)) (kf : mcond cd x y = false → W p l e R s m args below meth c H locs cells slots Q (F0 m (pc + 3) lsA rest)) : W p l e R s m args below meth c H locs cells slots Q (F0 m pc lsA (.int y :: .int x :: rest)) := by
  cases cd
  · exact lv_icmp_eq hexec hb hdg ht (fun h => kt (decide_eq_true h)) (fun h => kf (decide_eq_false h))
  · exact lv_icmp_ne hexec hb hdg ht (fun h => kt (decide_eq_true h)) (fun h => kf (decide_eq_false (fun q => q h)))
  · exact lv_icmp_lt hexec hb hdg ht (fun h => kt (decide_eq_true h)) (fun h => kf (decide_eq_false h))
  · exact lv_icmp_ge hexec hb hdg ht (fun h => kt (decide_eq_true h)) (fun h => kf (decide_eq_false h))
  · exact lv_icmp_gt hexec hb hdg ht (fun h => kt (decide_eq_true h)) (fun h => kf (decide_eq_false h))
  · exact lv_icmp_le hexec hb hdg ht (fun h => kt (decide_eq_true h)) (fun h => kf (decide_eq_false h))
/-- what holds in the body of method k: the machine, its bytes, the words, the world, the locals -/
def mAt (G : mG) (k : Nat) (p : Program) (R : Room) (s : State) (m : MethodId) (args : Array Value) (meth : Method) (c : Code) (cc : ByteArray) (cells slots : Nat) : Prop :=
  p.tables.exec = Jvm.exec ∧ c.code = cc ∧ c.maxLocals = mm_ml k ∧ s.vm.findClass (mm_R (mm_ow k)) = some m.cls ∧ (∀ w ∈ mm_gw, w.before args s = true) ∧ mEnv G s ∧ (mm_st k = 2 → meth.name = "<init>") ∧ 1 ≤ R.frames ∧ 60 ≤ R.locals ∧ cells ≤ R.cells ∧ slots ≤ R.slots
/-- the world and the locals of a frame of the small machine -/
def mHas (G : mG) (k : Nat) (s : State) (H : Heap) (locs : List Loc) (lsA : Array Slot) (f : mF) : Prop :=
  mWld G f.2.2.2 H ∧ va_S (gP G) s.heap H locs ∧ lv_has lsA (mm_ml k) (mls (gA G) f.2.1)
set_option maxHeartbeats 4000000 in
set_option maxRecDepth 20000 in
theorem snd_co {G : mG} {k nx a : Nat} {i : Instr} {ls : List (Nat × Value)} {st : List Value} {M : mM} {f' : mF}
    (hat : mAt G k p R s m args meth c cc cells slots) (hh : mHas G k s H locs lsA (pc, ls, st, M)) (hdg : decode cc pc = .ok (i, mln i (nx - pc))) (hnx : nx = pc + mln i (nx - pc)) (hlk : mLk k pc i a = true)
    (hm : mCo (gX G) i pc nx a (pc, ls, st, M) = some f')
    (kk : ∀ (H' : Heap) (locs' : List Loc) (lsB : Array Slot), mHas G k s H' locs' lsB f' → W p l e R s m args below meth c H' locs' cells slots Q (F0 m f'.1 lsB (f'.2.2.1.map (tv (gA G))))) :
    W p l e R s m args below meth c H locs cells slots Q (F0 m pc lsA (st.map (tv (gA G)))) := by
  obtain ⟨hx, hb, hml, hown, hgw, E, hin, hR1, hR2, hR3, hR4⟩ := hat
  have hh0 := hh
  obtain ⟨hWd, hS, hl⟩ := hh
  have hP := hWd.1
  have hD := mWld_D E hWd
  have hlen := hWd.2
  have same : ∀ {pc' : Nat} {st' : List Value}, mHas G k s H locs lsA (pc', ls, st', M) := fun {pc' st'} => ⟨hWd, hS, hl⟩
  cases i with
  | aconst_null =>
    obtain rfl : nx = pc + 1 := hnx
    cases hm
    exact lv_null hx hb hdg (kk H locs lsA same)
  | iconst n =>
    obtain rfl : nx = pc + 1 := hnx
    cases hm
    exact lv_iconst hx hb hdg rfl (kk H locs lsA same)
  | bipush n =>
    obtain rfl : nx = pc + 2 := hnx
    cases hm
    exact lv_bipush hx hb hdg rfl (kk H locs lsA same)
  | sipush n =>
    obtain rfl : nx = pc + 3 := hnx
    cases hm
    exact lv_sipush hx hb hdg rfl (kk H locs lsA same)
  | lconst n =>
    obtain rfl : nx = pc + 1 := hnx
    cases hm
    exact lv_lconst hx hb hdg rfl (kk H locs lsA same)
  | ldc x =>
    obtain rfl : nx = pc + 2 := hnx
    simp only [mCo] at hm
    simp only [mLk] at hlk
    by_cases ha : a < 100
    · rw [if_pos ha] at hm hlk
      cases hm
      simp only [Bool.and_eq_true, decide_eq_true_eq] at hlk
      exact va_ldcS hx hb hown (E.2.2.2.2.1 _ _ (mmem_of hlk.1)) hdg (kk H locs lsA same)
    · rw [if_neg ha] at hm hlk
      cases hm
      exact lv_ldc hx hb hown (hgw _ (mm_ki_ok _ _ (mmem_of hlk))) hdg (kk H locs lsA same)
  | ldc2_w x =>
    obtain rfl : nx = pc + 3 := hnx
    cases hm
    exact lv_ldc2 hx hb hown (hgw _ (mm_kl_ok _ _ (mmem_of hlk))) hdg (kk H locs lsA same)
  | iload_n n =>
    obtain rfl : nx = pc + 1 := hnx
    obtain ⟨v, h1, h2, rfl⟩ := mq_ld_of hm
    cases v <;> first | (cases h2; done) | skip
    exact lv_iload_n hx hb hdg rfl (mget_slot hl h1) (kk H locs lsA same)
  | iload n =>
    obtain rfl : nx = pc + 2 := hnx
    obtain ⟨v, h1, h2, rfl⟩ := mq_ld_of hm
    cases v <;> first | (cases h2; done) | skip
    exact lv_iload hx hb hdg (mget_slot hl h1) (kk H locs lsA same)
  | lload_n n =>
    obtain rfl : nx = pc + 1 := hnx
    obtain ⟨v, h1, h2, rfl⟩ := mq_ld_of hm
    cases v <;> first | (cases h2; done) | skip
    exact lv_lload_n hx hb hdg rfl (mget_slot hl h1) (kk H locs lsA same)
  | lload n =>
    obtain rfl : nx = pc + 2 := hnx
    obtain ⟨v, h1, h2, rfl⟩ := mq_ld_of hm
    cases v <;> first | (cases h2; done) | skip
    exact lv_lload hx hb hdg (mget_slot hl h1) (kk H locs lsA same)
  | aload_n n =>
    obtain rfl : nx = pc + 1 := hnx
    obtain ⟨v, h1, h2, rfl⟩ := mq_ld_of hm
    cases v <;> first | (cases h2; done) | skip
    · exact lv_aload_nN hx hb hdg rfl (mget_slot hl h1) (kk H locs lsA same)
    · exact lv_aload_n hx hb hdg rfl (mget_slot hl h1) (kk H locs lsA same)
  | aload n =>
    obtain rfl : nx = pc + 2 := hnx
    obtain ⟨v, h1, h2, rfl⟩ := mq_ld_of hm
    cases v <;> first | (cases h2; done) | skip
    · exact lv_aloadN hx hb hdg (mget_slot hl h1) (kk H locs lsA same)
    · exact lv_aload hx hb hdg (mget_slot hl h1) (kk H locs lsA same)
  | istore_n n =>
    obtain rfl : nx = pc + 1 := hnx
    obtain ⟨v, r, h1, h2, rfl⟩ := mq_st_of hm
    obtain rfl : st = v :: r := h1
    cases v <;> first | (cases h2; done) | skip
    exact lv_istore_n hx hb hdg rfl hl (of_decide_eq_true hlk) (mls_put1 (gA G) ls n (.int _)) (fun lsB hl' => kk H locs lsB ⟨hWd, hS, hl'⟩)
  | istore n =>
    obtain rfl : nx = pc + 2 := hnx
    obtain ⟨v, r, h1, h2, rfl⟩ := mq_st_of hm
    obtain rfl : st = v :: r := h1
    cases v <;> first | (cases h2; done) | skip
    exact lv_istore hx hb hdg hl (of_decide_eq_true hlk) (mls_put1 (gA G) ls n (.int _)) (fun lsB hl' => kk H locs lsB ⟨hWd, hS, hl'⟩)
  | lstore_n n =>
    obtain rfl : nx = pc + 1 := hnx
    obtain ⟨v, r, h1, h2, rfl⟩ := mq_st_of hm
    obtain rfl : st = v :: r := h1
    cases v <;> first | (cases h2; done) | skip
    exact lv_lstore_n hx hb hdg rfl hl (of_decide_eq_true hlk) (mls_put2 (gA G) ls n (.long _)) (fun lsB hl' => kk H locs lsB ⟨hWd, hS, hl'⟩)
  | lstore n =>
    obtain rfl : nx = pc + 2 := hnx
    obtain ⟨v, r, h1, h2, rfl⟩ := mq_st_of hm
    obtain rfl : st = v :: r := h1
    cases v <;> first | (cases h2; done) | skip
    exact lv_lstore hx hb hdg hl (of_decide_eq_true hlk) (mls_put2 (gA G) ls n (.long _)) (fun lsB hl' => kk H locs lsB ⟨hWd, hS, hl'⟩)
  | astore_n n =>
    obtain rfl : nx = pc + 1 := hnx
    obtain ⟨v, r, h1, h2, rfl⟩ := mq_st_of hm
    obtain rfl : st = v :: r := h1
    cases v <;> first | (cases h2; done) | skip
    · exact lv_astore_nN hx hb hdg rfl hl (of_decide_eq_true hlk) (mls_put1 (gA G) ls n .null) (fun lsB hl' => kk H locs lsB ⟨hWd, hS, hl'⟩)
    · exact lv_astore_n hx hb hdg rfl hl (of_decide_eq_true hlk) (mls_put1 (gA G) ls n (.ref _)) (fun lsB hl' => kk H locs lsB ⟨hWd, hS, hl'⟩)
  | astore n =>
    obtain rfl : nx = pc + 2 := hnx
    obtain ⟨v, r, h1, h2, rfl⟩ := mq_st_of hm
    obtain rfl : st = v :: r := h1
    cases v <;> first | (cases h2; done) | skip
    · exact lv_astoreN hx hb hdg hl (of_decide_eq_true hlk) (mls_put1 (gA G) ls n .null) (fun lsB hl' => kk H locs lsB ⟨hWd, hS, hl'⟩)
    · exact lv_astore hx hb hdg hl (of_decide_eq_true hlk) (mls_put1 (gA G) ls n (.ref _)) (fun lsB hl' => kk H locs lsB ⟨hWd, hS, hl'⟩)
  | iinc n d =>
    obtain rfl : nx = pc + 3 := hnx
    simp only [mCo, mq_iinc] at hm
    split at hm
    · rename_i x hx1
      cases hm
      obtain ⟨j, hj⟩ := List.getElem?_of_mem (mget_mem (ad := gA G) hx1)
      exact lv_iinc hx hb hdg hl hj rfl (of_decide_eq_true hlk) (mls_put1 (gA G) ls n (.int _)) (fun lsB hl' => kk H locs lsB ⟨hWd, hS, hl'⟩)
    · cases hm
  | iadd =>
    obtain rfl : nx = pc + 1 := hnx
    obtain ⟨x, y, r, h1, rfl⟩ := mq_b_of hm
    obtain rfl : st = .int y :: .int x :: r := h1
    exact lv_iadd hx hb hdg (kk H locs lsA same)
  | isub =>
    obtain rfl : nx = pc + 1 := hnx
    obtain ⟨x, y, r, h1, rfl⟩ := mq_b_of hm
    obtain rfl : st = .int y :: .int x :: r := h1
    exact lv_isub hx hb hdg (kk H locs lsA same)
  | imul =>
    obtain rfl : nx = pc + 1 := hnx
    obtain ⟨x, y, r, h1, rfl⟩ := mq_b_of hm
    obtain rfl : st = .int y :: .int x :: r := h1
    exact lv_imul hx hb hdg (kk H locs lsA same)
  | iand =>
    obtain rfl : nx = pc + 1 := hnx
    obtain ⟨x, y, r, h1, rfl⟩ := mq_b_of hm
    obtain rfl : st = .int y :: .int x :: r := h1
    exact lv_iand hx hb hdg (kk H locs lsA same)
  | ior =>
    obtain rfl : nx = pc + 1 := hnx
    obtain ⟨x, y, r, h1, rfl⟩ := mq_b_of hm
    obtain rfl : st = .int y :: .int x :: r := h1
    exact lv_ior hx hb hdg (kk H locs lsA same)
  | ixor =>
    obtain rfl : nx = pc + 1 := hnx
    obtain ⟨x, y, r, h1, rfl⟩ := mq_b_of hm
    obtain rfl : st = .int y :: .int x :: r := h1
    exact lv_ixor hx hb hdg (kk H locs lsA same)
  | ishl =>
    obtain rfl : nx = pc + 1 := hnx
    obtain ⟨x, y, r, h1, rfl⟩ := mq_b_of hm
    obtain rfl : st = .int y :: .int x :: r := h1
    exact lv_ishl hx hb hdg (kk H locs lsA same)
  | ishr =>
    obtain rfl : nx = pc + 1 := hnx
    obtain ⟨x, y, r, h1, rfl⟩ := mq_b_of hm
    obtain rfl : st = .int y :: .int x :: r := h1
    exact lv_ishr hx hb hdg (kk H locs lsA same)
  | idiv =>
    obtain rfl : nx = pc + 1 := hnx
    obtain ⟨x, y, r, h1, h0, rfl⟩ := mq_bz_of hm
    obtain rfl : st = .int y :: .int x :: r := h1
    exact lv_idiv hx hb hdg h0 (kk H locs lsA same)
  | irem =>
    obtain rfl : nx = pc + 1 := hnx
    obtain ⟨x, y, r, h1, h0, rfl⟩ := mq_bz_of hm
    obtain rfl : st = .int y :: .int x :: r := h1
    exact lv_irem hx hb hdg h0 (kk H locs lsA same)
  | ladd =>
    obtain rfl : nx = pc + 1 := hnx
    obtain ⟨x, y, r, h1, rfl⟩ := mq_l_of hm
    obtain rfl : st = .long y :: .long x :: r := h1
    exact lv_ladd hx hb hdg (kk H locs lsA same)
  | lsub =>
    obtain rfl : nx = pc + 1 := hnx
    obtain ⟨x, y, r, h1, rfl⟩ := mq_l_of hm
    obtain rfl : st = .long y :: .long x :: r := h1
    exact lv_lsub hx hb hdg (kk H locs lsA same)
  | lmul =>
    obtain rfl : nx = pc + 1 := hnx
    obtain ⟨x, y, r, h1, rfl⟩ := mq_l_of hm
    obtain rfl : st = .long y :: .long x :: r := h1
    exact lv_lmul hx hb hdg (kk H locs lsA same)
  | land =>
    obtain rfl : nx = pc + 1 := hnx
    obtain ⟨x, y, r, h1, rfl⟩ := mq_l_of hm
    obtain rfl : st = .long y :: .long x :: r := h1
    exact lv_land hx hb hdg (kk H locs lsA same)
  | lor =>
    obtain rfl : nx = pc + 1 := hnx
    obtain ⟨x, y, r, h1, rfl⟩ := mq_l_of hm
    obtain rfl : st = .long y :: .long x :: r := h1
    exact lv_lor hx hb hdg (kk H locs lsA same)
  | ldiv =>
    obtain rfl : nx = pc + 1 := hnx
    obtain ⟨x, y, r, h1, h0, rfl⟩ := mq_lz_of hm
    obtain rfl : st = .long y :: .long x :: r := h1
    exact lv_ldiv hx hb hdg h0 (kk H locs lsA same)
  | lrem =>
    obtain rfl : nx = pc + 1 := hnx
    obtain ⟨x, y, r, h1, h0, rfl⟩ := mq_lz_of hm
    obtain rfl : st = .long y :: .long x :: r := h1
    exact lv_lrem hx hb hdg h0 (kk H locs lsA same)
  | lcmp =>
    obtain rfl : nx = pc + 1 := hnx
    simp only [mCo, mq_lcmp] at hm
    split at hm
    · rename_i y x r h1
      cases hm
      exact W.lcmp hx hb hdg (kk H locs lsA same)
    · cases hm
  | lshl =>
    obtain rfl : nx = pc + 1 := hnx
    simp only [mCo, mq_lshl] at hm
    split at hm
    · cases hm
      exact lv_lshl hx hb hdg rfl (kk H locs lsA same)
    · cases hm
  | i2l =>
    obtain rfl : nx = pc + 1 := hnx
    simp only [mCo, mq_i2l] at hm
    split at hm
    · cases hm
      exact lv_i2l hx hb hdg rfl (kk H locs lsA same)
    · cases hm
  | l2i =>
    obtain rfl : nx = pc + 1 := hnx
    simp only [mCo, mq_l2i] at hm
    split at hm
    · cases hm
      exact lv_l2i hx hb hdg rfl (kk H locs lsA same)
    · cases hm
  | i2b =>
    obtain rfl : nx = pc + 1 := hnx
    simp only [mCo, mq_i2b] at hm
    split at hm
    · cases hm
      exact lv_i2b hx hb hdg rfl (kk H locs lsA same)
    · cases hm
  | ifCond cd o =>
    obtain rfl : nx = pc + 3 := hnx
    simp only [mCo, mq_if] at hm
    split at hm
    · rename_i x r h1
      refine W_if hx hb hdg (of_decide_eq_true hlk) (fun h => ?_) (fun h => ?_)
      · rw [if_pos h] at hm
        cases hm
        exact kk H locs lsA same
      · rw [if_neg (by rw [h]; decide)] at hm
        cases hm
        exact kk H locs lsA same
    · cases hm
  | if_icmp cd o =>
    obtain rfl : nx = pc + 3 := hnx
    simp only [mCo, mq_icmp] at hm
    split at hm
    · rename_i y x r h1
      refine W_icmp hx hb hdg (of_decide_eq_true hlk) (fun h => ?_) (fun h => ?_)
      · rw [if_pos h] at hm
        cases hm
        exact kk H locs lsA same
      · rw [if_neg (by rw [h]; decide)] at hm
        cases hm
        exact kk H locs lsA same
    · cases hm
  | ifnull o =>
    obtain rfl : nx = pc + 3 := hnx
    simp only [mCo, mq_null] at hm
    split at hm
    · cases hm
      exact lv_ifnullN hx hb hdg (of_decide_eq_true hlk) (kk H locs lsA same)
    · cases hm
      exact lv_ifnull hx hb hdg (kk H locs lsA same)
    · cases hm
  | ifnonnull o =>
    obtain rfl : nx = pc + 3 := hnx
    simp only [mCo, mq_null] at hm
    split at hm
    · cases hm
      exact lv_ifnonnullN hx hb hdg (kk H locs lsA same)
    · cases hm
      exact lv_ifnonnull hx hb hdg (of_decide_eq_true hlk) (kk H locs lsA same)
    · cases hm
  | goto o =>
    cases hm
    exact lv_goto hx hb hdg (of_decide_eq_true hlk) (kk H locs lsA same)
  | dup =>
    obtain rfl : nx = pc + 1 := hnx
    simp only [mCo, mq_dup] at hm
    split at hm
    · split at hm
      · rename_i h2
        cases hm
        exact lv_dup hx hb hdg (by rw [tv_cat]; exact h2) (kk H locs lsA same)
      · cases hm
    · cases hm
  | dup2 =>
    obtain rfl : nx = pc + 1 := hnx
    simp only [mCo, mq_dup2] at hm
    split at hm
    · split at hm
      · rename_i h2
        cases hm
        exact lv_dup2_11 hx hb hdg (by rw [tv_cat]; exact h2.1) (by rw [tv_cat]; exact h2.2) (kk H locs lsA same)
      · cases hm
    · cases hm
  | pop =>
    obtain rfl : nx = pc + 1 := hnx
    simp only [mCo, mq_pop] at hm
    split at hm
    · split at hm
      · rename_i h2
        cases hm
        exact lv_pop hx hb hdg (by rw [tv_cat]; exact h2) (kk H locs lsA same)
      · cases hm
    · cases hm
  | getfield x =>
    obtain rfl : nx = pc + 3 := hnx
    simp only [mLk, Bool.and_eq_true, decide_eq_true_eq] at hlk
    obtain ⟨hl1, hl2, hl3⟩ := hlk
    obtain ⟨q, r, sh, h1, hsh, ht, rfl⟩ := mq_get_of hm
    obtain rfl : st = .ref q :: r := h1
    obtain ⟨qc, hqc, hqN⟩ := mm_clsN hl2
    obtain ⟨o1, o2, o3, o4, o5, o6⟩ := mm_cls_ok _ _ hqc
    have hf : mm_f a = qc.2.1 (a % 100) := by rw [mm_f, hqc]
    have hlink := hgw _ (mm_fl_ok _ _ (mmem_of hl1))
    rw [hf] at hlink
    have he : (mWs G M)[q]? = some (gA G q, .inr (a / 100, (List.range (mm_N (a / 100))).map (fun k => tv (gA G) (mVp M q (mm_ty (a / 100) k) k)))) := by
      rw [mWs_get hsh, mEnt_o (by omega), ht]
    refine va_get (D := gD G) (T := qc.2.1) (N := qc.2.2) (C := qc.1) hx hb hgw o1 hown E.1 hP q he hqc (a % 100) (by omega) hlink (fun _ h => h) (v := tv (gA G) (mVp M q (mm_ty (a / 100) (a % 100)) (a % 100))) ?_ hdg (kk H locs lsA same)
    rw [List.getElem?_map, List.getElem?_range hl3]
    rfl
  | putfield x =>
    obtain rfl : nx = pc + 3 := hnx
    simp only [mLk, Bool.and_eq_true, decide_eq_true_eq, Bool.or_eq_true, Bool.not_eq_true'] at hlk
    obtain ⟨hl1, hl2, hl3, hl4⟩ := hlk
    obtain ⟨v, q, r, sh, M', h1, hsh, ht, hM', rfl⟩ := mq_put_of hm
    obtain rfl : st = v :: .ref q :: r := h1
    obtain ⟨e1, e2, e3, e4, e5, e6⟩ := mq_putv_of (gA G) hM'
    obtain ⟨qc, hqc, hqN⟩ := mm_clsN hl2
    obtain ⟨o1, o2, o3, o4, o5, o6⟩ := mm_cls_ok _ _ hqc
    have hf : mm_f a = qc.2.1 (a % 100) := by rw [mm_f, hqc]
    have hlink := hgw _ (mm_fl_ok _ _ (mmem_of hl1))
    rw [hf] at hlink hl4
    have hX : ((List.range (mm_N (a / 100))).map (fun k => tv (gA G) (mVp M q (mm_ty (a / 100) k) k))).set (a % 100) (tv (gA G) v) = (List.range (mm_N (a / 100))).map (fun k => tv (gA G) (mVp M' q (mm_ty (a / 100) k) k)) := by
      apply List.ext_getElem?
      intro j
      by_cases hj : a % 100 = j
      · subst hj
        rw [List.getElem?_set_self (by simpa using hl3), List.getElem?_map, List.getElem?_range hl3]
        simp only [Option.map_some, e4]
      · rw [List.getElem?_set_ne hj, List.getElem?_map, List.getElem?_map]
        by_cases hjn : j < mm_N (a / 100)
        · rw [List.getElem?_range hjn]
          simp only [Option.map_some]
          rw [e3 j _ (fun z => hj z.symm)]
        · rw [List.getElem?_eq_none (by simpa using hjn)]
          rfl
    have he : (mWs G M)[q]? = some (gA G q, .inr (a / 100, (List.range (mm_N (a / 100))).map (fun k => tv (gA G) (mVp M q (mm_ty (a / 100) k) k)))) := by
      rw [mWs_get hsh, mEnt_o (by omega), ht]
    have hset : (mWs G M).set q (gA G q, .inr (a / 100, ((List.range (mm_N (a / 100))).map (fun k => tv (gA G) (mVp M q (mm_ty (a / 100) k) k))).set (a % 100) (tv (gA G) v))) = mWs G M' := by
      rw [mWs_set hsh e1 e2, mEnt_o (by omega), ht, hX]
    have go : ∀ (H1 : Heap) (locs1 : List Loc), va_P (gD G) mm_cls ((mWs G M).set q (gA G q, .inr (a / 100, ((List.range (mm_N (a / 100))).map (fun k => tv (gA G) (mVp M q (mm_ty (a / 100) k) k))).set (a % 100) (tv (gA G) v)))) H1 → va_S (gP G) s.heap H1 locs1 → W p l e R s m args below meth c H1 locs1 cells slots Q (F0 m (pc + 3) lsA (r.map (tv (gA G)))) := by
      intro H1 locs1 g1 g2
      rw [hset] at g1
      exact kk H1 locs1 lsA ⟨⟨g1, by show M'.1.length ≤ _; rw [e1]; exact hlen⟩, g2, hl⟩
    have hkn : a % 100 < ((List.range (mm_N (a / 100))).map (fun k => tv (gA G) (mVp M q (mm_ty (a / 100) k) k))).length := by simpa using hl3
    have hpf := o2 (a % 100) (by omega)
    rcases hl4 with hfin | ⟨hst2, hown2⟩
    · exact va_put (D := gD G) (T := qc.2.1) (N := qc.2.2) (C := qc.1) hx hb hgw o1 (mm_ty (a / 100)) o2 o3 hown E.1 hP hD hS q he hqc (a % 100) (by omega) hlink (fun _ h => h) hfin hpf e5 e6 hkn hdg (fun H1 locs1 g1 _ g2 => go H1 locs1 g1 g2)
    · by_cases hfin : (qc.2.1 (a % 100)).2.2.2 = true
      · refine va_putF (D := gD G) (T := qc.2.1) (N := qc.2.2) (C := qc.1) hx hb hgw o1 (mm_ty (a / 100)) o2 o3 hown E.1 hP hD hS q he hqc (a % 100) (by omega) hlink (fun _ h => h) hfin (hin hst2) ?_ hpf e5 e6 hkn hdg (fun H1 locs1 g1 _ g2 => go H1 locs1 g1 g2)
        rw [hown2]
        exact mm_own_f hqc (by omega)
      · exact va_put (D := gD G) (T := qc.2.1) (N := qc.2.2) (C := qc.1) hx hb hgw o1 (mm_ty (a / 100)) o2 o3 hown E.1 hP hD hS q he hqc (a % 100) (by omega) hlink (fun _ h => h) (by simpa using hfin) hpf e5 e6 hkn hdg (fun H1 locs1 g1 _ g2 => go H1 locs1 g1 g2)
  | iaload =>
    obtain rfl : nx = pc + 1 := hnx
    rcases mq_iald_of hm with ⟨i, r, h1, hi, rfl⟩ | ⟨i, q, r, sh, h1, hsh, ht, hi, rfl⟩
    · obtain rfl : st = .int i :: .ref mscr :: r := h1
      obtain ⟨b1, b2, b3, b4, b5, b6⟩ := E.2.2.2.2.2
      exact va_sld hx hb b5 (Nat.lt_of_lt_of_le b2 b1) (Nat.not_le.mpr b2) hS (mxin_of hi) hdg (kk H locs lsA same)
    · obtain rfl : st = .int i :: .ref q :: r := h1
      have he := mWs_get (G := G) hsh
      rw [mEnt_i (by omega) (by omega)] at he
      exact va_iald hx hb (mK1 E (t := sh.1) (by rw [ht]; rfl)) hP q 0 he rfl (mxin_of hi) hdg (kk H locs lsA same)
  | baload =>
    obtain rfl : nx = pc + 1 := hnx
    obtain ⟨i, q, r, sh, h1, hsh, ht, hi, rfl⟩ := mq_bald_of hm
    obtain rfl : st = .int i :: .ref q :: r := h1
    have he := mWs_get (G := G) hsh
    rw [mEnt_i (by omega) (by omega)] at he
    rcases ht with ht | ht
    · exact va_bald hx hb (mK1 E (t := sh.1) (by rw [ht]; rfl)) hP q 0 he rfl (mxin_of hi) hdg (kk H locs lsA same)
    · exact va_zald hx hb (mK1 E (t := sh.1) (by rw [ht]; rfl)) hP q 0 he rfl (mxin_of hi) hdg (kk H locs lsA same)
  | laload =>
    obtain rfl : nx = pc + 1 := hnx
    obtain ⟨i, q, r, sh, h1, hsh, ht, hi, rfl⟩ := mq_lald_of hm
    obtain rfl : st = .int i :: .ref q :: r := h1
    have he := mWs_get (G := G) hsh
    rw [mEnt_l (by omega)] at he
    exact va_lald hx hb (mK1 E (t := sh.1) (by rw [ht]; rfl)) hP q 0 he rfl (mxin_of hi) hdg (kk H locs lsA same)
  | aaload =>
    obtain rfl : nx = pc + 1 := hnx
    obtain ⟨i, q, r, sh, h1, hsh, ht, hi, rfl⟩ := mq_aald_of hm
    obtain rfl : st = .int i :: .ref q :: r := h1
    have he := mWs_get (G := G) hsh
    rw [mEnt_q (by omega)] at he
    have hk := kk H locs lsA same
    rw [List.map_cons, tv_rf] at hk
    exact va_aldq hx hb (mK1 E (t := sh.1) (mm_aty_q ht.1 ht.2).1) hP q 0 he rfl (mxin_of hi) hdg hk
  | iastore =>
    obtain rfl : nx = pc + 1 := hnx
    obtain ⟨x, i, q, r, sh, h1, hsh, ht, hi, rfl⟩ := mq_iast_of hm
    obtain rfl : st = .int x :: .int i :: .ref q :: r := h1
    have he := mWs_get (G := G) hsh
    rw [mEnt_i (by omega) (by omega)] at he
    refine va_iast hx hb (mK1 E (t := sh.1) (by rw [ht]; rfl)) hP hD hS q 0 he rfl (mxin_of hi) hdg (fun H1 locs1 g1 _ g2 => kk H1 locs1 lsA ⟨⟨?_, hlen⟩, g2, hl⟩)
    show va_P (gD G) mm_cls (mWs G (msI M q i.toNatClampNeg x)) H1
    rw [mWs_set (M' := msI M q i.toNatClampNeg x) hsh rfl (fun z hz => msI_off z hz), mEnt_i (by omega) (by omega)]
    show va_P _ _ (List.set _ _ (_, Sum.inl (_, _, Sum.inl (m2 M.2.1 q i.toNatClampNeg x q)))) _
    rw [m2_at]
    exact g1
  | bastore =>
    obtain rfl : nx = pc + 1 := hnx
    obtain ⟨x, i, q, r, sh, h1, hsh, hi, hc⟩ := mq_bast_of hm
    obtain rfl : st = .int x :: .int i :: .ref q :: r := h1
    have he := mWs_get (G := G) hsh
    rcases hc with ⟨ht, rfl⟩ | ⟨ht, rfl⟩
    · rw [mEnt_i (by omega) (by omega)] at he
      refine va_bast hx hb (mK1 E (t := sh.1) (by rw [ht]; rfl)) hP hD hS q 0 he rfl (mxin_of hi) hdg (fun H1 locs1 g1 _ g2 => kk H1 locs1 lsA ⟨⟨?_, hlen⟩, g2, hl⟩)
      show va_P (gD G) mm_cls (mWs G (msI M q i.toNatClampNeg (vp_nar .byte x))) H1
      rw [mWs_set (M' := msI M q i.toNatClampNeg (vp_nar .byte x)) hsh rfl (fun z hz => msI_off z hz), mEnt_i (by omega) (by omega)]
      show va_P _ _ (List.set _ _ (_, Sum.inl (_, _, Sum.inl (m2 M.2.1 q i.toNatClampNeg (vp_nar .byte x) q)))) _
      rw [m2_at]
      exact g1
    · rw [mEnt_i (by omega) (by omega)] at he
      refine va_zast hx hb (mK1 E (t := sh.1) (by rw [ht]; rfl)) hP hD hS q 0 he rfl (mxin_of hi) hdg (fun H1 locs1 g1 _ g2 => kk H1 locs1 lsA ⟨⟨?_, hlen⟩, g2, hl⟩)
      show va_P (gD G) mm_cls (mWs G (msI M q i.toNatClampNeg (vp_nar .boolean x))) H1
      rw [mWs_set (M' := msI M q i.toNatClampNeg (vp_nar .boolean x)) hsh rfl (fun z hz => msI_off z hz), mEnt_i (by omega) (by omega)]
      show va_P _ _ (List.set _ _ (_, Sum.inl (_, _, Sum.inl (m2 M.2.1 q i.toNatClampNeg (vp_nar .boolean x) q)))) _
      rw [m2_at]
      exact g1
  | lastore =>
    obtain rfl : nx = pc + 1 := hnx
    obtain ⟨x, i, q, r, sh, h1, hsh, ht, hi, rfl⟩ := mq_last_of hm
    obtain rfl : st = .long x :: .int i :: .ref q :: r := h1
    have he := mWs_get (G := G) hsh
    rw [mEnt_l (by omega)] at he
    refine va_last hx hb (mK1 E (t := sh.1) (by rw [ht]; rfl)) hP hD hS q 0 he rfl (mxin_of hi) hdg (fun H1 locs1 g1 _ g2 => kk H1 locs1 lsA ⟨⟨?_, hlen⟩, g2, hl⟩)
    show va_P (gD G) mm_cls (mWs G (msL M q i.toNatClampNeg x)) H1
    rw [mWs_set (M' := msL M q i.toNatClampNeg x) hsh rfl (fun z hz => msL_off z hz), mEnt_l (by omega)]
    show va_P _ _ (List.set _ _ (_, Sum.inl (_, _, Sum.inr (Sum.inl (m2 M.2.2.1 q i.toNatClampNeg x q))))) _
    rw [m2_at]
    exact g1
  | aastore =>
    obtain rfl : nx = pc + 1 := hnx
    obtain ⟨v, i, q, r, sh, s2, h1, hsh, hs2, ht, hi, hc, rfl⟩ := mq_aast_of hm
    obtain rfl : st = .ref v :: .int i :: .ref q :: r := h1
    have he := mWs_get (G := G) hsh
    rw [mEnt_q (by omega)] at he
    obtain ⟨ha1, ha2⟩ := mm_aty_q ht.1 ht.2
    have hv := mWs_get (G := G) hs2
    rw [mEnt_o (by omega), hc] at hv
    obtain ⟨qc, hqc, hqN⟩ := mm_clsN ha2
    obtain ⟨o1, o2, o3, o4, o5, o6⟩ := mm_cls_ok _ _ hqc
    refine va_astq hx hb (mK1 E (t := sh.1) (ty := .object qc.1) (by rw [o6]; exact ha1)) hP hD hS q 0 v (mm_ac sh.1) he rfl hv hqc (mxin_of hi) hdg (fun H1 locs1 g1 _ g2 => kk H1 locs1 lsA ⟨⟨?_, hlen⟩, g2, hl⟩)
    show va_P (gD G) mm_cls (mWs G (msR M q i.toNatClampNeg (some v))) H1
    rw [mWs_set (M' := msR M q i.toNatClampNeg (some v)) hsh rfl (fun z hz => msR_off z hz), mEnt_q (by omega)]
    have hX : (fun j => ((msR M q i.toNatClampNeg (some v)).2.2.2 q j).map (gA G)) = va_up (fun j => (M.2.2.2 q j).map (gA G)) i.toNatClampNeg (some (gA G v)) := by
      funext j
      show (m2 M.2.2.2 q i.toNatClampNeg (some v) q j).map (gA G) = _
      rw [m2_at]
      by_cases hj : j = i.toNatClampNeg <;> simp [va_up, hj]
    rw [hX]
    exact g1
  | arraylength =>
    obtain rfl : nx = pc + 1 := hnx
    rcases mq_alen_of hm with ⟨r, h1, rfl⟩ | ⟨q, r, sh, h1, hsh, ht, rfl⟩
    · obtain rfl : st = .ref mscr :: r := h1
      obtain ⟨b1, b2, b3, b4, b5, b6⟩ := E.2.2.2.2.2
      exact va_slen hx hb b5 (Nat.lt_of_lt_of_le b2 b1) (Nat.not_le.mpr b2) hS hdg (kk H locs lsA same)
    · obtain rfl : st = .ref q :: r := h1
      have he := mWs_get (G := G) hsh
      obtain ⟨ty, hty⟩ := mm_aty_i ht.1 ht.2
      by_cases h23 : sh.1 = 23
      · rw [mEnt_l h23] at he
        exact va_alen hx hb (mK1 E hty) hP q 0 he rfl rfl hdg (kk H locs lsA same)
      · by_cases h24 : 24 ≤ sh.1
        · rw [mEnt_q h24] at he
          exact va_alen hx hb (mK1 E hty) hP q 0 he rfl rfl hdg (kk H locs lsA same)
        · rw [mEnt_i ht.1 (by omega)] at he
          exact va_alen hx hb (mK1 E hty) hP q 0 he rfl rfl hdg (kk H locs lsA same)
  | tableswitch d lo hi os =>
    simp only [mCo, mq_ts] at hm
    split at hm
    · split at hm
      · rename_i hc
        cases hm
        exact lv_tableOut hx hb hdg hc (of_decide_eq_true hlk) (kk H locs lsA same)
      · rename_i hc
        split at hm
        · rename_i o ho
          split at hm
          · rename_i h0
            cases hm
            exact lv_tableIn hx hb hdg (fun z => hc (Or.inl z)) (fun z => hc (Or.inr z)) ho (Int.toNat_of_nonneg h0).symm (kk H locs lsA same)
          · cases hm
        · cases hm
    · cases hm
  | lookupswitch d ps =>
    simp only [mCo, mq_ls] at hm
    split at hm
    · split at hm
      · rename_i h0
        cases hm
        exact lv_lookup hx hb hdg hlk rfl (Int.toNat_of_nonneg h0).symm (kk H locs lsA same)
      · cases hm
    · cases hm
  | invokespecial x =>
    obtain rfl : nx = pc + 3 := hnx
    simp only [mCo] at hm
    split at hm
    · rename_i ha
      subst ha
      simp only [mq_oi] at hm
      split at hm
      · split at hm
        · rename_i hr
          cases hm
          have hlink := hgw _ (mm_xl_ok _ _ (mmem_of (by simpa [mLk] using hlk)))
          refine W.objInit hx hb hown hlink (hgw _ mm_o1) (hgw _ mm_o2) rfl ?_ rfl hdg hR1 ?_ (kk H locs lsA same)
          · rw [hml]; exact hl.1
          · have := m_sum4 (gA G) hr
            show 2 * 0 + _ + 12 ≤ _
            omega
        · cases hm
      · cases hm
    · cases hm
  | invokestatic x =>
    obtain rfl : nx = pc + 3 := hnx
    simp only [mCo] at hm
    have hnw : nativeFrameWords "java/lang/System" "arraycopy" 5 ≤ 7 := by decide +kernel
    split at hm
    · simp only [mLk] at hlk
      rw [if_neg (by decide)] at hlk
      simp only [Bool.and_eq_true, decide_eq_true_eq] at hlk
      have hlink := hgw _ (mm_xl_ok _ _ (mmem_of hlk.1))
      obtain ⟨n, dp, q, sp, q0, r, sh, sh2, h1, hsh, hsh2, ⟨c1, c2, c3, c4, c5, c6, c7, c8⟩, rfl⟩ := mq_ac_of hm
      obtain rfl : st = .int n :: .int dp :: .ref q :: .int sp :: .ref q0 :: r := h1
      have he := mWs_get (G := G) hsh
      rw [mEnt_i (by omega) (by omega), c1] at he
      have he2 := mWs_get (G := G) hsh2
      rw [mEnt_i (by omega) (by omega), c2] at he2
      have := m_sum4 (gA G) c8
      refine va_copyi hx hb (by rw [hml]; exact hl.1.symm) hown hlink (hgw _ mm_a1) (hgw _ mm_a2) (hgw _ mm_a3) (mK1 E (t := 20) (ty := .int) rfl) hP hD hS q0 q 0 0 he he2 rfl rfl rfl c3 c4 c5 c6 c7 (fun i hi => rfl) hR1 (by omega) hdg (fun H1 locs1 g1 _ g2 => kk H1 locs1 lsA ⟨⟨?_, hlen⟩, g2, hl⟩)
      show va_P (gD G) mm_cls (mWs G (mcpy M q0 q sp.toNatClampNeg dp.toNatClampNeg n.toNatClampNeg)) H1
      rw [mWs_set (M' := mcpy M q0 q sp.toNatClampNeg dp.toNatClampNeg n.toNatClampNeg) hsh2 rfl (fun z hz => ⟨if_neg hz, rfl, rfl⟩), mEnt_i (by omega) (by omega), c2]
      have hX : (mcpy M q0 q sp.toNatClampNeg dp.toNatClampNeg n.toNatClampNeg).2.1 q = va_cpy (M.2.1 q0) (M.2.1 q) sp.toNatClampNeg dp.toNatClampNeg n.toNatClampNeg := if_pos rfl
      rw [hX]
      exact g1
    · simp only [mLk] at hlk
      rw [if_neg (by decide)] at hlk
      simp only [Bool.and_eq_true, decide_eq_true_eq] at hlk
      have hlink := hgw _ (mm_xl_ok _ _ (mmem_of hlk.1))
      obtain ⟨x, y, r, h1, hr, rfl⟩ := mq_m2_of hm
      obtain rfl : st = .int y :: .int x :: r := h1
      have := m_sum4 (gA G) hr
      exact va_mmax hx hb (by rw [hml]; exact hl.1.symm) hown hlink (hgw _ mm_mt9002.1) (hgw _ mm_mti) (hgw _ mm_mt9002.2) hR1 (by omega) hR3 hR4 hdg (kk H locs lsA same)
    · simp only [mLk] at hlk
      rw [if_neg (by decide)] at hlk
      simp only [Bool.and_eq_true, decide_eq_true_eq] at hlk
      have hlink := hgw _ (mm_xl_ok _ _ (mmem_of hlk.1))
      obtain ⟨x, y, r, h1, hr, rfl⟩ := mq_m2_of hm
      obtain rfl : st = .int y :: .int x :: r := h1
      have := m_sum4 (gA G) hr
      exact va_mmin hx hb (by rw [hml]; exact hl.1.symm) hown hlink (hgw _ mm_mt9003.1) (hgw _ mm_mti) (hgw _ mm_mt9003.2) hR1 (by omega) hR3 hR4 hdg (kk H locs lsA same)
    · simp only [mLk] at hlk
      rw [if_neg (by decide)] at hlk
      simp only [Bool.and_eq_true, decide_eq_true_eq] at hlk
      have hlink := hgw _ (mm_xl_ok _ _ (mmem_of hlk.1))
      obtain ⟨x, y, r, h1, hr, rfl⟩ := mq_m2l_of hm
      obtain rfl : st = .long y :: .long x :: r := h1
      have := m_sum4 (gA G) hr
      exact va_mmax_long hx hb (by rw [hml]; exact hl.1.symm) hown hlink (hgw _ mm_mt9004.1) (hgw _ mm_mti) (hgw _ mm_mt9004.2) hR1 (by omega) hR3 hR4 hdg (kk H locs lsA same)
    · simp only [mLk] at hlk
      rw [if_neg (by decide)] at hlk
      simp only [Bool.and_eq_true, decide_eq_true_eq] at hlk
      have hlink := hgw _ (mm_xl_ok _ _ (mmem_of hlk.1))
      obtain ⟨x, y, r, h1, hr, rfl⟩ := mq_m2l_of hm
      obtain rfl : st = .long y :: .long x :: r := h1
      have := m_sum4 (gA G) hr
      exact va_mmin_long hx hb (by rw [hml]; exact hl.1.symm) hown hlink (hgw _ mm_mt9005.1) (hgw _ mm_mti) (hgw _ mm_mt9005.2) hR1 (by omega) hR3 hR4 hdg (kk H locs lsA same)
    · cases hm
  | _ => cases hm
end MCO
