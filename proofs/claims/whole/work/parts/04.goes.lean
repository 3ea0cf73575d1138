/-! ===== an instruction that goes on and makes no cell: the real machine does the same ===== -/
section MCO
variable {p : Program} {l : Launch} {e : Env} {R : Room} {s : State} {m : MethodId} {args : Array Value} {below : List Frame} {meth : Method} {c : Code} {H : Heap} {locs : List Loc} {cells slots : Nat} {Q : State → Prop}
variable {cc : ByteArray} {pc : Nat} {lsA : Array Slot}
theorem W_if (hexec : p.tables.exec = Jvm.exec) (hb : c.code = cc) {cd : ClassFile.Cond} {x : Int32} {off : Int} {tgt : Nat} {rest : List Value} (hdg : decode cc pc = .ok (.ifCond cd off, 3)) (ht : (pc : Int) + off = (tgt : Int))
    (kt : mcond cd x 0 = true → W p l e R s m args below meth c H locs cells slots Q (F0 m tgt lsA rest)) (kf : mcond cd x 0 = false → W p l e R s m args below meth c H locs cells slots Q (F0 m (pc + 3) lsA rest)) : W p l e R s m args below meth c H locs cells slots Q (F0 m pc lsA (.int x :: rest)) := by
  cases cd
  · exact lv_if_eq hexec hb hdg ht (fun h => kt (decide_eq_true h)) (fun h => kf (decide_eq_false h))
  · exact lv_if_ne hexec hb hdg ht (fun h => kt (decide_eq_true h)) (fun h => kf (decide_eq_false (fun q => q h)))
  · exact lv_if_lt hexec hb hdg ht (fun h => kt (decide_eq_true h)) (fun h => kf (decide_eq_false h))
  · exact lv_if_ge hexec hb hdg ht (fun h => kt (decide_eq_true h)) (fun h => kf (decide_eq_false h))
  · exact lv_if_gt hexec hb hdg ht (fun h => kt (decide_eq_true h)) (fun h => kf (decide_eq_false h))
  · exact lv_if_le hexec hb hdg ht (fun h => kt (decide_eq_true h)) (fun h => kf (decide_eq_false h))
theorem W_icmp (hexec : p.tables.exec = Jvm.exec) (hb : c.code = cc) {cd : ClassFile.Cond} {x y : Int32} {off : Int} {tgt : Nat} {rest : List Value} (hdg : decode cc pc = .ok (.if_icmp cd off, 3)) (ht : (pc : Int) + off = (tgt : Int))
    (kt : mcond cd x y = true → W p l e R s m args below meth c H locs cells slots Q (F0 m tgt lsA rest)) (kf : mcond cd x y = false → W p l e R s m args below meth c H locs cells slots Q (F0 m (pc + 3) lsA rest)) : W p l e R s m args below meth c H locs cells slots Q (F0 m pc lsA (.int y :: .int x :: rest)) := by
  cases cd
  · exact lv_icmp_eq hexec hb hdg ht (fun h => kt (decide_eq_true h)) (fun h => kf (decide_eq_false h))
  · exact lv_icmp_ne hexec hb hdg ht (fun h => kt (decide_eq_true h)) (fun h => kf (decide_eq_false (fun q => q h)))
  · exact lv_icmp_lt hexec hb hdg ht (fun h => kt (decide_eq_true h)) (fun h => kf (decide_eq_false h))
  · exact lv_icmp_ge hexec hb hdg ht (fun h => kt (decide_eq_true h)) (fun h => kf (decide_eq_false h))
  · exact lv_icmp_gt hexec hb hdg ht (fun h => kt (decide_eq_true h)) (fun h => kf (decide_eq_false h))
  · exact lv_icmp_le hexec hb hdg ht (fun h => kt (decide_eq_true h)) (fun h => kf (decide_eq_false h))
/-- what holds in the body of method k: the machine, its bytes, the words, the world, the locals -/
def mAt (G : mG) (k : Nat) (p : Program) (R : Room) (s : State) (m : MethodId) (args : Array Value) (meth : Method) (c : Code) (cc : ByteArray) (cells slots : Nat) : Prop :=
  p.tables.exec = Jvm.exec ∧ c.code = cc ∧ c.maxLocals = mm_ml k ∧ s.vm.findClass (mm_R (mm_ow k)) = some m.cls ∧ (∀ w ∈ mm_gw, w.before args s = true) ∧ mEnv G s ∧ (mm_st k = 2 → meth.name = "<init>") ∧ 1 ≤ R.frames ∧ 60 ≤ R.locals ∧ cells ≤ R.cells ∧ slots ≤ R.slots
/-- the world and the locals of a frame of the small machine -/
def mHas (G : mG) (k : Nat) (s : State) (H : Heap) (locs : List Loc) (lsA : Array Slot) (f : mF) : Prop :=
  mWld G f.2.2.2 H ∧ va_S (gP G) s.heap H locs ∧ lv_has lsA (mm_ml k) (mls (gA G) f.2.1)
set_option maxHeartbeats 4000000 in
set_option maxRecDepth 20000 in
theorem snd_co {G : mG} {k nx a : Nat} {i : Instr} {ls : List (Nat × Value)} {st : List Value} {M : mM} {f' : mF}
    (hat : mAt G k p R s m args meth c cc cells slots) (hh : mHas G k s H locs lsA (pc, ls, st, M)) (hdg : decode cc pc = .ok (i, mln i (nx - pc))) (hnx : nx = pc + mln i (nx - pc)) (hlk : mLk k pc i a = true)
    (hm : mCo (gX G) i pc nx a (pc, ls, st, M) = some f')
    (kk : ∀ (H' : Heap) (locs' : List Loc) (lsB : Array Slot), mHas G k s H' locs' lsB f' → W p l e R s m args below meth c H' locs' cells slots Q (F0 m f'.1 lsB (f'.2.2.1.map (tv (gA G))))) :
    W p l e R s m args below meth c H locs cells slots Q (F0 m pc lsA (st.map (tv (gA G)))) := by
  obtain ⟨hx, hb, hml, hown, hgw, E, hin, hR1, hR2, hR3, hR4⟩ := hat
  have hh0 := hh
  obtain ⟨hWd, hS, hl⟩ := hh
  have hP := hWd.1
  have hD := mWld_D E hWd
  have hlen := hWd.2
  have same : ∀ {pc' : Nat} {st' : List Value}, mHas G k s H locs lsA (pc', ls, st', M) := fun {pc' st'} => ⟨hWd, hS, hl⟩
  cases i with
  | aconst_null =>
    obtain rfl : nx = pc + 1 := hnx
    cases hm
    exact lv_null hx hb hdg (kk H locs lsA same)
  | iconst n =>
    obtain rfl : nx = pc + 1 := hnx
    cases hm
    exact lv_iconst hx hb hdg rfl (kk H locs lsA same)
  | bipush n =>
    obtain rfl : nx = pc + 2 := hnx
    cases hm
    exact lv_bipush hx hb hdg rfl (kk H locs lsA same)
  | sipush n =>
    obtain rfl : nx = pc + 3 := hnx
    cases hm
    exact lv_sipush hx hb hdg rfl (kk H locs lsA same)
  | lconst n =>
    obtain rfl : nx = pc + 1 := hnx
    cases hm
    exact lv_lconst hx hb hdg rfl (kk H locs lsA same)
  | ldc x =>
    obtain rfl : nx = pc + 2 := hnx
    simp only [mCo] at hm
    simp only [mLk] at hlk
    by_cases ha : a < 100
    · rw [if_pos ha] at hm hlk
      cases hm
      simp only [Bool.and_eq_true, decide_eq_true_eq] at hlk
      exact va_ldcS hx hb hown (E.2.2.2.2.1 _ _ (mmem_of hlk.1)) hdg (kk H locs lsA same)
    · rw [if_neg ha] at hm hlk
      cases hm
      exact lv_ldc hx hb hown (hgw _ (mm_ki_ok _ _ (mmem_of hlk))) hdg (kk H locs lsA same)
  | ldc2_w x =>
    obtain rfl : nx = pc + 3 := hnx
    cases hm
    exact lv_ldc2 hx hb hown (hgw _ (mm_kl_ok _ _ (mmem_of hlk))) hdg (kk H locs lsA same)
  | iload_n n =>
    obtain rfl : nx = pc + 1 := hnx
    obtain ⟨v, h1, h2, rfl⟩ := mq_ld_of hm
    cases v <;> first | (cases h2; done) | skip
    exact lv_iload_n hx hb hdg rfl (mget_slot hl h1) (kk H locs lsA same)
  | iload n =>
    obtain rfl : nx = pc + 2 := hnx
    obtain ⟨v, h1, h2, rfl⟩ := mq_ld_of hm
    cases v <;> first | (cases h2; done) | skip
    exact lv_iload hx hb hdg (mget_slot hl h1) (kk H locs lsA same)
  | lload_n n =>
    obtain rfl : nx = pc + 1 := hnx
    obtain ⟨v, h1, h2, rfl⟩ := mq_ld_of hm
    cases v <;> first | (cases h2; done) | skip
    exact lv_lload_n hx hb hdg rfl (mget_slot hl h1) (kk H locs lsA same)
  | lload n =>
    obtain rfl : nx = pc + 2 := hnx
    obtain ⟨v, h1, h2, rfl⟩ := mq_ld_of hm
    cases v <;> first | (cases h2; done) | skip
    exact lv_lload hx hb hdg (mget_slot hl h1) (kk H locs lsA same)
  | aload_n n =>
    obtain rfl : nx = pc + 1 := hnx
    obtain ⟨v, h1, h2, rfl⟩ := mq_ld_of hm
    cases v <;> first | (cases h2; done) | skip
    · exact lv_aload_nN hx hb hdg rfl (mget_slot hl h1) (kk H locs lsA same)
    · exact lv_aload_n hx hb hdg rfl (mget_slot hl h1) (kk H locs lsA same)
  | aload n =>
    obtain rfl : nx = pc + 2 := hnx
    obtain ⟨v, h1, h2, rfl⟩ := mq_ld_of hm
    cases v <;> first | (cases h2; done) | skip
    · exact lv_aloadN hx hb hdg (mget_slot hl h1) (kk H locs lsA same)
    · exact lv_aload hx hb hdg (mget_slot hl h1) (kk H locs lsA same)
  | istore_n n =>
    obtain rfl : nx = pc + 1 := hnx
    obtain ⟨v, r, h1, h2, rfl⟩ := mq_st_of hm
    obtain rfl : st = v :: r := h1
    cases v <;> first | (cases h2; done) | skip
    exact lv_istore_n hx hb hdg rfl hl (of_decide_eq_true hlk) (mls_put1 (gA G) ls n (.int _)) (fun lsB hl' => kk H locs lsB ⟨hWd, hS, hl'⟩)
  | istore n =>
    obtain rfl : nx = pc + 2 := hnx
    obtain ⟨v, r, h1, h2, rfl⟩ := mq_st_of hm
    obtain rfl : st = v :: r := h1
    cases v <;> first | (cases h2; done) | skip
    exact lv_istore hx hb hdg hl (of_decide_eq_true hlk) (mls_put1 (gA G) ls n (.int _)) (fun lsB hl' => kk H locs lsB ⟨hWd, hS, hl'⟩)
  | lstore_n n =>
    obtain rfl : nx = pc + 1 := hnx
    obtain ⟨v, r, h1, h2, rfl⟩ := mq_st_of hm
    obtain rfl : st = v :: r := h1
    cases v <;> first | (cases h2; done) | skip
    exact lv_lstore_n hx hb hdg rfl hl (of_decide_eq_true hlk) (mls_put2 (gA G) ls n (.long _)) (fun lsB hl' => kk H locs lsB ⟨hWd, hS, hl'⟩)
  | lstore n =>
    obtain rfl : nx = pc + 2 := hnx
    obtain ⟨v, r, h1, h2, rfl⟩ := mq_st_of hm
    obtain rfl : st = v :: r := h1
    cases v <;> first | (cases h2; done) | skip
    exact lv_lstore hx hb hdg hl (of_decide_eq_true hlk) (mls_put2 (gA G) ls n (.long _)) (fun lsB hl' => kk H locs lsB ⟨hWd, hS, hl'⟩)
  | astore_n n =>
    obtain rfl : nx = pc + 1 := hnx
    obtain ⟨v, r, h1, h2, rfl⟩ := mq_st_of hm
    obtain rfl : st = v :: r := h1
    cases v <;> first | (cases h2; done) | skip
    · exact lv_astore_nN hx hb hdg rfl hl (of_decide_eq_true hlk) (mls_put1 (gA G) ls n .null) (fun lsB hl' => kk H locs lsB ⟨hWd, hS, hl'⟩)
    · exact lv_astore_n hx hb hdg rfl hl (of_decide_eq_true hlk) (mls_put1 (gA G) ls n (.ref _)) (fun lsB hl' => kk H locs lsB ⟨hWd, hS, hl'⟩)
  | astore n =>
    obtain rfl : nx = pc + 2 := hnx
    obtain ⟨v, r, h1, h2, rfl⟩ := mq_st_of hm
    obtain rfl : st = v :: r := h1
    cases v <;> first | (cases h2; done) | skip
    · exact lv_astoreN hx hb hdg hl (of_decide_eq_true hlk) (mls_put1 (gA G) ls n .null) (fun lsB hl' => kk H locs lsB ⟨hWd, hS, hl'⟩)
    · exact lv_astore hx hb hdg hl (of_decide_eq_true hlk) (mls_put1 (gA G) ls n (.ref _)) (fun lsB hl' => kk H locs lsB ⟨hWd, hS, hl'⟩)
  | iinc n d =>
    obtain rfl : nx = pc + 3 := hnx
    simp only [mCo, mq_iinc] at hm
    split at hm
    · rename_i x hx1
      cases hm
      obtain ⟨j, hj⟩ := List.getElem?_of_mem (mget_mem (ad := gA G) hx1)
      exact lv_iinc hx hb hdg hl hj rfl (of_decide_eq_true hlk) (mls_put1 (gA G) ls n (.int _)) (fun lsB hl' => kk H locs lsB ⟨hWd, hS, hl'⟩)
    · cases hm
  | iadd =>
    obtain rfl : nx = pc + 1 := hnx
    obtain ⟨x, y, r, h1, rfl⟩ := mq_b_of hm
    obtain rfl : st = .int y :: .int x :: r := h1
    exact lv_iadd hx hb hdg (kk H locs lsA same)
  | isub =>
    obtain rfl : nx = pc + 1 := hnx
    obtain ⟨x, y, r, h1, rfl⟩ := mq_b_of hm
    obtain rfl : st = .int y :: .int x :: r := h1
    exact lv_isub hx hb hdg (kk H locs lsA same)
  | imul =>
    obtain rfl : nx = pc + 1 := hnx
    obtain ⟨x, y, r, h1, rfl⟩ := mq_b_of hm
    obtain rfl : st = .int y :: .int x :: r := h1
    exact lv_imul hx hb hdg (kk H locs lsA same)
  | iand =>
    obtain rfl : nx = pc + 1 := hnx
    obtain ⟨x, y, r, h1, rfl⟩ := mq_b_of hm
    obtain rfl : st = .int y :: .int x :: r := h1
    exact lv_iand hx hb hdg (kk H locs lsA same)
  | ior =>
    obtain rfl : nx = pc + 1 := hnx
    obtain ⟨x, y, r, h1, rfl⟩ := mq_b_of hm
    obtain rfl : st = .int y :: .int x :: r := h1
    exact lv_ior hx hb hdg (kk H locs lsA same)
  | ixor =>
    obtain rfl : nx = pc + 1 := hnx
    obtain ⟨x, y, r, h1, rfl⟩ := mq_b_of hm
    obtain rfl : st = .int y :: .int x :: r := h1
    exact lv_ixor hx hb hdg (kk H locs lsA same)
  | ishl =>
    obtain rfl : nx = pc + 1 := hnx
    obtain ⟨x, y, r, h1, rfl⟩ := mq_b_of hm
    obtain rfl : st = .int y :: .int x :: r := h1
    exact lv_ishl hx hb hdg (kk H locs lsA same)
  | ishr =>
    obtain rfl : nx = pc + 1 := hnx
    obtain ⟨x, y, r, h1, rfl⟩ := mq_b_of hm
    obtain rfl : st = .int y :: .int x :: r := h1
    exact lv_ishr hx hb hdg (kk H locs lsA same)
  | idiv =>
    obtain rfl : nx = pc + 1 := hnx
    obtain ⟨x, y, r, h1, h0, rfl⟩ := mq_bz_of hm
    obtain rfl : st = .int y :: .int x :: r := h1
    exact lv_idiv hx hb hdg h0 (kk H locs lsA same)
  | irem =>
    obtain rfl : nx = pc + 1 := hnx
    obtain ⟨x, y, r, h1, h0, rfl⟩ := mq_bz_of hm
    obtain rfl : st = .int y :: .int x :: r := h1
    exact lv_irem hx hb hdg h0 (kk H locs lsA same)
  | ladd =>
    obtain rfl : nx = pc + 1 := hnx
    obtain ⟨x, y, r, h1, rfl⟩ := mq_l_of hm
    obtain rfl : st = .long y :: .long x :: r := h1
    exact lv_ladd hx hb hdg (kk H locs lsA same)
  | lsub =>
    obtain rfl : nx = pc + 1 := hnx
    obtain ⟨x, y, r, h1, rfl⟩ := mq_l_of hm
    obtain rfl : st = .long y :: .long x :: r := h1
    exact lv_lsub hx hb hdg (kk H locs lsA same)
  | lmul =>
    obtain rfl : nx = pc + 1 := hnx
    obtain ⟨x, y, r, h1, rfl⟩ := mq_l_of hm
    obtain rfl : st = .long y :: .long x :: r := h1
    exact lv_lmul hx hb hdg (kk H locs lsA same)
  | land =>
    obtain rfl : nx = pc + 1 := hnx
    obtain ⟨x, y, r, h1, rfl⟩ := mq_l_of hm
    obtain rfl : st = .long y :: .long x :: r := h1
    exact lv_land hx hb hdg (kk H locs lsA same)
  | lor =>
    obtain rfl : nx = pc + 1 := hnx
    obtain ⟨x, y, r, h1, rfl⟩ := mq_l_of hm
    obtain rfl : st = .long y :: .long x :: r := h1
    exact lv_lor hx hb hdg (kk H locs lsA same)
  | ldiv =>
    obtain rfl : nx = pc + 1 := hnx
    obtain ⟨x, y, r, h1, h0, rfl⟩ := mq_lz_of hm
    obtain rfl : st = .long y :: .long x :: r := h1
    exact lv_ldiv hx hb hdg h0 (kk H locs lsA same)
  | lrem =>
    obtain rfl : nx = pc + 1 := hnx
    obtain ⟨x, y, r, h1, h0, rfl⟩ := mq_lz_of hm
    obtain rfl : st = .long y :: .long x :: r := h1
    exact lv_lrem hx hb hdg h0 (kk H locs lsA same)
  | lcmp =>
    obtain rfl : nx = pc + 1 := hnx
    simp only [mCo, mq_lcmp] at hm
    split at hm
    · rename_i y x r h1
      cases hm
      exact W.lcmp hx hb hdg (kk H locs lsA same)
    · cases hm
  | lshl =>
    obtain rfl : nx = pc + 1 := hnx
    simp only [mCo, mq_lshl] at hm
    split at hm
    · cases hm
      exact lv_lshl hx hb hdg rfl (kk H locs lsA same)
    · cases hm
  | i2l =>
    obtain rfl : nx = pc + 1 := hnx
    simp only [mCo, mq_i2l] at hm
    split at hm
    · cases hm
      exact lv_i2l hx hb hdg rfl (kk H locs lsA same)
    · cases hm
  | l2i =>
    obtain rfl : nx = pc + 1 := hnx
    simp only [mCo, mq_l2i] at hm
    split at hm
    · cases hm
      exact lv_l2i hx hb hdg rfl (kk H locs lsA same)
    · cases hm
  | i2b =>
    obtain rfl : nx = pc + 1 := hnx
    simp only [mCo, mq_i2b] at hm
    split at hm
    · cases hm
      exact lv_i2b hx hb hdg rfl (kk H locs lsA same)
    · cases hm
  | ifCond cd o =>
    obtain rfl : nx = pc + 3 := hnx
    simp only [mCo, mq_if] at hm
    split at hm
    · rename_i x r h1
      refine W_if hx hb hdg (of_decide_eq_true hlk) (fun h => ?_) (fun h => ?_)
      · rw [if_pos h] at hm
        cases hm
        exact kk H locs lsA same
      · rw [if_neg (by rw [h]; decide)] at hm
        cases hm
        exact kk H locs lsA same
    · cases hm
  | if_icmp cd o =>
    obtain rfl : nx = pc + 3 := hnx
    simp only [mCo, mq_icmp] at hm
    split at hm
    · rename_i y x r h1
      refine W_icmp hx hb hdg (of_decide_eq_true hlk) (fun h => ?_) (fun h => ?_)
      · rw [if_pos h] at hm
        cases hm
        exact kk H locs lsA same
      · rw [if_neg (by rw [h]; decide)] at hm
        cases hm
        exact kk H locs lsA same
    · cases hm
  | ifnull o =>
    obtain rfl : nx = pc + 3 := hnx
    simp only [mCo, mq_null] at hm
    split at hm
    · cases hm
      exact lv_ifnullN hx hb hdg (of_decide_eq_true hlk) (kk H locs lsA same)
    · cases hm
      exact lv_ifnull hx hb hdg (kk H locs lsA same)
    · cases hm
  | ifnonnull o =>
    obtain rfl : nx = pc + 3 := hnx
    simp only [mCo, mq_null] at hm
    split at hm
    · cases hm
      exact lv_ifnonnullN hx hb hdg (kk H locs lsA same)
    · cases hm
      exact lv_ifnonnull hx hb hdg (of_decide_eq_true hlk) (kk H locs lsA same)
    · cases hm
  | goto o =>
    cases hm
    exact lv_goto hx hb hdg (of_decide_eq_true hlk) (kk H locs lsA same)
  | dup =>
    obtain rfl : nx = pc + 1 := hnx
    simp only [mCo, mq_dup] at hm
    split at hm
    · split at hm
      · rename_i h2
        cases hm
        exact lv_dup hx hb hdg (by rw [tv_cat]; exact h2) (kk H locs lsA same)
      · cases hm
    · cases hm
  | dup2 =>
    obtain rfl : nx = pc + 1 := hnx
    simp only [mCo, mq_dup2] at hm
    split at hm
    · split at hm
      · rename_i h2
        cases hm
        exact lv_dup2_11 hx hb hdg (by rw [tv_cat]; exact h2.1) (by rw [tv_cat]; exact h2.2) (kk H locs lsA same)
      · cases hm
    · cases hm
  | pop =>
    obtain rfl : nx = pc + 1 := hnx
    simp only [mCo, mq_pop] at hm
    split at hm
    · split at hm
      · rename_i h2
        cases hm
        exact lv_pop hx hb hdg (by rw [tv_cat]; exact h2) (kk H locs lsA same)
      · cases hm
    · cases hm
  | getfield x =>
    obtain rfl : nx = pc + 3 := hnx
    simp only [mLk, Bool.and_eq_true, decide_eq_true_eq] at hlk
    obtain ⟨hl1, hl2, hl3⟩ := hlk
    simp only [mCo, mq_get] at hm
    split at hm
    · rename_i q r h1
      split at hm
      · rename_i sh hsh
        split at hm
        · rename_i ht
          cases hm
          obtain ⟨qc, hqc, hqN⟩ := mm_clsN hl2
          obtain ⟨o1, o2, o3, o4, o5, o6⟩ := mm_cls_ok _ _ hqc
          have hf : mm_f a = qc.2.1 (a % 100) := by rw [mm_f, hqc]
          have hlink := hgw _ (mm_fl_ok _ _ (mmem_of hl1))
          rw [hf] at hlink
          have he : (mWs G M)[q]? = some (gA G q, .inr (a / 100, (List.range (mm_N (a / 100))).map (fun k => tv (gA G) (mVp M q (mm_ty (a / 100) k) k)))) := by
            rw [mWs_get hsh, mEnt, ht, if_pos (by omega)]
          refine va_get (D := gD G) (T := qc.2.1) (N := qc.2.2) (C := qc.1) hx hb hgw o1 hown E.1 hP q he hqc (a % 100) (by omega) hlink (fun _ h => h) ?_ hdg (kk H locs lsA same)
          rw [List.getElem?_map, List.getElem?_range hl3]
          rfl
        · cases hm
      · cases hm
    · cases hm
  | putfield x =>
    obtain rfl : nx = pc + 3 := hnx
    simp only [mLk, Bool.and_eq_true, decide_eq_true_eq, Bool.or_eq_true, Bool.not_eq_true'] at hlk
    obtain ⟨hl1, hl2, hl3, hl4⟩ := hlk
    simp only [mCo, mq_put] at hm
    split at hm
    · rename_i v q r h1
      split at hm
      · rename_i sh hsh
        split at hm
        · rename_i ht
          obtain ⟨M', hM', rfl⟩ := Option.map_eq_some_iff.mp hm
          obtain ⟨e1, e2, e3, e4, e5, e6⟩ := mq_putv_of (gA G) hM'
          obtain ⟨qc, hqc, hqN⟩ := mm_clsN hl2
          obtain ⟨o1, o2, o3, o4, o5, o6⟩ := mm_cls_ok _ _ hqc
          have hf : mm_f a = qc.2.1 (a % 100) := by rw [mm_f, hqc]
          have hlink := hgw _ (mm_fl_ok _ _ (mmem_of hl1))
          rw [hf] at hlink
          have he : (mWs G M)[q]? = some (gA G q, .inr (a / 100, (List.range (mm_N (a / 100))).map (fun k => tv (gA G) (mVp M q (mm_ty (a / 100) k) k)))) := by
            rw [mWs_get hsh, mEnt, ht, if_pos (by omega)]
          have hset : (mWs G M).set q (gA G q, .inr (a / 100, ((List.range (mm_N (a / 100))).map (fun k => tv (gA G) (mVp M q (mm_ty (a / 100) k) k))).set (a % 100) (tv (gA G) v))) = mWs G M' := by
            rw [mWs_set hsh e1 e2, mEnt, ht, if_pos (by omega)]
            congr 3
            apply congrArg
            apply List.ext_getElem?
            intro j
            by_cases hj : a % 100 = j
            · subst hj
              rw [List.getElem?_set_self (by simpa using hl3), List.getElem?_map, List.getElem?_range hl3]
              simp only [Option.map_some, e4]
            · rw [List.getElem?_set_ne hj]
              simp only [List.getElem?_map]
              cases (List.range (mm_N (a / 100)))[j]? with
              | none => rfl
              | some t => skip
              all_goals skip
              sorry
          sorry
        · cases hm
      · cases hm
    · cases hm
  | _ => sorry
end MCO
