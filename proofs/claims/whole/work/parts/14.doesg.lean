/-! ===== the small machine does what the printed functions say ===== -/
set_option maxRecDepth 20000 in
theorem L_Model_fallOf_28 {X : mX} {x1 : Int32} {r : Int32 × mM}   (M : mM) (hM : Fx M)  (h : f_Model_fallOf_28 x1   M = some r) : KK X 6 222 28 [(0, .ref 436), (1, .int x1)] [] M (fun v M' => v = some (.int r.1) ∧ r.2 = M' ∧ Fx r.2) := by
    unfold f_Model_fallOf_28 at h
    refine K_aload_n rfl 0 rfl ?_
    refine K_iload_n rfl 1 rfl ?_
    refine K_iconst (v := 4) rfl (by decide) ?_
    obtain ⟨r2, er2, h⟩ := Option.bind_eq_some_iff.mp h
    refine K_cV [.int x1, .int 4] [] rfl rfl (Nat.le_of_ble_eq_true rfl) (Nat.le_of_ble_eq_true rfl) sh_436 hM rfl (EV_le (Nat.le_of_ble_eq_true rfl) (F_Model_graveOf hM  er2)) (fun v' M' hq => ?_)
    obtain ⟨rfl, rfl, hr2⟩ := hq
    obtain rfl := Option.some.inj h
    exact K_iret rfl (Or.inl rfl) ⟨rfl, rfl, hr2⟩
set_option maxRecDepth 20000 in
theorem L_Model_fallOf_2 {X : mX} {x1 : Int32} {r : Int32 × mM}  : ∀ (n : Nat) (l2 : Int32) (M : mM), Fx M → f_Model_fallOf_2 x1  n l2 M = some r → KK X 6 222 2 [(0, .ref 436), (1, .int x1), (2, .int l2)] [] M (fun v M' => v = some (.int r.1) ∧ r.2 = M' ∧ Fx r.2)
  | 0, _, _ => fun _ h => by cases h
  | n + 1, l2, M => fun hM h => by
    unfold f_Model_fallOf_2 at h
    refine K_iload_n rfl 2 rfl ?_
    refine K_sipush (v := 200) rfl (by decide) ?_
    refine K_ic_ge rfl (fun c1 => ?_) (fun c1 => ?_)
    · rw [if_pos c1] at h
      refine K_pick [0, 1] ?_
      exact L_Model_fallOf_28     _ hM  h
    · rw [if_neg c1] at h
      refine K_aload_n rfl 0 rfl ?_
      refine K_iload_n rfl 1 rfl ?_
      obtain ⟨r3, er3, h⟩ := Option.bind_eq_some_iff.mp h
      refine K_cV [.int x1] [] rfl rfl (Nat.le_of_ble_eq_true rfl) (Nat.le_of_ble_eq_true rfl) sh_436 hM rfl (EV_le (Nat.le_of_ble_eq_true rfl) (F_Model_isFallen hM  er3)) (fun v' M' hq => ?_)
      obtain ⟨rfl, rfl, hr3⟩ := hq
      refine K_if_ne rfl (fun c4 => ?_) (fun c4 => ?_)
      · rw [if_neg c4] at h
        refine K_pick [0, 1] ?_
        exact L_Model_fallOf_28     _ hr3  h
      · rw [if_pos c4] at h
        refine K_aload_n rfl 0 rfl ?_
        obtain ⟨r5, er5, h⟩ := Option.bind_eq_some_iff.mp h
        refine K_cV [] [] rfl rfl (Nat.le_of_ble_eq_true rfl) (Nat.le_of_ble_eq_true rfl) sh_436 hr3 rfl (EV_le (Nat.le_of_ble_eq_true rfl) (F_Model_passes hr3  er5)) (fun v' M' hq => ?_)
        obtain ⟨rfl, rfl, hr5⟩ := hq
        refine K_pop rfl rfl ?_
        refine K_iinc (y := (l2 + 1)) rfl 2 rfl rfl ?_
        refine K_goto rfl ?_
        refine K_pick [1, 2, 0] ?_
        exact L_Model_fallOf_2    n _ _ hr5  h
set_option maxRecDepth 20000 in
theorem F_Model_fallOf {X : mX} {x1 : Int32} {M : mM} {r : Int32 × mM} (hM : Fx M)  (h : f_Model_fallOf x1 M = some r) : EV X (6 + 1) 222 [.ref 436, .int x1] M (fun v M' => v = some (.int r.1) ∧ r.2 = M' ∧ Fx r.2) := by
    refine EV_of (lc := [(0, .ref 436), (1, .int x1)]) (Nat.le_of_ble_eq_true rfl) (by exact Nat.le_of_ble_eq_true rfl) (by exact List.forall_mem_cons.mpr ⟨rfl, List.forall_mem_cons.mpr ⟨rfl, fun _ h => absurd h List.not_mem_nil⟩⟩) ?_
    unfold f_Model_fallOf at h
    refine K_iconst (v := 0) rfl (by decide) ?_
    refine K_istore_n rfl ?_
    refine K_pick [1, 2, 0] ?_
    exact L_Model_fallOf_2    FUEL _ _ hM  h
set_option maxRecDepth 20000 in
theorem F_Model_fall {X : mX} {x1 : Int32} {M : mM} {r : Int32 × mM} (hM : Fx M)  (h : f_Model_fall x1 M = some r) : EV X (7 + 1) 221 [.ref 436, .int x1] M (fun v M' => v = some (.int r.1) ∧ r.2 = M' ∧ Fx r.2) := by
    refine EV_of (lc := [(0, .ref 436), (1, .int x1)]) (Nat.le_of_ble_eq_true rfl) (by exact Nat.le_of_ble_eq_true rfl) (by exact List.forall_mem_cons.mpr ⟨rfl, List.forall_mem_cons.mpr ⟨rfl, fun _ h => absurd h List.not_mem_nil⟩⟩) ?_
    unfold f_Model_fall at h
    refine K_aload_n rfl 0 rfl ?_
    refine K_iload_n rfl 1 rfl ?_
    obtain ⟨r1, er1, h⟩ := Option.bind_eq_some_iff.mp h
    refine K_cV [.int x1] [] rfl rfl (Nat.le_of_ble_eq_true rfl) (Nat.le_of_ble_eq_true rfl) sh_436 hM rfl (EV_le (Nat.le_of_ble_eq_true rfl) (F_Model_isGrave hM  er1)) (fun v' M' hq => ?_)
    obtain ⟨rfl, rfl, hr1⟩ := hq
    refine K_if_ne rfl (fun c2 => ?_) (fun c2 => ?_)
    · rw [if_neg c2] at h
      refine K_aload_n rfl 0 rfl ?_
      obtain ⟨M3, eM3, h⟩ := Option.bind_eq_some_iff.mp h
      refine K_cV [] [] rfl rfl (Nat.le_of_ble_eq_true rfl) (Nat.le_of_ble_eq_true rfl) sh_436 hr1 rfl (EV_le (Nat.le_of_ble_eq_true rfl) (F_Model_keeps hr1  eM3)) (fun v' M' hq => ?_)
      obtain ⟨rfl, rfl, hM3⟩ := hq
      refine K_aload_n rfl 0 rfl ?_
      refine K_iload_n rfl 1 rfl ?_
      obtain ⟨r4, er4, h⟩ := Option.bind_eq_some_iff.mp h
      refine K_cV [.int x1] [] rfl rfl (Nat.le_of_ble_eq_true rfl) (Nat.le_of_ble_eq_true rfl) sh_436 hM3 rfl (EV_le (Nat.le_of_ble_eq_true rfl) (F_Model_fallOf hM3  er4)) (fun v' M' hq => ?_)
      obtain ⟨rfl, rfl, hr4⟩ := hq
      refine K_istore_n rfl ?_
      refine K_aload_n rfl 1 rfl ?_
      obtain ⟨M5, eM5, h⟩ := Option.bind_eq_some_iff.mp h
      refine K_cV [] [] rfl rfl (Nat.le_of_ble_eq_true rfl) (Nat.le_of_ble_eq_true rfl) sh_436 hr4 rfl (EV_le (Nat.le_of_ble_eq_true rfl) (F_Model_laysBack hr4  eM5)) (fun v' M' hq => ?_)
      obtain ⟨rfl, rfl, hM5⟩ := hq
      refine K_iload_n rfl 0 rfl ?_
      refine K_if_ge rfl (fun c6 => ?_) (fun c6 => ?_)
      · rw [if_pos c6] at h
        refine K_iload_n rfl 0 rfl ?_
        obtain rfl := Option.some.inj h
        exact K_iret rfl (Or.inl rfl) ⟨rfl, rfl, hM5⟩
      · rw [if_neg c6] at h
        refine K_bipush (v := (-2)) rfl (by decide) ?_
        refine K_goto rfl ?_
        obtain rfl := Option.some.inj h
        exact K_iret rfl (Or.inl rfl) ⟨rfl, rfl, hM5⟩
    · rw [if_pos c2] at h
      refine K_iconst (v := (-1)) rfl (by decide) ?_
      obtain rfl := Option.some.inj h
      exact K_iret rfl (Or.inl rfl) ⟨rfl, rfl, hr1⟩
set_option maxRecDepth 20000 in
theorem F_Model_areAbreast {X : mX} {x1 : Int32} {x2 : Int32} {M : mM} {r : Int32 × mM} (hM : Fx M)  (h : f_Model_areAbreast x1 x2 M = some r) : EV X (2 + 1) 224 [.ref 436, .int x1, .int x2] M (fun v M' => v = some (.int r.1) ∧ r.2 = M' ∧ Fx r.2) := by
    refine EV_of (lc := [(0, .ref 436), (1, .int x1), (2, .int x2)]) (Nat.le_of_ble_eq_true rfl) (by exact Nat.le_of_ble_eq_true rfl) (by exact List.forall_mem_cons.mpr ⟨rfl, List.forall_mem_cons.mpr ⟨rfl, List.forall_mem_cons.mpr ⟨rfl, fun _ h => absurd h List.not_mem_nil⟩⟩⟩) ?_
    unfold f_Model_areAbreast at h
    refine K_aload_n rfl 0 rfl ?_
    refine K_iload_n rfl 1 rfl ?_
    obtain ⟨r1, er1, h⟩ := Option.bind_eq_some_iff.mp h
    refine K_cV [.int x1] [] rfl rfl (Nat.le_of_ble_eq_true rfl) (Nat.le_of_ble_eq_true rfl) sh_436 hM rfl (EV_le (Nat.le_of_ble_eq_true rfl) (F_Model_isFallen hM  er1)) (fun v' M' hq => ?_)
    obtain ⟨rfl, rfl, hr1⟩ := hq
    refine K_if_ne rfl (fun c2 => ?_) (fun c2 => ?_)
    · rw [if_neg c2] at h
      refine K_iconst (v := 0) rfl (by decide) ?_
      obtain rfl := Option.some.inj h
      exact K_iret rfl (Or.inr ⟨rfl, by decide⟩) ⟨rfl, rfl, hr1⟩
    · rw [if_pos c2] at h
      refine K_aload_n rfl 0 rfl ?_
      refine K_iload_n rfl 2 rfl ?_
      obtain ⟨r3, er3, h⟩ := Option.bind_eq_some_iff.mp h
      refine K_cV [.int x2] [] rfl rfl (Nat.le_of_ble_eq_true rfl) (Nat.le_of_ble_eq_true rfl) sh_436 hr1 rfl (EV_le (Nat.le_of_ble_eq_true rfl) (F_Model_isFallen hr1  er3)) (fun v' M' hq => ?_)
      obtain ⟨rfl, rfl, hr3⟩ := hq
      refine K_if_ne rfl (fun c4 => ?_) (fun c4 => ?_)
      · rw [if_neg c4] at h
        refine K_iconst (v := 0) rfl (by decide) ?_
        obtain rfl := Option.some.inj h
        exact K_iret rfl (Or.inr ⟨rfl, by decide⟩) ⟨rfl, rfl, hr3⟩
      · rw [if_pos c4] at h
        refine K_aload_n rfl 0 rfl ?_
        refine K_iload_n rfl 1 rfl ?_
        refine K_iconst (v := 0) rfl (by decide) ?_
        obtain ⟨r5, er5, h⟩ := Option.bind_eq_some_iff.mp h
        refine K_cV [.int x1, .int 0] [] rfl rfl (Nat.le_of_ble_eq_true rfl) (Nat.le_of_ble_eq_true rfl) sh_436 hr3 rfl (EV_le (Nat.le_of_ble_eq_true rfl) (F_Model_graveOf hr3  er5)) (fun v' M' hq => ?_)
        obtain ⟨rfl, rfl, hr5⟩ := hq
        refine K_aload_n rfl 0 rfl ?_
        refine K_iload_n rfl 2 rfl ?_
        refine K_iconst (v := 0) rfl (by decide) ?_
        obtain ⟨r6, er6, h⟩ := Option.bind_eq_some_iff.mp h
        refine K_cV [.int x2, .int 0] [.int r5.1] rfl rfl (Nat.le_of_ble_eq_true rfl) (Nat.le_of_ble_eq_true rfl) sh_436 hr5 rfl (EV_le (Nat.le_of_ble_eq_true rfl) (F_Model_graveOf hr5  er6)) (fun v' M' hq => ?_)
        obtain ⟨rfl, rfl, hr6⟩ := hq
        refine K_ic_eq rfl (fun c7 => ?_) (fun c7 => ?_)
        · rw [if_pos c7] at h
          refine K_iconst (v := 0) rfl (by decide) ?_
          obtain rfl := Option.some.inj h
          exact K_iret rfl (Or.inr ⟨rfl, by decide⟩) ⟨rfl, rfl, hr6⟩
        · rw [if_neg c7] at h
          refine K_aload_n rfl 0 rfl ?_
          refine K_iload_n rfl 1 rfl ?_
          refine K_iconst (v := 1) rfl (by decide) ?_
          obtain ⟨r8, er8, h⟩ := Option.bind_eq_some_iff.mp h
          refine K_cV [.int x1, .int 1] [] rfl rfl (Nat.le_of_ble_eq_true rfl) (Nat.le_of_ble_eq_true rfl) sh_436 hr6 rfl (EV_le (Nat.le_of_ble_eq_true rfl) (F_Model_graveOf hr6  er8)) (fun v' M' hq => ?_)
          obtain ⟨rfl, rfl, hr8⟩ := hq
          refine K_aload_n rfl 0 rfl ?_
          refine K_iload_n rfl 2 rfl ?_
          refine K_iconst (v := 1) rfl (by decide) ?_
          obtain ⟨r9, er9, h⟩ := Option.bind_eq_some_iff.mp h
          refine K_cV [.int x2, .int 1] [.int r8.1] rfl rfl (Nat.le_of_ble_eq_true rfl) (Nat.le_of_ble_eq_true rfl) sh_436 hr8 rfl (EV_le (Nat.le_of_ble_eq_true rfl) (F_Model_graveOf hr8  er9)) (fun v' M' hq => ?_)
          obtain ⟨rfl, rfl, hr9⟩ := hq
          refine K_ic_ne rfl (fun c10 => ?_) (fun c10 => ?_)
          · rw [if_neg c10] at h
            refine K_iconst (v := 0) rfl (by decide) ?_
            obtain rfl := Option.some.inj h
            exact K_iret rfl (Or.inr ⟨rfl, by decide⟩) ⟨rfl, rfl, hr9⟩
          · rw [if_pos c10] at h
            refine K_iconst (v := 1) rfl (by decide) ?_
            refine K_goto rfl ?_
            obtain rfl := Option.some.inj h
            exact K_iret rfl (Or.inr ⟨rfl, by decide⟩) ⟨rfl, rfl, hr9⟩
set_option maxRecDepth 20000 in
theorem L_Model_abreast_72 {X : mX} {x1 : Int32} {x2 : Int32} {r : Int32 × mM}  (l3 : Int32) (M : mM) (hM : Fx M)  (h : f_Model_abreast_72 x1 x2  l3 M = some r) : KK X 6 223 72 [(0, .ref 436), (3, .int l3)] [] M (fun v M' => v = some (.int r.1) ∧ r.2 = M' ∧ Fx r.2) := by
    unfold f_Model_abreast_72 at h
    refine K_aload_n rfl 0 rfl ?_
    obtain ⟨M8, eM8, h⟩ := Option.bind_eq_some_iff.mp h
    refine K_cV [] [] rfl rfl (Nat.le_of_ble_eq_true rfl) (Nat.le_of_ble_eq_true rfl) sh_436 hM rfl (EV_le (Nat.le_of_ble_eq_true rfl) (F_Model_laysBack hM  eM8)) (fun v' M' hq => ?_)
    obtain ⟨rfl, rfl, hM8⟩ := hq
    refine K_iload_n rfl 1 rfl ?_
    obtain rfl := Option.some.inj h
    exact K_iret rfl (Or.inl rfl) ⟨rfl, rfl, hM8⟩
set_option maxRecDepth 20000 in
theorem L_Model_abreast_61 {X : mX} {x1 : Int32} {x2 : Int32} {k33 : Int32 → Int32 → mM → Option (Int32 × mM)} {r : Int32 × mM}  (hk33 : ∀ (l3 : Int32) (l4 : Int32) (M : mM), Fx M → k33 l3 l4 M = some r → KK X 6 223 33 [(0, .ref 436), (1, .int x1), (2, .int x2), (3, .int l3), (4, .int l4)] [] M (fun v M' => v = some (.int r.1) ∧ r.2 = M' ∧ Fx r.2)) (l3 : Int32) (l4 : Int32) (M : mM) (hM : Fx M)  (h : f_Model_abreast_61 x1 x2 k33 l3 l4 M = some r) : KK X 6 223 61 [(0, .ref 436), (1, .int x1), (2, .int x2), (3, .int l3), (4, .int l4)] [] M (fun v M' => v = some (.int r.1) ∧ r.2 = M' ∧ Fx r.2) := by
    unfold f_Model_abreast_61 at h
    refine K_aload_n rfl 0 rfl ?_
    obtain ⟨r12, er12, h⟩ := Option.bind_eq_some_iff.mp h
    refine K_cV [] [] rfl rfl (Nat.le_of_ble_eq_true rfl) (Nat.le_of_ble_eq_true rfl) sh_436 hM rfl (EV_le (Nat.le_of_ble_eq_true rfl) (F_Model_passes hM  er12)) (fun v' M' hq => ?_)
    obtain ⟨rfl, rfl, hr12⟩ := hq
    refine K_pop rfl rfl ?_
    refine K_iinc (y := (l4 + 1)) rfl 4 rfl rfl ?_
    refine K_goto rfl ?_
    refine K_pick [1, 2, 3, 4, 0] ?_
    exact hk33 _ _ _ hr12  h
set_option maxRecDepth 20000 in
theorem L_Model_abreast_33 {X : mX} {x1 : Int32} {x2 : Int32} {r : Int32 × mM}  : ∀ (n : Nat) (l3 : Int32) (l4 : Int32) (M : mM), Fx M → f_Model_abreast_33 x1 x2  n l3 l4 M = some r → KK X 6 223 33 [(0, .ref 436), (1, .int x1), (2, .int x2), (3, .int l3), (4, .int l4)] [] M (fun v M' => v = some (.int r.1) ∧ r.2 = M' ∧ Fx r.2)
  | 0, _, _, _ => fun _ h => by cases h
  | n + 1, l3, l4, M => fun hM h => by
    unfold f_Model_abreast_33 at h
    refine K_iload rfl 4 rfl ?_
    refine K_sipush (v := 200) rfl (by decide) ?_
    refine K_ic_gt rfl (fun c7 => ?_) (fun c7 => ?_)
    · rw [if_pos c7] at h
      refine K_pick [0, 3] ?_
      exact L_Model_abreast_72    _ _ hM  h
    · rw [if_neg c7] at h
      refine K_iload_n rfl 3 rfl ?_
      refine K_if_ge rfl (fun c9 => ?_) (fun c9 => ?_)
      · rw [if_pos c9] at h
        refine K_pick [0, 3] ?_
        exact L_Model_abreast_72    _ _ hM  h
      · rw [if_neg c9] at h
        refine K_aload_n rfl 0 rfl ?_
        refine K_iload_n rfl 1 rfl ?_
        refine K_iload_n rfl 2 rfl ?_
        obtain ⟨r10, er10, h⟩ := Option.bind_eq_some_iff.mp h
        refine K_cV [.int x1, .int x2] [] rfl rfl (Nat.le_of_ble_eq_true rfl) (Nat.le_of_ble_eq_true rfl) sh_436 hM rfl (EV_le (Nat.le_of_ble_eq_true rfl) (F_Model_areAbreast hM  er10)) (fun v' M' hq => ?_)
        obtain ⟨rfl, rfl, hr10⟩ := hq
        refine K_if_eq rfl (fun c11 => ?_) (fun c11 => ?_)
        · rw [if_pos c11] at h
          refine K_pick [0, 1, 2, 3, 4] ?_
          exact L_Model_abreast_61   (L_Model_abreast_33    n) _ _ _ hr10  h
        · rw [if_neg c11] at h
          refine K_aload_n rfl 0 rfl ?_
          refine K_gR rfl sh_436 hr10 rfl rfl 20 rfl r_436_20 ?_
          refine K_iconst (v := 3) rfl (by decide) ?_
          obtain ⟨v13, ev13, h⟩ := Option.bind_eq_some_iff.mp h
          refine K_rd rfl sh_446 hr10 ev13 ?_
          refine K_istore_n rfl ?_
          refine K_pick [1, 2, 3, 0, 4] ?_
          exact L_Model_abreast_61   (L_Model_abreast_33    n) _ _ _ hr10  h
set_option maxRecDepth 20000 in
theorem F_Model_abreast {X : mX} {x1 : Int32} {x2 : Int32} {M : mM} {r : Int32 × mM} (hM : Fx M)  (h : f_Model_abreast x1 x2 M = some r) : EV X (6 + 1) 223 [.ref 436, .int x1, .int x2] M (fun v M' => v = some (.int r.1) ∧ r.2 = M' ∧ Fx r.2) := by
    refine EV_of (lc := [(0, .ref 436), (1, .int x1), (2, .int x2)]) (Nat.le_of_ble_eq_true rfl) (by exact Nat.le_of_ble_eq_true rfl) (by exact List.forall_mem_cons.mpr ⟨rfl, List.forall_mem_cons.mpr ⟨rfl, List.forall_mem_cons.mpr ⟨rfl, fun _ h => absurd h List.not_mem_nil⟩⟩⟩) ?_
    unfold f_Model_abreast at h
    refine K_aload_n rfl 0 rfl ?_
    refine K_iload_n rfl 1 rfl ?_
    obtain ⟨r1, er1, h⟩ := Option.bind_eq_some_iff.mp h
    refine K_cV [.int x1] [] rfl rfl (Nat.le_of_ble_eq_true rfl) (Nat.le_of_ble_eq_true rfl) sh_436 hM rfl (EV_le (Nat.le_of_ble_eq_true rfl) (F_Model_isGrave hM  er1)) (fun v' M' hq => ?_)
    obtain ⟨rfl, rfl, hr1⟩ := hq
    refine K_if_eq rfl (fun c2 => ?_) (fun c2 => ?_)
    · rw [if_pos c2] at h
      refine K_iconst (v := (-1)) rfl (by decide) ?_
      obtain rfl := Option.some.inj h
      exact K_iret rfl (Or.inl rfl) ⟨rfl, rfl, hr1⟩
    · rw [if_neg c2] at h
      refine K_aload_n rfl 0 rfl ?_
      refine K_iload_n rfl 2 rfl ?_
      obtain ⟨r3, er3, h⟩ := Option.bind_eq_some_iff.mp h
      refine K_cV [.int x2] [] rfl rfl (Nat.le_of_ble_eq_true rfl) (Nat.le_of_ble_eq_true rfl) sh_436 hr1 rfl (EV_le (Nat.le_of_ble_eq_true rfl) (F_Model_isGrave hr1  er3)) (fun v' M' hq => ?_)
      obtain ⟨rfl, rfl, hr3⟩ := hq
      refine K_if_eq rfl (fun c4 => ?_) (fun c4 => ?_)
      · rw [if_pos c4] at h
        refine K_iconst (v := (-1)) rfl (by decide) ?_
        obtain rfl := Option.some.inj h
        exact K_iret rfl (Or.inl rfl) ⟨rfl, rfl, hr3⟩
      · rw [if_neg c4] at h
        refine K_iload_n rfl 1 rfl ?_
        refine K_iload_n rfl 2 rfl ?_
        refine K_ic_ne rfl (fun c5 => ?_) (fun c5 => ?_)
        · rw [if_neg c5] at h
          refine K_aload_n rfl 0 rfl ?_
          obtain ⟨M6, eM6, h⟩ := Option.bind_eq_some_iff.mp h
          refine K_cV [] [] rfl rfl (Nat.le_of_ble_eq_true rfl) (Nat.le_of_ble_eq_true rfl) sh_436 hr3 rfl (EV_le (Nat.le_of_ble_eq_true rfl) (F_Model_keeps hr3  eM6)) (fun v' M' hq => ?_)
          obtain ⟨rfl, rfl, hM6⟩ := hq
          refine K_bipush (v := (-2)) rfl (by decide) ?_
          refine K_istore_n rfl ?_
          refine K_iconst (v := 0) rfl (by decide) ?_
          refine K_istore rfl ?_
          refine K_pick [2, 3, 4, 1, 0] ?_
          exact L_Model_abreast_33    FUEL _ _ _ hM6  h
        · rw [if_pos c5] at h
          refine K_iconst (v := (-1)) rfl (by decide) ?_
          obtain rfl := Option.some.inj h
          exact K_iret rfl (Or.inl rfl) ⟨rfl, rfl, hr3⟩
set_option maxRecDepth 20000 in
theorem L_Model_fallTogether_44 {X : mX} {x1 : Int32} {x2 : Int32} {x3 : Int32} {r : Int32 × mM}  (s0 : Int32) (M : mM) (hM : Fx M)  (h : f_Model_fallTogether_44 x1 x2 x3  s0 M = some r) : KK X 7 226 44 [(0, .ref 436)] [.int s0] M (fun v M' => v = some (.int r.1) ∧ r.2 = M' ∧ Fx r.2) := by
    unfold f_Model_fallTogether_44 at h
    refine K_istore rfl ?_
    refine K_aload_n rfl 1 rfl ?_
    obtain ⟨M5, eM5, h⟩ := Option.bind_eq_some_iff.mp h
    refine K_cV [] [] rfl rfl (Nat.le_of_ble_eq_true rfl) (Nat.le_of_ble_eq_true rfl) sh_436 hM rfl (EV_le (Nat.le_of_ble_eq_true rfl) (F_Model_laysBack hM  eM5)) (fun v' M' hq => ?_)
    obtain ⟨rfl, rfl, hM5⟩ := hq
    refine K_iload rfl 0 rfl ?_
    split at h
    · rename_i c6
      obtain rfl := Option.some.inj h
      exact K_iret rfl (Or.inr ⟨rfl, c6⟩) ⟨rfl, rfl, hM5⟩
    · cases h
set_option maxRecDepth 20000 in
theorem L_Model_fallTogether_43 {X : mX} {x1 : Int32} {x2 : Int32} {x3 : Int32} {r : Int32 × mM}   (M : mM) (hM : Fx M)  (h : f_Model_fallTogether_43 x1 x2 x3   M = some r) : KK X 7 226 43 [(0, .ref 436)] [] M (fun v M' => v = some (.int r.1) ∧ r.2 = M' ∧ Fx r.2) := by
    unfold f_Model_fallTogether_43 at h
    refine K_iconst (v := 0) rfl (by decide) ?_
    refine K_pick [0] ?_
    exact L_Model_fallTogether_44    _ _ hM  h
set_option maxRecDepth 20000 in
theorem F_Model_fallTogether {X : mX} {x1 : Int32} {x2 : Int32} {x3 : Int32} {M : mM} {r : Int32 × mM} (hM : Fx M)  (h : f_Model_fallTogether x1 x2 x3 M = some r) : EV X (7 + 1) 226 [.ref 436, .int x1, .int x2, .int x3] M (fun v M' => v = some (.int r.1) ∧ r.2 = M' ∧ Fx r.2) := by
    refine EV_of (lc := [(0, .ref 436), (1, .int x1), (2, .int x2), (3, .int x3)]) (Nat.le_of_ble_eq_true rfl) (by exact Nat.le_of_ble_eq_true rfl) (by exact List.forall_mem_cons.mpr ⟨rfl, List.forall_mem_cons.mpr ⟨rfl, List.forall_mem_cons.mpr ⟨rfl, List.forall_mem_cons.mpr ⟨rfl, fun _ h => absurd h List.not_mem_nil⟩⟩⟩⟩) ?_
    unfold f_Model_fallTogether at h
    refine K_aload_n rfl 0 rfl ?_
    refine K_gR rfl sh_436 hM rfl rfl 20 rfl r_436_20 ?_
    refine K_iconst (v := 2) rfl (by decide) ?_
    obtain ⟨v1, ev1, h⟩ := Option.bind_eq_some_iff.mp h
    refine K_rd rfl sh_446 hM ev1 ?_
    refine K_istore rfl ?_
    refine K_aload_n rfl 1 rfl ?_
    refine K_iload_n rfl 3 rfl ?_
    refine K_iload_n rfl 4 rfl ?_
    refine K_iconst (v := 0) rfl (by decide) ?_
    obtain ⟨M2, eM2, h⟩ := Option.bind_eq_some_iff.mp h
    refine K_cV [.int x2, .int x3, .int 0] [] rfl rfl (Nat.le_of_ble_eq_true rfl) (Nat.le_of_ble_eq_true rfl) sh_436 hM rfl (EV_le (Nat.le_of_ble_eq_true rfl) (F_Model_digs hM  eM2)) (fun v' M' hq => ?_)
    obtain ⟨rfl, rfl, hM2⟩ := hq
    refine K_aload_n rfl 1 rfl ?_
    refine K_iload_n rfl 2 rfl ?_
    obtain ⟨r3, er3, h⟩ := Option.bind_eq_some_iff.mp h
    refine K_cV [.int x1] [] rfl rfl (Nat.le_of_ble_eq_true rfl) (Nat.le_of_ble_eq_true rfl) sh_436 hM2 rfl (EV_le (Nat.le_of_ble_eq_true rfl) (F_Model_fallOf hM2  er3)) (fun v' M' hq => ?_)
    obtain ⟨rfl, rfl, hr3⟩ := hq
    refine K_istore rfl ?_
    refine K_iload rfl 0 rfl ?_
    refine K_if_lt rfl (fun c4 => ?_) (fun c4 => ?_)
    · rw [if_pos c4] at h
      refine K_pick [2] ?_
      exact L_Model_fallTogether_43     _ hr3  h
    · rw [if_neg c4] at h
      refine K_aload_n rfl 2 rfl ?_
      refine K_iload rfl 1 rfl ?_
      refine K_iconst (v := 4) rfl (by decide) ?_
      obtain ⟨r7, er7, h⟩ := Option.bind_eq_some_iff.mp h
      refine K_cV [.int v1, .int 4] [] rfl rfl (Nat.le_of_ble_eq_true rfl) (Nat.le_of_ble_eq_true rfl) sh_436 hr3 rfl (EV_le (Nat.le_of_ble_eq_true rfl) (F_Model_graveOf hr3  er7)) (fun v' M' hq => ?_)
      obtain ⟨rfl, rfl, hr7⟩ := hq
      refine K_iload rfl 0 rfl ?_
      refine K_ic_ne rfl (fun c8 => ?_) (fun c8 => ?_)
      · rw [if_neg c8] at h
        refine K_pick [2] ?_
        exact L_Model_fallTogether_43     _ hr7  h
      · rw [if_pos c8] at h
        refine K_iconst (v := 1) rfl (by decide) ?_
        refine K_goto rfl ?_
        refine K_pick [2] ?_
        exact L_Model_fallTogether_44    _ _ hr7  h
set_option maxRecDepth 20000 in
theorem L_Model_begin_136 {X : mX} {x1 : Int32} {x2 : Int32} {k54 : Int32 → Int32 → Int32 → mM → Option (Int32 × mM)} {r : Int32 × mM}  (hk54 : ∀ (l3 : Int32) (l4 : Int32) (l5 : Int32) (M : mM), Fx M → k54 l3 l4 l5 M = some r → KK X 8 225 54 [(0, .ref 436), (1, .int x1), (2, .int x2), (3, .int l3), (4, .int l4), (5, .int l5)] [] M (fun v M' => v = some (.int r.1) ∧ r.2 = M' ∧ Fx r.2)) (l3 : Int32) (l4 : Int32) (l5 : Int32) (M : mM) (hM : Fx M)  (h : f_Model_begin_136 x1 x2 k54 l3 l4 l5 M = some r) : KK X 8 225 136 [(0, .ref 436), (1, .int x1), (2, .int x2), (3, .int l3), (4, .int l4), (5, .int l5)] [] M (fun v M' => v = some (.int r.1) ∧ r.2 = M' ∧ Fx r.2) := by
    unfold f_Model_begin_136 at h
    refine K_iinc (y := (l5 + 1)) rfl 5 rfl rfl ?_
    refine K_goto rfl ?_
    refine K_pick [1, 2, 3, 4, 5, 0] ?_
    exact hk54 _ _ _ _ hM  h
set_option maxRecDepth 20000 in
theorem L_Model_begin_131 {X : mX} {x1 : Int32} {x2 : Int32} {k54 : Int32 → Int32 → Int32 → mM → Option (Int32 × mM)} {r : Int32 × mM}  (hk54 : ∀ (l3 : Int32) (l4 : Int32) (l5 : Int32) (M : mM), Fx M → k54 l3 l4 l5 M = some r → KK X 8 225 54 [(0, .ref 436), (1, .int x1), (2, .int x2), (3, .int l3), (4, .int l4), (5, .int l5)] [] M (fun v M' => v = some (.int r.1) ∧ r.2 = M' ∧ Fx r.2)) (l3 : Int32) (l5 : Int32) (s0 : Int32) (M : mM) (hM : Fx M)  (h : f_Model_begin_131 x1 x2 k54 l3 l5 s0 M = some r) : KK X 8 225 131 [(0, .ref 436), (1, .int x1), (2, .int x2), (3, .int l3), (5, .int l5)] [.int s0] M (fun v M' => v = some (.int r.1) ∧ r.2 = M' ∧ Fx r.2) := by
    unfold f_Model_begin_131 at h
    refine K_istore rfl ?_
    refine K_iinc (y := (l3 + 1)) rfl 4 rfl rfl ?_
    refine K_pick [2, 3, 4, 0, 1, 5] ?_
    exact L_Model_begin_136   hk54 _ _ _ _ hM  h
set_option maxRecDepth 20000 in
theorem L_Model_begin_54 {X : mX} {x1 : Int32} {x2 : Int32} {r : Int32 × mM}  : ∀ (n : Nat) (l3 : Int32) (l4 : Int32) (l5 : Int32) (M : mM), Fx M → f_Model_begin_54 x1 x2  n l3 l4 l5 M = some r → KK X 8 225 54 [(0, .ref 436), (1, .int x1), (2, .int x2), (3, .int l3), (4, .int l4), (5, .int l5)] [] M (fun v M' => v = some (.int r.1) ∧ r.2 = M' ∧ Fx r.2)
  | 0, _, _, _, _ => fun _ h => by cases h
  | n + 1, l3, l4, l5, M => fun hM h => by
    unfold f_Model_begin_54 at h
    refine K_iload rfl 5 rfl ?_
    refine K_aload_n rfl 0 rfl ?_
    refine K_gR rfl sh_436 hM rfl rfl 20 rfl r_436_20 ?_
    refine K_iconst (v := 0) rfl (by decide) ?_
    obtain ⟨v8, ev8, h⟩ := Option.bind_eq_some_iff.mp h
    refine K_rd rfl sh_446 hM ev8 ?_
    refine K_aload_n rfl 0 rfl ?_
    refine K_gR rfl sh_436 hM rfl rfl 20 rfl r_436_20 ?_
    refine K_iconst (v := 1) rfl (by decide) ?_
    obtain ⟨v9, ev9, h⟩ := Option.bind_eq_some_iff.mp h
    refine K_rd rfl sh_446 hM ev9 ?_
    refine K_imul rfl ?_
    refine K_ic_ge rfl (fun c10 => ?_) (fun c10 => ?_)
    · rw [if_pos c10] at h
      refine K_iload_n rfl 2 rfl ?_
      refine K_if_ne rfl (fun c11 => ?_) (fun c11 => ?_)
      · rw [if_neg c11] at h
        refine K_iload_n rfl 3 rfl ?_
        refine K_if_ne rfl (fun c12 => ?_) (fun c12 => ?_)
        · rw [if_neg c12] at h
          refine K_iload_n rfl 2 rfl ?_
          refine K_iconst (v := 1) rfl (by decide) ?_
          refine K_ic_ne rfl (fun c13 => ?_) (fun c13 => ?_)
          · rw [if_neg c13] at h
            refine K_iload rfl 4 rfl ?_
            refine K_aload_n rfl 0 rfl ?_
            refine K_gR rfl sh_436 hM rfl rfl 20 rfl r_436_20 ?_
            refine K_iconst (v := 1) rfl (by decide) ?_
            obtain ⟨v14, ev14, h⟩ := Option.bind_eq_some_iff.mp h
            refine K_rd rfl sh_446 hM ev14 ?_
            refine K_irem rfl (fun z => by rw [if_pos z] at h; cases h) ?_
            rw [if_neg (fun z : v14 = 0 => by rw [if_pos z] at h; cases h)] at h
            obtain rfl := Option.some.inj h
            exact K_iret rfl (Or.inl rfl) ⟨rfl, rfl, hM⟩
          · rw [if_pos c13] at h
            refine K_iload rfl 4 rfl ?_
            refine K_aload_n rfl 0 rfl ?_
            refine K_gR rfl sh_436 hM rfl rfl 20 rfl r_436_20 ?_
            refine K_iconst (v := 1) rfl (by decide) ?_
            obtain ⟨v16, ev16, h⟩ := Option.bind_eq_some_iff.mp h
            refine K_rd rfl sh_446 hM ev16 ?_
            refine K_idiv rfl (fun z => by rw [if_pos z] at h; cases h) ?_
            rw [if_neg (fun z : v16 = 0 => by rw [if_pos z] at h; cases h)] at h
            refine K_goto rfl ?_
            obtain rfl := Option.some.inj h
            exact K_iret rfl (Or.inl rfl) ⟨rfl, rfl, hM⟩
        · rw [if_pos c12] at h
          refine K_bipush (v := (-2)) rfl (by decide) ?_
          refine K_goto rfl ?_
          obtain rfl := Option.some.inj h
          exact K_iret rfl (Or.inl rfl) ⟨rfl, rfl, hM⟩
      · rw [if_pos c11] at h
        refine K_iload_n rfl 3 rfl ?_
        refine K_goto rfl ?_
        obtain rfl := Option.some.inj h
        exact K_iret rfl (Or.inl rfl) ⟨rfl, rfl, hM⟩
    · rw [if_neg c10] at h
      refine K_iload rfl 5 rfl ?_
      refine K_aload_n rfl 0 rfl ?_
      refine K_gR rfl sh_436 hM rfl rfl 20 rfl r_436_20 ?_
      refine K_iconst (v := 1) rfl (by decide) ?_
      obtain ⟨v18, ev18, h⟩ := Option.bind_eq_some_iff.mp h
      refine K_rd rfl sh_446 hM ev18 ?_
      refine K_idiv rfl (fun z => by rw [if_pos z] at h; cases h) ?_
      rw [if_neg (fun z : v18 = 0 => by rw [if_pos z] at h; cases h)] at h
      refine K_istore rfl ?_
      refine K_iload rfl 6 rfl ?_
      refine K_aload_n rfl 1 rfl ?_
      refine K_gR rfl sh_436 hM rfl rfl 20 rfl r_436_20 ?_
      refine K_iconst (v := 1) rfl (by decide) ?_
      obtain ⟨v20, ev20, h⟩ := Option.bind_eq_some_iff.mp h
      refine K_rd rfl sh_446 hM ev20 ?_
      refine K_irem rfl (fun z => by rw [if_pos z] at h; cases h) ?_
      rw [if_neg (fun z : v20 = 0 => by rw [if_pos z] at h; cases h)] at h
      refine K_istore rfl ?_
      refine K_aload_n rfl 2 rfl ?_
      refine K_iload rfl 1 rfl ?_
      refine K_iload rfl 0 rfl ?_
      obtain ⟨r22, er22, h⟩ := Option.bind_eq_some_iff.mp h
      refine K_cV [.int (l5 / v18), .int (l5 - l5 / v20 * v20)] [] rfl rfl (Nat.le_of_ble_eq_true rfl) (Nat.le_of_ble_eq_true rfl) sh_436 hM rfl (EV_le (Nat.le_of_ble_eq_true rfl) (F_Model_graveAt hM  er22)) (fun v' M' hq => ?_)
      obtain ⟨rfl, rfl, hr22⟩ := hq
      refine K_if_ge rfl (fun c23 => ?_) (fun c23 => ?_)
      · rw [if_pos c23] at h
        refine K_pick [2, 3, 4, 5, 6, 7] ?_
        exact L_Model_begin_136   (L_Model_begin_54    n) _ _ _ _ hr22  h
      · rw [if_neg c23] at h
        refine K_aload_n rfl 2 rfl ?_
        refine K_iload_n rfl 3 rfl ?_
        refine K_iload rfl 1 rfl ?_
        refine K_iload rfl 0 rfl ?_
        obtain ⟨r24, er24, h⟩ := Option.bind_eq_some_iff.mp h
        refine K_cV [.int x1, .int (l5 / v18), .int (l5 - l5 / v20 * v20)] [] rfl rfl (Nat.le_of_ble_eq_true rfl) (Nat.le_of_ble_eq_true rfl) sh_436 hr22 rfl (EV_le (Nat.le_of_ble_eq_true rfl) (F_Model_fallTogether hr22  er24)) (fun v' M' hq => ?_)
        obtain ⟨rfl, rfl, hr24⟩ := hq
        refine K_if_ne rfl (fun c25 => ?_) (fun c25 => ?_)
        · rw [if_neg c25] at h
          refine K_iload_n rfl 5 rfl ?_
          refine K_if_ne rfl (fun c26 => ?_) (fun c26 => ?_)
          · rw [if_neg c26] at h
            refine K_iload rfl 6 rfl ?_
            refine K_pick [2, 3, 4, 5, 7] ?_
            exact L_Model_begin_131   (L_Model_begin_54    n) _ _ _ _ hr24  h
          · rw [if_pos c26] at h
            refine K_iload rfl 7 rfl ?_
            refine K_goto rfl ?_
            refine K_pick [2, 3, 4, 5, 7] ?_
            exact L_Model_begin_131   (L_Model_begin_54    n) _ _ _ _ hr24  h
        · rw [if_pos c25] at h
          refine K_goto rfl ?_
          refine K_pick [2, 3, 4, 5, 6, 7] ?_
          exact L_Model_begin_136   (L_Model_begin_54    n) _ _ _ _ hr24  h
set_option maxRecDepth 20000 in
theorem F_Model_begin {X : mX} {x1 : Int32} {x2 : Int32} {M : mM} {r : Int32 × mM} (hM : Fx M)  (h : f_Model_begin x1 x2 M = some r) : EV X (8 + 1) 225 [.ref 436, .int x1, .int x2] M (fun v M' => v = some (.int r.1) ∧ r.2 = M' ∧ Fx r.2) := by
    refine EV_of (lc := [(0, .ref 436), (1, .int x1), (2, .int x2)]) (Nat.le_of_ble_eq_true rfl) (by exact Nat.le_of_ble_eq_true rfl) (by exact List.forall_mem_cons.mpr ⟨rfl, List.forall_mem_cons.mpr ⟨rfl, List.forall_mem_cons.mpr ⟨rfl, fun _ h => absurd h List.not_mem_nil⟩⟩⟩) ?_
    unfold f_Model_begin at h
    refine K_aload_n rfl 0 rfl ?_
    refine K_iload_n rfl 1 rfl ?_
    obtain ⟨r1, er1, h⟩ := Option.bind_eq_some_iff.mp h
    refine K_cV [.int x1] [] rfl rfl (Nat.le_of_ble_eq_true rfl) (Nat.le_of_ble_eq_true rfl) sh_436 hM rfl (EV_le (Nat.le_of_ble_eq_true rfl) (F_Model_isGrave hM  er1)) (fun v' M' hq => ?_)
    obtain ⟨rfl, rfl, hr1⟩ := hq
    refine K_if_eq rfl (fun c2 => ?_) (fun c2 => ?_)
    · rw [if_pos c2] at h
      refine K_iconst (v := (-1)) rfl (by decide) ?_
      obtain rfl := Option.some.inj h
      exact K_iret rfl (Or.inl rfl) ⟨rfl, rfl, hr1⟩
    · rw [if_neg c2] at h
      refine K_iload_n rfl 2 rfl ?_
      refine K_i2l rfl ?_
      refine K_lconst (v := 0) rfl (by decide) ?_
      refine K_ldc2 (v := 2) rfl (by decide) ?_
      obtain ⟨r3, er3, h⟩ := Option.bind_eq_some_iff.mp h
      refine K_callS [.long (Int32.toInt64 x2), .long 0, .long 2] [] rfl rfl (Nat.le_of_ble_eq_true rfl) (Nat.le_of_ble_eq_true rfl) (EV_le (Nat.le_of_ble_eq_true rfl) (F_Model_in hr1  er3)) (fun v' M' hq => ?_)
      obtain ⟨rfl, rfl, hr3⟩ := hq
      refine K_if_ne rfl (fun c4 => ?_) (fun c4 => ?_)
      · rw [if_neg c4] at h
        refine K_iconst (v := 0) rfl (by decide) ?_
        refine K_istore_n rfl ?_
        refine K_bipush (v := (-2)) rfl (by decide) ?_
        refine K_istore rfl ?_
        refine K_aload_n rfl 2 rfl ?_
        refine K_iload_n rfl 3 rfl ?_
        obtain ⟨r5, er5, h⟩ := Option.bind_eq_some_iff.mp h
        refine K_cV [.int x1] [] rfl rfl (Nat.le_of_ble_eq_true rfl) (Nat.le_of_ble_eq_true rfl) sh_436 hr3 rfl (EV_le (Nat.le_of_ble_eq_true rfl) (F_Model_isFallen hr3  er5)) (fun v' M' hq => ?_)
        obtain ⟨rfl, rfl, hr5⟩ := hq
        refine K_if_eq rfl (fun c6 => ?_) (fun c6 => ?_)
        · rw [if_pos c6] at h
          refine K_aload_n rfl 2 rfl ?_
          obtain ⟨M7, eM7, h⟩ := Option.bind_eq_some_iff.mp h
          refine K_cV [] [] rfl rfl (Nat.le_of_ble_eq_true rfl) (Nat.le_of_ble_eq_true rfl) sh_436 hr5 rfl (EV_le (Nat.le_of_ble_eq_true rfl) (F_Model_keeps hr5  eM7)) (fun v' M' hq => ?_)
          obtain ⟨rfl, rfl, hM7⟩ := hq
          refine K_iconst (v := 0) rfl (by decide) ?_
          refine K_istore rfl ?_
          refine K_pick [3, 4, 5, 2, 1, 0] ?_
          exact L_Model_begin_54    FUEL _ _ _ _ hM7  h
        · rw [if_neg c6] at h
          refine K_iload_n rfl 4 rfl ?_
          refine K_if_ne rfl (fun c27 => ?_) (fun c27 => ?_)
          · rw [if_neg c27] at h
            refine K_bipush (v := (-2)) rfl (by decide) ?_
            obtain rfl := Option.some.inj h
            exact K_iret rfl (Or.inl rfl) ⟨rfl, rfl, hr5⟩
          · rw [if_pos c27] at h
            refine K_iconst (v := 0) rfl (by decide) ?_
            refine K_goto rfl ?_
            obtain rfl := Option.some.inj h
            exact K_iret rfl (Or.inl rfl) ⟨rfl, rfl, hr5⟩
      · rw [if_pos c4] at h
        refine K_iconst (v := (-1)) rfl (by decide) ?_
        obtain rfl := Option.some.inj h
        exact K_iret rfl (Or.inl rfl) ⟨rfl, rfl, hr3⟩
set_option maxRecDepth 20000 in
theorem L_Model_dug_147 {X : mX} {x1 : Int32} {x2 : Int32} {x3 : Int32} {x4 : Int32} {k99 : Int32 → Int32 → Int32 → Int32 → Int32 → mM → Option (Int32 × mM)} {r : Int32 × mM}  (hk99 : ∀ (l5 : Int32) (l6 : Int32) (l7 : Int32) (l8 : Int32) (l9 : Int32) (M : mM), Fx M → k99 l5 l6 l7 l8 l9 M = some r → KK X 6 227 99 [(0, .ref 436), (2, .int x2), (3, .int x3), (4, .int x4), (5, .int l5), (6, .int l6), (7, .int l7), (8, .int l8), (9, .int l9)] [] M (fun v M' => v = some (.int r.1) ∧ r.2 = M' ∧ Fx r.2)) (l5 : Int32) (l6 : Int32) (l7 : Int32) (l8 : Int32) (l9 : Int32) (M : mM) (hM : Fx M)  (h : f_Model_dug_147 x1 x2 x3 x4 k99 l5 l6 l7 l8 l9 M = some r) : KK X 6 227 147 [(0, .ref 436), (2, .int x2), (3, .int x3), (4, .int x4), (5, .int l5), (6, .int l6), (7, .int l7), (8, .int l8), (9, .int l9)] [] M (fun v M' => v = some (.int r.1) ∧ r.2 = M' ∧ Fx r.2) := by
    unfold f_Model_dug_147 at h
    refine K_aload_n rfl 0 rfl ?_
    obtain ⟨r21, er21, h⟩ := Option.bind_eq_some_iff.mp h
    refine K_cV [] [] rfl rfl (Nat.le_of_ble_eq_true rfl) (Nat.le_of_ble_eq_true rfl) sh_436 hM rfl (EV_le (Nat.le_of_ble_eq_true rfl) (F_Model_passes hM  er21)) (fun v' M' hq => ?_)
    obtain ⟨rfl, rfl, hr21⟩ := hq
    refine K_pop rfl rfl ?_
    refine K_iinc (y := (l9 + 1)) rfl 8 rfl rfl ?_
    refine K_goto rfl ?_
    refine K_pick [1, 2, 3, 4, 5, 6, 7, 8, 0] ?_
    exact hk99 _ _ _ _ _ _ hr21  h
set_option maxRecDepth 20000 in
theorem L_Model_dug_138 {X : mX} {x1 : Int32} {x2 : Int32} {x3 : Int32} {x4 : Int32} {k99 : Int32 → Int32 → Int32 → Int32 → Int32 → mM → Option (Int32 × mM)} {r : Int32 × mM}  (hk99 : ∀ (l5 : Int32) (l6 : Int32) (l7 : Int32) (l8 : Int32) (l9 : Int32) (M : mM), Fx M → k99 l5 l6 l7 l8 l9 M = some r → KK X 6 227 99 [(0, .ref 436), (2, .int x2), (3, .int x3), (4, .int x4), (5, .int l5), (6, .int l6), (7, .int l7), (8, .int l8), (9, .int l9)] [] M (fun v M' => v = some (.int r.1) ∧ r.2 = M' ∧ Fx r.2)) (l5 : Int32) (l6 : Int32) (l9 : Int32) (s0 : Int32) (M : mM) (hM : Fx M)  (h : f_Model_dug_138 x1 x2 x3 x4 k99 l5 l6 l9 s0 M = some r) : KK X 6 227 138 [(0, .ref 436), (2, .int x2), (3, .int x3), (4, .int x4), (5, .int l5), (6, .int l6), (9, .int l9)] [.int s0] M (fun v M' => v = some (.int r.1) ∧ r.2 = M' ∧ Fx r.2) := by
    unfold f_Model_dug_138 at h
    refine K_istore rfl ?_
    refine K_iload rfl 7 rfl ?_
    refine K_istore rfl ?_
    refine K_iinc (y := (l6 + 1)) rfl 7 rfl rfl ?_
    refine K_pick [3, 4, 5, 6, 7, 0, 2, 1, 8] ?_
    exact L_Model_dug_147   hk99 _ _ _ _ _ _ hM  h
set_option maxRecDepth 20000 in
theorem L_Model_dug_99 {X : mX} {x1 : Int32} {x2 : Int32} {x3 : Int32} {x4 : Int32} {r : Int32 × mM}  : ∀ (n : Nat) (l5 : Int32) (l6 : Int32) (l7 : Int32) (l8 : Int32) (l9 : Int32) (M : mM), Fx M → f_Model_dug_99 x1 x2 x3 x4  n l5 l6 l7 l8 l9 M = some r → KK X 6 227 99 [(0, .ref 436), (2, .int x2), (3, .int x3), (4, .int x4), (5, .int l5), (6, .int l6), (7, .int l7), (8, .int l8), (9, .int l9)] [] M (fun v M' => v = some (.int r.1) ∧ r.2 = M' ∧ Fx r.2)
  | 0, _, _, _, _, _, _ => fun _ h => by cases h
  | n + 1, l5, l6, l7, l8, l9, M => fun hM h => by
    unfold f_Model_dug_99 at h
    refine K_iload rfl 8 rfl ?_
    refine K_bipush (v := 40) rfl (by decide) ?_
    refine K_ic_gt rfl (fun c14 => ?_) (fun c14 => ?_)
    · rw [if_pos c14] at h
      refine K_aload_n rfl 0 rfl ?_
      obtain ⟨M15, eM15, h⟩ := Option.bind_eq_some_iff.mp h
      refine K_cV [] [] rfl rfl (Nat.le_of_ble_eq_true rfl) (Nat.le_of_ble_eq_true rfl) sh_436 hM rfl (EV_le (Nat.le_of_ble_eq_true rfl) (F_Model_laysBack hM  eM15)) (fun v' M' hq => ?_)
      obtain ⟨rfl, rfl, hM15⟩ := hq
      refine K_aload_n rfl 0 rfl ?_
      refine K_gR rfl sh_436 hM15 rfl rfl 20 rfl r_436_20 ?_
      refine K_bipush (v := 6) rfl (by decide) ?_
      refine K_iload rfl 4 rfl ?_
      obtain ⟨M16, eM16, h⟩ := Option.bind_eq_some_iff.mp h
      refine K_wr rfl sh_446 hM15 eM16 (fun hM16 => ?_)
      refine K_iload rfl 3 rfl ?_
      refine K_if_ne rfl (fun c17 => ?_) (fun c17 => ?_)
      · rw [if_neg c17] at h
        refine K_iload rfl 3 rfl ?_
        refine K_iconst (v := 1) rfl (by decide) ?_
        refine K_ic_ne rfl (fun c18 => ?_) (fun c18 => ?_)
        · rw [if_neg c18] at h
          refine K_iload rfl 7 rfl ?_
          obtain rfl := Option.some.inj h
          exact K_iret rfl (Or.inl rfl) ⟨rfl, rfl, hM16⟩
        · rw [if_pos c18] at h
          refine K_iload rfl 6 rfl ?_
          refine K_goto rfl ?_
          obtain rfl := Option.some.inj h
          exact K_iret rfl (Or.inl rfl) ⟨rfl, rfl, hM16⟩
      · rw [if_pos c17] at h
        refine K_iload rfl 5 rfl ?_
        refine K_goto rfl ?_
        obtain rfl := Option.some.inj h
        exact K_iret rfl (Or.inl rfl) ⟨rfl, rfl, hM16⟩
    · rw [if_neg c14] at h
      refine K_aload_n rfl 0 rfl ?_
      refine K_iconst (v := 0) rfl (by decide) ?_
      refine K_iconst (v := 0) rfl (by decide) ?_
      obtain ⟨r19, er19, h⟩ := Option.bind_eq_some_iff.mp h
      refine K_cV [.int 0, .int 0] [] rfl rfl (Nat.le_of_ble_eq_true rfl) (Nat.le_of_ble_eq_true rfl) sh_436 hM rfl (EV_le (Nat.le_of_ble_eq_true rfl) (F_Model_graveOf hM  er19)) (fun v' M' hq => ?_)
      obtain ⟨rfl, rfl, hr19⟩ := hq
      refine K_iload_n rfl 1 rfl ?_
      refine K_ic_ne rfl (fun c20 => ?_) (fun c20 => ?_)
      · rw [if_neg c20] at h
        refine K_pick [0, 1, 2, 3, 4, 5, 6, 7, 8] ?_
        exact L_Model_dug_147   (L_Model_dug_99    n) _ _ _ _ _ _ hr19  h
      · rw [if_pos c20] at h
        refine K_aload_n rfl 0 rfl ?_
        refine K_iconst (v := 0) rfl (by decide) ?_
        refine K_iconst (v := 1) rfl (by decide) ?_
        obtain ⟨r22, er22, h⟩ := Option.bind_eq_some_iff.mp h
        refine K_cV [.int 0, .int 1] [] rfl rfl (Nat.le_of_ble_eq_true rfl) (Nat.le_of_ble_eq_true rfl) sh_436 hr19 rfl (EV_le (Nat.le_of_ble_eq_true rfl) (F_Model_graveOf hr19  er22)) (fun v' M' hq => ?_)
        obtain ⟨rfl, rfl, hr22⟩ := hq
        refine K_iload_n rfl 2 rfl ?_
        refine K_ic_ne rfl (fun c23 => ?_) (fun c23 => ?_)
        · rw [if_neg c23] at h
          refine K_pick [0, 1, 2, 3, 4, 5, 6, 7, 8] ?_
          exact L_Model_dug_147   (L_Model_dug_99    n) _ _ _ _ _ _ hr22  h
        · rw [if_pos c23] at h
          refine K_iload rfl 5 rfl ?_
          refine K_if_ne rfl (fun c24 => ?_) (fun c24 => ?_)
          · rw [if_neg c24] at h
            refine K_iload rfl 6 rfl ?_
            refine K_pick [0, 1, 2, 3, 4, 5, 8] ?_
            exact L_Model_dug_138   (L_Model_dug_99    n) _ _ _ _ _ hr22  h
          · rw [if_pos c24] at h
            refine K_iload rfl 8 rfl ?_
            refine K_goto rfl ?_
            refine K_pick [0, 1, 2, 3, 4, 5, 8] ?_
            exact L_Model_dug_138   (L_Model_dug_99    n) _ _ _ _ _ hr22  h
set_option maxRecDepth 20000 in
theorem F_Model_dug {X : mX} {x1 : Int32} {x2 : Int32} {x3 : Int32} {x4 : Int32} {M : mM} {r : Int32 × mM} (hM : Fx M)  (h : f_Model_dug x1 x2 x3 x4 M = some r) : EV X (6 + 1) 227 [.ref 436, .int x1, .int x2, .int x3, .int x4] M (fun v M' => v = some (.int r.1) ∧ r.2 = M' ∧ Fx r.2) := by
    refine EV_of (lc := [(0, .ref 436), (1, .int x1), (2, .int x2), (3, .int x3), (4, .int x4)]) (Nat.le_of_ble_eq_true rfl) (by exact Nat.le_of_ble_eq_true rfl) (by exact List.forall_mem_cons.mpr ⟨rfl, List.forall_mem_cons.mpr ⟨rfl, List.forall_mem_cons.mpr ⟨rfl, List.forall_mem_cons.mpr ⟨rfl, List.forall_mem_cons.mpr ⟨rfl, fun _ h => absurd h List.not_mem_nil⟩⟩⟩⟩⟩) ?_
    unfold f_Model_dug at h
    refine K_iload_n rfl 1 rfl ?_
    refine K_i2l rfl ?_
    refine K_lconst (v := 0) rfl (by decide) ?_
    refine K_ldc2 (v := 2) rfl (by decide) ?_
    obtain ⟨r1, er1, h⟩ := Option.bind_eq_some_iff.mp h
    refine K_callS [.long (Int32.toInt64 x1), .long 0, .long 2] [] rfl rfl (Nat.le_of_ble_eq_true rfl) (Nat.le_of_ble_eq_true rfl) (EV_le (Nat.le_of_ble_eq_true rfl) (F_Model_in hM  er1)) (fun v' M' hq => ?_)
    obtain ⟨rfl, rfl, hr1⟩ := hq
    refine K_if_eq rfl (fun c2 => ?_) (fun c2 => ?_)
    · rw [if_pos c2] at h
      refine K_iconst (v := (-1)) rfl (by decide) ?_
      obtain rfl := Option.some.inj h
      exact K_iret rfl (Or.inl rfl) ⟨rfl, rfl, hr1⟩
    · rw [if_neg c2] at h
      refine K_aload_n rfl 0 rfl ?_
      refine K_iload_n rfl 2 rfl ?_
      refine K_iload_n rfl 3 rfl ?_
      obtain ⟨r3, er3, h⟩ := Option.bind_eq_some_iff.mp h
      refine K_cV [.int x2, .int x3] [] rfl rfl (Nat.le_of_ble_eq_true rfl) (Nat.le_of_ble_eq_true rfl) sh_436 hr1 rfl (EV_le (Nat.le_of_ble_eq_true rfl) (F_Model_isPlace hr1  er3)) (fun v' M' hq => ?_)
      obtain ⟨rfl, rfl, hr3⟩ := hq
      refine K_if_eq rfl (fun c4 => ?_) (fun c4 => ?_)
      · rw [if_pos c4] at h
        refine K_iconst (v := (-1)) rfl (by decide) ?_
        obtain rfl := Option.some.inj h
        exact K_iret rfl (Or.inl rfl) ⟨rfl, rfl, hr3⟩
      · rw [if_neg c4] at h
        refine K_iload rfl 4 rfl ?_
        refine K_i2l rfl ?_
        refine K_lconst (v := 0) rfl (by decide) ?_
        refine K_ldc2 (v := 2) rfl (by decide) ?_
        obtain ⟨r5, er5, h⟩ := Option.bind_eq_some_iff.mp h
        refine K_callS [.long (Int32.toInt64 x4), .long 0, .long 2] [] rfl rfl (Nat.le_of_ble_eq_true rfl) (Nat.le_of_ble_eq_true rfl) (EV_le (Nat.le_of_ble_eq_true rfl) (F_Model_in hr3  er5)) (fun v' M' hq => ?_)
        obtain ⟨rfl, rfl, hr5⟩ := hq
        refine K_if_ne rfl (fun c6 => ?_) (fun c6 => ?_)
        · rw [if_neg c6] at h
          refine K_aload_n rfl 0 rfl ?_
          refine K_gR rfl sh_436 hr5 rfl rfl 20 rfl r_436_20 ?_
          refine K_bipush (v := 6) rfl (by decide) ?_
          obtain ⟨v7, ev7, h⟩ := Option.bind_eq_some_iff.mp h
          refine K_rd rfl sh_446 hr5 ev7 ?_
          refine K_istore rfl ?_
          refine K_iconst (v := 0) rfl (by decide) ?_
          refine K_istore rfl ?_
          refine K_bipush (v := (-2)) rfl (by decide) ?_
          refine K_istore rfl ?_
          refine K_bipush (v := (-2)) rfl (by decide) ?_
          refine K_istore rfl ?_
          refine K_aload_n rfl 4 rfl ?_
          obtain ⟨M8, eM8, h⟩ := Option.bind_eq_some_iff.mp h
          refine K_cV [] [] rfl rfl (Nat.le_of_ble_eq_true rfl) (Nat.le_of_ble_eq_true rfl) sh_436 hr5 rfl (EV_le (Nat.le_of_ble_eq_true rfl) (F_Model_keeps hr5  eM8)) (fun v' M' hq => ?_)
          obtain ⟨rfl, rfl, hM8⟩ := hq
          refine K_aload_n rfl 4 rfl ?_
          refine K_gR rfl sh_436 hM8 rfl rfl 20 rfl r_436_20 ?_
          refine K_iconst (v := 2) rfl (by decide) ?_
          refine K_iconst (v := 0) rfl (by decide) ?_
          obtain ⟨M9, eM9, h⟩ := Option.bind_eq_some_iff.mp h
          refine K_wr rfl sh_446 hM8 eM9 (fun hM9 => ?_)
          refine K_aload_n rfl 4 rfl ?_
          refine K_gR rfl sh_436 hM9 rfl rfl 20 rfl r_436_20 ?_
          refine K_iconst (v := 3) rfl (by decide) ?_
          refine K_iconst (v := 0) rfl (by decide) ?_
          obtain ⟨M10, eM10, h⟩ := Option.bind_eq_some_iff.mp h
          refine K_wr rfl sh_446 hM9 eM10 (fun hM10 => ?_)
          refine K_aload_n rfl 4 rfl ?_
          refine K_gR rfl sh_436 hM10 rfl rfl 20 rfl r_436_20 ?_
          refine K_bipush (v := 6) rfl (by decide) ?_
          refine K_iconst (v := 0) rfl (by decide) ?_
          obtain ⟨M11, eM11, h⟩ := Option.bind_eq_some_iff.mp h
          refine K_wr rfl sh_446 hM10 eM11 (fun hM11 => ?_)
          refine K_aload_n rfl 4 rfl ?_
          refine K_iload_n rfl 6 rfl ?_
          refine K_aload_n rfl 4 rfl ?_
          refine K_gR rfl sh_436 hM11 rfl rfl 20 rfl r_436_20 ?_
          refine K_iconst (v := 1) rfl (by decide) ?_
          obtain ⟨v12, ev12, h⟩ := Option.bind_eq_some_iff.mp h
          refine K_rd rfl sh_446 hM11 ev12 ?_
          refine K_iconst (v := 1) rfl (by decide) ?_
          refine K_isub rfl ?_
          refine K_iload_n rfl 5 rfl ?_
          obtain ⟨M13, eM13, h⟩ := Option.bind_eq_some_iff.mp h
          refine K_cV [.int x2, .int (v12 - 1), .int x1] [] rfl rfl (Nat.le_of_ble_eq_true rfl) (Nat.le_of_ble_eq_true rfl) sh_436 hM11 rfl (EV_le (Nat.le_of_ble_eq_true rfl) (F_Model_digs hM11  eM13)) (fun v' M' hq => ?_)
          obtain ⟨rfl, rfl, hM13⟩ := hq
          refine K_iconst (v := 0) rfl (by decide) ?_
          refine K_istore rfl ?_
          refine K_pick [5, 7, 8, 9, 4, 3, 2, 1, 0] ?_
          exact L_Model_dug_99    FUEL _ _ _ _ _ _ hM13  h
        · rw [if_pos c6] at h
          refine K_iconst (v := (-1)) rfl (by decide) ?_
          obtain rfl := Option.some.inj h
          exact K_iret rfl (Or.inl rfl) ⟨rfl, rfl, hr5⟩
set_option maxRecDepth 20000 in
theorem F_Model_sight {X : mX} {x1 : Int32} {x2 : Int32} {x3 : Int32} {M : mM} {r : Int32 × mM} (hM : Fx M)  (h : f_Model_sight x1 x2 x3 M = some r) : EV X (1 + 1) 228 [.ref 436, .int x1, .int x2, .int x3] M (fun v M' => v = some (.int r.1) ∧ r.2 = M' ∧ Fx r.2) := by
    refine EV_of (lc := [(0, .ref 436), (1, .int x1), (2, .int x2), (3, .int x3)]) (Nat.le_of_ble_eq_true rfl) (by exact Nat.le_of_ble_eq_true rfl) (by exact List.forall_mem_cons.mpr ⟨rfl, List.forall_mem_cons.mpr ⟨rfl, List.forall_mem_cons.mpr ⟨rfl, List.forall_mem_cons.mpr ⟨rfl, fun _ h => absurd h List.not_mem_nil⟩⟩⟩⟩) ?_
    unfold f_Model_sight at h
    refine K_iload_n rfl 1 rfl ?_
    refine K_iconst (v := (-1)) rfl (by decide) ?_
    refine K_ic_ne rfl (fun c1 => ?_) (fun c1 => ?_)
    · rw [if_neg c1] at h
      refine K_iload_n rfl 1 rfl ?_
      refine K_if_lt rfl (fun c2 => ?_) (fun c2 => ?_)
      · rw [if_pos c2] at h
        refine K_bipush (v := (-2)) rfl (by decide) ?_
        obtain rfl := Option.some.inj h
        exact K_iret rfl (Or.inl rfl) ⟨rfl, rfl, hM⟩
      · rw [if_neg c2] at h
        refine K_iload_n rfl 1 rfl ?_
        refine K_aload_n rfl 0 rfl ?_
        refine K_gR rfl sh_436 hM rfl rfl 20 rfl r_436_20 ?_
        refine K_iconst (v := 4) rfl (by decide) ?_
        obtain ⟨v3, ev3, h⟩ := Option.bind_eq_some_iff.mp h
        refine K_rd rfl sh_446 hM ev3 ?_
        refine K_ic_ge rfl (fun c4 => ?_) (fun c4 => ?_)
        · rw [if_pos c4] at h
          refine K_bipush (v := (-2)) rfl (by decide) ?_
          obtain rfl := Option.some.inj h
          exact K_iret rfl (Or.inl rfl) ⟨rfl, rfl, hM⟩
        · rw [if_neg c4] at h
          refine K_aload_n rfl 0 rfl ?_
          refine K_iconst (v := 0) rfl (by decide) ?_
          refine K_iload_n rfl 2 rfl ?_
          obtain ⟨r5, er5, h⟩ := Option.bind_eq_some_iff.mp h
          refine K_cV [.int 0, .int x2] [] rfl rfl (Nat.le_of_ble_eq_true rfl) (Nat.le_of_ble_eq_true rfl) sh_436 hM rfl (EV_le (Nat.le_of_ble_eq_true rfl) (F_Model_isPlace hM  er5)) (fun v' M' hq => ?_)
          obtain ⟨rfl, rfl, hr5⟩ := hq
          refine K_if_eq rfl (fun c6 => ?_) (fun c6 => ?_)
          · rw [if_pos c6] at h
            refine K_bipush (v := (-2)) rfl (by decide) ?_
            obtain rfl := Option.some.inj h
            exact K_iret rfl (Or.inl rfl) ⟨rfl, rfl, hr5⟩
          · rw [if_neg c6] at h
            refine K_iload_n rfl 3 rfl ?_
            refine K_i2l rfl ?_
            refine K_lconst (v := 0) rfl (by decide) ?_
            refine K_ldc2 (v := 99) rfl (by decide) ?_
            obtain ⟨r7, er7, h⟩ := Option.bind_eq_some_iff.mp h
            refine K_callS [.long (Int32.toInt64 x3), .long 0, .long 99] [] rfl rfl (Nat.le_of_ble_eq_true rfl) (Nat.le_of_ble_eq_true rfl) (EV_le (Nat.le_of_ble_eq_true rfl) (F_Model_in hr5  er7)) (fun v' M' hq => ?_)
            obtain ⟨rfl, rfl, hr7⟩ := hq
            refine K_if_eq rfl (fun c8 => ?_) (fun c8 => ?_)
            · rw [if_pos c8] at h
              refine K_bipush (v := (-2)) rfl (by decide) ?_
              obtain rfl := Option.some.inj h
              exact K_iret rfl (Or.inl rfl) ⟨rfl, rfl, hr7⟩
            · rw [if_neg c8] at h
              refine K_aload_n rfl 0 rfl ?_
              refine K_gR rfl sh_436 hr7 rfl rfl 20 rfl r_436_20 ?_
              refine K_sipush (v := 185) rfl (by decide) ?_
              obtain ⟨v9, ev9, h⟩ := Option.bind_eq_some_iff.mp h
              refine K_rd rfl sh_446 hr7 ev9 ?_
              refine K_bipush (v := 10) rfl (by decide) ?_
              refine K_ic_ne rfl (fun c10 => ?_) (fun c10 => ?_)
              · rw [if_neg c10] at h
                refine K_sipush (v := 155) rfl (by decide) ?_
                refine K_iconst (v := 3) rfl (by decide) ?_
                refine K_aload_n rfl 0 rfl ?_
                refine K_gR rfl sh_436 hr7 rfl rfl 20 rfl r_436_20 ?_
                refine K_sipush (v := 185) rfl (by decide) ?_
                obtain ⟨v11, ev11, h⟩ := Option.bind_eq_some_iff.mp h
                refine K_rd rfl sh_446 hr7 ev11 ?_
                refine K_imul rfl ?_
                refine K_iadd rfl ?_
                refine K_istore rfl ?_
                refine K_aload_n rfl 1 rfl ?_
                refine K_gR rfl sh_436 hr7 rfl rfl 20 rfl r_436_20 ?_
                refine K_iload rfl 0 rfl ?_
                refine K_iload_n rfl 2 rfl ?_
                obtain ⟨M12, eM12, h⟩ := Option.bind_eq_some_iff.mp h
                refine K_wr rfl sh_446 hr7 eM12 (fun hM12 => ?_)
                refine K_aload_n rfl 1 rfl ?_
                refine K_gR rfl sh_436 hM12 rfl rfl 20 rfl r_436_20 ?_
                refine K_iload rfl 0 rfl ?_
                refine K_iconst (v := 1) rfl (by decide) ?_
                refine K_iadd rfl ?_
                refine K_iload_n rfl 3 rfl ?_
                obtain ⟨M13, eM13, h⟩ := Option.bind_eq_some_iff.mp h
                refine K_wr rfl sh_446 hM12 eM13 (fun hM13 => ?_)
                refine K_aload_n rfl 1 rfl ?_
                refine K_gR rfl sh_436 hM13 rfl rfl 20 rfl r_436_20 ?_
                refine K_iload rfl 0 rfl ?_
                refine K_iconst (v := 2) rfl (by decide) ?_
                refine K_iadd rfl ?_
                refine K_iload_n rfl 4 rfl ?_
                obtain ⟨M14, eM14, h⟩ := Option.bind_eq_some_iff.mp h
                refine K_wr rfl sh_446 hM13 eM14 (fun hM14 => ?_)
                refine K_aload_n rfl 1 rfl ?_
                refine K_gR rfl sh_436 hM14 rfl rfl 20 rfl r_436_20 ?_
                refine K_sipush (v := 185) rfl (by decide) ?_
                refine K_dup2 rfl ⟨rfl, rfl⟩ ?_
                obtain ⟨v15, ev15, h⟩ := Option.bind_eq_some_iff.mp h
                refine K_rd rfl sh_446 hM14 ev15 ?_
                refine K_iconst (v := 1) rfl (by decide) ?_
                refine K_iadd rfl ?_
                obtain ⟨M16, eM16, h⟩ := Option.bind_eq_some_iff.mp h
                refine K_wr rfl sh_446 hM14 eM16 (fun hM16 => ?_)
                refine K_aload_n rfl 1 rfl ?_
                refine K_gR rfl sh_436 hM16 rfl rfl 20 rfl r_436_20 ?_
                refine K_sipush (v := 185) rfl (by decide) ?_
                obtain ⟨v17, ev17, h⟩ := Option.bind_eq_some_iff.mp h
                refine K_rd rfl sh_446 hM16 ev17 ?_
                obtain rfl := Option.some.inj h
                exact K_iret rfl (Or.inl rfl) ⟨rfl, rfl, hM16⟩
              · rw [if_pos c10] at h
                refine K_bipush (v := (-2)) rfl (by decide) ?_
                obtain rfl := Option.some.inj h
                exact K_iret rfl (Or.inl rfl) ⟨rfl, rfl, hr7⟩
    · rw [if_pos c1] at h
      refine K_aload_n rfl 0 rfl ?_
      refine K_gR rfl sh_436 hM rfl rfl 20 rfl r_436_20 ?_
      refine K_sipush (v := 185) rfl (by decide) ?_
      refine K_iconst (v := 0) rfl (by decide) ?_
      obtain ⟨M18, eM18, h⟩ := Option.bind_eq_some_iff.mp h
      refine K_wr rfl sh_446 hM eM18 (fun hM18 => ?_)
      refine K_iconst (v := 0) rfl (by decide) ?_
      obtain rfl := Option.some.inj h
      exact K_iret rfl (Or.inl rfl) ⟨rfl, rfl, hM18⟩
set_option maxRecDepth 20000 in
theorem L_Model_inQuestion_57 {X : mX}  {k4 : Int32 → Int32 → mM → Option (Int32 × mM)} {r : Int32 × mM}  (hk4 : ∀ (l1 : Int32) (l2 : Int32) (M : mM), Fx M → k4 l1 l2 M = some r → KK X 0 231 4 [(0, .ref 436), (1, .int l1), (2, .int l2)] [] M (fun v M' => v = some (.int r.1) ∧ r.2 = M' ∧ Fx r.2)) (l2 : Int32) (s0 : Int32) (s1 : Int32) (M : mM) (hM : Fx M)  (h : f_Model_inQuestion_57  k4 l2 s0 s1 M = some r) : KK X 0 231 57 [(0, .ref 436), (2, .int l2)] [.int s1, .int s0] M (fun v M' => v = some (.int r.1) ∧ r.2 = M' ∧ Fx r.2) := by
    unfold f_Model_inQuestion_57 at h
    refine K_ior rfl ?_
    refine K_istore_n rfl ?_
    refine K_iinc (y := (l2 + 1)) rfl 2 rfl rfl ?_
    refine K_goto rfl ?_
    refine K_pick [2, 1, 0] ?_
    exact hk4 _ _ _ hM  h
set_option maxRecDepth 20000 in
theorem L_Model_inQuestion_50 {X : mX}  {k4 : Int32 → Int32 → mM → Option (Int32 × mM)} {r : Int32 × mM}  (hk4 : ∀ (l1 : Int32) (l2 : Int32) (M : mM), Fx M → k4 l1 l2 M = some r → KK X 0 231 4 [(0, .ref 436), (1, .int l1), (2, .int l2)] [] M (fun v M' => v = some (.int r.1) ∧ r.2 = M' ∧ Fx r.2)) (l2 : Int32) (s0 : Int32) (M : mM) (hM : Fx M)  (h : f_Model_inQuestion_50  k4 l2 s0 M = some r) : KK X 0 231 50 [(0, .ref 436), (2, .int l2)] [.int s0] M (fun v M' => v = some (.int r.1) ∧ r.2 = M' ∧ Fx r.2) := by
    unfold f_Model_inQuestion_50 at h
    refine K_iconst (v := 1) rfl (by decide) ?_
    refine K_iload_n rfl 1 rfl ?_
    refine K_ishl rfl ?_
    refine K_goto rfl ?_
    refine K_pick [0, 1] ?_
    exact L_Model_inQuestion_57   hk4 _ _ _ _ hM  h
set_option maxRecDepth 20000 in
theorem L_Model_inQuestion_4 {X : mX}  {r : Int32 × mM}  : ∀ (n : Nat) (l1 : Int32) (l2 : Int32) (M : mM), Fx M → f_Model_inQuestion_4   n l1 l2 M = some r → KK X 0 231 4 [(0, .ref 436), (1, .int l1), (2, .int l2)] [] M (fun v M' => v = some (.int r.1) ∧ r.2 = M' ∧ Fx r.2)
  | 0, _, _, _ => fun _ h => by cases h
  | n + 1, l1, l2, M => fun hM h => by
    unfold f_Model_inQuestion_4 at h
    refine K_iload_n rfl 2 rfl ?_
    refine K_aload_n rfl 0 rfl ?_
    refine K_gR rfl sh_436 hM rfl rfl 20 rfl r_436_20 ?_
    refine K_iconst (v := 4) rfl (by decide) ?_
    obtain ⟨v1, ev1, h⟩ := Option.bind_eq_some_iff.mp h
    refine K_rd rfl sh_446 hM ev1 ?_
    refine K_ic_ge rfl (fun c2 => ?_) (fun c2 => ?_)
    · rw [if_pos c2] at h
      refine K_iload_n rfl 1 rfl ?_
      obtain rfl := Option.some.inj h
      exact K_iret rfl (Or.inl rfl) ⟨rfl, rfl, hM⟩
    · rw [if_neg c2] at h
      refine K_iload_n rfl 1 rfl ?_
      refine K_aload_n rfl 0 rfl ?_
      refine K_gR rfl sh_436 hM rfl rfl 20 rfl r_436_20 ?_
      refine K_sipush (v := 186) rfl (by decide) ?_
      refine K_iconst (v := 4) rfl (by decide) ?_
      refine K_iload_n rfl 2 rfl ?_
      refine K_imul rfl ?_
      refine K_iadd rfl ?_
      refine K_iconst (v := 2) rfl (by decide) ?_
      refine K_iadd rfl ?_
      obtain ⟨v3, ev3, h⟩ := Option.bind_eq_some_iff.mp h
      refine K_rd rfl sh_446 hM ev3 ?_
      refine K_if_eq rfl (fun c4 => ?_) (fun c4 => ?_)
      · rw [if_pos c4] at h
        refine K_pick [0, 2] ?_
        exact L_Model_inQuestion_50   (L_Model_inQuestion_4    n) _ _ _ hM  h
      · rw [if_neg c4] at h
        refine K_aload_n rfl 0 rfl ?_
        refine K_gR rfl sh_436 hM rfl rfl 20 rfl r_436_20 ?_
        refine K_sipush (v := 186) rfl (by decide) ?_
        refine K_iconst (v := 4) rfl (by decide) ?_
        refine K_iload_n rfl 2 rfl ?_
        refine K_imul rfl ?_
        refine K_iadd rfl ?_
        refine K_iconst (v := 2) rfl (by decide) ?_
        refine K_iadd rfl ?_
        obtain ⟨v5, ev5, h⟩ := Option.bind_eq_some_iff.mp h
        refine K_rd rfl sh_446 hM ev5 ?_
        refine K_iconst (v := 2) rfl (by decide) ?_
        refine K_ic_ne rfl (fun c6 => ?_) (fun c6 => ?_)
        · rw [if_neg c6] at h
          refine K_iconst (v := 0) rfl (by decide) ?_
          refine K_pick [0, 2] ?_
          exact L_Model_inQuestion_57   (L_Model_inQuestion_4    n) _ _ _ _ hM  h
        · rw [if_pos c6] at h
          refine K_pick [0, 2] ?_
          exact L_Model_inQuestion_50   (L_Model_inQuestion_4    n) _ _ _ hM  h
set_option maxRecDepth 20000 in
theorem F_Model_inQuestion {X : mX}  {M : mM} {r : Int32 × mM} (hM : Fx M)  (h : f_Model_inQuestion  M = some r) : EV X (0 + 1) 231 [.ref 436] M (fun v M' => v = some (.int r.1) ∧ r.2 = M' ∧ Fx r.2) := by
    refine EV_of (lc := [(0, .ref 436)]) (Nat.le_of_ble_eq_true rfl) (by exact Nat.le_of_ble_eq_true rfl) (by exact List.forall_mem_cons.mpr ⟨rfl, fun _ h => absurd h List.not_mem_nil⟩) ?_
    unfold f_Model_inQuestion at h
    refine K_iconst (v := 0) rfl (by decide) ?_
    refine K_istore_n rfl ?_
    refine K_iconst (v := 0) rfl (by decide) ?_
    refine K_istore_n rfl ?_
    refine K_pick [2, 1, 0] ?_
    exact L_Model_inQuestion_4    FUEL _ _ _ hM  h
set_option maxRecDepth 20000 in
theorem F_Model_isOf {X : mX} {x0 : Int32} {x1 : Int32} {M : mM} {r : Int32 × mM} (hM : Fx M)  (h : f_Model_isOf x0 x1 M = some r) : EV X (0 + 1) 234 [.int x0, .int x1] M (fun v M' => v = some (.int r.1) ∧ r.2 = M' ∧ Fx r.2) := by
    refine EV_of (lc := [(0, .int x0), (1, .int x1)]) (Nat.le_of_ble_eq_true rfl) (by exact Nat.le_of_ble_eq_true rfl) (by exact List.forall_mem_cons.mpr ⟨rfl, List.forall_mem_cons.mpr ⟨rfl, fun _ h => absurd h List.not_mem_nil⟩⟩) ?_
    unfold f_Model_isOf at h
    refine K_iload_n rfl 0 rfl ?_
    refine K_iload_n rfl 1 rfl ?_
    refine K_ishr rfl ?_
    refine K_iconst (v := 1) rfl (by decide) ?_
    refine K_iand rfl ?_
    refine K_iconst (v := 1) rfl (by decide) ?_
    refine K_ic_ne rfl (fun c1 => ?_) (fun c1 => ?_)
    · rw [if_neg c1] at h
      refine K_iconst (v := 0) rfl (by decide) ?_
      obtain rfl := Option.some.inj h
      exact K_iret rfl (Or.inr ⟨rfl, by decide⟩) ⟨rfl, rfl, hM⟩
    · rw [if_pos c1] at h
      refine K_iconst (v := 1) rfl (by decide) ?_
      refine K_goto rfl ?_
      obtain rfl := Option.some.inj h
      exact K_iret rfl (Or.inr ⟨rfl, by decide⟩) ⟨rfl, rfl, hM⟩
set_option maxRecDepth 20000 in
theorem L_Model_beginsBy_84 {X : mX} {x1 : Int32} {k16 : Int32 → mM → Option (mM)} {r : mM}  (hk16 : ∀ (l2 : Int32) (M : mM), Fx M → k16 l2 M = some r → KK X 1 233 16 [(0, .ref 436), (1, .int x1), (2, .int l2)] [] M (fun v M' => v = none ∧ r = M' ∧ Fx r)) (l2 : Int32) (l3 : Int32) (s1 : Int32) (s2 : Int32) (s3 : Int32) (M : mM) (hM : Fx M)  (h : f_Model_beginsBy_84 x1 k16 l2 l3 s1 s2 s3 M = some r) : KK X 1 233 84 [(0, .ref 436), (1, .int x1), (2, .int l2), (3, .int l3)] [.int s3, .int s2, .int s1, .ref 436] M (fun v M' => v = none ∧ r = M' ∧ Fx r) := by
    unfold f_Model_beginsBy_84 at h
    obtain ⟨M11, eM11, h⟩ := Option.bind_eq_some_iff.mp h
    refine K_cV [.int s1, .int s2, .int s3] [] rfl rfl (Nat.le_of_ble_eq_true rfl) (Nat.le_of_ble_eq_true rfl) sh_436 hM rfl (EV_le (Nat.le_of_ble_eq_true rfl) (F_Model_digs hM  eM11)) (fun v' M' hq => ?_)
    obtain ⟨rfl, rfl, hM11⟩ := hq
    refine K_aload_n rfl 0 rfl ?_
    refine K_gR rfl sh_436 hM11 rfl rfl 20 rfl r_436_20 ?_
    refine K_bipush (v := 10) rfl (by decide) ?_
    refine K_bipush (v := 9) rfl (by decide) ?_
    refine K_iload_n rfl 2 rfl ?_
    refine K_imul rfl ?_
    refine K_iadd rfl ?_
    refine K_bipush (v := 6) rfl (by decide) ?_
    refine K_iadd rfl ?_
    refine K_aload_n rfl 0 rfl ?_
    refine K_gR rfl sh_436 hM11 rfl rfl 20 rfl r_436_20 ?_
    refine K_iload_n rfl 3 rfl ?_
    refine K_iconst (v := 3) rfl (by decide) ?_
    refine K_iadd rfl ?_
    obtain ⟨v12, ev12, h⟩ := Option.bind_eq_some_iff.mp h
    refine K_rd rfl sh_446 hM11 ev12 ?_
    obtain ⟨M13, eM13, h⟩ := Option.bind_eq_some_iff.mp h
    refine K_wr rfl sh_446 hM11 eM13 (fun hM13 => ?_)
    refine K_iinc (y := (l2 + 1)) rfl 2 rfl rfl ?_
    refine K_goto rfl ?_
    refine K_pick [1, 2, 0] ?_
    exact hk16 _ _ hM13  h
set_option maxRecDepth 20000 in
theorem L_Model_beginsBy_16 {X : mX} {x1 : Int32} {r : mM}  : ∀ (n : Nat) (l2 : Int32) (M : mM), Fx M → f_Model_beginsBy_16 x1  n l2 M = some r → KK X 1 233 16 [(0, .ref 436), (1, .int x1), (2, .int l2)] [] M (fun v M' => v = none ∧ r = M' ∧ Fx r)
  | 0, _, _ => fun _ h => by cases h
  | n + 1, l2, M => fun hM h => by
    unfold f_Model_beginsBy_16 at h
    refine K_iload_n rfl 2 rfl ?_
    refine K_aload_n rfl 0 rfl ?_
    refine K_gR rfl sh_436 hM rfl rfl 20 rfl r_436_20 ?_
    refine K_iconst (v := 4) rfl (by decide) ?_
    obtain ⟨v3, ev3, h⟩ := Option.bind_eq_some_iff.mp h
    refine K_rd rfl sh_446 hM ev3 ?_
    refine K_ic_ge rfl (fun c4 => ?_) (fun c4 => ?_)
    · rw [if_pos c4] at h
      obtain rfl := Option.some.inj h
      exact K_vret rfl rfl ⟨rfl, rfl, hM⟩
    · rw [if_neg c4] at h
      refine K_sipush (v := 186) rfl (by decide) ?_
      refine K_iconst (v := 4) rfl (by decide) ?_
      refine K_iload_n rfl 2 rfl ?_
      refine K_imul rfl ?_
      refine K_iadd rfl ?_
      refine K_istore_n rfl ?_
      refine K_aload_n rfl 1 rfl ?_
      refine K_aload_n rfl 1 rfl ?_
      refine K_gR rfl sh_436 hM rfl rfl 20 rfl r_436_20 ?_
      refine K_iload_n rfl 0 rfl ?_
      obtain ⟨v5, ev5, h⟩ := Option.bind_eq_some_iff.mp h
      refine K_rd rfl sh_446 hM ev5 ?_
      refine K_aload_n rfl 1 rfl ?_
      refine K_gR rfl sh_436 hM rfl rfl 20 rfl r_436_20 ?_
      refine K_iload_n rfl 0 rfl ?_
      refine K_iconst (v := 1) rfl (by decide) ?_
      refine K_iadd rfl ?_
      obtain ⟨v6, ev6, h⟩ := Option.bind_eq_some_iff.mp h
      refine K_rd rfl sh_446 hM ev6 ?_
      refine K_aload_n rfl 1 rfl ?_
      obtain ⟨r7, er7, h⟩ := Option.bind_eq_some_iff.mp h
      refine K_cV [] [.int v6, .int v5, .ref 436] rfl rfl (Nat.le_of_ble_eq_true rfl) (Nat.le_of_ble_eq_true rfl) sh_436 hM rfl (EV_le (Nat.le_of_ble_eq_true rfl) (F_Model_inQuestion hM  er7)) (fun v' M' hq => ?_)
      obtain ⟨rfl, rfl, hr7⟩ := hq
      refine K_iload_n rfl 3 rfl ?_
      obtain ⟨r8, er8, h⟩ := Option.bind_eq_some_iff.mp h
      refine K_callS [.int r7.1, .int l2] [.int v6, .int v5, .ref 436] rfl rfl (Nat.le_of_ble_eq_true rfl) (Nat.le_of_ble_eq_true rfl) (EV_le (Nat.le_of_ble_eq_true rfl) (F_Model_isOf hr7  er8)) (fun v' M' hq => ?_)
      obtain ⟨rfl, rfl, hr8⟩ := hq
      refine K_if_eq rfl (fun c9 => ?_) (fun c9 => ?_)
      · rw [if_pos c9] at h
        refine K_aload_n rfl 1 rfl ?_
        refine K_gR rfl sh_436 hr8 rfl rfl 20 rfl r_436_20 ?_
        refine K_iload_n rfl 0 rfl ?_
        refine K_iconst (v := 2) rfl (by decide) ?_
        refine K_iadd rfl ?_
        obtain ⟨v10, ev10, h⟩ := Option.bind_eq_some_iff.mp h
        refine K_rd rfl sh_446 hr8 ev10 ?_
        refine K_pick [1, 2, 3, 0] ?_
        exact L_Model_beginsBy_84   (L_Model_beginsBy_16    n) _ _ _ _ _ _ hr8  h
      · rw [if_neg c9] at h
        refine K_iload_n rfl 2 rfl ?_
        refine K_iload_n rfl 3 rfl ?_
        obtain ⟨r14, er14, h⟩ := Option.bind_eq_some_iff.mp h
        refine K_callS [.int x1, .int l2] [.int v6, .int v5, .ref 436] rfl rfl (Nat.le_of_ble_eq_true rfl) (Nat.le_of_ble_eq_true rfl) (EV_le (Nat.le_of_ble_eq_true rfl) (F_Model_isOf hr8  er14)) (fun v' M' hq => ?_)
        obtain ⟨rfl, rfl, hr14⟩ := hq
        refine K_if_eq rfl (fun c15 => ?_) (fun c15 => ?_)
        · rw [if_pos c15] at h
          refine K_iconst (v := 0) rfl (by decide) ?_
          refine K_goto rfl ?_
          refine K_pick [1, 2, 3, 0] ?_
          exact L_Model_beginsBy_84   (L_Model_beginsBy_16    n) _ _ _ _ _ _ hr14  h
        · rw [if_neg c15] at h
          refine K_iconst (v := 2) rfl (by decide) ?_
          refine K_goto rfl ?_
          refine K_pick [1, 2, 3, 0] ?_
          exact L_Model_beginsBy_84   (L_Model_beginsBy_16    n) _ _ _ _ _ _ hr14  h
set_option maxRecDepth 20000 in
theorem F_Model_beginsBy {X : mX} {x1 : Int32} {M : mM} {r : mM} (hM : Fx M)  (h : f_Model_beginsBy x1 M = some r) : EV X (1 + 1) 233 [.ref 436, .int x1] M (fun v M' => v = none ∧ r = M' ∧ Fx r) := by
    refine EV_of (lc := [(0, .ref 436), (1, .int x1)]) (Nat.le_of_ble_eq_true rfl) (by exact Nat.le_of_ble_eq_true rfl) (by exact List.forall_mem_cons.mpr ⟨rfl, List.forall_mem_cons.mpr ⟨rfl, fun _ h => absurd h List.not_mem_nil⟩⟩) ?_
    unfold f_Model_beginsBy at h
    refine K_aload_n rfl 0 rfl ?_
    refine K_gR rfl sh_436 hM rfl rfl 20 rfl r_436_20 ?_
    refine K_iconst (v := 2) rfl (by decide) ?_
    refine K_iconst (v := 0) rfl (by decide) ?_
    obtain ⟨M1, eM1, h⟩ := Option.bind_eq_some_iff.mp h
    refine K_wr rfl sh_446 hM eM1 (fun hM1 => ?_)
    refine K_aload_n rfl 0 rfl ?_
    refine K_gR rfl sh_436 hM1 rfl rfl 20 rfl r_436_20 ?_
    refine K_iconst (v := 3) rfl (by decide) ?_
    refine K_iconst (v := 0) rfl (by decide) ?_
    obtain ⟨M2, eM2, h⟩ := Option.bind_eq_some_iff.mp h
    refine K_wr rfl sh_446 hM1 eM2 (fun hM2 => ?_)
    refine K_iconst (v := 0) rfl (by decide) ?_
    refine K_istore_n rfl ?_
    refine K_pick [1, 2, 0] ?_
    exact L_Model_beginsBy_16    FUEL _ _ hM2  h
set_option maxRecDepth 20000 in
theorem L_Model_lastSight_52 {X : mX}  {k4 : Int32 → Int32 → mM → Option (Int32 × mM)} {r : Int32 × mM}  (hk4 : ∀ (l1 : Int32) (l2 : Int32) (M : mM), Fx M → k4 l1 l2 M = some r → KK X 0 235 4 [(0, .ref 436), (1, .int l1), (2, .int l2)] [] M (fun v M' => v = some (.int r.1) ∧ r.2 = M' ∧ Fx r.2)) (l2 : Int32) (s0 : Int32) (M : mM) (hM : Fx M)  (h : f_Model_lastSight_52  k4 l2 s0 M = some r) : KK X 0 235 52 [(0, .ref 436), (2, .int l2)] [.int s0] M (fun v M' => v = some (.int r.1) ∧ r.2 = M' ∧ Fx r.2) := by
    unfold f_Model_lastSight_52 at h
    refine K_istore_n rfl ?_
    refine K_iinc (y := (l2 + 1)) rfl 2 rfl rfl ?_
    refine K_goto rfl ?_
    refine K_pick [2, 1, 0] ?_
    exact hk4 _ _ _ hM  h
set_option maxRecDepth 20000 in
theorem L_Model_lastSight_4 {X : mX}  {r : Int32 × mM}  : ∀ (n : Nat) (l1 : Int32) (l2 : Int32) (M : mM), Fx M → f_Model_lastSight_4   n l1 l2 M = some r → KK X 0 235 4 [(0, .ref 436), (1, .int l1), (2, .int l2)] [] M (fun v M' => v = some (.int r.1) ∧ r.2 = M' ∧ Fx r.2)
  | 0, _, _, _ => fun _ h => by cases h
  | n + 1, l1, l2, M => fun hM h => by
    unfold f_Model_lastSight_4 at h
    refine K_iload_n rfl 2 rfl ?_
    refine K_aload_n rfl 0 rfl ?_
    refine K_gR rfl sh_436 hM rfl rfl 20 rfl r_436_20 ?_
    refine K_sipush (v := 185) rfl (by decide) ?_
    obtain ⟨v1, ev1, h⟩ := Option.bind_eq_some_iff.mp h
    refine K_rd rfl sh_446 hM ev1 ?_
    refine K_ic_ge rfl (fun c2 => ?_) (fun c2 => ?_)
    · rw [if_pos c2] at h
      refine K_iload_n rfl 1 rfl ?_
      obtain rfl := Option.some.inj h
      exact K_iret rfl (Or.inl rfl) ⟨rfl, rfl, hM⟩
    · rw [if_neg c2] at h
      refine K_aload_n rfl 0 rfl ?_
      refine K_gR rfl sh_436 hM rfl rfl 20 rfl r_436_20 ?_
      refine K_sipush (v := 155) rfl (by decide) ?_
      refine K_iconst (v := 3) rfl (by decide) ?_
      refine K_iload_n rfl 2 rfl ?_
      refine K_imul rfl ?_
      refine K_iadd rfl ?_
      refine K_iconst (v := 2) rfl (by decide) ?_
      refine K_iadd rfl ?_
      obtain ⟨v3, ev3, h⟩ := Option.bind_eq_some_iff.mp h
      refine K_rd rfl sh_446 hM ev3 ?_
      refine K_iload_n rfl 1 rfl ?_
      refine K_ic_le rfl (fun c4 => ?_) (fun c4 => ?_)
      · rw [if_pos c4] at h
        refine K_iload_n rfl 1 rfl ?_
        refine K_pick [0, 2] ?_
        exact L_Model_lastSight_52   (L_Model_lastSight_4    n) _ _ _ hM  h
      · rw [if_neg c4] at h
        refine K_aload_n rfl 0 rfl ?_
        refine K_gR rfl sh_436 hM rfl rfl 20 rfl r_436_20 ?_
        refine K_sipush (v := 155) rfl (by decide) ?_
        refine K_iconst (v := 3) rfl (by decide) ?_
        refine K_iload_n rfl 2 rfl ?_
        refine K_imul rfl ?_
        refine K_iadd rfl ?_
        refine K_iconst (v := 2) rfl (by decide) ?_
        refine K_iadd rfl ?_
        obtain ⟨v5, ev5, h⟩ := Option.bind_eq_some_iff.mp h
        refine K_rd rfl sh_446 hM ev5 ?_
        refine K_goto rfl ?_
        refine K_pick [0, 2] ?_
        exact L_Model_lastSight_52   (L_Model_lastSight_4    n) _ _ _ hM  h
set_option maxRecDepth 20000 in
theorem F_Model_lastSight {X : mX}  {M : mM} {r : Int32 × mM} (hM : Fx M)  (h : f_Model_lastSight  M = some r) : EV X (0 + 1) 235 [.ref 436] M (fun v M' => v = some (.int r.1) ∧ r.2 = M' ∧ Fx r.2) := by
    refine EV_of (lc := [(0, .ref 436)]) (Nat.le_of_ble_eq_true rfl) (by exact Nat.le_of_ble_eq_true rfl) (by exact List.forall_mem_cons.mpr ⟨rfl, fun _ h => absurd h List.not_mem_nil⟩) ?_
    unfold f_Model_lastSight at h
    refine K_iconst (v := 0) rfl (by decide) ?_
    refine K_istore_n rfl ?_
    refine K_iconst (v := 0) rfl (by decide) ?_
    refine K_istore_n rfl ?_
    refine K_pick [2, 1, 0] ?_
    exact L_Model_lastSight_4    FUEL _ _ _ hM  h
set_option maxRecDepth 20000 in
theorem L_Model_isSeenSo_63 {X : mX}  {k2 : Int32 → mM → Option (Int32 × mM)} {r : Int32 × mM}  (hk2 : ∀ (l1 : Int32) (M : mM), Fx M → k2 l1 M = some r → KK X 1 236 2 [(0, .ref 436), (1, .int l1)] [] M (fun v M' => v = some (.int r.1) ∧ r.2 = M' ∧ Fx r.2)) (l1 : Int32) (M : mM) (hM : Fx M)  (h : f_Model_isSeenSo_63  k2 l1 M = some r) : KK X 1 236 63 [(0, .ref 436), (1, .int l1)] [] M (fun v M' => v = some (.int r.1) ∧ r.2 = M' ∧ Fx r.2) := by
    unfold f_Model_isSeenSo_63 at h
    refine K_iinc (y := (l1 + 1)) rfl 1 rfl rfl ?_
    refine K_goto rfl ?_
    refine K_pick [1, 0] ?_
    exact hk2 _ _ hM  h
set_option maxRecDepth 20000 in
theorem L_Model_isSeenSo_2 {X : mX}  {r : Int32 × mM}  : ∀ (n : Nat) (l1 : Int32) (M : mM), Fx M → f_Model_isSeenSo_2   n l1 M = some r → KK X 1 236 2 [(0, .ref 436), (1, .int l1)] [] M (fun v M' => v = some (.int r.1) ∧ r.2 = M' ∧ Fx r.2)
  | 0, _, _ => fun _ h => by cases h
  | n + 1, l1, M => fun hM h => by
    unfold f_Model_isSeenSo_2 at h
    refine K_iload_n rfl 1 rfl ?_
    refine K_aload_n rfl 0 rfl ?_
    refine K_gR rfl sh_436 hM rfl rfl 20 rfl r_436_20 ?_
    refine K_sipush (v := 185) rfl (by decide) ?_
    obtain ⟨v1, ev1, h⟩ := Option.bind_eq_some_iff.mp h
    refine K_rd rfl sh_446 hM ev1 ?_
    refine K_ic_ge rfl (fun c2 => ?_) (fun c2 => ?_)
    · rw [if_pos c2] at h
      refine K_iconst (v := 1) rfl (by decide) ?_
      obtain rfl := Option.some.inj h
      exact K_iret rfl (Or.inr ⟨rfl, by decide⟩) ⟨rfl, rfl, hM⟩
    · rw [if_neg c2] at h
      refine K_sipush (v := 155) rfl (by decide) ?_
      refine K_iconst (v := 3) rfl (by decide) ?_
      refine K_iload_n rfl 1 rfl ?_
      refine K_imul rfl ?_
      refine K_iadd rfl ?_
      refine K_istore_n rfl ?_
      refine K_aload_n rfl 1 rfl ?_
      refine K_gR rfl sh_436 hM rfl rfl 20 rfl r_436_20 ?_
      refine K_iload_n rfl 0 rfl ?_
      refine K_iconst (v := 2) rfl (by decide) ?_
      refine K_iadd rfl ?_
      obtain ⟨v3, ev3, h⟩ := Option.bind_eq_some_iff.mp h
      refine K_rd rfl sh_446 hM ev3 ?_
      refine K_aload_n rfl 1 rfl ?_
      refine K_gR rfl sh_436 hM rfl rfl 20 rfl r_436_20 ?_
      refine K_iconst (v := 3) rfl (by decide) ?_
      obtain ⟨v4, ev4, h⟩ := Option.bind_eq_some_iff.mp h
      refine K_rd rfl sh_446 hM ev4 ?_
      refine K_ic_ne rfl (fun c5 => ?_) (fun c5 => ?_)
      · rw [if_neg c5] at h
        refine K_pick [1, 2] ?_
        exact L_Model_isSeenSo_63   (L_Model_isSeenSo_2    n) _ _ hM  h
      · rw [if_pos c5] at h
        refine K_aload_n rfl 1 rfl ?_
        refine K_aload_n rfl 1 rfl ?_
        refine K_gR rfl sh_436 hM rfl rfl 20 rfl r_436_20 ?_
        refine K_iload_n rfl 0 rfl ?_
        obtain ⟨v6, ev6, h⟩ := Option.bind_eq_some_iff.mp h
        refine K_rd rfl sh_446 hM ev6 ?_
        refine K_iconst (v := 1) rfl (by decide) ?_
        obtain ⟨r7, er7, h⟩ := Option.bind_eq_some_iff.mp h
        refine K_cV [.int v6, .int 1] [] rfl rfl (Nat.le_of_ble_eq_true rfl) (Nat.le_of_ble_eq_true rfl) sh_436 hM rfl (EV_le (Nat.le_of_ble_eq_true rfl) (F_Model_graveOf hM  er7)) (fun v' M' hq => ?_)
        obtain ⟨rfl, rfl, hr7⟩ := hq
        refine K_aload_n rfl 1 rfl ?_
        refine K_gR rfl sh_436 hr7 rfl rfl 20 rfl r_436_20 ?_
        refine K_iload_n rfl 0 rfl ?_
        refine K_iconst (v := 1) rfl (by decide) ?_
        refine K_iadd rfl ?_
        obtain ⟨v8, ev8, h⟩ := Option.bind_eq_some_iff.mp h
        refine K_rd rfl sh_446 hr7 ev8 ?_
        refine K_ic_eq rfl (fun c9 => ?_) (fun c9 => ?_)
        · rw [if_pos c9] at h
          refine K_pick [1, 2] ?_
          exact L_Model_isSeenSo_63   (L_Model_isSeenSo_2    n) _ _ hr7  h
        · rw [if_neg c9] at h
          refine K_iconst (v := 0) rfl (by decide) ?_
          obtain rfl := Option.some.inj h
          exact K_iret rfl (Or.inr ⟨rfl, by decide⟩) ⟨rfl, rfl, hr7⟩
set_option maxRecDepth 20000 in
theorem F_Model_isSeenSo {X : mX}  {M : mM} {r : Int32 × mM} (hM : Fx M)  (h : f_Model_isSeenSo  M = some r) : EV X (1 + 1) 236 [.ref 436] M (fun v M' => v = some (.int r.1) ∧ r.2 = M' ∧ Fx r.2) := by
    refine EV_of (lc := [(0, .ref 436)]) (Nat.le_of_ble_eq_true rfl) (by exact Nat.le_of_ble_eq_true rfl) (by exact List.forall_mem_cons.mpr ⟨rfl, fun _ h => absurd h List.not_mem_nil⟩) ?_
    unfold f_Model_isSeenSo at h
    refine K_iconst (v := 0) rfl (by decide) ?_
    refine K_istore_n rfl ?_
    refine K_pick [1, 0] ?_
    exact L_Model_isSeenSo_2    FUEL _ _ hM  h
set_option maxRecDepth 20000 in
theorem L_Model_fitsSights_15 {X : mX} {x1 : Int32} {r : Int32 × mM}  : ∀ (n : Nat) (l2 : Int32) (l3 : Int32) (M : mM), Fx M → f_Model_fitsSights_15 x1  n l2 l3 M = some r → KK X 6 232 15 [(0, .ref 436), (2, .int l2), (3, .int l3)] [] M (fun v M' => v = some (.int r.1) ∧ r.2 = M' ∧ Fx r.2)
  | 0, _, _, _ => fun _ h => by cases h
  | n + 1, l2, l3, M => fun hM h => by
    unfold f_Model_fitsSights_15 at h
    refine K_iload_n rfl 2 rfl ?_
    refine K_if_eq rfl (fun c4 => ?_) (fun c4 => ?_)
    · rw [if_pos c4] at h
      refine K_iload_n rfl 2 rfl ?_
      split at h
      · rename_i c5
        obtain rfl := Option.some.inj h
        exact K_iret rfl (Or.inr ⟨rfl, c5⟩) ⟨rfl, rfl, hM⟩
      · cases h
    · rw [if_neg c4] at h
      refine K_aload_n rfl 0 rfl ?_
      refine K_gR rfl sh_436 hM rfl rfl 20 rfl r_436_20 ?_
      refine K_iconst (v := 3) rfl (by decide) ?_
      obtain ⟨v6, ev6, h⟩ := Option.bind_eq_some_iff.mp h
      refine K_rd rfl sh_446 hM ev6 ?_
      refine K_iload_n rfl 1 rfl ?_
      refine K_ic_ge rfl (fun c7 => ?_) (fun c7 => ?_)
      · rw [if_pos c7] at h
        refine K_iload_n rfl 2 rfl ?_
        split at h
        · rename_i c8
          obtain rfl := Option.some.inj h
          exact K_iret rfl (Or.inr ⟨rfl, c8⟩) ⟨rfl, rfl, hM⟩
        · cases h
      · rw [if_neg c7] at h
        refine K_aload_n rfl 0 rfl ?_
        obtain ⟨r9, er9, h⟩ := Option.bind_eq_some_iff.mp h
        refine K_cV [] [] rfl rfl (Nat.le_of_ble_eq_true rfl) (Nat.le_of_ble_eq_true rfl) sh_436 hM rfl (EV_le (Nat.le_of_ble_eq_true rfl) (F_Model_passes hM  er9)) (fun v' M' hq => ?_)
        obtain ⟨rfl, rfl, hr9⟩ := hq
        refine K_pop rfl rfl ?_
        refine K_aload_n rfl 0 rfl ?_
        obtain ⟨r10, er10, h⟩ := Option.bind_eq_some_iff.mp h
        refine K_cV [] [] rfl rfl (Nat.le_of_ble_eq_true rfl) (Nat.le_of_ble_eq_true rfl) sh_436 hr9 rfl (EV_le (Nat.le_of_ble_eq_true rfl) (F_Model_isSeenSo hr9  er10)) (fun v' M' hq => ?_)
        obtain ⟨rfl, rfl, hr10⟩ := hq
        refine K_istore_n rfl ?_
        refine K_goto rfl ?_
        refine K_pick [1, 2, 0] ?_
        exact L_Model_fitsSights_15    n _ _ _ hr10  h
set_option maxRecDepth 20000 in
theorem F_Model_fitsSights {X : mX} {x1 : Int32} {M : mM} {r : Int32 × mM} (hM : Fx M)  (h : f_Model_fitsSights x1 M = some r) : EV X (6 + 1) 232 [.ref 436, .int x1] M (fun v M' => v = some (.int r.1) ∧ r.2 = M' ∧ Fx r.2) := by
    refine EV_of (lc := [(0, .ref 436), (1, .int x1)]) (Nat.le_of_ble_eq_true rfl) (by exact Nat.le_of_ble_eq_true rfl) (by exact List.forall_mem_cons.mpr ⟨rfl, List.forall_mem_cons.mpr ⟨rfl, fun _ h => absurd h List.not_mem_nil⟩⟩) ?_
    unfold f_Model_fitsSights at h
    refine K_aload_n rfl 0 rfl ?_
    refine K_iload_n rfl 1 rfl ?_
    obtain ⟨M1, eM1, h⟩ := Option.bind_eq_some_iff.mp h
    refine K_cV [.int x1] [] rfl rfl (Nat.le_of_ble_eq_true rfl) (Nat.le_of_ble_eq_true rfl) sh_436 hM rfl (EV_le (Nat.le_of_ble_eq_true rfl) (F_Model_beginsBy hM  eM1)) (fun v' M' hq => ?_)
    obtain ⟨rfl, rfl, hM1⟩ := hq
    refine K_aload_n rfl 0 rfl ?_
    obtain ⟨r2, er2, h⟩ := Option.bind_eq_some_iff.mp h
    refine K_cV [] [] rfl rfl (Nat.le_of_ble_eq_true rfl) (Nat.le_of_ble_eq_true rfl) sh_436 hM1 rfl (EV_le (Nat.le_of_ble_eq_true rfl) (F_Model_lastSight hM1  er2)) (fun v' M' hq => ?_)
    obtain ⟨rfl, rfl, hr2⟩ := hq
    refine K_istore_n rfl ?_
    refine K_aload_n rfl 1 rfl ?_
    obtain ⟨r3, er3, h⟩ := Option.bind_eq_some_iff.mp h
    refine K_cV [] [] rfl rfl (Nat.le_of_ble_eq_true rfl) (Nat.le_of_ble_eq_true rfl) sh_436 hr2 rfl (EV_le (Nat.le_of_ble_eq_true rfl) (F_Model_isSeenSo hr2  er3)) (fun v' M' hq => ?_)
    obtain ⟨rfl, rfl, hr3⟩ := hq
    refine K_istore_n rfl ?_
    refine K_pick [2, 1, 0] ?_
    exact L_Model_fitsSights_15    FUEL _ _ _ hr3  h
set_option maxRecDepth 20000 in
theorem L_Model_gathersFit_60 {X : mX}  {k16 : Int32 → Int32 → mM → Option (mM)} {r : mM}  (hk16 : ∀ (l1 : Int32) (l2 : Int32) (M : mM), Fx M → k16 l1 l2 M = some r → KK X 7 230 16 [(0, .ref 436), (1, .int l1), (2, .int l2)] [] M (fun v M' => v = none ∧ r = M' ∧ Fx r)) (l1 : Int32) (l2 : Int32) (M : mM) (hM : Fx M)  (h : f_Model_gathersFit_60  k16 l1 l2 M = some r) : KK X 7 230 60 [(0, .ref 436), (1, .int l1), (2, .int l2)] [] M (fun v M' => v = none ∧ r = M' ∧ Fx r) := by
    unfold f_Model_gathersFit_60 at h
    refine K_iinc (y := (l2 + 1)) rfl 2 rfl rfl ?_
    refine K_goto rfl ?_
    refine K_pick [1, 2, 0] ?_
    exact hk16 _ _ _ hM  h
set_option maxRecDepth 20000 in
theorem L_Model_gathersFit_16 {X : mX}  {r : mM}  : ∀ (n : Nat) (l1 : Int32) (l2 : Int32) (M : mM), Fx M → f_Model_gathersFit_16   n l1 l2 M = some r → KK X 7 230 16 [(0, .ref 436), (1, .int l1), (2, .int l2)] [] M (fun v M' => v = none ∧ r = M' ∧ Fx r)
  | 0, _, _, _ => fun _ h => by cases h
  | n + 1, l1, l2, M => fun hM h => by
    unfold f_Model_gathersFit_16 at h
    refine K_iload_n rfl 2 rfl ?_
    refine K_iload_n rfl 1 rfl ?_
    refine K_ic_gt rfl (fun c4 => ?_) (fun c4 => ?_)
    · rw [if_pos c4] at h
      refine K_aload_n rfl 0 rfl ?_
      obtain ⟨M5, eM5, h⟩ := Option.bind_eq_some_iff.mp h
      refine K_cV [] [] rfl rfl (Nat.le_of_ble_eq_true rfl) (Nat.le_of_ble_eq_true rfl) sh_436 hM rfl (EV_le (Nat.le_of_ble_eq_true rfl) (F_Model_laysBack hM  eM5)) (fun v' M' hq => ?_)
      obtain ⟨rfl, rfl, hM5⟩ := hq
      obtain rfl := Option.some.inj h
      exact K_vret rfl rfl ⟨rfl, rfl, hM5⟩
    · rw [if_neg c4] at h
      refine K_iload_n rfl 2 rfl ?_
      refine K_iload_n rfl 1 rfl ?_
      refine K_iconst (v := (-1)) rfl (by decide) ?_
      refine K_ixor rfl ?_
      refine K_iand rfl ?_
      refine K_if_ne rfl (fun c6 => ?_) (fun c6 => ?_)
      · rw [if_neg c6] at h
        refine K_pick [0, 1, 2] ?_
        exact L_Model_gathersFit_60   (L_Model_gathersFit_16    n) _ _ _ hM  h
      · rw [if_pos c6] at h
        refine K_aload_n rfl 0 rfl ?_
        refine K_iload_n rfl 2 rfl ?_
        obtain ⟨r7, er7, h⟩ := Option.bind_eq_some_iff.mp h
        refine K_cV [.int l2] [] rfl rfl (Nat.le_of_ble_eq_true rfl) (Nat.le_of_ble_eq_true rfl) sh_436 hM rfl (EV_le (Nat.le_of_ble_eq_true rfl) (F_Model_fitsSights hM  er7)) (fun v' M' hq => ?_)
        obtain ⟨rfl, rfl, hr7⟩ := hq
        refine K_if_ne rfl (fun c8 => ?_) (fun c8 => ?_)
        · rw [if_neg c8] at h
          refine K_aload_n rfl 0 rfl ?_
          refine K_gR rfl sh_436 hr7 rfl rfl 32 rfl r_436_32 ?_
          refine K_aload_n rfl 0 rfl ?_
          refine K_gI rfl sh_436 hr7 rfl rfl 33 rfl ?_
          refine K_iload_n rfl 2 rfl ?_
          obtain ⟨M9, eM9, h⟩ := Option.bind_eq_some_iff.mp h
          refine K_wr rfl sh_451 hr7 eM9 (fun hM9 => ?_)
          refine K_aload_n rfl 0 rfl ?_
          refine K_dup rfl rfl ?_
          refine K_gI rfl sh_436 hM9 rfl rfl 33 rfl ?_
          refine K_iconst (v := 1) rfl (by decide) ?_
          refine K_iadd rfl ?_
          obtain ⟨M10, eM10, h⟩ := Option.bind_eq_some_iff.mp h
          refine K_pI rfl sh_436 hM9 rfl rfl 33 rfl eM10 (fun hM10 => ?_)
          refine K_pick [0, 1, 2] ?_
          exact L_Model_gathersFit_60   (L_Model_gathersFit_16    n) _ _ _ hM10  h
        · rw [if_pos c8] at h
          refine K_goto rfl ?_
          refine K_pick [0, 1, 2] ?_
          exact L_Model_gathersFit_60   (L_Model_gathersFit_16    n) _ _ _ hr7  h
set_option maxRecDepth 20000 in
theorem F_Model_gathersFit {X : mX}  {M : mM} {r : mM} (hM : Fx M)  (h : f_Model_gathersFit  M = some r) : EV X (7 + 1) 230 [.ref 436] M (fun v M' => v = none ∧ r = M' ∧ Fx r) := by
    refine EV_of (lc := [(0, .ref 436)]) (Nat.le_of_ble_eq_true rfl) (by exact Nat.le_of_ble_eq_true rfl) (by exact List.forall_mem_cons.mpr ⟨rfl, fun _ h => absurd h List.not_mem_nil⟩) ?_
    unfold f_Model_gathersFit at h
    refine K_aload_n rfl 0 rfl ?_
    obtain ⟨r1, er1, h⟩ := Option.bind_eq_some_iff.mp h
    refine K_cV [] [] rfl rfl (Nat.le_of_ble_eq_true rfl) (Nat.le_of_ble_eq_true rfl) sh_436 hM rfl (EV_le (Nat.le_of_ble_eq_true rfl) (F_Model_inQuestion hM  er1)) (fun v' M' hq => ?_)
    obtain ⟨rfl, rfl, hr1⟩ := hq
    refine K_istore_n rfl ?_
    refine K_aload_n rfl 1 rfl ?_
    obtain ⟨M2, eM2, h⟩ := Option.bind_eq_some_iff.mp h
    refine K_cV [] [] rfl rfl (Nat.le_of_ble_eq_true rfl) (Nat.le_of_ble_eq_true rfl) sh_436 hr1 rfl (EV_le (Nat.le_of_ble_eq_true rfl) (F_Model_keeps hr1  eM2)) (fun v' M' hq => ?_)
    obtain ⟨rfl, rfl, hM2⟩ := hq
    refine K_aload_n rfl 1 rfl ?_
    refine K_iconst (v := 0) rfl (by decide) ?_
    obtain ⟨M3, eM3, h⟩ := Option.bind_eq_some_iff.mp h
    refine K_pI rfl sh_436 hM2 rfl rfl 33 rfl eM3 (fun hM3 => ?_)
    refine K_iconst (v := 0) rfl (by decide) ?_
    refine K_istore_n rfl ?_
    refine K_pick [2, 1, 0] ?_
    exact L_Model_gathersFit_16    FUEL _ _ _ hM3  h
set_option maxRecDepth 20000 in
theorem L_Model_unpaid_35 {X : mX} {x1 : Int32} {r : Int32 × mM}  : ∀ (n : Nat) (l2 : Int32) (l3 : Int32) (l4 : Int32) (M : mM), Fx M → f_Model_unpaid_35 x1  n l2 l3 l4 M = some r → KK X 8 229 35 [(0, .ref 436), (1, .int x1), (2, .int l2), (3, .int l3), (4, .int l4)] [] M (fun v M' => v = some (.int r.1) ∧ r.2 = M' ∧ Fx r.2)
  | 0, _, _, _, _ => fun _ h => by cases h
  | n + 1, l2, l3, l4, M => fun hM h => by
    unfold f_Model_unpaid_35 at h
    refine K_iload rfl 4 rfl ?_
    refine K_aload_n rfl 0 rfl ?_
    refine K_gI rfl sh_436 hM rfl rfl 33 rfl ?_
    refine K_ic_ge rfl (fun c7 => ?_) (fun c7 => ?_)
    · rw [if_pos c7] at h
      refine K_iload_n rfl 1 rfl ?_
      refine K_if_ne rfl (fun c8 => ?_) (fun c8 => ?_)
      · rw [if_neg c8] at h
        refine K_aload_n rfl 0 rfl ?_
        refine K_gI rfl sh_436 hM rfl rfl 33 rfl ?_
        refine K_if_ne rfl (fun c9 => ?_) (fun c9 => ?_)
        · rw [if_neg c9] at h
          refine K_iload_n rfl 1 rfl ?_
          refine K_iconst (v := 1) rfl (by decide) ?_
          refine K_ic_ne rfl (fun c10 => ?_) (fun c10 => ?_)
          · rw [if_neg c10] at h
            refine K_aload_n rfl 0 rfl ?_
            obtain ⟨r11, er11, h⟩ := Option.bind_eq_some_iff.mp h
            refine K_cV [] [] rfl rfl (Nat.le_of_ble_eq_true rfl) (Nat.le_of_ble_eq_true rfl) sh_436 hM rfl (EV_le (Nat.le_of_ble_eq_true rfl) (F_Model_inQuestion hM  er11)) (fun v' M' hq => ?_)
            obtain ⟨rfl, rfl, hr11⟩ := hq
            refine K_iload_n rfl 3 rfl ?_
            refine K_iconst (v := (-1)) rfl (by decide) ?_
            refine K_ixor rfl ?_
            refine K_iand rfl ?_
            obtain rfl := Option.some.inj h
            exact K_iret rfl (Or.inl rfl) ⟨rfl, rfl, hr11⟩
          · rw [if_pos c10] at h
            refine K_iload_n rfl 2 rfl ?_
            refine K_goto rfl ?_
            obtain rfl := Option.some.inj h
            exact K_iret rfl (Or.inl rfl) ⟨rfl, rfl, hM⟩
        · rw [if_pos c9] at h
          refine K_iconst (v := 0) rfl (by decide) ?_
          refine K_goto rfl ?_
          obtain rfl := Option.some.inj h
          exact K_iret rfl (Or.inl rfl) ⟨rfl, rfl, hM⟩
      · rw [if_pos c8] at h
        refine K_aload_n rfl 0 rfl ?_
        refine K_gI rfl sh_436 hM rfl rfl 33 rfl ?_
        refine K_goto rfl ?_
        obtain rfl := Option.some.inj h
        exact K_iret rfl (Or.inl rfl) ⟨rfl, rfl, hM⟩
    · rw [if_neg c7] at h
      refine K_iload_n rfl 2 rfl ?_
      refine K_aload_n rfl 0 rfl ?_
      refine K_gR rfl sh_436 hM rfl rfl 32 rfl r_436_32 ?_
      refine K_iload rfl 4 rfl ?_
      obtain ⟨v12, ev12, h⟩ := Option.bind_eq_some_iff.mp h
      refine K_rd rfl sh_451 hM ev12 ?_
      refine K_iand rfl ?_
      refine K_istore_n rfl ?_
      refine K_iload_n rfl 3 rfl ?_
      refine K_aload_n rfl 1 rfl ?_
      refine K_gR rfl sh_436 hM rfl rfl 32 rfl r_436_32 ?_
      refine K_iload rfl 4 rfl ?_
      obtain ⟨v13, ev13, h⟩ := Option.bind_eq_some_iff.mp h
      refine K_rd rfl sh_451 hM ev13 ?_
      refine K_ior rfl ?_
      refine K_istore_n rfl ?_
      refine K_iinc (y := (l4 + 1)) rfl 4 rfl rfl ?_
      refine K_goto rfl ?_
      refine K_pick [3, 4, 2, 1, 0] ?_
      exact L_Model_unpaid_35    n _ _ _ _ hM  h
set_option maxRecDepth 20000 in
theorem F_Model_unpaid {X : mX} {x1 : Int32} {M : mM} {r : Int32 × mM} (hM : Fx M)  (h : f_Model_unpaid x1 M = some r) : EV X (8 + 1) 229 [.ref 436, .int x1] M (fun v M' => v = some (.int r.1) ∧ r.2 = M' ∧ Fx r.2) := by
    refine EV_of (lc := [(0, .ref 436), (1, .int x1)]) (Nat.le_of_ble_eq_true rfl) (by exact Nat.le_of_ble_eq_true rfl) (by exact List.forall_mem_cons.mpr ⟨rfl, List.forall_mem_cons.mpr ⟨rfl, fun _ h => absurd h List.not_mem_nil⟩⟩) ?_
    unfold f_Model_unpaid at h
    refine K_aload_n rfl 0 rfl ?_
    obtain ⟨r1, er1, h⟩ := Option.bind_eq_some_iff.mp h
    refine K_cV [] [] rfl rfl (Nat.le_of_ble_eq_true rfl) (Nat.le_of_ble_eq_true rfl) sh_436 hM rfl (EV_le (Nat.le_of_ble_eq_true rfl) (F_Model_isYard hM  er1)) (fun v' M' hq => ?_)
    obtain ⟨rfl, rfl, hr1⟩ := hq
    refine K_if_eq rfl (fun c2 => ?_) (fun c2 => ?_)
    · rw [if_pos c2] at h
      refine K_iconst (v := (-1)) rfl (by decide) ?_
      obtain rfl := Option.some.inj h
      exact K_iret rfl (Or.inl rfl) ⟨rfl, rfl, hr1⟩
    · rw [if_neg c2] at h
      refine K_iload_n rfl 1 rfl ?_
      refine K_i2l rfl ?_
      refine K_lconst (v := 0) rfl (by decide) ?_
      refine K_ldc2 (v := 2) rfl (by decide) ?_
      obtain ⟨r3, er3, h⟩ := Option.bind_eq_some_iff.mp h
      refine K_callS [.long (Int32.toInt64 x1), .long 0, .long 2] [] rfl rfl (Nat.le_of_ble_eq_true rfl) (Nat.le_of_ble_eq_true rfl) (EV_le (Nat.le_of_ble_eq_true rfl) (F_Model_in hr1  er3)) (fun v' M' hq => ?_)
      obtain ⟨rfl, rfl, hr3⟩ := hq
      refine K_if_ne rfl (fun c4 => ?_) (fun c4 => ?_)
      · rw [if_neg c4] at h
        refine K_aload_n rfl 0 rfl ?_
        obtain ⟨M5, eM5, h⟩ := Option.bind_eq_some_iff.mp h
        refine K_cV [] [] rfl rfl (Nat.le_of_ble_eq_true rfl) (Nat.le_of_ble_eq_true rfl) sh_436 hr3 rfl (EV_le (Nat.le_of_ble_eq_true rfl) (F_Model_gathersFit hr3  eM5)) (fun v' M' hq => ?_)
        obtain ⟨rfl, rfl, hM5⟩ := hq
        refine K_aload_n rfl 0 rfl ?_
        obtain ⟨r6, er6, h⟩ := Option.bind_eq_some_iff.mp h
        refine K_cV [] [] rfl rfl (Nat.le_of_ble_eq_true rfl) (Nat.le_of_ble_eq_true rfl) sh_436 hM5 rfl (EV_le (Nat.le_of_ble_eq_true rfl) (F_Model_inQuestion hM5  er6)) (fun v' M' hq => ?_)
        obtain ⟨rfl, rfl, hr6⟩ := hq
        refine K_istore_n rfl ?_
        refine K_iconst (v := 0) rfl (by decide) ?_
        refine K_istore_n rfl ?_
        refine K_iconst (v := 0) rfl (by decide) ?_
        refine K_istore rfl ?_
        refine K_pick [3, 4, 2, 1, 0] ?_
        exact L_Model_unpaid_35    FUEL _ _ _ _ hr6  h
      · rw [if_pos c4] at h
        refine K_iconst (v := (-1)) rfl (by decide) ?_
        obtain rfl := Option.some.inj h
        exact K_iret rfl (Or.inl rfl) ⟨rfl, rfl, hr3⟩
set_option maxRecDepth 20000 in
theorem L_Model_countsCells_103 {X : mX} {x1 : Int32} {k28 : Int32 → mM → Option (mM)} {k66 : Int32 → Int32 → mM → Option (mM)} {r : mM}  (hk28 : ∀ (l2 : Int32) (M : mM), Fx M → k28 l2 M = some r → KK X 6 238 28 [(0, .ref 436), (1, .int x1), (2, .int l2)] [] M (fun v M' => v = none ∧ r = M' ∧ Fx r)) (hk66 : ∀ (l2 : Int32) (l3 : Int32) (M : mM), Fx M → k66 l2 l3 M = some r → KK X 6 238 66 [(0, .ref 436), (1, .int x1), (2, .int l2), (3, .int l3)] [] M (fun v M' => v = none ∧ r = M' ∧ Fx r)) (l2 : Int32) (l3 : Int32) (s1 : Int32) (s2 : Int32) (M : mM) (hM : Fx M)  (h : f_Model_countsCells_103 x1 k28 k66 l2 l3 s1 s2 M = some r) : KK X 6 238 103 [(0, .ref 436), (1, .int x1), (2, .int l2), (3, .int l3)] [.int s2, .int s1, .ref 452] M (fun v M' => v = none ∧ r = M' ∧ Fx r) := by
    unfold f_Model_countsCells_103 at h
    refine K_iadd rfl ?_
    refine K_dup2 rfl ⟨rfl, rfl⟩ ?_
    obtain ⟨v14, ev14, h⟩ := Option.bind_eq_some_iff.mp h
    refine K_rd rfl sh_452 hM ev14 ?_
    refine K_iconst (v := 1) rfl (by decide) ?_
    refine K_iadd rfl ?_
    obtain ⟨M15, eM15, h⟩ := Option.bind_eq_some_iff.mp h
    refine K_wr rfl sh_452 hM eM15 (fun hM15 => ?_)
    refine K_iinc (y := (l3 + 1)) rfl 3 rfl rfl ?_
    refine K_goto rfl ?_
    refine K_pick [1, 2, 3, 0] ?_
    exact hk66 _ _ _ hM15  h
set_option maxRecDepth 20000 in
theorem L_Model_countsCells_66 {X : mX} {x1 : Int32} {k28 : Int32 → mM → Option (mM)} {r : mM}  (hk28 : ∀ (l2 : Int32) (M : mM), Fx M → k28 l2 M = some r → KK X 6 238 28 [(0, .ref 436), (1, .int x1), (2, .int l2)] [] M (fun v M' => v = none ∧ r = M' ∧ Fx r)) : ∀ (n : Nat) (l2 : Int32) (l3 : Int32) (M : mM), Fx M → f_Model_countsCells_66 x1 k28 n l2 l3 M = some r → KK X 6 238 66 [(0, .ref 436), (1, .int x1), (2, .int l2), (3, .int l3)] [] M (fun v M' => v = none ∧ r = M' ∧ Fx r)
  | 0, _, _, _ => fun _ h => by cases h
  | n + 1, l2, l3, M => fun hM h => by
    unfold f_Model_countsCells_66 at h
    refine K_iload_n rfl 3 rfl ?_
    refine K_aload_n rfl 0 rfl ?_
    refine K_gR rfl sh_436 hM rfl rfl 20 rfl r_436_20 ?_
    refine K_iconst (v := 4) rfl (by decide) ?_
    obtain ⟨v9, ev9, h⟩ := Option.bind_eq_some_iff.mp h
    refine K_rd rfl sh_446 hM ev9 ?_
    refine K_ic_ge rfl (fun c10 => ?_) (fun c10 => ?_)
    · rw [if_pos c10] at h
      refine K_iinc (y := (l2 + 1)) rfl 2 rfl rfl ?_
      refine K_goto rfl ?_
      refine K_pick [1, 2, 0] ?_
      exact hk28 _ _ hM  h
    · rw [if_neg c10] at h
      refine K_aload_n rfl 0 rfl ?_
      refine K_gR rfl sh_436 hM rfl rfl 34 rfl r_436_34 ?_
      refine K_bipush (v := 21) rfl (by decide) ?_
      refine K_iload_n rfl 3 rfl ?_
      refine K_imul rfl ?_
      refine K_aload_n rfl 0 rfl ?_
      refine K_iload_n rfl 3 rfl ?_
      obtain ⟨r11, er11, h⟩ := Option.bind_eq_some_iff.mp h
      refine K_cV [.int l3] [.int (21 * l3), .ref 452] rfl rfl (Nat.le_of_ble_eq_true rfl) (Nat.le_of_ble_eq_true rfl) sh_436 hM rfl (EV_le (Nat.le_of_ble_eq_true rfl) (F_Model_isFallen hM  er11)) (fun v' M' hq => ?_)
      obtain ⟨rfl, rfl, hr11⟩ := hq
      refine K_if_eq rfl (fun c12 => ?_) (fun c12 => ?_)
      · rw [if_pos c12] at h
        refine K_aload_n rfl 0 rfl ?_
        refine K_iload_n rfl 3 rfl ?_
        refine K_iconst (v := 1) rfl (by decide) ?_
        obtain ⟨r13, er13, h⟩ := Option.bind_eq_some_iff.mp h
        refine K_cV [.int l3, .int 1] [.int (21 * l3), .ref 452] rfl rfl (Nat.le_of_ble_eq_true rfl) (Nat.le_of_ble_eq_true rfl) sh_436 hr11 rfl (EV_le (Nat.le_of_ble_eq_true rfl) (F_Model_graveOf hr11  er13)) (fun v' M' hq => ?_)
        obtain ⟨rfl, rfl, hr13⟩ := hq
        refine K_pick [0, 1, 2, 3] ?_
        exact L_Model_countsCells_103   hk28 (L_Model_countsCells_66   hk28 n) _ _ _ _ _ hr13  h
      · rw [if_neg c12] at h
        refine K_bipush (v := 20) rfl (by decide) ?_
        refine K_goto rfl ?_
        refine K_pick [0, 1, 2, 3] ?_
        exact L_Model_countsCells_103   hk28 (L_Model_countsCells_66   hk28 n) _ _ _ _ _ hr11  h
set_option maxRecDepth 20000 in
theorem L_Model_countsCells_46 {X : mX} {x1 : Int32} {k28 : Int32 → mM → Option (mM)} {r : mM}  (hk28 : ∀ (l2 : Int32) (M : mM), Fx M → k28 l2 M = some r → KK X 6 238 28 [(0, .ref 436), (1, .int x1), (2, .int l2)] [] M (fun v M' => v = none ∧ r = M' ∧ Fx r)) : ∀ (n : Nat) (l2 : Int32) (M : mM), Fx M → f_Model_countsCells_46 x1 k28 n l2 M = some r → KK X 6 238 46 [(0, .ref 436), (1, .int x1), (2, .int l2)] [] M (fun v M' => v = none ∧ r = M' ∧ Fx r)
  | 0, _, _ => fun _ h => by cases h
  | n + 1, l2, M => fun hM h => by
    unfold f_Model_countsCells_46 at h
    refine K_aload_n rfl 0 rfl ?_
    refine K_gR rfl sh_436 hM rfl rfl 20 rfl r_436_20 ?_
    refine K_iconst (v := 3) rfl (by decide) ?_
    obtain ⟨v7, ev7, h⟩ := Option.bind_eq_some_iff.mp h
    refine K_rd rfl sh_446 hM ev7 ?_
    refine K_iload_n rfl 1 rfl ?_
    refine K_ic_ge rfl (fun c8 => ?_) (fun c8 => ?_)
    · rw [if_pos c8] at h
      refine K_iconst (v := 0) rfl (by decide) ?_
      refine K_istore_n rfl ?_
      refine K_pick [1, 2, 3, 0] ?_
      exact L_Model_countsCells_66   hk28 FUEL _ _ _ hM  h
    · rw [if_neg c8] at h
      refine K_aload_n rfl 0 rfl ?_
      obtain ⟨r16, er16, h⟩ := Option.bind_eq_some_iff.mp h
      refine K_cV [] [] rfl rfl (Nat.le_of_ble_eq_true rfl) (Nat.le_of_ble_eq_true rfl) sh_436 hM rfl (EV_le (Nat.le_of_ble_eq_true rfl) (F_Model_passes hM  er16)) (fun v' M' hq => ?_)
      obtain ⟨rfl, rfl, hr16⟩ := hq
      refine K_pop rfl rfl ?_
      refine K_goto rfl ?_
      refine K_pick [0, 1, 2] ?_
      exact L_Model_countsCells_46   hk28 n _ _ hr16  h
set_option maxRecDepth 20000 in
theorem L_Model_countsCells_28 {X : mX} {x1 : Int32} {r : mM}  : ∀ (n : Nat) (l2 : Int32) (M : mM), Fx M → f_Model_countsCells_28 x1  n l2 M = some r → KK X 6 238 28 [(0, .ref 436), (1, .int x1), (2, .int l2)] [] M (fun v M' => v = none ∧ r = M' ∧ Fx r)
  | 0, _, _ => fun _ h => by cases h
  | n + 1, l2, M => fun hM h => by
    unfold f_Model_countsCells_28 at h
    refine K_iload_n rfl 2 rfl ?_
    refine K_aload_n rfl 0 rfl ?_
    refine K_gI rfl sh_436 hM rfl rfl 33 rfl ?_
    refine K_ic_ge rfl (fun c3 => ?_) (fun c3 => ?_)
    · rw [if_pos c3] at h
      refine K_aload_n rfl 0 rfl ?_
      obtain ⟨M4, eM4, h⟩ := Option.bind_eq_some_iff.mp h
      refine K_cV [] [] rfl rfl (Nat.le_of_ble_eq_true rfl) (Nat.le_of_ble_eq_true rfl) sh_436 hM rfl (EV_le (Nat.le_of_ble_eq_true rfl) (F_Model_laysBack hM  eM4)) (fun v' M' hq => ?_)
      obtain ⟨rfl, rfl, hM4⟩ := hq
      obtain rfl := Option.some.inj h
      exact K_vret rfl rfl ⟨rfl, rfl, hM4⟩
    · rw [if_neg c3] at h
      refine K_aload_n rfl 0 rfl ?_
      refine K_aload_n rfl 0 rfl ?_
      refine K_gR rfl sh_436 hM rfl rfl 32 rfl r_436_32 ?_
      refine K_iload_n rfl 2 rfl ?_
      obtain ⟨v5, ev5, h⟩ := Option.bind_eq_some_iff.mp h
      refine K_rd rfl sh_451 hM ev5 ?_
      obtain ⟨M6, eM6, h⟩ := Option.bind_eq_some_iff.mp h
      refine K_cV [.int v5] [] rfl rfl (Nat.le_of_ble_eq_true rfl) (Nat.le_of_ble_eq_true rfl) sh_436 hM rfl (EV_le (Nat.le_of_ble_eq_true rfl) (F_Model_beginsBy hM  eM6)) (fun v' M' hq => ?_)
      obtain ⟨rfl, rfl, hM6⟩ := hq
      refine K_pick [0, 1, 2] ?_
      exact L_Model_countsCells_46   (L_Model_countsCells_28    n) FUEL _ _ hM6  h
set_option maxRecDepth 20000 in
theorem L_Model_countsCells_2 {X : mX} {x1 : Int32} {r : mM}  : ∀ (n : Nat) (l2 : Int32) (M : mM), Fx M → f_Model_countsCells_2 x1  n l2 M = some r → KK X 6 238 2 [(0, .ref 436), (1, .int x1), (2, .int l2)] [] M (fun v M' => v = none ∧ r = M' ∧ Fx r)
  | 0, _, _ => fun _ h => by cases h
  | n + 1, l2, M => fun hM h => by
    unfold f_Model_countsCells_2 at h
    refine K_iload_n rfl 2 rfl ?_
    refine K_sipush (v := 210) rfl (by decide) ?_
    refine K_ic_ge rfl (fun c1 => ?_) (fun c1 => ?_)
    · rw [if_pos c1] at h
      refine K_aload_n rfl 0 rfl ?_
      obtain ⟨M2, eM2, h⟩ := Option.bind_eq_some_iff.mp h
      refine K_cV [] [] rfl rfl (Nat.le_of_ble_eq_true rfl) (Nat.le_of_ble_eq_true rfl) sh_436 hM rfl (EV_le (Nat.le_of_ble_eq_true rfl) (F_Model_keeps hM  eM2)) (fun v' M' hq => ?_)
      obtain ⟨rfl, rfl, hM2⟩ := hq
      refine K_iconst (v := 0) rfl (by decide) ?_
      refine K_istore_n rfl ?_
      refine K_pick [1, 2, 0] ?_
      exact L_Model_countsCells_28    FUEL _ _ hM2  h
    · rw [if_neg c1] at h
      refine K_aload_n rfl 0 rfl ?_
      refine K_gR rfl sh_436 hM rfl rfl 34 rfl r_436_34 ?_
      refine K_iload_n rfl 2 rfl ?_
      refine K_iconst (v := 0) rfl (by decide) ?_
      obtain ⟨M17, eM17, h⟩ := Option.bind_eq_some_iff.mp h
      refine K_wr rfl sh_452 hM eM17 (fun hM17 => ?_)
      refine K_iinc (y := (l2 + 1)) rfl 2 rfl rfl ?_
      refine K_goto rfl ?_
      refine K_pick [1, 2, 0] ?_
      exact L_Model_countsCells_2    n _ _ hM17  h
set_option maxRecDepth 20000 in
theorem F_Model_countsCells {X : mX} {x1 : Int32} {M : mM} {r : mM} (hM : Fx M)  (h : f_Model_countsCells x1 M = some r) : EV X (6 + 1) 238 [.ref 436, .int x1] M (fun v M' => v = none ∧ r = M' ∧ Fx r) := by
    refine EV_of (lc := [(0, .ref 436), (1, .int x1)]) (Nat.le_of_ble_eq_true rfl) (by exact Nat.le_of_ble_eq_true rfl) (by exact List.forall_mem_cons.mpr ⟨rfl, List.forall_mem_cons.mpr ⟨rfl, fun _ h => absurd h List.not_mem_nil⟩⟩) ?_
    unfold f_Model_countsCells at h
    refine K_iconst (v := 0) rfl (by decide) ?_
    refine K_istore_n rfl ?_
    refine K_pick [1, 2, 0] ?_
    exact L_Model_countsCells_2    FUEL _ _ hM  h
set_option maxRecDepth 20000 in
theorem L_Model_look_149 {X : mX} {x1 : Int32} {x2 : Int32} {k60 : Int32 → Int32 → Int32 → mM → Option (Int32 × mM)} {r : Int32 × mM}  (hk60 : ∀ (l3 : Int32) (l4 : Int32) (l5 : Int32) (M : mM), Fx M → k60 l3 l4 l5 M = some r → KK X 8 237 60 [(0, .ref 436), (2, .int x2), (3, .int l3), (4, .int l4), (5, .int l5)] [] M (fun v M' => v = some (.int r.1) ∧ r.2 = M' ∧ Fx r.2)) (l3 : Int32) (l4 : Int32) (l5 : Int32) (M : mM) (hM : Fx M)  (h : f_Model_look_149 x1 x2 k60 l3 l4 l5 M = some r) : KK X 8 237 149 [(0, .ref 436), (2, .int x2), (3, .int l3), (4, .int l4), (5, .int l5)] [] M (fun v M' => v = some (.int r.1) ∧ r.2 = M' ∧ Fx r.2) := by
    unfold f_Model_look_149 at h
    refine K_iinc (y := (l5 + 1)) rfl 4 rfl rfl ?_
    refine K_goto rfl ?_
    refine K_pick [1, 2, 3, 4, 0] ?_
    exact hk60 _ _ _ _ hM  h
set_option maxRecDepth 20000 in
theorem L_Model_look_142 {X : mX} {x1 : Int32} {x2 : Int32} {k60 : Int32 → Int32 → Int32 → mM → Option (Int32 × mM)} {r : Int32 × mM}  (hk60 : ∀ (l3 : Int32) (l4 : Int32) (l5 : Int32) (M : mM), Fx M → k60 l3 l4 l5 M = some r → KK X 8 237 60 [(0, .ref 436), (2, .int x2), (3, .int l3), (4, .int l4), (5, .int l5)] [] M (fun v M' => v = some (.int r.1) ∧ r.2 = M' ∧ Fx r.2)) (l5 : Int32) (l6 : Int32) (M : mM) (hM : Fx M)  (h : f_Model_look_142 x1 x2 k60 l5 l6 M = some r) : KK X 8 237 142 [(0, .ref 436), (2, .int x2), (5, .int l5), (6, .int l6)] [] M (fun v M' => v = some (.int r.1) ∧ r.2 = M' ∧ Fx r.2) := by
    unfold f_Model_look_142 at h
    refine K_iload rfl 2 rfl ?_
    refine K_istore_n rfl ?_
    refine K_iload rfl 4 rfl ?_
    refine K_istore rfl ?_
    refine K_pick [2, 3, 1, 0, 4] ?_
    exact L_Model_look_149   hk60 _ _ _ _ hM  h
set_option maxRecDepth 20000 in
theorem L_Model_look_120 {X : mX} {x1 : Int32} {x2 : Int32} {k60 : Int32 → Int32 → Int32 → mM → Option (Int32 × mM)} {k77 : Int32 → Int32 → Int32 → Int32 → Int32 → mM → Option (Int32 × mM)} {r : Int32 × mM}  (hk60 : ∀ (l3 : Int32) (l4 : Int32) (l5 : Int32) (M : mM), Fx M → k60 l3 l4 l5 M = some r → KK X 8 237 60 [(0, .ref 436), (2, .int x2), (3, .int l3), (4, .int l4), (5, .int l5)] [] M (fun v M' => v = some (.int r.1) ∧ r.2 = M' ∧ Fx r.2)) (hk77 : ∀ (l3 : Int32) (l4 : Int32) (l5 : Int32) (l6 : Int32) (l7 : Int32) (M : mM), Fx M → k77 l3 l4 l5 l6 l7 M = some r → KK X 8 237 77 [(0, .ref 436), (2, .int x2), (3, .int l3), (4, .int l4), (5, .int l5), (6, .int l6), (7, .int l7)] [] M (fun v M' => v = some (.int r.1) ∧ r.2 = M' ∧ Fx r.2)) (l3 : Int32) (l4 : Int32) (l5 : Int32) (l7 : Int32) (s0 : Int32) (M : mM) (hM : Fx M)  (h : f_Model_look_120 x1 x2 k60 k77 l3 l4 l5 l7 s0 M = some r) : KK X 8 237 120 [(0, .ref 436), (2, .int x2), (3, .int l3), (4, .int l4), (5, .int l5), (7, .int l7)] [.int s0] M (fun v M' => v = some (.int r.1) ∧ r.2 = M' ∧ Fx r.2) := by
    unfold f_Model_look_120 at h
    refine K_istore rfl ?_
    refine K_iinc (y := (l7 + 1)) rfl 6 rfl rfl ?_
    refine K_goto rfl ?_
    refine K_pick [2, 3, 4, 5, 6, 1, 0] ?_
    exact hk77 _ _ _ _ _ _ hM  h
set_option maxRecDepth 20000 in
theorem L_Model_look_77 {X : mX} {x1 : Int32} {x2 : Int32} {k60 : Int32 → Int32 → Int32 → mM → Option (Int32 × mM)} {r : Int32 × mM}  (hk60 : ∀ (l3 : Int32) (l4 : Int32) (l5 : Int32) (M : mM), Fx M → k60 l3 l4 l5 M = some r → KK X 8 237 60 [(0, .ref 436), (2, .int x2), (3, .int l3), (4, .int l4), (5, .int l5)] [] M (fun v M' => v = some (.int r.1) ∧ r.2 = M' ∧ Fx r.2)) : ∀ (n : Nat) (l3 : Int32) (l4 : Int32) (l5 : Int32) (l6 : Int32) (l7 : Int32) (M : mM), Fx M → f_Model_look_77 x1 x2 k60 n l3 l4 l5 l6 l7 M = some r → KK X 8 237 77 [(0, .ref 436), (2, .int x2), (3, .int l3), (4, .int l4), (5, .int l5), (6, .int l6), (7, .int l7)] [] M (fun v M' => v = some (.int r.1) ∧ r.2 = M' ∧ Fx r.2)
  | 0, _, _, _, _, _, _ => fun _ h => by cases h
  | n + 1, l3, l4, l5, l6, l7, M => fun hM h => by
    unfold f_Model_look_77 at h
    refine K_iload rfl 6 rfl ?_
    refine K_bipush (v := 20) rfl (by decide) ?_
    refine K_ic_gt rfl (fun c13 => ?_) (fun c13 => ?_)
    · rw [if_pos c13] at h
      refine K_iload_n rfl 2 rfl ?_
      refine K_if_lt rfl (fun c14 => ?_) (fun c14 => ?_)
      · rw [if_pos c14] at h
        refine K_pick [0, 1, 4, 5] ?_
        exact L_Model_look_142   hk60 _ _ _ hM  h
      · rw [if_neg c14] at h
        refine K_iload rfl 5 rfl ?_
        refine K_iload rfl 3 rfl ?_
        refine K_ic_lt rfl (fun c15 => ?_) (fun c15 => ?_)
        · rw [if_pos c15] at h
          refine K_pick [0, 1, 4, 5] ?_
          exact L_Model_look_142   hk60 _ _ _ hM  h
        · rw [if_neg c15] at h
          refine K_goto rfl ?_
          refine K_pick [0, 1, 2, 3, 4] ?_
          exact L_Model_look_149   hk60 _ _ _ _ hM  h
    · rw [if_neg c13] at h
      refine K_aload_n rfl 0 rfl ?_
      refine K_gR rfl sh_436 hM rfl rfl 34 rfl r_436_34 ?_
      refine K_bipush (v := 21) rfl (by decide) ?_
      refine K_iload rfl 4 rfl ?_
      refine K_imul rfl ?_
      refine K_iload rfl 6 rfl ?_
      refine K_iadd rfl ?_
      obtain ⟨v16, ev16, h⟩ := Option.bind_eq_some_iff.mp h
      refine K_rd rfl sh_452 hM ev16 ?_
      refine K_iload rfl 5 rfl ?_
      refine K_ic_le rfl (fun c17 => ?_) (fun c17 => ?_)
      · rw [if_pos c17] at h
        refine K_iload rfl 5 rfl ?_
        refine K_pick [0, 1, 2, 3, 4, 6] ?_
        exact L_Model_look_120   hk60 (L_Model_look_77   hk60 n) _ _ _ _ _ _ hM  h
      · rw [if_neg c17] at h
        refine K_aload_n rfl 0 rfl ?_
        refine K_gR rfl sh_436 hM rfl rfl 34 rfl r_436_34 ?_
        refine K_bipush (v := 21) rfl (by decide) ?_
        refine K_iload rfl 4 rfl ?_
        refine K_imul rfl ?_
        refine K_iload rfl 6 rfl ?_
        refine K_iadd rfl ?_
        obtain ⟨v18, ev18, h⟩ := Option.bind_eq_some_iff.mp h
        refine K_rd rfl sh_452 hM ev18 ?_
        refine K_goto rfl ?_
        refine K_pick [0, 1, 2, 3, 4, 6] ?_
        exact L_Model_look_120   hk60 (L_Model_look_77   hk60 n) _ _ _ _ _ _ hM  h
set_option maxRecDepth 20000 in
theorem L_Model_look_60 {X : mX} {x1 : Int32} {x2 : Int32} {r : Int32 × mM}  : ∀ (n : Nat) (l3 : Int32) (l4 : Int32) (l5 : Int32) (M : mM), Fx M → f_Model_look_60 x1 x2  n l3 l4 l5 M = some r → KK X 8 237 60 [(0, .ref 436), (2, .int x2), (3, .int l3), (4, .int l4), (5, .int l5)] [] M (fun v M' => v = some (.int r.1) ∧ r.2 = M' ∧ Fx r.2)
  | 0, _, _, _, _ => fun _ h => by cases h
  | n + 1, l3, l4, l5, M => fun hM h => by
    unfold f_Model_look_60 at h
    refine K_iload rfl 4 rfl ?_
    refine K_aload_n rfl 0 rfl ?_
    refine K_gR rfl sh_436 hM rfl rfl 20 rfl r_436_20 ?_
    refine K_iconst (v := 4) rfl (by decide) ?_
    obtain ⟨v10, ev10, h⟩ := Option.bind_eq_some_iff.mp h
    refine K_rd rfl sh_446 hM ev10 ?_
    refine K_ic_ge rfl (fun c11 => ?_) (fun c11 => ?_)
    · rw [if_pos c11] at h
      refine K_iload_n rfl 1 rfl ?_
      refine K_if_ne rfl (fun c12 => ?_) (fun c12 => ?_)
      · rw [if_neg c12] at h
        refine K_iload rfl 3 rfl ?_
        obtain rfl := Option.some.inj h
        exact K_iret rfl (Or.inl rfl) ⟨rfl, rfl, hM⟩
      · rw [if_pos c12] at h
        refine K_iload_n rfl 2 rfl ?_
        refine K_goto rfl ?_
        obtain rfl := Option.some.inj h
        exact K_iret rfl (Or.inl rfl) ⟨rfl, rfl, hM⟩
    · rw [if_neg c11] at h
      refine K_iconst (v := 0) rfl (by decide) ?_
      refine K_istore rfl ?_
      refine K_iconst (v := 0) rfl (by decide) ?_
      refine K_istore rfl ?_
      refine K_pick [2, 3, 4, 5, 6, 1, 0] ?_
      exact L_Model_look_77   (L_Model_look_60    n) FUEL _ _ _ _ _ _ hM  h
set_option maxRecDepth 20000 in
theorem F_Model_look {X : mX} {x1 : Int32} {x2 : Int32} {M : mM} {r : Int32 × mM} (hM : Fx M)  (h : f_Model_look x1 x2 M = some r) : EV X (8 + 1) 237 [.ref 436, .int x1, .int x2] M (fun v M' => v = some (.int r.1) ∧ r.2 = M' ∧ Fx r.2) := by
    refine EV_of (lc := [(0, .ref 436), (1, .int x1), (2, .int x2)]) (Nat.le_of_ble_eq_true rfl) (by exact Nat.le_of_ble_eq_true rfl) (by exact List.forall_mem_cons.mpr ⟨rfl, List.forall_mem_cons.mpr ⟨rfl, List.forall_mem_cons.mpr ⟨rfl, fun _ h => absurd h List.not_mem_nil⟩⟩⟩) ?_
    unfold f_Model_look at h
    refine K_aload_n rfl 0 rfl ?_
    obtain ⟨r1, er1, h⟩ := Option.bind_eq_some_iff.mp h
    refine K_cV [] [] rfl rfl (Nat.le_of_ble_eq_true rfl) (Nat.le_of_ble_eq_true rfl) sh_436 hM rfl (EV_le (Nat.le_of_ble_eq_true rfl) (F_Model_isYard hM  er1)) (fun v' M' hq => ?_)
    obtain ⟨rfl, rfl, hr1⟩ := hq
    refine K_if_eq rfl (fun c2 => ?_) (fun c2 => ?_)
    · rw [if_pos c2] at h
      refine K_iconst (v := (-1)) rfl (by decide) ?_
      obtain rfl := Option.some.inj h
      exact K_iret rfl (Or.inl rfl) ⟨rfl, rfl, hr1⟩
    · rw [if_neg c2] at h
      refine K_iload_n rfl 1 rfl ?_
      refine K_i2l rfl ?_
      refine K_lconst (v := 0) rfl (by decide) ?_
      refine K_ldc2 (v := 99) rfl (by decide) ?_
      obtain ⟨r3, er3, h⟩ := Option.bind_eq_some_iff.mp h
      refine K_callS [.long (Int32.toInt64 x1), .long 0, .long 99] [] rfl rfl (Nat.le_of_ble_eq_true rfl) (Nat.le_of_ble_eq_true rfl) (EV_le (Nat.le_of_ble_eq_true rfl) (F_Model_in hr1  er3)) (fun v' M' hq => ?_)
      obtain ⟨rfl, rfl, hr3⟩ := hq
      refine K_if_eq rfl (fun c4 => ?_) (fun c4 => ?_)
      · rw [if_pos c4] at h
        refine K_iconst (v := (-1)) rfl (by decide) ?_
        obtain rfl := Option.some.inj h
        exact K_iret rfl (Or.inl rfl) ⟨rfl, rfl, hr3⟩
      · rw [if_neg c4] at h
        refine K_iload_n rfl 2 rfl ?_
        refine K_i2l rfl ?_
        refine K_lconst (v := 0) rfl (by decide) ?_
        refine K_lconst (v := 1) rfl (by decide) ?_
        obtain ⟨r5, er5, h⟩ := Option.bind_eq_some_iff.mp h
        refine K_callS [.long (Int32.toInt64 x2), .long 0, .long 1] [] rfl rfl (Nat.le_of_ble_eq_true rfl) (Nat.le_of_ble_eq_true rfl) (EV_le (Nat.le_of_ble_eq_true rfl) (F_Model_in hr3  er5)) (fun v' M' hq => ?_)
        obtain ⟨rfl, rfl, hr5⟩ := hq
        refine K_if_ne rfl (fun c6 => ?_) (fun c6 => ?_)
        · rw [if_neg c6] at h
          refine K_aload_n rfl 0 rfl ?_
          obtain ⟨M7, eM7, h⟩ := Option.bind_eq_some_iff.mp h
          refine K_cV [] [] rfl rfl (Nat.le_of_ble_eq_true rfl) (Nat.le_of_ble_eq_true rfl) sh_436 hr5 rfl (EV_le (Nat.le_of_ble_eq_true rfl) (F_Model_gathersFit hr5  eM7)) (fun v' M' hq => ?_)
          obtain ⟨rfl, rfl, hM7⟩ := hq
          refine K_aload_n rfl 0 rfl ?_
          refine K_gI rfl sh_436 hM7 rfl rfl 33 rfl ?_
          refine K_if_ne rfl (fun c8 => ?_) (fun c8 => ?_)
          · rw [if_neg c8] at h
            refine K_aload_n rfl 0 rfl ?_
            refine K_iload_n rfl 1 rfl ?_
            obtain ⟨M9, eM9, h⟩ := Option.bind_eq_some_iff.mp h
            refine K_cV [.int x1] [] rfl rfl (Nat.le_of_ble_eq_true rfl) (Nat.le_of_ble_eq_true rfl) sh_436 hM7 rfl (EV_le (Nat.le_of_ble_eq_true rfl) (F_Model_countsCells hM7  eM9)) (fun v' M' hq => ?_)
            obtain ⟨rfl, rfl, hM9⟩ := hq
            refine K_bipush (v := (-2)) rfl (by decide) ?_
            refine K_istore_n rfl ?_
            refine K_bipush (v := (-2)) rfl (by decide) ?_
            refine K_istore rfl ?_
            refine K_iconst (v := 0) rfl (by decide) ?_
            refine K_istore rfl ?_
            refine K_pick [3, 5, 2, 1, 0] ?_
            exact L_Model_look_60    FUEL _ _ _ _ hM9  h
          · rw [if_pos c8] at h
            refine K_bipush (v := (-2)) rfl (by decide) ?_
            obtain rfl := Option.some.inj h
            exact K_iret rfl (Or.inl rfl) ⟨rfl, rfl, hM7⟩
        · rw [if_pos c6] at h
          refine K_iconst (v := (-1)) rfl (by decide) ?_
          obtain rfl := Option.some.inj h
          exact K_iret rfl (Or.inl rfl) ⟨rfl, rfl, hr5⟩
set_option maxRecDepth 20000 in
theorem L_Model_war_71 {X : mX} {x1 : Int32} {k29 : Int32 → Int32 → mM → Option (Int32 × mM)} {k37 : Int32 → Int32 → Int32 → mM → Option (Int32 × mM)} {r : Int32 × mM}  (hk29 : ∀ (l2 : Int32) (l3 : Int32) (M : mM), Fx M → k29 l2 l3 M = some r → KK X 6 239 29 [(0, .ref 436), (1, .int x1), (2, .int l2), (3, .int l3)] [] M (fun v M' => v = some (.int r.1) ∧ r.2 = M' ∧ Fx r.2)) (hk37 : ∀ (l2 : Int32) (l3 : Int32) (l4 : Int32) (M : mM), Fx M → k37 l2 l3 l4 M = some r → KK X 6 239 37 [(0, .ref 436), (1, .int x1), (2, .int l2), (3, .int l3), (4, .int l4)] [] M (fun v M' => v = some (.int r.1) ∧ r.2 = M' ∧ Fx r.2)) (l3 : Int32) (l4 : Int32) (s0 : Int32) (s1 : Int32) (M : mM) (hM : Fx M)  (h : f_Model_war_71 x1 k29 k37 l3 l4 s0 s1 M = some r) : KK X 6 239 71 [(0, .ref 436), (1, .int x1), (3, .int l3), (4, .int l4)] [.int s1, .int s0] M (fun v M' => v = some (.int r.1) ∧ r.2 = M' ∧ Fx r.2) := by
    unfold f_Model_war_71 at h
    refine K_iadd rfl ?_
    refine K_istore_n rfl ?_
    refine K_iinc (y := (l4 + 1)) rfl 4 rfl rfl ?_
    refine K_goto rfl ?_
    refine K_pick [2, 3, 1, 4, 0] ?_
    exact hk37 _ _ _ _ hM  h
set_option maxRecDepth 20000 in
theorem L_Model_war_37 {X : mX} {x1 : Int32} {k29 : Int32 → Int32 → mM → Option (Int32 × mM)} {r : Int32 × mM}  (hk29 : ∀ (l2 : Int32) (l3 : Int32) (M : mM), Fx M → k29 l2 l3 M = some r → KK X 6 239 29 [(0, .ref 436), (1, .int x1), (2, .int l2), (3, .int l3)] [] M (fun v M' => v = some (.int r.1) ∧ r.2 = M' ∧ Fx r.2)) : ∀ (n : Nat) (l2 : Int32) (l3 : Int32) (l4 : Int32) (M : mM), Fx M → f_Model_war_37 x1 k29 n l2 l3 l4 M = some r → KK X 6 239 37 [(0, .ref 436), (1, .int x1), (2, .int l2), (3, .int l3), (4, .int l4)] [] M (fun v M' => v = some (.int r.1) ∧ r.2 = M' ∧ Fx r.2)
  | 0, _, _, _, _ => fun _ h => by cases h
  | n + 1, l2, l3, l4, M => fun hM h => by
    unfold f_Model_war_37 at h
    refine K_iload rfl 4 rfl ?_
    refine K_aload_n rfl 0 rfl ?_
    refine K_gR rfl sh_436 hM rfl rfl 20 rfl r_436_20 ?_
    refine K_iconst (v := 0) rfl (by decide) ?_
    obtain ⟨v8, ev8, h⟩ := Option.bind_eq_some_iff.mp h
    refine K_rd rfl sh_446 hM ev8 ?_
    refine K_ic_ge rfl (fun c9 => ?_) (fun c9 => ?_)
    · rw [if_pos c9] at h
      refine K_aload_n rfl 0 rfl ?_
      obtain ⟨r10, er10, h⟩ := Option.bind_eq_some_iff.mp h
      refine K_cV [] [] rfl rfl (Nat.le_of_ble_eq_true rfl) (Nat.le_of_ble_eq_true rfl) sh_436 hM rfl (EV_le (Nat.le_of_ble_eq_true rfl) (F_Model_passes hM  er10)) (fun v' M' hq => ?_)
      obtain ⟨rfl, rfl, hr10⟩ := hq
      refine K_pop rfl rfl ?_
      refine K_iinc (y := (l3 + 1)) rfl 3 rfl rfl ?_
      refine K_goto rfl ?_
      refine K_pick [1, 2, 3, 0] ?_
      exact hk29 _ _ _ hr10  h
    · rw [if_neg c9] at h
      refine K_iload_n rfl 2 rfl ?_
      refine K_aload_n rfl 0 rfl ?_
      refine K_iload rfl 4 rfl ?_
      refine K_aload_n rfl 0 rfl ?_
      refine K_gR rfl sh_436 hM rfl rfl 20 rfl r_436_20 ?_
      refine K_iconst (v := 1) rfl (by decide) ?_
      obtain ⟨v11, ev11, h⟩ := Option.bind_eq_some_iff.mp h
      refine K_rd rfl sh_446 hM ev11 ?_
      refine K_iconst (v := 1) rfl (by decide) ?_
      refine K_isub rfl ?_
      obtain ⟨r12, er12, h⟩ := Option.bind_eq_some_iff.mp h
      refine K_cV [.int l4, .int (v11 - 1)] [.int l2] rfl rfl (Nat.le_of_ble_eq_true rfl) (Nat.le_of_ble_eq_true rfl) sh_436 hM rfl (EV_le (Nat.le_of_ble_eq_true rfl) (F_Model_graveAt hM  er12)) (fun v' M' hq => ?_)
      obtain ⟨rfl, rfl, hr12⟩ := hq
      refine K_if_ge rfl (fun c13 => ?_) (fun c13 => ?_)
      · rw [if_pos c13] at h
        refine K_iconst (v := 0) rfl (by decide) ?_
        refine K_pick [0, 1, 3, 4] ?_
        exact L_Model_war_71   hk29 (L_Model_war_37   hk29 n) _ _ _ _ _ hr12  h
      · rw [if_neg c13] at h
        refine K_iconst (v := 1) rfl (by decide) ?_
        refine K_goto rfl ?_
        refine K_pick [0, 1, 3, 4] ?_
        exact L_Model_war_71   hk29 (L_Model_war_37   hk29 n) _ _ _ _ _ hr12  h
set_option maxRecDepth 20000 in
theorem L_Model_war_29 {X : mX} {x1 : Int32} {r : Int32 × mM}  : ∀ (n : Nat) (l2 : Int32) (l3 : Int32) (M : mM), Fx M → f_Model_war_29 x1  n l2 l3 M = some r → KK X 6 239 29 [(0, .ref 436), (1, .int x1), (2, .int l2), (3, .int l3)] [] M (fun v M' => v = some (.int r.1) ∧ r.2 = M' ∧ Fx r.2)
  | 0, _, _, _ => fun _ h => by cases h
  | n + 1, l2, l3, M => fun hM h => by
    unfold f_Model_war_29 at h
    refine K_iload_n rfl 3 rfl ?_
    refine K_iload_n rfl 1 rfl ?_
    refine K_ic_ge rfl (fun c6 => ?_) (fun c6 => ?_)
    · rw [if_pos c6] at h
      refine K_aload_n rfl 0 rfl ?_
      obtain ⟨M7, eM7, h⟩ := Option.bind_eq_some_iff.mp h
      refine K_cV [] [] rfl rfl (Nat.le_of_ble_eq_true rfl) (Nat.le_of_ble_eq_true rfl) sh_436 hM rfl (EV_le (Nat.le_of_ble_eq_true rfl) (F_Model_laysBack hM  eM7)) (fun v' M' hq => ?_)
      obtain ⟨rfl, rfl, hM7⟩ := hq
      refine K_iload_n rfl 2 rfl ?_
      obtain rfl := Option.some.inj h
      exact K_iret rfl (Or.inl rfl) ⟨rfl, rfl, hM7⟩
    · rw [if_neg c6] at h
      refine K_iconst (v := 0) rfl (by decide) ?_
      refine K_istore rfl ?_
      refine K_pick [1, 2, 3, 4, 0] ?_
      exact L_Model_war_37   (L_Model_war_29    n) FUEL _ _ _ _ hM  h
set_option maxRecDepth 20000 in
theorem F_Model_war {X : mX} {x1 : Int32} {M : mM} {r : Int32 × mM} (hM : Fx M)  (h : f_Model_war x1 M = some r) : EV X (6 + 1) 239 [.ref 436, .int x1] M (fun v M' => v = some (.int r.1) ∧ r.2 = M' ∧ Fx r.2) := by
    refine EV_of (lc := [(0, .ref 436), (1, .int x1)]) (Nat.le_of_ble_eq_true rfl) (by exact Nat.le_of_ble_eq_true rfl) (by exact List.forall_mem_cons.mpr ⟨rfl, List.forall_mem_cons.mpr ⟨rfl, fun _ h => absurd h List.not_mem_nil⟩⟩) ?_
    unfold f_Model_war at h
    refine K_aload_n rfl 0 rfl ?_
    obtain ⟨r1, er1, h⟩ := Option.bind_eq_some_iff.mp h
    refine K_cV [] [] rfl rfl (Nat.le_of_ble_eq_true rfl) (Nat.le_of_ble_eq_true rfl) sh_436 hM rfl (EV_le (Nat.le_of_ble_eq_true rfl) (F_Model_isYard hM  er1)) (fun v' M' hq => ?_)
    obtain ⟨rfl, rfl, hr1⟩ := hq
    refine K_if_eq rfl (fun c2 => ?_) (fun c2 => ?_)
    · rw [if_pos c2] at h
      refine K_iconst (v := (-1)) rfl (by decide) ?_
      obtain rfl := Option.some.inj h
      exact K_iret rfl (Or.inl rfl) ⟨rfl, rfl, hr1⟩
    · rw [if_neg c2] at h
      refine K_iload_n rfl 1 rfl ?_
      refine K_i2l rfl ?_
      refine K_lconst (v := 1) rfl (by decide) ?_
      refine K_ldc2 (v := 50) rfl (by decide) ?_
      obtain ⟨r3, er3, h⟩ := Option.bind_eq_some_iff.mp h
      refine K_callS [.long (Int32.toInt64 x1), .long 1, .long 50] [] rfl rfl (Nat.le_of_ble_eq_true rfl) (Nat.le_of_ble_eq_true rfl) (EV_le (Nat.le_of_ble_eq_true rfl) (F_Model_in hr1  er3)) (fun v' M' hq => ?_)
      obtain ⟨rfl, rfl, hr3⟩ := hq
      refine K_if_ne rfl (fun c4 => ?_) (fun c4 => ?_)
      · rw [if_neg c4] at h
        refine K_aload_n rfl 0 rfl ?_
        obtain ⟨M5, eM5, h⟩ := Option.bind_eq_some_iff.mp h
        refine K_cV [] [] rfl rfl (Nat.le_of_ble_eq_true rfl) (Nat.le_of_ble_eq_true rfl) sh_436 hr3 rfl (EV_le (Nat.le_of_ble_eq_true rfl) (F_Model_keeps hr3  eM5)) (fun v' M' hq => ?_)
        obtain ⟨rfl, rfl, hM5⟩ := hq
        refine K_iconst (v := 0) rfl (by decide) ?_
        refine K_istore_n rfl ?_
        refine K_iconst (v := 0) rfl (by decide) ?_
        refine K_istore_n rfl ?_
        refine K_pick [2, 3, 1, 0] ?_
        exact L_Model_war_29    FUEL _ _ _ hM5  h
      · rw [if_pos c4] at h
        refine K_iconst (v := (-1)) rfl (by decide) ?_
        obtain rfl := Option.some.inj h
        exact K_iret rfl (Or.inl rfl) ⟨rfl, rfl, hr3⟩
set_option maxRecDepth 20000 in
theorem L_Model_order_74 {X : mX} {x1 : Int32} {r : Int32 × mM}  (l2 : Int32) (M : mM) (hM : Fx M)  (h : f_Model_order_74 x1  l2 M = some r) : KK X 6 240 74 [(0, .ref 436), (2, .int l2)] [] M (fun v M' => v = some (.int r.1) ∧ r.2 = M' ∧ Fx r.2) := by
    unfold f_Model_order_74 at h
    refine K_aload_n rfl 0 rfl ?_
    obtain ⟨M6, eM6, h⟩ := Option.bind_eq_some_iff.mp h
    refine K_cV [] [] rfl rfl (Nat.le_of_ble_eq_true rfl) (Nat.le_of_ble_eq_true rfl) sh_436 hM rfl (EV_le (Nat.le_of_ble_eq_true rfl) (F_Model_laysBack hM  eM6)) (fun v' M' hq => ?_)
    obtain ⟨rfl, rfl, hM6⟩ := hq
    refine K_iload_n rfl 1 rfl ?_
    obtain rfl := Option.some.inj h
    exact K_iret rfl (Or.inl rfl) ⟨rfl, rfl, hM6⟩
set_option maxRecDepth 20000 in
theorem L_Model_order_61 {X : mX} {x1 : Int32} {k25 : Int32 → Int32 → Int32 → mM → Option (Int32 × mM)} {r : Int32 × mM}  (hk25 : ∀ (l2 : Int32) (l3 : Int32) (l4 : Int32) (M : mM), Fx M → k25 l2 l3 l4 M = some r → KK X 6 240 25 [(0, .ref 436), (1, .int x1), (2, .int l2), (3, .int l3), (4, .int l4)] [] M (fun v M' => v = some (.int r.1) ∧ r.2 = M' ∧ Fx r.2)) (l2 : Int32) (l3 : Int32) (l4 : Int32) (M : mM) (hM : Fx M)  (h : f_Model_order_61 x1 k25 l2 l3 l4 M = some r) : KK X 6 240 61 [(0, .ref 436), (1, .int x1), (2, .int l2), (3, .int l3), (4, .int l4)] [] M (fun v M' => v = some (.int r.1) ∧ r.2 = M' ∧ Fx r.2) := by
    unfold f_Model_order_61 at h
    refine K_iload_n rfl 3 rfl ?_
    refine K_aload_n rfl 0 rfl ?_
    refine K_gI rfl sh_436 hM rfl rfl 24 rfl ?_
    refine K_iadd rfl ?_
    refine K_istore_n rfl ?_
    refine K_iinc (y := (l4 + 1)) rfl 4 rfl rfl ?_
    refine K_goto rfl ?_
    refine K_pick [2, 3, 4, 1, 0] ?_
    exact hk25 _ _ _ _ hM  h
set_option maxRecDepth 20000 in
theorem L_Model_order_25 {X : mX} {x1 : Int32} {r : Int32 × mM}  : ∀ (n : Nat) (l2 : Int32) (l3 : Int32) (l4 : Int32) (M : mM), Fx M → f_Model_order_25 x1  n l2 l3 l4 M = some r → KK X 6 240 25 [(0, .ref 436), (1, .int x1), (2, .int l2), (3, .int l3), (4, .int l4)] [] M (fun v M' => v = some (.int r.1) ∧ r.2 = M' ∧ Fx r.2)
  | 0, _, _, _, _ => fun _ h => by cases h
  | n + 1, l2, l3, l4, M => fun hM h => by
    unfold f_Model_order_25 at h
    refine K_iload rfl 4 rfl ?_
    refine K_sipush (v := 200) rfl (by decide) ?_
    refine K_ic_ge rfl (fun c5 => ?_) (fun c5 => ?_)
    · rw [if_pos c5] at h
      refine K_pick [0, 2] ?_
      exact L_Model_order_74    _ _ hM  h
    · rw [if_neg c5] at h
      refine K_iload_n rfl 2 rfl ?_
      refine K_if_ge rfl (fun c7 => ?_) (fun c7 => ?_)
      · rw [if_pos c7] at h
        refine K_pick [0, 2] ?_
        exact L_Model_order_74    _ _ hM  h
      · rw [if_neg c7] at h
        refine K_aload_n rfl 0 rfl ?_
        obtain ⟨r8, er8, h⟩ := Option.bind_eq_some_iff.mp h
        refine K_cV [] [] rfl rfl (Nat.le_of_ble_eq_true rfl) (Nat.le_of_ble_eq_true rfl) sh_436 hM rfl (EV_le (Nat.le_of_ble_eq_true rfl) (F_Model_passes hM  er8)) (fun v' M' hq => ?_)
        obtain ⟨rfl, rfl, hr8⟩ := hq
        refine K_pop rfl rfl ?_
        refine K_iload_n rfl 1 rfl ?_
        refine K_iload_n rfl 3 rfl ?_
        refine K_aload_n rfl 0 rfl ?_
        refine K_gI rfl sh_436 hr8 rfl rfl 24 rfl ?_
        refine K_iadd rfl ?_
        refine K_ic_ge rfl (fun c9 => ?_) (fun c9 => ?_)
        · rw [if_pos c9] at h
          refine K_pick [0, 1, 2, 3, 4] ?_
          exact L_Model_order_61   (L_Model_order_25    n) _ _ _ _ hr8  h
        · rw [if_neg c9] at h
          refine K_aload_n rfl 0 rfl ?_
          refine K_gR rfl sh_436 hr8 rfl rfl 23 rfl r_436_23 ?_
          refine K_iload_n rfl 1 rfl ?_
          refine K_iload_n rfl 3 rfl ?_
          refine K_isub rfl ?_
          obtain ⟨v10, ev10, h⟩ := Option.bind_eq_some_iff.mp h
          refine K_rd rfl sh_447 hr8 ev10 ?_
          refine K_istore_n rfl ?_
          refine K_pick [1, 2, 0, 3, 4] ?_
          exact L_Model_order_61   (L_Model_order_25    n) _ _ _ _ hr8  h
set_option maxRecDepth 20000 in
theorem F_Model_order {X : mX} {x1 : Int32} {M : mM} {r : Int32 × mM} (hM : Fx M)  (h : f_Model_order x1 M = some r) : EV X (6 + 1) 240 [.ref 436, .int x1] M (fun v M' => v = some (.int r.1) ∧ r.2 = M' ∧ Fx r.2) := by
    refine EV_of (lc := [(0, .ref 436), (1, .int x1)]) (Nat.le_of_ble_eq_true rfl) (by exact Nat.le_of_ble_eq_true rfl) (by exact List.forall_mem_cons.mpr ⟨rfl, List.forall_mem_cons.mpr ⟨rfl, fun _ h => absurd h List.not_mem_nil⟩⟩) ?_
    unfold f_Model_order at h
    refine K_aload_n rfl 0 rfl ?_
    obtain ⟨r1, er1, h⟩ := Option.bind_eq_some_iff.mp h
    refine K_cV [] [] rfl rfl (Nat.le_of_ble_eq_true rfl) (Nat.le_of_ble_eq_true rfl) sh_436 hM rfl (EV_le (Nat.le_of_ble_eq_true rfl) (F_Model_isYard hM  er1)) (fun v' M' hq => ?_)
    obtain ⟨rfl, rfl, hr1⟩ := hq
    refine K_if_eq rfl (fun c2 => ?_) (fun c2 => ?_)
    · rw [if_pos c2] at h
      refine K_iconst (v := (-1)) rfl (by decide) ?_
      obtain rfl := Option.some.inj h
      exact K_iret rfl (Or.inl rfl) ⟨rfl, rfl, hr1⟩
    · rw [if_neg c2] at h
      refine K_iload_n rfl 1 rfl ?_
      refine K_if_ge rfl (fun c3 => ?_) (fun c3 => ?_)
      · rw [if_pos c3] at h
        refine K_aload_n rfl 0 rfl ?_
        obtain ⟨M4, eM4, h⟩ := Option.bind_eq_some_iff.mp h
        refine K_cV [] [] rfl rfl (Nat.le_of_ble_eq_true rfl) (Nat.le_of_ble_eq_true rfl) sh_436 hr1 rfl (EV_le (Nat.le_of_ble_eq_true rfl) (F_Model_keeps hr1  eM4)) (fun v' M' hq => ?_)
        obtain ⟨rfl, rfl, hM4⟩ := hq
        refine K_bipush (v := (-2)) rfl (by decide) ?_
        refine K_istore_n rfl ?_
        refine K_iconst (v := 0) rfl (by decide) ?_
        refine K_istore_n rfl ?_
        refine K_iconst (v := 0) rfl (by decide) ?_
        refine K_istore rfl ?_
        refine K_pick [3, 4, 2, 1, 0] ?_
        exact L_Model_order_25    FUEL _ _ _ _ hM4  h
      · rw [if_neg c3] at h
        refine K_iconst (v := (-1)) rfl (by decide) ?_
        obtain rfl := Option.some.inj h
        exact K_iret rfl (Or.inl rfl) ⟨rfl, rfl, hr1⟩
set_option maxRecDepth 20000 in
theorem F_Model_seed {X : mX} {x1 : Int32} {M : mM} {r : Int32 × mM} (hM : Fx M)  (h : f_Model_seed x1 M = some r) : EV X (0 + 1) 241 [.ref 436, .int x1] M (fun v M' => v = some (.int r.1) ∧ r.2 = M' ∧ Fx r.2) := by
    refine EV_of (lc := [(0, .ref 436), (1, .int x1)]) (Nat.le_of_ble_eq_true rfl) (by exact Nat.le_of_ble_eq_true rfl) (by exact List.forall_mem_cons.mpr ⟨rfl, List.forall_mem_cons.mpr ⟨rfl, fun _ h => absurd h List.not_mem_nil⟩⟩) ?_
    unfold f_Model_seed at h
    refine K_iload_n rfl 1 rfl ?_
    refine K_if_ge rfl (fun c1 => ?_) (fun c1 => ?_)
    · rw [if_pos c1] at h
      refine K_aload_n rfl 0 rfl ?_
      refine K_gI rfl sh_436 hM rfl rfl 22 rfl ?_
      refine K_istore_n rfl ?_
      refine K_aload_n rfl 1 rfl ?_
      refine K_iload_n rfl 2 rfl ?_
      obtain ⟨M2, eM2, h⟩ := Option.bind_eq_some_iff.mp h
      refine K_pI rfl sh_436 hM rfl rfl 22 rfl eM2 (fun hM2 => ?_)
      refine K_iload_n rfl 0 rfl ?_
      obtain rfl := Option.some.inj h
      exact K_iret rfl (Or.inl rfl) ⟨rfl, rfl, hM2⟩
    · rw [if_neg c1] at h
      refine K_iconst (v := (-1)) rfl (by decide) ?_
      obtain rfl := Option.some.inj h
      exact K_iret rfl (Or.inl rfl) ⟨rfl, rfl, hM⟩
set_option maxRecDepth 20000 in
theorem F_Model_draw {X : mX} {x1 : Int32} {M : mM} {r : Int32 × mM} (hM : Fx M)  (h : f_Model_draw x1 M = some r) : EV X (0 + 1) 243 [.ref 436, .int x1] M (fun v M' => v = some (.int r.1) ∧ r.2 = M' ∧ Fx r.2) := by
    refine EV_of (lc := [(0, .ref 436), (1, .int x1)]) (Nat.le_of_ble_eq_true rfl) (by exact Nat.le_of_ble_eq_true rfl) (by exact List.forall_mem_cons.mpr ⟨rfl, List.forall_mem_cons.mpr ⟨rfl, fun _ h => absurd h List.not_mem_nil⟩⟩) ?_
    unfold f_Model_draw at h
    refine K_aload_n rfl 0 rfl ?_
    refine K_aload_n rfl 0 rfl ?_
    refine K_gL rfl sh_436 hM rfl rfl 35 rfl ?_
    refine K_ldc2 (v := 1103515245) rfl (by decide) ?_
    refine K_lmul rfl ?_
    refine K_ldc2 (v := 12345) rfl (by decide) ?_
    refine K_ladd rfl ?_
    refine K_ldc2 (v := 2147483648) rfl (by decide) ?_
    refine K_lrem rfl (by decide) ?_
    obtain ⟨M1, eM1, h⟩ := Option.bind_eq_some_iff.mp h
    refine K_pL rfl sh_436 hM rfl rfl 35 rfl eM1 (fun hM1 => ?_)
    refine K_aload_n rfl 0 rfl ?_
    refine K_gL rfl sh_436 hM1 rfl rfl 35 rfl ?_
    refine K_ldc2 (v := 65536) rfl (by decide) ?_
    refine K_ldiv rfl (by decide) ?_
    refine K_iload_n rfl 1 rfl ?_
    refine K_i2l rfl ?_
    refine K_lrem rfl (fun z => by rw [if_pos z] at h; cases h) ?_
    rw [if_neg (fun z : (Int32.toInt64 x1) = 0 => by rw [if_pos z] at h; cases h)] at h
    refine K_l2i rfl ?_
    obtain rfl := Option.some.inj h
    exact K_iret rfl (Or.inl rfl) ⟨rfl, rfl, hM1⟩
set_option maxRecDepth 20000 in
theorem L_Model_drawn_109 {X : mX} {x1 : Int32} {x2 : Int32} {x3 : Int32} {x4 : Int32} {k78 : Int32 → Int32 → Int32 → mM → Option (Int32 × mM)} {k87 : Int32 → Int32 → Int32 → Int32 → mM → Option (Int32 × mM)} {r : Int32 × mM}  (hk78 : ∀ (l5 : Int32) (l6 : Int32) (l7 : Int32) (M : mM), Fx M → k78 l5 l6 l7 M = some r → KK X 6 242 78 [(0, .ref 436), (1, .int x1), (2, .int x2), (3, .int x3), (4, .int x4), (5, .int l5), (6, .int l6), (7, .int l7)] [] M (fun v M' => v = some (.int r.1) ∧ r.2 = M' ∧ Fx r.2)) (hk87 : ∀ (l5 : Int32) (l6 : Int32) (l7 : Int32) (l8 : Int32) (M : mM), Fx M → k87 l5 l6 l7 l8 M = some r → KK X 6 242 87 [(0, .ref 436), (1, .int x1), (2, .int x2), (3, .int x3), (4, .int x4), (5, .int l5), (6, .int l6), (7, .int l7), (8, .int l8)] [] M (fun v M' => v = some (.int r.1) ∧ r.2 = M' ∧ Fx r.2)) (l5 : Int32) (l6 : Int32) (l7 : Int32) (l8 : Int32) (s1 : Int32) (M : mM) (hM : Fx M)  (h : f_Model_drawn_109 x1 x2 x3 x4 k78 k87 l5 l6 l7 l8 s1 M = some r) : KK X 6 242 109 [(0, .ref 436), (1, .int x1), (2, .int x2), (3, .int x3), (4, .int x4), (5, .int l5), (6, .int l6), (7, .int l7), (8, .int l8)] [.int s1, .ref 436] M (fun v M' => v = some (.int r.1) ∧ r.2 = M' ∧ Fx r.2) := by
    unfold f_Model_drawn_109 at h
    obtain ⟨M20, eM20, h⟩ := Option.bind_eq_some_iff.mp h
    refine K_pZ rfl sh_436 hM rfl rfl 26 rfl eM20 (fun hM20 => ?_)
    refine K_iload rfl 5 rfl ?_
    refine K_aload_n rfl 0 rfl ?_
    obtain ⟨r21, er21, h⟩ := Option.bind_eq_some_iff.mp h
    refine K_cV [] [.int l5] rfl rfl (Nat.le_of_ble_eq_true rfl) (Nat.le_of_ble_eq_true rfl) sh_436 hM20 rfl (EV_le (Nat.le_of_ble_eq_true rfl) (F_Model_passes hM20  er21)) (fun v' M' hq => ?_)
    obtain ⟨rfl, rfl, hr21⟩ := hq
    refine K_iadd rfl ?_
    refine K_istore rfl ?_
    refine K_iload rfl 6 rfl ?_
    refine K_aload_n rfl 1 rfl ?_
    refine K_gI rfl sh_436 hr21 rfl rfl 25 rfl ?_
    refine K_iadd rfl ?_
    refine K_istore rfl ?_
    refine K_iinc (y := (l8 + 1)) rfl 8 rfl rfl ?_
    refine K_goto rfl ?_
    refine K_pick [3, 4, 5, 6, 7, 2, 1, 8, 0] ?_
    exact hk87 _ _ _ _ _ hr21  h
set_option maxRecDepth 20000 in
theorem L_Model_drawn_87 {X : mX} {x1 : Int32} {x2 : Int32} {x3 : Int32} {x4 : Int32} {k78 : Int32 → Int32 → Int32 → mM → Option (Int32 × mM)} {r : Int32 × mM}  (hk78 : ∀ (l5 : Int32) (l6 : Int32) (l7 : Int32) (M : mM), Fx M → k78 l5 l6 l7 M = some r → KK X 6 242 78 [(0, .ref 436), (1, .int x1), (2, .int x2), (3, .int x3), (4, .int x4), (5, .int l5), (6, .int l6), (7, .int l7)] [] M (fun v M' => v = some (.int r.1) ∧ r.2 = M' ∧ Fx r.2)) : ∀ (n : Nat) (l5 : Int32) (l6 : Int32) (l7 : Int32) (l8 : Int32) (M : mM), Fx M → f_Model_drawn_87 x1 x2 x3 x4 k78 n l5 l6 l7 l8 M = some r → KK X 6 242 87 [(0, .ref 436), (1, .int x1), (2, .int x2), (3, .int x3), (4, .int x4), (5, .int l5), (6, .int l6), (7, .int l7), (8, .int l8)] [] M (fun v M' => v = some (.int r.1) ∧ r.2 = M' ∧ Fx r.2)
  | 0, _, _, _, _, _ => fun _ h => by cases h
  | n + 1, l5, l6, l7, l8, M => fun hM h => by
    unfold f_Model_drawn_87 at h
    refine K_iload rfl 8 rfl ?_
    refine K_iload_n rfl 2 rfl ?_
    refine K_ic_ge rfl (fun c16 => ?_) (fun c16 => ?_)
    · rw [if_pos c16] at h
      refine K_aload_n rfl 0 rfl ?_
      obtain ⟨M17, eM17, h⟩ := Option.bind_eq_some_iff.mp h
      refine K_cV [] [] rfl rfl (Nat.le_of_ble_eq_true rfl) (Nat.le_of_ble_eq_true rfl) sh_436 hM rfl (EV_le (Nat.le_of_ble_eq_true rfl) (F_Model_laysBack hM  eM17)) (fun v' M' hq => ?_)
      obtain ⟨rfl, rfl, hM17⟩ := hq
      refine K_iinc (y := (l7 + 1)) rfl 7 rfl rfl ?_
      refine K_goto rfl ?_
      refine K_pick [1, 2, 3, 4, 5, 6, 7, 0] ?_
      exact hk78 _ _ _ _ hM17  h
    · rw [if_neg c16] at h
      refine K_aload_n rfl 0 rfl ?_
      refine K_aload_n rfl 0 rfl ?_
      refine K_bipush (v := 100) rfl (by decide) ?_
      obtain ⟨r18, er18, h⟩ := Option.bind_eq_some_iff.mp h
      refine K_cV [.int 100] [.ref 436] rfl rfl (Nat.le_of_ble_eq_true rfl) (Nat.le_of_ble_eq_true rfl) sh_436 hM rfl (EV_le (Nat.le_of_ble_eq_true rfl) (F_Model_draw hM  er18)) (fun v' M' hq => ?_)
      obtain ⟨rfl, rfl, hr18⟩ := hq
      refine K_iload_n rfl 3 rfl ?_
      refine K_ic_ge rfl (fun c19 => ?_) (fun c19 => ?_)
      · rw [if_pos c19] at h
        refine K_iconst (v := 0) rfl (by decide) ?_
        refine K_pick [0, 1, 2, 3, 4, 5, 6, 7, 8] ?_
        exact L_Model_drawn_109   hk78 (L_Model_drawn_87   hk78 n) _ _ _ _ _ _ hr18  h
      · rw [if_neg c19] at h
        refine K_iconst (v := 1) rfl (by decide) ?_
        refine K_goto rfl ?_
        refine K_pick [0, 1, 2, 3, 4, 5, 6, 7, 8] ?_
        exact L_Model_drawn_109   hk78 (L_Model_drawn_87   hk78 n) _ _ _ _ _ _ hr18  h
set_option maxRecDepth 20000 in
theorem L_Model_drawn_78 {X : mX} {x1 : Int32} {x2 : Int32} {x3 : Int32} {x4 : Int32} {r : Int32 × mM}  : ∀ (n : Nat) (l5 : Int32) (l6 : Int32) (l7 : Int32) (M : mM), Fx M → f_Model_drawn_78 x1 x2 x3 x4  n l5 l6 l7 M = some r → KK X 6 242 78 [(0, .ref 436), (1, .int x1), (2, .int x2), (3, .int x3), (4, .int x4), (5, .int l5), (6, .int l6), (7, .int l7)] [] M (fun v M' => v = some (.int r.1) ∧ r.2 = M' ∧ Fx r.2)
  | 0, _, _, _, _ => fun _ h => by cases h
  | n + 1, l5, l6, l7, M => fun hM h => by
    unfold f_Model_drawn_78 at h
    refine K_iload rfl 7 rfl ?_
    refine K_iload_n rfl 1 rfl ?_
    refine K_ic_ge rfl (fun c13 => ?_) (fun c13 => ?_)
    · rw [if_pos c13] at h
      refine K_aload_n rfl 0 rfl ?_
      refine K_iconst (v := 0) rfl (by decide) ?_
      obtain ⟨M14, eM14, h⟩ := Option.bind_eq_some_iff.mp h
      refine K_pZ rfl sh_436 hM rfl rfl 26 rfl eM14 (fun hM14 => ?_)
      refine K_iload rfl 4 rfl ?_
      refine K_if_ne rfl (fun c15 => ?_) (fun c15 => ?_)
      · rw [if_neg c15] at h
        refine K_iload rfl 6 rfl ?_
        obtain rfl := Option.some.inj h
        exact K_iret rfl (Or.inl rfl) ⟨rfl, rfl, hM14⟩
      · rw [if_pos c15] at h
        refine K_iload rfl 5 rfl ?_
        refine K_goto rfl ?_
        obtain rfl := Option.some.inj h
        exact K_iret rfl (Or.inl rfl) ⟨rfl, rfl, hM14⟩
    · rw [if_neg c13] at h
      refine K_iconst (v := 0) rfl (by decide) ?_
      refine K_istore rfl ?_
      refine K_pick [1, 2, 3, 4, 5, 6, 7, 8, 0] ?_
      exact L_Model_drawn_87   (L_Model_drawn_78    n) FUEL _ _ _ _ _ hM  h
set_option maxRecDepth 20000 in
theorem F_Model_drawn {X : mX} {x1 : Int32} {x2 : Int32} {x3 : Int32} {x4 : Int32} {M : mM} {r : Int32 × mM} (hM : Fx M)  (h : f_Model_drawn x1 x2 x3 x4 M = some r) : EV X (6 + 1) 242 [.ref 436, .int x1, .int x2, .int x3, .int x4] M (fun v M' => v = some (.int r.1) ∧ r.2 = M' ∧ Fx r.2) := by
    refine EV_of (lc := [(0, .ref 436), (1, .int x1), (2, .int x2), (3, .int x3), (4, .int x4)]) (Nat.le_of_ble_eq_true rfl) (by exact Nat.le_of_ble_eq_true rfl) (by exact List.forall_mem_cons.mpr ⟨rfl, List.forall_mem_cons.mpr ⟨rfl, List.forall_mem_cons.mpr ⟨rfl, List.forall_mem_cons.mpr ⟨rfl, List.forall_mem_cons.mpr ⟨rfl, fun _ h => absurd h List.not_mem_nil⟩⟩⟩⟩⟩) ?_
    unfold f_Model_drawn at h
    refine K_aload_n rfl 0 rfl ?_
    obtain ⟨r1, er1, h⟩ := Option.bind_eq_some_iff.mp h
    refine K_cV [] [] rfl rfl (Nat.le_of_ble_eq_true rfl) (Nat.le_of_ble_eq_true rfl) sh_436 hM rfl (EV_le (Nat.le_of_ble_eq_true rfl) (F_Model_isYard hM  er1)) (fun v' M' hq => ?_)
    obtain ⟨rfl, rfl, hr1⟩ := hq
    refine K_if_eq rfl (fun c2 => ?_) (fun c2 => ?_)
    · rw [if_pos c2] at h
      refine K_iconst (v := (-1)) rfl (by decide) ?_
      obtain rfl := Option.some.inj h
      exact K_iret rfl (Or.inl rfl) ⟨rfl, rfl, hr1⟩
    · rw [if_neg c2] at h
      refine K_iload_n rfl 1 rfl ?_
      refine K_i2l rfl ?_
      refine K_lconst (v := 1) rfl (by decide) ?_
      refine K_ldc2 (v := 10) rfl (by decide) ?_
      obtain ⟨r3, er3, h⟩ := Option.bind_eq_some_iff.mp h
      refine K_callS [.long (Int32.toInt64 x1), .long 1, .long 10] [] rfl rfl (Nat.le_of_ble_eq_true rfl) (Nat.le_of_ble_eq_true rfl) (EV_le (Nat.le_of_ble_eq_true rfl) (F_Model_in hr1  er3)) (fun v' M' hq => ?_)
      obtain ⟨rfl, rfl, hr3⟩ := hq
      refine K_if_eq rfl (fun c4 => ?_) (fun c4 => ?_)
      · rw [if_pos c4] at h
        refine K_iconst (v := (-1)) rfl (by decide) ?_
        obtain rfl := Option.some.inj h
        exact K_iret rfl (Or.inl rfl) ⟨rfl, rfl, hr3⟩
      · rw [if_neg c4] at h
        refine K_iload_n rfl 2 rfl ?_
        refine K_i2l rfl ?_
        refine K_lconst (v := 1) rfl (by decide) ?_
        refine K_ldc2 (v := 60) rfl (by decide) ?_
        obtain ⟨r5, er5, h⟩ := Option.bind_eq_some_iff.mp h
        refine K_callS [.long (Int32.toInt64 x2), .long 1, .long 60] [] rfl rfl (Nat.le_of_ble_eq_true rfl) (Nat.le_of_ble_eq_true rfl) (EV_le (Nat.le_of_ble_eq_true rfl) (F_Model_in hr3  er5)) (fun v' M' hq => ?_)
        obtain ⟨rfl, rfl, hr5⟩ := hq
        refine K_if_eq rfl (fun c6 => ?_) (fun c6 => ?_)
        · rw [if_pos c6] at h
          refine K_iconst (v := (-1)) rfl (by decide) ?_
          obtain rfl := Option.some.inj h
          exact K_iret rfl (Or.inl rfl) ⟨rfl, rfl, hr5⟩
        · rw [if_neg c6] at h
          refine K_iload_n rfl 3 rfl ?_
          refine K_i2l rfl ?_
          refine K_lconst (v := 0) rfl (by decide) ?_
          refine K_ldc2 (v := 100) rfl (by decide) ?_
          obtain ⟨r7, er7, h⟩ := Option.bind_eq_some_iff.mp h
          refine K_callS [.long (Int32.toInt64 x3), .long 0, .long 100] [] rfl rfl (Nat.le_of_ble_eq_true rfl) (Nat.le_of_ble_eq_true rfl) (EV_le (Nat.le_of_ble_eq_true rfl) (F_Model_in hr5  er7)) (fun v' M' hq => ?_)
          obtain ⟨rfl, rfl, hr7⟩ := hq
          refine K_if_eq rfl (fun c8 => ?_) (fun c8 => ?_)
          · rw [if_pos c8] at h
            refine K_iconst (v := (-1)) rfl (by decide) ?_
            obtain rfl := Option.some.inj h
            exact K_iret rfl (Or.inl rfl) ⟨rfl, rfl, hr7⟩
          · rw [if_neg c8] at h
            refine K_iload rfl 4 rfl ?_
            refine K_i2l rfl ?_
            refine K_lconst (v := 0) rfl (by decide) ?_
            refine K_lconst (v := 1) rfl (by decide) ?_
            obtain ⟨r9, er9, h⟩ := Option.bind_eq_some_iff.mp h
            refine K_callS [.long (Int32.toInt64 x4), .long 0, .long 1] [] rfl rfl (Nat.le_of_ble_eq_true rfl) (Nat.le_of_ble_eq_true rfl) (EV_le (Nat.le_of_ble_eq_true rfl) (F_Model_in hr7  er9)) (fun v' M' hq => ?_)
            obtain ⟨rfl, rfl, hr9⟩ := hq
            refine K_if_ne rfl (fun c10 => ?_) (fun c10 => ?_)
            · rw [if_neg c10] at h
              refine K_aload_n rfl 0 rfl ?_
              refine K_aload_n rfl 0 rfl ?_
              refine K_gI rfl sh_436 hr9 rfl rfl 22 rfl ?_
              refine K_i2l rfl ?_
              obtain ⟨M11, eM11, h⟩ := Option.bind_eq_some_iff.mp h
              refine K_pL rfl sh_436 hr9 rfl rfl 35 rfl eM11 (fun hM11 => ?_)
              refine K_iconst (v := 0) rfl (by decide) ?_
              refine K_istore rfl ?_
              refine K_iconst (v := 0) rfl (by decide) ?_
              refine K_istore rfl ?_
              refine K_aload_n rfl 2 rfl ?_
              obtain ⟨M12, eM12, h⟩ := Option.bind_eq_some_iff.mp h
              refine K_cV [] [] rfl rfl (Nat.le_of_ble_eq_true rfl) (Nat.le_of_ble_eq_true rfl) sh_436 hM11 rfl (EV_le (Nat.le_of_ble_eq_true rfl) (F_Model_keeps hM11  eM12)) (fun v' M' hq => ?_)
              obtain ⟨rfl, rfl, hM12⟩ := hq
              refine K_iconst (v := 0) rfl (by decide) ?_
              refine K_istore rfl ?_
              refine K_pick [3, 4, 5, 6, 7, 2, 1, 0] ?_
              exact L_Model_drawn_78    FUEL _ _ _ _ hM12  h
            · rw [if_pos c10] at h
              refine K_iconst (v := (-1)) rfl (by decide) ?_
              obtain rfl := Option.some.inj h
              exact K_iret rfl (Or.inl rfl) ⟨rfl, rfl, hr9⟩
set_option maxRecDepth 20000 in
theorem L_Model_count_126 {X : mX} {x1 : Int32} {k99 : Int32 → Int32 → mM → Option (Int32 × mM)} {r : Int32 × mM}  (hk99 : ∀ (l2 : Int32) (l3 : Int32) (M : mM), Fx M → k99 l2 l3 M = some r → KK X 3 244 99 [(0, .ref 436), (2, .int l2), (3, .int l3)] [] M (fun v M' => v = some (.int r.1) ∧ r.2 = M' ∧ Fx r.2)) (l3 : Int32) (s0 : Int32) (s1 : Int32) (M : mM) (hM : Fx M)  (h : f_Model_count_126 x1 k99 l3 s0 s1 M = some r) : KK X 3 244 126 [(0, .ref 436), (3, .int l3)] [.int s1, .int s0] M (fun v M' => v = some (.int r.1) ∧ r.2 = M' ∧ Fx r.2) := by
    unfold f_Model_count_126 at h
    refine K_ior rfl ?_
    refine K_istore_n rfl ?_
    refine K_iinc (y := (l3 + 1)) rfl 2 rfl rfl ?_
    refine K_goto rfl ?_
    refine K_pick [2, 1, 0] ?_
    exact hk99 _ _ _ hM  h
set_option maxRecDepth 20000 in
theorem L_Model_count_99 {X : mX} {x1 : Int32} {r : Int32 × mM}  : ∀ (n : Nat) (l2 : Int32) (l3 : Int32) (M : mM), Fx M → f_Model_count_99 x1  n l2 l3 M = some r → KK X 3 244 99 [(0, .ref 436), (2, .int l2), (3, .int l3)] [] M (fun v M' => v = some (.int r.1) ∧ r.2 = M' ∧ Fx r.2)
  | 0, _, _, _ => fun _ h => by cases h
  | n + 1, l2, l3, M => fun hM h => by
    unfold f_Model_count_99 at h
    refine K_iload_n rfl 2 rfl ?_
    refine K_aload_n rfl 0 rfl ?_
    refine K_gR rfl sh_436 hM rfl rfl 20 rfl r_436_20 ?_
    refine K_iconst (v := 2) rfl (by decide) ?_
    obtain ⟨v13, ev13, h⟩ := Option.bind_eq_some_iff.mp h
    refine K_rd rfl sh_446 hM ev13 ?_
    refine K_ic_ge rfl (fun c14 => ?_) (fun c14 => ?_)
    · rw [if_pos c14] at h
      refine K_iload_n rfl 1 rfl ?_
      obtain rfl := Option.some.inj h
      exact K_iret rfl (Or.inl rfl) ⟨rfl, rfl, hM⟩
    · rw [if_neg c14] at h
      refine K_iload_n rfl 1 rfl ?_
      refine K_aload_n rfl 0 rfl ?_
      refine K_iload_n rfl 2 rfl ?_
      refine K_iconst (v := 3) rfl (by decide) ?_
      obtain ⟨r15, er15, h⟩ := Option.bind_eq_some_iff.mp h
      refine K_cV [.int l3, .int 3] [.int l2] rfl rfl (Nat.le_of_ble_eq_true rfl) (Nat.le_of_ble_eq_true rfl) sh_436 hM rfl (EV_le (Nat.le_of_ble_eq_true rfl) (F_Model_graveOf hM  er15)) (fun v' M' hq => ?_)
      obtain ⟨rfl, rfl, hr15⟩ := hq
      refine K_if_le rfl (fun c16 => ?_) (fun c16 => ?_)
      · rw [if_pos c16] at h
        refine K_iconst (v := 0) rfl (by decide) ?_
        refine K_pick [0, 2] ?_
        exact L_Model_count_126   (L_Model_count_99    n) _ _ _ _ hr15  h
      · rw [if_neg c16] at h
        refine K_iconst (v := 1) rfl (by decide) ?_
        refine K_iload_n rfl 2 rfl ?_
        refine K_ishl rfl ?_
        refine K_goto rfl ?_
        refine K_pick [0, 2] ?_
        exact L_Model_count_126   (L_Model_count_99    n) _ _ _ _ hr15  h
set_option maxRecDepth 20000 in
theorem L_Model_count_162 {X : mX} {x1 : Int32} {r : Int32 × mM}  : ∀ (n : Nat) (l2 : Int32) (l3 : Int32) (M : mM), Fx M → f_Model_count_162 x1  n l2 l3 M = some r → KK X 3 244 162 [(0, .ref 436), (2, .int l2), (3, .int l3)] [] M (fun v M' => v = some (.int r.1) ∧ r.2 = M' ∧ Fx r.2)
  | 0, _, _, _ => fun _ h => by cases h
  | n + 1, l2, l3, M => fun hM h => by
    unfold f_Model_count_162 at h
    refine K_iload_n rfl 2 rfl ?_
    refine K_aload_n rfl 0 rfl ?_
    refine K_gR rfl sh_436 hM rfl rfl 20 rfl r_436_20 ?_
    refine K_iconst (v := 2) rfl (by decide) ?_
    obtain ⟨v23, ev23, h⟩ := Option.bind_eq_some_iff.mp h
    refine K_rd rfl sh_446 hM ev23 ?_
    refine K_ic_ge rfl (fun c24 => ?_) (fun c24 => ?_)
    · rw [if_pos c24] at h
      refine K_iload_n rfl 1 rfl ?_
      obtain rfl := Option.some.inj h
      exact K_iret rfl (Or.inl rfl) ⟨rfl, rfl, hM⟩
    · rw [if_neg c24] at h
      refine K_iload_n rfl 1 rfl ?_
      refine K_aload_n rfl 0 rfl ?_
      refine K_iload_n rfl 2 rfl ?_
      refine K_bipush (v := 7) rfl (by decide) ?_
      obtain ⟨r25, er25, h⟩ := Option.bind_eq_some_iff.mp h
      refine K_cV [.int l3, .int 7] [.int l2] rfl rfl (Nat.le_of_ble_eq_true rfl) (Nat.le_of_ble_eq_true rfl) sh_436 hM rfl (EV_le (Nat.le_of_ble_eq_true rfl) (F_Model_graveOf hM  er25)) (fun v' M' hq => ?_)
      obtain ⟨rfl, rfl, hr25⟩ := hq
      refine K_iadd rfl ?_
      refine K_istore_n rfl ?_
      refine K_iinc (y := (l3 + 1)) rfl 2 rfl rfl ?_
      refine K_goto rfl ?_
      refine K_pick [2, 1, 0] ?_
      exact L_Model_count_162    n _ _ _ hr25  h
set_option maxRecDepth 20000 in
theorem F_Model_count {X : mX} {x1 : Int32} {M : mM} {r : Int32 × mM} (hM : Fx M)  (h : f_Model_count x1 M = some r) : EV X (3 + 1) 244 [.ref 436, .int x1] M (fun v M' => v = some (.int r.1) ∧ r.2 = M' ∧ Fx r.2) := by
    refine EV_of (lc := [(0, .ref 436), (1, .int x1)]) (Nat.le_of_ble_eq_true rfl) (by exact Nat.le_of_ble_eq_true rfl) (by exact List.forall_mem_cons.mpr ⟨rfl, List.forall_mem_cons.mpr ⟨rfl, fun _ h => absurd h List.not_mem_nil⟩⟩) ?_
    unfold f_Model_count at h
    refine K_iconst (v := 0) rfl (by decide) ?_
    refine K_istore_n rfl ?_
    refine K_iload_n rfl 2 rfl ?_
    by_cases c2 : x1 = 0
    · rw [if_pos c2] at h
      refine K_ts (t := 68) rfl (fun _ => by rw [c2]; rfl) ?_
      refine K_aload_n rfl 1 rfl ?_
      refine K_gR rfl sh_436 hM rfl rfl 20 rfl r_436_20 ?_
      refine K_iload_n rfl 2 rfl ?_
      obtain ⟨v1, ev1, h⟩ := Option.bind_eq_some_iff.mp h
      refine K_rd rfl sh_446 hM ev1 ?_
      obtain rfl := Option.some.inj h
      exact K_iret rfl (Or.inl rfl) ⟨rfl, rfl, hM⟩
    · rw [if_neg c2] at h
      by_cases c4 : x1 = 1
      · rw [if_pos c4] at h
        refine K_ts (t := 68) rfl (fun _ => by rw [c4]; rfl) ?_
        refine K_aload_n rfl 1 rfl ?_
        refine K_gR rfl sh_436 hM rfl rfl 20 rfl r_436_20 ?_
        refine K_iload_n rfl 2 rfl ?_
        obtain ⟨v3, ev3, h⟩ := Option.bind_eq_some_iff.mp h
        refine K_rd rfl sh_446 hM ev3 ?_
        obtain rfl := Option.some.inj h
        exact K_iret rfl (Or.inl rfl) ⟨rfl, rfl, hM⟩
      · rw [if_neg c4] at h
        by_cases c6 : x1 = 2
        · rw [if_pos c6] at h
          refine K_ts (t := 68) rfl (fun _ => by rw [c6]; rfl) ?_
          refine K_aload_n rfl 1 rfl ?_
          refine K_gR rfl sh_436 hM rfl rfl 20 rfl r_436_20 ?_
          refine K_iload_n rfl 2 rfl ?_
          obtain ⟨v5, ev5, h⟩ := Option.bind_eq_some_iff.mp h
          refine K_rd rfl sh_446 hM ev5 ?_
          obtain rfl := Option.some.inj h
          exact K_iret rfl (Or.inl rfl) ⟨rfl, rfl, hM⟩
        · rw [if_neg c6] at h
          by_cases c7 : x1 = 3
          · rw [if_pos c7] at h
            refine K_ts (t := 75) rfl (fun _ => by rw [c7]; rfl) ?_
            refine K_aload_n rfl 1 rfl ?_
            refine K_gI rfl sh_436 hM rfl rfl 2 rfl ?_
            obtain rfl := Option.some.inj h
            exact K_iret rfl (Or.inl rfl) ⟨rfl, rfl, hM⟩
          · rw [if_neg c7] at h
            by_cases c8 : x1 = 4
            · rw [if_pos c8] at h
              refine K_ts (t := 80) rfl (fun _ => by rw [c8]; rfl) ?_
              refine K_aload_n rfl 1 rfl ?_
              refine K_gI rfl sh_436 hM rfl rfl 21 rfl ?_
              obtain rfl := Option.some.inj h
              exact K_iret rfl (Or.inl rfl) ⟨rfl, rfl, hM⟩
            · rw [if_neg c8] at h
              by_cases c10 : x1 = 5
              · rw [if_pos c10] at h
                refine K_ts (t := 85) rfl (fun _ => by rw [c10]; rfl) ?_
                refine K_aload_n rfl 1 rfl ?_
                refine K_gR rfl sh_436 hM rfl rfl 20 rfl r_436_20 ?_
                refine K_iconst (v := 3) rfl (by decide) ?_
                obtain ⟨v9, ev9, h⟩ := Option.bind_eq_some_iff.mp h
                refine K_rd rfl sh_446 hM ev9 ?_
                obtain rfl := Option.some.inj h
                exact K_iret rfl (Or.inl rfl) ⟨rfl, rfl, hM⟩
              · rw [if_neg c10] at h
                by_cases c12 : x1 = 6
                · rw [if_pos c12] at h
                  refine K_ts (t := 92) rfl (fun _ => by rw [c12]; rfl) ?_
                  refine K_aload_n rfl 1 rfl ?_
                  obtain ⟨r11, er11, h⟩ := Option.bind_eq_some_iff.mp h
                  refine K_cV [] [] rfl rfl (Nat.le_of_ble_eq_true rfl) (Nat.le_of_ble_eq_true rfl) sh_436 hM rfl (EV_le (Nat.le_of_ble_eq_true rfl) (F_Model_fallenMany hM  er11)) (fun v' M' hq => ?_)
                  obtain ⟨rfl, rfl, hr11⟩ := hq
                  obtain rfl := Option.some.inj h
                  exact K_iret rfl (Or.inl rfl) ⟨rfl, rfl, hr11⟩
                · rw [if_neg c12] at h
                  by_cases c17 : x1 = 7
                  · rw [if_pos c17] at h
                    refine K_ts (t := 97) rfl (fun _ => by rw [c17]; rfl) ?_
                    refine K_iconst (v := 0) rfl (by decide) ?_
                    refine K_istore_n rfl ?_
                    refine K_pick [2, 1, 0] ?_
                    exact L_Model_count_99    FUEL _ _ _ hM  h
                  · rw [if_neg c17] at h
                    by_cases c19 : x1 = 8
                    · rw [if_pos c19] at h
                      refine K_ts (t := 136) rfl (fun _ => by rw [c19]; rfl) ?_
                      refine K_aload_n rfl 1 rfl ?_
                      refine K_gR rfl sh_436 hM rfl rfl 20 rfl r_436_20 ?_
                      refine K_sipush (v := 185) rfl (by decide) ?_
                      obtain ⟨v18, ev18, h⟩ := Option.bind_eq_some_iff.mp h
                      refine K_rd rfl sh_446 hM ev18 ?_
                      obtain rfl := Option.some.inj h
                      exact K_iret rfl (Or.inl rfl) ⟨rfl, rfl, hM⟩
                    · rw [if_neg c19] at h
                      by_cases c20 : x1 = 9
                      · rw [if_pos c20] at h
                        refine K_ts (t := 145) rfl (fun _ => by rw [c20]; rfl) ?_
                        refine K_aload_n rfl 1 rfl ?_
                        refine K_gI rfl sh_436 hM rfl rfl 30 rfl ?_
                        obtain rfl := Option.some.inj h
                        exact K_iret rfl (Or.inl rfl) ⟨rfl, rfl, hM⟩
                      · rw [if_neg c20] at h
                        by_cases c21 : x1 = 10
                        · rw [if_pos c21] at h
                          refine K_ts (t := 150) rfl (fun _ => by rw [c21]; rfl) ?_
                          refine K_aload_n rfl 1 rfl ?_
                          refine K_gI rfl sh_436 hM rfl rfl 22 rfl ?_
                          obtain rfl := Option.some.inj h
                          exact K_iret rfl (Or.inl rfl) ⟨rfl, rfl, hM⟩
                        · rw [if_neg c21] at h
                          by_cases c22 : x1 = 11
                          · rw [if_pos c22] at h
                            refine K_ts (t := 155) rfl (fun _ => by rw [c22]; rfl) ?_
                            refine K_aload_n rfl 1 rfl ?_
                            refine K_gI rfl sh_436 hM rfl rfl 1 rfl ?_
                            obtain rfl := Option.some.inj h
                            exact K_iret rfl (Or.inl rfl) ⟨rfl, rfl, hM⟩
                          · rw [if_neg c22] at h
                            by_cases c26 : x1 = 12
                            · rw [if_pos c26] at h
                              refine K_ts (t := 160) rfl (fun _ => by rw [c26]; rfl) ?_
                              refine K_iconst (v := 0) rfl (by decide) ?_
                              refine K_istore_n rfl ?_
                              refine K_pick [2, 1, 0] ?_
                              exact L_Model_count_162    FUEL _ _ _ hM  h
                            · rw [if_neg c26] at h
                              refine K_tsd rfl ?_ ?_
                              · have nc2 := lv_neT c2 (a := 0) rfl; have nc4 := lv_neT c4 (a := 1) rfl; have nc6 := lv_neT c6 (a := 2) rfl; have nc7 := lv_neT c7 (a := 3) rfl; have nc8 := lv_neT c8 (a := 4) rfl; have nc10 := lv_neT c10 (a := 5) rfl; have nc12 := lv_neT c12 (a := 6) rfl; have nc17 := lv_neT c17 (a := 7) rfl; have nc19 := lv_neT c19 (a := 8) rfl; have nc20 := lv_neT c20 (a := 9) rfl; have nc21 := lv_neT c21 (a := 10) rfl; have nc22 := lv_neT c22 (a := 11) rfl; have nc26 := lv_neT c26 (a := 12) rfl; omega
                              · refine K_iconst (v := (-1)) rfl (by decide) ?_
                                obtain rfl := Option.some.inj h
                                exact K_iret rfl (Or.inl rfl) ⟨rfl, rfl, hM⟩
set_option maxRecDepth 20000 in
theorem L_Model_image_43 {X : mX} {x1 : Int32} {r : Int32 × mM}  : ∀ (n : Nat) (l2 : Int32) (M : mM), Fx M → f_Model_image_43 x1  n l2 M = some r → KK X 1 245 43 [(0, .ref 436), (1, .int x1), (2, .int l2)] [] M (fun v M' => v = some (.int r.1) ∧ r.2 = M' ∧ Fx r.2)
  | 0, _, _ => fun _ h => by cases h
  | n + 1, l2, M => fun hM h => by
    unfold f_Model_image_43 at h
    refine K_iload_n rfl 2 rfl ?_
    refine K_sipush (v := 226) rfl (by decide) ?_
    refine K_ic_ge rfl (fun c6 => ?_) (fun c6 => ?_)
    · rw [if_pos c6] at h
      refine K_aload_n rfl 0 rfl ?_
      refine K_gR rfl sh_436 hM rfl rfl 20 rfl r_436_20 ?_
      refine K_iconst (v := 3) rfl (by decide) ?_
      obtain ⟨v7, ev7, h⟩ := Option.bind_eq_some_iff.mp h
      refine K_rd rfl sh_446 hM ev7 ?_
      obtain rfl := Option.some.inj h
      exact K_iret rfl (Or.inl rfl) ⟨rfl, rfl, hM⟩
    · rw [if_neg c6] at h
      refine K_aload_n rfl 0 rfl ?_
      refine K_gR rfl sh_436 hM rfl rfl 36 rfl r_436_36 ?_
      refine K_sipush (v := 226) rfl (by decide) ?_
      refine K_iload_n rfl 1 rfl ?_
      refine K_imul rfl ?_
      refine K_iload_n rfl 2 rfl ?_
      refine K_iadd rfl ?_
      refine K_aload_n rfl 0 rfl ?_
      refine K_gR rfl sh_436 hM rfl rfl 20 rfl r_436_20 ?_
      refine K_iload_n rfl 2 rfl ?_
      obtain ⟨v8, ev8, h⟩ := Option.bind_eq_some_iff.mp h
      refine K_rd rfl sh_446 hM ev8 ?_
      obtain ⟨M9, eM9, h⟩ := Option.bind_eq_some_iff.mp h
      refine K_wr rfl sh_453 hM eM9 (fun hM9 => ?_)
      refine K_iinc (y := (l2 + 1)) rfl 2 rfl rfl ?_
      refine K_goto rfl ?_
      refine K_pick [1, 2, 0] ?_
      exact L_Model_image_43    n _ _ hM9  h
set_option maxRecDepth 20000 in
theorem F_Model_image {X : mX} {x1 : Int32} {M : mM} {r : Int32 × mM} (hM : Fx M)  (h : f_Model_image x1 M = some r) : EV X (1 + 1) 245 [.ref 436, .int x1] M (fun v M' => v = some (.int r.1) ∧ r.2 = M' ∧ Fx r.2) := by
    refine EV_of (lc := [(0, .ref 436), (1, .int x1)]) (Nat.le_of_ble_eq_true rfl) (by exact Nat.le_of_ble_eq_true rfl) (by exact List.forall_mem_cons.mpr ⟨rfl, List.forall_mem_cons.mpr ⟨rfl, fun _ h => absurd h List.not_mem_nil⟩⟩) ?_
    unfold f_Model_image at h
    refine K_iload_n rfl 1 rfl ?_
    refine K_i2l rfl ?_
    refine K_lconst (v := 0) rfl (by decide) ?_
    refine K_ldc2 (v := 3) rfl (by decide) ?_
    obtain ⟨r1, er1, h⟩ := Option.bind_eq_some_iff.mp h
    refine K_callS [.long (Int32.toInt64 x1), .long 0, .long 3] [] rfl rfl (Nat.le_of_ble_eq_true rfl) (Nat.le_of_ble_eq_true rfl) (EV_le (Nat.le_of_ble_eq_true rfl) (F_Model_in hM  er1)) (fun v' M' hq => ?_)
    obtain ⟨rfl, rfl, hr1⟩ := hq
    refine K_if_ne rfl (fun c2 => ?_) (fun c2 => ?_)
    · rw [if_neg c2] at h
      refine K_aload_n rfl 0 rfl ?_
      refine K_gR rfl sh_436 hr1 rfl rfl 39 rfl r_436_39 ?_
      refine K_iload_n rfl 1 rfl ?_
      refine K_iconst (v := 1) rfl (by decide) ?_
      obtain ⟨M3, eM3, h⟩ := Option.bind_eq_some_iff.mp h
      refine K_wrZ rfl sh_456 hr1 eM3 (fun hM3 => ?_)
      refine K_aload_n rfl 0 rfl ?_
      refine K_gR rfl sh_436 hM3 rfl rfl 37 rfl r_436_37 ?_
      refine K_iload_n rfl 1 rfl ?_
      refine K_aload_n rfl 0 rfl ?_
      refine K_gI rfl sh_436 hM3 rfl rfl 21 rfl ?_
      obtain ⟨M4, eM4, h⟩ := Option.bind_eq_some_iff.mp h
      refine K_wr rfl sh_454 hM3 eM4 (fun hM4 => ?_)
      refine K_aload_n rfl 0 rfl ?_
      refine K_gR rfl sh_436 hM4 rfl rfl 38 rfl r_436_38 ?_
      refine K_iload_n rfl 1 rfl ?_
      refine K_aload_n rfl 0 rfl ?_
      refine K_gI rfl sh_436 hM4 rfl rfl 22 rfl ?_
      obtain ⟨M5, eM5, h⟩ := Option.bind_eq_some_iff.mp h
      refine K_wr rfl sh_455 hM4 eM5 (fun hM5 => ?_)
      refine K_iconst (v := 0) rfl (by decide) ?_
      refine K_istore_n rfl ?_
      refine K_pick [1, 2, 0] ?_
      exact L_Model_image_43    FUEL _ _ hM5  h
    · rw [if_pos c2] at h
      refine K_iconst (v := (-1)) rfl (by decide) ?_
      obtain rfl := Option.some.inj h
      exact K_iret rfl (Or.inl rfl) ⟨rfl, rfl, hr1⟩
set_option maxRecDepth 20000 in
theorem L_Model_back_50 {X : mX} {x1 : Int32} {r : Int32 × mM}  : ∀ (n : Nat) (l2 : Int32) (M : mM), Fx M → f_Model_back_50 x1  n l2 M = some r → KK X 1 246 50 [(0, .ref 436), (1, .int x1), (2, .int l2)] [] M (fun v M' => v = some (.int r.1) ∧ r.2 = M' ∧ Fx r.2)
  | 0, _, _ => fun _ h => by cases h
  | n + 1, l2, M => fun hM h => by
    unfold f_Model_back_50 at h
    refine K_iload_n rfl 2 rfl ?_
    refine K_sipush (v := 226) rfl (by decide) ?_
    refine K_ic_ge rfl (fun c10 => ?_) (fun c10 => ?_)
    · rw [if_pos c10] at h
      refine K_aload_n rfl 0 rfl ?_
      refine K_gR rfl sh_436 hM rfl rfl 20 rfl r_436_20 ?_
      refine K_iconst (v := 3) rfl (by decide) ?_
      obtain ⟨v11, ev11, h⟩ := Option.bind_eq_some_iff.mp h
      refine K_rd rfl sh_446 hM ev11 ?_
      obtain rfl := Option.some.inj h
      exact K_iret rfl (Or.inl rfl) ⟨rfl, rfl, hM⟩
    · rw [if_neg c10] at h
      refine K_aload_n rfl 0 rfl ?_
      refine K_gR rfl sh_436 hM rfl rfl 20 rfl r_436_20 ?_
      refine K_iload_n rfl 2 rfl ?_
      refine K_aload_n rfl 0 rfl ?_
      refine K_gR rfl sh_436 hM rfl rfl 36 rfl r_436_36 ?_
      refine K_sipush (v := 226) rfl (by decide) ?_
      refine K_iload_n rfl 1 rfl ?_
      refine K_imul rfl ?_
      refine K_iload_n rfl 2 rfl ?_
      refine K_iadd rfl ?_
      obtain ⟨v12, ev12, h⟩ := Option.bind_eq_some_iff.mp h
      refine K_rd rfl sh_453 hM ev12 ?_
      obtain ⟨M13, eM13, h⟩ := Option.bind_eq_some_iff.mp h
      refine K_wr rfl sh_446 hM eM13 (fun hM13 => ?_)
      refine K_iinc (y := (l2 + 1)) rfl 2 rfl rfl ?_
      refine K_goto rfl ?_
      refine K_pick [1, 2, 0] ?_
      exact L_Model_back_50    n _ _ hM13  h
set_option maxRecDepth 20000 in
theorem F_Model_back {X : mX} {x1 : Int32} {M : mM} {r : Int32 × mM} (hM : Fx M)  (h : f_Model_back x1 M = some r) : EV X (1 + 1) 246 [.ref 436, .int x1] M (fun v M' => v = some (.int r.1) ∧ r.2 = M' ∧ Fx r.2) := by
    refine EV_of (lc := [(0, .ref 436), (1, .int x1)]) (Nat.le_of_ble_eq_true rfl) (by exact Nat.le_of_ble_eq_true rfl) (by exact List.forall_mem_cons.mpr ⟨rfl, List.forall_mem_cons.mpr ⟨rfl, fun _ h => absurd h List.not_mem_nil⟩⟩) ?_
    unfold f_Model_back at h
    refine K_iload_n rfl 1 rfl ?_
    refine K_i2l rfl ?_
    refine K_lconst (v := 0) rfl (by decide) ?_
    refine K_ldc2 (v := 3) rfl (by decide) ?_
    obtain ⟨r1, er1, h⟩ := Option.bind_eq_some_iff.mp h
    refine K_callS [.long (Int32.toInt64 x1), .long 0, .long 3] [] rfl rfl (Nat.le_of_ble_eq_true rfl) (Nat.le_of_ble_eq_true rfl) (EV_le (Nat.le_of_ble_eq_true rfl) (F_Model_in hM  er1)) (fun v' M' hq => ?_)
    obtain ⟨rfl, rfl, hr1⟩ := hq
    refine K_if_eq rfl (fun c2 => ?_) (fun c2 => ?_)
    · rw [if_pos c2] at h
      refine K_iconst (v := (-1)) rfl (by decide) ?_
      obtain rfl := Option.some.inj h
      exact K_iret rfl (Or.inl rfl) ⟨rfl, rfl, hr1⟩
    · rw [if_neg c2] at h
      refine K_aload_n rfl 0 rfl ?_
      refine K_gR rfl sh_436 hr1 rfl rfl 39 rfl r_436_39 ?_
      refine K_iload_n rfl 1 rfl ?_
      obtain ⟨v3, ev3, h⟩ := Option.bind_eq_some_iff.mp h
      refine K_rdB rfl sh_456 (by decide) hr1 ev3 ?_
      refine K_if_ne rfl (fun c4 => ?_) (fun c4 => ?_)
      · rw [if_neg c4] at h
        refine K_aload_n rfl 0 rfl ?_
        refine K_aload_n rfl 0 rfl ?_
        refine K_gR rfl sh_436 hr1 rfl rfl 37 rfl r_436_37 ?_
        refine K_iload_n rfl 1 rfl ?_
        obtain ⟨v5, ev5, h⟩ := Option.bind_eq_some_iff.mp h
        refine K_rd rfl sh_454 hr1 ev5 ?_
        obtain ⟨M6, eM6, h⟩ := Option.bind_eq_some_iff.mp h
        refine K_pI rfl sh_436 hr1 rfl rfl 21 rfl eM6 (fun hM6 => ?_)
        refine K_aload_n rfl 0 rfl ?_
        refine K_aload_n rfl 0 rfl ?_
        refine K_gR rfl sh_436 hM6 rfl rfl 38 rfl r_436_38 ?_
        refine K_iload_n rfl 1 rfl ?_
        obtain ⟨v7, ev7, h⟩ := Option.bind_eq_some_iff.mp h
        refine K_rd rfl sh_455 hM6 ev7 ?_
        obtain ⟨M8, eM8, h⟩ := Option.bind_eq_some_iff.mp h
        refine K_pI rfl sh_436 hM6 rfl rfl 22 rfl eM8 (fun hM8 => ?_)
        refine K_aload_n rfl 0 rfl ?_
        refine K_iconst (v := 0) rfl (by decide) ?_
        obtain ⟨M9, eM9, h⟩ := Option.bind_eq_some_iff.mp h
        refine K_pI rfl sh_436 hM8 rfl rfl 30 rfl eM9 (fun hM9 => ?_)
        refine K_iconst (v := 0) rfl (by decide) ?_
        refine K_istore_n rfl ?_
        refine K_pick [1, 2, 0] ?_
        exact L_Model_back_50    FUEL _ _ hM9  h
      · rw [if_pos c4] at h
        refine K_iconst (v := (-1)) rfl (by decide) ?_
        obtain rfl := Option.some.inj h
        exact K_iret rfl (Or.inl rfl) ⟨rfl, rfl, hr1⟩
set_option maxRecDepth 20000 in
theorem L_J_law_1021 {X : mX}  {k18 : Int32 → mM → Option (Int32 × mM)} {r : Int32 × mM}  (hk18 : ∀ (l3 : Int32) (M : mM), Fx M → k18 l3 M = some r → KK X 62 250 18 [(0, .ref mscr), (1, .ref 0), (2, .ref 436), (3, .int l3)] [] M (fun v M' => v = some (.int r.1) ∧ r.2 = M' ∧ Fx r.2)) (l3 : Int32) (M : mM) (hM : Fx M)  (h : f_J_law_1021 X  k18 l3 M = some r) : KK X 62 250 1021 [(0, .ref mscr), (1, .ref 0), (2, .ref 436), (3, .int l3)] [] M (fun v M' => v = some (.int r.1) ∧ r.2 = M' ∧ Fx r.2) := by
    unfold f_J_law_1021 at h
    refine K_iinc (y := (l3 + 6)) rfl 3 rfl rfl ?_
    refine K_goto rfl ?_
    refine K_pick [1, 2, 3, 0] ?_
    exact hk18 _ _ hM  h
set_option maxRecDepth 20000 in
theorem L_J_law_18 {X : mX}  {r : Int32 × mM}  : ∀ (n : Nat) (l3 : Int32) (M : mM), Fx M → f_J_law_18 X   n l3 M = some r → KK X 62 250 18 [(0, .ref mscr), (1, .ref 0), (2, .ref 436), (3, .int l3)] [] M (fun v M' => v = some (.int r.1) ∧ r.2 = M' ∧ Fx r.2)
  | 0, _, _ => fun _ h => by cases h
  | n + 1, l3, M => fun hM h => by
    unfold f_J_law_18 at h
    refine K_iload_n rfl 3 rfl ?_
    refine K_aload_n rfl 0 rfl ?_
    refine K_slen rfl ?_
    refine K_bipush (v := 6) rfl (by decide) ?_
    refine K_isub rfl ?_
    refine K_ic_gt rfl (fun c1 => ?_) (fun c1 => ?_)
    · rw [if_pos c1] at h
      refine K_iconst (v := 1) rfl (by decide) ?_
      obtain rfl := Option.some.inj h
      exact K_iret rfl (Or.inr ⟨rfl, by decide⟩) ⟨rfl, rfl, hM⟩
    · rw [if_neg c1] at h
      refine K_aload_n rfl 0 rfl ?_
      refine K_iload_n rfl 3 rfl ?_
      obtain ⟨v2, ev2, h⟩ := Option.bind_eq_some_iff.mp h
      refine K_rdS rfl ev2 ?_
      refine K_bipush (v := 31) rfl (by decide) ?_
      refine K_iand rfl ?_
      by_cases c16 : (v2 &&& 31) = 0
      · rw [if_pos c16] at h
        refine K_ts (t := 164) rfl (fun _ => by rw [c16]; rfl) ?_
        refine K_aload_n rfl 1 rfl ?_
        refine K_aload_n rfl 0 rfl ?_
        refine K_iload_n rfl 3 rfl ?_
        refine K_iconst (v := 1) rfl (by decide) ?_
        refine K_iadd rfl ?_
        obtain ⟨v3, ev3, h⟩ := Option.bind_eq_some_iff.mp h
        refine K_rdS rfl ev3 ?_
        refine K_aload_n rfl 0 rfl ?_
        refine K_iload_n rfl 3 rfl ?_
        refine K_iconst (v := 2) rfl (by decide) ?_
        refine K_iadd rfl ?_
        obtain ⟨v4, ev4, h⟩ := Option.bind_eq_some_iff.mp h
        refine K_rdS rfl ev4 ?_
        refine K_aload_n rfl 0 rfl ?_
        refine K_iload_n rfl 3 rfl ?_
        refine K_iconst (v := 3) rfl (by decide) ?_
        refine K_iadd rfl ?_
        obtain ⟨v5, ev5, h⟩ := Option.bind_eq_some_iff.mp h
        refine K_rdS rfl ev5 ?_
        refine K_aload_n rfl 0 rfl ?_
        refine K_iload_n rfl 3 rfl ?_
        refine K_iconst (v := 4) rfl (by decide) ?_
        refine K_iadd rfl ?_
        obtain ⟨v6, ev6, h⟩ := Option.bind_eq_some_iff.mp h
        refine K_rdS rfl ev6 ?_
        refine K_aload_n rfl 0 rfl ?_
        refine K_iload_n rfl 3 rfl ?_
        refine K_iconst (v := 5) rfl (by decide) ?_
        refine K_iadd rfl ?_
        obtain ⟨v7, ev7, h⟩ := Option.bind_eq_some_iff.mp h
        refine K_rdS rfl ev7 ?_
        obtain ⟨r8, er8, h⟩ := Option.bind_eq_some_iff.mp h
        refine K_cV [.int v3, .int v4, .int v5, .int v6, .int v7] [] rfl rfl (Nat.le_of_ble_eq_true rfl) (Nat.le_of_ble_eq_true rfl) sh_0 hM rfl (EV_le (Nat.le_of_ble_eq_true rfl) (F_GraveRails_feed hM  er8)) (fun v' M' hq => ?_)
        obtain ⟨rfl, rfl, hr8⟩ := hq
        refine K_aload_n rfl 2 rfl ?_
        refine K_aload_n rfl 0 rfl ?_
        refine K_iload_n rfl 3 rfl ?_
        refine K_iconst (v := 1) rfl (by decide) ?_
        refine K_iadd rfl ?_
        obtain ⟨v9, ev9, h⟩ := Option.bind_eq_some_iff.mp h
        refine K_rdS rfl ev9 ?_
        refine K_aload_n rfl 0 rfl ?_
        refine K_iload_n rfl 3 rfl ?_
        refine K_iconst (v := 2) rfl (by decide) ?_
        refine K_iadd rfl ?_
        obtain ⟨v10, ev10, h⟩ := Option.bind_eq_some_iff.mp h
        refine K_rdS rfl ev10 ?_
        refine K_aload_n rfl 0 rfl ?_
        refine K_iload_n rfl 3 rfl ?_
        refine K_iconst (v := 3) rfl (by decide) ?_
        refine K_iadd rfl ?_
        obtain ⟨v11, ev11, h⟩ := Option.bind_eq_some_iff.mp h
        refine K_rdS rfl ev11 ?_
        refine K_aload_n rfl 0 rfl ?_
        refine K_iload_n rfl 3 rfl ?_
        refine K_iconst (v := 4) rfl (by decide) ?_
        refine K_iadd rfl ?_
        obtain ⟨v12, ev12, h⟩ := Option.bind_eq_some_iff.mp h
        refine K_rdS rfl ev12 ?_
        refine K_aload_n rfl 0 rfl ?_
        refine K_iload_n rfl 3 rfl ?_
        refine K_iconst (v := 5) rfl (by decide) ?_
        refine K_iadd rfl ?_
        obtain ⟨v13, ev13, h⟩ := Option.bind_eq_some_iff.mp h
        refine K_rdS rfl ev13 ?_
        obtain ⟨r14, er14, h⟩ := Option.bind_eq_some_iff.mp h
        refine K_cV [.int v9, .int v10, .int v11, .int v12, .int v13] [.int r8.1] rfl rfl (Nat.le_of_ble_eq_true rfl) (Nat.le_of_ble_eq_true rfl) sh_436 hr8 rfl (EV_le (Nat.le_of_ble_eq_true rfl) (F_Model_feed hr8  er14)) (fun v' M' hq => ?_)
        obtain ⟨rfl, rfl, hr14⟩ := hq
        refine K_ic_eq rfl (fun c15 => ?_) (fun c15 => ?_)
        · rw [if_pos c15] at h
          refine K_pick [0, 1, 2, 3] ?_
          exact L_J_law_1021   (L_J_law_18    n) _ _ hr14  h
        · rw [if_neg c15] at h
          refine K_iconst (v := 0) rfl (by decide) ?_
          obtain rfl := Option.some.inj h
          exact K_iret rfl (Or.inr ⟨rfl, by decide⟩) ⟨rfl, rfl, hr14⟩
      · rw [if_neg c16] at h
        by_cases c22 : (v2 &&& 31) = 1
        · rw [if_pos c22] at h
          refine K_ts (t := 227) rfl (fun _ => by rw [c22]; rfl) ?_
          refine K_aload_n rfl 1 rfl ?_
          refine K_aload_n rfl 0 rfl ?_
          refine K_iload_n rfl 3 rfl ?_
          refine K_iconst (v := 1) rfl (by decide) ?_
          refine K_iadd rfl ?_
          obtain ⟨v17, ev17, h⟩ := Option.bind_eq_some_iff.mp h
          refine K_rdS rfl ev17 ?_
          obtain ⟨r18, er18, h⟩ := Option.bind_eq_some_iff.mp h
          refine K_cV [.int v17] [] rfl rfl (Nat.le_of_ble_eq_true rfl) (Nat.le_of_ble_eq_true rfl) sh_0 hM rfl (EV_le (Nat.le_of_ble_eq_true rfl) (F_GraveRails_end hM  er18)) (fun v' M' hq => ?_)
          obtain ⟨rfl, rfl, hr18⟩ := hq
          refine K_aload_n rfl 2 rfl ?_
          refine K_aload_n rfl 0 rfl ?_
          refine K_iload_n rfl 3 rfl ?_
          refine K_iconst (v := 1) rfl (by decide) ?_
          refine K_iadd rfl ?_
          obtain ⟨v19, ev19, h⟩ := Option.bind_eq_some_iff.mp h
          refine K_rdS rfl ev19 ?_
          obtain ⟨r20, er20, h⟩ := Option.bind_eq_some_iff.mp h
          refine K_cV [.int v19] [.int r18.1] rfl rfl (Nat.le_of_ble_eq_true rfl) (Nat.le_of_ble_eq_true rfl) sh_436 hr18 rfl (EV_le (Nat.le_of_ble_eq_true rfl) (F_Model_end hr18  er20)) (fun v' M' hq => ?_)
          obtain ⟨rfl, rfl, hr20⟩ := hq
          refine K_ic_eq rfl (fun c21 => ?_) (fun c21 => ?_)
          · rw [if_pos c21] at h
            refine K_pick [0, 1, 2, 3] ?_
            exact L_J_law_1021   (L_J_law_18    n) _ _ hr20  h
          · rw [if_neg c21] at h
            refine K_iconst (v := 0) rfl (by decide) ?_
            obtain rfl := Option.some.inj h
            exact K_iret rfl (Or.inr ⟨rfl, by decide⟩) ⟨rfl, rfl, hr20⟩
        · rw [if_neg c22] at h
          by_cases c26 : (v2 &&& 31) = 2
          · rw [if_pos c26] at h
            refine K_ts (t := 250) rfl (fun _ => by rw [c26]; rfl) ?_
            refine K_aload_n rfl 1 rfl ?_
            obtain ⟨r23, er23, h⟩ := Option.bind_eq_some_iff.mp h
            refine K_cV [] [] rfl rfl (Nat.le_of_ble_eq_true rfl) (Nat.le_of_ble_eq_true rfl) sh_0 hM rfl (EV_le (Nat.le_of_ble_eq_true rfl) (F_GraveRails_yard hM  er23)) (fun v' M' hq => ?_)
            obtain ⟨rfl, rfl, hr23⟩ := hq
            refine K_aload_n rfl 2 rfl ?_
            obtain ⟨r24, er24, h⟩ := Option.bind_eq_some_iff.mp h
            refine K_cV [] [.int r23.1] rfl rfl (Nat.le_of_ble_eq_true rfl) (Nat.le_of_ble_eq_true rfl) sh_436 hr23 rfl (EV_le (Nat.le_of_ble_eq_true rfl) (F_Model_yard hr23  er24)) (fun v' M' hq => ?_)
            obtain ⟨rfl, rfl, hr24⟩ := hq
            refine K_ic_eq rfl (fun c25 => ?_) (fun c25 => ?_)
            · rw [if_pos c25] at h
              refine K_pick [0, 1, 2, 3] ?_
              exact L_J_law_1021   (L_J_law_18    n) _ _ hr24  h
            · rw [if_neg c25] at h
              refine K_iconst (v := 0) rfl (by decide) ?_
              obtain rfl := Option.some.inj h
              exact K_iret rfl (Or.inr ⟨rfl, by decide⟩) ⟨rfl, rfl, hr24⟩
          · rw [if_neg c26] at h
            by_cases c30 : (v2 &&& 31) = 3
            · rw [if_pos c30] at h
              refine K_ts (t := 263) rfl (fun _ => by rw [c30]; rfl) ?_
              refine K_aload_n rfl 1 rfl ?_
              obtain ⟨r27, er27, h⟩ := Option.bind_eq_some_iff.mp h
              refine K_cV [] [] rfl rfl (Nat.le_of_ble_eq_true rfl) (Nat.le_of_ble_eq_true rfl) sh_0 hM rfl (EV_le (Nat.le_of_ble_eq_true rfl) (F_GraveRails_rule hM  er27)) (fun v' M' hq => ?_)
              obtain ⟨rfl, rfl, hr27⟩ := hq
              refine K_aload_n rfl 2 rfl ?_
              obtain ⟨r28, er28, h⟩ := Option.bind_eq_some_iff.mp h
              refine K_cV [] [.int r27.1] rfl rfl (Nat.le_of_ble_eq_true rfl) (Nat.le_of_ble_eq_true rfl) sh_436 hr27 rfl (EV_le (Nat.le_of_ble_eq_true rfl) (F_Model_rule hr27  er28)) (fun v' M' hq => ?_)
              obtain ⟨rfl, rfl, hr28⟩ := hq
              refine K_ic_eq rfl (fun c29 => ?_) (fun c29 => ?_)
              · rw [if_pos c29] at h
                refine K_pick [0, 1, 2, 3] ?_
                exact L_J_law_1021   (L_J_law_18    n) _ _ hr28  h
              · rw [if_neg c29] at h
                refine K_iconst (v := 0) rfl (by decide) ?_
                obtain rfl := Option.some.inj h
                exact K_iret rfl (Or.inr ⟨rfl, by decide⟩) ⟨rfl, rfl, hr28⟩
            · rw [if_neg c30] at h
              by_cases c36 : (v2 &&& 31) = 4
              · rw [if_pos c36] at h
                refine K_ts (t := 276) rfl (fun _ => by rw [c36]; rfl) ?_
                refine K_aload_n rfl 1 rfl ?_
                refine K_aload_n rfl 0 rfl ?_
                refine K_iload_n rfl 3 rfl ?_
                refine K_iconst (v := 1) rfl (by decide) ?_
                refine K_iadd rfl ?_
                obtain ⟨v31, ev31, h⟩ := Option.bind_eq_some_iff.mp h
                refine K_rdS rfl ev31 ?_
                obtain ⟨r32, er32, h⟩ := Option.bind_eq_some_iff.mp h
                refine K_cV [.int v31] [] rfl rfl (Nat.le_of_ble_eq_true rfl) (Nat.le_of_ble_eq_true rfl) sh_0 hM rfl (EV_le (Nat.le_of_ble_eq_true rfl) (F_GraveRails_force hM  er32)) (fun v' M' hq => ?_)
                obtain ⟨rfl, rfl, hr32⟩ := hq
                refine K_aload_n rfl 2 rfl ?_
                refine K_aload_n rfl 0 rfl ?_
                refine K_iload_n rfl 3 rfl ?_
                refine K_iconst (v := 1) rfl (by decide) ?_
                refine K_iadd rfl ?_
                obtain ⟨v33, ev33, h⟩ := Option.bind_eq_some_iff.mp h
                refine K_rdS rfl ev33 ?_
                obtain ⟨r34, er34, h⟩ := Option.bind_eq_some_iff.mp h
                refine K_cV [.int v33] [.int r32.1] rfl rfl (Nat.le_of_ble_eq_true rfl) (Nat.le_of_ble_eq_true rfl) sh_436 hr32 rfl (EV_le (Nat.le_of_ble_eq_true rfl) (F_Model_force hr32  er34)) (fun v' M' hq => ?_)
                obtain ⟨rfl, rfl, hr34⟩ := hq
                refine K_ic_eq rfl (fun c35 => ?_) (fun c35 => ?_)
                · rw [if_pos c35] at h
                  refine K_pick [0, 1, 2, 3] ?_
                  exact L_J_law_1021   (L_J_law_18    n) _ _ hr34  h
                · rw [if_neg c35] at h
                  refine K_iconst (v := 0) rfl (by decide) ?_
                  obtain rfl := Option.some.inj h
                  exact K_iret rfl (Or.inr ⟨rfl, by decide⟩) ⟨rfl, rfl, hr34⟩
              · rw [if_neg c36] at h
                by_cases c44 : (v2 &&& 31) = 5
                · rw [if_pos c44] at h
                  refine K_ts (t := 299) rfl (fun _ => by rw [c44]; rfl) ?_
                  refine K_aload_n rfl 1 rfl ?_
                  refine K_aload_n rfl 0 rfl ?_
                  refine K_iload_n rfl 3 rfl ?_
                  refine K_iconst (v := 1) rfl (by decide) ?_
                  refine K_iadd rfl ?_
                  obtain ⟨v37, ev37, h⟩ := Option.bind_eq_some_iff.mp h
                  refine K_rdS rfl ev37 ?_
                  refine K_aload_n rfl 0 rfl ?_
                  refine K_iload_n rfl 3 rfl ?_
                  refine K_iconst (v := 2) rfl (by decide) ?_
                  refine K_iadd rfl ?_
                  obtain ⟨v38, ev38, h⟩ := Option.bind_eq_some_iff.mp h
                  refine K_rdS rfl ev38 ?_
                  obtain ⟨r39, er39, h⟩ := Option.bind_eq_some_iff.mp h
                  refine K_cV [.int v37, .int v38] [] rfl rfl (Nat.le_of_ble_eq_true rfl) (Nat.le_of_ble_eq_true rfl) sh_0 hM rfl (EV_le (Nat.le_of_ble_eq_true rfl) (F_GraveRails_grave hM  er39)) (fun v' M' hq => ?_)
                  obtain ⟨rfl, rfl, hr39⟩ := hq
                  refine K_aload_n rfl 2 rfl ?_
                  refine K_aload_n rfl 0 rfl ?_
                  refine K_iload_n rfl 3 rfl ?_
                  refine K_iconst (v := 1) rfl (by decide) ?_
                  refine K_iadd rfl ?_
                  obtain ⟨v40, ev40, h⟩ := Option.bind_eq_some_iff.mp h
                  refine K_rdS rfl ev40 ?_
                  refine K_aload_n rfl 0 rfl ?_
                  refine K_iload_n rfl 3 rfl ?_
                  refine K_iconst (v := 2) rfl (by decide) ?_
                  refine K_iadd rfl ?_
                  obtain ⟨v41, ev41, h⟩ := Option.bind_eq_some_iff.mp h
                  refine K_rdS rfl ev41 ?_
                  obtain ⟨r42, er42, h⟩ := Option.bind_eq_some_iff.mp h
                  refine K_cV [.int v40, .int v41] [.int r39.1] rfl rfl (Nat.le_of_ble_eq_true rfl) (Nat.le_of_ble_eq_true rfl) sh_436 hr39 rfl (EV_le (Nat.le_of_ble_eq_true rfl) (F_Model_grave hr39  er42)) (fun v' M' hq => ?_)
                  obtain ⟨rfl, rfl, hr42⟩ := hq
                  refine K_ic_eq rfl (fun c43 => ?_) (fun c43 => ?_)
                  · rw [if_pos c43] at h
                    refine K_pick [0, 1, 2, 3] ?_
                    exact L_J_law_1021   (L_J_law_18    n) _ _ hr42  h
                  · rw [if_neg c43] at h
                    refine K_iconst (v := 0) rfl (by decide) ?_
                    obtain rfl := Option.some.inj h
                    exact K_iret rfl (Or.inr ⟨rfl, by decide⟩) ⟨rfl, rfl, hr42⟩
                · rw [if_neg c44] at h
                  by_cases c52 : (v2 &&& 31) = 6
                  · rw [if_pos c52] at h
                    refine K_ts (t := 332) rfl (fun _ => by rw [c52]; rfl) ?_
                    refine K_aload_n rfl 1 rfl ?_
                    refine K_aload_n rfl 0 rfl ?_
                    refine K_iload_n rfl 3 rfl ?_
                    refine K_iconst (v := 1) rfl (by decide) ?_
                    refine K_iadd rfl ?_
                    obtain ⟨v45, ev45, h⟩ := Option.bind_eq_some_iff.mp h
                    refine K_rdS rfl ev45 ?_
                    refine K_aload_n rfl 0 rfl ?_
                    refine K_iload_n rfl 3 rfl ?_
                    refine K_iconst (v := 2) rfl (by decide) ?_
                    refine K_iadd rfl ?_
                    obtain ⟨v46, ev46, h⟩ := Option.bind_eq_some_iff.mp h
                    refine K_rdS rfl ev46 ?_
                    obtain ⟨r47, er47, h⟩ := Option.bind_eq_some_iff.mp h
                    refine K_cV [.int v45, .int v46] [] rfl rfl (Nat.le_of_ble_eq_true rfl) (Nat.le_of_ble_eq_true rfl) sh_0 hM rfl (EV_le (Nat.le_of_ble_eq_true rfl) (F_GraveRails_stone hM  er47)) (fun v' M' hq => ?_)
                    obtain ⟨rfl, rfl, hr47⟩ := hq
                    refine K_aload_n rfl 2 rfl ?_
                    refine K_aload_n rfl 0 rfl ?_
                    refine K_iload_n rfl 3 rfl ?_
                    refine K_iconst (v := 1) rfl (by decide) ?_
                    refine K_iadd rfl ?_
                    obtain ⟨v48, ev48, h⟩ := Option.bind_eq_some_iff.mp h
                    refine K_rdS rfl ev48 ?_
                    refine K_aload_n rfl 0 rfl ?_
                    refine K_iload_n rfl 3 rfl ?_
                    refine K_iconst (v := 2) rfl (by decide) ?_
                    refine K_iadd rfl ?_
                    obtain ⟨v49, ev49, h⟩ := Option.bind_eq_some_iff.mp h
                    refine K_rdS rfl ev49 ?_
                    obtain ⟨r50, er50, h⟩ := Option.bind_eq_some_iff.mp h
                    refine K_cV [.int v48, .int v49] [.int r47.1] rfl rfl (Nat.le_of_ble_eq_true rfl) (Nat.le_of_ble_eq_true rfl) sh_436 hr47 rfl (EV_le (Nat.le_of_ble_eq_true rfl) (F_Model_stone hr47  er50)) (fun v' M' hq => ?_)
                    obtain ⟨rfl, rfl, hr50⟩ := hq
                    refine K_ic_eq rfl (fun c51 => ?_) (fun c51 => ?_)
                    · rw [if_pos c51] at h
                      refine K_pick [0, 1, 2, 3] ?_
                      exact L_J_law_1021   (L_J_law_18    n) _ _ hr50  h
                    · rw [if_neg c51] at h
                      refine K_iconst (v := 0) rfl (by decide) ?_
                      obtain rfl := Option.some.inj h
                      exact K_iret rfl (Or.inr ⟨rfl, by decide⟩) ⟨rfl, rfl, hr50⟩
                  · rw [if_neg c52] at h
                    by_cases c60 : (v2 &&& 31) = 7
                    · rw [if_pos c60] at h
                      refine K_ts (t := 365) rfl (fun _ => by rw [c60]; rfl) ?_
                      refine K_aload_n rfl 1 rfl ?_
                      refine K_aload_n rfl 0 rfl ?_
                      refine K_iload_n rfl 3 rfl ?_
                      refine K_iconst (v := 1) rfl (by decide) ?_
                      refine K_iadd rfl ?_
                      obtain ⟨v53, ev53, h⟩ := Option.bind_eq_some_iff.mp h
                      refine K_rdS rfl ev53 ?_
                      refine K_aload_n rfl 0 rfl ?_
                      refine K_iload_n rfl 3 rfl ?_
                      refine K_iconst (v := 2) rfl (by decide) ?_
                      refine K_iadd rfl ?_
                      obtain ⟨v54, ev54, h⟩ := Option.bind_eq_some_iff.mp h
                      refine K_rdS rfl ev54 ?_
                      obtain ⟨r55, er55, h⟩ := Option.bind_eq_some_iff.mp h
                      refine K_cV [.int v53, .int v54] [] rfl rfl (Nat.le_of_ble_eq_true rfl) (Nat.le_of_ble_eq_true rfl) sh_0 hM rfl (EV_le (Nat.le_of_ble_eq_true rfl) (F_GraveRails_at hM  er55)) (fun v' M' hq => ?_)
                      obtain ⟨rfl, rfl, hr55⟩ := hq
                      refine K_aload_n rfl 2 rfl ?_
                      refine K_aload_n rfl 0 rfl ?_
                      refine K_iload_n rfl 3 rfl ?_
                      refine K_iconst (v := 1) rfl (by decide) ?_
                      refine K_iadd rfl ?_
                      obtain ⟨v56, ev56, h⟩ := Option.bind_eq_some_iff.mp h
                      refine K_rdS rfl ev56 ?_
                      refine K_aload_n rfl 0 rfl ?_
                      refine K_iload_n rfl 3 rfl ?_
                      refine K_iconst (v := 2) rfl (by decide) ?_
                      refine K_iadd rfl ?_
                      obtain ⟨v57, ev57, h⟩ := Option.bind_eq_some_iff.mp h
                      refine K_rdS rfl ev57 ?_
                      obtain ⟨r58, er58, h⟩ := Option.bind_eq_some_iff.mp h
                      refine K_cV [.int v56, .int v57] [.int r55.1] rfl rfl (Nat.le_of_ble_eq_true rfl) (Nat.le_of_ble_eq_true rfl) sh_436 hr55 rfl (EV_le (Nat.le_of_ble_eq_true rfl) (F_Model_at hr55  er58)) (fun v' M' hq => ?_)
                      obtain ⟨rfl, rfl, hr58⟩ := hq
                      refine K_ic_eq rfl (fun c59 => ?_) (fun c59 => ?_)
                      · rw [if_pos c59] at h
                        refine K_pick [0, 1, 2, 3] ?_
                        exact L_J_law_1021   (L_J_law_18    n) _ _ hr58  h
                      · rw [if_neg c59] at h
                        refine K_iconst (v := 0) rfl (by decide) ?_
                        obtain rfl := Option.some.inj h
                        exact K_iret rfl (Or.inr ⟨rfl, by decide⟩) ⟨rfl, rfl, hr58⟩
                    · rw [if_neg c60] at h
                      by_cases c68 : (v2 &&& 31) = 8
                      · rw [if_pos c68] at h
                        refine K_ts (t := 398) rfl (fun _ => by rw [c68]; rfl) ?_
                        refine K_aload_n rfl 1 rfl ?_
                        refine K_aload_n rfl 0 rfl ?_
                        refine K_iload_n rfl 3 rfl ?_
                        refine K_iconst (v := 1) rfl (by decide) ?_
                        refine K_iadd rfl ?_
                        obtain ⟨v61, ev61, h⟩ := Option.bind_eq_some_iff.mp h
                        refine K_rdS rfl ev61 ?_
                        refine K_aload_n rfl 0 rfl ?_
                        refine K_iload_n rfl 3 rfl ?_
                        refine K_iconst (v := 2) rfl (by decide) ?_
                        refine K_iadd rfl ?_
                        obtain ⟨v62, ev62, h⟩ := Option.bind_eq_some_iff.mp h
                        refine K_rdS rfl ev62 ?_
                        obtain ⟨r63, er63, h⟩ := Option.bind_eq_some_iff.mp h
                        refine K_cV [.int v61, .int v62] [] rfl rfl (Nat.le_of_ble_eq_true rfl) (Nat.le_of_ble_eq_true rfl) sh_0 hM rfl (EV_le (Nat.le_of_ble_eq_true rfl) (F_GraveRails_root hM  er63)) (fun v' M' hq => ?_)
                        obtain ⟨rfl, rfl, hr63⟩ := hq
                        refine K_aload_n rfl 2 rfl ?_
                        refine K_aload_n rfl 0 rfl ?_
                        refine K_iload_n rfl 3 rfl ?_
                        refine K_iconst (v := 1) rfl (by decide) ?_
                        refine K_iadd rfl ?_
                        obtain ⟨v64, ev64, h⟩ := Option.bind_eq_some_iff.mp h
                        refine K_rdS rfl ev64 ?_
                        refine K_aload_n rfl 0 rfl ?_
                        refine K_iload_n rfl 3 rfl ?_
                        refine K_iconst (v := 2) rfl (by decide) ?_
                        refine K_iadd rfl ?_
                        obtain ⟨v65, ev65, h⟩ := Option.bind_eq_some_iff.mp h
                        refine K_rdS rfl ev65 ?_
                        obtain ⟨r66, er66, h⟩ := Option.bind_eq_some_iff.mp h
                        refine K_cV [.int v64, .int v65] [.int r63.1] rfl rfl (Nat.le_of_ble_eq_true rfl) (Nat.le_of_ble_eq_true rfl) sh_436 hr63 rfl (EV_le (Nat.le_of_ble_eq_true rfl) (F_Model_root hr63  er66)) (fun v' M' hq => ?_)
                        obtain ⟨rfl, rfl, hr66⟩ := hq
                        refine K_ic_eq rfl (fun c67 => ?_) (fun c67 => ?_)
                        · rw [if_pos c67] at h
                          refine K_pick [0, 1, 2, 3] ?_
                          exact L_J_law_1021   (L_J_law_18    n) _ _ hr66  h
                        · rw [if_neg c67] at h
                          refine K_iconst (v := 0) rfl (by decide) ?_
                          obtain rfl := Option.some.inj h
                          exact K_iret rfl (Or.inr ⟨rfl, by decide⟩) ⟨rfl, rfl, hr66⟩
                      · rw [if_neg c68] at h
                        by_cases c72 : (v2 &&& 31) = 9
                        · rw [if_pos c72] at h
                          refine K_ts (t := 431) rfl (fun _ => by rw [c72]; rfl) ?_
                          refine K_aload_n rfl 1 rfl ?_
                          obtain ⟨r69, er69, h⟩ := Option.bind_eq_some_iff.mp h
                          refine K_cV [] [] rfl rfl (Nat.le_of_ble_eq_true rfl) (Nat.le_of_ble_eq_true rfl) sh_0 hM rfl (EV_le (Nat.le_of_ble_eq_true rfl) (F_GraveRails_year hM  er69)) (fun v' M' hq => ?_)
                          obtain ⟨rfl, rfl, hr69⟩ := hq
                          refine K_aload_n rfl 2 rfl ?_
                          obtain ⟨r70, er70, h⟩ := Option.bind_eq_some_iff.mp h
                          refine K_cV [] [.int r69.1] rfl rfl (Nat.le_of_ble_eq_true rfl) (Nat.le_of_ble_eq_true rfl) sh_436 hr69 rfl (EV_le (Nat.le_of_ble_eq_true rfl) (F_Model_year hr69  er70)) (fun v' M' hq => ?_)
                          obtain ⟨rfl, rfl, hr70⟩ := hq
                          refine K_ic_eq rfl (fun c71 => ?_) (fun c71 => ?_)
                          · rw [if_pos c71] at h
                            refine K_pick [0, 1, 2, 3] ?_
                            exact L_J_law_1021   (L_J_law_18    n) _ _ hr70  h
                          · rw [if_neg c71] at h
                            refine K_iconst (v := 0) rfl (by decide) ?_
                            obtain rfl := Option.some.inj h
                            exact K_iret rfl (Or.inr ⟨rfl, by decide⟩) ⟨rfl, rfl, hr70⟩
                        · rw [if_neg c72] at h
                          by_cases c82 : (v2 &&& 31) = 10
                          · rw [if_pos c82] at h
                            refine K_ts (t := 444) rfl (fun _ => by rw [c82]; rfl) ?_
                            refine K_aload_n rfl 1 rfl ?_
                            refine K_aload_n rfl 0 rfl ?_
                            refine K_iload_n rfl 3 rfl ?_
                            refine K_iconst (v := 1) rfl (by decide) ?_
                            refine K_iadd rfl ?_
                            obtain ⟨v73, ev73, h⟩ := Option.bind_eq_some_iff.mp h
                            refine K_rdS rfl ev73 ?_
                            refine K_aload_n rfl 0 rfl ?_
                            refine K_iload_n rfl 3 rfl ?_
                            refine K_iconst (v := 2) rfl (by decide) ?_
                            refine K_iadd rfl ?_
                            obtain ⟨v74, ev74, h⟩ := Option.bind_eq_some_iff.mp h
                            refine K_rdS rfl ev74 ?_
                            refine K_aload_n rfl 0 rfl ?_
                            refine K_iload_n rfl 3 rfl ?_
                            refine K_iconst (v := 3) rfl (by decide) ?_
                            refine K_iadd rfl ?_
                            obtain ⟨v75, ev75, h⟩ := Option.bind_eq_some_iff.mp h
                            refine K_rdS rfl ev75 ?_
                            obtain ⟨r76, er76, h⟩ := Option.bind_eq_some_iff.mp h
                            refine K_cV [.int v73, .int v74, .int v75] [] rfl rfl (Nat.le_of_ble_eq_true rfl) (Nat.le_of_ble_eq_true rfl) sh_0 hM rfl (EV_le (Nat.le_of_ble_eq_true rfl) (F_GraveRails_dig hM  er76)) (fun v' M' hq => ?_)
                            obtain ⟨rfl, rfl, hr76⟩ := hq
                            refine K_aload_n rfl 2 rfl ?_
                            refine K_aload_n rfl 0 rfl ?_
                            refine K_iload_n rfl 3 rfl ?_
                            refine K_iconst (v := 1) rfl (by decide) ?_
                            refine K_iadd rfl ?_
                            obtain ⟨v77, ev77, h⟩ := Option.bind_eq_some_iff.mp h
                            refine K_rdS rfl ev77 ?_
                            refine K_aload_n rfl 0 rfl ?_
                            refine K_iload_n rfl 3 rfl ?_
                            refine K_iconst (v := 2) rfl (by decide) ?_
                            refine K_iadd rfl ?_
                            obtain ⟨v78, ev78, h⟩ := Option.bind_eq_some_iff.mp h
                            refine K_rdS rfl ev78 ?_
                            refine K_aload_n rfl 0 rfl ?_
                            refine K_iload_n rfl 3 rfl ?_
                            refine K_iconst (v := 3) rfl (by decide) ?_
                            refine K_iadd rfl ?_
                            obtain ⟨v79, ev79, h⟩ := Option.bind_eq_some_iff.mp h
                            refine K_rdS rfl ev79 ?_
                            obtain ⟨r80, er80, h⟩ := Option.bind_eq_some_iff.mp h
                            refine K_cV [.int v77, .int v78, .int v79] [.int r76.1] rfl rfl (Nat.le_of_ble_eq_true rfl) (Nat.le_of_ble_eq_true rfl) sh_436 hr76 rfl (EV_le (Nat.le_of_ble_eq_true rfl) (F_Model_dig hr76  er80)) (fun v' M' hq => ?_)
                            obtain ⟨rfl, rfl, hr80⟩ := hq
                            refine K_ic_eq rfl (fun c81 => ?_) (fun c81 => ?_)
                            · rw [if_pos c81] at h
                              refine K_pick [0, 1, 2, 3] ?_
                              exact L_J_law_1021   (L_J_law_18    n) _ _ hr80  h
                            · rw [if_neg c81] at h
                              refine K_iconst (v := 0) rfl (by decide) ?_
                              obtain rfl := Option.some.inj h
                              exact K_iret rfl (Or.inr ⟨rfl, by decide⟩) ⟨rfl, rfl, hr80⟩
                          · rw [if_neg c82] at h
                            by_cases c88 : (v2 &&& 31) = 11
                            · rw [if_pos c88] at h
                              refine K_ts (t := 487) rfl (fun _ => by rw [c88]; rfl) ?_
                              refine K_aload_n rfl 1 rfl ?_
                              refine K_aload_n rfl 0 rfl ?_
                              refine K_iload_n rfl 3 rfl ?_
                              refine K_iconst (v := 1) rfl (by decide) ?_
                              refine K_iadd rfl ?_
                              obtain ⟨v83, ev83, h⟩ := Option.bind_eq_some_iff.mp h
                              refine K_rdS rfl ev83 ?_
                              obtain ⟨r84, er84, h⟩ := Option.bind_eq_some_iff.mp h
                              refine K_cV [.int v83] [] rfl rfl (Nat.le_of_ble_eq_true rfl) (Nat.le_of_ble_eq_true rfl) sh_0 hM rfl (EV_le (Nat.le_of_ble_eq_true rfl) (F_GraveRails_pay hM  er84)) (fun v' M' hq => ?_)
                              obtain ⟨rfl, rfl, hr84⟩ := hq
                              refine K_aload_n rfl 2 rfl ?_
                              refine K_aload_n rfl 0 rfl ?_
                              refine K_iload_n rfl 3 rfl ?_
                              refine K_iconst (v := 1) rfl (by decide) ?_
                              refine K_iadd rfl ?_
                              obtain ⟨v85, ev85, h⟩ := Option.bind_eq_some_iff.mp h
                              refine K_rdS rfl ev85 ?_
                              obtain ⟨r86, er86, h⟩ := Option.bind_eq_some_iff.mp h
                              refine K_cV [.int v85] [.int r84.1] rfl rfl (Nat.le_of_ble_eq_true rfl) (Nat.le_of_ble_eq_true rfl) sh_436 hr84 rfl (EV_le (Nat.le_of_ble_eq_true rfl) (F_Model_pay hr84  er86)) (fun v' M' hq => ?_)
                              obtain ⟨rfl, rfl, hr86⟩ := hq
                              refine K_ic_eq rfl (fun c87 => ?_) (fun c87 => ?_)
                              · rw [if_pos c87] at h
                                refine K_pick [0, 1, 2, 3] ?_
                                exact L_J_law_1021   (L_J_law_18    n) _ _ hr86  h
                              · rw [if_neg c87] at h
                                refine K_iconst (v := 0) rfl (by decide) ?_
                                obtain rfl := Option.some.inj h
                                exact K_iret rfl (Or.inr ⟨rfl, by decide⟩) ⟨rfl, rfl, hr86⟩
                            · rw [if_neg c88] at h
                              by_cases c94 : (v2 &&& 31) = 12
                              · rw [if_pos c94] at h
                                refine K_ts (t := 510) rfl (fun _ => by rw [c94]; rfl) ?_
                                refine K_aload_n rfl 1 rfl ?_
                                refine K_aload_n rfl 0 rfl ?_
                                refine K_iload_n rfl 3 rfl ?_
                                refine K_iconst (v := 1) rfl (by decide) ?_
                                refine K_iadd rfl ?_
                                obtain ⟨v89, ev89, h⟩ := Option.bind_eq_some_iff.mp h
                                refine K_rdS rfl ev89 ?_
                                obtain ⟨r90, er90, h⟩ := Option.bind_eq_some_iff.mp h
                                refine K_cV [.int v89] [] rfl rfl (Nat.le_of_ble_eq_true rfl) (Nat.le_of_ble_eq_true rfl) sh_0 hM rfl (EV_le (Nat.le_of_ble_eq_true rfl) (F_GraveRails_frost hM  er90)) (fun v' M' hq => ?_)
                                obtain ⟨rfl, rfl, hr90⟩ := hq
                                refine K_aload_n rfl 2 rfl ?_
                                refine K_aload_n rfl 0 rfl ?_
                                refine K_iload_n rfl 3 rfl ?_
                                refine K_iconst (v := 1) rfl (by decide) ?_
                                refine K_iadd rfl ?_
                                obtain ⟨v91, ev91, h⟩ := Option.bind_eq_some_iff.mp h
                                refine K_rdS rfl ev91 ?_
                                obtain ⟨r92, er92, h⟩ := Option.bind_eq_some_iff.mp h
                                refine K_cV [.int v91] [.int r90.1] rfl rfl (Nat.le_of_ble_eq_true rfl) (Nat.le_of_ble_eq_true rfl) sh_436 hr90 rfl (EV_le (Nat.le_of_ble_eq_true rfl) (F_Model_frost hr90  er92)) (fun v' M' hq => ?_)
                                obtain ⟨rfl, rfl, hr92⟩ := hq
                                refine K_ic_eq rfl (fun c93 => ?_) (fun c93 => ?_)
                                · rw [if_pos c93] at h
                                  refine K_pick [0, 1, 2, 3] ?_
                                  exact L_J_law_1021   (L_J_law_18    n) _ _ hr92  h
                                · rw [if_neg c93] at h
                                  refine K_iconst (v := 0) rfl (by decide) ?_
                                  obtain rfl := Option.some.inj h
                                  exact K_iret rfl (Or.inr ⟨rfl, by decide⟩) ⟨rfl, rfl, hr92⟩
                              · rw [if_neg c94] at h
                                by_cases c98 : (v2 &&& 31) = 13
                                · rw [if_pos c98] at h
                                  refine K_ts (t := 533) rfl (fun _ => by rw [c98]; rfl) ?_
                                  refine K_aload_n rfl 1 rfl ?_
                                  obtain ⟨r95, er95, h⟩ := Option.bind_eq_some_iff.mp h
                                  refine K_cV [] [] rfl rfl (Nat.le_of_ble_eq_true rfl) (Nat.le_of_ble_eq_true rfl) sh_0 hM rfl (EV_le (Nat.le_of_ble_eq_true rfl) (F_GraveRails_undo hM  er95)) (fun v' M' hq => ?_)
                                  obtain ⟨rfl, rfl, hr95⟩ := hq
                                  refine K_aload_n rfl 2 rfl ?_
                                  obtain ⟨r96, er96, h⟩ := Option.bind_eq_some_iff.mp h
                                  refine K_cV [] [.int r95.1] rfl rfl (Nat.le_of_ble_eq_true rfl) (Nat.le_of_ble_eq_true rfl) sh_436 hr95 rfl (EV_le (Nat.le_of_ble_eq_true rfl) (F_Model_undo hr95  er96)) (fun v' M' hq => ?_)
                                  obtain ⟨rfl, rfl, hr96⟩ := hq
                                  refine K_ic_eq rfl (fun c97 => ?_) (fun c97 => ?_)
                                  · rw [if_pos c97] at h
                                    refine K_pick [0, 1, 2, 3] ?_
                                    exact L_J_law_1021   (L_J_law_18    n) _ _ hr96  h
                                  · rw [if_neg c97] at h
                                    refine K_iconst (v := 0) rfl (by decide) ?_
                                    obtain rfl := Option.some.inj h
                                    exact K_iret rfl (Or.inr ⟨rfl, by decide⟩) ⟨rfl, rfl, hr96⟩
                                · rw [if_neg c98] at h
                                  by_cases c108 : (v2 &&& 31) = 14
                                  · rw [if_pos c108] at h
                                    refine K_ts (t := 546) rfl (fun _ => by rw [c108]; rfl) ?_
                                    refine K_aload_n rfl 1 rfl ?_
                                    refine K_aload_n rfl 0 rfl ?_
                                    refine K_iload_n rfl 3 rfl ?_
                                    refine K_iconst (v := 1) rfl (by decide) ?_
                                    refine K_iadd rfl ?_
                                    obtain ⟨v99, ev99, h⟩ := Option.bind_eq_some_iff.mp h
                                    refine K_rdS rfl ev99 ?_
                                    refine K_aload_n rfl 0 rfl ?_
                                    refine K_iload_n rfl 3 rfl ?_
                                    refine K_iconst (v := 2) rfl (by decide) ?_
                                    refine K_iadd rfl ?_
                                    obtain ⟨v100, ev100, h⟩ := Option.bind_eq_some_iff.mp h
                                    refine K_rdS rfl ev100 ?_
                                    refine K_aload_n rfl 0 rfl ?_
                                    refine K_iload_n rfl 3 rfl ?_
                                    refine K_iconst (v := 3) rfl (by decide) ?_
                                    refine K_iadd rfl ?_
                                    obtain ⟨v101, ev101, h⟩ := Option.bind_eq_some_iff.mp h
                                    refine K_rdS rfl ev101 ?_
                                    obtain ⟨r102, er102, h⟩ := Option.bind_eq_some_iff.mp h
                                    refine K_cV [.int v99, .int v100, .int v101] [] rfl rfl (Nat.le_of_ble_eq_true rfl) (Nat.le_of_ble_eq_true rfl) sh_0 hM rfl (EV_le (Nat.le_of_ble_eq_true rfl) (F_GraveRails_ahead hM  er102)) (fun v' M' hq => ?_)
                                    obtain ⟨rfl, rfl, hr102⟩ := hq
                                    refine K_aload_n rfl 2 rfl ?_
                                    refine K_aload_n rfl 0 rfl ?_
                                    refine K_iload_n rfl 3 rfl ?_
                                    refine K_iconst (v := 1) rfl (by decide) ?_
                                    refine K_iadd rfl ?_
                                    obtain ⟨v103, ev103, h⟩ := Option.bind_eq_some_iff.mp h
                                    refine K_rdS rfl ev103 ?_
                                    refine K_aload_n rfl 0 rfl ?_
                                    refine K_iload_n rfl 3 rfl ?_
                                    refine K_iconst (v := 2) rfl (by decide) ?_
                                    refine K_iadd rfl ?_
                                    obtain ⟨v104, ev104, h⟩ := Option.bind_eq_some_iff.mp h
                                    refine K_rdS rfl ev104 ?_
                                    refine K_aload_n rfl 0 rfl ?_
                                    refine K_iload_n rfl 3 rfl ?_
                                    refine K_iconst (v := 3) rfl (by decide) ?_
                                    refine K_iadd rfl ?_
                                    obtain ⟨v105, ev105, h⟩ := Option.bind_eq_some_iff.mp h
                                    refine K_rdS rfl ev105 ?_
                                    obtain ⟨r106, er106, h⟩ := Option.bind_eq_some_iff.mp h
                                    refine K_cV [.int v103, .int v104, .int v105] [.int r102.1] rfl rfl (Nat.le_of_ble_eq_true rfl) (Nat.le_of_ble_eq_true rfl) sh_436 hr102 rfl (EV_le (Nat.le_of_ble_eq_true rfl) (F_Model_ahead hr102  er106)) (fun v' M' hq => ?_)
                                    obtain ⟨rfl, rfl, hr106⟩ := hq
                                    refine K_ic_eq rfl (fun c107 => ?_) (fun c107 => ?_)
                                    · rw [if_pos c107] at h
                                      refine K_pick [0, 1, 2, 3] ?_
                                      exact L_J_law_1021   (L_J_law_18    n) _ _ hr106  h
                                    · rw [if_neg c107] at h
                                      refine K_iconst (v := 0) rfl (by decide) ?_
                                      obtain rfl := Option.some.inj h
                                      exact K_iret rfl (Or.inr ⟨rfl, by decide⟩) ⟨rfl, rfl, hr106⟩
                                  · rw [if_neg c108] at h
                                    by_cases c114 : (v2 &&& 31) = 15
                                    · rw [if_pos c114] at h
                                      refine K_ts (t := 589) rfl (fun _ => by rw [c114]; rfl) ?_
                                      refine K_aload_n rfl 1 rfl ?_
                                      refine K_aload_n rfl 0 rfl ?_
                                      refine K_iload_n rfl 3 rfl ?_
                                      refine K_iconst (v := 1) rfl (by decide) ?_
                                      refine K_iadd rfl ?_
                                      obtain ⟨v109, ev109, h⟩ := Option.bind_eq_some_iff.mp h
                                      refine K_rdS rfl ev109 ?_
                                      obtain ⟨r110, er110, h⟩ := Option.bind_eq_some_iff.mp h
                                      refine K_cV [.int v109] [] rfl rfl (Nat.le_of_ble_eq_true rfl) (Nat.le_of_ble_eq_true rfl) sh_0 hM rfl (EV_le (Nat.le_of_ble_eq_true rfl) (F_GraveRails_fall hM  er110)) (fun v' M' hq => ?_)
                                      obtain ⟨rfl, rfl, hr110⟩ := hq
                                      refine K_aload_n rfl 2 rfl ?_
                                      refine K_aload_n rfl 0 rfl ?_
                                      refine K_iload_n rfl 3 rfl ?_
                                      refine K_iconst (v := 1) rfl (by decide) ?_
                                      refine K_iadd rfl ?_
                                      obtain ⟨v111, ev111, h⟩ := Option.bind_eq_some_iff.mp h
                                      refine K_rdS rfl ev111 ?_
                                      obtain ⟨r112, er112, h⟩ := Option.bind_eq_some_iff.mp h
                                      refine K_cV [.int v111] [.int r110.1] rfl rfl (Nat.le_of_ble_eq_true rfl) (Nat.le_of_ble_eq_true rfl) sh_436 hr110 rfl (EV_le (Nat.le_of_ble_eq_true rfl) (F_Model_fall hr110  er112)) (fun v' M' hq => ?_)
                                      obtain ⟨rfl, rfl, hr112⟩ := hq
                                      refine K_ic_eq rfl (fun c113 => ?_) (fun c113 => ?_)
                                      · rw [if_pos c113] at h
                                        refine K_pick [0, 1, 2, 3] ?_
                                        exact L_J_law_1021   (L_J_law_18    n) _ _ hr112  h
                                      · rw [if_neg c113] at h
                                        refine K_iconst (v := 0) rfl (by decide) ?_
                                        obtain rfl := Option.some.inj h
                                        exact K_iret rfl (Or.inr ⟨rfl, by decide⟩) ⟨rfl, rfl, hr112⟩
                                    · rw [if_neg c114] at h
                                      by_cases c122 : (v2 &&& 31) = 16
                                      · rw [if_pos c122] at h
                                        refine K_ts (t := 612) rfl (fun _ => by rw [c122]; rfl) ?_
                                        refine K_aload_n rfl 1 rfl ?_
                                        refine K_aload_n rfl 0 rfl ?_
                                        refine K_iload_n rfl 3 rfl ?_
                                        refine K_iconst (v := 1) rfl (by decide) ?_
                                        refine K_iadd rfl ?_
                                        obtain ⟨v115, ev115, h⟩ := Option.bind_eq_some_iff.mp h
                                        refine K_rdS rfl ev115 ?_
                                        refine K_aload_n rfl 0 rfl ?_
                                        refine K_iload_n rfl 3 rfl ?_
                                        refine K_iconst (v := 2) rfl (by decide) ?_
                                        refine K_iadd rfl ?_
                                        obtain ⟨v116, ev116, h⟩ := Option.bind_eq_some_iff.mp h
                                        refine K_rdS rfl ev116 ?_
                                        obtain ⟨r117, er117, h⟩ := Option.bind_eq_some_iff.mp h
                                        refine K_cV [.int v115, .int v116] [] rfl rfl (Nat.le_of_ble_eq_true rfl) (Nat.le_of_ble_eq_true rfl) sh_0 hM rfl (EV_le (Nat.le_of_ble_eq_true rfl) (F_GraveRails_abreast hM  er117)) (fun v' M' hq => ?_)
                                        obtain ⟨rfl, rfl, hr117⟩ := hq
                                        refine K_aload_n rfl 2 rfl ?_
                                        refine K_aload_n rfl 0 rfl ?_
                                        refine K_iload_n rfl 3 rfl ?_
                                        refine K_iconst (v := 1) rfl (by decide) ?_
                                        refine K_iadd rfl ?_
                                        obtain ⟨v118, ev118, h⟩ := Option.bind_eq_some_iff.mp h
                                        refine K_rdS rfl ev118 ?_
                                        refine K_aload_n rfl 0 rfl ?_
                                        refine K_iload_n rfl 3 rfl ?_
                                        refine K_iconst (v := 2) rfl (by decide) ?_
                                        refine K_iadd rfl ?_
                                        obtain ⟨v119, ev119, h⟩ := Option.bind_eq_some_iff.mp h
                                        refine K_rdS rfl ev119 ?_
                                        obtain ⟨r120, er120, h⟩ := Option.bind_eq_some_iff.mp h
                                        refine K_cV [.int v118, .int v119] [.int r117.1] rfl rfl (Nat.le_of_ble_eq_true rfl) (Nat.le_of_ble_eq_true rfl) sh_436 hr117 rfl (EV_le (Nat.le_of_ble_eq_true rfl) (F_Model_abreast hr117  er120)) (fun v' M' hq => ?_)
                                        obtain ⟨rfl, rfl, hr120⟩ := hq
                                        refine K_ic_eq rfl (fun c121 => ?_) (fun c121 => ?_)
                                        · rw [if_pos c121] at h
                                          refine K_pick [0, 1, 2, 3] ?_
                                          exact L_J_law_1021   (L_J_law_18    n) _ _ hr120  h
                                        · rw [if_neg c121] at h
                                          refine K_iconst (v := 0) rfl (by decide) ?_
                                          obtain rfl := Option.some.inj h
                                          exact K_iret rfl (Or.inr ⟨rfl, by decide⟩) ⟨rfl, rfl, hr120⟩
                                      · rw [if_neg c122] at h
                                        by_cases c130 : (v2 &&& 31) = 17
                                        · rw [if_pos c130] at h
                                          refine K_ts (t := 645) rfl (fun _ => by rw [c130]; rfl) ?_
                                          refine K_aload_n rfl 1 rfl ?_
                                          refine K_aload_n rfl 0 rfl ?_
                                          refine K_iload_n rfl 3 rfl ?_
                                          refine K_iconst (v := 1) rfl (by decide) ?_
                                          refine K_iadd rfl ?_
                                          obtain ⟨v123, ev123, h⟩ := Option.bind_eq_some_iff.mp h
                                          refine K_rdS rfl ev123 ?_
                                          refine K_aload_n rfl 0 rfl ?_
                                          refine K_iload_n rfl 3 rfl ?_
                                          refine K_iconst (v := 2) rfl (by decide) ?_
                                          refine K_iadd rfl ?_
                                          obtain ⟨v124, ev124, h⟩ := Option.bind_eq_some_iff.mp h
                                          refine K_rdS rfl ev124 ?_
                                          obtain ⟨r125, er125, h⟩ := Option.bind_eq_some_iff.mp h
                                          refine K_cV [.int v123, .int v124] [] rfl rfl (Nat.le_of_ble_eq_true rfl) (Nat.le_of_ble_eq_true rfl) sh_0 hM rfl (EV_le (Nat.le_of_ble_eq_true rfl) (F_GraveRails_begin hM  er125)) (fun v' M' hq => ?_)
                                          obtain ⟨rfl, rfl, hr125⟩ := hq
                                          refine K_aload_n rfl 2 rfl ?_
                                          refine K_aload_n rfl 0 rfl ?_
                                          refine K_iload_n rfl 3 rfl ?_
                                          refine K_iconst (v := 1) rfl (by decide) ?_
                                          refine K_iadd rfl ?_
                                          obtain ⟨v126, ev126, h⟩ := Option.bind_eq_some_iff.mp h
                                          refine K_rdS rfl ev126 ?_
                                          refine K_aload_n rfl 0 rfl ?_
                                          refine K_iload_n rfl 3 rfl ?_
                                          refine K_iconst (v := 2) rfl (by decide) ?_
                                          refine K_iadd rfl ?_
                                          obtain ⟨v127, ev127, h⟩ := Option.bind_eq_some_iff.mp h
                                          refine K_rdS rfl ev127 ?_
                                          obtain ⟨r128, er128, h⟩ := Option.bind_eq_some_iff.mp h
                                          refine K_cV [.int v126, .int v127] [.int r125.1] rfl rfl (Nat.le_of_ble_eq_true rfl) (Nat.le_of_ble_eq_true rfl) sh_436 hr125 rfl (EV_le (Nat.le_of_ble_eq_true rfl) (F_Model_begin hr125  er128)) (fun v' M' hq => ?_)
                                          obtain ⟨rfl, rfl, hr128⟩ := hq
                                          refine K_ic_eq rfl (fun c129 => ?_) (fun c129 => ?_)
                                          · rw [if_pos c129] at h
                                            refine K_pick [0, 1, 2, 3] ?_
                                            exact L_J_law_1021   (L_J_law_18    n) _ _ hr128  h
                                          · rw [if_neg c129] at h
                                            refine K_iconst (v := 0) rfl (by decide) ?_
                                            obtain rfl := Option.some.inj h
                                            exact K_iret rfl (Or.inr ⟨rfl, by decide⟩) ⟨rfl, rfl, hr128⟩
                                        · rw [if_neg c130] at h
                                          by_cases c142 : (v2 &&& 31) = 18
                                          · rw [if_pos c142] at h
                                            refine K_ts (t := 678) rfl (fun _ => by rw [c142]; rfl) ?_
                                            refine K_aload_n rfl 1 rfl ?_
                                            refine K_aload_n rfl 0 rfl ?_
                                            refine K_iload_n rfl 3 rfl ?_
                                            refine K_iconst (v := 1) rfl (by decide) ?_
                                            refine K_iadd rfl ?_
                                            obtain ⟨v131, ev131, h⟩ := Option.bind_eq_some_iff.mp h
                                            refine K_rdS rfl ev131 ?_
                                            refine K_aload_n rfl 0 rfl ?_
                                            refine K_iload_n rfl 3 rfl ?_
                                            refine K_iconst (v := 2) rfl (by decide) ?_
                                            refine K_iadd rfl ?_
                                            obtain ⟨v132, ev132, h⟩ := Option.bind_eq_some_iff.mp h
                                            refine K_rdS rfl ev132 ?_
                                            refine K_aload_n rfl 0 rfl ?_
                                            refine K_iload_n rfl 3 rfl ?_
                                            refine K_iconst (v := 3) rfl (by decide) ?_
                                            refine K_iadd rfl ?_
                                            obtain ⟨v133, ev133, h⟩ := Option.bind_eq_some_iff.mp h
                                            refine K_rdS rfl ev133 ?_
                                            refine K_aload_n rfl 0 rfl ?_
                                            refine K_iload_n rfl 3 rfl ?_
                                            refine K_iconst (v := 4) rfl (by decide) ?_
                                            refine K_iadd rfl ?_
                                            obtain ⟨v134, ev134, h⟩ := Option.bind_eq_some_iff.mp h
                                            refine K_rdS rfl ev134 ?_
                                            obtain ⟨r135, er135, h⟩ := Option.bind_eq_some_iff.mp h
                                            refine K_cV [.int v131, .int v132, .int v133, .int v134] [] rfl rfl (Nat.le_of_ble_eq_true rfl) (Nat.le_of_ble_eq_true rfl) sh_0 hM rfl (EV_le (Nat.le_of_ble_eq_true rfl) (F_GraveRails_dug hM  er135)) (fun v' M' hq => ?_)
                                            obtain ⟨rfl, rfl, hr135⟩ := hq
                                            refine K_aload_n rfl 2 rfl ?_
                                            refine K_aload_n rfl 0 rfl ?_
                                            refine K_iload_n rfl 3 rfl ?_
                                            refine K_iconst (v := 1) rfl (by decide) ?_
                                            refine K_iadd rfl ?_
                                            obtain ⟨v136, ev136, h⟩ := Option.bind_eq_some_iff.mp h
                                            refine K_rdS rfl ev136 ?_
                                            refine K_aload_n rfl 0 rfl ?_
                                            refine K_iload_n rfl 3 rfl ?_
                                            refine K_iconst (v := 2) rfl (by decide) ?_
                                            refine K_iadd rfl ?_
                                            obtain ⟨v137, ev137, h⟩ := Option.bind_eq_some_iff.mp h
                                            refine K_rdS rfl ev137 ?_
                                            refine K_aload_n rfl 0 rfl ?_
                                            refine K_iload_n rfl 3 rfl ?_
                                            refine K_iconst (v := 3) rfl (by decide) ?_
                                            refine K_iadd rfl ?_
                                            obtain ⟨v138, ev138, h⟩ := Option.bind_eq_some_iff.mp h
                                            refine K_rdS rfl ev138 ?_
                                            refine K_aload_n rfl 0 rfl ?_
                                            refine K_iload_n rfl 3 rfl ?_
                                            refine K_iconst (v := 4) rfl (by decide) ?_
                                            refine K_iadd rfl ?_
                                            obtain ⟨v139, ev139, h⟩ := Option.bind_eq_some_iff.mp h
                                            refine K_rdS rfl ev139 ?_
                                            obtain ⟨r140, er140, h⟩ := Option.bind_eq_some_iff.mp h
                                            refine K_cV [.int v136, .int v137, .int v138, .int v139] [.int r135.1] rfl rfl (Nat.le_of_ble_eq_true rfl) (Nat.le_of_ble_eq_true rfl) sh_436 hr135 rfl (EV_le (Nat.le_of_ble_eq_true rfl) (F_Model_dug hr135  er140)) (fun v' M' hq => ?_)
                                            obtain ⟨rfl, rfl, hr140⟩ := hq
                                            refine K_ic_eq rfl (fun c141 => ?_) (fun c141 => ?_)
                                            · rw [if_pos c141] at h
                                              refine K_pick [0, 1, 2, 3] ?_
                                              exact L_J_law_1021   (L_J_law_18    n) _ _ hr140  h
                                            · rw [if_neg c141] at h
                                              refine K_iconst (v := 0) rfl (by decide) ?_
                                              obtain rfl := Option.some.inj h
                                              exact K_iret rfl (Or.inr ⟨rfl, by decide⟩) ⟨rfl, rfl, hr140⟩
                                          · rw [if_neg c142] at h
                                            by_cases c152 : (v2 &&& 31) = 19
                                            · rw [if_pos c152] at h
                                              refine K_ts (t := 731) rfl (fun _ => by rw [c152]; rfl) ?_
                                              refine K_aload_n rfl 1 rfl ?_
                                              refine K_aload_n rfl 0 rfl ?_
                                              refine K_iload_n rfl 3 rfl ?_
                                              refine K_iconst (v := 1) rfl (by decide) ?_
                                              refine K_iadd rfl ?_
                                              obtain ⟨v143, ev143, h⟩ := Option.bind_eq_some_iff.mp h
                                              refine K_rdS rfl ev143 ?_
                                              refine K_aload_n rfl 0 rfl ?_
                                              refine K_iload_n rfl 3 rfl ?_
                                              refine K_iconst (v := 2) rfl (by decide) ?_
                                              refine K_iadd rfl ?_
                                              obtain ⟨v144, ev144, h⟩ := Option.bind_eq_some_iff.mp h
                                              refine K_rdS rfl ev144 ?_
                                              refine K_aload_n rfl 0 rfl ?_
                                              refine K_iload_n rfl 3 rfl ?_
                                              refine K_iconst (v := 3) rfl (by decide) ?_
                                              refine K_iadd rfl ?_
                                              obtain ⟨v145, ev145, h⟩ := Option.bind_eq_some_iff.mp h
                                              refine K_rdS rfl ev145 ?_
                                              obtain ⟨r146, er146, h⟩ := Option.bind_eq_some_iff.mp h
                                              refine K_cV [.int v143, .int v144, .int v145] [] rfl rfl (Nat.le_of_ble_eq_true rfl) (Nat.le_of_ble_eq_true rfl) sh_0 hM rfl (EV_le (Nat.le_of_ble_eq_true rfl) (F_GraveRails_sight hM  er146)) (fun v' M' hq => ?_)
                                              obtain ⟨rfl, rfl, hr146⟩ := hq
                                              refine K_aload_n rfl 2 rfl ?_
                                              refine K_aload_n rfl 0 rfl ?_
                                              refine K_iload_n rfl 3 rfl ?_
                                              refine K_iconst (v := 1) rfl (by decide) ?_
                                              refine K_iadd rfl ?_
                                              obtain ⟨v147, ev147, h⟩ := Option.bind_eq_some_iff.mp h
                                              refine K_rdS rfl ev147 ?_
                                              refine K_aload_n rfl 0 rfl ?_
                                              refine K_iload_n rfl 3 rfl ?_
                                              refine K_iconst (v := 2) rfl (by decide) ?_
                                              refine K_iadd rfl ?_
                                              obtain ⟨v148, ev148, h⟩ := Option.bind_eq_some_iff.mp h
                                              refine K_rdS rfl ev148 ?_
                                              refine K_aload_n rfl 0 rfl ?_
                                              refine K_iload_n rfl 3 rfl ?_
                                              refine K_iconst (v := 3) rfl (by decide) ?_
                                              refine K_iadd rfl ?_
                                              obtain ⟨v149, ev149, h⟩ := Option.bind_eq_some_iff.mp h
                                              refine K_rdS rfl ev149 ?_
                                              obtain ⟨r150, er150, h⟩ := Option.bind_eq_some_iff.mp h
                                              refine K_cV [.int v147, .int v148, .int v149] [.int r146.1] rfl rfl (Nat.le_of_ble_eq_true rfl) (Nat.le_of_ble_eq_true rfl) sh_436 hr146 rfl (EV_le (Nat.le_of_ble_eq_true rfl) (F_Model_sight hr146  er150)) (fun v' M' hq => ?_)
                                              obtain ⟨rfl, rfl, hr150⟩ := hq
                                              refine K_ic_eq rfl (fun c151 => ?_) (fun c151 => ?_)
                                              · rw [if_pos c151] at h
                                                refine K_pick [0, 1, 2, 3] ?_
                                                exact L_J_law_1021   (L_J_law_18    n) _ _ hr150  h
                                              · rw [if_neg c151] at h
                                                refine K_iconst (v := 0) rfl (by decide) ?_
                                                obtain rfl := Option.some.inj h
                                                exact K_iret rfl (Or.inr ⟨rfl, by decide⟩) ⟨rfl, rfl, hr150⟩
                                            · rw [if_neg c152] at h
                                              by_cases c158 : (v2 &&& 31) = 20
                                              · rw [if_pos c158] at h
                                                refine K_ts (t := 774) rfl (fun _ => by rw [c158]; rfl) ?_
                                                refine K_aload_n rfl 1 rfl ?_
                                                refine K_aload_n rfl 0 rfl ?_
                                                refine K_iload_n rfl 3 rfl ?_
                                                refine K_iconst (v := 1) rfl (by decide) ?_
                                                refine K_iadd rfl ?_
                                                obtain ⟨v153, ev153, h⟩ := Option.bind_eq_some_iff.mp h
                                                refine K_rdS rfl ev153 ?_
                                                obtain ⟨r154, er154, h⟩ := Option.bind_eq_some_iff.mp h
                                                refine K_cV [.int v153] [] rfl rfl (Nat.le_of_ble_eq_true rfl) (Nat.le_of_ble_eq_true rfl) sh_0 hM rfl (EV_le (Nat.le_of_ble_eq_true rfl) (F_GraveRails_unpaid hM  er154)) (fun v' M' hq => ?_)
                                                obtain ⟨rfl, rfl, hr154⟩ := hq
                                                refine K_aload_n rfl 2 rfl ?_
                                                refine K_aload_n rfl 0 rfl ?_
                                                refine K_iload_n rfl 3 rfl ?_
                                                refine K_iconst (v := 1) rfl (by decide) ?_
                                                refine K_iadd rfl ?_
                                                obtain ⟨v155, ev155, h⟩ := Option.bind_eq_some_iff.mp h
                                                refine K_rdS rfl ev155 ?_
                                                obtain ⟨r156, er156, h⟩ := Option.bind_eq_some_iff.mp h
                                                refine K_cV [.int v155] [.int r154.1] rfl rfl (Nat.le_of_ble_eq_true rfl) (Nat.le_of_ble_eq_true rfl) sh_436 hr154 rfl (EV_le (Nat.le_of_ble_eq_true rfl) (F_Model_unpaid hr154  er156)) (fun v' M' hq => ?_)
                                                obtain ⟨rfl, rfl, hr156⟩ := hq
                                                refine K_ic_eq rfl (fun c157 => ?_) (fun c157 => ?_)
                                                · rw [if_pos c157] at h
                                                  refine K_pick [0, 1, 2, 3] ?_
                                                  exact L_J_law_1021   (L_J_law_18    n) _ _ hr156  h
                                                · rw [if_neg c157] at h
                                                  refine K_iconst (v := 0) rfl (by decide) ?_
                                                  obtain rfl := Option.some.inj h
                                                  exact K_iret rfl (Or.inr ⟨rfl, by decide⟩) ⟨rfl, rfl, hr156⟩
                                              · rw [if_neg c158] at h
                                                by_cases c166 : (v2 &&& 31) = 21
                                                · rw [if_pos c166] at h
                                                  refine K_ts (t := 797) rfl (fun _ => by rw [c166]; rfl) ?_
                                                  refine K_aload_n rfl 1 rfl ?_
                                                  refine K_aload_n rfl 0 rfl ?_
                                                  refine K_iload_n rfl 3 rfl ?_
                                                  refine K_iconst (v := 1) rfl (by decide) ?_
                                                  refine K_iadd rfl ?_
                                                  obtain ⟨v159, ev159, h⟩ := Option.bind_eq_some_iff.mp h
                                                  refine K_rdS rfl ev159 ?_
                                                  refine K_aload_n rfl 0 rfl ?_
                                                  refine K_iload_n rfl 3 rfl ?_
                                                  refine K_iconst (v := 2) rfl (by decide) ?_
                                                  refine K_iadd rfl ?_
                                                  obtain ⟨v160, ev160, h⟩ := Option.bind_eq_some_iff.mp h
                                                  refine K_rdS rfl ev160 ?_
                                                  obtain ⟨r161, er161, h⟩ := Option.bind_eq_some_iff.mp h
                                                  refine K_cV [.int v159, .int v160] [] rfl rfl (Nat.le_of_ble_eq_true rfl) (Nat.le_of_ble_eq_true rfl) sh_0 hM rfl (EV_le (Nat.le_of_ble_eq_true rfl) (F_GraveRails_look hM  er161)) (fun v' M' hq => ?_)
                                                  obtain ⟨rfl, rfl, hr161⟩ := hq
                                                  refine K_aload_n rfl 2 rfl ?_
                                                  refine K_aload_n rfl 0 rfl ?_
                                                  refine K_iload_n rfl 3 rfl ?_
                                                  refine K_iconst (v := 1) rfl (by decide) ?_
                                                  refine K_iadd rfl ?_
                                                  obtain ⟨v162, ev162, h⟩ := Option.bind_eq_some_iff.mp h
                                                  refine K_rdS rfl ev162 ?_
                                                  refine K_aload_n rfl 0 rfl ?_
                                                  refine K_iload_n rfl 3 rfl ?_
                                                  refine K_iconst (v := 2) rfl (by decide) ?_
                                                  refine K_iadd rfl ?_
                                                  obtain ⟨v163, ev163, h⟩ := Option.bind_eq_some_iff.mp h
                                                  refine K_rdS rfl ev163 ?_
                                                  obtain ⟨r164, er164, h⟩ := Option.bind_eq_some_iff.mp h
                                                  refine K_cV [.int v162, .int v163] [.int r161.1] rfl rfl (Nat.le_of_ble_eq_true rfl) (Nat.le_of_ble_eq_true rfl) sh_436 hr161 rfl (EV_le (Nat.le_of_ble_eq_true rfl) (F_Model_look hr161  er164)) (fun v' M' hq => ?_)
                                                  obtain ⟨rfl, rfl, hr164⟩ := hq
                                                  refine K_ic_eq rfl (fun c165 => ?_) (fun c165 => ?_)
                                                  · rw [if_pos c165] at h
                                                    refine K_pick [0, 1, 2, 3] ?_
                                                    exact L_J_law_1021   (L_J_law_18    n) _ _ hr164  h
                                                  · rw [if_neg c165] at h
                                                    refine K_iconst (v := 0) rfl (by decide) ?_
                                                    obtain rfl := Option.some.inj h
                                                    exact K_iret rfl (Or.inr ⟨rfl, by decide⟩) ⟨rfl, rfl, hr164⟩
                                                · rw [if_neg c166] at h
                                                  by_cases c172 : (v2 &&& 31) = 22
                                                  · rw [if_pos c172] at h
                                                    refine K_ts (t := 830) rfl (fun _ => by rw [c172]; rfl) ?_
                                                    refine K_aload_n rfl 1 rfl ?_
                                                    refine K_aload_n rfl 0 rfl ?_
                                                    refine K_iload_n rfl 3 rfl ?_
                                                    refine K_iconst (v := 1) rfl (by decide) ?_
                                                    refine K_iadd rfl ?_
                                                    obtain ⟨v167, ev167, h⟩ := Option.bind_eq_some_iff.mp h
                                                    refine K_rdS rfl ev167 ?_
                                                    obtain ⟨r168, er168, h⟩ := Option.bind_eq_some_iff.mp h
                                                    refine K_cV [.int v167] [] rfl rfl (Nat.le_of_ble_eq_true rfl) (Nat.le_of_ble_eq_true rfl) sh_0 hM rfl (EV_le (Nat.le_of_ble_eq_true rfl) (F_GraveRails_war hM  er168)) (fun v' M' hq => ?_)
                                                    obtain ⟨rfl, rfl, hr168⟩ := hq
                                                    refine K_aload_n rfl 2 rfl ?_
                                                    refine K_aload_n rfl 0 rfl ?_
                                                    refine K_iload_n rfl 3 rfl ?_
                                                    refine K_iconst (v := 1) rfl (by decide) ?_
                                                    refine K_iadd rfl ?_
                                                    obtain ⟨v169, ev169, h⟩ := Option.bind_eq_some_iff.mp h
                                                    refine K_rdS rfl ev169 ?_
                                                    obtain ⟨r170, er170, h⟩ := Option.bind_eq_some_iff.mp h
                                                    refine K_cV [.int v169] [.int r168.1] rfl rfl (Nat.le_of_ble_eq_true rfl) (Nat.le_of_ble_eq_true rfl) sh_436 hr168 rfl (EV_le (Nat.le_of_ble_eq_true rfl) (F_Model_war hr168  er170)) (fun v' M' hq => ?_)
                                                    obtain ⟨rfl, rfl, hr170⟩ := hq
                                                    refine K_ic_eq rfl (fun c171 => ?_) (fun c171 => ?_)
                                                    · rw [if_pos c171] at h
                                                      refine K_pick [0, 1, 2, 3] ?_
                                                      exact L_J_law_1021   (L_J_law_18    n) _ _ hr170  h
                                                    · rw [if_neg c171] at h
                                                      refine K_iconst (v := 0) rfl (by decide) ?_
                                                      obtain rfl := Option.some.inj h
                                                      exact K_iret rfl (Or.inr ⟨rfl, by decide⟩) ⟨rfl, rfl, hr170⟩
                                                  · rw [if_neg c172] at h
                                                    by_cases c178 : (v2 &&& 31) = 23
                                                    · rw [if_pos c178] at h
                                                      refine K_ts (t := 853) rfl (fun _ => by rw [c178]; rfl) ?_
                                                      refine K_aload_n rfl 1 rfl ?_
                                                      refine K_aload_n rfl 0 rfl ?_
                                                      refine K_iload_n rfl 3 rfl ?_
                                                      refine K_iconst (v := 1) rfl (by decide) ?_
                                                      refine K_iadd rfl ?_
                                                      obtain ⟨v173, ev173, h⟩ := Option.bind_eq_some_iff.mp h
                                                      refine K_rdS rfl ev173 ?_
                                                      obtain ⟨r174, er174, h⟩ := Option.bind_eq_some_iff.mp h
                                                      refine K_cV [.int v173] [] rfl rfl (Nat.le_of_ble_eq_true rfl) (Nat.le_of_ble_eq_true rfl) sh_0 hM rfl (EV_le (Nat.le_of_ble_eq_true rfl) (F_GraveRails_order hM  er174)) (fun v' M' hq => ?_)
                                                      obtain ⟨rfl, rfl, hr174⟩ := hq
                                                      refine K_aload_n rfl 2 rfl ?_
                                                      refine K_aload_n rfl 0 rfl ?_
                                                      refine K_iload_n rfl 3 rfl ?_
                                                      refine K_iconst (v := 1) rfl (by decide) ?_
                                                      refine K_iadd rfl ?_
                                                      obtain ⟨v175, ev175, h⟩ := Option.bind_eq_some_iff.mp h
                                                      refine K_rdS rfl ev175 ?_
                                                      obtain ⟨r176, er176, h⟩ := Option.bind_eq_some_iff.mp h
                                                      refine K_cV [.int v175] [.int r174.1] rfl rfl (Nat.le_of_ble_eq_true rfl) (Nat.le_of_ble_eq_true rfl) sh_436 hr174 rfl (EV_le (Nat.le_of_ble_eq_true rfl) (F_Model_order hr174  er176)) (fun v' M' hq => ?_)
                                                      obtain ⟨rfl, rfl, hr176⟩ := hq
                                                      refine K_ic_eq rfl (fun c177 => ?_) (fun c177 => ?_)
                                                      · rw [if_pos c177] at h
                                                        refine K_pick [0, 1, 2, 3] ?_
                                                        exact L_J_law_1021   (L_J_law_18    n) _ _ hr176  h
                                                      · rw [if_neg c177] at h
                                                        refine K_iconst (v := 0) rfl (by decide) ?_
                                                        obtain rfl := Option.some.inj h
                                                        exact K_iret rfl (Or.inr ⟨rfl, by decide⟩) ⟨rfl, rfl, hr176⟩
                                                    · rw [if_neg c178] at h
                                                      by_cases c184 : (v2 &&& 31) = 24
                                                      · rw [if_pos c184] at h
                                                        refine K_ts (t := 876) rfl (fun _ => by rw [c184]; rfl) ?_
                                                        refine K_aload_n rfl 1 rfl ?_
                                                        refine K_aload_n rfl 0 rfl ?_
                                                        refine K_iload_n rfl 3 rfl ?_
                                                        refine K_iconst (v := 1) rfl (by decide) ?_
                                                        refine K_iadd rfl ?_
                                                        obtain ⟨v179, ev179, h⟩ := Option.bind_eq_some_iff.mp h
                                                        refine K_rdS rfl ev179 ?_
                                                        obtain ⟨r180, er180, h⟩ := Option.bind_eq_some_iff.mp h
                                                        refine K_cV [.int v179] [] rfl rfl (Nat.le_of_ble_eq_true rfl) (Nat.le_of_ble_eq_true rfl) sh_0 hM rfl (EV_le (Nat.le_of_ble_eq_true rfl) (F_GraveRails_seed hM  er180)) (fun v' M' hq => ?_)
                                                        obtain ⟨rfl, rfl, hr180⟩ := hq
                                                        refine K_aload_n rfl 2 rfl ?_
                                                        refine K_aload_n rfl 0 rfl ?_
                                                        refine K_iload_n rfl 3 rfl ?_
                                                        refine K_iconst (v := 1) rfl (by decide) ?_
                                                        refine K_iadd rfl ?_
                                                        obtain ⟨v181, ev181, h⟩ := Option.bind_eq_some_iff.mp h
                                                        refine K_rdS rfl ev181 ?_
                                                        obtain ⟨r182, er182, h⟩ := Option.bind_eq_some_iff.mp h
                                                        refine K_cV [.int v181] [.int r180.1] rfl rfl (Nat.le_of_ble_eq_true rfl) (Nat.le_of_ble_eq_true rfl) sh_436 hr180 rfl (EV_le (Nat.le_of_ble_eq_true rfl) (F_Model_seed hr180  er182)) (fun v' M' hq => ?_)
                                                        obtain ⟨rfl, rfl, hr182⟩ := hq
                                                        refine K_ic_eq rfl (fun c183 => ?_) (fun c183 => ?_)
                                                        · rw [if_pos c183] at h
                                                          refine K_pick [0, 1, 2, 3] ?_
                                                          exact L_J_law_1021   (L_J_law_18    n) _ _ hr182  h
                                                        · rw [if_neg c183] at h
                                                          refine K_iconst (v := 0) rfl (by decide) ?_
                                                          obtain rfl := Option.some.inj h
                                                          exact K_iret rfl (Or.inr ⟨rfl, by decide⟩) ⟨rfl, rfl, hr182⟩
                                                      · rw [if_neg c184] at h
                                                        by_cases c196 : (v2 &&& 31) = 25
                                                        · rw [if_pos c196] at h
                                                          refine K_ts (t := 899) rfl (fun _ => by rw [c196]; rfl) ?_
                                                          refine K_aload_n rfl 1 rfl ?_
                                                          refine K_aload_n rfl 0 rfl ?_
                                                          refine K_iload_n rfl 3 rfl ?_
                                                          refine K_iconst (v := 1) rfl (by decide) ?_
                                                          refine K_iadd rfl ?_
                                                          obtain ⟨v185, ev185, h⟩ := Option.bind_eq_some_iff.mp h
                                                          refine K_rdS rfl ev185 ?_
                                                          refine K_aload_n rfl 0 rfl ?_
                                                          refine K_iload_n rfl 3 rfl ?_
                                                          refine K_iconst (v := 2) rfl (by decide) ?_
                                                          refine K_iadd rfl ?_
                                                          obtain ⟨v186, ev186, h⟩ := Option.bind_eq_some_iff.mp h
                                                          refine K_rdS rfl ev186 ?_
                                                          refine K_aload_n rfl 0 rfl ?_
                                                          refine K_iload_n rfl 3 rfl ?_
                                                          refine K_iconst (v := 3) rfl (by decide) ?_
                                                          refine K_iadd rfl ?_
                                                          obtain ⟨v187, ev187, h⟩ := Option.bind_eq_some_iff.mp h
                                                          refine K_rdS rfl ev187 ?_
                                                          refine K_aload_n rfl 0 rfl ?_
                                                          refine K_iload_n rfl 3 rfl ?_
                                                          refine K_iconst (v := 4) rfl (by decide) ?_
                                                          refine K_iadd rfl ?_
                                                          obtain ⟨v188, ev188, h⟩ := Option.bind_eq_some_iff.mp h
                                                          refine K_rdS rfl ev188 ?_
                                                          obtain ⟨r189, er189, h⟩ := Option.bind_eq_some_iff.mp h
                                                          refine K_cV [.int v185, .int v186, .int v187, .int v188] [] rfl rfl (Nat.le_of_ble_eq_true rfl) (Nat.le_of_ble_eq_true rfl) sh_0 hM rfl (EV_le (Nat.le_of_ble_eq_true rfl) (F_GraveRails_drawn hM  er189)) (fun v' M' hq => ?_)
                                                          obtain ⟨rfl, rfl, hr189⟩ := hq
                                                          refine K_aload_n rfl 2 rfl ?_
                                                          refine K_aload_n rfl 0 rfl ?_
                                                          refine K_iload_n rfl 3 rfl ?_
                                                          refine K_iconst (v := 1) rfl (by decide) ?_
                                                          refine K_iadd rfl ?_
                                                          obtain ⟨v190, ev190, h⟩ := Option.bind_eq_some_iff.mp h
                                                          refine K_rdS rfl ev190 ?_
                                                          refine K_aload_n rfl 0 rfl ?_
                                                          refine K_iload_n rfl 3 rfl ?_
                                                          refine K_iconst (v := 2) rfl (by decide) ?_
                                                          refine K_iadd rfl ?_
                                                          obtain ⟨v191, ev191, h⟩ := Option.bind_eq_some_iff.mp h
                                                          refine K_rdS rfl ev191 ?_
                                                          refine K_aload_n rfl 0 rfl ?_
                                                          refine K_iload_n rfl 3 rfl ?_
                                                          refine K_iconst (v := 3) rfl (by decide) ?_
                                                          refine K_iadd rfl ?_
                                                          obtain ⟨v192, ev192, h⟩ := Option.bind_eq_some_iff.mp h
                                                          refine K_rdS rfl ev192 ?_
                                                          refine K_aload_n rfl 0 rfl ?_
                                                          refine K_iload_n rfl 3 rfl ?_
                                                          refine K_iconst (v := 4) rfl (by decide) ?_
                                                          refine K_iadd rfl ?_
                                                          obtain ⟨v193, ev193, h⟩ := Option.bind_eq_some_iff.mp h
                                                          refine K_rdS rfl ev193 ?_
                                                          obtain ⟨r194, er194, h⟩ := Option.bind_eq_some_iff.mp h
                                                          refine K_cV [.int v190, .int v191, .int v192, .int v193] [.int r189.1] rfl rfl (Nat.le_of_ble_eq_true rfl) (Nat.le_of_ble_eq_true rfl) sh_436 hr189 rfl (EV_le (Nat.le_of_ble_eq_true rfl) (F_Model_drawn hr189  er194)) (fun v' M' hq => ?_)
                                                          obtain ⟨rfl, rfl, hr194⟩ := hq
                                                          refine K_ic_eq rfl (fun c195 => ?_) (fun c195 => ?_)
                                                          · rw [if_pos c195] at h
                                                            refine K_pick [0, 1, 2, 3] ?_
                                                            exact L_J_law_1021   (L_J_law_18    n) _ _ hr194  h
                                                          · rw [if_neg c195] at h
                                                            refine K_iconst (v := 0) rfl (by decide) ?_
                                                            obtain rfl := Option.some.inj h
                                                            exact K_iret rfl (Or.inr ⟨rfl, by decide⟩) ⟨rfl, rfl, hr194⟩
                                                        · rw [if_neg c196] at h
                                                          by_cases c202 : (v2 &&& 31) = 26
                                                          · rw [if_pos c202] at h
                                                            refine K_ts (t := 952) rfl (fun _ => by rw [c202]; rfl) ?_
                                                            refine K_aload_n rfl 1 rfl ?_
                                                            refine K_aload_n rfl 0 rfl ?_
                                                            refine K_iload_n rfl 3 rfl ?_
                                                            refine K_iconst (v := 1) rfl (by decide) ?_
                                                            refine K_iadd rfl ?_
                                                            obtain ⟨v197, ev197, h⟩ := Option.bind_eq_some_iff.mp h
                                                            refine K_rdS rfl ev197 ?_
                                                            obtain ⟨r198, er198, h⟩ := Option.bind_eq_some_iff.mp h
                                                            refine K_cV [.int v197] [] rfl rfl (Nat.le_of_ble_eq_true rfl) (Nat.le_of_ble_eq_true rfl) sh_0 hM rfl (EV_le (Nat.le_of_ble_eq_true rfl) (F_GraveRails_count hM  er198)) (fun v' M' hq => ?_)
                                                            obtain ⟨rfl, rfl, hr198⟩ := hq
                                                            refine K_aload_n rfl 2 rfl ?_
                                                            refine K_aload_n rfl 0 rfl ?_
                                                            refine K_iload_n rfl 3 rfl ?_
                                                            refine K_iconst (v := 1) rfl (by decide) ?_
                                                            refine K_iadd rfl ?_
                                                            obtain ⟨v199, ev199, h⟩ := Option.bind_eq_some_iff.mp h
                                                            refine K_rdS rfl ev199 ?_
                                                            obtain ⟨r200, er200, h⟩ := Option.bind_eq_some_iff.mp h
                                                            refine K_cV [.int v199] [.int r198.1] rfl rfl (Nat.le_of_ble_eq_true rfl) (Nat.le_of_ble_eq_true rfl) sh_436 hr198 rfl (EV_le (Nat.le_of_ble_eq_true rfl) (F_Model_count hr198  er200)) (fun v' M' hq => ?_)
                                                            obtain ⟨rfl, rfl, hr200⟩ := hq
                                                            refine K_ic_eq rfl (fun c201 => ?_) (fun c201 => ?_)
                                                            · rw [if_pos c201] at h
                                                              refine K_pick [0, 1, 2, 3] ?_
                                                              exact L_J_law_1021   (L_J_law_18    n) _ _ hr200  h
                                                            · rw [if_neg c201] at h
                                                              refine K_iconst (v := 0) rfl (by decide) ?_
                                                              obtain rfl := Option.some.inj h
                                                              exact K_iret rfl (Or.inr ⟨rfl, by decide⟩) ⟨rfl, rfl, hr200⟩
                                                          · rw [if_neg c202] at h
                                                            by_cases c208 : (v2 &&& 31) = 27
                                                            · rw [if_pos c208] at h
                                                              refine K_ts (t := 975) rfl (fun _ => by rw [c208]; rfl) ?_
                                                              refine K_aload_n rfl 1 rfl ?_
                                                              refine K_aload_n rfl 0 rfl ?_
                                                              refine K_iload_n rfl 3 rfl ?_
                                                              refine K_iconst (v := 1) rfl (by decide) ?_
                                                              refine K_iadd rfl ?_
                                                              obtain ⟨v203, ev203, h⟩ := Option.bind_eq_some_iff.mp h
                                                              refine K_rdS rfl ev203 ?_
                                                              obtain ⟨r204, er204, h⟩ := Option.bind_eq_some_iff.mp h
                                                              refine K_cV [.int v203] [] rfl rfl (Nat.le_of_ble_eq_true rfl) (Nat.le_of_ble_eq_true rfl) sh_0 hM rfl (EV_le (Nat.le_of_ble_eq_true rfl) (F_GraveRails_image hM  er204)) (fun v' M' hq => ?_)
                                                              obtain ⟨rfl, rfl, hr204⟩ := hq
                                                              refine K_aload_n rfl 2 rfl ?_
                                                              refine K_aload_n rfl 0 rfl ?_
                                                              refine K_iload_n rfl 3 rfl ?_
                                                              refine K_iconst (v := 1) rfl (by decide) ?_
                                                              refine K_iadd rfl ?_
                                                              obtain ⟨v205, ev205, h⟩ := Option.bind_eq_some_iff.mp h
                                                              refine K_rdS rfl ev205 ?_
                                                              obtain ⟨r206, er206, h⟩ := Option.bind_eq_some_iff.mp h
                                                              refine K_cV [.int v205] [.int r204.1] rfl rfl (Nat.le_of_ble_eq_true rfl) (Nat.le_of_ble_eq_true rfl) sh_436 hr204 rfl (EV_le (Nat.le_of_ble_eq_true rfl) (F_Model_image hr204  er206)) (fun v' M' hq => ?_)
                                                              obtain ⟨rfl, rfl, hr206⟩ := hq
                                                              refine K_ic_eq rfl (fun c207 => ?_) (fun c207 => ?_)
                                                              · rw [if_pos c207] at h
                                                                refine K_pick [0, 1, 2, 3] ?_
                                                                exact L_J_law_1021   (L_J_law_18    n) _ _ hr206  h
                                                              · rw [if_neg c207] at h
                                                                refine K_iconst (v := 0) rfl (by decide) ?_
                                                                obtain rfl := Option.some.inj h
                                                                exact K_iret rfl (Or.inr ⟨rfl, by decide⟩) ⟨rfl, rfl, hr206⟩
                                                            · rw [if_neg c208] at h
                                                              by_cases c214 : (v2 &&& 31) = 28
                                                              · rw [if_pos c214] at h
                                                                refine K_ts (t := 998) rfl (fun _ => by rw [c214]; rfl) ?_
                                                                refine K_aload_n rfl 1 rfl ?_
                                                                refine K_aload_n rfl 0 rfl ?_
                                                                refine K_iload_n rfl 3 rfl ?_
                                                                refine K_iconst (v := 1) rfl (by decide) ?_
                                                                refine K_iadd rfl ?_
                                                                obtain ⟨v209, ev209, h⟩ := Option.bind_eq_some_iff.mp h
                                                                refine K_rdS rfl ev209 ?_
                                                                obtain ⟨r210, er210, h⟩ := Option.bind_eq_some_iff.mp h
                                                                refine K_cV [.int v209] [] rfl rfl (Nat.le_of_ble_eq_true rfl) (Nat.le_of_ble_eq_true rfl) sh_0 hM rfl (EV_le (Nat.le_of_ble_eq_true rfl) (F_GraveRails_back hM  er210)) (fun v' M' hq => ?_)
                                                                obtain ⟨rfl, rfl, hr210⟩ := hq
                                                                refine K_aload_n rfl 2 rfl ?_
                                                                refine K_aload_n rfl 0 rfl ?_
                                                                refine K_iload_n rfl 3 rfl ?_
                                                                refine K_iconst (v := 1) rfl (by decide) ?_
                                                                refine K_iadd rfl ?_
                                                                obtain ⟨v211, ev211, h⟩ := Option.bind_eq_some_iff.mp h
                                                                refine K_rdS rfl ev211 ?_
                                                                obtain ⟨r212, er212, h⟩ := Option.bind_eq_some_iff.mp h
                                                                refine K_cV [.int v211] [.int r210.1] rfl rfl (Nat.le_of_ble_eq_true rfl) (Nat.le_of_ble_eq_true rfl) sh_436 hr210 rfl (EV_le (Nat.le_of_ble_eq_true rfl) (F_Model_back hr210  er212)) (fun v' M' hq => ?_)
                                                                obtain ⟨rfl, rfl, hr212⟩ := hq
                                                                refine K_ic_eq rfl (fun c213 => ?_) (fun c213 => ?_)
                                                                · rw [if_pos c213] at h
                                                                  refine K_pick [0, 1, 2, 3] ?_
                                                                  exact L_J_law_1021   (L_J_law_18    n) _ _ hr212  h
                                                                · rw [if_neg c213] at h
                                                                  refine K_iconst (v := 0) rfl (by decide) ?_
                                                                  obtain rfl := Option.some.inj h
                                                                  exact K_iret rfl (Or.inr ⟨rfl, by decide⟩) ⟨rfl, rfl, hr212⟩
                                                              · rw [if_neg c214] at h
                                                                refine K_tsd rfl ?_ ?_
                                                                · have nc16 := lv_neT c16 (a := 0) rfl; have nc22 := lv_neT c22 (a := 1) rfl; have nc26 := lv_neT c26 (a := 2) rfl; have nc30 := lv_neT c30 (a := 3) rfl; have nc36 := lv_neT c36 (a := 4) rfl; have nc44 := lv_neT c44 (a := 5) rfl; have nc52 := lv_neT c52 (a := 6) rfl; have nc60 := lv_neT c60 (a := 7) rfl; have nc68 := lv_neT c68 (a := 8) rfl; have nc72 := lv_neT c72 (a := 9) rfl; have nc82 := lv_neT c82 (a := 10) rfl; have nc88 := lv_neT c88 (a := 11) rfl; have nc94 := lv_neT c94 (a := 12) rfl; have nc98 := lv_neT c98 (a := 13) rfl; have nc108 := lv_neT c108 (a := 14) rfl; have nc114 := lv_neT c114 (a := 15) rfl; have nc122 := lv_neT c122 (a := 16) rfl; have nc130 := lv_neT c130 (a := 17) rfl; have nc142 := lv_neT c142 (a := 18) rfl; have nc152 := lv_neT c152 (a := 19) rfl; have nc158 := lv_neT c158 (a := 20) rfl; have nc166 := lv_neT c166 (a := 21) rfl; have nc172 := lv_neT c172 (a := 22) rfl; have nc178 := lv_neT c178 (a := 23) rfl; have nc184 := lv_neT c184 (a := 24) rfl; have nc196 := lv_neT c196 (a := 25) rfl; have nc202 := lv_neT c202 (a := 26) rfl; have nc208 := lv_neT c208 (a := 27) rfl; have nc214 := lv_neT c214 (a := 28) rfl; omega
                                                                · refine K_pick [0, 1, 2, 3] ?_
                                                                  exact L_J_law_1021   (L_J_law_18    n) _ _ hM  h
