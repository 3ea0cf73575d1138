/-! ===== the small machine does what the printed functions say ===== -/
set_option maxRecDepth 20000 in
theorem F_Model_isPlace {X : mX} {x1 : Int32} {x2 : Int32} {M : mM} {r : Int32 × mM} (hM : Fx M)  (h : f_Model_isPlace x1 x2 M = some r) : EV X (0 + 1) 188 [.ref 436, .int x1, .int x2] M (fun v M' => v = some (.int r.1) ∧ r.2 = M' ∧ Fx r.2) := by
    refine EV_of (lc := [(0, .ref 436), (1, .int x1), (2, .int x2)]) (Nat.le_of_ble_eq_true rfl) (by exact Nat.le_of_ble_eq_true rfl) (by exact List.forall_mem_cons.mpr ⟨rfl, List.forall_mem_cons.mpr ⟨rfl, List.forall_mem_cons.mpr ⟨rfl, fun _ h => absurd h List.not_mem_nil⟩⟩⟩) ?_
    unfold f_Model_isPlace at h
    refine K_iload_n rfl 1 rfl ?_
    refine K_if_lt rfl (fun c1 => ?_) (fun c1 => ?_)
    · rw [if_pos c1] at h
      refine K_iconst (v := 0) rfl (by decide) ?_
      obtain rfl := Option.some.inj h
      exact K_iret rfl (Or.inr ⟨rfl, by decide⟩) ⟨rfl, rfl, hM⟩
    · rw [if_neg c1] at h
      refine K_iload_n rfl 1 rfl ?_
      refine K_aload_n rfl 0 rfl ?_
      refine K_gR rfl sh_436 hM rfl rfl 20 rfl r_436_20 ?_
      refine K_iconst (v := 0) rfl (by decide) ?_
      obtain ⟨v2, ev2, h⟩ := Option.bind_eq_some_iff.mp h
      refine K_rd rfl sh_446 hM ev2 ?_
      refine K_ic_ge rfl (fun c3 => ?_) (fun c3 => ?_)
      · rw [if_pos c3] at h
        refine K_iconst (v := 0) rfl (by decide) ?_
        obtain rfl := Option.some.inj h
        exact K_iret rfl (Or.inr ⟨rfl, by decide⟩) ⟨rfl, rfl, hM⟩
      · rw [if_neg c3] at h
        refine K_iload_n rfl 2 rfl ?_
        refine K_if_lt rfl (fun c4 => ?_) (fun c4 => ?_)
        · rw [if_pos c4] at h
          refine K_iconst (v := 0) rfl (by decide) ?_
          obtain rfl := Option.some.inj h
          exact K_iret rfl (Or.inr ⟨rfl, by decide⟩) ⟨rfl, rfl, hM⟩
        · rw [if_neg c4] at h
          refine K_iload_n rfl 2 rfl ?_
          refine K_aload_n rfl 0 rfl ?_
          refine K_gR rfl sh_436 hM rfl rfl 20 rfl r_436_20 ?_
          refine K_iconst (v := 1) rfl (by decide) ?_
          obtain ⟨v5, ev5, h⟩ := Option.bind_eq_some_iff.mp h
          refine K_rd rfl sh_446 hM ev5 ?_
          refine K_ic_ge rfl (fun c6 => ?_) (fun c6 => ?_)
          · rw [if_pos c6] at h
            refine K_iconst (v := 0) rfl (by decide) ?_
            obtain rfl := Option.some.inj h
            exact K_iret rfl (Or.inr ⟨rfl, by decide⟩) ⟨rfl, rfl, hM⟩
          · rw [if_neg c6] at h
            refine K_iconst (v := 1) rfl (by decide) ?_
            refine K_goto rfl ?_
            obtain rfl := Option.some.inj h
            exact K_iret rfl (Or.inr ⟨rfl, by decide⟩) ⟨rfl, rfl, hM⟩
set_option maxRecDepth 20000 in
theorem F_Model_at {X : mX} {x1 : Int32} {x2 : Int32} {M : mM} {r : Int32 × mM} (hM : Fx M)  (h : f_Model_at x1 x2 M = some r) : EV X (2 + 1) 187 [.ref 436, .int x1, .int x2] M (fun v M' => v = some (.int r.1) ∧ r.2 = M' ∧ Fx r.2) := by
    refine EV_of (lc := [(0, .ref 436), (1, .int x1), (2, .int x2)]) (Nat.le_of_ble_eq_true rfl) (by exact Nat.le_of_ble_eq_true rfl) (by exact List.forall_mem_cons.mpr ⟨rfl, List.forall_mem_cons.mpr ⟨rfl, List.forall_mem_cons.mpr ⟨rfl, fun _ h => absurd h List.not_mem_nil⟩⟩⟩) ?_
    unfold f_Model_at at h
    refine K_aload_n rfl 0 rfl ?_
    refine K_iload_n rfl 1 rfl ?_
    refine K_iload_n rfl 2 rfl ?_
    obtain ⟨r1, er1, h⟩ := Option.bind_eq_some_iff.mp h
    refine K_cV [.int x1, .int x2] [] rfl rfl (Nat.le_of_ble_eq_true rfl) (Nat.le_of_ble_eq_true rfl) sh_436 hM rfl (EV_le (Nat.le_of_ble_eq_true rfl) (F_Model_isPlace hM  er1)) (fun v' M' hq => ?_)
    obtain ⟨rfl, rfl, hr1⟩ := hq
    refine K_if_eq rfl (fun c2 => ?_) (fun c2 => ?_)
    · rw [if_pos c2] at h
      refine K_bipush (v := (-2)) rfl (by decide) ?_
      obtain rfl := Option.some.inj h
      exact K_iret rfl (Or.inl rfl) ⟨rfl, rfl, hr1⟩
    · rw [if_neg c2] at h
      refine K_aload_n rfl 0 rfl ?_
      refine K_iload_n rfl 1 rfl ?_
      refine K_iload_n rfl 2 rfl ?_
      obtain ⟨r3, er3, h⟩ := Option.bind_eq_some_iff.mp h
      refine K_cV [.int x1, .int x2] [] rfl rfl (Nat.le_of_ble_eq_true rfl) (Nat.le_of_ble_eq_true rfl) sh_436 hr1 rfl (EV_le (Nat.le_of_ble_eq_true rfl) (F_Model_graveAt hr1  er3)) (fun v' M' hq => ?_)
      obtain ⟨rfl, rfl, hr3⟩ := hq
      refine K_goto rfl ?_
      obtain rfl := Option.some.inj h
      exact K_iret rfl (Or.inl rfl) ⟨rfl, rfl, hr3⟩
set_option maxRecDepth 20000 in
theorem L_Model_rootAt_61 {X : mX} {x1 : Int32} {x2 : Int32} {k2 : Int32 → mM → Option (Int32 × mM)} {r : Int32 × mM}  (hk2 : ∀ (l3 : Int32) (M : mM), Fx M → k2 l3 M = some r → KK X 0 190 2 [(0, .ref 436), (1, .int x1), (2, .int x2), (3, .int l3)] [] M (fun v M' => v = some (.int r.1) ∧ r.2 = M' ∧ Fx r.2)) (l3 : Int32) (M : mM) (hM : Fx M)  (h : f_Model_rootAt_61 x1 x2 k2 l3 M = some r) : KK X 0 190 61 [(0, .ref 436), (1, .int x1), (2, .int x2), (3, .int l3)] [] M (fun v M' => v = some (.int r.1) ∧ r.2 = M' ∧ Fx r.2) := by
    unfold f_Model_rootAt_61 at h
    refine K_iinc (y := (l3 + 1)) rfl 3 rfl rfl ?_
    refine K_goto rfl ?_
    refine K_pick [1, 2, 3, 0] ?_
    exact hk2 _ _ hM  h
set_option maxRecDepth 20000 in
theorem L_Model_rootAt_2 {X : mX} {x1 : Int32} {x2 : Int32} {r : Int32 × mM}  : ∀ (n : Nat) (l3 : Int32) (M : mM), Fx M → f_Model_rootAt_2 x1 x2  n l3 M = some r → KK X 0 190 2 [(0, .ref 436), (1, .int x1), (2, .int x2), (3, .int l3)] [] M (fun v M' => v = some (.int r.1) ∧ r.2 = M' ∧ Fx r.2)
  | 0, _, _ => fun _ h => by cases h
  | n + 1, l3, M => fun hM h => by
    unfold f_Model_rootAt_2 at h
    refine K_iload_n rfl 3 rfl ?_
    refine K_aload_n rfl 0 rfl ?_
    refine K_gR rfl sh_436 hM rfl rfl 20 rfl r_436_20 ?_
    refine K_iconst (v := 5) rfl (by decide) ?_
    obtain ⟨v1, ev1, h⟩ := Option.bind_eq_some_iff.mp h
    refine K_rd rfl sh_446 hM ev1 ?_
    refine K_ic_ge rfl (fun c2 => ?_) (fun c2 => ?_)
    · rw [if_pos c2] at h
      refine K_iconst (v := 0) rfl (by decide) ?_
      obtain rfl := Option.some.inj h
      exact K_iret rfl (Or.inl rfl) ⟨rfl, rfl, hM⟩
    · rw [if_neg c2] at h
      refine K_aload_n rfl 0 rfl ?_
      refine K_gR rfl sh_436 hM rfl rfl 20 rfl r_436_20 ?_
      refine K_sipush (v := 131) rfl (by decide) ?_
      refine K_iconst (v := 3) rfl (by decide) ?_
      refine K_iload_n rfl 3 rfl ?_
      refine K_imul rfl ?_
      refine K_iadd rfl ?_
      obtain ⟨v3, ev3, h⟩ := Option.bind_eq_some_iff.mp h
      refine K_rd rfl sh_446 hM ev3 ?_
      refine K_iload_n rfl 1 rfl ?_
      refine K_ic_ne rfl (fun c4 => ?_) (fun c4 => ?_)
      · rw [if_neg c4] at h
        refine K_pick [0, 1, 2, 3] ?_
        exact L_Model_rootAt_61   (L_Model_rootAt_2    n) _ _ hM  h
      · rw [if_pos c4] at h
        refine K_aload_n rfl 0 rfl ?_
        refine K_gR rfl sh_436 hM rfl rfl 20 rfl r_436_20 ?_
        refine K_sipush (v := 131) rfl (by decide) ?_
        refine K_iconst (v := 3) rfl (by decide) ?_
        refine K_iload_n rfl 3 rfl ?_
        refine K_imul rfl ?_
        refine K_iadd rfl ?_
        refine K_iconst (v := 1) rfl (by decide) ?_
        refine K_iadd rfl ?_
        obtain ⟨v5, ev5, h⟩ := Option.bind_eq_some_iff.mp h
        refine K_rd rfl sh_446 hM ev5 ?_
        refine K_iload_n rfl 2 rfl ?_
        refine K_ic_ne rfl (fun c6 => ?_) (fun c6 => ?_)
        · rw [if_neg c6] at h
          refine K_pick [0, 1, 2, 3] ?_
          exact L_Model_rootAt_61   (L_Model_rootAt_2    n) _ _ hM  h
        · rw [if_pos c6] at h
          refine K_aload_n rfl 0 rfl ?_
          refine K_gR rfl sh_436 hM rfl rfl 20 rfl r_436_20 ?_
          refine K_sipush (v := 131) rfl (by decide) ?_
          refine K_iconst (v := 3) rfl (by decide) ?_
          refine K_iload_n rfl 3 rfl ?_
          refine K_imul rfl ?_
          refine K_iadd rfl ?_
          refine K_iconst (v := 2) rfl (by decide) ?_
          refine K_iadd rfl ?_
          obtain ⟨v7, ev7, h⟩ := Option.bind_eq_some_iff.mp h
          refine K_rd rfl sh_446 hM ev7 ?_
          obtain rfl := Option.some.inj h
          exact K_iret rfl (Or.inl rfl) ⟨rfl, rfl, hM⟩
set_option maxRecDepth 20000 in
theorem F_Model_rootAt {X : mX} {x1 : Int32} {x2 : Int32} {M : mM} {r : Int32 × mM} (hM : Fx M)  (h : f_Model_rootAt x1 x2 M = some r) : EV X (0 + 1) 190 [.ref 436, .int x1, .int x2] M (fun v M' => v = some (.int r.1) ∧ r.2 = M' ∧ Fx r.2) := by
    refine EV_of (lc := [(0, .ref 436), (1, .int x1), (2, .int x2)]) (Nat.le_of_ble_eq_true rfl) (by exact Nat.le_of_ble_eq_true rfl) (by exact List.forall_mem_cons.mpr ⟨rfl, List.forall_mem_cons.mpr ⟨rfl, List.forall_mem_cons.mpr ⟨rfl, fun _ h => absurd h List.not_mem_nil⟩⟩⟩) ?_
    unfold f_Model_rootAt at h
    refine K_iconst (v := 0) rfl (by decide) ?_
    refine K_istore_n rfl ?_
    refine K_pick [1, 2, 3, 0] ?_
    exact L_Model_rootAt_2    FUEL _ _ hM  h
set_option maxRecDepth 20000 in
theorem F_Model_root {X : mX} {x1 : Int32} {x2 : Int32} {M : mM} {r : Int32 × mM} (hM : Fx M)  (h : f_Model_root x1 x2 M = some r) : EV X (1 + 1) 189 [.ref 436, .int x1, .int x2] M (fun v M' => v = some (.int r.1) ∧ r.2 = M' ∧ Fx r.2) := by
    refine EV_of (lc := [(0, .ref 436), (1, .int x1), (2, .int x2)]) (Nat.le_of_ble_eq_true rfl) (by exact Nat.le_of_ble_eq_true rfl) (by exact List.forall_mem_cons.mpr ⟨rfl, List.forall_mem_cons.mpr ⟨rfl, List.forall_mem_cons.mpr ⟨rfl, fun _ h => absurd h List.not_mem_nil⟩⟩⟩) ?_
    unfold f_Model_root at h
    refine K_aload_n rfl 0 rfl ?_
    refine K_iload_n rfl 1 rfl ?_
    refine K_iload_n rfl 2 rfl ?_
    obtain ⟨r1, er1, h⟩ := Option.bind_eq_some_iff.mp h
    refine K_cV [.int x1, .int x2] [] rfl rfl (Nat.le_of_ble_eq_true rfl) (Nat.le_of_ble_eq_true rfl) sh_436 hM rfl (EV_le (Nat.le_of_ble_eq_true rfl) (F_Model_isPlace hM  er1)) (fun v' M' hq => ?_)
    obtain ⟨rfl, rfl, hr1⟩ := hq
    refine K_if_eq rfl (fun c2 => ?_) (fun c2 => ?_)
    · rw [if_pos c2] at h
      refine K_iconst (v := (-1)) rfl (by decide) ?_
      obtain rfl := Option.some.inj h
      exact K_iret rfl (Or.inl rfl) ⟨rfl, rfl, hr1⟩
    · rw [if_neg c2] at h
      refine K_aload_n rfl 0 rfl ?_
      refine K_iload_n rfl 1 rfl ?_
      refine K_iload_n rfl 2 rfl ?_
      obtain ⟨r3, er3, h⟩ := Option.bind_eq_some_iff.mp h
      refine K_cV [.int x1, .int x2] [] rfl rfl (Nat.le_of_ble_eq_true rfl) (Nat.le_of_ble_eq_true rfl) sh_436 hr1 rfl (EV_le (Nat.le_of_ble_eq_true rfl) (F_Model_rootAt hr1  er3)) (fun v' M' hq => ?_)
      obtain ⟨rfl, rfl, hr3⟩ := hq
      refine K_goto rfl ?_
      obtain rfl := Option.some.inj h
      exact K_iret rfl (Or.inl rfl) ⟨rfl, rfl, hr3⟩
set_option maxRecDepth 20000 in
theorem L_Model_undo_21 {X : mX}  {r : Int32 × mM}  : ∀ (n : Nat) (l1 : Int32) (M : mM), Fx M → f_Model_undo_21   n l1 M = some r → KK X 0 191 21 [(0, .ref 436), (1, .int l1)] [] M (fun v M' => v = some (.int r.1) ∧ r.2 = M' ∧ Fx r.2)
  | 0, _, _ => fun _ h => by cases h
  | n + 1, l1, M => fun hM h => by
    unfold f_Model_undo_21 at h
    refine K_iload_n rfl 1 rfl ?_
    refine K_sipush (v := 131) rfl (by decide) ?_
    refine K_ic_ge rfl (fun c3 => ?_) (fun c3 => ?_)
    · rw [if_pos c3] at h
      refine K_aload_n rfl 0 rfl ?_
      refine K_gI rfl sh_436 hM rfl rfl 30 rfl ?_
      obtain rfl := Option.some.inj h
      exact K_iret rfl (Or.inl rfl) ⟨rfl, rfl, hM⟩
    · rw [if_neg c3] at h
      refine K_aload_n rfl 0 rfl ?_
      refine K_gR rfl sh_436 hM rfl rfl 20 rfl r_436_20 ?_
      refine K_iload_n rfl 1 rfl ?_
      refine K_aload_n rfl 0 rfl ?_
      refine K_gR rfl sh_436 hM rfl rfl 29 rfl r_436_29 ?_
      refine K_sipush (v := 131) rfl (by decide) ?_
      refine K_aload_n rfl 0 rfl ?_
      refine K_gI rfl sh_436 hM rfl rfl 30 rfl ?_
      refine K_imul rfl ?_
      refine K_iload_n rfl 1 rfl ?_
      refine K_iadd rfl ?_
      obtain ⟨v4, ev4, h⟩ := Option.bind_eq_some_iff.mp h
      refine K_rd rfl sh_449 hM ev4 ?_
      obtain ⟨M5, eM5, h⟩ := Option.bind_eq_some_iff.mp h
      refine K_wr rfl sh_446 hM eM5 (fun hM5 => ?_)
      refine K_iinc (y := (l1 + 1)) rfl 1 rfl rfl ?_
      refine K_goto rfl ?_
      refine K_pick [1, 0] ?_
      exact L_Model_undo_21    n _ _ hM5  h
set_option maxRecDepth 20000 in
theorem F_Model_undo {X : mX}  {M : mM} {r : Int32 × mM} (hM : Fx M)  (h : f_Model_undo  M = some r) : EV X (0 + 1) 191 [.ref 436] M (fun v M' => v = some (.int r.1) ∧ r.2 = M' ∧ Fx r.2) := by
    refine EV_of (lc := [(0, .ref 436)]) (Nat.le_of_ble_eq_true rfl) (by exact Nat.le_of_ble_eq_true rfl) (by exact List.forall_mem_cons.mpr ⟨rfl, fun _ h => absurd h List.not_mem_nil⟩) ?_
    unfold f_Model_undo at h
    refine K_aload_n rfl 0 rfl ?_
    refine K_gI rfl sh_436 hM rfl rfl 30 rfl ?_
    refine K_if_ne rfl (fun c1 => ?_) (fun c1 => ?_)
    · rw [if_neg c1] at h
      refine K_aload_n rfl 0 rfl ?_
      refine K_dup rfl rfl ?_
      refine K_gI rfl sh_436 hM rfl rfl 30 rfl ?_
      refine K_iconst (v := 1) rfl (by decide) ?_
      refine K_isub rfl ?_
      obtain ⟨M2, eM2, h⟩ := Option.bind_eq_some_iff.mp h
      refine K_pI rfl sh_436 hM rfl rfl 30 rfl eM2 (fun hM2 => ?_)
      refine K_iconst (v := 0) rfl (by decide) ?_
      refine K_istore_n rfl ?_
      refine K_pick [1, 0] ?_
      exact L_Model_undo_21    FUEL _ _ hM2  h
    · rw [if_pos c1] at h
      refine K_iconst (v := (-1)) rfl (by decide) ?_
      obtain rfl := Option.some.inj h
      exact K_iret rfl (Or.inl rfl) ⟨rfl, rfl, hM⟩
set_option maxRecDepth 20000 in
theorem F_Model_isYard {X : mX}  {M : mM} {r : Int32 × mM} (hM : Fx M)  (h : f_Model_isYard  M = some r) : EV X (0 + 1) 193 [.ref 436] M (fun v M' => v = some (.int r.1) ∧ r.2 = M' ∧ Fx r.2) := by
    refine EV_of (lc := [(0, .ref 436)]) (Nat.le_of_ble_eq_true rfl) (by exact Nat.le_of_ble_eq_true rfl) (by exact List.forall_mem_cons.mpr ⟨rfl, fun _ h => absurd h List.not_mem_nil⟩) ?_
    unfold f_Model_isYard at h
    refine K_aload_n rfl 0 rfl ?_
    refine K_gR rfl sh_436 hM rfl rfl 20 rfl r_436_20 ?_
    refine K_iconst (v := 0) rfl (by decide) ?_
    obtain ⟨v1, ev1, h⟩ := Option.bind_eq_some_iff.mp h
    refine K_rd rfl sh_446 hM ev1 ?_
    refine K_if_le rfl (fun c2 => ?_) (fun c2 => ?_)
    · rw [if_pos c2] at h
      refine K_iconst (v := 0) rfl (by decide) ?_
      obtain rfl := Option.some.inj h
      exact K_iret rfl (Or.inr ⟨rfl, by decide⟩) ⟨rfl, rfl, hM⟩
    · rw [if_neg c2] at h
      refine K_iconst (v := 1) rfl (by decide) ?_
      refine K_goto rfl ?_
      obtain rfl := Option.some.inj h
      exact K_iret rfl (Or.inr ⟨rfl, by decide⟩) ⟨rfl, rfl, hM⟩
set_option maxRecDepth 20000 in
theorem L_Model_keepsAct_54 {X : mX}  {r : mM}  : ∀ (n : Nat) (l1 : Int32) (M : mM), Fx M → f_Model_keepsAct_54   n l1 M = some r → KK X 0 194 54 [(0, .ref 436), (1, .int l1)] [] M (fun v M' => v = none ∧ r = M' ∧ Fx r)
  | 0, _, _ => fun _ h => by cases h
  | n + 1, l1, M => fun hM h => by
    unfold f_Model_keepsAct_54 at h
    refine K_iload_n rfl 1 rfl ?_
    refine K_sipush (v := 131) rfl (by decide) ?_
    refine K_ic_ge rfl (fun c2 => ?_) (fun c2 => ?_)
    · rw [if_pos c2] at h
      refine K_aload_n rfl 0 rfl ?_
      refine K_dup rfl rfl ?_
      refine K_gI rfl sh_436 hM rfl rfl 30 rfl ?_
      refine K_iconst (v := 1) rfl (by decide) ?_
      refine K_iadd rfl ?_
      obtain ⟨M3, eM3, h⟩ := Option.bind_eq_some_iff.mp h
      refine K_pI rfl sh_436 hM rfl rfl 30 rfl eM3 (fun hM3 => ?_)
      obtain rfl := Option.some.inj h
      exact K_vret rfl rfl ⟨rfl, rfl, hM3⟩
    · rw [if_neg c2] at h
      refine K_aload_n rfl 0 rfl ?_
      refine K_gR rfl sh_436 hM rfl rfl 29 rfl r_436_29 ?_
      refine K_sipush (v := 131) rfl (by decide) ?_
      refine K_aload_n rfl 0 rfl ?_
      refine K_gI rfl sh_436 hM rfl rfl 30 rfl ?_
      refine K_imul rfl ?_
      refine K_iload_n rfl 1 rfl ?_
      refine K_iadd rfl ?_
      refine K_aload_n rfl 0 rfl ?_
      refine K_gR rfl sh_436 hM rfl rfl 20 rfl r_436_20 ?_
      refine K_iload_n rfl 1 rfl ?_
      obtain ⟨v4, ev4, h⟩ := Option.bind_eq_some_iff.mp h
      refine K_rd rfl sh_446 hM ev4 ?_
      obtain ⟨M5, eM5, h⟩ := Option.bind_eq_some_iff.mp h
      refine K_wr rfl sh_449 hM eM5 (fun hM5 => ?_)
      refine K_iinc (y := (l1 + 1)) rfl 1 rfl rfl ?_
      refine K_goto rfl ?_
      refine K_pick [1, 0] ?_
      exact L_Model_keepsAct_54    n _ _ hM5  h
set_option maxRecDepth 20000 in
theorem L_Model_keepsAct_52 {X : mX}  {r : mM}   (M : mM) (hM : Fx M)  (h : f_Model_keepsAct_52    M = some r) : KK X 0 194 52 [(0, .ref 436)] [] M (fun v M' => v = none ∧ r = M' ∧ Fx r) := by
    unfold f_Model_keepsAct_52 at h
    refine K_iconst (v := 0) rfl (by decide) ?_
    refine K_istore_n rfl ?_
    refine K_pick [1, 0] ?_
    exact L_Model_keepsAct_54    FUEL _ _ hM  h
set_option maxRecDepth 20000 in
theorem L_Model_keepsAct_13 {X : mX}  {r : mM}  : ∀ (n : Nat) (l1 : Int32) (M : mM), Fx M → f_Model_keepsAct_13   n l1 M = some r → KK X 0 194 13 [(0, .ref 436), (1, .int l1)] [] M (fun v M' => v = none ∧ r = M' ∧ Fx r)
  | 0, _, _ => fun _ h => by cases h
  | n + 1, l1, M => fun hM h => by
    unfold f_Model_keepsAct_13 at h
    refine K_iload_n rfl 1 rfl ?_
    refine K_sipush (v := 2620) rfl (by decide) ?_
    refine K_ic_ge rfl (fun c6 => ?_) (fun c6 => ?_)
    · rw [if_pos c6] at h
      refine K_aload_n rfl 0 rfl ?_
      refine K_dup rfl rfl ?_
      refine K_gI rfl sh_436 hM rfl rfl 30 rfl ?_
      refine K_iconst (v := 1) rfl (by decide) ?_
      refine K_isub rfl ?_
      obtain ⟨M7, eM7, h⟩ := Option.bind_eq_some_iff.mp h
      refine K_pI rfl sh_436 hM rfl rfl 30 rfl eM7 (fun hM7 => ?_)
      refine K_pick [0] ?_
      exact L_Model_keepsAct_52     _ hM7  h
    · rw [if_neg c6] at h
      refine K_aload_n rfl 0 rfl ?_
      refine K_gR rfl sh_436 hM rfl rfl 29 rfl r_436_29 ?_
      refine K_iload_n rfl 1 rfl ?_
      refine K_sipush (v := 131) rfl (by decide) ?_
      refine K_isub rfl ?_
      refine K_aload_n rfl 0 rfl ?_
      refine K_gR rfl sh_436 hM rfl rfl 29 rfl r_436_29 ?_
      refine K_iload_n rfl 1 rfl ?_
      obtain ⟨v8, ev8, h⟩ := Option.bind_eq_some_iff.mp h
      refine K_rd rfl sh_449 hM ev8 ?_
      obtain ⟨M9, eM9, h⟩ := Option.bind_eq_some_iff.mp h
      refine K_wr rfl sh_449 hM eM9 (fun hM9 => ?_)
      refine K_iinc (y := (l1 + 1)) rfl 1 rfl rfl ?_
      refine K_goto rfl ?_
      refine K_pick [1, 0] ?_
      exact L_Model_keepsAct_13    n _ _ hM9  h
set_option maxRecDepth 20000 in
theorem F_Model_keepsAct {X : mX}  {M : mM} {r : mM} (hM : Fx M)  (h : f_Model_keepsAct  M = some r) : EV X (0 + 1) 194 [.ref 436] M (fun v M' => v = none ∧ r = M' ∧ Fx r) := by
    refine EV_of (lc := [(0, .ref 436)]) (Nat.le_of_ble_eq_true rfl) (by exact Nat.le_of_ble_eq_true rfl) (by exact List.forall_mem_cons.mpr ⟨rfl, fun _ h => absurd h List.not_mem_nil⟩) ?_
    unfold f_Model_keepsAct at h
    refine K_aload_n rfl 0 rfl ?_
    refine K_gI rfl sh_436 hM rfl rfl 30 rfl ?_
    refine K_bipush (v := 20) rfl (by decide) ?_
    refine K_ic_ne rfl (fun c1 => ?_) (fun c1 => ?_)
    · rw [if_neg c1] at h
      refine K_pick [0] ?_
      exact L_Model_keepsAct_52     _ hM  h
    · rw [if_pos c1] at h
      refine K_sipush (v := 131) rfl (by decide) ?_
      refine K_istore_n rfl ?_
      refine K_pick [1, 0] ?_
      exact L_Model_keepsAct_13    FUEL _ _ hM  h
set_option maxRecDepth 20000 in
theorem L_Model_isFlood_46 {X : mX}  {k7 : Int32 → Int32 → mM → Option (Int32 × mM)} {r : Int32 × mM}  (hk7 : ∀ (l1 : Int32) (l2 : Int32) (M : mM), Fx M → k7 l1 l2 M = some r → KK X 0 196 7 [(0, .ref 436), (1, .int l1), (2, .int l2)] [] M (fun v M' => v = some (.int r.1) ∧ r.2 = M' ∧ Fx r.2)) (l2 : Int32) (s0 : Int32) (M : mM) (hM : Fx M)  (h : f_Model_isFlood_46  k7 l2 s0 M = some r) : KK X 0 196 46 [(0, .ref 436), (2, .int l2)] [.int s0] M (fun v M' => v = some (.int r.1) ∧ r.2 = M' ∧ Fx r.2) := by
    unfold f_Model_isFlood_46 at h
    refine K_istore_n rfl ?_
    refine K_iinc (y := (l2 + 1)) rfl 2 rfl rfl ?_
    refine K_goto rfl ?_
    refine K_pick [2, 1, 0] ?_
    exact hk7 _ _ _ hM  h
set_option maxRecDepth 20000 in
theorem L_Model_isFlood_41 {X : mX}  {k7 : Int32 → Int32 → mM → Option (Int32 × mM)} {r : Int32 × mM}  (hk7 : ∀ (l1 : Int32) (l2 : Int32) (M : mM), Fx M → k7 l1 l2 M = some r → KK X 0 196 7 [(0, .ref 436), (1, .int l1), (2, .int l2)] [] M (fun v M' => v = some (.int r.1) ∧ r.2 = M' ∧ Fx r.2)) (l2 : Int32) (M : mM) (hM : Fx M)  (h : f_Model_isFlood_41  k7 l2 M = some r) : KK X 0 196 41 [(0, .ref 436), (2, .int l2)] [] M (fun v M' => v = some (.int r.1) ∧ r.2 = M' ∧ Fx r.2) := by
    unfold f_Model_isFlood_41 at h
    refine K_iconst (v := 1) rfl (by decide) ?_
    refine K_goto rfl ?_
    refine K_pick [0, 1] ?_
    exact L_Model_isFlood_46   hk7 _ _ _ hM  h
set_option maxRecDepth 20000 in
theorem L_Model_isFlood_7 {X : mX}  {r : Int32 × mM}  : ∀ (n : Nat) (l1 : Int32) (l2 : Int32) (M : mM), Fx M → f_Model_isFlood_7   n l1 l2 M = some r → KK X 0 196 7 [(0, .ref 436), (1, .int l1), (2, .int l2)] [] M (fun v M' => v = some (.int r.1) ∧ r.2 = M' ∧ Fx r.2)
  | 0, _, _, _ => fun _ h => by cases h
  | n + 1, l1, l2, M => fun hM h => by
    unfold f_Model_isFlood_7 at h
    refine K_iload_n rfl 2 rfl ?_
    refine K_aload_n rfl 0 rfl ?_
    refine K_gR rfl sh_436 hM rfl rfl 20 rfl r_436_20 ?_
    refine K_bipush (v := 6) rfl (by decide) ?_
    obtain ⟨v1, ev1, h⟩ := Option.bind_eq_some_iff.mp h
    refine K_rd rfl sh_446 hM ev1 ?_
    refine K_ic_ge rfl (fun c2 => ?_) (fun c2 => ?_)
    · rw [if_pos c2] at h
      refine K_iload_n rfl 1 rfl ?_
      split at h
      · rename_i c3
        obtain rfl := Option.some.inj h
        exact K_iret rfl (Or.inr ⟨rfl, c3⟩) ⟨rfl, rfl, hM⟩
      · cases h
    · rw [if_neg c2] at h
      refine K_iload_n rfl 1 rfl ?_
      refine K_if_ne rfl (fun c4 => ?_) (fun c4 => ?_)
      · rw [if_neg c4] at h
        refine K_pick [0, 2] ?_
        exact L_Model_isFlood_41   (L_Model_isFlood_7    n) _ _ hM  h
      · rw [if_pos c4] at h
        refine K_aload_n rfl 0 rfl ?_
        refine K_gR rfl sh_436 hM rfl rfl 20 rfl r_436_20 ?_
        refine K_sipush (v := 149) rfl (by decide) ?_
        refine K_iload_n rfl 2 rfl ?_
        refine K_iadd rfl ?_
        obtain ⟨v5, ev5, h⟩ := Option.bind_eq_some_iff.mp h
        refine K_rd rfl sh_446 hM ev5 ?_
        refine K_aload_n rfl 0 rfl ?_
        refine K_gR rfl sh_436 hM rfl rfl 20 rfl r_436_20 ?_
        refine K_iconst (v := 3) rfl (by decide) ?_
        obtain ⟨v6, ev6, h⟩ := Option.bind_eq_some_iff.mp h
        refine K_rd rfl sh_446 hM ev6 ?_
        refine K_ic_ne rfl (fun c7 => ?_) (fun c7 => ?_)
        · rw [if_neg c7] at h
          refine K_iconst (v := 0) rfl (by decide) ?_
          refine K_pick [0, 2] ?_
          exact L_Model_isFlood_46   (L_Model_isFlood_7    n) _ _ _ hM  h
        · rw [if_pos c7] at h
          refine K_pick [0, 2] ?_
          exact L_Model_isFlood_41   (L_Model_isFlood_7    n) _ _ hM  h
set_option maxRecDepth 20000 in
theorem F_Model_isFlood {X : mX}  {M : mM} {r : Int32 × mM} (hM : Fx M)  (h : f_Model_isFlood  M = some r) : EV X (0 + 1) 196 [.ref 436] M (fun v M' => v = some (.int r.1) ∧ r.2 = M' ∧ Fx r.2) := by
    refine EV_of (lc := [(0, .ref 436)]) (Nat.le_of_ble_eq_true rfl) (by exact Nat.le_of_ble_eq_true rfl) (by exact List.forall_mem_cons.mpr ⟨rfl, fun _ h => absurd h List.not_mem_nil⟩) ?_
    unfold f_Model_isFlood at h
    refine K_aload_n rfl 0 rfl ?_
    refine K_gI rfl sh_436 hM rfl rfl 26 rfl ?_
    refine K_istore_n rfl ?_
    refine K_iconst (v := 0) rfl (by decide) ?_
    refine K_istore_n rfl ?_
    refine K_pick [2, 1, 0] ?_
    exact L_Model_isFlood_7    FUEL _ _ _ hM  h
set_option maxRecDepth 20000 in
theorem L_Model_sorts_61 {X : mX} {x1 : Int32} {k7 : Int32 → mM → Option (mM)} {k14 : Int32 → Int32 → mM → Option (mM)} {r : mM}  (hk7 : ∀ (l2 : Int32) (M : mM), Fx M → k7 l2 M = some r → KK X 2 197 7 [(0, .ref 436), (1, .int x1), (2, .int l2)] [] M (fun v M' => v = none ∧ r = M' ∧ Fx r)) (hk14 : ∀ (l2 : Int32) (l3 : Int32) (M : mM), Fx M → k14 l2 l3 M = some r → KK X 2 197 14 [(0, .ref 436), (1, .int x1), (2, .int l2), (3, .int l3)] [] M (fun v M' => v = none ∧ r = M' ∧ Fx r)) (l2 : Int32) (l3 : Int32) (M : mM) (hM : Fx M)  (h : f_Model_sorts_61 x1 k7 k14 l2 l3 M = some r) : KK X 2 197 61 [(0, .ref 436), (1, .int x1), (2, .int l2), (3, .int l3)] [] M (fun v M' => v = none ∧ r = M' ∧ Fx r) := by
    unfold f_Model_sorts_61 at h
    refine K_iinc (y := (l3 + 1)) rfl 3 rfl rfl ?_
    refine K_goto rfl ?_
    refine K_pick [1, 2, 3, 0] ?_
    exact hk14 _ _ _ hM  h
set_option maxRecDepth 20000 in
theorem L_Model_sorts_14 {X : mX} {x1 : Int32} {k7 : Int32 → mM → Option (mM)} {r : mM}  (hk7 : ∀ (l2 : Int32) (M : mM), Fx M → k7 l2 M = some r → KK X 2 197 7 [(0, .ref 436), (1, .int x1), (2, .int l2)] [] M (fun v M' => v = none ∧ r = M' ∧ Fx r)) : ∀ (n : Nat) (l2 : Int32) (l3 : Int32) (M : mM), Fx M → f_Model_sorts_14 x1 k7 n l2 l3 M = some r → KK X 2 197 14 [(0, .ref 436), (1, .int x1), (2, .int l2), (3, .int l3)] [] M (fun v M' => v = none ∧ r = M' ∧ Fx r)
  | 0, _, _, _ => fun _ h => by cases h
  | n + 1, l2, l3, M => fun hM h => by
    unfold f_Model_sorts_14 at h
    refine K_iload_n rfl 3 rfl ?_
    refine K_aload_n rfl 0 rfl ?_
    refine K_gR rfl sh_436 hM rfl rfl 20 rfl r_436_20 ?_
    refine K_iconst (v := 0) rfl (by decide) ?_
    obtain ⟨v3, ev3, h⟩ := Option.bind_eq_some_iff.mp h
    refine K_rd rfl sh_446 hM ev3 ?_
    refine K_ic_ge rfl (fun c4 => ?_) (fun c4 => ?_)
    · rw [if_pos c4] at h
      refine K_iinc (y := (l2 + 1)) rfl 2 rfl rfl ?_
      refine K_goto rfl ?_
      refine K_pick [1, 2, 0] ?_
      exact hk7 _ _ hM  h
    · rw [if_neg c4] at h
      refine K_aload_n rfl 0 rfl ?_
      refine K_iload_n rfl 3 rfl ?_
      refine K_iload_n rfl 2 rfl ?_
      obtain ⟨r5, er5, h⟩ := Option.bind_eq_some_iff.mp h
      refine K_cV [.int l3, .int l2] [] rfl rfl (Nat.le_of_ble_eq_true rfl) (Nat.le_of_ble_eq_true rfl) sh_436 hM rfl (EV_le (Nat.le_of_ble_eq_true rfl) (F_Model_graveAt hM  er5)) (fun v' M' hq => ?_)
      obtain ⟨rfl, rfl, hr5⟩ := hq
      refine K_istore rfl ?_
      refine K_iload rfl 0 rfl ?_
      refine K_if_ge rfl (fun c6 => ?_) (fun c6 => ?_)
      · rw [if_pos c6] at h
        refine K_aload_n rfl 1 rfl ?_
        refine K_gR rfl sh_436 hr5 rfl rfl 27 rfl r_436_27 ?_
        refine K_aload_n rfl 1 rfl ?_
        refine K_gI rfl sh_436 hr5 rfl rfl 28 rfl ?_
        refine K_iload rfl 0 rfl ?_
        obtain ⟨M7, eM7, h⟩ := Option.bind_eq_some_iff.mp h
        refine K_wr rfl sh_448 hr5 eM7 (fun hM7 => ?_)
        refine K_aload_n rfl 1 rfl ?_
        refine K_dup rfl rfl ?_
        refine K_gI rfl sh_436 hM7 rfl rfl 28 rfl ?_
        refine K_iconst (v := 1) rfl (by decide) ?_
        refine K_iadd rfl ?_
        obtain ⟨M8, eM8, h⟩ := Option.bind_eq_some_iff.mp h
        refine K_pI rfl sh_436 hM7 rfl rfl 28 rfl eM8 (fun hM8 => ?_)
        refine K_pick [1, 2, 3, 4] ?_
        exact L_Model_sorts_61   hk7 (L_Model_sorts_14   hk7 n) _ _ _ hM8  h
      · rw [if_neg c6] at h
        refine K_goto rfl ?_
        refine K_pick [1, 2, 3, 4] ?_
        exact L_Model_sorts_61   hk7 (L_Model_sorts_14   hk7 n) _ _ _ hr5  h
set_option maxRecDepth 20000 in
theorem L_Model_sorts_7 {X : mX} {x1 : Int32} {r : mM}  : ∀ (n : Nat) (l2 : Int32) (M : mM), Fx M → f_Model_sorts_7 x1  n l2 M = some r → KK X 2 197 7 [(0, .ref 436), (1, .int x1), (2, .int l2)] [] M (fun v M' => v = none ∧ r = M' ∧ Fx r)
  | 0, _, _ => fun _ h => by cases h
  | n + 1, l2, M => fun hM h => by
    unfold f_Model_sorts_7 at h
    refine K_iload_n rfl 2 rfl ?_
    refine K_iload_n rfl 1 rfl ?_
    refine K_ic_gt rfl (fun c2 => ?_) (fun c2 => ?_)
    · rw [if_pos c2] at h
      obtain rfl := Option.some.inj h
      exact K_vret rfl rfl ⟨rfl, rfl, hM⟩
    · rw [if_neg c2] at h
      refine K_iconst (v := 0) rfl (by decide) ?_
      refine K_istore_n rfl ?_
      refine K_pick [1, 2, 3, 0] ?_
      exact L_Model_sorts_14   (L_Model_sorts_7    n) FUEL _ _ _ hM  h
set_option maxRecDepth 20000 in
theorem F_Model_sorts {X : mX} {x1 : Int32} {M : mM} {r : mM} (hM : Fx M)  (h : f_Model_sorts x1 M = some r) : EV X (2 + 1) 197 [.ref 436, .int x1] M (fun v M' => v = none ∧ r = M' ∧ Fx r) := by
    refine EV_of (lc := [(0, .ref 436), (1, .int x1)]) (Nat.le_of_ble_eq_true rfl) (by exact Nat.le_of_ble_eq_true rfl) (by exact List.forall_mem_cons.mpr ⟨rfl, List.forall_mem_cons.mpr ⟨rfl, fun _ h => absurd h List.not_mem_nil⟩⟩) ?_
    unfold f_Model_sorts at h
    refine K_aload_n rfl 0 rfl ?_
    refine K_iconst (v := 0) rfl (by decide) ?_
    obtain ⟨M1, eM1, h⟩ := Option.bind_eq_some_iff.mp h
    refine K_pI rfl sh_436 hM rfl rfl 28 rfl eM1 (fun hM1 => ?_)
    refine K_iconst (v := 0) rfl (by decide) ?_
    refine K_istore_n rfl ?_
    refine K_pick [1, 2, 0] ?_
    exact L_Model_sorts_7    FUEL _ _ hM1  h
set_option maxRecDepth 20000 in
theorem F_Model_falls {X : mX} {x1 : Int32} {M : mM} {r : mM} (hM : Fx M)  (h : f_Model_falls x1 M = some r) : EV X (0 + 1) 198 [.ref 436, .int x1] M (fun v M' => v = none ∧ r = M' ∧ Fx r) := by
    refine EV_of (lc := [(0, .ref 436), (1, .int x1)]) (Nat.le_of_ble_eq_true rfl) (by exact Nat.le_of_ble_eq_true rfl) (by exact List.forall_mem_cons.mpr ⟨rfl, List.forall_mem_cons.mpr ⟨rfl, fun _ h => absurd h List.not_mem_nil⟩⟩) ?_
    unfold f_Model_falls at h
    refine K_bipush (v := 10) rfl (by decide) ?_
    refine K_bipush (v := 9) rfl (by decide) ?_
    refine K_iload_n rfl 1 rfl ?_
    refine K_imul rfl ?_
    refine K_iadd rfl ?_
    refine K_istore_n rfl ?_
    refine K_aload_n rfl 1 rfl ?_
    refine K_gR rfl sh_436 hM rfl rfl 20 rfl r_436_20 ?_
    refine K_iload_n rfl 0 rfl ?_
    refine K_iconst (v := (-1)) rfl (by decide) ?_
    obtain ⟨M1, eM1, h⟩ := Option.bind_eq_some_iff.mp h
    refine K_wr rfl sh_446 hM eM1 (fun hM1 => ?_)
    refine K_aload_n rfl 1 rfl ?_
    refine K_gR rfl sh_436 hM1 rfl rfl 20 rfl r_436_20 ?_
    refine K_iload_n rfl 0 rfl ?_
    refine K_iconst (v := 1) rfl (by decide) ?_
    refine K_iadd rfl ?_
    refine K_iconst (v := (-1)) rfl (by decide) ?_
    obtain ⟨M2, eM2, h⟩ := Option.bind_eq_some_iff.mp h
    refine K_wr rfl sh_446 hM1 eM2 (fun hM2 => ?_)
    refine K_aload_n rfl 1 rfl ?_
    refine K_gR rfl sh_436 hM2 rfl rfl 20 rfl r_436_20 ?_
    refine K_iload_n rfl 0 rfl ?_
    refine K_iconst (v := 3) rfl (by decide) ?_
    refine K_iadd rfl ?_
    refine K_iconst (v := 0) rfl (by decide) ?_
    obtain ⟨M3, eM3, h⟩ := Option.bind_eq_some_iff.mp h
    refine K_wr rfl sh_446 hM2 eM3 (fun hM3 => ?_)
    refine K_aload_n rfl 1 rfl ?_
    refine K_gR rfl sh_436 hM3 rfl rfl 20 rfl r_436_20 ?_
    refine K_iload_n rfl 0 rfl ?_
    refine K_iconst (v := 4) rfl (by decide) ?_
    refine K_iadd rfl ?_
    refine K_aload_n rfl 1 rfl ?_
    refine K_gR rfl sh_436 hM3 rfl rfl 20 rfl r_436_20 ?_
    refine K_iconst (v := 3) rfl (by decide) ?_
    obtain ⟨v4, ev4, h⟩ := Option.bind_eq_some_iff.mp h
    refine K_rd rfl sh_446 hM3 ev4 ?_
    obtain ⟨M5, eM5, h⟩ := Option.bind_eq_some_iff.mp h
    refine K_wr rfl sh_446 hM3 eM5 (fun hM5 => ?_)
    refine K_aload_n rfl 1 rfl ?_
    refine K_gR rfl sh_436 hM5 rfl rfl 23 rfl r_436_23 ?_
    refine K_aload_n rfl 1 rfl ?_
    refine K_gI rfl sh_436 hM5 rfl rfl 24 rfl ?_
    refine K_iload_n rfl 2 rfl ?_
    obtain ⟨M6, eM6, h⟩ := Option.bind_eq_some_iff.mp h
    refine K_wr rfl sh_447 hM5 eM6 (fun hM6 => ?_)
    refine K_aload_n rfl 1 rfl ?_
    refine K_dup rfl rfl ?_
    refine K_gI rfl sh_436 hM6 rfl rfl 24 rfl ?_
    refine K_iconst (v := 1) rfl (by decide) ?_
    refine K_iadd rfl ?_
    obtain ⟨M7, eM7, h⟩ := Option.bind_eq_some_iff.mp h
    refine K_pI rfl sh_436 hM6 rfl rfl 24 rfl eM7 (fun hM7 => ?_)
    obtain rfl := Option.some.inj h
    exact K_vret rfl rfl ⟨rfl, rfl, hM7⟩
set_option maxRecDepth 20000 in
theorem F_Model_isFallen {X : mX} {x1 : Int32} {M : mM} {r : Int32 × mM} (hM : Fx M)  (h : f_Model_isFallen x1 M = some r) : EV X (1 + 1) 201 [.ref 436, .int x1] M (fun v M' => v = some (.int r.1) ∧ r.2 = M' ∧ Fx r.2) := by
    refine EV_of (lc := [(0, .ref 436), (1, .int x1)]) (Nat.le_of_ble_eq_true rfl) (by exact Nat.le_of_ble_eq_true rfl) (by exact List.forall_mem_cons.mpr ⟨rfl, List.forall_mem_cons.mpr ⟨rfl, fun _ h => absurd h List.not_mem_nil⟩⟩) ?_
    unfold f_Model_isFallen at h
    refine K_aload_n rfl 0 rfl ?_
    refine K_iload_n rfl 1 rfl ?_
    refine K_iconst (v := 0) rfl (by decide) ?_
    obtain ⟨r1, er1, h⟩ := Option.bind_eq_some_iff.mp h
    refine K_cV [.int x1, .int 0] [] rfl rfl (Nat.le_of_ble_eq_true rfl) (Nat.le_of_ble_eq_true rfl) sh_436 hM rfl (EV_le (Nat.le_of_ble_eq_true rfl) (F_Model_graveOf hM  er1)) (fun v' M' hq => ?_)
    obtain ⟨rfl, rfl, hr1⟩ := hq
    refine K_if_ge rfl (fun c2 => ?_) (fun c2 => ?_)
    · rw [if_pos c2] at h
      refine K_iconst (v := 0) rfl (by decide) ?_
      obtain rfl := Option.some.inj h
      exact K_iret rfl (Or.inr ⟨rfl, by decide⟩) ⟨rfl, rfl, hr1⟩
    · rw [if_neg c2] at h
      refine K_iconst (v := 1) rfl (by decide) ?_
      refine K_goto rfl ?_
      obtain rfl := Option.some.inj h
      exact K_iret rfl (Or.inr ⟨rfl, by decide⟩) ⟨rfl, rfl, hr1⟩
set_option maxRecDepth 20000 in
theorem F_Model_isNearer {X : mX} {x1 : Int32} {M : mM} {r : Int32 × mM} (hM : Fx M)  (h : f_Model_isNearer x1 M = some r) : EV X (2 + 1) 200 [.ref 436, .int x1] M (fun v M' => v = some (.int r.1) ∧ r.2 = M' ∧ Fx r.2) := by
    refine EV_of (lc := [(0, .ref 436), (1, .int x1)]) (Nat.le_of_ble_eq_true rfl) (by exact Nat.le_of_ble_eq_true rfl) (by exact List.forall_mem_cons.mpr ⟨rfl, List.forall_mem_cons.mpr ⟨rfl, fun _ h => absurd h List.not_mem_nil⟩⟩) ?_
    unfold f_Model_isNearer at h
    refine K_aload_n rfl 0 rfl ?_
    refine K_iload_n rfl 1 rfl ?_
    refine K_bipush (v := 6) rfl (by decide) ?_
    obtain ⟨r1, er1, h⟩ := Option.bind_eq_some_iff.mp h
    refine K_cV [.int x1, .int 6] [] rfl rfl (Nat.le_of_ble_eq_true rfl) (Nat.le_of_ble_eq_true rfl) sh_436 hM rfl (EV_le (Nat.le_of_ble_eq_true rfl) (F_Model_graveOf hM  er1)) (fun v' M' hq => ?_)
    obtain ⟨rfl, rfl, hr1⟩ := hq
    refine K_istore_n rfl ?_
    refine K_iload_n rfl 0 rfl ?_
    refine K_if_lt rfl (fun c2 => ?_) (fun c2 => ?_)
    · rw [if_pos c2] at h
      refine K_iconst (v := 0) rfl (by decide) ?_
      obtain rfl := Option.some.inj h
      exact K_iret rfl (Or.inr ⟨rfl, by decide⟩) ⟨rfl, rfl, hr1⟩
    · rw [if_neg c2] at h
      refine K_aload_n rfl 1 rfl ?_
      refine K_iload_n rfl 0 rfl ?_
      obtain ⟨r3, er3, h⟩ := Option.bind_eq_some_iff.mp h
      refine K_cV [.int r1.1] [] rfl rfl (Nat.le_of_ble_eq_true rfl) (Nat.le_of_ble_eq_true rfl) sh_436 hr1 rfl (EV_le (Nat.le_of_ble_eq_true rfl) (F_Model_isFallen hr1  er3)) (fun v' M' hq => ?_)
      obtain ⟨rfl, rfl, hr3⟩ := hq
      refine K_if_ne rfl (fun c4 => ?_) (fun c4 => ?_)
      · rw [if_neg c4] at h
        refine K_iconst (v := 0) rfl (by decide) ?_
        obtain rfl := Option.some.inj h
        exact K_iret rfl (Or.inr ⟨rfl, by decide⟩) ⟨rfl, rfl, hr3⟩
      · rw [if_pos c4] at h
        refine K_aload_n rfl 1 rfl ?_
        refine K_iload_n rfl 2 rfl ?_
        refine K_iconst (v := 1) rfl (by decide) ?_
        obtain ⟨r5, er5, h⟩ := Option.bind_eq_some_iff.mp h
        refine K_cV [.int x1, .int 1] [] rfl rfl (Nat.le_of_ble_eq_true rfl) (Nat.le_of_ble_eq_true rfl) sh_436 hr3 rfl (EV_le (Nat.le_of_ble_eq_true rfl) (F_Model_graveOf hr3  er5)) (fun v' M' hq => ?_)
        obtain ⟨rfl, rfl, hr5⟩ := hq
        refine K_aload_n rfl 1 rfl ?_
        refine K_iload_n rfl 0 rfl ?_
        refine K_iconst (v := 1) rfl (by decide) ?_
        obtain ⟨r6, er6, h⟩ := Option.bind_eq_some_iff.mp h
        refine K_cV [.int r1.1, .int 1] [.int r5.1] rfl rfl (Nat.le_of_ble_eq_true rfl) (Nat.le_of_ble_eq_true rfl) sh_436 hr5 rfl (EV_le (Nat.le_of_ble_eq_true rfl) (F_Model_graveOf hr5  er6)) (fun v' M' hq => ?_)
        obtain ⟨rfl, rfl, hr6⟩ := hq
        refine K_ic_ge rfl (fun c7 => ?_) (fun c7 => ?_)
        · rw [if_pos c7] at h
          refine K_iconst (v := 0) rfl (by decide) ?_
          obtain rfl := Option.some.inj h
          exact K_iret rfl (Or.inr ⟨rfl, by decide⟩) ⟨rfl, rfl, hr6⟩
        · rw [if_neg c7] at h
          refine K_iconst (v := 1) rfl (by decide) ?_
          refine K_goto rfl ?_
          obtain rfl := Option.some.inj h
          exact K_iret rfl (Or.inr ⟨rfl, by decide⟩) ⟨rfl, rfl, hr6⟩
set_option maxRecDepth 20000 in
theorem L_Model_behindOf_50 {X : mX} {x1 : Int32} {k4 : Int32 → Int32 → mM → Option (Int32 × mM)} {r : Int32 × mM}  (hk4 : ∀ (l2 : Int32) (l3 : Int32) (M : mM), Fx M → k4 l2 l3 M = some r → KK X 1 203 4 [(0, .ref 436), (1, .int x1), (2, .int l2), (3, .int l3)] [] M (fun v M' => v = some (.int r.1) ∧ r.2 = M' ∧ Fx r.2)) (l3 : Int32) (s0 : Int32) (s1 : Int32) (M : mM) (hM : Fx M)  (h : f_Model_behindOf_50 x1 k4 l3 s0 s1 M = some r) : KK X 1 203 50 [(0, .ref 436), (1, .int x1), (3, .int l3)] [.int s1, .int s0] M (fun v M' => v = some (.int r.1) ∧ r.2 = M' ∧ Fx r.2) := by
    unfold f_Model_behindOf_50 at h
    refine K_iadd rfl ?_
    refine K_istore_n rfl ?_
    refine K_iinc (y := (l3 + 1)) rfl 3 rfl rfl ?_
    refine K_goto rfl ?_
    refine K_pick [2, 3, 1, 0] ?_
    exact hk4 _ _ _ hM  h
set_option maxRecDepth 20000 in
theorem L_Model_behindOf_49 {X : mX} {x1 : Int32} {k4 : Int32 → Int32 → mM → Option (Int32 × mM)} {r : Int32 × mM}  (hk4 : ∀ (l2 : Int32) (l3 : Int32) (M : mM), Fx M → k4 l2 l3 M = some r → KK X 1 203 4 [(0, .ref 436), (1, .int x1), (2, .int l2), (3, .int l3)] [] M (fun v M' => v = some (.int r.1) ∧ r.2 = M' ∧ Fx r.2)) (l3 : Int32) (s0 : Int32) (M : mM) (hM : Fx M)  (h : f_Model_behindOf_49 x1 k4 l3 s0 M = some r) : KK X 1 203 49 [(0, .ref 436), (1, .int x1), (3, .int l3)] [.int s0] M (fun v M' => v = some (.int r.1) ∧ r.2 = M' ∧ Fx r.2) := by
    unfold f_Model_behindOf_49 at h
    refine K_iconst (v := 0) rfl (by decide) ?_
    refine K_pick [0, 1, 2] ?_
    exact L_Model_behindOf_50   hk4 _ _ _ _ hM  h
set_option maxRecDepth 20000 in
theorem L_Model_behindOf_4 {X : mX} {x1 : Int32} {r : Int32 × mM}  : ∀ (n : Nat) (l2 : Int32) (l3 : Int32) (M : mM), Fx M → f_Model_behindOf_4 x1  n l2 l3 M = some r → KK X 1 203 4 [(0, .ref 436), (1, .int x1), (2, .int l2), (3, .int l3)] [] M (fun v M' => v = some (.int r.1) ∧ r.2 = M' ∧ Fx r.2)
  | 0, _, _, _ => fun _ h => by cases h
  | n + 1, l2, l3, M => fun hM h => by
    unfold f_Model_behindOf_4 at h
    refine K_iload_n rfl 3 rfl ?_
    refine K_aload_n rfl 0 rfl ?_
    refine K_gR rfl sh_436 hM rfl rfl 20 rfl r_436_20 ?_
    refine K_iconst (v := 2) rfl (by decide) ?_
    obtain ⟨v1, ev1, h⟩ := Option.bind_eq_some_iff.mp h
    refine K_rd rfl sh_446 hM ev1 ?_
    refine K_ic_ge rfl (fun c2 => ?_) (fun c2 => ?_)
    · rw [if_pos c2] at h
      refine K_iload_n rfl 2 rfl ?_
      obtain rfl := Option.some.inj h
      exact K_iret rfl (Or.inl rfl) ⟨rfl, rfl, hM⟩
    · rw [if_neg c2] at h
      refine K_iload_n rfl 2 rfl ?_
      refine K_aload_n rfl 0 rfl ?_
      refine K_iload_n rfl 3 rfl ?_
      refine K_iconst (v := 0) rfl (by decide) ?_
      obtain ⟨r3, er3, h⟩ := Option.bind_eq_some_iff.mp h
      refine K_cV [.int l3, .int 0] [.int l2] rfl rfl (Nat.le_of_ble_eq_true rfl) (Nat.le_of_ble_eq_true rfl) sh_436 hM rfl (EV_le (Nat.le_of_ble_eq_true rfl) (F_Model_graveOf hM  er3)) (fun v' M' hq => ?_)
      obtain ⟨rfl, rfl, hr3⟩ := hq
      refine K_aload_n rfl 0 rfl ?_
      refine K_iload_n rfl 1 rfl ?_
      refine K_iconst (v := 0) rfl (by decide) ?_
      obtain ⟨r4, er4, h⟩ := Option.bind_eq_some_iff.mp h
      refine K_cV [.int x1, .int 0] [.int r3.1, .int l2] rfl rfl (Nat.le_of_ble_eq_true rfl) (Nat.le_of_ble_eq_true rfl) sh_436 hr3 rfl (EV_le (Nat.le_of_ble_eq_true rfl) (F_Model_graveOf hr3  er4)) (fun v' M' hq => ?_)
      obtain ⟨rfl, rfl, hr4⟩ := hq
      refine K_ic_ne rfl (fun c5 => ?_) (fun c5 => ?_)
      · rw [if_neg c5] at h
        refine K_pick [0, 1, 3] ?_
        exact L_Model_behindOf_49   (L_Model_behindOf_4    n) _ _ _ hr4  h
      · rw [if_pos c5] at h
        refine K_aload_n rfl 0 rfl ?_
        refine K_iload_n rfl 3 rfl ?_
        refine K_iconst (v := 1) rfl (by decide) ?_
        obtain ⟨r6, er6, h⟩ := Option.bind_eq_some_iff.mp h
        refine K_cV [.int l3, .int 1] [.int l2] rfl rfl (Nat.le_of_ble_eq_true rfl) (Nat.le_of_ble_eq_true rfl) sh_436 hr4 rfl (EV_le (Nat.le_of_ble_eq_true rfl) (F_Model_graveOf hr4  er6)) (fun v' M' hq => ?_)
        obtain ⟨rfl, rfl, hr6⟩ := hq
        refine K_aload_n rfl 0 rfl ?_
        refine K_iload_n rfl 1 rfl ?_
        refine K_iconst (v := 1) rfl (by decide) ?_
        obtain ⟨r7, er7, h⟩ := Option.bind_eq_some_iff.mp h
        refine K_cV [.int x1, .int 1] [.int r6.1, .int l2] rfl rfl (Nat.le_of_ble_eq_true rfl) (Nat.le_of_ble_eq_true rfl) sh_436 hr6 rfl (EV_le (Nat.le_of_ble_eq_true rfl) (F_Model_graveOf hr6  er7)) (fun v' M' hq => ?_)
        obtain ⟨rfl, rfl, hr7⟩ := hq
        refine K_ic_le rfl (fun c8 => ?_) (fun c8 => ?_)
        · rw [if_pos c8] at h
          refine K_pick [0, 1, 3] ?_
          exact L_Model_behindOf_49   (L_Model_behindOf_4    n) _ _ _ hr7  h
        · rw [if_neg c8] at h
          refine K_iconst (v := 1) rfl (by decide) ?_
          refine K_goto rfl ?_
          refine K_pick [0, 1, 3] ?_
          exact L_Model_behindOf_50   (L_Model_behindOf_4    n) _ _ _ _ hr7  h
set_option maxRecDepth 20000 in
theorem F_Model_behindOf {X : mX} {x1 : Int32} {M : mM} {r : Int32 × mM} (hM : Fx M)  (h : f_Model_behindOf x1 M = some r) : EV X (1 + 1) 203 [.ref 436, .int x1] M (fun v M' => v = some (.int r.1) ∧ r.2 = M' ∧ Fx r.2) := by
    refine EV_of (lc := [(0, .ref 436), (1, .int x1)]) (Nat.le_of_ble_eq_true rfl) (by exact Nat.le_of_ble_eq_true rfl) (by exact List.forall_mem_cons.mpr ⟨rfl, List.forall_mem_cons.mpr ⟨rfl, fun _ h => absurd h List.not_mem_nil⟩⟩) ?_
    unfold f_Model_behindOf at h
    refine K_iconst (v := 0) rfl (by decide) ?_
    refine K_istore_n rfl ?_
    refine K_iconst (v := 0) rfl (by decide) ?_
    refine K_istore_n rfl ?_
    refine K_pick [2, 3, 1, 0] ?_
    exact L_Model_behindOf_4    FUEL _ _ _ hM  h
set_option maxRecDepth 20000 in
theorem L_Model_fallenMany_28 {X : mX}  {k4 : Int32 → Int32 → mM → Option (Int32 × mM)} {r : Int32 × mM}  (hk4 : ∀ (l1 : Int32) (l2 : Int32) (M : mM), Fx M → k4 l1 l2 M = some r → KK X 2 204 4 [(0, .ref 436), (1, .int l1), (2, .int l2)] [] M (fun v M' => v = some (.int r.1) ∧ r.2 = M' ∧ Fx r.2)) (l2 : Int32) (s0 : Int32) (s1 : Int32) (M : mM) (hM : Fx M)  (h : f_Model_fallenMany_28  k4 l2 s0 s1 M = some r) : KK X 2 204 28 [(0, .ref 436), (2, .int l2)] [.int s1, .int s0] M (fun v M' => v = some (.int r.1) ∧ r.2 = M' ∧ Fx r.2) := by
    unfold f_Model_fallenMany_28 at h
    refine K_iadd rfl ?_
    refine K_istore_n rfl ?_
    refine K_iinc (y := (l2 + 1)) rfl 2 rfl rfl ?_
    refine K_goto rfl ?_
    refine K_pick [2, 1, 0] ?_
    exact hk4 _ _ _ hM  h
set_option maxRecDepth 20000 in
theorem L_Model_fallenMany_4 {X : mX}  {r : Int32 × mM}  : ∀ (n : Nat) (l1 : Int32) (l2 : Int32) (M : mM), Fx M → f_Model_fallenMany_4   n l1 l2 M = some r → KK X 2 204 4 [(0, .ref 436), (1, .int l1), (2, .int l2)] [] M (fun v M' => v = some (.int r.1) ∧ r.2 = M' ∧ Fx r.2)
  | 0, _, _, _ => fun _ h => by cases h
  | n + 1, l1, l2, M => fun hM h => by
    unfold f_Model_fallenMany_4 at h
    refine K_iload_n rfl 2 rfl ?_
    refine K_aload_n rfl 0 rfl ?_
    refine K_gR rfl sh_436 hM rfl rfl 20 rfl r_436_20 ?_
    refine K_iconst (v := 2) rfl (by decide) ?_
    obtain ⟨v1, ev1, h⟩ := Option.bind_eq_some_iff.mp h
    refine K_rd rfl sh_446 hM ev1 ?_
    refine K_ic_ge rfl (fun c2 => ?_) (fun c2 => ?_)
    · rw [if_pos c2] at h
      refine K_iload_n rfl 1 rfl ?_
      obtain rfl := Option.some.inj h
      exact K_iret rfl (Or.inl rfl) ⟨rfl, rfl, hM⟩
    · rw [if_neg c2] at h
      refine K_iload_n rfl 1 rfl ?_
      refine K_aload_n rfl 0 rfl ?_
      refine K_iload_n rfl 2 rfl ?_
      obtain ⟨r3, er3, h⟩ := Option.bind_eq_some_iff.mp h
      refine K_cV [.int l2] [.int l1] rfl rfl (Nat.le_of_ble_eq_true rfl) (Nat.le_of_ble_eq_true rfl) sh_436 hM rfl (EV_le (Nat.le_of_ble_eq_true rfl) (F_Model_isFallen hM  er3)) (fun v' M' hq => ?_)
      obtain ⟨rfl, rfl, hr3⟩ := hq
      refine K_if_eq rfl (fun c4 => ?_) (fun c4 => ?_)
      · rw [if_pos c4] at h
        refine K_iconst (v := 0) rfl (by decide) ?_
        refine K_pick [0, 2] ?_
        exact L_Model_fallenMany_28   (L_Model_fallenMany_4    n) _ _ _ _ hr3  h
      · rw [if_neg c4] at h
        refine K_iconst (v := 1) rfl (by decide) ?_
        refine K_goto rfl ?_
        refine K_pick [0, 2] ?_
        exact L_Model_fallenMany_28   (L_Model_fallenMany_4    n) _ _ _ _ hr3  h
set_option maxRecDepth 20000 in
theorem F_Model_fallenMany {X : mX}  {M : mM} {r : Int32 × mM} (hM : Fx M)  (h : f_Model_fallenMany  M = some r) : EV X (2 + 1) 204 [.ref 436] M (fun v M' => v = some (.int r.1) ∧ r.2 = M' ∧ Fx r.2) := by
    refine EV_of (lc := [(0, .ref 436)]) (Nat.le_of_ble_eq_true rfl) (by exact Nat.le_of_ble_eq_true rfl) (by exact List.forall_mem_cons.mpr ⟨rfl, fun _ h => absurd h List.not_mem_nil⟩) ?_
    unfold f_Model_fallenMany at h
    refine K_iconst (v := 0) rfl (by decide) ?_
    refine K_istore_n rfl ?_
    refine K_iconst (v := 0) rfl (by decide) ?_
    refine K_istore_n rfl ?_
    refine K_pick [2, 1, 0] ?_
    exact L_Model_fallenMany_4    FUEL _ _ _ hM  h
set_option maxRecDepth 20000 in
theorem F_Model_push {X : mX} {x1 : Int64} {M : mM} {r : mM} (hM : Fx M)  (h : f_Model_push x1 M = some r) : EV X (0 + 1) 206 [.ref 436, .long x1] M (fun v M' => v = none ∧ r = M' ∧ Fx r) := by
    refine EV_of (lc := [(0, .ref 436), (1, .long x1)]) (Nat.le_of_ble_eq_true rfl) (by exact Nat.le_of_ble_eq_true rfl) (by exact List.forall_mem_cons.mpr ⟨rfl, List.forall_mem_cons.mpr ⟨rfl, fun _ h => absurd h List.not_mem_nil⟩⟩) ?_
    unfold f_Model_push at h
    refine K_aload_n rfl 0 rfl ?_
    refine K_gR rfl sh_436 hM rfl rfl 17 rfl r_436_17 ?_
    refine K_aload_n rfl 0 rfl ?_
    refine K_gI rfl sh_436 hM rfl rfl 18 rfl ?_
    refine K_lload_n rfl 1 rfl ?_
    obtain ⟨M1, eM1, h⟩ := Option.bind_eq_some_iff.mp h
    refine K_wrL rfl sh_444 hM eM1 (fun hM1 => ?_)
    refine K_aload_n rfl 0 rfl ?_
    refine K_dup rfl rfl ?_
    refine K_gI rfl sh_436 hM1 rfl rfl 18 rfl ?_
    refine K_iconst (v := 1) rfl (by decide) ?_
    refine K_iadd rfl ?_
    obtain ⟨M2, eM2, h⟩ := Option.bind_eq_some_iff.mp h
    refine K_pI rfl sh_436 hM1 rfl rfl 18 rfl eM2 (fun hM2 => ?_)
    obtain rfl := Option.some.inj h
    exact K_vret rfl rfl ⟨rfl, rfl, hM2⟩
set_option maxRecDepth 20000 in
theorem F_Model_pop {X : mX}  {M : mM} {r : Int64 × mM} (hM : Fx M)  (h : f_Model_pop  M = some r) : EV X (0 + 1) 207 [.ref 436] M (fun v M' => v = some (.long r.1) ∧ r.2 = M' ∧ Fx r.2) := by
    refine EV_of (lc := [(0, .ref 436)]) (Nat.le_of_ble_eq_true rfl) (by exact Nat.le_of_ble_eq_true rfl) (by exact List.forall_mem_cons.mpr ⟨rfl, fun _ h => absurd h List.not_mem_nil⟩) ?_
    unfold f_Model_pop at h
    refine K_aload_n rfl 0 rfl ?_
    refine K_dup rfl rfl ?_
    refine K_gI rfl sh_436 hM rfl rfl 18 rfl ?_
    refine K_iconst (v := 1) rfl (by decide) ?_
    refine K_isub rfl ?_
    obtain ⟨M1, eM1, h⟩ := Option.bind_eq_some_iff.mp h
    refine K_pI rfl sh_436 hM rfl rfl 18 rfl eM1 (fun hM1 => ?_)
    refine K_aload_n rfl 0 rfl ?_
    refine K_gR rfl sh_436 hM1 rfl rfl 17 rfl r_436_17 ?_
    refine K_aload_n rfl 0 rfl ?_
    refine K_gI rfl sh_436 hM1 rfl rfl 18 rfl ?_
    obtain ⟨v2, ev2, h⟩ := Option.bind_eq_some_iff.mp h
    refine K_rdL rfl sh_444 hM1 ev2 ?_
    obtain rfl := Option.some.inj h
    exact K_lret rfl rfl ⟨rfl, rfl, hM1⟩
set_option maxRecDepth 20000 in
theorem F_Model_one {X : mX} {x0 : Int32} {x1 : Int64} {x3 : Int64} {M : mM} {r : Int64 × mM} (hM : Fx M)  (h : f_Model_one x0 x1 x3 M = some r) : EV X (0 + 1) 208 [.int x0, .long x1, .long x3] M (fun v M' => v = some (.long r.1) ∧ r.2 = M' ∧ Fx r.2) := by
    refine EV_of (lc := [(0, .int x0), (1, .long x1), (3, .long x3)]) (Nat.le_of_ble_eq_true rfl) (by exact Nat.le_of_ble_eq_true rfl) (by exact List.forall_mem_cons.mpr ⟨rfl, List.forall_mem_cons.mpr ⟨rfl, List.forall_mem_cons.mpr ⟨rfl, fun _ h => absurd h List.not_mem_nil⟩⟩⟩) ?_
    unfold f_Model_one at h
    refine K_iload_n rfl 0 rfl ?_
    by_cases c1 : x0 = 2
    · rw [if_pos c1] at h
      refine K_ts (t := 68) rfl (fun _ => by rw [c1]; rfl) ?_
      refine K_lload_n rfl 1 rfl ?_
      refine K_lload_n rfl 2 rfl ?_
      refine K_ladd rfl ?_
      obtain rfl := Option.some.inj h
      exact K_lret rfl rfl ⟨rfl, rfl, hM⟩
    · rw [if_neg c1] at h
      by_cases c2 : x0 = 3
      · rw [if_pos c2] at h
        refine K_ts (t := 72) rfl (fun _ => by rw [c2]; rfl) ?_
        refine K_lload_n rfl 1 rfl ?_
        refine K_lload_n rfl 2 rfl ?_
        refine K_lsub rfl ?_
        obtain rfl := Option.some.inj h
        exact K_lret rfl rfl ⟨rfl, rfl, hM⟩
      · rw [if_neg c2] at h
        by_cases c3 : x0 = 4
        · rw [if_pos c3] at h
          refine K_ts (t := 76) rfl (fun _ => by rw [c3]; rfl) ?_
          refine K_lload_n rfl 1 rfl ?_
          refine K_lload_n rfl 2 rfl ?_
          refine K_lmul rfl ?_
          obtain rfl := Option.some.inj h
          exact K_lret rfl rfl ⟨rfl, rfl, hM⟩
        · rw [if_neg c3] at h
          by_cases c6 : x0 = 5
          · rw [if_pos c6] at h
            refine K_ts (t := 80) rfl (fun _ => by rw [c6]; rfl) ?_
            refine K_lload_n rfl 2 rfl ?_
            refine K_lconst (v := 0) rfl (by decide) ?_
            refine K_lcmp rfl ?_
            refine K_if_ne rfl (fun c4 => ?_) (fun c4 => ?_)
            · rw [if_neg c4] at h
              refine K_lload_n rfl 1 rfl ?_
              refine K_lload_n rfl 2 rfl ?_
              refine K_ldiv rfl (fun z => by rw [if_pos z] at h; cases h) ?_
              rw [if_neg (fun z : x3 = 0 => by rw [if_pos z] at h; cases h)] at h
              obtain rfl := Option.some.inj h
              exact K_lret rfl rfl ⟨rfl, rfl, hM⟩
            · rw [if_pos c4] at h
              refine K_lconst (v := 0) rfl (by decide) ?_
              refine K_goto rfl ?_
              obtain rfl := Option.some.inj h
              exact K_lret rfl rfl ⟨rfl, rfl, hM⟩
          · rw [if_neg c6] at h
            by_cases c8 : x0 = 6
            · rw [if_pos c8] at h
              refine K_ts (t := 108) rfl (fun _ => by rw [c8]; rfl) ?_
              refine K_lload_n rfl 1 rfl ?_
              refine K_lload_n rfl 2 rfl ?_
              refine K_lcmp rfl ?_
              refine K_if_ge rfl (fun c7 => ?_) (fun c7 => ?_)
              · rw [if_pos c7] at h
                refine K_lconst (v := 0) rfl (by decide) ?_
                obtain rfl := Option.some.inj h
                exact K_lret rfl rfl ⟨rfl, rfl, hM⟩
              · rw [if_neg c7] at h
                refine K_lconst (v := 1) rfl (by decide) ?_
                refine K_goto rfl ?_
                obtain rfl := Option.some.inj h
                exact K_lret rfl rfl ⟨rfl, rfl, hM⟩
            · rw [if_neg c8] at h
              by_cases c10 : x0 = 7
              · rw [if_pos c10] at h
                refine K_ts (t := 120) rfl (fun _ => by rw [c10]; rfl) ?_
                refine K_lload_n rfl 1 rfl ?_
                refine K_lload_n rfl 2 rfl ?_
                refine K_lcmp rfl ?_
                refine K_if_gt rfl (fun c9 => ?_) (fun c9 => ?_)
                · rw [if_pos c9] at h
                  refine K_lconst (v := 0) rfl (by decide) ?_
                  obtain rfl := Option.some.inj h
                  exact K_lret rfl rfl ⟨rfl, rfl, hM⟩
                · rw [if_neg c9] at h
                  refine K_lconst (v := 1) rfl (by decide) ?_
                  refine K_goto rfl ?_
                  obtain rfl := Option.some.inj h
                  exact K_lret rfl rfl ⟨rfl, rfl, hM⟩
              · rw [if_neg c10] at h
                by_cases c12 : x0 = 8
                · rw [if_pos c12] at h
                  refine K_ts (t := 132) rfl (fun _ => by rw [c12]; rfl) ?_
                  refine K_lload_n rfl 1 rfl ?_
                  refine K_lload_n rfl 2 rfl ?_
                  refine K_lcmp rfl ?_
                  refine K_if_ne rfl (fun c11 => ?_) (fun c11 => ?_)
                  · rw [if_neg c11] at h
                    refine K_lconst (v := 0) rfl (by decide) ?_
                    obtain rfl := Option.some.inj h
                    exact K_lret rfl rfl ⟨rfl, rfl, hM⟩
                  · rw [if_pos c11] at h
                    refine K_lconst (v := 1) rfl (by decide) ?_
                    refine K_goto rfl ?_
                    obtain rfl := Option.some.inj h
                    exact K_lret rfl rfl ⟨rfl, rfl, hM⟩
                · rw [if_neg c12] at h
                  by_cases c14 : x0 = 9
                  · rw [if_pos c14] at h
                    refine K_ts (t := 144) rfl (fun _ => by rw [c14]; rfl) ?_
                    refine K_lload_n rfl 1 rfl ?_
                    refine K_lload_n rfl 2 rfl ?_
                    refine K_lcmp rfl ?_
                    refine K_if_lt rfl (fun c13 => ?_) (fun c13 => ?_)
                    · rw [if_pos c13] at h
                      refine K_lconst (v := 0) rfl (by decide) ?_
                      obtain rfl := Option.some.inj h
                      exact K_lret rfl rfl ⟨rfl, rfl, hM⟩
                    · rw [if_neg c13] at h
                      refine K_lconst (v := 1) rfl (by decide) ?_
                      refine K_goto rfl ?_
                      obtain rfl := Option.some.inj h
                      exact K_lret rfl rfl ⟨rfl, rfl, hM⟩
                  · rw [if_neg c14] at h
                    by_cases c16 : x0 = 10
                    · rw [if_pos c16] at h
                      refine K_ts (t := 156) rfl (fun _ => by rw [c16]; rfl) ?_
                      refine K_lload_n rfl 1 rfl ?_
                      refine K_lload_n rfl 2 rfl ?_
                      refine K_lcmp rfl ?_
                      refine K_if_le rfl (fun c15 => ?_) (fun c15 => ?_)
                      · rw [if_pos c15] at h
                        refine K_lconst (v := 0) rfl (by decide) ?_
                        obtain rfl := Option.some.inj h
                        exact K_lret rfl rfl ⟨rfl, rfl, hM⟩
                      · rw [if_neg c15] at h
                        refine K_lconst (v := 1) rfl (by decide) ?_
                        refine K_goto rfl ?_
                        obtain rfl := Option.some.inj h
                        exact K_lret rfl rfl ⟨rfl, rfl, hM⟩
                    · rw [if_neg c16] at h
                      by_cases c17 : x0 = 11
                      · rw [if_pos c17] at h
                        refine K_ts (t := 172) rfl (fun _ => by rw [c17]; rfl) ?_
                        refine K_lload_n rfl 1 rfl ?_
                        refine K_lload_n rfl 2 rfl ?_
                        refine K_lor rfl ?_
                        obtain rfl := Option.some.inj h
                        exact K_lret rfl rfl ⟨rfl, rfl, hM⟩
                      · rw [if_neg c17] at h
                        by_cases c18 : x0 = 12
                        · rw [if_pos c18] at h
                          refine K_ts (t := 168) rfl (fun _ => by rw [c18]; rfl) ?_
                          refine K_lload_n rfl 1 rfl ?_
                          refine K_lload_n rfl 2 rfl ?_
                          refine K_land rfl ?_
                          obtain rfl := Option.some.inj h
                          exact K_lret rfl rfl ⟨rfl, rfl, hM⟩
                        · rw [if_neg c18] at h
                          by_cases c19 : x0 = 13
                          · rw [if_pos c19] at h
                            refine K_ts (t := 172) rfl (fun _ => by rw [c19]; rfl) ?_
                            refine K_lload_n rfl 1 rfl ?_
                            refine K_lload_n rfl 2 rfl ?_
                            refine K_lor rfl ?_
                            obtain rfl := Option.some.inj h
                            exact K_lret rfl rfl ⟨rfl, rfl, hM⟩
                          · rw [if_neg c19] at h
                            by_cases c22 : x0 = 14
                            · rw [if_pos c22] at h
                              refine K_ts (t := 94) rfl (fun _ => by rw [c22]; rfl) ?_
                              refine K_lload_n rfl 2 rfl ?_
                              refine K_lconst (v := 0) rfl (by decide) ?_
                              refine K_lcmp rfl ?_
                              refine K_if_ne rfl (fun c20 => ?_) (fun c20 => ?_)
                              · rw [if_neg c20] at h
                                refine K_lload_n rfl 1 rfl ?_
                                refine K_lload_n rfl 2 rfl ?_
                                refine K_lrem rfl (fun z => by rw [if_pos z] at h; cases h) ?_
                                rw [if_neg (fun z : x3 = 0 => by rw [if_pos z] at h; cases h)] at h
                                obtain rfl := Option.some.inj h
                                exact K_lret rfl rfl ⟨rfl, rfl, hM⟩
                              · rw [if_pos c20] at h
                                refine K_lconst (v := 0) rfl (by decide) ?_
                                refine K_goto rfl ?_
                                obtain rfl := Option.some.inj h
                                exact K_lret rfl rfl ⟨rfl, rfl, hM⟩
                            · rw [if_neg c22] at h
                              refine K_tsd rfl ?_ ?_
                              · have nc1 := lv_neT c1 (a := 2) rfl; have nc2 := lv_neT c2 (a := 3) rfl; have nc3 := lv_neT c3 (a := 4) rfl; have nc6 := lv_neT c6 (a := 5) rfl; have nc8 := lv_neT c8 (a := 6) rfl; have nc10 := lv_neT c10 (a := 7) rfl; have nc12 := lv_neT c12 (a := 8) rfl; have nc14 := lv_neT c14 (a := 9) rfl; have nc16 := lv_neT c16 (a := 10) rfl; have nc17 := lv_neT c17 (a := 11) rfl; have nc18 := lv_neT c18 (a := 12) rfl; have nc19 := lv_neT c19 (a := 13) rfl; have nc22 := lv_neT c22 (a := 14) rfl; omega
                              · refine K_lload_n rfl 1 rfl ?_
                                refine K_lload_n rfl 2 rfl ?_
                                refine K_lor rfl ?_
                                obtain rfl := Option.some.inj h
                                exact K_lret rfl rfl ⟨rfl, rfl, hM⟩
set_option maxRecDepth 20000 in
theorem L_Model_reckons_129 {X : mX} {x1 : Int32} {x2 : Int32} {x3 : Int32} {k8 : Int32 → mM → Option (Int64 × mM)} {r : Int64 × mM}  (hk8 : ∀ (l4 : Int32) (M : mM), Fx M → k8 l4 M = some r → KK X 1 205 8 [(0, .ref 436), (1, .int x1), (3, .int x3), (4, .int l4)] [] M (fun v M' => v = some (.long r.1) ∧ r.2 = M' ∧ Fx r.2)) (l4 : Int32) (M : mM) (hM : Fx M)  (h : f_Model_reckons_129 x1 x2 x3 k8 l4 M = some r) : KK X 1 205 129 [(0, .ref 436), (1, .int x1), (3, .int x3), (4, .int l4)] [] M (fun v M' => v = some (.long r.1) ∧ r.2 = M' ∧ Fx r.2) := by
    unfold f_Model_reckons_129 at h
    refine K_iinc (y := (l4 + 1)) rfl 3 rfl rfl ?_
    refine K_goto rfl ?_
    refine K_pick [1, 2, 3, 0] ?_
    exact hk8 _ _ hM  h
set_option maxRecDepth 20000 in
theorem L_Model_reckons_8 {X : mX} {x1 : Int32} {x2 : Int32} {x3 : Int32} {r : Int64 × mM}  : ∀ (n : Nat) (l4 : Int32) (M : mM), Fx M → f_Model_reckons_8 x1 x2 x3  n l4 M = some r → KK X 1 205 8 [(0, .ref 436), (1, .int x1), (3, .int x3), (4, .int l4)] [] M (fun v M' => v = some (.long r.1) ∧ r.2 = M' ∧ Fx r.2)
  | 0, _, _ => fun _ h => by cases h
  | n + 1, l4, M => fun hM h => by
    unfold f_Model_reckons_8 at h
    refine K_iload rfl 3 rfl ?_
    refine K_iload_n rfl 2 rfl ?_
    refine K_ic_ge rfl (fun c2 => ?_) (fun c2 => ?_)
    · rw [if_pos c2] at h
      refine K_aload_n rfl 0 rfl ?_
      obtain ⟨r3, er3, h⟩ := Option.bind_eq_some_iff.mp h
      refine K_cV [] [] rfl rfl (Nat.le_of_ble_eq_true rfl) (Nat.le_of_ble_eq_true rfl) sh_436 hM rfl (EV_le (Nat.le_of_ble_eq_true rfl) (F_Model_pop hM  er3)) (fun v' M' hq => ?_)
      obtain ⟨rfl, rfl, hr3⟩ := hq
      obtain rfl := Option.some.inj h
      exact K_lret rfl rfl ⟨rfl, rfl, hr3⟩
    · rw [if_neg c2] at h
      refine K_aload_n rfl 0 rfl ?_
      refine K_gR rfl sh_436 hM rfl rfl 3 rfl r_436_3 ?_
      refine K_sipush (v := 400) rfl (by decide) ?_
      refine K_iload_n rfl 1 rfl ?_
      refine K_imul rfl ?_
      refine K_iload rfl 3 rfl ?_
      refine K_iadd rfl ?_
      obtain ⟨v4, ev4, h⟩ := Option.bind_eq_some_iff.mp h
      refine K_rd rfl sh_438 hM ev4 ?_
      refine K_bipush (v := 15) rfl (by decide) ?_
      refine K_iand rfl ?_
      refine K_istore rfl ?_
      refine K_aload_n rfl 1 rfl ?_
      refine K_gR rfl sh_436 hM rfl rfl 3 rfl r_436_3 ?_
      refine K_sipush (v := 400) rfl (by decide) ?_
      refine K_iload_n rfl 2 rfl ?_
      refine K_imul rfl ?_
      refine K_iload rfl 4 rfl ?_
      refine K_iadd rfl ?_
      obtain ⟨v5, ev5, h⟩ := Option.bind_eq_some_iff.mp h
      refine K_rd rfl sh_438 hM ev5 ?_
      refine K_iconst (v := 4) rfl (by decide) ?_
      refine K_ishr rfl ?_
      refine K_istore rfl ?_
      refine K_iload rfl 1 rfl ?_
      refine K_if_ne rfl (fun c6 => ?_) (fun c6 => ?_)
      · rw [if_neg c6] at h
        refine K_iload rfl 1 rfl ?_
        refine K_iconst (v := 1) rfl (by decide) ?_
        refine K_ic_ne rfl (fun c7 => ?_) (fun c7 => ?_)
        · rw [if_neg c7] at h
          refine K_iload rfl 1 rfl ?_
          refine K_bipush (v := 11) rfl (by decide) ?_
          refine K_ic_ne rfl (fun c8 => ?_) (fun c8 => ?_)
          · rw [if_neg c8] at h
            refine K_aload_n rfl 2 rfl ?_
            obtain ⟨r9, er9, h⟩ := Option.bind_eq_some_iff.mp h
            refine K_cV [] [] rfl rfl (Nat.le_of_ble_eq_true rfl) (Nat.le_of_ble_eq_true rfl) sh_436 hM rfl (EV_le (Nat.le_of_ble_eq_true rfl) (F_Model_pop hM  er9)) (fun v' M' hq => ?_)
            obtain ⟨rfl, rfl, hr9⟩ := hq
            refine K_lstore rfl ?_
            refine K_aload_n rfl 3 rfl ?_
            obtain ⟨r10, er10, h⟩ := Option.bind_eq_some_iff.mp h
            refine K_cV [] [] rfl rfl (Nat.le_of_ble_eq_true rfl) (Nat.le_of_ble_eq_true rfl) sh_436 hr9 rfl (EV_le (Nat.le_of_ble_eq_true rfl) (F_Model_pop hr9  er10)) (fun v' M' hq => ?_)
            obtain ⟨rfl, rfl, hr10⟩ := hq
            refine K_lstore rfl ?_
            refine K_aload_n rfl 4 rfl ?_
            refine K_iload rfl 3 rfl ?_
            refine K_lload rfl 0 rfl ?_
            refine K_lload rfl 1 rfl ?_
            obtain ⟨r11, er11, h⟩ := Option.bind_eq_some_iff.mp h
            refine K_callS [.int (v4 &&& 15), .long r10.1, .long r9.1] [.ref 436] rfl rfl (Nat.le_of_ble_eq_true rfl) (Nat.le_of_ble_eq_true rfl) (EV_le (Nat.le_of_ble_eq_true rfl) (F_Model_one hr10  er11)) (fun v' M' hq => ?_)
            obtain ⟨rfl, rfl, hr11⟩ := hq
            obtain ⟨M12, eM12, h⟩ := Option.bind_eq_some_iff.mp h
            refine K_cV [.long r11.1] [] rfl rfl (Nat.le_of_ble_eq_true rfl) (Nat.le_of_ble_eq_true rfl) sh_436 hr11 rfl (EV_le (Nat.le_of_ble_eq_true rfl) (F_Model_push hr11  eM12)) (fun v' M' hq => ?_)
            obtain ⟨rfl, rfl, hM12⟩ := hq
            refine K_pick [4, 5, 6, 7] ?_
            exact L_Model_reckons_129   (L_Model_reckons_8    n) _ _ hM12  h
          · rw [if_pos c8] at h
            refine K_aload_n rfl 2 rfl ?_
            refine K_lconst (v := 1) rfl (by decide) ?_
            refine K_aload_n rfl 2 rfl ?_
            obtain ⟨r13, er13, h⟩ := Option.bind_eq_some_iff.mp h
            refine K_cV [] [.long 1, .ref 436] rfl rfl (Nat.le_of_ble_eq_true rfl) (Nat.le_of_ble_eq_true rfl) sh_436 hM rfl (EV_le (Nat.le_of_ble_eq_true rfl) (F_Model_pop hM  er13)) (fun v' M' hq => ?_)
            obtain ⟨rfl, rfl, hr13⟩ := hq
            refine K_lsub rfl ?_
            obtain ⟨M14, eM14, h⟩ := Option.bind_eq_some_iff.mp h
            refine K_cV [.long (1 - r13.1)] [] rfl rfl (Nat.le_of_ble_eq_true rfl) (Nat.le_of_ble_eq_true rfl) sh_436 hr13 rfl (EV_le (Nat.le_of_ble_eq_true rfl) (F_Model_push hr13  eM14)) (fun v' M' hq => ?_)
            obtain ⟨rfl, rfl, hM14⟩ := hq
            refine K_goto rfl ?_
            refine K_pick [2, 3, 4, 5] ?_
            exact L_Model_reckons_129   (L_Model_reckons_8    n) _ _ hM14  h
        · rw [if_pos c7] at h
          refine K_aload_n rfl 2 rfl ?_
          refine K_aload_n rfl 2 rfl ?_
          refine K_gR rfl sh_436 hM rfl rfl 19 rfl r_436_19 ?_
          refine K_iload rfl 0 rfl ?_
          obtain ⟨v15, ev15, h⟩ := Option.bind_eq_some_iff.mp h
          refine K_rdL rfl sh_445 hM ev15 ?_
          obtain ⟨M16, eM16, h⟩ := Option.bind_eq_some_iff.mp h
          refine K_cV [.long v15] [] rfl rfl (Nat.le_of_ble_eq_true rfl) (Nat.le_of_ble_eq_true rfl) sh_436 hM rfl (EV_le (Nat.le_of_ble_eq_true rfl) (F_Model_push hM  eM16)) (fun v' M' hq => ?_)
          obtain ⟨rfl, rfl, hM16⟩ := hq
          refine K_goto rfl ?_
          refine K_pick [2, 3, 4, 5] ?_
          exact L_Model_reckons_129   (L_Model_reckons_8    n) _ _ hM16  h
      · rw [if_pos c6] at h
        refine K_aload_n rfl 2 rfl ?_
        refine K_iload rfl 0 rfl ?_
        refine K_i2l rfl ?_
        obtain ⟨M17, eM17, h⟩ := Option.bind_eq_some_iff.mp h
        refine K_cV [.long (Int32.toInt64 (v5 >>> (4 &&& 31)))] [] rfl rfl (Nat.le_of_ble_eq_true rfl) (Nat.le_of_ble_eq_true rfl) sh_436 hM rfl (EV_le (Nat.le_of_ble_eq_true rfl) (F_Model_push hM  eM17)) (fun v' M' hq => ?_)
        obtain ⟨rfl, rfl, hM17⟩ := hq
        refine K_goto rfl ?_
        refine K_pick [2, 3, 4, 5] ?_
        exact L_Model_reckons_129   (L_Model_reckons_8    n) _ _ hM17  h
set_option maxRecDepth 20000 in
theorem F_Model_reckons {X : mX} {x1 : Int32} {x2 : Int32} {x3 : Int32} {M : mM} {r : Int64 × mM} (hM : Fx M)  (h : f_Model_reckons x1 x2 x3 M = some r) : EV X (1 + 1) 205 [.ref 436, .int x1, .int x2, .int x3] M (fun v M' => v = some (.long r.1) ∧ r.2 = M' ∧ Fx r.2) := by
    refine EV_of (lc := [(0, .ref 436), (1, .int x1), (2, .int x2), (3, .int x3)]) (Nat.le_of_ble_eq_true rfl) (by exact Nat.le_of_ble_eq_true rfl) (by exact List.forall_mem_cons.mpr ⟨rfl, List.forall_mem_cons.mpr ⟨rfl, List.forall_mem_cons.mpr ⟨rfl, List.forall_mem_cons.mpr ⟨rfl, fun _ h => absurd h List.not_mem_nil⟩⟩⟩⟩) ?_
    unfold f_Model_reckons at h
    refine K_aload_n rfl 0 rfl ?_
    refine K_iconst (v := 0) rfl (by decide) ?_
    obtain ⟨M1, eM1, h⟩ := Option.bind_eq_some_iff.mp h
    refine K_pI rfl sh_436 hM rfl rfl 18 rfl eM1 (fun hM1 => ?_)
    refine K_iload_n rfl 2 rfl ?_
    refine K_istore rfl ?_
    refine K_pick [1, 2, 4, 0] ?_
    exact L_Model_reckons_8    FUEL _ _ hM1  h
set_option maxRecDepth 20000 in
theorem L_Model_stepsOf_332 {X : mX} {x1 : Int32} {r : Int32 × mM}  (l5 : Int32) (M : mM) (hM : Fx M)  (h : f_Model_stepsOf_332 x1  l5 M = some r) : KK X 3 202 332 [(0, .ref 436), (5, .int l5)] [] M (fun v M' => v = some (.int r.1) ∧ r.2 = M' ∧ Fx r.2) := by
    unfold f_Model_stepsOf_332 at h
    refine K_aload_n rfl 0 rfl ?_
    refine K_aload_n rfl 0 rfl ?_
    refine K_gI rfl sh_436 hM rfl rfl 21 rfl ?_
    refine K_aload_n rfl 0 rfl ?_
    refine K_gR rfl sh_436 hM rfl rfl 5 rfl r_436_5 ?_
    refine K_iload rfl 1 rfl ?_
    obtain ⟨v34, ev34, h⟩ := Option.bind_eq_some_iff.mp h
    refine K_rd rfl sh_440 hM ev34 ?_
    refine K_aload_n rfl 0 rfl ?_
    refine K_gR rfl sh_436 hM rfl rfl 5 rfl r_436_5 ?_
    refine K_iload rfl 1 rfl ?_
    refine K_iconst (v := 1) rfl (by decide) ?_
    refine K_iadd rfl ?_
    obtain ⟨v35, ev35, h⟩ := Option.bind_eq_some_iff.mp h
    refine K_rd rfl sh_440 hM ev35 ?_
    obtain ⟨r36, er36, h⟩ := Option.bind_eq_some_iff.mp h
    refine K_cV [.int (M.2.1 436 21), .int v34, .int v35] [] rfl rfl (Nat.le_of_ble_eq_true rfl) (Nat.le_of_ble_eq_true rfl) sh_436 hM rfl (EV_le (Nat.le_of_ble_eq_true rfl) (F_Model_reckons hM  er36)) (fun v' M' hq => ?_)
    obtain ⟨rfl, rfl, hr36⟩ := hq
    refine K_lstore rfl ?_
    refine K_lload rfl 0 rfl ?_
    refine K_lconst (v := 0) rfl (by decide) ?_
    refine K_lcmp rfl ?_
    refine K_if_ge rfl (fun c37 => ?_) (fun c37 => ?_)
    · rw [if_pos c37] at h
      refine K_lload rfl 0 rfl ?_
      refine K_ldc2 (v := 9) rfl (by decide) ?_
      refine K_lcmp rfl ?_
      refine K_if_le rfl (fun c38 => ?_) (fun c38 => ?_)
      · rw [if_pos c38] at h
        refine K_lload rfl 0 rfl ?_
        refine K_l2i rfl ?_
        obtain rfl := Option.some.inj h
        exact K_iret rfl (Or.inl rfl) ⟨rfl, rfl, hr36⟩
      · rw [if_neg c38] at h
        refine K_bipush (v := 9) rfl (by decide) ?_
        refine K_goto rfl ?_
        obtain rfl := Option.some.inj h
        exact K_iret rfl (Or.inl rfl) ⟨rfl, rfl, hr36⟩
    · rw [if_neg c37] at h
      refine K_iconst (v := 0) rfl (by decide) ?_
      refine K_goto rfl ?_
      obtain rfl := Option.some.inj h
      exact K_iret rfl (Or.inl rfl) ⟨rfl, rfl, hr36⟩
set_option maxRecDepth 20000 in
theorem L_Model_stepsOf_258 {X : mX} {x1 : Int32} {r : Int32 × mM}  : ∀ (n : Nat) (l4 : Int32) (M : mM), Fx M → f_Model_stepsOf_258 x1  n l4 M = some r → KK X 3 202 258 [(0, .ref 436), (4, .int l4)] [] M (fun v M' => v = some (.int r.1) ∧ r.2 = M' ∧ Fx r.2)
  | 0, _, _ => fun _ h => by cases h
  | n + 1, l4, M => fun hM h => by
    unfold f_Model_stepsOf_258 at h
    refine K_iload rfl 1 rfl ?_
    refine K_aload_n rfl 0 rfl ?_
    refine K_gR rfl sh_436 hM rfl rfl 6 rfl r_436_6 ?_
    refine K_aload_n rfl 0 rfl ?_
    refine K_gI rfl sh_436 hM rfl rfl 21 rfl ?_
    obtain ⟨v30, ev30, h⟩ := Option.bind_eq_some_iff.mp h
    refine K_rd rfl sh_441 hM ev30 ?_
    refine K_ic_ge rfl (fun c31 => ?_) (fun c31 => ?_)
    · rw [if_pos c31] at h
      refine K_iconst (v := 0) rfl (by decide) ?_
      obtain rfl := Option.some.inj h
      exact K_iret rfl (Or.inl rfl) ⟨rfl, rfl, hM⟩
    · rw [if_neg c31] at h
      refine K_bipush (v := 48) rfl (by decide) ?_
      refine K_aload_n rfl 0 rfl ?_
      refine K_gI rfl sh_436 hM rfl rfl 21 rfl ?_
      refine K_imul rfl ?_
      refine K_iconst (v := 4) rfl (by decide) ?_
      refine K_iload rfl 1 rfl ?_
      refine K_imul rfl ?_
      refine K_iadd rfl ?_
      refine K_istore rfl ?_
      refine K_aload_n rfl 1 rfl ?_
      refine K_gR rfl sh_436 hM rfl rfl 5 rfl r_436_5 ?_
      refine K_iload rfl 0 rfl ?_
      refine K_iconst (v := 2) rfl (by decide) ?_
      refine K_iadd rfl ?_
      obtain ⟨v32, ev32, h⟩ := Option.bind_eq_some_iff.mp h
      refine K_rd rfl sh_440 hM ev32 ?_
      refine K_if_lt rfl (fun c33 => ?_) (fun c33 => ?_)
      · rw [if_pos c33] at h
        refine K_pick [1, 0] ?_
        exact L_Model_stepsOf_332    _ _ hM  h
      · rw [if_neg c33] at h
        refine K_aload_n rfl 1 rfl ?_
        refine K_aload_n rfl 1 rfl ?_
        refine K_gI rfl sh_436 hM rfl rfl 21 rfl ?_
        refine K_aload_n rfl 1 rfl ?_
        refine K_gR rfl sh_436 hM rfl rfl 5 rfl r_436_5 ?_
        refine K_iload rfl 0 rfl ?_
        refine K_iconst (v := 2) rfl (by decide) ?_
        refine K_iadd rfl ?_
        obtain ⟨v39, ev39, h⟩ := Option.bind_eq_some_iff.mp h
        refine K_rd rfl sh_440 hM ev39 ?_
        refine K_aload_n rfl 1 rfl ?_
        refine K_gR rfl sh_436 hM rfl rfl 5 rfl r_436_5 ?_
        refine K_iload rfl 0 rfl ?_
        refine K_iconst (v := 3) rfl (by decide) ?_
        refine K_iadd rfl ?_
        obtain ⟨v40, ev40, h⟩ := Option.bind_eq_some_iff.mp h
        refine K_rd rfl sh_440 hM ev40 ?_
        obtain ⟨r41, er41, h⟩ := Option.bind_eq_some_iff.mp h
        refine K_cV [.int (M.2.1 436 21), .int v39, .int v40] [] rfl rfl (Nat.le_of_ble_eq_true rfl) (Nat.le_of_ble_eq_true rfl) sh_436 hM rfl (EV_le (Nat.le_of_ble_eq_true rfl) (F_Model_reckons hM  er41)) (fun v' M' hq => ?_)
        obtain ⟨rfl, rfl, hr41⟩ := hq
        refine K_lconst (v := 1) rfl (by decide) ?_
        refine K_lcmp rfl ?_
        refine K_if_eq rfl (fun c42 => ?_) (fun c42 => ?_)
        · rw [if_pos c42] at h
          refine K_pick [1, 0] ?_
          exact L_Model_stepsOf_332    _ _ hr41  h
        · rw [if_neg c42] at h
          refine K_goto rfl ?_
          refine K_iinc (y := (l4 + 1)) rfl 2 rfl rfl ?_
          refine K_goto rfl ?_
          refine K_pick [2, 0] ?_
          exact L_Model_stepsOf_258    n _ _ hr41  h
set_option maxRecDepth 20000 in
theorem L_Model_stepsOf_242 {X : mX} {x1 : Int32} {r : Int32 × mM}  (s1 : Int32) (s2 : Int64) (M : mM) (hM : Fx M)  (h : f_Model_stepsOf_242 x1  s1 s2 M = some r) : KK X 3 202 242 [(0, .ref 436)] [.long s2, .int s1, .ref 445] M (fun v M' => v = some (.int r.1) ∧ r.2 = M' ∧ Fx r.2) := by
    unfold f_Model_stepsOf_242 at h
    obtain ⟨M27, eM27, h⟩ := Option.bind_eq_some_iff.mp h
    refine K_wrL rfl sh_445 hM eM27 (fun hM27 => ?_)
    refine K_aload_n rfl 0 rfl ?_
    refine K_gR rfl sh_436 hM27 rfl rfl 19 rfl r_436_19 ?_
    refine K_bipush (v := 11) rfl (by decide) ?_
    refine K_aload_n rfl 0 rfl ?_
    obtain ⟨r28, er28, h⟩ := Option.bind_eq_some_iff.mp h
    refine K_cV [] [.int 11, .ref 445] rfl rfl (Nat.le_of_ble_eq_true rfl) (Nat.le_of_ble_eq_true rfl) sh_436 hM27 rfl (EV_le (Nat.le_of_ble_eq_true rfl) (F_Model_fallenMany hM27  er28)) (fun v' M' hq => ?_)
    obtain ⟨rfl, rfl, hr28⟩ := hq
    refine K_i2l rfl ?_
    obtain ⟨M29, eM29, h⟩ := Option.bind_eq_some_iff.mp h
    refine K_wrL rfl sh_445 hr28 eM29 (fun hM29 => ?_)
    refine K_iconst (v := 0) rfl (by decide) ?_
    refine K_istore rfl ?_
    refine K_pick [1, 0] ?_
    exact L_Model_stepsOf_258    FUEL _ _ hM29  h
set_option maxRecDepth 20000 in
theorem L_Model_stepsOf_210 {X : mX} {x1 : Int32} {r : Int32 × mM}  (s1 : Int32) (s2 : Int64) (M : mM) (hM : Fx M)  (h : f_Model_stepsOf_210 x1  s1 s2 M = some r) : KK X 3 202 210 [(0, .ref 436), (1, .int x1)] [.long s2, .int s1, .ref 445] M (fun v M' => v = some (.int r.1) ∧ r.2 = M' ∧ Fx r.2) := by
    unfold f_Model_stepsOf_210 at h
    obtain ⟨M22, eM22, h⟩ := Option.bind_eq_some_iff.mp h
    refine K_wrL rfl sh_445 hM eM22 (fun hM22 => ?_)
    refine K_aload_n rfl 0 rfl ?_
    refine K_gR rfl sh_436 hM22 rfl rfl 19 rfl r_436_19 ?_
    refine K_bipush (v := 9) rfl (by decide) ?_
    refine K_aload_n rfl 0 rfl ?_
    refine K_iload_n rfl 1 rfl ?_
    obtain ⟨r23, er23, h⟩ := Option.bind_eq_some_iff.mp h
    refine K_cV [.int x1] [.int 9, .ref 445] rfl rfl (Nat.le_of_ble_eq_true rfl) (Nat.le_of_ble_eq_true rfl) sh_436 hM22 rfl (EV_le (Nat.le_of_ble_eq_true rfl) (F_Model_behindOf hM22  er23)) (fun v' M' hq => ?_)
    obtain ⟨rfl, rfl, hr23⟩ := hq
    refine K_i2l rfl ?_
    obtain ⟨M24, eM24, h⟩ := Option.bind_eq_some_iff.mp h
    refine K_wrL rfl sh_445 hr23 eM24 (fun hM24 => ?_)
    refine K_aload_n rfl 0 rfl ?_
    refine K_gR rfl sh_436 hM24 rfl rfl 19 rfl r_436_19 ?_
    refine K_bipush (v := 10) rfl (by decide) ?_
    refine K_aload_n rfl 0 rfl ?_
    obtain ⟨r25, er25, h⟩ := Option.bind_eq_some_iff.mp h
    refine K_cV [] [.int 10, .ref 445] rfl rfl (Nat.le_of_ble_eq_true rfl) (Nat.le_of_ble_eq_true rfl) sh_436 hM24 rfl (EV_le (Nat.le_of_ble_eq_true rfl) (F_Model_isFlood hM24  er25)) (fun v' M' hq => ?_)
    obtain ⟨rfl, rfl, hr25⟩ := hq
    refine K_if_eq rfl (fun c26 => ?_) (fun c26 => ?_)
    · rw [if_pos c26] at h
      refine K_lconst (v := 0) rfl (by decide) ?_
      refine K_pick [0] ?_
      exact L_Model_stepsOf_242    _ _ _ hr25  h
    · rw [if_neg c26] at h
      refine K_lconst (v := 1) rfl (by decide) ?_
      refine K_goto rfl ?_
      refine K_pick [0] ?_
      exact L_Model_stepsOf_242    _ _ _ hr25  h
set_option maxRecDepth 20000 in
theorem L_Model_stepsOf_209 {X : mX} {x1 : Int32} {r : Int32 × mM}  (s1 : Int32) (M : mM) (hM : Fx M)  (h : f_Model_stepsOf_209 x1  s1 M = some r) : KK X 3 202 209 [(0, .ref 436), (1, .int x1)] [.int s1, .ref 445] M (fun v M' => v = some (.int r.1) ∧ r.2 = M' ∧ Fx r.2) := by
    unfold f_Model_stepsOf_209 at h
    refine K_lconst (v := 0) rfl (by decide) ?_
    refine K_pick [0, 1] ?_
    exact L_Model_stepsOf_210    _ _ _ hM  h
set_option maxRecDepth 20000 in
theorem L_Model_stepsOf_168 {X : mX} {x1 : Int32} {r : Int32 × mM}  (s1 : Int32) (s2 : Int64) (M : mM) (hM : Fx M)  (h : f_Model_stepsOf_168 x1  s1 s2 M = some r) : KK X 3 202 168 [(0, .ref 436), (1, .int x1)] [.long s2, .int s1, .ref 445] M (fun v M' => v = some (.int r.1) ∧ r.2 = M' ∧ Fx r.2) := by
    unfold f_Model_stepsOf_168 at h
    obtain ⟨M19, eM19, h⟩ := Option.bind_eq_some_iff.mp h
    refine K_wrL rfl sh_445 hM eM19 (fun hM19 => ?_)
    refine K_aload_n rfl 0 rfl ?_
    refine K_gR rfl sh_436 hM19 rfl rfl 19 rfl r_436_19 ?_
    refine K_bipush (v := 8) rfl (by decide) ?_
    refine K_aload_n rfl 0 rfl ?_
    refine K_iload_n rfl 1 rfl ?_
    refine K_iconst (v := 1) rfl (by decide) ?_
    obtain ⟨r20, er20, h⟩ := Option.bind_eq_some_iff.mp h
    refine K_cV [.int x1, .int 1] [.int 8, .ref 445] rfl rfl (Nat.le_of_ble_eq_true rfl) (Nat.le_of_ble_eq_true rfl) sh_436 hM19 rfl (EV_le (Nat.le_of_ble_eq_true rfl) (F_Model_graveOf hM19  er20)) (fun v' M' hq => ?_)
    obtain ⟨rfl, rfl, hr20⟩ := hq
    refine K_if_le rfl (fun c21 => ?_) (fun c21 => ?_)
    · rw [if_pos c21] at h
      refine K_pick [0, 1] ?_
      exact L_Model_stepsOf_209    _ _ hr20  h
    · rw [if_neg c21] at h
      refine K_aload_n rfl 0 rfl ?_
      refine K_aload_n rfl 0 rfl ?_
      refine K_iload_n rfl 1 rfl ?_
      refine K_iconst (v := 0) rfl (by decide) ?_
      obtain ⟨r43, er43, h⟩ := Option.bind_eq_some_iff.mp h
      refine K_cV [.int x1, .int 0] [.ref 436, .int 8, .ref 445] rfl rfl (Nat.le_of_ble_eq_true rfl) (Nat.le_of_ble_eq_true rfl) sh_436 hr20 rfl (EV_le (Nat.le_of_ble_eq_true rfl) (F_Model_graveOf hr20  er43)) (fun v' M' hq => ?_)
      obtain ⟨rfl, rfl, hr43⟩ := hq
      refine K_aload_n rfl 0 rfl ?_
      refine K_iload_n rfl 1 rfl ?_
      refine K_iconst (v := 1) rfl (by decide) ?_
      obtain ⟨r44, er44, h⟩ := Option.bind_eq_some_iff.mp h
      refine K_cV [.int x1, .int 1] [.int r43.1, .ref 436, .int 8, .ref 445] rfl rfl (Nat.le_of_ble_eq_true rfl) (Nat.le_of_ble_eq_true rfl) sh_436 hr43 rfl (EV_le (Nat.le_of_ble_eq_true rfl) (F_Model_graveOf hr43  er44)) (fun v' M' hq => ?_)
      obtain ⟨rfl, rfl, hr44⟩ := hq
      refine K_iconst (v := 1) rfl (by decide) ?_
      refine K_isub rfl ?_
      obtain ⟨r45, er45, h⟩ := Option.bind_eq_some_iff.mp h
      refine K_cV [.int r43.1, .int (r44.1 - 1)] [.int 8, .ref 445] rfl rfl (Nat.le_of_ble_eq_true rfl) (Nat.le_of_ble_eq_true rfl) sh_436 hr44 rfl (EV_le (Nat.le_of_ble_eq_true rfl) (F_Model_graveAt hr44  er45)) (fun v' M' hq => ?_)
      obtain ⟨rfl, rfl, hr45⟩ := hq
      refine K_if_lt rfl (fun c46 => ?_) (fun c46 => ?_)
      · rw [if_pos c46] at h
        refine K_pick [0, 1] ?_
        exact L_Model_stepsOf_209    _ _ hr45  h
      · rw [if_neg c46] at h
        refine K_lconst (v := 1) rfl (by decide) ?_
        refine K_goto rfl ?_
        refine K_pick [0, 1] ?_
        exact L_Model_stepsOf_210    _ _ _ hr45  h
set_option maxRecDepth 20000 in
theorem L_Model_stepsOf_150 {X : mX} {x1 : Int32} {r : Int32 × mM}  (s1 : Int32) (M : mM) (hM : Fx M)  (h : f_Model_stepsOf_150 x1  s1 M = some r) : KK X 3 202 150 [(0, .ref 436), (1, .int x1)] [.int s1, .ref 445] M (fun v M' => v = some (.int r.1) ∧ r.2 = M' ∧ Fx r.2) := by
    unfold f_Model_stepsOf_150 at h
    refine K_lconst (v := 0) rfl (by decide) ?_
    refine K_goto rfl ?_
    refine K_pick [0, 1] ?_
    exact L_Model_stepsOf_168    _ _ _ hM  h
set_option maxRecDepth 20000 in
theorem L_Model_stepsOf_131 {X : mX} {x1 : Int32} {r : Int32 × mM}  (l3 : Int32) (s1 : Int32) (s2 : Int64) (M : mM) (hM : Fx M)  (h : f_Model_stepsOf_131 x1  l3 s1 s2 M = some r) : KK X 3 202 131 [(0, .ref 436), (1, .int x1), (3, .int l3)] [.long s2, .int s1, .ref 445] M (fun v M' => v = some (.int r.1) ∧ r.2 = M' ∧ Fx r.2) := by
    unfold f_Model_stepsOf_131 at h
    obtain ⟨M17, eM17, h⟩ := Option.bind_eq_some_iff.mp h
    refine K_wrL rfl sh_445 hM eM17 (fun hM17 => ?_)
    refine K_aload_n rfl 0 rfl ?_
    refine K_gR rfl sh_436 hM17 rfl rfl 19 rfl r_436_19 ?_
    refine K_bipush (v := 7) rfl (by decide) ?_
    refine K_iload_n rfl 2 rfl ?_
    refine K_if_lt rfl (fun c18 => ?_) (fun c18 => ?_)
    · rw [if_pos c18] at h
      refine K_pick [0, 1] ?_
      exact L_Model_stepsOf_150    _ _ hM17  h
    · rw [if_neg c18] at h
      refine K_aload_n rfl 0 rfl ?_
      refine K_iload_n rfl 2 rfl ?_
      obtain ⟨r47, er47, h⟩ := Option.bind_eq_some_iff.mp h
      refine K_cV [.int l3] [.int 7, .ref 445] rfl rfl (Nat.le_of_ble_eq_true rfl) (Nat.le_of_ble_eq_true rfl) sh_436 hM17 rfl (EV_le (Nat.le_of_ble_eq_true rfl) (F_Model_isFallen hM17  er47)) (fun v' M' hq => ?_)
      obtain ⟨rfl, rfl, hr47⟩ := hq
      refine K_if_eq rfl (fun c48 => ?_) (fun c48 => ?_)
      · rw [if_pos c48] at h
        refine K_aload_n rfl 0 rfl ?_
        refine K_iload_n rfl 2 rfl ?_
        refine K_iconst (v := 1) rfl (by decide) ?_
        obtain ⟨r49, er49, h⟩ := Option.bind_eq_some_iff.mp h
        refine K_cV [.int l3, .int 1] [.int 7, .ref 445] rfl rfl (Nat.le_of_ble_eq_true rfl) (Nat.le_of_ble_eq_true rfl) sh_436 hr47 rfl (EV_le (Nat.le_of_ble_eq_true rfl) (F_Model_graveOf hr47  er49)) (fun v' M' hq => ?_)
        obtain ⟨rfl, rfl, hr49⟩ := hq
        refine K_aload_n rfl 0 rfl ?_
        refine K_iload_n rfl 1 rfl ?_
        refine K_iconst (v := 1) rfl (by decide) ?_
        obtain ⟨r50, er50, h⟩ := Option.bind_eq_some_iff.mp h
        refine K_cV [.int x1, .int 1] [.int r49.1, .int 7, .ref 445] rfl rfl (Nat.le_of_ble_eq_true rfl) (Nat.le_of_ble_eq_true rfl) sh_436 hr49 rfl (EV_le (Nat.le_of_ble_eq_true rfl) (F_Model_graveOf hr49  er50)) (fun v' M' hq => ?_)
        obtain ⟨rfl, rfl, hr50⟩ := hq
        refine K_isub rfl ?_
        refine K_i2l rfl ?_
        refine K_pick [0, 1] ?_
        exact L_Model_stepsOf_168    _ _ _ hr50  h
      · rw [if_neg c48] at h
        refine K_pick [0, 1] ?_
        exact L_Model_stepsOf_150    _ _ hr47  h
set_option maxRecDepth 20000 in
theorem L_Model_stepsOf_114 {X : mX} {x1 : Int32} {r : Int32 × mM}  (l2 : Int32) (l3 : Int32) (s1 : Int32) (s2 : Int64) (M : mM) (hM : Fx M)  (h : f_Model_stepsOf_114 x1  l2 l3 s1 s2 M = some r) : KK X 3 202 114 [(0, .ref 436), (1, .int x1), (2, .int l2), (3, .int l3)] [.long s2, .int s1, .ref 445] M (fun v M' => v = some (.int r.1) ∧ r.2 = M' ∧ Fx r.2) := by
    unfold f_Model_stepsOf_114 at h
    obtain ⟨M15, eM15, h⟩ := Option.bind_eq_some_iff.mp h
    refine K_wrL rfl sh_445 hM eM15 (fun hM15 => ?_)
    refine K_aload_n rfl 0 rfl ?_
    refine K_gR rfl sh_436 hM15 rfl rfl 19 rfl r_436_19 ?_
    refine K_bipush (v := 6) rfl (by decide) ?_
    refine K_iload_n rfl 2 rfl ?_
    refine K_iconst (v := 2) rfl (by decide) ?_
    refine K_ic_ne rfl (fun c16 => ?_) (fun c16 => ?_)
    · rw [if_neg c16] at h
      refine K_lconst (v := 0) rfl (by decide) ?_
      refine K_pick [0, 1, 3] ?_
      exact L_Model_stepsOf_131    _ _ _ _ hM15  h
    · rw [if_pos c16] at h
      refine K_lconst (v := 1) rfl (by decide) ?_
      refine K_goto rfl ?_
      refine K_pick [0, 1, 3] ?_
      exact L_Model_stepsOf_131    _ _ _ _ hM15  h
set_option maxRecDepth 20000 in
theorem F_Model_stepsOf {X : mX} {x1 : Int32} {M : mM} {r : Int32 × mM} (hM : Fx M)  (h : f_Model_stepsOf x1 M = some r) : EV X (3 + 1) 202 [.ref 436, .int x1] M (fun v M' => v = some (.int r.1) ∧ r.2 = M' ∧ Fx r.2) := by
    refine EV_of (lc := [(0, .ref 436), (1, .int x1)]) (Nat.le_of_ble_eq_true rfl) (by exact Nat.le_of_ble_eq_true rfl) (by exact List.forall_mem_cons.mpr ⟨rfl, List.forall_mem_cons.mpr ⟨rfl, fun _ h => absurd h List.not_mem_nil⟩⟩) ?_
    unfold f_Model_stepsOf at h
    refine K_aload_n rfl 0 rfl ?_
    refine K_iload_n rfl 1 rfl ?_
    refine K_iconst (v := 2) rfl (by decide) ?_
    obtain ⟨r1, er1, h⟩ := Option.bind_eq_some_iff.mp h
    refine K_cV [.int x1, .int 2] [] rfl rfl (Nat.le_of_ble_eq_true rfl) (Nat.le_of_ble_eq_true rfl) sh_436 hM rfl (EV_le (Nat.le_of_ble_eq_true rfl) (F_Model_graveOf hM  er1)) (fun v' M' hq => ?_)
    obtain ⟨rfl, rfl, hr1⟩ := hq
    refine K_istore_n rfl ?_
    refine K_aload_n rfl 1 rfl ?_
    refine K_gI rfl sh_436 hr1 rfl rfl 21 rfl ?_
    refine K_if_ge rfl (fun c2 => ?_) (fun c2 => ?_)
    · rw [if_pos c2] at h
      refine K_aload_n rfl 1 rfl ?_
      refine K_iload_n rfl 2 rfl ?_
      refine K_bipush (v := 6) rfl (by decide) ?_
      obtain ⟨r3, er3, h⟩ := Option.bind_eq_some_iff.mp h
      refine K_cV [.int x1, .int 6] [] rfl rfl (Nat.le_of_ble_eq_true rfl) (Nat.le_of_ble_eq_true rfl) sh_436 hr1 rfl (EV_le (Nat.le_of_ble_eq_true rfl) (F_Model_graveOf hr1  er3)) (fun v' M' hq => ?_)
      obtain ⟨rfl, rfl, hr3⟩ := hq
      refine K_istore_n rfl ?_
      refine K_aload_n rfl 2 rfl ?_
      refine K_gR rfl sh_436 hr3 rfl rfl 19 rfl r_436_19 ?_
      refine K_iconst (v := 0) rfl (by decide) ?_
      refine K_iload_n rfl 3 rfl ?_
      refine K_i2l rfl ?_
      obtain ⟨M4, eM4, h⟩ := Option.bind_eq_some_iff.mp h
      refine K_wrL rfl sh_445 hr3 eM4 (fun hM4 => ?_)
      refine K_aload_n rfl 2 rfl ?_
      refine K_gR rfl sh_436 hM4 rfl rfl 19 rfl r_436_19 ?_
      refine K_iconst (v := 1) rfl (by decide) ?_
      refine K_aload_n rfl 2 rfl ?_
      refine K_iload_n rfl 3 rfl ?_
      refine K_iconst (v := 0) rfl (by decide) ?_
      obtain ⟨r5, er5, h⟩ := Option.bind_eq_some_iff.mp h
      refine K_cV [.int x1, .int 0] [.int 1, .ref 445] rfl rfl (Nat.le_of_ble_eq_true rfl) (Nat.le_of_ble_eq_true rfl) sh_436 hM4 rfl (EV_le (Nat.le_of_ble_eq_true rfl) (F_Model_graveOf hM4  er5)) (fun v' M' hq => ?_)
      obtain ⟨rfl, rfl, hr5⟩ := hq
      refine K_i2l rfl ?_
      obtain ⟨M6, eM6, h⟩ := Option.bind_eq_some_iff.mp h
      refine K_wrL rfl sh_445 hr5 eM6 (fun hM6 => ?_)
      refine K_aload_n rfl 2 rfl ?_
      refine K_gR rfl sh_436 hM6 rfl rfl 19 rfl r_436_19 ?_
      refine K_iconst (v := 2) rfl (by decide) ?_
      refine K_aload_n rfl 2 rfl ?_
      refine K_iload_n rfl 3 rfl ?_
      refine K_iconst (v := 1) rfl (by decide) ?_
      obtain ⟨r7, er7, h⟩ := Option.bind_eq_some_iff.mp h
      refine K_cV [.int x1, .int 1] [.int 2, .ref 445] rfl rfl (Nat.le_of_ble_eq_true rfl) (Nat.le_of_ble_eq_true rfl) sh_436 hM6 rfl (EV_le (Nat.le_of_ble_eq_true rfl) (F_Model_graveOf hM6  er7)) (fun v' M' hq => ?_)
      obtain ⟨rfl, rfl, hr7⟩ := hq
      refine K_i2l rfl ?_
      obtain ⟨M8, eM8, h⟩ := Option.bind_eq_some_iff.mp h
      refine K_wrL rfl sh_445 hr7 eM8 (fun hM8 => ?_)
      refine K_aload_n rfl 2 rfl ?_
      refine K_gR rfl sh_436 hM8 rfl rfl 19 rfl r_436_19 ?_
      refine K_iconst (v := 3) rfl (by decide) ?_
      refine K_aload_n rfl 2 rfl ?_
      refine K_gR rfl sh_436 hM8 rfl rfl 20 rfl r_436_20 ?_
      refine K_iconst (v := 3) rfl (by decide) ?_
      obtain ⟨v9, ev9, h⟩ := Option.bind_eq_some_iff.mp h
      refine K_rd rfl sh_446 hM8 ev9 ?_
      refine K_i2l rfl ?_
      obtain ⟨M10, eM10, h⟩ := Option.bind_eq_some_iff.mp h
      refine K_wrL rfl sh_445 hM8 eM10 (fun hM10 => ?_)
      refine K_aload_n rfl 2 rfl ?_
      refine K_gR rfl sh_436 hM10 rfl rfl 19 rfl r_436_19 ?_
      refine K_iconst (v := 4) rfl (by decide) ?_
      refine K_aload_n rfl 2 rfl ?_
      refine K_gR rfl sh_436 hM10 rfl rfl 20 rfl r_436_20 ?_
      refine K_iconst (v := 3) rfl (by decide) ?_
      obtain ⟨v11, ev11, h⟩ := Option.bind_eq_some_iff.mp h
      refine K_rd rfl sh_446 hM10 ev11 ?_
      refine K_aload_n rfl 2 rfl ?_
      refine K_iload_n rfl 3 rfl ?_
      refine K_iconst (v := 5) rfl (by decide) ?_
      obtain ⟨r12, er12, h⟩ := Option.bind_eq_some_iff.mp h
      refine K_cV [.int x1, .int 5] [.int v11, .int 4, .ref 445] rfl rfl (Nat.le_of_ble_eq_true rfl) (Nat.le_of_ble_eq_true rfl) sh_436 hM10 rfl (EV_le (Nat.le_of_ble_eq_true rfl) (F_Model_graveOf hM10  er12)) (fun v' M' hq => ?_)
      obtain ⟨rfl, rfl, hr12⟩ := hq
      refine K_isub rfl ?_
      refine K_i2l rfl ?_
      obtain ⟨M13, eM13, h⟩ := Option.bind_eq_some_iff.mp h
      refine K_wrL rfl sh_445 hr12 eM13 (fun hM13 => ?_)
      refine K_aload_n rfl 2 rfl ?_
      refine K_gR rfl sh_436 hM13 rfl rfl 19 rfl r_436_19 ?_
      refine K_iconst (v := 5) rfl (by decide) ?_
      refine K_iload_n rfl 1 rfl ?_
      refine K_iconst (v := 1) rfl (by decide) ?_
      refine K_ic_ne rfl (fun c14 => ?_) (fun c14 => ?_)
      · rw [if_neg c14] at h
        refine K_lconst (v := 0) rfl (by decide) ?_
        refine K_pick [2, 3, 1, 0] ?_
        exact L_Model_stepsOf_114    _ _ _ _ _ hM13  h
      · rw [if_pos c14] at h
        refine K_lconst (v := 1) rfl (by decide) ?_
        refine K_goto rfl ?_
        refine K_pick [2, 3, 1, 0] ?_
        exact L_Model_stepsOf_114    _ _ _ _ _ hM13  h
    · rw [if_neg c2] at h
      refine K_iload_n rfl 0 rfl ?_
      refine K_if_ne rfl (fun c51 => ?_) (fun c51 => ?_)
      · rw [if_neg c51] at h
        refine K_iconst (v := 2) rfl (by decide) ?_
        obtain rfl := Option.some.inj h
        exact K_iret rfl (Or.inl rfl) ⟨rfl, rfl, hr1⟩
      · rw [if_pos c51] at h
        refine K_iconst (v := 1) rfl (by decide) ?_
        refine K_goto rfl ?_
        obtain rfl := Option.some.inj h
        exact K_iret rfl (Or.inl rfl) ⟨rfl, rfl, hr1⟩
set_option maxRecDepth 20000 in
theorem F_Model_comesInto {X : mX} {x1 : Int32} {x2 : Int32} {x3 : Int32} {M : mM} {r : Int32 × mM} (hM : Fx M)  (h : f_Model_comesInto x1 x2 x3 M = some r) : EV X (1 + 1) 210 [.ref 436, .int x1, .int x2, .int x3] M (fun v M' => v = some (.int r.1) ∧ r.2 = M' ∧ Fx r.2) := by
    refine EV_of (lc := [(0, .ref 436), (1, .int x1), (2, .int x2), (3, .int x3)]) (Nat.le_of_ble_eq_true rfl) (by exact Nat.le_of_ble_eq_true rfl) (by exact List.forall_mem_cons.mpr ⟨rfl, List.forall_mem_cons.mpr ⟨rfl, List.forall_mem_cons.mpr ⟨rfl, List.forall_mem_cons.mpr ⟨rfl, fun _ h => absurd h List.not_mem_nil⟩⟩⟩⟩) ?_
    unfold f_Model_comesInto at h
    refine K_bipush (v := 10) rfl (by decide) ?_
    refine K_bipush (v := 9) rfl (by decide) ?_
    refine K_iload_n rfl 1 rfl ?_
    refine K_imul rfl ?_
    refine K_iadd rfl ?_
    refine K_istore rfl ?_
    refine K_aload_n rfl 1 rfl ?_
    refine K_gR rfl sh_436 hM rfl rfl 20 rfl r_436_20 ?_
    refine K_iload rfl 0 rfl ?_
    refine K_iload_n rfl 3 rfl ?_
    obtain ⟨M1, eM1, h⟩ := Option.bind_eq_some_iff.mp h
    refine K_wr rfl sh_446 hM eM1 (fun hM1 => ?_)
    refine K_aload_n rfl 1 rfl ?_
    refine K_gR rfl sh_436 hM1 rfl rfl 20 rfl r_436_20 ?_
    refine K_iload rfl 0 rfl ?_
    refine K_iconst (v := 1) rfl (by decide) ?_
    refine K_iadd rfl ?_
    refine K_iload_n rfl 4 rfl ?_
    obtain ⟨M2, eM2, h⟩ := Option.bind_eq_some_iff.mp h
    refine K_wr rfl sh_446 hM1 eM2 (fun hM2 => ?_)
    refine K_aload_n rfl 1 rfl ?_
    refine K_gR rfl sh_436 hM2 rfl rfl 20 rfl r_436_20 ?_
    refine K_iload rfl 0 rfl ?_
    refine K_iconst (v := 3) rfl (by decide) ?_
    refine K_iadd rfl ?_
    refine K_aload_n rfl 1 rfl ?_
    refine K_iload_n rfl 3 rfl ?_
    refine K_iload_n rfl 4 rfl ?_
    obtain ⟨r3, er3, h⟩ := Option.bind_eq_some_iff.mp h
    refine K_cV [.int x2, .int x3] [.int ((10 + (9 * x1)) + 3), .ref 446] rfl rfl (Nat.le_of_ble_eq_true rfl) (Nat.le_of_ble_eq_true rfl) sh_436 hM2 rfl (EV_le (Nat.le_of_ble_eq_true rfl) (F_Model_rootAt hM2  er3)) (fun v' M' hq => ?_)
    obtain ⟨rfl, rfl, hr3⟩ := hq
    obtain ⟨M4, eM4, h⟩ := Option.bind_eq_some_iff.mp h
    refine K_wr rfl sh_446 hr3 eM4 (fun hM4 => ?_)
    refine K_aload_n rfl 1 rfl ?_
    refine K_gR rfl sh_436 hM4 rfl rfl 20 rfl r_436_20 ?_
    refine K_iload rfl 0 rfl ?_
    refine K_iconst (v := 3) rfl (by decide) ?_
    refine K_iadd rfl ?_
    obtain ⟨v5, ev5, h⟩ := Option.bind_eq_some_iff.mp h
    refine K_rd rfl sh_446 hM4 ev5 ?_
    refine K_if_ne rfl (fun c6 => ?_) (fun c6 => ?_)
    · rw [if_neg c6] at h
      refine K_iconst (v := 0) rfl (by decide) ?_
      obtain rfl := Option.some.inj h
      exact K_iret rfl (Or.inr ⟨rfl, by decide⟩) ⟨rfl, rfl, hM4⟩
    · rw [if_pos c6] at h
      refine K_iconst (v := 1) rfl (by decide) ?_
      refine K_goto rfl ?_
      obtain rfl := Option.some.inj h
      exact K_iret rfl (Or.inr ⟨rfl, by decide⟩) ⟨rfl, rfl, hM4⟩
set_option maxRecDepth 20000 in
theorem F_Model_isFree {X : mX} {x1 : Int32} {x2 : Int32} {M : mM} {r : Int32 × mM} (hM : Fx M)  (h : f_Model_isFree x1 x2 M = some r) : EV X (2 + 1) 211 [.ref 436, .int x1, .int x2] M (fun v M' => v = some (.int r.1) ∧ r.2 = M' ∧ Fx r.2) := by
    refine EV_of (lc := [(0, .ref 436), (1, .int x1), (2, .int x2)]) (Nat.le_of_ble_eq_true rfl) (by exact Nat.le_of_ble_eq_true rfl) (by exact List.forall_mem_cons.mpr ⟨rfl, List.forall_mem_cons.mpr ⟨rfl, List.forall_mem_cons.mpr ⟨rfl, fun _ h => absurd h List.not_mem_nil⟩⟩⟩) ?_
    unfold f_Model_isFree at h
    refine K_aload_n rfl 0 rfl ?_
    refine K_iload_n rfl 1 rfl ?_
    refine K_iload_n rfl 2 rfl ?_
    obtain ⟨r1, er1, h⟩ := Option.bind_eq_some_iff.mp h
    refine K_cV [.int x1, .int x2] [] rfl rfl (Nat.le_of_ble_eq_true rfl) (Nat.le_of_ble_eq_true rfl) sh_436 hM rfl (EV_le (Nat.le_of_ble_eq_true rfl) (F_Model_isPlace hM  er1)) (fun v' M' hq => ?_)
    obtain ⟨rfl, rfl, hr1⟩ := hq
    refine K_if_eq rfl (fun c2 => ?_) (fun c2 => ?_)
    · rw [if_pos c2] at h
      refine K_iconst (v := 0) rfl (by decide) ?_
      obtain rfl := Option.some.inj h
      exact K_iret rfl (Or.inr ⟨rfl, by decide⟩) ⟨rfl, rfl, hr1⟩
    · rw [if_neg c2] at h
      refine K_aload_n rfl 0 rfl ?_
      refine K_iload_n rfl 1 rfl ?_
      refine K_iload_n rfl 2 rfl ?_
      obtain ⟨r3, er3, h⟩ := Option.bind_eq_some_iff.mp h
      refine K_cV [.int x1, .int x2] [] rfl rfl (Nat.le_of_ble_eq_true rfl) (Nat.le_of_ble_eq_true rfl) sh_436 hr1 rfl (EV_le (Nat.le_of_ble_eq_true rfl) (F_Model_graveAt hr1  er3)) (fun v' M' hq => ?_)
      obtain ⟨rfl, rfl, hr3⟩ := hq
      refine K_if_ge rfl (fun c4 => ?_) (fun c4 => ?_)
      · rw [if_pos c4] at h
        refine K_iconst (v := 0) rfl (by decide) ?_
        obtain rfl := Option.some.inj h
        exact K_iret rfl (Or.inr ⟨rfl, by decide⟩) ⟨rfl, rfl, hr3⟩
      · rw [if_neg c4] at h
        refine K_iconst (v := 1) rfl (by decide) ?_
        refine K_goto rfl ?_
        obtain rfl := Option.some.inj h
        exact K_iret rfl (Or.inr ⟨rfl, by decide⟩) ⟨rfl, rfl, hr3⟩
set_option maxRecDepth 20000 in
theorem L_Model_steps_98 {X : mX} {x1 : Int32} {r : Int32 × mM}  (l3 : Int32) (s0 : Int32) (M : mM) (hM : Fx M)  (h : f_Model_steps_98 x1  l3 s0 M = some r) : KK X 3 209 98 [(0, .ref 436), (1, .int x1), (3, .int l3)] [.int s0] M (fun v M' => v = some (.int r.1) ∧ r.2 = M' ∧ Fx r.2) := by
    unfold f_Model_steps_98 at h
    refine K_istore rfl ?_
    refine K_iload rfl 0 rfl ?_
    refine K_if_ge rfl (fun c12 => ?_) (fun c12 => ?_)
    · rw [if_pos c12] at h
      refine K_aload_n rfl 1 rfl ?_
      refine K_gR rfl sh_436 hM rfl rfl 20 rfl r_436_20 ?_
      refine K_bipush (v := 10) rfl (by decide) ?_
      refine K_bipush (v := 9) rfl (by decide) ?_
      refine K_iload_n rfl 2 rfl ?_
      refine K_imul rfl ?_
      refine K_iadd rfl ?_
      refine K_bipush (v := 7) rfl (by decide) ?_
      refine K_iadd rfl ?_
      refine K_dup2 rfl ⟨rfl, rfl⟩ ?_
      obtain ⟨v13, ev13, h⟩ := Option.bind_eq_some_iff.mp h
      refine K_rd rfl sh_446 hM ev13 ?_
      refine K_iconst (v := 1) rfl (by decide) ?_
      refine K_iadd rfl ?_
      obtain ⟨M14, eM14, h⟩ := Option.bind_eq_some_iff.mp h
      refine K_wr rfl sh_446 hM eM14 (fun hM14 => ?_)
      refine K_aload_n rfl 1 rfl ?_
      refine K_iload_n rfl 2 rfl ?_
      refine K_iload rfl 0 rfl ?_
      refine K_iload_n rfl 3 rfl ?_
      obtain ⟨r15, er15, h⟩ := Option.bind_eq_some_iff.mp h
      refine K_cV [.int x1, .int s0, .int l3] [] rfl rfl (Nat.le_of_ble_eq_true rfl) (Nat.le_of_ble_eq_true rfl) sh_436 hM14 rfl (EV_le (Nat.le_of_ble_eq_true rfl) (F_Model_comesInto hM14  er15)) (fun v' M' hq => ?_)
      obtain ⟨rfl, rfl, hr15⟩ := hq
      split at h
      · rename_i c16
        obtain rfl := Option.some.inj h
        exact K_iret rfl (Or.inr ⟨rfl, c16⟩) ⟨rfl, rfl, hr15⟩
      · cases h
    · rw [if_neg c12] at h
      refine K_iconst (v := 0) rfl (by decide) ?_
      obtain rfl := Option.some.inj h
      exact K_iret rfl (Or.inr ⟨rfl, by decide⟩) ⟨rfl, rfl, hM⟩
set_option maxRecDepth 20000 in
theorem F_Model_steps {X : mX} {x1 : Int32} {M : mM} {r : Int32 × mM} (hM : Fx M)  (h : f_Model_steps x1 M = some r) : EV X (3 + 1) 209 [.ref 436, .int x1] M (fun v M' => v = some (.int r.1) ∧ r.2 = M' ∧ Fx r.2) := by
    refine EV_of (lc := [(0, .ref 436), (1, .int x1)]) (Nat.le_of_ble_eq_true rfl) (by exact Nat.le_of_ble_eq_true rfl) (by exact List.forall_mem_cons.mpr ⟨rfl, List.forall_mem_cons.mpr ⟨rfl, fun _ h => absurd h List.not_mem_nil⟩⟩) ?_
    unfold f_Model_steps at h
    refine K_aload_n rfl 0 rfl ?_
    refine K_iload_n rfl 1 rfl ?_
    refine K_iconst (v := 0) rfl (by decide) ?_
    obtain ⟨r1, er1, h⟩ := Option.bind_eq_some_iff.mp h
    refine K_cV [.int x1, .int 0] [] rfl rfl (Nat.le_of_ble_eq_true rfl) (Nat.le_of_ble_eq_true rfl) sh_436 hM rfl (EV_le (Nat.le_of_ble_eq_true rfl) (F_Model_graveOf hM  er1)) (fun v' M' hq => ?_)
    obtain ⟨rfl, rfl, hr1⟩ := hq
    refine K_istore_n rfl ?_
    refine K_aload_n rfl 1 rfl ?_
    refine K_iload_n rfl 2 rfl ?_
    refine K_iconst (v := 1) rfl (by decide) ?_
    obtain ⟨r2, er2, h⟩ := Option.bind_eq_some_iff.mp h
    refine K_cV [.int x1, .int 1] [] rfl rfl (Nat.le_of_ble_eq_true rfl) (Nat.le_of_ble_eq_true rfl) sh_436 hr1 rfl (EV_le (Nat.le_of_ble_eq_true rfl) (F_Model_graveOf hr1  er2)) (fun v' M' hq => ?_)
    obtain ⟨rfl, rfl, hr2⟩ := hq
    refine K_iconst (v := 1) rfl (by decide) ?_
    refine K_isub rfl ?_
    refine K_istore_n rfl ?_
    refine K_iload_n rfl 0 rfl ?_
    refine K_if_ge rfl (fun c3 => ?_) (fun c3 => ?_)
    · rw [if_pos c3] at h
      refine K_aload_n rfl 2 rfl ?_
      refine K_iload_n rfl 1 rfl ?_
      refine K_iload_n rfl 0 rfl ?_
      obtain ⟨r4, er4, h⟩ := Option.bind_eq_some_iff.mp h
      refine K_cV [.int r1.1, .int (r2.1 - 1)] [] rfl rfl (Nat.le_of_ble_eq_true rfl) (Nat.le_of_ble_eq_true rfl) sh_436 hr2 rfl (EV_le (Nat.le_of_ble_eq_true rfl) (F_Model_graveAt hr2  er4)) (fun v' M' hq => ?_)
      obtain ⟨rfl, rfl, hr4⟩ := hq
      refine K_istore rfl ?_
      refine K_iload rfl 0 rfl ?_
      refine K_if_ge rfl (fun c5 => ?_) (fun c5 => ?_)
      · rw [if_pos c5] at h
        refine K_aload_n rfl 3 rfl ?_
        refine K_iload rfl 0 rfl ?_
        refine K_iconst (v := 2) rfl (by decide) ?_
        obtain ⟨r6, er6, h⟩ := Option.bind_eq_some_iff.mp h
        refine K_cV [.int r4.1, .int 2] [] rfl rfl (Nat.le_of_ble_eq_true rfl) (Nat.le_of_ble_eq_true rfl) sh_436 hr4 rfl (EV_le (Nat.le_of_ble_eq_true rfl) (F_Model_graveOf hr4  er6)) (fun v' M' hq => ?_)
        obtain ⟨rfl, rfl, hr6⟩ := hq
        refine K_iconst (v := 3) rfl (by decide) ?_
        refine K_ic_eq rfl (fun c7 => ?_) (fun c7 => ?_)
        · rw [if_pos c7] at h
          refine K_aload_n rfl 3 rfl ?_
          refine K_iload_n rfl 2 rfl ?_
          refine K_iconst (v := 1) rfl (by decide) ?_
          refine K_isub rfl ?_
          refine K_iload_n rfl 1 rfl ?_
          obtain ⟨r8, er8, h⟩ := Option.bind_eq_some_iff.mp h
          refine K_cV [.int (r1.1 - 1), .int (r2.1 - 1)] [] rfl rfl (Nat.le_of_ble_eq_true rfl) (Nat.le_of_ble_eq_true rfl) sh_436 hr6 rfl (EV_le (Nat.le_of_ble_eq_true rfl) (F_Model_isFree hr6  er8)) (fun v' M' hq => ?_)
          obtain ⟨rfl, rfl, hr8⟩ := hq
          refine K_if_eq rfl (fun c9 => ?_) (fun c9 => ?_)
          · rw [if_pos c9] at h
            refine K_aload_n rfl 3 rfl ?_
            refine K_iload_n rfl 2 rfl ?_
            refine K_iconst (v := 1) rfl (by decide) ?_
            refine K_iadd rfl ?_
            refine K_iload_n rfl 1 rfl ?_
            obtain ⟨r10, er10, h⟩ := Option.bind_eq_some_iff.mp h
            refine K_cV [.int (r1.1 + 1), .int (r2.1 - 1)] [] rfl rfl (Nat.le_of_ble_eq_true rfl) (Nat.le_of_ble_eq_true rfl) sh_436 hr8 rfl (EV_le (Nat.le_of_ble_eq_true rfl) (F_Model_isFree hr8  er10)) (fun v' M' hq => ?_)
            obtain ⟨rfl, rfl, hr10⟩ := hq
            refine K_if_eq rfl (fun c11 => ?_) (fun c11 => ?_)
            · rw [if_pos c11] at h
              refine K_iconst (v := (-1)) rfl (by decide) ?_
              refine K_pick [3, 4, 1] ?_
              exact L_Model_steps_98    _ _ _ hr10  h
            · rw [if_neg c11] at h
              refine K_iload_n rfl 2 rfl ?_
              refine K_iconst (v := 1) rfl (by decide) ?_
              refine K_iadd rfl ?_
              refine K_goto rfl ?_
              refine K_pick [3, 4, 1] ?_
              exact L_Model_steps_98    _ _ _ hr10  h
          · rw [if_neg c9] at h
            refine K_iload_n rfl 2 rfl ?_
            refine K_iconst (v := 1) rfl (by decide) ?_
            refine K_isub rfl ?_
            refine K_goto rfl ?_
            refine K_pick [3, 4, 1] ?_
            exact L_Model_steps_98    _ _ _ hr8  h
        · rw [if_neg c7] at h
          refine K_iconst (v := (-1)) rfl (by decide) ?_
          refine K_goto rfl ?_
          refine K_pick [3, 4, 1] ?_
          exact L_Model_steps_98    _ _ _ hr6  h
      · rw [if_neg c5] at h
        refine K_aload_n rfl 3 rfl ?_
        refine K_iload_n rfl 4 rfl ?_
        refine K_iload_n rfl 2 rfl ?_
        refine K_iload_n rfl 1 rfl ?_
        obtain ⟨r17, er17, h⟩ := Option.bind_eq_some_iff.mp h
        refine K_cV [.int x1, .int r1.1, .int (r2.1 - 1)] [] rfl rfl (Nat.le_of_ble_eq_true rfl) (Nat.le_of_ble_eq_true rfl) sh_436 hr4 rfl (EV_le (Nat.le_of_ble_eq_true rfl) (F_Model_comesInto hr4  er17)) (fun v' M' hq => ?_)
        obtain ⟨rfl, rfl, hr17⟩ := hq
        split at h
        · rename_i c18
          obtain rfl := Option.some.inj h
          exact K_iret rfl (Or.inr ⟨rfl, c18⟩) ⟨rfl, rfl, hr17⟩
        · cases h
    · rw [if_neg c3] at h
      refine K_aload_n rfl 2 rfl ?_
      refine K_iload_n rfl 3 rfl ?_
      obtain ⟨M19, eM19, h⟩ := Option.bind_eq_some_iff.mp h
      refine K_cV [.int x1] [] rfl rfl (Nat.le_of_ble_eq_true rfl) (Nat.le_of_ble_eq_true rfl) sh_436 hr2 rfl (EV_le (Nat.le_of_ble_eq_true rfl) (F_Model_falls hr2  eM19)) (fun v' M' hq => ?_)
      obtain ⟨rfl, rfl, hM19⟩ := hq
      refine K_iconst (v := 0) rfl (by decide) ?_
      obtain rfl := Option.some.inj h
      exact K_iret rfl (Or.inr ⟨rfl, by decide⟩) ⟨rfl, rfl, hM19⟩
set_option maxRecDepth 20000 in
theorem L_Model_turns_59 {X : mX} {x1 : Int32} {r : mM}  : ∀ (n : Nat) (l2 : Int32) (l3 : Int32) (l4 : Int32) (M : mM), Fx M → f_Model_turns_59 x1  n l2 l3 l4 M = some r → KK X 4 199 59 [(0, .ref 436), (1, .int x1), (2, .int l2), (3, .int l3), (4, .int l4)] [] M (fun v M' => v = none ∧ r = M' ∧ Fx r)
  | 0, _, _, _, _ => fun _ h => by cases h
  | n + 1, l2, l3, l4, M => fun hM h => by
    unfold f_Model_turns_59 at h
    refine K_iload rfl 4 rfl ?_
    refine K_iload_n rfl 2 rfl ?_
    refine K_ic_ge rfl (fun c8 => ?_) (fun c8 => ?_)
    · rw [if_pos c8] at h
      obtain rfl := Option.some.inj h
      exact K_vret rfl rfl ⟨rfl, rfl, hM⟩
    · rw [if_neg c8] at h
      refine K_iload_n rfl 3 rfl ?_
      refine K_if_eq rfl (fun c9 => ?_) (fun c9 => ?_)
      · rw [if_pos c9] at h
        obtain rfl := Option.some.inj h
        exact K_vret rfl rfl ⟨rfl, rfl, hM⟩
      · rw [if_neg c9] at h
        refine K_aload_n rfl 0 rfl ?_
        refine K_iload_n rfl 1 rfl ?_
        obtain ⟨r10, er10, h⟩ := Option.bind_eq_some_iff.mp h
        refine K_cV [.int x1] [] rfl rfl (Nat.le_of_ble_eq_true rfl) (Nat.le_of_ble_eq_true rfl) sh_436 hM rfl (EV_le (Nat.le_of_ble_eq_true rfl) (F_Model_steps hM  er10)) (fun v' M' hq => ?_)
        obtain ⟨rfl, rfl, hr10⟩ := hq
        refine K_istore_n rfl ?_
        refine K_iinc (y := (l4 + 1)) rfl 4 rfl rfl ?_
        refine K_goto rfl ?_
        refine K_pick [2, 3, 4, 1, 0] ?_
        exact L_Model_turns_59    n _ _ _ _ hr10  h
set_option maxRecDepth 20000 in
theorem F_Model_turns {X : mX} {x1 : Int32} {M : mM} {r : mM} (hM : Fx M)  (h : f_Model_turns x1 M = some r) : EV X (4 + 1) 199 [.ref 436, .int x1] M (fun v M' => v = none ∧ r = M' ∧ Fx r) := by
    refine EV_of (lc := [(0, .ref 436), (1, .int x1)]) (Nat.le_of_ble_eq_true rfl) (by exact Nat.le_of_ble_eq_true rfl) (by exact List.forall_mem_cons.mpr ⟨rfl, List.forall_mem_cons.mpr ⟨rfl, fun _ h => absurd h List.not_mem_nil⟩⟩) ?_
    unfold f_Model_turns at h
    refine K_aload_n rfl 0 rfl ?_
    refine K_iload_n rfl 1 rfl ?_
    refine K_iconst (v := 2) rfl (by decide) ?_
    obtain ⟨r1, er1, h⟩ := Option.bind_eq_some_iff.mp h
    refine K_cV [.int x1, .int 2] [] rfl rfl (Nat.le_of_ble_eq_true rfl) (Nat.le_of_ble_eq_true rfl) sh_436 hM rfl (EV_le (Nat.le_of_ble_eq_true rfl) (F_Model_graveOf hM  er1)) (fun v' M' hq => ?_)
    obtain ⟨rfl, rfl, hr1⟩ := hq
    refine K_iconst (v := 3) rfl (by decide) ?_
    refine K_ic_ne rfl (fun c2 => ?_) (fun c2 => ?_)
    · rw [if_neg c2] at h
      refine K_aload_n rfl 0 rfl ?_
      refine K_iload_n rfl 1 rfl ?_
      refine K_iconst (v := 3) rfl (by decide) ?_
      obtain ⟨r3, er3, h⟩ := Option.bind_eq_some_iff.mp h
      refine K_cV [.int x1, .int 3] [] rfl rfl (Nat.le_of_ble_eq_true rfl) (Nat.le_of_ble_eq_true rfl) sh_436 hr1 rfl (EV_le (Nat.le_of_ble_eq_true rfl) (F_Model_graveOf hr1  er3)) (fun v' M' hq => ?_)
      obtain ⟨rfl, rfl, hr3⟩ := hq
      refine K_if_le rfl (fun c4 => ?_) (fun c4 => ?_)
      · rw [if_pos c4] at h
        refine K_aload_n rfl 0 rfl ?_
        refine K_iload_n rfl 1 rfl ?_
        obtain ⟨r5, er5, h⟩ := Option.bind_eq_some_iff.mp h
        refine K_cV [.int x1] [] rfl rfl (Nat.le_of_ble_eq_true rfl) (Nat.le_of_ble_eq_true rfl) sh_436 hr3 rfl (EV_le (Nat.le_of_ble_eq_true rfl) (F_Model_isNearer hr3  er5)) (fun v' M' hq => ?_)
        obtain ⟨rfl, rfl, hr5⟩ := hq
        refine K_if_eq rfl (fun c6 => ?_) (fun c6 => ?_)
        · rw [if_pos c6] at h
          refine K_aload_n rfl 0 rfl ?_
          refine K_iload_n rfl 1 rfl ?_
          obtain ⟨r7, er7, h⟩ := Option.bind_eq_some_iff.mp h
          refine K_cV [.int x1] [] rfl rfl (Nat.le_of_ble_eq_true rfl) (Nat.le_of_ble_eq_true rfl) sh_436 hr5 rfl (EV_le (Nat.le_of_ble_eq_true rfl) (F_Model_stepsOf hr5  er7)) (fun v' M' hq => ?_)
          obtain ⟨rfl, rfl, hr7⟩ := hq
          refine K_istore_n rfl ?_
          refine K_iconst (v := 1) rfl (by decide) ?_
          refine K_istore_n rfl ?_
          refine K_iconst (v := 0) rfl (by decide) ?_
          refine K_istore rfl ?_
          refine K_pick [3, 4, 2, 1, 0] ?_
          exact L_Model_turns_59    FUEL _ _ _ _ hr7  h
        · rw [if_neg c6] at h
          obtain rfl := Option.some.inj h
          exact K_vret rfl rfl ⟨rfl, rfl, hr5⟩
      · rw [if_neg c4] at h
        refine K_aload_n rfl 0 rfl ?_
        refine K_gR rfl sh_436 hr3 rfl rfl 20 rfl r_436_20 ?_
        refine K_bipush (v := 10) rfl (by decide) ?_
        refine K_bipush (v := 9) rfl (by decide) ?_
        refine K_iload_n rfl 1 rfl ?_
        refine K_imul rfl ?_
        refine K_iadd rfl ?_
        refine K_iconst (v := 3) rfl (by decide) ?_
        refine K_iadd rfl ?_
        refine K_dup2 rfl ⟨rfl, rfl⟩ ?_
        obtain ⟨v11, ev11, h⟩ := Option.bind_eq_some_iff.mp h
        refine K_rd rfl sh_446 hr3 ev11 ?_
        refine K_iconst (v := 1) rfl (by decide) ?_
        refine K_isub rfl ?_
        obtain ⟨M12, eM12, h⟩ := Option.bind_eq_some_iff.mp h
        refine K_wr rfl sh_446 hr3 eM12 (fun hM12 => ?_)
        obtain rfl := Option.some.inj h
        exact K_vret rfl rfl ⟨rfl, rfl, hM12⟩
    · rw [if_pos c2] at h
      obtain rfl := Option.some.inj h
      exact K_vret rfl rfl ⟨rfl, rfl, hr1⟩
set_option maxRecDepth 20000 in
theorem L_Model_stonesGo_119 {X : mX}  {k2 : Int32 → mM → Option (mM)} {r : mM}  (hk2 : ∀ (l1 : Int32) (M : mM), Fx M → k2 l1 M = some r → KK X 2 212 2 [(0, .ref 436), (1, .int l1)] [] M (fun v M' => v = none ∧ r = M' ∧ Fx r)) (l1 : Int32) (M : mM) (hM : Fx M)  (h : f_Model_stonesGo_119  k2 l1 M = some r) : KK X 2 212 119 [(0, .ref 436), (1, .int l1)] [] M (fun v M' => v = none ∧ r = M' ∧ Fx r) := by
    unfold f_Model_stonesGo_119 at h
    refine K_iinc (y := (l1 + 1)) rfl 1 rfl rfl ?_
    refine K_goto rfl ?_
    refine K_pick [1, 0] ?_
    exact hk2 _ _ hM  h
set_option maxRecDepth 20000 in
theorem L_Model_stonesGo_89 {X : mX}  {k2 : Int32 → mM → Option (mM)} {r : mM}  (hk2 : ∀ (l1 : Int32) (M : mM), Fx M → k2 l1 M = some r → KK X 2 212 2 [(0, .ref 436), (1, .int l1)] [] M (fun v M' => v = none ∧ r = M' ∧ Fx r)) (l1 : Int32) (l2 : Int32) (M : mM) (hM : Fx M)  (h : f_Model_stonesGo_89  k2 l1 l2 M = some r) : KK X 2 212 89 [(0, .ref 436), (1, .int l1), (2, .int l2)] [] M (fun v M' => v = none ∧ r = M' ∧ Fx r) := by
    unfold f_Model_stonesGo_89 at h
    refine K_aload_n rfl 0 rfl ?_
    refine K_gR rfl sh_436 hM rfl rfl 20 rfl r_436_20 ?_
    refine K_iload_n rfl 2 rfl ?_
    refine K_iconst (v := 1) rfl (by decide) ?_
    refine K_iadd rfl ?_
    refine K_dup2 rfl ⟨rfl, rfl⟩ ?_
    obtain ⟨v8, ev8, h⟩ := Option.bind_eq_some_iff.mp h
    refine K_rd rfl sh_446 hM ev8 ?_
    refine K_iconst (v := 1) rfl (by decide) ?_
    refine K_isub rfl ?_
    obtain ⟨M9, eM9, h⟩ := Option.bind_eq_some_iff.mp h
    refine K_wr rfl sh_446 hM eM9 (fun hM9 => ?_)
    refine K_aload_n rfl 0 rfl ?_
    refine K_gR rfl sh_436 hM9 rfl rfl 20 rfl r_436_20 ?_
    refine K_iload_n rfl 2 rfl ?_
    refine K_iconst (v := 1) rfl (by decide) ?_
    refine K_iadd rfl ?_
    obtain ⟨v10, ev10, h⟩ := Option.bind_eq_some_iff.mp h
    refine K_rd rfl sh_446 hM9 ev10 ?_
    refine K_if_ge rfl (fun c11 => ?_) (fun c11 => ?_)
    · rw [if_pos c11] at h
      refine K_pick [0, 1] ?_
      exact L_Model_stonesGo_119   hk2 _ _ hM9  h
    · rw [if_neg c11] at h
      refine K_aload_n rfl 0 rfl ?_
      refine K_gR rfl sh_436 hM9 rfl rfl 20 rfl r_436_20 ?_
      refine K_iload_n rfl 2 rfl ?_
      refine K_iconst (v := (-1)) rfl (by decide) ?_
      obtain ⟨M12, eM12, h⟩ := Option.bind_eq_some_iff.mp h
      refine K_wr rfl sh_446 hM9 eM12 (fun hM12 => ?_)
      refine K_pick [0, 1] ?_
      exact L_Model_stonesGo_119   hk2 _ _ hM12  h
set_option maxRecDepth 20000 in
theorem L_Model_stonesGo_58 {X : mX}  {k2 : Int32 → mM → Option (mM)} {r : mM}  (hk2 : ∀ (l1 : Int32) (M : mM), Fx M → k2 l1 M = some r → KK X 2 212 2 [(0, .ref 436), (1, .int l1)] [] M (fun v M' => v = none ∧ r = M' ∧ Fx r)) (l1 : Int32) (l2 : Int32) (s0 : Int32) (M : mM) (hM : Fx M)  (h : f_Model_stonesGo_58  k2 l1 l2 s0 M = some r) : KK X 2 212 58 [(0, .ref 436), (1, .int l1), (2, .int l2)] [.int s0] M (fun v M' => v = none ∧ r = M' ∧ Fx r) := by
    unfold f_Model_stonesGo_58 at h
    refine K_istore_n rfl ?_
    refine K_iload_n rfl 0 rfl ?_
    refine K_if_eq rfl (fun c5 => ?_) (fun c5 => ?_)
    · rw [if_pos c5] at h
      refine K_pick [1, 2] ?_
      exact L_Model_stonesGo_119   hk2 _ _ hM  h
    · rw [if_neg c5] at h
      refine K_aload_n rfl 1 rfl ?_
      refine K_iload_n rfl 2 rfl ?_
      refine K_bipush (v := 8) rfl (by decide) ?_
      obtain ⟨r6, er6, h⟩ := Option.bind_eq_some_iff.mp h
      refine K_cV [.int l1, .int 8] [] rfl rfl (Nat.le_of_ble_eq_true rfl) (Nat.le_of_ble_eq_true rfl) sh_436 hM rfl (EV_le (Nat.le_of_ble_eq_true rfl) (F_Model_graveOf hM  er6)) (fun v' M' hq => ?_)
      obtain ⟨rfl, rfl, hr6⟩ := hq
      refine K_iconst (v := 1) rfl (by decide) ?_
      refine K_ic_ne rfl (fun c7 => ?_) (fun c7 => ?_)
      · rw [if_neg c7] at h
        refine K_pick [1, 2, 3] ?_
        exact L_Model_stonesGo_89   hk2 _ _ _ hr6  h
      · rw [if_pos c7] at h
        refine K_aload_n rfl 1 rfl ?_
        refine K_gR rfl sh_436 hr6 rfl rfl 20 rfl r_436_20 ?_
        refine K_iconst (v := 3) rfl (by decide) ?_
        obtain ⟨v13, ev13, h⟩ := Option.bind_eq_some_iff.mp h
        refine K_rd rfl sh_446 hr6 ev13 ?_
        refine K_iconst (v := 2) rfl (by decide) ?_
        refine K_irem rfl (by decide) ?_
        refine K_iconst (v := 1) rfl (by decide) ?_
        refine K_ic_ne rfl (fun c14 => ?_) (fun c14 => ?_)
        · rw [if_neg c14] at h
          refine K_pick [1, 2, 3] ?_
          exact L_Model_stonesGo_89   hk2 _ _ _ hr6  h
        · rw [if_pos c14] at h
          refine K_goto rfl ?_
          refine K_pick [1, 2] ?_
          exact L_Model_stonesGo_119   hk2 _ _ hr6  h
set_option maxRecDepth 20000 in
theorem L_Model_stonesGo_57 {X : mX}  {k2 : Int32 → mM → Option (mM)} {r : mM}  (hk2 : ∀ (l1 : Int32) (M : mM), Fx M → k2 l1 M = some r → KK X 2 212 2 [(0, .ref 436), (1, .int l1)] [] M (fun v M' => v = none ∧ r = M' ∧ Fx r)) (l1 : Int32) (l2 : Int32) (M : mM) (hM : Fx M)  (h : f_Model_stonesGo_57  k2 l1 l2 M = some r) : KK X 2 212 57 [(0, .ref 436), (1, .int l1), (2, .int l2)] [] M (fun v M' => v = none ∧ r = M' ∧ Fx r) := by
    unfold f_Model_stonesGo_57 at h
    refine K_iconst (v := 0) rfl (by decide) ?_
    refine K_pick [0, 1, 2] ?_
    exact L_Model_stonesGo_58   hk2 _ _ _ _ hM  h
set_option maxRecDepth 20000 in
theorem L_Model_stonesGo_53 {X : mX}  {k2 : Int32 → mM → Option (mM)} {r : mM}  (hk2 : ∀ (l1 : Int32) (M : mM), Fx M → k2 l1 M = some r → KK X 2 212 2 [(0, .ref 436), (1, .int l1)] [] M (fun v M' => v = none ∧ r = M' ∧ Fx r)) (l1 : Int32) (l2 : Int32) (M : mM) (hM : Fx M)  (h : f_Model_stonesGo_53  k2 l1 l2 M = some r) : KK X 2 212 53 [(0, .ref 436), (1, .int l1), (2, .int l2)] [] M (fun v M' => v = none ∧ r = M' ∧ Fx r) := by
    unfold f_Model_stonesGo_53 at h
    refine K_iconst (v := 1) rfl (by decide) ?_
    refine K_goto rfl ?_
    refine K_pick [0, 1, 2] ?_
    exact L_Model_stonesGo_58   hk2 _ _ _ _ hM  h
set_option maxRecDepth 20000 in
theorem L_Model_stonesGo_2 {X : mX}  {r : mM}  : ∀ (n : Nat) (l1 : Int32) (M : mM), Fx M → f_Model_stonesGo_2   n l1 M = some r → KK X 2 212 2 [(0, .ref 436), (1, .int l1)] [] M (fun v M' => v = none ∧ r = M' ∧ Fx r)
  | 0, _, _ => fun _ h => by cases h
  | n + 1, l1, M => fun hM h => by
    unfold f_Model_stonesGo_2 at h
    refine K_iload_n rfl 1 rfl ?_
    refine K_aload_n rfl 0 rfl ?_
    refine K_gR rfl sh_436 hM rfl rfl 20 rfl r_436_20 ?_
    refine K_iconst (v := 2) rfl (by decide) ?_
    obtain ⟨v1, ev1, h⟩ := Option.bind_eq_some_iff.mp h
    refine K_rd rfl sh_446 hM ev1 ?_
    refine K_ic_ge rfl (fun c2 => ?_) (fun c2 => ?_)
    · rw [if_pos c2] at h
      obtain rfl := Option.some.inj h
      exact K_vret rfl rfl ⟨rfl, rfl, hM⟩
    · rw [if_neg c2] at h
      refine K_bipush (v := 109) rfl (by decide) ?_
      refine K_iconst (v := 2) rfl (by decide) ?_
      refine K_iload_n rfl 1 rfl ?_
      refine K_imul rfl ?_
      refine K_iadd rfl ?_
      refine K_istore_n rfl ?_
      refine K_aload_n rfl 1 rfl ?_
      refine K_gR rfl sh_436 hM rfl rfl 20 rfl r_436_20 ?_
      refine K_iload_n rfl 0 rfl ?_
      obtain ⟨v3, ev3, h⟩ := Option.bind_eq_some_iff.mp h
      refine K_rd rfl sh_446 hM ev3 ?_
      refine K_if_lt rfl (fun c4 => ?_) (fun c4 => ?_)
      · rw [if_pos c4] at h
        refine K_pick [1, 2, 0] ?_
        exact L_Model_stonesGo_57   (L_Model_stonesGo_2    n) _ _ _ hM  h
      · rw [if_neg c4] at h
        refine K_aload_n rfl 1 rfl ?_
        refine K_iload_n rfl 2 rfl ?_
        obtain ⟨r15, er15, h⟩ := Option.bind_eq_some_iff.mp h
        refine K_cV [.int l1] [] rfl rfl (Nat.le_of_ble_eq_true rfl) (Nat.le_of_ble_eq_true rfl) sh_436 hM rfl (EV_le (Nat.le_of_ble_eq_true rfl) (F_Model_isFallen hM  er15)) (fun v' M' hq => ?_)
        obtain ⟨rfl, rfl, hr15⟩ := hq
        refine K_if_ne rfl (fun c16 => ?_) (fun c16 => ?_)
        · rw [if_neg c16] at h
          refine K_pick [1, 2, 0] ?_
          exact L_Model_stonesGo_53   (L_Model_stonesGo_2    n) _ _ _ hr15  h
        · rw [if_pos c16] at h
          refine K_aload_n rfl 1 rfl ?_
          refine K_iload_n rfl 2 rfl ?_
          refine K_iconst (v := 1) rfl (by decide) ?_
          obtain ⟨r17, er17, h⟩ := Option.bind_eq_some_iff.mp h
          refine K_cV [.int l1, .int 1] [] rfl rfl (Nat.le_of_ble_eq_true rfl) (Nat.le_of_ble_eq_true rfl) sh_436 hr15 rfl (EV_le (Nat.le_of_ble_eq_true rfl) (F_Model_graveOf hr15  er17)) (fun v' M' hq => ?_)
          obtain ⟨rfl, rfl, hr17⟩ := hq
          refine K_aload_n rfl 1 rfl ?_
          refine K_gR rfl sh_436 hr17 rfl rfl 20 rfl r_436_20 ?_
          refine K_iload_n rfl 0 rfl ?_
          refine K_iconst (v := 1) rfl (by decide) ?_
          refine K_iadd rfl ?_
          obtain ⟨v18, ev18, h⟩ := Option.bind_eq_some_iff.mp h
          refine K_rd rfl sh_446 hr17 ev18 ?_
          refine K_ic_ge rfl (fun c19 => ?_) (fun c19 => ?_)
          · rw [if_pos c19] at h
            refine K_pick [1, 2, 0] ?_
            exact L_Model_stonesGo_57   (L_Model_stonesGo_2    n) _ _ _ hr17  h
          · rw [if_neg c19] at h
            refine K_pick [1, 2, 0] ?_
            exact L_Model_stonesGo_53   (L_Model_stonesGo_2    n) _ _ _ hr17  h
set_option maxRecDepth 20000 in
theorem F_Model_stonesGo {X : mX}  {M : mM} {r : mM} (hM : Fx M)  (h : f_Model_stonesGo  M = some r) : EV X (2 + 1) 212 [.ref 436] M (fun v M' => v = none ∧ r = M' ∧ Fx r) := by
    refine EV_of (lc := [(0, .ref 436)]) (Nat.le_of_ble_eq_true rfl) (by exact Nat.le_of_ble_eq_true rfl) (by exact List.forall_mem_cons.mpr ⟨rfl, fun _ h => absurd h List.not_mem_nil⟩) ?_
    unfold f_Model_stonesGo at h
    refine K_iconst (v := 0) rfl (by decide) ?_
    refine K_istore_n rfl ?_
    refine K_pick [1, 0] ?_
    exact L_Model_stonesGo_2    FUEL _ _ hM  h
set_option maxRecDepth 20000 in
theorem L_Model_passes_70 {X : mX}  {r : Int32 × mM}  : ∀ (n : Nat) (l1 : Int32) (M : mM), Fx M → f_Model_passes_70   n l1 M = some r → KK X 5 195 70 [(0, .ref 436), (1, .int l1)] [] M (fun v M' => v = some (.int r.1) ∧ r.2 = M' ∧ Fx r.2)
  | 0, _, _ => fun _ h => by cases h
  | n + 1, l1, M => fun hM h => by
    unfold f_Model_passes_70 at h
    refine K_iload_n rfl 1 rfl ?_
    refine K_aload_n rfl 0 rfl ?_
    refine K_gI rfl sh_436 hM rfl rfl 28 rfl ?_
    refine K_ic_ge rfl (fun c7 => ?_) (fun c7 => ?_)
    · rw [if_pos c7] at h
      refine K_aload_n rfl 0 rfl ?_
      obtain ⟨M8, eM8, h⟩ := Option.bind_eq_some_iff.mp h
      refine K_cV [] [] rfl rfl (Nat.le_of_ble_eq_true rfl) (Nat.le_of_ble_eq_true rfl) sh_436 hM rfl (EV_le (Nat.le_of_ble_eq_true rfl) (F_Model_stonesGo hM  eM8)) (fun v' M' hq => ?_)
      obtain ⟨rfl, rfl, hM8⟩ := hq
      refine K_aload_n rfl 0 rfl ?_
      refine K_gR rfl sh_436 hM8 rfl rfl 20 rfl r_436_20 ?_
      refine K_iconst (v := 3) rfl (by decide) ?_
      refine K_dup2 rfl ⟨rfl, rfl⟩ ?_
      obtain ⟨v9, ev9, h⟩ := Option.bind_eq_some_iff.mp h
      refine K_rd rfl sh_446 hM8 ev9 ?_
      refine K_iconst (v := 1) rfl (by decide) ?_
      refine K_iadd rfl ?_
      obtain ⟨M10, eM10, h⟩ := Option.bind_eq_some_iff.mp h
      refine K_wr rfl sh_446 hM8 eM10 (fun hM10 => ?_)
      refine K_aload_n rfl 0 rfl ?_
      refine K_gI rfl sh_436 hM10 rfl rfl 24 rfl ?_
      obtain rfl := Option.some.inj h
      exact K_iret rfl (Or.inl rfl) ⟨rfl, rfl, hM10⟩
    · rw [if_neg c7] at h
      refine K_aload_n rfl 0 rfl ?_
      refine K_aload_n rfl 0 rfl ?_
      refine K_gR rfl sh_436 hM rfl rfl 27 rfl r_436_27 ?_
      refine K_iload_n rfl 1 rfl ?_
      obtain ⟨v11, ev11, h⟩ := Option.bind_eq_some_iff.mp h
      refine K_rd rfl sh_448 hM ev11 ?_
      obtain ⟨M12, eM12, h⟩ := Option.bind_eq_some_iff.mp h
      refine K_cV [.int v11] [] rfl rfl (Nat.le_of_ble_eq_true rfl) (Nat.le_of_ble_eq_true rfl) sh_436 hM rfl (EV_le (Nat.le_of_ble_eq_true rfl) (F_Model_turns hM  eM12)) (fun v' M' hq => ?_)
      obtain ⟨rfl, rfl, hM12⟩ := hq
      refine K_iinc (y := (l1 + 1)) rfl 1 rfl rfl ?_
      refine K_goto rfl ?_
      refine K_pick [1, 0] ?_
      exact L_Model_passes_70    n _ _ hM12  h
set_option maxRecDepth 20000 in
theorem L_Model_passes_56 {X : mX}  {r : Int32 × mM}   (M : mM) (hM : Fx M)  (h : f_Model_passes_56    M = some r) : KK X 5 195 56 [(0, .ref 436)] [] M (fun v M' => v = some (.int r.1) ∧ r.2 = M' ∧ Fx r.2) := by
    unfold f_Model_passes_56 at h
    refine K_aload_n rfl 0 rfl ?_
    refine K_aload_n rfl 0 rfl ?_
    refine K_gR rfl sh_436 hM rfl rfl 20 rfl r_436_20 ?_
    refine K_iconst (v := 1) rfl (by decide) ?_
    obtain ⟨v5, ev5, h⟩ := Option.bind_eq_some_iff.mp h
    refine K_rd rfl sh_446 hM ev5 ?_
    refine K_iconst (v := 1) rfl (by decide) ?_
    refine K_isub rfl ?_
    obtain ⟨M6, eM6, h⟩ := Option.bind_eq_some_iff.mp h
    refine K_cV [.int (v5 - 1)] [] rfl rfl (Nat.le_of_ble_eq_true rfl) (Nat.le_of_ble_eq_true rfl) sh_436 hM rfl (EV_le (Nat.le_of_ble_eq_true rfl) (F_Model_sorts hM  eM6)) (fun v' M' hq => ?_)
    obtain ⟨rfl, rfl, hM6⟩ := hq
    refine K_iconst (v := 0) rfl (by decide) ?_
    refine K_istore_n rfl ?_
    refine K_pick [1, 0] ?_
    exact L_Model_passes_70    FUEL _ _ hM6  h
set_option maxRecDepth 20000 in
theorem L_Model_passes_24 {X : mX}  {r : Int32 × mM}  : ∀ (n : Nat) (l1 : Int32) (M : mM), Fx M → f_Model_passes_24   n l1 M = some r → KK X 5 195 24 [(0, .ref 436), (1, .int l1)] [] M (fun v M' => v = some (.int r.1) ∧ r.2 = M' ∧ Fx r.2)
  | 0, _, _ => fun _ h => by cases h
  | n + 1, l1, M => fun hM h => by
    unfold f_Model_passes_24 at h
    refine K_iload_n rfl 1 rfl ?_
    refine K_aload_n rfl 0 rfl ?_
    refine K_gI rfl sh_436 hM rfl rfl 28 rfl ?_
    refine K_ic_ge rfl (fun c14 => ?_) (fun c14 => ?_)
    · rw [if_pos c14] at h
      refine K_aload_n rfl 0 rfl ?_
      refine K_aload_n rfl 0 rfl ?_
      refine K_gI rfl sh_436 hM rfl rfl 24 rfl ?_
      obtain ⟨M15, eM15, h⟩ := Option.bind_eq_some_iff.mp h
      refine K_pI rfl sh_436 hM rfl rfl 25 rfl eM15 (fun hM15 => ?_)
      refine K_pick [0] ?_
      exact L_Model_passes_56     _ hM15  h
    · rw [if_neg c14] at h
      refine K_aload_n rfl 0 rfl ?_
      refine K_aload_n rfl 0 rfl ?_
      refine K_gR rfl sh_436 hM rfl rfl 27 rfl r_436_27 ?_
      refine K_iload_n rfl 1 rfl ?_
      obtain ⟨v16, ev16, h⟩ := Option.bind_eq_some_iff.mp h
      refine K_rd rfl sh_448 hM ev16 ?_
      obtain ⟨M17, eM17, h⟩ := Option.bind_eq_some_iff.mp h
      refine K_cV [.int v16] [] rfl rfl (Nat.le_of_ble_eq_true rfl) (Nat.le_of_ble_eq_true rfl) sh_436 hM rfl (EV_le (Nat.le_of_ble_eq_true rfl) (F_Model_falls hM  eM17)) (fun v' M' hq => ?_)
      obtain ⟨rfl, rfl, hM17⟩ := hq
      refine K_iinc (y := (l1 + 1)) rfl 1 rfl rfl ?_
      refine K_goto rfl ?_
      refine K_pick [1, 0] ?_
      exact L_Model_passes_24    n _ _ hM17  h
set_option maxRecDepth 20000 in
theorem F_Model_passes {X : mX}  {M : mM} {r : Int32 × mM} (hM : Fx M)  (h : f_Model_passes  M = some r) : EV X (5 + 1) 195 [.ref 436] M (fun v M' => v = some (.int r.1) ∧ r.2 = M' ∧ Fx r.2) := by
    refine EV_of (lc := [(0, .ref 436)]) (Nat.le_of_ble_eq_true rfl) (by exact Nat.le_of_ble_eq_true rfl) (by exact List.forall_mem_cons.mpr ⟨rfl, fun _ h => absurd h List.not_mem_nil⟩) ?_
    unfold f_Model_passes at h
    refine K_aload_n rfl 0 rfl ?_
    refine K_iconst (v := 0) rfl (by decide) ?_
    obtain ⟨M1, eM1, h⟩ := Option.bind_eq_some_iff.mp h
    refine K_pI rfl sh_436 hM rfl rfl 24 rfl eM1 (fun hM1 => ?_)
    refine K_aload_n rfl 0 rfl ?_
    refine K_iconst (v := 0) rfl (by decide) ?_
    obtain ⟨M2, eM2, h⟩ := Option.bind_eq_some_iff.mp h
    refine K_pI rfl sh_436 hM1 rfl rfl 25 rfl eM2 (fun hM2 => ?_)
    refine K_aload_n rfl 0 rfl ?_
    obtain ⟨r3, er3, h⟩ := Option.bind_eq_some_iff.mp h
    refine K_cV [] [] rfl rfl (Nat.le_of_ble_eq_true rfl) (Nat.le_of_ble_eq_true rfl) sh_436 hM2 rfl (EV_le (Nat.le_of_ble_eq_true rfl) (F_Model_isFlood hM2  er3)) (fun v' M' hq => ?_)
    obtain ⟨rfl, rfl, hr3⟩ := hq
    refine K_if_eq rfl (fun c4 => ?_) (fun c4 => ?_)
    · rw [if_pos c4] at h
      refine K_pick [0] ?_
      exact L_Model_passes_56     _ hr3  h
    · rw [if_neg c4] at h
      refine K_aload_n rfl 0 rfl ?_
      refine K_iconst (v := 1) rfl (by decide) ?_
      obtain ⟨M13, eM13, h⟩ := Option.bind_eq_some_iff.mp h
      refine K_cV [.int 1] [] rfl rfl (Nat.le_of_ble_eq_true rfl) (Nat.le_of_ble_eq_true rfl) sh_436 hr3 rfl (EV_le (Nat.le_of_ble_eq_true rfl) (F_Model_sorts hr3  eM13)) (fun v' M' hq => ?_)
      obtain ⟨rfl, rfl, hM13⟩ := hq
      refine K_iconst (v := 0) rfl (by decide) ?_
      refine K_istore_n rfl ?_
      refine K_pick [1, 0] ?_
      exact L_Model_passes_24    FUEL _ _ hM13  h
set_option maxRecDepth 20000 in
theorem F_Model_year {X : mX}  {M : mM} {r : Int32 × mM} (hM : Fx M)  (h : f_Model_year  M = some r) : EV X (6 + 1) 192 [.ref 436] M (fun v M' => v = some (.int r.1) ∧ r.2 = M' ∧ Fx r.2) := by
    refine EV_of (lc := [(0, .ref 436)]) (Nat.le_of_ble_eq_true rfl) (by exact Nat.le_of_ble_eq_true rfl) (by exact List.forall_mem_cons.mpr ⟨rfl, fun _ h => absurd h List.not_mem_nil⟩) ?_
    unfold f_Model_year at h
    refine K_aload_n rfl 0 rfl ?_
    obtain ⟨r1, er1, h⟩ := Option.bind_eq_some_iff.mp h
    refine K_cV [] [] rfl rfl (Nat.le_of_ble_eq_true rfl) (Nat.le_of_ble_eq_true rfl) sh_436 hM rfl (EV_le (Nat.le_of_ble_eq_true rfl) (F_Model_isYard hM  er1)) (fun v' M' hq => ?_)
    obtain ⟨rfl, rfl, hr1⟩ := hq
    refine K_if_eq rfl (fun c2 => ?_) (fun c2 => ?_)
    · rw [if_pos c2] at h
      refine K_iconst (v := (-1)) rfl (by decide) ?_
      obtain rfl := Option.some.inj h
      exact K_iret rfl (Or.inl rfl) ⟨rfl, rfl, hr1⟩
    · rw [if_neg c2] at h
      refine K_aload_n rfl 0 rfl ?_
      refine K_gR rfl sh_436 hr1 rfl rfl 20 rfl r_436_20 ?_
      refine K_iconst (v := 3) rfl (by decide) ?_
      obtain ⟨v3, ev3, h⟩ := Option.bind_eq_some_iff.mp h
      refine K_rd rfl sh_446 hr1 ev3 ?_
      refine K_sipush (v := 999) rfl (by decide) ?_
      refine K_ic_ne rfl (fun c4 => ?_) (fun c4 => ?_)
      · rw [if_neg c4] at h
        refine K_aload_n rfl 0 rfl ?_
        obtain ⟨M5, eM5, h⟩ := Option.bind_eq_some_iff.mp h
        refine K_cV [] [] rfl rfl (Nat.le_of_ble_eq_true rfl) (Nat.le_of_ble_eq_true rfl) sh_436 hr1 rfl (EV_le (Nat.le_of_ble_eq_true rfl) (F_Model_keepsAct hr1  eM5)) (fun v' M' hq => ?_)
        obtain ⟨rfl, rfl, hM5⟩ := hq
        refine K_aload_n rfl 0 rfl ?_
        obtain ⟨r6, er6, h⟩ := Option.bind_eq_some_iff.mp h
        refine K_cV [] [] rfl rfl (Nat.le_of_ble_eq_true rfl) (Nat.le_of_ble_eq_true rfl) sh_436 hM5 rfl (EV_le (Nat.le_of_ble_eq_true rfl) (F_Model_passes hM5  er6)) (fun v' M' hq => ?_)
        obtain ⟨rfl, rfl, hr6⟩ := hq
        obtain rfl := Option.some.inj h
        exact K_iret rfl (Or.inl rfl) ⟨rfl, rfl, hr6⟩
      · rw [if_pos c4] at h
        refine K_iconst (v := (-1)) rfl (by decide) ?_
        obtain rfl := Option.some.inj h
        exact K_iret rfl (Or.inl rfl) ⟨rfl, rfl, hr1⟩
set_option maxRecDepth 20000 in
theorem L_Model_digs_21 {X : mX} {x1 : Int32} {x2 : Int32} {x3 : Int32} {r : mM}  : ∀ (n : Nat) (l4 : Int32) (l5 : Int32) (l6 : Int32) (M : mM), Fx M → f_Model_digs_21 x1 x2 x3  n l4 l5 l6 M = some r → KK X 0 214 21 [(0, .ref 436), (1, .int x1), (2, .int x2), (3, .int x3), (4, .int l4), (5, .int l5), (6, .int l6)] [] M (fun v M' => v = none ∧ r = M' ∧ Fx r)
  | 0, _, _, _, _ => fun _ h => by cases h
  | n + 1, l4, l5, l6, M => fun hM h => by
    unfold f_Model_digs_21 at h
    refine K_iload rfl 6 rfl ?_
    refine K_bipush (v := 9) rfl (by decide) ?_
    refine K_ic_ge rfl (fun c2 => ?_) (fun c2 => ?_)
    · rw [if_pos c2] at h
      refine K_aload_n rfl 0 rfl ?_
      refine K_gR rfl sh_436 hM rfl rfl 20 rfl r_436_20 ?_
      refine K_iload rfl 5 rfl ?_
      refine K_iload_n rfl 1 rfl ?_
      obtain ⟨M3, eM3, h⟩ := Option.bind_eq_some_iff.mp h
      refine K_wr rfl sh_446 hM eM3 (fun hM3 => ?_)
      refine K_aload_n rfl 0 rfl ?_
      refine K_gR rfl sh_436 hM3 rfl rfl 20 rfl r_436_20 ?_
      refine K_iload rfl 5 rfl ?_
      refine K_iconst (v := 1) rfl (by decide) ?_
      refine K_iadd rfl ?_
      refine K_iload_n rfl 2 rfl ?_
      obtain ⟨M4, eM4, h⟩ := Option.bind_eq_some_iff.mp h
      refine K_wr rfl sh_446 hM3 eM4 (fun hM4 => ?_)
      refine K_aload_n rfl 0 rfl ?_
      refine K_gR rfl sh_436 hM4 rfl rfl 20 rfl r_436_20 ?_
      refine K_iload rfl 5 rfl ?_
      refine K_iconst (v := 2) rfl (by decide) ?_
      refine K_iadd rfl ?_
      refine K_iload_n rfl 3 rfl ?_
      obtain ⟨M5, eM5, h⟩ := Option.bind_eq_some_iff.mp h
      refine K_wr rfl sh_446 hM4 eM5 (fun hM5 => ?_)
      refine K_aload_n rfl 0 rfl ?_
      refine K_gR rfl sh_436 hM5 rfl rfl 20 rfl r_436_20 ?_
      refine K_iload rfl 5 rfl ?_
      refine K_iconst (v := 4) rfl (by decide) ?_
      refine K_iadd rfl ?_
      refine K_iconst (v := (-1)) rfl (by decide) ?_
      obtain ⟨M6, eM6, h⟩ := Option.bind_eq_some_iff.mp h
      refine K_wr rfl sh_446 hM5 eM6 (fun hM6 => ?_)
      refine K_aload_n rfl 0 rfl ?_
      refine K_gR rfl sh_436 hM6 rfl rfl 20 rfl r_436_20 ?_
      refine K_iload rfl 5 rfl ?_
      refine K_iconst (v := 5) rfl (by decide) ?_
      refine K_iadd rfl ?_
      refine K_aload_n rfl 0 rfl ?_
      refine K_gR rfl sh_436 hM6 rfl rfl 20 rfl r_436_20 ?_
      refine K_iconst (v := 3) rfl (by decide) ?_
      obtain ⟨v7, ev7, h⟩ := Option.bind_eq_some_iff.mp h
      refine K_rd rfl sh_446 hM6 ev7 ?_
      obtain ⟨M8, eM8, h⟩ := Option.bind_eq_some_iff.mp h
      refine K_wr rfl sh_446 hM6 eM8 (fun hM8 => ?_)
      refine K_aload_n rfl 0 rfl ?_
      refine K_gR rfl sh_436 hM8 rfl rfl 20 rfl r_436_20 ?_
      refine K_iload rfl 5 rfl ?_
      refine K_bipush (v := 6) rfl (by decide) ?_
      refine K_iadd rfl ?_
      refine K_iconst (v := (-1)) rfl (by decide) ?_
      obtain ⟨M9, eM9, h⟩ := Option.bind_eq_some_iff.mp h
      refine K_wr rfl sh_446 hM8 eM9 (fun hM9 => ?_)
      refine K_aload_n rfl 0 rfl ?_
      refine K_gR rfl sh_436 hM9 rfl rfl 20 rfl r_436_20 ?_
      refine K_bipush (v := 109) rfl (by decide) ?_
      refine K_iconst (v := 2) rfl (by decide) ?_
      refine K_iload rfl 4 rfl ?_
      refine K_imul rfl ?_
      refine K_iadd rfl ?_
      refine K_iload_n rfl 1 rfl ?_
      obtain ⟨M10, eM10, h⟩ := Option.bind_eq_some_iff.mp h
      refine K_wr rfl sh_446 hM9 eM10 (fun hM10 => ?_)
      refine K_aload_n rfl 0 rfl ?_
      refine K_gR rfl sh_436 hM10 rfl rfl 20 rfl r_436_20 ?_
      refine K_bipush (v := 109) rfl (by decide) ?_
      refine K_iconst (v := 2) rfl (by decide) ?_
      refine K_iload rfl 4 rfl ?_
      refine K_imul rfl ?_
      refine K_iadd rfl ?_
      refine K_iconst (v := 1) rfl (by decide) ?_
      refine K_iadd rfl ?_
      refine K_iload_n rfl 2 rfl ?_
      obtain ⟨M11, eM11, h⟩ := Option.bind_eq_some_iff.mp h
      refine K_wr rfl sh_446 hM10 eM11 (fun hM11 => ?_)
      refine K_aload_n rfl 0 rfl ?_
      refine K_gR rfl sh_436 hM11 rfl rfl 20 rfl r_436_20 ?_
      refine K_iconst (v := 2) rfl (by decide) ?_
      refine K_dup2 rfl ⟨rfl, rfl⟩ ?_
      obtain ⟨v12, ev12, h⟩ := Option.bind_eq_some_iff.mp h
      refine K_rd rfl sh_446 hM11 ev12 ?_
      refine K_iconst (v := 1) rfl (by decide) ?_
      refine K_iadd rfl ?_
      obtain ⟨M13, eM13, h⟩ := Option.bind_eq_some_iff.mp h
      refine K_wr rfl sh_446 hM11 eM13 (fun hM13 => ?_)
      obtain rfl := Option.some.inj h
      exact K_vret rfl rfl ⟨rfl, rfl, hM13⟩
    · rw [if_neg c2] at h
      refine K_aload_n rfl 0 rfl ?_
      refine K_gR rfl sh_436 hM rfl rfl 20 rfl r_436_20 ?_
      refine K_iload rfl 5 rfl ?_
      refine K_iload rfl 6 rfl ?_
      refine K_iadd rfl ?_
      refine K_iconst (v := 0) rfl (by decide) ?_
      obtain ⟨M14, eM14, h⟩ := Option.bind_eq_some_iff.mp h
      refine K_wr rfl sh_446 hM eM14 (fun hM14 => ?_)
      refine K_iinc (y := (l6 + 1)) rfl 6 rfl rfl ?_
      refine K_goto rfl ?_
      refine K_pick [1, 2, 3, 4, 5, 6, 0] ?_
      exact L_Model_digs_21    n _ _ _ _ hM14  h
set_option maxRecDepth 20000 in
theorem F_Model_digs {X : mX} {x1 : Int32} {x2 : Int32} {x3 : Int32} {M : mM} {r : mM} (hM : Fx M)  (h : f_Model_digs x1 x2 x3 M = some r) : EV X (0 + 1) 214 [.ref 436, .int x1, .int x2, .int x3] M (fun v M' => v = none ∧ r = M' ∧ Fx r) := by
    refine EV_of (lc := [(0, .ref 436), (1, .int x1), (2, .int x2), (3, .int x3)]) (Nat.le_of_ble_eq_true rfl) (by exact Nat.le_of_ble_eq_true rfl) (by exact List.forall_mem_cons.mpr ⟨rfl, List.forall_mem_cons.mpr ⟨rfl, List.forall_mem_cons.mpr ⟨rfl, List.forall_mem_cons.mpr ⟨rfl, fun _ h => absurd h List.not_mem_nil⟩⟩⟩⟩) ?_
    unfold f_Model_digs at h
    refine K_aload_n rfl 0 rfl ?_
    refine K_gR rfl sh_436 hM rfl rfl 20 rfl r_436_20 ?_
    refine K_iconst (v := 2) rfl (by decide) ?_
    obtain ⟨v1, ev1, h⟩ := Option.bind_eq_some_iff.mp h
    refine K_rd rfl sh_446 hM ev1 ?_
    refine K_istore rfl ?_
    refine K_bipush (v := 10) rfl (by decide) ?_
    refine K_bipush (v := 9) rfl (by decide) ?_
    refine K_iload rfl 0 rfl ?_
    refine K_imul rfl ?_
    refine K_iadd rfl ?_
    refine K_istore rfl ?_
    refine K_iconst (v := 0) rfl (by decide) ?_
    refine K_istore rfl ?_
    refine K_pick [3, 4, 5, 6, 2, 1, 0] ?_
    exact L_Model_digs_21    FUEL _ _ _ _ hM  h
set_option maxRecDepth 20000 in
theorem F_Model_dig {X : mX} {x1 : Int32} {x2 : Int32} {x3 : Int32} {M : mM} {r : Int32 × mM} (hM : Fx M)  (h : f_Model_dig x1 x2 x3 M = some r) : EV X (2 + 1) 213 [.ref 436, .int x1, .int x2, .int x3] M (fun v M' => v = some (.int r.1) ∧ r.2 = M' ∧ Fx r.2) := by
    refine EV_of (lc := [(0, .ref 436), (1, .int x1), (2, .int x2), (3, .int x3)]) (Nat.le_of_ble_eq_true rfl) (by exact Nat.le_of_ble_eq_true rfl) (by exact List.forall_mem_cons.mpr ⟨rfl, List.forall_mem_cons.mpr ⟨rfl, List.forall_mem_cons.mpr ⟨rfl, List.forall_mem_cons.mpr ⟨rfl, fun _ h => absurd h List.not_mem_nil⟩⟩⟩⟩) ?_
    unfold f_Model_dig at h
    refine K_aload_n rfl 0 rfl ?_
    refine K_iload_n rfl 1 rfl ?_
    refine K_iload_n rfl 2 rfl ?_
    obtain ⟨r1, er1, h⟩ := Option.bind_eq_some_iff.mp h
    refine K_cV [.int x1, .int x2] [] rfl rfl (Nat.le_of_ble_eq_true rfl) (Nat.le_of_ble_eq_true rfl) sh_436 hM rfl (EV_le (Nat.le_of_ble_eq_true rfl) (F_Model_isPlace hM  er1)) (fun v' M' hq => ?_)
    obtain ⟨rfl, rfl, hr1⟩ := hq
    refine K_if_eq rfl (fun c2 => ?_) (fun c2 => ?_)
    · rw [if_pos c2] at h
      refine K_iconst (v := (-1)) rfl (by decide) ?_
      obtain rfl := Option.some.inj h
      exact K_iret rfl (Or.inl rfl) ⟨rfl, rfl, hr1⟩
    · rw [if_neg c2] at h
      refine K_iload_n rfl 3 rfl ?_
      refine K_i2l rfl ?_
      refine K_lconst (v := 0) rfl (by decide) ?_
      refine K_ldc2 (v := 3) rfl (by decide) ?_
      obtain ⟨r3, er3, h⟩ := Option.bind_eq_some_iff.mp h
      refine K_callS [.long (Int32.toInt64 x3), .long 0, .long 3] [] rfl rfl (Nat.le_of_ble_eq_true rfl) (Nat.le_of_ble_eq_true rfl) (EV_le (Nat.le_of_ble_eq_true rfl) (F_Model_in hr1  er3)) (fun v' M' hq => ?_)
      obtain ⟨rfl, rfl, hr3⟩ := hq
      refine K_if_eq rfl (fun c4 => ?_) (fun c4 => ?_)
      · rw [if_pos c4] at h
        refine K_iconst (v := (-1)) rfl (by decide) ?_
        obtain rfl := Option.some.inj h
        exact K_iret rfl (Or.inl rfl) ⟨rfl, rfl, hr3⟩
      · rw [if_neg c4] at h
        refine K_aload_n rfl 0 rfl ?_
        refine K_iload_n rfl 1 rfl ?_
        refine K_iload_n rfl 2 rfl ?_
        obtain ⟨r5, er5, h⟩ := Option.bind_eq_some_iff.mp h
        refine K_cV [.int x1, .int x2] [] rfl rfl (Nat.le_of_ble_eq_true rfl) (Nat.le_of_ble_eq_true rfl) sh_436 hr3 rfl (EV_le (Nat.le_of_ble_eq_true rfl) (F_Model_graveAt hr3  er5)) (fun v' M' hq => ?_)
        obtain ⟨rfl, rfl, hr5⟩ := hq
        refine K_if_ge rfl (fun c6 => ?_) (fun c6 => ?_)
        · rw [if_pos c6] at h
          refine K_iconst (v := (-1)) rfl (by decide) ?_
          obtain rfl := Option.some.inj h
          exact K_iret rfl (Or.inl rfl) ⟨rfl, rfl, hr5⟩
        · rw [if_neg c6] at h
          refine K_aload_n rfl 0 rfl ?_
          refine K_gR rfl sh_436 hr5 rfl rfl 20 rfl r_436_20 ?_
          refine K_iconst (v := 2) rfl (by decide) ?_
          obtain ⟨v7, ev7, h⟩ := Option.bind_eq_some_iff.mp h
          refine K_rd rfl sh_446 hr5 ev7 ?_
          refine K_bipush (v := 10) rfl (by decide) ?_
          refine K_ic_ne rfl (fun c8 => ?_) (fun c8 => ?_)
          · rw [if_neg c8] at h
            refine K_aload_n rfl 0 rfl ?_
            obtain ⟨M9, eM9, h⟩ := Option.bind_eq_some_iff.mp h
            refine K_cV [] [] rfl rfl (Nat.le_of_ble_eq_true rfl) (Nat.le_of_ble_eq_true rfl) sh_436 hr5 rfl (EV_le (Nat.le_of_ble_eq_true rfl) (F_Model_keepsAct hr5  eM9)) (fun v' M' hq => ?_)
            obtain ⟨rfl, rfl, hM9⟩ := hq
            refine K_aload_n rfl 0 rfl ?_
            refine K_iload_n rfl 1 rfl ?_
            refine K_iload_n rfl 2 rfl ?_
            refine K_iload_n rfl 3 rfl ?_
            obtain ⟨M10, eM10, h⟩ := Option.bind_eq_some_iff.mp h
            refine K_cV [.int x1, .int x2, .int x3] [] rfl rfl (Nat.le_of_ble_eq_true rfl) (Nat.le_of_ble_eq_true rfl) sh_436 hM9 rfl (EV_le (Nat.le_of_ble_eq_true rfl) (F_Model_digs hM9  eM10)) (fun v' M' hq => ?_)
            obtain ⟨rfl, rfl, hM10⟩ := hq
            refine K_aload_n rfl 0 rfl ?_
            refine K_gR rfl sh_436 hM10 rfl rfl 20 rfl r_436_20 ?_
            refine K_iconst (v := 2) rfl (by decide) ?_
            obtain ⟨v11, ev11, h⟩ := Option.bind_eq_some_iff.mp h
            refine K_rd rfl sh_446 hM10 ev11 ?_
            refine K_iconst (v := 1) rfl (by decide) ?_
            refine K_isub rfl ?_
            obtain rfl := Option.some.inj h
            exact K_iret rfl (Or.inl rfl) ⟨rfl, rfl, hM10⟩
          · rw [if_pos c8] at h
            refine K_iconst (v := (-1)) rfl (by decide) ?_
            obtain rfl := Option.some.inj h
            exact K_iret rfl (Or.inl rfl) ⟨rfl, rfl, hr5⟩
set_option maxRecDepth 20000 in
theorem F_Model_pay {X : mX} {x1 : Int32} {M : mM} {r : Int32 × mM} (hM : Fx M)  (h : f_Model_pay x1 M = some r) : EV X (2 + 1) 215 [.ref 436, .int x1] M (fun v M' => v = some (.int r.1) ∧ r.2 = M' ∧ Fx r.2) := by
    refine EV_of (lc := [(0, .ref 436), (1, .int x1)]) (Nat.le_of_ble_eq_true rfl) (by exact Nat.le_of_ble_eq_true rfl) (by exact List.forall_mem_cons.mpr ⟨rfl, List.forall_mem_cons.mpr ⟨rfl, fun _ h => absurd h List.not_mem_nil⟩⟩) ?_
    unfold f_Model_pay at h
    refine K_aload_n rfl 0 rfl ?_
    refine K_iload_n rfl 1 rfl ?_
    obtain ⟨r1, er1, h⟩ := Option.bind_eq_some_iff.mp h
    refine K_cV [.int x1] [] rfl rfl (Nat.le_of_ble_eq_true rfl) (Nat.le_of_ble_eq_true rfl) sh_436 hM rfl (EV_le (Nat.le_of_ble_eq_true rfl) (F_Model_isGrave hM  er1)) (fun v' M' hq => ?_)
    obtain ⟨rfl, rfl, hr1⟩ := hq
    refine K_if_eq rfl (fun c2 => ?_) (fun c2 => ?_)
    · rw [if_pos c2] at h
      refine K_iconst (v := 0) rfl (by decide) ?_
      obtain rfl := Option.some.inj h
      exact K_iret rfl (Or.inr ⟨rfl, by decide⟩) ⟨rfl, rfl, hr1⟩
    · rw [if_neg c2] at h
      refine K_aload_n rfl 0 rfl ?_
      refine K_iload_n rfl 1 rfl ?_
      obtain ⟨r3, er3, h⟩ := Option.bind_eq_some_iff.mp h
      refine K_cV [.int x1] [] rfl rfl (Nat.le_of_ble_eq_true rfl) (Nat.le_of_ble_eq_true rfl) sh_436 hr1 rfl (EV_le (Nat.le_of_ble_eq_true rfl) (F_Model_isFallen hr1  er3)) (fun v' M' hq => ?_)
      obtain ⟨rfl, rfl, hr3⟩ := hq
      refine K_if_ne rfl (fun c4 => ?_) (fun c4 => ?_)
      · rw [if_neg c4] at h
        refine K_iconst (v := 0) rfl (by decide) ?_
        obtain rfl := Option.some.inj h
        exact K_iret rfl (Or.inr ⟨rfl, by decide⟩) ⟨rfl, rfl, hr3⟩
      · rw [if_pos c4] at h
        refine K_aload_n rfl 0 rfl ?_
        refine K_iload_n rfl 1 rfl ?_
        refine K_iconst (v := 2) rfl (by decide) ?_
        obtain ⟨r5, er5, h⟩ := Option.bind_eq_some_iff.mp h
        refine K_cV [.int x1, .int 2] [] rfl rfl (Nat.le_of_ble_eq_true rfl) (Nat.le_of_ble_eq_true rfl) sh_436 hr3 rfl (EV_le (Nat.le_of_ble_eq_true rfl) (F_Model_graveOf hr3  er5)) (fun v' M' hq => ?_)
        obtain ⟨rfl, rfl, hr5⟩ := hq
        refine K_iconst (v := 2) rfl (by decide) ?_
        refine K_ic_eq rfl (fun c6 => ?_) (fun c6 => ?_)
        · rw [if_pos c6] at h
          refine K_aload_n rfl 0 rfl ?_
          obtain ⟨M7, eM7, h⟩ := Option.bind_eq_some_iff.mp h
          refine K_cV [] [] rfl rfl (Nat.le_of_ble_eq_true rfl) (Nat.le_of_ble_eq_true rfl) sh_436 hr5 rfl (EV_le (Nat.le_of_ble_eq_true rfl) (F_Model_keepsAct hr5  eM7)) (fun v' M' hq => ?_)
          obtain ⟨rfl, rfl, hM7⟩ := hq
          refine K_aload_n rfl 0 rfl ?_
          refine K_gR rfl sh_436 hM7 rfl rfl 20 rfl r_436_20 ?_
          refine K_bipush (v := 10) rfl (by decide) ?_
          refine K_bipush (v := 9) rfl (by decide) ?_
          refine K_iload_n rfl 1 rfl ?_
          refine K_imul rfl ?_
          refine K_iadd rfl ?_
          refine K_iconst (v := 2) rfl (by decide) ?_
          refine K_iadd rfl ?_
          refine K_iconst (v := 0) rfl (by decide) ?_
          obtain ⟨M8, eM8, h⟩ := Option.bind_eq_some_iff.mp h
          refine K_wr rfl sh_446 hM7 eM8 (fun hM8 => ?_)
          refine K_iconst (v := 1) rfl (by decide) ?_
          obtain rfl := Option.some.inj h
          exact K_iret rfl (Or.inr ⟨rfl, by decide⟩) ⟨rfl, rfl, hM8⟩
        · rw [if_neg c6] at h
          refine K_iconst (v := 0) rfl (by decide) ?_
          obtain rfl := Option.some.inj h
          exact K_iret rfl (Or.inr ⟨rfl, by decide⟩) ⟨rfl, rfl, hr5⟩
set_option maxRecDepth 20000 in
theorem L_Model_freezes_121 {X : mX} {x1 : Int32} {x2 : Int32} {k8 : Int32 → Int32 → Int32 → mM → Option (Int32 × mM)} {r : Int32 × mM}  (hk8 : ∀ (l3 : Int32) (l4 : Int32) (l5 : Int32) (M : mM), Fx M → k8 l3 l4 l5 M = some r → KK X 2 217 8 [(0, .ref 436), (1, .int x1), (2, .int x2), (3, .int l3), (4, .int l4), (5, .int l5)] [] M (fun v M' => v = some (.int r.1) ∧ r.2 = M' ∧ Fx r.2)) (l3 : Int32) (l4 : Int32) (l5 : Int32) (M : mM) (hM : Fx M)  (h : f_Model_freezes_121 x1 x2 k8 l3 l4 l5 M = some r) : KK X 2 217 121 [(0, .ref 436), (1, .int x1), (2, .int x2), (3, .int l3), (4, .int l4), (5, .int l5)] [] M (fun v M' => v = some (.int r.1) ∧ r.2 = M' ∧ Fx r.2) := by
    unfold f_Model_freezes_121 at h
    refine K_iinc (y := (l5 + 1)) rfl 5 rfl rfl ?_
    refine K_goto rfl ?_
    refine K_pick [1, 2, 3, 4, 5, 0] ?_
    exact hk8 _ _ _ _ hM  h
set_option maxRecDepth 20000 in
theorem L_Model_freezes_119 {X : mX} {x1 : Int32} {x2 : Int32} {k8 : Int32 → Int32 → Int32 → mM → Option (Int32 × mM)} {r : Int32 × mM}  (hk8 : ∀ (l3 : Int32) (l4 : Int32) (l5 : Int32) (M : mM), Fx M → k8 l3 l4 l5 M = some r → KK X 2 217 8 [(0, .ref 436), (1, .int x1), (2, .int x2), (3, .int l3), (4, .int l4), (5, .int l5)] [] M (fun v M' => v = some (.int r.1) ∧ r.2 = M' ∧ Fx r.2)) (l3 : Int32) (l5 : Int32) (s0 : Int32) (M : mM) (hM : Fx M)  (h : f_Model_freezes_119 x1 x2 k8 l3 l5 s0 M = some r) : KK X 2 217 119 [(0, .ref 436), (1, .int x1), (2, .int x2), (3, .int l3), (5, .int l5)] [.int s0] M (fun v M' => v = some (.int r.1) ∧ r.2 = M' ∧ Fx r.2) := by
    unfold f_Model_freezes_119 at h
    refine K_istore rfl ?_
    refine K_pick [1, 2, 3, 4, 0, 5] ?_
    exact L_Model_freezes_121   hk8 _ _ _ _ hM  h
set_option maxRecDepth 20000 in
theorem L_Model_freezes_103 {X : mX} {x1 : Int32} {x2 : Int32} {k8 : Int32 → Int32 → Int32 → mM → Option (Int32 × mM)} {r : Int32 × mM}  (hk8 : ∀ (l3 : Int32) (l4 : Int32) (l5 : Int32) (M : mM), Fx M → k8 l3 l4 l5 M = some r → KK X 2 217 8 [(0, .ref 436), (1, .int x1), (2, .int x2), (3, .int l3), (4, .int l4), (5, .int l5)] [] M (fun v M' => v = some (.int r.1) ∧ r.2 = M' ∧ Fx r.2)) (l3 : Int32) (l4 : Int32) (l5 : Int32) (l7 : Int32) (M : mM) (hM : Fx M)  (h : f_Model_freezes_103 x1 x2 k8 l3 l4 l5 l7 M = some r) : KK X 2 217 103 [(0, .ref 436), (1, .int x1), (2, .int x2), (3, .int l3), (4, .int l4), (5, .int l5), (7, .int l7)] [] M (fun v M' => v = some (.int r.1) ∧ r.2 = M' ∧ Fx r.2) := by
    unfold f_Model_freezes_103 at h
    refine K_iload rfl 6 rfl ?_
    refine K_if_eq rfl (fun c9 => ?_) (fun c9 => ?_)
    · rw [if_pos c9] at h
      refine K_iload rfl 5 rfl ?_
      refine K_iconst (v := 1) rfl (by decide) ?_
      refine K_iadd rfl ?_
      refine K_pick [0, 1, 2, 3, 5] ?_
      exact L_Model_freezes_119   hk8 _ _ _ _ hM  h
    · rw [if_neg c9] at h
      refine K_iload rfl 4 rfl ?_
      refine K_iconst (v := 1) rfl (by decide) ?_
      refine K_iadd rfl ?_
      refine K_goto rfl ?_
      refine K_pick [0, 1, 2, 3, 5] ?_
      exact L_Model_freezes_119   hk8 _ _ _ _ hM  h
set_option maxRecDepth 20000 in
theorem L_Model_freezes_82 {X : mX} {x1 : Int32} {x2 : Int32} {k8 : Int32 → Int32 → Int32 → mM → Option (Int32 × mM)} {r : Int32 × mM}  (hk8 : ∀ (l3 : Int32) (l4 : Int32) (l5 : Int32) (M : mM), Fx M → k8 l3 l4 l5 M = some r → KK X 2 217 8 [(0, .ref 436), (1, .int x1), (2, .int x2), (3, .int l3), (4, .int l4), (5, .int l5)] [] M (fun v M' => v = some (.int r.1) ∧ r.2 = M' ∧ Fx r.2)) (l4 : Int32) (l5 : Int32) (l6 : Int32) (l7 : Int32) (s0 : Int32) (s1 : Int32) (M : mM) (hM : Fx M)  (h : f_Model_freezes_82 x1 x2 k8 l4 l5 l6 l7 s0 s1 M = some r) : KK X 2 217 82 [(0, .ref 436), (1, .int x1), (2, .int x2), (4, .int l4), (5, .int l5), (6, .int l6), (7, .int l7)] [.int s1, .int s0] M (fun v M' => v = some (.int r.1) ∧ r.2 = M' ∧ Fx r.2) := by
    unfold f_Model_freezes_82 at h
    refine K_iadd rfl ?_
    refine K_istore_n rfl ?_
    refine K_iload rfl 7 rfl ?_
    refine K_if_eq rfl (fun c8 => ?_) (fun c8 => ?_)
    · rw [if_pos c8] at h
      refine K_pick [1, 2, 3, 0, 4, 5, 7] ?_
      exact L_Model_freezes_103   hk8 _ _ _ _ _ hM  h
    · rw [if_neg c8] at h
      refine K_iload_n rfl 3 rfl ?_
      refine K_if_eq rfl (fun c10 => ?_) (fun c10 => ?_)
      · rw [if_pos c10] at h
        refine K_pick [1, 2, 3, 0, 4, 5, 7] ?_
        exact L_Model_freezes_103   hk8 _ _ _ _ _ hM  h
      · rw [if_neg c10] at h
        refine K_aload_n rfl 1 rfl ?_
        refine K_iload rfl 6 rfl ?_
        refine K_iload_n rfl 2 rfl ?_
        refine K_iload rfl 4 rfl ?_
        obtain ⟨r11, er11, h⟩ := Option.bind_eq_some_iff.mp h
        refine K_cV [.int l6, .int x1, .int l4] [] rfl rfl (Nat.le_of_ble_eq_true rfl) (Nat.le_of_ble_eq_true rfl) sh_436 hM rfl (EV_le (Nat.le_of_ble_eq_true rfl) (F_Model_comesInto hM  er11)) (fun v' M' hq => ?_)
        obtain ⟨rfl, rfl, hr11⟩ := hq
        refine K_pop rfl rfl ?_
        refine K_pick [1, 2, 3, 0, 4, 5, 7] ?_
        exact L_Model_freezes_103   hk8 _ _ _ _ _ hr11  h
set_option maxRecDepth 20000 in
theorem L_Model_freezes_69 {X : mX} {x1 : Int32} {x2 : Int32} {k8 : Int32 → Int32 → Int32 → mM → Option (Int32 × mM)} {r : Int32 × mM}  (hk8 : ∀ (l3 : Int32) (l4 : Int32) (l5 : Int32) (M : mM), Fx M → k8 l3 l4 l5 M = some r → KK X 2 217 8 [(0, .ref 436), (1, .int x1), (2, .int x2), (3, .int l3), (4, .int l4), (5, .int l5)] [] M (fun v M' => v = some (.int r.1) ∧ r.2 = M' ∧ Fx r.2)) (l3 : Int32) (l4 : Int32) (l5 : Int32) (l6 : Int32) (s0 : Int32) (M : mM) (hM : Fx M)  (h : f_Model_freezes_69 x1 x2 k8 l3 l4 l5 l6 s0 M = some r) : KK X 2 217 69 [(0, .ref 436), (1, .int x1), (2, .int x2), (3, .int l3), (4, .int l4), (5, .int l5), (6, .int l6)] [.int s0] M (fun v M' => v = some (.int r.1) ∧ r.2 = M' ∧ Fx r.2) := by
    unfold f_Model_freezes_69 at h
    refine K_istore rfl ?_
    refine K_iload_n rfl 4 rfl ?_
    refine K_iload rfl 0 rfl ?_
    refine K_if_eq rfl (fun c7 => ?_) (fun c7 => ?_)
    · rw [if_pos c7] at h
      refine K_iconst (v := 0) rfl (by decide) ?_
      refine K_pick [1, 2, 3, 5, 6, 7, 0] ?_
      exact L_Model_freezes_82   hk8 _ _ _ _ _ _ _ hM  h
    · rw [if_neg c7] at h
      refine K_iconst (v := 1) rfl (by decide) ?_
      refine K_goto rfl ?_
      refine K_pick [1, 2, 3, 5, 6, 7, 0] ?_
      exact L_Model_freezes_82   hk8 _ _ _ _ _ _ _ hM  h
set_option maxRecDepth 20000 in
theorem L_Model_freezes_68 {X : mX} {x1 : Int32} {x2 : Int32} {k8 : Int32 → Int32 → Int32 → mM → Option (Int32 × mM)} {r : Int32 × mM}  (hk8 : ∀ (l3 : Int32) (l4 : Int32) (l5 : Int32) (M : mM), Fx M → k8 l3 l4 l5 M = some r → KK X 2 217 8 [(0, .ref 436), (1, .int x1), (2, .int x2), (3, .int l3), (4, .int l4), (5, .int l5)] [] M (fun v M' => v = some (.int r.1) ∧ r.2 = M' ∧ Fx r.2)) (l3 : Int32) (l4 : Int32) (l5 : Int32) (l6 : Int32) (M : mM) (hM : Fx M)  (h : f_Model_freezes_68 x1 x2 k8 l3 l4 l5 l6 M = some r) : KK X 2 217 68 [(0, .ref 436), (1, .int x1), (2, .int x2), (3, .int l3), (4, .int l4), (5, .int l5), (6, .int l6)] [] M (fun v M' => v = some (.int r.1) ∧ r.2 = M' ∧ Fx r.2) := by
    unfold f_Model_freezes_68 at h
    refine K_iconst (v := 0) rfl (by decide) ?_
    refine K_pick [0, 1, 2, 3, 4, 5, 6] ?_
    exact L_Model_freezes_69   hk8 _ _ _ _ _ _ hM  h
set_option maxRecDepth 20000 in
theorem L_Model_freezes_8 {X : mX} {x1 : Int32} {x2 : Int32} {r : Int32 × mM}  : ∀ (n : Nat) (l3 : Int32) (l4 : Int32) (l5 : Int32) (M : mM), Fx M → f_Model_freezes_8 x1 x2  n l3 l4 l5 M = some r → KK X 2 217 8 [(0, .ref 436), (1, .int x1), (2, .int x2), (3, .int l3), (4, .int l4), (5, .int l5)] [] M (fun v M' => v = some (.int r.1) ∧ r.2 = M' ∧ Fx r.2)
  | 0, _, _, _, _ => fun _ h => by cases h
  | n + 1, l3, l4, l5, M => fun hM h => by
    unfold f_Model_freezes_8 at h
    refine K_iload rfl 5 rfl ?_
    refine K_aload_n rfl 0 rfl ?_
    refine K_gR rfl sh_436 hM rfl rfl 20 rfl r_436_20 ?_
    refine K_iconst (v := 1) rfl (by decide) ?_
    obtain ⟨v1, ev1, h⟩ := Option.bind_eq_some_iff.mp h
    refine K_rd rfl sh_446 hM ev1 ?_
    refine K_ic_ge rfl (fun c2 => ?_) (fun c2 => ?_)
    · rw [if_pos c2] at h
      refine K_iload_n rfl 3 rfl ?_
      obtain rfl := Option.some.inj h
      exact K_iret rfl (Or.inl rfl) ⟨rfl, rfl, hM⟩
    · rw [if_neg c2] at h
      refine K_aload_n rfl 0 rfl ?_
      refine K_iload_n rfl 1 rfl ?_
      refine K_iload rfl 5 rfl ?_
      obtain ⟨r3, er3, h⟩ := Option.bind_eq_some_iff.mp h
      refine K_cV [.int x1, .int l5] [] rfl rfl (Nat.le_of_ble_eq_true rfl) (Nat.le_of_ble_eq_true rfl) sh_436 hM rfl (EV_le (Nat.le_of_ble_eq_true rfl) (F_Model_graveAt hM  er3)) (fun v' M' hq => ?_)
      obtain ⟨rfl, rfl, hr3⟩ := hq
      refine K_istore rfl ?_
      refine K_iload rfl 0 rfl ?_
      refine K_if_ge rfl (fun c4 => ?_) (fun c4 => ?_)
      · rw [if_pos c4] at h
        refine K_aload_n rfl 1 rfl ?_
        refine K_iload rfl 0 rfl ?_
        refine K_iconst (v := 2) rfl (by decide) ?_
        obtain ⟨r5, er5, h⟩ := Option.bind_eq_some_iff.mp h
        refine K_cV [.int r3.1, .int 2] [] rfl rfl (Nat.le_of_ble_eq_true rfl) (Nat.le_of_ble_eq_true rfl) sh_436 hr3 rfl (EV_le (Nat.le_of_ble_eq_true rfl) (F_Model_graveOf hr3  er5)) (fun v' M' hq => ?_)
        obtain ⟨rfl, rfl, hr5⟩ := hq
        refine K_iconst (v := 3) rfl (by decide) ?_
        refine K_ic_eq rfl (fun c6 => ?_) (fun c6 => ?_)
        · rw [if_pos c6] at h
          refine K_pick [1, 2, 3, 4, 5, 6, 0] ?_
          exact L_Model_freezes_68   (L_Model_freezes_8    n) _ _ _ _ _ hr5  h
        · rw [if_neg c6] at h
          refine K_aload_n rfl 1 rfl ?_
          refine K_iload rfl 0 rfl ?_
          refine K_iconst (v := 3) rfl (by decide) ?_
          obtain ⟨r12, er12, h⟩ := Option.bind_eq_some_iff.mp h
          refine K_cV [.int r3.1, .int 3] [] rfl rfl (Nat.le_of_ble_eq_true rfl) (Nat.le_of_ble_eq_true rfl) sh_436 hr5 rfl (EV_le (Nat.le_of_ble_eq_true rfl) (F_Model_graveOf hr5  er12)) (fun v' M' hq => ?_)
          obtain ⟨rfl, rfl, hr12⟩ := hq
          refine K_if_ne rfl (fun c13 => ?_) (fun c13 => ?_)
          · rw [if_neg c13] at h
            refine K_pick [1, 2, 3, 4, 5, 6, 0] ?_
            exact L_Model_freezes_68   (L_Model_freezes_8    n) _ _ _ _ _ hr12  h
          · rw [if_pos c13] at h
            refine K_iload rfl 5 rfl ?_
            refine K_iload rfl 6 rfl ?_
            refine K_ic_ge rfl (fun c14 => ?_) (fun c14 => ?_)
            · rw [if_pos c14] at h
              refine K_pick [1, 2, 3, 4, 5, 6, 0] ?_
              exact L_Model_freezes_68   (L_Model_freezes_8    n) _ _ _ _ _ hr12  h
            · rw [if_neg c14] at h
              refine K_iconst (v := 1) rfl (by decide) ?_
              refine K_goto rfl ?_
              refine K_pick [1, 2, 3, 4, 5, 6, 0] ?_
              exact L_Model_freezes_69   (L_Model_freezes_8    n) _ _ _ _ _ _ hr12  h
      · rw [if_neg c4] at h
        refine K_goto rfl ?_
        refine K_pick [1, 2, 3, 4, 5, 6] ?_
        exact L_Model_freezes_121   (L_Model_freezes_8    n) _ _ _ _ hr3  h
set_option maxRecDepth 20000 in
theorem F_Model_freezes {X : mX} {x1 : Int32} {x2 : Int32} {M : mM} {r : Int32 × mM} (hM : Fx M)  (h : f_Model_freezes x1 x2 M = some r) : EV X (2 + 1) 217 [.ref 436, .int x1, .int x2] M (fun v M' => v = some (.int r.1) ∧ r.2 = M' ∧ Fx r.2) := by
    refine EV_of (lc := [(0, .ref 436), (1, .int x1), (2, .int x2)]) (Nat.le_of_ble_eq_true rfl) (by exact Nat.le_of_ble_eq_true rfl) (by exact List.forall_mem_cons.mpr ⟨rfl, List.forall_mem_cons.mpr ⟨rfl, List.forall_mem_cons.mpr ⟨rfl, fun _ h => absurd h List.not_mem_nil⟩⟩⟩) ?_
    unfold f_Model_freezes at h
    refine K_iconst (v := 0) rfl (by decide) ?_
    refine K_istore_n rfl ?_
    refine K_iconst (v := 0) rfl (by decide) ?_
    refine K_istore rfl ?_
    refine K_iconst (v := 0) rfl (by decide) ?_
    refine K_istore rfl ?_
    refine K_pick [3, 4, 5, 2, 1, 0] ?_
    exact L_Model_freezes_8    FUEL _ _ _ _ hM  h
set_option maxRecDepth 20000 in
theorem F_Model_frost {X : mX} {x1 : Int32} {M : mM} {r : Int32 × mM} (hM : Fx M)  (h : f_Model_frost x1 M = some r) : EV X (3 + 1) 216 [.ref 436, .int x1] M (fun v M' => v = some (.int r.1) ∧ r.2 = M' ∧ Fx r.2) := by
    refine EV_of (lc := [(0, .ref 436), (1, .int x1)]) (Nat.le_of_ble_eq_true rfl) (by exact Nat.le_of_ble_eq_true rfl) (by exact List.forall_mem_cons.mpr ⟨rfl, List.forall_mem_cons.mpr ⟨rfl, fun _ h => absurd h List.not_mem_nil⟩⟩) ?_
    unfold f_Model_frost at h
    refine K_aload_n rfl 0 rfl ?_
    refine K_iload_n rfl 1 rfl ?_
    refine K_iconst (v := 0) rfl (by decide) ?_
    obtain ⟨r1, er1, h⟩ := Option.bind_eq_some_iff.mp h
    refine K_cV [.int x1, .int 0] [] rfl rfl (Nat.le_of_ble_eq_true rfl) (Nat.le_of_ble_eq_true rfl) sh_436 hM rfl (EV_le (Nat.le_of_ble_eq_true rfl) (F_Model_isPlace hM  er1)) (fun v' M' hq => ?_)
    obtain ⟨rfl, rfl, hr1⟩ := hq
    refine K_if_eq rfl (fun c2 => ?_) (fun c2 => ?_)
    · rw [if_pos c2] at h
      refine K_iconst (v := (-1)) rfl (by decide) ?_
      obtain rfl := Option.some.inj h
      exact K_iret rfl (Or.inl rfl) ⟨rfl, rfl, hr1⟩
    · rw [if_neg c2] at h
      refine K_aload_n rfl 0 rfl ?_
      refine K_iload_n rfl 1 rfl ?_
      refine K_iconst (v := 0) rfl (by decide) ?_
      obtain ⟨r3, er3, h⟩ := Option.bind_eq_some_iff.mp h
      refine K_cV [.int x1, .int 0] [] rfl rfl (Nat.le_of_ble_eq_true rfl) (Nat.le_of_ble_eq_true rfl) sh_436 hr1 rfl (EV_le (Nat.le_of_ble_eq_true rfl) (F_Model_freezes hr1  er3)) (fun v' M' hq => ?_)
      obtain ⟨rfl, rfl, hr3⟩ := hq
      refine K_if_ne rfl (fun c4 => ?_) (fun c4 => ?_)
      · rw [if_neg c4] at h
        refine K_aload_n rfl 0 rfl ?_
        obtain ⟨M5, eM5, h⟩ := Option.bind_eq_some_iff.mp h
        refine K_cV [] [] rfl rfl (Nat.le_of_ble_eq_true rfl) (Nat.le_of_ble_eq_true rfl) sh_436 hr3 rfl (EV_le (Nat.le_of_ble_eq_true rfl) (F_Model_keepsAct hr3  eM5)) (fun v' M' hq => ?_)
        obtain ⟨rfl, rfl, hM5⟩ := hq
        refine K_aload_n rfl 0 rfl ?_
        refine K_iload_n rfl 1 rfl ?_
        refine K_iconst (v := 1) rfl (by decide) ?_
        obtain ⟨r6, er6, h⟩ := Option.bind_eq_some_iff.mp h
        refine K_cV [.int x1, .int 1] [] rfl rfl (Nat.le_of_ble_eq_true rfl) (Nat.le_of_ble_eq_true rfl) sh_436 hM5 rfl (EV_le (Nat.le_of_ble_eq_true rfl) (F_Model_freezes hM5  er6)) (fun v' M' hq => ?_)
        obtain ⟨rfl, rfl, hr6⟩ := hq
        obtain rfl := Option.some.inj h
        exact K_iret rfl (Or.inl rfl) ⟨rfl, rfl, hr6⟩
      · rw [if_pos c4] at h
        refine K_iconst (v := (-1)) rfl (by decide) ?_
        obtain rfl := Option.some.inj h
        exact K_iret rfl (Or.inl rfl) ⟨rfl, rfl, hr3⟩
set_option maxRecDepth 20000 in
theorem L_Model_keeps_2 {X : mX}  {r : mM}  : ∀ (n : Nat) (l1 : Int32) (M : mM), Fx M → f_Model_keeps_2   n l1 M = some r → KK X 0 219 2 [(0, .ref 436), (1, .int l1)] [] M (fun v M' => v = none ∧ r = M' ∧ Fx r)
  | 0, _, _ => fun _ h => by cases h
  | n + 1, l1, M => fun hM h => by
    unfold f_Model_keeps_2 at h
    refine K_iload_n rfl 1 rfl ?_
    refine K_sipush (v := 131) rfl (by decide) ?_
    refine K_ic_ge rfl (fun c1 => ?_) (fun c1 => ?_)
    · rw [if_pos c1] at h
      obtain rfl := Option.some.inj h
      exact K_vret rfl rfl ⟨rfl, rfl, hM⟩
    · rw [if_neg c1] at h
      refine K_aload_n rfl 0 rfl ?_
      refine K_gR rfl sh_436 hM rfl rfl 31 rfl r_436_31 ?_
      refine K_iload_n rfl 1 rfl ?_
      refine K_aload_n rfl 0 rfl ?_
      refine K_gR rfl sh_436 hM rfl rfl 20 rfl r_436_20 ?_
      refine K_iload_n rfl 1 rfl ?_
      obtain ⟨v2, ev2, h⟩ := Option.bind_eq_some_iff.mp h
      refine K_rd rfl sh_446 hM ev2 ?_
      obtain ⟨M3, eM3, h⟩ := Option.bind_eq_some_iff.mp h
      refine K_wr rfl sh_450 hM eM3 (fun hM3 => ?_)
      refine K_iinc (y := (l1 + 1)) rfl 1 rfl rfl ?_
      refine K_goto rfl ?_
      refine K_pick [1, 0] ?_
      exact L_Model_keeps_2    n _ _ hM3  h
set_option maxRecDepth 20000 in
theorem F_Model_keeps {X : mX}  {M : mM} {r : mM} (hM : Fx M)  (h : f_Model_keeps  M = some r) : EV X (0 + 1) 219 [.ref 436] M (fun v M' => v = none ∧ r = M' ∧ Fx r) := by
    refine EV_of (lc := [(0, .ref 436)]) (Nat.le_of_ble_eq_true rfl) (by exact Nat.le_of_ble_eq_true rfl) (by exact List.forall_mem_cons.mpr ⟨rfl, fun _ h => absurd h List.not_mem_nil⟩) ?_
    unfold f_Model_keeps at h
    refine K_iconst (v := 0) rfl (by decide) ?_
    refine K_istore_n rfl ?_
    refine K_pick [1, 0] ?_
    exact L_Model_keeps_2    FUEL _ _ hM  h
set_option maxRecDepth 20000 in
theorem L_Model_laysBack_2 {X : mX}  {r : mM}  : ∀ (n : Nat) (l1 : Int32) (M : mM), Fx M → f_Model_laysBack_2   n l1 M = some r → KK X 0 220 2 [(0, .ref 436), (1, .int l1)] [] M (fun v M' => v = none ∧ r = M' ∧ Fx r)
  | 0, _, _ => fun _ h => by cases h
  | n + 1, l1, M => fun hM h => by
    unfold f_Model_laysBack_2 at h
    refine K_iload_n rfl 1 rfl ?_
    refine K_sipush (v := 131) rfl (by decide) ?_
    refine K_ic_ge rfl (fun c1 => ?_) (fun c1 => ?_)
    · rw [if_pos c1] at h
      obtain rfl := Option.some.inj h
      exact K_vret rfl rfl ⟨rfl, rfl, hM⟩
    · rw [if_neg c1] at h
      refine K_aload_n rfl 0 rfl ?_
      refine K_gR rfl sh_436 hM rfl rfl 20 rfl r_436_20 ?_
      refine K_iload_n rfl 1 rfl ?_
      refine K_aload_n rfl 0 rfl ?_
      refine K_gR rfl sh_436 hM rfl rfl 31 rfl r_436_31 ?_
      refine K_iload_n rfl 1 rfl ?_
      obtain ⟨v2, ev2, h⟩ := Option.bind_eq_some_iff.mp h
      refine K_rd rfl sh_450 hM ev2 ?_
      obtain ⟨M3, eM3, h⟩ := Option.bind_eq_some_iff.mp h
      refine K_wr rfl sh_446 hM eM3 (fun hM3 => ?_)
      refine K_iinc (y := (l1 + 1)) rfl 1 rfl rfl ?_
      refine K_goto rfl ?_
      refine K_pick [1, 0] ?_
      exact L_Model_laysBack_2    n _ _ hM3  h
set_option maxRecDepth 20000 in
theorem F_Model_laysBack {X : mX}  {M : mM} {r : mM} (hM : Fx M)  (h : f_Model_laysBack  M = some r) : EV X (0 + 1) 220 [.ref 436] M (fun v M' => v = none ∧ r = M' ∧ Fx r) := by
    refine EV_of (lc := [(0, .ref 436)]) (Nat.le_of_ble_eq_true rfl) (by exact Nat.le_of_ble_eq_true rfl) (by exact List.forall_mem_cons.mpr ⟨rfl, fun _ h => absurd h List.not_mem_nil⟩) ?_
    unfold f_Model_laysBack at h
    refine K_iconst (v := 0) rfl (by decide) ?_
    refine K_istore_n rfl ?_
    refine K_pick [1, 0] ?_
    exact L_Model_laysBack_2    FUEL _ _ hM  h
set_option maxRecDepth 20000 in
theorem L_Model_ahead_40 {X : mX} {x1 : Int32} {x2 : Int32} {x3 : Int32} {r : Int32 × mM}  : ∀ (n : Nat) (l4 : Int32) (M : mM), Fx M → f_Model_ahead_40 x1 x2 x3  n l4 M = some r → KK X 6 218 40 [(0, .ref 436), (1, .int x1), (2, .int x2), (3, .int x3), (4, .int l4)] [] M (fun v M' => v = some (.int r.1) ∧ r.2 = M' ∧ Fx r.2)
  | 0, _, _ => fun _ h => by cases h
  | n + 1, l4, M => fun hM h => by
    unfold f_Model_ahead_40 at h
    refine K_iload rfl 4 rfl ?_
    refine K_iload_n rfl 2 rfl ?_
    refine K_ic_ge rfl (fun c8 => ?_) (fun c8 => ?_)
    · rw [if_pos c8] at h
      refine K_aload_n rfl 0 rfl ?_
      refine K_iload_n rfl 1 rfl ?_
      refine K_iload_n rfl 3 rfl ?_
      obtain ⟨r9, er9, h⟩ := Option.bind_eq_some_iff.mp h
      refine K_cV [.int x1, .int x3] [] rfl rfl (Nat.le_of_ble_eq_true rfl) (Nat.le_of_ble_eq_true rfl) sh_436 hM rfl (EV_le (Nat.le_of_ble_eq_true rfl) (F_Model_graveOf hM  er9)) (fun v' M' hq => ?_)
      obtain ⟨rfl, rfl, hr9⟩ := hq
      refine K_istore rfl ?_
      refine K_aload_n rfl 1 rfl ?_
      obtain ⟨M10, eM10, h⟩ := Option.bind_eq_some_iff.mp h
      refine K_cV [] [] rfl rfl (Nat.le_of_ble_eq_true rfl) (Nat.le_of_ble_eq_true rfl) sh_436 hr9 rfl (EV_le (Nat.le_of_ble_eq_true rfl) (F_Model_laysBack hr9  eM10)) (fun v' M' hq => ?_)
      obtain ⟨rfl, rfl, hM10⟩ := hq
      refine K_iload rfl 0 rfl ?_
      obtain rfl := Option.some.inj h
      exact K_iret rfl (Or.inl rfl) ⟨rfl, rfl, hM10⟩
    · rw [if_neg c8] at h
      refine K_aload_n rfl 0 rfl ?_
      obtain ⟨r11, er11, h⟩ := Option.bind_eq_some_iff.mp h
      refine K_cV [] [] rfl rfl (Nat.le_of_ble_eq_true rfl) (Nat.le_of_ble_eq_true rfl) sh_436 hM rfl (EV_le (Nat.le_of_ble_eq_true rfl) (F_Model_passes hM  er11)) (fun v' M' hq => ?_)
      obtain ⟨rfl, rfl, hr11⟩ := hq
      refine K_pop rfl rfl ?_
      refine K_iinc (y := (l4 + 1)) rfl 4 rfl rfl ?_
      refine K_goto rfl ?_
      refine K_pick [1, 2, 3, 4, 0] ?_
      exact L_Model_ahead_40    n _ _ hr11  h
set_option maxRecDepth 20000 in
theorem F_Model_ahead {X : mX} {x1 : Int32} {x2 : Int32} {x3 : Int32} {M : mM} {r : Int32 × mM} (hM : Fx M)  (h : f_Model_ahead x1 x2 x3 M = some r) : EV X (6 + 1) 218 [.ref 436, .int x1, .int x2, .int x3] M (fun v M' => v = some (.int r.1) ∧ r.2 = M' ∧ Fx r.2) := by
    refine EV_of (lc := [(0, .ref 436), (1, .int x1), (2, .int x2), (3, .int x3)]) (Nat.le_of_ble_eq_true rfl) (by exact Nat.le_of_ble_eq_true rfl) (by exact List.forall_mem_cons.mpr ⟨rfl, List.forall_mem_cons.mpr ⟨rfl, List.forall_mem_cons.mpr ⟨rfl, List.forall_mem_cons.mpr ⟨rfl, fun _ h => absurd h List.not_mem_nil⟩⟩⟩⟩) ?_
    unfold f_Model_ahead at h
    refine K_aload_n rfl 0 rfl ?_
    refine K_iload_n rfl 1 rfl ?_
    obtain ⟨r1, er1, h⟩ := Option.bind_eq_some_iff.mp h
    refine K_cV [.int x1] [] rfl rfl (Nat.le_of_ble_eq_true rfl) (Nat.le_of_ble_eq_true rfl) sh_436 hM rfl (EV_le (Nat.le_of_ble_eq_true rfl) (F_Model_isGrave hM  er1)) (fun v' M' hq => ?_)
    obtain ⟨rfl, rfl, hr1⟩ := hq
    refine K_if_eq rfl (fun c2 => ?_) (fun c2 => ?_)
    · rw [if_pos c2] at h
      refine K_bipush (v := (-2)) rfl (by decide) ?_
      obtain rfl := Option.some.inj h
      exact K_iret rfl (Or.inl rfl) ⟨rfl, rfl, hr1⟩
    · rw [if_neg c2] at h
      refine K_iload_n rfl 2 rfl ?_
      refine K_i2l rfl ?_
      refine K_lconst (v := 0) rfl (by decide) ?_
      refine K_ldc2 (v := 200) rfl (by decide) ?_
      obtain ⟨r3, er3, h⟩ := Option.bind_eq_some_iff.mp h
      refine K_callS [.long (Int32.toInt64 x2), .long 0, .long 200] [] rfl rfl (Nat.le_of_ble_eq_true rfl) (Nat.le_of_ble_eq_true rfl) (EV_le (Nat.le_of_ble_eq_true rfl) (F_Model_in hr1  er3)) (fun v' M' hq => ?_)
      obtain ⟨rfl, rfl, hr3⟩ := hq
      refine K_if_eq rfl (fun c4 => ?_) (fun c4 => ?_)
      · rw [if_pos c4] at h
        refine K_bipush (v := (-2)) rfl (by decide) ?_
        obtain rfl := Option.some.inj h
        exact K_iret rfl (Or.inl rfl) ⟨rfl, rfl, hr3⟩
      · rw [if_neg c4] at h
        refine K_iload_n rfl 3 rfl ?_
        refine K_i2l rfl ?_
        refine K_lconst (v := 0) rfl (by decide) ?_
        refine K_lconst (v := 1) rfl (by decide) ?_
        obtain ⟨r5, er5, h⟩ := Option.bind_eq_some_iff.mp h
        refine K_callS [.long (Int32.toInt64 x3), .long 0, .long 1] [] rfl rfl (Nat.le_of_ble_eq_true rfl) (Nat.le_of_ble_eq_true rfl) (EV_le (Nat.le_of_ble_eq_true rfl) (F_Model_in hr3  er5)) (fun v' M' hq => ?_)
        obtain ⟨rfl, rfl, hr5⟩ := hq
        refine K_if_ne rfl (fun c6 => ?_) (fun c6 => ?_)
        · rw [if_neg c6] at h
          refine K_aload_n rfl 0 rfl ?_
          obtain ⟨M7, eM7, h⟩ := Option.bind_eq_some_iff.mp h
          refine K_cV [] [] rfl rfl (Nat.le_of_ble_eq_true rfl) (Nat.le_of_ble_eq_true rfl) sh_436 hr5 rfl (EV_le (Nat.le_of_ble_eq_true rfl) (F_Model_keeps hr5  eM7)) (fun v' M' hq => ?_)
          obtain ⟨rfl, rfl, hM7⟩ := hq
          refine K_iconst (v := 0) rfl (by decide) ?_
          refine K_istore rfl ?_
          refine K_pick [1, 2, 3, 4, 0] ?_
          exact L_Model_ahead_40    FUEL _ _ hM7  h
        · rw [if_pos c6] at h
          refine K_bipush (v := (-2)) rfl (by decide) ?_
          obtain rfl := Option.some.inj h
          exact K_iret rfl (Or.inl rfl) ⟨rfl, rfl, hr5⟩
