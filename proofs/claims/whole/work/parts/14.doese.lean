/-! ===== the small machine does what the printed functions say ===== -/
set_option maxRecDepth 20000 in
theorem F_Model_singleHere {X : mX}  {M : mM} {r : Int32 × mM} (hM : Fx M)  (h : f_Model_singleHere  M = some r) : EV X (2 + 1) 160 [.ref 436] M (fun v M' => v = some (.int r.1) ∧ r.2 = M' ∧ Fx r.2) := by
    refine EV_of (lc := [(0, .ref 436)]) (Nat.le_of_ble_eq_true rfl) (by exact Nat.le_of_ble_eq_true rfl) (by exact List.forall_mem_cons.mpr ⟨rfl, fun _ h => absurd h List.not_mem_nil⟩) ?_
    unfold f_Model_singleHere at h
    refine K_aload_n rfl 0 rfl ?_
    obtain ⟨r1, er1, h⟩ := Option.bind_eq_some_iff.mp h
    refine K_cV [] [] rfl rfl (Nat.le_of_ble_eq_true rfl) (Nat.le_of_ble_eq_true rfl) sh_436 hM rfl (EV_le (Nat.le_of_ble_eq_true rfl) (F_Model_see hM  er1)) (fun v' M' hq => ?_)
    obtain ⟨rfl, rfl, hr1⟩ := hq
    refine K_pop rfl rfl ?_
    refine K_aload_n rfl 0 rfl ?_
    refine K_gI rfl sh_436 hr1 rfl rfl 8 rfl ?_
    refine K_istore_n rfl ?_
    refine K_aload_n rfl 1 rfl ?_
    refine K_iconst (v := 0) rfl (by decide) ?_
    refine K_aload_n rfl 1 rfl ?_
    refine K_gR rfl sh_436 hr1 rfl rfl 7 rfl r_436_7 ?_
    refine K_iconst (v := 2) rfl (by decide) ?_
    obtain ⟨v2, ev2, h⟩ := Option.bind_eq_some_iff.mp h
    refine K_rd rfl sh_442 hr1 ev2 ?_
    refine K_iconst (v := 1) rfl (by decide) ?_
    refine K_isub rfl ?_
    obtain ⟨r3, er3, h⟩ := Option.bind_eq_some_iff.mp h
    refine K_cV [.int 0, .int (v2 - 1)] [] rfl rfl (Nat.le_of_ble_eq_true rfl) (Nat.le_of_ble_eq_true rfl) sh_436 hr1 rfl (EV_le (Nat.le_of_ble_eq_true rfl) (F_Model_numberHere hr1  er3)) (fun v' M' hq => ?_)
    obtain ⟨rfl, rfl, hr3⟩ := hq
    refine K_if_eq rfl (fun c4 => ?_) (fun c4 => ?_)
    · rw [if_pos c4] at h
      refine K_iconst (v := 0) rfl (by decide) ?_
      obtain rfl := Option.some.inj h
      exact K_iret rfl (Or.inr ⟨rfl, by decide⟩) ⟨rfl, rfl, hr3⟩
    · rw [if_neg c4] at h
      refine K_aload_n rfl 1 rfl ?_
      refine K_gR rfl sh_436 hr3 rfl rfl 7 rfl r_436_7 ?_
      refine K_bipush (v := 10) rfl (by decide) ?_
      refine K_bipush (v := 9) rfl (by decide) ?_
      refine K_aload_n rfl 1 rfl ?_
      refine K_gI rfl sh_436 hr3 rfl rfl 10 rfl ?_
      refine K_imul rfl ?_
      refine K_iadd rfl ?_
      refine K_bipush (v := 6) rfl (by decide) ?_
      refine K_iadd rfl ?_
      obtain ⟨v5, ev5, h⟩ := Option.bind_eq_some_iff.mp h
      refine K_rd rfl sh_442 hr3 ev5 ?_
      refine K_if_lt rfl (fun c6 => ?_) (fun c6 => ?_)
      · rw [if_pos c6] at h
        refine K_iconst (v := 1) rfl (by decide) ?_
        refine K_goto rfl ?_
        obtain rfl := Option.some.inj h
        exact K_iret rfl (Or.inr ⟨rfl, by decide⟩) ⟨rfl, rfl, hr3⟩
      · rw [if_neg c6] at h
        refine K_aload_n rfl 1 rfl ?_
        refine K_iconst (v := 1) rfl (by decide) ?_
        refine K_iload_n rfl 0 rfl ?_
        obtain ⟨r7, er7, h⟩ := Option.bind_eq_some_iff.mp h
        refine K_cV [.int 1, .int (r1.2.2.1 436 8)] [] rfl rfl (Nat.le_of_ble_eq_true rfl) (Nat.le_of_ble_eq_true rfl) sh_436 hr3 rfl (EV_le (Nat.le_of_ble_eq_true rfl) (F_Model_fails hr3  er7)) (fun v' M' hq => ?_)
        obtain ⟨rfl, rfl, hr7⟩ := hq
        refine K_if_eq rfl (fun c8 => ?_) (fun c8 => ?_)
        · rw [if_pos c8] at h
          refine K_iconst (v := 0) rfl (by decide) ?_
          obtain rfl := Option.some.inj h
          exact K_iret rfl (Or.inr ⟨rfl, by decide⟩) ⟨rfl, rfl, hr7⟩
        · rw [if_neg c8] at h
          refine K_iconst (v := 1) rfl (by decide) ?_
          refine K_goto rfl ?_
          obtain rfl := Option.some.inj h
          exact K_iret rfl (Or.inr ⟨rfl, by decide⟩) ⟨rfl, rfl, hr7⟩
set_option maxRecDepth 20000 in
theorem F_Model_isPairHere {X : mX}  {M : mM} {r : Int32 × mM} (hM : Fx M)  (h : f_Model_isPairHere  M = some r) : EV X (3 + 1) 159 [.ref 436] M (fun v M' => v = some (.int r.1) ∧ r.2 = M' ∧ Fx r.2) := by
    refine EV_of (lc := [(0, .ref 436)]) (Nat.le_of_ble_eq_true rfl) (by exact Nat.le_of_ble_eq_true rfl) (by exact List.forall_mem_cons.mpr ⟨rfl, fun _ h => absurd h List.not_mem_nil⟩) ?_
    unfold f_Model_isPairHere at h
    refine K_aload_n rfl 0 rfl ?_
    obtain ⟨M1, eM1, h⟩ := Option.bind_eq_some_iff.mp h
    refine K_cV [] [] rfl rfl (Nat.le_of_ble_eq_true rfl) (Nat.le_of_ble_eq_true rfl) sh_436 hM rfl (EV_le (Nat.le_of_ble_eq_true rfl) (F_Model_passWord hM  eM1)) (fun v' M' hq => ?_)
    obtain ⟨rfl, rfl, hM1⟩ := hq
    refine K_aload_n rfl 0 rfl ?_
    obtain ⟨r2, er2, h⟩ := Option.bind_eq_some_iff.mp h
    refine K_cV [] [] rfl rfl (Nat.le_of_ble_eq_true rfl) (Nat.le_of_ble_eq_true rfl) sh_436 hM1 rfl (EV_le (Nat.le_of_ble_eq_true rfl) (F_Model_singleHere hM1  er2)) (fun v' M' hq => ?_)
    obtain ⟨rfl, rfl, hr2⟩ := hq
    refine K_if_ne rfl (fun c3 => ?_) (fun c3 => ?_)
    · rw [if_neg c3] at h
      refine K_aload_n rfl 0 rfl ?_
      refine K_gI rfl sh_436 hr2 rfl rfl 10 rfl ?_
      refine K_istore_n rfl ?_
      refine K_aload_n rfl 1 rfl ?_
      obtain ⟨r4, er4, h⟩ := Option.bind_eq_some_iff.mp h
      refine K_cV [] [] rfl rfl (Nat.le_of_ble_eq_true rfl) (Nat.le_of_ble_eq_true rfl) sh_436 hr2 rfl (EV_le (Nat.le_of_ble_eq_true rfl) (F_Model_see hr2  er4)) (fun v' M' hq => ?_)
      obtain ⟨rfl, rfl, hr4⟩ := hq
      refine K_pop rfl rfl ?_
      refine K_aload_n rfl 1 rfl ?_
      refine K_gI rfl sh_436 hr4 rfl rfl 8 rfl ?_
      refine K_istore_n rfl ?_
      refine K_aload_n rfl 2 rfl ?_
      obtain ⟨r5, er5, h⟩ := Option.bind_eq_some_iff.mp h
      refine K_cV [] [] rfl rfl (Nat.le_of_ble_eq_true rfl) (Nat.le_of_ble_eq_true rfl) sh_436 hr4 rfl (EV_le (Nat.le_of_ble_eq_true rfl) (F_Model_singleHere hr4  er5)) (fun v' M' hq => ?_)
      obtain ⟨rfl, rfl, hr5⟩ := hq
      refine K_if_ne rfl (fun c6 => ?_) (fun c6 => ?_)
      · rw [if_neg c6] at h
        refine K_aload_n rfl 2 rfl ?_
        refine K_gI rfl sh_436 hr5 rfl rfl 10 rfl ?_
        refine K_iload_n rfl 1 rfl ?_
        refine K_ic_ne rfl (fun c7 => ?_) (fun c7 => ?_)
        · rw [if_neg c7] at h
          refine K_aload_n rfl 2 rfl ?_
          refine K_gR rfl sh_436 hr5 rfl rfl 7 rfl r_436_7 ?_
          refine K_bipush (v := 10) rfl (by decide) ?_
          refine K_bipush (v := 9) rfl (by decide) ?_
          refine K_iload_n rfl 1 rfl ?_
          refine K_imul rfl ?_
          refine K_iadd rfl ?_
          refine K_bipush (v := 6) rfl (by decide) ?_
          refine K_iadd rfl ?_
          refine K_aload_n rfl 2 rfl ?_
          refine K_gI rfl sh_436 hr5 rfl rfl 10 rfl ?_
          obtain ⟨M8, eM8, h⟩ := Option.bind_eq_some_iff.mp h
          refine K_wr rfl sh_442 hr5 eM8 (fun hM8 => ?_)
          refine K_aload_n rfl 2 rfl ?_
          refine K_gR rfl sh_436 hM8 rfl rfl 7 rfl r_436_7 ?_
          refine K_bipush (v := 10) rfl (by decide) ?_
          refine K_bipush (v := 9) rfl (by decide) ?_
          refine K_aload_n rfl 2 rfl ?_
          refine K_gI rfl sh_436 hM8 rfl rfl 10 rfl ?_
          refine K_imul rfl ?_
          refine K_iadd rfl ?_
          refine K_bipush (v := 6) rfl (by decide) ?_
          refine K_iadd rfl ?_
          refine K_iload_n rfl 1 rfl ?_
          obtain ⟨M9, eM9, h⟩ := Option.bind_eq_some_iff.mp h
          refine K_wr rfl sh_442 hM8 eM9 (fun hM9 => ?_)
          refine K_iconst (v := 1) rfl (by decide) ?_
          obtain rfl := Option.some.inj h
          exact K_iret rfl (Or.inr ⟨rfl, by decide⟩) ⟨rfl, rfl, hM9⟩
        · rw [if_pos c7] at h
          refine K_aload_n rfl 2 rfl ?_
          refine K_iconst (v := 1) rfl (by decide) ?_
          refine K_iload_n rfl 0 rfl ?_
          obtain ⟨r10, er10, h⟩ := Option.bind_eq_some_iff.mp h
          refine K_cV [.int 1, .int (r4.2.2.1 436 8)] [] rfl rfl (Nat.le_of_ble_eq_true rfl) (Nat.le_of_ble_eq_true rfl) sh_436 hr5 rfl (EV_le (Nat.le_of_ble_eq_true rfl) (F_Model_fails hr5  er10)) (fun v' M' hq => ?_)
          obtain ⟨rfl, rfl, hr10⟩ := hq
          split at h
          · rename_i c11
            obtain rfl := Option.some.inj h
            exact K_iret rfl (Or.inr ⟨rfl, c11⟩) ⟨rfl, rfl, hr10⟩
          · cases h
      · rw [if_pos c6] at h
        refine K_iconst (v := 0) rfl (by decide) ?_
        obtain rfl := Option.some.inj h
        exact K_iret rfl (Or.inr ⟨rfl, by decide⟩) ⟨rfl, rfl, hr5⟩
    · rw [if_pos c3] at h
      refine K_iconst (v := 0) rfl (by decide) ?_
      obtain rfl := Option.some.inj h
      exact K_iret rfl (Or.inr ⟨rfl, by decide⟩) ⟨rfl, rfl, hr2⟩
set_option maxRecDepth 20000 in
theorem L_Model_isRootHere_154 {X : mX} {x1 : Int32} {k88 : Int32 → Int32 → Int32 → mM → Option (Int32 × mM)} {r : Int32 × mM}  (hk88 : ∀ (l2 : Int32) (l3 : Int32) (l4 : Int32) (M : mM), Fx M → k88 l2 l3 l4 M = some r → KK X 3 161 88 [(0, .ref 436), (2, .int l2), (3, .int l3), (4, .int l4)] [] M (fun v M' => v = some (.int r.1) ∧ r.2 = M' ∧ Fx r.2)) (l2 : Int32) (l3 : Int32) (l4 : Int32) (M : mM) (hM : Fx M)  (h : f_Model_isRootHere_154 x1 k88 l2 l3 l4 M = some r) : KK X 3 161 154 [(0, .ref 436), (2, .int l2), (3, .int l3), (4, .int l4)] [] M (fun v M' => v = some (.int r.1) ∧ r.2 = M' ∧ Fx r.2) := by
    unfold f_Model_isRootHere_154 at h
    refine K_iinc (y := (l4 + 1)) rfl 3 rfl rfl ?_
    refine K_goto rfl ?_
    refine K_pick [1, 2, 3, 0] ?_
    exact hk88 _ _ _ _ hM  h
set_option maxRecDepth 20000 in
theorem L_Model_isRootHere_88 {X : mX} {x1 : Int32} {r : Int32 × mM}  : ∀ (n : Nat) (l2 : Int32) (l3 : Int32) (l4 : Int32) (M : mM), Fx M → f_Model_isRootHere_88 x1  n l2 l3 l4 M = some r → KK X 3 161 88 [(0, .ref 436), (2, .int l2), (3, .int l3), (4, .int l4)] [] M (fun v M' => v = some (.int r.1) ∧ r.2 = M' ∧ Fx r.2)
  | 0, _, _, _, _ => fun _ h => by cases h
  | n + 1, l2, l3, l4, M => fun hM h => by
    unfold f_Model_isRootHere_88 at h
    refine K_iload rfl 3 rfl ?_
    refine K_aload_n rfl 0 rfl ?_
    refine K_gR rfl sh_436 hM rfl rfl 7 rfl r_436_7 ?_
    refine K_iconst (v := 5) rfl (by decide) ?_
    obtain ⟨v12, ev12, h⟩ := Option.bind_eq_some_iff.mp h
    refine K_rd rfl sh_442 hM ev12 ?_
    refine K_ic_ge rfl (fun c13 => ?_) (fun c13 => ?_)
    · rw [if_pos c13] at h
      refine K_aload_n rfl 0 rfl ?_
      refine K_iload_n rfl 1 rfl ?_
      refine K_iconst (v := 2) rfl (by decide) ?_
      refine K_iadd rfl ?_
      refine K_iconst (v := 1) rfl (by decide) ?_
      refine K_bipush (v := 9) rfl (by decide) ?_
      obtain ⟨r14, er14, h⟩ := Option.bind_eq_some_iff.mp h
      refine K_cV [.int (l2 + 2), .int 1, .int 9] [] rfl rfl (Nat.le_of_ble_eq_true rfl) (Nat.le_of_ble_eq_true rfl) sh_436 hM rfl (EV_le (Nat.le_of_ble_eq_true rfl) (F_Model_cellHere hM  er14)) (fun v' M' hq => ?_)
      obtain ⟨rfl, rfl, hr14⟩ := hq
      refine K_if_ne rfl (fun c15 => ?_) (fun c15 => ?_)
      · rw [if_neg c15] at h
        refine K_aload_n rfl 0 rfl ?_
        refine K_gR rfl sh_436 hr14 rfl rfl 7 rfl r_436_7 ?_
        refine K_iconst (v := 5) rfl (by decide) ?_
        refine K_dup2 rfl ⟨rfl, rfl⟩ ?_
        obtain ⟨v16, ev16, h⟩ := Option.bind_eq_some_iff.mp h
        refine K_rd rfl sh_442 hr14 ev16 ?_
        refine K_iconst (v := 1) rfl (by decide) ?_
        refine K_iadd rfl ?_
        obtain ⟨M17, eM17, h⟩ := Option.bind_eq_some_iff.mp h
        refine K_wr rfl sh_442 hr14 eM17 (fun hM17 => ?_)
        refine K_iconst (v := 1) rfl (by decide) ?_
        obtain rfl := Option.some.inj h
        exact K_iret rfl (Or.inr ⟨rfl, by decide⟩) ⟨rfl, rfl, hM17⟩
      · rw [if_pos c15] at h
        refine K_iconst (v := 0) rfl (by decide) ?_
        obtain rfl := Option.some.inj h
        exact K_iret rfl (Or.inr ⟨rfl, by decide⟩) ⟨rfl, rfl, hr14⟩
    · rw [if_neg c13] at h
      refine K_aload_n rfl 0 rfl ?_
      refine K_gR rfl sh_436 hM rfl rfl 7 rfl r_436_7 ?_
      refine K_sipush (v := 131) rfl (by decide) ?_
      refine K_iconst (v := 3) rfl (by decide) ?_
      refine K_iload rfl 3 rfl ?_
      refine K_imul rfl ?_
      refine K_iadd rfl ?_
      obtain ⟨v18, ev18, h⟩ := Option.bind_eq_some_iff.mp h
      refine K_rd rfl sh_442 hM ev18 ?_
      refine K_aload_n rfl 0 rfl ?_
      refine K_gR rfl sh_436 hM rfl rfl 7 rfl r_436_7 ?_
      refine K_iload_n rfl 1 rfl ?_
      obtain ⟨v19, ev19, h⟩ := Option.bind_eq_some_iff.mp h
      refine K_rd rfl sh_442 hM ev19 ?_
      refine K_ic_ne rfl (fun c20 => ?_) (fun c20 => ?_)
      · rw [if_neg c20] at h
        refine K_pick [0, 1, 2, 3] ?_
        exact L_Model_isRootHere_154   (L_Model_isRootHere_88    n) _ _ _ _ hM  h
      · rw [if_pos c20] at h
        refine K_aload_n rfl 0 rfl ?_
        refine K_gR rfl sh_436 hM rfl rfl 7 rfl r_436_7 ?_
        refine K_sipush (v := 131) rfl (by decide) ?_
        refine K_iconst (v := 3) rfl (by decide) ?_
        refine K_iload rfl 3 rfl ?_
        refine K_imul rfl ?_
        refine K_iadd rfl ?_
        refine K_iconst (v := 1) rfl (by decide) ?_
        refine K_iadd rfl ?_
        obtain ⟨v21, ev21, h⟩ := Option.bind_eq_some_iff.mp h
        refine K_rd rfl sh_442 hM ev21 ?_
        refine K_aload_n rfl 0 rfl ?_
        refine K_gR rfl sh_436 hM rfl rfl 7 rfl r_436_7 ?_
        refine K_iload_n rfl 1 rfl ?_
        refine K_iconst (v := 1) rfl (by decide) ?_
        refine K_iadd rfl ?_
        obtain ⟨v22, ev22, h⟩ := Option.bind_eq_some_iff.mp h
        refine K_rd rfl sh_442 hM ev22 ?_
        refine K_ic_ne rfl (fun c23 => ?_) (fun c23 => ?_)
        · rw [if_neg c23] at h
          refine K_pick [0, 1, 2, 3] ?_
          exact L_Model_isRootHere_154   (L_Model_isRootHere_88    n) _ _ _ _ hM  h
        · rw [if_pos c23] at h
          refine K_aload_n rfl 0 rfl ?_
          refine K_iconst (v := 1) rfl (by decide) ?_
          refine K_iload_n rfl 2 rfl ?_
          obtain ⟨r24, er24, h⟩ := Option.bind_eq_some_iff.mp h
          refine K_cV [.int 1, .int l3] [] rfl rfl (Nat.le_of_ble_eq_true rfl) (Nat.le_of_ble_eq_true rfl) sh_436 hM rfl (EV_le (Nat.le_of_ble_eq_true rfl) (F_Model_fails hM  er24)) (fun v' M' hq => ?_)
          obtain ⟨rfl, rfl, hr24⟩ := hq
          split at h
          · rename_i c25
            obtain rfl := Option.some.inj h
            exact K_iret rfl (Or.inr ⟨rfl, c25⟩) ⟨rfl, rfl, hr24⟩
          · cases h
set_option maxRecDepth 20000 in
theorem F_Model_isRootHere {X : mX} {x1 : Int32} {M : mM} {r : Int32 × mM} (hM : Fx M)  (h : f_Model_isRootHere x1 M = some r) : EV X (3 + 1) 161 [.ref 436, .int x1] M (fun v M' => v = some (.int r.1) ∧ r.2 = M' ∧ Fx r.2) := by
    refine EV_of (lc := [(0, .ref 436), (1, .int x1)]) (Nat.le_of_ble_eq_true rfl) (by exact Nat.le_of_ble_eq_true rfl) (by exact List.forall_mem_cons.mpr ⟨rfl, List.forall_mem_cons.mpr ⟨rfl, fun _ h => absurd h List.not_mem_nil⟩⟩) ?_
    unfold f_Model_isRootHere at h
    refine K_aload_n rfl 0 rfl ?_
    refine K_gR rfl sh_436 hM rfl rfl 7 rfl r_436_7 ?_
    refine K_iconst (v := 5) rfl (by decide) ?_
    obtain ⟨v1, ev1, h⟩ := Option.bind_eq_some_iff.mp h
    refine K_rd rfl sh_442 hM ev1 ?_
    refine K_bipush (v := 6) rfl (by decide) ?_
    refine K_ic_ne rfl (fun c2 => ?_) (fun c2 => ?_)
    · rw [if_neg c2] at h
      refine K_aload_n rfl 0 rfl ?_
      obtain ⟨M3, eM3, h⟩ := Option.bind_eq_some_iff.mp h
      refine K_cV [] [] rfl rfl (Nat.le_of_ble_eq_true rfl) (Nat.le_of_ble_eq_true rfl) sh_436 hM rfl (EV_le (Nat.le_of_ble_eq_true rfl) (F_Model_passWord hM  eM3)) (fun v' M' hq => ?_)
      obtain ⟨rfl, rfl, hM3⟩ := hq
      refine K_sipush (v := 131) rfl (by decide) ?_
      refine K_iconst (v := 3) rfl (by decide) ?_
      refine K_aload_n rfl 0 rfl ?_
      refine K_gR rfl sh_436 hM3 rfl rfl 7 rfl r_436_7 ?_
      refine K_iconst (v := 5) rfl (by decide) ?_
      obtain ⟨v4, ev4, h⟩ := Option.bind_eq_some_iff.mp h
      refine K_rd rfl sh_442 hM3 ev4 ?_
      refine K_imul rfl ?_
      refine K_iadd rfl ?_
      refine K_istore_n rfl ?_
      refine K_aload_n rfl 1 rfl ?_
      refine K_iload_n rfl 0 rfl ?_
      refine K_iconst (v := 0) rfl (by decide) ?_
      refine K_aload_n rfl 1 rfl ?_
      refine K_gR rfl sh_436 hM3 rfl rfl 7 rfl r_436_7 ?_
      refine K_iconst (v := 0) rfl (by decide) ?_
      obtain ⟨v5, ev5, h⟩ := Option.bind_eq_some_iff.mp h
      refine K_rd rfl sh_442 hM3 ev5 ?_
      refine K_iconst (v := 1) rfl (by decide) ?_
      refine K_isub rfl ?_
      obtain ⟨r6, er6, h⟩ := Option.bind_eq_some_iff.mp h
      refine K_cV [.int (131 + (3 * v4)), .int 0, .int (v5 - 1)] [] rfl rfl (Nat.le_of_ble_eq_true rfl) (Nat.le_of_ble_eq_true rfl) sh_436 hM3 rfl (EV_le (Nat.le_of_ble_eq_true rfl) (F_Model_cellHere hM3  er6)) (fun v' M' hq => ?_)
      obtain ⟨rfl, rfl, hr6⟩ := hq
      refine K_if_ne rfl (fun c7 => ?_) (fun c7 => ?_)
      · rw [if_neg c7] at h
        refine K_aload_n rfl 1 rfl ?_
        obtain ⟨r8, er8, h⟩ := Option.bind_eq_some_iff.mp h
        refine K_cV [] [] rfl rfl (Nat.le_of_ble_eq_true rfl) (Nat.le_of_ble_eq_true rfl) sh_436 hr6 rfl (EV_le (Nat.le_of_ble_eq_true rfl) (F_Model_see hr6  er8)) (fun v' M' hq => ?_)
        obtain ⟨rfl, rfl, hr8⟩ := hq
        refine K_pop rfl rfl ?_
        refine K_aload_n rfl 1 rfl ?_
        refine K_gI rfl sh_436 hr8 rfl rfl 8 rfl ?_
        refine K_istore_n rfl ?_
        refine K_aload_n rfl 2 rfl ?_
        refine K_iload_n rfl 1 rfl ?_
        refine K_iconst (v := 1) rfl (by decide) ?_
        refine K_iadd rfl ?_
        refine K_iconst (v := 0) rfl (by decide) ?_
        refine K_aload_n rfl 2 rfl ?_
        refine K_gR rfl sh_436 hr8 rfl rfl 7 rfl r_436_7 ?_
        refine K_iconst (v := 1) rfl (by decide) ?_
        obtain ⟨v9, ev9, h⟩ := Option.bind_eq_some_iff.mp h
        refine K_rd rfl sh_442 hr8 ev9 ?_
        refine K_iconst (v := 1) rfl (by decide) ?_
        refine K_isub rfl ?_
        obtain ⟨r10, er10, h⟩ := Option.bind_eq_some_iff.mp h
        refine K_cV [.int ((131 + (3 * v4)) + 1), .int 0, .int (v9 - 1)] [] rfl rfl (Nat.le_of_ble_eq_true rfl) (Nat.le_of_ble_eq_true rfl) sh_436 hr8 rfl (EV_le (Nat.le_of_ble_eq_true rfl) (F_Model_cellHere hr8  er10)) (fun v' M' hq => ?_)
        obtain ⟨rfl, rfl, hr10⟩ := hq
        refine K_if_ne rfl (fun c11 => ?_) (fun c11 => ?_)
        · rw [if_neg c11] at h
          refine K_iconst (v := 0) rfl (by decide) ?_
          refine K_istore rfl ?_
          refine K_pick [3, 2, 1, 0] ?_
          exact L_Model_isRootHere_88    FUEL _ _ _ _ hr10  h
        · rw [if_pos c11] at h
          refine K_iconst (v := 0) rfl (by decide) ?_
          obtain rfl := Option.some.inj h
          exact K_iret rfl (Or.inr ⟨rfl, by decide⟩) ⟨rfl, rfl, hr10⟩
      · rw [if_pos c7] at h
        refine K_iconst (v := 0) rfl (by decide) ?_
        obtain rfl := Option.some.inj h
        exact K_iret rfl (Or.inr ⟨rfl, by decide⟩) ⟨rfl, rfl, hr6⟩
    · rw [if_pos c2] at h
      refine K_aload_n rfl 0 rfl ?_
      refine K_iconst (v := 4) rfl (by decide) ?_
      refine K_iload_n rfl 1 rfl ?_
      obtain ⟨r26, er26, h⟩ := Option.bind_eq_some_iff.mp h
      refine K_cV [.int 4, .int x1] [] rfl rfl (Nat.le_of_ble_eq_true rfl) (Nat.le_of_ble_eq_true rfl) sh_436 hM rfl (EV_le (Nat.le_of_ble_eq_true rfl) (F_Model_fails hM  er26)) (fun v' M' hq => ?_)
      obtain ⟨rfl, rfl, hr26⟩ := hq
      split at h
      · rename_i c27
        obtain rfl := Option.some.inj h
        exact K_iret rfl (Or.inr ⟨rfl, c27⟩) ⟨rfl, rfl, hr26⟩
      · cases h
set_option maxRecDepth 20000 in
theorem F_Model_isHeavyHere {X : mX}  {M : mM} {r : Int32 × mM} (hM : Fx M)  (h : f_Model_isHeavyHere  M = some r) : EV X (2 + 1) 162 [.ref 436] M (fun v M' => v = some (.int r.1) ∧ r.2 = M' ∧ Fx r.2) := by
    refine EV_of (lc := [(0, .ref 436)]) (Nat.le_of_ble_eq_true rfl) (by exact Nat.le_of_ble_eq_true rfl) (by exact List.forall_mem_cons.mpr ⟨rfl, fun _ h => absurd h List.not_mem_nil⟩) ?_
    unfold f_Model_isHeavyHere at h
    refine K_aload_n rfl 0 rfl ?_
    obtain ⟨M1, eM1, h⟩ := Option.bind_eq_some_iff.mp h
    refine K_cV [] [] rfl rfl (Nat.le_of_ble_eq_true rfl) (Nat.le_of_ble_eq_true rfl) sh_436 hM rfl (EV_le (Nat.le_of_ble_eq_true rfl) (F_Model_passWord hM  eM1)) (fun v' M' hq => ?_)
    obtain ⟨rfl, rfl, hM1⟩ := hq
    refine K_aload_n rfl 0 rfl ?_
    refine K_iconst (v := 0) rfl (by decide) ?_
    refine K_aload_n rfl 0 rfl ?_
    refine K_gR rfl sh_436 hM1 rfl rfl 7 rfl r_436_7 ?_
    refine K_iconst (v := 2) rfl (by decide) ?_
    obtain ⟨v2, ev2, h⟩ := Option.bind_eq_some_iff.mp h
    refine K_rd rfl sh_442 hM1 ev2 ?_
    refine K_iconst (v := 1) rfl (by decide) ?_
    refine K_isub rfl ?_
    obtain ⟨r3, er3, h⟩ := Option.bind_eq_some_iff.mp h
    refine K_cV [.int 0, .int (v2 - 1)] [] rfl rfl (Nat.le_of_ble_eq_true rfl) (Nat.le_of_ble_eq_true rfl) sh_436 hM1 rfl (EV_le (Nat.le_of_ble_eq_true rfl) (F_Model_numberHere hM1  er3)) (fun v' M' hq => ?_)
    obtain ⟨rfl, rfl, hr3⟩ := hq
    refine K_if_ne rfl (fun c4 => ?_) (fun c4 => ?_)
    · rw [if_neg c4] at h
      refine K_aload_n rfl 0 rfl ?_
      refine K_gR rfl sh_436 hr3 rfl rfl 7 rfl r_436_7 ?_
      refine K_bipush (v := 10) rfl (by decide) ?_
      refine K_bipush (v := 9) rfl (by decide) ?_
      refine K_aload_n rfl 0 rfl ?_
      refine K_gI rfl sh_436 hr3 rfl rfl 10 rfl ?_
      refine K_imul rfl ?_
      refine K_iadd rfl ?_
      refine K_bipush (v := 8) rfl (by decide) ?_
      refine K_iadd rfl ?_
      refine K_iconst (v := 1) rfl (by decide) ?_
      obtain ⟨M5, eM5, h⟩ := Option.bind_eq_some_iff.mp h
      refine K_wr rfl sh_442 hr3 eM5 (fun hM5 => ?_)
      refine K_iconst (v := 1) rfl (by decide) ?_
      obtain rfl := Option.some.inj h
      exact K_iret rfl (Or.inr ⟨rfl, by decide⟩) ⟨rfl, rfl, hM5⟩
    · rw [if_pos c4] at h
      refine K_iconst (v := 0) rfl (by decide) ?_
      obtain rfl := Option.some.inj h
      exact K_iret rfl (Or.inr ⟨rfl, by decide⟩) ⟨rfl, rfl, hr3⟩
set_option maxRecDepth 20000 in
theorem L_Model_isFloodHere_58 {X : mX} {x1 : Int32} {r : Int32 × mM}  : ∀ (n : Nat) (l2 : Int32) (l3 : Int32) (M : mM), Fx M → f_Model_isFloodHere_58 x1  n l2 l3 M = some r → KK X 3 163 58 [(0, .ref 436), (2, .int l2), (3, .int l3)] [] M (fun v M' => v = some (.int r.1) ∧ r.2 = M' ∧ Fx r.2)
  | 0, _, _, _ => fun _ h => by cases h
  | n + 1, l2, l3, M => fun hM h => by
    unfold f_Model_isFloodHere_58 at h
    refine K_iload_n rfl 2 rfl ?_
    refine K_aload_n rfl 0 rfl ?_
    refine K_gR rfl sh_436 hM rfl rfl 7 rfl r_436_7 ?_
    refine K_bipush (v := 6) rfl (by decide) ?_
    obtain ⟨v8, ev8, h⟩ := Option.bind_eq_some_iff.mp h
    refine K_rd rfl sh_442 hM ev8 ?_
    refine K_ic_ge rfl (fun c9 => ?_) (fun c9 => ?_)
    · rw [if_pos c9] at h
      refine K_aload_n rfl 0 rfl ?_
      refine K_gR rfl sh_436 hM rfl rfl 7 rfl r_436_7 ?_
      refine K_bipush (v := 6) rfl (by decide) ?_
      refine K_dup2 rfl ⟨rfl, rfl⟩ ?_
      obtain ⟨v10, ev10, h⟩ := Option.bind_eq_some_iff.mp h
      refine K_rd rfl sh_442 hM ev10 ?_
      refine K_iconst (v := 1) rfl (by decide) ?_
      refine K_iadd rfl ?_
      obtain ⟨M11, eM11, h⟩ := Option.bind_eq_some_iff.mp h
      refine K_wr rfl sh_442 hM eM11 (fun hM11 => ?_)
      refine K_iconst (v := 1) rfl (by decide) ?_
      obtain rfl := Option.some.inj h
      exact K_iret rfl (Or.inr ⟨rfl, by decide⟩) ⟨rfl, rfl, hM11⟩
    · rw [if_neg c9] at h
      refine K_aload_n rfl 0 rfl ?_
      refine K_gR rfl sh_436 hM rfl rfl 7 rfl r_436_7 ?_
      refine K_sipush (v := 149) rfl (by decide) ?_
      refine K_iload_n rfl 2 rfl ?_
      refine K_iadd rfl ?_
      obtain ⟨v12, ev12, h⟩ := Option.bind_eq_some_iff.mp h
      refine K_rd rfl sh_442 hM ev12 ?_
      refine K_aload_n rfl 0 rfl ?_
      refine K_gR rfl sh_436 hM rfl rfl 7 rfl r_436_7 ?_
      refine K_sipush (v := 149) rfl (by decide) ?_
      refine K_aload_n rfl 0 rfl ?_
      refine K_gR rfl sh_436 hM rfl rfl 7 rfl r_436_7 ?_
      refine K_bipush (v := 6) rfl (by decide) ?_
      obtain ⟨v13, ev13, h⟩ := Option.bind_eq_some_iff.mp h
      refine K_rd rfl sh_442 hM ev13 ?_
      refine K_iadd rfl ?_
      obtain ⟨v14, ev14, h⟩ := Option.bind_eq_some_iff.mp h
      refine K_rd rfl sh_442 hM ev14 ?_
      refine K_ic_ne rfl (fun c15 => ?_) (fun c15 => ?_)
      · rw [if_neg c15] at h
        refine K_iinc (y := (l3 + 1)) rfl 2 rfl rfl ?_
        refine K_goto rfl ?_
        refine K_pick [1, 2, 0] ?_
        exact L_Model_isFloodHere_58    n _ _ _ hM  h
      · rw [if_pos c15] at h
        refine K_aload_n rfl 0 rfl ?_
        refine K_iconst (v := 1) rfl (by decide) ?_
        refine K_iload_n rfl 1 rfl ?_
        obtain ⟨r16, er16, h⟩ := Option.bind_eq_some_iff.mp h
        refine K_cV [.int 1, .int l2] [] rfl rfl (Nat.le_of_ble_eq_true rfl) (Nat.le_of_ble_eq_true rfl) sh_436 hM rfl (EV_le (Nat.le_of_ble_eq_true rfl) (F_Model_fails hM  er16)) (fun v' M' hq => ?_)
        obtain ⟨rfl, rfl, hr16⟩ := hq
        split at h
        · rename_i c17
          obtain rfl := Option.some.inj h
          exact K_iret rfl (Or.inr ⟨rfl, c17⟩) ⟨rfl, rfl, hr16⟩
        · cases h
set_option maxRecDepth 20000 in
theorem F_Model_isFloodHere {X : mX} {x1 : Int32} {M : mM} {r : Int32 × mM} (hM : Fx M)  (h : f_Model_isFloodHere x1 M = some r) : EV X (3 + 1) 163 [.ref 436, .int x1] M (fun v M' => v = some (.int r.1) ∧ r.2 = M' ∧ Fx r.2) := by
    refine EV_of (lc := [(0, .ref 436), (1, .int x1)]) (Nat.le_of_ble_eq_true rfl) (by exact Nat.le_of_ble_eq_true rfl) (by exact List.forall_mem_cons.mpr ⟨rfl, List.forall_mem_cons.mpr ⟨rfl, fun _ h => absurd h List.not_mem_nil⟩⟩) ?_
    unfold f_Model_isFloodHere at h
    refine K_aload_n rfl 0 rfl ?_
    refine K_gR rfl sh_436 hM rfl rfl 7 rfl r_436_7 ?_
    refine K_bipush (v := 6) rfl (by decide) ?_
    obtain ⟨v1, ev1, h⟩ := Option.bind_eq_some_iff.mp h
    refine K_rd rfl sh_442 hM ev1 ?_
    refine K_bipush (v := 6) rfl (by decide) ?_
    refine K_ic_ne rfl (fun c2 => ?_) (fun c2 => ?_)
    · rw [if_neg c2] at h
      refine K_aload_n rfl 0 rfl ?_
      obtain ⟨M3, eM3, h⟩ := Option.bind_eq_some_iff.mp h
      refine K_cV [] [] rfl rfl (Nat.le_of_ble_eq_true rfl) (Nat.le_of_ble_eq_true rfl) sh_436 hM rfl (EV_le (Nat.le_of_ble_eq_true rfl) (F_Model_passWord hM  eM3)) (fun v' M' hq => ?_)
      obtain ⟨rfl, rfl, hM3⟩ := hq
      refine K_aload_n rfl 0 rfl ?_
      obtain ⟨r4, er4, h⟩ := Option.bind_eq_some_iff.mp h
      refine K_cV [] [] rfl rfl (Nat.le_of_ble_eq_true rfl) (Nat.le_of_ble_eq_true rfl) sh_436 hM3 rfl (EV_le (Nat.le_of_ble_eq_true rfl) (F_Model_see hM3  er4)) (fun v' M' hq => ?_)
      obtain ⟨rfl, rfl, hr4⟩ := hq
      refine K_pop rfl rfl ?_
      refine K_aload_n rfl 0 rfl ?_
      refine K_gI rfl sh_436 hr4 rfl rfl 8 rfl ?_
      refine K_istore_n rfl ?_
      refine K_aload_n rfl 1 rfl ?_
      refine K_sipush (v := 149) rfl (by decide) ?_
      refine K_aload_n rfl 1 rfl ?_
      refine K_gR rfl sh_436 hr4 rfl rfl 7 rfl r_436_7 ?_
      refine K_bipush (v := 6) rfl (by decide) ?_
      obtain ⟨v5, ev5, h⟩ := Option.bind_eq_some_iff.mp h
      refine K_rd rfl sh_442 hr4 ev5 ?_
      refine K_iadd rfl ?_
      refine K_iconst (v := 0) rfl (by decide) ?_
      refine K_bipush (v := 99) rfl (by decide) ?_
      obtain ⟨r6, er6, h⟩ := Option.bind_eq_some_iff.mp h
      refine K_cV [.int (149 + v5), .int 0, .int 99] [] rfl rfl (Nat.le_of_ble_eq_true rfl) (Nat.le_of_ble_eq_true rfl) sh_436 hr4 rfl (EV_le (Nat.le_of_ble_eq_true rfl) (F_Model_cellHere hr4  er6)) (fun v' M' hq => ?_)
      obtain ⟨rfl, rfl, hr6⟩ := hq
      refine K_if_ne rfl (fun c7 => ?_) (fun c7 => ?_)
      · rw [if_neg c7] at h
        refine K_iconst (v := 0) rfl (by decide) ?_
        refine K_istore_n rfl ?_
        refine K_pick [2, 1, 0] ?_
        exact L_Model_isFloodHere_58    FUEL _ _ _ hr6  h
      · rw [if_pos c7] at h
        refine K_iconst (v := 0) rfl (by decide) ?_
        obtain rfl := Option.some.inj h
        exact K_iret rfl (Or.inr ⟨rfl, by decide⟩) ⟨rfl, rfl, hr6⟩
    · rw [if_pos c2] at h
      refine K_aload_n rfl 0 rfl ?_
      refine K_iconst (v := 4) rfl (by decide) ?_
      refine K_iload_n rfl 1 rfl ?_
      obtain ⟨r18, er18, h⟩ := Option.bind_eq_some_iff.mp h
      refine K_cV [.int 4, .int x1] [] rfl rfl (Nat.le_of_ble_eq_true rfl) (Nat.le_of_ble_eq_true rfl) sh_436 hM rfl (EV_le (Nat.le_of_ble_eq_true rfl) (F_Model_fails hM  er18)) (fun v' M' hq => ?_)
      obtain ⟨rfl, rfl, hr18⟩ := hq
      split at h
      · rename_i c19
        obtain rfl := Option.some.inj h
        exact K_iret rfl (Or.inr ⟨rfl, c19⟩) ⟨rfl, rfl, hr18⟩
      · cases h
set_option maxRecDepth 20000 in
theorem F_Model_yardLineHere {X : mX} {x1 : Int32} {M : mM} {r : Int32 × mM} (hM : Fx M)  (h : f_Model_yardLineHere x1 M = some r) : EV X (5 + 1) 149 [.ref 436, .int x1] M (fun v M' => v = some (.int r.1) ∧ r.2 = M' ∧ Fx r.2) := by
    refine EV_of (lc := [(0, .ref 436), (1, .int x1)]) (Nat.le_of_ble_eq_true rfl) (by exact Nat.le_of_ble_eq_true rfl) (by exact List.forall_mem_cons.mpr ⟨rfl, List.forall_mem_cons.mpr ⟨rfl, fun _ h => absurd h List.not_mem_nil⟩⟩) ?_
    unfold f_Model_yardLineHere at h
    refine K_aload_n rfl 0 rfl ?_
    refine K_ldc2 (v := 2036429412) rfl (by decide) ?_
    obtain ⟨r1, er1, h⟩ := Option.bind_eq_some_iff.mp h
    refine K_cV [.long 2036429412] [] rfl rfl (Nat.le_of_ble_eq_true rfl) (Nat.le_of_ble_eq_true rfl) sh_436 hM rfl (EV_le (Nat.le_of_ble_eq_true rfl) (F_Model_isWord hM  er1)) (fun v' M' hq => ?_)
    obtain ⟨rfl, rfl, hr1⟩ := hq
    refine K_if_eq rfl (fun c2 => ?_) (fun c2 => ?_)
    · rw [if_pos c2] at h
      refine K_aload_n rfl 0 rfl ?_
      refine K_gR rfl sh_436 hr1 rfl rfl 7 rfl r_436_7 ?_
      refine K_iconst (v := 0) rfl (by decide) ?_
      obtain ⟨v3, ev3, h⟩ := Option.bind_eq_some_iff.mp h
      refine K_rd rfl sh_442 hr1 ev3 ?_
      refine K_if_ne rfl (fun c4 => ?_) (fun c4 => ?_)
      · rw [if_neg c4] at h
        refine K_aload_n rfl 0 rfl ?_
        refine K_ldc2 (v := 444300621413) rfl (by decide) ?_
        obtain ⟨r5, er5, h⟩ := Option.bind_eq_some_iff.mp h
        refine K_cV [.long 444300621413] [] rfl rfl (Nat.le_of_ble_eq_true rfl) (Nat.le_of_ble_eq_true rfl) sh_436 hr1 rfl (EV_le (Nat.le_of_ble_eq_true rfl) (F_Model_isWord hr1  er5)) (fun v' M' hq => ?_)
        obtain ⟨rfl, rfl, hr5⟩ := hq
        refine K_if_eq rfl (fun c6 => ?_) (fun c6 => ?_)
        · rw [if_pos c6] at h
          refine K_aload_n rfl 0 rfl ?_
          refine K_ldc2 (v := 1885432178) rfl (by decide) ?_
          obtain ⟨r7, er7, h⟩ := Option.bind_eq_some_iff.mp h
          refine K_cV [.long 1885432178] [] rfl rfl (Nat.le_of_ble_eq_true rfl) (Nat.le_of_ble_eq_true rfl) sh_436 hr5 rfl (EV_le (Nat.le_of_ble_eq_true rfl) (F_Model_isWord hr5  er7)) (fun v' M' hq => ?_)
          obtain ⟨rfl, rfl, hr7⟩ := hq
          refine K_if_eq rfl (fun c8 => ?_) (fun c8 => ?_)
          · rw [if_pos c8] at h
            refine K_aload_n rfl 0 rfl ?_
            refine K_ldc2 (v := 1919905652) rfl (by decide) ?_
            obtain ⟨r9, er9, h⟩ := Option.bind_eq_some_iff.mp h
            refine K_cV [.long 1919905652] [] rfl rfl (Nat.le_of_ble_eq_true rfl) (Nat.le_of_ble_eq_true rfl) sh_436 hr7 rfl (EV_le (Nat.le_of_ble_eq_true rfl) (F_Model_isWord hr7  er9)) (fun v' M' hq => ?_)
            obtain ⟨rfl, rfl, hr9⟩ := hq
            refine K_if_eq rfl (fun c10 => ?_) (fun c10 => ?_)
            · rw [if_pos c10] at h
              refine K_aload_n rfl 0 rfl ?_
              refine K_ldc2 (v := 448377484921) rfl (by decide) ?_
              obtain ⟨r11, er11, h⟩ := Option.bind_eq_some_iff.mp h
              refine K_cV [.long 448377484921] [] rfl rfl (Nat.le_of_ble_eq_true rfl) (Nat.le_of_ble_eq_true rfl) sh_436 hr9 rfl (EV_le (Nat.le_of_ble_eq_true rfl) (F_Model_isWord hr9  er11)) (fun v' M' hq => ?_)
              obtain ⟨rfl, rfl, hr11⟩ := hq
              refine K_if_eq rfl (fun c12 => ?_) (fun c12 => ?_)
              · rw [if_pos c12] at h
                refine K_aload_n rfl 0 rfl ?_
                refine K_iload_n rfl 1 rfl ?_
                obtain ⟨r13, er13, h⟩ := Option.bind_eq_some_iff.mp h
                refine K_cV [.int x1] [] rfl rfl (Nat.le_of_ble_eq_true rfl) (Nat.le_of_ble_eq_true rfl) sh_436 hr11 rfl (EV_le (Nat.le_of_ble_eq_true rfl) (F_Model_isFloodHere hr11  er13)) (fun v' M' hq => ?_)
                obtain ⟨rfl, rfl, hr13⟩ := hq
                split at h
                · rename_i c14
                  obtain rfl := Option.some.inj h
                  exact K_iret rfl (Or.inr ⟨rfl, c14⟩) ⟨rfl, rfl, hr13⟩
                · cases h
              · rw [if_neg c12] at h
                refine K_aload_n rfl 0 rfl ?_
                obtain ⟨r15, er15, h⟩ := Option.bind_eq_some_iff.mp h
                refine K_cV [] [] rfl rfl (Nat.le_of_ble_eq_true rfl) (Nat.le_of_ble_eq_true rfl) sh_436 hr11 rfl (EV_le (Nat.le_of_ble_eq_true rfl) (F_Model_isHeavyHere hr11  er15)) (fun v' M' hq => ?_)
                obtain ⟨rfl, rfl, hr15⟩ := hq
                refine K_goto rfl ?_
                split at h
                · rename_i c16
                  obtain rfl := Option.some.inj h
                  exact K_iret rfl (Or.inr ⟨rfl, c16⟩) ⟨rfl, rfl, hr15⟩
                · cases h
            · rw [if_neg c10] at h
              refine K_aload_n rfl 0 rfl ?_
              refine K_iload_n rfl 1 rfl ?_
              obtain ⟨r17, er17, h⟩ := Option.bind_eq_some_iff.mp h
              refine K_cV [.int x1] [] rfl rfl (Nat.le_of_ble_eq_true rfl) (Nat.le_of_ble_eq_true rfl) sh_436 hr9 rfl (EV_le (Nat.le_of_ble_eq_true rfl) (F_Model_isRootHere hr9  er17)) (fun v' M' hq => ?_)
              obtain ⟨rfl, rfl, hr17⟩ := hq
              split at h
              · rename_i c18
                obtain rfl := Option.some.inj h
                exact K_iret rfl (Or.inr ⟨rfl, c18⟩) ⟨rfl, rfl, hr17⟩
              · cases h
          · rw [if_neg c8] at h
            refine K_aload_n rfl 0 rfl ?_
            obtain ⟨r19, er19, h⟩ := Option.bind_eq_some_iff.mp h
            refine K_cV [] [] rfl rfl (Nat.le_of_ble_eq_true rfl) (Nat.le_of_ble_eq_true rfl) sh_436 hr7 rfl (EV_le (Nat.le_of_ble_eq_true rfl) (F_Model_isPairHere hr7  er19)) (fun v' M' hq => ?_)
            obtain ⟨rfl, rfl, hr19⟩ := hq
            split at h
            · rename_i c20
              obtain rfl := Option.some.inj h
              exact K_iret rfl (Or.inr ⟨rfl, c20⟩) ⟨rfl, rfl, hr19⟩
            · cases h
        · rw [if_neg c6] at h
          refine K_aload_n rfl 0 rfl ?_
          refine K_iload_n rfl 1 rfl ?_
          obtain ⟨r21, er21, h⟩ := Option.bind_eq_some_iff.mp h
          refine K_cV [.int x1] [] rfl rfl (Nat.le_of_ble_eq_true rfl) (Nat.le_of_ble_eq_true rfl) sh_436 hr5 rfl (EV_le (Nat.le_of_ble_eq_true rfl) (F_Model_isGraveHere hr5  er21)) (fun v' M' hq => ?_)
          obtain ⟨rfl, rfl, hr21⟩ := hq
          split at h
          · rename_i c22
            obtain rfl := Option.some.inj h
            exact K_iret rfl (Or.inr ⟨rfl, c22⟩) ⟨rfl, rfl, hr21⟩
          · cases h
      · rw [if_pos c4] at h
        refine K_aload_n rfl 0 rfl ?_
        refine K_iconst (v := 4) rfl (by decide) ?_
        refine K_iload_n rfl 1 rfl ?_
        obtain ⟨r23, er23, h⟩ := Option.bind_eq_some_iff.mp h
        refine K_cV [.int 4, .int x1] [] rfl rfl (Nat.le_of_ble_eq_true rfl) (Nat.le_of_ble_eq_true rfl) sh_436 hr1 rfl (EV_le (Nat.le_of_ble_eq_true rfl) (F_Model_fails hr1  er23)) (fun v' M' hq => ?_)
        obtain ⟨rfl, rfl, hr23⟩ := hq
        split at h
        · rename_i c24
          obtain rfl := Option.some.inj h
          exact K_iret rfl (Or.inr ⟨rfl, c24⟩) ⟨rfl, rfl, hr23⟩
        · cases h
    · rw [if_neg c2] at h
      refine K_aload_n rfl 0 rfl ?_
      refine K_iload_n rfl 1 rfl ?_
      obtain ⟨r25, er25, h⟩ := Option.bind_eq_some_iff.mp h
      refine K_cV [.int x1] [] rfl rfl (Nat.le_of_ble_eq_true rfl) (Nat.le_of_ble_eq_true rfl) sh_436 hr1 rfl (EV_le (Nat.le_of_ble_eq_true rfl) (F_Model_isYardHere hr1  er25)) (fun v' M' hq => ?_)
      obtain ⟨rfl, rfl, hr25⟩ := hq
      split at h
      · rename_i c26
        obtain rfl := Option.some.inj h
        exact K_iret rfl (Or.inr ⟨rfl, c26⟩) ⟨rfl, rfl, hr25⟩
      · cases h
set_option maxRecDepth 20000 in
theorem F_Model_makes {X : mX} {x1 : Int32} {M : mM} {r : Int32 × mM} (hM : Fx M)  (h : f_Model_makes x1 M = some r) : EV X (1 + 1) 168 [.ref 436, .int x1] M (fun v M' => v = some (.int r.1) ∧ r.2 = M' ∧ Fx r.2) := by
    refine EV_of (lc := [(0, .ref 436), (1, .int x1)]) (Nat.le_of_ble_eq_true rfl) (by exact Nat.le_of_ble_eq_true rfl) (by exact List.forall_mem_cons.mpr ⟨rfl, List.forall_mem_cons.mpr ⟨rfl, fun _ h => absurd h List.not_mem_nil⟩⟩) ?_
    unfold f_Model_makes at h
    refine K_aload_n rfl 0 rfl ?_
    refine K_gI rfl sh_436 hM rfl rfl 12 rfl ?_
    refine K_bipush (v := 60) rfl (by decide) ?_
    refine K_ic_ne rfl (fun c1 => ?_) (fun c1 => ?_)
    · rw [if_neg c1] at h
      refine K_aload_n rfl 0 rfl ?_
      refine K_dup rfl rfl ?_
      refine K_gI rfl sh_436 hM rfl rfl 12 rfl ?_
      refine K_iconst (v := 1) rfl (by decide) ?_
      refine K_iadd rfl ?_
      obtain ⟨M2, eM2, h⟩ := Option.bind_eq_some_iff.mp h
      refine K_pI rfl sh_436 hM rfl rfl 12 rfl eM2 (fun hM2 => ?_)
      refine K_iconst (v := 1) rfl (by decide) ?_
      obtain rfl := Option.some.inj h
      exact K_iret rfl (Or.inr ⟨rfl, by decide⟩) ⟨rfl, rfl, hM2⟩
    · rw [if_pos c1] at h
      refine K_aload_n rfl 0 rfl ?_
      refine K_iconst (v := 3) rfl (by decide) ?_
      refine K_iload_n rfl 1 rfl ?_
      obtain ⟨r3, er3, h⟩ := Option.bind_eq_some_iff.mp h
      refine K_cV [.int 3, .int x1] [] rfl rfl (Nat.le_of_ble_eq_true rfl) (Nat.le_of_ble_eq_true rfl) sh_436 hM rfl (EV_le (Nat.le_of_ble_eq_true rfl) (F_Model_fails hM  er3)) (fun v' M' hq => ?_)
      obtain ⟨rfl, rfl, hr3⟩ := hq
      split at h
      · rename_i c4
        obtain rfl := Option.some.inj h
        exact K_iret rfl (Or.inr ⟨rfl, c4⟩) ⟨rfl, rfl, hr3⟩
      · cases h
set_option maxRecDepth 20000 in
theorem F_Model_puts {X : mX} {x1 : Int32} {x2 : Int32} {M : mM} {r : mM} (hM : Fx M)  (h : f_Model_puts x1 x2 M = some r) : EV X (0 + 1) 169 [.ref 436, .int x1, .int x2] M (fun v M' => v = none ∧ r = M' ∧ Fx r) := by
    refine EV_of (lc := [(0, .ref 436), (1, .int x1), (2, .int x2)]) (Nat.le_of_ble_eq_true rfl) (by exact Nat.le_of_ble_eq_true rfl) (by exact List.forall_mem_cons.mpr ⟨rfl, List.forall_mem_cons.mpr ⟨rfl, List.forall_mem_cons.mpr ⟨rfl, fun _ h => absurd h List.not_mem_nil⟩⟩⟩) ?_
    unfold f_Model_puts at h
    refine K_aload_n rfl 0 rfl ?_
    refine K_gR rfl sh_436 hM rfl rfl 3 rfl r_436_3 ?_
    refine K_sipush (v := 400) rfl (by decide) ?_
    refine K_aload_n rfl 0 rfl ?_
    refine K_gI rfl sh_436 hM rfl rfl 11 rfl ?_
    refine K_imul rfl ?_
    refine K_aload_n rfl 0 rfl ?_
    refine K_gR rfl sh_436 hM rfl rfl 4 rfl r_436_4 ?_
    refine K_aload_n rfl 0 rfl ?_
    refine K_gI rfl sh_436 hM rfl rfl 11 rfl ?_
    obtain ⟨v1, ev1, h⟩ := Option.bind_eq_some_iff.mp h
    refine K_rd rfl sh_439 hM ev1 ?_
    refine K_iadd rfl ?_
    refine K_iload_n rfl 1 rfl ?_
    refine K_bipush (v := 16) rfl (by decide) ?_
    refine K_iload_n rfl 2 rfl ?_
    refine K_imul rfl ?_
    refine K_iadd rfl ?_
    obtain ⟨M2, eM2, h⟩ := Option.bind_eq_some_iff.mp h
    refine K_wr rfl sh_438 hM eM2 (fun hM2 => ?_)
    refine K_aload_n rfl 0 rfl ?_
    refine K_gR rfl sh_436 hM2 rfl rfl 4 rfl r_436_4 ?_
    refine K_aload_n rfl 0 rfl ?_
    refine K_gI rfl sh_436 hM2 rfl rfl 11 rfl ?_
    refine K_dup2 rfl ⟨rfl, rfl⟩ ?_
    obtain ⟨v3, ev3, h⟩ := Option.bind_eq_some_iff.mp h
    refine K_rd rfl sh_439 hM2 ev3 ?_
    refine K_iconst (v := 1) rfl (by decide) ?_
    refine K_iadd rfl ?_
    obtain ⟨M4, eM4, h⟩ := Option.bind_eq_some_iff.mp h
    refine K_wr rfl sh_439 hM2 eM4 (fun hM4 => ?_)
    obtain rfl := Option.some.inj h
    exact K_vret rfl rfl ⟨rfl, rfl, hM4⟩
set_option maxRecDepth 20000 in
theorem F_Model_wordHere {X : mX}  {M : mM} {r : Int32 × mM} (hM : Fx M)  (h : f_Model_wordHere  M = some r) : EV X (2 + 1) 170 [.ref 436] M (fun v M' => v = some (.int r.1) ∧ r.2 = M' ∧ Fx r.2) := by
    refine EV_of (lc := [(0, .ref 436)]) (Nat.le_of_ble_eq_true rfl) (by exact Nat.le_of_ble_eq_true rfl) (by exact List.forall_mem_cons.mpr ⟨rfl, fun _ h => absurd h List.not_mem_nil⟩) ?_
    unfold f_Model_wordHere at h
    refine K_aload_n rfl 0 rfl ?_
    refine K_ldc2 (v := 444300621413) rfl (by decide) ?_
    obtain ⟨r1, er1, h⟩ := Option.bind_eq_some_iff.mp h
    refine K_cV [.long 444300621413] [] rfl rfl (Nat.le_of_ble_eq_true rfl) (Nat.le_of_ble_eq_true rfl) sh_436 hM rfl (EV_le (Nat.le_of_ble_eq_true rfl) (F_Model_isWord hM  er1)) (fun v' M' hq => ?_)
    obtain ⟨rfl, rfl, hr1⟩ := hq
    refine K_if_eq rfl (fun c2 => ?_) (fun c2 => ?_)
    · rw [if_pos c2] at h
      refine K_aload_n rfl 0 rfl ?_
      refine K_ldc2 (v := 1818324581) rfl (by decide) ?_
      obtain ⟨r3, er3, h⟩ := Option.bind_eq_some_iff.mp h
      refine K_cV [.long 1818324581] [] rfl rfl (Nat.le_of_ble_eq_true rfl) (Nat.le_of_ble_eq_true rfl) sh_436 hr1 rfl (EV_le (Nat.le_of_ble_eq_true rfl) (F_Model_isWord hr1  er3)) (fun v' M' hq => ?_)
      obtain ⟨rfl, rfl, hr3⟩ := hq
      refine K_if_eq rfl (fun c4 => ?_) (fun c4 => ?_)
      · rw [if_pos c4] at h
        refine K_aload_n rfl 0 rfl ?_
        refine K_ldc2 (v := 1667591276) rfl (by decide) ?_
        obtain ⟨r5, er5, h⟩ := Option.bind_eq_some_iff.mp h
        refine K_cV [.long 1667591276] [] rfl rfl (Nat.le_of_ble_eq_true rfl) (Nat.le_of_ble_eq_true rfl) sh_436 hr3 rfl (EV_le (Nat.le_of_ble_eq_true rfl) (F_Model_isWord hr3  er5)) (fun v' M' hq => ?_)
        obtain ⟨rfl, rfl, hr5⟩ := hq
        refine K_if_eq rfl (fun c6 => ?_) (fun c6 => ?_)
        · rw [if_pos c6] at h
          refine K_aload_n rfl 0 rfl ?_
          refine K_ldc2 (v := 2036687218) rfl (by decide) ?_
          obtain ⟨r7, er7, h⟩ := Option.bind_eq_some_iff.mp h
          refine K_cV [.long 2036687218] [] rfl rfl (Nat.le_of_ble_eq_true rfl) (Nat.le_of_ble_eq_true rfl) sh_436 hr5 rfl (EV_le (Nat.le_of_ble_eq_true rfl) (F_Model_isWord hr5  er7)) (fun v' M' hq => ?_)
          obtain ⟨rfl, rfl, hr7⟩ := hq
          refine K_if_eq rfl (fun c8 => ?_) (fun c8 => ?_)
          · rw [if_pos c8] at h
            refine K_aload_n rfl 0 rfl ?_
            refine K_ldc2 (v := 6383461) rfl (by decide) ?_
            obtain ⟨r9, er9, h⟩ := Option.bind_eq_some_iff.mp h
            refine K_cV [.long 6383461] [] rfl rfl (Nat.le_of_ble_eq_true rfl) (Nat.le_of_ble_eq_true rfl) sh_436 hr7 rfl (EV_le (Nat.le_of_ble_eq_true rfl) (F_Model_isWord hr7  er9)) (fun v' M' hq => ?_)
            obtain ⟨rfl, rfl, hr9⟩ := hq
            refine K_if_eq rfl (fun c10 => ?_) (fun c10 => ?_)
            · rw [if_pos c10] at h
              refine K_aload_n rfl 0 rfl ?_
              refine K_ldc2 (v := 426953501796) rfl (by decide) ?_
              obtain ⟨r11, er11, h⟩ := Option.bind_eq_some_iff.mp h
              refine K_cV [.long 426953501796] [] rfl rfl (Nat.le_of_ble_eq_true rfl) (Nat.le_of_ble_eq_true rfl) sh_436 hr9 rfl (EV_le (Nat.le_of_ble_eq_true rfl) (F_Model_isWord hr9  er11)) (fun v' M' hq => ?_)
              obtain ⟨rfl, rfl, hr11⟩ := hq
              refine K_if_eq rfl (fun c12 => ?_) (fun c12 => ?_)
              · rw [if_pos c12] at h
                refine K_aload_n rfl 0 rfl ?_
                refine K_ldc2 (v := 129117192284516) rfl (by decide) ?_
                obtain ⟨r13, er13, h⟩ := Option.bind_eq_some_iff.mp h
                refine K_cV [.long 129117192284516] [] rfl rfl (Nat.le_of_ble_eq_true rfl) (Nat.le_of_ble_eq_true rfl) sh_436 hr11 rfl (EV_le (Nat.le_of_ble_eq_true rfl) (F_Model_isWord hr11  er13)) (fun v' M' hq => ?_)
                obtain ⟨rfl, rfl, hr13⟩ := hq
                refine K_if_eq rfl (fun c14 => ?_) (fun c14 => ?_)
                · rw [if_pos c14] at h
                  refine K_aload_n rfl 0 rfl ?_
                  refine K_ldc2 (v := 1885432178) rfl (by decide) ?_
                  obtain ⟨r15, er15, h⟩ := Option.bind_eq_some_iff.mp h
                  refine K_cV [.long 1885432178] [] rfl rfl (Nat.le_of_ble_eq_true rfl) (Nat.le_of_ble_eq_true rfl) sh_436 hr13 rfl (EV_le (Nat.le_of_ble_eq_true rfl) (F_Model_isWord hr13  er15)) (fun v' M' hq => ?_)
                  obtain ⟨rfl, rfl, hr15⟩ := hq
                  refine K_if_eq rfl (fun c16 => ?_) (fun c16 => ?_)
                  · rw [if_pos c16] at h
                    refine K_aload_n rfl 0 rfl ?_
                    refine K_ldc2 (v := 418363302244) rfl (by decide) ?_
                    obtain ⟨r17, er17, h⟩ := Option.bind_eq_some_iff.mp h
                    refine K_cV [.long 418363302244] [] rfl rfl (Nat.le_of_ble_eq_true rfl) (Nat.le_of_ble_eq_true rfl) sh_436 hr15 rfl (EV_le (Nat.le_of_ble_eq_true rfl) (F_Model_isWord hr15  er17)) (fun v' M' hq => ?_)
                    obtain ⟨rfl, rfl, hr17⟩ := hq
                    refine K_if_eq rfl (fun c18 => ?_) (fun c18 => ?_)
                    · rw [if_pos c18] at h
                      refine K_aload_n rfl 0 rfl ?_
                      refine K_ldc2 (v := 108187682958948) rfl (by decide) ?_
                      obtain ⟨r19, er19, h⟩ := Option.bind_eq_some_iff.mp h
                      refine K_cV [.long 108187682958948] [] rfl rfl (Nat.le_of_ble_eq_true rfl) (Nat.le_of_ble_eq_true rfl) sh_436 hr17 rfl (EV_le (Nat.le_of_ble_eq_true rfl) (F_Model_isWord hr17  er19)) (fun v' M' hq => ?_)
                      obtain ⟨rfl, rfl, hr19⟩ := hq
                      refine K_if_eq rfl (fun c20 => ?_) (fun c20 => ?_)
                      · rw [if_pos c20] at h
                        refine K_aload_n rfl 0 rfl ?_
                        refine K_ldc2 (v := 439905906532) rfl (by decide) ?_
                        obtain ⟨r21, er21, h⟩ := Option.bind_eq_some_iff.mp h
                        refine K_cV [.long 439905906532] [] rfl rfl (Nat.le_of_ble_eq_true rfl) (Nat.le_of_ble_eq_true rfl) sh_436 hr19 rfl (EV_le (Nat.le_of_ble_eq_true rfl) (F_Model_isWord hr19  er21)) (fun v' M' hq => ?_)
                        obtain ⟨rfl, rfl, hr21⟩ := hq
                        refine K_if_eq rfl (fun c22 => ?_) (fun c22 => ?_)
                        · rw [if_pos c22] at h
                          refine K_aload_n rfl 0 rfl ?_
                          refine K_ldc2 (v := 112568616904046) rfl (by decide) ?_
                          obtain ⟨r23, er23, h⟩ := Option.bind_eq_some_iff.mp h
                          refine K_cV [.long 112568616904046] [] rfl rfl (Nat.le_of_ble_eq_true rfl) (Nat.le_of_ble_eq_true rfl) sh_436 hr21 rfl (EV_le (Nat.le_of_ble_eq_true rfl) (F_Model_isWord hr21  er23)) (fun v' M' hq => ?_)
                          obtain ⟨rfl, rfl, hr23⟩ := hq
                          refine K_if_eq rfl (fun c24 => ?_) (fun c24 => ?_)
                          · rw [if_pos c24] at h
                            refine K_iconst (v := (-1)) rfl (by decide) ?_
                            obtain rfl := Option.some.inj h
                            exact K_iret rfl (Or.inl rfl) ⟨rfl, rfl, hr23⟩
                          · rw [if_neg c24] at h
                            refine K_bipush (v := 11) rfl (by decide) ?_
                            refine K_goto rfl ?_
                            obtain rfl := Option.some.inj h
                            exact K_iret rfl (Or.inl rfl) ⟨rfl, rfl, hr23⟩
                        · rw [if_neg c22] at h
                          refine K_bipush (v := 10) rfl (by decide) ?_
                          refine K_goto rfl ?_
                          obtain rfl := Option.some.inj h
                          exact K_iret rfl (Or.inl rfl) ⟨rfl, rfl, hr21⟩
                      · rw [if_neg c20] at h
                        refine K_bipush (v := 9) rfl (by decide) ?_
                        obtain rfl := Option.some.inj h
                        exact K_iret rfl (Or.inl rfl) ⟨rfl, rfl, hr19⟩
                    · rw [if_neg c18] at h
                      refine K_bipush (v := 8) rfl (by decide) ?_
                      obtain rfl := Option.some.inj h
                      exact K_iret rfl (Or.inl rfl) ⟨rfl, rfl, hr17⟩
                  · rw [if_neg c16] at h
                    refine K_bipush (v := 7) rfl (by decide) ?_
                    obtain rfl := Option.some.inj h
                    exact K_iret rfl (Or.inl rfl) ⟨rfl, rfl, hr15⟩
                · rw [if_neg c14] at h
                  refine K_bipush (v := 6) rfl (by decide) ?_
                  obtain rfl := Option.some.inj h
                  exact K_iret rfl (Or.inl rfl) ⟨rfl, rfl, hr13⟩
              · rw [if_neg c12] at h
                refine K_iconst (v := 5) rfl (by decide) ?_
                obtain rfl := Option.some.inj h
                exact K_iret rfl (Or.inl rfl) ⟨rfl, rfl, hr11⟩
            · rw [if_neg c10] at h
              refine K_iconst (v := 4) rfl (by decide) ?_
              obtain rfl := Option.some.inj h
              exact K_iret rfl (Or.inl rfl) ⟨rfl, rfl, hr9⟩
          · rw [if_neg c8] at h
            refine K_iconst (v := 3) rfl (by decide) ?_
            obtain rfl := Option.some.inj h
            exact K_iret rfl (Or.inl rfl) ⟨rfl, rfl, hr7⟩
        · rw [if_neg c6] at h
          refine K_iconst (v := 2) rfl (by decide) ?_
          obtain rfl := Option.some.inj h
          exact K_iret rfl (Or.inl rfl) ⟨rfl, rfl, hr5⟩
      · rw [if_neg c4] at h
        refine K_iconst (v := 1) rfl (by decide) ?_
        obtain rfl := Option.some.inj h
        exact K_iret rfl (Or.inl rfl) ⟨rfl, rfl, hr3⟩
    · rw [if_neg c2] at h
      refine K_iconst (v := 0) rfl (by decide) ?_
      obtain rfl := Option.some.inj h
      exact K_iret rfl (Or.inl rfl) ⟨rfl, rfl, hr1⟩
set_option maxRecDepth 20000 in
theorem F_Model_value {X : mX}  {M : mM} {r : Int32 × mM} (hM : Fx M)  (h : f_Model_value  M = some r) : EV X (3 + 1) 167 [.ref 436] M (fun v M' => v = some (.int r.1) ∧ r.2 = M' ∧ Fx r.2) := by
    refine EV_of (lc := [(0, .ref 436)]) (Nat.le_of_ble_eq_true rfl) (by exact Nat.le_of_ble_eq_true rfl) (by exact List.forall_mem_cons.mpr ⟨rfl, fun _ h => absurd h List.not_mem_nil⟩) ?_
    unfold f_Model_value at h
    refine K_aload_n rfl 0 rfl ?_
    obtain ⟨r1, er1, h⟩ := Option.bind_eq_some_iff.mp h
    refine K_cV [] [] rfl rfl (Nat.le_of_ble_eq_true rfl) (Nat.le_of_ble_eq_true rfl) sh_436 hM rfl (EV_le (Nat.le_of_ble_eq_true rfl) (F_Model_see hM  er1)) (fun v' M' hq => ?_)
    obtain ⟨rfl, rfl, hr1⟩ := hq
    refine K_pop rfl rfl ?_
    refine K_aload_n rfl 0 rfl ?_
    refine K_gI rfl sh_436 hr1 rfl rfl 8 rfl ?_
    refine K_istore_n rfl ?_
    refine K_aload_n rfl 1 rfl ?_
    refine K_aload_n rfl 1 rfl ?_
    refine K_gI rfl sh_436 hr1 rfl rfl 8 rfl ?_
    obtain ⟨r2, er2, h⟩ := Option.bind_eq_some_iff.mp h
    refine K_cV [.int (r1.2.2.1 436 8)] [] rfl rfl (Nat.le_of_ble_eq_true rfl) (Nat.le_of_ble_eq_true rfl) sh_436 hr1 rfl (EV_le (Nat.le_of_ble_eq_true rfl) (F_Model_isDigit hr1  er2)) (fun v' M' hq => ?_)
    obtain ⟨rfl, rfl, hr2⟩ := hq
    refine K_if_eq rfl (fun c3 => ?_) (fun c3 => ?_)
    · rw [if_pos c3] at h
      refine K_aload_n rfl 1 rfl ?_
      obtain ⟨r4, er4, h⟩ := Option.bind_eq_some_iff.mp h
      refine K_cV [] [] rfl rfl (Nat.le_of_ble_eq_true rfl) (Nat.le_of_ble_eq_true rfl) sh_436 hr2 rfl (EV_le (Nat.le_of_ble_eq_true rfl) (F_Model_wordHere hr2  er4)) (fun v' M' hq => ?_)
      obtain ⟨rfl, rfl, hr4⟩ := hq
      refine K_istore_n rfl ?_
      refine K_iload_n rfl 0 rfl ?_
      refine K_if_ge rfl (fun c5 => ?_) (fun c5 => ?_)
      · rw [if_pos c5] at h
        refine K_aload_n rfl 2 rfl ?_
        refine K_iload_n rfl 1 rfl ?_
        obtain ⟨r6, er6, h⟩ := Option.bind_eq_some_iff.mp h
        refine K_cV [.int (r1.2.2.1 436 8)] [] rfl rfl (Nat.le_of_ble_eq_true rfl) (Nat.le_of_ble_eq_true rfl) sh_436 hr4 rfl (EV_le (Nat.le_of_ble_eq_true rfl) (F_Model_makes hr4  er6)) (fun v' M' hq => ?_)
        obtain ⟨rfl, rfl, hr6⟩ := hq
        refine K_if_ne rfl (fun c7 => ?_) (fun c7 => ?_)
        · rw [if_neg c7] at h
          refine K_aload_n rfl 2 rfl ?_
          obtain ⟨M8, eM8, h⟩ := Option.bind_eq_some_iff.mp h
          refine K_cV [] [] rfl rfl (Nat.le_of_ble_eq_true rfl) (Nat.le_of_ble_eq_true rfl) sh_436 hr6 rfl (EV_le (Nat.le_of_ble_eq_true rfl) (F_Model_passWord hr6  eM8)) (fun v' M' hq => ?_)
          obtain ⟨rfl, rfl, hM8⟩ := hq
          refine K_aload_n rfl 2 rfl ?_
          refine K_iconst (v := 1) rfl (by decide) ?_
          refine K_iload_n rfl 0 rfl ?_
          obtain ⟨M9, eM9, h⟩ := Option.bind_eq_some_iff.mp h
          refine K_cV [.int 1, .int r4.1] [] rfl rfl (Nat.le_of_ble_eq_true rfl) (Nat.le_of_ble_eq_true rfl) sh_436 hM8 rfl (EV_le (Nat.le_of_ble_eq_true rfl) (F_Model_puts hM8  eM9)) (fun v' M' hq => ?_)
          obtain ⟨rfl, rfl, hM9⟩ := hq
          refine K_iconst (v := 1) rfl (by decide) ?_
          obtain rfl := Option.some.inj h
          exact K_iret rfl (Or.inr ⟨rfl, by decide⟩) ⟨rfl, rfl, hM9⟩
        · rw [if_pos c7] at h
          refine K_iconst (v := 0) rfl (by decide) ?_
          obtain rfl := Option.some.inj h
          exact K_iret rfl (Or.inr ⟨rfl, by decide⟩) ⟨rfl, rfl, hr6⟩
      · rw [if_neg c5] at h
        refine K_aload_n rfl 2 rfl ?_
        refine K_iconst (v := 0) rfl (by decide) ?_
        refine K_iload_n rfl 1 rfl ?_
        obtain ⟨r10, er10, h⟩ := Option.bind_eq_some_iff.mp h
        refine K_cV [.int 0, .int (r1.2.2.1 436 8)] [] rfl rfl (Nat.le_of_ble_eq_true rfl) (Nat.le_of_ble_eq_true rfl) sh_436 hr4 rfl (EV_le (Nat.le_of_ble_eq_true rfl) (F_Model_fails hr4  er10)) (fun v' M' hq => ?_)
        obtain ⟨rfl, rfl, hr10⟩ := hq
        split at h
        · rename_i c11
          obtain rfl := Option.some.inj h
          exact K_iret rfl (Or.inr ⟨rfl, c11⟩) ⟨rfl, rfl, hr10⟩
        · cases h
    · rw [if_neg c3] at h
      refine K_aload_n rfl 1 rfl ?_
      refine K_iconst (v := 0) rfl (by decide) ?_
      refine K_ldc (v := 99999) rfl (by decide) (by decide) ?_
      obtain ⟨r12, er12, h⟩ := Option.bind_eq_some_iff.mp h
      refine K_cV [.int 0, .int 99999] [] rfl rfl (Nat.le_of_ble_eq_true rfl) (Nat.le_of_ble_eq_true rfl) sh_436 hr2 rfl (EV_le (Nat.le_of_ble_eq_true rfl) (F_Model_numberHere hr2  er12)) (fun v' M' hq => ?_)
      obtain ⟨rfl, rfl, hr12⟩ := hq
      refine K_if_eq rfl (fun c13 => ?_) (fun c13 => ?_)
      · rw [if_pos c13] at h
        refine K_iconst (v := 0) rfl (by decide) ?_
        obtain rfl := Option.some.inj h
        exact K_iret rfl (Or.inr ⟨rfl, by decide⟩) ⟨rfl, rfl, hr12⟩
      · rw [if_neg c13] at h
        refine K_aload_n rfl 1 rfl ?_
        refine K_iload_n rfl 0 rfl ?_
        obtain ⟨r14, er14, h⟩ := Option.bind_eq_some_iff.mp h
        refine K_cV [.int (r1.2.2.1 436 8)] [] rfl rfl (Nat.le_of_ble_eq_true rfl) (Nat.le_of_ble_eq_true rfl) sh_436 hr12 rfl (EV_le (Nat.le_of_ble_eq_true rfl) (F_Model_makes hr12  er14)) (fun v' M' hq => ?_)
        obtain ⟨rfl, rfl, hr14⟩ := hq
        refine K_if_ne rfl (fun c15 => ?_) (fun c15 => ?_)
        · rw [if_neg c15] at h
          refine K_aload_n rfl 1 rfl ?_
          refine K_iconst (v := 0) rfl (by decide) ?_
          refine K_aload_n rfl 1 rfl ?_
          refine K_gI rfl sh_436 hr14 rfl rfl 10 rfl ?_
          obtain ⟨M16, eM16, h⟩ := Option.bind_eq_some_iff.mp h
          refine K_cV [.int 0, .int (r14.2.2.1 436 10)] [] rfl rfl (Nat.le_of_ble_eq_true rfl) (Nat.le_of_ble_eq_true rfl) sh_436 hr14 rfl (EV_le (Nat.le_of_ble_eq_true rfl) (F_Model_puts hr14  eM16)) (fun v' M' hq => ?_)
          obtain ⟨rfl, rfl, hM16⟩ := hq
          refine K_iconst (v := 1) rfl (by decide) ?_
          obtain rfl := Option.some.inj h
          exact K_iret rfl (Or.inr ⟨rfl, by decide⟩) ⟨rfl, rfl, hM16⟩
        · rw [if_pos c15] at h
          refine K_iconst (v := 0) rfl (by decide) ?_
          obtain rfl := Option.some.inj h
          exact K_iret rfl (Or.inr ⟨rfl, by decide⟩) ⟨rfl, rfl, hr14⟩
set_option maxRecDepth 20000 in
theorem L_Model_term_74 {X : mX}  {k9 : mM → Option (Int32 × mM)} {r : Int32 × mM}  (hk9 : ∀  (M : mM), Fx M → k9  M = some r → KK X 4 166 9 [(0, .ref 436)] [] M (fun v M' => v = some (.int r.1) ∧ r.2 = M' ∧ Fx r.2)) (s0 : Int32) (M : mM) (hM : Fx M)  (h : f_Model_term_74  k9 s0 M = some r) : KK X 4 166 74 [(0, .ref 436)] [.int s0] M (fun v M' => v = some (.int r.1) ∧ r.2 = M' ∧ Fx r.2) := by
    unfold f_Model_term_74 at h
    refine K_istore_n rfl ?_
    refine K_aload_n rfl 1 rfl ?_
    refine K_dup rfl rfl ?_
    refine K_gI rfl sh_436 hM rfl rfl 8 rfl ?_
    refine K_iconst (v := 1) rfl (by decide) ?_
    refine K_iadd rfl ?_
    obtain ⟨M9, eM9, h⟩ := Option.bind_eq_some_iff.mp h
    refine K_pI rfl sh_436 hM rfl rfl 8 rfl eM9 (fun hM9 => ?_)
    refine K_aload_n rfl 1 rfl ?_
    obtain ⟨r10, er10, h⟩ := Option.bind_eq_some_iff.mp h
    refine K_cV [] [] rfl rfl (Nat.le_of_ble_eq_true rfl) (Nat.le_of_ble_eq_true rfl) sh_436 hM9 rfl (EV_le (Nat.le_of_ble_eq_true rfl) (F_Model_value hM9  er10)) (fun v' M' hq => ?_)
    obtain ⟨rfl, rfl, hr10⟩ := hq
    refine K_if_ne rfl (fun c11 => ?_) (fun c11 => ?_)
    · rw [if_neg c11] at h
      refine K_aload_n rfl 1 rfl ?_
      refine K_iload_n rfl 0 rfl ?_
      refine K_iconst (v := 0) rfl (by decide) ?_
      obtain ⟨M12, eM12, h⟩ := Option.bind_eq_some_iff.mp h
      refine K_cV [.int s0, .int 0] [] rfl rfl (Nat.le_of_ble_eq_true rfl) (Nat.le_of_ble_eq_true rfl) sh_436 hr10 rfl (EV_le (Nat.le_of_ble_eq_true rfl) (F_Model_puts hr10  eM12)) (fun v' M' hq => ?_)
      obtain ⟨rfl, rfl, hM12⟩ := hq
      refine K_goto rfl ?_
      refine K_pick [1] ?_
      exact hk9  _ hM12  h
    · rw [if_pos c11] at h
      refine K_iconst (v := 0) rfl (by decide) ?_
      obtain rfl := Option.some.inj h
      exact K_iret rfl (Or.inr ⟨rfl, by decide⟩) ⟨rfl, rfl, hr10⟩
set_option maxRecDepth 20000 in
theorem L_Model_term_36 {X : mX}  {k9 : mM → Option (Int32 × mM)} {r : Int32 × mM}  (hk9 : ∀  (M : mM), Fx M → k9  M = some r → KK X 4 166 9 [(0, .ref 436)] [] M (fun v M' => v = some (.int r.1) ∧ r.2 = M' ∧ Fx r.2))  (M : mM) (hM : Fx M)  (h : f_Model_term_36  k9  M = some r) : KK X 4 166 36 [(0, .ref 436)] [] M (fun v M' => v = some (.int r.1) ∧ r.2 = M' ∧ Fx r.2) := by
    unfold f_Model_term_36 at h
    refine K_aload_n rfl 0 rfl ?_
    refine K_gR rfl sh_436 hM rfl rfl 0 rfl r_436_0 ?_
    refine K_aload_n rfl 0 rfl ?_
    refine K_gI rfl sh_436 hM rfl rfl 8 rfl ?_
    obtain ⟨v5, ev5, h⟩ := Option.bind_eq_some_iff.mp h
    refine K_rdB rfl sh_437 (by decide) hM ev5 ?_
    refine K_bipush (v := 42) rfl (by decide) ?_
    refine K_ic_ne rfl (fun c6 => ?_) (fun c6 => ?_)
    · rw [if_neg c6] at h
      refine K_aload_n rfl 0 rfl ?_
      refine K_gR rfl sh_436 hM rfl rfl 0 rfl r_436_0 ?_
      refine K_aload_n rfl 0 rfl ?_
      refine K_gI rfl sh_436 hM rfl rfl 8 rfl ?_
      obtain ⟨v7, ev7, h⟩ := Option.bind_eq_some_iff.mp h
      refine K_rdB rfl sh_437 (by decide) hM ev7 ?_
      refine K_bipush (v := 47) rfl (by decide) ?_
      refine K_ic_ne rfl (fun c8 => ?_) (fun c8 => ?_)
      · rw [if_neg c8] at h
        refine K_bipush (v := 14) rfl (by decide) ?_
        refine K_pick [0] ?_
        exact L_Model_term_74   hk9 _ _ hM  h
      · rw [if_pos c8] at h
        refine K_iconst (v := 5) rfl (by decide) ?_
        refine K_goto rfl ?_
        refine K_pick [0] ?_
        exact L_Model_term_74   hk9 _ _ hM  h
    · rw [if_pos c6] at h
      refine K_iconst (v := 4) rfl (by decide) ?_
      refine K_goto rfl ?_
      refine K_pick [0] ?_
      exact L_Model_term_74   hk9 _ _ hM  h
set_option maxRecDepth 20000 in
theorem L_Model_term_9 {X : mX}  {r : Int32 × mM}  : ∀ (n : Nat)  (M : mM), Fx M → f_Model_term_9   n  M = some r → KK X 4 166 9 [(0, .ref 436)] [] M (fun v M' => v = some (.int r.1) ∧ r.2 = M' ∧ Fx r.2)
  | 0, _ => fun _ h => by cases h
  | n + 1, M => fun hM h => by
    unfold f_Model_term_9 at h
    refine K_aload_n rfl 0 rfl ?_
    obtain ⟨r3, er3, h⟩ := Option.bind_eq_some_iff.mp h
    refine K_cV [] [] rfl rfl (Nat.le_of_ble_eq_true rfl) (Nat.le_of_ble_eq_true rfl) sh_436 hM rfl (EV_le (Nat.le_of_ble_eq_true rfl) (F_Model_see hM  er3)) (fun v' M' hq => ?_)
    obtain ⟨rfl, rfl, hr3⟩ := hq
    refine K_bipush (v := 42) rfl (by decide) ?_
    refine K_ic_eq rfl (fun c4 => ?_) (fun c4 => ?_)
    · rw [if_pos c4] at h
      refine K_pick [0] ?_
      exact L_Model_term_36   (L_Model_term_9    n)  _ hr3  h
    · rw [if_neg c4] at h
      refine K_aload_n rfl 0 rfl ?_
      obtain ⟨r13, er13, h⟩ := Option.bind_eq_some_iff.mp h
      refine K_cV [] [] rfl rfl (Nat.le_of_ble_eq_true rfl) (Nat.le_of_ble_eq_true rfl) sh_436 hr3 rfl (EV_le (Nat.le_of_ble_eq_true rfl) (F_Model_see hr3  er13)) (fun v' M' hq => ?_)
      obtain ⟨rfl, rfl, hr13⟩ := hq
      refine K_bipush (v := 47) rfl (by decide) ?_
      refine K_ic_eq rfl (fun c14 => ?_) (fun c14 => ?_)
      · rw [if_pos c14] at h
        refine K_pick [0] ?_
        exact L_Model_term_36   (L_Model_term_9    n)  _ hr13  h
      · rw [if_neg c14] at h
        refine K_aload_n rfl 0 rfl ?_
        obtain ⟨r15, er15, h⟩ := Option.bind_eq_some_iff.mp h
        refine K_cV [] [] rfl rfl (Nat.le_of_ble_eq_true rfl) (Nat.le_of_ble_eq_true rfl) sh_436 hr13 rfl (EV_le (Nat.le_of_ble_eq_true rfl) (F_Model_see hr13  er15)) (fun v' M' hq => ?_)
        obtain ⟨rfl, rfl, hr15⟩ := hq
        refine K_bipush (v := 37) rfl (by decide) ?_
        refine K_ic_ne rfl (fun c16 => ?_) (fun c16 => ?_)
        · rw [if_neg c16] at h
          refine K_iconst (v := 1) rfl (by decide) ?_
          obtain rfl := Option.some.inj h
          exact K_iret rfl (Or.inr ⟨rfl, by decide⟩) ⟨rfl, rfl, hr15⟩
        · rw [if_pos c16] at h
          refine K_pick [0] ?_
          exact L_Model_term_36   (L_Model_term_9    n)  _ hr15  h
set_option maxRecDepth 20000 in
theorem F_Model_term {X : mX}  {M : mM} {r : Int32 × mM} (hM : Fx M)  (h : f_Model_term  M = some r) : EV X (4 + 1) 166 [.ref 436] M (fun v M' => v = some (.int r.1) ∧ r.2 = M' ∧ Fx r.2) := by
    refine EV_of (lc := [(0, .ref 436)]) (Nat.le_of_ble_eq_true rfl) (by exact Nat.le_of_ble_eq_true rfl) (by exact List.forall_mem_cons.mpr ⟨rfl, fun _ h => absurd h List.not_mem_nil⟩) ?_
    unfold f_Model_term at h
    refine K_aload_n rfl 0 rfl ?_
    obtain ⟨r1, er1, h⟩ := Option.bind_eq_some_iff.mp h
    refine K_cV [] [] rfl rfl (Nat.le_of_ble_eq_true rfl) (Nat.le_of_ble_eq_true rfl) sh_436 hM rfl (EV_le (Nat.le_of_ble_eq_true rfl) (F_Model_value hM  er1)) (fun v' M' hq => ?_)
    obtain ⟨rfl, rfl, hr1⟩ := hq
    refine K_if_ne rfl (fun c2 => ?_) (fun c2 => ?_)
    · rw [if_neg c2] at h
      refine K_pick [0] ?_
      exact L_Model_term_9    FUEL  _ hr1  h
    · rw [if_pos c2] at h
      refine K_iconst (v := 0) rfl (by decide) ?_
      obtain rfl := Option.some.inj h
      exact K_iret rfl (Or.inr ⟨rfl, by decide⟩) ⟨rfl, rfl, hr1⟩
set_option maxRecDepth 20000 in
theorem L_Model_sum_46 {X : mX}  {k9 : mM → Option (Int32 × mM)} {r : Int32 × mM}  (hk9 : ∀  (M : mM), Fx M → k9  M = some r → KK X 5 165 9 [(0, .ref 436)] [] M (fun v M' => v = some (.int r.1) ∧ r.2 = M' ∧ Fx r.2)) (s0 : Int32) (M : mM) (hM : Fx M)  (h : f_Model_sum_46  k9 s0 M = some r) : KK X 5 165 46 [(0, .ref 436)] [.int s0] M (fun v M' => v = some (.int r.1) ∧ r.2 = M' ∧ Fx r.2) := by
    unfold f_Model_sum_46 at h
    refine K_istore_n rfl ?_
    refine K_aload_n rfl 1 rfl ?_
    refine K_dup rfl rfl ?_
    refine K_gI rfl sh_436 hM rfl rfl 8 rfl ?_
    refine K_iconst (v := 1) rfl (by decide) ?_
    refine K_iadd rfl ?_
    obtain ⟨M7, eM7, h⟩ := Option.bind_eq_some_iff.mp h
    refine K_pI rfl sh_436 hM rfl rfl 8 rfl eM7 (fun hM7 => ?_)
    refine K_aload_n rfl 1 rfl ?_
    obtain ⟨r8, er8, h⟩ := Option.bind_eq_some_iff.mp h
    refine K_cV [] [] rfl rfl (Nat.le_of_ble_eq_true rfl) (Nat.le_of_ble_eq_true rfl) sh_436 hM7 rfl (EV_le (Nat.le_of_ble_eq_true rfl) (F_Model_term hM7  er8)) (fun v' M' hq => ?_)
    obtain ⟨rfl, rfl, hr8⟩ := hq
    refine K_if_ne rfl (fun c9 => ?_) (fun c9 => ?_)
    · rw [if_neg c9] at h
      refine K_aload_n rfl 1 rfl ?_
      refine K_iload_n rfl 0 rfl ?_
      refine K_iconst (v := 0) rfl (by decide) ?_
      obtain ⟨M10, eM10, h⟩ := Option.bind_eq_some_iff.mp h
      refine K_cV [.int s0, .int 0] [] rfl rfl (Nat.le_of_ble_eq_true rfl) (Nat.le_of_ble_eq_true rfl) sh_436 hr8 rfl (EV_le (Nat.le_of_ble_eq_true rfl) (F_Model_puts hr8  eM10)) (fun v' M' hq => ?_)
      obtain ⟨rfl, rfl, hM10⟩ := hq
      refine K_goto rfl ?_
      refine K_pick [1] ?_
      exact hk9  _ hM10  h
    · rw [if_pos c9] at h
      refine K_iconst (v := 0) rfl (by decide) ?_
      obtain rfl := Option.some.inj h
      exact K_iret rfl (Or.inr ⟨rfl, by decide⟩) ⟨rfl, rfl, hr8⟩
set_option maxRecDepth 20000 in
theorem L_Model_sum_27 {X : mX}  {k9 : mM → Option (Int32 × mM)} {r : Int32 × mM}  (hk9 : ∀  (M : mM), Fx M → k9  M = some r → KK X 5 165 9 [(0, .ref 436)] [] M (fun v M' => v = some (.int r.1) ∧ r.2 = M' ∧ Fx r.2))  (M : mM) (hM : Fx M)  (h : f_Model_sum_27  k9  M = some r) : KK X 5 165 27 [(0, .ref 436)] [] M (fun v M' => v = some (.int r.1) ∧ r.2 = M' ∧ Fx r.2) := by
    unfold f_Model_sum_27 at h
    refine K_aload_n rfl 0 rfl ?_
    refine K_gR rfl sh_436 hM rfl rfl 0 rfl r_436_0 ?_
    refine K_aload_n rfl 0 rfl ?_
    refine K_gI rfl sh_436 hM rfl rfl 8 rfl ?_
    obtain ⟨v5, ev5, h⟩ := Option.bind_eq_some_iff.mp h
    refine K_rdB rfl sh_437 (by decide) hM ev5 ?_
    refine K_bipush (v := 43) rfl (by decide) ?_
    refine K_ic_ne rfl (fun c6 => ?_) (fun c6 => ?_)
    · rw [if_neg c6] at h
      refine K_iconst (v := 3) rfl (by decide) ?_
      refine K_pick [0] ?_
      exact L_Model_sum_46   hk9 _ _ hM  h
    · rw [if_pos c6] at h
      refine K_iconst (v := 2) rfl (by decide) ?_
      refine K_goto rfl ?_
      refine K_pick [0] ?_
      exact L_Model_sum_46   hk9 _ _ hM  h
set_option maxRecDepth 20000 in
theorem L_Model_sum_9 {X : mX}  {r : Int32 × mM}  : ∀ (n : Nat)  (M : mM), Fx M → f_Model_sum_9   n  M = some r → KK X 5 165 9 [(0, .ref 436)] [] M (fun v M' => v = some (.int r.1) ∧ r.2 = M' ∧ Fx r.2)
  | 0, _ => fun _ h => by cases h
  | n + 1, M => fun hM h => by
    unfold f_Model_sum_9 at h
    refine K_aload_n rfl 0 rfl ?_
    obtain ⟨r3, er3, h⟩ := Option.bind_eq_some_iff.mp h
    refine K_cV [] [] rfl rfl (Nat.le_of_ble_eq_true rfl) (Nat.le_of_ble_eq_true rfl) sh_436 hM rfl (EV_le (Nat.le_of_ble_eq_true rfl) (F_Model_see hM  er3)) (fun v' M' hq => ?_)
    obtain ⟨rfl, rfl, hr3⟩ := hq
    refine K_bipush (v := 43) rfl (by decide) ?_
    refine K_ic_eq rfl (fun c4 => ?_) (fun c4 => ?_)
    · rw [if_pos c4] at h
      refine K_pick [0] ?_
      exact L_Model_sum_27   (L_Model_sum_9    n)  _ hr3  h
    · rw [if_neg c4] at h
      refine K_aload_n rfl 0 rfl ?_
      obtain ⟨r11, er11, h⟩ := Option.bind_eq_some_iff.mp h
      refine K_cV [] [] rfl rfl (Nat.le_of_ble_eq_true rfl) (Nat.le_of_ble_eq_true rfl) sh_436 hr3 rfl (EV_le (Nat.le_of_ble_eq_true rfl) (F_Model_see hr3  er11)) (fun v' M' hq => ?_)
      obtain ⟨rfl, rfl, hr11⟩ := hq
      refine K_bipush (v := 45) rfl (by decide) ?_
      refine K_ic_ne rfl (fun c12 => ?_) (fun c12 => ?_)
      · rw [if_neg c12] at h
        refine K_iconst (v := 1) rfl (by decide) ?_
        obtain rfl := Option.some.inj h
        exact K_iret rfl (Or.inr ⟨rfl, by decide⟩) ⟨rfl, rfl, hr11⟩
      · rw [if_pos c12] at h
        refine K_pick [0] ?_
        exact L_Model_sum_27   (L_Model_sum_9    n)  _ hr11  h
set_option maxRecDepth 20000 in
theorem F_Model_sum {X : mX}  {M : mM} {r : Int32 × mM} (hM : Fx M)  (h : f_Model_sum  M = some r) : EV X (5 + 1) 165 [.ref 436] M (fun v M' => v = some (.int r.1) ∧ r.2 = M' ∧ Fx r.2) := by
    refine EV_of (lc := [(0, .ref 436)]) (Nat.le_of_ble_eq_true rfl) (by exact Nat.le_of_ble_eq_true rfl) (by exact List.forall_mem_cons.mpr ⟨rfl, fun _ h => absurd h List.not_mem_nil⟩) ?_
    unfold f_Model_sum at h
    refine K_aload_n rfl 0 rfl ?_
    obtain ⟨r1, er1, h⟩ := Option.bind_eq_some_iff.mp h
    refine K_cV [] [] rfl rfl (Nat.le_of_ble_eq_true rfl) (Nat.le_of_ble_eq_true rfl) sh_436 hM rfl (EV_le (Nat.le_of_ble_eq_true rfl) (F_Model_term hM  er1)) (fun v' M' hq => ?_)
    obtain ⟨rfl, rfl, hr1⟩ := hq
    refine K_if_ne rfl (fun c2 => ?_) (fun c2 => ?_)
    · rw [if_neg c2] at h
      refine K_pick [0] ?_
      exact L_Model_sum_9    FUEL  _ hr1  h
    · rw [if_pos c2] at h
      refine K_iconst (v := 0) rfl (by decide) ?_
      obtain rfl := Option.some.inj h
      exact K_iret rfl (Or.inr ⟨rfl, by decide⟩) ⟨rfl, rfl, hr1⟩
set_option maxRecDepth 20000 in
theorem F_Model_opens {X : mX} {x1 : Int32} {M : mM} {r : Int32 × mM} (hM : Fx M)  (h : f_Model_opens x1 M = some r) : EV X (1 + 1) 173 [.ref 436, .int x1] M (fun v M' => v = some (.int r.1) ∧ r.2 = M' ∧ Fx r.2) := by
    refine EV_of (lc := [(0, .ref 436), (1, .int x1)]) (Nat.le_of_ble_eq_true rfl) (by exact Nat.le_of_ble_eq_true rfl) (by exact List.forall_mem_cons.mpr ⟨rfl, List.forall_mem_cons.mpr ⟨rfl, fun _ h => absurd h List.not_mem_nil⟩⟩) ?_
    unfold f_Model_opens at h
    refine K_aload_n rfl 0 rfl ?_
    refine K_gI rfl sh_436 hM rfl rfl 13 rfl ?_
    refine K_bipush (v := 10) rfl (by decide) ?_
    refine K_ic_ne rfl (fun c1 => ?_) (fun c1 => ?_)
    · rw [if_neg c1] at h
      refine K_aload_n rfl 0 rfl ?_
      refine K_dup rfl rfl ?_
      refine K_gI rfl sh_436 hM rfl rfl 13 rfl ?_
      refine K_iconst (v := 1) rfl (by decide) ?_
      refine K_iadd rfl ?_
      obtain ⟨M2, eM2, h⟩ := Option.bind_eq_some_iff.mp h
      refine K_pI rfl sh_436 hM rfl rfl 13 rfl eM2 (fun hM2 => ?_)
      refine K_aload_n rfl 0 rfl ?_
      refine K_gR rfl sh_436 hM2 rfl rfl 15 rfl r_436_15 ?_
      refine K_aload_n rfl 0 rfl ?_
      refine K_gI rfl sh_436 hM2 rfl rfl 16 rfl ?_
      refine K_iload_n rfl 1 rfl ?_
      obtain ⟨M3, eM3, h⟩ := Option.bind_eq_some_iff.mp h
      refine K_wr rfl sh_443 hM2 eM3 (fun hM3 => ?_)
      refine K_aload_n rfl 0 rfl ?_
      refine K_dup rfl rfl ?_
      refine K_gI rfl sh_436 hM3 rfl rfl 16 rfl ?_
      refine K_iconst (v := 1) rfl (by decide) ?_
      refine K_iadd rfl ?_
      obtain ⟨M4, eM4, h⟩ := Option.bind_eq_some_iff.mp h
      refine K_pI rfl sh_436 hM3 rfl rfl 16 rfl eM4 (fun hM4 => ?_)
      refine K_iconst (v := 1) rfl (by decide) ?_
      obtain rfl := Option.some.inj h
      exact K_iret rfl (Or.inr ⟨rfl, by decide⟩) ⟨rfl, rfl, hM4⟩
    · rw [if_pos c1] at h
      refine K_aload_n rfl 0 rfl ?_
      refine K_iconst (v := 2) rfl (by decide) ?_
      refine K_aload_n rfl 0 rfl ?_
      refine K_gI rfl sh_436 hM rfl rfl 8 rfl ?_
      obtain ⟨r5, er5, h⟩ := Option.bind_eq_some_iff.mp h
      refine K_cV [.int 2, .int (M.2.1 436 8)] [] rfl rfl (Nat.le_of_ble_eq_true rfl) (Nat.le_of_ble_eq_true rfl) sh_436 hM rfl (EV_le (Nat.le_of_ble_eq_true rfl) (F_Model_fails hM  er5)) (fun v' M' hq => ?_)
      obtain ⟨rfl, rfl, hr5⟩ := hq
      split at h
      · rename_i c6
        obtain rfl := Option.some.inj h
        exact K_iret rfl (Or.inr ⟨rfl, c6⟩) ⟨rfl, rfl, hr5⟩
      · cases h
set_option maxRecDepth 20000 in
theorem L_Model_compare_152 {X : mX}  {r : Int32 × mM}  (s0 : Int32) (M : mM) (hM : Fx M)  (h : f_Model_compare_152   s0 M = some r) : KK X 6 174 152 [(0, .ref 436)] [.int s0] M (fun v M' => v = some (.int r.1) ∧ r.2 = M' ∧ Fx r.2) := by
    unfold f_Model_compare_152 at h
    refine K_istore rfl ?_
    refine K_aload_n rfl 1 rfl ?_
    obtain ⟨r13, er13, h⟩ := Option.bind_eq_some_iff.mp h
    refine K_cV [] [] rfl rfl (Nat.le_of_ble_eq_true rfl) (Nat.le_of_ble_eq_true rfl) sh_436 hM rfl (EV_le (Nat.le_of_ble_eq_true rfl) (F_Model_sum hM  er13)) (fun v' M' hq => ?_)
    obtain ⟨rfl, rfl, hr13⟩ := hq
    refine K_if_ne rfl (fun c14 => ?_) (fun c14 => ?_)
    · rw [if_neg c14] at h
      refine K_aload_n rfl 1 rfl ?_
      refine K_bipush (v := 6) rfl (by decide) ?_
      refine K_iload rfl 0 rfl ?_
      refine K_iadd rfl ?_
      refine K_iconst (v := 0) rfl (by decide) ?_
      obtain ⟨M15, eM15, h⟩ := Option.bind_eq_some_iff.mp h
      refine K_cV [.int (6 + s0), .int 0] [] rfl rfl (Nat.le_of_ble_eq_true rfl) (Nat.le_of_ble_eq_true rfl) sh_436 hr13 rfl (EV_le (Nat.le_of_ble_eq_true rfl) (F_Model_puts hr13  eM15)) (fun v' M' hq => ?_)
      obtain ⟨rfl, rfl, hM15⟩ := hq
      refine K_iconst (v := 1) rfl (by decide) ?_
      obtain rfl := Option.some.inj h
      exact K_iret rfl (Or.inr ⟨rfl, by decide⟩) ⟨rfl, rfl, hM15⟩
    · rw [if_pos c14] at h
      refine K_iconst (v := 0) rfl (by decide) ?_
      obtain rfl := Option.some.inj h
      exact K_iret rfl (Or.inr ⟨rfl, by decide⟩) ⟨rfl, rfl, hr13⟩
set_option maxRecDepth 20000 in
theorem L_Model_compare_105 {X : mX}  {r : Int32 × mM}  (l1 : Int32) (l2 : Int32) (l3 : Int32) (M : mM) (hM : Fx M)  (h : f_Model_compare_105   l1 l2 l3 M = some r) : KK X 6 174 105 [(0, .ref 436), (1, .int l1), (2, .int l2), (3, .int l3)] [] M (fun v M' => v = some (.int r.1) ∧ r.2 = M' ∧ Fx r.2) := by
    unfold f_Model_compare_105 at h
    refine K_aload_n rfl 0 rfl ?_
    refine K_iload_n rfl 2 rfl ?_
    obtain ⟨r8, er8, h⟩ := Option.bind_eq_some_iff.mp h
    refine K_cV [.int l2] [] rfl rfl (Nat.le_of_ble_eq_true rfl) (Nat.le_of_ble_eq_true rfl) sh_436 hM rfl (EV_le (Nat.le_of_ble_eq_true rfl) (F_Model_makes hM  er8)) (fun v' M' hq => ?_)
    obtain ⟨rfl, rfl, hr8⟩ := hq
    refine K_if_ne rfl (fun c9 => ?_) (fun c9 => ?_)
    · rw [if_neg c9] at h
      refine K_iload_n rfl 1 rfl ?_
      refine K_bipush (v := 60) rfl (by decide) ?_
      refine K_ic_ne rfl (fun c10 => ?_) (fun c10 => ?_)
      · rw [if_neg c10] at h
        refine K_iload_n rfl 1 rfl ?_
        refine K_bipush (v := 61) rfl (by decide) ?_
        refine K_ic_ne rfl (fun c11 => ?_) (fun c11 => ?_)
        · rw [if_neg c11] at h
          refine K_iload_n rfl 3 rfl ?_
          refine K_if_eq rfl (fun c12 => ?_) (fun c12 => ?_)
          · rw [if_pos c12] at h
            refine K_iconst (v := 4) rfl (by decide) ?_
            refine K_pick [0] ?_
            exact L_Model_compare_152    _ _ hr8  h
          · rw [if_neg c12] at h
            refine K_iconst (v := 3) rfl (by decide) ?_
            refine K_goto rfl ?_
            refine K_pick [0] ?_
            exact L_Model_compare_152    _ _ hr8  h
        · rw [if_pos c11] at h
          refine K_iconst (v := 2) rfl (by decide) ?_
          refine K_goto rfl ?_
          refine K_pick [0] ?_
          exact L_Model_compare_152    _ _ hr8  h
      · rw [if_pos c10] at h
        refine K_iload_n rfl 3 rfl ?_
        refine K_if_eq rfl (fun c16 => ?_) (fun c16 => ?_)
        · rw [if_pos c16] at h
          refine K_iconst (v := 0) rfl (by decide) ?_
          refine K_goto rfl ?_
          refine K_pick [0] ?_
          exact L_Model_compare_152    _ _ hr8  h
        · rw [if_neg c16] at h
          refine K_iconst (v := 1) rfl (by decide) ?_
          refine K_goto rfl ?_
          refine K_pick [0] ?_
          exact L_Model_compare_152    _ _ hr8  h
    · rw [if_pos c9] at h
      refine K_iconst (v := 0) rfl (by decide) ?_
      obtain rfl := Option.some.inj h
      exact K_iret rfl (Or.inr ⟨rfl, by decide⟩) ⟨rfl, rfl, hr8⟩
set_option maxRecDepth 20000 in
theorem L_Model_compare_90 {X : mX}  {r : Int32 × mM}  (l1 : Int32) (l2 : Int32) (s0 : Int32) (M : mM) (hM : Fx M)  (h : f_Model_compare_90   l1 l2 s0 M = some r) : KK X 6 174 90 [(0, .ref 436), (1, .int l1), (2, .int l2)] [.int s0] M (fun v M' => v = some (.int r.1) ∧ r.2 = M' ∧ Fx r.2) := by
    unfold f_Model_compare_90 at h
    refine K_istore_n rfl ?_
    refine K_iload_n rfl 0 rfl ?_
    refine K_if_eq rfl (fun c7 => ?_) (fun c7 => ?_)
    · rw [if_pos c7] at h
      refine K_pick [1, 2, 3, 0] ?_
      exact L_Model_compare_105    _ _ _ _ hM  h
    · rw [if_neg c7] at h
      refine K_aload_n rfl 1 rfl ?_
      refine K_dup rfl rfl ?_
      refine K_gI rfl sh_436 hM rfl rfl 8 rfl ?_
      refine K_iconst (v := 1) rfl (by decide) ?_
      refine K_iadd rfl ?_
      obtain ⟨M17, eM17, h⟩ := Option.bind_eq_some_iff.mp h
      refine K_pI rfl sh_436 hM rfl rfl 8 rfl eM17 (fun hM17 => ?_)
      refine K_pick [1, 2, 3, 0] ?_
      exact L_Model_compare_105    _ _ _ _ hM17  h
set_option maxRecDepth 20000 in
theorem L_Model_compare_89 {X : mX}  {r : Int32 × mM}  (l1 : Int32) (l2 : Int32) (M : mM) (hM : Fx M)  (h : f_Model_compare_89   l1 l2 M = some r) : KK X 6 174 89 [(0, .ref 436), (1, .int l1), (2, .int l2)] [] M (fun v M' => v = some (.int r.1) ∧ r.2 = M' ∧ Fx r.2) := by
    unfold f_Model_compare_89 at h
    refine K_iconst (v := 0) rfl (by decide) ?_
    refine K_pick [0, 1, 2] ?_
    exact L_Model_compare_90    _ _ _ _ hM  h
set_option maxRecDepth 20000 in
theorem L_Model_compare_44 {X : mX}  {r : Int32 × mM}  (l1 : Int32) (l2 : Int32) (M : mM) (hM : Fx M)  (h : f_Model_compare_44   l1 l2 M = some r) : KK X 6 174 44 [(0, .ref 436), (1, .int l1), (2, .int l2)] [] M (fun v M' => v = some (.int r.1) ∧ r.2 = M' ∧ Fx r.2) := by
    unfold f_Model_compare_44 at h
    refine K_aload_n rfl 0 rfl ?_
    refine K_dup rfl rfl ?_
    refine K_gI rfl sh_436 hM rfl rfl 8 rfl ?_
    refine K_iconst (v := 1) rfl (by decide) ?_
    refine K_iadd rfl ?_
    obtain ⟨M5, eM5, h⟩ := Option.bind_eq_some_iff.mp h
    refine K_pI rfl sh_436 hM rfl rfl 8 rfl eM5 (fun hM5 => ?_)
    refine K_iload_n rfl 1 rfl ?_
    refine K_bipush (v := 61) rfl (by decide) ?_
    refine K_ic_eq rfl (fun c6 => ?_) (fun c6 => ?_)
    · rw [if_pos c6] at h
      refine K_pick [0, 1, 2] ?_
      exact L_Model_compare_89    _ _ _ hM5  h
    · rw [if_neg c6] at h
      refine K_aload_n rfl 0 rfl ?_
      refine K_gI rfl sh_436 hM5 rfl rfl 8 rfl ?_
      refine K_aload_n rfl 0 rfl ?_
      refine K_gI rfl sh_436 hM5 rfl rfl 1 rfl ?_
      refine K_ic_ge rfl (fun c18 => ?_) (fun c18 => ?_)
      · rw [if_pos c18] at h
        refine K_pick [0, 1, 2] ?_
        exact L_Model_compare_89    _ _ _ hM5  h
      · rw [if_neg c18] at h
        refine K_aload_n rfl 0 rfl ?_
        refine K_gR rfl sh_436 hM5 rfl rfl 0 rfl r_436_0 ?_
        refine K_aload_n rfl 0 rfl ?_
        refine K_gI rfl sh_436 hM5 rfl rfl 8 rfl ?_
        obtain ⟨v19, ev19, h⟩ := Option.bind_eq_some_iff.mp h
        refine K_rdB rfl sh_437 (by decide) hM5 ev19 ?_
        refine K_bipush (v := 61) rfl (by decide) ?_
        refine K_ic_ne rfl (fun c20 => ?_) (fun c20 => ?_)
        · rw [if_neg c20] at h
          refine K_pick [0, 1, 2] ?_
          exact L_Model_compare_89    _ _ _ hM5  h
        · rw [if_pos c20] at h
          refine K_iconst (v := 1) rfl (by decide) ?_
          refine K_goto rfl ?_
          refine K_pick [0, 1, 2] ?_
          exact L_Model_compare_90    _ _ _ _ hM5  h
set_option maxRecDepth 20000 in
theorem F_Model_compare {X : mX}  {M : mM} {r : Int32 × mM} (hM : Fx M)  (h : f_Model_compare  M = some r) : EV X (6 + 1) 174 [.ref 436] M (fun v M' => v = some (.int r.1) ∧ r.2 = M' ∧ Fx r.2) := by
    refine EV_of (lc := [(0, .ref 436)]) (Nat.le_of_ble_eq_true rfl) (by exact Nat.le_of_ble_eq_true rfl) (by exact List.forall_mem_cons.mpr ⟨rfl, fun _ h => absurd h List.not_mem_nil⟩) ?_
    unfold f_Model_compare at h
    refine K_aload_n rfl 0 rfl ?_
    obtain ⟨r1, er1, h⟩ := Option.bind_eq_some_iff.mp h
    refine K_cV [] [] rfl rfl (Nat.le_of_ble_eq_true rfl) (Nat.le_of_ble_eq_true rfl) sh_436 hM rfl (EV_le (Nat.le_of_ble_eq_true rfl) (F_Model_sum hM  er1)) (fun v' M' hq => ?_)
    obtain ⟨rfl, rfl, hr1⟩ := hq
    refine K_if_ne rfl (fun c2 => ?_) (fun c2 => ?_)
    · rw [if_neg c2] at h
      refine K_aload_n rfl 0 rfl ?_
      obtain ⟨r3, er3, h⟩ := Option.bind_eq_some_iff.mp h
      refine K_cV [] [] rfl rfl (Nat.le_of_ble_eq_true rfl) (Nat.le_of_ble_eq_true rfl) sh_436 hr1 rfl (EV_le (Nat.le_of_ble_eq_true rfl) (F_Model_see hr1  er3)) (fun v' M' hq => ?_)
      obtain ⟨rfl, rfl, hr3⟩ := hq
      refine K_istore_n rfl ?_
      refine K_aload_n rfl 1 rfl ?_
      refine K_gI rfl sh_436 hr3 rfl rfl 8 rfl ?_
      refine K_istore_n rfl ?_
      refine K_iload_n rfl 1 rfl ?_
      refine K_bipush (v := 60) rfl (by decide) ?_
      refine K_ic_eq rfl (fun c4 => ?_) (fun c4 => ?_)
      · rw [if_pos c4] at h
        refine K_pick [2, 1, 0] ?_
        exact L_Model_compare_44    _ _ _ hr3  h
      · rw [if_neg c4] at h
        refine K_iload_n rfl 1 rfl ?_
        refine K_bipush (v := 61) rfl (by decide) ?_
        refine K_ic_eq rfl (fun c21 => ?_) (fun c21 => ?_)
        · rw [if_pos c21] at h
          refine K_pick [2, 1, 0] ?_
          exact L_Model_compare_44    _ _ _ hr3  h
        · rw [if_neg c21] at h
          refine K_iload_n rfl 1 rfl ?_
          refine K_bipush (v := 62) rfl (by decide) ?_
          refine K_ic_eq rfl (fun c22 => ?_) (fun c22 => ?_)
          · rw [if_pos c22] at h
            refine K_pick [2, 1, 0] ?_
            exact L_Model_compare_44    _ _ _ hr3  h
          · rw [if_neg c22] at h
            refine K_aload_n rfl 2 rfl ?_
            refine K_iconst (v := 0) rfl (by decide) ?_
            refine K_iload_n rfl 0 rfl ?_
            obtain ⟨r23, er23, h⟩ := Option.bind_eq_some_iff.mp h
            refine K_cV [.int 0, .int (r3.2.2.1 436 8)] [] rfl rfl (Nat.le_of_ble_eq_true rfl) (Nat.le_of_ble_eq_true rfl) sh_436 hr3 rfl (EV_le (Nat.le_of_ble_eq_true rfl) (F_Model_fails hr3  er23)) (fun v' M' hq => ?_)
            obtain ⟨rfl, rfl, hr23⟩ := hq
            split at h
            · rename_i c24
              obtain rfl := Option.some.inj h
              exact K_iret rfl (Or.inr ⟨rfl, c24⟩) ⟨rfl, rfl, hr23⟩
            · cases h
    · rw [if_pos c2] at h
      refine K_iconst (v := 0) rfl (by decide) ?_
      obtain rfl := Option.some.inj h
      exact K_iret rfl (Or.inr ⟨rfl, by decide⟩) ⟨rfl, rfl, hr1⟩
set_option maxRecDepth 20000 in
theorem L_Model_fact_2 {X : mX}  {r : Int32 × mM}  : ∀ (n : Nat) (l1 : Int32) (M : mM), Fx M → f_Model_fact_2   n l1 M = some r → KK X 7 172 2 [(0, .ref 436), (1, .int l1)] [] M (fun v M' => v = some (.int r.1) ∧ r.2 = M' ∧ Fx r.2)
  | 0, _, _ => fun _ h => by cases h
  | n + 1, l1, M => fun hM h => by
    unfold f_Model_fact_2 at h
    refine K_iload_n rfl 1 rfl ?_
    refine K_if_eq rfl (fun c1 => ?_) (fun c1 => ?_)
    · rw [if_pos c1] at h
      refine K_aload_n rfl 0 rfl ?_
      obtain ⟨r2, er2, h⟩ := Option.bind_eq_some_iff.mp h
      refine K_cV [] [] rfl rfl (Nat.le_of_ble_eq_true rfl) (Nat.le_of_ble_eq_true rfl) sh_436 hM rfl (EV_le (Nat.le_of_ble_eq_true rfl) (F_Model_compare hM  er2)) (fun v' M' hq => ?_)
      obtain ⟨rfl, rfl, hr2⟩ := hq
      split at h
      · rename_i c3
        obtain rfl := Option.some.inj h
        exact K_iret rfl (Or.inr ⟨rfl, c3⟩) ⟨rfl, rfl, hr2⟩
      · cases h
    · rw [if_neg c1] at h
      refine K_iconst (v := 0) rfl (by decide) ?_
      refine K_istore_n rfl ?_
      refine K_aload_n rfl 1 rfl ?_
      obtain ⟨r4, er4, h⟩ := Option.bind_eq_some_iff.mp h
      refine K_cV [] [] rfl rfl (Nat.le_of_ble_eq_true rfl) (Nat.le_of_ble_eq_true rfl) sh_436 hM rfl (EV_le (Nat.le_of_ble_eq_true rfl) (F_Model_see hM  er4)) (fun v' M' hq => ?_)
      obtain ⟨rfl, rfl, hr4⟩ := hq
      refine K_istore_n rfl ?_
      refine K_aload_n rfl 2 rfl ?_
      refine K_ldc2 (v := 7237492) rfl (by decide) ?_
      obtain ⟨r5, er5, h⟩ := Option.bind_eq_some_iff.mp h
      refine K_cV [.long 7237492] [] rfl rfl (Nat.le_of_ble_eq_true rfl) (Nat.le_of_ble_eq_true rfl) sh_436 hr4 rfl (EV_le (Nat.le_of_ble_eq_true rfl) (F_Model_isWord hr4  er5)) (fun v' M' hq => ?_)
      obtain ⟨rfl, rfl, hr5⟩ := hq
      refine K_if_eq rfl (fun c6 => ?_) (fun c6 => ?_)
      · rw [if_pos c6] at h
        refine K_iload_n rfl 0 rfl ?_
        refine K_bipush (v := 91) rfl (by decide) ?_
        refine K_ic_ne rfl (fun c7 => ?_) (fun c7 => ?_)
        · rw [if_neg c7] at h
          refine K_goto rfl ?_
          refine K_pick [2, 1] ?_
          exact L_Model_fact_2    n _ _ hr5  h
        · rw [if_pos c7] at h
          refine K_aload_n rfl 2 rfl ?_
          refine K_bipush (v := 91) rfl (by decide) ?_
          obtain ⟨r8, er8, h⟩ := Option.bind_eq_some_iff.mp h
          refine K_cV [.int 91] [] rfl rfl (Nat.le_of_ble_eq_true rfl) (Nat.le_of_ble_eq_true rfl) sh_436 hr5 rfl (EV_le (Nat.le_of_ble_eq_true rfl) (F_Model_opens hr5  er8)) (fun v' M' hq => ?_)
          obtain ⟨rfl, rfl, hr8⟩ := hq
          refine K_if_ne rfl (fun c9 => ?_) (fun c9 => ?_)
          · rw [if_neg c9] at h
            refine K_aload_n rfl 2 rfl ?_
            refine K_dup rfl rfl ?_
            refine K_gI rfl sh_436 hr8 rfl rfl 8 rfl ?_
            refine K_iconst (v := 1) rfl (by decide) ?_
            refine K_iadd rfl ?_
            obtain ⟨M10, eM10, h⟩ := Option.bind_eq_some_iff.mp h
            refine K_pI rfl sh_436 hr8 rfl rfl 8 rfl eM10 (fun hM10 => ?_)
            refine K_iconst (v := 1) rfl (by decide) ?_
            refine K_istore_n rfl ?_
            refine K_goto rfl ?_
            refine K_pick [2, 0] ?_
            exact L_Model_fact_2    n _ _ hM10  h
          · rw [if_pos c9] at h
            refine K_iconst (v := 0) rfl (by decide) ?_
            obtain rfl := Option.some.inj h
            exact K_iret rfl (Or.inr ⟨rfl, by decide⟩) ⟨rfl, rfl, hr8⟩
      · rw [if_neg c6] at h
        refine K_aload_n rfl 2 rfl ?_
        refine K_bipush (v := 11) rfl (by decide) ?_
        obtain ⟨r11, er11, h⟩ := Option.bind_eq_some_iff.mp h
        refine K_cV [.int 11] [] rfl rfl (Nat.le_of_ble_eq_true rfl) (Nat.le_of_ble_eq_true rfl) sh_436 hr5 rfl (EV_le (Nat.le_of_ble_eq_true rfl) (F_Model_opens hr5  er11)) (fun v' M' hq => ?_)
        obtain ⟨rfl, rfl, hr11⟩ := hq
        refine K_if_ne rfl (fun c12 => ?_) (fun c12 => ?_)
        · rw [if_neg c12] at h
          refine K_aload_n rfl 2 rfl ?_
          obtain ⟨M13, eM13, h⟩ := Option.bind_eq_some_iff.mp h
          refine K_cV [] [] rfl rfl (Nat.le_of_ble_eq_true rfl) (Nat.le_of_ble_eq_true rfl) sh_436 hr11 rfl (EV_le (Nat.le_of_ble_eq_true rfl) (F_Model_passWord hr11  eM13)) (fun v' M' hq => ?_)
          obtain ⟨rfl, rfl, hM13⟩ := hq
          refine K_iconst (v := 1) rfl (by decide) ?_
          refine K_istore_n rfl ?_
          refine K_goto rfl ?_
          refine K_goto rfl ?_
          refine K_pick [2, 0] ?_
          exact L_Model_fact_2    n _ _ hM13  h
        · rw [if_pos c12] at h
          refine K_iconst (v := 0) rfl (by decide) ?_
          obtain rfl := Option.some.inj h
          exact K_iret rfl (Or.inr ⟨rfl, by decide⟩) ⟨rfl, rfl, hr11⟩
set_option maxRecDepth 20000 in
theorem F_Model_fact {X : mX}  {M : mM} {r : Int32 × mM} (hM : Fx M)  (h : f_Model_fact  M = some r) : EV X (7 + 1) 172 [.ref 436] M (fun v M' => v = some (.int r.1) ∧ r.2 = M' ∧ Fx r.2) := by
    refine EV_of (lc := [(0, .ref 436)]) (Nat.le_of_ble_eq_true rfl) (by exact Nat.le_of_ble_eq_true rfl) (by exact List.forall_mem_cons.mpr ⟨rfl, fun _ h => absurd h List.not_mem_nil⟩) ?_
    unfold f_Model_fact at h
    refine K_iconst (v := 1) rfl (by decide) ?_
    refine K_istore_n rfl ?_
    refine K_pick [1, 0] ?_
    exact L_Model_fact_2    FUEL _ _ hM  h
set_option maxRecDepth 20000 in
theorem F_Model_strength {X : mX} {x0 : Int32} {M : mM} {r : Int32 × mM} (hM : Fx M)  (h : f_Model_strength x0 M = some r) : EV X (0 + 1) 177 [.int x0] M (fun v M' => v = some (.int r.1) ∧ r.2 = M' ∧ Fx r.2) := by
    refine EV_of (lc := [(0, .int x0)]) (Nat.le_of_ble_eq_true rfl) (by exact Nat.le_of_ble_eq_true rfl) (by exact List.forall_mem_cons.mpr ⟨rfl, fun _ h => absurd h List.not_mem_nil⟩) ?_
    unfold f_Model_strength at h
    refine K_iload_n rfl 0 rfl ?_
    refine K_bipush (v := 13) rfl (by decide) ?_
    refine K_ic_ne rfl (fun c1 => ?_) (fun c1 => ?_)
    · rw [if_neg c1] at h
      refine K_iload_n rfl 0 rfl ?_
      refine K_bipush (v := 12) rfl (by decide) ?_
      refine K_ic_ne rfl (fun c2 => ?_) (fun c2 => ?_)
      · rw [if_neg c2] at h
        refine K_iload_n rfl 0 rfl ?_
        refine K_bipush (v := 11) rfl (by decide) ?_
        refine K_ic_ne rfl (fun c3 => ?_) (fun c3 => ?_)
        · rw [if_neg c3] at h
          refine K_iconst (v := 0) rfl (by decide) ?_
          obtain rfl := Option.some.inj h
          exact K_iret rfl (Or.inl rfl) ⟨rfl, rfl, hM⟩
        · rw [if_pos c3] at h
          refine K_iconst (v := 3) rfl (by decide) ?_
          refine K_goto rfl ?_
          obtain rfl := Option.some.inj h
          exact K_iret rfl (Or.inl rfl) ⟨rfl, rfl, hM⟩
      · rw [if_pos c2] at h
        refine K_iconst (v := 2) rfl (by decide) ?_
        refine K_goto rfl ?_
        obtain rfl := Option.some.inj h
        exact K_iret rfl (Or.inl rfl) ⟨rfl, rfl, hM⟩
    · rw [if_pos c1] at h
      refine K_iconst (v := 1) rfl (by decide) ?_
      refine K_goto rfl ?_
      obtain rfl := Option.some.inj h
      exact K_iret rfl (Or.inl rfl) ⟨rfl, rfl, hM⟩
set_option maxRecDepth 20000 in
theorem L_Model_settles_0 {X : mX} {x1 : Int32} {r : mM}  : ∀ (n : Nat)  (M : mM), Fx M → f_Model_settles_0 x1  n  M = some r → KK X 1 176 0 [(0, .ref 436), (1, .int x1)] [] M (fun v M' => v = none ∧ r = M' ∧ Fx r)
  | 0, _ => fun _ h => by cases h
  | n + 1, M => fun hM h => by
    unfold f_Model_settles_0 at h
    refine K_aload_n rfl 0 rfl ?_
    refine K_gI rfl sh_436 hM rfl rfl 16 rfl ?_
    refine K_if_le rfl (fun c1 => ?_) (fun c1 => ?_)
    · rw [if_pos c1] at h
      obtain rfl := Option.some.inj h
      exact K_vret rfl rfl ⟨rfl, rfl, hM⟩
    · rw [if_neg c1] at h
      refine K_aload_n rfl 0 rfl ?_
      refine K_gR rfl sh_436 hM rfl rfl 15 rfl r_436_15 ?_
      refine K_aload_n rfl 0 rfl ?_
      refine K_gI rfl sh_436 hM rfl rfl 16 rfl ?_
      refine K_iconst (v := 1) rfl (by decide) ?_
      refine K_isub rfl ?_
      obtain ⟨v2, ev2, h⟩ := Option.bind_eq_some_iff.mp h
      refine K_rd rfl sh_443 hM ev2 ?_
      obtain ⟨r3, er3, h⟩ := Option.bind_eq_some_iff.mp h
      refine K_callS [.int v2] [] rfl rfl (Nat.le_of_ble_eq_true rfl) (Nat.le_of_ble_eq_true rfl) (EV_le (Nat.le_of_ble_eq_true rfl) (F_Model_strength hM  er3)) (fun v' M' hq => ?_)
      obtain ⟨rfl, rfl, hr3⟩ := hq
      refine K_iload_n rfl 1 rfl ?_
      refine K_ic_lt rfl (fun c4 => ?_) (fun c4 => ?_)
      · rw [if_pos c4] at h
        obtain rfl := Option.some.inj h
        exact K_vret rfl rfl ⟨rfl, rfl, hr3⟩
      · rw [if_neg c4] at h
        refine K_aload_n rfl 0 rfl ?_
        refine K_dup rfl rfl ?_
        refine K_gI rfl sh_436 hr3 rfl rfl 16 rfl ?_
        refine K_iconst (v := 1) rfl (by decide) ?_
        refine K_isub rfl ?_
        obtain ⟨M5, eM5, h⟩ := Option.bind_eq_some_iff.mp h
        refine K_pI rfl sh_436 hr3 rfl rfl 16 rfl eM5 (fun hM5 => ?_)
        refine K_aload_n rfl 0 rfl ?_
        refine K_aload_n rfl 0 rfl ?_
        refine K_gR rfl sh_436 hM5 rfl rfl 15 rfl r_436_15 ?_
        refine K_aload_n rfl 0 rfl ?_
        refine K_gI rfl sh_436 hM5 rfl rfl 16 rfl ?_
        obtain ⟨v6, ev6, h⟩ := Option.bind_eq_some_iff.mp h
        refine K_rd rfl sh_443 hM5 ev6 ?_
        refine K_iconst (v := 0) rfl (by decide) ?_
        obtain ⟨M7, eM7, h⟩ := Option.bind_eq_some_iff.mp h
        refine K_cV [.int v6, .int 0] [] rfl rfl (Nat.le_of_ble_eq_true rfl) (Nat.le_of_ble_eq_true rfl) sh_436 hM5 rfl (EV_le (Nat.le_of_ble_eq_true rfl) (F_Model_puts hM5  eM7)) (fun v' M' hq => ?_)
        obtain ⟨rfl, rfl, hM7⟩ := hq
        refine K_aload_n rfl 0 rfl ?_
        refine K_gR rfl sh_436 hM7 rfl rfl 15 rfl r_436_15 ?_
        refine K_aload_n rfl 0 rfl ?_
        refine K_gI rfl sh_436 hM7 rfl rfl 16 rfl ?_
        obtain ⟨v8, ev8, h⟩ := Option.bind_eq_some_iff.mp h
        refine K_rd rfl sh_443 hM7 ev8 ?_
        refine K_bipush (v := 11) rfl (by decide) ?_
        refine K_ic_ne rfl (fun c9 => ?_) (fun c9 => ?_)
        · rw [if_neg c9] at h
          refine K_pick [0, 1] ?_
          exact L_Model_settles_0    n  _ hM7  h
        · rw [if_pos c9] at h
          refine K_aload_n rfl 0 rfl ?_
          refine K_dup rfl rfl ?_
          refine K_gI rfl sh_436 hM7 rfl rfl 13 rfl ?_
          refine K_iconst (v := 1) rfl (by decide) ?_
          refine K_isub rfl ?_
          obtain ⟨M10, eM10, h⟩ := Option.bind_eq_some_iff.mp h
          refine K_pI rfl sh_436 hM7 rfl rfl 13 rfl eM10 (fun hM10 => ?_)
          refine K_goto rfl ?_
          refine K_pick [0, 1] ?_
          exact L_Model_settles_0    n  _ hM10  h
set_option maxRecDepth 20000 in
theorem F_Model_settles {X : mX} {x1 : Int32} {M : mM} {r : mM} (hM : Fx M)  (h : f_Model_settles x1 M = some r) : EV X (1 + 1) 176 [.ref 436, .int x1] M (fun v M' => v = none ∧ r = M' ∧ Fx r) := by
    refine EV_of (lc := [(0, .ref 436), (1, .int x1)]) (Nat.le_of_ble_eq_true rfl) (by exact Nat.le_of_ble_eq_true rfl) (by exact List.forall_mem_cons.mpr ⟨rfl, List.forall_mem_cons.mpr ⟨rfl, fun _ h => absurd h List.not_mem_nil⟩⟩) ?_
    unfold f_Model_settles at h
    refine K_pick [0, 1] ?_
    exact L_Model_settles_0    FUEL  _ hM  h
set_option maxRecDepth 20000 in
theorem L_Model_isInside_2 {X : mX}  {r : Int32 × mM}  : ∀ (n : Nat) (l1 : Int32) (M : mM), Fx M → f_Model_isInside_2   n l1 M = some r → KK X 0 178 2 [(0, .ref 436), (1, .int l1)] [] M (fun v M' => v = some (.int r.1) ∧ r.2 = M' ∧ Fx r.2)
  | 0, _, _ => fun _ h => by cases h
  | n + 1, l1, M => fun hM h => by
    unfold f_Model_isInside_2 at h
    refine K_iload_n rfl 1 rfl ?_
    refine K_aload_n rfl 0 rfl ?_
    refine K_gI rfl sh_436 hM rfl rfl 16 rfl ?_
    refine K_ic_ge rfl (fun c1 => ?_) (fun c1 => ?_)
    · rw [if_pos c1] at h
      refine K_iconst (v := 0) rfl (by decide) ?_
      obtain rfl := Option.some.inj h
      exact K_iret rfl (Or.inr ⟨rfl, by decide⟩) ⟨rfl, rfl, hM⟩
    · rw [if_neg c1] at h
      refine K_aload_n rfl 0 rfl ?_
      refine K_gR rfl sh_436 hM rfl rfl 15 rfl r_436_15 ?_
      refine K_iload_n rfl 1 rfl ?_
      obtain ⟨v2, ev2, h⟩ := Option.bind_eq_some_iff.mp h
      refine K_rd rfl sh_443 hM ev2 ?_
      refine K_bipush (v := 91) rfl (by decide) ?_
      refine K_ic_ne rfl (fun c3 => ?_) (fun c3 => ?_)
      · rw [if_neg c3] at h
        refine K_iinc (y := (l1 + 1)) rfl 1 rfl rfl ?_
        refine K_goto rfl ?_
        refine K_pick [1, 0] ?_
        exact L_Model_isInside_2    n _ _ hM  h
      · rw [if_pos c3] at h
        refine K_iconst (v := 1) rfl (by decide) ?_
        obtain rfl := Option.some.inj h
        exact K_iret rfl (Or.inr ⟨rfl, by decide⟩) ⟨rfl, rfl, hM⟩
set_option maxRecDepth 20000 in
theorem F_Model_isInside {X : mX}  {M : mM} {r : Int32 × mM} (hM : Fx M)  (h : f_Model_isInside  M = some r) : EV X (0 + 1) 178 [.ref 436] M (fun v M' => v = some (.int r.1) ∧ r.2 = M' ∧ Fx r.2) := by
    refine EV_of (lc := [(0, .ref 436)]) (Nat.le_of_ble_eq_true rfl) (by exact Nat.le_of_ble_eq_true rfl) (by exact List.forall_mem_cons.mpr ⟨rfl, fun _ h => absurd h List.not_mem_nil⟩) ?_
    unfold f_Model_isInside at h
    refine K_iconst (v := 0) rfl (by decide) ?_
    refine K_istore_n rfl ?_
    refine K_pick [1, 0] ?_
    exact L_Model_isInside_2    FUEL _ _ hM  h
set_option maxRecDepth 20000 in
theorem L_Model_closes_5 {X : mX}  {r : mM}  : ∀ (n : Nat)  (M : mM), Fx M → f_Model_closes_5   n  M = some r → KK X 2 175 5 [(0, .ref 436)] [] M (fun v M' => v = none ∧ r = M' ∧ Fx r)
  | 0, _ => fun _ h => by cases h
  | n + 1, M => fun hM h => by
    unfold f_Model_closes_5 at h
    refine K_aload_n rfl 0 rfl ?_
    obtain ⟨r2, er2, h⟩ := Option.bind_eq_some_iff.mp h
    refine K_cV [] [] rfl rfl (Nat.le_of_ble_eq_true rfl) (Nat.le_of_ble_eq_true rfl) sh_436 hM rfl (EV_le (Nat.le_of_ble_eq_true rfl) (F_Model_see hM  er2)) (fun v' M' hq => ?_)
    obtain ⟨rfl, rfl, hr2⟩ := hq
    refine K_bipush (v := 93) rfl (by decide) ?_
    refine K_ic_ne rfl (fun c3 => ?_) (fun c3 => ?_)
    · rw [if_neg c3] at h
      obtain rfl := Option.some.inj h
      exact K_vret rfl rfl ⟨rfl, rfl, hr2⟩
    · rw [if_pos c3] at h
      refine K_aload_n rfl 0 rfl ?_
      obtain ⟨r4, er4, h⟩ := Option.bind_eq_some_iff.mp h
      refine K_cV [] [] rfl rfl (Nat.le_of_ble_eq_true rfl) (Nat.le_of_ble_eq_true rfl) sh_436 hr2 rfl (EV_le (Nat.le_of_ble_eq_true rfl) (F_Model_isInside hr2  er4)) (fun v' M' hq => ?_)
      obtain ⟨rfl, rfl, hr4⟩ := hq
      refine K_if_eq rfl (fun c5 => ?_) (fun c5 => ?_)
      · rw [if_pos c5] at h
        obtain rfl := Option.some.inj h
        exact K_vret rfl rfl ⟨rfl, rfl, hr4⟩
      · rw [if_neg c5] at h
        refine K_aload_n rfl 0 rfl ?_
        refine K_iconst (v := 1) rfl (by decide) ?_
        obtain ⟨M6, eM6, h⟩ := Option.bind_eq_some_iff.mp h
        refine K_cV [.int 1] [] rfl rfl (Nat.le_of_ble_eq_true rfl) (Nat.le_of_ble_eq_true rfl) sh_436 hr4 rfl (EV_le (Nat.le_of_ble_eq_true rfl) (F_Model_settles hr4  eM6)) (fun v' M' hq => ?_)
        obtain ⟨rfl, rfl, hM6⟩ := hq
        refine K_aload_n rfl 0 rfl ?_
        refine K_dup rfl rfl ?_
        refine K_gI rfl sh_436 hM6 rfl rfl 16 rfl ?_
        refine K_iconst (v := 1) rfl (by decide) ?_
        refine K_isub rfl ?_
        obtain ⟨M7, eM7, h⟩ := Option.bind_eq_some_iff.mp h
        refine K_pI rfl sh_436 hM6 rfl rfl 16 rfl eM7 (fun hM7 => ?_)
        refine K_aload_n rfl 0 rfl ?_
        refine K_dup rfl rfl ?_
        refine K_gI rfl sh_436 hM7 rfl rfl 13 rfl ?_
        refine K_iconst (v := 1) rfl (by decide) ?_
        refine K_isub rfl ?_
        obtain ⟨M8, eM8, h⟩ := Option.bind_eq_some_iff.mp h
        refine K_pI rfl sh_436 hM7 rfl rfl 13 rfl eM8 (fun hM8 => ?_)
        refine K_aload_n rfl 0 rfl ?_
        refine K_dup rfl rfl ?_
        refine K_gI rfl sh_436 hM8 rfl rfl 8 rfl ?_
        refine K_iconst (v := 1) rfl (by decide) ?_
        refine K_iadd rfl ?_
        obtain ⟨M9, eM9, h⟩ := Option.bind_eq_some_iff.mp h
        refine K_pI rfl sh_436 hM8 rfl rfl 8 rfl eM9 (fun hM9 => ?_)
        refine K_aload_n rfl 0 rfl ?_
        refine K_iconst (v := 3) rfl (by decide) ?_
        obtain ⟨M10, eM10, h⟩ := Option.bind_eq_some_iff.mp h
        refine K_cV [.int 3] [] rfl rfl (Nat.le_of_ble_eq_true rfl) (Nat.le_of_ble_eq_true rfl) sh_436 hM9 rfl (EV_le (Nat.le_of_ble_eq_true rfl) (F_Model_settles hM9  eM10)) (fun v' M' hq => ?_)
        obtain ⟨rfl, rfl, hM10⟩ := hq
        refine K_goto rfl ?_
        refine K_pick [0] ?_
        exact L_Model_closes_5    n  _ hM10  h
set_option maxRecDepth 20000 in
theorem F_Model_closes {X : mX}  {M : mM} {r : mM} (hM : Fx M)  (h : f_Model_closes  M = some r) : EV X (2 + 1) 175 [.ref 436] M (fun v M' => v = none ∧ r = M' ∧ Fx r) := by
    refine EV_of (lc := [(0, .ref 436)]) (Nat.le_of_ble_eq_true rfl) (by exact Nat.le_of_ble_eq_true rfl) (by exact List.forall_mem_cons.mpr ⟨rfl, fun _ h => absurd h List.not_mem_nil⟩) ?_
    unfold f_Model_closes at h
    refine K_aload_n rfl 0 rfl ?_
    refine K_iconst (v := 3) rfl (by decide) ?_
    obtain ⟨M1, eM1, h⟩ := Option.bind_eq_some_iff.mp h
    refine K_cV [.int 3] [] rfl rfl (Nat.le_of_ble_eq_true rfl) (Nat.le_of_ble_eq_true rfl) sh_436 hM rfl (EV_le (Nat.le_of_ble_eq_true rfl) (F_Model_settles hM  eM1)) (fun v' M' hq => ?_)
    obtain ⟨rfl, rfl, hM1⟩ := hq
    refine K_pick [0] ?_
    exact L_Model_closes_5    FUEL  _ hM1  h
set_option maxRecDepth 20000 in
theorem L_Model_tested_76 {X : mX}  {k12 : Int32 → mM → Option (Int32 × mM)} {r : Int32 × mM}  (hk12 : ∀ (l1 : Int32) (M : mM), Fx M → k12 l1 M = some r → KK X 8 171 12 [(0, .ref 436), (1, .int l1)] [] M (fun v M' => v = some (.int r.1) ∧ r.2 = M' ∧ Fx r.2)) (l1 : Int32) (s0 : Int32) (M : mM) (hM : Fx M)  (h : f_Model_tested_76  k12 l1 s0 M = some r) : KK X 8 171 76 [(0, .ref 436), (1, .int l1)] [.int s0] M (fun v M' => v = some (.int r.1) ∧ r.2 = M' ∧ Fx r.2) := by
    unfold f_Model_tested_76 at h
    refine K_istore_n rfl ?_
    refine K_aload_n rfl 1 rfl ?_
    obtain ⟨M18, eM18, h⟩ := Option.bind_eq_some_iff.mp h
    refine K_cV [] [] rfl rfl (Nat.le_of_ble_eq_true rfl) (Nat.le_of_ble_eq_true rfl) sh_436 hM rfl (EV_le (Nat.le_of_ble_eq_true rfl) (F_Model_passWord hM  eM18)) (fun v' M' hq => ?_)
    obtain ⟨rfl, rfl, hM18⟩ := hq
    refine K_aload_n rfl 1 rfl ?_
    refine K_iload_n rfl 0 rfl ?_
    obtain ⟨r19, er19, h⟩ := Option.bind_eq_some_iff.mp h
    refine K_callS [.int s0] [.ref 436] rfl rfl (Nat.le_of_ble_eq_true rfl) (Nat.le_of_ble_eq_true rfl) (EV_le (Nat.le_of_ble_eq_true rfl) (F_Model_strength hM18  er19)) (fun v' M' hq => ?_)
    obtain ⟨rfl, rfl, hr19⟩ := hq
    obtain ⟨M20, eM20, h⟩ := Option.bind_eq_some_iff.mp h
    refine K_cV [.int r19.1] [] rfl rfl (Nat.le_of_ble_eq_true rfl) (Nat.le_of_ble_eq_true rfl) sh_436 hr19 rfl (EV_le (Nat.le_of_ble_eq_true rfl) (F_Model_settles hr19  eM20)) (fun v' M' hq => ?_)
    obtain ⟨rfl, rfl, hM20⟩ := hq
    refine K_aload_n rfl 1 rfl ?_
    refine K_gR rfl sh_436 hM20 rfl rfl 15 rfl r_436_15 ?_
    refine K_aload_n rfl 1 rfl ?_
    refine K_gI rfl sh_436 hM20 rfl rfl 16 rfl ?_
    refine K_iload_n rfl 0 rfl ?_
    obtain ⟨M21, eM21, h⟩ := Option.bind_eq_some_iff.mp h
    refine K_wr rfl sh_443 hM20 eM21 (fun hM21 => ?_)
    refine K_aload_n rfl 1 rfl ?_
    refine K_dup rfl rfl ?_
    refine K_gI rfl sh_436 hM21 rfl rfl 16 rfl ?_
    refine K_iconst (v := 1) rfl (by decide) ?_
    refine K_iadd rfl ?_
    obtain ⟨M22, eM22, h⟩ := Option.bind_eq_some_iff.mp h
    refine K_pI rfl sh_436 hM21 rfl rfl 16 rfl eM22 (fun hM22 => ?_)
    refine K_goto rfl ?_
    refine K_pick [1, 2] ?_
    exact hk12 _ _ hM22  h
set_option maxRecDepth 20000 in
theorem L_Model_tested_54 {X : mX}  {k12 : Int32 → mM → Option (Int32 × mM)} {r : Int32 × mM}  (hk12 : ∀ (l1 : Int32) (M : mM), Fx M → k12 l1 M = some r → KK X 8 171 12 [(0, .ref 436), (1, .int l1)] [] M (fun v M' => v = some (.int r.1) ∧ r.2 = M' ∧ Fx r.2)) (s0 : Int32) (M : mM) (hM : Fx M)  (h : f_Model_tested_54  k12 s0 M = some r) : KK X 8 171 54 [(0, .ref 436)] [.int s0] M (fun v M' => v = some (.int r.1) ∧ r.2 = M' ∧ Fx r.2) := by
    unfold f_Model_tested_54 at h
    refine K_istore_n rfl ?_
    refine K_iload_n rfl 0 rfl ?_
    refine K_if_eq rfl (fun c15 => ?_) (fun c15 => ?_)
    · rw [if_pos c15] at h
      refine K_pick [1, 0] ?_
      exact hk12 _ _ hM  h
    · rw [if_neg c15] at h
      refine K_aload_n rfl 1 rfl ?_
      refine K_ldc2 (v := 6385252) rfl (by decide) ?_
      obtain ⟨r16, er16, h⟩ := Option.bind_eq_some_iff.mp h
      refine K_cV [.long 6385252] [] rfl rfl (Nat.le_of_ble_eq_true rfl) (Nat.le_of_ble_eq_true rfl) sh_436 hM rfl (EV_le (Nat.le_of_ble_eq_true rfl) (F_Model_isWord hM  er16)) (fun v' M' hq => ?_)
      obtain ⟨rfl, rfl, hr16⟩ := hq
      refine K_if_eq rfl (fun c17 => ?_) (fun c17 => ?_)
      · rw [if_pos c17] at h
        refine K_bipush (v := 13) rfl (by decide) ?_
        refine K_pick [1, 0] ?_
        exact L_Model_tested_76   hk12 _ _ _ hr16  h
      · rw [if_neg c17] at h
        refine K_bipush (v := 12) rfl (by decide) ?_
        refine K_goto rfl ?_
        refine K_pick [1, 0] ?_
        exact L_Model_tested_76   hk12 _ _ _ hr16  h
set_option maxRecDepth 20000 in
theorem L_Model_tested_49 {X : mX}  {k12 : Int32 → mM → Option (Int32 × mM)} {r : Int32 × mM}  (hk12 : ∀ (l1 : Int32) (M : mM), Fx M → k12 l1 M = some r → KK X 8 171 12 [(0, .ref 436), (1, .int l1)] [] M (fun v M' => v = some (.int r.1) ∧ r.2 = M' ∧ Fx r.2))  (M : mM) (hM : Fx M)  (h : f_Model_tested_49  k12  M = some r) : KK X 8 171 49 [(0, .ref 436)] [] M (fun v M' => v = some (.int r.1) ∧ r.2 = M' ∧ Fx r.2) := by
    unfold f_Model_tested_49 at h
    refine K_iconst (v := 1) rfl (by decide) ?_
    refine K_goto rfl ?_
    refine K_pick [0] ?_
    exact L_Model_tested_54   hk12 _ _ hM  h
set_option maxRecDepth 20000 in
theorem L_Model_tested_12 {X : mX}  {r : Int32 × mM}  : ∀ (n : Nat) (l1 : Int32) (M : mM), Fx M → f_Model_tested_12   n l1 M = some r → KK X 8 171 12 [(0, .ref 436), (1, .int l1)] [] M (fun v M' => v = some (.int r.1) ∧ r.2 = M' ∧ Fx r.2)
  | 0, _, _ => fun _ h => by cases h
  | n + 1, l1, M => fun hM h => by
    unfold f_Model_tested_12 at h
    refine K_iload_n rfl 1 rfl ?_
    refine K_if_eq rfl (fun c3 => ?_) (fun c3 => ?_)
    · rw [if_pos c3] at h
      refine K_aload_n rfl 0 rfl ?_
      obtain ⟨r4, er4, h⟩ := Option.bind_eq_some_iff.mp h
      refine K_cV [] [] rfl rfl (Nat.le_of_ble_eq_true rfl) (Nat.le_of_ble_eq_true rfl) sh_436 hM rfl (EV_le (Nat.le_of_ble_eq_true rfl) (F_Model_isInside hM  er4)) (fun v' M' hq => ?_)
      obtain ⟨rfl, rfl, hr4⟩ := hq
      refine K_if_eq rfl (fun c5 => ?_) (fun c5 => ?_)
      · rw [if_pos c5] at h
        refine K_aload_n rfl 0 rfl ?_
        refine K_iconst (v := 1) rfl (by decide) ?_
        obtain ⟨M6, eM6, h⟩ := Option.bind_eq_some_iff.mp h
        refine K_cV [.int 1] [] rfl rfl (Nat.le_of_ble_eq_true rfl) (Nat.le_of_ble_eq_true rfl) sh_436 hr4 rfl (EV_le (Nat.le_of_ble_eq_true rfl) (F_Model_settles hr4  eM6)) (fun v' M' hq => ?_)
        obtain ⟨rfl, rfl, hM6⟩ := hq
        refine K_iconst (v := 1) rfl (by decide) ?_
        obtain rfl := Option.some.inj h
        exact K_iret rfl (Or.inr ⟨rfl, by decide⟩) ⟨rfl, rfl, hM6⟩
      · rw [if_neg c5] at h
        refine K_aload_n rfl 0 rfl ?_
        obtain ⟨r7, er7, h⟩ := Option.bind_eq_some_iff.mp h
        refine K_cV [] [] rfl rfl (Nat.le_of_ble_eq_true rfl) (Nat.le_of_ble_eq_true rfl) sh_436 hr4 rfl (EV_le (Nat.le_of_ble_eq_true rfl) (F_Model_see hr4  er7)) (fun v' M' hq => ?_)
        obtain ⟨rfl, rfl, hr7⟩ := hq
        refine K_pop rfl rfl ?_
        refine K_aload_n rfl 0 rfl ?_
        refine K_iconst (v := 0) rfl (by decide) ?_
        refine K_aload_n rfl 0 rfl ?_
        refine K_gI rfl sh_436 hr7 rfl rfl 8 rfl ?_
        obtain ⟨r8, er8, h⟩ := Option.bind_eq_some_iff.mp h
        refine K_cV [.int 0, .int (r7.2.2.1 436 8)] [] rfl rfl (Nat.le_of_ble_eq_true rfl) (Nat.le_of_ble_eq_true rfl) sh_436 hr7 rfl (EV_le (Nat.le_of_ble_eq_true rfl) (F_Model_fails hr7  er8)) (fun v' M' hq => ?_)
        obtain ⟨rfl, rfl, hr8⟩ := hq
        split at h
        · rename_i c9
          obtain rfl := Option.some.inj h
          exact K_iret rfl (Or.inr ⟨rfl, c9⟩) ⟨rfl, rfl, hr8⟩
        · cases h
    · rw [if_neg c3] at h
      refine K_aload_n rfl 0 rfl ?_
      obtain ⟨r10, er10, h⟩ := Option.bind_eq_some_iff.mp h
      refine K_cV [] [] rfl rfl (Nat.le_of_ble_eq_true rfl) (Nat.le_of_ble_eq_true rfl) sh_436 hM rfl (EV_le (Nat.le_of_ble_eq_true rfl) (F_Model_fact hM  er10)) (fun v' M' hq => ?_)
      obtain ⟨rfl, rfl, hr10⟩ := hq
      refine K_if_ne rfl (fun c11 => ?_) (fun c11 => ?_)
      · rw [if_neg c11] at h
        refine K_aload_n rfl 0 rfl ?_
        obtain ⟨M12, eM12, h⟩ := Option.bind_eq_some_iff.mp h
        refine K_cV [] [] rfl rfl (Nat.le_of_ble_eq_true rfl) (Nat.le_of_ble_eq_true rfl) sh_436 hr10 rfl (EV_le (Nat.le_of_ble_eq_true rfl) (F_Model_closes hr10  eM12)) (fun v' M' hq => ?_)
        obtain ⟨rfl, rfl, hM12⟩ := hq
        refine K_aload_n rfl 0 rfl ?_
        refine K_ldc2 (v := 6385252) rfl (by decide) ?_
        obtain ⟨r13, er13, h⟩ := Option.bind_eq_some_iff.mp h
        refine K_cV [.long 6385252] [] rfl rfl (Nat.le_of_ble_eq_true rfl) (Nat.le_of_ble_eq_true rfl) sh_436 hM12 rfl (EV_le (Nat.le_of_ble_eq_true rfl) (F_Model_isWord hM12  er13)) (fun v' M' hq => ?_)
        obtain ⟨rfl, rfl, hr13⟩ := hq
        refine K_if_ne rfl (fun c14 => ?_) (fun c14 => ?_)
        · rw [if_neg c14] at h
          refine K_pick [0] ?_
          exact L_Model_tested_49   (L_Model_tested_12    n)  _ hr13  h
        · rw [if_pos c14] at h
          refine K_aload_n rfl 0 rfl ?_
          refine K_ldc2 (v := 28530) rfl (by decide) ?_
          obtain ⟨r23, er23, h⟩ := Option.bind_eq_some_iff.mp h
          refine K_cV [.long 28530] [] rfl rfl (Nat.le_of_ble_eq_true rfl) (Nat.le_of_ble_eq_true rfl) sh_436 hr13 rfl (EV_le (Nat.le_of_ble_eq_true rfl) (F_Model_isWord hr13  er23)) (fun v' M' hq => ?_)
          obtain ⟨rfl, rfl, hr23⟩ := hq
          refine K_if_eq rfl (fun c24 => ?_) (fun c24 => ?_)
          · rw [if_pos c24] at h
            refine K_iconst (v := 0) rfl (by decide) ?_
            refine K_pick [0] ?_
            exact L_Model_tested_54   (L_Model_tested_12    n) _ _ hr23  h
          · rw [if_neg c24] at h
            refine K_pick [0] ?_
            exact L_Model_tested_49   (L_Model_tested_12    n)  _ hr23  h
      · rw [if_pos c11] at h
        refine K_iconst (v := 0) rfl (by decide) ?_
        obtain rfl := Option.some.inj h
        exact K_iret rfl (Or.inr ⟨rfl, by decide⟩) ⟨rfl, rfl, hr10⟩
set_option maxRecDepth 20000 in
theorem F_Model_tested {X : mX}  {M : mM} {r : Int32 × mM} (hM : Fx M)  (h : f_Model_tested  M = some r) : EV X (8 + 1) 171 [.ref 436] M (fun v M' => v = some (.int r.1) ∧ r.2 = M' ∧ Fx r.2) := by
    refine EV_of (lc := [(0, .ref 436)]) (Nat.le_of_ble_eq_true rfl) (by exact Nat.le_of_ble_eq_true rfl) (by exact List.forall_mem_cons.mpr ⟨rfl, fun _ h => absurd h List.not_mem_nil⟩) ?_
    unfold f_Model_tested at h
    refine K_aload_n rfl 0 rfl ?_
    refine K_iconst (v := 0) rfl (by decide) ?_
    obtain ⟨M1, eM1, h⟩ := Option.bind_eq_some_iff.mp h
    refine K_pI rfl sh_436 hM rfl rfl 16 rfl eM1 (fun hM1 => ?_)
    refine K_aload_n rfl 0 rfl ?_
    refine K_iconst (v := 0) rfl (by decide) ?_
    obtain ⟨M2, eM2, h⟩ := Option.bind_eq_some_iff.mp h
    refine K_pI rfl sh_436 hM1 rfl rfl 13 rfl eM2 (fun hM2 => ?_)
    refine K_iconst (v := 1) rfl (by decide) ?_
    refine K_istore_n rfl ?_
    refine K_pick [1, 0] ?_
    exact L_Model_tested_12    FUEL _ _ hM2  h
set_option maxRecDepth 20000 in
theorem L_Model_isGoHere_110 {X : mX}  {r : Int32 × mM}  (l1 : Int32) (M : mM) (hM : Fx M)  (h : f_Model_isGoHere_110   l1 M = some r) : KK X 9 164 110 [(0, .ref 436), (1, .int l1)] [] M (fun v M' => v = some (.int r.1) ∧ r.2 = M' ∧ Fx r.2) := by
    unfold f_Model_isGoHere_110 at h
    refine K_aload_n rfl 0 rfl ?_
    refine K_gR rfl sh_436 hM rfl rfl 5 rfl r_436_5 ?_
    refine K_iload_n rfl 1 rfl ?_
    refine K_iconst (v := 3) rfl (by decide) ?_
    refine K_iadd rfl ?_
    refine K_aload_n rfl 0 rfl ?_
    refine K_gR rfl sh_436 hM rfl rfl 4 rfl r_436_4 ?_
    refine K_aload_n rfl 0 rfl ?_
    refine K_gI rfl sh_436 hM rfl rfl 11 rfl ?_
    obtain ⟨v12, ev12, h⟩ := Option.bind_eq_some_iff.mp h
    refine K_rd rfl sh_439 hM ev12 ?_
    obtain ⟨M13, eM13, h⟩ := Option.bind_eq_some_iff.mp h
    refine K_wr rfl sh_440 hM eM13 (fun hM13 => ?_)
    refine K_aload_n rfl 0 rfl ?_
    refine K_gR rfl sh_436 hM13 rfl rfl 6 rfl r_436_6 ?_
    refine K_aload_n rfl 0 rfl ?_
    refine K_gI rfl sh_436 hM13 rfl rfl 11 rfl ?_
    refine K_dup2 rfl ⟨rfl, rfl⟩ ?_
    obtain ⟨v14, ev14, h⟩ := Option.bind_eq_some_iff.mp h
    refine K_rd rfl sh_441 hM13 ev14 ?_
    refine K_iconst (v := 1) rfl (by decide) ?_
    refine K_iadd rfl ?_
    obtain ⟨M15, eM15, h⟩ := Option.bind_eq_some_iff.mp h
    refine K_wr rfl sh_441 hM13 eM15 (fun hM15 => ?_)
    refine K_iconst (v := 1) rfl (by decide) ?_
    obtain rfl := Option.some.inj h
    exact K_iret rfl (Or.inr ⟨rfl, by decide⟩) ⟨rfl, rfl, hM15⟩
set_option maxRecDepth 20000 in
theorem F_Model_isGoHere {X : mX}  {M : mM} {r : Int32 × mM} (hM : Fx M)  (h : f_Model_isGoHere  M = some r) : EV X (9 + 1) 164 [.ref 436] M (fun v M' => v = some (.int r.1) ∧ r.2 = M' ∧ Fx r.2) := by
    refine EV_of (lc := [(0, .ref 436)]) (Nat.le_of_ble_eq_true rfl) (by exact Nat.le_of_ble_eq_true rfl) (by exact List.forall_mem_cons.mpr ⟨rfl, fun _ h => absurd h List.not_mem_nil⟩) ?_
    unfold f_Model_isGoHere at h
    refine K_aload_n rfl 0 rfl ?_
    obtain ⟨M1, eM1, h⟩ := Option.bind_eq_some_iff.mp h
    refine K_cV [] [] rfl rfl (Nat.le_of_ble_eq_true rfl) (Nat.le_of_ble_eq_true rfl) sh_436 hM rfl (EV_le (Nat.le_of_ble_eq_true rfl) (F_Model_passWord hM  eM1)) (fun v' M' hq => ?_)
    obtain ⟨rfl, rfl, hM1⟩ := hq
    refine K_bipush (v := 48) rfl (by decide) ?_
    refine K_aload_n rfl 0 rfl ?_
    refine K_gI rfl sh_436 hM1 rfl rfl 11 rfl ?_
    refine K_imul rfl ?_
    refine K_iconst (v := 4) rfl (by decide) ?_
    refine K_aload_n rfl 0 rfl ?_
    refine K_gR rfl sh_436 hM1 rfl rfl 6 rfl r_436_6 ?_
    refine K_aload_n rfl 0 rfl ?_
    refine K_gI rfl sh_436 hM1 rfl rfl 11 rfl ?_
    obtain ⟨v2, ev2, h⟩ := Option.bind_eq_some_iff.mp h
    refine K_rd rfl sh_441 hM1 ev2 ?_
    refine K_imul rfl ?_
    refine K_iadd rfl ?_
    refine K_istore_n rfl ?_
    refine K_aload_n rfl 1 rfl ?_
    refine K_gR rfl sh_436 hM1 rfl rfl 5 rfl r_436_5 ?_
    refine K_iload_n rfl 0 rfl ?_
    refine K_aload_n rfl 1 rfl ?_
    refine K_gR rfl sh_436 hM1 rfl rfl 4 rfl r_436_4 ?_
    refine K_aload_n rfl 1 rfl ?_
    refine K_gI rfl sh_436 hM1 rfl rfl 11 rfl ?_
    obtain ⟨v3, ev3, h⟩ := Option.bind_eq_some_iff.mp h
    refine K_rd rfl sh_439 hM1 ev3 ?_
    obtain ⟨M4, eM4, h⟩ := Option.bind_eq_some_iff.mp h
    refine K_wr rfl sh_440 hM1 eM4 (fun hM4 => ?_)
    refine K_aload_n rfl 1 rfl ?_
    obtain ⟨r5, er5, h⟩ := Option.bind_eq_some_iff.mp h
    refine K_cV [] [] rfl rfl (Nat.le_of_ble_eq_true rfl) (Nat.le_of_ble_eq_true rfl) sh_436 hM4 rfl (EV_le (Nat.le_of_ble_eq_true rfl) (F_Model_sum hM4  er5)) (fun v' M' hq => ?_)
    obtain ⟨rfl, rfl, hr5⟩ := hq
    refine K_if_ne rfl (fun c6 => ?_) (fun c6 => ?_)
    · rw [if_neg c6] at h
      refine K_aload_n rfl 1 rfl ?_
      refine K_gR rfl sh_436 hr5 rfl rfl 5 rfl r_436_5 ?_
      refine K_iload_n rfl 0 rfl ?_
      refine K_iconst (v := 1) rfl (by decide) ?_
      refine K_iadd rfl ?_
      refine K_aload_n rfl 1 rfl ?_
      refine K_gR rfl sh_436 hr5 rfl rfl 4 rfl r_436_4 ?_
      refine K_aload_n rfl 1 rfl ?_
      refine K_gI rfl sh_436 hr5 rfl rfl 11 rfl ?_
      obtain ⟨v7, ev7, h⟩ := Option.bind_eq_some_iff.mp h
      refine K_rd rfl sh_439 hr5 ev7 ?_
      obtain ⟨M8, eM8, h⟩ := Option.bind_eq_some_iff.mp h
      refine K_wr rfl sh_440 hr5 eM8 (fun hM8 => ?_)
      refine K_aload_n rfl 1 rfl ?_
      refine K_gR rfl sh_436 hM8 rfl rfl 5 rfl r_436_5 ?_
      refine K_iload_n rfl 0 rfl ?_
      refine K_iconst (v := 2) rfl (by decide) ?_
      refine K_iadd rfl ?_
      refine K_iconst (v := (-1)) rfl (by decide) ?_
      obtain ⟨M9, eM9, h⟩ := Option.bind_eq_some_iff.mp h
      refine K_wr rfl sh_440 hM8 eM9 (fun hM9 => ?_)
      refine K_aload_n rfl 1 rfl ?_
      refine K_ldc2 (v := 26982) rfl (by decide) ?_
      obtain ⟨r10, er10, h⟩ := Option.bind_eq_some_iff.mp h
      refine K_cV [.long 26982] [] rfl rfl (Nat.le_of_ble_eq_true rfl) (Nat.le_of_ble_eq_true rfl) sh_436 hM9 rfl (EV_le (Nat.le_of_ble_eq_true rfl) (F_Model_takesWord hM9  er10)) (fun v' M' hq => ?_)
      obtain ⟨rfl, rfl, hr10⟩ := hq
      refine K_if_eq rfl (fun c11 => ?_) (fun c11 => ?_)
      · rw [if_pos c11] at h
        refine K_pick [1, 0] ?_
        exact L_Model_isGoHere_110    _ _ hr10  h
      · rw [if_neg c11] at h
        refine K_aload_n rfl 1 rfl ?_
        refine K_gR rfl sh_436 hr10 rfl rfl 5 rfl r_436_5 ?_
        refine K_iload_n rfl 0 rfl ?_
        refine K_iconst (v := 2) rfl (by decide) ?_
        refine K_iadd rfl ?_
        refine K_aload_n rfl 1 rfl ?_
        refine K_gR rfl sh_436 hr10 rfl rfl 4 rfl r_436_4 ?_
        refine K_aload_n rfl 1 rfl ?_
        refine K_gI rfl sh_436 hr10 rfl rfl 11 rfl ?_
        obtain ⟨v16, ev16, h⟩ := Option.bind_eq_some_iff.mp h
        refine K_rd rfl sh_439 hr10 ev16 ?_
        obtain ⟨M17, eM17, h⟩ := Option.bind_eq_some_iff.mp h
        refine K_wr rfl sh_440 hr10 eM17 (fun hM17 => ?_)
        refine K_aload_n rfl 1 rfl ?_
        obtain ⟨r18, er18, h⟩ := Option.bind_eq_some_iff.mp h
        refine K_cV [] [] rfl rfl (Nat.le_of_ble_eq_true rfl) (Nat.le_of_ble_eq_true rfl) sh_436 hM17 rfl (EV_le (Nat.le_of_ble_eq_true rfl) (F_Model_tested hM17  er18)) (fun v' M' hq => ?_)
        obtain ⟨rfl, rfl, hr18⟩ := hq
        refine K_if_ne rfl (fun c19 => ?_) (fun c19 => ?_)
        · rw [if_neg c19] at h
          refine K_pick [1, 0] ?_
          exact L_Model_isGoHere_110    _ _ hr18  h
        · rw [if_pos c19] at h
          refine K_iconst (v := 0) rfl (by decide) ?_
          obtain rfl := Option.some.inj h
          exact K_iret rfl (Or.inr ⟨rfl, by decide⟩) ⟨rfl, rfl, hr18⟩
    · rw [if_pos c6] at h
      refine K_iconst (v := 0) rfl (by decide) ?_
      obtain rfl := Option.some.inj h
      exact K_iret rfl (Or.inr ⟨rfl, by decide⟩) ⟨rfl, rfl, hr5⟩
set_option maxRecDepth 20000 in
theorem L_Model_clauseHere_71 {X : mX}  {r : Int32 × mM}  (l1 : Int32) (l2 : Int32) (s0 : Int32) (s1 : Int32) (M : mM) (hM : Fx M)  (h : f_Model_clauseHere_71   l1 l2 s0 s1 M = some r) : KK X 10 143 71 [(0, .ref 436), (1, .int l1), (2, .int l2)] [.int s1, .int s0] M (fun v M' => v = some (.int r.1) ∧ r.2 = M' ∧ Fx r.2) := by
    unfold f_Model_clauseHere_71 at h
    refine K_ic_ne rfl (fun c7 => ?_) (fun c7 => ?_)
    · rw [if_neg c7] at h
      refine K_aload_n rfl 0 rfl ?_
      refine K_dup rfl rfl ?_
      refine K_gI rfl sh_436 hM rfl rfl 14 rfl ?_
      refine K_iconst (v := 1) rfl (by decide) ?_
      refine K_iadd rfl ?_
      obtain ⟨M8, eM8, h⟩ := Option.bind_eq_some_iff.mp h
      refine K_pI rfl sh_436 hM rfl rfl 14 rfl eM8 (fun hM8 => ?_)
      refine K_iload_n rfl 2 rfl ?_
      refine K_if_eq rfl (fun c9 => ?_) (fun c9 => ?_)
      · rw [if_pos c9] at h
        refine K_aload_n rfl 0 rfl ?_
        obtain ⟨r10, er10, h⟩ := Option.bind_eq_some_iff.mp h
        refine K_cV [] [] rfl rfl (Nat.le_of_ble_eq_true rfl) (Nat.le_of_ble_eq_true rfl) sh_436 hM8 rfl (EV_le (Nat.le_of_ble_eq_true rfl) (F_Model_isGoHere hM8  er10)) (fun v' M' hq => ?_)
        obtain ⟨rfl, rfl, hr10⟩ := hq
        split at h
        · rename_i c11
          obtain rfl := Option.some.inj h
          exact K_iret rfl (Or.inr ⟨rfl, c11⟩) ⟨rfl, rfl, hr10⟩
        · cases h
      · rw [if_neg c9] at h
        refine K_aload_n rfl 0 rfl ?_
        refine K_iload_n rfl 1 rfl ?_
        obtain ⟨r12, er12, h⟩ := Option.bind_eq_some_iff.mp h
        refine K_cV [.int l1] [] rfl rfl (Nat.le_of_ble_eq_true rfl) (Nat.le_of_ble_eq_true rfl) sh_436 hM8 rfl (EV_le (Nat.le_of_ble_eq_true rfl) (F_Model_yardLineHere hM8  er12)) (fun v' M' hq => ?_)
        obtain ⟨rfl, rfl, hr12⟩ := hq
        refine K_goto rfl ?_
        split at h
        · rename_i c13
          obtain rfl := Option.some.inj h
          exact K_iret rfl (Or.inr ⟨rfl, c13⟩) ⟨rfl, rfl, hr12⟩
        · cases h
    · rw [if_pos c7] at h
      refine K_aload_n rfl 0 rfl ?_
      refine K_iconst (v := 4) rfl (by decide) ?_
      refine K_iload_n rfl 1 rfl ?_
      obtain ⟨r14, er14, h⟩ := Option.bind_eq_some_iff.mp h
      refine K_cV [.int 4, .int l1] [] rfl rfl (Nat.le_of_ble_eq_true rfl) (Nat.le_of_ble_eq_true rfl) sh_436 hM rfl (EV_le (Nat.le_of_ble_eq_true rfl) (F_Model_fails hM  er14)) (fun v' M' hq => ?_)
      obtain ⟨rfl, rfl, hr14⟩ := hq
      split at h
      · rename_i c15
        obtain rfl := Option.some.inj h
        exact K_iret rfl (Or.inr ⟨rfl, c15⟩) ⟨rfl, rfl, hr14⟩
      · cases h
set_option maxRecDepth 20000 in
theorem L_Model_clauseHere_56 {X : mX}  {r : Int32 × mM}  (l1 : Int32) (l2 : Int32) (M : mM) (hM : Fx M)  (h : f_Model_clauseHere_56   l1 l2 M = some r) : KK X 10 143 56 [(0, .ref 436), (1, .int l1), (2, .int l2)] [] M (fun v M' => v = some (.int r.1) ∧ r.2 = M' ∧ Fx r.2) := by
    unfold f_Model_clauseHere_56 at h
    refine K_aload_n rfl 0 rfl ?_
    refine K_gI rfl sh_436 hM rfl rfl 14 rfl ?_
    refine K_iload_n rfl 2 rfl ?_
    refine K_if_eq rfl (fun c6 => ?_) (fun c6 => ?_)
    · rw [if_pos c6] at h
      refine K_bipush (v := 12) rfl (by decide) ?_
      refine K_pick [0, 1, 2] ?_
      exact L_Model_clauseHere_71    _ _ _ _ _ hM  h
    · rw [if_neg c6] at h
      refine K_bipush (v := 40) rfl (by decide) ?_
      refine K_goto rfl ?_
      refine K_pick [0, 1, 2] ?_
      exact L_Model_clauseHere_71    _ _ _ _ _ hM  h
set_option maxRecDepth 20000 in
theorem L_Model_clauseHere_49 {X : mX}  {r : Int32 × mM}  (l1 : Int32) (M : mM) (hM : Fx M)  (h : f_Model_clauseHere_49   l1 M = some r) : KK X 10 143 49 [(0, .ref 436), (1, .int l1)] [] M (fun v M' => v = some (.int r.1) ∧ r.2 = M' ∧ Fx r.2) := by
    unfold f_Model_clauseHere_49 at h
    refine K_aload_n rfl 0 rfl ?_
    refine K_iconst (v := 0) rfl (by decide) ?_
    refine K_iload_n rfl 1 rfl ?_
    obtain ⟨r16, er16, h⟩ := Option.bind_eq_some_iff.mp h
    refine K_cV [.int 0, .int l1] [] rfl rfl (Nat.le_of_ble_eq_true rfl) (Nat.le_of_ble_eq_true rfl) sh_436 hM rfl (EV_le (Nat.le_of_ble_eq_true rfl) (F_Model_fails hM  er16)) (fun v' M' hq => ?_)
    obtain ⟨rfl, rfl, hr16⟩ := hq
    split at h
    · rename_i c17
      obtain rfl := Option.some.inj h
      exact K_iret rfl (Or.inr ⟨rfl, c17⟩) ⟨rfl, rfl, hr16⟩
    · cases h
set_option maxRecDepth 20000 in
theorem L_Model_clauseHere_24 {X : mX}  {r : Int32 × mM}  (l1 : Int32) (s0 : Int32) (M : mM) (hM : Fx M)  (h : f_Model_clauseHere_24   l1 s0 M = some r) : KK X 10 143 24 [(0, .ref 436), (1, .int l1)] [.int s0] M (fun v M' => v = some (.int r.1) ∧ r.2 = M' ∧ Fx r.2) := by
    unfold f_Model_clauseHere_24 at h
    refine K_istore_n rfl ?_
    refine K_iload_n rfl 0 rfl ?_
    refine K_if_eq rfl (fun c3 => ?_) (fun c3 => ?_)
    · rw [if_pos c3] at h
      refine K_aload_n rfl 1 rfl ?_
      refine K_ldc2 (v := 26479) rfl (by decide) ?_
      obtain ⟨r4, er4, h⟩ := Option.bind_eq_some_iff.mp h
      refine K_cV [.long 26479] [] rfl rfl (Nat.le_of_ble_eq_true rfl) (Nat.le_of_ble_eq_true rfl) sh_436 hM rfl (EV_le (Nat.le_of_ble_eq_true rfl) (F_Model_isWord hM  er4)) (fun v' M' hq => ?_)
      obtain ⟨rfl, rfl, hr4⟩ := hq
      refine K_if_ne rfl (fun c5 => ?_) (fun c5 => ?_)
      · rw [if_neg c5] at h
        refine K_pick [1, 2, 0] ?_
        exact L_Model_clauseHere_56    _ _ _ hr4  h
      · rw [if_pos c5] at h
        refine K_pick [1, 2] ?_
        exact L_Model_clauseHere_49    _ _ hr4  h
    · rw [if_neg c3] at h
      refine K_aload_n rfl 1 rfl ?_
      obtain ⟨r18, er18, h⟩ := Option.bind_eq_some_iff.mp h
      refine K_cV [] [] rfl rfl (Nat.le_of_ble_eq_true rfl) (Nat.le_of_ble_eq_true rfl) sh_436 hM rfl (EV_le (Nat.le_of_ble_eq_true rfl) (F_Model_isYardWord hM  er18)) (fun v' M' hq => ?_)
      obtain ⟨rfl, rfl, hr18⟩ := hq
      refine K_if_ne rfl (fun c19 => ?_) (fun c19 => ?_)
      · rw [if_neg c19] at h
        refine K_pick [1, 2, 0] ?_
        exact L_Model_clauseHere_56    _ _ _ hr18  h
      · rw [if_pos c19] at h
        refine K_goto rfl ?_
        refine K_pick [1, 2] ?_
        exact L_Model_clauseHere_49    _ _ hr18  h
set_option maxRecDepth 20000 in
theorem F_Model_clauseHere {X : mX}  {M : mM} {r : Int32 × mM} (hM : Fx M)  (h : f_Model_clauseHere  M = some r) : EV X (10 + 1) 143 [.ref 436] M (fun v M' => v = some (.int r.1) ∧ r.2 = M' ∧ Fx r.2) := by
    refine EV_of (lc := [(0, .ref 436)]) (Nat.le_of_ble_eq_true rfl) (by exact Nat.le_of_ble_eq_true rfl) (by exact List.forall_mem_cons.mpr ⟨rfl, fun _ h => absurd h List.not_mem_nil⟩) ?_
    unfold f_Model_clauseHere at h
    refine K_aload_n rfl 0 rfl ?_
    obtain ⟨r1, er1, h⟩ := Option.bind_eq_some_iff.mp h
    refine K_cV [] [] rfl rfl (Nat.le_of_ble_eq_true rfl) (Nat.le_of_ble_eq_true rfl) sh_436 hM rfl (EV_le (Nat.le_of_ble_eq_true rfl) (F_Model_see hM  er1)) (fun v' M' hq => ?_)
    obtain ⟨rfl, rfl, hr1⟩ := hq
    refine K_pop rfl rfl ?_
    refine K_aload_n rfl 0 rfl ?_
    refine K_gI rfl sh_436 hr1 rfl rfl 8 rfl ?_
    refine K_istore_n rfl ?_
    refine K_aload_n rfl 1 rfl ?_
    refine K_gI rfl sh_436 hr1 rfl rfl 11 rfl ?_
    refine K_bipush (v := 6) rfl (by decide) ?_
    refine K_ic_ne rfl (fun c2 => ?_) (fun c2 => ?_)
    · rw [if_neg c2] at h
      refine K_iconst (v := 0) rfl (by decide) ?_
      refine K_pick [1, 0] ?_
      exact L_Model_clauseHere_24    _ _ _ hr1  h
    · rw [if_pos c2] at h
      refine K_iconst (v := 1) rfl (by decide) ?_
      refine K_goto rfl ?_
      refine K_pick [1, 0] ?_
      exact L_Model_clauseHere_24    _ _ _ hr1  h
set_option maxRecDepth 20000 in
theorem L_Model_readsAll_88 {X : mX}  {r : Int32 × mM}   (M : mM) (hM : Fx M)  (h : f_Model_readsAll_88    M = some r) : KK X 11 142 88 [(0, .ref 436)] [] M (fun v M' => v = some (.int r.1) ∧ r.2 = M' ∧ Fx r.2) := by
    unfold f_Model_readsAll_88 at h
    refine K_aload_n rfl 0 rfl ?_
    refine K_iconst (v := 0) rfl (by decide) ?_
    obtain ⟨M9, eM9, h⟩ := Option.bind_eq_some_iff.mp h
    refine K_pI rfl sh_436 hM rfl rfl 1 rfl eM9 (fun hM9 => ?_)
    refine K_aload_n rfl 0 rfl ?_
    refine K_gI rfl sh_436 hM9 rfl rfl 9 rfl ?_
    refine K_if_ne rfl (fun c10 => ?_) (fun c10 => ?_)
    · rw [if_neg c10] at h
      refine K_iconst (v := 0) rfl (by decide) ?_
      obtain rfl := Option.some.inj h
      exact K_iret rfl (Or.inr ⟨rfl, by decide⟩) ⟨rfl, rfl, hM9⟩
    · rw [if_pos c10] at h
      refine K_iconst (v := 1) rfl (by decide) ?_
      refine K_goto rfl ?_
      obtain rfl := Option.some.inj h
      exact K_iret rfl (Or.inr ⟨rfl, by decide⟩) ⟨rfl, rfl, hM9⟩
set_option maxRecDepth 20000 in
theorem L_Model_readsAll_66 {X : mX}  {r : Int32 × mM}  (l1 : Int32) (M : mM) (hM : Fx M)  (h : f_Model_readsAll_66   l1 M = some r) : KK X 11 142 66 [(0, .ref 436), (1, .int l1)] [] M (fun v M' => v = some (.int r.1) ∧ r.2 = M' ∧ Fx r.2) := by
    unfold f_Model_readsAll_66 at h
    refine K_iload_n rfl 1 rfl ?_
    refine K_if_eq rfl (fun c8 => ?_) (fun c8 => ?_)
    · rw [if_pos c8] at h
      refine K_pick [0] ?_
      exact L_Model_readsAll_88     _ hM  h
    · rw [if_neg c8] at h
      refine K_aload_n rfl 0 rfl ?_
      obtain ⟨r11, er11, h⟩ := Option.bind_eq_some_iff.mp h
      refine K_cV [] [] rfl rfl (Nat.le_of_ble_eq_true rfl) (Nat.le_of_ble_eq_true rfl) sh_436 hM rfl (EV_le (Nat.le_of_ble_eq_true rfl) (F_Model_see hM  er11)) (fun v' M' hq => ?_)
      obtain ⟨rfl, rfl, hr11⟩ := hq
      refine K_iconst (v := (-1)) rfl (by decide) ?_
      refine K_ic_eq rfl (fun c12 => ?_) (fun c12 => ?_)
      · rw [if_pos c12] at h
        refine K_pick [0] ?_
        exact L_Model_readsAll_88     _ hr11  h
      · rw [if_neg c12] at h
        refine K_aload_n rfl 0 rfl ?_
        refine K_iconst (v := 0) rfl (by decide) ?_
        refine K_aload_n rfl 0 rfl ?_
        refine K_gI rfl sh_436 hr11 rfl rfl 8 rfl ?_
        obtain ⟨r13, er13, h⟩ := Option.bind_eq_some_iff.mp h
        refine K_cV [.int 0, .int (r11.2.2.1 436 8)] [] rfl rfl (Nat.le_of_ble_eq_true rfl) (Nat.le_of_ble_eq_true rfl) sh_436 hr11 rfl (EV_le (Nat.le_of_ble_eq_true rfl) (F_Model_fails hr11  er13)) (fun v' M' hq => ?_)
        obtain ⟨rfl, rfl, hr13⟩ := hq
        refine K_pop rfl rfl ?_
        refine K_pick [0] ?_
        exact L_Model_readsAll_88     _ hr13  h
set_option maxRecDepth 20000 in
theorem L_Model_readsAll_35 {X : mX}  {r : Int32 × mM}  : ∀ (n : Nat) (l1 : Int32) (M : mM), Fx M → f_Model_readsAll_35   n l1 M = some r → KK X 11 142 35 [(0, .ref 436), (1, .int l1)] [] M (fun v M' => v = some (.int r.1) ∧ r.2 = M' ∧ Fx r.2)
  | 0, _, _ => fun _ h => by cases h
  | n + 1, l1, M => fun hM h => by
    unfold f_Model_readsAll_35 at h
    refine K_iload_n rfl 1 rfl ?_
    refine K_if_eq rfl (fun c7 => ?_) (fun c7 => ?_)
    · rw [if_pos c7] at h
      refine K_pick [0, 1] ?_
      exact L_Model_readsAll_66    _ _ hM  h
    · rw [if_neg c7] at h
      refine K_aload_n rfl 0 rfl ?_
      obtain ⟨r14, er14, h⟩ := Option.bind_eq_some_iff.mp h
      refine K_cV [] [] rfl rfl (Nat.le_of_ble_eq_true rfl) (Nat.le_of_ble_eq_true rfl) sh_436 hM rfl (EV_le (Nat.le_of_ble_eq_true rfl) (F_Model_see hM  er14)) (fun v' M' hq => ?_)
      obtain ⟨rfl, rfl, hr14⟩ := hq
      refine K_bipush (v := 59) rfl (by decide) ?_
      refine K_ic_ne rfl (fun c15 => ?_) (fun c15 => ?_)
      · rw [if_neg c15] at h
        refine K_pick [0, 1] ?_
        exact L_Model_readsAll_66    _ _ hr14  h
      · rw [if_pos c15] at h
        refine K_aload_n rfl 0 rfl ?_
        refine K_dup rfl rfl ?_
        refine K_gI rfl sh_436 hr14 rfl rfl 8 rfl ?_
        refine K_iconst (v := 1) rfl (by decide) ?_
        refine K_iadd rfl ?_
        obtain ⟨M16, eM16, h⟩ := Option.bind_eq_some_iff.mp h
        refine K_pI rfl sh_436 hr14 rfl rfl 8 rfl eM16 (fun hM16 => ?_)
        refine K_aload_n rfl 0 rfl ?_
        obtain ⟨r17, er17, h⟩ := Option.bind_eq_some_iff.mp h
        refine K_cV [] [] rfl rfl (Nat.le_of_ble_eq_true rfl) (Nat.le_of_ble_eq_true rfl) sh_436 hM16 rfl (EV_le (Nat.le_of_ble_eq_true rfl) (F_Model_clauseHere hM16  er17)) (fun v' M' hq => ?_)
        obtain ⟨rfl, rfl, hr17⟩ := hq
        refine K_istore_n rfl ?_
        refine K_goto rfl ?_
        refine K_pick [1, 0] ?_
        exact L_Model_readsAll_35    n _ _ hr17  h
set_option maxRecDepth 20000 in
theorem F_Model_readsAll {X : mX}  {M : mM} {r : Int32 × mM} (hM : Fx M)  (h : f_Model_readsAll  M = some r) : EV X (11 + 1) 142 [.ref 436] M (fun v M' => v = some (.int r.1) ∧ r.2 = M' ∧ Fx r.2) := by
    refine EV_of (lc := [(0, .ref 436)]) (Nat.le_of_ble_eq_true rfl) (by exact Nat.le_of_ble_eq_true rfl) (by exact List.forall_mem_cons.mpr ⟨rfl, fun _ h => absurd h List.not_mem_nil⟩) ?_
    unfold f_Model_readsAll at h
    refine K_aload_n rfl 0 rfl ?_
    refine K_gR rfl sh_436 hM rfl rfl 4 rfl r_436_4 ?_
    refine K_aload_n rfl 0 rfl ?_
    refine K_gI rfl sh_436 hM rfl rfl 11 rfl ?_
    refine K_iconst (v := 0) rfl (by decide) ?_
    obtain ⟨M1, eM1, h⟩ := Option.bind_eq_some_iff.mp h
    refine K_wr rfl sh_439 hM eM1 (fun hM1 => ?_)
    refine K_aload_n rfl 0 rfl ?_
    refine K_iconst (v := 0) rfl (by decide) ?_
    obtain ⟨M2, eM2, h⟩ := Option.bind_eq_some_iff.mp h
    refine K_pI rfl sh_436 hM1 rfl rfl 14 rfl eM2 (fun hM2 => ?_)
    refine K_aload_n rfl 0 rfl ?_
    refine K_iconst (v := 0) rfl (by decide) ?_
    obtain ⟨M3, eM3, h⟩ := Option.bind_eq_some_iff.mp h
    refine K_pI rfl sh_436 hM2 rfl rfl 8 rfl eM3 (fun hM3 => ?_)
    refine K_aload_n rfl 0 rfl ?_
    refine K_iconst (v := 0) rfl (by decide) ?_
    obtain ⟨M4, eM4, h⟩ := Option.bind_eq_some_iff.mp h
    refine K_pI rfl sh_436 hM3 rfl rfl 9 rfl eM4 (fun hM4 => ?_)
    refine K_aload_n rfl 0 rfl ?_
    refine K_iconst (v := 0) rfl (by decide) ?_
    obtain ⟨M5, eM5, h⟩ := Option.bind_eq_some_iff.mp h
    refine K_pI rfl sh_436 hM4 rfl rfl 12 rfl eM5 (fun hM5 => ?_)
    refine K_aload_n rfl 0 rfl ?_
    obtain ⟨r6, er6, h⟩ := Option.bind_eq_some_iff.mp h
    refine K_cV [] [] rfl rfl (Nat.le_of_ble_eq_true rfl) (Nat.le_of_ble_eq_true rfl) sh_436 hM5 rfl (EV_le (Nat.le_of_ble_eq_true rfl) (F_Model_clauseHere hM5  er6)) (fun v' M' hq => ?_)
    obtain ⟨rfl, rfl, hr6⟩ := hq
    refine K_istore_n rfl ?_
    refine K_pick [1, 0] ?_
    exact L_Model_readsAll_35    FUEL _ _ hr6  h
set_option maxRecDepth 20000 in
theorem F_Model_rule {X : mX}  {M : mM} {r : Int32 × mM} (hM : Fx M)  (h : f_Model_rule  M = some r) : EV X (12 + 1) 141 [.ref 436] M (fun v M' => v = some (.int r.1) ∧ r.2 = M' ∧ Fx r.2) := by
    refine EV_of (lc := [(0, .ref 436)]) (Nat.le_of_ble_eq_true rfl) (by exact Nat.le_of_ble_eq_true rfl) (by exact List.forall_mem_cons.mpr ⟨rfl, fun _ h => absurd h List.not_mem_nil⟩) ?_
    unfold f_Model_rule at h
    refine K_aload_n rfl 0 rfl ?_
    refine K_gI rfl sh_436 hM rfl rfl 2 rfl ?_
    refine K_bipush (v := 6) rfl (by decide) ?_
    refine K_ic_ne rfl (fun c1 => ?_) (fun c1 => ?_)
    · rw [if_neg c1] at h
      refine K_aload_n rfl 0 rfl ?_
      refine K_aload_n rfl 0 rfl ?_
      refine K_gI rfl sh_436 hM rfl rfl 2 rfl ?_
      obtain ⟨M2, eM2, h⟩ := Option.bind_eq_some_iff.mp h
      refine K_pI rfl sh_436 hM rfl rfl 11 rfl eM2 (fun hM2 => ?_)
      refine K_aload_n rfl 0 rfl ?_
      refine K_gR rfl sh_436 hM2 rfl rfl 6 rfl r_436_6 ?_
      refine K_aload_n rfl 0 rfl ?_
      refine K_gI rfl sh_436 hM2 rfl rfl 11 rfl ?_
      refine K_iconst (v := 0) rfl (by decide) ?_
      obtain ⟨M3, eM3, h⟩ := Option.bind_eq_some_iff.mp h
      refine K_wr rfl sh_441 hM2 eM3 (fun hM3 => ?_)
      refine K_aload_n rfl 0 rfl ?_
      obtain ⟨r4, er4, h⟩ := Option.bind_eq_some_iff.mp h
      refine K_cV [] [] rfl rfl (Nat.le_of_ble_eq_true rfl) (Nat.le_of_ble_eq_true rfl) sh_436 hM3 rfl (EV_le (Nat.le_of_ble_eq_true rfl) (F_Model_readsAll hM3  er4)) (fun v' M' hq => ?_)
      obtain ⟨rfl, rfl, hr4⟩ := hq
      refine K_if_ne rfl (fun c5 => ?_) (fun c5 => ?_)
      · rw [if_neg c5] at h
        refine K_aload_n rfl 0 rfl ?_
        refine K_dup rfl rfl ?_
        refine K_gI rfl sh_436 hr4 rfl rfl 2 rfl ?_
        refine K_iconst (v := 1) rfl (by decide) ?_
        refine K_iadd rfl ?_
        obtain ⟨M6, eM6, h⟩ := Option.bind_eq_some_iff.mp h
        refine K_pI rfl sh_436 hr4 rfl rfl 2 rfl eM6 (fun hM6 => ?_)
        refine K_aload_n rfl 0 rfl ?_
        refine K_gI rfl sh_436 hM6 rfl rfl 2 rfl ?_
        refine K_iconst (v := 1) rfl (by decide) ?_
        refine K_isub rfl ?_
        obtain rfl := Option.some.inj h
        exact K_iret rfl (Or.inl rfl) ⟨rfl, rfl, hM6⟩
      · rw [if_pos c5] at h
        refine K_bipush (v := (-2)) rfl (by decide) ?_
        refine K_aload_n rfl 0 rfl ?_
        refine K_gI rfl sh_436 hr4 rfl rfl 9 rfl ?_
        refine K_isub rfl ?_
        obtain rfl := Option.some.inj h
        exact K_iret rfl (Or.inl rfl) ⟨rfl, rfl, hr4⟩
    · rw [if_pos c1] at h
      refine K_iconst (v := (-1)) rfl (by decide) ?_
      obtain rfl := Option.some.inj h
      exact K_iret rfl (Or.inl rfl) ⟨rfl, rfl, hM⟩
set_option maxRecDepth 20000 in
theorem F_Model_graveOf {X : mX} {x1 : Int32} {x2 : Int32} {M : mM} {r : Int32 × mM} (hM : Fx M)  (h : f_Model_graveOf x1 x2 M = some r) : EV X (0 + 1) 180 [.ref 436, .int x1, .int x2] M (fun v M' => v = some (.int r.1) ∧ r.2 = M' ∧ Fx r.2) := by
    refine EV_of (lc := [(0, .ref 436), (1, .int x1), (2, .int x2)]) (Nat.le_of_ble_eq_true rfl) (by exact Nat.le_of_ble_eq_true rfl) (by exact List.forall_mem_cons.mpr ⟨rfl, List.forall_mem_cons.mpr ⟨rfl, List.forall_mem_cons.mpr ⟨rfl, fun _ h => absurd h List.not_mem_nil⟩⟩⟩) ?_
    unfold f_Model_graveOf at h
    refine K_aload_n rfl 0 rfl ?_
    refine K_gR rfl sh_436 hM rfl rfl 20 rfl r_436_20 ?_
    refine K_bipush (v := 10) rfl (by decide) ?_
    refine K_bipush (v := 9) rfl (by decide) ?_
    refine K_iload_n rfl 1 rfl ?_
    refine K_imul rfl ?_
    refine K_iadd rfl ?_
    refine K_iload_n rfl 2 rfl ?_
    refine K_iadd rfl ?_
    obtain ⟨v1, ev1, h⟩ := Option.bind_eq_some_iff.mp h
    refine K_rd rfl sh_446 hM ev1 ?_
    obtain rfl := Option.some.inj h
    exact K_iret rfl (Or.inl rfl) ⟨rfl, rfl, hM⟩
set_option maxRecDepth 20000 in
theorem L_Model_yard_94 {X : mX}  {r : Int32 × mM}  : ∀ (n : Nat) (l1 : Int32) (M : mM), Fx M → f_Model_yard_94   n l1 M = some r → KK X 12 179 94 [(0, .ref 436), (1, .int l1)] [] M (fun v M' => v = some (.int r.1) ∧ r.2 = M' ∧ Fx r.2)
  | 0, _, _ => fun _ h => by cases h
  | n + 1, l1, M => fun hM h => by
    unfold f_Model_yard_94 at h
    refine K_iload_n rfl 1 rfl ?_
    refine K_aload_n rfl 0 rfl ?_
    refine K_gR rfl sh_436 hM rfl rfl 20 rfl r_436_20 ?_
    refine K_iconst (v := 2) rfl (by decide) ?_
    obtain ⟨v8, ev8, h⟩ := Option.bind_eq_some_iff.mp h
    refine K_rd rfl sh_446 hM ev8 ?_
    refine K_ic_ge rfl (fun c9 => ?_) (fun c9 => ?_)
    · rw [if_pos c9] at h
      refine K_aload_n rfl 0 rfl ?_
      refine K_iconst (v := 0) rfl (by decide) ?_
      obtain ⟨M10, eM10, h⟩ := Option.bind_eq_some_iff.mp h
      refine K_pI rfl sh_436 hM rfl rfl 30 rfl eM10 (fun hM10 => ?_)
      refine K_aload_n rfl 0 rfl ?_
      refine K_gR rfl sh_436 hM10 rfl rfl 20 rfl r_436_20 ?_
      refine K_iconst (v := 2) rfl (by decide) ?_
      obtain ⟨v11, ev11, h⟩ := Option.bind_eq_some_iff.mp h
      refine K_rd rfl sh_446 hM10 ev11 ?_
      obtain rfl := Option.some.inj h
      exact K_iret rfl (Or.inl rfl) ⟨rfl, rfl, hM10⟩
    · rw [if_neg c9] at h
      refine K_aload_n rfl 0 rfl ?_
      refine K_gR rfl sh_436 hM rfl rfl 20 rfl r_436_20 ?_
      refine K_sipush (v := 186) rfl (by decide) ?_
      refine K_iconst (v := 4) rfl (by decide) ?_
      refine K_iload_n rfl 1 rfl ?_
      refine K_imul rfl ?_
      refine K_iadd rfl ?_
      refine K_aload_n rfl 0 rfl ?_
      refine K_iload_n rfl 1 rfl ?_
      refine K_iconst (v := 0) rfl (by decide) ?_
      obtain ⟨r12, er12, h⟩ := Option.bind_eq_some_iff.mp h
      refine K_cV [.int l1, .int 0] [.int (186 + (4 * l1)), .ref 446] rfl rfl (Nat.le_of_ble_eq_true rfl) (Nat.le_of_ble_eq_true rfl) sh_436 hM rfl (EV_le (Nat.le_of_ble_eq_true rfl) (F_Model_graveOf hM  er12)) (fun v' M' hq => ?_)
      obtain ⟨rfl, rfl, hr12⟩ := hq
      obtain ⟨M13, eM13, h⟩ := Option.bind_eq_some_iff.mp h
      refine K_wr rfl sh_446 hr12 eM13 (fun hM13 => ?_)
      refine K_aload_n rfl 0 rfl ?_
      refine K_gR rfl sh_436 hM13 rfl rfl 20 rfl r_436_20 ?_
      refine K_sipush (v := 186) rfl (by decide) ?_
      refine K_iconst (v := 4) rfl (by decide) ?_
      refine K_iload_n rfl 1 rfl ?_
      refine K_imul rfl ?_
      refine K_iadd rfl ?_
      refine K_iconst (v := 1) rfl (by decide) ?_
      refine K_iadd rfl ?_
      refine K_aload_n rfl 0 rfl ?_
      refine K_iload_n rfl 1 rfl ?_
      refine K_iconst (v := 1) rfl (by decide) ?_
      obtain ⟨r14, er14, h⟩ := Option.bind_eq_some_iff.mp h
      refine K_cV [.int l1, .int 1] [.int ((186 + (4 * l1)) + 1), .ref 446] rfl rfl (Nat.le_of_ble_eq_true rfl) (Nat.le_of_ble_eq_true rfl) sh_436 hM13 rfl (EV_le (Nat.le_of_ble_eq_true rfl) (F_Model_graveOf hM13  er14)) (fun v' M' hq => ?_)
      obtain ⟨rfl, rfl, hr14⟩ := hq
      obtain ⟨M15, eM15, h⟩ := Option.bind_eq_some_iff.mp h
      refine K_wr rfl sh_446 hr14 eM15 (fun hM15 => ?_)
      refine K_aload_n rfl 0 rfl ?_
      refine K_gR rfl sh_436 hM15 rfl rfl 20 rfl r_436_20 ?_
      refine K_sipush (v := 186) rfl (by decide) ?_
      refine K_iconst (v := 4) rfl (by decide) ?_
      refine K_iload_n rfl 1 rfl ?_
      refine K_imul rfl ?_
      refine K_iadd rfl ?_
      refine K_iconst (v := 2) rfl (by decide) ?_
      refine K_iadd rfl ?_
      refine K_aload_n rfl 0 rfl ?_
      refine K_iload_n rfl 1 rfl ?_
      refine K_iconst (v := 2) rfl (by decide) ?_
      obtain ⟨r16, er16, h⟩ := Option.bind_eq_some_iff.mp h
      refine K_cV [.int l1, .int 2] [.int ((186 + (4 * l1)) + 2), .ref 446] rfl rfl (Nat.le_of_ble_eq_true rfl) (Nat.le_of_ble_eq_true rfl) sh_436 hM15 rfl (EV_le (Nat.le_of_ble_eq_true rfl) (F_Model_graveOf hM15  er16)) (fun v' M' hq => ?_)
      obtain ⟨rfl, rfl, hr16⟩ := hq
      obtain ⟨M17, eM17, h⟩ := Option.bind_eq_some_iff.mp h
      refine K_wr rfl sh_446 hr16 eM17 (fun hM17 => ?_)
      refine K_aload_n rfl 0 rfl ?_
      refine K_gR rfl sh_436 hM17 rfl rfl 20 rfl r_436_20 ?_
      refine K_sipush (v := 186) rfl (by decide) ?_
      refine K_iconst (v := 4) rfl (by decide) ?_
      refine K_iload_n rfl 1 rfl ?_
      refine K_imul rfl ?_
      refine K_iadd rfl ?_
      refine K_iconst (v := 3) rfl (by decide) ?_
      refine K_iadd rfl ?_
      refine K_aload_n rfl 0 rfl ?_
      refine K_iload_n rfl 1 rfl ?_
      refine K_bipush (v := 6) rfl (by decide) ?_
      obtain ⟨r18, er18, h⟩ := Option.bind_eq_some_iff.mp h
      refine K_cV [.int l1, .int 6] [.int ((186 + (4 * l1)) + 3), .ref 446] rfl rfl (Nat.le_of_ble_eq_true rfl) (Nat.le_of_ble_eq_true rfl) sh_436 hM17 rfl (EV_le (Nat.le_of_ble_eq_true rfl) (F_Model_graveOf hM17  er18)) (fun v' M' hq => ?_)
      obtain ⟨rfl, rfl, hr18⟩ := hq
      obtain ⟨M19, eM19, h⟩ := Option.bind_eq_some_iff.mp h
      refine K_wr rfl sh_446 hr18 eM19 (fun hM19 => ?_)
      refine K_iinc (y := (l1 + 1)) rfl 1 rfl rfl ?_
      refine K_goto rfl ?_
      refine K_pick [1, 0] ?_
      exact L_Model_yard_94    n _ _ hM19  h
set_option maxRecDepth 20000 in
theorem L_Model_yard_73 {X : mX}  {k44 : Int32 → mM → Option (Int32 × mM)} {r : Int32 × mM}  (hk44 : ∀ (l1 : Int32) (M : mM), Fx M → k44 l1 M = some r → KK X 12 179 44 [(0, .ref 436), (1, .int l1)] [] M (fun v M' => v = some (.int r.1) ∧ r.2 = M' ∧ Fx r.2)) (l1 : Int32) (s1 : Int32) (s2 : Int32) (M : mM) (hM : Fx M)  (h : f_Model_yard_73  k44 l1 s1 s2 M = some r) : KK X 12 179 73 [(0, .ref 436), (1, .int l1)] [.int s2, .int s1, .ref 446] M (fun v M' => v = some (.int r.1) ∧ r.2 = M' ∧ Fx r.2) := by
    unfold f_Model_yard_73 at h
    obtain ⟨M21, eM21, h⟩ := Option.bind_eq_some_iff.mp h
    refine K_wr rfl sh_446 hM eM21 (fun hM21 => ?_)
    refine K_iinc (y := (l1 + 1)) rfl 1 rfl rfl ?_
    refine K_goto rfl ?_
    refine K_pick [1, 0] ?_
    exact hk44 _ _ hM21  h
set_option maxRecDepth 20000 in
theorem L_Model_yard_44 {X : mX}  {r : Int32 × mM}  : ∀ (n : Nat) (l1 : Int32) (M : mM), Fx M → f_Model_yard_44   n l1 M = some r → KK X 12 179 44 [(0, .ref 436), (1, .int l1)] [] M (fun v M' => v = some (.int r.1) ∧ r.2 = M' ∧ Fx r.2)
  | 0, _, _ => fun _ h => by cases h
  | n + 1, l1, M => fun hM h => by
    unfold f_Model_yard_44 at h
    refine K_iload_n rfl 1 rfl ?_
    refine K_sipush (v := 226) rfl (by decide) ?_
    refine K_ic_ge rfl (fun c5 => ?_) (fun c5 => ?_)
    · rw [if_pos c5] at h
      refine K_aload_n rfl 0 rfl ?_
      refine K_gR rfl sh_436 hM rfl rfl 20 rfl r_436_20 ?_
      refine K_iconst (v := 4) rfl (by decide) ?_
      refine K_aload_n rfl 0 rfl ?_
      refine K_gR rfl sh_436 hM rfl rfl 20 rfl r_436_20 ?_
      refine K_iconst (v := 2) rfl (by decide) ?_
      obtain ⟨v6, ev6, h⟩ := Option.bind_eq_some_iff.mp h
      refine K_rd rfl sh_446 hM ev6 ?_
      obtain ⟨M7, eM7, h⟩ := Option.bind_eq_some_iff.mp h
      refine K_wr rfl sh_446 hM eM7 (fun hM7 => ?_)
      refine K_iconst (v := 0) rfl (by decide) ?_
      refine K_istore_n rfl ?_
      refine K_pick [1, 0] ?_
      exact L_Model_yard_94    FUEL _ _ hM7  h
    · rw [if_neg c5] at h
      refine K_aload_n rfl 0 rfl ?_
      refine K_gR rfl sh_436 hM rfl rfl 20 rfl r_436_20 ?_
      refine K_iload_n rfl 1 rfl ?_
      refine K_iload_n rfl 1 rfl ?_
      refine K_sipush (v := 155) rfl (by decide) ?_
      refine K_ic_ge rfl (fun c20 => ?_) (fun c20 => ?_)
      · rw [if_pos c20] at h
        refine K_iconst (v := 0) rfl (by decide) ?_
        refine K_pick [0, 1] ?_
        exact L_Model_yard_73   (L_Model_yard_44    n) _ _ _ _ hM  h
      · rw [if_neg c20] at h
        refine K_aload_n rfl 0 rfl ?_
        refine K_gR rfl sh_436 hM rfl rfl 7 rfl r_436_7 ?_
        refine K_iload_n rfl 1 rfl ?_
        obtain ⟨v22, ev22, h⟩ := Option.bind_eq_some_iff.mp h
        refine K_rd rfl sh_442 hM ev22 ?_
        refine K_goto rfl ?_
        refine K_pick [0, 1] ?_
        exact L_Model_yard_73   (L_Model_yard_44    n) _ _ _ _ hM  h
set_option maxRecDepth 20000 in
theorem L_Model_yard_8 {X : mX}  {r : Int32 × mM}  : ∀ (n : Nat) (l1 : Int32) (M : mM), Fx M → f_Model_yard_8   n l1 M = some r → KK X 12 179 8 [(0, .ref 436), (1, .int l1)] [] M (fun v M' => v = some (.int r.1) ∧ r.2 = M' ∧ Fx r.2)
  | 0, _, _ => fun _ h => by cases h
  | n + 1, l1, M => fun hM h => by
    unfold f_Model_yard_8 at h
    refine K_iload_n rfl 1 rfl ?_
    refine K_bipush (v := 10) rfl (by decide) ?_
    refine K_ic_ge rfl (fun c2 => ?_) (fun c2 => ?_)
    · rw [if_pos c2] at h
      refine K_aload_n rfl 0 rfl ?_
      obtain ⟨r3, er3, h⟩ := Option.bind_eq_some_iff.mp h
      refine K_cV [] [] rfl rfl (Nat.le_of_ble_eq_true rfl) (Nat.le_of_ble_eq_true rfl) sh_436 hM rfl (EV_le (Nat.le_of_ble_eq_true rfl) (F_Model_readsAll hM  er3)) (fun v' M' hq => ?_)
      obtain ⟨rfl, rfl, hr3⟩ := hq
      refine K_if_ne rfl (fun c4 => ?_) (fun c4 => ?_)
      · rw [if_neg c4] at h
        refine K_iconst (v := 0) rfl (by decide) ?_
        refine K_istore_n rfl ?_
        refine K_pick [1, 0] ?_
        exact L_Model_yard_44    FUEL _ _ hr3  h
      · rw [if_pos c4] at h
        refine K_bipush (v := (-2)) rfl (by decide) ?_
        refine K_aload_n rfl 0 rfl ?_
        refine K_gI rfl sh_436 hr3 rfl rfl 9 rfl ?_
        refine K_isub rfl ?_
        obtain rfl := Option.some.inj h
        exact K_iret rfl (Or.inl rfl) ⟨rfl, rfl, hr3⟩
    · rw [if_neg c2] at h
      refine K_aload_n rfl 0 rfl ?_
      refine K_gR rfl sh_436 hM rfl rfl 7 rfl r_436_7 ?_
      refine K_iload_n rfl 1 rfl ?_
      refine K_iconst (v := 0) rfl (by decide) ?_
      obtain ⟨M23, eM23, h⟩ := Option.bind_eq_some_iff.mp h
      refine K_wr rfl sh_442 hM eM23 (fun hM23 => ?_)
      refine K_iinc (y := (l1 + 1)) rfl 1 rfl rfl ?_
      refine K_goto rfl ?_
      refine K_pick [1, 0] ?_
      exact L_Model_yard_8    n _ _ hM23  h
set_option maxRecDepth 20000 in
theorem F_Model_yard {X : mX}  {M : mM} {r : Int32 × mM} (hM : Fx M)  (h : f_Model_yard  M = some r) : EV X (12 + 1) 179 [.ref 436] M (fun v M' => v = some (.int r.1) ∧ r.2 = M' ∧ Fx r.2) := by
    refine EV_of (lc := [(0, .ref 436)]) (Nat.le_of_ble_eq_true rfl) (by exact Nat.le_of_ble_eq_true rfl) (by exact List.forall_mem_cons.mpr ⟨rfl, fun _ h => absurd h List.not_mem_nil⟩) ?_
    unfold f_Model_yard at h
    refine K_aload_n rfl 0 rfl ?_
    refine K_bipush (v := 6) rfl (by decide) ?_
    obtain ⟨M1, eM1, h⟩ := Option.bind_eq_some_iff.mp h
    refine K_pI rfl sh_436 hM rfl rfl 11 rfl eM1 (fun hM1 => ?_)
    refine K_iconst (v := 0) rfl (by decide) ?_
    refine K_istore_n rfl ?_
    refine K_pick [1, 0] ?_
    exact L_Model_yard_8    FUEL _ _ hM1  h
set_option maxRecDepth 20000 in
theorem F_Model_isRule {X : mX} {x1 : Int32} {M : mM} {r : Int32 × mM} (hM : Fx M)  (h : f_Model_isRule x1 M = some r) : EV X (0 + 1) 182 [.ref 436, .int x1] M (fun v M' => v = some (.int r.1) ∧ r.2 = M' ∧ Fx r.2) := by
    refine EV_of (lc := [(0, .ref 436), (1, .int x1)]) (Nat.le_of_ble_eq_true rfl) (by exact Nat.le_of_ble_eq_true rfl) (by exact List.forall_mem_cons.mpr ⟨rfl, List.forall_mem_cons.mpr ⟨rfl, fun _ h => absurd h List.not_mem_nil⟩⟩) ?_
    unfold f_Model_isRule at h
    refine K_iload_n rfl 1 rfl ?_
    refine K_if_lt rfl (fun c1 => ?_) (fun c1 => ?_)
    · rw [if_pos c1] at h
      refine K_iconst (v := 0) rfl (by decide) ?_
      obtain rfl := Option.some.inj h
      exact K_iret rfl (Or.inr ⟨rfl, by decide⟩) ⟨rfl, rfl, hM⟩
    · rw [if_neg c1] at h
      refine K_iload_n rfl 1 rfl ?_
      refine K_aload_n rfl 0 rfl ?_
      refine K_gI rfl sh_436 hM rfl rfl 2 rfl ?_
      refine K_ic_ge rfl (fun c2 => ?_) (fun c2 => ?_)
      · rw [if_pos c2] at h
        refine K_iconst (v := 0) rfl (by decide) ?_
        obtain rfl := Option.some.inj h
        exact K_iret rfl (Or.inr ⟨rfl, by decide⟩) ⟨rfl, rfl, hM⟩
      · rw [if_neg c2] at h
        refine K_iconst (v := 1) rfl (by decide) ?_
        refine K_goto rfl ?_
        obtain rfl := Option.some.inj h
        exact K_iret rfl (Or.inr ⟨rfl, by decide⟩) ⟨rfl, rfl, hM⟩
set_option maxRecDepth 20000 in
theorem L_Model_force_16 {X : mX} {x1 : Int32} {r : Int32 × mM}   (M : mM) (hM : Fx M)  (h : f_Model_force_16 x1   M = some r) : KK X 1 181 16 [(0, .ref 436), (1, .int x1)] [] M (fun v M' => v = some (.int r.1) ∧ r.2 = M' ∧ Fx r.2) := by
    unfold f_Model_force_16 at h
    refine K_aload_n rfl 0 rfl ?_
    refine K_gI rfl sh_436 hM rfl rfl 21 rfl ?_
    refine K_istore_n rfl ?_
    refine K_aload_n rfl 1 rfl ?_
    refine K_iload_n rfl 2 rfl ?_
    obtain ⟨M2, eM2, h⟩ := Option.bind_eq_some_iff.mp h
    refine K_pI rfl sh_436 hM rfl rfl 21 rfl eM2 (fun hM2 => ?_)
    refine K_iload_n rfl 0 rfl ?_
    obtain rfl := Option.some.inj h
    exact K_iret rfl (Or.inl rfl) ⟨rfl, rfl, hM2⟩
set_option maxRecDepth 20000 in
theorem F_Model_force {X : mX} {x1 : Int32} {M : mM} {r : Int32 × mM} (hM : Fx M)  (h : f_Model_force x1 M = some r) : EV X (1 + 1) 181 [.ref 436, .int x1] M (fun v M' => v = some (.int r.1) ∧ r.2 = M' ∧ Fx r.2) := by
    refine EV_of (lc := [(0, .ref 436), (1, .int x1)]) (Nat.le_of_ble_eq_true rfl) (by exact Nat.le_of_ble_eq_true rfl) (by exact List.forall_mem_cons.mpr ⟨rfl, List.forall_mem_cons.mpr ⟨rfl, fun _ h => absurd h List.not_mem_nil⟩⟩) ?_
    unfold f_Model_force at h
    refine K_iload_n rfl 1 rfl ?_
    refine K_iconst (v := (-1)) rfl (by decide) ?_
    refine K_ic_eq rfl (fun c1 => ?_) (fun c1 => ?_)
    · rw [if_pos c1] at h
      refine K_pick [0, 1] ?_
      exact L_Model_force_16     _ hM  h
    · rw [if_neg c1] at h
      refine K_aload_n rfl 0 rfl ?_
      refine K_iload_n rfl 1 rfl ?_
      obtain ⟨r3, er3, h⟩ := Option.bind_eq_some_iff.mp h
      refine K_cV [.int x1] [] rfl rfl (Nat.le_of_ble_eq_true rfl) (Nat.le_of_ble_eq_true rfl) sh_436 hM rfl (EV_le (Nat.le_of_ble_eq_true rfl) (F_Model_isRule hM  er3)) (fun v' M' hq => ?_)
      obtain ⟨rfl, rfl, hr3⟩ := hq
      refine K_if_ne rfl (fun c4 => ?_) (fun c4 => ?_)
      · rw [if_neg c4] at h
        refine K_pick [0, 1] ?_
        exact L_Model_force_16     _ hr3  h
      · rw [if_pos c4] at h
        refine K_bipush (v := (-2)) rfl (by decide) ?_
        obtain rfl := Option.some.inj h
        exact K_iret rfl (Or.inl rfl) ⟨rfl, rfl, hr3⟩
set_option maxRecDepth 20000 in
theorem F_Model_isGrave {X : mX} {x1 : Int32} {M : mM} {r : Int32 × mM} (hM : Fx M)  (h : f_Model_isGrave x1 M = some r) : EV X (0 + 1) 184 [.ref 436, .int x1] M (fun v M' => v = some (.int r.1) ∧ r.2 = M' ∧ Fx r.2) := by
    refine EV_of (lc := [(0, .ref 436), (1, .int x1)]) (Nat.le_of_ble_eq_true rfl) (by exact Nat.le_of_ble_eq_true rfl) (by exact List.forall_mem_cons.mpr ⟨rfl, List.forall_mem_cons.mpr ⟨rfl, fun _ h => absurd h List.not_mem_nil⟩⟩) ?_
    unfold f_Model_isGrave at h
    refine K_iload_n rfl 1 rfl ?_
    refine K_if_lt rfl (fun c1 => ?_) (fun c1 => ?_)
    · rw [if_pos c1] at h
      refine K_iconst (v := 0) rfl (by decide) ?_
      obtain rfl := Option.some.inj h
      exact K_iret rfl (Or.inr ⟨rfl, by decide⟩) ⟨rfl, rfl, hM⟩
    · rw [if_neg c1] at h
      refine K_iload_n rfl 1 rfl ?_
      refine K_aload_n rfl 0 rfl ?_
      refine K_gR rfl sh_436 hM rfl rfl 20 rfl r_436_20 ?_
      refine K_iconst (v := 2) rfl (by decide) ?_
      obtain ⟨v2, ev2, h⟩ := Option.bind_eq_some_iff.mp h
      refine K_rd rfl sh_446 hM ev2 ?_
      refine K_ic_ge rfl (fun c3 => ?_) (fun c3 => ?_)
      · rw [if_pos c3] at h
        refine K_iconst (v := 0) rfl (by decide) ?_
        obtain rfl := Option.some.inj h
        exact K_iret rfl (Or.inr ⟨rfl, by decide⟩) ⟨rfl, rfl, hM⟩
      · rw [if_neg c3] at h
        refine K_iconst (v := 1) rfl (by decide) ?_
        refine K_goto rfl ?_
        obtain rfl := Option.some.inj h
        exact K_iret rfl (Or.inr ⟨rfl, by decide⟩) ⟨rfl, rfl, hM⟩
set_option maxRecDepth 20000 in
theorem F_Model_grave {X : mX} {x1 : Int32} {x2 : Int32} {M : mM} {r : Int32 × mM} (hM : Fx M)  (h : f_Model_grave x1 x2 M = some r) : EV X (1 + 1) 183 [.ref 436, .int x1, .int x2] M (fun v M' => v = some (.int r.1) ∧ r.2 = M' ∧ Fx r.2) := by
    refine EV_of (lc := [(0, .ref 436), (1, .int x1), (2, .int x2)]) (Nat.le_of_ble_eq_true rfl) (by exact Nat.le_of_ble_eq_true rfl) (by exact List.forall_mem_cons.mpr ⟨rfl, List.forall_mem_cons.mpr ⟨rfl, List.forall_mem_cons.mpr ⟨rfl, fun _ h => absurd h List.not_mem_nil⟩⟩⟩) ?_
    unfold f_Model_grave at h
    refine K_aload_n rfl 0 rfl ?_
    refine K_iload_n rfl 1 rfl ?_
    obtain ⟨r1, er1, h⟩ := Option.bind_eq_some_iff.mp h
    refine K_cV [.int x1] [] rfl rfl (Nat.le_of_ble_eq_true rfl) (Nat.le_of_ble_eq_true rfl) sh_436 hM rfl (EV_le (Nat.le_of_ble_eq_true rfl) (F_Model_isGrave hM  er1)) (fun v' M' hq => ?_)
    obtain ⟨rfl, rfl, hr1⟩ := hq
    refine K_if_eq rfl (fun c2 => ?_) (fun c2 => ?_)
    · rw [if_pos c2] at h
      refine K_bipush (v := (-2)) rfl (by decide) ?_
      obtain rfl := Option.some.inj h
      exact K_iret rfl (Or.inl rfl) ⟨rfl, rfl, hr1⟩
    · rw [if_neg c2] at h
      refine K_iload_n rfl 2 rfl ?_
      refine K_i2l rfl ?_
      refine K_lconst (v := 0) rfl (by decide) ?_
      refine K_ldc2 (v := 7) rfl (by decide) ?_
      obtain ⟨r3, er3, h⟩ := Option.bind_eq_some_iff.mp h
      refine K_callS [.long (Int32.toInt64 x2), .long 0, .long 7] [] rfl rfl (Nat.le_of_ble_eq_true rfl) (Nat.le_of_ble_eq_true rfl) (EV_le (Nat.le_of_ble_eq_true rfl) (F_Model_in hr1  er3)) (fun v' M' hq => ?_)
      obtain ⟨rfl, rfl, hr3⟩ := hq
      refine K_if_eq rfl (fun c4 => ?_) (fun c4 => ?_)
      · rw [if_pos c4] at h
        refine K_bipush (v := (-2)) rfl (by decide) ?_
        obtain rfl := Option.some.inj h
        exact K_iret rfl (Or.inl rfl) ⟨rfl, rfl, hr3⟩
      · rw [if_neg c4] at h
        refine K_aload_n rfl 0 rfl ?_
        refine K_iload_n rfl 1 rfl ?_
        refine K_iload_n rfl 2 rfl ?_
        obtain ⟨r5, er5, h⟩ := Option.bind_eq_some_iff.mp h
        refine K_cV [.int x1, .int x2] [] rfl rfl (Nat.le_of_ble_eq_true rfl) (Nat.le_of_ble_eq_true rfl) sh_436 hr3 rfl (EV_le (Nat.le_of_ble_eq_true rfl) (F_Model_graveOf hr3  er5)) (fun v' M' hq => ?_)
        obtain ⟨rfl, rfl, hr5⟩ := hq
        refine K_goto rfl ?_
        obtain rfl := Option.some.inj h
        exact K_iret rfl (Or.inl rfl) ⟨rfl, rfl, hr5⟩
set_option maxRecDepth 20000 in
theorem L_Model_graveAt_34 {X : mX} {x1 : Int32} {x2 : Int32} {k2 : Int32 → mM → Option (Int32 × mM)} {r : Int32 × mM}  (hk2 : ∀ (l3 : Int32) (M : mM), Fx M → k2 l3 M = some r → KK X 1 186 2 [(0, .ref 436), (1, .int x1), (2, .int x2), (3, .int l3)] [] M (fun v M' => v = some (.int r.1) ∧ r.2 = M' ∧ Fx r.2)) (l3 : Int32) (M : mM) (hM : Fx M)  (h : f_Model_graveAt_34 x1 x2 k2 l3 M = some r) : KK X 1 186 34 [(0, .ref 436), (1, .int x1), (2, .int x2), (3, .int l3)] [] M (fun v M' => v = some (.int r.1) ∧ r.2 = M' ∧ Fx r.2) := by
    unfold f_Model_graveAt_34 at h
    refine K_iinc (y := (l3 + 1)) rfl 3 rfl rfl ?_
    refine K_goto rfl ?_
    refine K_pick [1, 2, 3, 0] ?_
    exact hk2 _ _ hM  h
set_option maxRecDepth 20000 in
theorem L_Model_graveAt_2 {X : mX} {x1 : Int32} {x2 : Int32} {r : Int32 × mM}  : ∀ (n : Nat) (l3 : Int32) (M : mM), Fx M → f_Model_graveAt_2 x1 x2  n l3 M = some r → KK X 1 186 2 [(0, .ref 436), (1, .int x1), (2, .int x2), (3, .int l3)] [] M (fun v M' => v = some (.int r.1) ∧ r.2 = M' ∧ Fx r.2)
  | 0, _, _ => fun _ h => by cases h
  | n + 1, l3, M => fun hM h => by
    unfold f_Model_graveAt_2 at h
    refine K_iload_n rfl 3 rfl ?_
    refine K_aload_n rfl 0 rfl ?_
    refine K_gR rfl sh_436 hM rfl rfl 20 rfl r_436_20 ?_
    refine K_iconst (v := 2) rfl (by decide) ?_
    obtain ⟨v1, ev1, h⟩ := Option.bind_eq_some_iff.mp h
    refine K_rd rfl sh_446 hM ev1 ?_
    refine K_ic_ge rfl (fun c2 => ?_) (fun c2 => ?_)
    · rw [if_pos c2] at h
      refine K_iconst (v := (-1)) rfl (by decide) ?_
      obtain rfl := Option.some.inj h
      exact K_iret rfl (Or.inl rfl) ⟨rfl, rfl, hM⟩
    · rw [if_neg c2] at h
      refine K_aload_n rfl 0 rfl ?_
      refine K_iload_n rfl 3 rfl ?_
      refine K_iconst (v := 0) rfl (by decide) ?_
      obtain ⟨r3, er3, h⟩ := Option.bind_eq_some_iff.mp h
      refine K_cV [.int l3, .int 0] [] rfl rfl (Nat.le_of_ble_eq_true rfl) (Nat.le_of_ble_eq_true rfl) sh_436 hM rfl (EV_le (Nat.le_of_ble_eq_true rfl) (F_Model_graveOf hM  er3)) (fun v' M' hq => ?_)
      obtain ⟨rfl, rfl, hr3⟩ := hq
      refine K_iload_n rfl 1 rfl ?_
      refine K_ic_ne rfl (fun c4 => ?_) (fun c4 => ?_)
      · rw [if_neg c4] at h
        refine K_pick [0, 1, 2, 3] ?_
        exact L_Model_graveAt_34   (L_Model_graveAt_2    n) _ _ hr3  h
      · rw [if_pos c4] at h
        refine K_aload_n rfl 0 rfl ?_
        refine K_iload_n rfl 3 rfl ?_
        refine K_iconst (v := 1) rfl (by decide) ?_
        obtain ⟨r5, er5, h⟩ := Option.bind_eq_some_iff.mp h
        refine K_cV [.int l3, .int 1] [] rfl rfl (Nat.le_of_ble_eq_true rfl) (Nat.le_of_ble_eq_true rfl) sh_436 hr3 rfl (EV_le (Nat.le_of_ble_eq_true rfl) (F_Model_graveOf hr3  er5)) (fun v' M' hq => ?_)
        obtain ⟨rfl, rfl, hr5⟩ := hq
        refine K_iload_n rfl 2 rfl ?_
        refine K_ic_ne rfl (fun c6 => ?_) (fun c6 => ?_)
        · rw [if_neg c6] at h
          refine K_pick [0, 1, 2, 3] ?_
          exact L_Model_graveAt_34   (L_Model_graveAt_2    n) _ _ hr5  h
        · rw [if_pos c6] at h
          refine K_iload_n rfl 3 rfl ?_
          obtain rfl := Option.some.inj h
          exact K_iret rfl (Or.inl rfl) ⟨rfl, rfl, hr5⟩
set_option maxRecDepth 20000 in
theorem F_Model_graveAt {X : mX} {x1 : Int32} {x2 : Int32} {M : mM} {r : Int32 × mM} (hM : Fx M)  (h : f_Model_graveAt x1 x2 M = some r) : EV X (1 + 1) 186 [.ref 436, .int x1, .int x2] M (fun v M' => v = some (.int r.1) ∧ r.2 = M' ∧ Fx r.2) := by
    refine EV_of (lc := [(0, .ref 436), (1, .int x1), (2, .int x2)]) (Nat.le_of_ble_eq_true rfl) (by exact Nat.le_of_ble_eq_true rfl) (by exact List.forall_mem_cons.mpr ⟨rfl, List.forall_mem_cons.mpr ⟨rfl, List.forall_mem_cons.mpr ⟨rfl, fun _ h => absurd h List.not_mem_nil⟩⟩⟩) ?_
    unfold f_Model_graveAt at h
    refine K_iconst (v := 0) rfl (by decide) ?_
    refine K_istore_n rfl ?_
    refine K_pick [1, 2, 3, 0] ?_
    exact L_Model_graveAt_2    FUEL _ _ hM  h
set_option maxRecDepth 20000 in
theorem F_Model_stone {X : mX} {x1 : Int32} {x2 : Int32} {M : mM} {r : Int32 × mM} (hM : Fx M)  (h : f_Model_stone x1 x2 M = some r) : EV X (2 + 1) 185 [.ref 436, .int x1, .int x2] M (fun v M' => v = some (.int r.1) ∧ r.2 = M' ∧ Fx r.2) := by
    refine EV_of (lc := [(0, .ref 436), (1, .int x1), (2, .int x2)]) (Nat.le_of_ble_eq_true rfl) (by exact Nat.le_of_ble_eq_true rfl) (by exact List.forall_mem_cons.mpr ⟨rfl, List.forall_mem_cons.mpr ⟨rfl, List.forall_mem_cons.mpr ⟨rfl, fun _ h => absurd h List.not_mem_nil⟩⟩⟩) ?_
    unfold f_Model_stone at h
    refine K_aload_n rfl 0 rfl ?_
    refine K_iload_n rfl 1 rfl ?_
    obtain ⟨r1, er1, h⟩ := Option.bind_eq_some_iff.mp h
    refine K_cV [.int x1] [] rfl rfl (Nat.le_of_ble_eq_true rfl) (Nat.le_of_ble_eq_true rfl) sh_436 hM rfl (EV_le (Nat.le_of_ble_eq_true rfl) (F_Model_isGrave hM  er1)) (fun v' M' hq => ?_)
    obtain ⟨rfl, rfl, hr1⟩ := hq
    refine K_if_eq rfl (fun c2 => ?_) (fun c2 => ?_)
    · rw [if_pos c2] at h
      refine K_bipush (v := (-2)) rfl (by decide) ?_
      obtain rfl := Option.some.inj h
      exact K_iret rfl (Or.inl rfl) ⟨rfl, rfl, hr1⟩
    · rw [if_neg c2] at h
      refine K_iload_n rfl 2 rfl ?_
      refine K_i2l rfl ?_
      refine K_lconst (v := 0) rfl (by decide) ?_
      refine K_ldc2 (v := 3) rfl (by decide) ?_
      obtain ⟨r3, er3, h⟩ := Option.bind_eq_some_iff.mp h
      refine K_callS [.long (Int32.toInt64 x2), .long 0, .long 3] [] rfl rfl (Nat.le_of_ble_eq_true rfl) (Nat.le_of_ble_eq_true rfl) (EV_le (Nat.le_of_ble_eq_true rfl) (F_Model_in hr1  er3)) (fun v' M' hq => ?_)
      obtain ⟨rfl, rfl, hr3⟩ := hq
      refine K_if_ne rfl (fun c4 => ?_) (fun c4 => ?_)
      · rw [if_neg c4] at h
        refine K_aload_n rfl 0 rfl ?_
        refine K_gR rfl sh_436 hr3 rfl rfl 20 rfl r_436_20 ?_
        refine K_bipush (v := 109) rfl (by decide) ?_
        refine K_iconst (v := 2) rfl (by decide) ?_
        refine K_iload_n rfl 1 rfl ?_
        refine K_imul rfl ?_
        refine K_iadd rfl ?_
        obtain ⟨v5, ev5, h⟩ := Option.bind_eq_some_iff.mp h
        refine K_rd rfl sh_446 hr3 ev5 ?_
        refine K_istore_n rfl ?_
        refine K_aload_n rfl 1 rfl ?_
        refine K_gR rfl sh_436 hr3 rfl rfl 20 rfl r_436_20 ?_
        refine K_bipush (v := 109) rfl (by decide) ?_
        refine K_iconst (v := 2) rfl (by decide) ?_
        refine K_iload_n rfl 2 rfl ?_
        refine K_imul rfl ?_
        refine K_iadd rfl ?_
        refine K_iconst (v := 1) rfl (by decide) ?_
        refine K_iadd rfl ?_
        obtain ⟨v6, ev6, h⟩ := Option.bind_eq_some_iff.mp h
        refine K_rd rfl sh_446 hr3 ev6 ?_
        refine K_istore rfl ?_
        refine K_iload_n rfl 4 rfl ?_
        refine K_if_ne rfl (fun c7 => ?_) (fun c7 => ?_)
        · rw [if_neg c7] at h
          refine K_iload_n rfl 4 rfl ?_
          refine K_iconst (v := 1) rfl (by decide) ?_
          refine K_ic_ne rfl (fun c8 => ?_) (fun c8 => ?_)
          · rw [if_neg c8] at h
            refine K_iload_n rfl 4 rfl ?_
            refine K_iconst (v := 2) rfl (by decide) ?_
            refine K_ic_ne rfl (fun c9 => ?_) (fun c9 => ?_)
            · rw [if_neg c9] at h
              refine K_iload_n rfl 1 rfl ?_
              refine K_if_ge rfl (fun c10 => ?_) (fun c10 => ?_)
              · rw [if_pos c10] at h
                refine K_aload_n rfl 2 rfl ?_
                refine K_iload_n rfl 1 rfl ?_
                refine K_iload rfl 0 rfl ?_
                obtain ⟨r11, er11, h⟩ := Option.bind_eq_some_iff.mp h
                refine K_cV [.int v5, .int v6] [] rfl rfl (Nat.le_of_ble_eq_true rfl) (Nat.le_of_ble_eq_true rfl) sh_436 hr3 rfl (EV_le (Nat.le_of_ble_eq_true rfl) (F_Model_graveAt hr3  er11)) (fun v' M' hq => ?_)
                obtain ⟨rfl, rfl, hr11⟩ := hq
                obtain rfl := Option.some.inj h
                exact K_iret rfl (Or.inl rfl) ⟨rfl, rfl, hr11⟩
              · rw [if_neg c10] at h
                refine K_iconst (v := (-1)) rfl (by decide) ?_
                refine K_goto rfl ?_
                obtain rfl := Option.some.inj h
                exact K_iret rfl (Or.inl rfl) ⟨rfl, rfl, hr3⟩
            · rw [if_pos c9] at h
              refine K_aload_n rfl 2 rfl ?_
              refine K_iload_n rfl 3 rfl ?_
              refine K_bipush (v := 8) rfl (by decide) ?_
              obtain ⟨r12, er12, h⟩ := Option.bind_eq_some_iff.mp h
              refine K_cV [.int x1, .int 8] [] rfl rfl (Nat.le_of_ble_eq_true rfl) (Nat.le_of_ble_eq_true rfl) sh_436 hr3 rfl (EV_le (Nat.le_of_ble_eq_true rfl) (F_Model_graveOf hr3  er12)) (fun v' M' hq => ?_)
              obtain ⟨rfl, rfl, hr12⟩ := hq
              refine K_goto rfl ?_
              obtain rfl := Option.some.inj h
              exact K_iret rfl (Or.inl rfl) ⟨rfl, rfl, hr12⟩
          · rw [if_pos c8] at h
            refine K_iload rfl 0 rfl ?_
            refine K_goto rfl ?_
            obtain rfl := Option.some.inj h
            exact K_iret rfl (Or.inl rfl) ⟨rfl, rfl, hr3⟩
        · rw [if_pos c7] at h
          refine K_iload_n rfl 1 rfl ?_
          refine K_goto rfl ?_
          obtain rfl := Option.some.inj h
          exact K_iret rfl (Or.inl rfl) ⟨rfl, rfl, hr3⟩
      · rw [if_pos c4] at h
        refine K_bipush (v := (-2)) rfl (by decide) ?_
        obtain rfl := Option.some.inj h
        exact K_iret rfl (Or.inl rfl) ⟨rfl, rfl, hr3⟩
