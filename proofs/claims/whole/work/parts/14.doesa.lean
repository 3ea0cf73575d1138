/-! ===== the small machine does what the printed functions say ===== -/
set_option maxRecDepth 20000 in
theorem L_J_fill_5 {X : mX} {x0 : Nat} {nx0 : Nat} {x1 : Int32} {r : mM} (hx0 : mSH[x0]? = some (20, nx0)) : ∀ (n : Nat) (l2 : Int32) (l3 : Int32) (M : mM), Fx M → f_J_fill_5 x0 nx0 x1  n l2 l3 M = some r → KK X 0 247 5 [(0, .ref x0), (1, .int x1), (2, .int l2), (3, .int l3)] [] M (fun v M' => v = none ∧ r = M' ∧ Fx r)
  | 0, _, _, _ => fun _ h => by cases h
  | n + 1, l2, l3, M => fun hM h => by
    unfold f_J_fill_5 at h
    refine K_iload_n rfl 2 rfl ?_
    refine K_iload_n rfl 3 rfl ?_
    refine K_ic_ge rfl (fun c1 => ?_) (fun c1 => ?_)
    · rw [if_pos c1] at h
      obtain rfl := Option.some.inj h
      exact K_vret rfl rfl ⟨rfl, rfl, hM⟩
    · rw [if_neg c1] at h
      refine K_aload_n rfl 0 rfl ?_
      refine K_iload_n rfl 2 rfl ?_
      refine K_iload_n rfl 1 rfl ?_
      obtain ⟨M2, eM2, h⟩ := Option.bind_eq_some_iff.mp h
      refine K_wr rfl hx0 hM eM2 (fun hM2 => ?_)
      refine K_iinc (y := (l2 + 1)) rfl 2 rfl rfl ?_
      refine K_goto rfl ?_
      refine K_pick [1, 2, 0, 3] ?_
      exact L_J_fill_5 hx0   n _ _ _ hM2  h
set_option maxRecDepth 20000 in
theorem F_J_fill {X : mX} {x0 : Nat} {nx0 : Nat} {x1 : Int32} {M : mM} {r : mM} (hM : Fx M) (hx0 : mSH[x0]? = some (20, nx0)) (h : f_J_fill x0 nx0 x1 M = some r) : EV X (0 + 1) 247 [.ref x0, .int x1] M (fun v M' => v = none ∧ r = M' ∧ Fx r) := by
    refine EV_of (lc := [(0, .ref x0), (1, .int x1)]) (Nat.le_of_ble_eq_true rfl) (by exact Nat.le_of_ble_eq_true rfl) (by exact List.forall_mem_cons.mpr ⟨rfl, List.forall_mem_cons.mpr ⟨rfl, fun _ h => absurd h List.not_mem_nil⟩⟩) ?_
    unfold f_J_fill at h
    refine K_iconst (v := 0) rfl (by decide) ?_
    refine K_istore_n rfl ?_
    refine K_aload_n rfl 1 rfl ?_
    refine K_aln (v := (Int32.ofNat nx0)) rfl hx0 hM (by decide) rfl ?_
    refine K_istore_n rfl ?_
    refine K_pick [2, 3, 1, 0] ?_
    exact L_J_fill_5 hx0   FUEL _ _ _ hM  h
set_option maxRecDepth 20000 in
theorem L_Text_addNumber_49 {X : mX} {x1 : Int32} {k3 : Int32 → mM → Option (mM)} {r : mM}  (hk3 : ∀ (l2 : Int32) (M : mM), Fx M → k3 l2 M = some r → KK X 0 13 3 [(0, .ref 1), (1, .int x1), (2, .int l2)] [] M (fun v M' => v = none ∧ r = M' ∧ Fx r)) (l2 : Int32) (M : mM) (hM : Fx M)  (h : f_Text_addNumber_49 x1 k3 l2 M = some r) : KK X 0 13 49 [(0, .ref 1), (1, .int x1), (2, .int l2)] [] M (fun v M' => v = none ∧ r = M' ∧ Fx r) := by
    unfold f_Text_addNumber_49 at h
    refine K_iinc (y := (l2 + (-8))) rfl 2 rfl rfl ?_
    refine K_goto rfl ?_
    refine K_pick [1, 2, 0] ?_
    exact hk3 _ _ hM  h
set_option maxRecDepth 20000 in
theorem L_Text_addNumber_3 {X : mX} {x1 : Int32} {r : mM}  : ∀ (n : Nat) (l2 : Int32) (M : mM), Fx M → f_Text_addNumber_3 x1  n l2 M = some r → KK X 0 13 3 [(0, .ref 1), (1, .int x1), (2, .int l2)] [] M (fun v M' => v = none ∧ r = M' ∧ Fx r)
  | 0, _, _ => fun _ h => by cases h
  | n + 1, l2, M => fun hM h => by
    unfold f_Text_addNumber_3 at h
    refine K_iload_n rfl 2 rfl ?_
    refine K_if_lt rfl (fun c1 => ?_) (fun c1 => ?_)
    · rw [if_pos c1] at h
      obtain rfl := Option.some.inj h
      exact K_vret rfl rfl ⟨rfl, rfl, hM⟩
    · rw [if_neg c1] at h
      refine K_aload_n rfl 0 rfl ?_
      refine K_gI rfl sh_1 hM rfl rfl 1 rfl ?_
      refine K_if_lt rfl (fun c2 => ?_) (fun c2 => ?_)
      · rw [if_pos c2] at h
        refine K_pick [0, 1, 2] ?_
        exact L_Text_addNumber_49   (L_Text_addNumber_3    n) _ _ hM  h
      · rw [if_neg c2] at h
        refine K_aload_n rfl 0 rfl ?_
        refine K_gI rfl sh_1 hM rfl rfl 1 rfl ?_
        refine K_aload_n rfl 0 rfl ?_
        refine K_gR rfl sh_1 hM rfl rfl 0 rfl r_1_0 ?_
        refine K_aln (v := 400) rfl sh_2 hM (by decide) (by decide) ?_
        refine K_ic_ge rfl (fun c3 => ?_) (fun c3 => ?_)
        · rw [if_pos c3] at h
          refine K_pick [0, 1, 2] ?_
          exact L_Text_addNumber_49   (L_Text_addNumber_3    n) _ _ hM  h
        · rw [if_neg c3] at h
          refine K_aload_n rfl 0 rfl ?_
          refine K_gR rfl sh_1 hM rfl rfl 0 rfl r_1_0 ?_
          refine K_aload_n rfl 0 rfl ?_
          refine K_gI rfl sh_1 hM rfl rfl 1 rfl ?_
          refine K_iload_n rfl 1 rfl ?_
          refine K_iload_n rfl 2 rfl ?_
          refine K_ishr rfl ?_
          refine K_i2b rfl ?_
          obtain ⟨M4, eM4, h⟩ := Option.bind_eq_some_iff.mp h
          refine K_wrB rfl sh_2 hM eM4 (fun hM4 => ?_)
          refine K_aload_n rfl 0 rfl ?_
          refine K_dup rfl rfl ?_
          refine K_gI rfl sh_1 hM4 rfl rfl 1 rfl ?_
          refine K_iconst (v := 1) rfl (by decide) ?_
          refine K_iadd rfl ?_
          obtain ⟨M5, eM5, h⟩ := Option.bind_eq_some_iff.mp h
          refine K_pI rfl sh_1 hM4 rfl rfl 1 rfl eM5 (fun hM5 => ?_)
          refine K_pick [0, 1, 2] ?_
          exact L_Text_addNumber_49   (L_Text_addNumber_3    n) _ _ hM5  h
set_option maxRecDepth 20000 in
theorem F_Text_addNumber {X : mX} {x1 : Int32} {M : mM} {r : mM} (hM : Fx M)  (h : f_Text_addNumber x1 M = some r) : EV X (0 + 1) 13 [.ref 1, .int x1] M (fun v M' => v = none ∧ r = M' ∧ Fx r) := by
    refine EV_of (lc := [(0, .ref 1), (1, .int x1)]) (Nat.le_of_ble_eq_true rfl) (by exact Nat.le_of_ble_eq_true rfl) (by exact List.forall_mem_cons.mpr ⟨rfl, List.forall_mem_cons.mpr ⟨rfl, fun _ h => absurd h List.not_mem_nil⟩⟩) ?_
    unfold f_Text_addNumber at h
    refine K_bipush (v := 24) rfl (by decide) ?_
    refine K_istore_n rfl ?_
    refine K_pick [1, 2, 0] ?_
    exact L_Text_addNumber_3    FUEL _ _ hM  h
set_option maxRecDepth 20000 in
theorem F_GraveRails_feed {X : mX} {x1 : Int32} {x2 : Int32} {x3 : Int32} {x4 : Int32} {x5 : Int32} {M : mM} {r : Int32 × mM} (hM : Fx M)  (h : f_GraveRails_feed x1 x2 x3 x4 x5 M = some r) : EV X (1 + 1) 12 [.ref 0, .int x1, .int x2, .int x3, .int x4, .int x5] M (fun v M' => v = some (.int r.1) ∧ r.2 = M' ∧ Fx r.2) := by
    refine EV_of (lc := [(0, .ref 0), (1, .int x1), (2, .int x2), (3, .int x3), (4, .int x4), (5, .int x5)]) (Nat.le_of_ble_eq_true rfl) (by exact Nat.le_of_ble_eq_true rfl) (by exact List.forall_mem_cons.mpr ⟨rfl, List.forall_mem_cons.mpr ⟨rfl, List.forall_mem_cons.mpr ⟨rfl, List.forall_mem_cons.mpr ⟨rfl, List.forall_mem_cons.mpr ⟨rfl, List.forall_mem_cons.mpr ⟨rfl, fun _ h => absurd h List.not_mem_nil⟩⟩⟩⟩⟩⟩) ?_
    unfold f_GraveRails_feed at h
    refine K_aload_n rfl 0 rfl ?_
    refine K_gR rfl sh_0 hM rfl rfl 0 rfl r_0_0 ?_
    refine K_gI rfl sh_1 hM rfl rfl 1 rfl ?_
    refine K_sipush (v := 380) rfl (by decide) ?_
    refine K_ic_le rfl (fun c1 => ?_) (fun c1 => ?_)
    · rw [if_pos c1] at h
      refine K_aload_n rfl 0 rfl ?_
      refine K_gR rfl sh_0 hM rfl rfl 0 rfl r_0_0 ?_
      refine K_iload_n rfl 1 rfl ?_
      obtain ⟨M2, eM2, h⟩ := Option.bind_eq_some_iff.mp h
      refine K_cV [.int x1] [] rfl rfl (Nat.le_of_ble_eq_true rfl) (Nat.le_of_ble_eq_true rfl) sh_1 hM rfl (EV_le (Nat.le_of_ble_eq_true rfl) (F_Text_addNumber hM  eM2)) (fun v' M' hq => ?_)
      obtain ⟨rfl, rfl, hM2⟩ := hq
      refine K_aload_n rfl 0 rfl ?_
      refine K_gR rfl sh_0 hM2 rfl rfl 0 rfl r_0_0 ?_
      refine K_iload_n rfl 2 rfl ?_
      obtain ⟨M3, eM3, h⟩ := Option.bind_eq_some_iff.mp h
      refine K_cV [.int x2] [] rfl rfl (Nat.le_of_ble_eq_true rfl) (Nat.le_of_ble_eq_true rfl) sh_1 hM2 rfl (EV_le (Nat.le_of_ble_eq_true rfl) (F_Text_addNumber hM2  eM3)) (fun v' M' hq => ?_)
      obtain ⟨rfl, rfl, hM3⟩ := hq
      refine K_aload_n rfl 0 rfl ?_
      refine K_gR rfl sh_0 hM3 rfl rfl 0 rfl r_0_0 ?_
      refine K_iload_n rfl 3 rfl ?_
      obtain ⟨M4, eM4, h⟩ := Option.bind_eq_some_iff.mp h
      refine K_cV [.int x3] [] rfl rfl (Nat.le_of_ble_eq_true rfl) (Nat.le_of_ble_eq_true rfl) sh_1 hM3 rfl (EV_le (Nat.le_of_ble_eq_true rfl) (F_Text_addNumber hM3  eM4)) (fun v' M' hq => ?_)
      obtain ⟨rfl, rfl, hM4⟩ := hq
      refine K_aload_n rfl 0 rfl ?_
      refine K_gR rfl sh_0 hM4 rfl rfl 0 rfl r_0_0 ?_
      refine K_iload rfl 4 rfl ?_
      obtain ⟨M5, eM5, h⟩ := Option.bind_eq_some_iff.mp h
      refine K_cV [.int x4] [] rfl rfl (Nat.le_of_ble_eq_true rfl) (Nat.le_of_ble_eq_true rfl) sh_1 hM4 rfl (EV_le (Nat.le_of_ble_eq_true rfl) (F_Text_addNumber hM4  eM5)) (fun v' M' hq => ?_)
      obtain ⟨rfl, rfl, hM5⟩ := hq
      refine K_aload_n rfl 0 rfl ?_
      refine K_gR rfl sh_0 hM5 rfl rfl 0 rfl r_0_0 ?_
      refine K_iload rfl 5 rfl ?_
      obtain ⟨M6, eM6, h⟩ := Option.bind_eq_some_iff.mp h
      refine K_cV [.int x5] [] rfl rfl (Nat.le_of_ble_eq_true rfl) (Nat.le_of_ble_eq_true rfl) sh_1 hM5 rfl (EV_le (Nat.le_of_ble_eq_true rfl) (F_Text_addNumber hM5  eM6)) (fun v' M' hq => ?_)
      obtain ⟨rfl, rfl, hM6⟩ := hq
      refine K_aload_n rfl 0 rfl ?_
      refine K_gR rfl sh_0 hM6 rfl rfl 0 rfl r_0_0 ?_
      refine K_gI rfl sh_1 hM6 rfl rfl 1 rfl ?_
      obtain rfl := Option.some.inj h
      exact K_iret rfl (Or.inl rfl) ⟨rfl, rfl, hM6⟩
    · rw [if_neg c1] at h
      refine K_iconst (v := (-1)) rfl (by decide) ?_
      obtain rfl := Option.some.inj h
      exact K_iret rfl (Or.inl rfl) ⟨rfl, rfl, hM⟩
set_option maxRecDepth 20000 in
theorem F_GraveRails_end {X : mX} {x1 : Int32} {M : mM} {r : Int32 × mM} (hM : Fx M)  (h : f_GraveRails_end x1 M = some r) : EV X (0 + 1) 14 [.ref 0, .int x1] M (fun v M' => v = some (.int r.1) ∧ r.2 = M' ∧ Fx r.2) := by
    refine EV_of (lc := [(0, .ref 0), (1, .int x1)]) (Nat.le_of_ble_eq_true rfl) (by exact Nat.le_of_ble_eq_true rfl) (by exact List.forall_mem_cons.mpr ⟨rfl, List.forall_mem_cons.mpr ⟨rfl, fun _ h => absurd h List.not_mem_nil⟩⟩) ?_
    unfold f_GraveRails_end at h
    refine K_iload_n rfl 1 rfl ?_
    refine K_if_lt rfl (fun c1 => ?_) (fun c1 => ?_)
    · rw [if_pos c1] at h
      refine K_iconst (v := (-1)) rfl (by decide) ?_
      obtain rfl := Option.some.inj h
      exact K_iret rfl (Or.inl rfl) ⟨rfl, rfl, hM⟩
    · rw [if_neg c1] at h
      refine K_iload_n rfl 1 rfl ?_
      refine K_aload_n rfl 0 rfl ?_
      refine K_gR rfl sh_0 hM rfl rfl 0 rfl r_0_0 ?_
      refine K_gI rfl sh_1 hM rfl rfl 1 rfl ?_
      refine K_ic_le rfl (fun c2 => ?_) (fun c2 => ?_)
      · rw [if_pos c2] at h
        refine K_aload_n rfl 0 rfl ?_
        refine K_gR rfl sh_0 hM rfl rfl 0 rfl r_0_0 ?_
        refine K_iload_n rfl 1 rfl ?_
        obtain ⟨M3, eM3, h⟩ := Option.bind_eq_some_iff.mp h
        refine K_pI rfl sh_1 hM rfl rfl 1 rfl eM3 (fun hM3 => ?_)
        refine K_iload_n rfl 1 rfl ?_
        obtain rfl := Option.some.inj h
        exact K_iret rfl (Or.inl rfl) ⟨rfl, rfl, hM3⟩
      · rw [if_neg c2] at h
        refine K_iconst (v := (-1)) rfl (by decide) ?_
        obtain rfl := Option.some.inj h
        exact K_iret rfl (Or.inl rfl) ⟨rfl, rfl, hM⟩
set_option maxRecDepth 20000 in
theorem F_Yard_clear {X : mX} {S : Nat} {M : mM} {r : mM} (hM : Fx M) (hS : is_yd S) (h : f_Yard_clear S M = some r) : EV X (1 + 1) 17 [.ref S] M (fun v M' => v = none ∧ r = M' ∧ Fx r) := by
    refine EV_of (lc := [(0, .ref S)]) (Nat.le_of_ble_eq_true rfl) (by exact Nat.le_of_ble_eq_true rfl) (by exact List.forall_mem_cons.mpr ⟨rfl, fun _ h => absurd h List.not_mem_nil⟩) ?_
    unfold f_Yard_clear at h
    refine K_aload_n rfl 0 rfl ?_
    refine K_iconst (v := 0) rfl (by decide) ?_
    obtain ⟨M1, eM1, h⟩ := Option.bind_eq_some_iff.mp h
    refine K_pI rfl (yd_s0 hS) hM rfl rfl 0 rfl eM1 (fun hM1 => ?_)
    refine K_aload_n rfl 0 rfl ?_
    refine K_iconst (v := 0) rfl (by decide) ?_
    obtain ⟨M2, eM2, h⟩ := Option.bind_eq_some_iff.mp h
    refine K_pI rfl (yd_s0 hS) hM1 rfl rfl 1 rfl eM2 (fun hM2 => ?_)
    refine K_aload_n rfl 0 rfl ?_
    refine K_iconst (v := 0) rfl (by decide) ?_
    obtain ⟨M3, eM3, h⟩ := Option.bind_eq_some_iff.mp h
    refine K_pI rfl (yd_s0 hS) hM2 rfl rfl 2 rfl eM3 (fun hM3 => ?_)
    refine K_aload_n rfl 0 rfl ?_
    refine K_iconst (v := 0) rfl (by decide) ?_
    obtain ⟨M4, eM4, h⟩ := Option.bind_eq_some_iff.mp h
    refine K_pI rfl (yd_s0 hS) hM3 rfl rfl 8 rfl eM4 (fun hM4 => ?_)
    refine K_aload_n rfl 0 rfl ?_
    refine K_iconst (v := 0) rfl (by decide) ?_
    obtain ⟨M5, eM5, h⟩ := Option.bind_eq_some_iff.mp h
    refine K_pI rfl (yd_s0 hS) hM4 rfl rfl 10 rfl eM5 (fun hM5 => ?_)
    refine K_aload_n rfl 0 rfl ?_
    refine K_gR rfl (yd_s0 hS) hM5 rfl rfl 6 rfl (yd_r6 hS) ?_
    refine K_iconst (v := (-1)) rfl (by decide) ?_
    obtain ⟨M6, eM6, h⟩ := Option.bind_eq_some_iff.mp h
    refine K_callS [.ref (S + 4), .int (-1)] [] rfl rfl (Nat.le_of_ble_eq_true rfl) (Nat.le_of_ble_eq_true rfl) (EV_le (Nat.le_of_ble_eq_true rfl) (F_J_fill hM5 (yd_s4 hS) eM6)) (fun v' M' hq => ?_)
    obtain ⟨rfl, rfl, hM6⟩ := hq
    refine K_aload_n rfl 0 rfl ?_
    refine K_gR rfl (yd_s0 hS) hM6 rfl rfl 7 rfl (yd_r7 hS) ?_
    refine K_iconst (v := 0) rfl (by decide) ?_
    obtain ⟨M7, eM7, h⟩ := Option.bind_eq_some_iff.mp h
    refine K_callS [.ref (S + 5), .int 0] [] rfl rfl (Nat.le_of_ble_eq_true rfl) (Nat.le_of_ble_eq_true rfl) (EV_le (Nat.le_of_ble_eq_true rfl) (F_J_fill hM6 (yd_s5 hS) eM7)) (fun v' M' hq => ?_)
    obtain ⟨rfl, rfl, hM7⟩ := hq
    refine K_aload_n rfl 0 rfl ?_
    refine K_gR rfl (yd_s0 hS) hM7 rfl rfl 9 rfl (yd_r9 hS) ?_
    refine K_iconst (v := 0) rfl (by decide) ?_
    obtain ⟨M8, eM8, h⟩ := Option.bind_eq_some_iff.mp h
    refine K_callS [.ref (S + 6), .int 0] [] rfl rfl (Nat.le_of_ble_eq_true rfl) (Nat.le_of_ble_eq_true rfl) (EV_le (Nat.le_of_ble_eq_true rfl) (F_J_fill hM7 (yd_s6 hS) eM8)) (fun v' M' hq => ?_)
    obtain ⟨rfl, rfl, hM8⟩ := hq
    obtain rfl := Option.some.inj h
    exact K_vret rfl rfl ⟨rfl, rfl, hM8⟩
set_option maxRecDepth 20000 in
theorem L_Text_passNumber_117 {X : mX}  {k10 : mM → Option (mM)} {r : mM}  (hk10 : ∀  (M : mM), Fx M → k10  M = some r → KK X 0 20 10 [(0, .ref 1)] [] M (fun v M' => v = none ∧ r = M' ∧ Fx r)) (s1 : Int32) (M : mM) (hM : Fx M)  (h : f_Text_passNumber_117  k10 s1 M = some r) : KK X 0 20 117 [(0, .ref 1)] [.int s1, .ref 1] M (fun v M' => v = none ∧ r = M' ∧ Fx r) := by
    unfold f_Text_passNumber_117 at h
    obtain ⟨M11, eM11, h⟩ := Option.bind_eq_some_iff.mp h
    refine K_pI rfl sh_1 hM rfl rfl 5 rfl eM11 (fun hM11 => ?_)
    refine K_aload_n rfl 0 rfl ?_
    refine K_dup rfl rfl ?_
    refine K_gI rfl sh_1 hM11 rfl rfl 3 rfl ?_
    refine K_iconst (v := 1) rfl (by decide) ?_
    refine K_iadd rfl ?_
    obtain ⟨M12, eM12, h⟩ := Option.bind_eq_some_iff.mp h
    refine K_pI rfl sh_1 hM11 rfl rfl 3 rfl eM12 (fun hM12 => ?_)
    refine K_goto rfl ?_
    refine K_pick [0] ?_
    exact hk10  _ hM12  h
set_option maxRecDepth 20000 in
theorem L_Text_passNumber_87 {X : mX}  {k10 : mM → Option (mM)} {r : mM}  (hk10 : ∀  (M : mM), Fx M → k10  M = some r → KK X 0 20 10 [(0, .ref 1)] [] M (fun v M' => v = none ∧ r = M' ∧ Fx r)) (s0 : Int32) (M : mM) (hM : Fx M)  (h : f_Text_passNumber_87  k10 s0 M = some r) : KK X 0 20 87 [(0, .ref 1)] [.int s0] M (fun v M' => v = none ∧ r = M' ∧ Fx r) := by
    unfold f_Text_passNumber_87 at h
    refine K_istore_n rfl ?_
    refine K_aload_n rfl 1 rfl ?_
    refine K_iload_n rfl 0 rfl ?_
    refine K_if_eq rfl (fun c10 => ?_) (fun c10 => ?_)
    · rw [if_pos c10] at h
      refine K_iconst (v := (-1)) rfl (by decide) ?_
      refine K_pick [1] ?_
      exact L_Text_passNumber_117   hk10 _ _ hM  h
    · rw [if_neg c10] at h
      refine K_aload_n rfl 1 rfl ?_
      refine K_gI rfl sh_1 hM rfl rfl 5 rfl ?_
      refine K_bipush (v := 10) rfl (by decide) ?_
      refine K_imul rfl ?_
      refine K_aload_n rfl 1 rfl ?_
      refine K_gR rfl sh_1 hM rfl rfl 0 rfl r_1_0 ?_
      refine K_aload_n rfl 1 rfl ?_
      refine K_gI rfl sh_1 hM rfl rfl 3 rfl ?_
      obtain ⟨v13, ev13, h⟩ := Option.bind_eq_some_iff.mp h
      refine K_rdB rfl sh_2 (by decide) hM ev13 ?_
      refine K_iadd rfl ?_
      refine K_bipush (v := 48) rfl (by decide) ?_
      refine K_isub rfl ?_
      refine K_goto rfl ?_
      refine K_pick [1] ?_
      exact L_Text_passNumber_117   hk10 _ _ hM  h
set_option maxRecDepth 20000 in
theorem L_Text_passNumber_86 {X : mX}  {k10 : mM → Option (mM)} {r : mM}  (hk10 : ∀  (M : mM), Fx M → k10  M = some r → KK X 0 20 10 [(0, .ref 1)] [] M (fun v M' => v = none ∧ r = M' ∧ Fx r))  (M : mM) (hM : Fx M)  (h : f_Text_passNumber_86  k10  M = some r) : KK X 0 20 86 [(0, .ref 1)] [] M (fun v M' => v = none ∧ r = M' ∧ Fx r) := by
    unfold f_Text_passNumber_86 at h
    refine K_iconst (v := 0) rfl (by decide) ?_
    refine K_pick [0] ?_
    exact L_Text_passNumber_87   hk10 _ _ hM  h
set_option maxRecDepth 20000 in
theorem L_Text_passNumber_10 {X : mX}  {r : mM}  : ∀ (n : Nat)  (M : mM), Fx M → f_Text_passNumber_10   n  M = some r → KK X 0 20 10 [(0, .ref 1)] [] M (fun v M' => v = none ∧ r = M' ∧ Fx r)
  | 0, _ => fun _ h => by cases h
  | n + 1, M => fun hM h => by
    unfold f_Text_passNumber_10 at h
    refine K_aload_n rfl 0 rfl ?_
    refine K_gI rfl sh_1 hM rfl rfl 3 rfl ?_
    refine K_aload_n rfl 0 rfl ?_
    refine K_gI rfl sh_1 hM rfl rfl 1 rfl ?_
    refine K_ic_ge rfl (fun c3 => ?_) (fun c3 => ?_)
    · rw [if_pos c3] at h
      obtain rfl := Option.some.inj h
      exact K_vret rfl rfl ⟨rfl, rfl, hM⟩
    · rw [if_neg c3] at h
      refine K_aload_n rfl 0 rfl ?_
      refine K_gI rfl sh_1 hM rfl rfl 3 rfl ?_
      refine K_aload_n rfl 0 rfl ?_
      refine K_gR rfl sh_1 hM rfl rfl 0 rfl r_1_0 ?_
      refine K_aln (v := 400) rfl sh_2 hM (by decide) (by decide) ?_
      refine K_ic_ge rfl (fun c4 => ?_) (fun c4 => ?_)
      · rw [if_pos c4] at h
        obtain rfl := Option.some.inj h
        exact K_vret rfl rfl ⟨rfl, rfl, hM⟩
      · rw [if_neg c4] at h
        refine K_aload_n rfl 0 rfl ?_
        refine K_gR rfl sh_1 hM rfl rfl 0 rfl r_1_0 ?_
        refine K_aload_n rfl 0 rfl ?_
        refine K_gI rfl sh_1 hM rfl rfl 3 rfl ?_
        obtain ⟨v5, ev5, h⟩ := Option.bind_eq_some_iff.mp h
        refine K_rdB rfl sh_2 (by decide) hM ev5 ?_
        refine K_bipush (v := 48) rfl (by decide) ?_
        refine K_ic_lt rfl (fun c6 => ?_) (fun c6 => ?_)
        · rw [if_pos c6] at h
          obtain rfl := Option.some.inj h
          exact K_vret rfl rfl ⟨rfl, rfl, hM⟩
        · rw [if_neg c6] at h
          refine K_aload_n rfl 0 rfl ?_
          refine K_gR rfl sh_1 hM rfl rfl 0 rfl r_1_0 ?_
          refine K_aload_n rfl 0 rfl ?_
          refine K_gI rfl sh_1 hM rfl rfl 3 rfl ?_
          obtain ⟨v7, ev7, h⟩ := Option.bind_eq_some_iff.mp h
          refine K_rdB rfl sh_2 (by decide) hM ev7 ?_
          refine K_bipush (v := 57) rfl (by decide) ?_
          refine K_ic_gt rfl (fun c8 => ?_) (fun c8 => ?_)
          · rw [if_pos c8] at h
            obtain rfl := Option.some.inj h
            exact K_vret rfl rfl ⟨rfl, rfl, hM⟩
          · rw [if_neg c8] at h
            refine K_aload_n rfl 0 rfl ?_
            refine K_gI rfl sh_1 hM rfl rfl 3 rfl ?_
            refine K_aload_n rfl 0 rfl ?_
            refine K_gI rfl sh_1 hM rfl rfl 2 rfl ?_
            refine K_isub rfl ?_
            refine K_iconst (v := 5) rfl (by decide) ?_
            refine K_ic_ge rfl (fun c9 => ?_) (fun c9 => ?_)
            · rw [if_pos c9] at h
              refine K_pick [0] ?_
              exact L_Text_passNumber_86   (L_Text_passNumber_10    n)  _ hM  h
            · rw [if_neg c9] at h
              refine K_aload_n rfl 0 rfl ?_
              refine K_gI rfl sh_1 hM rfl rfl 5 rfl ?_
              refine K_iconst (v := (-1)) rfl (by decide) ?_
              refine K_ic_eq rfl (fun c14 => ?_) (fun c14 => ?_)
              · rw [if_pos c14] at h
                refine K_pick [0] ?_
                exact L_Text_passNumber_86   (L_Text_passNumber_10    n)  _ hM  h
              · rw [if_neg c14] at h
                refine K_iconst (v := 1) rfl (by decide) ?_
                refine K_goto rfl ?_
                refine K_pick [0] ?_
                exact L_Text_passNumber_87   (L_Text_passNumber_10    n) _ _ hM  h
set_option maxRecDepth 20000 in
theorem F_Text_passNumber {X : mX}  {M : mM} {r : mM} (hM : Fx M)  (h : f_Text_passNumber  M = some r) : EV X (0 + 1) 20 [.ref 1] M (fun v M' => v = none ∧ r = M' ∧ Fx r) := by
    refine EV_of (lc := [(0, .ref 1)]) (Nat.le_of_ble_eq_true rfl) (by exact Nat.le_of_ble_eq_true rfl) (by exact List.forall_mem_cons.mpr ⟨rfl, fun _ h => absurd h List.not_mem_nil⟩) ?_
    unfold f_Text_passNumber at h
    refine K_aload_n rfl 0 rfl ?_
    refine K_iconst (v := 1) rfl (by decide) ?_
    obtain ⟨M1, eM1, h⟩ := Option.bind_eq_some_iff.mp h
    refine K_pI rfl sh_1 hM rfl rfl 4 rfl eM1 (fun hM1 => ?_)
    refine K_aload_n rfl 0 rfl ?_
    refine K_iconst (v := 0) rfl (by decide) ?_
    obtain ⟨M2, eM2, h⟩ := Option.bind_eq_some_iff.mp h
    refine K_pI rfl sh_1 hM1 rfl rfl 5 rfl eM2 (fun hM2 => ?_)
    refine K_pick [0] ?_
    exact L_Text_passNumber_10    FUEL  _ hM2  h
set_option maxRecDepth 20000 in
theorem L_Text_passWord_5 {X : mX}  {r : mM}  : ∀ (n : Nat)  (M : mM), Fx M → f_Text_passWord_5   n  M = some r → KK X 0 21 5 [(0, .ref 1)] [] M (fun v M' => v = none ∧ r = M' ∧ Fx r)
  | 0, _ => fun _ h => by cases h
  | n + 1, M => fun hM h => by
    unfold f_Text_passWord_5 at h
    refine K_aload_n rfl 0 rfl ?_
    refine K_gI rfl sh_1 hM rfl rfl 3 rfl ?_
    refine K_aload_n rfl 0 rfl ?_
    refine K_gI rfl sh_1 hM rfl rfl 1 rfl ?_
    refine K_ic_ge rfl (fun c2 => ?_) (fun c2 => ?_)
    · rw [if_pos c2] at h
      obtain rfl := Option.some.inj h
      exact K_vret rfl rfl ⟨rfl, rfl, hM⟩
    · rw [if_neg c2] at h
      refine K_aload_n rfl 0 rfl ?_
      refine K_gI rfl sh_1 hM rfl rfl 3 rfl ?_
      refine K_aload_n rfl 0 rfl ?_
      refine K_gR rfl sh_1 hM rfl rfl 0 rfl r_1_0 ?_
      refine K_aln (v := 400) rfl sh_2 hM (by decide) (by decide) ?_
      refine K_ic_ge rfl (fun c3 => ?_) (fun c3 => ?_)
      · rw [if_pos c3] at h
        obtain rfl := Option.some.inj h
        exact K_vret rfl rfl ⟨rfl, rfl, hM⟩
      · rw [if_neg c3] at h
        refine K_aload_n rfl 0 rfl ?_
        refine K_gR rfl sh_1 hM rfl rfl 0 rfl r_1_0 ?_
        refine K_aload_n rfl 0 rfl ?_
        refine K_gI rfl sh_1 hM rfl rfl 3 rfl ?_
        obtain ⟨v4, ev4, h⟩ := Option.bind_eq_some_iff.mp h
        refine K_rdB rfl sh_2 (by decide) hM ev4 ?_
        refine K_bipush (v := 97) rfl (by decide) ?_
        refine K_ic_lt rfl (fun c5 => ?_) (fun c5 => ?_)
        · rw [if_pos c5] at h
          obtain rfl := Option.some.inj h
          exact K_vret rfl rfl ⟨rfl, rfl, hM⟩
        · rw [if_neg c5] at h
          refine K_aload_n rfl 0 rfl ?_
          refine K_gR rfl sh_1 hM rfl rfl 0 rfl r_1_0 ?_
          refine K_aload_n rfl 0 rfl ?_
          refine K_gI rfl sh_1 hM rfl rfl 3 rfl ?_
          obtain ⟨v6, ev6, h⟩ := Option.bind_eq_some_iff.mp h
          refine K_rdB rfl sh_2 (by decide) hM ev6 ?_
          refine K_bipush (v := 122) rfl (by decide) ?_
          refine K_ic_gt rfl (fun c7 => ?_) (fun c7 => ?_)
          · rw [if_pos c7] at h
            obtain rfl := Option.some.inj h
            exact K_vret rfl rfl ⟨rfl, rfl, hM⟩
          · rw [if_neg c7] at h
            refine K_aload_n rfl 0 rfl ?_
            refine K_dup rfl rfl ?_
            refine K_gI rfl sh_1 hM rfl rfl 3 rfl ?_
            refine K_iconst (v := 1) rfl (by decide) ?_
            refine K_iadd rfl ?_
            obtain ⟨M8, eM8, h⟩ := Option.bind_eq_some_iff.mp h
            refine K_pI rfl sh_1 hM rfl rfl 3 rfl eM8 (fun hM8 => ?_)
            refine K_goto rfl ?_
            refine K_pick [0] ?_
            exact L_Text_passWord_5    n  _ hM8  h
set_option maxRecDepth 20000 in
theorem F_Text_passWord {X : mX}  {M : mM} {r : mM} (hM : Fx M)  (h : f_Text_passWord  M = some r) : EV X (0 + 1) 21 [.ref 1] M (fun v M' => v = none ∧ r = M' ∧ Fx r) := by
    refine EV_of (lc := [(0, .ref 1)]) (Nat.le_of_ble_eq_true rfl) (by exact Nat.le_of_ble_eq_true rfl) (by exact List.forall_mem_cons.mpr ⟨rfl, fun _ h => absurd h List.not_mem_nil⟩) ?_
    unfold f_Text_passWord at h
    refine K_aload_n rfl 0 rfl ?_
    refine K_iconst (v := 2) rfl (by decide) ?_
    obtain ⟨M1, eM1, h⟩ := Option.bind_eq_some_iff.mp h
    refine K_pI rfl sh_1 hM rfl rfl 4 rfl eM1 (fun hM1 => ?_)
    refine K_pick [0] ?_
    exact L_Text_passWord_5    FUEL  _ hM1  h
set_option maxRecDepth 20000 in
theorem L_Text_passSign_37 {X : mX} {x1 : Int32} {r : mM}  (s0 : Int32) (M : mM) (hM : Fx M)  (h : f_Text_passSign_37 x1  s0 M = some r) : KK X 0 22 37 [(0, .ref 1), (1, .int x1)] [.int s0] M (fun v M' => v = none ∧ r = M' ∧ Fx r) := by
    unfold f_Text_passSign_37 at h
    refine K_istore_n rfl ?_
    refine K_iload_n rfl 0 rfl ?_
    refine K_if_eq rfl (fun c5 => ?_) (fun c5 => ?_)
    · rw [if_pos c5] at h
      obtain rfl := Option.some.inj h
      exact K_vret rfl rfl ⟨rfl, rfl, hM⟩
    · rw [if_neg c5] at h
      refine K_aload_n rfl 1 rfl ?_
      refine K_gI rfl sh_1 hM rfl rfl 3 rfl ?_
      refine K_aload_n rfl 1 rfl ?_
      refine K_gI rfl sh_1 hM rfl rfl 1 rfl ?_
      refine K_ic_ge rfl (fun c6 => ?_) (fun c6 => ?_)
      · rw [if_pos c6] at h
        obtain rfl := Option.some.inj h
        exact K_vret rfl rfl ⟨rfl, rfl, hM⟩
      · rw [if_neg c6] at h
        refine K_aload_n rfl 1 rfl ?_
        refine K_gI rfl sh_1 hM rfl rfl 3 rfl ?_
        refine K_aload_n rfl 1 rfl ?_
        refine K_gR rfl sh_1 hM rfl rfl 0 rfl r_1_0 ?_
        refine K_aln (v := 400) rfl sh_2 hM (by decide) (by decide) ?_
        refine K_ic_ge rfl (fun c7 => ?_) (fun c7 => ?_)
        · rw [if_pos c7] at h
          obtain rfl := Option.some.inj h
          exact K_vret rfl rfl ⟨rfl, rfl, hM⟩
        · rw [if_neg c7] at h
          refine K_aload_n rfl 1 rfl ?_
          refine K_gR rfl sh_1 hM rfl rfl 0 rfl r_1_0 ?_
          refine K_aload_n rfl 1 rfl ?_
          refine K_gI rfl sh_1 hM rfl rfl 3 rfl ?_
          obtain ⟨v8, ev8, h⟩ := Option.bind_eq_some_iff.mp h
          refine K_rdB rfl sh_2 (by decide) hM ev8 ?_
          refine K_bipush (v := 61) rfl (by decide) ?_
          refine K_ic_ne rfl (fun c9 => ?_) (fun c9 => ?_)
          · rw [if_neg c9] at h
            obtain rfl := Option.some.inj h
            exact K_vret rfl rfl ⟨rfl, rfl, hM⟩
          · rw [if_pos c9] at h
            refine K_aload_n rfl 1 rfl ?_
            refine K_iload_n rfl 2 rfl ?_
            refine K_sipush (v := 256) rfl (by decide) ?_
            refine K_iadd rfl ?_
            obtain ⟨M10, eM10, h⟩ := Option.bind_eq_some_iff.mp h
            refine K_pI rfl sh_1 hM rfl rfl 5 rfl eM10 (fun hM10 => ?_)
            refine K_aload_n rfl 1 rfl ?_
            refine K_dup rfl rfl ?_
            refine K_gI rfl sh_1 hM10 rfl rfl 3 rfl ?_
            refine K_iconst (v := 1) rfl (by decide) ?_
            refine K_iadd rfl ?_
            obtain ⟨M11, eM11, h⟩ := Option.bind_eq_some_iff.mp h
            refine K_pI rfl sh_1 hM10 rfl rfl 3 rfl eM11 (fun hM11 => ?_)
            obtain rfl := Option.some.inj h
            exact K_vret rfl rfl ⟨rfl, rfl, hM11⟩
set_option maxRecDepth 20000 in
theorem L_Text_passSign_32 {X : mX} {x1 : Int32} {r : mM}   (M : mM) (hM : Fx M)  (h : f_Text_passSign_32 x1   M = some r) : KK X 0 22 32 [(0, .ref 1), (1, .int x1)] [] M (fun v M' => v = none ∧ r = M' ∧ Fx r) := by
    unfold f_Text_passSign_32 at h
    refine K_iconst (v := 1) rfl (by decide) ?_
    refine K_goto rfl ?_
    refine K_pick [0, 1] ?_
    exact L_Text_passSign_37    _ _ hM  h
set_option maxRecDepth 20000 in
theorem F_Text_passSign {X : mX} {x1 : Int32} {M : mM} {r : mM} (hM : Fx M)  (h : f_Text_passSign x1 M = some r) : EV X (0 + 1) 22 [.ref 1, .int x1] M (fun v M' => v = none ∧ r = M' ∧ Fx r) := by
    refine EV_of (lc := [(0, .ref 1), (1, .int x1)]) (Nat.le_of_ble_eq_true rfl) (by exact Nat.le_of_ble_eq_true rfl) (by exact List.forall_mem_cons.mpr ⟨rfl, List.forall_mem_cons.mpr ⟨rfl, fun _ h => absurd h List.not_mem_nil⟩⟩) ?_
    unfold f_Text_passSign at h
    refine K_aload_n rfl 0 rfl ?_
    refine K_iconst (v := 3) rfl (by decide) ?_
    obtain ⟨M1, eM1, h⟩ := Option.bind_eq_some_iff.mp h
    refine K_pI rfl sh_1 hM rfl rfl 4 rfl eM1 (fun hM1 => ?_)
    refine K_aload_n rfl 0 rfl ?_
    refine K_iload_n rfl 1 rfl ?_
    obtain ⟨M2, eM2, h⟩ := Option.bind_eq_some_iff.mp h
    refine K_pI rfl sh_1 hM1 rfl rfl 5 rfl eM2 (fun hM2 => ?_)
    refine K_aload_n rfl 0 rfl ?_
    refine K_aload_n rfl 0 rfl ?_
    refine K_gI rfl sh_1 hM2 rfl rfl 2 rfl ?_
    refine K_iconst (v := 1) rfl (by decide) ?_
    refine K_iadd rfl ?_
    obtain ⟨M3, eM3, h⟩ := Option.bind_eq_some_iff.mp h
    refine K_pI rfl sh_1 hM2 rfl rfl 3 rfl eM3 (fun hM3 => ?_)
    refine K_iload_n rfl 1 rfl ?_
    refine K_bipush (v := 60) rfl (by decide) ?_
    refine K_ic_eq rfl (fun c4 => ?_) (fun c4 => ?_)
    · rw [if_pos c4] at h
      refine K_pick [0, 1] ?_
      exact L_Text_passSign_32     _ hM3  h
    · rw [if_neg c4] at h
      refine K_iload_n rfl 1 rfl ?_
      refine K_bipush (v := 62) rfl (by decide) ?_
      refine K_ic_ne rfl (fun c12 => ?_) (fun c12 => ?_)
      · rw [if_neg c12] at h
        refine K_iconst (v := 0) rfl (by decide) ?_
        refine K_pick [0, 1] ?_
        exact L_Text_passSign_37    _ _ hM3  h
      · rw [if_pos c12] at h
        refine K_pick [0, 1] ?_
        exact L_Text_passSign_32     _ hM3  h
set_option maxRecDepth 20000 in
theorem L_Text_advance_102 {X : mX}  {r : mM}   (M : mM) (hM : Fx M)  (h : f_Text_advance_102    M = some r) : KK X 1 19 102 [(0, .ref 1)] [] M (fun v M' => v = none ∧ r = M' ∧ Fx r) := by
    unfold f_Text_advance_102 at h
    refine K_aload_n rfl 0 rfl ?_
    refine K_iconst (v := 0) rfl (by decide) ?_
    obtain ⟨M6, eM6, h⟩ := Option.bind_eq_some_iff.mp h
    refine K_pI rfl sh_1 hM rfl rfl 4 rfl eM6 (fun hM6 => ?_)
    obtain rfl := Option.some.inj h
    exact K_vret rfl rfl ⟨rfl, rfl, hM6⟩
set_option maxRecDepth 20000 in
theorem L_Text_advance_156 {X : mX}  {r : mM}  (l1 : Int32) (M : mM) (hM : Fx M)  (h : f_Text_advance_156   l1 M = some r) : KK X 1 19 156 [(0, .ref 1), (1, .int l1)] [] M (fun v M' => v = none ∧ r = M' ∧ Fx r) := by
    unfold f_Text_advance_156 at h
    refine K_aload_n rfl 0 rfl ?_
    refine K_iload_n rfl 1 rfl ?_
    obtain ⟨M11, eM11, h⟩ := Option.bind_eq_some_iff.mp h
    refine K_cV [.int l1] [] rfl rfl (Nat.le_of_ble_eq_true rfl) (Nat.le_of_ble_eq_true rfl) sh_1 hM rfl (EV_le (Nat.le_of_ble_eq_true rfl) (F_Text_passSign hM  eM11)) (fun v' M' hq => ?_)
    obtain ⟨rfl, rfl, hM11⟩ := hq
    obtain rfl := Option.some.inj h
    exact K_vret rfl rfl ⟨rfl, rfl, hM11⟩
set_option maxRecDepth 20000 in
theorem L_Text_advance_137 {X : mX}  {r : mM}  (l1 : Int32) (M : mM) (hM : Fx M)  (h : f_Text_advance_137   l1 M = some r) : KK X 1 19 137 [(0, .ref 1), (1, .int l1)] [] M (fun v M' => v = none ∧ r = M' ∧ Fx r) := by
    unfold f_Text_advance_137 at h
    refine K_iload_n rfl 1 rfl ?_
    refine K_bipush (v := 97) rfl (by decide) ?_
    refine K_ic_lt rfl (fun c10 => ?_) (fun c10 => ?_)
    · rw [if_pos c10] at h
      refine K_pick [0, 1] ?_
      exact L_Text_advance_156    _ _ hM  h
    · rw [if_neg c10] at h
      refine K_iload_n rfl 1 rfl ?_
      refine K_bipush (v := 122) rfl (by decide) ?_
      refine K_ic_gt rfl (fun c12 => ?_) (fun c12 => ?_)
      · rw [if_pos c12] at h
        refine K_pick [0, 1] ?_
        exact L_Text_advance_156    _ _ hM  h
      · rw [if_neg c12] at h
        refine K_aload_n rfl 0 rfl ?_
        obtain ⟨M13, eM13, h⟩ := Option.bind_eq_some_iff.mp h
        refine K_cV [] [] rfl rfl (Nat.le_of_ble_eq_true rfl) (Nat.le_of_ble_eq_true rfl) sh_1 hM rfl (EV_le (Nat.le_of_ble_eq_true rfl) (F_Text_passWord hM  eM13)) (fun v' M' hq => ?_)
        obtain ⟨rfl, rfl, hM13⟩ := hq
        refine K_goto rfl ?_
        obtain rfl := Option.some.inj h
        exact K_vret rfl rfl ⟨rfl, rfl, hM13⟩
set_option maxRecDepth 20000 in
theorem L_Text_advance_71 {X : mX}  {r : mM}   (M : mM) (hM : Fx M)  (h : f_Text_advance_71    M = some r) : KK X 1 19 71 [(0, .ref 1)] [] M (fun v M' => v = none ∧ r = M' ∧ Fx r) := by
    unfold f_Text_advance_71 at h
    refine K_aload_n rfl 0 rfl ?_
    refine K_aload_n rfl 0 rfl ?_
    refine K_gI rfl sh_1 hM rfl rfl 2 rfl ?_
    obtain ⟨M4, eM4, h⟩ := Option.bind_eq_some_iff.mp h
    refine K_pI rfl sh_1 hM rfl rfl 3 rfl eM4 (fun hM4 => ?_)
    refine K_aload_n rfl 0 rfl ?_
    refine K_gI rfl sh_1 hM4 rfl rfl 2 rfl ?_
    refine K_aload_n rfl 0 rfl ?_
    refine K_gI rfl sh_1 hM4 rfl rfl 1 rfl ?_
    refine K_ic_ge rfl (fun c5 => ?_) (fun c5 => ?_)
    · rw [if_pos c5] at h
      refine K_pick [0] ?_
      exact L_Text_advance_102     _ hM4  h
    · rw [if_neg c5] at h
      refine K_aload_n rfl 0 rfl ?_
      refine K_gI rfl sh_1 hM4 rfl rfl 2 rfl ?_
      refine K_aload_n rfl 0 rfl ?_
      refine K_gR rfl sh_1 hM4 rfl rfl 0 rfl r_1_0 ?_
      refine K_aln (v := 400) rfl sh_2 hM4 (by decide) (by decide) ?_
      refine K_ic_lt rfl (fun c7 => ?_) (fun c7 => ?_)
      · rw [if_pos c7] at h
        refine K_aload_n rfl 0 rfl ?_
        refine K_gR rfl sh_1 hM4 rfl rfl 0 rfl r_1_0 ?_
        refine K_aload_n rfl 0 rfl ?_
        refine K_gI rfl sh_1 hM4 rfl rfl 2 rfl ?_
        obtain ⟨v8, ev8, h⟩ := Option.bind_eq_some_iff.mp h
        refine K_rdB rfl sh_2 (by decide) hM4 ev8 ?_
        refine K_istore_n rfl ?_
        refine K_iload_n rfl 0 rfl ?_
        refine K_bipush (v := 48) rfl (by decide) ?_
        refine K_ic_lt rfl (fun c9 => ?_) (fun c9 => ?_)
        · rw [if_pos c9] at h
          refine K_pick [1, 0] ?_
          exact L_Text_advance_137    _ _ hM4  h
        · rw [if_neg c9] at h
          refine K_iload_n rfl 0 rfl ?_
          refine K_bipush (v := 57) rfl (by decide) ?_
          refine K_ic_gt rfl (fun c14 => ?_) (fun c14 => ?_)
          · rw [if_pos c14] at h
            refine K_pick [1, 0] ?_
            exact L_Text_advance_137    _ _ hM4  h
          · rw [if_neg c14] at h
            refine K_aload_n rfl 1 rfl ?_
            obtain ⟨M15, eM15, h⟩ := Option.bind_eq_some_iff.mp h
            refine K_cV [] [] rfl rfl (Nat.le_of_ble_eq_true rfl) (Nat.le_of_ble_eq_true rfl) sh_1 hM4 rfl (EV_le (Nat.le_of_ble_eq_true rfl) (F_Text_passNumber hM4  eM15)) (fun v' M' hq => ?_)
            obtain ⟨rfl, rfl, hM15⟩ := hq
            refine K_goto rfl ?_
            obtain rfl := Option.some.inj h
            exact K_vret rfl rfl ⟨rfl, rfl, hM15⟩
      · rw [if_neg c7] at h
        refine K_pick [0] ?_
        exact L_Text_advance_102     _ hM4  h
set_option maxRecDepth 20000 in
theorem L_Text_advance_21 {X : mX}  {r : mM}  : ∀ (n : Nat)  (M : mM), Fx M → f_Text_advance_21   n  M = some r → KK X 1 19 21 [(0, .ref 1)] [] M (fun v M' => v = none ∧ r = M' ∧ Fx r)
  | 0, _ => fun _ h => by cases h
  | n + 1, M => fun hM h => by
    unfold f_Text_advance_21 at h
    refine K_aload_n rfl 0 rfl ?_
    refine K_gI rfl sh_1 hM rfl rfl 2 rfl ?_
    refine K_aload_n rfl 0 rfl ?_
    refine K_gI rfl sh_1 hM rfl rfl 1 rfl ?_
    refine K_ic_ge rfl (fun c3 => ?_) (fun c3 => ?_)
    · rw [if_pos c3] at h
      refine K_pick [0] ?_
      exact L_Text_advance_71     _ hM  h
    · rw [if_neg c3] at h
      refine K_aload_n rfl 0 rfl ?_
      refine K_gI rfl sh_1 hM rfl rfl 2 rfl ?_
      refine K_aload_n rfl 0 rfl ?_
      refine K_gR rfl sh_1 hM rfl rfl 0 rfl r_1_0 ?_
      refine K_aln (v := 400) rfl sh_2 hM (by decide) (by decide) ?_
      refine K_ic_ge rfl (fun c16 => ?_) (fun c16 => ?_)
      · rw [if_pos c16] at h
        refine K_pick [0] ?_
        exact L_Text_advance_71     _ hM  h
      · rw [if_neg c16] at h
        refine K_aload_n rfl 0 rfl ?_
        refine K_gR rfl sh_1 hM rfl rfl 0 rfl r_1_0 ?_
        refine K_aload_n rfl 0 rfl ?_
        refine K_gI rfl sh_1 hM rfl rfl 2 rfl ?_
        obtain ⟨v17, ev17, h⟩ := Option.bind_eq_some_iff.mp h
        refine K_rdB rfl sh_2 (by decide) hM ev17 ?_
        refine K_bipush (v := 32) rfl (by decide) ?_
        refine K_ic_ne rfl (fun c18 => ?_) (fun c18 => ?_)
        · rw [if_neg c18] at h
          refine K_pick [0] ?_
          exact L_Text_advance_71     _ hM  h
        · rw [if_pos c18] at h
          refine K_aload_n rfl 0 rfl ?_
          refine K_dup rfl rfl ?_
          refine K_gI rfl sh_1 hM rfl rfl 2 rfl ?_
          refine K_iconst (v := 1) rfl (by decide) ?_
          refine K_iadd rfl ?_
          obtain ⟨M19, eM19, h⟩ := Option.bind_eq_some_iff.mp h
          refine K_pI rfl sh_1 hM rfl rfl 2 rfl eM19 (fun hM19 => ?_)
          refine K_goto rfl ?_
          refine K_pick [0] ?_
          exact L_Text_advance_21    n  _ hM19  h
set_option maxRecDepth 20000 in
theorem F_Text_advance {X : mX}  {M : mM} {r : mM} (hM : Fx M)  (h : f_Text_advance  M = some r) : EV X (1 + 1) 19 [.ref 1] M (fun v M' => v = none ∧ r = M' ∧ Fx r) := by
    refine EV_of (lc := [(0, .ref 1)]) (Nat.le_of_ble_eq_true rfl) (by exact Nat.le_of_ble_eq_true rfl) (by exact List.forall_mem_cons.mpr ⟨rfl, fun _ h => absurd h List.not_mem_nil⟩) ?_
    unfold f_Text_advance at h
    refine K_aload_n rfl 0 rfl ?_
    refine K_gI rfl sh_1 hM rfl rfl 4 rfl ?_
    refine K_iconst (v := 4) rfl (by decide) ?_
    refine K_ic_ne rfl (fun c1 => ?_) (fun c1 => ?_)
    · rw [if_neg c1] at h
      refine K_aload_n rfl 0 rfl ?_
      refine K_iconst (v := 0) rfl (by decide) ?_
      refine K_aload_n rfl 0 rfl ?_
      refine K_gI rfl sh_1 hM rfl rfl 3 rfl ?_
      refine K_max rfl (Nat.le_of_ble_eq_true rfl) ?_
      obtain ⟨M2, eM2, h⟩ := Option.bind_eq_some_iff.mp h
      refine K_pI rfl sh_1 hM rfl rfl 2 rfl eM2 (fun hM2 => ?_)
      refine K_pick [0] ?_
      exact L_Text_advance_21    FUEL  _ hM2  h
    · rw [if_pos c1] at h
      obtain rfl := Option.some.inj h
      exact K_vret rfl rfl ⟨rfl, rfl, hM⟩
set_option maxRecDepth 20000 in
theorem F_Text_rewind {X : mX}  {M : mM} {r : mM} (hM : Fx M)  (h : f_Text_rewind  M = some r) : EV X (2 + 1) 18 [.ref 1] M (fun v M' => v = none ∧ r = M' ∧ Fx r) := by
    refine EV_of (lc := [(0, .ref 1)]) (Nat.le_of_ble_eq_true rfl) (by exact Nat.le_of_ble_eq_true rfl) (by exact List.forall_mem_cons.mpr ⟨rfl, fun _ h => absurd h List.not_mem_nil⟩) ?_
    unfold f_Text_rewind at h
    refine K_aload_n rfl 0 rfl ?_
    refine K_iconst (v := 0) rfl (by decide) ?_
    obtain ⟨M1, eM1, h⟩ := Option.bind_eq_some_iff.mp h
    refine K_pI rfl sh_1 hM rfl rfl 3 rfl eM1 (fun hM1 => ?_)
    refine K_aload_n rfl 0 rfl ?_
    refine K_iconst (v := 0) rfl (by decide) ?_
    obtain ⟨M2, eM2, h⟩ := Option.bind_eq_some_iff.mp h
    refine K_pI rfl sh_1 hM1 rfl rfl 6 rfl eM2 (fun hM2 => ?_)
    refine K_aload_n rfl 0 rfl ?_
    refine K_iconst (v := 0) rfl (by decide) ?_
    obtain ⟨M3, eM3, h⟩ := Option.bind_eq_some_iff.mp h
    refine K_pI rfl sh_1 hM2 rfl rfl 4 rfl eM3 (fun hM3 => ?_)
    refine K_aload_n rfl 0 rfl ?_
    obtain ⟨M4, eM4, h⟩ := Option.bind_eq_some_iff.mp h
    refine K_cV [] [] rfl rfl (Nat.le_of_ble_eq_true rfl) (Nat.le_of_ble_eq_true rfl) sh_1 hM3 rfl (EV_le (Nat.le_of_ble_eq_true rfl) (F_Text_advance hM3  eM4)) (fun v' M' hq => ?_)
    obtain ⟨rfl, rfl, hM4⟩ := hq
    obtain rfl := Option.some.inj h
    exact K_vret rfl rfl ⟨rfl, rfl, hM4⟩
set_option maxRecDepth 20000 in
theorem L_Text_wordAmong_132 {X : mX} {x1 : Nat} {k23 : Int32 → Int32 → Int32 → Int32 → mM → Option (Int32 × mM)} {r : Int32 × mM} (hx1 : x1 < 8) (hk23 : ∀ (l2 : Int32) (l3 : Int32) (l4 : Int32) (l5 : Int32) (M : mM), Fx M → k23 l2 l3 l4 l5 M = some r → KK X 4 24 23 [(0, .ref 1), (1, .ref (mstr + x1)), (2, .int l2), (3, .int l3), (4, .int l4), (5, .int l5)] [] M (fun v M' => v = some (.int r.1) ∧ r.2 = M' ∧ Fx r.2)) (l2 : Int32) (l3 : Int32) (l4 : Int32) (l5 : Int32) (M : mM) (hM : Fx M)  (h : f_Text_wordAmong_132 x1 k23 l2 l3 l4 l5 M = some r) : KK X 4 24 132 [(0, .ref 1), (1, .ref (mstr + x1)), (2, .int l2), (3, .int l3), (4, .int l4), (5, .int l5)] [] M (fun v M' => v = some (.int r.1) ∧ r.2 = M' ∧ Fx r.2) := by
    unfold f_Text_wordAmong_132 at h
    refine K_iinc (y := (l5 + 1)) rfl 5 rfl rfl ?_
    refine K_goto rfl ?_
    refine K_pick [1, 2, 3, 4, 5, 0] ?_
    exact hk23 _ _ _ _ _ hM  h
set_option maxRecDepth 20000 in
theorem L_Text_wordAmong_67 {X : mX} {x1 : Nat} {k23 : Int32 → Int32 → Int32 → Int32 → mM → Option (Int32 × mM)} {r : Int32 × mM} (hx1 : x1 < 8) (hk23 : ∀ (l2 : Int32) (l3 : Int32) (l4 : Int32) (l5 : Int32) (M : mM), Fx M → k23 l2 l3 l4 l5 M = some r → KK X 4 24 23 [(0, .ref 1), (1, .ref (mstr + x1)), (2, .int l2), (3, .int l3), (4, .int l4), (5, .int l5)] [] M (fun v M' => v = some (.int r.1) ∧ r.2 = M' ∧ Fx r.2)) (l2 : Int32) (l5 : Int32) (M : mM) (hM : Fx M)  (h : f_Text_wordAmong_67 x1 k23 l2 l5 M = some r) : KK X 4 24 67 [(0, .ref 1), (1, .ref (mstr + x1)), (2, .int l2), (5, .int l5)] [] M (fun v M' => v = some (.int r.1) ∧ r.2 = M' ∧ Fx r.2) := by
    unfold f_Text_wordAmong_67 at h
    refine K_iinc (y := (l2 + 1)) rfl 2 rfl rfl ?_
    refine K_aload_n rfl 1 rfl ?_
    refine K_gI rfl sh_1 hM rfl rfl 2 rfl ?_
    refine K_istore_n rfl ?_
    refine K_iconst (v := 1) rfl (by decide) ?_
    refine K_istore rfl ?_
    refine K_goto rfl ?_
    refine K_pick [3, 4, 2, 1, 0, 5] ?_
    exact L_Text_wordAmong_132 hx1  hk23 _ _ _ _ _ hM  h
set_option maxRecDepth 20000 in
theorem L_Text_wordAmong_52 {X : mX} {x1 : Nat} {k23 : Int32 → Int32 → Int32 → Int32 → mM → Option (Int32 × mM)} {r : Int32 × mM} (hx1 : x1 < 8) (hk23 : ∀ (l2 : Int32) (l3 : Int32) (l4 : Int32) (l5 : Int32) (M : mM), Fx M → k23 l2 l3 l4 l5 M = some r → KK X 4 24 23 [(0, .ref 1), (1, .ref (mstr + x1)), (2, .int l2), (3, .int l3), (4, .int l4), (5, .int l5)] [] M (fun v M' => v = some (.int r.1) ∧ r.2 = M' ∧ Fx r.2)) (l2 : Int32) (l3 : Int32) (l4 : Int32) (l5 : Int32) (M : mM) (hM : Fx M)  (h : f_Text_wordAmong_52 x1 k23 l2 l3 l4 l5 M = some r) : KK X 4 24 52 [(0, .ref 1), (1, .ref (mstr + x1)), (2, .int l2), (3, .int l3), (4, .int l4), (5, .int l5)] [] M (fun v M' => v = some (.int r.1) ∧ r.2 = M' ∧ Fx r.2) := by
    unfold f_Text_wordAmong_52 at h
    refine K_iload rfl 4 rfl ?_
    refine K_if_eq rfl (fun c4 => ?_) (fun c4 => ?_)
    · rw [if_pos c4] at h
      refine K_pick [0, 1, 2, 5] ?_
      exact L_Text_wordAmong_67 hx1  hk23 _ _ _ hM  h
    · rw [if_neg c4] at h
      refine K_iload_n rfl 3 rfl ?_
      refine K_aload_n rfl 0 rfl ?_
      refine K_gI rfl sh_1 hM rfl rfl 3 rfl ?_
      refine K_ic_ne rfl (fun c5 => ?_) (fun c5 => ?_)
      · rw [if_neg c5] at h
        refine K_pick [0, 1, 2, 5] ?_
        exact L_Text_wordAmong_67 hx1  hk23 _ _ _ hM  h
      · rw [if_pos c5] at h
        refine K_iload_n rfl 2 rfl ?_
        obtain rfl := Option.some.inj h
        exact K_iret rfl (Or.inl rfl) ⟨rfl, rfl, hM⟩
set_option maxRecDepth 20000 in
theorem L_Text_wordAmong_127 {X : mX} {x1 : Nat} {k23 : Int32 → Int32 → Int32 → Int32 → mM → Option (Int32 × mM)} {r : Int32 × mM} (hx1 : x1 < 8) (hk23 : ∀ (l2 : Int32) (l3 : Int32) (l4 : Int32) (l5 : Int32) (M : mM), Fx M → k23 l2 l3 l4 l5 M = some r → KK X 4 24 23 [(0, .ref 1), (1, .ref (mstr + x1)), (2, .int l2), (3, .int l3), (4, .int l4), (5, .int l5)] [] M (fun v M' => v = some (.int r.1) ∧ r.2 = M' ∧ Fx r.2)) (l2 : Int32) (l3 : Int32) (l5 : Int32) (s0 : Int32) (M : mM) (hM : Fx M)  (h : f_Text_wordAmong_127 x1 k23 l2 l3 l5 s0 M = some r) : KK X 4 24 127 [(0, .ref 1), (1, .ref (mstr + x1)), (2, .int l2), (3, .int l3), (5, .int l5)] [.int s0] M (fun v M' => v = some (.int r.1) ∧ r.2 = M' ∧ Fx r.2) := by
    unfold f_Text_wordAmong_127 at h
    refine K_istore rfl ?_
    refine K_iinc (y := (l3 + 1)) rfl 4 rfl rfl ?_
    refine K_pick [2, 3, 4, 0, 1, 5] ?_
    exact L_Text_wordAmong_132 hx1  hk23 _ _ _ _ _ hM  h
set_option maxRecDepth 20000 in
theorem L_Text_wordAmong_126 {X : mX} {x1 : Nat} {k23 : Int32 → Int32 → Int32 → Int32 → mM → Option (Int32 × mM)} {r : Int32 × mM} (hx1 : x1 < 8) (hk23 : ∀ (l2 : Int32) (l3 : Int32) (l4 : Int32) (l5 : Int32) (M : mM), Fx M → k23 l2 l3 l4 l5 M = some r → KK X 4 24 23 [(0, .ref 1), (1, .ref (mstr + x1)), (2, .int l2), (3, .int l3), (4, .int l4), (5, .int l5)] [] M (fun v M' => v = some (.int r.1) ∧ r.2 = M' ∧ Fx r.2)) (l2 : Int32) (l3 : Int32) (l5 : Int32) (M : mM) (hM : Fx M)  (h : f_Text_wordAmong_126 x1 k23 l2 l3 l5 M = some r) : KK X 4 24 126 [(0, .ref 1), (1, .ref (mstr + x1)), (2, .int l2), (3, .int l3), (5, .int l5)] [] M (fun v M' => v = some (.int r.1) ∧ r.2 = M' ∧ Fx r.2) := by
    unfold f_Text_wordAmong_126 at h
    refine K_iconst (v := 0) rfl (by decide) ?_
    refine K_pick [0, 1, 2, 3, 4] ?_
    exact L_Text_wordAmong_127 hx1  hk23 _ _ _ _ _ hM  h
set_option maxRecDepth 20000 in
theorem L_Text_wordAmong_23 {X : mX} {x1 : Nat} {r : Int32 × mM} (hx1 : x1 < 8) : ∀ (n : Nat) (l2 : Int32) (l3 : Int32) (l4 : Int32) (l5 : Int32) (M : mM), Fx M → f_Text_wordAmong_23 x1  n l2 l3 l4 l5 M = some r → KK X 4 24 23 [(0, .ref 1), (1, .ref (mstr + x1)), (2, .int l2), (3, .int l3), (4, .int l4), (5, .int l5)] [] M (fun v M' => v = some (.int r.1) ∧ r.2 = M' ∧ Fx r.2)
  | 0, _, _, _, _, _ => fun _ h => by cases h
  | n + 1, l2, l3, l4, l5, M => fun hM h => by
    unfold f_Text_wordAmong_23 at h
    refine K_iload rfl 5 rfl ?_
    refine K_aload_n rfl 1 rfl ?_
    refine K_callT [] [.int l5] rfl rfl (by decide) (Nat.le_of_ble_eq_true rfl) hx1 (EV_le (Nat.le_of_ble_eq_true rfl) (FS_lenf hx1 M)) (fun v' M' hq => ?_)
    obtain ⟨rfl, rfl⟩ := hq
    refine K_ic_gt rfl (fun c2 => ?_) (fun c2 => ?_)
    · rw [if_pos c2] at h
      refine K_iconst (v := (-1)) rfl (by decide) ?_
      obtain rfl := Option.some.inj h
      exact K_iret rfl (Or.inl rfl) ⟨rfl, rfl, hM⟩
    · rw [if_neg c2] at h
      refine K_iload rfl 5 rfl ?_
      refine K_aload_n rfl 1 rfl ?_
      refine K_callT [] [.int l5] rfl rfl (by decide) (Nat.le_of_ble_eq_true rfl) hx1 (EV_le (Nat.le_of_ble_eq_true rfl) (FS_lenf hx1 M)) (fun v' M' hq => ?_)
      obtain ⟨rfl, rfl⟩ := hq
      refine K_ic_eq rfl (fun c3 => ?_) (fun c3 => ?_)
      · rw [if_pos c3] at h
        refine K_pick [0, 1, 2, 3, 4, 5] ?_
        exact L_Text_wordAmong_52 hx1  (L_Text_wordAmong_23 hx1   n) _ _ _ _ _ hM  h
      · rw [if_neg c3] at h
        refine K_aload_n rfl 1 rfl ?_
        refine K_iload rfl 5 rfl ?_
        obtain ⟨v6, ev6, h⟩ := Option.bind_eq_some_iff.mp h
        refine K_callT [.int l5] [] rfl rfl (by decide) (Nat.le_of_ble_eq_true rfl) hx1 (EV_le (Nat.le_of_ble_eq_true rfl) (FS_chaf hx1 M ev6)) (fun v' M' hq => ?_)
        obtain ⟨rfl, rfl⟩ := hq
        refine K_bipush (v := 32) rfl (by decide) ?_
        refine K_ic_ne rfl (fun c7 => ?_) (fun c7 => ?_)
        · rw [if_neg c7] at h
          refine K_iload rfl 4 rfl ?_
          refine K_if_eq rfl (fun c8 => ?_) (fun c8 => ?_)
          · rw [if_pos c8] at h
            refine K_pick [0, 1, 2, 3, 5] ?_
            exact L_Text_wordAmong_126 hx1  (L_Text_wordAmong_23 hx1   n) _ _ _ _ hM  h
          · rw [if_neg c8] at h
            refine K_iload_n rfl 3 rfl ?_
            refine K_if_lt rfl (fun c9 => ?_) (fun c9 => ?_)
            · rw [if_pos c9] at h
              refine K_pick [0, 1, 2, 3, 5] ?_
              exact L_Text_wordAmong_126 hx1  (L_Text_wordAmong_23 hx1   n) _ _ _ _ hM  h
            · rw [if_neg c9] at h
              refine K_iload_n rfl 3 rfl ?_
              refine K_aload_n rfl 0 rfl ?_
              refine K_gI rfl sh_1 hM rfl rfl 3 rfl ?_
              refine K_ic_ge rfl (fun c10 => ?_) (fun c10 => ?_)
              · rw [if_pos c10] at h
                refine K_pick [0, 1, 2, 3, 5] ?_
                exact L_Text_wordAmong_126 hx1  (L_Text_wordAmong_23 hx1   n) _ _ _ _ hM  h
              · rw [if_neg c10] at h
                refine K_iload_n rfl 3 rfl ?_
                refine K_aload_n rfl 0 rfl ?_
                refine K_gR rfl sh_1 hM rfl rfl 0 rfl r_1_0 ?_
                refine K_aln (v := 400) rfl sh_2 hM (by decide) (by decide) ?_
                refine K_ic_ge rfl (fun c11 => ?_) (fun c11 => ?_)
                · rw [if_pos c11] at h
                  refine K_pick [0, 1, 2, 3, 5] ?_
                  exact L_Text_wordAmong_126 hx1  (L_Text_wordAmong_23 hx1   n) _ _ _ _ hM  h
                · rw [if_neg c11] at h
                  refine K_aload_n rfl 0 rfl ?_
                  refine K_gR rfl sh_1 hM rfl rfl 0 rfl r_1_0 ?_
                  refine K_iload_n rfl 3 rfl ?_
                  obtain ⟨v12, ev12, h⟩ := Option.bind_eq_some_iff.mp h
                  refine K_rdB rfl sh_2 (by decide) hM ev12 ?_
                  refine K_aload_n rfl 1 rfl ?_
                  refine K_iload rfl 5 rfl ?_
                  obtain ⟨v13, ev13, h⟩ := Option.bind_eq_some_iff.mp h
                  refine K_callT [.int l5] [.int v12] rfl rfl (by decide) (Nat.le_of_ble_eq_true rfl) hx1 (EV_le (Nat.le_of_ble_eq_true rfl) (FS_chaf hx1 M ev13)) (fun v' M' hq => ?_)
                  obtain ⟨rfl, rfl⟩ := hq
                  refine K_ic_ne rfl (fun c14 => ?_) (fun c14 => ?_)
                  · rw [if_neg c14] at h
                    refine K_pick [0, 1, 2, 3, 5] ?_
                    exact L_Text_wordAmong_126 hx1  (L_Text_wordAmong_23 hx1   n) _ _ _ _ hM  h
                  · rw [if_pos c14] at h
                    refine K_iconst (v := 1) rfl (by decide) ?_
                    refine K_goto rfl ?_
                    refine K_pick [0, 1, 2, 3, 5] ?_
                    exact L_Text_wordAmong_127 hx1  (L_Text_wordAmong_23 hx1   n) _ _ _ _ _ hM  h
        · rw [if_pos c7] at h
          refine K_pick [0, 1, 2, 3, 4, 5] ?_
          exact L_Text_wordAmong_52 hx1  (L_Text_wordAmong_23 hx1   n) _ _ _ _ _ hM  h
set_option maxRecDepth 20000 in
theorem F_Text_wordAmong {X : mX} {x1 : Nat} {M : mM} {r : Int32 × mM} (hM : Fx M) (hx1 : x1 < 8) (h : f_Text_wordAmong x1 M = some r) : EV X (4 + 1) 24 [.ref 1, .ref (mstr + x1)] M (fun v M' => v = some (.int r.1) ∧ r.2 = M' ∧ Fx r.2) := by
    refine EV_of (lc := [(0, .ref 1), (1, .ref (mstr + x1))]) (Nat.le_of_ble_eq_true rfl) (by exact Nat.le_of_ble_eq_true rfl) (by exact List.forall_mem_cons.mpr ⟨rfl, List.forall_mem_cons.mpr ⟨rfl, fun _ h => absurd h List.not_mem_nil⟩⟩) ?_
    unfold f_Text_wordAmong at h
    refine K_aload_n rfl 0 rfl ?_
    refine K_gI rfl sh_1 hM rfl rfl 4 rfl ?_
    refine K_iconst (v := 2) rfl (by decide) ?_
    refine K_ic_eq rfl (fun c1 => ?_) (fun c1 => ?_)
    · rw [if_pos c1] at h
      refine K_iconst (v := 0) rfl (by decide) ?_
      refine K_istore_n rfl ?_
      refine K_aload_n rfl 1 rfl ?_
      refine K_gI rfl sh_1 hM rfl rfl 2 rfl ?_
      refine K_istore_n rfl ?_
      refine K_iconst (v := 1) rfl (by decide) ?_
      refine K_istore rfl ?_
      refine K_iconst (v := 0) rfl (by decide) ?_
      refine K_istore rfl ?_
      refine K_pick [4, 5, 3, 2, 1, 0] ?_
      exact L_Text_wordAmong_23 hx1   FUEL _ _ _ _ _ hM  h
    · rw [if_neg c1] at h
      refine K_iconst (v := (-1)) rfl (by decide) ?_
      obtain rfl := Option.some.inj h
      exact K_iret rfl (Or.inl rfl) ⟨rfl, rfl, hM⟩
set_option maxRecDepth 20000 in
theorem L_Text_refuse_22 {X : mX} {x1 : Int32} {r : mM}   (M : mM) (hM : Fx M)  (h : f_Text_refuse_22 x1   M = some r) : KK X 0 25 22 [(0, .ref 1)] [] M (fun v M' => v = none ∧ r = M' ∧ Fx r) := by
    unfold f_Text_refuse_22 at h
    refine K_aload_n rfl 0 rfl ?_
    refine K_iconst (v := 4) rfl (by decide) ?_
    obtain ⟨M2, eM2, h⟩ := Option.bind_eq_some_iff.mp h
    refine K_pI rfl sh_1 hM rfl rfl 4 rfl eM2 (fun hM2 => ?_)
    obtain rfl := Option.some.inj h
    exact K_vret rfl rfl ⟨rfl, rfl, hM2⟩
set_option maxRecDepth 20000 in
theorem F_Text_refuse {X : mX} {x1 : Int32} {M : mM} {r : mM} (hM : Fx M)  (h : f_Text_refuse x1 M = some r) : EV X (0 + 1) 25 [.ref 1, .int x1] M (fun v M' => v = none ∧ r = M' ∧ Fx r) := by
    refine EV_of (lc := [(0, .ref 1), (1, .int x1)]) (Nat.le_of_ble_eq_true rfl) (by exact Nat.le_of_ble_eq_true rfl) (by exact List.forall_mem_cons.mpr ⟨rfl, List.forall_mem_cons.mpr ⟨rfl, fun _ h => absurd h List.not_mem_nil⟩⟩) ?_
    unfold f_Text_refuse at h
    refine K_aload_n rfl 0 rfl ?_
    refine K_gI rfl sh_1 hM rfl rfl 6 rfl ?_
    refine K_if_ne rfl (fun c1 => ?_) (fun c1 => ?_)
    · rw [if_neg c1] at h
      refine K_pick [0] ?_
      exact L_Text_refuse_22     _ hM  h
    · rw [if_pos c1] at h
      refine K_aload_n rfl 0 rfl ?_
      refine K_iconst (v := 1) rfl (by decide) ?_
      refine K_bipush (v := 8) rfl (by decide) ?_
      refine K_aload_n rfl 0 rfl ?_
      refine K_gI rfl sh_1 hM rfl rfl 2 rfl ?_
      refine K_imul rfl ?_
      refine K_iadd rfl ?_
      refine K_iload_n rfl 1 rfl ?_
      refine K_iadd rfl ?_
      obtain ⟨M3, eM3, h⟩ := Option.bind_eq_some_iff.mp h
      refine K_pI rfl sh_1 hM rfl rfl 6 rfl eM3 (fun hM3 => ?_)
      refine K_pick [0] ?_
      exact L_Text_refuse_22     _ hM3  h
set_option maxRecDepth 20000 in
theorem F_YardReader_isFull {X : mX} {x1 : Int32} {M : mM} {r : Int32 × mM} (hM : Fx M)  (h : f_YardReader_isFull x1 M = some r) : EV X (0 + 1) 26 [.ref 3, .int x1] M (fun v M' => v = some (.int r.1) ∧ r.2 = M' ∧ Fx r.2) := by
    refine EV_of (lc := [(0, .ref 3), (1, .int x1)]) (Nat.le_of_ble_eq_true rfl) (by exact Nat.le_of_ble_eq_true rfl) (by exact List.forall_mem_cons.mpr ⟨rfl, List.forall_mem_cons.mpr ⟨rfl, fun _ h => absurd h List.not_mem_nil⟩⟩) ?_
    unfold f_YardReader_isFull at h
    refine K_iload_n rfl 1 rfl ?_
    by_cases c2 : x1 = 1
    · rw [if_pos c2] at h
      refine K_ts (t := 36) rfl (fun _ => by rw [c2]; rfl) ?_
      refine K_aload_n rfl 0 rfl ?_
      refine K_gR rfl sh_3 hM rfl rfl 0 rfl r_3_0 ?_
      refine K_gI rfl sh_4 hM rfl rfl 2 rfl ?_
      refine K_bipush (v := 10) rfl (by decide) ?_
      refine K_ic_lt rfl (fun c1 => ?_) (fun c1 => ?_)
      · rw [if_pos c1] at h
        refine K_iconst (v := 0) rfl (by decide) ?_
        obtain rfl := Option.some.inj h
        exact K_iret rfl (Or.inr ⟨rfl, by decide⟩) ⟨rfl, rfl, hM⟩
      · rw [if_neg c1] at h
        refine K_iconst (v := 1) rfl (by decide) ?_
        refine K_goto rfl ?_
        obtain rfl := Option.some.inj h
        exact K_iret rfl (Or.inr ⟨rfl, by decide⟩) ⟨rfl, rfl, hM⟩
    · rw [if_neg c2] at h
      by_cases c3 : x1 = 2
      · rw [if_pos c3] at h
        refine K_ts (t := 90) rfl (fun _ => by rw [c3]; rfl) ?_
        refine K_iconst (v := 0) rfl (by decide) ?_
        obtain rfl := Option.some.inj h
        exact K_iret rfl (Or.inr ⟨rfl, by decide⟩) ⟨rfl, rfl, hM⟩
      · rw [if_neg c3] at h
        by_cases c5 : x1 = 3
        · rw [if_pos c5] at h
          refine K_ts (t := 54) rfl (fun _ => by rw [c5]; rfl) ?_
          refine K_aload_n rfl 0 rfl ?_
          refine K_gR rfl sh_3 hM rfl rfl 0 rfl r_3_0 ?_
          refine K_gI rfl sh_4 hM rfl rfl 8 rfl ?_
          refine K_bipush (v := 6) rfl (by decide) ?_
          refine K_ic_lt rfl (fun c4 => ?_) (fun c4 => ?_)
          · rw [if_pos c4] at h
            refine K_iconst (v := 0) rfl (by decide) ?_
            obtain rfl := Option.some.inj h
            exact K_iret rfl (Or.inr ⟨rfl, by decide⟩) ⟨rfl, rfl, hM⟩
          · rw [if_neg c4] at h
            refine K_iconst (v := 1) rfl (by decide) ?_
            refine K_goto rfl ?_
            obtain rfl := Option.some.inj h
            exact K_iret rfl (Or.inr ⟨rfl, by decide⟩) ⟨rfl, rfl, hM⟩
        · rw [if_neg c5] at h
          by_cases c6 : x1 = 4
          · rw [if_pos c6] at h
            refine K_ts (t := 90) rfl (fun _ => by rw [c6]; rfl) ?_
            refine K_iconst (v := 0) rfl (by decide) ?_
            obtain rfl := Option.some.inj h
            exact K_iret rfl (Or.inr ⟨rfl, by decide⟩) ⟨rfl, rfl, hM⟩
          · rw [if_neg c6] at h
            by_cases c8 : x1 = 5
            · rw [if_pos c8] at h
              refine K_ts (t := 72) rfl (fun _ => by rw [c8]; rfl) ?_
              refine K_aload_n rfl 0 rfl ?_
              refine K_gR rfl sh_3 hM rfl rfl 0 rfl r_3_0 ?_
              refine K_gI rfl sh_4 hM rfl rfl 10 rfl ?_
              refine K_bipush (v := 6) rfl (by decide) ?_
              refine K_ic_lt rfl (fun c7 => ?_) (fun c7 => ?_)
              · rw [if_pos c7] at h
                refine K_iconst (v := 0) rfl (by decide) ?_
                obtain rfl := Option.some.inj h
                exact K_iret rfl (Or.inr ⟨rfl, by decide⟩) ⟨rfl, rfl, hM⟩
              · rw [if_neg c7] at h
                refine K_iconst (v := 1) rfl (by decide) ?_
                refine K_goto rfl ?_
                obtain rfl := Option.some.inj h
                exact K_iret rfl (Or.inr ⟨rfl, by decide⟩) ⟨rfl, rfl, hM⟩
            · rw [if_neg c8] at h
              refine K_tsd rfl ?_ ?_
              · have nc2 := lv_neT c2 (a := 1) rfl; have nc3 := lv_neT c3 (a := 2) rfl; have nc5 := lv_neT c5 (a := 3) rfl; have nc6 := lv_neT c6 (a := 4) rfl; have nc8 := lv_neT c8 (a := 5) rfl; omega
              · refine K_iconst (v := 0) rfl (by decide) ?_
                obtain rfl := Option.some.inj h
                exact K_iret rfl (Or.inr ⟨rfl, by decide⟩) ⟨rfl, rfl, hM⟩
set_option maxRecDepth 20000 in
theorem L_Text_numberFrom_39 {X : mX} {x1 : Int32} {x2 : Int32} {r : Int32 × mM}   (M : mM) (hM : Fx M)  (h : f_Text_numberFrom_39 x1 x2   M = some r) : KK X 1 28 39 [(0, .ref 1)] [] M (fun v M' => v = some (.int r.1) ∧ r.2 = M' ∧ Fx r.2) := by
    unfold f_Text_numberFrom_39 at h
    refine K_aload_n rfl 0 rfl ?_
    refine K_iconst (v := 1) rfl (by decide) ?_
    obtain ⟨M3, eM3, h⟩ := Option.bind_eq_some_iff.mp h
    refine K_cV [.int 1] [] rfl rfl (Nat.le_of_ble_eq_true rfl) (Nat.le_of_ble_eq_true rfl) sh_1 hM rfl (EV_le (Nat.le_of_ble_eq_true rfl) (F_Text_refuse hM  eM3)) (fun v' M' hq => ?_)
    obtain ⟨rfl, rfl, hM3⟩ := hq
    refine K_iconst (v := (-1)) rfl (by decide) ?_
    obtain rfl := Option.some.inj h
    exact K_iret rfl (Or.inl rfl) ⟨rfl, rfl, hM3⟩
set_option maxRecDepth 20000 in
theorem F_Text_numberFrom {X : mX} {x1 : Int32} {x2 : Int32} {M : mM} {r : Int32 × mM} (hM : Fx M)  (h : f_Text_numberFrom x1 x2 M = some r) : EV X (1 + 1) 28 [.ref 1, .int x1, .int x2] M (fun v M' => v = some (.int r.1) ∧ r.2 = M' ∧ Fx r.2) := by
    refine EV_of (lc := [(0, .ref 1), (1, .int x1), (2, .int x2)]) (Nat.le_of_ble_eq_true rfl) (by exact Nat.le_of_ble_eq_true rfl) (by exact List.forall_mem_cons.mpr ⟨rfl, List.forall_mem_cons.mpr ⟨rfl, List.forall_mem_cons.mpr ⟨rfl, fun _ h => absurd h List.not_mem_nil⟩⟩⟩) ?_
    unfold f_Text_numberFrom at h
    refine K_aload_n rfl 0 rfl ?_
    refine K_gI rfl sh_1 hM rfl rfl 4 rfl ?_
    refine K_iconst (v := 1) rfl (by decide) ?_
    refine K_ic_eq rfl (fun c1 => ?_) (fun c1 => ?_)
    · rw [if_pos c1] at h
      refine K_aload_n rfl 0 rfl ?_
      refine K_gI rfl sh_1 hM rfl rfl 5 rfl ?_
      refine K_iconst (v := (-1)) rfl (by decide) ?_
      refine K_ic_eq rfl (fun c2 => ?_) (fun c2 => ?_)
      · rw [if_pos c2] at h
        refine K_pick [0] ?_
        exact L_Text_numberFrom_39     _ hM  h
      · rw [if_neg c2] at h
        refine K_aload_n rfl 0 rfl ?_
        refine K_gI rfl sh_1 hM rfl rfl 5 rfl ?_
        refine K_iload_n rfl 1 rfl ?_
        refine K_ic_lt rfl (fun c4 => ?_) (fun c4 => ?_)
        · rw [if_pos c4] at h
          refine K_pick [0] ?_
          exact L_Text_numberFrom_39     _ hM  h
        · rw [if_neg c4] at h
          refine K_aload_n rfl 0 rfl ?_
          refine K_gI rfl sh_1 hM rfl rfl 5 rfl ?_
          refine K_iload_n rfl 2 rfl ?_
          refine K_ic_le rfl (fun c5 => ?_) (fun c5 => ?_)
          · rw [if_pos c5] at h
            refine K_aload_n rfl 0 rfl ?_
            refine K_gI rfl sh_1 hM rfl rfl 5 rfl ?_
            obtain rfl := Option.some.inj h
            exact K_iret rfl (Or.inl rfl) ⟨rfl, rfl, hM⟩
          · rw [if_neg c5] at h
            refine K_pick [0] ?_
            exact L_Text_numberFrom_39     _ hM  h
    · rw [if_neg c1] at h
      refine K_aload_n rfl 0 rfl ?_
      refine K_iconst (v := 0) rfl (by decide) ?_
      obtain ⟨M6, eM6, h⟩ := Option.bind_eq_some_iff.mp h
      refine K_cV [.int 0] [] rfl rfl (Nat.le_of_ble_eq_true rfl) (Nat.le_of_ble_eq_true rfl) sh_1 hM rfl (EV_le (Nat.le_of_ble_eq_true rfl) (F_Text_refuse hM  eM6)) (fun v' M' hq => ?_)
      obtain ⟨rfl, rfl, hM6⟩ := hq
      refine K_iconst (v := (-1)) rfl (by decide) ?_
      obtain rfl := Option.some.inj h
      exact K_iret rfl (Or.inl rfl) ⟨rfl, rfl, hM6⟩
set_option maxRecDepth 20000 in
theorem F_YardReader_readSize {X : mX}  {M : mM} {r : mM} (hM : Fx M)  (h : f_YardReader_readSize  M = some r) : EV X (2 + 1) 27 [.ref 3] M (fun v M' => v = none ∧ r = M' ∧ Fx r) := by
    refine EV_of (lc := [(0, .ref 3)]) (Nat.le_of_ble_eq_true rfl) (by exact Nat.le_of_ble_eq_true rfl) (by exact List.forall_mem_cons.mpr ⟨rfl, fun _ h => absurd h List.not_mem_nil⟩) ?_
    unfold f_YardReader_readSize at h
    refine K_aload_n rfl 0 rfl ?_
    refine K_gR rfl sh_3 hM rfl rfl 1 rfl r_3_1 ?_
    refine K_iconst (v := 1) rfl (by decide) ?_
    refine K_iconst (v := 4) rfl (by decide) ?_
    obtain ⟨r1, er1, h⟩ := Option.bind_eq_some_iff.mp h
    refine K_cV [.int 1, .int 4] [] rfl rfl (Nat.le_of_ble_eq_true rfl) (Nat.le_of_ble_eq_true rfl) sh_1 hM rfl (EV_le (Nat.le_of_ble_eq_true rfl) (F_Text_numberFrom hM  er1)) (fun v' M' hq => ?_)
    obtain ⟨rfl, rfl, hr1⟩ := hq
    refine K_istore_n rfl ?_
    refine K_aload_n rfl 1 rfl ?_
    refine K_gR rfl sh_3 hr1 rfl rfl 1 rfl r_3_1 ?_
    obtain ⟨M2, eM2, h⟩ := Option.bind_eq_some_iff.mp h
    refine K_cV [] [] rfl rfl (Nat.le_of_ble_eq_true rfl) (Nat.le_of_ble_eq_true rfl) sh_1 hr1 rfl (EV_le (Nat.le_of_ble_eq_true rfl) (F_Text_advance hr1  eM2)) (fun v' M' hq => ?_)
    obtain ⟨rfl, rfl, hM2⟩ := hq
    refine K_aload_n rfl 1 rfl ?_
    refine K_gR rfl sh_3 hM2 rfl rfl 1 rfl r_3_1 ?_
    refine K_iconst (v := 2) rfl (by decide) ?_
    refine K_bipush (v := 20) rfl (by decide) ?_
    obtain ⟨r3, er3, h⟩ := Option.bind_eq_some_iff.mp h
    refine K_cV [.int 2, .int 20] [] rfl rfl (Nat.le_of_ble_eq_true rfl) (Nat.le_of_ble_eq_true rfl) sh_1 hM2 rfl (EV_le (Nat.le_of_ble_eq_true rfl) (F_Text_numberFrom hM2  er3)) (fun v' M' hq => ?_)
    obtain ⟨rfl, rfl, hr3⟩ := hq
    refine K_istore_n rfl ?_
    refine K_aload_n rfl 2 rfl ?_
    refine K_gR rfl sh_3 hr3 rfl rfl 1 rfl r_3_1 ?_
    obtain ⟨M4, eM4, h⟩ := Option.bind_eq_some_iff.mp h
    refine K_cV [] [] rfl rfl (Nat.le_of_ble_eq_true rfl) (Nat.le_of_ble_eq_true rfl) sh_1 hr3 rfl (EV_le (Nat.le_of_ble_eq_true rfl) (F_Text_advance hr3  eM4)) (fun v' M' hq => ?_)
    obtain ⟨rfl, rfl, hM4⟩ := hq
    refine K_aload_n rfl 2 rfl ?_
    refine K_gR rfl sh_3 hM4 rfl rfl 1 rfl r_3_1 ?_
    refine K_gI rfl sh_1 hM4 rfl rfl 6 rfl ?_
    refine K_if_ne rfl (fun c5 => ?_) (fun c5 => ?_)
    · rw [if_neg c5] at h
      obtain rfl := Option.some.inj h
      exact K_vret rfl rfl ⟨rfl, rfl, hM4⟩
    · rw [if_pos c5] at h
      refine K_aload_n rfl 2 rfl ?_
      refine K_gR rfl sh_3 hM4 rfl rfl 0 rfl r_3_0 ?_
      refine K_iload_n rfl 1 rfl ?_
      obtain ⟨M6, eM6, h⟩ := Option.bind_eq_some_iff.mp h
      refine K_pI rfl sh_4 hM4 rfl rfl 0 rfl eM6 (fun hM6 => ?_)
      refine K_aload_n rfl 2 rfl ?_
      refine K_gR rfl sh_3 hM6 rfl rfl 0 rfl r_3_0 ?_
      refine K_iload_n rfl 0 rfl ?_
      obtain ⟨M7, eM7, h⟩ := Option.bind_eq_some_iff.mp h
      refine K_pI rfl sh_4 hM6 rfl rfl 1 rfl eM7 (fun hM7 => ?_)
      obtain rfl := Option.some.inj h
      exact K_vret rfl rfl ⟨rfl, rfl, hM7⟩
set_option maxRecDepth 20000 in
theorem L_Yard_isTaken_38 {X : mX} {S : Nat} {x1 : Int32} {x2 : Int32} {k2 : Int32 → mM → Option (Int32 × mM)} {r : Int32 × mM} (hS : is_yd S) (hk2 : ∀ (l3 : Int32) (M : mM), Fx M → k2 l3 M = some r → KK X 0 30 2 [(0, .ref S), (1, .int x1), (2, .int x2), (3, .int l3)] [] M (fun v M' => v = some (.int r.1) ∧ r.2 = M' ∧ Fx r.2)) (l3 : Int32) (M : mM) (hM : Fx M)  (h : f_Yard_isTaken_38 S x1 x2 k2 l3 M = some r) : KK X 0 30 38 [(0, .ref S), (1, .int x1), (2, .int x2), (3, .int l3)] [] M (fun v M' => v = some (.int r.1) ∧ r.2 = M' ∧ Fx r.2) := by
    unfold f_Yard_isTaken_38 at h
    refine K_iinc (y := (l3 + 1)) rfl 3 rfl rfl ?_
    refine K_goto rfl ?_
    refine K_pick [1, 2, 3, 0] ?_
    exact hk2 _ _ hM  h
set_option maxRecDepth 20000 in
theorem L_Yard_isTaken_2 {X : mX} {S : Nat} {x1 : Int32} {x2 : Int32} {r : Int32 × mM} (hS : is_yd S) : ∀ (n : Nat) (l3 : Int32) (M : mM), Fx M → f_Yard_isTaken_2 S x1 x2  n l3 M = some r → KK X 0 30 2 [(0, .ref S), (1, .int x1), (2, .int x2), (3, .int l3)] [] M (fun v M' => v = some (.int r.1) ∧ r.2 = M' ∧ Fx r.2)
  | 0, _, _ => fun _ h => by cases h
  | n + 1, l3, M => fun hM h => by
    unfold f_Yard_isTaken_2 at h
    refine K_iload_n rfl 3 rfl ?_
    refine K_aload_n rfl 0 rfl ?_
    refine K_gI rfl (yd_s0 hS) hM rfl rfl 2 rfl ?_
    refine K_ic_ge rfl (fun c1 => ?_) (fun c1 => ?_)
    · rw [if_pos c1] at h
      refine K_iconst (v := 0) rfl (by decide) ?_
      obtain rfl := Option.some.inj h
      exact K_iret rfl (Or.inr ⟨rfl, by decide⟩) ⟨rfl, rfl, hM⟩
    · rw [if_neg c1] at h
      refine K_iload_n rfl 3 rfl ?_
      refine K_bipush (v := 11) rfl (by decide) ?_
      refine K_ic_ge rfl (fun c2 => ?_) (fun c2 => ?_)
      · rw [if_pos c2] at h
        refine K_iconst (v := 0) rfl (by decide) ?_
        obtain rfl := Option.some.inj h
        exact K_iret rfl (Or.inr ⟨rfl, by decide⟩) ⟨rfl, rfl, hM⟩
      · rw [if_neg c2] at h
        refine K_aload_n rfl 0 rfl ?_
        refine K_gR rfl (yd_s0 hS) hM rfl rfl 3 rfl (yd_r3 hS) ?_
        refine K_iload_n rfl 3 rfl ?_
        obtain ⟨v3, ev3, h⟩ := Option.bind_eq_some_iff.mp h
        refine K_rd rfl (yd_s1 hS) hM ev3 ?_
        refine K_iload_n rfl 1 rfl ?_
        refine K_ic_ne rfl (fun c4 => ?_) (fun c4 => ?_)
        · rw [if_neg c4] at h
          refine K_pick [0, 1, 2, 3] ?_
          exact L_Yard_isTaken_38 hS  (L_Yard_isTaken_2 hS   n) _ _ hM  h
        · rw [if_pos c4] at h
          refine K_aload_n rfl 0 rfl ?_
          refine K_gR rfl (yd_s0 hS) hM rfl rfl 4 rfl (yd_r4 hS) ?_
          refine K_iload_n rfl 3 rfl ?_
          obtain ⟨v5, ev5, h⟩ := Option.bind_eq_some_iff.mp h
          refine K_rd rfl (yd_s2 hS) hM ev5 ?_
          refine K_iload_n rfl 2 rfl ?_
          refine K_ic_ne rfl (fun c6 => ?_) (fun c6 => ?_)
          · rw [if_neg c6] at h
            refine K_pick [0, 1, 2, 3] ?_
            exact L_Yard_isTaken_38 hS  (L_Yard_isTaken_2 hS   n) _ _ hM  h
          · rw [if_pos c6] at h
            refine K_iconst (v := 1) rfl (by decide) ?_
            obtain rfl := Option.some.inj h
            exact K_iret rfl (Or.inr ⟨rfl, by decide⟩) ⟨rfl, rfl, hM⟩
set_option maxRecDepth 20000 in
theorem F_Yard_isTaken {X : mX} {S : Nat} {x1 : Int32} {x2 : Int32} {M : mM} {r : Int32 × mM} (hM : Fx M) (hS : is_yd S) (h : f_Yard_isTaken S x1 x2 M = some r) : EV X (0 + 1) 30 [.ref S, .int x1, .int x2] M (fun v M' => v = some (.int r.1) ∧ r.2 = M' ∧ Fx r.2) := by
    refine EV_of (lc := [(0, .ref S), (1, .int x1), (2, .int x2)]) (Nat.le_of_ble_eq_true rfl) (by exact Nat.le_of_ble_eq_true rfl) (by exact List.forall_mem_cons.mpr ⟨rfl, List.forall_mem_cons.mpr ⟨rfl, List.forall_mem_cons.mpr ⟨rfl, fun _ h => absurd h List.not_mem_nil⟩⟩⟩) ?_
    unfold f_Yard_isTaken at h
    refine K_iconst (v := 0) rfl (by decide) ?_
    refine K_istore_n rfl ?_
    refine K_pick [1, 2, 3, 0] ?_
    exact L_Yard_isTaken_2 hS   FUEL _ _ hM  h
set_option maxRecDepth 20000 in
theorem F_Yard_addGrave {X : mX} {S : Nat} {x1 : Int32} {x2 : Int32} {x3 : Int32} {M : mM} {r : mM} (hM : Fx M) (hS : is_yd S) (h : f_Yard_addGrave S x1 x2 x3 M = some r) : EV X (0 + 1) 31 [.ref S, .int x1, .int x2, .int x3] M (fun v M' => v = none ∧ r = M' ∧ Fx r) := by
    refine EV_of (lc := [(0, .ref S), (1, .int x1), (2, .int x2), (3, .int x3)]) (Nat.le_of_ble_eq_true rfl) (by exact Nat.le_of_ble_eq_true rfl) (by exact List.forall_mem_cons.mpr ⟨rfl, List.forall_mem_cons.mpr ⟨rfl, List.forall_mem_cons.mpr ⟨rfl, List.forall_mem_cons.mpr ⟨rfl, fun _ h => absurd h List.not_mem_nil⟩⟩⟩⟩) ?_
    unfold f_Yard_addGrave at h
    refine K_aload_n rfl 0 rfl ?_
    refine K_gI rfl (yd_s0 hS) hM rfl rfl 2 rfl ?_
    refine K_if_lt rfl (fun c1 => ?_) (fun c1 => ?_)
    · rw [if_pos c1] at h
      obtain rfl := Option.some.inj h
      exact K_vret rfl rfl ⟨rfl, rfl, hM⟩
    · rw [if_neg c1] at h
      refine K_aload_n rfl 0 rfl ?_
      refine K_gI rfl (yd_s0 hS) hM rfl rfl 2 rfl ?_
      refine K_bipush (v := 10) rfl (by decide) ?_
      refine K_ic_ge rfl (fun c2 => ?_) (fun c2 => ?_)
      · rw [if_pos c2] at h
        obtain rfl := Option.some.inj h
        exact K_vret rfl rfl ⟨rfl, rfl, hM⟩
      · rw [if_neg c2] at h
        refine K_aload_n rfl 0 rfl ?_
        refine K_gR rfl (yd_s0 hS) hM rfl rfl 3 rfl (yd_r3 hS) ?_
        refine K_aload_n rfl 0 rfl ?_
        refine K_gI rfl (yd_s0 hS) hM rfl rfl 2 rfl ?_
        refine K_iload_n rfl 1 rfl ?_
        obtain ⟨M3, eM3, h⟩ := Option.bind_eq_some_iff.mp h
        refine K_wr rfl (yd_s1 hS) hM eM3 (fun hM3 => ?_)
        refine K_aload_n rfl 0 rfl ?_
        refine K_gR rfl (yd_s0 hS) hM3 rfl rfl 4 rfl (yd_r4 hS) ?_
        refine K_aload_n rfl 0 rfl ?_
        refine K_gI rfl (yd_s0 hS) hM3 rfl rfl 2 rfl ?_
        refine K_iload_n rfl 2 rfl ?_
        obtain ⟨M4, eM4, h⟩ := Option.bind_eq_some_iff.mp h
        refine K_wr rfl (yd_s2 hS) hM3 eM4 (fun hM4 => ?_)
        refine K_aload_n rfl 0 rfl ?_
        refine K_gR rfl (yd_s0 hS) hM4 rfl rfl 5 rfl (yd_r5 hS) ?_
        refine K_aload_n rfl 0 rfl ?_
        refine K_gI rfl (yd_s0 hS) hM4 rfl rfl 2 rfl ?_
        refine K_iload_n rfl 3 rfl ?_
        obtain ⟨M5, eM5, h⟩ := Option.bind_eq_some_iff.mp h
        refine K_wr rfl (yd_s3 hS) hM4 eM5 (fun hM5 => ?_)
        refine K_aload_n rfl 0 rfl ?_
        refine K_dup rfl rfl ?_
        refine K_gI rfl (yd_s0 hS) hM5 rfl rfl 2 rfl ?_
        refine K_iconst (v := 1) rfl (by decide) ?_
        refine K_iadd rfl ?_
        obtain ⟨M6, eM6, h⟩ := Option.bind_eq_some_iff.mp h
        refine K_pI rfl (yd_s0 hS) hM5 rfl rfl 2 rfl eM6 (fun hM6 => ?_)
        obtain rfl := Option.some.inj h
        exact K_vret rfl rfl ⟨rfl, rfl, hM6⟩
set_option maxRecDepth 20000 in
theorem L_YardReader_readGrave_103 {X : mX}  {r : mM}  (l1 : Int32) (l2 : Int32) (l3 : Int32) (M : mM) (hM : Fx M)  (h : f_YardReader_readGrave_103   l1 l2 l3 M = some r) : KK X 5 29 103 [(0, .ref 3), (1, .int l1), (2, .int l2), (3, .int l3)] [] M (fun v M' => v = none ∧ r = M' ∧ Fx r) := by
    unfold f_YardReader_readGrave_103 at h
    refine K_aload_n rfl 0 rfl ?_
    refine K_gR rfl sh_3 hM rfl rfl 1 rfl r_3_1 ?_
    obtain ⟨M8, eM8, h⟩ := Option.bind_eq_some_iff.mp h
    refine K_cV [] [] rfl rfl (Nat.le_of_ble_eq_true rfl) (Nat.le_of_ble_eq_true rfl) sh_1 hM rfl (EV_le (Nat.le_of_ble_eq_true rfl) (F_Text_advance hM  eM8)) (fun v' M' hq => ?_)
    obtain ⟨rfl, rfl, hM8⟩ := hq
    refine K_aload_n rfl 0 rfl ?_
    refine K_gR rfl sh_3 hM8 rfl rfl 1 rfl r_3_1 ?_
    refine K_gI rfl sh_1 hM8 rfl rfl 6 rfl ?_
    refine K_if_ne rfl (fun c9 => ?_) (fun c9 => ?_)
    · rw [if_neg c9] at h
      obtain rfl := Option.some.inj h
      exact K_vret rfl rfl ⟨rfl, rfl, hM8⟩
    · rw [if_pos c9] at h
      refine K_aload_n rfl 0 rfl ?_
      refine K_gR rfl sh_3 hM8 rfl rfl 0 rfl r_3_0 ?_
      refine K_iload_n rfl 1 rfl ?_
      refine K_iload_n rfl 2 rfl ?_
      refine K_iload_n rfl 3 rfl ?_
      obtain ⟨M10, eM10, h⟩ := Option.bind_eq_some_iff.mp h
      refine K_cV [.int l1, .int l2, .int l3] [] rfl rfl (Nat.le_of_ble_eq_true rfl) (Nat.le_of_ble_eq_true rfl) sh_4 hM8 rfl (EV_le (Nat.le_of_ble_eq_true rfl) (F_Yard_addGrave hM8 yd_4 eM10)) (fun v' M' hq => ?_)
      obtain ⟨rfl, rfl, hM10⟩ := hq
      obtain rfl := Option.some.inj h
      exact K_vret rfl rfl ⟨rfl, rfl, hM10⟩
set_option maxRecDepth 20000 in
theorem L_YardReader_readGrave_73 {X : mX}  {r : mM}  (l1 : Int32) (l2 : Int32) (M : mM) (hM : Fx M)  (h : f_YardReader_readGrave_73   l1 l2 M = some r) : KK X 5 29 73 [(0, .ref 3), (1, .int l1), (2, .int l2)] [] M (fun v M' => v = none ∧ r = M' ∧ Fx r) := by
    unfold f_YardReader_readGrave_73 at h
    refine K_aload_n rfl 0 rfl ?_
    refine K_gR rfl sh_3 hM rfl rfl 1 rfl r_3_1 ?_
    obtain ⟨M5, eM5, h⟩ := Option.bind_eq_some_iff.mp h
    refine K_cV [] [] rfl rfl (Nat.le_of_ble_eq_true rfl) (Nat.le_of_ble_eq_true rfl) sh_1 hM rfl (EV_le (Nat.le_of_ble_eq_true rfl) (F_Text_advance hM  eM5)) (fun v' M' hq => ?_)
    obtain ⟨rfl, rfl, hM5⟩ := hq
    refine K_aload_n rfl 0 rfl ?_
    refine K_gR rfl sh_3 hM5 rfl rfl 1 rfl r_3_1 ?_
    refine K_ldcs rfl (by decide) ?_
    obtain ⟨r6, er6, h⟩ := Option.bind_eq_some_iff.mp h
    refine K_cV [.ref (mstr + 1)] [] rfl rfl (Nat.le_of_ble_eq_true rfl) (Nat.le_of_ble_eq_true rfl) sh_1 hM5 rfl (EV_le (Nat.le_of_ble_eq_true rfl) (F_Text_wordAmong hM5 (by decide) er6)) (fun v' M' hq => ?_)
    obtain ⟨rfl, rfl, hr6⟩ := hq
    refine K_istore_n rfl ?_
    refine K_iload_n rfl 0 rfl ?_
    refine K_iconst (v := (-1)) rfl (by decide) ?_
    refine K_ic_ne rfl (fun c7 => ?_) (fun c7 => ?_)
    · rw [if_neg c7] at h
      refine K_pick [1, 2, 3, 0] ?_
      exact L_YardReader_readGrave_103    _ _ _ _ hr6  h
    · rw [if_pos c7] at h
      refine K_aload_n rfl 1 rfl ?_
      refine K_gR rfl sh_3 hr6 rfl rfl 1 rfl r_3_1 ?_
      refine K_iconst (v := 0) rfl (by decide) ?_
      obtain ⟨M11, eM11, h⟩ := Option.bind_eq_some_iff.mp h
      refine K_cV [.int 0] [] rfl rfl (Nat.le_of_ble_eq_true rfl) (Nat.le_of_ble_eq_true rfl) sh_1 hr6 rfl (EV_le (Nat.le_of_ble_eq_true rfl) (F_Text_refuse hr6  eM11)) (fun v' M' hq => ?_)
      obtain ⟨rfl, rfl, hM11⟩ := hq
      refine K_pick [1, 2, 3, 0] ?_
      exact L_YardReader_readGrave_103    _ _ _ _ hM11  h
set_option maxRecDepth 20000 in
theorem F_YardReader_readGrave {X : mX}  {M : mM} {r : mM} (hM : Fx M)  (h : f_YardReader_readGrave  M = some r) : EV X (5 + 1) 29 [.ref 3] M (fun v M' => v = none ∧ r = M' ∧ Fx r) := by
    refine EV_of (lc := [(0, .ref 3)]) (Nat.le_of_ble_eq_true rfl) (by exact Nat.le_of_ble_eq_true rfl) (by exact List.forall_mem_cons.mpr ⟨rfl, fun _ h => absurd h List.not_mem_nil⟩) ?_
    unfold f_YardReader_readGrave at h
    refine K_aload_n rfl 0 rfl ?_
    refine K_gR rfl sh_3 hM rfl rfl 1 rfl r_3_1 ?_
    refine K_iconst (v := 0) rfl (by decide) ?_
    refine K_aload_n rfl 0 rfl ?_
    refine K_gR rfl sh_3 hM rfl rfl 0 rfl r_3_0 ?_
    refine K_gI rfl sh_4 hM rfl rfl 0 rfl ?_
    refine K_iconst (v := 1) rfl (by decide) ?_
    refine K_isub rfl ?_
    obtain ⟨r1, er1, h⟩ := Option.bind_eq_some_iff.mp h
    refine K_cV [.int 0, .int ((M.2.1 4 0) - 1)] [] rfl rfl (Nat.le_of_ble_eq_true rfl) (Nat.le_of_ble_eq_true rfl) sh_1 hM rfl (EV_le (Nat.le_of_ble_eq_true rfl) (F_Text_numberFrom hM  er1)) (fun v' M' hq => ?_)
    obtain ⟨rfl, rfl, hr1⟩ := hq
    refine K_istore_n rfl ?_
    refine K_aload_n rfl 1 rfl ?_
    refine K_gR rfl sh_3 hr1 rfl rfl 1 rfl r_3_1 ?_
    obtain ⟨M2, eM2, h⟩ := Option.bind_eq_some_iff.mp h
    refine K_cV [] [] rfl rfl (Nat.le_of_ble_eq_true rfl) (Nat.le_of_ble_eq_true rfl) sh_1 hr1 rfl (EV_le (Nat.le_of_ble_eq_true rfl) (F_Text_advance hr1  eM2)) (fun v' M' hq => ?_)
    obtain ⟨rfl, rfl, hM2⟩ := hq
    refine K_aload_n rfl 1 rfl ?_
    refine K_gR rfl sh_3 hM2 rfl rfl 1 rfl r_3_1 ?_
    refine K_iconst (v := 0) rfl (by decide) ?_
    refine K_aload_n rfl 1 rfl ?_
    refine K_gR rfl sh_3 hM2 rfl rfl 0 rfl r_3_0 ?_
    refine K_gI rfl sh_4 hM2 rfl rfl 1 rfl ?_
    refine K_iconst (v := 1) rfl (by decide) ?_
    refine K_isub rfl ?_
    obtain ⟨r3, er3, h⟩ := Option.bind_eq_some_iff.mp h
    refine K_cV [.int 0, .int ((M2.2.1 4 1) - 1)] [] rfl rfl (Nat.le_of_ble_eq_true rfl) (Nat.le_of_ble_eq_true rfl) sh_1 hM2 rfl (EV_le (Nat.le_of_ble_eq_true rfl) (F_Text_numberFrom hM2  er3)) (fun v' M' hq => ?_)
    obtain ⟨rfl, rfl, hr3⟩ := hq
    refine K_istore_n rfl ?_
    refine K_aload_n rfl 2 rfl ?_
    refine K_gR rfl sh_3 hr3 rfl rfl 1 rfl r_3_1 ?_
    refine K_gI rfl sh_1 hr3 rfl rfl 6 rfl ?_
    refine K_if_ne rfl (fun c4 => ?_) (fun c4 => ?_)
    · rw [if_neg c4] at h
      refine K_pick [2, 1, 0] ?_
      exact L_YardReader_readGrave_73    _ _ _ hr3  h
    · rw [if_pos c4] at h
      refine K_aload_n rfl 2 rfl ?_
      refine K_gR rfl sh_3 hr3 rfl rfl 0 rfl r_3_0 ?_
      refine K_iload_n rfl 1 rfl ?_
      refine K_iload_n rfl 0 rfl ?_
      obtain ⟨r12, er12, h⟩ := Option.bind_eq_some_iff.mp h
      refine K_cV [.int r1.1, .int r3.1] [] rfl rfl (Nat.le_of_ble_eq_true rfl) (Nat.le_of_ble_eq_true rfl) sh_4 hr3 rfl (EV_le (Nat.le_of_ble_eq_true rfl) (F_Yard_isTaken hr3 yd_4 er12)) (fun v' M' hq => ?_)
      obtain ⟨rfl, rfl, hr12⟩ := hq
      refine K_if_eq rfl (fun c13 => ?_) (fun c13 => ?_)
      · rw [if_pos c13] at h
        refine K_pick [2, 1, 0] ?_
        exact L_YardReader_readGrave_73    _ _ _ hr12  h
      · rw [if_neg c13] at h
        refine K_aload_n rfl 2 rfl ?_
        refine K_gR rfl sh_3 hr12 rfl rfl 1 rfl r_3_1 ?_
        refine K_iconst (v := 1) rfl (by decide) ?_
        obtain ⟨M14, eM14, h⟩ := Option.bind_eq_some_iff.mp h
        refine K_cV [.int 1] [] rfl rfl (Nat.le_of_ble_eq_true rfl) (Nat.le_of_ble_eq_true rfl) sh_1 hr12 rfl (EV_le (Nat.le_of_ble_eq_true rfl) (F_Text_refuse hr12  eM14)) (fun v' M' hq => ?_)
        obtain ⟨rfl, rfl, hM14⟩ := hq
        refine K_pick [2, 1, 0] ?_
        exact L_YardReader_readGrave_73    _ _ _ hM14  h
set_option maxRecDepth 20000 in
theorem F_Yard_pairOf {X : mX} {S : Nat} {x1 : Int32} {M : mM} {r : Int32 × mM} (hM : Fx M) (hS : is_yd S) (h : f_Yard_pairOf S x1 M = some r) : EV X (0 + 1) 34 [.ref S, .int x1] M (fun v M' => v = some (.int r.1) ∧ r.2 = M' ∧ Fx r.2) := by
    refine EV_of (lc := [(0, .ref S), (1, .int x1)]) (Nat.le_of_ble_eq_true rfl) (by exact Nat.le_of_ble_eq_true rfl) (by exact List.forall_mem_cons.mpr ⟨rfl, List.forall_mem_cons.mpr ⟨rfl, fun _ h => absurd h List.not_mem_nil⟩⟩) ?_
    unfold f_Yard_pairOf at h
    refine K_iload_n rfl 1 rfl ?_
    refine K_if_lt rfl (fun c1 => ?_) (fun c1 => ?_)
    · rw [if_pos c1] at h
      refine K_iconst (v := (-1)) rfl (by decide) ?_
      obtain rfl := Option.some.inj h
      exact K_iret rfl (Or.inl rfl) ⟨rfl, rfl, hM⟩
    · rw [if_neg c1] at h
      refine K_iload_n rfl 1 rfl ?_
      refine K_bipush (v := 11) rfl (by decide) ?_
      refine K_ic_ge rfl (fun c2 => ?_) (fun c2 => ?_)
      · rw [if_pos c2] at h
        refine K_iconst (v := (-1)) rfl (by decide) ?_
        obtain rfl := Option.some.inj h
        exact K_iret rfl (Or.inl rfl) ⟨rfl, rfl, hM⟩
      · rw [if_neg c2] at h
        refine K_aload_n rfl 0 rfl ?_
        refine K_gR rfl (yd_s0 hS) hM rfl rfl 6 rfl (yd_r6 hS) ?_
        refine K_iload_n rfl 1 rfl ?_
        obtain ⟨v3, ev3, h⟩ := Option.bind_eq_some_iff.mp h
        refine K_rd rfl (yd_s4 hS) hM ev3 ?_
        refine K_goto rfl ?_
        obtain rfl := Option.some.inj h
        exact K_iret rfl (Or.inl rfl) ⟨rfl, rfl, hM⟩
set_option maxRecDepth 20000 in
theorem L_YardReader_readUnpaired_53 {X : mX} {x1 : Int32} {r : Int32 × mM}  (l2 : Int32) (M : mM) (hM : Fx M)  (h : f_YardReader_readUnpaired_53 x1  l2 M = some r) : KK X 2 33 53 [(0, .ref 3), (2, .int l2)] [] M (fun v M' => v = some (.int r.1) ∧ r.2 = M' ∧ Fx r.2) := by
    unfold f_YardReader_readUnpaired_53 at h
    refine K_aload_n rfl 0 rfl ?_
    refine K_gR rfl sh_3 hM rfl rfl 1 rfl r_3_1 ?_
    obtain ⟨M3, eM3, h⟩ := Option.bind_eq_some_iff.mp h
    refine K_cV [] [] rfl rfl (Nat.le_of_ble_eq_true rfl) (Nat.le_of_ble_eq_true rfl) sh_1 hM rfl (EV_le (Nat.le_of_ble_eq_true rfl) (F_Text_advance hM  eM3)) (fun v' M' hq => ?_)
    obtain ⟨rfl, rfl, hM3⟩ := hq
    refine K_iload_n rfl 1 rfl ?_
    obtain rfl := Option.some.inj h
    exact K_iret rfl (Or.inl rfl) ⟨rfl, rfl, hM3⟩
set_option maxRecDepth 20000 in
theorem L_YardReader_readUnpaired_45 {X : mX} {x1 : Int32} {r : Int32 × mM}  (l2 : Int32) (M : mM) (hM : Fx M)  (h : f_YardReader_readUnpaired_45 x1  l2 M = some r) : KK X 2 33 45 [(0, .ref 3), (2, .int l2)] [] M (fun v M' => v = some (.int r.1) ∧ r.2 = M' ∧ Fx r.2) := by
    unfold f_YardReader_readUnpaired_45 at h
    refine K_aload_n rfl 0 rfl ?_
    refine K_gR rfl sh_3 hM rfl rfl 1 rfl r_3_1 ?_
    refine K_iconst (v := 1) rfl (by decide) ?_
    obtain ⟨M5, eM5, h⟩ := Option.bind_eq_some_iff.mp h
    refine K_cV [.int 1] [] rfl rfl (Nat.le_of_ble_eq_true rfl) (Nat.le_of_ble_eq_true rfl) sh_1 hM rfl (EV_le (Nat.le_of_ble_eq_true rfl) (F_Text_refuse hM  eM5)) (fun v' M' hq => ?_)
    obtain ⟨rfl, rfl, hM5⟩ := hq
    refine K_pick [0, 1] ?_
    exact L_YardReader_readUnpaired_53    _ _ hM5  h
set_option maxRecDepth 20000 in
theorem F_YardReader_readUnpaired {X : mX} {x1 : Int32} {M : mM} {r : Int32 × mM} (hM : Fx M)  (h : f_YardReader_readUnpaired x1 M = some r) : EV X (2 + 1) 33 [.ref 3, .int x1] M (fun v M' => v = some (.int r.1) ∧ r.2 = M' ∧ Fx r.2) := by
    refine EV_of (lc := [(0, .ref 3), (1, .int x1)]) (Nat.le_of_ble_eq_true rfl) (by exact Nat.le_of_ble_eq_true rfl) (by exact List.forall_mem_cons.mpr ⟨rfl, List.forall_mem_cons.mpr ⟨rfl, fun _ h => absurd h List.not_mem_nil⟩⟩) ?_
    unfold f_YardReader_readUnpaired at h
    refine K_aload_n rfl 0 rfl ?_
    refine K_gR rfl sh_3 hM rfl rfl 1 rfl r_3_1 ?_
    refine K_iconst (v := 0) rfl (by decide) ?_
    refine K_aload_n rfl 0 rfl ?_
    refine K_gR rfl sh_3 hM rfl rfl 0 rfl r_3_0 ?_
    refine K_gI rfl sh_4 hM rfl rfl 2 rfl ?_
    refine K_iconst (v := 1) rfl (by decide) ?_
    refine K_isub rfl ?_
    obtain ⟨r1, er1, h⟩ := Option.bind_eq_some_iff.mp h
    refine K_cV [.int 0, .int ((M.2.1 4 2) - 1)] [] rfl rfl (Nat.le_of_ble_eq_true rfl) (Nat.le_of_ble_eq_true rfl) sh_1 hM rfl (EV_le (Nat.le_of_ble_eq_true rfl) (F_Text_numberFrom hM  er1)) (fun v' M' hq => ?_)
    obtain ⟨rfl, rfl, hr1⟩ := hq
    refine K_istore_n rfl ?_
    refine K_aload_n rfl 1 rfl ?_
    refine K_gR rfl sh_3 hr1 rfl rfl 1 rfl r_3_1 ?_
    refine K_gI rfl sh_1 hr1 rfl rfl 6 rfl ?_
    refine K_if_ne rfl (fun c2 => ?_) (fun c2 => ?_)
    · rw [if_neg c2] at h
      refine K_pick [1, 0] ?_
      exact L_YardReader_readUnpaired_53    _ _ hr1  h
    · rw [if_pos c2] at h
      refine K_iload_n rfl 0 rfl ?_
      refine K_iload_n rfl 2 rfl ?_
      refine K_ic_eq rfl (fun c4 => ?_) (fun c4 => ?_)
      · rw [if_pos c4] at h
        refine K_pick [1, 0] ?_
        exact L_YardReader_readUnpaired_45    _ _ hr1  h
      · rw [if_neg c4] at h
        refine K_aload_n rfl 1 rfl ?_
        refine K_gR rfl sh_3 hr1 rfl rfl 0 rfl r_3_0 ?_
        refine K_iload_n rfl 0 rfl ?_
        obtain ⟨r6, er6, h⟩ := Option.bind_eq_some_iff.mp h
        refine K_cV [.int r1.1] [] rfl rfl (Nat.le_of_ble_eq_true rfl) (Nat.le_of_ble_eq_true rfl) sh_4 hr1 rfl (EV_le (Nat.le_of_ble_eq_true rfl) (F_Yard_pairOf hr1 yd_4 er6)) (fun v' M' hq => ?_)
        obtain ⟨rfl, rfl, hr6⟩ := hq
        refine K_iconst (v := (-1)) rfl (by decide) ?_
        refine K_ic_eq rfl (fun c7 => ?_) (fun c7 => ?_)
        · rw [if_pos c7] at h
          refine K_pick [1, 0] ?_
          exact L_YardReader_readUnpaired_53    _ _ hr6  h
        · rw [if_neg c7] at h
          refine K_pick [1, 0] ?_
          exact L_YardReader_readUnpaired_45    _ _ hr6  h
set_option maxRecDepth 20000 in
theorem F_Yard_addPair {X : mX} {S : Nat} {x1 : Int32} {x2 : Int32} {M : mM} {r : mM} (hM : Fx M) (hS : is_yd S) (h : f_Yard_addPair S x1 x2 M = some r) : EV X (0 + 1) 35 [.ref S, .int x1, .int x2] M (fun v M' => v = none ∧ r = M' ∧ Fx r) := by
    refine EV_of (lc := [(0, .ref S), (1, .int x1), (2, .int x2)]) (Nat.le_of_ble_eq_true rfl) (by exact Nat.le_of_ble_eq_true rfl) (by exact List.forall_mem_cons.mpr ⟨rfl, List.forall_mem_cons.mpr ⟨rfl, List.forall_mem_cons.mpr ⟨rfl, fun _ h => absurd h List.not_mem_nil⟩⟩⟩) ?_
    unfold f_Yard_addPair at h
    refine K_iload_n rfl 1 rfl ?_
    refine K_if_lt rfl (fun c1 => ?_) (fun c1 => ?_)
    · rw [if_pos c1] at h
      obtain rfl := Option.some.inj h
      exact K_vret rfl rfl ⟨rfl, rfl, hM⟩
    · rw [if_neg c1] at h
      refine K_iload_n rfl 1 rfl ?_
      refine K_bipush (v := 11) rfl (by decide) ?_
      refine K_ic_ge rfl (fun c2 => ?_) (fun c2 => ?_)
      · rw [if_pos c2] at h
        obtain rfl := Option.some.inj h
        exact K_vret rfl rfl ⟨rfl, rfl, hM⟩
      · rw [if_neg c2] at h
        refine K_iload_n rfl 2 rfl ?_
        refine K_if_lt rfl (fun c3 => ?_) (fun c3 => ?_)
        · rw [if_pos c3] at h
          obtain rfl := Option.some.inj h
          exact K_vret rfl rfl ⟨rfl, rfl, hM⟩
        · rw [if_neg c3] at h
          refine K_iload_n rfl 2 rfl ?_
          refine K_bipush (v := 11) rfl (by decide) ?_
          refine K_ic_ge rfl (fun c4 => ?_) (fun c4 => ?_)
          · rw [if_pos c4] at h
            obtain rfl := Option.some.inj h
            exact K_vret rfl rfl ⟨rfl, rfl, hM⟩
          · rw [if_neg c4] at h
            refine K_aload_n rfl 0 rfl ?_
            refine K_gR rfl (yd_s0 hS) hM rfl rfl 6 rfl (yd_r6 hS) ?_
            refine K_iload_n rfl 1 rfl ?_
            refine K_iload_n rfl 2 rfl ?_
            obtain ⟨M5, eM5, h⟩ := Option.bind_eq_some_iff.mp h
            refine K_wr rfl (yd_s4 hS) hM eM5 (fun hM5 => ?_)
            refine K_aload_n rfl 0 rfl ?_
            refine K_gR rfl (yd_s0 hS) hM5 rfl rfl 6 rfl (yd_r6 hS) ?_
            refine K_iload_n rfl 2 rfl ?_
            refine K_iload_n rfl 1 rfl ?_
            obtain ⟨M6, eM6, h⟩ := Option.bind_eq_some_iff.mp h
            refine K_wr rfl (yd_s4 hS) hM5 eM6 (fun hM6 => ?_)
            obtain rfl := Option.some.inj h
            exact K_vret rfl rfl ⟨rfl, rfl, hM6⟩
set_option maxRecDepth 20000 in
theorem F_YardReader_readPair {X : mX}  {M : mM} {r : mM} (hM : Fx M)  (h : f_YardReader_readPair  M = some r) : EV X (3 + 1) 32 [.ref 3] M (fun v M' => v = none ∧ r = M' ∧ Fx r) := by
    refine EV_of (lc := [(0, .ref 3)]) (Nat.le_of_ble_eq_true rfl) (by exact Nat.le_of_ble_eq_true rfl) (by exact List.forall_mem_cons.mpr ⟨rfl, fun _ h => absurd h List.not_mem_nil⟩) ?_
    unfold f_YardReader_readPair at h
    refine K_aload_n rfl 0 rfl ?_
    refine K_iconst (v := (-1)) rfl (by decide) ?_
    obtain ⟨r1, er1, h⟩ := Option.bind_eq_some_iff.mp h
    refine K_cV [.int (-1)] [] rfl rfl (Nat.le_of_ble_eq_true rfl) (Nat.le_of_ble_eq_true rfl) sh_3 hM rfl (EV_le (Nat.le_of_ble_eq_true rfl) (F_YardReader_readUnpaired hM  er1)) (fun v' M' hq => ?_)
    obtain ⟨rfl, rfl, hr1⟩ := hq
    refine K_istore_n rfl ?_
    refine K_aload_n rfl 1 rfl ?_
    refine K_iload_n rfl 0 rfl ?_
    obtain ⟨r2, er2, h⟩ := Option.bind_eq_some_iff.mp h
    refine K_cV [.int r1.1] [] rfl rfl (Nat.le_of_ble_eq_true rfl) (Nat.le_of_ble_eq_true rfl) sh_3 hr1 rfl (EV_le (Nat.le_of_ble_eq_true rfl) (F_YardReader_readUnpaired hr1  er2)) (fun v' M' hq => ?_)
    obtain ⟨rfl, rfl, hr2⟩ := hq
    refine K_istore_n rfl ?_
    refine K_aload_n rfl 2 rfl ?_
    refine K_gR rfl sh_3 hr2 rfl rfl 1 rfl r_3_1 ?_
    refine K_gI rfl sh_1 hr2 rfl rfl 6 rfl ?_
    refine K_if_ne rfl (fun c3 => ?_) (fun c3 => ?_)
    · rw [if_neg c3] at h
      obtain rfl := Option.some.inj h
      exact K_vret rfl rfl ⟨rfl, rfl, hr2⟩
    · rw [if_pos c3] at h
      refine K_aload_n rfl 2 rfl ?_
      refine K_gR rfl sh_3 hr2 rfl rfl 0 rfl r_3_0 ?_
      refine K_iload_n rfl 1 rfl ?_
      refine K_iload_n rfl 0 rfl ?_
      obtain ⟨M4, eM4, h⟩ := Option.bind_eq_some_iff.mp h
      refine K_cV [.int r1.1, .int r2.1] [] rfl rfl (Nat.le_of_ble_eq_true rfl) (Nat.le_of_ble_eq_true rfl) sh_4 hr2 rfl (EV_le (Nat.le_of_ble_eq_true rfl) (F_Yard_addPair hr2 yd_4 eM4)) (fun v' M' hq => ?_)
      obtain ⟨rfl, rfl, hM4⟩ := hq
      obtain rfl := Option.some.inj h
      exact K_vret rfl rfl ⟨rfl, rfl, hM4⟩
set_option maxRecDepth 20000 in
theorem L_Yard_rootAt_24 {X : mX} {S : Nat} {x1 : Int32} {x2 : Int32} {r : Int32 × mM} (hS : is_yd S) (s0 : Int32) (M : mM) (hM : Fx M)  (h : f_Yard_rootAt_24 S x1 x2  s0 M = some r) : KK X 0 37 24 [(0, .ref S), (1, .int x1), (2, .int x2)] [.int s0] M (fun v M' => v = some (.int r.1) ∧ r.2 = M' ∧ Fx r.2) := by
    unfold f_Yard_rootAt_24 at h
    refine K_istore_n rfl ?_
    refine K_iload_n rfl 0 rfl ?_
    refine K_if_eq rfl (fun c2 => ?_) (fun c2 => ?_)
    · rw [if_pos c2] at h
      refine K_iconst (v := 0) rfl (by decide) ?_
      obtain rfl := Option.some.inj h
      exact K_iret rfl (Or.inl rfl) ⟨rfl, rfl, hM⟩
    · rw [if_neg c2] at h
      refine K_aload_n rfl 1 rfl ?_
      refine K_gR rfl (yd_s0 hS) hM rfl rfl 9 rfl (yd_r9 hS) ?_
      refine K_iload_n rfl 2 rfl ?_
      refine K_bipush (v := 20) rfl (by decide) ?_
      refine K_imul rfl ?_
      refine K_iload_n rfl 3 rfl ?_
      refine K_iadd rfl ?_
      obtain ⟨v3, ev3, h⟩ := Option.bind_eq_some_iff.mp h
      refine K_rd rfl (yd_s6 hS) hM ev3 ?_
      refine K_goto rfl ?_
      obtain rfl := Option.some.inj h
      exact K_iret rfl (Or.inl rfl) ⟨rfl, rfl, hM⟩
set_option maxRecDepth 20000 in
theorem L_Yard_rootAt_23 {X : mX} {S : Nat} {x1 : Int32} {x2 : Int32} {r : Int32 × mM} (hS : is_yd S)  (M : mM) (hM : Fx M)  (h : f_Yard_rootAt_23 S x1 x2   M = some r) : KK X 0 37 23 [(0, .ref S), (1, .int x1), (2, .int x2)] [] M (fun v M' => v = some (.int r.1) ∧ r.2 = M' ∧ Fx r.2) := by
    unfold f_Yard_rootAt_23 at h
    refine K_iconst (v := 0) rfl (by decide) ?_
    refine K_pick [0, 1, 2] ?_
    exact L_Yard_rootAt_24 hS   _ _ hM  h
set_option maxRecDepth 20000 in
theorem F_Yard_rootAt {X : mX} {S : Nat} {x1 : Int32} {x2 : Int32} {M : mM} {r : Int32 × mM} (hM : Fx M) (hS : is_yd S) (h : f_Yard_rootAt S x1 x2 M = some r) : EV X (0 + 1) 37 [.ref S, .int x1, .int x2] M (fun v M' => v = some (.int r.1) ∧ r.2 = M' ∧ Fx r.2) := by
    refine EV_of (lc := [(0, .ref S), (1, .int x1), (2, .int x2)]) (Nat.le_of_ble_eq_true rfl) (by exact Nat.le_of_ble_eq_true rfl) (by exact List.forall_mem_cons.mpr ⟨rfl, List.forall_mem_cons.mpr ⟨rfl, List.forall_mem_cons.mpr ⟨rfl, fun _ h => absurd h List.not_mem_nil⟩⟩⟩) ?_
    unfold f_Yard_rootAt at h
    refine K_iload_n rfl 1 rfl ?_
    refine K_if_lt rfl (fun c1 => ?_) (fun c1 => ?_)
    · rw [if_pos c1] at h
      refine K_pick [0, 1, 2] ?_
      exact L_Yard_rootAt_23 hS    _ hM  h
    · rw [if_neg c1] at h
      refine K_iload_n rfl 1 rfl ?_
      refine K_iconst (v := 4) rfl (by decide) ?_
      refine K_ic_ge rfl (fun c4 => ?_) (fun c4 => ?_)
      · rw [if_pos c4] at h
        refine K_pick [0, 1, 2] ?_
        exact L_Yard_rootAt_23 hS    _ hM  h
      · rw [if_neg c4] at h
        refine K_iload_n rfl 2 rfl ?_
        refine K_if_lt rfl (fun c5 => ?_) (fun c5 => ?_)
        · rw [if_pos c5] at h
          refine K_pick [0, 1, 2] ?_
          exact L_Yard_rootAt_23 hS    _ hM  h
        · rw [if_neg c5] at h
          refine K_iload_n rfl 2 rfl ?_
          refine K_bipush (v := 20) rfl (by decide) ?_
          refine K_ic_ge rfl (fun c6 => ?_) (fun c6 => ?_)
          · rw [if_pos c6] at h
            refine K_pick [0, 1, 2] ?_
            exact L_Yard_rootAt_23 hS    _ hM  h
          · rw [if_neg c6] at h
            refine K_iconst (v := 1) rfl (by decide) ?_
            refine K_goto rfl ?_
            refine K_pick [0, 1, 2] ?_
            exact L_Yard_rootAt_24 hS   _ _ hM  h
set_option maxRecDepth 20000 in
theorem F_Yard_hasPlace {X : mX} {S : Nat} {x1 : Int32} {x2 : Int32} {M : mM} {r : Int32 × mM} (hM : Fx M) (hS : is_yd S) (h : f_Yard_hasPlace S x1 x2 M = some r) : EV X (0 + 1) 39 [.ref S, .int x1, .int x2] M (fun v M' => v = some (.int r.1) ∧ r.2 = M' ∧ Fx r.2) := by
    refine EV_of (lc := [(0, .ref S), (1, .int x1), (2, .int x2)]) (Nat.le_of_ble_eq_true rfl) (by exact Nat.le_of_ble_eq_true rfl) (by exact List.forall_mem_cons.mpr ⟨rfl, List.forall_mem_cons.mpr ⟨rfl, List.forall_mem_cons.mpr ⟨rfl, fun _ h => absurd h List.not_mem_nil⟩⟩⟩) ?_
    unfold f_Yard_hasPlace at h
    refine K_iload_n rfl 1 rfl ?_
    refine K_if_lt rfl (fun c1 => ?_) (fun c1 => ?_)
    · rw [if_pos c1] at h
      refine K_iconst (v := 0) rfl (by decide) ?_
      obtain rfl := Option.some.inj h
      exact K_iret rfl (Or.inr ⟨rfl, by decide⟩) ⟨rfl, rfl, hM⟩
    · rw [if_neg c1] at h
      refine K_iload_n rfl 1 rfl ?_
      refine K_aload_n rfl 0 rfl ?_
      refine K_gI rfl (yd_s0 hS) hM rfl rfl 0 rfl ?_
      refine K_ic_ge rfl (fun c2 => ?_) (fun c2 => ?_)
      · rw [if_pos c2] at h
        refine K_iconst (v := 0) rfl (by decide) ?_
        obtain rfl := Option.some.inj h
        exact K_iret rfl (Or.inr ⟨rfl, by decide⟩) ⟨rfl, rfl, hM⟩
      · rw [if_neg c2] at h
        refine K_iload_n rfl 1 rfl ?_
        refine K_iconst (v := 4) rfl (by decide) ?_
        refine K_ic_ge rfl (fun c3 => ?_) (fun c3 => ?_)
        · rw [if_pos c3] at h
          refine K_iconst (v := 0) rfl (by decide) ?_
          obtain rfl := Option.some.inj h
          exact K_iret rfl (Or.inr ⟨rfl, by decide⟩) ⟨rfl, rfl, hM⟩
        · rw [if_neg c3] at h
          refine K_iload_n rfl 2 rfl ?_
          refine K_if_lt rfl (fun c4 => ?_) (fun c4 => ?_)
          · rw [if_pos c4] at h
            refine K_iconst (v := 0) rfl (by decide) ?_
            obtain rfl := Option.some.inj h
            exact K_iret rfl (Or.inr ⟨rfl, by decide⟩) ⟨rfl, rfl, hM⟩
          · rw [if_neg c4] at h
            refine K_iload_n rfl 2 rfl ?_
            refine K_aload_n rfl 0 rfl ?_
            refine K_gI rfl (yd_s0 hS) hM rfl rfl 1 rfl ?_
            refine K_ic_ge rfl (fun c5 => ?_) (fun c5 => ?_)
            · rw [if_pos c5] at h
              refine K_iconst (v := 0) rfl (by decide) ?_
              obtain rfl := Option.some.inj h
              exact K_iret rfl (Or.inr ⟨rfl, by decide⟩) ⟨rfl, rfl, hM⟩
            · rw [if_neg c5] at h
              refine K_iload_n rfl 2 rfl ?_
              refine K_bipush (v := 20) rfl (by decide) ?_
              refine K_ic_ge rfl (fun c6 => ?_) (fun c6 => ?_)
              · rw [if_pos c6] at h
                refine K_iconst (v := 0) rfl (by decide) ?_
                obtain rfl := Option.some.inj h
                exact K_iret rfl (Or.inr ⟨rfl, by decide⟩) ⟨rfl, rfl, hM⟩
              · rw [if_neg c6] at h
                refine K_iconst (v := 1) rfl (by decide) ?_
                refine K_goto rfl ?_
                obtain rfl := Option.some.inj h
                exact K_iret rfl (Or.inr ⟨rfl, by decide⟩) ⟨rfl, rfl, hM⟩
set_option maxRecDepth 20000 in
theorem F_Yard_addRoot {X : mX} {S : Nat} {x1 : Int32} {x2 : Int32} {x3 : Int32} {M : mM} {r : mM} (hM : Fx M) (hS : is_yd S) (h : f_Yard_addRoot S x1 x2 x3 M = some r) : EV X (1 + 1) 38 [.ref S, .int x1, .int x2, .int x3] M (fun v M' => v = none ∧ r = M' ∧ Fx r) := by
    refine EV_of (lc := [(0, .ref S), (1, .int x1), (2, .int x2), (3, .int x3)]) (Nat.le_of_ble_eq_true rfl) (by exact Nat.le_of_ble_eq_true rfl) (by exact List.forall_mem_cons.mpr ⟨rfl, List.forall_mem_cons.mpr ⟨rfl, List.forall_mem_cons.mpr ⟨rfl, List.forall_mem_cons.mpr ⟨rfl, fun _ h => absurd h List.not_mem_nil⟩⟩⟩⟩) ?_
    unfold f_Yard_addRoot at h
    refine K_aload_n rfl 0 rfl ?_
    refine K_iload_n rfl 1 rfl ?_
    refine K_iload_n rfl 2 rfl ?_
    obtain ⟨r1, er1, h⟩ := Option.bind_eq_some_iff.mp h
    refine K_cV [.int x1, .int x2] [] rfl rfl (Nat.le_of_ble_eq_true rfl) (Nat.le_of_ble_eq_true rfl) (yd_s0 hS) hM rfl (EV_le (Nat.le_of_ble_eq_true rfl) (F_Yard_hasPlace hM hS er1)) (fun v' M' hq => ?_)
    obtain ⟨rfl, rfl, hr1⟩ := hq
    refine K_if_eq rfl (fun c2 => ?_) (fun c2 => ?_)
    · rw [if_pos c2] at h
      obtain rfl := Option.some.inj h
      exact K_vret rfl rfl ⟨rfl, rfl, hr1⟩
    · rw [if_neg c2] at h
      refine K_aload_n rfl 0 rfl ?_
      refine K_gR rfl (yd_s0 hS) hr1 rfl rfl 9 rfl (yd_r9 hS) ?_
      refine K_iload_n rfl 1 rfl ?_
      refine K_bipush (v := 20) rfl (by decide) ?_
      refine K_imul rfl ?_
      refine K_iload_n rfl 2 rfl ?_
      refine K_iadd rfl ?_
      refine K_iload_n rfl 3 rfl ?_
      obtain ⟨M3, eM3, h⟩ := Option.bind_eq_some_iff.mp h
      refine K_wr rfl (yd_s6 hS) hr1 eM3 (fun hM3 => ?_)
      refine K_aload_n rfl 0 rfl ?_
      refine K_dup rfl rfl ?_
      refine K_gI rfl (yd_s0 hS) hM3 rfl rfl 8 rfl ?_
      refine K_iconst (v := 1) rfl (by decide) ?_
      refine K_iadd rfl ?_
      obtain ⟨M4, eM4, h⟩ := Option.bind_eq_some_iff.mp h
      refine K_pI rfl (yd_s0 hS) hM3 rfl rfl 8 rfl eM4 (fun hM4 => ?_)
      obtain rfl := Option.some.inj h
      exact K_vret rfl rfl ⟨rfl, rfl, hM4⟩
set_option maxRecDepth 20000 in
theorem L_YardReader_readRoot_73 {X : mX}  {r : mM}  (l1 : Int32) (l2 : Int32) (M : mM) (hM : Fx M)  (h : f_YardReader_readRoot_73   l1 l2 M = some r) : KK X 2 36 73 [(0, .ref 3), (1, .int l1), (2, .int l2)] [] M (fun v M' => v = none ∧ r = M' ∧ Fx r) := by
    unfold f_YardReader_readRoot_73 at h
    refine K_aload_n rfl 0 rfl ?_
    refine K_gR rfl sh_3 hM rfl rfl 1 rfl r_3_1 ?_
    obtain ⟨M5, eM5, h⟩ := Option.bind_eq_some_iff.mp h
    refine K_cV [] [] rfl rfl (Nat.le_of_ble_eq_true rfl) (Nat.le_of_ble_eq_true rfl) sh_1 hM rfl (EV_le (Nat.le_of_ble_eq_true rfl) (F_Text_advance hM  eM5)) (fun v' M' hq => ?_)
    obtain ⟨rfl, rfl, hM5⟩ := hq
    refine K_aload_n rfl 0 rfl ?_
    refine K_gR rfl sh_3 hM5 rfl rfl 1 rfl r_3_1 ?_
    refine K_iconst (v := 1) rfl (by decide) ?_
    refine K_bipush (v := 9) rfl (by decide) ?_
    obtain ⟨r6, er6, h⟩ := Option.bind_eq_some_iff.mp h
    refine K_cV [.int 1, .int 9] [] rfl rfl (Nat.le_of_ble_eq_true rfl) (Nat.le_of_ble_eq_true rfl) sh_1 hM5 rfl (EV_le (Nat.le_of_ble_eq_true rfl) (F_Text_numberFrom hM5  er6)) (fun v' M' hq => ?_)
    obtain ⟨rfl, rfl, hr6⟩ := hq
    refine K_istore_n rfl ?_
    refine K_aload_n rfl 1 rfl ?_
    refine K_gR rfl sh_3 hr6 rfl rfl 1 rfl r_3_1 ?_
    obtain ⟨M7, eM7, h⟩ := Option.bind_eq_some_iff.mp h
    refine K_cV [] [] rfl rfl (Nat.le_of_ble_eq_true rfl) (Nat.le_of_ble_eq_true rfl) sh_1 hr6 rfl (EV_le (Nat.le_of_ble_eq_true rfl) (F_Text_advance hr6  eM7)) (fun v' M' hq => ?_)
    obtain ⟨rfl, rfl, hM7⟩ := hq
    refine K_aload_n rfl 1 rfl ?_
    refine K_gR rfl sh_3 hM7 rfl rfl 1 rfl r_3_1 ?_
    refine K_gI rfl sh_1 hM7 rfl rfl 6 rfl ?_
    refine K_if_ne rfl (fun c8 => ?_) (fun c8 => ?_)
    · rw [if_neg c8] at h
      obtain rfl := Option.some.inj h
      exact K_vret rfl rfl ⟨rfl, rfl, hM7⟩
    · rw [if_pos c8] at h
      refine K_aload_n rfl 1 rfl ?_
      refine K_gR rfl sh_3 hM7 rfl rfl 0 rfl r_3_0 ?_
      refine K_iload_n rfl 2 rfl ?_
      refine K_iload_n rfl 3 rfl ?_
      refine K_iload_n rfl 0 rfl ?_
      obtain ⟨M9, eM9, h⟩ := Option.bind_eq_some_iff.mp h
      refine K_cV [.int l1, .int l2, .int r6.1] [] rfl rfl (Nat.le_of_ble_eq_true rfl) (Nat.le_of_ble_eq_true rfl) sh_4 hM7 rfl (EV_le (Nat.le_of_ble_eq_true rfl) (F_Yard_addRoot hM7 yd_4 eM9)) (fun v' M' hq => ?_)
      obtain ⟨rfl, rfl, hM9⟩ := hq
      obtain rfl := Option.some.inj h
      exact K_vret rfl rfl ⟨rfl, rfl, hM9⟩
set_option maxRecDepth 20000 in
theorem F_YardReader_readRoot {X : mX}  {M : mM} {r : mM} (hM : Fx M)  (h : f_YardReader_readRoot  M = some r) : EV X (2 + 1) 36 [.ref 3] M (fun v M' => v = none ∧ r = M' ∧ Fx r) := by
    refine EV_of (lc := [(0, .ref 3)]) (Nat.le_of_ble_eq_true rfl) (by exact Nat.le_of_ble_eq_true rfl) (by exact List.forall_mem_cons.mpr ⟨rfl, fun _ h => absurd h List.not_mem_nil⟩) ?_
    unfold f_YardReader_readRoot at h
    refine K_aload_n rfl 0 rfl ?_
    refine K_gR rfl sh_3 hM rfl rfl 1 rfl r_3_1 ?_
    refine K_iconst (v := 0) rfl (by decide) ?_
    refine K_aload_n rfl 0 rfl ?_
    refine K_gR rfl sh_3 hM rfl rfl 0 rfl r_3_0 ?_
    refine K_gI rfl sh_4 hM rfl rfl 0 rfl ?_
    refine K_iconst (v := 1) rfl (by decide) ?_
    refine K_isub rfl ?_
    obtain ⟨r1, er1, h⟩ := Option.bind_eq_some_iff.mp h
    refine K_cV [.int 0, .int ((M.2.1 4 0) - 1)] [] rfl rfl (Nat.le_of_ble_eq_true rfl) (Nat.le_of_ble_eq_true rfl) sh_1 hM rfl (EV_le (Nat.le_of_ble_eq_true rfl) (F_Text_numberFrom hM  er1)) (fun v' M' hq => ?_)
    obtain ⟨rfl, rfl, hr1⟩ := hq
    refine K_istore_n rfl ?_
    refine K_aload_n rfl 1 rfl ?_
    refine K_gR rfl sh_3 hr1 rfl rfl 1 rfl r_3_1 ?_
    obtain ⟨M2, eM2, h⟩ := Option.bind_eq_some_iff.mp h
    refine K_cV [] [] rfl rfl (Nat.le_of_ble_eq_true rfl) (Nat.le_of_ble_eq_true rfl) sh_1 hr1 rfl (EV_le (Nat.le_of_ble_eq_true rfl) (F_Text_advance hr1  eM2)) (fun v' M' hq => ?_)
    obtain ⟨rfl, rfl, hM2⟩ := hq
    refine K_aload_n rfl 1 rfl ?_
    refine K_gR rfl sh_3 hM2 rfl rfl 1 rfl r_3_1 ?_
    refine K_iconst (v := 0) rfl (by decide) ?_
    refine K_aload_n rfl 1 rfl ?_
    refine K_gR rfl sh_3 hM2 rfl rfl 0 rfl r_3_0 ?_
    refine K_gI rfl sh_4 hM2 rfl rfl 1 rfl ?_
    refine K_iconst (v := 1) rfl (by decide) ?_
    refine K_isub rfl ?_
    obtain ⟨r3, er3, h⟩ := Option.bind_eq_some_iff.mp h
    refine K_cV [.int 0, .int ((M2.2.1 4 1) - 1)] [] rfl rfl (Nat.le_of_ble_eq_true rfl) (Nat.le_of_ble_eq_true rfl) sh_1 hM2 rfl (EV_le (Nat.le_of_ble_eq_true rfl) (F_Text_numberFrom hM2  er3)) (fun v' M' hq => ?_)
    obtain ⟨rfl, rfl, hr3⟩ := hq
    refine K_istore_n rfl ?_
    refine K_aload_n rfl 2 rfl ?_
    refine K_gR rfl sh_3 hr3 rfl rfl 1 rfl r_3_1 ?_
    refine K_gI rfl sh_1 hr3 rfl rfl 6 rfl ?_
    refine K_if_ne rfl (fun c4 => ?_) (fun c4 => ?_)
    · rw [if_neg c4] at h
      refine K_pick [2, 1, 0] ?_
      exact L_YardReader_readRoot_73    _ _ _ hr3  h
    · rw [if_pos c4] at h
      refine K_aload_n rfl 2 rfl ?_
      refine K_gR rfl sh_3 hr3 rfl rfl 0 rfl r_3_0 ?_
      refine K_iload_n rfl 1 rfl ?_
      refine K_iload_n rfl 0 rfl ?_
      obtain ⟨r10, er10, h⟩ := Option.bind_eq_some_iff.mp h
      refine K_cV [.int r1.1, .int r3.1] [] rfl rfl (Nat.le_of_ble_eq_true rfl) (Nat.le_of_ble_eq_true rfl) sh_4 hr3 rfl (EV_le (Nat.le_of_ble_eq_true rfl) (F_Yard_rootAt hr3 yd_4 er10)) (fun v' M' hq => ?_)
      obtain ⟨rfl, rfl, hr10⟩ := hq
      refine K_if_eq rfl (fun c11 => ?_) (fun c11 => ?_)
      · rw [if_pos c11] at h
        refine K_pick [2, 1, 0] ?_
        exact L_YardReader_readRoot_73    _ _ _ hr10  h
      · rw [if_neg c11] at h
        refine K_aload_n rfl 2 rfl ?_
        refine K_gR rfl sh_3 hr10 rfl rfl 1 rfl r_3_1 ?_
        refine K_iconst (v := 1) rfl (by decide) ?_
        obtain ⟨M12, eM12, h⟩ := Option.bind_eq_some_iff.mp h
        refine K_cV [.int 1] [] rfl rfl (Nat.le_of_ble_eq_true rfl) (Nat.le_of_ble_eq_true rfl) sh_1 hr10 rfl (EV_le (Nat.le_of_ble_eq_true rfl) (F_Text_refuse hr10  eM12)) (fun v' M' hq => ?_)
        obtain ⟨rfl, rfl, hM12⟩ := hq
        refine K_pick [2, 1, 0] ?_
        exact L_YardReader_readRoot_73    _ _ _ hM12  h
set_option maxRecDepth 20000 in
theorem F_Yard_makeHeavy {X : mX} {S : Nat} {x1 : Int32} {M : mM} {r : mM} (hM : Fx M) (hS : is_yd S) (h : f_Yard_makeHeavy S x1 M = some r) : EV X (0 + 1) 41 [.ref S, .int x1] M (fun v M' => v = none ∧ r = M' ∧ Fx r) := by
    refine EV_of (lc := [(0, .ref S), (1, .int x1)]) (Nat.le_of_ble_eq_true rfl) (by exact Nat.le_of_ble_eq_true rfl) (by exact List.forall_mem_cons.mpr ⟨rfl, List.forall_mem_cons.mpr ⟨rfl, fun _ h => absurd h List.not_mem_nil⟩⟩) ?_
    unfold f_Yard_makeHeavy at h
    refine K_iload_n rfl 1 rfl ?_
    refine K_if_lt rfl (fun c1 => ?_) (fun c1 => ?_)
    · rw [if_pos c1] at h
      obtain rfl := Option.some.inj h
      exact K_vret rfl rfl ⟨rfl, rfl, hM⟩
    · rw [if_neg c1] at h
      refine K_iload_n rfl 1 rfl ?_
      refine K_bipush (v := 11) rfl (by decide) ?_
      refine K_ic_ge rfl (fun c2 => ?_) (fun c2 => ?_)
      · rw [if_pos c2] at h
        obtain rfl := Option.some.inj h
        exact K_vret rfl rfl ⟨rfl, rfl, hM⟩
      · rw [if_neg c2] at h
        refine K_aload_n rfl 0 rfl ?_
        refine K_gR rfl (yd_s0 hS) hM rfl rfl 7 rfl (yd_r7 hS) ?_
        refine K_iload_n rfl 1 rfl ?_
        refine K_iconst (v := 1) rfl (by decide) ?_
        obtain ⟨M3, eM3, h⟩ := Option.bind_eq_some_iff.mp h
        refine K_wr rfl (yd_s5 hS) hM eM3 (fun hM3 => ?_)
        obtain rfl := Option.some.inj h
        exact K_vret rfl rfl ⟨rfl, rfl, hM3⟩
set_option maxRecDepth 20000 in
theorem F_YardReader_readHeavy {X : mX}  {M : mM} {r : mM} (hM : Fx M)  (h : f_YardReader_readHeavy  M = some r) : EV X (2 + 1) 40 [.ref 3] M (fun v M' => v = none ∧ r = M' ∧ Fx r) := by
    refine EV_of (lc := [(0, .ref 3)]) (Nat.le_of_ble_eq_true rfl) (by exact Nat.le_of_ble_eq_true rfl) (by exact List.forall_mem_cons.mpr ⟨rfl, fun _ h => absurd h List.not_mem_nil⟩) ?_
    unfold f_YardReader_readHeavy at h
    refine K_aload_n rfl 0 rfl ?_
    refine K_gR rfl sh_3 hM rfl rfl 1 rfl r_3_1 ?_
    refine K_iconst (v := 0) rfl (by decide) ?_
    refine K_aload_n rfl 0 rfl ?_
    refine K_gR rfl sh_3 hM rfl rfl 0 rfl r_3_0 ?_
    refine K_gI rfl sh_4 hM rfl rfl 2 rfl ?_
    refine K_iconst (v := 1) rfl (by decide) ?_
    refine K_isub rfl ?_
    obtain ⟨r1, er1, h⟩ := Option.bind_eq_some_iff.mp h
    refine K_cV [.int 0, .int ((M.2.1 4 2) - 1)] [] rfl rfl (Nat.le_of_ble_eq_true rfl) (Nat.le_of_ble_eq_true rfl) sh_1 hM rfl (EV_le (Nat.le_of_ble_eq_true rfl) (F_Text_numberFrom hM  er1)) (fun v' M' hq => ?_)
    obtain ⟨rfl, rfl, hr1⟩ := hq
    refine K_istore_n rfl ?_
    refine K_aload_n rfl 1 rfl ?_
    refine K_gR rfl sh_3 hr1 rfl rfl 1 rfl r_3_1 ?_
    obtain ⟨M2, eM2, h⟩ := Option.bind_eq_some_iff.mp h
    refine K_cV [] [] rfl rfl (Nat.le_of_ble_eq_true rfl) (Nat.le_of_ble_eq_true rfl) sh_1 hr1 rfl (EV_le (Nat.le_of_ble_eq_true rfl) (F_Text_advance hr1  eM2)) (fun v' M' hq => ?_)
    obtain ⟨rfl, rfl, hM2⟩ := hq
    refine K_aload_n rfl 1 rfl ?_
    refine K_gR rfl sh_3 hM2 rfl rfl 1 rfl r_3_1 ?_
    refine K_gI rfl sh_1 hM2 rfl rfl 6 rfl ?_
    refine K_if_ne rfl (fun c3 => ?_) (fun c3 => ?_)
    · rw [if_neg c3] at h
      obtain rfl := Option.some.inj h
      exact K_vret rfl rfl ⟨rfl, rfl, hM2⟩
    · rw [if_pos c3] at h
      refine K_aload_n rfl 1 rfl ?_
      refine K_gR rfl sh_3 hM2 rfl rfl 0 rfl r_3_0 ?_
      refine K_iload_n rfl 0 rfl ?_
      obtain ⟨M4, eM4, h⟩ := Option.bind_eq_some_iff.mp h
      refine K_cV [.int r1.1] [] rfl rfl (Nat.le_of_ble_eq_true rfl) (Nat.le_of_ble_eq_true rfl) sh_4 hM2 rfl (EV_le (Nat.le_of_ble_eq_true rfl) (F_Yard_makeHeavy hM2 yd_4 eM4)) (fun v' M' hq => ?_)
      obtain ⟨rfl, rfl, hM4⟩ := hq
      obtain rfl := Option.some.inj h
      exact K_vret rfl rfl ⟨rfl, rfl, hM4⟩
set_option maxRecDepth 20000 in
theorem L_Yard_isFlood_2 {X : mX} {S : Nat} {x1 : Int32} {r : Int32 × mM} (hS : is_yd S) : ∀ (n : Nat) (l2 : Int32) (M : mM), Fx M → f_Yard_isFlood_2 S x1  n l2 M = some r → KK X 0 43 2 [(0, .ref S), (1, .int x1), (2, .int l2)] [] M (fun v M' => v = some (.int r.1) ∧ r.2 = M' ∧ Fx r.2)
  | 0, _, _ => fun _ h => by cases h
  | n + 1, l2, M => fun hM h => by
    unfold f_Yard_isFlood_2 at h
    refine K_iload_n rfl 2 rfl ?_
    refine K_aload_n rfl 0 rfl ?_
    refine K_gI rfl (yd_s0 hS) hM rfl rfl 10 rfl ?_
    refine K_ic_ge rfl (fun c1 => ?_) (fun c1 => ?_)
    · rw [if_pos c1] at h
      refine K_iconst (v := 0) rfl (by decide) ?_
      obtain rfl := Option.some.inj h
      exact K_iret rfl (Or.inr ⟨rfl, by decide⟩) ⟨rfl, rfl, hM⟩
    · rw [if_neg c1] at h
      refine K_iload_n rfl 2 rfl ?_
      refine K_aload_n rfl 0 rfl ?_
      refine K_gR rfl (yd_s0 hS) hM rfl rfl 11 rfl (yd_r11 hS) ?_
      refine K_aln (v := 6) rfl (yd_s7 hS) hM (by decide) (by decide) ?_
      refine K_ic_ge rfl (fun c2 => ?_) (fun c2 => ?_)
      · rw [if_pos c2] at h
        refine K_iconst (v := 0) rfl (by decide) ?_
        obtain rfl := Option.some.inj h
        exact K_iret rfl (Or.inr ⟨rfl, by decide⟩) ⟨rfl, rfl, hM⟩
      · rw [if_neg c2] at h
        refine K_aload_n rfl 0 rfl ?_
        refine K_gR rfl (yd_s0 hS) hM rfl rfl 11 rfl (yd_r11 hS) ?_
        refine K_iload_n rfl 2 rfl ?_
        obtain ⟨v3, ev3, h⟩ := Option.bind_eq_some_iff.mp h
        refine K_rd rfl (yd_s7 hS) hM ev3 ?_
        refine K_iload_n rfl 1 rfl ?_
        refine K_ic_ne rfl (fun c4 => ?_) (fun c4 => ?_)
        · rw [if_neg c4] at h
          refine K_iinc (y := (l2 + 1)) rfl 2 rfl rfl ?_
          refine K_goto rfl ?_
          refine K_pick [1, 2, 0] ?_
          exact L_Yard_isFlood_2 hS   n _ _ hM  h
        · rw [if_pos c4] at h
          refine K_iconst (v := 1) rfl (by decide) ?_
          obtain rfl := Option.some.inj h
          exact K_iret rfl (Or.inr ⟨rfl, by decide⟩) ⟨rfl, rfl, hM⟩
set_option maxRecDepth 20000 in
theorem F_Yard_isFlood {X : mX} {S : Nat} {x1 : Int32} {M : mM} {r : Int32 × mM} (hM : Fx M) (hS : is_yd S) (h : f_Yard_isFlood S x1 M = some r) : EV X (0 + 1) 43 [.ref S, .int x1] M (fun v M' => v = some (.int r.1) ∧ r.2 = M' ∧ Fx r.2) := by
    refine EV_of (lc := [(0, .ref S), (1, .int x1)]) (Nat.le_of_ble_eq_true rfl) (by exact Nat.le_of_ble_eq_true rfl) (by exact List.forall_mem_cons.mpr ⟨rfl, List.forall_mem_cons.mpr ⟨rfl, fun _ h => absurd h List.not_mem_nil⟩⟩) ?_
    unfold f_Yard_isFlood at h
    refine K_iconst (v := 0) rfl (by decide) ?_
    refine K_istore_n rfl ?_
    refine K_pick [1, 2, 0] ?_
    exact L_Yard_isFlood_2 hS   FUEL _ _ hM  h
set_option maxRecDepth 20000 in
theorem F_Yard_addFlood {X : mX} {S : Nat} {x1 : Int32} {M : mM} {r : mM} (hM : Fx M) (hS : is_yd S) (h : f_Yard_addFlood S x1 M = some r) : EV X (0 + 1) 44 [.ref S, .int x1] M (fun v M' => v = none ∧ r = M' ∧ Fx r) := by
    refine EV_of (lc := [(0, .ref S), (1, .int x1)]) (Nat.le_of_ble_eq_true rfl) (by exact Nat.le_of_ble_eq_true rfl) (by exact List.forall_mem_cons.mpr ⟨rfl, List.forall_mem_cons.mpr ⟨rfl, fun _ h => absurd h List.not_mem_nil⟩⟩) ?_
    unfold f_Yard_addFlood at h
    refine K_aload_n rfl 0 rfl ?_
    refine K_gI rfl (yd_s0 hS) hM rfl rfl 10 rfl ?_
    refine K_if_lt rfl (fun c1 => ?_) (fun c1 => ?_)
    · rw [if_pos c1] at h
      obtain rfl := Option.some.inj h
      exact K_vret rfl rfl ⟨rfl, rfl, hM⟩
    · rw [if_neg c1] at h
      refine K_aload_n rfl 0 rfl ?_
      refine K_gI rfl (yd_s0 hS) hM rfl rfl 10 rfl ?_
      refine K_aload_n rfl 0 rfl ?_
      refine K_gR rfl (yd_s0 hS) hM rfl rfl 11 rfl (yd_r11 hS) ?_
      refine K_aln (v := 6) rfl (yd_s7 hS) hM (by decide) (by decide) ?_
      refine K_ic_ge rfl (fun c2 => ?_) (fun c2 => ?_)
      · rw [if_pos c2] at h
        obtain rfl := Option.some.inj h
        exact K_vret rfl rfl ⟨rfl, rfl, hM⟩
      · rw [if_neg c2] at h
        refine K_aload_n rfl 0 rfl ?_
        refine K_gR rfl (yd_s0 hS) hM rfl rfl 11 rfl (yd_r11 hS) ?_
        refine K_aload_n rfl 0 rfl ?_
        refine K_gI rfl (yd_s0 hS) hM rfl rfl 10 rfl ?_
        refine K_iload_n rfl 1 rfl ?_
        obtain ⟨M3, eM3, h⟩ := Option.bind_eq_some_iff.mp h
        refine K_wr rfl (yd_s7 hS) hM eM3 (fun hM3 => ?_)
        refine K_aload_n rfl 0 rfl ?_
        refine K_dup rfl rfl ?_
        refine K_gI rfl (yd_s0 hS) hM3 rfl rfl 10 rfl ?_
        refine K_iconst (v := 1) rfl (by decide) ?_
        refine K_iadd rfl ?_
        obtain ⟨M4, eM4, h⟩ := Option.bind_eq_some_iff.mp h
        refine K_pI rfl (yd_s0 hS) hM3 rfl rfl 10 rfl eM4 (fun hM4 => ?_)
        obtain rfl := Option.some.inj h
        exact K_vret rfl rfl ⟨rfl, rfl, hM4⟩
set_option maxRecDepth 20000 in
theorem L_YardReader_readFlood_40 {X : mX}  {r : mM}  (l1 : Int32) (M : mM) (hM : Fx M)  (h : f_YardReader_readFlood_40   l1 M = some r) : KK X 2 42 40 [(0, .ref 3), (1, .int l1)] [] M (fun v M' => v = none ∧ r = M' ∧ Fx r) := by
    unfold f_YardReader_readFlood_40 at h
    refine K_aload_n rfl 0 rfl ?_
    refine K_gR rfl sh_3 hM rfl rfl 1 rfl r_3_1 ?_
    obtain ⟨M3, eM3, h⟩ := Option.bind_eq_some_iff.mp h
    refine K_cV [] [] rfl rfl (Nat.le_of_ble_eq_true rfl) (Nat.le_of_ble_eq_true rfl) sh_1 hM rfl (EV_le (Nat.le_of_ble_eq_true rfl) (F_Text_advance hM  eM3)) (fun v' M' hq => ?_)
    obtain ⟨rfl, rfl, hM3⟩ := hq
    refine K_aload_n rfl 0 rfl ?_
    refine K_gR rfl sh_3 hM3 rfl rfl 1 rfl r_3_1 ?_
    refine K_gI rfl sh_1 hM3 rfl rfl 6 rfl ?_
    refine K_if_ne rfl (fun c4 => ?_) (fun c4 => ?_)
    · rw [if_neg c4] at h
      obtain rfl := Option.some.inj h
      exact K_vret rfl rfl ⟨rfl, rfl, hM3⟩
    · rw [if_pos c4] at h
      refine K_aload_n rfl 0 rfl ?_
      refine K_gR rfl sh_3 hM3 rfl rfl 0 rfl r_3_0 ?_
      refine K_iload_n rfl 1 rfl ?_
      obtain ⟨M5, eM5, h⟩ := Option.bind_eq_some_iff.mp h
      refine K_cV [.int l1] [] rfl rfl (Nat.le_of_ble_eq_true rfl) (Nat.le_of_ble_eq_true rfl) sh_4 hM3 rfl (EV_le (Nat.le_of_ble_eq_true rfl) (F_Yard_addFlood hM3 yd_4 eM5)) (fun v' M' hq => ?_)
      obtain ⟨rfl, rfl, hM5⟩ := hq
      obtain rfl := Option.some.inj h
      exact K_vret rfl rfl ⟨rfl, rfl, hM5⟩
set_option maxRecDepth 20000 in
theorem F_YardReader_readFlood {X : mX}  {M : mM} {r : mM} (hM : Fx M)  (h : f_YardReader_readFlood  M = some r) : EV X (2 + 1) 42 [.ref 3] M (fun v M' => v = none ∧ r = M' ∧ Fx r) := by
    refine EV_of (lc := [(0, .ref 3)]) (Nat.le_of_ble_eq_true rfl) (by exact Nat.le_of_ble_eq_true rfl) (by exact List.forall_mem_cons.mpr ⟨rfl, fun _ h => absurd h List.not_mem_nil⟩) ?_
    unfold f_YardReader_readFlood at h
    refine K_aload_n rfl 0 rfl ?_
    refine K_gR rfl sh_3 hM rfl rfl 1 rfl r_3_1 ?_
    refine K_iconst (v := 0) rfl (by decide) ?_
    refine K_bipush (v := 99) rfl (by decide) ?_
    obtain ⟨r1, er1, h⟩ := Option.bind_eq_some_iff.mp h
    refine K_cV [.int 0, .int 99] [] rfl rfl (Nat.le_of_ble_eq_true rfl) (Nat.le_of_ble_eq_true rfl) sh_1 hM rfl (EV_le (Nat.le_of_ble_eq_true rfl) (F_Text_numberFrom hM  er1)) (fun v' M' hq => ?_)
    obtain ⟨rfl, rfl, hr1⟩ := hq
    refine K_istore_n rfl ?_
    refine K_aload_n rfl 1 rfl ?_
    refine K_gR rfl sh_3 hr1 rfl rfl 1 rfl r_3_1 ?_
    refine K_gI rfl sh_1 hr1 rfl rfl 6 rfl ?_
    refine K_if_ne rfl (fun c2 => ?_) (fun c2 => ?_)
    · rw [if_neg c2] at h
      refine K_pick [1, 0] ?_
      exact L_YardReader_readFlood_40    _ _ hr1  h
    · rw [if_pos c2] at h
      refine K_aload_n rfl 1 rfl ?_
      refine K_gR rfl sh_3 hr1 rfl rfl 0 rfl r_3_0 ?_
      refine K_iload_n rfl 0 rfl ?_
      obtain ⟨r6, er6, h⟩ := Option.bind_eq_some_iff.mp h
      refine K_cV [.int r1.1] [] rfl rfl (Nat.le_of_ble_eq_true rfl) (Nat.le_of_ble_eq_true rfl) sh_4 hr1 rfl (EV_le (Nat.le_of_ble_eq_true rfl) (F_Yard_isFlood hr1 yd_4 er6)) (fun v' M' hq => ?_)
      obtain ⟨rfl, rfl, hr6⟩ := hq
      refine K_if_eq rfl (fun c7 => ?_) (fun c7 => ?_)
      · rw [if_pos c7] at h
        refine K_pick [1, 0] ?_
        exact L_YardReader_readFlood_40    _ _ hr6  h
      · rw [if_neg c7] at h
        refine K_aload_n rfl 1 rfl ?_
        refine K_gR rfl sh_3 hr6 rfl rfl 1 rfl r_3_1 ?_
        refine K_iconst (v := 1) rfl (by decide) ?_
        obtain ⟨M8, eM8, h⟩ := Option.bind_eq_some_iff.mp h
        refine K_cV [.int 1] [] rfl rfl (Nat.le_of_ble_eq_true rfl) (Nat.le_of_ble_eq_true rfl) sh_1 hr6 rfl (EV_le (Nat.le_of_ble_eq_true rfl) (F_Text_refuse hr6  eM8)) (fun v' M' hq => ?_)
        obtain ⟨rfl, rfl, hM8⟩ := hq
        refine K_pick [1, 0] ?_
        exact L_YardReader_readFlood_40    _ _ hM8  h
set_option maxRecDepth 20000 in
theorem L_YardReader_readClause_69 {X : mX} {x1 : Int32} {r : mM}   (M : mM) (hM : Fx M)  (h : f_YardReader_readClause_69 x1   M = some r) : KK X 6 23 69 [(0, .ref 3)] [] M (fun v M' => v = none ∧ r = M' ∧ Fx r) := by
    unfold f_YardReader_readClause_69 at h
    refine K_aload_n rfl 0 rfl ?_
    refine K_gR rfl sh_3 hM rfl rfl 1 rfl r_3_1 ?_
    refine K_iconst (v := 4) rfl (by decide) ?_
    obtain ⟨M7, eM7, h⟩ := Option.bind_eq_some_iff.mp h
    refine K_cV [.int 4] [] rfl rfl (Nat.le_of_ble_eq_true rfl) (Nat.le_of_ble_eq_true rfl) sh_1 hM rfl (EV_le (Nat.le_of_ble_eq_true rfl) (F_Text_refuse hM  eM7)) (fun v' M' hq => ?_)
    obtain ⟨rfl, rfl, hM7⟩ := hq
    obtain rfl := Option.some.inj h
    exact K_vret rfl rfl ⟨rfl, rfl, hM7⟩
set_option maxRecDepth 20000 in
theorem L_YardReader_readClause_50 {X : mX} {x1 : Int32} {r : mM}  (l2 : Int32) (s0 : Int32) (M : mM) (hM : Fx M)  (h : f_YardReader_readClause_50 x1  l2 s0 M = some r) : KK X 6 23 50 [(0, .ref 3), (1, .int x1), (2, .int l2)] [.int s0] M (fun v M' => v = none ∧ r = M' ∧ Fx r) := by
    unfold f_YardReader_readClause_50 at h
    refine K_istore_n rfl ?_
    refine K_iload_n rfl 2 rfl ?_
    refine K_bipush (v := 40) rfl (by decide) ?_
    refine K_ic_ge rfl (fun c6 => ?_) (fun c6 => ?_)
    · rw [if_pos c6] at h
      refine K_pick [1] ?_
      exact L_YardReader_readClause_69     _ hM  h
    · rw [if_neg c6] at h
      refine K_iload_n rfl 0 rfl ?_
      refine K_if_ne rfl (fun c8 => ?_) (fun c8 => ?_)
      · rw [if_neg c8] at h
        refine K_pick [1] ?_
        exact L_YardReader_readClause_69     _ hM  h
      · rw [if_pos c8] at h
        refine K_aload_n rfl 1 rfl ?_
        refine K_iload_n rfl 3 rfl ?_
        obtain ⟨r9, er9, h⟩ := Option.bind_eq_some_iff.mp h
        refine K_cV [.int l2] [] rfl rfl (Nat.le_of_ble_eq_true rfl) (Nat.le_of_ble_eq_true rfl) sh_3 hM rfl (EV_le (Nat.le_of_ble_eq_true rfl) (F_YardReader_isFull hM  er9)) (fun v' M' hq => ?_)
        obtain ⟨rfl, rfl, hr9⟩ := hq
        refine K_if_eq rfl (fun c10 => ?_) (fun c10 => ?_)
        · rw [if_pos c10] at h
          refine K_aload_n rfl 1 rfl ?_
          refine K_gR rfl sh_3 hr9 rfl rfl 1 rfl r_3_1 ?_
          obtain ⟨M11, eM11, h⟩ := Option.bind_eq_some_iff.mp h
          refine K_cV [] [] rfl rfl (Nat.le_of_ble_eq_true rfl) (Nat.le_of_ble_eq_true rfl) sh_1 hr9 rfl (EV_le (Nat.le_of_ble_eq_true rfl) (F_Text_advance hr9  eM11)) (fun v' M' hq => ?_)
          obtain ⟨rfl, rfl, hM11⟩ := hq
          refine K_iload_n rfl 3 rfl ?_
          by_cases c13 : l2 = 0
          · rw [if_pos c13] at h
            refine K_ts (t := 120) rfl (fun _ => by rw [c13]; rfl) ?_
            refine K_aload_n rfl 1 rfl ?_
            obtain ⟨M12, eM12, h⟩ := Option.bind_eq_some_iff.mp h
            refine K_cV [] [] rfl rfl (Nat.le_of_ble_eq_true rfl) (Nat.le_of_ble_eq_true rfl) sh_3 hM11 rfl (EV_le (Nat.le_of_ble_eq_true rfl) (F_YardReader_readSize hM11  eM12)) (fun v' M' hq => ?_)
            obtain ⟨rfl, rfl, hM12⟩ := hq
            refine K_goto rfl ?_
            obtain rfl := Option.some.inj h
            exact K_vret rfl rfl ⟨rfl, rfl, hM12⟩
          · rw [if_neg c13] at h
            by_cases c15 : l2 = 1
            · rw [if_pos c15] at h
              refine K_ts (t := 127) rfl (fun _ => by rw [c15]; rfl) ?_
              refine K_aload_n rfl 1 rfl ?_
              obtain ⟨M14, eM14, h⟩ := Option.bind_eq_some_iff.mp h
              refine K_cV [] [] rfl rfl (Nat.le_of_ble_eq_true rfl) (Nat.le_of_ble_eq_true rfl) sh_3 hM11 rfl (EV_le (Nat.le_of_ble_eq_true rfl) (F_YardReader_readGrave hM11  eM14)) (fun v' M' hq => ?_)
              obtain ⟨rfl, rfl, hM14⟩ := hq
              refine K_goto rfl ?_
              obtain rfl := Option.some.inj h
              exact K_vret rfl rfl ⟨rfl, rfl, hM14⟩
            · rw [if_neg c15] at h
              by_cases c17 : l2 = 2
              · rw [if_pos c17] at h
                refine K_ts (t := 134) rfl (fun _ => by rw [c17]; rfl) ?_
                refine K_aload_n rfl 1 rfl ?_
                obtain ⟨M16, eM16, h⟩ := Option.bind_eq_some_iff.mp h
                refine K_cV [] [] rfl rfl (Nat.le_of_ble_eq_true rfl) (Nat.le_of_ble_eq_true rfl) sh_3 hM11 rfl (EV_le (Nat.le_of_ble_eq_true rfl) (F_YardReader_readPair hM11  eM16)) (fun v' M' hq => ?_)
                obtain ⟨rfl, rfl, hM16⟩ := hq
                refine K_goto rfl ?_
                obtain rfl := Option.some.inj h
                exact K_vret rfl rfl ⟨rfl, rfl, hM16⟩
              · rw [if_neg c17] at h
                by_cases c19 : l2 = 3
                · rw [if_pos c19] at h
                  refine K_ts (t := 141) rfl (fun _ => by rw [c19]; rfl) ?_
                  refine K_aload_n rfl 1 rfl ?_
                  obtain ⟨M18, eM18, h⟩ := Option.bind_eq_some_iff.mp h
                  refine K_cV [] [] rfl rfl (Nat.le_of_ble_eq_true rfl) (Nat.le_of_ble_eq_true rfl) sh_3 hM11 rfl (EV_le (Nat.le_of_ble_eq_true rfl) (F_YardReader_readRoot hM11  eM18)) (fun v' M' hq => ?_)
                  obtain ⟨rfl, rfl, hM18⟩ := hq
                  refine K_goto rfl ?_
                  obtain rfl := Option.some.inj h
                  exact K_vret rfl rfl ⟨rfl, rfl, hM18⟩
                · rw [if_neg c19] at h
                  by_cases c21 : l2 = 4
                  · rw [if_pos c21] at h
                    refine K_ts (t := 148) rfl (fun _ => by rw [c21]; rfl) ?_
                    refine K_aload_n rfl 1 rfl ?_
                    obtain ⟨M20, eM20, h⟩ := Option.bind_eq_some_iff.mp h
                    refine K_cV [] [] rfl rfl (Nat.le_of_ble_eq_true rfl) (Nat.le_of_ble_eq_true rfl) sh_3 hM11 rfl (EV_le (Nat.le_of_ble_eq_true rfl) (F_YardReader_readHeavy hM11  eM20)) (fun v' M' hq => ?_)
                    obtain ⟨rfl, rfl, hM20⟩ := hq
                    refine K_goto rfl ?_
                    obtain rfl := Option.some.inj h
                    exact K_vret rfl rfl ⟨rfl, rfl, hM20⟩
                  · rw [if_neg c21] at h
                    refine K_tsd rfl ?_ ?_
                    · have nc13 := lv_neT c13 (a := 0) rfl; have nc15 := lv_neT c15 (a := 1) rfl; have nc17 := lv_neT c17 (a := 2) rfl; have nc19 := lv_neT c19 (a := 3) rfl; have nc21 := lv_neT c21 (a := 4) rfl; omega
                    · refine K_aload_n rfl 1 rfl ?_
                      obtain ⟨M22, eM22, h⟩ := Option.bind_eq_some_iff.mp h
                      refine K_cV [] [] rfl rfl (Nat.le_of_ble_eq_true rfl) (Nat.le_of_ble_eq_true rfl) sh_3 hM11 rfl (EV_le (Nat.le_of_ble_eq_true rfl) (F_YardReader_readFlood hM11  eM22)) (fun v' M' hq => ?_)
                      obtain ⟨rfl, rfl, hM22⟩ := hq
                      obtain rfl := Option.some.inj h
                      exact K_vret rfl rfl ⟨rfl, rfl, hM22⟩
        · rw [if_neg c10] at h
          refine K_pick [1] ?_
          exact L_YardReader_readClause_69     _ hr9  h
set_option maxRecDepth 20000 in
theorem L_YardReader_readClause_42 {X : mX} {x1 : Int32} {r : mM}  (l2 : Int32) (s0 : Int32) (s1 : Int32) (M : mM) (hM : Fx M)  (h : f_YardReader_readClause_42 x1  l2 s0 s1 M = some r) : KK X 6 23 42 [(0, .ref 3), (1, .int x1), (2, .int l2)] [.int s1, .int s0] M (fun v M' => v = none ∧ r = M' ∧ Fx r) := by
    unfold f_YardReader_readClause_42 at h
    refine K_ic_eq rfl (fun c5 => ?_) (fun c5 => ?_)
    · rw [if_pos c5] at h
      refine K_iconst (v := 0) rfl (by decide) ?_
      refine K_pick [0, 1, 2] ?_
      exact L_YardReader_readClause_50    _ _ _ hM  h
    · rw [if_neg c5] at h
      refine K_iconst (v := 1) rfl (by decide) ?_
      refine K_goto rfl ?_
      refine K_pick [0, 1, 2] ?_
      exact L_YardReader_readClause_50    _ _ _ hM  h
set_option maxRecDepth 20000 in
theorem L_YardReader_readClause_33 {X : mX} {x1 : Int32} {r : mM}  (l2 : Int32) (s0 : Int32) (M : mM) (hM : Fx M)  (h : f_YardReader_readClause_33 x1  l2 s0 M = some r) : KK X 6 23 33 [(0, .ref 3), (1, .int x1), (2, .int l2)] [.int s0] M (fun v M' => v = none ∧ r = M' ∧ Fx r) := by
    unfold f_YardReader_readClause_33 at h
    refine K_iload_n rfl 1 rfl ?_
    refine K_if_ne rfl (fun c4 => ?_) (fun c4 => ?_)
    · rw [if_neg c4] at h
      refine K_iconst (v := 0) rfl (by decide) ?_
      refine K_pick [0, 1, 2] ?_
      exact L_YardReader_readClause_42    _ _ _ _ hM  h
    · rw [if_pos c4] at h
      refine K_iconst (v := 1) rfl (by decide) ?_
      refine K_goto rfl ?_
      refine K_pick [0, 1, 2] ?_
      exact L_YardReader_readClause_42    _ _ _ _ hM  h
set_option maxRecDepth 20000 in
theorem F_YardReader_readClause {X : mX} {x1 : Int32} {M : mM} {r : mM} (hM : Fx M)  (h : f_YardReader_readClause x1 M = some r) : EV X (6 + 1) 23 [.ref 3, .int x1] M (fun v M' => v = none ∧ r = M' ∧ Fx r) := by
    refine EV_of (lc := [(0, .ref 3), (1, .int x1)]) (Nat.le_of_ble_eq_true rfl) (by exact Nat.le_of_ble_eq_true rfl) (by exact List.forall_mem_cons.mpr ⟨rfl, List.forall_mem_cons.mpr ⟨rfl, fun _ h => absurd h List.not_mem_nil⟩⟩) ?_
    unfold f_YardReader_readClause at h
    refine K_aload_n rfl 0 rfl ?_
    refine K_gR rfl sh_3 hM rfl rfl 1 rfl r_3_1 ?_
    refine K_ldcs rfl (by decide) ?_
    obtain ⟨r1, er1, h⟩ := Option.bind_eq_some_iff.mp h
    refine K_cV [.ref (mstr + 0)] [] rfl rfl (Nat.le_of_ble_eq_true rfl) (Nat.le_of_ble_eq_true rfl) sh_1 hM rfl (EV_le (Nat.le_of_ble_eq_true rfl) (F_Text_wordAmong hM (by decide) er1)) (fun v' M' hq => ?_)
    obtain ⟨rfl, rfl, hr1⟩ := hq
    refine K_istore_n rfl ?_
    refine K_iload_n rfl 0 rfl ?_
    refine K_iconst (v := (-1)) rfl (by decide) ?_
    refine K_ic_ne rfl (fun c2 => ?_) (fun c2 => ?_)
    · rw [if_neg c2] at h
      refine K_iload_n rfl 0 rfl ?_
      refine K_if_ne rfl (fun c3 => ?_) (fun c3 => ?_)
      · rw [if_neg c3] at h
        refine K_iconst (v := 0) rfl (by decide) ?_
        refine K_pick [1, 2, 0] ?_
        exact L_YardReader_readClause_33    _ _ _ hr1  h
      · rw [if_pos c3] at h
        refine K_iconst (v := 1) rfl (by decide) ?_
        refine K_goto rfl ?_
        refine K_pick [1, 2, 0] ?_
        exact L_YardReader_readClause_33    _ _ _ hr1  h
    · rw [if_pos c2] at h
      refine K_aload_n rfl 1 rfl ?_
      refine K_gR rfl sh_3 hr1 rfl rfl 1 rfl r_3_1 ?_
      refine K_iconst (v := 0) rfl (by decide) ?_
      obtain ⟨M23, eM23, h⟩ := Option.bind_eq_some_iff.mp h
      refine K_cV [.int 0] [] rfl rfl (Nat.le_of_ble_eq_true rfl) (Nat.le_of_ble_eq_true rfl) sh_1 hr1 rfl (EV_le (Nat.le_of_ble_eq_true rfl) (F_Text_refuse hr1  eM23)) (fun v' M' hq => ?_)
      obtain ⟨rfl, rfl, hM23⟩ := hq
      obtain rfl := Option.some.inj h
      exact K_vret rfl rfl ⟨rfl, rfl, hM23⟩
set_option maxRecDepth 20000 in
theorem F_Text_isSign {X : mX} {x1 : Int32} {M : mM} {r : Int32 × mM} (hM : Fx M)  (h : f_Text_isSign x1 M = some r) : EV X (0 + 1) 46 [.ref 1, .int x1] M (fun v M' => v = some (.int r.1) ∧ r.2 = M' ∧ Fx r.2) := by
    refine EV_of (lc := [(0, .ref 1), (1, .int x1)]) (Nat.le_of_ble_eq_true rfl) (by exact Nat.le_of_ble_eq_true rfl) (by exact List.forall_mem_cons.mpr ⟨rfl, List.forall_mem_cons.mpr ⟨rfl, fun _ h => absurd h List.not_mem_nil⟩⟩) ?_
    unfold f_Text_isSign at h
    refine K_aload_n rfl 0 rfl ?_
    refine K_gI rfl sh_1 hM rfl rfl 4 rfl ?_
    refine K_iconst (v := 3) rfl (by decide) ?_
    refine K_ic_ne rfl (fun c1 => ?_) (fun c1 => ?_)
    · rw [if_neg c1] at h
      refine K_iconst (v := 0) rfl (by decide) ?_
      obtain rfl := Option.some.inj h
      exact K_iret rfl (Or.inr ⟨rfl, by decide⟩) ⟨rfl, rfl, hM⟩
    · rw [if_pos c1] at h
      refine K_aload_n rfl 0 rfl ?_
      refine K_gI rfl sh_1 hM rfl rfl 5 rfl ?_
      refine K_iload_n rfl 1 rfl ?_
      refine K_ic_ne rfl (fun c2 => ?_) (fun c2 => ?_)
      · rw [if_neg c2] at h
        refine K_iconst (v := 0) rfl (by decide) ?_
        obtain rfl := Option.some.inj h
        exact K_iret rfl (Or.inr ⟨rfl, by decide⟩) ⟨rfl, rfl, hM⟩
      · rw [if_pos c2] at h
        refine K_iconst (v := 1) rfl (by decide) ?_
        refine K_goto rfl ?_
        obtain rfl := Option.some.inj h
        exact K_iret rfl (Or.inr ⟨rfl, by decide⟩) ⟨rfl, rfl, hM⟩
set_option maxRecDepth 20000 in
theorem F_Text_takeMore {X : mX}  {M : mM} {r : Int32 × mM} (hM : Fx M)  (h : f_Text_takeMore  M = some r) : EV X (2 + 1) 45 [.ref 1] M (fun v M' => v = some (.int r.1) ∧ r.2 = M' ∧ Fx r.2) := by
    refine EV_of (lc := [(0, .ref 1)]) (Nat.le_of_ble_eq_true rfl) (by exact Nat.le_of_ble_eq_true rfl) (by exact List.forall_mem_cons.mpr ⟨rfl, fun _ h => absurd h List.not_mem_nil⟩) ?_
    unfold f_Text_takeMore at h
    refine K_aload_n rfl 0 rfl ?_
    refine K_gI rfl sh_1 hM rfl rfl 4 rfl ?_
    refine K_if_ne rfl (fun c1 => ?_) (fun c1 => ?_)
    · rw [if_neg c1] at h
      refine K_aload_n rfl 0 rfl ?_
      refine K_bipush (v := 59) rfl (by decide) ?_
      obtain ⟨r2, er2, h⟩ := Option.bind_eq_some_iff.mp h
      refine K_cV [.int 59] [] rfl rfl (Nat.le_of_ble_eq_true rfl) (Nat.le_of_ble_eq_true rfl) sh_1 hM rfl (EV_le (Nat.le_of_ble_eq_true rfl) (F_Text_isSign hM  er2)) (fun v' M' hq => ?_)
      obtain ⟨rfl, rfl, hr2⟩ := hq
      refine K_if_ne rfl (fun c3 => ?_) (fun c3 => ?_)
      · rw [if_neg c3] at h
        refine K_aload_n rfl 0 rfl ?_
        obtain ⟨M4, eM4, h⟩ := Option.bind_eq_some_iff.mp h
        refine K_cV [] [] rfl rfl (Nat.le_of_ble_eq_true rfl) (Nat.le_of_ble_eq_true rfl) sh_1 hr2 rfl (EV_le (Nat.le_of_ble_eq_true rfl) (F_Text_advance hr2  eM4)) (fun v' M' hq => ?_)
        obtain ⟨rfl, rfl, hM4⟩ := hq
        refine K_iconst (v := 1) rfl (by decide) ?_
        obtain rfl := Option.some.inj h
        exact K_iret rfl (Or.inr ⟨rfl, by decide⟩) ⟨rfl, rfl, hM4⟩
      · rw [if_pos c3] at h
        refine K_aload_n rfl 0 rfl ?_
        refine K_iconst (v := 0) rfl (by decide) ?_
        obtain ⟨M5, eM5, h⟩ := Option.bind_eq_some_iff.mp h
        refine K_cV [.int 0] [] rfl rfl (Nat.le_of_ble_eq_true rfl) (Nat.le_of_ble_eq_true rfl) sh_1 hr2 rfl (EV_le (Nat.le_of_ble_eq_true rfl) (F_Text_refuse hr2  eM5)) (fun v' M' hq => ?_)
        obtain ⟨rfl, rfl, hM5⟩ := hq
        refine K_iconst (v := 0) rfl (by decide) ?_
        obtain rfl := Option.some.inj h
        exact K_iret rfl (Or.inr ⟨rfl, by decide⟩) ⟨rfl, rfl, hM5⟩
    · rw [if_pos c1] at h
      refine K_iconst (v := 0) rfl (by decide) ?_
      obtain rfl := Option.some.inj h
      exact K_iret rfl (Or.inr ⟨rfl, by decide⟩) ⟨rfl, rfl, hM⟩
set_option maxRecDepth 20000 in
theorem L_YardReader_readYard_47 {X : mX}  {r : Int32 × mM}   (M : mM) (hM : Fx M)  (h : f_YardReader_readYard_47    M = some r) : KK X 7 16 47 [(0, .ref 3)] [] M (fun v M' => v = some (.int r.1) ∧ r.2 = M' ∧ Fx r.2) := by
    unfold f_YardReader_readYard_47 at h
    refine K_aload_n rfl 0 rfl ?_
    refine K_gR rfl sh_3 hM rfl rfl 1 rfl r_3_1 ?_
    refine K_gI rfl sh_1 hM rfl rfl 6 rfl ?_
    obtain rfl := Option.some.inj h
    exact K_iret rfl (Or.inl rfl) ⟨rfl, rfl, hM⟩
set_option maxRecDepth 20000 in
theorem L_YardReader_readYard_18 {X : mX}  {r : Int32 × mM}  : ∀ (n : Nat) (l1 : Int32) (l2 : Int32) (M : mM), Fx M → f_YardReader_readYard_18   n l1 l2 M = some r → KK X 7 16 18 [(0, .ref 3), (1, .int l1), (2, .int l2)] [] M (fun v M' => v = some (.int r.1) ∧ r.2 = M' ∧ Fx r.2)
  | 0, _, _, _ => fun _ h => by cases h
  | n + 1, l1, l2, M => fun hM h => by
    unfold f_YardReader_readYard_18 at h
    refine K_iload_n rfl 2 rfl ?_
    refine K_bipush (v := 40) rfl (by decide) ?_
    refine K_ic_gt rfl (fun c3 => ?_) (fun c3 => ?_)
    · rw [if_pos c3] at h
      refine K_pick [0] ?_
      exact L_YardReader_readYard_47     _ hM  h
    · rw [if_neg c3] at h
      refine K_iload_n rfl 1 rfl ?_
      refine K_if_eq rfl (fun c4 => ?_) (fun c4 => ?_)
      · rw [if_pos c4] at h
        refine K_pick [0] ?_
        exact L_YardReader_readYard_47     _ hM  h
      · rw [if_neg c4] at h
        refine K_aload_n rfl 0 rfl ?_
        refine K_iload_n rfl 2 rfl ?_
        obtain ⟨M5, eM5, h⟩ := Option.bind_eq_some_iff.mp h
        refine K_cV [.int l2] [] rfl rfl (Nat.le_of_ble_eq_true rfl) (Nat.le_of_ble_eq_true rfl) sh_3 hM rfl (EV_le (Nat.le_of_ble_eq_true rfl) (F_YardReader_readClause hM  eM5)) (fun v' M' hq => ?_)
        obtain ⟨rfl, rfl, hM5⟩ := hq
        refine K_aload_n rfl 0 rfl ?_
        refine K_gR rfl sh_3 hM5 rfl rfl 1 rfl r_3_1 ?_
        obtain ⟨r6, er6, h⟩ := Option.bind_eq_some_iff.mp h
        refine K_cV [] [] rfl rfl (Nat.le_of_ble_eq_true rfl) (Nat.le_of_ble_eq_true rfl) sh_1 hM5 rfl (EV_le (Nat.le_of_ble_eq_true rfl) (F_Text_takeMore hM5  er6)) (fun v' M' hq => ?_)
        obtain ⟨rfl, rfl, hr6⟩ := hq
        refine K_istore_n rfl ?_
        refine K_iinc (y := (l2 + 1)) rfl 2 rfl rfl ?_
        refine K_goto rfl ?_
        refine K_pick [2, 1, 0] ?_
        exact L_YardReader_readYard_18    n _ _ _ hr6  h
set_option maxRecDepth 20000 in
theorem F_YardReader_readYard {X : mX}  {M : mM} {r : Int32 × mM} (hM : Fx M)  (h : f_YardReader_readYard  M = some r) : EV X (7 + 1) 16 [.ref 3] M (fun v M' => v = some (.int r.1) ∧ r.2 = M' ∧ Fx r.2) := by
    refine EV_of (lc := [(0, .ref 3)]) (Nat.le_of_ble_eq_true rfl) (by exact Nat.le_of_ble_eq_true rfl) (by exact List.forall_mem_cons.mpr ⟨rfl, fun _ h => absurd h List.not_mem_nil⟩) ?_
    unfold f_YardReader_readYard at h
    refine K_aload_n rfl 0 rfl ?_
    refine K_gR rfl sh_3 hM rfl rfl 0 rfl r_3_0 ?_
    obtain ⟨M1, eM1, h⟩ := Option.bind_eq_some_iff.mp h
    refine K_cV [] [] rfl rfl (Nat.le_of_ble_eq_true rfl) (Nat.le_of_ble_eq_true rfl) sh_4 hM rfl (EV_le (Nat.le_of_ble_eq_true rfl) (F_Yard_clear hM yd_4 eM1)) (fun v' M' hq => ?_)
    obtain ⟨rfl, rfl, hM1⟩ := hq
    refine K_aload_n rfl 0 rfl ?_
    refine K_gR rfl sh_3 hM1 rfl rfl 1 rfl r_3_1 ?_
    obtain ⟨M2, eM2, h⟩ := Option.bind_eq_some_iff.mp h
    refine K_cV [] [] rfl rfl (Nat.le_of_ble_eq_true rfl) (Nat.le_of_ble_eq_true rfl) sh_1 hM1 rfl (EV_le (Nat.le_of_ble_eq_true rfl) (F_Text_rewind hM1  eM2)) (fun v' M' hq => ?_)
    obtain ⟨rfl, rfl, hM2⟩ := hq
    refine K_iconst (v := 1) rfl (by decide) ?_
    refine K_istore_n rfl ?_
    refine K_iconst (v := 0) rfl (by decide) ?_
    refine K_istore_n rfl ?_
    refine K_pick [2, 1, 0] ?_
    exact L_YardReader_readYard_18    FUEL _ _ _ hM2  h
set_option maxRecDepth 20000 in
theorem F_Yard_copyFrom {X : mX} {S : Nat} {x1 : Nat} {M : mM} {r : mM} (hM : Fx M) (hS : is_yd S) (hx1 : is_yd x1) (h : f_Yard_copyFrom S x1 M = some r) : EV X (0 + 1) 47 [.ref S, .ref x1] M (fun v M' => v = none ∧ r = M' ∧ Fx r) := by
    refine EV_of (lc := [(0, .ref S), (1, .ref x1)]) (Nat.le_of_ble_eq_true rfl) (by exact Nat.le_of_ble_eq_true rfl) (by exact List.forall_mem_cons.mpr ⟨rfl, List.forall_mem_cons.mpr ⟨rfl, fun _ h => absurd h List.not_mem_nil⟩⟩) ?_
    unfold f_Yard_copyFrom at h
    refine K_aload_n rfl 0 rfl ?_
    refine K_aload_n rfl 1 rfl ?_
    refine K_gI rfl (yd_s0 hx1) hM rfl rfl 0 rfl ?_
    obtain ⟨M1, eM1, h⟩ := Option.bind_eq_some_iff.mp h
    refine K_pI rfl (yd_s0 hS) hM rfl rfl 0 rfl eM1 (fun hM1 => ?_)
    refine K_aload_n rfl 0 rfl ?_
    refine K_aload_n rfl 1 rfl ?_
    refine K_gI rfl (yd_s0 hx1) hM1 rfl rfl 1 rfl ?_
    obtain ⟨M2, eM2, h⟩ := Option.bind_eq_some_iff.mp h
    refine K_pI rfl (yd_s0 hS) hM1 rfl rfl 1 rfl eM2 (fun hM2 => ?_)
    refine K_aload_n rfl 0 rfl ?_
    refine K_aload_n rfl 1 rfl ?_
    refine K_gI rfl (yd_s0 hx1) hM2 rfl rfl 2 rfl ?_
    obtain ⟨M3, eM3, h⟩ := Option.bind_eq_some_iff.mp h
    refine K_pI rfl (yd_s0 hS) hM2 rfl rfl 2 rfl eM3 (fun hM3 => ?_)
    refine K_aload_n rfl 0 rfl ?_
    refine K_aload_n rfl 1 rfl ?_
    refine K_gI rfl (yd_s0 hx1) hM3 rfl rfl 8 rfl ?_
    obtain ⟨M4, eM4, h⟩ := Option.bind_eq_some_iff.mp h
    refine K_pI rfl (yd_s0 hS) hM3 rfl rfl 8 rfl eM4 (fun hM4 => ?_)
    refine K_aload_n rfl 0 rfl ?_
    refine K_aload_n rfl 1 rfl ?_
    refine K_gI rfl (yd_s0 hx1) hM4 rfl rfl 10 rfl ?_
    obtain ⟨M5, eM5, h⟩ := Option.bind_eq_some_iff.mp h
    refine K_pI rfl (yd_s0 hS) hM4 rfl rfl 10 rfl eM5 (fun hM5 => ?_)
    refine K_aload_n rfl 1 rfl ?_
    refine K_gR rfl (yd_s0 hx1) hM5 rfl rfl 3 rfl (yd_r3 hx1) ?_
    refine K_iconst (v := 0) rfl (by decide) ?_
    refine K_aload_n rfl 0 rfl ?_
    refine K_gR rfl (yd_s0 hS) hM5 rfl rfl 3 rfl (yd_r3 hS) ?_
    refine K_iconst (v := 0) rfl (by decide) ?_
    refine K_bipush (v := 11) rfl (by decide) ?_
    obtain ⟨M6, eM6, h⟩ := Option.bind_eq_some_iff.mp h
    refine K_pC rfl (yd_s1 hx1) (yd_s1 hS) hM5 (by decide) (Nat.le_of_ble_eq_true rfl) eM6 (fun hM6 => ?_)
    refine K_aload_n rfl 1 rfl ?_
    refine K_gR rfl (yd_s0 hx1) hM6 rfl rfl 4 rfl (yd_r4 hx1) ?_
    refine K_iconst (v := 0) rfl (by decide) ?_
    refine K_aload_n rfl 0 rfl ?_
    refine K_gR rfl (yd_s0 hS) hM6 rfl rfl 4 rfl (yd_r4 hS) ?_
    refine K_iconst (v := 0) rfl (by decide) ?_
    refine K_bipush (v := 11) rfl (by decide) ?_
    obtain ⟨M7, eM7, h⟩ := Option.bind_eq_some_iff.mp h
    refine K_pC rfl (yd_s2 hx1) (yd_s2 hS) hM6 (by decide) (Nat.le_of_ble_eq_true rfl) eM7 (fun hM7 => ?_)
    refine K_aload_n rfl 1 rfl ?_
    refine K_gR rfl (yd_s0 hx1) hM7 rfl rfl 5 rfl (yd_r5 hx1) ?_
    refine K_iconst (v := 0) rfl (by decide) ?_
    refine K_aload_n rfl 0 rfl ?_
    refine K_gR rfl (yd_s0 hS) hM7 rfl rfl 5 rfl (yd_r5 hS) ?_
    refine K_iconst (v := 0) rfl (by decide) ?_
    refine K_bipush (v := 11) rfl (by decide) ?_
    obtain ⟨M8, eM8, h⟩ := Option.bind_eq_some_iff.mp h
    refine K_pC rfl (yd_s3 hx1) (yd_s3 hS) hM7 (by decide) (Nat.le_of_ble_eq_true rfl) eM8 (fun hM8 => ?_)
    refine K_aload_n rfl 1 rfl ?_
    refine K_gR rfl (yd_s0 hx1) hM8 rfl rfl 6 rfl (yd_r6 hx1) ?_
    refine K_iconst (v := 0) rfl (by decide) ?_
    refine K_aload_n rfl 0 rfl ?_
    refine K_gR rfl (yd_s0 hS) hM8 rfl rfl 6 rfl (yd_r6 hS) ?_
    refine K_iconst (v := 0) rfl (by decide) ?_
    refine K_bipush (v := 11) rfl (by decide) ?_
    obtain ⟨M9, eM9, h⟩ := Option.bind_eq_some_iff.mp h
    refine K_pC rfl (yd_s4 hx1) (yd_s4 hS) hM8 (by decide) (Nat.le_of_ble_eq_true rfl) eM9 (fun hM9 => ?_)
    refine K_aload_n rfl 1 rfl ?_
    refine K_gR rfl (yd_s0 hx1) hM9 rfl rfl 7 rfl (yd_r7 hx1) ?_
    refine K_iconst (v := 0) rfl (by decide) ?_
    refine K_aload_n rfl 0 rfl ?_
    refine K_gR rfl (yd_s0 hS) hM9 rfl rfl 7 rfl (yd_r7 hS) ?_
    refine K_iconst (v := 0) rfl (by decide) ?_
    refine K_bipush (v := 11) rfl (by decide) ?_
    obtain ⟨M10, eM10, h⟩ := Option.bind_eq_some_iff.mp h
    refine K_pC rfl (yd_s5 hx1) (yd_s5 hS) hM9 (by decide) (Nat.le_of_ble_eq_true rfl) eM10 (fun hM10 => ?_)
    refine K_aload_n rfl 1 rfl ?_
    refine K_gR rfl (yd_s0 hx1) hM10 rfl rfl 9 rfl (yd_r9 hx1) ?_
    refine K_iconst (v := 0) rfl (by decide) ?_
    refine K_aload_n rfl 0 rfl ?_
    refine K_gR rfl (yd_s0 hS) hM10 rfl rfl 9 rfl (yd_r9 hS) ?_
    refine K_iconst (v := 0) rfl (by decide) ?_
    refine K_bipush (v := 80) rfl (by decide) ?_
    obtain ⟨M11, eM11, h⟩ := Option.bind_eq_some_iff.mp h
    refine K_pC rfl (yd_s6 hx1) (yd_s6 hS) hM10 (by decide) (Nat.le_of_ble_eq_true rfl) eM11 (fun hM11 => ?_)
    refine K_aload_n rfl 1 rfl ?_
    refine K_gR rfl (yd_s0 hx1) hM11 rfl rfl 11 rfl (yd_r11 hx1) ?_
    refine K_iconst (v := 0) rfl (by decide) ?_
    refine K_aload_n rfl 0 rfl ?_
    refine K_gR rfl (yd_s0 hS) hM11 rfl rfl 11 rfl (yd_r11 hS) ?_
    refine K_iconst (v := 0) rfl (by decide) ?_
    refine K_bipush (v := 6) rfl (by decide) ?_
    obtain ⟨M12, eM12, h⟩ := Option.bind_eq_some_iff.mp h
    refine K_pC rfl (yd_s7 hx1) (yd_s7 hS) hM11 (by decide) (Nat.le_of_ble_eq_true rfl) eM12 (fun hM12 => ?_)
    obtain rfl := Option.some.inj h
    exact K_vret rfl rfl ⟨rfl, rfl, hM12⟩
set_option maxRecDepth 20000 in
theorem F_State_add {X : mX} {S : Nat} {x1 : Int32} {x2 : Int32} {x3 : Int32} {M : mM} {r : mM} (hM : Fx M) (hS : is_st S) (h : f_State_add S x1 x2 x3 M = some r) : EV X (0 + 1) 49 [.ref S, .int x1, .int x2, .int x3] M (fun v M' => v = none ∧ r = M' ∧ Fx r) := by
    refine EV_of (lc := [(0, .ref S), (1, .int x1), (2, .int x2), (3, .int x3)]) (Nat.le_of_ble_eq_true rfl) (by exact Nat.le_of_ble_eq_true rfl) (by exact List.forall_mem_cons.mpr ⟨rfl, List.forall_mem_cons.mpr ⟨rfl, List.forall_mem_cons.mpr ⟨rfl, List.forall_mem_cons.mpr ⟨rfl, fun _ h => absurd h List.not_mem_nil⟩⟩⟩⟩) ?_
    unfold f_State_add at h
    refine K_aload_n rfl 0 rfl ?_
    refine K_gI rfl (st_s0 hS) hM rfl rfl 1 rfl ?_
    refine K_istore rfl ?_
    refine K_iload rfl 0 rfl ?_
    refine K_if_lt rfl (fun c1 => ?_) (fun c1 => ?_)
    · rw [if_pos c1] at h
      obtain rfl := Option.some.inj h
      exact K_vret rfl rfl ⟨rfl, rfl, hM⟩
    · rw [if_neg c1] at h
      refine K_iload rfl 0 rfl ?_
      refine K_bipush (v := 11) rfl (by decide) ?_
      refine K_ic_lt rfl (fun c2 => ?_) (fun c2 => ?_)
      · rw [if_pos c2] at h
        refine K_aload_n rfl 1 rfl ?_
        refine K_gR rfl (st_s0 hS) hM rfl rfl 3 rfl (st_r3 hS) ?_
        refine K_iload rfl 0 rfl ?_
        refine K_iload_n rfl 2 rfl ?_
        obtain ⟨M3, eM3, h⟩ := Option.bind_eq_some_iff.mp h
        refine K_wr rfl (st_s1 hS) hM eM3 (fun hM3 => ?_)
        refine K_aload_n rfl 1 rfl ?_
        refine K_gR rfl (st_s0 hS) hM3 rfl rfl 4 rfl (st_r4 hS) ?_
        refine K_iload rfl 0 rfl ?_
        refine K_iload_n rfl 3 rfl ?_
        obtain ⟨M4, eM4, h⟩ := Option.bind_eq_some_iff.mp h
        refine K_wr rfl (st_s2 hS) hM3 eM4 (fun hM4 => ?_)
        refine K_aload_n rfl 1 rfl ?_
        refine K_gR rfl (st_s0 hS) hM4 rfl rfl 5 rfl (st_r5 hS) ?_
        refine K_iload rfl 0 rfl ?_
        refine K_iload_n rfl 4 rfl ?_
        obtain ⟨M5, eM5, h⟩ := Option.bind_eq_some_iff.mp h
        refine K_wr rfl (st_s3 hS) hM4 eM5 (fun hM5 => ?_)
        refine K_aload_n rfl 1 rfl ?_
        refine K_gR rfl (st_s0 hS) hM5 rfl rfl 6 rfl (st_r6 hS) ?_
        refine K_iload rfl 0 rfl ?_
        refine K_iconst (v := 0) rfl (by decide) ?_
        obtain ⟨M6, eM6, h⟩ := Option.bind_eq_some_iff.mp h
        refine K_wr rfl (st_s4 hS) hM5 eM6 (fun hM6 => ?_)
        refine K_aload_n rfl 1 rfl ?_
        refine K_gR rfl (st_s0 hS) hM6 rfl rfl 7 rfl (st_r7 hS) ?_
        refine K_iload rfl 0 rfl ?_
        refine K_iconst (v := (-1)) rfl (by decide) ?_
        obtain ⟨M7, eM7, h⟩ := Option.bind_eq_some_iff.mp h
        refine K_wr rfl (st_s5 hS) hM6 eM7 (fun hM7 => ?_)
        refine K_aload_n rfl 1 rfl ?_
        refine K_gR rfl (st_s0 hS) hM7 rfl rfl 8 rfl (st_r8 hS) ?_
        refine K_iload rfl 0 rfl ?_
        refine K_aload_n rfl 1 rfl ?_
        refine K_gI rfl (st_s0 hS) hM7 rfl rfl 0 rfl ?_
        obtain ⟨M8, eM8, h⟩ := Option.bind_eq_some_iff.mp h
        refine K_wr rfl (st_s6 hS) hM7 eM8 (fun hM8 => ?_)
        refine K_aload_n rfl 1 rfl ?_
        refine K_gR rfl (st_s0 hS) hM8 rfl rfl 9 rfl (st_r9 hS) ?_
        refine K_iload rfl 0 rfl ?_
        refine K_iconst (v := 0) rfl (by decide) ?_
        obtain ⟨M9, eM9, h⟩ := Option.bind_eq_some_iff.mp h
        refine K_wr rfl (st_s7 hS) hM8 eM9 (fun hM9 => ?_)
        refine K_aload_n rfl 1 rfl ?_
        refine K_gR rfl (st_s0 hS) hM9 rfl rfl 10 rfl (st_r10 hS) ?_
        refine K_iload rfl 0 rfl ?_
        refine K_iload_n rfl 2 rfl ?_
        obtain ⟨M10, eM10, h⟩ := Option.bind_eq_some_iff.mp h
        refine K_wr rfl (st_s8 hS) hM9 eM10 (fun hM10 => ?_)
        refine K_aload_n rfl 1 rfl ?_
        refine K_gR rfl (st_s0 hS) hM10 rfl rfl 11 rfl (st_r11 hS) ?_
        refine K_iload rfl 0 rfl ?_
        refine K_iload_n rfl 3 rfl ?_
        obtain ⟨M11, eM11, h⟩ := Option.bind_eq_some_iff.mp h
        refine K_wr rfl (st_s9 hS) hM10 eM11 (fun hM11 => ?_)
        refine K_aload_n rfl 1 rfl ?_
        refine K_iload rfl 0 rfl ?_
        refine K_iconst (v := 1) rfl (by decide) ?_
        refine K_iadd rfl ?_
        obtain ⟨M12, eM12, h⟩ := Option.bind_eq_some_iff.mp h
        refine K_pI rfl (st_s0 hS) hM11 rfl rfl 1 rfl eM12 (fun hM12 => ?_)
        obtain rfl := Option.some.inj h
        exact K_vret rfl rfl ⟨rfl, rfl, hM12⟩
      · rw [if_neg c2] at h
        obtain rfl := Option.some.inj h
        exact K_vret rfl rfl ⟨rfl, rfl, hM⟩
set_option maxRecDepth 20000 in
theorem L_State_startOf_17 {X : mX} {S : Nat} {x1 : Nat} {r : mM} (hS : is_st S) (hx1 : is_yd x1) : ∀ (n : Nat) (l2 : Int32) (M : mM), Fx M → f_State_startOf_17 S x1  n l2 M = some r → KK X 1 48 17 [(0, .ref S), (1, .ref x1), (2, .int l2)] [] M (fun v M' => v = none ∧ r = M' ∧ Fx r)
  | 0, _, _ => fun _ h => by cases h
  | n + 1, l2, M => fun hM h => by
    unfold f_State_startOf_17 at h
    refine K_iload_n rfl 2 rfl ?_
    refine K_aload_n rfl 1 rfl ?_
    refine K_gI rfl (yd_s0 hx1) hM rfl rfl 2 rfl ?_
    refine K_ic_ge rfl (fun c4 => ?_) (fun c4 => ?_)
    · rw [if_pos c4] at h
      obtain rfl := Option.some.inj h
      exact K_vret rfl rfl ⟨rfl, rfl, hM⟩
    · rw [if_neg c4] at h
      refine K_iload_n rfl 2 rfl ?_
      refine K_bipush (v := 10) rfl (by decide) ?_
      refine K_ic_ge rfl (fun c5 => ?_) (fun c5 => ?_)
      · rw [if_pos c5] at h
        obtain rfl := Option.some.inj h
        exact K_vret rfl rfl ⟨rfl, rfl, hM⟩
      · rw [if_neg c5] at h
        refine K_aload_n rfl 0 rfl ?_
        refine K_aload_n rfl 1 rfl ?_
        refine K_gR rfl (yd_s0 hx1) hM rfl rfl 3 rfl (yd_r3 hx1) ?_
        refine K_iload_n rfl 2 rfl ?_
        obtain ⟨v6, ev6, h⟩ := Option.bind_eq_some_iff.mp h
        refine K_rd rfl (yd_s1 hx1) hM ev6 ?_
        refine K_aload_n rfl 1 rfl ?_
        refine K_gR rfl (yd_s0 hx1) hM rfl rfl 4 rfl (yd_r4 hx1) ?_
        refine K_iload_n rfl 2 rfl ?_
        obtain ⟨v7, ev7, h⟩ := Option.bind_eq_some_iff.mp h
        refine K_rd rfl (yd_s2 hx1) hM ev7 ?_
        refine K_aload_n rfl 1 rfl ?_
        refine K_gR rfl (yd_s0 hx1) hM rfl rfl 5 rfl (yd_r5 hx1) ?_
        refine K_iload_n rfl 2 rfl ?_
        obtain ⟨v8, ev8, h⟩ := Option.bind_eq_some_iff.mp h
        refine K_rd rfl (yd_s3 hx1) hM ev8 ?_
        obtain ⟨M9, eM9, h⟩ := Option.bind_eq_some_iff.mp h
        refine K_cV [.int v6, .int v7, .int v8] [] rfl rfl (Nat.le_of_ble_eq_true rfl) (Nat.le_of_ble_eq_true rfl) (st_s0 hS) hM rfl (EV_le (Nat.le_of_ble_eq_true rfl) (F_State_add hM hS eM9)) (fun v' M' hq => ?_)
        obtain ⟨rfl, rfl, hM9⟩ := hq
        refine K_iinc (y := (l2 + 1)) rfl 2 rfl rfl ?_
        refine K_goto rfl ?_
        refine K_pick [1, 2, 0] ?_
        exact L_State_startOf_17 hS hx1   n _ _ hM9  h
set_option maxRecDepth 20000 in
theorem F_State_startOf {X : mX} {S : Nat} {x1 : Nat} {M : mM} {r : mM} (hM : Fx M) (hS : is_st S) (hx1 : is_yd x1) (h : f_State_startOf S x1 M = some r) : EV X (1 + 1) 48 [.ref S, .ref x1] M (fun v M' => v = none ∧ r = M' ∧ Fx r) := by
    refine EV_of (lc := [(0, .ref S), (1, .ref x1)]) (Nat.le_of_ble_eq_true rfl) (by exact Nat.le_of_ble_eq_true rfl) (by exact List.forall_mem_cons.mpr ⟨rfl, List.forall_mem_cons.mpr ⟨rfl, fun _ h => absurd h List.not_mem_nil⟩⟩) ?_
    unfold f_State_startOf at h
    refine K_aload_n rfl 0 rfl ?_
    refine K_iconst (v := 0) rfl (by decide) ?_
    obtain ⟨M1, eM1, h⟩ := Option.bind_eq_some_iff.mp h
    refine K_pI rfl (st_s0 hS) hM rfl rfl 0 rfl eM1 (fun hM1 => ?_)
    refine K_aload_n rfl 0 rfl ?_
    refine K_iconst (v := 0) rfl (by decide) ?_
    obtain ⟨M2, eM2, h⟩ := Option.bind_eq_some_iff.mp h
    refine K_pI rfl (st_s0 hS) hM1 rfl rfl 1 rfl eM2 (fun hM2 => ?_)
    refine K_aload_n rfl 0 rfl ?_
    refine K_iconst (v := 0) rfl (by decide) ?_
    obtain ⟨M3, eM3, h⟩ := Option.bind_eq_some_iff.mp h
    refine K_pI rfl (st_s0 hS) hM2 rfl rfl 2 rfl eM3 (fun hM3 => ?_)
    refine K_iconst (v := 0) rfl (by decide) ?_
    refine K_istore_n rfl ?_
    refine K_pick [1, 2, 0] ?_
    exact L_State_startOf_17 hS hx1   FUEL _ _ hM3  h
set_option maxRecDepth 20000 in
theorem F_GraveRails_yard {X : mX}  {M : mM} {r : Int32 × mM} (hM : Fx M)  (h : f_GraveRails_yard  M = some r) : EV X (8 + 1) 15 [.ref 0] M (fun v M' => v = some (.int r.1) ∧ r.2 = M' ∧ Fx r.2) := by
    refine EV_of (lc := [(0, .ref 0)]) (Nat.le_of_ble_eq_true rfl) (by exact Nat.le_of_ble_eq_true rfl) (by exact List.forall_mem_cons.mpr ⟨rfl, fun _ h => absurd h List.not_mem_nil⟩) ?_
    unfold f_GraveRails_yard at h
    refine K_aload_n rfl 0 rfl ?_
    refine K_gR rfl sh_0 hM rfl rfl 1 rfl r_0_1 ?_
    obtain ⟨r1, er1, h⟩ := Option.bind_eq_some_iff.mp h
    refine K_cV [] [] rfl rfl (Nat.le_of_ble_eq_true rfl) (Nat.le_of_ble_eq_true rfl) sh_3 hM rfl (EV_le (Nat.le_of_ble_eq_true rfl) (F_YardReader_readYard hM  er1)) (fun v' M' hq => ?_)
    obtain ⟨rfl, rfl, hr1⟩ := hq
    refine K_istore_n rfl ?_
    refine K_aload_n rfl 1 rfl ?_
    refine K_gR rfl sh_0 hr1 rfl rfl 0 rfl r_0_0 ?_
    refine K_iconst (v := 0) rfl (by decide) ?_
    obtain ⟨M2, eM2, h⟩ := Option.bind_eq_some_iff.mp h
    refine K_pI rfl sh_1 hr1 rfl rfl 1 rfl eM2 (fun hM2 => ?_)
    refine K_iload_n rfl 0 rfl ?_
    refine K_if_eq rfl (fun c3 => ?_) (fun c3 => ?_)
    · rw [if_pos c3] at h
      refine K_aload_n rfl 1 rfl ?_
      refine K_gR rfl sh_0 hM2 rfl rfl 5 rfl r_0_5 ?_
      refine K_gR rfl sh_20 hM2 rfl rfl 0 rfl r_20_0 ?_
      refine K_aload_n rfl 1 rfl ?_
      refine K_gR rfl sh_0 hM2 rfl rfl 1 rfl r_0_1 ?_
      refine K_gR rfl sh_3 hM2 rfl rfl 0 rfl r_3_0 ?_
      obtain ⟨M4, eM4, h⟩ := Option.bind_eq_some_iff.mp h
      refine K_cV [.ref 4] [] rfl rfl (Nat.le_of_ble_eq_true rfl) (Nat.le_of_ble_eq_true rfl) sh_21 hM2 rfl (EV_le (Nat.le_of_ble_eq_true rfl) (F_Yard_copyFrom hM2 yd_21 yd_4 eM4)) (fun v' M' hq => ?_)
      obtain ⟨rfl, rfl, hM4⟩ := hq
      refine K_aload_n rfl 1 rfl ?_
      refine K_gR rfl sh_0 hM4 rfl rfl 5 rfl r_0_5 ?_
      refine K_gR rfl sh_20 hM4 rfl rfl 1 rfl r_20_1 ?_
      refine K_aload_n rfl 1 rfl ?_
      refine K_gR rfl sh_0 hM4 rfl rfl 5 rfl r_0_5 ?_
      refine K_gR rfl sh_20 hM4 rfl rfl 0 rfl r_20_0 ?_
      obtain ⟨M5, eM5, h⟩ := Option.bind_eq_some_iff.mp h
      refine K_cV [.ref 21] [] rfl rfl (Nat.le_of_ble_eq_true rfl) (Nat.le_of_ble_eq_true rfl) sh_29 hM4 rfl (EV_le (Nat.le_of_ble_eq_true rfl) (F_State_startOf hM4 st_29 yd_21 eM5)) (fun v' M' hq => ?_)
      obtain ⟨rfl, rfl, hM5⟩ := hq
      refine K_aload_n rfl 1 rfl ?_
      refine K_gR rfl sh_0 hM5 rfl rfl 5 rfl r_0_5 ?_
      refine K_gR rfl sh_20 hM5 rfl rfl 2 rfl r_20_2 ?_
      refine K_iconst (v := 0) rfl (by decide) ?_
      obtain ⟨M6, eM6, h⟩ := Option.bind_eq_some_iff.mp h
      refine K_pI rfl sh_39 hM5 rfl rfl 0 rfl eM6 (fun hM6 => ?_)
      refine K_aload_n rfl 1 rfl ?_
      refine K_gR rfl sh_0 hM6 rfl rfl 7 rfl r_0_7 ?_
      refine K_iconst (v := 0) rfl (by decide) ?_
      obtain ⟨M7, eM7, h⟩ := Option.bind_eq_some_iff.mp h
      refine K_pI rfl sh_44 hM6 rfl rfl 0 rfl eM7 (fun hM7 => ?_)
      refine K_aload_n rfl 1 rfl ?_
      refine K_gR rfl sh_0 hM7 rfl rfl 9 rfl r_0_9 ?_
      refine K_iconst (v := 0) rfl (by decide) ?_
      obtain ⟨M8, eM8, h⟩ := Option.bind_eq_some_iff.mp h
      refine K_pZ rfl sh_269 hM7 rfl rfl 0 rfl eM8 (fun hM8 => ?_)
      refine K_aload_n rfl 1 rfl ?_
      refine K_gR rfl sh_0 hM8 rfl rfl 5 rfl r_0_5 ?_
      refine K_gR rfl sh_20 hM8 rfl rfl 0 rfl r_20_0 ?_
      refine K_gI rfl sh_21 hM8 rfl rfl 2 rfl ?_
      obtain rfl := Option.some.inj h
      exact K_iret rfl (Or.inl rfl) ⟨rfl, rfl, hM8⟩
    · rw [if_neg c3] at h
      refine K_bipush (v := (-2)) rfl (by decide) ?_
      refine K_iload_n rfl 0 rfl ?_
      refine K_isub rfl ?_
      obtain rfl := Option.some.inj h
      exact K_iret rfl (Or.inl rfl) ⟨rfl, rfl, hM2⟩
set_option maxRecDepth 20000 in
theorem F_Rule_clear {X : mX} {S : Nat} {M : mM} {r : mM} (hM : Fx M) (hS : is_ru S) (h : f_Rule_clear S M = some r) : EV X (0 + 1) 52 [.ref S] M (fun v M' => v = none ∧ r = M' ∧ Fx r) := by
    refine EV_of (lc := [(0, .ref S)]) (Nat.le_of_ble_eq_true rfl) (by exact Nat.le_of_ble_eq_true rfl) (by exact List.forall_mem_cons.mpr ⟨rfl, fun _ h => absurd h List.not_mem_nil⟩) ?_
    unfold f_Rule_clear at h
    refine K_aload_n rfl 0 rfl ?_
    refine K_iconst (v := 0) rfl (by decide) ?_
    obtain ⟨M1, eM1, h⟩ := Option.bind_eq_some_iff.mp h
    refine K_pI rfl (ru_s0 hS) hM rfl rfl 1 rfl eM1 (fun hM1 => ?_)
    refine K_aload_n rfl 0 rfl ?_
    refine K_iconst (v := 0) rfl (by decide) ?_
    obtain ⟨M2, eM2, h⟩ := Option.bind_eq_some_iff.mp h
    refine K_pI rfl (ru_s0 hS) hM1 rfl rfl 5 rfl eM2 (fun hM2 => ?_)
    obtain rfl := Option.some.inj h
    exact K_vret rfl rfl ⟨rfl, rfl, hM2⟩
set_option maxRecDepth 20000 in
theorem F_Rule_openClause {X : mX} {S : Nat} {M : mM} {r : mM} (hM : Fx M) (hS : is_ru S) (h : f_Rule_openClause S M = some r) : EV X (0 + 1) 53 [.ref S] M (fun v M' => v = none ∧ r = M' ∧ Fx r) := by
    refine EV_of (lc := [(0, .ref S)]) (Nat.le_of_ble_eq_true rfl) (by exact Nat.le_of_ble_eq_true rfl) (by exact List.forall_mem_cons.mpr ⟨rfl, fun _ h => absurd h List.not_mem_nil⟩) ?_
    unfold f_Rule_openClause at h
    refine K_aload_n rfl 0 rfl ?_
    refine K_gI rfl (ru_s0 hS) hM rfl rfl 5 rfl ?_
    refine K_if_lt rfl (fun c1 => ?_) (fun c1 => ?_)
    · rw [if_pos c1] at h
      obtain rfl := Option.some.inj h
      exact K_vret rfl rfl ⟨rfl, rfl, hM⟩
    · rw [if_neg c1] at h
      refine K_aload_n rfl 0 rfl ?_
      refine K_gI rfl (ru_s0 hS) hM rfl rfl 5 rfl ?_
      refine K_aload_n rfl 0 rfl ?_
      refine K_gR rfl (ru_s0 hS) hM rfl rfl 2 rfl (ru_r2 hS) ?_
      refine K_aln (v := 12) rfl (ru_s2 hS) hM (by decide) (by decide) ?_
      refine K_ic_ge rfl (fun c2 => ?_) (fun c2 => ?_)
      · rw [if_pos c2] at h
        obtain rfl := Option.some.inj h
        exact K_vret rfl rfl ⟨rfl, rfl, hM⟩
      · rw [if_neg c2] at h
        refine K_aload_n rfl 0 rfl ?_
        refine K_gR rfl (ru_s0 hS) hM rfl rfl 2 rfl (ru_r2 hS) ?_
        refine K_aload_n rfl 0 rfl ?_
        refine K_gI rfl (ru_s0 hS) hM rfl rfl 5 rfl ?_
        refine K_aload_n rfl 0 rfl ?_
        refine K_gI rfl (ru_s0 hS) hM rfl rfl 1 rfl ?_
        obtain ⟨M3, eM3, h⟩ := Option.bind_eq_some_iff.mp h
        refine K_wr rfl (ru_s2 hS) hM eM3 (fun hM3 => ?_)
        obtain rfl := Option.some.inj h
        exact K_vret rfl rfl ⟨rfl, rfl, hM3⟩
set_option maxRecDepth 20000 in
theorem L_RuleReader_countOne_17 {X : mX}  {r : mM}   (M : mM) (hM : Fx M)  (h : f_RuleReader_countOne_17    M = some r) : KK X 1 56 17 [(0, .ref 12)] [] M (fun v M' => v = none ∧ r = M' ∧ Fx r) := by
    unfold f_RuleReader_countOne_17 at h
    refine K_aload_n rfl 0 rfl ?_
    refine K_dup rfl rfl ?_
    refine K_gI rfl sh_12 hM rfl rfl 2 rfl ?_
    refine K_iconst (v := 1) rfl (by decide) ?_
    refine K_iadd rfl ?_
    obtain ⟨M2, eM2, h⟩ := Option.bind_eq_some_iff.mp h
    refine K_pI rfl sh_12 hM rfl rfl 2 rfl eM2 (fun hM2 => ?_)
    obtain rfl := Option.some.inj h
    exact K_vret rfl rfl ⟨rfl, rfl, hM2⟩
set_option maxRecDepth 20000 in
theorem F_RuleReader_countOne {X : mX}  {M : mM} {r : mM} (hM : Fx M)  (h : f_RuleReader_countOne  M = some r) : EV X (1 + 1) 56 [.ref 12] M (fun v M' => v = none ∧ r = M' ∧ Fx r) := by
    refine EV_of (lc := [(0, .ref 12)]) (Nat.le_of_ble_eq_true rfl) (by exact Nat.le_of_ble_eq_true rfl) (by exact List.forall_mem_cons.mpr ⟨rfl, fun _ h => absurd h List.not_mem_nil⟩) ?_
    unfold f_RuleReader_countOne at h
    refine K_aload_n rfl 0 rfl ?_
    refine K_gI rfl sh_12 hM rfl rfl 2 rfl ?_
    refine K_bipush (v := 60) rfl (by decide) ?_
    refine K_ic_lt rfl (fun c1 => ?_) (fun c1 => ?_)
    · rw [if_pos c1] at h
      refine K_pick [0] ?_
      exact L_RuleReader_countOne_17     _ hM  h
    · rw [if_neg c1] at h
      refine K_aload_n rfl 0 rfl ?_
      refine K_gR rfl sh_12 hM rfl rfl 0 rfl r_12_0 ?_
      refine K_iconst (v := 3) rfl (by decide) ?_
      obtain ⟨M3, eM3, h⟩ := Option.bind_eq_some_iff.mp h
      refine K_cV [.int 3] [] rfl rfl (Nat.le_of_ble_eq_true rfl) (Nat.le_of_ble_eq_true rfl) sh_1 hM rfl (EV_le (Nat.le_of_ble_eq_true rfl) (F_Text_refuse hM  eM3)) (fun v' M' hq => ?_)
      obtain ⟨rfl, rfl, hM3⟩ := hq
      refine K_pick [0] ?_
      exact L_RuleReader_countOne_17     _ hM3  h
set_option maxRecDepth 20000 in
theorem F_Rule_emit {X : mX} {S : Nat} {x1 : Int32} {M : mM} {r : mM} (hM : Fx M) (hS : is_ru S) (h : f_Rule_emit S x1 M = some r) : EV X (0 + 1) 57 [.ref S, .int x1] M (fun v M' => v = none ∧ r = M' ∧ Fx r) := by
    refine EV_of (lc := [(0, .ref S), (1, .int x1)]) (Nat.le_of_ble_eq_true rfl) (by exact Nat.le_of_ble_eq_true rfl) (by exact List.forall_mem_cons.mpr ⟨rfl, List.forall_mem_cons.mpr ⟨rfl, fun _ h => absurd h List.not_mem_nil⟩⟩) ?_
    unfold f_Rule_emit at h
    refine K_aload_n rfl 0 rfl ?_
    refine K_gI rfl (ru_s0 hS) hM rfl rfl 1 rfl ?_
    refine K_if_lt rfl (fun c1 => ?_) (fun c1 => ?_)
    · rw [if_pos c1] at h
      obtain rfl := Option.some.inj h
      exact K_vret rfl rfl ⟨rfl, rfl, hM⟩
    · rw [if_neg c1] at h
      refine K_aload_n rfl 0 rfl ?_
      refine K_gI rfl (ru_s0 hS) hM rfl rfl 1 rfl ?_
      refine K_aload_n rfl 0 rfl ?_
      refine K_gR rfl (ru_s0 hS) hM rfl rfl 0 rfl (ru_r0 hS) ?_
      refine K_aln (v := 400) rfl (ru_s1 hS) hM (by decide) (by decide) ?_
      refine K_ic_ge rfl (fun c2 => ?_) (fun c2 => ?_)
      · rw [if_pos c2] at h
        obtain rfl := Option.some.inj h
        exact K_vret rfl rfl ⟨rfl, rfl, hM⟩
      · rw [if_neg c2] at h
        refine K_aload_n rfl 0 rfl ?_
        refine K_gR rfl (ru_s0 hS) hM rfl rfl 0 rfl (ru_r0 hS) ?_
        refine K_aload_n rfl 0 rfl ?_
        refine K_gI rfl (ru_s0 hS) hM rfl rfl 1 rfl ?_
        refine K_iload_n rfl 1 rfl ?_
        obtain ⟨M3, eM3, h⟩ := Option.bind_eq_some_iff.mp h
        refine K_wr rfl (ru_s1 hS) hM eM3 (fun hM3 => ?_)
        refine K_aload_n rfl 0 rfl ?_
        refine K_dup rfl rfl ?_
        refine K_gI rfl (ru_s0 hS) hM3 rfl rfl 1 rfl ?_
        refine K_iconst (v := 1) rfl (by decide) ?_
        refine K_iadd rfl ?_
        obtain ⟨M4, eM4, h⟩ := Option.bind_eq_some_iff.mp h
        refine K_pI rfl (ru_s0 hS) hM3 rfl rfl 1 rfl eM4 (fun hM4 => ?_)
        obtain rfl := Option.some.inj h
        exact K_vret rfl rfl ⟨rfl, rfl, hM4⟩
set_option maxRecDepth 20000 in
theorem L_RuleReader_readValue_52 {X : mX}  {r : mM}  (l1 : Int32) (M : mM) (hM : Fx M)  (h : f_RuleReader_readValue_52   l1 M = some r) : KK X 5 55 52 [(0, .ref 12), (1, .int l1)] [] M (fun v M' => v = none ∧ r = M' ∧ Fx r) := by
    unfold f_RuleReader_readValue_52 at h
    refine K_aload_n rfl 0 rfl ?_
    obtain ⟨M4, eM4, h⟩ := Option.bind_eq_some_iff.mp h
    refine K_cV [] [] rfl rfl (Nat.le_of_ble_eq_true rfl) (Nat.le_of_ble_eq_true rfl) sh_12 hM rfl (EV_le (Nat.le_of_ble_eq_true rfl) (F_RuleReader_countOne hM  eM4)) (fun v' M' hq => ?_)
    obtain ⟨rfl, rfl, hM4⟩ := hq
    refine K_aload_n rfl 0 rfl ?_
    refine K_gR rfl sh_12 hM4 rfl rfl 0 rfl r_12_0 ?_
    obtain ⟨M5, eM5, h⟩ := Option.bind_eq_some_iff.mp h
    refine K_cV [] [] rfl rfl (Nat.le_of_ble_eq_true rfl) (Nat.le_of_ble_eq_true rfl) sh_1 hM4 rfl (EV_le (Nat.le_of_ble_eq_true rfl) (F_Text_advance hM4  eM5)) (fun v' M' hq => ?_)
    obtain ⟨rfl, rfl, hM5⟩ := hq
    refine K_aload_n rfl 0 rfl ?_
    obtain ⟨y6, ey6, h⟩ := Option.bind_eq_some_iff.mp h
    refine K_gN rfl sh_12 hM5 rfl rfl 1 rfl ey6 ?_
    refine K_iload_n rfl 1 rfl ?_
    obtain ⟨M7, eM7, h⟩ := Option.bind_eq_some_iff.mp h
    refine K_cV [.int l1] [] rfl rfl (Nat.le_of_ble_eq_true rfl) (Nat.le_of_ble_eq_true rfl) (ru_s0 (nnl_i ey6).2) hM5 rfl (EV_le (Nat.le_of_ble_eq_true rfl) (F_Rule_emit hM5 (nnl_i ey6).2 eM7)) (fun v' M' hq => ?_)
    obtain ⟨rfl, rfl, hM7⟩ := hq
    obtain rfl := Option.some.inj h
    exact K_vret rfl rfl ⟨rfl, rfl, hM7⟩
set_option maxRecDepth 20000 in
theorem F_RuleReader_readValue {X : mX}  {M : mM} {r : mM} (hM : Fx M)  (h : f_RuleReader_readValue  M = some r) : EV X (5 + 1) 55 [.ref 12] M (fun v M' => v = none ∧ r = M' ∧ Fx r) := by
    refine EV_of (lc := [(0, .ref 12)]) (Nat.le_of_ble_eq_true rfl) (by exact Nat.le_of_ble_eq_true rfl) (by exact List.forall_mem_cons.mpr ⟨rfl, fun _ h => absurd h List.not_mem_nil⟩) ?_
    unfold f_RuleReader_readValue at h
    refine K_aload_n rfl 0 rfl ?_
    refine K_gR rfl sh_12 hM rfl rfl 0 rfl r_12_0 ?_
    refine K_gI rfl sh_1 hM rfl rfl 4 rfl ?_
    refine K_iconst (v := 1) rfl (by decide) ?_
    refine K_ic_ne rfl (fun c1 => ?_) (fun c1 => ?_)
    · rw [if_neg c1] at h
      refine K_aload_n rfl 0 rfl ?_
      refine K_gR rfl sh_12 hM rfl rfl 0 rfl r_12_0 ?_
      refine K_ldcs rfl (by decide) ?_
      obtain ⟨r2, er2, h⟩ := Option.bind_eq_some_iff.mp h
      refine K_cV [.ref (mstr + 3)] [] rfl rfl (Nat.le_of_ble_eq_true rfl) (Nat.le_of_ble_eq_true rfl) sh_1 hM rfl (EV_le (Nat.le_of_ble_eq_true rfl) (F_Text_wordAmong hM (by decide) er2)) (fun v' M' hq => ?_)
      obtain ⟨rfl, rfl, hr2⟩ := hq
      refine K_istore_n rfl ?_
      refine K_iload_n rfl 0 rfl ?_
      refine K_iconst (v := (-1)) rfl (by decide) ?_
      refine K_ic_ne rfl (fun c3 => ?_) (fun c3 => ?_)
      · rw [if_neg c3] at h
        refine K_pick [1, 0] ?_
        exact L_RuleReader_readValue_52    _ _ hr2  h
      · rw [if_pos c3] at h
        refine K_aload_n rfl 1 rfl ?_
        refine K_gR rfl sh_12 hr2 rfl rfl 0 rfl r_12_0 ?_
        refine K_iconst (v := 0) rfl (by decide) ?_
        obtain ⟨M8, eM8, h⟩ := Option.bind_eq_some_iff.mp h
        refine K_cV [.int 0] [] rfl rfl (Nat.le_of_ble_eq_true rfl) (Nat.le_of_ble_eq_true rfl) sh_1 hr2 rfl (EV_le (Nat.le_of_ble_eq_true rfl) (F_Text_refuse hr2  eM8)) (fun v' M' hq => ?_)
        obtain ⟨rfl, rfl, hM8⟩ := hq
        refine K_pick [1, 0] ?_
        exact L_RuleReader_readValue_52    _ _ hM8  h
    · rw [if_pos c1] at h
      refine K_sipush (v := 1000) rfl (by decide) ?_
      refine K_aload_n rfl 0 rfl ?_
      refine K_gR rfl sh_12 hM rfl rfl 0 rfl r_12_0 ?_
      refine K_iconst (v := 0) rfl (by decide) ?_
      refine K_ldc (v := 99999) rfl (by decide) (by decide) ?_
      obtain ⟨r9, er9, h⟩ := Option.bind_eq_some_iff.mp h
      refine K_cV [.int 0, .int 99999] [.int 1000] rfl rfl (Nat.le_of_ble_eq_true rfl) (Nat.le_of_ble_eq_true rfl) sh_1 hM rfl (EV_le (Nat.le_of_ble_eq_true rfl) (F_Text_numberFrom hM  er9)) (fun v' M' hq => ?_)
      obtain ⟨rfl, rfl, hr9⟩ := hq
      refine K_iadd rfl ?_
      refine K_istore_n rfl ?_
      refine K_goto rfl ?_
      refine K_pick [1, 0] ?_
      exact L_RuleReader_readValue_52    _ _ hr9  h
