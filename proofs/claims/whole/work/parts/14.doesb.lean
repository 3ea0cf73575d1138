/-! ===== the small machine does what the printed functions say ===== -/
set_option maxRecDepth 20000 in
theorem L_RuleReader_signAmong_22 {X : mX} {x1 : Int32} {x2 : Int32} {x3 : Int32} {x4 : Int32} {x5 : Int32} {r : Int32 × mM}  (s0 : Int32) (M : mM) (hM : Fx M)  (h : f_RuleReader_signAmong_22 x1 x2 x3 x4 x5  s0 M = some r) : KK X 0 58 22 [(1, .int x1), (2, .int x2), (3, .int x3), (4, .int x4), (5, .int x5)] [.int s0] M (fun v M' => v = some (.int r.1) ∧ r.2 = M' ∧ Fx r.2) := by
    unfold f_RuleReader_signAmong_22 at h
    refine K_istore rfl ?_
    refine K_iload rfl 0 rfl ?_
    refine K_iload_n rfl 1 rfl ?_
    refine K_ic_eq rfl (fun c2 => ?_) (fun c2 => ?_)
    · rw [if_pos c2] at h
      refine K_iload rfl 0 rfl ?_
      refine K_goto rfl ?_
      obtain rfl := Option.some.inj h
      exact K_iret rfl (Or.inl rfl) ⟨rfl, rfl, hM⟩
    · rw [if_neg c2] at h
      refine K_iload rfl 0 rfl ?_
      refine K_iload_n rfl 2 rfl ?_
      refine K_ic_eq rfl (fun c3 => ?_) (fun c3 => ?_)
      · rw [if_pos c3] at h
        refine K_iload rfl 0 rfl ?_
        refine K_goto rfl ?_
        obtain rfl := Option.some.inj h
        exact K_iret rfl (Or.inl rfl) ⟨rfl, rfl, hM⟩
      · rw [if_neg c3] at h
        refine K_iload rfl 0 rfl ?_
        refine K_iload_n rfl 3 rfl ?_
        refine K_ic_eq rfl (fun c4 => ?_) (fun c4 => ?_)
        · rw [if_pos c4] at h
          refine K_iload rfl 0 rfl ?_
          refine K_goto rfl ?_
          obtain rfl := Option.some.inj h
          exact K_iret rfl (Or.inl rfl) ⟨rfl, rfl, hM⟩
        · rw [if_neg c4] at h
          refine K_iload rfl 0 rfl ?_
          refine K_iload rfl 4 rfl ?_
          refine K_ic_eq rfl (fun c5 => ?_) (fun c5 => ?_)
          · rw [if_pos c5] at h
            refine K_iload rfl 0 rfl ?_
            refine K_goto rfl ?_
            obtain rfl := Option.some.inj h
            exact K_iret rfl (Or.inl rfl) ⟨rfl, rfl, hM⟩
          · rw [if_neg c5] at h
            refine K_iload rfl 0 rfl ?_
            refine K_iload rfl 5 rfl ?_
            refine K_ic_ne rfl (fun c6 => ?_) (fun c6 => ?_)
            · rw [if_neg c6] at h
              refine K_iconst (v := (-1)) rfl (by decide) ?_
              obtain rfl := Option.some.inj h
              exact K_iret rfl (Or.inl rfl) ⟨rfl, rfl, hM⟩
            · rw [if_pos c6] at h
              refine K_iload rfl 0 rfl ?_
              refine K_goto rfl ?_
              obtain rfl := Option.some.inj h
              exact K_iret rfl (Or.inl rfl) ⟨rfl, rfl, hM⟩
set_option maxRecDepth 20000 in
theorem F_RuleReader_signAmong {X : mX} {x1 : Int32} {x2 : Int32} {x3 : Int32} {x4 : Int32} {x5 : Int32} {M : mM} {r : Int32 × mM} (hM : Fx M)  (h : f_RuleReader_signAmong x1 x2 x3 x4 x5 M = some r) : EV X (0 + 1) 58 [.ref 12, .int x1, .int x2, .int x3, .int x4, .int x5] M (fun v M' => v = some (.int r.1) ∧ r.2 = M' ∧ Fx r.2) := by
    refine EV_of (lc := [(0, .ref 12), (1, .int x1), (2, .int x2), (3, .int x3), (4, .int x4), (5, .int x5)]) (Nat.le_of_ble_eq_true rfl) (by exact Nat.le_of_ble_eq_true rfl) (by exact List.forall_mem_cons.mpr ⟨rfl, List.forall_mem_cons.mpr ⟨rfl, List.forall_mem_cons.mpr ⟨rfl, List.forall_mem_cons.mpr ⟨rfl, List.forall_mem_cons.mpr ⟨rfl, List.forall_mem_cons.mpr ⟨rfl, fun _ h => absurd h List.not_mem_nil⟩⟩⟩⟩⟩⟩) ?_
    unfold f_RuleReader_signAmong at h
    refine K_aload_n rfl 0 rfl ?_
    refine K_gR rfl sh_12 hM rfl rfl 0 rfl r_12_0 ?_
    refine K_gI rfl sh_1 hM rfl rfl 4 rfl ?_
    refine K_iconst (v := 3) rfl (by decide) ?_
    refine K_ic_ne rfl (fun c1 => ?_) (fun c1 => ?_)
    · rw [if_neg c1] at h
      refine K_iconst (v := (-1)) rfl (by decide) ?_
      refine K_pick [1, 2, 3, 4, 5] ?_
      exact L_RuleReader_signAmong_22    _ _ hM  h
    · rw [if_pos c1] at h
      refine K_aload_n rfl 0 rfl ?_
      refine K_gR rfl sh_12 hM rfl rfl 0 rfl r_12_0 ?_
      refine K_gI rfl sh_1 hM rfl rfl 5 rfl ?_
      refine K_goto rfl ?_
      refine K_pick [1, 2, 3, 4, 5] ?_
      exact L_RuleReader_signAmong_22    _ _ hM  h
set_option maxRecDepth 20000 in
theorem L_RuleReader_readSum_108 {X : mX}  {k9 : Int32 → Int32 → Int32 → Int32 → mM → Option (mM)} {r : mM}  (hk9 : ∀ (l1 : Int32) (l2 : Int32) (l3 : Int32) (l4 : Int32) (M : mM), Fx M → k9 l1 l2 l3 l4 M = some r → KK X 6 54 9 [(0, .ref 12), (1, .int l1), (2, .int l2), (3, .int l3), (4, .int l4)] [] M (fun v M' => v = none ∧ r = M' ∧ Fx r)) (l1 : Int32) (l2 : Int32) (l3 : Int32) (l4 : Int32) (M : mM) (hM : Fx M)  (h : f_RuleReader_readSum_108  k9 l1 l2 l3 l4 M = some r) : KK X 6 54 108 [(0, .ref 12), (1, .int l1), (2, .int l2), (3, .int l3), (4, .int l4)] [] M (fun v M' => v = none ∧ r = M' ∧ Fx r) := by
    unfold f_RuleReader_readSum_108 at h
    refine K_iinc (y := (l4 + 1)) rfl 4 rfl rfl ?_
    refine K_goto rfl ?_
    refine K_pick [1, 2, 3, 4, 0] ?_
    exact hk9 _ _ _ _ _ hM  h
set_option maxRecDepth 20000 in
theorem L_RuleReader_readSum_96 {X : mX}  {k9 : Int32 → Int32 → Int32 → Int32 → mM → Option (mM)} {r : mM}  (hk9 : ∀ (l1 : Int32) (l2 : Int32) (l3 : Int32) (l4 : Int32) (M : mM), Fx M → k9 l1 l2 l3 l4 M = some r → KK X 6 54 9 [(0, .ref 12), (1, .int l1), (2, .int l2), (3, .int l3), (4, .int l4)] [] M (fun v M' => v = none ∧ r = M' ∧ Fx r)) (l1 : Int32) (l2 : Int32) (l4 : Int32) (s0 : Int32) (M : mM) (hM : Fx M)  (h : f_RuleReader_readSum_96  k9 l1 l2 l4 s0 M = some r) : KK X 6 54 96 [(0, .ref 12), (1, .int l1), (2, .int l2), (4, .int l4)] [.int s0] M (fun v M' => v = none ∧ r = M' ∧ Fx r) := by
    unfold f_RuleReader_readSum_96 at h
    refine K_istore_n rfl ?_
    refine K_iload_n rfl 0 rfl ?_
    refine K_if_eq rfl (fun c8 => ?_) (fun c8 => ?_)
    · rw [if_pos c8] at h
      refine K_pick [1, 2, 3, 0, 4] ?_
      exact L_RuleReader_readSum_108   hk9 _ _ _ _ _ hM  h
    · rw [if_neg c8] at h
      refine K_aload_n rfl 1 rfl ?_
      refine K_gR rfl sh_12 hM rfl rfl 0 rfl r_12_0 ?_
      obtain ⟨M9, eM9, h⟩ := Option.bind_eq_some_iff.mp h
      refine K_cV [] [] rfl rfl (Nat.le_of_ble_eq_true rfl) (Nat.le_of_ble_eq_true rfl) sh_1 hM rfl (EV_le (Nat.le_of_ble_eq_true rfl) (F_Text_advance hM  eM9)) (fun v' M' hq => ?_)
      obtain ⟨rfl, rfl, hM9⟩ := hq
      refine K_pick [1, 2, 3, 0, 4] ?_
      exact L_RuleReader_readSum_108   hk9 _ _ _ _ _ hM9  h
set_option maxRecDepth 20000 in
theorem L_RuleReader_readSum_91 {X : mX}  {k9 : Int32 → Int32 → Int32 → Int32 → mM → Option (mM)} {r : mM}  (hk9 : ∀ (l1 : Int32) (l2 : Int32) (l3 : Int32) (l4 : Int32) (M : mM), Fx M → k9 l1 l2 l3 l4 M = some r → KK X 6 54 9 [(0, .ref 12), (1, .int l1), (2, .int l2), (3, .int l3), (4, .int l4)] [] M (fun v M' => v = none ∧ r = M' ∧ Fx r)) (l1 : Int32) (l2 : Int32) (l4 : Int32) (M : mM) (hM : Fx M)  (h : f_RuleReader_readSum_91  k9 l1 l2 l4 M = some r) : KK X 6 54 91 [(0, .ref 12), (1, .int l1), (2, .int l2), (4, .int l4)] [] M (fun v M' => v = none ∧ r = M' ∧ Fx r) := by
    unfold f_RuleReader_readSum_91 at h
    refine K_iconst (v := 1) rfl (by decide) ?_
    refine K_goto rfl ?_
    refine K_pick [0, 1, 2, 3] ?_
    exact L_RuleReader_readSum_96   hk9 _ _ _ _ _ hM  h
set_option maxRecDepth 20000 in
theorem L_RuleReader_readSum_81 {X : mX}  {k9 : Int32 → Int32 → Int32 → Int32 → mM → Option (mM)} {r : mM}  (hk9 : ∀ (l1 : Int32) (l2 : Int32) (l3 : Int32) (l4 : Int32) (M : mM), Fx M → k9 l1 l2 l3 l4 M = some r → KK X 6 54 9 [(0, .ref 12), (1, .int l1), (2, .int l2), (3, .int l3), (4, .int l4)] [] M (fun v M' => v = none ∧ r = M' ∧ Fx r)) (l1 : Int32) (l2 : Int32) (l4 : Int32) (M : mM) (hM : Fx M)  (h : f_RuleReader_readSum_81  k9 l1 l2 l4 M = some r) : KK X 6 54 81 [(0, .ref 12), (1, .int l1), (2, .int l2), (4, .int l4)] [] M (fun v M' => v = none ∧ r = M' ∧ Fx r) := by
    unfold f_RuleReader_readSum_81 at h
    refine K_iload_n rfl 2 rfl ?_
    refine K_iconst (v := (-1)) rfl (by decide) ?_
    refine K_ic_ne rfl (fun c7 => ?_) (fun c7 => ?_)
    · rw [if_neg c7] at h
      refine K_pick [0, 1, 2, 3] ?_
      exact L_RuleReader_readSum_91   hk9 _ _ _ _ hM  h
    · rw [if_pos c7] at h
      refine K_iload_n rfl 1 rfl ?_
      refine K_iconst (v := (-1)) rfl (by decide) ?_
      refine K_ic_eq rfl (fun c10 => ?_) (fun c10 => ?_)
      · rw [if_pos c10] at h
        refine K_iconst (v := 0) rfl (by decide) ?_
        refine K_pick [0, 1, 2, 3] ?_
        exact L_RuleReader_readSum_96   hk9 _ _ _ _ _ hM  h
      · rw [if_neg c10] at h
        refine K_pick [0, 1, 2, 3] ?_
        exact L_RuleReader_readSum_91   hk9 _ _ _ _ hM  h
set_option maxRecDepth 20000 in
theorem L_RuleReader_readSum_69 {X : mX}  {k9 : Int32 → Int32 → Int32 → Int32 → mM → Option (mM)} {r : mM}  (hk9 : ∀ (l1 : Int32) (l2 : Int32) (l3 : Int32) (l4 : Int32) (M : mM), Fx M → k9 l1 l2 l3 l4 M = some r → KK X 6 54 9 [(0, .ref 12), (1, .int l1), (2, .int l2), (3, .int l3), (4, .int l4)] [] M (fun v M' => v = none ∧ r = M' ∧ Fx r)) (l2 : Int32) (l4 : Int32) (M : mM) (hM : Fx M)  (h : f_RuleReader_readSum_69  k9 l2 l4 M = some r) : KK X 6 54 69 [(0, .ref 12), (2, .int l2), (4, .int l4)] [] M (fun v M' => v = none ∧ r = M' ∧ Fx r) := by
    unfold f_RuleReader_readSum_69 at h
    refine K_aload_n rfl 0 rfl ?_
    refine K_bipush (v := 43) rfl (by decide) ?_
    refine K_bipush (v := 45) rfl (by decide) ?_
    refine K_iconst (v := (-1)) rfl (by decide) ?_
    refine K_iconst (v := (-1)) rfl (by decide) ?_
    refine K_iconst (v := (-1)) rfl (by decide) ?_
    obtain ⟨r12, er12, h⟩ := Option.bind_eq_some_iff.mp h
    refine K_cV [.int 43, .int 45, .int (-1), .int (-1), .int (-1)] [] rfl rfl (Nat.le_of_ble_eq_true rfl) (Nat.le_of_ble_eq_true rfl) sh_12 hM rfl (EV_le (Nat.le_of_ble_eq_true rfl) (F_RuleReader_signAmong hM  er12)) (fun v' M' hq => ?_)
    obtain ⟨rfl, rfl, hr12⟩ := hq
    refine K_istore_n rfl ?_
    refine K_pick [1, 0, 2, 3] ?_
    exact L_RuleReader_readSum_81   hk9 _ _ _ _ hr12  h
set_option maxRecDepth 20000 in
theorem L_RuleReader_readSum_38 {X : mX}  {k9 : Int32 → Int32 → Int32 → Int32 → mM → Option (mM)} {r : mM}  (hk9 : ∀ (l1 : Int32) (l2 : Int32) (l3 : Int32) (l4 : Int32) (M : mM), Fx M → k9 l1 l2 l3 l4 M = some r → KK X 6 54 9 [(0, .ref 12), (1, .int l1), (2, .int l2), (3, .int l3), (4, .int l4)] [] M (fun v M' => v = none ∧ r = M' ∧ Fx r)) (l1 : Int32) (l4 : Int32) (M : mM) (hM : Fx M)  (h : f_RuleReader_readSum_38  k9 l1 l4 M = some r) : KK X 6 54 38 [(0, .ref 12), (1, .int l1), (4, .int l4)] [] M (fun v M' => v = none ∧ r = M' ∧ Fx r) := by
    unfold f_RuleReader_readSum_38 at h
    refine K_aload_n rfl 0 rfl ?_
    refine K_bipush (v := 42) rfl (by decide) ?_
    refine K_bipush (v := 47) rfl (by decide) ?_
    refine K_bipush (v := 37) rfl (by decide) ?_
    refine K_iconst (v := (-1)) rfl (by decide) ?_
    refine K_iconst (v := (-1)) rfl (by decide) ?_
    obtain ⟨r5, er5, h⟩ := Option.bind_eq_some_iff.mp h
    refine K_cV [.int 42, .int 47, .int 37, .int (-1), .int (-1)] [] rfl rfl (Nat.le_of_ble_eq_true rfl) (Nat.le_of_ble_eq_true rfl) sh_12 hM rfl (EV_le (Nat.le_of_ble_eq_true rfl) (F_RuleReader_signAmong hM  er5)) (fun v' M' hq => ?_)
    obtain ⟨rfl, rfl, hr5⟩ := hq
    refine K_istore_n rfl ?_
    refine K_iload_n rfl 0 rfl ?_
    refine K_iconst (v := (-1)) rfl (by decide) ?_
    refine K_ic_ne rfl (fun c6 => ?_) (fun c6 => ?_)
    · rw [if_neg c6] at h
      refine K_pick [1, 2, 0, 3] ?_
      exact L_RuleReader_readSum_81   hk9 _ _ _ _ hr5  h
    · rw [if_pos c6] at h
      refine K_iload_n rfl 2 rfl ?_
      refine K_iconst (v := (-1)) rfl (by decide) ?_
      refine K_ic_eq rfl (fun c11 => ?_) (fun c11 => ?_)
      · rw [if_pos c11] at h
        refine K_pick [1, 0, 3] ?_
        exact L_RuleReader_readSum_69   hk9 _ _ _ hr5  h
      · rw [if_neg c11] at h
        refine K_aload_n rfl 1 rfl ?_
        obtain ⟨y13, ey13, h⟩ := Option.bind_eq_some_iff.mp h
        refine K_gN rfl sh_12 hr5 rfl rfl 1 rfl ey13 ?_
        refine K_iload_n rfl 2 rfl ?_
        obtain ⟨M14, eM14, h⟩ := Option.bind_eq_some_iff.mp h
        refine K_cV [.int l1] [] rfl rfl (Nat.le_of_ble_eq_true rfl) (Nat.le_of_ble_eq_true rfl) (ru_s0 (nnl_i ey13).2) hr5 rfl (EV_le (Nat.le_of_ble_eq_true rfl) (F_Rule_emit hr5 (nnl_i ey13).2 eM14)) (fun v' M' hq => ?_)
        obtain ⟨rfl, rfl, hM14⟩ := hq
        refine K_pick [1, 0, 3] ?_
        exact L_RuleReader_readSum_69   hk9 _ _ _ hM14  h
set_option maxRecDepth 20000 in
theorem L_RuleReader_readSum_9 {X : mX}  {r : mM}  : ∀ (n : Nat) (l1 : Int32) (l2 : Int32) (l3 : Int32) (l4 : Int32) (M : mM), Fx M → f_RuleReader_readSum_9   n l1 l2 l3 l4 M = some r → KK X 6 54 9 [(0, .ref 12), (1, .int l1), (2, .int l2), (3, .int l3), (4, .int l4)] [] M (fun v M' => v = none ∧ r = M' ∧ Fx r)
  | 0, _, _, _, _, _ => fun _ h => by cases h
  | n + 1, l1, l2, l3, l4, M => fun hM h => by
    unfold f_RuleReader_readSum_9 at h
    refine K_iload rfl 4 rfl ?_
    refine K_sipush (v := 400) rfl (by decide) ?_
    refine K_ic_ge rfl (fun c1 => ?_) (fun c1 => ?_)
    · rw [if_pos c1] at h
      obtain rfl := Option.some.inj h
      exact K_vret rfl rfl ⟨rfl, rfl, hM⟩
    · rw [if_neg c1] at h
      refine K_iload_n rfl 3 rfl ?_
      refine K_if_eq rfl (fun c2 => ?_) (fun c2 => ?_)
      · rw [if_pos c2] at h
        obtain rfl := Option.some.inj h
        exact K_vret rfl rfl ⟨rfl, rfl, hM⟩
      · rw [if_neg c2] at h
        refine K_aload_n rfl 0 rfl ?_
        obtain ⟨M3, eM3, h⟩ := Option.bind_eq_some_iff.mp h
        refine K_cV [] [] rfl rfl (Nat.le_of_ble_eq_true rfl) (Nat.le_of_ble_eq_true rfl) sh_12 hM rfl (EV_le (Nat.le_of_ble_eq_true rfl) (F_RuleReader_readValue hM  eM3)) (fun v' M' hq => ?_)
        obtain ⟨rfl, rfl, hM3⟩ := hq
        refine K_iload_n rfl 2 rfl ?_
        refine K_iconst (v := (-1)) rfl (by decide) ?_
        refine K_ic_eq rfl (fun c4 => ?_) (fun c4 => ?_)
        · rw [if_pos c4] at h
          refine K_pick [0, 1, 4] ?_
          exact L_RuleReader_readSum_38   (L_RuleReader_readSum_9    n) _ _ _ hM3  h
        · rw [if_neg c4] at h
          refine K_aload_n rfl 0 rfl ?_
          obtain ⟨y15, ey15, h⟩ := Option.bind_eq_some_iff.mp h
          refine K_gN rfl sh_12 hM3 rfl rfl 1 rfl ey15 ?_
          refine K_iload_n rfl 2 rfl ?_
          obtain ⟨M16, eM16, h⟩ := Option.bind_eq_some_iff.mp h
          refine K_cV [.int l2] [] rfl rfl (Nat.le_of_ble_eq_true rfl) (Nat.le_of_ble_eq_true rfl) (ru_s0 (nnl_i ey15).2) hM3 rfl (EV_le (Nat.le_of_ble_eq_true rfl) (F_Rule_emit hM3 (nnl_i ey15).2 eM16)) (fun v' M' hq => ?_)
          obtain ⟨rfl, rfl, hM16⟩ := hq
          refine K_pick [0, 1, 4] ?_
          exact L_RuleReader_readSum_38   (L_RuleReader_readSum_9    n) _ _ _ hM16  h
set_option maxRecDepth 20000 in
theorem F_RuleReader_readSum {X : mX}  {M : mM} {r : mM} (hM : Fx M)  (h : f_RuleReader_readSum  M = some r) : EV X (6 + 1) 54 [.ref 12] M (fun v M' => v = none ∧ r = M' ∧ Fx r) := by
    refine EV_of (lc := [(0, .ref 12)]) (Nat.le_of_ble_eq_true rfl) (by exact Nat.le_of_ble_eq_true rfl) (by exact List.forall_mem_cons.mpr ⟨rfl, fun _ h => absurd h List.not_mem_nil⟩) ?_
    unfold f_RuleReader_readSum at h
    refine K_iconst (v := (-1)) rfl (by decide) ?_
    refine K_istore_n rfl ?_
    refine K_iconst (v := (-1)) rfl (by decide) ?_
    refine K_istore_n rfl ?_
    refine K_iconst (v := 1) rfl (by decide) ?_
    refine K_istore_n rfl ?_
    refine K_iconst (v := 0) rfl (by decide) ?_
    refine K_istore rfl ?_
    refine K_pick [4, 3, 2, 1, 0] ?_
    exact L_RuleReader_readSum_9    FUEL _ _ _ _ _ hM  h
set_option maxRecDepth 20000 in
theorem F_Rule_openTest {X : mX} {S : Nat} {M : mM} {r : mM} (hM : Fx M) (hS : is_ru S) (h : f_Rule_openTest S M = some r) : EV X (0 + 1) 59 [.ref S] M (fun v M' => v = none ∧ r = M' ∧ Fx r) := by
    refine EV_of (lc := [(0, .ref S)]) (Nat.le_of_ble_eq_true rfl) (by exact Nat.le_of_ble_eq_true rfl) (by exact List.forall_mem_cons.mpr ⟨rfl, fun _ h => absurd h List.not_mem_nil⟩) ?_
    unfold f_Rule_openTest at h
    refine K_aload_n rfl 0 rfl ?_
    refine K_gI rfl (ru_s0 hS) hM rfl rfl 5 rfl ?_
    refine K_if_lt rfl (fun c1 => ?_) (fun c1 => ?_)
    · rw [if_pos c1] at h
      obtain rfl := Option.some.inj h
      exact K_vret rfl rfl ⟨rfl, rfl, hM⟩
    · rw [if_neg c1] at h
      refine K_aload_n rfl 0 rfl ?_
      refine K_gI rfl (ru_s0 hS) hM rfl rfl 5 rfl ?_
      refine K_aload_n rfl 0 rfl ?_
      refine K_gR rfl (ru_s0 hS) hM rfl rfl 3 rfl (ru_r3 hS) ?_
      refine K_aln (v := 12) rfl (ru_s3 hS) hM (by decide) (by decide) ?_
      refine K_ic_ge rfl (fun c2 => ?_) (fun c2 => ?_)
      · rw [if_pos c2] at h
        obtain rfl := Option.some.inj h
        exact K_vret rfl rfl ⟨rfl, rfl, hM⟩
      · rw [if_neg c2] at h
        refine K_aload_n rfl 0 rfl ?_
        refine K_gR rfl (ru_s0 hS) hM rfl rfl 3 rfl (ru_r3 hS) ?_
        refine K_aload_n rfl 0 rfl ?_
        refine K_gI rfl (ru_s0 hS) hM rfl rfl 5 rfl ?_
        refine K_aload_n rfl 0 rfl ?_
        refine K_gI rfl (ru_s0 hS) hM rfl rfl 1 rfl ?_
        obtain ⟨M3, eM3, h⟩ := Option.bind_eq_some_iff.mp h
        refine K_wr rfl (ru_s3 hS) hM eM3 (fun hM3 => ?_)
        obtain rfl := Option.some.inj h
        exact K_vret rfl rfl ⟨rfl, rfl, hM3⟩
set_option maxRecDepth 20000 in
theorem F_Text_takeWord {X : mX} {x1 : Nat} {M : mM} {r : Int32 × mM} (hM : Fx M) (hx1 : x1 < 8) (h : f_Text_takeWord x1 M = some r) : EV X (5 + 1) 60 [.ref 1, .ref (mstr + x1)] M (fun v M' => v = some (.int r.1) ∧ r.2 = M' ∧ Fx r.2) := by
    refine EV_of (lc := [(0, .ref 1), (1, .ref (mstr + x1))]) (Nat.le_of_ble_eq_true rfl) (by exact Nat.le_of_ble_eq_true rfl) (by exact List.forall_mem_cons.mpr ⟨rfl, List.forall_mem_cons.mpr ⟨rfl, fun _ h => absurd h List.not_mem_nil⟩⟩) ?_
    unfold f_Text_takeWord at h
    refine K_aload_n rfl 0 rfl ?_
    refine K_aload_n rfl 1 rfl ?_
    obtain ⟨r1, er1, h⟩ := Option.bind_eq_some_iff.mp h
    refine K_cV [.ref (mstr + x1)] [] rfl rfl (Nat.le_of_ble_eq_true rfl) (Nat.le_of_ble_eq_true rfl) sh_1 hM rfl (EV_le (Nat.le_of_ble_eq_true rfl) (F_Text_wordAmong hM hx1 er1)) (fun v' M' hq => ?_)
    obtain ⟨rfl, rfl, hr1⟩ := hq
    refine K_iconst (v := (-1)) rfl (by decide) ?_
    refine K_ic_ne rfl (fun c2 => ?_) (fun c2 => ?_)
    · rw [if_neg c2] at h
      refine K_aload_n rfl 0 rfl ?_
      obtain ⟨M3, eM3, h⟩ := Option.bind_eq_some_iff.mp h
      refine K_cV [] [] rfl rfl (Nat.le_of_ble_eq_true rfl) (Nat.le_of_ble_eq_true rfl) sh_1 hr1 rfl (EV_le (Nat.le_of_ble_eq_true rfl) (F_Text_advance hr1  eM3)) (fun v' M' hq => ?_)
      obtain ⟨rfl, rfl, hM3⟩ := hq
      refine K_iconst (v := 1) rfl (by decide) ?_
      obtain rfl := Option.some.inj h
      exact K_iret rfl (Or.inr ⟨rfl, by decide⟩) ⟨rfl, rfl, hM3⟩
    · rw [if_pos c2] at h
      refine K_iconst (v := 0) rfl (by decide) ?_
      obtain rfl := Option.some.inj h
      exact K_iret rfl (Or.inr ⟨rfl, by decide⟩) ⟨rfl, rfl, hr1⟩
set_option maxRecDepth 20000 in
theorem L_RuleReader_readFact_170 {X : mX} {g_RuleReader_readTest : Int32 → mM → Option mM} {g_RuleReader_readFact : Int32 → mM → Option mM} {x1 : Int32} {r : mM}  {d : Nat} (hd : 8 ≤ d) (hg61 : ∀ (x : Int32) (M r : mM), Fx M → g_RuleReader_readTest x M = some r → EV X d 61 [.ref 12, .int x] M (fun v M' => v = none ∧ r = M' ∧ Fx r)) (hg62 : ∀ (x : Int32) (M r : mM), Fx M → g_RuleReader_readFact x M = some r → EV X d 62 [.ref 12, .int x] M (fun v M' => v = none ∧ r = M' ∧ Fx r)) (l4 : Int32) (M : mM) (hM : Fx M)  (h : f_RuleReader_readFact_170 g_RuleReader_readTest g_RuleReader_readFact x1  l4 M = some r) : KK X d 62 170 [(0, .ref 12), (4, .int l4)] [] M (fun v M' => v = none ∧ r = M' ∧ Fx r) := by
    unfold f_RuleReader_readFact_170 at h
    refine K_aload_n rfl 0 rfl ?_
    obtain ⟨M10, eM10, h⟩ := Option.bind_eq_some_iff.mp h
    refine K_cV [] [] rfl rfl (Nat.le_of_ble_eq_true rfl) (Nat.le_of_ble_eq_true rfl) sh_12 hM rfl (EV_le (by omega) (F_RuleReader_countOne hM  eM10)) (fun v' M' hq => ?_)
    obtain ⟨rfl, rfl, hM10⟩ := hq
    refine K_aload_n rfl 0 rfl ?_
    refine K_gR rfl sh_12 hM10 rfl rfl 0 rfl r_12_0 ?_
    obtain ⟨M11, eM11, h⟩ := Option.bind_eq_some_iff.mp h
    refine K_cV [] [] rfl rfl (Nat.le_of_ble_eq_true rfl) (Nat.le_of_ble_eq_true rfl) sh_1 hM10 rfl (EV_le (by omega) (F_Text_advance hM10  eM11)) (fun v' M' hq => ?_)
    obtain ⟨rfl, rfl, hM11⟩ := hq
    refine K_aload_n rfl 0 rfl ?_
    obtain ⟨M12, eM12, h⟩ := Option.bind_eq_some_iff.mp h
    refine K_cV [] [] rfl rfl (Nat.le_of_ble_eq_true rfl) (Nat.le_of_ble_eq_true rfl) sh_12 hM11 rfl (EV_le (by omega) (F_RuleReader_readSum hM11  eM12)) (fun v' M' hq => ?_)
    obtain ⟨rfl, rfl, hM12⟩ := hq
    refine K_aload_n rfl 0 rfl ?_
    obtain ⟨y13, ey13, h⟩ := Option.bind_eq_some_iff.mp h
    refine K_gN rfl sh_12 hM12 rfl rfl 1 rfl ey13 ?_
    refine K_iload rfl 1 rfl ?_
    obtain ⟨M14, eM14, h⟩ := Option.bind_eq_some_iff.mp h
    refine K_cV [.int l4] [] rfl rfl (Nat.le_of_ble_eq_true rfl) (Nat.le_of_ble_eq_true rfl) (ru_s0 (nnl_i ey13).2) hM12 rfl (EV_le (by omega) (F_Rule_emit hM12 (nnl_i ey13).2 eM14)) (fun v' M' hq => ?_)
    obtain ⟨rfl, rfl, hM14⟩ := hq
    obtain rfl := Option.some.inj h
    exact K_vret rfl rfl ⟨rfl, rfl, hM14⟩
set_option maxRecDepth 20000 in
theorem L_RuleReader_readFact_126 {X : mX} {g_RuleReader_readTest : Int32 → mM → Option mM} {g_RuleReader_readFact : Int32 → mM → Option mM} {x1 : Int32} {r : mM}  {d : Nat} (hd : 8 ≤ d) (hg61 : ∀ (x : Int32) (M r : mM), Fx M → g_RuleReader_readTest x M = some r → EV X d 61 [.ref 12, .int x] M (fun v M' => v = none ∧ r = M' ∧ Fx r)) (hg62 : ∀ (x : Int32) (M r : mM), Fx M → g_RuleReader_readFact x M = some r → EV X d 62 [.ref 12, .int x] M (fun v M' => v = none ∧ r = M' ∧ Fx r))  (M : mM) (hM : Fx M)  (h : f_RuleReader_readFact_126 g_RuleReader_readTest g_RuleReader_readFact x1   M = some r) : KK X d 62 126 [(0, .ref 12)] [] M (fun v M' => v = none ∧ r = M' ∧ Fx r) := by
    unfold f_RuleReader_readFact_126 at h
    refine K_aload_n rfl 0 rfl ?_
    refine K_gR rfl sh_12 hM rfl rfl 0 rfl r_12_0 ?_
    obtain ⟨M20, eM20, h⟩ := Option.bind_eq_some_iff.mp h
    refine K_cV [] [] rfl rfl (Nat.le_of_ble_eq_true rfl) (Nat.le_of_ble_eq_true rfl) sh_1 hM rfl (EV_le (by omega) (F_Text_advance hM  eM20)) (fun v' M' hq => ?_)
    obtain ⟨rfl, rfl, hM20⟩ := hq
    obtain rfl := Option.some.inj h
    exact K_vret rfl rfl ⟨rfl, rfl, hM20⟩
set_option maxRecDepth 20000 in
theorem L_RuleReader_readFact_60 {X : mX} {g_RuleReader_readTest : Int32 → mM → Option mM} {g_RuleReader_readFact : Int32 → mM → Option mM} {x1 : Int32} {r : mM}  {d : Nat} (hd : 8 ≤ d) (hg61 : ∀ (x : Int32) (M r : mM), Fx M → g_RuleReader_readTest x M = some r → EV X d 61 [.ref 12, .int x] M (fun v M' => v = none ∧ r = M' ∧ Fx r)) (hg62 : ∀ (x : Int32) (M r : mM), Fx M → g_RuleReader_readFact x M = some r → EV X d 62 [.ref 12, .int x] M (fun v M' => v = none ∧ r = M' ∧ Fx r)) (l2 : Int32) (l3 : Int32) (M : mM) (hM : Fx M)  (h : f_RuleReader_readFact_60 g_RuleReader_readTest g_RuleReader_readFact x1  l2 l3 M = some r) : KK X d 62 60 [(0, .ref 12), (1, .int x1), (2, .int l2), (3, .int l3)] [] M (fun v M' => v = none ∧ r = M' ∧ Fx r) := by
    unfold f_RuleReader_readFact_60 at h
    refine K_iload_n rfl 2 rfl ?_
    refine K_if_eq rfl (fun c5 => ?_) (fun c5 => ?_)
    · rw [if_pos c5] at h
      refine K_iload_n rfl 3 rfl ?_
      refine K_if_eq rfl (fun c6 => ?_) (fun c6 => ?_)
      · rw [if_pos c6] at h
        refine K_aload_n rfl 0 rfl ?_
        obtain ⟨M7, eM7, h⟩ := Option.bind_eq_some_iff.mp h
        refine K_cV [] [] rfl rfl (Nat.le_of_ble_eq_true rfl) (Nat.le_of_ble_eq_true rfl) sh_12 hM rfl (EV_le (by omega) (F_RuleReader_readSum hM  eM7)) (fun v' M' hq => ?_)
        obtain ⟨rfl, rfl, hM7⟩ := hq
        refine K_aload_n rfl 0 rfl ?_
        refine K_bipush (v := 60) rfl (by decide) ?_
        refine K_sipush (v := 316) rfl (by decide) ?_
        refine K_bipush (v := 61) rfl (by decide) ?_
        refine K_sipush (v := 318) rfl (by decide) ?_
        refine K_bipush (v := 62) rfl (by decide) ?_
        obtain ⟨r8, er8, h⟩ := Option.bind_eq_some_iff.mp h
        refine K_cV [.int 60, .int 316, .int 61, .int 318, .int 62] [] rfl rfl (Nat.le_of_ble_eq_true rfl) (Nat.le_of_ble_eq_true rfl) sh_12 hM7 rfl (EV_le (by omega) (F_RuleReader_signAmong hM7  er8)) (fun v' M' hq => ?_)
        obtain ⟨rfl, rfl, hr8⟩ := hq
        refine K_istore rfl ?_
        refine K_iload rfl 0 rfl ?_
        refine K_iconst (v := (-1)) rfl (by decide) ?_
        refine K_ic_ne rfl (fun c9 => ?_) (fun c9 => ?_)
        · rw [if_neg c9] at h
          refine K_pick [1, 0] ?_
          exact L_RuleReader_readFact_170  hd hg61 hg62  _ _ hr8  h
        · rw [if_pos c9] at h
          refine K_aload_n rfl 1 rfl ?_
          refine K_gR rfl sh_12 hr8 rfl rfl 0 rfl r_12_0 ?_
          refine K_iconst (v := 0) rfl (by decide) ?_
          obtain ⟨M15, eM15, h⟩ := Option.bind_eq_some_iff.mp h
          refine K_cV [.int 0] [] rfl rfl (Nat.le_of_ble_eq_true rfl) (Nat.le_of_ble_eq_true rfl) sh_1 hr8 rfl (EV_le (by omega) (F_Text_refuse hr8  eM15)) (fun v' M' hq => ?_)
          obtain ⟨rfl, rfl, hM15⟩ := hq
          refine K_pick [1, 0] ?_
          exact L_RuleReader_readFact_170  hd hg61 hg62  _ _ hM15  h
      · rw [if_neg c6] at h
        refine K_aload_n rfl 0 rfl ?_
        refine K_gR rfl sh_12 hM rfl rfl 0 rfl r_12_0 ?_
        obtain ⟨M16, eM16, h⟩ := Option.bind_eq_some_iff.mp h
        refine K_cV [] [] rfl rfl (Nat.le_of_ble_eq_true rfl) (Nat.le_of_ble_eq_true rfl) sh_1 hM rfl (EV_le (by omega) (F_Text_advance hM  eM16)) (fun v' M' hq => ?_)
        obtain ⟨rfl, rfl, hM16⟩ := hq
        refine K_aload_n rfl 0 rfl ?_
        refine K_iload_n rfl 1 rfl ?_
        refine K_iconst (v := 1) rfl (by decide) ?_
        refine K_iadd rfl ?_
        obtain ⟨M17, eM17, h⟩ := Option.bind_eq_some_iff.mp h
        refine K_cV [.int (x1 + 1)] [] rfl rfl (Nat.le_of_ble_eq_true rfl) (Nat.le_of_ble_eq_true rfl) sh_12 hM16 rfl (EV_le (by omega) (hg61 (x1 + 1) M16 _ hM16 eM17)) (fun v' M' hq => ?_)
        obtain ⟨rfl, rfl, hM17⟩ := hq
        refine K_aload_n rfl 0 rfl ?_
        refine K_gR rfl sh_12 hM17 rfl rfl 0 rfl r_12_0 ?_
        refine K_bipush (v := 93) rfl (by decide) ?_
        obtain ⟨r18, er18, h⟩ := Option.bind_eq_some_iff.mp h
        refine K_cV [.int 93] [] rfl rfl (Nat.le_of_ble_eq_true rfl) (Nat.le_of_ble_eq_true rfl) sh_1 hM17 rfl (EV_le (by omega) (F_Text_isSign hM17  er18)) (fun v' M' hq => ?_)
        obtain ⟨rfl, rfl, hr18⟩ := hq
        refine K_if_ne rfl (fun c19 => ?_) (fun c19 => ?_)
        · rw [if_neg c19] at h
          refine K_pick [0] ?_
          exact L_RuleReader_readFact_126  hd hg61 hg62   _ hr18  h
        · rw [if_pos c19] at h
          refine K_aload_n rfl 0 rfl ?_
          refine K_gR rfl sh_12 hr18 rfl rfl 0 rfl r_12_0 ?_
          refine K_iconst (v := 0) rfl (by decide) ?_
          obtain ⟨M21, eM21, h⟩ := Option.bind_eq_some_iff.mp h
          refine K_cV [.int 0] [] rfl rfl (Nat.le_of_ble_eq_true rfl) (Nat.le_of_ble_eq_true rfl) sh_1 hr18 rfl (EV_le (by omega) (F_Text_refuse hr18  eM21)) (fun v' M' hq => ?_)
          obtain ⟨rfl, rfl, hM21⟩ := hq
          refine K_pick [0] ?_
          exact L_RuleReader_readFact_126  hd hg61 hg62   _ hM21  h
    · rw [if_neg c5] at h
      refine K_aload_n rfl 0 rfl ?_
      refine K_gR rfl sh_12 hM rfl rfl 0 rfl r_12_0 ?_
      obtain ⟨M22, eM22, h⟩ := Option.bind_eq_some_iff.mp h
      refine K_cV [] [] rfl rfl (Nat.le_of_ble_eq_true rfl) (Nat.le_of_ble_eq_true rfl) sh_1 hM rfl (EV_le (by omega) (F_Text_advance hM  eM22)) (fun v' M' hq => ?_)
      obtain ⟨rfl, rfl, hM22⟩ := hq
      refine K_aload_n rfl 0 rfl ?_
      refine K_iload_n rfl 1 rfl ?_
      refine K_iconst (v := 1) rfl (by decide) ?_
      refine K_iadd rfl ?_
      obtain ⟨M23, eM23, h⟩ := Option.bind_eq_some_iff.mp h
      refine K_cV [.int (x1 + 1)] [] rfl rfl (Nat.le_of_ble_eq_true rfl) (Nat.le_of_ble_eq_true rfl) sh_12 hM22 rfl (EV_le (by omega) (hg62 (x1 + 1) M22 _ hM22 eM23)) (fun v' M' hq => ?_)
      obtain ⟨rfl, rfl, hM23⟩ := hq
      refine K_aload_n rfl 0 rfl ?_
      obtain ⟨y24, ey24, h⟩ := Option.bind_eq_some_iff.mp h
      refine K_gN rfl sh_12 hM23 rfl rfl 1 rfl ey24 ?_
      refine K_bipush (v := 33) rfl (by decide) ?_
      obtain ⟨M25, eM25, h⟩ := Option.bind_eq_some_iff.mp h
      refine K_cV [.int 33] [] rfl rfl (Nat.le_of_ble_eq_true rfl) (Nat.le_of_ble_eq_true rfl) (ru_s0 (nnl_i ey24).2) hM23 rfl (EV_le (by omega) (F_Rule_emit hM23 (nnl_i ey24).2 eM25)) (fun v' M' hq => ?_)
      obtain ⟨rfl, rfl, hM25⟩ := hq
      obtain rfl := Option.some.inj h
      exact K_vret rfl rfl ⟨rfl, rfl, hM25⟩
set_option maxRecDepth 20000 in
theorem L_RuleReader_readFact_40 {X : mX} {g_RuleReader_readTest : Int32 → mM → Option mM} {g_RuleReader_readFact : Int32 → mM → Option mM} {x1 : Int32} {r : mM}  {d : Nat} (hd : 8 ≤ d) (hg61 : ∀ (x : Int32) (M r : mM), Fx M → g_RuleReader_readTest x M = some r → EV X d 61 [.ref 12, .int x] M (fun v M' => v = none ∧ r = M' ∧ Fx r)) (hg62 : ∀ (x : Int32) (M r : mM), Fx M → g_RuleReader_readFact x M = some r → EV X d 62 [.ref 12, .int x] M (fun v M' => v = none ∧ r = M' ∧ Fx r)) (l2 : Int32) (s0 : Int32) (M : mM) (hM : Fx M)  (h : f_RuleReader_readFact_40 g_RuleReader_readTest g_RuleReader_readFact x1  l2 s0 M = some r) : KK X d 62 40 [(0, .ref 12), (1, .int x1), (2, .int l2)] [.int s0] M (fun v M' => v = none ∧ r = M' ∧ Fx r) := by
    unfold f_RuleReader_readFact_40 at h
    refine K_istore_n rfl ?_
    refine K_iload_n rfl 0 rfl ?_
    refine K_if_eq rfl (fun c4 => ?_) (fun c4 => ?_)
    · rw [if_pos c4] at h
      refine K_pick [1, 2, 3, 0] ?_
      exact L_RuleReader_readFact_60  hd hg61 hg62  _ _ _ hM  h
    · rw [if_neg c4] at h
      refine K_iload_n rfl 2 rfl ?_
      refine K_bipush (v := 10) rfl (by decide) ?_
      refine K_ic_lt rfl (fun c26 => ?_) (fun c26 => ?_)
      · rw [if_pos c26] at h
        refine K_pick [1, 2, 3, 0] ?_
        exact L_RuleReader_readFact_60  hd hg61 hg62  _ _ _ hM  h
      · rw [if_neg c26] at h
        refine K_aload_n rfl 1 rfl ?_
        refine K_gR rfl sh_12 hM rfl rfl 0 rfl r_12_0 ?_
        refine K_iconst (v := 2) rfl (by decide) ?_
        obtain ⟨M27, eM27, h⟩ := Option.bind_eq_some_iff.mp h
        refine K_cV [.int 2] [] rfl rfl (Nat.le_of_ble_eq_true rfl) (Nat.le_of_ble_eq_true rfl) sh_1 hM rfl (EV_le (by omega) (F_Text_refuse hM  eM27)) (fun v' M' hq => ?_)
        obtain ⟨rfl, rfl, hM27⟩ := hq
        obtain rfl := Option.some.inj h
        exact K_vret rfl rfl ⟨rfl, rfl, hM27⟩
set_option maxRecDepth 20000 in
theorem L_RuleReader_readFact_35 {X : mX} {g_RuleReader_readTest : Int32 → mM → Option mM} {g_RuleReader_readFact : Int32 → mM → Option mM} {x1 : Int32} {r : mM}  {d : Nat} (hd : 8 ≤ d) (hg61 : ∀ (x : Int32) (M r : mM), Fx M → g_RuleReader_readTest x M = some r → EV X d 61 [.ref 12, .int x] M (fun v M' => v = none ∧ r = M' ∧ Fx r)) (hg62 : ∀ (x : Int32) (M r : mM), Fx M → g_RuleReader_readFact x M = some r → EV X d 62 [.ref 12, .int x] M (fun v M' => v = none ∧ r = M' ∧ Fx r)) (l2 : Int32) (M : mM) (hM : Fx M)  (h : f_RuleReader_readFact_35 g_RuleReader_readTest g_RuleReader_readFact x1  l2 M = some r) : KK X d 62 35 [(0, .ref 12), (1, .int x1), (2, .int l2)] [] M (fun v M' => v = none ∧ r = M' ∧ Fx r) := by
    unfold f_RuleReader_readFact_35 at h
    refine K_iconst (v := 1) rfl (by decide) ?_
    refine K_goto rfl ?_
    refine K_pick [0, 1, 2] ?_
    exact L_RuleReader_readFact_40  hd hg61 hg62  _ _ _ hM  h
set_option maxRecDepth 20000 in
theorem L_RuleReader_readFact_18 {X : mX} {g_RuleReader_readTest : Int32 → mM → Option mM} {g_RuleReader_readFact : Int32 → mM → Option mM} {x1 : Int32} {r : mM}  {d : Nat} (hd : 8 ≤ d) (hg61 : ∀ (x : Int32) (M r : mM), Fx M → g_RuleReader_readTest x M = some r → EV X d 61 [.ref 12, .int x] M (fun v M' => v = none ∧ r = M' ∧ Fx r)) (hg62 : ∀ (x : Int32) (M r : mM), Fx M → g_RuleReader_readFact x M = some r → EV X d 62 [.ref 12, .int x] M (fun v M' => v = none ∧ r = M' ∧ Fx r)) (s0 : Int32) (M : mM) (hM : Fx M)  (h : f_RuleReader_readFact_18 g_RuleReader_readTest g_RuleReader_readFact x1  s0 M = some r) : KK X d 62 18 [(0, .ref 12), (1, .int x1)] [.int s0] M (fun v M' => v = none ∧ r = M' ∧ Fx r) := by
    unfold f_RuleReader_readFact_18 at h
    refine K_istore_n rfl ?_
    refine K_iload_n rfl 0 rfl ?_
    refine K_if_ne rfl (fun c3 => ?_) (fun c3 => ?_)
    · rw [if_neg c3] at h
      refine K_pick [1, 2, 0] ?_
      exact L_RuleReader_readFact_35  hd hg61 hg62  _ _ hM  h
    · rw [if_pos c3] at h
      refine K_aload_n rfl 1 rfl ?_
      refine K_gR rfl sh_12 hM rfl rfl 0 rfl r_12_0 ?_
      refine K_bipush (v := 91) rfl (by decide) ?_
      obtain ⟨r28, er28, h⟩ := Option.bind_eq_some_iff.mp h
      refine K_cV [.int 91] [] rfl rfl (Nat.le_of_ble_eq_true rfl) (Nat.le_of_ble_eq_true rfl) sh_1 hM rfl (EV_le (by omega) (F_Text_isSign hM  er28)) (fun v' M' hq => ?_)
      obtain ⟨rfl, rfl, hr28⟩ := hq
      refine K_if_eq rfl (fun c29 => ?_) (fun c29 => ?_)
      · rw [if_pos c29] at h
        refine K_iconst (v := 0) rfl (by decide) ?_
        refine K_pick [1, 2, 0] ?_
        exact L_RuleReader_readFact_40  hd hg61 hg62  _ _ _ hr28  h
      · rw [if_neg c29] at h
        refine K_pick [1, 2, 0] ?_
        exact L_RuleReader_readFact_35  hd hg61 hg62  _ _ hr28  h
set_option maxRecDepth 20000 in
theorem F_RuleReader_readFact_b {X : mX} {g_RuleReader_readTest : Int32 → mM → Option mM} {g_RuleReader_readFact : Int32 → mM → Option mM} {x1 : Int32} {M : mM} {r : mM} (hM : Fx M)  {d : Nat} (hd : 8 ≤ d) (hg61 : ∀ (x : Int32) (M r : mM), Fx M → g_RuleReader_readTest x M = some r → EV X d 61 [.ref 12, .int x] M (fun v M' => v = none ∧ r = M' ∧ Fx r)) (hg62 : ∀ (x : Int32) (M r : mM), Fx M → g_RuleReader_readFact x M = some r → EV X d 62 [.ref 12, .int x] M (fun v M' => v = none ∧ r = M' ∧ Fx r)) (h : f_RuleReader_readFact_b g_RuleReader_readTest g_RuleReader_readFact x1 M = some r) : EV X (d + 1) 62 [.ref 12, .int x1] M (fun v M' => v = none ∧ r = M' ∧ Fx r) := by
    refine EV_of (lc := [(0, .ref 12), (1, .int x1)]) (Nat.le_of_ble_eq_true rfl) (by exact Nat.le_of_ble_eq_true rfl) (by exact List.forall_mem_cons.mpr ⟨rfl, List.forall_mem_cons.mpr ⟨rfl, fun _ h => absurd h List.not_mem_nil⟩⟩) ?_
    unfold f_RuleReader_readFact_b at h
    refine K_aload_n rfl 0 rfl ?_
    refine K_gR rfl sh_12 hM rfl rfl 0 rfl r_12_0 ?_
    refine K_ldcs rfl (by decide) ?_
    obtain ⟨r1, er1, h⟩ := Option.bind_eq_some_iff.mp h
    refine K_cV [.ref (mstr + 5)] [] rfl rfl (Nat.le_of_ble_eq_true rfl) (Nat.le_of_ble_eq_true rfl) sh_1 hM rfl (EV_le (by omega) (F_Text_wordAmong hM (by decide) er1)) (fun v' M' hq => ?_)
    obtain ⟨rfl, rfl, hr1⟩ := hq
    refine K_iconst (v := (-1)) rfl (by decide) ?_
    refine K_ic_eq rfl (fun c2 => ?_) (fun c2 => ?_)
    · rw [if_pos c2] at h
      refine K_iconst (v := 0) rfl (by decide) ?_
      refine K_pick [0, 1] ?_
      exact L_RuleReader_readFact_18  hd hg61 hg62  _ _ hr1  h
    · rw [if_neg c2] at h
      refine K_iconst (v := 1) rfl (by decide) ?_
      refine K_goto rfl ?_
      refine K_pick [0, 1] ?_
      exact L_RuleReader_readFact_18  hd hg61 hg62  _ _ hr1  h
set_option maxRecDepth 20000 in
theorem L_RuleReader_readTest_76 {X : mX} {g_RuleReader_readTest : Int32 → mM → Option mM} {g_RuleReader_readFact : Int32 → mM → Option mM} {x1 : Int32} {k4 : Int32 → Int32 → mM → Option (mM)} {r : mM}  {d : Nat} (hd : 8 ≤ d) (hg61 : ∀ (x : Int32) (M r : mM), Fx M → g_RuleReader_readTest x M = some r → EV X d 61 [.ref 12, .int x] M (fun v M' => v = none ∧ r = M' ∧ Fx r)) (hg62 : ∀ (x : Int32) (M r : mM), Fx M → g_RuleReader_readFact x M = some r → EV X d 62 [.ref 12, .int x] M (fun v M' => v = none ∧ r = M' ∧ Fx r)) (hk4 : ∀ (l2 : Int32) (l3 : Int32) (M : mM), Fx M → k4 l2 l3 M = some r → KK X d 61 4 [(0, .ref 12), (1, .int x1), (2, .int l2), (3, .int l3)] [] M (fun v M' => v = none ∧ r = M' ∧ Fx r)) (l3 : Int32) (M : mM) (hM : Fx M)  (h : f_RuleReader_readTest_76 g_RuleReader_readTest g_RuleReader_readFact x1 k4 l3 M = some r) : KK X d 61 76 [(0, .ref 12), (1, .int x1), (3, .int l3)] [] M (fun v M' => v = none ∧ r = M' ∧ Fx r) := by
    unfold f_RuleReader_readTest_76 at h
    refine K_aload_n rfl 0 rfl ?_
    refine K_gR rfl sh_12 hM rfl rfl 0 rfl r_12_0 ?_
    refine K_ldcs rfl (by decide) ?_
    obtain ⟨r6, er6, h⟩ := Option.bind_eq_some_iff.mp h
    refine K_cV [.ref (mstr + 7)] [] rfl rfl (Nat.le_of_ble_eq_true rfl) (Nat.le_of_ble_eq_true rfl) sh_1 hM rfl (EV_le (by omega) (F_Text_takeWord hM (by decide) er6)) (fun v' M' hq => ?_)
    obtain ⟨rfl, rfl, hr6⟩ := hq
    refine K_istore_n rfl ?_
    refine K_iinc (y := (l3 + 1)) rfl 3 rfl rfl ?_
    refine K_goto rfl ?_
    refine K_pick [2, 3, 1, 0] ?_
    exact hk4 _ _ _ hr6  h
set_option maxRecDepth 20000 in
theorem L_RuleReader_readTest_63 {X : mX} {g_RuleReader_readTest : Int32 → mM → Option mM} {g_RuleReader_readFact : Int32 → mM → Option mM} {x1 : Int32} {k4 : Int32 → Int32 → mM → Option (mM)} {r : mM}  {d : Nat} (hd : 8 ≤ d) (hg61 : ∀ (x : Int32) (M r : mM), Fx M → g_RuleReader_readTest x M = some r → EV X d 61 [.ref 12, .int x] M (fun v M' => v = none ∧ r = M' ∧ Fx r)) (hg62 : ∀ (x : Int32) (M r : mM), Fx M → g_RuleReader_readFact x M = some r → EV X d 62 [.ref 12, .int x] M (fun v M' => v = none ∧ r = M' ∧ Fx r)) (hk4 : ∀ (l2 : Int32) (l3 : Int32) (M : mM), Fx M → k4 l2 l3 M = some r → KK X d 61 4 [(0, .ref 12), (1, .int x1), (2, .int l2), (3, .int l3)] [] M (fun v M' => v = none ∧ r = M' ∧ Fx r)) (l3 : Int32) (M : mM) (hM : Fx M)  (h : f_RuleReader_readTest_63 g_RuleReader_readTest g_RuleReader_readFact x1 k4 l3 M = some r) : KK X d 61 63 [(0, .ref 12), (1, .int x1), (3, .int l3)] [] M (fun v M' => v = none ∧ r = M' ∧ Fx r) := by
    unfold f_RuleReader_readTest_63 at h
    refine K_iload_n rfl 2 rfl ?_
    refine K_if_le rfl (fun c5 => ?_) (fun c5 => ?_)
    · rw [if_pos c5] at h
      refine K_pick [0, 1, 2] ?_
      exact L_RuleReader_readTest_76  hd hg61 hg62 hk4 _ _ hM  h
    · rw [if_neg c5] at h
      refine K_aload_n rfl 0 rfl ?_
      obtain ⟨y7, ey7, h⟩ := Option.bind_eq_some_iff.mp h
      refine K_gN rfl sh_12 hM rfl rfl 1 rfl ey7 ?_
      refine K_bipush (v := 124) rfl (by decide) ?_
      obtain ⟨M8, eM8, h⟩ := Option.bind_eq_some_iff.mp h
      refine K_cV [.int 124] [] rfl rfl (Nat.le_of_ble_eq_true rfl) (Nat.le_of_ble_eq_true rfl) (ru_s0 (nnl_i ey7).2) hM rfl (EV_le (by omega) (F_Rule_emit hM (nnl_i ey7).2 eM8)) (fun v' M' hq => ?_)
      obtain ⟨rfl, rfl, hM8⟩ := hq
      refine K_pick [0, 1, 2] ?_
      exact L_RuleReader_readTest_76  hd hg61 hg62 hk4 _ _ hM8  h
set_option maxRecDepth 20000 in
theorem L_RuleReader_readTest_23 {X : mX} {g_RuleReader_readTest : Int32 → mM → Option mM} {g_RuleReader_readFact : Int32 → mM → Option mM} {x1 : Int32} {k4 : Int32 → Int32 → mM → Option (mM)} {r : mM}  {d : Nat} (hd : 8 ≤ d) (hg61 : ∀ (x : Int32) (M r : mM), Fx M → g_RuleReader_readTest x M = some r → EV X d 61 [.ref 12, .int x] M (fun v M' => v = none ∧ r = M' ∧ Fx r)) (hg62 : ∀ (x : Int32) (M r : mM), Fx M → g_RuleReader_readFact x M = some r → EV X d 62 [.ref 12, .int x] M (fun v M' => v = none ∧ r = M' ∧ Fx r)) (hk4 : ∀ (l2 : Int32) (l3 : Int32) (M : mM), Fx M → k4 l2 l3 M = some r → KK X d 61 4 [(0, .ref 12), (1, .int x1), (2, .int l2), (3, .int l3)] [] M (fun v M' => v = none ∧ r = M' ∧ Fx r)) : ∀ (n : Nat) (l3 : Int32) (l4 : Int32) (M : mM), Fx M → f_RuleReader_readTest_23 g_RuleReader_readTest g_RuleReader_readFact x1 k4 n l3 l4 M = some r → KK X d 61 23 [(0, .ref 12), (1, .int x1), (3, .int l3), (4, .int l4)] [] M (fun v M' => v = none ∧ r = M' ∧ Fx r)
  | 0, _, _, _ => fun _ h => by cases h
  | n + 1, l3, l4, M => fun hM h => by
    unfold f_RuleReader_readTest_23 at h
    refine K_iload rfl 3 rfl ?_
    refine K_sipush (v := 400) rfl (by decide) ?_
    refine K_ic_ge rfl (fun c4 => ?_) (fun c4 => ?_)
    · rw [if_pos c4] at h
      refine K_pick [0, 1, 2] ?_
      exact L_RuleReader_readTest_63  hd hg61 hg62 hk4 _ _ hM  h
    · rw [if_neg c4] at h
      refine K_aload_n rfl 0 rfl ?_
      refine K_gR rfl sh_12 hM rfl rfl 0 rfl r_12_0 ?_
      refine K_ldcs rfl (by decide) ?_
      obtain ⟨r9, er9, h⟩ := Option.bind_eq_some_iff.mp h
      refine K_cV [.ref (mstr + 6)] [] rfl rfl (Nat.le_of_ble_eq_true rfl) (Nat.le_of_ble_eq_true rfl) sh_1 hM rfl (EV_le (by omega) (F_Text_takeWord hM (by decide) er9)) (fun v' M' hq => ?_)
      obtain ⟨rfl, rfl, hr9⟩ := hq
      refine K_if_eq rfl (fun c10 => ?_) (fun c10 => ?_)
      · rw [if_pos c10] at h
        refine K_pick [0, 1, 2] ?_
        exact L_RuleReader_readTest_63  hd hg61 hg62 hk4 _ _ hr9  h
      · rw [if_neg c10] at h
        refine K_aload_n rfl 0 rfl ?_
        refine K_iload_n rfl 1 rfl ?_
        obtain ⟨M11, eM11, h⟩ := Option.bind_eq_some_iff.mp h
        refine K_cV [.int x1] [] rfl rfl (Nat.le_of_ble_eq_true rfl) (Nat.le_of_ble_eq_true rfl) sh_12 hr9 rfl (EV_le (by omega) (hg62 x1 r9.2 _ hr9 eM11)) (fun v' M' hq => ?_)
        obtain ⟨rfl, rfl, hM11⟩ := hq
        refine K_aload_n rfl 0 rfl ?_
        obtain ⟨y12, ey12, h⟩ := Option.bind_eq_some_iff.mp h
        refine K_gN rfl sh_12 hM11 rfl rfl 1 rfl ey12 ?_
        refine K_bipush (v := 38) rfl (by decide) ?_
        obtain ⟨M13, eM13, h⟩ := Option.bind_eq_some_iff.mp h
        refine K_cV [.int 38] [] rfl rfl (Nat.le_of_ble_eq_true rfl) (Nat.le_of_ble_eq_true rfl) (ru_s0 (nnl_i ey12).2) hM11 rfl (EV_le (by omega) (F_Rule_emit hM11 (nnl_i ey12).2 eM13)) (fun v' M' hq => ?_)
        obtain ⟨rfl, rfl, hM13⟩ := hq
        refine K_iinc (y := (l4 + 1)) rfl 3 rfl rfl ?_
        refine K_goto rfl ?_
        refine K_pick [1, 2, 3, 0] ?_
        exact L_RuleReader_readTest_23  hd hg61 hg62 hk4 n _ _ _ hM13  h
set_option maxRecDepth 20000 in
theorem L_RuleReader_readTest_4 {X : mX} {g_RuleReader_readTest : Int32 → mM → Option mM} {g_RuleReader_readFact : Int32 → mM → Option mM} {x1 : Int32} {r : mM}  {d : Nat} (hd : 8 ≤ d) (hg61 : ∀ (x : Int32) (M r : mM), Fx M → g_RuleReader_readTest x M = some r → EV X d 61 [.ref 12, .int x] M (fun v M' => v = none ∧ r = M' ∧ Fx r)) (hg62 : ∀ (x : Int32) (M r : mM), Fx M → g_RuleReader_readFact x M = some r → EV X d 62 [.ref 12, .int x] M (fun v M' => v = none ∧ r = M' ∧ Fx r)) : ∀ (n : Nat) (l2 : Int32) (l3 : Int32) (M : mM), Fx M → f_RuleReader_readTest_4 g_RuleReader_readTest g_RuleReader_readFact x1  n l2 l3 M = some r → KK X d 61 4 [(0, .ref 12), (1, .int x1), (2, .int l2), (3, .int l3)] [] M (fun v M' => v = none ∧ r = M' ∧ Fx r)
  | 0, _, _, _ => fun _ h => by cases h
  | n + 1, l2, l3, M => fun hM h => by
    unfold f_RuleReader_readTest_4 at h
    refine K_iload_n rfl 3 rfl ?_
    refine K_sipush (v := 400) rfl (by decide) ?_
    refine K_ic_ge rfl (fun c1 => ?_) (fun c1 => ?_)
    · rw [if_pos c1] at h
      obtain rfl := Option.some.inj h
      exact K_vret rfl rfl ⟨rfl, rfl, hM⟩
    · rw [if_neg c1] at h
      refine K_iload_n rfl 2 rfl ?_
      refine K_if_eq rfl (fun c2 => ?_) (fun c2 => ?_)
      · rw [if_pos c2] at h
        obtain rfl := Option.some.inj h
        exact K_vret rfl rfl ⟨rfl, rfl, hM⟩
      · rw [if_neg c2] at h
        refine K_aload_n rfl 0 rfl ?_
        refine K_iload_n rfl 1 rfl ?_
        obtain ⟨M3, eM3, h⟩ := Option.bind_eq_some_iff.mp h
        refine K_cV [.int x1] [] rfl rfl (Nat.le_of_ble_eq_true rfl) (Nat.le_of_ble_eq_true rfl) sh_12 hM rfl (EV_le (by omega) (hg62 x1 M _ hM eM3)) (fun v' M' hq => ?_)
        obtain ⟨rfl, rfl, hM3⟩ := hq
        refine K_iconst (v := 0) rfl (by decide) ?_
        refine K_istore rfl ?_
        refine K_pick [1, 2, 4, 0] ?_
        exact L_RuleReader_readTest_23  hd hg61 hg62 (L_RuleReader_readTest_4  hd hg61 hg62  n) FUEL _ _ _ hM3  h
set_option maxRecDepth 20000 in
theorem F_RuleReader_readTest_b {X : mX} {g_RuleReader_readTest : Int32 → mM → Option mM} {g_RuleReader_readFact : Int32 → mM → Option mM} {x1 : Int32} {M : mM} {r : mM} (hM : Fx M)  {d : Nat} (hd : 8 ≤ d) (hg61 : ∀ (x : Int32) (M r : mM), Fx M → g_RuleReader_readTest x M = some r → EV X d 61 [.ref 12, .int x] M (fun v M' => v = none ∧ r = M' ∧ Fx r)) (hg62 : ∀ (x : Int32) (M r : mM), Fx M → g_RuleReader_readFact x M = some r → EV X d 62 [.ref 12, .int x] M (fun v M' => v = none ∧ r = M' ∧ Fx r)) (h : f_RuleReader_readTest_b g_RuleReader_readTest g_RuleReader_readFact x1 M = some r) : EV X (d + 1) 61 [.ref 12, .int x1] M (fun v M' => v = none ∧ r = M' ∧ Fx r) := by
    refine EV_of (lc := [(0, .ref 12), (1, .int x1)]) (Nat.le_of_ble_eq_true rfl) (by exact Nat.le_of_ble_eq_true rfl) (by exact List.forall_mem_cons.mpr ⟨rfl, List.forall_mem_cons.mpr ⟨rfl, fun _ h => absurd h List.not_mem_nil⟩⟩) ?_
    unfold f_RuleReader_readTest_b at h
    refine K_iconst (v := 1) rfl (by decide) ?_
    refine K_istore_n rfl ?_
    refine K_iconst (v := 0) rfl (by decide) ?_
    refine K_istore_n rfl ?_
    refine K_pick [2, 3, 1, 0] ?_
    exact L_RuleReader_readTest_4  hd hg61 hg62  FUEL _ _ _ hM  h
set_option maxRecDepth 20000 in
theorem F_rec {X : mX} : ∀ n : Nat, (∀ (x : Int32) (M r : mM), Fx M → (f_rec n).1 x M = some r → EV X (8 + n) 61 [.ref 12, .int x] M (fun v M' => v = none ∧ r = M' ∧ Fx r)) ∧ (∀ (x : Int32) (M r : mM), Fx M → (f_rec n).2 x M = some r → EV X (8 + n) 62 [.ref 12, .int x] M (fun v M' => v = none ∧ r = M' ∧ Fx r))
  | 0 => ⟨fun _ _ _ _ h => by (cases h), fun _ _ _ _ h => by (cases h)⟩
  | n + 1 => ⟨fun _ _ _ hM h => F_RuleReader_readTest_b hM (Nat.le_add_right 8 n) (F_rec n).1 (F_rec n).2 h, fun _ _ _ hM h => F_RuleReader_readFact_b hM (Nat.le_add_right 8 n) (F_rec n).1 (F_rec n).2 h⟩
set_option maxRecDepth 20000 in
theorem F_RuleReader_readTest {X : mX} {x : Int32} {M r : mM} (hM : Fx M) (h : f_RuleReader_readTest 40 x M = some r) : EV X 60 61 [.ref 12, .int x] M (fun v M' => v = none ∧ r = M' ∧ Fx r) := EV_le (Nat.le_of_ble_eq_true rfl) ((F_rec 40).1 x M r hM h)
set_option maxRecDepth 20000 in
theorem F_RuleReader_readFact {X : mX} {x : Int32} {M r : mM} (hM : Fx M) (h : f_RuleReader_readFact 40 x M = some r) : EV X 60 62 [.ref 12, .int x] M (fun v M' => v = none ∧ r = M' ∧ Fx r) := EV_le (Nat.le_of_ble_eq_true rfl) ((F_rec 40).2 x M r hM h)
set_option maxRecDepth 20000 in
theorem F_Rule_closeClause {X : mX} {S : Nat} {M : mM} {r : mM} (hM : Fx M) (hS : is_ru S) (h : f_Rule_closeClause S M = some r) : EV X (0 + 1) 63 [.ref S] M (fun v M' => v = none ∧ r = M' ∧ Fx r) := by
    refine EV_of (lc := [(0, .ref S)]) (Nat.le_of_ble_eq_true rfl) (by exact Nat.le_of_ble_eq_true rfl) (by exact List.forall_mem_cons.mpr ⟨rfl, fun _ h => absurd h List.not_mem_nil⟩) ?_
    unfold f_Rule_closeClause at h
    refine K_aload_n rfl 0 rfl ?_
    refine K_gI rfl (ru_s0 hS) hM rfl rfl 5 rfl ?_
    refine K_if_lt rfl (fun c1 => ?_) (fun c1 => ?_)
    · rw [if_pos c1] at h
      obtain rfl := Option.some.inj h
      exact K_vret rfl rfl ⟨rfl, rfl, hM⟩
    · rw [if_neg c1] at h
      refine K_aload_n rfl 0 rfl ?_
      refine K_gI rfl (ru_s0 hS) hM rfl rfl 5 rfl ?_
      refine K_aload_n rfl 0 rfl ?_
      refine K_gR rfl (ru_s0 hS) hM rfl rfl 4 rfl (ru_r4 hS) ?_
      refine K_aln (v := 12) rfl (ru_s4 hS) hM (by decide) (by decide) ?_
      refine K_ic_ge rfl (fun c2 => ?_) (fun c2 => ?_)
      · rw [if_pos c2] at h
        obtain rfl := Option.some.inj h
        exact K_vret rfl rfl ⟨rfl, rfl, hM⟩
      · rw [if_neg c2] at h
        refine K_aload_n rfl 0 rfl ?_
        refine K_gR rfl (ru_s0 hS) hM rfl rfl 4 rfl (ru_r4 hS) ?_
        refine K_aload_n rfl 0 rfl ?_
        refine K_gI rfl (ru_s0 hS) hM rfl rfl 5 rfl ?_
        refine K_aload_n rfl 0 rfl ?_
        refine K_gI rfl (ru_s0 hS) hM rfl rfl 1 rfl ?_
        obtain ⟨M3, eM3, h⟩ := Option.bind_eq_some_iff.mp h
        refine K_wr rfl (ru_s4 hS) hM eM3 (fun hM3 => ?_)
        refine K_aload_n rfl 0 rfl ?_
        refine K_dup rfl rfl ?_
        refine K_gI rfl (ru_s0 hS) hM3 rfl rfl 5 rfl ?_
        refine K_iconst (v := 1) rfl (by decide) ?_
        refine K_iadd rfl ?_
        obtain ⟨M4, eM4, h⟩ := Option.bind_eq_some_iff.mp h
        refine K_pI rfl (ru_s0 hS) hM3 rfl rfl 5 rfl eM4 (fun hM4 => ?_)
        obtain rfl := Option.some.inj h
        exact K_vret rfl rfl ⟨rfl, rfl, hM4⟩
set_option maxRecDepth 20000 in
theorem L_RuleReader_readRule_143 {X : mX} {x1 : Nat} {r : Int32 × mM} (hx1 : is_ru x1)  (M : mM) (hM : Fx M)  (h : f_RuleReader_readRule_143 x1   M = some r) : KK X 60 51 143 [(0, .ref 12)] [] M (fun v M' => v = some (.int r.1) ∧ r.2 = M' ∧ Fx r.2) := by
    unfold f_RuleReader_readRule_143 at h
    refine K_aload_n rfl 0 rfl ?_
    refine K_gR rfl sh_12 hM rfl rfl 0 rfl r_12_0 ?_
    refine K_gI rfl sh_1 hM rfl rfl 6 rfl ?_
    obtain rfl := Option.some.inj h
    exact K_iret rfl (Or.inl rfl) ⟨rfl, rfl, hM⟩
set_option maxRecDepth 20000 in
theorem L_RuleReader_readRule_122 {X : mX} {x1 : Nat} {k32 : Int32 → Int32 → mM → Option (Int32 × mM)} {r : Int32 × mM} (hx1 : is_ru x1) (hk32 : ∀ (l2 : Int32) (l3 : Int32) (M : mM), Fx M → k32 l2 l3 M = some r → KK X 60 51 32 [(0, .ref 12), (2, .int l2), (3, .int l3)] [] M (fun v M' => v = some (.int r.1) ∧ r.2 = M' ∧ Fx r.2)) (l3 : Int32) (M : mM) (hM : Fx M)  (h : f_RuleReader_readRule_122 x1 k32 l3 M = some r) : KK X 60 51 122 [(0, .ref 12), (3, .int l3)] [] M (fun v M' => v = some (.int r.1) ∧ r.2 = M' ∧ Fx r.2) := by
    unfold f_RuleReader_readRule_122 at h
    refine K_aload_n rfl 0 rfl ?_
    obtain ⟨y19, ey19, h⟩ := Option.bind_eq_some_iff.mp h
    refine K_gN rfl sh_12 hM rfl rfl 1 rfl ey19 ?_
    obtain ⟨M20, eM20, h⟩ := Option.bind_eq_some_iff.mp h
    refine K_cV [] [] rfl rfl (Nat.le_of_ble_eq_true rfl) (Nat.le_of_ble_eq_true rfl) (ru_s0 (nnl_i ey19).2) hM rfl (EV_le (Nat.le_of_ble_eq_true rfl) (F_Rule_closeClause hM (nnl_i ey19).2 eM20)) (fun v' M' hq => ?_)
    obtain ⟨rfl, rfl, hM20⟩ := hq
    refine K_aload_n rfl 0 rfl ?_
    refine K_gR rfl sh_12 hM20 rfl rfl 0 rfl r_12_0 ?_
    obtain ⟨r21, er21, h⟩ := Option.bind_eq_some_iff.mp h
    refine K_cV [] [] rfl rfl (Nat.le_of_ble_eq_true rfl) (Nat.le_of_ble_eq_true rfl) sh_1 hM20 rfl (EV_le (Nat.le_of_ble_eq_true rfl) (F_Text_takeMore hM20  er21)) (fun v' M' hq => ?_)
    obtain ⟨rfl, rfl, hr21⟩ := hq
    refine K_istore_n rfl ?_
    refine K_iinc (y := (l3 + 1)) rfl 2 rfl rfl ?_
    refine K_goto rfl ?_
    refine K_pick [2, 1, 0] ?_
    exact hk32 _ _ _ hr21  h
set_option maxRecDepth 20000 in
theorem L_RuleReader_readRule_80 {X : mX} {x1 : Nat} {k32 : Int32 → Int32 → mM → Option (Int32 × mM)} {r : Int32 × mM} (hx1 : is_ru x1) (hk32 : ∀ (l2 : Int32) (l3 : Int32) (M : mM), Fx M → k32 l2 l3 M = some r → KK X 60 51 32 [(0, .ref 12), (2, .int l2), (3, .int l3)] [] M (fun v M' => v = some (.int r.1) ∧ r.2 = M' ∧ Fx r.2)) (l3 : Int32) (M : mM) (hM : Fx M)  (h : f_RuleReader_readRule_80 x1 k32 l3 M = some r) : KK X 60 51 80 [(0, .ref 12), (3, .int l3)] [] M (fun v M' => v = some (.int r.1) ∧ r.2 = M' ∧ Fx r.2) := by
    unfold f_RuleReader_readRule_80 at h
    refine K_aload_n rfl 0 rfl ?_
    refine K_gR rfl sh_12 hM rfl rfl 0 rfl r_12_0 ?_
    obtain ⟨M11, eM11, h⟩ := Option.bind_eq_some_iff.mp h
    refine K_cV [] [] rfl rfl (Nat.le_of_ble_eq_true rfl) (Nat.le_of_ble_eq_true rfl) sh_1 hM rfl (EV_le (Nat.le_of_ble_eq_true rfl) (F_Text_advance hM  eM11)) (fun v' M' hq => ?_)
    obtain ⟨rfl, rfl, hM11⟩ := hq
    refine K_aload_n rfl 0 rfl ?_
    obtain ⟨y12, ey12, h⟩ := Option.bind_eq_some_iff.mp h
    refine K_gN rfl sh_12 hM11 rfl rfl 1 rfl ey12 ?_
    obtain ⟨M13, eM13, h⟩ := Option.bind_eq_some_iff.mp h
    refine K_cV [] [] rfl rfl (Nat.le_of_ble_eq_true rfl) (Nat.le_of_ble_eq_true rfl) (ru_s0 (nnl_i ey12).2) hM11 rfl (EV_le (Nat.le_of_ble_eq_true rfl) (F_Rule_openClause hM11 (nnl_i ey12).2 eM13)) (fun v' M' hq => ?_)
    obtain ⟨rfl, rfl, hM13⟩ := hq
    refine K_aload_n rfl 0 rfl ?_
    obtain ⟨M14, eM14, h⟩ := Option.bind_eq_some_iff.mp h
    refine K_cV [] [] rfl rfl (Nat.le_of_ble_eq_true rfl) (Nat.le_of_ble_eq_true rfl) sh_12 hM13 rfl (EV_le (Nat.le_of_ble_eq_true rfl) (F_RuleReader_readSum hM13  eM14)) (fun v' M' hq => ?_)
    obtain ⟨rfl, rfl, hM14⟩ := hq
    refine K_aload_n rfl 0 rfl ?_
    obtain ⟨y15, ey15, h⟩ := Option.bind_eq_some_iff.mp h
    refine K_gN rfl sh_12 hM14 rfl rfl 1 rfl ey15 ?_
    obtain ⟨M16, eM16, h⟩ := Option.bind_eq_some_iff.mp h
    refine K_cV [] [] rfl rfl (Nat.le_of_ble_eq_true rfl) (Nat.le_of_ble_eq_true rfl) (ru_s0 (nnl_i ey15).2) hM14 rfl (EV_le (Nat.le_of_ble_eq_true rfl) (F_Rule_openTest hM14 (nnl_i ey15).2 eM16)) (fun v' M' hq => ?_)
    obtain ⟨rfl, rfl, hM16⟩ := hq
    refine K_aload_n rfl 0 rfl ?_
    refine K_gR rfl sh_12 hM16 rfl rfl 0 rfl r_12_0 ?_
    refine K_ldcs rfl (by decide) ?_
    obtain ⟨r17, er17, h⟩ := Option.bind_eq_some_iff.mp h
    refine K_cV [.ref (mstr + 4)] [] rfl rfl (Nat.le_of_ble_eq_true rfl) (Nat.le_of_ble_eq_true rfl) sh_1 hM16 rfl (EV_le (Nat.le_of_ble_eq_true rfl) (F_Text_takeWord hM16 (by decide) er17)) (fun v' M' hq => ?_)
    obtain ⟨rfl, rfl, hr17⟩ := hq
    refine K_if_eq rfl (fun c18 => ?_) (fun c18 => ?_)
    · rw [if_pos c18] at h
      refine K_pick [0, 1] ?_
      exact L_RuleReader_readRule_122 hx1  hk32 _ _ hr17  h
    · rw [if_neg c18] at h
      refine K_aload_n rfl 0 rfl ?_
      refine K_iconst (v := 0) rfl (by decide) ?_
      obtain ⟨M22, eM22, h⟩ := Option.bind_eq_some_iff.mp h
      refine K_cV [.int 0] [] rfl rfl (Nat.le_of_ble_eq_true rfl) (Nat.le_of_ble_eq_true rfl) sh_12 hr17 rfl (EV_le (Nat.le_of_ble_eq_true rfl) (F_RuleReader_readTest hr17  eM22)) (fun v' M' hq => ?_)
      obtain ⟨rfl, rfl, hM22⟩ := hq
      refine K_pick [0, 1] ?_
      exact L_RuleReader_readRule_122 hx1  hk32 _ _ hM22  h
set_option maxRecDepth 20000 in
theorem L_RuleReader_readRule_32 {X : mX} {x1 : Nat} {r : Int32 × mM} (hx1 : is_ru x1) : ∀ (n : Nat) (l2 : Int32) (l3 : Int32) (M : mM), Fx M → f_RuleReader_readRule_32 x1  n l2 l3 M = some r → KK X 60 51 32 [(0, .ref 12), (2, .int l2), (3, .int l3)] [] M (fun v M' => v = some (.int r.1) ∧ r.2 = M' ∧ Fx r.2)
  | 0, _, _, _ => fun _ h => by cases h
  | n + 1, l2, l3, M => fun hM h => by
    unfold f_RuleReader_readRule_32 at h
    refine K_iload_n rfl 2 rfl ?_
    refine K_bipush (v := 12) rfl (by decide) ?_
    refine K_ic_gt rfl (fun c6 => ?_) (fun c6 => ?_)
    · rw [if_pos c6] at h
      refine K_pick [0] ?_
      exact L_RuleReader_readRule_143 hx1    _ hM  h
    · rw [if_neg c6] at h
      refine K_iload_n rfl 1 rfl ?_
      refine K_if_eq rfl (fun c7 => ?_) (fun c7 => ?_)
      · rw [if_pos c7] at h
        refine K_pick [0] ?_
        exact L_RuleReader_readRule_143 hx1    _ hM  h
      · rw [if_neg c7] at h
        refine K_aload_n rfl 0 rfl ?_
        refine K_gR rfl sh_12 hM rfl rfl 0 rfl r_12_0 ?_
        refine K_ldcs rfl (by decide) ?_
        obtain ⟨r8, er8, h⟩ := Option.bind_eq_some_iff.mp h
        refine K_cV [.ref (mstr + 2)] [] rfl rfl (Nat.le_of_ble_eq_true rfl) (Nat.le_of_ble_eq_true rfl) sh_1 hM rfl (EV_le (Nat.le_of_ble_eq_true rfl) (F_Text_wordAmong hM (by decide) er8)) (fun v' M' hq => ?_)
        obtain ⟨rfl, rfl, hr8⟩ := hq
        refine K_iconst (v := (-1)) rfl (by decide) ?_
        refine K_ic_ne rfl (fun c9 => ?_) (fun c9 => ?_)
        · rw [if_neg c9] at h
          refine K_iload_n rfl 2 rfl ?_
          refine K_bipush (v := 12) rfl (by decide) ?_
          refine K_ic_lt rfl (fun c10 => ?_) (fun c10 => ?_)
          · rw [if_pos c10] at h
            refine K_pick [0, 2] ?_
            exact L_RuleReader_readRule_80 hx1  (L_RuleReader_readRule_32 hx1   n) _ _ hr8  h
          · rw [if_neg c10] at h
            refine K_aload_n rfl 0 rfl ?_
            refine K_gR rfl sh_12 hr8 rfl rfl 0 rfl r_12_0 ?_
            refine K_iconst (v := 4) rfl (by decide) ?_
            obtain ⟨M23, eM23, h⟩ := Option.bind_eq_some_iff.mp h
            refine K_cV [.int 4] [] rfl rfl (Nat.le_of_ble_eq_true rfl) (Nat.le_of_ble_eq_true rfl) sh_1 hr8 rfl (EV_le (Nat.le_of_ble_eq_true rfl) (F_Text_refuse hr8  eM23)) (fun v' M' hq => ?_)
            obtain ⟨rfl, rfl, hM23⟩ := hq
            refine K_pick [0, 2] ?_
            exact L_RuleReader_readRule_80 hx1  (L_RuleReader_readRule_32 hx1   n) _ _ hM23  h
        · rw [if_pos c9] at h
          refine K_aload_n rfl 0 rfl ?_
          refine K_gR rfl sh_12 hr8 rfl rfl 0 rfl r_12_0 ?_
          refine K_iconst (v := 0) rfl (by decide) ?_
          obtain ⟨M24, eM24, h⟩ := Option.bind_eq_some_iff.mp h
          refine K_cV [.int 0] [] rfl rfl (Nat.le_of_ble_eq_true rfl) (Nat.le_of_ble_eq_true rfl) sh_1 hr8 rfl (EV_le (Nat.le_of_ble_eq_true rfl) (F_Text_refuse hr8  eM24)) (fun v' M' hq => ?_)
          obtain ⟨rfl, rfl, hM24⟩ := hq
          refine K_goto rfl ?_
          refine K_pick [0, 2] ?_
          exact L_RuleReader_readRule_80 hx1  (L_RuleReader_readRule_32 hx1   n) _ _ hM24  h
set_option maxRecDepth 20000 in
theorem L_RuleReader_readRule_9 {X : mX} {x1 : Nat} {r : Int32 × mM} (hx1 : is_ru x1)  (M : mM) (hM : Fx M)  (h : f_RuleReader_readRule_9 x1   M = some r) : KK X 60 51 9 [(0, .ref 12)] [] M (fun v M' => v = some (.int r.1) ∧ r.2 = M' ∧ Fx r.2) := by
    unfold f_RuleReader_readRule_9 at h
    refine K_aload_n rfl 0 rfl ?_
    obtain ⟨y2, ey2, h⟩ := Option.bind_eq_some_iff.mp h
    refine K_gN rfl sh_12 hM rfl rfl 1 rfl ey2 ?_
    obtain ⟨M3, eM3, h⟩ := Option.bind_eq_some_iff.mp h
    refine K_cV [] [] rfl rfl (Nat.le_of_ble_eq_true rfl) (Nat.le_of_ble_eq_true rfl) (ru_s0 (nnl_i ey2).2) hM rfl (EV_le (Nat.le_of_ble_eq_true rfl) (F_Rule_clear hM (nnl_i ey2).2 eM3)) (fun v' M' hq => ?_)
    obtain ⟨rfl, rfl, hM3⟩ := hq
    refine K_aload_n rfl 0 rfl ?_
    refine K_iconst (v := 0) rfl (by decide) ?_
    obtain ⟨M4, eM4, h⟩ := Option.bind_eq_some_iff.mp h
    refine K_pI rfl sh_12 hM3 rfl rfl 2 rfl eM4 (fun hM4 => ?_)
    refine K_aload_n rfl 0 rfl ?_
    refine K_gR rfl sh_12 hM4 rfl rfl 0 rfl r_12_0 ?_
    obtain ⟨M5, eM5, h⟩ := Option.bind_eq_some_iff.mp h
    refine K_cV [] [] rfl rfl (Nat.le_of_ble_eq_true rfl) (Nat.le_of_ble_eq_true rfl) sh_1 hM4 rfl (EV_le (Nat.le_of_ble_eq_true rfl) (F_Text_rewind hM4  eM5)) (fun v' M' hq => ?_)
    obtain ⟨rfl, rfl, hM5⟩ := hq
    refine K_iconst (v := 1) rfl (by decide) ?_
    refine K_istore_n rfl ?_
    refine K_iconst (v := 0) rfl (by decide) ?_
    refine K_istore_n rfl ?_
    refine K_pick [2, 1, 0] ?_
    exact L_RuleReader_readRule_32 hx1   FUEL _ _ _ hM5  h
set_option maxRecDepth 20000 in
theorem F_RuleReader_readRule {X : mX} {x1 : Nat} {M : mM} {r : Int32 × mM} (hM : Fx M) (hx1 : is_ru x1) (h : f_RuleReader_readRule x1 M = some r) : EV X (60 + 1) 51 [.ref 12, .ref x1] M (fun v M' => v = some (.int r.1) ∧ r.2 = M' ∧ Fx r.2) := by
    refine EV_of (lc := [(0, .ref 12), (1, .ref x1)]) (Nat.le_of_ble_eq_true rfl) (by exact Nat.le_of_ble_eq_true rfl) (by exact List.forall_mem_cons.mpr ⟨rfl, List.forall_mem_cons.mpr ⟨rfl, fun _ h => absurd h List.not_mem_nil⟩⟩) ?_
    unfold f_RuleReader_readRule at h
    refine K_aload_n rfl 1 rfl ?_
    refine K_ifnullR rfl ?_
    refine K_aload_n rfl 0 rfl ?_
    refine K_aload_n rfl 1 rfl ?_
    obtain ⟨M1, eM1, h⟩ := Option.bind_eq_some_iff.mp h
    refine K_pR rfl sh_12 hM rfl rfl 1 rfl mu_12_1 eM1 (fun hM1 => ?_)
    refine K_pick [0] ?_
    exact L_RuleReader_readRule_9 hx1    _ hM1  h
set_option maxRecDepth 20000 in
theorem F_GraveRails_rule {X : mX}  {M : mM} {r : Int32 × mM} (hM : Fx M)  (h : f_GraveRails_rule  M = some r) : EV X (61 + 1) 50 [.ref 0] M (fun v M' => v = some (.int r.1) ∧ r.2 = M' ∧ Fx r.2) := by
    refine EV_of (lc := [(0, .ref 0)]) (Nat.le_of_ble_eq_true rfl) (by exact Nat.le_of_ble_eq_true rfl) (by exact List.forall_mem_cons.mpr ⟨rfl, fun _ h => absurd h List.not_mem_nil⟩) ?_
    unfold f_GraveRails_rule at h
    refine K_aload_n rfl 0 rfl ?_
    refine K_gI rfl sh_0 hM rfl rfl 4 rfl ?_
    refine K_if_lt rfl (fun c1 => ?_) (fun c1 => ?_)
    · rw [if_pos c1] at h
      refine K_iconst (v := (-1)) rfl (by decide) ?_
      obtain rfl := Option.some.inj h
      exact K_iret rfl (Or.inl rfl) ⟨rfl, rfl, hM⟩
    · rw [if_neg c1] at h
      refine K_aload_n rfl 0 rfl ?_
      refine K_gI rfl sh_0 hM rfl rfl 4 rfl ?_
      refine K_aload_n rfl 0 rfl ?_
      refine K_gR rfl sh_0 hM rfl rfl 3 rfl r_0_3 ?_
      refine K_aln (v := 6) rfl sh_19 hM (by decide) (by decide) ?_
      refine K_ic_lt rfl (fun c2 => ?_) (fun c2 => ?_)
      · rw [if_pos c2] at h
        refine K_aload_n rfl 0 rfl ?_
        refine K_gR rfl sh_0 hM rfl rfl 2 rfl r_0_2 ?_
        refine K_aload_n rfl 0 rfl ?_
        refine K_gR rfl sh_0 hM rfl rfl 3 rfl r_0_3 ?_
        refine K_aload_n rfl 0 rfl ?_
        refine K_gI rfl sh_0 hM rfl rfl 4 rfl ?_
        obtain ⟨j3, ej3, h⟩ := Option.bind_eq_some_iff.mp h
        refine K_rdA rfl sh_19 (by decide) hM ej3 (ar_ru (ix_i ej3).2.2).2 ?_
        obtain ⟨r4, er4, h⟩ := Option.bind_eq_some_iff.mp h
        refine K_cV [.ref (308 + 6 * j3)] [] rfl rfl (Nat.le_of_ble_eq_true rfl) (Nat.le_of_ble_eq_true rfl) sh_12 hM rfl (EV_le (Nat.le_of_ble_eq_true rfl) (F_RuleReader_readRule hM (ar_ru (ix_i ej3).2.2).1 er4)) (fun v' M' hq => ?_)
        obtain ⟨rfl, rfl, hr4⟩ := hq
        refine K_istore_n rfl ?_
        refine K_aload_n rfl 1 rfl ?_
        refine K_gR rfl sh_0 hr4 rfl rfl 0 rfl r_0_0 ?_
        refine K_iconst (v := 0) rfl (by decide) ?_
        obtain ⟨M5, eM5, h⟩ := Option.bind_eq_some_iff.mp h
        refine K_pI rfl sh_1 hr4 rfl rfl 1 rfl eM5 (fun hM5 => ?_)
        refine K_iload_n rfl 0 rfl ?_
        refine K_if_eq rfl (fun c6 => ?_) (fun c6 => ?_)
        · rw [if_pos c6] at h
          refine K_aload_n rfl 1 rfl ?_
          refine K_dup rfl rfl ?_
          refine K_gI rfl sh_0 hM5 rfl rfl 4 rfl ?_
          refine K_iconst (v := 1) rfl (by decide) ?_
          refine K_iadd rfl ?_
          obtain ⟨M7, eM7, h⟩ := Option.bind_eq_some_iff.mp h
          refine K_pI rfl sh_0 hM5 rfl rfl 4 rfl eM7 (fun hM7 => ?_)
          refine K_aload_n rfl 1 rfl ?_
          refine K_gI rfl sh_0 hM7 rfl rfl 4 rfl ?_
          refine K_iconst (v := 1) rfl (by decide) ?_
          refine K_isub rfl ?_
          obtain rfl := Option.some.inj h
          exact K_iret rfl (Or.inl rfl) ⟨rfl, rfl, hM7⟩
        · rw [if_neg c6] at h
          refine K_bipush (v := (-2)) rfl (by decide) ?_
          refine K_iload_n rfl 0 rfl ?_
          refine K_isub rfl ?_
          obtain rfl := Option.some.inj h
          exact K_iret rfl (Or.inl rfl) ⟨rfl, rfl, hM5⟩
      · rw [if_neg c2] at h
        refine K_iconst (v := (-1)) rfl (by decide) ?_
        obtain rfl := Option.some.inj h
        exact K_iret rfl (Or.inl rfl) ⟨rfl, rfl, hM⟩
set_option maxRecDepth 20000 in
theorem F_GraveRails_force {X : mX} {x1 : Int32} {M : mM} {r : Int32 × mM} (hM : Fx M)  (h : f_GraveRails_force x1 M = some r) : EV X (0 + 1) 64 [.ref 0, .int x1] M (fun v M' => v = some (.int r.1) ∧ r.2 = M' ∧ Fx r.2) := by
    refine EV_of (lc := [(0, .ref 0), (1, .int x1)]) (Nat.le_of_ble_eq_true rfl) (by exact Nat.le_of_ble_eq_true rfl) (by exact List.forall_mem_cons.mpr ⟨rfl, List.forall_mem_cons.mpr ⟨rfl, fun _ h => absurd h List.not_mem_nil⟩⟩) ?_
    unfold f_GraveRails_force at h
    refine K_iload_n rfl 1 rfl ?_
    refine K_iconst (v := (-1)) rfl (by decide) ?_
    refine K_ic_lt rfl (fun c1 => ?_) (fun c1 => ?_)
    · rw [if_pos c1] at h
      refine K_bipush (v := (-2)) rfl (by decide) ?_
      obtain rfl := Option.some.inj h
      exact K_iret rfl (Or.inl rfl) ⟨rfl, rfl, hM⟩
    · rw [if_neg c1] at h
      refine K_iload_n rfl 1 rfl ?_
      refine K_aload_n rfl 0 rfl ?_
      refine K_gI rfl sh_0 hM rfl rfl 4 rfl ?_
      refine K_ic_lt rfl (fun c2 => ?_) (fun c2 => ?_)
      · rw [if_pos c2] at h
        refine K_aload_n rfl 0 rfl ?_
        refine K_gR rfl sh_0 hM rfl rfl 5 rfl r_0_5 ?_
        refine K_gI rfl sh_20 hM rfl rfl 3 rfl ?_
        refine K_istore_n rfl ?_
        refine K_aload_n rfl 1 rfl ?_
        refine K_gR rfl sh_0 hM rfl rfl 5 rfl r_0_5 ?_
        refine K_iload_n rfl 2 rfl ?_
        obtain ⟨M3, eM3, h⟩ := Option.bind_eq_some_iff.mp h
        refine K_pI rfl sh_20 hM rfl rfl 3 rfl eM3 (fun hM3 => ?_)
        refine K_aload_n rfl 1 rfl ?_
        refine K_gR rfl sh_0 hM3 rfl rfl 9 rfl r_0_9 ?_
        refine K_iconst (v := 0) rfl (by decide) ?_
        obtain ⟨M4, eM4, h⟩ := Option.bind_eq_some_iff.mp h
        refine K_pZ rfl sh_269 hM3 rfl rfl 0 rfl eM4 (fun hM4 => ?_)
        refine K_iload_n rfl 0 rfl ?_
        obtain rfl := Option.some.inj h
        exact K_iret rfl (Or.inl rfl) ⟨rfl, rfl, hM4⟩
      · rw [if_neg c2] at h
        refine K_bipush (v := (-2)) rfl (by decide) ?_
        obtain rfl := Option.some.inj h
        exact K_iret rfl (Or.inl rfl) ⟨rfl, rfl, hM⟩
set_option maxRecDepth 20000 in
theorem F_State_has {X : mX} {S : Nat} {x1 : Int32} {M : mM} {r : Int32 × mM} (hM : Fx M) (hS : is_st S) (h : f_State_has S x1 M = some r) : EV X (0 + 1) 66 [.ref S, .int x1] M (fun v M' => v = some (.int r.1) ∧ r.2 = M' ∧ Fx r.2) := by
    refine EV_of (lc := [(0, .ref S), (1, .int x1)]) (Nat.le_of_ble_eq_true rfl) (by exact Nat.le_of_ble_eq_true rfl) (by exact List.forall_mem_cons.mpr ⟨rfl, List.forall_mem_cons.mpr ⟨rfl, fun _ h => absurd h List.not_mem_nil⟩⟩) ?_
    unfold f_State_has at h
    refine K_iload_n rfl 1 rfl ?_
    refine K_if_lt rfl (fun c1 => ?_) (fun c1 => ?_)
    · rw [if_pos c1] at h
      refine K_iconst (v := 0) rfl (by decide) ?_
      obtain rfl := Option.some.inj h
      exact K_iret rfl (Or.inr ⟨rfl, by decide⟩) ⟨rfl, rfl, hM⟩
    · rw [if_neg c1] at h
      refine K_iload_n rfl 1 rfl ?_
      refine K_aload_n rfl 0 rfl ?_
      refine K_gI rfl (st_s0 hS) hM rfl rfl 1 rfl ?_
      refine K_ic_ge rfl (fun c2 => ?_) (fun c2 => ?_)
      · rw [if_pos c2] at h
        refine K_iconst (v := 0) rfl (by decide) ?_
        obtain rfl := Option.some.inj h
        exact K_iret rfl (Or.inr ⟨rfl, by decide⟩) ⟨rfl, rfl, hM⟩
      · rw [if_neg c2] at h
        refine K_iload_n rfl 1 rfl ?_
        refine K_bipush (v := 11) rfl (by decide) ?_
        refine K_ic_ge rfl (fun c3 => ?_) (fun c3 => ?_)
        · rw [if_pos c3] at h
          refine K_iconst (v := 0) rfl (by decide) ?_
          obtain rfl := Option.some.inj h
          exact K_iret rfl (Or.inr ⟨rfl, by decide⟩) ⟨rfl, rfl, hM⟩
        · rw [if_neg c3] at h
          refine K_iconst (v := 1) rfl (by decide) ?_
          refine K_goto rfl ?_
          obtain rfl := Option.some.inj h
          exact K_iret rfl (Or.inr ⟨rfl, by decide⟩) ⟨rfl, rfl, hM⟩
set_option maxRecDepth 20000 in
theorem F_GraveRails_grave {X : mX} {x1 : Int32} {x2 : Int32} {M : mM} {r : Int32 × mM} (hM : Fx M)  (h : f_GraveRails_grave x1 x2 M = some r) : EV X (1 + 1) 65 [.ref 0, .int x1, .int x2] M (fun v M' => v = some (.int r.1) ∧ r.2 = M' ∧ Fx r.2) := by
    refine EV_of (lc := [(0, .ref 0), (1, .int x1), (2, .int x2)]) (Nat.le_of_ble_eq_true rfl) (by exact Nat.le_of_ble_eq_true rfl) (by exact List.forall_mem_cons.mpr ⟨rfl, List.forall_mem_cons.mpr ⟨rfl, List.forall_mem_cons.mpr ⟨rfl, fun _ h => absurd h List.not_mem_nil⟩⟩⟩) ?_
    unfold f_GraveRails_grave at h
    refine K_aload_n rfl 0 rfl ?_
    refine K_gR rfl sh_0 hM rfl rfl 5 rfl r_0_5 ?_
    refine K_gR rfl sh_20 hM rfl rfl 1 rfl r_20_1 ?_
    refine K_astore_n rfl ?_
    refine K_aload_n rfl 0 rfl ?_
    refine K_iload_n rfl 2 rfl ?_
    obtain ⟨r1, er1, h⟩ := Option.bind_eq_some_iff.mp h
    refine K_cV [.int x1] [] rfl rfl (Nat.le_of_ble_eq_true rfl) (Nat.le_of_ble_eq_true rfl) sh_29 hM rfl (EV_le (Nat.le_of_ble_eq_true rfl) (F_State_has hM st_29 er1)) (fun v' M' hq => ?_)
    obtain ⟨rfl, rfl, hr1⟩ := hq
    refine K_if_ne rfl (fun c2 => ?_) (fun c2 => ?_)
    · rw [if_neg c2] at h
      refine K_iload_n rfl 3 rfl ?_
      by_cases c4 : x2 = 0
      · rw [if_pos c4] at h
        refine K_ts (t := 68) rfl (fun _ => by rw [c4]; rfl) ?_
        refine K_aload_n rfl 0 rfl ?_
        refine K_gR rfl sh_29 hr1 rfl rfl 3 rfl r_29_3 ?_
        refine K_iload_n rfl 2 rfl ?_
        obtain ⟨v3, ev3, h⟩ := Option.bind_eq_some_iff.mp h
        refine K_rd rfl sh_30 hr1 ev3 ?_
        obtain rfl := Option.some.inj h
        exact K_iret rfl (Or.inl rfl) ⟨rfl, rfl, hr1⟩
      · rw [if_neg c4] at h
        by_cases c6 : x2 = 1
        · rw [if_pos c6] at h
          refine K_ts (t := 75) rfl (fun _ => by rw [c6]; rfl) ?_
          refine K_aload_n rfl 0 rfl ?_
          refine K_gR rfl sh_29 hr1 rfl rfl 4 rfl r_29_4 ?_
          refine K_iload_n rfl 2 rfl ?_
          obtain ⟨v5, ev5, h⟩ := Option.bind_eq_some_iff.mp h
          refine K_rd rfl sh_31 hr1 ev5 ?_
          obtain rfl := Option.some.inj h
          exact K_iret rfl (Or.inl rfl) ⟨rfl, rfl, hr1⟩
        · rw [if_neg c6] at h
          by_cases c8 : x2 = 2
          · rw [if_pos c8] at h
            refine K_ts (t := 82) rfl (fun _ => by rw [c8]; rfl) ?_
            refine K_aload_n rfl 0 rfl ?_
            refine K_gR rfl sh_29 hr1 rfl rfl 5 rfl r_29_5 ?_
            refine K_iload_n rfl 2 rfl ?_
            obtain ⟨v7, ev7, h⟩ := Option.bind_eq_some_iff.mp h
            refine K_rd rfl sh_32 hr1 ev7 ?_
            obtain rfl := Option.some.inj h
            exact K_iret rfl (Or.inl rfl) ⟨rfl, rfl, hr1⟩
          · rw [if_neg c8] at h
            by_cases c10 : x2 = 3
            · rw [if_pos c10] at h
              refine K_ts (t := 89) rfl (fun _ => by rw [c10]; rfl) ?_
              refine K_aload_n rfl 0 rfl ?_
              refine K_gR rfl sh_29 hr1 rfl rfl 6 rfl r_29_6 ?_
              refine K_iload_n rfl 2 rfl ?_
              obtain ⟨v9, ev9, h⟩ := Option.bind_eq_some_iff.mp h
              refine K_rd rfl sh_33 hr1 ev9 ?_
              obtain rfl := Option.some.inj h
              exact K_iret rfl (Or.inl rfl) ⟨rfl, rfl, hr1⟩
            · rw [if_neg c10] at h
              by_cases c12 : x2 = 4
              · rw [if_pos c12] at h
                refine K_ts (t := 96) rfl (fun _ => by rw [c12]; rfl) ?_
                refine K_aload_n rfl 0 rfl ?_
                refine K_gR rfl sh_29 hr1 rfl rfl 7 rfl r_29_7 ?_
                refine K_iload_n rfl 2 rfl ?_
                obtain ⟨v11, ev11, h⟩ := Option.bind_eq_some_iff.mp h
                refine K_rd rfl sh_34 hr1 ev11 ?_
                obtain rfl := Option.some.inj h
                exact K_iret rfl (Or.inl rfl) ⟨rfl, rfl, hr1⟩
              · rw [if_neg c12] at h
                by_cases c14 : x2 = 5
                · rw [if_pos c14] at h
                  refine K_ts (t := 103) rfl (fun _ => by rw [c14]; rfl) ?_
                  refine K_aload_n rfl 0 rfl ?_
                  refine K_gR rfl sh_29 hr1 rfl rfl 8 rfl r_29_8 ?_
                  refine K_iload_n rfl 2 rfl ?_
                  obtain ⟨v13, ev13, h⟩ := Option.bind_eq_some_iff.mp h
                  refine K_rd rfl sh_35 hr1 ev13 ?_
                  obtain rfl := Option.some.inj h
                  exact K_iret rfl (Or.inl rfl) ⟨rfl, rfl, hr1⟩
                · rw [if_neg c14] at h
                  by_cases c16 : x2 = 6
                  · rw [if_pos c16] at h
                    refine K_ts (t := 110) rfl (fun _ => by rw [c16]; rfl) ?_
                    refine K_aload_n rfl 1 rfl ?_
                    refine K_gR rfl sh_0 hr1 rfl rfl 5 rfl r_0_5 ?_
                    refine K_gR rfl sh_20 hr1 rfl rfl 0 rfl r_20_0 ?_
                    refine K_iload_n rfl 2 rfl ?_
                    obtain ⟨r15, er15, h⟩ := Option.bind_eq_some_iff.mp h
                    refine K_cV [.int x1] [] rfl rfl (Nat.le_of_ble_eq_true rfl) (Nat.le_of_ble_eq_true rfl) sh_21 hr1 rfl (EV_le (Nat.le_of_ble_eq_true rfl) (F_Yard_pairOf hr1 yd_21 er15)) (fun v' M' hq => ?_)
                    obtain ⟨rfl, rfl, hr15⟩ := hq
                    obtain rfl := Option.some.inj h
                    exact K_iret rfl (Or.inl rfl) ⟨rfl, rfl, hr15⟩
                  · rw [if_neg c16] at h
                    by_cases c18 : x2 = 7
                    · rw [if_pos c18] at h
                      refine K_ts (t := 122) rfl (fun _ => by rw [c18]; rfl) ?_
                      refine K_aload_n rfl 0 rfl ?_
                      refine K_gR rfl sh_29 hr1 rfl rfl 9 rfl r_29_9 ?_
                      refine K_iload_n rfl 2 rfl ?_
                      obtain ⟨v17, ev17, h⟩ := Option.bind_eq_some_iff.mp h
                      refine K_rd rfl sh_36 hr1 ev17 ?_
                      obtain rfl := Option.some.inj h
                      exact K_iret rfl (Or.inl rfl) ⟨rfl, rfl, hr1⟩
                    · rw [if_neg c18] at h
                      refine K_tsd rfl ?_ ?_
                      · have nc4 := lv_neT c4 (a := 0) rfl; have nc6 := lv_neT c6 (a := 1) rfl; have nc8 := lv_neT c8 (a := 2) rfl; have nc10 := lv_neT c10 (a := 3) rfl; have nc12 := lv_neT c12 (a := 4) rfl; have nc14 := lv_neT c14 (a := 5) rfl; have nc16 := lv_neT c16 (a := 6) rfl; have nc18 := lv_neT c18 (a := 7) rfl; omega
                      · refine K_bipush (v := (-2)) rfl (by decide) ?_
                        obtain rfl := Option.some.inj h
                        exact K_iret rfl (Or.inl rfl) ⟨rfl, rfl, hr1⟩
    · rw [if_pos c2] at h
      refine K_bipush (v := (-2)) rfl (by decide) ?_
      obtain rfl := Option.some.inj h
      exact K_iret rfl (Or.inl rfl) ⟨rfl, rfl, hr1⟩
set_option maxRecDepth 20000 in
theorem F_Yard_isHeavy {X : mX} {S : Nat} {x1 : Int32} {M : mM} {r : Int32 × mM} (hM : Fx M) (hS : is_yd S) (h : f_Yard_isHeavy S x1 M = some r) : EV X (0 + 1) 68 [.ref S, .int x1] M (fun v M' => v = some (.int r.1) ∧ r.2 = M' ∧ Fx r.2) := by
    refine EV_of (lc := [(0, .ref S), (1, .int x1)]) (Nat.le_of_ble_eq_true rfl) (by exact Nat.le_of_ble_eq_true rfl) (by exact List.forall_mem_cons.mpr ⟨rfl, List.forall_mem_cons.mpr ⟨rfl, fun _ h => absurd h List.not_mem_nil⟩⟩) ?_
    unfold f_Yard_isHeavy at h
    refine K_iload_n rfl 1 rfl ?_
    refine K_if_lt rfl (fun c1 => ?_) (fun c1 => ?_)
    · rw [if_pos c1] at h
      refine K_iconst (v := 0) rfl (by decide) ?_
      obtain rfl := Option.some.inj h
      exact K_iret rfl (Or.inr ⟨rfl, by decide⟩) ⟨rfl, rfl, hM⟩
    · rw [if_neg c1] at h
      refine K_iload_n rfl 1 rfl ?_
      refine K_bipush (v := 11) rfl (by decide) ?_
      refine K_ic_ge rfl (fun c2 => ?_) (fun c2 => ?_)
      · rw [if_pos c2] at h
        refine K_iconst (v := 0) rfl (by decide) ?_
        obtain rfl := Option.some.inj h
        exact K_iret rfl (Or.inr ⟨rfl, by decide⟩) ⟨rfl, rfl, hM⟩
      · rw [if_neg c2] at h
        refine K_aload_n rfl 0 rfl ?_
        refine K_gR rfl (yd_s0 hS) hM rfl rfl 7 rfl (yd_r7 hS) ?_
        refine K_iload_n rfl 1 rfl ?_
        obtain ⟨v3, ev3, h⟩ := Option.bind_eq_some_iff.mp h
        refine K_rd rfl (yd_s5 hS) hM ev3 ?_
        refine K_if_eq rfl (fun c4 => ?_) (fun c4 => ?_)
        · rw [if_pos c4] at h
          refine K_iconst (v := 0) rfl (by decide) ?_
          obtain rfl := Option.some.inj h
          exact K_iret rfl (Or.inr ⟨rfl, by decide⟩) ⟨rfl, rfl, hM⟩
        · rw [if_neg c4] at h
          refine K_iconst (v := 1) rfl (by decide) ?_
          refine K_goto rfl ?_
          obtain rfl := Option.some.inj h
          exact K_iret rfl (Or.inr ⟨rfl, by decide⟩) ⟨rfl, rfl, hM⟩
set_option maxRecDepth 20000 in
theorem L_State_graveAt_44 {X : mX} {S : Nat} {x1 : Int32} {x2 : Int32} {k8 : Int32 → mM → Option (Int32 × mM)} {r : Int32 × mM} (hS : is_st S) (hk8 : ∀ (l3 : Int32) (M : mM), Fx M → k8 l3 M = some r → KK X 0 69 8 [(0, .ref S), (1, .int x1), (2, .int x2), (3, .int l3)] [] M (fun v M' => v = some (.int r.1) ∧ r.2 = M' ∧ Fx r.2)) (l3 : Int32) (M : mM) (hM : Fx M)  (h : f_State_graveAt_44 S x1 x2 k8 l3 M = some r) : KK X 0 69 44 [(0, .ref S), (1, .int x1), (2, .int x2), (3, .int l3)] [] M (fun v M' => v = some (.int r.1) ∧ r.2 = M' ∧ Fx r.2) := by
    unfold f_State_graveAt_44 at h
    refine K_iinc (y := (l3 + 1)) rfl 3 rfl rfl ?_
    refine K_goto rfl ?_
    refine K_pick [1, 2, 3, 0] ?_
    exact hk8 _ _ hM  h
set_option maxRecDepth 20000 in
theorem L_State_graveAt_8 {X : mX} {S : Nat} {x1 : Int32} {x2 : Int32} {r : Int32 × mM} (hS : is_st S) : ∀ (n : Nat) (l3 : Int32) (M : mM), Fx M → f_State_graveAt_8 S x1 x2  n l3 M = some r → KK X 0 69 8 [(0, .ref S), (1, .int x1), (2, .int x2), (3, .int l3)] [] M (fun v M' => v = some (.int r.1) ∧ r.2 = M' ∧ Fx r.2)
  | 0, _, _ => fun _ h => by cases h
  | n + 1, l3, M => fun hM h => by
    unfold f_State_graveAt_8 at h
    refine K_iload_n rfl 3 rfl ?_
    refine K_aload_n rfl 0 rfl ?_
    refine K_gI rfl (st_s0 hS) hM rfl rfl 1 rfl ?_
    refine K_ic_ge rfl (fun c2 => ?_) (fun c2 => ?_)
    · rw [if_pos c2] at h
      refine K_iconst (v := (-1)) rfl (by decide) ?_
      obtain rfl := Option.some.inj h
      exact K_iret rfl (Or.inl rfl) ⟨rfl, rfl, hM⟩
    · rw [if_neg c2] at h
      refine K_iload_n rfl 3 rfl ?_
      refine K_bipush (v := 11) rfl (by decide) ?_
      refine K_ic_ge rfl (fun c3 => ?_) (fun c3 => ?_)
      · rw [if_pos c3] at h
        refine K_iconst (v := (-1)) rfl (by decide) ?_
        obtain rfl := Option.some.inj h
        exact K_iret rfl (Or.inl rfl) ⟨rfl, rfl, hM⟩
      · rw [if_neg c3] at h
        refine K_aload_n rfl 0 rfl ?_
        refine K_gR rfl (st_s0 hS) hM rfl rfl 4 rfl (st_r4 hS) ?_
        refine K_iload_n rfl 3 rfl ?_
        obtain ⟨v4, ev4, h⟩ := Option.bind_eq_some_iff.mp h
        refine K_rd rfl (st_s2 hS) hM ev4 ?_
        refine K_iload_n rfl 2 rfl ?_
        refine K_ic_ne rfl (fun c5 => ?_) (fun c5 => ?_)
        · rw [if_neg c5] at h
          refine K_pick [0, 1, 2, 3] ?_
          exact L_State_graveAt_44 hS  (L_State_graveAt_8 hS   n) _ _ hM  h
        · rw [if_pos c5] at h
          refine K_aload_n rfl 0 rfl ?_
          refine K_gR rfl (st_s0 hS) hM rfl rfl 3 rfl (st_r3 hS) ?_
          refine K_iload_n rfl 3 rfl ?_
          obtain ⟨v6, ev6, h⟩ := Option.bind_eq_some_iff.mp h
          refine K_rd rfl (st_s1 hS) hM ev6 ?_
          refine K_iload_n rfl 1 rfl ?_
          refine K_ic_ne rfl (fun c7 => ?_) (fun c7 => ?_)
          · rw [if_neg c7] at h
            refine K_pick [0, 1, 2, 3] ?_
            exact L_State_graveAt_44 hS  (L_State_graveAt_8 hS   n) _ _ hM  h
          · rw [if_pos c7] at h
            refine K_iload_n rfl 3 rfl ?_
            obtain rfl := Option.some.inj h
            exact K_iret rfl (Or.inl rfl) ⟨rfl, rfl, hM⟩
set_option maxRecDepth 20000 in
theorem F_State_graveAt {X : mX} {S : Nat} {x1 : Int32} {x2 : Int32} {M : mM} {r : Int32 × mM} (hM : Fx M) (hS : is_st S) (h : f_State_graveAt S x1 x2 M = some r) : EV X (0 + 1) 69 [.ref S, .int x1, .int x2] M (fun v M' => v = some (.int r.1) ∧ r.2 = M' ∧ Fx r.2) := by
    refine EV_of (lc := [(0, .ref S), (1, .int x1), (2, .int x2)]) (Nat.le_of_ble_eq_true rfl) (by exact Nat.le_of_ble_eq_true rfl) (by exact List.forall_mem_cons.mpr ⟨rfl, List.forall_mem_cons.mpr ⟨rfl, List.forall_mem_cons.mpr ⟨rfl, fun _ h => absurd h List.not_mem_nil⟩⟩⟩) ?_
    unfold f_State_graveAt at h
    refine K_iload_n rfl 2 rfl ?_
    refine K_if_ge rfl (fun c1 => ?_) (fun c1 => ?_)
    · rw [if_pos c1] at h
      refine K_iconst (v := 0) rfl (by decide) ?_
      refine K_istore_n rfl ?_
      refine K_pick [1, 2, 3, 0] ?_
      exact L_State_graveAt_8 hS   FUEL _ _ hM  h
    · rw [if_neg c1] at h
      refine K_iconst (v := (-1)) rfl (by decide) ?_
      obtain rfl := Option.some.inj h
      exact K_iret rfl (Or.inl rfl) ⟨rfl, rfl, hM⟩
set_option maxRecDepth 20000 in
theorem F_GraveRails_stone {X : mX} {x1 : Int32} {x2 : Int32} {M : mM} {r : Int32 × mM} (hM : Fx M)  (h : f_GraveRails_stone x1 x2 M = some r) : EV X (1 + 1) 67 [.ref 0, .int x1, .int x2] M (fun v M' => v = some (.int r.1) ∧ r.2 = M' ∧ Fx r.2) := by
    refine EV_of (lc := [(0, .ref 0), (1, .int x1), (2, .int x2)]) (Nat.le_of_ble_eq_true rfl) (by exact Nat.le_of_ble_eq_true rfl) (by exact List.forall_mem_cons.mpr ⟨rfl, List.forall_mem_cons.mpr ⟨rfl, List.forall_mem_cons.mpr ⟨rfl, fun _ h => absurd h List.not_mem_nil⟩⟩⟩) ?_
    unfold f_GraveRails_stone at h
    refine K_aload_n rfl 0 rfl ?_
    refine K_gR rfl sh_0 hM rfl rfl 5 rfl r_0_5 ?_
    refine K_gR rfl sh_20 hM rfl rfl 1 rfl r_20_1 ?_
    refine K_astore_n rfl ?_
    refine K_aload_n rfl 0 rfl ?_
    refine K_iload_n rfl 2 rfl ?_
    obtain ⟨r1, er1, h⟩ := Option.bind_eq_some_iff.mp h
    refine K_cV [.int x1] [] rfl rfl (Nat.le_of_ble_eq_true rfl) (Nat.le_of_ble_eq_true rfl) sh_29 hM rfl (EV_le (Nat.le_of_ble_eq_true rfl) (F_State_has hM st_29 er1)) (fun v' M' hq => ?_)
    obtain ⟨rfl, rfl, hr1⟩ := hq
    refine K_if_ne rfl (fun c2 => ?_) (fun c2 => ?_)
    · rw [if_neg c2] at h
      refine K_iload_n rfl 3 rfl ?_
      by_cases c4 : x2 = 0
      · rw [if_pos c4] at h
        refine K_ts (t := 52) rfl (fun _ => by rw [c4]; rfl) ?_
        refine K_aload_n rfl 0 rfl ?_
        refine K_gR rfl sh_29 hr1 rfl rfl 10 rfl r_29_10 ?_
        refine K_iload_n rfl 2 rfl ?_
        obtain ⟨v3, ev3, h⟩ := Option.bind_eq_some_iff.mp h
        refine K_rd rfl sh_37 hr1 ev3 ?_
        obtain rfl := Option.some.inj h
        exact K_iret rfl (Or.inl rfl) ⟨rfl, rfl, hr1⟩
      · rw [if_neg c4] at h
        by_cases c6 : x2 = 1
        · rw [if_pos c6] at h
          refine K_ts (t := 59) rfl (fun _ => by rw [c6]; rfl) ?_
          refine K_aload_n rfl 0 rfl ?_
          refine K_gR rfl sh_29 hr1 rfl rfl 11 rfl r_29_11 ?_
          refine K_iload_n rfl 2 rfl ?_
          obtain ⟨v5, ev5, h⟩ := Option.bind_eq_some_iff.mp h
          refine K_rd rfl sh_38 hr1 ev5 ?_
          obtain rfl := Option.some.inj h
          exact K_iret rfl (Or.inl rfl) ⟨rfl, rfl, hr1⟩
        · rw [if_neg c6] at h
          by_cases c9 : x2 = 2
          · rw [if_pos c9] at h
            refine K_ts (t := 66) rfl (fun _ => by rw [c9]; rfl) ?_
            refine K_aload_n rfl 1 rfl ?_
            refine K_gR rfl sh_0 hr1 rfl rfl 5 rfl r_0_5 ?_
            refine K_gR rfl sh_20 hr1 rfl rfl 0 rfl r_20_0 ?_
            refine K_iload_n rfl 2 rfl ?_
            obtain ⟨r7, er7, h⟩ := Option.bind_eq_some_iff.mp h
            refine K_cV [.int x1] [] rfl rfl (Nat.le_of_ble_eq_true rfl) (Nat.le_of_ble_eq_true rfl) sh_21 hr1 rfl (EV_le (Nat.le_of_ble_eq_true rfl) (F_Yard_isHeavy hr1 yd_21 er7)) (fun v' M' hq => ?_)
            obtain ⟨rfl, rfl, hr7⟩ := hq
            refine K_if_eq rfl (fun c8 => ?_) (fun c8 => ?_)
            · rw [if_pos c8] at h
              refine K_iconst (v := 0) rfl (by decide) ?_
              obtain rfl := Option.some.inj h
              exact K_iret rfl (Or.inl rfl) ⟨rfl, rfl, hr7⟩
            · rw [if_neg c8] at h
              refine K_iconst (v := 1) rfl (by decide) ?_
              refine K_goto rfl ?_
              obtain rfl := Option.some.inj h
              exact K_iret rfl (Or.inl rfl) ⟨rfl, rfl, hr7⟩
          · rw [if_neg c9] at h
            by_cases c13 : x2 = 3
            · rw [if_pos c13] at h
              refine K_ts (t := 86) rfl (fun _ => by rw [c13]; rfl) ?_
              refine K_aload_n rfl 0 rfl ?_
              refine K_aload_n rfl 0 rfl ?_
              refine K_gR rfl sh_29 hr1 rfl rfl 10 rfl r_29_10 ?_
              refine K_iload_n rfl 2 rfl ?_
              obtain ⟨v10, ev10, h⟩ := Option.bind_eq_some_iff.mp h
              refine K_rd rfl sh_37 hr1 ev10 ?_
              refine K_aload_n rfl 0 rfl ?_
              refine K_gR rfl sh_29 hr1 rfl rfl 11 rfl r_29_11 ?_
              refine K_iload_n rfl 2 rfl ?_
              obtain ⟨v11, ev11, h⟩ := Option.bind_eq_some_iff.mp h
              refine K_rd rfl sh_38 hr1 ev11 ?_
              obtain ⟨r12, er12, h⟩ := Option.bind_eq_some_iff.mp h
              refine K_cV [.int v10, .int v11] [] rfl rfl (Nat.le_of_ble_eq_true rfl) (Nat.le_of_ble_eq_true rfl) sh_29 hr1 rfl (EV_le (Nat.le_of_ble_eq_true rfl) (F_State_graveAt hr1 st_29 er12)) (fun v' M' hq => ?_)
              obtain ⟨rfl, rfl, hr12⟩ := hq
              obtain rfl := Option.some.inj h
              exact K_iret rfl (Or.inl rfl) ⟨rfl, rfl, hr12⟩
            · rw [if_neg c13] at h
              refine K_tsd rfl ?_ ?_
              · have nc4 := lv_neT c4 (a := 0) rfl; have nc6 := lv_neT c6 (a := 1) rfl; have nc9 := lv_neT c9 (a := 2) rfl; have nc13 := lv_neT c13 (a := 3) rfl; omega
              · refine K_bipush (v := (-2)) rfl (by decide) ?_
                obtain rfl := Option.some.inj h
                exact K_iret rfl (Or.inl rfl) ⟨rfl, rfl, hr1⟩
    · rw [if_pos c2] at h
      refine K_bipush (v := (-2)) rfl (by decide) ?_
      obtain rfl := Option.some.inj h
      exact K_iret rfl (Or.inl rfl) ⟨rfl, rfl, hr1⟩
set_option maxRecDepth 20000 in
theorem F_GraveRails_at {X : mX} {x1 : Int32} {x2 : Int32} {M : mM} {r : Int32 × mM} (hM : Fx M)  (h : f_GraveRails_at x1 x2 M = some r) : EV X (1 + 1) 70 [.ref 0, .int x1, .int x2] M (fun v M' => v = some (.int r.1) ∧ r.2 = M' ∧ Fx r.2) := by
    refine EV_of (lc := [(0, .ref 0), (1, .int x1), (2, .int x2)]) (Nat.le_of_ble_eq_true rfl) (by exact Nat.le_of_ble_eq_true rfl) (by exact List.forall_mem_cons.mpr ⟨rfl, List.forall_mem_cons.mpr ⟨rfl, List.forall_mem_cons.mpr ⟨rfl, fun _ h => absurd h List.not_mem_nil⟩⟩⟩) ?_
    unfold f_GraveRails_at at h
    refine K_aload_n rfl 0 rfl ?_
    refine K_gR rfl sh_0 hM rfl rfl 5 rfl r_0_5 ?_
    refine K_gR rfl sh_20 hM rfl rfl 0 rfl r_20_0 ?_
    refine K_iload_n rfl 1 rfl ?_
    refine K_iload_n rfl 2 rfl ?_
    obtain ⟨r1, er1, h⟩ := Option.bind_eq_some_iff.mp h
    refine K_cV [.int x1, .int x2] [] rfl rfl (Nat.le_of_ble_eq_true rfl) (Nat.le_of_ble_eq_true rfl) sh_21 hM rfl (EV_le (Nat.le_of_ble_eq_true rfl) (F_Yard_hasPlace hM yd_21 er1)) (fun v' M' hq => ?_)
    obtain ⟨rfl, rfl, hr1⟩ := hq
    refine K_if_eq rfl (fun c2 => ?_) (fun c2 => ?_)
    · rw [if_pos c2] at h
      refine K_bipush (v := (-2)) rfl (by decide) ?_
      obtain rfl := Option.some.inj h
      exact K_iret rfl (Or.inl rfl) ⟨rfl, rfl, hr1⟩
    · rw [if_neg c2] at h
      refine K_aload_n rfl 0 rfl ?_
      refine K_gR rfl sh_0 hr1 rfl rfl 5 rfl r_0_5 ?_
      refine K_gR rfl sh_20 hr1 rfl rfl 1 rfl r_20_1 ?_
      refine K_iload_n rfl 1 rfl ?_
      refine K_iload_n rfl 2 rfl ?_
      obtain ⟨r3, er3, h⟩ := Option.bind_eq_some_iff.mp h
      refine K_cV [.int x1, .int x2] [] rfl rfl (Nat.le_of_ble_eq_true rfl) (Nat.le_of_ble_eq_true rfl) sh_29 hr1 rfl (EV_le (Nat.le_of_ble_eq_true rfl) (F_State_graveAt hr1 st_29 er3)) (fun v' M' hq => ?_)
      obtain ⟨rfl, rfl, hr3⟩ := hq
      refine K_goto rfl ?_
      obtain rfl := Option.some.inj h
      exact K_iret rfl (Or.inl rfl) ⟨rfl, rfl, hr3⟩
set_option maxRecDepth 20000 in
theorem F_GraveRails_root {X : mX} {x1 : Int32} {x2 : Int32} {M : mM} {r : Int32 × mM} (hM : Fx M)  (h : f_GraveRails_root x1 x2 M = some r) : EV X (1 + 1) 71 [.ref 0, .int x1, .int x2] M (fun v M' => v = some (.int r.1) ∧ r.2 = M' ∧ Fx r.2) := by
    refine EV_of (lc := [(0, .ref 0), (1, .int x1), (2, .int x2)]) (Nat.le_of_ble_eq_true rfl) (by exact Nat.le_of_ble_eq_true rfl) (by exact List.forall_mem_cons.mpr ⟨rfl, List.forall_mem_cons.mpr ⟨rfl, List.forall_mem_cons.mpr ⟨rfl, fun _ h => absurd h List.not_mem_nil⟩⟩⟩) ?_
    unfold f_GraveRails_root at h
    refine K_aload_n rfl 0 rfl ?_
    refine K_gR rfl sh_0 hM rfl rfl 5 rfl r_0_5 ?_
    refine K_gR rfl sh_20 hM rfl rfl 0 rfl r_20_0 ?_
    refine K_iload_n rfl 1 rfl ?_
    refine K_iload_n rfl 2 rfl ?_
    obtain ⟨r1, er1, h⟩ := Option.bind_eq_some_iff.mp h
    refine K_cV [.int x1, .int x2] [] rfl rfl (Nat.le_of_ble_eq_true rfl) (Nat.le_of_ble_eq_true rfl) sh_21 hM rfl (EV_le (Nat.le_of_ble_eq_true rfl) (F_Yard_hasPlace hM yd_21 er1)) (fun v' M' hq => ?_)
    obtain ⟨rfl, rfl, hr1⟩ := hq
    refine K_if_eq rfl (fun c2 => ?_) (fun c2 => ?_)
    · rw [if_pos c2] at h
      refine K_iconst (v := (-1)) rfl (by decide) ?_
      obtain rfl := Option.some.inj h
      exact K_iret rfl (Or.inl rfl) ⟨rfl, rfl, hr1⟩
    · rw [if_neg c2] at h
      refine K_aload_n rfl 0 rfl ?_
      refine K_gR rfl sh_0 hr1 rfl rfl 5 rfl r_0_5 ?_
      refine K_gR rfl sh_20 hr1 rfl rfl 0 rfl r_20_0 ?_
      refine K_iload_n rfl 1 rfl ?_
      refine K_iload_n rfl 2 rfl ?_
      obtain ⟨r3, er3, h⟩ := Option.bind_eq_some_iff.mp h
      refine K_cV [.int x1, .int x2] [] rfl rfl (Nat.le_of_ble_eq_true rfl) (Nat.le_of_ble_eq_true rfl) sh_21 hr1 rfl (EV_le (Nat.le_of_ble_eq_true rfl) (F_Yard_rootAt hr1 yd_21 er3)) (fun v' M' hq => ?_)
      obtain ⟨rfl, rfl, hr3⟩ := hq
      refine K_goto rfl ?_
      obtain rfl := Option.some.inj h
      exact K_iret rfl (Or.inl rfl) ⟨rfl, rfl, hr3⟩
set_option maxRecDepth 20000 in
theorem F_Yard_isTold {X : mX} {S : Nat} {M : mM} {r : Int32 × mM} (hM : Fx M) (hS : is_yd S) (h : f_Yard_isTold S M = some r) : EV X (0 + 1) 73 [.ref S] M (fun v M' => v = some (.int r.1) ∧ r.2 = M' ∧ Fx r.2) := by
    refine EV_of (lc := [(0, .ref S)]) (Nat.le_of_ble_eq_true rfl) (by exact Nat.le_of_ble_eq_true rfl) (by exact List.forall_mem_cons.mpr ⟨rfl, fun _ h => absurd h List.not_mem_nil⟩) ?_
    unfold f_Yard_isTold at h
    refine K_aload_n rfl 0 rfl ?_
    refine K_gI rfl (yd_s0 hS) hM rfl rfl 0 rfl ?_
    refine K_if_le rfl (fun c1 => ?_) (fun c1 => ?_)
    · rw [if_pos c1] at h
      refine K_iconst (v := 0) rfl (by decide) ?_
      obtain rfl := Option.some.inj h
      exact K_iret rfl (Or.inr ⟨rfl, by decide⟩) ⟨rfl, rfl, hM⟩
    · rw [if_neg c1] at h
      refine K_iconst (v := 1) rfl (by decide) ?_
      refine K_goto rfl ?_
      obtain rfl := Option.some.inj h
      exact K_iret rfl (Or.inr ⟨rfl, by decide⟩) ⟨rfl, rfl, hM⟩
set_option maxRecDepth 20000 in
theorem F_Acts_nextOne {X : mX}  {M : mM} {r : Option Nat × mM} (hM : Fx M)  (h : f_Acts_nextOne  M = some r) : EV X (0 + 1) 75 [.ref 44] M (fun v M' => v = some (va_rf r.1) ∧ r.2 = M' ∧ Fx r.2) := by
    refine EV_of (lc := [(0, .ref 44)]) (Nat.le_of_ble_eq_true rfl) (by exact Nat.le_of_ble_eq_true rfl) (by exact List.forall_mem_cons.mpr ⟨rfl, fun _ h => absurd h List.not_mem_nil⟩) ?_
    unfold f_Acts_nextOne at h
    refine K_aload_n rfl 0 rfl ?_
    refine K_gI rfl sh_44 hM rfl rfl 1 rfl ?_
    refine K_if_lt rfl (fun c1 => ?_) (fun c1 => ?_)
    · rw [if_pos c1] at h
      refine K_null rfl ?_
      obtain rfl := Option.some.inj h
      exact K_aret (r := none) rfl (Or.inr (Or.inr rfl)) ⟨rfl, rfl, hM⟩
    · rw [if_neg c1] at h
      refine K_aload_n rfl 0 rfl ?_
      refine K_gI rfl sh_44 hM rfl rfl 1 rfl ?_
      refine K_aload_n rfl 0 rfl ?_
      refine K_gR rfl sh_44 hM rfl rfl 2 rfl r_44_2 ?_
      refine K_aln (v := 20) rfl sh_45 hM (by decide) (by decide) ?_
      refine K_ic_ge rfl (fun c2 => ?_) (fun c2 => ?_)
      · rw [if_pos c2] at h
        refine K_null rfl ?_
        obtain rfl := Option.some.inj h
        exact K_aret (r := none) rfl (Or.inr (Or.inr rfl)) ⟨rfl, rfl, hM⟩
      · rw [if_neg c2] at h
        refine K_aload_n rfl 0 rfl ?_
        refine K_gR rfl sh_44 hM rfl rfl 2 rfl r_44_2 ?_
        refine K_aload_n rfl 0 rfl ?_
        refine K_gI rfl sh_44 hM rfl rfl 1 rfl ?_
        obtain ⟨j3, ej3, h⟩ := Option.bind_eq_some_iff.mp h
        refine K_rdA rfl sh_45 (by decide) hM ej3 (ar_st (ix_i ej3).2.2).2 ?_
        refine K_goto rfl ?_
        obtain rfl := Option.some.inj h
        exact K_aret (r := (some (46 + 10 * j3))) rfl (Or.inr (Or.inr rfl)) ⟨rfl, rfl, hM⟩
set_option maxRecDepth 20000 in
theorem F_State_copyFrom {X : mX} {S : Nat} {x1 : Nat} {M : mM} {r : mM} (hM : Fx M) (hS : is_st S) (hx1 : is_st x1) (h : f_State_copyFrom S x1 M = some r) : EV X (0 + 1) 76 [.ref S, .ref x1] M (fun v M' => v = none ∧ r = M' ∧ Fx r) := by
    refine EV_of (lc := [(0, .ref S), (1, .ref x1)]) (Nat.le_of_ble_eq_true rfl) (by exact Nat.le_of_ble_eq_true rfl) (by exact List.forall_mem_cons.mpr ⟨rfl, List.forall_mem_cons.mpr ⟨rfl, fun _ h => absurd h List.not_mem_nil⟩⟩) ?_
    unfold f_State_copyFrom at h
    refine K_aload_n rfl 0 rfl ?_
    refine K_aload_n rfl 1 rfl ?_
    refine K_gI rfl (st_s0 hx1) hM rfl rfl 0 rfl ?_
    obtain ⟨M1, eM1, h⟩ := Option.bind_eq_some_iff.mp h
    refine K_pI rfl (st_s0 hS) hM rfl rfl 0 rfl eM1 (fun hM1 => ?_)
    refine K_aload_n rfl 0 rfl ?_
    refine K_aload_n rfl 1 rfl ?_
    refine K_gI rfl (st_s0 hx1) hM1 rfl rfl 1 rfl ?_
    obtain ⟨M2, eM2, h⟩ := Option.bind_eq_some_iff.mp h
    refine K_pI rfl (st_s0 hS) hM1 rfl rfl 1 rfl eM2 (fun hM2 => ?_)
    refine K_aload_n rfl 0 rfl ?_
    refine K_aload_n rfl 1 rfl ?_
    refine K_gI rfl (st_s0 hx1) hM2 rfl rfl 2 rfl ?_
    obtain ⟨M3, eM3, h⟩ := Option.bind_eq_some_iff.mp h
    refine K_pI rfl (st_s0 hS) hM2 rfl rfl 2 rfl eM3 (fun hM3 => ?_)
    refine K_aload_n rfl 1 rfl ?_
    refine K_gR rfl (st_s0 hx1) hM3 rfl rfl 3 rfl (st_r3 hx1) ?_
    refine K_iconst (v := 0) rfl (by decide) ?_
    refine K_aload_n rfl 0 rfl ?_
    refine K_gR rfl (st_s0 hS) hM3 rfl rfl 3 rfl (st_r3 hS) ?_
    refine K_iconst (v := 0) rfl (by decide) ?_
    refine K_bipush (v := 11) rfl (by decide) ?_
    obtain ⟨M4, eM4, h⟩ := Option.bind_eq_some_iff.mp h
    refine K_pC rfl (st_s1 hx1) (st_s1 hS) hM3 (by decide) (Nat.le_of_ble_eq_true rfl) eM4 (fun hM4 => ?_)
    refine K_aload_n rfl 1 rfl ?_
    refine K_gR rfl (st_s0 hx1) hM4 rfl rfl 4 rfl (st_r4 hx1) ?_
    refine K_iconst (v := 0) rfl (by decide) ?_
    refine K_aload_n rfl 0 rfl ?_
    refine K_gR rfl (st_s0 hS) hM4 rfl rfl 4 rfl (st_r4 hS) ?_
    refine K_iconst (v := 0) rfl (by decide) ?_
    refine K_bipush (v := 11) rfl (by decide) ?_
    obtain ⟨M5, eM5, h⟩ := Option.bind_eq_some_iff.mp h
    refine K_pC rfl (st_s2 hx1) (st_s2 hS) hM4 (by decide) (Nat.le_of_ble_eq_true rfl) eM5 (fun hM5 => ?_)
    refine K_aload_n rfl 1 rfl ?_
    refine K_gR rfl (st_s0 hx1) hM5 rfl rfl 5 rfl (st_r5 hx1) ?_
    refine K_iconst (v := 0) rfl (by decide) ?_
    refine K_aload_n rfl 0 rfl ?_
    refine K_gR rfl (st_s0 hS) hM5 rfl rfl 5 rfl (st_r5 hS) ?_
    refine K_iconst (v := 0) rfl (by decide) ?_
    refine K_bipush (v := 11) rfl (by decide) ?_
    obtain ⟨M6, eM6, h⟩ := Option.bind_eq_some_iff.mp h
    refine K_pC rfl (st_s3 hx1) (st_s3 hS) hM5 (by decide) (Nat.le_of_ble_eq_true rfl) eM6 (fun hM6 => ?_)
    refine K_aload_n rfl 1 rfl ?_
    refine K_gR rfl (st_s0 hx1) hM6 rfl rfl 6 rfl (st_r6 hx1) ?_
    refine K_iconst (v := 0) rfl (by decide) ?_
    refine K_aload_n rfl 0 rfl ?_
    refine K_gR rfl (st_s0 hS) hM6 rfl rfl 6 rfl (st_r6 hS) ?_
    refine K_iconst (v := 0) rfl (by decide) ?_
    refine K_bipush (v := 11) rfl (by decide) ?_
    obtain ⟨M7, eM7, h⟩ := Option.bind_eq_some_iff.mp h
    refine K_pC rfl (st_s4 hx1) (st_s4 hS) hM6 (by decide) (Nat.le_of_ble_eq_true rfl) eM7 (fun hM7 => ?_)
    refine K_aload_n rfl 1 rfl ?_
    refine K_gR rfl (st_s0 hx1) hM7 rfl rfl 7 rfl (st_r7 hx1) ?_
    refine K_iconst (v := 0) rfl (by decide) ?_
    refine K_aload_n rfl 0 rfl ?_
    refine K_gR rfl (st_s0 hS) hM7 rfl rfl 7 rfl (st_r7 hS) ?_
    refine K_iconst (v := 0) rfl (by decide) ?_
    refine K_bipush (v := 11) rfl (by decide) ?_
    obtain ⟨M8, eM8, h⟩ := Option.bind_eq_some_iff.mp h
    refine K_pC rfl (st_s5 hx1) (st_s5 hS) hM7 (by decide) (Nat.le_of_ble_eq_true rfl) eM8 (fun hM8 => ?_)
    refine K_aload_n rfl 1 rfl ?_
    refine K_gR rfl (st_s0 hx1) hM8 rfl rfl 8 rfl (st_r8 hx1) ?_
    refine K_iconst (v := 0) rfl (by decide) ?_
    refine K_aload_n rfl 0 rfl ?_
    refine K_gR rfl (st_s0 hS) hM8 rfl rfl 8 rfl (st_r8 hS) ?_
    refine K_iconst (v := 0) rfl (by decide) ?_
    refine K_bipush (v := 11) rfl (by decide) ?_
    obtain ⟨M9, eM9, h⟩ := Option.bind_eq_some_iff.mp h
    refine K_pC rfl (st_s6 hx1) (st_s6 hS) hM8 (by decide) (Nat.le_of_ble_eq_true rfl) eM9 (fun hM9 => ?_)
    refine K_aload_n rfl 1 rfl ?_
    refine K_gR rfl (st_s0 hx1) hM9 rfl rfl 9 rfl (st_r9 hx1) ?_
    refine K_iconst (v := 0) rfl (by decide) ?_
    refine K_aload_n rfl 0 rfl ?_
    refine K_gR rfl (st_s0 hS) hM9 rfl rfl 9 rfl (st_r9 hS) ?_
    refine K_iconst (v := 0) rfl (by decide) ?_
    refine K_bipush (v := 11) rfl (by decide) ?_
    obtain ⟨M10, eM10, h⟩ := Option.bind_eq_some_iff.mp h
    refine K_pC rfl (st_s7 hx1) (st_s7 hS) hM9 (by decide) (Nat.le_of_ble_eq_true rfl) eM10 (fun hM10 => ?_)
    refine K_aload_n rfl 1 rfl ?_
    refine K_gR rfl (st_s0 hx1) hM10 rfl rfl 10 rfl (st_r10 hx1) ?_
    refine K_iconst (v := 0) rfl (by decide) ?_
    refine K_aload_n rfl 0 rfl ?_
    refine K_gR rfl (st_s0 hS) hM10 rfl rfl 10 rfl (st_r10 hS) ?_
    refine K_iconst (v := 0) rfl (by decide) ?_
    refine K_bipush (v := 11) rfl (by decide) ?_
    obtain ⟨M11, eM11, h⟩ := Option.bind_eq_some_iff.mp h
    refine K_pC rfl (st_s8 hx1) (st_s8 hS) hM10 (by decide) (Nat.le_of_ble_eq_true rfl) eM11 (fun hM11 => ?_)
    refine K_aload_n rfl 1 rfl ?_
    refine K_gR rfl (st_s0 hx1) hM11 rfl rfl 11 rfl (st_r11 hx1) ?_
    refine K_iconst (v := 0) rfl (by decide) ?_
    refine K_aload_n rfl 0 rfl ?_
    refine K_gR rfl (st_s0 hS) hM11 rfl rfl 11 rfl (st_r11 hS) ?_
    refine K_iconst (v := 0) rfl (by decide) ?_
    refine K_bipush (v := 11) rfl (by decide) ?_
    obtain ⟨M12, eM12, h⟩ := Option.bind_eq_some_iff.mp h
    refine K_pC rfl (st_s9 hx1) (st_s9 hS) hM11 (by decide) (Nat.le_of_ble_eq_true rfl) eM12 (fun hM12 => ?_)
    obtain rfl := Option.some.inj h
    exact K_vret rfl rfl ⟨rfl, rfl, hM12⟩
set_option maxRecDepth 20000 in
theorem F_Acts_keep {X : mX} {x1 : Nat} {M : mM} {r : mM} (hM : Fx M) (hx1 : is_st x1) (h : f_Acts_keep x1 M = some r) : EV X (1 + 1) 74 [.ref 44, .ref x1] M (fun v M' => v = none ∧ r = M' ∧ Fx r) := by
    refine EV_of (lc := [(0, .ref 44), (1, .ref x1)]) (Nat.le_of_ble_eq_true rfl) (by exact Nat.le_of_ble_eq_true rfl) (by exact List.forall_mem_cons.mpr ⟨rfl, List.forall_mem_cons.mpr ⟨rfl, fun _ h => absurd h List.not_mem_nil⟩⟩) ?_
    unfold f_Acts_keep at h
    refine K_aload_n rfl 0 rfl ?_
    obtain ⟨r1, er1, h⟩ := Option.bind_eq_some_iff.mp h
    refine K_cV [] [] rfl rfl (Nat.le_of_ble_eq_true rfl) (Nat.le_of_ble_eq_true rfl) sh_44 hM rfl (EV_le (Nat.le_of_ble_eq_true rfl) (F_Acts_nextOne hM  er1)) (fun v' M' hq => ?_)
    obtain ⟨rfl, rfl, hr1⟩ := hq
    refine K_astore_nq rfl ?_
    refine K_aload_nq rfl 0 rfl ?_
    refine K_ifnonnull rfl (fun c6 => ?_) (fun y7 c6 => ?_)
    · rw [if_pos c6] at h
      obtain rfl := Option.some.inj h
      exact K_vret rfl rfl ⟨rfl, rfl, hr1⟩
    · rw [if_neg (by rw [c6]; exact fun z => by cases z)] at h
      refine K_aload_nq rfl 0 rfl ?_
      refine K_aload_n rfl 2 rfl ?_
      obtain ⟨y2, ey2, h⟩ := Option.bind_eq_some_iff.mp h
      rw [show va_rf r1.1 = Value.ref y2 from by rw [(nnl_i ey2).1]; rfl]
      obtain ⟨M3, eM3, h⟩ := Option.bind_eq_some_iff.mp h
      refine K_cV [.ref x1] [] rfl rfl (Nat.le_of_ble_eq_true rfl) (Nat.le_of_ble_eq_true rfl) (st_s0 (nnl_i ey2).2) hr1 rfl (EV_le (Nat.le_of_ble_eq_true rfl) (F_State_copyFrom hr1 (nnl_i ey2).2 hx1 eM3)) (fun v' M' hq => ?_)
      obtain ⟨rfl, rfl, hM3⟩ := hq
      refine K_aload_n rfl 1 rfl ?_
      refine K_aload_n rfl 1 rfl ?_
      refine K_gI rfl sh_44 hM3 rfl rfl 1 rfl ?_
      refine K_iconst (v := 1) rfl (by decide) ?_
      refine K_iadd rfl ?_
      refine K_bipush (v := 20) rfl (by decide) ?_
      refine K_irem rfl (by decide) ?_
      obtain ⟨M4, eM4, h⟩ := Option.bind_eq_some_iff.mp h
      refine K_pI rfl sh_44 hM3 rfl rfl 1 rfl eM4 (fun hM4 => ?_)
      refine K_aload_n rfl 1 rfl ?_
      refine K_aload_n rfl 1 rfl ?_
      refine K_gI rfl sh_44 hM4 rfl rfl 0 rfl ?_
      refine K_iconst (v := 1) rfl (by decide) ?_
      refine K_iadd rfl ?_
      refine K_bipush (v := 20) rfl (by decide) ?_
      refine K_min rfl (Nat.le_of_ble_eq_true rfl) ?_
      obtain ⟨M5, eM5, h⟩ := Option.bind_eq_some_iff.mp h
      refine K_pI rfl sh_44 hM4 rfl rfl 0 rfl eM5 (fun hM5 => ?_)
      obtain rfl := Option.some.inj h
      exact K_vret rfl rfl ⟨rfl, rfl, hM5⟩
set_option maxRecDepth 20000 in
theorem F_GraveRails_ruleInForce {X : mX}  {M : mM} {r : Option Nat × mM} (hM : Fx M)  (h : f_GraveRails_ruleInForce  M = some r) : EV X (0 + 1) 78 [.ref 0] M (fun v M' => v = some (va_rf r.1) ∧ r.2 = M' ∧ Fx r.2) := by
    refine EV_of (lc := [(0, .ref 0)]) (Nat.le_of_ble_eq_true rfl) (by exact Nat.le_of_ble_eq_true rfl) (by exact List.forall_mem_cons.mpr ⟨rfl, fun _ h => absurd h List.not_mem_nil⟩) ?_
    unfold f_GraveRails_ruleInForce at h
    refine K_aload_n rfl 0 rfl ?_
    refine K_gR rfl sh_0 hM rfl rfl 5 rfl r_0_5 ?_
    refine K_gI rfl sh_20 hM rfl rfl 3 rfl ?_
    refine K_istore_n rfl ?_
    refine K_iload_n rfl 0 rfl ?_
    refine K_if_lt rfl (fun c1 => ?_) (fun c1 => ?_)
    · rw [if_pos c1] at h
      refine K_null rfl ?_
      obtain rfl := Option.some.inj h
      exact K_aret (r := none) rfl (Or.inl rfl) ⟨rfl, rfl, hM⟩
    · rw [if_neg c1] at h
      refine K_iload_n rfl 0 rfl ?_
      refine K_aload_n rfl 1 rfl ?_
      refine K_gI rfl sh_0 hM rfl rfl 4 rfl ?_
      refine K_ic_ge rfl (fun c2 => ?_) (fun c2 => ?_)
      · rw [if_pos c2] at h
        refine K_null rfl ?_
        obtain rfl := Option.some.inj h
        exact K_aret (r := none) rfl (Or.inl rfl) ⟨rfl, rfl, hM⟩
      · rw [if_neg c2] at h
        refine K_iload_n rfl 0 rfl ?_
        refine K_aload_n rfl 1 rfl ?_
        refine K_gR rfl sh_0 hM rfl rfl 3 rfl r_0_3 ?_
        refine K_aln (v := 6) rfl sh_19 hM (by decide) (by decide) ?_
        refine K_ic_ge rfl (fun c3 => ?_) (fun c3 => ?_)
        · rw [if_pos c3] at h
          refine K_null rfl ?_
          obtain rfl := Option.some.inj h
          exact K_aret (r := none) rfl (Or.inl rfl) ⟨rfl, rfl, hM⟩
        · rw [if_neg c3] at h
          refine K_aload_n rfl 1 rfl ?_
          refine K_gR rfl sh_0 hM rfl rfl 3 rfl r_0_3 ?_
          refine K_iload_n rfl 0 rfl ?_
          obtain ⟨j4, ej4, h⟩ := Option.bind_eq_some_iff.mp h
          refine K_rdA rfl sh_19 (by decide) hM ej4 (ar_ru (ix_i ej4).2.2).2 ?_
          refine K_goto rfl ?_
          obtain rfl := Option.some.inj h
          exact K_aret (r := (some (308 + 6 * j4))) rfl (Or.inl rfl) ⟨rfl, rfl, hM⟩
set_option maxRecDepth 20000 in
theorem L_Course_start_13 {X : mX} {x1 : Nat} {x2 : Nat} {x3 : Option Nat} {r : mM} (hx1 : is_yd x1) (hx2 : is_st x2)  (M : mM) (hM : Fx M)  (h : f_Course_start_13 x1 x2 x3   M = some r) : KK X 1 79 13 [(0, .ref 246), (2, .ref x2), (3, va_rf x3)] [.ref x1, .ref 246] M (fun v M' => v = none ∧ r = M' ∧ Fx r) := by
    unfold f_Course_start_13 at h
    obtain ⟨M1, eM1, h⟩ := Option.bind_eq_some_iff.mp h
    refine K_pR rfl sh_246 hM rfl rfl 5 rfl mu_246_5 eM1 (fun hM1 => ?_)
    refine K_aload_n rfl 0 rfl ?_
    refine K_aload_nq rfl 2 rfl ?_
    obtain ⟨M2, eM2, h⟩ := Option.bind_eq_some_iff.mp h
    refine K_pQ rfl sh_246 hM1 rfl rfl 6 rfl mu_246_6 eM2 (fun hM2 => ?_)
    refine K_aload_n rfl 0 rfl ?_
    refine K_iconst (v := 0) rfl (by decide) ?_
    obtain ⟨M3, eM3, h⟩ := Option.bind_eq_some_iff.mp h
    refine K_pI rfl sh_246 hM2 rfl rfl 2 rfl eM3 (fun hM3 => ?_)
    refine K_aload_n rfl 0 rfl ?_
    refine K_iconst (v := 0) rfl (by decide) ?_
    obtain ⟨M4, eM4, h⟩ := Option.bind_eq_some_iff.mp h
    refine K_pI rfl sh_246 hM3 rfl rfl 3 rfl eM4 (fun hM4 => ?_)
    refine K_aload_n rfl 0 rfl ?_
    refine K_iconst (v := 0) rfl (by decide) ?_
    obtain ⟨M5, eM5, h⟩ := Option.bind_eq_some_iff.mp h
    refine K_pZ rfl sh_246 hM4 rfl rfl 4 rfl eM5 (fun hM5 => ?_)
    refine K_aload_n rfl 1 rfl ?_
    refine K_ifnullR rfl ?_
    refine K_aload_n rfl 0 rfl ?_
    refine K_gR rfl sh_246 hM5 rfl rfl 0 rfl r_246_0 ?_
    refine K_aload_n rfl 1 rfl ?_
    obtain ⟨M6, eM6, h⟩ := Option.bind_eq_some_iff.mp h
    refine K_cV [.ref x2] [] rfl rfl (Nat.le_of_ble_eq_true rfl) (Nat.le_of_ble_eq_true rfl) sh_247 hM5 rfl (EV_le (Nat.le_of_ble_eq_true rfl) (F_State_copyFrom hM5 st_247 hx2 eM6)) (fun v' M' hq => ?_)
    obtain ⟨rfl, rfl, hM6⟩ := hq
    obtain rfl := Option.some.inj h
    exact K_vret rfl rfl ⟨rfl, rfl, hM6⟩
set_option maxRecDepth 20000 in
theorem F_Course_start {X : mX} {x1 : Nat} {x2 : Nat} {x3 : Option Nat} {M : mM} {r : mM} (hM : Fx M) (hx1 : is_yd x1) (hx2 : is_st x2) (h : f_Course_start x1 x2 x3 M = some r) : EV X (1 + 1) 79 [.ref 246, .ref x1, .ref x2, va_rf x3] M (fun v M' => v = none ∧ r = M' ∧ Fx r) := by
    refine EV_of (lc := [(0, .ref 246), (1, .ref x1), (2, .ref x2), (3, va_rf x3)]) (Nat.le_of_ble_eq_true rfl) (by cases x3 <;> exact Nat.le_of_ble_eq_true rfl) (by cases x3 <;> exact List.forall_mem_cons.mpr ⟨rfl, List.forall_mem_cons.mpr ⟨rfl, List.forall_mem_cons.mpr ⟨rfl, List.forall_mem_cons.mpr ⟨rfl, fun _ h => absurd h List.not_mem_nil⟩⟩⟩⟩) ?_
    unfold f_Course_start at h
    refine K_aload_n rfl 0 rfl ?_
    refine K_aload_n rfl 1 rfl ?_
    refine K_ifnonnullR rfl ?_
    refine K_aload_n rfl 1 rfl ?_
    refine K_pick [0, 2, 3] ?_
    exact L_Course_start_13 hx1 hx2    _ hM  h
set_option maxRecDepth 20000 in
theorem F_GraveRails_startFromNow {X : mX}  {M : mM} {r : mM} (hM : Fx M)  (h : f_GraveRails_startFromNow  M = some r) : EV X (2 + 1) 77 [.ref 0] M (fun v M' => v = none ∧ r = M' ∧ Fx r) := by
    refine EV_of (lc := [(0, .ref 0)]) (Nat.le_of_ble_eq_true rfl) (by exact Nat.le_of_ble_eq_true rfl) (by exact List.forall_mem_cons.mpr ⟨rfl, fun _ h => absurd h List.not_mem_nil⟩) ?_
    unfold f_GraveRails_startFromNow at h
    refine K_aload_n rfl 0 rfl ?_
    refine K_gR rfl sh_0 hM rfl rfl 8 rfl r_0_8 ?_
    refine K_aload_n rfl 0 rfl ?_
    refine K_gR rfl sh_0 hM rfl rfl 5 rfl r_0_5 ?_
    refine K_gR rfl sh_20 hM rfl rfl 0 rfl r_20_0 ?_
    refine K_aload_n rfl 0 rfl ?_
    refine K_gR rfl sh_0 hM rfl rfl 5 rfl r_0_5 ?_
    refine K_gR rfl sh_20 hM rfl rfl 1 rfl r_20_1 ?_
    refine K_aload_n rfl 0 rfl ?_
    obtain ⟨r1, er1, h⟩ := Option.bind_eq_some_iff.mp h
    refine K_cV [] [.ref 29, .ref 21, .ref 246] rfl rfl (Nat.le_of_ble_eq_true rfl) (Nat.le_of_ble_eq_true rfl) sh_0 hM rfl (EV_le (Nat.le_of_ble_eq_true rfl) (F_GraveRails_ruleInForce hM  er1)) (fun v' M' hq => ?_)
    obtain ⟨rfl, rfl, hr1⟩ := hq
    obtain ⟨M2, eM2, h⟩ := Option.bind_eq_some_iff.mp h
    refine K_cV [.ref 21, .ref 29, va_rf r1.1] [] rfl rfl (Nat.le_of_ble_eq_true rfl) (Nat.le_of_ble_eq_true rfl) sh_246 hr1 rfl (EV_le (Nat.le_of_ble_eq_true rfl) (F_Course_start hr1 yd_21 st_29 eM2)) (fun v' M' hq => ?_)
    obtain ⟨rfl, rfl, hM2⟩ := hq
    obtain rfl := Option.some.inj h
    exact K_vret rfl rfl ⟨rfl, rfl, hM2⟩
set_option maxRecDepth 20000 in
theorem F_State_lies {X : mX} {S : Nat} {x1 : Int32} {M : mM} {r : Int32 × mM} (hM : Fx M) (hS : is_st S) (h : f_State_lies S x1 M = some r) : EV X (0 + 1) 83 [.ref S, .int x1] M (fun v M' => v = some (.int r.1) ∧ r.2 = M' ∧ Fx r.2) := by
    refine EV_of (lc := [(0, .ref S), (1, .int x1)]) (Nat.le_of_ble_eq_true rfl) (by exact Nat.le_of_ble_eq_true rfl) (by exact List.forall_mem_cons.mpr ⟨rfl, List.forall_mem_cons.mpr ⟨rfl, fun _ h => absurd h List.not_mem_nil⟩⟩) ?_
    unfold f_State_lies at h
    refine K_iload_n rfl 1 rfl ?_
    refine K_if_lt rfl (fun c1 => ?_) (fun c1 => ?_)
    · rw [if_pos c1] at h
      refine K_iconst (v := 0) rfl (by decide) ?_
      obtain rfl := Option.some.inj h
      exact K_iret rfl (Or.inr ⟨rfl, by decide⟩) ⟨rfl, rfl, hM⟩
    · rw [if_neg c1] at h
      refine K_iload_n rfl 1 rfl ?_
      refine K_aload_n rfl 0 rfl ?_
      refine K_gI rfl (st_s0 hS) hM rfl rfl 1 rfl ?_
      refine K_ic_ge rfl (fun c2 => ?_) (fun c2 => ?_)
      · rw [if_pos c2] at h
        refine K_iconst (v := 0) rfl (by decide) ?_
        obtain rfl := Option.some.inj h
        exact K_iret rfl (Or.inr ⟨rfl, by decide⟩) ⟨rfl, rfl, hM⟩
      · rw [if_neg c2] at h
        refine K_iload_n rfl 1 rfl ?_
        refine K_bipush (v := 11) rfl (by decide) ?_
        refine K_ic_ge rfl (fun c3 => ?_) (fun c3 => ?_)
        · rw [if_pos c3] at h
          refine K_iconst (v := 0) rfl (by decide) ?_
          obtain rfl := Option.some.inj h
          exact K_iret rfl (Or.inr ⟨rfl, by decide⟩) ⟨rfl, rfl, hM⟩
        · rw [if_neg c3] at h
          refine K_aload_n rfl 0 rfl ?_
          refine K_gR rfl (st_s0 hS) hM rfl rfl 4 rfl (st_r4 hS) ?_
          refine K_iload_n rfl 1 rfl ?_
          obtain ⟨v4, ev4, h⟩ := Option.bind_eq_some_iff.mp h
          refine K_rd rfl (st_s2 hS) hM ev4 ?_
          refine K_iconst (v := (-1)) rfl (by decide) ?_
          refine K_ic_eq rfl (fun c5 => ?_) (fun c5 => ?_)
          · rw [if_pos c5] at h
            refine K_iconst (v := 0) rfl (by decide) ?_
            obtain rfl := Option.some.inj h
            exact K_iret rfl (Or.inr ⟨rfl, by decide⟩) ⟨rfl, rfl, hM⟩
          · rw [if_neg c5] at h
            refine K_iconst (v := 1) rfl (by decide) ?_
            refine K_goto rfl ?_
            obtain rfl := Option.some.inj h
            exact K_iret rfl (Or.inr ⟨rfl, by decide⟩) ⟨rfl, rfl, hM⟩
set_option maxRecDepth 20000 in
theorem L_Course_takeOrder_139 {X : mX}  {k7 : Int32 → mM → Option (mM)} {r : mM}  (hk7 : ∀ (l1 : Int32) (M : mM), Fx M → k7 l1 M = some r → KK X 1 82 7 [(0, .ref 246), (1, .int l1)] [] M (fun v M' => v = none ∧ r = M' ∧ Fx r)) (l1 : Int32) (M : mM) (hM : Fx M)  (h : f_Course_takeOrder_139  k7 l1 M = some r) : KK X 1 82 139 [(0, .ref 246), (1, .int l1)] [] M (fun v M' => v = none ∧ r = M' ∧ Fx r) := by
    unfold f_Course_takeOrder_139 at h
    refine K_iinc (y := (l1 + 1)) rfl 1 rfl rfl ?_
    refine K_goto rfl ?_
    refine K_pick [1, 0] ?_
    exact hk7 _ _ hM  h
set_option maxRecDepth 20000 in
theorem L_Course_takeOrder_115 {X : mX}  {k7 : Int32 → mM → Option (mM)} {r : mM}  (hk7 : ∀ (l1 : Int32) (M : mM), Fx M → k7 l1 M = some r → KK X 1 82 7 [(0, .ref 246), (1, .int l1)] [] M (fun v M' => v = none ∧ r = M' ∧ Fx r)) (l1 : Int32) (l2 : Int32) (l3 : Int32) (M : mM) (hM : Fx M)  (h : f_Course_takeOrder_115  k7 l1 l2 l3 M = some r) : KK X 1 82 115 [(0, .ref 246), (1, .int l1), (2, .int l2), (3, .int l3)] [] M (fun v M' => v = none ∧ r = M' ∧ Fx r) := by
    unfold f_Course_takeOrder_115 at h
    refine K_aload_n rfl 0 rfl ?_
    refine K_gR rfl sh_246 hM rfl rfl 9 rfl r_246_9 ?_
    refine K_iload_n rfl 3 rfl ?_
    refine K_iload_n rfl 2 rfl ?_
    obtain ⟨M9, eM9, h⟩ := Option.bind_eq_some_iff.mp h
    refine K_wr rfl sh_267 hM eM9 (fun hM9 => ?_)
    refine K_aload_n rfl 0 rfl ?_
    refine K_gR rfl sh_246 hM9 rfl rfl 8 rfl r_246_8 ?_
    refine K_iload_n rfl 3 rfl ?_
    refine K_iload_n rfl 1 rfl ?_
    obtain ⟨M10, eM10, h⟩ := Option.bind_eq_some_iff.mp h
    refine K_wr rfl sh_266 hM9 eM10 (fun hM10 => ?_)
    refine K_aload_n rfl 0 rfl ?_
    refine K_dup rfl rfl ?_
    refine K_gI rfl sh_246 hM10 rfl rfl 10 rfl ?_
    refine K_iconst (v := 1) rfl (by decide) ?_
    refine K_iadd rfl ?_
    obtain ⟨M11, eM11, h⟩ := Option.bind_eq_some_iff.mp h
    refine K_pI rfl sh_246 hM10 rfl rfl 10 rfl eM11 (fun hM11 => ?_)
    refine K_pick [0, 1] ?_
    exact L_Course_takeOrder_139   hk7 _ _ hM11  h
set_option maxRecDepth 20000 in
theorem L_Course_takeOrder_65 {X : mX}  {k7 : Int32 → mM → Option (mM)} {r : mM}  (hk7 : ∀ (l1 : Int32) (M : mM), Fx M → k7 l1 M = some r → KK X 1 82 7 [(0, .ref 246), (1, .int l1)] [] M (fun v M' => v = none ∧ r = M' ∧ Fx r)) : ∀ (n : Nat) (l1 : Int32) (l2 : Int32) (l3 : Int32) (M : mM), Fx M → f_Course_takeOrder_65  k7 n l1 l2 l3 M = some r → KK X 1 82 65 [(0, .ref 246), (1, .int l1), (2, .int l2), (3, .int l3)] [] M (fun v M' => v = none ∧ r = M' ∧ Fx r)
  | 0, _, _, _, _ => fun _ h => by cases h
  | n + 1, l1, l2, l3, M => fun hM h => by
    unfold f_Course_takeOrder_65 at h
    refine K_iload_n rfl 3 rfl ?_
    refine K_if_le rfl (fun c8 => ?_) (fun c8 => ?_)
    · rw [if_pos c8] at h
      refine K_pick [0, 1, 2, 3] ?_
      exact L_Course_takeOrder_115   hk7 _ _ _ _ hM  h
    · rw [if_neg c8] at h
      refine K_aload_n rfl 0 rfl ?_
      refine K_gR rfl sh_246 hM rfl rfl 9 rfl r_246_9 ?_
      refine K_iload_n rfl 3 rfl ?_
      refine K_iconst (v := 1) rfl (by decide) ?_
      refine K_isub rfl ?_
      obtain ⟨v12, ev12, h⟩ := Option.bind_eq_some_iff.mp h
      refine K_rd rfl sh_267 hM ev12 ?_
      refine K_iload_n rfl 2 rfl ?_
      refine K_ic_le rfl (fun c13 => ?_) (fun c13 => ?_)
      · rw [if_pos c13] at h
        refine K_pick [0, 1, 2, 3] ?_
        exact L_Course_takeOrder_115   hk7 _ _ _ _ hM  h
      · rw [if_neg c13] at h
        refine K_aload_n rfl 0 rfl ?_
        refine K_gR rfl sh_246 hM rfl rfl 9 rfl r_246_9 ?_
        refine K_iload_n rfl 3 rfl ?_
        refine K_aload_n rfl 0 rfl ?_
        refine K_gR rfl sh_246 hM rfl rfl 9 rfl r_246_9 ?_
        refine K_iload_n rfl 3 rfl ?_
        refine K_iconst (v := 1) rfl (by decide) ?_
        refine K_isub rfl ?_
        obtain ⟨v14, ev14, h⟩ := Option.bind_eq_some_iff.mp h
        refine K_rd rfl sh_267 hM ev14 ?_
        obtain ⟨M15, eM15, h⟩ := Option.bind_eq_some_iff.mp h
        refine K_wr rfl sh_267 hM eM15 (fun hM15 => ?_)
        refine K_aload_n rfl 0 rfl ?_
        refine K_gR rfl sh_246 hM15 rfl rfl 8 rfl r_246_8 ?_
        refine K_iload_n rfl 3 rfl ?_
        refine K_aload_n rfl 0 rfl ?_
        refine K_gR rfl sh_246 hM15 rfl rfl 8 rfl r_246_8 ?_
        refine K_iload_n rfl 3 rfl ?_
        refine K_iconst (v := 1) rfl (by decide) ?_
        refine K_isub rfl ?_
        obtain ⟨v16, ev16, h⟩ := Option.bind_eq_some_iff.mp h
        refine K_rd rfl sh_266 hM15 ev16 ?_
        obtain ⟨M17, eM17, h⟩ := Option.bind_eq_some_iff.mp h
        refine K_wr rfl sh_266 hM15 eM17 (fun hM17 => ?_)
        refine K_iinc (y := (l3 + (-1))) rfl 3 rfl rfl ?_
        refine K_goto rfl ?_
        refine K_pick [1, 2, 3, 0] ?_
        exact L_Course_takeOrder_65   hk7 n _ _ _ _ hM17  h
set_option maxRecDepth 20000 in
theorem L_Course_takeOrder_7 {X : mX}  {r : mM}  : ∀ (n : Nat) (l1 : Int32) (M : mM), Fx M → f_Course_takeOrder_7   n l1 M = some r → KK X 1 82 7 [(0, .ref 246), (1, .int l1)] [] M (fun v M' => v = none ∧ r = M' ∧ Fx r)
  | 0, _, _ => fun _ h => by cases h
  | n + 1, l1, M => fun hM h => by
    unfold f_Course_takeOrder_7 at h
    refine K_iload_n rfl 1 rfl ?_
    refine K_aload_n rfl 0 rfl ?_
    refine K_gR rfl sh_246 hM rfl rfl 0 rfl r_246_0 ?_
    refine K_gI rfl sh_247 hM rfl rfl 1 rfl ?_
    refine K_ic_ge rfl (fun c2 => ?_) (fun c2 => ?_)
    · rw [if_pos c2] at h
      obtain rfl := Option.some.inj h
      exact K_vret rfl rfl ⟨rfl, rfl, hM⟩
    · rw [if_neg c2] at h
      refine K_aload_n rfl 0 rfl ?_
      refine K_gI rfl sh_246 hM rfl rfl 10 rfl ?_
      refine K_bipush (v := 11) rfl (by decide) ?_
      refine K_ic_ge rfl (fun c3 => ?_) (fun c3 => ?_)
      · rw [if_pos c3] at h
        obtain rfl := Option.some.inj h
        exact K_vret rfl rfl ⟨rfl, rfl, hM⟩
      · rw [if_neg c3] at h
        refine K_aload_n rfl 0 rfl ?_
        refine K_gR rfl sh_246 hM rfl rfl 0 rfl r_246_0 ?_
        refine K_iload_n rfl 1 rfl ?_
        obtain ⟨r4, er4, h⟩ := Option.bind_eq_some_iff.mp h
        refine K_cV [.int l1] [] rfl rfl (Nat.le_of_ble_eq_true rfl) (Nat.le_of_ble_eq_true rfl) sh_247 hM rfl (EV_le (Nat.le_of_ble_eq_true rfl) (F_State_lies hM st_247 er4)) (fun v' M' hq => ?_)
        obtain ⟨rfl, rfl, hr4⟩ := hq
        refine K_if_eq rfl (fun c5 => ?_) (fun c5 => ?_)
        · rw [if_pos c5] at h
          refine K_pick [0, 1] ?_
          exact L_Course_takeOrder_139   (L_Course_takeOrder_7    n) _ _ hr4  h
        · rw [if_neg c5] at h
          refine K_aload_n rfl 0 rfl ?_
          refine K_gR rfl sh_246 hr4 rfl rfl 0 rfl r_246_0 ?_
          refine K_gR rfl sh_247 hr4 rfl rfl 4 rfl r_247_4 ?_
          refine K_iload_n rfl 1 rfl ?_
          obtain ⟨v6, ev6, h⟩ := Option.bind_eq_some_iff.mp h
          refine K_rd rfl sh_249 hr4 ev6 ?_
          refine K_iconst (v := 4) rfl (by decide) ?_
          refine K_imul rfl ?_
          refine K_aload_n rfl 0 rfl ?_
          refine K_gR rfl sh_246 hr4 rfl rfl 0 rfl r_246_0 ?_
          refine K_gR rfl sh_247 hr4 rfl rfl 3 rfl r_247_3 ?_
          refine K_iload_n rfl 1 rfl ?_
          obtain ⟨v7, ev7, h⟩ := Option.bind_eq_some_iff.mp h
          refine K_rd rfl sh_248 hr4 ev7 ?_
          refine K_iadd rfl ?_
          refine K_istore_n rfl ?_
          refine K_aload_n rfl 1 rfl ?_
          refine K_gI rfl sh_246 hr4 rfl rfl 10 rfl ?_
          refine K_istore_n rfl ?_
          refine K_pick [2, 3, 1, 0] ?_
          exact L_Course_takeOrder_65   (L_Course_takeOrder_7    n) FUEL _ _ _ _ hr4  h
set_option maxRecDepth 20000 in
theorem F_Course_takeOrder {X : mX}  {M : mM} {r : mM} (hM : Fx M)  (h : f_Course_takeOrder  M = some r) : EV X (1 + 1) 82 [.ref 246] M (fun v M' => v = none ∧ r = M' ∧ Fx r) := by
    refine EV_of (lc := [(0, .ref 246)]) (Nat.le_of_ble_eq_true rfl) (by exact Nat.le_of_ble_eq_true rfl) (by exact List.forall_mem_cons.mpr ⟨rfl, fun _ h => absurd h List.not_mem_nil⟩) ?_
    unfold f_Course_takeOrder at h
    refine K_aload_n rfl 0 rfl ?_
    refine K_iconst (v := 0) rfl (by decide) ?_
    obtain ⟨M1, eM1, h⟩ := Option.bind_eq_some_iff.mp h
    refine K_pI rfl sh_246 hM rfl rfl 10 rfl eM1 (fun hM1 => ?_)
    refine K_iconst (v := 0) rfl (by decide) ?_
    refine K_istore_n rfl ?_
    refine K_pick [1, 0] ?_
    exact L_Course_takeOrder_7    FUEL _ _ hM1  h
set_option maxRecDepth 20000 in
theorem F_Course_drop {X : mX} {x1 : Int32} {M : mM} {r : mM} (hM : Fx M)  (h : f_Course_drop x1 M = some r) : EV X (1 + 1) 84 [.ref 246, .int x1] M (fun v M' => v = none ∧ r = M' ∧ Fx r) := by
    refine EV_of (lc := [(0, .ref 246), (1, .int x1)]) (Nat.le_of_ble_eq_true rfl) (by exact Nat.le_of_ble_eq_true rfl) (by exact List.forall_mem_cons.mpr ⟨rfl, List.forall_mem_cons.mpr ⟨rfl, fun _ h => absurd h List.not_mem_nil⟩⟩) ?_
    unfold f_Course_drop at h
    refine K_aload_n rfl 0 rfl ?_
    refine K_gR rfl sh_246 hM rfl rfl 0 rfl r_246_0 ?_
    refine K_iload_n rfl 1 rfl ?_
    obtain ⟨r1, er1, h⟩ := Option.bind_eq_some_iff.mp h
    refine K_cV [.int x1] [] rfl rfl (Nat.le_of_ble_eq_true rfl) (Nat.le_of_ble_eq_true rfl) sh_247 hM rfl (EV_le (Nat.le_of_ble_eq_true rfl) (F_State_lies hM st_247 er1)) (fun v' M' hq => ?_)
    obtain ⟨rfl, rfl, hr1⟩ := hq
    refine K_if_ne rfl (fun c2 => ?_) (fun c2 => ?_)
    · rw [if_neg c2] at h
      refine K_aload_n rfl 0 rfl ?_
      refine K_gR rfl sh_246 hr1 rfl rfl 0 rfl r_246_0 ?_
      refine K_gR rfl sh_247 hr1 rfl rfl 3 rfl r_247_3 ?_
      refine K_iload_n rfl 1 rfl ?_
      refine K_iconst (v := (-1)) rfl (by decide) ?_
      obtain ⟨M3, eM3, h⟩ := Option.bind_eq_some_iff.mp h
      refine K_wr rfl sh_248 hr1 eM3 (fun hM3 => ?_)
      refine K_aload_n rfl 0 rfl ?_
      refine K_gR rfl sh_246 hM3 rfl rfl 0 rfl r_246_0 ?_
      refine K_gR rfl sh_247 hM3 rfl rfl 4 rfl r_247_4 ?_
      refine K_iload_n rfl 1 rfl ?_
      refine K_iconst (v := (-1)) rfl (by decide) ?_
      obtain ⟨M4, eM4, h⟩ := Option.bind_eq_some_iff.mp h
      refine K_wr rfl sh_249 hM3 eM4 (fun hM4 => ?_)
      refine K_aload_n rfl 0 rfl ?_
      refine K_gR rfl sh_246 hM4 rfl rfl 0 rfl r_246_0 ?_
      refine K_gR rfl sh_247 hM4 rfl rfl 6 rfl r_247_6 ?_
      refine K_iload_n rfl 1 rfl ?_
      refine K_iconst (v := 0) rfl (by decide) ?_
      obtain ⟨M5, eM5, h⟩ := Option.bind_eq_some_iff.mp h
      refine K_wr rfl sh_251 hM4 eM5 (fun hM5 => ?_)
      refine K_aload_n rfl 0 rfl ?_
      refine K_gR rfl sh_246 hM5 rfl rfl 0 rfl r_246_0 ?_
      refine K_gR rfl sh_247 hM5 rfl rfl 7 rfl r_247_7 ?_
      refine K_iload_n rfl 1 rfl ?_
      refine K_aload_n rfl 0 rfl ?_
      refine K_gR rfl sh_246 hM5 rfl rfl 0 rfl r_246_0 ?_
      refine K_gI rfl sh_247 hM5 rfl rfl 0 rfl ?_
      obtain ⟨M6, eM6, h⟩ := Option.bind_eq_some_iff.mp h
      refine K_wr rfl sh_252 hM5 eM6 (fun hM6 => ?_)
      refine K_aload_n rfl 0 rfl ?_
      refine K_gR rfl sh_246 hM6 rfl rfl 0 rfl r_246_0 ?_
      refine K_dup rfl rfl ?_
      refine K_gI rfl sh_247 hM6 rfl rfl 2 rfl ?_
      refine K_iconst (v := 1) rfl (by decide) ?_
      refine K_iadd rfl ?_
      obtain ⟨M7, eM7, h⟩ := Option.bind_eq_some_iff.mp h
      refine K_pI rfl sh_247 hM6 rfl rfl 2 rfl eM7 (fun hM7 => ?_)
      refine K_aload_n rfl 0 rfl ?_
      refine K_gI rfl sh_246 hM7 rfl rfl 2 rfl ?_
      refine K_if_lt rfl (fun c8 => ?_) (fun c8 => ?_)
      · rw [if_pos c8] at h
        obtain rfl := Option.some.inj h
        exact K_vret rfl rfl ⟨rfl, rfl, hM7⟩
      · rw [if_neg c8] at h
        refine K_aload_n rfl 0 rfl ?_
        refine K_gI rfl sh_246 hM7 rfl rfl 2 rfl ?_
        refine K_aload_n rfl 0 rfl ?_
        refine K_gR rfl sh_246 hM7 rfl rfl 1 rfl r_246_1 ?_
        refine K_aln (v := 11) rfl sh_257 hM7 (by decide) (by decide) ?_
        refine K_ic_ge rfl (fun c9 => ?_) (fun c9 => ?_)
        · rw [if_pos c9] at h
          obtain rfl := Option.some.inj h
          exact K_vret rfl rfl ⟨rfl, rfl, hM7⟩
        · rw [if_neg c9] at h
          refine K_aload_n rfl 0 rfl ?_
          refine K_gR rfl sh_246 hM7 rfl rfl 1 rfl r_246_1 ?_
          refine K_aload_n rfl 0 rfl ?_
          refine K_gI rfl sh_246 hM7 rfl rfl 2 rfl ?_
          refine K_iload_n rfl 1 rfl ?_
          obtain ⟨M10, eM10, h⟩ := Option.bind_eq_some_iff.mp h
          refine K_wr rfl sh_257 hM7 eM10 (fun hM10 => ?_)
          refine K_aload_n rfl 0 rfl ?_
          refine K_dup rfl rfl ?_
          refine K_gI rfl sh_246 hM10 rfl rfl 2 rfl ?_
          refine K_iconst (v := 1) rfl (by decide) ?_
          refine K_iadd rfl ?_
          obtain ⟨M11, eM11, h⟩ := Option.bind_eq_some_iff.mp h
          refine K_pI rfl sh_246 hM10 rfl rfl 2 rfl eM11 (fun hM11 => ?_)
          obtain rfl := Option.some.inj h
          exact K_vret rfl rfl ⟨rfl, rfl, hM11⟩
    · rw [if_pos c2] at h
      obtain rfl := Option.some.inj h
      exact K_vret rfl rfl ⟨rfl, rfl, hr1⟩
set_option maxRecDepth 20000 in
theorem L_Course_floodRows_66 {X : mX}  {k6 : Int32 → mM → Option (mM)} {r : mM}  (hk6 : ∀ (l1 : Int32) (M : mM), Fx M → k6 l1 M = some r → KK X 2 81 6 [(0, .ref 246), (1, .int l1)] [] M (fun v M' => v = none ∧ r = M' ∧ Fx r)) (l1 : Int32) (M : mM) (hM : Fx M)  (h : f_Course_floodRows_66  k6 l1 M = some r) : KK X 2 81 66 [(0, .ref 246), (1, .int l1)] [] M (fun v M' => v = none ∧ r = M' ∧ Fx r) := by
    unfold f_Course_floodRows_66 at h
    refine K_iinc (y := (l1 + 1)) rfl 1 rfl rfl ?_
    refine K_goto rfl ?_
    refine K_pick [1, 0] ?_
    exact hk6 _ _ hM  h
set_option maxRecDepth 20000 in
theorem L_Course_floodRows_6 {X : mX}  {r : mM}  : ∀ (n : Nat) (l1 : Int32) (M : mM), Fx M → f_Course_floodRows_6   n l1 M = some r → KK X 2 81 6 [(0, .ref 246), (1, .int l1)] [] M (fun v M' => v = none ∧ r = M' ∧ Fx r)
  | 0, _, _ => fun _ h => by cases h
  | n + 1, l1, M => fun hM h => by
    unfold f_Course_floodRows_6 at h
    refine K_iload_n rfl 1 rfl ?_
    refine K_aload_n rfl 0 rfl ?_
    refine K_gI rfl sh_246 hM rfl rfl 10 rfl ?_
    refine K_ic_ge rfl (fun c2 => ?_) (fun c2 => ?_)
    · rw [if_pos c2] at h
      obtain rfl := Option.some.inj h
      exact K_vret rfl rfl ⟨rfl, rfl, hM⟩
    · rw [if_neg c2] at h
      refine K_iload_n rfl 1 rfl ?_
      refine K_bipush (v := 11) rfl (by decide) ?_
      refine K_ic_ge rfl (fun c3 => ?_) (fun c3 => ?_)
      · rw [if_pos c3] at h
        obtain rfl := Option.some.inj h
        exact K_vret rfl rfl ⟨rfl, rfl, hM⟩
      · rw [if_neg c3] at h
        refine K_aload_n rfl 0 rfl ?_
        refine K_gR rfl sh_246 hM rfl rfl 8 rfl r_246_8 ?_
        refine K_iload_n rfl 1 rfl ?_
        obtain ⟨v4, ev4, h⟩ := Option.bind_eq_some_iff.mp h
        refine K_rd rfl sh_266 hM ev4 ?_
        refine K_istore_n rfl ?_
        refine K_aload_n rfl 1 rfl ?_
        refine K_gR rfl sh_246 hM rfl rfl 0 rfl r_246_0 ?_
        refine K_iload_n rfl 0 rfl ?_
        obtain ⟨r5, er5, h⟩ := Option.bind_eq_some_iff.mp h
        refine K_cV [.int v4] [] rfl rfl (Nat.le_of_ble_eq_true rfl) (Nat.le_of_ble_eq_true rfl) sh_247 hM rfl (EV_le (Nat.le_of_ble_eq_true rfl) (F_State_lies hM st_247 er5)) (fun v' M' hq => ?_)
        obtain ⟨rfl, rfl, hr5⟩ := hq
        refine K_if_eq rfl (fun c6 => ?_) (fun c6 => ?_)
        · rw [if_pos c6] at h
          refine K_pick [1, 2] ?_
          exact L_Course_floodRows_66   (L_Course_floodRows_6    n) _ _ hr5  h
        · rw [if_neg c6] at h
          refine K_aload_n rfl 1 rfl ?_
          refine K_gR rfl sh_246 hr5 rfl rfl 0 rfl r_246_0 ?_
          refine K_gR rfl sh_247 hr5 rfl rfl 4 rfl r_247_4 ?_
          refine K_iload_n rfl 0 rfl ?_
          obtain ⟨v7, ev7, h⟩ := Option.bind_eq_some_iff.mp h
          refine K_rd rfl sh_249 hr5 ev7 ?_
          refine K_iconst (v := 1) rfl (by decide) ?_
          refine K_ic_gt rfl (fun c8 => ?_) (fun c8 => ?_)
          · rw [if_pos c8] at h
            refine K_pick [1, 2] ?_
            exact L_Course_floodRows_66   (L_Course_floodRows_6    n) _ _ hr5  h
          · rw [if_neg c8] at h
            refine K_aload_n rfl 1 rfl ?_
            refine K_iload_n rfl 0 rfl ?_
            obtain ⟨M9, eM9, h⟩ := Option.bind_eq_some_iff.mp h
            refine K_cV [.int v4] [] rfl rfl (Nat.le_of_ble_eq_true rfl) (Nat.le_of_ble_eq_true rfl) sh_246 hr5 rfl (EV_le (Nat.le_of_ble_eq_true rfl) (F_Course_drop hr5  eM9)) (fun v' M' hq => ?_)
            obtain ⟨rfl, rfl, hM9⟩ := hq
            refine K_aload_n rfl 1 rfl ?_
            refine K_dup rfl rfl ?_
            refine K_gI rfl sh_246 hM9 rfl rfl 3 rfl ?_
            refine K_iconst (v := 1) rfl (by decide) ?_
            refine K_iadd rfl ?_
            obtain ⟨M10, eM10, h⟩ := Option.bind_eq_some_iff.mp h
            refine K_pI rfl sh_246 hM9 rfl rfl 3 rfl eM10 (fun hM10 => ?_)
            refine K_pick [1, 2] ?_
            exact L_Course_floodRows_66   (L_Course_floodRows_6    n) _ _ hM10  h
set_option maxRecDepth 20000 in
theorem F_Course_floodRows {X : mX}  {M : mM} {r : mM} (hM : Fx M)  (h : f_Course_floodRows  M = some r) : EV X (2 + 1) 81 [.ref 246] M (fun v M' => v = none ∧ r = M' ∧ Fx r) := by
    refine EV_of (lc := [(0, .ref 246)]) (Nat.le_of_ble_eq_true rfl) (by exact Nat.le_of_ble_eq_true rfl) (by exact List.forall_mem_cons.mpr ⟨rfl, fun _ h => absurd h List.not_mem_nil⟩) ?_
    unfold f_Course_floodRows at h
    refine K_aload_n rfl 0 rfl ?_
    obtain ⟨M1, eM1, h⟩ := Option.bind_eq_some_iff.mp h
    refine K_cV [] [] rfl rfl (Nat.le_of_ble_eq_true rfl) (Nat.le_of_ble_eq_true rfl) sh_246 hM rfl (EV_le (Nat.le_of_ble_eq_true rfl) (F_Course_takeOrder hM  eM1)) (fun v' M' hq => ?_)
    obtain ⟨rfl, rfl, hM1⟩ := hq
    refine K_iconst (v := 0) rfl (by decide) ?_
    refine K_istore_n rfl ?_
    refine K_pick [1, 0] ?_
    exact L_Course_floodRows_6    FUEL _ _ hM1  h
set_option maxRecDepth 20000 in
theorem F_Course_fartherBy {X : mX} {x1 : Int32} {M : mM} {r : Int32 × mM} (hM : Fx M)  (h : f_Course_fartherBy x1 M = some r) : EV X (1 + 1) 86 [.ref 246, .int x1] M (fun v M' => v = some (.int r.1) ∧ r.2 = M' ∧ Fx r.2) := by
    refine EV_of (lc := [(0, .ref 246), (1, .int x1)]) (Nat.le_of_ble_eq_true rfl) (by exact Nat.le_of_ble_eq_true rfl) (by exact List.forall_mem_cons.mpr ⟨rfl, List.forall_mem_cons.mpr ⟨rfl, fun _ h => absurd h List.not_mem_nil⟩⟩) ?_
    unfold f_Course_fartherBy at h
    refine K_aload_n rfl 0 rfl ?_
    obtain ⟨y1, ey1, h⟩ := Option.bind_eq_some_iff.mp h
    refine K_gN rfl sh_246 hM rfl rfl 5 rfl ey1 ?_
    refine K_iload_n rfl 1 rfl ?_
    obtain ⟨r2, er2, h⟩ := Option.bind_eq_some_iff.mp h
    refine K_cV [.int x1] [] rfl rfl (Nat.le_of_ble_eq_true rfl) (Nat.le_of_ble_eq_true rfl) (yd_s0 (nnl_i ey1).2) hM rfl (EV_le (Nat.le_of_ble_eq_true rfl) (F_Yard_pairOf hM (nnl_i ey1).2 er2)) (fun v' M' hq => ?_)
    obtain ⟨rfl, rfl, hr2⟩ := hq
    refine K_istore_n rfl ?_
    refine K_aload_n rfl 1 rfl ?_
    refine K_gR rfl sh_246 hr2 rfl rfl 0 rfl r_246_0 ?_
    refine K_iload_n rfl 2 rfl ?_
    obtain ⟨r3, er3, h⟩ := Option.bind_eq_some_iff.mp h
    refine K_cV [.int x1] [] rfl rfl (Nat.le_of_ble_eq_true rfl) (Nat.le_of_ble_eq_true rfl) sh_247 hr2 rfl (EV_le (Nat.le_of_ble_eq_true rfl) (F_State_lies hr2 st_247 er3)) (fun v' M' hq => ?_)
    obtain ⟨rfl, rfl, hr3⟩ := hq
    refine K_if_eq rfl (fun c4 => ?_) (fun c4 => ?_)
    · rw [if_pos c4] at h
      refine K_iconst (v := 0) rfl (by decide) ?_
      obtain rfl := Option.some.inj h
      exact K_iret rfl (Or.inl rfl) ⟨rfl, rfl, hr3⟩
    · rw [if_neg c4] at h
      refine K_aload_n rfl 1 rfl ?_
      refine K_gR rfl sh_246 hr3 rfl rfl 0 rfl r_246_0 ?_
      refine K_iload_n rfl 0 rfl ?_
      obtain ⟨r5, er5, h⟩ := Option.bind_eq_some_iff.mp h
      refine K_cV [.int r2.1] [] rfl rfl (Nat.le_of_ble_eq_true rfl) (Nat.le_of_ble_eq_true rfl) sh_247 hr3 rfl (EV_le (Nat.le_of_ble_eq_true rfl) (F_State_lies hr3 st_247 er5)) (fun v' M' hq => ?_)
      obtain ⟨rfl, rfl, hr5⟩ := hq
      refine K_if_eq rfl (fun c6 => ?_) (fun c6 => ?_)
      · rw [if_pos c6] at h
        refine K_iconst (v := 0) rfl (by decide) ?_
        obtain rfl := Option.some.inj h
        exact K_iret rfl (Or.inl rfl) ⟨rfl, rfl, hr5⟩
      · rw [if_neg c6] at h
        refine K_aload_n rfl 1 rfl ?_
        refine K_gR rfl sh_246 hr5 rfl rfl 0 rfl r_246_0 ?_
        refine K_gR rfl sh_247 hr5 rfl rfl 4 rfl r_247_4 ?_
        refine K_iload_n rfl 0 rfl ?_
        obtain ⟨v7, ev7, h⟩ := Option.bind_eq_some_iff.mp h
        refine K_rd rfl sh_249 hr5 ev7 ?_
        refine K_aload_n rfl 1 rfl ?_
        refine K_gR rfl sh_246 hr5 rfl rfl 0 rfl r_246_0 ?_
        refine K_gR rfl sh_247 hr5 rfl rfl 4 rfl r_247_4 ?_
        refine K_iload_n rfl 2 rfl ?_
        obtain ⟨v8, ev8, h⟩ := Option.bind_eq_some_iff.mp h
        refine K_rd rfl sh_249 hr5 ev8 ?_
        refine K_isub rfl ?_
        refine K_goto rfl ?_
        obtain rfl := Option.some.inj h
        exact K_iret rfl (Or.inl rfl) ⟨rfl, rfl, hr5⟩
set_option maxRecDepth 20000 in
theorem L_State_countBehind_49 {X : mX} {S : Nat} {x1 : Int32} {x2 : Int32} {k5 : Int32 → Int32 → mM → Option (Int32 × mM)} {r : Int32 × mM} (hS : is_st S) (hk5 : ∀ (l3 : Int32) (l4 : Int32) (M : mM), Fx M → k5 l3 l4 M = some r → KK X 0 88 5 [(0, .ref S), (1, .int x1), (2, .int x2), (3, .int l3), (4, .int l4)] [] M (fun v M' => v = some (.int r.1) ∧ r.2 = M' ∧ Fx r.2)) (l4 : Int32) (s0 : Int32) (s1 : Int32) (M : mM) (hM : Fx M)  (h : f_State_countBehind_49 S x1 x2 k5 l4 s0 s1 M = some r) : KK X 0 88 49 [(0, .ref S), (1, .int x1), (2, .int x2), (4, .int l4)] [.int s1, .int s0] M (fun v M' => v = some (.int r.1) ∧ r.2 = M' ∧ Fx r.2) := by
    unfold f_State_countBehind_49 at h
    refine K_iadd rfl ?_
    refine K_istore_n rfl ?_
    refine K_iinc (y := (l4 + 1)) rfl 4 rfl rfl ?_
    refine K_goto rfl ?_
    refine K_pick [2, 3, 4, 1, 0] ?_
    exact hk5 _ _ _ hM  h
set_option maxRecDepth 20000 in
theorem L_State_countBehind_48 {X : mX} {S : Nat} {x1 : Int32} {x2 : Int32} {k5 : Int32 → Int32 → mM → Option (Int32 × mM)} {r : Int32 × mM} (hS : is_st S) (hk5 : ∀ (l3 : Int32) (l4 : Int32) (M : mM), Fx M → k5 l3 l4 M = some r → KK X 0 88 5 [(0, .ref S), (1, .int x1), (2, .int x2), (3, .int l3), (4, .int l4)] [] M (fun v M' => v = some (.int r.1) ∧ r.2 = M' ∧ Fx r.2)) (l4 : Int32) (s0 : Int32) (M : mM) (hM : Fx M)  (h : f_State_countBehind_48 S x1 x2 k5 l4 s0 M = some r) : KK X 0 88 48 [(0, .ref S), (1, .int x1), (2, .int x2), (4, .int l4)] [.int s0] M (fun v M' => v = some (.int r.1) ∧ r.2 = M' ∧ Fx r.2) := by
    unfold f_State_countBehind_48 at h
    refine K_iconst (v := 0) rfl (by decide) ?_
    refine K_pick [0, 1, 2, 3] ?_
    exact L_State_countBehind_49 hS  hk5 _ _ _ _ hM  h
set_option maxRecDepth 20000 in
theorem L_State_countBehind_5 {X : mX} {S : Nat} {x1 : Int32} {x2 : Int32} {r : Int32 × mM} (hS : is_st S) : ∀ (n : Nat) (l3 : Int32) (l4 : Int32) (M : mM), Fx M → f_State_countBehind_5 S x1 x2  n l3 l4 M = some r → KK X 0 88 5 [(0, .ref S), (1, .int x1), (2, .int x2), (3, .int l3), (4, .int l4)] [] M (fun v M' => v = some (.int r.1) ∧ r.2 = M' ∧ Fx r.2)
  | 0, _, _, _ => fun _ h => by cases h
  | n + 1, l3, l4, M => fun hM h => by
    unfold f_State_countBehind_5 at h
    refine K_iload rfl 4 rfl ?_
    refine K_aload_n rfl 0 rfl ?_
    refine K_gI rfl (st_s0 hS) hM rfl rfl 1 rfl ?_
    refine K_ic_ge rfl (fun c1 => ?_) (fun c1 => ?_)
    · rw [if_pos c1] at h
      refine K_iload_n rfl 3 rfl ?_
      obtain rfl := Option.some.inj h
      exact K_iret rfl (Or.inl rfl) ⟨rfl, rfl, hM⟩
    · rw [if_neg c1] at h
      refine K_iload rfl 4 rfl ?_
      refine K_bipush (v := 11) rfl (by decide) ?_
      refine K_ic_ge rfl (fun c2 => ?_) (fun c2 => ?_)
      · rw [if_pos c2] at h
        refine K_iload_n rfl 3 rfl ?_
        obtain rfl := Option.some.inj h
        exact K_iret rfl (Or.inl rfl) ⟨rfl, rfl, hM⟩
      · rw [if_neg c2] at h
        refine K_iload_n rfl 3 rfl ?_
        refine K_aload_n rfl 0 rfl ?_
        refine K_gR rfl (st_s0 hS) hM rfl rfl 3 rfl (st_r3 hS) ?_
        refine K_iload rfl 4 rfl ?_
        obtain ⟨v3, ev3, h⟩ := Option.bind_eq_some_iff.mp h
        refine K_rd rfl (st_s1 hS) hM ev3 ?_
        refine K_iload_n rfl 1 rfl ?_
        refine K_ic_ne rfl (fun c4 => ?_) (fun c4 => ?_)
        · rw [if_neg c4] at h
          refine K_pick [0, 1, 2, 4] ?_
          exact L_State_countBehind_48 hS  (L_State_countBehind_5 hS   n) _ _ _ hM  h
        · rw [if_pos c4] at h
          refine K_aload_n rfl 0 rfl ?_
          refine K_gR rfl (st_s0 hS) hM rfl rfl 4 rfl (st_r4 hS) ?_
          refine K_iload rfl 4 rfl ?_
          obtain ⟨v5, ev5, h⟩ := Option.bind_eq_some_iff.mp h
          refine K_rd rfl (st_s2 hS) hM ev5 ?_
          refine K_iload_n rfl 2 rfl ?_
          refine K_ic_le rfl (fun c6 => ?_) (fun c6 => ?_)
          · rw [if_pos c6] at h
            refine K_pick [0, 1, 2, 4] ?_
            exact L_State_countBehind_48 hS  (L_State_countBehind_5 hS   n) _ _ _ hM  h
          · rw [if_neg c6] at h
            refine K_iconst (v := 1) rfl (by decide) ?_
            refine K_goto rfl ?_
            refine K_pick [0, 1, 2, 4] ?_
            exact L_State_countBehind_49 hS  (L_State_countBehind_5 hS   n) _ _ _ _ hM  h
set_option maxRecDepth 20000 in
theorem F_State_countBehind {X : mX} {S : Nat} {x1 : Int32} {x2 : Int32} {M : mM} {r : Int32 × mM} (hM : Fx M) (hS : is_st S) (h : f_State_countBehind S x1 x2 M = some r) : EV X (0 + 1) 88 [.ref S, .int x1, .int x2] M (fun v M' => v = some (.int r.1) ∧ r.2 = M' ∧ Fx r.2) := by
    refine EV_of (lc := [(0, .ref S), (1, .int x1), (2, .int x2)]) (Nat.le_of_ble_eq_true rfl) (by exact Nat.le_of_ble_eq_true rfl) (by exact List.forall_mem_cons.mpr ⟨rfl, List.forall_mem_cons.mpr ⟨rfl, List.forall_mem_cons.mpr ⟨rfl, fun _ h => absurd h List.not_mem_nil⟩⟩⟩) ?_
    unfold f_State_countBehind at h
    refine K_iconst (v := 0) rfl (by decide) ?_
    refine K_istore_n rfl ?_
    refine K_iconst (v := 0) rfl (by decide) ?_
    refine K_istore rfl ?_
    refine K_pick [2, 3, 4, 1, 0] ?_
    exact L_State_countBehind_5 hS   FUEL _ _ _ hM  h
set_option maxRecDepth 20000 in
theorem L_Course_fillWords_218 {X : mX} {x1 : Int32} {r : mM}  (s1 : Int32) (s2 : Int64) (M : mM) (hM : Fx M)  (h : f_Course_fillWords_218 x1  s1 s2 M = some r) : KK X 2 87 218 [(0, .ref 246)] [.long s2, .int s1, .ref 268] M (fun v M' => v = none ∧ r = M' ∧ Fx r) := by
    unfold f_Course_fillWords_218 at h
    obtain ⟨M25, eM25, h⟩ := Option.bind_eq_some_iff.mp h
    refine K_wrL rfl sh_268 hM eM25 (fun hM25 => ?_)
    refine K_aload_n rfl 0 rfl ?_
    refine K_gR rfl sh_246 hM25 rfl rfl 11 rfl r_246_11 ?_
    refine K_bipush (v := 11) rfl (by decide) ?_
    refine K_aload_n rfl 0 rfl ?_
    refine K_gR rfl sh_246 hM25 rfl rfl 0 rfl r_246_0 ?_
    refine K_gI rfl sh_247 hM25 rfl rfl 2 rfl ?_
    refine K_i2l rfl ?_
    obtain ⟨M26, eM26, h⟩ := Option.bind_eq_some_iff.mp h
    refine K_wrL rfl sh_268 hM25 eM26 (fun hM26 => ?_)
    obtain rfl := Option.some.inj h
    exact K_vret rfl rfl ⟨rfl, rfl, hM26⟩
set_option maxRecDepth 20000 in
theorem L_Course_fillWords_182 {X : mX} {x1 : Int32} {r : mM}  (l2 : Int32) (l3 : Int32) (s1 : Int32) (s2 : Int64) (M : mM) (hM : Fx M)  (h : f_Course_fillWords_182 x1  l2 l3 s1 s2 M = some r) : KK X 2 87 182 [(0, .ref 246), (2, .int l2), (3, .int l3)] [.long s2, .int s1, .ref 268] M (fun v M' => v = none ∧ r = M' ∧ Fx r) := by
    unfold f_Course_fillWords_182 at h
    obtain ⟨M21, eM21, h⟩ := Option.bind_eq_some_iff.mp h
    refine K_wrL rfl sh_268 hM eM21 (fun hM21 => ?_)
    refine K_aload_n rfl 0 rfl ?_
    refine K_gR rfl sh_246 hM21 rfl rfl 11 rfl r_246_11 ?_
    refine K_bipush (v := 9) rfl (by decide) ?_
    refine K_aload_n rfl 0 rfl ?_
    refine K_gR rfl sh_246 hM21 rfl rfl 0 rfl r_246_0 ?_
    refine K_iload_n rfl 1 rfl ?_
    refine K_iload_n rfl 2 rfl ?_
    obtain ⟨r22, er22, h⟩ := Option.bind_eq_some_iff.mp h
    refine K_cV [.int l2, .int l3] [.int 9, .ref 268] rfl rfl (Nat.le_of_ble_eq_true rfl) (Nat.le_of_ble_eq_true rfl) sh_247 hM21 rfl (EV_le (Nat.le_of_ble_eq_true rfl) (F_State_countBehind hM21 st_247 er22)) (fun v' M' hq => ?_)
    obtain ⟨rfl, rfl, hr22⟩ := hq
    refine K_i2l rfl ?_
    obtain ⟨M23, eM23, h⟩ := Option.bind_eq_some_iff.mp h
    refine K_wrL rfl sh_268 hr22 eM23 (fun hM23 => ?_)
    refine K_aload_n rfl 0 rfl ?_
    refine K_gR rfl sh_246 hM23 rfl rfl 11 rfl r_246_11 ?_
    refine K_bipush (v := 10) rfl (by decide) ?_
    refine K_aload_n rfl 0 rfl ?_
    refine K_gI rfl sh_246 hM23 rfl rfl 7 rfl ?_
    refine K_if_eq rfl (fun c24 => ?_) (fun c24 => ?_)
    · rw [if_pos c24] at h
      refine K_lconst (v := 0) rfl (by decide) ?_
      refine K_pick [0] ?_
      exact L_Course_fillWords_218    _ _ _ hM23  h
    · rw [if_neg c24] at h
      refine K_lconst (v := 1) rfl (by decide) ?_
      refine K_goto rfl ?_
      refine K_pick [0] ?_
      exact L_Course_fillWords_218    _ _ _ hM23  h
set_option maxRecDepth 20000 in
theorem L_Course_fillWords_142 {X : mX} {x1 : Int32} {r : mM}  (l2 : Int32) (l3 : Int32) (s1 : Int32) (s2 : Int64) (M : mM) (hM : Fx M)  (h : f_Course_fillWords_142 x1  l2 l3 s1 s2 M = some r) : KK X 2 87 142 [(0, .ref 246), (1, .int x1), (2, .int l2), (3, .int l3)] [.long s2, .int s1, .ref 268] M (fun v M' => v = none ∧ r = M' ∧ Fx r) := by
    unfold f_Course_fillWords_142 at h
    obtain ⟨M16, eM16, h⟩ := Option.bind_eq_some_iff.mp h
    refine K_wrL rfl sh_268 hM eM16 (fun hM16 => ?_)
    refine K_aload_n rfl 0 rfl ?_
    refine K_gR rfl sh_246 hM16 rfl rfl 11 rfl r_246_11 ?_
    refine K_bipush (v := 7) rfl (by decide) ?_
    refine K_aload_n rfl 0 rfl ?_
    refine K_iload_n rfl 1 rfl ?_
    obtain ⟨r17, er17, h⟩ := Option.bind_eq_some_iff.mp h
    refine K_cV [.int x1] [.int 7, .ref 268] rfl rfl (Nat.le_of_ble_eq_true rfl) (Nat.le_of_ble_eq_true rfl) sh_246 hM16 rfl (EV_le (Nat.le_of_ble_eq_true rfl) (F_Course_fartherBy hM16  er17)) (fun v' M' hq => ?_)
    obtain ⟨rfl, rfl, hr17⟩ := hq
    refine K_i2l rfl ?_
    obtain ⟨M18, eM18, h⟩ := Option.bind_eq_some_iff.mp h
    refine K_wrL rfl sh_268 hr17 eM18 (fun hM18 => ?_)
    refine K_aload_n rfl 0 rfl ?_
    refine K_gR rfl sh_246 hM18 rfl rfl 11 rfl r_246_11 ?_
    refine K_bipush (v := 8) rfl (by decide) ?_
    refine K_aload_n rfl 0 rfl ?_
    refine K_gR rfl sh_246 hM18 rfl rfl 0 rfl r_246_0 ?_
    refine K_iload_n rfl 2 rfl ?_
    refine K_iload_n rfl 3 rfl ?_
    refine K_iconst (v := 1) rfl (by decide) ?_
    refine K_isub rfl ?_
    obtain ⟨r19, er19, h⟩ := Option.bind_eq_some_iff.mp h
    refine K_cV [.int l2, .int (l3 - 1)] [.int 8, .ref 268] rfl rfl (Nat.le_of_ble_eq_true rfl) (Nat.le_of_ble_eq_true rfl) sh_247 hM18 rfl (EV_le (Nat.le_of_ble_eq_true rfl) (F_State_graveAt hM18 st_247 er19)) (fun v' M' hq => ?_)
    obtain ⟨rfl, rfl, hr19⟩ := hq
    refine K_iconst (v := (-1)) rfl (by decide) ?_
    refine K_ic_eq rfl (fun c20 => ?_) (fun c20 => ?_)
    · rw [if_pos c20] at h
      refine K_lconst (v := 0) rfl (by decide) ?_
      refine K_pick [0, 2, 3] ?_
      exact L_Course_fillWords_182    _ _ _ _ _ hr19  h
    · rw [if_neg c20] at h
      refine K_lconst (v := 1) rfl (by decide) ?_
      refine K_goto rfl ?_
      refine K_pick [0, 2, 3] ?_
      exact L_Course_fillWords_182    _ _ _ _ _ hr19  h
set_option maxRecDepth 20000 in
theorem L_Course_fillWords_117 {X : mX} {x1 : Int32} {r : mM}  (l2 : Int32) (l3 : Int32) (s1 : Int32) (s2 : Int64) (M : mM) (hM : Fx M)  (h : f_Course_fillWords_117 x1  l2 l3 s1 s2 M = some r) : KK X 2 87 117 [(0, .ref 246), (1, .int x1), (2, .int l2), (3, .int l3)] [.long s2, .int s1, .ref 268] M (fun v M' => v = none ∧ r = M' ∧ Fx r) := by
    unfold f_Course_fillWords_117 at h
    obtain ⟨M13, eM13, h⟩ := Option.bind_eq_some_iff.mp h
    refine K_wrL rfl sh_268 hM eM13 (fun hM13 => ?_)
    refine K_aload_n rfl 0 rfl ?_
    refine K_gR rfl sh_246 hM13 rfl rfl 11 rfl r_246_11 ?_
    refine K_bipush (v := 6) rfl (by decide) ?_
    refine K_aload_n rfl 0 rfl ?_
    refine K_gR rfl sh_246 hM13 rfl rfl 0 rfl r_246_0 ?_
    refine K_gR rfl sh_247 hM13 rfl rfl 5 rfl r_247_5 ?_
    refine K_iload_n rfl 1 rfl ?_
    obtain ⟨v14, ev14, h⟩ := Option.bind_eq_some_iff.mp h
    refine K_rd rfl sh_250 hM13 ev14 ?_
    refine K_iconst (v := 2) rfl (by decide) ?_
    refine K_ic_ne rfl (fun c15 => ?_) (fun c15 => ?_)
    · rw [if_neg c15] at h
      refine K_lconst (v := 0) rfl (by decide) ?_
      refine K_pick [0, 1, 2, 3] ?_
      exact L_Course_fillWords_142    _ _ _ _ _ hM13  h
    · rw [if_pos c15] at h
      refine K_lconst (v := 1) rfl (by decide) ?_
      refine K_goto rfl ?_
      refine K_pick [0, 1, 2, 3] ?_
      exact L_Course_fillWords_142    _ _ _ _ _ hM13  h
set_option maxRecDepth 20000 in
theorem F_Course_fillWords {X : mX} {x1 : Int32} {M : mM} {r : mM} (hM : Fx M)  (h : f_Course_fillWords x1 M = some r) : EV X (2 + 1) 87 [.ref 246, .int x1] M (fun v M' => v = none ∧ r = M' ∧ Fx r) := by
    refine EV_of (lc := [(0, .ref 246), (1, .int x1)]) (Nat.le_of_ble_eq_true rfl) (by exact Nat.le_of_ble_eq_true rfl) (by exact List.forall_mem_cons.mpr ⟨rfl, List.forall_mem_cons.mpr ⟨rfl, fun _ h => absurd h List.not_mem_nil⟩⟩) ?_
    unfold f_Course_fillWords at h
    refine K_aload_n rfl 0 rfl ?_
    refine K_gR rfl sh_246 hM rfl rfl 0 rfl r_246_0 ?_
    refine K_iload_n rfl 1 rfl ?_
    obtain ⟨r1, er1, h⟩ := Option.bind_eq_some_iff.mp h
    refine K_cV [.int x1] [] rfl rfl (Nat.le_of_ble_eq_true rfl) (Nat.le_of_ble_eq_true rfl) sh_247 hM rfl (EV_le (Nat.le_of_ble_eq_true rfl) (F_State_has hM st_247 er1)) (fun v' M' hq => ?_)
    obtain ⟨rfl, rfl, hr1⟩ := hq
    refine K_if_ne rfl (fun c2 => ?_) (fun c2 => ?_)
    · rw [if_neg c2] at h
      refine K_aload_n rfl 0 rfl ?_
      refine K_gR rfl sh_246 hr1 rfl rfl 0 rfl r_246_0 ?_
      refine K_gR rfl sh_247 hr1 rfl rfl 3 rfl r_247_3 ?_
      refine K_iload_n rfl 1 rfl ?_
      obtain ⟨v3, ev3, h⟩ := Option.bind_eq_some_iff.mp h
      refine K_rd rfl sh_248 hr1 ev3 ?_
      refine K_istore_n rfl ?_
      refine K_aload_n rfl 1 rfl ?_
      refine K_gR rfl sh_246 hr1 rfl rfl 0 rfl r_246_0 ?_
      refine K_gR rfl sh_247 hr1 rfl rfl 4 rfl r_247_4 ?_
      refine K_iload_n rfl 2 rfl ?_
      obtain ⟨v4, ev4, h⟩ := Option.bind_eq_some_iff.mp h
      refine K_rd rfl sh_249 hr1 ev4 ?_
      refine K_istore_n rfl ?_
      refine K_aload_n rfl 2 rfl ?_
      refine K_gR rfl sh_246 hr1 rfl rfl 11 rfl r_246_11 ?_
      refine K_iconst (v := 0) rfl (by decide) ?_
      refine K_iload_n rfl 3 rfl ?_
      refine K_i2l rfl ?_
      obtain ⟨M5, eM5, h⟩ := Option.bind_eq_some_iff.mp h
      refine K_wrL rfl sh_268 hr1 eM5 (fun hM5 => ?_)
      refine K_aload_n rfl 2 rfl ?_
      refine K_gR rfl sh_246 hM5 rfl rfl 11 rfl r_246_11 ?_
      refine K_iconst (v := 1) rfl (by decide) ?_
      refine K_iload_n rfl 1 rfl ?_
      refine K_i2l rfl ?_
      obtain ⟨M6, eM6, h⟩ := Option.bind_eq_some_iff.mp h
      refine K_wrL rfl sh_268 hM5 eM6 (fun hM6 => ?_)
      refine K_aload_n rfl 2 rfl ?_
      refine K_gR rfl sh_246 hM6 rfl rfl 11 rfl r_246_11 ?_
      refine K_iconst (v := 2) rfl (by decide) ?_
      refine K_iload_n rfl 0 rfl ?_
      refine K_i2l rfl ?_
      obtain ⟨M7, eM7, h⟩ := Option.bind_eq_some_iff.mp h
      refine K_wrL rfl sh_268 hM6 eM7 (fun hM7 => ?_)
      refine K_aload_n rfl 2 rfl ?_
      refine K_gR rfl sh_246 hM7 rfl rfl 11 rfl r_246_11 ?_
      refine K_iconst (v := 3) rfl (by decide) ?_
      refine K_aload_n rfl 2 rfl ?_
      refine K_gR rfl sh_246 hM7 rfl rfl 0 rfl r_246_0 ?_
      refine K_gI rfl sh_247 hM7 rfl rfl 0 rfl ?_
      refine K_i2l rfl ?_
      obtain ⟨M8, eM8, h⟩ := Option.bind_eq_some_iff.mp h
      refine K_wrL rfl sh_268 hM7 eM8 (fun hM8 => ?_)
      refine K_aload_n rfl 2 rfl ?_
      refine K_gR rfl sh_246 hM8 rfl rfl 11 rfl r_246_11 ?_
      refine K_iconst (v := 4) rfl (by decide) ?_
      refine K_aload_n rfl 2 rfl ?_
      refine K_gR rfl sh_246 hM8 rfl rfl 0 rfl r_246_0 ?_
      refine K_gI rfl sh_247 hM8 rfl rfl 0 rfl ?_
      refine K_aload_n rfl 2 rfl ?_
      refine K_gR rfl sh_246 hM8 rfl rfl 0 rfl r_246_0 ?_
      refine K_gR rfl sh_247 hM8 rfl rfl 8 rfl r_247_8 ?_
      refine K_iload_n rfl 3 rfl ?_
      obtain ⟨v9, ev9, h⟩ := Option.bind_eq_some_iff.mp h
      refine K_rd rfl sh_253 hM8 ev9 ?_
      refine K_isub rfl ?_
      refine K_i2l rfl ?_
      obtain ⟨M10, eM10, h⟩ := Option.bind_eq_some_iff.mp h
      refine K_wrL rfl sh_268 hM8 eM10 (fun hM10 => ?_)
      refine K_aload_n rfl 2 rfl ?_
      refine K_gR rfl sh_246 hM10 rfl rfl 11 rfl r_246_11 ?_
      refine K_iconst (v := 5) rfl (by decide) ?_
      refine K_aload_n rfl 2 rfl ?_
      refine K_gR rfl sh_246 hM10 rfl rfl 0 rfl r_246_0 ?_
      refine K_gR rfl sh_247 hM10 rfl rfl 5 rfl r_247_5 ?_
      refine K_iload_n rfl 3 rfl ?_
      obtain ⟨v11, ev11, h⟩ := Option.bind_eq_some_iff.mp h
      refine K_rd rfl sh_250 hM10 ev11 ?_
      refine K_iconst (v := 1) rfl (by decide) ?_
      refine K_ic_ne rfl (fun c12 => ?_) (fun c12 => ?_)
      · rw [if_neg c12] at h
        refine K_lconst (v := 0) rfl (by decide) ?_
        refine K_pick [2, 3, 1, 0] ?_
        exact L_Course_fillWords_117    _ _ _ _ _ hM10  h
      · rw [if_pos c12] at h
        refine K_lconst (v := 1) rfl (by decide) ?_
        refine K_goto rfl ?_
        refine K_pick [2, 3, 1, 0] ?_
        exact L_Course_fillWords_117    _ _ _ _ _ hM10  h
    · rw [if_pos c2] at h
      obtain rfl := Option.some.inj h
      exact K_vret rfl rfl ⟨rfl, rfl, hr1⟩
set_option maxRecDepth 20000 in
theorem F_Rule_join {X : mX} {x0 : Int32} {x1 : Int64} {x3 : Int64} {M : mM} {r : Int64 × mM} (hM : Fx M)  (h : f_Rule_join x0 x1 x3 M = some r) : EV X (0 + 1) 91 [.int x0, .long x1, .long x3] M (fun v M' => v = some (.long r.1) ∧ r.2 = M' ∧ Fx r.2) := by
    refine EV_of (lc := [(0, .int x0), (1, .long x1), (3, .long x3)]) (Nat.le_of_ble_eq_true rfl) (by exact Nat.le_of_ble_eq_true rfl) (by exact List.forall_mem_cons.mpr ⟨rfl, List.forall_mem_cons.mpr ⟨rfl, List.forall_mem_cons.mpr ⟨rfl, fun _ h => absurd h List.not_mem_nil⟩⟩⟩) ?_
    unfold f_Rule_join at h
    refine K_iload_n rfl 0 rfl ?_
    by_cases c3 : x0 = 37
    · rw [if_pos c3] at h
      refine K_ls (t := 134) rfl (by rw [c3]; decide) ?_
      refine K_lload_n rfl 2 rfl ?_
      refine K_lconst (v := 0) rfl (by decide) ?_
      refine K_lcmp rfl ?_
      refine K_if_ne rfl (fun c1 => ?_) (fun c1 => ?_)
      · rw [if_neg c1] at h
        refine K_lload_n rfl 1 rfl ?_
        refine K_lload_n rfl 2 rfl ?_
        refine K_lrem rfl (fun z => by rw [if_pos z] at h; cases h) ?_
        rw [if_neg (fun z : x3 = 0 => by rw [if_pos z] at h; cases h)] at h
        obtain rfl := Option.some.inj h
        exact K_lret rfl rfl ⟨rfl, rfl, hM⟩
      · rw [if_pos c1] at h
        refine K_lconst (v := 0) rfl (by decide) ?_
        refine K_goto rfl ?_
        obtain rfl := Option.some.inj h
        exact K_lret rfl rfl ⟨rfl, rfl, hM⟩
    · rw [if_neg c3] at h
      by_cases c4 : x0 = 38
      · rw [if_pos c4] at h
        refine K_ls (t := 208) rfl (by rw [c4]; decide) ?_
        refine K_lload_n rfl 1 rfl ?_
        refine K_lload_n rfl 2 rfl ?_
        refine K_land rfl ?_
        obtain rfl := Option.some.inj h
        exact K_lret rfl rfl ⟨rfl, rfl, hM⟩
      · rw [if_neg c4] at h
        by_cases c5 : x0 = 42
        · rw [if_pos c5] at h
          refine K_ls (t := 116) rfl (by rw [c5]; decide) ?_
          refine K_lload_n rfl 1 rfl ?_
          refine K_lload_n rfl 2 rfl ?_
          refine K_lmul rfl ?_
          obtain rfl := Option.some.inj h
          exact K_lret rfl rfl ⟨rfl, rfl, hM⟩
        · rw [if_neg c5] at h
          by_cases c6 : x0 = 43
          · rw [if_pos c6] at h
            refine K_ls (t := 108) rfl (by rw [c6]; decide) ?_
            refine K_lload_n rfl 1 rfl ?_
            refine K_lload_n rfl 2 rfl ?_
            refine K_ladd rfl ?_
            obtain rfl := Option.some.inj h
            exact K_lret rfl rfl ⟨rfl, rfl, hM⟩
          · rw [if_neg c6] at h
            by_cases c7 : x0 = 45
            · rw [if_pos c7] at h
              refine K_ls (t := 112) rfl (by rw [c7]; decide) ?_
              refine K_lload_n rfl 1 rfl ?_
              refine K_lload_n rfl 2 rfl ?_
              refine K_lsub rfl ?_
              obtain rfl := Option.some.inj h
              exact K_lret rfl rfl ⟨rfl, rfl, hM⟩
            · rw [if_neg c7] at h
              by_cases c10 : x0 = 47
              · rw [if_pos c10] at h
                refine K_ls (t := 120) rfl (by rw [c10]; decide) ?_
                refine K_lload_n rfl 2 rfl ?_
                refine K_lconst (v := 0) rfl (by decide) ?_
                refine K_lcmp rfl ?_
                refine K_if_ne rfl (fun c8 => ?_) (fun c8 => ?_)
                · rw [if_neg c8] at h
                  refine K_lload_n rfl 1 rfl ?_
                  refine K_lload_n rfl 2 rfl ?_
                  refine K_ldiv rfl (fun z => by rw [if_pos z] at h; cases h) ?_
                  rw [if_neg (fun z : x3 = 0 => by rw [if_pos z] at h; cases h)] at h
                  obtain rfl := Option.some.inj h
                  exact K_lret rfl rfl ⟨rfl, rfl, hM⟩
                · rw [if_pos c8] at h
                  refine K_lconst (v := 0) rfl (by decide) ?_
                  refine K_goto rfl ?_
                  obtain rfl := Option.some.inj h
                  exact K_lret rfl rfl ⟨rfl, rfl, hM⟩
              · rw [if_neg c10] at h
                by_cases c12 : x0 = 60
                · rw [if_pos c12] at h
                  refine K_ls (t := 148) rfl (by rw [c12]; decide) ?_
                  refine K_lload_n rfl 1 rfl ?_
                  refine K_lload_n rfl 2 rfl ?_
                  refine K_lcmp rfl ?_
                  refine K_if_ge rfl (fun c11 => ?_) (fun c11 => ?_)
                  · rw [if_pos c11] at h
                    refine K_lconst (v := 0) rfl (by decide) ?_
                    obtain rfl := Option.some.inj h
                    exact K_lret rfl rfl ⟨rfl, rfl, hM⟩
                  · rw [if_neg c11] at h
                    refine K_lconst (v := 1) rfl (by decide) ?_
                    refine K_goto rfl ?_
                    obtain rfl := Option.some.inj h
                    exact K_lret rfl rfl ⟨rfl, rfl, hM⟩
                · rw [if_neg c12] at h
                  by_cases c14 : x0 = 61
                  · rw [if_pos c14] at h
                    refine K_ls (t := 172) rfl (by rw [c14]; decide) ?_
                    refine K_lload_n rfl 1 rfl ?_
                    refine K_lload_n rfl 2 rfl ?_
                    refine K_lcmp rfl ?_
                    refine K_if_ne rfl (fun c13 => ?_) (fun c13 => ?_)
                    · rw [if_neg c13] at h
                      refine K_lconst (v := 0) rfl (by decide) ?_
                      obtain rfl := Option.some.inj h
                      exact K_lret rfl rfl ⟨rfl, rfl, hM⟩
                    · rw [if_pos c13] at h
                      refine K_lconst (v := 1) rfl (by decide) ?_
                      refine K_goto rfl ?_
                      obtain rfl := Option.some.inj h
                      exact K_lret rfl rfl ⟨rfl, rfl, hM⟩
                  · rw [if_neg c14] at h
                    by_cases c16 : x0 = 62
                    · rw [if_pos c16] at h
                      refine K_ls (t := 196) rfl (by rw [c16]; decide) ?_
                      refine K_lload_n rfl 1 rfl ?_
                      refine K_lload_n rfl 2 rfl ?_
                      refine K_lcmp rfl ?_
                      refine K_if_le rfl (fun c15 => ?_) (fun c15 => ?_)
                      · rw [if_pos c15] at h
                        refine K_lconst (v := 0) rfl (by decide) ?_
                        obtain rfl := Option.some.inj h
                        exact K_lret rfl rfl ⟨rfl, rfl, hM⟩
                      · rw [if_neg c15] at h
                        refine K_lconst (v := 1) rfl (by decide) ?_
                        refine K_goto rfl ?_
                        obtain rfl := Option.some.inj h
                        exact K_lret rfl rfl ⟨rfl, rfl, hM⟩
                    · rw [if_neg c16] at h
                      by_cases c17 : x0 = 124
                      · rw [if_pos c17] at h
                        refine K_ls (t := 212) rfl (by rw [c17]; decide) ?_
                        refine K_lload_n rfl 1 rfl ?_
                        refine K_lload_n rfl 2 rfl ?_
                        refine K_lor rfl ?_
                        obtain rfl := Option.some.inj h
                        exact K_lret rfl rfl ⟨rfl, rfl, hM⟩
                      · rw [if_neg c17] at h
                        by_cases c19 : x0 = 316
                        · rw [if_pos c19] at h
                          refine K_ls (t := 160) rfl (by rw [c19]; decide) ?_
                          refine K_lload_n rfl 1 rfl ?_
                          refine K_lload_n rfl 2 rfl ?_
                          refine K_lcmp rfl ?_
                          refine K_if_gt rfl (fun c18 => ?_) (fun c18 => ?_)
                          · rw [if_pos c18] at h
                            refine K_lconst (v := 0) rfl (by decide) ?_
                            obtain rfl := Option.some.inj h
                            exact K_lret rfl rfl ⟨rfl, rfl, hM⟩
                          · rw [if_neg c18] at h
                            refine K_lconst (v := 1) rfl (by decide) ?_
                            refine K_goto rfl ?_
                            obtain rfl := Option.some.inj h
                            exact K_lret rfl rfl ⟨rfl, rfl, hM⟩
                        · rw [if_neg c19] at h
                          by_cases c21 : x0 = 318
                          · rw [if_pos c21] at h
                            refine K_ls (t := 184) rfl (by rw [c21]; decide) ?_
                            refine K_lload_n rfl 1 rfl ?_
                            refine K_lload_n rfl 2 rfl ?_
                            refine K_lcmp rfl ?_
                            refine K_if_lt rfl (fun c20 => ?_) (fun c20 => ?_)
                            · rw [if_pos c20] at h
                              refine K_lconst (v := 0) rfl (by decide) ?_
                              obtain rfl := Option.some.inj h
                              exact K_lret rfl rfl ⟨rfl, rfl, hM⟩
                            · rw [if_neg c20] at h
                              refine K_lconst (v := 1) rfl (by decide) ?_
                              refine K_goto rfl ?_
                              obtain rfl := Option.some.inj h
                              exact K_lret rfl rfl ⟨rfl, rfl, hM⟩
                          · rw [if_neg c21] at h
                            refine K_ls (t := 216) rfl ?_ ?_
                            · rw [lv_osw (a := 37) c3 rfl, lv_osw (a := 38) c4 rfl, lv_osw (a := 42) c5 rfl, lv_osw (a := 43) c6 rfl, lv_osw (a := 45) c7 rfl, lv_osw (a := 47) c10 rfl, lv_osw (a := 60) c12 rfl, lv_osw (a := 61) c14 rfl, lv_osw (a := 62) c16 rfl, lv_osw (a := 124) c17 rfl, lv_osw (a := 316) c19 rfl, lv_osw (a := 318) c21 rfl]; rfl
                            · refine K_lconst (v := 0) rfl (by decide) ?_
                              obtain rfl := Option.some.inj h
                              exact K_lret rfl rfl ⟨rfl, rfl, hM⟩
set_option maxRecDepth 20000 in
theorem L_Rule_worth_181 {X : mX} {S : Nat} {x1 : Int32} {x2 : Int32} {r : Int64 × mM} (hS : is_ru S) (l4 : Int32) (M : mM) (hM : Fx M)  (h : f_Rule_worth_181 S x1 x2  l4 M = some r) : KK X 1 90 181 [(0, .ref S), (4, .int l4)] [] M (fun v M' => v = some (.long r.1) ∧ r.2 = M' ∧ Fx r.2) := by
    unfold f_Rule_worth_181 at h
    refine K_iload rfl 1 rfl ?_
    refine K_iconst (v := 1) rfl (by decide) ?_
    refine K_ic_lt rfl (fun c2 => ?_) (fun c2 => ?_)
    · rw [if_pos c2] at h
      refine K_lconst (v := 0) rfl (by decide) ?_
      obtain rfl := Option.some.inj h
      exact K_lret rfl rfl ⟨rfl, rfl, hM⟩
    · rw [if_neg c2] at h
      refine K_aload_n rfl 0 rfl ?_
      refine K_gR rfl (ru_s0 hS) hM rfl rfl 6 rfl (ru_r6 hS) ?_
      refine K_iconst (v := 0) rfl (by decide) ?_
      obtain ⟨v3, ev3, h⟩ := Option.bind_eq_some_iff.mp h
      refine K_rdL rfl (ru_s5 hS) hM ev3 ?_
      refine K_goto rfl ?_
      obtain rfl := Option.some.inj h
      exact K_lret rfl rfl ⟨rfl, rfl, hM⟩
set_option maxRecDepth 20000 in
theorem L_Rule_worth_175 {X : mX} {S : Nat} {x1 : Int32} {x2 : Int32} {k10 : Int32 → Int32 → mM → Option (Int64 × mM)} {r : Int64 × mM} (hS : is_ru S) (hk10 : ∀ (l4 : Int32) (l5 : Int32) (M : mM), Fx M → k10 l4 l5 M = some r → KK X 1 90 10 [(0, .ref S), (2, .int x2), (3, .ref 268), (4, .int l4), (5, .int l5)] [] M (fun v M' => v = some (.long r.1) ∧ r.2 = M' ∧ Fx r.2)) (l4 : Int32) (l5 : Int32) (M : mM) (hM : Fx M)  (h : f_Rule_worth_175 S x1 x2 k10 l4 l5 M = some r) : KK X 1 90 175 [(0, .ref S), (2, .int x2), (3, .ref 268), (4, .int l4), (5, .int l5)] [] M (fun v M' => v = some (.long r.1) ∧ r.2 = M' ∧ Fx r.2) := by
    unfold f_Rule_worth_175 at h
    refine K_iinc (y := (l5 + 1)) rfl 4 rfl rfl ?_
    refine K_goto rfl ?_
    refine K_pick [1, 2, 3, 4, 0] ?_
    exact hk10 _ _ _ hM  h
set_option maxRecDepth 20000 in
theorem L_Rule_worth_93 {X : mX} {S : Nat} {x1 : Int32} {x2 : Int32} {k10 : Int32 → Int32 → mM → Option (Int64 × mM)} {r : Int64 × mM} (hS : is_ru S) (hk10 : ∀ (l4 : Int32) (l5 : Int32) (M : mM), Fx M → k10 l4 l5 M = some r → KK X 1 90 10 [(0, .ref S), (2, .int x2), (3, .ref 268), (4, .int l4), (5, .int l5)] [] M (fun v M' => v = some (.long r.1) ∧ r.2 = M' ∧ Fx r.2)) (l4 : Int32) (l5 : Int32) (s1 : Int32) (s2 : Int64) (M : mM) (hM : Fx M)  (h : f_Rule_worth_93 S x1 x2 k10 l4 l5 s1 s2 M = some r) : KK X 1 90 93 [(0, .ref S), (2, .int x2), (3, .ref 268), (4, .int l4), (5, .int l5)] [.long s2, .int s1, .ref (S + 5)] M (fun v M' => v = some (.long r.1) ∧ r.2 = M' ∧ Fx r.2) := by
    unfold f_Rule_worth_93 at h
    obtain ⟨M10, eM10, h⟩ := Option.bind_eq_some_iff.mp h
    refine K_wrL rfl (ru_s5 hS) hM eM10 (fun hM10 => ?_)
    refine K_iinc (y := (l4 + 1)) rfl 3 rfl rfl ?_
    refine K_goto rfl ?_
    refine K_pick [1, 2, 3, 0, 4] ?_
    exact L_Rule_worth_175 hS  hk10 _ _ _ hM10  h
set_option maxRecDepth 20000 in
theorem L_Rule_worth_55 {X : mX} {S : Nat} {x1 : Int32} {x2 : Int32} {k10 : Int32 → Int32 → mM → Option (Int64 × mM)} {r : Int64 × mM} (hS : is_ru S) (hk10 : ∀ (l4 : Int32) (l5 : Int32) (M : mM), Fx M → k10 l4 l5 M = some r → KK X 1 90 10 [(0, .ref S), (2, .int x2), (3, .ref 268), (4, .int l4), (5, .int l5)] [] M (fun v M' => v = some (.long r.1) ∧ r.2 = M' ∧ Fx r.2)) (l4 : Int32) (l5 : Int32) (l6 : Int32) (M : mM) (hM : Fx M)  (h : f_Rule_worth_55 S x1 x2 k10 l4 l5 l6 M = some r) : KK X 1 90 55 [(0, .ref S), (2, .int x2), (3, .ref 268), (4, .int l4), (5, .int l5), (6, .int l6)] [] M (fun v M' => v = some (.long r.1) ∧ r.2 = M' ∧ Fx r.2) := by
    unfold f_Rule_worth_55 at h
    refine K_iload rfl 3 rfl ?_
    refine K_aload_n rfl 0 rfl ?_
    refine K_gR rfl (ru_s0 hS) hM rfl rfl 6 rfl (ru_r6 hS) ?_
    refine K_aln (v := 64) rfl (ru_s5 hS) hM (by decide) (by decide) ?_
    refine K_ic_ge rfl (fun c7 => ?_) (fun c7 => ?_)
    · rw [if_pos c7] at h
      refine K_pick [0, 1, 2, 3, 4] ?_
      exact L_Rule_worth_175 hS  hk10 _ _ _ hM  h
    · rw [if_neg c7] at h
      refine K_aload_n rfl 0 rfl ?_
      refine K_gR rfl (ru_s0 hS) hM rfl rfl 6 rfl (ru_r6 hS) ?_
      refine K_iload rfl 3 rfl ?_
      refine K_iload rfl 5 rfl ?_
      refine K_sipush (v := 1000) rfl (by decide) ?_
      refine K_ic_lt rfl (fun c8 => ?_) (fun c8 => ?_)
      · rw [if_pos c8] at h
        refine K_aload_n rfl 2 rfl ?_
        refine K_iload rfl 5 rfl ?_
        obtain ⟨v9, ev9, h⟩ := Option.bind_eq_some_iff.mp h
        refine K_rdL rfl sh_268 hM ev9 ?_
        refine K_pick [0, 1, 2, 3, 4] ?_
        exact L_Rule_worth_93 hS  hk10 _ _ _ _ _ hM  h
      · rw [if_neg c8] at h
        refine K_iload rfl 5 rfl ?_
        refine K_sipush (v := 1000) rfl (by decide) ?_
        refine K_isub rfl ?_
        refine K_i2l rfl ?_
        refine K_goto rfl ?_
        refine K_pick [0, 1, 2, 3, 4] ?_
        exact L_Rule_worth_93 hS  hk10 _ _ _ _ _ hM  h
set_option maxRecDepth 20000 in
theorem L_Rule_worth_100 {X : mX} {S : Nat} {x1 : Int32} {x2 : Int32} {k10 : Int32 → Int32 → mM → Option (Int64 × mM)} {r : Int64 × mM} (hS : is_ru S) (hk10 : ∀ (l4 : Int32) (l5 : Int32) (M : mM), Fx M → k10 l4 l5 M = some r → KK X 1 90 10 [(0, .ref S), (2, .int x2), (3, .ref 268), (4, .int l4), (5, .int l5)] [] M (fun v M' => v = some (.long r.1) ∧ r.2 = M' ∧ Fx r.2)) (l4 : Int32) (l5 : Int32) (l6 : Int32) (M : mM) (hM : Fx M)  (h : f_Rule_worth_100 S x1 x2 k10 l4 l5 l6 M = some r) : KK X 1 90 100 [(0, .ref S), (2, .int x2), (3, .ref 268), (4, .int l4), (5, .int l5), (6, .int l6)] [] M (fun v M' => v = some (.long r.1) ∧ r.2 = M' ∧ Fx r.2) := by
    unfold f_Rule_worth_100 at h
    refine K_iload rfl 5 rfl ?_
    refine K_bipush (v := 33) rfl (by decide) ?_
    refine K_ic_ne rfl (fun c12 => ?_) (fun c12 => ?_)
    · rw [if_neg c12] at h
      refine K_iload rfl 3 rfl ?_
      refine K_iconst (v := 2) rfl (by decide) ?_
      refine K_ic_lt rfl (fun c13 => ?_) (fun c13 => ?_)
      · rw [if_pos c13] at h
        refine K_pick [0, 1, 2, 3, 4] ?_
        exact L_Rule_worth_175 hS  hk10 _ _ _ hM  h
      · rw [if_neg c13] at h
        refine K_iinc (y := (l4 + (-1))) rfl 3 rfl rfl ?_
        refine K_aload_n rfl 1 rfl ?_
        refine K_gR rfl (ru_s0 hS) hM rfl rfl 6 rfl (ru_r6 hS) ?_
        refine K_iload rfl 0 rfl ?_
        refine K_iconst (v := 1) rfl (by decide) ?_
        refine K_isub rfl ?_
        refine K_iload rfl 5 rfl ?_
        refine K_aload_n rfl 1 rfl ?_
        refine K_gR rfl (ru_s0 hS) hM rfl rfl 6 rfl (ru_r6 hS) ?_
        refine K_iload rfl 0 rfl ?_
        refine K_iconst (v := 1) rfl (by decide) ?_
        refine K_isub rfl ?_
        obtain ⟨v14, ev14, h⟩ := Option.bind_eq_some_iff.mp h
        refine K_rdL rfl (ru_s5 hS) hM ev14 ?_
        refine K_aload_n rfl 1 rfl ?_
        refine K_gR rfl (ru_s0 hS) hM rfl rfl 6 rfl (ru_r6 hS) ?_
        refine K_iload rfl 0 rfl ?_
        obtain ⟨v15, ev15, h⟩ := Option.bind_eq_some_iff.mp h
        refine K_rdL rfl (ru_s5 hS) hM ev15 ?_
        obtain ⟨r16, er16, h⟩ := Option.bind_eq_some_iff.mp h
        refine K_callS [.int l6, .long v14, .long v15] [.int ((l4 + (-1)) - 1), .ref (S + 5)] rfl rfl (Nat.le_of_ble_eq_true rfl) (Nat.le_of_ble_eq_true rfl) (EV_le (Nat.le_of_ble_eq_true rfl) (F_Rule_join hM  er16)) (fun v' M' hq => ?_)
        obtain ⟨rfl, rfl, hr16⟩ := hq
        obtain ⟨M17, eM17, h⟩ := Option.bind_eq_some_iff.mp h
        refine K_wrL rfl (ru_s5 hS) hr16 eM17 (fun hM17 => ?_)
        refine K_pick [1, 2, 3, 0, 4] ?_
        exact L_Rule_worth_175 hS  hk10 _ _ _ hM17  h
    · rw [if_pos c12] at h
      refine K_iload rfl 3 rfl ?_
      refine K_iconst (v := 1) rfl (by decide) ?_
      refine K_ic_lt rfl (fun c18 => ?_) (fun c18 => ?_)
      · rw [if_pos c18] at h
        refine K_pick [0, 1, 2, 3, 4] ?_
        exact L_Rule_worth_175 hS  hk10 _ _ _ hM  h
      · rw [if_neg c18] at h
        refine K_aload_n rfl 0 rfl ?_
        refine K_gR rfl (ru_s0 hS) hM rfl rfl 6 rfl (ru_r6 hS) ?_
        refine K_iload rfl 3 rfl ?_
        refine K_iconst (v := 1) rfl (by decide) ?_
        refine K_isub rfl ?_
        refine K_lconst (v := 1) rfl (by decide) ?_
        refine K_aload_n rfl 0 rfl ?_
        refine K_gR rfl (ru_s0 hS) hM rfl rfl 6 rfl (ru_r6 hS) ?_
        refine K_iload rfl 3 rfl ?_
        refine K_iconst (v := 1) rfl (by decide) ?_
        refine K_isub rfl ?_
        obtain ⟨v19, ev19, h⟩ := Option.bind_eq_some_iff.mp h
        refine K_rdL rfl (ru_s5 hS) hM ev19 ?_
        refine K_lsub rfl ?_
        obtain ⟨M20, eM20, h⟩ := Option.bind_eq_some_iff.mp h
        refine K_wrL rfl (ru_s5 hS) hM eM20 (fun hM20 => ?_)
        refine K_goto rfl ?_
        refine K_pick [0, 1, 2, 3, 4] ?_
        exact L_Rule_worth_175 hS  hk10 _ _ _ hM20  h
set_option maxRecDepth 20000 in
theorem L_Rule_worth_10 {X : mX} {S : Nat} {x1 : Int32} {x2 : Int32} {r : Int64 × mM} (hS : is_ru S) : ∀ (n : Nat) (l4 : Int32) (l5 : Int32) (M : mM), Fx M → f_Rule_worth_10 S x1 x2  n l4 l5 M = some r → KK X 1 90 10 [(0, .ref S), (2, .int x2), (3, .ref 268), (4, .int l4), (5, .int l5)] [] M (fun v M' => v = some (.long r.1) ∧ r.2 = M' ∧ Fx r.2)
  | 0, _, _, _ => fun _ h => by cases h
  | n + 1, l4, l5, M => fun hM h => by
    unfold f_Rule_worth_10 at h
    refine K_iload rfl 4 rfl ?_
    refine K_iload_n rfl 1 rfl ?_
    refine K_ic_ge rfl (fun c1 => ?_) (fun c1 => ?_)
    · rw [if_pos c1] at h
      refine K_pick [0, 3] ?_
      exact L_Rule_worth_181 hS   _ _ hM  h
    · rw [if_neg c1] at h
      refine K_iload rfl 4 rfl ?_
      refine K_aload_n rfl 0 rfl ?_
      refine K_gR rfl (ru_s0 hS) hM rfl rfl 0 rfl (ru_r0 hS) ?_
      refine K_aln (v := 400) rfl (ru_s1 hS) hM (by decide) (by decide) ?_
      refine K_ic_ge rfl (fun c4 => ?_) (fun c4 => ?_)
      · rw [if_pos c4] at h
        refine K_pick [0, 3] ?_
        exact L_Rule_worth_181 hS   _ _ hM  h
      · rw [if_neg c4] at h
        refine K_aload_n rfl 0 rfl ?_
        refine K_gR rfl (ru_s0 hS) hM rfl rfl 0 rfl (ru_r0 hS) ?_
        refine K_iload rfl 4 rfl ?_
        obtain ⟨v5, ev5, h⟩ := Option.bind_eq_some_iff.mp h
        refine K_rd rfl (ru_s1 hS) hM ev5 ?_
        refine K_istore rfl ?_
        refine K_iload rfl 0 rfl ?_
        refine K_sipush (v := 1000) rfl (by decide) ?_
        refine K_ic_ge rfl (fun c6 => ?_) (fun c6 => ?_)
        · rw [if_pos c6] at h
          refine K_pick [1, 2, 3, 4, 5, 0] ?_
          exact L_Rule_worth_55 hS  (L_Rule_worth_10 hS   n) _ _ _ _ hM  h
        · rw [if_neg c6] at h
          refine K_iload rfl 0 rfl ?_
          refine K_if_lt rfl (fun c11 => ?_) (fun c11 => ?_)
          · rw [if_pos c11] at h
            refine K_pick [1, 2, 3, 4, 5, 0] ?_
            exact L_Rule_worth_100 hS  (L_Rule_worth_10 hS   n) _ _ _ _ hM  h
          · rw [if_neg c11] at h
            refine K_iload rfl 0 rfl ?_
            refine K_aload_n rfl 3 rfl ?_
            refine K_aln (v := 12) rfl sh_268 hM (by decide) (by decide) ?_
            refine K_ic_ge rfl (fun c21 => ?_) (fun c21 => ?_)
            · rw [if_pos c21] at h
              refine K_pick [1, 2, 3, 4, 5, 0] ?_
              exact L_Rule_worth_100 hS  (L_Rule_worth_10 hS   n) _ _ _ _ hM  h
            · rw [if_neg c21] at h
              refine K_pick [1, 2, 3, 4, 5, 0] ?_
              exact L_Rule_worth_55 hS  (L_Rule_worth_10 hS   n) _ _ _ _ hM  h
set_option maxRecDepth 20000 in
theorem F_Rule_worth {X : mX} {S : Nat} {x1 : Int32} {x2 : Int32} {M : mM} {r : Int64 × mM} (hM : Fx M) (hS : is_ru S) (h : f_Rule_worth S x1 x2 M = some r) : EV X (1 + 1) 90 [.ref S, .int x1, .int x2, .ref 268] M (fun v M' => v = some (.long r.1) ∧ r.2 = M' ∧ Fx r.2) := by
    refine EV_of (lc := [(0, .ref S), (1, .int x1), (2, .int x2), (3, .ref 268)]) (Nat.le_of_ble_eq_true rfl) (by exact Nat.le_of_ble_eq_true rfl) (by exact List.forall_mem_cons.mpr ⟨rfl, List.forall_mem_cons.mpr ⟨rfl, List.forall_mem_cons.mpr ⟨rfl, List.forall_mem_cons.mpr ⟨rfl, fun _ h => absurd h List.not_mem_nil⟩⟩⟩⟩) ?_
    unfold f_Rule_worth at h
    refine K_iconst (v := 0) rfl (by decide) ?_
    refine K_istore rfl ?_
    refine K_iconst (v := 0) rfl (by decide) ?_
    refine K_iload_n rfl 2 rfl ?_
    refine K_max rfl (Nat.le_of_ble_eq_true rfl) ?_
    refine K_istore rfl ?_
    refine K_pick [2, 4, 5, 1, 0] ?_
    exact L_Rule_worth_10 hS   FUEL _ _ _ hM  h
