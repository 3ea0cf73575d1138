/-! ===== the small machine does what the printed functions say ===== -/
set_option maxRecDepth 20000 in
theorem L_Rule_stepsBy_63 {X : mX} {S : Nat} {r : Int32 × mM} (hS : is_ru S) (l2 : Int32) (M : mM) (hM : Fx M)  (h : f_Rule_stepsBy_63 S  l2 M = some r) : KK X 2 89 63 [(0, .ref S), (1, .ref 268), (2, .int l2)] [] M (fun v M' => v = some (.int r.1) ∧ r.2 = M' ∧ Fx r.2) := by
    unfold f_Rule_stepsBy_63 at h
    refine K_aload_n rfl 0 rfl ?_
    refine K_aload_n rfl 0 rfl ?_
    refine K_gR rfl (ru_s0 hS) hM rfl rfl 2 rfl (ru_r2 hS) ?_
    refine K_iload_n rfl 2 rfl ?_
    obtain ⟨v7, ev7, h⟩ := Option.bind_eq_some_iff.mp h
    refine K_rd rfl (ru_s2 hS) hM ev7 ?_
    refine K_aload_n rfl 0 rfl ?_
    refine K_gR rfl (ru_s0 hS) hM rfl rfl 3 rfl (ru_r3 hS) ?_
    refine K_iload_n rfl 2 rfl ?_
    obtain ⟨v8, ev8, h⟩ := Option.bind_eq_some_iff.mp h
    refine K_rd rfl (ru_s3 hS) hM ev8 ?_
    refine K_aload_n rfl 1 rfl ?_
    obtain ⟨r9, er9, h⟩ := Option.bind_eq_some_iff.mp h
    refine K_cV [.int v7, .int v8, .ref 268] [] rfl rfl (Nat.le_of_ble_eq_true rfl) (Nat.le_of_ble_eq_true rfl) (ru_s0 hS) hM rfl (EV_le (Nat.le_of_ble_eq_true rfl) (F_Rule_worth hM hS er9)) (fun v' M' hq => ?_)
    obtain ⟨rfl, rfl, hr9⟩ := hq
    refine K_lstore rfl ?_
    refine K_lconst (v := 0) rfl (by decide) ?_
    refine K_ldc2 (v := 9) rfl (by decide) ?_
    refine K_lload rfl 0 rfl ?_
    refine K_minl rfl (Nat.le_of_ble_eq_true rfl) ?_
    refine K_maxl rfl (Nat.le_of_ble_eq_true rfl) ?_
    refine K_l2i rfl ?_
    obtain rfl := Option.some.inj h
    exact K_iret rfl (Or.inl rfl) ⟨rfl, rfl, hr9⟩
set_option maxRecDepth 20000 in
theorem L_Rule_stepsBy_36 {X : mX} {S : Nat} {k2 : Int32 → mM → Option (Int32 × mM)} {r : Int32 × mM} (hS : is_ru S) (hk2 : ∀ (l2 : Int32) (M : mM), Fx M → k2 l2 M = some r → KK X 2 89 2 [(0, .ref S), (1, .ref 268), (2, .int l2)] [] M (fun v M' => v = some (.int r.1) ∧ r.2 = M' ∧ Fx r.2)) (l2 : Int32) (s0 : Int32) (M : mM) (hM : Fx M)  (h : f_Rule_stepsBy_36 S k2 l2 s0 M = some r) : KK X 2 89 36 [(0, .ref S), (1, .ref 268), (2, .int l2)] [.int s0] M (fun v M' => v = some (.int r.1) ∧ r.2 = M' ∧ Fx r.2) := by
    unfold f_Rule_stepsBy_36 at h
    refine K_istore_n rfl ?_
    refine K_iload_n rfl 0 rfl ?_
    refine K_if_eq rfl (fun c6 => ?_) (fun c6 => ?_)
    · rw [if_pos c6] at h
      refine K_pick [1, 2, 3] ?_
      exact L_Rule_stepsBy_63 hS   _ _ hM  h
    · rw [if_neg c6] at h
      refine K_aload_n rfl 1 rfl ?_
      refine K_aload_n rfl 1 rfl ?_
      refine K_gR rfl (ru_s0 hS) hM rfl rfl 3 rfl (ru_r3 hS) ?_
      refine K_iload_n rfl 3 rfl ?_
      obtain ⟨v10, ev10, h⟩ := Option.bind_eq_some_iff.mp h
      refine K_rd rfl (ru_s3 hS) hM ev10 ?_
      refine K_aload_n rfl 1 rfl ?_
      refine K_gR rfl (ru_s0 hS) hM rfl rfl 4 rfl (ru_r4 hS) ?_
      refine K_iload_n rfl 3 rfl ?_
      obtain ⟨v11, ev11, h⟩ := Option.bind_eq_some_iff.mp h
      refine K_rd rfl (ru_s4 hS) hM ev11 ?_
      refine K_aload_n rfl 2 rfl ?_
      obtain ⟨r12, er12, h⟩ := Option.bind_eq_some_iff.mp h
      refine K_cV [.int v10, .int v11, .ref 268] [] rfl rfl (Nat.le_of_ble_eq_true rfl) (Nat.le_of_ble_eq_true rfl) (ru_s0 hS) hM rfl (EV_le (Nat.le_of_ble_eq_true rfl) (F_Rule_worth hM hS er12)) (fun v' M' hq => ?_)
      obtain ⟨rfl, rfl, hr12⟩ := hq
      refine K_lconst (v := 0) rfl (by decide) ?_
      refine K_lcmp rfl ?_
      refine K_if_eq rfl (fun c13 => ?_) (fun c13 => ?_)
      · rw [if_pos c13] at h
        refine K_iinc (y := (l2 + 1)) rfl 3 rfl rfl ?_
        refine K_goto rfl ?_
        refine K_pick [2, 3, 0] ?_
        exact hk2 _ _ hr12  h
      · rw [if_neg c13] at h
        refine K_pick [1, 2, 3] ?_
        exact L_Rule_stepsBy_63 hS   _ _ hr12  h
set_option maxRecDepth 20000 in
theorem L_Rule_stepsBy_2 {X : mX} {S : Nat} {r : Int32 × mM} (hS : is_ru S) : ∀ (n : Nat) (l2 : Int32) (M : mM), Fx M → f_Rule_stepsBy_2 S  n l2 M = some r → KK X 2 89 2 [(0, .ref S), (1, .ref 268), (2, .int l2)] [] M (fun v M' => v = some (.int r.1) ∧ r.2 = M' ∧ Fx r.2)
  | 0, _, _ => fun _ h => by cases h
  | n + 1, l2, M => fun hM h => by
    unfold f_Rule_stepsBy_2 at h
    refine K_iload_n rfl 2 rfl ?_
    refine K_aload_n rfl 0 rfl ?_
    refine K_gI rfl (ru_s0 hS) hM rfl rfl 5 rfl ?_
    refine K_ic_ge rfl (fun c1 => ?_) (fun c1 => ?_)
    · rw [if_pos c1] at h
      refine K_iconst (v := 0) rfl (by decide) ?_
      obtain rfl := Option.some.inj h
      exact K_iret rfl (Or.inl rfl) ⟨rfl, rfl, hM⟩
    · rw [if_neg c1] at h
      refine K_iload_n rfl 2 rfl ?_
      refine K_bipush (v := 12) rfl (by decide) ?_
      refine K_ic_ge rfl (fun c2 => ?_) (fun c2 => ?_)
      · rw [if_pos c2] at h
        refine K_iconst (v := 0) rfl (by decide) ?_
        obtain rfl := Option.some.inj h
        exact K_iret rfl (Or.inl rfl) ⟨rfl, rfl, hM⟩
      · rw [if_neg c2] at h
        refine K_aload_n rfl 0 rfl ?_
        refine K_gR rfl (ru_s0 hS) hM rfl rfl 3 rfl (ru_r3 hS) ?_
        refine K_iload_n rfl 2 rfl ?_
        obtain ⟨v3, ev3, h⟩ := Option.bind_eq_some_iff.mp h
        refine K_rd rfl (ru_s3 hS) hM ev3 ?_
        refine K_aload_n rfl 0 rfl ?_
        refine K_gR rfl (ru_s0 hS) hM rfl rfl 4 rfl (ru_r4 hS) ?_
        refine K_iload_n rfl 2 rfl ?_
        obtain ⟨v4, ev4, h⟩ := Option.bind_eq_some_iff.mp h
        refine K_rd rfl (ru_s4 hS) hM ev4 ?_
        refine K_ic_ge rfl (fun c5 => ?_) (fun c5 => ?_)
        · rw [if_pos c5] at h
          refine K_iconst (v := 0) rfl (by decide) ?_
          refine K_pick [0, 1, 2] ?_
          exact L_Rule_stepsBy_36 hS  (L_Rule_stepsBy_2 hS   n) _ _ _ hM  h
        · rw [if_neg c5] at h
          refine K_iconst (v := 1) rfl (by decide) ?_
          refine K_goto rfl ?_
          refine K_pick [0, 1, 2] ?_
          exact L_Rule_stepsBy_36 hS  (L_Rule_stepsBy_2 hS   n) _ _ _ hM  h
set_option maxRecDepth 20000 in
theorem F_Rule_stepsBy {X : mX} {S : Nat} {M : mM} {r : Int32 × mM} (hM : Fx M) (hS : is_ru S) (h : f_Rule_stepsBy S M = some r) : EV X (2 + 1) 89 [.ref S, .ref 268] M (fun v M' => v = some (.int r.1) ∧ r.2 = M' ∧ Fx r.2) := by
    refine EV_of (lc := [(0, .ref S), (1, .ref 268)]) (Nat.le_of_ble_eq_true rfl) (by exact Nat.le_of_ble_eq_true rfl) (by exact List.forall_mem_cons.mpr ⟨rfl, List.forall_mem_cons.mpr ⟨rfl, fun _ h => absurd h List.not_mem_nil⟩⟩) ?_
    unfold f_Rule_stepsBy at h
    refine K_iconst (v := 0) rfl (by decide) ?_
    refine K_istore_n rfl ?_
    refine K_pick [1, 2, 0] ?_
    exact L_Rule_stepsBy_2 hS   FUEL _ _ hM  h
set_option maxRecDepth 20000 in
theorem L_Course_laneRound_49 {X : mX} {x1 : Int32} {x2 : Int32} {x3 : Int32} {r : Int32 × mM}   (M : mM) (hM : Fx M)  (h : f_Course_laneRound_49 x1 x2 x3   M = some r) : KK X 1 93 49 [(0, .ref 246), (2, .int x2), (3, .int x3)] [] M (fun v M' => v = some (.int r.1) ∧ r.2 = M' ∧ Fx r.2) := by
    unfold f_Course_laneRound_49 at h
    refine K_iload_n rfl 1 rfl ?_
    refine K_iconst (v := 1) rfl (by decide) ?_
    refine K_iadd rfl ?_
    refine K_aload_n rfl 0 rfl ?_
    obtain ⟨y6, ey6, h⟩ := Option.bind_eq_some_iff.mp h
    refine K_gN rfl sh_246 hM rfl rfl 5 rfl ey6 ?_
    refine K_gI rfl (yd_s0 (nnl_i ey6).2) hM rfl rfl 0 rfl ?_
    refine K_ic_ge rfl (fun c7 => ?_) (fun c7 => ?_)
    · rw [if_pos c7] at h
      refine K_iconst (v := (-1)) rfl (by decide) ?_
      obtain rfl := Option.some.inj h
      exact K_iret rfl (Or.inl rfl) ⟨rfl, rfl, hM⟩
    · rw [if_neg c7] at h
      refine K_aload_n rfl 0 rfl ?_
      refine K_gR rfl sh_246 hM rfl rfl 0 rfl r_246_0 ?_
      refine K_iload_n rfl 1 rfl ?_
      refine K_iconst (v := 1) rfl (by decide) ?_
      refine K_iadd rfl ?_
      refine K_iload_n rfl 2 rfl ?_
      obtain ⟨r8, er8, h⟩ := Option.bind_eq_some_iff.mp h
      refine K_cV [.int (x2 + 1), .int x3] [] rfl rfl (Nat.le_of_ble_eq_true rfl) (Nat.le_of_ble_eq_true rfl) sh_247 hM rfl (EV_le (Nat.le_of_ble_eq_true rfl) (F_State_graveAt hM st_247 er8)) (fun v' M' hq => ?_)
      obtain ⟨rfl, rfl, hr8⟩ := hq
      refine K_iconst (v := (-1)) rfl (by decide) ?_
      refine K_ic_ne rfl (fun c9 => ?_) (fun c9 => ?_)
      · rw [if_neg c9] at h
        refine K_iconst (v := (-1)) rfl (by decide) ?_
        obtain rfl := Option.some.inj h
        exact K_iret rfl (Or.inl rfl) ⟨rfl, rfl, hr8⟩
      · rw [if_pos c9] at h
        refine K_iload_n rfl 1 rfl ?_
        refine K_iconst (v := 1) rfl (by decide) ?_
        refine K_iadd rfl ?_
        refine K_goto rfl ?_
        obtain rfl := Option.some.inj h
        exact K_iret rfl (Or.inl rfl) ⟨rfl, rfl, hr8⟩
set_option maxRecDepth 20000 in
theorem F_Course_laneRound {X : mX} {x1 : Int32} {x2 : Int32} {x3 : Int32} {M : mM} {r : Int32 × mM} (hM : Fx M)  (h : f_Course_laneRound x1 x2 x3 M = some r) : EV X (1 + 1) 93 [.ref 246, .int x1, .int x2, .int x3] M (fun v M' => v = some (.int r.1) ∧ r.2 = M' ∧ Fx r.2) := by
    refine EV_of (lc := [(0, .ref 246), (1, .int x1), (2, .int x2), (3, .int x3)]) (Nat.le_of_ble_eq_true rfl) (by exact Nat.le_of_ble_eq_true rfl) (by exact List.forall_mem_cons.mpr ⟨rfl, List.forall_mem_cons.mpr ⟨rfl, List.forall_mem_cons.mpr ⟨rfl, List.forall_mem_cons.mpr ⟨rfl, fun _ h => absurd h List.not_mem_nil⟩⟩⟩⟩) ?_
    unfold f_Course_laneRound at h
    refine K_aload_n rfl 0 rfl ?_
    refine K_gR rfl sh_246 hM rfl rfl 0 rfl r_246_0 ?_
    refine K_iload_n rfl 1 rfl ?_
    obtain ⟨r1, er1, h⟩ := Option.bind_eq_some_iff.mp h
    refine K_cV [.int x1] [] rfl rfl (Nat.le_of_ble_eq_true rfl) (Nat.le_of_ble_eq_true rfl) sh_247 hM rfl (EV_le (Nat.le_of_ble_eq_true rfl) (F_State_has hM st_247 er1)) (fun v' M' hq => ?_)
    obtain ⟨rfl, rfl, hr1⟩ := hq
    refine K_if_eq rfl (fun c2 => ?_) (fun c2 => ?_)
    · rw [if_pos c2] at h
      refine K_iconst (v := (-1)) rfl (by decide) ?_
      obtain rfl := Option.some.inj h
      exact K_iret rfl (Or.inl rfl) ⟨rfl, rfl, hr1⟩
    · rw [if_neg c2] at h
      refine K_aload_n rfl 0 rfl ?_
      refine K_gR rfl sh_246 hr1 rfl rfl 0 rfl r_246_0 ?_
      refine K_gR rfl sh_247 hr1 rfl rfl 5 rfl r_247_5 ?_
      refine K_iload_n rfl 1 rfl ?_
      obtain ⟨v3, ev3, h⟩ := Option.bind_eq_some_iff.mp h
      refine K_rd rfl sh_250 hr1 ev3 ?_
      refine K_iconst (v := 3) rfl (by decide) ?_
      refine K_ic_eq rfl (fun c4 => ?_) (fun c4 => ?_)
      · rw [if_pos c4] at h
        refine K_iload_n rfl 2 rfl ?_
        refine K_if_le rfl (fun c5 => ?_) (fun c5 => ?_)
        · rw [if_pos c5] at h
          refine K_pick [0, 2, 3] ?_
          exact L_Course_laneRound_49     _ hr1  h
        · rw [if_neg c5] at h
          refine K_aload_n rfl 0 rfl ?_
          refine K_gR rfl sh_246 hr1 rfl rfl 0 rfl r_246_0 ?_
          refine K_iload_n rfl 2 rfl ?_
          refine K_iconst (v := 1) rfl (by decide) ?_
          refine K_isub rfl ?_
          refine K_iload_n rfl 3 rfl ?_
          obtain ⟨r10, er10, h⟩ := Option.bind_eq_some_iff.mp h
          refine K_cV [.int (x2 - 1), .int x3] [] rfl rfl (Nat.le_of_ble_eq_true rfl) (Nat.le_of_ble_eq_true rfl) sh_247 hr1 rfl (EV_le (Nat.le_of_ble_eq_true rfl) (F_State_graveAt hr1 st_247 er10)) (fun v' M' hq => ?_)
          obtain ⟨rfl, rfl, hr10⟩ := hq
          refine K_iconst (v := (-1)) rfl (by decide) ?_
          refine K_ic_ne rfl (fun c11 => ?_) (fun c11 => ?_)
          · rw [if_neg c11] at h
            refine K_pick [0, 2, 3] ?_
            exact L_Course_laneRound_49     _ hr10  h
          · rw [if_pos c11] at h
            refine K_iload_n rfl 2 rfl ?_
            refine K_iconst (v := 1) rfl (by decide) ?_
            refine K_isub rfl ?_
            obtain rfl := Option.some.inj h
            exact K_iret rfl (Or.inl rfl) ⟨rfl, rfl, hr10⟩
      · rw [if_neg c4] at h
        refine K_iconst (v := (-1)) rfl (by decide) ?_
        obtain rfl := Option.some.inj h
        exact K_iret rfl (Or.inl rfl) ⟨rfl, rfl, hr1⟩
set_option maxRecDepth 20000 in
theorem F_Course_comeTo {X : mX} {x1 : Int32} {x2 : Int32} {x3 : Int32} {M : mM} {r : mM} (hM : Fx M)  (h : f_Course_comeTo x1 x2 x3 M = some r) : EV X (1 + 1) 94 [.ref 246, .int x1, .int x2, .int x3] M (fun v M' => v = none ∧ r = M' ∧ Fx r) := by
    refine EV_of (lc := [(0, .ref 246), (1, .int x1), (2, .int x2), (3, .int x3)]) (Nat.le_of_ble_eq_true rfl) (by exact Nat.le_of_ble_eq_true rfl) (by exact List.forall_mem_cons.mpr ⟨rfl, List.forall_mem_cons.mpr ⟨rfl, List.forall_mem_cons.mpr ⟨rfl, List.forall_mem_cons.mpr ⟨rfl, fun _ h => absurd h List.not_mem_nil⟩⟩⟩⟩) ?_
    unfold f_Course_comeTo at h
    refine K_aload_n rfl 0 rfl ?_
    refine K_gR rfl sh_246 hM rfl rfl 0 rfl r_246_0 ?_
    refine K_iload_n rfl 1 rfl ?_
    obtain ⟨r1, er1, h⟩ := Option.bind_eq_some_iff.mp h
    refine K_cV [.int x1] [] rfl rfl (Nat.le_of_ble_eq_true rfl) (Nat.le_of_ble_eq_true rfl) sh_247 hM rfl (EV_le (Nat.le_of_ble_eq_true rfl) (F_State_has hM st_247 er1)) (fun v' M' hq => ?_)
    obtain ⟨rfl, rfl, hr1⟩ := hq
    refine K_if_eq rfl (fun c2 => ?_) (fun c2 => ?_)
    · rw [if_pos c2] at h
      obtain rfl := Option.some.inj h
      exact K_vret rfl rfl ⟨rfl, rfl, hr1⟩
    · rw [if_neg c2] at h
      refine K_aload_n rfl 0 rfl ?_
      refine K_gR rfl sh_246 hr1 rfl rfl 0 rfl r_246_0 ?_
      refine K_gR rfl sh_247 hr1 rfl rfl 3 rfl r_247_3 ?_
      refine K_iload_n rfl 1 rfl ?_
      refine K_iload_n rfl 2 rfl ?_
      obtain ⟨M3, eM3, h⟩ := Option.bind_eq_some_iff.mp h
      refine K_wr rfl sh_248 hr1 eM3 (fun hM3 => ?_)
      refine K_aload_n rfl 0 rfl ?_
      refine K_gR rfl sh_246 hM3 rfl rfl 0 rfl r_246_0 ?_
      refine K_gR rfl sh_247 hM3 rfl rfl 4 rfl r_247_4 ?_
      refine K_iload_n rfl 1 rfl ?_
      refine K_iload_n rfl 3 rfl ?_
      obtain ⟨M4, eM4, h⟩ := Option.bind_eq_some_iff.mp h
      refine K_wr rfl sh_249 hM3 eM4 (fun hM4 => ?_)
      refine K_aload_n rfl 0 rfl ?_
      refine K_gR rfl sh_246 hM4 rfl rfl 0 rfl r_246_0 ?_
      refine K_gR rfl sh_247 hM4 rfl rfl 6 rfl r_247_6 ?_
      refine K_iload_n rfl 1 rfl ?_
      refine K_aload_n rfl 0 rfl ?_
      obtain ⟨y5, ey5, h⟩ := Option.bind_eq_some_iff.mp h
      refine K_gN rfl sh_246 hM4 rfl rfl 5 rfl ey5 ?_
      refine K_iload_n rfl 2 rfl ?_
      refine K_iload_n rfl 3 rfl ?_
      obtain ⟨r6, er6, h⟩ := Option.bind_eq_some_iff.mp h
      refine K_cV [.int x2, .int x3] [.int x1, .ref 251] rfl rfl (Nat.le_of_ble_eq_true rfl) (Nat.le_of_ble_eq_true rfl) (yd_s0 (nnl_i ey5).2) hM4 rfl (EV_le (Nat.le_of_ble_eq_true rfl) (F_Yard_rootAt hM4 (nnl_i ey5).2 er6)) (fun v' M' hq => ?_)
      obtain ⟨rfl, rfl, hr6⟩ := hq
      obtain ⟨M7, eM7, h⟩ := Option.bind_eq_some_iff.mp h
      refine K_wr rfl sh_251 hr6 eM7 (fun hM7 => ?_)
      obtain rfl := Option.some.inj h
      exact K_vret rfl rfl ⟨rfl, rfl, hM7⟩
set_option maxRecDepth 20000 in
theorem L_Course_goStep_92 {X : mX} {x1 : Int32} {r : Int32 × mM}  (l2 : Int32) (l3 : Int32) (M : mM) (hM : Fx M)  (h : f_Course_goStep_92 x1  l2 l3 M = some r) : KK X 2 92 92 [(0, .ref 246), (1, .int x1), (2, .int l2), (3, .int l3)] [] M (fun v M' => v = some (.int r.1) ∧ r.2 = M' ∧ Fx r.2) := by
    unfold f_Course_goStep_92 at h
    refine K_aload_n rfl 0 rfl ?_
    refine K_iload_n rfl 1 rfl ?_
    refine K_iload_n rfl 3 rfl ?_
    refine K_iload_n rfl 2 rfl ?_
    obtain ⟨M8, eM8, h⟩ := Option.bind_eq_some_iff.mp h
    refine K_cV [.int x1, .int l3, .int l2] [] rfl rfl (Nat.le_of_ble_eq_true rfl) (Nat.le_of_ble_eq_true rfl) sh_246 hM rfl (EV_le (Nat.le_of_ble_eq_true rfl) (F_Course_comeTo hM  eM8)) (fun v' M' hq => ?_)
    obtain ⟨rfl, rfl, hM8⟩ := hq
    refine K_aload_n rfl 0 rfl ?_
    refine K_gR rfl sh_246 hM8 rfl rfl 0 rfl r_246_0 ?_
    refine K_gR rfl sh_247 hM8 rfl rfl 6 rfl r_247_6 ?_
    refine K_iload_n rfl 1 rfl ?_
    obtain ⟨v9, ev9, h⟩ := Option.bind_eq_some_iff.mp h
    refine K_rd rfl sh_251 hM8 ev9 ?_
    refine K_if_ne rfl (fun c10 => ?_) (fun c10 => ?_)
    · rw [if_neg c10] at h
      refine K_iconst (v := 0) rfl (by decide) ?_
      obtain rfl := Option.some.inj h
      exact K_iret rfl (Or.inr ⟨rfl, by decide⟩) ⟨rfl, rfl, hM8⟩
    · rw [if_pos c10] at h
      refine K_iconst (v := 1) rfl (by decide) ?_
      refine K_goto rfl ?_
      obtain rfl := Option.some.inj h
      exact K_iret rfl (Or.inr ⟨rfl, by decide⟩) ⟨rfl, rfl, hM8⟩
set_option maxRecDepth 20000 in
theorem F_Course_goStep {X : mX} {x1 : Int32} {M : mM} {r : Int32 × mM} (hM : Fx M)  (h : f_Course_goStep x1 M = some r) : EV X (2 + 1) 92 [.ref 246, .int x1] M (fun v M' => v = some (.int r.1) ∧ r.2 = M' ∧ Fx r.2) := by
    refine EV_of (lc := [(0, .ref 246), (1, .int x1)]) (Nat.le_of_ble_eq_true rfl) (by exact Nat.le_of_ble_eq_true rfl) (by exact List.forall_mem_cons.mpr ⟨rfl, List.forall_mem_cons.mpr ⟨rfl, fun _ h => absurd h List.not_mem_nil⟩⟩) ?_
    unfold f_Course_goStep at h
    refine K_aload_n rfl 0 rfl ?_
    refine K_gR rfl sh_246 hM rfl rfl 0 rfl r_246_0 ?_
    refine K_iload_n rfl 1 rfl ?_
    obtain ⟨r1, er1, h⟩ := Option.bind_eq_some_iff.mp h
    refine K_cV [.int x1] [] rfl rfl (Nat.le_of_ble_eq_true rfl) (Nat.le_of_ble_eq_true rfl) sh_247 hM rfl (EV_le (Nat.le_of_ble_eq_true rfl) (F_State_lies hM st_247 er1)) (fun v' M' hq => ?_)
    obtain ⟨rfl, rfl, hr1⟩ := hq
    refine K_if_ne rfl (fun c2 => ?_) (fun c2 => ?_)
    · rw [if_neg c2] at h
      refine K_aload_n rfl 0 rfl ?_
      refine K_gR rfl sh_246 hr1 rfl rfl 0 rfl r_246_0 ?_
      refine K_gR rfl sh_247 hr1 rfl rfl 4 rfl r_247_4 ?_
      refine K_iload_n rfl 1 rfl ?_
      obtain ⟨v3, ev3, h⟩ := Option.bind_eq_some_iff.mp h
      refine K_rd rfl sh_249 hr1 ev3 ?_
      refine K_iconst (v := 1) rfl (by decide) ?_
      refine K_isub rfl ?_
      refine K_istore_n rfl ?_
      refine K_iload_n rfl 0 rfl ?_
      refine K_if_ge rfl (fun c4 => ?_) (fun c4 => ?_)
      · rw [if_pos c4] at h
        refine K_aload_n rfl 1 rfl ?_
        refine K_gR rfl sh_246 hr1 rfl rfl 0 rfl r_246_0 ?_
        refine K_gR rfl sh_247 hr1 rfl rfl 3 rfl r_247_3 ?_
        refine K_iload_n rfl 2 rfl ?_
        obtain ⟨v5, ev5, h⟩ := Option.bind_eq_some_iff.mp h
        refine K_rd rfl sh_248 hr1 ev5 ?_
        refine K_istore_n rfl ?_
        refine K_aload_n rfl 2 rfl ?_
        refine K_gR rfl sh_246 hr1 rfl rfl 0 rfl r_246_0 ?_
        refine K_iload_n rfl 0 rfl ?_
        refine K_iload_n rfl 1 rfl ?_
        obtain ⟨r6, er6, h⟩ := Option.bind_eq_some_iff.mp h
        refine K_cV [.int v5, .int (v3 - 1)] [] rfl rfl (Nat.le_of_ble_eq_true rfl) (Nat.le_of_ble_eq_true rfl) sh_247 hr1 rfl (EV_le (Nat.le_of_ble_eq_true rfl) (F_State_graveAt hr1 st_247 er6)) (fun v' M' hq => ?_)
        obtain ⟨rfl, rfl, hr6⟩ := hq
        refine K_istore rfl ?_
        refine K_iload rfl 0 rfl ?_
        refine K_iconst (v := (-1)) rfl (by decide) ?_
        refine K_ic_eq rfl (fun c7 => ?_) (fun c7 => ?_)
        · rw [if_pos c7] at h
          refine K_pick [3, 4, 2, 1] ?_
          exact L_Course_goStep_92    _ _ _ hr6  h
        · rw [if_neg c7] at h
          refine K_aload_n rfl 3 rfl ?_
          refine K_iload rfl 0 rfl ?_
          refine K_iload_n rfl 1 rfl ?_
          refine K_iload_n rfl 2 rfl ?_
          obtain ⟨r11, er11, h⟩ := Option.bind_eq_some_iff.mp h
          refine K_cV [.int r6.1, .int v5, .int (v3 - 1)] [] rfl rfl (Nat.le_of_ble_eq_true rfl) (Nat.le_of_ble_eq_true rfl) sh_246 hr6 rfl (EV_le (Nat.le_of_ble_eq_true rfl) (F_Course_laneRound hr6  er11)) (fun v' M' hq => ?_)
          obtain ⟨rfl, rfl, hr11⟩ := hq
          refine K_istore_n rfl ?_
          refine K_iload_n rfl 0 rfl ?_
          refine K_iconst (v := (-1)) rfl (by decide) ?_
          refine K_ic_ne rfl (fun c12 => ?_) (fun c12 => ?_)
          · rw [if_neg c12] at h
            refine K_aload_n rfl 3 rfl ?_
            refine K_gR rfl sh_246 hr11 rfl rfl 0 rfl r_246_0 ?_
            refine K_gR rfl sh_247 hr11 rfl rfl 9 rfl r_247_9 ?_
            refine K_iload_n rfl 4 rfl ?_
            refine K_dup2 rfl ⟨rfl, rfl⟩ ?_
            obtain ⟨v13, ev13, h⟩ := Option.bind_eq_some_iff.mp h
            refine K_rd rfl sh_254 hr11 ev13 ?_
            refine K_iconst (v := 1) rfl (by decide) ?_
            refine K_iadd rfl ?_
            obtain ⟨M14, eM14, h⟩ := Option.bind_eq_some_iff.mp h
            refine K_wr rfl sh_254 hr11 eM14 (fun hM14 => ?_)
            refine K_pick [3, 4, 2, 0] ?_
            exact L_Course_goStep_92    _ _ _ hM14  h
          · rw [if_pos c12] at h
            refine K_iconst (v := 0) rfl (by decide) ?_
            obtain rfl := Option.some.inj h
            exact K_iret rfl (Or.inr ⟨rfl, by decide⟩) ⟨rfl, rfl, hr11⟩
      · rw [if_neg c4] at h
        refine K_aload_n rfl 1 rfl ?_
        refine K_iload_n rfl 2 rfl ?_
        obtain ⟨M15, eM15, h⟩ := Option.bind_eq_some_iff.mp h
        refine K_cV [.int x1] [] rfl rfl (Nat.le_of_ble_eq_true rfl) (Nat.le_of_ble_eq_true rfl) sh_246 hr1 rfl (EV_le (Nat.le_of_ble_eq_true rfl) (F_Course_drop hr1  eM15)) (fun v' M' hq => ?_)
        obtain ⟨rfl, rfl, hM15⟩ := hq
        refine K_iconst (v := 0) rfl (by decide) ?_
        obtain rfl := Option.some.inj h
        exact K_iret rfl (Or.inr ⟨rfl, by decide⟩) ⟨rfl, rfl, hM15⟩
    · rw [if_pos c2] at h
      refine K_iconst (v := 0) rfl (by decide) ?_
      obtain rfl := Option.some.inj h
      exact K_iret rfl (Or.inr ⟨rfl, by decide⟩) ⟨rfl, rfl, hr1⟩
set_option maxRecDepth 20000 in
theorem L_Course_takeTurn_107 {X : mX} {x1 : Int32} {r : mM}  : ∀ (n : Nat) (l2 : Int32) (l3 : Int32) (l4 : Int32) (M : mM), Fx M → f_Course_takeTurn_107 x1  n l2 l3 l4 M = some r → KK X 3 85 107 [(0, .ref 246), (1, .int x1), (2, .int l2), (3, .int l3), (4, .int l4)] [] M (fun v M' => v = none ∧ r = M' ∧ Fx r)
  | 0, _, _, _, _ => fun _ h => by cases h
  | n + 1, l2, l3, l4, M => fun hM h => by
    unfold f_Course_takeTurn_107 at h
    refine K_iload rfl 4 rfl ?_
    refine K_iload_n rfl 2 rfl ?_
    refine K_ic_ge rfl (fun c11 => ?_) (fun c11 => ?_)
    · rw [if_pos c11] at h
      obtain rfl := Option.some.inj h
      exact K_vret rfl rfl ⟨rfl, rfl, hM⟩
    · rw [if_neg c11] at h
      refine K_iload rfl 4 rfl ?_
      refine K_bipush (v := 9) rfl (by decide) ?_
      refine K_ic_ge rfl (fun c12 => ?_) (fun c12 => ?_)
      · rw [if_pos c12] at h
        obtain rfl := Option.some.inj h
        exact K_vret rfl rfl ⟨rfl, rfl, hM⟩
      · rw [if_neg c12] at h
        refine K_iload_n rfl 3 rfl ?_
        refine K_if_eq rfl (fun c13 => ?_) (fun c13 => ?_)
        · rw [if_pos c13] at h
          obtain rfl := Option.some.inj h
          exact K_vret rfl rfl ⟨rfl, rfl, hM⟩
        · rw [if_neg c13] at h
          refine K_aload_n rfl 0 rfl ?_
          refine K_iload_n rfl 1 rfl ?_
          obtain ⟨r14, er14, h⟩ := Option.bind_eq_some_iff.mp h
          refine K_cV [.int x1] [] rfl rfl (Nat.le_of_ble_eq_true rfl) (Nat.le_of_ble_eq_true rfl) sh_246 hM rfl (EV_le (Nat.le_of_ble_eq_true rfl) (F_Course_goStep hM  er14)) (fun v' M' hq => ?_)
          obtain ⟨rfl, rfl, hr14⟩ := hq
          refine K_istore_n rfl ?_
          refine K_iinc (y := (l4 + 1)) rfl 4 rfl rfl ?_
          refine K_goto rfl ?_
          refine K_pick [2, 3, 4, 1, 0] ?_
          exact L_Course_takeTurn_107    n _ _ _ _ hr14  h
set_option maxRecDepth 20000 in
theorem L_Course_takeTurn_102 {X : mX} {x1 : Int32} {r : mM}  (l2 : Int32) (M : mM) (hM : Fx M)  (h : f_Course_takeTurn_102 x1  l2 M = some r) : KK X 3 85 102 [(0, .ref 246), (1, .int x1), (2, .int l2)] [] M (fun v M' => v = none ∧ r = M' ∧ Fx r) := by
    unfold f_Course_takeTurn_102 at h
    refine K_iconst (v := 1) rfl (by decide) ?_
    refine K_istore_n rfl ?_
    refine K_iconst (v := 0) rfl (by decide) ?_
    refine K_istore rfl ?_
    refine K_pick [2, 3, 4, 1, 0] ?_
    exact L_Course_takeTurn_107    FUEL _ _ _ _ hM  h
set_option maxRecDepth 20000 in
theorem L_Course_takeTurn_77 {X : mX} {x1 : Int32} {r : mM}  (s0 : Int32) (M : mM) (hM : Fx M)  (h : f_Course_takeTurn_77 x1  s0 M = some r) : KK X 3 85 77 [(0, .ref 246), (1, .int x1)] [.int s0] M (fun v M' => v = none ∧ r = M' ∧ Fx r) := by
    unfold f_Course_takeTurn_77 at h
    refine K_istore_n rfl ?_
    refine K_aload_n rfl 1 rfl ?_
    refine K_gQ rfl sh_246 hM rfl rfl 6 rfl ?_
    refine K_ifnull rfl (fun c18 => ?_) (fun y19 c18 => ?_)
    · rw [if_pos c18] at h
      refine K_pick [1, 2, 0] ?_
      exact L_Course_takeTurn_102    _ _ hM  h
    · rw [if_neg (by rw [c18]; exact fun z => by cases z)] at h
      refine K_aload_n rfl 1 rfl ?_
      refine K_iload_n rfl 2 rfl ?_
      obtain ⟨M15, eM15, h⟩ := Option.bind_eq_some_iff.mp h
      refine K_cV [.int x1] [] rfl rfl (Nat.le_of_ble_eq_true rfl) (Nat.le_of_ble_eq_true rfl) sh_246 hM rfl (EV_le (Nat.le_of_ble_eq_true rfl) (F_Course_fillWords hM  eM15)) (fun v' M' hq => ?_)
      obtain ⟨rfl, rfl, hM15⟩ := hq
      refine K_aload_n rfl 1 rfl ?_
      refine K_gQ rfl sh_246 hM15 rfl rfl 6 rfl ?_
      refine K_aload_n rfl 1 rfl ?_
      refine K_gR rfl sh_246 hM15 rfl rfl 11 rfl r_246_11 ?_
      obtain ⟨y16, ey16, h⟩ := Option.bind_eq_some_iff.mp h
      rw [show va_rf (M15.2.2.2 246 6) = Value.ref y16 from by rw [(nnl_i ey16).1]; rfl]
      obtain ⟨r17, er17, h⟩ := Option.bind_eq_some_iff.mp h
      refine K_cV [.ref 268] [] rfl rfl (Nat.le_of_ble_eq_true rfl) (Nat.le_of_ble_eq_true rfl) (ru_s0 (nnl_i ey16).2) hM15 rfl (EV_le (Nat.le_of_ble_eq_true rfl) (F_Rule_stepsBy hM15 (nnl_i ey16).2 er17)) (fun v' M' hq => ?_)
      obtain ⟨rfl, rfl, hr17⟩ := hq
      refine K_istore_n rfl ?_
      refine K_pick [1, 2, 0] ?_
      exact L_Course_takeTurn_102    _ _ hr17  h
set_option maxRecDepth 20000 in
theorem F_Course_takeTurn {X : mX} {x1 : Int32} {M : mM} {r : mM} (hM : Fx M)  (h : f_Course_takeTurn x1 M = some r) : EV X (3 + 1) 85 [.ref 246, .int x1] M (fun v M' => v = none ∧ r = M' ∧ Fx r) := by
    refine EV_of (lc := [(0, .ref 246), (1, .int x1)]) (Nat.le_of_ble_eq_true rfl) (by exact Nat.le_of_ble_eq_true rfl) (by exact List.forall_mem_cons.mpr ⟨rfl, List.forall_mem_cons.mpr ⟨rfl, fun _ h => absurd h List.not_mem_nil⟩⟩) ?_
    unfold f_Course_takeTurn at h
    refine K_aload_n rfl 0 rfl ?_
    refine K_gR rfl sh_246 hM rfl rfl 0 rfl r_246_0 ?_
    refine K_iload_n rfl 1 rfl ?_
    obtain ⟨r1, er1, h⟩ := Option.bind_eq_some_iff.mp h
    refine K_cV [.int x1] [] rfl rfl (Nat.le_of_ble_eq_true rfl) (Nat.le_of_ble_eq_true rfl) sh_247 hM rfl (EV_le (Nat.le_of_ble_eq_true rfl) (F_State_lies hM st_247 er1)) (fun v' M' hq => ?_)
    obtain ⟨rfl, rfl, hr1⟩ := hq
    refine K_if_ne rfl (fun c2 => ?_) (fun c2 => ?_)
    · rw [if_neg c2] at h
      refine K_aload_n rfl 0 rfl ?_
      refine K_gR rfl sh_246 hr1 rfl rfl 0 rfl r_246_0 ?_
      refine K_gR rfl sh_247 hr1 rfl rfl 6 rfl r_247_6 ?_
      refine K_iload_n rfl 1 rfl ?_
      obtain ⟨v3, ev3, h⟩ := Option.bind_eq_some_iff.mp h
      refine K_rd rfl sh_251 hr1 ev3 ?_
      refine K_if_le rfl (fun c4 => ?_) (fun c4 => ?_)
      · rw [if_pos c4] at h
        refine K_aload_n rfl 0 rfl ?_
        refine K_gR rfl sh_246 hr1 rfl rfl 0 rfl r_246_0 ?_
        refine K_gR rfl sh_247 hr1 rfl rfl 5 rfl r_247_5 ?_
        refine K_iload_n rfl 1 rfl ?_
        obtain ⟨v5, ev5, h⟩ := Option.bind_eq_some_iff.mp h
        refine K_rd rfl sh_250 hr1 ev5 ?_
        refine K_iconst (v := 3) rfl (by decide) ?_
        refine K_ic_eq rfl (fun c6 => ?_) (fun c6 => ?_)
        · rw [if_pos c6] at h
          obtain rfl := Option.some.inj h
          exact K_vret rfl rfl ⟨rfl, rfl, hr1⟩
        · rw [if_neg c6] at h
          refine K_aload_n rfl 0 rfl ?_
          refine K_iload_n rfl 1 rfl ?_
          obtain ⟨r7, er7, h⟩ := Option.bind_eq_some_iff.mp h
          refine K_cV [.int x1] [] rfl rfl (Nat.le_of_ble_eq_true rfl) (Nat.le_of_ble_eq_true rfl) sh_246 hr1 rfl (EV_le (Nat.le_of_ble_eq_true rfl) (F_Course_fartherBy hr1  er7)) (fun v' M' hq => ?_)
          obtain ⟨rfl, rfl, hr7⟩ := hq
          refine K_if_le rfl (fun c8 => ?_) (fun c8 => ?_)
          · rw [if_pos c8] at h
            refine K_aload_n rfl 0 rfl ?_
            refine K_gR rfl sh_246 hr7 rfl rfl 0 rfl r_246_0 ?_
            refine K_gR rfl sh_247 hr7 rfl rfl 5 rfl r_247_5 ?_
            refine K_iload_n rfl 1 rfl ?_
            obtain ⟨v9, ev9, h⟩ := Option.bind_eq_some_iff.mp h
            refine K_rd rfl sh_250 hr7 ev9 ?_
            refine K_if_ne rfl (fun c10 => ?_) (fun c10 => ?_)
            · rw [if_neg c10] at h
              refine K_iconst (v := 2) rfl (by decide) ?_
              refine K_pick [0, 1] ?_
              exact L_Course_takeTurn_77    _ _ hr7  h
            · rw [if_pos c10] at h
              refine K_iconst (v := 1) rfl (by decide) ?_
              refine K_goto rfl ?_
              refine K_pick [0, 1] ?_
              exact L_Course_takeTurn_77    _ _ hr7  h
          · rw [if_neg c8] at h
            obtain rfl := Option.some.inj h
            exact K_vret rfl rfl ⟨rfl, rfl, hr7⟩
      · rw [if_neg c4] at h
        refine K_aload_n rfl 0 rfl ?_
        refine K_gR rfl sh_246 hr1 rfl rfl 0 rfl r_246_0 ?_
        refine K_gR rfl sh_247 hr1 rfl rfl 6 rfl r_247_6 ?_
        refine K_iload_n rfl 1 rfl ?_
        refine K_dup2 rfl ⟨rfl, rfl⟩ ?_
        obtain ⟨v20, ev20, h⟩ := Option.bind_eq_some_iff.mp h
        refine K_rd rfl sh_251 hr1 ev20 ?_
        refine K_iconst (v := 1) rfl (by decide) ?_
        refine K_isub rfl ?_
        obtain ⟨M21, eM21, h⟩ := Option.bind_eq_some_iff.mp h
        refine K_wr rfl sh_251 hr1 eM21 (fun hM21 => ?_)
        obtain rfl := Option.some.inj h
        exact K_vret rfl rfl ⟨rfl, rfl, hM21⟩
    · rw [if_pos c2] at h
      obtain rfl := Option.some.inj h
      exact K_vret rfl rfl ⟨rfl, rfl, hr1⟩
set_option maxRecDepth 20000 in
theorem L_Course_moveStones_155 {X : mX}  {k20 : Int32 → Int32 → mM → Option (mM)} {r : mM}  (hk20 : ∀ (l1 : Int32) (l2 : Int32) (M : mM), Fx M → k20 l1 l2 M = some r → KK X 1 95 20 [(0, .ref 246), (1, .int l1), (2, .int l2)] [] M (fun v M' => v = none ∧ r = M' ∧ Fx r)) (l1 : Int32) (l2 : Int32) (M : mM) (hM : Fx M)  (h : f_Course_moveStones_155  k20 l1 l2 M = some r) : KK X 1 95 155 [(0, .ref 246), (1, .int l1), (2, .int l2)] [] M (fun v M' => v = none ∧ r = M' ∧ Fx r) := by
    unfold f_Course_moveStones_155 at h
    refine K_iinc (y := (l2 + 1)) rfl 2 rfl rfl ?_
    refine K_goto rfl ?_
    refine K_pick [1, 2, 0] ?_
    exact hk20 _ _ _ hM  h
set_option maxRecDepth 20000 in
theorem L_Course_moveStones_154 {X : mX}  {k20 : Int32 → Int32 → mM → Option (mM)} {r : mM}  (hk20 : ∀ (l1 : Int32) (l2 : Int32) (M : mM), Fx M → k20 l1 l2 M = some r → KK X 1 95 20 [(0, .ref 246), (1, .int l1), (2, .int l2)] [] M (fun v M' => v = none ∧ r = M' ∧ Fx r)) (l1 : Int32) (l2 : Int32) (s1 : Int32) (s2 : Int32) (M : mM) (hM : Fx M)  (h : f_Course_moveStones_154  k20 l1 l2 s1 s2 M = some r) : KK X 1 95 154 [(0, .ref 246), (1, .int l1), (2, .int l2)] [.int s2, .int s1, .ref 255] M (fun v M' => v = none ∧ r = M' ∧ Fx r) := by
    unfold f_Course_moveStones_154 at h
    obtain ⟨M15, eM15, h⟩ := Option.bind_eq_some_iff.mp h
    refine K_wr rfl sh_255 hM eM15 (fun hM15 => ?_)
    refine K_pick [0, 1, 2] ?_
    exact L_Course_moveStones_155   hk20 _ _ _ hM15  h
set_option maxRecDepth 20000 in
theorem L_Course_moveStones_107 {X : mX}  {k20 : Int32 → Int32 → mM → Option (mM)} {r : mM}  (hk20 : ∀ (l1 : Int32) (l2 : Int32) (M : mM), Fx M → k20 l1 l2 M = some r → KK X 1 95 20 [(0, .ref 246), (1, .int l1), (2, .int l2)] [] M (fun v M' => v = none ∧ r = M' ∧ Fx r)) (l1 : Int32) (l2 : Int32) (M : mM) (hM : Fx M)  (h : f_Course_moveStones_107  k20 l1 l2 M = some r) : KK X 1 95 107 [(0, .ref 246), (1, .int l1), (2, .int l2)] [] M (fun v M' => v = none ∧ r = M' ∧ Fx r) := by
    unfold f_Course_moveStones_107 at h
    refine K_aload_n rfl 0 rfl ?_
    refine K_gR rfl sh_246 hM rfl rfl 0 rfl r_246_0 ?_
    refine K_gR rfl sh_247 hM rfl rfl 11 rfl r_247_11 ?_
    refine K_iload_n rfl 2 rfl ?_
    refine K_dup2 rfl ⟨rfl, rfl⟩ ?_
    obtain ⟨v10, ev10, h⟩ := Option.bind_eq_some_iff.mp h
    refine K_rd rfl sh_256 hM ev10 ?_
    refine K_iconst (v := 1) rfl (by decide) ?_
    refine K_isub rfl ?_
    obtain ⟨M11, eM11, h⟩ := Option.bind_eq_some_iff.mp h
    refine K_wr rfl sh_256 hM eM11 (fun hM11 => ?_)
    refine K_aload_n rfl 0 rfl ?_
    refine K_gR rfl sh_246 hM11 rfl rfl 0 rfl r_246_0 ?_
    refine K_gR rfl sh_247 hM11 rfl rfl 10 rfl r_247_10 ?_
    refine K_iload_n rfl 2 rfl ?_
    refine K_aload_n rfl 0 rfl ?_
    refine K_gR rfl sh_246 hM11 rfl rfl 0 rfl r_246_0 ?_
    refine K_gR rfl sh_247 hM11 rfl rfl 11 rfl r_247_11 ?_
    refine K_iload_n rfl 2 rfl ?_
    obtain ⟨v12, ev12, h⟩ := Option.bind_eq_some_iff.mp h
    refine K_rd rfl sh_256 hM11 ev12 ?_
    refine K_iconst (v := (-1)) rfl (by decide) ?_
    refine K_ic_ne rfl (fun c13 => ?_) (fun c13 => ?_)
    · rw [if_neg c13] at h
      refine K_aload_n rfl 0 rfl ?_
      refine K_gR rfl sh_246 hM11 rfl rfl 0 rfl r_246_0 ?_
      refine K_gR rfl sh_247 hM11 rfl rfl 10 rfl r_247_10 ?_
      refine K_iload_n rfl 2 rfl ?_
      obtain ⟨v14, ev14, h⟩ := Option.bind_eq_some_iff.mp h
      refine K_rd rfl sh_255 hM11 ev14 ?_
      refine K_pick [0, 1, 2] ?_
      exact L_Course_moveStones_154   hk20 _ _ _ _ _ hM11  h
    · rw [if_pos c13] at h
      refine K_iconst (v := (-1)) rfl (by decide) ?_
      refine K_goto rfl ?_
      refine K_pick [0, 1, 2] ?_
      exact L_Course_moveStones_154   hk20 _ _ _ _ _ hM11  h
set_option maxRecDepth 20000 in
theorem L_Course_moveStones_74 {X : mX}  {k20 : Int32 → Int32 → mM → Option (mM)} {r : mM}  (hk20 : ∀ (l1 : Int32) (l2 : Int32) (M : mM), Fx M → k20 l1 l2 M = some r → KK X 1 95 20 [(0, .ref 246), (1, .int l1), (2, .int l2)] [] M (fun v M' => v = none ∧ r = M' ∧ Fx r)) (l1 : Int32) (l2 : Int32) (s0 : Int32) (M : mM) (hM : Fx M)  (h : f_Course_moveStones_74  k20 l1 l2 s0 M = some r) : KK X 1 95 74 [(0, .ref 246), (1, .int l1), (2, .int l2)] [.int s0] M (fun v M' => v = none ∧ r = M' ∧ Fx r) := by
    unfold f_Course_moveStones_74 at h
    refine K_istore_n rfl ?_
    refine K_aload_n rfl 1 rfl ?_
    refine K_gR rfl sh_246 hM rfl rfl 0 rfl r_246_0 ?_
    refine K_gR rfl sh_247 hM rfl rfl 11 rfl r_247_11 ?_
    refine K_iload_n rfl 3 rfl ?_
    obtain ⟨v6, ev6, h⟩ := Option.bind_eq_some_iff.mp h
    refine K_rd rfl sh_256 hM ev6 ?_
    refine K_iconst (v := (-1)) rfl (by decide) ?_
    refine K_ic_eq rfl (fun c7 => ?_) (fun c7 => ?_)
    · rw [if_pos c7] at h
      refine K_pick [1, 2, 3] ?_
      exact L_Course_moveStones_155   hk20 _ _ _ hM  h
    · rw [if_neg c7] at h
      refine K_iload_n rfl 0 rfl ?_
      refine K_if_eq rfl (fun c8 => ?_) (fun c8 => ?_)
      · rw [if_pos c8] at h
        refine K_pick [1, 2, 3] ?_
        exact L_Course_moveStones_155   hk20 _ _ _ hM  h
      · rw [if_neg c8] at h
        refine K_iload_n rfl 2 rfl ?_
        refine K_if_ne rfl (fun c9 => ?_) (fun c9 => ?_)
        · rw [if_neg c9] at h
          refine K_pick [1, 2, 3] ?_
          exact L_Course_moveStones_107   hk20 _ _ _ hM  h
        · rw [if_pos c9] at h
          refine K_aload_n rfl 1 rfl ?_
          obtain ⟨y16, ey16, h⟩ := Option.bind_eq_some_iff.mp h
          refine K_gN rfl sh_246 hM rfl rfl 5 rfl ey16 ?_
          refine K_iload_n rfl 3 rfl ?_
          obtain ⟨r17, er17, h⟩ := Option.bind_eq_some_iff.mp h
          refine K_cV [.int l2] [] rfl rfl (Nat.le_of_ble_eq_true rfl) (Nat.le_of_ble_eq_true rfl) (yd_s0 (nnl_i ey16).2) hM rfl (EV_le (Nat.le_of_ble_eq_true rfl) (F_Yard_isHeavy hM (nnl_i ey16).2 er17)) (fun v' M' hq => ?_)
          obtain ⟨rfl, rfl, hr17⟩ := hq
          refine K_if_ne rfl (fun c18 => ?_) (fun c18 => ?_)
          · rw [if_neg c18] at h
            refine K_pick [1, 2, 3] ?_
            exact L_Course_moveStones_155   hk20 _ _ _ hr17  h
          · rw [if_pos c18] at h
            refine K_pick [1, 2, 3] ?_
            exact L_Course_moveStones_107   hk20 _ _ _ hr17  h
set_option maxRecDepth 20000 in
theorem L_Course_moveStones_69 {X : mX}  {k20 : Int32 → Int32 → mM → Option (mM)} {r : mM}  (hk20 : ∀ (l1 : Int32) (l2 : Int32) (M : mM), Fx M → k20 l1 l2 M = some r → KK X 1 95 20 [(0, .ref 246), (1, .int l1), (2, .int l2)] [] M (fun v M' => v = none ∧ r = M' ∧ Fx r)) (l1 : Int32) (l2 : Int32) (M : mM) (hM : Fx M)  (h : f_Course_moveStones_69  k20 l1 l2 M = some r) : KK X 1 95 69 [(0, .ref 246), (1, .int l1), (2, .int l2)] [] M (fun v M' => v = none ∧ r = M' ∧ Fx r) := by
    unfold f_Course_moveStones_69 at h
    refine K_iconst (v := 1) rfl (by decide) ?_
    refine K_goto rfl ?_
    refine K_pick [0, 1, 2] ?_
    exact L_Course_moveStones_74   hk20 _ _ _ _ hM  h
set_option maxRecDepth 20000 in
theorem L_Course_moveStones_20 {X : mX}  {r : mM}  : ∀ (n : Nat) (l1 : Int32) (l2 : Int32) (M : mM), Fx M → f_Course_moveStones_20   n l1 l2 M = some r → KK X 1 95 20 [(0, .ref 246), (1, .int l1), (2, .int l2)] [] M (fun v M' => v = none ∧ r = M' ∧ Fx r)
  | 0, _, _, _ => fun _ h => by cases h
  | n + 1, l1, l2, M => fun hM h => by
    unfold f_Course_moveStones_20 at h
    refine K_iload_n rfl 2 rfl ?_
    refine K_aload_n rfl 0 rfl ?_
    refine K_gR rfl sh_246 hM rfl rfl 0 rfl r_246_0 ?_
    refine K_gI rfl sh_247 hM rfl rfl 1 rfl ?_
    refine K_ic_ge rfl (fun c2 => ?_) (fun c2 => ?_)
    · rw [if_pos c2] at h
      obtain rfl := Option.some.inj h
      exact K_vret rfl rfl ⟨rfl, rfl, hM⟩
    · rw [if_neg c2] at h
      refine K_iload_n rfl 2 rfl ?_
      refine K_bipush (v := 11) rfl (by decide) ?_
      refine K_ic_ge rfl (fun c3 => ?_) (fun c3 => ?_)
      · rw [if_pos c3] at h
        obtain rfl := Option.some.inj h
        exact K_vret rfl rfl ⟨rfl, rfl, hM⟩
      · rw [if_neg c3] at h
        refine K_aload_n rfl 0 rfl ?_
        refine K_gR rfl sh_246 hM rfl rfl 0 rfl r_246_0 ?_
        refine K_iload_n rfl 2 rfl ?_
        obtain ⟨r4, er4, h⟩ := Option.bind_eq_some_iff.mp h
        refine K_cV [.int l2] [] rfl rfl (Nat.le_of_ble_eq_true rfl) (Nat.le_of_ble_eq_true rfl) sh_247 hM rfl (EV_le (Nat.le_of_ble_eq_true rfl) (F_State_lies hM st_247 er4)) (fun v' M' hq => ?_)
        obtain ⟨rfl, rfl, hr4⟩ := hq
        refine K_if_eq rfl (fun c5 => ?_) (fun c5 => ?_)
        · rw [if_pos c5] at h
          refine K_pick [0, 1, 2] ?_
          exact L_Course_moveStones_69   (L_Course_moveStones_20    n) _ _ _ hr4  h
        · rw [if_neg c5] at h
          refine K_aload_n rfl 0 rfl ?_
          refine K_gR rfl sh_246 hr4 rfl rfl 0 rfl r_246_0 ?_
          refine K_gR rfl sh_247 hr4 rfl rfl 4 rfl r_247_4 ?_
          refine K_iload_n rfl 2 rfl ?_
          obtain ⟨v19, ev19, h⟩ := Option.bind_eq_some_iff.mp h
          refine K_rd rfl sh_249 hr4 ev19 ?_
          refine K_aload_n rfl 0 rfl ?_
          refine K_gR rfl sh_246 hr4 rfl rfl 0 rfl r_246_0 ?_
          refine K_gR rfl sh_247 hr4 rfl rfl 11 rfl r_247_11 ?_
          refine K_iload_n rfl 2 rfl ?_
          obtain ⟨v20, ev20, h⟩ := Option.bind_eq_some_iff.mp h
          refine K_rd rfl sh_256 hr4 ev20 ?_
          refine K_ic_ge rfl (fun c21 => ?_) (fun c21 => ?_)
          · rw [if_pos c21] at h
            refine K_iconst (v := 0) rfl (by decide) ?_
            refine K_pick [0, 1, 2] ?_
            exact L_Course_moveStones_74   (L_Course_moveStones_20    n) _ _ _ _ hr4  h
          · rw [if_neg c21] at h
            refine K_pick [0, 1, 2] ?_
            exact L_Course_moveStones_69   (L_Course_moveStones_20    n) _ _ _ hr4  h
set_option maxRecDepth 20000 in
theorem L_Course_moveStones_17 {X : mX}  {r : mM}  (s0 : Int32) (M : mM) (hM : Fx M)  (h : f_Course_moveStones_17   s0 M = some r) : KK X 1 95 17 [(0, .ref 246)] [.int s0] M (fun v M' => v = none ∧ r = M' ∧ Fx r) := by
    unfold f_Course_moveStones_17 at h
    refine K_istore_n rfl ?_
    refine K_iconst (v := 0) rfl (by decide) ?_
    refine K_istore_n rfl ?_
    refine K_pick [2, 1, 0] ?_
    exact L_Course_moveStones_20    FUEL _ _ _ hM  h
set_option maxRecDepth 20000 in
theorem F_Course_moveStones {X : mX}  {M : mM} {r : mM} (hM : Fx M)  (h : f_Course_moveStones  M = some r) : EV X (1 + 1) 95 [.ref 246] M (fun v M' => v = none ∧ r = M' ∧ Fx r) := by
    refine EV_of (lc := [(0, .ref 246)]) (Nat.le_of_ble_eq_true rfl) (by exact Nat.le_of_ble_eq_true rfl) (by exact List.forall_mem_cons.mpr ⟨rfl, fun _ h => absurd h List.not_mem_nil⟩) ?_
    unfold f_Course_moveStones at h
    refine K_aload_n rfl 0 rfl ?_
    refine K_gR rfl sh_246 hM rfl rfl 0 rfl r_246_0 ?_
    refine K_gI rfl sh_247 hM rfl rfl 0 rfl ?_
    refine K_iconst (v := 2) rfl (by decide) ?_
    refine K_irem rfl (by decide) ?_
    refine K_if_ne rfl (fun c1 => ?_) (fun c1 => ?_)
    · rw [if_neg c1] at h
      refine K_iconst (v := 0) rfl (by decide) ?_
      refine K_pick [0] ?_
      exact L_Course_moveStones_17    _ _ hM  h
    · rw [if_pos c1] at h
      refine K_iconst (v := 1) rfl (by decide) ?_
      refine K_goto rfl ?_
      refine K_pick [0] ?_
      exact L_Course_moveStones_17    _ _ hM  h
set_option maxRecDepth 20000 in
theorem L_Course_goYear_80 {X : mX}  {r : mM}   (M : mM) (hM : Fx M)  (h : f_Course_goYear_80    M = some r) : KK X 4 80 80 [(0, .ref 246)] [] M (fun v M' => v = none ∧ r = M' ∧ Fx r) := by
    unfold f_Course_goYear_80 at h
    refine K_aload_n rfl 0 rfl ?_
    obtain ⟨M6, eM6, h⟩ := Option.bind_eq_some_iff.mp h
    refine K_cV [] [] rfl rfl (Nat.le_of_ble_eq_true rfl) (Nat.le_of_ble_eq_true rfl) sh_246 hM rfl (EV_le (Nat.le_of_ble_eq_true rfl) (F_Course_moveStones hM  eM6)) (fun v' M' hq => ?_)
    obtain ⟨rfl, rfl, hM6⟩ := hq
    refine K_aload_n rfl 0 rfl ?_
    refine K_gR rfl sh_246 hM6 rfl rfl 0 rfl r_246_0 ?_
    refine K_dup rfl rfl ?_
    refine K_gI rfl sh_247 hM6 rfl rfl 0 rfl ?_
    refine K_iconst (v := 1) rfl (by decide) ?_
    refine K_iadd rfl ?_
    obtain ⟨M7, eM7, h⟩ := Option.bind_eq_some_iff.mp h
    refine K_pI rfl sh_247 hM6 rfl rfl 0 rfl eM7 (fun hM7 => ?_)
    obtain rfl := Option.some.inj h
    exact K_vret rfl rfl ⟨rfl, rfl, hM7⟩
set_option maxRecDepth 20000 in
theorem L_Course_goYear_50 {X : mX}  {r : mM}  : ∀ (n : Nat) (l1 : Int32) (M : mM), Fx M → f_Course_goYear_50   n l1 M = some r → KK X 4 80 50 [(0, .ref 246), (1, .int l1)] [] M (fun v M' => v = none ∧ r = M' ∧ Fx r)
  | 0, _, _ => fun _ h => by cases h
  | n + 1, l1, M => fun hM h => by
    unfold f_Course_goYear_50 at h
    refine K_iload_n rfl 1 rfl ?_
    refine K_aload_n rfl 0 rfl ?_
    refine K_gI rfl sh_246 hM rfl rfl 10 rfl ?_
    refine K_ic_ge rfl (fun c5 => ?_) (fun c5 => ?_)
    · rw [if_pos c5] at h
      refine K_pick [0] ?_
      exact L_Course_goYear_80     _ hM  h
    · rw [if_neg c5] at h
      refine K_iload_n rfl 1 rfl ?_
      refine K_bipush (v := 11) rfl (by decide) ?_
      refine K_ic_ge rfl (fun c8 => ?_) (fun c8 => ?_)
      · rw [if_pos c8] at h
        refine K_pick [0] ?_
        exact L_Course_goYear_80     _ hM  h
      · rw [if_neg c8] at h
        refine K_aload_n rfl 0 rfl ?_
        refine K_aload_n rfl 0 rfl ?_
        refine K_gR rfl sh_246 hM rfl rfl 8 rfl r_246_8 ?_
        refine K_iload_n rfl 1 rfl ?_
        obtain ⟨v9, ev9, h⟩ := Option.bind_eq_some_iff.mp h
        refine K_rd rfl sh_266 hM ev9 ?_
        obtain ⟨M10, eM10, h⟩ := Option.bind_eq_some_iff.mp h
        refine K_cV [.int v9] [] rfl rfl (Nat.le_of_ble_eq_true rfl) (Nat.le_of_ble_eq_true rfl) sh_246 hM rfl (EV_le (Nat.le_of_ble_eq_true rfl) (F_Course_takeTurn hM  eM10)) (fun v' M' hq => ?_)
        obtain ⟨rfl, rfl, hM10⟩ := hq
        refine K_iinc (y := (l1 + 1)) rfl 1 rfl rfl ?_
        refine K_goto rfl ?_
        refine K_pick [1, 0] ?_
        exact L_Course_goYear_50    n _ _ hM10  h
set_option maxRecDepth 20000 in
theorem L_Course_goYear_44 {X : mX}  {r : mM}   (M : mM) (hM : Fx M)  (h : f_Course_goYear_44    M = some r) : KK X 4 80 44 [(0, .ref 246)] [] M (fun v M' => v = none ∧ r = M' ∧ Fx r) := by
    unfold f_Course_goYear_44 at h
    refine K_aload_n rfl 0 rfl ?_
    obtain ⟨M4, eM4, h⟩ := Option.bind_eq_some_iff.mp h
    refine K_cV [] [] rfl rfl (Nat.le_of_ble_eq_true rfl) (Nat.le_of_ble_eq_true rfl) sh_246 hM rfl (EV_le (Nat.le_of_ble_eq_true rfl) (F_Course_takeOrder hM  eM4)) (fun v' M' hq => ?_)
    obtain ⟨rfl, rfl, hM4⟩ := hq
    refine K_iconst (v := 0) rfl (by decide) ?_
    refine K_istore_n rfl ?_
    refine K_pick [1, 0] ?_
    exact L_Course_goYear_50    FUEL _ _ hM4  h
set_option maxRecDepth 20000 in
theorem L_Course_goYear_30 {X : mX}  {r : mM}  (s1 : Int32) (M : mM) (hM : Fx M)  (h : f_Course_goYear_30   s1 M = some r) : KK X 4 80 30 [(0, .ref 246)] [.int s1, .ref 246] M (fun v M' => v = none ∧ r = M' ∧ Fx r) := by
    unfold f_Course_goYear_30 at h
    obtain ⟨M2, eM2, h⟩ := Option.bind_eq_some_iff.mp h
    refine K_pZ rfl sh_246 hM rfl rfl 7 rfl eM2 (fun hM2 => ?_)
    refine K_aload_n rfl 0 rfl ?_
    refine K_gI rfl sh_246 hM2 rfl rfl 7 rfl ?_
    refine K_if_eq rfl (fun c3 => ?_) (fun c3 => ?_)
    · rw [if_pos c3] at h
      refine K_pick [0] ?_
      exact L_Course_goYear_44     _ hM2  h
    · rw [if_neg c3] at h
      refine K_aload_n rfl 0 rfl ?_
      obtain ⟨M11, eM11, h⟩ := Option.bind_eq_some_iff.mp h
      refine K_cV [] [] rfl rfl (Nat.le_of_ble_eq_true rfl) (Nat.le_of_ble_eq_true rfl) sh_246 hM2 rfl (EV_le (Nat.le_of_ble_eq_true rfl) (F_Course_floodRows hM2  eM11)) (fun v' M' hq => ?_)
      obtain ⟨rfl, rfl, hM11⟩ := hq
      refine K_pick [0] ?_
      exact L_Course_goYear_44     _ hM11  h
set_option maxRecDepth 20000 in
theorem L_Course_goYear_25 {X : mX}  {r : mM}   (M : mM) (hM : Fx M)  (h : f_Course_goYear_25    M = some r) : KK X 4 80 25 [(0, .ref 246)] [.ref 246] M (fun v M' => v = none ∧ r = M' ∧ Fx r) := by
    unfold f_Course_goYear_25 at h
    refine K_iconst (v := 1) rfl (by decide) ?_
    refine K_goto rfl ?_
    refine K_pick [0] ?_
    exact L_Course_goYear_30    _ _ hM  h
set_option maxRecDepth 20000 in
theorem F_Course_goYear {X : mX}  {M : mM} {r : mM} (hM : Fx M)  (h : f_Course_goYear  M = some r) : EV X (4 + 1) 80 [.ref 246] M (fun v M' => v = none ∧ r = M' ∧ Fx r) := by
    refine EV_of (lc := [(0, .ref 246)]) (Nat.le_of_ble_eq_true rfl) (by exact Nat.le_of_ble_eq_true rfl) (by exact List.forall_mem_cons.mpr ⟨rfl, fun _ h => absurd h List.not_mem_nil⟩) ?_
    unfold f_Course_goYear at h
    refine K_aload_n rfl 0 rfl ?_
    refine K_aload_n rfl 0 rfl ?_
    refine K_gI rfl sh_246 hM rfl rfl 4 rfl ?_
    refine K_if_ne rfl (fun c1 => ?_) (fun c1 => ?_)
    · rw [if_neg c1] at h
      refine K_pick [0] ?_
      exact L_Course_goYear_25     _ hM  h
    · rw [if_pos c1] at h
      refine K_aload_n rfl 0 rfl ?_
      obtain ⟨y12, ey12, h⟩ := Option.bind_eq_some_iff.mp h
      refine K_gN rfl sh_246 hM rfl rfl 5 rfl ey12 ?_
      refine K_aload_n rfl 0 rfl ?_
      refine K_gR rfl sh_246 hM rfl rfl 0 rfl r_246_0 ?_
      refine K_gI rfl sh_247 hM rfl rfl 0 rfl ?_
      obtain ⟨r13, er13, h⟩ := Option.bind_eq_some_iff.mp h
      refine K_cV [.int (M.2.1 247 0)] [.ref 246] rfl rfl (Nat.le_of_ble_eq_true rfl) (Nat.le_of_ble_eq_true rfl) (yd_s0 (nnl_i ey12).2) hM rfl (EV_le (Nat.le_of_ble_eq_true rfl) (F_Yard_isFlood hM (nnl_i ey12).2 er13)) (fun v' M' hq => ?_)
      obtain ⟨rfl, rfl, hr13⟩ := hq
      refine K_if_eq rfl (fun c14 => ?_) (fun c14 => ?_)
      · rw [if_pos c14] at h
        refine K_iconst (v := 0) rfl (by decide) ?_
        refine K_pick [0] ?_
        exact L_Course_goYear_30    _ _ hr13  h
      · rw [if_neg c14] at h
        refine K_pick [0] ?_
        exact L_Course_goYear_25     _ hr13  h
set_option maxRecDepth 20000 in
theorem F_GraveRails_year {X : mX}  {M : mM} {r : Int32 × mM} (hM : Fx M)  (h : f_GraveRails_year  M = some r) : EV X (5 + 1) 72 [.ref 0] M (fun v M' => v = some (.int r.1) ∧ r.2 = M' ∧ Fx r.2) := by
    refine EV_of (lc := [(0, .ref 0)]) (Nat.le_of_ble_eq_true rfl) (by exact Nat.le_of_ble_eq_true rfl) (by exact List.forall_mem_cons.mpr ⟨rfl, fun _ h => absurd h List.not_mem_nil⟩) ?_
    unfold f_GraveRails_year at h
    refine K_aload_n rfl 0 rfl ?_
    refine K_gR rfl sh_0 hM rfl rfl 5 rfl r_0_5 ?_
    refine K_gR rfl sh_20 hM rfl rfl 0 rfl r_20_0 ?_
    obtain ⟨r1, er1, h⟩ := Option.bind_eq_some_iff.mp h
    refine K_cV [] [] rfl rfl (Nat.le_of_ble_eq_true rfl) (Nat.le_of_ble_eq_true rfl) sh_21 hM rfl (EV_le (Nat.le_of_ble_eq_true rfl) (F_Yard_isTold hM yd_21 er1)) (fun v' M' hq => ?_)
    obtain ⟨rfl, rfl, hr1⟩ := hq
    refine K_if_eq rfl (fun c2 => ?_) (fun c2 => ?_)
    · rw [if_pos c2] at h
      refine K_iconst (v := (-1)) rfl (by decide) ?_
      obtain rfl := Option.some.inj h
      exact K_iret rfl (Or.inl rfl) ⟨rfl, rfl, hr1⟩
    · rw [if_neg c2] at h
      refine K_aload_n rfl 0 rfl ?_
      refine K_gR rfl sh_0 hr1 rfl rfl 5 rfl r_0_5 ?_
      refine K_gR rfl sh_20 hr1 rfl rfl 1 rfl r_20_1 ?_
      refine K_gI rfl sh_29 hr1 rfl rfl 0 rfl ?_
      refine K_sipush (v := 999) rfl (by decide) ?_
      refine K_ic_lt rfl (fun c3 => ?_) (fun c3 => ?_)
      · rw [if_pos c3] at h
        refine K_aload_n rfl 0 rfl ?_
        refine K_gR rfl sh_0 hr1 rfl rfl 7 rfl r_0_7 ?_
        refine K_aload_n rfl 0 rfl ?_
        refine K_gR rfl sh_0 hr1 rfl rfl 5 rfl r_0_5 ?_
        refine K_gR rfl sh_20 hr1 rfl rfl 1 rfl r_20_1 ?_
        obtain ⟨M4, eM4, h⟩ := Option.bind_eq_some_iff.mp h
        refine K_cV [.ref 29] [] rfl rfl (Nat.le_of_ble_eq_true rfl) (Nat.le_of_ble_eq_true rfl) sh_44 hr1 rfl (EV_le (Nat.le_of_ble_eq_true rfl) (F_Acts_keep hr1 st_29 eM4)) (fun v' M' hq => ?_)
        obtain ⟨rfl, rfl, hM4⟩ := hq
        refine K_aload_n rfl 0 rfl ?_
        obtain ⟨M5, eM5, h⟩ := Option.bind_eq_some_iff.mp h
        refine K_cV [] [] rfl rfl (Nat.le_of_ble_eq_true rfl) (Nat.le_of_ble_eq_true rfl) sh_0 hM4 rfl (EV_le (Nat.le_of_ble_eq_true rfl) (F_GraveRails_startFromNow hM4  eM5)) (fun v' M' hq => ?_)
        obtain ⟨rfl, rfl, hM5⟩ := hq
        refine K_aload_n rfl 0 rfl ?_
        refine K_gR rfl sh_0 hM5 rfl rfl 8 rfl r_0_8 ?_
        obtain ⟨M6, eM6, h⟩ := Option.bind_eq_some_iff.mp h
        refine K_cV [] [] rfl rfl (Nat.le_of_ble_eq_true rfl) (Nat.le_of_ble_eq_true rfl) sh_246 hM5 rfl (EV_le (Nat.le_of_ble_eq_true rfl) (F_Course_goYear hM5  eM6)) (fun v' M' hq => ?_)
        obtain ⟨rfl, rfl, hM6⟩ := hq
        refine K_aload_n rfl 0 rfl ?_
        refine K_gR rfl sh_0 hM6 rfl rfl 5 rfl r_0_5 ?_
        refine K_gR rfl sh_20 hM6 rfl rfl 1 rfl r_20_1 ?_
        refine K_aload_n rfl 0 rfl ?_
        refine K_gR rfl sh_0 hM6 rfl rfl 8 rfl r_0_8 ?_
        refine K_gR rfl sh_246 hM6 rfl rfl 0 rfl r_246_0 ?_
        obtain ⟨M7, eM7, h⟩ := Option.bind_eq_some_iff.mp h
        refine K_cV [.ref 247] [] rfl rfl (Nat.le_of_ble_eq_true rfl) (Nat.le_of_ble_eq_true rfl) sh_29 hM6 rfl (EV_le (Nat.le_of_ble_eq_true rfl) (F_State_copyFrom hM6 st_29 st_247 eM7)) (fun v' M' hq => ?_)
        obtain ⟨rfl, rfl, hM7⟩ := hq
        refine K_aload_n rfl 0 rfl ?_
        refine K_gR rfl sh_0 hM7 rfl rfl 8 rfl r_0_8 ?_
        refine K_gI rfl sh_246 hM7 rfl rfl 2 rfl ?_
        obtain rfl := Option.some.inj h
        exact K_iret rfl (Or.inl rfl) ⟨rfl, rfl, hM7⟩
      · rw [if_neg c3] at h
        refine K_iconst (v := (-1)) rfl (by decide) ?_
        obtain rfl := Option.some.inj h
        exact K_iret rfl (Or.inl rfl) ⟨rfl, rfl, hr1⟩
set_option maxRecDepth 20000 in
theorem F_GraveRails_isFree {X : mX} {x1 : Int32} {x2 : Int32} {M : mM} {r : Int32 × mM} (hM : Fx M)  (h : f_GraveRails_isFree x1 x2 M = some r) : EV X (1 + 1) 97 [.ref 0, .int x1, .int x2] M (fun v M' => v = some (.int r.1) ∧ r.2 = M' ∧ Fx r.2) := by
    refine EV_of (lc := [(0, .ref 0), (1, .int x1), (2, .int x2)]) (Nat.le_of_ble_eq_true rfl) (by exact Nat.le_of_ble_eq_true rfl) (by exact List.forall_mem_cons.mpr ⟨rfl, List.forall_mem_cons.mpr ⟨rfl, List.forall_mem_cons.mpr ⟨rfl, fun _ h => absurd h List.not_mem_nil⟩⟩⟩) ?_
    unfold f_GraveRails_isFree at h
    refine K_aload_n rfl 0 rfl ?_
    refine K_gR rfl sh_0 hM rfl rfl 5 rfl r_0_5 ?_
    refine K_gR rfl sh_20 hM rfl rfl 0 rfl r_20_0 ?_
    refine K_iload_n rfl 1 rfl ?_
    refine K_iload_n rfl 2 rfl ?_
    obtain ⟨r1, er1, h⟩ := Option.bind_eq_some_iff.mp h
    refine K_cV [.int x1, .int x2] [] rfl rfl (Nat.le_of_ble_eq_true rfl) (Nat.le_of_ble_eq_true rfl) sh_21 hM rfl (EV_le (Nat.le_of_ble_eq_true rfl) (F_Yard_hasPlace hM yd_21 er1)) (fun v' M' hq => ?_)
    obtain ⟨rfl, rfl, hr1⟩ := hq
    refine K_if_eq rfl (fun c2 => ?_) (fun c2 => ?_)
    · rw [if_pos c2] at h
      refine K_iconst (v := 0) rfl (by decide) ?_
      obtain rfl := Option.some.inj h
      exact K_iret rfl (Or.inr ⟨rfl, by decide⟩) ⟨rfl, rfl, hr1⟩
    · rw [if_neg c2] at h
      refine K_aload_n rfl 0 rfl ?_
      refine K_gR rfl sh_0 hr1 rfl rfl 5 rfl r_0_5 ?_
      refine K_gR rfl sh_20 hr1 rfl rfl 1 rfl r_20_1 ?_
      refine K_iload_n rfl 1 rfl ?_
      refine K_iload_n rfl 2 rfl ?_
      obtain ⟨r3, er3, h⟩ := Option.bind_eq_some_iff.mp h
      refine K_cV [.int x1, .int x2] [] rfl rfl (Nat.le_of_ble_eq_true rfl) (Nat.le_of_ble_eq_true rfl) sh_29 hr1 rfl (EV_le (Nat.le_of_ble_eq_true rfl) (F_State_graveAt hr1 st_29 er3)) (fun v' M' hq => ?_)
      obtain ⟨rfl, rfl, hr3⟩ := hq
      refine K_iconst (v := (-1)) rfl (by decide) ?_
      refine K_ic_ne rfl (fun c4 => ?_) (fun c4 => ?_)
      · rw [if_neg c4] at h
        refine K_iconst (v := 0) rfl (by decide) ?_
        obtain rfl := Option.some.inj h
        exact K_iret rfl (Or.inr ⟨rfl, by decide⟩) ⟨rfl, rfl, hr3⟩
      · rw [if_pos c4] at h
        refine K_iconst (v := 1) rfl (by decide) ?_
        refine K_goto rfl ?_
        obtain rfl := Option.some.inj h
        exact K_iret rfl (Or.inr ⟨rfl, by decide⟩) ⟨rfl, rfl, hr3⟩
set_option maxRecDepth 20000 in
theorem F_GraveRails_dig {X : mX} {x1 : Int32} {x2 : Int32} {x3 : Int32} {M : mM} {r : Int32 × mM} (hM : Fx M)  (h : f_GraveRails_dig x1 x2 x3 M = some r) : EV X (2 + 1) 96 [.ref 0, .int x1, .int x2, .int x3] M (fun v M' => v = some (.int r.1) ∧ r.2 = M' ∧ Fx r.2) := by
    refine EV_of (lc := [(0, .ref 0), (1, .int x1), (2, .int x2), (3, .int x3)]) (Nat.le_of_ble_eq_true rfl) (by exact Nat.le_of_ble_eq_true rfl) (by exact List.forall_mem_cons.mpr ⟨rfl, List.forall_mem_cons.mpr ⟨rfl, List.forall_mem_cons.mpr ⟨rfl, List.forall_mem_cons.mpr ⟨rfl, fun _ h => absurd h List.not_mem_nil⟩⟩⟩⟩) ?_
    unfold f_GraveRails_dig at h
    refine K_aload_n rfl 0 rfl ?_
    refine K_gR rfl sh_0 hM rfl rfl 5 rfl r_0_5 ?_
    refine K_gR rfl sh_20 hM rfl rfl 1 rfl r_20_1 ?_
    refine K_astore rfl ?_
    refine K_aload_n rfl 1 rfl ?_
    refine K_iload_n rfl 2 rfl ?_
    refine K_iload_n rfl 3 rfl ?_
    obtain ⟨r1, er1, h⟩ := Option.bind_eq_some_iff.mp h
    refine K_cV [.int x1, .int x2] [] rfl rfl (Nat.le_of_ble_eq_true rfl) (Nat.le_of_ble_eq_true rfl) sh_0 hM rfl (EV_le (Nat.le_of_ble_eq_true rfl) (F_GraveRails_isFree hM  er1)) (fun v' M' hq => ?_)
    obtain ⟨rfl, rfl, hr1⟩ := hq
    refine K_if_eq rfl (fun c2 => ?_) (fun c2 => ?_)
    · rw [if_pos c2] at h
      refine K_iconst (v := (-1)) rfl (by decide) ?_
      obtain rfl := Option.some.inj h
      exact K_iret rfl (Or.inl rfl) ⟨rfl, rfl, hr1⟩
    · rw [if_neg c2] at h
      refine K_iload_n rfl 4 rfl ?_
      refine K_if_lt rfl (fun c3 => ?_) (fun c3 => ?_)
      · rw [if_pos c3] at h
        refine K_iconst (v := (-1)) rfl (by decide) ?_
        obtain rfl := Option.some.inj h
        exact K_iret rfl (Or.inl rfl) ⟨rfl, rfl, hr1⟩
      · rw [if_neg c3] at h
        refine K_iload_n rfl 4 rfl ?_
        refine K_iconst (v := 3) rfl (by decide) ?_
        refine K_ic_gt rfl (fun c4 => ?_) (fun c4 => ?_)
        · rw [if_pos c4] at h
          refine K_iconst (v := (-1)) rfl (by decide) ?_
          obtain rfl := Option.some.inj h
          exact K_iret rfl (Or.inl rfl) ⟨rfl, rfl, hr1⟩
        · rw [if_neg c4] at h
          refine K_aload rfl 0 rfl ?_
          refine K_gI rfl sh_29 hr1 rfl rfl 1 rfl ?_
          refine K_bipush (v := 10) rfl (by decide) ?_
          refine K_ic_lt rfl (fun c5 => ?_) (fun c5 => ?_)
          · rw [if_pos c5] at h
            refine K_aload_n rfl 1 rfl ?_
            refine K_gR rfl sh_0 hr1 rfl rfl 7 rfl r_0_7 ?_
            refine K_aload rfl 0 rfl ?_
            obtain ⟨M6, eM6, h⟩ := Option.bind_eq_some_iff.mp h
            refine K_cV [.ref 29] [] rfl rfl (Nat.le_of_ble_eq_true rfl) (Nat.le_of_ble_eq_true rfl) sh_44 hr1 rfl (EV_le (Nat.le_of_ble_eq_true rfl) (F_Acts_keep hr1 st_29 eM6)) (fun v' M' hq => ?_)
            obtain ⟨rfl, rfl, hM6⟩ := hq
            refine K_aload rfl 0 rfl ?_
            refine K_iload_n rfl 2 rfl ?_
            refine K_iload_n rfl 3 rfl ?_
            refine K_iload_n rfl 4 rfl ?_
            obtain ⟨M7, eM7, h⟩ := Option.bind_eq_some_iff.mp h
            refine K_cV [.int x1, .int x2, .int x3] [] rfl rfl (Nat.le_of_ble_eq_true rfl) (Nat.le_of_ble_eq_true rfl) sh_29 hM6 rfl (EV_le (Nat.le_of_ble_eq_true rfl) (F_State_add hM6 st_29 eM7)) (fun v' M' hq => ?_)
            obtain ⟨rfl, rfl, hM7⟩ := hq
            refine K_aload rfl 0 rfl ?_
            refine K_gI rfl sh_29 hM7 rfl rfl 1 rfl ?_
            refine K_iconst (v := 1) rfl (by decide) ?_
            refine K_isub rfl ?_
            obtain rfl := Option.some.inj h
            exact K_iret rfl (Or.inl rfl) ⟨rfl, rfl, hM7⟩
          · rw [if_neg c5] at h
            refine K_iconst (v := (-1)) rfl (by decide) ?_
            obtain rfl := Option.some.inj h
            exact K_iret rfl (Or.inl rfl) ⟨rfl, rfl, hr1⟩
set_option maxRecDepth 20000 in
theorem F_GraveRails_pay {X : mX} {x1 : Int32} {M : mM} {r : Int32 × mM} (hM : Fx M)  (h : f_GraveRails_pay x1 M = some r) : EV X (2 + 1) 98 [.ref 0, .int x1] M (fun v M' => v = some (.int r.1) ∧ r.2 = M' ∧ Fx r.2) := by
    refine EV_of (lc := [(0, .ref 0), (1, .int x1)]) (Nat.le_of_ble_eq_true rfl) (by exact Nat.le_of_ble_eq_true rfl) (by exact List.forall_mem_cons.mpr ⟨rfl, List.forall_mem_cons.mpr ⟨rfl, fun _ h => absurd h List.not_mem_nil⟩⟩) ?_
    unfold f_GraveRails_pay at h
    refine K_aload_n rfl 0 rfl ?_
    refine K_gR rfl sh_0 hM rfl rfl 5 rfl r_0_5 ?_
    refine K_gR rfl sh_20 hM rfl rfl 1 rfl r_20_1 ?_
    refine K_astore_n rfl ?_
    refine K_aload_n rfl 0 rfl ?_
    refine K_iload_n rfl 2 rfl ?_
    obtain ⟨r1, er1, h⟩ := Option.bind_eq_some_iff.mp h
    refine K_cV [.int x1] [] rfl rfl (Nat.le_of_ble_eq_true rfl) (Nat.le_of_ble_eq_true rfl) sh_29 hM rfl (EV_le (Nat.le_of_ble_eq_true rfl) (F_State_has hM st_29 er1)) (fun v' M' hq => ?_)
    obtain ⟨rfl, rfl, hr1⟩ := hq
    refine K_if_eq rfl (fun c2 => ?_) (fun c2 => ?_)
    · rw [if_pos c2] at h
      refine K_iconst (v := 0) rfl (by decide) ?_
      obtain rfl := Option.some.inj h
      exact K_iret rfl (Or.inr ⟨rfl, by decide⟩) ⟨rfl, rfl, hr1⟩
    · rw [if_neg c2] at h
      refine K_aload_n rfl 0 rfl ?_
      refine K_gR rfl sh_29 hr1 rfl rfl 5 rfl r_29_5 ?_
      refine K_iload_n rfl 2 rfl ?_
      obtain ⟨v3, ev3, h⟩ := Option.bind_eq_some_iff.mp h
      refine K_rd rfl sh_32 hr1 ev3 ?_
      refine K_iconst (v := 2) rfl (by decide) ?_
      refine K_ic_ne rfl (fun c4 => ?_) (fun c4 => ?_)
      · rw [if_neg c4] at h
        refine K_iconst (v := 0) rfl (by decide) ?_
        obtain rfl := Option.some.inj h
        exact K_iret rfl (Or.inr ⟨rfl, by decide⟩) ⟨rfl, rfl, hr1⟩
      · rw [if_pos c4] at h
        refine K_aload_n rfl 0 rfl ?_
        refine K_iload_n rfl 2 rfl ?_
        obtain ⟨r5, er5, h⟩ := Option.bind_eq_some_iff.mp h
        refine K_cV [.int x1] [] rfl rfl (Nat.le_of_ble_eq_true rfl) (Nat.le_of_ble_eq_true rfl) sh_29 hr1 rfl (EV_le (Nat.le_of_ble_eq_true rfl) (F_State_lies hr1 st_29 er5)) (fun v' M' hq => ?_)
        obtain ⟨rfl, rfl, hr5⟩ := hq
        refine K_if_ne rfl (fun c6 => ?_) (fun c6 => ?_)
        · rw [if_neg c6] at h
          refine K_aload_n rfl 1 rfl ?_
          refine K_gR rfl sh_0 hr5 rfl rfl 7 rfl r_0_7 ?_
          refine K_aload_n rfl 0 rfl ?_
          obtain ⟨M7, eM7, h⟩ := Option.bind_eq_some_iff.mp h
          refine K_cV [.ref 29] [] rfl rfl (Nat.le_of_ble_eq_true rfl) (Nat.le_of_ble_eq_true rfl) sh_44 hr5 rfl (EV_le (Nat.le_of_ble_eq_true rfl) (F_Acts_keep hr5 st_29 eM7)) (fun v' M' hq => ?_)
          obtain ⟨rfl, rfl, hM7⟩ := hq
          refine K_aload_n rfl 0 rfl ?_
          refine K_gR rfl sh_29 hM7 rfl rfl 5 rfl r_29_5 ?_
          refine K_iload_n rfl 2 rfl ?_
          refine K_iconst (v := 0) rfl (by decide) ?_
          obtain ⟨M8, eM8, h⟩ := Option.bind_eq_some_iff.mp h
          refine K_wr rfl sh_32 hM7 eM8 (fun hM8 => ?_)
          refine K_iconst (v := 1) rfl (by decide) ?_
          obtain rfl := Option.some.inj h
          exact K_iret rfl (Or.inr ⟨rfl, by decide⟩) ⟨rfl, rfl, hM8⟩
        · rw [if_pos c6] at h
          refine K_iconst (v := 0) rfl (by decide) ?_
          obtain rfl := Option.some.inj h
          exact K_iret rfl (Or.inr ⟨rfl, by decide⟩) ⟨rfl, rfl, hr5⟩
set_option maxRecDepth 20000 in
theorem L_Course_freeze_108 {X : mX} {x1 : Int32} {k7 : Int32 → Int32 → Int32 → mM → Option (Int32 × mM)} {r : Int32 × mM}  (hk7 : ∀ (l2 : Int32) (l3 : Int32) (l4 : Int32) (M : mM), Fx M → k7 l2 l3 l4 M = some r → KK X 2 100 7 [(0, .ref 246), (1, .int x1), (2, .int l2), (3, .int l3), (4, .int l4)] [] M (fun v M' => v = some (.int r.1) ∧ r.2 = M' ∧ Fx r.2)) (l2 : Int32) (l3 : Int32) (l4 : Int32) (M : mM) (hM : Fx M)  (h : f_Course_freeze_108 x1 k7 l2 l3 l4 M = some r) : KK X 2 100 108 [(0, .ref 246), (1, .int x1), (2, .int l2), (3, .int l3), (4, .int l4)] [] M (fun v M' => v = some (.int r.1) ∧ r.2 = M' ∧ Fx r.2) := by
    unfold f_Course_freeze_108 at h
    refine K_iinc (y := (l4 + 1)) rfl 4 rfl rfl ?_
    refine K_goto rfl ?_
    refine K_pick [1, 2, 3, 4, 0] ?_
    exact hk7 _ _ _ _ hM  h
set_option maxRecDepth 20000 in
theorem L_Course_freeze_105 {X : mX} {x1 : Int32} {k7 : Int32 → Int32 → Int32 → mM → Option (Int32 × mM)} {r : Int32 × mM}  (hk7 : ∀ (l2 : Int32) (l3 : Int32) (l4 : Int32) (M : mM), Fx M → k7 l2 l3 l4 M = some r → KK X 2 100 7 [(0, .ref 246), (1, .int x1), (2, .int l2), (3, .int l3), (4, .int l4)] [] M (fun v M' => v = some (.int r.1) ∧ r.2 = M' ∧ Fx r.2)) (l2 : Int32) (l3 : Int32) (l4 : Int32) (M : mM) (hM : Fx M)  (h : f_Course_freeze_105 x1 k7 l2 l3 l4 M = some r) : KK X 2 100 105 [(0, .ref 246), (1, .int x1), (2, .int l2), (3, .int l3), (4, .int l4)] [] M (fun v M' => v = some (.int r.1) ∧ r.2 = M' ∧ Fx r.2) := by
    unfold f_Course_freeze_105 at h
    refine K_iinc (y := (l3 + 1)) rfl 3 rfl rfl ?_
    refine K_pick [1, 2, 3, 0, 4] ?_
    exact L_Course_freeze_108   hk7 _ _ _ _ hM  h
set_option maxRecDepth 20000 in
theorem L_Course_freeze_75 {X : mX} {x1 : Int32} {k7 : Int32 → Int32 → Int32 → mM → Option (Int32 × mM)} {r : Int32 × mM}  (hk7 : ∀ (l2 : Int32) (l3 : Int32) (l4 : Int32) (M : mM), Fx M → k7 l2 l3 l4 M = some r → KK X 2 100 7 [(0, .ref 246), (1, .int x1), (2, .int l2), (3, .int l3), (4, .int l4)] [] M (fun v M' => v = some (.int r.1) ∧ r.2 = M' ∧ Fx r.2)) (l2 : Int32) (l3 : Int32) (l4 : Int32) (l5 : Int32) (s0 : Int32) (M : mM) (hM : Fx M)  (h : f_Course_freeze_75 x1 k7 l2 l3 l4 l5 s0 M = some r) : KK X 2 100 75 [(0, .ref 246), (1, .int x1), (2, .int l2), (3, .int l3), (4, .int l4), (5, .int l5)] [.int s0] M (fun v M' => v = some (.int r.1) ∧ r.2 = M' ∧ Fx r.2) := by
    unfold f_Course_freeze_75 at h
    refine K_istore rfl ?_
    refine K_iload rfl 0 rfl ?_
    refine K_if_eq rfl (fun c8 => ?_) (fun c8 => ?_)
    · rw [if_pos c8] at h
      refine K_iload_n rfl 4 rfl ?_
      refine K_iload rfl 5 rfl ?_
      refine K_ic_ge rfl (fun c9 => ?_) (fun c9 => ?_)
      · rw [if_pos c9] at h
        refine K_pick [1, 2, 3, 4, 5] ?_
        exact L_Course_freeze_105   hk7 _ _ _ _ hM  h
      · rw [if_neg c9] at h
        refine K_aload_n rfl 1 rfl ?_
        refine K_iload rfl 6 rfl ?_
        refine K_iload_n rfl 2 rfl ?_
        refine K_iload_n rfl 4 rfl ?_
        obtain ⟨M10, eM10, h⟩ := Option.bind_eq_some_iff.mp h
        refine K_cV [.int l5, .int x1, .int l3] [] rfl rfl (Nat.le_of_ble_eq_true rfl) (Nat.le_of_ble_eq_true rfl) sh_246 hM rfl (EV_le (Nat.le_of_ble_eq_true rfl) (F_Course_comeTo hM  eM10)) (fun v' M' hq => ?_)
        obtain ⟨rfl, rfl, hM10⟩ := hq
        refine K_iinc (y := (l2 + 1)) rfl 3 rfl rfl ?_
        refine K_pick [2, 3, 0, 4, 5] ?_
        exact L_Course_freeze_105   hk7 _ _ _ _ hM10  h
    · rw [if_neg c8] at h
      refine K_iload rfl 5 rfl ?_
      refine K_istore_n rfl ?_
      refine K_goto rfl ?_
      refine K_pick [2, 3, 4, 0, 5] ?_
      exact L_Course_freeze_105   hk7 _ _ _ _ hM  h
set_option maxRecDepth 20000 in
theorem L_Course_freeze_70 {X : mX} {x1 : Int32} {k7 : Int32 → Int32 → Int32 → mM → Option (Int32 × mM)} {r : Int32 × mM}  (hk7 : ∀ (l2 : Int32) (l3 : Int32) (l4 : Int32) (M : mM), Fx M → k7 l2 l3 l4 M = some r → KK X 2 100 7 [(0, .ref 246), (1, .int x1), (2, .int l2), (3, .int l3), (4, .int l4)] [] M (fun v M' => v = some (.int r.1) ∧ r.2 = M' ∧ Fx r.2)) (l2 : Int32) (l3 : Int32) (l4 : Int32) (l5 : Int32) (M : mM) (hM : Fx M)  (h : f_Course_freeze_70 x1 k7 l2 l3 l4 l5 M = some r) : KK X 2 100 70 [(0, .ref 246), (1, .int x1), (2, .int l2), (3, .int l3), (4, .int l4), (5, .int l5)] [] M (fun v M' => v = some (.int r.1) ∧ r.2 = M' ∧ Fx r.2) := by
    unfold f_Course_freeze_70 at h
    refine K_iconst (v := 1) rfl (by decide) ?_
    refine K_goto rfl ?_
    refine K_pick [0, 1, 2, 3, 4, 5] ?_
    exact L_Course_freeze_75   hk7 _ _ _ _ _ _ hM  h
set_option maxRecDepth 20000 in
theorem L_Course_freeze_7 {X : mX} {x1 : Int32} {r : Int32 × mM}  : ∀ (n : Nat) (l2 : Int32) (l3 : Int32) (l4 : Int32) (M : mM), Fx M → f_Course_freeze_7 x1  n l2 l3 l4 M = some r → KK X 2 100 7 [(0, .ref 246), (1, .int x1), (2, .int l2), (3, .int l3), (4, .int l4)] [] M (fun v M' => v = some (.int r.1) ∧ r.2 = M' ∧ Fx r.2)
  | 0, _, _, _, _ => fun _ h => by cases h
  | n + 1, l2, l3, l4, M => fun hM h => by
    unfold f_Course_freeze_7 at h
    refine K_iload rfl 4 rfl ?_
    refine K_aload_n rfl 0 rfl ?_
    obtain ⟨y1, ey1, h⟩ := Option.bind_eq_some_iff.mp h
    refine K_gN rfl sh_246 hM rfl rfl 5 rfl ey1 ?_
    refine K_gI rfl (yd_s0 (nnl_i ey1).2) hM rfl rfl 1 rfl ?_
    refine K_ic_ge rfl (fun c2 => ?_) (fun c2 => ?_)
    · rw [if_pos c2] at h
      refine K_iload_n rfl 2 rfl ?_
      obtain rfl := Option.some.inj h
      exact K_iret rfl (Or.inl rfl) ⟨rfl, rfl, hM⟩
    · rw [if_neg c2] at h
      refine K_aload_n rfl 0 rfl ?_
      refine K_gR rfl sh_246 hM rfl rfl 0 rfl r_246_0 ?_
      refine K_iload_n rfl 1 rfl ?_
      refine K_iload rfl 4 rfl ?_
      obtain ⟨r3, er3, h⟩ := Option.bind_eq_some_iff.mp h
      refine K_cV [.int x1, .int l4] [] rfl rfl (Nat.le_of_ble_eq_true rfl) (Nat.le_of_ble_eq_true rfl) sh_247 hM rfl (EV_le (Nat.le_of_ble_eq_true rfl) (F_State_graveAt hM st_247 er3)) (fun v' M' hq => ?_)
      obtain ⟨rfl, rfl, hr3⟩ := hq
      refine K_istore rfl ?_
      refine K_aload_n rfl 1 rfl ?_
      refine K_gR rfl sh_246 hr3 rfl rfl 0 rfl r_246_0 ?_
      refine K_iload rfl 0 rfl ?_
      obtain ⟨r4, er4, h⟩ := Option.bind_eq_some_iff.mp h
      refine K_cV [.int r3.1] [] rfl rfl (Nat.le_of_ble_eq_true rfl) (Nat.le_of_ble_eq_true rfl) sh_247 hr3 rfl (EV_le (Nat.le_of_ble_eq_true rfl) (F_State_has hr3 st_247 er4)) (fun v' M' hq => ?_)
      obtain ⟨rfl, rfl, hr4⟩ := hq
      refine K_if_eq rfl (fun c5 => ?_) (fun c5 => ?_)
      · rw [if_pos c5] at h
        refine K_pick [1, 2, 3, 4, 5] ?_
        exact L_Course_freeze_108   (L_Course_freeze_7    n) _ _ _ _ hr4  h
      · rw [if_neg c5] at h
        refine K_aload_n rfl 1 rfl ?_
        refine K_gR rfl sh_246 hr4 rfl rfl 0 rfl r_246_0 ?_
        refine K_gR rfl sh_247 hr4 rfl rfl 5 rfl r_247_5 ?_
        refine K_iload rfl 0 rfl ?_
        obtain ⟨v6, ev6, h⟩ := Option.bind_eq_some_iff.mp h
        refine K_rd rfl sh_250 hr4 ev6 ?_
        refine K_iconst (v := 3) rfl (by decide) ?_
        refine K_ic_eq rfl (fun c7 => ?_) (fun c7 => ?_)
        · rw [if_pos c7] at h
          refine K_pick [1, 2, 3, 4, 5, 0] ?_
          exact L_Course_freeze_70   (L_Course_freeze_7    n) _ _ _ _ _ hr4  h
        · rw [if_neg c7] at h
          refine K_aload_n rfl 1 rfl ?_
          refine K_gR rfl sh_246 hr4 rfl rfl 0 rfl r_246_0 ?_
          refine K_gR rfl sh_247 hr4 rfl rfl 6 rfl r_247_6 ?_
          refine K_iload rfl 0 rfl ?_
          obtain ⟨v11, ev11, h⟩ := Option.bind_eq_some_iff.mp h
          refine K_rd rfl sh_251 hr4 ev11 ?_
          refine K_if_le rfl (fun c12 => ?_) (fun c12 => ?_)
          · rw [if_pos c12] at h
            refine K_iconst (v := 0) rfl (by decide) ?_
            refine K_pick [1, 2, 3, 4, 5, 0] ?_
            exact L_Course_freeze_75   (L_Course_freeze_7    n) _ _ _ _ _ _ hr4  h
          · rw [if_neg c12] at h
            refine K_pick [1, 2, 3, 4, 5, 0] ?_
            exact L_Course_freeze_70   (L_Course_freeze_7    n) _ _ _ _ _ hr4  h
set_option maxRecDepth 20000 in
theorem F_Course_freeze {X : mX} {x1 : Int32} {M : mM} {r : Int32 × mM} (hM : Fx M)  (h : f_Course_freeze x1 M = some r) : EV X (2 + 1) 100 [.ref 246, .int x1] M (fun v M' => v = some (.int r.1) ∧ r.2 = M' ∧ Fx r.2) := by
    refine EV_of (lc := [(0, .ref 246), (1, .int x1)]) (Nat.le_of_ble_eq_true rfl) (by exact Nat.le_of_ble_eq_true rfl) (by exact List.forall_mem_cons.mpr ⟨rfl, List.forall_mem_cons.mpr ⟨rfl, fun _ h => absurd h List.not_mem_nil⟩⟩) ?_
    unfold f_Course_freeze at h
    refine K_iconst (v := 0) rfl (by decide) ?_
    refine K_istore_n rfl ?_
    refine K_iconst (v := 0) rfl (by decide) ?_
    refine K_istore_n rfl ?_
    refine K_iconst (v := 0) rfl (by decide) ?_
    refine K_istore rfl ?_
    refine K_pick [3, 4, 2, 1, 0] ?_
    exact L_Course_freeze_7    FUEL _ _ _ _ hM  h
set_option maxRecDepth 20000 in
theorem F_GraveRails_frost {X : mX} {x1 : Int32} {M : mM} {r : Int32 × mM} (hM : Fx M)  (h : f_GraveRails_frost x1 M = some r) : EV X (3 + 1) 99 [.ref 0, .int x1] M (fun v M' => v = some (.int r.1) ∧ r.2 = M' ∧ Fx r.2) := by
    refine EV_of (lc := [(0, .ref 0), (1, .int x1)]) (Nat.le_of_ble_eq_true rfl) (by exact Nat.le_of_ble_eq_true rfl) (by exact List.forall_mem_cons.mpr ⟨rfl, List.forall_mem_cons.mpr ⟨rfl, fun _ h => absurd h List.not_mem_nil⟩⟩) ?_
    unfold f_GraveRails_frost at h
    refine K_iload_n rfl 1 rfl ?_
    refine K_if_lt rfl (fun c1 => ?_) (fun c1 => ?_)
    · rw [if_pos c1] at h
      refine K_iconst (v := (-1)) rfl (by decide) ?_
      obtain rfl := Option.some.inj h
      exact K_iret rfl (Or.inl rfl) ⟨rfl, rfl, hM⟩
    · rw [if_neg c1] at h
      refine K_iload_n rfl 1 rfl ?_
      refine K_aload_n rfl 0 rfl ?_
      refine K_gR rfl sh_0 hM rfl rfl 5 rfl r_0_5 ?_
      refine K_gR rfl sh_20 hM rfl rfl 0 rfl r_20_0 ?_
      refine K_gI rfl sh_21 hM rfl rfl 0 rfl ?_
      refine K_ic_lt rfl (fun c2 => ?_) (fun c2 => ?_)
      · rw [if_pos c2] at h
        refine K_aload_n rfl 0 rfl ?_
        obtain ⟨M3, eM3, h⟩ := Option.bind_eq_some_iff.mp h
        refine K_cV [] [] rfl rfl (Nat.le_of_ble_eq_true rfl) (Nat.le_of_ble_eq_true rfl) sh_0 hM rfl (EV_le (Nat.le_of_ble_eq_true rfl) (F_GraveRails_startFromNow hM  eM3)) (fun v' M' hq => ?_)
        obtain ⟨rfl, rfl, hM3⟩ := hq
        refine K_aload_n rfl 0 rfl ?_
        refine K_gR rfl sh_0 hM3 rfl rfl 8 rfl r_0_8 ?_
        refine K_iload_n rfl 1 rfl ?_
        obtain ⟨r4, er4, h⟩ := Option.bind_eq_some_iff.mp h
        refine K_cV [.int x1] [] rfl rfl (Nat.le_of_ble_eq_true rfl) (Nat.le_of_ble_eq_true rfl) sh_246 hM3 rfl (EV_le (Nat.le_of_ble_eq_true rfl) (F_Course_freeze hM3  er4)) (fun v' M' hq => ?_)
        obtain ⟨rfl, rfl, hr4⟩ := hq
        refine K_istore_n rfl ?_
        refine K_iload_n rfl 0 rfl ?_
        refine K_if_ne rfl (fun c5 => ?_) (fun c5 => ?_)
        · rw [if_neg c5] at h
          refine K_aload_n rfl 1 rfl ?_
          refine K_gR rfl sh_0 hr4 rfl rfl 7 rfl r_0_7 ?_
          refine K_aload_n rfl 1 rfl ?_
          refine K_gR rfl sh_0 hr4 rfl rfl 5 rfl r_0_5 ?_
          refine K_gR rfl sh_20 hr4 rfl rfl 1 rfl r_20_1 ?_
          obtain ⟨M6, eM6, h⟩ := Option.bind_eq_some_iff.mp h
          refine K_cV [.ref 29] [] rfl rfl (Nat.le_of_ble_eq_true rfl) (Nat.le_of_ble_eq_true rfl) sh_44 hr4 rfl (EV_le (Nat.le_of_ble_eq_true rfl) (F_Acts_keep hr4 st_29 eM6)) (fun v' M' hq => ?_)
          obtain ⟨rfl, rfl, hM6⟩ := hq
          refine K_aload_n rfl 1 rfl ?_
          refine K_gR rfl sh_0 hM6 rfl rfl 5 rfl r_0_5 ?_
          refine K_gR rfl sh_20 hM6 rfl rfl 1 rfl r_20_1 ?_
          refine K_aload_n rfl 1 rfl ?_
          refine K_gR rfl sh_0 hM6 rfl rfl 8 rfl r_0_8 ?_
          refine K_gR rfl sh_246 hM6 rfl rfl 0 rfl r_246_0 ?_
          obtain ⟨M7, eM7, h⟩ := Option.bind_eq_some_iff.mp h
          refine K_cV [.ref 247] [] rfl rfl (Nat.le_of_ble_eq_true rfl) (Nat.le_of_ble_eq_true rfl) sh_29 hM6 rfl (EV_le (Nat.le_of_ble_eq_true rfl) (F_State_copyFrom hM6 st_29 st_247 eM7)) (fun v' M' hq => ?_)
          obtain ⟨rfl, rfl, hM7⟩ := hq
          refine K_iload_n rfl 0 rfl ?_
          obtain rfl := Option.some.inj h
          exact K_iret rfl (Or.inl rfl) ⟨rfl, rfl, hM7⟩
        · rw [if_pos c5] at h
          refine K_iconst (v := (-1)) rfl (by decide) ?_
          obtain rfl := Option.some.inj h
          exact K_iret rfl (Or.inl rfl) ⟨rfl, rfl, hr4⟩
      · rw [if_neg c2] at h
        refine K_iconst (v := (-1)) rfl (by decide) ?_
        obtain rfl := Option.some.inj h
        exact K_iret rfl (Or.inl rfl) ⟨rfl, rfl, hM⟩
set_option maxRecDepth 20000 in
theorem F_Acts_takeBack {X : mX} {x1 : Nat} {M : mM} {r : Int32 × mM} (hM : Fx M) (hx1 : is_st x1) (h : f_Acts_takeBack x1 M = some r) : EV X (1 + 1) 102 [.ref 44, .ref x1] M (fun v M' => v = some (.int r.1) ∧ r.2 = M' ∧ Fx r.2) := by
    refine EV_of (lc := [(0, .ref 44), (1, .ref x1)]) (Nat.le_of_ble_eq_true rfl) (by exact Nat.le_of_ble_eq_true rfl) (by exact List.forall_mem_cons.mpr ⟨rfl, List.forall_mem_cons.mpr ⟨rfl, fun _ h => absurd h List.not_mem_nil⟩⟩) ?_
    unfold f_Acts_takeBack at h
    refine K_aload_n rfl 0 rfl ?_
    refine K_gI rfl sh_44 hM rfl rfl 0 rfl ?_
    refine K_if_gt rfl (fun c1 => ?_) (fun c1 => ?_)
    · rw [if_pos c1] at h
      refine K_aload_n rfl 0 rfl ?_
      refine K_aload_n rfl 0 rfl ?_
      refine K_gI rfl sh_44 hM rfl rfl 1 rfl ?_
      refine K_bipush (v := 20) rfl (by decide) ?_
      refine K_iadd rfl ?_
      refine K_iconst (v := 1) rfl (by decide) ?_
      refine K_isub rfl ?_
      refine K_bipush (v := 20) rfl (by decide) ?_
      refine K_irem rfl (by decide) ?_
      obtain ⟨M2, eM2, h⟩ := Option.bind_eq_some_iff.mp h
      refine K_pI rfl sh_44 hM rfl rfl 1 rfl eM2 (fun hM2 => ?_)
      refine K_aload_n rfl 0 rfl ?_
      refine K_dup rfl rfl ?_
      refine K_gI rfl sh_44 hM2 rfl rfl 0 rfl ?_
      refine K_iconst (v := 1) rfl (by decide) ?_
      refine K_isub rfl ?_
      obtain ⟨M3, eM3, h⟩ := Option.bind_eq_some_iff.mp h
      refine K_pI rfl sh_44 hM2 rfl rfl 0 rfl eM3 (fun hM3 => ?_)
      refine K_aload_n rfl 0 rfl ?_
      obtain ⟨r4, er4, h⟩ := Option.bind_eq_some_iff.mp h
      refine K_cV [] [] rfl rfl (Nat.le_of_ble_eq_true rfl) (Nat.le_of_ble_eq_true rfl) sh_44 hM3 rfl (EV_le (Nat.le_of_ble_eq_true rfl) (F_Acts_nextOne hM3  er4)) (fun v' M' hq => ?_)
      obtain ⟨rfl, rfl, hr4⟩ := hq
      refine K_astore_nq rfl ?_
      refine K_aload_nq rfl 0 rfl ?_
      refine K_ifnull rfl (fun c7 => ?_) (fun y8 c7 => ?_)
      · rw [if_pos c7] at h
        refine K_iconst (v := 1) rfl (by decide) ?_
        obtain rfl := Option.some.inj h
        exact K_iret rfl (Or.inr ⟨rfl, by decide⟩) ⟨rfl, rfl, hr4⟩
      · rw [if_neg (by rw [c7]; exact fun z => by cases z)] at h
        refine K_aload_n rfl 2 rfl ?_
        refine K_aload_nq rfl 0 rfl ?_
        obtain ⟨y5, ey5, h⟩ := Option.bind_eq_some_iff.mp h
        rw [show va_rf r4.1 = Value.ref y5 from by rw [(nnl_i ey5).1]; rfl]
        obtain ⟨M6, eM6, h⟩ := Option.bind_eq_some_iff.mp h
        refine K_cV [.ref y5] [] rfl rfl (Nat.le_of_ble_eq_true rfl) (Nat.le_of_ble_eq_true rfl) (st_s0 hx1) hr4 rfl (EV_le (Nat.le_of_ble_eq_true rfl) (F_State_copyFrom hr4 hx1 (nnl_i ey5).2 eM6)) (fun v' M' hq => ?_)
        obtain ⟨rfl, rfl, hM6⟩ := hq
        refine K_iconst (v := 1) rfl (by decide) ?_
        obtain rfl := Option.some.inj h
        exact K_iret rfl (Or.inr ⟨rfl, by decide⟩) ⟨rfl, rfl, hM6⟩
    · rw [if_neg c1] at h
      refine K_iconst (v := 0) rfl (by decide) ?_
      obtain rfl := Option.some.inj h
      exact K_iret rfl (Or.inr ⟨rfl, by decide⟩) ⟨rfl, rfl, hM⟩
set_option maxRecDepth 20000 in
theorem F_GraveRails_undo {X : mX}  {M : mM} {r : Int32 × mM} (hM : Fx M)  (h : f_GraveRails_undo  M = some r) : EV X (2 + 1) 101 [.ref 0] M (fun v M' => v = some (.int r.1) ∧ r.2 = M' ∧ Fx r.2) := by
    refine EV_of (lc := [(0, .ref 0)]) (Nat.le_of_ble_eq_true rfl) (by exact Nat.le_of_ble_eq_true rfl) (by exact List.forall_mem_cons.mpr ⟨rfl, fun _ h => absurd h List.not_mem_nil⟩) ?_
    unfold f_GraveRails_undo at h
    refine K_aload_n rfl 0 rfl ?_
    refine K_gR rfl sh_0 hM rfl rfl 7 rfl r_0_7 ?_
    refine K_aload_n rfl 0 rfl ?_
    refine K_gR rfl sh_0 hM rfl rfl 5 rfl r_0_5 ?_
    refine K_gR rfl sh_20 hM rfl rfl 1 rfl r_20_1 ?_
    obtain ⟨r1, er1, h⟩ := Option.bind_eq_some_iff.mp h
    refine K_cV [.ref 29] [] rfl rfl (Nat.le_of_ble_eq_true rfl) (Nat.le_of_ble_eq_true rfl) sh_44 hM rfl (EV_le (Nat.le_of_ble_eq_true rfl) (F_Acts_takeBack hM st_29 er1)) (fun v' M' hq => ?_)
    obtain ⟨rfl, rfl, hr1⟩ := hq
    refine K_if_eq rfl (fun c2 => ?_) (fun c2 => ?_)
    · rw [if_pos c2] at h
      refine K_iconst (v := (-1)) rfl (by decide) ?_
      obtain rfl := Option.some.inj h
      exact K_iret rfl (Or.inl rfl) ⟨rfl, rfl, hr1⟩
    · rw [if_neg c2] at h
      refine K_aload_n rfl 0 rfl ?_
      refine K_gR rfl sh_0 hr1 rfl rfl 7 rfl r_0_7 ?_
      refine K_gI rfl sh_44 hr1 rfl rfl 0 rfl ?_
      refine K_goto rfl ?_
      obtain rfl := Option.some.inj h
      exact K_iret rfl (Or.inl rfl) ⟨rfl, rfl, hr1⟩
set_option maxRecDepth 20000 in
theorem L_GraveRails_ahead_44 {X : mX} {x1 : Int32} {x2 : Int32} {x3 : Int32} {r : Int32 × mM}  : ∀ (n : Nat) (l4 : Int32) (M : mM), Fx M → f_GraveRails_ahead_44 x1 x2 x3  n l4 M = some r → KK X 5 103 44 [(0, .ref 0), (1, .int x1), (2, .int x2), (3, .int x3), (4, .int l4)] [] M (fun v M' => v = some (.int r.1) ∧ r.2 = M' ∧ Fx r.2)
  | 0, _, _ => fun _ h => by cases h
  | n + 1, l4, M => fun hM h => by
    unfold f_GraveRails_ahead_44 at h
    refine K_iload rfl 4 rfl ?_
    refine K_iload_n rfl 2 rfl ?_
    refine K_ic_ge rfl (fun c8 => ?_) (fun c8 => ?_)
    · rw [if_pos c8] at h
      refine K_iload_n rfl 3 rfl ?_
      refine K_if_ne rfl (fun c9 => ?_) (fun c9 => ?_)
      · rw [if_neg c9] at h
        refine K_aload_n rfl 0 rfl ?_
        refine K_gR rfl sh_0 hM rfl rfl 8 rfl r_0_8 ?_
        refine K_gR rfl sh_246 hM rfl rfl 0 rfl r_246_0 ?_
        refine K_gR rfl sh_247 hM rfl rfl 4 rfl r_247_4 ?_
        refine K_iload_n rfl 1 rfl ?_
        obtain ⟨v10, ev10, h⟩ := Option.bind_eq_some_iff.mp h
        refine K_rd rfl sh_249 hM ev10 ?_
        obtain rfl := Option.some.inj h
        exact K_iret rfl (Or.inl rfl) ⟨rfl, rfl, hM⟩
      · rw [if_pos c9] at h
        refine K_aload_n rfl 0 rfl ?_
        refine K_gR rfl sh_0 hM rfl rfl 8 rfl r_0_8 ?_
        refine K_gR rfl sh_246 hM rfl rfl 0 rfl r_246_0 ?_
        refine K_gR rfl sh_247 hM rfl rfl 3 rfl r_247_3 ?_
        refine K_iload_n rfl 1 rfl ?_
        obtain ⟨v11, ev11, h⟩ := Option.bind_eq_some_iff.mp h
        refine K_rd rfl sh_248 hM ev11 ?_
        refine K_goto rfl ?_
        obtain rfl := Option.some.inj h
        exact K_iret rfl (Or.inl rfl) ⟨rfl, rfl, hM⟩
    · rw [if_neg c8] at h
      refine K_aload_n rfl 0 rfl ?_
      refine K_gR rfl sh_0 hM rfl rfl 8 rfl r_0_8 ?_
      obtain ⟨M12, eM12, h⟩ := Option.bind_eq_some_iff.mp h
      refine K_cV [] [] rfl rfl (Nat.le_of_ble_eq_true rfl) (Nat.le_of_ble_eq_true rfl) sh_246 hM rfl (EV_le (Nat.le_of_ble_eq_true rfl) (F_Course_goYear hM  eM12)) (fun v' M' hq => ?_)
      obtain ⟨rfl, rfl, hM12⟩ := hq
      refine K_iinc (y := (l4 + 1)) rfl 4 rfl rfl ?_
      refine K_goto rfl ?_
      refine K_pick [1, 2, 3, 4, 0] ?_
      exact L_GraveRails_ahead_44    n _ _ hM12  h
set_option maxRecDepth 20000 in
theorem F_GraveRails_ahead {X : mX} {x1 : Int32} {x2 : Int32} {x3 : Int32} {M : mM} {r : Int32 × mM} (hM : Fx M)  (h : f_GraveRails_ahead x1 x2 x3 M = some r) : EV X (5 + 1) 103 [.ref 0, .int x1, .int x2, .int x3] M (fun v M' => v = some (.int r.1) ∧ r.2 = M' ∧ Fx r.2) := by
    refine EV_of (lc := [(0, .ref 0), (1, .int x1), (2, .int x2), (3, .int x3)]) (Nat.le_of_ble_eq_true rfl) (by exact Nat.le_of_ble_eq_true rfl) (by exact List.forall_mem_cons.mpr ⟨rfl, List.forall_mem_cons.mpr ⟨rfl, List.forall_mem_cons.mpr ⟨rfl, List.forall_mem_cons.mpr ⟨rfl, fun _ h => absurd h List.not_mem_nil⟩⟩⟩⟩) ?_
    unfold f_GraveRails_ahead at h
    refine K_aload_n rfl 0 rfl ?_
    refine K_gR rfl sh_0 hM rfl rfl 5 rfl r_0_5 ?_
    refine K_gR rfl sh_20 hM rfl rfl 1 rfl r_20_1 ?_
    refine K_iload_n rfl 1 rfl ?_
    obtain ⟨r1, er1, h⟩ := Option.bind_eq_some_iff.mp h
    refine K_cV [.int x1] [] rfl rfl (Nat.le_of_ble_eq_true rfl) (Nat.le_of_ble_eq_true rfl) sh_29 hM rfl (EV_le (Nat.le_of_ble_eq_true rfl) (F_State_has hM st_29 er1)) (fun v' M' hq => ?_)
    obtain ⟨rfl, rfl, hr1⟩ := hq
    refine K_if_eq rfl (fun c2 => ?_) (fun c2 => ?_)
    · rw [if_pos c2] at h
      refine K_bipush (v := (-2)) rfl (by decide) ?_
      obtain rfl := Option.some.inj h
      exact K_iret rfl (Or.inl rfl) ⟨rfl, rfl, hr1⟩
    · rw [if_neg c2] at h
      refine K_iload_n rfl 2 rfl ?_
      refine K_if_lt rfl (fun c3 => ?_) (fun c3 => ?_)
      · rw [if_pos c3] at h
        refine K_bipush (v := (-2)) rfl (by decide) ?_
        obtain rfl := Option.some.inj h
        exact K_iret rfl (Or.inl rfl) ⟨rfl, rfl, hr1⟩
      · rw [if_neg c3] at h
        refine K_iload_n rfl 2 rfl ?_
        refine K_sipush (v := 200) rfl (by decide) ?_
        refine K_ic_gt rfl (fun c4 => ?_) (fun c4 => ?_)
        · rw [if_pos c4] at h
          refine K_bipush (v := (-2)) rfl (by decide) ?_
          obtain rfl := Option.some.inj h
          exact K_iret rfl (Or.inl rfl) ⟨rfl, rfl, hr1⟩
        · rw [if_neg c4] at h
          refine K_iload_n rfl 3 rfl ?_
          refine K_if_lt rfl (fun c5 => ?_) (fun c5 => ?_)
          · rw [if_pos c5] at h
            refine K_bipush (v := (-2)) rfl (by decide) ?_
            obtain rfl := Option.some.inj h
            exact K_iret rfl (Or.inl rfl) ⟨rfl, rfl, hr1⟩
          · rw [if_neg c5] at h
            refine K_iload_n rfl 3 rfl ?_
            refine K_iconst (v := 1) rfl (by decide) ?_
            refine K_ic_le rfl (fun c6 => ?_) (fun c6 => ?_)
            · rw [if_pos c6] at h
              refine K_aload_n rfl 0 rfl ?_
              obtain ⟨M7, eM7, h⟩ := Option.bind_eq_some_iff.mp h
              refine K_cV [] [] rfl rfl (Nat.le_of_ble_eq_true rfl) (Nat.le_of_ble_eq_true rfl) sh_0 hr1 rfl (EV_le (Nat.le_of_ble_eq_true rfl) (F_GraveRails_startFromNow hr1  eM7)) (fun v' M' hq => ?_)
              obtain ⟨rfl, rfl, hM7⟩ := hq
              refine K_iconst (v := 0) rfl (by decide) ?_
              refine K_istore rfl ?_
              refine K_pick [1, 2, 3, 4, 0] ?_
              exact L_GraveRails_ahead_44    FUEL _ _ hM7  h
            · rw [if_neg c6] at h
              refine K_bipush (v := (-2)) rfl (by decide) ?_
              obtain rfl := Option.some.inj h
              exact K_iret rfl (Or.inl rfl) ⟨rfl, rfl, hr1⟩
set_option maxRecDepth 20000 in
theorem L_GraveRails_fall_56 {X : mX} {x1 : Int32} {r : Int32 × mM}   (M : mM) (hM : Fx M)  (h : f_GraveRails_fall_56 x1   M = some r) : KK X 5 104 56 [(0, .ref 0), (1, .int x1)] [] M (fun v M' => v = some (.int r.1) ∧ r.2 = M' ∧ Fx r.2) := by
    unfold f_GraveRails_fall_56 at h
    refine K_aload_n rfl 0 rfl ?_
    refine K_gR rfl sh_0 hM rfl rfl 8 rfl r_0_8 ?_
    refine K_gR rfl sh_246 hM rfl rfl 0 rfl r_246_0 ?_
    refine K_iload_n rfl 1 rfl ?_
    obtain ⟨r5, er5, h⟩ := Option.bind_eq_some_iff.mp h
    refine K_cV [.int x1] [] rfl rfl (Nat.le_of_ble_eq_true rfl) (Nat.le_of_ble_eq_true rfl) sh_247 hM rfl (EV_le (Nat.le_of_ble_eq_true rfl) (F_State_lies hM st_247 er5)) (fun v' M' hq => ?_)
    obtain ⟨rfl, rfl, hr5⟩ := hq
    refine K_if_eq rfl (fun c6 => ?_) (fun c6 => ?_)
    · rw [if_pos c6] at h
      refine K_aload_n rfl 0 rfl ?_
      refine K_gR rfl sh_0 hr5 rfl rfl 8 rfl r_0_8 ?_
      refine K_gR rfl sh_246 hr5 rfl rfl 0 rfl r_246_0 ?_
      refine K_gR rfl sh_247 hr5 rfl rfl 7 rfl r_247_7 ?_
      refine K_iload_n rfl 1 rfl ?_
      obtain ⟨v7, ev7, h⟩ := Option.bind_eq_some_iff.mp h
      refine K_rd rfl sh_252 hr5 ev7 ?_
      obtain rfl := Option.some.inj h
      exact K_iret rfl (Or.inl rfl) ⟨rfl, rfl, hr5⟩
    · rw [if_neg c6] at h
      refine K_bipush (v := (-2)) rfl (by decide) ?_
      refine K_goto rfl ?_
      obtain rfl := Option.some.inj h
      exact K_iret rfl (Or.inl rfl) ⟨rfl, rfl, hr5⟩
set_option maxRecDepth 20000 in
theorem L_GraveRails_fall_22 {X : mX} {x1 : Int32} {r : Int32 × mM}  : ∀ (n : Nat) (l2 : Int32) (M : mM), Fx M → f_GraveRails_fall_22 x1  n l2 M = some r → KK X 5 104 22 [(0, .ref 0), (1, .int x1), (2, .int l2)] [] M (fun v M' => v = some (.int r.1) ∧ r.2 = M' ∧ Fx r.2)
  | 0, _, _ => fun _ h => by cases h
  | n + 1, l2, M => fun hM h => by
    unfold f_GraveRails_fall_22 at h
    refine K_iload_n rfl 2 rfl ?_
    refine K_sipush (v := 200) rfl (by decide) ?_
    refine K_ic_ge rfl (fun c4 => ?_) (fun c4 => ?_)
    · rw [if_pos c4] at h
      refine K_pick [0, 1] ?_
      exact L_GraveRails_fall_56     _ hM  h
    · rw [if_neg c4] at h
      refine K_aload_n rfl 0 rfl ?_
      refine K_gR rfl sh_0 hM rfl rfl 8 rfl r_0_8 ?_
      refine K_gR rfl sh_246 hM rfl rfl 0 rfl r_246_0 ?_
      refine K_iload_n rfl 1 rfl ?_
      obtain ⟨r8, er8, h⟩ := Option.bind_eq_some_iff.mp h
      refine K_cV [.int x1] [] rfl rfl (Nat.le_of_ble_eq_true rfl) (Nat.le_of_ble_eq_true rfl) sh_247 hM rfl (EV_le (Nat.le_of_ble_eq_true rfl) (F_State_lies hM st_247 er8)) (fun v' M' hq => ?_)
      obtain ⟨rfl, rfl, hr8⟩ := hq
      refine K_if_eq rfl (fun c9 => ?_) (fun c9 => ?_)
      · rw [if_pos c9] at h
        refine K_pick [0, 1] ?_
        exact L_GraveRails_fall_56     _ hr8  h
      · rw [if_neg c9] at h
        refine K_aload_n rfl 0 rfl ?_
        refine K_gR rfl sh_0 hr8 rfl rfl 8 rfl r_0_8 ?_
        obtain ⟨M10, eM10, h⟩ := Option.bind_eq_some_iff.mp h
        refine K_cV [] [] rfl rfl (Nat.le_of_ble_eq_true rfl) (Nat.le_of_ble_eq_true rfl) sh_246 hr8 rfl (EV_le (Nat.le_of_ble_eq_true rfl) (F_Course_goYear hr8  eM10)) (fun v' M' hq => ?_)
        obtain ⟨rfl, rfl, hM10⟩ := hq
        refine K_iinc (y := (l2 + 1)) rfl 2 rfl rfl ?_
        refine K_goto rfl ?_
        refine K_pick [1, 2, 0] ?_
        exact L_GraveRails_fall_22    n _ _ hM10  h
set_option maxRecDepth 20000 in
theorem F_GraveRails_fall {X : mX} {x1 : Int32} {M : mM} {r : Int32 × mM} (hM : Fx M)  (h : f_GraveRails_fall x1 M = some r) : EV X (5 + 1) 104 [.ref 0, .int x1] M (fun v M' => v = some (.int r.1) ∧ r.2 = M' ∧ Fx r.2) := by
    refine EV_of (lc := [(0, .ref 0), (1, .int x1)]) (Nat.le_of_ble_eq_true rfl) (by exact Nat.le_of_ble_eq_true rfl) (by exact List.forall_mem_cons.mpr ⟨rfl, List.forall_mem_cons.mpr ⟨rfl, fun _ h => absurd h List.not_mem_nil⟩⟩) ?_
    unfold f_GraveRails_fall at h
    refine K_aload_n rfl 0 rfl ?_
    refine K_gR rfl sh_0 hM rfl rfl 5 rfl r_0_5 ?_
    refine K_gR rfl sh_20 hM rfl rfl 1 rfl r_20_1 ?_
    refine K_iload_n rfl 1 rfl ?_
    obtain ⟨r1, er1, h⟩ := Option.bind_eq_some_iff.mp h
    refine K_cV [.int x1] [] rfl rfl (Nat.le_of_ble_eq_true rfl) (Nat.le_of_ble_eq_true rfl) sh_29 hM rfl (EV_le (Nat.le_of_ble_eq_true rfl) (F_State_has hM st_29 er1)) (fun v' M' hq => ?_)
    obtain ⟨rfl, rfl, hr1⟩ := hq
    refine K_if_ne rfl (fun c2 => ?_) (fun c2 => ?_)
    · rw [if_neg c2] at h
      refine K_aload_n rfl 0 rfl ?_
      obtain ⟨M3, eM3, h⟩ := Option.bind_eq_some_iff.mp h
      refine K_cV [] [] rfl rfl (Nat.le_of_ble_eq_true rfl) (Nat.le_of_ble_eq_true rfl) sh_0 hr1 rfl (EV_le (Nat.le_of_ble_eq_true rfl) (F_GraveRails_startFromNow hr1  eM3)) (fun v' M' hq => ?_)
      obtain ⟨rfl, rfl, hM3⟩ := hq
      refine K_iconst (v := 0) rfl (by decide) ?_
      refine K_istore_n rfl ?_
      refine K_pick [1, 2, 0] ?_
      exact L_GraveRails_fall_22    FUEL _ _ hM3  h
    · rw [if_pos c2] at h
      refine K_iconst (v := (-1)) rfl (by decide) ?_
      obtain rfl := Option.some.inj h
      exact K_iret rfl (Or.inl rfl) ⟨rfl, rfl, hr1⟩
set_option maxRecDepth 20000 in
theorem L_GraveRails_abreast_50 {X : mX} {x1 : Int32} {x2 : Int32} {r : Int32 × mM}  : ∀ (n : Nat) (l4 : Int32) (M : mM), Fx M → f_GraveRails_abreast_50 x1 x2  n l4 M = some r → KK X 5 105 50 [(0, .ref 0), (1, .int x1), (2, .int x2), (3, .ref 247), (4, .int l4)] [] M (fun v M' => v = some (.int r.1) ∧ r.2 = M' ∧ Fx r.2)
  | 0, _, _ => fun _ h => by cases h
  | n + 1, l4, M => fun hM h => by
    unfold f_GraveRails_abreast_50 at h
    refine K_iload rfl 4 rfl ?_
    refine K_sipush (v := 200) rfl (by decide) ?_
    refine K_ic_gt rfl (fun c7 => ?_) (fun c7 => ?_)
    · rw [if_pos c7] at h
      refine K_bipush (v := (-2)) rfl (by decide) ?_
      obtain rfl := Option.some.inj h
      exact K_iret rfl (Or.inl rfl) ⟨rfl, rfl, hM⟩
    · rw [if_neg c7] at h
      refine K_aload_n rfl 3 rfl ?_
      refine K_iload_n rfl 1 rfl ?_
      obtain ⟨r8, er8, h⟩ := Option.bind_eq_some_iff.mp h
      refine K_cV [.int x1] [] rfl rfl (Nat.le_of_ble_eq_true rfl) (Nat.le_of_ble_eq_true rfl) sh_247 hM rfl (EV_le (Nat.le_of_ble_eq_true rfl) (F_State_lies hM st_247 er8)) (fun v' M' hq => ?_)
      obtain ⟨rfl, rfl, hr8⟩ := hq
      refine K_if_eq rfl (fun c9 => ?_) (fun c9 => ?_)
      · rw [if_pos c9] at h
        refine K_bipush (v := (-2)) rfl (by decide) ?_
        obtain rfl := Option.some.inj h
        exact K_iret rfl (Or.inl rfl) ⟨rfl, rfl, hr8⟩
      · rw [if_neg c9] at h
        refine K_aload_n rfl 3 rfl ?_
        refine K_iload_n rfl 2 rfl ?_
        obtain ⟨r10, er10, h⟩ := Option.bind_eq_some_iff.mp h
        refine K_cV [.int x2] [] rfl rfl (Nat.le_of_ble_eq_true rfl) (Nat.le_of_ble_eq_true rfl) sh_247 hr8 rfl (EV_le (Nat.le_of_ble_eq_true rfl) (F_State_lies hr8 st_247 er10)) (fun v' M' hq => ?_)
        obtain ⟨rfl, rfl, hr10⟩ := hq
        refine K_if_eq rfl (fun c11 => ?_) (fun c11 => ?_)
        · rw [if_pos c11] at h
          refine K_bipush (v := (-2)) rfl (by decide) ?_
          obtain rfl := Option.some.inj h
          exact K_iret rfl (Or.inl rfl) ⟨rfl, rfl, hr10⟩
        · rw [if_neg c11] at h
          refine K_aload_n rfl 3 rfl ?_
          refine K_gR rfl sh_247 hr10 rfl rfl 4 rfl r_247_4 ?_
          refine K_iload_n rfl 1 rfl ?_
          obtain ⟨v12, ev12, h⟩ := Option.bind_eq_some_iff.mp h
          refine K_rd rfl sh_249 hr10 ev12 ?_
          refine K_aload_n rfl 3 rfl ?_
          refine K_gR rfl sh_247 hr10 rfl rfl 4 rfl r_247_4 ?_
          refine K_iload_n rfl 2 rfl ?_
          obtain ⟨v13, ev13, h⟩ := Option.bind_eq_some_iff.mp h
          refine K_rd rfl sh_249 hr10 ev13 ?_
          refine K_ic_ne rfl (fun c14 => ?_) (fun c14 => ?_)
          · rw [if_neg c14] at h
            refine K_aload_n rfl 0 rfl ?_
            refine K_gR rfl sh_0 hr10 rfl rfl 8 rfl r_0_8 ?_
            obtain ⟨M15, eM15, h⟩ := Option.bind_eq_some_iff.mp h
            refine K_cV [] [] rfl rfl (Nat.le_of_ble_eq_true rfl) (Nat.le_of_ble_eq_true rfl) sh_246 hr10 rfl (EV_le (Nat.le_of_ble_eq_true rfl) (F_Course_goYear hr10  eM15)) (fun v' M' hq => ?_)
            obtain ⟨rfl, rfl, hM15⟩ := hq
            refine K_iinc (y := (l4 + 1)) rfl 4 rfl rfl ?_
            refine K_goto rfl ?_
            refine K_pick [1, 2, 3, 4, 0] ?_
            exact L_GraveRails_abreast_50    n _ _ hM15  h
          · rw [if_pos c14] at h
            refine K_aload_n rfl 3 rfl ?_
            refine K_gI rfl sh_247 hr10 rfl rfl 0 rfl ?_
            obtain rfl := Option.some.inj h
            exact K_iret rfl (Or.inl rfl) ⟨rfl, rfl, hr10⟩
set_option maxRecDepth 20000 in
theorem F_GraveRails_abreast {X : mX} {x1 : Int32} {x2 : Int32} {M : mM} {r : Int32 × mM} (hM : Fx M)  (h : f_GraveRails_abreast x1 x2 M = some r) : EV X (5 + 1) 105 [.ref 0, .int x1, .int x2] M (fun v M' => v = some (.int r.1) ∧ r.2 = M' ∧ Fx r.2) := by
    refine EV_of (lc := [(0, .ref 0), (1, .int x1), (2, .int x2)]) (Nat.le_of_ble_eq_true rfl) (by exact Nat.le_of_ble_eq_true rfl) (by exact List.forall_mem_cons.mpr ⟨rfl, List.forall_mem_cons.mpr ⟨rfl, List.forall_mem_cons.mpr ⟨rfl, fun _ h => absurd h List.not_mem_nil⟩⟩⟩) ?_
    unfold f_GraveRails_abreast at h
    refine K_aload_n rfl 0 rfl ?_
    refine K_gR rfl sh_0 hM rfl rfl 5 rfl r_0_5 ?_
    refine K_gR rfl sh_20 hM rfl rfl 1 rfl r_20_1 ?_
    refine K_iload_n rfl 1 rfl ?_
    obtain ⟨r1, er1, h⟩ := Option.bind_eq_some_iff.mp h
    refine K_cV [.int x1] [] rfl rfl (Nat.le_of_ble_eq_true rfl) (Nat.le_of_ble_eq_true rfl) sh_29 hM rfl (EV_le (Nat.le_of_ble_eq_true rfl) (F_State_has hM st_29 er1)) (fun v' M' hq => ?_)
    obtain ⟨rfl, rfl, hr1⟩ := hq
    refine K_if_eq rfl (fun c2 => ?_) (fun c2 => ?_)
    · rw [if_pos c2] at h
      refine K_iconst (v := (-1)) rfl (by decide) ?_
      obtain rfl := Option.some.inj h
      exact K_iret rfl (Or.inl rfl) ⟨rfl, rfl, hr1⟩
    · rw [if_neg c2] at h
      refine K_aload_n rfl 0 rfl ?_
      refine K_gR rfl sh_0 hr1 rfl rfl 5 rfl r_0_5 ?_
      refine K_gR rfl sh_20 hr1 rfl rfl 1 rfl r_20_1 ?_
      refine K_iload_n rfl 2 rfl ?_
      obtain ⟨r3, er3, h⟩ := Option.bind_eq_some_iff.mp h
      refine K_cV [.int x2] [] rfl rfl (Nat.le_of_ble_eq_true rfl) (Nat.le_of_ble_eq_true rfl) sh_29 hr1 rfl (EV_le (Nat.le_of_ble_eq_true rfl) (F_State_has hr1 st_29 er3)) (fun v' M' hq => ?_)
      obtain ⟨rfl, rfl, hr3⟩ := hq
      refine K_if_eq rfl (fun c4 => ?_) (fun c4 => ?_)
      · rw [if_pos c4] at h
        refine K_iconst (v := (-1)) rfl (by decide) ?_
        obtain rfl := Option.some.inj h
        exact K_iret rfl (Or.inl rfl) ⟨rfl, rfl, hr3⟩
      · rw [if_neg c4] at h
        refine K_iload_n rfl 1 rfl ?_
        refine K_iload_n rfl 2 rfl ?_
        refine K_ic_ne rfl (fun c5 => ?_) (fun c5 => ?_)
        · rw [if_neg c5] at h
          refine K_aload_n rfl 0 rfl ?_
          obtain ⟨M6, eM6, h⟩ := Option.bind_eq_some_iff.mp h
          refine K_cV [] [] rfl rfl (Nat.le_of_ble_eq_true rfl) (Nat.le_of_ble_eq_true rfl) sh_0 hr3 rfl (EV_le (Nat.le_of_ble_eq_true rfl) (F_GraveRails_startFromNow hr3  eM6)) (fun v' M' hq => ?_)
          obtain ⟨rfl, rfl, hM6⟩ := hq
          refine K_aload_n rfl 0 rfl ?_
          refine K_gR rfl sh_0 hM6 rfl rfl 8 rfl r_0_8 ?_
          refine K_gR rfl sh_246 hM6 rfl rfl 0 rfl r_246_0 ?_
          refine K_astore_n rfl ?_
          refine K_iconst (v := 0) rfl (by decide) ?_
          refine K_istore rfl ?_
          refine K_pick [2, 3, 4, 1, 0] ?_
          exact L_GraveRails_abreast_50    FUEL _ _ hM6  h
        · rw [if_pos c5] at h
          refine K_iconst (v := (-1)) rfl (by decide) ?_
          obtain rfl := Option.some.inj h
          exact K_iret rfl (Or.inl rfl) ⟨rfl, rfl, hr3⟩
set_option maxRecDepth 20000 in
theorem L_GraveRails_fallsWithOneDugAt_71 {X : mX} {x1 : Int32} {x2 : Int32} {x3 : Int32} {r : Int32 × mM}  (l5 : Int32) (M : mM) (hM : Fx M)  (h : f_GraveRails_fallsWithOneDugAt_71 x1 x2 x3  l5 M = some r) : KK X 5 107 71 [(1, .int x1), (4, .ref 247), (5, .int l5)] [] M (fun v M' => v = some (.int r.1) ∧ r.2 = M' ∧ Fx r.2) := by
    unfold f_GraveRails_fallsWithOneDugAt_71 at h
    refine K_aload rfl 1 rfl ?_
    refine K_iload_n rfl 0 rfl ?_
    obtain ⟨r4, er4, h⟩ := Option.bind_eq_some_iff.mp h
    refine K_cV [.int x1] [] rfl rfl (Nat.le_of_ble_eq_true rfl) (Nat.le_of_ble_eq_true rfl) sh_247 hM rfl (EV_le (Nat.le_of_ble_eq_true rfl) (F_State_has hM st_247 er4)) (fun v' M' hq => ?_)
    obtain ⟨rfl, rfl, hr4⟩ := hq
    refine K_if_eq rfl (fun c5 => ?_) (fun c5 => ?_)
    · rw [if_pos c5] at h
      refine K_iconst (v := 0) rfl (by decide) ?_
      obtain rfl := Option.some.inj h
      exact K_iret rfl (Or.inr ⟨rfl, by decide⟩) ⟨rfl, rfl, hr4⟩
    · rw [if_neg c5] at h
      refine K_aload rfl 1 rfl ?_
      refine K_iload rfl 2 rfl ?_
      obtain ⟨r6, er6, h⟩ := Option.bind_eq_some_iff.mp h
      refine K_cV [.int l5] [] rfl rfl (Nat.le_of_ble_eq_true rfl) (Nat.le_of_ble_eq_true rfl) sh_247 hr4 rfl (EV_le (Nat.le_of_ble_eq_true rfl) (F_State_has hr4 st_247 er6)) (fun v' M' hq => ?_)
      obtain ⟨rfl, rfl, hr6⟩ := hq
      refine K_if_eq rfl (fun c7 => ?_) (fun c7 => ?_)
      · rw [if_pos c7] at h
        refine K_iconst (v := 0) rfl (by decide) ?_
        obtain rfl := Option.some.inj h
        exact K_iret rfl (Or.inr ⟨rfl, by decide⟩) ⟨rfl, rfl, hr6⟩
      · rw [if_neg c7] at h
        refine K_aload rfl 1 rfl ?_
        refine K_iload_n rfl 0 rfl ?_
        obtain ⟨r8, er8, h⟩ := Option.bind_eq_some_iff.mp h
        refine K_cV [.int x1] [] rfl rfl (Nat.le_of_ble_eq_true rfl) (Nat.le_of_ble_eq_true rfl) sh_247 hr6 rfl (EV_le (Nat.le_of_ble_eq_true rfl) (F_State_lies hr6 st_247 er8)) (fun v' M' hq => ?_)
        obtain ⟨rfl, rfl, hr8⟩ := hq
        refine K_if_ne rfl (fun c9 => ?_) (fun c9 => ?_)
        · rw [if_neg c9] at h
          refine K_iconst (v := 0) rfl (by decide) ?_
          obtain rfl := Option.some.inj h
          exact K_iret rfl (Or.inr ⟨rfl, by decide⟩) ⟨rfl, rfl, hr8⟩
        · rw [if_pos c9] at h
          refine K_aload rfl 1 rfl ?_
          refine K_iload rfl 2 rfl ?_
          obtain ⟨r10, er10, h⟩ := Option.bind_eq_some_iff.mp h
          refine K_cV [.int l5] [] rfl rfl (Nat.le_of_ble_eq_true rfl) (Nat.le_of_ble_eq_true rfl) sh_247 hr8 rfl (EV_le (Nat.le_of_ble_eq_true rfl) (F_State_lies hr8 st_247 er10)) (fun v' M' hq => ?_)
          obtain ⟨rfl, rfl, hr10⟩ := hq
          refine K_if_ne rfl (fun c11 => ?_) (fun c11 => ?_)
          · rw [if_neg c11] at h
            refine K_iconst (v := 0) rfl (by decide) ?_
            obtain rfl := Option.some.inj h
            exact K_iret rfl (Or.inr ⟨rfl, by decide⟩) ⟨rfl, rfl, hr10⟩
          · rw [if_pos c11] at h
            refine K_aload rfl 1 rfl ?_
            refine K_gR rfl sh_247 hr10 rfl rfl 7 rfl r_247_7 ?_
            refine K_iload_n rfl 0 rfl ?_
            obtain ⟨v12, ev12, h⟩ := Option.bind_eq_some_iff.mp h
            refine K_rd rfl sh_252 hr10 ev12 ?_
            refine K_aload rfl 1 rfl ?_
            refine K_gR rfl sh_247 hr10 rfl rfl 7 rfl r_247_7 ?_
            refine K_iload rfl 2 rfl ?_
            obtain ⟨v13, ev13, h⟩ := Option.bind_eq_some_iff.mp h
            refine K_rd rfl sh_252 hr10 ev13 ?_
            refine K_ic_ne rfl (fun c14 => ?_) (fun c14 => ?_)
            · rw [if_neg c14] at h
              refine K_iconst (v := 0) rfl (by decide) ?_
              obtain rfl := Option.some.inj h
              exact K_iret rfl (Or.inr ⟨rfl, by decide⟩) ⟨rfl, rfl, hr10⟩
            · rw [if_pos c14] at h
              refine K_iconst (v := 1) rfl (by decide) ?_
              refine K_goto rfl ?_
              obtain rfl := Option.some.inj h
              exact K_iret rfl (Or.inr ⟨rfl, by decide⟩) ⟨rfl, rfl, hr10⟩
set_option maxRecDepth 20000 in
theorem L_GraveRails_fallsWithOneDugAt_31 {X : mX} {x1 : Int32} {x2 : Int32} {x3 : Int32} {r : Int32 × mM}  : ∀ (n : Nat) (l5 : Int32) (l6 : Int32) (M : mM), Fx M → f_GraveRails_fallsWithOneDugAt_31 x1 x2 x3  n l5 l6 M = some r → KK X 5 107 31 [(0, .ref 0), (1, .int x1), (4, .ref 247), (5, .int l5), (6, .int l6)] [] M (fun v M' => v = some (.int r.1) ∧ r.2 = M' ∧ Fx r.2)
  | 0, _, _, _ => fun _ h => by cases h
  | n + 1, l5, l6, M => fun hM h => by
    unfold f_GraveRails_fallsWithOneDugAt_31 at h
    refine K_iload rfl 4 rfl ?_
    refine K_sipush (v := 200) rfl (by decide) ?_
    refine K_ic_ge rfl (fun c3 => ?_) (fun c3 => ?_)
    · rw [if_pos c3] at h
      refine K_pick [1, 2, 3] ?_
      exact L_GraveRails_fallsWithOneDugAt_71    _ _ hM  h
    · rw [if_neg c3] at h
      refine K_aload rfl 2 rfl ?_
      refine K_iload_n rfl 1 rfl ?_
      obtain ⟨r15, er15, h⟩ := Option.bind_eq_some_iff.mp h
      refine K_cV [.int x1] [] rfl rfl (Nat.le_of_ble_eq_true rfl) (Nat.le_of_ble_eq_true rfl) sh_247 hM rfl (EV_le (Nat.le_of_ble_eq_true rfl) (F_State_lies hM st_247 er15)) (fun v' M' hq => ?_)
      obtain ⟨rfl, rfl, hr15⟩ := hq
      refine K_if_eq rfl (fun c16 => ?_) (fun c16 => ?_)
      · rw [if_pos c16] at h
        refine K_pick [1, 2, 3] ?_
        exact L_GraveRails_fallsWithOneDugAt_71    _ _ hr15  h
      · rw [if_neg c16] at h
        refine K_aload rfl 2 rfl ?_
        refine K_iload rfl 3 rfl ?_
        obtain ⟨r17, er17, h⟩ := Option.bind_eq_some_iff.mp h
        refine K_cV [.int l5] [] rfl rfl (Nat.le_of_ble_eq_true rfl) (Nat.le_of_ble_eq_true rfl) sh_247 hr15 rfl (EV_le (Nat.le_of_ble_eq_true rfl) (F_State_lies hr15 st_247 er17)) (fun v' M' hq => ?_)
        obtain ⟨rfl, rfl, hr17⟩ := hq
        refine K_if_eq rfl (fun c18 => ?_) (fun c18 => ?_)
        · rw [if_pos c18] at h
          refine K_pick [1, 2, 3] ?_
          exact L_GraveRails_fallsWithOneDugAt_71    _ _ hr17  h
        · rw [if_neg c18] at h
          refine K_aload_n rfl 0 rfl ?_
          refine K_gR rfl sh_0 hr17 rfl rfl 8 rfl r_0_8 ?_
          obtain ⟨M19, eM19, h⟩ := Option.bind_eq_some_iff.mp h
          refine K_cV [] [] rfl rfl (Nat.le_of_ble_eq_true rfl) (Nat.le_of_ble_eq_true rfl) sh_246 hr17 rfl (EV_le (Nat.le_of_ble_eq_true rfl) (F_Course_goYear hr17  eM19)) (fun v' M' hq => ?_)
          obtain ⟨rfl, rfl, hM19⟩ := hq
          refine K_iinc (y := (l6 + 1)) rfl 4 rfl rfl ?_
          refine K_goto rfl ?_
          refine K_pick [1, 2, 3, 4, 0] ?_
          exact L_GraveRails_fallsWithOneDugAt_31    n _ _ _ hM19  h
set_option maxRecDepth 20000 in
theorem F_GraveRails_fallsWithOneDugAt {X : mX} {x1 : Int32} {x2 : Int32} {x3 : Int32} {M : mM} {r : Int32 × mM} (hM : Fx M)  (h : f_GraveRails_fallsWithOneDugAt x1 x2 x3 M = some r) : EV X (5 + 1) 107 [.ref 0, .int x1, .int x2, .int x3] M (fun v M' => v = some (.int r.1) ∧ r.2 = M' ∧ Fx r.2) := by
    refine EV_of (lc := [(0, .ref 0), (1, .int x1), (2, .int x2), (3, .int x3)]) (Nat.le_of_ble_eq_true rfl) (by exact Nat.le_of_ble_eq_true rfl) (by exact List.forall_mem_cons.mpr ⟨rfl, List.forall_mem_cons.mpr ⟨rfl, List.forall_mem_cons.mpr ⟨rfl, List.forall_mem_cons.mpr ⟨rfl, fun _ h => absurd h List.not_mem_nil⟩⟩⟩⟩) ?_
    unfold f_GraveRails_fallsWithOneDugAt at h
    refine K_aload_n rfl 0 rfl ?_
    obtain ⟨M1, eM1, h⟩ := Option.bind_eq_some_iff.mp h
    refine K_cV [] [] rfl rfl (Nat.le_of_ble_eq_true rfl) (Nat.le_of_ble_eq_true rfl) sh_0 hM rfl (EV_le (Nat.le_of_ble_eq_true rfl) (F_GraveRails_startFromNow hM  eM1)) (fun v' M' hq => ?_)
    obtain ⟨rfl, rfl, hM1⟩ := hq
    refine K_aload_n rfl 0 rfl ?_
    refine K_gR rfl sh_0 hM1 rfl rfl 8 rfl r_0_8 ?_
    refine K_gR rfl sh_246 hM1 rfl rfl 0 rfl r_246_0 ?_
    refine K_astore rfl ?_
    refine K_aload rfl 0 rfl ?_
    refine K_gI rfl sh_247 hM1 rfl rfl 1 rfl ?_
    refine K_istore rfl ?_
    refine K_aload rfl 1 rfl ?_
    refine K_iload_n rfl 4 rfl ?_
    refine K_iload_n rfl 5 rfl ?_
    refine K_iconst (v := 0) rfl (by decide) ?_
    obtain ⟨M2, eM2, h⟩ := Option.bind_eq_some_iff.mp h
    refine K_cV [.int x2, .int x3, .int 0] [] rfl rfl (Nat.le_of_ble_eq_true rfl) (Nat.le_of_ble_eq_true rfl) sh_247 hM1 rfl (EV_le (Nat.le_of_ble_eq_true rfl) (F_State_add hM1 st_247 eM2)) (fun v' M' hq => ?_)
    obtain ⟨rfl, rfl, hM2⟩ := hq
    refine K_iconst (v := 0) rfl (by decide) ?_
    refine K_istore rfl ?_
    refine K_pick [3, 4, 2, 1, 0] ?_
    exact L_GraveRails_fallsWithOneDugAt_31    FUEL _ _ _ hM2  h
set_option maxRecDepth 20000 in
theorem L_GraveRails_begin_123 {X : mX} {x1 : Int32} {x2 : Int32} {k38 : Int32 → Int32 → Int32 → Int32 → mM → Option (Int32 × mM)} {k56 : Int32 → Int32 → Int32 → Int32 → Int32 → mM → Option (Int32 × mM)} {r : Int32 × mM}  (hk38 : ∀ (l3 : Int32) (l4 : Int32) (l5 : Int32) (l6 : Int32) (M : mM), Fx M → k38 l3 l4 l5 l6 M = some r → KK X 6 106 38 [(0, .ref 0), (1, .int x1), (2, .int x2), (3, .int l3), (4, .int l4), (5, .int l5), (6, .int l6)] [] M (fun v M' => v = some (.int r.1) ∧ r.2 = M' ∧ Fx r.2)) (hk56 : ∀ (l3 : Int32) (l4 : Int32) (l5 : Int32) (l6 : Int32) (l7 : Int32) (M : mM), Fx M → k56 l3 l4 l5 l6 l7 M = some r → KK X 6 106 56 [(0, .ref 0), (1, .int x1), (2, .int x2), (3, .int l3), (4, .int l4), (5, .int l5), (6, .int l6), (7, .int l7)] [] M (fun v M' => v = some (.int r.1) ∧ r.2 = M' ∧ Fx r.2)) (l3 : Int32) (l4 : Int32) (l5 : Int32) (l6 : Int32) (l7 : Int32) (M : mM) (hM : Fx M)  (h : f_GraveRails_begin_123 x1 x2 k38 k56 l3 l4 l5 l6 l7 M = some r) : KK X 6 106 123 [(0, .ref 0), (1, .int x1), (2, .int x2), (3, .int l3), (4, .int l4), (5, .int l5), (6, .int l6), (7, .int l7)] [] M (fun v M' => v = some (.int r.1) ∧ r.2 = M' ∧ Fx r.2) := by
    unfold f_GraveRails_begin_123 at h
    refine K_iinc (y := (l7 + 1)) rfl 7 rfl rfl ?_
    refine K_goto rfl ?_
    refine K_pick [1, 2, 3, 4, 5, 6, 7, 0] ?_
    exact hk56 _ _ _ _ _ _ hM  h
set_option maxRecDepth 20000 in
theorem L_GraveRails_begin_118 {X : mX} {x1 : Int32} {x2 : Int32} {k38 : Int32 → Int32 → Int32 → Int32 → mM → Option (Int32 × mM)} {k56 : Int32 → Int32 → Int32 → Int32 → Int32 → mM → Option (Int32 × mM)} {r : Int32 × mM}  (hk38 : ∀ (l3 : Int32) (l4 : Int32) (l5 : Int32) (l6 : Int32) (M : mM), Fx M → k38 l3 l4 l5 l6 M = some r → KK X 6 106 38 [(0, .ref 0), (1, .int x1), (2, .int x2), (3, .int l3), (4, .int l4), (5, .int l5), (6, .int l6)] [] M (fun v M' => v = some (.int r.1) ∧ r.2 = M' ∧ Fx r.2)) (hk56 : ∀ (l3 : Int32) (l4 : Int32) (l5 : Int32) (l6 : Int32) (l7 : Int32) (M : mM), Fx M → k56 l3 l4 l5 l6 l7 M = some r → KK X 6 106 56 [(0, .ref 0), (1, .int x1), (2, .int x2), (3, .int l3), (4, .int l4), (5, .int l5), (6, .int l6), (7, .int l7)] [] M (fun v M' => v = some (.int r.1) ∧ r.2 = M' ∧ Fx r.2)) (l3 : Int32) (l4 : Int32) (l6 : Int32) (l7 : Int32) (s0 : Int32) (M : mM) (hM : Fx M)  (h : f_GraveRails_begin_118 x1 x2 k38 k56 l3 l4 l6 l7 s0 M = some r) : KK X 6 106 118 [(0, .ref 0), (1, .int x1), (2, .int x2), (3, .int l3), (4, .int l4), (6, .int l6), (7, .int l7)] [.int s0] M (fun v M' => v = some (.int r.1) ∧ r.2 = M' ∧ Fx r.2) := by
    unfold f_GraveRails_begin_118 at h
    refine K_istore rfl ?_
    refine K_iinc (y := (l3 + 1)) rfl 4 rfl rfl ?_
    refine K_pick [2, 3, 4, 0, 5, 1, 6, 7] ?_
    exact L_GraveRails_begin_123   hk38 hk56 _ _ _ _ _ _ hM  h
set_option maxRecDepth 20000 in
theorem L_GraveRails_begin_105 {X : mX} {x1 : Int32} {x2 : Int32} {k38 : Int32 → Int32 → Int32 → Int32 → mM → Option (Int32 × mM)} {k56 : Int32 → Int32 → Int32 → Int32 → Int32 → mM → Option (Int32 × mM)} {r : Int32 × mM}  (hk38 : ∀ (l3 : Int32) (l4 : Int32) (l5 : Int32) (l6 : Int32) (M : mM), Fx M → k38 l3 l4 l5 l6 M = some r → KK X 6 106 38 [(0, .ref 0), (1, .int x1), (2, .int x2), (3, .int l3), (4, .int l4), (5, .int l5), (6, .int l6)] [] M (fun v M' => v = some (.int r.1) ∧ r.2 = M' ∧ Fx r.2)) (hk56 : ∀ (l3 : Int32) (l4 : Int32) (l5 : Int32) (l6 : Int32) (l7 : Int32) (M : mM), Fx M → k56 l3 l4 l5 l6 l7 M = some r → KK X 6 106 56 [(0, .ref 0), (1, .int x1), (2, .int x2), (3, .int l3), (4, .int l4), (5, .int l5), (6, .int l6), (7, .int l7)] [] M (fun v M' => v = some (.int r.1) ∧ r.2 = M' ∧ Fx r.2)) (l3 : Int32) (l5 : Int32) (l6 : Int32) (l7 : Int32) (s0 : Int32) (M : mM) (hM : Fx M)  (h : f_GraveRails_begin_105 x1 x2 k38 k56 l3 l5 l6 l7 s0 M = some r) : KK X 6 106 105 [(0, .ref 0), (1, .int x1), (2, .int x2), (3, .int l3), (5, .int l5), (6, .int l6), (7, .int l7)] [.int s0] M (fun v M' => v = some (.int r.1) ∧ r.2 = M' ∧ Fx r.2) := by
    unfold f_GraveRails_begin_105 at h
    refine K_istore rfl ?_
    refine K_iload_n rfl 4 rfl ?_
    refine K_if_ne rfl (fun c14 => ?_) (fun c14 => ?_)
    · rw [if_neg c14] at h
      refine K_iload rfl 5 rfl ?_
      refine K_pick [1, 2, 3, 4, 0, 6, 7] ?_
      exact L_GraveRails_begin_118   hk38 hk56 _ _ _ _ _ _ hM  h
    · rw [if_pos c14] at h
      refine K_iload rfl 7 rfl ?_
      refine K_goto rfl ?_
      refine K_pick [1, 2, 3, 4, 0, 6, 7] ?_
      exact L_GraveRails_begin_118   hk38 hk56 _ _ _ _ _ _ hM  h
set_option maxRecDepth 20000 in
theorem L_GraveRails_begin_56 {X : mX} {x1 : Int32} {x2 : Int32} {k38 : Int32 → Int32 → Int32 → Int32 → mM → Option (Int32 × mM)} {r : Int32 × mM}  (hk38 : ∀ (l3 : Int32) (l4 : Int32) (l5 : Int32) (l6 : Int32) (M : mM), Fx M → k38 l3 l4 l5 l6 M = some r → KK X 6 106 38 [(0, .ref 0), (1, .int x1), (2, .int x2), (3, .int l3), (4, .int l4), (5, .int l5), (6, .int l6)] [] M (fun v M' => v = some (.int r.1) ∧ r.2 = M' ∧ Fx r.2)) : ∀ (n : Nat) (l3 : Int32) (l4 : Int32) (l5 : Int32) (l6 : Int32) (l7 : Int32) (M : mM), Fx M → f_GraveRails_begin_56 x1 x2 k38 n l3 l4 l5 l6 l7 M = some r → KK X 6 106 56 [(0, .ref 0), (1, .int x1), (2, .int x2), (3, .int l3), (4, .int l4), (5, .int l5), (6, .int l6), (7, .int l7)] [] M (fun v M' => v = some (.int r.1) ∧ r.2 = M' ∧ Fx r.2)
  | 0, _, _, _, _, _, _ => fun _ h => by cases h
  | n + 1, l3, l4, l5, l6, l7, M => fun hM h => by
    unfold f_GraveRails_begin_56 at h
    refine K_iload rfl 7 rfl ?_
    refine K_aload_n rfl 0 rfl ?_
    refine K_gR rfl sh_0 hM rfl rfl 5 rfl r_0_5 ?_
    refine K_gR rfl sh_20 hM rfl rfl 0 rfl r_20_0 ?_
    refine K_gI rfl sh_21 hM rfl rfl 1 rfl ?_
    refine K_ic_ge rfl (fun c8 => ?_) (fun c8 => ?_)
    · rw [if_pos c8] at h
      refine K_iinc (y := (l6 + 1)) rfl 6 rfl rfl ?_
      refine K_goto rfl ?_
      refine K_pick [1, 2, 3, 4, 5, 6, 0] ?_
      exact hk38 _ _ _ _ _ hM  h
    · rw [if_neg c8] at h
      refine K_aload_n rfl 0 rfl ?_
      refine K_iload rfl 6 rfl ?_
      refine K_iload rfl 7 rfl ?_
      obtain ⟨r9, er9, h⟩ := Option.bind_eq_some_iff.mp h
      refine K_cV [.int l6, .int l7] [] rfl rfl (Nat.le_of_ble_eq_true rfl) (Nat.le_of_ble_eq_true rfl) sh_0 hM rfl (EV_le (Nat.le_of_ble_eq_true rfl) (F_GraveRails_isFree hM  er9)) (fun v' M' hq => ?_)
      obtain ⟨rfl, rfl, hr9⟩ := hq
      refine K_if_eq rfl (fun c10 => ?_) (fun c10 => ?_)
      · rw [if_pos c10] at h
        refine K_pick [0, 1, 2, 3, 4, 5, 6, 7] ?_
        exact L_GraveRails_begin_123   hk38 (L_GraveRails_begin_56   hk38 n) _ _ _ _ _ _ hr9  h
      · rw [if_neg c10] at h
        refine K_aload_n rfl 0 rfl ?_
        refine K_iload_n rfl 1 rfl ?_
        refine K_iload rfl 6 rfl ?_
        refine K_iload rfl 7 rfl ?_
        obtain ⟨r11, er11, h⟩ := Option.bind_eq_some_iff.mp h
        refine K_cV [.int x1, .int l6, .int l7] [] rfl rfl (Nat.le_of_ble_eq_true rfl) (Nat.le_of_ble_eq_true rfl) sh_0 hr9 rfl (EV_le (Nat.le_of_ble_eq_true rfl) (F_GraveRails_fallsWithOneDugAt hr9  er11)) (fun v' M' hq => ?_)
        obtain ⟨rfl, rfl, hr11⟩ := hq
        refine K_if_eq rfl (fun c12 => ?_) (fun c12 => ?_)
        · rw [if_pos c12] at h
          refine K_pick [0, 1, 2, 3, 4, 5, 6, 7] ?_
          exact L_GraveRails_begin_123   hk38 (L_GraveRails_begin_56   hk38 n) _ _ _ _ _ _ hr11  h
        · rw [if_neg c12] at h
          refine K_iload_n rfl 3 rfl ?_
          refine K_if_ne rfl (fun c13 => ?_) (fun c13 => ?_)
          · rw [if_neg c13] at h
            refine K_iload rfl 4 rfl ?_
            refine K_pick [0, 1, 2, 3, 5, 6, 7] ?_
            exact L_GraveRails_begin_105   hk38 (L_GraveRails_begin_56   hk38 n) _ _ _ _ _ _ hr11  h
          · rw [if_pos c13] at h
            refine K_iload rfl 6 rfl ?_
            refine K_goto rfl ?_
            refine K_pick [0, 1, 2, 3, 5, 6, 7] ?_
            exact L_GraveRails_begin_105   hk38 (L_GraveRails_begin_56   hk38 n) _ _ _ _ _ _ hr11  h
set_option maxRecDepth 20000 in
theorem L_GraveRails_begin_38 {X : mX} {x1 : Int32} {x2 : Int32} {r : Int32 × mM}  : ∀ (n : Nat) (l3 : Int32) (l4 : Int32) (l5 : Int32) (l6 : Int32) (M : mM), Fx M → f_GraveRails_begin_38 x1 x2  n l3 l4 l5 l6 M = some r → KK X 6 106 38 [(0, .ref 0), (1, .int x1), (2, .int x2), (3, .int l3), (4, .int l4), (5, .int l5), (6, .int l6)] [] M (fun v M' => v = some (.int r.1) ∧ r.2 = M' ∧ Fx r.2)
  | 0, _, _, _, _, _ => fun _ h => by cases h
  | n + 1, l3, l4, l5, l6, M => fun hM h => by
    unfold f_GraveRails_begin_38 at h
    refine K_iload rfl 6 rfl ?_
    refine K_aload_n rfl 0 rfl ?_
    refine K_gR rfl sh_0 hM rfl rfl 5 rfl r_0_5 ?_
    refine K_gR rfl sh_20 hM rfl rfl 0 rfl r_20_0 ?_
    refine K_gI rfl sh_21 hM rfl rfl 0 rfl ?_
    refine K_ic_ge rfl (fun c5 => ?_) (fun c5 => ?_)
    · rw [if_pos c5] at h
      refine K_iload_n rfl 2 rfl ?_
      refine K_if_ne rfl (fun c6 => ?_) (fun c6 => ?_)
      · rw [if_neg c6] at h
        refine K_iload_n rfl 2 rfl ?_
        refine K_iconst (v := 1) rfl (by decide) ?_
        refine K_ic_ne rfl (fun c7 => ?_) (fun c7 => ?_)
        · rw [if_neg c7] at h
          refine K_iload rfl 5 rfl ?_
          obtain rfl := Option.some.inj h
          exact K_iret rfl (Or.inl rfl) ⟨rfl, rfl, hM⟩
        · rw [if_pos c7] at h
          refine K_iload rfl 4 rfl ?_
          refine K_goto rfl ?_
          obtain rfl := Option.some.inj h
          exact K_iret rfl (Or.inl rfl) ⟨rfl, rfl, hM⟩
      · rw [if_pos c6] at h
        refine K_iload_n rfl 3 rfl ?_
        obtain rfl := Option.some.inj h
        exact K_iret rfl (Or.inl rfl) ⟨rfl, rfl, hM⟩
    · rw [if_neg c5] at h
      refine K_iconst (v := 0) rfl (by decide) ?_
      refine K_istore rfl ?_
      refine K_pick [1, 2, 3, 4, 5, 6, 7, 0] ?_
      exact L_GraveRails_begin_56   (L_GraveRails_begin_38    n) FUEL _ _ _ _ _ _ hM  h
set_option maxRecDepth 20000 in
theorem F_GraveRails_begin {X : mX} {x1 : Int32} {x2 : Int32} {M : mM} {r : Int32 × mM} (hM : Fx M)  (h : f_GraveRails_begin x1 x2 M = some r) : EV X (6 + 1) 106 [.ref 0, .int x1, .int x2] M (fun v M' => v = some (.int r.1) ∧ r.2 = M' ∧ Fx r.2) := by
    refine EV_of (lc := [(0, .ref 0), (1, .int x1), (2, .int x2)]) (Nat.le_of_ble_eq_true rfl) (by exact Nat.le_of_ble_eq_true rfl) (by exact List.forall_mem_cons.mpr ⟨rfl, List.forall_mem_cons.mpr ⟨rfl, List.forall_mem_cons.mpr ⟨rfl, fun _ h => absurd h List.not_mem_nil⟩⟩⟩) ?_
    unfold f_GraveRails_begin at h
    refine K_aload_n rfl 0 rfl ?_
    refine K_gR rfl sh_0 hM rfl rfl 5 rfl r_0_5 ?_
    refine K_gR rfl sh_20 hM rfl rfl 1 rfl r_20_1 ?_
    refine K_iload_n rfl 1 rfl ?_
    obtain ⟨r1, er1, h⟩ := Option.bind_eq_some_iff.mp h
    refine K_cV [.int x1] [] rfl rfl (Nat.le_of_ble_eq_true rfl) (Nat.le_of_ble_eq_true rfl) sh_29 hM rfl (EV_le (Nat.le_of_ble_eq_true rfl) (F_State_has hM st_29 er1)) (fun v' M' hq => ?_)
    obtain ⟨rfl, rfl, hr1⟩ := hq
    refine K_if_eq rfl (fun c2 => ?_) (fun c2 => ?_)
    · rw [if_pos c2] at h
      refine K_iconst (v := (-1)) rfl (by decide) ?_
      obtain rfl := Option.some.inj h
      exact K_iret rfl (Or.inl rfl) ⟨rfl, rfl, hr1⟩
    · rw [if_neg c2] at h
      refine K_iload_n rfl 2 rfl ?_
      refine K_if_lt rfl (fun c3 => ?_) (fun c3 => ?_)
      · rw [if_pos c3] at h
        refine K_iconst (v := (-1)) rfl (by decide) ?_
        obtain rfl := Option.some.inj h
        exact K_iret rfl (Or.inl rfl) ⟨rfl, rfl, hr1⟩
      · rw [if_neg c3] at h
        refine K_iload_n rfl 2 rfl ?_
        refine K_iconst (v := 2) rfl (by decide) ?_
        refine K_ic_le rfl (fun c4 => ?_) (fun c4 => ?_)
        · rw [if_pos c4] at h
          refine K_iconst (v := 0) rfl (by decide) ?_
          refine K_istore_n rfl ?_
          refine K_bipush (v := (-2)) rfl (by decide) ?_
          refine K_istore rfl ?_
          refine K_bipush (v := (-2)) rfl (by decide) ?_
          refine K_istore rfl ?_
          refine K_iconst (v := 0) rfl (by decide) ?_
          refine K_istore rfl ?_
          refine K_pick [4, 5, 6, 3, 2, 1, 0] ?_
          exact L_GraveRails_begin_38    FUEL _ _ _ _ _ hr1  h
        · rw [if_neg c4] at h
          refine K_iconst (v := (-1)) rfl (by decide) ?_
          obtain rfl := Option.some.inj h
          exact K_iret rfl (Or.inl rfl) ⟨rfl, rfl, hr1⟩
set_option maxRecDepth 20000 in
theorem F_Yard_becomeBare {X : mX} {S : Nat} {x1 : Nat} {M : mM} {r : mM} (hM : Fx M) (hS : is_yd S) (hx1 : is_yd x1) (h : f_Yard_becomeBare S x1 M = some r) : EV X (0 + 1) 109 [.ref S, .ref x1] M (fun v M' => v = none ∧ r = M' ∧ Fx r) := by
    refine EV_of (lc := [(0, .ref S), (1, .ref x1)]) (Nat.le_of_ble_eq_true rfl) (by exact Nat.le_of_ble_eq_true rfl) (by exact List.forall_mem_cons.mpr ⟨rfl, List.forall_mem_cons.mpr ⟨rfl, fun _ h => absurd h List.not_mem_nil⟩⟩) ?_
    unfold f_Yard_becomeBare at h
    refine K_aload_n rfl 0 rfl ?_
    refine K_aload_n rfl 1 rfl ?_
    refine K_gI rfl (yd_s0 hx1) hM rfl rfl 0 rfl ?_
    obtain ⟨M1, eM1, h⟩ := Option.bind_eq_some_iff.mp h
    refine K_pI rfl (yd_s0 hS) hM rfl rfl 0 rfl eM1 (fun hM1 => ?_)
    refine K_aload_n rfl 0 rfl ?_
    refine K_aload_n rfl 1 rfl ?_
    refine K_gI rfl (yd_s0 hx1) hM1 rfl rfl 1 rfl ?_
    obtain ⟨M2, eM2, h⟩ := Option.bind_eq_some_iff.mp h
    refine K_pI rfl (yd_s0 hS) hM1 rfl rfl 1 rfl eM2 (fun hM2 => ?_)
    refine K_aload_n rfl 1 rfl ?_
    refine K_gR rfl (yd_s0 hx1) hM2 rfl rfl 9 rfl (yd_r9 hx1) ?_
    refine K_iconst (v := 0) rfl (by decide) ?_
    refine K_aload_n rfl 0 rfl ?_
    refine K_gR rfl (yd_s0 hS) hM2 rfl rfl 9 rfl (yd_r9 hS) ?_
    refine K_iconst (v := 0) rfl (by decide) ?_
    refine K_bipush (v := 80) rfl (by decide) ?_
    obtain ⟨M3, eM3, h⟩ := Option.bind_eq_some_iff.mp h
    refine K_pC rfl (yd_s6 hx1) (yd_s6 hS) hM2 (by decide) (Nat.le_of_ble_eq_true rfl) eM3 (fun hM3 => ?_)
    obtain rfl := Option.some.inj h
    exact K_vret rfl rfl ⟨rfl, rfl, hM3⟩
set_option maxRecDepth 20000 in
theorem L_GraveRails_dug_158 {X : mX} {x1 : Int32} {x2 : Int32} {x3 : Int32} {x4 : Int32} {k113 : Int32 → Int32 → Int32 → Int32 → mM → Option (Int32 × mM)} {r : Int32 × mM}  (hk113 : ∀ (l5 : Int32) (l6 : Int32) (l7 : Int32) (l8 : Int32) (M : mM), Fx M → k113 l5 l6 l7 l8 M = some r → KK X 5 108 113 [(0, .ref 0), (3, .int x3), (4, .int x4), (5, .int l5), (6, .int l6), (7, .int l7), (8, .int l8)] [] M (fun v M' => v = some (.int r.1) ∧ r.2 = M' ∧ Fx r.2)) (l5 : Int32) (l6 : Int32) (l7 : Int32) (l8 : Int32) (M : mM) (hM : Fx M)  (h : f_GraveRails_dug_158 x1 x2 x3 x4 k113 l5 l6 l7 l8 M = some r) : KK X 5 108 158 [(0, .ref 0), (3, .int x3), (4, .int x4), (5, .int l5), (6, .int l6), (7, .int l7), (8, .int l8)] [] M (fun v M' => v = some (.int r.1) ∧ r.2 = M' ∧ Fx r.2) := by
    unfold f_GraveRails_dug_158 at h
    refine K_aload_n rfl 0 rfl ?_
    refine K_gR rfl sh_0 hM rfl rfl 8 rfl r_0_8 ?_
    obtain ⟨M17, eM17, h⟩ := Option.bind_eq_some_iff.mp h
    refine K_cV [] [] rfl rfl (Nat.le_of_ble_eq_true rfl) (Nat.le_of_ble_eq_true rfl) sh_246 hM rfl (EV_le (Nat.le_of_ble_eq_true rfl) (F_Course_goYear hM  eM17)) (fun v' M' hq => ?_)
    obtain ⟨rfl, rfl, hM17⟩ := hq
    refine K_iinc (y := (l8 + 1)) rfl 6 rfl rfl ?_
    refine K_goto rfl ?_
    refine K_pick [1, 2, 3, 4, 5, 6, 0] ?_
    exact hk113 _ _ _ _ _ hM17  h
set_option maxRecDepth 20000 in
theorem L_GraveRails_dug_152 {X : mX} {x1 : Int32} {x2 : Int32} {x3 : Int32} {x4 : Int32} {k113 : Int32 → Int32 → Int32 → Int32 → mM → Option (Int32 × mM)} {r : Int32 × mM}  (hk113 : ∀ (l5 : Int32) (l6 : Int32) (l7 : Int32) (l8 : Int32) (M : mM), Fx M → k113 l5 l6 l7 l8 M = some r → KK X 5 108 113 [(0, .ref 0), (3, .int x3), (4, .int x4), (5, .int l5), (6, .int l6), (7, .int l7), (8, .int l8)] [] M (fun v M' => v = some (.int r.1) ∧ r.2 = M' ∧ Fx r.2)) (l5 : Int32) (l8 : Int32) (s0 : Int32) (M : mM) (hM : Fx M)  (h : f_GraveRails_dug_152 x1 x2 x3 x4 k113 l5 l8 s0 M = some r) : KK X 5 108 152 [(0, .ref 0), (3, .int x3), (4, .int x4), (5, .int l5), (8, .int l8)] [.int s0] M (fun v M' => v = some (.int r.1) ∧ r.2 = M' ∧ Fx r.2) := by
    unfold f_GraveRails_dug_152 at h
    refine K_istore rfl ?_
    refine K_iload rfl 5 rfl ?_
    refine K_istore rfl ?_
    refine K_pick [2, 3, 4, 5, 1, 0, 6] ?_
    exact L_GraveRails_dug_158   hk113 _ _ _ _ _ hM  h
set_option maxRecDepth 20000 in
theorem L_GraveRails_dug_113 {X : mX} {x1 : Int32} {x2 : Int32} {x3 : Int32} {x4 : Int32} {r : Int32 × mM}  : ∀ (n : Nat) (l5 : Int32) (l6 : Int32) (l7 : Int32) (l8 : Int32) (M : mM), Fx M → f_GraveRails_dug_113 x1 x2 x3 x4  n l5 l6 l7 l8 M = some r → KK X 5 108 113 [(0, .ref 0), (3, .int x3), (4, .int x4), (5, .int l5), (6, .int l6), (7, .int l7), (8, .int l8)] [] M (fun v M' => v = some (.int r.1) ∧ r.2 = M' ∧ Fx r.2)
  | 0, _, _, _, _, _ => fun _ h => by cases h
  | n + 1, l5, l6, l7, l8, M => fun hM h => by
    unfold f_GraveRails_dug_113 at h
    refine K_iload rfl 6 rfl ?_
    refine K_bipush (v := 40) rfl (by decide) ?_
    refine K_ic_gt rfl (fun c12 => ?_) (fun c12 => ?_)
    · rw [if_pos c12] at h
      refine K_iload rfl 2 rfl ?_
      refine K_if_ne rfl (fun c13 => ?_) (fun c13 => ?_)
      · rw [if_neg c13] at h
        refine K_iload rfl 2 rfl ?_
        refine K_iconst (v := 1) rfl (by decide) ?_
        refine K_ic_ne rfl (fun c14 => ?_) (fun c14 => ?_)
        · rw [if_neg c14] at h
          refine K_iload rfl 5 rfl ?_
          obtain rfl := Option.some.inj h
          exact K_iret rfl (Or.inl rfl) ⟨rfl, rfl, hM⟩
        · rw [if_pos c14] at h
          refine K_iload rfl 4 rfl ?_
          refine K_goto rfl ?_
          obtain rfl := Option.some.inj h
          exact K_iret rfl (Or.inl rfl) ⟨rfl, rfl, hM⟩
      · rw [if_pos c13] at h
        refine K_iload rfl 3 rfl ?_
        obtain rfl := Option.some.inj h
        exact K_iret rfl (Or.inl rfl) ⟨rfl, rfl, hM⟩
    · rw [if_neg c12] at h
      refine K_aload_n rfl 0 rfl ?_
      refine K_gR rfl sh_0 hM rfl rfl 8 rfl r_0_8 ?_
      refine K_gR rfl sh_246 hM rfl rfl 0 rfl r_246_0 ?_
      refine K_gR rfl sh_247 hM rfl rfl 4 rfl r_247_4 ?_
      refine K_iconst (v := 0) rfl (by decide) ?_
      obtain ⟨v15, ev15, h⟩ := Option.bind_eq_some_iff.mp h
      refine K_rd rfl sh_249 hM ev15 ?_
      refine K_iload_n rfl 1 rfl ?_
      refine K_ic_ne rfl (fun c16 => ?_) (fun c16 => ?_)
      · rw [if_neg c16] at h
        refine K_pick [0, 1, 2, 3, 4, 5, 6] ?_
        exact L_GraveRails_dug_158   (L_GraveRails_dug_113    n) _ _ _ _ _ hM  h
      · rw [if_pos c16] at h
        refine K_iinc (y := (l5 + 1)) rfl 3 rfl rfl ?_
        refine K_iload rfl 0 rfl ?_
        refine K_iconst (v := 1) rfl (by decide) ?_
        refine K_ic_ne rfl (fun c18 => ?_) (fun c18 => ?_)
        · rw [if_neg c18] at h
          refine K_iload rfl 4 rfl ?_
          refine K_pick [1, 2, 3, 0, 6] ?_
          exact L_GraveRails_dug_152   (L_GraveRails_dug_113    n) _ _ _ _ hM  h
        · rw [if_pos c18] at h
          refine K_iload rfl 6 rfl ?_
          refine K_goto rfl ?_
          refine K_pick [1, 2, 3, 0, 6] ?_
          exact L_GraveRails_dug_152   (L_GraveRails_dug_113    n) _ _ _ _ hM  h
set_option maxRecDepth 20000 in
theorem F_GraveRails_dug {X : mX} {x1 : Int32} {x2 : Int32} {x3 : Int32} {x4 : Int32} {M : mM} {r : Int32 × mM} (hM : Fx M)  (h : f_GraveRails_dug x1 x2 x3 x4 M = some r) : EV X (5 + 1) 108 [.ref 0, .int x1, .int x2, .int x3, .int x4] M (fun v M' => v = some (.int r.1) ∧ r.2 = M' ∧ Fx r.2) := by
    refine EV_of (lc := [(0, .ref 0), (1, .int x1), (2, .int x2), (3, .int x3), (4, .int x4)]) (Nat.le_of_ble_eq_true rfl) (by exact Nat.le_of_ble_eq_true rfl) (by exact List.forall_mem_cons.mpr ⟨rfl, List.forall_mem_cons.mpr ⟨rfl, List.forall_mem_cons.mpr ⟨rfl, List.forall_mem_cons.mpr ⟨rfl, List.forall_mem_cons.mpr ⟨rfl, fun _ h => absurd h List.not_mem_nil⟩⟩⟩⟩⟩) ?_
    unfold f_GraveRails_dug at h
    refine K_iload_n rfl 1 rfl ?_
    refine K_if_lt rfl (fun c1 => ?_) (fun c1 => ?_)
    · rw [if_pos c1] at h
      refine K_iconst (v := (-1)) rfl (by decide) ?_
      obtain rfl := Option.some.inj h
      exact K_iret rfl (Or.inl rfl) ⟨rfl, rfl, hM⟩
    · rw [if_neg c1] at h
      refine K_iload_n rfl 1 rfl ?_
      refine K_iconst (v := 2) rfl (by decide) ?_
      refine K_ic_gt rfl (fun c2 => ?_) (fun c2 => ?_)
      · rw [if_pos c2] at h
        refine K_iconst (v := (-1)) rfl (by decide) ?_
        obtain rfl := Option.some.inj h
        exact K_iret rfl (Or.inl rfl) ⟨rfl, rfl, hM⟩
      · rw [if_neg c2] at h
        refine K_aload_n rfl 0 rfl ?_
        refine K_gR rfl sh_0 hM rfl rfl 5 rfl r_0_5 ?_
        refine K_gR rfl sh_20 hM rfl rfl 0 rfl r_20_0 ?_
        refine K_iload_n rfl 2 rfl ?_
        refine K_iload_n rfl 3 rfl ?_
        obtain ⟨r3, er3, h⟩ := Option.bind_eq_some_iff.mp h
        refine K_cV [.int x2, .int x3] [] rfl rfl (Nat.le_of_ble_eq_true rfl) (Nat.le_of_ble_eq_true rfl) sh_21 hM rfl (EV_le (Nat.le_of_ble_eq_true rfl) (F_Yard_hasPlace hM yd_21 er3)) (fun v' M' hq => ?_)
        obtain ⟨rfl, rfl, hr3⟩ := hq
        refine K_if_eq rfl (fun c4 => ?_) (fun c4 => ?_)
        · rw [if_pos c4] at h
          refine K_iconst (v := (-1)) rfl (by decide) ?_
          obtain rfl := Option.some.inj h
          exact K_iret rfl (Or.inl rfl) ⟨rfl, rfl, hr3⟩
        · rw [if_neg c4] at h
          refine K_iload rfl 4 rfl ?_
          refine K_if_lt rfl (fun c5 => ?_) (fun c5 => ?_)
          · rw [if_pos c5] at h
            refine K_iconst (v := (-1)) rfl (by decide) ?_
            obtain rfl := Option.some.inj h
            exact K_iret rfl (Or.inl rfl) ⟨rfl, rfl, hr3⟩
          · rw [if_neg c5] at h
            refine K_iload rfl 4 rfl ?_
            refine K_iconst (v := 2) rfl (by decide) ?_
            refine K_ic_le rfl (fun c6 => ?_) (fun c6 => ?_)
            · rw [if_pos c6] at h
              refine K_aload_n rfl 0 rfl ?_
              refine K_gR rfl sh_0 hr3 rfl rfl 10 rfl r_0_10 ?_
              refine K_aload_n rfl 0 rfl ?_
              refine K_gR rfl sh_0 hr3 rfl rfl 5 rfl r_0_5 ?_
              refine K_gR rfl sh_20 hr3 rfl rfl 0 rfl r_20_0 ?_
              obtain ⟨M7, eM7, h⟩ := Option.bind_eq_some_iff.mp h
              refine K_cV [.ref 21] [] rfl rfl (Nat.le_of_ble_eq_true rfl) (Nat.le_of_ble_eq_true rfl) sh_290 hr3 rfl (EV_le (Nat.le_of_ble_eq_true rfl) (F_Yard_becomeBare hr3 yd_290 yd_21 eM7)) (fun v' M' hq => ?_)
              obtain ⟨rfl, rfl, hM7⟩ := hq
              refine K_aload_n rfl 0 rfl ?_
              refine K_gR rfl sh_0 hM7 rfl rfl 11 rfl r_0_11 ?_
              refine K_aload_n rfl 0 rfl ?_
              refine K_gR rfl sh_0 hM7 rfl rfl 10 rfl r_0_10 ?_
              obtain ⟨M8, eM8, h⟩ := Option.bind_eq_some_iff.mp h
              refine K_cV [.ref 290] [] rfl rfl (Nat.le_of_ble_eq_true rfl) (Nat.le_of_ble_eq_true rfl) sh_298 hM7 rfl (EV_le (Nat.le_of_ble_eq_true rfl) (F_State_startOf hM7 st_298 yd_290 eM8)) (fun v' M' hq => ?_)
              obtain ⟨rfl, rfl, hM8⟩ := hq
              refine K_aload_n rfl 0 rfl ?_
              refine K_gR rfl sh_0 hM8 rfl rfl 11 rfl r_0_11 ?_
              refine K_iload_n rfl 2 rfl ?_
              refine K_aload_n rfl 0 rfl ?_
              refine K_gR rfl sh_0 hM8 rfl rfl 10 rfl r_0_10 ?_
              refine K_gI rfl sh_290 hM8 rfl rfl 1 rfl ?_
              refine K_iconst (v := 1) rfl (by decide) ?_
              refine K_isub rfl ?_
              refine K_iload_n rfl 1 rfl ?_
              obtain ⟨M9, eM9, h⟩ := Option.bind_eq_some_iff.mp h
              refine K_cV [.int x2, .int ((M8.2.1 290 1) - 1), .int x1] [] rfl rfl (Nat.le_of_ble_eq_true rfl) (Nat.le_of_ble_eq_true rfl) sh_298 hM8 rfl (EV_le (Nat.le_of_ble_eq_true rfl) (F_State_add hM8 st_298 eM9)) (fun v' M' hq => ?_)
              obtain ⟨rfl, rfl, hM9⟩ := hq
              refine K_aload_n rfl 0 rfl ?_
              refine K_gR rfl sh_0 hM9 rfl rfl 8 rfl r_0_8 ?_
              refine K_aload_n rfl 0 rfl ?_
              refine K_gR rfl sh_0 hM9 rfl rfl 10 rfl r_0_10 ?_
              refine K_aload_n rfl 0 rfl ?_
              refine K_gR rfl sh_0 hM9 rfl rfl 11 rfl r_0_11 ?_
              refine K_aload_n rfl 0 rfl ?_
              obtain ⟨r10, er10, h⟩ := Option.bind_eq_some_iff.mp h
              refine K_cV [] [.ref 298, .ref 290, .ref 246] rfl rfl (Nat.le_of_ble_eq_true rfl) (Nat.le_of_ble_eq_true rfl) sh_0 hM9 rfl (EV_le (Nat.le_of_ble_eq_true rfl) (F_GraveRails_ruleInForce hM9  er10)) (fun v' M' hq => ?_)
              obtain ⟨rfl, rfl, hr10⟩ := hq
              obtain ⟨M11, eM11, h⟩ := Option.bind_eq_some_iff.mp h
              refine K_cV [.ref 290, .ref 298, va_rf r10.1] [] rfl rfl (Nat.le_of_ble_eq_true rfl) (Nat.le_of_ble_eq_true rfl) sh_246 hr10 rfl (EV_le (Nat.le_of_ble_eq_true rfl) (F_Course_start hr10 yd_290 st_298 eM11)) (fun v' M' hq => ?_)
              obtain ⟨rfl, rfl, hM11⟩ := hq
              refine K_iconst (v := 0) rfl (by decide) ?_
              refine K_istore rfl ?_
              refine K_bipush (v := (-2)) rfl (by decide) ?_
              refine K_istore rfl ?_
              refine K_bipush (v := (-2)) rfl (by decide) ?_
              refine K_istore rfl ?_
              refine K_iconst (v := 0) rfl (by decide) ?_
              refine K_istore rfl ?_
              refine K_pick [4, 7, 8, 3, 2, 1, 0] ?_
              exact L_GraveRails_dug_113    FUEL _ _ _ _ _ hM11  h
            · rw [if_neg c6] at h
              refine K_iconst (v := (-1)) rfl (by decide) ?_
              obtain rfl := Option.some.inj h
              exact K_iret rfl (Or.inl rfl) ⟨rfl, rfl, hr3⟩
set_option maxRecDepth 20000 in
theorem L_GraveRails_war_91 {X : mX} {x1 : Int32} {k34 : Int32 → Int32 → mM → Option (Int32 × mM)} {k42 : Int32 → Int32 → Int32 → mM → Option (Int32 × mM)} {r : Int32 × mM}  (hk34 : ∀ (l2 : Int32) (l3 : Int32) (M : mM), Fx M → k34 l2 l3 M = some r → KK X 5 110 34 [(0, .ref 0), (1, .int x1), (2, .int l2), (3, .int l3)] [] M (fun v M' => v = some (.int r.1) ∧ r.2 = M' ∧ Fx r.2)) (hk42 : ∀ (l2 : Int32) (l3 : Int32) (l4 : Int32) (M : mM), Fx M → k42 l2 l3 l4 M = some r → KK X 5 110 42 [(0, .ref 0), (1, .int x1), (2, .int l2), (3, .int l3), (4, .int l4)] [] M (fun v M' => v = some (.int r.1) ∧ r.2 = M' ∧ Fx r.2)) (l3 : Int32) (l4 : Int32) (s0 : Int32) (s1 : Int32) (M : mM) (hM : Fx M)  (h : f_GraveRails_war_91 x1 k34 k42 l3 l4 s0 s1 M = some r) : KK X 5 110 91 [(0, .ref 0), (1, .int x1), (3, .int l3), (4, .int l4)] [.int s1, .int s0] M (fun v M' => v = some (.int r.1) ∧ r.2 = M' ∧ Fx r.2) := by
    unfold f_GraveRails_war_91 at h
    refine K_iadd rfl ?_
    refine K_istore_n rfl ?_
    refine K_iinc (y := (l4 + 1)) rfl 4 rfl rfl ?_
    refine K_goto rfl ?_
    refine K_pick [2, 3, 1, 4, 0] ?_
    exact hk42 _ _ _ _ hM  h
set_option maxRecDepth 20000 in
theorem L_GraveRails_war_42 {X : mX} {x1 : Int32} {k34 : Int32 → Int32 → mM → Option (Int32 × mM)} {r : Int32 × mM}  (hk34 : ∀ (l2 : Int32) (l3 : Int32) (M : mM), Fx M → k34 l2 l3 M = some r → KK X 5 110 34 [(0, .ref 0), (1, .int x1), (2, .int l2), (3, .int l3)] [] M (fun v M' => v = some (.int r.1) ∧ r.2 = M' ∧ Fx r.2)) : ∀ (n : Nat) (l2 : Int32) (l3 : Int32) (l4 : Int32) (M : mM), Fx M → f_GraveRails_war_42 x1 k34 n l2 l3 l4 M = some r → KK X 5 110 42 [(0, .ref 0), (1, .int x1), (2, .int l2), (3, .int l3), (4, .int l4)] [] M (fun v M' => v = some (.int r.1) ∧ r.2 = M' ∧ Fx r.2)
  | 0, _, _, _, _ => fun _ h => by cases h
  | n + 1, l2, l3, l4, M => fun hM h => by
    unfold f_GraveRails_war_42 at h
    refine K_iload rfl 4 rfl ?_
    refine K_aload_n rfl 0 rfl ?_
    refine K_gR rfl sh_0 hM rfl rfl 5 rfl r_0_5 ?_
    refine K_gR rfl sh_20 hM rfl rfl 0 rfl r_20_0 ?_
    refine K_gI rfl sh_21 hM rfl rfl 0 rfl ?_
    refine K_ic_ge rfl (fun c7 => ?_) (fun c7 => ?_)
    · rw [if_pos c7] at h
      refine K_aload_n rfl 0 rfl ?_
      refine K_gR rfl sh_0 hM rfl rfl 8 rfl r_0_8 ?_
      obtain ⟨M8, eM8, h⟩ := Option.bind_eq_some_iff.mp h
      refine K_cV [] [] rfl rfl (Nat.le_of_ble_eq_true rfl) (Nat.le_of_ble_eq_true rfl) sh_246 hM rfl (EV_le (Nat.le_of_ble_eq_true rfl) (F_Course_goYear hM  eM8)) (fun v' M' hq => ?_)
      obtain ⟨rfl, rfl, hM8⟩ := hq
      refine K_iinc (y := (l3 + 1)) rfl 3 rfl rfl ?_
      refine K_goto rfl ?_
      refine K_pick [1, 2, 3, 0] ?_
      exact hk34 _ _ _ hM8  h
    · rw [if_neg c7] at h
      refine K_iload_n rfl 2 rfl ?_
      refine K_aload_n rfl 0 rfl ?_
      refine K_gR rfl sh_0 hM rfl rfl 8 rfl r_0_8 ?_
      refine K_gR rfl sh_246 hM rfl rfl 0 rfl r_246_0 ?_
      refine K_iload rfl 4 rfl ?_
      refine K_aload_n rfl 0 rfl ?_
      refine K_gR rfl sh_0 hM rfl rfl 5 rfl r_0_5 ?_
      refine K_gR rfl sh_20 hM rfl rfl 0 rfl r_20_0 ?_
      refine K_gI rfl sh_21 hM rfl rfl 1 rfl ?_
      refine K_iconst (v := 1) rfl (by decide) ?_
      refine K_isub rfl ?_
      obtain ⟨r9, er9, h⟩ := Option.bind_eq_some_iff.mp h
      refine K_cV [.int l4, .int ((M.2.1 21 1) - 1)] [.int l2] rfl rfl (Nat.le_of_ble_eq_true rfl) (Nat.le_of_ble_eq_true rfl) sh_247 hM rfl (EV_le (Nat.le_of_ble_eq_true rfl) (F_State_graveAt hM st_247 er9)) (fun v' M' hq => ?_)
      obtain ⟨rfl, rfl, hr9⟩ := hq
      refine K_iconst (v := (-1)) rfl (by decide) ?_
      refine K_ic_ne rfl (fun c10 => ?_) (fun c10 => ?_)
      · rw [if_neg c10] at h
        refine K_iconst (v := 0) rfl (by decide) ?_
        refine K_pick [0, 1, 3, 4] ?_
        exact L_GraveRails_war_91   hk34 (L_GraveRails_war_42   hk34 n) _ _ _ _ _ hr9  h
      · rw [if_pos c10] at h
        refine K_iconst (v := 1) rfl (by decide) ?_
        refine K_goto rfl ?_
        refine K_pick [0, 1, 3, 4] ?_
        exact L_GraveRails_war_91   hk34 (L_GraveRails_war_42   hk34 n) _ _ _ _ _ hr9  h
set_option maxRecDepth 20000 in
theorem L_GraveRails_war_34 {X : mX} {x1 : Int32} {r : Int32 × mM}  : ∀ (n : Nat) (l2 : Int32) (l3 : Int32) (M : mM), Fx M → f_GraveRails_war_34 x1  n l2 l3 M = some r → KK X 5 110 34 [(0, .ref 0), (1, .int x1), (2, .int l2), (3, .int l3)] [] M (fun v M' => v = some (.int r.1) ∧ r.2 = M' ∧ Fx r.2)
  | 0, _, _, _ => fun _ h => by cases h
  | n + 1, l2, l3, M => fun hM h => by
    unfold f_GraveRails_war_34 at h
    refine K_iload_n rfl 3 rfl ?_
    refine K_iload_n rfl 1 rfl ?_
    refine K_ic_ge rfl (fun c6 => ?_) (fun c6 => ?_)
    · rw [if_pos c6] at h
      refine K_iload_n rfl 2 rfl ?_
      obtain rfl := Option.some.inj h
      exact K_iret rfl (Or.inl rfl) ⟨rfl, rfl, hM⟩
    · rw [if_neg c6] at h
      refine K_iconst (v := 0) rfl (by decide) ?_
      refine K_istore rfl ?_
      refine K_pick [1, 2, 3, 4, 0] ?_
      exact L_GraveRails_war_42   (L_GraveRails_war_34    n) FUEL _ _ _ _ hM  h
set_option maxRecDepth 20000 in
theorem F_GraveRails_war {X : mX} {x1 : Int32} {M : mM} {r : Int32 × mM} (hM : Fx M)  (h : f_GraveRails_war x1 M = some r) : EV X (5 + 1) 110 [.ref 0, .int x1] M (fun v M' => v = some (.int r.1) ∧ r.2 = M' ∧ Fx r.2) := by
    refine EV_of (lc := [(0, .ref 0), (1, .int x1)]) (Nat.le_of_ble_eq_true rfl) (by exact Nat.le_of_ble_eq_true rfl) (by exact List.forall_mem_cons.mpr ⟨rfl, List.forall_mem_cons.mpr ⟨rfl, fun _ h => absurd h List.not_mem_nil⟩⟩) ?_
    unfold f_GraveRails_war at h
    refine K_aload_n rfl 0 rfl ?_
    refine K_gR rfl sh_0 hM rfl rfl 5 rfl r_0_5 ?_
    refine K_gR rfl sh_20 hM rfl rfl 0 rfl r_20_0 ?_
    obtain ⟨r1, er1, h⟩ := Option.bind_eq_some_iff.mp h
    refine K_cV [] [] rfl rfl (Nat.le_of_ble_eq_true rfl) (Nat.le_of_ble_eq_true rfl) sh_21 hM rfl (EV_le (Nat.le_of_ble_eq_true rfl) (F_Yard_isTold hM yd_21 er1)) (fun v' M' hq => ?_)
    obtain ⟨rfl, rfl, hr1⟩ := hq
    refine K_if_eq rfl (fun c2 => ?_) (fun c2 => ?_)
    · rw [if_pos c2] at h
      refine K_iconst (v := (-1)) rfl (by decide) ?_
      obtain rfl := Option.some.inj h
      exact K_iret rfl (Or.inl rfl) ⟨rfl, rfl, hr1⟩
    · rw [if_neg c2] at h
      refine K_iload_n rfl 1 rfl ?_
      refine K_iconst (v := 1) rfl (by decide) ?_
      refine K_ic_lt rfl (fun c3 => ?_) (fun c3 => ?_)
      · rw [if_pos c3] at h
        refine K_iconst (v := (-1)) rfl (by decide) ?_
        obtain rfl := Option.some.inj h
        exact K_iret rfl (Or.inl rfl) ⟨rfl, rfl, hr1⟩
      · rw [if_neg c3] at h
        refine K_iload_n rfl 1 rfl ?_
        refine K_bipush (v := 50) rfl (by decide) ?_
        refine K_ic_le rfl (fun c4 => ?_) (fun c4 => ?_)
        · rw [if_pos c4] at h
          refine K_aload_n rfl 0 rfl ?_
          obtain ⟨M5, eM5, h⟩ := Option.bind_eq_some_iff.mp h
          refine K_cV [] [] rfl rfl (Nat.le_of_ble_eq_true rfl) (Nat.le_of_ble_eq_true rfl) sh_0 hr1 rfl (EV_le (Nat.le_of_ble_eq_true rfl) (F_GraveRails_startFromNow hr1  eM5)) (fun v' M' hq => ?_)
          obtain ⟨rfl, rfl, hM5⟩ := hq
          refine K_iconst (v := 0) rfl (by decide) ?_
          refine K_istore_n rfl ?_
          refine K_iconst (v := 0) rfl (by decide) ?_
          refine K_istore_n rfl ?_
          refine K_pick [2, 3, 1, 0] ?_
          exact L_GraveRails_war_34    FUEL _ _ _ hM5  h
        · rw [if_neg c4] at h
          refine K_iconst (v := (-1)) rfl (by decide) ?_
          obtain rfl := Option.some.inj h
          exact K_iret rfl (Or.inl rfl) ⟨rfl, rfl, hr1⟩
set_option maxRecDepth 20000 in
theorem L_GraveRails_order_56 {X : mX} {x1 : Int32} {r : Int32 × mM}   (M : mM) (hM : Fx M)  (h : f_GraveRails_order_56 x1   M = some r) : KK X 5 111 56 [(0, .ref 0), (1, .int x1)] [] M (fun v M' => v = some (.int r.1) ∧ r.2 = M' ∧ Fx r.2) := by
    unfold f_GraveRails_order_56 at h
    refine K_iload_n rfl 1 rfl ?_
    refine K_aload_n rfl 0 rfl ?_
    refine K_gR rfl sh_0 hM rfl rfl 8 rfl r_0_8 ?_
    refine K_gI rfl sh_246 hM rfl rfl 2 rfl ?_
    refine K_ic_ge rfl (fun c6 => ?_) (fun c6 => ?_)
    · rw [if_pos c6] at h
      refine K_bipush (v := (-2)) rfl (by decide) ?_
      obtain rfl := Option.some.inj h
      exact K_iret rfl (Or.inl rfl) ⟨rfl, rfl, hM⟩
    · rw [if_neg c6] at h
      refine K_iload_n rfl 1 rfl ?_
      refine K_aload_n rfl 0 rfl ?_
      refine K_gR rfl sh_0 hM rfl rfl 8 rfl r_0_8 ?_
      refine K_gR rfl sh_246 hM rfl rfl 1 rfl r_246_1 ?_
      refine K_aln (v := 11) rfl sh_257 hM (by decide) (by decide) ?_
      refine K_ic_ge rfl (fun c7 => ?_) (fun c7 => ?_)
      · rw [if_pos c7] at h
        refine K_bipush (v := (-2)) rfl (by decide) ?_
        obtain rfl := Option.some.inj h
        exact K_iret rfl (Or.inl rfl) ⟨rfl, rfl, hM⟩
      · rw [if_neg c7] at h
        refine K_aload_n rfl 0 rfl ?_
        refine K_gR rfl sh_0 hM rfl rfl 8 rfl r_0_8 ?_
        refine K_gR rfl sh_246 hM rfl rfl 1 rfl r_246_1 ?_
        refine K_iload_n rfl 1 rfl ?_
        obtain ⟨v8, ev8, h⟩ := Option.bind_eq_some_iff.mp h
        refine K_rd rfl sh_257 hM ev8 ?_
        refine K_goto rfl ?_
        obtain rfl := Option.some.inj h
        exact K_iret rfl (Or.inl rfl) ⟨rfl, rfl, hM⟩
set_option maxRecDepth 20000 in
theorem L_GraveRails_order_25 {X : mX} {x1 : Int32} {r : Int32 × mM}  : ∀ (n : Nat) (l2 : Int32) (M : mM), Fx M → f_GraveRails_order_25 x1  n l2 M = some r → KK X 5 111 25 [(0, .ref 0), (1, .int x1), (2, .int l2)] [] M (fun v M' => v = some (.int r.1) ∧ r.2 = M' ∧ Fx r.2)
  | 0, _, _ => fun _ h => by cases h
  | n + 1, l2, M => fun hM h => by
    unfold f_GraveRails_order_25 at h
    refine K_iload_n rfl 2 rfl ?_
    refine K_sipush (v := 200) rfl (by decide) ?_
    refine K_ic_ge rfl (fun c5 => ?_) (fun c5 => ?_)
    · rw [if_pos c5] at h
      refine K_pick [0, 1] ?_
      exact L_GraveRails_order_56     _ hM  h
    · rw [if_neg c5] at h
      refine K_aload_n rfl 0 rfl ?_
      refine K_gR rfl sh_0 hM rfl rfl 8 rfl r_0_8 ?_
      refine K_gI rfl sh_246 hM rfl rfl 2 rfl ?_
      refine K_iload_n rfl 1 rfl ?_
      refine K_ic_gt rfl (fun c9 => ?_) (fun c9 => ?_)
      · rw [if_pos c9] at h
        refine K_pick [0, 1] ?_
        exact L_GraveRails_order_56     _ hM  h
      · rw [if_neg c9] at h
        refine K_aload_n rfl 0 rfl ?_
        refine K_gR rfl sh_0 hM rfl rfl 8 rfl r_0_8 ?_
        obtain ⟨M10, eM10, h⟩ := Option.bind_eq_some_iff.mp h
        refine K_cV [] [] rfl rfl (Nat.le_of_ble_eq_true rfl) (Nat.le_of_ble_eq_true rfl) sh_246 hM rfl (EV_le (Nat.le_of_ble_eq_true rfl) (F_Course_goYear hM  eM10)) (fun v' M' hq => ?_)
        obtain ⟨rfl, rfl, hM10⟩ := hq
        refine K_iinc (y := (l2 + 1)) rfl 2 rfl rfl ?_
        refine K_goto rfl ?_
        refine K_pick [1, 2, 0] ?_
        exact L_GraveRails_order_25    n _ _ hM10  h
set_option maxRecDepth 20000 in
theorem F_GraveRails_order {X : mX} {x1 : Int32} {M : mM} {r : Int32 × mM} (hM : Fx M)  (h : f_GraveRails_order x1 M = some r) : EV X (5 + 1) 111 [.ref 0, .int x1] M (fun v M' => v = some (.int r.1) ∧ r.2 = M' ∧ Fx r.2) := by
    refine EV_of (lc := [(0, .ref 0), (1, .int x1)]) (Nat.le_of_ble_eq_true rfl) (by exact Nat.le_of_ble_eq_true rfl) (by exact List.forall_mem_cons.mpr ⟨rfl, List.forall_mem_cons.mpr ⟨rfl, fun _ h => absurd h List.not_mem_nil⟩⟩) ?_
    unfold f_GraveRails_order at h
    refine K_aload_n rfl 0 rfl ?_
    refine K_gR rfl sh_0 hM rfl rfl 5 rfl r_0_5 ?_
    refine K_gR rfl sh_20 hM rfl rfl 0 rfl r_20_0 ?_
    obtain ⟨r1, er1, h⟩ := Option.bind_eq_some_iff.mp h
    refine K_cV [] [] rfl rfl (Nat.le_of_ble_eq_true rfl) (Nat.le_of_ble_eq_true rfl) sh_21 hM rfl (EV_le (Nat.le_of_ble_eq_true rfl) (F_Yard_isTold hM yd_21 er1)) (fun v' M' hq => ?_)
    obtain ⟨rfl, rfl, hr1⟩ := hq
    refine K_if_eq rfl (fun c2 => ?_) (fun c2 => ?_)
    · rw [if_pos c2] at h
      refine K_iconst (v := (-1)) rfl (by decide) ?_
      obtain rfl := Option.some.inj h
      exact K_iret rfl (Or.inl rfl) ⟨rfl, rfl, hr1⟩
    · rw [if_neg c2] at h
      refine K_iload_n rfl 1 rfl ?_
      refine K_if_ge rfl (fun c3 => ?_) (fun c3 => ?_)
      · rw [if_pos c3] at h
        refine K_aload_n rfl 0 rfl ?_
        obtain ⟨M4, eM4, h⟩ := Option.bind_eq_some_iff.mp h
        refine K_cV [] [] rfl rfl (Nat.le_of_ble_eq_true rfl) (Nat.le_of_ble_eq_true rfl) sh_0 hr1 rfl (EV_le (Nat.le_of_ble_eq_true rfl) (F_GraveRails_startFromNow hr1  eM4)) (fun v' M' hq => ?_)
        obtain ⟨rfl, rfl, hM4⟩ := hq
        refine K_iconst (v := 0) rfl (by decide) ?_
        refine K_istore_n rfl ?_
        refine K_pick [1, 2, 0] ?_
        exact L_GraveRails_order_25    FUEL _ _ hM4  h
      · rw [if_neg c3] at h
        refine K_iconst (v := (-1)) rfl (by decide) ?_
        obtain rfl := Option.some.inj h
        exact K_iret rfl (Or.inl rfl) ⟨rfl, rfl, hr1⟩
set_option maxRecDepth 20000 in
theorem F_Sights_add {X : mX} {S : Nat} {x1 : Int32} {x2 : Int32} {x3 : Int32} {M : mM} {r : mM} (hM : Fx M) (hS : is_sg S) (h : f_Sights_add S x1 x2 x3 M = some r) : EV X (0 + 1) 113 [.ref S, .int x1, .int x2, .int x3] M (fun v M' => v = none ∧ r = M' ∧ Fx r) := by
    refine EV_of (lc := [(0, .ref S), (1, .int x1), (2, .int x2), (3, .int x3)]) (Nat.le_of_ble_eq_true rfl) (by exact Nat.le_of_ble_eq_true rfl) (by exact List.forall_mem_cons.mpr ⟨rfl, List.forall_mem_cons.mpr ⟨rfl, List.forall_mem_cons.mpr ⟨rfl, List.forall_mem_cons.mpr ⟨rfl, fun _ h => absurd h List.not_mem_nil⟩⟩⟩⟩) ?_
    unfold f_Sights_add at h
    refine K_aload_n rfl 0 rfl ?_
    refine K_gI rfl (sg_s0 hS) hM rfl rfl 0 rfl ?_
    refine K_if_lt rfl (fun c1 => ?_) (fun c1 => ?_)
    · rw [if_pos c1] at h
      obtain rfl := Option.some.inj h
      exact K_vret rfl rfl ⟨rfl, rfl, hM⟩
    · rw [if_neg c1] at h
      refine K_aload_n rfl 0 rfl ?_
      refine K_gI rfl (sg_s0 hS) hM rfl rfl 0 rfl ?_
      refine K_bipush (v := 10) rfl (by decide) ?_
      refine K_ic_ge rfl (fun c2 => ?_) (fun c2 => ?_)
      · rw [if_pos c2] at h
        obtain rfl := Option.some.inj h
        exact K_vret rfl rfl ⟨rfl, rfl, hM⟩
      · rw [if_neg c2] at h
        refine K_aload_n rfl 0 rfl ?_
        refine K_gR rfl (sg_s0 hS) hM rfl rfl 1 rfl (sg_r1 hS) ?_
        refine K_aload_n rfl 0 rfl ?_
        refine K_gI rfl (sg_s0 hS) hM rfl rfl 0 rfl ?_
        refine K_iload_n rfl 1 rfl ?_
        obtain ⟨M3, eM3, h⟩ := Option.bind_eq_some_iff.mp h
        refine K_wr rfl (sg_s1 hS) hM eM3 (fun hM3 => ?_)
        refine K_aload_n rfl 0 rfl ?_
        refine K_gR rfl (sg_s0 hS) hM3 rfl rfl 2 rfl (sg_r2 hS) ?_
        refine K_aload_n rfl 0 rfl ?_
        refine K_gI rfl (sg_s0 hS) hM3 rfl rfl 0 rfl ?_
        refine K_iload_n rfl 2 rfl ?_
        obtain ⟨M4, eM4, h⟩ := Option.bind_eq_some_iff.mp h
        refine K_wr rfl (sg_s2 hS) hM3 eM4 (fun hM4 => ?_)
        refine K_aload_n rfl 0 rfl ?_
        refine K_gR rfl (sg_s0 hS) hM4 rfl rfl 3 rfl (sg_r3 hS) ?_
        refine K_aload_n rfl 0 rfl ?_
        refine K_gI rfl (sg_s0 hS) hM4 rfl rfl 0 rfl ?_
        refine K_iload_n rfl 3 rfl ?_
        obtain ⟨M5, eM5, h⟩ := Option.bind_eq_some_iff.mp h
        refine K_wr rfl (sg_s3 hS) hM4 eM5 (fun hM5 => ?_)
        refine K_aload_n rfl 0 rfl ?_
        refine K_dup rfl rfl ?_
        refine K_gI rfl (sg_s0 hS) hM5 rfl rfl 0 rfl ?_
        refine K_iconst (v := 1) rfl (by decide) ?_
        refine K_iadd rfl ?_
        obtain ⟨M6, eM6, h⟩ := Option.bind_eq_some_iff.mp h
        refine K_pI rfl (sg_s0 hS) hM5 rfl rfl 0 rfl eM6 (fun hM6 => ?_)
        obtain rfl := Option.some.inj h
        exact K_vret rfl rfl ⟨rfl, rfl, hM6⟩
set_option maxRecDepth 20000 in
theorem F_GraveRails_sight {X : mX} {x1 : Int32} {x2 : Int32} {x3 : Int32} {M : mM} {r : Int32 × mM} (hM : Fx M)  (h : f_GraveRails_sight x1 x2 x3 M = some r) : EV X (1 + 1) 112 [.ref 0, .int x1, .int x2, .int x3] M (fun v M' => v = some (.int r.1) ∧ r.2 = M' ∧ Fx r.2) := by
    refine EV_of (lc := [(0, .ref 0), (1, .int x1), (2, .int x2), (3, .int x3)]) (Nat.le_of_ble_eq_true rfl) (by exact Nat.le_of_ble_eq_true rfl) (by exact List.forall_mem_cons.mpr ⟨rfl, List.forall_mem_cons.mpr ⟨rfl, List.forall_mem_cons.mpr ⟨rfl, List.forall_mem_cons.mpr ⟨rfl, fun _ h => absurd h List.not_mem_nil⟩⟩⟩⟩) ?_
    unfold f_GraveRails_sight at h
    refine K_aload_n rfl 0 rfl ?_
    refine K_gR rfl sh_0 hM rfl rfl 5 rfl r_0_5 ?_
    refine K_gR rfl sh_20 hM rfl rfl 2 rfl r_20_2 ?_
    refine K_astore rfl ?_
    refine K_iload_n rfl 2 rfl ?_
    refine K_iconst (v := (-1)) rfl (by decide) ?_
    refine K_ic_ne rfl (fun c1 => ?_) (fun c1 => ?_)
    · rw [if_neg c1] at h
      refine K_aload_n rfl 1 rfl ?_
      refine K_gR rfl sh_0 hM rfl rfl 5 rfl r_0_5 ?_
      refine K_gR rfl sh_20 hM rfl rfl 0 rfl r_20_0 ?_
      refine K_astore rfl ?_
      refine K_iload_n rfl 3 rfl ?_
      refine K_if_lt rfl (fun c2 => ?_) (fun c2 => ?_)
      · rw [if_pos c2] at h
        refine K_bipush (v := (-2)) rfl (by decide) ?_
        obtain rfl := Option.some.inj h
        exact K_iret rfl (Or.inl rfl) ⟨rfl, rfl, hM⟩
      · rw [if_neg c2] at h
        refine K_iload_n rfl 3 rfl ?_
        refine K_aload rfl 0 rfl ?_
        refine K_gI rfl sh_21 hM rfl rfl 2 rfl ?_
        refine K_ic_ge rfl (fun c3 => ?_) (fun c3 => ?_)
        · rw [if_pos c3] at h
          refine K_bipush (v := (-2)) rfl (by decide) ?_
          obtain rfl := Option.some.inj h
          exact K_iret rfl (Or.inl rfl) ⟨rfl, rfl, hM⟩
        · rw [if_neg c3] at h
          refine K_iload_n rfl 4 rfl ?_
          refine K_if_lt rfl (fun c4 => ?_) (fun c4 => ?_)
          · rw [if_pos c4] at h
            refine K_bipush (v := (-2)) rfl (by decide) ?_
            obtain rfl := Option.some.inj h
            exact K_iret rfl (Or.inl rfl) ⟨rfl, rfl, hM⟩
          · rw [if_neg c4] at h
            refine K_iload_n rfl 4 rfl ?_
            refine K_aload rfl 0 rfl ?_
            refine K_gI rfl sh_21 hM rfl rfl 1 rfl ?_
            refine K_ic_ge rfl (fun c5 => ?_) (fun c5 => ?_)
            · rw [if_pos c5] at h
              refine K_bipush (v := (-2)) rfl (by decide) ?_
              obtain rfl := Option.some.inj h
              exact K_iret rfl (Or.inl rfl) ⟨rfl, rfl, hM⟩
            · rw [if_neg c5] at h
              refine K_iload_n rfl 5 rfl ?_
              refine K_if_lt rfl (fun c6 => ?_) (fun c6 => ?_)
              · rw [if_pos c6] at h
                refine K_bipush (v := (-2)) rfl (by decide) ?_
                obtain rfl := Option.some.inj h
                exact K_iret rfl (Or.inl rfl) ⟨rfl, rfl, hM⟩
              · rw [if_neg c6] at h
                refine K_iload_n rfl 5 rfl ?_
                refine K_bipush (v := 99) rfl (by decide) ?_
                refine K_ic_gt rfl (fun c7 => ?_) (fun c7 => ?_)
                · rw [if_pos c7] at h
                  refine K_bipush (v := (-2)) rfl (by decide) ?_
                  obtain rfl := Option.some.inj h
                  exact K_iret rfl (Or.inl rfl) ⟨rfl, rfl, hM⟩
                · rw [if_neg c7] at h
                  refine K_aload rfl 1 rfl ?_
                  refine K_gI rfl sh_39 hM rfl rfl 0 rfl ?_
                  refine K_bipush (v := 10) rfl (by decide) ?_
                  refine K_ic_lt rfl (fun c8 => ?_) (fun c8 => ?_)
                  · rw [if_pos c8] at h
                    refine K_aload rfl 1 rfl ?_
                    refine K_iload_n rfl 3 rfl ?_
                    refine K_iload_n rfl 4 rfl ?_
                    refine K_iload_n rfl 5 rfl ?_
                    obtain ⟨M9, eM9, h⟩ := Option.bind_eq_some_iff.mp h
                    refine K_cV [.int x1, .int x2, .int x3] [] rfl rfl (Nat.le_of_ble_eq_true rfl) (Nat.le_of_ble_eq_true rfl) sh_39 hM rfl (EV_le (Nat.le_of_ble_eq_true rfl) (F_Sights_add hM sg_39 eM9)) (fun v' M' hq => ?_)
                    obtain ⟨rfl, rfl, hM9⟩ := hq
                    refine K_aload_n rfl 2 rfl ?_
                    refine K_gR rfl sh_0 hM9 rfl rfl 9 rfl r_0_9 ?_
                    refine K_iconst (v := 0) rfl (by decide) ?_
                    obtain ⟨M10, eM10, h⟩ := Option.bind_eq_some_iff.mp h
                    refine K_pZ rfl sh_269 hM9 rfl rfl 0 rfl eM10 (fun hM10 => ?_)
                    refine K_aload rfl 1 rfl ?_
                    refine K_gI rfl sh_39 hM10 rfl rfl 0 rfl ?_
                    obtain rfl := Option.some.inj h
                    exact K_iret rfl (Or.inl rfl) ⟨rfl, rfl, hM10⟩
                  · rw [if_neg c8] at h
                    refine K_bipush (v := (-2)) rfl (by decide) ?_
                    obtain rfl := Option.some.inj h
                    exact K_iret rfl (Or.inl rfl) ⟨rfl, rfl, hM⟩
    · rw [if_pos c1] at h
      refine K_aload rfl 0 rfl ?_
      refine K_iconst (v := 0) rfl (by decide) ?_
      obtain ⟨M11, eM11, h⟩ := Option.bind_eq_some_iff.mp h
      refine K_pI rfl sh_39 hM rfl rfl 0 rfl eM11 (fun hM11 => ?_)
      refine K_aload_n rfl 1 rfl ?_
      refine K_gR rfl sh_0 hM11 rfl rfl 9 rfl r_0_9 ?_
      refine K_iconst (v := 0) rfl (by decide) ?_
      obtain ⟨M12, eM12, h⟩ := Option.bind_eq_some_iff.mp h
      refine K_pZ rfl sh_269 hM11 rfl rfl 0 rfl eM12 (fun hM12 => ?_)
      refine K_iconst (v := 0) rfl (by decide) ?_
      obtain rfl := Option.some.inj h
      exact K_iret rfl (Or.inl rfl) ⟨rfl, rfl, hM12⟩
set_option maxRecDepth 20000 in
theorem L_Sets_takeOpen_61 {X : mX}  {k7 : Int32 → mM → Option (mM)} {r : mM}  (hk7 : ∀ (l1 : Int32) (M : mM), Fx M → k7 l1 M = some r → KK X 0 116 7 [(0, .ref 269), (1, .int l1)] [] M (fun v M' => v = none ∧ r = M' ∧ Fx r)) (l1 : Int32) (s1 : Int32) (s2 : Int32) (M : mM) (hM : Fx M)  (h : f_Sets_takeOpen_61  k7 l1 s1 s2 M = some r) : KK X 0 116 61 [(0, .ref 269), (1, .int l1)] [.int s2, .int s1, .ref 269] M (fun v M' => v = none ∧ r = M' ∧ Fx r) := by
    unfold f_Sets_takeOpen_61 at h
    refine K_ior rfl ?_
    obtain ⟨M8, eM8, h⟩ := Option.bind_eq_some_iff.mp h
    refine K_pI rfl sh_269 hM rfl rfl 6 rfl eM8 (fun hM8 => ?_)
    refine K_iinc (y := (l1 + 1)) rfl 1 rfl rfl ?_
    refine K_goto rfl ?_
    refine K_pick [1, 0] ?_
    exact hk7 _ _ hM8  h
set_option maxRecDepth 20000 in
theorem L_Sets_takeOpen_54 {X : mX}  {k7 : Int32 → mM → Option (mM)} {r : mM}  (hk7 : ∀ (l1 : Int32) (M : mM), Fx M → k7 l1 M = some r → KK X 0 116 7 [(0, .ref 269), (1, .int l1)] [] M (fun v M' => v = none ∧ r = M' ∧ Fx r)) (l1 : Int32) (s1 : Int32) (M : mM) (hM : Fx M)  (h : f_Sets_takeOpen_54  k7 l1 s1 M = some r) : KK X 0 116 54 [(0, .ref 269), (1, .int l1)] [.int s1, .ref 269] M (fun v M' => v = none ∧ r = M' ∧ Fx r) := by
    unfold f_Sets_takeOpen_54 at h
    refine K_iconst (v := 1) rfl (by decide) ?_
    refine K_iload_n rfl 1 rfl ?_
    refine K_ishl rfl ?_
    refine K_goto rfl ?_
    refine K_pick [0, 1] ?_
    exact L_Sets_takeOpen_61   hk7 _ _ _ _ hM  h
set_option maxRecDepth 20000 in
theorem L_Sets_takeOpen_7 {X : mX}  {r : mM}  : ∀ (n : Nat) (l1 : Int32) (M : mM), Fx M → f_Sets_takeOpen_7   n l1 M = some r → KK X 0 116 7 [(0, .ref 269), (1, .int l1)] [] M (fun v M' => v = none ∧ r = M' ∧ Fx r)
  | 0, _, _ => fun _ h => by cases h
  | n + 1, l1, M => fun hM h => by
    unfold f_Sets_takeOpen_7 at h
    refine K_iload_n rfl 1 rfl ?_
    refine K_aload_n rfl 0 rfl ?_
    obtain ⟨y2, ey2, h⟩ := Option.bind_eq_some_iff.mp h
    refine K_gN rfl sh_269 hM rfl rfl 8 rfl ey2 ?_
    refine K_gI rfl (yd_s0 (nnl_i ey2).2) hM rfl rfl 2 rfl ?_
    refine K_ic_ge rfl (fun c3 => ?_) (fun c3 => ?_)
    · rw [if_pos c3] at h
      obtain rfl := Option.some.inj h
      exact K_vret rfl rfl ⟨rfl, rfl, hM⟩
    · rw [if_neg c3] at h
      refine K_iload_n rfl 1 rfl ?_
      refine K_bipush (v := 11) rfl (by decide) ?_
      refine K_ic_ge rfl (fun c4 => ?_) (fun c4 => ?_)
      · rw [if_pos c4] at h
        obtain rfl := Option.some.inj h
        exact K_vret rfl rfl ⟨rfl, rfl, hM⟩
      · rw [if_neg c4] at h
        refine K_aload_n rfl 0 rfl ?_
        refine K_dup rfl rfl ?_
        refine K_gI rfl sh_269 hM rfl rfl 6 rfl ?_
        refine K_aload_n rfl 0 rfl ?_
        obtain ⟨y5, ey5, h⟩ := Option.bind_eq_some_iff.mp h
        refine K_gN rfl sh_269 hM rfl rfl 8 rfl ey5 ?_
        refine K_gR rfl (yd_s0 (nnl_i ey5).2) hM rfl rfl 5 rfl (yd_r5 (nnl_i ey5).2) ?_
        refine K_iload_n rfl 1 rfl ?_
        obtain ⟨v6, ev6, h⟩ := Option.bind_eq_some_iff.mp h
        refine K_rd rfl (yd_s3 (nnl_i ey5).2) hM ev6 ?_
        refine K_if_eq rfl (fun c7 => ?_) (fun c7 => ?_)
        · rw [if_pos c7] at h
          refine K_pick [0, 1] ?_
          exact L_Sets_takeOpen_54   (L_Sets_takeOpen_7    n) _ _ _ hM  h
        · rw [if_neg c7] at h
          refine K_aload_n rfl 0 rfl ?_
          obtain ⟨y9, ey9, h⟩ := Option.bind_eq_some_iff.mp h
          refine K_gN rfl sh_269 hM rfl rfl 8 rfl ey9 ?_
          refine K_gR rfl (yd_s0 (nnl_i ey9).2) hM rfl rfl 5 rfl (yd_r5 (nnl_i ey9).2) ?_
          refine K_iload_n rfl 1 rfl ?_
          obtain ⟨v10, ev10, h⟩ := Option.bind_eq_some_iff.mp h
          refine K_rd rfl (yd_s3 (nnl_i ey9).2) hM ev10 ?_
          refine K_iconst (v := 2) rfl (by decide) ?_
          refine K_ic_ne rfl (fun c11 => ?_) (fun c11 => ?_)
          · rw [if_neg c11] at h
            refine K_iconst (v := 0) rfl (by decide) ?_
            refine K_pick [0, 1] ?_
            exact L_Sets_takeOpen_61   (L_Sets_takeOpen_7    n) _ _ _ _ hM  h
          · rw [if_pos c11] at h
            refine K_pick [0, 1] ?_
            exact L_Sets_takeOpen_54   (L_Sets_takeOpen_7    n) _ _ _ hM  h
set_option maxRecDepth 20000 in
theorem F_Sets_takeOpen {X : mX}  {M : mM} {r : mM} (hM : Fx M)  (h : f_Sets_takeOpen  M = some r) : EV X (0 + 1) 116 [.ref 269] M (fun v M' => v = none ∧ r = M' ∧ Fx r) := by
    refine EV_of (lc := [(0, .ref 269)]) (Nat.le_of_ble_eq_true rfl) (by exact Nat.le_of_ble_eq_true rfl) (by exact List.forall_mem_cons.mpr ⟨rfl, fun _ h => absurd h List.not_mem_nil⟩) ?_
    unfold f_Sets_takeOpen at h
    refine K_aload_n rfl 0 rfl ?_
    refine K_iconst (v := 0) rfl (by decide) ?_
    obtain ⟨M1, eM1, h⟩ := Option.bind_eq_some_iff.mp h
    refine K_pI rfl sh_269 hM rfl rfl 6 rfl eM1 (fun hM1 => ?_)
    refine K_iconst (v := 0) rfl (by decide) ?_
    refine K_istore_n rfl ?_
    refine K_pick [1, 0] ?_
    exact L_Sets_takeOpen_7    FUEL _ _ hM1  h
set_option maxRecDepth 20000 in
theorem L_Sets_startWith_69 {X : mX} {x1 : Int32} {r : mM}   (M : mM) (hM : Fx M)  (h : f_Sets_startWith_69 x1   M = some r) : KK X 2 118 69 [(0, .ref 269), (2, .ref 246)] [] M (fun v M' => v = none ∧ r = M' ∧ Fx r) := by
    unfold f_Sets_startWith_69 at h
    refine K_aload_n rfl 1 rfl ?_
    refine K_aload_n rfl 0 rfl ?_
    obtain ⟨y4, ey4, h⟩ := Option.bind_eq_some_iff.mp h
    refine K_gN rfl sh_269 hM rfl rfl 8 rfl ey4 ?_
    refine K_aload_n rfl 0 rfl ?_
    refine K_gR rfl sh_269 hM rfl rfl 10 rfl r_269_10 ?_
    refine K_aload_n rfl 0 rfl ?_
    refine K_gQ rfl sh_269 hM rfl rfl 9 rfl ?_
    obtain ⟨M5, eM5, h⟩ := Option.bind_eq_some_iff.mp h
    refine K_cV [.ref y4, .ref 280, va_rf (M.2.2.2 269 9)] [] rfl rfl (Nat.le_of_ble_eq_true rfl) (Nat.le_of_ble_eq_true rfl) sh_246 hM rfl (EV_le (Nat.le_of_ble_eq_true rfl) (F_Course_start hM (nnl_i ey4).2 st_280 eM5)) (fun v' M' hq => ?_)
    obtain ⟨rfl, rfl, hM5⟩ := hq
    obtain rfl := Option.some.inj h
    exact K_vret rfl rfl ⟨rfl, rfl, hM5⟩
set_option maxRecDepth 20000 in
theorem L_Sets_startWith_63 {X : mX} {x1 : Int32} {k13 : Int32 → mM → Option (mM)} {r : mM}  (hk13 : ∀ (l3 : Int32) (M : mM), Fx M → k13 l3 M = some r → KK X 2 118 13 [(0, .ref 269), (1, .int x1), (2, .ref 246), (3, .int l3)] [] M (fun v M' => v = none ∧ r = M' ∧ Fx r)) (l3 : Int32) (M : mM) (hM : Fx M)  (h : f_Sets_startWith_63 x1 k13 l3 M = some r) : KK X 2 118 63 [(0, .ref 269), (1, .int x1), (2, .ref 246), (3, .int l3)] [] M (fun v M' => v = none ∧ r = M' ∧ Fx r) := by
    unfold f_Sets_startWith_63 at h
    refine K_iinc (y := (l3 + 1)) rfl 3 rfl rfl ?_
    refine K_goto rfl ?_
    refine K_pick [1, 2, 3, 0] ?_
    exact hk13 _ _ hM  h
set_option maxRecDepth 20000 in
theorem L_Sets_startWith_62 {X : mX} {x1 : Int32} {k13 : Int32 → mM → Option (mM)} {r : mM}  (hk13 : ∀ (l3 : Int32) (M : mM), Fx M → k13 l3 M = some r → KK X 2 118 13 [(0, .ref 269), (1, .int x1), (2, .ref 246), (3, .int l3)] [] M (fun v M' => v = none ∧ r = M' ∧ Fx r)) (l3 : Int32) (s1 : Int32) (s2 : Int32) (M : mM) (hM : Fx M)  (h : f_Sets_startWith_62 x1 k13 l3 s1 s2 M = some r) : KK X 2 118 62 [(0, .ref 269), (1, .int x1), (2, .ref 246), (3, .int l3)] [.int s2, .int s1, .ref 283] M (fun v M' => v = none ∧ r = M' ∧ Fx r) := by
    unfold f_Sets_startWith_62 at h
    obtain ⟨M9, eM9, h⟩ := Option.bind_eq_some_iff.mp h
    refine K_wr rfl sh_283 hM eM9 (fun hM9 => ?_)
    refine K_pick [0, 1, 2, 3] ?_
    exact L_Sets_startWith_63   hk13 _ _ hM9  h
set_option maxRecDepth 20000 in
theorem L_Sets_startWith_13 {X : mX} {x1 : Int32} {r : mM}  : ∀ (n : Nat) (l3 : Int32) (M : mM), Fx M → f_Sets_startWith_13 x1  n l3 M = some r → KK X 2 118 13 [(0, .ref 269), (1, .int x1), (2, .ref 246), (3, .int l3)] [] M (fun v M' => v = none ∧ r = M' ∧ Fx r)
  | 0, _, _ => fun _ h => by cases h
  | n + 1, l3, M => fun hM h => by
    unfold f_Sets_startWith_13 at h
    refine K_iload_n rfl 3 rfl ?_
    refine K_aload_n rfl 0 rfl ?_
    refine K_gR rfl sh_269 hM rfl rfl 10 rfl r_269_10 ?_
    refine K_gI rfl sh_280 hM rfl rfl 1 rfl ?_
    refine K_ic_ge rfl (fun c3 => ?_) (fun c3 => ?_)
    · rw [if_pos c3] at h
      refine K_pick [0, 2] ?_
      exact L_Sets_startWith_69     _ hM  h
    · rw [if_neg c3] at h
      refine K_iload_n rfl 3 rfl ?_
      refine K_bipush (v := 11) rfl (by decide) ?_
      refine K_ic_ge rfl (fun c6 => ?_) (fun c6 => ?_)
      · rw [if_pos c6] at h
        refine K_pick [0, 2] ?_
        exact L_Sets_startWith_69     _ hM  h
      · rw [if_neg c6] at h
        refine K_aload_n rfl 0 rfl ?_
        refine K_gI rfl sh_269 hM rfl rfl 6 rfl ?_
        refine K_iload_n rfl 3 rfl ?_
        refine K_ishr rfl ?_
        refine K_iconst (v := 1) rfl (by decide) ?_
        refine K_iand rfl ?_
        refine K_if_eq rfl (fun c7 => ?_) (fun c7 => ?_)
        · rw [if_pos c7] at h
          refine K_pick [0, 1, 2, 3] ?_
          exact L_Sets_startWith_63   (L_Sets_startWith_13    n) _ _ hM  h
        · rw [if_neg c7] at h
          refine K_aload_n rfl 0 rfl ?_
          refine K_gR rfl sh_269 hM rfl rfl 10 rfl r_269_10 ?_
          refine K_gR rfl sh_280 hM rfl rfl 5 rfl r_280_5 ?_
          refine K_iload_n rfl 3 rfl ?_
          refine K_iload_n rfl 1 rfl ?_
          refine K_iload_n rfl 3 rfl ?_
          refine K_ishr rfl ?_
          refine K_iconst (v := 1) rfl (by decide) ?_
          refine K_iand rfl ?_
          refine K_if_eq rfl (fun c8 => ?_) (fun c8 => ?_)
          · rw [if_pos c8] at h
            refine K_iconst (v := 0) rfl (by decide) ?_
            refine K_pick [0, 1, 2, 3] ?_
            exact L_Sets_startWith_62   (L_Sets_startWith_13    n) _ _ _ _ hM  h
          · rw [if_neg c8] at h
            refine K_iconst (v := 2) rfl (by decide) ?_
            refine K_goto rfl ?_
            refine K_pick [0, 1, 2, 3] ?_
            exact L_Sets_startWith_62   (L_Sets_startWith_13    n) _ _ _ _ hM  h
set_option maxRecDepth 20000 in
theorem F_Sets_startWith {X : mX} {x1 : Int32} {M : mM} {r : mM} (hM : Fx M)  (h : f_Sets_startWith x1 M = some r) : EV X (2 + 1) 118 [.ref 269, .int x1, .ref 246] M (fun v M' => v = none ∧ r = M' ∧ Fx r) := by
    refine EV_of (lc := [(0, .ref 269), (1, .int x1), (2, .ref 246)]) (Nat.le_of_ble_eq_true rfl) (by exact Nat.le_of_ble_eq_true rfl) (by exact List.forall_mem_cons.mpr ⟨rfl, List.forall_mem_cons.mpr ⟨rfl, List.forall_mem_cons.mpr ⟨rfl, fun _ h => absurd h List.not_mem_nil⟩⟩⟩) ?_
    unfold f_Sets_startWith at h
    refine K_aload_n rfl 0 rfl ?_
    refine K_gR rfl sh_269 hM rfl rfl 10 rfl r_269_10 ?_
    refine K_aload_n rfl 0 rfl ?_
    obtain ⟨y1, ey1, h⟩ := Option.bind_eq_some_iff.mp h
    refine K_gN rfl sh_269 hM rfl rfl 8 rfl ey1 ?_
    obtain ⟨M2, eM2, h⟩ := Option.bind_eq_some_iff.mp h
    refine K_cV [.ref y1] [] rfl rfl (Nat.le_of_ble_eq_true rfl) (Nat.le_of_ble_eq_true rfl) sh_280 hM rfl (EV_le (Nat.le_of_ble_eq_true rfl) (F_State_startOf hM st_280 (nnl_i ey1).2 eM2)) (fun v' M' hq => ?_)
    obtain ⟨rfl, rfl, hM2⟩ := hq
    refine K_iconst (v := 0) rfl (by decide) ?_
    refine K_istore_n rfl ?_
    refine K_pick [1, 2, 3, 0] ?_
    exact L_Sets_startWith_13    FUEL _ _ hM2  h
