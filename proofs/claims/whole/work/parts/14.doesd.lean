/-! ===== the small machine does what the printed functions say ===== -/
set_option maxRecDepth 20000 in
theorem L_Sights_last_4 {X : mX} {S : Nat} {r : Int32 × mM} (hS : is_sg S) : ∀ (n : Nat) (l1 : Int32) (l2 : Int32) (M : mM), Fx M → f_Sights_last_4 S  n l1 l2 M = some r → KK X 0 119 4 [(0, .ref S), (1, .int l1), (2, .int l2)] [] M (fun v M' => v = some (.int r.1) ∧ r.2 = M' ∧ Fx r.2)
  | 0, _, _, _ => fun _ h => by cases h
  | n + 1, l1, l2, M => fun hM h => by
    unfold f_Sights_last_4 at h
    refine K_iload_n rfl 2 rfl ?_
    refine K_aload_n rfl 0 rfl ?_
    refine K_gI rfl (sg_s0 hS) hM rfl rfl 0 rfl ?_
    refine K_ic_ge rfl (fun c1 => ?_) (fun c1 => ?_)
    · rw [if_pos c1] at h
      refine K_iload_n rfl 1 rfl ?_
      obtain rfl := Option.some.inj h
      exact K_iret rfl (Or.inl rfl) ⟨rfl, rfl, hM⟩
    · rw [if_neg c1] at h
      refine K_iload_n rfl 2 rfl ?_
      refine K_bipush (v := 10) rfl (by decide) ?_
      refine K_ic_ge rfl (fun c2 => ?_) (fun c2 => ?_)
      · rw [if_pos c2] at h
        refine K_iload_n rfl 1 rfl ?_
        obtain rfl := Option.some.inj h
        exact K_iret rfl (Or.inl rfl) ⟨rfl, rfl, hM⟩
      · rw [if_neg c2] at h
        refine K_iload_n rfl 1 rfl ?_
        refine K_aload_n rfl 0 rfl ?_
        refine K_gR rfl (sg_s0 hS) hM rfl rfl 3 rfl (sg_r3 hS) ?_
        refine K_iload_n rfl 2 rfl ?_
        obtain ⟨v3, ev3, h⟩ := Option.bind_eq_some_iff.mp h
        refine K_rd rfl (sg_s3 hS) hM ev3 ?_
        refine K_max rfl (Nat.le_of_ble_eq_true rfl) ?_
        refine K_istore_n rfl ?_
        refine K_iinc (y := (l2 + 1)) rfl 2 rfl rfl ?_
        refine K_goto rfl ?_
        refine K_pick [2, 1, 0] ?_
        exact L_Sights_last_4 hS   n _ _ _ hM  h
set_option maxRecDepth 20000 in
theorem F_Sights_last {X : mX} {S : Nat} {M : mM} {r : Int32 × mM} (hM : Fx M) (hS : is_sg S) (h : f_Sights_last S M = some r) : EV X (0 + 1) 119 [.ref S] M (fun v M' => v = some (.int r.1) ∧ r.2 = M' ∧ Fx r.2) := by
    refine EV_of (lc := [(0, .ref S)]) (Nat.le_of_ble_eq_true rfl) (by exact Nat.le_of_ble_eq_true rfl) (by exact List.forall_mem_cons.mpr ⟨rfl, fun _ h => absurd h List.not_mem_nil⟩) ?_
    unfold f_Sights_last at h
    refine K_iconst (v := (-1)) rfl (by decide) ?_
    refine K_istore_n rfl ?_
    refine K_iconst (v := 0) rfl (by decide) ?_
    refine K_istore_n rfl ?_
    refine K_pick [2, 1, 0] ?_
    exact L_Sights_last_4 hS   FUEL _ _ _ hM  h
set_option maxRecDepth 20000 in
theorem L_Sights_agree_64 {X : mX} {S : Nat} {x1 : Nat} {k2 : Int32 → mM → Option (Int32 × mM)} {r : Int32 × mM} (hS : is_sg S) (hx1 : is_st x1) (hk2 : ∀ (l2 : Int32) (M : mM), Fx M → k2 l2 M = some r → KK X 1 120 2 [(0, .ref S), (1, .ref x1), (2, .int l2)] [] M (fun v M' => v = some (.int r.1) ∧ r.2 = M' ∧ Fx r.2)) (l2 : Int32) (M : mM) (hM : Fx M)  (h : f_Sights_agree_64 S x1 k2 l2 M = some r) : KK X 1 120 64 [(0, .ref S), (1, .ref x1), (2, .int l2)] [] M (fun v M' => v = some (.int r.1) ∧ r.2 = M' ∧ Fx r.2) := by
    unfold f_Sights_agree_64 at h
    refine K_iinc (y := (l2 + 1)) rfl 2 rfl rfl ?_
    refine K_goto rfl ?_
    refine K_pick [1, 2, 0] ?_
    exact hk2 _ _ hM  h
set_option maxRecDepth 20000 in
theorem L_Sights_agree_2 {X : mX} {S : Nat} {x1 : Nat} {r : Int32 × mM} (hS : is_sg S) (hx1 : is_st x1) : ∀ (n : Nat) (l2 : Int32) (M : mM), Fx M → f_Sights_agree_2 S x1  n l2 M = some r → KK X 1 120 2 [(0, .ref S), (1, .ref x1), (2, .int l2)] [] M (fun v M' => v = some (.int r.1) ∧ r.2 = M' ∧ Fx r.2)
  | 0, _, _ => fun _ h => by cases h
  | n + 1, l2, M => fun hM h => by
    unfold f_Sights_agree_2 at h
    refine K_iload_n rfl 2 rfl ?_
    refine K_aload_n rfl 0 rfl ?_
    refine K_gI rfl (sg_s0 hS) hM rfl rfl 0 rfl ?_
    refine K_ic_ge rfl (fun c1 => ?_) (fun c1 => ?_)
    · rw [if_pos c1] at h
      refine K_iconst (v := 1) rfl (by decide) ?_
      obtain rfl := Option.some.inj h
      exact K_iret rfl (Or.inr ⟨rfl, by decide⟩) ⟨rfl, rfl, hM⟩
    · rw [if_neg c1] at h
      refine K_iload_n rfl 2 rfl ?_
      refine K_bipush (v := 10) rfl (by decide) ?_
      refine K_ic_ge rfl (fun c2 => ?_) (fun c2 => ?_)
      · rw [if_pos c2] at h
        refine K_iconst (v := 1) rfl (by decide) ?_
        obtain rfl := Option.some.inj h
        exact K_iret rfl (Or.inr ⟨rfl, by decide⟩) ⟨rfl, rfl, hM⟩
      · rw [if_neg c2] at h
        refine K_aload_n rfl 0 rfl ?_
        refine K_gR rfl (sg_s0 hS) hM rfl rfl 3 rfl (sg_r3 hS) ?_
        refine K_iload_n rfl 2 rfl ?_
        obtain ⟨v3, ev3, h⟩ := Option.bind_eq_some_iff.mp h
        refine K_rd rfl (sg_s3 hS) hM ev3 ?_
        refine K_aload_n rfl 1 rfl ?_
        refine K_gI rfl (st_s0 hx1) hM rfl rfl 0 rfl ?_
        refine K_ic_ne rfl (fun c4 => ?_) (fun c4 => ?_)
        · rw [if_neg c4] at h
          refine K_pick [0, 1, 2] ?_
          exact L_Sights_agree_64 hS hx1  (L_Sights_agree_2 hS hx1   n) _ _ hM  h
        · rw [if_pos c4] at h
          refine K_aload_n rfl 1 rfl ?_
          refine K_aload_n rfl 0 rfl ?_
          refine K_gR rfl (sg_s0 hS) hM rfl rfl 1 rfl (sg_r1 hS) ?_
          refine K_iload_n rfl 2 rfl ?_
          obtain ⟨v5, ev5, h⟩ := Option.bind_eq_some_iff.mp h
          refine K_rd rfl (sg_s1 hS) hM ev5 ?_
          obtain ⟨r6, er6, h⟩ := Option.bind_eq_some_iff.mp h
          refine K_cV [.int v5] [] rfl rfl (Nat.le_of_ble_eq_true rfl) (Nat.le_of_ble_eq_true rfl) (st_s0 hx1) hM rfl (EV_le (Nat.le_of_ble_eq_true rfl) (F_State_lies hM hx1 er6)) (fun v' M' hq => ?_)
          obtain ⟨rfl, rfl, hr6⟩ := hq
          refine K_if_eq rfl (fun c7 => ?_) (fun c7 => ?_)
          · rw [if_pos c7] at h
            refine K_iconst (v := 0) rfl (by decide) ?_
            obtain rfl := Option.some.inj h
            exact K_iret rfl (Or.inr ⟨rfl, by decide⟩) ⟨rfl, rfl, hr6⟩
          · rw [if_neg c7] at h
            refine K_aload_n rfl 1 rfl ?_
            refine K_gR rfl (st_s0 hx1) hr6 rfl rfl 4 rfl (st_r4 hx1) ?_
            refine K_aload_n rfl 0 rfl ?_
            refine K_gR rfl (sg_s0 hS) hr6 rfl rfl 1 rfl (sg_r1 hS) ?_
            refine K_iload_n rfl 2 rfl ?_
            obtain ⟨v8, ev8, h⟩ := Option.bind_eq_some_iff.mp h
            refine K_rd rfl (sg_s1 hS) hr6 ev8 ?_
            obtain ⟨v9, ev9, h⟩ := Option.bind_eq_some_iff.mp h
            refine K_rd rfl (st_s2 hx1) hr6 ev9 ?_
            refine K_aload_n rfl 0 rfl ?_
            refine K_gR rfl (sg_s0 hS) hr6 rfl rfl 2 rfl (sg_r2 hS) ?_
            refine K_iload_n rfl 2 rfl ?_
            obtain ⟨v10, ev10, h⟩ := Option.bind_eq_some_iff.mp h
            refine K_rd rfl (sg_s2 hS) hr6 ev10 ?_
            refine K_ic_eq rfl (fun c11 => ?_) (fun c11 => ?_)
            · rw [if_pos c11] at h
              refine K_pick [0, 1, 2] ?_
              exact L_Sights_agree_64 hS hx1  (L_Sights_agree_2 hS hx1   n) _ _ hr6  h
            · rw [if_neg c11] at h
              refine K_iconst (v := 0) rfl (by decide) ?_
              obtain rfl := Option.some.inj h
              exact K_iret rfl (Or.inr ⟨rfl, by decide⟩) ⟨rfl, rfl, hr6⟩
set_option maxRecDepth 20000 in
theorem F_Sights_agree {X : mX} {S : Nat} {x1 : Nat} {M : mM} {r : Int32 × mM} (hM : Fx M) (hS : is_sg S) (hx1 : is_st x1) (h : f_Sights_agree S x1 M = some r) : EV X (1 + 1) 120 [.ref S, .ref x1] M (fun v M' => v = some (.int r.1) ∧ r.2 = M' ∧ Fx r.2) := by
    refine EV_of (lc := [(0, .ref S), (1, .ref x1)]) (Nat.le_of_ble_eq_true rfl) (by exact Nat.le_of_ble_eq_true rfl) (by exact List.forall_mem_cons.mpr ⟨rfl, List.forall_mem_cons.mpr ⟨rfl, fun _ h => absurd h List.not_mem_nil⟩⟩) ?_
    unfold f_Sights_agree at h
    refine K_iconst (v := 0) rfl (by decide) ?_
    refine K_istore_n rfl ?_
    refine K_pick [1, 2, 0] ?_
    exact L_Sights_agree_2 hS hx1   FUEL _ _ hM  h
set_option maxRecDepth 20000 in
theorem L_Sets_isSeen_56 {X : mX} {x1 : Int32} {x2 : Nat} {k18 : Int32 → Int32 → Int32 → mM → Option (Int32 × mM)} {r : Int32 × mM} (hx2 : is_sg x2) (hk18 : ∀ (l4 : Int32) (l5 : Int32) (l6 : Int32) (M : mM), Fx M → k18 l4 l5 l6 M = some r → KK X 5 117 18 [(2, .ref x2), (3, .ref 246), (4, .int l4), (5, .int l5), (6, .int l6)] [] M (fun v M' => v = some (.int r.1) ∧ r.2 = M' ∧ Fx r.2)) (l4 : Int32) (l5 : Int32) (l6 : Int32) (M : mM) (hM : Fx M)  (h : f_Sets_isSeen_56 x1 x2 k18 l4 l5 l6 M = some r) : KK X 5 117 56 [(2, .ref x2), (3, .ref 246), (4, .int l4), (5, .int l5), (6, .int l6)] [] M (fun v M' => v = some (.int r.1) ∧ r.2 = M' ∧ Fx r.2) := by
    unfold f_Sets_isSeen_56 at h
    refine K_iinc (y := (l6 + 1)) rfl 4 rfl rfl ?_
    refine K_goto rfl ?_
    refine K_pick [1, 2, 3, 4, 0] ?_
    exact hk18 _ _ _ _ hM  h
set_option maxRecDepth 20000 in
theorem L_Sets_isSeen_18 {X : mX} {x1 : Int32} {x2 : Nat} {r : Int32 × mM} (hx2 : is_sg x2) : ∀ (n : Nat) (l4 : Int32) (l5 : Int32) (l6 : Int32) (M : mM), Fx M → f_Sets_isSeen_18 x1 x2  n l4 l5 l6 M = some r → KK X 5 117 18 [(2, .ref x2), (3, .ref 246), (4, .int l4), (5, .int l5), (6, .int l6)] [] M (fun v M' => v = some (.int r.1) ∧ r.2 = M' ∧ Fx r.2)
  | 0, _, _, _, _ => fun _ h => by cases h
  | n + 1, l4, l5, l6, M => fun hM h => by
    unfold f_Sets_isSeen_18 at h
    refine K_iload rfl 4 rfl ?_
    refine K_iload rfl 2 rfl ?_
    refine K_ic_gt rfl (fun c3 => ?_) (fun c3 => ?_)
    · rw [if_pos c3] at h
      refine K_iload rfl 3 rfl ?_
      split at h
      · rename_i c4
        obtain rfl := Option.some.inj h
        exact K_iret rfl (Or.inr ⟨rfl, c4⟩) ⟨rfl, rfl, hM⟩
      · cases h
    · rw [if_neg c3] at h
      refine K_iload rfl 3 rfl ?_
      refine K_if_eq rfl (fun c5 => ?_) (fun c5 => ?_)
      · rw [if_pos c5] at h
        refine K_iload rfl 3 rfl ?_
        split at h
        · rename_i c6
          obtain rfl := Option.some.inj h
          exact K_iret rfl (Or.inr ⟨rfl, c6⟩) ⟨rfl, rfl, hM⟩
        · cases h
      · rw [if_neg c5] at h
        refine K_aload_n rfl 0 rfl ?_
        refine K_aload_n rfl 1 rfl ?_
        refine K_gR rfl sh_246 hM rfl rfl 0 rfl r_246_0 ?_
        obtain ⟨r7, er7, h⟩ := Option.bind_eq_some_iff.mp h
        refine K_cV [.ref 247] [] rfl rfl (Nat.le_of_ble_eq_true rfl) (Nat.le_of_ble_eq_true rfl) (sg_s0 hx2) hM rfl (EV_le (Nat.le_of_ble_eq_true rfl) (F_Sights_agree hM hx2 st_247 er7)) (fun v' M' hq => ?_)
        obtain ⟨rfl, rfl, hr7⟩ := hq
        refine K_istore rfl ?_
        refine K_iload rfl 4 rfl ?_
        refine K_iload rfl 3 rfl ?_
        refine K_ic_ge rfl (fun c8 => ?_) (fun c8 => ?_)
        · rw [if_pos c8] at h
          refine K_pick [1, 2, 3, 0, 4] ?_
          exact L_Sets_isSeen_56 hx2  (L_Sets_isSeen_18 hx2   n) _ _ _ _ hr7  h
        · rw [if_neg c8] at h
          refine K_iload rfl 0 rfl ?_
          refine K_if_eq rfl (fun c9 => ?_) (fun c9 => ?_)
          · rw [if_pos c9] at h
            refine K_pick [1, 2, 3, 0, 4] ?_
            exact L_Sets_isSeen_56 hx2  (L_Sets_isSeen_18 hx2   n) _ _ _ _ hr7  h
          · rw [if_neg c9] at h
            refine K_aload_n rfl 2 rfl ?_
            obtain ⟨M10, eM10, h⟩ := Option.bind_eq_some_iff.mp h
            refine K_cV [] [] rfl rfl (Nat.le_of_ble_eq_true rfl) (Nat.le_of_ble_eq_true rfl) sh_246 hr7 rfl (EV_le (Nat.le_of_ble_eq_true rfl) (F_Course_goYear hr7  eM10)) (fun v' M' hq => ?_)
            obtain ⟨rfl, rfl, hM10⟩ := hq
            refine K_pick [1, 2, 3, 0, 4] ?_
            exact L_Sets_isSeen_56 hx2  (L_Sets_isSeen_18 hx2   n) _ _ _ _ hM10  h
set_option maxRecDepth 20000 in
theorem F_Sets_isSeen {X : mX} {x1 : Int32} {x2 : Nat} {M : mM} {r : Int32 × mM} (hM : Fx M) (hx2 : is_sg x2) (h : f_Sets_isSeen x1 x2 M = some r) : EV X (5 + 1) 117 [.ref 269, .int x1, .ref x2, .ref 246] M (fun v M' => v = some (.int r.1) ∧ r.2 = M' ∧ Fx r.2) := by
    refine EV_of (lc := [(0, .ref 269), (1, .int x1), (2, .ref x2), (3, .ref 246)]) (Nat.le_of_ble_eq_true rfl) (by exact Nat.le_of_ble_eq_true rfl) (by exact List.forall_mem_cons.mpr ⟨rfl, List.forall_mem_cons.mpr ⟨rfl, List.forall_mem_cons.mpr ⟨rfl, List.forall_mem_cons.mpr ⟨rfl, fun _ h => absurd h List.not_mem_nil⟩⟩⟩⟩) ?_
    unfold f_Sets_isSeen at h
    refine K_aload_n rfl 0 rfl ?_
    refine K_iload_n rfl 1 rfl ?_
    refine K_aload_n rfl 3 rfl ?_
    obtain ⟨M1, eM1, h⟩ := Option.bind_eq_some_iff.mp h
    refine K_cV [.int x1, .ref 246] [] rfl rfl (Nat.le_of_ble_eq_true rfl) (Nat.le_of_ble_eq_true rfl) sh_269 hM rfl (EV_le (Nat.le_of_ble_eq_true rfl) (F_Sets_startWith hM  eM1)) (fun v' M' hq => ?_)
    obtain ⟨rfl, rfl, hM1⟩ := hq
    refine K_aload_n rfl 2 rfl ?_
    obtain ⟨r2, er2, h⟩ := Option.bind_eq_some_iff.mp h
    refine K_cV [] [] rfl rfl (Nat.le_of_ble_eq_true rfl) (Nat.le_of_ble_eq_true rfl) (sg_s0 hx2) hM1 rfl (EV_le (Nat.le_of_ble_eq_true rfl) (F_Sights_last hM1 hx2 er2)) (fun v' M' hq => ?_)
    obtain ⟨rfl, rfl, hr2⟩ := hq
    refine K_istore rfl ?_
    refine K_iconst (v := 1) rfl (by decide) ?_
    refine K_istore rfl ?_
    refine K_iconst (v := 0) rfl (by decide) ?_
    refine K_istore rfl ?_
    refine K_pick [5, 6, 2, 1, 0] ?_
    exact L_Sets_isSeen_18 hx2   FUEL _ _ _ _ hr2  h
set_option maxRecDepth 20000 in
theorem L_Sets_find_104 {X : mX} {x1 : Nat} {x2 : Option Nat} {k37 : Int32 → mM → Option (mM)} {r : mM} (hx1 : is_wo x1) (hk37 : ∀ (l4 : Int32) (M : mM), Fx M → k37 l4 M = some r → KK X 6 115 37 [(0, .ref 269), (1, .ref x1), (3, .ref 246), (4, .int l4)] [] M (fun v M' => v = none ∧ r = M' ∧ Fx r)) (l4 : Int32) (M : mM) (hM : Fx M)  (h : f_Sets_find_104 x1 x2 k37 l4 M = some r) : KK X 6 115 104 [(0, .ref 269), (1, .ref x1), (3, .ref 246), (4, .int l4)] [] M (fun v M' => v = none ∧ r = M' ∧ Fx r) := by
    unfold f_Sets_find_104 at h
    refine K_iinc (y := (l4 + 1)) rfl 3 rfl rfl ?_
    refine K_goto rfl ?_
    refine K_pick [1, 2, 3, 0] ?_
    exact hk37 _ _ hM  h
set_option maxRecDepth 20000 in
theorem L_Sets_find_37 {X : mX} {x1 : Nat} {x2 : Option Nat} {r : mM} (hx1 : is_wo x1) : ∀ (n : Nat) (l4 : Int32) (M : mM), Fx M → f_Sets_find_37 x1 x2  n l4 M = some r → KK X 6 115 37 [(0, .ref 269), (1, .ref x1), (3, .ref 246), (4, .int l4)] [] M (fun v M' => v = none ∧ r = M' ∧ Fx r)
  | 0, _, _ => fun _ h => by cases h
  | n + 1, l4, M => fun hM h => by
    unfold f_Sets_find_37 at h
    refine K_iload rfl 3 rfl ?_
    refine K_sipush (v := 1024) rfl (by decide) ?_
    refine K_ic_ge rfl (fun c6 => ?_) (fun c6 => ?_)
    · rw [if_pos c6] at h
      refine K_aload_n rfl 0 rfl ?_
      refine K_iconst (v := (-1)) rfl (by decide) ?_
      obtain ⟨M7, eM7, h⟩ := Option.bind_eq_some_iff.mp h
      refine K_pI rfl sh_269 hM rfl rfl 2 rfl eM7 (fun hM7 => ?_)
      refine K_aload_n rfl 0 rfl ?_
      refine K_iconst (v := 1) rfl (by decide) ?_
      obtain ⟨M8, eM8, h⟩ := Option.bind_eq_some_iff.mp h
      refine K_pZ rfl sh_269 hM7 rfl rfl 0 rfl eM8 (fun hM8 => ?_)
      obtain rfl := Option.some.inj h
      exact K_vret rfl rfl ⟨rfl, rfl, hM8⟩
    · rw [if_neg c6] at h
      refine K_iload rfl 3 rfl ?_
      refine K_aload_n rfl 0 rfl ?_
      refine K_gI rfl sh_269 hM rfl rfl 6 rfl ?_
      refine K_iconst (v := (-1)) rfl (by decide) ?_
      refine K_ixor rfl ?_
      refine K_iand rfl ?_
      refine K_if_ne rfl (fun c9 => ?_) (fun c9 => ?_)
      · rw [if_neg c9] at h
        refine K_pick [0, 1, 2, 3] ?_
        exact L_Sets_find_104 hx1  (L_Sets_find_37 hx1   n) _ _ hM  h
      · rw [if_pos c9] at h
        refine K_aload_n rfl 0 rfl ?_
        refine K_iload rfl 3 rfl ?_
        refine K_aload_n rfl 1 rfl ?_
        refine K_gR rfl (wo_s0 hx1) hM rfl rfl 2 rfl (wo_r2 hx1) ?_
        refine K_aload_n rfl 2 rfl ?_
        obtain ⟨r10, er10, h⟩ := Option.bind_eq_some_iff.mp h
        refine K_cV [.int l4, .ref (x1 + 19), .ref 246] [] rfl rfl (Nat.le_of_ble_eq_true rfl) (Nat.le_of_ble_eq_true rfl) sh_269 hM rfl (EV_le (Nat.le_of_ble_eq_true rfl) (F_Sets_isSeen hM (wo_sg hx1) er10)) (fun v' M' hq => ?_)
        obtain ⟨rfl, rfl, hr10⟩ := hq
        refine K_if_eq rfl (fun c11 => ?_) (fun c11 => ?_)
        · rw [if_pos c11] at h
          refine K_pick [0, 1, 2, 3] ?_
          exact L_Sets_find_104 hx1  (L_Sets_find_37 hx1   n) _ _ hr10  h
        · rw [if_neg c11] at h
          refine K_aload_n rfl 0 rfl ?_
          refine K_gI rfl sh_269 hr10 rfl rfl 1 rfl ?_
          refine K_aload_n rfl 0 rfl ?_
          refine K_gR rfl sh_269 hr10 rfl rfl 5 rfl r_269_5 ?_
          refine K_aln (v := 1024) rfl sh_270 hr10 (by decide) (by decide) ?_
          refine K_ic_ge rfl (fun c12 => ?_) (fun c12 => ?_)
          · rw [if_pos c12] at h
            refine K_pick [0, 1, 2, 3] ?_
            exact L_Sets_find_104 hx1  (L_Sets_find_37 hx1   n) _ _ hr10  h
          · rw [if_neg c12] at h
            refine K_aload_n rfl 0 rfl ?_
            refine K_gR rfl sh_269 hr10 rfl rfl 5 rfl r_269_5 ?_
            refine K_aload_n rfl 0 rfl ?_
            refine K_gI rfl sh_269 hr10 rfl rfl 1 rfl ?_
            refine K_iload rfl 3 rfl ?_
            obtain ⟨M13, eM13, h⟩ := Option.bind_eq_some_iff.mp h
            refine K_wr rfl sh_270 hr10 eM13 (fun hM13 => ?_)
            refine K_aload_n rfl 0 rfl ?_
            refine K_dup rfl rfl ?_
            refine K_gI rfl sh_269 hM13 rfl rfl 1 rfl ?_
            refine K_iconst (v := 1) rfl (by decide) ?_
            refine K_iadd rfl ?_
            obtain ⟨M14, eM14, h⟩ := Option.bind_eq_some_iff.mp h
            refine K_pI rfl sh_269 hM13 rfl rfl 1 rfl eM14 (fun hM14 => ?_)
            refine K_pick [0, 1, 2, 3] ?_
            exact L_Sets_find_104 hx1  (L_Sets_find_37 hx1   n) _ _ hM14  h
set_option maxRecDepth 20000 in
theorem F_Sets_find {X : mX} {x1 : Nat} {x2 : Option Nat} {M : mM} {r : mM} (hM : Fx M) (hx1 : is_wo x1) (h : f_Sets_find x1 x2 M = some r) : EV X (6 + 1) 115 [.ref 269, .ref x1, va_rf x2, .ref 246] M (fun v M' => v = none ∧ r = M' ∧ Fx r) := by
    refine EV_of (lc := [(0, .ref 269), (1, .ref x1), (2, va_rf x2), (3, .ref 246)]) (Nat.le_of_ble_eq_true rfl) (by cases x2 <;> exact Nat.le_of_ble_eq_true rfl) (by cases x2 <;> exact List.forall_mem_cons.mpr ⟨rfl, List.forall_mem_cons.mpr ⟨rfl, List.forall_mem_cons.mpr ⟨rfl, List.forall_mem_cons.mpr ⟨rfl, fun _ h => absurd h List.not_mem_nil⟩⟩⟩⟩) ?_
    unfold f_Sets_find at h
    refine K_aload_n rfl 0 rfl ?_
    refine K_gI rfl sh_269 hM rfl rfl 0 rfl ?_
    refine K_if_ne rfl (fun c1 => ?_) (fun c1 => ?_)
    · rw [if_neg c1] at h
      obtain rfl := Option.some.inj h
      exact K_vret rfl rfl ⟨rfl, rfl, hM⟩
    · rw [if_pos c1] at h
      refine K_aload_n rfl 1 rfl ?_
      refine K_ifnonnullR rfl ?_
      refine K_aload_n rfl 0 rfl ?_
      refine K_aload_n rfl 1 rfl ?_
      refine K_gR rfl (wo_s0 hx1) hM rfl rfl 0 rfl (wo_r0 hx1) ?_
      obtain ⟨M2, eM2, h⟩ := Option.bind_eq_some_iff.mp h
      refine K_pR rfl sh_269 hM rfl rfl 8 rfl mu_269_8 eM2 (fun hM2 => ?_)
      refine K_aload_n rfl 0 rfl ?_
      refine K_aload_nq rfl 2 rfl ?_
      obtain ⟨M3, eM3, h⟩ := Option.bind_eq_some_iff.mp h
      refine K_pQ rfl sh_269 hM2 rfl rfl 9 rfl mu_269_9 eM3 (fun hM3 => ?_)
      refine K_aload_n rfl 0 rfl ?_
      obtain ⟨M4, eM4, h⟩ := Option.bind_eq_some_iff.mp h
      refine K_cV [] [] rfl rfl (Nat.le_of_ble_eq_true rfl) (Nat.le_of_ble_eq_true rfl) sh_269 hM3 rfl (EV_le (Nat.le_of_ble_eq_true rfl) (F_Sets_takeOpen hM3  eM4)) (fun v' M' hq => ?_)
      obtain ⟨rfl, rfl, hM4⟩ := hq
      refine K_aload_n rfl 0 rfl ?_
      refine K_iconst (v := 0) rfl (by decide) ?_
      obtain ⟨M5, eM5, h⟩ := Option.bind_eq_some_iff.mp h
      refine K_pI rfl sh_269 hM4 rfl rfl 1 rfl eM5 (fun hM5 => ?_)
      refine K_iconst (v := 0) rfl (by decide) ?_
      refine K_istore rfl ?_
      refine K_pick [1, 2, 4, 0] ?_
      exact L_Sets_find_37 hx1   FUEL _ _ hM5  h
set_option maxRecDepth 20000 in
theorem L_Sets_inAll_18 {X : mX}  {r : Int32 × mM}  : ∀ (n : Nat) (l1 : Int32) (l2 : Int32) (M : mM), Fx M → f_Sets_inAll_18   n l1 l2 M = some r → KK X 0 121 18 [(0, .ref 269), (1, .int l1), (2, .int l2)] [] M (fun v M' => v = some (.int r.1) ∧ r.2 = M' ∧ Fx r.2)
  | 0, _, _, _ => fun _ h => by cases h
  | n + 1, l1, l2, M => fun hM h => by
    unfold f_Sets_inAll_18 at h
    refine K_iload_n rfl 2 rfl ?_
    refine K_aload_n rfl 0 rfl ?_
    refine K_gI rfl sh_269 hM rfl rfl 1 rfl ?_
    refine K_ic_ge rfl (fun c2 => ?_) (fun c2 => ?_)
    · rw [if_pos c2] at h
      refine K_iload_n rfl 1 rfl ?_
      obtain rfl := Option.some.inj h
      exact K_iret rfl (Or.inl rfl) ⟨rfl, rfl, hM⟩
    · rw [if_neg c2] at h
      refine K_iload_n rfl 2 rfl ?_
      refine K_aload_n rfl 0 rfl ?_
      refine K_gR rfl sh_269 hM rfl rfl 5 rfl r_269_5 ?_
      refine K_aln (v := 1024) rfl sh_270 hM (by decide) (by decide) ?_
      refine K_ic_ge rfl (fun c3 => ?_) (fun c3 => ?_)
      · rw [if_pos c3] at h
        refine K_iload_n rfl 1 rfl ?_
        obtain rfl := Option.some.inj h
        exact K_iret rfl (Or.inl rfl) ⟨rfl, rfl, hM⟩
      · rw [if_neg c3] at h
        refine K_iload_n rfl 1 rfl ?_
        refine K_aload_n rfl 0 rfl ?_
        refine K_gR rfl sh_269 hM rfl rfl 5 rfl r_269_5 ?_
        refine K_iload_n rfl 2 rfl ?_
        obtain ⟨v4, ev4, h⟩ := Option.bind_eq_some_iff.mp h
        refine K_rd rfl sh_270 hM ev4 ?_
        refine K_iand rfl ?_
        refine K_istore_n rfl ?_
        refine K_iinc (y := (l2 + 1)) rfl 2 rfl rfl ?_
        refine K_goto rfl ?_
        refine K_pick [2, 1, 0] ?_
        exact L_Sets_inAll_18    n _ _ _ hM  h
set_option maxRecDepth 20000 in
theorem L_Sets_inAll_15 {X : mX}  {r : Int32 × mM}  (s0 : Int32) (M : mM) (hM : Fx M)  (h : f_Sets_inAll_15   s0 M = some r) : KK X 0 121 15 [(0, .ref 269)] [.int s0] M (fun v M' => v = some (.int r.1) ∧ r.2 = M' ∧ Fx r.2) := by
    unfold f_Sets_inAll_15 at h
    refine K_istore_n rfl ?_
    refine K_iconst (v := 0) rfl (by decide) ?_
    refine K_istore_n rfl ?_
    refine K_pick [2, 1, 0] ?_
    exact L_Sets_inAll_18    FUEL _ _ _ hM  h
set_option maxRecDepth 20000 in
theorem F_Sets_inAll {X : mX}  {M : mM} {r : Int32 × mM} (hM : Fx M)  (h : f_Sets_inAll  M = some r) : EV X (0 + 1) 121 [.ref 269] M (fun v M' => v = some (.int r.1) ∧ r.2 = M' ∧ Fx r.2) := by
    refine EV_of (lc := [(0, .ref 269)]) (Nat.le_of_ble_eq_true rfl) (by exact Nat.le_of_ble_eq_true rfl) (by exact List.forall_mem_cons.mpr ⟨rfl, fun _ h => absurd h List.not_mem_nil⟩) ?_
    unfold f_Sets_inAll at h
    refine K_aload_n rfl 0 rfl ?_
    refine K_gI rfl sh_269 hM rfl rfl 1 rfl ?_
    refine K_if_le rfl (fun c1 => ?_) (fun c1 => ?_)
    · rw [if_pos c1] at h
      refine K_iconst (v := 0) rfl (by decide) ?_
      refine K_pick [0] ?_
      exact L_Sets_inAll_15    _ _ hM  h
    · rw [if_neg c1] at h
      refine K_aload_n rfl 0 rfl ?_
      refine K_gI rfl sh_269 hM rfl rfl 6 rfl ?_
      refine K_goto rfl ?_
      refine K_pick [0] ?_
      exact L_Sets_inAll_15    _ _ hM  h
set_option maxRecDepth 20000 in
theorem L_Sets_inNone_18 {X : mX}  {r : Int32 × mM}  : ∀ (n : Nat) (l1 : Int32) (l2 : Int32) (M : mM), Fx M → f_Sets_inNone_18   n l1 l2 M = some r → KK X 0 122 18 [(0, .ref 269), (1, .int l1), (2, .int l2)] [] M (fun v M' => v = some (.int r.1) ∧ r.2 = M' ∧ Fx r.2)
  | 0, _, _, _ => fun _ h => by cases h
  | n + 1, l1, l2, M => fun hM h => by
    unfold f_Sets_inNone_18 at h
    refine K_iload_n rfl 2 rfl ?_
    refine K_aload_n rfl 0 rfl ?_
    refine K_gI rfl sh_269 hM rfl rfl 1 rfl ?_
    refine K_ic_ge rfl (fun c2 => ?_) (fun c2 => ?_)
    · rw [if_pos c2] at h
      refine K_iload_n rfl 1 rfl ?_
      obtain rfl := Option.some.inj h
      exact K_iret rfl (Or.inl rfl) ⟨rfl, rfl, hM⟩
    · rw [if_neg c2] at h
      refine K_iload_n rfl 2 rfl ?_
      refine K_aload_n rfl 0 rfl ?_
      refine K_gR rfl sh_269 hM rfl rfl 5 rfl r_269_5 ?_
      refine K_aln (v := 1024) rfl sh_270 hM (by decide) (by decide) ?_
      refine K_ic_ge rfl (fun c3 => ?_) (fun c3 => ?_)
      · rw [if_pos c3] at h
        refine K_iload_n rfl 1 rfl ?_
        obtain rfl := Option.some.inj h
        exact K_iret rfl (Or.inl rfl) ⟨rfl, rfl, hM⟩
      · rw [if_neg c3] at h
        refine K_iload_n rfl 1 rfl ?_
        refine K_aload_n rfl 0 rfl ?_
        refine K_gR rfl sh_269 hM rfl rfl 5 rfl r_269_5 ?_
        refine K_iload_n rfl 2 rfl ?_
        obtain ⟨v4, ev4, h⟩ := Option.bind_eq_some_iff.mp h
        refine K_rd rfl sh_270 hM ev4 ?_
        refine K_iconst (v := (-1)) rfl (by decide) ?_
        refine K_ixor rfl ?_
        refine K_iand rfl ?_
        refine K_istore_n rfl ?_
        refine K_iinc (y := (l2 + 1)) rfl 2 rfl rfl ?_
        refine K_goto rfl ?_
        refine K_pick [2, 1, 0] ?_
        exact L_Sets_inNone_18    n _ _ _ hM  h
set_option maxRecDepth 20000 in
theorem L_Sets_inNone_15 {X : mX}  {r : Int32 × mM}  (s0 : Int32) (M : mM) (hM : Fx M)  (h : f_Sets_inNone_15   s0 M = some r) : KK X 0 122 15 [(0, .ref 269)] [.int s0] M (fun v M' => v = some (.int r.1) ∧ r.2 = M' ∧ Fx r.2) := by
    unfold f_Sets_inNone_15 at h
    refine K_istore_n rfl ?_
    refine K_iconst (v := 0) rfl (by decide) ?_
    refine K_istore_n rfl ?_
    refine K_pick [2, 1, 0] ?_
    exact L_Sets_inNone_18    FUEL _ _ _ hM  h
set_option maxRecDepth 20000 in
theorem F_Sets_inNone {X : mX}  {M : mM} {r : Int32 × mM} (hM : Fx M)  (h : f_Sets_inNone  M = some r) : EV X (0 + 1) 122 [.ref 269] M (fun v M' => v = some (.int r.1) ∧ r.2 = M' ∧ Fx r.2) := by
    refine EV_of (lc := [(0, .ref 269)]) (Nat.le_of_ble_eq_true rfl) (by exact Nat.le_of_ble_eq_true rfl) (by exact List.forall_mem_cons.mpr ⟨rfl, fun _ h => absurd h List.not_mem_nil⟩) ?_
    unfold f_Sets_inNone at h
    refine K_aload_n rfl 0 rfl ?_
    refine K_gI rfl sh_269 hM rfl rfl 1 rfl ?_
    refine K_if_le rfl (fun c1 => ?_) (fun c1 => ?_)
    · rw [if_pos c1] at h
      refine K_iconst (v := 0) rfl (by decide) ?_
      refine K_pick [0] ?_
      exact L_Sets_inNone_15    _ _ hM  h
    · rw [if_neg c1] at h
      refine K_aload_n rfl 0 rfl ?_
      refine K_gI rfl sh_269 hM rfl rfl 6 rfl ?_
      refine K_goto rfl ?_
      refine K_pick [0] ?_
      exact L_Sets_inNone_15    _ _ hM  h
set_option maxRecDepth 20000 in
theorem F_GraveRails_unpaid {X : mX} {x1 : Int32} {M : mM} {r : Int32 × mM} (hM : Fx M)  (h : f_GraveRails_unpaid x1 M = some r) : EV X (7 + 1) 114 [.ref 0, .int x1] M (fun v M' => v = some (.int r.1) ∧ r.2 = M' ∧ Fx r.2) := by
    refine EV_of (lc := [(0, .ref 0), (1, .int x1)]) (Nat.le_of_ble_eq_true rfl) (by exact Nat.le_of_ble_eq_true rfl) (by exact List.forall_mem_cons.mpr ⟨rfl, List.forall_mem_cons.mpr ⟨rfl, fun _ h => absurd h List.not_mem_nil⟩⟩) ?_
    unfold f_GraveRails_unpaid at h
    refine K_aload_n rfl 0 rfl ?_
    refine K_gR rfl sh_0 hM rfl rfl 5 rfl r_0_5 ?_
    refine K_gR rfl sh_20 hM rfl rfl 0 rfl r_20_0 ?_
    obtain ⟨r1, er1, h⟩ := Option.bind_eq_some_iff.mp h
    refine K_cV [] [] rfl rfl (Nat.le_of_ble_eq_true rfl) (Nat.le_of_ble_eq_true rfl) sh_21 hM rfl (EV_le (Nat.le_of_ble_eq_true rfl) (F_Yard_isTold hM yd_21 er1)) (fun v' M' hq => ?_)
    obtain ⟨rfl, rfl, hr1⟩ := hq
    refine K_if_eq rfl (fun c2 => ?_) (fun c2 => ?_)
    · rw [if_pos c2] at h
      refine K_iconst (v := (-1)) rfl (by decide) ?_
      obtain rfl := Option.some.inj h
      exact K_iret rfl (Or.inl rfl) ⟨rfl, rfl, hr1⟩
    · rw [if_neg c2] at h
      refine K_iload_n rfl 1 rfl ?_
      refine K_if_lt rfl (fun c3 => ?_) (fun c3 => ?_)
      · rw [if_pos c3] at h
        refine K_iconst (v := (-1)) rfl (by decide) ?_
        obtain rfl := Option.some.inj h
        exact K_iret rfl (Or.inl rfl) ⟨rfl, rfl, hr1⟩
      · rw [if_neg c3] at h
        refine K_iload_n rfl 1 rfl ?_
        refine K_iconst (v := 2) rfl (by decide) ?_
        refine K_ic_le rfl (fun c4 => ?_) (fun c4 => ?_)
        · rw [if_pos c4] at h
          refine K_aload_n rfl 0 rfl ?_
          refine K_gR rfl sh_0 hr1 rfl rfl 9 rfl r_0_9 ?_
          refine K_aload_n rfl 0 rfl ?_
          refine K_gR rfl sh_0 hr1 rfl rfl 5 rfl r_0_5 ?_
          refine K_aload_n rfl 0 rfl ?_
          obtain ⟨r5, er5, h⟩ := Option.bind_eq_some_iff.mp h
          refine K_cV [] [.ref 20, .ref 269] rfl rfl (Nat.le_of_ble_eq_true rfl) (Nat.le_of_ble_eq_true rfl) sh_0 hr1 rfl (EV_le (Nat.le_of_ble_eq_true rfl) (F_GraveRails_ruleInForce hr1  er5)) (fun v' M' hq => ?_)
          obtain ⟨rfl, rfl, hr5⟩ := hq
          refine K_aload_n rfl 0 rfl ?_
          refine K_gR rfl sh_0 hr5 rfl rfl 8 rfl r_0_8 ?_
          obtain ⟨M6, eM6, h⟩ := Option.bind_eq_some_iff.mp h
          refine K_cV [.ref 20, va_rf r5.1, .ref 246] [] rfl rfl (Nat.le_of_ble_eq_true rfl) (Nat.le_of_ble_eq_true rfl) sh_269 hr5 rfl (EV_le (Nat.le_of_ble_eq_true rfl) (F_Sets_find hr5 wo_20 eM6)) (fun v' M' hq => ?_)
          obtain ⟨rfl, rfl, hM6⟩ := hq
          refine K_iload_n rfl 1 rfl ?_
          refine K_if_ne rfl (fun c7 => ?_) (fun c7 => ?_)
          · rw [if_neg c7] at h
            refine K_iload_n rfl 1 rfl ?_
            refine K_iconst (v := 1) rfl (by decide) ?_
            refine K_ic_ne rfl (fun c8 => ?_) (fun c8 => ?_)
            · rw [if_neg c8] at h
              refine K_aload_n rfl 0 rfl ?_
              refine K_gR rfl sh_0 hM6 rfl rfl 9 rfl r_0_9 ?_
              obtain ⟨r9, er9, h⟩ := Option.bind_eq_some_iff.mp h
              refine K_cV [] [] rfl rfl (Nat.le_of_ble_eq_true rfl) (Nat.le_of_ble_eq_true rfl) sh_269 hM6 rfl (EV_le (Nat.le_of_ble_eq_true rfl) (F_Sets_inNone hM6  er9)) (fun v' M' hq => ?_)
              obtain ⟨rfl, rfl, hr9⟩ := hq
              obtain rfl := Option.some.inj h
              exact K_iret rfl (Or.inl rfl) ⟨rfl, rfl, hr9⟩
            · rw [if_pos c8] at h
              refine K_aload_n rfl 0 rfl ?_
              refine K_gR rfl sh_0 hM6 rfl rfl 9 rfl r_0_9 ?_
              obtain ⟨r10, er10, h⟩ := Option.bind_eq_some_iff.mp h
              refine K_cV [] [] rfl rfl (Nat.le_of_ble_eq_true rfl) (Nat.le_of_ble_eq_true rfl) sh_269 hM6 rfl (EV_le (Nat.le_of_ble_eq_true rfl) (F_Sets_inAll hM6  er10)) (fun v' M' hq => ?_)
              obtain ⟨rfl, rfl, hr10⟩ := hq
              refine K_goto rfl ?_
              obtain rfl := Option.some.inj h
              exact K_iret rfl (Or.inl rfl) ⟨rfl, rfl, hr10⟩
          · rw [if_pos c7] at h
            refine K_aload_n rfl 0 rfl ?_
            refine K_gR rfl sh_0 hM6 rfl rfl 9 rfl r_0_9 ?_
            refine K_gI rfl sh_269 hM6 rfl rfl 1 rfl ?_
            obtain rfl := Option.some.inj h
            exact K_iret rfl (Or.inl rfl) ⟨rfl, rfl, hM6⟩
        · rw [if_neg c4] at h
          refine K_iconst (v := (-1)) rfl (by decide) ?_
          obtain rfl := Option.some.inj h
          exact K_iret rfl (Or.inl rfl) ⟨rfl, rfl, hr1⟩
set_option maxRecDepth 20000 in
theorem L_Sets_countCells_68 {X : mX} {x1 : Nat} {k2 : Int32 → mM → Option (mM)} {r : mM} (hx1 : is_st x1) (hk2 : ∀ (l2 : Int32) (M : mM), Fx M → k2 l2 M = some r → KK X 1 125 2 [(0, .ref 269), (1, .ref x1), (2, .int l2)] [] M (fun v M' => v = none ∧ r = M' ∧ Fx r)) (l2 : Int32) (M : mM) (hM : Fx M)  (h : f_Sets_countCells_68 x1 k2 l2 M = some r) : KK X 1 125 68 [(0, .ref 269), (1, .ref x1), (2, .int l2)] [] M (fun v M' => v = none ∧ r = M' ∧ Fx r) := by
    unfold f_Sets_countCells_68 at h
    refine K_iinc (y := (l2 + 1)) rfl 2 rfl rfl ?_
    refine K_goto rfl ?_
    refine K_pick [1, 2, 0] ?_
    exact hk2 _ _ hM  h
set_option maxRecDepth 20000 in
theorem L_Sets_countCells_43 {X : mX} {x1 : Nat} {k2 : Int32 → mM → Option (mM)} {r : mM} (hx1 : is_st x1) (hk2 : ∀ (l2 : Int32) (M : mM), Fx M → k2 l2 M = some r → KK X 1 125 2 [(0, .ref 269), (1, .ref x1), (2, .int l2)] [] M (fun v M' => v = none ∧ r = M' ∧ Fx r)) (l2 : Int32) (s0 : Int32) (s1 : Int32) (M : mM) (hM : Fx M)  (h : f_Sets_countCells_43 x1 k2 l2 s0 s1 M = some r) : KK X 1 125 43 [(0, .ref 269), (1, .ref x1), (2, .int l2)] [.int s1, .int s0] M (fun v M' => v = none ∧ r = M' ∧ Fx r) := by
    unfold f_Sets_countCells_43 at h
    refine K_iadd rfl ?_
    refine K_istore_n rfl ?_
    refine K_iload_n rfl 0 rfl ?_
    refine K_if_lt rfl (fun c6 => ?_) (fun c6 => ?_)
    · rw [if_pos c6] at h
      refine K_pick [1, 2, 3] ?_
      exact L_Sets_countCells_68 hx1  hk2 _ _ hM  h
    · rw [if_neg c6] at h
      refine K_iload_n rfl 0 rfl ?_
      refine K_aload_n rfl 1 rfl ?_
      refine K_gR rfl sh_269 hM rfl rfl 7 rfl r_269_7 ?_
      refine K_aln (v := 231) rfl sh_271 hM (by decide) (by decide) ?_
      refine K_ic_ge rfl (fun c7 => ?_) (fun c7 => ?_)
      · rw [if_pos c7] at h
        refine K_pick [1, 2, 3] ?_
        exact L_Sets_countCells_68 hx1  hk2 _ _ hM  h
      · rw [if_neg c7] at h
        refine K_aload_n rfl 1 rfl ?_
        refine K_gR rfl sh_269 hM rfl rfl 7 rfl r_269_7 ?_
        refine K_iload_n rfl 0 rfl ?_
        refine K_dup2 rfl ⟨rfl, rfl⟩ ?_
        obtain ⟨v8, ev8, h⟩ := Option.bind_eq_some_iff.mp h
        refine K_rd rfl sh_271 hM ev8 ?_
        refine K_iconst (v := 1) rfl (by decide) ?_
        refine K_iadd rfl ?_
        obtain ⟨M9, eM9, h⟩ := Option.bind_eq_some_iff.mp h
        refine K_wr rfl sh_271 hM eM9 (fun hM9 => ?_)
        refine K_pick [1, 2, 3] ?_
        exact L_Sets_countCells_68 hx1  hk2 _ _ hM9  h
set_option maxRecDepth 20000 in
theorem L_Sets_countCells_2 {X : mX} {x1 : Nat} {r : mM} (hx1 : is_st x1) : ∀ (n : Nat) (l2 : Int32) (M : mM), Fx M → f_Sets_countCells_2 x1  n l2 M = some r → KK X 1 125 2 [(0, .ref 269), (1, .ref x1), (2, .int l2)] [] M (fun v M' => v = none ∧ r = M' ∧ Fx r)
  | 0, _, _ => fun _ h => by cases h
  | n + 1, l2, M => fun hM h => by
    unfold f_Sets_countCells_2 at h
    refine K_iload_n rfl 2 rfl ?_
    refine K_aload_n rfl 0 rfl ?_
    obtain ⟨y1, ey1, h⟩ := Option.bind_eq_some_iff.mp h
    refine K_gN rfl sh_269 hM rfl rfl 8 rfl ey1 ?_
    refine K_gI rfl (yd_s0 (nnl_i ey1).2) hM rfl rfl 2 rfl ?_
    refine K_ic_ge rfl (fun c2 => ?_) (fun c2 => ?_)
    · rw [if_pos c2] at h
      obtain rfl := Option.some.inj h
      exact K_vret rfl rfl ⟨rfl, rfl, hM⟩
    · rw [if_neg c2] at h
      refine K_iload_n rfl 2 rfl ?_
      refine K_bipush (v := 11) rfl (by decide) ?_
      refine K_ic_ge rfl (fun c3 => ?_) (fun c3 => ?_)
      · rw [if_pos c3] at h
        obtain rfl := Option.some.inj h
        exact K_vret rfl rfl ⟨rfl, rfl, hM⟩
      · rw [if_neg c3] at h
        refine K_iload_n rfl 2 rfl ?_
        refine K_bipush (v := 21) rfl (by decide) ?_
        refine K_imul rfl ?_
        refine K_aload_n rfl 1 rfl ?_
        refine K_iload_n rfl 2 rfl ?_
        obtain ⟨r4, er4, h⟩ := Option.bind_eq_some_iff.mp h
        refine K_cV [.int l2] [.int (l2 * 21)] rfl rfl (Nat.le_of_ble_eq_true rfl) (Nat.le_of_ble_eq_true rfl) (st_s0 hx1) hM rfl (EV_le (Nat.le_of_ble_eq_true rfl) (F_State_lies hM hx1 er4)) (fun v' M' hq => ?_)
        obtain ⟨rfl, rfl, hr4⟩ := hq
        refine K_if_eq rfl (fun c5 => ?_) (fun c5 => ?_)
        · rw [if_pos c5] at h
          refine K_iconst (v := 0) rfl (by decide) ?_
          refine K_pick [0, 1, 2] ?_
          exact L_Sets_countCells_43 hx1  (L_Sets_countCells_2 hx1   n) _ _ _ _ hr4  h
        · rw [if_neg c5] at h
          refine K_aload_n rfl 1 rfl ?_
          refine K_gR rfl (st_s0 hx1) hr4 rfl rfl 4 rfl (st_r4 hx1) ?_
          refine K_iload_n rfl 2 rfl ?_
          obtain ⟨v10, ev10, h⟩ := Option.bind_eq_some_iff.mp h
          refine K_rd rfl (st_s2 hx1) hr4 ev10 ?_
          refine K_iconst (v := 1) rfl (by decide) ?_
          refine K_iadd rfl ?_
          refine K_goto rfl ?_
          refine K_pick [0, 1, 2] ?_
          exact L_Sets_countCells_43 hx1  (L_Sets_countCells_2 hx1   n) _ _ _ _ hr4  h
set_option maxRecDepth 20000 in
theorem F_Sets_countCells {X : mX} {x1 : Nat} {M : mM} {r : mM} (hM : Fx M) (hx1 : is_st x1) (h : f_Sets_countCells x1 M = some r) : EV X (1 + 1) 125 [.ref 269, .ref x1] M (fun v M' => v = none ∧ r = M' ∧ Fx r) := by
    refine EV_of (lc := [(0, .ref 269), (1, .ref x1)]) (Nat.le_of_ble_eq_true rfl) (by exact Nat.le_of_ble_eq_true rfl) (by exact List.forall_mem_cons.mpr ⟨rfl, List.forall_mem_cons.mpr ⟨rfl, fun _ h => absurd h List.not_mem_nil⟩⟩) ?_
    unfold f_Sets_countCells at h
    refine K_iconst (v := 0) rfl (by decide) ?_
    refine K_istore_n rfl ?_
    refine K_pick [1, 2, 0] ?_
    exact L_Sets_countCells_2 hx1   FUEL _ _ hM  h
set_option maxRecDepth 20000 in
theorem L_Sets_mostAlike_45 {X : mX} {x1 : Int32} {k4 : Int32 → Int32 → mM → Option (Int32 × mM)} {r : Int32 × mM}  (hk4 : ∀ (l2 : Int32) (l3 : Int32) (M : mM), Fx M → k4 l2 l3 M = some r → KK X 0 126 4 [(0, .ref 269), (1, .int x1), (2, .int l2), (3, .int l3)] [] M (fun v M' => v = some (.int r.1) ∧ r.2 = M' ∧ Fx r.2)) (l2 : Int32) (l3 : Int32) (M : mM) (hM : Fx M)  (h : f_Sets_mostAlike_45 x1 k4 l2 l3 M = some r) : KK X 0 126 45 [(0, .ref 269), (1, .int x1), (2, .int l2), (3, .int l3)] [] M (fun v M' => v = some (.int r.1) ∧ r.2 = M' ∧ Fx r.2) := by
    unfold f_Sets_mostAlike_45 at h
    refine K_iinc (y := (l3 + 1)) rfl 3 rfl rfl ?_
    refine K_goto rfl ?_
    refine K_pick [1, 2, 3, 0] ?_
    exact hk4 _ _ _ hM  h
set_option maxRecDepth 20000 in
theorem L_Sets_mostAlike_4 {X : mX} {x1 : Int32} {r : Int32 × mM}  : ∀ (n : Nat) (l2 : Int32) (l3 : Int32) (M : mM), Fx M → f_Sets_mostAlike_4 x1  n l2 l3 M = some r → KK X 0 126 4 [(0, .ref 269), (1, .int x1), (2, .int l2), (3, .int l3)] [] M (fun v M' => v = some (.int r.1) ∧ r.2 = M' ∧ Fx r.2)
  | 0, _, _, _ => fun _ h => by cases h
  | n + 1, l2, l3, M => fun hM h => by
    unfold f_Sets_mostAlike_4 at h
    refine K_iload_n rfl 3 rfl ?_
    refine K_bipush (v := 20) rfl (by decide) ?_
    refine K_ic_gt rfl (fun c1 => ?_) (fun c1 => ?_)
    · rw [if_pos c1] at h
      refine K_iload_n rfl 2 rfl ?_
      obtain rfl := Option.some.inj h
      exact K_iret rfl (Or.inl rfl) ⟨rfl, rfl, hM⟩
    · rw [if_neg c1] at h
      refine K_iload_n rfl 1 rfl ?_
      refine K_bipush (v := 21) rfl (by decide) ?_
      refine K_imul rfl ?_
      refine K_iload_n rfl 3 rfl ?_
      refine K_iadd rfl ?_
      refine K_istore rfl ?_
      refine K_iload rfl 0 rfl ?_
      refine K_if_lt rfl (fun c2 => ?_) (fun c2 => ?_)
      · rw [if_pos c2] at h
        refine K_pick [1, 2, 3, 4] ?_
        exact L_Sets_mostAlike_45   (L_Sets_mostAlike_4    n) _ _ _ hM  h
      · rw [if_neg c2] at h
        refine K_iload rfl 0 rfl ?_
        refine K_aload_n rfl 1 rfl ?_
        refine K_gR rfl sh_269 hM rfl rfl 7 rfl r_269_7 ?_
        refine K_aln (v := 231) rfl sh_271 hM (by decide) (by decide) ?_
        refine K_ic_ge rfl (fun c3 => ?_) (fun c3 => ?_)
        · rw [if_pos c3] at h
          refine K_pick [1, 2, 3, 4] ?_
          exact L_Sets_mostAlike_45   (L_Sets_mostAlike_4    n) _ _ _ hM  h
        · rw [if_neg c3] at h
          refine K_iload_n rfl 3 rfl ?_
          refine K_aload_n rfl 1 rfl ?_
          refine K_gR rfl sh_269 hM rfl rfl 7 rfl r_269_7 ?_
          refine K_iload rfl 0 rfl ?_
          obtain ⟨v4, ev4, h⟩ := Option.bind_eq_some_iff.mp h
          refine K_rd rfl sh_271 hM ev4 ?_
          refine K_max rfl (Nat.le_of_ble_eq_true rfl) ?_
          refine K_istore_n rfl ?_
          refine K_pick [2, 3, 0, 4] ?_
          exact L_Sets_mostAlike_45   (L_Sets_mostAlike_4    n) _ _ _ hM  h
set_option maxRecDepth 20000 in
theorem F_Sets_mostAlike {X : mX} {x1 : Int32} {M : mM} {r : Int32 × mM} (hM : Fx M)  (h : f_Sets_mostAlike x1 M = some r) : EV X (0 + 1) 126 [.ref 269, .int x1] M (fun v M' => v = some (.int r.1) ∧ r.2 = M' ∧ Fx r.2) := by
    refine EV_of (lc := [(0, .ref 269), (1, .int x1)]) (Nat.le_of_ble_eq_true rfl) (by exact Nat.le_of_ble_eq_true rfl) (by exact List.forall_mem_cons.mpr ⟨rfl, List.forall_mem_cons.mpr ⟨rfl, fun _ h => absurd h List.not_mem_nil⟩⟩) ?_
    unfold f_Sets_mostAlike at h
    refine K_iconst (v := 0) rfl (by decide) ?_
    refine K_istore_n rfl ?_
    refine K_iconst (v := 0) rfl (by decide) ?_
    refine K_istore_n rfl ?_
    refine K_pick [2, 3, 1, 0] ?_
    exact L_Sets_mostAlike_4    FUEL _ _ _ hM  h
set_option maxRecDepth 20000 in
theorem L_Sets_part_166 {X : mX} {x1 : Int32} {k114 : Int32 → mM → Option (mM)} {r : mM}  (hk114 : ∀ (l3 : Int32) (M : mM), Fx M → k114 l3 M = some r → KK X 5 124 114 [(0, .ref 269), (3, .int l3)] [] M (fun v M' => v = none ∧ r = M' ∧ Fx r)) (l3 : Int32) (M : mM) (hM : Fx M)  (h : f_Sets_part_166 x1 k114 l3 M = some r) : KK X 5 124 166 [(0, .ref 269), (3, .int l3)] [] M (fun v M' => v = none ∧ r = M' ∧ Fx r) := by
    unfold f_Sets_part_166 at h
    refine K_iinc (y := (l3 + 1)) rfl 1 rfl rfl ?_
    refine K_goto rfl ?_
    refine K_pick [1, 0] ?_
    exact hk114 _ _ hM  h
set_option maxRecDepth 20000 in
theorem L_Sets_part_155 {X : mX} {x1 : Int32} {k114 : Int32 → mM → Option (mM)} {r : mM}  (hk114 : ∀ (l3 : Int32) (M : mM), Fx M → k114 l3 M = some r → KK X 5 124 114 [(0, .ref 269), (3, .int l3)] [] M (fun v M' => v = none ∧ r = M' ∧ Fx r)) (l3 : Int32) (l4 : Int32) (M : mM) (hM : Fx M)  (h : f_Sets_part_155 x1 k114 l3 l4 M = some r) : KK X 5 124 155 [(0, .ref 269), (3, .int l3), (4, .int l4)] [] M (fun v M' => v = none ∧ r = M' ∧ Fx r) := by
    unfold f_Sets_part_155 at h
    refine K_aload_n rfl 0 rfl ?_
    refine K_iload_n rfl 1 rfl ?_
    obtain ⟨M12, eM12, h⟩ := Option.bind_eq_some_iff.mp h
    refine K_pI rfl sh_269 hM rfl rfl 3 rfl eM12 (fun hM12 => ?_)
    refine K_aload_n rfl 0 rfl ?_
    refine K_iload rfl 2 rfl ?_
    obtain ⟨M13, eM13, h⟩ := Option.bind_eq_some_iff.mp h
    refine K_pI rfl sh_269 hM12 rfl rfl 4 rfl eM13 (fun hM13 => ?_)
    refine K_pick [0, 1] ?_
    exact L_Sets_part_166   hk114 _ _ hM13  h
set_option maxRecDepth 20000 in
theorem L_Sets_part_114 {X : mX} {x1 : Int32} {r : mM}  : ∀ (n : Nat) (l3 : Int32) (M : mM), Fx M → f_Sets_part_114 x1  n l3 M = some r → KK X 5 124 114 [(0, .ref 269), (3, .int l3)] [] M (fun v M' => v = none ∧ r = M' ∧ Fx r)
  | 0, _, _ => fun _ h => by cases h
  | n + 1, l3, M => fun hM h => by
    unfold f_Sets_part_114 at h
    refine K_iload_n rfl 1 rfl ?_
    refine K_aload_n rfl 0 rfl ?_
    obtain ⟨y7, ey7, h⟩ := Option.bind_eq_some_iff.mp h
    refine K_gN rfl sh_269 hM rfl rfl 8 rfl ey7 ?_
    refine K_gI rfl (yd_s0 (nnl_i ey7).2) hM rfl rfl 2 rfl ?_
    refine K_ic_ge rfl (fun c8 => ?_) (fun c8 => ?_)
    · rw [if_pos c8] at h
      obtain rfl := Option.some.inj h
      exact K_vret rfl rfl ⟨rfl, rfl, hM⟩
    · rw [if_neg c8] at h
      refine K_iload_n rfl 1 rfl ?_
      refine K_bipush (v := 11) rfl (by decide) ?_
      refine K_ic_ge rfl (fun c9 => ?_) (fun c9 => ?_)
      · rw [if_pos c9] at h
        obtain rfl := Option.some.inj h
        exact K_vret rfl rfl ⟨rfl, rfl, hM⟩
      · rw [if_neg c9] at h
        refine K_aload_n rfl 0 rfl ?_
        refine K_iload_n rfl 1 rfl ?_
        obtain ⟨r10, er10, h⟩ := Option.bind_eq_some_iff.mp h
        refine K_cV [.int l3] [] rfl rfl (Nat.le_of_ble_eq_true rfl) (Nat.le_of_ble_eq_true rfl) sh_269 hM rfl (EV_le (Nat.le_of_ble_eq_true rfl) (F_Sets_mostAlike hM  er10)) (fun v' M' hq => ?_)
        obtain ⟨rfl, rfl, hr10⟩ := hq
        refine K_istore rfl ?_
        refine K_aload_n rfl 1 rfl ?_
        refine K_gI rfl sh_269 hr10 rfl rfl 3 rfl ?_
        refine K_iconst (v := (-1)) rfl (by decide) ?_
        refine K_ic_eq rfl (fun c11 => ?_) (fun c11 => ?_)
        · rw [if_pos c11] at h
          refine K_pick [1, 2, 0] ?_
          exact L_Sets_part_155   (L_Sets_part_114    n) _ _ _ hr10  h
        · rw [if_neg c11] at h
          refine K_iload rfl 0 rfl ?_
          refine K_aload_n rfl 1 rfl ?_
          refine K_gI rfl sh_269 hr10 rfl rfl 4 rfl ?_
          refine K_ic_ge rfl (fun c14 => ?_) (fun c14 => ?_)
          · rw [if_pos c14] at h
            refine K_pick [1, 2] ?_
            exact L_Sets_part_166   (L_Sets_part_114    n) _ _ hr10  h
          · rw [if_neg c14] at h
            refine K_pick [1, 2, 0] ?_
            exact L_Sets_part_155   (L_Sets_part_114    n) _ _ _ hr10  h
set_option maxRecDepth 20000 in
theorem L_Sets_part_102 {X : mX} {x1 : Int32} {r : mM}   (M : mM) (hM : Fx M)  (h : f_Sets_part_102 x1   M = some r) : KK X 5 124 102 [(0, .ref 269)] [] M (fun v M' => v = none ∧ r = M' ∧ Fx r) := by
    unfold f_Sets_part_102 at h
    refine K_aload_n rfl 0 rfl ?_
    refine K_iconst (v := (-1)) rfl (by decide) ?_
    obtain ⟨M5, eM5, h⟩ := Option.bind_eq_some_iff.mp h
    refine K_pI rfl sh_269 hM rfl rfl 3 rfl eM5 (fun hM5 => ?_)
    refine K_aload_n rfl 0 rfl ?_
    refine K_iconst (v := 0) rfl (by decide) ?_
    obtain ⟨M6, eM6, h⟩ := Option.bind_eq_some_iff.mp h
    refine K_pI rfl sh_269 hM5 rfl rfl 4 rfl eM6 (fun hM6 => ?_)
    refine K_iconst (v := 0) rfl (by decide) ?_
    refine K_istore_n rfl ?_
    refine K_pick [1, 0] ?_
    exact L_Sets_part_114    FUEL _ _ hM6  h
set_option maxRecDepth 20000 in
theorem L_Sets_part_88 {X : mX} {x1 : Int32} {k24 : Int32 → mM → Option (mM)} {r : mM}  (hk24 : ∀ (l3 : Int32) (M : mM), Fx M → k24 l3 M = some r → KK X 5 124 24 [(0, .ref 269), (1, .int x1), (2, .ref 246), (3, .int l3)] [] M (fun v M' => v = none ∧ r = M' ∧ Fx r)) (l3 : Int32) (M : mM) (hM : Fx M)  (h : f_Sets_part_88 x1 k24 l3 M = some r) : KK X 5 124 88 [(0, .ref 269), (1, .int x1), (2, .ref 246), (3, .int l3)] [] M (fun v M' => v = none ∧ r = M' ∧ Fx r) := by
    unfold f_Sets_part_88 at h
    refine K_aload_n rfl 0 rfl ?_
    refine K_aload_n rfl 2 rfl ?_
    refine K_gR rfl sh_246 hM rfl rfl 0 rfl r_246_0 ?_
    obtain ⟨M19, eM19, h⟩ := Option.bind_eq_some_iff.mp h
    refine K_cV [.ref 247] [] rfl rfl (Nat.le_of_ble_eq_true rfl) (Nat.le_of_ble_eq_true rfl) sh_269 hM rfl (EV_le (Nat.le_of_ble_eq_true rfl) (F_Sets_countCells hM st_247 eM19)) (fun v' M' hq => ?_)
    obtain ⟨rfl, rfl, hM19⟩ := hq
    refine K_iinc (y := (l3 + 1)) rfl 3 rfl rfl ?_
    refine K_goto rfl ?_
    refine K_pick [1, 2, 3, 0] ?_
    exact hk24 _ _ hM19  h
set_option maxRecDepth 20000 in
theorem L_Sets_part_55 {X : mX} {x1 : Int32} {k24 : Int32 → mM → Option (mM)} {r : mM}  (hk24 : ∀ (l3 : Int32) (M : mM), Fx M → k24 l3 M = some r → KK X 5 124 24 [(0, .ref 269), (1, .int x1), (2, .ref 246), (3, .int l3)] [] M (fun v M' => v = none ∧ r = M' ∧ Fx r)) : ∀ (n : Nat) (l3 : Int32) (l4 : Int32) (M : mM), Fx M → f_Sets_part_55 x1 k24 n l3 l4 M = some r → KK X 5 124 55 [(0, .ref 269), (1, .int x1), (2, .ref 246), (3, .int l3), (4, .int l4)] [] M (fun v M' => v = none ∧ r = M' ∧ Fx r)
  | 0, _, _, _ => fun _ h => by cases h
  | n + 1, l3, l4, M => fun hM h => by
    unfold f_Sets_part_55 at h
    refine K_iload rfl 4 rfl ?_
    refine K_iload_n rfl 1 rfl ?_
    refine K_ic_ge rfl (fun c18 => ?_) (fun c18 => ?_)
    · rw [if_pos c18] at h
      refine K_pick [0, 1, 2, 3] ?_
      exact L_Sets_part_88   hk24 _ _ hM  h
    · rw [if_neg c18] at h
      refine K_aload_n rfl 2 rfl ?_
      refine K_gR rfl sh_246 hM rfl rfl 0 rfl r_246_0 ?_
      refine K_gI rfl sh_247 hM rfl rfl 2 rfl ?_
      refine K_aload_n rfl 2 rfl ?_
      refine K_gR rfl sh_246 hM rfl rfl 0 rfl r_246_0 ?_
      refine K_gI rfl sh_247 hM rfl rfl 1 rfl ?_
      refine K_ic_ge rfl (fun c20 => ?_) (fun c20 => ?_)
      · rw [if_pos c20] at h
        refine K_pick [0, 1, 2, 3] ?_
        exact L_Sets_part_88   hk24 _ _ hM  h
      · rw [if_neg c20] at h
        refine K_aload_n rfl 2 rfl ?_
        obtain ⟨M21, eM21, h⟩ := Option.bind_eq_some_iff.mp h
        refine K_cV [] [] rfl rfl (Nat.le_of_ble_eq_true rfl) (Nat.le_of_ble_eq_true rfl) sh_246 hM rfl (EV_le (Nat.le_of_ble_eq_true rfl) (F_Course_goYear hM  eM21)) (fun v' M' hq => ?_)
        obtain ⟨rfl, rfl, hM21⟩ := hq
        refine K_iinc (y := (l4 + 1)) rfl 4 rfl rfl ?_
        refine K_goto rfl ?_
        refine K_pick [1, 2, 3, 4, 0] ?_
        exact L_Sets_part_55   hk24 n _ _ _ hM21  h
set_option maxRecDepth 20000 in
theorem L_Sets_part_24 {X : mX} {x1 : Int32} {r : mM}  : ∀ (n : Nat) (l3 : Int32) (M : mM), Fx M → f_Sets_part_24 x1  n l3 M = some r → KK X 5 124 24 [(0, .ref 269), (1, .int x1), (2, .ref 246), (3, .int l3)] [] M (fun v M' => v = none ∧ r = M' ∧ Fx r)
  | 0, _, _ => fun _ h => by cases h
  | n + 1, l3, M => fun hM h => by
    unfold f_Sets_part_24 at h
    refine K_iload_n rfl 3 rfl ?_
    refine K_aload_n rfl 0 rfl ?_
    refine K_gI rfl sh_269 hM rfl rfl 1 rfl ?_
    refine K_ic_ge rfl (fun c4 => ?_) (fun c4 => ?_)
    · rw [if_pos c4] at h
      refine K_pick [0] ?_
      exact L_Sets_part_102     _ hM  h
    · rw [if_neg c4] at h
      refine K_iload_n rfl 3 rfl ?_
      refine K_aload_n rfl 0 rfl ?_
      refine K_gR rfl sh_269 hM rfl rfl 5 rfl r_269_5 ?_
      refine K_aln (v := 1024) rfl sh_270 hM (by decide) (by decide) ?_
      refine K_ic_ge rfl (fun c15 => ?_) (fun c15 => ?_)
      · rw [if_pos c15] at h
        refine K_pick [0] ?_
        exact L_Sets_part_102     _ hM  h
      · rw [if_neg c15] at h
        refine K_aload_n rfl 0 rfl ?_
        refine K_aload_n rfl 0 rfl ?_
        refine K_gR rfl sh_269 hM rfl rfl 5 rfl r_269_5 ?_
        refine K_iload_n rfl 3 rfl ?_
        obtain ⟨v16, ev16, h⟩ := Option.bind_eq_some_iff.mp h
        refine K_rd rfl sh_270 hM ev16 ?_
        refine K_aload_n rfl 2 rfl ?_
        obtain ⟨M17, eM17, h⟩ := Option.bind_eq_some_iff.mp h
        refine K_cV [.int v16, .ref 246] [] rfl rfl (Nat.le_of_ble_eq_true rfl) (Nat.le_of_ble_eq_true rfl) sh_269 hM rfl (EV_le (Nat.le_of_ble_eq_true rfl) (F_Sets_startWith hM  eM17)) (fun v' M' hq => ?_)
        obtain ⟨rfl, rfl, hM17⟩ := hq
        refine K_iconst (v := 0) rfl (by decide) ?_
        refine K_istore rfl ?_
        refine K_pick [1, 2, 3, 4, 0] ?_
        exact L_Sets_part_55   (L_Sets_part_24    n) FUEL _ _ _ hM17  h
set_option maxRecDepth 20000 in
theorem F_Sets_part {X : mX} {x1 : Int32} {M : mM} {r : mM} (hM : Fx M)  (h : f_Sets_part x1 M = some r) : EV X (5 + 1) 124 [.ref 269, .int x1, .ref 246] M (fun v M' => v = none ∧ r = M' ∧ Fx r) := by
    refine EV_of (lc := [(0, .ref 269), (1, .int x1), (2, .ref 246)]) (Nat.le_of_ble_eq_true rfl) (by exact Nat.le_of_ble_eq_true rfl) (by exact List.forall_mem_cons.mpr ⟨rfl, List.forall_mem_cons.mpr ⟨rfl, List.forall_mem_cons.mpr ⟨rfl, fun _ h => absurd h List.not_mem_nil⟩⟩⟩) ?_
    unfold f_Sets_part at h
    refine K_iload_n rfl 1 rfl ?_
    refine K_aload_n rfl 0 rfl ?_
    refine K_gI rfl sh_269 hM rfl rfl 2 rfl ?_
    refine K_ic_ne rfl (fun c1 => ?_) (fun c1 => ?_)
    · rw [if_neg c1] at h
      refine K_aload_n rfl 0 rfl ?_
      refine K_iload_n rfl 1 rfl ?_
      obtain ⟨M2, eM2, h⟩ := Option.bind_eq_some_iff.mp h
      refine K_pI rfl sh_269 hM rfl rfl 2 rfl eM2 (fun hM2 => ?_)
      refine K_aload_n rfl 0 rfl ?_
      refine K_gR rfl sh_269 hM2 rfl rfl 7 rfl r_269_7 ?_
      refine K_iconst (v := 0) rfl (by decide) ?_
      obtain ⟨M3, eM3, h⟩ := Option.bind_eq_some_iff.mp h
      refine K_callS [.ref 271, .int 0] [] rfl rfl (Nat.le_of_ble_eq_true rfl) (Nat.le_of_ble_eq_true rfl) (EV_le (Nat.le_of_ble_eq_true rfl) (F_J_fill hM2 sh_271 eM3)) (fun v' M' hq => ?_)
      obtain ⟨rfl, rfl, hM3⟩ := hq
      refine K_iconst (v := 0) rfl (by decide) ?_
      refine K_istore_n rfl ?_
      refine K_pick [1, 2, 3, 0] ?_
      exact L_Sets_part_24    FUEL _ _ hM3  h
    · rw [if_pos c1] at h
      obtain rfl := Option.some.inj h
      exact K_vret rfl rfl ⟨rfl, rfl, hM⟩
set_option maxRecDepth 20000 in
theorem F_GraveRails_look {X : mX} {x1 : Int32} {x2 : Int32} {M : mM} {r : Int32 × mM} (hM : Fx M)  (h : f_GraveRails_look x1 x2 M = some r) : EV X (7 + 1) 123 [.ref 0, .int x1, .int x2] M (fun v M' => v = some (.int r.1) ∧ r.2 = M' ∧ Fx r.2) := by
    refine EV_of (lc := [(0, .ref 0), (1, .int x1), (2, .int x2)]) (Nat.le_of_ble_eq_true rfl) (by exact Nat.le_of_ble_eq_true rfl) (by exact List.forall_mem_cons.mpr ⟨rfl, List.forall_mem_cons.mpr ⟨rfl, List.forall_mem_cons.mpr ⟨rfl, fun _ h => absurd h List.not_mem_nil⟩⟩⟩) ?_
    unfold f_GraveRails_look at h
    refine K_aload_n rfl 0 rfl ?_
    refine K_gR rfl sh_0 hM rfl rfl 5 rfl r_0_5 ?_
    refine K_gR rfl sh_20 hM rfl rfl 0 rfl r_20_0 ?_
    obtain ⟨r1, er1, h⟩ := Option.bind_eq_some_iff.mp h
    refine K_cV [] [] rfl rfl (Nat.le_of_ble_eq_true rfl) (Nat.le_of_ble_eq_true rfl) sh_21 hM rfl (EV_le (Nat.le_of_ble_eq_true rfl) (F_Yard_isTold hM yd_21 er1)) (fun v' M' hq => ?_)
    obtain ⟨rfl, rfl, hr1⟩ := hq
    refine K_if_eq rfl (fun c2 => ?_) (fun c2 => ?_)
    · rw [if_pos c2] at h
      refine K_iconst (v := (-1)) rfl (by decide) ?_
      obtain rfl := Option.some.inj h
      exact K_iret rfl (Or.inl rfl) ⟨rfl, rfl, hr1⟩
    · rw [if_neg c2] at h
      refine K_iload_n rfl 1 rfl ?_
      refine K_if_lt rfl (fun c3 => ?_) (fun c3 => ?_)
      · rw [if_pos c3] at h
        refine K_iconst (v := (-1)) rfl (by decide) ?_
        obtain rfl := Option.some.inj h
        exact K_iret rfl (Or.inl rfl) ⟨rfl, rfl, hr1⟩
      · rw [if_neg c3] at h
        refine K_iload_n rfl 1 rfl ?_
        refine K_bipush (v := 99) rfl (by decide) ?_
        refine K_ic_gt rfl (fun c4 => ?_) (fun c4 => ?_)
        · rw [if_pos c4] at h
          refine K_iconst (v := (-1)) rfl (by decide) ?_
          obtain rfl := Option.some.inj h
          exact K_iret rfl (Or.inl rfl) ⟨rfl, rfl, hr1⟩
        · rw [if_neg c4] at h
          refine K_iload_n rfl 2 rfl ?_
          refine K_if_lt rfl (fun c5 => ?_) (fun c5 => ?_)
          · rw [if_pos c5] at h
            refine K_iconst (v := (-1)) rfl (by decide) ?_
            obtain rfl := Option.some.inj h
            exact K_iret rfl (Or.inl rfl) ⟨rfl, rfl, hr1⟩
          · rw [if_neg c5] at h
            refine K_iload_n rfl 2 rfl ?_
            refine K_iconst (v := 1) rfl (by decide) ?_
            refine K_ic_le rfl (fun c6 => ?_) (fun c6 => ?_)
            · rw [if_pos c6] at h
              refine K_aload_n rfl 0 rfl ?_
              refine K_gR rfl sh_0 hr1 rfl rfl 9 rfl r_0_9 ?_
              refine K_aload_n rfl 0 rfl ?_
              refine K_gR rfl sh_0 hr1 rfl rfl 5 rfl r_0_5 ?_
              refine K_aload_n rfl 0 rfl ?_
              obtain ⟨r7, er7, h⟩ := Option.bind_eq_some_iff.mp h
              refine K_cV [] [.ref 20, .ref 269] rfl rfl (Nat.le_of_ble_eq_true rfl) (Nat.le_of_ble_eq_true rfl) sh_0 hr1 rfl (EV_le (Nat.le_of_ble_eq_true rfl) (F_GraveRails_ruleInForce hr1  er7)) (fun v' M' hq => ?_)
              obtain ⟨rfl, rfl, hr7⟩ := hq
              refine K_aload_n rfl 0 rfl ?_
              refine K_gR rfl sh_0 hr7 rfl rfl 8 rfl r_0_8 ?_
              obtain ⟨M8, eM8, h⟩ := Option.bind_eq_some_iff.mp h
              refine K_cV [.ref 20, va_rf r7.1, .ref 246] [] rfl rfl (Nat.le_of_ble_eq_true rfl) (Nat.le_of_ble_eq_true rfl) sh_269 hr7 rfl (EV_le (Nat.le_of_ble_eq_true rfl) (F_Sets_find hr7 wo_20 eM8)) (fun v' M' hq => ?_)
              obtain ⟨rfl, rfl, hM8⟩ := hq
              refine K_aload_n rfl 0 rfl ?_
              refine K_gR rfl sh_0 hM8 rfl rfl 9 rfl r_0_9 ?_
              refine K_gI rfl sh_269 hM8 rfl rfl 1 rfl ?_
              refine K_if_eq rfl (fun c9 => ?_) (fun c9 => ?_)
              · rw [if_pos c9] at h
                refine K_bipush (v := (-2)) rfl (by decide) ?_
                obtain rfl := Option.some.inj h
                exact K_iret rfl (Or.inl rfl) ⟨rfl, rfl, hM8⟩
              · rw [if_neg c9] at h
                refine K_aload_n rfl 0 rfl ?_
                refine K_gR rfl sh_0 hM8 rfl rfl 5 rfl r_0_5 ?_
                refine K_gR rfl sh_20 hM8 rfl rfl 0 rfl r_20_0 ?_
                refine K_gI rfl sh_21 hM8 rfl rfl 2 rfl ?_
                refine K_if_ne rfl (fun c10 => ?_) (fun c10 => ?_)
                · rw [if_neg c10] at h
                  refine K_aload_n rfl 0 rfl ?_
                  refine K_gR rfl sh_0 hM8 rfl rfl 9 rfl r_0_9 ?_
                  refine K_iload_n rfl 1 rfl ?_
                  refine K_aload_n rfl 0 rfl ?_
                  refine K_gR rfl sh_0 hM8 rfl rfl 8 rfl r_0_8 ?_
                  obtain ⟨M11, eM11, h⟩ := Option.bind_eq_some_iff.mp h
                  refine K_cV [.int x1, .ref 246] [] rfl rfl (Nat.le_of_ble_eq_true rfl) (Nat.le_of_ble_eq_true rfl) sh_269 hM8 rfl (EV_le (Nat.le_of_ble_eq_true rfl) (F_Sets_part hM8  eM11)) (fun v' M' hq => ?_)
                  obtain ⟨rfl, rfl, hM11⟩ := hq
                  refine K_iload_n rfl 2 rfl ?_
                  refine K_if_ne rfl (fun c12 => ?_) (fun c12 => ?_)
                  · rw [if_neg c12] at h
                    refine K_aload_n rfl 0 rfl ?_
                    refine K_gR rfl sh_0 hM11 rfl rfl 9 rfl r_0_9 ?_
                    refine K_gI rfl sh_269 hM11 rfl rfl 4 rfl ?_
                    obtain rfl := Option.some.inj h
                    exact K_iret rfl (Or.inl rfl) ⟨rfl, rfl, hM11⟩
                  · rw [if_pos c12] at h
                    refine K_aload_n rfl 0 rfl ?_
                    refine K_gR rfl sh_0 hM11 rfl rfl 9 rfl r_0_9 ?_
                    refine K_gI rfl sh_269 hM11 rfl rfl 3 rfl ?_
                    refine K_goto rfl ?_
                    obtain rfl := Option.some.inj h
                    exact K_iret rfl (Or.inl rfl) ⟨rfl, rfl, hM11⟩
                · rw [if_pos c10] at h
                  refine K_bipush (v := (-2)) rfl (by decide) ?_
                  obtain rfl := Option.some.inj h
                  exact K_iret rfl (Or.inl rfl) ⟨rfl, rfl, hM8⟩
            · rw [if_neg c6] at h
              refine K_iconst (v := (-1)) rfl (by decide) ?_
              obtain rfl := Option.some.inj h
              exact K_iret rfl (Or.inl rfl) ⟨rfl, rfl, hr1⟩
set_option maxRecDepth 20000 in
theorem F_GraveRails_seed {X : mX} {x1 : Int32} {M : mM} {r : Int32 × mM} (hM : Fx M)  (h : f_GraveRails_seed x1 M = some r) : EV X (0 + 1) 127 [.ref 0, .int x1] M (fun v M' => v = some (.int r.1) ∧ r.2 = M' ∧ Fx r.2) := by
    refine EV_of (lc := [(0, .ref 0), (1, .int x1)]) (Nat.le_of_ble_eq_true rfl) (by exact Nat.le_of_ble_eq_true rfl) (by exact List.forall_mem_cons.mpr ⟨rfl, List.forall_mem_cons.mpr ⟨rfl, fun _ h => absurd h List.not_mem_nil⟩⟩) ?_
    unfold f_GraveRails_seed at h
    refine K_iload_n rfl 1 rfl ?_
    refine K_if_ge rfl (fun c1 => ?_) (fun c1 => ?_)
    · rw [if_pos c1] at h
      refine K_aload_n rfl 0 rfl ?_
      refine K_gR rfl sh_0 hM rfl rfl 5 rfl r_0_5 ?_
      refine K_gI rfl sh_20 hM rfl rfl 4 rfl ?_
      refine K_istore_n rfl ?_
      refine K_aload_n rfl 1 rfl ?_
      refine K_gR rfl sh_0 hM rfl rfl 5 rfl r_0_5 ?_
      refine K_iload_n rfl 2 rfl ?_
      obtain ⟨M2, eM2, h⟩ := Option.bind_eq_some_iff.mp h
      refine K_pI rfl sh_20 hM rfl rfl 4 rfl eM2 (fun hM2 => ?_)
      refine K_iload_n rfl 0 rfl ?_
      obtain rfl := Option.some.inj h
      exact K_iret rfl (Or.inl rfl) ⟨rfl, rfl, hM2⟩
    · rw [if_neg c1] at h
      refine K_iconst (v := (-1)) rfl (by decide) ?_
      obtain rfl := Option.some.inj h
      exact K_iret rfl (Or.inl rfl) ⟨rfl, rfl, hM⟩
set_option maxRecDepth 20000 in
theorem L_GraveRails_drawn_140 {X : mX} {x1 : Int32} {x2 : Int32} {x3 : Int32} {x4 : Int32} {k80 : Int64 → Int32 → Int32 → Int32 → mM → Option (Int32 × mM)} {k93 : Int64 → Int32 → Int32 → Int32 → Int32 → mM → Option (Int32 × mM)} {r : Int32 × mM}  (hk80 : ∀ (l5 : Int64) (l7 : Int32) (l8 : Int32) (l9 : Int32) (M : mM), Fx M → k80 l5 l7 l8 l9 M = some r → KK X 5 128 80 [(0, .ref 0), (1, .int x1), (2, .int x2), (3, .int x3), (4, .int x4), (5, .long l5), (7, .int l7), (8, .int l8), (9, .int l9)] [] M (fun v M' => v = some (.int r.1) ∧ r.2 = M' ∧ Fx r.2)) (hk93 : ∀ (l5 : Int64) (l7 : Int32) (l8 : Int32) (l9 : Int32) (l10 : Int32) (M : mM), Fx M → k93 l5 l7 l8 l9 l10 M = some r → KK X 5 128 93 [(0, .ref 0), (1, .int x1), (2, .int x2), (3, .int x3), (4, .int x4), (5, .long l5), (7, .int l7), (8, .int l8), (9, .int l9), (10, .int l10)] [] M (fun v M' => v = some (.int r.1) ∧ r.2 = M' ∧ Fx r.2)) (l5 : Int64) (l7 : Int32) (l8 : Int32) (l9 : Int32) (l10 : Int32) (s1 : Int32) (M : mM) (hM : Fx M)  (h : f_GraveRails_drawn_140 x1 x2 x3 x4 k80 k93 l5 l7 l8 l9 l10 s1 M = some r) : KK X 5 128 140 [(0, .ref 0), (1, .int x1), (2, .int x2), (3, .int x3), (4, .int x4), (5, .long l5), (7, .int l7), (8, .int l8), (9, .int l9), (10, .int l10)] [.int s1, .ref 246] M (fun v M' => v = some (.int r.1) ∧ r.2 = M' ∧ Fx r.2) := by
    unfold f_GraveRails_drawn_140 at h
    obtain ⟨M16, eM16, h⟩ := Option.bind_eq_some_iff.mp h
    refine K_pZ rfl sh_246 hM rfl rfl 4 rfl eM16 (fun hM16 => ?_)
    refine K_aload_n rfl 0 rfl ?_
    refine K_gR rfl sh_0 hM16 rfl rfl 8 rfl r_0_8 ?_
    obtain ⟨M17, eM17, h⟩ := Option.bind_eq_some_iff.mp h
    refine K_cV [] [] rfl rfl (Nat.le_of_ble_eq_true rfl) (Nat.le_of_ble_eq_true rfl) sh_246 hM16 rfl (EV_le (Nat.le_of_ble_eq_true rfl) (F_Course_goYear hM16  eM17)) (fun v' M' hq => ?_)
    obtain ⟨rfl, rfl, hM17⟩ := hq
    refine K_iinc (y := (l10 + 1)) rfl 9 rfl rfl ?_
    refine K_goto rfl ?_
    refine K_pick [1, 2, 3, 4, 5, 6, 7, 8, 9, 0] ?_
    exact hk93 _ _ _ _ _ _ hM17  h
set_option maxRecDepth 20000 in
theorem L_GraveRails_drawn_93 {X : mX} {x1 : Int32} {x2 : Int32} {x3 : Int32} {x4 : Int32} {k80 : Int64 → Int32 → Int32 → Int32 → mM → Option (Int32 × mM)} {r : Int32 × mM}  (hk80 : ∀ (l5 : Int64) (l7 : Int32) (l8 : Int32) (l9 : Int32) (M : mM), Fx M → k80 l5 l7 l8 l9 M = some r → KK X 5 128 80 [(0, .ref 0), (1, .int x1), (2, .int x2), (3, .int x3), (4, .int x4), (5, .long l5), (7, .int l7), (8, .int l8), (9, .int l9)] [] M (fun v M' => v = some (.int r.1) ∧ r.2 = M' ∧ Fx r.2)) : ∀ (n : Nat) (l5 : Int64) (l7 : Int32) (l8 : Int32) (l9 : Int32) (l10 : Int32) (M : mM), Fx M → f_GraveRails_drawn_93 x1 x2 x3 x4 k80 n l5 l7 l8 l9 l10 M = some r → KK X 5 128 93 [(0, .ref 0), (1, .int x1), (2, .int x2), (3, .int x3), (4, .int x4), (5, .long l5), (7, .int l7), (8, .int l8), (9, .int l9), (10, .int l10)] [] M (fun v M' => v = some (.int r.1) ∧ r.2 = M' ∧ Fx r.2)
  | 0, _, _, _, _, _, _ => fun _ h => by cases h
  | n + 1, l5, l7, l8, l9, l10, M => fun hM h => by
    unfold f_GraveRails_drawn_93 at h
    refine K_iload rfl 9 rfl ?_
    refine K_iload_n rfl 2 rfl ?_
    refine K_ic_ge rfl (fun c14 => ?_) (fun c14 => ?_)
    · rw [if_pos c14] at h
      refine K_iload rfl 6 rfl ?_
      refine K_aload_n rfl 0 rfl ?_
      refine K_gR rfl sh_0 hM rfl rfl 8 rfl r_0_8 ?_
      refine K_gI rfl sh_246 hM rfl rfl 2 rfl ?_
      refine K_iadd rfl ?_
      refine K_istore rfl ?_
      refine K_iload rfl 7 rfl ?_
      refine K_aload_n rfl 1 rfl ?_
      refine K_gR rfl sh_0 hM rfl rfl 8 rfl r_0_8 ?_
      refine K_gI rfl sh_246 hM rfl rfl 3 rfl ?_
      refine K_iadd rfl ?_
      refine K_istore rfl ?_
      refine K_iinc (y := (l9 + 1)) rfl 8 rfl rfl ?_
      refine K_goto rfl ?_
      refine K_pick [3, 4, 5, 6, 7, 8, 2, 1, 0] ?_
      exact hk80 _ _ _ _ _ hM  h
    · rw [if_neg c14] at h
      refine K_lload rfl 5 rfl ?_
      refine K_ldc2 (v := 1103515245) rfl (by decide) ?_
      refine K_lmul rfl ?_
      refine K_ldc2 (v := 12345) rfl (by decide) ?_
      refine K_ladd rfl ?_
      refine K_ldc2 (v := 2147483648) rfl (by decide) ?_
      refine K_lrem rfl (by decide) ?_
      refine K_lstore rfl ?_
      refine K_aload_n rfl 1 rfl ?_
      refine K_gR rfl sh_0 hM rfl rfl 8 rfl r_0_8 ?_
      refine K_lload rfl 0 rfl ?_
      refine K_ldc2 (v := 65536) rfl (by decide) ?_
      refine K_ldiv rfl (by decide) ?_
      refine K_ldc2 (v := 100) rfl (by decide) ?_
      refine K_lrem rfl (by decide) ?_
      refine K_iload_n rfl 4 rfl ?_
      refine K_i2l rfl ?_
      refine K_lcmp rfl ?_
      refine K_if_ge rfl (fun c15 => ?_) (fun c15 => ?_)
      · rw [if_pos c15] at h
        refine K_iconst (v := 0) rfl (by decide) ?_
        refine K_pick [1, 2, 3, 4, 5, 0, 6, 7, 8, 9] ?_
        exact L_GraveRails_drawn_140   hk80 (L_GraveRails_drawn_93   hk80 n) _ _ _ _ _ _ _ hM  h
      · rw [if_neg c15] at h
        refine K_iconst (v := 1) rfl (by decide) ?_
        refine K_goto rfl ?_
        refine K_pick [1, 2, 3, 4, 5, 0, 6, 7, 8, 9] ?_
        exact L_GraveRails_drawn_140   hk80 (L_GraveRails_drawn_93   hk80 n) _ _ _ _ _ _ _ hM  h
set_option maxRecDepth 20000 in
theorem L_GraveRails_drawn_80 {X : mX} {x1 : Int32} {x2 : Int32} {x3 : Int32} {x4 : Int32} {r : Int32 × mM}  : ∀ (n : Nat) (l5 : Int64) (l7 : Int32) (l8 : Int32) (l9 : Int32) (M : mM), Fx M → f_GraveRails_drawn_80 x1 x2 x3 x4  n l5 l7 l8 l9 M = some r → KK X 5 128 80 [(0, .ref 0), (1, .int x1), (2, .int x2), (3, .int x3), (4, .int x4), (5, .long l5), (7, .int l7), (8, .int l8), (9, .int l9)] [] M (fun v M' => v = some (.int r.1) ∧ r.2 = M' ∧ Fx r.2)
  | 0, _, _, _, _, _ => fun _ h => by cases h
  | n + 1, l5, l7, l8, l9, M => fun hM h => by
    unfold f_GraveRails_drawn_80 at h
    refine K_iload rfl 8 rfl ?_
    refine K_iload_n rfl 1 rfl ?_
    refine K_ic_ge rfl (fun c11 => ?_) (fun c11 => ?_)
    · rw [if_pos c11] at h
      refine K_iload rfl 4 rfl ?_
      refine K_if_ne rfl (fun c12 => ?_) (fun c12 => ?_)
      · rw [if_neg c12] at h
        refine K_iload rfl 7 rfl ?_
        obtain rfl := Option.some.inj h
        exact K_iret rfl (Or.inl rfl) ⟨rfl, rfl, hM⟩
      · rw [if_pos c12] at h
        refine K_iload rfl 6 rfl ?_
        refine K_goto rfl ?_
        obtain rfl := Option.some.inj h
        exact K_iret rfl (Or.inl rfl) ⟨rfl, rfl, hM⟩
    · rw [if_neg c11] at h
      refine K_aload_n rfl 0 rfl ?_
      obtain ⟨M13, eM13, h⟩ := Option.bind_eq_some_iff.mp h
      refine K_cV [] [] rfl rfl (Nat.le_of_ble_eq_true rfl) (Nat.le_of_ble_eq_true rfl) sh_0 hM rfl (EV_le (Nat.le_of_ble_eq_true rfl) (F_GraveRails_startFromNow hM  eM13)) (fun v' M' hq => ?_)
      obtain ⟨rfl, rfl, hM13⟩ := hq
      refine K_iconst (v := 0) rfl (by decide) ?_
      refine K_istore rfl ?_
      refine K_pick [1, 2, 3, 4, 5, 6, 7, 8, 9, 0] ?_
      exact L_GraveRails_drawn_93   (L_GraveRails_drawn_80    n) FUEL _ _ _ _ _ _ hM13  h
set_option maxRecDepth 20000 in
theorem F_GraveRails_drawn {X : mX} {x1 : Int32} {x2 : Int32} {x3 : Int32} {x4 : Int32} {M : mM} {r : Int32 × mM} (hM : Fx M)  (h : f_GraveRails_drawn x1 x2 x3 x4 M = some r) : EV X (5 + 1) 128 [.ref 0, .int x1, .int x2, .int x3, .int x4] M (fun v M' => v = some (.int r.1) ∧ r.2 = M' ∧ Fx r.2) := by
    refine EV_of (lc := [(0, .ref 0), (1, .int x1), (2, .int x2), (3, .int x3), (4, .int x4)]) (Nat.le_of_ble_eq_true rfl) (by exact Nat.le_of_ble_eq_true rfl) (by exact List.forall_mem_cons.mpr ⟨rfl, List.forall_mem_cons.mpr ⟨rfl, List.forall_mem_cons.mpr ⟨rfl, List.forall_mem_cons.mpr ⟨rfl, List.forall_mem_cons.mpr ⟨rfl, fun _ h => absurd h List.not_mem_nil⟩⟩⟩⟩⟩) ?_
    unfold f_GraveRails_drawn at h
    refine K_aload_n rfl 0 rfl ?_
    refine K_gR rfl sh_0 hM rfl rfl 5 rfl r_0_5 ?_
    refine K_gR rfl sh_20 hM rfl rfl 0 rfl r_20_0 ?_
    obtain ⟨r1, er1, h⟩ := Option.bind_eq_some_iff.mp h
    refine K_cV [] [] rfl rfl (Nat.le_of_ble_eq_true rfl) (Nat.le_of_ble_eq_true rfl) sh_21 hM rfl (EV_le (Nat.le_of_ble_eq_true rfl) (F_Yard_isTold hM yd_21 er1)) (fun v' M' hq => ?_)
    obtain ⟨rfl, rfl, hr1⟩ := hq
    refine K_if_eq rfl (fun c2 => ?_) (fun c2 => ?_)
    · rw [if_pos c2] at h
      refine K_iconst (v := (-1)) rfl (by decide) ?_
      obtain rfl := Option.some.inj h
      exact K_iret rfl (Or.inl rfl) ⟨rfl, rfl, hr1⟩
    · rw [if_neg c2] at h
      refine K_iload_n rfl 1 rfl ?_
      refine K_iconst (v := 1) rfl (by decide) ?_
      refine K_ic_lt rfl (fun c3 => ?_) (fun c3 => ?_)
      · rw [if_pos c3] at h
        refine K_iconst (v := (-1)) rfl (by decide) ?_
        obtain rfl := Option.some.inj h
        exact K_iret rfl (Or.inl rfl) ⟨rfl, rfl, hr1⟩
      · rw [if_neg c3] at h
        refine K_iload_n rfl 1 rfl ?_
        refine K_bipush (v := 10) rfl (by decide) ?_
        refine K_ic_gt rfl (fun c4 => ?_) (fun c4 => ?_)
        · rw [if_pos c4] at h
          refine K_iconst (v := (-1)) rfl (by decide) ?_
          obtain rfl := Option.some.inj h
          exact K_iret rfl (Or.inl rfl) ⟨rfl, rfl, hr1⟩
        · rw [if_neg c4] at h
          refine K_iload_n rfl 2 rfl ?_
          refine K_iconst (v := 1) rfl (by decide) ?_
          refine K_ic_lt rfl (fun c5 => ?_) (fun c5 => ?_)
          · rw [if_pos c5] at h
            refine K_iconst (v := (-1)) rfl (by decide) ?_
            obtain rfl := Option.some.inj h
            exact K_iret rfl (Or.inl rfl) ⟨rfl, rfl, hr1⟩
          · rw [if_neg c5] at h
            refine K_iload_n rfl 2 rfl ?_
            refine K_bipush (v := 60) rfl (by decide) ?_
            refine K_ic_gt rfl (fun c6 => ?_) (fun c6 => ?_)
            · rw [if_pos c6] at h
              refine K_iconst (v := (-1)) rfl (by decide) ?_
              obtain rfl := Option.some.inj h
              exact K_iret rfl (Or.inl rfl) ⟨rfl, rfl, hr1⟩
            · rw [if_neg c6] at h
              refine K_iload_n rfl 3 rfl ?_
              refine K_if_lt rfl (fun c7 => ?_) (fun c7 => ?_)
              · rw [if_pos c7] at h
                refine K_iconst (v := (-1)) rfl (by decide) ?_
                obtain rfl := Option.some.inj h
                exact K_iret rfl (Or.inl rfl) ⟨rfl, rfl, hr1⟩
              · rw [if_neg c7] at h
                refine K_iload_n rfl 3 rfl ?_
                refine K_i2l rfl ?_
                refine K_ldc2 (v := 100) rfl (by decide) ?_
                refine K_lcmp rfl ?_
                refine K_if_gt rfl (fun c8 => ?_) (fun c8 => ?_)
                · rw [if_pos c8] at h
                  refine K_iconst (v := (-1)) rfl (by decide) ?_
                  obtain rfl := Option.some.inj h
                  exact K_iret rfl (Or.inl rfl) ⟨rfl, rfl, hr1⟩
                · rw [if_neg c8] at h
                  refine K_iload rfl 4 rfl ?_
                  refine K_if_lt rfl (fun c9 => ?_) (fun c9 => ?_)
                  · rw [if_pos c9] at h
                    refine K_iconst (v := (-1)) rfl (by decide) ?_
                    obtain rfl := Option.some.inj h
                    exact K_iret rfl (Or.inl rfl) ⟨rfl, rfl, hr1⟩
                  · rw [if_neg c9] at h
                    refine K_iload rfl 4 rfl ?_
                    refine K_iconst (v := 1) rfl (by decide) ?_
                    refine K_ic_le rfl (fun c10 => ?_) (fun c10 => ?_)
                    · rw [if_pos c10] at h
                      refine K_aload_n rfl 0 rfl ?_
                      refine K_gR rfl sh_0 hr1 rfl rfl 5 rfl r_0_5 ?_
                      refine K_gI rfl sh_20 hr1 rfl rfl 4 rfl ?_
                      refine K_i2l rfl ?_
                      refine K_lstore rfl ?_
                      refine K_iconst (v := 0) rfl (by decide) ?_
                      refine K_istore rfl ?_
                      refine K_iconst (v := 0) rfl (by decide) ?_
                      refine K_istore rfl ?_
                      refine K_iconst (v := 0) rfl (by decide) ?_
                      refine K_istore rfl ?_
                      refine K_pick [4, 5, 6, 7, 8, 3, 2, 1, 0] ?_
                      exact L_GraveRails_drawn_80    FUEL _ _ _ _ _ hr1  h
                    · rw [if_neg c10] at h
                      refine K_iconst (v := (-1)) rfl (by decide) ?_
                      obtain rfl := Option.some.inj h
                      exact K_iret rfl (Or.inl rfl) ⟨rfl, rfl, hr1⟩
set_option maxRecDepth 20000 in
theorem L_State_whoIsHeld_35 {X : mX} {S : Nat} {k4 : Int32 → Int32 → mM → Option (Int32 × mM)} {r : Int32 × mM} (hS : is_st S) (hk4 : ∀ (l1 : Int32) (l2 : Int32) (M : mM), Fx M → k4 l1 l2 M = some r → KK X 0 130 4 [(0, .ref S), (1, .int l1), (2, .int l2)] [] M (fun v M' => v = some (.int r.1) ∧ r.2 = M' ∧ Fx r.2)) (l2 : Int32) (s0 : Int32) (s1 : Int32) (M : mM) (hM : Fx M)  (h : f_State_whoIsHeld_35 S k4 l2 s0 s1 M = some r) : KK X 0 130 35 [(0, .ref S), (2, .int l2)] [.int s1, .int s0] M (fun v M' => v = some (.int r.1) ∧ r.2 = M' ∧ Fx r.2) := by
    unfold f_State_whoIsHeld_35 at h
    refine K_ior rfl ?_
    refine K_istore_n rfl ?_
    refine K_iinc (y := (l2 + 1)) rfl 2 rfl rfl ?_
    refine K_goto rfl ?_
    refine K_pick [2, 1, 0] ?_
    exact hk4 _ _ _ hM  h
set_option maxRecDepth 20000 in
theorem L_State_whoIsHeld_4 {X : mX} {S : Nat} {r : Int32 × mM} (hS : is_st S) : ∀ (n : Nat) (l1 : Int32) (l2 : Int32) (M : mM), Fx M → f_State_whoIsHeld_4 S  n l1 l2 M = some r → KK X 0 130 4 [(0, .ref S), (1, .int l1), (2, .int l2)] [] M (fun v M' => v = some (.int r.1) ∧ r.2 = M' ∧ Fx r.2)
  | 0, _, _, _ => fun _ h => by cases h
  | n + 1, l1, l2, M => fun hM h => by
    unfold f_State_whoIsHeld_4 at h
    refine K_iload_n rfl 2 rfl ?_
    refine K_aload_n rfl 0 rfl ?_
    refine K_gI rfl (st_s0 hS) hM rfl rfl 1 rfl ?_
    refine K_ic_ge rfl (fun c1 => ?_) (fun c1 => ?_)
    · rw [if_pos c1] at h
      refine K_iload_n rfl 1 rfl ?_
      obtain rfl := Option.some.inj h
      exact K_iret rfl (Or.inl rfl) ⟨rfl, rfl, hM⟩
    · rw [if_neg c1] at h
      refine K_iload_n rfl 2 rfl ?_
      refine K_bipush (v := 11) rfl (by decide) ?_
      refine K_ic_ge rfl (fun c2 => ?_) (fun c2 => ?_)
      · rw [if_pos c2] at h
        refine K_iload_n rfl 1 rfl ?_
        obtain rfl := Option.some.inj h
        exact K_iret rfl (Or.inl rfl) ⟨rfl, rfl, hM⟩
      · rw [if_neg c2] at h
        refine K_iload_n rfl 1 rfl ?_
        refine K_aload_n rfl 0 rfl ?_
        refine K_gR rfl (st_s0 hS) hM rfl rfl 6 rfl (st_r6 hS) ?_
        refine K_iload_n rfl 2 rfl ?_
        obtain ⟨v3, ev3, h⟩ := Option.bind_eq_some_iff.mp h
        refine K_rd rfl (st_s4 hS) hM ev3 ?_
        refine K_if_le rfl (fun c4 => ?_) (fun c4 => ?_)
        · rw [if_pos c4] at h
          refine K_iconst (v := 0) rfl (by decide) ?_
          refine K_pick [0, 2] ?_
          exact L_State_whoIsHeld_35 hS  (L_State_whoIsHeld_4 hS   n) _ _ _ _ hM  h
        · rw [if_neg c4] at h
          refine K_iconst (v := 1) rfl (by decide) ?_
          refine K_iload_n rfl 2 rfl ?_
          refine K_ishl rfl ?_
          refine K_goto rfl ?_
          refine K_pick [0, 2] ?_
          exact L_State_whoIsHeld_35 hS  (L_State_whoIsHeld_4 hS   n) _ _ _ _ hM  h
set_option maxRecDepth 20000 in
theorem F_State_whoIsHeld {X : mX} {S : Nat} {M : mM} {r : Int32 × mM} (hM : Fx M) (hS : is_st S) (h : f_State_whoIsHeld S M = some r) : EV X (0 + 1) 130 [.ref S] M (fun v M' => v = some (.int r.1) ∧ r.2 = M' ∧ Fx r.2) := by
    refine EV_of (lc := [(0, .ref S)]) (Nat.le_of_ble_eq_true rfl) (by exact Nat.le_of_ble_eq_true rfl) (by exact List.forall_mem_cons.mpr ⟨rfl, fun _ h => absurd h List.not_mem_nil⟩) ?_
    unfold f_State_whoIsHeld at h
    refine K_iconst (v := 0) rfl (by decide) ?_
    refine K_istore_n rfl ?_
    refine K_iconst (v := 0) rfl (by decide) ?_
    refine K_istore_n rfl ?_
    refine K_pick [2, 1, 0] ?_
    exact L_State_whoIsHeld_4 hS   FUEL _ _ _ hM  h
set_option maxRecDepth 20000 in
theorem L_State_allRounds_4 {X : mX} {S : Nat} {r : Int32 × mM} (hS : is_st S) : ∀ (n : Nat) (l1 : Int32) (l2 : Int32) (M : mM), Fx M → f_State_allRounds_4 S  n l1 l2 M = some r → KK X 0 131 4 [(0, .ref S), (1, .int l1), (2, .int l2)] [] M (fun v M' => v = some (.int r.1) ∧ r.2 = M' ∧ Fx r.2)
  | 0, _, _, _ => fun _ h => by cases h
  | n + 1, l1, l2, M => fun hM h => by
    unfold f_State_allRounds_4 at h
    refine K_iload_n rfl 2 rfl ?_
    refine K_aload_n rfl 0 rfl ?_
    refine K_gI rfl (st_s0 hS) hM rfl rfl 1 rfl ?_
    refine K_ic_ge rfl (fun c1 => ?_) (fun c1 => ?_)
    · rw [if_pos c1] at h
      refine K_iload_n rfl 1 rfl ?_
      obtain rfl := Option.some.inj h
      exact K_iret rfl (Or.inl rfl) ⟨rfl, rfl, hM⟩
    · rw [if_neg c1] at h
      refine K_iload_n rfl 2 rfl ?_
      refine K_bipush (v := 11) rfl (by decide) ?_
      refine K_ic_ge rfl (fun c2 => ?_) (fun c2 => ?_)
      · rw [if_pos c2] at h
        refine K_iload_n rfl 1 rfl ?_
        obtain rfl := Option.some.inj h
        exact K_iret rfl (Or.inl rfl) ⟨rfl, rfl, hM⟩
      · rw [if_neg c2] at h
        refine K_iload_n rfl 1 rfl ?_
        refine K_aload_n rfl 0 rfl ?_
        refine K_gR rfl (st_s0 hS) hM rfl rfl 9 rfl (st_r9 hS) ?_
        refine K_iload_n rfl 2 rfl ?_
        obtain ⟨v3, ev3, h⟩ := Option.bind_eq_some_iff.mp h
        refine K_rd rfl (st_s7 hS) hM ev3 ?_
        refine K_iadd rfl ?_
        refine K_istore_n rfl ?_
        refine K_iinc (y := (l2 + 1)) rfl 2 rfl rfl ?_
        refine K_goto rfl ?_
        refine K_pick [2, 1, 0] ?_
        exact L_State_allRounds_4 hS   n _ _ _ hM  h
set_option maxRecDepth 20000 in
theorem F_State_allRounds {X : mX} {S : Nat} {M : mM} {r : Int32 × mM} (hM : Fx M) (hS : is_st S) (h : f_State_allRounds S M = some r) : EV X (0 + 1) 131 [.ref S] M (fun v M' => v = some (.int r.1) ∧ r.2 = M' ∧ Fx r.2) := by
    refine EV_of (lc := [(0, .ref S)]) (Nat.le_of_ble_eq_true rfl) (by exact Nat.le_of_ble_eq_true rfl) (by exact List.forall_mem_cons.mpr ⟨rfl, fun _ h => absurd h List.not_mem_nil⟩) ?_
    unfold f_State_allRounds at h
    refine K_iconst (v := 0) rfl (by decide) ?_
    refine K_istore_n rfl ?_
    refine K_iconst (v := 0) rfl (by decide) ?_
    refine K_istore_n rfl ?_
    refine K_pick [2, 1, 0] ?_
    exact L_State_allRounds_4 hS   FUEL _ _ _ hM  h
set_option maxRecDepth 20000 in
theorem F_GraveRails_count {X : mX} {x1 : Int32} {M : mM} {r : Int32 × mM} (hM : Fx M)  (h : f_GraveRails_count x1 M = some r) : EV X (1 + 1) 129 [.ref 0, .int x1] M (fun v M' => v = some (.int r.1) ∧ r.2 = M' ∧ Fx r.2) := by
    refine EV_of (lc := [(0, .ref 0), (1, .int x1)]) (Nat.le_of_ble_eq_true rfl) (by exact Nat.le_of_ble_eq_true rfl) (by exact List.forall_mem_cons.mpr ⟨rfl, List.forall_mem_cons.mpr ⟨rfl, fun _ h => absurd h List.not_mem_nil⟩⟩) ?_
    unfold f_GraveRails_count at h
    refine K_aload_n rfl 0 rfl ?_
    refine K_gR rfl sh_0 hM rfl rfl 5 rfl r_0_5 ?_
    refine K_gR rfl sh_20 hM rfl rfl 1 rfl r_20_1 ?_
    refine K_astore_n rfl ?_
    refine K_iload_n rfl 2 rfl ?_
    by_cases c1 : x1 = 0
    · rw [if_pos c1] at h
      refine K_ts (t := 76) rfl (fun _ => by rw [c1]; rfl) ?_
      refine K_aload_n rfl 1 rfl ?_
      refine K_gR rfl sh_0 hM rfl rfl 5 rfl r_0_5 ?_
      refine K_gR rfl sh_20 hM rfl rfl 0 rfl r_20_0 ?_
      refine K_gI rfl sh_21 hM rfl rfl 0 rfl ?_
      obtain rfl := Option.some.inj h
      exact K_iret rfl (Or.inl rfl) ⟨rfl, rfl, hM⟩
    · rw [if_neg c1] at h
      by_cases c2 : x1 = 1
      · rw [if_pos c2] at h
        refine K_ts (t := 87) rfl (fun _ => by rw [c2]; rfl) ?_
        refine K_aload_n rfl 1 rfl ?_
        refine K_gR rfl sh_0 hM rfl rfl 5 rfl r_0_5 ?_
        refine K_gR rfl sh_20 hM rfl rfl 0 rfl r_20_0 ?_
        refine K_gI rfl sh_21 hM rfl rfl 1 rfl ?_
        obtain rfl := Option.some.inj h
        exact K_iret rfl (Or.inl rfl) ⟨rfl, rfl, hM⟩
      · rw [if_neg c2] at h
        by_cases c3 : x1 = 2
        · rw [if_pos c3] at h
          refine K_ts (t := 98) rfl (fun _ => by rw [c3]; rfl) ?_
          refine K_aload_n rfl 0 rfl ?_
          refine K_gI rfl sh_29 hM rfl rfl 1 rfl ?_
          obtain rfl := Option.some.inj h
          exact K_iret rfl (Or.inl rfl) ⟨rfl, rfl, hM⟩
        · rw [if_neg c3] at h
          by_cases c4 : x1 = 3
          · rw [if_pos c4] at h
            refine K_ts (t := 103) rfl (fun _ => by rw [c4]; rfl) ?_
            refine K_aload_n rfl 1 rfl ?_
            refine K_gI rfl sh_0 hM rfl rfl 4 rfl ?_
            obtain rfl := Option.some.inj h
            exact K_iret rfl (Or.inl rfl) ⟨rfl, rfl, hM⟩
          · rw [if_neg c4] at h
            by_cases c5 : x1 = 4
            · rw [if_pos c5] at h
              refine K_ts (t := 108) rfl (fun _ => by rw [c5]; rfl) ?_
              refine K_aload_n rfl 1 rfl ?_
              refine K_gR rfl sh_0 hM rfl rfl 5 rfl r_0_5 ?_
              refine K_gI rfl sh_20 hM rfl rfl 3 rfl ?_
              obtain rfl := Option.some.inj h
              exact K_iret rfl (Or.inl rfl) ⟨rfl, rfl, hM⟩
            · rw [if_neg c5] at h
              by_cases c6 : x1 = 5
              · rw [if_pos c6] at h
                refine K_ts (t := 116) rfl (fun _ => by rw [c6]; rfl) ?_
                refine K_aload_n rfl 0 rfl ?_
                refine K_gI rfl sh_29 hM rfl rfl 0 rfl ?_
                obtain rfl := Option.some.inj h
                exact K_iret rfl (Or.inl rfl) ⟨rfl, rfl, hM⟩
              · rw [if_neg c6] at h
                by_cases c7 : x1 = 6
                · rw [if_pos c7] at h
                  refine K_ts (t := 121) rfl (fun _ => by rw [c7]; rfl) ?_
                  refine K_aload_n rfl 0 rfl ?_
                  refine K_gI rfl sh_29 hM rfl rfl 2 rfl ?_
                  obtain rfl := Option.some.inj h
                  exact K_iret rfl (Or.inl rfl) ⟨rfl, rfl, hM⟩
                · rw [if_neg c7] at h
                  by_cases c9 : x1 = 7
                  · rw [if_pos c9] at h
                    refine K_ts (t := 126) rfl (fun _ => by rw [c9]; rfl) ?_
                    refine K_aload_n rfl 0 rfl ?_
                    obtain ⟨r8, er8, h⟩ := Option.bind_eq_some_iff.mp h
                    refine K_cV [] [] rfl rfl (Nat.le_of_ble_eq_true rfl) (Nat.le_of_ble_eq_true rfl) sh_29 hM rfl (EV_le (Nat.le_of_ble_eq_true rfl) (F_State_whoIsHeld hM st_29 er8)) (fun v' M' hq => ?_)
                    obtain ⟨rfl, rfl, hr8⟩ := hq
                    obtain rfl := Option.some.inj h
                    exact K_iret rfl (Or.inl rfl) ⟨rfl, rfl, hr8⟩
                  · rw [if_neg c9] at h
                    by_cases c10 : x1 = 8
                    · rw [if_pos c10] at h
                      refine K_ts (t := 131) rfl (fun _ => by rw [c10]; rfl) ?_
                      refine K_aload_n rfl 1 rfl ?_
                      refine K_gR rfl sh_0 hM rfl rfl 5 rfl r_0_5 ?_
                      refine K_gR rfl sh_20 hM rfl rfl 2 rfl r_20_2 ?_
                      refine K_gI rfl sh_39 hM rfl rfl 0 rfl ?_
                      obtain rfl := Option.some.inj h
                      exact K_iret rfl (Or.inl rfl) ⟨rfl, rfl, hM⟩
                    · rw [if_neg c10] at h
                      by_cases c11 : x1 = 9
                      · rw [if_pos c11] at h
                        refine K_ts (t := 142) rfl (fun _ => by rw [c11]; rfl) ?_
                        refine K_aload_n rfl 1 rfl ?_
                        refine K_gR rfl sh_0 hM rfl rfl 7 rfl r_0_7 ?_
                        refine K_gI rfl sh_44 hM rfl rfl 0 rfl ?_
                        obtain rfl := Option.some.inj h
                        exact K_iret rfl (Or.inl rfl) ⟨rfl, rfl, hM⟩
                      · rw [if_neg c11] at h
                        by_cases c12 : x1 = 10
                        · rw [if_pos c12] at h
                          refine K_ts (t := 150) rfl (fun _ => by rw [c12]; rfl) ?_
                          refine K_aload_n rfl 1 rfl ?_
                          refine K_gR rfl sh_0 hM rfl rfl 5 rfl r_0_5 ?_
                          refine K_gI rfl sh_20 hM rfl rfl 4 rfl ?_
                          obtain rfl := Option.some.inj h
                          exact K_iret rfl (Or.inl rfl) ⟨rfl, rfl, hM⟩
                        · rw [if_neg c12] at h
                          by_cases c13 : x1 = 11
                          · rw [if_pos c13] at h
                            refine K_ts (t := 158) rfl (fun _ => by rw [c13]; rfl) ?_
                            refine K_aload_n rfl 1 rfl ?_
                            refine K_gR rfl sh_0 hM rfl rfl 0 rfl r_0_0 ?_
                            refine K_gI rfl sh_1 hM rfl rfl 1 rfl ?_
                            obtain rfl := Option.some.inj h
                            exact K_iret rfl (Or.inl rfl) ⟨rfl, rfl, hM⟩
                          · rw [if_neg c13] at h
                            by_cases c15 : x1 = 12
                            · rw [if_pos c15] at h
                              refine K_ts (t := 166) rfl (fun _ => by rw [c15]; rfl) ?_
                              refine K_aload_n rfl 0 rfl ?_
                              obtain ⟨r14, er14, h⟩ := Option.bind_eq_some_iff.mp h
                              refine K_cV [] [] rfl rfl (Nat.le_of_ble_eq_true rfl) (Nat.le_of_ble_eq_true rfl) sh_29 hM rfl (EV_le (Nat.le_of_ble_eq_true rfl) (F_State_allRounds hM st_29 er14)) (fun v' M' hq => ?_)
                              obtain ⟨rfl, rfl, hr14⟩ := hq
                              obtain rfl := Option.some.inj h
                              exact K_iret rfl (Or.inl rfl) ⟨rfl, rfl, hr14⟩
                            · rw [if_neg c15] at h
                              refine K_tsd rfl ?_ ?_
                              · have nc1 := lv_neT c1 (a := 0) rfl; have nc2 := lv_neT c2 (a := 1) rfl; have nc3 := lv_neT c3 (a := 2) rfl; have nc4 := lv_neT c4 (a := 3) rfl; have nc5 := lv_neT c5 (a := 4) rfl; have nc6 := lv_neT c6 (a := 5) rfl; have nc7 := lv_neT c7 (a := 6) rfl; have nc9 := lv_neT c9 (a := 7) rfl; have nc10 := lv_neT c10 (a := 8) rfl; have nc11 := lv_neT c11 (a := 9) rfl; have nc12 := lv_neT c12 (a := 10) rfl; have nc13 := lv_neT c13 (a := 11) rfl; have nc15 := lv_neT c15 (a := 12) rfl; omega
                              · refine K_iconst (v := (-1)) rfl (by decide) ?_
                                obtain rfl := Option.some.inj h
                                exact K_iret rfl (Or.inl rfl) ⟨rfl, rfl, hM⟩
set_option maxRecDepth 20000 in
theorem F_GraveRails_imageNumber {X : mX} {x1 : Int32} {M : mM} {r : Option Nat × mM} (hM : Fx M)  (h : f_GraveRails_imageNumber x1 M = some r) : EV X (0 + 1) 133 [.ref 0, .int x1] M (fun v M' => v = some (va_rf r.1) ∧ r.2 = M' ∧ Fx r.2) := by
    refine EV_of (lc := [(0, .ref 0), (1, .int x1)]) (Nat.le_of_ble_eq_true rfl) (by exact Nat.le_of_ble_eq_true rfl) (by exact List.forall_mem_cons.mpr ⟨rfl, List.forall_mem_cons.mpr ⟨rfl, fun _ h => absurd h List.not_mem_nil⟩⟩) ?_
    unfold f_GraveRails_imageNumber at h
    refine K_iload_n rfl 1 rfl ?_
    refine K_if_lt rfl (fun c1 => ?_) (fun c1 => ?_)
    · rw [if_pos c1] at h
      refine K_null rfl ?_
      obtain rfl := Option.some.inj h
      exact K_aret (r := none) rfl (Or.inr (Or.inl rfl)) ⟨rfl, rfl, hM⟩
    · rw [if_neg c1] at h
      refine K_iload_n rfl 1 rfl ?_
      refine K_aload_n rfl 0 rfl ?_
      refine K_gR rfl sh_0 hM rfl rfl 6 rfl r_0_6 ?_
      refine K_aln (v := 4) rfl sh_43 hM (by decide) (by decide) ?_
      refine K_ic_ge rfl (fun c2 => ?_) (fun c2 => ?_)
      · rw [if_pos c2] at h
        refine K_null rfl ?_
        obtain rfl := Option.some.inj h
        exact K_aret (r := none) rfl (Or.inr (Or.inl rfl)) ⟨rfl, rfl, hM⟩
      · rw [if_neg c2] at h
        refine K_aload_n rfl 0 rfl ?_
        refine K_gR rfl sh_0 hM rfl rfl 6 rfl r_0_6 ?_
        refine K_iload_n rfl 1 rfl ?_
        obtain ⟨j3, ej3, h⟩ := Option.bind_eq_some_iff.mp h
        refine K_rdA rfl sh_43 (by decide) hM ej3 (ar_wo (ix_i ej3).2.2).2 ?_
        refine K_goto rfl ?_
        obtain rfl := Option.some.inj h
        exact K_aret (r := (some (344 + 23 * j3))) rfl (Or.inr (Or.inl rfl)) ⟨rfl, rfl, hM⟩
set_option maxRecDepth 20000 in
theorem F_Sights_copyFrom {X : mX} {S : Nat} {x1 : Nat} {M : mM} {r : mM} (hM : Fx M) (hS : is_sg S) (hx1 : is_sg x1) (h : f_Sights_copyFrom S x1 M = some r) : EV X (0 + 1) 135 [.ref S, .ref x1] M (fun v M' => v = none ∧ r = M' ∧ Fx r) := by
    refine EV_of (lc := [(0, .ref S), (1, .ref x1)]) (Nat.le_of_ble_eq_true rfl) (by exact Nat.le_of_ble_eq_true rfl) (by exact List.forall_mem_cons.mpr ⟨rfl, List.forall_mem_cons.mpr ⟨rfl, fun _ h => absurd h List.not_mem_nil⟩⟩) ?_
    unfold f_Sights_copyFrom at h
    refine K_aload_n rfl 0 rfl ?_
    refine K_aload_n rfl 1 rfl ?_
    refine K_gI rfl (sg_s0 hx1) hM rfl rfl 0 rfl ?_
    obtain ⟨M1, eM1, h⟩ := Option.bind_eq_some_iff.mp h
    refine K_pI rfl (sg_s0 hS) hM rfl rfl 0 rfl eM1 (fun hM1 => ?_)
    refine K_aload_n rfl 1 rfl ?_
    refine K_gR rfl (sg_s0 hx1) hM1 rfl rfl 1 rfl (sg_r1 hx1) ?_
    refine K_iconst (v := 0) rfl (by decide) ?_
    refine K_aload_n rfl 0 rfl ?_
    refine K_gR rfl (sg_s0 hS) hM1 rfl rfl 1 rfl (sg_r1 hS) ?_
    refine K_iconst (v := 0) rfl (by decide) ?_
    refine K_bipush (v := 10) rfl (by decide) ?_
    obtain ⟨M2, eM2, h⟩ := Option.bind_eq_some_iff.mp h
    refine K_pC rfl (sg_s1 hx1) (sg_s1 hS) hM1 (by decide) (Nat.le_of_ble_eq_true rfl) eM2 (fun hM2 => ?_)
    refine K_aload_n rfl 1 rfl ?_
    refine K_gR rfl (sg_s0 hx1) hM2 rfl rfl 2 rfl (sg_r2 hx1) ?_
    refine K_iconst (v := 0) rfl (by decide) ?_
    refine K_aload_n rfl 0 rfl ?_
    refine K_gR rfl (sg_s0 hS) hM2 rfl rfl 2 rfl (sg_r2 hS) ?_
    refine K_iconst (v := 0) rfl (by decide) ?_
    refine K_bipush (v := 10) rfl (by decide) ?_
    obtain ⟨M3, eM3, h⟩ := Option.bind_eq_some_iff.mp h
    refine K_pC rfl (sg_s2 hx1) (sg_s2 hS) hM2 (by decide) (Nat.le_of_ble_eq_true rfl) eM3 (fun hM3 => ?_)
    refine K_aload_n rfl 1 rfl ?_
    refine K_gR rfl (sg_s0 hx1) hM3 rfl rfl 3 rfl (sg_r3 hx1) ?_
    refine K_iconst (v := 0) rfl (by decide) ?_
    refine K_aload_n rfl 0 rfl ?_
    refine K_gR rfl (sg_s0 hS) hM3 rfl rfl 3 rfl (sg_r3 hS) ?_
    refine K_iconst (v := 0) rfl (by decide) ?_
    refine K_bipush (v := 10) rfl (by decide) ?_
    obtain ⟨M4, eM4, h⟩ := Option.bind_eq_some_iff.mp h
    refine K_pC rfl (sg_s3 hx1) (sg_s3 hS) hM3 (by decide) (Nat.le_of_ble_eq_true rfl) eM4 (fun hM4 => ?_)
    obtain rfl := Option.some.inj h
    exact K_vret rfl rfl ⟨rfl, rfl, hM4⟩
set_option maxRecDepth 20000 in
theorem F_World_copyFrom {X : mX} {S : Nat} {x1 : Nat} {M : mM} {r : mM} (hM : Fx M) (hS : is_wo S) (hx1 : is_wo x1) (h : f_World_copyFrom S x1 M = some r) : EV X (1 + 1) 134 [.ref S, .ref x1] M (fun v M' => v = none ∧ r = M' ∧ Fx r) := by
    refine EV_of (lc := [(0, .ref S), (1, .ref x1)]) (Nat.le_of_ble_eq_true rfl) (by exact Nat.le_of_ble_eq_true rfl) (by exact List.forall_mem_cons.mpr ⟨rfl, List.forall_mem_cons.mpr ⟨rfl, fun _ h => absurd h List.not_mem_nil⟩⟩) ?_
    unfold f_World_copyFrom at h
    refine K_aload_n rfl 0 rfl ?_
    refine K_gR rfl (wo_s0 hS) hM rfl rfl 0 rfl (wo_r0 hS) ?_
    refine K_aload_n rfl 1 rfl ?_
    refine K_gR rfl (wo_s0 hx1) hM rfl rfl 0 rfl (wo_r0 hx1) ?_
    obtain ⟨M1, eM1, h⟩ := Option.bind_eq_some_iff.mp h
    refine K_cV [.ref (x1 + 1)] [] rfl rfl (Nat.le_of_ble_eq_true rfl) (Nat.le_of_ble_eq_true rfl) (yd_s0 (wo_yd hS)) hM rfl (EV_le (Nat.le_of_ble_eq_true rfl) (F_Yard_copyFrom hM (wo_yd hS) (wo_yd hx1) eM1)) (fun v' M' hq => ?_)
    obtain ⟨rfl, rfl, hM1⟩ := hq
    refine K_aload_n rfl 0 rfl ?_
    refine K_gR rfl (wo_s0 hS) hM1 rfl rfl 1 rfl (wo_r1 hS) ?_
    refine K_aload_n rfl 1 rfl ?_
    refine K_gR rfl (wo_s0 hx1) hM1 rfl rfl 1 rfl (wo_r1 hx1) ?_
    obtain ⟨M2, eM2, h⟩ := Option.bind_eq_some_iff.mp h
    refine K_cV [.ref (x1 + 9)] [] rfl rfl (Nat.le_of_ble_eq_true rfl) (Nat.le_of_ble_eq_true rfl) (st_s0 (wo_st hS)) hM1 rfl (EV_le (Nat.le_of_ble_eq_true rfl) (F_State_copyFrom hM1 (wo_st hS) (wo_st hx1) eM2)) (fun v' M' hq => ?_)
    obtain ⟨rfl, rfl, hM2⟩ := hq
    refine K_aload_n rfl 0 rfl ?_
    refine K_gR rfl (wo_s0 hS) hM2 rfl rfl 2 rfl (wo_r2 hS) ?_
    refine K_aload_n rfl 1 rfl ?_
    refine K_gR rfl (wo_s0 hx1) hM2 rfl rfl 2 rfl (wo_r2 hx1) ?_
    obtain ⟨M3, eM3, h⟩ := Option.bind_eq_some_iff.mp h
    refine K_cV [.ref (x1 + 19)] [] rfl rfl (Nat.le_of_ble_eq_true rfl) (Nat.le_of_ble_eq_true rfl) (sg_s0 (wo_sg hS)) hM2 rfl (EV_le (Nat.le_of_ble_eq_true rfl) (F_Sights_copyFrom hM2 (wo_sg hS) (wo_sg hx1) eM3)) (fun v' M' hq => ?_)
    obtain ⟨rfl, rfl, hM3⟩ := hq
    refine K_aload_n rfl 0 rfl ?_
    refine K_aload_n rfl 1 rfl ?_
    refine K_gI rfl (wo_s0 hx1) hM3 rfl rfl 3 rfl ?_
    obtain ⟨M4, eM4, h⟩ := Option.bind_eq_some_iff.mp h
    refine K_pI rfl (wo_s0 hS) hM3 rfl rfl 3 rfl eM4 (fun hM4 => ?_)
    refine K_aload_n rfl 0 rfl ?_
    refine K_aload_n rfl 1 rfl ?_
    refine K_gI rfl (wo_s0 hx1) hM4 rfl rfl 4 rfl ?_
    obtain ⟨M5, eM5, h⟩ := Option.bind_eq_some_iff.mp h
    refine K_pI rfl (wo_s0 hS) hM4 rfl rfl 4 rfl eM5 (fun hM5 => ?_)
    obtain rfl := Option.some.inj h
    exact K_vret rfl rfl ⟨rfl, rfl, hM5⟩
set_option maxRecDepth 20000 in
theorem F_GraveRails_image {X : mX} {x1 : Int32} {M : mM} {r : Int32 × mM} (hM : Fx M)  (h : f_GraveRails_image x1 M = some r) : EV X (2 + 1) 132 [.ref 0, .int x1] M (fun v M' => v = some (.int r.1) ∧ r.2 = M' ∧ Fx r.2) := by
    refine EV_of (lc := [(0, .ref 0), (1, .int x1)]) (Nat.le_of_ble_eq_true rfl) (by exact Nat.le_of_ble_eq_true rfl) (by exact List.forall_mem_cons.mpr ⟨rfl, List.forall_mem_cons.mpr ⟨rfl, fun _ h => absurd h List.not_mem_nil⟩⟩) ?_
    unfold f_GraveRails_image at h
    refine K_aload_n rfl 0 rfl ?_
    refine K_iload_n rfl 1 rfl ?_
    obtain ⟨r1, er1, h⟩ := Option.bind_eq_some_iff.mp h
    refine K_cV [.int x1] [] rfl rfl (Nat.le_of_ble_eq_true rfl) (Nat.le_of_ble_eq_true rfl) sh_0 hM rfl (EV_le (Nat.le_of_ble_eq_true rfl) (F_GraveRails_imageNumber hM  er1)) (fun v' M' hq => ?_)
    obtain ⟨rfl, rfl, hr1⟩ := hq
    refine K_astore_nq rfl ?_
    refine K_aload_nq rfl 0 rfl ?_
    refine K_ifnonnull rfl (fun c5 => ?_) (fun y6 c5 => ?_)
    · rw [if_pos c5] at h
      refine K_iconst (v := (-1)) rfl (by decide) ?_
      obtain rfl := Option.some.inj h
      exact K_iret rfl (Or.inl rfl) ⟨rfl, rfl, hr1⟩
    · rw [if_neg (by rw [c5]; exact fun z => by cases z)] at h
      refine K_aload_nq rfl 0 rfl ?_
      refine K_aload_n rfl 1 rfl ?_
      refine K_gR rfl sh_0 hr1 rfl rfl 5 rfl r_0_5 ?_
      obtain ⟨y2, ey2, h⟩ := Option.bind_eq_some_iff.mp h
      rw [show va_rf r1.1 = Value.ref y2 from by rw [(nnl_i ey2).1]; rfl]
      obtain ⟨M3, eM3, h⟩ := Option.bind_eq_some_iff.mp h
      refine K_cV [.ref 20] [] rfl rfl (Nat.le_of_ble_eq_true rfl) (Nat.le_of_ble_eq_true rfl) (wo_s0 (nnl_i ey2).2) hr1 rfl (EV_le (Nat.le_of_ble_eq_true rfl) (F_World_copyFrom hr1 (nnl_i ey2).2 wo_20 eM3)) (fun v' M' hq => ?_)
      obtain ⟨rfl, rfl, hM3⟩ := hq
      refine K_aload_n rfl 0 rfl ?_
      refine K_iconst (v := 1) rfl (by decide) ?_
      obtain ⟨M4, eM4, h⟩ := Option.bind_eq_some_iff.mp h
      refine K_pZ rfl (wo_s0 (nnl_i ey2).2) hM3 rfl rfl 5 rfl eM4 (fun hM4 => ?_)
      refine K_aload_n rfl 1 rfl ?_
      refine K_gR rfl sh_0 hM4 rfl rfl 5 rfl r_0_5 ?_
      refine K_gR rfl sh_20 hM4 rfl rfl 1 rfl r_20_1 ?_
      refine K_gI rfl sh_29 hM4 rfl rfl 0 rfl ?_
      obtain rfl := Option.some.inj h
      exact K_iret rfl (Or.inl rfl) ⟨rfl, rfl, hM4⟩
set_option maxRecDepth 20000 in
theorem F_GraveRails_back {X : mX} {x1 : Int32} {M : mM} {r : Int32 × mM} (hM : Fx M)  (h : f_GraveRails_back x1 M = some r) : EV X (2 + 1) 136 [.ref 0, .int x1] M (fun v M' => v = some (.int r.1) ∧ r.2 = M' ∧ Fx r.2) := by
    refine EV_of (lc := [(0, .ref 0), (1, .int x1)]) (Nat.le_of_ble_eq_true rfl) (by exact Nat.le_of_ble_eq_true rfl) (by exact List.forall_mem_cons.mpr ⟨rfl, List.forall_mem_cons.mpr ⟨rfl, fun _ h => absurd h List.not_mem_nil⟩⟩) ?_
    unfold f_GraveRails_back at h
    refine K_aload_n rfl 0 rfl ?_
    refine K_iload_n rfl 1 rfl ?_
    obtain ⟨r1, er1, h⟩ := Option.bind_eq_some_iff.mp h
    refine K_cV [.int x1] [] rfl rfl (Nat.le_of_ble_eq_true rfl) (Nat.le_of_ble_eq_true rfl) sh_0 hM rfl (EV_le (Nat.le_of_ble_eq_true rfl) (F_GraveRails_imageNumber hM  er1)) (fun v' M' hq => ?_)
    obtain ⟨rfl, rfl, hr1⟩ := hq
    refine K_astore_nq rfl ?_
    refine K_aload_nq rfl 0 rfl ?_
    refine K_ifnull rfl (fun c7 => ?_) (fun y8 c7 => ?_)
    · rw [if_pos c7] at h
      refine K_iconst (v := (-1)) rfl (by decide) ?_
      obtain rfl := Option.some.inj h
      exact K_iret rfl (Or.inl rfl) ⟨rfl, rfl, hr1⟩
    · rw [if_neg (by rw [c7]; exact fun z => by cases z)] at h
      refine K_aload_nq rfl 0 rfl ?_
      obtain ⟨y2, ey2, h⟩ := Option.bind_eq_some_iff.mp h
      rw [show va_rf r1.1 = Value.ref y2 from by rw [(nnl_i ey2).1]; rfl]
      refine K_gI rfl (wo_s0 (nnl_i ey2).2) hr1 rfl rfl 5 rfl ?_
      refine K_if_ne rfl (fun c3 => ?_) (fun c3 => ?_)
      · rw [if_neg c3] at h
        refine K_aload_n rfl 1 rfl ?_
        refine K_gR rfl sh_0 hr1 rfl rfl 5 rfl r_0_5 ?_
        refine K_aload_n rfl 0 rfl ?_
        obtain ⟨M4, eM4, h⟩ := Option.bind_eq_some_iff.mp h
        refine K_cV [.ref y2] [] rfl rfl (Nat.le_of_ble_eq_true rfl) (Nat.le_of_ble_eq_true rfl) sh_20 hr1 rfl (EV_le (Nat.le_of_ble_eq_true rfl) (F_World_copyFrom hr1 wo_20 (nnl_i ey2).2 eM4)) (fun v' M' hq => ?_)
        obtain ⟨rfl, rfl, hM4⟩ := hq
        refine K_aload_n rfl 1 rfl ?_
        refine K_gR rfl sh_0 hM4 rfl rfl 7 rfl r_0_7 ?_
        refine K_iconst (v := 0) rfl (by decide) ?_
        obtain ⟨M5, eM5, h⟩ := Option.bind_eq_some_iff.mp h
        refine K_pI rfl sh_44 hM4 rfl rfl 0 rfl eM5 (fun hM5 => ?_)
        refine K_aload_n rfl 1 rfl ?_
        refine K_gR rfl sh_0 hM5 rfl rfl 9 rfl r_0_9 ?_
        refine K_iconst (v := 0) rfl (by decide) ?_
        obtain ⟨M6, eM6, h⟩ := Option.bind_eq_some_iff.mp h
        refine K_pZ rfl sh_269 hM5 rfl rfl 0 rfl eM6 (fun hM6 => ?_)
        refine K_aload_n rfl 1 rfl ?_
        refine K_gR rfl sh_0 hM6 rfl rfl 5 rfl r_0_5 ?_
        refine K_gR rfl sh_20 hM6 rfl rfl 1 rfl r_20_1 ?_
        refine K_gI rfl sh_29 hM6 rfl rfl 0 rfl ?_
        obtain rfl := Option.some.inj h
        exact K_iret rfl (Or.inl rfl) ⟨rfl, rfl, hM6⟩
      · rw [if_pos c3] at h
        refine K_iconst (v := (-1)) rfl (by decide) ?_
        obtain rfl := Option.some.inj h
        exact K_iret rfl (Or.inl rfl) ⟨rfl, rfl, hr1⟩
set_option maxRecDepth 20000 in
theorem L_Model_four_3 {X : mX} {x1 : Int32} {r : mM}  : ∀ (n : Nat) (l2 : Int32) (M : mM), Fx M → f_Model_four_3 x1  n l2 M = some r → KK X 0 139 3 [(0, .ref 436), (1, .int x1), (2, .int l2)] [] M (fun v M' => v = none ∧ r = M' ∧ Fx r)
  | 0, _, _ => fun _ h => by cases h
  | n + 1, l2, M => fun hM h => by
    unfold f_Model_four_3 at h
    refine K_iload_n rfl 2 rfl ?_
    refine K_if_lt rfl (fun c1 => ?_) (fun c1 => ?_)
    · rw [if_pos c1] at h
      obtain rfl := Option.some.inj h
      exact K_vret rfl rfl ⟨rfl, rfl, hM⟩
    · rw [if_neg c1] at h
      refine K_aload_n rfl 0 rfl ?_
      refine K_gR rfl sh_436 hM rfl rfl 0 rfl r_436_0 ?_
      refine K_aload_n rfl 0 rfl ?_
      refine K_gI rfl sh_436 hM rfl rfl 1 rfl ?_
      refine K_iload_n rfl 1 rfl ?_
      refine K_iload_n rfl 2 rfl ?_
      refine K_ishr rfl ?_
      refine K_i2b rfl ?_
      obtain ⟨M2, eM2, h⟩ := Option.bind_eq_some_iff.mp h
      refine K_wrB rfl sh_437 hM eM2 (fun hM2 => ?_)
      refine K_aload_n rfl 0 rfl ?_
      refine K_dup rfl rfl ?_
      refine K_gI rfl sh_436 hM2 rfl rfl 1 rfl ?_
      refine K_iconst (v := 1) rfl (by decide) ?_
      refine K_iadd rfl ?_
      obtain ⟨M3, eM3, h⟩ := Option.bind_eq_some_iff.mp h
      refine K_pI rfl sh_436 hM2 rfl rfl 1 rfl eM3 (fun hM3 => ?_)
      refine K_iinc (y := (l2 + (-8))) rfl 2 rfl rfl ?_
      refine K_goto rfl ?_
      refine K_pick [1, 2, 0] ?_
      exact L_Model_four_3    n _ _ hM3  h
set_option maxRecDepth 20000 in
theorem F_Model_four {X : mX} {x1 : Int32} {M : mM} {r : mM} (hM : Fx M)  (h : f_Model_four x1 M = some r) : EV X (0 + 1) 139 [.ref 436, .int x1] M (fun v M' => v = none ∧ r = M' ∧ Fx r) := by
    refine EV_of (lc := [(0, .ref 436), (1, .int x1)]) (Nat.le_of_ble_eq_true rfl) (by exact Nat.le_of_ble_eq_true rfl) (by exact List.forall_mem_cons.mpr ⟨rfl, List.forall_mem_cons.mpr ⟨rfl, fun _ h => absurd h List.not_mem_nil⟩⟩) ?_
    unfold f_Model_four at h
    refine K_bipush (v := 24) rfl (by decide) ?_
    refine K_istore_n rfl ?_
    refine K_pick [1, 2, 0] ?_
    exact L_Model_four_3    FUEL _ _ hM  h
set_option maxRecDepth 20000 in
theorem F_Model_feed {X : mX} {x1 : Int32} {x2 : Int32} {x3 : Int32} {x4 : Int32} {x5 : Int32} {M : mM} {r : Int32 × mM} (hM : Fx M)  (h : f_Model_feed x1 x2 x3 x4 x5 M = some r) : EV X (1 + 1) 138 [.ref 436, .int x1, .int x2, .int x3, .int x4, .int x5] M (fun v M' => v = some (.int r.1) ∧ r.2 = M' ∧ Fx r.2) := by
    refine EV_of (lc := [(0, .ref 436), (1, .int x1), (2, .int x2), (3, .int x3), (4, .int x4), (5, .int x5)]) (Nat.le_of_ble_eq_true rfl) (by exact Nat.le_of_ble_eq_true rfl) (by exact List.forall_mem_cons.mpr ⟨rfl, List.forall_mem_cons.mpr ⟨rfl, List.forall_mem_cons.mpr ⟨rfl, List.forall_mem_cons.mpr ⟨rfl, List.forall_mem_cons.mpr ⟨rfl, List.forall_mem_cons.mpr ⟨rfl, fun _ h => absurd h List.not_mem_nil⟩⟩⟩⟩⟩⟩) ?_
    unfold f_Model_feed at h
    refine K_aload_n rfl 0 rfl ?_
    refine K_gI rfl sh_436 hM rfl rfl 1 rfl ?_
    refine K_bipush (v := 20) rfl (by decide) ?_
    refine K_iadd rfl ?_
    refine K_sipush (v := 400) rfl (by decide) ?_
    refine K_ic_le rfl (fun c1 => ?_) (fun c1 => ?_)
    · rw [if_pos c1] at h
      refine K_aload_n rfl 0 rfl ?_
      refine K_iload_n rfl 1 rfl ?_
      obtain ⟨M2, eM2, h⟩ := Option.bind_eq_some_iff.mp h
      refine K_cV [.int x1] [] rfl rfl (Nat.le_of_ble_eq_true rfl) (Nat.le_of_ble_eq_true rfl) sh_436 hM rfl (EV_le (Nat.le_of_ble_eq_true rfl) (F_Model_four hM  eM2)) (fun v' M' hq => ?_)
      obtain ⟨rfl, rfl, hM2⟩ := hq
      refine K_aload_n rfl 0 rfl ?_
      refine K_iload_n rfl 2 rfl ?_
      obtain ⟨M3, eM3, h⟩ := Option.bind_eq_some_iff.mp h
      refine K_cV [.int x2] [] rfl rfl (Nat.le_of_ble_eq_true rfl) (Nat.le_of_ble_eq_true rfl) sh_436 hM2 rfl (EV_le (Nat.le_of_ble_eq_true rfl) (F_Model_four hM2  eM3)) (fun v' M' hq => ?_)
      obtain ⟨rfl, rfl, hM3⟩ := hq
      refine K_aload_n rfl 0 rfl ?_
      refine K_iload_n rfl 3 rfl ?_
      obtain ⟨M4, eM4, h⟩ := Option.bind_eq_some_iff.mp h
      refine K_cV [.int x3] [] rfl rfl (Nat.le_of_ble_eq_true rfl) (Nat.le_of_ble_eq_true rfl) sh_436 hM3 rfl (EV_le (Nat.le_of_ble_eq_true rfl) (F_Model_four hM3  eM4)) (fun v' M' hq => ?_)
      obtain ⟨rfl, rfl, hM4⟩ := hq
      refine K_aload_n rfl 0 rfl ?_
      refine K_iload rfl 4 rfl ?_
      obtain ⟨M5, eM5, h⟩ := Option.bind_eq_some_iff.mp h
      refine K_cV [.int x4] [] rfl rfl (Nat.le_of_ble_eq_true rfl) (Nat.le_of_ble_eq_true rfl) sh_436 hM4 rfl (EV_le (Nat.le_of_ble_eq_true rfl) (F_Model_four hM4  eM5)) (fun v' M' hq => ?_)
      obtain ⟨rfl, rfl, hM5⟩ := hq
      refine K_aload_n rfl 0 rfl ?_
      refine K_iload rfl 5 rfl ?_
      obtain ⟨M6, eM6, h⟩ := Option.bind_eq_some_iff.mp h
      refine K_cV [.int x5] [] rfl rfl (Nat.le_of_ble_eq_true rfl) (Nat.le_of_ble_eq_true rfl) sh_436 hM5 rfl (EV_le (Nat.le_of_ble_eq_true rfl) (F_Model_four hM5  eM6)) (fun v' M' hq => ?_)
      obtain ⟨rfl, rfl, hM6⟩ := hq
      refine K_aload_n rfl 0 rfl ?_
      refine K_gI rfl sh_436 hM6 rfl rfl 1 rfl ?_
      obtain rfl := Option.some.inj h
      exact K_iret rfl (Or.inl rfl) ⟨rfl, rfl, hM6⟩
    · rw [if_neg c1] at h
      refine K_iconst (v := (-1)) rfl (by decide) ?_
      obtain rfl := Option.some.inj h
      exact K_iret rfl (Or.inl rfl) ⟨rfl, rfl, hM⟩
set_option maxRecDepth 20000 in
theorem F_Model_end {X : mX} {x1 : Int32} {M : mM} {r : Int32 × mM} (hM : Fx M)  (h : f_Model_end x1 M = some r) : EV X (0 + 1) 140 [.ref 436, .int x1] M (fun v M' => v = some (.int r.1) ∧ r.2 = M' ∧ Fx r.2) := by
    refine EV_of (lc := [(0, .ref 436), (1, .int x1)]) (Nat.le_of_ble_eq_true rfl) (by exact Nat.le_of_ble_eq_true rfl) (by exact List.forall_mem_cons.mpr ⟨rfl, List.forall_mem_cons.mpr ⟨rfl, fun _ h => absurd h List.not_mem_nil⟩⟩) ?_
    unfold f_Model_end at h
    refine K_iload_n rfl 1 rfl ?_
    refine K_if_lt rfl (fun c1 => ?_) (fun c1 => ?_)
    · rw [if_pos c1] at h
      refine K_iconst (v := (-1)) rfl (by decide) ?_
      obtain rfl := Option.some.inj h
      exact K_iret rfl (Or.inl rfl) ⟨rfl, rfl, hM⟩
    · rw [if_neg c1] at h
      refine K_iload_n rfl 1 rfl ?_
      refine K_aload_n rfl 0 rfl ?_
      refine K_gI rfl sh_436 hM rfl rfl 1 rfl ?_
      refine K_ic_le rfl (fun c2 => ?_) (fun c2 => ?_)
      · rw [if_pos c2] at h
        refine K_aload_n rfl 0 rfl ?_
        refine K_iload_n rfl 1 rfl ?_
        obtain ⟨M3, eM3, h⟩ := Option.bind_eq_some_iff.mp h
        refine K_pI rfl sh_436 hM rfl rfl 1 rfl eM3 (fun hM3 => ?_)
        refine K_iload_n rfl 1 rfl ?_
        obtain rfl := Option.some.inj h
        exact K_iret rfl (Or.inl rfl) ⟨rfl, rfl, hM3⟩
      · rw [if_neg c2] at h
        refine K_iconst (v := (-1)) rfl (by decide) ?_
        obtain rfl := Option.some.inj h
        exact K_iret rfl (Or.inl rfl) ⟨rfl, rfl, hM⟩
set_option maxRecDepth 20000 in
theorem L_Model_see_38 {X : mX}  {r : Int32 × mM}   (M : mM) (hM : Fx M)  (h : f_Model_see_38    M = some r) : KK X 0 144 38 [(0, .ref 436)] [] M (fun v M' => v = some (.int r.1) ∧ r.2 = M' ∧ Fx r.2) := by
    unfold f_Model_see_38 at h
    refine K_aload_n rfl 0 rfl ?_
    refine K_gI rfl sh_436 hM rfl rfl 8 rfl ?_
    refine K_aload_n rfl 0 rfl ?_
    refine K_gI rfl sh_436 hM rfl rfl 1 rfl ?_
    refine K_ic_ge rfl (fun c2 => ?_) (fun c2 => ?_)
    · rw [if_pos c2] at h
      refine K_iconst (v := (-1)) rfl (by decide) ?_
      obtain rfl := Option.some.inj h
      exact K_iret rfl (Or.inl rfl) ⟨rfl, rfl, hM⟩
    · rw [if_neg c2] at h
      refine K_aload_n rfl 0 rfl ?_
      refine K_gR rfl sh_436 hM rfl rfl 0 rfl r_436_0 ?_
      refine K_aload_n rfl 0 rfl ?_
      refine K_gI rfl sh_436 hM rfl rfl 8 rfl ?_
      obtain ⟨v3, ev3, h⟩ := Option.bind_eq_some_iff.mp h
      refine K_rdB rfl sh_437 (by decide) hM ev3 ?_
      refine K_sipush (v := 255) rfl (by decide) ?_
      refine K_iand rfl ?_
      refine K_goto rfl ?_
      obtain rfl := Option.some.inj h
      exact K_iret rfl (Or.inl rfl) ⟨rfl, rfl, hM⟩
set_option maxRecDepth 20000 in
theorem L_Model_see_0 {X : mX}  {r : Int32 × mM}  : ∀ (n : Nat)  (M : mM), Fx M → f_Model_see_0   n  M = some r → KK X 0 144 0 [(0, .ref 436)] [] M (fun v M' => v = some (.int r.1) ∧ r.2 = M' ∧ Fx r.2)
  | 0, _ => fun _ h => by cases h
  | n + 1, M => fun hM h => by
    unfold f_Model_see_0 at h
    refine K_aload_n rfl 0 rfl ?_
    refine K_gI rfl sh_436 hM rfl rfl 8 rfl ?_
    refine K_aload_n rfl 0 rfl ?_
    refine K_gI rfl sh_436 hM rfl rfl 1 rfl ?_
    refine K_ic_ge rfl (fun c1 => ?_) (fun c1 => ?_)
    · rw [if_pos c1] at h
      refine K_pick [0] ?_
      exact L_Model_see_38     _ hM  h
    · rw [if_neg c1] at h
      refine K_aload_n rfl 0 rfl ?_
      refine K_gR rfl sh_436 hM rfl rfl 0 rfl r_436_0 ?_
      refine K_aload_n rfl 0 rfl ?_
      refine K_gI rfl sh_436 hM rfl rfl 8 rfl ?_
      obtain ⟨v4, ev4, h⟩ := Option.bind_eq_some_iff.mp h
      refine K_rdB rfl sh_437 (by decide) hM ev4 ?_
      refine K_bipush (v := 32) rfl (by decide) ?_
      refine K_ic_ne rfl (fun c5 => ?_) (fun c5 => ?_)
      · rw [if_neg c5] at h
        refine K_pick [0] ?_
        exact L_Model_see_38     _ hM  h
      · rw [if_pos c5] at h
        refine K_aload_n rfl 0 rfl ?_
        refine K_dup rfl rfl ?_
        refine K_gI rfl sh_436 hM rfl rfl 8 rfl ?_
        refine K_iconst (v := 1) rfl (by decide) ?_
        refine K_iadd rfl ?_
        obtain ⟨M6, eM6, h⟩ := Option.bind_eq_some_iff.mp h
        refine K_pI rfl sh_436 hM rfl rfl 8 rfl eM6 (fun hM6 => ?_)
        refine K_goto rfl ?_
        refine K_pick [0] ?_
        exact L_Model_see_0    n  _ hM6  h
set_option maxRecDepth 20000 in
theorem F_Model_see {X : mX}  {M : mM} {r : Int32 × mM} (hM : Fx M)  (h : f_Model_see  M = some r) : EV X (0 + 1) 144 [.ref 436] M (fun v M' => v = some (.int r.1) ∧ r.2 = M' ∧ Fx r.2) := by
    refine EV_of (lc := [(0, .ref 436)]) (Nat.le_of_ble_eq_true rfl) (by exact Nat.le_of_ble_eq_true rfl) (by exact List.forall_mem_cons.mpr ⟨rfl, fun _ h => absurd h List.not_mem_nil⟩) ?_
    unfold f_Model_see at h
    refine K_pick [0] ?_
    exact L_Model_see_0    FUEL  _ hM  h
set_option maxRecDepth 20000 in
theorem F_Model_isLetter {X : mX} {x1 : Int32} {M : mM} {r : Int32 × mM} (hM : Fx M)  (h : f_Model_isLetter x1 M = some r) : EV X (0 + 1) 147 [.ref 436, .int x1] M (fun v M' => v = some (.int r.1) ∧ r.2 = M' ∧ Fx r.2) := by
    refine EV_of (lc := [(0, .ref 436), (1, .int x1)]) (Nat.le_of_ble_eq_true rfl) (by exact Nat.le_of_ble_eq_true rfl) (by exact List.forall_mem_cons.mpr ⟨rfl, List.forall_mem_cons.mpr ⟨rfl, fun _ h => absurd h List.not_mem_nil⟩⟩) ?_
    unfold f_Model_isLetter at h
    refine K_iload_n rfl 1 rfl ?_
    refine K_aload_n rfl 0 rfl ?_
    refine K_gI rfl sh_436 hM rfl rfl 1 rfl ?_
    refine K_ic_ge rfl (fun c1 => ?_) (fun c1 => ?_)
    · rw [if_pos c1] at h
      refine K_iconst (v := 0) rfl (by decide) ?_
      obtain rfl := Option.some.inj h
      exact K_iret rfl (Or.inr ⟨rfl, by decide⟩) ⟨rfl, rfl, hM⟩
    · rw [if_neg c1] at h
      refine K_aload_n rfl 0 rfl ?_
      refine K_gR rfl sh_436 hM rfl rfl 0 rfl r_436_0 ?_
      refine K_iload_n rfl 1 rfl ?_
      obtain ⟨v2, ev2, h⟩ := Option.bind_eq_some_iff.mp h
      refine K_rdB rfl sh_437 (by decide) hM ev2 ?_
      refine K_bipush (v := 97) rfl (by decide) ?_
      refine K_ic_lt rfl (fun c3 => ?_) (fun c3 => ?_)
      · rw [if_pos c3] at h
        refine K_iconst (v := 0) rfl (by decide) ?_
        obtain rfl := Option.some.inj h
        exact K_iret rfl (Or.inr ⟨rfl, by decide⟩) ⟨rfl, rfl, hM⟩
      · rw [if_neg c3] at h
        refine K_aload_n rfl 0 rfl ?_
        refine K_gR rfl sh_436 hM rfl rfl 0 rfl r_436_0 ?_
        refine K_iload_n rfl 1 rfl ?_
        obtain ⟨v4, ev4, h⟩ := Option.bind_eq_some_iff.mp h
        refine K_rdB rfl sh_437 (by decide) hM ev4 ?_
        refine K_bipush (v := 122) rfl (by decide) ?_
        refine K_ic_gt rfl (fun c5 => ?_) (fun c5 => ?_)
        · rw [if_pos c5] at h
          refine K_iconst (v := 0) rfl (by decide) ?_
          obtain rfl := Option.some.inj h
          exact K_iret rfl (Or.inr ⟨rfl, by decide⟩) ⟨rfl, rfl, hM⟩
        · rw [if_neg c5] at h
          refine K_iconst (v := 1) rfl (by decide) ?_
          refine K_goto rfl ?_
          obtain rfl := Option.some.inj h
          exact K_iret rfl (Or.inr ⟨rfl, by decide⟩) ⟨rfl, rfl, hM⟩
set_option maxRecDepth 20000 in
theorem L_Model_isWord_50 {X : mX} {x1 : Int64} {k10 : Int64 → Int32 → mM → Option (Int32 × mM)} {r : Int32 × mM}  (hk10 : ∀ (l3 : Int64) (l5 : Int32) (M : mM), Fx M → k10 l3 l5 M = some r → KK X 1 146 10 [(0, .ref 436), (1, .long x1), (3, .long l3), (5, .int l5)] [] M (fun v M' => v = some (.int r.1) ∧ r.2 = M' ∧ Fx r.2)) (l3 : Int64) (l5 : Int32) (M : mM) (hM : Fx M)  (h : f_Model_isWord_50 x1 k10 l3 l5 M = some r) : KK X 1 146 50 [(0, .ref 436), (1, .long x1), (3, .long l3), (5, .int l5)] [] M (fun v M' => v = some (.int r.1) ∧ r.2 = M' ∧ Fx r.2) := by
    unfold f_Model_isWord_50 at h
    refine K_iinc (y := (l5 + 1)) rfl 3 rfl rfl ?_
    refine K_goto rfl ?_
    refine K_pick [1, 2, 3, 0] ?_
    exact hk10 _ _ _ hM  h
set_option maxRecDepth 20000 in
theorem L_Model_isWord_10 {X : mX} {x1 : Int64} {r : Int32 × mM}  : ∀ (n : Nat) (l3 : Int64) (l5 : Int32) (M : mM), Fx M → f_Model_isWord_10 x1  n l3 l5 M = some r → KK X 1 146 10 [(0, .ref 436), (1, .long x1), (3, .long l3), (5, .int l5)] [] M (fun v M' => v = some (.int r.1) ∧ r.2 = M' ∧ Fx r.2)
  | 0, _, _, _ => fun _ h => by cases h
  | n + 1, l3, l5, M => fun hM h => by
    unfold f_Model_isWord_10 at h
    refine K_aload_n rfl 0 rfl ?_
    refine K_aload_n rfl 0 rfl ?_
    refine K_gI rfl sh_436 hM rfl rfl 8 rfl ?_
    refine K_iload rfl 3 rfl ?_
    refine K_iadd rfl ?_
    obtain ⟨r2, er2, h⟩ := Option.bind_eq_some_iff.mp h
    refine K_cV [.int ((M.2.1 436 8) + l5)] [] rfl rfl (Nat.le_of_ble_eq_true rfl) (Nat.le_of_ble_eq_true rfl) sh_436 hM rfl (EV_le (Nat.le_of_ble_eq_true rfl) (F_Model_isLetter hM  er2)) (fun v' M' hq => ?_)
    obtain ⟨rfl, rfl, hr2⟩ := hq
    refine K_if_eq rfl (fun c3 => ?_) (fun c3 => ?_)
    · rw [if_pos c3] at h
      refine K_iload rfl 3 rfl ?_
      refine K_if_le rfl (fun c4 => ?_) (fun c4 => ?_)
      · rw [if_pos c4] at h
        refine K_iconst (v := 0) rfl (by decide) ?_
        obtain rfl := Option.some.inj h
        exact K_iret rfl (Or.inr ⟨rfl, by decide⟩) ⟨rfl, rfl, hr2⟩
      · rw [if_neg c4] at h
        refine K_iload rfl 3 rfl ?_
        refine K_bipush (v := 8) rfl (by decide) ?_
        refine K_ic_ge rfl (fun c5 => ?_) (fun c5 => ?_)
        · rw [if_pos c5] at h
          refine K_iconst (v := 0) rfl (by decide) ?_
          obtain rfl := Option.some.inj h
          exact K_iret rfl (Or.inr ⟨rfl, by decide⟩) ⟨rfl, rfl, hr2⟩
        · rw [if_neg c5] at h
          refine K_lload_n rfl 2 rfl ?_
          refine K_lload_n rfl 1 rfl ?_
          refine K_lcmp rfl ?_
          refine K_if_ne rfl (fun c6 => ?_) (fun c6 => ?_)
          · rw [if_neg c6] at h
            refine K_iconst (v := 0) rfl (by decide) ?_
            obtain rfl := Option.some.inj h
            exact K_iret rfl (Or.inr ⟨rfl, by decide⟩) ⟨rfl, rfl, hr2⟩
          · rw [if_pos c6] at h
            refine K_iconst (v := 1) rfl (by decide) ?_
            refine K_goto rfl ?_
            obtain rfl := Option.some.inj h
            exact K_iret rfl (Or.inr ⟨rfl, by decide⟩) ⟨rfl, rfl, hr2⟩
    · rw [if_neg c3] at h
      refine K_iload rfl 3 rfl ?_
      refine K_bipush (v := 8) rfl (by decide) ?_
      refine K_ic_ge rfl (fun c7 => ?_) (fun c7 => ?_)
      · rw [if_pos c7] at h
        refine K_pick [0, 1, 2, 3] ?_
        exact L_Model_isWord_50   (L_Model_isWord_10    n) _ _ _ hr2  h
      · rw [if_neg c7] at h
        refine K_lload_n rfl 2 rfl ?_
        refine K_bipush (v := 8) rfl (by decide) ?_
        refine K_lshl rfl ?_
        refine K_aload_n rfl 0 rfl ?_
        refine K_gR rfl sh_436 hr2 rfl rfl 0 rfl r_436_0 ?_
        refine K_aload_n rfl 0 rfl ?_
        refine K_gI rfl sh_436 hr2 rfl rfl 8 rfl ?_
        refine K_iload rfl 3 rfl ?_
        refine K_iadd rfl ?_
        obtain ⟨v8, ev8, h⟩ := Option.bind_eq_some_iff.mp h
        refine K_rdB rfl sh_437 (by decide) hr2 ev8 ?_
        refine K_i2l rfl ?_
        refine K_lor rfl ?_
        refine K_lstore_n rfl ?_
        refine K_pick [1, 2, 0, 3] ?_
        exact L_Model_isWord_50   (L_Model_isWord_10    n) _ _ _ hr2  h
set_option maxRecDepth 20000 in
theorem F_Model_isWord {X : mX} {x1 : Int64} {M : mM} {r : Int32 × mM} (hM : Fx M)  (h : f_Model_isWord x1 M = some r) : EV X (1 + 1) 146 [.ref 436, .long x1] M (fun v M' => v = some (.int r.1) ∧ r.2 = M' ∧ Fx r.2) := by
    refine EV_of (lc := [(0, .ref 436), (1, .long x1)]) (Nat.le_of_ble_eq_true rfl) (by exact Nat.le_of_ble_eq_true rfl) (by exact List.forall_mem_cons.mpr ⟨rfl, List.forall_mem_cons.mpr ⟨rfl, fun _ h => absurd h List.not_mem_nil⟩⟩) ?_
    unfold f_Model_isWord at h
    refine K_aload_n rfl 0 rfl ?_
    obtain ⟨r1, er1, h⟩ := Option.bind_eq_some_iff.mp h
    refine K_cV [] [] rfl rfl (Nat.le_of_ble_eq_true rfl) (Nat.le_of_ble_eq_true rfl) sh_436 hM rfl (EV_le (Nat.le_of_ble_eq_true rfl) (F_Model_see hM  er1)) (fun v' M' hq => ?_)
    obtain ⟨rfl, rfl, hr1⟩ := hq
    refine K_pop rfl rfl ?_
    refine K_lconst (v := 0) rfl (by decide) ?_
    refine K_lstore_n rfl ?_
    refine K_iconst (v := 0) rfl (by decide) ?_
    refine K_istore rfl ?_
    refine K_pick [2, 3, 1, 0] ?_
    exact L_Model_isWord_10    FUEL _ _ _ hr1  h
set_option maxRecDepth 20000 in
theorem F_Model_isYardWord {X : mX}  {M : mM} {r : Int32 × mM} (hM : Fx M)  (h : f_Model_isYardWord  M = some r) : EV X (2 + 1) 145 [.ref 436] M (fun v M' => v = some (.int r.1) ∧ r.2 = M' ∧ Fx r.2) := by
    refine EV_of (lc := [(0, .ref 436)]) (Nat.le_of_ble_eq_true rfl) (by exact Nat.le_of_ble_eq_true rfl) (by exact List.forall_mem_cons.mpr ⟨rfl, fun _ h => absurd h List.not_mem_nil⟩) ?_
    unfold f_Model_isYardWord at h
    refine K_aload_n rfl 0 rfl ?_
    refine K_ldc2 (v := 2036429412) rfl (by decide) ?_
    obtain ⟨r1, er1, h⟩ := Option.bind_eq_some_iff.mp h
    refine K_cV [.long 2036429412] [] rfl rfl (Nat.le_of_ble_eq_true rfl) (Nat.le_of_ble_eq_true rfl) sh_436 hM rfl (EV_le (Nat.le_of_ble_eq_true rfl) (F_Model_isWord hM  er1)) (fun v' M' hq => ?_)
    obtain ⟨rfl, rfl, hr1⟩ := hq
    refine K_if_ne rfl (fun c2 => ?_) (fun c2 => ?_)
    · rw [if_neg c2] at h
      refine K_iconst (v := 1) rfl (by decide) ?_
      refine K_goto rfl ?_
      obtain rfl := Option.some.inj h
      exact K_iret rfl (Or.inr ⟨rfl, by decide⟩) ⟨rfl, rfl, hr1⟩
    · rw [if_pos c2] at h
      refine K_aload_n rfl 0 rfl ?_
      refine K_ldc2 (v := 444300621413) rfl (by decide) ?_
      obtain ⟨r3, er3, h⟩ := Option.bind_eq_some_iff.mp h
      refine K_cV [.long 444300621413] [] rfl rfl (Nat.le_of_ble_eq_true rfl) (Nat.le_of_ble_eq_true rfl) sh_436 hr1 rfl (EV_le (Nat.le_of_ble_eq_true rfl) (F_Model_isWord hr1  er3)) (fun v' M' hq => ?_)
      obtain ⟨rfl, rfl, hr3⟩ := hq
      refine K_if_ne rfl (fun c4 => ?_) (fun c4 => ?_)
      · rw [if_neg c4] at h
        refine K_iconst (v := 1) rfl (by decide) ?_
        refine K_goto rfl ?_
        obtain rfl := Option.some.inj h
        exact K_iret rfl (Or.inr ⟨rfl, by decide⟩) ⟨rfl, rfl, hr3⟩
      · rw [if_pos c4] at h
        refine K_aload_n rfl 0 rfl ?_
        refine K_ldc2 (v := 1885432178) rfl (by decide) ?_
        obtain ⟨r5, er5, h⟩ := Option.bind_eq_some_iff.mp h
        refine K_cV [.long 1885432178] [] rfl rfl (Nat.le_of_ble_eq_true rfl) (Nat.le_of_ble_eq_true rfl) sh_436 hr3 rfl (EV_le (Nat.le_of_ble_eq_true rfl) (F_Model_isWord hr3  er5)) (fun v' M' hq => ?_)
        obtain ⟨rfl, rfl, hr5⟩ := hq
        refine K_if_ne rfl (fun c6 => ?_) (fun c6 => ?_)
        · rw [if_neg c6] at h
          refine K_iconst (v := 1) rfl (by decide) ?_
          refine K_goto rfl ?_
          obtain rfl := Option.some.inj h
          exact K_iret rfl (Or.inr ⟨rfl, by decide⟩) ⟨rfl, rfl, hr5⟩
        · rw [if_pos c6] at h
          refine K_aload_n rfl 0 rfl ?_
          refine K_ldc2 (v := 1919905652) rfl (by decide) ?_
          obtain ⟨r7, er7, h⟩ := Option.bind_eq_some_iff.mp h
          refine K_cV [.long 1919905652] [] rfl rfl (Nat.le_of_ble_eq_true rfl) (Nat.le_of_ble_eq_true rfl) sh_436 hr5 rfl (EV_le (Nat.le_of_ble_eq_true rfl) (F_Model_isWord hr5  er7)) (fun v' M' hq => ?_)
          obtain ⟨rfl, rfl, hr7⟩ := hq
          refine K_if_ne rfl (fun c8 => ?_) (fun c8 => ?_)
          · rw [if_neg c8] at h
            refine K_iconst (v := 1) rfl (by decide) ?_
            refine K_goto rfl ?_
            obtain rfl := Option.some.inj h
            exact K_iret rfl (Or.inr ⟨rfl, by decide⟩) ⟨rfl, rfl, hr7⟩
          · rw [if_pos c8] at h
            refine K_aload_n rfl 0 rfl ?_
            refine K_ldc2 (v := 448377484921) rfl (by decide) ?_
            obtain ⟨r9, er9, h⟩ := Option.bind_eq_some_iff.mp h
            refine K_cV [.long 448377484921] [] rfl rfl (Nat.le_of_ble_eq_true rfl) (Nat.le_of_ble_eq_true rfl) sh_436 hr7 rfl (EV_le (Nat.le_of_ble_eq_true rfl) (F_Model_isWord hr7  er9)) (fun v' M' hq => ?_)
            obtain ⟨rfl, rfl, hr9⟩ := hq
            refine K_if_ne rfl (fun c10 => ?_) (fun c10 => ?_)
            · rw [if_neg c10] at h
              refine K_iconst (v := 1) rfl (by decide) ?_
              refine K_goto rfl ?_
              obtain rfl := Option.some.inj h
              exact K_iret rfl (Or.inr ⟨rfl, by decide⟩) ⟨rfl, rfl, hr9⟩
            · rw [if_pos c10] at h
              refine K_aload_n rfl 0 rfl ?_
              refine K_ldc2 (v := 439905906532) rfl (by decide) ?_
              obtain ⟨r11, er11, h⟩ := Option.bind_eq_some_iff.mp h
              refine K_cV [.long 439905906532] [] rfl rfl (Nat.le_of_ble_eq_true rfl) (Nat.le_of_ble_eq_true rfl) sh_436 hr9 rfl (EV_le (Nat.le_of_ble_eq_true rfl) (F_Model_isWord hr9  er11)) (fun v' M' hq => ?_)
              obtain ⟨rfl, rfl, hr11⟩ := hq
              refine K_if_eq rfl (fun c12 => ?_) (fun c12 => ?_)
              · rw [if_pos c12] at h
                refine K_iconst (v := 0) rfl (by decide) ?_
                obtain rfl := Option.some.inj h
                exact K_iret rfl (Or.inr ⟨rfl, by decide⟩) ⟨rfl, rfl, hr11⟩
              · rw [if_neg c12] at h
                refine K_iconst (v := 1) rfl (by decide) ?_
                refine K_goto rfl ?_
                obtain rfl := Option.some.inj h
                exact K_iret rfl (Or.inr ⟨rfl, by decide⟩) ⟨rfl, rfl, hr11⟩
set_option maxRecDepth 20000 in
theorem F_Model_fails {X : mX} {x1 : Int32} {x2 : Int32} {M : mM} {r : Int32 × mM} (hM : Fx M)  (h : f_Model_fails x1 x2 M = some r) : EV X (0 + 1) 148 [.ref 436, .int x1, .int x2] M (fun v M' => v = some (.int r.1) ∧ r.2 = M' ∧ Fx r.2) := by
    refine EV_of (lc := [(0, .ref 436), (1, .int x1), (2, .int x2)]) (Nat.le_of_ble_eq_true rfl) (by exact Nat.le_of_ble_eq_true rfl) (by exact List.forall_mem_cons.mpr ⟨rfl, List.forall_mem_cons.mpr ⟨rfl, List.forall_mem_cons.mpr ⟨rfl, fun _ h => absurd h List.not_mem_nil⟩⟩⟩) ?_
    unfold f_Model_fails at h
    refine K_aload_n rfl 0 rfl ?_
    refine K_gI rfl sh_436 hM rfl rfl 9 rfl ?_
    refine K_if_ne rfl (fun c1 => ?_) (fun c1 => ?_)
    · rw [if_neg c1] at h
      refine K_iconst (v := 0) rfl (by decide) ?_
      obtain rfl := Option.some.inj h
      exact K_iret rfl (Or.inr ⟨rfl, by decide⟩) ⟨rfl, rfl, hM⟩
    · rw [if_pos c1] at h
      refine K_aload_n rfl 0 rfl ?_
      refine K_iconst (v := 1) rfl (by decide) ?_
      refine K_bipush (v := 8) rfl (by decide) ?_
      refine K_iload_n rfl 2 rfl ?_
      refine K_imul rfl ?_
      refine K_iadd rfl ?_
      refine K_iload_n rfl 1 rfl ?_
      refine K_iadd rfl ?_
      obtain ⟨M2, eM2, h⟩ := Option.bind_eq_some_iff.mp h
      refine K_pI rfl sh_436 hM rfl rfl 9 rfl eM2 (fun hM2 => ?_)
      refine K_iconst (v := 0) rfl (by decide) ?_
      obtain rfl := Option.some.inj h
      exact K_iret rfl (Or.inr ⟨rfl, by decide⟩) ⟨rfl, rfl, hM2⟩
set_option maxRecDepth 20000 in
theorem L_Model_passWord_0 {X : mX}  {r : mM}  : ∀ (n : Nat)  (M : mM), Fx M → f_Model_passWord_0   n  M = some r → KK X 1 151 0 [(0, .ref 436)] [] M (fun v M' => v = none ∧ r = M' ∧ Fx r)
  | 0, _ => fun _ h => by cases h
  | n + 1, M => fun hM h => by
    unfold f_Model_passWord_0 at h
    refine K_aload_n rfl 0 rfl ?_
    refine K_aload_n rfl 0 rfl ?_
    refine K_gI rfl sh_436 hM rfl rfl 8 rfl ?_
    obtain ⟨r1, er1, h⟩ := Option.bind_eq_some_iff.mp h
    refine K_cV [.int (M.2.1 436 8)] [] rfl rfl (Nat.le_of_ble_eq_true rfl) (Nat.le_of_ble_eq_true rfl) sh_436 hM rfl (EV_le (Nat.le_of_ble_eq_true rfl) (F_Model_isLetter hM  er1)) (fun v' M' hq => ?_)
    obtain ⟨rfl, rfl, hr1⟩ := hq
    refine K_if_eq rfl (fun c2 => ?_) (fun c2 => ?_)
    · rw [if_pos c2] at h
      obtain rfl := Option.some.inj h
      exact K_vret rfl rfl ⟨rfl, rfl, hr1⟩
    · rw [if_neg c2] at h
      refine K_aload_n rfl 0 rfl ?_
      refine K_dup rfl rfl ?_
      refine K_gI rfl sh_436 hr1 rfl rfl 8 rfl ?_
      refine K_iconst (v := 1) rfl (by decide) ?_
      refine K_iadd rfl ?_
      obtain ⟨M3, eM3, h⟩ := Option.bind_eq_some_iff.mp h
      refine K_pI rfl sh_436 hr1 rfl rfl 8 rfl eM3 (fun hM3 => ?_)
      refine K_goto rfl ?_
      refine K_pick [0] ?_
      exact L_Model_passWord_0    n  _ hM3  h
set_option maxRecDepth 20000 in
theorem F_Model_passWord {X : mX}  {M : mM} {r : mM} (hM : Fx M)  (h : f_Model_passWord  M = some r) : EV X (1 + 1) 151 [.ref 436] M (fun v M' => v = none ∧ r = M' ∧ Fx r) := by
    refine EV_of (lc := [(0, .ref 436)]) (Nat.le_of_ble_eq_true rfl) (by exact Nat.le_of_ble_eq_true rfl) (by exact List.forall_mem_cons.mpr ⟨rfl, fun _ h => absurd h List.not_mem_nil⟩) ?_
    unfold f_Model_passWord at h
    refine K_pick [0] ?_
    exact L_Model_passWord_0    FUEL  _ hM  h
set_option maxRecDepth 20000 in
theorem F_Model_isDigit {X : mX} {x1 : Int32} {M : mM} {r : Int32 × mM} (hM : Fx M)  (h : f_Model_isDigit x1 M = some r) : EV X (0 + 1) 154 [.ref 436, .int x1] M (fun v M' => v = some (.int r.1) ∧ r.2 = M' ∧ Fx r.2) := by
    refine EV_of (lc := [(0, .ref 436), (1, .int x1)]) (Nat.le_of_ble_eq_true rfl) (by exact Nat.le_of_ble_eq_true rfl) (by exact List.forall_mem_cons.mpr ⟨rfl, List.forall_mem_cons.mpr ⟨rfl, fun _ h => absurd h List.not_mem_nil⟩⟩) ?_
    unfold f_Model_isDigit at h
    refine K_iload_n rfl 1 rfl ?_
    refine K_aload_n rfl 0 rfl ?_
    refine K_gI rfl sh_436 hM rfl rfl 1 rfl ?_
    refine K_ic_ge rfl (fun c1 => ?_) (fun c1 => ?_)
    · rw [if_pos c1] at h
      refine K_iconst (v := 0) rfl (by decide) ?_
      obtain rfl := Option.some.inj h
      exact K_iret rfl (Or.inr ⟨rfl, by decide⟩) ⟨rfl, rfl, hM⟩
    · rw [if_neg c1] at h
      refine K_aload_n rfl 0 rfl ?_
      refine K_gR rfl sh_436 hM rfl rfl 0 rfl r_436_0 ?_
      refine K_iload_n rfl 1 rfl ?_
      obtain ⟨v2, ev2, h⟩ := Option.bind_eq_some_iff.mp h
      refine K_rdB rfl sh_437 (by decide) hM ev2 ?_
      refine K_bipush (v := 48) rfl (by decide) ?_
      refine K_ic_lt rfl (fun c3 => ?_) (fun c3 => ?_)
      · rw [if_pos c3] at h
        refine K_iconst (v := 0) rfl (by decide) ?_
        obtain rfl := Option.some.inj h
        exact K_iret rfl (Or.inr ⟨rfl, by decide⟩) ⟨rfl, rfl, hM⟩
      · rw [if_neg c3] at h
        refine K_aload_n rfl 0 rfl ?_
        refine K_gR rfl sh_436 hM rfl rfl 0 rfl r_436_0 ?_
        refine K_iload_n rfl 1 rfl ?_
        obtain ⟨v4, ev4, h⟩ := Option.bind_eq_some_iff.mp h
        refine K_rdB rfl sh_437 (by decide) hM ev4 ?_
        refine K_bipush (v := 57) rfl (by decide) ?_
        refine K_ic_gt rfl (fun c5 => ?_) (fun c5 => ?_)
        · rw [if_pos c5] at h
          refine K_iconst (v := 0) rfl (by decide) ?_
          obtain rfl := Option.some.inj h
          exact K_iret rfl (Or.inr ⟨rfl, by decide⟩) ⟨rfl, rfl, hM⟩
        · rw [if_neg c5] at h
          refine K_iconst (v := 1) rfl (by decide) ?_
          refine K_goto rfl ?_
          obtain rfl := Option.some.inj h
          exact K_iret rfl (Or.inr ⟨rfl, by decide⟩) ⟨rfl, rfl, hM⟩
set_option maxRecDepth 20000 in
theorem F_Model_in {X : mX} {x0 : Int64} {x2 : Int64} {x4 : Int64} {M : mM} {r : Int32 × mM} (hM : Fx M)  (h : f_Model_in x0 x2 x4 M = some r) : EV X (0 + 1) 155 [.long x0, .long x2, .long x4] M (fun v M' => v = some (.int r.1) ∧ r.2 = M' ∧ Fx r.2) := by
    refine EV_of (lc := [(0, .long x0), (2, .long x2), (4, .long x4)]) (Nat.le_of_ble_eq_true rfl) (by exact Nat.le_of_ble_eq_true rfl) (by exact List.forall_mem_cons.mpr ⟨rfl, List.forall_mem_cons.mpr ⟨rfl, List.forall_mem_cons.mpr ⟨rfl, fun _ h => absurd h List.not_mem_nil⟩⟩⟩) ?_
    unfold f_Model_in at h
    refine K_lload_n rfl 0 rfl ?_
    refine K_lload_n rfl 1 rfl ?_
    refine K_lcmp rfl ?_
    refine K_if_lt rfl (fun c1 => ?_) (fun c1 => ?_)
    · rw [if_pos c1] at h
      refine K_iconst (v := 0) rfl (by decide) ?_
      obtain rfl := Option.some.inj h
      exact K_iret rfl (Or.inr ⟨rfl, by decide⟩) ⟨rfl, rfl, hM⟩
    · rw [if_neg c1] at h
      refine K_lload_n rfl 0 rfl ?_
      refine K_lload rfl 2 rfl ?_
      refine K_lcmp rfl ?_
      refine K_if_gt rfl (fun c2 => ?_) (fun c2 => ?_)
      · rw [if_pos c2] at h
        refine K_iconst (v := 0) rfl (by decide) ?_
        obtain rfl := Option.some.inj h
        exact K_iret rfl (Or.inr ⟨rfl, by decide⟩) ⟨rfl, rfl, hM⟩
      · rw [if_neg c2] at h
        refine K_iconst (v := 1) rfl (by decide) ?_
        refine K_goto rfl ?_
        obtain rfl := Option.some.inj h
        exact K_iret rfl (Or.inr ⟨rfl, by decide⟩) ⟨rfl, rfl, hM⟩
set_option maxRecDepth 20000 in
theorem L_Model_numberHere_117 {X : mX} {x1 : Int32} {x2 : Int32} {r : Int32 × mM}  (l3 : Int32) (M : mM) (hM : Fx M)  (h : f_Model_numberHere_117 x1 x2  l3 M = some r) : KK X 1 153 117 [(0, .ref 436), (3, .int l3)] [] M (fun v M' => v = some (.int r.1) ∧ r.2 = M' ∧ Fx r.2) := by
    unfold f_Model_numberHere_117 at h
    refine K_aload_n rfl 0 rfl ?_
    refine K_iconst (v := 1) rfl (by decide) ?_
    refine K_iload_n rfl 1 rfl ?_
    obtain ⟨r8, er8, h⟩ := Option.bind_eq_some_iff.mp h
    refine K_cV [.int 1, .int l3] [] rfl rfl (Nat.le_of_ble_eq_true rfl) (Nat.le_of_ble_eq_true rfl) sh_436 hM rfl (EV_le (Nat.le_of_ble_eq_true rfl) (F_Model_fails hM  er8)) (fun v' M' hq => ?_)
    obtain ⟨rfl, rfl, hr8⟩ := hq
    refine K_if_eq rfl (fun c9 => ?_) (fun c9 => ?_)
    · rw [if_pos c9] at h
      refine K_iconst (v := 0) rfl (by decide) ?_
      obtain rfl := Option.some.inj h
      exact K_iret rfl (Or.inr ⟨rfl, by decide⟩) ⟨rfl, rfl, hr8⟩
    · rw [if_neg c9] at h
      refine K_iconst (v := 1) rfl (by decide) ?_
      refine K_goto rfl ?_
      obtain rfl := Option.some.inj h
      exact K_iret rfl (Or.inr ⟨rfl, by decide⟩) ⟨rfl, rfl, hr8⟩
set_option maxRecDepth 20000 in
theorem L_Model_numberHere_75 {X : mX} {x1 : Int32} {x2 : Int32} {k34 : Int32 → Int32 → mM → Option (Int32 × mM)} {r : Int32 × mM}  (hk34 : ∀ (l3 : Int32) (l4 : Int32) (M : mM), Fx M → k34 l3 l4 M = some r → KK X 1 153 34 [(0, .ref 436), (1, .int x1), (2, .int x2), (3, .int l3), (4, .int l4)] [] M (fun v M' => v = some (.int r.1) ∧ r.2 = M' ∧ Fx r.2)) (l3 : Int32) (l4 : Int32) (M : mM) (hM : Fx M)  (h : f_Model_numberHere_75 x1 x2 k34 l3 l4 M = some r) : KK X 1 153 75 [(0, .ref 436), (1, .int x1), (2, .int x2), (3, .int l3), (4, .int l4)] [] M (fun v M' => v = some (.int r.1) ∧ r.2 = M' ∧ Fx r.2) := by
    unfold f_Model_numberHere_75 at h
    refine K_aload_n rfl 0 rfl ?_
    refine K_dup rfl rfl ?_
    refine K_gI rfl sh_436 hM rfl rfl 8 rfl ?_
    refine K_iconst (v := 1) rfl (by decide) ?_
    refine K_iadd rfl ?_
    obtain ⟨M13, eM13, h⟩ := Option.bind_eq_some_iff.mp h
    refine K_pI rfl sh_436 hM rfl rfl 8 rfl eM13 (fun hM13 => ?_)
    refine K_goto rfl ?_
    refine K_pick [0, 1, 2, 3, 4] ?_
    exact hk34 _ _ _ hM13  h
set_option maxRecDepth 20000 in
theorem L_Model_numberHere_34 {X : mX} {x1 : Int32} {x2 : Int32} {r : Int32 × mM}  : ∀ (n : Nat) (l3 : Int32) (l4 : Int32) (M : mM), Fx M → f_Model_numberHere_34 x1 x2  n l3 l4 M = some r → KK X 1 153 34 [(0, .ref 436), (1, .int x1), (2, .int x2), (3, .int l3), (4, .int l4)] [] M (fun v M' => v = some (.int r.1) ∧ r.2 = M' ∧ Fx r.2)
  | 0, _, _, _ => fun _ h => by cases h
  | n + 1, l3, l4, M => fun hM h => by
    unfold f_Model_numberHere_34 at h
    refine K_aload_n rfl 0 rfl ?_
    refine K_aload_n rfl 0 rfl ?_
    refine K_gI rfl sh_436 hM rfl rfl 8 rfl ?_
    obtain ⟨r4, er4, h⟩ := Option.bind_eq_some_iff.mp h
    refine K_cV [.int (M.2.1 436 8)] [] rfl rfl (Nat.le_of_ble_eq_true rfl) (Nat.le_of_ble_eq_true rfl) sh_436 hM rfl (EV_le (Nat.le_of_ble_eq_true rfl) (F_Model_isDigit hM  er4)) (fun v' M' hq => ?_)
    obtain ⟨rfl, rfl, hr4⟩ := hq
    refine K_if_eq rfl (fun c5 => ?_) (fun c5 => ?_)
    · rw [if_pos c5] at h
      refine K_aload_n rfl 0 rfl ?_
      refine K_iload rfl 4 rfl ?_
      obtain ⟨M6, eM6, h⟩ := Option.bind_eq_some_iff.mp h
      refine K_pI rfl sh_436 hr4 rfl rfl 10 rfl eM6 (fun hM6 => ?_)
      refine K_aload_n rfl 0 rfl ?_
      refine K_gI rfl sh_436 hM6 rfl rfl 8 rfl ?_
      refine K_iload_n rfl 3 rfl ?_
      refine K_isub rfl ?_
      refine K_iconst (v := 5) rfl (by decide) ?_
      refine K_ic_gt rfl (fun c7 => ?_) (fun c7 => ?_)
      · rw [if_pos c7] at h
        refine K_pick [0, 3] ?_
        exact L_Model_numberHere_117    _ _ hM6  h
      · rw [if_neg c7] at h
        refine K_iload rfl 4 rfl ?_
        refine K_i2l rfl ?_
        refine K_iload_n rfl 1 rfl ?_
        refine K_i2l rfl ?_
        refine K_iload_n rfl 2 rfl ?_
        refine K_i2l rfl ?_
        obtain ⟨r10, er10, h⟩ := Option.bind_eq_some_iff.mp h
        refine K_callS [.long (Int32.toInt64 l4), .long (Int32.toInt64 x1), .long (Int32.toInt64 x2)] [] rfl rfl (Nat.le_of_ble_eq_true rfl) (Nat.le_of_ble_eq_true rfl) (EV_le (Nat.le_of_ble_eq_true rfl) (F_Model_in hM6  er10)) (fun v' M' hq => ?_)
        obtain ⟨rfl, rfl, hr10⟩ := hq
        refine K_if_ne rfl (fun c11 => ?_) (fun c11 => ?_)
        · rw [if_neg c11] at h
          refine K_iconst (v := 1) rfl (by decide) ?_
          refine K_goto rfl ?_
          obtain rfl := Option.some.inj h
          exact K_iret rfl (Or.inr ⟨rfl, by decide⟩) ⟨rfl, rfl, hr10⟩
        · rw [if_pos c11] at h
          refine K_pick [0, 3] ?_
          exact L_Model_numberHere_117    _ _ hr10  h
    · rw [if_neg c5] at h
      refine K_aload_n rfl 0 rfl ?_
      refine K_gI rfl sh_436 hr4 rfl rfl 8 rfl ?_
      refine K_iload_n rfl 3 rfl ?_
      refine K_isub rfl ?_
      refine K_iconst (v := 5) rfl (by decide) ?_
      refine K_ic_ge rfl (fun c12 => ?_) (fun c12 => ?_)
      · rw [if_pos c12] at h
        refine K_pick [0, 1, 2, 3, 4] ?_
        exact L_Model_numberHere_75   (L_Model_numberHere_34    n) _ _ _ hr4  h
      · rw [if_neg c12] at h
        refine K_bipush (v := 10) rfl (by decide) ?_
        refine K_iload rfl 4 rfl ?_
        refine K_imul rfl ?_
        refine K_aload_n rfl 0 rfl ?_
        refine K_gR rfl sh_436 hr4 rfl rfl 0 rfl r_436_0 ?_
        refine K_aload_n rfl 0 rfl ?_
        refine K_gI rfl sh_436 hr4 rfl rfl 8 rfl ?_
        obtain ⟨v14, ev14, h⟩ := Option.bind_eq_some_iff.mp h
        refine K_rdB rfl sh_437 (by decide) hr4 ev14 ?_
        refine K_iadd rfl ?_
        refine K_bipush (v := 48) rfl (by decide) ?_
        refine K_isub rfl ?_
        refine K_istore rfl ?_
        refine K_pick [1, 2, 3, 4, 0] ?_
        exact L_Model_numberHere_75   (L_Model_numberHere_34    n) _ _ _ hr4  h
set_option maxRecDepth 20000 in
theorem F_Model_numberHere {X : mX} {x1 : Int32} {x2 : Int32} {M : mM} {r : Int32 × mM} (hM : Fx M)  (h : f_Model_numberHere x1 x2 M = some r) : EV X (1 + 1) 153 [.ref 436, .int x1, .int x2] M (fun v M' => v = some (.int r.1) ∧ r.2 = M' ∧ Fx r.2) := by
    refine EV_of (lc := [(0, .ref 436), (1, .int x1), (2, .int x2)]) (Nat.le_of_ble_eq_true rfl) (by exact Nat.le_of_ble_eq_true rfl) (by exact List.forall_mem_cons.mpr ⟨rfl, List.forall_mem_cons.mpr ⟨rfl, List.forall_mem_cons.mpr ⟨rfl, fun _ h => absurd h List.not_mem_nil⟩⟩⟩) ?_
    unfold f_Model_numberHere at h
    refine K_aload_n rfl 0 rfl ?_
    obtain ⟨r1, er1, h⟩ := Option.bind_eq_some_iff.mp h
    refine K_cV [] [] rfl rfl (Nat.le_of_ble_eq_true rfl) (Nat.le_of_ble_eq_true rfl) sh_436 hM rfl (EV_le (Nat.le_of_ble_eq_true rfl) (F_Model_see hM  er1)) (fun v' M' hq => ?_)
    obtain ⟨rfl, rfl, hr1⟩ := hq
    refine K_pop rfl rfl ?_
    refine K_aload_n rfl 0 rfl ?_
    refine K_aload_n rfl 0 rfl ?_
    refine K_gI rfl sh_436 hr1 rfl rfl 8 rfl ?_
    obtain ⟨r2, er2, h⟩ := Option.bind_eq_some_iff.mp h
    refine K_cV [.int (r1.2.2.1 436 8)] [] rfl rfl (Nat.le_of_ble_eq_true rfl) (Nat.le_of_ble_eq_true rfl) sh_436 hr1 rfl (EV_le (Nat.le_of_ble_eq_true rfl) (F_Model_isDigit hr1  er2)) (fun v' M' hq => ?_)
    obtain ⟨rfl, rfl, hr2⟩ := hq
    refine K_if_ne rfl (fun c3 => ?_) (fun c3 => ?_)
    · rw [if_neg c3] at h
      refine K_aload_n rfl 0 rfl ?_
      refine K_gI rfl sh_436 hr2 rfl rfl 8 rfl ?_
      refine K_istore_n rfl ?_
      refine K_iconst (v := 0) rfl (by decide) ?_
      refine K_istore rfl ?_
      refine K_pick [2, 3, 4, 1, 0] ?_
      exact L_Model_numberHere_34    FUEL _ _ _ hr2  h
    · rw [if_pos c3] at h
      refine K_aload_n rfl 0 rfl ?_
      refine K_iconst (v := 0) rfl (by decide) ?_
      refine K_aload_n rfl 0 rfl ?_
      refine K_gI rfl sh_436 hr2 rfl rfl 8 rfl ?_
      obtain ⟨r15, er15, h⟩ := Option.bind_eq_some_iff.mp h
      refine K_cV [.int 0, .int (r2.2.2.1 436 8)] [] rfl rfl (Nat.le_of_ble_eq_true rfl) (Nat.le_of_ble_eq_true rfl) sh_436 hr2 rfl (EV_le (Nat.le_of_ble_eq_true rfl) (F_Model_fails hr2  er15)) (fun v' M' hq => ?_)
      obtain ⟨rfl, rfl, hr15⟩ := hq
      split at h
      · rename_i c16
        obtain rfl := Option.some.inj h
        exact K_iret rfl (Or.inr ⟨rfl, c16⟩) ⟨rfl, rfl, hr15⟩
      · cases h
set_option maxRecDepth 20000 in
theorem F_Model_cellHere {X : mX} {x1 : Int32} {x2 : Int32} {x3 : Int32} {M : mM} {r : Int32 × mM} (hM : Fx M)  (h : f_Model_cellHere x1 x2 x3 M = some r) : EV X (2 + 1) 152 [.ref 436, .int x1, .int x2, .int x3] M (fun v M' => v = some (.int r.1) ∧ r.2 = M' ∧ Fx r.2) := by
    refine EV_of (lc := [(0, .ref 436), (1, .int x1), (2, .int x2), (3, .int x3)]) (Nat.le_of_ble_eq_true rfl) (by exact Nat.le_of_ble_eq_true rfl) (by exact List.forall_mem_cons.mpr ⟨rfl, List.forall_mem_cons.mpr ⟨rfl, List.forall_mem_cons.mpr ⟨rfl, List.forall_mem_cons.mpr ⟨rfl, fun _ h => absurd h List.not_mem_nil⟩⟩⟩⟩) ?_
    unfold f_Model_cellHere at h
    refine K_aload_n rfl 0 rfl ?_
    refine K_iload_n rfl 2 rfl ?_
    refine K_iload_n rfl 3 rfl ?_
    obtain ⟨r1, er1, h⟩ := Option.bind_eq_some_iff.mp h
    refine K_cV [.int x2, .int x3] [] rfl rfl (Nat.le_of_ble_eq_true rfl) (Nat.le_of_ble_eq_true rfl) sh_436 hM rfl (EV_le (Nat.le_of_ble_eq_true rfl) (F_Model_numberHere hM  er1)) (fun v' M' hq => ?_)
    obtain ⟨rfl, rfl, hr1⟩ := hq
    refine K_if_ne rfl (fun c2 => ?_) (fun c2 => ?_)
    · rw [if_neg c2] at h
      refine K_aload_n rfl 0 rfl ?_
      refine K_gR rfl sh_436 hr1 rfl rfl 7 rfl r_436_7 ?_
      refine K_iload_n rfl 1 rfl ?_
      refine K_aload_n rfl 0 rfl ?_
      refine K_gI rfl sh_436 hr1 rfl rfl 10 rfl ?_
      obtain ⟨M3, eM3, h⟩ := Option.bind_eq_some_iff.mp h
      refine K_wr rfl sh_442 hr1 eM3 (fun hM3 => ?_)
      refine K_iconst (v := 1) rfl (by decide) ?_
      obtain rfl := Option.some.inj h
      exact K_iret rfl (Or.inr ⟨rfl, by decide⟩) ⟨rfl, rfl, hM3⟩
    · rw [if_pos c2] at h
      refine K_iconst (v := 0) rfl (by decide) ?_
      obtain rfl := Option.some.inj h
      exact K_iret rfl (Or.inr ⟨rfl, by decide⟩) ⟨rfl, rfl, hr1⟩
set_option maxRecDepth 20000 in
theorem F_Model_isYardHere {X : mX} {x1 : Int32} {M : mM} {r : Int32 × mM} (hM : Fx M)  (h : f_Model_isYardHere x1 M = some r) : EV X (3 + 1) 150 [.ref 436, .int x1] M (fun v M' => v = some (.int r.1) ∧ r.2 = M' ∧ Fx r.2) := by
    refine EV_of (lc := [(0, .ref 436), (1, .int x1)]) (Nat.le_of_ble_eq_true rfl) (by exact Nat.le_of_ble_eq_true rfl) (by exact List.forall_mem_cons.mpr ⟨rfl, List.forall_mem_cons.mpr ⟨rfl, fun _ h => absurd h List.not_mem_nil⟩⟩) ?_
    unfold f_Model_isYardHere at h
    refine K_aload_n rfl 0 rfl ?_
    refine K_gR rfl sh_436 hM rfl rfl 7 rfl r_436_7 ?_
    refine K_iconst (v := 0) rfl (by decide) ?_
    obtain ⟨v1, ev1, h⟩ := Option.bind_eq_some_iff.mp h
    refine K_rd rfl sh_442 hM ev1 ?_
    refine K_if_le rfl (fun c2 => ?_) (fun c2 => ?_)
    · rw [if_pos c2] at h
      refine K_aload_n rfl 0 rfl ?_
      obtain ⟨M3, eM3, h⟩ := Option.bind_eq_some_iff.mp h
      refine K_cV [] [] rfl rfl (Nat.le_of_ble_eq_true rfl) (Nat.le_of_ble_eq_true rfl) sh_436 hM rfl (EV_le (Nat.le_of_ble_eq_true rfl) (F_Model_passWord hM  eM3)) (fun v' M' hq => ?_)
      obtain ⟨rfl, rfl, hM3⟩ := hq
      refine K_aload_n rfl 0 rfl ?_
      refine K_iconst (v := 0) rfl (by decide) ?_
      refine K_iconst (v := 1) rfl (by decide) ?_
      refine K_iconst (v := 4) rfl (by decide) ?_
      obtain ⟨r4, er4, h⟩ := Option.bind_eq_some_iff.mp h
      refine K_cV [.int 0, .int 1, .int 4] [] rfl rfl (Nat.le_of_ble_eq_true rfl) (Nat.le_of_ble_eq_true rfl) sh_436 hM3 rfl (EV_le (Nat.le_of_ble_eq_true rfl) (F_Model_cellHere hM3  er4)) (fun v' M' hq => ?_)
      obtain ⟨rfl, rfl, hr4⟩ := hq
      refine K_if_eq rfl (fun c5 => ?_) (fun c5 => ?_)
      · rw [if_pos c5] at h
        refine K_iconst (v := 0) rfl (by decide) ?_
        obtain rfl := Option.some.inj h
        exact K_iret rfl (Or.inr ⟨rfl, by decide⟩) ⟨rfl, rfl, hr4⟩
      · rw [if_neg c5] at h
        refine K_aload_n rfl 0 rfl ?_
        refine K_iconst (v := 1) rfl (by decide) ?_
        refine K_iconst (v := 2) rfl (by decide) ?_
        refine K_bipush (v := 20) rfl (by decide) ?_
        obtain ⟨r6, er6, h⟩ := Option.bind_eq_some_iff.mp h
        refine K_cV [.int 1, .int 2, .int 20] [] rfl rfl (Nat.le_of_ble_eq_true rfl) (Nat.le_of_ble_eq_true rfl) sh_436 hr4 rfl (EV_le (Nat.le_of_ble_eq_true rfl) (F_Model_cellHere hr4  er6)) (fun v' M' hq => ?_)
        obtain ⟨rfl, rfl, hr6⟩ := hq
        refine K_if_eq rfl (fun c7 => ?_) (fun c7 => ?_)
        · rw [if_pos c7] at h
          refine K_iconst (v := 0) rfl (by decide) ?_
          obtain rfl := Option.some.inj h
          exact K_iret rfl (Or.inr ⟨rfl, by decide⟩) ⟨rfl, rfl, hr6⟩
        · rw [if_neg c7] at h
          refine K_iconst (v := 1) rfl (by decide) ?_
          refine K_goto rfl ?_
          obtain rfl := Option.some.inj h
          exact K_iret rfl (Or.inr ⟨rfl, by decide⟩) ⟨rfl, rfl, hr6⟩
    · rw [if_neg c2] at h
      refine K_aload_n rfl 0 rfl ?_
      refine K_iconst (v := 4) rfl (by decide) ?_
      refine K_iload_n rfl 1 rfl ?_
      obtain ⟨r8, er8, h⟩ := Option.bind_eq_some_iff.mp h
      refine K_cV [.int 4, .int x1] [] rfl rfl (Nat.le_of_ble_eq_true rfl) (Nat.le_of_ble_eq_true rfl) sh_436 hM rfl (EV_le (Nat.le_of_ble_eq_true rfl) (F_Model_fails hM  er8)) (fun v' M' hq => ?_)
      obtain ⟨rfl, rfl, hr8⟩ := hq
      split at h
      · rename_i c9
        obtain rfl := Option.some.inj h
        exact K_iret rfl (Or.inr ⟨rfl, c9⟩) ⟨rfl, rfl, hr8⟩
      · cases h
set_option maxRecDepth 20000 in
theorem F_Model_takesWord {X : mX} {x1 : Int64} {M : mM} {r : Int32 × mM} (hM : Fx M)  (h : f_Model_takesWord x1 M = some r) : EV X (2 + 1) 158 [.ref 436, .long x1] M (fun v M' => v = some (.int r.1) ∧ r.2 = M' ∧ Fx r.2) := by
    refine EV_of (lc := [(0, .ref 436), (1, .long x1)]) (Nat.le_of_ble_eq_true rfl) (by exact Nat.le_of_ble_eq_true rfl) (by exact List.forall_mem_cons.mpr ⟨rfl, List.forall_mem_cons.mpr ⟨rfl, fun _ h => absurd h List.not_mem_nil⟩⟩) ?_
    unfold f_Model_takesWord at h
    refine K_aload_n rfl 0 rfl ?_
    refine K_lload_n rfl 1 rfl ?_
    obtain ⟨r1, er1, h⟩ := Option.bind_eq_some_iff.mp h
    refine K_cV [.long x1] [] rfl rfl (Nat.le_of_ble_eq_true rfl) (Nat.le_of_ble_eq_true rfl) sh_436 hM rfl (EV_le (Nat.le_of_ble_eq_true rfl) (F_Model_isWord hM  er1)) (fun v' M' hq => ?_)
    obtain ⟨rfl, rfl, hr1⟩ := hq
    refine K_if_ne rfl (fun c2 => ?_) (fun c2 => ?_)
    · rw [if_neg c2] at h
      refine K_aload_n rfl 0 rfl ?_
      obtain ⟨M3, eM3, h⟩ := Option.bind_eq_some_iff.mp h
      refine K_cV [] [] rfl rfl (Nat.le_of_ble_eq_true rfl) (Nat.le_of_ble_eq_true rfl) sh_436 hr1 rfl (EV_le (Nat.le_of_ble_eq_true rfl) (F_Model_passWord hr1  eM3)) (fun v' M' hq => ?_)
      obtain ⟨rfl, rfl, hM3⟩ := hq
      refine K_iconst (v := 1) rfl (by decide) ?_
      obtain rfl := Option.some.inj h
      exact K_iret rfl (Or.inr ⟨rfl, by decide⟩) ⟨rfl, rfl, hM3⟩
    · rw [if_pos c2] at h
      refine K_iconst (v := 0) rfl (by decide) ?_
      obtain rfl := Option.some.inj h
      exact K_iret rfl (Or.inr ⟨rfl, by decide⟩) ⟨rfl, rfl, hr1⟩
set_option maxRecDepth 20000 in
theorem F_Model_kindHere {X : mX}  {M : mM} {r : Int32 × mM} (hM : Fx M)  (h : f_Model_kindHere  M = some r) : EV X (3 + 1) 157 [.ref 436] M (fun v M' => v = some (.int r.1) ∧ r.2 = M' ∧ Fx r.2) := by
    refine EV_of (lc := [(0, .ref 436)]) (Nat.le_of_ble_eq_true rfl) (by exact Nat.le_of_ble_eq_true rfl) (by exact List.forall_mem_cons.mpr ⟨rfl, fun _ h => absurd h List.not_mem_nil⟩) ?_
    unfold f_Model_kindHere at h
    refine K_aload_n rfl 0 rfl ?_
    refine K_ldc2 (v := 482854660462) rfl (by decide) ?_
    obtain ⟨r1, er1, h⟩ := Option.bind_eq_some_iff.mp h
    refine K_cV [.long 482854660462] [] rfl rfl (Nat.le_of_ble_eq_true rfl) (Nat.le_of_ble_eq_true rfl) sh_436 hM rfl (EV_le (Nat.le_of_ble_eq_true rfl) (F_Model_takesWord hM  er1)) (fun v' M' hq => ?_)
    obtain ⟨rfl, rfl, hr1⟩ := hq
    refine K_if_eq rfl (fun c2 => ?_) (fun c2 => ?_)
    · rw [if_pos c2] at h
      refine K_aload_n rfl 0 rfl ?_
      refine K_ldc2 (v := 426953501796) rfl (by decide) ?_
      obtain ⟨r3, er3, h⟩ := Option.bind_eq_some_iff.mp h
      refine K_cV [.long 426953501796] [] rfl rfl (Nat.le_of_ble_eq_true rfl) (Nat.le_of_ble_eq_true rfl) sh_436 hr1 rfl (EV_le (Nat.le_of_ble_eq_true rfl) (F_Model_takesWord hr1  er3)) (fun v' M' hq => ?_)
      obtain ⟨rfl, rfl, hr3⟩ := hq
      refine K_if_eq rfl (fun c4 => ?_) (fun c4 => ?_)
      · rw [if_pos c4] at h
        refine K_aload_n rfl 0 rfl ?_
        refine K_ldc2 (v := 129117192284516) rfl (by decide) ?_
        obtain ⟨r5, er5, h⟩ := Option.bind_eq_some_iff.mp h
        refine K_cV [.long 129117192284516] [] rfl rfl (Nat.le_of_ble_eq_true rfl) (Nat.le_of_ble_eq_true rfl) sh_436 hr3 rfl (EV_le (Nat.le_of_ble_eq_true rfl) (F_Model_takesWord hr3  er5)) (fun v' M' hq => ?_)
        obtain ⟨rfl, rfl, hr5⟩ := hq
        refine K_if_eq rfl (fun c6 => ?_) (fun c6 => ?_)
        · rw [if_pos c6] at h
          refine K_aload_n rfl 0 rfl ?_
          refine K_ldc2 (v := 126943688025203) rfl (by decide) ?_
          obtain ⟨r7, er7, h⟩ := Option.bind_eq_some_iff.mp h
          refine K_cV [.long 126943688025203] [] rfl rfl (Nat.le_of_ble_eq_true rfl) (Nat.le_of_ble_eq_true rfl) sh_436 hr5 rfl (EV_le (Nat.le_of_ble_eq_true rfl) (F_Model_takesWord hr5  er7)) (fun v' M' hq => ?_)
          obtain ⟨rfl, rfl, hr7⟩ := hq
          refine K_if_eq rfl (fun c8 => ?_) (fun c8 => ?_)
          · rw [if_pos c8] at h
            refine K_iconst (v := (-1)) rfl (by decide) ?_
            obtain rfl := Option.some.inj h
            exact K_iret rfl (Or.inl rfl) ⟨rfl, rfl, hr7⟩
          · rw [if_neg c8] at h
            refine K_iconst (v := 3) rfl (by decide) ?_
            refine K_goto rfl ?_
            obtain rfl := Option.some.inj h
            exact K_iret rfl (Or.inl rfl) ⟨rfl, rfl, hr7⟩
        · rw [if_neg c6] at h
          refine K_iconst (v := 2) rfl (by decide) ?_
          refine K_goto rfl ?_
          obtain rfl := Option.some.inj h
          exact K_iret rfl (Or.inl rfl) ⟨rfl, rfl, hr5⟩
      · rw [if_neg c4] at h
        refine K_iconst (v := 1) rfl (by decide) ?_
        obtain rfl := Option.some.inj h
        exact K_iret rfl (Or.inl rfl) ⟨rfl, rfl, hr3⟩
    · rw [if_neg c2] at h
      refine K_iconst (v := 0) rfl (by decide) ?_
      obtain rfl := Option.some.inj h
      exact K_iret rfl (Or.inl rfl) ⟨rfl, rfl, hr1⟩
set_option maxRecDepth 20000 in
theorem L_Model_isGraveHere_154 {X : mX} {x1 : Int32} {k88 : Int32 → Int32 → Int32 → mM → Option (Int32 × mM)} {r : Int32 × mM}  (hk88 : ∀ (l2 : Int32) (l3 : Int32) (l4 : Int32) (M : mM), Fx M → k88 l2 l3 l4 M = some r → KK X 4 156 88 [(0, .ref 436), (2, .int l2), (3, .int l3), (4, .int l4)] [] M (fun v M' => v = some (.int r.1) ∧ r.2 = M' ∧ Fx r.2)) (l2 : Int32) (l3 : Int32) (l4 : Int32) (M : mM) (hM : Fx M)  (h : f_Model_isGraveHere_154 x1 k88 l2 l3 l4 M = some r) : KK X 4 156 154 [(0, .ref 436), (2, .int l2), (3, .int l3), (4, .int l4)] [] M (fun v M' => v = some (.int r.1) ∧ r.2 = M' ∧ Fx r.2) := by
    unfold f_Model_isGraveHere_154 at h
    refine K_iinc (y := (l4 + 1)) rfl 3 rfl rfl ?_
    refine K_goto rfl ?_
    refine K_pick [1, 2, 3, 0] ?_
    exact hk88 _ _ _ _ hM  h
set_option maxRecDepth 20000 in
theorem L_Model_isGraveHere_88 {X : mX} {x1 : Int32} {r : Int32 × mM}  : ∀ (n : Nat) (l2 : Int32) (l3 : Int32) (l4 : Int32) (M : mM), Fx M → f_Model_isGraveHere_88 x1  n l2 l3 l4 M = some r → KK X 4 156 88 [(0, .ref 436), (2, .int l2), (3, .int l3), (4, .int l4)] [] M (fun v M' => v = some (.int r.1) ∧ r.2 = M' ∧ Fx r.2)
  | 0, _, _, _, _ => fun _ h => by cases h
  | n + 1, l2, l3, l4, M => fun hM h => by
    unfold f_Model_isGraveHere_88 at h
    refine K_iload rfl 3 rfl ?_
    refine K_aload_n rfl 0 rfl ?_
    refine K_gR rfl sh_436 hM rfl rfl 7 rfl r_436_7 ?_
    refine K_iconst (v := 2) rfl (by decide) ?_
    obtain ⟨v12, ev12, h⟩ := Option.bind_eq_some_iff.mp h
    refine K_rd rfl sh_442 hM ev12 ?_
    refine K_ic_ge rfl (fun c13 => ?_) (fun c13 => ?_)
    · rw [if_pos c13] at h
      refine K_aload_n rfl 0 rfl ?_
      obtain ⟨r14, er14, h⟩ := Option.bind_eq_some_iff.mp h
      refine K_cV [] [] rfl rfl (Nat.le_of_ble_eq_true rfl) (Nat.le_of_ble_eq_true rfl) sh_436 hM rfl (EV_le (Nat.le_of_ble_eq_true rfl) (F_Model_see hM  er14)) (fun v' M' hq => ?_)
      obtain ⟨rfl, rfl, hr14⟩ := hq
      refine K_pop rfl rfl ?_
      refine K_aload_n rfl 0 rfl ?_
      refine K_gI rfl sh_436 hr14 rfl rfl 8 rfl ?_
      refine K_istore rfl ?_
      refine K_aload_n rfl 1 rfl ?_
      obtain ⟨r15, er15, h⟩ := Option.bind_eq_some_iff.mp h
      refine K_cV [] [] rfl rfl (Nat.le_of_ble_eq_true rfl) (Nat.le_of_ble_eq_true rfl) sh_436 hr14 rfl (EV_le (Nat.le_of_ble_eq_true rfl) (F_Model_kindHere hr14  er15)) (fun v' M' hq => ?_)
      obtain ⟨rfl, rfl, hr15⟩ := hq
      refine K_istore rfl ?_
      refine K_iload rfl 0 rfl ?_
      refine K_if_ge rfl (fun c16 => ?_) (fun c16 => ?_)
      · rw [if_pos c16] at h
        refine K_aload_n rfl 2 rfl ?_
        refine K_gR rfl sh_436 hr15 rfl rfl 7 rfl r_436_7 ?_
        refine K_iload_n rfl 3 rfl ?_
        refine K_iconst (v := 2) rfl (by decide) ?_
        refine K_iadd rfl ?_
        refine K_iload rfl 0 rfl ?_
        obtain ⟨M17, eM17, h⟩ := Option.bind_eq_some_iff.mp h
        refine K_wr rfl sh_442 hr15 eM17 (fun hM17 => ?_)
        refine K_aload_n rfl 2 rfl ?_
        refine K_gR rfl sh_436 hM17 rfl rfl 7 rfl r_436_7 ?_
        refine K_iload_n rfl 3 rfl ?_
        refine K_iconst (v := 3) rfl (by decide) ?_
        refine K_iadd rfl ?_
        refine K_iconst (v := 0) rfl (by decide) ?_
        obtain ⟨M18, eM18, h⟩ := Option.bind_eq_some_iff.mp h
        refine K_wr rfl sh_442 hM17 eM18 (fun hM18 => ?_)
        refine K_aload_n rfl 2 rfl ?_
        refine K_gR rfl sh_436 hM18 rfl rfl 7 rfl r_436_7 ?_
        refine K_iload_n rfl 3 rfl ?_
        refine K_iconst (v := 4) rfl (by decide) ?_
        refine K_iadd rfl ?_
        refine K_iconst (v := (-1)) rfl (by decide) ?_
        obtain ⟨M19, eM19, h⟩ := Option.bind_eq_some_iff.mp h
        refine K_wr rfl sh_442 hM18 eM19 (fun hM19 => ?_)
        refine K_aload_n rfl 2 rfl ?_
        refine K_gR rfl sh_436 hM19 rfl rfl 7 rfl r_436_7 ?_
        refine K_iload_n rfl 3 rfl ?_
        refine K_iconst (v := 5) rfl (by decide) ?_
        refine K_iadd rfl ?_
        refine K_iconst (v := 0) rfl (by decide) ?_
        obtain ⟨M20, eM20, h⟩ := Option.bind_eq_some_iff.mp h
        refine K_wr rfl sh_442 hM19 eM20 (fun hM20 => ?_)
        refine K_aload_n rfl 2 rfl ?_
        refine K_gR rfl sh_436 hM20 rfl rfl 7 rfl r_436_7 ?_
        refine K_iload_n rfl 3 rfl ?_
        refine K_bipush (v := 6) rfl (by decide) ?_
        refine K_iadd rfl ?_
        refine K_iconst (v := (-1)) rfl (by decide) ?_
        obtain ⟨M21, eM21, h⟩ := Option.bind_eq_some_iff.mp h
        refine K_wr rfl sh_442 hM20 eM21 (fun hM21 => ?_)
        refine K_aload_n rfl 2 rfl ?_
        refine K_gR rfl sh_436 hM21 rfl rfl 7 rfl r_436_7 ?_
        refine K_iload_n rfl 3 rfl ?_
        refine K_bipush (v := 7) rfl (by decide) ?_
        refine K_iadd rfl ?_
        refine K_iconst (v := 0) rfl (by decide) ?_
        obtain ⟨M22, eM22, h⟩ := Option.bind_eq_some_iff.mp h
        refine K_wr rfl sh_442 hM21 eM22 (fun hM22 => ?_)
        refine K_aload_n rfl 2 rfl ?_
        refine K_gR rfl sh_436 hM22 rfl rfl 7 rfl r_436_7 ?_
        refine K_iload_n rfl 3 rfl ?_
        refine K_bipush (v := 8) rfl (by decide) ?_
        refine K_iadd rfl ?_
        refine K_iconst (v := 0) rfl (by decide) ?_
        obtain ⟨M23, eM23, h⟩ := Option.bind_eq_some_iff.mp h
        refine K_wr rfl sh_442 hM22 eM23 (fun hM23 => ?_)
        refine K_aload_n rfl 2 rfl ?_
        refine K_gR rfl sh_436 hM23 rfl rfl 7 rfl r_436_7 ?_
        refine K_bipush (v := 109) rfl (by decide) ?_
        refine K_iconst (v := 2) rfl (by decide) ?_
        refine K_aload_n rfl 2 rfl ?_
        refine K_gR rfl sh_436 hM23 rfl rfl 7 rfl r_436_7 ?_
        refine K_iconst (v := 2) rfl (by decide) ?_
        obtain ⟨v24, ev24, h⟩ := Option.bind_eq_some_iff.mp h
        refine K_rd rfl sh_442 hM23 ev24 ?_
        refine K_imul rfl ?_
        refine K_iadd rfl ?_
        refine K_aload_n rfl 2 rfl ?_
        refine K_gR rfl sh_436 hM23 rfl rfl 7 rfl r_436_7 ?_
        refine K_iload_n rfl 3 rfl ?_
        obtain ⟨v25, ev25, h⟩ := Option.bind_eq_some_iff.mp h
        refine K_rd rfl sh_442 hM23 ev25 ?_
        obtain ⟨M26, eM26, h⟩ := Option.bind_eq_some_iff.mp h
        refine K_wr rfl sh_442 hM23 eM26 (fun hM26 => ?_)
        refine K_aload_n rfl 2 rfl ?_
        refine K_gR rfl sh_436 hM26 rfl rfl 7 rfl r_436_7 ?_
        refine K_bipush (v := 109) rfl (by decide) ?_
        refine K_iconst (v := 2) rfl (by decide) ?_
        refine K_aload_n rfl 2 rfl ?_
        refine K_gR rfl sh_436 hM26 rfl rfl 7 rfl r_436_7 ?_
        refine K_iconst (v := 2) rfl (by decide) ?_
        obtain ⟨v27, ev27, h⟩ := Option.bind_eq_some_iff.mp h
        refine K_rd rfl sh_442 hM26 ev27 ?_
        refine K_imul rfl ?_
        refine K_iadd rfl ?_
        refine K_iconst (v := 1) rfl (by decide) ?_
        refine K_iadd rfl ?_
        refine K_aload_n rfl 2 rfl ?_
        refine K_gR rfl sh_436 hM26 rfl rfl 7 rfl r_436_7 ?_
        refine K_iload_n rfl 3 rfl ?_
        refine K_iconst (v := 1) rfl (by decide) ?_
        refine K_iadd rfl ?_
        obtain ⟨v28, ev28, h⟩ := Option.bind_eq_some_iff.mp h
        refine K_rd rfl sh_442 hM26 ev28 ?_
        obtain ⟨M29, eM29, h⟩ := Option.bind_eq_some_iff.mp h
        refine K_wr rfl sh_442 hM26 eM29 (fun hM29 => ?_)
        refine K_aload_n rfl 2 rfl ?_
        refine K_gR rfl sh_436 hM29 rfl rfl 7 rfl r_436_7 ?_
        refine K_iconst (v := 2) rfl (by decide) ?_
        refine K_dup2 rfl ⟨rfl, rfl⟩ ?_
        obtain ⟨v30, ev30, h⟩ := Option.bind_eq_some_iff.mp h
        refine K_rd rfl sh_442 hM29 ev30 ?_
        refine K_iconst (v := 1) rfl (by decide) ?_
        refine K_iadd rfl ?_
        obtain ⟨M31, eM31, h⟩ := Option.bind_eq_some_iff.mp h
        refine K_wr rfl sh_442 hM29 eM31 (fun hM31 => ?_)
        refine K_iconst (v := 1) rfl (by decide) ?_
        obtain rfl := Option.some.inj h
        exact K_iret rfl (Or.inr ⟨rfl, by decide⟩) ⟨rfl, rfl, hM31⟩
      · rw [if_neg c16] at h
        refine K_aload_n rfl 2 rfl ?_
        refine K_iconst (v := 0) rfl (by decide) ?_
        refine K_iload rfl 1 rfl ?_
        obtain ⟨r32, er32, h⟩ := Option.bind_eq_some_iff.mp h
        refine K_cV [.int 0, .int (r14.2.2.1 436 8)] [] rfl rfl (Nat.le_of_ble_eq_true rfl) (Nat.le_of_ble_eq_true rfl) sh_436 hr15 rfl (EV_le (Nat.le_of_ble_eq_true rfl) (F_Model_fails hr15  er32)) (fun v' M' hq => ?_)
        obtain ⟨rfl, rfl, hr32⟩ := hq
        split at h
        · rename_i c33
          obtain rfl := Option.some.inj h
          exact K_iret rfl (Or.inr ⟨rfl, c33⟩) ⟨rfl, rfl, hr32⟩
        · cases h
    · rw [if_neg c13] at h
      refine K_aload_n rfl 0 rfl ?_
      refine K_gR rfl sh_436 hM rfl rfl 7 rfl r_436_7 ?_
      refine K_bipush (v := 10) rfl (by decide) ?_
      refine K_bipush (v := 9) rfl (by decide) ?_
      refine K_iload rfl 3 rfl ?_
      refine K_imul rfl ?_
      refine K_iadd rfl ?_
      obtain ⟨v34, ev34, h⟩ := Option.bind_eq_some_iff.mp h
      refine K_rd rfl sh_442 hM ev34 ?_
      refine K_aload_n rfl 0 rfl ?_
      refine K_gR rfl sh_436 hM rfl rfl 7 rfl r_436_7 ?_
      refine K_iload_n rfl 1 rfl ?_
      obtain ⟨v35, ev35, h⟩ := Option.bind_eq_some_iff.mp h
      refine K_rd rfl sh_442 hM ev35 ?_
      refine K_ic_ne rfl (fun c36 => ?_) (fun c36 => ?_)
      · rw [if_neg c36] at h
        refine K_pick [0, 1, 2, 3] ?_
        exact L_Model_isGraveHere_154   (L_Model_isGraveHere_88    n) _ _ _ _ hM  h
      · rw [if_pos c36] at h
        refine K_aload_n rfl 0 rfl ?_
        refine K_gR rfl sh_436 hM rfl rfl 7 rfl r_436_7 ?_
        refine K_bipush (v := 10) rfl (by decide) ?_
        refine K_bipush (v := 9) rfl (by decide) ?_
        refine K_iload rfl 3 rfl ?_
        refine K_imul rfl ?_
        refine K_iadd rfl ?_
        refine K_iconst (v := 1) rfl (by decide) ?_
        refine K_iadd rfl ?_
        obtain ⟨v37, ev37, h⟩ := Option.bind_eq_some_iff.mp h
        refine K_rd rfl sh_442 hM ev37 ?_
        refine K_aload_n rfl 0 rfl ?_
        refine K_gR rfl sh_436 hM rfl rfl 7 rfl r_436_7 ?_
        refine K_iload_n rfl 1 rfl ?_
        refine K_iconst (v := 1) rfl (by decide) ?_
        refine K_iadd rfl ?_
        obtain ⟨v38, ev38, h⟩ := Option.bind_eq_some_iff.mp h
        refine K_rd rfl sh_442 hM ev38 ?_
        refine K_ic_ne rfl (fun c39 => ?_) (fun c39 => ?_)
        · rw [if_neg c39] at h
          refine K_pick [0, 1, 2, 3] ?_
          exact L_Model_isGraveHere_154   (L_Model_isGraveHere_88    n) _ _ _ _ hM  h
        · rw [if_pos c39] at h
          refine K_aload_n rfl 0 rfl ?_
          refine K_iconst (v := 1) rfl (by decide) ?_
          refine K_iload_n rfl 2 rfl ?_
          obtain ⟨r40, er40, h⟩ := Option.bind_eq_some_iff.mp h
          refine K_cV [.int 1, .int l3] [] rfl rfl (Nat.le_of_ble_eq_true rfl) (Nat.le_of_ble_eq_true rfl) sh_436 hM rfl (EV_le (Nat.le_of_ble_eq_true rfl) (F_Model_fails hM  er40)) (fun v' M' hq => ?_)
          obtain ⟨rfl, rfl, hr40⟩ := hq
          split at h
          · rename_i c41
            obtain rfl := Option.some.inj h
            exact K_iret rfl (Or.inr ⟨rfl, c41⟩) ⟨rfl, rfl, hr40⟩
          · cases h
set_option maxRecDepth 20000 in
theorem F_Model_isGraveHere {X : mX} {x1 : Int32} {M : mM} {r : Int32 × mM} (hM : Fx M)  (h : f_Model_isGraveHere x1 M = some r) : EV X (4 + 1) 156 [.ref 436, .int x1] M (fun v M' => v = some (.int r.1) ∧ r.2 = M' ∧ Fx r.2) := by
    refine EV_of (lc := [(0, .ref 436), (1, .int x1)]) (Nat.le_of_ble_eq_true rfl) (by exact Nat.le_of_ble_eq_true rfl) (by exact List.forall_mem_cons.mpr ⟨rfl, List.forall_mem_cons.mpr ⟨rfl, fun _ h => absurd h List.not_mem_nil⟩⟩) ?_
    unfold f_Model_isGraveHere at h
    refine K_aload_n rfl 0 rfl ?_
    refine K_gR rfl sh_436 hM rfl rfl 7 rfl r_436_7 ?_
    refine K_iconst (v := 2) rfl (by decide) ?_
    obtain ⟨v1, ev1, h⟩ := Option.bind_eq_some_iff.mp h
    refine K_rd rfl sh_442 hM ev1 ?_
    refine K_bipush (v := 10) rfl (by decide) ?_
    refine K_ic_ne rfl (fun c2 => ?_) (fun c2 => ?_)
    · rw [if_neg c2] at h
      refine K_aload_n rfl 0 rfl ?_
      obtain ⟨M3, eM3, h⟩ := Option.bind_eq_some_iff.mp h
      refine K_cV [] [] rfl rfl (Nat.le_of_ble_eq_true rfl) (Nat.le_of_ble_eq_true rfl) sh_436 hM rfl (EV_le (Nat.le_of_ble_eq_true rfl) (F_Model_passWord hM  eM3)) (fun v' M' hq => ?_)
      obtain ⟨rfl, rfl, hM3⟩ := hq
      refine K_bipush (v := 10) rfl (by decide) ?_
      refine K_bipush (v := 9) rfl (by decide) ?_
      refine K_aload_n rfl 0 rfl ?_
      refine K_gR rfl sh_436 hM3 rfl rfl 7 rfl r_436_7 ?_
      refine K_iconst (v := 2) rfl (by decide) ?_
      obtain ⟨v4, ev4, h⟩ := Option.bind_eq_some_iff.mp h
      refine K_rd rfl sh_442 hM3 ev4 ?_
      refine K_imul rfl ?_
      refine K_iadd rfl ?_
      refine K_istore_n rfl ?_
      refine K_aload_n rfl 1 rfl ?_
      refine K_iload_n rfl 0 rfl ?_
      refine K_iconst (v := 0) rfl (by decide) ?_
      refine K_aload_n rfl 1 rfl ?_
      refine K_gR rfl sh_436 hM3 rfl rfl 7 rfl r_436_7 ?_
      refine K_iconst (v := 0) rfl (by decide) ?_
      obtain ⟨v5, ev5, h⟩ := Option.bind_eq_some_iff.mp h
      refine K_rd rfl sh_442 hM3 ev5 ?_
      refine K_iconst (v := 1) rfl (by decide) ?_
      refine K_isub rfl ?_
      obtain ⟨r6, er6, h⟩ := Option.bind_eq_some_iff.mp h
      refine K_cV [.int (10 + (9 * v4)), .int 0, .int (v5 - 1)] [] rfl rfl (Nat.le_of_ble_eq_true rfl) (Nat.le_of_ble_eq_true rfl) sh_436 hM3 rfl (EV_le (Nat.le_of_ble_eq_true rfl) (F_Model_cellHere hM3  er6)) (fun v' M' hq => ?_)
      obtain ⟨rfl, rfl, hr6⟩ := hq
      refine K_if_ne rfl (fun c7 => ?_) (fun c7 => ?_)
      · rw [if_neg c7] at h
        refine K_aload_n rfl 1 rfl ?_
        obtain ⟨r8, er8, h⟩ := Option.bind_eq_some_iff.mp h
        refine K_cV [] [] rfl rfl (Nat.le_of_ble_eq_true rfl) (Nat.le_of_ble_eq_true rfl) sh_436 hr6 rfl (EV_le (Nat.le_of_ble_eq_true rfl) (F_Model_see hr6  er8)) (fun v' M' hq => ?_)
        obtain ⟨rfl, rfl, hr8⟩ := hq
        refine K_pop rfl rfl ?_
        refine K_aload_n rfl 1 rfl ?_
        refine K_gI rfl sh_436 hr8 rfl rfl 8 rfl ?_
        refine K_istore_n rfl ?_
        refine K_aload_n rfl 2 rfl ?_
        refine K_iload_n rfl 1 rfl ?_
        refine K_iconst (v := 1) rfl (by decide) ?_
        refine K_iadd rfl ?_
        refine K_iconst (v := 0) rfl (by decide) ?_
        refine K_aload_n rfl 2 rfl ?_
        refine K_gR rfl sh_436 hr8 rfl rfl 7 rfl r_436_7 ?_
        refine K_iconst (v := 1) rfl (by decide) ?_
        obtain ⟨v9, ev9, h⟩ := Option.bind_eq_some_iff.mp h
        refine K_rd rfl sh_442 hr8 ev9 ?_
        refine K_iconst (v := 1) rfl (by decide) ?_
        refine K_isub rfl ?_
        obtain ⟨r10, er10, h⟩ := Option.bind_eq_some_iff.mp h
        refine K_cV [.int ((10 + (9 * v4)) + 1), .int 0, .int (v9 - 1)] [] rfl rfl (Nat.le_of_ble_eq_true rfl) (Nat.le_of_ble_eq_true rfl) sh_436 hr8 rfl (EV_le (Nat.le_of_ble_eq_true rfl) (F_Model_cellHere hr8  er10)) (fun v' M' hq => ?_)
        obtain ⟨rfl, rfl, hr10⟩ := hq
        refine K_if_ne rfl (fun c11 => ?_) (fun c11 => ?_)
        · rw [if_neg c11] at h
          refine K_iconst (v := 0) rfl (by decide) ?_
          refine K_istore rfl ?_
          refine K_pick [3, 2, 1, 0] ?_
          exact L_Model_isGraveHere_88    FUEL _ _ _ _ hr10  h
        · rw [if_pos c11] at h
          refine K_iconst (v := 0) rfl (by decide) ?_
          obtain rfl := Option.some.inj h
          exact K_iret rfl (Or.inr ⟨rfl, by decide⟩) ⟨rfl, rfl, hr10⟩
      · rw [if_pos c7] at h
        refine K_iconst (v := 0) rfl (by decide) ?_
        obtain rfl := Option.some.inj h
        exact K_iret rfl (Or.inr ⟨rfl, by decide⟩) ⟨rfl, rfl, hr6⟩
    · rw [if_pos c2] at h
      refine K_aload_n rfl 0 rfl ?_
      refine K_iconst (v := 4) rfl (by decide) ?_
      refine K_iload_n rfl 1 rfl ?_
      obtain ⟨r42, er42, h⟩ := Option.bind_eq_some_iff.mp h
      refine K_cV [.int 4, .int x1] [] rfl rfl (Nat.le_of_ble_eq_true rfl) (Nat.le_of_ble_eq_true rfl) sh_436 hM rfl (EV_le (Nat.le_of_ble_eq_true rfl) (F_Model_fails hM  er42)) (fun v' M' hq => ?_)
      obtain ⟨rfl, rfl, hr42⟩ := hq
      split at h
      · rename_i c43
        obtain rfl := Option.some.inj h
        exact K_iret rfl (Or.inr ⟨rfl, c43⟩) ⟨rfl, rfl, hr42⟩
      · cases h
