/-! ===== cells made; answers; calls ===== -/
theorem mSz_new (M : mM) (t n : Nat) : mSz (mnew M t n) = mSz M + n := by simp [mSz, mnew]
theorem mnew_off {M : mM} {t n q : Nat} (hq : q ≠ M.1.length) : (mnew M t n).2.1 q = M.2.1 q ∧ (mnew M t n).2.2.1 q = M.2.2.1 q ∧ (mnew M t n).2.2.2 q = M.2.2.2 q := ⟨if_neg hq, if_neg hq, if_neg hq⟩
theorem mWs_new (G : mG) (M : mM) (t n : Nat) : mWs G (mnew M t n) = mWs G M ++ [(gA G M.1.length, mEnt G (mnew M t n) M.1.length (t, n))] := by
  have h1 : (mnew M t n).1 = M.1 ++ [(t, n)] := rfl
  rw [mWs, h1, List.mapIdx_concat]
  congr 1
  apply List.ext_getElem?
  intro j
  simp only [mWs, List.getElem?_mapIdx]
  by_cases hj : j < M.1.length
  · rw [List.getElem?_eq_getElem hj]
    simp only [Option.map_some]
    rw [mEnt_same _ (mnew_off (by omega))]
  · rw [List.getElem?_eq_none (by omega)]
    rfl
theorem va_RA_uniq {U : State} {c1 c2 : ClassId} {ty : FieldType} (h1 : va_RA U c1 ty) (h2 : va_RA U c2 ty) : c1 = c2 := by
  cases ty with
  | object C =>
    obtain ⟨_, _, _, _, _, a⟩ := h1
    obtain ⟨_, _, _, _, _, b⟩ := h2
    exact Option.some.inj (a.symm.trans b)
  | _ =>
    have a : U.vm.findClass _ = some c1 := h1
    have b : U.vm.findClass _ = some c2 := h2
    exact Option.some.inj (a.symm.trans b)
def mtok : FieldType → Bool
  | .int | .boolean | .long | .object _ | .array _ => true
  | _ => false
theorem mm_ty_ok : ∀ c, c < 13 → ∀ k, k < mm_N c → mtok (mm_ty c k) = true := by decide +kernel
theorem mVp_new {M : mM} {t n k : Nat} {ty : FieldType} (ad : Nat → Nat) (h : mtok ty = true) : tv ad (mVp (mnew M t n) M.1.length ty k) = defaultValue ty := by
  have e1 : (mnew M t n).2.1 M.1.length = fun _ => 0 := if_pos rfl
  have e2 : (mnew M t n).2.2.1 M.1.length = fun _ => 0 := if_pos rfl
  have e3 : (mnew M t n).2.2.2 M.1.length = fun _ => none := if_pos rfl
  cases ty <;> simp only [mtok] at h <;> first | (cases h; done) | skip
  all_goals simp only [mVp, mkf, e1, e2, e3]
  all_goals rfl
theorem mm_ar_of {a : Nat} {t : ArrayType} (h : mm_aty a = some (Op.newarray.typeOf t)) (ha : a < 24) : Cond.arrayClass (Op.newarray.typeOf t) ∈ mm_gw ∧ (20 ≤ a) := by
  unfold mm_aty at h
  split at h
  · cases t <;> first | (cases h; done) | exact ⟨mm_ar_int, by omega⟩
  · cases t <;> first | (cases h; done) | exact ⟨mm_ar_byte, by omega⟩
  · cases t <;> first | (cases h; done) | exact ⟨mm_ar_boolean, by omega⟩
  · cases t <;> first | (cases h; done) | exact ⟨mm_ar_long, by omega⟩
  · omega
  · omega
  · omega
  · cases h
section MAL
variable {p : Program} {l : Launch} {e : Env} {R : Room} {s : State} {m : MethodId} {args : Array Value} {below : List Frame} {meth : Method} {c : Code} {H : Heap} {locs : List Loc} {cells slots : Nat} {Q : State → Prop}
variable {cc : ByteArray} {pc : Nat} {lsA : Array Slot}
theorem W_size {g : JFrame} (h : H.size ≤ s.heap.size + cells → W p l e R s m args below meth c H locs cells slots Q g) : W p l e R s m args below meth c H locs cells slots Q g :=
  fun T hT X => h (by rw [← hT]; exact X.heapSize) T hT X
/-- the new cell lies where it should -/
theorem m_where {G : mG} {M : mM} {q : Nat} {x : va_E} {H1 : Heap} (hA : ∀ p, p < 100000 → gA G p = G.1 + p) (hlen : M.1.length < 100000) (hD : va_D (gP G) (mWs G M ++ [(q, x)])) (hP : va_P (gD G) mm_cls (mWs G M ++ [(q, x)]) H1) (hz : H1.size ≤ G.1 + M.1.length + 1) : q = gA G M.1.length := by
  have hl : (mWs G M ++ [(q, x)])[M.1.length]? = some (q, x) := by
    rw [List.getElem?_append_right (by rw [mWs_len]; exact Nat.le_refl _), mWs_len, Nat.sub_self]
    rfl
  have h1 : G.1 ≤ q := hD.2 _ _ hl
  have h2 : q < H1.size := (hP _ _ hl).lt
  rw [hA _ hlen]
  rcases Nat.lt_or_ge q (G.1 + M.1.length) with h | h
  · have hj : q - G.1 < M.1.length := by omega
    have hg : (mWs G M ++ [(q, x)])[q - G.1]? = some (gA G (q - G.1), mEnt G M (q - G.1) M.1[q - G.1]) := by
      rw [List.getElem?_append_left (by rw [mWs_len]; exact hj)]
      exact mWs_get (List.getElem?_eq_getElem hj)
    have := hD.1 _ _ _ _ hg hl (by show gA G (q - G.1) = q; rw [hA _ (by omega)]; omega)
    omega
  · omega
set_option maxHeartbeats 4000000 in
theorem snd_al {G : mG} {k nx a : Nat} {i : Instr} {ls : List (Nat × Value)} {st : List Value} {M : mM} {f' : mF}
    (hat : mAt G k p R s m args meth c cc cells slots) (hh : mHas G k s H locs lsA (pc, ls, st, M)) (hdg : decode cc pc = .ok (i, mln i (nx - pc))) (hnx : nx = pc + mln i (nx - pc)) (hlk : mLk k pc i a = true)
    (hm : mAl i nx a (pc, ls, st, M) = some f') (hcnt : s.heap.size + cells = G.1 + M.1.length) (hc1 : cells + 1 ≤ R.cells) (hs1 : slots + (mSz f'.2.2.2 - mSz M) ≤ R.slots)
    (kk : ∀ (H' : Heap) (locs' : List Loc) (lsB : Array Slot), f'.2.2.2.1.length = M.1.length + 1 → mSz M ≤ mSz f'.2.2.2 → mHas G k s H' locs' lsB f' → W p l e R s m args below meth c H' locs' (cells + 1) (slots + (mSz f'.2.2.2 - mSz M)) Q (F0 m f'.1 lsB (f'.2.2.1.map (tv (gA G))))) :
    W p l e R s m args below meth c H locs cells slots Q (F0 m pc lsA (st.map (tv (gA G)))) := by
  obtain ⟨hx, hb, hml, hown, hgw, E, hin, hR1, hR2, hR3, hR4⟩ := hat
  obtain ⟨hWd, hS, hl⟩ := hh
  have hP := hWd.1
  have hD := mWld_D E hWd
  obtain ⟨b1, b2, b3, b4, b5, b6⟩ := E.2.2.2.2.2
  have hA : ∀ q, s.heap.size ≤ q → gP G q := fun q hq => Nat.le_trans b1 hq
  cases i with
  | new x =>
    obtain rfl : nx = pc + 3 := hnx
    simp only [mAl] at hm
    simp only [mLk, Bool.and_eq_true, decide_eq_true_eq] at hlk
    obtain ⟨hl1, hl2⟩ := hlk
    split at hm
    · rename_i hlt
      cases hm
      obtain ⟨qc, hqc, hqN⟩ := mm_clsN hl2
      obtain ⟨o1, o2, o3, o4, o5, o6⟩ := mm_cls_ok _ _ hqc
      have hlink := hgw _ (mm_cl_ok _ _ (mmem_of hl1))
      rw [← o6] at hlink
      dsimp only at hs1 kk
      rw [mSz_new, Nat.add_sub_cancel_left] at hs1 kk
      refine va_new (D := gD G) (T := qc.2.1) (N := qc.2.2) (C := qc.1) (fs := (List.range (mm_N a)).map (fun k => tv (gA G) (mVp (mnew M a (mm_N a)) M.1.length (mm_ty a k) k))) hx hb hgw o1 (mm_ty a) o2 hown hlink (hgw _ o4) (hgw _ o5) E.1 hP hD hS hA hqc (fun j hj => ?_) hc1 (by rw [hqN]; exact hs1) hdg (fun q H1 g1 g2 g3 => W_size (fun hz => ?_))
      · rw [hqN] at hj
        show _ = List.getD _ _ _
        rw [List.getD_eq_getElem?_getD, List.getElem?_map, List.getElem?_range hj]
        exact (mVp_new (gA G) (mm_ty_ok a hl2 j hj)).symm
      · have hq := m_where b4 hlt g2 g1 (by omega)
        rw [hqN]
        have hent : mWs G (mnew M a (mm_N a)) = mWs G M ++ [(q, .inr (a, (List.range (mm_N a)).map (fun k => tv (gA G) (mVp (mnew M a (mm_N a)) M.1.length (mm_ty a k) k))))] := by
          rw [mWs_new, mEnt_o (by show a < 20; omega), hq]
        rw [← hent] at g1
        rw [hq]
        exact kk H1 locs lsA (by simp [mnew]) (by omega) ⟨⟨g1, by simp [mnew]; omega⟩, g3, hl⟩
    · cases hm
  | newarray t =>
    obtain rfl : nx = pc + 2 := hnx
    simp only [mAl] at hm
    simp only [mLk, Bool.and_eq_true, decide_eq_true_eq] at hlk
    obtain ⟨hl1, hl2⟩ := hlk
    obtain ⟨har, ha20⟩ := mm_ar_of hl2 hl1
    split at hm
    · rename_i n r
      split at hm
      · rename_i hlt
        cases hm
        dsimp only at hs1 kk
        rw [mSz_new, Nat.add_sub_cancel_left] at hs1 kk
        have e1 : (mnew M a n.toNatClampNeg).2.1 M.1.length = fun _ => 0 := if_pos rfl
        have e2 : (mnew M a n.toNatClampNeg).2.2.1 M.1.length = fun _ => 0 := if_pos rfl
        have hbytes : n.toNatClampNeg * componentBytes (Op.newarray.typeOf t) ≤ 536870912 := by
          have : componentBytes (Op.newarray.typeOf t) ≤ 8 := by cases t <;> decide
          have := Nat.mul_le_mul hlt.2.2 this
          omega
        by_cases h23 : a = 23
        · subst h23
          have ht : Op.newarray.typeOf t = .long := Option.some.inj hl2.symm
          refine va_newa (D := gD G) (ty := .long) (a0 := (n.toNatClampNeg, .inr (.inl (fun _ => 0)))) hx hb (hgw _ har) ht E.1 hP hD hS hA (fun cA => rfl) hlt.2.1 rfl (by rw [← ht]; exact hbytes) hc1 hs1 hdg (fun q cA H1 g0 g1 g2 g3 => W_size (fun hz => ?_))
          have hq := m_where b4 hlt.1 g2 g1 (by omega)
          have hcA : cA = gT G 23 := va_RA_uniq (g0.2 0 (cA, .long) rfl).2 (E.2.1 23 _ rfl).2
          have hent : mWs G (mnew M 23 n.toNatClampNeg) = mWs G M ++ [(q, .inl (cA, n.toNatClampNeg, .inr (.inl (fun _ => 0))))] := by
            rw [mWs_new, mEnt_l rfl, hq, hcA, e2]
          rw [← hent] at g1
          rw [hq]
          exact kk H1 locs lsA (by simp [mnew]) (by omega) ⟨⟨g1, by simp [mnew]; omega⟩, g3, hl⟩
        · have ht : ∀ cA : ClassId, vp_cell cA (n.toNatClampNeg, .inl (fun _ => 0)) = arrV cA n.toNatClampNeg (fun _ => defaultValue (Op.newarray.typeOf t)) := by
            intro cA
            have h4 : a = 20 ∨ a = 21 ∨ a = 22 := by omega
            rcases h4 with rfl | rfl | rfl
            · rw [show Op.newarray.typeOf t = .int from Option.some.inj hl2.symm]; rfl
            · rw [show Op.newarray.typeOf t = .byte from Option.some.inj hl2.symm]; rfl
            · rw [show Op.newarray.typeOf t = .boolean from Option.some.inj hl2.symm]; rfl
          refine va_newa (D := gD G) (a0 := (n.toNatClampNeg, .inl (fun _ => 0))) hx hb (hgw _ har) rfl E.1 hP hD hS hA ht hlt.2.1 rfl hbytes hc1 hs1 hdg (fun q cA H1 g0 g1 g2 g3 => W_size (fun hz => ?_))
          have hq := m_where b4 hlt.1 g2 g1 (by omega)
          have hcA : cA = gT G a := va_RA_uniq (g0.2 0 (cA, _) rfl).2 (E.2.1 a _ hl2).2
          have hent : mWs G (mnew M a n.toNatClampNeg) = mWs G M ++ [(q, .inl (cA, n.toNatClampNeg, .inl (fun _ => 0)))] := by
            rw [mWs_new, mEnt_i ha20 (by show a < 23; omega), hq, hcA, e1]
          rw [← hent] at g1
          rw [hq]
          exact kk H1 locs lsA (by simp [mnew]) (by omega) ⟨⟨g1, by simp [mnew]; omega⟩, g3, hl⟩
      · cases hm
    · cases hm
  | anewarray x =>
    obtain rfl : nx = pc + 3 := hnx
    simp only [mAl] at hm
    simp only [mLk, Bool.and_eq_true, decide_eq_true_eq] at hlk
    obtain ⟨hl1, hl2, hl3⟩ := hlk
    have hlink := hgw _ (mm_cl_ok _ _ (mmem_of hl1))
    split at hm
    · rename_i n r
      split at hm
      · rename_i hlt
        cases hm
        dsimp only at hs1 kk
        rw [mSz_new, Nat.add_sub_cancel_left] at hs1 kk
        have e3 : (mnew M a n.toNatClampNeg).2.2.2 M.1.length = fun _ => none := if_pos rfl
        refine va_newq (D := gD G) hx hb hown hlink (E.2.2.2.1 a hl2 hl3) E.1 hP hD hS hA hlt.2.1 rfl (by omega) hc1 hs1 hdg (fun q cA H1 g0 g1 g2 g3 => W_size (fun hz => ?_))
        have hq := m_where b4 hlt.1 g2 g1 (by omega)
        have hcA : cA = gT G a := va_RA_uniq (g0.2 0 (cA, _) rfl).2 (E.2.1 a _ (mm_aty_q hl2 hl3).1).2
        have hent : mWs G (mnew M a n.toNatClampNeg) = mWs G M ++ [(q, .inl (cA, n.toNatClampNeg, .inr (.inr (.inr (.inr (fun _ => none))))))] := by
          rw [mWs_new, mEnt_q hl2, hq, hcA, e3]
          rfl
        rw [← hent] at g1
        rw [hq]
        exact kk H1 locs lsA (by simp [mnew]) (by omega) ⟨⟨g1, by simp [mnew]; omega⟩, g3, hl⟩
      · cases hm
    · cases hm
  | _ => cases hm
/-- what a method leaves -/
def mQc (G : mG) (v : Option Value) (M : mM) : Array Value → State → Outcome → State → Prop := fun _ st oc t => oc = .returned (v.map (tv (gA G))) ∧ mWld G M t.heap ∧ va_F (gP G) st t
/-- what a method starts from -/
def mPc (G : mG) (as : List Value) (M : mM) : Array Value → State → Prop := va_Pc (as.map (tv (gA G))) (fun U => U.heap.size = G.1 + M.1.length ∧ mWld G M U.heap ∧ mEnv G U)
theorem mPc_blind (G : mG) (as : List Value) (M : mM) : FrameBlind (mPc G as M) := fun a U g mk q => ⟨q.1, q.2.1, q.2.2.1, mEnv_calling q.2.2.2⟩
def mws (j : Nat) : List Cond := .code (mm_y j) (mm_by j) (mm_ml j) (mm_rt j) :: mm_gw
def mrm (d mc ms : Nat) : Room := { frames := d, cells := mc, slots := ms, locals := 60 * d }
theorem snd_re {G : mG} {k nx : Nat} {i : Instr} {ls : List (Nat × Value)} {st : List Value} {M : mM} {v : Option Value} {M' : mM}
    (hat : mAt G k p R s m args meth c cc cells slots) (hh : mHas G k s H locs lsA (pc, ls, st, M)) (hr : meth.sig.returnType = mm_rt k) (hlocks : meth.locks = false) (hdg : decode cc pc = .ok (i, mln i (nx - pc)))
    (hm : mRe k i (pc, ls, st, M) = some (v, M')) :
    M' = M ∧ W p l e R s m args below meth c H locs cells slots (MQ below (mQc G v M') args s cells slots (gP G)) (F0 m pc lsA (st.map (tv (gA G)))) := by
  obtain ⟨hx, hb, hml, hown, hgw, E, hin, hR1, hR2, hR3, hR4⟩ := hat
  obtain ⟨hWd, hS, hl⟩ := hh
  cases i with
  | ireturn =>
    simp only [mRe] at hm
    split at hm
    · split at hm
      · rename_i hc
        cases hm
        refine ⟨rfl, ?_⟩
        rcases hc with hc | ⟨hc, hv⟩
        · exact W.iret hx hb (by rw [hr, mm_rt, hc]; rfl) (fun t ht _ => ⟨rfl, by rw [ht]; exact hWd, hS.F ht⟩) hS.2.2 hdg hlocks
        · exact W.zret (ty := .boolean) hx hb (by rw [hr, mm_rt, hc]; rfl) (by rcases hv with rfl | rfl <;> decide) (fun t ht _ => ⟨rfl, by rw [ht]; exact hWd, hS.F ht⟩) hS.2.2 hdg hlocks
      · cases hm
    · cases hm
  | lreturn =>
    simp only [mRe] at hm
    split at hm
    · split at hm
      · rename_i hc
        cases hm
        exact ⟨rfl, W.lret hx hb (by rw [hr, mm_rt, hc]; rfl) (fun t ht _ => ⟨rfl, by rw [ht]; exact hWd, hS.F ht⟩) hS.2.2 hdg hlocks⟩
      · cases hm
    · cases hm
  | areturn =>
    simp only [mRe] at hm
    split at hm
    · split at hm
      · rename_i hc
        cases hm
        exact ⟨rfl, W.aret (rt := .object (mm_rn (mm_rk k))) hx hb (by rw [hr, mm_rt, mm_rto_o hc]) (Or.inl ⟨_, rfl⟩) (Or.inr ⟨_, rfl⟩) (fun t ht _ => ⟨rfl, by rw [ht]; exact hWd, hS.F ht⟩) hS.2.2 hdg hlocks⟩
      · cases hm
    · split at hm
      · rename_i hc
        cases hm
        exact ⟨rfl, W.aret (rt := .object (mm_rn (mm_rk k))) hx hb (by rw [hr, mm_rt, mm_rto_o hc]) (Or.inl ⟨_, rfl⟩) (Or.inl rfl) (fun t ht _ => ⟨rfl, by rw [ht]; exact hWd, hS.F ht⟩) hS.2.2 hdg hlocks⟩
      · cases hm
    · cases hm
  | return_ =>
    simp only [mRe] at hm
    split at hm
    · split at hm
      · rename_i hc
        cases hm
        exact ⟨rfl, W.vret hx hb (by rw [hr, mm_rt, hc]; rfl) (fun t ht _ => ⟨rfl, by rw [ht]; exact hWd, hS.F ht⟩) hS.2.2 hdg hlocks⟩
      · cases hm
    · cases hm
  | _ => cases hm
/-- behind a call -/
theorem m_call {G : mG} {v : Option Value} {M' : mM} {aa : Array Value} {mc ms pc3 : Nat} {ls3 : Array Slot} {st0 rest : List Value} (hr : va_Run p l e R s m args below meth c H locs cells slots mc ms (F0 m pc3 ls3 st0) rest (mQc G v M' aa) (gP G)) (hS : va_S (gP G) s.heap H locs)
    (kk : ∀ (H1 : Heap) (locs1 : List Loc), mWld G M' H1 → va_S (gP G) s.heap H1 locs1 → W p l e R s m args below meth c H1 locs1 (cells + mc) (slots + ms) Q (F0 m (pc3 + 3) ls3 ((v.map (tv (gA G))).toList ++ rest))) : W p l e R s m args below meth c H locs cells slots Q (F0 m pc3 ls3 st0) := by
  intro T hT X
  obtain ⟨w, st₀, t, T', L, h0, X', hL, e1, e2, ⟨hv, hb, hz, hk⟩, st⟩ := hr T hT X
  cases hv
  rw [h0] at hz hk
  rw [← e1] at hb hz hk
  obtain ⟨t2, a1, b1⟩ := kk T'.heap (locs ++ L) hb ⟨Nat.le_trans hS.1 hz, fun q h1 h2 => by rw [hk q (Nat.lt_of_lt_of_le h1 hS.1) h2]; exact hS.2.1 q h1 h2, fun q hq => by
      rcases List.mem_append.mp hq with h | h
      · exact hS.2.2 q h
      · exact hL q h⟩ T' rfl X'
  exact ⟨t2, st t2 a1, b1⟩
theorem mm_goodin {ws : List Cond} (h : ∀ w ∈ ws, w ∈ mm_gw) : GoodIn mm_gw ws := fun w hw => ⟨h w hw, good_of_word (mm_gw_good (h w hw))⟩
theorem mws_in {j : Nat} (hj : j < 250) : ∀ w ∈ mws j, w ∈ mm_gw := by
  intro w hw
  rcases List.mem_cons.mp hw with rfl | hw
  · exact (mm_m_ok hj).1
  · exact hw
set_option maxHeartbeats 4000000 in
theorem snd_ca {G : mG} {k nx a d j : Nat} {i : Instr} {ls : List (Nat × Value)} {st as : List Value} {M M' : mM} {f1 : mF} {v : Option Value}
    (hat : mAt G k p R s m args meth c cc cells slots) (hh : mHas G k s H locs lsA (pc, ls, st, M)) (hdg : decode cc pc = .ok (i, mln i (nx - pc))) (hnx : nx = pc + mln i (nx - pc)) (hlk : mLk k pc i a = true)
    (hm : mCa i nx a (pc, ls, st, M) = some (j, as, f1)) (hM : Met l (mm_y j) (mws j) (mrm d (M'.1.length - M.1.length) (mSz M' - mSz M)) (mPc G as M) (mQc G v M') (M'.1.length - M.1.length) (mSz M' - mSz M) (gP G))
    (hml41 : mm_ml j ≤ 41) (hcnt : s.heap.size + cells = G.1 + M.1.length) (hd1 : d + 1 ≤ R.frames) (hd2 : 60 * d + 60 ≤ R.locals) (hc1 : cells + (M'.1.length - M.1.length) ≤ R.cells) (hs1 : slots + (mSz M' - mSz M) ≤ R.slots)
    (kk : ∀ (H' : Heap) (locs' : List Loc), mWld G M' H' → va_S (gP G) s.heap H' locs' → W p l e R s m args below meth c H' locs' (cells + (M'.1.length - M.1.length)) (slots + (mSz M' - mSz M)) Q (F0 m f1.1 lsA ((v.toList ++ f1.2.2.1).map (tv (gA G))))) :
    f1.2.1 = ls ∧ f1.2.2.2 = M ∧ W p l e R s m args below meth c H locs cells slots Q (F0 m pc lsA (st.map (tv (gA G)))) := by
  obtain ⟨hx, hb, hml, hown, hgw, E, hin, hR1, hR2, hR3, hR4⟩ := hat
  obtain ⟨hWd, hS, hl⟩ := hh
  have hP := hWd.1
  have hfix : CallFix p m c cc (mm_ml k) s args mm_gw (mm_R (mm_ow k)) := ⟨hx, hb, hml, hown, hgw⟩
  have hroom : (mrm d (M'.1.length - M.1.length) (mSz M' - mSz M)).frames + 1 ≤ R.frames ∧ 8 + (mm_ml j + 11) + (mrm d (M'.1.length - M.1.length) (mSz M' - mSz M)).locals ≤ R.locals := ⟨hd1, by show 8 + (mm_ml j + 11) + 60 * d ≤ _; omega⟩
  have htl : ∀ r : List Value, (v.map (tv (gA G))).toList ++ r.map (tv (gA G)) = (v.toList ++ r).map (tv (gA G)) := fun r => by cases v <;> rfl
  have hsz : ∀ U : State, U.heap = H → H.size ≤ s.heap.size + cells → H.size = G.1 + M.1.length := by
    intro U hU hz
    refine Nat.le_antisymm (by omega) ?_
    rcases Nat.eq_zero_or_pos M.1.length with h0 | h0
    · have := hS.1; have := E.2.2.2.2.2.1; omega
    · have hq : M.1.length - 1 < M.1.length := by omega
      have h1 := (hP _ _ (mWs_get (List.getElem?_eq_getElem hq))).lt
      have hl9 : M.1.length ≤ 100000 := hWd.2
      rw [E.2.2.2.2.2.2.2.2.1 _ (by omega)] at h1
      omega
  cases i with
  | invokevirtual x =>
    obtain rfl : nx = pc + 3 := hnx
    simp only [mLk, Bool.and_eq_true, decide_eq_true_eq] at hlk
    obtain ⟨hl1, hl2, hl3⟩ := hlk
    simp only [mCa] at hm
    split at hm
    · rename_i b r hdr
      split at hm
      · rename_i hc
        cases hm
        obtain ⟨n1, n2, n3, n4, n5, n6, n7⟩ := mm_m_ok hl2
        refine ⟨rfl, rfl, W_size (fun hz => ?_)⟩
        have hst : st.map (tv (gA G)) = (((st.take (mm_np a)).reverse).map (tv (gA G))).reverse ++ Value.ref (gA G b) :: r.map (tv (gA G)) := by
          rw [List.map_reverse, List.reverse_reverse]
          conv => lhs; rw [← List.take_append_drop (mm_np a) st, hdr, List.map_append]
          rfl
        have hnp : ((st.take (mm_np a)).reverse.map (tv (gA G))).length = mm_np a := by
          have : (st.drop (mm_np a)).length = r.length + 1 := by rw [hdr]; rfl
          rw [List.length_drop] at this
          simp
          omega
        have hsel : Cond.selects (mm_y a).cls (mm_y a) (mm_y a) ∈ mm_gw := by
          rcases n4 with n4 | ⟨n4, -⟩ | ⟨-, n4⟩
          · omega
          · omega
          · exact n4
        rw [if_neg (by omega)] at n2
        have hcw := cwV (R := R) (s := s) (args := args) (own := mm_R (mm_ow k)) (C := (mm_y a).cls) (index := x) (y := mm_y a) (bytes := mm_by a) (maxL := mm_ml a) (ret := mm_rt a) (ws := mws a) (rm := mrm d (M'.1.length - M.1.length) (mSz M' - mSz M)) (mm_np a) hgw (mm_goodin (fun w hw => by
          unfold wsV at hw
          rcases List.mem_append.mp hw with hw | hw
          · simp only [List.mem_cons, List.not_mem_nil, or_false] at hw
            rcases hw with rfl | rfl | rfl | rfl
            · exact mm_mk_ok _ _ (mmem_of hl1)
            · exact n2
            · exact hsel
            · exact n3
          · exact mws_in hl2 w hw)) rfl rfl rfl ⟨rfl, n5.1.1, n5.1.2, n6⟩ hroom
        have hrecv : ∃ cellB : Cell, H[gA G b]? = some cellB ∧ cellB.vm.isStatics = false ∧ s.vm.findClass (mm_y a).cls = some cellB.cls := by
          rcases hc.2 with ⟨h1, h2, h3⟩ | ⟨h1, h2⟩
          · have hi : b - mstr < 8 := Nat.sub_lt_left_of_lt_add h1 h2
            have hv := vk_recv (H := H) (locs := locs) E.2.2.2.2.2.2.2.2.2.2.1 hi hS
            have hbe : mstr + (b - mstr) = b := Nat.add_sub_cancel' h1
            rw [hbe] at hv
            have hcl : (mm_y a).cls = "java/lang/String" := by
              rcases h3 with rfl | rfl <;> rfl
            rw [hcl]
            exact hv
          · obtain ⟨sh, hsh, hsh1⟩ := Option.map_eq_some_iff.mp h2
            have hw13 := (mm_ow13 h1).resolve_right (fun z => by subst z; exact absurd hl3 (by decide))
            obtain ⟨qc, hqc, hqN⟩ := mm_clsN hw13
            obtain ⟨o1, o2, o3, o4, o5, o6⟩ := mm_cls_ok _ _ hqc
            have he := mWs_get (G := G) hsh
            rw [mEnt_o (by omega), hsh1] at he
            have hv := va_recv E.1 hP hqc he
            rw [n7, ← o6]
            exact hv
        rw [hst]
        refine m_call (rest := r.map (tv (gA G))) (va_runV hfix hM hcw ⟨mPc_blind _ _ _, hrecv, fun U hU hW => ⟨rfl, by rw [hU]; exact hsz U hU hz, by rw [hU]; exact hWd, mEnv_move E hW hU hS⟩⟩ rfl hnp hl.1 rfl (lv_room (m_sum4 (gA G) hc.1)) hdg ⟨hc1, hs1⟩) hS (fun H1 locs1 g1 g2 => ?_)
        rw [htl]
        exact kk H1 locs1 g1 g2
      · cases hm
    · cases hm
  | invokestatic x =>
    obtain rfl : nx = pc + 3 := hnx
    simp only [mCa] at hm
    split at hm
    · rename_i ha9
      simp only [mLk] at hlk
      rw [if_pos ha9] at hlk
      simp only [Bool.and_eq_true, decide_eq_true_eq] at hlk
      obtain ⟨hl1, hl2, hl3⟩ := hlk
      split at hm
      · rename_i hc
        cases hm
        obtain ⟨n1, n2, n3, n4, n5, n6, n7⟩ := mm_m_ok (show a < 250 by omega)
        refine ⟨rfl, rfl, W_size (fun hz => ?_)⟩
        have hst : st.map (tv (gA G)) = (((st.take (mm_np a)).reverse).map (tv (gA G))).reverse ++ (st.drop (mm_np a)).map (tv (gA G)) := by
          rw [List.map_reverse, List.reverse_reverse, ← List.map_append, List.take_append_drop]
        have hnp : ((st.take (mm_np a)).reverse.map (tv (gA G))).length = mm_np a := by
          simp
          omega
        rw [if_pos hl3] at n2
        have hcw := va_cwS (R := R) (s := s) (args := args) (own := mm_R (mm_ow k)) (index := x) (y := mm_y a) (bytes := mm_by a) (maxL := mm_ml a) (ret := mm_rt a) (ws := mws a) (rm := mrm d (M'.1.length - M.1.length) (mSz M' - mSz M)) (mm_np a) hgw (mm_goodin (fun w hw => by
          unfold va_wsS at hw
          rcases List.mem_append.mp hw with hw | hw
          · simp only [List.mem_cons, List.not_mem_nil, or_false] at hw
            rcases hw with rfl | rfl | rfl
            · exact mm_mk_ok _ _ (mmem_of hl1)
            · exact n2
            · exact n3
          · exact mws_in (by omega) w hw)) rfl rfl rfl ⟨n5.1.1, n5.1.2, n6⟩ hroom
        rw [hst]
        refine m_call (rest := (st.drop (mm_np a)).map (tv (gA G))) (va_runS hfix hM hcw ⟨mPc_blind _ _ _, fun U hU hW => ⟨rfl, by rw [hU]; exact hsz U hU hz, by rw [hU]; exact hWd, mEnv_move E hW hU hS⟩⟩ rfl hnp hl.1 rfl (lv_room (m_sum4 (gA G) hc.2)) hdg ⟨hc1, hs1⟩) hS (fun H1 locs1 g1 g2 => ?_)
        rw [htl]
        exact kk H1 locs1 g1 g2
      · cases hm
    · cases hm
  | invokespecial x =>
    obtain rfl : nx = pc + 3 := hnx
    simp only [mCa] at hm
    split at hm
    · rename_i ha9
      simp only [mLk] at hlk
      rw [if_neg (by omega)] at hlk
      simp only [Bool.and_eq_true, decide_eq_true_eq, Bool.or_eq_true] at hlk
      obtain ⟨⟨hl2, hl3⟩, hl1⟩ := hlk
      split at hm
      · rename_i b r hdr
        split at hm
        · rename_i hc
          cases hm
          obtain ⟨n1, n2, n3, n4, n5, n6, n7⟩ := mm_m_ok (show a < 250 by omega)
          refine ⟨rfl, rfl, W_size (fun hz => ?_)⟩
          have hst : st.map (tv (gA G)) = (((st.take (mm_np a)).reverse).map (tv (gA G))).reverse ++ Value.ref (gA G b) :: r.map (tv (gA G)) := by
            rw [List.map_reverse, List.reverse_reverse]
            conv => lhs; rw [← List.take_append_drop (mm_np a) st, hdr, List.map_append]
            rfl
          have hnp : ((st.take (mm_np a)).reverse.map (tv (gA G))).length = mm_np a := by
            have : (st.drop (mm_np a)).length = r.length + 1 := by rw [hdr]; rfl
            rw [List.length_drop] at this
            simp
            omega
          have hini : (mm_y a).name = "<init>" := by
            rcases n4 with n4 | ⟨-, n4⟩ | ⟨n4, -⟩
            · omega
            · exact n4
            · omega
          have hrt : mm_rt a = none := mm_ini_rt (by omega) hl3
          rw [if_neg (by omega)] at n2
          have hw0 : mws a = .code (mm_y a) (mm_by a) (mm_ml a) none :: mm_gw := by rw [mws, hrt]
          rw [hst]
          refine m_call (mc := M'.1.length - M.1.length) (ms := mSz M' - mSz M) (rest := r.map (tv (gA G))) (v := v) (M' := M') (aa := (Value.ref (gA G b) :: (st.take (mm_np a)).reverse.map (tv (gA G))).toArray) ?_ hS (fun H1 locs1 g1 g2 => ?_)
          · have hpre : PreS s H (mPc G (Value.ref b :: (st.take (mm_np a)).reverse) M) (Value.ref (gA G b) :: (st.take (mm_np a)).reverse.map (tv (gA G))) := ⟨mPc_blind _ _ _, fun U hU hW => ⟨rfl, by rw [hU]; exact hsz U hU hz, by rw [hU]; exact hWd, mEnv_move E hW hU hS⟩⟩
            rcases hl1 with hl1 | hl1
            · have hcw := cwI (R := R) (s := s) (args := args) (own := mm_R (mm_ow k)) (index := x) (y := mm_y a) (bytes := mm_by a) (maxL := mm_ml a) (ws := mws a) (rm := mrm d (M'.1.length - M.1.length) (mSz M' - mSz M)) (mm_np a) hgw (mm_goodin (mws_in (by omega))) hw0 rfl rfl (hgw _ n3) (hgw _ (mm_mk_ok _ _ (mmem_of hl1))) (hgw _ n2) hini ⟨n5.1.1, n5.1.2, n6⟩ hroom
              exact va_runI hfix hM hcw hpre rfl hnp hl.1 rfl (lv_room (m_sum4 (gA G) hc)) hdg ⟨hc1, hs1⟩
            · have hcw := va_cnB (R := R) (s := s) (args := args) (own := mm_R (mm_ow k)) (host := "GraveRails") (index := x) (y := mm_y a) (bytes := mm_by a) (maxL := mm_ml a) (ret := none) (ws := mws a) (rm := mrm d (M'.1.length - M.1.length) (mSz M' - mSz M)) (mm_np a) hgw (mm_goodin (mws_in (by omega))) hw0 rfl rfl (E.2.2.1 _ _ (mmem_of hl1)) (hgw _ n3) ⟨n5.1.1, n5.1.2, n6⟩ hroom
              exact va_runIN hfix hM ⟨hcw, hini, hgw _ n2⟩ hpre rfl hnp hl.1 rfl (lv_room (m_sum4 (gA G) hc)) hdg ⟨hc1, hs1⟩
          · rw [htl]
            exact kk H1 locs1 g1 g2
        · cases hm
      · cases hm
    · cases hm
  | _ => cases hm
end MAL
