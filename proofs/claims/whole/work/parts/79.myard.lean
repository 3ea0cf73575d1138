/-! ===== a yard is read: the model's clauses ===== -/
/-- the reader's fields and its row alone change -/
def FrV (M M' : mM) : Prop := M'.2.2 = M.2.2 ∧ (∀ p, p ≠ 436 → p ≠ 442 → M'.2.1 p = M.2.1 p) ∧ ∀ i, i ≠ 8 → i ≠ 9 → i ≠ 10 → M'.2.1 436 i = M.2.1 436 i
theorem FrV_refl (M : mM) : FrV M M := ⟨rfl, fun _ _ _ => rfl, fun _ _ _ _ => rfl⟩
theorem FrV_trans {M M' M'' : mM} (h : FrV M M') (h' : FrV M' M'') : FrV M M'' := ⟨h'.1.trans h.1, fun p a b => (h'.2.1 p a b).trans (h.2.1 p a b), fun i a b c => (h'.2.2 i a b c).trans (h.2.2 i a b c)⟩
theorem FrZ_V {M M' : mM} (h : FrZ M M') : FrV M M' := ⟨h.1, fun p a _ => h.2.1 p a, h.2.2⟩
theorem Fr8_V {M M' : mM} (h : Fr8 M M') : FrV M M' := FrZ_V (Fr8_Z h)
theorem FrV_I {M : mM} {i : Nat} {v : Int32} : FrV M (msI M 442 i v) := ⟨rfl, fun p _ b => gIp b, fun i _ _ _ => by rw [gIp (by omega)]⟩
theorem MTk_I {t : Tp} {p : Nat} {M : mM} (h : MTk t p M) {q i : Nat} {v : Int32} (hq : q ≠ 436 ∧ q ≠ 437) : MTk t p (msI M q i v) := by
  obtain ⟨h0, h1, h2, h3⟩ := h
  refine ⟨⟨?_, fun k hk => ?_⟩, ?_, ?_, h3⟩
  · rw [gIp (Ne.symm hq.1)]; exact h0.1
  · rw [gIp (Ne.symm hq.2)]; exact h0.2 k hk
  · rw [gIp (Ne.symm hq.1)]; exact h1
  · rw [gIp (Ne.symm hq.1)]; exact h2
/-- what was read of a yard -/
def RD (s : YS) (F : Nat → Int32) : Prop := F 0 = i32 (y_L s.1) ∧ F 1 = i32 (y_C s.1) ∧ F 2 = i32 (y_m s.1) ∧ F 3 = 0 ∧ F 5 = i32 (y_nr s.1) ∧ F 6 = i32 (y_nf s.1) ∧ (∀ g, g < y_m s.1 → MB F g (tlB s.1 g) ∧ F (10 + 9 * g + 6) = eG (y_p s.1 g) ∧ F (10 + 9 * g + 8) = e01 (y_h s.1 g) ∧ F (109 + 2 * g) = i32 (y_t s.1 g).1 ∧ F (109 + 2 * g + 1) = i32 (y_t s.1 g).2.1) ∧ (∀ k, k < y_nr s.1 → F (131 + 3 * k) = i32 (s.2 k).1 ∧ F (131 + 3 * k + 1) = i32 (s.2 k).2.1 ∧ F (131 + 3 * k + 2) = i32 (s.2 k).2.2) ∧ ∀ k, k < y_nf s.1 → F (149 + k) = i32 (y_fy s.1 k)
theorem MB_of {F F' : Nat → Int32} {g : Nat} {b : B} (h : MB F g b) (e : ∀ i, i < 9 → F' (10 + 9 * g + i) = F (10 + 9 * g + i)) : MB F' g b := by
  obtain ⟨h0, h1, h2, h3, h4, h5, h7⟩ := h
  exact ⟨(e 0 (by omega)).trans h0, (e 1 (by omega)).trans h1, (e 2 (by omega)).trans h2, (e 3 (by omega)).trans h3, (e 4 (by omega)).trans h4, (e 5 (by omega)).trans h5, (e 7 (by omega)).trans h7⟩
def RsM (t : Tp) (r : Except Nat (Nat × YS)) (z : Int32 × mM) : Prop := match r with
  | .error w => z.1 = 0 ∧ MRf t w z.2
  | .ok q => z.1 = 1 ∧ MTk t q.1 z.2 ∧ RD q.2 (z.2.2.1 442)
theorem nmr_q {t : Tp} {p lo h : Nat} : nmr t (skp t p) lo h = nmr t p lo h := by unfold nmr; rw [skp_skp]
theorem nxp_q {t : Tp} {p : Nat} : nxp t (skp t p) = nxp t p := by unfold nxp; rw [skp_skp]
theorem m_cell {t : Tp} (ht : t.1 ≤ 400) {p lo h x : Nat} {M : mM} (hl : lo < 1000000) (hh : h < 1000000) (hx : x < 155) (hM : MTk t p M) : OK (f_Model_cellHere (i32 x) (i32 lo) (i32 h - 1) M) fun z => FrV M z.2 ∧ match nmr t p lo h with
    | .error w => z.1 = 0 ∧ MRf t w z.2
    | .ok v => z.1 = 1 ∧ MTk t (nxp t p) z.2 ∧ z.2.2.1 442 x = i32 v ∧ ∀ j, j ≠ x → z.2.2.1 442 j = M.2.1 442 j := by
  unfold f_Model_cellHere
  refine OK_bind (m_num ht hl hh hM) fun z hz => ?_
  obtain ⟨f, hz⟩ := hz
  cases e : nmr t p lo h with
  | error w =>
    rw [e] at hz
    rw [if_pos hz.1]
    exact OK_some ⟨FrZ_V f, rfl, hz.2⟩
  | ok v =>
    rw [e] at hz
    rw [hz.1, if_neg (by decide), wr_i32 (by omega) (by omega), Option.bind_some]
    exact OK_some ⟨FrV_trans (FrZ_V f) FrV_I, rfl, MTk_I hz.2.1 (by omega), by rw [gIe]; exact hz.2.2, fun j hj => by rw [gIo hj, f.2.1 442 (by omega)]⟩
theorem my_size {t : Tp} (ht : t.1 ≤ 400) {p : Nat} {s : YS} {M : mM} (hw : ¬ isw t 0 p = -1) (hs : s.1 = yNil) (hM : MTk t (skp t p) M) (hR : RD s (M.2.1 442)) {at' : Int32} : OK (f_Model_isYardHere at' M) fun z => FrV M z.2 ∧ RsM t (sSize t (nxp t p) s) z := by
  have e0 : M.2.1 442 0 = 0 := by rw [hR.1, hs]; rfl
  unfold f_Model_isYardHere
  rw [rd_0 (by omega) (by omega), Option.bind_some, e0, if_pos (by decide)]
  refine OK_bind (m_passWord ht hM) fun M3 h3 => ?_
  rw [← nxp_w (by omega) hw] at h3
  refine OK_bind (m_cell ht (x := 0) (lo := 1) (h := 5) (by omega) (by omega) (by omega) h3.1) fun z4 h4 => ?_
  obtain ⟨f4, h4⟩ := h4
  cases e1 : nmr t (nxp t p) 1 5 with
  | error w =>
    rw [e1] at h4
    have er : sSize t (nxp t p) s = .error w := by unfold sSize; rw [e1, ebd_e]
    rw [if_pos h4.1, er]
    exact OK_some ⟨FrV_trans (Fr8_V h3.2) f4, rfl, h4.2⟩
  | ok L =>
    rw [e1] at h4
    rw [h4.1, if_neg (by decide)]
    refine OK_bind (m_cell ht (x := 1) (lo := 2) (h := 21) (by omega) (by omega) (by omega) h4.2.1) fun z6 h6 => ?_
    obtain ⟨f6, h6⟩ := h6
    cases e2 : nmr t (nxp t (nxp t p)) 2 21 with
    | error w =>
      rw [e2] at h6
      have er : sSize t (nxp t p) s = .error w := by unfold sSize; rw [e1, ebd_o, e2, ebd_e]
      rw [if_pos h6.1, er]
      exact OK_some ⟨FrV_trans (Fr8_V h3.2) (FrV_trans f4 f6), rfl, h6.2⟩
    | ok C =>
      rw [e2] at h6
      have er : sSize t (nxp t p) s = .ok (nxp t (nxp t (nxp t p)), (ySz s.1 L C, s.2)) := by unfold sSize; rw [e1, ebd_o, e2, ebd_o]
      rw [h6.1, if_neg (by decide), er]
      refine OK_some ⟨FrV_trans (Fr8_V h3.2) (FrV_trans f4 f6), rfl, h6.2.1, ?_⟩
      have eo : ∀ j, 2 ≤ j → z6.2.2.1 442 j = M.2.1 442 j := fun j hj => (h6.2.2.2 j (by omega)).trans ((h4.2.2.2 j (by omega)).trans (by rw [h3.2.2.1 442 (by omega)]))
      obtain ⟨a0, a1, a2, a3, a5, a6, ag, ar, af⟩ := hR
      refine ⟨?_, h6.2.2.1, (eo 2 (by omega)).trans a2, (eo 3 (by omega)).trans a3, (eo 5 (by omega)).trans a5, (eo 6 (by omega)).trans a6, fun g hg => ?_, fun k hk => ?_, fun k hk => ?_⟩
      · exact (h6.2.2.2 0 (by omega)).trans h4.2.2.1
      · obtain ⟨b1, b2, b3, b4, b5⟩ := ag g hg
        exact ⟨MB_of b1 fun i hi => eo _ (by omega), (eo _ (by omega)).trans b2, (eo _ (by omega)).trans b3, (eo _ (by omega)).trans b4, (eo _ (by omega)).trans b5⟩
      · obtain ⟨b1, b2, b3⟩ := ar k hk
        exact ⟨(eo _ (by omega)).trans b1, (eo _ (by omega)).trans b2, (eo _ (by omega)).trans b3⟩
      · exact (eo _ (by omega)).trans (af k hk)
/-- grave clauses: is the place taken -/
theorem my_tak {t : Tp} (ht : t.1 ≤ 400) {y : Yd} {l c q : Nat} {M : mM} {at' : Int32} {p : Nat} (hv : VY y) (hm : y_m y < 10) (hM : MTk t p M) (hq : q ≤ t.1) (h2 : M.2.1 442 2 = i32 (y_m y)) (hp : ∀ g, g < y_m y → M.2.1 442 (10 + 9 * g) = i32 (y_t y g).1 ∧ M.2.1 442 (10 + 9 * g + 1) = i32 (y_t y g).2.1) (hl : M.2.1 442 (10 + 9 * y_m y) = i32 l) (hc : M.2.1 442 (10 + 9 * y_m y + 1) = i32 c) (hl2 : l < 1000) (hc2 : c < 1000) : ∀ (k i f : Nat), i + k = y_m y → k < f →
    (tak y l c k i = true → OK (f_Model_isGraveHere_88 at' f (i32 (10 + 9 * y_m y)) (i32 q) (i32 i) M) fun z => FrV M z.2 ∧ z.1 = 0 ∧ MRf t (flt q 1) z.2) ∧ (tak y l c k i = false → ∃ f', f_Model_isGraveHere_88 at' f (i32 (10 + 9 * y_m y)) (i32 q) (i32 i) M = f_Model_isGraveHere_88 at' (f' + 1) (i32 (10 + 9 * y_m y)) (i32 q) (i32 (y_m y)) M)
  | _, _, 0, _, hf => absurd hf (Nat.not_lt_zero _)
  | 0, i, f + 1, hi, hf => by
    refine ⟨fun z => (by cases z), fun _ => ⟨f, ?_⟩⟩
    rw [show i = y_m y by omega]
  | k + 1, i, f + 1, hi, hf => by
    have ih := my_tak ht (at' := at') hv hm hM hq h2 hp hl hc hl2 hc2 k (i + 1) f (by omega) (by omega)
    obtain ⟨p1, p2⟩ := hp i (by omega)
    have v9 := hv.2.2.2.2.2.2.2.2.1 i (by omega)
    have v1 := hv.1
    have v2 := hv.2.1
    have e : f_Model_isGraveHere_88 at' (f + 1) (i32 (10 + 9 * y_m y)) (i32 q) (i32 i) M = if (y_t y i).1 = l ∧ (y_t y i).2.1 = c then ((f_Model_fails 1 (i32 q) M).bind fun r40 => if r40.1 = 0 ∨ r40.1 = 1 then some (r40.1, r40.2) else none) else f_Model_isGraveHere_88 at' f (i32 (10 + 9 * y_m y)) (i32 q) (i32 (i + 1)) M := by
      rw [f_Model_isGraveHere_88, rd_2 (by omega) (by omega), Option.bind_some, h2, if_neg (by rw [i32_le (by omega) (by omega)]; omega), nmul'_9, nadd'_10, rd_i32 (by omega) (by omega), Option.bind_some, p1, rd_i32 (by omega) (by omega), Option.bind_some, hl]
      by_cases c1 : (y_t y i).1 = l
      · rw [if_pos (by rw [c1]), nadd_1, rd_i32 (by omega) (by omega), Option.bind_some, p2, nadd_1, rd_i32 (by omega) (by omega), Option.bind_some, hc]
        by_cases c2 : (y_t y i).2.1 = c
        · rw [if_pos (by rw [c2]), if_pos ⟨c1, c2⟩]
        · rw [if_neg (by rw [i32_eq (by omega) (by omega)]; exact c2), if_neg (fun z => c2 z.2)]
          unfold f_Model_isGraveHere_154
          rw [nadd_1]
      · rw [if_neg (by rw [i32_eq (by omega) (by omega)]; exact c1), if_neg (fun z => c1 z.1)]
        unfold f_Model_isGraveHere_154
        rw [nadd_1]
    rw [e, tak]
    by_cases c1 : (y_t y i).1 = l ∧ (y_t y i).2.1 = c
    · rw [if_pos c1, if_pos c1]
      exact ⟨fun _ => bz0 (OK_imp (m_fails ht hM (k := 1) hq (by omega)) fun z hz => ⟨hz.1, FrZ_V hz.2.2, rfl, hz.2.1⟩), fun z => absurd z.symm Bool.false_ne_true⟩
    · rw [if_neg c1, if_neg c1]
      exact ih
theorem my_grave {t : Tp} (ht : t.1 ≤ 400) {p : Nat} {s : YS} {M : mM} {at' : Int32} (hw : ¬ isw t 0 p = -1) (hv : VY s.1) (hm : y_m s.1 < 10) (hM : MTk t (skp t p) M) (hR : RD s (M.2.1 442)) : OK (f_Model_isGraveHere at' M) fun z => FrV M z.2 ∧ RsM t (sGrave t (nxp t p) s) z := by
  have v1 := hv.1
  have v2 := hv.2.1
  have hR0 := hR
  obtain ⟨a0, a1, a2, a3, a5, a6, ag, ar, af⟩ := hR
  unfold f_Model_isGraveHere
  rw [rd_2 (by omega) (by omega), Option.bind_some, a2, if_neg (by rw [show (10 : Int32) = i32 10 from rfl, i32_eq (by omega) (by omega)]; omega)]
  refine OK_bind (m_passWord ht hM) fun M3 h3 => ?_
  rw [← nxp_w (by omega) hw] at h3
  have f3 := Fr8_V h3.2
  have r3 : M3.2.1 442 = M.2.1 442 := h3.2.2.1 442 (by omega)
  rw [rd_2 (by omega) (by omega), Option.bind_some, rd_0 (by omega) (by omega), Option.bind_some, r3, a2, a0, nmul'_9, nadd'_10]
  refine OK_bind (m_cell ht (lo := 0) (h := y_L s.1) (by omega) (by omega) (by omega) h3.1) fun z6 h6 => ?_
  obtain ⟨f6, h6⟩ := h6
  cases e1 : nmr t (nxp t p) 0 (y_L s.1) with
  | error w =>
    rw [e1] at h6
    have er : sGrave t (nxp t p) s = .error w := by unfold sGrave; rw [e1, ebd_e]
    rw [if_pos h6.1, er]
    exact OK_some ⟨FrV_trans f3 f6, rfl, h6.2⟩
  | ok l =>
  rw [e1] at h6
  have k1 := nmr_ok e1
  rw [h6.1, if_neg (by decide)]
  refine OK_bind (m_see ht h6.2.1) fun z8 h8 => ?_
  obtain ⟨-, m8, f8⟩ := h8
  have r8 : z8.2.2.1 442 = z6.2.2.1 442 := f8.2.1 442 (by omega)
  have o6 : ∀ j, j ≠ 10 + 9 * y_m s.1 → z8.2.2.1 442 j = M.2.1 442 j := fun j hj => by rw [r8, h6.2.2.2 j hj, r3]
  rw [rd_1 (by omega) (by omega), Option.bind_some, o6 1 (by omega), a1, m8.2.1, nadd_1]
  refine OK_bind (m_cell ht (lo := 0) (h := y_C s.1) (by omega) (by omega) (by omega) m8) fun z10 h10 => ?_
  obtain ⟨f10, h10⟩ := h10
  rw [nmr_q, nxp_q] at h10
  cases e2 : nmr t (nxp t (nxp t p)) 0 (y_C s.1) with
  | error w =>
    rw [e2] at h10
    have er : sGrave t (nxp t p) s = .error w := by unfold sGrave; rw [e1, ebd_o, e2, ebd_e]
    rw [if_pos h10.1, er]
    exact OK_some ⟨FrV_trans f3 (FrV_trans f6 (FrV_trans (Fr8_V f8) f10)), rfl, h10.2⟩
  | ok c =>
  rw [e2] at h10
  have k2 := nmr_ok e2
  rw [h10.1, if_neg (by decide)]
  obtain ⟨-, m10, c10, o10⟩ := h10
  have f10' := FrV_trans f3 (FrV_trans f6 (FrV_trans (Fr8_V f8) f10))
  have oA : ∀ j, j ≠ 10 + 9 * y_m s.1 → j ≠ 10 + 9 * y_m s.1 + 1 → z10.2.2.1 442 j = M.2.1 442 j := fun j h1 h2 => (o10 j h2).trans (o6 j h1)
  have l10 : z10.2.2.1 442 (10 + 9 * y_m s.1) = i32 l := by rw [o10 _ (by omega), r8]; exact h6.2.2.1
  have hT := my_tak ht (at' := at') (q := skp t (nxp t (nxp t p))) hv hm m10 m8.2.2.2 ((oA 2 (by omega) (by omega)).trans a2) (fun g hg => ⟨by rw [oA _ (by omega) (by omega)]; exact (ag g hg).1.1, by rw [oA _ (by omega) (by omega)]; exact (ag g hg).1.2.1⟩) l10 c10 (by omega) (by omega) (y_m s.1) 0 FUEL (Nat.zero_add _) (by rw [FUEL_eq]; omega)
  cases e3 : tak s.1 l c (y_m s.1) 0 with
  | true =>
    have er : sGrave t (nxp t p) s = .error (flt (skp t (nxp t (nxp t p))) 1) := by unfold sGrave; rw [e1, ebd_o, e2, ebd_o, e3, if_pos rfl]
    rw [er]
    exact OK_imp (hT.1 e3) fun z hz => ⟨FrV_trans f10' hz.1, hz.2⟩
  | false =>
  obtain ⟨f', ef⟩ := hT.2 e3
  rw [show (0 : Int32) = i32 0 from rfl, ef, f_Model_isGraveHere_88, rd_2 (by omega) (by omega), Option.bind_some, oA 2 (by omega) (by omega), a2, if_pos (by rw [i32_le (by omega) (by omega)]; omega)]
  refine OK_bind (m_see ht m10) fun z14 h14 => ?_
  obtain ⟨-, m14, f14⟩ := h14
  refine OK_bind (m_kindHere ht m14) fun z15 h15 => ?_
  obtain ⟨v15, m15, f15⟩ := h15
  have f15' := FrV_trans f10' (FrV_trans (Fr8_V f14) (Fr8_V f15))
  by_cases e4 : isw t 1 (nxp t (nxp t (nxp t p))) = -1
  · have er : sGrave t (nxp t p) s = .error (flt (skp t (nxp t (nxp t (nxp t p)))) 0) := by unfold sGrave; rw [e1, ebd_o, e2, ebd_o, e3, if_neg Bool.false_ne_true, if_pos e4]
    rw [v15, e4, if_neg (by decide), er, m14.2.1]
    exact bz0 (OK_imp (m_fails ht m15 (k := 0) m14.2.2.2 (by omega)) fun z hz => ⟨hz.1, FrV_trans f15' (FrZ_V hz.2.2), rfl, hz.2.1⟩)
  · have er : sGrave t (nxp t p) s = .ok (nxp t (nxp t (nxp t (nxp t p))), (yGr s.1 l c (isw t 1 (nxp t (nxp t (nxp t p)))).toNatClampNeg, s.2)) := by unfold sGrave; rw [e1, ebd_o, e2, ebd_o, e3, if_neg Bool.false_ne_true, if_neg e4]
    obtain ⟨k, hk, ek⟩ := isw_k e4
    have hk4 : k < 4 := hk
    rw [if_neg e4] at m15
    rw [ek, i32_cl (by omega)] at er
    have oB : ∀ j, z15.2.2.1 442 j = z10.2.2.1 442 j := fun j => by rw [f15.2.1 442 (by omega), f14.2.1 442 (by omega)]
    rw [v15, ek, if_pos (by rw [show (0 : Int32) = i32 0 from rfl, i32_le (by omega) (by omega)]; omega), er]
    rw [nadd_2, wr_i32 (by omega) (by omega), Option.bind_some, nadd_3, wr_i32 (by omega) (by omega), Option.bind_some, nadd_4, wr_i32 (by omega) (by omega), Option.bind_some, nadd_5, wr_i32 (by omega) (by omega), Option.bind_some, nadd_6, wr_i32 (by omega) (by omega), Option.bind_some, nadd_7, wr_i32 (by omega) (by omega), Option.bind_some, nadd_8, wr_i32 (by omega) (by omega), Option.bind_some]
    obtain ⟨M23, hM23⟩ : ∃ M23, M23 = msI (msI (msI (msI (msI (msI (msI z15.2 442 (10 + 9 * y_m s.1 + 2) (i32 k)) 442 (10 + 9 * y_m s.1 + 3) 0) 442 (10 + 9 * y_m s.1 + 4) (-1)) 442 (10 + 9 * y_m s.1 + 5) 0) 442 (10 + 9 * y_m s.1 + 6) (-1)) 442 (10 + 9 * y_m s.1 + 7) 0) 442 (10 + 9 * y_m s.1 + 8) 0 := ⟨_, rfl⟩
    rw [← hM23]
    have f23 : FrV z15.2 M23 := by rw [hM23]; exact FrV_trans FrV_I (FrV_trans FrV_I (FrV_trans FrV_I (FrV_trans FrV_I (FrV_trans FrV_I (FrV_trans FrV_I FrV_I)))))
    have m23 : MTk t (nxp t (nxp t (nxp t (nxp t p)))) M23 := by rw [hM23]; exact MTk_I (MTk_I (MTk_I (MTk_I (MTk_I (MTk_I (MTk_I m15 (by omega)) (by omega)) (by omega)) (by omega)) (by omega)) (by omega)) (by omega)
    have o23 : ∀ j, (j < 10 + 9 * y_m s.1 + 2 ∨ 10 + 9 * y_m s.1 + 8 < j) → M23.2.1 442 j = z10.2.2.1 442 j := by
      intro j hj
      rw [hM23, gIo (by omega), gIo (by omega), gIo (by omega), gIo (by omega), gIo (by omega), gIo (by omega), gIo (by omega)]
      exact oB j
    have n2 : M23.2.1 442 (10 + 9 * y_m s.1 + 2) = i32 k := by rw [hM23, gIo (by omega), gIo (by omega), gIo (by omega), gIo (by omega), gIo (by omega), gIo (by omega), gIe]
    have n3 : M23.2.1 442 (10 + 9 * y_m s.1 + 3) = 0 := by rw [hM23, gIo (by omega), gIo (by omega), gIo (by omega), gIo (by omega), gIo (by omega), gIe]
    have n4 : M23.2.1 442 (10 + 9 * y_m s.1 + 4) = -1 := by rw [hM23, gIo (by omega), gIo (by omega), gIo (by omega), gIo (by omega), gIe]
    have n5 : M23.2.1 442 (10 + 9 * y_m s.1 + 5) = 0 := by rw [hM23, gIo (by omega), gIo (by omega), gIo (by omega), gIe]
    have n6 : M23.2.1 442 (10 + 9 * y_m s.1 + 6) = -1 := by rw [hM23, gIo (by omega), gIo (by omega), gIe]
    have n7 : M23.2.1 442 (10 + 9 * y_m s.1 + 7) = 0 := by rw [hM23, gIo (by omega), gIe]
    have n8 : M23.2.1 442 (10 + 9 * y_m s.1 + 8) = 0 := by rw [hM23, gIe]
    have q2 : M23.2.1 442 2 = i32 (y_m s.1) := by rw [o23 2 (by omega), oA 2 (by omega) (by omega)]; exact a2
    have q0 : M23.2.1 442 (10 + 9 * y_m s.1) = i32 l := by rw [o23 _ (by omega)]; exact l10
    have q1 : M23.2.1 442 (10 + 9 * y_m s.1 + 1) = i32 c := by rw [o23 _ (by omega)]; exact c10
    clear hM23
    rw [rd_2 (by omega) (by omega), Option.bind_some, q2, rd_i32 (by omega) (by omega), Option.bind_some, q0, nmul'_2, show (109 : Int32) + i32 (2 * y_m s.1) = i32 (109 + 2 * y_m s.1) from i32_add 109 _, wr_i32 (by omega) (by omega), Option.bind_some, rd_2 (by omega) (by omega), Option.bind_some, gIo (by omega), q2, nadd_1, rd_i32 (by omega) (by omega), Option.bind_some, gIo (by omega), q1, nmul'_2, show (109 : Int32) + i32 (2 * y_m s.1) = i32 (109 + 2 * y_m s.1) from i32_add 109 _, nadd_1, wr_i32 (by omega) (by omega), Option.bind_some, rd_2 (by omega) (by omega), Option.bind_some, gIo (by omega), gIo (by omega), q2, nadd_1, wr_2 (by omega) (by omega), Option.bind_some]
    refine OK_some ⟨FrV_trans f15' (FrV_trans f23 (FrV_trans FrV_I (FrV_trans FrV_I FrV_I))), rfl, MTk_I (MTk_I (MTk_I m23 (by omega)) (by omega)) (by omega), ?_⟩
    have oC : ∀ j, j ≠ 2 → j ≠ 109 + 2 * y_m s.1 → j ≠ 109 + 2 * y_m s.1 + 1 → (j < 10 + 9 * y_m s.1 ∨ 10 + 9 * y_m s.1 + 8 < j) → (msI (msI (msI M23 442 (109 + 2 * y_m s.1) (i32 l)) 442 (109 + 2 * y_m s.1 + 1) (i32 c)) 442 2 (i32 (y_m s.1 + 1))).2.1 442 j = M.2.1 442 j := by
      intro j j1 j2 j3 j4
      rw [gIo j1, gIo j3, gIo j2, o23 j (by omega), oA j (by omega) (by omega)]
    have oD : ∀ j, 10 + 9 * y_m s.1 ≤ j → j ≤ 10 + 9 * y_m s.1 + 8 → (msI (msI (msI M23 442 (109 + 2 * y_m s.1) (i32 l)) 442 (109 + 2 * y_m s.1 + 1) (i32 c)) 442 2 (i32 (y_m s.1 + 1))).2.1 442 j = M23.2.1 442 j := by
      intro j j1 j2
      rw [gIo (by omega), gIo (by omega), gIo (by omega)]
    refine ⟨(oC 0 (by omega) (by omega) (by omega) (by omega)).trans a0, (oC 1 (by omega) (by omega) (by omega) (by omega)).trans a1, gIe _ _ _ _, (oC 3 (by omega) (by omega) (by omega) (by omega)).trans a3, (oC 5 (by omega) (by omega) (by omega) (by omega)).trans a5, (oC 6 (by omega) (by omega) (by omega) (by omega)).trans a6, fun g hg => ?_, fun j hj => ?_, fun j hj => ?_⟩
    · have hg' : g < y_m s.1 + 1 := hg
      have v8p : ∀ h, y_p s.1 (y_m s.1) = some h → False := fun h e => by
        have := (hv.2.2.2.2.2.2.2.1 _ h e).1
        omega
      have v11 : ¬ y_h s.1 (y_m s.1) = true := fun e => by
        have := hv.2.2.2.2.2.2.2.2.2.2.1 _ e
        omega
      by_cases d : g = y_m s.1
      · subst d
        have et : tlB (yGr s.1 l c k) (y_m s.1) = (some (l, c), k, 0, -1, i32 0, 0) := by
          show dgB (bup (y_t s.1) (y_m s.1) (l, c, k) (y_m s.1)).1 (bup (y_t s.1) (y_m s.1) (l, c, k) (y_m s.1)).2.1 (bup (y_t s.1) (y_m s.1) (l, c, k) (y_m s.1)).2.2 (i32 0) = _
          rw [bup_e]
          rfl
        rw [et]
        refine ⟨⟨?_, ?_, ?_, ?_, ?_, ?_, ?_⟩, ?_, ?_, ?_, ?_⟩
        · rw [oD _ (by omega) (by omega)]; exact q0
        · rw [oD _ (by omega) (by omega)]; exact q1
        · rw [oD _ (by omega) (by omega)]; exact n2
        · rw [oD _ (by omega) (by omega)]; exact n3
        · rw [oD _ (by omega) (by omega)]; exact n4
        · rw [oD _ (by omega) (by omega)]; exact n5
        · rw [oD _ (by omega) (by omega)]; exact n7
        · rw [oD _ (by omega) (by omega), n6]
          show (-1 : Int32) = eG (y_p s.1 (y_m s.1))
          cases ep : y_p s.1 (y_m s.1) with
          | none => rfl
          | some h => exact (v8p h ep).elim
        · rw [oD _ (by omega) (by omega), n8]
          show (0 : Int32) = e01 (y_h s.1 (y_m s.1))
          rw [Bool.eq_false_iff.mpr v11]
          rfl
        · show _ = i32 (bup (y_t s.1) (y_m s.1) (l, c, k) (y_m s.1)).1
          rw [bup_e, gIo (by omega), gIo (by omega), gIe]
        · show _ = i32 (bup (y_t s.1) (y_m s.1) (l, c, k) (y_m s.1)).2.1
          rw [bup_e, gIo (by omega), gIe]
      · obtain ⟨b1, b2, b3, b4, b5⟩ := ag g (by omega)
        have et : tlB (yGr s.1 l c k) g = tlB s.1 g := by
          show dgB (bup (y_t s.1) (y_m s.1) (l, c, k) g).1 (bup (y_t s.1) (y_m s.1) (l, c, k) g).2.1 (bup (y_t s.1) (y_m s.1) (l, c, k) g).2.2 (i32 0) = _
          rw [bup_o d]
          rfl
        rw [et]
        refine ⟨MB_of b1 fun i hi => oC _ (by omega) (by omega) (by omega) (by omega), (oC _ (by omega) (by omega) (by omega) (by omega)).trans b2, (oC _ (by omega) (by omega) (by omega) (by omega)).trans b3, ?_, ?_⟩
        · show _ = i32 (bup (y_t s.1) (y_m s.1) (l, c, k) g).1
          rw [bup_o d]
          exact (oC _ (by omega) (by omega) (by omega) (by omega)).trans b4
        · show _ = i32 (bup (y_t s.1) (y_m s.1) (l, c, k) g).2.1
          rw [bup_o d]
          exact (oC _ (by omega) (by omega) (by omega) (by omega)).trans b5
    · obtain ⟨b1, b2, b3⟩ := ar j hj
      exact ⟨(oC _ (by omega) (by omega) (by omega) (by omega)).trans b1, (oC _ (by omega) (by omega) (by omega) (by omega)).trans b2, (oC _ (by omega) (by omega) (by omega) (by omega)).trans b3⟩
    · exact (oC _ (by omega) (by omega) (by omega) (by omega)).trans (af j hj)
