/-! ===== a yard is read: the model's other clauses ===== -/
theorem m_single {t : Tp} (ht : t.1 ≤ 400) {p : Nat} {s : YS} {M : mM} (hv : VY s.1) (hM : MTk t p M) (hR : RD s (M.2.1 442)) : OK (f_Model_singleHere M) fun z => FrZ M z.2 ∧ match nmr t p 0 (y_m s.1) with
    | .error w => z.1 = 0 ∧ MRf t w z.2
    | .ok g => (y_p s.1 g ≠ none → z.1 = 0 ∧ MRf t (flt (skp t p) 1) z.2) ∧ (y_p s.1 g = none → z.1 = 1 ∧ MTk t (nxp t p) z.2 ∧ z.2.2.1 436 10 = i32 g) := by
  have v3 := hv.2.2.1
  obtain ⟨a0, a1, a2, a3, a5, a6, ag, ar, af⟩ := hR
  unfold f_Model_singleHere
  refine OK_bind (m_see ht hM) fun z1 h1 => ?_
  obtain ⟨-, m1, f1⟩ := h1
  have r1 : z1.2.2.1 442 = M.2.1 442 := f1.2.1 442 (by omega)
  rw [rd_2 (by omega) (by omega), Option.bind_some, r1, a2]
  refine OK_bind (m_num ht (lo := 0) (h := y_m s.1) (by omega) (by omega) m1) fun z3 h3 => ?_
  obtain ⟨f3, h3⟩ := h3
  rw [nmr_q, nxp_q] at h3
  have f13 := FrZ_trans (Fr8_Z f1) f3
  cases e : nmr t p 0 (y_m s.1) with
  | error w =>
    rw [e] at h3
    rw [if_pos h3.1]
    exact OK_some ⟨f13, rfl, h3.2⟩
  | ok g =>
    rw [e] at h3
    have k1 := nmr_ok e
    have hg := ag g k1.2
    have r3 : z3.2.2.1 442 = M.2.1 442 := (f3.2.1 442 (by omega)).trans r1
    rw [h3.1, if_neg (by decide), h3.2.2, nmul'_9, nadd'_10, nadd_6, rd_i32 (by omega) (by omega), Option.bind_some, r3, hg.2.1]
    cases ep : y_p s.1 g with
    | none =>
      rw [if_pos (show eG none < 0 by decide)]
      exact OK_some ⟨f13, fun z => absurd ep z, fun _ => ⟨rfl, h3.2.1, h3.2.2⟩⟩
    | some h =>
      have v8 := (hv.2.2.2.2.2.2.2.1 g h ep).2
      rw [if_neg (show ¬ eG (some h) < 0 from fun z => (i32_neg (a := h) (by omega)).mp z), m1.2.1]
      refine OK_bind (m_fails ht h3.2.1 (k := 1) m1.2.2.2 (by omega)) fun z7 h7 => ?_
      rw [if_pos h7.1]
      exact OK_some ⟨FrZ_trans f13 h7.2.2, fun _ => ⟨rfl, h7.2.1⟩, fun z => by rw [ep] at z; cases z⟩
theorem my_pair {t : Tp} (ht : t.1 ≤ 400) {p : Nat} {s : YS} {M : mM} (hw : ¬ isw t 0 p = -1) (hv : VY s.1) (hM : MTk t (skp t p) M) (hR : RD s (M.2.1 442)) : OK (f_Model_isPairHere M) fun z => FrV M z.2 ∧ RsM t (sPair t (nxp t p) s) z := by
  have v3 := hv.2.2.1
  unfold f_Model_isPairHere
  refine OK_bind (m_passWord ht hM) fun M3 h3 => ?_
  rw [← nxp_w (by omega) hw] at h3
  have f3 := Fr8_V h3.2
  have r3 : M3.2.1 442 = M.2.1 442 := h3.2.2.1 442 (by omega)
  refine OK_bind (m_single ht hv h3.1 (by rw [r3]; exact hR)) fun z4 h4 => ?_
  obtain ⟨f4, h4⟩ := h4
  cases e1 : nmr t (nxp t p) 0 (y_m s.1) with
  | error w =>
    rw [e1] at h4
    have er : sPair t (nxp t p) s = .error w := by unfold sPair; rw [e1, ebd_e]
    rw [if_pos h4.1, er]
    exact OK_some ⟨FrV_trans f3 (FrZ_V f4), rfl, h4.2⟩
  | ok a =>
  rw [e1] at h4
  have k1 := nmr_ok e1
  by_cases c1 : y_p s.1 a ≠ none
  · have er : sPair t (nxp t p) s = .error (flt (skp t (nxp t p)) 1) := by unfold sPair; rw [e1, ebd_o, if_pos c1]
    have h4' := h4.1 c1
    rw [if_pos h4'.1, er]
    exact OK_some ⟨FrV_trans f3 (FrZ_V f4), rfl, h4'.2⟩
  have c1' : y_p s.1 a = none := Classical.byContradiction c1
  have h4' := h4.2 c1'
  rw [h4'.1, if_neg (by decide)]
  refine OK_bind (m_see ht h4'.2.1) fun z5 h5 => ?_
  obtain ⟨-, m5, f5⟩ := h5
  have r5 : z5.2.2.1 442 = M.2.1 442 := (f5.2.1 442 (by omega)).trans ((f4.2.1 442 (by omega)).trans r3)
  refine OK_bind (m_single ht hv m5 (by rw [r5]; exact hR)) fun z6 h6 => ?_
  obtain ⟨f6, h6⟩ := h6
  rw [nmr_q, nxp_q, skp_skp] at h6
  have f36 := FrV_trans f3 (FrV_trans (FrZ_V f4) (FrV_trans (Fr8_V f5) (FrZ_V f6)))
  cases e2 : nmr t (nxp t (nxp t p)) 0 (y_m s.1) with
  | error w =>
    rw [e2] at h6
    have er : sPair t (nxp t p) s = .error w := by unfold sPair; rw [e1, ebd_o, if_neg c1, e2, ebd_e]
    rw [if_pos h6.1, er]
    exact OK_some ⟨f36, rfl, h6.2⟩
  | ok b =>
  rw [e2] at h6
  have k2 := nmr_ok e2
  by_cases c2 : y_p s.1 b ≠ none
  · have er : sPair t (nxp t p) s = .error (flt (skp t (nxp t (nxp t p))) 1) := by unfold sPair; rw [e1, ebd_o, if_neg c1, e2, ebd_o, if_pos (Or.inr c2)]
    have h6' := h6.1 c2
    rw [if_pos h6'.1, er]
    exact OK_some ⟨f36, rfl, h6'.2⟩
  have c2' : y_p s.1 b = none := Classical.byContradiction c2
  have h6' := h6.2 c2'
  rw [h6'.1, if_neg (by decide), h6'.2.2, h4'.2.2]
  by_cases c3 : b = a
  · have er : sPair t (nxp t p) s = .error (flt (skp t (nxp t (nxp t p))) 1) := by unfold sPair; rw [e1, ebd_o, if_neg c1, e2, ebd_o, if_pos (Or.inl c3)]
    rw [if_pos (by rw [c3]), er, m5.2.1]
    exact bz0 (OK_imp (m_fails ht h6'.2.1 (k := 1) m5.2.2.2 (by omega)) fun z hz => ⟨hz.1, FrV_trans f36 (FrZ_V hz.2.2), rfl, hz.2.1⟩)
  · have er : sPair t (nxp t p) s = .ok (nxp t (nxp t (nxp t p)), (yPr s.1 a b, s.2)) := by unfold sPair; rw [e1, ebd_o, if_neg c1, e2, ebd_o, if_neg (fun z => z.elim c3 c2)]
    rw [if_neg (by rw [i32_eq (by omega) (by omega)]; exact c3), nmul'_9, nadd'_10, nadd_6, wr_i32 (by omega) (by omega), Option.bind_some, gIp (by omega), h6'.2.2, nmul'_9, nadd'_10, nadd_6, wr_i32 (by omega) (by omega), Option.bind_some, er]
    refine OK_some ⟨FrV_trans f36 (FrV_trans FrV_I FrV_I), rfl, MTk_I (MTk_I h6'.2.1 (by omega)) (by omega), ?_⟩
    have r6 : z6.2.2.1 442 = M.2.1 442 := (f6.2.1 442 (by omega)).trans r5
    have o : ∀ j, j ≠ 10 + 9 * a + 6 → j ≠ 10 + 9 * b + 6 → (msI (msI z6.2 442 (10 + 9 * a + 6) (i32 b)) 442 (10 + 9 * b + 6) (i32 a)).2.1 442 j = M.2.1 442 j := by
      intro j j1 j2
      rw [gIo j2, gIo j1, r6]
    obtain ⟨a0, a1, a2, a3, a5, a6, ag, ar, af⟩ := hR
    refine ⟨(o 0 (by omega) (by omega)).trans a0, (o 1 (by omega) (by omega)).trans a1, (o 2 (by omega) (by omega)).trans a2, (o 3 (by omega) (by omega)).trans a3, (o 5 (by omega) (by omega)).trans a5, (o 6 (by omega) (by omega)).trans a6, fun g hg => ?_, fun j hj => ?_, fun j hj => ?_⟩
    · obtain ⟨b1, b2, b3, b4, b5⟩ := ag g hg
      have hg' : g < y_m s.1 := hg
      obtain ⟨x0, x1, x2, x3, x4, x5, x7⟩ := b1
      refine ⟨⟨(o _ (by omega) (by omega)).trans x0, (o _ (by omega) (by omega)).trans x1, (o _ (by omega) (by omega)).trans x2, (o _ (by omega) (by omega)).trans x3, (o _ (by omega) (by omega)).trans x4, (o _ (by omega) (by omega)).trans x5, (o _ (by omega) (by omega)).trans x7⟩, ?_, (o _ (by omega) (by omega)).trans b3, (o _ (by omega) (by omega)).trans b4, (o _ (by omega) (by omega)).trans b5⟩
      show _ = eG (bup (bup (y_p s.1) a (some b)) b (some a) g)
      by_cases d1 : g = b
      · rw [d1, gIe, bup_e]; rfl
      · rw [gIo (by omega), bup_o d1]
        by_cases d2 : g = a
        · rw [d2, gIe, bup_e]; rfl
        · rw [gIo (by omega), bup_o d2, r6]
          exact b2
    · obtain ⟨b1, b2, b3⟩ := ar j hj
      exact ⟨(o _ (by omega) (by omega)).trans b1, (o _ (by omega) (by omega)).trans b2, (o _ (by omega) (by omega)).trans b3⟩
    · exact (o _ (by omega) (by omega)).trans (af j hj)
/-- is a root there, the model -/
theorem my_rt {t : Tp} (ht : t.1 ≤ 400) {s : YS} {l c q : Nat} {M : mM} {at' : Int32} {p : Nat} (hs : VYS s) (hm : y_nr s.1 < 6) (hM : MTk t p M) (hq : q ≤ t.1) (h2 : M.2.1 442 5 = i32 (y_nr s.1)) (hp : ∀ g, g < y_nr s.1 → M.2.1 442 (131 + 3 * g) = i32 (s.2 g).1 ∧ M.2.1 442 (131 + 3 * g + 1) = i32 (s.2 g).2.1) (hl : M.2.1 442 (131 + 3 * y_nr s.1) = i32 l) (hc : M.2.1 442 (131 + 3 * y_nr s.1 + 1) = i32 c) (hl2 : l < 1000) (hc2 : c < 1000) : ∀ (k i f : Nat), i + k = y_nr s.1 → k < f →
    (rlook s.2 l c k i ≠ 0 → OK (f_Model_isRootHere_88 at' f (i32 (131 + 3 * y_nr s.1)) (i32 q) (i32 i) M) fun z => FrV M z.2 ∧ z.1 = 0 ∧ MRf t (flt q 1) z.2) ∧ (rlook s.2 l c k i = 0 → ∃ f', f_Model_isRootHere_88 at' f (i32 (131 + 3 * y_nr s.1)) (i32 q) (i32 i) M = f_Model_isRootHere_88 at' (f' + 1) (i32 (131 + 3 * y_nr s.1)) (i32 q) (i32 (y_nr s.1)) M)
  | _, _, 0, _, hf => absurd hf (Nat.not_lt_zero _)
  | 0, i, f + 1, hi, hf => by
    refine ⟨fun z => absurd rfl z, fun _ => ⟨f, ?_⟩⟩
    rw [show i = y_nr s.1 by omega]
  | k + 1, i, f + 1, hi, hf => by
    have ih := my_rt ht (at' := at') hs hm hM hq h2 hp hl hc hl2 hc2 k (i + 1) f (by omega) (by omega)
    obtain ⟨p1, p2⟩ := hp i (by omega)
    obtain ⟨x1, x2, x3⟩ := hs.2.1 i (by omega)
    have e : f_Model_isRootHere_88 at' (f + 1) (i32 (131 + 3 * y_nr s.1)) (i32 q) (i32 i) M = if (s.2 i).1 = l ∧ (s.2 i).2.1 = c then ((f_Model_fails 1 (i32 q) M).bind fun r40 => if r40.1 = 0 ∨ r40.1 = 1 then some (r40.1, r40.2) else none) else f_Model_isRootHere_88 at' f (i32 (131 + 3 * y_nr s.1)) (i32 q) (i32 (i + 1)) M := by
      rw [f_Model_isRootHere_88, rd_5 (by omega) (by omega), Option.bind_some, h2, if_neg (by rw [i32_le (by omega) (by omega)]; omega), nmul'_3, nadd'_131, rd_i32 (by omega) (by omega), Option.bind_some, p1, rd_i32 (by omega) (by omega), Option.bind_some, hl]
      by_cases c1 : (s.2 i).1 = l
      · rw [if_pos (by rw [c1]), nadd_1, rd_i32 (by omega) (by omega), Option.bind_some, p2, nadd_1, rd_i32 (by omega) (by omega), Option.bind_some, hc]
        by_cases c2 : (s.2 i).2.1 = c
        · rw [if_pos (by rw [c2]), if_pos ⟨c1, c2⟩]
        · rw [if_neg (by rw [i32_eq (by omega) (by omega)]; exact c2), if_neg (fun z => c2 z.2)]
          unfold f_Model_isRootHere_154
          rw [nadd_1]
      · rw [if_neg (by rw [i32_eq (by omega) (by omega)]; exact c1), if_neg (fun z => c1 z.1)]
        unfold f_Model_isRootHere_154
        rw [nadd_1]
    rw [e, rlook_s]
    by_cases c1 : (s.2 i).1 = l ∧ (s.2 i).2.1 = c
    · rw [if_pos c1, if_pos c1]
      exact ⟨fun _ => bz0 (OK_imp (m_fails ht hM (k := 1) hq (by omega)) fun z hz => ⟨hz.1, FrZ_V hz.2.2, rfl, hz.2.1⟩), fun z => by omega⟩
    · rw [if_neg c1, if_neg c1]
      exact ih
theorem my_root {t : Tp} (ht : t.1 ≤ 400) {p : Nat} {s : YS} {M : mM} {at' : Int32} (hw : ¬ isw t 0 p = -1) (hs : VYS s) (hm : y_nr s.1 < 6) (hM : MTk t (skp t p) M) (hR : RD s (M.2.1 442)) : OK (f_Model_isRootHere at' M) fun z => FrV M z.2 ∧ RsM t (sRoot t (nxp t p) s) z := by
  have hv := hs.1
  have v1 := hv.1
  have v2 := hv.2.1
  have v3 := hv.2.2.1
  obtain ⟨a0, a1, a2, a3, a5, a6, ag, ar, af⟩ := hR
  unfold f_Model_isRootHere
  rw [rd_5 (by omega) (by omega), Option.bind_some, a5, if_neg (by rw [show (6 : Int32) = i32 6 from rfl, i32_eq (by omega) (by omega)]; omega)]
  refine OK_bind (m_passWord ht hM) fun M3 h3 => ?_
  rw [← nxp_w (by omega) hw] at h3
  have f3 := Fr8_V h3.2
  have r3 : M3.2.1 442 = M.2.1 442 := h3.2.2.1 442 (by omega)
  rw [rd_5 (by omega) (by omega), Option.bind_some, rd_0 (by omega) (by omega), Option.bind_some, r3, a5, a0, nmul'_3, nadd'_131]
  refine OK_bind (m_cell ht (lo := 0) (h := y_L s.1) (by omega) (by omega) (by omega) h3.1) fun z6 h6 => ?_
  obtain ⟨f6, h6⟩ := h6
  cases e1 : nmr t (nxp t p) 0 (y_L s.1) with
  | error w =>
    rw [e1] at h6
    have er : sRoot t (nxp t p) s = .error w := by unfold sRoot; rw [e1, ebd_e]
    rw [if_pos h6.1, er]
    exact OK_some ⟨FrV_trans f3 f6, rfl, h6.2⟩
  | ok l =>
  rw [e1] at h6
  have k1 := nmr_ok e1
  rw [h6.1, if_neg (by decide)]
  refine OK_bind (m_see ht h6.2.1) fun z8 h8 => ?_
  obtain ⟨-, m8, f8⟩ := h8
  have r8 : z8.2.2.1 442 = z6.2.2.1 442 := f8.2.1 442 (by omega)
  have o6 : ∀ j, j ≠ 131 + 3 * y_nr s.1 → z8.2.2.1 442 j = M.2.1 442 j := fun j hj => by rw [r8, h6.2.2.2 j hj, r3]
  rw [rd_1 (by omega) (by omega), Option.bind_some, o6 1 (by omega), a1, m8.2.1, nadd_1]
  refine OK_bind (m_cell ht (lo := 0) (h := y_C s.1) (by omega) (by omega) (by omega) m8) fun z10 h10 => ?_
  obtain ⟨f10, h10⟩ := h10
  rw [nmr_q, nxp_q] at h10
  cases e2 : nmr t (nxp t (nxp t p)) 0 (y_C s.1) with
  | error w =>
    rw [e2] at h10
    have er : sRoot t (nxp t p) s = .error w := by unfold sRoot; rw [e1, ebd_o, e2, ebd_e]
    rw [if_pos h10.1, er]
    exact OK_some ⟨FrV_trans f3 (FrV_trans f6 (FrV_trans (Fr8_V f8) f10)), rfl, h10.2⟩
  | ok c =>
  rw [e2] at h10
  have k2 := nmr_ok e2
  rw [h10.1, if_neg (by decide)]
  obtain ⟨-, m10, c10, o10⟩ := h10
  have f10' := FrV_trans f3 (FrV_trans f6 (FrV_trans (Fr8_V f8) f10))
  have oA : ∀ j, j ≠ 131 + 3 * y_nr s.1 → j ≠ 131 + 3 * y_nr s.1 + 1 → z10.2.2.1 442 j = M.2.1 442 j := fun j h1 h2 => (o10 j h2).trans (o6 j h1)
  have l10 : z10.2.2.1 442 (131 + 3 * y_nr s.1) = i32 l := by rw [o10 _ (by omega), r8]; exact h6.2.2.1
  have hT := my_rt ht (at' := at') (q := skp t (nxp t (nxp t p))) hs hm m10 m8.2.2.2 ((oA 5 (by omega) (by omega)).trans a5) (fun g hg => ⟨by rw [oA _ (by omega) (by omega)]; exact (ar g hg).1, by rw [oA _ (by omega) (by omega)]; exact (ar g hg).2.1⟩) l10 c10 (by omega) (by omega) (y_nr s.1) 0 FUEL (Nat.zero_add _) (by rw [FUEL_eq]; omega)
  rw [← hs.2.2 l c (by omega) (by omega)] at hT
  by_cases e3 : y_r s.1 l c ≠ 0
  · have er : sRoot t (nxp t p) s = .error (flt (skp t (nxp t (nxp t p))) 1) := by unfold sRoot; rw [e1, ebd_o, e2, ebd_o, if_pos e3]
    rw [er]
    exact OK_imp (hT.1 e3) fun z hz => ⟨FrV_trans f10' hz.1, hz.2⟩
  obtain ⟨f', ef⟩ := hT.2 (Classical.byContradiction e3)
  rw [show (0 : Int32) = i32 0 from rfl, ef, f_Model_isRootHere_88, rd_5 (by omega) (by omega), Option.bind_some, oA 5 (by omega) (by omega), a5, if_pos (by rw [i32_le (by omega) (by omega)]; omega), nadd_2]
  refine OK_bind (m_cell ht (lo := 1) (h := 10) (by omega) (by omega) (by omega) m10) fun z14 h14 => ?_
  obtain ⟨f14, h14⟩ := h14
  cases e4 : nmr t (nxp t (nxp t (nxp t p))) 1 10 with
  | error w =>
    rw [e4] at h14
    have er : sRoot t (nxp t p) s = .error w := by unfold sRoot; rw [e1, ebd_o, e2, ebd_o, if_neg e3, e4, ebd_e]
    rw [if_pos (by rw [h14.1]), er]
    exact OK_some ⟨FrV_trans f10' f14, rfl, h14.2⟩
  | ok n =>
    rw [e4] at h14
    have er : sRoot t (nxp t p) s = .ok (nxp t (nxp t (nxp t (nxp t p))), (yRt s.1 l c n, bup s.2 (y_nr s.1) (l, c, n))) := by unfold sRoot; rw [e1, ebd_o, e2, ebd_o, if_neg e3, e4, ebd_o]
    obtain ⟨w14, m14, n14, o14⟩ := h14
    have oB : ∀ j, j ≠ 131 + 3 * y_nr s.1 → j ≠ 131 + 3 * y_nr s.1 + 1 → j ≠ 131 + 3 * y_nr s.1 + 2 → z14.2.2.1 442 j = M.2.1 442 j := fun j h1 h2 h3 => (o14 j h3).trans (oA j h1 h2)
    rw [w14, if_neg (by decide), rd_5 (by omega) (by omega), Option.bind_some, oB 5 (by omega) (by omega) (by omega), a5, nadd_1, wr_5 (by omega) (by omega), Option.bind_some, er]
    refine OK_some ⟨FrV_trans f10' (FrV_trans f14 FrV_I), rfl, MTk_I m14 (by omega), ?_⟩
    have oC : ∀ j, j ≠ 5 → j ≠ 131 + 3 * y_nr s.1 → j ≠ 131 + 3 * y_nr s.1 + 1 → j ≠ 131 + 3 * y_nr s.1 + 2 → (msI z14.2 442 5 (i32 (y_nr s.1 + 1))).2.1 442 j = M.2.1 442 j := by
      intro j j0 j1 j2 j3
      rw [gIo j0, oB j j1 j2 j3]
    refine ⟨(oC 0 (by omega) (by omega) (by omega) (by omega)).trans a0, (oC 1 (by omega) (by omega) (by omega) (by omega)).trans a1, (oC 2 (by omega) (by omega) (by omega) (by omega)).trans a2, (oC 3 (by omega) (by omega) (by omega) (by omega)).trans a3, gIe _ _ _ _, (oC 6 (by omega) (by omega) (by omega) (by omega)).trans a6, fun g hg => ?_, fun j hj => ?_, fun j hj => ?_⟩
    · obtain ⟨b1, b2, b3, b4, b5⟩ := ag g hg
      have hg' : g < y_m s.1 := hg
      exact ⟨MB_of b1 fun i hi => oC _ (by omega) (by omega) (by omega) (by omega), (oC _ (by omega) (by omega) (by omega) (by omega)).trans b2, (oC _ (by omega) (by omega) (by omega) (by omega)).trans b3, (oC _ (by omega) (by omega) (by omega) (by omega)).trans b4, (oC _ (by omega) (by omega) (by omega) (by omega)).trans b5⟩
    · have hj' : j < y_nr s.1 + 1 := hj
      show _ = i32 (bup s.2 (y_nr s.1) (l, c, n) j).1 ∧ _ = i32 (bup s.2 (y_nr s.1) (l, c, n) j).2.1 ∧ _ = i32 (bup s.2 (y_nr s.1) (l, c, n) j).2.2
      by_cases d : j = y_nr s.1
      · rw [d, bup_e]
        refine ⟨?_, ?_, ?_⟩
        · rw [gIo (by omega), o14 _ (by omega)]; exact l10
        · rw [gIo (by omega), o14 _ (by omega)]; exact c10
        · rw [gIo (by omega)]; exact n14
      · rw [bup_o d]
        obtain ⟨b1, b2, b3⟩ := ar j (by omega)
        exact ⟨(oC _ (by omega) (by omega) (by omega) (by omega)).trans b1, (oC _ (by omega) (by omega) (by omega) (by omega)).trans b2, (oC _ (by omega) (by omega) (by omega) (by omega)).trans b3⟩
    · exact (oC _ (by omega) (by omega) (by omega) (by omega)).trans (af j hj)
theorem my_heavy {t : Tp} (ht : t.1 ≤ 400) {p : Nat} {s : YS} {M : mM} (hw : ¬ isw t 0 p = -1) (hv : VY s.1) (hM : MTk t (skp t p) M) (hR : RD s (M.2.1 442)) : OK (f_Model_isHeavyHere M) fun z => FrV M z.2 ∧ RsM t (sHeavy t (nxp t p) s) z := by
  have v3 := hv.2.2.1
  obtain ⟨a0, a1, a2, a3, a5, a6, ag, ar, af⟩ := hR
  unfold f_Model_isHeavyHere
  refine OK_bind (m_passWord ht hM) fun M3 h3 => ?_
  rw [← nxp_w (by omega) hw] at h3
  have f3 := Fr8_V h3.2
  have r3 : M3.2.1 442 = M.2.1 442 := h3.2.2.1 442 (by omega)
  rw [rd_2 (by omega) (by omega), Option.bind_some, r3, a2]
  refine OK_bind (m_num ht (lo := 0) (h := y_m s.1) (by omega) (by omega) h3.1) fun z4 h4 => ?_
  obtain ⟨f4, h4⟩ := h4
  cases e1 : nmr t (nxp t p) 0 (y_m s.1) with
  | error w =>
    rw [e1] at h4
    have er : sHeavy t (nxp t p) s = .error w := by unfold sHeavy; rw [e1, ebd_e]
    rw [if_pos h4.1, er]
    exact OK_some ⟨FrV_trans f3 (FrZ_V f4), rfl, h4.2⟩
  | ok g =>
    rw [e1] at h4
    have k1 := nmr_ok e1
    have er : sHeavy t (nxp t p) s = .ok (nxp t (nxp t p), (yHv s.1 g, s.2)) := by unfold sHeavy; rw [e1, ebd_o]
    rw [h4.1, if_neg (by decide), h4.2.2, nmul'_9, nadd'_10, nadd_8, wr_i32 (by omega) (by omega), Option.bind_some, er]
    refine OK_some ⟨FrV_trans f3 (FrV_trans (FrZ_V f4) FrV_I), rfl, MTk_I h4.2.1 (by omega), ?_⟩
    have r4 : z4.2.2.1 442 = M.2.1 442 := (f4.2.1 442 (by omega)).trans r3
    have o : ∀ j, j ≠ 10 + 9 * g + 8 → (msI z4.2 442 (10 + 9 * g + 8) 1).2.1 442 j = M.2.1 442 j := fun j h => by rw [gIo h, r4]
    refine ⟨(o 0 (by omega)).trans a0, (o 1 (by omega)).trans a1, (o 2 (by omega)).trans a2, (o 3 (by omega)).trans a3, (o 5 (by omega)).trans a5, (o 6 (by omega)).trans a6, fun g' hg => ?_, fun j hj => ?_, fun j hj => ?_⟩
    · obtain ⟨b1, b2, b3, b4, b5⟩ := ag g' hg
      have hg' : g' < y_m s.1 := hg
      obtain ⟨x0, x1, x2, x3, x4, x5, x7⟩ := b1
      refine ⟨⟨(o _ (by omega)).trans x0, (o _ (by omega)).trans x1, (o _ (by omega)).trans x2, (o _ (by omega)).trans x3, (o _ (by omega)).trans x4, (o _ (by omega)).trans x5, (o _ (by omega)).trans x7⟩, (o _ (by omega)).trans b2, ?_, (o _ (by omega)).trans b4, (o _ (by omega)).trans b5⟩
      show _ = e01 (bup (y_h s.1) g true g')
      by_cases d : g' = g
      · rw [d, gIe, bup_e]; rfl
      · rw [o _ (by omega), bup_o d]; exact b3
    · obtain ⟨b1, b2, b3⟩ := ar j hj
      exact ⟨(o _ (by omega)).trans b1, (o _ (by omega)).trans b2, (o _ (by omega)).trans b3⟩
    · exact (o _ (by omega)).trans (af j hj)
/-- is that flood told, the model -/
theorem my_fl {t : Tp} (ht : t.1 ≤ 400) {y : Yd} {n q : Nat} {M : mM} {at' : Int32} {p : Nat} (hv : VY y) (hm : y_nf y < 6) (hM : MTk t p M) (hq : q ≤ t.1) (h2 : M.2.1 442 6 = i32 (y_nf y)) (hp : ∀ g, g < y_nf y → M.2.1 442 (149 + g) = i32 (y_fy y g)) (hl : M.2.1 442 (149 + y_nf y) = i32 n) (hl2 : n < 1000) : ∀ (k i f : Nat), i + k = y_nf y → k < f →
    (isFl (y_fy y) n k i = true → OK (f_Model_isFloodHere_58 at' f (i32 q) (i32 i) M) fun z => FrV M z.2 ∧ z.1 = 0 ∧ MRf t (flt q 1) z.2) ∧ (isFl (y_fy y) n k i = false → ∃ f', f_Model_isFloodHere_58 at' f (i32 q) (i32 i) M = f_Model_isFloodHere_58 at' (f' + 1) (i32 q) (i32 (y_nf y)) M)
  | _, _, 0, _, hf => absurd hf (Nat.not_lt_zero _)
  | 0, i, f + 1, hi, hf => by
    refine ⟨fun z => (by cases z), fun _ => ⟨f, ?_⟩⟩
    rw [show i = y_nf y by omega]
  | k + 1, i, f + 1, hi, hf => by
    have ih := my_fl ht (at' := at') hv hm hM hq h2 hp hl hl2 k (i + 1) f (by omega) (by omega)
    have p1 := hp i (by omega)
    have v6 := hv.2.2.2.2.2.1 i (by omega)
    have e : f_Model_isFloodHere_58 at' (f + 1) (i32 q) (i32 i) M = if y_fy y i = n then ((f_Model_fails 1 (i32 q) M).bind fun r40 => if r40.1 = 0 ∨ r40.1 = 1 then some (r40.1, r40.2) else none) else f_Model_isFloodHere_58 at' f (i32 q) (i32 (i + 1)) M := by
      rw [f_Model_isFloodHere_58, rd_6 (by omega) (by omega), Option.bind_some, h2, if_neg (by rw [i32_le (by omega) (by omega)]; omega), nadd'_149, rd_i32 (by omega) (by omega), Option.bind_some, p1, Option.bind_some, nadd'_149, rd_i32 (by omega) (by omega), Option.bind_some, hl]
      by_cases c1 : y_fy y i = n
      · rw [if_pos (by rw [c1]), if_pos c1]
      · rw [if_neg (by rw [i32_eq (by omega) (by omega)]; exact c1), if_neg c1, nadd_1]
    rw [e, isFl]
    by_cases c1 : y_fy y i = n
    · rw [if_pos c1, if_pos c1]
      exact ⟨fun _ => bz0 (OK_imp (m_fails ht hM (k := 1) hq (by omega)) fun z hz => ⟨hz.1, FrZ_V hz.2.2, rfl, hz.2.1⟩), fun z => absurd z.symm Bool.false_ne_true⟩
    · rw [if_neg c1, if_neg c1]
      exact ih
theorem my_flood {t : Tp} (ht : t.1 ≤ 400) {p : Nat} {s : YS} {M : mM} {at' : Int32} (hw : ¬ isw t 0 p = -1) (hv : VY s.1) (hm : y_nf s.1 < 6) (hM : MTk t (skp t p) M) (hR : RD s (M.2.1 442)) : OK (f_Model_isFloodHere at' M) fun z => FrV M z.2 ∧ RsM t (sFlood t (nxp t p) s) z := by
  have v3 := hv.2.2.1
  have v5 := hv.2.2.2.2.1
  obtain ⟨a0, a1, a2, a3, a5, a6, ag, ar, af⟩ := hR
  unfold f_Model_isFloodHere
  rw [rd_6 (by omega) (by omega), Option.bind_some, a6, if_neg (by rw [show (6 : Int32) = i32 6 from rfl, i32_eq (by omega) (by omega)]; omega)]
  refine OK_bind (m_passWord ht hM) fun M3 h3 => ?_
  rw [← nxp_w (by omega) hw] at h3
  have f3 := Fr8_V h3.2
  have r3 : M3.2.1 442 = M.2.1 442 := h3.2.2.1 442 (by omega)
  refine OK_bind (m_see ht h3.1) fun z4 h4 => ?_
  obtain ⟨-, m4, f4⟩ := h4
  have r4 : z4.2.2.1 442 = M.2.1 442 := (f4.2.1 442 (by omega)).trans r3
  rw [rd_6 (by omega) (by omega), Option.bind_some, r4, a6, nadd'_149, m4.2.1]
  refine OK_bind (m_cell ht (lo := 0) (h := 100) (by omega) (by omega) (by omega) m4) fun z6 h6 => ?_
  obtain ⟨f6, h6⟩ := h6
  rw [nmr_q, nxp_q] at h6
  have f6' := FrV_trans f3 (FrV_trans (Fr8_V f4) f6)
  cases e1 : nmr t (nxp t p) 0 100 with
  | error w =>
    rw [e1] at h6
    have er : sFlood t (nxp t p) s = .error w := by unfold sFlood; rw [e1, ebd_e]
    rw [if_pos h6.1, er]
    exact OK_some ⟨f6', rfl, h6.2⟩
  | ok n =>
  rw [e1] at h6
  have k1 := nmr_ok e1
  obtain ⟨w6, m6, n6, o6⟩ := h6
  rw [w6, if_neg (by decide)]
  have o : ∀ j, j ≠ 149 + y_nf s.1 → z6.2.2.1 442 j = M.2.1 442 j := fun j h => (o6 j h).trans (by rw [r4])
  have hT := my_fl ht (at' := at') (q := skp t (nxp t p)) hv hm m6 m4.2.2.2 ((o 6 (by omega)).trans a6) (fun g hg => (o _ (by omega)).trans (af g hg)) n6 (by omega) (y_nf s.1) 0 FUEL (Nat.zero_add _) (by rw [FUEL_eq]; omega)
  cases e3 : flo s.1 n with
  | true =>
    have er : sFlood t (nxp t p) s = .error (flt (skp t (nxp t p)) 1) := by unfold sFlood; rw [e1, ebd_o, e3, if_pos rfl]
    rw [er]
    exact OK_imp (hT.1 e3) fun z hz => ⟨FrV_trans f6' hz.1, hz.2⟩
  | false =>
    have er : sFlood t (nxp t p) s = .ok (nxp t (nxp t p), (yFl s.1 n, s.2)) := by unfold sFlood; rw [e1, ebd_o, e3, if_neg Bool.false_ne_true]
    obtain ⟨f', ef⟩ := hT.2 e3
    rw [show (0 : Int32) = i32 0 from rfl, ef, f_Model_isFloodHere_58, rd_6 (by omega) (by omega), Option.bind_some, o 6 (by omega), a6, if_pos (by rw [i32_le (by omega) (by omega)]; omega), Option.bind_some, nadd_1, wr_6 (by omega) (by omega), Option.bind_some, er]
    refine OK_some ⟨FrV_trans f6' FrV_I, rfl, MTk_I m6 (by omega), ?_⟩
    have oC : ∀ j, j ≠ 6 → j ≠ 149 + y_nf s.1 → (msI z6.2 442 6 (i32 (y_nf s.1 + 1))).2.1 442 j = M.2.1 442 j := by
      intro j j0 j1
      rw [gIo j0, o j j1]
    refine ⟨(oC 0 (by omega) (by omega)).trans a0, (oC 1 (by omega) (by omega)).trans a1, (oC 2 (by omega) (by omega)).trans a2, (oC 3 (by omega) (by omega)).trans a3, (oC 5 (by omega) (by omega)).trans a5, gIe _ _ _ _, fun g hg => ?_, fun j hj => ?_, fun j hj => ?_⟩
    · obtain ⟨b1, b2, b3, b4, b5⟩ := ag g hg
      have hg' : g < y_m s.1 := hg
      exact ⟨MB_of b1 fun i hi => oC _ (by omega) (by omega), (oC _ (by omega) (by omega)).trans b2, (oC _ (by omega) (by omega)).trans b3, (oC _ (by omega) (by omega)).trans b4, (oC _ (by omega) (by omega)).trans b5⟩
    · obtain ⟨b1, b2, b3⟩ := ar j hj
      have hj' : j < y_nr s.1 := hj
      exact ⟨(oC _ (by omega) (by omega)).trans b1, (oC _ (by omega) (by omega)).trans b2, (oC _ (by omega) (by omega)).trans b3⟩
    · have hj' : j < y_nf s.1 + 1 := hj
      show _ = i32 (bup (y_fy s.1) (y_nf s.1) n j)
      by_cases d : j = y_nf s.1
      · rw [d, bup_e, gIo (by omega)]; exact n6
      · rw [bup_o d]
        exact (oC _ (by omega) (by omega)).trans (af j (by omega))
