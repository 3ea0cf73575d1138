/-! ===== what is kept: acts, copies ===== -/
theorem View_CSX {T S : Nat} {s : Sx} {M M' : mM} (hw : View T S M M') (h : CSX T s M) : CSX S s M' := ⟨View_CS hw h.1, View_CT hw h.1.2.2.2.1 h.2⟩
theorem c_copyX {S T : Nat} (hd : S + 10 ≤ T ∨ T + 10 ≤ S) {s : Sx} {M : mM} (h : CSX T s M) : OK (f_State_copyFrom S T M) fun M' => CSX S s M' ∧ Sm S (S + 10) M M' := OK_imp (c_copyState hd M) fun M' h' => ⟨View_CSX h'.1 h, h'.2⟩
def push (a : Nat × (Nat → Sx)) (s : Sx) : Nat × (Nat → Sx) := if a.1 < 20 then (a.1 + 1, bup a.2 a.1 s) else (20, fun j => if j = 19 then s else a.2 (j + 1))
theorem CSX_at {S S' : Nat} {s : Sx} {M : mM} (h : CSX S s M) (e : S = S') : CSX S' s M := by rw [← e]; exact h
theorem if_sm {α : Type} {y : Nat} {h : Decidable ((some y : Option Nat) = none)} {a b : α} : @ite α ((some y : Option Nat) = none) h a b = b := if_neg (fun z => by cases z)
theorem c_next {nx : Nat} {M : mM} (hn : nx < 20) (h1 : M.2.1 44 1 = i32 nx) : f_Acts_nextOne M = some (some (46 + 10 * nx), M) := by
  unfold f_Acts_nextOne
  rw [h1, if_neg (fun z => (i32_neg (a := nx) (by omega)).mp z), if_neg (by rw [show (20 : Int32) = i32 20 from rfl, i32_le (by omega) (by omega)]; omega), ix_i32 hn (by omega)]
  rfl
theorem c_keep24 {a : Nat × (Nat → Sx)} {s : Sx} {T : Nat} {M : mM} (hT : T + 10 ≤ 46 ∨ 246 ≤ T) (ha : a.1 ≤ 20) (hs : CSX T s M) (h0 : M.2.1 44 0 = i32 a.1) {nx : Nat} (hn : nx < 20) (h1 : M.2.1 44 1 = i32 nx) (h : ∀ j, j < a.1 → CSX (46 + 10 * ((nx + 20 - a.1 + j) % 20)) (a.2 j) M) : OK (f_Acts_keep T M) fun M' => CA (push a s) M' ∧ Sm 44 246 M M' := by
  unfold f_Acts_keep
  rw [c_next hn h1, Option.bind_some]
  dsimp only
  rw [if_sm, nnl_s (ar_st hn).1, Option.bind_some]
  refine OK_bind (c_copyX (S := 46 + 10 * nx) (by omega) hs) fun M1 h1' => ?_
  have e0 : M1.2.1 44 0 = i32 a.1 := (show M1.2.1 44 0 = M.2.1 44 0 by rw [Sm_i h1'.2 (by omega)]).trans h0
  have e1 : M1.2.1 44 1 = i32 nx := (show M1.2.1 44 1 = M.2.1 44 1 by rw [Sm_i h1'.2 (by omega)]).trans h1
  have en : i32 (nx + 1) - i32 (nx + 1) / 20 * 20 = i32 ((nx + 1) % 20) := by
    rw [show (20 : Int32) = i32 20 from rfl, show i32 (nx + 1) / i32 20 = i32 ((nx + 1) / 20) from i32_div_l (by omega) (by omega), i32_mul, i32_sub (by omega)]
    congr 1
    omega
  simp (disch := omega) only [i32_lt, i32_le, i32_eq, i32_add, i32_mul, i32_neg, i32_nn, i32_ne1, i32_n1e, n1_lt_i32, i32_le_n1, i32_dec, i32_cl, rd_i32, ix_i32, wr_i32, pI_s, pR_s, pC_s, pZ_0, pZ_1, Option.bind_some, ite_true, ite_false, if_true, if_false, gIL, gRI, nlt_0, l0_lt, nle_0, l0_le, neq_0, nadd_0, nmul_0, nmul'_0, nadd'_0, nsub_0, nlt_1, l1_lt, nle_1, l1_le, neq_1, nadd_1, nmul_1, nmul'_1, nadd'_1, nsub_1, nlt_2, l2_lt, nle_2, l2_le, neq_2, nadd_2, nmul_2, nmul'_2, nadd'_2, nsub_2, nlt_3, l3_lt, nle_3, l3_le, neq_3, nadd_3, nmul_3, nmul'_3, nadd'_3, nsub_3, nlt_4, l4_lt, nle_4, l4_le, neq_4, nadd_4, nmul_4, nmul'_4, nadd'_4, nsub_4, nlt_5, l5_lt, nle_5, l5_le, neq_5, nadd_5, nmul_5, nmul'_5, nadd'_5, nsub_5, nlt_6, l6_lt, nle_6, l6_le, neq_6, nadd_6, nmul_6, nmul'_6, nadd'_6, nsub_6, nlt_7, l7_lt, nle_7, l7_le, neq_7, nadd_7, nmul_7, nmul'_7, nadd'_7, nsub_7, nlt_8, l8_lt, nle_8, l8_le, neq_8, nadd_8, nmul_8, nmul'_8, nadd'_8, nsub_8, nlt_9, l9_lt, nle_9, l9_le, neq_9, nadd_9, nmul_9, nmul'_9, nadd'_9, nsub_9, nlt_10, l10_lt, nle_10, l10_le, neq_10, nadd_10, nmul_10, nmul'_10, nadd'_10, nsub_10, nlt_11, l11_lt, nle_11, l11_le, neq_11, nadd_11, nmul_11, nmul'_11, nadd'_11, nsub_11, nlt_12, l12_lt, nle_12, l12_le, neq_12, nadd_12, nmul_12, nmul'_12, nadd'_12, nsub_12, nlt_13, l13_lt, nle_13, l13_le, neq_13, nadd_13, nmul_13, nmul'_13, nadd'_13, nsub_13, nlt_20, l20_lt, nle_20, l20_le, neq_20, nadd_20, nmul_20, nmul'_20, nadd'_20, nsub_20, nlt_400, l400_lt, nle_400, l400_le, neq_400, nadd_400, nmul_400, nmul'_400, nadd'_400, nsub_400, rd_0, wr_0, rd_1, wr_1, rd_2, wr_2, rd_3, wr_3, rd_4, wr_4, rd_5, wr_5, rd_6, wr_6, rd_7, wr_7, rd_8, wr_8, rd_9, wr_9, rd_10, wr_10, rd_11, wr_11, rd_12, wr_12, gIe, gIp, gIo, gCe, gCn, gRI, gLI, gIR, gCR, gLR, gRe, gRo, gRp, gIl, nle_20, l20_lt, e0, e1, en]
  refine OK_some ⟨?_, Sm_trans (Sm_le h1'.2 (by omega) (by omega)) (Sm_trans (Sm_I (by omega)) (Sm_I (by omega)))⟩
  have hold : ∀ S s', S + 10 ≤ 46 + 10 * nx ∨ 46 + 10 * nx + 10 ≤ S → 46 ≤ S → CSX S s' M → CSX S s' M1 := fun S s' hd _ hc => CSX_of hc fun k hk => Sm_i h1'.2 (by omega)
  have up : ∀ S s' v v', 46 ≤ S → CSX S s' M1 → CSX S s' (msI (msI M1 44 1 v) 44 0 v') := fun S s' v v' hS hc => CSX_of hc fun k hk => by rw [gIp (by omega), gIp (by omega)]
  have hm := Nat.mod_lt (nx + 1) (show 0 < 20 by omega)
  unfold push
  by_cases c : a.1 < 20
  · rw [if_neg (show ¬ 20 < a.1 + 1 by omega), if_pos c]
    refine ⟨gIe _ _ _ _, (nx + 1) % 20, hm, by rw [gIo (by omega), gIe], fun j hj => ?_⟩
    show CSX _ (bup a.2 a.1 s j) _
    have e : ((nx + 1) % 20 + 20 - (a.1 + 1) + j) % 20 = (nx + 20 - a.1 + j) % 20 := by
      by_cases q : nx = 19
      · subst q; simp only [Nat.reduceAdd, Nat.reduceMod] at *; omega
      · rw [Nat.mod_eq_of_lt (show nx + 1 < 20 by omega)]; congr 1; omega
    rw [show ((nx + 1) % 20 + 20 - (a.1 + 1, bup a.2 a.1 s).1 + j) % 20 = _ from e]
    have hj' : j < a.1 + 1 := hj
    by_cases c' : j = a.1
    · subst c'
      rw [bup_e]
      refine up _ _ _ _ (by omega) (CSX_at h1'.1 ?_)
      rw [show nx + 20 - a.1 + a.1 = nx + 20 by omega, Nat.add_mod_right, Nat.mod_eq_of_lt hn]
    · rw [bup_o c']
      refine up _ _ _ _ (by omega) (hold _ _ ?_ (by omega) (h j (by omega)))
      omega
  · rw [if_neg c]
    have ha' : a.1 = 20 := by omega
    rw [ha', if_pos (show 20 < 20 + 1 by omega)]
    refine ⟨gIe _ _ _ _, (nx + 1) % 20, hm, by rw [gIo (by omega), gIe], fun j hj => ?_⟩
    have hj' : j < 20 := hj
    show CSX (46 + 10 * (((nx + 1) % 20 + 20 - 20 + j) % 20)) (if j = 19 then s else a.2 (j + 1)) _
    by_cases c' : j = 19
    · rw [if_pos c', c']
      refine up _ _ _ _ (by omega) (CSX_at h1'.1 ?_)
      omega
    · rw [if_neg c']
      have := h (j + 1) (by omega)
      rw [ha'] at this
      refine up _ _ _ _ (by omega) (CSX_at (hold _ _ ?_ (by omega) this) ?_)
      · omega
      · omega
theorem c_keep {a : Nat × (Nat → Sx)} {s : Sx} {T : Nat} {M : mM} (hT : T + 10 ≤ 44 ∨ 246 ≤ T) (ha : a.1 ≤ 20) (hs : CSX T s M) (h : CA a M) : OK (f_Acts_keep T M) fun M' => CA (push a s) M' ∧ Sm 44 246 M M' := by
  obtain ⟨h0, nx, hn, h1, h2⟩ := h
  exact c_keep24 (by omega) ha hs h0 hn h1 h2
theorem c_takeBack {a : Nat × (Nat → Sx)} {M : mM} (ha : a.1 ≤ 20) (h : CA a M) (hp : 0 < a.1) : OK (f_Acts_takeBack 29 M) fun z => z.1 = 1 ∧ CA (a.1 - 1, a.2) z.2 ∧ CSX 29 (a.2 (a.1 - 1)) z.2 ∧ ∀ p, (p < 29 ∨ 39 ≤ p) → p ≠ 44 → z.2.2.1 p = M.2.1 p ∧ z.2.2.2.2 p = M.2.2.2 p := by
  obtain ⟨h0, nx, hn, h1, h2⟩ := h
  have en : i32 (nx + 20 - 1) - i32 (nx + 20 - 1) / 20 * 20 = i32 ((nx + 19) % 20) := by
    rw [show (20 : Int32) = i32 20 from rfl, show i32 (nx + 20 - 1) / i32 20 = i32 ((nx + 20 - 1) / 20) from i32_div_l (by omega) (by omega), i32_mul, i32_sub (by omega)]
    congr 1
    omega
  have hm := Nat.mod_lt (nx + 19) (show 0 < 20 by omega)
  unfold f_Acts_takeBack
  simp (disch := omega) only [i32_lt, i32_le, i32_eq, i32_add, i32_mul, i32_neg, i32_nn, i32_ne1, i32_n1e, n1_lt_i32, i32_le_n1, i32_dec, i32_cl, rd_i32, ix_i32, wr_i32, pI_s, pR_s, pC_s, pZ_0, pZ_1, Option.bind_some, ite_true, ite_false, if_true, if_false, gIL, gRI, nlt_0, l0_lt, nle_0, l0_le, neq_0, nadd_0, nmul_0, nmul'_0, nadd'_0, nsub_0, nlt_1, l1_lt, nle_1, l1_le, neq_1, nadd_1, nmul_1, nmul'_1, nadd'_1, nsub_1, nlt_2, l2_lt, nle_2, l2_le, neq_2, nadd_2, nmul_2, nmul'_2, nadd'_2, nsub_2, nlt_3, l3_lt, nle_3, l3_le, neq_3, nadd_3, nmul_3, nmul'_3, nadd'_3, nsub_3, nlt_4, l4_lt, nle_4, l4_le, neq_4, nadd_4, nmul_4, nmul'_4, nadd'_4, nsub_4, nlt_5, l5_lt, nle_5, l5_le, neq_5, nadd_5, nmul_5, nmul'_5, nadd'_5, nsub_5, nlt_6, l6_lt, nle_6, l6_le, neq_6, nadd_6, nmul_6, nmul'_6, nadd'_6, nsub_6, nlt_7, l7_lt, nle_7, l7_le, neq_7, nadd_7, nmul_7, nmul'_7, nadd'_7, nsub_7, nlt_8, l8_lt, nle_8, l8_le, neq_8, nadd_8, nmul_8, nmul'_8, nadd'_8, nsub_8, nlt_9, l9_lt, nle_9, l9_le, neq_9, nadd_9, nmul_9, nmul'_9, nadd'_9, nsub_9, nlt_10, l10_lt, nle_10, l10_le, neq_10, nadd_10, nmul_10, nmul'_10, nadd'_10, nsub_10, nlt_11, l11_lt, nle_11, l11_le, neq_11, nadd_11, nmul_11, nmul'_11, nadd'_11, nsub_11, nlt_12, l12_lt, nle_12, l12_le, neq_12, nadd_12, nmul_12, nmul'_12, nadd'_12, nsub_12, nlt_13, l13_lt, nle_13, l13_le, neq_13, nadd_13, nmul_13, nmul'_13, nadd'_13, nsub_13, nlt_20, l20_lt, nle_20, l20_le, neq_20, nadd_20, nmul_20, nmul'_20, nadd'_20, nsub_20, nlt_400, l400_lt, nle_400, l400_le, neq_400, nadd_400, nmul_400, nmul'_400, nadd'_400, nsub_400, rd_0, wr_0, rd_1, wr_1, rd_2, wr_2, rd_3, wr_3, rd_4, wr_4, rd_5, wr_5, rd_6, wr_6, rd_7, wr_7, rd_8, wr_8, rd_9, wr_9, rd_10, wr_10, rd_11, wr_11, rd_12, wr_12, gIe, gIp, gIo, gCe, gCn, gRI, gLI, gIR, gCR, gLR, gRe, gRo, gRp, gIl, h0, h1, en]
  rw [if_pos hp, c_next hm (by rw [gIo (by omega), gIe]), Option.bind_some]
  dsimp only
  rw [if_sm, nnl_s (ar_st hm).1, Option.bind_some]
  have h3 := h2 (a.1 - 1) (by omega)
  have e3 : (nx + 20 - a.1 + (a.1 - 1)) % 20 = (nx + 19) % 20 := by congr 1; omega
  rw [e3] at h3
  have h5 : CSX (46 + 10 * ((nx + 19) % 20)) (a.2 (a.1 - 1)) (msI (msI M 44 1 (i32 ((nx + 19) % 20))) 44 0 (i32 (a.1 - 1))) := CSX_of h3 fun k hk => by rw [gIp (by omega), gIp (by omega)]
  refine OK_bind (c_copyX (S := 29) (by omega) h5) fun M1 h4 => ?_
  refine OK_some ⟨rfl, ⟨?_, (nx + 19) % 20, hm, ?_, fun j hj => ?_⟩, h4.1, fun p hp1 hp2 => ?_⟩
  · show M1.2.1 44 0 = _
    rw [Sm_i h4.2 (by omega), gIe]
  · show M1.2.1 44 1 = _
    rw [Sm_i h4.2 (by omega), gIo (by omega), gIe]
  · have hj' : j < a.1 - 1 := hj
    show CSX (46 + 10 * (((nx + 19) % 20 + 20 - (a.1 - 1) + j) % 20)) (a.2 j) M1
    have e : ((nx + 19) % 20 + 20 - (a.1 - 1) + j) % 20 = (nx + 20 - a.1 + j) % 20 := by
      by_cases q : nx = 0
      · subst q; simp only [Nat.zero_add, Nat.reduceMod] at *; omega
      · rw [show (nx + 19) % 20 = nx - 1 by omega]; omega
    rw [e]
    exact CSX_of (h2 j (by omega)) fun k hk => by rw [Sm_i h4.2 (by omega), gIp (by omega), gIp (by omega)]
  · refine ⟨?_, ?_⟩
    · show M1.2.1 p = _
      rw [Sm_i h4.2 (by omega), gIp (by omega), gIp (by omega)]
    · show M1.2.2.2 p = _
      rw [Sm_r h4.2 (by omega)]
      rfl
/-! the model's copies -/
theorem m_keeps2 {M0 : mM} : ∀ (k i f : Nat) (M : mM), i + k = 131 → k < f → Sm 450 451 M0 M → (∀ j, j < i → M.2.1 450 j = M0.2.1 446 j) → M.2.2.1 = M0.2.2.1 → OK (f_Model_keeps_2 f (i32 i) M) fun M' => Sm 450 451 M0 M' ∧ (∀ j, j < 131 → M'.2.1 450 j = M0.2.1 446 j) ∧ M'.2.2.1 = M0.2.2.1
  | _, _, 0, _, _, hf, _, _, _ => absurd hf (Nat.not_lt_zero _)
  | 0, i, f + 1, M, hi, hf, hS, h, hl => by
    unfold f_Model_keeps_2
    simp (disch := omega) only [i32_lt, i32_le, i32_eq, i32_add, i32_mul, i32_neg, i32_nn, i32_ne1, i32_n1e, n1_lt_i32, i32_le_n1, i32_dec, i32_cl, rd_i32, ix_i32, wr_i32, pI_s, pR_s, pC_s, pZ_0, pZ_1, Option.bind_some, ite_true, ite_false, if_true, if_false, gIL, gRI, nlt_0, l0_lt, nle_0, l0_le, neq_0, nadd_0, nmul_0, nmul'_0, nadd'_0, nsub_0, nlt_1, l1_lt, nle_1, l1_le, neq_1, nadd_1, nmul_1, nmul'_1, nadd'_1, nsub_1, nlt_2, l2_lt, nle_2, l2_le, neq_2, nadd_2, nmul_2, nmul'_2, nadd'_2, nsub_2, nlt_3, l3_lt, nle_3, l3_le, neq_3, nadd_3, nmul_3, nmul'_3, nadd'_3, nsub_3, nlt_4, l4_lt, nle_4, l4_le, neq_4, nadd_4, nmul_4, nmul'_4, nadd'_4, nsub_4, nlt_5, l5_lt, nle_5, l5_le, neq_5, nadd_5, nmul_5, nmul'_5, nadd'_5, nsub_5, nlt_6, l6_lt, nle_6, l6_le, neq_6, nadd_6, nmul_6, nmul'_6, nadd'_6, nsub_6, nlt_7, l7_lt, nle_7, l7_le, neq_7, nadd_7, nmul_7, nmul'_7, nadd'_7, nsub_7, nlt_8, l8_lt, nle_8, l8_le, neq_8, nadd_8, nmul_8, nmul'_8, nadd'_8, nsub_8, nlt_9, l9_lt, nle_9, l9_le, neq_9, nadd_9, nmul_9, nmul'_9, nadd'_9, nsub_9, nlt_10, l10_lt, nle_10, l10_le, neq_10, nadd_10, nmul_10, nmul'_10, nadd'_10, nsub_10, nlt_11, l11_lt, nle_11, l11_le, neq_11, nadd_11, nmul_11, nmul'_11, nadd'_11, nsub_11, nlt_12, l12_lt, nle_12, l12_le, neq_12, nadd_12, nmul_12, nmul'_12, nadd'_12, nsub_12, nlt_13, l13_lt, nle_13, l13_le, neq_13, nadd_13, nmul_13, nmul'_13, nadd'_13, nsub_13, nlt_20, l20_lt, nle_20, l20_le, neq_20, nadd_20, nmul_20, nmul'_20, nadd'_20, nsub_20, nlt_400, l400_lt, nle_400, l400_le, neq_400, nadd_400, nmul_400, nmul'_400, nadd'_400, nsub_400, rd_0, wr_0, rd_1, wr_1, rd_2, wr_2, rd_3, wr_3, rd_4, wr_4, rd_5, wr_5, rd_6, wr_6, rd_7, wr_7, rd_8, wr_8, rd_9, wr_9, rd_10, wr_10, rd_11, wr_11, rd_12, wr_12, nlt_131, l131_lt, nle_131, l131_le, neq_131, nadd_131, nmul_131, nmul'_131, nadd'_131, nsub_131]
    rw [if_pos (by omega)]
    exact OK_some ⟨hS, fun j hj => h j (by omega), hl⟩
  | k + 1, i, f + 1, M, hi, hf, hS, h, hl => by
    unfold f_Model_keeps_2
    simp (disch := omega) only [i32_lt, i32_le, i32_eq, i32_add, i32_mul, i32_neg, i32_nn, i32_ne1, i32_n1e, n1_lt_i32, i32_le_n1, i32_dec, i32_cl, rd_i32, ix_i32, wr_i32, pI_s, pR_s, pC_s, pZ_0, pZ_1, Option.bind_some, ite_true, ite_false, if_true, if_false, gIL, gRI, nlt_0, l0_lt, nle_0, l0_le, neq_0, nadd_0, nmul_0, nmul'_0, nadd'_0, nsub_0, nlt_1, l1_lt, nle_1, l1_le, neq_1, nadd_1, nmul_1, nmul'_1, nadd'_1, nsub_1, nlt_2, l2_lt, nle_2, l2_le, neq_2, nadd_2, nmul_2, nmul'_2, nadd'_2, nsub_2, nlt_3, l3_lt, nle_3, l3_le, neq_3, nadd_3, nmul_3, nmul'_3, nadd'_3, nsub_3, nlt_4, l4_lt, nle_4, l4_le, neq_4, nadd_4, nmul_4, nmul'_4, nadd'_4, nsub_4, nlt_5, l5_lt, nle_5, l5_le, neq_5, nadd_5, nmul_5, nmul'_5, nadd'_5, nsub_5, nlt_6, l6_lt, nle_6, l6_le, neq_6, nadd_6, nmul_6, nmul'_6, nadd'_6, nsub_6, nlt_7, l7_lt, nle_7, l7_le, neq_7, nadd_7, nmul_7, nmul'_7, nadd'_7, nsub_7, nlt_8, l8_lt, nle_8, l8_le, neq_8, nadd_8, nmul_8, nmul'_8, nadd'_8, nsub_8, nlt_9, l9_lt, nle_9, l9_le, neq_9, nadd_9, nmul_9, nmul'_9, nadd'_9, nsub_9, nlt_10, l10_lt, nle_10, l10_le, neq_10, nadd_10, nmul_10, nmul'_10, nadd'_10, nsub_10, nlt_11, l11_lt, nle_11, l11_le, neq_11, nadd_11, nmul_11, nmul'_11, nadd'_11, nsub_11, nlt_12, l12_lt, nle_12, l12_le, neq_12, nadd_12, nmul_12, nmul'_12, nadd'_12, nsub_12, nlt_13, l13_lt, nle_13, l13_le, neq_13, nadd_13, nmul_13, nmul'_13, nadd'_13, nsub_13, nlt_20, l20_lt, nle_20, l20_le, neq_20, nadd_20, nmul_20, nmul'_20, nadd'_20, nsub_20, nlt_400, l400_lt, nle_400, l400_le, neq_400, nadd_400, nmul_400, nmul'_400, nadd'_400, nsub_400, rd_0, wr_0, rd_1, wr_1, rd_2, wr_2, rd_3, wr_3, rd_4, wr_4, rd_5, wr_5, rd_6, wr_6, rd_7, wr_7, rd_8, wr_8, rd_9, wr_9, rd_10, wr_10, rd_11, wr_11, rd_12, wr_12, nlt_131, l131_lt, nle_131, l131_le, neq_131, nadd_131, nmul_131, nmul'_131, nadd'_131, nsub_131]
    rw [if_neg (by omega)]
    refine m_keeps2 k (i + 1) f _ (by omega) (by omega) (Sm_trans hS (Sm_I (by omega))) (fun j hj => ?_) hl
    by_cases c : j = i
    · subst c
      rw [gIe, Sm_i hS (by omega)]
    · rw [gIo c]
      exact h j (by omega)
theorem m_keeps (M : mM) : OK (f_Model_keeps M) fun M' => Sm 450 451 M M' ∧ (∀ j, j < 131 → M'.2.1 450 j = M.2.1 446 j) ∧ M'.2.2.1 = M.2.2.1 :=
  m_keeps2 131 0 FUEL M rfl (by rw [FUEL_eq]; omega) (Sm_refl _ _ _) (fun j hj => by omega) rfl
theorem m_lays2 {M0 : mM} : ∀ (k i f : Nat) (M : mM), i + k = 131 → k < f → Sm 446 447 M0 M → (∀ j, j < i → M.2.1 446 j = M0.2.1 450 j) → (∀ j, i ≤ j → M.2.1 446 j = M0.2.1 446 j) → M.2.2.1 = M0.2.2.1 → OK (f_Model_laysBack_2 f (i32 i) M) fun M' => Sm 446 447 M0 M' ∧ (∀ j, j < 131 → M'.2.1 446 j = M0.2.1 450 j) ∧ (∀ j, 131 ≤ j → M'.2.1 446 j = M0.2.1 446 j) ∧ M'.2.2.1 = M0.2.2.1
  | _, _, 0, _, _, hf, _, _, _, _ => absurd hf (Nat.not_lt_zero _)
  | 0, i, f + 1, M, hi, hf, hS, h, h', hl => by
    unfold f_Model_laysBack_2
    simp (disch := omega) only [i32_lt, i32_le, i32_eq, i32_add, i32_mul, i32_neg, i32_nn, i32_ne1, i32_n1e, n1_lt_i32, i32_le_n1, i32_dec, i32_cl, rd_i32, ix_i32, wr_i32, pI_s, pR_s, pC_s, pZ_0, pZ_1, Option.bind_some, ite_true, ite_false, if_true, if_false, gIL, gRI, nlt_0, l0_lt, nle_0, l0_le, neq_0, nadd_0, nmul_0, nmul'_0, nadd'_0, nsub_0, nlt_1, l1_lt, nle_1, l1_le, neq_1, nadd_1, nmul_1, nmul'_1, nadd'_1, nsub_1, nlt_2, l2_lt, nle_2, l2_le, neq_2, nadd_2, nmul_2, nmul'_2, nadd'_2, nsub_2, nlt_3, l3_lt, nle_3, l3_le, neq_3, nadd_3, nmul_3, nmul'_3, nadd'_3, nsub_3, nlt_4, l4_lt, nle_4, l4_le, neq_4, nadd_4, nmul_4, nmul'_4, nadd'_4, nsub_4, nlt_5, l5_lt, nle_5, l5_le, neq_5, nadd_5, nmul_5, nmul'_5, nadd'_5, nsub_5, nlt_6, l6_lt, nle_6, l6_le, neq_6, nadd_6, nmul_6, nmul'_6, nadd'_6, nsub_6, nlt_7, l7_lt, nle_7, l7_le, neq_7, nadd_7, nmul_7, nmul'_7, nadd'_7, nsub_7, nlt_8, l8_lt, nle_8, l8_le, neq_8, nadd_8, nmul_8, nmul'_8, nadd'_8, nsub_8, nlt_9, l9_lt, nle_9, l9_le, neq_9, nadd_9, nmul_9, nmul'_9, nadd'_9, nsub_9, nlt_10, l10_lt, nle_10, l10_le, neq_10, nadd_10, nmul_10, nmul'_10, nadd'_10, nsub_10, nlt_11, l11_lt, nle_11, l11_le, neq_11, nadd_11, nmul_11, nmul'_11, nadd'_11, nsub_11, nlt_12, l12_lt, nle_12, l12_le, neq_12, nadd_12, nmul_12, nmul'_12, nadd'_12, nsub_12, nlt_13, l13_lt, nle_13, l13_le, neq_13, nadd_13, nmul_13, nmul'_13, nadd'_13, nsub_13, nlt_20, l20_lt, nle_20, l20_le, neq_20, nadd_20, nmul_20, nmul'_20, nadd'_20, nsub_20, nlt_400, l400_lt, nle_400, l400_le, neq_400, nadd_400, nmul_400, nmul'_400, nadd'_400, nsub_400, rd_0, wr_0, rd_1, wr_1, rd_2, wr_2, rd_3, wr_3, rd_4, wr_4, rd_5, wr_5, rd_6, wr_6, rd_7, wr_7, rd_8, wr_8, rd_9, wr_9, rd_10, wr_10, rd_11, wr_11, rd_12, wr_12, nlt_131, l131_lt, nle_131, l131_le, neq_131, nadd_131, nmul_131, nmul'_131, nadd'_131, nsub_131]
    rw [if_pos (by omega)]
    exact OK_some ⟨hS, fun j hj => h j (by omega), fun j hj => h' j (by omega), hl⟩
  | k + 1, i, f + 1, M, hi, hf, hS, h, h', hl => by
    unfold f_Model_laysBack_2
    simp (disch := omega) only [i32_lt, i32_le, i32_eq, i32_add, i32_mul, i32_neg, i32_nn, i32_ne1, i32_n1e, n1_lt_i32, i32_le_n1, i32_dec, i32_cl, rd_i32, ix_i32, wr_i32, pI_s, pR_s, pC_s, pZ_0, pZ_1, Option.bind_some, ite_true, ite_false, if_true, if_false, gIL, gRI, nlt_0, l0_lt, nle_0, l0_le, neq_0, nadd_0, nmul_0, nmul'_0, nadd'_0, nsub_0, nlt_1, l1_lt, nle_1, l1_le, neq_1, nadd_1, nmul_1, nmul'_1, nadd'_1, nsub_1, nlt_2, l2_lt, nle_2, l2_le, neq_2, nadd_2, nmul_2, nmul'_2, nadd'_2, nsub_2, nlt_3, l3_lt, nle_3, l3_le, neq_3, nadd_3, nmul_3, nmul'_3, nadd'_3, nsub_3, nlt_4, l4_lt, nle_4, l4_le, neq_4, nadd_4, nmul_4, nmul'_4, nadd'_4, nsub_4, nlt_5, l5_lt, nle_5, l5_le, neq_5, nadd_5, nmul_5, nmul'_5, nadd'_5, nsub_5, nlt_6, l6_lt, nle_6, l6_le, neq_6, nadd_6, nmul_6, nmul'_6, nadd'_6, nsub_6, nlt_7, l7_lt, nle_7, l7_le, neq_7, nadd_7, nmul_7, nmul'_7, nadd'_7, nsub_7, nlt_8, l8_lt, nle_8, l8_le, neq_8, nadd_8, nmul_8, nmul'_8, nadd'_8, nsub_8, nlt_9, l9_lt, nle_9, l9_le, neq_9, nadd_9, nmul_9, nmul'_9, nadd'_9, nsub_9, nlt_10, l10_lt, nle_10, l10_le, neq_10, nadd_10, nmul_10, nmul'_10, nadd'_10, nsub_10, nlt_11, l11_lt, nle_11, l11_le, neq_11, nadd_11, nmul_11, nmul'_11, nadd'_11, nsub_11, nlt_12, l12_lt, nle_12, l12_le, neq_12, nadd_12, nmul_12, nmul'_12, nadd'_12, nsub_12, nlt_13, l13_lt, nle_13, l13_le, neq_13, nadd_13, nmul_13, nmul'_13, nadd'_13, nsub_13, nlt_20, l20_lt, nle_20, l20_le, neq_20, nadd_20, nmul_20, nmul'_20, nadd'_20, nsub_20, nlt_400, l400_lt, nle_400, l400_le, neq_400, nadd_400, nmul_400, nmul'_400, nadd'_400, nsub_400, rd_0, wr_0, rd_1, wr_1, rd_2, wr_2, rd_3, wr_3, rd_4, wr_4, rd_5, wr_5, rd_6, wr_6, rd_7, wr_7, rd_8, wr_8, rd_9, wr_9, rd_10, wr_10, rd_11, wr_11, rd_12, wr_12, nlt_131, l131_lt, nle_131, l131_le, neq_131, nadd_131, nmul_131, nmul'_131, nadd'_131, nsub_131]
    rw [if_neg (by omega)]
    refine m_lays2 k (i + 1) f _ (by omega) (by omega) (Sm_trans hS (Sm_I (by omega))) (fun j hj => ?_) (fun j hj => ?_) hl
    · by_cases c : j = i
      · subst c
        rw [gIe, Sm_i hS (by omega)]
      · rw [gIo c]
        exact h j (by omega)
    · rw [gIo (by omega)]
      exact h' j (by omega)
theorem m_laysBack (M : mM) : OK (f_Model_laysBack M) fun M' => Sm 446 447 M M' ∧ (∀ j, j < 131 → M'.2.1 446 j = M.2.1 450 j) ∧ (∀ j, 131 ≤ j → M'.2.1 446 j = M.2.1 446 j) ∧ M'.2.2.1 = M.2.2.1 :=
  m_lays2 131 0 FUEL M rfl (by rw [FUEL_eq]; omega) (Sm_refl _ _ _) (fun j hj => by omega) (fun _ _ => rfl) rfl
theorem m_act54 {M0 : mM} {u : Nat} (hu : u < 20) (h0 : M0.2.1 436 30 = i32 u) : ∀ (k i f : Nat) (M : mM), i + k = 131 → k < f → Sm 449 450 M0 M → (∀ j, j < i → M.2.1 449 (131 * u + j) = M0.2.1 446 j) → (∀ j, j < 131 * u → M.2.1 449 j = M0.2.1 449 j) → OK (f_Model_keepsAct_54 f (i32 i) M) fun M' => (∀ p, p ≠ 436 → p ≠ 449 → M'.2.1 p = M0.2.1 p) ∧ Sm 436 450 M0 M' ∧ (∀ j, j ≠ 30 → M'.2.1 436 j = M0.2.1 436 j) ∧ M'.2.1 436 30 = i32 (u + 1) ∧ (∀ j, j < 131 → M'.2.1 449 (131 * u + j) = M0.2.1 446 j) ∧ ∀ j, j < 131 * u → M'.2.1 449 j = M0.2.1 449 j
  | _, _, 0, _, _, hf, _, _, _ => absurd hf (Nat.not_lt_zero _)
  | 0, i, f + 1, M, hi, hf, hS, h, h' => by
    have e : M.2.1 436 30 = i32 u := by rw [Sm_i hS (by omega)]; exact h0
    unfold f_Model_keepsAct_54
    simp (disch := omega) only [i32_lt, i32_le, i32_eq, i32_add, i32_mul, i32_neg, i32_nn, i32_ne1, i32_n1e, n1_lt_i32, i32_le_n1, i32_dec, i32_cl, rd_i32, ix_i32, wr_i32, pI_s, pR_s, pC_s, pZ_0, pZ_1, Option.bind_some, ite_true, ite_false, if_true, if_false, gIL, gRI, nlt_0, l0_lt, nle_0, l0_le, neq_0, nadd_0, nmul_0, nmul'_0, nadd'_0, nsub_0, nlt_1, l1_lt, nle_1, l1_le, neq_1, nadd_1, nmul_1, nmul'_1, nadd'_1, nsub_1, nlt_2, l2_lt, nle_2, l2_le, neq_2, nadd_2, nmul_2, nmul'_2, nadd'_2, nsub_2, nlt_3, l3_lt, nle_3, l3_le, neq_3, nadd_3, nmul_3, nmul'_3, nadd'_3, nsub_3, nlt_4, l4_lt, nle_4, l4_le, neq_4, nadd_4, nmul_4, nmul'_4, nadd'_4, nsub_4, nlt_5, l5_lt, nle_5, l5_le, neq_5, nadd_5, nmul_5, nmul'_5, nadd'_5, nsub_5, nlt_6, l6_lt, nle_6, l6_le, neq_6, nadd_6, nmul_6, nmul'_6, nadd'_6, nsub_6, nlt_7, l7_lt, nle_7, l7_le, neq_7, nadd_7, nmul_7, nmul'_7, nadd'_7, nsub_7, nlt_8, l8_lt, nle_8, l8_le, neq_8, nadd_8, nmul_8, nmul'_8, nadd'_8, nsub_8, nlt_9, l9_lt, nle_9, l9_le, neq_9, nadd_9, nmul_9, nmul'_9, nadd'_9, nsub_9, nlt_10, l10_lt, nle_10, l10_le, neq_10, nadd_10, nmul_10, nmul'_10, nadd'_10, nsub_10, nlt_11, l11_lt, nle_11, l11_le, neq_11, nadd_11, nmul_11, nmul'_11, nadd'_11, nsub_11, nlt_12, l12_lt, nle_12, l12_le, neq_12, nadd_12, nmul_12, nmul'_12, nadd'_12, nsub_12, nlt_13, l13_lt, nle_13, l13_le, neq_13, nadd_13, nmul_13, nmul'_13, nadd'_13, nsub_13, nlt_20, l20_lt, nle_20, l20_le, neq_20, nadd_20, nmul_20, nmul'_20, nadd'_20, nsub_20, nlt_400, l400_lt, nle_400, l400_le, neq_400, nadd_400, nmul_400, nmul'_400, nadd'_400, nsub_400, rd_0, wr_0, rd_1, wr_1, rd_2, wr_2, rd_3, wr_3, rd_4, wr_4, rd_5, wr_5, rd_6, wr_6, rd_7, wr_7, rd_8, wr_8, rd_9, wr_9, rd_10, wr_10, rd_11, wr_11, rd_12, wr_12, nlt_131, l131_lt, nle_131, l131_le, neq_131, nadd_131, nmul_131, nmul'_131, nadd'_131, nsub_131, e]
    rw [if_pos (by omega)]
    refine OK_some ⟨fun p hp1 hp2 => by rw [gIp (by omega), Sm_i hS (by omega)], Sm_trans (Sm_le hS (by omega) (by omega)) (Sm_I (by omega)), fun j hj => by rw [gIo hj, Sm_i hS (by omega)], gIe _ _ _ _, fun j hj => by rw [gIp (by omega)]; exact h j (by omega), fun j hj => by rw [gIp (by omega)]; exact h' j hj⟩
  | k + 1, i, f + 1, M, hi, hf, hS, h, h' => by
    have e : M.2.1 436 30 = i32 u := by rw [Sm_i hS (by omega)]; exact h0
    unfold f_Model_keepsAct_54
    simp (disch := omega) only [i32_lt, i32_le, i32_eq, i32_add, i32_mul, i32_neg, i32_nn, i32_ne1, i32_n1e, n1_lt_i32, i32_le_n1, i32_dec, i32_cl, rd_i32, ix_i32, wr_i32, pI_s, pR_s, pC_s, pZ_0, pZ_1, Option.bind_some, ite_true, ite_false, if_true, if_false, gIL, gRI, nlt_0, l0_lt, nle_0, l0_le, neq_0, nadd_0, nmul_0, nmul'_0, nadd'_0, nsub_0, nlt_1, l1_lt, nle_1, l1_le, neq_1, nadd_1, nmul_1, nmul'_1, nadd'_1, nsub_1, nlt_2, l2_lt, nle_2, l2_le, neq_2, nadd_2, nmul_2, nmul'_2, nadd'_2, nsub_2, nlt_3, l3_lt, nle_3, l3_le, neq_3, nadd_3, nmul_3, nmul'_3, nadd'_3, nsub_3, nlt_4, l4_lt, nle_4, l4_le, neq_4, nadd_4, nmul_4, nmul'_4, nadd'_4, nsub_4, nlt_5, l5_lt, nle_5, l5_le, neq_5, nadd_5, nmul_5, nmul'_5, nadd'_5, nsub_5, nlt_6, l6_lt, nle_6, l6_le, neq_6, nadd_6, nmul_6, nmul'_6, nadd'_6, nsub_6, nlt_7, l7_lt, nle_7, l7_le, neq_7, nadd_7, nmul_7, nmul'_7, nadd'_7, nsub_7, nlt_8, l8_lt, nle_8, l8_le, neq_8, nadd_8, nmul_8, nmul'_8, nadd'_8, nsub_8, nlt_9, l9_lt, nle_9, l9_le, neq_9, nadd_9, nmul_9, nmul'_9, nadd'_9, nsub_9, nlt_10, l10_lt, nle_10, l10_le, neq_10, nadd_10, nmul_10, nmul'_10, nadd'_10, nsub_10, nlt_11, l11_lt, nle_11, l11_le, neq_11, nadd_11, nmul_11, nmul'_11, nadd'_11, nsub_11, nlt_12, l12_lt, nle_12, l12_le, neq_12, nadd_12, nmul_12, nmul'_12, nadd'_12, nsub_12, nlt_13, l13_lt, nle_13, l13_le, neq_13, nadd_13, nmul_13, nmul'_13, nadd'_13, nsub_13, nlt_20, l20_lt, nle_20, l20_le, neq_20, nadd_20, nmul_20, nmul'_20, nadd'_20, nsub_20, nlt_400, l400_lt, nle_400, l400_le, neq_400, nadd_400, nmul_400, nmul'_400, nadd'_400, nsub_400, rd_0, wr_0, rd_1, wr_1, rd_2, wr_2, rd_3, wr_3, rd_4, wr_4, rd_5, wr_5, rd_6, wr_6, rd_7, wr_7, rd_8, wr_8, rd_9, wr_9, rd_10, wr_10, rd_11, wr_11, rd_12, wr_12, nlt_131, l131_lt, nle_131, l131_le, neq_131, nadd_131, nmul_131, nmul'_131, nadd'_131, nsub_131, e]
    rw [if_neg (by omega)]
    refine m_act54 hu h0 k (i + 1) f _ (by omega) (by omega) (Sm_trans hS (Sm_I (by omega))) (fun j hj => ?_) fun j hj => ?_
    · by_cases c : j = i
      · subst c
        rw [gIe, Sm_i hS (by omega)]
      · rw [gIo (by omega)]
        exact h j (by omega)
    · rw [gIo (by omega)]
      exact h' j hj
theorem m_act13 {M0 : mM} (h0 : M0.2.1 436 30 = 20) : ∀ (k i f : Nat) (M : mM), i + k = 2620 → 131 ≤ i → k + 140 < f → Sm 449 450 M0 M → (∀ j, j + 131 < i → M.2.1 449 j = M0.2.1 449 (j + 131)) → (∀ j, i ≤ j + 131 → M.2.1 449 j = M0.2.1 449 j) → OK (f_Model_keepsAct_13 f (i32 i) M) fun M' => (∀ p, p ≠ 436 → p ≠ 449 → M'.2.1 p = M0.2.1 p) ∧ Sm 436 450 M0 M' ∧ (∀ j, j ≠ 30 → M'.2.1 436 j = M0.2.1 436 j) ∧ M'.2.1 436 30 = 20 ∧ (∀ j, j < 131 → M'.2.1 449 (2489 + j) = M0.2.1 446 j) ∧ ∀ j, j < 2489 → M'.2.1 449 j = M0.2.1 449 (j + 131)
  | _, _, 0, _, _, _, hf, _, _, _ => absurd hf (Nat.not_lt_zero _)
  | 0, i, f + 1, M, hi, hi1, hf, hS, h, h' => by
    have e : M.2.1 436 30 = i32 20 := by rw [Sm_i hS (by omega)]; exact h0
    unfold f_Model_keepsAct_13
    simp (disch := omega) only [i32_lt, i32_le, i32_eq, i32_add, i32_mul, i32_neg, i32_nn, i32_ne1, i32_n1e, n1_lt_i32, i32_le_n1, i32_dec, i32_cl, rd_i32, ix_i32, wr_i32, pI_s, pR_s, pC_s, pZ_0, pZ_1, Option.bind_some, ite_true, ite_false, if_true, if_false, gIL, gRI, nlt_0, l0_lt, nle_0, l0_le, neq_0, nadd_0, nmul_0, nmul'_0, nadd'_0, nsub_0, nlt_1, l1_lt, nle_1, l1_le, neq_1, nadd_1, nmul_1, nmul'_1, nadd'_1, nsub_1, nlt_2, l2_lt, nle_2, l2_le, neq_2, nadd_2, nmul_2, nmul'_2, nadd'_2, nsub_2, nlt_3, l3_lt, nle_3, l3_le, neq_3, nadd_3, nmul_3, nmul'_3, nadd'_3, nsub_3, nlt_4, l4_lt, nle_4, l4_le, neq_4, nadd_4, nmul_4, nmul'_4, nadd'_4, nsub_4, nlt_5, l5_lt, nle_5, l5_le, neq_5, nadd_5, nmul_5, nmul'_5, nadd'_5, nsub_5, nlt_6, l6_lt, nle_6, l6_le, neq_6, nadd_6, nmul_6, nmul'_6, nadd'_6, nsub_6, nlt_7, l7_lt, nle_7, l7_le, neq_7, nadd_7, nmul_7, nmul'_7, nadd'_7, nsub_7, nlt_8, l8_lt, nle_8, l8_le, neq_8, nadd_8, nmul_8, nmul'_8, nadd'_8, nsub_8, nlt_9, l9_lt, nle_9, l9_le, neq_9, nadd_9, nmul_9, nmul'_9, nadd'_9, nsub_9, nlt_10, l10_lt, nle_10, l10_le, neq_10, nadd_10, nmul_10, nmul'_10, nadd'_10, nsub_10, nlt_11, l11_lt, nle_11, l11_le, neq_11, nadd_11, nmul_11, nmul'_11, nadd'_11, nsub_11, nlt_12, l12_lt, nle_12, l12_le, neq_12, nadd_12, nmul_12, nmul'_12, nadd'_12, nsub_12, nlt_13, l13_lt, nle_13, l13_le, neq_13, nadd_13, nmul_13, nmul'_13, nadd'_13, nsub_13, nlt_20, l20_lt, nle_20, l20_le, neq_20, nadd_20, nmul_20, nmul'_20, nadd'_20, nsub_20, nlt_400, l400_lt, nle_400, l400_le, neq_400, nadd_400, nmul_400, nmul'_400, nadd'_400, nsub_400, rd_0, wr_0, rd_1, wr_1, rd_2, wr_2, rd_3, wr_3, rd_4, wr_4, rd_5, wr_5, rd_6, wr_6, rd_7, wr_7, rd_8, wr_8, rd_9, wr_9, rd_10, wr_10, rd_11, wr_11, rd_12, wr_12, nlt_2620, l2620_lt, nle_2620, l2620_le, neq_2620, nadd_2620, nmul_2620, nmul'_2620, nadd'_2620, nsub_2620, nlt_131, l131_lt, nle_131, l131_le, neq_131, nadd_131, nmul_131, nmul'_131, nadd'_131, nsub_131, e]
    rw [if_pos (by omega)]
    unfold f_Model_keepsAct_52
    have h1 : Sm 436 450 M0 (msI M 436 30 (i32 (20 - 1))) := Sm_trans (Sm_le hS (by omega) (by omega)) (Sm_I (by omega))
    refine OK_imp (m_act54 (M0 := msI M 436 30 (i32 (20 - 1))) (u := 19) (by omega) (gIe _ _ _ _) 131 0 FUEL _ rfl (by rw [FUEL_eq]; omega) (Sm_refl _ _ _) (fun j hj => by omega) fun _ _ => rfl) fun M' hM => ?_
    obtain ⟨q1, q2, q3, q4, q5, q6⟩ := hM
    refine ⟨fun p hp1 hp2 => by rw [q1 p hp1 hp2, gIp (by omega), Sm_i hS (by omega)], Sm_trans h1 q2, fun j hj => by rw [q3 j hj, gIo hj, Sm_i hS (by omega)], q4, fun j hj => ?_, fun j hj => ?_⟩
    · have := q5 j hj
      rw [gIp (by omega), Sm_i hS (by omega)] at this
      exact this
    · rw [q6 j (by omega), gIp (by omega)]
      exact h j (by omega)
  | k + 1, i, f + 1, M, hi, hi1, hf, hS, h, h' => by
    unfold f_Model_keepsAct_13
    simp (disch := omega) only [i32_lt, i32_le, i32_eq, i32_add, i32_mul, i32_neg, i32_nn, i32_ne1, i32_n1e, n1_lt_i32, i32_le_n1, i32_dec, i32_cl, rd_i32, ix_i32, wr_i32, pI_s, pR_s, pC_s, pZ_0, pZ_1, Option.bind_some, ite_true, ite_false, if_true, if_false, gIL, gRI, nlt_0, l0_lt, nle_0, l0_le, neq_0, nadd_0, nmul_0, nmul'_0, nadd'_0, nsub_0, nlt_1, l1_lt, nle_1, l1_le, neq_1, nadd_1, nmul_1, nmul'_1, nadd'_1, nsub_1, nlt_2, l2_lt, nle_2, l2_le, neq_2, nadd_2, nmul_2, nmul'_2, nadd'_2, nsub_2, nlt_3, l3_lt, nle_3, l3_le, neq_3, nadd_3, nmul_3, nmul'_3, nadd'_3, nsub_3, nlt_4, l4_lt, nle_4, l4_le, neq_4, nadd_4, nmul_4, nmul'_4, nadd'_4, nsub_4, nlt_5, l5_lt, nle_5, l5_le, neq_5, nadd_5, nmul_5, nmul'_5, nadd'_5, nsub_5, nlt_6, l6_lt, nle_6, l6_le, neq_6, nadd_6, nmul_6, nmul'_6, nadd'_6, nsub_6, nlt_7, l7_lt, nle_7, l7_le, neq_7, nadd_7, nmul_7, nmul'_7, nadd'_7, nsub_7, nlt_8, l8_lt, nle_8, l8_le, neq_8, nadd_8, nmul_8, nmul'_8, nadd'_8, nsub_8, nlt_9, l9_lt, nle_9, l9_le, neq_9, nadd_9, nmul_9, nmul'_9, nadd'_9, nsub_9, nlt_10, l10_lt, nle_10, l10_le, neq_10, nadd_10, nmul_10, nmul'_10, nadd'_10, nsub_10, nlt_11, l11_lt, nle_11, l11_le, neq_11, nadd_11, nmul_11, nmul'_11, nadd'_11, nsub_11, nlt_12, l12_lt, nle_12, l12_le, neq_12, nadd_12, nmul_12, nmul'_12, nadd'_12, nsub_12, nlt_13, l13_lt, nle_13, l13_le, neq_13, nadd_13, nmul_13, nmul'_13, nadd'_13, nsub_13, nlt_20, l20_lt, nle_20, l20_le, neq_20, nadd_20, nmul_20, nmul'_20, nadd'_20, nsub_20, nlt_400, l400_lt, nle_400, l400_le, neq_400, nadd_400, nmul_400, nmul'_400, nadd'_400, nsub_400, rd_0, wr_0, rd_1, wr_1, rd_2, wr_2, rd_3, wr_3, rd_4, wr_4, rd_5, wr_5, rd_6, wr_6, rd_7, wr_7, rd_8, wr_8, rd_9, wr_9, rd_10, wr_10, rd_11, wr_11, rd_12, wr_12, nlt_2620, l2620_lt, nle_2620, l2620_le, neq_2620, nadd_2620, nmul_2620, nmul'_2620, nadd'_2620, nsub_2620, nlt_131, l131_lt, nle_131, l131_le, neq_131, nadd_131, nmul_131, nmul'_131, nadd'_131, nsub_131]
    rw [if_neg (by omega)]
    refine m_act13 h0 k (i + 1) f _ (by omega) (by omega) (by omega) (Sm_trans hS (Sm_I (by omega))) (fun j hj => ?_) fun j hj => ?_
    · by_cases c : j = i - 131
      · have e1 : M0.2.1 449 i = M0.2.1 449 (j + 131) := congrArg _ (by omega)
        rw [c, ← c, ← e1, c]
        exact (gIe _ _ _ _).trans (h' i (by omega))
      · rw [gIo c]
        exact h j (by omega)
    · rw [gIo (by omega)]
      exact h' j (by omega)
theorem MSX_ex {y : Yd} {s : Sx} {F F' : Nat → Int32} (h : MSX y s F) (e : ∀ i, i < 131 → F' i = F i) : MSX y s F' := MSX_of h e
theorem m_keepsAct {y : Yd} {a : Nat × (Nat → Sx)} {s : Sx} {M : mM} (ha : a.1 ≤ 20) (hs : MSX y s (M.2.1 446)) (h : MA y a M) : OK (f_Model_keepsAct M) fun M' => MA y (push a s) M' ∧ (∀ p, p ≠ 436 → p ≠ 449 → M'.2.1 p = M.2.1 p) ∧ Sm 436 450 M M' ∧ ∀ j, j ≠ 30 → M'.2.1 436 j = M.2.1 436 j := by
  obtain ⟨h0, h1⟩ := h
  unfold f_Model_keepsAct push
  rw [h0]
  simp (disch := omega) only [neq_20]
  by_cases c : a.1 < 20
  · rw [if_neg (by omega), if_pos c]
    unfold f_Model_keepsAct_52
    refine OK_imp (m_act54 (M0 := M) c h0 131 0 FUEL _ rfl (by rw [FUEL_eq]; omega) (Sm_refl _ _ _) (fun j hj => by omega) fun _ _ => rfl) fun M' hM => ?_
    obtain ⟨q1, q2, q3, q4, q5, q6⟩ := hM
    refine ⟨⟨q4, fun j hj => ?_⟩, q1, q2, q3⟩
    have hj' : j < a.1 + 1 := hj
    show MSX y (bup a.2 a.1 s j) _
    by_cases c' : j = a.1
    · subst c'
      rw [bup_e]
      exact MSX_of hs fun i hi => q5 i hi
    · rw [bup_o c']
      exact MSX_of (h1 j (by omega)) fun i hi => q6 _ (by omega)
  · have ha' : a.1 = 20 := by omega
    rw [if_pos ha', if_neg c]
    refine OK_imp (m_act13 (M0 := M) (by rw [h0, ha']; rfl) 2489 131 FUEL M (by omega) (by omega) (by rw [FUEL_eq]; omega) (Sm_refl _ _ _) (fun j hj => by omega) fun _ _ => rfl) fun M' hM => ?_
    obtain ⟨q1, q2, q3, q4, q5, q6⟩ := hM
    refine ⟨⟨q4, fun j hj => ?_⟩, q1, q2, q3⟩
    have hj' : j < 20 := hj
    show MSX y (if j = 19 then s else a.2 (j + 1)) _
    by_cases c' : j = 19
    · rw [if_pos c', c']
      exact MSX_of hs fun i hi => q5 i hi
    · rw [if_neg c']
      refine MSX_of (h1 (j + 1) (by omega)) fun i hi => ?_
      rw [q6 _ (by omega), show 131 * j + i + 131 = 131 * (j + 1) + i by omega]
theorem m_undo21 {M0 : mM} {u : Nat} (hu : u < 20) (h0 : M0.2.1 436 30 = i32 u) : ∀ (k i f : Nat) (M : mM), i + k = 131 → k < f → Sm 446 447 M0 M → (∀ j, j < i → M.2.1 446 j = M0.2.1 449 (131 * u + j)) → (∀ j, i ≤ j → M.2.1 446 j = M0.2.1 446 j) → OK (f_Model_undo_21 f (i32 i) M) fun z => z.1 = i32 u ∧ Sm 446 447 M0 z.2 ∧ (∀ j, j < 131 → z.2.2.1 446 j = M0.2.1 449 (131 * u + j)) ∧ ∀ j, 131 ≤ j → z.2.2.1 446 j = M0.2.1 446 j
  | _, _, 0, _, _, hf, _, _, _ => absurd hf (Nat.not_lt_zero _)
  | 0, i, f + 1, M, hi, hf, hS, h, h' => by
    have e : M.2.1 436 30 = i32 u := by rw [Sm_i hS (by omega)]; exact h0
    unfold f_Model_undo_21
    simp (disch := omega) only [i32_lt, i32_le, i32_eq, i32_add, i32_mul, i32_neg, i32_nn, i32_ne1, i32_n1e, n1_lt_i32, i32_le_n1, i32_dec, i32_cl, rd_i32, ix_i32, wr_i32, pI_s, pR_s, pC_s, pZ_0, pZ_1, Option.bind_some, ite_true, ite_false, if_true, if_false, gIL, gRI, nlt_0, l0_lt, nle_0, l0_le, neq_0, nadd_0, nmul_0, nmul'_0, nadd'_0, nsub_0, nlt_1, l1_lt, nle_1, l1_le, neq_1, nadd_1, nmul_1, nmul'_1, nadd'_1, nsub_1, nlt_2, l2_lt, nle_2, l2_le, neq_2, nadd_2, nmul_2, nmul'_2, nadd'_2, nsub_2, nlt_3, l3_lt, nle_3, l3_le, neq_3, nadd_3, nmul_3, nmul'_3, nadd'_3, nsub_3, nlt_4, l4_lt, nle_4, l4_le, neq_4, nadd_4, nmul_4, nmul'_4, nadd'_4, nsub_4, nlt_5, l5_lt, nle_5, l5_le, neq_5, nadd_5, nmul_5, nmul'_5, nadd'_5, nsub_5, nlt_6, l6_lt, nle_6, l6_le, neq_6, nadd_6, nmul_6, nmul'_6, nadd'_6, nsub_6, nlt_7, l7_lt, nle_7, l7_le, neq_7, nadd_7, nmul_7, nmul'_7, nadd'_7, nsub_7, nlt_8, l8_lt, nle_8, l8_le, neq_8, nadd_8, nmul_8, nmul'_8, nadd'_8, nsub_8, nlt_9, l9_lt, nle_9, l9_le, neq_9, nadd_9, nmul_9, nmul'_9, nadd'_9, nsub_9, nlt_10, l10_lt, nle_10, l10_le, neq_10, nadd_10, nmul_10, nmul'_10, nadd'_10, nsub_10, nlt_11, l11_lt, nle_11, l11_le, neq_11, nadd_11, nmul_11, nmul'_11, nadd'_11, nsub_11, nlt_12, l12_lt, nle_12, l12_le, neq_12, nadd_12, nmul_12, nmul'_12, nadd'_12, nsub_12, nlt_13, l13_lt, nle_13, l13_le, neq_13, nadd_13, nmul_13, nmul'_13, nadd'_13, nsub_13, nlt_20, l20_lt, nle_20, l20_le, neq_20, nadd_20, nmul_20, nmul'_20, nadd'_20, nsub_20, nlt_400, l400_lt, nle_400, l400_le, neq_400, nadd_400, nmul_400, nmul'_400, nadd'_400, nsub_400, rd_0, wr_0, rd_1, wr_1, rd_2, wr_2, rd_3, wr_3, rd_4, wr_4, rd_5, wr_5, rd_6, wr_6, rd_7, wr_7, rd_8, wr_8, rd_9, wr_9, rd_10, wr_10, rd_11, wr_11, rd_12, wr_12, nlt_131, l131_lt, nle_131, l131_le, neq_131, nadd_131, nmul_131, nmul'_131, nadd'_131, nsub_131, e]
    rw [if_pos (by omega)]
    exact OK_some ⟨rfl, hS, fun j hj => h j (by omega), fun j hj => h' j (by omega)⟩
  | k + 1, i, f + 1, M, hi, hf, hS, h, h' => by
    have e : M.2.1 436 30 = i32 u := by rw [Sm_i hS (by omega)]; exact h0
    unfold f_Model_undo_21
    simp (disch := omega) only [i32_lt, i32_le, i32_eq, i32_add, i32_mul, i32_neg, i32_nn, i32_ne1, i32_n1e, n1_lt_i32, i32_le_n1, i32_dec, i32_cl, rd_i32, ix_i32, wr_i32, pI_s, pR_s, pC_s, pZ_0, pZ_1, Option.bind_some, ite_true, ite_false, if_true, if_false, gIL, gRI, nlt_0, l0_lt, nle_0, l0_le, neq_0, nadd_0, nmul_0, nmul'_0, nadd'_0, nsub_0, nlt_1, l1_lt, nle_1, l1_le, neq_1, nadd_1, nmul_1, nmul'_1, nadd'_1, nsub_1, nlt_2, l2_lt, nle_2, l2_le, neq_2, nadd_2, nmul_2, nmul'_2, nadd'_2, nsub_2, nlt_3, l3_lt, nle_3, l3_le, neq_3, nadd_3, nmul_3, nmul'_3, nadd'_3, nsub_3, nlt_4, l4_lt, nle_4, l4_le, neq_4, nadd_4, nmul_4, nmul'_4, nadd'_4, nsub_4, nlt_5, l5_lt, nle_5, l5_le, neq_5, nadd_5, nmul_5, nmul'_5, nadd'_5, nsub_5, nlt_6, l6_lt, nle_6, l6_le, neq_6, nadd_6, nmul_6, nmul'_6, nadd'_6, nsub_6, nlt_7, l7_lt, nle_7, l7_le, neq_7, nadd_7, nmul_7, nmul'_7, nadd'_7, nsub_7, nlt_8, l8_lt, nle_8, l8_le, neq_8, nadd_8, nmul_8, nmul'_8, nadd'_8, nsub_8, nlt_9, l9_lt, nle_9, l9_le, neq_9, nadd_9, nmul_9, nmul'_9, nadd'_9, nsub_9, nlt_10, l10_lt, nle_10, l10_le, neq_10, nadd_10, nmul_10, nmul'_10, nadd'_10, nsub_10, nlt_11, l11_lt, nle_11, l11_le, neq_11, nadd_11, nmul_11, nmul'_11, nadd'_11, nsub_11, nlt_12, l12_lt, nle_12, l12_le, neq_12, nadd_12, nmul_12, nmul'_12, nadd'_12, nsub_12, nlt_13, l13_lt, nle_13, l13_le, neq_13, nadd_13, nmul_13, nmul'_13, nadd'_13, nsub_13, nlt_20, l20_lt, nle_20, l20_le, neq_20, nadd_20, nmul_20, nmul'_20, nadd'_20, nsub_20, nlt_400, l400_lt, nle_400, l400_le, neq_400, nadd_400, nmul_400, nmul'_400, nadd'_400, nsub_400, rd_0, wr_0, rd_1, wr_1, rd_2, wr_2, rd_3, wr_3, rd_4, wr_4, rd_5, wr_5, rd_6, wr_6, rd_7, wr_7, rd_8, wr_8, rd_9, wr_9, rd_10, wr_10, rd_11, wr_11, rd_12, wr_12, nlt_131, l131_lt, nle_131, l131_le, neq_131, nadd_131, nmul_131, nmul'_131, nadd'_131, nsub_131, e]
    rw [if_neg (by omega)]
    refine m_undo21 hu h0 k (i + 1) f _ (by omega) (by omega) (Sm_trans hS (Sm_I (by omega))) (fun j hj => ?_) fun j hj => ?_
    · by_cases c : j = i
      · subst c
        rw [gIe, Sm_i hS (by omega)]
      · rw [gIo c]
        exact h j (by omega)
    · rw [gIo (by omega)]
      exact h' j (by omega)
theorem m_undo {y : Yd} {a : Nat × (Nat → Sx)} {M : mM} (ha : a.1 ≤ 20) (h : MA y a M) (hp : 0 < a.1) : OK (f_Model_undo M) fun z => z.1 = i32 (a.1 - 1) ∧ MA y (a.1 - 1, a.2) z.2 ∧ MSX y (a.2 (a.1 - 1)) (z.2.2.1 446) ∧ (∀ j, 131 ≤ j → z.2.2.1 446 j = M.2.1 446 j) ∧ (∀ p, p ≠ 436 → p ≠ 446 → z.2.2.1 p = M.2.1 p) ∧ Sm 436 457 M z.2 ∧ ∀ j, j ≠ 30 → z.2.2.1 436 j = M.2.1 436 j := by
  obtain ⟨h0, h1⟩ := h
  unfold f_Model_undo
  simp (disch := omega) only [i32_lt, i32_le, i32_eq, i32_add, i32_mul, i32_neg, i32_nn, i32_ne1, i32_n1e, n1_lt_i32, i32_le_n1, i32_dec, i32_cl, rd_i32, ix_i32, wr_i32, pI_s, pR_s, pC_s, pZ_0, pZ_1, Option.bind_some, ite_true, ite_false, if_true, if_false, gIL, gRI, nlt_0, l0_lt, nle_0, l0_le, neq_0, nadd_0, nmul_0, nmul'_0, nadd'_0, nsub_0, nlt_1, l1_lt, nle_1, l1_le, neq_1, nadd_1, nmul_1, nmul'_1, nadd'_1, nsub_1, nlt_2, l2_lt, nle_2, l2_le, neq_2, nadd_2, nmul_2, nmul'_2, nadd'_2, nsub_2, nlt_3, l3_lt, nle_3, l3_le, neq_3, nadd_3, nmul_3, nmul'_3, nadd'_3, nsub_3, nlt_4, l4_lt, nle_4, l4_le, neq_4, nadd_4, nmul_4, nmul'_4, nadd'_4, nsub_4, nlt_5, l5_lt, nle_5, l5_le, neq_5, nadd_5, nmul_5, nmul'_5, nadd'_5, nsub_5, nlt_6, l6_lt, nle_6, l6_le, neq_6, nadd_6, nmul_6, nmul'_6, nadd'_6, nsub_6, nlt_7, l7_lt, nle_7, l7_le, neq_7, nadd_7, nmul_7, nmul'_7, nadd'_7, nsub_7, nlt_8, l8_lt, nle_8, l8_le, neq_8, nadd_8, nmul_8, nmul'_8, nadd'_8, nsub_8, nlt_9, l9_lt, nle_9, l9_le, neq_9, nadd_9, nmul_9, nmul'_9, nadd'_9, nsub_9, nlt_10, l10_lt, nle_10, l10_le, neq_10, nadd_10, nmul_10, nmul'_10, nadd'_10, nsub_10, nlt_11, l11_lt, nle_11, l11_le, neq_11, nadd_11, nmul_11, nmul'_11, nadd'_11, nsub_11, nlt_12, l12_lt, nle_12, l12_le, neq_12, nadd_12, nmul_12, nmul'_12, nadd'_12, nsub_12, nlt_13, l13_lt, nle_13, l13_le, neq_13, nadd_13, nmul_13, nmul'_13, nadd'_13, nsub_13, nlt_20, l20_lt, nle_20, l20_le, neq_20, nadd_20, nmul_20, nmul'_20, nadd'_20, nsub_20, nlt_400, l400_lt, nle_400, l400_le, neq_400, nadd_400, nmul_400, nmul'_400, nadd'_400, nsub_400, rd_0, wr_0, rd_1, wr_1, rd_2, wr_2, rd_3, wr_3, rd_4, wr_4, rd_5, wr_5, rd_6, wr_6, rd_7, wr_7, rd_8, wr_8, rd_9, wr_9, rd_10, wr_10, rd_11, wr_11, rd_12, wr_12, h0]
  rw [if_neg (by omega)]
  refine OK_imp (m_undo21 (M0 := msI M 436 30 (i32 (a.1 - 1))) (u := a.1 - 1) (by omega) (gIe _ _ _ _) 131 0 FUEL _ rfl (by rw [FUEL_eq]; omega) (Sm_refl _ _ _) (fun j hj => by omega) fun _ _ => rfl) fun z hz => ?_
  obtain ⟨q1, q2, q3, q4⟩ := hz
  refine ⟨q1, ⟨?_, fun j hj => ?_⟩, MSX_of (h1 _ (by omega)) fun i hi => ?_, fun j hj => ?_, fun p hp1 hp2 => ?_, Sm_trans (Sm_I (by omega)) (Sm_le q2 (by omega) (by omega)), fun j hj => ?_⟩
  · show z.2.2.1 436 30 = _
    rw [Sm_i q2 (by omega), gIe]
  · have hj' : j < a.1 - 1 := hj
    rw [Sm_i q2 (by omega), gIp (by omega)]
    exact h1 j (by omega)
  · rw [q3 i hi, gIp (by omega)]
  · rw [q4 j hj, gIp (by omega)]
  · rw [Sm_i q2 (by omega), gIp (by omega)]
  · rw [Sm_i q2 (by omega), gIo hj]
