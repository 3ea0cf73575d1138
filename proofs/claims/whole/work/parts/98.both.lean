/-! ===== the call rule: the model, both ===== -/
def FrMz (x : Nat) (M M' : mM) : Prop := M'.2.2 = M.2.2 ∧ (∀ p, p ≠ 436 → p ≠ 438 → p ≠ 439 → p ≠ 440 → p ≠ 441 → p ≠ 443 → M'.2.1 p = M.2.1 p) ∧ (∀ i, i ≠ 1 → i ≠ 8 → i ≠ 9 → i ≠ 10 → i ≠ 12 → i ≠ 13 → i ≠ 14 → i ≠ 16 → M'.2.1 436 i = M.2.1 436 i) ∧ (∀ j, j < 400 * x ∨ 400 * x + 400 ≤ j → M'.2.1 438 j = M.2.1 438 j) ∧ (∀ j, j < 48 * x ∨ 48 * x + 48 ≤ j → M'.2.1 440 j = M.2.1 440 j) ∧ (∀ j, j ≠ x → M'.2.1 441 j = M.2.1 441 j) ∧ M'.2.1 436 1 = 0
theorem FrMr_z {x : Nat} {M M' M'' : mM} (h : FrMr x M M') (h1 : FrYd M' M'') (e : M''.2.1 442 = M'.2.1 442) : FrMz x M M'' := by
  obtain ⟨a1, a2, a3, a4, a5, a6⟩ := h
  obtain ⟨b1, b2, b3, b4⟩ := h1
  refine ⟨b1.trans a1, fun p x1 x2 x3 x4 x5 x6 => ?_, fun i x1 x8 x9 x10 x12 x13 x14 x16 => (b3 i x1 x8 x9 x10 x14).trans (a3 i x8 x9 x10 x12 x13 x14 x16), fun j hj => ?_, fun j hj => ?_, fun j hj => ?_, b4⟩
  · by_cases c : p = 442
    · rw [c, e]; exact a2 442 (by omega) (by omega) (by omega) (by omega) (by omega) (by omega)
    · rw [b2 p x1 c]; exact a2 p x1 x2 x3 x4 x5 x6
  · rw [b2 438 (by omega) (by omega)]; exact a4 j hj
  · rw [b2 440 (by omega) (by omega)]; exact a5 j hj
  · rw [b2 441 (by omega) (by omega)]; exact a6 j hj
def RsNr (x : Nat) (M0 : mM) (r : Except Nat (List Cl)) (z : Int32 × mM) : Prop := FrMz x M0 z.2 ∧ match r with
  | .error w => z.1 = 0 ∧ z.2.2.1 436 9 = i32 w
  | .ok R => z.1 = 1 ∧ MRl x R z.2 ∧ ∀ c, c ∈ R → Cw c
theorem m_rend {x : Nat} {t : Tp} {w : Nat} {M0 : mM} {z : Int32 × mM} (h : BRm x t w M0 z) (f : Nat) : OK (f_Model_readsAll_35 (f + 1) z.1 z.2) (RsNr x M0 (.error w)) := by
  obtain ⟨h1, h2, h3⟩ := h
  obtain ⟨p1, p2, p3, p4⟩ := h2
  rw [h1, f_Model_readsAll_35, if_pos rfl]
  unfold f_Model_readsAll_66
  rw [if_pos rfl, m_end88 p1, if_neg (by rw [p2, show (0 : Int32) = i32 0 from rfl, i32_eq (by omega) (by omega)]; omega)]
  exact OK_some ⟨FrMr_z h3 (FrYd_1 (FrW_refl z.2)) (gIp (by omega)), rfl, by rw [gIo (by omega)]; exact p2⟩
theorem m_rloop {x : Nat} (hx : x < 6) {t : Tp} (ht : t.1 ≤ 400) (hT : OKT t) {M0 : mM} : ∀ (k p m f : Nat) (R : List Cl) (l : List Oq) (M : mM), R.length + k = 12 → k + 2 < f → p ≤ t.1 → m ≤ 60 → l.length ≤ p → (∀ c, c ∈ R → Cw c) → M.2.1 436 14 = i32 R.length → CqM x t p m R l M0 M → OK (f_Model_readsAll_35 f 1 M) (RsNr x M0 (ebd (mor t p) fun o => obd o (.ok R) fun p' => sRule t (k + 1) R.length p' m R))
  | _, _, _, 0, _, _, _, _, hf, _, _, _, _, _, _ => absurd hf (Nat.not_lt_zero _)
  | k, p, m, f + 1, R, l, M, hk, hf, hp, hm, hl, hR, h14, h => by
    obtain ⟨f, rfl⟩ : ∃ f', f = f' + 1 := ⟨f - 1, by omega⟩
    rw [f_Model_readsAll_35, if_neg (by decide)]
    refine OK_bind (m_seeS ht h.1) fun z14 k14 => ?_
    obtain ⟨v14, m14, f14⟩ := k14
    have g14 := CqM_8 (p' := p) h (Or.inr m14) f14
    have b59 : (z14.1 = 59) = (sgn t p 59 = true) := by rw [v14]; exact byv_sgn hT (by decide) (by decide) (by decide)
    by_cases c : sgn t p 59 = true
    · have hn := sgn_gt c
      have hk0 : ¬ knd t (skp t p) = 0 := by rw [sgn_3 c]; decide
      have em : mor t p = .ok (some (nxp t p)) := by unfold mor; rw [if_neg hk0, if_pos c]
      have e9 := nxp_sgn (by decide) (by decide) (by decide) (by decide) c
      rw [if_pos (by rw [b59]; exact c), pI_s, Option.bind_some, m14.2.1, nadd_1, ← e9, em, ebd_o, obd_s, sRule]
      have gN : CqM x t (nxp t p) m R l M0 (msI z14.2 436 8 (i32 (nxp t p))) := CqM_8 g14 (Or.inl (MTk_at m14 hn.2)) Fr8_I
      refine OK_bind (m_rclause hx ht hT (by omega) hn.2 hm (by omega) (by rw [gIo (by omega), f14.2.2 14 (by omega)]; exact h14) gN) fun z17 h17 => ?_
      cases e : sClaR t R.length (nxp t p) m with
      | error w =>
        rw [e] at h17
        rw [ebd_e]
        exact m_rend h17 f
      | ok q =>
        obtain ⟨c', p', m'⟩ := q
        rw [e] at h17
        obtain ⟨u1, u2, u3⟩ := h17
        have u2 : CqM x t p' m' (R ++ [c']) (l ++ c'.1 ++ zl c'.2) M0 z17.2 := u2
        have kc : R.length < 12 ∧ sCls t (nxp t (nxp t p)) m = .ok (c', p', m') := by
          unfold sClaR at e
          by_cases w : isw t 2 (nxp t p) = -1
          · rw [if_pos w] at e; cases e
          · rw [if_neg w] at e
            by_cases c12 : 12 ≤ R.length
            · rw [if_pos c12] at e; cases e
            · rw [if_neg c12] at e; exact ⟨by omega, e⟩
        have hle := nxp_ge t (nxp t p)
        obtain ⟨z1, z2, z3, z4, z5⟩ := sCls_ok (b := l.length) (by omega) kc.2
        have z2 : l.length + c'.1.length + (zl c'.2).length ≤ p' := z2
        have z3 : p' ≤ t.1 := z3
        have z4 : m' ≤ 60 := z4
        have hlen : (R ++ [c']).length = R.length + 1 := by rw [List.length_append]; rfl
        have hR' : ∀ c, c ∈ R ++ [c'] → Cw c := fun c hc => by
          rw [List.mem_append, List.mem_singleton] at hc
          rcases hc with hc | hc
          · exact hR c hc
          · rw [hc]; exact z1
        obtain ⟨k, rfl⟩ : ∃ k', k = k' + 1 := ⟨k - 1, by omega⟩
        rw [ebd_o, u1]
        dsimp only
        rw [← hlen]
        exact m_rloop hx ht hT k p' m' (f + 1) (R ++ [c']) _ z17.2 (by rw [hlen]; omega) (by omega) z3 z4 (by rw [List.length_append, List.length_append]; omega) hR' (by rw [hlen]; exact u3) u2
    · rw [if_neg (by rw [b59]; exact c)]
      obtain ⟨q1, q2, q3, q4, q5, q6, q7, q8⟩ := g14
      refine OK_imp (m_fin ht hT m14 (by unfold sgn; rw [skp_skp]; exact c)) fun z hz => ?_
      obtain ⟨e1, e2, e3, e4⟩ := hz
      rw [skp_skp] at e3 e4
      refine ⟨FrMr_z q8 e1 e2, ?_⟩
      have b2 : ∀ p, p ≠ 436 → p ≠ 442 → z.2.2.1 p = z14.2.2.1 p := e1.2.1
      by_cases d : knd t (skp t p) = 0
      · have em : mor t p = .ok none := by unfold mor; rw [if_pos d]
        rw [em, ebd_o, obd_n]
        refine ⟨e3 d, ⟨by rw [b2 441 (by omega) (by omega)]; exact q5, by omega, by omega, ofm_of R 0 0 (fun j _ _ => by rw [b2 440 (by omega) (by omega)]) (fun j _ _ => by rw [b2 438 (by omega) (by omega)]) q6⟩, hR⟩
      · have em : mor t p = .error (flt (skp t p) 0) := by unfold mor; rw [if_neg d, if_neg c]
        rw [em, ebd_e]
        exact e4 d
  termination_by _ _ _ f => f
theorem m_readsR {x : Nat} (hx : x < 6) {t : Tp} (ht : t.1 ≤ 400) (hT : OKT t) {M : mM} (hP : MP t M) (h11 : M.2.1 436 11 = i32 x) (h41 : M.2.1 441 x = 0) : OK (f_Model_readsAll M) (RsNr x M (sRule t 13 0 0 0 [])) := by
  unfold f_Model_readsAll
  rw [h11, wr_i32 (by omega) (by omega), Option.bind_some, pI_s, Option.bind_some, pI_s, Option.bind_some, pI_s, Option.bind_some, pI_s, Option.bind_some]
  obtain ⟨M5, hM5⟩ : ∃ M5, M5 = msI (msI (msI (msI (msI M 439 x 0) 436 14 0) 436 8 0) 436 9 0) 436 12 0 := ⟨_, rfl⟩
  rw [← hM5]
  have fA : M5.2.2 = M.2.2 ∧ (∀ p, p ≠ 436 → p ≠ 439 → M5.2.1 p = M.2.1 p) ∧ (∀ i, i ≠ 8 → i ≠ 9 → i ≠ 12 → i ≠ 14 → M5.2.1 436 i = M.2.1 436 i) := by
    rw [hM5]
    refine ⟨rfl, fun p a b => ?_, fun i a b c d => ?_⟩
    · rw [gIp a, gIp a, gIp a, gIp a, gIp b]
    · rw [gIo c, gIo b, gIo a, gIo d, gIp (by omega)]
  have x14 : M5.2.1 436 14 = 0 := by rw [hM5, gIo (by omega), gIo (by omega), gIo (by omega), gIe]
  have x8 : M5.2.1 436 8 = 0 := by rw [hM5, gIo (by omega), gIo (by omega), gIe]
  have x9 : M5.2.1 436 9 = 0 := by rw [hM5, gIo (by omega), gIe]
  have x12 : M5.2.1 436 12 = 0 := by rw [hM5, gIe]
  have x39 : M5.2.1 439 x = 0 := by rw [hM5, gIp (by omega), gIp (by omega), gIp (by omega), gIp (by omega), gIe]
  clear hM5
  have mT : MTk t 0 M5 := by
    refine ⟨⟨?_, ?_⟩, x8, x9, Nat.zero_le _⟩
    · rw [fA.2.2 1 (by omega) (by omega) (by omega) (by omega)]; exact hP.1
    · rw [fA.2.1 437 (by omega) (by omega)]; exact hP.2
  have fr0 : FrMr x M M5 := ⟨fA.1, fun p a _ b _ _ _ => fA.2.1 p a b, fun i a b _ c _ d _ => fA.2.2 i a b c d, fun j _ => by rw [fA.2.1 438 (by omega) (by omega)], fun j _ => by rw [fA.2.1 440 (by omega) (by omega)], fun j _ => by rw [fA.2.1 441 (by omega) (by omega)]⟩
  have g5 : CqM x t 0 0 [] [] M M5 := ⟨Or.inl mT, ⟨x39, True.intro⟩, x12, by rw [fA.2.2 11 (by omega) (by omega) (by omega) (by omega)]; exact h11, by rw [fA.2.1 441 (by omega) (by omega)]; exact h41, True.intro, rfl, fr0⟩
  refine OK_bind (m_rclause hx ht hT (R := []) (by show 0 ≤ 12; omega) (Nat.zero_le _) (Nat.zero_le _) (Nat.le_refl _) x14 g5) fun z6 h6 => ?_
  rw [sRule]
  have h6 : RsKm x t [] [] M (i32 (0 + 1)) (sClaR t 0 0 0) z6 := h6
  cases e : sClaR t 0 0 0 with
  | error w =>
    rw [e] at h6
    rw [ebd_e, show FUEL = 99999 + 1 from rfl]
    exact m_rend h6 99999
  | ok q =>
    obtain ⟨c', p', m'⟩ := q
    rw [e] at h6
    obtain ⟨u1, u2, u3⟩ := h6
    have u2 : CqM x t p' m' ([] ++ [c']) ([] ++ c'.1 ++ zl c'.2) M z6.2 := u2
    have kc : sCls t (nxp t 0) 0 = .ok (c', p', m') := by
      unfold sClaR at e
      by_cases w : isw t 2 0 = -1
      · rw [if_pos w] at e; cases e
      · rw [if_neg w, if_neg (by omega)] at e; exact e
    obtain ⟨z1, z2, z3, z4, z5⟩ := sCls_ok (b := 0) (Nat.zero_le _) kc
    have z2 : 0 + c'.1.length + (zl c'.2).length ≤ p' := z2
    have z3 : p' ≤ t.1 := z3
    have z4 : m' ≤ 60 := z4
    rw [ebd_o, u1]
    dsimp only
    exact m_rloop hx ht hT 11 p' m' FUEL ([] ++ [c']) _ z6.2 rfl (by rw [FUEL_eq]; omega) z3 z4 (by rw [List.length_append, List.length_append]; show 0 + c'.1.length + (zl c'.2).length ≤ p'; omega) (fun c hc => by
      rw [List.nil_append, List.mem_singleton] at hc
      rw [hc]; exact z1) u3 u2
theorem RM_rule {g : Gx} {n : Nat} {M M' : mM} (hn : n = g.2.2.1.1) (hn6 : n < 6) (h : RMm g M) (hf : FrMz n M M') : MW g.1 (M'.2.1 446) ∧ M'.2.1 436 21 = eG g.1.2.2.2.1 ∧ M'.2.1 436 22 = i32 g.1.2.2.2.2 ∧ M'.2.1 436 26 = 0 ∧ MP (0, g.2.1.2) M' ∧ (M'.2.1 436 2 = i32 n ∧ ∀ k, k < n → RMk k (g.2.2.1.2 k) M') ∧ MA g.1.1 g.2.2.2.1 M' ∧ ∀ k, k < 4 → MI k (g.2.2.2.2 k) M' := by
  obtain ⟨h1, h2, h3, h4, h5, h6, h7, h8⟩ := h
  obtain ⟨f1, f2, f3, f4, f5, f6, f7⟩ := hf
  have eP : ∀ p, p = 446 ∨ p = 449 ∨ 453 ≤ p → M'.2.1 p = M.2.1 p := fun p hp => f2 p (by omega) (by omega) (by omega) (by omega) (by omega) (by omega)
  have eI : ∀ i, i = 2 ∨ 18 ≤ i → M'.2.1 436 i = M.2.1 436 i := fun i hi => f3 i (by omega) (by omega) (by omega) (by omega) (by omega) (by omega) (by omega) (by omega)
  refine ⟨by rw [eP 446 (by omega)]; exact h1, (eI 21 (by omega)).trans h2, (eI 22 (by omega)).trans h3, (eI 26 (by omega)).trans h4, ⟨f7, fun k hk => absurd hk (Nat.not_lt_zero _)⟩, ⟨by rw [eI 2 (by omega), hn]; exact h6.1, fun k hk => RMk_of (h6.2 k (by omega)) (fun i hi => f4 _ (by omega)) (fun i hi => f5 _ (by omega)) (f6 k (by omega))⟩, ⟨by rw [eI 30 (by omega)]; exact h7.1, by rw [eP 449 (by omega)]; exact h7.2⟩, fun k hk => ?_⟩
  have := h8 k hk
  unfold MI at this ⊢
  rw [eP 456 (by omega), eP 454 (by omega), eP 455 (by omega), eP 453 (by omega)]
  exact this
theorem FrMz_Sm {x : Nat} {M M' : mM} (h : FrMz x M M') : Sm 436 457 M M' := fun p hp => ⟨h.2.1 p (by omega) (by omega) (by omega) (by omega) (by omega) (by omega), by rw [h.1]⟩
theorem m_tellR {g : Gx} {M : mM} (hg : VG g) (hm : RMm g M) (hn : g.2.2.1.1 < 6) : OK (f_Model_rule M) fun z => Sm 436 457 M z.2 ∧ match sRule g.2.1 13 0 0 0 [] with
    | .error w => z.1 = -2 - i32 w ∧ RMm (g.1, (0, g.2.1.2), g.2.2) z.2
    | .ok R => z.1 = i32 g.2.2.1.1 ∧ RMm (tlR g fun ws => rf ws R) z.2 := by
  have ht := hg.2.2.1
  have hT : OKT g.2.1 := hg.2.2.2.1
  obtain ⟨n, hn'⟩ : ∃ n, n = g.2.2.1.1 := ⟨_, rfl⟩
  have e2 : M.2.1 436 2 = i32 n := by rw [hn']; exact hm.2.2.2.2.2.1.1
  rw [← hn'] at hn
  unfold f_Model_rule
  rw [e2, if_neg (by rw [show (6 : Int32) = i32 6 from rfl, i32_eq (by omega) (by omega)]; omega), pI_s, Option.bind_some, gIe, wr_i32 (by omega) (by omega), Option.bind_some]
  obtain ⟨M3, hM3⟩ : ∃ M3, M3 = msI (msI M 436 11 (i32 n)) 441 n 0 := ⟨_, rfl⟩
  rw [← hM3]
  have c1 : M3.2.2 = M.2.2 := by rw [hM3]; rfl
  have c2 : ∀ p, p ≠ 436 → p ≠ 441 → M3.2.1 p = M.2.1 p := fun p a b => by rw [hM3, gIp b, gIp a]
  have c3 : ∀ i, i ≠ 11 → M3.2.1 436 i = M.2.1 436 i := fun i a => by rw [hM3, gIp (by omega), gIo a]
  have c4 : ∀ j, j ≠ n → M3.2.1 441 j = M.2.1 441 j := fun j a => by rw [hM3, gIo a, gIp (by omega)]
  have c5 : M3.2.1 436 11 = i32 n := by rw [hM3, gIp (by omega), gIe]
  have c6 : M3.2.1 441 n = 0 := by rw [hM3, gIe]
  clear hM3
  have sm3 : Sm 436 457 M M3 := fun p hp => ⟨c2 p (by omega) (by omega), by rw [c1]⟩
  have hm3 : RMm g M3 := by
    obtain ⟨h1, h2, h3, h4, h5, h6, h7, h8⟩ := hm
    refine ⟨by rw [c2 446 (by omega) (by omega)]; exact h1, (c3 21 (by omega)).trans h2, (c3 22 (by omega)).trans h3, (c3 26 (by omega)).trans h4, ⟨(c3 1 (by omega)).trans h5.1, by rw [c2 437 (by omega) (by omega)]; exact h5.2⟩, ⟨(c3 2 (by omega)).trans h6.1, fun k hk => RMk_of (h6.2 k hk) (fun i _ => by rw [c2 438 (by omega) (by omega)]) (fun i _ => by rw [c2 440 (by omega) (by omega)]) (c4 k (by omega))⟩, ⟨(c3 30 (by omega)).trans h7.1, by rw [c2 449 (by omega) (by omega)]; exact h7.2⟩, fun k hk => ?_⟩
    have := h8 k hk
    unfold MI at this ⊢
    rw [c2 456 (by omega) (by omega), c2 454 (by omega) (by omega), c2 455 (by omega) (by omega), c2 453 (by omega) (by omega)]
    exact this
  refine OK_bind (m_readsR hn ht hT hm3.2.2.2.2.1 c5 c6) fun z4 h4 => ?_
  obtain ⟨f4, r4⟩ := h4
  have sm4 : Sm 436 457 M z4.2 := Sm_trans sm3 (FrMz_Sm f4)
  obtain ⟨a1, a2, a3, a4, a5, a6, a7, a8⟩ := RM_rule hn' hn hm3 f4
  cases e : sRule g.2.1 13 0 0 0 [] with
  | error w =>
    rw [e] at r4
    rw [r4.1, if_pos rfl, r4.2]
    exact OK_some ⟨sm4, rfl, a1, a2, a3, a4, a5, ⟨by rw [← hn']; exact a6.1, fun k hk => a6.2 k (by rw [hn']; exact hk)⟩, a7, a8⟩
  | ok R =>
    rw [e] at r4
    obtain ⟨u1, u2, u3⟩ := r4
    rw [u1, if_neg (by decide), a6.1, nadd_1, pI_s, Option.bind_some, gIe, show (1 : Int32) = i32 1 from rfl, i32_sub (by omega), show n + 1 - 1 = n by omega]
    obtain ⟨M6, hM6⟩ : ∃ M6, M6 = msI z4.2 436 2 (i32 (n + 1)) := ⟨_, rfl⟩
    rw [← hM6]
    have d1 : ∀ p, p ≠ 436 → M6.2.1 p = z4.2.2.1 p := fun p a => by rw [hM6, gIp a]
    have d2 : ∀ i, i ≠ 2 → M6.2.1 436 i = z4.2.2.1 436 i := fun i a => by rw [hM6, gIo a]
    have d3 : M6.2.1 436 2 = i32 (n + 1) := by rw [hM6, gIe]
    have sm6 : Sm 436 457 M M6 := by rw [hM6]; exact Sm_trans sm4 (Sm_I (by omega))
    clear hM6
    refine OK_some ⟨sm6, by rw [hn'], by rw [d1 446 (by omega)]; exact a1, (d2 21 (by omega)).trans a2, (d2 22 (by omega)).trans a3, (d2 26 (by omega)).trans a4, ⟨(d2 1 (by omega)).trans a5.1, by rw [d1 437 (by omega)]; exact a5.2⟩, ⟨?_, fun k hk => ?_⟩, ⟨(d2 30 (by omega)).trans a7.1, by rw [d1 449 (by omega)]; exact a7.2⟩, fun k hk => ?_⟩
    · show M6.2.1 436 2 = i32 (g.2.2.1.1 + 1)
      rw [d3, hn']
    · show RMk k (bup g.2.2.1.2 g.2.2.1.1 (fun ws => rf ws R) k) M6
      have hk' : k < g.2.2.1.1 + 1 := hk
      by_cases c : k = n
      · have e9 : bup g.2.2.1.2 g.2.2.1.1 (fun ws => rf ws R) k = fun ws => rf ws R := by rw [c, hn', bup_e]
        rw [e9, c]
        refine RMk_R hn ?_ u3
        obtain ⟨y1, y2, y3, y4⟩ := u2
        exact ⟨by rw [d1 441 (by omega)]; exact y1, y2, y3, ofm_of R 0 0 (fun j _ _ => by rw [d1 440 (by omega)]) (fun j _ _ => by rw [d1 438 (by omega)]) y4⟩
      · rw [bup_o (by omega)]
        exact RMk_of (a6.2 k (by omega)) (fun i _ => by rw [d1 438 (by omega)]) (fun i _ => by rw [d1 440 (by omega)]) (by rw [d1 441 (by omega)])
    · have := a8 k hk
      unfold MI at this ⊢
      rw [d1 456 (by omega), d1 454 (by omega), d1 455 (by omega), d1 453 (by omega)]
      exact this
theorem both_rule {M : mM} (hi : Inv M) : Both f_GraveRails_rule f_Model_rule M := by
  obtain ⟨g, hg, hc, hm⟩ := hi
  have h5 := hg.2.2.2.2.1
  by_cases hn : g.2.2.1.1 < 6
  · have h1 := c_tellR hg hc hn
    have h2 : ∀ M', RMm g M' → _ := fun M' hm' => m_tellR hg hm' hn
    cases e : sRule g.2.1 13 0 0 0 [] with
    | error w =>
      rw [e] at h1
      refine both_do (v := -2 - i32 w) hm (VG_t0 hg) (OK_imp h1 fun z hz => ⟨hz.2.1, hz.2.2, hz.1⟩) fun M' hm' => ?_
      have h := h2 M' hm'
      rw [e] at h
      exact OK_imp h fun z hz => ⟨hz.2.1, hz.2.2, hz.1⟩
    | ok R =>
      rw [e] at h1
      refine both_do (v := i32 g.2.2.1.1) hm (VG_R hg hn fun ws => rf_le ws R) (OK_imp h1 fun z hz => ⟨hz.2.1, hz.2.2, hz.1⟩) fun M' hm' => ?_
      have h := h2 M' hm'
      rw [e] at h
      exact OK_imp h fun z hz => ⟨hz.2.1, hz.2.2, hz.1⟩
  · have e6 : g.2.2.1.1 = 6 := by omega
    refine both_pure ⟨g, hg, hc, hm⟩ ⟨-1, ?_, ?_⟩
    · unfold f_GraveRails_rule
      rw [hc.2.2.1.1, e6, if_neg (by decide), if_neg (by decide)]
    · unfold f_Model_rule
      rw [hm.2.2.2.2.2.1.1, e6, if_pos (by decide)]
