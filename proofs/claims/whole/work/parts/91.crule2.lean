/-! ===== a rule is read: the class, all of it ===== -/
def RsR (S : Nat) (r : Except Nat (List Cl)) (z : Int32 × mM) : Prop := match r with
  | .error w => z.1 = i32 w ∧ 0 < w ∧ w < 10000
  | .ok R => z.1 = 0 ∧ CRl S R z.2 ∧ ∀ c, c ∈ R → Cw c
theorem RsR_e {S : Nat} {t : Tp} {w : Nat} {M0 M : mM} (b : BR S t w M0 M) {z : Int32 × mM} (h : FrRr S M0 z.2 ∧ z.1 = i32 w) : FrRr S M0 z.2 ∧ RsR S (.error w) z := ⟨h.1, h.2, b.1.2.2.1, b.1.2.2.2.1⟩
theorem c_rloop {S : Nat} (hr : is_ru S) (hS : 13 ≤ S) {t : Tp} (ht : t.1 ≤ 400) {M0 : mM} : ∀ (k p m f : Nat) (R : List Cl) (l : List Oq) (M : mM), R.length + k = 12 → k + 2 < f → p ≤ t.1 → m ≤ 60 → l.length ≤ p → (∀ c, c ∈ R → Cw c) → CqR S t p m R l M0 M → OK (f_RuleReader_readRule_32 S f 1 (i32 R.length) M) fun z => FrRr S M0 z.2 ∧ RsR S (sRule t (k + 1) R.length p m R) z
  | _, _, _, 0, _, _, _, _, hf, _, _, _, _, _ => absurd hf (Nat.not_lt_zero _)
  | k, p, m, f + 1, R, l, M, hk, hf, hp, hm, hl, hR, h => by
    obtain ⟨f, rfl⟩ : ∃ f', f = f' + 1 := ⟨f - 1, by omega⟩
    obtain ⟨q1, q2, q3, q4, q5, q6, q7, q8⟩ := id h
    rw [f_RuleReader_readRule_32, if_neg (by rw [show (12 : Int32) = i32 12 from rfl, i32_lt (by omega) (by omega)]; omega), if_neg (by decide), c_wordAmong ht (by omega) hp q1, Option.bind_some, sRule]
    show OK (if isw t 2 p = -1 then _ else _) _
    have bad : ∀ w M1, CRf t w M1 ∧ FrX M M1 → sClaR t R.length p m = .error w → OK (f_RuleReader_readRule_80 S (f_RuleReader_readRule_32 S (f + 1)) (i32 R.length) M1) fun z => FrRr S M0 z.2 ∧ RsR S (ebd (sClaR t R.length p m) fun z => ebd (mor t z.2.1) fun o => obd o (.ok (R ++ [z.1])) fun p' => sRule t k (R.length + 1) p' z.2.2 (R ++ [z.1])) z := by
      intro w M1 h1 e
      have b1 : BR S t w M0 M1 := ⟨h1.1, by rw [h1.2.1]; exact q4, FrRr_trans q8 (FrX_r h1.2)⟩
      rw [e, ebd_e]
      exact OK_imp (BR_80 hr hS b1 f _) fun z hz => RsR_e b1 hz
    by_cases w : isw t 2 p = -1
    · rw [if_pos w]
      refine OK_bind (c_refuse ht hp (k := 0) (by omega) q1) fun M1 h1 => bad _ M1 h1 ?_
      unfold sClaR
      rw [if_pos w]
    rw [if_neg w]
    by_cases c12 : 12 ≤ R.length
    · rw [if_neg (by rw [show (12 : Int32) = i32 12 from rfl, i32_lt (by omega) (by omega)]; omega)]
      refine OK_bind (c_refuse ht hp (k := 4) (by omega) q1) fun M1 h1 => bad _ M1 h1 ?_
      unfold sClaR
      rw [if_neg w, if_pos c12]
    rw [if_pos (by rw [show (12 : Int32) = i32 12 from rfl, i32_lt (by omega) (by omega)]; omega)]
    have ec : sClaR t R.length p m = sCls t (nxp t p) m := by
      unfold sClaR
      rw [if_neg w, if_neg c12]
    have hn := isw_gt (by omega) w
    unfold f_RuleReader_readRule_80
    refine OK_bind (c_adv ht hp q1) fun M1 h1 => ?_
    have g1 : CqR S t (nxp t p) m R l M0 M1 := ⟨h1.1, Pg_X hS q2 h1.2, by rw [h1.2.2.1 12 (by omega)]; exact q3, by rw [h1.2.1]; exact q4, by rw [h1.2.2.1 S (by omega)]; exact q5, ofc_of R 0 0 (fun j _ _ => by rw [h1.2.2.1 (S + 2) (by omega), h1.2.2.1 (S + 3) (by omega), h1.2.2.1 (S + 4) (by omega)]; exact ⟨rfl, rfl, rfl⟩) (fun j _ _ => by rw [h1.2.2.1 (S + 1) (by omega)]) q6, q7, FrRr_trans q8 (FrX_r h1.2)⟩
    rw [g1.2.2.2.1, nnl_s hr, Option.bind_some, ec]
    refine c_clause hr hS ht (by omega) hn.2 hm (by omega) g1 _ _ (fun z M5 ez h5 => ?_) (fun w' M5 ew h5 => ?_) (fun w' M5 ew h5 => ?_)
    · obtain ⟨z, p5, m5⟩ := z
      have kz := sCls_ok (b := l.length) (by omega) ez
      obtain ⟨z1, z2, z3, z4, z5⟩ := id kz
      have z2 : l.length + z.1.length + (zl z.2).length ≤ p5 := z2
      have z3 : p5 ≤ t.1 := z3
      have z4 : m5 ≤ 60 := z4
      have h5 : CqR S t p5 m5 (R ++ [z]) (l ++ z.1 ++ zl z.2) M0 M5 := h5
      have hR' : ∀ c, c ∈ R ++ [z] → Cw c := fun c hc => by
        rw [List.mem_append, List.mem_singleton] at hc
        rcases hc with hc | hc
        · exact hR c hc
        · rw [hc]; exact z1
      have hlen : (R ++ [z]).length = R.length + 1 := by rw [List.length_append]; rfl
      rw [ez, ebd_o]
      refine OK_bind (c_more ht z3 h5.1) fun z6 h6 => ?_
      show OK _ fun y => FrRr S M0 y.2 ∧ RsR S (ebd (mor t p5) fun o => obd o (.ok (R ++ [z])) fun p' => sRule t k (R.length + 1) p' m5 (R ++ [z])) y
      cases em : mor t p5 with
      | error w' =>
        rw [em] at h6
        have h6 : z6.1 = 0 ∧ CRf t w' z6.2 ∧ FrX M5 z6.2 := h6
        have b6 : BR S t w' M0 z6.2 := ⟨h6.2.1, by rw [h6.2.2.1]; exact h5.2.2.2.1, FrRr_trans h5.2.2.2.2.2.2.2 (FrX_r h6.2.2)⟩
        rw [h6.1, ebd_e]
        exact OK_imp (BR_stop b6 f _) fun y hy => RsR_e b6 hy
      | ok o =>
        rw [em] at h6
        rw [ebd_o]
        cases o with
        | none =>
          have h6 : z6 = (0, M5) := h6
          subst h6
          obtain ⟨y1, y2, y3, y4, y5, y6, y7, y8⟩ := h5
          rw [obd_n, f_RuleReader_readRule_32]
          unfold f_RuleReader_readRule_143
          dsimp only
          have fin : FrRr S M0 M5 ∧ RsR S (.ok (R ++ [z])) (M5.2.1 1 6, M5) := by
            refine ⟨y8, y1.2.1, ⟨y5, by rw [hlen]; omega, ?_, y6⟩, hR'⟩
            rw [← y7, List.length_append, List.length_append]
            omega
          by_cases cc : (12 : Int32) < i32 R.length + 1
          · rw [if_pos cc]; exact OK_some fin
          · rw [if_neg cc, if_pos rfl]; exact OK_some fin
        | some p' =>
          have h6 : z6.1 = 1 ∧ CTk t p' z6.2 ∧ FrX M5 z6.2 := h6
          obtain ⟨y1, y2, y3, y4, y5, y6, y7, y8⟩ := h5
          have hp' : p5 ≤ p' ∧ p' ≤ t.1 := by
            unfold mor at em
            by_cases d1 : knd t (skp t p5) = 0
            · rw [if_pos d1] at em; cases em
            · rw [if_neg d1] at em
              by_cases d2 : sgn t p5 59 = true
              · rw [if_pos d2] at em
                have := Option.some.inj (Except.ok.inj em)
                have := sgn_gt d2
                omega
              · rw [if_neg d2] at em; cases em
          have e6 := h6.2.2
          obtain ⟨k, rfl⟩ : ∃ k', k = k' + 1 := ⟨k - 1, by omega⟩
          rw [obd_s, h6.1, nadd_1, ← hlen]
          exact c_rloop hr hS ht k p' m5 (f + 1) (R ++ [z]) (l ++ z.1 ++ zl z.2) z6.2 (by rw [hlen]; omega) (by omega) hp'.2 z4 (by rw [List.length_append, List.length_append]; omega) hR' ⟨h6.2.1, Pg_X hS y2 e6, by rw [e6.2.1 12 (by omega)]; exact y3, by rw [e6.1]; exact y4, by rw [e6.2.1 S (by omega)]; exact y5, ofc_of _ 0 0 (fun j _ _ => by rw [e6.2.1 (S + 2) (by omega), e6.2.1 (S + 3) (by omega), e6.2.1 (S + 4) (by omega)]; exact ⟨rfl, rfl, rfl⟩) (fun j _ _ => by rw [e6.2.1 (S + 1) (by omega)]) y6, y7, FrRr_trans y8 (FrX_r e6)⟩
    · rw [ew, ebd_e]
      exact OK_imp (BR_122 hr hS h5 f _) fun z hz => RsR_e h5 hz
    · rw [ew, ebd_e]
      refine OK_bind (c_testX S M5) fun M6 h6 => ?_
      have b6 := BR_O hS h5 h6
      rw [CRf_tw b6.1, Option.bind_some, if_pos (show ((0 : Int32), M6).1 = 0 from rfl)]
      exact OK_imp (BR_122 hr hS b6 f _) fun z hz => RsR_e b6 hz
  termination_by _ _ _ f => f
theorem c_readRule {S : Nat} (hr : is_ru S) (hS : 13 ≤ S) {t : Tp} (ht : t.1 ≤ 400) {M : mM} (h : CP t M) : OK (f_RuleReader_readRule S M) fun z => (∀ p, p = 0 ∨ p = 2 ∨ (p < S ∧ p ≠ 1 ∧ p ≠ 12) ∨ S + 5 ≤ p → z.2.2.1 p = M.2.1 p) ∧ (∀ p, p ≠ 12 → z.2.2.2.2 p = M.2.2.2 p) ∧ z.2.2.1 1 1 = M.2.1 1 1 ∧ RsR S (sRule t 13 0 0 0 []) z := by
  unfold f_RuleReader_readRule f_RuleReader_readRule_9
  rw [pR_s, Option.bind_some, gRe, nnl_s hr, Option.bind_some]
  unfold f_Rule_clear
  simp only [pI_s, Option.bind_some]
  obtain ⟨M1, hM1⟩ : ∃ M1, M1 = msI (msI (msI (msR M 12 1 (some S)) S 1 0) S 5 0) 12 2 0 := ⟨_, rfl⟩
  rw [← hM1]
  have a1 : ∀ p, p ≠ S → p ≠ 12 → M1.2.1 p = M.2.1 p := fun p x y => by rw [hM1, gIp y, gIp x, gIp x]; rfl
  have a2 : ∀ p, p ≠ 12 → M1.2.2.2 p = M.2.2.2 p := fun p x => by rw [hM1]; exact gRp x
  have a3 : M1.2.2.2 12 1 = some S := by rw [hM1, gIR, gIR, gIR]; exact gRe _ _ _ _
  have a4 : M1.2.1 S 1 = 0 := by rw [hM1, gIp (by omega), gIo (by omega), gIe]
  have a5 : M1.2.1 S 5 = 0 := by rw [hM1, gIp (by omega), gIe]
  have a6 : M1.2.1 12 2 = 0 := by rw [hM1, gIe]
  clear hM1
  refine OK_bind (c_rewind ht (CP_of h (by rw [a1 1 (by omega) (by omega)]) (a1 2 (by omega) (by omega)))) fun M2 h2 => ?_
  obtain ⟨h2, e2⟩ := h2
  refine OK_imp (c_rloop hr hS ht (M0 := M2) 12 0 0 FUEL [] [] M2 rfl (by rw [FUEL_eq]; omega) (Nat.zero_le _) (Nat.zero_le _) (Nat.le_refl _) (fun c hc => by cases hc) ⟨h2, ⟨?_, True.intro⟩, ?_, ?_, ?_, True.intro, rfl, FrRr_refl S M2⟩) fun z hz => ?_
  · rw [e2.2.1 S (by omega)]; exact a4
  · rw [e2.2.1 12 (by omega)]; exact a6
  · rw [e2.1]; exact a3
  · rw [e2.2.1 S (by omega)]; exact a5
  · obtain ⟨⟨f1, f2, f3⟩, r⟩ := hz
    refine ⟨fun p hp => ?_, fun p hp => ?_, ?_, r⟩
    · rw [f2 p (by omega) (by omega) (by omega), e2.2.1 p (by omega), a1 p (by omega) (by omega)]
    · rw [f1, e2.1, a2 p hp]
    · rw [f3, e2.2.2, a1 1 (by omega) (by omega)]
/-! a world with a rule more -/
def tlR (g : Gx) (φ : List Int64 → Nat) : Gx := (g.1, (0, g.2.1.2), (g.2.2.1.1 + 1, bup g.2.2.1.2 g.2.2.1.1 φ), g.2.2.2)
theorem phi_up {φs : Nat → List Int64 → Nat} {φ : List Int64 → Nat} {n : Nat} {f : Option Nat} (h : ∀ k, f = some k → k < n) : phi f (bup φs n φ) = phi f φs := by
  cases f with
  | none => rfl
  | some k =>
    have := h k rfl
    show some (bup φs n φ k) = some (φs k)
    rw [bup_o (by omega)]
theorem CZ_up {w : Wx} {φs : Nat → List Int64 → Nat} {φ : List Int64 → Nat} {n : Nat} {M : mM} (hf : ∀ k, w.2.2.2.1 = some k → k < n) (h : CZ w φs M) : CZ w (bup φs n φ) M := by
  unfold CZ CK at h ⊢
  rw [phi_up hf]
  exact h
theorem VG_R {g : Gx} (hg : VG g) (hn : g.2.2.1.1 < 6) {φ : List Int64 → Nat} (hφ : ∀ ws, φ ws ≤ 9) : VG (tlR g φ) := by
  obtain ⟨h1, h2, h3, h4, h5, h6, h7, h8, h9⟩ := hg
  refine ⟨h1, fun k e => Nat.lt_succ_of_lt (h2 k e), Nat.zero_le _, fun k hk => absurd hk (Nat.not_lt_zero _), hn, fun k hk ws => ?_, h7, h8, fun k w e => ⟨(h9 k w e).1, fun f e' => Nat.lt_succ_of_lt ((h9 k w e).2 f e')⟩⟩
  show bup g.2.2.1.2 g.2.2.1.1 φ k ws ≤ 9
  have hk' : k < g.2.2.1.1 + 1 := hk
  by_cases c : k = g.2.2.1.1
  · rw [c, bup_e]; exact hφ ws
  · rw [bup_o c]; exact h6 k (by omega) ws
theorem ruL_6 {k : Nat} (hk : k < 6) : is_ru (308 + 6 * k) := by
  have : ∀ k : Fin 6, is_ru (308 + 6 * k.1) := by decide
  exact this ⟨k, hk⟩
theorem c_tellR {g : Gx} {M : mM} (hg : VG g) (hc : RC g M) (hn : g.2.2.1.1 < 6) : OK (f_GraveRails_rule M) fun z => Sm 0 436 M z.2 ∧ match sRule g.2.1 13 0 0 0 [] with
    | .error w => z.1 = -2 - i32 w ∧ RC (g.1, (0, g.2.1.2), g.2.2) z.2
    | .ok R => z.1 = i32 g.2.2.1.1 ∧ RC (tlR g fun ws => rf ws R) z.2 := by
  have ht := hg.2.2.1
  have h04 := hc.2.2.1.1
  unfold f_GraveRails_rule
  rw [h04, if_neg (fun z => (i32_neg (a := g.2.2.1.1) (by omega)).mp z), if_pos (by rw [show (6 : Int32) = i32 6 from rfl, i32_lt (by omega) (by omega)]; exact hn), ix_i32 (by omega) (by omega), Option.bind_some]
  obtain ⟨n, hn'⟩ : ∃ n, n = g.2.2.1.1 := ⟨_, rfl⟩
  rw [← hn'] at hn ⊢
  have hS : 13 ≤ 308 + 6 * n := by omega
  refine OK_bind (c_readRule (ruL_6 hn) hS ht hc.2.1) fun z1 h1 => ?_
  obtain ⟨a1, a2, a3, r1⟩ := h1
  rw [pI_s, Option.bind_some]
  have e1 : ∀ p, p = 0 ∨ p = 2 ∨ (p < 308 + 6 * n ∧ p ≠ 1 ∧ p ≠ 12) ∨ 308 + 6 * n + 5 ≤ p → (msI z1.2 1 1 0).2.1 p = M.2.1 p := fun p hp => by rw [gIp (by omega)]; exact a1 p hp
  have cp : CP (0, g.2.1.2) (msI z1.2 1 1 0) := ⟨gIe _ _ _ _, fun k hk => absurd hk (Nat.not_lt_zero _)⟩
  have sm : Sm 0 436 M (msI z1.2 1 1 0) := fun p hp => ⟨e1 p (by omega), a2 p (by omega)⟩
  obtain ⟨h1', h2', h3', h4', h5', h6', h7'⟩ := id hc
  have rest : ∀ M2 : mM, (∀ p, p ≠ 0 → M2.2.1 p = (msI z1.2 1 1 0).2.1 p) → M2.2.2 = (msI z1.2 1 1 0).2.2 → CW 20 g.1 M2 ∧ CP (0, g.2.1.2) M2 ∧ CA g.2.2.2.1 M2 ∧ (∀ k, k < 4 → CI (344 + 23 * k) (g.2.2.2.2 k) M2) ∧ CE M2 ∧ CZ g.1 g.2.2.1.2 M2 ∧ ∀ k, k < n → RLk k (g.2.2.1.2 k) M2 := by
    intro M2 b1 b2
    have b : ∀ p, p ≠ 0 → p = 2 ∨ (p < 308 + 6 * n ∧ p ≠ 1 ∧ p ≠ 12) ∨ 308 + 6 * n + 5 ≤ p → M2.2.1 p = M.2.1 p := fun p h0 hp => (b1 p h0).trans (e1 p (by omega))
    refine ⟨CW_of h1' fun k hk => b _ (by omega) (by omega), CP_of cp (by rw [b1 1 (by omega)]) (b1 2 (by omega)), CA_of h4' fun p x y => b p (by omega) (by omega), fun k hk => CI_of (h5' k hk) fun j hj => b _ (by omega) (by omega), CE_of h6' fun p hp => b p (by omega) (by omega), CZ_of h7' (fun p hp => b p (by omega) (by omega)) (by rw [b2]; exact a2 269 (by omega)), fun k hk => RLk_of (h3'.2 k (by omega)) fun p x y => b p (by omega) (by omega)⟩
  cases e : sRule g.2.1 13 0 0 0 [] with
  | error w =>
    rw [e] at r1
    obtain ⟨q1, q2, q3⟩ := r1
    rw [q1, if_neg (by rw [show (0 : Int32) = i32 0 from rfl, i32_eq (by omega) (by omega)]; omega)]
    obtain ⟨x1, x2, x3, x4, x5, x6, x7⟩ := rest (msI z1.2 1 1 0) (fun _ _ => rfl) rfl
    refine OK_some ⟨sm, rfl, x1, x2, ⟨?_, fun k hk => x7 k (by rw [hn']; exact hk)⟩, x3, x4, x5, x6⟩
    dsimp only
    rw [e1 0 (by omega)]
    exact h04
  | ok R =>
    rw [e] at r1
    obtain ⟨q1, q2, q3⟩ := r1
    have e04 : (msI z1.2 1 1 0).2.1 0 4 = i32 n := by rw [e1 0 (by omega), h04, hn']
    rw [q1, if_pos rfl, e04, nadd_1, pI_s, Option.bind_some]
    obtain ⟨M2, hM2⟩ : ∃ M2, M2 = msI (msI z1.2 1 1 0) 0 4 (i32 (n + 1)) := ⟨_, rfl⟩
    rw [← hM2]
    have b1 : ∀ p, p ≠ 0 → M2.2.1 p = (msI z1.2 1 1 0).2.1 p := fun p hp => by rw [hM2, gIp hp]
    have b2 : M2.2.2 = (msI z1.2 1 1 0).2.2 := by rw [hM2]; rfl
    have b3 : M2.2.1 0 4 = i32 (n + 1) := by rw [hM2, gIe]
    have sm2 : Sm 0 436 M M2 := by rw [hM2]; exact Sm_trans sm (Sm_I (by omega))
    clear hM2
    obtain ⟨x1, x2, x3, x4, x5, x6, x7⟩ := rest M2 b1 b2
    refine OK_some ⟨sm2, ?_, x1, x2, ⟨?_, fun k hk => ?_⟩, x3, x4, x5, CZ_up hg.2.1 x6⟩
    · dsimp only
      rw [b3, show (1 : Int32) = i32 1 from rfl, i32_sub (by omega)]
      congr 1
    · show M2.2.1 0 4 = i32 (g.2.2.1.1 + 1)
      rw [b3, hn']
    · show RLk k (bup g.2.2.1.2 g.2.2.1.1 (fun ws => rf ws R) k) M2
      have hk' : k < g.2.2.1.1 + 1 := hk
      by_cases c : k = n
      · have e9 : bup g.2.2.1.2 g.2.2.1.1 (fun ws => rf ws R) k = fun ws => rf ws R := by rw [c, hn', bup_e]
        rw [e9, c]
        refine RLk_R hn ?_ q3
        obtain ⟨y1, y2, y3, y4⟩ := q2
        have bb : ∀ j, j < 5 → M2.2.1 (308 + 6 * n + j) = z1.2.2.1 (308 + 6 * n + j) := fun j hj => by rw [b1 _ (by omega), gIp (by omega)]
        refine ⟨by have := bb 0 (by omega); rw [Nat.add_zero] at this; rw [this]; exact y1, y2, y3, ofc_of R 0 0 (fun j _ _ => by rw [bb 2 (by omega), bb 3 (by omega), bb 4 (by omega)]; exact ⟨rfl, rfl, rfl⟩) (fun j _ _ => by rw [bb 1 (by omega)]) y4⟩
      · rw [bup_o (by omega)]
        exact x7 k (by omega)
