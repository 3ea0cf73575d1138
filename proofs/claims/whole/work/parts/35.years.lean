/-! ===== years on end, as data ===== -/
def pre (P : List Nat) (r : R) : R := (r.1, P ++ r.2)
theorem drp_pre (yr : Nat) (P : List Nat) (r : R) (g : Nat) : drp yr (pre P r) g = pre P (drp yr r g) := by
  unfold drp pre
  simp only [List.append_assoc]
theorem goS_pre (y : Yd) (n yr : Nat) (P : List Nat) (r : R) (g : Nat) : goS y n yr (pre P r) g = ((goS y n yr r g).1, pre P (goS y n yr r g).2) := by
  unfold goS
  simp only [show (pre P r).1 = r.1 from rfl]
  cases h : (r.1 g).1 with
  | none => rfl
  | some p =>
    obtain ⟨l, c⟩ := p
    cases c with
    | zero => simp only [drp_pre]
    | succ c =>
      simp only
      cases h1 : grv n r.1 l c with
      | none => rfl
      | some o =>
        simp only
        cases h2 : side y n r.1 o l c with
        | none => rfl
        | some l' => rfl
theorem runs_pre (y : Yd) (n yr g : Nat) (P : List Nat) : ∀ (k : Nat) (r : R), runs y n yr g k (pre P r) = pre P (runs y n yr g k r)
  | 0, r => rfl
  | k + 1, r => by
    rw [runs, runs, goS_pre]
    simp only
    split
    · exact runs_pre y n yr g P k _
    · rfl
theorem trn_pre (y : Yd) (φ : Option (List Int64 → Nat)) (n yr : Nat) (fl : Bool) (P : List Nat) (r : R) (g : Nat) : trn y φ n yr fl (pre P r) g = pre P (trn y φ n yr fl r g) := by
  unfold trn
  simp only [show (pre P r).1 = r.1 from rfl]
  cases h : (r.1 g).1 with
  | none => rfl
  | some p =>
    obtain ⟨l, c⟩ := p
    simp only
    split
    · rfl
    · split
      · rfl
      · split
        · rfl
        · exact runs_pre y n yr g P _ _
theorem trns_pre (y : Yd) (φ : Option (List Int64 → Nat)) (n yr : Nat) (fl : Bool) (P : List Nat) : ∀ (Q : List Nat) (r : R), Q.foldl (trn y φ n yr fl) (pre P r) = pre P (Q.foldl (trn y φ n yr fl) r)
  | [], r => rfl
  | a :: Q, r => by
    rw [List.foldl_cons, List.foldl_cons, trn_pre]
    exact trns_pre y φ n yr fl P Q _
theorem fld_pre (yr : Nat) (P : List Nat) : ∀ (Q : List Nat) (r : R) (k j : Nat), fld yr Q (pre P r) (j + k) = (pre P (fld yr Q r k).1, j + (fld yr Q r k).2)
  | [], r, k, j => rfl
  | a :: Q, r, k, j => by
    unfold fld
    simp only [show (pre P r).1 = r.1 from rfl]
    cases h : (r.1 a).1 with
    | none => exact fld_pre yr P Q r k j
    | some p =>
      simp only
      split
      · rw [drp_pre, show j + k + 1 = j + (k + 1) by omega]
        exact fld_pre yr P Q _ _ j
      · exact fld_pre yr P Q r k j
theorem yea_pre (y : Yd) (φ : Option (List Int64 → Nat)) (n yr : Nat) (fl : Bool) (P : List Nat) (r : R) (k j : Nat) : yea y φ n yr fl (pre P r) (j + k) = (pre P (yea y φ n yr fl r k).1, j + (yea y φ n yr fl r k).2) := by
  unfold yea
  cases fl with
  | false =>
    simp only [Bool.false_eq_true, if_false, show (pre P r).1 = r.1 from rfl]
    rw [trns_pre]
  | true =>
    simp only [if_true, show (pre P r).1 = r.1 from rfl]
    rw [fld_pre]
    simp only [show ∀ q : R, (pre P q).1 = q.1 from fun _ => rfl]
    rw [trns_pre]
/-- a year of the graves, its falls, its falls by flood -/
def yB (y : Yd) (φ : Option (List Int64 → Nat)) (n yr : Nat) (fl : Bool) (b : Nat → B) : Nat → B := (yea y φ n yr fl (b, []) 0).1.1
def yF (y : Yd) (φ : Option (List Int64 → Nat)) (n yr : Nat) (fl : Bool) (b : Nat → B) : List Nat := (yea y φ n yr fl (b, []) 0).1.2
def yK (y : Yd) (φ : Option (List Int64 → Nat)) (n yr : Nat) (fl : Bool) (b : Nat → B) : Nat := (yea y φ n yr fl (b, []) 0).2
theorem yea_eq (y : Yd) (φ : Option (List Int64 → Nat)) (n yr : Nat) (fl : Bool) (r : R) (k : Nat) : yea y φ n yr fl r k = ((yB y φ n yr fl r.1, r.2 ++ yF y φ n yr fl r.1), k + yK y φ n yr fl r.1) := by
  have h := yea_pre y φ n yr fl r.2 (r.1, []) 0 k
  have e : pre r.2 (r.1, []) = r := by unfold pre; rw [List.append_nil]
  rw [e, Nat.add_zero] at h
  exact h
/-! heavy ones count for stones alone -/
def bar (y : Yd) : Yd := (y.1, y.2.1, y.2.2.1, y.2.2.2.1, y.2.2.2.2.1, (fun _ => false), y.2.2.2.2.2.2)
theorem runs_bar (y : Yd) (n yr g : Nat) : ∀ (k : Nat) (r : R), runs (bar y) n yr g k r = runs y n yr g k r
  | 0, r => rfl
  | k + 1, r => by
    rw [runs, runs]
    rw [show goS (bar y) n yr r g = goS y n yr r g from rfl, runs_bar y n yr g k]
theorem trn_bar (y : Yd) (φ : Option (List Int64 → Nat)) (n yr : Nat) (fl : Bool) (r : R) (g : Nat) : trn (bar y) φ n yr fl r g = trn y φ n yr fl r g := by
  unfold trn
  cases h : (r.1 g).1 with
  | none => rfl
  | some p =>
    obtain ⟨l, c⟩ := p
    simp only
    rw [runs_bar]
    rfl
theorem yea_bar (y : Yd) (φ : Option (List Int64 → Nat)) (n yr : Nat) (fl : Bool) (r : R) (k : Nat) : yea (bar y) φ n yr fl r k = yea y φ n yr fl r k := by
  unfold yea
  rw [show trn (bar y) φ n yr fl = trn y φ n yr fl from funext fun r => funext fun g => trn_bar y φ n yr fl r g]
theorem VY_bar {y : Yd} (h : VY y) : VY (bar y) := by
  obtain ⟨h1, h2, h3, h4, h5, h6, h7, h8, h9, h10, h11, h12⟩ := h
  exact ⟨h1, h2, h3, h4, h5, h6, h7, h8, h9, h10, (fun g z => by cases z), h12⟩
/-- k years on, from the year yr, no flood drawn -/
def itB (y : Yd) (φ : Option (List Int64 → Nat)) (n : Nat) : Nat → Nat → (Nat → B) → (Nat → B)
  | 0, _, b => b
  | k + 1, yr, b => itB y φ n k (yr + 1) (yB y φ n yr (flo y yr) b)
/-! the class's course, as it stands at a year's begin -/
def CQ (y : Yd) (Yp : Nat) (ru : Option Nat) (φ : Option (List Int64 → Nat)) (n yr : Nat) (b : Nat → B) (P : List Nat) (k : Nat) (M : mM) : Prop := VY y ∧ CR y n yr (b, P) M ∧ CC y Yp ru φ M ∧ M.2.1 246 3 = i32 k ∧ ∃ t, VT n t ∧ CT 247 n t M
theorem CQ_year {y : Yd} {Yp : Nat} {ru : Option Nat} {φ : Option (List Int64 → Nat)} {n yr : Nat} {b : Nat → B} {P : List Nat} {k : Nat} {M : mM} (h : CQ y Yp ru φ n yr b P k M) {dr : Bool} (hd : M.2.1 246 4 = e01 dr) (hy : yr < 2147483647) : OK (f_Course_goYear M) fun M' => CQ y Yp ru φ n (yr + 1) (yB y φ n yr (dr || flo y yr) b) (P ++ yF y φ n yr (dr || flo y yr) b) (k + yK y φ n yr (dr || flo y yr) b) M' ∧ FrY M M' := by
  obtain ⟨hv, hR, hC, hk, t, hT, hc⟩ := h
  refine OK_imp (c_goYear hv hR hC hd hk hT hc hy) fun M' h' => ?_
  rw [yea_eq] at h'
  exact ⟨⟨hv, h'.1, CC_FrY hC h'.2.2.1, h'.2.2.2, _, VT_stn hT, h'.2.1⟩, h'.2.2.1⟩
/-! the model, as it stands at a year's begin -/
def MYr (y : Yd) (φ : Option (List Int64 → Nat)) (n yr : Nat) (b : Nat → B) (dr : Bool) (M : mM) : Prop := VY y ∧ 2 ≤ y_C y ∧ PN y n ∧ MS y yr n b (M.2.1 446) ∧ V (y_L y) (y_C y) n b ∧ MX y dr M ∧ RM φ M ∧ ∃ t, VT n t ∧ MT n t (M.2.1 446) ∧ MH y n (M.2.1 446)
theorem MYr_year {y : Yd} {φ : Option (List Int64 → Nat)} {n yr : Nat} {b : Nat → B} {dr : Bool} {M : mM} (h : MYr y φ n yr b dr M) (hy : yr < 2147483647) : OK (f_Model_passes M) fun z => z.1 = i32 (yF y φ n yr (dr || flo y yr) b).length ∧ MYr y φ n (yr + 1) (yB y φ n yr (dr || flo y yr) b) dr z.2 ∧ FrP M z.2 ∧ z.2.2.1 436 25 = i32 (yK y φ n yr (dr || flo y yr) b) ∧ z.2.2.1 436 24 = i32 (yF y φ n yr (dr || flo y yr) b).length ∧ (∀ k, k < (yF y φ n yr (dr || flo y yr) b).length → z.2.2.1 447 k = i32 ((yF y φ n yr (dr || flo y yr) b).getD k 0)) ∧ (yF y φ n yr (dr || flo y yr) b).length ≤ 11 := by
  obtain ⟨hv, hC, hpn, hS, hV, hx, hr, t, hT, hc, hh⟩ := h
  have hn := hV.2.2.1
  refine OK_imp (m_passes hv hC hpn hy hT hS hV hx hr hh hc) fun z hz => ?_
  obtain ⟨z1, z2, z3, z4, z5⟩ := hz
  have e : ∀ i, (i < 10 ∧ i ≠ 3) ∨ 131 ≤ i → z.2.2.1 446 i = M.2.1 446 i := z4.2.2.2.1
  refine ⟨z1, ⟨hv, hC, hpn, z2.1, z2.2.1, ⟨?_, (z4.2.2.1 26 (by omega) (by omega) (by omega) (by omega)).trans hx.2⟩, RM_of hr (z4.2.1 438 (by omega) (by omega) (by omega) (by omega)) (z4.2.1 440 (by omega) (by omega) (by omega) (by omega)) (z4.2.1 441 (by omega) (by omega) (by omega) (by omega)) (z4.2.2.1 21 (by omega) (by omega) (by omega) (by omega)), _, VT_stn hT, z3, fun g hg => (z4.2.2.2.2 g (by omega)).trans (hh g hg)⟩, z4, z5, z2.2.2.1, z2.2.2.2.2, Nat.le_trans z2.2.2.2.1 (Nat.le_trans fMany_le hn)⟩
  obtain ⟨⟨rt, h5, hr', he⟩, h6, h7⟩ := hx.1
  refine ⟨⟨rt, (e 5 (by omega)).trans h5, fun k hk => ?_, he⟩, (e 6 (by omega)).trans h6, fun k hk => (e (149 + k) (by omega)).trans (h7 k hk)⟩
  obtain ⟨a1, a2, a3, a4, a5⟩ := hr' k hk
  exact ⟨a1, a2, (e (131 + 3 * k) (by omega)).trans a3, (e (131 + 3 * k + 1) (by omega)).trans a4, (e (131 + 3 * k + 2) (by omega)).trans a5⟩
