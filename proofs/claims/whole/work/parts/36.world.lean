/-! ===== all that is told, as data ===== -/
/-- a state: year, graves, their bodies, their stones -/
abbrev Sx : Type := Nat × Nat × (Nat → B) × (Nat → Option (Nat × Nat))
/-- a world: yard, state, sights, rule in force, x -/
abbrev Wx : Type := Yd × Sx × (Nat × (Nat → Nat × Nat × Nat)) × Option Nat × Nat
/-- all: world, tape, rules, acts, images -/
abbrev Gx : Type := Wx × (Nat × (Nat → Int32)) × (Nat × (Nat → List Int64 → Nat)) × (Nat × (Nat → Sx)) × (Nat → Option Wx)
/-- the years of those that fell -/
def VF (n : Nat) (b : Nat → B) : Prop := ∀ g, g < n → ((b g).1 = none → ∃ k, k < 2147483648 ∧ (b g).2.2.2.1 = i32 k) ∧ ((b g).1 ≠ none → (b g).2.2.2.1 = -1)
def VS (y : Yd) (s : Sx) : Prop := V (y_L y) (y_C y) s.2.1 s.2.2.1 ∧ VT s.2.1 s.2.2.2 ∧ y_m y ≤ s.2.1 ∧ s.2.1 ≤ 10 ∧ s.1 ≤ 999 ∧ VF s.2.1 s.2.2.1 ∧ (0 < s.2.1 → 0 < y_L y)
def VW (w : Wx) : Prop := VY w.1 ∧ VS w.1 w.2.1 ∧ w.2.2.1.1 ≤ 10 ∧ (∀ k, k < w.2.2.1.1 → (w.2.2.1.2 k).1 < y_m w.1 ∧ (w.2.2.1.2 k).2.1 < y_C w.1 ∧ (w.2.2.1.2 k).2.2 ≤ 99) ∧ w.2.2.2.2 < 2147483648
def VG (g : Gx) : Prop := VW g.1 ∧ (∀ k, g.1.2.2.2.1 = some k → k < g.2.2.1.1) ∧ g.2.1.1 ≤ 400 ∧ (∀ k, k < g.2.1.1 → ∃ z : Int8, g.2.1.2 k = z.toInt32) ∧ g.2.2.1.1 ≤ 6 ∧ (∀ k, k < g.2.2.1.1 → ∀ ws, g.2.2.1.2 k ws ≤ 9) ∧ g.2.2.2.1.1 ≤ 20 ∧ (∀ j, j < g.2.2.2.1.1 → VS g.1.1 (g.2.2.2.1.2 j)) ∧ ∀ k w, g.2.2.2.2 k = some w → VW w ∧ ∀ f, w.2.2.2.1 = some f → f < g.2.2.1.1
theorem VS_PN {y : Yd} {s : Sx} (h : VS y s) (hv : VY y) : PN y s.2.1 := fun g k e => by
  have := (hv.2.2.2.2.2.2.2.1 g k e).2
  have := h.2.2.1
  omega
/-- what the rule in force says; where it lies -/
def phi (f : Option Nat) (φs : Nat → List Int64 → Nat) : Option (List Int64 → Nat) := match f with
  | none => none
  | some k => some (φs k)
def ruf (f : Option Nat) : Option Nat := match f with
  | none => none
  | some k => some (308 + 6 * k)
/-! sets: who can have been unpaid -/
def opnF (y : Yd) : Nat → Nat → Int32 → Int32
  | 0, _, a => a
  | k + 1, i, a => opnF y k (i + 1) (a ||| (if (y_t y i).2.2 = 0 ∨ (y_t y i).2.2 = 2 then 1 <<< (i32 i &&& 31) else 0))
def opn (y : Yd) : Int32 := opnF y (y_m y) 0 0
def kby (y : Yd) (s : Int32) (g : Nat) : Nat := if ((opn y >>> (i32 g &&& 31)) &&& 1) = 0 then (y_t y g).2.2 else if ((s >>> (i32 g &&& 31)) &&& 1) = 0 then 0 else 2
def bby (y : Yd) (s : Int32) (g : Nat) : B := (some ((y_t y g).1, (y_t y g).2.1), kby y s g, 0, -1, 0, 0)
def agrF (q : Nat → Nat × Nat × Nat) (yr : Nat) (b : Nat → B) : Nat → Nat → Bool
  | 0, _ => true
  | k + 1, i => if (q i).2.2 = yr ∧ eC (b (q i).1).1 ≠ i32 (q i).2.1 then false else agrF q yr b k (i + 1)
def lasF (q : Nat → Nat × Nat × Nat) : Nat → Nat → Nat → Nat
  | 0, _, a => a
  | k + 1, i, a => lasF q k (i + 1) (if a < (q i).2.2 then (q i).2.2 else a)
/-- the sights so from the year yr on, k years more -/
def senF (y : Yd) (φ : Option (List Int64 → Nat)) (q : Nat × (Nat → Nat × Nat × Nat)) : Nat → Nat → (Nat → B) → Bool
  | 0, yr, b => agrF q.2 yr b q.1 0
  | k + 1, yr, b => if agrF q.2 yr b q.1 0 = true then senF y φ q k (yr + 1) (yB y φ (y_m y) yr (flo y yr) b) else false
def sen (y : Yd) (φ : Option (List Int64 → Nat)) (q : Nat × (Nat → Nat × Nat × Nat)) (s : Int32) : Bool := senF y φ q (lasF q.2 q.1 0 0) 0 (bby y s)
def fndF (y : Yd) (φ : Option (List Int64 → Nat)) (q : Nat × (Nat → Nat × Nat × Nat)) : Nat → Nat → List Nat
  | 0, _ => []
  | k + 1, i => if (i32 i &&& (opn y ^^^ (-1))) = 0 ∧ sen y φ q (i32 i) = true then i :: fndF y φ q k (i + 1) else fndF y φ q k (i + 1)
def fnd (y : Yd) (φ : Option (List Int64 → Nat)) (q : Nat × (Nat → Nat × Nat × Nat)) : List Nat := fndF y φ q 1024 0
/-- where one is: its cell, or 20 if it fell -/
def ccd (b : B) : Nat := match b.1 with
  | none => 20
  | some p => p.2
def cnt (y : Yd) (φ : Option (List Int64 → Nat)) (yr : Nat) (F : List Nat) (g c : Nat) : Nat := (F.filter fun s => decide (ccd (itB y φ (y_m y) yr 0 (bby y (i32 s)) g) = c)).length
def mstF (f : Nat → Nat) : Nat → Nat
  | 0 => 0
  | k + 1 => if mstF f k < f k then f k else mstF f k
def mst (y : Yd) (φ : Option (List Int64 → Nat)) (yr : Nat) (F : List Nat) (g : Nat) : Nat := mstF (cnt y φ yr F g) 21
/-- of g and those behind it the one that parts best -/
def bstF (f : Nat → Nat) : Nat → Nat × Nat
  | 0 => (0, f 0)
  | k + 1 => if f (k + 1) < (bstF f k).2 then (k + 1, f (k + 1)) else bstF f k
def bst (y : Yd) (φ : Option (List Int64 → Nat)) (yr : Nat) (F : List Nat) : Nat × Nat := bstF (mst y φ yr F) (y_m y - 1)
/-! the class -/
def CSX (S : Nat) (s : Sx) (M : mM) : Prop := CS S s.1 s.2.1 s.2.2.1 M ∧ CT S s.2.1 s.2.2.2 M
def CG (S : Nat) (q : Nat × (Nat → Nat × Nat × Nat)) (M : mM) : Prop := M.2.1 S 0 = i32 q.1 ∧ ∀ k, k < q.1 → M.2.1 (S + 1) k = i32 (q.2 k).1 ∧ M.2.1 (S + 2) k = i32 (q.2 k).2.1 ∧ M.2.1 (S + 3) k = i32 (q.2 k).2.2
def CW (S : Nat) (w : Wx) (M : mM) : Prop := CY (S + 1) w.1 M ∧ CSX (S + 9) w.2.1 M ∧ CG (S + 19) w.2.2.1 M ∧ M.2.1 S 3 = eG w.2.2.2.1 ∧ M.2.1 S 4 = i32 w.2.2.2.2
def CI (S : Nat) (o : Option Wx) (M : mM) : Prop := match o with
  | none => M.2.1 S 5 = 0
  | some w => M.2.1 S 5 = 1 ∧ CW S w M
def CA (a : Nat × (Nat → Sx)) (M : mM) : Prop := M.2.1 44 0 = i32 a.1 ∧ ∃ nx, nx < 20 ∧ M.2.1 44 1 = i32 nx ∧ ∀ j, j < a.1 → CSX (46 + 10 * ((nx + 20 - a.1 + j) % 20)) (a.2 j) M
def RLk (k : Nat) (f : List Int64 → Nat) (M : mM) : Prop := ∀ M1 : mM, (∀ p, 308 + 6 * k ≤ p → p < 314 + 6 * k → M1.2.1 p = M.2.1 p) → ∀ ws : List Int64, (∀ k, k < 12 → M1.2.2.1 268 k = ws.getD k 0) → OK (f_Rule_stepsBy (308 + 6 * k) M1) fun z => z.1 = i32 (f ws) ∧ Eqv M1 z.2
def CU (r : Nat × (Nat → List Int64 → Nat)) (M : mM) : Prop := M.2.1 0 4 = i32 r.1 ∧ ∀ k, k < r.1 → RLk k (r.2 k) M
def CP (t : Nat × (Nat → Int32)) (M : mM) : Prop := M.2.1 1 1 = i32 t.1 ∧ ∀ k, k < t.1 → M.2.1 2 k = t.2 k
def CE (M : mM) : Prop := M.2.1 290 2 = 0 ∧ M.2.1 290 8 = 0 ∧ M.2.1 290 10 = 0 ∧ ∀ g, g < 11 → M.2.1 294 g = -1 ∧ M.2.1 295 g = 0
/-- the sets, found before -/
def CK (w : Wx) (φs : Nat → List Int64 → Nat) (M : mM) : Prop := M.2.2.2 269 8 = some 21 ∧ M.2.2.2 269 9 = ruf w.2.2.2.1 ∧ M.2.1 269 6 = opn w.1 ∧ M.2.1 269 1 = i32 (fnd w.1 (phi w.2.2.2.1 φs) w.2.2.1).length ∧ (∀ k, k < (fnd w.1 (phi w.2.2.2.1 φs) w.2.2.1).length → M.2.1 270 k = i32 ((fnd w.1 (phi w.2.2.2.1 φs) w.2.2.1).getD k 0)) ∧ (M.2.1 269 2 = -1 ∨ ∃ yr, yr ≤ 99 ∧ M.2.1 269 2 = i32 yr ∧ M.2.1 269 3 = i32 (bst w.1 (phi w.2.2.2.1 φs) yr (fnd w.1 (phi w.2.2.2.1 φs) w.2.2.1)).1 ∧ M.2.1 269 4 = i32 (bst w.1 (phi w.2.2.2.1 φs) yr (fnd w.1 (phi w.2.2.2.1 φs) w.2.2.1)).2)
def CZ (w : Wx) (φs : Nat → List Int64 → Nat) (M : mM) : Prop := M.2.1 269 0 = 0 ∨ (M.2.1 269 0 = 1 ∧ CK w φs M)
def RC (g : Gx) (M : mM) : Prop := CW 20 g.1 M ∧ CP g.2.1 M ∧ CU g.2.2.1 M ∧ CA g.2.2.2.1 M ∧ (∀ k, k < 4 → CI (344 + 23 * k) (g.2.2.2.2 k) M) ∧ CE M ∧ CZ g.1 g.2.2.1.2 M
theorem CY_of {S : Nat} {y : Yd} {M M' : mM} (h : CY S y M) (e : ∀ k, k ≤ 7 → M'.2.1 (S + k) = M.2.1 (S + k)) : CY S y M' := by
  have e0 := e 0 (by omega)
  unfold CY at h ⊢
  rw [e 1 (by omega), e 2 (by omega), e 3 (by omega), e 4 (by omega), e 5 (by omega), e 6 (by omega), e 7 (by omega), show M'.2.1 S = M.2.1 S from e0]
  exact h
theorem CSX_of {S : Nat} {s : Sx} {M M' : mM} (h : CSX S s M) (e : ∀ k, k ≤ 9 → M'.2.1 (S + k) = M.2.1 (S + k)) : CSX S s M' := by
  have e0 := e 0 (by omega)
  unfold CSX CS CB CT at h ⊢
  rw [e 1 (by omega), e 2 (by omega), e 3 (by omega), e 4 (by omega), e 5 (by omega), e 6 (by omega), e 7 (by omega), e 8 (by omega), e 9 (by omega), show M'.2.1 S = M.2.1 S from e0]
  exact h
theorem CG_of {S : Nat} {q : Nat × (Nat → Nat × Nat × Nat)} {M M' : mM} (h : CG S q M) (e : ∀ k, k ≤ 3 → M'.2.1 (S + k) = M.2.1 (S + k)) : CG S q M' := by
  have e0 := e 0 (by omega)
  unfold CG at h ⊢
  rw [e 1 (by omega), e 2 (by omega), e 3 (by omega), show M'.2.1 S = M.2.1 S from e0]
  exact h
theorem CW_of {S : Nat} {w : Wx} {M M' : mM} (h : CW S w M) (e : ∀ k, k < 23 → M'.2.1 (S + k) = M.2.1 (S + k)) : CW S w M' := by
  have e0 : M'.2.1 S = M.2.1 S := e 0 (by omega)
  obtain ⟨h1, h2, h3, h4, h5⟩ := h
  exact ⟨CY_of h1 fun k hk => by rw [show S + 1 + k = S + (1 + k) by omega]; exact e _ (by omega), CSX_of h2 fun k hk => by rw [show S + 9 + k = S + (9 + k) by omega]; exact e _ (by omega), CG_of h3 fun k hk => by rw [show S + 19 + k = S + (19 + k) by omega]; exact e _ (by omega), by rw [e0]; exact h4, by rw [e0]; exact h5⟩
theorem CI_of {S : Nat} {o : Option Wx} {M M' : mM} (h : CI S o M) (e : ∀ k, k < 23 → M'.2.1 (S + k) = M.2.1 (S + k)) : CI S o M' := by
  have e0 : M'.2.1 S = M.2.1 S := e 0 (by omega)
  unfold CI at h ⊢
  cases o with
  | none => rw [e0]; exact h
  | some w => exact ⟨by rw [e0]; exact h.1, CW_of h.2 e⟩
theorem CA_of {a : Nat × (Nat → Sx)} {M M' : mM} (h : CA a M) (e : ∀ p, 44 ≤ p → p < 246 → M'.2.1 p = M.2.1 p) : CA a M' := by
  obtain ⟨h1, nx, h2, h3, h4⟩ := h
  refine ⟨by rw [e 44 (by omega) (by omega)]; exact h1, nx, h2, by rw [e 44 (by omega) (by omega)]; exact h3, fun j hj => CSX_of (h4 j hj) fun k hk => e _ (by omega) ?_⟩
  have := Nat.mod_lt (nx + 20 - a.1 + j) (show 0 < 20 by omega)
  omega
theorem RLk_of {k : Nat} {f : List Int64 → Nat} {M M' : mM} (h : RLk k f M) (e : ∀ p, 308 + 6 * k ≤ p → p < 314 + 6 * k → M'.2.1 p = M.2.1 p) : RLk k f M' := fun M1 h1 ws hw => h M1 (fun p a b => (h1 p a b).trans (e p a b)) ws hw
theorem CU_of {r : Nat × (Nat → List Int64 → Nat)} {M M' : mM} (h : CU r M) (e0 : M'.2.1 0 = M.2.1 0) (e : ∀ p, 308 ≤ p → p < 308 + 6 * r.1 → M'.2.1 p = M.2.1 p) : CU r M' := by
  refine ⟨by rw [e0]; exact h.1, fun k hk => RLk_of (h.2 k hk) fun p a b => e p (by omega) (by omega)⟩
theorem CP_of {t : Nat × (Nat → Int32)} {M M' : mM} (h : CP t M) (e1 : M'.2.1 1 1 = M.2.1 1 1) (e2 : M'.2.1 2 = M.2.1 2) : CP t M' := by
  unfold CP at h ⊢
  rw [e1, e2]
  exact h
theorem CE_of {M M' : mM} (h : CE M) (e : ∀ p, p = 290 ∨ p = 294 ∨ p = 295 → M'.2.1 p = M.2.1 p) : CE M' := by
  unfold CE at h ⊢
  rw [e 290 (by omega), e 294 (by omega), e 295 (by omega)]
  exact h
theorem CK_of {w : Wx} {φs : Nat → List Int64 → Nat} {M M' : mM} (h : CK w φs M) (e : ∀ p, p = 269 ∨ p = 270 → M'.2.1 p = M.2.1 p) (er : M'.2.2.2 269 = M.2.2.2 269) : CK w φs M' := by
  unfold CK at h ⊢
  rw [e 269 (by omega), e 270 (by omega), er]
  exact h
theorem CZ_of {w : Wx} {φs : Nat → List Int64 → Nat} {M M' : mM} (h : CZ w φs M) (e : ∀ p, p = 269 ∨ p = 270 → M'.2.1 p = M.2.1 p) (er : M'.2.2.2 269 = M.2.2.2 269) : CZ w φs M' := by
  rcases h with h | h
  · exact Or.inl (by rw [e 269 (by omega)]; exact h)
  · exact Or.inr ⟨by rw [e 269 (by omega)]; exact h.1, CK_of h.2 e er⟩
/-- what is asked leaves all that is told -/
theorem RC_of {g : Gx} {M M' : mM} (hg : VG g) (h : RC g M) (e : ∀ p, p < 246 ∨ (269 ≤ p ∧ p < 436) → M'.2.1 p = M.2.1 p) (er : M'.2.2.2 269 = M.2.2.2 269) : RC g M' := by
  obtain ⟨h1, h2, h3, h4, h5, h6, h7⟩ := h
  have := hg.2.2.2.2.1
  exact ⟨CW_of h1 fun k hk => e _ (by omega), CP_of h2 (by rw [e 1 (by omega)]) (e 2 (by omega)), CU_of h3 (e 0 (by omega)) fun p a b => e p (by omega), CA_of h4 fun p a b => e p (by omega), fun k hk => CI_of (h5 k hk) fun j hj => e _ (by omega), CE_of h6 fun p hp => e p (by omega), CZ_of h7 (fun p hp => e p (by omega)) er⟩
theorem RC_Sm {g : Gx} {M M' : mM} (hg : VG g) (h : RC g M) (e : Sm 246 269 M M') : RC g M' := RC_of hg h (fun p hp => Sm_i e (by omega)) (Sm_r e (by omega))
theorem RC_m {g : Gx} {M M' : mM} (hg : VG g) (h : RC g M) (e : Sm 436 457 M M') : RC g M' := RC_of hg h (fun p hp => Sm_i e (by omega)) (Sm_r e (by omega))
/-! the model -/
def MSX (y : Yd) (s : Sx) (F : Nat → Int32) : Prop := MS y s.1 s.2.1 s.2.2.1 F ∧ MT s.2.1 s.2.2.2 F ∧ MH y s.2.1 F ∧ F 4 = i32 (y_m y) ∧ F 5 = i32 (y_nr y) ∧ F 6 = i32 (y_nf y)
def MG (q : Nat × (Nat → Nat × Nat × Nat)) (F : Nat → Int32) : Prop := F 185 = i32 q.1 ∧ ∀ k, k < q.1 → F (155 + 3 * k) = i32 (q.2 k).1 ∧ F (155 + 3 * k + 1) = i32 (q.2 k).2.1 ∧ F (155 + 3 * k + 2) = i32 (q.2 k).2.2
def MO (y : Yd) (F : Nat → Int32) : Prop := ∀ g, g < y_m y → F (186 + 4 * g) = i32 (y_t y g).1 ∧ F (186 + 4 * g + 1) = i32 (y_t y g).2.1 ∧ F (186 + 4 * g + 2) = i32 (y_t y g).2.2 ∧ F (186 + 4 * g + 3) = eG (y_p y g)
def MW (w : Wx) (F : Nat → Int32) : Prop := MSX w.1 w.2.1 F ∧ MY w.1 F ∧ MG w.2.2.1 F ∧ MO w.1 F
def RMk (k : Nat) (f : List Int64 → Nat) (M : mM) : Prop := ∀ M1 : mM, (∀ i, i < 400 → M1.2.1 438 (400 * k + i) = M.2.1 438 (400 * k + i)) → (∀ i, i < 48 → M1.2.1 440 (48 * k + i) = M.2.1 440 (48 * k + i)) → M1.2.1 441 k = M.2.1 441 k → M1.2.1 436 21 = i32 k → ∀ (x : Int32) (ws : List Int64), (∀ k, k < 12 → M1.2.2.1 445 k = ws.getD k 0) → OK (f_Model_stepsOf_258 x FUEL 0 M1) fun z => z.1 = i32 (f ws) ∧ EqM M1 z.2
def MU (r : Nat × (Nat → List Int64 → Nat)) (M : mM) : Prop := M.2.1 436 2 = i32 r.1 ∧ ∀ k, k < r.1 → RMk k (r.2 k) M
def MP (t : Nat × (Nat → Int32)) (M : mM) : Prop := M.2.1 436 1 = i32 t.1 ∧ ∀ k, k < t.1 → M.2.1 437 k = t.2 k
def MA (y : Yd) (a : Nat × (Nat → Sx)) (M : mM) : Prop := M.2.1 436 30 = i32 a.1 ∧ ∀ j, j < a.1 → MSX y (a.2 j) fun i => M.2.1 449 (131 * j + i)
def MI (k : Nat) (o : Option Wx) (M : mM) : Prop := match o with
  | none => M.2.1 456 k = 0
  | some w => M.2.1 456 k = 1 ∧ M.2.1 454 k = eG w.2.2.2.1 ∧ M.2.1 455 k = i32 w.2.2.2.2 ∧ MW w fun i => M.2.1 453 (226 * k + i)
def RMm (g : Gx) (M : mM) : Prop := MW g.1 (M.2.1 446) ∧ M.2.1 436 21 = eG g.1.2.2.2.1 ∧ M.2.1 436 22 = i32 g.1.2.2.2.2 ∧ M.2.1 436 26 = 0 ∧ MP g.2.1 M ∧ MU g.2.2.1 M ∧ MA g.1.1 g.2.2.2.1 M ∧ ∀ k, k < 4 → MI k (g.2.2.2.2 k) M
theorem MSX_of {y : Yd} {s : Sx} {F F' : Nat → Int32} (h : MSX y s F) (e : ∀ i, i < 131 → F' i = F i) : MSX y s F' := by
  obtain ⟨h1, h2, h3, h4, h5, h6⟩ := h
  have hn := h1.2.2.2.2.1
  exact ⟨MS_cong h1 fun i hi => e i (by omega), MT_cong h2 hn fun i _ hi => e i hi, fun g hg => (e _ (by omega)).trans (h3 g hg), (e 4 (by omega)).trans h4, (e 5 (by omega)).trans h5, (e 6 (by omega)).trans h6⟩
theorem MW_of {w : Wx} {F F' : Nat → Int32} (hv : VW w) (h : MW w F) (e : ∀ i, i < 226 → F' i = F i) : MW w F' := by
  obtain ⟨h1, ⟨⟨rt, h5, hr, he⟩, h6, h7⟩, h3, h4⟩ := h
  have hy := hv.1
  have v1 := hy.2.2.2.1
  have v2 := hy.2.2.2.2.1
  have v3 := hy.2.2.1
  have v4 := hv.2.2.1
  refine ⟨MSX_of h1 fun i hi => e i (by omega), ⟨⟨rt, (e 5 (by omega)).trans h5, fun k hk => ?_, he⟩, (e 6 (by omega)).trans h6, fun k hk => (e _ (by omega)).trans (h7 k hk)⟩, ⟨(e _ (by omega)).trans h3.1, fun k hk => ?_⟩, fun g hg => ?_⟩
  · obtain ⟨a1, a2, a3, a4, a5⟩ := hr k hk
    exact ⟨a1, a2, (e _ (by omega)).trans a3, (e _ (by omega)).trans a4, (e _ (by omega)).trans a5⟩
  · obtain ⟨a1, a2, a3⟩ := h3.2 k hk
    exact ⟨(e _ (by omega)).trans a1, (e _ (by omega)).trans a2, (e _ (by omega)).trans a3⟩
  · obtain ⟨a1, a2, a3, a4⟩ := h4 g hg
    exact ⟨(e _ (by omega)).trans a1, (e _ (by omega)).trans a2, (e _ (by omega)).trans a3, (e _ (by omega)).trans a4⟩
theorem RMk_of {k : Nat} {f : List Int64 → Nat} {M M' : mM} (h : RMk k f M) (e1 : ∀ i, i < 400 → M'.2.1 438 (400 * k + i) = M.2.1 438 (400 * k + i)) (e2 : ∀ i, i < 48 → M'.2.1 440 (48 * k + i) = M.2.1 440 (48 * k + i)) (e3 : M'.2.1 441 k = M.2.1 441 k) : RMk k f M' := fun M1 h1 h2 h3 h4 => h M1 (fun i hi => (h1 i hi).trans (e1 i hi)) (fun i hi => (h2 i hi).trans (e2 i hi)) (h3.trans e3) h4
/-- what is asked changes scratch alone -/
def FrN (M M' : mM) : Prop := (∀ p, p < 436 → M'.2.2.2 p = M.2.2.2 p) ∧ (∀ p, p < 436 ∨ p = 437 ∨ p = 438 ∨ p = 440 ∨ p = 441 ∨ p = 446 ∨ p = 449 ∨ p = 453 ∨ p = 454 ∨ p = 455 ∨ p = 456 → M'.2.1 p = M.2.1 p) ∧ (∀ i, i = 1 ∨ i = 2 ∨ i = 21 ∨ i = 22 ∨ i = 26 ∨ i = 30 → M'.2.1 436 i = M.2.1 436 i)
theorem FrN_refl (M : mM) : FrN M M := ⟨fun _ _ => rfl, fun _ _ => rfl, fun _ _ => rfl⟩
theorem FrN_trans {M M' M'' : mM} (h : FrN M M') (h' : FrN M' M'') : FrN M M'' := ⟨fun p hp => (h'.1 p hp).trans (h.1 p hp), fun p hp => (h'.2.1 p hp).trans (h.2.1 p hp), fun i hi => (h'.2.2 i hi).trans (h.2.2 i hi)⟩
theorem RMm_N {g : Gx} {M M' : mM} (h : RMm g M) (e : FrN M M') : RMm g M' := by
  obtain ⟨h1, h2, h3, h4, h5, h6, h7, h8⟩ := h
  obtain ⟨e0, ep, ei⟩ := e
  refine ⟨by rw [ep 446 (by omega)]; exact h1, (ei 21 (by omega)).trans h2, (ei 22 (by omega)).trans h3, (ei 26 (by omega)).trans h4, ⟨(ei 1 (by omega)).trans h5.1, by rw [ep 437 (by omega)]; exact h5.2⟩, ⟨(ei 2 (by omega)).trans h6.1, fun k hk => RMk_of (h6.2 k hk) (fun i _ => by rw [ep 438 (by omega)]) (fun i _ => by rw [ep 440 (by omega)]) (by rw [ep 441 (by omega)])⟩, ⟨(ei 30 (by omega)).trans h7.1, by rw [ep 449 (by omega)]; exact h7.2⟩, fun k hk => ?_⟩
  have := h8 k hk
  unfold MI at this ⊢
  rw [ep 456 (by omega), ep 454 (by omega), ep 455 (by omega), ep 453 (by omega)]
  exact this
theorem RC_N {g : Gx} {M M' : mM} (hg : VG g) (h : RC g M) (e : FrN M M') : RC g M' := RC_of hg h (fun p hp => e.2.1 p (by omega)) (e.1 269 (by omega))
theorem RMm_c {g : Gx} {M M' : mM} (h : RMm g M) (e : Sm 0 436 M M') : RMm g M' := by
  obtain ⟨h1, h2, h3, h4, h5, h6, h7, h8⟩ := h
  have ep : ∀ p, 436 ≤ p → M'.2.1 p = M.2.1 p := fun p hp => Sm_i e (by omega)
  refine ⟨by rw [ep 446 (by omega)]; exact h1, by rw [ep 436 (by omega)]; exact h2, by rw [ep 436 (by omega)]; exact h3, by rw [ep 436 (by omega)]; exact h4, ⟨by rw [ep 436 (by omega)]; exact h5.1, by rw [ep 437 (by omega)]; exact h5.2⟩, ⟨by rw [ep 436 (by omega)]; exact h6.1, fun k hk => RMk_of (h6.2 k hk) (fun i _ => by rw [ep 438 (by omega)]) (fun i _ => by rw [ep 440 (by omega)]) (by rw [ep 441 (by omega)])⟩, ⟨by rw [ep 436 (by omega)]; exact h7.1, by rw [ep 449 (by omega)]; exact h7.2⟩, fun k hk => ?_⟩
  have := h8 k hk
  unfold MI at this ⊢
  rw [ep 456 (by omega), ep 454 (by omega), ep 455 (by omega), ep 453 (by omega)]
  exact this
/-! what is to be shown of each call -/
def Inv (M : mM) : Prop := ∃ g, VG g ∧ RC g M ∧ RMm g M
def Both (fc fm : mM → Option (Int32 × mM)) (M : mM) : Prop := OK (fc M) fun z => OK (fm z.2) fun z' => z.1 = z'.1 ∧ Inv z'.2
theorem both_pure {fc fm : mM → Option (Int32 × mM)} {M : mM} (hi : Inv M) (h : ∃ v, fc M = some (v, M) ∧ fm M = some (v, M)) : Both fc fm M := by
  obtain ⟨v, h1, h2⟩ := h
  exact ⟨_, h1, _, h2, rfl, hi⟩
/-- both only ask -/
theorem both_ask {fc fm : mM → Option (Int32 × mM)} {g : Gx} {M : mM} {v : Int32} (hg : VG g) (hc : RC g M) (hm : RMm g M) (h1 : OK (fc M) fun z => z.1 = v ∧ RC g z.2 ∧ Sm 0 436 M z.2) (h2 : ∀ M', RC g M' → RMm g M' → OK (fm M') fun z => z.1 = v ∧ FrN M' z.2) : Both fc fm M := by
  refine OK_imp h1 fun z hz => ?_
  refine OK_imp (h2 z.2 hz.2.1 (RMm_c hm hz.2.2)) fun z' hz' => ?_
  exact ⟨hz.1.trans hz'.1.symm, g, hg, RC_N hg hz.2.1 hz'.2, RMm_N (RMm_c hm hz.2.2) hz'.2⟩
/-- both change what is told, alike -/
theorem both_do {fc fm : mM → Option (Int32 × mM)} {g g' : Gx} {M : mM} {v : Int32} (hm : RMm g M) (hg' : VG g') (h1 : OK (fc M) fun z => z.1 = v ∧ RC g' z.2 ∧ Sm 0 436 M z.2) (h2 : ∀ M', RMm g M' → OK (fm M') fun z => z.1 = v ∧ RMm g' z.2 ∧ Sm 436 457 M' z.2) : Both fc fm M := by
  refine OK_imp h1 fun z hz => ?_
  refine OK_imp (h2 z.2 (RMm_c hm hz.2.2)) fun z' hz' => ?_
  exact ⟨hz.1.trans hz'.1.symm, g', hg', RC_m hg' hz.2.1 hz'.2.2, hz'.2.1⟩
