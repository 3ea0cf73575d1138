/-! ===== the model's order is the class's ===== -/
def SL (b : Nat → B) (Q : List Nat) : Prop := Q.Pairwise fun a c => key b a < key b c
theorem SL_ext {b : Nat → B} : ∀ {P Q : List Nat}, SL b P → SL b Q → (∀ x, x ∈ P ↔ x ∈ Q) → P = Q
  | [], [], _, _, _ => rfl
  | [], q :: Q, _, _, h => absurd ((h q).mpr List.mem_cons_self) List.not_mem_nil
  | p :: P, [], _, _, h => absurd ((h p).mp List.mem_cons_self) List.not_mem_nil
  | p :: P, q :: Q, hp, hq, h => by
    have hp' := List.pairwise_cons.mp hp
    have hq' := List.pairwise_cons.mp hq
    have e : p = q := by
      rcases List.mem_cons.mp ((h p).mp List.mem_cons_self) with e | m1
      · exact e
      · rcases List.mem_cons.mp ((h q).mpr List.mem_cons_self) with e | m2
        · exact e.symm
        · have h1 := hp'.1 q m2
          have h2 := hq'.1 p m1
          omega
    subst e
    refine congrArg (p :: ·) (SL_ext hp'.2 hq'.2 fun x => ⟨fun m => ?_, fun m => ?_⟩)
    · rcases List.mem_cons.mp ((h x).mp (List.mem_cons_of_mem _ m)) with e | m1
      · subst e; have := hp'.1 x m; omega
      · exact m1
    · rcases List.mem_cons.mp ((h x).mpr (List.mem_cons_of_mem _ m)) with e | m1
      · subst e; have := hq'.1 x m; omega
      · exact m1
theorem insR_SL {b : Nat → B} {g : Nat} : ∀ {ra Z : List Nat}, SL b (ra.reverse ++ Z) → (∀ z, z ∈ Z → key b g < key b z) → (∀ a, a ∈ ra → key b a ≠ key b g) → SL b (insR b g ra Z)
  | [], Z, h, hz, ha => List.pairwise_cons.mpr ⟨hz, h⟩
  | a :: ra, Z, h, hz, ha => by
    unfold insR
    split
    · rename_i c
      have h1 := List.pairwise_append.mp h
      refine List.pairwise_append.mpr ⟨h1.1, List.pairwise_cons.mpr ⟨hz, h1.2.1⟩, fun x hx z hz' => ?_⟩
      rcases List.mem_cons.mp hz' with e | m
      · subst e
        have h2 := ha x (List.mem_reverse.mp hx)
        have h3 : key b x ≤ key b a := by
          rw [List.reverse_cons] at hx h1
          rcases List.mem_append.mp hx with m | m
          · exact Nat.le_of_lt ((List.pairwise_append.mp h1.1).2.2 x m a List.mem_cons_self)
          · rw [List.mem_singleton.mp m]; exact Nat.le_refl _
        omega
      · exact h1.2.2 x hx z m
    · rename_i c
      refine insR_SL ?_ ?_ fun x hx => ha x (List.mem_cons_of_mem _ hx)
      · rw [List.reverse_cons, List.append_assoc] at h
        exact h
      · intro z hz'
        rcases List.mem_cons.mp hz' with e | m
        · subst e; omega
        · exact hz z m
theorem key_inj {b : Nat → B} {L C n g h : Nat} (hV : V L C n b) (hg : g < n) (hh : h < n) (lg : (b g).1 ≠ none) (lh : (b h).1 ≠ none) (e : key b g = key b h) : g = h := by
  obtain ⟨p, hp⟩ := Option.ne_none_iff_exists'.mp lg
  obtain ⟨q, hq⟩ := Option.ne_none_iff_exists'.mp lh
  have h1 := eL_lt hV (l := p.1) (c := p.2) hg hp
  have h2 := eL_lt hV (l := q.1) (c := q.2) hh hq
  unfold key at e
  rw [hp, hq] at e
  simp only at e
  have : p = q := Prod.ext (by omega) (by omega)
  rw [← this] at hq
  exact hV.2.2.2.2 g h p hg hh hp hq
theorem ordL_SL {b : Nat → B} {L C n : Nat} (hV : V L C n b) : ∀ {k g : Nat} {Q : List Nat}, g + k ≤ n → SL b Q → (∀ x, x ∈ Q → x < g ∧ (b x).1 ≠ none) → SL b (ordL b k g Q)
  | 0, g, Q, _, h, _ => h
  | k + 1, g, Q, hn, h, hm => by
    rw [ordL]
    by_cases c : (b g).1 = none
    · rw [if_pos c]
      exact ordL_SL hV (by omega) h fun x hx => ⟨by have := (hm x hx).1; omega, (hm x hx).2⟩
    · rw [if_neg c]
      refine ordL_SL hV (by omega) (insR_SL (by rw [List.reverse_reverse, List.append_nil]; exact h) (fun z hz => absurd hz List.not_mem_nil) fun a ha e => ?_) fun x hx => ?_
      · have := hm a (List.mem_reverse.mp ha)
        have := key_inj hV (by omega) (show g < n by omega) this.2 c e
        omega
      · rcases insR_mem.mp hx with e | m | m
        · subst e; exact ⟨by omega, c⟩
        · have := hm x (List.mem_reverse.mp m); exact ⟨by omega, this.2⟩
        · cases m
theorem ord_SL {b : Nat → B} {L C n : Nat} (hV : V L C n b) : SL b (ord b n) := ordL_SL hV (by omega) List.Pairwise.nil fun x hx => absurd hx List.not_mem_nil
theorem SL_nodup {b : Nat → B} {Q : List Nat} (h : SL b Q) : Q.Nodup := List.Pairwise.imp (fun {a c} h e => by subst e; omega) h
/-! the scan -/
def scR (b : Nat → B) (n c : Nat) : Nat → Nat → List Nat
  | 0, _ => []
  | k + 1, l => match grv n b l c with
    | none => scR b n c k (l + 1)
    | some g => g :: scR b n c k (l + 1)
def scC (b : Nat → B) (n L : Nat) : Nat → Nat → List Nat
  | 0, _ => []
  | k + 1, c => scR b n c L 0 ++ scC b n L k (c + 1)
theorem scR_mem {b : Nat → B} {n c x : Nat} : ∀ {k l : Nat}, x ∈ scR b n c k l ↔ ∃ l', l ≤ l' ∧ l' < l + k ∧ grv n b l' c = some x
  | 0, l => ⟨fun h => absurd h List.not_mem_nil, fun ⟨l', h1, h2, _⟩ => by omega⟩
  | k + 1, l => by
    rw [scR]
    cases hg : grv n b l c with
    | none =>
      simp only
      rw [scR_mem]
      constructor
      · rintro ⟨l', h1, h2, h3⟩; exact ⟨l', by omega, by omega, h3⟩
      · rintro ⟨l', h1, h2, h3⟩
        by_cases e : l' = l
        · subst e; rw [hg] at h3; cases h3
        · exact ⟨l', by omega, by omega, h3⟩
    | some g =>
      simp only
      rw [List.mem_cons, scR_mem]
      constructor
      · rintro (e | ⟨l', h1, h2, h3⟩)
        · subst e; exact ⟨l, by omega, by omega, hg⟩
        · exact ⟨l', by omega, by omega, h3⟩
      · rintro ⟨l', h1, h2, h3⟩
        by_cases e : l' = l
        · subst e; rw [hg] at h3; exact Or.inl (Option.some.inj h3).symm
        · exact Or.inr ⟨l', by omega, by omega, h3⟩
theorem scC_mem {b : Nat → B} {n L x : Nat} : ∀ {k c : Nat}, x ∈ scC b n L k c ↔ ∃ c' l', c ≤ c' ∧ c' < c + k ∧ l' < L ∧ grv n b l' c' = some x
  | 0, c => ⟨fun h => absurd h List.not_mem_nil, fun ⟨c', l', h1, h2, _⟩ => by omega⟩
  | k + 1, c => by
    rw [scC, List.mem_append, scR_mem, scC_mem]
    constructor
    · rintro (⟨l', h1, h2, h3⟩ | ⟨c', l', h1, h2, h3, h4⟩)
      · exact ⟨c, l', by omega, by omega, by omega, h3⟩
      · exact ⟨c', l', by omega, by omega, h3, h4⟩
    · rintro ⟨c', l', h1, h2, h3, h4⟩
      by_cases e : c' = c
      · subst e; exact Or.inl ⟨l', by omega, by omega, h4⟩
      · exact Or.inr ⟨c', l', by omega, by omega, h3, h4⟩
theorem key_at {b : Nat → B} {g l c : Nat} (h : (b g).1 = some (l, c)) : key b g = c * 4 + l := by unfold key; rw [h]
theorem scR_SL {b : Nat → B} {n c : Nat} : ∀ {k l : Nat}, SL b (scR b n c k l)
  | 0, l => List.Pairwise.nil
  | k + 1, l => by
    rw [scR]
    cases hg : grv n b l c with
    | none => exact scR_SL
    | some g =>
      refine List.pairwise_cons.mpr ⟨fun x hx => ?_, scR_SL⟩
      obtain ⟨l', h1, h2, h3⟩ := scR_mem.mp hx
      rw [key_at (grv_some hg).2, key_at (grv_some h3).2]
      omega
theorem scC_SL {b : Nat → B} {n L : Nat} (hL : L ≤ 4) : ∀ {k c : Nat}, SL b (scC b n L k c)
  | 0, c => List.Pairwise.nil
  | k + 1, c => by
    refine List.pairwise_append.mpr ⟨scR_SL, scC_SL hL, fun x hx z hz => ?_⟩
    obtain ⟨l', h1, h2, h3⟩ := scR_mem.mp hx
    obtain ⟨c'', l'', h4, h5, h6, h7⟩ := scC_mem.mp hz
    rw [key_at (grv_some h3).2, key_at (grv_some h7).2]
    omega
def low (b : Nat → B) (K g : Nat) : Bool := match (b g).1 with
  | none => false
  | some p => decide (p.2 < K)
theorem scan_eq {b : Nat → B} {L C n K : Nat} (hV : V L C n b) : scC b n L K 0 = (ord b n).filter (low b K) := by
  refine SL_ext (scC_SL hV.1) (List.Pairwise.filter _ (ord_SL hV)) fun x => ?_
  rw [scC_mem, List.mem_filter, ord_mem]
  constructor
  · rintro ⟨c', l', h1, h2, h3, h4⟩
    have h5 := grv_some h4
    refine ⟨⟨h5.1, by rw [h5.2]; exact Option.some_ne_none _⟩, ?_⟩
    unfold low
    rw [h5.2]
    exact decide_eq_true (by omega)
  · rintro ⟨⟨h1, h2⟩, h3⟩
    obtain ⟨p, hp⟩ := Option.ne_none_iff_exists'.mp h2
    unfold low at h3
    rw [hp] at h3
    have h4 := (hV.2.2.2.1 x h1).1 p.1 p.2 hp
    exact ⟨p.2, p.1, by omega, by have := of_decide_eq_true h3; omega, h4.1, grv_of hV h1 hp⟩
theorem scan_all {b : Nat → B} {L C n : Nat} (hV : V L C n b) : scC b n L C 0 = ord b n := by
  rw [scan_eq hV, List.filter_eq_self]
  intro x hx
  obtain ⟨h1, h2⟩ := ord_mem.mp hx
  obtain ⟨p, hp⟩ := Option.ne_none_iff_exists'.mp h2
  have h4 := (hV.2.2.2.1 x h1).1 p.1 p.2 hp
  unfold low
  rw [hp]
  exact decide_eq_true h4.2
theorem scan_len {b : Nat → B} {L C n K : Nat} (hV : V L C n b) : (scC b n L K 0).length ≤ n := by
  rw [scan_eq hV]
  exact Nat.le_trans (List.length_filter_le _ _) ord_len
theorem fld_eq {yr : Nat} : ∀ {Q : List Nat} {r : R} {k : Nat}, Q.Nodup → fld yr Q r k = ((Q.filter (low r.1 2)).foldl (drp yr) r, k + (Q.filter (low r.1 2)).length)
  | [], r, k, _ => rfl
  | a :: Q, r, k, hn => by
    have hn' := List.nodup_cons.mp hn
    have e : ∀ x, x ∈ Q → low (drp yr r a).1 2 x = low r.1 2 x := fun x hx => by
      have : x ≠ a := fun z => hn'.1 (z ▸ hx)
      unfold low
      rw [show (drp yr r a).1 x = r.1 x from bup_o this]
    cases hp : (r.1 a).1 with
    | none =>
      rw [show fld yr (a :: Q) r k = fld yr Q r k by rw [fld, hp], fld_eq hn'.2, List.filter_cons_of_neg (by unfold low; rw [hp]; decide)]
    | some p =>
      by_cases c : p.2 ≤ 1
      · rw [show fld yr (a :: Q) r k = fld yr Q (drp yr r a) (k + 1) by rw [fld, hp]; exact if_pos c, fld_eq hn'.2, List.filter_cons_of_pos (by unfold low; rw [hp]; exact decide_eq_true (by omega)), List.filter_congr e, List.foldl_cons, List.length_cons]
        refine Prod.ext rfl ?_
        show k + 1 + _ = k + (_ + 1)
        omega
      · rw [show fld yr (a :: Q) r k = fld yr Q r k by rw [fld, hp]; exact if_neg c, fld_eq hn'.2, List.filter_cons_of_neg (by unfold low; rw [hp]; simp only [decide_eq_true_eq]; omega)]
