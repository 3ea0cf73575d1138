/-! ===== the small machine runs the law to its end, with true ===== -/
theorem law_pure (L : Nat) (xs : Nat → Int32) (hL : L ≤ 3072) : mLaw L xs := by
  have hI : OK (f_J_law_18 (L, xs) 600 (i32 (6 * 0)) (zs_M zs_E)) fun z => z.1 = 1 := zl_loop hL 600 0 _ zs_inv (Nat.zero_le _) (by omega)
  obtain ⟨r, h1, h2⟩ := hI
  have hk := zs_law (X := (L, xs)) (L_J_law_18 600 (i32 (6 * 0)) (zs_M zs_E) zs_fx h1)
  obtain ⟨N, n, v, M', h3, h4, h5, h6⟩ := hk [(0, .ref mscr)] (List.forall_mem_cons.mpr ⟨rfl, fun _ h => absurd h List.not_mem_nil⟩)
  subst h5
  subst h4
  rw [h2] at h3
  refine ⟨max N n, 62, r.2, by decide, ?_, ?_, mrun_le (fun j as M s hs => mex_le (Nat.le_max_left N n) 62 62 j as M s (Nat.le_refl _) hs) n _ _ _ (Nat.le_max_right N n) h3⟩
  · rw [h6.1, mSH_len]
    decide
  · unfold mSz
    rw [h6.1]
    decide +kernel
