/-! ===== look, both ===== -/
def lkA (y : Yd) (φ : Option (List Int64 → Nat)) (Y w : Nat) (F : List Nat) : Int32 := if F.length = 0 then -2 else if y_m y = 0 then -2 else if w = 0 then i32 (bst y φ Y F).1 else i32 (bst y φ Y F).2
theorem both_look {x1 x2 : Int32} {M : mM} (hi : Inv M) : Both (f_GraveRails_look x1 x2) (f_Model_look x1 x2) M := by
  have hi' := hi
  obtain ⟨g, hg, hc, hm⟩ := hi
  have hv := hg.1.1
  have v3 := hv.2.2.1
  have ct := c_isTold hc.1.1 hv
  have mt := m_isYard hm.1.1.1.1 hv
  have hl : (fnd g.1.1 (phi g.1.2.2.2.1 g.2.2.1.2) g.1.2.2.1).length ≤ 1024 := fndF_len _ _ _ 1024 0
  by_cases hL : 0 < y_L g.1.1
  · rw [if_pos hL] at ct mt
    rcases i32_cases x1 with h1 | ⟨Y, h1, rfl⟩
    · refine both_pure hi' ⟨-1, ?_, ?_⟩
      · unfold f_GraveRails_look
        rw [ct, bnd1]
        exact if_pos h1
      · unfold f_Model_look
        rw [mt, bnd1]
        dsimp only
        rw [m_inN (lo := 0) (hi := 99) h1 (by omega), bnd0]
    · by_cases hY : Y ≤ 99
      · rcases i32_cases x2 with h2 | ⟨w, h2, rfl⟩
        · refine both_pure hi' ⟨-1, ?_, ?_⟩
          · unfold f_GraveRails_look
            rw [ct, bnd1]
            dsimp only
            rw [if_neg (fun z => (i32_neg h1).mp z), if_neg (by rw [show (99 : Int32) = i32 99 from rfl, i32_lt (by omega) h1]; omega)]
            exact if_pos h2
          · unfold f_Model_look
            rw [mt, bnd1]
            dsimp only
            rw [m_inY (lo := 0) (hi := 99) ⟨Nat.zero_le _, hY⟩ (by omega), bnd1]
            dsimp only
            rw [m_inN (lo := 0) (hi := 1) h2 (by omega), bnd0]
        · by_cases hw : w ≤ 1
          · refine both_ask (v := lkA g.1.1 (phi g.1.2.2.2.1 g.2.2.1.2) Y w (fnd g.1.1 (phi g.1.2.2.2.1 g.2.2.1.2) g.1.2.2.1)) hg hc hm ?_ fun M' hc' hm' => ?_
            · unfold f_GraveRails_look
              rw [ct, bnd1]
              dsimp only
              rw [if_neg (fun z => (i32_neg h1).mp z), if_neg (by rw [show (99 : Int32) = i32 99 from rfl, i32_lt (by omega) h1]; omega), if_neg (fun z => (i32_neg h2).mp z), if_pos (by rw [show (1 : Int32) = i32 1 from rfl, i32_le h2 (by omega)]; exact hw), c_rif hg hc, Option.bind_some]
              dsimp only
              refine OK_bind (c_find hg hc hL) fun M1 q => ?_
              obtain ⟨q1, q2, q3, q4⟩ := q
              have k1 := q3.2.2.2.1
              have e2 : M1.2.1 21 2 = i32 (y_m g.1.1) := q1.1.1.2.2.1
              rw [k1]
              unfold lkA
              by_cases l0 : (fnd g.1.1 (phi g.1.2.2.2.1 g.2.2.1.2) g.1.2.2.1).length = 0
              · rw [if_pos (show i32 (fnd g.1.1 (phi g.1.2.2.2.1 g.2.2.1.2) g.1.2.2.1).length = 0 by rw [l0]; rfl), if_pos l0]
                exact OK_some ⟨rfl, q1, q4⟩
              · rw [if_neg (show ¬ i32 (fnd g.1.1 (phi g.1.2.2.2.1 g.2.2.1.2) g.1.2.2.1).length = 0 from fun z => l0 ((neq_0 (by omega)).mp z)), if_neg l0, e2]
                by_cases m0 : y_m g.1.1 = 0
                · rw [if_pos (show i32 (y_m g.1.1) = 0 by rw [m0]; rfl), if_pos m0]
                  exact OK_some ⟨rfl, q1, q4⟩
                · rw [if_neg (show ¬ i32 (y_m g.1.1) = 0 from fun z => m0 ((neq_0 (by omega)).mp z)), if_neg m0]
                  refine OK_bind (c_part hg q1 q2 q3 hY (by omega)) fun M2 p => ?_
                  obtain ⟨p1, p2, p3, p4⟩ := p
                  by_cases w0 : w = 0
                  · rw [if_pos (show i32 w = 0 by rw [w0]; rfl), if_pos w0]
                    exact OK_some ⟨p2, p1, Sm_trans q4 p4⟩
                  · rw [if_neg (show ¬ i32 w = 0 from fun z => w0 ((neq_0 (by omega)).mp z)), if_neg w0]
                    exact OK_some ⟨p3, p1, Sm_trans q4 p4⟩
            · have mt' := m_isYard hm'.1.1.1.1 hv
              rw [if_pos hL] at mt'
              unfold f_Model_look
              rw [mt', bnd1]
              dsimp only
              rw [m_inY (lo := 0) (hi := 99) ⟨Nat.zero_le _, hY⟩ (by omega), bnd1]
              dsimp only
              rw [m_inY (lo := 0) (hi := 1) ⟨Nat.zero_le _, hw⟩ (by omega), bnd1]
              dsimp only
              refine OK_bind (m_gather hg hm' hL) fun M1 q => ?_
              obtain ⟨q1, q2, q3, q4⟩ := q
              rw [q3]
              unfold lkA
              by_cases l0 : (fnd g.1.1 (phi g.1.2.2.2.1 g.2.2.1.2) g.1.2.2.1).length = 0
              · rw [if_pos (show i32 (fnd g.1.1 (phi g.1.2.2.2.1 g.2.2.1.2) g.1.2.2.1).length = 0 by rw [l0]; rfl), if_pos l0]
                exact OK_some ⟨rfl, FrN_B q1 (q2.trans hm'.2.2.2.1.symm)⟩
              · rw [if_neg (show ¬ i32 (fnd g.1.1 (phi g.1.2.2.2.1 g.2.2.1.2) g.1.2.2.1).length = 0 from fun z => l0 ((neq_0 (by omega)).mp z)), if_neg l0]
                refine OK_bind (m_countsCells (F := fnd g.1.1 (phi g.1.2.2.2.1 g.2.2.1.2) g.1.2.2.1) hg hm' q1 q2 hL hY hl q3 q4) fun M2 p => ?_
                obtain ⟨p1, p2, p3⟩ := p
                have h4 : M2.2.1 446 4 = i32 (y_m g.1.1) := by rw [p1.1 446 (by omega) (by omega) (by omega) (by omega) (by omega) (by omega)]; exact hm'.1.1.2.2.2.1
                have key := m_look60 (x1 := i32 Y) hv h4 p3 (fun a c => Nat.le_trans (cnt_le _ _ _ _ a c) hl) hw (y_m g.1.1) 0 FUEL (-2) (-2) (Nat.zero_add _) (by rw [FUEL_eq]; omega) (fun _ => ⟨rfl, rfl⟩) fun z => absurd z (Nat.lt_irrefl _)
                refine OK_eq key ⟨?_, FrN_B p1 (p2.trans hm'.2.2.2.1.symm)⟩
                rfl
          · refine both_pure hi' ⟨-1, ?_, ?_⟩
            · unfold f_GraveRails_look
              rw [ct, bnd1]
              dsimp only
              rw [if_neg (fun z => (i32_neg h1).mp z), if_neg (by rw [show (99 : Int32) = i32 99 from rfl, i32_lt (by omega) h1]; omega), if_neg (fun z => (i32_neg h2).mp z)]
              exact if_neg (by rw [show (1 : Int32) = i32 1 from rfl, i32_le h2 (by omega)]; exact hw)
            · unfold f_Model_look
              rw [mt, bnd1]
              dsimp only
              rw [m_inY (lo := 0) (hi := 99) ⟨Nat.zero_le _, hY⟩ (by omega), bnd1]
              dsimp only
              rw [m_inX (lo := 0) (hi := 1) h2 (by omega) (by omega) (by omega), bnd0]
      · refine both_pure hi' ⟨-1, ?_, ?_⟩
        · unfold f_GraveRails_look
          rw [ct, bnd1]
          dsimp only
          rw [if_neg (fun z => (i32_neg h1).mp z)]
          exact if_pos (by rw [show (99 : Int32) = i32 99 from rfl, i32_lt (by omega) h1]; omega)
        · unfold f_Model_look
          rw [mt, bnd1]
          dsimp only
          rw [m_inX (lo := 0) (hi := 99) h1 (by omega) (by omega) (by omega), bnd0]
  · rw [if_neg hL] at ct mt
    refine both_pure hi' ⟨-1, ?_, ?_⟩
    · unfold f_GraveRails_look
      rw [ct, bnd0]
    · unfold f_Model_look
      rw [mt, bnd0]
