/-! ===== String constants: length() and charAt, the JDK's own code ===== -/
def mwx (y : MethodName) (b : ByteArray) (n : Nat) (r : Option FieldType) : List Cond := .code y b n r :: mm_gw
def mm_ch (i : Nat) (x : Int32) : Int32 := (mm_sb.getD i []).getD x.toNatClampNeg 0 &&& 255
abbrev ys_cod : MethodName := ⟨"java/lang/String", "coder", "()B"⟩
abbrev ws_cod : List Cond := mwx ys_cod prog_16_method_152_code 1 (some (.byte))
theorem ds_cod_0 : decode prog_16_method_152_code 0 = .ok (.getstatic 38, 3) := by decide +kernel
theorem ds_cod_3 : decode prog_16_method_152_code 3 = .ok (.ifCond .eq 10, 3) := by decide +kernel
theorem ds_cod_6 : decode prog_16_method_152_code 6 = .ok (.aload_n 0, 1) := by decide +kernel
theorem ds_cod_7 : decode prog_16_method_152_code 7 = .ok (.getfield 15, 3) := by decide +kernel
theorem ds_cod_10 : decode prog_16_method_152_code 10 = .ok (.goto 4, 3) := by decide +kernel
theorem ds_cod_13 : decode prog_16_method_152_code 13 = .ok (.iconst 1, 1) := by decide +kernel
theorem ds_cod_14 : decode prog_16_method_152_code 14 = .ok (.ireturn, 1) := by decide +kernel
theorem ks_cod : Cond.code ys_cod prog_16_method_152_code 1 (some (.byte)) ∈ mm_gw := mm_t3 (i := 61) rfl rfl
theorem ks_cod_i : Cond.instanceMethod ys_cod ∈ mm_gw := mm_t3 (i := 59) rfl rfl
theorem ks_cod_v : Cond.selects ys_cod.cls ys_cod ys_cod ∈ mm_gw := mm_t3 (i := 60) rfl rfl
theorem ks_cod_c : Cond.initialized ys_cod.cls ∈ mm_gw := mm_t1 (i := 16) rfl rfl
abbrev ys_lat : MethodName := ⟨"java/lang/String", "isLatin1", "()Z"⟩
abbrev ws_lat : List Cond := mwx ys_lat prog_16_method_154_code 1 (some (.boolean))
theorem ds_lat_0 : decode prog_16_method_154_code 0 = .ok (.getstatic 38, 3) := by decide +kernel
theorem ds_lat_3 : decode prog_16_method_154_code 3 = .ok (.ifCond .eq 14, 3) := by decide +kernel
theorem ds_lat_6 : decode prog_16_method_154_code 6 = .ok (.aload_n 0, 1) := by decide +kernel
theorem ds_lat_7 : decode prog_16_method_154_code 7 = .ok (.getfield 15, 3) := by decide +kernel
theorem ds_lat_10 : decode prog_16_method_154_code 10 = .ok (.ifCond .ne 7, 3) := by decide +kernel
theorem ds_lat_13 : decode prog_16_method_154_code 13 = .ok (.iconst 1, 1) := by decide +kernel
theorem ds_lat_14 : decode prog_16_method_154_code 14 = .ok (.goto 4, 3) := by decide +kernel
theorem ds_lat_17 : decode prog_16_method_154_code 17 = .ok (.iconst 0, 1) := by decide +kernel
theorem ds_lat_18 : decode prog_16_method_154_code 18 = .ok (.ireturn, 1) := by decide +kernel
theorem ks_lat : Cond.code ys_lat prog_16_method_154_code 1 (some (.boolean)) ∈ mm_gw := mm_t3 (i := 71) rfl rfl
theorem ks_lat_i : Cond.instanceMethod ys_lat ∈ mm_gw := mm_t3 (i := 69) rfl rfl
theorem ks_lat_v : Cond.selects ys_lat.cls ys_lat ys_lat ∈ mm_gw := mm_t3 (i := 70) rfl rfl
theorem ks_lat_c : Cond.initialized ys_lat.cls ∈ mm_gw := mm_t1 (i := 16) rfl rfl
abbrev ys_l1c : MethodName := ⟨"java/lang/StringLatin1", "charAt", "([BI)C"⟩
abbrev ws_l1c : List Cond := mwx ys_l1c prog_17_method_2_code 2 (some (.char))
theorem ds_l1c_0 : decode prog_17_method_2_code 0 = .ok (.iload_n 1, 1) := by decide +kernel
theorem ds_l1c_1 : decode prog_17_method_2_code 1 = .ok (.aload_n 0, 1) := by decide +kernel
theorem ds_l1c_2 : decode prog_17_method_2_code 2 = .ok (.arraylength, 1) := by decide +kernel
theorem ds_l1c_3 : decode prog_17_method_2_code 3 = .ok (.invokestatic 9, 3) := by decide +kernel
theorem ds_l1c_6 : decode prog_17_method_2_code 6 = .ok (.aload_n 0, 1) := by decide +kernel
theorem ds_l1c_7 : decode prog_17_method_2_code 7 = .ok (.iload_n 1, 1) := by decide +kernel
theorem ds_l1c_8 : decode prog_17_method_2_code 8 = .ok (.baload, 1) := by decide +kernel
theorem ds_l1c_9 : decode prog_17_method_2_code 9 = .ok (.sipush 255, 3) := by decide +kernel
theorem ds_l1c_12 : decode prog_17_method_2_code 12 = .ok (.iand, 1) := by decide +kernel
theorem ds_l1c_13 : decode prog_17_method_2_code 13 = .ok (.i2c, 1) := by decide +kernel
theorem ds_l1c_14 : decode prog_17_method_2_code 14 = .ok (.ireturn, 1) := by decide +kernel
theorem ks_l1c : Cond.code ys_l1c prog_17_method_2_code 2 (some (.char)) ∈ mm_gw := mm_t3 (i := 74) rfl rfl
theorem ks_l1c_s : Cond.static ys_l1c ∈ mm_gw := mm_t3 (i := 73) rfl rfl
theorem ks_l1c_c : Cond.initialized ys_l1c.cls ∈ mm_gw := mm_t1 (i := 17) rfl rfl
abbrev ys_chk : MethodName := ⟨"java/lang/String", "checkIndex", "(II)V"⟩
abbrev ws_chk : List Cond := mwx ys_chk prog_16_method_155_code 2 (none)
theorem ds_chk_0 : decode prog_16_method_155_code 0 = .ok (.iload_n 0, 1) := by decide +kernel
theorem ds_chk_1 : decode prog_16_method_155_code 1 = .ok (.iload_n 1, 1) := by decide +kernel
theorem ds_chk_2 : decode prog_16_method_155_code 2 = .ok (.getstatic 1053, 3) := by decide +kernel
theorem ds_chk_5 : decode prog_16_method_155_code 5 = .ok (.invokestatic 1059, 3) := by decide +kernel
theorem ds_chk_8 : decode prog_16_method_155_code 8 = .ok (.pop, 1) := by decide +kernel
theorem ds_chk_9 : decode prog_16_method_155_code 9 = .ok (.return_, 1) := by decide +kernel
theorem ks_chk : Cond.code ys_chk prog_16_method_155_code 2 (none) ∈ mm_gw := mm_t3 (i := 77) rfl rfl
theorem ks_chk_s : Cond.static ys_chk ∈ mm_gw := mm_t3 (i := 76) rfl rfl
theorem ks_chk_c : Cond.initialized ys_chk.cls ∈ mm_gw := mm_t1 (i := 16) rfl rfl
abbrev ys_pck : MethodName := ⟨"jdk/internal/util/Preconditions", "checkIndex", "(IILjava/util/function/BiFunction;)I"⟩
abbrev ws_pck : List Cond := mwx ys_pck prog_21_method_11_code 3 (some (.int))
theorem ds_pck_0 : decode prog_21_method_11_code 0 = .ok (.iload_n 0, 1) := by decide +kernel
theorem ds_pck_1 : decode prog_21_method_11_code 1 = .ok (.ifCond .lt 8, 3) := by decide +kernel
theorem ds_pck_4 : decode prog_21_method_11_code 4 = .ok (.iload_n 0, 1) := by decide +kernel
theorem ds_pck_5 : decode prog_21_method_11_code 5 = .ok (.iload_n 1, 1) := by decide +kernel
theorem ds_pck_6 : decode prog_21_method_11_code 6 = .ok (.if_icmp .lt 10, 3) := by decide +kernel
theorem ds_pck_9 : decode prog_21_method_11_code 9 = .ok (.aload_n 2, 1) := by decide +kernel
theorem ds_pck_10 : decode prog_21_method_11_code 10 = .ok (.iload_n 0, 1) := by decide +kernel
theorem ds_pck_11 : decode prog_21_method_11_code 11 = .ok (.iload_n 1, 1) := by decide +kernel
theorem ds_pck_12 : decode prog_21_method_11_code 12 = .ok (.invokestatic 95, 3) := by decide +kernel
theorem ds_pck_15 : decode prog_21_method_11_code 15 = .ok (.athrow, 1) := by decide +kernel
theorem ds_pck_16 : decode prog_21_method_11_code 16 = .ok (.iload_n 0, 1) := by decide +kernel
theorem ds_pck_17 : decode prog_21_method_11_code 17 = .ok (.ireturn, 1) := by decide +kernel
theorem ks_pck : Cond.code ys_pck prog_21_method_11_code 3 (some (.int)) ∈ mm_gw := mm_t3 (i := 82) rfl rfl
theorem ks_pck_s : Cond.static ys_pck ∈ mm_gw := mm_t3 (i := 81) rfl rfl
theorem ks_pck_c : Cond.initialized ys_pck.cls ∈ mm_gw := mm_t1 (i := 18) rfl rfl
abbrev ys_len : MethodName := ⟨"java/lang/String", "length", "()I"⟩
abbrev ws_len : List Cond := mwx ys_len prog_16_method_54_code 1 (some (.int))
theorem ds_len_0 : decode prog_16_method_54_code 0 = .ok (.aload_n 0, 1) := by decide +kernel
theorem ds_len_1 : decode prog_16_method_54_code 1 = .ok (.getfield 9, 3) := by decide +kernel
theorem ds_len_4 : decode prog_16_method_54_code 4 = .ok (.arraylength, 1) := by decide +kernel
theorem ds_len_5 : decode prog_16_method_54_code 5 = .ok (.aload_n 0, 1) := by decide +kernel
theorem ds_len_6 : decode prog_16_method_54_code 6 = .ok (.invokevirtual 335, 3) := by decide +kernel
theorem ds_len_9 : decode prog_16_method_54_code 9 = .ok (.ishr, 1) := by decide +kernel
theorem ds_len_10 : decode prog_16_method_54_code 10 = .ok (.ireturn, 1) := by decide +kernel
theorem ks_len : Cond.code ys_len prog_16_method_54_code 1 (some (.int)) ∈ mm_gw := mm_t3 (i := 57) rfl rfl
theorem ks_len_i : Cond.instanceMethod ys_len ∈ mm_gw := mm_t3 (i := 55) rfl rfl
theorem ks_len_v : Cond.selects ys_len.cls ys_len ys_len ∈ mm_gw := mm_t3 (i := 56) rfl rfl
theorem ks_len_c : Cond.initialized ys_len.cls ∈ mm_gw := mm_t1 (i := 16) rfl rfl
abbrev ys_cha : MethodName := ⟨"java/lang/String", "charAt", "(I)C"⟩
abbrev ws_cha : List Cond := mwx ys_cha prog_16_method_56_code 2 (some (.char))
theorem ds_cha_0 : decode prog_16_method_56_code 0 = .ok (.aload_n 0, 1) := by decide +kernel
theorem ds_cha_1 : decode prog_16_method_56_code 1 = .ok (.invokevirtual 492, 3) := by decide +kernel
theorem ds_cha_4 : decode prog_16_method_56_code 4 = .ok (.ifCond .eq 12, 3) := by decide +kernel
theorem ds_cha_7 : decode prog_16_method_56_code 7 = .ok (.aload_n 0, 1) := by decide +kernel
theorem ds_cha_8 : decode prog_16_method_56_code 8 = .ok (.getfield 9, 3) := by decide +kernel
theorem ds_cha_11 : decode prog_16_method_56_code 11 = .ok (.iload_n 1, 1) := by decide +kernel
theorem ds_cha_12 : decode prog_16_method_56_code 12 = .ok (.invokestatic 495, 3) := by decide +kernel
theorem ds_cha_15 : decode prog_16_method_56_code 15 = .ok (.ireturn, 1) := by decide +kernel
theorem ds_cha_16 : decode prog_16_method_56_code 16 = .ok (.aload_n 0, 1) := by decide +kernel
theorem ds_cha_17 : decode prog_16_method_56_code 17 = .ok (.getfield 9, 3) := by decide +kernel
theorem ds_cha_20 : decode prog_16_method_56_code 20 = .ok (.iload_n 1, 1) := by decide +kernel
theorem ds_cha_21 : decode prog_16_method_56_code 21 = .ok (.invokestatic 498, 3) := by decide +kernel
theorem ds_cha_24 : decode prog_16_method_56_code 24 = .ok (.ireturn, 1) := by decide +kernel
theorem ks_cha : Cond.code ys_cha prog_16_method_56_code 2 (some (.char)) ∈ mm_gw := mm_t3 (i := 67) rfl rfl
theorem ks_cha_i : Cond.instanceMethod ys_cha ∈ mm_gw := mm_t3 (i := 65) rfl rfl
theorem ks_cha_v : Cond.selects ys_cha.cls ys_cha ys_cha ∈ mm_gw := mm_t3 (i := 66) rfl rfl
theorem ks_cha_c : Cond.initialized ys_cha.cls ∈ mm_gw := mm_t1 (i := 16) rfl rfl
theorem ks_l335 : Cond.methodLink "java/lang/String" 335 ys_cod ∈ mm_gw := mm_t3 (i := 58) rfl rfl
theorem ks_l492 : Cond.methodLink "java/lang/String" 492 ys_lat ∈ mm_gw := mm_t3 (i := 68) rfl rfl
theorem ks_l495 : Cond.methodLink "java/lang/String" 495 ys_l1c ∈ mm_gw := mm_t3 (i := 72) rfl rfl
theorem ks_l9 : Cond.methodLink "java/lang/StringLatin1" 9 ys_chk ∈ mm_gw := mm_t3 (i := 75) rfl rfl
theorem ks_l1059 : Cond.methodLink "java/lang/String" 1059 ys_pck ∈ mm_gw := mm_t3 (i := 80) rfl rfl
theorem ks_f38 : Cond.fieldLink "java/lang/String" 38 "java/lang/String" "COMPACT_STRINGS" "Z" ∈ mm_gw := mm_t3 (i := 62) rfl rfl
theorem ks_f1053 : Cond.fieldLink "java/lang/String" 1053 "jdk/internal/util/Preconditions" "SIOOBE_FORMATTER" "Ljava/util/function/BiFunction;" ∈ mm_gw := mm_t3 (i := 78) rfl rfl
theorem ks_f9 : Cond.fieldLink "java/lang/String" 9 "java/lang/String" "value" "[B" ∈ mm_gw := mm_t8 (i := 8) rfl rfl
theorem ks_f15 : Cond.fieldLink "java/lang/String" 15 "java/lang/String" "coder" "B" ∈ mm_gw := mm_t8 (i := 9) rfl rfl
theorem mwx_in {y : MethodName} {b : ByteArray} {n : Nat} {r : Option FieldType} (h : Cond.code y b n r ∈ mm_gw) : ∀ w ∈ mwx y b n r, w ∈ mm_gw := by
  intro w hw
  rcases List.mem_cons.mp hw with rfl | hw
  · exact h
  · exact hw
theorem mm_slen : ∀ i, i < 8 → mm_sl.getD i 0 < 2 ^ 31 ∧ mm_sl.getD i 0 < 100 := by decide +kernel
theorem cs_cod (l : Launch) (G : mG) {i : Nat} (hi : i < 8) : Met l ys_cod ws_cod (mrm 0 0 0) (va_Pc [.ref (gA G (mstr + i))] (mEnv G)) (QcRead 0) 0 0 (fun _ => False) := by
  refine Met.ofW (cc := prog_16_method_152_code) (maxL := 1) (ret := some (.byte)) (by decide +kernel) rfl ?_
  intro p e s m args below meth c s₁ BB hml hv
  obtain ⟨rfl, E⟩ := hv
  obtain ⟨hs1, hs2, hs3, hs4⟩ := E.2.2.2.2.2.2.2.2.2.2.1.1 i hi
  have hx := BB.exec
  have hb := BB.bytes
  have hr := BB.returns
  have hts := atoms_spec (ws := ws_cod) BB.pre
  have hgw : ∀ w ∈ mm_gw, w.before _ s = true := fun w hw => hts w (List.mem_cons_of_mem _ hw)
  have hown : s.vm.findClass "java/lang/String" = some m.cls := findClass_of_methodNamed BB.named
  have hlocks := BB.notSynchronized
  have hS : va_S (gP G) s.heap s.heap [] := va_S.rf
  have hl := lv_entry ([.ref (gA G (mstr + i))]) (n := 1) (Nat.le_of_ble_eq_true rfl)
  rw [lg_entry_eq]
  generalize (lg_sl ([.ref (gA G (mstr + i))]) ++ List.replicate (1 - (lg_sl ([.ref (gA G (mstr + i))])).length) Slot.unset).toArray = ls at hl ⊢
  have hl : lv_has ls 1 [(0, .ref (gA G (mstr + i)))] := hl
  have hfix : CallFix p m c prog_16_method_152_code 1 s ([.ref (gA G (mstr + i))]).toArray mm_gw "java/lang/String" := ⟨hx, hb, hml, hown, hgw⟩
  refine va_gets hx hb E.2.2.2.2.2.2.2.2.2.2.2.1 hS hown (hgw _ ks_f38) (fun _ h => h) ds_cod_0 ?_
  refine lv_if_eq (tgt := 13) hx hb ds_cod_3 (by decide) (fun z => absurd z (by decide)) (fun _ => ?_)
  refine lv_aload_n hx hb ds_cod_6 rfl (lv_at hl 0 rfl) ?_
  refine vk_getf hx hb hs2 hS hown (hgw _ ks_f15) (fun _ h => h) ds_cod_7 ?_
  refine lv_goto (tgt := 14) hx hb ds_cod_10 (by decide) ?_
  exact W.zret (ty := .byte) hx hb hr (by decide) (fun t ht _ => ⟨rfl, ht⟩) (fun q h => by cases h) ds_cod_14 hlocks
theorem cs_lat (l : Launch) (G : mG) {i : Nat} (hi : i < 8) : Met l ys_lat ws_lat (mrm 0 0 0) (va_Pc [.ref (gA G (mstr + i))] (mEnv G)) (QcRead 1) 0 0 (fun _ => False) := by
  refine Met.ofW (cc := prog_16_method_154_code) (maxL := 1) (ret := some (.boolean)) (by decide +kernel) rfl ?_
  intro p e s m args below meth c s₁ BB hml hv
  obtain ⟨rfl, E⟩ := hv
  obtain ⟨hs1, hs2, hs3, hs4⟩ := E.2.2.2.2.2.2.2.2.2.2.1.1 i hi
  have hx := BB.exec
  have hb := BB.bytes
  have hr := BB.returns
  have hts := atoms_spec (ws := ws_lat) BB.pre
  have hgw : ∀ w ∈ mm_gw, w.before _ s = true := fun w hw => hts w (List.mem_cons_of_mem _ hw)
  have hown : s.vm.findClass "java/lang/String" = some m.cls := findClass_of_methodNamed BB.named
  have hlocks := BB.notSynchronized
  have hS : va_S (gP G) s.heap s.heap [] := va_S.rf
  have hl := lv_entry ([.ref (gA G (mstr + i))]) (n := 1) (Nat.le_of_ble_eq_true rfl)
  rw [lg_entry_eq]
  generalize (lg_sl ([.ref (gA G (mstr + i))]) ++ List.replicate (1 - (lg_sl ([.ref (gA G (mstr + i))])).length) Slot.unset).toArray = ls at hl ⊢
  have hl : lv_has ls 1 [(0, .ref (gA G (mstr + i)))] := hl
  have hfix : CallFix p m c prog_16_method_154_code 1 s ([.ref (gA G (mstr + i))]).toArray mm_gw "java/lang/String" := ⟨hx, hb, hml, hown, hgw⟩
  refine va_gets hx hb E.2.2.2.2.2.2.2.2.2.2.2.1 hS hown (hgw _ ks_f38) (fun _ h => h) ds_lat_0 ?_
  refine lv_if_eq (tgt := 17) hx hb ds_lat_3 (by decide) (fun z => absurd z (by decide)) (fun _ => ?_)
  refine lv_aload_n hx hb ds_lat_6 rfl (lv_at hl 0 rfl) ?_
  refine vk_getf hx hb hs2 hS hown (hgw _ ks_f15) (fun _ h => h) ds_lat_7 ?_
  refine lv_if_ne (tgt := 17) hx hb ds_lat_10 (by decide) (fun z => absurd rfl z) (fun _ => ?_)
  refine lv_iconst (v := 1) hx hb ds_lat_13 (by decide) ?_
  refine lv_goto (tgt := 18) hx hb ds_lat_14 (by decide) ?_
  exact W.zret (ty := .boolean) hx hb hr (by decide) (fun t ht _ => ⟨rfl, ht⟩) (fun q h => by cases h) ds_lat_18 hlocks
theorem cs_pck (l : Launch) (G : mG) {x : Int32} {n : Nat} (hn : n < 2 ^ 31) (hxn : vp_in x n) (r : Option Nat) : Met l ys_pck ws_pck (mrm 0 0 0) (va_Pc [.int x, .int (Int32.ofNat n), va_rf r] (mEnv G)) (QcRead x) 0 0 (fun _ => False) := by
  have hlen : (lg_sl ([.int x, .int (Int32.ofNat n), va_rf r])).length ≤ 3 := by cases r <;> exact Nat.le_of_ble_eq_true rfl
  have hlv : lv_args 0 [.int x, .int (Int32.ofNat n), va_rf r] = [(0, .int x), (1, .int (Int32.ofNat n)), (2, va_rf r)] := by cases r <;> rfl
  obtain ⟨j, hj, rfl⟩ := vp_in_of hxn hn
  refine Met.ofW (cc := prog_21_method_11_code) (maxL := 3) (ret := some (.int)) (by decide +kernel) rfl ?_
  intro p e s m args below meth c s₁ BB hml hv
  obtain ⟨rfl, E⟩ := hv
  have hx := BB.exec
  have hb := BB.bytes
  have hr := BB.returns
  have hts := atoms_spec (ws := ws_pck) BB.pre
  have hgw : ∀ w ∈ mm_gw, w.before _ s = true := fun w hw => hts w (List.mem_cons_of_mem _ hw)
  have hown : s.vm.findClass "jdk/internal/util/Preconditions" = some m.cls := findClass_of_methodNamed BB.named
  have hlocks := BB.notSynchronized
  have hS : va_S (gP G) s.heap s.heap [] := va_S.rf
  have hl := lv_entry ([.int (nI j), .int (Int32.ofNat n), va_rf r]) (n := 3) hlen
  rw [hlv] at hl
  rw [lg_entry_eq]
  generalize (lg_sl ([.int (nI j), .int (Int32.ofNat n), va_rf r]) ++ List.replicate (3 - (lg_sl ([.int (nI j), .int (Int32.ofNat n), va_rf r])).length) Slot.unset).toArray = ls at hl ⊢
  have hl : lv_has ls 3 [(0, .int (nI j)), (1, .int (Int32.ofNat n)), (2, va_rf r)] := hl
  have hfix : CallFix p m c prog_21_method_11_code 3 s ([.int (nI j), .int (Int32.ofNat n), va_rf r]).toArray mm_gw "jdk/internal/util/Preconditions" := ⟨hx, hb, hml, hown, hgw⟩
  refine lv_iload_n hx hb ds_pck_0 rfl (lv_at hl 0 rfl) ?_
  refine lv_if_lt (tgt := 9) hx hb ds_pck_1 (by decide) (fun z => absurd z (nI_pos (by omega))) (fun _ => ?_)
  refine lv_iload_n hx hb ds_pck_4 rfl (lv_at hl 0 rfl) ?_
  refine lv_iload_n hx hb ds_pck_5 rfl (lv_at hl 1 rfl) ?_
  refine lv_icmp_lt (tgt := 16) hx hb ds_pck_6 (by decide) (fun _ => ?_) (fun z => absurd (nI_lt hj hn) z)
  refine lv_iload_n hx hb ds_pck_16 rfl (lv_at hl 0 rfl) ?_
  exact W.iret hx hb hr (fun t ht _ => ⟨rfl, ht⟩) (fun q h => by cases h) ds_pck_17 hlocks
def QsV : Array Value → State → Outcome → State → Prop := fun _ st o t => o = .returned none ∧ t.heap = st.heap
theorem cs_chk (l : Launch) (G : mG) {x : Int32} {n : Nat} (hn : n < 2 ^ 31) (hxn : vp_in x n) : Met l ys_chk ws_chk (mrm 1 0 0) (va_Pc [.int x, .int (Int32.ofNat n)] (mEnv G)) (va_Sv (fun _ => True)) 0 0 (fun _ => False) := by
  refine Met.ofW (cc := prog_16_method_155_code) (maxL := 2) (ret := none) (by decide +kernel) rfl ?_
  intro p e s m args below meth c s₁ BB hml hv
  obtain ⟨rfl, E⟩ := hv
  have hx := BB.exec
  have hb := BB.bytes
  have hr := BB.returns
  have hts := atoms_spec (ws := ws_chk) BB.pre
  have hgw : ∀ w ∈ mm_gw, w.before _ s = true := fun w hw => hts w (List.mem_cons_of_mem _ hw)
  have hown : s.vm.findClass "java/lang/String" = some m.cls := findClass_of_methodNamed BB.named
  have hlocks := BB.notSynchronized
  have hS : va_S (gP G) s.heap s.heap [] := va_S.rf
  have hl := lv_entry ([.int x, .int (Int32.ofNat n)]) (n := 2) (Nat.le_of_ble_eq_true rfl)
  rw [lg_entry_eq]
  generalize (lg_sl ([.int x, .int (Int32.ofNat n)]) ++ List.replicate (2 - (lg_sl ([.int x, .int (Int32.ofNat n)])).length) Slot.unset).toArray = ls at hl ⊢
  have hl : lv_has ls 2 [(0, .int x), (1, .int (Int32.ofNat n))] := hl
  have hfix : CallFix p m c prog_16_method_155_code 2 s ([.int x, .int (Int32.ofNat n)]).toArray mm_gw "java/lang/String" := ⟨hx, hb, hml, hown, hgw⟩
  refine lv_iload_n hx hb ds_chk_0 rfl (lv_at hl 0 rfl) ?_
  refine lv_iload_n hx hb ds_chk_1 rfl (lv_at hl 1 rfl) ?_
  have hZ := E.2.2.2.2.2.2.2.2.2.2.2.2
  obtain ⟨r, hZr⟩ : ∃ r : Option Nat, va_Z "jdk/internal/util/Preconditions" "SIOOBE_FORMATTER" "Ljava/util/function/BiFunction;" (va_rf r) (gP G) s s.heap := by
    rcases hZ with h | ⟨t, h⟩
    · exact ⟨none, h⟩
    · exact ⟨some t, h⟩
  refine va_gets hx hb hZr hS hown (hgw _ ks_f1053) (fun _ h => h) ds_chk_2 ?_
  refine W.callR (W.runS (As := [.int x, .int (Int32.ofNat n), va_rf r]) (rest := []) hfix (cs_pck l G hn hxn r) (va_cwS 3 hgw (mm_goodin (fun w hw => by
    unfold va_wsS at hw
    rcases List.mem_append.mp hw with hw | hw
    · simp only [List.mem_cons, List.not_mem_nil, or_false] at hw
      rcases hw with rfl | rfl | rfl
      · exact ks_l1059
      · exact ks_pck_s
      · exact ks_pck_c
    · exact mwx_in ks_pck w hw)) rfl rfl rfl (by decide +kernel) ⟨Nat.le_of_ble_eq_true rfl, Nat.le_of_ble_eq_true rfl⟩) ⟨fun a U g mk q => ⟨q.1, mEnv_calling q.2⟩, fun U hU hW => ⟨rfl, mEnv_move E hW hU hS⟩⟩ rfl rfl hl.1 rfl (lv_room (Nat.le_of_ble_eq_true rfl)) ds_chk_5 ⟨Nat.le_of_ble_eq_true rfl, Nat.le_of_ble_eq_true rfl⟩) ?_
  refine lv_pop hx hb ds_chk_8 rfl ?_
  exact W.vret hx hb hr (fun t ht _ => ⟨rfl, trivial, ht⟩) (fun q h => by cases h) ds_chk_9 hlocks
theorem cs_l1c (l : Launch) (G : mG) {i : Nat} (hi : i < 8) {x : Int32} (hxn : vp_in x (mm_sl.getD i 0)) : Met l ys_l1c ws_l1c (mrm 2 0 0) (va_Pc [.ref (gV G i), .int x] (mEnv G)) (QcRead (mm_ch i x)) 0 0 (fun _ => False) := by
  have hn := (mm_slen i hi).1
  refine Met.ofW (cc := prog_17_method_2_code) (maxL := 2) (ret := some (.char)) (by decide +kernel) rfl ?_
  intro p e s m args below meth c s₁ BB hml hv
  obtain ⟨rfl, E⟩ := hv
  obtain ⟨hs1, hs2, hs3, hs4⟩ := E.2.2.2.2.2.2.2.2.2.2.1.1 i hi
  have hx := BB.exec
  have hb := BB.bytes
  have hr := BB.returns
  have hts := atoms_spec (ws := ws_l1c) BB.pre
  have hgw : ∀ w ∈ mm_gw, w.before _ s = true := fun w hw => hts w (List.mem_cons_of_mem _ hw)
  have hown : s.vm.findClass "java/lang/StringLatin1" = some m.cls := findClass_of_methodNamed BB.named
  have hlocks := BB.notSynchronized
  have hS : va_S (gP G) s.heap s.heap [] := va_S.rf
  have hl := lv_entry ([.ref (gV G i), .int x]) (n := 2) (Nat.le_of_ble_eq_true rfl)
  rw [lg_entry_eq]
  generalize (lg_sl ([.ref (gV G i), .int x]) ++ List.replicate (2 - (lg_sl ([.ref (gV G i), .int x])).length) Slot.unset).toArray = ls at hl ⊢
  have hl : lv_has ls 2 [(0, .ref (gV G i)), (1, .int x)] := hl
  have hfix : CallFix p m c prog_17_method_2_code 2 s ([.ref (gV G i), .int x]).toArray mm_gw "java/lang/StringLatin1" := ⟨hx, hb, hml, hown, hgw⟩
  refine lv_iload_n hx hb ds_l1c_0 rfl (lv_at hl 1 rfl) ?_
  refine lv_aload_n hx hb ds_l1c_1 rfl (lv_at hl 0 rfl) ?_
  refine va_tlen hx hb hs4 hS rfl ds_l1c_2 ?_
  refine va_csv (W.runS (As := [.int x, .int (Int32.ofNat (mm_sl.getD i 0))]) (rest := []) hfix (cs_chk l G hn hxn) (va_cwS 2 hgw (mm_goodin (fun w hw => by
    unfold va_wsS at hw
    rcases List.mem_append.mp hw with hw | hw
    · simp only [List.mem_cons, List.not_mem_nil, or_false] at hw
      rcases hw with rfl | rfl | rfl
      · exact ks_l9
      · exact ks_chk_s
      · exact ks_chk_c
    · exact mwx_in ks_chk w hw)) rfl rfl rfl (by decide +kernel) ⟨Nat.le_of_ble_eq_true rfl, Nat.le_of_ble_eq_true rfl⟩) ⟨fun a U g mk q => ⟨q.1, mEnv_calling q.2⟩, fun U hU hW => ⟨rfl, mEnv_move E hW hU hS⟩⟩ rfl rfl hl.1 rfl (lv_room (Nat.le_of_ble_eq_true rfl)) ds_l1c_3 ⟨Nat.le_of_ble_eq_true rfl, Nat.le_of_ble_eq_true rfl⟩) (fun _ => ?_)
  refine lv_aload_n hx hb ds_l1c_6 rfl (lv_at hl 0 rfl) ?_
  refine lv_iload_n hx hb ds_l1c_7 rfl (lv_at hl 1 rfl) ?_
  refine va_tb hx hb hs4 hS hxn rfl ds_l1c_8 ?_
  refine lv_sipush (v := 255) hx hb ds_l1c_9 (by decide) ?_
  refine lv_iand hx hb ds_l1c_12 ?_
  refine lv_i2c hx hb ds_l1c_13 (sc_c2 _) ?_
  exact W.zret (ty := .char) hx hb hr (sc_nar _) (fun t ht _ => ⟨rfl, ht⟩) (fun q h => by cases h) ds_l1c_14 hlocks
theorem cs_len (l : Launch) (G : mG) (d : Nat) {i : Nat} (hi : i < 8) (M : mM) : Met l ys_len ws_len (mrm (d + 1) 0 0) (mPc G [.ref (mstr + i)] M) (mQc G (some (.int (Int32.ofNat (mm_sl.getD i 0)))) M) 0 0 (gP G) := by
  have hn := (mm_slen i hi).1
  refine Met.ofW (cc := prog_16_method_54_code) (maxL := 1) (ret := some (.int)) (by decide +kernel) rfl ?_
  intro p e s m args below meth c s₁ BB hml hv
  obtain ⟨ha, hsz, hWd, E⟩ := hv
  obtain rfl : args = ([.ref (gA G (mstr + i))] : List Value).toArray := ha
  obtain ⟨hs1, hs2, hs3, hs4⟩ := E.2.2.2.2.2.2.2.2.2.2.1.1 i hi
  have hrecv := vk_recv (H := s.heap) (locs := []) E.2.2.2.2.2.2.2.2.2.2.1 hi va_S.rf
  have hx := BB.exec
  have hb := BB.bytes
  have hr := BB.returns
  have hts := atoms_spec (ws := ws_len) BB.pre
  have hgw : ∀ w ∈ mm_gw, w.before _ s = true := fun w hw => hts w (List.mem_cons_of_mem _ hw)
  have hown : s.vm.findClass "java/lang/String" = some m.cls := findClass_of_methodNamed BB.named
  have hlocks := BB.notSynchronized
  have hS : va_S (gP G) s.heap s.heap [] := va_S.rf
  have hl := lv_entry ([.ref (gA G (mstr + i))]) (n := 1) (Nat.le_of_ble_eq_true rfl)
  rw [lg_entry_eq]
  generalize (lg_sl ([.ref (gA G (mstr + i))]) ++ List.replicate (1 - (lg_sl ([.ref (gA G (mstr + i))])).length) Slot.unset).toArray = ls at hl ⊢
  have hl : lv_has ls 1 [(0, .ref (gA G (mstr + i)))] := hl
  have hfix : CallFix p m c prog_16_method_54_code 1 s ([.ref (gA G (mstr + i))]).toArray mm_gw "java/lang/String" := ⟨hx, hb, hml, hown, hgw⟩
  refine lv_aload_n hx hb ds_len_0 rfl (lv_at hl 0 rfl) ?_
  refine vk_getf hx hb hs3 hS hown (hgw _ ks_f9) (fun _ h => h) ds_len_1 ?_
  refine va_tlen hx hb hs4 hS rfl ds_len_4 ?_
  refine lv_aload_n hx hb ds_len_5 rfl (lv_at hl 0 rfl) ?_
  refine W.callR (W.runV (As := []) (rest := [.int (Int32.ofNat (mm_sl.getD i 0))]) hfix (cs_cod l G hi) (cwV 0 hgw (mm_goodin (fun w hw => by
    unfold wsV at hw
    rcases List.mem_append.mp hw with hw | hw
    · simp only [List.mem_cons, List.not_mem_nil, or_false] at hw
      rcases hw with rfl | rfl | rfl | rfl
      · exact ks_l335
      · exact ks_cod_i
      · exact ks_cod_v
      · exact ks_cod_c
    · exact mwx_in ks_cod w hw)) rfl rfl rfl (by decide +kernel) ⟨by show 0 + 1 ≤ d + 1; omega, by show 8 + (1 + 11) + 60 * 0 ≤ 60 * (d + 1); omega⟩) ⟨fun a U g mk q => ⟨q.1, mEnv_calling q.2⟩, hrecv, fun U hU hW => ⟨rfl, mEnv_move E hW hU hS⟩⟩ rfl rfl hl.1 rfl (lv_room (Nat.le_of_ble_eq_true rfl)) ds_len_6 ⟨Nat.le_of_ble_eq_true rfl, Nat.le_of_ble_eq_true rfl⟩) ?_
  refine lv_ishr hx hb ds_len_9 ?_
  have e0 : Int32.ofNat (mm_sl.getD i 0) >>> ((0 : Int32) &&& 31) = Int32.ofNat (mm_sl.getD i 0) := sc_shr0 (by omega)
  rw [e0]
  exact W.iret hx hb hr (fun t ht _ => ⟨rfl, by rw [ht]; exact hWd, hS.F ht⟩) (fun q h => by cases h) ds_len_10 hlocks
theorem cs_cha (l : Launch) (G : mG) (d : Nat) {i : Nat} (hi : i < 8) {x : Int32} (hxn : vp_in x (mm_sl.getD i 0)) (M : mM) : Met l ys_cha ws_cha (mrm (d + 3) 0 0) (mPc G [.ref (mstr + i), .int x] M) (mQc G (some (.int (mm_ch i x))) M) 0 0 (gP G) := by
  have hn := (mm_slen i hi).1
  refine Met.ofW (cc := prog_16_method_56_code) (maxL := 2) (ret := some (.char)) (by decide +kernel) rfl ?_
  intro p e s m args below meth c s₁ BB hml hv
  obtain ⟨ha, hsz, hWd, E⟩ := hv
  obtain rfl : args = ([.ref (gA G (mstr + i)), .int x] : List Value).toArray := ha
  obtain ⟨hs1, hs2, hs3, hs4⟩ := E.2.2.2.2.2.2.2.2.2.2.1.1 i hi
  have hrecv := vk_recv (H := s.heap) (locs := []) E.2.2.2.2.2.2.2.2.2.2.1 hi va_S.rf
  have hx := BB.exec
  have hb := BB.bytes
  have hr := BB.returns
  have hts := atoms_spec (ws := ws_cha) BB.pre
  have hgw : ∀ w ∈ mm_gw, w.before _ s = true := fun w hw => hts w (List.mem_cons_of_mem _ hw)
  have hown : s.vm.findClass "java/lang/String" = some m.cls := findClass_of_methodNamed BB.named
  have hlocks := BB.notSynchronized
  have hS : va_S (gP G) s.heap s.heap [] := va_S.rf
  have hl := lv_entry ([.ref (gA G (mstr + i)), .int x]) (n := 2) (Nat.le_of_ble_eq_true rfl)
  rw [lg_entry_eq]
  generalize (lg_sl ([.ref (gA G (mstr + i)), .int x]) ++ List.replicate (2 - (lg_sl ([.ref (gA G (mstr + i)), .int x])).length) Slot.unset).toArray = ls at hl ⊢
  have hl : lv_has ls 2 [(0, .ref (gA G (mstr + i))), (1, .int x)] := hl
  have hfix : CallFix p m c prog_16_method_56_code 2 s ([.ref (gA G (mstr + i)), .int x]).toArray mm_gw "java/lang/String" := ⟨hx, hb, hml, hown, hgw⟩
  refine lv_aload_n hx hb ds_cha_0 rfl (lv_at hl 0 rfl) ?_
  refine W.callR (W.runV (As := []) (rest := []) hfix (cs_lat l G hi) (cwV 0 hgw (mm_goodin (fun w hw => by
    unfold wsV at hw
    rcases List.mem_append.mp hw with hw | hw
    · simp only [List.mem_cons, List.not_mem_nil, or_false] at hw
      rcases hw with rfl | rfl | rfl | rfl
      · exact ks_l492
      · exact ks_lat_i
      · exact ks_lat_v
      · exact ks_lat_c
    · exact mwx_in ks_lat w hw)) rfl rfl rfl (by decide +kernel) ⟨by show 0 + 1 ≤ d + 3; omega, by show 8 + (1 + 11) + 60 * 0 ≤ 60 * (d + 3); omega⟩) ⟨fun a U g mk q => ⟨q.1, mEnv_calling q.2⟩, hrecv, fun U hU hW => ⟨rfl, mEnv_move E hW hU hS⟩⟩ rfl rfl hl.1 rfl (lv_room (Nat.le_of_ble_eq_true rfl)) ds_cha_1 ⟨Nat.le_of_ble_eq_true rfl, Nat.le_of_ble_eq_true rfl⟩) ?_
  refine W.eq (g2 := F0 m 4 ls [.int 1]) rfl ?_
  refine lv_if_eq (tgt := 16) hx hb ds_cha_4 (by decide) (fun z => absurd z (by decide)) (fun _ => ?_)
  refine lv_aload_n hx hb ds_cha_7 rfl (lv_at hl 0 rfl) ?_
  refine vk_getf hx hb hs3 hS hown (hgw _ ks_f9) (fun _ h => h) ds_cha_8 ?_
  refine lv_iload_n hx hb ds_cha_11 rfl (lv_at hl 1 rfl) ?_
  refine W.callR (W.runS (As := [.ref (gV G i), .int x]) (rest := []) hfix (cs_l1c l G hi hxn) (va_cwS 2 hgw (mm_goodin (fun w hw => by
    unfold va_wsS at hw
    rcases List.mem_append.mp hw with hw | hw
    · simp only [List.mem_cons, List.not_mem_nil, or_false] at hw
      rcases hw with rfl | rfl | rfl
      · exact ks_l495
      · exact ks_l1c_s
      · exact ks_l1c_c
    · exact mwx_in ks_l1c w hw)) rfl rfl rfl (by decide +kernel) ⟨by show 2 + 1 ≤ d + 3; omega, by show 8 + (2 + 11) + 60 * 2 ≤ 60 * (d + 3); omega⟩) ⟨fun a U g mk q => ⟨q.1, mEnv_calling q.2⟩, fun U hU hW => ⟨rfl, mEnv_move E hW hU hS⟩⟩ rfl rfl hl.1 rfl (lv_room (Nat.le_of_ble_eq_true rfl)) ds_cha_12 ⟨Nat.le_of_ble_eq_true rfl, Nat.le_of_ble_eq_true rfl⟩) ?_
  exact W.zret (ty := .char) hx hb hr (sc_nar _) (fun t ht _ => ⟨rfl, by rw [ht]; exact hWd, hS.F ht⟩) (fun q h => by cases h) ds_cha_15 hlocks
