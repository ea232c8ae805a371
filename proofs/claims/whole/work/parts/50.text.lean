/-! ===== the text constants' own calls ===== -/
theorem hs_backW {g : hs_G} {p : Program} {l : Launch} {e : Env} {R : Room} {s : State} {m : MethodId} {args : Array Value} {below : List Frame} {meth : Method} {c : Code} {cells slots : Nat} {Q : State → Prop} {pc : Nat} {stv rest : List Value} {μ' : hs_M} {ls : Array Slot} {H : Heap} {locs : List Loc} {r : Option hs_V} {a : Array Value}
    (hS : va_S (hs_gP g) s.heap H locs) (run : va_Run p l e R s m args below meth c H locs cells slots 0 0 (F0 m pc ls stv) rest (hs_Qc g r μ' a) (hs_gP g))
    (kk : ∀ (H1 : Heap) (locs1 : List Loc), hs_Wd g μ' H1 → va_S (hs_gP g) s.heap H1 locs1 → W p l e R s m args below meth c H1 locs1 cells slots Q (F0 m (pc + 3) ls ((r.map (hs_enc g)).toList ++ rest))) : W p l e R s m args below meth c H locs cells slots Q (F0 m pc ls stv) := by
  intro T hT X
  obtain ⟨v, st₀, t, T', Lc, h0, X', hL, e1, e2, ⟨hv, hw, hz, hk1⟩, stp⟩ := run T hT X
  cases hv
  rw [h0] at hz hk1
  obtain ⟨t2, a1, b1⟩ := kk T'.heap (locs ++ Lc) (by rw [e1]; exact hw) ⟨Nat.le_trans hS.1 (by rw [e1]; exact hz), fun q h1 h2 => by rw [e1, hk1 q (Nat.lt_of_lt_of_le h1 hS.1) h2]; exact hS.2.1 q h1 h2, fun q hq => by
      rcases List.mem_append.mp hq with h | h
      · exact hS.2.2 q h
      · exact hL q h⟩ T' rfl X'
  exact ⟨t2, stp t2 a1, b1⟩
abbrev hs_y (C n d : String) : MethodName := ⟨C, n, d⟩
def hs_rmJ (n : Nat) : Room := { frames := n, cells := 0, slots := 0, locals := 48 * n }
abbrev hs_y_coder : MethodName := ⟨"java/lang/String", "coder", "()B"⟩
def hs_w_coder : List Cond := .code hs_y_coder (hs_code 1492) 1 (some .byte) :: hs_GW
theorem hs_c_coder : hs_isC 1492 hs_y_coder 1 (some .byte) = true := by decide +kernel
theorem hs_g_coder : GoodIn hs_GW hs_w_coder := by
  unfold hs_w_coder
  exact hs_goodC hs_c_coder
theorem hs_d_coder_0 : decode (hs_code 1492) 0 = .ok (.getstatic 38, 3) := by decide +kernel
theorem hs_d_coder_3 : decode (hs_code 1492) 3 = .ok (.ifCond .eq 10, 3) := by decide +kernel
theorem hs_d_coder_6 : decode (hs_code 1492) 6 = .ok (.aload_n 0, 1) := by decide +kernel
theorem hs_d_coder_7 : decode (hs_code 1492) 7 = .ok (.getfield 15, 3) := by decide +kernel
theorem hs_d_coder_10 : decode (hs_code 1492) 10 = .ok (.goto 4, 3) := by decide +kernel
theorem hs_d_coder_13 : decode (hs_code 1492) 13 = .ok (.iconst 1, 1) := by decide +kernel
theorem hs_d_coder_14 : decode (hs_code 1492) 14 = .ok (.ireturn, 1) := by decide +kernel
abbrev hs_y_isl : MethodName := ⟨"java/lang/String", "isLatin1", "()Z"⟩
def hs_w_isl : List Cond := .code hs_y_isl (hs_code 1502) 1 (some .boolean) :: hs_GW
theorem hs_c_isl : hs_isC 1502 hs_y_isl 1 (some .boolean) = true := by decide +kernel
theorem hs_g_isl : GoodIn hs_GW hs_w_isl := by
  unfold hs_w_isl
  exact hs_goodC hs_c_isl
theorem hs_d_isl_0 : decode (hs_code 1502) 0 = .ok (.getstatic 38, 3) := by decide +kernel
theorem hs_d_isl_3 : decode (hs_code 1502) 3 = .ok (.ifCond .eq 14, 3) := by decide +kernel
theorem hs_d_isl_6 : decode (hs_code 1502) 6 = .ok (.aload_n 0, 1) := by decide +kernel
theorem hs_d_isl_7 : decode (hs_code 1502) 7 = .ok (.getfield 15, 3) := by decide +kernel
theorem hs_d_isl_10 : decode (hs_code 1502) 10 = .ok (.ifCond .ne 7, 3) := by decide +kernel
theorem hs_d_isl_13 : decode (hs_code 1502) 13 = .ok (.iconst 1, 1) := by decide +kernel
theorem hs_d_isl_14 : decode (hs_code 1502) 14 = .ok (.goto 4, 3) := by decide +kernel
theorem hs_d_isl_17 : decode (hs_code 1502) 17 = .ok (.iconst 0, 1) := by decide +kernel
theorem hs_d_isl_18 : decode (hs_code 1502) 18 = .ok (.ireturn, 1) := by decide +kernel
theorem hs_c_len : hs_isC 1488 hs_y_len 1 (some .int) = true := by decide +kernel
theorem hs_g_len : GoodIn hs_GW hs_w_len := by
  unfold hs_w_len
  exact hs_goodC hs_c_len
theorem hs_d_len_0 : decode (hs_code 1488) 0 = .ok (.aload_n 0, 1) := by decide +kernel
theorem hs_d_len_1 : decode (hs_code 1488) 1 = .ok (.getfield 9, 3) := by decide +kernel
theorem hs_d_len_4 : decode (hs_code 1488) 4 = .ok (.arraylength, 1) := by decide +kernel
theorem hs_d_len_5 : decode (hs_code 1488) 5 = .ok (.aload_n 0, 1) := by decide +kernel
theorem hs_d_len_6 : decode (hs_code 1488) 6 = .ok (.invokevirtual 335, 3) := by decide +kernel
theorem hs_d_len_9 : decode (hs_code 1488) 9 = .ok (.ishr, 1) := by decide +kernel
theorem hs_d_len_10 : decode (hs_code 1488) 10 = .ok (.ireturn, 1) := by decide +kernel
abbrev hs_y_pck : MethodName := ⟨"jdk/internal/util/Preconditions", "checkIndex", "(IILjava/util/function/BiFunction;)I"⟩
def hs_w_pck : List Cond := .code hs_y_pck (hs_code 1513) 3 (some .int) :: hs_GW
theorem hs_c_pck : hs_isC 1513 hs_y_pck 3 (some .int) = true := by decide +kernel
theorem hs_g_pck : GoodIn hs_GW hs_w_pck := by
  unfold hs_w_pck
  exact hs_goodC hs_c_pck
theorem hs_d_pck_0 : decode (hs_code 1513) 0 = .ok (.iload_n 0, 1) := by decide +kernel
theorem hs_d_pck_1 : decode (hs_code 1513) 1 = .ok (.ifCond .lt 8, 3) := by decide +kernel
theorem hs_d_pck_4 : decode (hs_code 1513) 4 = .ok (.iload_n 0, 1) := by decide +kernel
theorem hs_d_pck_5 : decode (hs_code 1513) 5 = .ok (.iload_n 1, 1) := by decide +kernel
theorem hs_d_pck_6 : decode (hs_code 1513) 6 = .ok (.if_icmp .lt 10, 3) := by decide +kernel
theorem hs_d_pck_9 : decode (hs_code 1513) 9 = .ok (.aload_n 2, 1) := by decide +kernel
theorem hs_d_pck_10 : decode (hs_code 1513) 10 = .ok (.iload_n 0, 1) := by decide +kernel
theorem hs_d_pck_11 : decode (hs_code 1513) 11 = .ok (.iload_n 1, 1) := by decide +kernel
theorem hs_d_pck_12 : decode (hs_code 1513) 12 = .ok (.invokestatic 95, 3) := by decide +kernel
theorem hs_d_pck_15 : decode (hs_code 1513) 15 = .ok (.athrow, 1) := by decide +kernel
theorem hs_d_pck_16 : decode (hs_code 1513) 16 = .ok (.iload_n 0, 1) := by decide +kernel
theorem hs_d_pck_17 : decode (hs_code 1513) 17 = .ok (.ireturn, 1) := by decide +kernel
abbrev hs_y_sck : MethodName := ⟨"java/lang/String", "checkIndex", "(II)V"⟩
def hs_w_sck : List Cond := .code hs_y_sck (hs_code 1508) 2 none :: hs_GW
theorem hs_c_sck : hs_isC 1508 hs_y_sck 2 none = true := by decide +kernel
theorem hs_g_sck : GoodIn hs_GW hs_w_sck := by
  unfold hs_w_sck
  exact hs_goodC hs_c_sck
theorem hs_d_sck_0 : decode (hs_code 1508) 0 = .ok (.iload_n 0, 1) := by decide +kernel
theorem hs_d_sck_1 : decode (hs_code 1508) 1 = .ok (.iload_n 1, 1) := by decide +kernel
theorem hs_d_sck_2 : decode (hs_code 1508) 2 = .ok (.getstatic 1053, 3) := by decide +kernel
theorem hs_d_sck_5 : decode (hs_code 1508) 5 = .ok (.invokestatic 1059, 3) := by decide +kernel
theorem hs_d_sck_8 : decode (hs_code 1508) 8 = .ok (.pop, 1) := by decide +kernel
theorem hs_d_sck_9 : decode (hs_code 1508) 9 = .ok (.return_, 1) := by decide +kernel
abbrev hs_y_lat : MethodName := ⟨"java/lang/StringLatin1", "charAt", "([BI)C"⟩
def hs_w_lat : List Cond := .code hs_y_lat (hs_code 1505) 2 (some .char) :: hs_GW
theorem hs_c_lat : hs_isC 1505 hs_y_lat 2 (some .char) = true := by decide +kernel
theorem hs_g_lat : GoodIn hs_GW hs_w_lat := by
  unfold hs_w_lat
  exact hs_goodC hs_c_lat
theorem hs_d_lat_0 : decode (hs_code 1505) 0 = .ok (.iload_n 1, 1) := by decide +kernel
theorem hs_d_lat_1 : decode (hs_code 1505) 1 = .ok (.aload_n 0, 1) := by decide +kernel
theorem hs_d_lat_2 : decode (hs_code 1505) 2 = .ok (.arraylength, 1) := by decide +kernel
theorem hs_d_lat_3 : decode (hs_code 1505) 3 = .ok (.invokestatic 9, 3) := by decide +kernel
theorem hs_d_lat_6 : decode (hs_code 1505) 6 = .ok (.aload_n 0, 1) := by decide +kernel
theorem hs_d_lat_7 : decode (hs_code 1505) 7 = .ok (.iload_n 1, 1) := by decide +kernel
theorem hs_d_lat_8 : decode (hs_code 1505) 8 = .ok (.baload, 1) := by decide +kernel
theorem hs_d_lat_9 : decode (hs_code 1505) 9 = .ok (.sipush 255, 3) := by decide +kernel
theorem hs_d_lat_12 : decode (hs_code 1505) 12 = .ok (.iand, 1) := by decide +kernel
theorem hs_d_lat_13 : decode (hs_code 1505) 13 = .ok (.i2c, 1) := by decide +kernel
theorem hs_d_lat_14 : decode (hs_code 1505) 14 = .ok (.ireturn, 1) := by decide +kernel
theorem hs_c_cha : hs_isC 1498 hs_y_cha 2 (some .char) = true := by decide +kernel
theorem hs_g_cha : GoodIn hs_GW hs_w_cha := by
  unfold hs_w_cha
  exact hs_goodC hs_c_cha
theorem hs_d_cha_0 : decode (hs_code 1498) 0 = .ok (.aload_n 0, 1) := by decide +kernel
theorem hs_d_cha_1 : decode (hs_code 1498) 1 = .ok (.invokevirtual 492, 3) := by decide +kernel
theorem hs_d_cha_4 : decode (hs_code 1498) 4 = .ok (.ifCond .eq 12, 3) := by decide +kernel
theorem hs_d_cha_7 : decode (hs_code 1498) 7 = .ok (.aload_n 0, 1) := by decide +kernel
theorem hs_d_cha_8 : decode (hs_code 1498) 8 = .ok (.getfield 9, 3) := by decide +kernel
theorem hs_d_cha_11 : decode (hs_code 1498) 11 = .ok (.iload_n 1, 1) := by decide +kernel
theorem hs_d_cha_12 : decode (hs_code 1498) 12 = .ok (.invokestatic 495, 3) := by decide +kernel
theorem hs_d_cha_15 : decode (hs_code 1498) 15 = .ok (.ireturn, 1) := by decide +kernel
theorem hs_d_cha_16 : decode (hs_code 1498) 16 = .ok (.aload_n 0, 1) := by decide +kernel
theorem hs_d_cha_17 : decode (hs_code 1498) 17 = .ok (.getfield 9, 3) := by decide +kernel
theorem hs_d_cha_20 : decode (hs_code 1498) 20 = .ok (.iload_n 1, 1) := by decide +kernel
theorem hs_d_cha_21 : decode (hs_code 1498) 21 = .ok (.invokestatic 498, 3) := by decide +kernel
theorem hs_d_cha_24 : decode (hs_code 1498) 24 = .ok (.ireturn, 1) := by decide +kernel
theorem hs_v_cs : Cond.fieldLink "java/lang/String" 38 "java/lang/String" "COMPACT_STRINGS" "Z" ∈ hs_GW := hs_is_in (i := 1493) (by decide +kernel)
theorem hs_v_co : Cond.fieldLink "java/lang/String" 15 "java/lang/String" "coder" "B" ∈ hs_GW := hs_is_in (i := 1923) (by decide +kernel)
theorem hs_v_va : Cond.fieldLink "java/lang/String" 9 "java/lang/String" "value" "[B" ∈ hs_GW := hs_is_in (i := 1922) (by decide +kernel)
theorem hs_v_si : Cond.fieldLink "java/lang/String" 1053 "jdk/internal/util/Preconditions" "SIOOBE_FORMATTER" "Ljava/util/function/BiFunction;" ∈ hs_GW := hs_is_in (i := 1509) (by decide +kernel)
theorem hs_v_mco : Cond.methodLink "java/lang/String" 335 hs_y_coder ∈ hs_GW := hs_is_in (i := 1489) (by decide +kernel)
theorem hs_v_mis : Cond.methodLink "java/lang/String" 492 hs_y_isl ∈ hs_GW := hs_is_in (i := 1499) (by decide +kernel)
theorem hs_v_mla : Cond.methodLink "java/lang/String" 495 hs_y_lat ∈ hs_GW := hs_is_in (i := 1503) (by decide +kernel)
theorem hs_v_mpc : Cond.methodLink "java/lang/String" 1059 hs_y_pck ∈ hs_GW := hs_is_in (i := 1511) (by decide +kernel)
theorem hs_v_msc : Cond.methodLink "java/lang/StringLatin1" 9 hs_y_sck ∈ hs_GW := hs_is_in (i := 1506) (by decide +kernel)
theorem hs_v_in_coder : Cond.instanceMethod hs_y_coder ∈ hs_GW := hs_is_in (i := 1490) (by decide +kernel)
theorem hs_v_se_coder : Cond.selects "java/lang/String" hs_y_coder hs_y_coder ∈ hs_GW := hs_is_in (i := 1491) (by decide +kernel)
theorem hs_v_in_isl : Cond.instanceMethod hs_y_isl ∈ hs_GW := hs_is_in (i := 1500) (by decide +kernel)
theorem hs_v_se_isl : Cond.selects "java/lang/String" hs_y_isl hs_y_isl ∈ hs_GW := hs_is_in (i := 1501) (by decide +kernel)
theorem hs_v_st_pck : Cond.static hs_y_pck ∈ hs_GW := hs_is_in (i := 1512) (by decide +kernel)
theorem hs_v_st_sck : Cond.static hs_y_sck ∈ hs_GW := hs_is_in (i := 1507) (by decide +kernel)
theorem hs_v_st_lat : Cond.static hs_y_lat ∈ hs_GW := hs_is_in (i := 1504) (by decide +kernel)
theorem hs_v_ni0 : Cond.initialized "java/lang/String" ∈ hs_GW := hs_is_in (i := 101) (by decide +kernel)
theorem hs_v_ni1 : Cond.initialized "java/lang/StringLatin1" ∈ hs_GW := hs_is_in (i := 102) (by decide +kernel)
theorem hs_v_ni3 : Cond.initialized "jdk/internal/util/Preconditions" ∈ hs_GW := hs_is_in (i := 103) (by decide +kernel)
set_option maxHeartbeats 4000000 in
theorem hs_m_coder (g : hs_G) (l : Launch) (μ : hs_M) {j : Nat} (hj : j < 5) : Met l hs_y_coder hs_w_coder (hs_rmJ 1) (va_Pc ([Value.ref (hs_gA g 90 j)]) (fun U => hs_Sf g U ∧ hs_Wd g μ U.heap)) (hs_Qc g (some (vI 0)) μ) 0 0 (hs_gP g) := by
  refine hs_ofW (cc := hs_code 1492) (maxL := 1) (ret := (some .byte)) (by decide +kernel) rfl ?_
  intro p e s m args below meth c s₁ B hml hv
  obtain ⟨rfl, hSf, hWd⟩ := hv
  have hexec := B.exec
  have hb := B.bytes
  have hr := B.returns
  have hlocks := B.notSynchronized
  have hts : ∀ w ∈ hs_GW, w.before _ s = true := fun w hw => atoms_spec (ws := hs_w_coder) B.pre w (List.mem_cons_of_mem _ hw)
  have hown : s.vm.findClass "java/lang/String" = some m.cls := findClass_of_methodNamed B.named
  have hS : va_S (hs_gP g) s.heap s.heap [] := va_S.rf
  have hl := lv_entry ([Value.ref (hs_gA g 90 j)]) (n := 1) (Nat.le_of_ble_eq_true rfl)
  rw [lg_entry_eq]
  generalize (lg_sl ([Value.ref (hs_gA g 90 j)]) ++ List.replicate (1 - (lg_sl ([Value.ref (hs_gA g 90 j)])).length) Slot.unset).toArray = ls at hl ⊢
  have hl : lv_has ls 1 [(0, .ref (hs_gA g 90 j))] := hl
  refine va_gets hexec hb hSf.2.2.2.1.2.2.1 hS hown (hts _ hs_v_cs) (fun x h => h) hs_d_coder_0 ?_
  refine lv_if_eq (tgt := 13) hexec hb hs_d_coder_3 (by decide) (fun q => absurd q (by decide)) (fun _ => ?_)
  refine lv_aload_n hexec hb hs_d_coder_6 rfl (lv_at hl 0 rfl) ?_
  refine vk_getf hexec hb (hSf.2.2.2.1.2.1.1 j hj).2.1 hS hown (hts _ hs_v_co) (fun x h => h) hs_d_coder_7 ?_
  refine lv_goto (tgt := 14) hexec hb hs_d_coder_10 (by decide) ?_
  exact W.zret (ty := .byte) hexec hb hr rfl (fun t ht _ => ⟨rfl, by rw [ht]; exact hWd, va_S.F hS ht⟩) hS.2.2 hs_d_coder_14 hlocks
set_option maxHeartbeats 4000000 in
theorem hs_m_isl (g : hs_G) (l : Launch) (μ : hs_M) {j : Nat} (hj : j < 5) : Met l hs_y_isl hs_w_isl (hs_rmJ 1) (va_Pc ([Value.ref (hs_gA g 90 j)]) (fun U => hs_Sf g U ∧ hs_Wd g μ U.heap)) (hs_Qc g (some (vI 1)) μ) 0 0 (hs_gP g) := by
  refine hs_ofW (cc := hs_code 1502) (maxL := 1) (ret := (some .boolean)) (by decide +kernel) rfl ?_
  intro p e s m args below meth c s₁ B hml hv
  obtain ⟨rfl, hSf, hWd⟩ := hv
  have hexec := B.exec
  have hb := B.bytes
  have hr := B.returns
  have hlocks := B.notSynchronized
  have hts : ∀ w ∈ hs_GW, w.before _ s = true := fun w hw => atoms_spec (ws := hs_w_isl) B.pre w (List.mem_cons_of_mem _ hw)
  have hown : s.vm.findClass "java/lang/String" = some m.cls := findClass_of_methodNamed B.named
  have hS : va_S (hs_gP g) s.heap s.heap [] := va_S.rf
  have hl := lv_entry ([Value.ref (hs_gA g 90 j)]) (n := 1) (Nat.le_of_ble_eq_true rfl)
  rw [lg_entry_eq]
  generalize (lg_sl ([Value.ref (hs_gA g 90 j)]) ++ List.replicate (1 - (lg_sl ([Value.ref (hs_gA g 90 j)])).length) Slot.unset).toArray = ls at hl ⊢
  have hl : lv_has ls 1 [(0, .ref (hs_gA g 90 j))] := hl
  refine va_gets hexec hb hSf.2.2.2.1.2.2.1 hS hown (hts _ hs_v_cs) (fun x h => h) hs_d_isl_0 ?_
  refine lv_if_eq (tgt := 17) hexec hb hs_d_isl_3 (by decide) (fun q => absurd q (by decide)) (fun _ => ?_)
  refine lv_aload_n hexec hb hs_d_isl_6 rfl (lv_at hl 0 rfl) ?_
  refine vk_getf hexec hb (hSf.2.2.2.1.2.1.1 j hj).2.1 hS hown (hts _ hs_v_co) (fun x h => h) hs_d_isl_7 ?_
  refine lv_if_ne (tgt := 17) hexec hb hs_d_isl_10 (by decide) (fun q => absurd rfl q) (fun _ => ?_)
  refine lv_iconst (v := 1) hexec hb hs_d_isl_13 (by decide) ?_
  refine lv_goto (tgt := 18) hexec hb hs_d_isl_14 (by decide) ?_
  exact W.zret (ty := .boolean) hexec hb hr (by decide) (fun t ht _ => ⟨rfl, by rw [ht]; exact hWd, va_S.F hS ht⟩) hS.2.2 hs_d_isl_18 hlocks
theorem hs_tlen {j : Nat} {t : List Nat} (h : hs_nth hs_texts j = some t) : (hs_texts.map List.length).getD j 0 = t.length := by
  have hj : j < 5 := hs_nth_lt _ _ _ h
  rcases (show j = 0 ∨ j = 1 ∨ j = 2 ∨ j = 3 ∨ j = 4 by omega) with e | e | e | e | e <;> subst e <;> cases h <;> rfl
theorem hs_tbyt {j : Nat} {t : List Nat} (h : hs_nth hs_texts j = some t) : (hs_texts.map (fun l => l.map (fun n => Int32.ofNat n))).getD j [] = t.map (fun n => Int32.ofNat n) ∧ ∀ k, k < t.length → t.getD k 0 < 128 := by
  have hj : j < 5 := hs_nth_lt _ _ _ h
  rcases (show j = 0 ∨ j = 1 ∨ j = 2 ∨ j = 3 ∨ j = 4 by omega) with e | e | e | e | e <;> subst e <;> cases h <;> exact ⟨rfl, by decide⟩
set_option maxHeartbeats 4000000 in
theorem hs_m_len (g : hs_G) (l : Launch) (μ : hs_M) {j : Nat} {t : List Nat} (ht0 : hs_nth hs_texts j = some t) : Met l hs_y_len hs_w_len (hs_rm 0) (va_Pc ([Value.ref (hs_gA g 90 j)]) (fun U => hs_Sf g U ∧ hs_Wd g μ U.heap)) (hs_Qc g (some (vI (Int32.ofNat t.length))) μ) 0 0 (hs_gP g) := by
  refine hs_ofW (cc := hs_code 1488) (maxL := 1) (ret := (some .int)) (by decide +kernel) rfl ?_
  intro p e s m args below meth c s₁ B hml hv
  obtain ⟨rfl, hSf, hWd⟩ := hv
  have hexec := B.exec
  have hb := B.bytes
  have hr := B.returns
  have hlocks := B.notSynchronized
  have hts : ∀ w ∈ hs_GW, w.before _ s = true := fun w hw => atoms_spec (ws := hs_w_len) B.pre w (List.mem_cons_of_mem _ hw)
  have hown : s.vm.findClass "java/lang/String" = some m.cls := findClass_of_methodNamed B.named
  have hS : va_S (hs_gP g) s.heap s.heap [] := va_S.rf
  have hl := lv_entry ([Value.ref (hs_gA g 90 j)]) (n := 1) (Nat.le_of_ble_eq_true rfl)
  rw [lg_entry_eq]
  generalize (lg_sl ([Value.ref (hs_gA g 90 j)]) ++ List.replicate (1 - (lg_sl ([Value.ref (hs_gA g 90 j)])).length) Slot.unset).toArray = ls at hl ⊢
  have hl : lv_has ls 1 [(0, .ref (hs_gA g 90 j))] := hl
  have hj : j < 5 := hs_nth_lt _ _ _ ht0
  have hlen : (hs_texts.map List.length).getD j 0 = t.length := hs_tlen ht0
  refine lv_aload_n hexec hb hs_d_len_0 rfl (lv_at hl 0 rfl) ?_
  refine vk_getf hexec hb (hSf.2.2.2.1.2.1.1 j hj).2.2.1 hS hown (hts _ hs_v_va) (fun x h => h) hs_d_len_1 ?_
  refine va_tlen hexec hb (hSf.2.2.2.1.2.1.1 j hj).2.2.2 hS rfl hs_d_len_4 ?_
  rw [hlen]
  refine lv_aload_n hexec hb hs_d_len_5 rfl (lv_at hl 0 rfl) ?_
  have hrecv := vk_recv hSf.2.2.2.1.2.1 hj hS
  refine hs_backW (a := (Value.ref (hs_gA g 90 j) :: []).toArray) (r := some (vI 0)) hS (va_runV (Ts := hs_GW) (C := "java/lang/String") (As := []) (rest := [.int (Int32.ofNat t.length)]) ⟨hexec, hb, hml, hown, hts⟩ (hs_m_coder g l μ hj) ⟨callB_of 0 hts hs_g_coder rfl rfl rfl (hts _ hs_v_ni0) (hts _ hs_v_mco) ⟨by decide +kernel, by decide +kernel, by decide +kernel⟩ ⟨by decide, by decide⟩, hts _ hs_v_in_coder, hts _ hs_v_se_coder⟩ ⟨hs_blind (as := [vR 90 j]), hrecv, fun U hU hW => ⟨rfl, hs_Sf_warm hSf hS hU hW, by rw [hU]; exact hWd⟩⟩ rfl rfl hl.1 rfl (lv_room (Nat.le_of_ble_eq_true rfl)) hs_d_len_6 ⟨Nat.le_refl _, Nat.le_refl _⟩) (fun H1 locs1 hWd1 hS1 => ?_)
  refine lv_ishr hexec hb hs_d_len_9 ?_
  rw [sb_shr0]
  exact W.iret hexec hb hr (fun t ht _ => ⟨rfl, by rw [ht]; exact hWd1, va_S.F hS1 ht⟩) hS1.2.2 hs_d_len_10 hlocks
set_option maxHeartbeats 4000000 in
theorem hs_m_pck (g : hs_G) (l : Launch) (μ : hs_M) {i n : Int32} (v : Value) (hv1 : v.category = 1) (h0 : 0 ≤ i) (h1 : i < n) : Met l hs_y_pck hs_w_pck (hs_rmJ 1) (va_Pc ([Value.int i, Value.int n, v]) (fun U => hs_Sf g U ∧ hs_Wd g μ U.heap)) (hs_Qc g (some (vI i)) μ) 0 0 (hs_gP g) := by
  refine hs_ofW (cc := hs_code 1513) (maxL := 3) (ret := (some .int)) (by decide +kernel) rfl ?_
  intro p e s m args below meth c s₁ B hml hv
  obtain ⟨rfl, hSf, hWd⟩ := hv
  have hexec := B.exec
  have hb := B.bytes
  have hr := B.returns
  have hlocks := B.notSynchronized
  have hts : ∀ w ∈ hs_GW, w.before _ s = true := fun w hw => atoms_spec (ws := hs_w_pck) B.pre w (List.mem_cons_of_mem _ hw)
  have hown : s.vm.findClass "jdk/internal/util/Preconditions" = some m.cls := findClass_of_methodNamed B.named
  have hS : va_S (hs_gP g) s.heap s.heap [] := va_S.rf
  have hl := lv_entry ([Value.int i, Value.int n, v]) (n := 3) (by simp [lg_sl, hv1, show (Value.int i).category = 1 from rfl, show (Value.int n).category = 1 from rfl])
  rw [lg_entry_eq]
  generalize (lg_sl ([Value.int i, Value.int n, v]) ++ List.replicate (3 - (lg_sl ([Value.int i, Value.int n, v])).length) Slot.unset).toArray = ls at hl ⊢
  have hl : lv_has ls 3 (lv_args 0 [Value.int i, Value.int n, v]) := hl
  refine lv_iload_n hexec hb hs_d_pck_0 rfl (lv_at hl 0 rfl) ?_
  refine lv_if_lt (tgt := 9) hexec hb hs_d_pck_1 (by decide) (fun q => absurd q (Int32.not_lt.mpr h0)) (fun _ => ?_)
  refine lv_iload_n hexec hb hs_d_pck_4 rfl (lv_at hl 0 rfl) ?_
  refine lv_iload_n hexec hb hs_d_pck_5 rfl (lv_at hl 1 rfl) ?_
  refine lv_icmp_lt (tgt := 16) hexec hb hs_d_pck_6 (by decide) (fun _ => ?_) (fun q => absurd h1 q)
  refine lv_iload_n hexec hb hs_d_pck_16 rfl (lv_at hl 0 rfl) ?_
  exact W.iret hexec hb hr (fun t ht _ => ⟨rfl, by rw [ht]; exact hWd, va_S.F hS ht⟩) hS.2.2 hs_d_pck_17 hlocks
set_option maxHeartbeats 4000000 in
theorem hs_m_sck (g : hs_G) (l : Launch) (μ : hs_M) {i n : Int32} (h0 : 0 ≤ i) (h1 : i < n) : Met l hs_y_sck hs_w_sck (hs_rmJ 2) (va_Pc ([Value.int i, Value.int n]) (fun U => hs_Sf g U ∧ hs_Wd g μ U.heap)) (hs_Qc g none μ) 0 0 (hs_gP g) := by
  refine hs_ofW (cc := hs_code 1508) (maxL := 2) (ret := none) (by decide +kernel) rfl ?_
  intro p e s m args below meth c s₁ B hml hv
  obtain ⟨rfl, hSf, hWd⟩ := hv
  have hexec := B.exec
  have hb := B.bytes
  have hr := B.returns
  have hlocks := B.notSynchronized
  have hts : ∀ w ∈ hs_GW, w.before _ s = true := fun w hw => atoms_spec (ws := hs_w_sck) B.pre w (List.mem_cons_of_mem _ hw)
  have hown : s.vm.findClass "java/lang/String" = some m.cls := findClass_of_methodNamed B.named
  have hS : va_S (hs_gP g) s.heap s.heap [] := va_S.rf
  have hl := lv_entry ([Value.int i, Value.int n]) (n := 2) (Nat.le_of_ble_eq_true rfl)
  rw [lg_entry_eq]
  generalize (lg_sl ([Value.int i, Value.int n]) ++ List.replicate (2 - (lg_sl ([Value.int i, Value.int n])).length) Slot.unset).toArray = ls at hl ⊢
  have hl : lv_has ls 2 [(0, .int i), (1, .int n)] := hl
  refine lv_iload_n hexec hb hs_d_sck_0 rfl (lv_at hl 0 rfl) ?_
  refine lv_iload_n hexec hb hs_d_sck_1 rfl (lv_at hl 1 rfl) ?_
  have key : ∀ v : Value, v.category = 1 → W p l e (headSpec hs_w_sck (hs_rmJ 2)).room s m [Value.int i, Value.int n].toArray below meth c s.heap [] 0 0 (MQ below (hs_Qc g none μ) [Value.int i, Value.int n].toArray s 0 0 (hs_gP g)) (F0 m 5 ls [v, .int n, .int i]) := by
    intro v hv
    refine hs_backW (a := [Value.int i, Value.int n, v].toArray) (r := some (vI i)) hS (va_runS (Ts := hs_GW) (As := [Value.int i, Value.int n, v]) (rest := []) ⟨hexec, hb, hml, hown, hts⟩ (hs_m_pck g l μ v hv h0 h1) ⟨callB_of 3 hts hs_g_pck rfl rfl rfl (hts _ hs_v_ni3) (hts _ hs_v_mpc) ⟨by decide +kernel, by decide +kernel, by decide +kernel⟩ ⟨by decide, by decide⟩, hts _ hs_v_st_pck⟩ ⟨fun a U f mk q => ⟨q.1, hs_Sf_calling f mk a q.2.1, q.2.2⟩, fun U hU hW => ⟨rfl, hs_Sf_warm hSf hS hU hW, by rw [hU]; exact hWd⟩⟩ rfl rfl hl.1 rfl (lv_room (Nat.le_of_ble_eq_true rfl)) hs_d_sck_5 ⟨Nat.le_refl _, Nat.le_refl _⟩) (fun H1 locs1 hWd1 hS1 => ?_)
    refine lv_pop hexec hb hs_d_sck_8 rfl ?_
    exact W.vret hexec hb hr (fun t ht _ => ⟨rfl, by rw [ht]; exact hWd1, va_S.F hS1 ht⟩) hS1.2.2 hs_d_sck_9 hlocks
  rcases hSf.2.2.2.1.2.2.2 with hz | ⟨t, hz⟩
  · exact va_gets hexec hb hz hS hown (hts _ hs_v_si) (fun x h => h) hs_d_sck_2 (key _ rfl)
  · exact va_gets hexec hb hz hS hown (hts _ hs_v_si) (fun x h => h) hs_d_sck_2 (key _ rfl)
set_option maxHeartbeats 4000000 in
theorem hs_m_lat (g : hs_G) (l : Launch) (μ : hs_M) {j : Nat} {t : List Nat} (ht0 : hs_nth hs_texts j = some t) {i : Int32} (hi : hs_in i t.length = true) : Met l hs_y_lat hs_w_lat (hs_rmJ 3) (va_Pc ([Value.ref (hs_gV g j), Value.int i]) (fun U => hs_Sf g U ∧ hs_Wd g μ U.heap)) (hs_Qc g (some (vI (Int32.ofNat (t.getD i.toNatClampNeg 0)))) μ) 0 0 (hs_gP g) := by
  refine hs_ofW (cc := hs_code 1505) (maxL := 2) (ret := (some .char)) (by decide +kernel) rfl ?_
  intro p e s m args below meth c s₁ B hml hv
  obtain ⟨rfl, hSf, hWd⟩ := hv
  have hexec := B.exec
  have hb := B.bytes
  have hr := B.returns
  have hlocks := B.notSynchronized
  have hts : ∀ w ∈ hs_GW, w.before _ s = true := fun w hw => atoms_spec (ws := hs_w_lat) B.pre w (List.mem_cons_of_mem _ hw)
  have hown : s.vm.findClass "java/lang/StringLatin1" = some m.cls := findClass_of_methodNamed B.named
  have hS : va_S (hs_gP g) s.heap s.heap [] := va_S.rf
  have hl := lv_entry ([Value.ref (hs_gV g j), Value.int i]) (n := 2) (Nat.le_of_ble_eq_true rfl)
  rw [lg_entry_eq]
  generalize (lg_sl ([Value.ref (hs_gV g j), Value.int i]) ++ List.replicate (2 - (lg_sl ([Value.ref (hs_gV g j), Value.int i])).length) Slot.unset).toArray = ls at hl ⊢
  have hl : lv_has ls 2 [(0, .ref (hs_gV g j)), (1, .int i)] := hl
  have hj : j < 5 := hs_nth_lt _ _ _ ht0
  have hlen : (hs_texts.map List.length).getD j 0 = t.length := hs_tlen ht0
  have hT := (hSf.2.2.2.1.2.1.1 j hj).2.2.2
  rw [hlen] at hT
  have hil := hs_in_lt hi
  have hi0 : 0 ≤ i := by
    simp only [hs_in, Bool.and_eq_true, decide_eq_true_eq] at hi
    exact hi.1
  have h31 : t.length < 2 ^ 31 := by
    rcases (show j = 0 ∨ j = 1 ∨ j = 2 ∨ j = 3 ∨ j = 4 by omega) with e | e | e | e | e <;> subst e <;> cases ht0 <;> decide
  obtain ⟨k, hk, ek⟩ : ∃ k : Nat, k < 2 ^ 31 ∧ i = nI k := nI_of (Int32.not_lt.mpr hi0)
  have hin : i < Int32.ofNat t.length := by
    rw [ek] at hil ⊢
    rw [nI_clamp hk] at hil
    exact nI_lt hil h31
  refine lv_iload_n hexec hb hs_d_lat_0 rfl (lv_at hl 1 rfl) ?_
  refine lv_aload_n hexec hb hs_d_lat_1 rfl (lv_at hl 0 rfl) ?_
  refine va_tlen hexec hb hT hS rfl hs_d_lat_2 ?_
  refine hs_backW (a := [Value.int i, Value.int (Int32.ofNat t.length)].toArray) (r := none) hS (va_runS (Ts := hs_GW) (As := [Value.int i, Value.int (Int32.ofNat t.length)]) (rest := []) ⟨hexec, hb, hml, hown, hts⟩ (hs_m_sck g l μ hi0 hin) ⟨callB_of 2 hts hs_g_sck rfl rfl rfl (hts _ hs_v_ni0) (hts _ hs_v_msc) ⟨by decide +kernel, by decide +kernel, by decide +kernel⟩ ⟨by decide, by decide⟩, hts _ hs_v_st_sck⟩ ⟨fun a U f mk q => ⟨q.1, hs_Sf_calling f mk a q.2.1, q.2.2⟩, fun U hU hW => ⟨rfl, hs_Sf_warm hSf hS hU hW, by rw [hU]; exact hWd⟩⟩ rfl rfl hl.1 rfl (lv_room (Nat.le_of_ble_eq_true rfl)) hs_d_lat_3 ⟨Nat.le_refl _, Nat.le_refl _⟩) (fun H1 locs1 hWd1 hS1 => ?_)
  refine lv_aload_n hexec hb hs_d_lat_6 rfl (lv_at hl 0 rfl) ?_
  refine lv_iload_n hexec hb hs_d_lat_7 rfl (lv_at hl 1 rfl) ?_
  have hby := hs_tbyt ht0
  have hval : ((hs_texts.map (fun l => l.map (fun n => Int32.ofNat n))).getD j []).getD i.toNatClampNeg 0 = nI (t.getD i.toNatClampNeg 0) := by
    rw [hby.1]
    simp [List.getD_eq_getElem?_getD, List.getElem?_map, List.getElem?_eq_getElem hil, nI]
  refine va_tb hexec hb hT hS1 (hs_in_vp hi) (v := .int (nI (t.getD i.toNatClampNeg 0))) (by rw [hval]) hs_d_lat_8 ?_
  have h128 := hby.2 _ hil
  generalize t.getD i.toNatClampNeg 0 = z at h128 ⊢
  refine lv_sipush (v := 255) hexec hb hs_d_lat_9 (by decide) ?_
  refine lv_iand hexec hb hs_d_lat_12 ?_
  have h1 : ∀ z, z < 128 → nI z &&& 255 = nI z ∧ ((nI z).toUInt32 % 65536).toInt32 = nI z ∧ narrow .char (.int (nI z)) = .int (nI z) := by decide +kernel
  rw [(h1 z h128).1]
  refine lv_i2c (v := nI z) hexec hb hs_d_lat_13 (h1 z h128).2.1 ?_
  exact W.zret (ty := .char) hexec hb hr (h1 z h128).2.2 (fun t ht _ => ⟨rfl, by rw [ht]; exact hWd1, va_S.F hS1 ht⟩) hS1.2.2 hs_d_lat_14 hlocks
set_option maxHeartbeats 4000000 in
theorem hs_m_cha (g : hs_G) (l : Launch) (μ : hs_M) {j : Nat} {t : List Nat} (ht0 : hs_nth hs_texts j = some t) {i : Int32} (hi : hs_in i t.length = true) : Met l hs_y_cha hs_w_cha (hs_rm 0) (va_Pc ([Value.ref (hs_gA g 90 j), Value.int i]) (fun U => hs_Sf g U ∧ hs_Wd g μ U.heap)) (hs_Qc g (some (vI (Int32.ofNat (t.getD i.toNatClampNeg 0)))) μ) 0 0 (hs_gP g) := by
  refine hs_ofW (cc := hs_code 1498) (maxL := 2) (ret := (some .char)) (by decide +kernel) rfl ?_
  intro p e s m args below meth c s₁ B hml hv
  obtain ⟨rfl, hSf, hWd⟩ := hv
  have hexec := B.exec
  have hb := B.bytes
  have hr := B.returns
  have hlocks := B.notSynchronized
  have hts : ∀ w ∈ hs_GW, w.before _ s = true := fun w hw => atoms_spec (ws := hs_w_cha) B.pre w (List.mem_cons_of_mem _ hw)
  have hown : s.vm.findClass "java/lang/String" = some m.cls := findClass_of_methodNamed B.named
  have hS : va_S (hs_gP g) s.heap s.heap [] := va_S.rf
  have hl := lv_entry ([Value.ref (hs_gA g 90 j), Value.int i]) (n := 2) (Nat.le_of_ble_eq_true rfl)
  rw [lg_entry_eq]
  generalize (lg_sl ([Value.ref (hs_gA g 90 j), Value.int i]) ++ List.replicate (2 - (lg_sl ([Value.ref (hs_gA g 90 j), Value.int i])).length) Slot.unset).toArray = ls at hl ⊢
  have hl : lv_has ls 2 [(0, .ref (hs_gA g 90 j)), (1, .int i)] := hl
  have hj : j < 5 := hs_nth_lt _ _ _ ht0
  have h128 := (hs_tbyt ht0).2 _ (hs_in_lt hi)
  refine lv_aload_n hexec hb hs_d_cha_0 rfl (lv_at hl 0 rfl) ?_
  have hrecv := vk_recv hSf.2.2.2.1.2.1 hj hS
  refine hs_backW (a := (Value.ref (hs_gA g 90 j) :: []).toArray) (r := some (vI 1)) hS (va_runV (Ts := hs_GW) (C := "java/lang/String") (As := []) (rest := []) ⟨hexec, hb, hml, hown, hts⟩ (hs_m_isl g l μ hj) ⟨callB_of 0 hts hs_g_isl rfl rfl rfl (hts _ hs_v_ni0) (hts _ hs_v_mis) ⟨by decide +kernel, by decide +kernel, by decide +kernel⟩ ⟨by decide, by decide⟩, hts _ hs_v_in_isl, hts _ hs_v_se_isl⟩ ⟨hs_blind (as := [vR 90 j]), hrecv, fun U hU hW => ⟨rfl, hs_Sf_warm hSf hS hU hW, by rw [hU]; exact hWd⟩⟩ rfl rfl hl.1 rfl (lv_room (Nat.le_of_ble_eq_true rfl)) hs_d_cha_1 ⟨Nat.le_refl _, Nat.le_refl _⟩) (fun H1 locs1 hWd1 hS1 => ?_)
  refine lv_if_eq (tgt := 16) hexec hb hs_d_cha_4 (by decide) (fun q => absurd q (by decide)) (fun _ => ?_)
  refine lv_aload_n hexec hb hs_d_cha_7 rfl (lv_at hl 0 rfl) ?_
  refine vk_getf hexec hb (hSf.2.2.2.1.2.1.1 j hj).2.2.1 hS1 hown (hts _ hs_v_va) (fun x h => h) hs_d_cha_8 ?_
  refine lv_iload_n hexec hb hs_d_cha_11 rfl (lv_at hl 1 rfl) ?_
  refine hs_backW (a := [Value.ref (hs_gV g j), Value.int i].toArray) (r := some (vI (Int32.ofNat (t.getD i.toNatClampNeg 0)))) hS1 (va_runS (Ts := hs_GW) (As := [Value.ref (hs_gV g j), Value.int i]) (rest := []) ⟨hexec, hb, hml, hown, hts⟩ (hs_m_lat g l μ ht0 hi) ⟨callB_of 2 hts hs_g_lat rfl rfl rfl (hts _ hs_v_ni1) (hts _ hs_v_mla) ⟨by decide +kernel, by decide +kernel, by decide +kernel⟩ ⟨by decide, by decide⟩, hts _ hs_v_st_lat⟩ ⟨fun a U f mk q => ⟨q.1, hs_Sf_calling f mk a q.2.1, q.2.2⟩, fun U hU hW => ⟨rfl, hs_Sf_warm hSf hS1 hU hW, by rw [hU]; exact hWd1⟩⟩ rfl rfl hl.1 rfl (lv_room (Nat.le_of_ble_eq_true rfl)) hs_d_cha_12 ⟨Nat.le_refl _, Nat.le_refl _⟩) (fun H2 locs2 hWd2 hS2 => ?_)
  have h1 : ∀ z, z < 128 → narrow .char (.int (Int32.ofNat z)) = .int (Int32.ofNat z) := by decide +kernel
  exact W.zret (ty := .char) hexec hb hr (h1 _ h128) (fun t ht _ => ⟨rfl, by rw [ht]; exact hWd2, va_S.F hS2 ht⟩) hS2.2.2 hs_d_cha_15 hlocks
theorem hs_txt_ok (g : hs_G) (l : Launch) : hs_txok g l (hs_rm 0) := fun _ _ μ ht => ⟨hs_m_len g l μ ht, fun _ hi => hs_m_cha g l μ ht hi⟩
