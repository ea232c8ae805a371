/-! ===== the law's helpers ===== -/
def hl_bw (i : Nat) : ByteArray := match lw_tbl[i]? with
  | some (.codeWith _ b _ _ _) => b
  | _ => .empty
theorem hl_w13 : Cond.classLink "HeavierServesLaw" 13 hl_NS ∈ hs_GW := hs_is_in (i := 1188) (by decide +kernel)
theorem hl_rmT_l (d : Nat) : (hl_rmT d).locals = 48 * d + 500 := rfl
theorem hl_room {n d L : Nat} (h : n ≤ 29) (hl : 48 + (48 * d + 500) ≤ L) : 8 + (n + 11) + (hl_rmT d).locals ≤ L := Nat.le_trans (Nat.add_le_add_right (show 8 + (n + 11) ≤ 48 by omega) _) hl
def hl_rmH (d : Nat) : Room := { frames := d + 20, cells := 1, slots := 6, locals := 48 * d + 800 }
/-- a virtual call of a method of the machine, its link's word given -/
theorem hl_callV {g : hs_G} {p : Program} {l : Launch} {e : Env} {R : Room} {s : State} {m : MethodId} {args : Array Value} {below : List Frame} {meth : Method} {c : Code} {cells slots own : Nat} {cc : ByteArray} {nL : Nat} {call : hs_C} {Q : State → Prop} (C : hs_Ctx g p l R s m args c cells slots own cc nL call) {idx pc y κ j : Nat} {L : hs_L} {pp st as : List hs_V} {μ μ' : hs_M} {r : Option hs_V}
    (hd : decode cc pc = .ok (.invokevirtual idx, 3)) (hy : y < 267) (hl : Cond.methodLink (hs_own own) idx (hs_nm y).1 ∈ hs_GW) (hn : pp.length = hs_np y + 1) (hst : (hs_mw y).2.2.2.1 = 0) (hκ : κ = (hs_mw y).1) (h13 : κ < 13) (has : pp.reverse = vR κ j :: as) (h8 : hs_cats st ≤ 8) (hc : call y pp.reverse μ = some (r, μ')) (hr0 : r = none → (hs_prog y).2.2 = 0) (hrv : ∀ v, r = some v → hs_ok v)
    (hk : hs_WS g p l e R s m args below meth c cells slots nL Q (pc + 3) L (r.toList ++ st) μ') : hs_WS g p l e R s m args below meth c cells slots nL Q pc L (pp ++ st) μ := by
  obtain ⟨hexec, hb, hml, hown, hts, hSf, hcs, -, rm, hrc, hrs, hrf, hrl, hco⟩ := C
  intro ls H locs hr
  have hoks := hs_args_ok hr.2.2.2.1
  have hM := hco y pp.reverse μ r μ' hy hc hr0 hoks
  have hm := hs_meth hy
  rw [has] at hM hoks
  have hppe : pp = as.reverse ++ [vR κ j] := by
    have := congrArg List.reverse has
    rw [List.reverse_reverse, List.reverse_cons] at this
    exact this
  have hj : j < hs_num κ := hs_ok_obj (hoks _ List.mem_cons_self) (by omega)
  obtain ⟨q, hq, hw⟩ := hs_ws_get g μ (show κ < 70 by omega) hj
  rw [hs_cell_obj h13] at hw
  have hcls : hs_cR κ = (hs_nm y).1.cls := by
    rw [hm.2.1, ← hκ]
    exact hs_c13 (P := fun κ => hs_cR κ = hs_own κ) rfl rfl rfl rfl rfl rfl rfl rfl rfl rfl rfl rfl rfl h13
  have hrecv := va_recv hSf.1 hr.2.2.2.2.1.1 (hs_clas_at h13) hw
  rw [show ((hs_cR κ, hs_cT κ, hs_cN κ) : vw_C).1 = (hs_nm y).1.cls from hcls] at hrecv
  have hp : PreV s H (hs_nm y).1.cls (hs_gA g κ j) (hs_Pc g (vR κ j :: as) μ) (as.map (hs_enc g)) := ⟨hs_blind, hrecv, fun U hU hW => ⟨rfl, hs_Sf_warm hSf hr.2.2.2.2.2 hU hW, by rw [hU]; exact hr.2.2.2.2.1⟩⟩
  have hstk : (pp ++ st).map (hs_enc g) = (as.map (hs_enc g)).reverse ++ .ref (hs_gA g κ j) :: st.map (hs_enc g) := by
    rw [hppe, List.map_append, List.map_append, List.map_reverse, List.append_assoc]
    rfl
  have h8' : 2 * (F0 m pc ls ((pp ++ st).map (hs_enc g))).monitorRoom + ((st.map (hs_enc g)).map fun v => v.category).sum ≤ 8 := lv_room (by rw [hs_cats_enc]; exact h8)
  have hlen : (as.map (hs_enc g)).length = hs_np y := by
    have := congrArg List.length has
    rw [List.length_reverse, hn, List.length_cons] at this
    rw [List.length_map]
    omega
  have hdd : (hs_nm y).1.cls ≠ "java/lang/invoke/MethodHandle" ∧ (hs_nm y).1.cls ≠ "java/lang/invoke/VarHandle" ∧ (parseMethodDescriptor (hs_nm y).1.desc).map (fun d => d.parameters.length) = some (hs_np y) := ⟨hm.2.2.2.2.2.2.1.1, hm.2.2.2.2.2.2.1.2, hs_npar hy⟩
  have hroom : rm.frames + 1 ≤ R.frames ∧ 8 + ((hs_nm y).2.2.1 + 11) + rm.locals ≤ R.locals := ⟨hrf, by have := hm.2.2.2.2.2.2.2.2; omega⟩
  refine hs_back (a := (Value.ref (hs_gA g κ j) :: as.map (hs_enc g)).toArray) hr (fun v hv => hr.2.2.2.1 v (List.mem_append_right _ hv)) hrv ?_ hk
  exact va_runV (Ts := hs_GW) ⟨hexec, hb, hml, hown, hts⟩ hM ⟨callB_of (hs_np y) hts (hs_good hy) rfl hrc hrs (hts _ hm.2.2.2.2.1) (hts _ hl) hdd hroom, hts _ (hm.2.2.2.1 hst).1, hts _ (hm.2.2.2.1 hst).2⟩ hp rfl hlen hr.1.1 hstk h8' hd ⟨by omega, by omega⟩

/-- a virtual call that throws, and the helper's row that takes it -/
theorem hl_callT {g : hs_G} {p : Program} {l : Launch} {e : Env} {R : Room} {s : State} {m : MethodId} {args : Array Value} {below : List Frame} {meth : Method} {c : Code} {cells slots : Nat} {cc : ByteArray} {nL : Nat} {call : hs_C} {Q : State → Prop} (C : hs_Ctx g p l R s m args c cells slots 13 cc nL call) (hSx : hl_Sx g s) {d idx pc y κ j : Nat} {L : hs_L} {pp st as : List hs_V} {μ : hs_M} {x : ExceptionTableEntry}
    (hlt : l.stackTraces = false) (hd : decode cc pc = .ok (.invokevirtual idx, 3)) (hy : y < 267) (hl : Cond.methodLink (hs_own 13) idx (hs_nm y).1 ∈ hs_GW) (hn : pp.length = hs_np y + 1) (hst : (hs_mw y).2.2.2.1 = 0) (hκ : κ = (hs_mw y).1) (h13 : κ < 13) (has : pp.reverse = vR κ j :: as) (h8 : hs_cats st ≤ 8) (hM : vx_Met l (hs_nm y).1 (hs_wsl y) (hl_rmT d) (hl_Pc g (vR κ j :: as) μ) (fun _ _ _ _ => False) (hl_XC g μ) 1 6 (hs_gP g)) (hRf : d + 12 + 1 ≤ R.frames) (hRl : 48 + (48 * d + 500) ≤ R.locals) (hRc : cells + 1 ≤ R.cells ∧ slots + 6 ≤ R.slots)
    (htab : c.exceptionTable.toList = [x]) (hx : covers x pc = true) (h0 : x.catchType = 13)
    (hk : ∀ (ls : Array Slot) (H : Heap) (locs : List Loc) (q : Addr), hs_rel g nL s L [] μ ls H locs → W p l e R s m args below meth c H locs (cells + 1) (slots + 6) Q (F0 m x.handlerPc ls [.ref q])) : hs_WS g p l e R s m args below meth c cells slots nL Q pc L (pp ++ st) μ := by
  obtain ⟨hexec, hb, hml, hown, hts, hSf, hcs, -, rm, hrc, hrs, hrf, hrl, hco⟩ := C
  intro ls H locs hr
  have hoks := hs_args_ok hr.2.2.2.1
  have hm := hs_meth hy
  rw [has] at hoks
  have hppe : pp = as.reverse ++ [vR κ j] := by
    have := congrArg List.reverse has
    rw [List.reverse_reverse, List.reverse_cons] at this
    exact this
  have hj : j < hs_num κ := hs_ok_obj (hoks _ List.mem_cons_self) (by omega)
  obtain ⟨q, hq, hw⟩ := hs_ws_get g μ (show κ < 70 by omega) hj
  rw [hs_cell_obj h13] at hw
  have hcls : hs_cR κ = (hs_nm y).1.cls := by
    rw [hm.2.1, ← hκ]
    exact hs_c13 (P := fun κ => hs_cR κ = hs_own κ) rfl rfl rfl rfl rfl rfl rfl rfl rfl rfl rfl rfl rfl h13
  have hrecv := va_recv hSf.1 hr.2.2.2.2.1.1 (hs_clas_at h13) hw
  rw [show ((hs_cR κ, hs_cT κ, hs_cN κ) : vw_C).1 = (hs_nm y).1.cls from hcls] at hrecv
  have hp : PreV s H (hs_nm y).1.cls (hs_gA g κ j) (hl_Pc g (vR κ j :: as) μ) (as.map (hs_enc g)) := ⟨hl_blind, hrecv, fun U hU hW => ⟨rfl, ⟨hs_Sf_warm hSf hr.2.2.2.2.2 hU hW, by rw [hU]; exact hr.2.2.2.2.1⟩, hl_Sx_warm hSx hr.2.2.2.2.2 hU hW⟩⟩
  have hstk : (pp ++ st).map (hs_enc g) = (as.map (hs_enc g)).reverse ++ .ref (hs_gA g κ j) :: st.map (hs_enc g) := by
    rw [hppe, List.map_append, List.map_append, List.map_reverse, List.append_assoc]
    rfl
  have h8' : 2 * (F0 m pc ls ((pp ++ st).map (hs_enc g))).monitorRoom + ((st.map (hs_enc g)).map fun v => v.category).sum ≤ 8 := lv_room (by rw [hs_cats_enc]; exact h8)
  have hlen : (as.map (hs_enc g)).length = hs_np y := by
    have := congrArg List.length has
    rw [List.length_reverse, hn, List.length_cons] at this
    rw [List.length_map]
    omega
  have hdd : (hs_nm y).1.cls ≠ "java/lang/invoke/MethodHandle" ∧ (hs_nm y).1.cls ≠ "java/lang/invoke/VarHandle" ∧ (parseMethodDescriptor (hs_nm y).1.desc).map (fun d => d.parameters.length) = some (hs_np y) := ⟨hm.2.2.2.2.2.2.1.1, hm.2.2.2.2.2.2.1.2, hs_npar hy⟩
  have hroom : (hl_rmT d).frames + 1 ≤ R.frames ∧ 8 + ((hs_nm y).2.2.1 + 11) + (hl_rmT d).locals ≤ R.locals := ⟨hRf, hl_room hm.2.2.2.2.2.2.2.2 hRl⟩
  intro T hT X
  rcases vx_runV (Ts := hs_GW) (g := F0 m pc ls ((pp ++ st).map (hs_enc g))) ⟨hexec, hb, hml, hown, hts⟩ hM ⟨callB_of (hs_np y) hts (hs_good hy) rfl rfl rfl (hts _ hm.2.2.2.2.1) (hts _ hl) hdd hroom, hts _ (hm.2.2.2.1 hst).1, hts _ (hm.2.2.2.1 hst).2⟩ hp rfl hlen hr.1.1 hstk h8' hd hRc T hT X with ⟨v, st₀, t, T', Lc, g0, X', hL, e1, e2, hF, -⟩ | ⟨q, st₀, t, T', Lc, E, ce, g0, X', hL, e1, e2, ⟨hE, hw, hz, hk1⟩, hce, hcv, hcl, stp⟩
  · exact hF.elim
  · rw [g0] at hz hk1
    have hrel : hs_rel g nL s L [] μ ls T'.heap (locs ++ Lc) := by
      refine ⟨hr.1, hr.2.1, hr.2.2.1, (fun v hv => by cases hv), by rw [e1]; exact hw, Nat.le_trans hr.2.2.2.2.2.1 (by rw [e1]; exact hz), ?_, ?_⟩
      · intro q h1 h2
        rw [e1, hk1 q (Nat.lt_of_lt_of_le h1 hr.2.2.2.2.2.1) h2]
        exact hr.2.2.2.2.2.2.1 q h1 h2
      · intro q hq
        rcases List.mem_append.mp hq with h | h
        · exact hr.2.2.2.2.2.2.2 q h
        · exact hL q h
    obtain ⟨t2, a1, b1⟩ := hl_catch (pc := pc) (rest := st.map (hs_enc g)) (own := "HeavierServesLaw") (name := hl_NS) (E := E) hown htab hx (by rw [h0]; decide) (by rw [h0]; exact hts _ hl_w13) (by rw [hE]; exact va_Nw.use rfl (hSx.1 _ List.mem_cons_self)) (by rw [e1]; exact hce) hcv hcl (hk ls T'.heap (locs ++ Lc) q hrel) T' rfl X'
    exact ⟨t2, stp.trans a1, b1⟩
/-! of -/
def hl_y_of : MethodName := ⟨"HeavierServesLaw", "of", "(LHeavierServes;II[J)I"⟩
def hl_k_of : hs_K := [[hz_r (.aload_n 3) 1, hz_r (.iconst 0) 1, hz_r (.aload_n 0) 1, hz_r (.iload_n 1) 1, hz_r (.iload_n 2) 1, hz_r (.invokevirtual 7) 3, hz_n, hz_n, hz_r (.i2l) 1, hz_r (.lastore) 1, hz_r (.goto 7) 3, hz_n, hz_n, hz_r (.astore 4) 2, hz_n, hz_r (.iconst 1) 1], [hz_r (.ireturn) 1, hz_r (.iconst 0) 1, hz_r (.ireturn) 1]]
def hl_b_of : ByteArray := hl_bw 1187
def hl_w_of : List Cond := .codeWith hl_y_of hl_b_of 5 (some .int) [(0, 10, 13, 13)] :: hs_GW
theorem hl_c_of : Cond.codeWith hl_y_of hl_b_of 5 (some .int) [(0, 10, 13, 13)] ∈ hs_GW := hs_is_in (i := 1187) (by decide +kernel)
theorem hl_k_of_ok : hs_ckk 13 hl_b_of 0 hl_k_of = true := by decide +kernel
theorem hl_l_of : Cond.methodLink (hs_own 13) 7 (hs_nm 113).1 ∈ hs_GW := hs_is_in (i := 1189) (by decide +kernel)
theorem hl_e1_of (d : Nat) (x1 : Int32) (x2 : Int32) (μ : hs_M) : hg_go hl_k_of d [5] 20 0 [some (vR 11 0), some (vI x1), some (vI x2), some (vR 69 0), none] [] μ = some ((5, [some (vR 11 0), some (vI x1), some (vI x2), some (vR 69 0), none], [vI x2, vI x1, vR 11 0, vI (0 : Int32), vR 69 0]), μ) := rfl
theorem hl_e2_of (d : Nat) (x1 : Int32) (x2 : Int32) (v : Int32) (μ : hs_M) : hg_go hl_k_of d [] 20 8 [some (vR 11 0), some (vI x1), some (vI x2), some (vR 69 0), none] [vI v, vI (0 : Int32), vR 69 0] μ = some ((18, [some (vR 11 0), some (vI x1), some (vI x2), some (vR 69 0), none], [vI (0 : Int32)]), hs_wL μ 69 0 0 v.toInt64) := rfl
theorem hl_h_of {g : hs_G} {l : Launch} {d : Nat} {x1 x2 : Int32} {μ : hs_M} {Qc : Array Value → State → Outcome → State → Prop} {XC : String → State → State → Prop} (body : ∀ (p : Program) (e : Env) (s : State) (m : MethodId) (below : List Frame) (meth : Method) (c : Code), hs_Ctx g p l (hl_rmH d) s m (([vR 11 0, vI x1, vI x2, vR 69 0].map (hs_enc g)).toArray) c 0 0 13 hl_b_of 5 (hs_call d) → hl_Sx g s → meth.sig.returnType = some .int → meth.locks = false → c.exceptionTable.toList = [⟨0, 10, 13, 13⟩] → hs_WS g p l e (hl_rmH d) s m (([vR 11 0, vI x1, vI x2, vR 69 0].map (hs_enc g)).toArray) below meth c 0 0 5 (vx_MQ below Qc XC (([vR 11 0, vI x1, vI x2, vR 69 0].map (hs_enc g)).toArray) s 1 6 (hs_gP g)) 5 [some (vR 11 0), some (vI x1), some (vI x2), some (vR 69 0), none] [vI x2, vI x1, vR 11 0, vI (0 : Int32), vR 69 0] μ) : vx_Met l hl_y_of hl_w_of (hl_rmH d) (hl_Pc g [vR 11 0, vI x1, vI x2, vR 69 0] μ) Qc XC 1 6 (hs_gP g) := by
  refine vx_ofWH (cc := hl_b_of) (maxL := 5) (ret := some .int) (by decide +kernel) rfl ?_
  intro p e s m args below meth c s₁ B hml hv
  obtain ⟨rfl, ⟨hSf, hWd⟩, hSx⟩ := hv
  have hexec := B.exec
  have hb := B.bytes
  have hts0 := atoms_spec (ws := hl_w_of) B.pre
  have hts : ∀ w ∈ hs_GW, w.before (([vR 11 0, vI x1, vI x2, vR 69 0].map (hs_enc g)).toArray) s = true := fun w hw => hts0 w (List.mem_cons_of_mem _ hw)
  have hown : s.vm.findClass (hs_own 13) = some m.cls := findClass_of_methodNamed B.named
  have C : hs_Ctx g p l (hl_rmH d) s m (([vR 11 0, vI x1, vI x2, vR 69 0].map (hs_enc g)).toArray) c 0 0 13 hl_b_of 5 (hs_call d) := by
    refine ⟨hexec, hb, hml, hown, hts, hSf, ⟨by show 0 ≤ 1; omega, by show 0 ≤ 6; omega⟩, ⟨by show 1 ≤ d + 20; omega, by show 48 ≤ 48 * d + 800; omega, hs_rm 0, rfl, rfl, by show 0 + 4 + 1 ≤ d + 20; omega, by show 48 + (48 * 0 + 200) ≤ 48 * d + 800; omega, hs_txt_ok g l⟩, hs_rm d, rfl, rfl, by show d + 4 + 1 ≤ d + 20; omega, by show 48 + (48 * d + 200) ≤ 48 * d + 800; omega, hs_sound g l (hs_txt_ok g l) hs_ckp_all d⟩
  have htab := vx_table (x := hl_y_of) B (hts _ hl_c_of)
  have hl := lv_entry ([vR 11 0, vI x1, vI x2, vR 69 0].map (hs_enc g)) (n := 5) (by rw [hs_sl_len]; exact (show 4 ≤ 5 by decide))
  rw [lg_entry_eq]
  generalize (lg_sl ([vR 11 0, vI x1, vI x2, vR 69 0].map (hs_enc g)) ++ List.replicate (5 - (lg_sl ([vR 11 0, vI x1, vI x2, vR 69 0].map (hs_enc g))).length) Slot.unset).toArray = ls at hl ⊢
  have hoks : ∀ v ∈ [vR 11 0, vI x1, vI x2, vR 69 0], hs_ok v := by
    intro v hv
    simp only [List.mem_cons, List.not_mem_nil, or_false] at hv
    rcases hv with rfl | rfl | rfl | rfl
    · exact Or.inl ⟨by decide, by decide⟩
    · exact trivial
    · exact trivial
    · exact Or.inl ⟨by decide, by decide⟩
  have hrel : hs_rel g 5 s (hs_ent [vR 11 0, vI x1, vI x2, vR 69 0] 5) [] μ ls s.heap [] := ⟨lv_less hl (hs_ent_el g [vR 11 0, vI x1, vI x2, vR 69 0] 0 _), hs_ent_len [vR 11 0, vI x1, vI x2, vR 69 0] _ (show 4 ≤ 5 by decide), fun k v hv => hoks v (hs_ent_mem [vR 11 0, vI x1, vI x2, vR 69 0] _ k v hv), (fun v hv => by cases hv), hWd, va_S.rf⟩
  exact hg_sound C hl_k_of_ok 20 0 [some (vR 11 0), some (vI x1), some (vI x2), some (vR 69 0), none] [] μ 5 [some (vR 11 0), some (vI x1), some (vI x2), some (vR 69 0), none] [vI x2, vI x1, vR 11 0, vI (0 : Int32), vR 69 0] μ (hl_e1_of d x1 x2 μ) (body p e s m below meth c C hSx B.returns B.notSynchronized htab) ls s.heap [] hrel
/-- the class's call returns -/
theorem hl_R_of (g : hs_G) (l : Launch) (d : Nat) {x1 x2 : Int32} {μ μ1 : hs_M} {v : Int32} (e1 : hs_call d 113 [vR 11 0, vI x1, vI x2] μ = some (some (vI v), μ1)) : vx_Met l hl_y_of hl_w_of (hl_rmH d) (hl_Pc g [vR 11 0, vI x1, vI x2, vR 69 0] μ) (hs_Qc g (some (vI 0)) (hs_wL μ1 69 0 0 v.toInt64)) (fun _ _ _ => False) 1 6 (hs_gP g) := by
  apply hl_h_of
  intro p e s m below meth c C hSx hrt hlocks htab
  refine hl_callV C (pp := [vI x2, vI x1, vR 11 0]) (st := [vI (0 : Int32), vR 69 0]) (as := [vI x1, vI x2]) (κ := 11) (j := 0) (y := 113) (hs_at_ok hl_k_of_ok (show hs_at hl_k_of 5 = some _ from rfl)).1 (by decide) hl_l_of (show 3 = hs_np 113 + 1 by decide +kernel) (by decide +kernel) (by decide +kernel) (by decide) rfl (by decide) e1 (fun z => by cases z) (fun w hw => by cases hw; exact trivial) ?_
  refine hg_sound C hl_k_of_ok 20 8 [some (vR 11 0), some (vI x1), some (vI x2), some (vR 69 0), none] [vI v, vI (0 : Int32), vR 69 0] μ1 18 [some (vR 11 0), some (vI x1), some (vI x2), some (vR 69 0), none] [vI (0 : Int32)] _ (hl_e2_of d x1 x2 v μ1) ?_
  intro ls H locs hr
  have hexec := C.1
  have hb := C.2.1
  refine W.widen (k := 1) (n := 6) (by omega) (by omega) (vx_ret ?_)
  exact W.iret hexec hb hrt (fun t ht _ => ⟨rfl, by rw [ht]; exact hr.2.2.2.2.1, va_S.F hr.2.2.2.2.2 ht⟩) hr.2.2.2.2.2.2.2 (hs_at_ok hl_k_of_ok (show hs_at hl_k_of 18 = some _ from rfl)).1 hlocks
/-- it throws -/
theorem hl_T_of (g : hs_G) (l : Launch) (hlt : l.stackTraces = false) (d : Nat) {x1 x2 : Int32} {μ : hs_M} (e1 : ∃ pc L, hl_new 113 pc ∧ hl_t 113 d [vR 11 0, vI x1, vI x2] μ = some ((pc, L, []), μ)) : vx_Met l hl_y_of hl_w_of (hl_rmH d) (hl_Pc g [vR 11 0, vI x1, vI x2, vR 69 0] μ) (hs_Qc g (some (vI 1)) μ) (fun _ _ _ => False) 1 6 (hs_gP g) := by
  obtain ⟨pcN, LN, hnew, ht⟩ := e1
  apply hl_h_of
  intro p e s m below meth c C hSx hrt hlocks htab
  have hM := hl_throws g l hlt d hnew (as := [vR 11 0, vI x1, vI x2]) (μ := μ) (LN := LN) (show 3 ≤ (hs_prog 113).2.1 by decide +kernel) (fun w hw => by
    simp only [List.mem_cons, List.not_mem_nil, or_false] at hw
    rcases hw with rfl | rfl | rfl
    · exact Or.inl ⟨by decide, by decide⟩
    · exact trivial
    · exact trivial) ht (fun _ _ _ _ => False)
  refine hl_callT C hSx (pp := [vI x2, vI x1, vR 11 0]) (st := [vI (0 : Int32), vR 69 0]) (as := [vI x1, vI x2]) (κ := 11) (j := 0) (y := 113) (d := d) hlt (hs_at_ok hl_k_of_ok (show hs_at hl_k_of 5 = some _ from rfl)).1 (by decide) hl_l_of (show 3 = hs_np 113 + 1 by decide +kernel) (by decide +kernel) (by decide +kernel) (by decide) rfl (by decide) hM (by show d + 12 + 1 ≤ d + 20; omega) (by show 48 + (48 * d + 500) ≤ 48 * d + 800; omega) ⟨by show 0 + 1 ≤ 1; omega, by show 0 + 6 ≤ 6; omega⟩ htab (by decide) rfl ?_
  intro ls H locs q hr
  have hexec := C.1
  have hb := C.2.1
  refine lv_astore hexec hb (i := 4) (nL := 5) (hs_at_ok hl_k_of_ok (show hs_at hl_k_of 13 = some _ from rfl)).1 hr.1 (by decide) rfl (fun ls' _ => ?_)
  refine lv_iconst hexec hb (hs_at_ok hl_k_of_ok (show hs_at hl_k_of 15 = some _ from rfl)).1 rfl (vx_ret ?_)
  exact W.iret hexec hb hrt (fun t ht _ => ⟨rfl, by rw [ht]; exact hr.2.2.2.2.1, va_S.F hr.2.2.2.2.2 ht⟩) hr.2.2.2.2.2.2.2 (hs_at_ok hl_k_of_ok (show hs_at hl_k_of 16 = some _ from rfl)).1 hlocks
/-! change -/
def hl_y_change : MethodName := ⟨"HeavierServesLaw", "change", "(LHeavierServes;II[J)I"⟩
def hl_k_change : hs_K := [[hz_r (.aload_n 3) 1, hz_r (.iconst 0) 1, hz_r (.aload_n 0) 1, hz_r (.iload_n 1) 1, hz_r (.iload_n 2) 1, hz_r (.invokevirtual 15) 3, hz_n, hz_n, hz_r (.i2l) 1, hz_r (.lastore) 1, hz_r (.goto 7) 3, hz_n, hz_n, hz_r (.astore 4) 2, hz_n, hz_r (.iconst 1) 1], [hz_r (.ireturn) 1, hz_r (.iconst 0) 1, hz_r (.ireturn) 1]]
def hl_b_change : ByteArray := hl_bw 1258
def hl_w_change : List Cond := .codeWith hl_y_change hl_b_change 5 (some .int) [(0, 10, 13, 13)] :: hs_GW
theorem hl_c_change : Cond.codeWith hl_y_change hl_b_change 5 (some .int) [(0, 10, 13, 13)] ∈ hs_GW := hs_is_in (i := 1258) (by decide +kernel)
theorem hl_k_change_ok : hs_ckk 13 hl_b_change 0 hl_k_change = true := by decide +kernel
theorem hl_l_change : Cond.methodLink (hs_own 13) 15 (hs_nm 114).1 ∈ hs_GW := hs_is_in (i := 1259) (by decide +kernel)
theorem hl_e1_change (d : Nat) (x1 : Int32) (x2 : Int32) (μ : hs_M) : hg_go hl_k_change d [5] 20 0 [some (vR 11 0), some (vI x1), some (vI x2), some (vR 69 0), none] [] μ = some ((5, [some (vR 11 0), some (vI x1), some (vI x2), some (vR 69 0), none], [vI x2, vI x1, vR 11 0, vI (0 : Int32), vR 69 0]), μ) := rfl
theorem hl_e2_change (d : Nat) (x1 : Int32) (x2 : Int32) (v : Int32) (μ : hs_M) : hg_go hl_k_change d [] 20 8 [some (vR 11 0), some (vI x1), some (vI x2), some (vR 69 0), none] [vI v, vI (0 : Int32), vR 69 0] μ = some ((18, [some (vR 11 0), some (vI x1), some (vI x2), some (vR 69 0), none], [vI (0 : Int32)]), hs_wL μ 69 0 0 v.toInt64) := rfl
theorem hl_h_change {g : hs_G} {l : Launch} {d : Nat} {x1 x2 : Int32} {μ : hs_M} {Qc : Array Value → State → Outcome → State → Prop} {XC : String → State → State → Prop} (body : ∀ (p : Program) (e : Env) (s : State) (m : MethodId) (below : List Frame) (meth : Method) (c : Code), hs_Ctx g p l (hl_rmH d) s m (([vR 11 0, vI x1, vI x2, vR 69 0].map (hs_enc g)).toArray) c 0 0 13 hl_b_change 5 (hs_call d) → hl_Sx g s → meth.sig.returnType = some .int → meth.locks = false → c.exceptionTable.toList = [⟨0, 10, 13, 13⟩] → hs_WS g p l e (hl_rmH d) s m (([vR 11 0, vI x1, vI x2, vR 69 0].map (hs_enc g)).toArray) below meth c 0 0 5 (vx_MQ below Qc XC (([vR 11 0, vI x1, vI x2, vR 69 0].map (hs_enc g)).toArray) s 1 6 (hs_gP g)) 5 [some (vR 11 0), some (vI x1), some (vI x2), some (vR 69 0), none] [vI x2, vI x1, vR 11 0, vI (0 : Int32), vR 69 0] μ) : vx_Met l hl_y_change hl_w_change (hl_rmH d) (hl_Pc g [vR 11 0, vI x1, vI x2, vR 69 0] μ) Qc XC 1 6 (hs_gP g) := by
  refine vx_ofWH (cc := hl_b_change) (maxL := 5) (ret := some .int) (by decide +kernel) rfl ?_
  intro p e s m args below meth c s₁ B hml hv
  obtain ⟨rfl, ⟨hSf, hWd⟩, hSx⟩ := hv
  have hexec := B.exec
  have hb := B.bytes
  have hts0 := atoms_spec (ws := hl_w_change) B.pre
  have hts : ∀ w ∈ hs_GW, w.before (([vR 11 0, vI x1, vI x2, vR 69 0].map (hs_enc g)).toArray) s = true := fun w hw => hts0 w (List.mem_cons_of_mem _ hw)
  have hown : s.vm.findClass (hs_own 13) = some m.cls := findClass_of_methodNamed B.named
  have C : hs_Ctx g p l (hl_rmH d) s m (([vR 11 0, vI x1, vI x2, vR 69 0].map (hs_enc g)).toArray) c 0 0 13 hl_b_change 5 (hs_call d) := by
    refine ⟨hexec, hb, hml, hown, hts, hSf, ⟨by show 0 ≤ 1; omega, by show 0 ≤ 6; omega⟩, ⟨by show 1 ≤ d + 20; omega, by show 48 ≤ 48 * d + 800; omega, hs_rm 0, rfl, rfl, by show 0 + 4 + 1 ≤ d + 20; omega, by show 48 + (48 * 0 + 200) ≤ 48 * d + 800; omega, hs_txt_ok g l⟩, hs_rm d, rfl, rfl, by show d + 4 + 1 ≤ d + 20; omega, by show 48 + (48 * d + 200) ≤ 48 * d + 800; omega, hs_sound g l (hs_txt_ok g l) hs_ckp_all d⟩
  have htab := vx_table (x := hl_y_change) B (hts _ hl_c_change)
  have hl := lv_entry ([vR 11 0, vI x1, vI x2, vR 69 0].map (hs_enc g)) (n := 5) (by rw [hs_sl_len]; exact (show 4 ≤ 5 by decide))
  rw [lg_entry_eq]
  generalize (lg_sl ([vR 11 0, vI x1, vI x2, vR 69 0].map (hs_enc g)) ++ List.replicate (5 - (lg_sl ([vR 11 0, vI x1, vI x2, vR 69 0].map (hs_enc g))).length) Slot.unset).toArray = ls at hl ⊢
  have hoks : ∀ v ∈ [vR 11 0, vI x1, vI x2, vR 69 0], hs_ok v := by
    intro v hv
    simp only [List.mem_cons, List.not_mem_nil, or_false] at hv
    rcases hv with rfl | rfl | rfl | rfl
    · exact Or.inl ⟨by decide, by decide⟩
    · exact trivial
    · exact trivial
    · exact Or.inl ⟨by decide, by decide⟩
  have hrel : hs_rel g 5 s (hs_ent [vR 11 0, vI x1, vI x2, vR 69 0] 5) [] μ ls s.heap [] := ⟨lv_less hl (hs_ent_el g [vR 11 0, vI x1, vI x2, vR 69 0] 0 _), hs_ent_len [vR 11 0, vI x1, vI x2, vR 69 0] _ (show 4 ≤ 5 by decide), fun k v hv => hoks v (hs_ent_mem [vR 11 0, vI x1, vI x2, vR 69 0] _ k v hv), (fun v hv => by cases hv), hWd, va_S.rf⟩
  exact hg_sound C hl_k_change_ok 20 0 [some (vR 11 0), some (vI x1), some (vI x2), some (vR 69 0), none] [] μ 5 [some (vR 11 0), some (vI x1), some (vI x2), some (vR 69 0), none] [vI x2, vI x1, vR 11 0, vI (0 : Int32), vR 69 0] μ (hl_e1_change d x1 x2 μ) (body p e s m below meth c C hSx B.returns B.notSynchronized htab) ls s.heap [] hrel
/-- the class's call returns -/
theorem hl_R_change (g : hs_G) (l : Launch) (d : Nat) {x1 x2 : Int32} {μ μ1 : hs_M} {v : Int32} (e1 : hs_call d 114 [vR 11 0, vI x1, vI x2] μ = some (some (vI v), μ1)) : vx_Met l hl_y_change hl_w_change (hl_rmH d) (hl_Pc g [vR 11 0, vI x1, vI x2, vR 69 0] μ) (hs_Qc g (some (vI 0)) (hs_wL μ1 69 0 0 v.toInt64)) (fun _ _ _ => False) 1 6 (hs_gP g) := by
  apply hl_h_change
  intro p e s m below meth c C hSx hrt hlocks htab
  refine hl_callV C (pp := [vI x2, vI x1, vR 11 0]) (st := [vI (0 : Int32), vR 69 0]) (as := [vI x1, vI x2]) (κ := 11) (j := 0) (y := 114) (hs_at_ok hl_k_change_ok (show hs_at hl_k_change 5 = some _ from rfl)).1 (by decide) hl_l_change (show 3 = hs_np 114 + 1 by decide +kernel) (by decide +kernel) (by decide +kernel) (by decide) rfl (by decide) e1 (fun z => by cases z) (fun w hw => by cases hw; exact trivial) ?_
  refine hg_sound C hl_k_change_ok 20 8 [some (vR 11 0), some (vI x1), some (vI x2), some (vR 69 0), none] [vI v, vI (0 : Int32), vR 69 0] μ1 18 [some (vR 11 0), some (vI x1), some (vI x2), some (vR 69 0), none] [vI (0 : Int32)] _ (hl_e2_change d x1 x2 v μ1) ?_
  intro ls H locs hr
  have hexec := C.1
  have hb := C.2.1
  refine W.widen (k := 1) (n := 6) (by omega) (by omega) (vx_ret ?_)
  exact W.iret hexec hb hrt (fun t ht _ => ⟨rfl, by rw [ht]; exact hr.2.2.2.2.1, va_S.F hr.2.2.2.2.2 ht⟩) hr.2.2.2.2.2.2.2 (hs_at_ok hl_k_change_ok (show hs_at hl_k_change 18 = some _ from rfl)).1 hlocks
/-- it throws -/
theorem hl_T_change (g : hs_G) (l : Launch) (hlt : l.stackTraces = false) (d : Nat) {x1 x2 : Int32} {μ : hs_M} (e1 : ∃ pc L, hl_new 114 pc ∧ hl_t 114 d [vR 11 0, vI x1, vI x2] μ = some ((pc, L, []), μ)) : vx_Met l hl_y_change hl_w_change (hl_rmH d) (hl_Pc g [vR 11 0, vI x1, vI x2, vR 69 0] μ) (hs_Qc g (some (vI 1)) μ) (fun _ _ _ => False) 1 6 (hs_gP g) := by
  obtain ⟨pcN, LN, hnew, ht⟩ := e1
  apply hl_h_change
  intro p e s m below meth c C hSx hrt hlocks htab
  have hM := hl_throws g l hlt d hnew (as := [vR 11 0, vI x1, vI x2]) (μ := μ) (LN := LN) (show 3 ≤ (hs_prog 114).2.1 by decide +kernel) (fun w hw => by
    simp only [List.mem_cons, List.not_mem_nil, or_false] at hw
    rcases hw with rfl | rfl | rfl
    · exact Or.inl ⟨by decide, by decide⟩
    · exact trivial
    · exact trivial) ht (fun _ _ _ _ => False)
  refine hl_callT C hSx (pp := [vI x2, vI x1, vR 11 0]) (st := [vI (0 : Int32), vR 69 0]) (as := [vI x1, vI x2]) (κ := 11) (j := 0) (y := 114) (d := d) hlt (hs_at_ok hl_k_change_ok (show hs_at hl_k_change 5 = some _ from rfl)).1 (by decide) hl_l_change (show 3 = hs_np 114 + 1 by decide +kernel) (by decide +kernel) (by decide +kernel) (by decide) rfl (by decide) hM (by show d + 12 + 1 ≤ d + 20; omega) (by show 48 + (48 * d + 500) ≤ 48 * d + 800; omega) ⟨by show 0 + 1 ≤ 1; omega, by show 0 + 6 ≤ 6; omega⟩ htab (by decide) rfl ?_
  intro ls H locs q hr
  have hexec := C.1
  have hb := C.2.1
  refine lv_astore hexec hb (i := 4) (nL := 5) (hs_at_ok hl_k_change_ok (show hs_at hl_k_change 13 = some _ from rfl)).1 hr.1 (by decide) rfl (fun ls' _ => ?_)
  refine lv_iconst hexec hb (hs_at_ok hl_k_change_ok (show hs_at hl_k_change 15 = some _ from rfl)).1 rfl (vx_ret ?_)
  exact W.iret hexec hb hrt (fun t ht _ => ⟨rfl, by rw [ht]; exact hr.2.2.2.2.1, va_S.F hr.2.2.2.2.2 ht⟩) hr.2.2.2.2.2.2.2 (hs_at_ok hl_k_change_ok (show hs_at hl_k_change 16 = some _ from rfl)).1 hlocks
/-! laws -/
def hl_y_laws : MethodName := ⟨"HeavierServesLaw", "laws", "(LHeavierServes;II[J)I"⟩
def hl_k_laws : hs_K := [[hz_r (.aload_n 3) 1, hz_r (.iconst 0) 1, hz_r (.aload_n 0) 1, hz_r (.iload_n 1) 1, hz_r (.iload_n 2) 1, hz_r (.invokevirtual 18) 3, hz_n, hz_n, hz_r (.i2l) 1, hz_r (.lastore) 1, hz_r (.goto 7) 3, hz_n, hz_n, hz_r (.astore 4) 2, hz_n, hz_r (.iconst 1) 1], [hz_r (.ireturn) 1, hz_r (.iconst 0) 1, hz_r (.ireturn) 1]]
def hl_b_laws : ByteArray := hl_bw 1266
def hl_w_laws : List Cond := .codeWith hl_y_laws hl_b_laws 5 (some .int) [(0, 10, 13, 13)] :: hs_GW
theorem hl_c_laws : Cond.codeWith hl_y_laws hl_b_laws 5 (some .int) [(0, 10, 13, 13)] ∈ hs_GW := hs_is_in (i := 1266) (by decide +kernel)
theorem hl_k_laws_ok : hs_ckk 13 hl_b_laws 0 hl_k_laws = true := by decide +kernel
theorem hl_l_laws : Cond.methodLink (hs_own 13) 18 (hs_nm 122).1 ∈ hs_GW := hs_is_in (i := 1267) (by decide +kernel)
theorem hl_e1_laws (d : Nat) (x1 : Int32) (x2 : Int32) (μ : hs_M) : hg_go hl_k_laws d [5] 20 0 [some (vR 11 0), some (vI x1), some (vI x2), some (vR 69 0), none] [] μ = some ((5, [some (vR 11 0), some (vI x1), some (vI x2), some (vR 69 0), none], [vI x2, vI x1, vR 11 0, vI (0 : Int32), vR 69 0]), μ) := rfl
theorem hl_e2_laws (d : Nat) (x1 : Int32) (x2 : Int32) (v : Int32) (μ : hs_M) : hg_go hl_k_laws d [] 20 8 [some (vR 11 0), some (vI x1), some (vI x2), some (vR 69 0), none] [vI v, vI (0 : Int32), vR 69 0] μ = some ((18, [some (vR 11 0), some (vI x1), some (vI x2), some (vR 69 0), none], [vI (0 : Int32)]), hs_wL μ 69 0 0 v.toInt64) := rfl
theorem hl_h_laws {g : hs_G} {l : Launch} {d : Nat} {x1 x2 : Int32} {μ : hs_M} {Qc : Array Value → State → Outcome → State → Prop} {XC : String → State → State → Prop} (body : ∀ (p : Program) (e : Env) (s : State) (m : MethodId) (below : List Frame) (meth : Method) (c : Code), hs_Ctx g p l (hl_rmH d) s m (([vR 11 0, vI x1, vI x2, vR 69 0].map (hs_enc g)).toArray) c 0 0 13 hl_b_laws 5 (hs_call d) → hl_Sx g s → meth.sig.returnType = some .int → meth.locks = false → c.exceptionTable.toList = [⟨0, 10, 13, 13⟩] → hs_WS g p l e (hl_rmH d) s m (([vR 11 0, vI x1, vI x2, vR 69 0].map (hs_enc g)).toArray) below meth c 0 0 5 (vx_MQ below Qc XC (([vR 11 0, vI x1, vI x2, vR 69 0].map (hs_enc g)).toArray) s 1 6 (hs_gP g)) 5 [some (vR 11 0), some (vI x1), some (vI x2), some (vR 69 0), none] [vI x2, vI x1, vR 11 0, vI (0 : Int32), vR 69 0] μ) : vx_Met l hl_y_laws hl_w_laws (hl_rmH d) (hl_Pc g [vR 11 0, vI x1, vI x2, vR 69 0] μ) Qc XC 1 6 (hs_gP g) := by
  refine vx_ofWH (cc := hl_b_laws) (maxL := 5) (ret := some .int) (by decide +kernel) rfl ?_
  intro p e s m args below meth c s₁ B hml hv
  obtain ⟨rfl, ⟨hSf, hWd⟩, hSx⟩ := hv
  have hexec := B.exec
  have hb := B.bytes
  have hts0 := atoms_spec (ws := hl_w_laws) B.pre
  have hts : ∀ w ∈ hs_GW, w.before (([vR 11 0, vI x1, vI x2, vR 69 0].map (hs_enc g)).toArray) s = true := fun w hw => hts0 w (List.mem_cons_of_mem _ hw)
  have hown : s.vm.findClass (hs_own 13) = some m.cls := findClass_of_methodNamed B.named
  have C : hs_Ctx g p l (hl_rmH d) s m (([vR 11 0, vI x1, vI x2, vR 69 0].map (hs_enc g)).toArray) c 0 0 13 hl_b_laws 5 (hs_call d) := by
    refine ⟨hexec, hb, hml, hown, hts, hSf, ⟨by show 0 ≤ 1; omega, by show 0 ≤ 6; omega⟩, ⟨by show 1 ≤ d + 20; omega, by show 48 ≤ 48 * d + 800; omega, hs_rm 0, rfl, rfl, by show 0 + 4 + 1 ≤ d + 20; omega, by show 48 + (48 * 0 + 200) ≤ 48 * d + 800; omega, hs_txt_ok g l⟩, hs_rm d, rfl, rfl, by show d + 4 + 1 ≤ d + 20; omega, by show 48 + (48 * d + 200) ≤ 48 * d + 800; omega, hs_sound g l (hs_txt_ok g l) hs_ckp_all d⟩
  have htab := vx_table (x := hl_y_laws) B (hts _ hl_c_laws)
  have hl := lv_entry ([vR 11 0, vI x1, vI x2, vR 69 0].map (hs_enc g)) (n := 5) (by rw [hs_sl_len]; exact (show 4 ≤ 5 by decide))
  rw [lg_entry_eq]
  generalize (lg_sl ([vR 11 0, vI x1, vI x2, vR 69 0].map (hs_enc g)) ++ List.replicate (5 - (lg_sl ([vR 11 0, vI x1, vI x2, vR 69 0].map (hs_enc g))).length) Slot.unset).toArray = ls at hl ⊢
  have hoks : ∀ v ∈ [vR 11 0, vI x1, vI x2, vR 69 0], hs_ok v := by
    intro v hv
    simp only [List.mem_cons, List.not_mem_nil, or_false] at hv
    rcases hv with rfl | rfl | rfl | rfl
    · exact Or.inl ⟨by decide, by decide⟩
    · exact trivial
    · exact trivial
    · exact Or.inl ⟨by decide, by decide⟩
  have hrel : hs_rel g 5 s (hs_ent [vR 11 0, vI x1, vI x2, vR 69 0] 5) [] μ ls s.heap [] := ⟨lv_less hl (hs_ent_el g [vR 11 0, vI x1, vI x2, vR 69 0] 0 _), hs_ent_len [vR 11 0, vI x1, vI x2, vR 69 0] _ (show 4 ≤ 5 by decide), fun k v hv => hoks v (hs_ent_mem [vR 11 0, vI x1, vI x2, vR 69 0] _ k v hv), (fun v hv => by cases hv), hWd, va_S.rf⟩
  exact hg_sound C hl_k_laws_ok 20 0 [some (vR 11 0), some (vI x1), some (vI x2), some (vR 69 0), none] [] μ 5 [some (vR 11 0), some (vI x1), some (vI x2), some (vR 69 0), none] [vI x2, vI x1, vR 11 0, vI (0 : Int32), vR 69 0] μ (hl_e1_laws d x1 x2 μ) (body p e s m below meth c C hSx B.returns B.notSynchronized htab) ls s.heap [] hrel
/-- the class's call returns -/
theorem hl_R_laws (g : hs_G) (l : Launch) (d : Nat) {x1 x2 : Int32} {μ μ1 : hs_M} {v : Int32} (e1 : hs_call d 122 [vR 11 0, vI x1, vI x2] μ = some (some (vI v), μ1)) : vx_Met l hl_y_laws hl_w_laws (hl_rmH d) (hl_Pc g [vR 11 0, vI x1, vI x2, vR 69 0] μ) (hs_Qc g (some (vI 0)) (hs_wL μ1 69 0 0 v.toInt64)) (fun _ _ _ => False) 1 6 (hs_gP g) := by
  apply hl_h_laws
  intro p e s m below meth c C hSx hrt hlocks htab
  refine hl_callV C (pp := [vI x2, vI x1, vR 11 0]) (st := [vI (0 : Int32), vR 69 0]) (as := [vI x1, vI x2]) (κ := 11) (j := 0) (y := 122) (hs_at_ok hl_k_laws_ok (show hs_at hl_k_laws 5 = some _ from rfl)).1 (by decide) hl_l_laws (show 3 = hs_np 122 + 1 by decide +kernel) (by decide +kernel) (by decide +kernel) (by decide) rfl (by decide) e1 (fun z => by cases z) (fun w hw => by cases hw; exact trivial) ?_
  refine hg_sound C hl_k_laws_ok 20 8 [some (vR 11 0), some (vI x1), some (vI x2), some (vR 69 0), none] [vI v, vI (0 : Int32), vR 69 0] μ1 18 [some (vR 11 0), some (vI x1), some (vI x2), some (vR 69 0), none] [vI (0 : Int32)] _ (hl_e2_laws d x1 x2 v μ1) ?_
  intro ls H locs hr
  have hexec := C.1
  have hb := C.2.1
  refine W.widen (k := 1) (n := 6) (by omega) (by omega) (vx_ret ?_)
  exact W.iret hexec hb hrt (fun t ht _ => ⟨rfl, by rw [ht]; exact hr.2.2.2.2.1, va_S.F hr.2.2.2.2.2 ht⟩) hr.2.2.2.2.2.2.2 (hs_at_ok hl_k_laws_ok (show hs_at hl_k_laws 18 = some _ from rfl)).1 hlocks
/-- it throws -/
theorem hl_T_laws (g : hs_G) (l : Launch) (hlt : l.stackTraces = false) (d : Nat) {x1 x2 : Int32} {μ : hs_M} (e1 : ∃ pc L, hl_new 122 pc ∧ hl_t 122 d [vR 11 0, vI x1, vI x2] μ = some ((pc, L, []), μ)) : vx_Met l hl_y_laws hl_w_laws (hl_rmH d) (hl_Pc g [vR 11 0, vI x1, vI x2, vR 69 0] μ) (hs_Qc g (some (vI 1)) μ) (fun _ _ _ => False) 1 6 (hs_gP g) := by
  obtain ⟨pcN, LN, hnew, ht⟩ := e1
  apply hl_h_laws
  intro p e s m below meth c C hSx hrt hlocks htab
  have hM := hl_throws g l hlt d hnew (as := [vR 11 0, vI x1, vI x2]) (μ := μ) (LN := LN) (show 3 ≤ (hs_prog 122).2.1 by decide +kernel) (fun w hw => by
    simp only [List.mem_cons, List.not_mem_nil, or_false] at hw
    rcases hw with rfl | rfl | rfl
    · exact Or.inl ⟨by decide, by decide⟩
    · exact trivial
    · exact trivial) ht (fun _ _ _ _ => False)
  refine hl_callT C hSx (pp := [vI x2, vI x1, vR 11 0]) (st := [vI (0 : Int32), vR 69 0]) (as := [vI x1, vI x2]) (κ := 11) (j := 0) (y := 122) (d := d) hlt (hs_at_ok hl_k_laws_ok (show hs_at hl_k_laws 5 = some _ from rfl)).1 (by decide) hl_l_laws (show 3 = hs_np 122 + 1 by decide +kernel) (by decide +kernel) (by decide +kernel) (by decide) rfl (by decide) hM (by show d + 12 + 1 ≤ d + 20; omega) (by show 48 + (48 * d + 500) ≤ 48 * d + 800; omega) ⟨by show 0 + 1 ≤ 1; omega, by show 0 + 6 ≤ 6; omega⟩ htab (by decide) rfl ?_
  intro ls H locs q hr
  have hexec := C.1
  have hb := C.2.1
  refine lv_astore hexec hb (i := 4) (nL := 5) (hs_at_ok hl_k_laws_ok (show hs_at hl_k_laws 13 = some _ from rfl)).1 hr.1 (by decide) rfl (fun ls' _ => ?_)
  refine lv_iconst hexec hb (hs_at_ok hl_k_laws_ok (show hs_at hl_k_laws 15 = some _ from rfl)).1 rfl (vx_ret ?_)
  exact W.iret hexec hb hrt (fun t ht _ => ⟨rfl, by rw [ht]; exact hr.2.2.2.2.1, va_S.F hr.2.2.2.2.2 ht⟩) hr.2.2.2.2.2.2.2 (hs_at_ok hl_k_laws_ok (show hs_at hl_k_laws 16 = some _ from rfl)).1 hlocks
/-! fool -/
def hl_y_fool : MethodName := ⟨"HeavierServesLaw", "fool", "(LHeavierServes;II[J)I"⟩
def hl_k_fool : hs_K := [[hz_r (.aload_n 3) 1, hz_r (.iconst 0) 1, hz_r (.aload_n 0) 1, hz_r (.iload_n 1) 1, hz_r (.iload_n 2) 1, hz_r (.invokevirtual 21) 3, hz_n, hz_n, hz_r (.i2l) 1, hz_r (.lastore) 1, hz_r (.goto 7) 3, hz_n, hz_n, hz_r (.astore 4) 2, hz_n, hz_r (.iconst 1) 1], [hz_r (.ireturn) 1, hz_r (.iconst 0) 1, hz_r (.ireturn) 1]]
def hl_b_fool : ByteArray := hl_bw 1273
def hl_w_fool : List Cond := .codeWith hl_y_fool hl_b_fool 5 (some .int) [(0, 10, 13, 13)] :: hs_GW
theorem hl_c_fool : Cond.codeWith hl_y_fool hl_b_fool 5 (some .int) [(0, 10, 13, 13)] ∈ hs_GW := hs_is_in (i := 1273) (by decide +kernel)
theorem hl_k_fool_ok : hs_ckk 13 hl_b_fool 0 hl_k_fool = true := by decide +kernel
theorem hl_l_fool : Cond.methodLink (hs_own 13) 21 (hs_nm 136).1 ∈ hs_GW := hs_is_in (i := 1274) (by decide +kernel)
theorem hl_e1_fool (d : Nat) (x1 : Int32) (x2 : Int32) (μ : hs_M) : hg_go hl_k_fool d [5] 20 0 [some (vR 11 0), some (vI x1), some (vI x2), some (vR 69 0), none] [] μ = some ((5, [some (vR 11 0), some (vI x1), some (vI x2), some (vR 69 0), none], [vI x2, vI x1, vR 11 0, vI (0 : Int32), vR 69 0]), μ) := rfl
theorem hl_e2_fool (d : Nat) (x1 : Int32) (x2 : Int32) (v : Int32) (μ : hs_M) : hg_go hl_k_fool d [] 20 8 [some (vR 11 0), some (vI x1), some (vI x2), some (vR 69 0), none] [vI v, vI (0 : Int32), vR 69 0] μ = some ((18, [some (vR 11 0), some (vI x1), some (vI x2), some (vR 69 0), none], [vI (0 : Int32)]), hs_wL μ 69 0 0 v.toInt64) := rfl
theorem hl_h_fool {g : hs_G} {l : Launch} {d : Nat} {x1 x2 : Int32} {μ : hs_M} {Qc : Array Value → State → Outcome → State → Prop} {XC : String → State → State → Prop} (body : ∀ (p : Program) (e : Env) (s : State) (m : MethodId) (below : List Frame) (meth : Method) (c : Code), hs_Ctx g p l (hl_rmH d) s m (([vR 11 0, vI x1, vI x2, vR 69 0].map (hs_enc g)).toArray) c 0 0 13 hl_b_fool 5 (hs_call d) → hl_Sx g s → meth.sig.returnType = some .int → meth.locks = false → c.exceptionTable.toList = [⟨0, 10, 13, 13⟩] → hs_WS g p l e (hl_rmH d) s m (([vR 11 0, vI x1, vI x2, vR 69 0].map (hs_enc g)).toArray) below meth c 0 0 5 (vx_MQ below Qc XC (([vR 11 0, vI x1, vI x2, vR 69 0].map (hs_enc g)).toArray) s 1 6 (hs_gP g)) 5 [some (vR 11 0), some (vI x1), some (vI x2), some (vR 69 0), none] [vI x2, vI x1, vR 11 0, vI (0 : Int32), vR 69 0] μ) : vx_Met l hl_y_fool hl_w_fool (hl_rmH d) (hl_Pc g [vR 11 0, vI x1, vI x2, vR 69 0] μ) Qc XC 1 6 (hs_gP g) := by
  refine vx_ofWH (cc := hl_b_fool) (maxL := 5) (ret := some .int) (by decide +kernel) rfl ?_
  intro p e s m args below meth c s₁ B hml hv
  obtain ⟨rfl, ⟨hSf, hWd⟩, hSx⟩ := hv
  have hexec := B.exec
  have hb := B.bytes
  have hts0 := atoms_spec (ws := hl_w_fool) B.pre
  have hts : ∀ w ∈ hs_GW, w.before (([vR 11 0, vI x1, vI x2, vR 69 0].map (hs_enc g)).toArray) s = true := fun w hw => hts0 w (List.mem_cons_of_mem _ hw)
  have hown : s.vm.findClass (hs_own 13) = some m.cls := findClass_of_methodNamed B.named
  have C : hs_Ctx g p l (hl_rmH d) s m (([vR 11 0, vI x1, vI x2, vR 69 0].map (hs_enc g)).toArray) c 0 0 13 hl_b_fool 5 (hs_call d) := by
    refine ⟨hexec, hb, hml, hown, hts, hSf, ⟨by show 0 ≤ 1; omega, by show 0 ≤ 6; omega⟩, ⟨by show 1 ≤ d + 20; omega, by show 48 ≤ 48 * d + 800; omega, hs_rm 0, rfl, rfl, by show 0 + 4 + 1 ≤ d + 20; omega, by show 48 + (48 * 0 + 200) ≤ 48 * d + 800; omega, hs_txt_ok g l⟩, hs_rm d, rfl, rfl, by show d + 4 + 1 ≤ d + 20; omega, by show 48 + (48 * d + 200) ≤ 48 * d + 800; omega, hs_sound g l (hs_txt_ok g l) hs_ckp_all d⟩
  have htab := vx_table (x := hl_y_fool) B (hts _ hl_c_fool)
  have hl := lv_entry ([vR 11 0, vI x1, vI x2, vR 69 0].map (hs_enc g)) (n := 5) (by rw [hs_sl_len]; exact (show 4 ≤ 5 by decide))
  rw [lg_entry_eq]
  generalize (lg_sl ([vR 11 0, vI x1, vI x2, vR 69 0].map (hs_enc g)) ++ List.replicate (5 - (lg_sl ([vR 11 0, vI x1, vI x2, vR 69 0].map (hs_enc g))).length) Slot.unset).toArray = ls at hl ⊢
  have hoks : ∀ v ∈ [vR 11 0, vI x1, vI x2, vR 69 0], hs_ok v := by
    intro v hv
    simp only [List.mem_cons, List.not_mem_nil, or_false] at hv
    rcases hv with rfl | rfl | rfl | rfl
    · exact Or.inl ⟨by decide, by decide⟩
    · exact trivial
    · exact trivial
    · exact Or.inl ⟨by decide, by decide⟩
  have hrel : hs_rel g 5 s (hs_ent [vR 11 0, vI x1, vI x2, vR 69 0] 5) [] μ ls s.heap [] := ⟨lv_less hl (hs_ent_el g [vR 11 0, vI x1, vI x2, vR 69 0] 0 _), hs_ent_len [vR 11 0, vI x1, vI x2, vR 69 0] _ (show 4 ≤ 5 by decide), fun k v hv => hoks v (hs_ent_mem [vR 11 0, vI x1, vI x2, vR 69 0] _ k v hv), (fun v hv => by cases hv), hWd, va_S.rf⟩
  exact hg_sound C hl_k_fool_ok 20 0 [some (vR 11 0), some (vI x1), some (vI x2), some (vR 69 0), none] [] μ 5 [some (vR 11 0), some (vI x1), some (vI x2), some (vR 69 0), none] [vI x2, vI x1, vR 11 0, vI (0 : Int32), vR 69 0] μ (hl_e1_fool d x1 x2 μ) (body p e s m below meth c C hSx B.returns B.notSynchronized htab) ls s.heap [] hrel
/-- the class's call returns -/
theorem hl_R_fool (g : hs_G) (l : Launch) (d : Nat) {x1 x2 : Int32} {μ μ1 : hs_M} {v : Int32} (e1 : hs_call d 136 [vR 11 0, vI x1, vI x2] μ = some (some (vI v), μ1)) : vx_Met l hl_y_fool hl_w_fool (hl_rmH d) (hl_Pc g [vR 11 0, vI x1, vI x2, vR 69 0] μ) (hs_Qc g (some (vI 0)) (hs_wL μ1 69 0 0 v.toInt64)) (fun _ _ _ => False) 1 6 (hs_gP g) := by
  apply hl_h_fool
  intro p e s m below meth c C hSx hrt hlocks htab
  refine hl_callV C (pp := [vI x2, vI x1, vR 11 0]) (st := [vI (0 : Int32), vR 69 0]) (as := [vI x1, vI x2]) (κ := 11) (j := 0) (y := 136) (hs_at_ok hl_k_fool_ok (show hs_at hl_k_fool 5 = some _ from rfl)).1 (by decide) hl_l_fool (show 3 = hs_np 136 + 1 by decide +kernel) (by decide +kernel) (by decide +kernel) (by decide) rfl (by decide) e1 (fun z => by cases z) (fun w hw => by cases hw; exact trivial) ?_
  refine hg_sound C hl_k_fool_ok 20 8 [some (vR 11 0), some (vI x1), some (vI x2), some (vR 69 0), none] [vI v, vI (0 : Int32), vR 69 0] μ1 18 [some (vR 11 0), some (vI x1), some (vI x2), some (vR 69 0), none] [vI (0 : Int32)] _ (hl_e2_fool d x1 x2 v μ1) ?_
  intro ls H locs hr
  have hexec := C.1
  have hb := C.2.1
  refine W.widen (k := 1) (n := 6) (by omega) (by omega) (vx_ret ?_)
  exact W.iret hexec hb hrt (fun t ht _ => ⟨rfl, by rw [ht]; exact hr.2.2.2.2.1, va_S.F hr.2.2.2.2.2 ht⟩) hr.2.2.2.2.2.2.2 (hs_at_ok hl_k_fool_ok (show hs_at hl_k_fool 18 = some _ from rfl)).1 hlocks
/-- it throws -/
theorem hl_T_fool (g : hs_G) (l : Launch) (hlt : l.stackTraces = false) (d : Nat) {x1 x2 : Int32} {μ : hs_M} (e1 : ∃ pc L, hl_new 136 pc ∧ hl_t 136 d [vR 11 0, vI x1, vI x2] μ = some ((pc, L, []), μ)) : vx_Met l hl_y_fool hl_w_fool (hl_rmH d) (hl_Pc g [vR 11 0, vI x1, vI x2, vR 69 0] μ) (hs_Qc g (some (vI 1)) μ) (fun _ _ _ => False) 1 6 (hs_gP g) := by
  obtain ⟨pcN, LN, hnew, ht⟩ := e1
  apply hl_h_fool
  intro p e s m below meth c C hSx hrt hlocks htab
  have hM := hl_throws g l hlt d hnew (as := [vR 11 0, vI x1, vI x2]) (μ := μ) (LN := LN) (show 3 ≤ (hs_prog 136).2.1 by decide +kernel) (fun w hw => by
    simp only [List.mem_cons, List.not_mem_nil, or_false] at hw
    rcases hw with rfl | rfl | rfl
    · exact Or.inl ⟨by decide, by decide⟩
    · exact trivial
    · exact trivial) ht (fun _ _ _ _ => False)
  refine hl_callT C hSx (pp := [vI x2, vI x1, vR 11 0]) (st := [vI (0 : Int32), vR 69 0]) (as := [vI x1, vI x2]) (κ := 11) (j := 0) (y := 136) (d := d) hlt (hs_at_ok hl_k_fool_ok (show hs_at hl_k_fool 5 = some _ from rfl)).1 (by decide) hl_l_fool (show 3 = hs_np 136 + 1 by decide +kernel) (by decide +kernel) (by decide +kernel) (by decide) rfl (by decide) hM (by show d + 12 + 1 ≤ d + 20; omega) (by show 48 + (48 * d + 500) ≤ 48 * d + 800; omega) ⟨by show 0 + 1 ≤ 1; omega, by show 0 + 6 ≤ 6; omega⟩ htab (by decide) rfl ?_
  intro ls H locs q hr
  have hexec := C.1
  have hb := C.2.1
  refine lv_astore hexec hb (i := 4) (nL := 5) (hs_at_ok hl_k_fool_ok (show hs_at hl_k_fool 13 = some _ from rfl)).1 hr.1 (by decide) rfl (fun ls' _ => ?_)
  refine lv_iconst hexec hb (hs_at_ok hl_k_fool_ok (show hs_at hl_k_fool 15 = some _ from rfl)).1 rfl (vx_ret ?_)
  exact W.iret hexec hb hrt (fun t ht _ => ⟨rfl, by rw [ht]; exact hr.2.2.2.2.1, va_S.F hr.2.2.2.2.2 ht⟩) hr.2.2.2.2.2.2.2 (hs_at_ok hl_k_fool_ok (show hs_at hl_k_fool 16 = some _ from rfl)).1 hlocks
/-! row -/
def hl_y_row : MethodName := ⟨"HeavierServesLaw", "row", "(LHeavierServes;I[J)I"⟩
def hl_k_row : hs_K := [[hz_r (.aload_n 2) 1, hz_r (.iconst 0) 1, hz_r (.aload_n 0) 1, hz_r (.iload_n 1) 1, hz_r (.invokevirtual 24) 3, hz_n, hz_n, hz_r (.lastore) 1, hz_r (.goto 6) 3, hz_n, hz_n, hz_r (.astore_n 3) 1, hz_r (.iconst 1) 1, hz_r (.ireturn) 1, hz_r (.iconst 0) 1, hz_r (.ireturn) 1]]
def hl_b_row : ByteArray := hl_bw 1284
def hl_w_row : List Cond := .codeWith hl_y_row hl_b_row 4 (some .int) [(0, 8, 11, 13)] :: hs_GW
theorem hl_c_row : Cond.codeWith hl_y_row hl_b_row 4 (some .int) [(0, 8, 11, 13)] ∈ hs_GW := hs_is_in (i := 1284) (by decide +kernel)
theorem hl_k_row_ok : hs_ckk 13 hl_b_row 0 hl_k_row = true := by decide +kernel
theorem hl_l_row : Cond.methodLink (hs_own 13) 24 (hs_nm 157).1 ∈ hs_GW := hs_is_in (i := 1285) (by decide +kernel)
theorem hl_e1_row (d : Nat) (x1 : Int32) (μ : hs_M) : hg_go hl_k_row d [4] 20 0 [some (vR 11 0), some (vI x1), some (vR 69 0), none] [] μ = some ((4, [some (vR 11 0), some (vI x1), some (vR 69 0), none], [vI x1, vR 11 0, vI (0 : Int32), vR 69 0]), μ) := rfl
theorem hl_e2_row (d : Nat) (x1 : Int32) (v : Int64) (μ : hs_M) : hg_go hl_k_row d [] 20 7 [some (vR 11 0), some (vI x1), some (vR 69 0), none] [vL v, vI (0 : Int32), vR 69 0] μ = some ((15, [some (vR 11 0), some (vI x1), some (vR 69 0), none], [vI (0 : Int32)]), hs_wL μ 69 0 0 v) := rfl
theorem hl_h_row {g : hs_G} {l : Launch} {d : Nat} {x1 : Int32} {μ : hs_M} {Qc : Array Value → State → Outcome → State → Prop} {XC : String → State → State → Prop} (body : ∀ (p : Program) (e : Env) (s : State) (m : MethodId) (below : List Frame) (meth : Method) (c : Code), hs_Ctx g p l (hl_rmH d) s m (([vR 11 0, vI x1, vR 69 0].map (hs_enc g)).toArray) c 0 0 13 hl_b_row 4 (hs_call d) → hl_Sx g s → meth.sig.returnType = some .int → meth.locks = false → c.exceptionTable.toList = [⟨0, 8, 11, 13⟩] → hs_WS g p l e (hl_rmH d) s m (([vR 11 0, vI x1, vR 69 0].map (hs_enc g)).toArray) below meth c 0 0 4 (vx_MQ below Qc XC (([vR 11 0, vI x1, vR 69 0].map (hs_enc g)).toArray) s 1 6 (hs_gP g)) 4 [some (vR 11 0), some (vI x1), some (vR 69 0), none] [vI x1, vR 11 0, vI (0 : Int32), vR 69 0] μ) : vx_Met l hl_y_row hl_w_row (hl_rmH d) (hl_Pc g [vR 11 0, vI x1, vR 69 0] μ) Qc XC 1 6 (hs_gP g) := by
  refine vx_ofWH (cc := hl_b_row) (maxL := 4) (ret := some .int) (by decide +kernel) rfl ?_
  intro p e s m args below meth c s₁ B hml hv
  obtain ⟨rfl, ⟨hSf, hWd⟩, hSx⟩ := hv
  have hexec := B.exec
  have hb := B.bytes
  have hts0 := atoms_spec (ws := hl_w_row) B.pre
  have hts : ∀ w ∈ hs_GW, w.before (([vR 11 0, vI x1, vR 69 0].map (hs_enc g)).toArray) s = true := fun w hw => hts0 w (List.mem_cons_of_mem _ hw)
  have hown : s.vm.findClass (hs_own 13) = some m.cls := findClass_of_methodNamed B.named
  have C : hs_Ctx g p l (hl_rmH d) s m (([vR 11 0, vI x1, vR 69 0].map (hs_enc g)).toArray) c 0 0 13 hl_b_row 4 (hs_call d) := by
    refine ⟨hexec, hb, hml, hown, hts, hSf, ⟨by show 0 ≤ 1; omega, by show 0 ≤ 6; omega⟩, ⟨by show 1 ≤ d + 20; omega, by show 48 ≤ 48 * d + 800; omega, hs_rm 0, rfl, rfl, by show 0 + 4 + 1 ≤ d + 20; omega, by show 48 + (48 * 0 + 200) ≤ 48 * d + 800; omega, hs_txt_ok g l⟩, hs_rm d, rfl, rfl, by show d + 4 + 1 ≤ d + 20; omega, by show 48 + (48 * d + 200) ≤ 48 * d + 800; omega, hs_sound g l (hs_txt_ok g l) hs_ckp_all d⟩
  have htab := vx_table (x := hl_y_row) B (hts _ hl_c_row)
  have hl := lv_entry ([vR 11 0, vI x1, vR 69 0].map (hs_enc g)) (n := 4) (by rw [hs_sl_len]; exact (show 3 ≤ 4 by decide))
  rw [lg_entry_eq]
  generalize (lg_sl ([vR 11 0, vI x1, vR 69 0].map (hs_enc g)) ++ List.replicate (4 - (lg_sl ([vR 11 0, vI x1, vR 69 0].map (hs_enc g))).length) Slot.unset).toArray = ls at hl ⊢
  have hoks : ∀ v ∈ [vR 11 0, vI x1, vR 69 0], hs_ok v := by
    intro v hv
    simp only [List.mem_cons, List.not_mem_nil, or_false] at hv
    rcases hv with rfl | rfl | rfl
    · exact Or.inl ⟨by decide, by decide⟩
    · exact trivial
    · exact Or.inl ⟨by decide, by decide⟩
  have hrel : hs_rel g 4 s (hs_ent [vR 11 0, vI x1, vR 69 0] 4) [] μ ls s.heap [] := ⟨lv_less hl (hs_ent_el g [vR 11 0, vI x1, vR 69 0] 0 _), hs_ent_len [vR 11 0, vI x1, vR 69 0] _ (show 3 ≤ 4 by decide), fun k v hv => hoks v (hs_ent_mem [vR 11 0, vI x1, vR 69 0] _ k v hv), (fun v hv => by cases hv), hWd, va_S.rf⟩
  exact hg_sound C hl_k_row_ok 20 0 [some (vR 11 0), some (vI x1), some (vR 69 0), none] [] μ 4 [some (vR 11 0), some (vI x1), some (vR 69 0), none] [vI x1, vR 11 0, vI (0 : Int32), vR 69 0] μ (hl_e1_row d x1 μ) (body p e s m below meth c C hSx B.returns B.notSynchronized htab) ls s.heap [] hrel
/-- the class's call returns -/
theorem hl_R_row (g : hs_G) (l : Launch) (d : Nat) {x1 : Int32} {μ μ1 : hs_M} {v : Int64} (e1 : hs_call d 157 [vR 11 0, vI x1] μ = some (some (vL v), μ1)) : vx_Met l hl_y_row hl_w_row (hl_rmH d) (hl_Pc g [vR 11 0, vI x1, vR 69 0] μ) (hs_Qc g (some (vI 0)) (hs_wL μ1 69 0 0 v)) (fun _ _ _ => False) 1 6 (hs_gP g) := by
  apply hl_h_row
  intro p e s m below meth c C hSx hrt hlocks htab
  refine hl_callV C (pp := [vI x1, vR 11 0]) (st := [vI (0 : Int32), vR 69 0]) (as := [vI x1]) (κ := 11) (j := 0) (y := 157) (hs_at_ok hl_k_row_ok (show hs_at hl_k_row 4 = some _ from rfl)).1 (by decide) hl_l_row (show 2 = hs_np 157 + 1 by decide +kernel) (by decide +kernel) (by decide +kernel) (by decide) rfl (by decide) e1 (fun z => by cases z) (fun w hw => by cases hw; exact trivial) ?_
  refine hg_sound C hl_k_row_ok 20 7 [some (vR 11 0), some (vI x1), some (vR 69 0), none] [vL v, vI (0 : Int32), vR 69 0] μ1 15 [some (vR 11 0), some (vI x1), some (vR 69 0), none] [vI (0 : Int32)] _ (hl_e2_row d x1 v μ1) ?_
  intro ls H locs hr
  have hexec := C.1
  have hb := C.2.1
  refine W.widen (k := 1) (n := 6) (by omega) (by omega) (vx_ret ?_)
  exact W.iret hexec hb hrt (fun t ht _ => ⟨rfl, by rw [ht]; exact hr.2.2.2.2.1, va_S.F hr.2.2.2.2.2 ht⟩) hr.2.2.2.2.2.2.2 (hs_at_ok hl_k_row_ok (show hs_at hl_k_row 15 = some _ from rfl)).1 hlocks
/-- it throws -/
theorem hl_T_row (g : hs_G) (l : Launch) (hlt : l.stackTraces = false) (d : Nat) {x1 : Int32} {μ : hs_M} (e1 : ∃ pc L, hl_new 157 pc ∧ hl_t 157 d [vR 11 0, vI x1] μ = some ((pc, L, []), μ)) : vx_Met l hl_y_row hl_w_row (hl_rmH d) (hl_Pc g [vR 11 0, vI x1, vR 69 0] μ) (hs_Qc g (some (vI 1)) μ) (fun _ _ _ => False) 1 6 (hs_gP g) := by
  obtain ⟨pcN, LN, hnew, ht⟩ := e1
  apply hl_h_row
  intro p e s m below meth c C hSx hrt hlocks htab
  have hM := hl_throws g l hlt d hnew (as := [vR 11 0, vI x1]) (μ := μ) (LN := LN) (show 2 ≤ (hs_prog 157).2.1 by decide +kernel) (fun w hw => by
    simp only [List.mem_cons, List.not_mem_nil, or_false] at hw
    rcases hw with rfl | rfl
    · exact Or.inl ⟨by decide, by decide⟩
    · exact trivial) ht (fun _ _ _ _ => False)
  refine hl_callT C hSx (pp := [vI x1, vR 11 0]) (st := [vI (0 : Int32), vR 69 0]) (as := [vI x1]) (κ := 11) (j := 0) (y := 157) (d := d) hlt (hs_at_ok hl_k_row_ok (show hs_at hl_k_row 4 = some _ from rfl)).1 (by decide) hl_l_row (show 2 = hs_np 157 + 1 by decide +kernel) (by decide +kernel) (by decide +kernel) (by decide) rfl (by decide) hM (by show d + 12 + 1 ≤ d + 20; omega) (by show 48 + (48 * d + 500) ≤ 48 * d + 800; omega) ⟨by show 0 + 1 ≤ 1; omega, by show 0 + 6 ≤ 6; omega⟩ htab (by decide) rfl ?_
  intro ls H locs q hr
  have hexec := C.1
  have hb := C.2.1
  refine lv_astore_n hexec hb (k := 3) (i := 3) (nL := 4) (hs_at_ok hl_k_row_ok (show hs_at hl_k_row 11 = some _ from rfl)).1 rfl hr.1 (by decide) rfl (fun ls' _ => ?_)
  refine lv_iconst hexec hb (hs_at_ok hl_k_row_ok (show hs_at hl_k_row 12 = some _ from rfl)).1 rfl (vx_ret ?_)
  exact W.iret hexec hb hrt (fun t ht _ => ⟨rfl, by rw [ht]; exact hr.2.2.2.2.1, va_S.F hr.2.2.2.2.2 ht⟩) hr.2.2.2.2.2.2.2 (hs_at_ok hl_k_row_ok (show hs_at hl_k_row 13 = some _ from rfl)).1 hlocks
