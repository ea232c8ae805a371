/-! ===== the calls' instructions ===== -/
theorem hs_w_acn : Cond.native arraycopyName ∈ hs_GW := hs_is_in (i := 570) (by decide +kernel)
theorem hs_w_acs : Cond.static arraycopyName ∈ hs_GW := hs_is_in (i := 569) (by decide +kernel)
theorem hs_w_aci : Cond.initialized "java/lang/System" ∈ hs_GW := hs_is_in (i := 100) (by decide +kernel)
theorem hs_w_sti : Cond.initialized "java/lang/String" ∈ hs_GW := hs_is_in (i := 101) (by decide +kernel)
theorem hs_w_sl0 : Cond.instanceMethod hs_y_len ∈ hs_GW := hs_is_in (i := 1486) (by decide +kernel)
theorem hs_w_sl1 : Cond.instanceMethod hs_y_cha ∈ hs_GW := hs_is_in (i := 1496) (by decide +kernel)
theorem hs_w_ss0 : Cond.selects "java/lang/String" hs_y_len hs_y_len ∈ hs_GW := hs_is_in (i := 1487) (by decide +kernel)
theorem hs_w_ss1 : Cond.selects "java/lang/String" hs_y_cha hs_y_cha ∈ hs_GW := hs_is_in (i := 1497) (by decide +kernel)
theorem hs_w_sc0 : hs_isC 1488 hs_y_len 1 (some .int) = true := by decide +kernel
theorem hs_w_sc1 : hs_isC 1498 hs_y_cha 2 (some .char) = true := by decide +kernel
theorem hs_isC_in {i ml : Nat} {nm : MethodName} {ret : Option FieldType} (h : hs_isC i nm ml ret = true) : Cond.code nm (hs_code i) ml ret ∈ hs_GW := by
  unfold hs_isC at h
  cases hx : lw_tbl[i]? with
  | none => rw [hx] at h; cases h
  | some w =>
    rw [hx] at h
    split at h
    · rename_i n b m r e
      cases e
      simp only [Bool.and_eq_true, decide_eq_true_eq] at h
      obtain ⟨e1, e2, e3⟩ := h
      have hb : hs_code i = b := by
        unfold hs_code
        rw [hx]
      rw [hb, ← e1, ← e2, ← e3]
      exact List.mem_filter.mpr ⟨List.mem_of_getElem? hx, rfl⟩
    · cases h
theorem hs_sl_ok : hs_sl.all (fun q => hs_is q.2.2.2 (.methodLink (hs_own q.1) q.2.1 (hs_tn q.2.2.1))) = true := by decide +kernel
theorem hs_goodC {i ml : Nat} {nm : MethodName} {ret : Option FieldType} (h : hs_isC i nm ml ret = true) : GoodIn hs_GW (.code nm (hs_code i) ml ret :: hs_GW) := by
  intro w hw
  have h0 := hs_isC_in h
  rcases List.mem_cons.mp hw with e | hw
  · rw [e]
    exact ⟨h0, good_of_word (hs_in_good h0)⟩
  · exact ⟨hw, good_of_word (hs_in_good hw)⟩
theorem hs_goodT0 : GoodIn hs_GW hs_w_len := by
  unfold hs_w_len
  exact hs_goodC hs_w_sc0
theorem hs_goodT1 : GoodIn hs_GW hs_w_cha := by
  unfold hs_w_cha
  exact hs_goodC hs_w_sc1
theorem hs_if_spec {ρ : Type} {b : Bool} {r : Option ρ} {x : ρ} (h : hs_if b r = some x) : b = true ∧ r = some x := by
  cases b with
  | false => cases h
  | true => exact ⟨rfl, h⟩
theorem hs_go8_spec {ρ : Type} {st : List hs_V} {r : Option ρ} {x : ρ} (h : hs_go8 st r = some x) : hs_cats st ≤ 8 ∧ r = some x := by
  unfold hs_go8 at h
  cases hb : Nat.ble (hs_cats st) 8 with
  | false => rw [hb] at h; cases h
  | true => rw [hb] at h; exact ⟨Nat.le_of_ble_eq_true hb, h⟩
theorem hs_bV_spec {ρ : Type} {r : Option (Option hs_V × hs_M)} {k : hs_M → Option ρ} {x : ρ} (h : hs_bV r k = some x) : ∃ μ', r = some (none, μ') ∧ k μ' = some x := by
  rcases r with _ | ⟨_ | a | a | a, μ⟩
  · cases h
  · exact ⟨μ, rfl, h⟩
  · cases h
  · cases h
  · cases h
theorem hs_bI_spec {ρ : Type} {r : Option (Option hs_V × hs_M)} {k : Int32 → hs_M → Option ρ} {x : ρ} (h : hs_bI r k = some x) : ∃ v μ', r = some (some (vI v), μ') ∧ k v μ' = some x := by
  rcases r with _ | ⟨_ | a | a | a, μ⟩
  · cases h
  · cases h
  · exact ⟨a, μ, rfl, h⟩
  · cases h
  · cases h
theorem hs_bL_spec {ρ : Type} {r : Option (Option hs_V × hs_M)} {k : Int64 → hs_M → Option ρ} {x : ρ} (h : hs_bL r k = some x) : ∃ v μ', r = some (some (vL v), μ') ∧ k v μ' = some x := by
  rcases r with _ | ⟨_ | a | a | a, μ⟩
  · cases h
  · cases h
  · cases h
  · exact ⟨a, μ, rfl, h⟩
  · cases h
theorem hs_rcv_spec {ρ : Type} {as : List hs_V} {ci : Nat} {r : Option ρ} {x : ρ} (h : hs_rcv as ci r = some x) : ∃ j as', as = vR ci j :: as' ∧ r = some x := by
  unfold hs_rcv at h
  split at h
  · rename_i κ j as'
    obtain ⟨h1, h2⟩ := hs_if_spec h
    rw [Nat.eq_of_beq_eq_true h1]
    exact ⟨j, as', rfl, h2⟩
  · cases h
theorem hs_okk0 {y : Nat} (h : hs_okk y 0 = true) : (hs_prog y).2.2 = 0 := by
  unfold hs_okk at h
  split at h
  · rename_i e; exact e
  · cases h
  · cases h
  · cases h
theorem hs_s_invokestatic {g : hs_G} {p : Program} {l : Launch} {e : Env} {R : Room} {s : State} {m : MethodId} {args : Array Value} {below : List Frame} {meth : Method} {c : Code} {cells slots own : Nat} {cc : ByteArray} {nL : Nat} {call : hs_C} {Q : State → Prop} (C : hs_Ctx g p l R s m args c cells slots own cc nL call) {idx : Nat} {pc n : Nat} {ops : List Nat} {mk : List Bool} {L : hs_L} {st : List hs_V} {μ : hs_M} {pc' : Nat} {L' : hs_L} {st' : List hs_V} {μ' : hs_M} (hd : decode cc pc = .ok (.invokestatic idx, n)) (hok : hs_okr own pc (.invokestatic idx, n, ops, mk) = true) (ex : hs_nx call (.invokestatic idx, n, ops, mk) pc L st μ = some (.inl (pc', L', st', μ'))) (hk : hs_WS g p l e R s m args below meth c cells slots nL Q pc' L' st' μ') : hs_WS g p l e R s m args below meth c cells slots nL Q pc L st μ := by
  simp only [hs_okr, hs_okI, Bool.and_eq_true] at hok
  obtain ⟨hn, hok⟩ := hok
  have hn := Nat.eq_of_beq_eq_true hn
  subst hn
  unfold hs_nx hs_step at ex
  dsimp only at ex
  split at ex
  · cases ex
  unfold hs_inv at ex
  split at ex <;> (try simp only [Bool.and_eq_true] at hok)
  · rename_i y na
    obtain ⟨hl, hna, hst1, hy, hkk⟩ := hok
    obtain ⟨pp, st1, rfl, hlen, h⟩ := hs_pop_spec _ _ _ _ ex
    rw [List.append_nil] at h
    obtain ⟨h8, h⟩ := hs_go8_spec h
    obtain ⟨μ1, hc, h⟩ := hs_bV_spec h
    cases h
    exact hs_callS C hd (hs_blt hy) (by simpa using hl) (hlen.trans (Nat.eq_of_beq_eq_true hna)) (Nat.eq_of_beq_eq_true hst1) h8 hc (fun _ => hs_okk0 hkk) (fun v q => by cases q) hk
  · rename_i y na
    obtain ⟨hl, hna, hst1, hy, hkk⟩ := hok
    obtain ⟨pp, st1, rfl, hlen, h⟩ := hs_pop_spec _ _ _ _ ex
    rw [List.append_nil] at h
    obtain ⟨h8, h⟩ := hs_go8_spec h
    obtain ⟨v, μ1, hc, h⟩ := hs_bI_spec h
    cases h
    exact hs_callS C hd (hs_blt hy) (by simpa using hl) (hlen.trans (Nat.eq_of_beq_eq_true hna)) (Nat.eq_of_beq_eq_true hst1) h8 hc (fun q => by cases q) (fun w q => by cases q; trivial) hk
  · rename_i y na
    obtain ⟨hl, hna, hst1, hy, hkk⟩ := hok
    obtain ⟨pp, st1, rfl, hlen, h⟩ := hs_pop_spec _ _ _ _ ex
    rw [List.append_nil] at h
    obtain ⟨h8, h⟩ := hs_go8_spec h
    obtain ⟨v, μ1, hc, h⟩ := hs_bL_spec h
    cases h
    exact hs_callS C hd (hs_blt hy) (by simpa using hl) (hlen.trans (Nat.eq_of_beq_eq_true hna)) (Nat.eq_of_beq_eq_true hst1) h8 hc (fun q => by cases q) (fun w q => by cases q; trivial) hk
  · cases hok
  · cases hok
  · cases hok
  · split at ex
    · rename_i nn dp κ' j' sp κ j st0
      obtain ⟨hb, ex⟩ := hs_if_spec ex
      simp only [Bool.and_eq_true] at hb
      obtain ⟨ha1, ha2, hwr, h8⟩ := hb
      have ha1 := Nat.eq_of_beq_eq_true ha1
      have ha2 := Nat.eq_of_beq_eq_true ha2
      have h8 := Nat.le_of_ble_eq_true h8
      by_cases hco : hs_cok sp dp nn (hs_len μ κ j) (hs_len μ κ' j') = true
      rotate_left
      · rw [if_neg hco] at ex; cases ex
      rw [if_pos hco] at ex
      cases ex
      simp only [hs_cok, Bool.and_eq_true, decide_eq_true_eq] at hco
      obtain ⟨z1, z2, z3, z4, z5⟩ := hco
      simp only [List.any_eq_true, Bool.and_eq_true] at hok
      obtain ⟨⟨qa, qb, qi⟩, hm, e1, e2⟩ := hok
      have e1 := Nat.eq_of_beq_eq_true e1
      have e2 := Nat.eq_of_beq_eq_true e2
      dsimp only at e1 e2
      subst e1; subst e2
      have hlink : Cond.methodLink (hs_own qa) qb arraycopyName ∈ hs_GW := hs_is_in (List.all_eq_true.mp hs_al_ok _ hm)
      obtain ⟨hexec, hb, hml, hown, hts, hSf, hcs, ⟨hfr, hlo, -⟩, -⟩ := C
      intro ls H locs hr
      have hcat : ((st'.map (hs_enc g)).map fun v => v.category).sum + (nativeFrameWords "java/lang/System" "arraycopy" 5 + 11) ≤ R.locals := by
        rw [hs_cats_enc, show nativeFrameWords "java/lang/System" "arraycopy" 5 = 7 from by decide +kernel]
        omega
      rcases hs_ok_kind (hr.2.2.2.1 _ (List.mem_cons_of_mem _ (List.mem_cons_of_mem _ List.mem_cons_self))) ha2 (by omega) with ⟨h7, hj⟩ | ⟨h7, h7'⟩
      rotate_left
      · subst h7; subst h7'; cases hwr
      obtain ⟨q1, hq1, hw1⟩ := hs_ws_get g μ h7 hj
      rw [hs_cell_0 ha2] at hw1
      have hcell : hs_cell g (hs_cp μ κ j sp.toNatClampNeg κ' j' dp.toNatClampNeg nn.toNatClampNeg) κ' j' = .inl (hs_gC g 0, hs_len μ κ' j', .inl (va_cpy (μ.1 κ j) (μ.1 κ' j') sp.toNatClampNeg dp.toNatClampNeg nn.toNatClampNeg)) := by
        rw [hs_cell_0 ha2, hs_cp_eq, hs_len_free (μ := hs_cp μ κ j sp.toNatClampNeg κ' j' dp.toNatClampNeg nn.toNatClampNeg) (μ' := μ) h7]
      have fin : ∀ (H1 : Heap) (locs1 : List Loc), va_P (hs_gD g) hs_clas ((hs_ws g μ).set q1 (hs_gA g κ' j', .inl (hs_gC g 0, hs_len μ κ' j', .inl (va_cpy (μ.1 κ j) (μ.1 κ' j') sp.toNatClampNeg dp.toNatClampNeg nn.toNatClampNeg)))) H1 → va_D (hs_gP g) ((hs_ws g μ).set q1 (hs_gA g κ' j', .inl (hs_gC g 0, hs_len μ κ' j', .inl (va_cpy (μ.1 κ j) (μ.1 κ' j') sp.toNatClampNeg dp.toNatClampNeg nn.toNatClampNeg)))) → va_S (hs_gP g) s.heap H1 locs1 → W p l e R s m args below meth c H1 locs1 cells slots Q (F0 m (pc + 3) ls (st'.map (hs_enc g))) := by
        intro H1 locs1 hP hD hS
        exact hk ls H1 locs1 ⟨hr.1, hr.2.1, hr.2.2.1, fun w hw => hr.2.2.2.1 w (List.mem_cons_of_mem _ (List.mem_cons_of_mem _ (List.mem_cons_of_mem _ (List.mem_cons_of_mem _ (List.mem_cons_of_mem _ hw))))), hs_Wd_set hr.2.2.2.2.1 h7 hq1 hcell (fun κ1 j1 h => ⟨hs_cp_ne h, rfl⟩) hP hD, hS⟩
      rcases hs_ok_kind (hr.2.2.2.1 _ (List.mem_cons_of_mem _ (List.mem_cons_of_mem _ (List.mem_cons_of_mem _ (List.mem_cons_of_mem _ List.mem_cons_self))))) ha1 (by omega) with ⟨g7, gj⟩ | ⟨g7, g7'⟩
      · obtain ⟨q0, hq0, hw0⟩ := hs_ws_get g μ g7 gj
        rw [hs_cell_0 ha1] at hw0
        exact va_copyi hexec hb (hml.trans hr.1.1.symm) hown (hts _ hlink) (hts _ hs_w_acn) (hts _ hs_w_acs) (hts _ hs_w_aci) hSf.1 hr.2.2.2.2.1.1 hr.2.2.2.2.1.2.1 hr.2.2.2.2.2 q0 q1 0 0 hw0 hw1 (ty := .int) rfl rfl rfl (Int32.not_lt.mpr z1) (Int32.not_lt.mpr z2) (Int32.not_lt.mpr z3) z4 z5 (fun _ _ => rfl) hfr hcat hd fin
      · subst g7; subst g7'
        obtain ⟨hX, hbl, hbA⟩ := hSf.2.2.2.2
        have hl : hs_len μ 70 0 = hs_gN g := hr.2.2.2.2.1.2.2.2
        rw [hl] at z4
        have hcy : va_cpy (μ.1 70 0) (μ.1 κ' j') sp.toNatClampNeg dp.toNatClampNeg nn.toNatClampNeg = va_cpy (hs_gX g) (μ.1 κ' j') sp.toNatClampNeg dp.toNatClampNeg nn.toNatClampNeg := by
          funext k
          unfold va_cpy
          by_cases hkk : dp.toNatClampNeg ≤ k ∧ k < dp.toNatClampNeg + nn.toNatClampNeg
          · rw [if_pos hkk, if_pos hkk, hr.2.2.2.2.1.2.2.1 _ (by omega)]
          · rw [if_neg hkk, if_neg hkk]
        rw [hcy] at fin
        exact va_copyx hexec hb (hml.trans hr.1.1.symm) hown (hts _ hlink) (hts _ hs_w_acn) (hts _ hs_w_acs) (hts _ hs_w_aci) hSf.1 hr.2.2.2.2.1.1 hr.2.2.2.2.1.2.1 hr.2.2.2.2.2 hX hbl hbA q1 0 hw1 rfl (Int32.not_lt.mpr z1) (Int32.not_lt.mpr z2) (Int32.not_lt.mpr z3) z4 z5 hfr hcat hd fin
    · cases ex
  · cases ex
theorem hs_s_invokevirtual {g : hs_G} {p : Program} {l : Launch} {e : Env} {R : Room} {s : State} {m : MethodId} {args : Array Value} {below : List Frame} {meth : Method} {c : Code} {cells slots own : Nat} {cc : ByteArray} {nL : Nat} {call : hs_C} {Q : State → Prop} (C : hs_Ctx g p l R s m args c cells slots own cc nL call) {idx : Nat} {pc n : Nat} {ops : List Nat} {mk : List Bool} {L : hs_L} {st : List hs_V} {μ : hs_M} {pc' : Nat} {L' : hs_L} {st' : List hs_V} {μ' : hs_M} (hd : decode cc pc = .ok (.invokevirtual idx, n)) (hok : hs_okr own pc (.invokevirtual idx, n, ops, mk) = true) (ex : hs_nx call (.invokevirtual idx, n, ops, mk) pc L st μ = some (.inl (pc', L', st', μ'))) (hk : hs_WS g p l e R s m args below meth c cells slots nL Q pc' L' st' μ') : hs_WS g p l e R s m args below meth c cells slots nL Q pc L st μ := by
  simp only [hs_okr, hs_okI, Bool.and_eq_true] at hok
  obtain ⟨hn, hok⟩ := hok
  have hn := Nat.eq_of_beq_eq_true hn
  subst hn
  unfold hs_nx hs_step at ex
  dsimp only at ex
  split at ex
  · rename_i a b
    simp only [List.any_eq_true, Bool.and_eq_true] at hok
    obtain ⟨⟨qa, qb, qc, qi⟩, hm, e1, e2, e3⟩ := hok
    have e1 := Nat.eq_of_beq_eq_true e1
    have e2 := Nat.eq_of_beq_eq_true e2
    have e3 := Nat.eq_of_beq_eq_true e3
    dsimp only at e1 e2 e3
    subst e1; subst e2; subst e3
    have hlink : Cond.methodLink (hs_own qa) qb (hs_tn qc) ∈ hs_GW := hs_is_in (List.all_eq_true.mp hs_sl_ok _ hm)
    obtain ⟨hexec, hb, hml, hown, hts, hSf, hcs, ⟨hfr, hlo, rm, hrc, hrs, hrf, hrl, htx⟩, -⟩ := C
    unfold hs_txt at ex
    split at ex
    · rename_i κ j st0 hq0
      obtain ⟨hb2, ex2⟩ := hs_if_spec ex
      clear ex
      simp only [Bool.and_eq_true] at hb2
      have h90 := Nat.eq_of_beq_eq_true hb2.1
      subst h90
      have h8 := Nat.le_of_ble_eq_true hb2.2
      cases hqc : hq0
      cases ht : hs_nth hs_texts j with
      | none => rw [ht] at ex2; cases ex2
      | some t =>
        rw [ht] at ex2
        cases ex2
        intro ls H locs hr
        have h5 : j < 5 := hs_nth_lt _ _ _ ht
        have hrecv := vk_recv hSf.2.2.2.1.2.1 h5 hr.2.2.2.2.2
        have hp : PreV s H "java/lang/String" (hs_gA g 90 j) (hs_Pc g [vR 90 j] μ) [] := ⟨hs_blind, hrecv, fun U hU hW => ⟨rfl, hs_Sf_warm hSf hr.2.2.2.2.2 hU hW, by rw [hU]; exact hr.2.2.2.2.1⟩⟩
        refine hs_back (a := (Value.ref (hs_gA g 90 j) :: []).toArray) (r := some (vI (Int32.ofNat t.length))) hr (fun v hv => hr.2.2.2.1 v (List.mem_cons_of_mem _ hv)) (fun w q => by cases q; trivial) ?_ hk
        exact va_runV (Ts := hs_GW) (C := "java/lang/String") ⟨hexec, hb, hml, hown, hts⟩ (htx j t μ ht).1 ⟨callB_of 0 hts hs_goodT0 rfl hrc hrs (hts _ hs_w_sti) (hts _ hlink) ⟨by decide +kernel, by decide +kernel, by decide +kernel⟩ ⟨hrf, by show 8 + (1 + 11) + rm.locals ≤ R.locals; omega⟩, hts _ hs_w_sl0, hts _ hs_w_ss0⟩ hp rfl rfl hr.1.1 rfl (lv_room (by rw [hs_cats_enc]; exact h8)) hd ⟨by omega, by omega⟩
    · rename_i i κ j st0 hq0
      obtain ⟨hb2, ex2⟩ := hs_if_spec ex
      clear ex
      simp only [Bool.and_eq_true] at hb2
      have h90 := Nat.eq_of_beq_eq_true hb2.1
      subst h90
      have h8 := Nat.le_of_ble_eq_true hb2.2
      cases hqc : hq0
      cases ht : hs_nth hs_texts j with
      | none => rw [ht] at ex2; cases ex2
      | some t =>
        rw [ht] at ex2
        dsimp only at ex2
        by_cases hi : hs_in i t.length = true
        rotate_left
        · rw [if_neg hi] at ex2; cases ex2
        rw [if_pos hi] at ex2
        cases ex2
        intro ls H locs hr
        have h5 : j < 5 := hs_nth_lt _ _ _ ht
        have hrecv := vk_recv hSf.2.2.2.1.2.1 h5 hr.2.2.2.2.2
        have hp : PreV s H "java/lang/String" (hs_gA g 90 j) (hs_Pc g [vR 90 j, vI i] μ) [.int i] := ⟨hs_blind, hrecv, fun U hU hW => ⟨rfl, hs_Sf_warm hSf hr.2.2.2.2.2 hU hW, by rw [hU]; exact hr.2.2.2.2.1⟩⟩
        refine hs_back (a := (Value.ref (hs_gA g 90 j) :: [.int i]).toArray) (r := some (vI (Int32.ofNat (t.getD i.toNatClampNeg 0)))) hr (fun v hv => hr.2.2.2.1 v (List.mem_cons_of_mem _ (List.mem_cons_of_mem _ hv))) (fun w q => by cases q; trivial) ?_ hk
        exact va_runV (Ts := hs_GW) (C := "java/lang/String") ⟨hexec, hb, hml, hown, hts⟩ ((htx j t μ ht).2 i hi) ⟨callB_of 1 hts hs_goodT1 rfl hrc hrs (hts _ hs_w_sti) (hts _ hlink) ⟨by decide +kernel, by decide +kernel, by decide +kernel⟩ ⟨hrf, by show 8 + (2 + 11) + rm.locals ≤ R.locals; omega⟩, hts _ hs_w_sl1, hts _ hs_w_ss1⟩ hp rfl rfl hr.1.1 rfl (lv_room (by rw [hs_cats_enc]; exact h8)) hd ⟨by omega, by omega⟩
    · cases ex
  unfold hs_inv at ex
  split at ex <;> (try simp only [Bool.and_eq_true] at hok)
  · cases hok
  · cases hok
  · cases hok
  · rename_i y na ci
    obtain ⟨hl, hna, hst1, hy, hci, h13, hkk⟩ := hok
    obtain ⟨pp, st1, rfl, hlen, h⟩ := hs_pop_spec _ _ _ _ ex
    rw [List.append_nil] at h
    obtain ⟨j, as', has, h⟩ := hs_rcv_spec h
    obtain ⟨h8, h⟩ := hs_go8_spec h
    obtain ⟨μ1, hc, h⟩ := hs_bV_spec h
    cases h
    exact hs_callV C hd (hs_blt hy) hl (hlen.trans (Nat.eq_of_beq_eq_true hna)) (Nat.eq_of_beq_eq_true hst1) (Nat.eq_of_beq_eq_true hci) (hs_blt h13) has h8 hc (fun _ => hs_okk0 hkk) (fun v q => by cases q) hk
  · rename_i y na ci
    obtain ⟨hl, hna, hst1, hy, hci, h13, hkk⟩ := hok
    obtain ⟨pp, st1, rfl, hlen, h⟩ := hs_pop_spec _ _ _ _ ex
    rw [List.append_nil] at h
    obtain ⟨j, as', has, h⟩ := hs_rcv_spec h
    obtain ⟨h8, h⟩ := hs_go8_spec h
    obtain ⟨v, μ1, hc, h⟩ := hs_bI_spec h
    cases h
    exact hs_callV C hd (hs_blt hy) hl (hlen.trans (Nat.eq_of_beq_eq_true hna)) (Nat.eq_of_beq_eq_true hst1) (Nat.eq_of_beq_eq_true hci) (hs_blt h13) has h8 hc (fun q => by cases q) (fun w q => by cases q; trivial) hk
  · rename_i y na ci
    obtain ⟨hl, hna, hst1, hy, hci, h13, hkk⟩ := hok
    obtain ⟨pp, st1, rfl, hlen, h⟩ := hs_pop_spec _ _ _ _ ex
    rw [List.append_nil] at h
    obtain ⟨j, as', has, h⟩ := hs_rcv_spec h
    obtain ⟨h8, h⟩ := hs_go8_spec h
    obtain ⟨v, μ1, hc, h⟩ := hs_bL_spec h
    cases h
    exact hs_callV C hd (hs_blt hy) hl (hlen.trans (Nat.eq_of_beq_eq_true hna)) (Nat.eq_of_beq_eq_true hst1) (Nat.eq_of_beq_eq_true hci) (hs_blt h13) has h8 hc (fun q => by cases q) (fun w q => by cases q; trivial) hk
  · cases hok
  · cases ex
