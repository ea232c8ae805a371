/-! ===== bodies on the machine: sound as far as their next stop ===== -/
theorem hl_mask {g : hs_G} {p : Program} {l : Launch} {e : Env} {R : Room} {s : State} {m : MethodId} {args : Array Value} {below : List Frame} {meth : Method} {c : Code} {cells slots nL : Nat} {Q : State → Prop} {d own : Nat} {cc : ByteArray} {pc : Nat} {L : hs_L} {st : List hs_V} {μ : hs_M} (mk : List Bool) (h : hs_WS g p l e R s m args below meth c cells slots nL Q pc (hs_mask mk L) st μ) : hs_WS g p l e R s m args below meth c cells slots nL Q pc L st μ := fun ls H locs hr => h ls H locs (hr.mask mk)
theorem hl_clean {g : hs_G} {p : Program} {l : Launch} {e : Env} {R : Room} {s : State} {m : MethodId} {args : Array Value} {below : List Frame} {meth : Method} {c : Code} {cells slots nL : Nat} {Q : State → Prop} {d own : Nat} {cc : ByteArray} {code : hs_K} {pc : Nat} {L : hs_L} {st : List hs_V} {μ : hs_M} (h : hs_WS g p l e R s m args below meth c cells slots nL Q pc (hs_clean code pc L) st μ) : hs_WS g p l e R s m args below meth c cells slots nL Q pc L st μ := by
  unfold hs_clean at h
  split at h
  · exact hl_mask (own := 0) (cc := .empty) (d := 0) _ h
  · exact h
/-- the world says what the script is -/
theorem hl_sc {g : hs_G} {p : Program} {l : Launch} {e : Env} {R : Room} {s : State} {m : MethodId} {args : Array Value} {below : List Frame} {meth : Method} {c : Code} {cells slots nL : Nat} {Q : State → Prop} {d own : Nat} {cc : ByteArray} {pc : Nat} {L : hs_L} {st : List hs_V} {μ : hs_M} (h : hs_Sc g μ → hs_WS g p l e R s m args below meth c cells slots nL Q pc L st μ) : hs_WS g p l e R s m args below meth c cells slots nL Q pc L st μ := fun ls H locs hr => h hr.2.2.2.2.1.2.2 ls H locs hr
theorem hg_sound {g : hs_G} {p : Program} {l : Launch} {e : Env} {R : Room} {s : State} {m : MethodId} {args : Array Value} {below : List Frame} {meth : Method} {c : Code} {cells slots nL : Nat} {Q : State → Prop} {d own : Nat} {cc : ByteArray} (C : hs_Ctx g p l R s m args c cells slots own cc nL (hs_call d)) {code : hs_K} (hck : hs_ckk own cc 0 code = true) {stops : List Nat} : ∀ (n pc : Nat) (L : hs_L) (st : List hs_V) (μ : hs_M) (pc' : Nat) (L' : hs_L) (st' : List hs_V) (μ' : hs_M), hg_go code d stops n pc L st μ = some ((pc', L', st'), μ') → hs_WS g p l e R s m args below meth c cells slots nL Q pc' L' st' μ' → hs_WS g p l e R s m args below meth c cells slots nL Q pc L st μ
  | 0, pc, L, st, μ, pc', L', st', μ', h, hk => by
    have h : some ((pc, L, st), μ) = some ((pc', L', st'), μ') := h
    cases h
    exact hk
  | n + 1, pc, L, st, μ, pc', L', st', μ', h, hk => by
    have h : hs_one code (hs_call d) (fun pc ls st μ => match hs_mem stops pc with
      | true => hl_K0 pc (hs_clean code pc ls) st μ
      | false => hg_go code d stops n pc ls st μ) hl_K0 pc L st μ = some ((pc', L', st'), μ') := h
    unfold hs_one at h
    cases ha : hs_at code pc with
    | none => rw [ha] at h; cases h
    | some row =>
      rw [ha] at h
      dsimp only at h
      rw [hs_step_nx] at h
      obtain ⟨hd, hok⟩ := hs_at_ok hck ha
      cases hx : hs_nx (hs_call d) row pc (hs_mask row.2.2.2 L) st μ with
      | none => rw [hx] at h; cases h
      | some x =>
        rw [hx] at h
        apply hl_mask (own := 0) (cc := .empty) (d := 0) row.2.2.2
        rcases x with ⟨pc1, L1, st1, μ1⟩ | x
        · refine hs_sstep C hd hok hx ?_
          have h : (match hs_mem stops pc1 with
            | true => hl_K0 pc1 (hs_clean code pc1 L1) st1 μ1
            | false => hg_go code d stops n pc1 L1 st1 μ1) = some ((pc', L', st'), μ') := h
          cases hs : hs_mem stops pc1 with
          | true =>
            rw [hs] at h
            have h : some ((pc1, hs_clean code pc1 L1, st1), μ1) = some ((pc', L', st'), μ') := h
            cases h
            exact hl_clean (own := 0) (cc := .empty) (d := 0) hk
          | false =>
            rw [hs] at h
            exact hg_sound C hck n pc1 L1 st1 μ1 pc' L' st' μ' h hk
        · have e := hs_nx_inr hx
          subst e
          have h : some ((pc, hs_mask row.2.2.2 L, st), μ) = some ((pc', L', st'), μ') := h
          cases h
          exact hk
set_option maxRecDepth 100000 in
theorem hl_q_23 (d : Nat) (x4 : Int32) (μ : hs_M) : hl_go d [1758, 39] 60 23 (hl_L x4) [] μ =
  (if ((Int32.ofNat ((μ.1 70 1 0).toNatClampNeg)) - (5 : Int32)) < x4 then some ((1758, [none, none, none, none, none, none, none, none], []), μ) else (if hs_in x4 ((μ.1 70 1 0).toNatClampNeg) then some ((39, hl_L x4, [vI ((μ.1 70 0 (x4.toNatClampNeg)) &&& (63 : Int32))]), μ) else none)) := rfl
set_option maxRecDepth 100000 in
theorem hl_q_1752 (d : Nat) (x4 : Int32) (μ : hs_M) : hl_go d [] 60 1752 (hl_L x4) [] μ =
  some ((1755, hl_L (x4 + (5 : Int32)), []), μ) := rfl
theorem hl_q_1758 (d : Nat) (μ : hs_M) : hl_go d [] 60 1758 [none, none, none, none, none, none, none, none] [] μ = some ((1759, [none, none, none, none, none, none, none, none], [vI (1 : Int32)]), μ) := rfl
set_option maxRecDepth 100000 in
theorem hl_a_0 (d : Nat) (x4 : Int32) (μ : hs_M) : hl_go d [262] 60 252 (hl_L x4) [] μ =
  (if hs_in (x4 + (1 : Int32)) ((μ.1 70 1 0).toNatClampNeg) then hs_bI (hc_H_sign d (μ.1 70 0 ((x4 + (1 : Int32)).toNatClampNeg)) μ) (fun r1 μ1 => some ((262, hl_L x4, [vI r1]), μ1)) else none) := rfl
set_option maxRecDepth 100000 in
theorem hl_b_0 (d : Nat) (x4 : Int32) (y : Int32) (μ : hs_M) : hl_go d [1752] 60 262 (hl_L x4) [vI y] μ =
  (if hs_in (x4 + (1 : Int32)) ((μ.1 70 1 0).toNatClampNeg) then hs_bI (hc_M_sign d (μ.1 70 0 ((x4 + (1 : Int32)).toNatClampNeg)) μ) (fun r1 μ1 => (if y = r1 then some ((1752, hl_L x4, []), μ1) else some ((276, [none, none, none, none, none, none, none, none], [vI (0 : Int32)]), μ1))) else none) := rfl
set_option maxRecDepth 100000 in
theorem hl_a_1 (d : Nat) (x4 : Int32) (μ : hs_M) : hl_go d [287] 60 277 (hl_L x4) [] μ =
  (if hs_in (x4 + (1 : Int32)) ((μ.1 70 1 0).toNatClampNeg) then hs_bI (hc_H_end d (μ.1 70 0 ((x4 + (1 : Int32)).toNatClampNeg)) μ) (fun r1 μ1 => some ((287, hl_L x4, [vI r1]), μ1)) else none) := rfl
set_option maxRecDepth 100000 in
theorem hl_b_1 (d : Nat) (x4 : Int32) (y : Int32) (μ : hs_M) : hl_go d [1752] 60 287 (hl_L x4) [vI y] μ =
  (if hs_in (x4 + (1 : Int32)) ((μ.1 70 1 0).toNatClampNeg) then hs_bI (hc_M_end d (μ.1 70 0 ((x4 + (1 : Int32)).toNatClampNeg)) μ) (fun r1 μ1 => (if y = r1 then some ((1752, hl_L x4, []), μ1) else some ((301, [none, none, none, none, none, none, none, none], [vI (0 : Int32)]), μ1))) else none) := rfl
set_option maxRecDepth 100000 in
theorem hl_a_2 (d : Nat) (x4 : Int32) (μ : hs_M) : hl_go d [306] 60 302 (hl_L x4) [] μ =
  hs_bI (hc_H_town d μ) (fun r1 μ1 => some ((306, hl_L x4, [vI r1]), μ1)) := rfl
set_option maxRecDepth 100000 in
theorem hl_b_2 (d : Nat) (x4 : Int32) (y : Int32) (μ : hs_M) : hl_go d [1752] 60 306 (hl_L x4) [vI y] μ =
  hs_bI (hc_M_town d μ) (fun r1 μ1 => (if y = r1 then some ((1752, hl_L x4, []), μ1) else some ((314, [none, none, none, none, none, none, none, none], [vI (0 : Int32)]), μ1))) := rfl
set_option maxRecDepth 100000 in
theorem hl_a_3 (d : Nat) (x4 : Int32) (μ : hs_M) : hl_go d [319] 60 315 (hl_L x4) [] μ =
  hs_bI (hc_H_will d μ) (fun r1 μ1 => some ((319, hl_L x4, [vI r1]), μ1)) := rfl
set_option maxRecDepth 100000 in
theorem hl_b_3 (d : Nat) (x4 : Int32) (y : Int32) (μ : hs_M) : hl_go d [1752] 60 319 (hl_L x4) [vI y] μ =
  hs_bI (hc_M_will d μ) (fun r1 μ1 => (if y = r1 then some ((1752, hl_L x4, []), μ1) else some ((327, [none, none, none, none, none, none, none, none], [vI (0 : Int32)]), μ1))) := rfl
set_option maxRecDepth 100000 in
theorem hl_a_4 (d : Nat) (x4 : Int32) (μ : hs_M) : hl_go d [338] 60 328 (hl_L x4) [] μ =
  (if hs_in (x4 + (1 : Int32)) ((μ.1 70 1 0).toNatClampNeg) then hs_bI (hc_H_habit d (μ.1 70 0 ((x4 + (1 : Int32)).toNatClampNeg)) μ) (fun r1 μ1 => some ((338, hl_L x4, [vI r1]), μ1)) else none) := rfl
set_option maxRecDepth 100000 in
theorem hl_b_4 (d : Nat) (x4 : Int32) (y : Int32) (μ : hs_M) : hl_go d [1752] 60 338 (hl_L x4) [vI y] μ =
  (if hs_in (x4 + (1 : Int32)) ((μ.1 70 1 0).toNatClampNeg) then hs_bI (hc_M_habit d (μ.1 70 0 ((x4 + (1 : Int32)).toNatClampNeg)) μ) (fun r1 μ1 => (if y = r1 then some ((1752, hl_L x4, []), μ1) else some ((352, [none, none, none, none, none, none, none, none], [vI (0 : Int32)]), μ1))) else none) := rfl
set_option maxRecDepth 100000 in
theorem hl_a_5 (d : Nat) (x4 : Int32) (μ : hs_M) : hl_go d [] 60 353 (hl_L x4) [] μ =
  (if hs_in (x4 + (1 : Int32)) ((μ.1 70 1 0).toNatClampNeg) then (if hs_in (x4 + (2 : Int32)) ((μ.1 70 1 0).toNatClampNeg) then some ((367, hl_L x4, [vR 69 0, vI (μ.1 70 0 ((x4 + (2 : Int32)).toNatClampNeg)), vI (μ.1 70 0 ((x4 + (1 : Int32)).toNatClampNeg)), vR 11 0]), μ) else none) else none) := rfl
set_option maxRecDepth 100000 in
theorem hl_b_5 (d : Nat) (x4 : Int32) (y : Int32) (μ : hs_M) : hl_go d [1752] 60 370 (hl_L x4) [vI y] μ =
  (if hs_in (x4 + (1 : Int32)) ((μ.1 70 1 0).toNatClampNeg) then (if hs_in (x4 + (2 : Int32)) ((μ.1 70 1 0).toNatClampNeg) then hs_bI (hc_M_of d (μ.1 70 0 ((x4 + (1 : Int32)).toNatClampNeg)) (μ.1 70 0 ((x4 + (2 : Int32)).toNatClampNeg)) μ) (fun r1 μ1 => hs_bI (hc_M_thrown d μ1) (fun r2 μ2 => (if r2 = y then (if y = 0 then (if (lg_cmp (μ2.2 69 0 0) (r1.toInt64)) = 0 then some ((1752, hl_L x4, []), μ2) else some ((417, [none, none, none, none, none, none, none, none], [vI (0 : Int32)]), μ2)) else some ((1752, hl_L x4, []), μ2)) else some ((400, [none, none, none, none, none, none, none, none], [vI (0 : Int32)]), μ2)))) else none) else none) := rfl
set_option maxRecDepth 100000 in
theorem hl_a_6 (d : Nat) (x4 : Int32) (μ : hs_M) : hl_go d [] 60 421 (hl_L x4) [] μ =
  (if hs_in (x4 + (1 : Int32)) ((μ.1 70 1 0).toNatClampNeg) then (if hs_in (x4 + (2 : Int32)) ((μ.1 70 1 0).toNatClampNeg) then some ((435, hl_L x4, [vR 69 0, vI (μ.1 70 0 ((x4 + (2 : Int32)).toNatClampNeg)), vI (μ.1 70 0 ((x4 + (1 : Int32)).toNatClampNeg)), vR 11 0]), μ) else none) else none) := rfl
set_option maxRecDepth 100000 in
theorem hl_b_6 (d : Nat) (x4 : Int32) (y : Int32) (μ : hs_M) : hl_go d [1752] 60 438 (hl_L x4) [vI y] μ =
  (if hs_in (x4 + (1 : Int32)) ((μ.1 70 1 0).toNatClampNeg) then (if hs_in (x4 + (2 : Int32)) ((μ.1 70 1 0).toNatClampNeg) then hs_bI (hc_M_change d (μ.1 70 0 ((x4 + (1 : Int32)).toNatClampNeg)) (μ.1 70 0 ((x4 + (2 : Int32)).toNatClampNeg)) μ) (fun r1 μ1 => hs_bI (hc_M_thrown d μ1) (fun r2 μ2 => (if r2 = y then (if y = 0 then (if (lg_cmp (μ2.2 69 0 0) (r1.toInt64)) = 0 then some ((1752, hl_L x4, []), μ2) else some ((485, [none, none, none, none, none, none, none, none], [vI (0 : Int32)]), μ2)) else some ((1752, hl_L x4, []), μ2)) else some ((468, [none, none, none, none, none, none, none, none], [vI (0 : Int32)]), μ2)))) else none) else none) := rfl
set_option maxRecDepth 100000 in
theorem hl_a_7 (d : Nat) (x4 : Int32) (μ : hs_M) : hl_go d [511] 60 489 (hl_L x4) [] μ =
  (if hs_in (x4 + (1 : Int32)) ((μ.1 70 1 0).toNatClampNeg) then (if hs_in (x4 + (2 : Int32)) ((μ.1 70 1 0).toNatClampNeg) then (if hs_in (x4 + (3 : Int32)) ((μ.1 70 1 0).toNatClampNeg) then hs_bI (hc_H_set d (μ.1 70 0 ((x4 + (1 : Int32)).toNatClampNeg)) (μ.1 70 0 ((x4 + (2 : Int32)).toNatClampNeg)) (μ.1 70 0 ((x4 + (3 : Int32)).toNatClampNeg)) μ) (fun r1 μ1 => some ((511, hl_L x4, [vI r1]), μ1)) else none) else none) else none) := rfl
set_option maxRecDepth 100000 in
theorem hl_b_7 (d : Nat) (x4 : Int32) (y : Int32) (μ : hs_M) : hl_go d [1752] 60 511 (hl_L x4) [vI y] μ =
  (if hs_in (x4 + (1 : Int32)) ((μ.1 70 1 0).toNatClampNeg) then (if hs_in (x4 + (2 : Int32)) ((μ.1 70 1 0).toNatClampNeg) then (if hs_in (x4 + (3 : Int32)) ((μ.1 70 1 0).toNatClampNeg) then hs_bI (hc_M_set d (μ.1 70 0 ((x4 + (1 : Int32)).toNatClampNeg)) (μ.1 70 0 ((x4 + (2 : Int32)).toNatClampNeg)) (μ.1 70 0 ((x4 + (3 : Int32)).toNatClampNeg)) μ) (fun r1 μ1 => (if y = r1 then some ((1752, hl_L x4, []), μ1) else some ((537, [none, none, none, none, none, none, none, none], [vI (0 : Int32)]), μ1))) else none) else none) else none) := rfl
set_option maxRecDepth 100000 in
theorem hl_a_8 (d : Nat) (x4 : Int32) (μ : hs_M) : hl_go d [554] 60 538 (hl_L x4) [] μ =
  (if hs_in (x4 + (1 : Int32)) ((μ.1 70 1 0).toNatClampNeg) then (if hs_in (x4 + (2 : Int32)) ((μ.1 70 1 0).toNatClampNeg) then hs_bI (hc_H_scale d (μ.1 70 0 ((x4 + (1 : Int32)).toNatClampNeg)) (μ.1 70 0 ((x4 + (2 : Int32)).toNatClampNeg)) μ) (fun r1 μ1 => some ((554, hl_L x4, [vI r1]), μ1)) else none) else none) := rfl
set_option maxRecDepth 100000 in
theorem hl_b_8 (d : Nat) (x4 : Int32) (y : Int32) (μ : hs_M) : hl_go d [1752] 60 554 (hl_L x4) [vI y] μ =
  (if hs_in (x4 + (1 : Int32)) ((μ.1 70 1 0).toNatClampNeg) then (if hs_in (x4 + (2 : Int32)) ((μ.1 70 1 0).toNatClampNeg) then hs_bI (hc_M_scale d (μ.1 70 0 ((x4 + (1 : Int32)).toNatClampNeg)) (μ.1 70 0 ((x4 + (2 : Int32)).toNatClampNeg)) μ) (fun r1 μ1 => (if y = r1 then some ((1752, hl_L x4, []), μ1) else some ((574, [none, none, none, none, none, none, none, none], [vI (0 : Int32)]), μ1))) else none) else none) := rfl
set_option maxRecDepth 100000 in
theorem hl_a_9 (d : Nat) (x4 : Int32) (μ : hs_M) : hl_go d [603] 60 575 (hl_L x4) [] μ =
  (if hs_in (x4 + (1 : Int32)) ((μ.1 70 1 0).toNatClampNeg) then (if hs_in (x4 + (2 : Int32)) ((μ.1 70 1 0).toNatClampNeg) then (if hs_in (x4 + (3 : Int32)) ((μ.1 70 1 0).toNatClampNeg) then (if hs_in (x4 + (4 : Int32)) ((μ.1 70 1 0).toNatClampNeg) then hs_bI (hc_H_sheet d (μ.1 70 0 ((x4 + (1 : Int32)).toNatClampNeg)) (μ.1 70 0 ((x4 + (2 : Int32)).toNatClampNeg)) (μ.1 70 0 ((x4 + (3 : Int32)).toNatClampNeg)) (μ.1 70 0 ((x4 + (4 : Int32)).toNatClampNeg)) μ) (fun r1 μ1 => some ((603, hl_L x4, [vI r1]), μ1)) else none) else none) else none) else none) := rfl
set_option maxRecDepth 100000 in
theorem hl_b_9 (d : Nat) (x4 : Int32) (y : Int32) (μ : hs_M) : hl_go d [1752] 60 603 (hl_L x4) [vI y] μ =
  (if hs_in (x4 + (1 : Int32)) ((μ.1 70 1 0).toNatClampNeg) then (if hs_in (x4 + (2 : Int32)) ((μ.1 70 1 0).toNatClampNeg) then (if hs_in (x4 + (3 : Int32)) ((μ.1 70 1 0).toNatClampNeg) then (if hs_in (x4 + (4 : Int32)) ((μ.1 70 1 0).toNatClampNeg) then hs_bI (hc_M_sheet d (μ.1 70 0 ((x4 + (1 : Int32)).toNatClampNeg)) (μ.1 70 0 ((x4 + (2 : Int32)).toNatClampNeg)) (μ.1 70 0 ((x4 + (3 : Int32)).toNatClampNeg)) (μ.1 70 0 ((x4 + (4 : Int32)).toNatClampNeg)) μ) (fun r1 μ1 => (if y = r1 then some ((1752, hl_L x4, []), μ1) else some ((635, [none, none, none, none, none, none, none, none], [vI (0 : Int32)]), μ1))) else none) else none) else none) else none) := rfl
set_option maxRecDepth 100000 in
theorem hl_a_10 (d : Nat) (x4 : Int32) (μ : hs_M) : hl_go d [646] 60 636 (hl_L x4) [] μ =
  (if hs_in (x4 + (1 : Int32)) ((μ.1 70 1 0).toNatClampNeg) then hs_bI (hc_H_stand d (μ.1 70 0 ((x4 + (1 : Int32)).toNatClampNeg)) μ) (fun r1 μ1 => some ((646, hl_L x4, [vI r1]), μ1)) else none) := rfl
set_option maxRecDepth 100000 in
theorem hl_b_10 (d : Nat) (x4 : Int32) (y : Int32) (μ : hs_M) : hl_go d [1752] 60 646 (hl_L x4) [vI y] μ =
  (if hs_in (x4 + (1 : Int32)) ((μ.1 70 1 0).toNatClampNeg) then hs_bI (hc_M_stand d (μ.1 70 0 ((x4 + (1 : Int32)).toNatClampNeg)) μ) (fun r1 μ1 => (if y = r1 then some ((1752, hl_L x4, []), μ1) else some ((660, [none, none, none, none, none, none, none, none], [vI (0 : Int32)]), μ1))) else none) := rfl
set_option maxRecDepth 100000 in
theorem hl_a_11 (d : Nat) (x4 : Int32) (μ : hs_M) : hl_go d [671] 60 661 (hl_L x4) [] μ =
  (if hs_in (x4 + (1 : Int32)) ((μ.1 70 1 0).toNatClampNeg) then hs_bI (hc_H_weeks d (μ.1 70 0 ((x4 + (1 : Int32)).toNatClampNeg)) μ) (fun r1 μ1 => some ((671, hl_L x4, [vI r1]), μ1)) else none) := rfl
set_option maxRecDepth 100000 in
theorem hl_b_11 (d : Nat) (x4 : Int32) (y : Int32) (μ : hs_M) : hl_go d [1752] 60 671 (hl_L x4) [vI y] μ =
  (if hs_in (x4 + (1 : Int32)) ((μ.1 70 1 0).toNatClampNeg) then hs_bI (hc_M_weeks d (μ.1 70 0 ((x4 + (1 : Int32)).toNatClampNeg)) μ) (fun r1 μ1 => (if y = r1 then some ((1752, hl_L x4, []), μ1) else some ((685, [none, none, none, none, none, none, none, none], [vI (0 : Int32)]), μ1))) else none) := rfl
set_option maxRecDepth 100000 in
theorem hl_a_12 (d : Nat) (x4 : Int32) (μ : hs_M) : hl_go d [690] 60 686 (hl_L x4) [] μ =
  hs_bI (hc_H_year d μ) (fun r1 μ1 => some ((690, hl_L x4, [vI r1]), μ1)) := rfl
set_option maxRecDepth 100000 in
theorem hl_b_12 (d : Nat) (x4 : Int32) (y : Int32) (μ : hs_M) : hl_go d [1752] 60 690 (hl_L x4) [vI y] μ =
  hs_bI (hc_M_year d μ) (fun r1 μ1 => (if y = r1 then some ((1752, hl_L x4, []), μ1) else some ((698, [none, none, none, none, none, none, none, none], [vI (0 : Int32)]), μ1))) := rfl
set_option maxRecDepth 100000 in
theorem hl_a_13 (d : Nat) (x4 : Int32) (μ : hs_M) : hl_go d [703] 60 699 (hl_L x4) [] μ =
  hs_bI (hc_H_law d μ) (fun r1 μ1 => some ((703, hl_L x4, [vI r1]), μ1)) := rfl
set_option maxRecDepth 100000 in
theorem hl_b_13 (d : Nat) (x4 : Int32) (y : Int32) (μ : hs_M) : hl_go d [1752] 60 703 (hl_L x4) [vI y] μ =
  hs_bI (hc_M_law d μ) (fun r1 μ1 => (if y = r1 then some ((1752, hl_L x4, []), μ1) else some ((711, [none, none, none, none, none, none, none, none], [vI (0 : Int32)]), μ1))) := rfl
set_option maxRecDepth 100000 in
theorem hl_a_14 (d : Nat) (x4 : Int32) (μ : hs_M) : hl_go d [] 60 712 (hl_L x4) [] μ =
  (if hs_in (x4 + (1 : Int32)) ((μ.1 70 1 0).toNatClampNeg) then (if hs_in (x4 + (2 : Int32)) ((μ.1 70 1 0).toNatClampNeg) then some ((726, hl_L x4, [vR 69 0, vI (μ.1 70 0 ((x4 + (2 : Int32)).toNatClampNeg)), vI (μ.1 70 0 ((x4 + (1 : Int32)).toNatClampNeg)), vR 11 0]), μ) else none) else none) := rfl
set_option maxRecDepth 100000 in
theorem hl_b_14 (d : Nat) (x4 : Int32) (y : Int32) (μ : hs_M) : hl_go d [1752] 60 729 (hl_L x4) [vI y] μ =
  (if hs_in (x4 + (1 : Int32)) ((μ.1 70 1 0).toNatClampNeg) then (if hs_in (x4 + (2 : Int32)) ((μ.1 70 1 0).toNatClampNeg) then hs_bI (hc_M_laws d (μ.1 70 0 ((x4 + (1 : Int32)).toNatClampNeg)) (μ.1 70 0 ((x4 + (2 : Int32)).toNatClampNeg)) μ) (fun r1 μ1 => hs_bI (hc_M_thrown d μ1) (fun r2 μ2 => (if r2 = y then (if y = 0 then (if (lg_cmp (μ2.2 69 0 0) (r1.toInt64)) = 0 then some ((1752, hl_L x4, []), μ2) else some ((776, [none, none, none, none, none, none, none, none], [vI (0 : Int32)]), μ2)) else some ((1752, hl_L x4, []), μ2)) else some ((759, [none, none, none, none, none, none, none, none], [vI (0 : Int32)]), μ2)))) else none) else none) := rfl
set_option maxRecDepth 100000 in
theorem hl_a_15 (d : Nat) (x4 : Int32) (μ : hs_M) : hl_go d [796] 60 780 (hl_L x4) [] μ =
  (if hs_in (x4 + (1 : Int32)) ((μ.1 70 1 0).toNatClampNeg) then (if hs_in (x4 + (2 : Int32)) ((μ.1 70 1 0).toNatClampNeg) then hs_bI (hc_H_feed d (μ.1 70 0 ((x4 + (1 : Int32)).toNatClampNeg)) (μ.1 70 0 ((x4 + (2 : Int32)).toNatClampNeg)) μ) (fun r1 μ1 => some ((796, hl_L x4, [vI r1]), μ1)) else none) else none) := rfl
set_option maxRecDepth 100000 in
theorem hl_b_15 (d : Nat) (x4 : Int32) (y : Int32) (μ : hs_M) : hl_go d [1752] 60 796 (hl_L x4) [vI y] μ =
  (if hs_in (x4 + (1 : Int32)) ((μ.1 70 1 0).toNatClampNeg) then (if hs_in (x4 + (2 : Int32)) ((μ.1 70 1 0).toNatClampNeg) then hs_bI (hc_M_feed d (μ.1 70 0 ((x4 + (1 : Int32)).toNatClampNeg)) (μ.1 70 0 ((x4 + (2 : Int32)).toNatClampNeg)) μ) (fun r1 μ1 => (if y = r1 then some ((1752, hl_L x4, []), μ1) else some ((816, [none, none, none, none, none, none, none, none], [vI (0 : Int32)]), μ1))) else none) else none) := rfl
set_option maxRecDepth 100000 in
theorem hl_a_16 (d : Nat) (x4 : Int32) (μ : hs_M) : hl_go d [833] 60 817 (hl_L x4) [] μ =
  (if hs_in (x4 + (1 : Int32)) ((μ.1 70 1 0).toNatClampNeg) then (if hs_in (x4 + (2 : Int32)) ((μ.1 70 1 0).toNatClampNeg) then hs_bI (hc_H_fast d (μ.1 70 0 ((x4 + (1 : Int32)).toNatClampNeg)) (μ.1 70 0 ((x4 + (2 : Int32)).toNatClampNeg)) μ) (fun r1 μ1 => some ((833, hl_L x4, [vI r1]), μ1)) else none) else none) := rfl
set_option maxRecDepth 100000 in
theorem hl_b_16 (d : Nat) (x4 : Int32) (y : Int32) (μ : hs_M) : hl_go d [1752] 60 833 (hl_L x4) [vI y] μ =
  (if hs_in (x4 + (1 : Int32)) ((μ.1 70 1 0).toNatClampNeg) then (if hs_in (x4 + (2 : Int32)) ((μ.1 70 1 0).toNatClampNeg) then hs_bI (hc_M_fast d (μ.1 70 0 ((x4 + (1 : Int32)).toNatClampNeg)) (μ.1 70 0 ((x4 + (2 : Int32)).toNatClampNeg)) μ) (fun r1 μ1 => (if y = r1 then some ((1752, hl_L x4, []), μ1) else some ((853, [none, none, none, none, none, none, none, none], [vI (0 : Int32)]), μ1))) else none) else none) := rfl
set_option maxRecDepth 100000 in
theorem hl_a_17 (d : Nat) (x4 : Int32) (μ : hs_M) : hl_go d [864] 60 854 (hl_L x4) [] μ =
  (if hs_in (x4 + (1 : Int32)) ((μ.1 70 1 0).toNatClampNeg) then hs_bI (hc_H_dies d (μ.1 70 0 ((x4 + (1 : Int32)).toNatClampNeg)) μ) (fun r1 μ1 => some ((864, hl_L x4, [vI r1]), μ1)) else none) := rfl
set_option maxRecDepth 100000 in
theorem hl_b_17 (d : Nat) (x4 : Int32) (y : Int32) (μ : hs_M) : hl_go d [1752] 60 864 (hl_L x4) [vI y] μ =
  (if hs_in (x4 + (1 : Int32)) ((μ.1 70 1 0).toNatClampNeg) then hs_bI (hc_M_dies d (μ.1 70 0 ((x4 + (1 : Int32)).toNatClampNeg)) μ) (fun r1 μ1 => (if y = r1 then some ((1752, hl_L x4, []), μ1) else some ((878, [none, none, none, none, none, none, none, none], [vI (0 : Int32)]), μ1))) else none) := rfl
set_option maxRecDepth 100000 in
theorem hl_a_18 (d : Nat) (x4 : Int32) (μ : hs_M) : hl_go d [883] 60 879 (hl_L x4) [] μ =
  hs_bI (hc_H_undo d μ) (fun r1 μ1 => some ((883, hl_L x4, [vI r1]), μ1)) := rfl
set_option maxRecDepth 100000 in
theorem hl_b_18 (d : Nat) (x4 : Int32) (y : Int32) (μ : hs_M) : hl_go d [1752] 60 883 (hl_L x4) [vI y] μ =
  hs_bI (hc_M_undo d μ) (fun r1 μ1 => (if y = r1 then some ((1752, hl_L x4, []), μ1) else some ((891, [none, none, none, none, none, none, none, none], [vI (0 : Int32)]), μ1))) := rfl
set_option maxRecDepth 100000 in
theorem hl_a_19 (d : Nat) (x4 : Int32) (μ : hs_M) : hl_go d [902] 60 892 (hl_L x4) [] μ =
  (if hs_in (x4 + (1 : Int32)) ((μ.1 70 1 0).toNatClampNeg) then hs_bI (hc_H_served d (μ.1 70 0 ((x4 + (1 : Int32)).toNatClampNeg)) μ) (fun r1 μ1 => some ((902, hl_L x4, [vI r1]), μ1)) else none) := rfl
set_option maxRecDepth 100000 in
theorem hl_b_19 (d : Nat) (x4 : Int32) (y : Int32) (μ : hs_M) : hl_go d [1752] 60 902 (hl_L x4) [vI y] μ =
  (if hs_in (x4 + (1 : Int32)) ((μ.1 70 1 0).toNatClampNeg) then hs_bI (hc_M_served d (μ.1 70 0 ((x4 + (1 : Int32)).toNatClampNeg)) μ) (fun r1 μ1 => (if y = r1 then some ((1752, hl_L x4, []), μ1) else some ((916, [none, none, none, none, none, none, none, none], [vI (0 : Int32)]), μ1))) else none) := rfl
set_option maxRecDepth 100000 in
theorem hl_a_20 (d : Nat) (x4 : Int32) (μ : hs_M) : hl_go d [933] 60 917 (hl_L x4) [] μ =
  (if hs_in (x4 + (1 : Int32)) ((μ.1 70 1 0).toNatClampNeg) then (if hs_in (x4 + (2 : Int32)) ((μ.1 70 1 0).toNatClampNeg) then hs_bI (hc_H_later d (μ.1 70 0 ((x4 + (1 : Int32)).toNatClampNeg)) (μ.1 70 0 ((x4 + (2 : Int32)).toNatClampNeg)) μ) (fun r1 μ1 => some ((933, hl_L x4, [vI r1]), μ1)) else none) else none) := rfl
set_option maxRecDepth 100000 in
theorem hl_b_20 (d : Nat) (x4 : Int32) (y : Int32) (μ : hs_M) : hl_go d [1752] 60 933 (hl_L x4) [vI y] μ =
  (if hs_in (x4 + (1 : Int32)) ((μ.1 70 1 0).toNatClampNeg) then (if hs_in (x4 + (2 : Int32)) ((μ.1 70 1 0).toNatClampNeg) then hs_bI (hc_M_later d (μ.1 70 0 ((x4 + (1 : Int32)).toNatClampNeg)) (μ.1 70 0 ((x4 + (2 : Int32)).toNatClampNeg)) μ) (fun r1 μ1 => (if y = r1 then some ((1752, hl_L x4, []), μ1) else some ((953, [none, none, none, none, none, none, none, none], [vI (0 : Int32)]), μ1))) else none) else none) := rfl
set_option maxRecDepth 100000 in
theorem hl_a_21 (d : Nat) (x4 : Int32) (μ : hs_M) : hl_go d [964] 60 954 (hl_L x4) [] μ =
  (if hs_in (x4 + (1 : Int32)) ((μ.1 70 1 0).toNatClampNeg) then hs_bI (hc_H_then d (μ.1 70 0 ((x4 + (1 : Int32)).toNatClampNeg)) μ) (fun r1 μ1 => some ((964, hl_L x4, [vI r1]), μ1)) else none) := rfl
set_option maxRecDepth 100000 in
theorem hl_b_21 (d : Nat) (x4 : Int32) (y : Int32) (μ : hs_M) : hl_go d [1752] 60 964 (hl_L x4) [vI y] μ =
  (if hs_in (x4 + (1 : Int32)) ((μ.1 70 1 0).toNatClampNeg) then hs_bI (hc_M_then d (μ.1 70 0 ((x4 + (1 : Int32)).toNatClampNeg)) μ) (fun r1 μ1 => (if y = r1 then some ((1752, hl_L x4, []), μ1) else some ((978, [none, none, none, none, none, none, none, none], [vI (0 : Int32)]), μ1))) else none) := rfl
set_option maxRecDepth 100000 in
theorem hl_a_22 (d : Nat) (x4 : Int32) (μ : hs_M) : hl_go d [989] 60 979 (hl_L x4) [] μ =
  (if hs_in (x4 + (1 : Int32)) ((μ.1 70 1 0).toNatClampNeg) then hs_bI (hc_H_soonest d (μ.1 70 0 ((x4 + (1 : Int32)).toNatClampNeg)) μ) (fun r1 μ1 => some ((989, hl_L x4, [vI r1]), μ1)) else none) := rfl
set_option maxRecDepth 100000 in
theorem hl_b_22 (d : Nat) (x4 : Int32) (y : Int32) (μ : hs_M) : hl_go d [1752] 60 989 (hl_L x4) [vI y] μ =
  (if hs_in (x4 + (1 : Int32)) ((μ.1 70 1 0).toNatClampNeg) then hs_bI (hc_M_soonest d (μ.1 70 0 ((x4 + (1 : Int32)).toNatClampNeg)) μ) (fun r1 μ1 => (if y = r1 then some ((1752, hl_L x4, []), μ1) else some ((1003, [none, none, none, none, none, none, none, none], [vI (0 : Int32)]), μ1))) else none) := rfl
set_option maxRecDepth 100000 in
theorem hl_a_23 (d : Nat) (x4 : Int32) (μ : hs_M) : hl_go d [1014] 60 1004 (hl_L x4) [] μ =
  (if hs_in (x4 + (1 : Int32)) ((μ.1 70 1 0).toNatClampNeg) then hs_bI (hc_H_ever d (μ.1 70 0 ((x4 + (1 : Int32)).toNatClampNeg)) μ) (fun r1 μ1 => some ((1014, hl_L x4, [vI r1]), μ1)) else none) := rfl
set_option maxRecDepth 100000 in
theorem hl_b_23 (d : Nat) (x4 : Int32) (y : Int32) (μ : hs_M) : hl_go d [1752] 60 1014 (hl_L x4) [vI y] μ =
  (if hs_in (x4 + (1 : Int32)) ((μ.1 70 1 0).toNatClampNeg) then hs_bI (hc_M_ever d (μ.1 70 0 ((x4 + (1 : Int32)).toNatClampNeg)) μ) (fun r1 μ1 => (if y = r1 then some ((1752, hl_L x4, []), μ1) else some ((1028, [none, none, none, none, none, none, none, none], [vI (0 : Int32)]), μ1))) else none) := rfl
set_option maxRecDepth 100000 in
theorem hl_a_24 (d : Nat) (x4 : Int32) (μ : hs_M) : hl_go d [1045] 60 1029 (hl_L x4) [] μ =
  (if hs_in (x4 + (1 : Int32)) ((μ.1 70 1 0).toNatClampNeg) then (if hs_in (x4 + (2 : Int32)) ((μ.1 70 1 0).toNatClampNeg) then hs_bI (hc_H_most d (μ.1 70 0 ((x4 + (1 : Int32)).toNatClampNeg)) (μ.1 70 0 ((x4 + (2 : Int32)).toNatClampNeg)) μ) (fun r1 μ1 => some ((1045, hl_L x4, [vI r1]), μ1)) else none) else none) := rfl
set_option maxRecDepth 100000 in
theorem hl_b_24 (d : Nat) (x4 : Int32) (y : Int32) (μ : hs_M) : hl_go d [1752] 60 1045 (hl_L x4) [vI y] μ =
  (if hs_in (x4 + (1 : Int32)) ((μ.1 70 1 0).toNatClampNeg) then (if hs_in (x4 + (2 : Int32)) ((μ.1 70 1 0).toNatClampNeg) then hs_bI (hc_M_most d (μ.1 70 0 ((x4 + (1 : Int32)).toNatClampNeg)) (μ.1 70 0 ((x4 + (2 : Int32)).toNatClampNeg)) μ) (fun r1 μ1 => (if y = r1 then some ((1752, hl_L x4, []), μ1) else some ((1065, [none, none, none, none, none, none, none, none], [vI (0 : Int32)]), μ1))) else none) else none) := rfl
set_option maxRecDepth 100000 in
theorem hl_a_25 (d : Nat) (x4 : Int32) (μ : hs_M) : hl_go d [1082] 60 1066 (hl_L x4) [] μ =
  (if hs_in (x4 + (1 : Int32)) ((μ.1 70 1 0).toNatClampNeg) then (if hs_in (x4 + (2 : Int32)) ((μ.1 70 1 0).toNatClampNeg) then hs_bI (hc_H_rests d (μ.1 70 0 ((x4 + (1 : Int32)).toNatClampNeg)) (μ.1 70 0 ((x4 + (2 : Int32)).toNatClampNeg)) μ) (fun r1 μ1 => some ((1082, hl_L x4, [vI r1]), μ1)) else none) else none) := rfl
set_option maxRecDepth 100000 in
theorem hl_b_25 (d : Nat) (x4 : Int32) (y : Int32) (μ : hs_M) : hl_go d [1752] 60 1082 (hl_L x4) [vI y] μ =
  (if hs_in (x4 + (1 : Int32)) ((μ.1 70 1 0).toNatClampNeg) then (if hs_in (x4 + (2 : Int32)) ((μ.1 70 1 0).toNatClampNeg) then hs_bI (hc_M_rests d (μ.1 70 0 ((x4 + (1 : Int32)).toNatClampNeg)) (μ.1 70 0 ((x4 + (2 : Int32)).toNatClampNeg)) μ) (fun r1 μ1 => (if y = r1 then some ((1752, hl_L x4, []), μ1) else some ((1102, [none, none, none, none, none, none, none, none], [vI (0 : Int32)]), μ1))) else none) else none) := rfl
set_option maxRecDepth 100000 in
theorem hl_a_26 (d : Nat) (x4 : Int32) (μ : hs_M) : hl_go d [1113] 60 1103 (hl_L x4) [] μ =
  (if hs_in (x4 + (1 : Int32)) ((μ.1 70 1 0).toNatClampNeg) then hs_bI (hc_H_party d (μ.1 70 0 ((x4 + (1 : Int32)).toNatClampNeg)) μ) (fun r1 μ1 => some ((1113, hl_L x4, [vI r1]), μ1)) else none) := rfl
set_option maxRecDepth 100000 in
theorem hl_b_26 (d : Nat) (x4 : Int32) (y : Int32) (μ : hs_M) : hl_go d [1752] 60 1113 (hl_L x4) [vI y] μ =
  (if hs_in (x4 + (1 : Int32)) ((μ.1 70 1 0).toNatClampNeg) then hs_bI (hc_M_party d (μ.1 70 0 ((x4 + (1 : Int32)).toNatClampNeg)) μ) (fun r1 μ1 => (if y = r1 then some ((1752, hl_L x4, []), μ1) else some ((1127, [none, none, none, none, none, none, none, none], [vI (0 : Int32)]), μ1))) else none) := rfl
set_option maxRecDepth 100000 in
theorem hl_a_27 (d : Nat) (x4 : Int32) (μ : hs_M) : hl_go d [1144] 60 1128 (hl_L x4) [] μ =
  (if hs_in (x4 + (1 : Int32)) ((μ.1 70 1 0).toNatClampNeg) then (if hs_in (x4 + (2 : Int32)) ((μ.1 70 1 0).toNatClampNeg) then hs_bI (hc_H_byTurns d (μ.1 70 0 ((x4 + (1 : Int32)).toNatClampNeg)) (μ.1 70 0 ((x4 + (2 : Int32)).toNatClampNeg)) μ) (fun r1 μ1 => some ((1144, hl_L x4, [vI r1]), μ1)) else none) else none) := rfl
set_option maxRecDepth 100000 in
theorem hl_b_27 (d : Nat) (x4 : Int32) (y : Int32) (μ : hs_M) : hl_go d [1752] 60 1144 (hl_L x4) [vI y] μ =
  (if hs_in (x4 + (1 : Int32)) ((μ.1 70 1 0).toNatClampNeg) then (if hs_in (x4 + (2 : Int32)) ((μ.1 70 1 0).toNatClampNeg) then hs_bI (hc_M_byTurns d (μ.1 70 0 ((x4 + (1 : Int32)).toNatClampNeg)) (μ.1 70 0 ((x4 + (2 : Int32)).toNatClampNeg)) μ) (fun r1 μ1 => (if y = r1 then some ((1752, hl_L x4, []), μ1) else some ((1164, [none, none, none, none, none, none, none, none], [vI (0 : Int32)]), μ1))) else none) else none) := rfl
set_option maxRecDepth 100000 in
theorem hl_a_28 (d : Nat) (x4 : Int32) (μ : hs_M) : hl_go d [] 60 1165 (hl_L x4) [] μ =
  (if hs_in (x4 + (1 : Int32)) ((μ.1 70 1 0).toNatClampNeg) then (if hs_in (x4 + (2 : Int32)) ((μ.1 70 1 0).toNatClampNeg) then some ((1179, hl_L x4, [vR 69 0, vI (μ.1 70 0 ((x4 + (2 : Int32)).toNatClampNeg)), vI (μ.1 70 0 ((x4 + (1 : Int32)).toNatClampNeg)), vR 11 0]), μ) else none) else none) := rfl
set_option maxRecDepth 100000 in
theorem hl_b_28 (d : Nat) (x4 : Int32) (y : Int32) (μ : hs_M) : hl_go d [1752] 60 1182 (hl_L x4) [vI y] μ =
  (if hs_in (x4 + (1 : Int32)) ((μ.1 70 1 0).toNatClampNeg) then (if hs_in (x4 + (2 : Int32)) ((μ.1 70 1 0).toNatClampNeg) then hs_bI (hc_M_fool d (μ.1 70 0 ((x4 + (1 : Int32)).toNatClampNeg)) (μ.1 70 0 ((x4 + (2 : Int32)).toNatClampNeg)) μ) (fun r1 μ1 => hs_bI (hc_M_thrown d μ1) (fun r2 μ2 => (if r2 = y then (if y = 0 then (if (lg_cmp (μ2.2 69 0 0) (r1.toInt64)) = 0 then some ((1752, hl_L x4, []), μ2) else some ((1229, [none, none, none, none, none, none, none, none], [vI (0 : Int32)]), μ2)) else some ((1752, hl_L x4, []), μ2)) else some ((1212, [none, none, none, none, none, none, none, none], [vI (0 : Int32)]), μ2)))) else none) else none) := rfl
set_option maxRecDepth 100000 in
theorem hl_a_29 (d : Nat) (x4 : Int32) (μ : hs_M) : hl_go d [1243] 60 1233 (hl_L x4) [] μ =
  (if hs_in (x4 + (1 : Int32)) ((μ.1 70 1 0).toNatClampNeg) then hs_bI (hc_H_hold d (μ.1 70 0 ((x4 + (1 : Int32)).toNatClampNeg)) μ) (fun r1 μ1 => some ((1243, hl_L x4, [vI r1]), μ1)) else none) := rfl
set_option maxRecDepth 100000 in
theorem hl_b_29 (d : Nat) (x4 : Int32) (y : Int32) (μ : hs_M) : hl_go d [1752] 60 1243 (hl_L x4) [vI y] μ =
  (if hs_in (x4 + (1 : Int32)) ((μ.1 70 1 0).toNatClampNeg) then hs_bI (hc_M_hold d (μ.1 70 0 ((x4 + (1 : Int32)).toNatClampNeg)) μ) (fun r1 μ1 => (if y = r1 then some ((1752, hl_L x4, []), μ1) else some ((1257, [none, none, none, none, none, none, none, none], [vI (0 : Int32)]), μ1))) else none) := rfl
set_option maxRecDepth 100000 in
theorem hl_a_30 (d : Nat) (x4 : Int32) (μ : hs_M) : hl_go d [1274] 60 1258 (hl_L x4) [] μ =
  (if hs_in (x4 + (1 : Int32)) ((μ.1 70 1 0).toNatClampNeg) then (if hs_in (x4 + (2 : Int32)) ((μ.1 70 1 0).toNatClampNeg) then hs_bI (hc_H_bribe d (μ.1 70 0 ((x4 + (1 : Int32)).toNatClampNeg)) (μ.1 70 0 ((x4 + (2 : Int32)).toNatClampNeg)) μ) (fun r1 μ1 => some ((1274, hl_L x4, [vI r1]), μ1)) else none) else none) := rfl
set_option maxRecDepth 100000 in
theorem hl_b_30 (d : Nat) (x4 : Int32) (y : Int32) (μ : hs_M) : hl_go d [1752] 60 1274 (hl_L x4) [vI y] μ =
  (if hs_in (x4 + (1 : Int32)) ((μ.1 70 1 0).toNatClampNeg) then (if hs_in (x4 + (2 : Int32)) ((μ.1 70 1 0).toNatClampNeg) then hs_bI (hc_M_bribe d (μ.1 70 0 ((x4 + (1 : Int32)).toNatClampNeg)) (μ.1 70 0 ((x4 + (2 : Int32)).toNatClampNeg)) μ) (fun r1 μ1 => (if y = r1 then some ((1752, hl_L x4, []), μ1) else some ((1294, [none, none, none, none, none, none, none, none], [vI (0 : Int32)]), μ1))) else none) else none) := rfl
set_option maxRecDepth 100000 in
theorem hl_a_31 (d : Nat) (x4 : Int32) (μ : hs_M) : hl_go d [1311] 60 1295 (hl_L x4) [] μ =
  (if hs_in (x4 + (1 : Int32)) ((μ.1 70 1 0).toNatClampNeg) then (if hs_in (x4 + (2 : Int32)) ((μ.1 70 1 0).toNatClampNeg) then hs_bI (hc_H_starve d (μ.1 70 0 ((x4 + (1 : Int32)).toNatClampNeg)) (μ.1 70 0 ((x4 + (2 : Int32)).toNatClampNeg)) μ) (fun r1 μ1 => some ((1311, hl_L x4, [vI r1]), μ1)) else none) else none) := rfl
set_option maxRecDepth 100000 in
theorem hl_b_31 (d : Nat) (x4 : Int32) (y : Int32) (μ : hs_M) : hl_go d [1752] 60 1311 (hl_L x4) [vI y] μ =
  (if hs_in (x4 + (1 : Int32)) ((μ.1 70 1 0).toNatClampNeg) then (if hs_in (x4 + (2 : Int32)) ((μ.1 70 1 0).toNatClampNeg) then hs_bI (hc_M_starve d (μ.1 70 0 ((x4 + (1 : Int32)).toNatClampNeg)) (μ.1 70 0 ((x4 + (2 : Int32)).toNatClampNeg)) μ) (fun r1 μ1 => (if y = r1 then some ((1752, hl_L x4, []), μ1) else some ((1331, [none, none, none, none, none, none, none, none], [vI (0 : Int32)]), μ1))) else none) else none) := rfl
set_option maxRecDepth 100000 in
theorem hl_a_32 (d : Nat) (x4 : Int32) (μ : hs_M) : hl_go d [1336] 60 1332 (hl_L x4) [] μ =
  hs_bI (hc_H_cheapest d μ) (fun r1 μ1 => some ((1336, hl_L x4, [vI r1]), μ1)) := rfl
set_option maxRecDepth 100000 in
theorem hl_b_32 (d : Nat) (x4 : Int32) (y : Int32) (μ : hs_M) : hl_go d [1752] 60 1336 (hl_L x4) [vI y] μ =
  hs_bI (hc_M_cheapest d μ) (fun r1 μ1 => (if y = r1 then some ((1752, hl_L x4, []), μ1) else some ((1344, [none, none, none, none, none, none, none, none], [vI (0 : Int32)]), μ1))) := rfl
set_option maxRecDepth 100000 in
theorem hl_a_33 (d : Nat) (x4 : Int32) (μ : hs_M) : hl_go d [1361] 60 1345 (hl_L x4) [] μ =
  (if hs_in (x4 + (1 : Int32)) ((μ.1 70 1 0).toNatClampNeg) then (if hs_in (x4 + (2 : Int32)) ((μ.1 70 1 0).toNatClampNeg) then hs_bI (hc_H_weighed d (μ.1 70 0 ((x4 + (1 : Int32)).toNatClampNeg)) (μ.1 70 0 ((x4 + (2 : Int32)).toNatClampNeg)) μ) (fun r1 μ1 => some ((1361, hl_L x4, [vI r1]), μ1)) else none) else none) := rfl
set_option maxRecDepth 100000 in
theorem hl_b_33 (d : Nat) (x4 : Int32) (y : Int32) (μ : hs_M) : hl_go d [1752] 60 1361 (hl_L x4) [vI y] μ =
  (if hs_in (x4 + (1 : Int32)) ((μ.1 70 1 0).toNatClampNeg) then (if hs_in (x4 + (2 : Int32)) ((μ.1 70 1 0).toNatClampNeg) then hs_bI (hc_M_weighed d (μ.1 70 0 ((x4 + (1 : Int32)).toNatClampNeg)) (μ.1 70 0 ((x4 + (2 : Int32)).toNatClampNeg)) μ) (fun r1 μ1 => (if y = r1 then some ((1752, hl_L x4, []), μ1) else some ((1381, [none, none, none, none, none, none, none, none], [vI (0 : Int32)]), μ1))) else none) else none) := rfl
set_option maxRecDepth 100000 in
theorem hl_a_34 (d : Nat) (x4 : Int32) (μ : hs_M) : hl_go d [1386] 60 1382 (hl_L x4) [] μ =
  hs_bI (hc_H_forget d μ) (fun r1 μ1 => some ((1386, hl_L x4, [vI r1]), μ1)) := rfl
set_option maxRecDepth 100000 in
theorem hl_b_34 (d : Nat) (x4 : Int32) (y : Int32) (μ : hs_M) : hl_go d [1752] 60 1386 (hl_L x4) [vI y] μ =
  hs_bI (hc_M_forget d μ) (fun r1 μ1 => (if y = r1 then some ((1752, hl_L x4, []), μ1) else some ((1394, [none, none, none, none, none, none, none, none], [vI (0 : Int32)]), μ1))) := rfl
set_option maxRecDepth 100000 in
theorem hl_a_35 (d : Nat) (x4 : Int32) (μ : hs_M) : hl_go d [1399] 60 1395 (hl_L x4) [] μ =
  hs_bI (hc_H_grains d μ) (fun r1 μ1 => some ((1399, hl_L x4, [vI r1]), μ1)) := rfl
set_option maxRecDepth 100000 in
theorem hl_b_35 (d : Nat) (x4 : Int32) (y : Int32) (μ : hs_M) : hl_go d [1752] 60 1399 (hl_L x4) [vI y] μ =
  hs_bI (hc_M_grains d μ) (fun r1 μ1 => (if y = r1 then some ((1752, hl_L x4, []), μ1) else some ((1407, [none, none, none, none, none, none, none, none], [vI (0 : Int32)]), μ1))) := rfl
set_option maxRecDepth 100000 in
theorem hl_a_36 (d : Nat) (x4 : Int32) (μ : hs_M) : hl_go d [1418] 60 1408 (hl_L x4) [] μ =
  (if hs_in (x4 + (1 : Int32)) ((μ.1 70 1 0).toNatClampNeg) then hs_bI (hc_H_span d (μ.1 70 0 ((x4 + (1 : Int32)).toNatClampNeg)) μ) (fun r1 μ1 => some ((1418, hl_L x4, [vI r1]), μ1)) else none) := rfl
set_option maxRecDepth 100000 in
theorem hl_b_36 (d : Nat) (x4 : Int32) (y : Int32) (μ : hs_M) : hl_go d [1752] 60 1418 (hl_L x4) [vI y] μ =
  (if hs_in (x4 + (1 : Int32)) ((μ.1 70 1 0).toNatClampNeg) then hs_bI (hc_M_span d (μ.1 70 0 ((x4 + (1 : Int32)).toNatClampNeg)) μ) (fun r1 μ1 => (if y = r1 then some ((1752, hl_L x4, []), μ1) else some ((1432, [none, none, none, none, none, none, none, none], [vI (0 : Int32)]), μ1))) else none) := rfl
set_option maxRecDepth 100000 in
theorem hl_a_37 (d : Nat) (x4 : Int32) (μ : hs_M) : hl_go d [1437] 60 1433 (hl_L x4) [] μ =
  hs_bI (hc_H_offs d μ) (fun r1 μ1 => some ((1437, hl_L x4, [vI r1]), μ1)) := rfl
set_option maxRecDepth 100000 in
theorem hl_b_37 (d : Nat) (x4 : Int32) (y : Int32) (μ : hs_M) : hl_go d [1752] 60 1437 (hl_L x4) [vI y] μ =
  hs_bI (hc_M_offs d μ) (fun r1 μ1 => (if y = r1 then some ((1752, hl_L x4, []), μ1) else some ((1445, [none, none, none, none, none, none, none, none], [vI (0 : Int32)]), μ1))) := rfl
set_option maxRecDepth 100000 in
theorem hl_a_38 (d : Nat) (x4 : Int32) (μ : hs_M) : hl_go d [1450] 60 1446 (hl_L x4) [] μ =
  hs_bI (hc_H_cheats d μ) (fun r1 μ1 => some ((1450, hl_L x4, [vI r1]), μ1)) := rfl
set_option maxRecDepth 100000 in
theorem hl_b_38 (d : Nat) (x4 : Int32) (y : Int32) (μ : hs_M) : hl_go d [1752] 60 1450 (hl_L x4) [vI y] μ =
  hs_bI (hc_M_cheats d μ) (fun r1 μ1 => (if y = r1 then some ((1752, hl_L x4, []), μ1) else some ((1458, [none, none, none, none, none, none, none, none], [vI (0 : Int32)]), μ1))) := rfl
set_option maxRecDepth 100000 in
theorem hl_a_39 (d : Nat) (x4 : Int32) (μ : hs_M) : hl_go d [1475] 60 1459 (hl_L x4) [] μ =
  (if hs_in (x4 + (1 : Int32)) ((μ.1 70 1 0).toNatClampNeg) then (if hs_in (x4 + (2 : Int32)) ((μ.1 70 1 0).toNatClampNeg) then hs_bI (hc_H_told d (μ.1 70 0 ((x4 + (1 : Int32)).toNatClampNeg)) (μ.1 70 0 ((x4 + (2 : Int32)).toNatClampNeg)) μ) (fun r1 μ1 => some ((1475, hl_L x4, [vI r1]), μ1)) else none) else none) := rfl
set_option maxRecDepth 100000 in
theorem hl_b_39 (d : Nat) (x4 : Int32) (y : Int32) (μ : hs_M) : hl_go d [1752] 60 1475 (hl_L x4) [vI y] μ =
  (if hs_in (x4 + (1 : Int32)) ((μ.1 70 1 0).toNatClampNeg) then (if hs_in (x4 + (2 : Int32)) ((μ.1 70 1 0).toNatClampNeg) then hs_bI (hc_M_told d (μ.1 70 0 ((x4 + (1 : Int32)).toNatClampNeg)) (μ.1 70 0 ((x4 + (2 : Int32)).toNatClampNeg)) μ) (fun r1 μ1 => (if y = r1 then some ((1752, hl_L x4, []), μ1) else some ((1495, [none, none, none, none, none, none, none, none], [vI (0 : Int32)]), μ1))) else none) else none) := rfl
set_option maxRecDepth 100000 in
theorem hl_a_40 (d : Nat) (x4 : Int32) (μ : hs_M) : hl_go d [1500] 60 1496 (hl_L x4) [] μ =
  hs_bI (hc_H_wipe d μ) (fun r1 μ1 => some ((1500, hl_L x4, [vI r1]), μ1)) := rfl
set_option maxRecDepth 100000 in
theorem hl_b_40 (d : Nat) (x4 : Int32) (y : Int32) (μ : hs_M) : hl_go d [1752] 60 1500 (hl_L x4) [vI y] μ =
  hs_bI (hc_M_wipe d μ) (fun r1 μ1 => (if y = r1 then some ((1752, hl_L x4, []), μ1) else some ((1508, [none, none, none, none, none, none, none, none], [vI (0 : Int32)]), μ1))) := rfl
set_option maxRecDepth 100000 in
theorem hl_a_41 (d : Nat) (x4 : Int32) (μ : hs_M) : hl_go d [1519] 60 1509 (hl_L x4) [] μ =
  (if hs_in (x4 + (1 : Int32)) ((μ.1 70 1 0).toNatClampNeg) then hs_bI (hc_H_explains d (μ.1 70 0 ((x4 + (1 : Int32)).toNatClampNeg)) μ) (fun r1 μ1 => some ((1519, hl_L x4, [vI r1]), μ1)) else none) := rfl
set_option maxRecDepth 100000 in
theorem hl_b_41 (d : Nat) (x4 : Int32) (y : Int32) (μ : hs_M) : hl_go d [1752] 60 1519 (hl_L x4) [vI y] μ =
  (if hs_in (x4 + (1 : Int32)) ((μ.1 70 1 0).toNatClampNeg) then hs_bI (hc_M_explains d (μ.1 70 0 ((x4 + (1 : Int32)).toNatClampNeg)) μ) (fun r1 μ1 => (if y = r1 then some ((1752, hl_L x4, []), μ1) else some ((1533, [none, none, none, none, none, none, none, none], [vI (0 : Int32)]), μ1))) else none) := rfl
set_option maxRecDepth 100000 in
theorem hl_a_42 (d : Nat) (x4 : Int32) (μ : hs_M) : hl_go d [1538] 60 1534 (hl_L x4) [] μ =
  hs_bI (hc_H_absent d μ) (fun r1 μ1 => some ((1538, hl_L x4, [vI r1]), μ1)) := rfl
set_option maxRecDepth 100000 in
theorem hl_b_42 (d : Nat) (x4 : Int32) (y : Int32) (μ : hs_M) : hl_go d [1752] 60 1538 (hl_L x4) [vI y] μ =
  hs_bI (hc_M_absent d μ) (fun r1 μ1 => (if y = r1 then some ((1752, hl_L x4, []), μ1) else some ((1546, [none, none, none, none, none, none, none, none], [vI (0 : Int32)]), μ1))) := rfl
set_option maxRecDepth 100000 in
theorem hl_a_43 (d : Nat) (x4 : Int32) (μ : hs_M) : hl_go d [1557] 60 1547 (hl_L x4) [] μ =
  (if hs_in (x4 + (1 : Int32)) ((μ.1 70 1 0).toNatClampNeg) then hs_bI (hc_H_twin d (μ.1 70 0 ((x4 + (1 : Int32)).toNatClampNeg)) μ) (fun r1 μ1 => some ((1557, hl_L x4, [vI r1]), μ1)) else none) := rfl
set_option maxRecDepth 100000 in
theorem hl_b_43 (d : Nat) (x4 : Int32) (y : Int32) (μ : hs_M) : hl_go d [1752] 60 1557 (hl_L x4) [vI y] μ =
  (if hs_in (x4 + (1 : Int32)) ((μ.1 70 1 0).toNatClampNeg) then hs_bI (hc_M_twin d (μ.1 70 0 ((x4 + (1 : Int32)).toNatClampNeg)) μ) (fun r1 μ1 => (if y = r1 then some ((1752, hl_L x4, []), μ1) else some ((1571, [none, none, none, none, none, none, none, none], [vI (0 : Int32)]), μ1))) else none) := rfl
set_option maxRecDepth 100000 in
theorem hl_a_44 (d : Nat) (x4 : Int32) (μ : hs_M) : hl_go d [1588] 60 1572 (hl_L x4) [] μ =
  (if hs_in (x4 + (1 : Int32)) ((μ.1 70 1 0).toNatClampNeg) then (if hs_in (x4 + (2 : Int32)) ((μ.1 70 1 0).toNatClampNeg) then hs_bI (hc_H_odds d (μ.1 70 0 ((x4 + (1 : Int32)).toNatClampNeg)) (μ.1 70 0 ((x4 + (2 : Int32)).toNatClampNeg)) μ) (fun r1 μ1 => some ((1588, hl_L x4, [vI r1]), μ1)) else none) else none) := rfl
set_option maxRecDepth 100000 in
theorem hl_b_44 (d : Nat) (x4 : Int32) (y : Int32) (μ : hs_M) : hl_go d [1752] 60 1588 (hl_L x4) [vI y] μ =
  (if hs_in (x4 + (1 : Int32)) ((μ.1 70 1 0).toNatClampNeg) then (if hs_in (x4 + (2 : Int32)) ((μ.1 70 1 0).toNatClampNeg) then hs_bI (hc_M_odds d (μ.1 70 0 ((x4 + (1 : Int32)).toNatClampNeg)) (μ.1 70 0 ((x4 + (2 : Int32)).toNatClampNeg)) μ) (fun r1 μ1 => (if y = r1 then some ((1752, hl_L x4, []), μ1) else some ((1608, [none, none, none, none, none, none, none, none], [vI (0 : Int32)]), μ1))) else none) else none) := rfl
set_option maxRecDepth 100000 in
theorem hl_a_45 (d : Nat) (x4 : Int32) (μ : hs_M) : hl_go d [1613] 60 1609 (hl_L x4) [] μ =
  hs_bI (hc_H_likely d μ) (fun r1 μ1 => some ((1613, hl_L x4, [vI r1]), μ1)) := rfl
set_option maxRecDepth 100000 in
theorem hl_b_45 (d : Nat) (x4 : Int32) (y : Int32) (μ : hs_M) : hl_go d [1752] 60 1613 (hl_L x4) [vI y] μ =
  hs_bI (hc_M_likely d μ) (fun r1 μ1 => (if y = r1 then some ((1752, hl_L x4, []), μ1) else some ((1621, [none, none, none, none, none, none, none, none], [vI (0 : Int32)]), μ1))) := rfl
set_option maxRecDepth 100000 in
theorem hl_a_46 (d : Nat) (x4 : Int32) (μ : hs_M) : hl_go d [1632] 60 1622 (hl_L x4) [] μ =
  (if hs_in (x4 + (1 : Int32)) ((μ.1 70 1 0).toNatClampNeg) then hs_bI (hc_H_keep d (μ.1 70 0 ((x4 + (1 : Int32)).toNatClampNeg)) μ) (fun r1 μ1 => some ((1632, hl_L x4, [vI r1]), μ1)) else none) := rfl
set_option maxRecDepth 100000 in
theorem hl_b_46 (d : Nat) (x4 : Int32) (y : Int32) (μ : hs_M) : hl_go d [1752] 60 1632 (hl_L x4) [vI y] μ =
  (if hs_in (x4 + (1 : Int32)) ((μ.1 70 1 0).toNatClampNeg) then hs_bI (hc_M_keep d (μ.1 70 0 ((x4 + (1 : Int32)).toNatClampNeg)) μ) (fun r1 μ1 => (if y = r1 then some ((1752, hl_L x4, []), μ1) else some ((1646, [none, none, none, none, none, none, none, none], [vI (0 : Int32)]), μ1))) else none) := rfl
set_option maxRecDepth 100000 in
theorem hl_a_47 (d : Nat) (x4 : Int32) (μ : hs_M) : hl_go d [1657] 60 1647 (hl_L x4) [] μ =
  (if hs_in (x4 + (1 : Int32)) ((μ.1 70 1 0).toNatClampNeg) then hs_bI (hc_H_again d (μ.1 70 0 ((x4 + (1 : Int32)).toNatClampNeg)) μ) (fun r1 μ1 => some ((1657, hl_L x4, [vI r1]), μ1)) else none) := rfl
set_option maxRecDepth 100000 in
theorem hl_b_47 (d : Nat) (x4 : Int32) (y : Int32) (μ : hs_M) : hl_go d [1752] 60 1657 (hl_L x4) [vI y] μ =
  (if hs_in (x4 + (1 : Int32)) ((μ.1 70 1 0).toNatClampNeg) then hs_bI (hc_M_again d (μ.1 70 0 ((x4 + (1 : Int32)).toNatClampNeg)) μ) (fun r1 μ1 => (if y = r1 then some ((1752, hl_L x4, []), μ1) else some ((1671, [none, none, none, none, none, none, none, none], [vI (0 : Int32)]), μ1))) else none) := rfl
set_option maxRecDepth 100000 in
theorem hl_a_48 (d : Nat) (x4 : Int32) (μ : hs_M) : hl_go d [1682] 60 1672 (hl_L x4) [] μ =
  (if hs_in (x4 + (1 : Int32)) ((μ.1 70 1 0).toNatClampNeg) then hs_bI (hc_H_count d (μ.1 70 0 ((x4 + (1 : Int32)).toNatClampNeg)) μ) (fun r1 μ1 => some ((1682, hl_L x4, [vI r1]), μ1)) else none) := rfl
set_option maxRecDepth 100000 in
theorem hl_b_48 (d : Nat) (x4 : Int32) (y : Int32) (μ : hs_M) : hl_go d [1752] 60 1682 (hl_L x4) [vI y] μ =
  (if hs_in (x4 + (1 : Int32)) ((μ.1 70 1 0).toNatClampNeg) then hs_bI (hc_M_count d (μ.1 70 0 ((x4 + (1 : Int32)).toNatClampNeg)) μ) (fun r1 μ1 => (if y = r1 then some ((1752, hl_L x4, []), μ1) else some ((1696, [none, none, none, none, none, none, none, none], [vI (0 : Int32)]), μ1))) else none) := rfl
set_option maxRecDepth 100000 in
theorem hl_a_49 (d : Nat) (x4 : Int32) (μ : hs_M) : hl_go d [] 60 1697 (hl_L x4) [] μ =
  (if hs_in (x4 + (1 : Int32)) ((μ.1 70 1 0).toNatClampNeg) then some ((1705, hl_L x4, [vR 69 0, vI (μ.1 70 0 ((x4 + (1 : Int32)).toNatClampNeg)), vR 11 0]), μ) else none) := rfl
set_option maxRecDepth 100000 in
theorem hl_b_49 (d : Nat) (x4 : Int32) (y : Int32) (μ : hs_M) : hl_go d [1752] 60 1708 (hl_L x4) [vI y] μ =
  (if hs_in (x4 + (1 : Int32)) ((μ.1 70 1 0).toNatClampNeg) then hs_bL (hc_M_row d (μ.1 70 0 ((x4 + (1 : Int32)).toNatClampNeg)) μ) (fun r1 μ1 => hs_bI (hc_M_thrown d μ1) (fun r2 μ2 => (if r2 = y then (if y = 0 then (if (lg_cmp (μ2.2 69 0 0) r1) = 0 then some ((1752, hl_L x4, []), μ2) else some ((1748, [none, none, none, none, none, none, none, none], [vI (0 : Int32)]), μ2)) else some ((1752, hl_L x4, []), μ2)) else some ((1732, [none, none, none, none, none, none, none, none], [vI (0 : Int32)]), μ2)))) else none) := rfl
