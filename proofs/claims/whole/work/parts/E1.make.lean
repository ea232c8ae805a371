/-! ===== the law's start: new, dup, the constructor ===== -/
theorem hl_make {D : va_G} {cA : Nat → ClassId} {A : Nat → Prop} {p : Program} {l : Launch} {e : Env} {R : Room} {s : State} {m : MethodId} {args : Array Value} {below : List Frame} {meth : Method} {c : Code} {Q : State → Prop} (C : ha_Ctx D cA A p R s m args c 13 code 8) {κ pc ik ic : Nat} (h13 : κ < 13) (hik : ha_any ha_cl 13 ik κ = true) (hic : ha_any ha_il 13 ic κ = true) (hpar : (parseMethodDescriptor (ha_nm κ).desc).map (fun d => d.parameters.length) = some 0)
    (d0 : decode code pc = .ok (.new ik, 3)) (d3 : decode code (pc + 3) = .ok (.dup, 1)) (d4 : decode code (pc + 4) = .ok (.invokespecial ic, 3)) {h h' : ha_H} {ad : List Nat} {ws : va_W} {H : Heap} {locs : List Loc} {cells slots : Nat} {ls : Array Slot} (hcall : ha_call 4 κ [.inr (some h.length)] (h ++ [ha_new κ]) = some h') (hmore : ha_more (h ++ [ha_new κ]) h' = true)
    (hfst : ws.map Prod.fst = ad) (hcells : ha_all2 (fun (x : ha_E) (q : Nat × va_E) => ha_er cA ad x q.2) h ws) (hP : va_P D hs_clas ws H) (hD : va_D A ws) (hS : va_S A s.heap H locs) (hcost : ha_cost h ≤ 4000 * h.length) (hls : ls.size = 8) (hRf : 30 ≤ R.frames) (hRl : 1000 ≤ R.locals) (hRc : cells + (h'.length - h.length) ≤ R.cells) (hRs : slots + (ha_cost h' - ha_cost h) ≤ R.slots)
    (kk : ∀ (q : Nat) (ex : List Nat) (ws' : va_W) (H1 : Heap) (locs1 : List Loc), ws'.map Prod.fst = (ad ++ [q]) ++ ex → ha_all2 (fun (x : ha_E) (q' : Nat × va_E) => ha_er cA ((ad ++ [q]) ++ ex) x q'.2) h' ws' → va_P D hs_clas ws' H1 → va_D A ws' → va_S A s.heap H1 locs1 → ha_cost h' ≤ 4000 * h'.length → W p l e R s m args below meth c H1 locs1 (cells + (h'.length - h.length)) (slots + (ha_cost h' - ha_cost h)) Q (F0 m (pc + 7) ls [.ref q])) : W p l e R s m args below meth c H locs cells slots Q (F0 m pc ls []) := by
  obtain ⟨hexec, hb, hml, hown, hts, hK, hA, hAO⟩ := C
  have q0 := ha_ckm_at h13
  obtain ⟨m1, m2, m3⟩ := ha_more_spec hmore
  have m1 : h.length + 1 ≤ h'.length := by rw [List.length_append, List.length_singleton] at m1; exact m1
  have m3 : ha_cost h + hs_cN κ ≤ ha_cost h' := by rw [ha_cost_app] at m3; exact m3
  have hle := ha_cN_le h13
  have hini : Cond.initialized (hs_cR κ) ∈ hs_GW := by rw [← q0.2.2.2.2.2.2.2.2.2.1]; exact q0.2.2.1
  have hlen : ad.length = h.length := by rw [← hfst, List.length_map, hcells.length]
  refine va_new hexec hb hts (hs_lays h13) (hs_cty κ) (hs_cty_ok h13) hown (hts _ (ha_w_cl hik)) (hts _ q0.2.2.2.1) (hts _ hini) hK hP hD hS hA (hs_clas_at h13) (fs := ha_df κ) (ha_df_ok h13) (by omega) (by omega) d0 (fun q H1 hP1 hD1 hS1 => ?_)
  refine lv_dup hexec hb d3 rfl ?_
  have hadq : (ad ++ [q])[h.length]? = some q := by
    rw [List.getElem?_append_right (by omega), hlen, Nat.sub_self]
    rfl
  have her : ha_er cA (ad ++ [q]) (ha_new κ) (.inr (κ, ha_df κ)) := ⟨ha_df κ, rfl, ha_df_vr _ _⟩
  have hc1 : ha_all2 (fun (x : ha_E) (q' : Nat × va_E) => ha_er cA (ad ++ [q]) x q'.2) (h ++ [ha_new κ]) (ws ++ [(q, .inr (κ, ha_df κ))]) := ha_all2.push (P := fun (x : ha_E) (q' : Nat × va_E) => ha_er cA (ad ++ [q]) x q'.2) (a := ha_new κ) (b := (q, .inr (κ, ha_df κ))) her (hcells.mono (fun _ _ h => ha_er.app h _))
  have hM := ha_sound D cA A l 4 κ (h ++ [ha_new κ]) [.inr (some h.length)] h' (ad ++ [q]) (ws ++ [(q, .inr (κ, ha_df κ))]) [.ref q] h13 hcall hmore ⟨⟨q, hadq, rfl⟩, trivial⟩ (by rw [List.map_append, hfst]; rfl) hc1 hD1 (by rw [ha_cost_app, List.length_append, List.length_singleton, show ha_co (ha_new κ) = hs_cN κ from rfl]; omega)
  have hpre : PreS s H1 (ha_Pc D cA A [.ref q] (ws ++ [(q, .inr (κ, ha_df κ))])) [.ref q] := ⟨ha_blind, fun U hU hW => ⟨rfl, ha_Sf.warm ⟨hK, hAO⟩ hW, by rw [hU]; exact hP1, fun q' hq' => hA q' (Nat.le_trans hS1.1 (by rw [← hU]; exact hq'))⟩⟩
  have ec : cells + 1 + (h'.length - (h ++ [ha_new κ]).length) = cells + (h'.length - h.length) := by
    rw [List.length_append, List.length_singleton]
    omega
  have es : slots + hs_cN κ + (ha_cost h' - ha_cost (h ++ [ha_new κ])) = slots + (ha_cost h' - ha_cost h) := by
    rw [ha_cost_app, show ha_co (ha_new κ) = hs_cN κ from rfl]
    omega
  have hl0 : 2 * (F0 m (pc + 4) ls [Value.ref q, Value.ref q]).monitorRoom + (([Value.ref q] : List Value).map fun v => v.category).sum ≤ 8 := lv_room (show 1 + 0 ≤ 8 by decide)
  intro T hT X
  obtain ⟨v, st₀, t, T', Lc, g0, X', hL, e1, e2, ⟨hv, ⟨ex, ws', w1, w2, w3, w4, w5⟩, hz, hk1⟩, stp⟩ := va_runI (Ts := hs_GW) (g := F0 m (pc + 4) ls [Value.ref q, Value.ref q]) (rest := [.ref q]) ⟨hexec, hb, hml, hown, hts⟩ hM (cwI 0 hts (hs_goodC q0.1) rfl rfl rfl (hts _ q0.2.2.1) (hts _ (ha_w_il hic)) (hts _ q0.2.1) q0.2.2.2.2.2.2.2.1 ⟨q0.2.2.2.2.2.1, q0.2.2.2.2.2.2.1, hpar⟩ ⟨by show 4 + 4 + 1 ≤ R.frames; omega, by show 8 + ((ha_prog κ).2 + 11) + (48 * 4 + 200) ≤ R.locals; have := q0.2.2.2.2.2.2.2.2.2.2; omega⟩) hpre rfl rfl hls rfl hl0 d4 ⟨by rw [ec]; exact hRc, by rw [es]; exact hRs⟩ T hT X
  cases hv
  rw [g0] at hz hk1
  rw [ec, es] at X'
  have hS2 : va_S A s.heap T'.heap (locs ++ Lc) := by
    refine ⟨Nat.le_trans hS1.1 (by rw [e1]; exact hz), fun q' h1 h2 => ?_, fun q' hq' => ?_⟩
    · rw [e1, hk1 q' (Nat.lt_of_lt_of_le h1 hS1.1) h2]
      exact hS1.2.1 q' h1 h2
    · rcases List.mem_append.mp hq' with h | h
      · exact hS1.2.2 q' h
      · exact hL q' h
  obtain ⟨t2, a1, b1⟩ := kk q ex ws' T'.heap (locs ++ Lc) w1 w2 (by rw [e1]; exact w3) w4 hS2 w5 T' rfl X'
  exact ⟨t2, stp t2 a1, b1⟩
