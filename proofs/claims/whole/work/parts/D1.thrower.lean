/-! ===== the five throw ===== -/
def hl_Sx (g : hs_G) (U : State) : Prop := (∀ w ∈ hl_nw, va_Nw w U) ∧ vx_Zq Bundle.tN "UNASSIGNED_STACK" Bundle.steD (hs_gP g) U U.heap ∧ vx_Zq Bundle.tN "SUPPRESSED_SENTINEL" Bundle.listD (hs_gP g) U U.heap
theorem hl_nw_ot : ∀ w ∈ hl_nw, w.onTables = true := by decide +kernel
theorem hl_nw_warm {s U : State} (hW : s.WarmedH U.vm) (h : ∀ w ∈ hl_nw, va_Nw w s) : ∀ w ∈ hl_nw, va_Nw w U := by
  intro w hw
  have h' := h w hw
  simp only [hl_nw, List.mem_cons, List.not_mem_nil, or_false] at hw
  rcases hw with rfl | rfl | rfl | rfl
  · exact va_Nw.warmC hW h'
  · exact va_Nw.warmD hW h'
  · exact va_Nw.warmD hW h'
  · exact va_Nw.warmD hW h'
theorem hl_Sx_warm {g : hs_G} {s U : State} {H : Heap} {locs : List Loc} (h : hl_Sx g s) (hS : va_S (hs_gP g) s.heap H locs) (hU : U.heap = H) (hW : s.WarmedH U.vm) : hl_Sx g U := by
  have hkeep : ∀ a : Nat, a < s.heap.size → ¬ hs_gP g a → U.heap[a]? = s.heap[a]? := by rw [hU]; exact hS.2.1
  exact ⟨hl_nw_warm hW h.1, vx_Zq.moved hW.alike (vx_Zq.kept h.2.1 hkeep), vx_Zq.moved hW.alike (vx_Zq.kept h.2.2 hkeep)⟩
def hl_Pc (g : hs_G) (as : List hs_V) (μ : hs_M) : Array Value → State → Prop := va_Pc (as.map (hs_enc g)) (fun U => (hs_Sf g U ∧ hs_Wd g μ U.heap) ∧ hl_Sx g U)
theorem hl_blind {g : hs_G} {as : List hs_V} {μ : hs_M} : FrameBlind (hl_Pc g as μ) := by
  intro a U f mk h
  obtain ⟨h1, ⟨h2, h3⟩, h4, h5, h6⟩ := h
  have hv : U.vm.Alike (U.calling f mk a).vm := Vm.Alike.refl U.vm
  exact ⟨h1, ⟨hs_Sf_calling f mk a h2, h3⟩, fun w hw => va_Nw.same (u := U) (hl_nw_ot w hw) (show U.vm = (U.calling f mk a).vm from rfl) (h4 w hw), vx_Zq.moved hv h5, vx_Zq.moved hv h6⟩
/-- what is thrown, the world behind it -/
def hl_XC (g : hs_G) (μ : hs_M) : String → State → State → Prop := fun E st t => E = hl_NS ∧ hs_Wd g μ t.heap ∧ va_F (hs_gP g) st t
theorem hl_d11 : decode (hs_nm 113).2.1 11 = .ok (.new 141, 3) ∧ decode (hs_nm 113).2.1 14 = .ok (.dup, 1) ∧ decode (hs_nm 113).2.1 15 = .ok (.invokespecial 143, 3) ∧ decode (hs_nm 113).2.1 18 = .ok (.athrow, 1) := by decide +kernel
theorem hl_d169 : decode (hs_nm 113).2.1 169 = .ok (.new 141, 3) ∧ decode (hs_nm 113).2.1 172 = .ok (.dup, 1) ∧ decode (hs_nm 113).2.1 173 = .ok (.invokespecial 143, 3) ∧ decode (hs_nm 113).2.1 176 = .ok (.athrow, 1) := by decide +kernel
theorem hl_d28 : decode (hs_nm 114).2.1 28 = .ok (.new 141, 3) ∧ decode (hs_nm 114).2.1 31 = .ok (.dup, 1) ∧ decode (hs_nm 114).2.1 32 = .ok (.invokespecial 143, 3) ∧ decode (hs_nm 114).2.1 35 = .ok (.athrow, 1) := by decide +kernel
theorem hl_d15 : decode (hs_nm 122).2.1 15 = .ok (.new 141, 3) ∧ decode (hs_nm 122).2.1 18 = .ok (.dup, 1) ∧ decode (hs_nm 122).2.1 19 = .ok (.invokespecial 143, 3) ∧ decode (hs_nm 122).2.1 22 = .ok (.athrow, 1) := by decide +kernel
theorem hl_d98 : decode (hs_nm 122).2.1 98 = .ok (.new 141, 3) ∧ decode (hs_nm 122).2.1 101 = .ok (.dup, 1) ∧ decode (hs_nm 122).2.1 102 = .ok (.invokespecial 143, 3) ∧ decode (hs_nm 122).2.1 105 = .ok (.athrow, 1) := by decide +kernel
theorem hl_d21 : decode (hs_nm 136).2.1 21 = .ok (.new 141, 3) ∧ decode (hs_nm 136).2.1 24 = .ok (.dup, 1) ∧ decode (hs_nm 136).2.1 25 = .ok (.invokespecial 143, 3) ∧ decode (hs_nm 136).2.1 28 = .ok (.athrow, 1) := by decide +kernel
theorem hl_d27 : decode (hs_nm 157).2.1 27 = .ok (.new 141, 3) ∧ decode (hs_nm 157).2.1 30 = .ok (.dup, 1) ∧ decode (hs_nm 157).2.1 31 = .ok (.invokespecial 143, 3) ∧ decode (hs_nm 157).2.1 34 = .ok (.athrow, 1) := by decide +kernel
theorem hl_new_dec {y pc : Nat} (h : hl_new y pc) : decode (hs_nm y).2.1 pc = .ok (.new 141, 3) ∧ decode (hs_nm y).2.1 (pc + 3) = .ok (.dup, 1) ∧ decode (hs_nm y).2.1 (pc + 4) = .ok (.invokespecial 143, 3) ∧ decode (hs_nm y).2.1 (pc + 7) = .ok (.athrow, 1) := by
  rcases h with ⟨rfl, rfl | rfl⟩ | ⟨rfl, rfl⟩ | ⟨rfl, rfl | rfl⟩ | ⟨rfl, rfl⟩ | ⟨rfl, rfl⟩
  · exact hl_d11
  · exact hl_d169
  · exact hl_d28
  · exact hl_d15
  · exact hl_d98
  · exact hl_d21
  · exact hl_d27
theorem hl_own {y pc : Nat} (h : hl_new y pc) : y < 267 ∧ (hs_mw y).1 = 11 ∧ plainName (hs_nm y).1.cls = true := by
  rcases h with ⟨rfl, -⟩ | ⟨rfl, -⟩ | ⟨rfl, -⟩ | ⟨rfl, -⟩ | ⟨rfl, -⟩ <;> exact ⟨by decide, by decide +kernel, by decide +kernel⟩
theorem hl_w138 : Cond.classLink "HeavierServes" 141 hl_NS ∈ hs_GW := hs_is_in (i := 1193) (by decide +kernel)
theorem hl_wini : Cond.initialized hl_NS ∈ hs_GW := hs_is_in (i := 108) (by decide +kernel)
def hl_rmT (d : Nat) : Room := { frames := d + 12, cells := 1, slots := 6, locals := 48 * d + 500 }
set_option maxHeartbeats 4000000 in
theorem hl_throws (g : hs_G) (l : Launch) (hlt : l.stackTraces = false) (d : Nat) {y pcN : Nat} (hy : hl_new y pcN) {as : List hs_V} {μ : hs_M} {LN : hs_L} (hcat : hs_cats as ≤ (hs_prog y).2.1) (hoks : ∀ v ∈ as, hs_ok v) (ht : hl_t y d as μ = some ((pcN, LN, []), μ)) (Qc : Array Value → State → Outcome → State → Prop) : vx_Met l (hs_nm y).1 (hs_wsl y) (hl_rmT d) (hl_Pc g as μ) Qc (hl_XC g μ) 1 6 (hs_gP g) := by
  obtain ⟨hy2, hyo, hypl⟩ := hl_own hy
  have hm := hs_meth hy2
  refine vx_ofW (cc := (hs_nm y).2.1) (maxL := (hs_nm y).2.2.1) (ret := (hs_nm y).2.2.2) hypl rfl ?_
  intro p e s m args below meth c s₁ B hml htab hv
  obtain ⟨rfl, ⟨hSf, hWd⟩, hSx⟩ := hv
  have hexec := B.exec
  have hb := B.bytes
  have hts0 := atoms_spec (ws := hs_wsl y) B.pre
  have hts : ∀ w ∈ hs_GW, w.before (as.map (hs_enc g)).toArray s = true := fun w hw => hts0 w (List.mem_cons_of_mem _ hw)
  have hown : s.vm.findClass (hs_own (hs_mw y).1) = some m.cls := by
    rw [← hm.2.1]
    exact findClass_of_methodNamed B.named
  have hlocks := B.notSynchronized
  have C : hs_Ctx g p l (hl_rmT d) s m (as.map (hs_enc g)).toArray c 0 0 (hs_mw y).1 (hs_nm y).2.1 (hs_nm y).2.2.1 (hs_call d) := by
    refine ⟨hexec, hb, hml, hown, hts, hSf, ⟨by show 0 ≤ 1; omega, by show 0 ≤ 6; omega⟩, ⟨by show 1 ≤ d + 12; omega, by show 48 ≤ 48 * d + 500; omega, hs_rm 0, rfl, rfl, by show 0 + 4 + 1 ≤ d + 12; omega, by show 48 + (48 * 0 + 200) ≤ 48 * d + 500; omega, hs_txt_ok g l⟩, hs_rm d, rfl, rfl, by show d + 4 + 1 ≤ d + 12; omega, by show 48 + (48 * d + 200) ≤ 48 * d + 500; omega, hs_sound g l (hs_txt_ok g l) hs_ckp_all d⟩
  have hl := lv_entry (as.map (hs_enc g)) (n := (hs_nm y).2.2.1) (by rw [hs_sl_len, hm.2.2.2.2.2.2.2.1]; exact hcat)
  rw [lg_entry_eq]
  generalize (lg_sl (as.map (hs_enc g)) ++ List.replicate ((hs_nm y).2.2.1 - (lg_sl (as.map (hs_enc g))).length) Slot.unset).toArray = ls at hl ⊢
  rw [← hm.2.2.2.2.2.2.2.1] at hcat
  have hrel : hs_rel g (hs_nm y).2.2.1 s (hs_ent as (hs_nm y).2.2.1) [] μ ls s.heap [] := ⟨lv_less hl (hs_ent_el g as 0 _), hs_ent_len as _ hcat, fun k v hv => hoks v (hs_ent_mem as _ k v hv), (fun v hv => by cases hv), hWd, va_S.rf⟩
  have ht' : hg_go (hs_prog y).1 d [] 300 0 (hs_ent as (hs_nm y).2.2.1) [] μ = some ((pcN, LN, []), μ) := by
    rw [hm.2.2.2.2.2.2.2.1]
    exact ht
  refine hg_sound (Q := vx_MQ below Qc (hl_XC g μ) (as.map (hs_enc g)).toArray s 1 6 (hs_gP g)) C (hs_ckp_all y hy2) 300 0 _ _ μ pcN LN [] μ ht' ?_ ls s.heap [] hrel
  intro ls H locs hr
  obtain ⟨d0, d3, d4, d7⟩ := hl_new_dec hy
  rw [hyo] at hown
  have hown : s.vm.findClass "HeavierServes" = some m.cls := hown
  refine vx_throw0 (names := ["java/lang/RuntimeException", "java/lang/Exception"]) (A := hs_gP g) hexec hb hlt hown (cls := hl_NS) (by decide +kernel) (by decide +kernel) (hts _ hl_w138) (hts _ hl_wini) (vx_hat (fun w hw => hts w (hl_at_in w hw)) hl_at_rest (fun w hw => va_Nw.use (hl_nw_ot w hw) (hSx.1 w hw))) hl_at_ot hSx.2.1 hSx.2.2 hr.2.2.2.2.2 (hr.1.1.trans hml.symm) d0 d3 d4 d7 (fun x hx => (htab x hx).elim) (by show 2 + 3 < d + 12; omega) (by show 0 + (13 * (2 + 1) + 42) ≤ 48 * d + 500; omega) (by show 0 + 1 ≤ 1; omega) (by show 0 + 6 ≤ 6; omega) hlocks (fun t hal hsz hkeep => ⟨rfl, ?_, ?_⟩) hr.2.2.2.2.2.2.2 (by omega) (by omega)
  · obtain ⟨w1, w2, w3⟩ := hr.2.2.2.2.1
    refine ⟨fun k q hq => ?_, w2, w3⟩
    have hlt : q.1 < H.size := (w1 k q hq).lt
    exact (w1 k q hq).kept (hkeep _ hlt)
  · refine ⟨Nat.le_trans hr.2.2.2.2.2.1 hsz, fun q h1 h2 => ?_⟩
    rw [hkeep q (Nat.lt_of_lt_of_le h1 hr.2.2.2.2.2.1)]
    exact hr.2.2.2.2.2.2.1 q h1 h2
