/-! ===== E: stand ===== -/
theorem hx_chg {E : hx_Env} {t : hx_St} {W : Nat} (h8 : hx_P E ≤ 8) (ht : hx_tw (hx_P E) W t) (S : Nat → Bool) : hx_stp E t S 17 = t 17 ↔ hx_win E t S (hx_P E) = -1 := by
  have hw := hx_winw rfl ht S
  have e17 : hx_stp E t S 17 = hx_wo t (hx_win E t S (hx_P E)) := hx_f17 h8 hw.2
  rw [e17]
  unfold hx_wo
  by_cases c : hx_win E t S (hx_P E) = -1
  · rw [if_pos c]
    exact ⟨fun _ => c, fun _ => rfl⟩
  · rw [if_neg c]
    rcases hx_winr E t S (hx_P E) with z | ⟨p, hp, e, hs⟩
    · exact absurd z c
    · refine ⟨fun y => ?_, fun y => absurd y c⟩
      unfold hx_stn at hs
      rw [← e, y, decide_eq_true rfl] at hs
      simp at hs
theorem hx_pwk (d : Nat) {μ : hs_M} {E : hx_Env} (hE : hx_EC μ E) {W : Nat} (hW : W < 2 ^ 30) {t : hx_St} (ht : hx_tw (hx_P E) W t) (hs : hx_SF μ 0 t) (a b : Int32) : ∃ μ', hc_H_passWeek (d + 5) a b μ = some (some (vI (if hx_win E t (hx_sa E t a b) (hx_P E) = -1 then -1 else nI (hx_hold t))), μ') ∧ hx_fr (hx_xS 0) μ μ' ∧ hx_SF μ' 0 (hx_stp E t (hx_sa E t a b)) := by
  obtain ⟨μ', e, f, _, s⟩ := hx_pass d hE hW ht hs.1 a b
  refine ⟨μ', ?_, f, s hs⟩
  have k := hx_chg hE.1.1 ht (hx_sa E t a b)
  rw [hq_H_passWeek, e, hx_bV, (s hs).1.2.2.2.1, hs.1.2.2.2.1, hs.1.2.2.2.2.2.2.2]
  by_cases c : hx_win E t (hx_sa E t a b) (hx_P E) = -1
  · rw [if_pos c, if_pos (k.2 c)]
  · rw [if_neg c, if_neg (fun z => c (k.1 z))]
theorem hx_mk1 : ∀ P, P ≤ 8 → ∀ k, k < 2 ^ P → nI k &&& ((((1 : Int32) <<< (nI P &&& 31)) - 1) ^^^ (-1)) = 0 := by decide +kernel
theorem hx_mk2 : ∀ P, P ≤ 8 → (((1 : Int32) <<< (nI P &&& 31)) - 1).toBitVec.toNat = 2 ^ P - 1 ∧ (((1 : Int32) <<< (nI P &&& 31)) - 1).toInt = ((2 ^ P - 1 : Nat) : Int) ∧ 2 ^ P ≤ 256 := by decide +kernel
theorem hx_msk {P : Nat} (h8 : P ≤ 8) (x : Int32) : (x &&& ((((1 : Int32) <<< (nI P &&& 31)) - 1) ^^^ (-1)) = 0) ↔ hx_rg 0 (((1 : Int32) <<< (nI P &&& 31)) - 1).toInt x = true := by
  obtain ⟨e1, e2, e3⟩ := hx_mk2 P h8
  have hp : 0 < 2 ^ P := Nat.two_pow_pos P
  constructor
  · intro z
    have zb : ∀ i, i < 32 → (bt x i && !bt (((1 : Int32) <<< (nI P &&& 31)) - 1) i) = false := fun i hi => by
      rw [← hx_not _ hi, ← b_and, z]
      exact b_0 i
    have zx : x = x &&& (((1 : Int32) <<< (nI P &&& 31)) - 1) := b_ext (fun i hi => by
      have := zb i hi
      rw [b_and]
      revert this
      cases bt x i <;> cases bt (((1 : Int32) <<< (nI P &&& 31)) - 1) i <;> decide)
    have zn : x.toBitVec.toNat ≤ 2 ^ P - 1 := by
      have y := congrArg (fun v : Int32 => v.toBitVec.toNat) zx
      have y' : x.toBitVec.toNat = x.toBitVec.toNat &&& (((1 : Int32) <<< (nI P &&& 31)) - 1).toBitVec.toNat := by
        rw [← BitVec.toNat_and, ← Int32.toBitVec_and]
        exact y
      rw [e1] at y'
      rw [y']
      exact Nat.and_le_right
    have zi : x.toInt = (x.toBitVec.toNat : Int) := BitVec.toInt_eq_toNat_of_lt (by omega)
    apply decide_eq_true
    rw [zi, e2]
    omega
  · intro z
    rw [e2] at z
    obtain ⟨k, hk, ex⟩ := hx_rgN z
    rw [ex]
    exact hx_mk1 P h8 k (by omega)
theorem hx_saZ (E : hx_Env) (t : hx_St) (a : Int32) : hx_sa E t a 0 = bt a := by
  funext p
  unfold hx_sa
  rw [b_0, Bool.false_and, Bool.or_false]
theorem hx_stand (d : Nat) {n : Nat} (hn : n ≤ 512) {E : hx_Env} {t : hx_St} {μ : hs_M} (h : hx_I n E t μ) (x : Int32) : hx_A n μ (hc_H_stand (d + 6) x) (hc_M_stand (d + 6) x) := by
  have h8 := h.1.1.1
  have h0 := hx_I0 (hx_Ia h)
  have er : ∀ μ', hx_ER μ' E → hc_M_in (d + 5) x.toInt64 0 ((((1 : Int32) <<< (μ'.1 12 0 3 &&& 31)) - 1).toInt64) μ' = some (some (vI (hx_tn (hx_rg 0 (((1 : Int32) <<< (nI (hx_P E) &&& 31)) - 1).toInt x))), μ') := fun μ' hE => by
    rw [hE.2.1, hx_inR, Int32.toInt_toInt64]
    rfl
  have w0 : ∀ μ' : hs_M, μ'.1 12 0 3 = (hs_wI μ' 12 0 0 0).1 12 0 3 := fun μ' => by rw [hx_rd, if_neg (by omega)]
  have hm := hx_msk h8 x
  by_cases c : hx_rg 0 (((1 : Int32) <<< (nI (hx_P E) &&& 31)) - 1).toInt x = true
  rotate_left
  · apply hx_Anone h (v := -2)
    · rw [hq_H_stand, hq_Town_everyone, hx_bI, h.1.2.1, if_neg (fun z => c (hm.1 z))]
    · rw [hq_M_stand, w0 μ, er _ h0.2.1, hx_bI, hx_tn0, if_neg c]
  obtain ⟨μr, e1, f1, hE, hS, K⟩ := hx_past (d + 2) (d + 4) h
  obtain ⟨μw, e2, f2, s2⟩ := hx_pwk d hE (W := 100 * n) (by omega) h.2.2.2.2.1 hS x 0
  rw [hx_saZ] at e2 s2
  have key : ∀ a b : Int32, ∃ μ1, (∃ μb, hc_Row_begin (d + 5) a.toInt64 μw = some (none, μb) ∧ hc_Row_add (d + 5) b.toInt64 μb = some (none, μ1)) ∧ hx_fr hx_xR μw μ1 ∧ hx_rwC μ1 [a.toInt64, b.toInt64] := fun a b => by
    obtain ⟨μb, a1, a2, a3⟩ := hx_begin (d + 3) μw a.toInt64
    obtain ⟨μ1, b1, b2, b3⟩ := hx_add (d + 4) a3 (by show 1 < 16; omega) b.toInt64
    exact ⟨μ1, ⟨μb, a1, b1⟩, hx_tr a2 b2, b3⟩
  have main : ∀ (a b : Int32) (μ1 : hs_M), hx_fr hx_xR μw μ1 → hx_rwC μ1 [a.toInt64, b.toInt64] → (a = if hx_win E t (bt x) (hx_P E) = -1 then 0 else 1) → (b = if hx_win E t (bt x) (hx_P E) = -1 then 0 else nI (hx_hold t)) → hc_H_stand (d + 6) x μ = some (some (vI (hx_stp E t (bt x) 17)), μ1) → hx_A n μ (hc_H_stand (d + 6) x) (hc_M_stand (d + 6) x) := fun a b μ1 f3 hr ha hb e => by
    have fX : hx_fr (fun κ b i => hx_xS 0 κ b i ∨ hx_xR κ b i) μr μ1 := hx_tr (hx_mo (fun _ _ _ z => Or.inl z) f2) (hx_mo (fun _ _ _ z => Or.inr z) f3)
    have s3 := hx_SFf f3 (by intro κ i a b; unfold hx_xR at b; omega) s2
    obtain ⟨μp, e3, g3, er0, sr0, erp, srp, mk⟩ := K _ μ1 fX (fun κ b i z => by unfold hx_xS hx_xR at z; unfold hx_vX hx_qX hx_qC; omega)
    have fz : hx_fr (fun κ _ i => κ = 12 ∧ i = 27) μp (hs_wI μp 12 0 27 0) := hx_wr (hx_rf _ _) _ ⟨rfl, rfl⟩
    obtain ⟨μg, e4, g4, sg, eg⟩ := hx_goes (d + 2) (κ := 45) (Or.inl rfl) (hx_ERf fz (by intro κ i a b; unfold hx_rF at a; omega) erp) (W := 100 * n) (by omega) h.2.2.2.2.1 (hx_SRf fz (by intro i a b; omega) srp) x
    rw [hx_rd, if_pos ⟨rfl, rfl, rfl⟩] at eg
    have fe : hx_fr hx_yR μg (hs_wI μg 12 0 1 0) := hx_wr (hx_rf _ _) _ (Or.inl ⟨rfl, rfl⟩)
    obtain ⟨μ5, e5, g5, r5⟩ := hx_ent (d + 4) (hx_rwz μg) (by show 0 < 16; omega) a.toInt64
    obtain ⟨μ6, e6, g6, r6⟩ := hx_ent (d + 4) r5 (by show 1 < 16; omega) b.toInt64
    have ge := hx_tr fe (hx_tr g5 g6)
    have b5 : μ5.1 12 0 27 = b := by
      rw [(hx_tr fe g5).1 12 0 27 (by unfold hx_yR; omega), eg, hb, Int32.zero_add]
    have s6 : hx_SR μ6 45 0 (hx_stp E t (bt x)) := hx_SRf ge (by intro i a b; unfold hx_yR at b; omega) sg
    have q17 : μg.1 45 0 17 = hx_stp E t (bt x) 17 := hx_SR0 sg (by omega)
    have p17 : μp.1 45 0 17 = t 17 := hx_SR0 srp (by omega)
    have k := hx_chg h8 h.2.2.2.2.1 (bt x)
    refine hx_Amk (v := hx_stp E t (bt x) 17) (μ1 := μ1) (μ2 := μ6) (E := E) (t := hx_stp E t (bt x)) e ?_ ?_
    · rw [hq_M_stand, w0 μ1, er _ er0, hx_bI, hx_tn0, if_pos c, e3, hx_bV, e4, hx_bV, q17, p17]
      by_cases cw : hx_win E t (bt x) (hx_P E) = -1
      · rw [if_pos cw] at ha
        rw [ha] at e5
        rw [if_pos (k.2 cw), hx_flag0, hx_bI, e5, hx_bV, b5, e6, hx_bV, hx_SR0 s6 (by omega)]
      · rw [if_neg cw] at ha
        rw [ha] at e5
        rw [if_neg (fun z => cw (k.1 z)), hx_flag1, hx_bI, e5, hx_bV, b5, e6, hx_bV, hx_SR0 s6 (by omega)]
    · have fy : hx_fr (fun κ _ i => κ = 45 ∨ (κ = 12 ∧ i = 27) ∨ hx_yR κ 0 i) μp μ6 := hx_tr (hx_tr (hx_mo (fun _ _ _ z => Or.inr (Or.inl z)) fz) (hx_mo (fun κ b i z => by unfold hx_xG at z; omega) g4)) (hx_mo (fun _ _ _ z => Or.inr (Or.inr z)) ge)
      have fw : hx_fr (fun κ _ i => κ = 12 ∧ i = 0) μ1 (hs_wI μ1 12 0 0 0) := hx_wr (hx_rf _ _) _ ⟨rfl, rfl⟩
      refine mk _ _ _ fy (fun κ b i z => by unfold hx_yR at z; unfold hx_vY hx_qY hx_qR; omega) ?_ s6 (hx_twm (hx_stw h8 (by omega) h.2.2.2.2.1 (bt x)) (by omega)) (Or.inr ⟨_, ?_, r6⟩)
      · exact hx_SFf fy (by intro κ i a b; unfold hx_yR at b; omega) (hx_SFf g3 (by intro κ i a b; unfold hx_pY at b; omega) (hx_SFf fw (by intro κ i a b; omega) s3))
      · exact hx_rwCf fy (by intro κ i a b; unfold hx_yR at b; omega) (hx_rwCf g3 (by intro κ i a b; unfold hx_pY at b; omega) (hx_rwCf fw (by intro κ i a b; omega) hr))
  have c' := hm.2 c
  by_cases cw : hx_win E t (bt x) (hx_P E) = -1
  · obtain ⟨μ1, ⟨μb, a1, a2⟩, a3, a4⟩ := key 0 0
    refine main 0 0 μ1 a3 a4 (by rw [if_pos cw]) (by rw [if_pos cw]) ?_
    rw [if_pos cw] at e2
    rw [hq_H_stand, hq_Town_everyone, hx_bI, h.1.2.1, if_pos c', e1, hx_bV, e2, hx_bI, if_pos rfl]
    show hs_bV (hc_Row_begin (d + 5) (0 : Int32).toInt64 μw) _ = _
    rw [a1, hx_bV, hx_max, hx_bI, show hx_mx (-1) 0 = 0 by decide, a2, hx_bV, a3.1 6 0 1 (by unfold hx_xR; omega), s2.1.2.2.2.1]
  · obtain ⟨μ1, ⟨μb, a1, a2⟩, a3, a4⟩ := key 1 (nI (hx_hold t))
    refine main 1 _ μ1 a3 a4 (by rw [if_neg cw]) (by rw [if_neg cw]) ?_
    obtain ⟨L, hL, e20, _⟩ := h.2.2.2.2.1.2.2.1
    have hh : hx_hold t ≤ 12 := by
      have z := hx_hcle (t := t) L
      unfold hx_hold
      rw [e20, nI_clamp (by omega)]
      omega
    rw [if_neg cw] at e2
    rw [hq_H_stand, hq_Town_everyone, hx_bI, h.1.2.1, if_pos c', e1, hx_bV, e2, hx_bI, if_neg (show ¬ nI (hx_hold t) = -1 from fun y => absurd (show (-1 : Int32) < 0 by decide) (by rw [← y]; exact nI_pos (by omega)))]
    show hs_bV (hc_Row_begin (d + 5) (1 : Int32).toInt64 μw) _ = _
    rw [a1, hx_bV, hx_max, hx_bI, show hx_mx (nI (hx_hold t)) 0 = nI (hx_hold t) from if_neg (nI_pos (by omega)), a2, hx_bV, a3.1 6 0 1 (by unfold hx_xR; omega), s2.1.2.2.2.1]
