/-! ===== E: habit ===== -/
theorem hx_draft (d : Nat) {p : Nat} (hp : p < 8) (μ : hs_M) : ∃ μ', hc_Town_takeDraft (d + 1) (nI p) μ = some (none, μ') ∧ hx_fr (fun κ b i => b = 0 ∧ ((κ = 17 ∧ i = p) ∨ (κ = 18 ∧ 6 * p ≤ i ∧ i < 6 * p + 6))) μ μ' ∧ μ'.1 17 0 p = μ.1 8 0 6 ∧ ∀ i, i < 6 → μ'.1 18 0 (6 * p + i) = μ.1 20 0 i := by
  have c1 : hs_cok 0 (nI (p * 6)) 6 6 48 = true := by
    unfold hs_cok
    rw [nI_clamp (by omega), decide_eq_true (nI_pos' (by omega)), show (6 : Int32).toNatClampNeg = 6 from rfl, decide_eq_true (show p * 6 + 6 ≤ 48 by omega)]
    decide
  have f0 : hx_fr (fun κ b i => b = 0 ∧ ((κ = 17 ∧ i = p) ∨ (κ = 18 ∧ 6 * p ≤ i ∧ i < 6 * p + 6))) μ (hs_wI μ 17 0 p (μ.1 8 0 6)) := hx_wr (hx_rf _ _) _ (by omega)
  refine ⟨hs_cp (hs_wI μ 17 0 p (μ.1 8 0 6)) 20 0 0 18 0 (p * 6) 6, ?_, hx_wc f0 (fun i a b => by omega), ?_, ?_⟩
  · rw [hq_Town_takeDraft, if_pos (hx_in (by omega) (by omega)), show nI p * 6 = nI (p * 6) from pk_mul p 6, if_pos c1, nI_clamp (by omega), nI_clamp (by omega)]
  · rw [hx_rc, if_neg (by omega), hx_rd, if_pos ⟨rfl, rfl, rfl⟩]
  · intro i hi
    rw [hx_rc, if_pos ⟨rfl, rfl, by omega, by omega⟩, f0.1 20 0 _ (by omega), show 0 + (6 * p + i - p * 6) = i by omega]
def hx_uH (E : hx_Env) (p a : Nat) (v : Nat → Int32) : hx_Env := (hx_P E, hx_Pt E, hx_Il E, (fun i => if i = p then a else hx_Hl E i), (fun i k => if i = p then v k else hx_Hb E i k), hx_G E, hx_O E, hx_V E)
theorem hx_uHok {E : hx_Env} (h : hx_ok E) {p a : Nat} (ha : a ≤ 6) (v : Nat → Int32) : hx_ok (hx_uH E p a v) := by
  obtain ⟨k1, k2, k3⟩ := h
  refine ⟨k1, fun i hi => ?_, k3⟩
  show (if i = p then a else hx_Hl E i) ≤ 6
  by_cases z : i = p
  · rw [if_pos z]
    exact ha
  · rw [if_neg z]
    exact k2 i hi
/-- the class: what its reading of a habit answers -/
theorem hx_habC (d : Nat) {m l : Nat} {T : Nat → Int32} (hk : hx_Tk m T) (hl : l ≤ 80) (hm : m ≤ l) {μ : hs_M} (hT : hx_TC μ m T) (h1 : μ.1 7 0 1 = nI l) (h7 : μ.1 8 0 7 = nI 0) {p : Nat} (hp : p < 8) : ∃ μ', (∀ (ρ : Type) (K : Int32 → hs_M → Option ρ), hs_bI (hs_bI (hc_Town_readChanges (d + 3) μ) (fun r2 μ2 => (if r2 = 0 then he_Town_readHabit_30 (d + 3) μ2 else (if μ2.1 8 0 7 < μ2.1 7 0 1 then he_Town_readHabit_30 (d + 3) μ2 else hs_bV (hc_Town_takeDraft (d + 3) (nI p) μ2) (fun μ3 => some (some (vI (-1)), μ3)))))) K = K (if (hx_rch T 6 0).2.2 = true ∧ (hx_rch T 6 0).2.1 = l then -1 else nI (hx_rch T 6 0).2.1) μ') ∧ hx_fr (fun κ b i => hx_xC κ b i ∨ (b = 0 ∧ ((κ = 17 ∧ i = p) ∨ (κ = 18 ∧ 6 * p ≤ i ∧ i < 6 * p + 6)))) μ μ' ∧ (¬ ((hx_rch T 6 0).2.2 = true ∧ (hx_rch T 6 0).2.1 = l) → hx_fr hx_xC μ μ') ∧ ((hx_rch T 6 0).2.2 = true ∧ (hx_rch T 6 0).2.1 = l → μ'.1 17 0 p = nI (hx_rch T 6 0).1 ∧ ∀ i, i < (hx_rch T 6 0).1 → μ'.1 18 0 (6 * p + i) = hx_cv T (2 * i)) := by
  have h80 := hk.1
  have f0 : hx_fr hx_xC μ (hs_wI μ 8 0 6 (nI 0)) := hx_wr (hx_rf _ _) _ (by unfold hx_xC; omega)
  obtain ⟨μb, a1, a2, a3, a4, a5, a6⟩ := hx_rcC d hk 6 0 0 (hs_wI μ 8 0 6 (nI 0)) (by omega) (hx_TCf f0 (fun i => by unfold hx_xC; omega) hT) (by omega) (by rw [hx_rd, if_neg (by omega), h7]) (by rw [hx_rd, if_pos ⟨rfl, rfl, rfl⟩])
  obtain ⟨b1, b2, b3⟩ := hx_rcb hk 6 0 (by omega)
  have e0 : hc_Town_readChanges (d + 3) μ = he_Town_readChanges_7 (d + 2) (nI 0) (hs_wI μ 8 0 6 (nI 0)) := hq_Town_readChanges _ _
  have fb := hx_tr f0 a2
  have l1 : μb.1 7 0 1 = nI l := by rw [fb.1 7 0 1 (by unfold hx_xC; omega), h1]
  by_cases c : (hx_rch T 6 0).2.2 = true ∧ (hx_rch T 6 0).2.1 = l
  · obtain ⟨μc, c1, c2, c3, c4⟩ := hx_draft (d + 2) hp μb
    have np : hx_pms (T (hx_rch T 6 0).2.1) = false := by
      rw [hk.2.2 _ (by omega)]
      decide
    refine ⟨μc, fun ρ K => ?_, hx_tr (hx_mo (fun _ _ _ z => Or.inl z) fb) (hx_mo (fun _ _ _ z => Or.inr z) c2), fun z => absurd c z, fun _ => ⟨?_, fun i hi => ?_⟩⟩
    · rw [e0, a1, hx_bI, np, c.1, hx_tn0, if_pos (show (true && !false) = true by decide), a3, l1, if_neg (nI_nlt (by omega) (by omega)), c1, hx_bV, hx_bI, if_pos ⟨rfl, c.2⟩]
    · rw [c3, a4, Nat.zero_add]
    · have := a6 i hi
      rw [Nat.zero_add, Nat.zero_add] at this
      rw [c4 i (by omega), this]
  · refine ⟨μb, fun ρ K => ?_, hx_mo (fun _ _ _ z => Or.inl z) fb, fun _ => fb, fun z => absurd z c⟩
    have e30 : he_Town_readHabit_30 (d + 3) μb = some (some (vI (nI (hx_rch T 6 0).2.1)), μb) := by
      rw [hq_Town_readHabit_30, a3]
    rw [e0, a1, hx_bI, hx_tn0, if_neg c, e30]
    by_cases z : ((hx_rch T 6 0).2.2 && !hx_pms (T (hx_rch T 6 0).2.1)) = true
    · rw [if_pos z, a3, l1, if_pos (nI_lt (by
        rw [Bool.and_eq_true] at z
        have : ¬ (hx_rch T 6 0).2.1 = l := fun y => c ⟨z.1, y⟩
        omega) (by omega)), hx_bI]
    · rw [if_neg z, hx_bI]
theorem hx_habit (d : Nat) {n : Nat} {E : hx_Env} {t : hx_St} {μ : hs_M} (h : hx_I n E t μ) (x : Int32) : hx_A n μ (hc_H_habit (d + 5) x) (hc_M_habit (d + 5) x) := by
  have h8 := h.1.1.1
  obtain ⟨l, T, hl, hk, t1, t2, t3, t4, eo⟩ := hx_open h.2.2.2.2.2.1 (x := 12) (by omega)
  by_cases c : hx_isP (hx_P E) x = true
  rotate_left
  · have f1 : hx_fr (fun κ b i => κ = 7 ∧ i = 1) μ (hs_wI μ 7 0 1 0) := hx_wr (hx_rf _ _) _ (by omega)
    have fw : hx_fr (fun κ b i => κ = 12 ∧ b = 0 ∧ i = 0) (hs_wI μ 7 0 1 0) (hs_wI (hs_wI μ 7 0 1 0) 12 0 0 0) := hx_wr (hx_rf _ _) _ (by omega)
    obtain ⟨ν, b1, b2, b3, b4, b5, b6⟩ := hx_begR (d + 2) (μ := hs_wI (hs_wI μ 7 0 1 0) 12 0 0 0) hl (x := 12) (by omega) (by rw [hx_rd, if_neg (by omega), hx_rd, if_neg (by omega), t2])
    have f2 : hx_fr (fun κ b i => κ = 12 ∧ (i = 0 ∨ i = 13 ∨ i = 14 ∨ i = 15 ∨ i = 16)) (hs_wI μ 7 0 1 0) ν := hx_tr (hx_mo (fun κ b i z => by omega) fw) (hx_mo (fun κ b i z => by omega) b2)
    have er := hx_ERf f2 (by intro κ i a b; unfold hx_rF at a; omega) (hx_ERf f1 (by intro κ i a b; unfold hx_rF at a; omega) h.2.1)
    have ec := hx_ECf f2 (by intro κ i a b; unfold hx_cF at a; omega) (hx_ECf f1 (by intro κ i a b; unfold hx_cF at a; omega) h.1)
    refine hx_Amk (v := -100) (μ1 := hs_wI μ 7 0 1 0) (μ2 := ν) (E := E) (t := t) ?_ ?_ (hx_Ite h f1 f2 (fun κ j i z => Or.inr (Or.inr z)) (fun κ j i z => by unfold hx_gY hx_qR; omega) rfl ec er (hx_iT0 ?_ b3))
    · rw [hq_H_habit, hx_thas _ h.1, hx_bI, hx_tn0, if_neg c]
    · rw [hq_M_habit, show hc_M_begins (d + 4) 12 (hs_wI (hs_wI μ 7 0 1 0) 12 0 0 0) = _ from b1, hx_bI, hx_isPM _ er, hx_bI, hx_tn0, if_neg c]
    · rw [f2.1 7 0 1 (by omega), hx_rd, if_pos ⟨rfl, rfl, rfl⟩]
  obtain ⟨p, hp, ex⟩ := hx_isPn c
  have fa : hx_fr (fun κ b i => b = 0 ∧ ((κ = 7 ∧ i = 2) ∨ (κ = 8 ∧ i = 7))) μ (hs_wI (hs_wI μ 7 0 2 (nI (min l 12))) 8 0 7 0) := hx_wr (hx_wr (hx_rf _ _) _ (by omega)) _ (by omega)
  have hTC : hx_TC (hs_wI (hs_wI μ 7 0 2 (nI (min l 12))) 8 0 7 0) (min l 12) T := ⟨by rw [hx_rd, if_neg (by omega), hx_rd, if_pos ⟨rfl, rfl, rfl⟩], fun i hi => by rw [fa.1 13 0 i (by omega), t3 i hi]⟩
  obtain ⟨μb, e1, g1, g2, g3⟩ := hx_habC d hk hl (by omega) hTC (by rw [fa.1 7 0 1 (by omega), t1]) (by rw [hx_rd, if_pos ⟨rfl, rfl, rfl⟩]; rfl) (show p < 8 by omega)
  obtain ⟨r1, r2, r3⟩ := hx_rcb hk 6 0 (by omega)
  generalize eA : (hx_rch T 6 0).1 = A at *
  generalize eB : (hx_rch T 6 0).2.1 = B at *
  generalize eO : (hx_rch T 6 0).2.2 = ok at *
  have fm : hx_fr (fun κ b i => κ = 7 ∧ b = 0 ∧ i = 1) μb (hs_wI μb 7 0 1 0) := hx_wr (hx_rf _ _) _ (by omega)
  have f1 : hx_fr (fun κ b i => b = 0 ∧ ((κ = 7 ∧ (i = 1 ∨ i = 2)) ∨ (κ = 8 ∧ (i = 6 ∨ i = 7)) ∨ κ = 20 ∨ (κ = 17 ∧ i = p) ∨ (κ = 18 ∧ 6 * p ≤ i ∧ i < 6 * p + 6))) μ (hs_wI μb 7 0 1 0) := hx_tr (hx_tr (hx_mo (fun κ b i z => by omega) fa) (hx_mo (fun κ b i z => by unfold hx_xC at z; omega) g1)) (hx_mo (fun κ b i z => by omega) fm)
  have fw : hx_fr (fun κ b i => κ = 12 ∧ b = 0 ∧ i = 0) (hs_wI μb 7 0 1 0) (hs_wI (hs_wI μb 7 0 1 0) 12 0 0 0) := hx_wr (hx_rf _ _) _ (by omega)
  obtain ⟨ν, b1, b2, b3, b4, b5, b6⟩ := hx_begR (d + 2) (μ := hs_wI (hs_wI μb 7 0 1 0) 12 0 0 0) hl (x := 12) (by omega) (by rw [fw.1 12 0 13 (by omega), f1.1 12 0 13 (by omega), t2])
  have fn : hx_fr (fun κ b i => κ = 12 ∧ (i = 0 ∨ i = 13 ∨ i = 14 ∨ i = 15 ∨ i = 16)) (hs_wI μb 7 0 1 0) ν := hx_tr (hx_mo (fun κ b i z => by omega) fw) (hx_mo (fun κ b i z => by omega) b2)
  have er := hx_ERf fn (by intro κ i a b; unfold hx_rF at a; omega) (hx_ERf f1 (by intro κ i a b; unfold hx_rF at a; omega) h.2.1)
  have hTR : hx_TR ν (min l 12) T := ⟨b5, fun i hi => by rw [fn.1 47 0 i (by omega), f1.1 47 0 i (by omega), t4 i hi]⟩
  obtain ⟨ν2, q1, q2, q3, q4, q5, q6⟩ := hx_rcR d hk (x := 8) (by omega) 6 0 0 ν (by omega) hTR (by omega) b4
  rw [eO] at q1 q4
  rw [eB] at q3
  rw [eA] at q4 q6
  have ef := hx_flt (d + 3) (μ := ν2) hl (x := 12) (by omega) r3 q3 (by rw [q2.1 12 0 15 (by unfold hx_yC; omega), b5]) ok
  have eC : ∀ v, (v = if ok = true ∧ B = l then μb.1 17 0 p else -1 - nI B) → hc_H_habit (d + 5) x μ = some (some (vI v), hs_wI μb 7 0 1 0) := fun v hv => by
    rw [hq_H_habit, hx_thas _ h.1, hx_bI, hx_tn0, if_pos c, ex, hq_Town_readHabit, show hc_Text_open (d + 3) 12 μ = _ from eo (d + 1), hx_bV, e1]
    by_cases z : ok = true ∧ B = l
    · rw [if_pos z, if_pos rfl, if_pos (hx_in (by omega) (by omega)), nI_clamp (by omega), hv, if_pos z]
    · rw [if_neg z, if_neg (hx_nn1 (by omega)), hv, if_neg z]
  have eR : hc_M_habit (d + 5) x (hs_wI μb 7 0 1 0) = if ok = true ∧ B = l then hs_bV (hc_M_putsHabit (d + 4) (nI p) 8 ν2) (fun μ5 => (if hs_in (nI p) 8 then some (some (vI (μ5.1 44 0 (nI p).toNatClampNeg)), μ5) else none)) else some (some (vI (-1 - nI B)), ν2) := by
    rw [hq_M_habit, show hc_M_begins (d + 4) 12 (hs_wI (hs_wI μb 7 0 1 0) 12 0 0 0) = _ from b1, hx_bI, hx_isPM _ er, hx_bI, hx_tn0, if_pos c, hq_M_readsHabit, show he_M_readsHabit_2 (d + 3) 8 0 ν = _ from q1, hx_bI, show hc_M_faultOf (d + 4) (nI l) 12 (hx_tn ok) ν2 = _ from ef, hx_bI]
    by_cases z : ok = true ∧ B = l
    · rw [if_pos z, if_pos z, if_neg (by decide), ex]
    · rw [if_neg z, if_neg z, if_pos (hx_ng1 B (by omega))]
  have v71 : (hs_wI μb 7 0 1 0).1 7 0 1 = 0 := by rw [hx_rd, if_pos ⟨rfl, rfl, rfl⟩]
  have fp : hx_fr (fun κ b i => (κ = 12 ∧ (i = 0 ∨ i = 13 ∨ i = 14 ∨ i = 15 ∨ i = 16)) ∨ κ = 50 ∨ κ = 51) (hs_wI μb 7 0 1 0) ν2 := hx_tr (hx_mo (fun κ b i z => by omega) fn) (hx_mo (fun κ b i z => by unfold hx_yC at z; omega) q2)
  by_cases z : ok = true ∧ B = l
  rotate_left
  · rw [if_neg z] at eR eC
    have g1' := g2 z
    have f1' : hx_fr (fun κ b i => b = 0 ∧ ((κ = 7 ∧ (i = 1 ∨ i = 2)) ∨ (κ = 8 ∧ (i = 6 ∨ i = 7)) ∨ κ = 20)) μ (hs_wI μb 7 0 1 0) := hx_tr (hx_tr (hx_mo (fun κ b i z => by omega) fa) (hx_mo (fun κ b i z => by unfold hx_xC at z; omega) g1')) (hx_mo (fun κ b i z => by omega) fm)
    refine hx_Amk (v := -1 - nI B) (μ1 := hs_wI μb 7 0 1 0) (μ2 := ν2) (E := E) (t := t) (eC _ rfl) eR (hx_Ite h f1' fp (fun κ j i z => by unfold hx_gX hx_qC; omega) (fun κ j i z => by unfold hx_gY hx_qR; omega) rfl ?_ ?_ (hx_iT0 ?_ ?_))
    · exact hx_ECf fp (by intro κ i a b; unfold hx_cF at a; omega) (hx_ECf f1' (by intro κ i a b; unfold hx_cF at a; omega) h.1)
    · exact hx_ERf fp (by intro κ i a b; unfold hx_rF at a; omega) (hx_ERf f1' (by intro κ i a b; unfold hx_rF at a; omega) h.2.1)
    · rw [fp.1 7 0 1 (by omega), v71]
    · rw [q2.1 12 0 13 (by unfold hx_yC; omega), b3]
  · rw [if_pos z] at eR eC
    obtain ⟨g17, g18⟩ := g3 z
    obtain ⟨ν3, u1, u2, u3, u4⟩ := hx_pH (d + 3) (show p < 8 by omega) (x := 8) (by omega) ν2
    have fy : hx_fr (fun κ b i => (κ = 12 ∧ (i = 0 ∨ i = 13 ∨ i = 14 ∨ i = 15 ∨ i = 16)) ∨ κ = 50 ∨ κ = 51 ∨ (κ = 43 ∧ 6 * p ≤ i ∧ i < 6 * p + 6) ∨ (κ = 44 ∧ i = p)) (hs_wI μb 7 0 1 0) ν3 := hx_tr (hx_mo (fun κ b i z => by omega) fp) (hx_mo (fun κ b i z => by omega) u2)
    have cy : ∀ κ i, κ ≤ 40 → κ ≠ 12 → ν3.1 κ 0 i = (hs_wI μb 7 0 1 0).1 κ 0 i := fun κ i a b => fy.1 κ 0 i (by omega)
    have cx : ∀ κ i, 12 ≤ κ → κ ≠ 17 → κ ≠ 18 → κ ≠ 20 → (hs_wI μb 7 0 1 0).1 κ 0 i = μ.1 κ 0 i := fun κ i a b c d => f1.1 κ 0 i (by omega)
    obtain ⟨k0, k1, k2, k3, k4, k5, k6, k7, _⟩ := h.1
    obtain ⟨_, w1, w2, w3, w4, w5, w6, w7, _⟩ := h.2.1
    have ok' : hx_ok (hx_uH E p A (fun k => hx_cv T (2 * k))) := hx_uHok k0 r1 _
    have u3' : ν3.1 44 0 p = nI A := by rw [u3, q4 z.1, Nat.zero_add]
    refine hx_Amk (v := nI A) (μ1 := hs_wI μb 7 0 1 0) (μ2 := ν3) (E := hx_uH E p A (fun k => hx_cv T (2 * k))) (t := t) (eC _ g17.symm) ?_ (hx_Ite h f1 fy (fun κ j i z => by unfold hx_gX hx_qC hx_cF; omega) (fun κ j i z => by unfold hx_gY hx_qR hx_rF; omega) rfl ?_ ?_ (hx_iT0 ?_ ?_))
    · rw [eR, show hc_M_putsHabit (d + 4) (nI p) 8 ν2 = _ from u1, hx_bV, if_pos (hx_in (by omega) (by omega)), nI_clamp (by omega), u3']
    · apply hx_ECn (hx_tr (hx_mo (Y := fun κ b i => (b = 0 ∧ ((κ = 7 ∧ (i = 1 ∨ i = 2)) ∨ (κ = 8 ∧ (i = 6 ∨ i = 7)) ∨ κ = 20 ∨ (κ = 17 ∧ i = p) ∨ (κ = 18 ∧ 6 * p ≤ i ∧ i < 6 * p + 6))) ∨ κ = 12 ∨ 43 ≤ κ) (fun κ b i z => Or.inl z) f1) (hx_mo (fun κ b i z => by omega) fy)) h.1 ok' rfl (fun i => by omega)
      · rw [cy 8 9 (by omega) (by omega), f1.1 8 0 9 (by omega)]
        exact k1
      · intro i hi
        rw [cy 15 i (by omega) (by omega), cx 15 i (by omega) (by omega) (by omega) (by omega)]
        exact k2 i hi
      · intro i hi
        rw [cy 16 i (by omega) (by omega), cx 16 i (by omega) (by omega) (by omega) (by omega)]
        exact k3 i hi
      · intro i hi
        show _ = nI (if i = p then A else hx_Hl E i)
        by_cases y : i = p
        · rw [if_pos y, y, cy 17 p (by omega) (by omega), fm.1 17 0 p (by omega), g17]
        · rw [if_neg y, cy 17 i (by omega) (by omega), f1.1 17 0 i (by omega)]
          exact k4 i hi
      · intro i k hi hk'
        have hk2 : k < if i = p then A else hx_Hl E i := hk'
        show _ = if i = p then hx_cv T (2 * k) else hx_Hb E i k
        by_cases y : i = p
        · rw [if_pos y] at hk2 ⊢
          rw [y, cy 18 _ (by omega) (by omega), fm.1 18 0 _ (by omega), g18 k hk2]
        · rw [if_neg y] at hk2 ⊢
          have := k0.2.1 i hi
          rw [cy 18 _ (by omega) (by omega), f1.1 18 0 _ (by omega)]
          exact k5 i k hi hk2
      · rw [cy 5 0 (by omega) (by omega), f1.1 5 0 0 (by omega)]
        exact k6
      · rw [cy 5 1 (by omega) (by omega), f1.1 5 0 1 (by omega)]
        exact k7
    · apply hx_ERn (hx_tr (hx_mo (Y := fun κ b i => (b = 0 ∧ (κ = 7 ∨ κ = 8 ∨ κ = 20 ∨ κ = 17 ∨ κ = 18)) ∨ (κ = 12 ∧ (i = 0 ∨ i = 13 ∨ i = 14 ∨ i = 15 ∨ i = 16)) ∨ κ = 50 ∨ κ = 51 ∨ (κ = 43 ∧ 6 * p ≤ i ∧ i < 6 * p + 6) ∨ (κ = 44 ∧ i = p)) (fun κ b i z => by omega) f1) (hx_mo (fun κ b i z => by omega) fy)) h.2.1 ok' rfl (fun i => by omega)
      · rw [fy.1 12 0 3 (by omega), cx 12 3 (by omega) (by omega) (by omega) (by omega)]
        exact w1
      · intro i hi
        rw [fy.1 41 0 i (by omega), cx 41 i (by omega) (by omega) (by omega) (by omega)]
        exact w2 i hi
      · intro i hi
        rw [fy.1 42 0 i (by omega), cx 42 i (by omega) (by omega) (by omega) (by omega)]
        exact w3 i hi
      · intro i hi
        show _ = nI (if i = p then A else hx_Hl E i)
        by_cases y : i = p
        · rw [if_pos y, y, u3']
        · rw [if_neg y, fy.1 44 0 i (by omega), cx 44 i (by omega) (by omega) (by omega) (by omega)]
          exact w4 i hi
      · intro i k hi hk'
        have hk2 : k < if i = p then A else hx_Hl E i := hk'
        show _ = if i = p then hx_cv T (2 * k) else hx_Hb E i k
        by_cases y : i = p
        · rw [if_pos y] at hk2 ⊢
          have := q6 k hk2
          rw [Nat.zero_add, Nat.zero_add] at this
          rw [y, u4 k (by omega), this]
        · rw [if_neg y] at hk2 ⊢
          have := k0.2.1 i hi
          rw [fy.1 43 0 _ (by omega), cx 43 _ (by omega) (by omega) (by omega) (by omega)]
          exact w5 i k hi hk2
      · rw [fy.1 12 0 8 (by omega), cx 12 8 (by omega) (by omega) (by omega) (by omega)]
        exact w6
      · rw [fy.1 12 0 9 (by omega), cx 12 9 (by omega) (by omega) (by omega) (by omega)]
        exact w7
    · rw [cy 7 1 (by omega) (by omega), v71]
    · rw [u2.1 12 0 13 (by omega), q2.1 12 0 13 (by unfold hx_yC; omega), b3]
