/-! ===== E: will, things ===== -/
def hx_zS (ok : Bool) (LC LR : List Int32) : Prop := ok = true → ∃ v : (Nat → Int32) → Int32, ∀ f st, hx_rL (hx_tC f) LC st = some (v f :: st) ∧ hx_rL (hx_tR f) LR st = some (v f :: st)
def hx_zT (ok : Bool) (LC LR : List Int32) : Prop := ok = true → ∃ v : (Nat → Int32) → Int32 → Int32, ∀ f x st, hx_rL (hx_tC f) LC (x :: st) = some (v f x :: st) ∧ hx_rL (hx_tR f) LR (x :: st) = some (v f x :: st)
def hx_zb (m k k' : Nat) (LC LR : List Int32) : Prop := k ≤ k' ∧ k' ≤ m ∧ LC.length ≤ k' - k ∧ LR.length ≤ k' - k ∧ ∀ c, c ∈ LR → hx_cR c
/-- how deep calls may go -/
def hx_zD (n lv : Nat) : Nat := 6 * (4 - n) + (3 - lv) + 5
def hx_zE (m n lv k : Nat) : Nat := 6 * (4 - n) + (3 - lv) + (m - k) + 8
/-- what reads a level: a comparison, a sum, a product, a thing -/
noncomputable def hx_rv (e lv : Nat) (x : Int32) (μ : hs_M) : Option (Option hs_V × hs_M) := if lv = 0 then hc_Will_readComparison e x μ else if lv = 1 then hc_Will_readSum e x μ else if lv = 2 then hc_Will_readProduct e x μ else hc_Will_readThing e x μ
theorem hx_rv0 (e : Nat) (x : Int32) (μ : hs_M) : hx_rv e 0 x μ = hc_Will_readComparison e x μ := if_pos rfl
theorem hx_rv1 (e : Nat) (x : Int32) (μ : hs_M) : hx_rv e 1 x μ = hc_Will_readSum e x μ := by
  unfold hx_rv
  rw [if_neg (by decide), if_pos rfl]
theorem hx_rv2 (e : Nat) (x : Int32) (μ : hs_M) : hx_rv e 2 x μ = hc_Will_readProduct e x μ := by
  unfold hx_rv
  rw [if_neg (by decide), if_neg (by decide), if_pos rfl]
theorem hx_rv3 (e : Nat) (x : Int32) (μ : hs_M) : hx_rv e 3 x μ = hc_Will_readThing e x μ := by
  unfold hx_rv
  rw [if_neg (by decide), if_neg (by decide), if_neg (by decide)]
def hx_zM (m : Nat) (T : Nat → Int32) (lv n k : Nat) : Prop := ∃ ok k' LC LR, hx_zb m k k' LC LR ∧ hx_zS ok LC LR ∧ (∀ e w μ, hx_zD n lv ≤ e → w ≤ k → hx_zc m T k w μ → ∃ μ', hx_rv e lv (nI n) μ = some (some (vI (hx_tn ok)), μ') ∧ hx_zCt m T w μ k' LC μ') ∧ ∀ e w μ, hx_zE m n lv k ≤ e → w ≤ k → hx_zr m T k w μ → μ.1 12 0 16 = nI n → ∃ μ', hc_M_readsRank e (nI lv) μ = some (some (vI (hx_tn ok)), μ') ∧ hx_zRt m T w μ ok k' LR μ'
def hx_zP (m : Nat) (T : Nat → Int32) (n k : Nat) : Prop := ∃ ok k' LC LR, hx_zb m k k' LC LR ∧ hx_zS ok LC LR ∧ (∀ e w b μ, hx_zD n 3 ≤ e + 2 → w ≤ k → hx_zc m T k w μ → ∃ μ', he_Will_readThing_51 e (nI n) (hx_tn b) μ = he_Will_readThing_151 e (hx_tn b) (hx_tn ok) μ' ∧ hx_zCt m T w μ k' LC μ') ∧ ∀ e w μ, hx_zE m n 3 k ≤ e + 1 → w ≤ k → hx_zr m T k w μ → μ.1 12 0 16 = nI n → ∃ μ', hc_M_readsThing e μ = some (some (vI (hx_tn ok)), μ') ∧ hx_zRt m T w μ ok k' LR μ'
section
variable {m : Nat} {T : Nat → Int32}
theorem hx_zRn {k w : Nat} {μ : hs_M} (h : hx_zr m T k w μ) (x : Int32) : hx_zRt m T w μ false k [] (hs_wI μ 12 0 16 x) := by
  have f : hx_fr (hx_zB w) μ (hs_wI μ 12 0 16 x) := hx_wr (hx_rf _ _) _ (by unfold hx_zB; omega)
  refine ⟨f, ⟨hx_TRf f (fun i => by unfold hx_zB; omega) h.1, ?_, ?_⟩, hx_zl0 _ _ _, fun z => absurd z (by decide)⟩
  · rw [hx_rd, if_neg (by omega), h.2.1]
  · rw [hx_rd, if_neg (by omega), h.2.2]
    rfl
theorem hx_ztk (d : Nat) (hk : hx_Tk m T) {k w : Nat} (hkm : k ≤ m) {μ : hs_M} (h : hx_zr m T k w μ) {c : Int32} (hc : c ≠ -1) (z : ¬ T k = c) : hc_M_takes (d + 2) c μ = some (some (vI 0), hs_wI μ 12 0 14 (nI k)) := by
  rw [hx_takes d hk h.1 hkm h.2.1 hc, if_neg z, decide_eq_false z]
  rfl
theorem hx_ztk1 (d : Nat) (hk : hx_Tk m T) {k w : Nat} (hkm : k ≤ m) {μ : hs_M} (h : hx_zr m T k w μ) {c : Int32} (hc : c ≠ -1) (z : T k = c) : hc_M_takes (d + 2) c μ = some (some (vI 1), hs_wI μ 12 0 14 (nI (k + 1))) := by
  rw [hx_takes d hk h.1 hkm h.2.1 hc, if_pos z, decide_eq_true z]
  rfl
/-- a number -/
theorem hx_zbA (hk : hx_Tk m T) (h40 : m ≤ 40) {n k : Nat} (hkm : k ≤ m) (h45 : ¬ T k = 45) (c : hx_rg 48 57 (T k) = true) : hx_zP m T n k := by
  have c' := hx_dlt' hk c
  have z40 : ¬ T k = 40 := fun y => by
    rw [y] at c
    exact absurd c (by decide)
  have hN : k + 1 ≤ (hx_nm T 3 k 0).2 ∧ (hx_nm T 3 k 0).2 ≤ m := by
    rw [hx_nmS, if_pos c]
    exact hx_nmp hk 2 (k + 1) _ (by omega)
  have hV := hx_nmb (T := T) 3 k 0 1 (by omega)
  have v1 : nI (hx_nm T 3 k 0).1 < (1000 : Int32) := nI_lt (b := 1000) (by omega) (by omega)
  have v2 : nI (hx_nm T 3 k 0).1 < (2000 : Int32) := nI_lt (b := 2000) (by omega) (by omega)
  have v3 : ¬ nI (hx_nm T 3 k 0).1 = (3000 : Int32) := fun y => by
    have := (nI_eq (b := 3000) (by omega) (by omega)).mp y
    omega
  refine ⟨true, (hx_nm T 3 k 0).2, [nI (hx_nm T 3 k 0).1], [nI (hx_nm T 3 k 0).1], ⟨by omega, by omega, by show 1 ≤ _; omega, by show 1 ≤ _; omega, fun x hx => ?_⟩, fun _ => ⟨fun _ => nI (hx_nm T 3 k 0).1, fun f st => ⟨?_, ?_⟩⟩, ?_, ?_⟩
  · rw [List.mem_singleton] at hx
    rw [hx]
    exact Or.inl v1
  · rw [hx_rL1]
    unfold hx_tC
    rw [if_pos v2, if_pos v1]
  · rw [hx_rL1]
    unfold hx_tR
    rw [if_neg v3, if_pos v2, if_pos v1]
  · intro e w b μ he hw hz
    obtain ⟨e', rfl⟩ : ∃ e', e = e' + 3 := ⟨e - 3, by unfold hx_zD at he; omega⟩
    obtain ⟨μ1, a1, a2⟩ := hx_znC e' hk (w := w) 3 0 k 0 μ rfl hz hkm
    obtain ⟨μ2, b1, b2⟩ := hx_zCe (e' + 1) (w := w) (by omega) a2.2.1 (nI (hx_nm T 3 k 0).1)
    refine ⟨μ2, ?_, hx_zCa a2 b2⟩
    rw [hq_Will_readThing_51, hz.2.1, hx_sAt (e' + 2) hk hz.1 (by omega), hx_bI, if_neg z40, hx_if2]
    show (if hx_rg 48 57 (T k) = true then _ else _) = _
    rw [if_pos c, hq_Will_readNumber, show he_Will_readNumber_4 (e' + 2) 0 0 μ = _ from a1, hq_Will_readNumber_51, show hc_Will_emit (e' + 2) (nI (hx_nm T 3 k 0).1) μ1 = _ from b1, hx_bV, hx_bV]
    rfl
  · intro e w μ he hw hz hn
    obtain ⟨e', rfl⟩ : ∃ e', e = e' + 4 := ⟨e - 4, by unfold hx_zE at he; omega⟩
    have m0 := hx_zRm hz k true
    obtain ⟨μ1, n1, n2, n3⟩ := hx_numR e' hk (n := 3) (by omega) m0.2.1.1 hkm m0.2.1.2.1
    have r1 : hx_zRt m T w (hs_wI μ 12 0 14 (nI k)) true (hx_nm T 3 k 0).2 [] μ1 := ⟨hx_mo (fun κ b i z => by unfold hx_zB; omega) n2, ⟨hx_TRf n2 (fun i => by omega) m0.2.1.1, n3, (n2.1 12 0 25 (by omega)).trans m0.2.1.2.2⟩, hx_zl0 _ _ _, fun _ => n2.1 12 0 16 (by omega)⟩
    obtain ⟨μ2, b1, b2⟩ := hx_zRe (e' + 2) (w := w) (by omega) r1.2.1 (nI (hx_nm T 3 k 0).1) true
    refine ⟨μ2, ?_, hx_zRa (o := true) (hx_zRa (o := true) m0 r1 (fun _ => ⟨rfl, rfl⟩)) b2 (fun _ => ⟨rfl, rfl⟩)⟩
    rw [hq_M_readsThing, show hc_M_takes (e' + 3) 45 μ = _ from hx_ztk (e' + 1) hk hkm hz (by decide) h45, hx_bI, if_pos rfl, hx_isD (e' + 1) hk m0.2.1.1 hkm m0.2.1.2.1, hx_bI, hx_tn0, if_pos c, show hc_M_number (e' + 3) 3 (hs_wI μ 12 0 14 (nI k)) = _ from n1, hx_bI, show hc_M_codes (e' + 3) (nI (hx_nm T 3 k 0).1) μ1 = _ from b1, hx_bV, hx_rz1]
    rfl
/-- a fact -/
theorem hx_zbB (hk : hx_Tk m T) (h40 : m ≤ 40) {n k : Nat} (hkm : k ≤ m) (h45 : ¬ T k = 45) {a : Nat} (n0 : ¬ hx_a2 (T k) < 0) (yf : hx_zf (T k) = true) (c' : k < m) (c : hx_rg 48 57 (T k) = false) (z40 : ¬ T k = 40) (ha : a ≤ 8) (ea : 1000 + hx_a2 (T k) = nI (1000 + a)) (sC : ∀ f st, hx_tC f (1000 + T k) st = some (f a :: st)) (sR : ∀ f st, hx_tR f (nI (1000 + a)) st = some (f a :: st)) : hx_zP m T n k := by
  refine ⟨true, k + 1, [1000 + T k], [nI (1000 + a)], ⟨by omega, by omega, by show 1 ≤ _; omega, by show 1 ≤ _; omega, fun x hx => ?_⟩, fun _ => ⟨fun f => f a, fun f st => ⟨by rw [hx_rL1, sC], by rw [hx_rL1, sR]⟩⟩, ?_, ?_⟩
  · rw [List.mem_singleton] at hx
    rw [hx]
    exact Or.inr (Or.inl ⟨a, ha, rfl⟩)
  · intro e w b μ he hw hz
    obtain ⟨e', rfl⟩ : ∃ e', e = e' + 3 := ⟨e - 3, by unfold hx_zD at he; omega⟩
    obtain ⟨μ1, a1, a2⟩ := hx_zCe (e' + 2) (w := w) (by omega) hz (1000 + T k)
    have b2 := hx_zCm a2.2.1 (k + 1)
    refine ⟨hs_wI μ1 10 0 5 (nI (k + 1)), ?_, hx_zCa a2 b2⟩
    rw [hq_Will_readThing_51, hz.2.1, hx_sAt (e' + 2) hk hz.1 (by omega), hx_bI, if_neg z40, hx_if2]
    show (if hx_rg 48 57 (T k) = true then _ else _) = _
    rw [c, if_neg (by decide), hq_Will_readThing_117, hx_zis, hx_bI, hx_tn0, if_pos yf, show hc_Will_emit (e' + 3) (1000 + T k) μ = _ from a1, hx_bV, a2.2.1.2.1, nI_1]
    rfl
  · intro e w μ he hw hz hn
    obtain ⟨e', rfl⟩ : ∃ e', e = e' + 4 := ⟨e - 4, by unfold hx_zE at he; omega⟩
    have m0 := hx_zRm hz k true
    have m1 := hx_zRm m0.2.1 (k + 1) true
    obtain ⟨μ2, b1, b2⟩ := hx_zRe (e' + 2) (w := w) (by omega) m1.2.1 (nI (1000 + a)) true
    refine ⟨μ2, ?_, hx_zRa (o := true) (hx_zRa (o := true) m0 m1 (fun _ => ⟨rfl, rfl⟩)) b2 (fun _ => ⟨rfl, rfl⟩)⟩
    rw [hq_M_readsThing, show hc_M_takes (e' + 3) 45 μ = _ from hx_ztk (e' + 1) hk hkm hz (by decide) h45, hx_bI, if_pos rfl, hx_isD (e' + 1) hk m0.2.1.1 hkm m0.2.1.2.1, hx_bI, hx_tn0, c, if_neg (by decide), hx_am2 (e' + 2) hk m0.2.1.1 hkm m0.2.1.2.1, hx_bI, if_neg n0, m0.2.1.2.1, nI_1, ea, show hc_M_codes (e' + 3) (nI (1000 + a)) (hs_wI (hs_wI μ 12 0 14 (nI k)) 12 0 14 (nI (k + 1))) = _ from b1, hx_bV, hx_rz1]
    rfl
/-- nothing that is a thing -/
theorem hx_zbD (hk : hx_Tk m T) {n k : Nat} (hn : n ≤ 4) (hkm : k ≤ m) (h45 : ¬ T k = 45) (n0 : hx_a2 (T k) < 0) (nf : hx_zf (T k) = false) (c : hx_rg 48 57 (T k) = false) (z : ¬ (T k = 40 ∧ n < 4)) : hx_zP m T n k := by
  have h80 := hk.1
  refine ⟨false, k, [], [], ⟨by omega, by omega, by show 0 ≤ _; omega, by show 0 ≤ _; omega, fun x hx => absurd hx (List.not_mem_nil)⟩, fun z => absurd z (by decide), ?_, ?_⟩
  · intro e w b μ he hw hz
    obtain ⟨e', rfl⟩ : ∃ e', e = e' + 3 := ⟨e - 3, by unfold hx_zD at he; omega⟩
    refine ⟨μ, ?_, hx_zC0 hz⟩
    rw [hq_Will_readThing_51, hz.2.1, hx_sAt (e' + 2) hk hz.1 (by omega), hx_bI]
    by_cases y : T k = 40
    · have n4 : ¬ n < 4 := fun q => z ⟨y, q⟩
      rw [if_pos y, if_neg (show ¬ nI n < (4 : Int32) from nI_nlt (b := 4) (by omega) (by omega)), hq_Will_readThing_89]
      rfl
    · rw [if_neg y, hx_if2]
      show (if hx_rg 48 57 (T k) = true then _ else _) = _
      rw [c, if_neg (by decide), hq_Will_readThing_117, hx_zis, hx_bI, hx_tn0, nf, if_neg (by decide)]
      rfl
  · intro e w μ he hw hz hn'
    obtain ⟨e', rfl⟩ : ∃ e', e = e' + 4 := ⟨e - 4, by unfold hx_zE at he; omega⟩
    have m0 := hx_zRm hz k true
    have e0 : (hs_wI μ 12 0 14 (nI k)).1 12 0 16 = nI n := by rw [hx_rd, if_neg (by omega), hn']
    have start : ∀ X, hc_M_readsThing (e' + 4) μ = X ↔ (if (nI n : Int32) = 4 then he_M_readsThing_90 (e' + 3) (hs_wI μ 12 0 14 (nI k)) else hs_bI (hc_M_takes (e' + 3) 40 (hs_wI μ 12 0 14 (nI k))) (fun r4 μ4 => if r4 = 0 then he_M_readsThing_90 (e' + 3) μ4 else hs_bI (hc_M_readsRank (e' + 3) 0 (hs_wI μ4 12 0 16 (μ4.1 12 0 16 + 1))) (fun r5 μ5 => if r5 = 0 then he_M_readsThing_119 (e' + 3) μ5 else hs_bI (hc_M_takes (e' + 3) 41 μ5) (fun r6 μ6 => if r6 = 0 then he_M_readsThing_119 (e' + 3) μ6 else hs_rz 1 (hs_wI μ6 12 0 16 (μ6.1 12 0 16 - 1)))))) = X := fun X => by
      rw [hq_M_readsThing, show hc_M_takes (e' + 3) 45 μ = _ from hx_ztk (e' + 1) hk hkm hz (by decide) h45, hx_bI, if_pos rfl, hx_isD (e' + 1) hk m0.2.1.1 hkm m0.2.1.2.1, hx_bI, hx_tn0, c, if_neg (show ¬ false = true by decide), hx_am2 (e' + 2) hk m0.2.1.1 hkm m0.2.1.2.1, hx_bI, if_pos n0, e0]
    by_cases y : T k = 40
    · have n4 : ¬ n < 4 := fun q => z ⟨y, q⟩
      refine ⟨_, (start _).mpr ?_, m0.1, m0.2.1, m0.2.2.1, fun z => absurd z (by decide)⟩
      rw [if_pos (show nI n = (4 : Int32) from congrArg nI (show n = 4 by omega)), hq_M_readsThing_90, hx_rz0]
      rfl
    · have m1 := hx_zRm m0.2.1 k true
      have m2 := hx_zRa (o := false) m0 m1 (fun _ => ⟨rfl, rfl⟩)
      by_cases n4 : n = 4
      · refine ⟨_, (start _).mpr ?_, m0.1, m0.2.1, m0.2.2.1, fun z => absurd z (by decide)⟩
        rw [if_pos (show nI n = (4 : Int32) from congrArg nI n4), hq_M_readsThing_90, hx_rz0]
        rfl
      · refine ⟨_, (start _).mpr ?_, m2⟩
        rw [if_neg (show ¬ nI n = (4 : Int32) from fun y => n4 ((nI_eq (b := 4) (by omega) (by omega)).mp y)), hx_ztk (e' + 1) hk hkm m0.2.1 (by decide) y, hx_bI, if_pos rfl, hq_M_readsThing_90, hx_rz0]
        rfl
/-- a bracket -/
theorem hx_zbC (hk : hx_Tk m T) (h40 : m ≤ 40) {n k : Nat} (hn : n < 4) (hkm : k ≤ m) (y : T k = 40) (ih : hx_zM m T 0 (n + 1) (k + 1)) : hx_zP m T n k := by
  have h45 : ¬ T k = 45 := by rw [y]; decide
  have c' := hx_dlt hk (show (40 : Int32) ≠ -1 by decide) y
  obtain ⟨ok, k1, LC, LR, ⟨b1, b2, b3, b4, b5⟩, hs, hC, hR⟩ := ih
  have startC : ∀ e w b μ, hx_zD n 3 ≤ e + 2 → w ≤ k → hx_zc m T k w μ → ∃ e', e = e' + 3 ∧ ∃ μ1, hx_zCt m T w μ k1 LC μ1 ∧ he_Will_readThing_51 e (nI n) (hx_tn b) μ = hs_bI (if hx_tn ok = 0 then he_Will_readBracket_34 (e' + 2) μ1 else (if T k1 = 41 then hs_rz 1 (hs_wI μ1 10 0 5 (nI (k1 + 1))) else he_Will_readBracket_34 (e' + 2) μ1)) (fun r2 μ2 => if r2 = 0 then he_Will_readThing_89 e (hx_tn b) μ2 else he_Will_readThing_151 e (hx_tn b) 1 μ2) := by
    intro e w b μ he hw hz
    obtain ⟨e', rfl⟩ : ∃ e', e = e' + 3 := ⟨e - 3, by unfold hx_zD at he; omega⟩
    have m0 := hx_zCm hz (k + 1)
    obtain ⟨μ1, a1, a2⟩ := hC (e' + 2) w _ (by unfold hx_zD at *; omega) (by omega) m0.2.1
    refine ⟨e', rfl, μ1, hx_zCa m0 a2, ?_⟩
    rw [hq_Will_readThing_51, hz.2.1, hx_sAt (e' + 2) hk hz.1 (by omega), hx_bI, if_pos y, if_pos (show nI n < (4 : Int32) from nI_lt (b := 4) (by omega) (by omega)), hq_Will_readBracket, hz.2.1, nI_1, nI_1, show hc_Will_readComparison (e' + 2) (nI (n + 1)) (hs_wI μ 10 0 5 (nI (k + 1))) = _ from (hx_rv0 _ _ _).symm.trans a1, hx_bI, a2.2.1.2.1, hx_sAt (e' + 1) hk a2.2.1.1 (by omega), hx_bI, a2.2.1.2.1, nI_1]
  have startR : ∀ e w μ, hx_zE m n 3 k ≤ e + 1 → w ≤ k → hx_zr m T k w μ → μ.1 12 0 16 = nI n → ∃ e', e = e' + 4 ∧ ∃ μ1, hx_zRt m T w μ false k1 LR μ1 ∧ (ok = true → μ1.1 12 0 16 = nI (n + 1)) ∧ hc_M_readsThing e μ = (if hx_tn ok = 0 then he_M_readsThing_119 (e' + 3) μ1 else hs_bI (hc_M_takes (e' + 3) 41 μ1) (fun r6 μ6 => if r6 = 0 then he_M_readsThing_119 (e' + 3) μ6 else hs_rz 1 (hs_wI μ6 12 0 16 (μ6.1 12 0 16 - 1)))) := by
    intro e w μ he hw hz hn'
    obtain ⟨e', rfl⟩ : ∃ e', e = e' + 4 := ⟨e - 4, by unfold hx_zE at he; omega⟩
    have m0 := hx_zRm hz k true
    have m1 := hx_zRm m0.2.1 (k + 1) true
    have m2 := hx_zRn m1.2.1 (nI (n + 1))
    obtain ⟨μ1, a1, a2⟩ := hR (e' + 3) w _ (by unfold hx_zE at *; omega) (by omega) m2.2.1 (by rw [hx_rd, if_pos ⟨rfl, rfl, rfl⟩])
    refine ⟨e', rfl, μ1, hx_zRa (o1 := false) (o2 := ok) (hx_zRa (o := false) (hx_zRa (o := false) m0 m1 (fun _ => ⟨rfl, rfl⟩)) m2 (fun z => absurd z (by decide))) a2 (fun z => absurd z (by decide)), fun o => by rw [a2.2.2.2 o, hx_rd, if_pos ⟨rfl, rfl, rfl⟩], ?_⟩
    have e1 : ((hs_wI (hs_wI μ 12 0 14 (nI k)) 12 0 14 (nI (k + 1))).1 12 0 16) = nI n := by rw [hx_rd, if_neg (by omega), hx_rd, if_neg (by omega), hn']
    have e0 : (hs_wI μ 12 0 14 (nI k)).1 12 0 16 = nI n := by rw [hx_rd, if_neg (by omega), hn']
    rw [hq_M_readsThing, show hc_M_takes (e' + 3) 45 μ = _ from hx_ztk (e' + 1) hk hkm hz (by decide) h45, hx_bI, if_pos rfl, hx_isD (e' + 1) hk m0.2.1.1 hkm m0.2.1.2.1, hx_bI, hx_tn0, y, if_neg (show ¬ hx_rg 48 57 40 = true by decide), hx_am2 (e' + 2) hk m0.2.1.1 hkm m0.2.1.2.1, hx_bI, y, if_pos (show hx_a2 40 < 0 by decide), e0, if_neg (show ¬ nI n = (4 : Int32) from fun y => absurd ((nI_eq (b := 4) (by omega) (by omega)).mp y) (by omega)), show hc_M_takes (e' + 3) 40 (hs_wI μ 12 0 14 (nI k)) = _ from hx_ztk1 (e' + 1) hk hkm m0.2.1 (by decide) y, hx_bI, if_neg (by decide), e1, nI_1, show hc_M_readsRank (e' + 3) 0 (hs_wI (hs_wI (hs_wI μ 12 0 14 (nI k)) 12 0 14 (nI (k + 1))) 12 0 16 (nI (n + 1))) = _ from a1, hx_bI]
  by_cases g : ok = true ∧ T k1 = 41
  · have c1 := hx_dlt hk (show (41 : Int32) ≠ -1 by decide) g.2
    refine ⟨true, k1 + 1, LC, LR, ⟨by omega, by omega, by omega, by omega, b5⟩, fun _ => hs g.1, ?_, ?_⟩
    · intro e w b μ he hw hz
      obtain ⟨e', rfl, μ1, a1, a2⟩ := startC e w b μ he hw hz
      have m1 := hx_zCm a1.2.1 (k1 + 1)
      have m2 := hx_zCa a1 m1
      rw [List.append_nil] at m2
      refine ⟨_, ?_, m2⟩
      rw [a2, hx_tn0, if_pos g.1, if_pos g.2, hx_rz1, hx_bI, if_neg (by decide)]
      rfl
    · intro e w μ he hw hz hn'
      obtain ⟨e', rfl, μ1, a1, a3, a2⟩ := startR e w μ he hw hz hn'
      have m1 := hx_zRm a1.2.1 (k1 + 1) true
      have m12 := hx_zRa (o := false) a1 m1 (fun z => absurd z (by decide))
      rw [List.append_nil] at m12
      have m3 := hx_zRn m12.2.1 (nI n)
      have m2 := hx_zRa (o := false) m12 m3 (fun z => absurd z (by decide))
      rw [List.append_nil] at m2
      refine ⟨_, ?_, m2.1, m2.2.1, m2.2.2.1, fun _ => by rw [hx_rd, if_pos ⟨rfl, rfl, rfl⟩, hn']⟩
      rw [a2, hx_tn0, if_pos g.1, hx_ztk1 (e' + 1) hk b2 a1.2.1 (by decide) g.2, hx_bI, if_neg (by decide), hx_rd, if_neg (by omega), a3 g.1, nI_pred, hx_rz1]
      rfl
  · refine ⟨false, k1, LC, LR, ⟨by omega, by omega, by omega, by omega, b5⟩, fun z => absurd z (by decide), ?_, ?_⟩
    · intro e w b μ he hw hz
      obtain ⟨e', rfl, μ1, a1, a2⟩ := startC e w b μ he hw hz
      refine ⟨μ1, ?_, a1⟩
      rw [a2, hx_tn0]
      by_cases o : ok = true
      · rw [if_pos o, if_neg (fun q => g ⟨o, q⟩), hq_Will_readBracket_34, hx_rz0, hx_bI, if_pos rfl, hq_Will_readThing_89]
        rfl
      · rw [if_neg o, hq_Will_readBracket_34, hx_rz0, hx_bI, if_pos rfl, hq_Will_readThing_89]
        rfl
    · intro e w μ he hw hz hn'
      obtain ⟨e', rfl, μ1, a1, a3, a2⟩ := startR e w μ he hw hz hn'
      rw [a2, hx_tn0]
      by_cases o : ok = true
      · have m1 := hx_zRm a1.2.1 k1 true
        have m2 := hx_zRa (o := false) a1 m1 (fun z => absurd z (by decide))
        rw [List.append_nil] at m2
        refine ⟨_, ?_, m2⟩
        rw [if_pos o, hx_ztk (e' + 1) hk b2 a1.2.1 (by decide) (fun q => g ⟨o, q⟩), hx_bI, if_pos rfl, hq_M_readsThing_119, hx_rz0]
        rfl
      · refine ⟨μ1, ?_, a1⟩
        rw [if_neg o, hq_M_readsThing_119, hx_rz0]
        rfl
theorem hx_zbase (hk : hx_Tk m T) (h40 : m ≤ 40) {n k : Nat} (hn : n ≤ 4) (hkm : k ≤ m) (h45 : ¬ T k = 45) (ih : n < 4 → k < m → hx_zM m T 0 (n + 1) (k + 1)) : hx_zP m T n k := by
  by_cases c : hx_rg 48 57 (T k) = true
  · exact hx_zbA hk h40 hkm h45 c
  rcases hx_zfac hk k with ⟨a1, a2⟩ | ⟨a1, a2, a3, a4, a5, a, a6, a7, a8, a9⟩
  · by_cases y : T k = 40 ∧ n < 4
    · exact hx_zbC hk h40 y.2 hkm y.1 (ih y.2 (hx_dlt hk (show (40 : Int32) ≠ -1 by decide) y.1))
    · exact hx_zbD hk hn hkm h45 a1 a2 (Bool.eq_false_iff.mpr c) y
  · exact hx_zbB hk h40 hkm h45 a1 a2 a3 a4 a5 a6 a7 a8 a9
end
