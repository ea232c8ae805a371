/-! ===== E: will, levels ===== -/
def hx_zp : Nat → Bool → Bool
  | 0, b => b
  | q + 1, b => hx_zp q (!b)
def hx_zg (b : Bool) (x : Int32) : Int32 := if b = true then -x else x
theorem hx_zgn (b : Bool) (x : Int32) : -(hx_zg b x) = hx_zg (!b) x := by
  cases b
  · rfl
  · show -(-x) = x
    exact Int32.neg_neg
theorem hx_zgr (f : Nat → Int32) (x : Int32) (st : List Int32) : ∀ (q : Nat) (b : Bool), hx_rL (hx_tR f) (List.replicate q 3000) (hx_zg b x :: st) = some (hx_zg (hx_zp q b) x :: st)
  | 0, b => rfl
  | q + 1, b => by
    rw [List.replicate_succ, hx_rLc, show hx_tR f 3000 (hx_zg b x :: st) = some (-(hx_zg b x) :: st) from if_pos rfl, hx_zgn]
    exact hx_zgr f x st q (!b)
/-- what stands behind a level's first part -/
noncomputable def hx_zlp (e lv : Nat) (x g : Int32) (j : Nat) (μ : hs_M) : Option (Option hs_V × hs_M) := if lv = 0 then (if j = 0 then hs_bI (hc_Text_signAt e (μ.1 10 0 5) μ) (fun r2 μ2 => (if g = 0 then he_Will_readComparison_69 e g μ2 else (if r2 = (60 : Int32) then he_Will_readComparison_42 e x r2 μ2 else (if r2 = (62 : Int32) then he_Will_readComparison_42 e x r2 μ2 else (if r2 = (61 : Int32) then he_Will_readComparison_42 e x r2 μ2 else he_Will_readComparison_69 e g μ2))))) else he_Will_readComparison_69 e g μ) else if lv = 1 then he_Will_readSum_10 e x g (nI j) μ else he_Will_readProduct_10 e x g (nI j) μ
theorem hx_zlp0a (e : Nat) (x g : Int32) (μ : hs_M) : hx_zlp e 0 x g 0 μ = hs_bI (hc_Text_signAt e (μ.1 10 0 5) μ) (fun r2 μ2 => (if g = 0 then he_Will_readComparison_69 e g μ2 else (if r2 = (60 : Int32) then he_Will_readComparison_42 e x r2 μ2 else (if r2 = (62 : Int32) then he_Will_readComparison_42 e x r2 μ2 else (if r2 = (61 : Int32) then he_Will_readComparison_42 e x r2 μ2 else he_Will_readComparison_69 e g μ2))))) := by
  unfold hx_zlp
  rw [if_pos rfl, if_pos rfl]
theorem hx_zlp0b (e : Nat) (x g : Int32) (j : Nat) (μ : hs_M) : hx_zlp e 0 x g (j + 1) μ = he_Will_readComparison_69 e g μ := by
  unfold hx_zlp
  rw [if_pos rfl, if_neg (Nat.succ_ne_zero j)]
theorem hx_zlp1 (e : Nat) (x g : Int32) (j : Nat) (μ : hs_M) : hx_zlp e 1 x g j μ = he_Will_readSum_10 e x g (nI j) μ := by
  unfold hx_zlp
  rw [if_neg (by decide), if_pos rfl]
theorem hx_zlp2 (e : Nat) (x g : Int32) (j : Nat) (μ : hs_M) : hx_zlp e 2 x g j μ = he_Will_readProduct_10 e x g (nI j) μ := by
  unfold hx_zlp
  rw [if_neg (by decide), if_neg (by decide)]
/-- a level: what binds more, then what stands behind it -/
theorem hx_rvS (e : Nat) {lv : Nat} (hl : lv < 3) (x : Int32) (μ : hs_M) : hx_rv (e + 1) lv x μ = hs_bI (hx_rv e (lv + 1) x μ) (fun r μ1 => hx_zlp e lv x r 0 μ1) := by
  have c : lv = 0 ∨ lv = 1 ∨ lv = 2 := by omega
  rcases c with rfl | rfl | rfl
  · rw [hx_rv0, hq_Will_readComparison, show hx_rv e (0 + 1) x μ = hc_Will_readSum e x μ from hx_rv1 e x μ]
    exact congrArg (hs_bI _) (funext fun r => funext fun μ1 => (hx_zlp0a e x r μ1).symm)
  · rw [hx_rv1, hq_Will_readSum, show hx_rv e (1 + 1) x μ = hc_Will_readProduct e x μ from hx_rv2 e x μ]
    exact congrArg (hs_bI _) (funext fun r => funext fun μ1 => (hx_zlp1 e x r 0 μ1).symm)
  · rw [hx_rv2, hq_Will_readProduct, show hx_rv e (2 + 1) x μ = hc_Will_readThing e x μ from hx_rv3 e x μ]
    exact congrArg (hs_bI _) (funext fun r => funext fun μ1 => (hx_zlp2 e x r 0 μ1).symm)
def hx_zN (m : Nat) (T : Nat → Int32) (lv n k : Nat) : Prop := ∃ ok k' LC LR, hx_zb m k k' LC LR ∧ hx_zT ok LC LR ∧ (∀ e w j μ, hx_zD n (lv + 1) ≤ e → w ≤ k → (lv = 0 → j = 0) → j ≤ k → hx_zc m T k w μ → ∃ μ', hx_zlp e lv (nI n) 1 j μ = some (some (vI (hx_tn ok)), μ') ∧ hx_zCt m T w μ k' LC μ') ∧ ∀ e w μ, hx_zE m n (lv + 1) k ≤ e → w ≤ k → hx_zr m T k w μ → μ.1 12 0 16 = nI n → ∃ μ', he_M_readsRank_24 e (nI lv) 1 μ = some (some (vI (hx_tn ok)), μ') ∧ hx_zRt m T w μ ok k' LR μ'
section
variable {m : Nat} {T : Nat → Int32}
theorem hx_zmin (hk : hx_Tk m T) : ∀ (g k : Nat), m - k ≤ g → k ≤ m → ∃ q, k + q ≤ m ∧ (∀ i, i < q → T (k + i) = 45) ∧ ¬ T (k + q) = 45
  | 0, k, hg, hkm => ⟨0, by omega, fun i hi => absurd hi (by omega), by
      rw [hk.2.2 (k + 0) (by omega)]
      decide⟩
  | g + 1, k, hg, hkm => by
    by_cases c : T k = 45
    · have := hx_dlt hk (show (45 : Int32) ≠ -1 by decide) c
      obtain ⟨q, a, b, e⟩ := hx_zmin hk g (k + 1) (by omega) (by omega)
      refine ⟨q + 1, by omega, fun i hi => ?_, by rw [show k + (q + 1) = k + 1 + q by omega]; exact e⟩
      rcases i with _ | i
      · exact c
      · rw [show k + (i + 1) = k + 1 + i by omega]
        exact b i (by omega)
    · exact ⟨0, by omega, fun i hi => absurd hi (by omega), c⟩
theorem hx_zmC (e : Nat) (hk : hx_Tk m T) (h40 : m ≤ 40) (n : Nat) {w : Nat} : ∀ (q j k : Nat) (b : Bool) (μ : hs_M), k + q ≤ m → j ≤ k → (∀ i, i < q → T (k + i) = 45) → ¬ T (k + q) = 45 → hx_zc m T k w μ → ∃ μ', he_Will_readThing_5 (e + 1) (nI n) (hx_tn b) (nI j) μ = he_Will_readThing_51 (e + 1) (nI n) (hx_tn (hx_zp q b)) μ' ∧ hx_zCt m T w μ (k + q) [] μ'
  | 0, j, k, b, μ, hkm, hj, h1, h2, hz => by
    refine ⟨μ, ?_, hx_zC0 hz⟩
    rw [hq_Will_readThing_5]
    by_cases c : nI j < (40 : Int32)
    · rw [if_pos c, hz.2.1, hx_sAt e hk hz.1 (by omega), hx_bI, if_neg (show ¬ T k = 45 from h2)]
      rfl
    · rw [if_neg c]
      rfl
  | q + 1, j, k, b, μ, hkm, hj, h1, h2, hz => by
    have m0 := hx_zCm hz (k + 1)
    obtain ⟨μ', a1, a2⟩ := hx_zmC e hk h40 n q (j + 1) (k + 1) (!b) (hs_wI μ 10 0 5 (nI (k + 1))) (by omega) (by omega) (fun i hi => by rw [show k + 1 + i = k + (i + 1) by omega]; exact h1 (i + 1) (by omega)) (by rw [show k + 1 + q = k + (q + 1) by omega]; exact h2) m0.2.1
    rw [show k + 1 + q = k + (q + 1) by omega] at a2
    refine ⟨μ', ?_, hx_zCa m0 a2⟩
    rw [hq_Will_readThing_5, if_pos (show nI j < (40 : Int32) from nI_lt (b := 40) (by omega) (by omega)), hz.2.1, hx_sAt e hk hz.1 (by omega), hx_bI, if_pos (show T k = 45 from h1 0 (by omega)), hz.2.1, nI_1, nI_1, hx_tn0]
    refine Eq.trans ?_ a1
    cases b
    · rfl
    · rfl
theorem hx_zmR (hk : hx_Tk m T) (h40 : m ≤ 40) {n k1 k' X : Nat} {ok : Bool} {LR : List Int32} (hX : 4 ≤ X) (hb : k1 ≤ k' ∧ k' ≤ m ∧ LR.length ≤ k' - k1) (B : ∀ e w μ, X ≤ e → w ≤ k1 → hx_zr m T k1 w μ → μ.1 12 0 16 = nI n → ∃ μ', hc_M_readsThing e μ = some (some (vI (hx_tn ok)), μ') ∧ hx_zRt m T w μ ok k' LR μ') : ∀ (q k : Nat), k + q = k1 → (∀ i, i < q → T (k + i) = 45) → ∀ e w μ, X + q ≤ e → w ≤ k → hx_zr m T k w μ → μ.1 12 0 16 = nI n → ∃ μ', hc_M_readsThing e μ = some (some (vI (hx_tn ok)), μ') ∧ hx_zRt m T w μ ok k' (LR ++ List.replicate q 3000) μ'
  | 0, k, hq, h1, e, w, μ, he, hw, hz, hn => by
    rw [List.replicate_zero, List.append_nil]
    have hq : k = k1 := hq
    subst hq
    exact B e w μ he hw hz hn
  | q + 1, k, hq, h1, e, w, μ, he, hw, hz, hn => by
    obtain ⟨e', rfl⟩ : ∃ e', e = e' + 4 := ⟨e - 4, by omega⟩
    have m0 := hx_zRm hz (k + 1) true
    obtain ⟨μ1, a1, a2⟩ := hx_zmR hk h40 hX hb B q (k + 1) (by omega) (fun i hi => by rw [show k + 1 + i = k + (i + 1) by omega]; exact h1 (i + 1) (by omega)) (e' + 3) w (hs_wI μ 12 0 14 (nI (k + 1))) (by omega) (by omega) m0.2.1 (by rw [hx_rd, if_neg (by omega), hn])
    have a3 := hx_zRa (o := ok) m0 a2 (fun o => ⟨rfl, o⟩)
    rw [List.nil_append] at a3
    obtain ⟨μ2, b1, b2⟩ := hx_zRe (e' + 2) (w := w + (LR ++ List.replicate q (3000 : Int32)).length) (by rw [List.length_append, List.length_replicate]; omega) a3.2.1 3000 ok
    have a4 := hx_zRa (o := ok) a3 b2 (fun o => ⟨o, o⟩)
    rw [List.append_assoc, ← List.replicate_succ'] at a4
    refine ⟨μ2, ?_, a4⟩
    rw [hq_M_readsThing, show hc_M_takes (e' + 3) 45 μ = _ from hx_ztk1 (e' + 1) hk (by omega) hz (by decide) (h1 0 (by omega)), hx_bI, if_neg (by decide), a1, hx_bI, show hc_M_codes (e' + 3) 3000 μ1 = _ from b1, hx_bV, hx_tnz]
/-- a thing with its minus signs -/
theorem hx_zlev3 (hk : hx_Tk m T) (h40 : m ≤ 40) {n k : Nat} (hn : n ≤ 4) (hkm : k ≤ m) (H : ∀ k2, k < k2 → k2 ≤ m → n < 4 → hx_zM m T 0 (n + 1) k2) : hx_zM m T 3 n k := by
  obtain ⟨q, q1, q2, q3⟩ := hx_zmin hk m k (by omega) hkm
  obtain ⟨ok, k', LC, LR, ⟨b1, b2, b3, b4, b5⟩, hs, hC, hR⟩ := hx_zbase hk h40 hn (k := k + q) q1 q3 (fun n4 c => H (k + q + 1) (by omega) (by omega) n4)
  have pq : hx_zp q false = true → 0 < q := fun z => by
    rcases q with _ | q
    · exact absurd z (by decide)
    · omega
  have lC : (if hx_zp q false = true then [(3000 : Int32)] else []).length ≤ q := by
    by_cases z : hx_zp q false = true
    · rw [if_pos z]
      exact pq z
    · rw [if_neg z]
      exact Nat.zero_le q
  refine ⟨ok, k', LC ++ (if hx_zp q false = true then [3000] else []), LR ++ List.replicate q 3000, ⟨by omega, b2, by rw [List.length_append]; omega, by rw [List.length_append, List.length_replicate]; omega, fun c hc => ?_⟩, fun o => ?_, ?_, ?_⟩
  · rcases List.mem_append.mp hc with z | z
    · exact b5 c z
    · exact Or.inr (Or.inr (Or.inr (List.eq_of_mem_replicate z)))
  · obtain ⟨v, hv⟩ := hs o
    refine ⟨fun f => hx_zg (hx_zp q false) (v f), fun f st => ⟨?_, ?_⟩⟩
    · rw [hx_rLa, (hv f st).1]
      by_cases z : hx_zp q false = true
      · rw [if_pos z, z]
        show hx_rL (hx_tC f) [3000] (v f :: st) = some (-(v f) :: st)
        rw [hx_rL1]
        rfl
      · rw [if_neg z, Bool.eq_false_iff.mpr z]
        rfl
    · rw [hx_rLa, (hv f st).2]
      exact hx_zgr f (v f) st q false
  · intro e w μ he hw hz
    obtain ⟨e', rfl⟩ : ∃ e', e = e' + 4 := ⟨e - 4, by unfold hx_zD at he; omega⟩
    obtain ⟨μ1, a1, a2⟩ := hx_zmC (e' + 2) hk h40 n (w := w) q 0 k false μ q1 (by omega) q2 q3 hz
    obtain ⟨μ2, c1, c2⟩ := hC (e' + 3) w (hx_zp q false) μ1 (by omega) (by omega) a2.2.1
    have a3 := hx_zCa a2 c2
    rw [List.nil_append] at a3
    have fin : ∀ μ3, he_Will_readThing_151 (e' + 3) (hx_tn (hx_zp q false)) (hx_tn ok) μ2 = some (some (vI (hx_tn ok)), μ3) → hx_rv (e' + 4) 3 (nI n) μ = some (some (vI (hx_tn ok)), μ3) := fun μ3 z => by
      rw [hx_rv3, hq_Will_readThing, show he_Will_readThing_5 (e' + 3) (nI n) 0 0 μ = _ from a1, c1, z]
    by_cases z : hx_zp q false = true
    · obtain ⟨μ3, d1, d2⟩ := hx_zCe (e' + 2) (w := w + LC.length) (by have := pq z; omega) a3.2.1 3000
      refine ⟨μ3, fin μ3 ?_, ?_⟩
      · rw [hq_Will_readThing_151, hx_tn0, if_pos z, show hc_Will_emit (e' + 3) 3000 μ2 = _ from d1, hx_bV, hq_Will_readThing_162, hx_tnz]
      · rw [if_pos z]
        exact hx_zCa a3 d2
    · refine ⟨μ2, fin μ2 ?_, ?_⟩
      · rw [hq_Will_readThing_151, hx_tn0, if_neg z, hq_Will_readThing_162, hx_tnz]
      · rw [if_neg z, List.append_nil]
        exact a3
  · intro e w μ he hw hz hn'
    obtain ⟨e', rfl⟩ : ∃ e', e = e' + 1 := ⟨e - 1, by unfold hx_zE at he; omega⟩
    obtain ⟨μ1, a1, a2⟩ := hx_zmR hk h40 (X := hx_zE m n 3 (k + q) - 1) (by unfold hx_zE; omega) ⟨b1, b2, b4⟩ (fun e w μ h => hR e w μ (by omega)) q k rfl q2 e' w μ (by unfold hx_zE at *; omega) hw hz hn'
    refine ⟨μ1, ?_, a2⟩
    rw [hq_M_readsRank, if_pos (by decide), a1, hx_bI, hx_tnz]
/-- behind a fault, where no act stands, where one does -/
theorem hx_zlpf (e : Nat) {lv n j : Nat} (hl : lv < 3) (h40 : m ≤ 40) (hk : hx_Tk m T) {k w : Nat} (hkm : k ≤ m) {μ : hs_M} (hz : hx_zc m T k w μ) : hx_zlp (e + 1) lv (nI n) 0 j μ = some (some (vI 0), μ) := by
  have c : lv = 0 ∨ lv = 1 ∨ lv = 2 := by omega
  rcases c with rfl | rfl | rfl
  · rcases j with _ | j
    · rw [hx_zlp0a, hz.2.1, hx_sAt e hk hz.1 (by omega), hx_bI, if_pos rfl, hq_Will_readComparison_69, hx_rz0]
    · rw [hx_zlp0b, hq_Will_readComparison_69, hx_rz0]
  · rw [hx_zlp1, hq_Will_readSum_10, hq_Will_readSum_81, hx_rz0]
    by_cases c : nI j < (40 : Int32)
    · rw [if_pos c, if_pos rfl]
    · rw [if_neg c]
  · rw [hx_zlp2, hq_Will_readProduct_10, hq_Will_readProduct_81, hx_rz0]
    by_cases c : nI j < (40 : Int32)
    · rw [if_pos c, if_pos rfl]
    · rw [if_neg c]
theorem hx_zlpn (e : Nat) {lv n j : Nat} (hl : lv < 3) (h40 : m ≤ 40) (hk : hx_Tk m T) {k w : Nat} (hkm : k ≤ m) {μ : hs_M} (hz : hx_zc m T k w μ) (ho : hx_zo (T k) ≠ nI lv) : hx_zlp (e + 1) lv (nI n) 1 j μ = some (some (vI 1), μ) := by
  have c : lv = 0 ∨ lv = 1 ∨ lv = 2 := by omega
  rcases c with rfl | rfl | rfl
  · rcases j with _ | j
    · obtain ⟨z1, z2, z3⟩ := hx_zn0 ho
      rw [hx_zlp0a, hz.2.1, hx_sAt e hk hz.1 (by omega), hx_bI, if_neg (by decide), if_neg z1, if_neg z2, if_neg z3, hq_Will_readComparison_69, hx_rz1]
    · rw [hx_zlp0b, hq_Will_readComparison_69, hx_rz1]
  · obtain ⟨z1, z2⟩ := hx_zn1 ho
    rw [hx_zlp1, hq_Will_readSum_10]
    by_cases c : nI j < (40 : Int32)
    · rw [if_pos c, if_neg (by decide), hz.2.1, hx_sAt e hk hz.1 (by omega), hx_bI, if_neg z1, if_neg z2, hq_Will_readSum_81, hx_rz1]
    · rw [if_neg c, hq_Will_readSum_81, hx_rz1]
  · obtain ⟨z1, z2⟩ := hx_zn2 ho
    rw [hx_zlp2, hq_Will_readProduct_10]
    by_cases c : nI j < (40 : Int32)
    · rw [if_pos c, if_neg (by decide), hz.2.1, hx_sAt e hk hz.1 (by omega), hx_bI, if_neg z1, if_neg z2, hq_Will_readProduct_81, hx_rz1]
    · rw [if_neg c, hq_Will_readProduct_81, hx_rz1]
theorem hx_zlpy (e : Nat) {lv n j : Nat} (hl : lv < 3) (h40 : m ≤ 40) (hk : hx_Tk m T) {k w : Nat} (hkm : k < m) (hj : lv = 0 → j = 0) (hjk : j ≤ k) {μ : hs_M} (hz : hx_zc m T k w μ) (ho : hx_zo (T k) = nI lv) : hx_zlp (e + 1) lv (nI n) 1 j μ = hs_bI (hx_rv (e + 1) (lv + 1) (nI n) (hs_wI μ 10 0 5 (nI (k + 1)))) (fun r3 μ3 => hs_bV (hc_Will_emit (e + 1) (2000 + T k) μ3) (fun μ4 => hx_zlp (e + 1) lv (nI n) r3 (j + 1) μ4)) := by
  have c : lv = 0 ∨ lv = 1 ∨ lv = 2 := by omega
  rcases c with rfl | rfl | rfl
  · have j0 := hj rfl
    subst j0
    have key : hx_zlp (e + 1) 0 (nI n) 1 0 μ = he_Will_readComparison_42 (e + 1) (nI n) (T k) μ := by
      rw [hx_zlp0a, hz.2.1, hx_sAt e hk hz.1 (by omega), hx_bI, if_neg (by decide)]
      rcases hx_zy0 ho with y | y | y
      · rw [if_pos y]
      · rw [if_neg (show ¬ T k = 60 by rw [y]; decide), if_pos y]
      · rw [if_neg (show ¬ T k = 60 by rw [y]; decide), if_neg (show ¬ T k = 62 by rw [y]; decide), if_pos y]
    rw [key, hq_Will_readComparison_42, hz.2.1, nI_1, show hx_rv (e + 1) (0 + 1) (nI n) (hs_wI μ 10 0 5 (nI (k + 1))) = _ from hx_rv1 _ _ _]
    exact congrArg (hs_bI _) (funext fun r => funext fun μ3 => congrArg (hs_bV _) (funext fun μ4 => (hx_zlp0b _ _ _ _ _).symm))
  · have key : hx_zlp (e + 1) 1 (nI n) 1 j μ = he_Will_readSum_48 (e + 1) (nI n) (nI j) (T k) μ := by
      rw [hx_zlp1, hq_Will_readSum_10, if_pos (show nI j < (40 : Int32) from nI_lt (b := 40) (by omega) (by omega)), if_neg (by decide), hz.2.1, hx_sAt e hk hz.1 (by omega), hx_bI]
      rcases hx_zy1 ho with y | y
      · rw [if_pos y]
      · rw [if_neg (show ¬ T k = 43 by rw [y]; decide), if_pos y]
    rw [key, hq_Will_readSum_48, hz.2.1, nI_1, nI_1, show hx_rv (e + 1) (1 + 1) (nI n) (hs_wI μ 10 0 5 (nI (k + 1))) = _ from hx_rv2 _ _ _]
    exact congrArg (hs_bI _) (funext fun r => funext fun μ3 => congrArg (hs_bV _) (funext fun μ4 => (hx_zlp1 _ _ _ _ _).symm))
  · have key : hx_zlp (e + 1) 2 (nI n) 1 j μ = he_Will_readProduct_48 (e + 1) (nI n) (nI j) (T k) μ := by
      rw [hx_zlp2, hq_Will_readProduct_10, if_pos (show nI j < (40 : Int32) from nI_lt (b := 40) (by omega) (by omega)), if_neg (by decide), hz.2.1, hx_sAt e hk hz.1 (by omega), hx_bI]
      rcases hx_zy2 ho with y | y
      · rw [if_pos y]
      · rw [if_neg (show ¬ T k = 42 by rw [y]; decide), if_pos y]
    rw [key, hq_Will_readProduct_48, hz.2.1, nI_1, nI_1, show hx_rv (e + 1) (2 + 1) (nI n) (hs_wI μ 10 0 5 (nI (k + 1))) = _ from hx_rv3 _ _ _]
    exact congrArg (hs_bI _) (funext fun r => funext fun μ3 => congrArg (hs_bV _) (funext fun μ4 => (hx_zlp2 _ _ _ _ _).symm))
/-- the reference's loop -/
theorem hx_z24 (e : Nat) {lv : Nat} (hl : lv < 3) (hk : hx_Tk m T) {k w : Nat} (hkm : k ≤ m) {μ : hs_M} (hz : hx_zr m T k w μ) : he_M_readsRank_24 (e + 1) (nI lv) 1 μ = if hx_zac lv (T k) < 0 then some (some (vI 1), μ) else hs_bI (hc_M_readsRank (e + 1) (nI (lv + 1)) (hs_wI μ 12 0 14 (nI (k + 1)))) (fun r2 μ2 => if r2 = 0 then some (some (vI 0), μ2) else hs_bV (hc_M_codes (e + 1) (2000 + hx_zac lv (T k) + hx_zao lv) μ2) (fun μ3 => if lv = 0 then some (some (vI 1), μ3) else he_M_readsRank_24 (e + 1) (nI lv) 1 μ3)) := by
  have c : lv = 0 ∨ lv = 1 ∨ lv = 2 := by omega
  rcases c with rfl | rfl | rfl
  · rw [hq_M_readsRank_24, if_neg (by decide), if_pos (show nI 0 = (0 : Int32) by decide), hx_am3 e hk hz.1 hkm hz.2.1, hx_bI, hx_rz1, show hx_zac 0 (T k) = hx_a3 (T k) from rfl]
    by_cases a : hx_a3 (T k) < 0
    · rw [if_pos a, if_pos a]
    rw [if_neg a, if_neg a, hz.2.1, nI_1, nI_1]
    refine congrArg (hs_bI _) (funext fun r => funext fun μ2 => ?_)
    by_cases r0 : r = 0
    · rw [if_pos r0, if_pos r0, hx_rz0]
    rw [if_neg r0, if_neg r0, if_pos (by decide)]
    refine congrArg (hs_bV _) (funext fun μ3 => ?_)
    rw [if_neg (by decide), if_pos rfl, hq_M_readsRank_24, if_pos rfl, hx_rz1]
  · rw [hq_M_readsRank_24, if_neg (by decide), if_neg (show ¬ nI 1 = (0 : Int32) by decide), if_pos (show nI 1 = (1 : Int32) by decide), hx_am0 e hk hz.1 hkm hz.2.1, hx_bI, hx_rz1, show hx_zac 1 (T k) = hx_a0 (T k) from rfl]
    by_cases a : hx_a0 (T k) < 0
    · rw [if_pos a, if_pos a]
    rw [if_neg a, if_neg a, hz.2.1, nI_1, nI_1]
    refine congrArg (hs_bI _) (funext fun r => funext fun μ2 => ?_)
    by_cases r0 : r = 0
    · rw [if_pos r0, if_pos r0, hx_rz0]
    rw [if_neg r0, if_neg r0, if_neg (by decide), if_pos (by decide)]
    refine congrArg (hs_bV _) (funext fun μ3 => ?_)
    rw [if_pos (by decide), if_neg (by decide)]
  · rw [hq_M_readsRank_24, if_neg (by decide), if_neg (show ¬ nI 2 = (0 : Int32) by decide), if_neg (show ¬ nI 2 = (1 : Int32) by decide), hx_am4 e hk hz.1 hkm hz.2.1, hx_bI, hx_rz1, show hx_zac 2 (T k) = hx_a4 (T k) from rfl]
    by_cases a : hx_a4 (T k) < 0
    · rw [if_pos a, if_pos a]
    rw [if_neg a, if_neg a, hz.2.1, nI_1, nI_1]
    refine congrArg (hs_bI _) (funext fun r => funext fun μ2 => ?_)
    by_cases r0 : r = 0
    · rw [if_pos r0, if_pos r0, hx_rz0]
    rw [if_neg r0, if_neg r0, if_neg (by decide), if_neg (by decide)]
    refine congrArg (hs_bV _) (funext fun μ3 => ?_)
    rw [if_pos (by decide), if_neg (by decide)]
theorem hx_zloop (hk : hx_Tk m T) (h40 : m ≤ 40) {lv n : Nat} (hl : lv < 3) (hn : n ≤ 4) : ∀ (g k : Nat), m - k < g → k ≤ m → (∀ k2, k < k2 → k2 ≤ m → hx_zM m T (lv + 1) n k2) → hx_zN m T lv n k
  | 0, k, hg, _, _ => absurd hg (by omega)
  | g + 1, k, hg, hkm, H => by
    rcases hx_zact hk hl k with ⟨z1, z2⟩ | ⟨z1, z2, z3, a, ha, ea, sC, sR⟩
    · refine ⟨true, k, [], [], ⟨by omega, hkm, Nat.zero_le _, Nat.zero_le _, fun x hx => absurd hx (List.not_mem_nil)⟩, fun _ => ⟨fun f x => x, fun f x st => ⟨rfl, rfl⟩⟩, ?_, ?_⟩
      · intro e w j μ he hw hj hjk hz
        obtain ⟨e', rfl⟩ : ∃ e', e = e' + 1 := ⟨e - 1, by unfold hx_zD at he; omega⟩
        refine ⟨μ, ?_, hx_zC0 hz⟩
        exact hx_zlpn e' hl h40 hk hkm hz z2
      · intro e w μ he hw hz hn'
        obtain ⟨e', rfl⟩ : ∃ e', e = e' + 1 := ⟨e - 1, by unfold hx_zE at he; omega⟩
        refine ⟨μ, ?_, hx_zR0 hz true⟩
        rw [hx_z24 e' hl hk hkm hz, if_pos z1]
        rfl
    obtain ⟨ok, k1, LC, LR, ⟨b1, b2, b3, b4, b5⟩, hs, hC, hR⟩ := H (k + 1) (by omega) (by omega)
    -- what both do first
    have sC1 : ∀ e w j μ, hx_zD n (lv + 1) ≤ e → w ≤ k → (lv = 0 → j = 0) → j ≤ k → hx_zc m T k w μ → ∃ μ1, hx_zCt m T w μ k1 (LC ++ [2000 + T k]) μ1 ∧ hx_zlp e lv (nI n) 1 j μ = hx_zlp e lv (nI n) (hx_tn ok) (j + 1) μ1 := by
      intro e w j μ he hw hj hjk hz
      obtain ⟨e', rfl⟩ : ∃ e', e = e' + 1 := ⟨e - 1, by unfold hx_zD at he; omega⟩
      have m0 := hx_zCm hz (k + 1)
      obtain ⟨μ1, a1, a2⟩ := hC (e' + 1) w _ he (by omega) m0.2.1
      have a3 := hx_zCa m0 a2
      rw [List.nil_append] at a3
      obtain ⟨μ2, d1, d2⟩ := hx_zCe e' (w := w + LC.length) (by omega) a3.2.1 (2000 + T k)
      refine ⟨μ2, hx_zCa a3 d2, ?_⟩
      rw [hx_zlpy e' hl h40 hk z2 hj hjk hz z3, a1, hx_bI, d1, hx_bV]
    have sR1 : ∀ e w μ, hx_zE m n (lv + 1) k ≤ e → w ≤ k → hx_zr m T k w μ → μ.1 12 0 16 = nI n → ∃ μ1, hx_zRt m T w μ ok k1 LR μ1 ∧ he_M_readsRank_24 e (nI lv) 1 μ = if hx_tn ok = 0 then some (some (vI 0), μ1) else hs_bV (hc_M_codes e (nI (2000 + a)) μ1) (fun μ3 => if lv = 0 then some (some (vI 1), μ3) else he_M_readsRank_24 e (nI lv) 1 μ3) := by
      intro e w μ he hw hz hn'
      obtain ⟨e', rfl⟩ : ∃ e', e = e' + 1 := ⟨e - 1, by unfold hx_zE at he; omega⟩
      have m0 := hx_zRm hz (k + 1) true
      obtain ⟨μ1, a1, a2⟩ := hR (e' + 1) w _ (by unfold hx_zE at *; omega) (by omega) m0.2.1 (by rw [hx_rd, if_neg (by omega), hn'])
      have a3 := hx_zRa (o := ok) m0 a2 (fun o => ⟨rfl, o⟩)
      rw [List.nil_append] at a3
      refine ⟨μ1, a3, ?_⟩
      rw [hx_z24 e' hl hk hkm hz, if_neg z1, a1, hx_bI, ea]
    by_cases o : ok = true
    rotate_left
    · have o' := Bool.eq_false_iff.mpr o
      subst o'
      refine ⟨false, k1, LC ++ [2000 + T k], LR, ⟨by omega, b2, by rw [List.length_append]; show _ + 1 ≤ _; omega, by omega, b5⟩, fun z => absurd z (by decide), ?_, ?_⟩
      · intro e w j μ he hw hj hjk hz
        obtain ⟨μ1, a1, a2⟩ := sC1 e w j μ he hw hj hjk hz
        obtain ⟨e', rfl⟩ : ∃ e', e = e' + 1 := ⟨e - 1, by unfold hx_zD at he; omega⟩
        refine ⟨μ1, ?_, a1⟩
        rw [a2]
        exact hx_zlpf e' hl h40 hk b2 a1.2.1
      · intro e w μ he hw hz hn'
        obtain ⟨μ1, a1, a2⟩ := sR1 e w μ he hw hz hn'
        exact ⟨μ1, a2, a1⟩
    subst o
    obtain ⟨v, hv⟩ := hs rfl
    have sem : ∀ f x st, hx_rL (hx_tC f) (LC ++ [2000 + T k]) (x :: st) = some (hx_cmb a x (v f) :: st) ∧ hx_rL (hx_tR f) (LR ++ [nI (2000 + a)]) (x :: st) = some (hx_cmb a x (v f) :: st) := fun f x st => by
      constructor
      · rw [hx_rLa, (hv f (x :: st)).1]
        show hx_rL (hx_tC f) [2000 + T k] (v f :: x :: st) = _
        rw [hx_rL1, sC]
        rfl
      · rw [hx_rLa, (hv f (x :: st)).2]
        show hx_rL (hx_tR f) [nI (2000 + a)] (v f :: x :: st) = _
        rw [hx_rL1, sR]
        rfl
    have cRs : ∀ c, c ∈ LR ++ [nI (2000 + a)] → hx_cR c := fun c hc => by
      rcases List.mem_append.mp hc with z | z
      · exact b5 c z
      · rw [List.mem_singleton] at z
        exact Or.inr (Or.inr (Or.inl ⟨a, ha, z⟩))
    have lC : (LC ++ [2000 + T k]).length = LC.length + 1 := by
      rw [List.length_append]
      rfl
    have lR : (LR ++ [nI (2000 + a)]).length = LR.length + 1 := by
      rw [List.length_append]
      rfl
    have sR2 : ∀ e w μ, hx_zE m n (lv + 1) k ≤ e → w ≤ k → hx_zr m T k w μ → μ.1 12 0 16 = nI n → ∃ μ1, hx_zRt m T w μ true k1 (LR ++ [nI (2000 + a)]) μ1 ∧ he_M_readsRank_24 e (nI lv) 1 μ = if lv = 0 then some (some (vI 1), μ1) else he_M_readsRank_24 e (nI lv) 1 μ1 := by
      intro e w μ he hw hz hn'
      obtain ⟨μ1, a1, a2⟩ := sR1 e w μ he hw hz hn'
      obtain ⟨e', rfl⟩ : ∃ e', e = e' + 1 := ⟨e - 1, by unfold hx_zE at he; omega⟩
      obtain ⟨μ2, d1, d2⟩ := hx_zRe e' (w := w + LR.length) (by omega) a1.2.1 (nI (2000 + a)) true
      refine ⟨μ2, hx_zRa (o := true) a1 d2 (fun _ => ⟨rfl, rfl⟩), ?_⟩
      rw [a2, if_neg (by decide), d1, hx_bV]
    by_cases l0 : lv = 0
    · refine ⟨true, k1, LC ++ [2000 + T k], LR ++ [nI (2000 + a)], ⟨by omega, b2, by omega, by omega, cRs⟩, fun _ => ⟨fun f x => hx_cmb a x (v f), sem⟩, ?_, ?_⟩
      · intro e w j μ he hw hj hjk hz
        obtain ⟨μ1, a1, a2⟩ := sC1 e w j μ he hw hj hjk hz
        refine ⟨μ1, ?_, a1⟩
        rw [a2, l0, hx_zlp0b, hq_Will_readComparison_69, hx_tnz]
      · intro e w μ he hw hz hn'
        obtain ⟨μ1, a1, a2⟩ := sR2 e w μ he hw hz hn'
        refine ⟨μ1, ?_, a1⟩
        rw [a2, if_pos l0]
        rfl
    · obtain ⟨ok2, k2, LC2, LR2, ⟨g1, g2, g3, g4, g5⟩, hs2, hC2, hR2⟩ := hx_zloop hk h40 hl hn g k1 (by omega) b2 (fun k2 h1 h2 => H k2 (by omega) h2)
      refine ⟨ok2, k2, (LC ++ [2000 + T k]) ++ LC2, (LR ++ [nI (2000 + a)]) ++ LR2, ⟨by omega, g2, by rw [List.length_append, lC]; omega, by rw [List.length_append, lR]; omega, fun c hc => ?_⟩, fun o2 => ?_, ?_, ?_⟩
      · rcases List.mem_append.mp hc with z | z
        · exact cRs c z
        · exact g5 c z
      · obtain ⟨v2, hv2⟩ := hs2 o2
        refine ⟨fun f x => v2 f (hx_cmb a x (v f)), fun f x st => ⟨?_, ?_⟩⟩
        · rw [hx_rLa, (sem f x st).1]
          exact (hv2 f _ st).1
        · rw [hx_rLa, (sem f x st).2]
          exact (hv2 f _ st).2
      · intro e w j μ he hw hj hjk hz
        obtain ⟨μ1, a1, a2⟩ := sC1 e w j μ he hw hj hjk hz
        obtain ⟨μ2, c1, c2⟩ := hC2 e (w + (LC ++ [2000 + T k]).length) (j + 1) μ1 he (by rw [lC]; omega) (fun z => absurd z l0) (by omega) a1.2.1
        refine ⟨μ2, ?_, hx_zCa a1 c2⟩
        rw [a2]
        exact c1
      · intro e w μ he hw hz hn'
        obtain ⟨μ1, a1, a2⟩ := sR2 e w μ he hw hz hn'
        obtain ⟨μ2, c1, c2⟩ := hR2 e (w + (LR ++ [nI (2000 + a)]).length) μ1 (by unfold hx_zE at *; omega) (by rw [lR]; omega) a1.2.1 (by rw [a1.2.2.2 rfl, hn'])
        refine ⟨μ2, ?_, hx_zRa (o := ok2) a1 c2 (fun o => ⟨rfl, o⟩)⟩
        rw [a2, if_neg l0]
        exact c1
theorem hx_zlev (hk : hx_Tk m T) (h40 : m ≤ 40) {lv n k : Nat} (hl : lv < 3) (hn : n ≤ 4) (h : hx_zM m T (lv + 1) n k) (H : ∀ k2, k < k2 → k2 ≤ m → hx_zM m T (lv + 1) n k2) : hx_zM m T lv n k := by
  obtain ⟨ok, k1, LC, LR, ⟨b1, b2, b3, b4, b5⟩, hs, hC, hR⟩ := h
  have l3' : ¬ nI lv = (3 : Int32) := fun y => absurd ((nI_eq (b := 3) (by omega) (by omega)).mp y) (by omega)
  by_cases o : ok = true
  rotate_left
  · have o' := Bool.eq_false_iff.mpr o
    subst o'
    refine ⟨false, k1, LC, LR, ⟨b1, b2, b3, b4, b5⟩, hs, ?_, ?_⟩
    · intro e w μ he hw hz
      obtain ⟨e', rfl⟩ : ∃ e', e = e' + 2 := ⟨e - 2, by unfold hx_zD at he; omega⟩
      obtain ⟨μ1, a1, a2⟩ := hC (e' + 1) w μ (by unfold hx_zD at *; omega) hw hz
      refine ⟨μ1, ?_, a2⟩
      rw [hx_rvS (e' + 1) hl, a1, hx_bI]
      exact hx_zlpf e' hl h40 hk b2 a2.2.1
    · intro e w μ he hw hz hn'
      obtain ⟨e', rfl⟩ : ∃ e', e = e' + 1 := ⟨e - 1, by unfold hx_zE at he; omega⟩
      obtain ⟨μ1, a1, a2⟩ := hR e' w μ (by unfold hx_zE at *; omega) hw hz hn'
      refine ⟨μ1, ?_, a2⟩
      rw [hq_M_readsRank, if_neg l3', nI_1, a1, hx_bI, if_pos (by decide), hx_rz0]
      rfl
  subst o
  obtain ⟨v, hv⟩ := hs rfl
  obtain ⟨ok2, k2, LC2, LR2, ⟨g1, g2, g3, g4, g5⟩, hs2, hC2, hR2⟩ := hx_zloop hk h40 hl hn (m - k1 + 1) k1 (by omega) b2 (fun k2 h1 h2 => H k2 (by omega) h2)
  refine ⟨ok2, k2, LC ++ LC2, LR ++ LR2, ⟨by omega, g2, by rw [List.length_append]; omega, by rw [List.length_append]; omega, fun c hc => ?_⟩, fun o2 => ?_, ?_, ?_⟩
  · rcases List.mem_append.mp hc with z | z
    · exact b5 c z
    · exact g5 c z
  · obtain ⟨v2, hv2⟩ := hs2 o2
    refine ⟨fun f => v2 f (v f), fun f st => ⟨?_, ?_⟩⟩
    · rw [hx_rLa, (hv f st).1]
      exact (hv2 f _ st).1
    · rw [hx_rLa, (hv f st).2]
      exact (hv2 f _ st).2
  · intro e w μ he hw hz
    obtain ⟨e', rfl⟩ : ∃ e', e = e' + 1 := ⟨e - 1, by unfold hx_zD at he; omega⟩
    obtain ⟨μ1, a1, a2⟩ := hC e' w μ (by unfold hx_zD at *; omega) hw hz
    obtain ⟨μ2, c1, c2⟩ := hC2 e' (w + LC.length) 0 μ1 (by unfold hx_zD at *; omega) (by omega) (fun _ => rfl) (by omega) a2.2.1
    refine ⟨μ2, ?_, hx_zCa a2 c2⟩
    rw [hx_rvS e' hl, a1, hx_bI]
    exact c1
  · intro e w μ he hw hz hn'
    obtain ⟨e', rfl⟩ : ∃ e', e = e' + 1 := ⟨e - 1, by unfold hx_zE at he; omega⟩
    obtain ⟨μ1, a1, a2⟩ := hR e' w μ (by unfold hx_zE at *; omega) hw hz hn'
    obtain ⟨μ2, c1, c2⟩ := hR2 e' (w + LR.length) μ1 (by unfold hx_zE at *; omega) (by omega) a2.2.1 (by rw [a2.2.2.2 rfl, hn'])
    refine ⟨μ2, ?_, hx_zRa (o := ok2) a2 c2 (fun o => ⟨rfl, o⟩)⟩
    rw [hq_M_readsRank, if_neg l3', nI_1, a1, hx_bI, if_neg (by decide)]
    exact c1
theorem hx_zall (hk : hx_Tk m T) (h40 : m ≤ 40) : ∀ (g k : Nat), m - k < g → k ≤ m → ∀ n, n ≤ 4 → ∀ lv, lv ≤ 3 → hx_zM m T lv n k
  | 0, k, hg, _ => absurd hg (by omega)
  | g + 1, k, hg, hkm => by
    intro n hn
    have H : ∀ k2, k < k2 → k2 ≤ m → ∀ n, n ≤ 4 → ∀ lv, lv ≤ 3 → hx_zM m T lv n k2 := fun k2 h1 h2 => hx_zall hk h40 g k2 (by omega) h2
    have l3 := hx_zlev3 hk h40 hn hkm (fun k2 h1 h2 n4 => H k2 h1 h2 (n + 1) (by omega) 0 (by omega))
    have l2 := hx_zlev hk h40 (lv := 2) (by omega) hn l3 (fun k2 h1 h2 => H k2 h1 h2 n hn 3 (by omega))
    have l1 := hx_zlev hk h40 (lv := 1) (by omega) hn l2 (fun k2 h1 h2 => H k2 h1 h2 n hn 2 (by omega))
    have l0 := hx_zlev hk h40 (lv := 0) (by omega) hn l1 (fun k2 h1 h2 => H k2 h1 h2 n hn 1 (by omega))
    intro lv hlv
    have c : lv = 0 ∨ lv = 1 ∨ lv = 2 ∨ lv = 3 := by omega
    rcases c with rfl | rfl | rfl | rfl
    · exact l0
    · exact l1
    · exact l2
    · exact l3
end
