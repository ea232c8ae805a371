/-! ===== E: the lines of a town ===== -/
def hx_lO (T : Nat → Int32) (k : Nat) : Bool := hx_lG T k && ((hx_lR T k).2.2 && !hx_pms (T (hx_lR T k).2.1))
def hx_lst (T : Nat → Int32) : Nat → Nat
  | 0 => 0
  | j + 1 => hx_lE T (hx_lst T j) + 1
/-- good, where it ends, how many -/
def hx_to (T : Nat → Int32) : Nat → Nat → Bool × Nat × Nat
  | 0, j => (false, hx_lst T j, j)
  | f + 1, j => if hx_lO T (hx_lst T j) = true then (if T (hx_lE T (hx_lst T j)) = 59 then hx_to T f (j + 1) else (true, hx_lE T (hx_lst T j), j + 1)) else (false, hx_lE T (hx_lst T j), j)
theorem hx_toS (T : Nat → Int32) (f j : Nat) : hx_to T (f + 1) j = if hx_lO T (hx_lst T j) = true then (if T (hx_lE T (hx_lst T j)) = 59 then hx_to T f (j + 1) else (true, hx_lE T (hx_lst T j), j + 1)) else (false, hx_lE T (hx_lst T j), j) := rfl
theorem hx_tob {m : Nat} {T : Nat → Int32} (hk : hx_Tk m T) : ∀ (f j : Nat), hx_lst T j ≤ m → (hx_to T f j).2.1 ≤ m ∧ (hx_to T f j).2.2 ≤ j + f
  | 0, j, h => ⟨h, Nat.le_refl j⟩
  | f + 1, j, h => by
    rw [hx_toS]
    have b := hx_lEb hk h
    by_cases c : hx_lO T (hx_lst T j) = true
    · rw [if_pos c]
      by_cases c2 : T (hx_lE T (hx_lst T j)) = 59
      · rw [if_pos c2]
        have := hx_tob hk f (j + 1) (hx_dlt hk (by decide) c2)
        exact ⟨this.1, by omega⟩
      · rw [if_neg c2]
        exact ⟨b, by show j + 1 ≤ j + (f + 1); omega⟩
    · rw [if_neg c]
      exact ⟨b, by show j ≤ j + (f + 1); omega⟩
def hx_ldC (T : Nat → Int32) (P j : Nat) (μ : hs_M) : Prop := ∀ i, i < j → μ.1 19 0 (P + i) = nI (hx_lW T (hx_lst T i)) ∧ μ.1 15 0 (P + i) = hx_lP T (hx_lK T (hx_lst T i)) ∧ μ.1 16 0 (P + i) = 0 ∧ μ.1 17 0 (P + i) = nI (hx_lR T (hx_lst T i)).1 ∧ ∀ q, q < (hx_lR T (hx_lst T i)).1 → μ.1 18 0 (6 * (P + i) + q) = hx_cv T (hx_lS T (hx_lK T (hx_lst T i)) + 2 * q)
def hx_ldR (T : Nat → Int32) (P j : Nat) (μ : hs_M) : Prop := ∀ i, i < j → μ.1 48 0 (P + i) = nI (hx_lW T (hx_lst T i)) ∧ μ.1 49 0 (P + i) = hx_lP T (hx_lK T (hx_lst T i)) ∧ μ.1 51 0 (P + i) = nI (hx_lR T (hx_lst T i)).1 ∧ ∀ q, q < (hx_lR T (hx_lst T i)).1 → μ.1 50 0 (6 * (P + i) + q) = hx_cv T (hx_lS T (hx_lK T (hx_lst T i)) + 2 * q)
theorem hx_lR6 {m : Nat} {T : Nat → Int32} (hk : hx_Tk m T) {k : Nat} (h : k ≤ m) : (hx_lR T k).1 ≤ 6 := (hx_rcb hk 6 _ (hx_lSb hk (hx_nmp hk 3 k 0 h).2).2).1
theorem hx_lkO {m : Nat} {T : Nat → Int32} (hk : hx_Tk m T) : ∀ j, hx_lst T j ≤ m → ∀ i, i ≤ j → hx_lst T i ≤ m
  | 0, h, i, hi => by
    rw [show i = 0 by omega]
    exact h
  | j + 1, h, i, hi => by
    by_cases c : i = j + 1
    · rw [c]
      exact h
    · refine hx_lkO hk j ?_ i (by omega)
      rcases Nat.lt_or_ge m (hx_lst T j) with z | z
      · exfalso
        have h' : hx_lE T (hx_lst T j) + 1 ≤ m := h
        have n1 : ¬ hx_rg 48 57 (T (hx_lst T j)) = true := fun y => absurd (hx_dlt' hk y) (by omega)
        have e5 : hx_lA T (hx_lst T j) = false := by
          unfold hx_lA
          rw [Bool.eq_false_iff.mpr n1]
          rfl
        unfold hx_lE at h'
        rw [e5, if_neg (by decide), if_neg n1] at h'
        omega
      · exact z
def hx_xTl (P κ b i : Nat) : Prop := b = 0 ∧ ((κ = 8 ∧ 6 ≤ i ∧ i ≤ 8) ∨ κ = 20 ∨ κ = 19 ∨ ((κ = 15 ∨ κ = 16 ∨ κ = 17) ∧ P ≤ i) ∨ (κ = 18 ∧ 6 * P ≤ i))
theorem hx_lsC (d : Nat) {m l P : Nat} {T : Nat → Int32} (hk : hx_Tk m T) (hml : m ≤ l) (hl : l ≤ 80) : ∀ (f j : Nat) (μ : hs_M), P + j + f = 8 → hx_TC μ m T → μ.1 7 0 1 = nI l → μ.1 8 0 7 = nI (hx_lst T j) → hx_lst T j ≤ m → μ.1 8 0 8 = nI j → hx_ldC T P j μ → ∃ μ', he_Town_readLines_21 (d + 4) (nI (P + j)) μ = some (some (vI (if (hx_to T f j).1 = true ∧ (hx_to T f j).2.1 = l then -1 else nI (hx_to T f j).2.1)), μ') ∧ hx_fr (hx_xTl P) μ μ' ∧ ((hx_to T f j).1 = true → μ'.1 8 0 8 = nI (hx_to T f j).2.2 ∧ hx_ldC T P (hx_to T f j).2.2 μ')
  | 0, j, μ, hj, hT, h1, h7, hkm, h8, hd => by
    rw [hq_Town_readLines_21, if_neg (show ¬ (8 : Int32) < nI (P + j) from nI_nlt (a := 8) (by omega) (by omega)), if_pos (show nI (P + j) = (8 : Int32) by rw [show P + j = 8 by omega]; rfl), hq_Town_readLines_42, h7]
    refine ⟨μ, ?_, hx_rf _ _, fun z => absurd (show false = true from z) (by decide)⟩
    rw [if_neg (fun z => absurd (show false = true from z.1) (by decide))]
    rfl
  | f + 1, j, μ, hj, hT, h1, h7, hkm, h8, hd => by
    have h80 := hk.1
    obtain ⟨μ1, a1, a2, a3, a4⟩ := hx_lnC d hk (x := P + j) (by omega) hT hkm h7
    have bE := hx_lEb hk hkm
    have f1 : hx_fr (hx_xTl P) μ μ1 := hx_mo (fun κ b i z => by unfold hx_xL at z; unfold hx_xTl; omega) a2
    rw [hq_Town_readLines_21, if_neg (show ¬ (8 : Int32) < nI (P + j) from nI_nlt (a := 8) (by omega) (by omega)), if_neg (show ¬ nI (P + j) = (8 : Int32) from fun y => absurd ((nI_eq (b := 8) (by omega) (by omega)).mp y) (by omega)), a1, hx_bI, hx_tn0, hx_toS]
    have eO : (hx_lG T (hx_lst T j) && ((hx_lR T (hx_lst T j)).2.2 && !hx_pms (T (hx_lR T (hx_lst T j)).2.1))) = hx_lO T (hx_lst T j) := rfl
    rw [eO] at a4 ⊢
    by_cases c : hx_lO T (hx_lst T j) = true
    rotate_left
    · rw [if_neg c, if_neg c, hq_Town_readLines_42, a3]
      refine ⟨μ1, ?_, f1, fun z => absurd (show false = true from z) (by decide)⟩
      rw [if_neg (fun z => absurd (show false = true from z.1) (by decide))]
    obtain ⟨w1, w2, w3, w4, w5⟩ := a4 c
    have v8 : μ1.1 8 0 8 = nI j := by rw [a2.1 8 0 8 (by unfold hx_xL; omega), h8]
    have f2 : hx_fr (fun κ b i => b = 0 ∧ κ = 8 ∧ i = 8) μ1 (hs_wI μ1 8 0 8 (nI (j + 1))) := hx_wr (hx_rf _ _) _ ⟨rfl, rfl, rfl⟩
    have hT1 := hx_TCf a2 (fun i => by unfold hx_xL; omega) hT
    have hd1 : hx_ldC T P (j + 1) μ1 := fun i hi => by
      by_cases y : i = j
      · rw [y]
        exact ⟨w1, w2, w3, w4, w5⟩
      · obtain ⟨b1, b2, b3, b4, b5⟩ := hd i (by omega)
        have b6 := hx_lR6 hk (hx_lkO hk j hkm i (by omega))
        refine ⟨?_, ?_, ?_, ?_, fun q hq => ?_⟩
        · rw [a2.1 19 0 _ (by unfold hx_xL; omega), b1]
        · rw [a2.1 15 0 _ (by unfold hx_xL; omega), b2]
        · rw [a2.1 16 0 _ (by unfold hx_xL; omega), b3]
        · rw [a2.1 17 0 _ (by unfold hx_xL; omega), b4]
        · rw [a2.1 18 0 _ (by unfold hx_xL; omega), b5 q hq]
    have hdf : ∀ ν : hs_M, hx_fr (fun κ b i => b = 0 ∧ κ = 8) μ1 ν → hx_ldC T P (j + 1) ν := fun ν g i hi => by
      obtain ⟨b1, b2, b3, b4, b5⟩ := hd1 i hi
      refine ⟨?_, ?_, ?_, ?_, fun q hq => ?_⟩
      · rw [g.1 19 0 _ (by omega), b1]
      · rw [g.1 15 0 _ (by omega), b2]
      · rw [g.1 16 0 _ (by omega), b3]
      · rw [g.1 17 0 _ (by omega), b4]
      · rw [g.1 18 0 _ (by omega), b5 q hq]
    rw [if_pos c, if_pos c, v8, nI_1, a3, hx_sAt (d + 3) hk (hx_TCf f2 (fun i => by omega) hT1) (by omega), hx_bI]
    have f2' : hx_fr (hx_xTl P) μ (hs_wI μ1 8 0 8 (nI (j + 1))) := hx_tr f1 (hx_mo (fun κ b i z => by unfold hx_xTl; omega) f2)
    have v7 : (hs_wI μ1 8 0 8 (nI (j + 1))).1 8 0 7 = nI (hx_lE T (hx_lst T j)) := by rw [hx_rd, if_neg (by omega), a3]
    have v1 : (hs_wI μ1 8 0 8 (nI (j + 1))).1 7 0 1 = nI l := by rw [f2'.1 7 0 1 (by unfold hx_xTl; omega), h1]
    by_cases c2 : T (hx_lE T (hx_lst T j)) = 59
    · have hlt := hx_dlt hk (by decide) c2
      rw [if_pos c2, if_pos c2, v7, nI_1, nI_1, show P + j + 1 = P + (j + 1) by omega]
      have f3 : hx_fr (fun κ b i => b = 0 ∧ κ = 8 ∧ (i = 7 ∨ i = 8)) μ1 (hs_wI (hs_wI μ1 8 0 8 (nI (j + 1))) 8 0 7 (nI (hx_lE T (hx_lst T j) + 1))) := hx_wr (hx_mo (fun κ b i z => by omega) f2) _ (by omega)
      obtain ⟨μ', r1, r2, r3⟩ := hx_lsC d hk hml hl f (j + 1) (hs_wI (hs_wI μ1 8 0 8 (nI (j + 1))) 8 0 7 (nI (hx_lE T (hx_lst T j) + 1))) (by omega) (hx_TCf f3 (fun i => by omega) hT1) (by rw [hx_rd, if_neg (by omega), v1]) (by rw [hx_rd, if_pos ⟨rfl, rfl, rfl⟩]; rfl) hlt (by rw [hx_rd, if_neg (by omega), hx_rd, if_pos ⟨rfl, rfl, rfl⟩]) (hdf _ (hx_mo (fun κ b i z => by omega) f3))
      exact ⟨μ', r1, hx_tr f1 (hx_tr (hx_mo (fun κ b i z => by unfold hx_xTl; omega) f3) r2), r3⟩
    · rw [if_neg c2, if_neg c2, hq_Town_readLines_89, v7, v1]
      refine ⟨hs_wI μ1 8 0 8 (nI (j + 1)), ?_, f2', fun _ => ⟨by rw [hx_rd, if_pos ⟨rfl, rfl, rfl⟩], hdf _ (hx_mo (fun κ b i z => by omega) f2)⟩⟩
      by_cases y : hx_lE T (hx_lst T j) = l
      · rw [if_neg (nI_nlt (by omega) (by omega)), if_pos ⟨rfl, y⟩]
      · rw [if_pos (nI_lt (by omega) (by omega)), if_neg (fun z => y z.2)]
def hx_yTl (κ b i : Nat) : Prop := b = 0 ∧ ((κ = 12 ∧ (i = 14 ∨ i = 21)) ∨ (48 ≤ κ ∧ κ ≤ 51))
theorem hx_lsR (d : Nat) {m l P : Nat} {T : Nat → Int32} (hk : hx_Tk m T) (hml : m ≤ l) (hl : l ≤ 80) : ∀ (f j : Nat) (μ : hs_M) (x2 : Int32), P + j + f = 8 → hx_TR μ m T → μ.1 12 0 14 = nI (hx_lst T j) → hx_lst T j ≤ m → μ.1 12 0 3 = nI P → μ.1 12 0 21 = nI j → hx_ldR T P j μ → ∃ μ' ok, he_M_town_29 (d + 5) (nI l) x2 1 μ = he_M_town_29 (d + 5) (nI l) (hx_tn ok) 0 μ' ∧ hx_fr hx_yTl μ μ' ∧ μ'.1 12 0 14 = nI (hx_to T f j).2.1 ∧ ((ok = true ∧ (hx_to T f j).2.1 = l) ↔ ((hx_to T f j).1 = true ∧ (hx_to T f j).2.1 = l)) ∧ ((hx_to T f j).1 = true → μ'.1 12 0 21 = nI (hx_to T f j).2.2 ∧ hx_ldR T P (hx_to T f j).2.2 μ')
  | 0, j, μ, x2, hj, hT, hp, hkm, h3, h21, hd => by
    rw [hq_M_town_29, if_neg (by decide), hx_rp8 (d + 2) hk hT hkm hp (by omega) h3 h21, hx_bI, if_pos rfl, hq_M_town_55]
    exact ⟨μ, false, rfl, hx_rf _ _, hp, Iff.rfl, fun z => absurd (show false = true from z) (by decide)⟩
  | f + 1, j, μ, x2, hj, hT, hp, hkm, h3, h21, hd => by
    have h80 := hk.1
    obtain ⟨μ1, a1, a2, a3, a4⟩ := hx_lnR d hk (x := P + j) rfl (by omega) hT hkm hp h3 h21
    have bE := hx_lEb hk hkm
    have f1 : hx_fr hx_yTl μ μ1 := hx_mo (fun κ b i z => by unfold hx_yL at z; unfold hx_yTl; omega) a2
    rw [hq_M_town_29, if_neg (by decide), a1, hx_bI, hx_tn0, hx_toS]
    by_cases c : (hx_lG T (hx_lst T j) && (hx_lR T (hx_lst T j)).2.2) = true
    rotate_left
    · have c' : ¬ hx_lO T (hx_lst T j) = true := fun z => c (by
        unfold hx_lO at z
        rw [Bool.and_eq_true, Bool.and_eq_true] at z
        rw [z.1, z.2.1]
        rfl)
      rw [if_neg c, if_neg c', hq_M_town_55, Bool.eq_false_iff.mpr c]
      exact ⟨μ1, false, rfl, f1, a3, Iff.rfl, fun z => absurd (show false = true from z) (by decide)⟩
    obtain ⟨w1, w2, w3, w4, w5⟩ := a4 c
    have hT1 := hx_TRf a2 (fun i => by unfold hx_yL; omega) hT
    have hd1 : hx_ldR T P (j + 1) μ1 := fun i hi => by
      by_cases y : i = j
      · rw [y]
        exact ⟨w2, w3, w4, w5⟩
      · obtain ⟨b1, b2, b3, b4⟩ := hd i (by omega)
        have b6 := hx_lR6 hk (hx_lkO hk j hkm i (by omega))
        refine ⟨?_, ?_, ?_, fun q hq => ?_⟩
        · rw [a2.1 48 0 _ (by unfold hx_yL; omega), b1]
        · rw [a2.1 49 0 _ (by unfold hx_yL; omega), b2]
        · rw [a2.1 51 0 _ (by unfold hx_yL; omega), b3]
        · rw [a2.1 50 0 _ (by unfold hx_yL; omega), b4 q hq]
    have hdf : ∀ v : Int32, hx_ldR T P (j + 1) (hs_wI μ1 12 0 14 v) := fun v i hi => by
      obtain ⟨b1, b2, b3, b4⟩ := hd1 i hi
      refine ⟨?_, ?_, ?_, fun q hq => ?_⟩
      · rw [hx_rd, if_neg (by omega), b1]
      · rw [hx_rd, if_neg (by omega), b2]
      · rw [hx_rd, if_neg (by omega), b3]
      · rw [hx_rd, if_neg (by omega), b4 q hq]
    have fv : ∀ v : Int32, hx_fr hx_yTl μ (hs_wI μ1 12 0 14 v) := fun v => hx_wr f1 _ (by unfold hx_yTl; omega)
    have q21 : ∀ v : Int32, (hs_wI μ1 12 0 14 v).1 12 0 21 = nI (j + 1) := fun v => by rw [hx_rd, if_neg (by omega), w1]
    rw [if_pos c, hx_takes (d + 3) hk hT1 bE a3 (by decide), hx_bI, hx_tn0, c, hq_M_town_55]
    by_cases c2 : T (hx_lE T (hx_lst T j)) = 59
    · have hlt := hx_dlt hk (by decide) c2
      have c' : hx_lO T (hx_lst T j) = true := by
        rw [Bool.and_eq_true] at c
        unfold hx_lO
        rw [c.1, c.2, ← hx_lEr c.1, c2]
        decide
      rw [decide_eq_true c2, if_pos (show true = true from rfl), if_pos c', if_pos c2, if_pos c2]
      have fw : hx_fr (fun κ b i => b = 0 ∧ κ = 12 ∧ i = 14) μ1 (hs_wI μ1 12 0 14 (nI (hx_lE T (hx_lst T j) + 1))) := hx_wr (hx_rf _ _) _ ⟨rfl, rfl, rfl⟩
      obtain ⟨μ', ok, r1, r2, r3⟩ := hx_lsR d hk hml hl f (j + 1) (hs_wI μ1 12 0 14 (nI (hx_lE T (hx_lst T j) + 1))) (hx_tn true) (by omega) (hx_TRf fw (fun i => by omega) hT1) (by rw [hx_rd, if_pos ⟨rfl, rfl, rfl⟩]; rfl) hlt (by rw [(fv _).1 12 0 3 (by unfold hx_yTl; omega), h3]) (q21 _) (hdf _)
      exact ⟨μ', ok, r1, hx_tr (fv _) r2, r3⟩
    · rw [decide_eq_false c2, if_neg (show ¬ false = true by decide), if_neg c2, if_neg c2]
      have w14 : ∀ q : Nat, (hs_wI μ1 12 0 14 (nI (q + 0))).1 12 0 14 = nI q := fun q => by
        rw [hx_rd, if_pos ⟨rfl, rfl, rfl⟩]
        rfl
      by_cases c' : hx_lO T (hx_lst T j) = true
      · rw [if_pos c']
        exact ⟨_, true, rfl, fv _, w14 _, Iff.rfl, fun _ => ⟨q21 _, hdf _⟩⟩
      · rw [if_neg c']
        refine ⟨_, true, rfl, fv _, w14 _, ⟨fun z => ?_, fun z => absurd (show false = true from z.1) (by decide)⟩, fun z => absurd (show false = true from z) (by decide)⟩
        exfalso
        have z2 : hx_lE T (hx_lst T j) = l := z.2
        apply c'
        rw [Bool.and_eq_true] at c
        unfold hx_lO
        rw [c.1, c.2, ← hx_lEr c.1, hk.2.2 _ (by omega)]
        decide
