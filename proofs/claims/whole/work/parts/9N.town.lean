/-! ===== E: town ===== -/
theorem hx_wid (μ : hs_M) (κ j i : Nat) : hs_wI μ κ j i (μ.1 κ j i) = μ := by
  refine Prod.ext (funext fun a => funext fun b => funext fun c => ?_) rfl
  rw [hx_rd]
  by_cases h : a = κ ∧ c = i ∧ b = j
  · rw [if_pos h, h.1, h.2.1, h.2.2]
  · rw [if_neg h]
theorem hx_toO {m : Nat} {T : Nat → Int32} (hk : hx_Tk m T) : ∀ (f j : Nat), hx_lst T j ≤ m → (hx_to T f j).1 = true → ∀ i, j ≤ i → i < (hx_to T f j).2.2 → hx_lO T (hx_lst T i) = true ∧ hx_lst T i ≤ m
  | 0, j, h, z, i, h1, h2 => absurd (show false = true from z) (by decide)
  | f + 1, j, h, z, i, h1, h2 => by
    rw [hx_toS] at z h2
    by_cases c : hx_lO T (hx_lst T j) = true
    · rw [if_pos c] at z h2
      by_cases y : i = j
      · rw [y]
        exact ⟨c, h⟩
      by_cases c2 : T (hx_lE T (hx_lst T j)) = 59
      · rw [if_pos c2] at z h2
        exact hx_toO hk f (j + 1) (hx_dlt hk (by decide) c2) z i (by omega) h2
      · rw [if_neg c2] at h2
        have h3 : i < j + 1 := h2
        omega
    · rw [if_neg c] at z
      exact absurd (show false = true from z) (by decide)
theorem hx_lWb {T : Nat → Int32} {k : Nat} (h : hx_lO T k = true) : 1 ≤ hx_lW T k ∧ hx_lW T k ≤ 999 := by
  unfold hx_lO hx_lG hx_lA at h
  rw [Bool.and_eq_true, Bool.and_eq_true, Bool.and_eq_true] at h
  have a := of_decide_eq_true h.1.1.2
  have b := hx_nmb (T := T) 3 k 0 1 (by omega)
  have b' : hx_lW T k < 10 ^ 3 * 1 := b
  omega
def hx_tS (t : hx_St) (T : Nat → Int32) (P : Nat) : Nat → hx_St
  | 0 => t
  | j + 1 => hx_wel (hx_tS t T P j) (P + j) (nI (hx_lW T (hx_lst T j)))
theorem hx_tSt {t : hx_St} {T : Nat → Int32} {P W : Nat} (ht : hx_tw P W t) : ∀ N, P + N ≤ 8 → (∀ i, i < N → hx_lO T (hx_lst T i) = true) → hx_tw (P + N) W (hx_tS t T P N)
  | 0, _, _ => ht
  | N + 1, h, ho => by
    obtain ⟨a, b⟩ := hx_lWb (ho N (by omega))
    exact hx_weltw (by omega) (hx_tSt ht N (by omega) (fun i hi => ho i (by omega))) a b
theorem hx_twC (d : Nat) {t : hx_St} {T : Nat → Int32} {P N : Nat} (hN : P + N ≤ 8) : ∀ (f k : Nat) (μ : hs_M), k + f = N → hx_SF μ 0 (hx_tS t T P k) → μ.1 8 0 9 = nI (P + k) → (∀ i, i < N → μ.1 19 0 (P + i) = nI (hx_lW T (hx_lst T i))) → ∃ μ', he_H_town_51 (d + 1) (nI N) (nI k) μ = some (some (vI (nI N)), hs_wI μ' 3 0 4 0) ∧ hx_fr (fun κ b i => b = 0 ∧ (κ = 24 ∨ κ = 25 ∨ (κ = 6 ∧ i = 3) ∨ (κ = 8 ∧ i = 9))) μ μ' ∧ hx_SF μ' 0 (hx_tS t T P N) ∧ μ'.1 8 0 9 = nI (P + N)
  | 0, k, μ, hk, hs, h9, hw => by
    rw [hq_H_town_51, if_neg (nI_nlt (by omega) (by omega)), hq_Past_forgetSteps, hx_bV]
    rw [show k = N from hk] at hs h9
    exact ⟨μ, rfl, hx_rf _ _, hs, h9⟩
  | f + 1, k, μ, hk, hs, h9, hw => by
    obtain ⟨μ1, a1, a2, a3⟩ := hx_welC d hs (P := P + k) (by omega) (nI (hx_lW T (hx_lst T k)))
    have f1 : hx_fr (fun κ b i => b = 0 ∧ (κ = 24 ∨ κ = 25 ∨ (κ = 6 ∧ i = 3) ∨ (κ = 8 ∧ i = 9))) μ (hs_wI μ1 8 0 9 (nI (P + (k + 1)))) := hx_wr (hx_mo (fun κ b i z => by omega) a2) _ (by omega)
    have fw : hx_fr (fun κ b i => κ = 8) μ1 (hs_wI μ1 8 0 9 (nI (P + (k + 1)))) := hx_wr (hx_rf _ _) _ rfl
    obtain ⟨μ', b1, b2, b3, b4⟩ := hx_twC d (t := t) hN f (k + 1) (hs_wI μ1 8 0 9 (nI (P + (k + 1)))) (by omega) (hx_SFf fw (by intro κ i a b; omega) a3) (by rw [hx_rd, if_pos ⟨rfl, rfl, rfl⟩]) (fun i hi => by rw [f1.1 19 0 _ (by omega), hw i hi])
    refine ⟨μ', ?_, hx_tr f1 b2, b3, b4⟩
    rw [hq_H_town_51, if_pos (nI_lt (by omega) (by omega)), h9, hq_Town_arriving, if_neg (nI_pos (by omega)), if_pos (show nI (P + k) < (8 : Int32) from nI_lt (b := 8) (by omega) (by omega)), if_pos (hx_in (by omega) (by omega)), nI_clamp (by omega), hw k (by omega), hx_bI, a1, hx_bV, hx_cntP d (P := P + k) (by rw [a2.1 8 0 9 (by omega), h9]) (by omega), hx_bV, nI_1, show P + k + 1 = P + (k + 1) by omega]
    exact b1
theorem hx_twM (d : Nat) {t : hx_St} {T : Nat → Int32} {P N : Nat} (hN : P + N ≤ 8) {l : Int32} (h6 : ∀ i, i < N → (hx_lR T (hx_lst T i)).1 ≤ 6) : ∀ (f k : Nat) (μ : hs_M), k + f = N → μ.1 12 0 3 = nI P → μ.1 12 0 21 = nI N → hx_SR μ 45 0 (hx_tS t T P k) → hx_ldR T P N μ → ∃ μ', he_M_town_81 (d + 2) l (nI k) μ = he_M_town_81 (d + 2) l (nI N) μ' ∧ hx_fr (fun κ b i => b = 0 ∧ (κ = 45 ∨ ((κ = 41 ∨ κ = 42 ∨ κ = 44) ∧ P + k ≤ i) ∨ (κ = 43 ∧ 6 * (P + k) ≤ i))) μ μ' ∧ hx_SR μ' 45 0 (hx_tS t T P N) ∧ ∀ i, k ≤ i → i < N → μ'.1 41 0 (P + i) = hx_lP T (hx_lK T (hx_lst T i)) ∧ μ'.1 42 0 (P + i) = 0 ∧ μ'.1 44 0 (P + i) = nI (hx_lR T (hx_lst T i)).1 ∧ ∀ q, q < (hx_lR T (hx_lst T i)).1 → μ'.1 43 0 (6 * (P + i) + q) = hx_cv T (hx_lS T (hx_lK T (hx_lst T i)) + 2 * q)
  | 0, k, μ, hk, h3, h21, hs, hd => by
    rw [show k = N from hk] at hs ⊢
    exact ⟨μ, rfl, hx_rf _ _, hs, fun i a b => absurd b (by omega)⟩
  | f + 1, k, μ, hk, h3, h21, hs, hd => by
    obtain ⟨g1, g2, g3, g4⟩ := hd k (by omega)
    have f0 : hx_fr (fun κ b i => b = 0 ∧ ((κ = 45 ∨ κ = 41) ∧ i = P + k)) μ (hs_wI (hs_wI μ 45 0 (P + k) (nI (hx_lW T (hx_lst T k)))) 41 0 (P + k) (hx_lP T (hx_lK T (hx_lst T k)))) := hx_wr (hx_wr (hx_rf _ _) _ (by omega)) _ (by omega)
    obtain ⟨ν, e1, f1, c1, c2, c3, c4, c5⟩ := hx_comesM d (p := P + k) (x := P + k) (by omega) (by omega) (hs_wI (hs_wI μ 45 0 (P + k) (nI (hx_lW T (hx_lst T k)))) 41 0 (P + k) (hx_lP T (hx_lK T (hx_lst T k))))
    have F : hx_fr (fun κ b i => b = 0 ∧ ((κ = 45 ∧ (i = P + k ∨ i = 8 + (P + k) ∨ i = 16)) ∨ ((κ = 41 ∨ κ = 42 ∨ κ = 44) ∧ i = P + k) ∨ (κ = 43 ∧ 6 * (P + k) ≤ i ∧ i < 6 * (P + k) + 6))) μ ν := hx_tr (hx_mo (fun κ b i z => by omega) f0) (hx_mo (fun κ b i z => by omega) f1)
    have s1 : hx_SR ν 45 0 (hx_tS t T P (k + 1)) := by
      refine hx_welR (by omega) hs (fun i z => F.1 45 0 i (by omega)) ?_ c4 ?_
      · rw [f1.1 45 0 (P + k) (by omega), hx_rd, if_neg (by omega), hx_rd, if_pos ⟨rfl, rfl, rfl⟩]
      · rw [c5, f0.1 45 0 16 (by omega), hx_SR0 hs (by omega)]
    obtain ⟨μ', r1, r2, r3, r4⟩ := hx_twM d (t := t) hN (l := l) h6 f (k + 1) ν (by omega) (by rw [F.1 12 0 3 (by omega), h3]) (by rw [F.1 12 0 21 (by omega), h21]) s1 (fun i hi => by
      obtain ⟨b1, b2, b3, b4⟩ := hd i hi
      refine ⟨?_, ?_, ?_, fun q hq => ?_⟩
      · rw [F.1 48 0 _ (by omega), b1]
      · rw [F.1 49 0 _ (by omega), b2]
      · rw [F.1 51 0 _ (by omega), b3]
      · rw [F.1 50 0 _ (by omega), b4 q hq])
    refine ⟨μ', ?_, hx_tr (hx_mo (fun κ b i z => by omega) F) (hx_mo (fun κ b i z => by omega) r2), r3, fun i h1 h2 => ?_⟩
    · rw [hq_M_town_81, h21, if_pos (nI_lt (by omega) (by omega)), h3, nI_add, if_pos (hx_in (by omega) (by omega)), if_pos (hx_in (by omega) (by omega)), if_pos (hx_in (by omega) (by omega)), if_pos (hx_in (by omega) (by omega)), nI_clamp (by omega), g1, g2, e1, hx_bV, nI_1]
      exact r1
    · by_cases y : i = k
      · have h6' := h6 k (by omega)
        rw [y]
        refine ⟨?_, ?_, ?_, fun q hq => ?_⟩
        · rw [r2.1 41 0 _ (by omega), f1.1 41 0 _ (by omega), hx_rd, if_pos ⟨rfl, rfl, rfl⟩]
        · rw [r2.1 42 0 _ (by omega), c1]
        · rw [r2.1 44 0 _ (by omega), c2, f0.1 51 0 _ (by omega), g3]
        · rw [r2.1 43 0 _ (by omega), c3 q (by omega), f0.1 50 0 _ (by omega), g4 q hq]
      · exact r4 i (by omega) h2
def hx_tE (E : hx_Env) (T : Nat → Int32) (N : Nat) : hx_Env := (hx_P E + N, (fun i => if i < hx_P E then hx_Pt E i else hx_lP T (hx_lK T (hx_lst T (i - hx_P E)))), (fun i => if i < hx_P E then hx_Il E i else 0), (fun i => if i < hx_P E then hx_Hl E i else (hx_lR T (hx_lst T (i - hx_P E))).1), (fun i k => if i < hx_P E then hx_Hb E i k else hx_cv T (hx_lS T (hx_lK T (hx_lst T (i - hx_P E))) + 2 * k)), hx_G E, hx_O E, hx_V E)
theorem hx_tEok {E : hx_Env} (h : hx_ok E) {T : Nat → Int32} {N : Nat} (hN : hx_P E + N ≤ 8) (h6 : ∀ i, i < N → (hx_lR T (hx_lst T i)).1 ≤ 6) : hx_ok (hx_tE E T N) := by
  obtain ⟨a, b, c, d, e, f⟩ := h
  refine ⟨hN, fun i hi => ?_, c, d, fun i hi => ?_, f⟩
  · have hi' : i < hx_P E + N := hi
    show (if i < hx_P E then hx_Hl E i else (hx_lR T (hx_lst T (i - hx_P E))).1) ≤ 6
    by_cases z : i < hx_P E
    · rw [if_pos z]
      exact b i z
    · rw [if_neg z]
      exact h6 _ (by omega)
  · show ∃ n, n ≤ 9 ∧ (if i < hx_P E then hx_Il E i else 0) = nI n
    by_cases z : i < hx_P E
    · rw [if_pos z]
      exact e i z
    · rw [if_neg z]
      exact ⟨0, by omega, rfl⟩
theorem hx_town0 (d : Nat) {n : Nat} {E : hx_Env} {t : hx_St} {μ : hs_M} (h : hx_I n E t μ) (h1 : μ.1 7 0 1 = nI 0) (h2 : μ.1 12 0 13 = nI 0) : hx_A n μ (hc_H_town (d + 6)) (hc_M_town (d + 6)) := by
  have fw : hx_fr (fun κ b i => κ = 12 ∧ b = 0 ∧ i = 0) μ (hs_wI μ 12 0 0 0) := hx_wr (hx_rf _ _) _ (by omega)
  obtain ⟨ν, b1, b2, b3, b4, b5, b6⟩ := hx_begR (d + 3) (μ := hs_wI μ 12 0 0 0) (l := 0) (x := 76) (by omega) (by omega) (by rw [hx_rd, if_neg (by omega), h2])
  have fn : hx_fr (fun κ b i => κ = 12 ∧ (i = 0 ∨ i = 13 ∨ i = 14 ∨ i = 15 ∨ i = 16 ∨ i = 21)) μ (hs_wI ν 12 0 21 0) := hx_wr (hx_tr (hx_mo (fun κ b i z => by omega) fw) (hx_mo (fun κ b i z => by omega) b2)) _ (by omega)
  have ef := hx_flt (d + 4) (μ := hs_wI ν 12 0 21 0) (l := 0) (x := 76) (B := 0) (by omega) (by omega) (by omega) (by rw [hx_rd, if_neg (by omega), b4]) (by rw [hx_rd, if_neg (by omega), b5]) true
  rw [if_pos ⟨rfl, rfl⟩] at ef
  have er := hx_ERf fn (by intro κ i a b; unfold hx_rF at a; omega) h.2.1
  refine hx_Amk (v := 0) (μ1 := μ) (μ2 := hs_wI ν 12 0 21 0) (E := E) (t := t) ?_ ?_ (hx_Ite h (hx_rf (fun _ _ _ => False) μ) fn (fun κ j i z => z.elim) (fun κ j i z => by unfold hx_gY hx_qR; omega) rfl ?_ er (hx_iT0 ?_ ?_))
  · rw [hq_H_town, h1, if_pos nI_0]
  · have v21 : (hs_wI ν 12 0 21 0).1 12 0 21 = 0 := by rw [hx_rd, if_pos ⟨rfl, rfl, rfl⟩]
    have e3 : (hs_wI ν 12 0 21 0).1 12 0 3 + 0 = (hs_wI ν 12 0 21 0).1 12 0 3 := Int32.add_zero _
    rw [hq_M_town, show hc_M_begins (d + 5) 76 (hs_wI μ 12 0 0 0) = _ from b1, hx_bI, if_neg (show ¬ (0 : Int32) < nI 0 by decide), hq_M_town_29, if_pos (show (0 : Int32) = 0 from rfl), show hc_M_faultOf (d + 5) (nI 0) 76 1 (hs_wI ν 12 0 21 0) = _ from ef, hx_bI, if_neg (by decide), hq_M_town_81, v21, if_neg (by decide), if_neg (show ¬ (0 : Int32) < nI 0 by decide), e3, hx_wid, hx_wid]
  · exact hx_ECf fn (by intro κ i a b; unfold hx_cF at a; omega) h.1
  · rw [fn.1 7 0 1 (by omega), h1]
    rfl
  · rw [hx_rd, if_neg (by omega), b3]
