/-! ===== E: the most weeks: the class's search ===== -/
theorem hx_pple (a : Nat) : ∀ n, hx_pp a n ≤ n
  | 0 => Nat.le_refl 0
  | n + 1 => by
    have := hx_pple a n
    unfold hx_pp
    split <;> omega
theorem hx_nor (a b : Nat) : nI a ||| nI b = nI (a ||| b) := by
  apply b_ext
  intro i hi
  rw [b_or, hx_nb _ hi, hx_nb _ hi, hx_nb _ hi, Nat.testBit_or]
theorem hx_p2 : ∀ k, k < 31 → (1 : Int32) <<< (nI k &&& 31) = nI (2 ^ k) := by decide +kernel
def hx_bst (μ : hs_M) (w : Int) (p : Nat) : Prop := (μ.1 0 0 11).toInt = w ∧ μ.1 0 0 12 = nI p ∧ p < 1024 ∧ -1 ≤ w ∧ w ≤ 10
def hx_xB (κ _j i : Nat) : Prop := κ = 0 ∧ (i = 11 ∨ i = 12)
theorem hx_judge (d : Nat) {μ : hs_M} {w : Int} {p : Nat} (h : hx_bst μ w p) {a q : Nat} (ha : a ≤ 10) (hq : q < 1024) : ∃ μ', hc_Future_judge (d + 2) (nI a) (nI q) μ = some (none, μ') ∧ hx_fr hx_xB μ μ' ∧ ∃ w' p', hx_bst μ' w' p' ∧ hx_gq w' p' w p ∧ hx_gq w' p' a q ∧ ((w' = w ∧ p' = p) ∨ (w' = a ∧ p' = q)) := by
  obtain ⟨h1, h2, h3, h4, h5⟩ := h
  have b1 := hx_pple q 10
  have b2 := hx_pple p 10
  have ea : (nI a).toInt = (a : Int) := nI_toInt (by omega)
  have yes : ∀ μ0 : hs_M, μ0 = μ → (hx_gq a q w p) → ∃ μ', he_Future_judge_62 (d + 1) (nI a) (nI q) μ0 = some (none, μ') ∧ hx_fr hx_xB μ μ' ∧ ∃ w' p', hx_bst μ' w' p' ∧ hx_gq w' p' w p ∧ hx_gq w' p' a q ∧ ((w' = w ∧ p' = p) ∨ (w' = a ∧ p' = q)) := by
    intro μ0 e g
    subst e
    rw [hq_Future_judge_62, hq_Future_judge_72]
    refine ⟨_, rfl, hx_wr (hx_wr (hx_rf _ _) _ (by unfold hx_xB; omega)) _ (by unfold hx_xB; omega), a, q, ⟨?_, ?_, hq, by omega, by omega⟩, g, hx_gqr _ _, Or.inr ⟨rfl, rfl⟩⟩
    · rw [hx_rd, if_neg (by omega), hx_rd, if_pos ⟨rfl, rfl, rfl⟩, ea]
    · rw [hx_rd, if_pos ⟨rfl, rfl, rfl⟩]
  have no : ∀ μ0 : hs_M, μ0 = μ → (hx_gq w p a q) → ∃ μ', he_Future_judge_72 (d + 1) μ0 = some (none, μ') ∧ hx_fr hx_xB μ μ' ∧ ∃ w' p', hx_bst μ' w' p' ∧ hx_gq w' p' w p ∧ hx_gq w' p' a q ∧ ((w' = w ∧ p' = p) ∨ (w' = a ∧ p' = q)) := by
    intro μ0 e g
    subst e
    rw [hq_Future_judge_72]
    exact ⟨μ0, rfl, hx_rf _ _, w, p, ⟨h1, h2, h3, h4, h5⟩, hx_gqr _ _, g, Or.inl ⟨rfl, rfl⟩⟩
  have j36 : (hx_pp q 10 < hx_pp p 10 ∨ (hx_pp q 10 = hx_pp p 10 ∧ q < p)) → ∃ μ', he_Future_judge_36 (d + 1) (nI a) (nI q) μ = some (none, μ') ∧ hx_fr hx_xB μ μ' ∧ ∃ w' p', hx_bst μ' w' p' ∧ hx_gq w' p' w p ∧ hx_gq w' p' a q ∧ ((w' = w ∧ p' = p) ∨ (w' = a ∧ p' = q)) := by
    intro s
    rw [hq_Future_judge_36]
    by_cases c1 : μ.1 0 0 11 < nI a
    · rw [if_pos c1]
      rw [hx_li, h1, ea] at c1
      exact yes μ rfl (by unfold hx_gq; omega)
    · rw [if_neg c1]
      rw [hx_li, h1, ea] at c1
      by_cases c2 : nI a = μ.1 0 0 11
      · rw [if_pos c2]
        rw [hx_ei, h1, ea] at c2
        exact yes μ rfl (by unfold hx_gq; omega)
      · rw [if_neg c2]
        rw [hx_ei, h1, ea] at c2
        exact no μ rfl (by unfold hx_gq; omega)
  have j40 : (hx_pp p 10 < hx_pp q 10 ∨ (hx_pp q 10 = hx_pp p 10 ∧ p ≤ q)) → ∃ μ', he_Future_judge_40 (d + 1) (nI a) (nI q) μ = some (none, μ') ∧ hx_fr hx_xB μ μ' ∧ ∃ w' p', hx_bst μ' w' p' ∧ hx_gq w' p' w p ∧ hx_gq w' p' a q ∧ ((w' = w ∧ p' = p) ∨ (w' = a ∧ p' = q)) := by
    intro s
    rw [hq_Future_judge_40]
    by_cases c1 : μ.1 0 0 11 < nI a
    · rw [if_pos c1]
      rw [hx_li, h1, ea] at c1
      exact yes μ rfl (by unfold hx_gq; omega)
    · rw [if_neg c1, ite_self]
      rw [hx_li, h1, ea] at c1
      exact no μ rfl (by unfold hx_gq; omega)
  rw [hq_Future_judge, hx_bc _ hq, hx_bI, h2, hx_bc _ h3, hx_bI, hx_bc _ hq, hx_bI, h2, hx_bc _ h3, hx_bI, h2]
  by_cases c1 : hx_pp q 10 < hx_pp p 10
  · rw [if_pos (nI_lt c1 (by omega))]
    exact j36 (Or.inl c1)
  · rw [if_neg (nI_nlt (by omega) (by omega))]
    by_cases c2 : hx_pp q 10 = hx_pp p 10
    · rw [if_pos (by rw [c2])]
      by_cases c3 : q < p
      · rw [if_pos (nI_lt c3 (by omega))]
        exact j36 (Or.inr ⟨c2, c3⟩)
      · rw [if_neg (nI_nlt (by omega) (by omega))]
        exact j40 (Or.inr ⟨c2, by omega⟩)
    · rw [if_neg (by rw [nI_eq (by omega) (by omega)]; exact c2)]
      exact j40 (Or.inl (by omega))
def hx_xQ (k κ j i : Nat) : Prop := κ = 23 ∨ (κ = 0 ∧ (i = 11 ∨ i = 12)) ∨ ((κ = 6 ∨ (24 ≤ κ ∧ κ ≤ 29)) ∧ 24 + k < j)
theorem hx_tbe {n a b : Nat} (ha : a < 2 ^ n) (hb : b < 2 ^ n) (h : ∀ i, i < n → a.testBit i = b.testBit i) : a = b := by
  apply Nat.eq_of_testBit_eq
  intro i
  by_cases c : i < n
  · exact h i c
  · have hp : 2 ^ n ≤ 2 ^ i := Nat.pow_le_pow_right (by omega) (by omega)
    rw [Nat.testBit_lt_two_pow (by omega), Nat.testBit_lt_two_pow (by omega)]
theorem hx_p10 {n : Nat} (h : n ≤ 10) : 2 ^ n ≤ 1024 := Nat.pow_le_pow_right (n := 2) (by omega) h
theorem hx_bstf {X : Nat → Nat → Nat → Prop} {μ μ' : hs_M} (f : hx_fr X μ μ') (h1 : ¬ X 0 0 11) (h2 : ¬ X 0 0 12) {w : Int} {p : Nat} (h : hx_bst μ w p) : hx_bst μ' w p := by
  unfold hx_bst at *
  rw [f.1 0 0 11 h1, f.1 0 0 12 h2]
  exact h
theorem hx_srch (d : Nat) {E : hx_Env} {W : Nat} {t : hx_St} (ht : hx_tw (hx_P E) W t) {c n : Nat} (hc : c < hx_P E) (hn : n ≤ 10) (hW : W + n < 2 ^ 30) : ∀ (m k plan : Nat) (μ : hs_M) (w : Int) (p : Nat), k + m = n → plan < 2 ^ k → hx_EC μ E → hx_SC μ 0 t → hx_SC μ (24 + k) (hx_mt E c t plan k) → μ.1 0 0 9 = nI c → μ.1 0 0 10 = nI n → hx_bst μ w p → ∃ μ', hc_Future_search (d + 2 * m + 5) (nI k) (nI plan) μ = some (none, μ') ∧ hx_fr (hx_xQ k) μ μ' ∧ ∃ w' p', hx_bst μ' w' p' ∧ hx_gq w' p' w p ∧ (∀ set, set < 2 ^ n → (∀ i, i < k → set.testBit i = plan.testBit i) → hx_gq w' p' (hx_mc E c t set n) set) ∧ ((w' = w ∧ p' = p) ∨ ∃ set, set < 2 ^ n ∧ w' = (hx_mc E c t set n : Int) ∧ p' = set)
  | 0, k, plan, μ, w, p, hk, hpl, hE, h0, hs, h9, h10, hb => by
    have h8 := hE.1.1
    have e : k = n := hk
    subst e
    have h1024 := hx_p10 hn
    have ea := hx_mtot h8 (c := c) (by omega) plan ht k hW
    have le := hx_mcle E c t plan 0 k
    rw [Nat.zero_add, show hx_mc E c t plan 0 = 0 from rfl, Nat.zero_add] at le
    rw [show d + 2 * 0 + 5 = d + 5 from rfl, hq_Future_search, if_neg (nI_pos (by omega)), h10, if_neg (nI_nlt (by omega) (by omega)), if_neg (show ¬ (10 : Int32) < nI k from nI_nlt (a := 10) hn (by omega)), if_pos (hx_in (by omega) (by omega)), h9, if_pos (hx_in (by omega) (by omega)), if_pos (hx_in (by omega) (by omega)), nI_clamp (n := k) (by omega), nI_clamp (n := c) (by omega), hs.2.1 c (by omega), h0.2.1 c (by omega), ea, nI_add, pk_sub (by omega), Nat.add_sub_cancel]
    by_cases cp : nI (hx_mc E c t plan k) < μ.1 0 0 11
    · rw [if_pos cp]
      rw [hx_li, nI_toInt (by omega), hb.1] at cp
      refine ⟨μ, rfl, hx_rf _ _, w, p, hb, hx_gqr _ _, ?_, Or.inl ⟨rfl, rfl⟩⟩
      intro set h1 h2
      rw [hx_tbe h1 hpl h2]
      unfold hx_gq
      omega
    · rw [if_neg cp, if_pos rfl, hq_Future_search_81]
      obtain ⟨μ1, e1, f1, w', p', b1, g1, g2, o⟩ := hx_judge (d + 2) hb (a := hx_mc E c t plan k) (q := plan) (by omega) (by omega)
      rw [e1, hx_bV]
      refine ⟨μ1, rfl, hx_mo (fun κ b i x => by unfold hx_xB at x; unfold hx_xQ; omega) f1, w', p', b1, g1, ?_, ?_⟩
      · intro set h1 h2
        rw [hx_tbe h1 hpl h2]
        exact g2
      · rcases o with o | o
        · exact Or.inl o
        · exact Or.inr ⟨plan, hpl, o.1, o.2⟩
  | m + 1, k, plan, μ, w, p, hk, hpl, hE, h0, hs, h9, h10, hb => by
    have h8 := hE.1.1
    have h1024 := hx_p10 hn
    have ea := hx_mtot h8 (c := c) (by omega) plan ht k (by omega)
    have tws := hx_mttw h8 c plan ht k (by omega)
    have le := hx_mcle E c t plan 0 k
    rw [Nat.zero_add, show hx_mc E c t plan 0 = 0 from rfl, Nat.zero_add] at le
    have ih := hx_srch d ht hc hn hW m (k + 1)
    have pk0 : plan.testBit k = false := Nat.testBit_lt_two_pow hpl
    have hpl2 : plan < 2 ^ (k + 1) := by
      rw [Nat.pow_succ]
      omega
    rw [show d + 2 * (m + 1) + 5 = d + 2 * m + 7 by omega, hq_Future_search, if_neg (nI_pos (by omega)), h10, if_neg (nI_nlt (by omega) (by omega)), if_neg (show ¬ (10 : Int32) < nI k from nI_nlt (a := 10) (by omega) (by omega)), if_pos (hx_in (by omega) (by omega)), h9, if_pos (hx_in (by omega) (by omega)), if_pos (hx_in (by omega) (by omega)), nI_clamp (n := k) (by omega), nI_clamp (n := c) (by omega), hs.2.1 c (by omega), h0.2.1 c (by omega), ea, nI_add, pk_sub (by omega)]
    by_cases cp : nI (hx_mc E c t plan k + n - k) < μ.1 0 0 11
    · rw [if_pos cp]
      rw [hx_li, nI_toInt (by omega), hb.1] at cp
      refine ⟨μ, rfl, hx_rf _ _, w, p, hb, hx_gqr _ _, ?_, Or.inl ⟨rfl, rfl⟩⟩
      intro set h1 h2
      have l2 := hx_mcle E c t set k (n - k)
      rw [show k + (n - k) = n by omega, (hx_mtc E c t k h2).2] at l2
      unfold hx_gq
      omega
    rw [if_neg cp, if_neg (by rw [nI_eq (by omega) (by omega)]; omega), if_neg (show ¬ nI k = (10 : Int32) from by rw [show (10 : Int32) = nI 10 from rfl, nI_eq (by omega) (by omega)]; omega), nI_1, if_pos (hx_in (by omega) (by omega)), nI_clamp (n := k + 1) (by omega)]
    -- the branch in which c does not stand
    have rest : ∀ (μ1 : hs_M) (w1 : Int) (p1 : Nat), hx_fr (hx_xQ k) μ μ1 → hx_bst μ1 w1 p1 → hx_gq w1 p1 w p → ((w1 = w ∧ p1 = p) ∨ ∃ set, set < 2 ^ n ∧ w1 = (hx_mc E c t set n : Int) ∧ p1 = set) → ((∀ set, set < 2 ^ n → (∀ i, i < k → set.testBit i = plan.testBit i) → set.testBit k = true → hx_gq w1 p1 (hx_mc E c t set n) set) ∨ hx_stp E (hx_mt E c t plan k) (hx_mS E c (hx_mt E c t plan k) true) = hx_stp E (hx_mt E c t plan k) (hx_mS E c (hx_mt E c t plan k) false)) → ∃ μ', hc_Future_searchWaiting (d + 2 * m + 6) (24 + k) (24 + (k + 1)) (nI k) (nI plan) μ1 = some (none, μ') ∧ hx_fr (hx_xQ k) μ μ' ∧ ∃ w' p', hx_bst μ' w' p' ∧ hx_gq w' p' w p ∧ (∀ set, set < 2 ^ n → (∀ i, i < k → set.testBit i = plan.testBit i) → hx_gq w' p' (hx_mc E c t set n) set) ∧ ((w' = w ∧ p' = p) ∨ ∃ set, set < 2 ^ n ∧ w' = (hx_mc E c t set n : Int) ∧ p' = set) := by
      intro μ1 w1 p1 f1 b1 g1 o1 hT
      have E1 : hx_EC μ1 E := hx_ECf f1 (by intro κ i h x; unfold hx_cF at h; unfold hx_xQ at x; omega) hE
      have S1 : hx_SC μ1 (24 + k) (hx_mt E c t plan k) := hx_SCf f1 (by intro κ i h x; unfold hx_xQ at x; omega) hs
      obtain ⟨μ2, e2, f2, s2⟩ := hx_follow (d + 2 * m + 4) (j := 24 + (k + 1)) S1 (by omega)
      have f2' : hx_fr (hx_xS (24 + (k + 1))) μ1 μ2 := hx_mo (fun κ b i x => by unfold hx_xS; omega) f2
      obtain ⟨μ3, e3, f3, s3, _⟩ := hx_pass (d + 2 * m + 1) (hx_ECS f2' E1) (by omega) tws s2 0 (255 &&& (((1 : Int32) <<< (nI c &&& 31)) ^^^ (-1)))
      have s3' : hx_SC μ3 (24 + (k + 1)) (hx_mt E c t plan (k + 1)) := by
        rw [hx_mtS, pk0]
        exact s3
      have f23 : hx_fr (hx_xQ k) μ1 μ3 := hx_mo (fun κ b i x => by unfold hx_xS at x; unfold hx_xQ; omega) (hx_tr f2' f3)
      have f13 := hx_tr f1 f23
      obtain ⟨μ4, e4, f4, w2, p2, b2, g2, a2, o2⟩ := ih plan μ3 w1 p1 (by omega) hpl2 (hx_ECf f13 (by intro κ i h x; unfold hx_cF at h; unfold hx_xQ at x; omega) hE) (hx_SCf f13 (by intro κ i h x; unfold hx_xQ at x; omega) h0) s3' (by rw [f13.1 0 0 9 (by unfold hx_xQ; omega), h9]) (by rw [f13.1 0 0 10 (by unfold hx_xQ; omega), h10]) (hx_bstf (hx_tr f2' f3) (by unfold hx_xS; omega) (by unfold hx_xS; omega) b1)
      have v9 : μ2.1 0 0 9 = nI c := by rw [f2'.1 0 0 9 (by unfold hx_xS; omega), f1.1 0 0 9 (by unfold hx_xQ; omega), h9]
      rw [hq_Future_searchWaiting, e2, hx_bV, hq_Future_allButChooser, v9, hx_bI, e3, hx_bV, nI_1, e4, hx_bV]
      refine ⟨μ4, rfl, hx_tr f13 (hx_mo (fun κ b i x => by unfold hx_xQ at *; omega) f4), w2, p2, b2, hx_gqt g2 g1, ?_, ?_⟩
      · intro set q1 q2
        by_cases bk : set.testBit k = true
        · rcases hT with hT | hT
          · exact hx_gqt g2 (hT set q1 q2 bk)
          · have x1 : ∀ i, (set ^^^ 2 ^ k).testBit i = (set.testBit i ^^ decide (k = i)) := fun i => by rw [Nat.testBit_xor, Nat.testBit_two_pow]
            have xk : (set ^^^ 2 ^ k).testBit k = false := by
              rw [x1, bk, decide_eq_true rfl]
              rfl
            have xo : ∀ i, i ≠ k → set.testBit i = (set ^^^ 2 ^ k).testBit i := fun i z => by
              rw [x1, decide_eq_false (fun y => z y.symm), Bool.xor_false]
            have xl : set ^^^ 2 ^ k < 2 ^ n := Nat.xor_lt_two_pow q1 (Nat.pow_lt_pow_right (by omega) (by omega))
            have em := hx_mtc E c t k q2
            have ed := hx_mtd (E := E) (c := c) (t := t) xo (by rw [bk, xk, em.1]; exact hT) n
            have pd := hx_ppd xo bk xk 10 (by omega)
            have gs := a2 (set ^^^ 2 ^ k) xl (by
              intro i hi
              by_cases z : i = k
              · rw [z, xk, pk0]
              · rw [← xo i z]
                exact q2 i (by omega))
            apply hx_gqt gs
            rw [ed.2]
            unfold hx_gq
            omega
        · rw [Bool.not_eq_true] at bk
          apply a2 set q1
          intro i hi
          by_cases z : i = k
          · rw [z, bk, pk0]
          · exact q2 i (by omega)
      · rcases o2 with ⟨z1, z2⟩ | z
        · rw [z1, z2]
          exact o1
        · exact Or.inr z
    have both : ∀ (μ1 : hs_M) (Z : hs_M → Prop), hc_Future_searchStanding (d + 2 * m + 6) (24 + k) (24 + (k + 1)) (nI k) (nI plan) μ = some (none, μ1) → (∃ μ', hc_Future_searchWaiting (d + 2 * m + 6) (24 + k) (24 + (k + 1)) (nI k) (nI plan) μ1 = some (none, μ') ∧ Z μ') → ∃ μ', hs_bV (hc_Future_searchStanding (d + 2 * m + 6) (24 + k) (24 + (k + 1)) (nI k) (nI plan) μ) (fun μ1 => hs_bV (hc_Future_searchWaiting (d + 2 * m + 6) (24 + k) (24 + (k + 1)) (nI k) (nI plan) μ1) (fun μ2 => some ((none : Option hs_V), μ2))) = some ((none : Option hs_V), μ') ∧ Z μ' := by
      intro μ1 Z z1 ⟨μ', z2, z3⟩
      exact ⟨μ', by rw [z1, hx_bV, z2, hx_bV], z3⟩
    by_cases cs : hx_mt E c t plan k 17 = nI c
    · refine both μ _ ?_ (rest μ w p (hx_rf _ _) hb (hx_gqr _ _) (Or.inl ⟨rfl, rfl⟩) (Or.inr (hx_noeff h8 hc (Or.inl cs))))
      rw [hq_Future_searchStanding, hs.2.2.2.1, h9, if_pos cs, hq_Future_searchStanding_66]
    obtain ⟨μ1, e1, f1⟩ := hx_winner (d + 2 * m + 2) hE tws hs ((1 : Int32) <<< (nI c &&& 31)) (255 &&& (((1 : Int32) <<< (nI c &&& 31)) ^^^ (-1)))
    have f1' : hx_fr (hx_xQ k) μ μ1 := hx_mo (fun κ b i x => Or.inl x) f1
    have b1 := hx_bstf f1 (by unfold hx_xW; omega) (by unfold hx_xW; omega) hb
    have ew : hx_sa E (hx_mt E c t plan k) ((1 : Int32) <<< (nI c &&& 31)) (255 &&& (((1 : Int32) <<< (nI c &&& 31)) ^^^ (-1))) = hx_mS E c (hx_mt E c t plan k) true := rfl
    rw [ew] at e1
    have v9 : μ1.1 0 0 9 = nI c := by rw [f1.1 0 0 9 (by unfold hx_xW; omega), h9]
    by_cases cw : hx_win E (hx_mt E c t plan k) (hx_mS E c (hx_mt E c t plan k) true) (hx_P E) = nI c
    rotate_left
    · refine both μ1 _ ?_ (rest μ1 w p f1' b1 (hx_gqr _ _) (Or.inl ⟨rfl, rfl⟩) (Or.inr (hx_noeff h8 hc (Or.inr cw))))
      rw [hq_Future_searchStanding, hq_Future_allButChooser, hx_bI, hs.2.2.2.1, h9, if_neg cs, e1, hx_bI, v9, if_neg cw, hq_Future_searchStanding_66]
    obtain ⟨μ2, e2, f2, s2⟩ := hx_follow (d + 2 * m + 4) (j := 24 + (k + 1)) (hx_SCW f1 hs) (by omega)
    have f2' : hx_fr (hx_xS (24 + (k + 1))) μ1 μ2 := hx_mo (fun κ b i x => by unfold hx_xS; omega) f2
    obtain ⟨μ3, e3, f3, s3, _⟩ := hx_finish (d + 2 * m + 2) (hx_ECS f2' (hx_ECW f1 hE)) (by omega) tws s2 (w := nI c) (Or.inr ⟨c, hc, rfl⟩)
    have ob : ∀ i, (plan ||| 2 ^ k).testBit i = (plan.testBit i || decide (k = i)) := fun i => by rw [Nat.testBit_or, Nat.testBit_two_pow]
    have obk : (plan ||| 2 ^ k).testBit k = true := by
      rw [ob, decide_eq_true rfl, Bool.or_true]
    have obo : ∀ i, i < k → (plan ||| 2 ^ k).testBit i = plan.testBit i := fun i z => by
      rw [ob, decide_eq_false (by omega), Bool.or_false]
    have obl : plan ||| 2 ^ k < 2 ^ (k + 1) := Nat.or_lt_two_pow hpl2 (Nat.pow_lt_pow_right (by omega) (by omega))
    have s3' : hx_SC μ3 (24 + (k + 1)) (hx_mt E c t (plan ||| 2 ^ k) (k + 1)) := by
      rw [hx_mtS, obk, (hx_mtc E c t k obo).1]
      unfold hx_stp
      rw [cw]
      exact s3
    have f23 : hx_fr (hx_xQ k) μ1 μ3 := hx_mo (fun κ b i x => by unfold hx_xS at x; unfold hx_xQ; omega) (hx_tr f2' f3)
    have f13 := hx_tr f1' f23
    obtain ⟨μ4, e4, f4, w2, p2, b2, g2, a2, o2⟩ := ih (plan ||| 2 ^ k) μ3 w p (by omega) obl (hx_ECf f13 (by intro κ i h x; unfold hx_cF at h; unfold hx_xQ at x; omega) hE) (hx_SCf f13 (by intro κ i h x; unfold hx_xQ at x; omega) h0) s3' (by rw [f13.1 0 0 9 (by unfold hx_xQ; omega), h9]) (by rw [f13.1 0 0 10 (by unfold hx_xQ; omega), h10]) (hx_bstf (hx_tr f2' f3) (by unfold hx_xS; omega) (by unfold hx_xS; omega) b1)
    refine both μ4 _ ?_ (rest μ4 w2 p2 (hx_tr f13 (hx_mo (fun κ b i x => by unfold hx_xQ at *; omega) f4)) b2 g2 o2 (Or.inl fun set q1 q2 q3 => a2 set q1 fun i hi => by
      by_cases z : i = k
      · rw [z, q3, obk]
      · rw [obo i (by omega)]
        exact q2 i (by omega)))
    rw [hq_Future_searchStanding, hq_Future_allButChooser, hx_bI, hs.2.2.2.1, h9, if_neg cs, e1, hx_bI, v9, if_pos cw, e2, hx_bV, f2.1 0 0 9 (by omega), v9, e3, hx_bV, nI_1, hx_p2 k (by omega), hx_nor, e4, hx_bV, hq_Future_searchStanding_66]
