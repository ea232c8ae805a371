/-! ===== E: the most weeks: the reference, and both ===== -/
theorem hx_moS {E : hx_Env} (h8 : hx_P E ≤ 8) {c : Nat} (hc : c < hx_P E) (s : hx_St) (b : Bool) : hx_stp E s (bt ((hx_wb E s (hx_P E) &&& (((1 : Int32) <<< (nI c &&& 31)) ^^^ (-1))) ||| (if b = true then (1 : Int32) <<< (nI c &&& 31) else 0))) = hx_stp E s (hx_mS E c s b) := by
  apply hx_stc
  intro p hp al
  rw [b_or, b_and, hx_wbt E s (by omega) _ (by omega), hx_not _ (by omega), al, decide_eq_true hp]
  unfold hx_mS hx_sa
  rw [hx_bo (by omega) (by omega), hx_one (by omega) (by omega)]
  have e : decide (p ≠ c) = !decide (p = c) := by
    by_cases z : p = c
    · rw [decide_eq_true z, decide_eq_false (fun x => x z)]
      rfl
    · rw [decide_eq_false z, decide_eq_true z]
      rfl
  rw [e]
  generalize bt (if b = true then (1 : Int32) <<< (nI c &&& 31) else 0) p = x
  generalize decide (hx_ww E s p ≠ 0) = y
  cases x <;> cases y <;> cases decide (p = c) <;> rfl
theorem hx_moL (d : Nat) {E : hx_Env} {W : Nat} {t : hx_St} (ht : hx_tw (hx_P E) W t) {c n : Nat} (hc : c < hx_P E) (hn : n ≤ 10) (hW : W + n < 2 ^ 30) (x3 x4 : Int32) {set : Nat} (hset : set < 2 ^ 31) : ∀ (m k : Nat) (μ : hs_M), k + m = n → hx_ER μ E → hx_SR μ 46 0 (hx_mt E c t set k) → hx_sf μ t (hx_mt E c t set k) → ∃ μ', he_M_most_50 (d + 5) (nI c) (nI n) x3 x4 (nI set) (nI k) μ = he_M_most_50 (d + 5) (nI c) (nI n) x3 x4 (nI set) (nI n) μ' ∧ hx_fr hx_yN μ μ' ∧ hx_sf μ' t (hx_mt E c t set n)
  | 0, k, μ, hk, hE, hs, h0 => by
    have e : k = n := hk
    subst e
    exact ⟨μ, rfl, hx_rf _ _, h0⟩
  | m + 1, k, μ, hk, hE, hs, h0 => by
    have h8 := hE.1.1
    have tw := hx_mttw h8 c set ht k (by omega)
    obtain ⟨μ1, e1, f1⟩ := hx_willing d (κ := 46) (Or.inr (Or.inl rfl)) hE tw hs
    have f1' : hx_fr hx_yN μ μ1 := hx_mo (fun κ b i x => Or.inl x) f1
    have s1 := hx_SRV f1 (κ := 46) (by omega) hs
    have h1 : hx_sf μ1 t (hx_mt E c t set k) := fun i hi => by
      rw [f1.1 57 0 i (by unfold hx_xV; omega)]
      exact h0 i hi
    obtain ⟨μ2, e2, f2, s2, h2⟩ := hx_goNext (d + 1) (hx_ERV f1 hE) (by omega) tw s1 h1 ((hx_wb E (hx_mt E c t set k) (hx_P E) &&& (((1 : Int32) <<< (nI c &&& 31)) ^^^ (-1))) ||| (if set.testBit k = true then (1 : Int32) <<< (nI c &&& 31) else 0))
    rw [hx_moS h8 hc, ← hx_mtS] at s2 h2
    obtain ⟨μ3, e3, f3, h3⟩ := hx_moL d ht hc hn hW x3 x4 hset m (k + 1) μ2 (by omega) (hx_ERN f2 (hx_ERV f1 hE)) s2 h2
    refine ⟨μ3, ?_, hx_tr (hx_tr f1' f2) f3, h3⟩
    rw [← e3]
    conv => lhs; rw [hq_M_most_50]
    rw [if_pos (nI_lt (by omega) (by omega)), e1, hx_bI, hx_has _ _ (by omega), hx_bI, hx_tn0, hx_nb _ (by omega), nI_1]
    by_cases z : set.testBit k = true
    · rw [if_pos z] at e2 ⊢
      rw [e2, hx_bV]
    · rw [if_neg z] at e2 ⊢
      rw [e2, hx_bV]
/-- the best of the sets below k -/
def hx_bsf (E : hx_Env) (c : Nat) (t : hx_St) (n k : Nat) (w : Int) (p : Nat) : Prop := (∀ s, s < k → hx_gq w p (hx_mc E c t s n) s) ∧ ((k = 0 ∧ w = -1 ∧ p = 0) ∨ (p < k ∧ w = (hx_mc E c t p n : Int)))
theorem hx_moR (d : Nat) {E : hx_Env} {W : Nat} {t : hx_St} (ht : hx_tw (hx_P E) W t) {c n : Nat} (hc : c < hx_P E) (hn : n ≤ 10) (hW : W + n < 2 ^ 30) : ∀ (m k : Nat) (μ : hs_M) (x3 : Int32) (p : Nat), k + m = 2 ^ n → hx_ER μ E → hx_SR μ 45 0 t → hx_bsf E c t n k x3.toInt p → ∃ μ', ∃ v : Int32, ∃ q : Nat, he_M_most_35 (d + 5) (nI c) (nI n) x3 (nI p) (nI k) μ = some (some (vI v), μ') ∧ hx_fr hx_qY μ μ' ∧ hx_bsf E c t n (2 ^ n) v.toInt q ∧ hx_rwR μ' [(nI q).toInt64]
  | 0, k, μ, x3, p, hk, hE, hs, hb => by
    have h1024 := hx_p10 hn
    have e : k = 2 ^ n := hk
    subst e
    have f0 : hx_fr hx_yR μ (hs_wI μ 12 0 1 0) := hx_wr (hx_rf _ _) _ (by unfold hx_yR; omega)
    obtain ⟨μ1, e1, f1, r1⟩ := hx_ent (d + 4) (hx_rwz μ) (by decide) (nI p).toInt64
    rw [hq_M_most_35, hx_p2 n (by omega), if_neg (nI_nlt (by omega) (by omega)), e1, hx_bV]
    exact ⟨μ1, x3, p, rfl, hx_yRq (hx_tr f0 f1), hb, r1⟩
  | m + 1, k, μ, x3, p, hk, hE, hs, hb => by
    have h8 := hE.1.1
    have h1024 := hx_p10 hn
    obtain ⟨μ1, e1, f1, s1, g1⟩ := hx_starts (d + 3) hs
    obtain ⟨μ2, e2, f2, h2⟩ := hx_moL d ht hc hn hW x3 (nI p) (set := k) (by omega) n 0 μ1 (by omega) (hx_ERN f1 hE) s1 (fun i hi => by rw [g1 i hi]; exact (Int32.sub_self _).symm)
    have q2 := hx_qRY (hx_yNq (hx_tr f1 f2))
    have E2 := hx_ERq q2 hE
    have S2 := hx_SRq q2 hs
    have ea := hx_mtot h8 (c := c) (by omega) k ht n hW
    have le := hx_mcle E c t k 0 n
    rw [Nat.zero_add, show hx_mc E c t k 0 = 0 from rfl, Nat.zero_add] at le
    have hv : μ2.1 57 0 c = nI (hx_mc E c t k n) := by
      rw [h2 c (by omega), ea]
    have ev : (nI (hx_mc E c t k n)).toInt = (hx_mc E c t k n : Int) := nI_toInt (by omega)
    have hp : p < 1024 := by
      rcases hb.2 with ⟨_, _, z⟩ | ⟨z, _⟩ <;> omega
    have go := fun x3 p => hx_moR d ht hc hn hW m (k + 1) μ2 x3 p (by omega) E2 S2
    have take : hx_gq (hx_mc E c t k n) k x3.toInt p → ∃ μ', ∃ v : Int32, ∃ q : Nat, he_M_most_143 (d + 5) (nI c) (nI n) (nI k) μ2 = some (some (vI v), μ') ∧ hx_fr hx_qY μ μ' ∧ hx_bsf E c t n (2 ^ n) v.toInt q ∧ hx_rwR μ' [(nI q).toInt64] := by
      intro g
      obtain ⟨μ', v, q, e, f, b, r⟩ := go (nI (hx_mc E c t k n)) k (by
        rw [ev]
        refine ⟨?_, Or.inr ⟨by omega, rfl⟩⟩
        intro s hs
        by_cases z : s = k
        · rw [z]
          exact hx_gqr _ _
        · exact hx_gqt g (hb.1 s (by omega)))
      rw [hq_M_most_143, if_pos (hx_in (by omega) (by omega)), nI_clamp (by omega), hv, nI_1]
      exact ⟨μ', v, q, e, hx_tr q2 f, b, r⟩
    have skip : hx_gq x3.toInt p (hx_mc E c t k n) k → ∃ μ', ∃ v : Int32, ∃ q : Nat, he_M_most_35 (d + 5) (nI c) (nI n) x3 (nI p) (nI k + 1) μ2 = some (some (vI v), μ') ∧ hx_fr hx_qY μ μ' ∧ hx_bsf E c t n (2 ^ n) v.toInt q ∧ hx_rwR μ' [(nI q).toInt64] := by
      intro g
      obtain ⟨μ', v, q, e, f, b, r⟩ := go x3 p (by
        refine ⟨?_, ?_⟩
        · intro s hs
          by_cases z : s = k
          · rw [z]
            exact g
          · exact hb.1 s (by omega)
        · rcases hb.2 with ⟨z1, z2, z3⟩ | ⟨z1, z2⟩
          · exfalso
            unfold hx_gq at g
            omega
          · exact Or.inr ⟨by omega, z2⟩)
      rw [nI_1]
      exact ⟨μ', v, q, e, hx_tr q2 f, b, r⟩
    have m125 : (x3.toInt = (hx_mc E c t k n : Int) → ¬ hx_pp k 10 < hx_pp p 10) → ∃ μ', ∃ v : Int32, ∃ q : Nat, he_M_most_125 (d + 5) (nI c) (nI n) x3 (nI p) (nI k) μ2 = some (some (vI v), μ') ∧ hx_fr hx_qY μ μ' ∧ hx_bsf E c t n (2 ^ n) v.toInt q ∧ hx_rwR μ' [(nI q).toInt64] := by
      intro z
      rw [hq_M_most_125, if_pos (hx_in (by omega) (by omega)), nI_clamp (by omega), hv]
      by_cases c1 : x3 < nI (hx_mc E c t k n)
      · rw [if_pos c1]
        rw [hx_li, ev] at c1
        exact take (by unfold hx_gq; omega)
      · rw [if_neg c1]
        rw [hx_li, ev] at c1
        apply skip
        have pk : p ≤ k := by
          rcases hb.2 with ⟨_, _, y⟩ | ⟨y, _⟩ <;> omega
        by_cases z2 : x3.toInt = (hx_mc E c t k n : Int)
        · have := z z2
          unfold hx_gq
          omega
        · unfold hx_gq
          omega
    rw [hq_M_most_35, hx_p2 n (by omega), if_pos (nI_lt (by omega) (by omega)), e1, hx_bV, show he_M_most_50 (d + 5) (nI c) (nI n) x3 (nI p) (nI k) 0 μ1 = he_M_most_50 (d + 5) (nI c) (nI n) x3 (nI p) (nI k) (nI 0) μ1 from rfl, e2, hq_M_most_50, if_neg (nI_nlt (by omega) (by omega)), if_pos (hx_in (by omega) (by omega)), nI_clamp (by omega), hv, hx_bc _ (by omega), hx_bI, hx_bc _ hp, hx_bI, if_pos (hx_in (by omega) (by omega)), ite_self]
    have b1 := hx_pple k 10
    have b2 := hx_pple p 10
    by_cases c1 : nI (hx_mc E c t k n) = x3
    · rw [if_pos c1]
      have c1' : x3.toInt = (hx_mc E c t k n : Int) := by rw [← c1, ev]
      by_cases c2 : hx_pp k 10 < hx_pp p 10
      · rw [if_pos (nI_lt c2 (by omega))]
        exact take (by unfold hx_gq; omega)
      · rw [if_neg (nI_nlt (by omega) (by omega))]
        exact m125 (fun _ => c2)
    · rw [if_neg c1]
      apply m125
      intro z
      exfalso
      apply c1
      rw [hx_ei, ev, z]
theorem hx_most (d : Nat) {n : Nat} (hn : n ≤ 512) {E : hx_Env} {t : hx_St} {μ : hs_M} (h : hx_I n E t μ) (x y : Int32) : hx_A n μ (hc_H_most (d + 30) x y) (hc_M_most (d + 30) x y) := by
  have h8 := h.1.1.1
  have h0 := hx_I0 (hx_Ia h)
  have ec : ∀ A B : Option (Option hs_V × hs_M), (if y < 0 then A else if 10 < y then A else B) = if hx_rg 0 10 y = true then B else A := fun A B => hx_if2 y 0 10 A B
  have er : hx_rg (Int64.toInt 0) (Int64.toInt 10) y = hx_rg 0 10 y := rfl
  by_cases c : hx_isA (hx_P E) t x = true
  · by_cases c2 : hx_rg 0 10 y = true
    · obtain ⟨k, hk, ey⟩ := hx_rgN (n := 10) c2
      obtain ⟨p, hp, ex, al⟩ := hx_isAn h8 c
      have f0 : hx_fr hx_qC μ (hs_wI (hs_wI (hs_wI (hs_wI μ 0 0 9 (nI p)) 0 0 10 (nI k)) 0 0 11 (-1)) 0 0 12 0) := hx_wr (hx_wr (hx_wr (hx_wr (hx_rf _ _) _ (Or.inl rfl)) _ (Or.inl rfl)) _ (Or.inl rfl)) _ (Or.inl rfl)
      obtain ⟨μ1, e1, f1, s1⟩ := hx_follow (d + 27) (j := 24) (hx_SCq (hx_qCX f0) (by omega) h.2.2.1.1) (by omega)
      have f1' : hx_fr hx_qC _ μ1 := hx_mo (fun κ b i x => by unfold hx_qC; omega) f1
      have q1 := hx_tr f0 f1'
      obtain ⟨μ2, e2, f2, w, p', b, g, al2, o⟩ := hx_srch (d + (23 - 2 * k)) (E := E) h.2.2.2.2.1 hp hk (by omega) k 0 0 μ1 (-1) 0 (by omega) (by decide) (hx_ECq (hx_qCX q1) h.1) (hx_SCq (hx_qCX q1) (by omega) h.2.2.1.1) s1 (by rw [f1.1 0 0 9 (by omega), hx_rd, if_neg (by omega), hx_rd, if_neg (by omega), hx_rd, if_neg (by omega), hx_rd, if_pos ⟨rfl, rfl, rfl⟩]) (by rw [f1.1 0 0 10 (by omega), hx_rd, if_neg (by omega), hx_rd, if_neg (by omega), hx_rd, if_pos ⟨rfl, rfl, rfl⟩]) ⟨by rw [f1.1 0 0 11 (by omega), hx_rd, if_neg (by omega), hx_rd, if_pos ⟨rfl, rfl, rfl⟩]; decide, by rw [f1.1 0 0 12 (by omega), hx_rd, if_pos ⟨rfl, rfl, rfl⟩]; rfl, by omega, by omega, by omega⟩
      rw [show d + (23 - 2 * k) + 2 * k + 5 = d + 28 by omega] at e2
      have q2 : hx_fr hx_qC μ μ2 := hx_tr q1 (hx_mo (fun κ b i x => by unfold hx_xQ at x; unfold hx_qC; omega) f2)
      obtain ⟨μ3, e3, f3, r3⟩ := hx_begin (d + 26) μ2 (nI p').toInt64
      have q3 := hx_tr (hx_qCX q2) (hx_xRq f3)
      have hI := hx_I0 (hx_Ir h q3)
      obtain ⟨μ4, v, q, e4, f4, b4, r4⟩ := hx_moR (d + 24) (E := E) h.2.2.2.2.1 hp hk (by omega) (2 ^ k) 0 (hs_wI μ3 12 0 0 0) (-1) 0 (by omega) hI.2.1 hI.2.2.2.1 ⟨fun s hs => absurd hs (by omega), Or.inl ⟨rfl, by decide, rfl⟩⟩
      have pos : 0 < 2 ^ k := Nat.two_pow_pos k
      have b4' : q < 2 ^ k ∧ v.toInt = (hx_mc E p t q k : Int) := by
        rcases b4.2 with ⟨z, _⟩ | z
        · omega
        · exact z
      have o' : p' < 2 ^ k ∧ w = (hx_mc E p t p' k : Int) := by
        rcases o with ⟨z1, z2⟩ | ⟨set, z1, z2, z3⟩
        · exfalso
          have := al2 0 pos (fun i hi => absurd hi (by omega))
          unfold hx_gq at this
          omega
        · rw [z3]
          exact ⟨z1, z2⟩
      have same : w = v.toInt ∧ p' = q := by
        apply hx_gqa
        · rw [b4'.2]
          exact al2 q b4'.1 (fun i hi => absurd hi (by omega))
        · rw [o'.2]
          exact b4.1 p' o'.1
      have ev : μ3.1 0 0 11 = v := by
        rw [f3.1 0 0 11 (by unfold hx_xR; omega), hx_ei, b.1, same.1]
      refine ⟨v, μ3, μ4, ?_, ?_, E, t, hx_Iq1 h q3 r3 (hx_tr (hx_wr (hx_rf _ _) _ (by unfold hx_qY hx_qR; omega)) f4) (by rw [same.2]; exact r4)⟩
      · rw [hq_H_most, hx_there _ h.1 h.2.2.1.1, hx_bI, hx_tn0, if_pos c, ec, if_pos c2, ex, ey, hq_Future_bestStanding, e1, hx_bV, show hc_Future_search (d + 28) 0 0 μ1 = hc_Future_search (d + 28) (nI 0) (nI 0) μ1 from rfl, e2, hx_bV, b.2.1, e3, hx_bV, hx_bI, ev]
      · rw [hq_M_most, hx_isAM _ hI.2.1 hI.2.2.2.1, hx_bI, hx_tn0, if_pos c, hx_inR, hx_bI, hx_tn0, er, if_pos c2, ex, ey]
        exact e4
    · apply hx_Anone h (v := -1)
      · rw [hq_H_most, hx_there _ h.1 h.2.2.1.1, hx_bI, hx_tn0, if_pos c, ec, if_neg c2, hq_H_most_18]
      · rw [hq_M_most, hx_isAM _ h0.2.1 h0.2.2.2.1, hx_bI, hx_tn0, if_pos c, hx_inR, hx_bI, hx_tn0, er, if_neg c2, hq_M_most_25]
  · apply hx_Anone h (v := -1)
    · rw [hq_H_most, hx_there _ h.1 h.2.2.1.1, hx_bI, hx_tn0, if_neg c, hq_H_most_18]
    · rw [hq_M_most, hx_isAM _ h0.2.1 h0.2.2.2.1, hx_bI, hx_tn0, if_neg c, hq_M_most_25]
