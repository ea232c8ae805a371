/-! ===== E: soonest, later, party, fool ===== -/
noncomputable def hx_so (E : hx_Env) (t : hx_St) (x : Int32) : Nat → Nat → Int32
  | 0, _ => -2
  | m + 1, k => if hx_by E 255 t (k + 1) 17 = x then nI (k + 1) else hx_so E t x m (k + 1)
theorem hx_soC (d : Nat) {E : hx_Env} {W : Nat} {t : hx_St} (ht : hx_tw (hx_P E) W t) (hW : W + 99 < 2 ^ 30) (x : Int32) : ∀ (m k : Nat) (μ : hs_M), k + m = 99 → hx_EC μ E → hx_SC μ 35 (hx_by E 255 t k) → ∃ μ', he_Future_weeksTill_13 (d + 4) x (nI (k + 1)) μ = some (some (vI (hx_so E t x m k)), μ') ∧ hx_fr (hx_xS 35) μ μ'
  | 0, k, μ, hk, hE, hs => by
    rw [hq_Future_weeksTill_13, if_pos (show (99 : Int32) < nI (k + 1) from nI_lt (a := 99) (by omega) (by omega))]
    exact ⟨μ, rfl, hx_rf _ _⟩
  | m + 1, k, μ, hk, hE, hs => by
    obtain ⟨μ1, e1, f1, s1, _⟩ := hx_pass d hE (by omega) (hx_bytw hE.1.1 255 ht k (by omega)) hs 0 255
    rw [← hx_byS] at s1
    rw [hq_Future_weeksTill_13, if_neg (show ¬ (99 : Int32) < nI (k + 1) from nI_nlt (a := 99) (by omega) (by omega)), e1, hx_bV, s1.2.2.2.1, nI_1]
    unfold hx_so
    by_cases c : hx_by E 255 t (k + 1) 17 = x
    · rw [if_pos c, if_pos c]
      exact ⟨μ1, rfl, f1⟩
    · rw [if_neg c, if_neg c]
      obtain ⟨μ2, e2, f2⟩ := hx_soC d ht hW x m (k + 1) μ1 (by omega) (hx_ECS f1 hE) s1
      exact ⟨μ2, e2, hx_tr f1 f2⟩
theorem hx_soR (d : Nat) {E : hx_Env} {W : Nat} {t0 t : hx_St} (ht : hx_tw (hx_P E) W t) (hW : W + 99 < 2 ^ 30) (x : Int32) : ∀ (m k : Nat) (μ : hs_M), k + m = 99 → hx_ER μ E → hx_SR μ 46 0 (hx_by E 255 t k) → hx_sf μ t0 (hx_by E 255 t k) → ∃ μ', he_M_soonest_35 (d + 6) x (nI (k + 1)) μ = some (some (vI (hx_so E t x m k)), μ') ∧ hx_fr hx_yN μ μ'
  | 0, k, μ, hk, hE, hs, h0 => by
    rw [hq_M_soonest_35, if_pos (show (99 : Int32) < nI (k + 1) from nI_lt (a := 99) (by omega) (by omega))]
    exact ⟨μ, rfl, hx_rf _ _⟩
  | m + 1, k, μ, hk, hE, hs, h0 => by
    obtain ⟨μ1, e1, f1, s1, g1⟩ := hx_goBy d hE (hx_nv0 hE.1.1) (hx_bytw hE.1.1 255 ht k (by omega)) hs h0 (n := 1) (by omega)
    have e : hx_by E 255 (hx_by E 255 t k) 1 = hx_by E 255 t (k + 1) := rfl
    rw [e] at s1 g1
    rw [hq_M_soonest_35, if_neg (show ¬ (99 : Int32) < nI (k + 1) from nI_nlt (a := 99) (by omega) (by omega)), show hc_M_goesBy (d + 6) 1 0 μ = hc_M_goesBy (d + 6) (nI 1) 0 μ from rfl, e1, hx_bV, hx_SR0 s1 (by omega), nI_1]
    unfold hx_so
    by_cases c : hx_by E 255 t (k + 1) 17 = x
    · rw [if_pos c, if_pos c]
      exact ⟨μ1, rfl, f1⟩
    · rw [if_neg c, if_neg c]
      obtain ⟨μ2, e2, f2⟩ := hx_soR d ht hW x m (k + 1) μ1 (by omega) (hx_ERN f1 hE) s1 g1
      exact ⟨μ2, e2, hx_tr f1 f2⟩
theorem hx_soonest (d : Nat) {n : Nat} (hn : n ≤ 512) {E : hx_Env} {t : hx_St} {μ : hs_M} (h : hx_I n E t μ) (x : Int32) : hx_A n μ (hc_H_soonest (d + 7) x) (hc_M_soonest (d + 7) x) := by
  have h0 := hx_I0 (hx_Ia h)
  by_cases c : hx_isP (hx_P E) x = true
  · by_cases c2 : t 17 = x
    · apply hx_Anone h (v := -3)
      · rw [hq_H_soonest, hx_thas _ h.1, hx_bI, hx_tn0, if_pos c, h.2.2.1.1.2.2.2.1, if_pos c2]
      · rw [hq_M_soonest, hx_isPM _ h0.2.1, hx_bI, hx_tn0, if_pos c, hx_SR0 h0.2.2.2.1 (by omega), if_pos c2]
    · obtain ⟨μ1, e1, f1, s1⟩ := hx_follow (d + 4) (j := 35) h.2.2.1.1 (by omega)
      have f1' : hx_fr (hx_xS 35) μ μ1 := hx_mo (fun κ b i x => by unfold hx_xS; omega) f1
      obtain ⟨μ2, e2, f2⟩ := hx_soC (d + 1) h.2.2.2.2.1 (by omega) x 99 0 μ1 (by omega) (hx_ECS f1' h.1) s1
      have q2 := hx_xSq (by omega) (hx_tr f1' f2)
      have hI := hx_I0 (hx_Ir h (hx_qCX q2))
      obtain ⟨μ3, e3, f3, s3, g3⟩ := hx_starts (d + 4) hI.2.2.2.1
      obtain ⟨μ4, e4, f4⟩ := hx_soR d (t0 := t) hI.2.2.2.2.1 (by omega) x 99 0 μ3 (by omega) (hx_ERN f3 hI.2.1) s3 (fun i hi => by rw [g3 i hi]; exact (Int32.sub_self _).symm)
      refine ⟨hx_so E t x 99 0, μ2, μ4, ?_, ?_, E, t, hx_Iq0 h q2 (hx_tr (hx_wr (hx_rf _ _) _ (by unfold hx_qR; omega)) (hx_yNq (hx_tr f3 f4)))⟩
      · rw [hq_H_soonest, hx_thas _ h.1, hx_bI, hx_tn0, if_pos c, h.2.2.1.1.2.2.2.1, if_neg c2, hq_Future_weeksTill, e1, hx_bV, show he_Future_weeksTill_13 (d + 5) x 1 μ1 = he_Future_weeksTill_13 (d + 5) x (nI (0 + 1)) μ1 from rfl, e2, hx_bI]
      · rw [hq_M_soonest, hx_isPM _ hI.2.1, hx_bI, hx_tn0, if_pos c, hx_SR0 hI.2.2.2.1 (by omega), if_neg c2, e3, hx_bV, show he_M_soonest_35 (d + 6) x 1 μ3 = he_M_soonest_35 (d + 6) x (nI (0 + 1)) μ3 from rfl, e4]
  · apply hx_Anone h (v := -1)
    · rw [hq_H_soonest, hx_thas _ h.1, hx_bI, hx_tn0, if_neg c]
    · rw [hq_M_soonest, hx_isPM _ h0.2.1, hx_bI, hx_tn0, if_neg c]
/-! later -/
theorem hx_by16 {E : hx_Env} (h8 : hx_P E ≤ 8) (a : Int32) {t : hx_St} {W : Nat} (ht : hx_tw (hx_P E) W t) {n0 : Nat} (e19 : t 19 = nI n0) : ∀ n, W + n < 2 ^ 30 → hx_by E a t n 16 = t 16 ∧ hx_by E a t n 19 = nI (n0 + n)
  | 0, _ => ⟨rfl, e19⟩
  | n + 1, h => by
    obtain ⟨i1, i2⟩ := hx_by16 h8 a ht e19 n (by omega)
    have htn := hx_bytw h8 a ht n (by omega)
    have hw : hx_wr8 (hx_P E) (hx_wo (hx_by E a t n) (hx_win E (hx_by E a t n) (hx_sa E (hx_by E a t n) 0 a) (hx_P E))) := by
      apply hx_woR htn
      rcases hx_winr E (hx_by E a t n) (hx_sa E (hx_by E a t n) 0 a) (hx_P E) with e | ⟨p, hp, e, _⟩
      · exact Or.inl e
      · exact Or.inr ⟨p, hp, e⟩
    rw [hx_byS]
    unfold hx_stp
    rw [hx_f16 h8 hw, hx_f19 h8 hw, i1, i2, nI_1]
    exact ⟨rfl, rfl⟩
theorem hx_bylo {E : hx_Env} (h8 : hx_P E ≤ 8) (a : Int32) {t : hx_St} {W : Nat} (ht : hx_tw (hx_P E) W t) {n0 : Nat} (e19 : t 19 = nI n0) (hn0 : n0 < 2 ^ 30) {n : Nat} (h : W + n < 2 ^ 30) (hn : n0 + n < 2 ^ 30) {p : Nat} (hp : p < hx_P E) (al : bt (t 16) p = true) : hx_by E a t (n + 1) p = if 0 < hx_Hl E p then hx_ic (hx_by E a t n p + hx_Hb E p ((n0 + n) % hx_Hl E p)) else hx_by E a t n p := by
  obtain ⟨i1, i2⟩ := hx_by16 h8 a ht e19 n h
  have htn := hx_bytw h8 a ht n h
  have hw : hx_wr8 (hx_P E) (hx_wo (hx_by E a t n) (hx_win E (hx_by E a t n) (hx_sa E (hx_by E a t n) 0 a) (hx_P E))) := by
    apply hx_woR htn
    rcases hx_winr E (hx_by E a t n) (hx_sa E (hx_by E a t n) 0 a) (hx_P E) with e | ⟨p, hp, e, _⟩
    · exact Or.inl e
    · exact Or.inr ⟨p, hp, e⟩
  rw [hx_byS]
  unfold hx_stp
  rw [hx_flo h8 hw (by omega), i1, i2, nI_clamp (by omega)]
  by_cases c : 0 < hx_Hl E p
  · rw [if_pos ⟨hp, al, c⟩, if_pos c]
  · rw [if_neg (by rintro ⟨_, _, x⟩; exact c x), if_neg c]
theorem hx_laL (d : Nat) {μ : hs_M} {E : hx_Env} (hE : hx_EC μ E) {t : hx_St} {W : Nat} (ht : hx_tw (hx_P E) W t) (hs : hx_SC μ 0 t) {n : Nat} (hn : W + n < 2 ^ 30) {p : Nat} (hp : p < hx_P E) (al : bt (t 16) p = true) : ∀ (m k : Nat), k + m = n → he_Town_weightLater_19 (d + 1) 0 (nI p) (nI n) (hx_by E 255 t k p) (nI (hx_Hl E p)) (nI k) μ = some (some (vI (hx_by E 255 t n p)), μ)
  | 0, k, hk => by
    rw [hq_Town_weightLater_19, if_neg (nI_nlt (by omega) (by omega)), hq_Town_weightLater_61, show k = n from hk]
  | m + 1, k, hk => by
    have h8 := hE.1.1
    have h6 := hE.1.2.1 p hp
    obtain ⟨n0, hn0, e19⟩ := ht.2.1
    have ih := hx_laL d hE ht hs hn hp al m (k + 1) (by omega)
    have st := hx_bylo h8 255 ht e19 (by omega) (n := k) (by omega) (by omega) hp al
    rw [hq_Town_weightLater_19, if_pos (nI_lt (by omega) (by omega))]
    by_cases c : 0 < hx_Hl E p
    · have hm : (n0 + k) % hx_Hl E p < hx_Hl E p := Nat.mod_lt _ c
      rw [if_pos c] at st
      rw [if_pos (show (0 : Int32) < nI (hx_Hl E p) from nI_lt (a := 0) c (by omega)), hs.2.2.2.2.2.1, e19, nI_add, hx_fm _ (by omega) c (by omega), hx_bI, hq_Town_changeAt, show nI p * 6 + nI ((n0 + k) % hx_Hl E p) = nI (6 * p + (n0 + k) % hx_Hl E p) by rw [show (6 : Int32) = nI 6 from rfl, pk_mul, nI_add, Nat.mul_comm], if_neg (nI_pos (by omega)), if_pos (show nI (6 * p + (n0 + k) % hx_Hl E p) < (48 : Int32) from nI_lt (b := 48) (by omega) (by omega)), if_pos (hx_in (by omega) (by omega)), nI_clamp (by omega), hE.2.2.2.2.2.1 p _ hp hm, hx_bI, hx_inB, hx_bI, nI_1, ← st]
      exact ih
    · rw [if_neg c] at st
      rw [if_neg (show ¬ (0 : Int32) < nI (hx_Hl E p) from nI_nlt (b := hx_Hl E p) (a := 0) (by omega) (by omega)), hq_Town_weightLater_61]
      have all : ∀ q, k + q ≤ n → hx_by E 255 t (k + q) p = hx_by E 255 t k p := by
        intro q
        induction q with
        | zero => intro _; rfl
        | succ q iq =>
          intro hq
          have := hx_bylo h8 255 ht e19 (by omega) (n := k + q) (by omega) (by omega) hp al
          rw [if_neg c] at this
          rw [show k + (q + 1) = k + q + 1 from rfl, this]
          exact iq (by omega)
      have := all (m + 1) (by omega)
      rw [show k + (m + 1) = n from hk] at this
      rw [this]
theorem hx_later (d : Nat) {n : Nat} (hn : n ≤ 512) {E : hx_Env} {t : hx_St} {μ : hs_M} (h : hx_I n E t μ) (x y : Int32) : hx_A n μ (hc_H_later (d + 7) x y) (hc_M_later (d + 7) x y) := by
  have h8 := h.1.1.1
  have h0 := hx_I0 (hx_Ia h)
  by_cases c : hx_isA (hx_P E) t x = true
  · by_cases c2 : hx_rg 0 99 y = true
    · obtain ⟨k, hk, ey⟩ := hx_rgN (n := 99) c2
      obtain ⟨p, hp, ex, al⟩ := hx_isAn h8 c
      obtain ⟨μ4, μ5, e4, e5, f5, s5, g5⟩ := hx_stBy d h0.2.1 (hx_nv0 h8) h0.2.2.2.2.1 h0.2.2.2.1 (n := k) (by omega)
      have hl := hx_laL (d + 4) h.1 h.2.2.2.2.1 h.2.2.1.1 (n := k) (by omega) hp al k 0 (by omega)
      refine ⟨hx_by E 255 t k p, μ, μ5, ?_, ?_, E, t, hx_Iq0 h (hx_rf _ _) (hx_tr (hx_wr (hx_rf _ _) _ (by unfold hx_qR; omega)) (hx_yNq f5))⟩
      · rw [hq_H_later, hx_there _ h.1 h.2.2.1.1, hx_bI, hx_tn0, if_pos c, hx_i99, if_pos c2, ex, ey, hq_Town_weightLater, if_pos (hx_in (by omega) (by omega)), if_pos (hx_in (by omega) (by omega)), nI_clamp (by omega), h.2.2.1.1.1 p (by omega), h.1.2.2.2.2.1 p hp]
        rw [show he_Town_weightLater_19 (d + 5) 0 (nI p) (nI k) (t p) (nI (hx_Hl E p)) 0 μ = he_Town_weightLater_19 (d + 5) 0 (nI p) (nI k) (hx_by E 255 t 0 p) (nI (hx_Hl E p)) (nI 0) μ from rfl, hl, hx_bI]
      · rw [hq_M_later, hx_isAM _ h0.2.1 h0.2.2.2.1, hx_bI, hx_tn0, if_pos c, hx_weeks, hx_bI, hx_tn0, if_pos c2, e4, hx_bV, ey, e5, hx_bV, ex, if_pos (hx_in (by omega) (by omega)), nI_clamp (by omega), hx_SR0 s5 (by omega)]
    · apply hx_Anone h (v := -1)
      · rw [hq_H_later, hx_there _ h.1 h.2.2.1.1, hx_bI, hx_tn0, if_pos c, hx_i99, if_neg c2, hq_H_later_18]
      · rw [hq_M_later, hx_isAM _ h0.2.1 h0.2.2.2.1, hx_bI, hx_tn0, if_pos c, hx_weeks, hx_bI, hx_tn0, if_neg c2, hq_M_later_20]
  · apply hx_Anone h (v := -1)
    · rw [hq_H_later, hx_there _ h.1 h.2.2.1.1, hx_bI, hx_tn0, if_neg c, hq_H_later_18]
    · rw [hq_M_later, hx_isAM _ h0.2.1 h0.2.2.2.1, hx_bI, hx_tn0, if_neg c, hq_M_later_20]
