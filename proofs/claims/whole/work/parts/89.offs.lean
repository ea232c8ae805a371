/-! ===== E: offs, cheats ===== -/
def hx_mf (g : Nat) (o : Int32) (t : hx_St) (pw vv : Nat → Nat) : Nat → Int32
  | 0 => 0
  | k + 1 => if hx_sh (nI g) o (t (pw k)) = nI (vv k) then hx_mf g o t pw vv k else hx_mf g o t pw vv k ||| ((1 : Int32) <<< (nI (pw k) &&& 31))
theorem hx_mfS (g : Nat) (o : Int32) (t : hx_St) (pw vv : Nat → Nat) (k : Nat) : hx_mf g o t pw vv (k + 1) = if hx_sh (nI g) o (t (pw k)) = nI (vv k) then hx_mf g o t pw vv k else hx_mf g o t pw vv k ||| ((1 : Int32) <<< (nI (pw k) &&& 31)) := rfl
theorem hx_mfT {g : Nat} {o : Int32} {t : hx_St} {pw vv : Nat → Nat} {i : Nat} (hi : i < 32) : ∀ k, (∀ j, j < k → pw j < 32) → bt (hx_mf g o t pw vv k) i = !hx_ce g o pw vv i (t i) k
  | 0, _ => b_0 i
  | k + 1, h => by
    have ih := hx_mfT (g := g) (o := o) (t := t) (pw := pw) (vv := vv) hi k (fun j hj => h j (by omega))
    have hp := h k (by omega)
    rw [hx_mfS, hx_ceS]
    by_cases c : pw k = i
    · rw [show decide (pw k ≠ i) = false from decide_eq_false (fun x => x c), Bool.false_or, c]
      by_cases c2 : hx_sh (nI g) o (t i) = nI (vv k)
      · rw [if_pos c2, decide_eq_true c2.symm, Bool.and_true, ih]
      · rw [if_neg c2, decide_eq_false (fun x => c2 x.symm), Bool.and_false, b_or, hx_one hi hi, decide_eq_true rfl, Bool.or_true]
        rfl
    · rw [show decide (pw k ≠ i) = true from decide_eq_true c, Bool.true_or, Bool.and_true, ← ih]
      split
      · rfl
      · rw [b_or, hx_one hp hi, decide_eq_false (fun x => c x.symm), Bool.or_false]
theorem hx_ceP {g : Nat} {o : Int32} {pw vv : Nat → Nat} {p : Nat} {w : Int32} : ∀ k, (∀ j, j < k → pw j ≠ p) → hx_ce g o pw vv p w k = true
  | 0, _ => rfl
  | k + 1, h => by
    rw [hx_ceS, hx_ceP k (fun j hj => h j (by omega)), show decide (pw k ≠ p) = true from decide_eq_true (h k (by omega))]
    rfl
theorem hx_mfw {g : Nat} {o : Int32} {t : hx_St} {P M : Nat} (h8 : P ≤ 8) {pw vv : Nat → Nat} (hO : hx_gO P M pw vv) : hx_bits (fun p => !hx_ce g o pw vv p (t p) M) P = hx_mf g o t pw vv M := by
  apply b_ext
  intro i hi
  rw [hx_bitsT _ hi _ (by omega), hx_mfT hi M (fun j hj => by have := (hO.2 j hj).1; omega)]
  by_cases c : i < P
  · rw [decide_eq_true c, Bool.true_and]
  · rw [decide_eq_false c, Bool.false_and, hx_ceP M (fun j hj => by have := (hO.2 j hj).1; omega)]
    rfl
theorem hx_shd (g : Nat) (w a b : Int32) : hx_sh (nI g) b (w + a - b) = hx_sh (nI g) a w := by
  unfold hx_sh
  rw [Int32.sub_add_cancel]
theorem hx_misL (d : Nat) {μ : hs_M} {E : hx_Env} (hE : hx_EC μ E) {t : hx_St} (h0 : hx_SC μ 0 t) {M : Nat} {pw vv : Nat → Nat} (hO : hx_gO (hx_P E) M pw vv) (hC : hx_gC μ M pw vv) (a : Int32) : ∀ (m k : Nat), k + m = M → he_Scale_misfits_6 (d + 1) 0 a (hx_mf (hx_G E) a t pw vv k) (nI k) μ = some (some (vI (hx_mf (hx_G E) a t pw vv M)), μ)
  | 0, k, hk => by
    have := hO.1
    rw [hq_Scale_misfits_6, hC.1, if_neg (nI_nlt (by omega) (by omega)), show k = M from hk]
  | m + 1, k, hk => by
    have h12 := hO.1
    have h8 := hE.1.1
    obtain ⟨hp, hv⟩ := hO.2 k (by omega)
    obtain ⟨c1, c2⟩ := hC.2 k (by omega)
    have ih := hx_misL d hE h0 hO hC a m (k + 1) (by omega)
    rw [hx_mfS] at ih
    rw [hq_Scale_misfits_6, hC.1, if_pos (nI_lt (by omega) (by omega)), hx_pp0 _ (by omega), hx_bI, c1, if_neg (nI_pos (by omega)), if_pos (show nI (pw k) < (8 : Int32) from nI_lt (b := 8) (by omega) (by omega)), if_pos (hx_in (by omega) (by omega)), nI_clamp (by omega), h0.1 (pw k) (by omega), hx_eS hE, hx_bI, hx_pv0 _ (by omega), hx_bI, c2, hE.2.2.2.2.2.2.2.1, show hx_sw E (t (pw k) + a - hx_O E) = hx_sh (nI (hx_G E)) a (t (pw k)) from hx_shd _ _ _ _, hq_Scale_misfits_71, hq_Scale_misfits_71, nI_1]
    by_cases c : hx_sh (nI (hx_G E)) a (t (pw k)) = nI (vv k)
    · rw [if_pos c] at ih ⊢
      exact ih
    · rw [if_neg c] at ih ⊢
      exact ih
theorem hx_misf (d : Nat) {μ : hs_M} {E : hx_Env} (hE : hx_EC μ E) {t : hx_St} (h0 : hx_SC μ 0 t) {M : Nat} {pw vv : Nat → Nat} (hO : hx_gO (hx_P E) M pw vv) (hC : hx_gC μ M pw vv) (a : Int32) : hc_Scale_misfits (d + 2) 0 a μ = some (some (vI (hx_mf (hx_G E) a t pw vv M)), μ) := by
  rw [hq_Scale_misfits]
  exact hx_misL d hE h0 hO hC a M 0 (by omega)
theorem hx_wrL (d : Nat) {μ : hs_M} {g : Nat} (hg1 : 1 ≤ g) (hg9 : g ≤ 9) {o : Int32} (e8 : μ.1 12 0 8 = nI g) (e9 : μ.1 12 0 9 = o) {P M : Nat} (h8 : P ≤ 8) (eP : μ.1 12 0 3 = nI P) {pw vv : Nat → Nat} (hO : hx_gO P M pw vv) (hR : hx_gR μ M pw vv) {t : hx_St} (hs : hx_SR μ 45 0 t) : ∀ (m k : Nat), k + m = P → he_M_wrong_4 (d + 3) (hx_bits (fun p => !hx_ce g o pw vv p (t p) M) k) (nI k) μ = some (some (vI (hx_bits (fun p => !hx_ce g o pw vv p (t p) M) P)), μ)
  | 0, k, hk => by
    rw [hq_M_wrong_4, eP, if_neg (nI_nlt (by omega) (by omega)), show k = P from hk]
  | m + 1, k, hk => by
    have ih := hx_wrL d hg1 hg9 e8 e9 h8 eP hO hR hs m (k + 1) (by omega)
    rw [hx_bitsS] at ih
    rw [hq_M_wrong_4, eP, if_pos (nI_lt (by omega) (by omega)), if_pos (hx_in (by omega) (by omega)), nI_clamp (by omega), hx_SR0 hs (by omega), hx_can d hg1 hg9 e8 e9 h8 hO hR (by omega), hx_bI, hx_tn0, nI_1, Int32.or_zero]
    by_cases c : hx_ce g o pw vv k (t k) M = true
    · rw [if_neg (by rw [c]; decide)] at ih
      rw [if_pos c]
      exact ih
    · rw [Bool.not_eq_true] at c
      rw [if_pos (by rw [c]; rfl)] at ih
      rw [if_neg (by rw [c]; decide)]
      exact ih
theorem hx_wrong (d : Nat) {μ : hs_M} {g : Nat} (hg1 : 1 ≤ g) (hg9 : g ≤ 9) {o : Int32} (e8 : μ.1 12 0 8 = nI g) (e9 : μ.1 12 0 9 = o) {P M : Nat} (h8 : P ≤ 8) (eP : μ.1 12 0 3 = nI P) {pw vv : Nat → Nat} (hO : hx_gO P M pw vv) (hR : hx_gR μ M pw vv) {t : hx_St} (hs : hx_SR μ 45 0 t) : hc_M_wrong (d + 4) μ = some (some (vI (hx_mf g o t pw vv M)), μ) := by
  rw [hq_M_wrong, ← hx_mfw h8 hO]
  exact hx_wrL d hg1 hg9 e8 e9 h8 eP hO hR hs P 0 (by omega)
/-! offs -/
def hx_fv (k : Nat) : Int32 := nI k - 9
theorem hx_fvi {k : Nat} (h : k ≤ 100) : (hx_fv k).toInt = (k : Int) - 9 := pk_sub_toInt (a := k) (b := 9) (by omega) (by omega)
theorem hx_fvS (k : Nat) : hx_fv k + 1 = hx_fv (k + 1) := by
  unfold hx_fv
  rw [nI_succ, Int32.sub_eq_add_neg, Int32.sub_eq_add_neg, Int32.add_assoc, Int32.add_assoc, Int32.add_comm (-9) 1]
theorem hx_fv9 {k : Nat} (h : k ≤ 100) : (9 : Int32) < hx_fv k ↔ 18 < k := by
  rw [hx_li, hx_fvi h, show (9 : Int32).toInt = 9 from by decide]
  omega
def hx_ook (g : Nat) (t : hx_St) (M : Nat) (pw vv : Nat → Nat) (k : Nat) : Bool := decide (hx_mf g (hx_fv k) t pw vv M = 0)
theorem hx_ofC (d : Nat) {μ : hs_M} {E : hx_Env} (hE : hx_EC μ E) {t : hx_St} (h0 : hx_SC μ 0 t) {M : Nat} {pw vv : Nat → Nat} (hO : hx_gO (hx_P E) M pw vv) (hC : hx_gC μ M pw vv) : ∀ (m k : Nat), k + m = 19 → he_H_offs_10 (d + 2) (nI (hx_sn (hx_ook (hx_G E) t M pw vv) k)) (hx_s1 (hx_ook (hx_G E) t M pw vv) hx_fv k) (hx_s2 (hx_ook (hx_G E) t M pw vv) hx_fv k) (hx_fv k) μ = he_H_offs_10 (d + 2) (nI (hx_sn (hx_ook (hx_G E) t M pw vv) 19)) (hx_s1 (hx_ook (hx_G E) t M pw vv) hx_fv 19) (hx_s2 (hx_ook (hx_G E) t M pw vv) hx_fv 19) (hx_fv 19) μ
  | 0, k, hk => by rw [show k = 19 from hk]
  | m + 1, k, hk => by
    have sl := hx_snle (hx_ook (hx_G E) t M pw vv) k
    have ih := hx_ofC d hE h0 hO hC m (k + 1) (by omega)
    rw [← ih]
    conv => lhs; rw [hq_H_offs_10]
    rw [if_neg (by rw [hx_fv9 (by omega)]; omega), hx_misf d hE h0 hO hC, hx_bI, hq_H_offs_57, hq_H_offs_57, hq_H_offs_57, hx_fvS, hx_snS, hx_s1S, hx_s2S]
    by_cases c : hx_mf (hx_G E) (hx_fv k) t pw vv M = 0
    · have z : hx_ook (hx_G E) t M pw vv k = true := decide_eq_true c
      rw [if_pos c, if_pos z, if_pos z, if_pos z, nI_1]
      by_cases y : hx_sn (hx_ook (hx_G E) t M pw vv) k = 0
      · rw [if_pos (by rw [y]; rfl), if_pos y]
      · rw [if_neg (nI_ne0 (by omega) (by omega)), if_neg y]
    · have z : ¬ hx_ook (hx_G E) t M pw vv k = true := by
        unfold hx_ook
        rw [decide_eq_false c]
        decide
      rw [if_neg c, if_neg z, if_neg z, if_neg z]
def hx_x9 (κ j i : Nat) : Prop := κ = 12 ∧ j = 0 ∧ i = 9
/-- what the reference's tries of another off rest on -/
def hx_t9 (μ : hs_M) (g P M : Nat) (pw vv : Nat → Nat) (t : hx_St) : Prop := μ.1 12 0 8 = nI g ∧ μ.1 12 0 3 = nI P ∧ hx_gR μ M pw vv ∧ hx_SR μ 45 0 t
theorem hx_t9f {μ μ' : hs_M} (f : hx_fr hx_x9 μ μ') {g P M : Nat} {pw vv : Nat → Nat} {t : hx_St} (h : hx_t9 μ g P M pw vv t) : hx_t9 μ' g P M pw vv t := by
  obtain ⟨a, b, c, e⟩ := h
  refine ⟨by rw [f.1 12 0 8 (by unfold hx_x9; omega), a], by rw [f.1 12 0 3 (by unfold hx_x9; omega), b], ⟨by rw [f.1 12 0 34 (by unfold hx_x9; omega)]; exact c.1, fun k hk => ?_⟩, hx_SRf f (by intro i _ x; unfold hx_x9 at x; omega) e⟩
  rw [f.1 59 0 k (by unfold hx_x9; omega), f.1 60 0 k (by unfold hx_x9; omega)]
  exact c.2 k hk
theorem hx_ofR (d : Nat) {g : Nat} (hg1 : 1 ≤ g) (hg9 : g ≤ 9) {P M : Nat} (h8 : P ≤ 8) {pw vv : Nat → Nat} (hO : hx_gO P M pw vv) {t : hx_St} {μ0 : hs_M} (h9 : hx_t9 μ0 g P M pw vv t) (x1 : Int32) : ∀ (m k : Nat) (μ : hs_M), k + m = 19 → hx_fr hx_x9 μ0 μ → μ.2 = μ0.2 → μ.1 12 0 9 = hx_fv k → ∃ μ', he_M_offs_23 (d + 4) x1 (nI (hx_sn (hx_ook g t M pw vv) k)) (hx_s1 (hx_ook g t M pw vv) hx_fv k) (hx_s2 (hx_ook g t M pw vv) hx_fv k) μ = hs_bV (hc_M_tellsSpan (d + 4) (nI (hx_sn (hx_ook g t M pw vv) 19)) (hx_s1 (hx_ook g t M pw vv) hx_fv 19) (hx_s2 (hx_ook g t M pw vv) hx_fv 19) (hs_wI μ' 12 0 9 x1)) (fun μ1 => some (some (vI (nI (hx_sn (hx_ook g t M pw vv) 19))), μ1)) ∧ hx_fr hx_x9 μ0 μ' ∧ μ'.2 = μ0.2
  | 0, k, μ, hk, f, l, e9 => by
    rw [hq_M_offs_23, e9, if_pos (by rw [hx_fv9 (by omega)]; omega), show k = 19 from hk]
    exact ⟨μ, rfl, f, l⟩
  | m + 1, k, μ, hk, f, l, e9 => by
    have sl := hx_snle (hx_ook g t M pw vv) k
    obtain ⟨a, b, c, e⟩ := hx_t9f f h9
    obtain ⟨μ2, e2, f2, l2⟩ := hx_ofR d hg1 hg9 h8 hO h9 x1 m (k + 1) (hs_wI μ 12 0 9 (hx_fv (k + 1))) (by omega) (hx_wr f _ ⟨rfl, rfl, rfl⟩) l (by rw [hx_rd, if_pos ⟨rfl, rfl, rfl⟩])
    refine ⟨μ2, ?_, f2, l2⟩
    rw [hq_M_offs_23, e9, if_neg (by rw [hx_fv9 (by omega)]; omega), hx_wrong d hg1 hg9 a e9 h8 b hO c e, hx_bI, e9, hq_M_offs_61, hq_M_offs_61, hq_M_offs_61, e9, hx_fvS, ← e2, hx_snS, hx_s1S, hx_s2S]
    by_cases c : hx_mf g (hx_fv k) t pw vv M = 0
    · have z : hx_ook g t M pw vv k = true := decide_eq_true c
      rw [if_pos c, if_pos z, if_pos z, if_pos z, nI_1]
      by_cases y : hx_sn (hx_ook g t M pw vv) k = 0
      · rw [if_pos (by rw [y]; rfl), if_pos y]
      · rw [if_neg (nI_ne0 (by omega) (by omega)), if_neg y]
    · have z : ¬ hx_ook g t M pw vv k = true := by
        unfold hx_ook
        rw [decide_eq_false c]
        decide
      rw [if_neg c, if_neg z, if_neg z, if_neg z]
theorem hx_offs (d : Nat) {n : Nat} (hn : n ≤ 512) {E : hx_Env} {t : hx_St} {μ : hs_M} (h : hx_I n E t μ) : hx_A n μ (hc_H_offs (d + 5)) (hc_M_offs (d + 5)) := by
  have h8 := h.1.1.1
  obtain ⟨M, pw, vv, hO, hC, hR⟩ := hx_iWx h8 h.2.2.2.2.2.2.2.2.2.1
  have sl := hx_snle (hx_ook (hx_G E) t M pw vv) 19
  obtain ⟨μ1, e1, f1, r1⟩ := hx_range (d + 2) (n := hx_sn (hx_ook (hx_G E) t M pw vv) 19) (by omega) (hx_s1 (hx_ook (hx_G E) t M pw vv) hx_fv 19) (hx_s2 (hx_ook (hx_G E) t M pw vv) hx_fv 19) μ
  have q1 := hx_xRq f1
  have hI := hx_I0 (hx_Ir h q1)
  have h9 : hx_t9 (hs_wI μ1 12 0 0 0) (hx_G E) (hx_P E) M pw vv t := ⟨hI.2.1.2.2.2.2.2.2.1, hI.2.1.2.1, hx_gRX q1 hR, hI.2.2.2.1⟩
  obtain ⟨μ2, e2, f2, l2⟩ := hx_ofR d h.1.1.2.2.1 h.1.1.2.2.2.1 h8 hO h9 (μ1.1 12 0 9) 19 0 (hs_wI (hs_wI μ1 12 0 0 0) 12 0 9 (-9)) (by omega) (hx_wr (hx_rf _ _) _ ⟨rfl, rfl, rfl⟩) rfl (by rw [hx_rd, if_pos ⟨rfl, rfl, rfl⟩]; decide)
  have e9 : μ1.1 12 0 9 = (hs_wI μ1 12 0 0 0).1 12 0 9 := by rw [hx_rd, if_neg (by omega)]
  have f3 : hx_fr hx_qR (hs_wI μ1 12 0 0 0) (hs_wI μ2 12 0 9 (μ1.1 12 0 9)) := by
    rw [e9]
    exact hx_rest f2 (fun κ j i x => Or.inr x) (fun κ j i x y => by rw [l2])
  obtain ⟨μ4, e4, f4, r4⟩ := hx_tells (d + 2) (n := hx_sn (hx_ook (hx_G E) t M pw vv) 19) (by omega) (hx_s1 (hx_ook (hx_G E) t M pw vv) hx_fv 19) (hx_s2 (hx_ook (hx_G E) t M pw vv) hx_fv 19) (hs_wI μ2 12 0 9 (μ1.1 12 0 9))
  refine ⟨nI (hx_sn (hx_ook (hx_G E) t M pw vv) 19), μ1, μ4, ?_, ?_, E, t, hx_Iq1 h q1 r1 (hx_tr (hx_tr (hx_wr (hx_rf _ _) _ (by unfold hx_qY hx_qR; omega)) (hx_qRY f3)) (hx_yRq f4)) r4⟩
  · rw [hq_H_offs, show he_H_offs_10 (d + 4) 0 0 0 (-9) μ = he_H_offs_10 (d + 2 + 2) (nI (hx_sn (hx_ook (hx_G E) t M pw vv) 0)) (hx_s1 (hx_ook (hx_G E) t M pw vv) hx_fv 0) (hx_s2 (hx_ook (hx_G E) t M pw vv) hx_fv 0) (hx_fv 0) μ from by rw [show hx_fv 0 = -9 from by decide]; rfl, hx_ofC (d + 2) h.1 h.2.2.1.1 hO hC 19 0 (by omega), hq_H_offs_10, if_pos (by rw [hx_fv9 (by omega)]; omega), e1, hx_bV]
  · rw [hq_M_offs]
    rw [show he_M_offs_23 (d + 4) (μ1.1 12 0 9) 0 0 0 (hs_wI (hs_wI μ1 12 0 0 0) 12 0 9 (-9)) = he_M_offs_23 (d + 4) (μ1.1 12 0 9) (nI (hx_sn (hx_ook (hx_G E) t M pw vv) 0)) (hx_s1 (hx_ook (hx_G E) t M pw vv) hx_fv 0) (hx_s2 (hx_ook (hx_G E) t M pw vv) hx_fv 0) (hs_wI (hs_wI μ1 12 0 0 0) 12 0 9 (-9)) from rfl, e2, e4, hx_bV]
/-! cheats -/
def hx_pc' (x : Int32) : Int32 := hx_c5 (hx_c4 (hx_c3 (hx_c2 (hx_c1 x)))) &&& 63
def hx_ch (g : Nat) (t : hx_St) (M : Nat) (pw vv : Nat → Nat) : Nat → Int32 × (Int32 × Int32)
  | 0 => (9, 0, 0)
  | k + 1 => if hx_pc' (hx_mf g (hx_fv k) t pw vv M) < (hx_ch g t M pw vv k).1 then (hx_pc' (hx_mf g (hx_fv k) t pw vv M), hx_mf g (hx_fv k) t pw vv M, hx_fv k) else hx_ch g t M pw vv k
theorem hx_chS' (g : Nat) (t : hx_St) (M : Nat) (pw vv : Nat → Nat) (k : Nat) : hx_ch g t M pw vv (k + 1) = if hx_pc' (hx_mf g (hx_fv k) t pw vv M) < (hx_ch g t M pw vv k).1 then (hx_pc' (hx_mf g (hx_fv k) t pw vv M), hx_mf g (hx_fv k) t pw vv M, hx_fv k) else hx_ch g t M pw vv k := rfl
theorem hx_bcp (d : Nat) (x : Int32) (μ : hs_M) : hc_Int_bitCount (d + 1) x μ = some (some (vI (hx_pc' x)), μ) := hx_bcE d x μ
theorem hx_chC (d : Nat) {μ : hs_M} {E : hx_Env} (hE : hx_EC μ E) {t : hx_St} (h0 : hx_SC μ 0 t) {M : Nat} {pw vv : Nat → Nat} (hO : hx_gO (hx_P E) M pw vv) (hC : hx_gC μ M pw vv) : ∀ (m k : Nat), k + m = 19 → he_H_cheats_11 (d + 2) (hx_ch (hx_G E) t M pw vv k).1 (hx_ch (hx_G E) t M pw vv k).2.1 (hx_ch (hx_G E) t M pw vv k).2.2 (hx_fv k) μ = he_H_cheats_11 (d + 2) (hx_ch (hx_G E) t M pw vv 19).1 (hx_ch (hx_G E) t M pw vv 19).2.1 (hx_ch (hx_G E) t M pw vv 19).2.2 (hx_fv 19) μ
  | 0, k, hk => by rw [show k = 19 from hk]
  | m + 1, k, hk => by
    have ih := hx_chC d hE h0 hO hC m (k + 1) (by omega)
    rw [← ih]
    conv => lhs; rw [hq_H_cheats_11]
    rw [if_neg (by rw [hx_fv9 (by omega)]; omega), hx_misf d hE h0 hO hC, hx_bI, hx_bcp, hx_bI, hx_bcp, hx_bI, hq_H_cheats_61, hq_H_cheats_61, hx_fvS, hx_chS']
    by_cases c : hx_pc' (hx_mf (hx_G E) (hx_fv k) t pw vv M) < (hx_ch (hx_G E) t M pw vv k).1
    · rw [if_pos c, if_pos c]
    · rw [if_neg c, if_neg c]
theorem hx_chR' (d : Nat) {g : Nat} (hg1 : 1 ≤ g) (hg9 : g ≤ 9) {P M : Nat} (h8 : P ≤ 8) {pw vv : Nat → Nat} (hO : hx_gO P M pw vv) {t : hx_St} {μ0 : hs_M} (h9 : hx_t9 μ0 g P M pw vv t) (x1 : Int32) : ∀ (m k : Nat) (μ : hs_M), k + m = 19 → hx_fr hx_x9 μ0 μ → μ.2 = μ0.2 → μ.1 12 0 9 = hx_fv k → ∃ μ', he_M_cheats_24 (d + 4) x1 (hx_ch g t M pw vv k).1 (hx_ch g t M pw vv k).2.1 (hx_ch g t M pw vv k).2.2 μ = hs_bV (hc_M_enters (d + 4) (hx_ch g t M pw vv 19).2.1.toInt64 (hs_wI (hs_wI μ' 12 0 9 x1) 12 0 1 0)) (fun μ1 => hs_bV (hc_M_enters (d + 4) (hx_ch g t M pw vv 19).2.2.toInt64 μ1) (fun μ2 => some (some (vI (hx_ch g t M pw vv 19).1), μ2))) ∧ hx_fr hx_x9 μ0 μ' ∧ μ'.2 = μ0.2
  | 0, k, μ, hk, f, l, e9 => by
    rw [hq_M_cheats_24, e9, if_pos (by rw [hx_fv9 (by omega)]; omega), show k = 19 from hk]
    exact ⟨μ, rfl, f, l⟩
  | m + 1, k, μ, hk, f, l, e9 => by
    obtain ⟨a, b, c, e⟩ := hx_t9f f h9
    obtain ⟨μ2, e2, f2, l2⟩ := hx_chR' d hg1 hg9 h8 hO h9 x1 m (k + 1) (hs_wI μ 12 0 9 (hx_fv (k + 1))) (by omega) (hx_wr f _ ⟨rfl, rfl, rfl⟩) l (by rw [hx_rd, if_pos ⟨rfl, rfl, rfl⟩])
    refine ⟨μ2, ?_, f2, l2⟩
    rw [hq_M_cheats_24, e9, if_neg (by rw [hx_fv9 (by omega)]; omega), hx_wrong d hg1 hg9 a e9 h8 b hO c e, hx_bI, hx_bcp, hx_bI, hx_bcp, hx_bI, e9, hq_M_cheats_63, hq_M_cheats_63, e9, hx_fvS, ← e2, hx_chS']
    by_cases c : hx_pc' (hx_mf g (hx_fv k) t pw vv M) < (hx_ch g t M pw vv k).1
    · rw [if_pos c, if_pos c]
    · rw [if_neg c, if_neg c]
theorem hx_cheats (d : Nat) {n : Nat} (hn : n ≤ 512) {E : hx_Env} {t : hx_St} {μ : hs_M} (h : hx_I n E t μ) : hx_A n μ (hc_H_cheats (d + 5)) (hc_M_cheats (d + 5)) := by
  have h8 := h.1.1.1
  obtain ⟨M, pw, vv, hO, hC, hR⟩ := hx_iWx h8 h.2.2.2.2.2.2.2.2.2.1
  obtain ⟨μ0, e0, f0, r0⟩ := hx_begin (d + 2) μ (hx_ch (hx_G E) t M pw vv 19).2.1.toInt64
  obtain ⟨μ1, e1, f1, r1⟩ := hx_add (d + 3) r0 (by show 1 < 16; omega) (hx_ch (hx_G E) t M pw vv 19).2.2.toInt64
  have q1 := hx_xRq (hx_tr f0 f1)
  have hI := hx_I0 (hx_Ir h q1)
  have h9 : hx_t9 (hs_wI μ1 12 0 0 0) (hx_G E) (hx_P E) M pw vv t := ⟨hI.2.1.2.2.2.2.2.2.1, hI.2.1.2.1, hx_gRX q1 hR, hI.2.2.2.1⟩
  obtain ⟨μ2, e2, f2, l2⟩ := hx_chR' d h.1.1.2.2.1 h.1.1.2.2.2.1 h8 hO h9 (μ1.1 12 0 9) 19 0 (hs_wI (hs_wI μ1 12 0 0 0) 12 0 9 (-9)) (by omega) (hx_wr (hx_rf _ _) _ ⟨rfl, rfl, rfl⟩) rfl (by rw [hx_rd, if_pos ⟨rfl, rfl, rfl⟩]; decide)
  have e9 : μ1.1 12 0 9 = (hs_wI μ1 12 0 0 0).1 12 0 9 := by rw [hx_rd, if_neg (by omega)]
  have f3 : hx_fr hx_qR (hs_wI μ1 12 0 0 0) (hs_wI μ2 12 0 9 (μ1.1 12 0 9)) := by
    rw [e9]
    exact hx_rest f2 (fun κ j i x => Or.inr x) (fun κ j i x y => by rw [l2])
  obtain ⟨μ3, e3, f3', r3⟩ := hx_ent (d + 3) (hx_rwz (hs_wI μ2 12 0 9 (μ1.1 12 0 9))) (by decide) (hx_ch (hx_G E) t M pw vv 19).2.1.toInt64
  obtain ⟨μ4, e4, f4, r4⟩ := hx_ent (d + 3) r3 (by show 1 < 16; omega) (hx_ch (hx_G E) t M pw vv 19).2.2.toInt64
  refine ⟨(hx_ch (hx_G E) t M pw vv 19).1, μ1, μ4, ?_, ?_, E, t, hx_Iq1 h q1 r1 (hx_tr (hx_tr (hx_tr (hx_wr (hx_rf _ _) _ (by unfold hx_qY hx_qR; omega)) (hx_qRY f3)) (hx_wr (hx_rf _ _) _ (by unfold hx_qY; omega))) (hx_tr (hx_yRq f3') (hx_yRq f4))) r4⟩
  · rw [hq_H_cheats, show he_H_cheats_11 (d + 4) 9 0 0 (-9) μ = he_H_cheats_11 (d + 2 + 2) (hx_ch (hx_G E) t M pw vv 0).1 (hx_ch (hx_G E) t M pw vv 0).2.1 (hx_ch (hx_G E) t M pw vv 0).2.2 (hx_fv 0) μ from by rw [show hx_fv 0 = -9 from by decide]; rfl, hx_chC (d + 2) h.1 h.2.2.1.1 hO hC 19 0 (by omega), hq_H_cheats_11, if_pos (by rw [hx_fv9 (by omega)]; omega), e0, hx_bV, e1, hx_bV]
  · rw [hq_M_cheats]
    rw [show he_M_cheats_24 (d + 4) (μ1.1 12 0 9) 9 0 0 (hs_wI (hs_wI μ1 12 0 0 0) 12 0 9 (-9)) = he_M_cheats_24 (d + 4) (μ1.1 12 0 9) (hx_ch (hx_G E) t M pw vv 0).1 (hx_ch (hx_G E) t M pw vv 0).2.1 (hx_ch (hx_G E) t M pw vv 0).2.2 (hs_wI (hs_wI μ1 12 0 0 0) 12 0 9 (-9)) from rfl, e2, e3, hx_bV, e4, hx_bV]
