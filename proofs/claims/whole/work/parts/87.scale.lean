/-! ===== E: the scale: what weighings tell ===== -/
theorem hx_bm0 {x : Int} (h1 : -2147483648 ≤ x) (h2 : x < 2147483648) : Int.bmod x (2 ^ 32) = x := by
  unfold Int.bmod
  dsimp only
  split <;> omega
theorem hx_ai {a b : Int32} (h1 : -2147483648 ≤ a.toInt + b.toInt) (h2 : a.toInt + b.toInt < 2147483648) : (a + b).toInt = a.toInt + b.toInt := by
  rw [Int32.toInt_add, hx_bm0 h1 h2]
theorem hx_di {a b : Int32} (h1 : -2147483648 ≤ a.toInt - b.toInt) (h2 : a.toInt - b.toInt < 2147483648) : (a - b).toInt = a.toInt - b.toInt := by
  rw [Int32.toInt_sub, hx_bm0 h1 h2]
theorem hx_mxi (a b : Int32) : (hx_mx a b).toInt = max a.toInt b.toInt := by
  unfold hx_mx
  by_cases c : a < b
  · rw [if_pos c]
    rw [hx_li] at c
    omega
  · rw [if_neg c]
    rw [hx_li] at c
    omega
theorem hx_mni (a b : Int32) : (hx_mn a b).toInt = min a.toInt b.toInt := by
  unfold hx_mn
  by_cases c : b < a
  · rw [if_pos c]
    rw [hx_li] at c
    omega
  · rw [if_neg c]
    rw [hx_li] at c
    omega
theorem hx_pv0 (d : Nat) {k : Nat} (hk : k < 12) (μ : hs_M) : hc_Pairs_value (d + 1) 0 (nI k) μ = some (some (vI (μ.1 34 0 k)), μ) := by
  rw [hq_Pairs_value, if_neg (nI_pos (by omega)), show Int32.ofNat (hs_len μ 34 0) = nI 12 from rfl, if_pos (nI_lt hk (by omega)), if_pos (show hs_in (nI k) (hs_len μ 34 0) = true from hx_in (n := 12) hk (by omega)), nI_clamp (by omega)]
theorem hx_pp0 (d : Nat) {k : Nat} (hk : k < 12) (μ : hs_M) : hc_Pairs_person (d + 1) 0 (nI k) μ = some (some (vI (μ.1 33 0 k)), μ) := by
  rw [hq_Pairs_person, if_neg (nI_pos (by omega)), show Int32.ofNat (hs_len μ 33 0) = nI 12 from rfl, if_pos (nI_lt hk (by omega)), if_pos (show hs_in (nI k) (hs_len μ 33 0) = true from hx_in (n := 12) hk (by omega)), nI_clamp (by omega)]
def hx_gC (μ : hs_M) (M : Nat) (pw vv : Nat → Nat) : Prop := μ.1 2 0 2 = nI M ∧ ∀ k, k < M → μ.1 33 0 k = nI (pw k) ∧ μ.1 34 0 k = nI (vv k)
def hx_gR (μ : hs_M) (M : Nat) (pw vv : Nat → Nat) : Prop := μ.1 12 0 34 = nI M ∧ ∀ k, k < M → μ.1 59 0 k = nI (pw k) ∧ μ.1 60 0 k = nI (vv k)
def hx_gO (P M : Nat) (pw vv : Nat → Nat) : Prop := M ≤ 12 ∧ ∀ k, k < M → pw k < P ∧ vv k ≤ 1010
theorem hx_iWx {P : Nat} {μ : hs_M} (h8 : P ≤ 8) (h : hx_iW P μ) : ∃ M, ∃ pw vv : Nat → Nat, hx_gO P M pw vv ∧ hx_gC μ M pw vv ∧ hx_gR μ M pw vv := by
  obtain ⟨m, h1, h2, h3, h4⟩ := h
  have a : ∀ k, k < m → (μ.1 33 0 k).toNatClampNeg < P ∧ μ.1 33 0 k = nI (μ.1 33 0 k).toNatClampNeg ∧ μ.1 59 0 k = nI (μ.1 33 0 k).toNatClampNeg := by
    intro k hk
    obtain ⟨⟨p, hp, e1, e2⟩, _⟩ := h4 k hk
    rw [e1, e2, nI_clamp (by omega)]
    exact ⟨hp, rfl, rfl⟩
  have b : ∀ k, k < m → (μ.1 34 0 k).toNatClampNeg ≤ 1010 ∧ μ.1 34 0 k = nI (μ.1 34 0 k).toNatClampNeg ∧ μ.1 60 0 k = nI (μ.1 34 0 k).toNatClampNeg := by
    intro k hk
    obtain ⟨_, w, hw, e1, e2⟩ := h4 k hk
    rw [e1, e2, nI_clamp (by omega)]
    exact ⟨hw, rfl, rfl⟩
  exact ⟨m, fun k => (μ.1 33 0 k).toNatClampNeg, fun k => (μ.1 34 0 k).toNatClampNeg, ⟨h1, fun k hk => ⟨(a k hk).1, (b k hk).1⟩⟩, ⟨h2, fun k hk => ⟨(a k hk).2.1, (b k hk).2.1⟩⟩, ⟨h3, fun k hk => ⟨(a k hk).2.2, (b k hk).2.2⟩⟩⟩
/-- p can weigh w by the first weighings -/
def hx_ce (g : Nat) (o : Int32) (pw vv : Nat → Nat) (p : Nat) (w : Int32) : Nat → Bool
  | 0 => true
  | k + 1 => hx_ce g o pw vv p w k && (decide (pw k ≠ p) || decide (nI (vv k) = hx_sh (nI g) o w))
theorem hx_ceS (g : Nat) (o : Int32) (pw vv : Nat → Nat) (p : Nat) (w : Int32) (k : Nat) : hx_ce g o pw vv p w (k + 1) = (hx_ce g o pw vv p w k && (decide (pw k ≠ p) || decide (nI (vv k) = hx_sh (nI g) o w))) := rfl
theorem hx_canL (d : Nat) {μ : hs_M} {g : Nat} (hg1 : 1 ≤ g) (hg9 : g ≤ 9) {o : Int32} (e8 : μ.1 12 0 8 = nI g) (e9 : μ.1 12 0 9 = o) {P M : Nat} (h8 : P ≤ 8) {pw vv : Nat → Nat} (hO : hx_gO P M pw vv) (hR : hx_gR μ M pw vv) {p : Nat} (hp : p < 8) (w : Int32) : ∀ (m k : Nat), k + m = M → he_M_canBe_5 (d + 2) (nI p) w (hx_tn (hx_ce g o pw vv p w k)) (nI k) μ = some (some (vI (hx_tn (hx_ce g o pw vv p w M))), μ)
  | 0, k, hk => by
    have := hO.1
    rw [hq_M_canBe_5, hR.1, if_neg (nI_nlt (by omega) (by omega)), hx_tnz, show k = M from hk]
  | m + 1, k, hk => by
    have h12 := hO.1
    obtain ⟨hp1, hv⟩ := hO.2 k (by omega)
    obtain ⟨r1, r2⟩ := hR.2 k (by omega)
    have ih := hx_canL d hg1 hg9 e8 e9 h8 hO hR hp w m (k + 1) (by omega)
    rw [hx_ceS] at ih
    rw [hq_M_canBe_5, hR.1, if_pos (nI_lt (by omega) (by omega)), hx_tn0, if_pos (hx_in (by omega) (by omega)), nI_clamp (by omega), r1, if_pos (hx_in (by omega) (by omega)), hx_showsM _ _ e8 hg1 hg9, hx_bI, r2, e9, hq_M_canBe_44, hq_M_canBe_48, nI_1]
    by_cases c : hx_ce g o pw vv p w k = true
    · rw [if_pos c]
      rw [c, Bool.true_and] at ih
      by_cases c2 : pw k = p
      · rw [if_pos (by rw [c2])]
        by_cases c3 : nI (vv k) = hx_sh (nI g) o w
        · rw [decide_eq_true c3, Bool.or_true] at ih
          rw [if_pos c3]
          exact ih
        · rw [show decide (nI (vv k) = hx_sh (nI g) o w) = false from decide_eq_false c3, show decide (pw k ≠ p) = false from decide_eq_false (fun x => x c2)] at ih
          rw [if_neg c3]
          exact ih
      · rw [show decide (pw k ≠ p) = true from decide_eq_true c2, Bool.true_or] at ih
        rw [if_neg (by rw [nI_eq (by omega) (by omega)]; exact c2)]
        exact ih
    · rw [if_neg c]
      rw [Bool.not_eq_true] at c
      rw [c, Bool.false_and] at ih
      exact ih
theorem hx_can (d : Nat) {μ : hs_M} {g : Nat} (hg1 : 1 ≤ g) (hg9 : g ≤ 9) {o : Int32} (e8 : μ.1 12 0 8 = nI g) (e9 : μ.1 12 0 9 = o) {P M : Nat} (h8 : P ≤ 8) {pw vv : Nat → Nat} (hO : hx_gO P M pw vv) (hR : hx_gR μ M pw vv) {p : Nat} (hp : p < 8) (w : Int32) : hc_M_canBe (d + 3) (nI p) w μ = some (some (vI (hx_tn (hx_ce g o pw vv p w M))), μ) := by
  rw [hq_M_canBe]
  exact hx_canL d hg1 hg9 e8 e9 h8 hO hR hp w M 0 (by omega)
/-! weights of one -/
def hx_wok (g : Nat) (o : Int32) (M : Nat) (pw vv : Nat → Nat) (p k : Nat) : Bool := hx_ce g o pw vv p (nI (k + 1)) M
theorem hx_wofL (d : Nat) {μ : hs_M} {g : Nat} (hg1 : 1 ≤ g) (hg9 : g ≤ 9) {o : Int32} (e8 : μ.1 12 0 8 = nI g) (e9 : μ.1 12 0 9 = o) {P M : Nat} (h8 : P ≤ 8) {pw vv : Nat → Nat} (hO : hx_gO P M pw vv) (hR : hx_gR μ M pw vv) {p : Nat} (hp : p < 8) (x2 : Int32) : ∀ (m k : Nat), k + m = 999 → he_M_weightsOf_11 (d + 3) (nI p) x2 (nI (hx_sn (hx_wok g o M pw vv p) k)) (hx_s1 (hx_wok g o M pw vv p) hx_ev k) (hx_s2 (hx_wok g o M pw vv p) hx_ev k) (nI (k + 1)) μ = he_M_weightsOf_11 (d + 3) (nI p) x2 (nI (hx_sn (hx_wok g o M pw vv p) 999)) (hx_s1 (hx_wok g o M pw vv p) hx_ev 999) (hx_s2 (hx_wok g o M pw vv p) hx_ev 999) (nI 1000) μ
  | 0, k, hk => by
    rw [show k = 999 from hk]
  | m + 1, k, hk => by
    have sl := hx_snle (hx_wok g o M pw vv p) k
    have ih := hx_wofL d hg1 hg9 e8 e9 h8 hO hR hp x2 m (k + 1) (by omega)
    rw [← ih]
    conv => lhs; rw [hq_M_weightsOf_11]
    rw [if_neg (show ¬ (999 : Int32) < nI (k + 1) from nI_nlt (a := 999) (by omega) (by omega)), hx_can d hg1 hg9 e8 e9 h8 hO hR hp, hx_bI, hx_tn0, hq_M_weightsOf_49, hq_M_weightsOf_49, hq_M_weightsOf_49, hx_snS, hx_s1S, hx_s2S, show hx_ce g o pw vv p (nI (k + 1)) M = hx_wok g o M pw vv p k from rfl]
    by_cases c : hx_wok g o M pw vv p k = true
    · rw [if_pos c, if_pos c, if_pos c, if_pos c, nI_1, nI_1]
      by_cases z : hx_sn (hx_wok g o M pw vv p) k = 0
      · rw [if_pos (by rw [z]; rfl), if_pos z]
        rfl
      · rw [if_neg (nI_ne0 (by omega) (by omega)), if_neg z]
        rfl
    · rw [if_neg c, if_neg c, if_neg c, if_neg c, nI_1]
/-! the class narrows -/
theorem hx_shv {g v : Nat} {o : Int32} (hg1 : 1 ≤ g) (hg9 : g ≤ 9) (ho1 : -9 ≤ o.toInt) (ho2 : o.toInt ≤ 9) {w : Nat} (hw1 : 1 ≤ w) (hw9 : w ≤ 999) (hv : v ≤ 1010) : nI v = hx_sh (nI g) o (nI w) ↔ (v % g = 0 ∧ (0 < v → (v : Int) - o.toInt ≤ w) ∧ (w : Int) ≤ v + g - 1 - o.toInt) := by
  have ew : (nI w).toInt = w := nI_toInt (by omega)
  have e0 : (0 : Int32).toInt = 0 := by decide
  have es : (nI w + o).toInt = w + o.toInt := by rw [hx_ai (by rw [ew]; omega) (by rw [ew]; omega), ew]
  unfold hx_sh
  by_cases c : nI w + o < 0
  · rw [if_pos c]
    rw [hx_li, es, e0] at c
    rw [show (0 : Int32) = nI 0 from rfl, nI_eq (by omega) (by omega)]
    constructor
    · intro z
      subst z
      exact ⟨Nat.zero_mod g, fun x => absurd x (by omega), by omega⟩
    · rintro ⟨_, a, _⟩
      rcases Nat.eq_zero_or_pos v with z | z
      · exact z
      · have := a z
        omega
  · rw [if_neg c]
    obtain ⟨x, hx, ex⟩ := nI_of c
    rw [ex] at es ⊢
    rw [nI_toInt hx] at es
    rw [pk_rem hx hg1 (by omega), pk_sub (Nat.mod_le _ _), nI_eq (by omega) (by have := Nat.sub_le x (x % g); omega)]
    have hx2 : x ≤ 1008 := by omega
    have hge : g = 1 ∨ g = 2 ∨ g = 3 ∨ g = 4 ∨ g = 5 ∨ g = 6 ∨ g = 7 ∨ g = 8 ∨ g = 9 := by omega
    rcases hge with rfl | rfl | rfl | rfl | rfl | rfl | rfl | rfl | rfl <;> omega
def hx_nar (μ : hs_M) (L G : Int) : Prop := (μ.1 5 0 2).toInt = L ∧ (μ.1 5 0 3).toInt = G ∧ 1 ≤ L ∧ L ≤ 1019 ∧ -10 ≤ G ∧ G ≤ 999
def hx_xN (κ b i : Nat) : Prop := κ = 5 ∧ b = 0 ∧ 2 ≤ i
theorem hx_narBy (d : Nat) {μ : hs_M} {g v : Nat} (hg1 : 1 ≤ g) (hg9 : g ≤ 9) (hv : v ≤ 1010) {o : Int32} (e5 : μ.1 5 0 1 = o) (ho1 : -9 ≤ o.toInt) (ho2 : o.toInt ≤ 9) {L G : Int} (h : hx_nar μ L G) : ∃ μ', hc_Scale_narrowBy (d + 2) (nI v) (nI g) μ = some (none, μ') ∧ hx_fr hx_xN μ μ' ∧ ∃ L' G', hx_nar μ' L' G' ∧ ∀ w : Nat, 1 ≤ w → w ≤ 999 → ((L' ≤ w ∧ (w : Int) ≤ G') ↔ ((L ≤ w ∧ (w : Int) ≤ G) ∧ nI v = hx_sh (nI g) o (nI w))) := by
  obtain ⟨h1, h2, h3, h4, h5, h6⟩ := h
  rw [hq_Scale_narrowBy, if_neg (show ¬ nI g < (1 : Int32) from nI_nlt (b := 1) hg1 (by omega)), if_neg (nI_ne0 hg1 (by omega)), pk_rem (by omega) hg1 (by omega)]
  have ev : (nI v).toInt = v := nI_toInt (by omega)
  have eg : (nI g).toInt = g := nI_toInt (by omega)
  have e1 : (1 : Int32).toInt = 1 := by decide
  have mlt := Nat.mod_lt v (show g > 0 by omega)
  by_cases c : v % g = 0
  · rw [if_pos (by rw [c]; rfl)]
    have s1 : (nI v - o).toInt = v - o.toInt := by rw [hx_di (by rw [ev]; omega) (by rw [ev]; omega), ev]
    have s2 : (nI v + nI g - 1 - o).toInt = v + g - 1 - o.toInt := by
      have a1 : (nI v + nI g).toInt = v + g := by rw [hx_ai (by rw [ev, eg]; omega) (by rw [ev, eg]; omega), ev, eg]
      have a2 : (nI v + nI g - 1).toInt = v + g - 1 := by rw [hx_di (by rw [a1, e1]; omega) (by rw [a1, e1]; omega), a1, e1]
      rw [hx_di (by rw [a2]; omega) (by rw [a2]; omega), a2]
    have fin : ∀ (μ1 : hs_M) (L1 : Int), hx_fr hx_xN μ μ1 → (μ1.1 5 0 2).toInt = L1 → (μ1.1 5 0 3).toInt = G → μ1.1 5 0 1 = o → 1 ≤ L1 → L1 ≤ 1019 → L1 = (if 0 < v then max L (v - o.toInt) else L) → ∃ μ', he_Scale_narrowBy_38 (d + 1) (nI v) (nI g) μ1 = some (none, μ') ∧ hx_fr hx_xN μ μ' ∧ ∃ L' G', hx_nar μ' L' G' ∧ ∀ w : Nat, 1 ≤ w → w ≤ 999 → ((L' ≤ w ∧ (w : Int) ≤ G') ↔ ((L ≤ w ∧ (w : Int) ≤ G) ∧ nI v = hx_sh (nI g) o (nI w))) := by
      intro μ1 L1 f1 k1 k2 k3 k4 k5 k6
      rw [hq_Scale_narrowBy_38, k3, hx_min, hx_bI]
      refine ⟨_, rfl, hx_wr f1 _ ⟨rfl, rfl, by omega⟩, L1, min G (v + g - 1 - o.toInt), ⟨?_, ?_, k4, k5, by omega, by omega⟩, ?_⟩
      · rw [hx_rd, if_neg (by omega), k1]
      · rw [hx_rd, if_pos ⟨rfl, rfl, rfl⟩, hx_mni, k2, s2]
      · intro w w1 w9
        rw [hx_shv hg1 hg9 ho1 ho2 w1 w9 hv, k6]
        by_cases z : 0 < v
        · rw [if_pos z]
          constructor
          · rintro ⟨y1, y2⟩
            exact ⟨⟨by omega, by omega⟩, c, fun _ => by omega, by omega⟩
          · rintro ⟨⟨y1, y2⟩, _, y3, y4⟩
            have := y3 z
            exact ⟨by omega, by omega⟩
        · rw [if_neg z]
          constructor
          · rintro ⟨y1, y2⟩
            exact ⟨⟨by omega, by omega⟩, c, fun x => absurd x z, by omega⟩
          · rintro ⟨⟨y1, y2⟩, _, y3, y4⟩
            exact ⟨by omega, by omega⟩
    by_cases z : 0 < v
    · rw [if_pos (show (0 : Int32) < nI v from nI_lt (a := 0) z (by omega)), e5, hx_max, hx_bI]
      apply fin _ (max L (v - o.toInt)) (hx_wr (hx_rf _ _) _ ⟨rfl, rfl, by omega⟩)
      · rw [hx_rd, if_pos ⟨rfl, rfl, rfl⟩, hx_mxi, h1, s1]
      · rw [hx_rd, if_neg (by omega), h2]
      · rw [hx_rd, if_neg (by omega), e5]
      · omega
      · omega
      · rw [if_pos z]
    · rw [if_neg (show ¬ (0 : Int32) < nI v from nI_nlt (a := 0) (by omega) (by omega))]
      exact fin μ L (hx_rf _ _) h1 h2 e5 h3 h4 (by rw [if_neg z])
  · rw [if_neg (nI_ne0 (by omega) (by omega)), hq_Scale_narrowBy_11]
    refine ⟨_, rfl, hx_wr (hx_rf _ _) _ ⟨rfl, rfl, by omega⟩, L, 0, ⟨?_, ?_, h3, h4, by omega, by omega⟩, ?_⟩
    · rw [hx_rd, if_neg (by omega), h1]
    · rw [hx_rd, if_pos ⟨rfl, rfl, rfl⟩]
      rfl
    · intro w w1 w9
      rw [hx_shv hg1 hg9 ho1 ho2 w1 w9 hv]
      constructor
      · rintro ⟨y1, y2⟩
        omega
      · rintro ⟨_, y, _⟩
        exact absurd y c
theorem hx_gCN {μ μ' : hs_M} (f : hx_fr hx_xN μ μ') {M : Nat} {pw vv : Nat → Nat} (h : hx_gC μ M pw vv) : hx_gC μ' M pw vv := by
  refine ⟨by rw [f.1 2 0 2 (by unfold hx_xN; omega)]; exact h.1, fun k hk => ?_⟩
  rw [f.1 33 0 k (by unfold hx_xN; omega), f.1 34 0 k (by unfold hx_xN; omega)]
  exact h.2 k hk
theorem hx_narL (d : Nat) {g : Nat} (hg1 : 1 ≤ g) (hg9 : g ≤ 9) {o : Int32} (ho1 : -9 ≤ o.toInt) (ho2 : o.toInt ≤ 9) {P M : Nat} (h8 : P ≤ 8) {pw vv : Nat → Nat} (hO : hx_gO P M pw vv) {p : Nat} (hp : p < 8) : ∀ (m k : Nat) (μ : hs_M) (L G : Int), k + m = M → μ.1 5 0 1 = o → hx_gC μ M pw vv → hx_nar μ L G → (∀ w : Nat, 1 ≤ w → w ≤ 999 → ((L ≤ w ∧ (w : Int) ≤ G) ↔ hx_ce g o pw vv p (nI w) k = true)) → ∃ μ', ∃ L' G' : Int, he_Scale_narrow_15 (d + 2) 0 (nI p) (nI g) (nI k) μ = some (some (vI (hx_mx 0 (μ'.1 5 0 3 - μ'.1 5 0 2 + 1))), μ') ∧ hx_fr hx_xN μ μ' ∧ hx_nar μ' L' G' ∧ (∀ w : Nat, 1 ≤ w → w ≤ 999 → ((L' ≤ w ∧ (w : Int) ≤ G') ↔ hx_ce g o pw vv p (nI w) M = true))
  | 0, k, μ, L, G, hk, e5, hC, hn, hw => by
    have := hO.1
    rw [hq_Scale_narrow_15, hC.1, if_neg (nI_nlt (by omega) (by omega)), hx_max, hx_bI]
    rw [show k = M from hk] at hw
    exact ⟨μ, L, G, rfl, hx_rf _ _, hn, hw⟩
  | m + 1, k, μ, L, G, hk, e5, hC, hn, hw => by
    have h12 := hO.1
    obtain ⟨hp1, hv⟩ := hO.2 k (by omega)
    obtain ⟨c1, c2⟩ := hC.2 k (by omega)
    rw [hq_Scale_narrow_15, hC.1, if_pos (nI_lt (by omega) (by omega)), hx_pp0 _ (by omega), hx_bI, c1, hx_pv0 _ (by omega), hx_bI, c2]
    by_cases c : pw k = p
    · obtain ⟨μ1, e1, f1, L1, G1, n1, w1⟩ := hx_narBy d hg1 hg9 hv e5 ho1 ho2 hn
      obtain ⟨μ2, L2, G2, e2, f2, n2, w2⟩ := hx_narL d hg1 hg9 ho1 ho2 h8 hO hp m (k + 1) μ1 L1 G1 (by omega) (by rw [f1.1 5 0 1 (by unfold hx_xN; omega), e5]) (hx_gCN f1 hC) n1 (by
        intro w a b
        rw [w1 w a b, hw w a b, hx_ceS, Bool.and_eq_true, Bool.or_eq_true, decide_eq_true_iff, decide_eq_true_iff]
        constructor
        · rintro ⟨y1, y2⟩
          exact ⟨y1, Or.inr y2⟩
        · rintro ⟨y1, y2 | y2⟩
          · exact absurd c y2
          · exact ⟨y1, y2⟩)
      rw [if_pos (by rw [c]), e1, hx_bV, hq_Scale_narrow_45, nI_1]
      exact ⟨μ2, L2, G2, e2, hx_tr f1 f2, n2, w2⟩
    · obtain ⟨μ2, L2, G2, e2, f2, n2, w2⟩ := hx_narL d hg1 hg9 ho1 ho2 h8 hO hp m (k + 1) μ L G (by omega) e5 hC hn (by
        intro w a b
        rw [hw w a b, hx_ceS, show decide (pw k ≠ p) = true from decide_eq_true c, Bool.true_or, Bool.and_true])
      rw [if_neg (by rw [nI_eq (by omega) (by omega)]; exact c), hq_Scale_narrow_45, nI_1]
      exact ⟨μ2, L2, G2, e2, f2, n2, w2⟩
/-- counted within bounds -/
theorem hx_cnt {ok : Nat → Bool} {L G : Int} (hL : 1 ≤ L) {K : Nat} (h : ∀ k, k < K → (ok k = true ↔ (L ≤ (k + 1 : Nat) ∧ ((k + 1 : Nat) : Int) ≤ G))) : ∀ N, N ≤ K → hx_sn ok N = (min G N - L + 1).toNat ∧ (0 < hx_sn ok N → hx_s1 ok hx_ev N = nI L.toNat ∧ hx_s2 ok hx_ev N = nI (min G N).toNat)
  | 0, _ => by
    refine ⟨?_, fun x => absurd x (by show ¬ 0 < 0; omega)⟩
    show 0 = _
    omega
  | N + 1, hN => by
    obtain ⟨i1, i2⟩ := hx_cnt hL h N (by omega)
    have hk := h N (by omega)
    rw [hx_snS, hx_s1S, hx_s2S]
    by_cases c : ok N = true
    · have cc := hk.mp c
      rw [if_pos c, if_pos c, if_pos c]
      refine ⟨by omega, fun _ => ⟨?_, ?_⟩⟩
      · by_cases z : hx_sn ok N = 0
        · rw [if_pos z]
          show nI (N + 1) = _
          rw [show L.toNat = N + 1 by omega]
        · rw [if_neg z]
          exact (i2 (by omega)).1
      · show nI (N + 1) = _
        rw [show (min G ((N + 1 : Nat) : Int)).toNat = N + 1 by omega]
    · have cc : ¬ (L ≤ (N + 1 : Nat) ∧ ((N + 1 : Nat) : Int) ≤ G) := fun x => c (hk.mpr x)
      rw [if_neg c, if_neg c, if_neg c]
      refine ⟨by omega, fun z => ?_⟩
      have := i2 z
      refine ⟨this.1, ?_⟩
      rw [this.2]
      have : (min G (N : Int)).toNat = (min G ((N + 1 : Nat) : Int)).toNat := by omega
      rw [this]
theorem hx_narrow (d : Nat) {μ : hs_M} {g : Nat} (hg1 : 1 ≤ g) (hg9 : g ≤ 9) {o : Int32} (e5 : μ.1 5 0 1 = o) (ho1 : -9 ≤ o.toInt) (ho2 : o.toInt ≤ 9) {P M : Nat} (h8 : P ≤ 8) {pw vv : Nat → Nat} (hO : hx_gO P M pw vv) (hC : hx_gC μ M pw vv) {p : Nat} (hp : p < 8) : ∃ μ', hc_Scale_narrow (d + 3) 0 (nI p) (nI g) μ = some (some (vI (nI (hx_sn (hx_wok g o M pw vv p) 999))), μ') ∧ hx_fr hx_xN μ μ' ∧ (0 < hx_sn (hx_wok g o M pw vv p) 999 → μ'.1 5 0 2 = hx_s1 (hx_wok g o M pw vv p) hx_ev 999 ∧ μ'.1 5 0 3 = hx_s2 (hx_wok g o M pw vv p) hx_ev 999) := by
  have f0 : hx_fr hx_xN μ (hs_wI (hs_wI μ 5 0 2 1) 5 0 3 999) := hx_wr (hx_wr (hx_rf _ _) _ ⟨rfl, rfl, by omega⟩) _ ⟨rfl, rfl, by omega⟩
  obtain ⟨μ1, L, G, e1, f1, n1, w1⟩ := hx_narL d hg1 hg9 ho1 ho2 h8 hO hp M 0 (hs_wI (hs_wI μ 5 0 2 1) 5 0 3 999) 1 999 (by omega) (by rw [hx_rd, if_neg (by omega), hx_rd, if_neg (by omega), e5]) (hx_gCN f0 hC) ⟨by rw [hx_rd, if_neg (by omega), hx_rd, if_pos ⟨rfl, rfl, rfl⟩]; decide, by rw [hx_rd, if_pos ⟨rfl, rfl, rfl⟩]; decide, by omega, by omega, by omega, by omega⟩ (fun w a b => ⟨fun _ => rfl, fun _ => by omega⟩)
  obtain ⟨a1, a2, a3, a4, a5, a6⟩ := n1
  obtain ⟨c1, c2⟩ := hx_cnt (ok := hx_wok g o M pw vv p) a3 (K := 999) (fun k hk => (w1 (k + 1) (by omega) (by omega)).symm) 999 (Nat.le_refl _)
  have e1' : (1 : Int32).toInt = 1 := by decide
  have s1 : (μ1.1 5 0 3 - μ1.1 5 0 2).toInt = G - L := by rw [hx_di (by rw [a1, a2]; omega) (by rw [a1, a2]; omega), a1, a2]
  have s2 : (μ1.1 5 0 3 - μ1.1 5 0 2 + 1).toInt = G - L + 1 := by rw [hx_ai (by rw [s1, e1']; omega) (by rw [s1, e1']; omega), s1, e1']
  have em : min G ((999 : Nat) : Int) = G := by omega
  rw [em] at c1 c2
  refine ⟨μ1, ?_, hx_tr f0 f1, ?_⟩
  · rw [hq_Scale_narrow, show (0 : Int32) = nI 0 from rfl, e1]
    have : hx_mx 0 (μ1.1 5 0 3 - μ1.1 5 0 2 + 1) = nI (hx_sn (hx_wok g o M pw vv p) 999) := by
      rw [hx_ei, hx_mxi, s2, show (0 : Int32).toInt = 0 from by decide, nI_toInt (by omega), c1]
      omega
    rw [this]
  · intro z
    obtain ⟨z1, z2⟩ := c2 z
    rw [z1, z2, hx_ei, a1, nI_toInt (by omega), hx_ei, a2, nI_toInt (by omega)]
    omega
