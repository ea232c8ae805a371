/-! ===== E: a week as a pure thing ===== -/
def hx_stn (t : hx_St) (S : Nat → Bool) (p : Nat) : Bool := S p && (bt (t 16) p && !decide (nI p = t 17))
def hx_gB (E : hx_Env) (t : hx_St) (S : Nat → Bool) : Nat → Int32
  | 0 => -1
  | n + 1 => if hx_stn t S n = true ∧ (hx_gB E t S n < 0 ∨ hx_sw E (t (hx_gB E t S n).toNatClampNeg) < hx_sw E (t n)) then nI n else hx_gB E t S n
def hx_bar (E : hx_Env) (t : hx_St) : Int32 := if t 17 < 0 then -1 else hx_sw E (t (t 17).toNatClampNeg)
def hx_wcn (E : hx_Env) (t : hx_St) (S : Nat → Bool) (n : Nat) : Prop := ¬ hx_gB E t S n < 0 ∧ hx_bar E t < hx_sw E (t (hx_gB E t S n).toNatClampNeg)
theorem hx_wcnd (E : hx_Env) (t : hx_St) (S : Nat → Bool) (n : Nat) : hx_wcn E t S n ∨ ¬ hx_wcn E t S n := Classical.em _
noncomputable def hx_win (E : hx_Env) (t : hx_St) (S : Nat → Bool) (n : Nat) : Int32 := by
  classical
  exact if hx_wcn E t S n then hx_gB E t S n else -1
noncomputable def hx_hv (E : hx_Env) (t : hx_St) (S : Nat → Bool) (n : Nat) : Int32 := by
  classical
  exact if hx_wcn E t S n then hx_sw E (t (hx_gB E t S n).toNatClampNeg) else hx_bar E t
theorem hx_winT {E : hx_Env} {t : hx_St} {S : Nat → Bool} {n : Nat} (h : hx_wcn E t S n) : hx_win E t S n = hx_gB E t S n := by
  unfold hx_win
  exact if_pos h
theorem hx_winF {E : hx_Env} {t : hx_St} {S : Nat → Bool} {n : Nat} (h : ¬ hx_wcn E t S n) : hx_win E t S n = -1 := by
  unfold hx_win
  exact if_neg h
theorem hx_hvT {E : hx_Env} {t : hx_St} {S : Nat → Bool} {n : Nat} (h : hx_wcn E t S n) : hx_hv E t S n = hx_sw E (t (hx_gB E t S n).toNatClampNeg) := by
  unfold hx_hv
  exact if_pos h
theorem hx_hvF {E : hx_Env} {t : hx_St} {S : Nat → Bool} {n : Nat} (h : ¬ hx_wcn E t S n) : hx_hv E t S n = hx_bar E t := by
  unfold hx_hv
  exact if_neg h
theorem hx_m1 : (-1 : Int32) < 0 := by decide
theorem hx_gBr (E : hx_Env) (t : hx_St) (S : Nat → Bool) : ∀ n, hx_gB E t S n = -1 ∨ ∃ p, p < n ∧ hx_gB E t S n = nI p ∧ hx_stn t S p = true
  | 0 => Or.inl rfl
  | n + 1 => by
    unfold hx_gB
    by_cases c : hx_stn t S n = true ∧ (hx_gB E t S n < 0 ∨ hx_sw E (t (hx_gB E t S n).toNatClampNeg) < hx_sw E (t n))
    · rw [if_pos c]
      exact Or.inr ⟨n, by omega, rfl, c.1⟩
    · rw [if_neg c]
      rcases hx_gBr E t S n with e | ⟨p, h, e⟩
      · exact Or.inl e
      · exact Or.inr ⟨p, by omega, e⟩
theorem hx_swn {E : hx_Env} (h : hx_ok E) (w : Int32) : ∃ n, n < 2 ^ 31 ∧ hx_sw E w = nI n := by
  unfold hx_sw hx_sh
  by_cases c : w + hx_O E < 0
  · rw [if_pos c]
    exact ⟨0, by omega, rfl⟩
  · rw [if_neg c]
    obtain ⟨n, hn, e⟩ := nI_of c
    rw [e, pk_rem hn h.2.2.1 (by have := h.2.2.2.1; omega), pk_sub (Nat.mod_le _ _)]
    exact ⟨_, by have := Nat.sub_le n (n % hx_G E); omega, rfl⟩
theorem hx_sw0 {E : hx_Env} (h : hx_ok E) (w : Int32) : ¬ hx_sw E w < 0 := by
  obtain ⟨n, hn, e⟩ := hx_swn h w
  rw [e]
  exact nI_pos hn
theorem hx_sw1 {E : hx_Env} (h : hx_ok E) (w : Int32) : (-1 : Int32) < hx_sw E w := by
  have := hx_sw0 h w
  rw [hx_li] at *
  have e0 : (0 : Int32).toInt = 0 := by decide
  have e1 : (-1 : Int32).toInt = -1 := by decide
  omega
theorem hx_same {E : hx_Env} {t : hx_St} {S : Nat → Bool} {k : Nat} (h : hx_gB E t S (k + 1) = hx_gB E t S k) : hx_win E t S (k + 1) = hx_win E t S k ∧ hx_hv E t S (k + 1) = hx_hv E t S k := by
  unfold hx_win hx_hv hx_wcn
  rw [h]
  exact ⟨rfl, rfl⟩
theorem hx_wsA {E : hx_Env} {t : hx_St} {S : Nat → Bool} {k : Nat} (h : hx_stn t S k = false) : hx_win E t S (k + 1) = hx_win E t S k ∧ hx_hv E t S (k + 1) = hx_hv E t S k := by
  apply hx_same
  conv => lhs; unfold hx_gB
  rw [if_neg (by rw [h]; rintro ⟨x, _⟩; cases x)]
theorem hx_wsB {E : hx_Env} {t : hx_St} {S : Nat → Bool} {k : Nat} (hk : k < 2 ^ 31) (h : ¬ hx_hv E t S k < hx_sw E (t k)) : hx_win E t S (k + 1) = hx_win E t S k ∧ hx_hv E t S (k + 1) = hx_hv E t S k := by
  by_cases c : hx_stn t S k = true ∧ (hx_gB E t S k < 0 ∨ hx_sw E (t (hx_gB E t S k).toNatClampNeg) < hx_sw E (t k))
  · have e : hx_gB E t S (k + 1) = nI k := by
      conv => lhs; unfold hx_gB
      exact if_pos c
    have n1 : ¬ hx_wcn E t S k := by
      intro w
      rw [hx_hvT w] at h
      rcases c.2 with x | x
      · exact w.1 x
      · exact h x
    rw [hx_hvF n1] at h
    have n2 : ¬ hx_wcn E t S (k + 1) := by
      intro w
      have := w.2
      rw [e, nI_clamp hk] at this
      exact h this
    rw [hx_winF n1, hx_winF n2, hx_hvF n1, hx_hvF n2]
    exact ⟨rfl, rfl⟩
  · apply hx_same
    conv => lhs; unfold hx_gB
    exact if_neg c
theorem hx_wsC {E : hx_Env} {t : hx_St} {S : Nat → Bool} {k : Nat} (hk : k < 2 ^ 31) (hst : hx_stn t S k = true) (h : hx_hv E t S k < hx_sw E (t k)) : hx_win E t S (k + 1) = nI k ∧ hx_hv E t S (k + 1) = hx_sw E (t k) := by
  have lt : hx_bar E t < hx_sw E (t k) ∧ (hx_gB E t S k < 0 ∨ hx_sw E (t (hx_gB E t S k).toNatClampNeg) < hx_sw E (t k)) := by
    by_cases w : hx_wcn E t S k
    · rw [hx_hvT w] at h
      refine ⟨?_, Or.inr h⟩
      have := w.2
      rw [hx_li] at *
      omega
    · rw [hx_hvF w] at h
      refine ⟨h, ?_⟩
      by_cases g : hx_gB E t S k < 0
      · exact Or.inl g
      · right
        have : ¬ hx_bar E t < hx_sw E (t (hx_gB E t S k).toNatClampNeg) := fun x => w ⟨g, x⟩
        rw [hx_li] at *
        omega
  have e : hx_gB E t S (k + 1) = nI k := by
    conv => lhs; unfold hx_gB
    exact if_pos ⟨hst, lt.2⟩
  have w : hx_wcn E t S (k + 1) := by
    refine ⟨?_, ?_⟩
    · rw [e]
      exact nI_pos hk
    · rw [e, nI_clamp hk]
      exact lt.1
  rw [hx_winT w, hx_hvT w, e, nI_clamp hk]
  exact ⟨rfl, rfl⟩
theorem hx_winr (E : hx_Env) (t : hx_St) (S : Nat → Bool) (n : Nat) : hx_win E t S n = -1 ∨ ∃ p, p < n ∧ hx_win E t S n = nI p ∧ hx_stn t S p = true := by
  rcases hx_wcnd E t S n with w | w
  · rw [hx_winT w]
    exact hx_gBr E t S n
  · exact Or.inl (hx_winF w)
/-- the office goes to w; who has it serves; it is set down; weights change; a week more -/
def hx_tk (t : hx_St) (w : Int32) : hx_St := if w = -1 then t else fun i => if i = 17 then w else if i = 18 then 0 else if 45 ≤ i ∧ i < 45 + (t 20).toNatClampNeg ∧ t i < 0 then t 19 else t i
def hx_sv (t : hx_St) : hx_St := if t 17 < 0 then t else fun i => if i = 8 + (t 17).toNatClampNeg then t i + 1 else if i = 18 then t 18 + 1 else t i
def hx_hi (t : hx_St) : hx_St := fun i => if i = 57 + (t 19).toNatClampNeg % 60 then t 17 else t i
def hx_chk (E : hx_Env) (t : hx_St) (n : Nat) : hx_St := fun i => if i < n ∧ bt (t 16) i = true ∧ 0 < hx_Hl E i then hx_ic (t i + hx_Hb E i ((t 19).toNatClampNeg % hx_Hl E i)) else t i
def hx_nx (t : hx_St) : hx_St := fun i => if i = 19 then t 19 + 1 else t i
def hx_fin (E : hx_Env) (t : hx_St) (w : Int32) : hx_St := hx_nx (hx_chk E (hx_hi (hx_sv (hx_tk t w))) (hx_P E))
noncomputable def hx_stp (E : hx_Env) (t : hx_St) (S : Nat → Bool) : hx_St := hx_fin E t (hx_win E t S (hx_P E))
def hx_wo (t : hx_St) (w : Int32) : Int32 := if w = -1 then t 17 else w
theorem hx_tk17 (t : hx_St) (w : Int32) : hx_tk t w 17 = hx_wo t w := by
  unfold hx_tk hx_wo
  split
  · rfl
  · rfl
theorem hx_tk18 (t : hx_St) (w : Int32) : hx_tk t w 18 = if w = -1 then t 18 else 0 := by
  unfold hx_tk
  split
  · rfl
  · rfl
theorem hx_tkF (t : hx_St) (w : Int32) (k : Nat) : hx_tk t w (45 + k) = if w ≠ -1 ∧ k < (t 20).toNatClampNeg ∧ t (45 + k) < 0 then t 19 else t (45 + k) := by
  unfold hx_tk
  by_cases h : w = -1
  · rw [if_pos h, if_neg (by rintro ⟨x, _⟩; exact x h)]
  · rw [if_neg h]
    by_cases c : k < (t 20).toNatClampNeg ∧ t (45 + k) < 0
    · rw [if_neg (by omega), if_neg (by omega), if_pos ⟨by omega, by omega, c.2⟩, if_pos ⟨h, c⟩]
    · rw [if_neg (by omega), if_neg (by omega), if_neg (by rintro ⟨_, a, b⟩; exact c ⟨by omega, b⟩), if_neg (by rintro ⟨_, a⟩; exact c a)]
theorem hx_tkO (t : hx_St) (w : Int32) {i : Nat} (h17 : i ≠ 17) (h18 : i ≠ 18) (h : i < 45 ∨ 45 + (t 20).toNatClampNeg ≤ i) : hx_tk t w i = t i := by
  unfold hx_tk
  split
  · rfl
  · dsimp only
    rw [if_neg h17, if_neg h18, if_neg (by omega)]
theorem hx_svO (t : hx_St) {i : Nat} (h18 : i ≠ 18) (h : t 17 < 0 ∨ i ≠ 8 + (t 17).toNatClampNeg) : hx_sv t i = t i := by
  unfold hx_sv
  by_cases c : t 17 < 0
  · rw [if_pos c]
  · rw [if_neg c]
    have : i ≠ 8 + (t 17).toNatClampNeg := by
      rcases h with x | x
      · exact absurd x c
      · exact x
    show (if i = 8 + (t 17).toNatClampNeg then _ else if i = 18 then _ else t i) = t i
    rw [if_neg this, if_neg h18]
theorem hx_hiO (t : hx_St) {i : Nat} (h : i < 57 ∨ 117 ≤ i) : hx_hi t i = t i := by
  unfold hx_hi
  rw [if_neg (by omega)]
theorem hx_chO (E : hx_Env) (t : hx_St) {n i : Nat} (h : n ≤ i) : hx_chk E t n i = t i := by
  unfold hx_chk
  rw [if_neg (by omega)]
theorem hx_nxO (t : hx_St) {i : Nat} (h : i ≠ 19) : hx_nx t i = t i := if_neg h
/-- in range: the one who has the office -/
def hx_wr8 (P : Nat) (w : Int32) : Prop := w = -1 ∨ ∃ p, p < P ∧ w = nI p
theorem hx_woR {P W : Nat} {t : hx_St} (ht : hx_tw P W t) {w : Int32} (hw : hx_wr8 P w) : hx_wr8 P (hx_wo t w) := by
  unfold hx_wo
  split
  · exact ht.1
  · exact hw
theorem hx_wrN {P : Nat} (h8 : P ≤ 8) {w : Int32} (hw : hx_wr8 P w) : (w < 0 ∧ w = -1) ∨ (¬ w < 0 ∧ w ≠ -1 ∧ ∃ p, p < P ∧ w = nI p) := by
  rcases hw with e | ⟨p, hp, e⟩
  · left
    rw [e]
    exact ⟨by decide, rfl⟩
  · right
    have : ¬ w < 0 := by
      rw [e]
      exact nI_pos (by omega)
    refine ⟨this, ?_, p, hp, e⟩
    intro x
    rw [x] at this
    exact this (by decide)
section
variable {E : hx_Env} {t : hx_St} {w : Int32}
theorem hx_svW {P : Nat} (h8 : P ≤ 8) (hw : hx_wr8 P (hx_wo t w)) {i : Nat} (hi : i < 8 ∨ 16 ≤ i) (h18 : i ≠ 18) : hx_sv (hx_tk t w) i = hx_tk t w i := by
  apply hx_svO _ h18
  rw [hx_tk17]
  rcases hx_wrN h8 hw with ⟨a, _⟩ | ⟨a, _, p, hp, e⟩
  · exact Or.inl a
  · right
    rw [e, nI_clamp (by omega)]
    omega
theorem hx_fO (h8 : hx_P E ≤ 8) (hw : hx_wr8 (hx_P E) (hx_wo t w)) {i : Nat} (hi : 16 ≤ i ∧ i < 57) (h18 : i ≠ 18) (h19 : i ≠ 19) : hx_fin E t w i = hx_tk t w i := by
  unfold hx_fin
  rw [hx_nxO _ h19, hx_chO _ _ (by omega), hx_hiO _ (by omega), hx_svW h8 hw (by omega) h18]
theorem hx_f16 (h8 : hx_P E ≤ 8) (hw : hx_wr8 (hx_P E) (hx_wo t w)) : hx_fin E t w 16 = t 16 := by
  rw [hx_fO h8 hw (by omega) (by omega) (by omega), hx_tkO _ _ (by omega) (by omega) (by omega)]
theorem hx_f17 (h8 : hx_P E ≤ 8) (hw : hx_wr8 (hx_P E) (hx_wo t w)) : hx_fin E t w 17 = hx_wo t w := by
  rw [hx_fO h8 hw (by omega) (by omega) (by omega), hx_tk17]
theorem hx_f20 (h8 : hx_P E ≤ 8) (hw : hx_wr8 (hx_P E) (hx_wo t w)) : hx_fin E t w 20 = t 20 := by
  rw [hx_fO h8 hw (by omega) (by omega) (by omega), hx_tkO _ _ (by omega) (by omega) (by omega)]
theorem hx_f21 (h8 : hx_P E ≤ 8) (hw : hx_wr8 (hx_P E) (hx_wo t w)) {i : Nat} (hi : 21 ≤ i ∧ i < 45) : hx_fin E t w i = t i := by
  rw [hx_fO h8 hw (by omega) (by omega) (by omega), hx_tkO _ _ (by omega) (by omega) (by omega)]
theorem hx_f45 (h8 : hx_P E ≤ 8) (hw : hx_wr8 (hx_P E) (hx_wo t w)) {k : Nat} (hk : k < 12) : hx_fin E t w (45 + k) = if w ≠ -1 ∧ k < (t 20).toNatClampNeg ∧ t (45 + k) < 0 then t 19 else t (45 + k) := by
  rw [hx_fO h8 hw (by omega) (by omega) (by omega), hx_tkF]
theorem hx_m19 (h8 : hx_P E ≤ 8) (hw : hx_wr8 (hx_P E) (hx_wo t w)) : hx_hi (hx_sv (hx_tk t w)) 19 = t 19 := by
  rw [hx_hiO _ (by omega), hx_svW h8 hw (by omega) (by omega), hx_tkO _ _ (by omega) (by omega) (by omega)]
theorem hx_m16 (h8 : hx_P E ≤ 8) (hw : hx_wr8 (hx_P E) (hx_wo t w)) : hx_hi (hx_sv (hx_tk t w)) 16 = t 16 := by
  rw [hx_hiO _ (by omega), hx_svW h8 hw (by omega) (by omega), hx_tkO _ _ (by omega) (by omega) (by omega)]
theorem hx_mlo (h8 : hx_P E ≤ 8) (hw : hx_wr8 (hx_P E) (hx_wo t w)) {i : Nat} (hi : i < 8) : hx_hi (hx_sv (hx_tk t w)) i = t i := by
  rw [hx_hiO _ (by omega), hx_svW h8 hw (by omega) (by omega), hx_tkO _ _ (by omega) (by omega) (by omega)]
theorem hx_f19 (h8 : hx_P E ≤ 8) (hw : hx_wr8 (hx_P E) (hx_wo t w)) : hx_fin E t w 19 = t 19 + 1 := by
  unfold hx_fin
  show hx_chk E (hx_hi (hx_sv (hx_tk t w))) (hx_P E) 19 + 1 = _
  rw [hx_chO _ _ (by omega), hx_m19 h8 hw]
theorem hx_f18 (h8 : hx_P E ≤ 8) (hw : hx_wr8 (hx_P E) (hx_wo t w)) : hx_fin E t w 18 = if hx_wo t w < 0 then (if w = -1 then t 18 else 0) else (if w = -1 then t 18 else 0) + 1 := by
  unfold hx_fin
  rw [hx_nxO _ (by omega), hx_chO _ _ (by omega), hx_hiO _ (by omega), ← hx_tk18]
  unfold hx_sv
  rw [hx_tk17]
  rcases hx_wrN h8 hw with ⟨a, _⟩ | ⟨a, _, p, hp, e⟩
  · rw [if_pos a, if_pos a]
  · rw [if_neg a, if_neg a]
    show (if 18 = 8 + (hx_wo t w).toNatClampNeg then _ else if 18 = 18 then hx_tk t w 18 + 1 else _) = _
    rw [e, nI_clamp (by omega), if_neg (by omega), if_pos rfl]
theorem hx_flo (h8 : hx_P E ≤ 8) (hw : hx_wr8 (hx_P E) (hx_wo t w)) {i : Nat} (hi : i < 8) : hx_fin E t w i = if i < hx_P E ∧ bt (t 16) i = true ∧ 0 < hx_Hl E i then hx_ic (t i + hx_Hb E i ((t 19).toNatClampNeg % hx_Hl E i)) else t i := by
  unfold hx_fin
  rw [hx_nxO _ (by omega)]
  unfold hx_chk
  rw [hx_m16 h8 hw, hx_m19 h8 hw, hx_mlo h8 hw hi]
theorem hx_ftot (h8 : hx_P E ≤ 8) (hw : hx_wr8 (hx_P E) (hx_wo t w)) {i : Nat} (hi : i < 8) : hx_fin E t w (8 + i) = if hx_wo t w = nI i then t (8 + i) + 1 else t (8 + i) := by
  unfold hx_fin
  rw [hx_nxO _ (by omega), hx_chO _ _ (by omega), hx_hiO _ (by omega)]
  unfold hx_sv
  rw [hx_tk17]
  rcases hx_wrN h8 hw with ⟨a, e⟩ | ⟨a, _, p, hp, e⟩
  · rw [if_pos a, hx_tkO _ _ (by omega) (by omega) (by omega), e, if_neg]
    intro x
    have := nI_pos (n := i) (by omega)
    rw [← x] at this
    exact this (by decide)
  · rw [if_neg a]
    show (if 8 + i = 8 + (hx_wo t w).toNatClampNeg then hx_tk t w (8 + i) + 1 else if 8 + i = 18 then _ else hx_tk t w (8 + i)) = _
    rw [e, nI_clamp (by omega), hx_tkO _ _ (by omega) (by omega) (by omega)]
    by_cases c : p = i
    · rw [c, if_pos rfl, if_pos rfl]
    · rw [if_neg (by omega), if_neg (by omega), if_neg]
      rw [nI_eq (by omega) (by omega)]
      exact c
theorem hx_fhi (h8 : hx_P E ≤ 8) (hw : hx_wr8 (hx_P E) (hx_wo t w)) (hL : (t 20).toNatClampNeg ≤ 12) {k : Nat} (_hk : k < 60) : hx_fin E t w (57 + k) = if k = (t 19).toNatClampNeg % 60 then hx_wo t w else t (57 + k) := by
  have e19 : hx_sv (hx_tk t w) 19 = t 19 := by
    rw [hx_svW h8 hw (by omega) (by omega), hx_tkO _ _ (by omega) (by omega) (by omega)]
  have e17 : hx_sv (hx_tk t w) 17 = hx_wo t w := by
    rw [hx_svW h8 hw (by omega) (by omega), hx_tk17]
  have ek : hx_sv (hx_tk t w) (57 + k) = t (57 + k) := by
    rw [hx_svW h8 hw (by omega) (by omega), hx_tkO _ _ (by omega) (by omega) (by omega)]
  unfold hx_fin
  rw [hx_nxO _ (by omega), hx_chO _ _ (by omega)]
  unfold hx_hi
  rw [e19, e17, ek]
  by_cases c : k = (t 19).toNatClampNeg % 60
  · rw [if_pos (by omega), if_pos c]
  · rw [if_neg (by omega), if_neg c]
end
theorem hx_icR (x : Int32) : ∃ n, 1 ≤ n ∧ n ≤ 999 ∧ hx_ic x = nI n := by
  unfold hx_ic
  by_cases a : x < 1
  · rw [if_pos a]
    exact ⟨1, by omega, by omega, rfl⟩
  · rw [if_neg a]
    by_cases b : 999 < x
    · rw [if_pos b]
      exact ⟨999, by omega, by omega, rfl⟩
    · rw [if_neg b]
      have e1 : (1 : Int32).toInt = 1 := by decide
      have e0 : (0 : Int32).toInt = 0 := by decide
      have e9 : (999 : Int32).toInt = 999 := by decide
      have c : ¬ x < 0 := by
        rw [hx_li] at *
        omega
      obtain ⟨n, hn, e⟩ := nI_of c
      have := nI_toInt hn
      rw [hx_li] at a b
      rw [e] at a b
      exact ⟨n, by omega, by omega, e⟩
theorem hx_L {P W : Nat} {t : hx_St} (ht : hx_tw P W t) : (t 20).toNatClampNeg ≤ 12 := by
  obtain ⟨L, hL, e, _⟩ := ht.2.2.1
  rw [e, nI_clamp (by omega)]
  exact hL
theorem hx_ftw {E : hx_Env} (h8 : hx_P E ≤ 8) {t : hx_St} {W : Nat} (hW : W < 2 ^ 30) (ht : hx_tw (hx_P E) W t) {w : Int32} (hw : hx_wr8 (hx_P E) w) : hx_tw (hx_P E) (W + 1) (hx_fin E t w) := by
  have ho := hx_woR ht hw
  obtain ⟨L, hL, e20, hl⟩ := ht.2.2.1
  obtain ⟨n, hn, e19⟩ := ht.2.1
  refine ⟨?_, ⟨n + 1, by omega, ?_⟩, ⟨L, hL, ?_, ?_⟩, ?_⟩
  · rw [hx_f17 h8 ho]
    exact ho
  · rw [hx_f19 h8 ho, e19, nI_1]
  · rw [hx_f20 h8 ho, e20]
  · intro k hk
    rw [hx_f45 h8 ho (by omega), hx_f17 h8 ho, hx_f21 h8 ho (by omega), e20, nI_clamp (by omega)]
    by_cases c : w = -1
    · rw [if_neg (by rintro ⟨x, _⟩; exact x c)]
      unfold hx_wo
      rw [if_pos c]
      exact hl k hk
    · intro x
      exfalso
      by_cases y : t (45 + k) < 0
      · rw [if_pos ⟨c, hk, y⟩, e19] at x
        exact nI_pos (by omega) x
      · rw [if_neg (by rintro ⟨_, _, z⟩; exact y z)] at x
        exact y x
  · intro p hp
    rw [hx_flo h8 ho (by omega)]
    split
    · exact hx_icR _
    · exact ht.2.2.2 p hp
theorem hx_stw {E : hx_Env} (h8 : hx_P E ≤ 8) {t : hx_St} {W : Nat} (hW : W < 2 ^ 30) (ht : hx_tw (hx_P E) W t) (S : Nat → Bool) : hx_tw (hx_P E) (W + 1) (hx_stp E t S) := by
  apply hx_ftw h8 hW ht
  rcases hx_winr E t S (hx_P E) with e | ⟨p, hp, e, _⟩
  · exact Or.inl e
  · exact Or.inr ⟨p, hp, e⟩
theorem hx_gBc {E : hx_Env} {t : hx_St} {S S' : Nat → Bool} : ∀ n, (∀ p, p < n → bt (t 16) p = true → S p = S' p) → hx_gB E t S n = hx_gB E t S' n
  | 0, _ => rfl
  | n + 1, h => by
    have ih := hx_gBc (E := E) n (fun p hp => h p (by omega))
    have e : hx_stn t S n = hx_stn t S' n := by
      unfold hx_stn
      by_cases c : bt (t 16) n = true
      · rw [h n (by omega) c]
      · rw [Bool.not_eq_true] at c
        rw [c, Bool.false_and, Bool.and_false, Bool.and_false]
    unfold hx_gB
    rw [ih, e]
theorem hx_wic {E : hx_Env} {t : hx_St} {S S' : Nat → Bool} {n : Nat} (h : ∀ p, p < n → bt (t 16) p = true → S p = S' p) : hx_win E t S n = hx_win E t S' n := by
  unfold hx_win hx_wcn
  rw [hx_gBc n h]
theorem hx_stc {E : hx_Env} {t : hx_St} {S S' : Nat → Bool} (h : ∀ p, p < hx_P E → bt (t 16) p = true → S p = S' p) : hx_stp E t S = hx_stp E t S' := by
  unfold hx_stp
  rw [hx_wic h]
/-! laws that hold -/
theorem hx_hcc {t t' : hx_St} : ∀ n, (∀ k, k < n → t (45 + k) = t' (45 + k)) → hx_hc t n = hx_hc t' n
  | 0, _ => rfl
  | n + 1, h => by
    unfold hx_hc
    rw [hx_hcc n (fun k hk => h k (by omega)), h n (by omega)]
theorem hx_hbc {t t' : hx_St} : ∀ n, (∀ k, k < n → t (45 + k) = t' (45 + k)) → hx_hb t n = hx_hb t' n
  | 0, _ => rfl
  | n + 1, h => by
    unfold hx_hb
    rw [hx_hbc n (fun k hk => h k (by omega)), h n (by omega)]
theorem hx_hc0 {t : hx_St} : ∀ n, (∀ k, k < n → ¬ t (45 + k) < 0) → hx_hc t n = 0
  | 0, _ => rfl
  | n + 1, h => by
    unfold hx_hc
    rw [hx_hc0 n (fun k hk => h k (by omega)), if_neg (h n (by omega))]
theorem hx_hb0 {t : hx_St} : ∀ n, (∀ k, k < n → ¬ t (45 + k) < 0) → hx_hb t n = 0
  | 0, _ => rfl
  | n + 1, h => by
    unfold hx_hb
    rw [hx_hb0 n (fun k hk => h k (by omega)), if_neg (h n (by omega))]
theorem hx_hcz {t : hx_St} : ∀ n, hx_hc t n = 0 → ∀ k, k < n → ¬ t (45 + k) < 0
  | 0, _, k, hk => absurd hk (by omega)
  | n + 1, h, k, hk => by
    unfold hx_hc at h
    by_cases c : t (45 + n) < 0
    · rw [if_pos c] at h
      omega
    · rw [if_neg c] at h
      by_cases e : k = n
      · rw [e]
        exact c
      · exact hx_hcz n (by omega) k (by omega)
theorem hx_hcle {t : hx_St} : ∀ n, hx_hc t n ≤ n
  | 0 => Nat.le_refl 0
  | n + 1 => by
    have := hx_hcle (t := t) n
    unfold hx_hc
    split <;> omega
theorem hx_hbt {t : hx_St} {i : Nat} (hi : i < 32) : ∀ n, n ≤ 32 → bt (hx_hb t n) i = decide (i < n ∧ t (45 + i) < 0)
  | 0, _ => by
    rw [decide_eq_false (by omega)]
    exact b_0 i
  | n + 1, h => by
    have ih := hx_hbt (t := t) hi n (by omega)
    unfold hx_hb
    by_cases e : i = n
    · subst e
      rw [decide_eq_false (by omega)] at ih
      by_cases c : t (45 + i) < 0
      · rw [if_pos c, b_or, hx_one hi hi, decide_eq_true rfl, Bool.or_true, decide_eq_true ⟨by omega, c⟩]
      · rw [if_neg c, ih, decide_eq_false (by rintro ⟨_, x⟩; exact c x)]
    · have e2 : decide (i < n + 1 ∧ t (45 + i) < 0) = decide (i < n ∧ t (45 + i) < 0) := by
        apply decide_eq_decide.mpr
        constructor
        · rintro ⟨a, b⟩
          exact ⟨by omega, b⟩
        · rintro ⟨a, b⟩
          exact ⟨by omega, b⟩
      rw [e2, ← ih]
      split
      · rw [b_or, hx_one (by omega) hi, decide_eq_false e, Bool.or_false]
      · rfl
theorem hx_fhold {E : hx_Env} (h8 : hx_P E ≤ 8) {t : hx_St} {W : Nat} (hW : W < 2 ^ 30) (ht : hx_tw (hx_P E) W t) {w : Int32} (hw : hx_wr8 (hx_P E) w) : hx_hold (hx_fin E t w) = (if w = -1 then hx_hold t else 0) ∧ hx_holds (hx_fin E t w) = (if w = -1 then hx_holds t else 0) := by
  have ho := hx_woR ht hw
  have hL := hx_L ht
  obtain ⟨n, hn, e19⟩ := ht.2.1
  unfold hx_hold hx_holds
  rw [hx_f20 h8 ho]
  by_cases c : w = -1
  · rw [if_pos c, if_pos c]
    have e : ∀ k, k < (t 20).toNatClampNeg → hx_fin E t w (45 + k) = t (45 + k) := by
      intro k hk
      rw [hx_f45 h8 ho (by omega), if_neg (by rintro ⟨x, _⟩; exact x c)]
    exact ⟨hx_hcc _ e, hx_hbc _ e⟩
  · rw [if_neg c, if_neg c]
    have e : ∀ k, k < (t 20).toNatClampNeg → ¬ hx_fin E t w (45 + k) < 0 := by
      intro k hk
      rw [hx_f45 h8 ho (by omega)]
      by_cases y : t (45 + k) < 0
      · rw [if_pos ⟨c, hk, y⟩, e19]
        exact nI_pos (by omega)
      · rw [if_neg (by rintro ⟨_, _, z⟩; exact y z)]
        exact y
    exact ⟨hx_hc0 _ e, hx_hb0 _ e⟩
