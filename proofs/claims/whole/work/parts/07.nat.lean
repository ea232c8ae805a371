/-! ===== a step is natural in what comes behind it; the fuel-free run is a fixed point ===== -/
theorem hs_b_if {ρ ρ' : Type} (g : ρ → Option ρ') (b : Bool) (r : Option ρ) : (hs_if b r).bind g = hs_if b (r.bind g) := by cases b <;> rfl
theorem hs_b_go8 {ρ ρ' : Type} (g : ρ → Option ρ') (st : List hs_V) (r : Option ρ) : (hs_go8 st r).bind g = hs_go8 st (r.bind g) := by
  unfold hs_go8
  cases Nat.ble (hs_cats st) 8 <;> rfl
theorem hs_b_bI {ρ ρ' : Type} (g : ρ → Option ρ') (r : Option (Option hs_V × hs_M)) (k : Int32 → hs_M → Option ρ) : (hs_bI r k).bind g = hs_bI r (fun x μ => (k x μ).bind g) := by
  rcases r with _ | ⟨_ | a | a | a, μ⟩ <;> rfl
theorem hs_b_bL {ρ ρ' : Type} (g : ρ → Option ρ') (r : Option (Option hs_V × hs_M)) (k : Int64 → hs_M → Option ρ) : (hs_bL r k).bind g = hs_bL r (fun x μ => (k x μ).bind g) := by
  rcases r with _ | ⟨_ | a | a | a, μ⟩ <;> rfl
theorem hs_b_bV {ρ ρ' : Type} (g : ρ → Option ρ') (r : Option (Option hs_V × hs_M)) (k : hs_M → Option ρ) : (hs_bV r k).bind g = hs_bV r (fun μ => (k μ).bind g) := by
  rcases r with _ | ⟨_ | a | a | a, μ⟩ <;> rfl
theorem hs_b_gI {ρ ρ' : Type} (g : ρ → Option ρ') (r : Option (Option hs_V)) (k : Int32 → Option ρ) : (hs_gI r k).bind g = hs_gI r (fun x => (k x).bind g) := by
  rcases r with _ | _ | a | a | a <;> rfl
theorem hs_b_gL {ρ ρ' : Type} (g : ρ → Option ρ') (r : Option (Option hs_V)) (k : Int64 → Option ρ) : (hs_gL r k).bind g = hs_gL r (fun x => (k x).bind g) := by
  rcases r with _ | _ | a | a | a <;> rfl
theorem hs_b_gR {ρ ρ' : Type} (g : ρ → Option ρ') (r : Option (Option hs_V)) (k : Nat → Nat → Option ρ) : (hs_gR r k).bind g = hs_gR r (fun x y => (k x y).bind g) := by
  rcases r with _ | _ | a | a | a <;> rfl
theorem hs_b_set1 {ρ ρ' : Type} (g : ρ → Option ρ') (v : hs_V) : ∀ (ls : hs_L) (i : Nat) (K : hs_L → Option ρ), (hs_set1 ls i v K).bind g = hs_set1 ls i v (fun l => (K l).bind g)
  | [], _, _ => rfl
  | _ :: _, 0, _ => rfl
  | a :: l, n + 1, K => by
    unfold hs_set1
    rw [hs_b_set1 g v l n]
    cases n <;> rfl
theorem hs_b_set2 {ρ ρ' : Type} (g : ρ → Option ρ') (v : hs_V) : ∀ (ls : hs_L) (i : Nat) (K : hs_L → Option ρ), (hs_set2 ls i v K).bind g = hs_set2 ls i v (fun l => (K l).bind g)
  | [], _, _ => rfl
  | [_], _, _ => rfl
  | _ :: _ :: _, 0, _ => rfl
  | a :: b :: l, n + 1, K => by
    unfold hs_set2
    rw [hs_b_set2 g v (b :: l) n]
    cases n <;> rfl
theorem hs_b_pop {ρ ρ' : Type} (g : ρ → Option ρ') : ∀ (n : Nat) (st as : List hs_V) (K : List hs_V → List hs_V → Option ρ), (hs_pop n st as K).bind g = hs_pop n st as (fun a s => (K a s).bind g)
  | 0, _, _, _ => rfl
  | _ + 1, [], _, _ => rfl
  | n + 1, v :: st, as, K => by
    unfold hs_pop
    rw [hs_b_pop g n st (v :: as) K]
theorem hs_b_tsw {ρ ρ' : Type} (g : ρ → Option ρ') (x : Int32) (pc : Nat) (dflt : Int) (k : Nat → Option ρ) : ∀ (l : List Int) (v : Int), (hs_tsw x pc dflt k v l).bind g = hs_tsw x pc dflt (fun t => (k t).bind g) v l
  | [], _ => rfl
  | a :: l, v => by
    unfold hs_tsw
    by_cases h : x = hs_ic v
    · rw [if_pos h, if_pos h]
    · rw [if_neg h, if_neg h, hs_b_tsw g x pc dflt k l (v + 1)]
theorem hs_b_lsw {ρ ρ' : Type} (g : ρ → Option ρ') (x : Int32) (pc : Nat) (dflt : Int) (k : Nat → Option ρ) : ∀ (l : List (Int × Int)), (hs_lsw x pc dflt k l).bind g = hs_lsw x pc dflt (fun t => (k t).bind g) l
  | [] => rfl
  | a :: l => by
    unfold hs_lsw
    by_cases h : x = hs_ic a.1
    · rw [if_pos h, if_pos h]
    · rw [if_neg h, if_neg h, hs_b_lsw g x pc dflt k l]
theorem hs_b_ite {ρ ρ' : Type} (g : ρ → Option ρ') {c : Prop} [Decidable c] (a b : Option ρ) : (if c then a else b).bind g = if c then a.bind g else b.bind g := by
  by_cases h : c
  · rw [if_pos h, if_pos h]
  · rw [if_neg h, if_neg h]
theorem hs_b_none {ρ ρ' : Type} (g : ρ → Option ρ') : (none : Option ρ).bind g = none := rfl
theorem hs_b_rcv {ρ ρ' : Type} (g : ρ → Option ρ') (as : List hs_V) (ci : Nat) (r : Option ρ) : (hs_rcv as ci r).bind g = hs_rcv as ci (r.bind g) := by
  unfold hs_rcv
  split
  · rw [hs_b_if]
  · rfl
theorem hs_b_inv {ρ ρ' : Type} (g : ρ → Option ρ') (call : hs_C) (k : hs_T ρ) (ops : List Nat) (pc : Nat) (ls : hs_L) (st : List hs_V) (μ : hs_M) : (hs_inv call k ops pc ls st μ).bind g = hs_inv call (fun pc ls st μ => (k pc ls st μ).bind g) ops pc ls st μ := by
  unfold hs_inv
  split
  · rw [hs_b_pop]; simp only [hs_b_go8, hs_b_bV]
  · rw [hs_b_pop]; simp only [hs_b_go8, hs_b_bI]
  · rw [hs_b_pop]; simp only [hs_b_go8, hs_b_bL]
  · rw [hs_b_pop]; simp only [hs_b_rcv, hs_b_go8, hs_b_bV]
  · rw [hs_b_pop]; simp only [hs_b_rcv, hs_b_go8, hs_b_bI]
  · rw [hs_b_pop]; simp only [hs_b_rcv, hs_b_go8, hs_b_bL]
  · split
    · rw [hs_b_if, hs_b_ite]; rfl
    · rfl
  · rfl
theorem hs_b_txt {ρ ρ' : Type} (g : ρ → Option ρ') (k : hs_T ρ) (ops : List Nat) (pc : Nat) (ls : hs_L) (st : List hs_V) (μ : hs_M) : (hs_txt k ops pc ls st μ).bind g = hs_txt (fun pc ls st μ => (k pc ls st μ).bind g) ops pc ls st μ := by
  unfold hs_txt
  split
  · rw [hs_b_if]; split <;> rfl
  · rw [hs_b_if]
    split
    · rw [hs_b_ite]; rfl
    · rfl
  · rfl
set_option maxHeartbeats 4000000 in
theorem hs_b_step {ρ ρ' : Type} (g : ρ → Option ρ') (call : hs_C) (k done : hs_T ρ) (r : hs_R) (pc : Nat) (ls : hs_L) (st : List hs_V) (μ : hs_M) : (hs_step call k done r pc ls st μ).bind g = hs_step call (fun pc ls st μ => (k pc ls st μ).bind g) (fun pc ls st μ => (done pc ls st μ).bind g) r pc ls st μ := by
  obtain ⟨i, n, ops, mk⟩ := r
  cases i <;> simp only [hs_step, hs_b_gI, hs_b_gL, hs_b_gR, hs_b_set1, hs_b_none, hs_b_inv] <;> (repeat' split) <;> first | rfl | simp only [hs_b_set1, hs_b_set2, hs_b_if, hs_b_ite, hs_b_none, hs_b_tsw, hs_b_lsw, hs_b_txt, hs_b_inv]
