/-! ===== the law's body on the machine ===== -/
abbrev hl_C : Type := (Nat × (hs_L × List hs_V)) × hs_M
def hl_K0 : hs_T hl_C := fun pc ls st μ => some ((pc, ls, st), μ)
/-- as far as the next stop, or the next end -/
noncomputable def hg_go (code : hs_K) (d : Nat) (stops : List Nat) (n : Nat) : hs_T hl_C := hs_go code (hs_call d) stops hl_K0 hl_K0 n
noncomputable abbrev hl_go (d : Nat) (stops : List Nat) (n : Nat) : hs_T hl_C := hg_go hs_klaw d stops n
def hl_L (x : Int32) : hs_L := [some (vR 70 0), some (vR 11 0), some (vR 12 0), some (vR 69 0), some (vI x), none, none, none]
theorem hl_ckk {own : Nat} {bytes : ByteArray} : ∀ (k : hs_K) (pc : Nat), (∀ a l, hs_nth k a = some l → (Nat.ble l.length 16 && hs_ckl own bytes (pc + 16 * a) l) = true) → hs_ckk own bytes pc k = true
  | [], _, _ => rfl
  | l :: k, pc, h => by
    have h0 := h 0 l rfl
    have h1 := hl_ckk k (pc + 16) (fun a l' e => by
      have := h (a + 1) l' e
      rw [show pc + 16 * (a + 1) = pc + 16 + 16 * a by omega] at this
      exact this)
    rw [Bool.and_eq_true] at h0
    unfold hs_ckk
    rw [h0.1, show hs_ckl own bytes pc l = true from h0.2, h1]
    rfl
set_option maxRecDepth 100000 in
theorem hl_ck_0 : (List.range 16).all (fun k => match hs_nth hs_klaw (0 + k) with
  | some l => Nat.ble l.length 16 && hs_ckl 13 code (16 * (0 + k)) l
  | none => true) = true := by decide +kernel
set_option maxRecDepth 100000 in
theorem hl_ck_1 : (List.range 16).all (fun k => match hs_nth hs_klaw (16 + k) with
  | some l => Nat.ble l.length 16 && hs_ckl 13 code (16 * (16 + k)) l
  | none => true) = true := by decide +kernel
set_option maxRecDepth 100000 in
theorem hl_ck_2 : (List.range 16).all (fun k => match hs_nth hs_klaw (32 + k) with
  | some l => Nat.ble l.length 16 && hs_ckl 13 code (16 * (32 + k)) l
  | none => true) = true := by decide +kernel
set_option maxRecDepth 100000 in
theorem hl_ck_3 : (List.range 16).all (fun k => match hs_nth hs_klaw (48 + k) with
  | some l => Nat.ble l.length 16 && hs_ckl 13 code (16 * (48 + k)) l
  | none => true) = true := by decide +kernel
set_option maxRecDepth 100000 in
theorem hl_ck_4 : (List.range 16).all (fun k => match hs_nth hs_klaw (64 + k) with
  | some l => Nat.ble l.length 16 && hs_ckl 13 code (16 * (64 + k)) l
  | none => true) = true := by decide +kernel
set_option maxRecDepth 100000 in
theorem hl_ck_5 : (List.range 16).all (fun k => match hs_nth hs_klaw (80 + k) with
  | some l => Nat.ble l.length 16 && hs_ckl 13 code (16 * (80 + k)) l
  | none => true) = true := by decide +kernel
set_option maxRecDepth 100000 in
theorem hl_ck_6 : (List.range 16).all (fun k => match hs_nth hs_klaw (96 + k) with
  | some l => Nat.ble l.length 16 && hs_ckl 13 code (16 * (96 + k)) l
  | none => true) = true := by decide +kernel
theorem hl_len : hs_klaw.length = 110 := rfl
theorem hl_ck : hs_ckk 13 code 0 hs_klaw = true := by
  apply hl_ckk
  intro a l e
  have hl := hs_nth_lt _ _ _ e
  rw [hl_len] at hl
  rw [Nat.zero_add]
  have key : ∀ i : Nat, (List.range 16).all (fun k => match hs_nth hs_klaw (16 * i + k) with
    | some l => Nat.ble l.length 16 && hs_ckl 13 code (16 * (16 * i + k)) l
    | none => true) = true → a / 16 = i → (Nat.ble l.length 16 && hs_ckl 13 code (16 * a) l) = true := by
    intro i hi q
    have := List.all_eq_true.mp hi (a % 16) (List.mem_range.mpr (Nat.mod_lt _ (by omega)))
    rw [show 16 * i + a % 16 = a by omega, e] at this
    exact this
  rcases (show a / 16 = 0 ∨ a / 16 = 1 ∨ a / 16 = 2 ∨ a / 16 = 3 ∨ a / 16 = 4 ∨ a / 16 = 5 ∨ a / 16 = 6 by omega) with q | q | q | q | q | q | q
  · exact key 0 hl_ck_0 q
  · exact key 1 hl_ck_1 q
  · exact key 2 hl_ck_2 q
  · exact key 3 hl_ck_3 q
  · exact key 4 hl_ck_4 q
  · exact key 5 hl_ck_5 q
  · exact key 6 hl_ck_6 q
