/-! ===== frames: the machine's locals and stack, and the kit's ===== -/
def hs_el (g : hs_G) : Nat → hs_L → List (Nat × Value)
  | _, [] => []
  | i, none :: l => hs_el g (i + 1) l
  | i, some v :: l => (i, hs_enc g v) :: hs_el g (i + 1) l
theorem hs_el_mem {g : hs_G} : ∀ (l : hs_L) (i : Nat) (q : Nat × Value), q ∈ hs_el g i l ↔ ∃ (k : Nat) (v : hs_V), hs_nth l k = some (some v) ∧ q = (i + k, hs_enc g v)
  | [], i, q => by
    constructor
    · intro h; cases h
    · rintro ⟨k, v, h, -⟩; cases h
  | none :: l, i, q => by
    rw [show hs_el g i (none :: l) = hs_el g (i + 1) l from rfl, hs_el_mem l (i + 1) q]
    constructor
    · rintro ⟨k, v, h, e⟩
      exact ⟨k + 1, v, h, by rw [e, show i + 1 + k = i + (k + 1) by omega]⟩
    · rintro ⟨k, v, h, e⟩
      cases k with
      | zero => cases h
      | succ k => exact ⟨k, v, h, by rw [e, show i + 1 + k = i + (k + 1) by omega]⟩
  | some w :: l, i, q => by
    rw [show hs_el g i (some w :: l) = (i, hs_enc g w) :: hs_el g (i + 1) l from rfl, List.mem_cons, hs_el_mem l (i + 1) q]
    constructor
    · rintro (e | ⟨k, v, h, e⟩)
      · exact ⟨0, w, rfl, e⟩
      · exact ⟨k + 1, v, h, by rw [e, show i + 1 + k = i + (k + 1) by omega]⟩
    · rintro ⟨k, v, h, e⟩
      cases k with
      | zero => cases h; exact Or.inl e
      | succ k => exact Or.inr ⟨k, v, h, by rw [e, show i + 1 + k = i + (k + 1) by omega]⟩
theorem hs_nth_mem {α : Type} : ∀ (l : List α) (k : Nat) (a : α), hs_nth l k = some a → a ∈ l
  | [], _, _, h => by cases h
  | b :: l, 0, a, h => by cases h; exact List.mem_cons_self
  | b :: l, k + 1, a, h => List.mem_cons_of_mem _ (hs_nth_mem l k a h)
theorem hs_nth_lt {α : Type} : ∀ (l : List α) (k : Nat) (a : α), hs_nth l k = some a → k < l.length
  | [], _, _, h => by cases h
  | b :: l, 0, a, h => Nat.succ_pos _
  | b :: l, k + 1, a, h => Nat.succ_lt_succ (hs_nth_lt l k a h)
theorem lv_less {ls : Array Slot} {nL : Nat} {l l' : List (Nat × Value)} (h : lv_has ls nL l) (hs : ∀ q ∈ l', q ∈ l) : lv_has ls nL l' := ⟨h.1, h.2.1, fun q hq => h.2.2 q (hs q hq)⟩
theorem hs_mask_nth : ∀ (m : List Bool) (l : hs_L) (k : Nat) (v : hs_V), hs_nth (hs_mask m l) k = some (some v) → hs_nth l k = some (some v)
  | [], _, _, _, h => h
  | _ :: _, [], _, _, h => by
    rename_i b _
    cases b <;> cases h
  | true :: m, a :: l, 0, v, h => h
  | false :: m, a :: l, 0, v, h => by cases h
  | true :: m, a :: l, k + 1, v, h => hs_mask_nth m l k v h
  | false :: m, a :: l, k + 1, v, h => hs_mask_nth m l k v h
theorem hs_mask_length : ∀ (m : List Bool) (l : hs_L), (hs_mask m l).length = l.length
  | [], _ => rfl
  | _ :: _, [] => by
    rename_i b _
    cases b <;> rfl
  | true :: m, a :: l => by simp only [hs_mask, List.length_cons, hs_mask_length m l]
  | false :: m, a :: l => by simp only [hs_mask, List.length_cons, hs_mask_length m l]
/-- what a written local leaves -/
theorem hs_set1_spec {ρ : Type} : ∀ (ls : hs_L) (i : Nat) (v : hs_V) (K : hs_L → Option ρ) (r : ρ), hs_set1 ls i v K = some r → ∃ ls', K ls' = some r ∧ ls'.length = ls.length ∧ i < ls.length ∧ ∀ k w, hs_nth ls' k = some (some w) → (k = i ∧ w = v) ∨ (k ≠ i ∧ hs_nth ls k = some (some w) ∧ ¬ (k + 1 = i ∧ hs_cat w = 2))
  | [], _, _, _, _, h => by cases h
  | a :: l, 0, v, K, r, h => by
    refine ⟨some v :: l, h, rfl, Nat.succ_pos _, ?_⟩
    intro k w hk
    cases k with
    | zero => cases hk; exact Or.inl ⟨rfl, rfl⟩
    | succ k => exact Or.inr ⟨by omega, hk, by omega⟩
  | a :: l, n + 1, v, K, r, h => by
    obtain ⟨l', h1, h2, h3, h4⟩ := hs_set1_spec l n v _ r h
    cases n with
    | zero =>
      refine ⟨_, h1, by simp only [List.length_cons, h2], by simp only [List.length_cons]; omega, ?_⟩
      intro k w hk
      cases k with
      | zero =>
        cases ha : hs_isL a with
        | true => rw [ha] at hk; cases hk
        | false =>
          rw [ha] at hk
          refine Or.inr ⟨by omega, hk, ?_⟩
          rintro ⟨-, h6⟩
          have : a = some w := Option.some.inj hk
          rw [this] at ha
          rcases w with x | x | x
          · cases h6
          · cases ha
          · cases h6
      | succ k =>
        rcases h4 k w hk with ⟨a1, a2⟩ | ⟨a1, a2, a3⟩
        · exact Or.inl ⟨by omega, a2⟩
        · exact Or.inr ⟨by omega, a2, by rintro ⟨b1, b2⟩; exact a3 ⟨by omega, b2⟩⟩
    | succ n =>
      refine ⟨_, h1, by simp only [List.length_cons, h2], by simp only [List.length_cons]; omega, ?_⟩
      intro k w hk
      cases k with
      | zero => exact Or.inr ⟨by omega, hk, by omega⟩
      | succ k =>
        rcases h4 k w hk with ⟨a1, a2⟩ | ⟨a1, a2, a3⟩
        · exact Or.inl ⟨by omega, a2⟩
        · exact Or.inr ⟨by omega, a2, by rintro ⟨b1, b2⟩; exact a3 ⟨by omega, b2⟩⟩
theorem hs_set2_spec {ρ : Type} : ∀ (ls : hs_L) (i : Nat) (v : hs_V) (K : hs_L → Option ρ) (r : ρ), hs_set2 ls i v K = some r → ∃ ls', K ls' = some r ∧ ls'.length = ls.length ∧ i + 1 < ls.length ∧ ∀ k w, hs_nth ls' k = some (some w) → (k = i ∧ w = v) ∨ (k ≠ i ∧ k ≠ i + 1 ∧ hs_nth ls k = some (some w) ∧ ¬ (k + 1 = i ∧ hs_cat w = 2))
  | [], _, _, _, _, h => by cases h
  | [a], _, _, _, _, h => by
    rename_i i _ _ _
    cases i <;> cases h
  | a :: b :: l, 0, v, K, r, h => by
    refine ⟨some v :: none :: l, h, rfl, by simp only [List.length_cons]; omega, ?_⟩
    intro k w hk
    cases k with
    | zero => cases hk; exact Or.inl ⟨rfl, rfl⟩
    | succ k =>
      cases k with
      | zero => cases hk
      | succ k => exact Or.inr ⟨by omega, by omega, hk, by omega⟩
  | a :: b :: l, n + 1, v, K, r, h => by
    obtain ⟨l', h1, h2, h3, h4⟩ := hs_set2_spec (b :: l) n v _ r h
    cases n with
    | zero =>
      refine ⟨_, h1, by simp only [List.length_cons, h2], by simp only [List.length_cons] at h3 ⊢; omega, ?_⟩
      intro k w hk
      cases k with
      | zero =>
        cases ha : hs_isL a with
        | true => rw [ha] at hk; cases hk
        | false =>
          rw [ha] at hk
          refine Or.inr ⟨by omega, by omega, hk, ?_⟩
          rintro ⟨-, h6⟩
          have : a = some w := Option.some.inj hk
          rw [this] at ha
          rcases w with x | x | x
          · cases h6
          · cases ha
          · cases h6
      | succ k =>
        rcases h4 k w hk with ⟨a1, a2⟩ | ⟨a1, a0, a2, a3⟩
        · exact Or.inl ⟨by omega, a2⟩
        · exact Or.inr ⟨by omega, by omega, a2, by rintro ⟨b1, b2⟩; exact a3 ⟨by omega, b2⟩⟩
    | succ n =>
      refine ⟨_, h1, by simp only [List.length_cons, h2], by simp only [List.length_cons] at h3 ⊢; omega, ?_⟩
      intro k w hk
      cases k with
      | zero => exact Or.inr ⟨by omega, by omega, hk, by omega⟩
      | succ k =>
        rcases h4 k w hk with ⟨a1, a2⟩ | ⟨a1, a0, a2, a3⟩
        · exact Or.inl ⟨by omega, a2⟩
        · exact Or.inr ⟨by omega, by omega, a2, by rintro ⟨b1, b2⟩; exact a3 ⟨by omega, b2⟩⟩
def hs_stt (j : Nat) : String := (hs_nth ["+-", "0123", "iwpvqston", "<>=", "*/"] j).getD ""
/-- what the tables and the constants say of a state -/
def hs_Tx (g : hs_G) (U : State) : Prop := (∀ q ∈ hs_stx, vk_R "HeavierServesModel" q.1 (hs_stt q.2) (hs_gA g 90 q.2) U) ∧ vk_S 5 (hs_texts.map List.length) (hs_texts.map (fun l => l.map (fun n => Int32.ofNat n))) (hs_gA g 90) (hs_gV g) (hs_gP g) U U.heap ∧ va_Z "java/lang/String" "COMPACT_STRINGS" "Z" (.int 1) (hs_gP g) U U.heap ∧ va_Zq "jdk/internal/util/Preconditions" "SIOOBE_FORMATTER" "Ljava/util/function/BiFunction;" (hs_gP g) U U.heap
abbrev hs_inB : MethodName := ⟨"HeavierServes", "inBounds", "(I)I"⟩
def hs_Sf (g : hs_G) (U : State) : Prop := va_K (hs_gD g) hs_clas [(hs_gC g 0, .int), (hs_gC g 1, .long), (hs_gC g 2, .boolean), (hs_gC g 3, .object "HeavierServes$State")] U ∧ va_Nw (.methodLinkNest "HeavierServes$State" 62 hs_inB "HeavierServes") U ∧ va_Nw (.methodLinkNest "HeavierServes$Town" 52 hs_inB "HeavierServes") U ∧ hs_Tx g U ∧ va_X (hs_gA g 70 0) (hs_gN g) (hs_gX g) U U.heap ∧ hs_gA g 70 0 < U.heap.size ∧ ¬ hs_gP g (hs_gA g 70 0)
def hs_rel (g : hs_G) (nL : Nat) (s : State) (L : hs_L) (st : List hs_V) (μ : hs_M) (ls : Array Slot) (H : Heap) (locs : List Loc) : Prop := lv_has ls nL (hs_el g 0 L) ∧ L.length = nL ∧ (∀ k v, hs_nth L k = some (some v) → hs_ok v) ∧ (∀ v ∈ st, hs_ok v) ∧ hs_Wd g μ H ∧ va_S (hs_gP g) s.heap H locs
/-- a method's start and end -/
def hs_Pc (g : hs_G) (as : List hs_V) (μ : hs_M) : Array Value → State → Prop := va_Pc (as.map (hs_enc g)) (fun U => hs_Sf g U ∧ hs_Wd g μ U.heap)
def hs_Qc (g : hs_G) (r : Option hs_V) (μ : hs_M) : Array Value → State → Outcome → State → Prop := fun _ st oc t => oc = .returned (r.map (hs_enc g)) ∧ hs_Wd g μ t.heap ∧ va_F (hs_gP g) st t
def hs_wsl (y : Nat) : List Cond := .code (hs_nm y).1 (hs_nm y).2.1 (hs_nm y).2.2.1 (hs_nm y).2.2.2 :: hs_GW
def hs_callok (g : hs_G) (l : Launch) (rm : Room) (call : hs_C) : Prop := ∀ (y : Nat) (as : List hs_V) (μ : hs_M) (r : Option hs_V) (μ' : hs_M), y < 267 → call y as μ = some (r, μ') → (r = none → (hs_prog y).2.2 = 0) → (∀ v ∈ as, hs_ok v) → Met l (hs_nm y).1 (hs_wsl y) rm (hs_Pc g as μ) (hs_Qc g r μ') 0 0 (hs_gP g)
/-- a text constant's own calls -/
abbrev hs_y_len : MethodName := ⟨"java/lang/String", "length", "()I"⟩
abbrev hs_y_cha : MethodName := ⟨"java/lang/String", "charAt", "(I)C"⟩
def hs_w_len : List Cond := .code hs_y_len (hs_code 1488) 1 (some .int) :: hs_GW
def hs_w_cha : List Cond := .code hs_y_cha (hs_code 1498) 2 (some .char) :: hs_GW
def hs_tn (b : Nat) : MethodName := match b with
  | 0 => hs_y_len
  | _ => hs_y_cha
def hs_txok (g : hs_G) (l : Launch) (rm : Room) : Prop := ∀ (j : Nat) (t : List Nat) (μ : hs_M), hs_nth hs_texts j = some t → Met l hs_y_len hs_w_len rm (hs_Pc g [vR 90 j] μ) (hs_Qc g (some (vI (Int32.ofNat t.length))) μ) 0 0 (hs_gP g) ∧ ∀ i : Int32, hs_in i t.length = true → Met l hs_y_cha hs_w_cha rm (hs_Pc g [vR 90 j, vI i] μ) (hs_Qc g (some (vI (Int32.ofNat (t.getD i.toNatClampNeg 0)))) μ) 0 0 (hs_gP g)
def hs_Ctx (g : hs_G) (p : Program) (l : Launch) (R : Room) (s : State) (m : MethodId) (args : Array Value) (c : Code) (cells slots own : Nat) (cc : ByteArray) (nL : Nat) (call : hs_C) : Prop :=
  p.tables.exec = Jvm.exec ∧ c.code = cc ∧ c.maxLocals = nL ∧ s.vm.findClass (hs_own own) = some m.cls ∧ (∀ w ∈ hs_GW, w.before args s = true) ∧ hs_Sf g s ∧ (cells ≤ R.cells ∧ slots ≤ R.slots) ∧ (1 ≤ R.frames ∧ 48 ≤ R.locals ∧ ∃ rm : Room, rm.cells = 0 ∧ rm.slots = 0 ∧ rm.frames + 1 ≤ R.frames ∧ 48 + rm.locals ≤ R.locals ∧ hs_txok g l rm) ∧ ∃ rm : Room, rm.cells = 0 ∧ rm.slots = 0 ∧ rm.frames + 1 ≤ R.frames ∧ 48 + rm.locals ≤ R.locals ∧ hs_callok g l rm call
