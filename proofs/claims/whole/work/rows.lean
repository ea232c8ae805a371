section
/-! ===== THE MACHINE: a pure interpreter of the bytecode over an abstract memory ===== -/
abbrev hs_V : Type := Int32 ⊕ (Int64 ⊕ (Nat × Nat))
abbrev hs_M : Type := (Nat → Nat → Nat → Int32) × (Nat → Nat → Nat → Int64)
abbrev hs_L : Type := List (Option hs_V)
abbrev hs_T (ρ : Type) : Type := Nat → hs_L → List hs_V → hs_M → Option ρ
/-- an instruction, its length, what its operands say, the mask of the locals that are used from here on -/
abbrev hs_R : Type := Instr × (Nat × (List Nat × List Bool))
abbrev hs_K : Type := List (List (Option hs_R))
abbrev hs_C : Type := Nat → List hs_V → hs_M → Option (Option hs_V × hs_M)
abbrev vI (x : Int32) : hs_V := .inl x
abbrev vL (x : Int64) : hs_V := .inr (.inl x)
abbrev vR (k j : Nat) : hs_V := .inr (.inr (k, j))
def hs_nth {α : Type} : List α → Nat → Option α
  | [], _ => none
  | a :: _, 0 => some a
  | _ :: l, n + 1 => hs_nth l n
def hs_at (code : hs_K) (pc : Nat) : Option hs_R :=
  match hs_nth code (pc / 16) with
  | some l => (match hs_nth l (pc % 16) with
    | some r => r
    | none => none)
  | none => none
def hs_wI (μ : hs_M) (κ j i : Nat) (v : Int32) : hs_M := (fun a b c => if a = κ ∧ c = i ∧ b = j then v else μ.1 a b c, μ.2)
def hs_wL (μ : hs_M) (κ j i : Nat) (v : Int64) : hs_M := (μ.1, fun a b c => if a = κ ∧ c = i ∧ b = j then v else μ.2 a b c)
/-- System.arraycopy of ints -/
def hs_cp (μ : hs_M) (κ j sp κ' j' dp n : Nat) : hs_M := (fun a b c => if a = κ' ∧ b = j' ∧ dp ≤ c ∧ c < dp + n then μ.1 κ j (sp + (c - dp)) else μ.1 a b c, μ.2)
def hs_in (i : Int32) (n : Nat) : Bool := decide (0 ≤ i) && decide (i.toNatClampNeg < n)
def hs_cok (sp dp n : Int32) (a b : Nat) : Bool := decide (0 ≤ sp) && (decide (0 ≤ dp) && (decide (0 ≤ n) && (decide (sp.toNatClampNeg + n.toNatClampNeg ≤ a) && decide (dp.toNatClampNeg + n.toNatClampNeg ≤ b))))
def hs_isL : Option hs_V → Bool
  | some (.inr (.inl _)) => true
  | _ => false
def hs_cl (b : Bool) (a : Option hs_V) : Option hs_V := match b with
  | true => none
  | false => a
/-- a local of one slot is written: a long that stands before it or at it is gone -/
def hs_set1 {ρ : Type} : hs_L → Nat → hs_V → (hs_L → Option ρ) → Option ρ
  | [], _, _, _ => none
  | _ :: l, 0, v, K => K (some v :: l)
  | a :: l, n + 1, v, K => hs_set1 l n v (fun l' => match n with
    | 0 => K (hs_cl (hs_isL a) a :: l')
    | _ + 1 => K (a :: l'))
/-- a long is written -/
def hs_set2 {ρ : Type} : hs_L → Nat → hs_V → (hs_L → Option ρ) → Option ρ
  | [], _, _, _ => none
  | [_], _, _, _ => none
  | _ :: _ :: l, 0, v, K => K (some v :: none :: l)
  | a :: b :: l, n + 1, v, K => hs_set2 (b :: l) n v (fun l' => match n with
    | 0 => K (hs_cl (hs_isL a) a :: l')
    | _ + 1 => K (a :: l'))
def hs_mask : List Bool → hs_L → hs_L
  | [], l => l
  | _ :: _, [] => []
  | true :: m, a :: l => a :: hs_mask m l
  | false :: m, _ :: l => none :: hs_mask m l
def hs_cat : hs_V → Nat
  | .inr (.inl _) => 2
  | _ => 1
def hs_cats : List hs_V → Nat
  | [] => 0
  | v :: l => hs_cat v + hs_cats l
def hs_tgt (pc : Nat) (off : Int) : Nat := ((pc : Int) + off).toNat
def hs_ic (n : Int) : Int32 := match n with
  | .ofNat n => Int32.ofNat n
  | .negSucc n => -(Int32.ofNat (n + 1))
def hs_tsw {ρ : Type} (x : Int32) (pc : Nat) (dflt : Int) (k : Nat → Option ρ) : Int → List Int → Option ρ
  | _, [] => k (hs_tgt pc dflt)
  | v, off :: l => if x = hs_ic v then k (hs_tgt pc off) else hs_tsw x pc dflt k (v + 1) l
def hs_lsw {ρ : Type} (x : Int32) (pc : Nat) (dflt : Int) (k : Nat → Option ρ) : List (Int × Int) → Option ρ
  | [] => k (hs_tgt pc dflt)
  | q :: l => if x = hs_ic q.1 then k (hs_tgt pc q.2) else hs_lsw x pc dflt k l
def hs_bI {ρ : Type} (r : Option (Option hs_V × hs_M)) (k : Int32 → hs_M → Option ρ) : Option ρ :=
  match r with
  | some (some (.inl v), μ) => k v μ
  | _ => none
def hs_bL {ρ : Type} (r : Option (Option hs_V × hs_M)) (k : Int64 → hs_M → Option ρ) : Option ρ :=
  match r with
  | some (some (.inr (.inl v)), μ) => k v μ
  | _ => none
def hs_bV {ρ : Type} (r : Option (Option hs_V × hs_M)) (k : hs_M → Option ρ) : Option ρ :=
  match r with
  | some (none, μ) => k μ
  | _ => none
def hs_gI {ρ : Type} (o : Option (Option hs_V)) (k : Int32 → Option ρ) : Option ρ :=
  match o with
  | some (some (.inl x)) => k x
  | _ => none
def hs_gL {ρ : Type} (o : Option (Option hs_V)) (k : Int64 → Option ρ) : Option ρ :=
  match o with
  | some (some (.inr (.inl x))) => k x
  | _ => none
def hs_gR {ρ : Type} (o : Option (Option hs_V)) (k : Nat → Nat → Option ρ) : Option ρ :=
  match o with
  | some (some (.inr (.inr q))) => k q.1 q.2
  | _ => none
/-- the arguments of a call, off the stack -/
def hs_pop {ρ : Type} : Nat → List hs_V → List hs_V → (List hs_V → List hs_V → Option ρ) → Option ρ
  | 0, st, as, K => K as st
  | _ + 1, [], _, _ => none
  | n + 1, v :: st, as, K => hs_pop n st (v :: as) K
def hs_go8 {ρ : Type} (st : List hs_V) (r : Option ρ) : Option ρ := match Nat.ble (hs_cats st) 8 with
  | true => r
  | false => none
def hs_if {ρ : Type} (b : Bool) (r : Option ρ) : Option ρ := match b with
  | true => r
  | false => none
def hs_akind (κ : Nat) : Nat := (hs_nth [9, 9, 9, 9, 9, 9, 9, 9, 9, 9, 9, 9, 9, 0, 1, 0, 0, 0, 0, 0, 0, 0, 0, 0, 0, 0, 0, 0, 0, 0, 3, 3, 0, 0, 0, 3, 0, 1, 1, 0, 1, 0, 0, 0, 0, 0, 0, 0, 0, 0, 0, 0, 0, 0, 0, 0, 0, 0, 0, 0, 0, 0, 0, 1, 1, 0, 2, 0, 0, 1, 0] κ).getD 9
def hs_len0 (κ : Nat) : Nat := (hs_nth [0, 0, 0, 0, 0, 0, 0, 0, 0, 0, 0, 0, 0, 80, 16, 8, 8, 8, 48, 8, 6, 40, 40, 40, 8, 8, 12, 12, 12, 60, 20, 3, 3, 12, 12, 11, 8, 9, 9, 61, 24, 8, 8, 48, 8, 117, 117, 80, 8, 8, 54, 9, 80, 80, 80, 2340, 61, 8, 8, 12, 12, 10, 10, 9, 9, 117, 3, 3, 351, 1, 0] κ).getD 0
/-- how long an array is; of the two pairs the second is shorter; the script says it itself -/
def hs_len (μ : hs_M) (κ j : Nat) : Nat := match Nat.beq κ 33 || Nat.beq κ 34 with
  | true => (match j with
    | 0 => 12
    | _ => 10)
  | false => (match Nat.beq κ 70 with
    | true => (μ.1 70 1 0).toNatClampNeg
    | false => hs_len0 κ)
def hs_wr (κ : Nat) : Bool := !(Nat.beq κ 70)
def hs_base (κ : Nat) : Nat := (hs_nth [0, 0, 0, 0, 0, 0, 0, 0, 0, 0, 0, 0, 0, 0, 0, 0, 0, 0, 0, 0, 0, 0, 0, 0, 0, 0, 0, 0, 0, 0, 1, 21, 0, 0, 0, 24] κ).getD 0
def hs_fld (κ : Nat) : List (Option (Nat × Nat × Nat)) := (hs_nth [[some (6, 0, 0), some (8, 0, 0), some (1, 0, 0), some (4, 0, 0), some (35, 0, 0), some (6, 0, 35), some (36, 0, 0), some (37, 0, 0), some (38, 0, 0), none, none, none, none],
  [some (8, 0, 0), some (10, 0, 0), some (5, 0, 0)],
  [some (33, 1, 0), some (34, 1, 0), none],
  [some (30, 0, 0), some (31, 0, 0), some (32, 0, 0), none, none],
  [some (14, 0, 0), none],
  [none, none, none, none],
  [none, none, none, none, none, none, none, some (24, 1, 0), some (25, 1, 0), some (26, 1, 0), some (27, 1, 0), some (28, 1, 0), some (29, 1, 0)],
  [some (13, 0, 0), none, none],
  [some (15, 0, 0), some (16, 0, 0), some (17, 0, 0), some (18, 0, 0), some (19, 0, 0), some (20, 0, 0), none, none, none, none],
  [some (6, 0, 0), some (8, 0, 0), some (1, 0, 0), some (4, 0, 0), some (6, 0, 36), some (39, 0, 0), none],
  [some (21, 0, 0), some (22, 0, 0), some (23, 0, 0), none, none, none],
  [some (7, 0, 0), some (4, 0, 0), some (8, 0, 0), some (10, 0, 0), some (5, 0, 0), some (6, 0, 0), some (3, 0, 0), some (2, 0, 0), some (2, 0, 1), some (1, 0, 0), some (0, 0, 0), some (9, 0, 0)],
  [none, none, some (40, 0, 0), none, some (41, 0, 0), some (42, 0, 0), some (43, 0, 0), some (44, 0, 0), none, none, some (45, 0, 0), some (46, 0, 0), some (47, 0, 0), none, none, none, none, some (48, 0, 0), some (49, 0, 0), some (50, 0, 0), some (51, 0, 0), none, some (52, 0, 0), some (53, 0, 0), none, none, some (54, 0, 0), none, none, some (55, 0, 0), some (56, 0, 0), none, some (57, 0, 0), some (58, 0, 0), none, some (59, 0, 0), some (60, 0, 0), none, some (61, 0, 0), some (62, 0, 0), some (63, 0, 0), some (64, 0, 0), some (65, 0, 0), some (66, 0, 0), some (67, 0, 0), some (68, 0, 0)]] κ).getD []
def hs_texts : List (List Nat) := [[43, 45], [48, 49, 50, 51], [105, 119, 112, 118, 113, 115, 116, 111, 110], [60, 62, 61], [42, 47]]
abbrev hz_n : Option hs_R := none
abbrev hz_r (i : Instr) (n : Nat) : Option hs_R := some (i, n, [], [])
abbrev hz_m (i : Instr) (n : Nat) (o : List Nat) (m : List Bool) : Option hs_R := some (i, n, o, m)
/-- a call: 0 nothing comes back, 1 an int, 2 a long -/
def hs_inv {ρ : Type} (call : hs_C) (k : hs_T ρ) (ops : List Nat) (pc : Nat) (ls : hs_L) (st : List hs_V) (μ : hs_M) : Option ρ :=
  match ops with
  | [y, n, 0] => hs_pop n st [] (fun as st' => hs_go8 st' (hs_bV (call y as μ) (fun μ' => k (pc + 3) ls st' μ')))
  | [y, n, 1] => hs_pop n st [] (fun as st' => hs_go8 st' (hs_bI (call y as μ) (fun x μ' => k (pc + 3) ls (vI x :: st') μ')))
  | [y, n, 2] => hs_pop n st [] (fun as st' => hs_go8 st' (hs_bL (call y as μ) (fun x μ' => k (pc + 3) ls (vL x :: st') μ')))
  | [_] => (match st with
    | .inl n :: .inl dp :: .inr (.inr (κ', j')) :: .inl sp :: .inr (.inr (κ, j)) :: st' =>
      hs_if (Nat.beq (hs_akind κ) 0 && (Nat.beq (hs_akind κ') 0 && Nat.ble (hs_cats st') 8)) (if hs_cok sp dp n (hs_len μ κ j) (hs_len μ κ' j') then k (pc + 3) ls st' (hs_cp μ κ j sp.toNatClampNeg κ' j' dp.toNatClampNeg n.toNatClampNeg) else none)
    | _ => none)
  | _ => none
/-- a text constant's own calls: its length, its signs -/
def hs_txt {ρ : Type} (k : hs_T ρ) (ops : List Nat) (pc : Nat) (ls : hs_L) (st : List hs_V) (μ : hs_M) : Option ρ :=
  match ops, st with
  | [_, 0], .inr (.inr (κ, j)) :: st' => hs_if (Nat.beq κ 90 && Nat.ble (hs_cats st') 8) (match hs_nth hs_texts j with
    | some l => k (pc + 3) ls (vI (Int32.ofNat l.length) :: st') μ
    | none => none)
  | [_, 1], .inl i :: .inr (.inr (κ, j)) :: st' => hs_if (Nat.beq κ 90 && Nat.ble (hs_cats st') 8) (match hs_nth hs_texts j with
    | some l => if hs_in i l.length then k (pc + 3) ls (vI (Int32.ofNat (l.getD i.toNatClampNeg 0)) :: st') μ else none
    | none => none)
  | _, _ => none
def hs_step {ρ : Type} (call : hs_C) (k done : hs_T ρ) (r : hs_R) (pc : Nat) (ls : hs_L) (st : List hs_V) (μ : hs_M) : Option ρ :=
  match r.1 with
  | .iload i => hs_gI (hs_nth ls i) (fun x => k (pc + 2) ls (vI x :: st) μ)
  | .iload_n i => hs_gI (hs_nth ls i.val) (fun x => k (pc + 1) ls (vI x :: st) μ)
  | .lload i => hs_gL (hs_nth ls i) (fun x => k (pc + 2) ls (vL x :: st) μ)
  | .lload_n i => hs_gL (hs_nth ls i.val) (fun x => k (pc + 1) ls (vL x :: st) μ)
  | .aload i => hs_gR (hs_nth ls i) (fun κ j => k (pc + 2) ls (vR κ j :: st) μ)
  | .aload_n i => hs_gR (hs_nth ls i.val) (fun κ j => k (pc + 1) ls (vR κ j :: st) μ)
  | .istore i => (match st with
    | .inl x :: st' => hs_set1 ls i (vI x) (fun ls' => k (pc + 2) ls' st' μ)
    | _ => none)
  | .istore_n i => (match st with
    | .inl x :: st' => hs_set1 ls i.val (vI x) (fun ls' => k (pc + 1) ls' st' μ)
    | _ => none)
  | .lstore i => (match st with
    | .inr (.inl x) :: st' => hs_set2 ls i (vL x) (fun ls' => k (pc + 2) ls' st' μ)
    | _ => none)
  | .lstore_n i => (match st with
    | .inr (.inl x) :: st' => hs_set2 ls i.val (vL x) (fun ls' => k (pc + 1) ls' st' μ)
    | _ => none)
  | .astore i => (match st with
    | .inr (.inr (κ, j)) :: st' => hs_set1 ls i (vR κ j) (fun ls' => k (pc + 2) ls' st' μ)
    | _ => none)
  | .astore_n i => (match st with
    | .inr (.inr (κ, j)) :: st' => hs_set1 ls i.val (vR κ j) (fun ls' => k (pc + 1) ls' st' μ)
    | _ => none)
  | .iinc i n => hs_gI (hs_nth ls i) (fun x => hs_set1 ls i (vI (x + hs_ic n)) (fun ls' => k (pc + 3) ls' st μ))
  | .iconst n => k (pc + 1) ls (vI (hs_ic n) :: st) μ
  | .bipush n => k (pc + 2) ls (vI (hs_ic n) :: st) μ
  | .sipush n => k (pc + 3) ls (vI (hs_ic n) :: st) μ
  | .lconst n => k (pc + 1) ls (vL (Int64.ofNat n.val) :: st) μ
  | .ldc _ => (match r.2.2.1 with
    | [0, n] => k (pc + 2) ls (vI (Int32.ofNat n) :: st) μ
    | [1, n] => k (pc + 2) ls (vR 90 n :: st) μ
    | _ => none)
  | .ldc_w _ => (match r.2.2.1 with
    | [0, n] => k (pc + 3) ls (vI (Int32.ofNat n) :: st) μ
    | _ => none)
  | .ldc2_w _ => (match r.2.2.1 with
    | [0, n] => k (pc + 3) ls (vL (Int64.ofNat n) :: st) μ
    | [1, n] => k (pc + 3) ls (vL (-(Int64.ofNat n)) :: st) μ
    | _ => none)
  | .iadd => (match st with
    | .inl y :: .inl x :: st' => k (pc + 1) ls (vI (x + y) :: st') μ
    | _ => none)
  | .isub => (match st with
    | .inl y :: .inl x :: st' => k (pc + 1) ls (vI (x - y) :: st') μ
    | _ => none)
  | .imul => (match st with
    | .inl y :: .inl x :: st' => k (pc + 1) ls (vI (x * y) :: st') μ
    | _ => none)
  | .idiv => (match st with
    | .inl y :: .inl x :: st' => if y = 0 then none else k (pc + 1) ls (vI (x / y) :: st') μ
    | _ => none)
  | .irem => (match st with
    | .inl y :: .inl x :: st' => if y = 0 then none else k (pc + 1) ls (vI (x - x / y * y) :: st') μ
    | _ => none)
  | .ineg => (match st with
    | .inl x :: st' => k (pc + 1) ls (vI (-x) :: st') μ
    | _ => none)
  | .iand => (match st with
    | .inl y :: .inl x :: st' => k (pc + 1) ls (vI (x &&& y) :: st') μ
    | _ => none)
  | .ior => (match st with
    | .inl y :: .inl x :: st' => k (pc + 1) ls (vI (x ||| y) :: st') μ
    | _ => none)
  | .ixor => (match st with
    | .inl y :: .inl x :: st' => k (pc + 1) ls (vI (x ^^^ y) :: st') μ
    | _ => none)
  | .ishl => (match st with
    | .inl y :: .inl x :: st' => k (pc + 1) ls (vI (x <<< (y &&& 31)) :: st') μ
    | _ => none)
  | .ishr => (match st with
    | .inl y :: .inl x :: st' => k (pc + 1) ls (vI (x >>> (y &&& 31)) :: st') μ
    | _ => none)
  | .iushr => (match st with
    | .inl y :: .inl x :: st' => k (pc + 1) ls (vI ((x.toUInt32 >>> (y.toUInt32 &&& Int32.toUInt32 31)).toInt32) :: st') μ
    | _ => none)
  | .i2l => (match st with
    | .inl x :: st' => k (pc + 1) ls (vL x.toInt64 :: st') μ
    | _ => none)
  | .i2b => (match st with
    | .inl x :: st' => k (pc + 1) ls (vI x.toInt8.toInt32 :: st') μ
    | _ => none)
  | .i2s => (match st with
    | .inl x :: st' => k (pc + 1) ls (vI x.toInt16.toInt32 :: st') μ
    | _ => none)
  | .ladd => (match st with
    | .inr (.inl y) :: .inr (.inl x) :: st' => k (pc + 1) ls (vL (x + y) :: st') μ
    | _ => none)
  | .lmul => (match st with
    | .inr (.inl y) :: .inr (.inl x) :: st' => k (pc + 1) ls (vL (x * y) :: st') μ
    | _ => none)
  | .ldiv => (match st with
    | .inr (.inl y) :: .inr (.inl x) :: st' => if y = 0 then none else k (pc + 1) ls (vL (x / y) :: st') μ
    | _ => none)
  | .lrem => (match st with
    | .inr (.inl y) :: .inr (.inl x) :: st' => if y = 0 then none else k (pc + 1) ls (vL (x - x / y * y) :: st') μ
    | _ => none)
  | .lcmp => (match st with
    | .inr (.inl y) :: .inr (.inl x) :: st' => k (pc + 1) ls (vI (lg_cmp x y) :: st') μ
    | _ => none)
  | .dup => (match st with
    | .inl x :: st' => k (pc + 1) ls (vI x :: vI x :: st') μ
    | .inr (.inr (κ, j)) :: st' => k (pc + 1) ls (vR κ j :: vR κ j :: st') μ
    | _ => none)
  | .dup2 => (match st with
    | .inl x :: .inr (.inr (κ, j)) :: st' => k (pc + 1) ls (vI x :: vR κ j :: vI x :: vR κ j :: st') μ
    | _ => none)
  | .pop => (match st with
    | .inl _ :: st' => k (pc + 1) ls st' μ
    | _ => none)
  | .goto off => (match r.2.2.1 with
    | [] => k (hs_tgt pc off) ls st μ
    | _ => done pc ls st μ)
  | .ifCond c off => (match st with
    | .inl x :: st' => (match c with
      | .eq => if x = 0 then k (hs_tgt pc off) ls st' μ else k (pc + 3) ls st' μ
      | .ne => if x = 0 then k (pc + 3) ls st' μ else k (hs_tgt pc off) ls st' μ
      | .lt => if x < 0 then k (hs_tgt pc off) ls st' μ else k (pc + 3) ls st' μ
      | .ge => if x < 0 then k (pc + 3) ls st' μ else k (hs_tgt pc off) ls st' μ
      | .gt => if 0 < x then k (hs_tgt pc off) ls st' μ else k (pc + 3) ls st' μ
      | .le => if 0 < x then k (pc + 3) ls st' μ else k (hs_tgt pc off) ls st' μ)
    | _ => none)
  | .if_icmp c off => (match st with
    | .inl y :: .inl x :: st' => (match c with
      | .eq => if x = y then k (hs_tgt pc off) ls st' μ else k (pc + 3) ls st' μ
      | .ne => if x = y then k (pc + 3) ls st' μ else k (hs_tgt pc off) ls st' μ
      | .lt => if x < y then k (hs_tgt pc off) ls st' μ else k (pc + 3) ls st' μ
      | .ge => if x < y then k (pc + 3) ls st' μ else k (hs_tgt pc off) ls st' μ
      | .gt => if y < x then k (hs_tgt pc off) ls st' μ else k (pc + 3) ls st' μ
      | .le => if y < x then k (pc + 3) ls st' μ else k (hs_tgt pc off) ls st' μ)
    | _ => none)
  | .tableswitch dflt lo _ offs => (match st with
    | .inl x :: st' => hs_tsw x pc dflt (fun t => k t ls st' μ) lo offs.toList
    | _ => none)
  | .lookupswitch dflt ps => (match st with
    | .inl x :: st' => hs_lsw x pc dflt (fun t => k t ls st' μ) ps.toList
    | _ => none)
  | .getfield _ => (match r.2.2.1, st with
    | [ci, f], .inr (.inr (κ, j)) :: st' => hs_if (Nat.beq κ ci) (match hs_nth (hs_fld κ) f with
      | some none => k (pc + 3) ls (vI (μ.1 κ j f) :: st') μ
      | some (some (κ', 0, b)) => k (pc + 3) ls (vR κ' b :: st') μ
      | some (some (κ', _ + 1, b)) => k (pc + 3) ls (vR κ' (j + b) :: st') μ
      | none => none)
    | _, _ => none)
  | .putfield _ => (match r.2.2.1, st with
    | [ci, f], .inl v :: .inr (.inr (κ, j)) :: st' => hs_if (Nat.beq κ ci) (match hs_nth (hs_fld κ) f with
      | some none => k (pc + 3) ls st' (hs_wI μ κ j f v)
      | _ => none)
    | _, _ => none)
  | .iaload => (match st with
    | .inl i :: .inr (.inr (κ, j)) :: st' => hs_if (Nat.beq (hs_akind κ) 0) (if hs_in i (hs_len μ κ j) then k (pc + 1) ls (vI (μ.1 κ j i.toNatClampNeg) :: st') μ else none)
    | _ => none)
  | .iastore => (match st with
    | .inl v :: .inl i :: .inr (.inr (κ, j)) :: st' => hs_if (Nat.beq (hs_akind κ) 0 && hs_wr κ) (if hs_in i (hs_len μ κ j) then k (pc + 1) ls st' (hs_wI μ κ j i.toNatClampNeg v) else none)
    | _ => none)
  | .baload => (match st with
    | .inl i :: .inr (.inr (κ, j)) :: st' => hs_if (Nat.beq (hs_akind κ) 2) (if hs_in i (hs_len μ κ j) then k (pc + 1) ls (vI (μ.1 κ j i.toNatClampNeg) :: st') μ else none)
    | _ => none)
  | .bastore => (match st with
    | .inl v :: .inl i :: .inr (.inr (κ, j)) :: st' => hs_if (Nat.beq (hs_akind κ) 2) (if hs_in i (hs_len μ κ j) then k (pc + 1) ls st' (hs_wI μ κ j i.toNatClampNeg (v &&& 1)) else none)
    | _ => none)
  | .laload => (match st with
    | .inl i :: .inr (.inr (κ, j)) :: st' => hs_if (Nat.beq (hs_akind κ) 1) (if hs_in i (hs_len μ κ j) then k (pc + 1) ls (vL (μ.2 κ j i.toNatClampNeg) :: st') μ else none)
    | _ => none)
  | .lastore => (match st with
    | .inr (.inl v) :: .inl i :: .inr (.inr (κ, j)) :: st' => hs_if (Nat.beq (hs_akind κ) 1) (if hs_in i (hs_len μ κ j) then k (pc + 1) ls st' (hs_wL μ κ j i.toNatClampNeg v) else none)
    | _ => none)
  | .aaload => (match st with
    | .inl i :: .inr (.inr (κ, j)) :: st' => hs_if (Nat.beq (hs_akind κ) 3) (if hs_in i (hs_len μ κ j) then k (pc + 1) ls (vR 6 (hs_base κ + i.toNatClampNeg) :: st') μ else none)
    | _ => none)
  | .arraylength => (match st with
    | .inr (.inr (κ, j)) :: st' => hs_if (Nat.ble 13 κ && Nat.blt κ 90) (k (pc + 1) ls (vI (Int32.ofNat (hs_len μ κ j)) :: st') μ)
    | _ => none)
  | .invokevirtual _ => (match r.2.2.1 with
    | [a, b] => hs_txt k [a, b] pc ls st μ
    | ops => hs_inv call k ops pc ls st μ)
  | .invokestatic _ => hs_inv call k r.2.2.1 pc ls st μ
  | .ireturn => done pc ls st μ
  | .lreturn => done pc ls st μ
  | .return_ => done pc ls st μ
  | .new _ => done pc ls st μ
  | _ => none
end
section
/-! ===== the code rows of the methods, 1 ===== -/
/-- java/lang/Integer.bitCount(I)I -/
def hs_k0 : hs_K := [
  [hz_r (.iload_n 0) 1, hz_r (.iload_n 0) 1, hz_r (.iconst 1) 1, hz_r (.iushr) 1, hz_m (.ldc_w 265) 3 [0, 1431655765] [], hz_n, hz_n, hz_r (.iand) 1, hz_r (.isub) 1, hz_r (.istore_n 0) 1, hz_r (.iload_n 0) 1, hz_m (.ldc_w 266) 3 [0, 858993459] [], hz_n, hz_n, hz_r (.iand) 1, hz_r (.iload_n 0) 1],
  [hz_r (.iconst 2) 1, hz_r (.iushr) 1, hz_m (.ldc_w 266) 3 [0, 858993459] [], hz_n, hz_n, hz_r (.iand) 1, hz_r (.iadd) 1, hz_r (.istore_n 0) 1, hz_r (.iload_n 0) 1, hz_r (.iload_n 0) 1, hz_r (.iconst 4) 1, hz_r (.iushr) 1, hz_r (.iadd) 1, hz_m (.ldc_w 267) 3 [0, 252645135] [], hz_n, hz_n],
  [hz_r (.iand) 1, hz_r (.istore_n 0) 1, hz_r (.iload_n 0) 1, hz_r (.iload_n 0) 1, hz_r (.bipush 8) 2, hz_n, hz_r (.iushr) 1, hz_r (.iadd) 1, hz_r (.istore_n 0) 1, hz_r (.iload_n 0) 1, hz_r (.iload_n 0) 1, hz_r (.bipush 16) 2, hz_n, hz_r (.iushr) 1, hz_r (.iadd) 1, hz_r (.istore_n 0) 1],
  [hz_r (.iload_n 0) 1, hz_r (.bipush 63) 2, hz_n, hz_r (.iand) 1, hz_r (.ireturn) 1]]
/-- java/lang/Math.floorMod(II)I -/
def hs_k1 : hs_K := [
  [hz_m (.iload_n 0) 1 [] [true, true, false], hz_r (.iload_n 1) 1, hz_r (.irem) 1, hz_r (.istore_n 2) 1, hz_r (.iload_n 0) 1, hz_r (.iload_n 1) 1, hz_r (.ixor) 1, hz_r (.ifCond .ge 11) 3, hz_n, hz_n, hz_m (.iload_n 2) 1 [] [false, true, true], hz_r (.ifCond .eq 7) 3, hz_n, hz_n, hz_m (.iload_n 2) 1 [] [false, true, true], hz_r (.iload_n 1) 1],
  [hz_r (.iadd) 1, hz_r (.ireturn) 1, hz_m (.iload_n 2) 1 [] [false, false, true], hz_r (.ireturn) 1]]
/-- java/lang/Math.max(II)I -/
def hs_k2 : hs_K := [
  [hz_r (.iload_n 0) 1, hz_r (.iload_n 1) 1, hz_r (.if_icmp .lt 7) 3, hz_n, hz_n, hz_m (.iload_n 0) 1 [] [true, false], hz_r (.goto 4) 3, hz_n, hz_n, hz_m (.iload_n 1) 1 [] [false, true], hz_m (.ireturn) 1 [] [false, false]]]
/-- java/lang/Math.min(II)I -/
def hs_k3 : hs_K := [
  [hz_r (.iload_n 0) 1, hz_r (.iload_n 1) 1, hz_r (.if_icmp .gt 7) 3, hz_n, hz_n, hz_m (.iload_n 0) 1 [] [true, false], hz_r (.goto 4) 3, hz_n, hz_n, hz_m (.iload_n 1) 1 [] [false, true], hz_m (.ireturn) 1 [] [false, false]]]
/-- HeavierServes$Future.run(II)V -/
def hs_k4 : hs_K := [
  [hz_m (.aload_n 0) 1 [] [true, true, true, false], hz_m (.getfield 18) 3 [0, 5] [], hz_n, hz_n, hz_r (.aload_n 0) 1, hz_m (.getfield 33) 3 [0, 0] [], hz_n, hz_n, hz_m (.invokevirtual 48) 3 [52, 2, 0] [], hz_n, hz_n, hz_r (.iconst 0) 1, hz_r (.istore_n 3) 1, hz_r (.iload_n 3) 1, hz_r (.iload_n 1) 1, hz_r (.if_icmp .ge 22) 3],
  [hz_n, hz_n, hz_r (.aload_n 0) 1, hz_m (.getfield 40) 3 [0, 2] [], hz_n, hz_n, hz_r (.aload_n 0) 1, hz_m (.getfield 18) 3 [0, 5] [], hz_n, hz_n, hz_r (.iconst 0) 1, hz_r (.iload_n 2) 1, hz_m (.invokevirtual 52) 3 [27, 4, 0] [], hz_n, hz_n, hz_r (.iinc 3 1) 3],
  [hz_n, hz_n, hz_r (.goto (-21)) 3, hz_n, hz_n, hz_m (.return_) 1 [] [false, false, false, false]]]
/-- HeavierServes$Future.gain(I)I -/
def hs_k5 : hs_K := [
  [hz_r (.aload_n 0) 1, hz_m (.getfield 18) 3 [0, 5] [], hz_n, hz_n, hz_m (.getfield 58) 3 [6, 8] [], hz_n, hz_n, hz_r (.iload_n 1) 1, hz_r (.iaload) 1, hz_r (.aload_n 0) 1, hz_m (.getfield 33) 3 [0, 0] [], hz_n, hz_n, hz_m (.getfield 58) 3 [6, 8] [], hz_n, hz_n],
  [hz_r (.iload_n 1) 1, hz_r (.iaload) 1, hz_r (.isub) 1, hz_r (.ireturn) 1]]
/-- HeavierServes$Future.gainOfParty(I)I -/
def hs_k6 : hs_K := [
  [hz_m (.iconst 0) 1 [] [true, true, false, false], hz_r (.istore_n 2) 1, hz_r (.iconst 0) 1, hz_r (.istore_n 3) 1, hz_r (.iload_n 3) 1, hz_r (.aload_n 0) 1, hz_m (.getfield 36) 3 [0, 1] [], hz_n, hz_n, hz_m (.getfield 61) 3 [8, 9] [], hz_n, hz_n, hz_r (.if_icmp .ge 30) 3, hz_n, hz_n, hz_r (.aload_n 0) 1],
  [hz_m (.getfield 36) 3 [0, 1] [], hz_n, hz_n, hz_m (.getfield 67) 3 [8, 0] [], hz_n, hz_n, hz_r (.iload_n 3) 1, hz_r (.iaload) 1, hz_r (.iload_n 1) 1, hz_r (.if_icmp .ne 11) 3, hz_n, hz_n, hz_r (.iload_n 2) 1, hz_r (.aload_n 0) 1, hz_r (.iload_n 3) 1, hz_m (.invokevirtual 70) 3 [5, 2, 1] []],
  [hz_n, hz_n, hz_r (.iadd) 1, hz_r (.istore_n 2) 1, hz_r (.iinc 3 1) 3, hz_n, hz_n, hz_r (.goto (-35)) 3, hz_n, hz_n, hz_m (.iload_n 2) 1 [] [false, false, true, false], hz_r (.ireturn) 1]]
/-- HeavierServes$Future.serverThen(I)I -/
def hs_k7 : hs_K := [
  [hz_m (.aload_n 0) 1 [] [true, true, false], hz_r (.iload_n 1) 1, hz_r (.sipush 255) 3, hz_n, hz_n, hz_m (.invokevirtual 74) 3 [4, 3, 0] [], hz_n, hz_n, hz_r (.aload_n 0) 1, hz_m (.getfield 44) 3 [0, 3] [], hz_n, hz_n, hz_r (.iconst 0) 1, hz_m (.putfield 78) 3 [4, 1] [], hz_n, hz_n],
  [hz_r (.iconst 0) 1, hz_r (.istore_n 2) 1, hz_m (.iload_n 2) 1 [] [true, false, true], hz_r (.aload_n 0) 1, hz_m (.getfield 36) 3 [0, 1] [], hz_n, hz_n, hz_m (.getfield 61) 3 [8, 9] [], hz_n, hz_n, hz_r (.if_icmp .ge 22) 3, hz_n, hz_n, hz_m (.aload_n 0) 1 [] [true, false, true], hz_m (.getfield 44) 3 [0, 3] [], hz_n],
  [hz_n, hz_r (.aload_n 0) 1, hz_r (.iload_n 2) 1, hz_m (.invokevirtual 70) 3 [5, 2, 1] [], hz_n, hz_n, hz_r (.i2l) 1, hz_m (.invokevirtual 83) 3 [43, 2, 0] [], hz_n, hz_n, hz_r (.iinc 2 1) 3, hz_n, hz_n, hz_r (.goto (-27)) 3, hz_n, hz_n],
  [hz_m (.aload_n 0) 1 [] [true, false, false], hz_m (.getfield 18) 3 [0, 5] [], hz_n, hz_n, hz_m (.getfield 87) 3 [6, 1] [], hz_n, hz_n, hz_r (.ireturn) 1]]
/-- HeavierServes$Future.weeksTill(I)I -/
def hs_k8 : hs_K := [
  [hz_m (.aload_n 0) 1 [] [true, true, false], hz_m (.getfield 18) 3 [0, 5] [], hz_n, hz_n, hz_r (.aload_n 0) 1, hz_m (.getfield 33) 3 [0, 0] [], hz_n, hz_n, hz_m (.invokevirtual 48) 3 [52, 2, 0] [], hz_n, hz_n, hz_r (.iconst 1) 1, hz_r (.istore_n 2) 1, hz_r (.iload_n 2) 1, hz_r (.bipush 99) 2, hz_n],
  [hz_r (.if_icmp .gt 37) 3, hz_n, hz_n, hz_r (.aload_n 0) 1, hz_m (.getfield 40) 3 [0, 2] [], hz_n, hz_n, hz_r (.aload_n 0) 1, hz_m (.getfield 18) 3 [0, 5] [], hz_n, hz_n, hz_r (.iconst 0) 1, hz_r (.sipush 255) 3, hz_n, hz_n, hz_m (.invokevirtual 52) 3 [27, 4, 0] []],
  [hz_n, hz_n, hz_r (.aload_n 0) 1, hz_m (.getfield 18) 3 [0, 5] [], hz_n, hz_n, hz_m (.getfield 87) 3 [6, 1] [], hz_n, hz_n, hz_r (.iload_n 1) 1, hz_r (.if_icmp .ne 5) 3, hz_n, hz_n, hz_m (.iload_n 2) 1 [] [false, false, true], hz_r (.ireturn) 1, hz_r (.iinc 2 1) 3],
  [hz_n, hz_n, hz_r (.goto (-37)) 3, hz_n, hz_n, hz_m (.bipush (-2)) 2 [] [false, false, false], hz_n, hz_r (.ireturn) 1]]
/-- HeavierServes$Future.reachable(I)I -/
def hs_k9 : hs_K := [
  [hz_m (.iconst 0) 1 [] [true, true, false, false, false, false], hz_r (.istore_n 2) 1, hz_r (.iconst 0) 1, hz_r (.istore_n 3) 1, hz_r (.aload_n 0) 1, hz_m (.getfield 33) 3 [0, 0] [], hz_n, hz_n, hz_m (.getfield 87) 3 [6, 1] [], hz_n, hz_n, hz_r (.ifCond .ge 9) 3, hz_n, hz_n, hz_m (.sipush 256) 3 [] [true, true, true, true, false, false], hz_n],
  [hz_n, hz_r (.goto 12) 3, hz_n, hz_n, hz_m (.iconst 1) 1 [] [true, true, true, true, false, false], hz_r (.aload_n 0) 1, hz_m (.getfield 33) 3 [0, 0] [], hz_n, hz_n, hz_m (.getfield 87) 3 [6, 1] [], hz_n, hz_n, hz_r (.ishl) 1, hz_m (.istore 4) 2 [] [true, true, true, true, false, false], hz_n, hz_r (.aload_n 0) 1],
  [hz_m (.getfield 18) 3 [0, 5] [], hz_n, hz_n, hz_r (.aload_n 0) 1, hz_m (.getfield 33) 3 [0, 0] [], hz_n, hz_n, hz_m (.invokevirtual 48) 3 [52, 2, 0] [], hz_n, hz_n, hz_r (.iconst 0) 1, hz_r (.istore 5) 2, hz_n, hz_r (.iload 5) 2, hz_n, hz_r (.iload_n 1) 1],
  [hz_r (.if_icmp .ge 48) 3, hz_n, hz_n, hz_m (.iload 4) 2 [] [true, true, true, false, true, true], hz_n, hz_r (.aload_n 0) 1, hz_r (.aload_n 0) 1, hz_r (.iload 4) 2, hz_n, hz_m (.invokevirtual 90) 3 [10, 2, 1] [], hz_n, hz_n, hz_m (.invokevirtual 93) 3 [11, 2, 1] [], hz_n, hz_n, hz_r (.ior) 1],
  [hz_r (.istore 4) 2, hz_n, hz_r (.iload 4) 2, hz_n, hz_r (.sipush 255) 3, hz_n, hz_n, hz_r (.iand) 1, hz_r (.istore_n 3) 1, hz_r (.iload_n 2) 1, hz_r (.iload_n 3) 1, hz_r (.ior) 1, hz_r (.istore_n 2) 1, hz_r (.aload_n 0) 1, hz_m (.getfield 40) 3 [0, 2] [], hz_n],
  [hz_n, hz_r (.aload_n 0) 1, hz_m (.getfield 18) 3 [0, 5] [], hz_n, hz_n, hz_r (.iconst 0) 1, hz_r (.iconst 0) 1, hz_m (.invokevirtual 52) 3 [27, 4, 0] [], hz_n, hz_n, hz_r (.iinc 5 1) 3, hz_n, hz_n, hz_r (.goto (-48)) 3, hz_n, hz_n],
  [hz_m (.aload_n 0) 1 [] [true, false, true, true, false, false], hz_m (.getfield 44) 3 [0, 3] [], hz_n, hz_n, hz_r (.iload_n 3) 1, hz_r (.i2l) 1, hz_m (.invokevirtual 96) 3 [42, 2, 0] [], hz_n, hz_n, hz_r (.iload_n 2) 1, hz_r (.ireturn) 1]]
/-- HeavierServes$Future.lightest(I)I -/
def hs_k10 : hs_K := [
  [hz_m (.iload_n 1) 1 [] [true, true, false, false], hz_r (.sipush 256) 3, hz_n, hz_n, hz_r (.iand) 1, hz_r (.ifCond .eq 5) 3, hz_n, hz_n, hz_m (.iconst (-1)) 1 [] [false, false, false, false], hz_r (.ireturn) 1, hz_m (.ldc 101) 2 [0, 2147483647] [true, true, false, false], hz_n, hz_r (.istore_n 2) 1, hz_r (.iconst 0) 1, hz_r (.istore_n 3) 1, hz_r (.iload_n 3) 1],
  [hz_r (.aload_n 0) 1, hz_m (.getfield 36) 3 [0, 1] [], hz_n, hz_n, hz_m (.getfield 61) 3 [8, 9] [], hz_n, hz_n, hz_r (.if_icmp .ge 41) 3, hz_n, hz_n, hz_r (.iload_n 1) 1, hz_r (.iload_n 3) 1, hz_r (.ishr) 1, hz_r (.iconst 1) 1, hz_r (.iand) 1, hz_r (.ifCond .eq 27) 3],
  [hz_n, hz_n, hz_r (.iload_n 2) 1, hz_r (.aload_n 0) 1, hz_m (.getfield 40) 3 [0, 2] [], hz_n, hz_n, hz_m (.getfield 102) 3 [1, 2] [], hz_n, hz_n, hz_r (.aload_n 0) 1, hz_m (.getfield 18) 3 [0, 5] [], hz_n, hz_n, hz_m (.getfield 106) 3 [6, 7] [], hz_n],
  [hz_n, hz_r (.iload_n 3) 1, hz_r (.iaload) 1, hz_m (.invokevirtual 109) 3 [47, 2, 1] [], hz_n, hz_n, hz_m (.invokestatic 114) 3 [3, 2, 1] [], hz_n, hz_n, hz_r (.istore_n 2) 1, hz_r (.iinc 3 1) 3, hz_n, hz_n, hz_r (.goto (-46)) 3, hz_n, hz_n],
  [hz_m (.iload_n 2) 1 [] [false, false, true, false], hz_r (.ireturn) 1]]
/-- HeavierServes$Future.heavierThan(I)I -/
def hs_k11 : hs_K := [
  [hz_m (.iconst 0) 1 [] [true, true, false, false], hz_r (.istore_n 2) 1, hz_r (.iconst 0) 1, hz_r (.istore_n 3) 1, hz_r (.iload_n 3) 1, hz_r (.aload_n 0) 1, hz_m (.getfield 36) 3 [0, 1] [], hz_n, hz_n, hz_m (.getfield 61) 3 [8, 9] [], hz_n, hz_n, hz_r (.if_icmp .ge 49) 3, hz_n, hz_n, hz_r (.aload_n 0) 1],
  [hz_m (.getfield 18) 3 [0, 5] [], hz_n, hz_n, hz_r (.iload_n 3) 1, hz_m (.invokevirtual 120) 3 [55, 2, 1] [], hz_n, hz_n, hz_r (.ifCond .eq 32) 3, hz_n, hz_n, hz_r (.aload_n 0) 1, hz_m (.getfield 40) 3 [0, 2] [], hz_n, hz_n, hz_m (.getfield 102) 3 [1, 2] [], hz_n],
  [hz_n, hz_r (.aload_n 0) 1, hz_m (.getfield 18) 3 [0, 5] [], hz_n, hz_n, hz_m (.getfield 106) 3 [6, 7] [], hz_n, hz_n, hz_r (.iload_n 3) 1, hz_r (.iaload) 1, hz_m (.invokevirtual 109) 3 [47, 2, 1] [], hz_n, hz_n, hz_r (.iload_n 1) 1, hz_r (.if_icmp .le 9) 3, hz_n],
  [hz_n, hz_r (.iload_n 2) 1, hz_r (.iconst 1) 1, hz_r (.iload_n 3) 1, hz_r (.ishl) 1, hz_r (.ior) 1, hz_r (.istore_n 2) 1, hz_r (.iinc 3 1) 3, hz_n, hz_n, hz_r (.goto (-54)) 3, hz_n, hz_n, hz_m (.iload_n 2) 1 [] [false, false, true, false], hz_r (.ireturn) 1]]
/-- HeavierServes$Future.bestStanding(II)I -/
def hs_k12 : hs_K := [
  [hz_r (.aload_n 0) 1, hz_r (.iload_n 1) 1, hz_m (.putfield 124) 3 [0, 9] [], hz_n, hz_n, hz_r (.aload_n 0) 1, hz_r (.iload_n 2) 1, hz_m (.putfield 127) 3 [0, 10] [], hz_n, hz_n, hz_r (.aload_n 0) 1, hz_r (.iconst (-1)) 1, hz_m (.putfield 130) 3 [0, 11] [], hz_n, hz_n, hz_r (.aload_n 0) 1],
  [hz_r (.iconst 0) 1, hz_m (.putfield 133) 3 [0, 12] [], hz_n, hz_n, hz_r (.aload_n 0) 1, hz_m (.getfield 13) 3 [0, 4] [], hz_n, hz_n, hz_r (.iconst 0) 1, hz_r (.aaload) 1, hz_r (.aload_n 0) 1, hz_m (.getfield 33) 3 [0, 0] [], hz_n, hz_n, hz_m (.invokevirtual 48) 3 [52, 2, 0] [], hz_n],
  [hz_n, hz_r (.aload_n 0) 1, hz_r (.iconst 0) 1, hz_r (.iconst 0) 1, hz_m (.invokevirtual 136) 3 [13, 3, 0] [], hz_n, hz_n, hz_r (.aload_n 0) 1, hz_m (.getfield 44) 3 [0, 3] [], hz_n, hz_n, hz_r (.aload_n 0) 1, hz_m (.getfield 133) 3 [0, 12] [], hz_n, hz_n, hz_r (.i2l) 1],
  [hz_m (.invokevirtual 96) 3 [42, 2, 0] [], hz_n, hz_n, hz_r (.aload_n 0) 1, hz_m (.getfield 130) 3 [0, 11] [], hz_n, hz_n, hz_r (.ireturn) 1]]
/-- HeavierServes$Future.search(II)V -/
def hs_k13 : hs_K := [
  [hz_m (.iload_n 1) 1 [] [true, true, true, false, false, false, false], hz_r (.ifCond .lt 17) 3, hz_n, hz_n, hz_m (.iload_n 1) 1 [] [true, true, true, false, false, false, false], hz_r (.aload_n 0) 1, hz_m (.getfield 127) 3 [0, 10] [], hz_n, hz_n, hz_r (.if_icmp .gt 9) 3, hz_n, hz_n, hz_m (.iload_n 1) 1 [] [true, true, true, false, false, false, false], hz_r (.bipush 10) 2, hz_n, hz_r (.if_icmp .le 4) 3],
  [hz_n, hz_n, hz_m (.return_) 1 [] [false, false, false, false, false, false, false], hz_m (.aload_n 0) 1 [] [true, true, true, false, false, false, false], hz_m (.getfield 13) 3 [0, 4] [], hz_n, hz_n, hz_r (.iload_n 1) 1, hz_r (.aaload) 1, hz_r (.astore_n 3) 1, hz_r (.aload_n 3) 1, hz_m (.getfield 58) 3 [6, 8] [], hz_n, hz_n, hz_r (.aload_n 0) 1, hz_m (.getfield 124) 3 [0, 9] []],
  [hz_n, hz_n, hz_r (.iaload) 1, hz_r (.aload_n 0) 1, hz_m (.getfield 33) 3 [0, 0] [], hz_n, hz_n, hz_m (.getfield 58) 3 [6, 8] [], hz_n, hz_n, hz_r (.aload_n 0) 1, hz_m (.getfield 124) 3 [0, 9] [], hz_n, hz_n, hz_r (.iaload) 1, hz_r (.isub) 1],
  [hz_r (.istore 4) 2, hz_n, hz_r (.iload 4) 2, hz_n, hz_r (.aload_n 0) 1, hz_m (.getfield 127) 3 [0, 10] [], hz_n, hz_n, hz_r (.iadd) 1, hz_r (.iload_n 1) 1, hz_r (.isub) 1, hz_r (.aload_n 0) 1, hz_m (.getfield 130) 3 [0, 11] [], hz_n, hz_n, hz_r (.if_icmp .ge 4) 3],
  [hz_n, hz_n, hz_m (.return_) 1 [] [false, false, false, false, false, false, false], hz_m (.iload_n 1) 1 [] [true, true, true, true, true, false, false], hz_r (.aload_n 0) 1, hz_m (.getfield 127) 3 [0, 10] [], hz_n, hz_n, hz_r (.if_icmp .eq 9) 3, hz_n, hz_n, hz_m (.iload_n 1) 1 [] [true, true, true, true, true, false, false], hz_r (.bipush 10) 2, hz_n, hz_r (.if_icmp .ne 11) 3, hz_n],
  [hz_n, hz_m (.aload_n 0) 1 [] [true, false, true, false, true, false, false], hz_r (.iload 4) 2, hz_n, hz_r (.iload_n 2) 1, hz_m (.invokevirtual 139) 3 [14, 3, 0] [], hz_n, hz_n, hz_r (.return_) 1, hz_m (.aload_n 0) 1 [] [true, true, true, true, false, false, false], hz_m (.getfield 13) 3 [0, 4] [], hz_n, hz_n, hz_r (.iload_n 1) 1, hz_r (.iconst 1) 1, hz_r (.iadd) 1],
  [hz_r (.aaload) 1, hz_r (.astore 5) 2, hz_n, hz_r (.sipush 255) 3, hz_n, hz_n, hz_r (.iconst 1) 1, hz_r (.aload_n 0) 1, hz_m (.getfield 124) 3 [0, 9] [], hz_n, hz_n, hz_r (.ishl) 1, hz_r (.iconst (-1)) 1, hz_r (.ixor) 1, hz_r (.iand) 1, hz_r (.istore 6) 2],
  [hz_n, hz_r (.aload_n 3) 1, hz_m (.getfield 87) 3 [6, 1] [], hz_n, hz_n, hz_r (.aload_n 0) 1, hz_m (.getfield 124) 3 [0, 9] [], hz_n, hz_n, hz_r (.if_icmp .eq 57) 3, hz_n, hz_n, hz_m (.aload_n 0) 1 [] [true, true, true, true, false, true, true], hz_m (.getfield 40) 3 [0, 2] [], hz_n, hz_n],
  [hz_r (.aload_n 3) 1, hz_r (.iconst 1) 1, hz_r (.aload_n 0) 1, hz_m (.getfield 124) 3 [0, 9] [], hz_n, hz_n, hz_r (.ishl) 1, hz_r (.iload 6) 2, hz_n, hz_m (.invokevirtual 142) 3 [29, 4, 1] [], hz_n, hz_n, hz_r (.aload_n 0) 1, hz_m (.getfield 124) 3 [0, 9] [], hz_n, hz_n],
  [hz_r (.if_icmp .ne 34) 3, hz_n, hz_n, hz_m (.aload 5) 2 [] [true, true, true, true, false, true, true], hz_n, hz_r (.aload_n 3) 1, hz_m (.invokevirtual 48) 3 [52, 2, 0] [], hz_n, hz_n, hz_r (.aload_n 0) 1, hz_m (.getfield 40) 3 [0, 2] [], hz_n, hz_n, hz_r (.aload 5) 2, hz_n, hz_r (.aload_n 0) 1],
  [hz_m (.getfield 124) 3 [0, 9] [], hz_n, hz_n, hz_m (.invokevirtual 146) 3 [28, 3, 0] [], hz_n, hz_n, hz_r (.aload_n 0) 1, hz_r (.iload_n 1) 1, hz_r (.iconst 1) 1, hz_r (.iadd) 1, hz_r (.iload_n 2) 1, hz_r (.iconst 1) 1, hz_r (.iload_n 1) 1, hz_r (.ishl) 1, hz_r (.ior) 1, hz_m (.invokevirtual 136) 3 [13, 3, 0] []],
  [hz_n, hz_n, hz_m (.aload 5) 2 [] [true, true, true, true, false, true, true], hz_n, hz_r (.aload_n 3) 1, hz_m (.invokevirtual 48) 3 [52, 2, 0] [], hz_n, hz_n, hz_r (.aload_n 0) 1, hz_m (.getfield 40) 3 [0, 2] [], hz_n, hz_n, hz_r (.aload 5) 2, hz_n, hz_r (.iconst 0) 1, hz_r (.iload 6) 2],
  [hz_n, hz_m (.invokevirtual 52) 3 [27, 4, 0] [], hz_n, hz_n, hz_r (.aload_n 0) 1, hz_r (.iload_n 1) 1, hz_r (.iconst 1) 1, hz_r (.iadd) 1, hz_r (.iload_n 2) 1, hz_m (.invokevirtual 136) 3 [13, 3, 0] [], hz_n, hz_n, hz_r (.return_) 1]]
/-- HeavierServes$Future.judge(II)V -/
def hs_k14 : hs_K := [
  [hz_m (.iload_n 2) 1 [] [true, true, true, false], hz_m (.invokestatic 150) 3 [0, 1, 1] [], hz_n, hz_n, hz_r (.aload_n 0) 1, hz_m (.getfield 133) 3 [0, 12] [], hz_n, hz_n, hz_m (.invokestatic 150) 3 [0, 1, 1] [], hz_n, hz_n, hz_r (.if_icmp .lt 25) 3, hz_n, hz_n, hz_m (.iload_n 2) 1 [] [true, true, true, false], hz_m (.invokestatic 150) 3 [0, 1, 1] []],
  [hz_n, hz_n, hz_r (.aload_n 0) 1, hz_m (.getfield 133) 3 [0, 12] [], hz_n, hz_n, hz_m (.invokestatic 150) 3 [0, 1, 1] [], hz_n, hz_n, hz_r (.if_icmp .ne 15) 3, hz_n, hz_n, hz_m (.iload_n 2) 1 [] [true, true, true, false], hz_r (.aload_n 0) 1, hz_m (.getfield 133) 3 [0, 12] [], hz_n],
  [hz_n, hz_r (.if_icmp .ge 7) 3, hz_n, hz_n, hz_m (.iconst 1) 1 [] [true, true, true, false], hz_r (.goto 4) 3, hz_n, hz_n, hz_m (.iconst 0) 1 [] [true, true, true, false], hz_m (.istore_n 3) 1 [] [true, true, true, false], hz_r (.iload_n 1) 1, hz_r (.aload_n 0) 1, hz_m (.getfield 130) 3 [0, 11] [], hz_n, hz_n, hz_r (.if_icmp .gt 15) 3],
  [hz_n, hz_n, hz_r (.iload_n 1) 1, hz_r (.aload_n 0) 1, hz_m (.getfield 130) 3 [0, 11] [], hz_n, hz_n, hz_r (.if_icmp .ne 17) 3, hz_n, hz_n, hz_r (.iload_n 3) 1, hz_r (.ifCond .eq 13) 3, hz_n, hz_n, hz_m (.aload_n 0) 1 [] [true, true, true, false], hz_r (.iload_n 1) 1],
  [hz_m (.putfield 130) 3 [0, 11] [], hz_n, hz_n, hz_r (.aload_n 0) 1, hz_r (.iload_n 2) 1, hz_m (.putfield 133) 3 [0, 12] [], hz_n, hz_n, hz_m (.return_) 1 [] [false, false, false, false]]]
/-- HeavierServes$Future.rounds(II)I -/
def hs_k15 : hs_K := [
  [hz_m (.iconst 0) 1 [] [true, true, true, false, false, false], hz_r (.istore_n 3) 1, hz_m (.iload_n 3) 1 [] [true, true, true, true, false, false], hz_r (.bipush 8) 2, hz_n, hz_r (.if_icmp .ge 20) 3, hz_n, hz_n, hz_m (.aload_n 0) 1 [] [true, true, true, true, false, false], hz_m (.getfield 22) 3 [0, 6] [], hz_n, hz_n, hz_r (.iload_n 3) 1, hz_r (.iconst 1) 1, hz_r (.iload_n 1) 1, hz_r (.ishl) 1],
  [hz_r (.iconst 1) 1, hz_r (.isub) 1, hz_r (.iastore) 1, hz_r (.iinc 3 1) 3, hz_n, hz_n, hz_r (.goto (-20)) 3, hz_n, hz_n, hz_m (.iconst 0) 1 [] [true, true, true, false, false, false], hz_r (.istore_n 3) 1, hz_r (.iconst 0) 1, hz_r (.istore 4) 2, hz_n, hz_m (.iload 4) 2 [] [true, true, true, true, true, false], hz_n],
  [hz_r (.iload_n 2) 1, hz_r (.if_icmp .ge 27) 3, hz_n, hz_n, hz_m (.iload_n 3) 1 [] [true, true, true, true, true, false], hz_r (.ifCond .ne 23) 3, hz_n, hz_n, hz_m (.aload_n 0) 1 [] [true, true, true, false, true, false], hz_r (.iload_n 1) 1, hz_m (.invokevirtual 153) 3 [16, 2, 1] [], hz_n, hz_n, hz_r (.ifCond .ne 7) 3, hz_n, hz_n],
  [hz_m (.iconst 1) 1 [] [true, true, true, false, true, false], hz_r (.goto 4) 3, hz_n, hz_n, hz_m (.iconst 0) 1 [] [true, true, true, false, true, false], hz_m (.istore_n 3) 1 [] [true, true, true, false, true, false], hz_r (.iinc 4 1) 3, hz_n, hz_n, hz_r (.goto (-27)) 3, hz_n, hz_n, hz_m (.aload_n 0) 1 [] [true, false, false, true, true, false], hz_m (.getfield 44) 3 [0, 3] [], hz_n, hz_n],
  [hz_r (.iload_n 3) 1, hz_r (.ifCond .eq 7) 3, hz_n, hz_n, hz_m (.lconst 1) 1 [] [true, false, false, false, true, false], hz_r (.goto 4) 3, hz_n, hz_n, hz_m (.lconst 0) 1 [] [true, false, false, false, true, false], hz_m (.invokevirtual 96) 3 [42, 2, 0] [true, false, false, false, true, false], hz_n, hz_n, hz_r (.iconst 0) 1, hz_r (.istore 5) 2, hz_n, hz_m (.iload 5) 2 [] [true, false, false, false, true, true]],
  [hz_n, hz_r (.aload_n 0) 1, hz_m (.getfield 36) 3 [0, 1] [], hz_n, hz_n, hz_m (.getfield 61) 3 [8, 9] [], hz_n, hz_n, hz_r (.if_icmp .ge 24) 3, hz_n, hz_n, hz_m (.aload_n 0) 1 [] [true, false, false, false, true, true], hz_m (.getfield 44) 3 [0, 3] [], hz_n, hz_n, hz_r (.aload_n 0) 1],
  [hz_m (.getfield 22) 3 [0, 6] [], hz_n, hz_n, hz_r (.iload 5) 2, hz_n, hz_r (.iaload) 1, hz_r (.i2l) 1, hz_m (.invokevirtual 83) 3 [43, 2, 0] [], hz_n, hz_n, hz_r (.iinc 5 1) 3, hz_n, hz_n, hz_r (.goto (-30)) 3, hz_n, hz_n],
  [hz_m (.iload 4) 2 [] [false, false, false, false, true, false], hz_n, hz_r (.ireturn) 1]]
/-- HeavierServes$Future.someoneTurns(I)Z -/
def hs_k16 : hs_K := [
  [hz_m (.iconst 0) 1 [] [true, true, false, false, false], hz_r (.istore_n 2) 1, hz_r (.iconst 0) 1, hz_r (.istore_n 3) 1, hz_m (.iload_n 3) 1 [] [true, true, true, true, false], hz_r (.aload_n 0) 1, hz_m (.getfield 36) 3 [0, 1] [], hz_n, hz_n, hz_m (.getfield 61) 3 [8, 9] [], hz_n, hz_n, hz_r (.if_icmp .ge 61) 3, hz_n, hz_n, hz_m (.aload_n 0) 1 [] [true, true, true, true, false]],
  [hz_m (.getfield 22) 3 [0, 6] [], hz_n, hz_n, hz_r (.iload_n 3) 1, hz_r (.iaload) 1, hz_r (.istore 4) 2, hz_n, hz_r (.aload_n 0) 1, hz_m (.getfield 33) 3 [0, 0] [], hz_n, hz_n, hz_r (.iload_n 3) 1, hz_m (.invokevirtual 120) 3 [55, 2, 1] [], hz_n, hz_n, hz_r (.ifCond .eq 15) 3],
  [hz_n, hz_n, hz_r (.aload_n 0) 1, hz_m (.getfield 22) 3 [0, 6] [], hz_n, hz_n, hz_r (.iload_n 3) 1, hz_r (.aload_n 0) 1, hz_r (.iload_n 3) 1, hz_r (.iload_n 1) 1, hz_m (.invokevirtual 156) 3 [17, 3, 1] [], hz_n, hz_n, hz_r (.iastore) 1, hz_r (.iload_n 2) 1, hz_r (.ifCond .ne 14) 3],
  [hz_n, hz_n, hz_m (.aload_n 0) 1 [] [true, true, false, true, true], hz_m (.getfield 22) 3 [0, 6] [], hz_n, hz_n, hz_r (.iload_n 3) 1, hz_r (.iaload) 1, hz_r (.iload 4) 2, hz_n, hz_r (.if_icmp .eq 7) 3, hz_n, hz_n, hz_m (.iconst 1) 1 [] [true, true, false, true, false], hz_r (.goto 4) 3, hz_n],
  [hz_n, hz_m (.iconst 0) 1 [] [true, true, false, true, false], hz_m (.istore_n 2) 1 [] [true, true, false, true, false], hz_r (.iinc 3 1) 3, hz_n, hz_n, hz_r (.goto (-66)) 3, hz_n, hz_n, hz_m (.iload_n 2) 1 [] [false, false, true, false, false], hz_r (.ireturn) 1]]
/-- HeavierServes$Future.bestReply(II)I -/
def hs_k17 : hs_K := [
  [hz_m (.aload_n 0) 1 [] [true, true, true, false, false, false, false], hz_m (.getfield 22) 3 [0, 6] [], hz_n, hz_n, hz_r (.iload_n 1) 1, hz_r (.iaload) 1, hz_r (.istore_n 3) 1, hz_r (.aload_n 0) 1, hz_r (.iload_n 1) 1, hz_r (.iload_n 2) 1, hz_m (.invokevirtual 159) 3 [18, 3, 1] [], hz_n, hz_n, hz_r (.istore 4) 2, hz_n, hz_r (.iconst 0) 1],
  [hz_r (.istore 5) 2, hz_n, hz_m (.iload 5) 2 [] [true, true, true, true, true, true, false], hz_n, hz_r (.iconst 1) 1, hz_r (.iload_n 2) 1, hz_r (.ishl) 1, hz_r (.if_icmp .ge 45) 3, hz_n, hz_n, hz_m (.iload 4) 2 [] [true, true, true, true, true, true, false], hz_n, hz_r (.iload_n 2) 1, hz_r (.if_icmp .ge 39) 3, hz_n, hz_n],
  [hz_m (.aload_n 0) 1 [] [true, true, true, true, true, true, false], hz_m (.getfield 22) 3 [0, 6] [], hz_n, hz_n, hz_r (.iload_n 1) 1, hz_r (.iload 5) 2, hz_n, hz_r (.iastore) 1, hz_r (.aload_n 0) 1, hz_r (.iload_n 1) 1, hz_r (.iload_n 2) 1, hz_m (.invokevirtual 159) 3 [18, 3, 1] [], hz_n, hz_n, hz_r (.istore 6) 2, hz_n],
  [hz_r (.iload 6) 2, hz_n, hz_r (.iload 4) 2, hz_n, hz_r (.if_icmp .le 10) 3, hz_n, hz_n, hz_m (.iload 5) 2 [] [true, true, true, false, false, true, true], hz_n, hz_r (.istore_n 3) 1, hz_r (.iload 6) 2, hz_n, hz_r (.istore 4) 2, hz_n, hz_m (.iinc 5 1) 3 [] [true, true, true, true, true, true, false], hz_n],
  [hz_n, hz_r (.goto (-47)) 3, hz_n, hz_n, hz_m (.iload_n 3) 1 [] [false, false, false, true, false, false, false], hz_r (.ireturn) 1]]
/-- HeavierServes$Future.weeksByPlans(II)I -/
def hs_k18 : hs_K := [
  [hz_m (.aload_n 0) 1 [] [true, true, true, false, false, false], hz_m (.getfield 18) 3 [0, 5] [], hz_n, hz_n, hz_r (.aload_n 0) 1, hz_m (.getfield 33) 3 [0, 0] [], hz_n, hz_n, hz_m (.invokevirtual 48) 3 [52, 2, 0] [], hz_n, hz_n, hz_r (.iconst 0) 1, hz_r (.istore_n 3) 1, hz_m (.iload_n 3) 1 [] [true, true, true, true, false, false], hz_r (.iload_n 2) 1, hz_r (.if_icmp .ge 77) 3],
  [hz_n, hz_n, hz_m (.iconst 0) 1 [] [true, true, true, true, false, false], hz_r (.istore 4) 2, hz_n, hz_r (.iconst 0) 1, hz_r (.istore 5) 2, hz_n, hz_r (.iload 5) 2, hz_n, hz_r (.aload_n 0) 1, hz_m (.getfield 36) 3 [0, 1] [], hz_n, hz_n, hz_m (.getfield 61) 3 [8, 9] [], hz_n],
  [hz_n, hz_r (.if_icmp .ge 28) 3, hz_n, hz_n, hz_r (.iload 4) 2, hz_n, hz_r (.aload_n 0) 1, hz_m (.getfield 22) 3 [0, 6] [], hz_n, hz_n, hz_r (.iload 5) 2, hz_n, hz_r (.iaload) 1, hz_r (.iload_n 3) 1, hz_r (.ishr) 1, hz_r (.iconst 1) 1],
  [hz_r (.iand) 1, hz_r (.iload 5) 2, hz_n, hz_r (.ishl) 1, hz_r (.ior) 1, hz_r (.istore 4) 2, hz_n, hz_r (.iinc 5 1) 3, hz_n, hz_n, hz_r (.goto (-34)) 3, hz_n, hz_n, hz_m (.aload_n 0) 1 [] [true, true, true, true, true, false], hz_m (.getfield 40) 3 [0, 2] [], hz_n],
  [hz_n, hz_r (.aload_n 0) 1, hz_m (.getfield 18) 3 [0, 5] [], hz_n, hz_n, hz_r (.aload_n 0) 1, hz_m (.getfield 40) 3 [0, 2] [], hz_n, hz_n, hz_r (.aload_n 0) 1, hz_m (.getfield 18) 3 [0, 5] [], hz_n, hz_n, hz_r (.iload 4) 2, hz_n, hz_r (.iconst 0) 1],
  [hz_m (.invokevirtual 142) 3 [29, 4, 1] [], hz_n, hz_n, hz_m (.invokevirtual 146) 3 [28, 3, 0] [], hz_n, hz_n, hz_r (.iinc 3 1) 3, hz_n, hz_n, hz_r (.goto (-76)) 3, hz_n, hz_n, hz_m (.aload_n 0) 1 [] [true, true, false, false, false, false], hz_r (.iload_n 1) 1, hz_m (.invokevirtual 70) 3 [5, 2, 1] [], hz_n],
  [hz_n, hz_r (.ireturn) 1]]
/-- HeavierServes$Future.strongestParty(I)I -/
def hs_k19 : hs_K := [
  [hz_m (.aload_n 0) 1 [] [true, true, false, false, false, false], hz_r (.iload_n 1) 1, hz_r (.sipush 255) 3, hz_n, hz_n, hz_m (.invokevirtual 74) 3 [4, 3, 0] [], hz_n, hz_n, hz_r (.iconst (-1)) 1, hz_r (.istore_n 2) 1, hz_r (.iconst 0) 1, hz_r (.istore_n 3) 1, hz_r (.aload_n 0) 1, hz_m (.getfield 44) 3 [0, 3] [], hz_n, hz_n],
  [hz_r (.iconst 0) 1, hz_m (.putfield 78) 3 [4, 1] [], hz_n, hz_n, hz_r (.iconst 0) 1, hz_r (.istore 4) 2, hz_n, hz_m (.iload 4) 2 [] [true, false, true, true, true, false], hz_n, hz_r (.iconst 4) 1, hz_r (.if_icmp .ge 39) 3, hz_n, hz_n, hz_m (.aload_n 0) 1 [] [true, false, true, true, true, false], hz_r (.iload 4) 2, hz_n],
  [hz_m (.invokevirtual 162) 3 [6, 2, 1] [], hz_n, hz_n, hz_r (.istore 5) 2, hz_n, hz_r (.aload_n 0) 1, hz_m (.getfield 44) 3 [0, 3] [], hz_n, hz_n, hz_r (.iload 5) 2, hz_n, hz_r (.i2l) 1, hz_m (.invokevirtual 83) 3 [43, 2, 0] [], hz_n, hz_n, hz_r (.iload 5) 2],
  [hz_n, hz_r (.iload_n 3) 1, hz_r (.if_icmp .le 9) 3, hz_n, hz_n, hz_m (.iload 4) 2 [] [true, false, false, false, true, true], hz_n, hz_r (.istore_n 2) 1, hz_r (.iload 5) 2, hz_n, hz_r (.istore_n 3) 1, hz_m (.iinc 4 1) 3 [] [true, false, true, true, true, false], hz_n, hz_n, hz_r (.goto (-39)) 3, hz_n],
  [hz_n, hz_m (.aload_n 0) 1 [] [true, false, true, false, false, false], hz_m (.getfield 44) 3 [0, 3] [], hz_n, hz_n, hz_r (.aload_n 0) 1, hz_m (.invokevirtual 165) 3 [20, 1, 1] [], hz_n, hz_n, hz_r (.i2l) 1, hz_m (.invokevirtual 83) 3 [43, 2, 0] [], hz_n, hz_n, hz_r (.iload_n 2) 1, hz_r (.ireturn) 1]]
/-- HeavierServes$Future.gainers()I -/
def hs_k20 : hs_K := [
  [hz_m (.iconst 0) 1 [] [true, false, false], hz_r (.istore_n 1) 1, hz_r (.iconst 0) 1, hz_r (.istore_n 2) 1, hz_r (.iload_n 2) 1, hz_r (.aload_n 0) 1, hz_m (.getfield 36) 3 [0, 1] [], hz_n, hz_n, hz_m (.getfield 61) 3 [8, 9] [], hz_n, hz_n, hz_r (.if_icmp .ge 23) 3, hz_n, hz_n, hz_r (.aload_n 0) 1],
  [hz_r (.iload_n 2) 1, hz_m (.invokevirtual 70) 3 [5, 2, 1] [], hz_n, hz_n, hz_r (.ifCond .le 9) 3, hz_n, hz_n, hz_r (.iload_n 1) 1, hz_r (.iconst 1) 1, hz_r (.iload_n 2) 1, hz_r (.ishl) 1, hz_r (.ior) 1, hz_r (.istore_n 1) 1, hz_r (.iinc 2 1) 3, hz_n, hz_n],
  [hz_r (.goto (-28)) 3, hz_n, hz_n, hz_m (.iload_n 1) 1 [] [false, true, false], hz_r (.ireturn) 1]]
/-- HeavierServes$Future.takingTurns(II)I -/
def hs_k21 : hs_K := [
  [hz_m (.aload_n 0) 1 [] [true, true, true, false, false, false, false], hz_r (.iload_n 2) 1, hz_r (.sipush 255) 3, hz_n, hz_n, hz_m (.invokevirtual 74) 3 [4, 3, 0] [], hz_n, hz_n, hz_r (.aload_n 0) 1, hz_r (.iload_n 1) 1, hz_m (.invokevirtual 162) 3 [6, 2, 1] [], hz_n, hz_n, hz_r (.istore_n 3) 1, hz_r (.aload_n 0) 1, hz_m (.getfield 36) 3 [0, 1] []],
  [hz_n, hz_n, hz_r (.iload_n 1) 1, hz_m (.invokevirtual 169) 3 [67, 2, 1] [], hz_n, hz_n, hz_r (.istore 4) 2, hz_n, hz_r (.iconst (-1)) 1, hz_r (.istore 5) 2, hz_n, hz_r (.aload_n 0) 1, hz_m (.getfield 18) 3 [0, 5] [], hz_n, hz_n, hz_r (.aload_n 0) 1],
  [hz_m (.getfield 33) 3 [0, 0] [], hz_n, hz_n, hz_m (.invokevirtual 48) 3 [52, 2, 0] [], hz_n, hz_n, hz_r (.iconst 0) 1, hz_r (.istore 6) 2, hz_n, hz_r (.iload 6) 2, hz_n, hz_r (.iload_n 2) 1, hz_r (.if_icmp .ge 58) 3, hz_n, hz_n, hz_r (.iload 4) 2],
  [hz_n, hz_r (.aload_n 0) 1, hz_m (.getfield 33) 3 [0, 0] [], hz_n, hz_n, hz_m (.getfield 172) 3 [6, 3] [], hz_n, hz_n, hz_r (.iand) 1, hz_r (.iload 5) 2, hz_n, hz_m (.invokestatic 175) 3 [22, 2, 1] [], hz_n, hz_n, hz_r (.istore 5) 2, hz_n],
  [hz_r (.aload_n 0) 1, hz_m (.getfield 40) 3 [0, 2] [], hz_n, hz_n, hz_r (.aload_n 0) 1, hz_m (.getfield 18) 3 [0, 5] [], hz_n, hz_n, hz_r (.iload 5) 2, hz_n, hz_r (.ifCond .ge 7) 3, hz_n, hz_n, hz_r (.iconst 0) 1, hz_r (.goto 7) 3, hz_n],
  [hz_n, hz_r (.iconst 1) 1, hz_r (.iload 5) 2, hz_n, hz_r (.ishl) 1, hz_r (.sipush 255) 3, hz_n, hz_n, hz_r (.iload 4) 2, hz_n, hz_r (.iconst (-1)) 1, hz_r (.ixor) 1, hz_r (.iand) 1, hz_m (.invokevirtual 52) 3 [27, 4, 0] [], hz_n, hz_n],
  [hz_r (.iinc 6 1) 3, hz_n, hz_n, hz_r (.goto (-58)) 3, hz_n, hz_n, hz_m (.aload_n 0) 1 [] [true, true, false, true, false, false, false], hz_r (.iload_n 1) 1, hz_m (.invokevirtual 162) 3 [6, 2, 1] [], hz_n, hz_n, hz_r (.istore 6) 2, hz_n, hz_r (.aload_n 0) 1, hz_m (.getfield 44) 3 [0, 3] [], hz_n],
  [hz_n, hz_r (.iload 6) 2, hz_n, hz_r (.iload_n 3) 1, hz_r (.isub) 1, hz_r (.i2l) 1, hz_m (.invokevirtual 96) 3 [42, 2, 0] [], hz_n, hz_n, hz_r (.iload 6) 2, hz_n, hz_r (.ireturn) 1]]
/-- HeavierServes$Future.nextOf(II)I -/
def hs_k22 : hs_K := [
  [hz_m (.iconst 1) 1 [] [true, true, false, false], hz_r (.istore_n 2) 1, hz_m (.iload_n 2) 1 [] [true, true, true, false], hz_r (.bipush 8) 2, hz_n, hz_r (.if_icmp .gt 26) 3, hz_n, hz_n, hz_m (.iload_n 1) 1 [] [true, true, true, false], hz_r (.iload_n 2) 1, hz_r (.iadd) 1, hz_r (.bipush 8) 2, hz_n, hz_r (.irem) 1, hz_r (.istore_n 3) 1, hz_r (.iload_n 0) 1],
  [hz_r (.iload_n 3) 1, hz_r (.ishr) 1, hz_r (.iconst 1) 1, hz_r (.iand) 1, hz_r (.ifCond .eq 5) 3, hz_n, hz_n, hz_m (.iload_n 3) 1 [] [false, false, false, true], hz_r (.ireturn) 1, hz_m (.iinc 2 1) 3 [] [true, true, true, false], hz_n, hz_n, hz_r (.goto (-26)) 3, hz_n, hz_n, hz_m (.iconst (-1)) 1 [] [false, false, false, false]],
  [hz_r (.ireturn) 1]]
/-- HeavierServes$Future.foolsWorth(II)I -/
def hs_k23 : hs_K := [
  [hz_m (.aload_n 0) 1 [] [true, true, true, false, false, false], hz_m (.getfield 36) 3 [0, 1] [], hz_n, hz_n, hz_m (.getfield 67) 3 [8, 0] [], hz_n, hz_n, hz_r (.iload_n 1) 1, hz_r (.iaload) 1, hz_r (.istore_n 3) 1, hz_r (.aload_n 0) 1, hz_r (.iload_n 2) 1, hz_r (.sipush 255) 3, hz_n, hz_n, hz_m (.invokevirtual 74) 3 [4, 3, 0] []],
  [hz_n, hz_n, hz_r (.aload_n 0) 1, hz_r (.iload_n 3) 1, hz_m (.invokevirtual 162) 3 [6, 2, 1] [], hz_n, hz_n, hz_r (.istore 4) 2, hz_n, hz_r (.aload_n 0) 1, hz_r (.iload_n 2) 1, hz_r (.sipush 255) 3, hz_n, hz_n, hz_r (.iconst 1) 1, hz_r (.iload_n 1) 1],
  [hz_r (.ishl) 1, hz_r (.iconst (-1)) 1, hz_r (.ixor) 1, hz_r (.iand) 1, hz_m (.invokevirtual 74) 3 [4, 3, 0] [], hz_n, hz_n, hz_r (.aload_n 0) 1, hz_r (.iload_n 3) 1, hz_m (.invokevirtual 162) 3 [6, 2, 1] [], hz_n, hz_n, hz_r (.istore 5) 2, hz_n, hz_r (.aload_n 0) 1, hz_m (.getfield 44) 3 [0, 3] []],
  [hz_n, hz_n, hz_r (.iload 4) 2, hz_n, hz_r (.i2l) 1, hz_m (.invokevirtual 96) 3 [42, 2, 0] [], hz_n, hz_n, hz_r (.aload_n 0) 1, hz_m (.getfield 44) 3 [0, 3] [], hz_n, hz_n, hz_r (.iload 5) 2, hz_n, hz_r (.i2l) 1, hz_m (.invokevirtual 83) 3 [43, 2, 0] []],
  [hz_n, hz_n, hz_r (.iload 4) 2, hz_n, hz_r (.iload 5) 2, hz_n, hz_r (.isub) 1, hz_r (.ireturn) 1]]
/-- HeavierServes$Future.tellChance(II)V -/
def hs_k24 : hs_K := [
  [hz_r (.iload_n 2) 1, hz_r (.ifCond .ne 28) 3, hz_n, hz_n, hz_m (.aload_n 0) 1 [] [true, true, false], hz_m (.getfield 44) 3 [0, 3] [], hz_n, hz_n, hz_r (.aload_n 0) 1, hz_m (.getfield 33) 3 [0, 0] [], hz_n, hz_n, hz_m (.getfield 87) 3 [6, 1] [], hz_n, hz_n, hz_r (.iload_n 1) 1],
  [hz_r (.if_icmp .ne 7) 3, hz_n, hz_n, hz_m (.lconst 1) 1 [] [false, false, false], hz_r (.goto 4) 3, hz_n, hz_n, hz_m (.lconst 0) 1 [] [false, false, false], hz_m (.lconst 1) 1 [] [false, false, false], hz_m (.invokevirtual 178) 3 [45, 3, 0] [], hz_n, hz_n, hz_r (.return_) 1, hz_r (.aload_n 0) 1, hz_m (.getfield 40) 3 [0, 2] [], hz_n],
  [hz_n, hz_r (.aload_n 0) 1, hz_m (.getfield 33) 3 [0, 0] [], hz_n, hz_n, hz_r (.aload_n 0) 1, hz_m (.getfield 26) 3 [0, 7] [], hz_n, hz_n, hz_m (.invokevirtual 182) 3 [31, 3, 0] [], hz_n, hz_n, hz_r (.iload_n 2) 1, hz_r (.iconst 1) 1, hz_r (.if_icmp .ne 24) 3, hz_n],
  [hz_n, hz_m (.aload_n 0) 1 [] [true, true, false], hz_m (.getfield 44) 3 [0, 3] [], hz_n, hz_n, hz_r (.aload_n 0) 1, hz_m (.getfield 26) 3 [0, 7] [], hz_n, hz_n, hz_r (.iconst 1) 1, hz_r (.iload_n 1) 1, hz_r (.iadd) 1, hz_r (.laload) 1, hz_m (.ldc2_w 185) 3 [0, 100000000] [], hz_n, hz_n],
  [hz_m (.invokevirtual 178) 3 [45, 3, 0] [], hz_n, hz_n, hz_r (.goto 18) 3, hz_n, hz_n, hz_m (.aload_n 0) 1 [] [true, true, false], hz_m (.getfield 44) 3 [0, 3] [], hz_n, hz_n, hz_r (.aload_n 0) 1, hz_r (.iload_n 1) 1, hz_m (.invokevirtual 187) 3 [25, 2, 2] [], hz_n, hz_n, hz_m (.ldc2_w 191) 3 [0, 10000000000000000] []],
  [hz_n, hz_n, hz_m (.invokevirtual 178) 3 [45, 3, 0] [], hz_n, hz_n, hz_m (.return_) 1 [] [false, false, false]]]
/-- HeavierServes$Future.chanceInTwo(I)J -/
def hs_k25 : hs_K := [
  [hz_m (.lconst 0) 1 [] [true, true, false, false, false], hz_r (.lstore_n 2) 1, hz_r (.iconst 0) 1, hz_r (.istore 4) 2, hz_n, hz_m (.iload 4) 2 [] [true, true, true, false, true], hz_n, hz_r (.aload_n 0) 1, hz_m (.getfield 36) 3 [0, 1] [], hz_n, hz_n, hz_m (.getfield 61) 3 [8, 9] [], hz_n, hz_n, hz_r (.if_icmp .gt 99) 3, hz_n],
  [hz_n, hz_m (.aload_n 0) 1 [] [true, true, true, false, true], hz_m (.getfield 26) 3 [0, 7] [], hz_n, hz_n, hz_r (.iload 4) 2, hz_n, hz_r (.laload) 1, hz_r (.lconst 0) 1, hz_r (.lcmp) 1, hz_r (.ifCond .le 81) 3, hz_n, hz_n, hz_m (.aload_n 0) 1 [] [true, true, true, false, true], hz_m (.getfield 18) 3 [0, 5] [], hz_n],
  [hz_n, hz_r (.aload_n 0) 1, hz_m (.getfield 33) 3 [0, 0] [], hz_n, hz_n, hz_m (.invokevirtual 48) 3 [52, 2, 0] [], hz_n, hz_n, hz_r (.aload_n 0) 1, hz_m (.getfield 40) 3 [0, 2] [], hz_n, hz_n, hz_r (.aload_n 0) 1, hz_m (.getfield 18) 3 [0, 5] [], hz_n, hz_n],
  [hz_r (.iload 4) 2, hz_n, hz_r (.iconst 1) 1, hz_r (.isub) 1, hz_r (.aload_n 0) 1, hz_m (.getfield 33) 3 [0, 0] [], hz_n, hz_n, hz_m (.getfield 87) 3 [6, 1] [], hz_n, hz_n, hz_r (.if_icmp .ne 7) 3, hz_n, hz_n, hz_m (.iconst (-1)) 1 [] [true, true, true, false, true], hz_r (.goto 7) 3],
  [hz_n, hz_n, hz_m (.iload 4) 2 [] [true, true, true, false, true], hz_n, hz_r (.iconst 1) 1, hz_r (.isub) 1, hz_m (.invokevirtual 146) 3 [28, 3, 0] [true, true, true, false, true], hz_n, hz_n, hz_r (.aload_n 0) 1, hz_m (.getfield 40) 3 [0, 2] [], hz_n, hz_n, hz_r (.aload_n 0) 1, hz_m (.getfield 18) 3 [0, 5] [], hz_n],
  [hz_n, hz_r (.aload_n 0) 1, hz_m (.getfield 30) 3 [0, 8] [], hz_n, hz_n, hz_m (.invokevirtual 182) 3 [31, 3, 0] [], hz_n, hz_n, hz_r (.lload_n 2) 1, hz_r (.aload_n 0) 1, hz_m (.getfield 26) 3 [0, 7] [], hz_n, hz_n, hz_r (.iload 4) 2, hz_n, hz_r (.laload) 1],
  [hz_r (.aload_n 0) 1, hz_m (.getfield 30) 3 [0, 8] [], hz_n, hz_n, hz_r (.iconst 1) 1, hz_r (.iload_n 1) 1, hz_r (.iadd) 1, hz_r (.laload) 1, hz_r (.lmul) 1, hz_r (.ladd) 1, hz_r (.lstore_n 2) 1, hz_m (.iinc 4 1) 3 [] [true, true, true, false, true], hz_n, hz_n, hz_r (.goto (-105)) 3, hz_n],
  [hz_n, hz_m (.lload_n 2) 1 [] [false, false, true, false, false], hz_r (.lreturn) 1]]
/-- HeavierServes$Future.likeliest()I -/
def hs_k26 : hs_K := [
  [hz_m (.aload_n 0) 1 [] [true, false, false], hz_m (.getfield 40) 3 [0, 2] [], hz_n, hz_n, hz_r (.aload_n 0) 1, hz_m (.getfield 33) 3 [0, 0] [], hz_n, hz_n, hz_r (.aload_n 0) 1, hz_m (.getfield 26) 3 [0, 7] [], hz_n, hz_n, hz_m (.invokevirtual 182) 3 [31, 3, 0] [], hz_n, hz_n, hz_r (.iconst 0) 1],
  [hz_r (.istore_n 1) 1, hz_r (.iconst 1) 1, hz_r (.istore_n 2) 1, hz_r (.iload_n 2) 1, hz_r (.aload_n 0) 1, hz_m (.getfield 36) 3 [0, 1] [], hz_n, hz_n, hz_m (.getfield 61) 3 [8, 9] [], hz_n, hz_n, hz_r (.if_icmp .gt 27) 3, hz_n, hz_n, hz_r (.aload_n 0) 1, hz_m (.getfield 26) 3 [0, 7] []],
  [hz_n, hz_n, hz_r (.iload_n 2) 1, hz_r (.laload) 1, hz_r (.aload_n 0) 1, hz_m (.getfield 26) 3 [0, 7] [], hz_n, hz_n, hz_r (.iload_n 1) 1, hz_r (.laload) 1, hz_r (.lcmp) 1, hz_r (.ifCond .le 5) 3, hz_n, hz_n, hz_m (.iload_n 2) 1 [] [true, false, true], hz_r (.istore_n 1) 1],
  [hz_r (.iinc 2 1) 3, hz_n, hz_n, hz_r (.goto (-32)) 3, hz_n, hz_n, hz_m (.aload_n 0) 1 [] [true, true, false], hz_m (.getfield 44) 3 [0, 3] [], hz_n, hz_n, hz_r (.aload_n 0) 1, hz_m (.getfield 26) 3 [0, 7] [], hz_n, hz_n, hz_r (.iload_n 1) 1, hz_r (.laload) 1],
  [hz_m (.ldc2_w 185) 3 [0, 100000000] [], hz_n, hz_n, hz_m (.invokevirtual 178) 3 [45, 3, 0] [], hz_n, hz_n, hz_r (.iload_n 1) 1, hz_r (.iconst 1) 1, hz_r (.isub) 1, hz_r (.ireturn) 1]]
/-- HeavierServes$Office.pass(LHeavierServes$State;II)V -/
def hs_k27 : hs_K := [
  [hz_r (.aload_n 0) 1, hz_r (.aload_n 1) 1, hz_r (.aload_n 0) 1, hz_r (.aload_n 1) 1, hz_r (.iload_n 2) 1, hz_r (.iload_n 3) 1, hz_m (.invokevirtual 23) 3 [29, 4, 1] [], hz_n, hz_n, hz_m (.invokevirtual 27) 3 [28, 3, 0] [], hz_n, hz_n, hz_r (.return_) 1]]
/-- HeavierServes$Office.finish(LHeavierServes$State;I)V -/
def hs_k28 : hs_K := [
  [hz_r (.aload_n 1) 1, hz_r (.iload_n 2) 1, hz_m (.invokevirtual 31) 3 [60, 2, 0] [], hz_n, hz_n, hz_r (.aload_n 0) 1, hz_m (.getfield 9) 3 [1, 0] [], hz_n, hz_n, hz_r (.aload_n 1) 1, hz_m (.invokevirtual 37) 3 [70, 2, 0] [], hz_n, hz_n, hz_r (.aload_n 1) 1, hz_r (.dup) 1, hz_m (.getfield 43) 3 [6, 0] []],
  [hz_n, hz_n, hz_r (.iconst 1) 1, hz_r (.iadd) 1, hz_m (.putfield 43) 3 [6, 0] [], hz_n, hz_n, hz_r (.return_) 1]]
/-- HeavierServes$Office.winner(LHeavierServes$State;II)I -/
def hs_k29 : hs_K := [
  [hz_m (.iconst (-1)) 1 [] [true, true, true, true, false, false, false, false], hz_r (.istore 4) 2, hz_n, hz_r (.aload_n 0) 1, hz_r (.aload_n 1) 1, hz_m (.invokevirtual 47) 3 [30, 2, 1] [], hz_n, hz_n, hz_r (.istore 5) 2, hz_n, hz_r (.iconst 0) 1, hz_r (.istore 6) 2, hz_n, hz_m (.iload 6) 2 [] [true, true, true, true, true, true, true, false], hz_n, hz_r (.aload_n 0) 1],
  [hz_m (.getfield 9) 3 [1, 0] [], hz_n, hz_n, hz_m (.getfield 51) 3 [8, 9] [], hz_n, hz_n, hz_r (.if_icmp .ge 99) 3, hz_n, hz_n, hz_m (.iload 6) 2 [] [true, true, true, true, true, true, true, false], hz_n, hz_r (.aload_n 1) 1, hz_m (.getfield 54) 3 [6, 1] [], hz_n, hz_n, hz_r (.if_icmp .eq 84) 3],
  [hz_n, hz_n, hz_m (.aload_n 1) 1 [] [true, true, true, true, true, true, true, false], hz_r (.iload 6) 2, hz_n, hz_m (.invokevirtual 57) 3 [55, 2, 1] [], hz_n, hz_n, hz_r (.ifCond .ne 6) 3, hz_n, hz_n, hz_m (.goto 72) 3 [] [true, true, true, true, true, true, true, false], hz_n, hz_n, hz_m (.aload_n 0) 1 [] [true, true, true, true, true, true, true, false], hz_m (.getfield 19) 3 [1, 2] []],
  [hz_n, hz_n, hz_r (.aload_n 1) 1, hz_m (.getfield 61) 3 [6, 7] [], hz_n, hz_n, hz_r (.iload 6) 2, hz_n, hz_r (.iaload) 1, hz_m (.invokevirtual 65) 3 [47, 2, 1] [], hz_n, hz_n, hz_r (.istore 7) 2, hz_n, hz_r (.iload 7) 2, hz_n],
  [hz_r (.iload 5) 2, hz_n, hz_r (.if_icmp .gt 6) 3, hz_n, hz_n, hz_m (.goto 46) 3 [] [true, true, true, true, true, true, true, false], hz_n, hz_n, hz_r (.iload_n 2) 1, hz_r (.iload 6) 2, hz_n, hz_r (.ishr) 1, hz_r (.iconst 1) 1, hz_r (.iand) 1, hz_r (.ifCond .ne 29) 3, hz_n],
  [hz_n, hz_r (.iload_n 3) 1, hz_r (.iload 6) 2, hz_n, hz_r (.ishr) 1, hz_r (.iconst 1) 1, hz_r (.iand) 1, hz_r (.ifCond .eq 28) 3, hz_n, hz_n, hz_r (.aload_n 0) 1, hz_m (.getfield 15) 3 [1, 1] [], hz_n, hz_n, hz_r (.aload_n 1) 1, hz_r (.aload_n 0) 1],
  [hz_m (.getfield 9) 3 [1, 0] [], hz_n, hz_n, hz_r (.iload 6) 2, hz_n, hz_m (.invokevirtual 71) 3 [100, 4, 1] [], hz_n, hz_n, hz_r (.ifCond .eq 11) 3, hz_n, hz_n, hz_m (.iload 6) 2 [] [true, true, true, true, false, false, true, true], hz_n, hz_r (.istore 4) 2, hz_n, hz_r (.iload 7) 2],
  [hz_n, hz_r (.istore 5) 2, hz_n, hz_m (.iinc 6 1) 3 [] [true, true, true, true, true, true, true, false], hz_n, hz_n, hz_r (.goto (-105)) 3, hz_n, hz_n, hz_m (.iload 4) 2 [] [false, false, false, false, true, false, false, false], hz_n, hz_r (.ireturn) 1]]
/-- HeavierServes$Office.shownOfServer(LHeavierServes$State;)I -/
def hs_k30 : hs_K := [
  [hz_r (.aload_n 1) 1, hz_m (.getfield 54) 3 [6, 1] [], hz_n, hz_n, hz_r (.ifCond .ge 7) 3, hz_n, hz_n, hz_m (.iconst (-1)) 1 [] [false, false], hz_r (.goto 19) 3, hz_n, hz_n, hz_r (.aload_n 0) 1, hz_m (.getfield 19) 3 [1, 2] [], hz_n, hz_n, hz_r (.aload_n 1) 1],
  [hz_m (.getfield 61) 3 [6, 7] [], hz_n, hz_n, hz_r (.aload_n 1) 1, hz_m (.getfield 54) 3 [6, 1] [], hz_n, hz_n, hz_r (.iaload) 1, hz_m (.invokevirtual 65) 3 [47, 2, 1] [], hz_n, hz_n, hz_m (.ireturn) 1 [] [false, false]]]
/-- HeavierServes$Office.shares(LHeavierServes$State;[J)V -/
def hs_k31 : hs_K := [
  [hz_m (.aload_n 0) 1 [] [true, true, true, false, false, false, false, false, false], hz_r (.aload_n 1) 1, hz_m (.invokevirtual 77) 3 [32, 2, 1] [], hz_n, hz_n, hz_r (.istore_n 3) 1, hz_r (.iconst 0) 1, hz_r (.istore 4) 2, hz_n, hz_m (.iload 4) 2 [] [true, true, true, true, true, false, false, false, false], hz_n, hz_r (.aload_n 2) 1, hz_r (.arraylength) 1, hz_r (.if_icmp .ge 14) 3, hz_n, hz_n],
  [hz_m (.aload_n 2) 1 [] [true, true, true, true, true, false, false, false, false], hz_r (.iload 4) 2, hz_n, hz_r (.lconst 0) 1, hz_r (.lastore) 1, hz_r (.iinc 4 1) 3, hz_n, hz_n, hz_r (.goto (-15)) 3, hz_n, hz_n, hz_m (.ldc2_w 80) 3 [0, 100000000] [true, true, true, true, false, false, false, false, false], hz_n, hz_n, hz_r (.lstore 4) 2, hz_n],
  [hz_r (.iconst 0) 1, hz_r (.istore 6) 2, hz_n, hz_m (.iload 6) 2 [] [true, true, true, true, true, false, true, false, false], hz_n, hz_r (.bipush 8) 2, hz_n, hz_r (.if_icmp .ge 73) 3, hz_n, hz_n, hz_m (.iload_n 3) 1 [] [true, true, true, true, true, false, true, false, false], hz_r (.ifCond .eq 69) 3, hz_n, hz_n, hz_m (.aload_n 0) 1 [] [true, true, true, true, true, false, true, false, false], hz_r (.aload_n 1) 1],
  [hz_r (.iload_n 3) 1, hz_m (.invokevirtual 82) 3 [33, 3, 1] [], hz_n, hz_n, hz_r (.istore 7) 2, hz_n, hz_r (.aload_n 0) 1, hz_m (.getfield 9) 3 [1, 0] [], hz_n, hz_n, hz_m (.getfield 86) 3 [8, 1] [], hz_n, hz_n, hz_r (.iload 7) 2, hz_n, hz_r (.iaload) 1],
  [hz_r (.istore 8) 2, hz_n, hz_r (.aload_n 2) 1, hz_r (.iconst 1) 1, hz_r (.iload 7) 2, hz_n, hz_r (.iadd) 1, hz_r (.lload 4) 2, hz_n, hz_m (.ldc2_w 89) 3 [0, 10] [], hz_n, hz_n, hz_r (.ldiv) 1, hz_r (.bipush 10) 2, hz_n, hz_r (.iload 8) 2],
  [hz_n, hz_r (.isub) 1, hz_r (.i2l) 1, hz_r (.lmul) 1, hz_r (.lastore) 1, hz_r (.lload 4) 2, hz_n, hz_m (.ldc2_w 89) 3 [0, 10] [], hz_n, hz_n, hz_r (.ldiv) 1, hz_r (.iload 8) 2, hz_n, hz_r (.i2l) 1, hz_r (.lmul) 1, hz_r (.lstore 4) 2],
  [hz_n, hz_r (.iload_n 3) 1, hz_r (.iconst 1) 1, hz_r (.iload 7) 2, hz_n, hz_r (.ishl) 1, hz_r (.iconst (-1)) 1, hz_r (.ixor) 1, hz_r (.iand) 1, hz_r (.istore_n 3) 1, hz_r (.iinc 6 1) 3, hz_n, hz_n, hz_r (.goto (-74)) 3, hz_n, hz_n],
  [hz_m (.aload_n 2) 1 [] [false, true, true, false, true, false, false, false, false], hz_r (.iconst 1) 1, hz_r (.aload_n 1) 1, hz_m (.getfield 54) 3 [6, 1] [], hz_n, hz_n, hz_r (.iadd) 1, hz_r (.dup2) 1, hz_r (.laload) 1, hz_r (.lload 4) 2, hz_n, hz_r (.ladd) 1, hz_r (.lastore) 1, hz_r (.return_) 1]]
/-- HeavierServes$Office.heavierWho(LHeavierServes$State;)I -/
def hs_k32 : hs_K := [
  [hz_m (.iconst 0) 1 [] [true, true, false, false, false], hz_r (.istore_n 2) 1, hz_r (.aload_n 0) 1, hz_r (.aload_n 1) 1, hz_m (.invokevirtual 47) 3 [30, 2, 1] [], hz_n, hz_n, hz_r (.istore_n 3) 1, hz_r (.iconst 0) 1, hz_r (.istore 4) 2, hz_n, hz_r (.iload 4) 2, hz_n, hz_r (.aload_n 0) 1, hz_m (.getfield 9) 3 [1, 0] [], hz_n],
  [hz_n, hz_m (.getfield 51) 3 [8, 9] [], hz_n, hz_n, hz_r (.if_icmp .ge 69) 3, hz_n, hz_n, hz_r (.iload 4) 2, hz_n, hz_r (.aload_n 1) 1, hz_m (.getfield 54) 3 [6, 1] [], hz_n, hz_n, hz_r (.if_icmp .eq 54) 3, hz_n, hz_n],
  [hz_r (.aload_n 1) 1, hz_r (.iload 4) 2, hz_n, hz_m (.invokevirtual 57) 3 [55, 2, 1] [], hz_n, hz_n, hz_r (.ifCond .eq 45) 3, hz_n, hz_n, hz_r (.aload_n 0) 1, hz_m (.getfield 19) 3 [1, 2] [], hz_n, hz_n, hz_r (.aload_n 1) 1, hz_m (.getfield 61) 3 [6, 7] [], hz_n],
  [hz_n, hz_r (.iload 4) 2, hz_n, hz_r (.iaload) 1, hz_m (.invokevirtual 65) 3 [47, 2, 1] [], hz_n, hz_n, hz_r (.iload_n 3) 1, hz_r (.if_icmp .le 27) 3, hz_n, hz_n, hz_r (.aload_n 0) 1, hz_m (.getfield 15) 3 [1, 1] [], hz_n, hz_n, hz_r (.aload_n 1) 1],
  [hz_r (.aload_n 0) 1, hz_m (.getfield 9) 3 [1, 0] [], hz_n, hz_n, hz_r (.iload 4) 2, hz_n, hz_m (.invokevirtual 71) 3 [100, 4, 1] [], hz_n, hz_n, hz_r (.ifCond .eq 10) 3, hz_n, hz_n, hz_r (.iload_n 2) 1, hz_r (.iconst 1) 1, hz_r (.iload 4) 2, hz_n],
  [hz_r (.ishl) 1, hz_r (.ior) 1, hz_r (.istore_n 2) 1, hz_r (.iinc 4 1) 3, hz_n, hz_n, hz_r (.goto (-75)) 3, hz_n, hz_n, hz_m (.iload_n 2) 1 [] [false, false, true, false, false], hz_r (.ireturn) 1]]
/-- HeavierServes$Office.heaviestOf(LHeavierServes$State;I)I -/
def hs_k33 : hs_K := [
  [hz_m (.iconst 0) 1 [] [true, true, true, false, false, false], hz_r (.istore_n 3) 1, hz_r (.iconst (-1)) 1, hz_r (.istore 4) 2, hz_n, hz_r (.iconst 0) 1, hz_r (.istore 5) 2, hz_n, hz_r (.iload 5) 2, hz_n, hz_r (.bipush 8) 2, hz_n, hz_r (.if_icmp .ge 56) 3, hz_n, hz_n, hz_r (.iload_n 2) 1],
  [hz_r (.iload 5) 2, hz_n, hz_r (.ishr) 1, hz_r (.iconst 1) 1, hz_r (.iand) 1, hz_r (.ifCond .eq 41) 3, hz_n, hz_n, hz_r (.aload_n 0) 1, hz_m (.getfield 19) 3 [1, 2] [], hz_n, hz_n, hz_r (.aload_n 1) 1, hz_m (.getfield 61) 3 [6, 7] [], hz_n, hz_n],
  [hz_r (.iload 5) 2, hz_n, hz_r (.iaload) 1, hz_m (.invokevirtual 65) 3 [47, 2, 1] [], hz_n, hz_n, hz_r (.iload 4) 2, hz_n, hz_r (.if_icmp .le 22) 3, hz_n, hz_n, hz_m (.iload 5) 2 [] [true, true, true, false, false, true], hz_n, hz_r (.istore_n 3) 1, hz_r (.aload_n 0) 1, hz_m (.getfield 19) 3 [1, 2] []],
  [hz_n, hz_n, hz_r (.aload_n 1) 1, hz_m (.getfield 61) 3 [6, 7] [], hz_n, hz_n, hz_r (.iload 5) 2, hz_n, hz_r (.iaload) 1, hz_m (.invokevirtual 65) 3 [47, 2, 1] [], hz_n, hz_n, hz_r (.istore 4) 2, hz_n, hz_r (.iinc 5 1) 3, hz_n],
  [hz_n, hz_r (.goto (-57)) 3, hz_n, hz_n, hz_m (.iload_n 3) 1 [] [false, false, false, true, false, false], hz_r (.ireturn) 1]]
/-- HeavierServes$Pairs.append(II)I -/
def hs_k34 : hs_K := [
  [hz_r (.aload_n 0) 1, hz_m (.getfield 24) 3 [2, 2] [], hz_n, hz_n, hz_r (.ifCond .lt 15) 3, hz_n, hz_n, hz_r (.aload_n 0) 1, hz_m (.getfield 24) 3 [2, 2] [], hz_n, hz_n, hz_r (.aload_n 0) 1, hz_m (.getfield 15) 3 [2, 0] [], hz_n, hz_n, hz_r (.arraylength) 1],
  [hz_r (.if_icmp .lt 5) 3, hz_n, hz_n, hz_m (.iconst (-1)) 1 [] [false, false, false], hz_r (.ireturn) 1, hz_r (.aload_n 0) 1, hz_m (.getfield 15) 3 [2, 0] [], hz_n, hz_n, hz_r (.aload_n 0) 1, hz_m (.getfield 24) 3 [2, 2] [], hz_n, hz_n, hz_r (.iload_n 1) 1, hz_r (.iastore) 1, hz_r (.aload_n 0) 1],
  [hz_m (.getfield 21) 3 [2, 1] [], hz_n, hz_n, hz_r (.aload_n 0) 1, hz_m (.getfield 24) 3 [2, 2] [], hz_n, hz_n, hz_r (.iload_n 2) 1, hz_r (.iastore) 1, hz_r (.aload_n 0) 1, hz_r (.dup) 1, hz_m (.getfield 24) 3 [2, 2] [], hz_n, hz_n, hz_r (.iconst 1) 1, hz_r (.iadd) 1],
  [hz_m (.putfield 24) 3 [2, 2] [], hz_n, hz_n, hz_r (.aload_n 0) 1, hz_m (.getfield 24) 3 [2, 2] [], hz_n, hz_n, hz_r (.ireturn) 1]]
/-- HeavierServes$Pairs.person(I)I -/
def hs_k35 : hs_K := [
  [hz_r (.iload_n 1) 1, hz_r (.ifCond .lt 12) 3, hz_n, hz_n, hz_r (.iload_n 1) 1, hz_r (.aload_n 0) 1, hz_m (.getfield 15) 3 [2, 0] [], hz_n, hz_n, hz_r (.arraylength) 1, hz_r (.if_icmp .lt 7) 3, hz_n, hz_n, hz_m (.iconst (-1)) 1 [] [false, false], hz_r (.goto 9) 3, hz_n],
  [hz_n, hz_r (.aload_n 0) 1, hz_m (.getfield 15) 3 [2, 0] [], hz_n, hz_n, hz_r (.iload_n 1) 1, hz_r (.iaload) 1, hz_m (.ireturn) 1 [] [false, false]]]
/-- HeavierServes$Pairs.value(I)I -/
def hs_k36 : hs_K := [
  [hz_r (.iload_n 1) 1, hz_r (.ifCond .lt 12) 3, hz_n, hz_n, hz_r (.iload_n 1) 1, hz_r (.aload_n 0) 1, hz_m (.getfield 21) 3 [2, 1] [], hz_n, hz_n, hz_r (.arraylength) 1, hz_r (.if_icmp .lt 7) 3, hz_n, hz_n, hz_m (.iconst (-1)) 1 [] [false, false], hz_r (.goto 9) 3, hz_n],
  [hz_n, hz_r (.aload_n 0) 1, hz_m (.getfield 21) 3 [2, 1] [], hz_n, hz_n, hz_r (.iload_n 1) 1, hz_r (.iaload) 1, hz_m (.ireturn) 1 [] [false, false]]]
/-- HeavierServes$Past.remember(LHeavierServes$State;)V -/
def hs_k37 : hs_K := [
  [hz_r (.aload_n 0) 1, hz_m (.getfield 25) 3 [3, 4] [], hz_n, hz_n, hz_r (.bipush 20) 2, hz_n, hz_r (.if_icmp .ne 26) 3, hz_n, hz_n, hz_r (.aload_n 0) 1, hz_r (.aload_n 0) 1, hz_m (.getfield 29) 3 [3, 3] [], hz_n, hz_n, hz_r (.iconst 1) 1, hz_r (.iadd) 1],
  [hz_r (.bipush 20) 2, hz_n, hz_r (.irem) 1, hz_m (.putfield 29) 3 [3, 3] [], hz_n, hz_n, hz_r (.aload_n 0) 1, hz_r (.dup) 1, hz_m (.getfield 25) 3 [3, 4] [], hz_n, hz_n, hz_r (.iconst 1) 1, hz_r (.isub) 1, hz_m (.putfield 25) 3 [3, 4] [], hz_n, hz_n],
  [hz_r (.aload_n 0) 1, hz_m (.getfield 13) 3 [3, 0] [], hz_n, hz_n, hz_r (.aload_n 0) 1, hz_m (.getfield 29) 3 [3, 3] [], hz_n, hz_n, hz_r (.aload_n 0) 1, hz_m (.getfield 25) 3 [3, 4] [], hz_n, hz_n, hz_r (.iadd) 1, hz_r (.bipush 20) 2, hz_n, hz_m (.invokestatic 32) 3 [1, 2, 1] []],
  [hz_n, hz_n, hz_r (.aaload) 1, hz_r (.aload_n 1) 1, hz_m (.invokevirtual 38) 3 [53, 2, 0] [], hz_n, hz_n, hz_r (.aload_n 0) 1, hz_r (.dup) 1, hz_m (.getfield 25) 3 [3, 4] [], hz_n, hz_n, hz_r (.iconst 1) 1, hz_r (.iadd) 1, hz_m (.putfield 25) 3 [3, 4] [], hz_n],
  [hz_n, hz_r (.return_) 1]]
/-- HeavierServes$Past.stepBack(LHeavierServes$State;)Z -/
def hs_k38 : hs_K := [
  [hz_r (.aload_n 0) 1, hz_m (.getfield 25) 3 [3, 4] [], hz_n, hz_n, hz_r (.iconst 1) 1, hz_r (.if_icmp .ge 5) 3, hz_n, hz_n, hz_m (.iconst 0) 1 [] [false, false], hz_r (.ireturn) 1, hz_r (.aload_n 0) 1, hz_r (.dup) 1, hz_m (.getfield 25) 3 [3, 4] [], hz_n, hz_n, hz_r (.iconst 1) 1],
  [hz_r (.isub) 1, hz_m (.putfield 25) 3 [3, 4] [], hz_n, hz_n, hz_r (.aload_n 1) 1, hz_r (.aload_n 0) 1, hz_m (.getfield 13) 3 [3, 0] [], hz_n, hz_n, hz_r (.aload_n 0) 1, hz_m (.getfield 29) 3 [3, 3] [], hz_n, hz_n, hz_r (.aload_n 0) 1, hz_m (.getfield 25) 3 [3, 4] [], hz_n],
  [hz_n, hz_r (.iadd) 1, hz_r (.bipush 20) 2, hz_n, hz_m (.invokestatic 32) 3 [1, 2, 1] [], hz_n, hz_n, hz_r (.aaload) 1, hz_m (.invokevirtual 38) 3 [53, 2, 0] [], hz_n, hz_n, hz_r (.iconst 1) 1, hz_r (.ireturn) 1]]
/-- HeavierServes$Past.forgetSteps()V -/
def hs_k39 : hs_K := [
  [hz_r (.aload_n 0) 1, hz_r (.iconst 0) 1, hz_m (.putfield 25) 3 [3, 4] [], hz_n, hz_n, hz_r (.return_) 1]]
/-- HeavierServes$Past.keepAside(ILHeavierServes$State;I)Z -/
def hs_k40 : hs_K := [
  [hz_r (.iload_n 1) 1, hz_r (.ifCond .lt 8) 3, hz_n, hz_n, hz_r (.iload_n 1) 1, hz_r (.iconst 3) 1, hz_r (.if_icmp .lt 5) 3, hz_n, hz_n, hz_m (.iconst 0) 1 [] [false, false, false, false], hz_r (.ireturn) 1, hz_r (.aload_n 0) 1, hz_m (.getfield 17) 3 [3, 1] [], hz_n, hz_n, hz_r (.iload_n 1) 1],
  [hz_r (.aaload) 1, hz_r (.aload_n 2) 1, hz_m (.invokevirtual 38) 3 [53, 2, 0] [], hz_n, hz_n, hz_r (.aload_n 0) 1, hz_m (.getfield 20) 3 [3, 2] [], hz_n, hz_n, hz_r (.iload_n 1) 1, hz_r (.iload_n 3) 1, hz_r (.iastore) 1, hz_r (.iconst 1) 1, hz_r (.ireturn) 1]]
/-- HeavierServes$Past.takeAgain(ILHeavierServes$State;I)Z -/
def hs_k41 : hs_K := [
  [hz_r (.iload_n 1) 1, hz_r (.ifCond .lt 18) 3, hz_n, hz_n, hz_r (.iload_n 1) 1, hz_r (.iconst 3) 1, hz_r (.if_icmp .ge 13) 3, hz_n, hz_n, hz_r (.aload_n 0) 1, hz_m (.getfield 20) 3 [3, 2] [], hz_n, hz_n, hz_r (.iload_n 1) 1, hz_r (.iaload) 1, hz_r (.iload_n 3) 1],
  [hz_r (.if_icmp .eq 5) 3, hz_n, hz_n, hz_m (.iconst 0) 1 [] [false, false, false, false], hz_r (.ireturn) 1, hz_m (.aload_n 2) 1 [] [true, true, true, false], hz_r (.aload_n 0) 1, hz_m (.getfield 17) 3 [3, 1] [], hz_n, hz_n, hz_r (.iload_n 1) 1, hz_r (.aaload) 1, hz_m (.invokevirtual 38) 3 [53, 2, 0] [], hz_n, hz_n, hz_r (.aload_n 0) 1],
  [hz_m (.invokevirtual 42) 3 [39, 1, 0] [], hz_n, hz_n, hz_r (.iconst 1) 1, hz_r (.ireturn) 1]]
/-- HeavierServes$Row.begin(J)V -/
def hs_k42 : hs_K := [
  [hz_m (.aload_n 0) 1 [] [true, true, false], hz_r (.iconst 0) 1, hz_m (.putfield 13) 3 [4, 1] [], hz_n, hz_n, hz_r (.aload_n 0) 1, hz_r (.lload_n 1) 1, hz_m (.invokevirtual 17) 3 [43, 2, 0] [], hz_n, hz_n, hz_r (.return_) 1]]
/-- HeavierServes$Row.add(J)V -/
def hs_k43 : hs_K := [
  [hz_m (.aload_n 0) 1 [] [true, true, false], hz_m (.getfield 13) 3 [4, 1] [], hz_n, hz_n, hz_r (.ifCond .lt 32) 3, hz_n, hz_n, hz_m (.aload_n 0) 1 [] [true, true, false], hz_m (.getfield 13) 3 [4, 1] [], hz_n, hz_n, hz_r (.bipush 16) 2, hz_n, hz_r (.if_icmp .ge 23) 3, hz_n, hz_n],
  [hz_m (.aload_n 0) 1 [] [true, true, false], hz_m (.getfield 9) 3 [4, 0] [], hz_n, hz_n, hz_r (.aload_n 0) 1, hz_m (.getfield 13) 3 [4, 1] [], hz_n, hz_n, hz_r (.lload_n 1) 1, hz_r (.lastore) 1, hz_r (.aload_n 0) 1, hz_r (.dup) 1, hz_m (.getfield 13) 3 [4, 1] [], hz_n, hz_n, hz_r (.iconst 1) 1],
  [hz_r (.iadd) 1, hz_m (.putfield 13) 3 [4, 1] [], hz_n, hz_n, hz_m (.return_) 1 [] [false, false, false]]]
/-- HeavierServes$Row.range(III)V -/
def hs_k44 : hs_K := [
  [hz_r (.aload_n 0) 1, hz_r (.iconst 0) 1, hz_m (.putfield 13) 3 [4, 1] [], hz_n, hz_n, hz_r (.iload_n 1) 1, hz_r (.ifCond .le 15) 3, hz_n, hz_n, hz_m (.aload_n 0) 1 [] [true, false, true, true], hz_r (.iload_n 2) 1, hz_r (.i2l) 1, hz_m (.invokevirtual 17) 3 [43, 2, 0] [], hz_n, hz_n, hz_r (.aload_n 0) 1],
  [hz_r (.iload_n 3) 1, hz_r (.i2l) 1, hz_m (.invokevirtual 17) 3 [43, 2, 0] [], hz_n, hz_n, hz_m (.return_) 1 [] [false, false, false, false]]]
/-- HeavierServes$Row.fraction(JJ)V -/
def hs_k45 : hs_K := [
  [hz_m (.lload_n 1) 1 [] [true, true, false, true, false, false, false], hz_r (.lload_n 3) 1, hz_m (.invokestatic 21) 3 [46, 2, 2] [], hz_n, hz_n, hz_r (.lstore 5) 2, hz_n, hz_r (.lload 5) 2, hz_n, hz_r (.lconst 0) 1, hz_r (.lcmp) 1, hz_r (.ifCond .le 19) 3, hz_n, hz_n, hz_m (.aload_n 0) 1 [] [true, true, false, true, false, true, false], hz_r (.lload_n 1) 1],
  [hz_r (.lload 5) 2, hz_n, hz_r (.ldiv) 1, hz_m (.invokevirtual 25) 3 [42, 2, 0] [], hz_n, hz_n, hz_r (.aload_n 0) 1, hz_r (.lload_n 3) 1, hz_r (.lload 5) 2, hz_n, hz_r (.ldiv) 1, hz_m (.invokevirtual 17) 3 [43, 2, 0] [], hz_n, hz_n, hz_m (.return_) 1 [] [false, false, false, false, false, false, false]]]
/-- HeavierServes$Row.commonDivisor(JJ)J -/
def hs_k46 : hs_K := [
  [hz_m (.iconst 0) 1 [] [true, false, true, false, false, false, false], hz_r (.istore 4) 2, hz_n, hz_m (.iload 4) 2 [] [true, false, true, false, true, false, false], hz_n, hz_r (.sipush 200) 3, hz_n, hz_n, hz_r (.if_icmp .ge 25) 3, hz_n, hz_n, hz_m (.lload_n 2) 1 [] [true, false, true, false, true, false, false], hz_r (.lconst 0) 1, hz_r (.lcmp) 1, hz_r (.ifCond .eq 19) 3, hz_n],
  [hz_n, hz_m (.lload_n 0) 1 [] [true, false, true, false, true, false, false], hz_r (.lload_n 2) 1, hz_r (.lrem) 1, hz_r (.lstore 5) 2, hz_n, hz_r (.lload_n 2) 1, hz_r (.lstore_n 0) 1, hz_r (.lload 5) 2, hz_n, hz_r (.lstore_n 2) 1, hz_r (.iinc 4 1) 3, hz_n, hz_n, hz_r (.goto (-27)) 3, hz_n],
  [hz_n, hz_m (.lload_n 0) 1 [] [true, false, false, false, false, false, false], hz_r (.lreturn) 1]]
/-- HeavierServes$Scale.shows(I)I -/
def hs_k47 : hs_K := [
  [hz_m (.iload_n 1) 1 [] [true, true, false], hz_r (.aload_n 0) 1, hz_m (.getfield 15) 3 [5, 1] [], hz_n, hz_n, hz_r (.iadd) 1, hz_r (.istore_n 2) 1, hz_r (.iload_n 2) 1, hz_r (.ifCond .ge 5) 3, hz_n, hz_n, hz_m (.iconst 0) 1 [] [false, false, false], hz_r (.ireturn) 1, hz_m (.aload_n 0) 1 [] [true, false, true], hz_m (.getfield 9) 3 [5, 0] [], hz_n],
  [hz_n, hz_r (.iconst 1) 1, hz_r (.if_icmp .ge 7) 3, hz_n, hz_n, hz_m (.iload_n 2) 1 [] [false, false, true], hz_r (.goto 11) 3, hz_n, hz_n, hz_m (.iload_n 2) 1 [] [true, false, true], hz_r (.iload_n 2) 1, hz_r (.aload_n 0) 1, hz_m (.getfield 9) 3 [5, 0] [], hz_n, hz_n, hz_r (.irem) 1],
  [hz_r (.isub) 1, hz_m (.ireturn) 1 [] [false, false, false]]]
/-- HeavierServes$Scale.misfits(LHeavierServes$Pairs;[II)I -/
def hs_k48 : hs_K := [
  [hz_m (.iconst 0) 1 [] [true, true, true, true, false, false, false], hz_r (.istore 4) 2, hz_n, hz_r (.iconst 0) 1, hz_r (.istore 5) 2, hz_n, hz_m (.iload 5) 2 [] [true, true, true, true, true, true, false], hz_n, hz_r (.aload_n 1) 1, hz_m (.getfield 18) 3 [2, 2] [], hz_n, hz_n, hz_r (.if_icmp .ge 65) 3, hz_n, hz_n, hz_m (.aload_n 1) 1 [] [true, true, true, true, true, true, false]],
  [hz_r (.iload 5) 2, hz_n, hz_m (.invokevirtual 23) 3 [35, 2, 1] [], hz_n, hz_n, hz_r (.istore 6) 2, hz_n, hz_r (.iload 6) 2, hz_n, hz_r (.ifCond .lt 46) 3, hz_n, hz_n, hz_r (.iload 6) 2, hz_n, hz_r (.aload_n 2) 1, hz_r (.arraylength) 1],
  [hz_r (.if_icmp .lt 6) 3, hz_n, hz_n, hz_m (.goto 36) 3 [] [true, true, true, true, true, true, false], hz_n, hz_n, hz_r (.aload_n 0) 1, hz_r (.aload_n 2) 1, hz_r (.iload 6) 2, hz_n, hz_r (.iaload) 1, hz_r (.iload_n 3) 1, hz_r (.iadd) 1, hz_r (.aload_n 0) 1, hz_m (.getfield 15) 3 [5, 1] [], hz_n],
  [hz_n, hz_r (.isub) 1, hz_m (.invokevirtual 27) 3 [47, 2, 1] [], hz_n, hz_n, hz_r (.aload_n 1) 1, hz_r (.iload 5) 2, hz_n, hz_m (.invokevirtual 30) 3 [36, 2, 1] [], hz_n, hz_n, hz_r (.if_icmp .eq 12) 3, hz_n, hz_n, hz_r (.iload 4) 2, hz_n],
  [hz_r (.iconst 1) 1, hz_r (.iload 6) 2, hz_n, hz_r (.ishl) 1, hz_r (.ior) 1, hz_r (.istore 4) 2, hz_n, hz_m (.iinc 5 1) 3 [] [true, true, true, true, true, true, false], hz_n, hz_n, hz_r (.goto (-68)) 3, hz_n, hz_n, hz_m (.iload 4) 2 [] [false, false, false, false, true, false, false], hz_n, hz_r (.ireturn) 1]]
/-- HeavierServes$Scale.possibleGrains(LHeavierServes$Pairs;I)I -/
def hs_k49 : hs_K := [
  [hz_m (.iconst 0) 1 [] [true, true, true, false, false, false, false], hz_r (.istore_n 3) 1, hz_r (.iconst 1) 1, hz_r (.istore 4) 2, hz_n, hz_m (.iload 4) 2 [] [true, true, true, true, true, false, false], hz_n, hz_r (.bipush 9) 2, hz_n, hz_r (.if_icmp .gt 63) 3, hz_n, hz_n, hz_m (.iconst 1) 1 [] [true, true, true, true, true, false, false], hz_r (.istore 5) 2, hz_n, hz_r (.iconst 0) 1],
  [hz_r (.istore 6) 2, hz_n, hz_r (.iload 6) 2, hz_n, hz_r (.iload_n 2) 1, hz_r (.if_icmp .ge 33) 3, hz_n, hz_n, hz_r (.iload 5) 2, hz_n, hz_r (.ifCond .eq 28) 3, hz_n, hz_n, hz_m (.aload_n 0) 1 [] [true, true, true, true, true, false, true], hz_r (.aload_n 1) 1, hz_r (.iload 6) 2],
  [hz_n, hz_r (.iload 4) 2, hz_n, hz_m (.invokevirtual 33) 3 [50, 4, 1] [], hz_n, hz_n, hz_r (.ifCond .le 7) 3, hz_n, hz_n, hz_m (.iconst 1) 1 [] [true, true, true, true, true, false, true], hz_r (.goto 4) 3, hz_n, hz_n, hz_m (.iconst 0) 1 [] [true, true, true, true, true, false, true], hz_m (.istore 5) 2 [] [true, true, true, true, true, false, true], hz_n],
  [hz_r (.iinc 6 1) 3, hz_n, hz_n, hz_r (.goto (-33)) 3, hz_n, hz_n, hz_m (.iload 5) 2 [] [true, true, true, true, true, true, false], hz_n, hz_r (.ifCond .eq 10) 3, hz_n, hz_n, hz_m (.iload_n 3) 1 [] [true, true, true, true, true, false, false], hz_r (.iconst 1) 1, hz_r (.iload 4) 2, hz_n, hz_r (.ishl) 1],
  [hz_r (.ior) 1, hz_r (.istore_n 3) 1, hz_m (.iinc 4 1) 3 [] [true, true, true, true, true, false, false], hz_n, hz_n, hz_r (.goto (-64)) 3, hz_n, hz_n, hz_m (.iload_n 3) 1 [] [false, false, false, true, false, false, false], hz_r (.ireturn) 1]]
/-- HeavierServes$Scale.narrow(LHeavierServes$Pairs;II)I -/
def hs_k50 : hs_K := [
  [hz_m (.aload_n 0) 1 [] [true, true, true, true, false], hz_r (.iconst 1) 1, hz_m (.putfield 37) 3 [5, 2] [], hz_n, hz_n, hz_r (.aload_n 0) 1, hz_r (.sipush 999) 3, hz_n, hz_n, hz_m (.putfield 40) 3 [5, 3] [], hz_n, hz_n, hz_r (.iconst 0) 1, hz_r (.istore 4) 2, hz_n, hz_r (.iload 4) 2],
  [hz_n, hz_r (.aload_n 1) 1, hz_m (.getfield 18) 3 [2, 2] [], hz_n, hz_n, hz_r (.if_icmp .ge 30) 3, hz_n, hz_n, hz_r (.aload_n 1) 1, hz_r (.iload 4) 2, hz_n, hz_m (.invokevirtual 23) 3 [35, 2, 1] [], hz_n, hz_n, hz_r (.iload_n 2) 1, hz_r (.if_icmp .ne 14) 3],
  [hz_n, hz_n, hz_r (.aload_n 0) 1, hz_r (.aload_n 1) 1, hz_r (.iload 4) 2, hz_n, hz_m (.invokevirtual 30) 3 [36, 2, 1] [], hz_n, hz_n, hz_r (.iload_n 3) 1, hz_m (.invokevirtual 43) 3 [51, 3, 0] [], hz_n, hz_n, hz_r (.iinc 4 1) 3, hz_n, hz_n],
  [hz_r (.goto (-33)) 3, hz_n, hz_n, hz_m (.iconst 0) 1 [] [true, false, false, false, false], hz_r (.aload_n 0) 1, hz_m (.getfield 40) 3 [5, 3] [], hz_n, hz_n, hz_r (.aload_n 0) 1, hz_m (.getfield 37) 3 [5, 2] [], hz_n, hz_n, hz_r (.isub) 1, hz_r (.iconst 1) 1, hz_r (.iadd) 1, hz_m (.invokestatic 47) 3 [2, 2, 1] []],
  [hz_n, hz_n, hz_r (.ireturn) 1]]
/-- HeavierServes$Scale.narrowBy(II)V -/
def hs_k51 : hs_K := [
  [hz_r (.iload_n 2) 1, hz_r (.iconst 1) 1, hz_r (.if_icmp .lt 9) 3, hz_n, hz_n, hz_r (.iload_n 1) 1, hz_r (.iload_n 2) 1, hz_r (.irem) 1, hz_r (.ifCond .eq 9) 3, hz_n, hz_n, hz_m (.aload_n 0) 1 [] [true, false, false], hz_r (.iconst 0) 1, hz_m (.putfield 40) 3 [5, 3] [], hz_n, hz_n],
  [hz_r (.return_) 1, hz_r (.iload_n 1) 1, hz_r (.ifCond .le 20) 3, hz_n, hz_n, hz_r (.aload_n 0) 1, hz_r (.aload_n 0) 1, hz_m (.getfield 37) 3 [5, 2] [], hz_n, hz_n, hz_r (.iload_n 1) 1, hz_r (.aload_n 0) 1, hz_m (.getfield 15) 3 [5, 1] [], hz_n, hz_n, hz_r (.isub) 1],
  [hz_m (.invokestatic 47) 3 [2, 2, 1] [], hz_n, hz_n, hz_m (.putfield 37) 3 [5, 2] [], hz_n, hz_n, hz_r (.aload_n 0) 1, hz_r (.aload_n 0) 1, hz_m (.getfield 40) 3 [5, 3] [], hz_n, hz_n, hz_r (.iload_n 1) 1, hz_r (.iload_n 2) 1, hz_r (.iadd) 1, hz_r (.iconst 1) 1, hz_r (.isub) 1],
  [hz_r (.aload_n 0) 1, hz_m (.getfield 15) 3 [5, 1] [], hz_n, hz_n, hz_r (.isub) 1, hz_m (.invokestatic 53) 3 [3, 2, 1] [], hz_n, hz_n, hz_m (.putfield 40) 3 [5, 3] [], hz_n, hz_n, hz_r (.return_) 1]]
/-- HeavierServes$State.follow(LHeavierServes$State;)V -/
def hs_k52 : hs_K := [
  [hz_r (.aload_n 0) 1, hz_r (.aload_n 1) 1, hz_m (.getfield 34) 3 [6, 0] [], hz_n, hz_n, hz_m (.putfield 34) 3 [6, 0] [], hz_n, hz_n, hz_r (.aload_n 0) 1, hz_r (.aload_n 1) 1, hz_m (.getfield 9) 3 [6, 1] [], hz_n, hz_n, hz_m (.putfield 9) 3 [6, 1] [], hz_n, hz_n],
  [hz_r (.aload_n 0) 1, hz_r (.aload_n 1) 1, hz_m (.getfield 37) 3 [6, 2] [], hz_n, hz_n, hz_m (.putfield 37) 3 [6, 2] [], hz_n, hz_n, hz_r (.aload_n 0) 1, hz_r (.aload_n 1) 1, hz_m (.getfield 40) 3 [6, 3] [], hz_n, hz_n, hz_m (.putfield 40) 3 [6, 3] [], hz_n, hz_n],
  [hz_r (.aload_n 0) 1, hz_r (.aload_n 1) 1, hz_m (.getfield 43) 3 [6, 4] [], hz_n, hz_n, hz_m (.putfield 43) 3 [6, 4] [], hz_n, hz_n, hz_r (.aload_n 0) 1, hz_r (.aload_n 1) 1, hz_m (.getfield 46) 3 [6, 5] [], hz_n, hz_n, hz_m (.putfield 46) 3 [6, 5] [], hz_n, hz_n],
  [hz_r (.aload_n 1) 1, hz_m (.getfield 15) 3 [6, 7] [], hz_n, hz_n, hz_r (.iconst 0) 1, hz_r (.aload_n 0) 1, hz_m (.getfield 15) 3 [6, 7] [], hz_n, hz_n, hz_r (.iconst 0) 1, hz_r (.bipush 8) 2, hz_n, hz_m (.invokestatic 49) 3 [7] [], hz_n, hz_n, hz_r (.aload_n 1) 1],
  [hz_m (.getfield 19) 3 [6, 8] [], hz_n, hz_n, hz_r (.iconst 0) 1, hz_r (.aload_n 0) 1, hz_m (.getfield 19) 3 [6, 8] [], hz_n, hz_n, hz_r (.iconst 0) 1, hz_r (.bipush 8) 2, hz_n, hz_m (.invokestatic 49) 3 [7] [], hz_n, hz_n, hz_r (.return_) 1]]
/-- HeavierServes$State.copy(LHeavierServes$State;)V -/
def hs_k53 : hs_K := [
  [hz_r (.aload_n 0) 1, hz_r (.aload_n 1) 1, hz_m (.invokevirtual 55) 3 [52, 2, 0] [], hz_n, hz_n, hz_r (.aload_n 0) 1, hz_r (.aload_n 1) 1, hz_m (.getfield 59) 3 [6, 6] [], hz_n, hz_n, hz_m (.putfield 59) 3 [6, 6] [], hz_n, hz_n, hz_r (.aload_n 1) 1, hz_m (.getfield 22) 3 [6, 9] [], hz_n],
  [hz_n, hz_r (.iconst 0) 1, hz_r (.aload_n 0) 1, hz_m (.getfield 22) 3 [6, 9] [], hz_n, hz_n, hz_r (.iconst 0) 1, hz_r (.bipush 12) 2, hz_n, hz_m (.invokestatic 49) 3 [7] [], hz_n, hz_n, hz_r (.aload_n 1) 1, hz_m (.getfield 25) 3 [6, 10] [], hz_n, hz_n],
  [hz_r (.iconst 0) 1, hz_r (.aload_n 0) 1, hz_m (.getfield 25) 3 [6, 10] [], hz_n, hz_n, hz_r (.iconst 0) 1, hz_r (.bipush 12) 2, hz_n, hz_m (.invokestatic 49) 3 [7] [], hz_n, hz_n, hz_r (.aload_n 1) 1, hz_m (.getfield 28) 3 [6, 11] [], hz_n, hz_n, hz_r (.iconst 0) 1],
  [hz_r (.aload_n 0) 1, hz_m (.getfield 28) 3 [6, 11] [], hz_n, hz_n, hz_r (.iconst 0) 1, hz_r (.bipush 12) 2, hz_n, hz_m (.invokestatic 49) 3 [7] [], hz_n, hz_n, hz_r (.aload_n 1) 1, hz_m (.getfield 31) 3 [6, 12] [], hz_n, hz_n, hz_r (.iconst 0) 1, hz_r (.aload_n 0) 1],
  [hz_m (.getfield 31) 3 [6, 12] [], hz_n, hz_n, hz_r (.iconst 0) 1, hz_r (.bipush 60) 2, hz_n, hz_m (.invokestatic 49) 3 [7] [], hz_n, hz_n, hz_r (.return_) 1]]
/-- HeavierServes$State.welcome(II)V -/
def hs_k54 : hs_K := [
  [hz_r (.iload_n 1) 1, hz_r (.ifCond .lt 35) 3, hz_n, hz_n, hz_r (.iload_n 1) 1, hz_r (.bipush 8) 2, hz_n, hz_r (.if_icmp .ge 29) 3, hz_n, hz_n, hz_r (.aload_n 0) 1, hz_m (.getfield 15) 3 [6, 7] [], hz_n, hz_n, hz_r (.iload_n 1) 1, hz_r (.iload_n 2) 1],
  [hz_r (.iastore) 1, hz_r (.aload_n 0) 1, hz_m (.getfield 19) 3 [6, 8] [], hz_n, hz_n, hz_r (.iload_n 1) 1, hz_r (.iconst 0) 1, hz_r (.iastore) 1, hz_r (.aload_n 0) 1, hz_r (.dup) 1, hz_m (.getfield 40) 3 [6, 3] [], hz_n, hz_n, hz_r (.iconst 1) 1, hz_r (.iload_n 1) 1, hz_r (.ishl) 1],
  [hz_r (.ior) 1, hz_m (.putfield 40) 3 [6, 3] [], hz_n, hz_n, hz_m (.return_) 1 [] [false, false, false]]]
/-- HeavierServes$State.lives(I)Z -/
def hs_k55 : hs_K := [
  [hz_r (.aload_n 0) 1, hz_m (.getfield 40) 3 [6, 3] [], hz_n, hz_n, hz_r (.iload_n 1) 1, hz_r (.ishr) 1, hz_r (.iconst 1) 1, hz_r (.iand) 1, hz_r (.ifCond .eq 7) 3, hz_n, hz_n, hz_m (.iconst 1) 1 [] [false, false], hz_r (.goto 4) 3, hz_n, hz_n, hz_m (.iconst 0) 1 [] [false, false]],
  [hz_m (.ireturn) 1 [] [false, false]]]
/-- HeavierServes$State.putWeight(II)V -/
def hs_k56 : hs_K := [
  [hz_r (.iload_n 1) 1, hz_r (.ifCond .lt 19) 3, hz_n, hz_n, hz_r (.iload_n 1) 1, hz_r (.bipush 8) 2, hz_n, hz_r (.if_icmp .ge 13) 3, hz_n, hz_n, hz_r (.aload_n 0) 1, hz_m (.getfield 15) 3 [6, 7] [], hz_n, hz_n, hz_r (.iload_n 1) 1, hz_r (.iload_n 2) 1],
  [hz_m (.invokestatic 62) 3 [155, 1, 1] [], hz_n, hz_n, hz_r (.iastore) 1, hz_m (.return_) 1 [] [false, false, false]]]
/-- HeavierServes$State.makeLaw()I -/
def hs_k57 : hs_K := [
  [hz_m (.aload_n 0) 1 [] [true, false], hz_m (.getfield 59) 3 [6, 6] [], hz_n, hz_n, hz_r (.istore_n 1) 1, hz_r (.iload_n 1) 1, hz_r (.ifCond .lt 9) 3, hz_n, hz_n, hz_r (.iload_n 1) 1, hz_r (.bipush 12) 2, hz_n, hz_r (.if_icmp .lt 5) 3, hz_n, hz_n, hz_m (.iconst (-1)) 1 [] [false, false]],
  [hz_r (.ireturn) 1, hz_r (.aload_n 0) 1, hz_m (.getfield 22) 3 [6, 9] [], hz_n, hz_n, hz_r (.iload_n 1) 1, hz_r (.aload_n 0) 1, hz_m (.getfield 9) 3 [6, 1] [], hz_n, hz_n, hz_r (.iastore) 1, hz_r (.aload_n 0) 1, hz_m (.getfield 25) 3 [6, 10] [], hz_n, hz_n, hz_r (.iload_n 1) 1],
  [hz_r (.aload_n 0) 1, hz_m (.getfield 34) 3 [6, 0] [], hz_n, hz_n, hz_r (.iastore) 1, hz_r (.aload_n 0) 1, hz_m (.getfield 28) 3 [6, 11] [], hz_n, hz_n, hz_r (.iload_n 1) 1, hz_r (.iconst (-1)) 1, hz_r (.iastore) 1, hz_r (.aload_n 0) 1, hz_r (.dup) 1, hz_m (.getfield 43) 3 [6, 4] [], hz_n],
  [hz_n, hz_r (.iconst 1) 1, hz_r (.iload_n 1) 1, hz_r (.ishl) 1, hz_r (.ior) 1, hz_m (.putfield 43) 3 [6, 4] [], hz_n, hz_n, hz_r (.aload_n 0) 1, hz_r (.dup) 1, hz_m (.getfield 46) 3 [6, 5] [], hz_n, hz_n, hz_r (.iconst 1) 1, hz_r (.iadd) 1, hz_m (.putfield 46) 3 [6, 5] []],
  [hz_n, hz_n, hz_r (.aload_n 0) 1, hz_r (.dup) 1, hz_m (.getfield 59) 3 [6, 6] [], hz_n, hz_n, hz_r (.iconst 1) 1, hz_r (.iadd) 1, hz_m (.putfield 59) 3 [6, 6] [], hz_n, hz_n, hz_r (.iload_n 1) 1, hz_r (.ireturn) 1]]
/-- HeavierServes$State.dropLaws()I -/
def hs_k58 : hs_K := [
  [hz_m (.aload_n 0) 1 [] [true, false, false], hz_m (.getfield 46) 3 [6, 5] [], hz_n, hz_n, hz_r (.istore_n 1) 1, hz_r (.iconst 0) 1, hz_r (.istore_n 2) 1, hz_r (.iload_n 2) 1, hz_r (.bipush 12) 2, hz_n, hz_r (.if_icmp .ge 34) 3, hz_n, hz_n, hz_r (.iload_n 1) 1, hz_r (.ifCond .le 30) 3, hz_n],
  [hz_n, hz_r (.aload_n 0) 1, hz_m (.getfield 43) 3 [6, 4] [], hz_n, hz_n, hz_r (.iload_n 2) 1, hz_r (.ishr) 1, hz_r (.iconst 1) 1, hz_r (.iand) 1, hz_r (.ifCond .eq 13) 3, hz_n, hz_n, hz_r (.aload_n 0) 1, hz_m (.getfield 28) 3 [6, 11] [], hz_n, hz_n],
  [hz_r (.iload_n 2) 1, hz_r (.aload_n 0) 1, hz_m (.getfield 34) 3 [6, 0] [], hz_n, hz_n, hz_r (.iastore) 1, hz_r (.iinc 2 1) 3, hz_n, hz_n, hz_r (.goto (-34)) 3, hz_n, hz_n, hz_m (.aload_n 0) 1 [] [true, true, false], hz_r (.iconst 0) 1, hz_m (.putfield 43) 3 [6, 4] [], hz_n],
  [hz_n, hz_r (.aload_n 0) 1, hz_r (.iconst 0) 1, hz_m (.putfield 46) 3 [6, 5] [], hz_n, hz_n, hz_r (.iload_n 1) 1, hz_r (.ireturn) 1]]
/-- HeavierServes$State.bury(I)I -/
def hs_k59 : hs_K := [
  [hz_r (.aload_n 0) 1, hz_r (.dup) 1, hz_m (.getfield 40) 3 [6, 3] [], hz_n, hz_n, hz_r (.iconst 1) 1, hz_r (.iload_n 1) 1, hz_r (.ishl) 1, hz_r (.iconst (-1)) 1, hz_r (.ixor) 1, hz_r (.iand) 1, hz_m (.putfield 40) 3 [6, 3] [], hz_n, hz_n, hz_r (.aload_n 0) 1, hz_m (.getfield 9) 3 [6, 1] []],
  [hz_n, hz_n, hz_r (.iload_n 1) 1, hz_r (.if_icmp .eq 5) 3, hz_n, hz_n, hz_m (.iconst 0) 1 [] [false, false], hz_r (.ireturn) 1, hz_m (.aload_n 0) 1 [] [true, false], hz_r (.iconst (-1)) 1, hz_m (.putfield 9) 3 [6, 1] [], hz_n, hz_n, hz_r (.aload_n 0) 1, hz_r (.iconst 0) 1, hz_m (.putfield 37) 3 [6, 2] []],
  [hz_n, hz_n, hz_r (.aload_n 0) 1, hz_m (.invokevirtual 66) 3 [58, 1, 1] [], hz_n, hz_n, hz_r (.ireturn) 1]]
/-- HeavierServes$State.serveWeek(I)V -/
def hs_k60 : hs_K := [
  [hz_r (.iload_n 1) 1, hz_r (.iconst (-1)) 1, hz_r (.if_icmp .eq 18) 3, hz_n, hz_n, hz_r (.aload_n 0) 1, hz_m (.invokevirtual 66) 3 [58, 1, 1] [], hz_n, hz_n, hz_r (.pop) 1, hz_r (.aload_n 0) 1, hz_r (.iload_n 1) 1, hz_m (.putfield 9) 3 [6, 1] [], hz_n, hz_n, hz_r (.aload_n 0) 1],
  [hz_r (.iconst 0) 1, hz_m (.putfield 37) 3 [6, 2] [], hz_n, hz_n, hz_m (.aload_n 0) 1 [] [true, false], hz_m (.getfield 9) 3 [6, 1] [], hz_n, hz_n, hz_r (.ifCond .lt 35) 3, hz_n, hz_n, hz_m (.aload_n 0) 1 [] [true, false], hz_m (.getfield 9) 3 [6, 1] [], hz_n, hz_n, hz_r (.bipush 8) 2],
  [hz_n, hz_r (.if_icmp .ge 26) 3, hz_n, hz_n, hz_m (.aload_n 0) 1 [] [true, false], hz_r (.dup) 1, hz_m (.getfield 37) 3 [6, 2] [], hz_n, hz_n, hz_r (.iconst 1) 1, hz_r (.iadd) 1, hz_m (.putfield 37) 3 [6, 2] [], hz_n, hz_n, hz_r (.aload_n 0) 1, hz_m (.getfield 19) 3 [6, 8] []],
  [hz_n, hz_n, hz_r (.aload_n 0) 1, hz_m (.getfield 9) 3 [6, 1] [], hz_n, hz_n, hz_r (.dup2) 1, hz_r (.iaload) 1, hz_r (.iconst 1) 1, hz_r (.iadd) 1, hz_r (.iastore) 1, hz_m (.aload_n 0) 1 [] [true, false], hz_m (.getfield 31) 3 [6, 12] [], hz_n, hz_n, hz_r (.aload_n 0) 1],
  [hz_m (.getfield 34) 3 [6, 0] [], hz_n, hz_n, hz_r (.bipush 60) 2, hz_n, hz_m (.invokestatic 70) 3 [1, 2, 1] [], hz_n, hz_n, hz_r (.aload_n 0) 1, hz_m (.getfield 9) 3 [6, 1] [], hz_n, hz_n, hz_r (.iastore) 1, hz_r (.return_) 1]]
/-- HeavierServes$Text.append(I)Z -/
def hs_k61 : hs_K := [
  [hz_m (.aload_n 0) 1 [] [true, true, false], hz_m (.getfield 15) 3 [7, 1] [], hz_n, hz_n, hz_r (.ifCond .lt 12) 3, hz_n, hz_n, hz_m (.aload_n 0) 1 [] [true, true, false], hz_m (.getfield 15) 3 [7, 1] [], hz_n, hz_n, hz_r (.bipush 76) 2, hz_n, hz_r (.if_icmp .le 5) 3, hz_n, hz_n],
  [hz_m (.iconst 0) 1 [] [false, false, false], hz_r (.ireturn) 1, hz_m (.iconst 0) 1 [] [true, true, false], hz_r (.istore_n 2) 1, hz_r (.iload_n 2) 1, hz_r (.iconst 4) 1, hz_r (.if_icmp .ge 33) 3, hz_n, hz_n, hz_r (.aload_n 0) 1, hz_m (.getfield 11) 3 [7, 0] [], hz_n, hz_n, hz_r (.aload_n 0) 1, hz_m (.getfield 15) 3 [7, 1] [], hz_n],
  [hz_n, hz_r (.iload_n 2) 1, hz_r (.iadd) 1, hz_r (.iload_n 1) 1, hz_r (.bipush 24) 2, hz_n, hz_r (.bipush 8) 2, hz_n, hz_r (.iload_n 2) 1, hz_r (.imul) 1, hz_r (.isub) 1, hz_r (.iushr) 1, hz_r (.sipush 255) 3, hz_n, hz_n, hz_r (.iand) 1],
  [hz_r (.iastore) 1, hz_r (.iinc 2 1) 3, hz_n, hz_n, hz_r (.goto (-32)) 3, hz_n, hz_n, hz_m (.aload_n 0) 1 [] [true, false, false], hz_r (.dup) 1, hz_m (.getfield 15) 3 [7, 1] [], hz_n, hz_n, hz_r (.iconst 4) 1, hz_r (.iadd) 1, hz_m (.putfield 15) 3 [7, 1] [], hz_n],
  [hz_n, hz_r (.iconst 1) 1, hz_r (.ireturn) 1]]
/-- HeavierServes$Text.open(I)V -/
def hs_k62 : hs_K := [
  [hz_r (.aload_n 0) 1, hz_r (.aload_n 0) 1, hz_m (.getfield 15) 3 [7, 1] [], hz_n, hz_n, hz_r (.iload_n 1) 1, hz_m (.invokestatic 19) 3 [3, 2, 1] [], hz_n, hz_n, hz_m (.putfield 25) 3 [7, 2] [], hz_n, hz_n, hz_r (.return_) 1]]
/-- HeavierServes$Text.signAt(I)I -/
def hs_k63 : hs_K := [
  [hz_r (.iload_n 1) 1, hz_r (.ifCond .lt 17) 3, hz_n, hz_n, hz_r (.iload_n 1) 1, hz_r (.aload_n 0) 1, hz_m (.getfield 25) 3 [7, 2] [], hz_n, hz_n, hz_r (.if_icmp .ge 9) 3, hz_n, hz_n, hz_r (.iload_n 1) 1, hz_r (.bipush 80) 2, hz_n, hz_r (.if_icmp .lt 7) 3],
  [hz_n, hz_n, hz_m (.iconst (-1)) 1 [] [false, false], hz_r (.goto 9) 3, hz_n, hz_n, hz_r (.aload_n 0) 1, hz_m (.getfield 11) 3 [7, 0] [], hz_n, hz_n, hz_r (.iload_n 1) 1, hz_r (.iaload) 1, hz_m (.ireturn) 1 [] [false, false]]]
/-- HeavierServes$Text.digitAt(I)I -/
def hs_k64 : hs_K := [
  [hz_m (.aload_n 0) 1 [] [true, true, false], hz_r (.iload_n 1) 1, hz_m (.invokevirtual 28) 3 [63, 2, 1] [], hz_n, hz_n, hz_r (.istore_n 2) 1, hz_r (.iload_n 2) 1, hz_r (.bipush 48) 2, hz_n, hz_r (.if_icmp .lt 16) 3, hz_n, hz_n, hz_m (.iload_n 2) 1 [] [false, false, true], hz_r (.bipush 57) 2, hz_n, hz_r (.if_icmp .gt 10) 3],
  [hz_n, hz_n, hz_m (.iload_n 2) 1 [] [false, false, true], hz_r (.bipush 48) 2, hz_n, hz_r (.isub) 1, hz_r (.goto 4) 3, hz_n, hz_n, hz_m (.iconst (-1)) 1 [] [false, false, false], hz_m (.ireturn) 1 [] [false, false, false]]]
/-- HeavierServes$Town.has(I)Z -/
def hs_k65 : hs_K := [
  [hz_r (.iload_n 1) 1, hz_r (.ifCond .lt 21) 3, hz_n, hz_n, hz_r (.iload_n 1) 1, hz_r (.aload_n 0) 1, hz_m (.getfield 30) 3 [8, 9] [], hz_n, hz_n, hz_r (.if_icmp .ge 13) 3, hz_n, hz_n, hz_m (.iload_n 1) 1 [] [false, true], hz_r (.bipush 8) 2, hz_n, hz_r (.if_icmp .ge 7) 3],
  [hz_n, hz_n, hz_m (.iconst 1) 1 [] [false, false], hz_r (.goto 4) 3, hz_n, hz_n, hz_m (.iconst 0) 1 [] [false, false], hz_m (.ireturn) 1 [] [false, false]]]
end
section
/-! ===== the code rows of the methods, 2 ===== -/
/-- HeavierServes$Town.everyone()I -/
def hs_k66 : hs_K := [
  [hz_r (.iconst 1) 1, hz_r (.aload_n 0) 1, hz_m (.getfield 30) 3 [8, 9] [], hz_n, hz_n, hz_r (.ishl) 1, hz_r (.iconst 1) 1, hz_r (.isub) 1, hz_r (.ireturn) 1]]
/-- HeavierServes$Town.ofParty(I)I -/
def hs_k67 : hs_K := [
  [hz_m (.iconst 0) 1 [] [true, true, false, false], hz_r (.istore_n 2) 1, hz_r (.iconst 0) 1, hz_r (.istore_n 3) 1, hz_r (.iload_n 3) 1, hz_r (.aload_n 0) 1, hz_m (.getfield 30) 3 [8, 9] [], hz_n, hz_n, hz_r (.if_icmp .ge 25) 3, hz_n, hz_n, hz_r (.aload_n 0) 1, hz_m (.getfield 9) 3 [8, 0] [], hz_n, hz_n],
  [hz_r (.iload_n 3) 1, hz_r (.iaload) 1, hz_r (.iload_n 1) 1, hz_r (.if_icmp .ne 9) 3, hz_n, hz_n, hz_r (.iload_n 2) 1, hz_r (.iconst 1) 1, hz_r (.iload_n 3) 1, hz_r (.ishl) 1, hz_r (.ior) 1, hz_r (.istore_n 2) 1, hz_r (.iinc 3 1) 3, hz_n, hz_n, hz_r (.goto (-27)) 3],
  [hz_n, hz_n, hz_m (.iload_n 2) 1 [] [false, false, true, false], hz_r (.ireturn) 1]]
/-- HeavierServes$Town.arriving(I)I -/
def hs_k68 : hs_K := [
  [hz_r (.iload_n 1) 1, hz_r (.ifCond .lt 9) 3, hz_n, hz_n, hz_r (.iload_n 1) 1, hz_r (.bipush 8) 2, hz_n, hz_r (.if_icmp .lt 7) 3, hz_n, hz_n, hz_m (.iconst 1) 1 [] [false, false], hz_r (.goto 9) 3, hz_n, hz_n, hz_r (.aload_n 0) 1, hz_m (.getfield 24) 3 [8, 4] []],
  [hz_n, hz_n, hz_r (.iload_n 1) 1, hz_r (.iaload) 1, hz_m (.ireturn) 1 [] [false, false]]]
/-- HeavierServes$Town.changeAt(II)I -/
def hs_k69 : hs_K := [
  [hz_m (.iload_n 1) 1 [] [true, true, true, false], hz_r (.bipush 6) 2, hz_n, hz_r (.imul) 1, hz_r (.iload_n 2) 1, hz_r (.iadd) 1, hz_r (.istore_n 3) 1, hz_r (.iload_n 3) 1, hz_r (.ifCond .lt 12) 3, hz_n, hz_n, hz_m (.iload_n 3) 1 [] [true, false, false, true], hz_r (.aload_n 0) 1, hz_m (.getfield 21) 3 [8, 3] [], hz_n, hz_n],
  [hz_r (.arraylength) 1, hz_r (.if_icmp .lt 7) 3, hz_n, hz_n, hz_m (.iconst 0) 1 [] [false, false, false, false], hz_r (.goto 9) 3, hz_n, hz_n, hz_m (.aload_n 0) 1 [] [true, false, false, true], hz_m (.getfield 21) 3 [8, 3] [], hz_n, hz_n, hz_r (.iload_n 3) 1, hz_r (.iaload) 1, hz_m (.ireturn) 1 [] [false, false, false, false]]]
/-- HeavierServes$Town.changeWeights(LHeavierServes$State;)V -/
def hs_k70 : hs_K := [
  [hz_m (.iconst 0) 1 [] [true, true, false, false, false], hz_r (.istore_n 2) 1, hz_m (.iload_n 2) 1 [] [true, true, true, false, false], hz_r (.aload_n 0) 1, hz_m (.getfield 30) 3 [8, 9] [], hz_n, hz_n, hz_r (.if_icmp .ge 66) 3, hz_n, hz_n, hz_m (.aload_n 0) 1 [] [true, true, true, false, false], hz_m (.getfield 18) 3 [8, 2] [], hz_n, hz_n, hz_r (.iload_n 2) 1, hz_r (.iaload) 1],
  [hz_r (.istore_n 3) 1, hz_r (.iload_n 3) 1, hz_r (.ifCond .le 49) 3, hz_n, hz_n, hz_m (.aload_n 1) 1 [] [true, true, true, true, false], hz_r (.iload_n 2) 1, hz_m (.invokevirtual 34) 3 [55, 2, 1] [], hz_n, hz_n, hz_r (.ifCond .eq 41) 3, hz_n, hz_n, hz_m (.aload_n 0) 1 [] [true, true, true, true, false], hz_m (.getfield 21) 3 [8, 3] [], hz_n],
  [hz_n, hz_r (.iload_n 2) 1, hz_r (.bipush 6) 2, hz_n, hz_r (.imul) 1, hz_r (.aload_n 1) 1, hz_m (.getfield 40) 3 [6, 0] [], hz_n, hz_n, hz_r (.iload_n 3) 1, hz_m (.invokestatic 43) 3 [1, 2, 1] [], hz_n, hz_n, hz_r (.iadd) 1, hz_r (.iaload) 1, hz_r (.istore 4) 2],
  [hz_n, hz_r (.aload_n 1) 1, hz_m (.getfield 49) 3 [6, 7] [], hz_n, hz_n, hz_r (.iload_n 2) 1, hz_r (.aload_n 1) 1, hz_m (.getfield 49) 3 [6, 7] [], hz_n, hz_n, hz_r (.iload_n 2) 1, hz_r (.iaload) 1, hz_r (.iload 4) 2, hz_n, hz_r (.iadd) 1, hz_m (.invokestatic 52) 3 [155, 1, 1] []],
  [hz_n, hz_n, hz_r (.iastore) 1, hz_m (.iinc 2 1) 3 [] [true, true, true, false, false], hz_n, hz_n, hz_r (.goto (-68)) 3, hz_n, hz_n, hz_m (.return_) 1 [] [false, false, false, false, false]]]
/-- HeavierServes$Town.weightLater(LHeavierServes$State;II)I -/
def hs_k71 : hs_K := [
  [hz_m (.aload_n 1) 1 [] [true, true, true, true, false, false, false], hz_m (.getfield 49) 3 [6, 7] [], hz_n, hz_n, hz_r (.iload_n 2) 1, hz_r (.iaload) 1, hz_r (.istore 4) 2, hz_n, hz_r (.aload_n 0) 1, hz_m (.getfield 18) 3 [8, 2] [], hz_n, hz_n, hz_r (.iload_n 2) 1, hz_r (.iaload) 1, hz_r (.istore 5) 2, hz_n],
  [hz_r (.iconst 0) 1, hz_r (.istore 6) 2, hz_n, hz_r (.iload 6) 2, hz_n, hz_r (.iload_n 3) 1, hz_r (.if_icmp .ge 39) 3, hz_n, hz_n, hz_r (.iload 5) 2, hz_n, hz_r (.ifCond .le 34) 3, hz_n, hz_n, hz_r (.iload 4) 2, hz_n],
  [hz_r (.aload_n 0) 1, hz_r (.iload_n 2) 1, hz_r (.aload_n 1) 1, hz_m (.getfield 40) 3 [6, 0] [], hz_n, hz_n, hz_r (.iload 6) 2, hz_n, hz_r (.iadd) 1, hz_r (.iload 5) 2, hz_n, hz_m (.invokestatic 43) 3 [1, 2, 1] [], hz_n, hz_n, hz_m (.invokevirtual 56) 3 [69, 3, 1] [], hz_n],
  [hz_n, hz_r (.iadd) 1, hz_m (.invokestatic 52) 3 [155, 1, 1] [], hz_n, hz_n, hz_r (.istore 4) 2, hz_n, hz_r (.iinc 6 1) 3, hz_n, hz_n, hz_r (.goto (-39)) 3, hz_n, hz_n, hz_m (.iload 4) 2 [] [false, false, false, false, true, false, false], hz_n, hz_r (.ireturn) 1]]
/-- HeavierServes$Town.copyPerson(II)V -/
def hs_k72 : hs_K := [
  [hz_r (.aload_n 0) 1, hz_m (.getfield 9) 3 [8, 0] [], hz_n, hz_n, hz_r (.iload_n 2) 1, hz_r (.aload_n 0) 1, hz_m (.getfield 9) 3 [8, 0] [], hz_n, hz_n, hz_r (.iload_n 1) 1, hz_r (.iaload) 1, hz_r (.iastore) 1, hz_r (.aload_n 0) 1, hz_m (.getfield 15) 3 [8, 1] [], hz_n, hz_n],
  [hz_r (.iload_n 2) 1, hz_r (.aload_n 0) 1, hz_m (.getfield 15) 3 [8, 1] [], hz_n, hz_n, hz_r (.iload_n 1) 1, hz_r (.iaload) 1, hz_r (.iastore) 1, hz_r (.aload_n 0) 1, hz_m (.getfield 18) 3 [8, 2] [], hz_n, hz_n, hz_r (.iload_n 2) 1, hz_r (.aload_n 0) 1, hz_m (.getfield 18) 3 [8, 2] [], hz_n],
  [hz_n, hz_r (.iload_n 1) 1, hz_r (.iaload) 1, hz_r (.iastore) 1, hz_r (.aload_n 0) 1, hz_m (.getfield 21) 3 [8, 3] [], hz_n, hz_n, hz_r (.iload_n 1) 1, hz_r (.bipush 6) 2, hz_n, hz_r (.imul) 1, hz_r (.aload_n 0) 1, hz_m (.getfield 21) 3 [8, 3] [], hz_n, hz_n],
  [hz_r (.iload_n 2) 1, hz_r (.bipush 6) 2, hz_n, hz_r (.imul) 1, hz_r (.bipush 6) 2, hz_n, hz_m (.invokestatic 59) 3 [7] [], hz_n, hz_n, hz_r (.return_) 1]]
/-- HeavierServes$Town.readLines(LHeavierServes$Text;)I -/
def hs_k73 : hs_K := [
  [hz_m (.aload_n 1) 1 [] [true, true, false], hz_r (.bipush 76) 2, hz_n, hz_m (.invokevirtual 65) 3 [62, 2, 0] [], hz_n, hz_n, hz_r (.aload_n 0) 1, hz_r (.iconst 0) 1, hz_m (.putfield 71) 3 [8, 7] [], hz_n, hz_n, hz_r (.aload_n 0) 1, hz_r (.iconst 0) 1, hz_m (.putfield 74) 3 [8, 8] [], hz_n, hz_n],
  [hz_r (.aload_n 0) 1, hz_m (.getfield 30) 3 [8, 9] [], hz_n, hz_n, hz_r (.istore_n 2) 1, hz_r (.iload_n 2) 1, hz_r (.bipush 8) 2, hz_n, hz_r (.if_icmp .gt 65) 3, hz_n, hz_n, hz_r (.iload_n 2) 1, hz_r (.bipush 8) 2, hz_n, hz_r (.if_icmp .eq 12) 3, hz_n],
  [hz_n, hz_r (.aload_n 0) 1, hz_r (.aload_n 1) 1, hz_r (.iload_n 2) 1, hz_m (.invokevirtual 77) 3 [75, 3, 1] [], hz_n, hz_n, hz_r (.ifCond .ne 8) 3, hz_n, hz_n, hz_m (.aload_n 0) 1 [] [true, false, false], hz_m (.getfield 71) 3 [8, 7] [], hz_n, hz_n, hz_r (.ireturn) 1, hz_r (.aload_n 0) 1],
  [hz_r (.dup) 1, hz_m (.getfield 74) 3 [8, 8] [], hz_n, hz_n, hz_r (.iconst 1) 1, hz_r (.iadd) 1, hz_m (.putfield 74) 3 [8, 8] [], hz_n, hz_n, hz_r (.aload_n 1) 1, hz_r (.aload_n 0) 1, hz_m (.getfield 71) 3 [8, 7] [], hz_n, hz_n, hz_m (.invokevirtual 81) 3 [63, 2, 1] [], hz_n],
  [hz_n, hz_r (.bipush 59) 2, hz_n, hz_r (.if_icmp .eq 6) 3, hz_n, hz_n, hz_m (.goto 19) 3 [] [true, true, false], hz_n, hz_n, hz_r (.aload_n 0) 1, hz_r (.dup) 1, hz_m (.getfield 71) 3 [8, 7] [], hz_n, hz_n, hz_r (.iconst 1) 1, hz_r (.iadd) 1],
  [hz_m (.putfield 71) 3 [8, 7] [], hz_n, hz_n, hz_r (.iinc 2 1) 3, hz_n, hz_n, hz_r (.goto (-65)) 3, hz_n, hz_n, hz_m (.aload_n 0) 1 [] [true, true, false], hz_m (.getfield 71) 3 [8, 7] [], hz_n, hz_n, hz_r (.aload_n 1) 1, hz_m (.getfield 84) 3 [7, 1] [], hz_n],
  [hz_n, hz_r (.if_icmp .ge 10) 3, hz_n, hz_n, hz_m (.aload_n 0) 1 [] [true, false, false], hz_m (.getfield 71) 3 [8, 7] [], hz_n, hz_n, hz_r (.goto 4) 3, hz_n, hz_n, hz_m (.iconst (-1)) 1 [] [false, false, false], hz_m (.ireturn) 1 [] [false, false, false]]]
/-- HeavierServes$Town.readHabit(LHeavierServes$Text;I)I -/
def hs_k74 : hs_K := [
  [hz_r (.aload_n 1) 1, hz_r (.bipush 12) 2, hz_n, hz_m (.invokevirtual 65) 3 [62, 2, 0] [], hz_n, hz_n, hz_r (.aload_n 0) 1, hz_r (.iconst 0) 1, hz_m (.putfield 71) 3 [8, 7] [], hz_n, hz_n, hz_r (.aload_n 0) 1, hz_r (.aload_n 1) 1, hz_m (.invokevirtual 87) 3 [78, 2, 1] [], hz_n, hz_n],
  [hz_r (.ifCond .eq 14) 3, hz_n, hz_n, hz_r (.aload_n 0) 1, hz_m (.getfield 71) 3 [8, 7] [], hz_n, hz_n, hz_r (.aload_n 1) 1, hz_m (.getfield 84) 3 [7, 1] [], hz_n, hz_n, hz_r (.if_icmp .ge 8) 3, hz_n, hz_n, hz_m (.aload_n 0) 1 [] [true, false, false], hz_m (.getfield 71) 3 [8, 7] []],
  [hz_n, hz_n, hz_r (.ireturn) 1, hz_m (.aload_n 0) 1 [] [true, false, true], hz_r (.iload_n 2) 1, hz_m (.invokevirtual 91) 3 [80, 2, 0] [], hz_n, hz_n, hz_r (.iconst (-1)) 1, hz_r (.ireturn) 1]]
/-- HeavierServes$Town.readLine(LHeavierServes$Text;I)Z -/
def hs_k75 : hs_K := [
  [hz_r (.aload_n 0) 1, hz_r (.aload_n 1) 1, hz_r (.iload_n 2) 1, hz_m (.invokevirtual 94) 3 [76, 3, 1] [], hz_n, hz_n, hz_r (.ifCond .eq 20) 3, hz_n, hz_n, hz_r (.aload_n 0) 1, hz_r (.aload_n 1) 1, hz_r (.iload_n 2) 1, hz_m (.invokevirtual 97) 3 [77, 3, 1] [], hz_n, hz_n, hz_r (.ifCond .eq 11) 3],
  [hz_n, hz_n, hz_r (.aload_n 0) 1, hz_r (.aload_n 1) 1, hz_m (.invokevirtual 87) 3 [78, 2, 1] [], hz_n, hz_n, hz_r (.ifCond .ne 5) 3, hz_n, hz_n, hz_m (.iconst 0) 1 [] [false, false, false], hz_r (.ireturn) 1, hz_m (.aload_n 0) 1 [] [true, false, true], hz_r (.iload_n 2) 1, hz_m (.invokevirtual 91) 3 [80, 2, 0] [], hz_n],
  [hz_n, hz_r (.aload_n 0) 1, hz_m (.getfield 15) 3 [8, 1] [], hz_n, hz_n, hz_r (.iload_n 2) 1, hz_r (.iconst 0) 1, hz_r (.iastore) 1, hz_r (.iconst 1) 1, hz_r (.ireturn) 1]]
/-- HeavierServes$Town.readWeight(LHeavierServes$Text;I)Z -/
def hs_k76 : hs_K := [
  [hz_m (.iconst 0) 1 [] [true, true, true, false, false], hz_r (.istore_n 3) 1, hz_r (.iconst 0) 1, hz_r (.istore 4) 2, hz_n, hz_r (.iload 4) 2, hz_n, hz_r (.iconst 3) 1, hz_r (.if_icmp .ge 45) 3, hz_n, hz_n, hz_r (.aload_n 1) 1, hz_r (.aload_n 0) 1, hz_m (.getfield 71) 3 [8, 7] [], hz_n, hz_n],
  [hz_m (.invokevirtual 100) 3 [64, 2, 1] [], hz_n, hz_n, hz_r (.iconst (-1)) 1, hz_r (.if_icmp .eq 33) 3, hz_n, hz_n, hz_r (.iload_n 3) 1, hz_r (.bipush 10) 2, hz_n, hz_r (.imul) 1, hz_r (.aload_n 1) 1, hz_r (.aload_n 0) 1, hz_m (.getfield 71) 3 [8, 7] [], hz_n, hz_n],
  [hz_m (.invokevirtual 100) 3 [64, 2, 1] [], hz_n, hz_n, hz_r (.iadd) 1, hz_r (.istore_n 3) 1, hz_r (.aload_n 0) 1, hz_r (.dup) 1, hz_m (.getfield 71) 3 [8, 7] [], hz_n, hz_n, hz_r (.iconst 1) 1, hz_r (.iadd) 1, hz_m (.putfield 71) 3 [8, 7] [], hz_n, hz_n, hz_r (.iinc 4 1) 3],
  [hz_n, hz_n, hz_r (.goto (-45)) 3, hz_n, hz_n, hz_m (.iload 4) 2 [] [true, false, true, true, true], hz_n, hz_r (.ifCond .le 17) 3, hz_n, hz_n, hz_m (.iload_n 3) 1 [] [true, false, true, true, false], hz_r (.ifCond .ne 13) 3, hz_n, hz_n, hz_m (.aload_n 0) 1 [] [true, false, true, true, false], hz_r (.dup) 1],
  [hz_m (.getfield 71) 3 [8, 7] [], hz_n, hz_n, hz_r (.iconst 1) 1, hz_r (.isub) 1, hz_m (.putfield 71) 3 [8, 7] [], hz_n, hz_n, hz_m (.aload_n 0) 1 [] [true, false, true, true, false], hz_m (.getfield 24) 3 [8, 4] [], hz_n, hz_n, hz_r (.iload_n 2) 1, hz_r (.iload_n 3) 1, hz_r (.iastore) 1, hz_r (.iload_n 3) 1],
  [hz_r (.ifCond .le 7) 3, hz_n, hz_n, hz_m (.iconst 1) 1 [] [false, false, false, false, false], hz_r (.goto 4) 3, hz_n, hz_n, hz_m (.iconst 0) 1 [] [false, false, false, false, false], hz_m (.ireturn) 1 [] [false, false, false, false, false]]]
/-- HeavierServes$Town.readParty(LHeavierServes$Text;I)Z -/
def hs_k77 : hs_K := [
  [hz_m (.aload_n 0) 1 [] [true, true, true, false], hz_m (.getfield 9) 3 [8, 0] [], hz_n, hz_n, hz_r (.iload_n 2) 1, hz_r (.iconst 0) 1, hz_r (.iastore) 1, hz_r (.aload_n 1) 1, hz_r (.aload_n 0) 1, hz_m (.getfield 71) 3 [8, 7] [], hz_n, hz_n, hz_m (.invokevirtual 81) 3 [63, 2, 1] [], hz_n, hz_n, hz_r (.bipush 42) 2],
  [hz_n, hz_r (.if_icmp .eq 5) 3, hz_n, hz_n, hz_m (.iconst 1) 1 [] [false, false, false, false], hz_r (.ireturn) 1, hz_m (.aload_n 0) 1 [] [true, true, true, false], hz_r (.dup) 1, hz_m (.getfield 71) 3 [8, 7] [], hz_n, hz_n, hz_r (.iconst 1) 1, hz_r (.iadd) 1, hz_m (.putfield 71) 3 [8, 7] [], hz_n, hz_n],
  [hz_r (.aload_n 1) 1, hz_r (.aload_n 0) 1, hz_m (.getfield 71) 3 [8, 7] [], hz_n, hz_n, hz_m (.invokevirtual 100) 3 [64, 2, 1] [], hz_n, hz_n, hz_r (.istore_n 3) 1, hz_r (.iload_n 3) 1, hz_r (.iconst (-1)) 1, hz_r (.if_icmp .eq 8) 3, hz_n, hz_n, hz_m (.iload_n 3) 1 [] [true, false, true, true], hz_r (.iconst 4) 1],
  [hz_r (.if_icmp .lt 5) 3, hz_n, hz_n, hz_m (.iconst 0) 1 [] [false, false, false, false], hz_r (.ireturn) 1, hz_m (.aload_n 0) 1 [] [true, false, true, true], hz_m (.getfield 9) 3 [8, 0] [], hz_n, hz_n, hz_r (.iload_n 2) 1, hz_r (.iload_n 3) 1, hz_r (.iastore) 1, hz_r (.aload_n 0) 1, hz_r (.dup) 1, hz_m (.getfield 71) 3 [8, 7] [], hz_n],
  [hz_n, hz_r (.iconst 1) 1, hz_r (.iadd) 1, hz_m (.putfield 71) 3 [8, 7] [], hz_n, hz_n, hz_r (.iconst 1) 1, hz_r (.ireturn) 1]]
/-- HeavierServes$Town.readChanges(LHeavierServes$Text;)Z -/
def hs_k78 : hs_K := [
  [hz_m (.aload_n 0) 1 [] [true, true, false, false], hz_r (.iconst 0) 1, hz_m (.putfield 103) 3 [8, 6] [], hz_n, hz_n, hz_r (.iconst 0) 1, hz_r (.istore_n 2) 1, hz_m (.iload_n 2) 1 [] [true, true, true, false], hz_r (.bipush 6) 2, hz_n, hz_r (.if_icmp .ge 98) 3, hz_n, hz_n, hz_m (.aload_n 1) 1 [] [true, true, true, false], hz_r (.aload_n 0) 1, hz_m (.getfield 71) 3 [8, 7] []],
  [hz_n, hz_n, hz_m (.invokevirtual 81) 3 [63, 2, 1] [], hz_n, hz_n, hz_m (.invokestatic 106) 3 [79, 1, 1] [], hz_n, hz_n, hz_r (.ifCond .ne 5) 3, hz_n, hz_n, hz_m (.iconst 1) 1 [] [false, false, false, false], hz_r (.ireturn) 1, hz_m (.aload_n 1) 1 [] [true, true, true, false], hz_r (.aload_n 0) 1, hz_m (.getfield 71) 3 [8, 7] []],
  [hz_n, hz_n, hz_r (.iconst 1) 1, hz_r (.iadd) 1, hz_m (.invokevirtual 100) 3 [64, 2, 1] [], hz_n, hz_n, hz_r (.istore_n 3) 1, hz_r (.iload_n 3) 1, hz_r (.iconst (-1)) 1, hz_r (.if_icmp .ne 15) 3, hz_n, hz_n, hz_m (.aload_n 0) 1 [] [true, false, false, false], hz_r (.dup) 1, hz_m (.getfield 71) 3 [8, 7] []],
  [hz_n, hz_n, hz_r (.iconst 1) 1, hz_r (.iadd) 1, hz_m (.putfield 71) 3 [8, 7] [], hz_n, hz_n, hz_r (.iconst 0) 1, hz_r (.ireturn) 1, hz_r (.aload_n 0) 1, hz_m (.getfield 27) 3 [8, 5] [], hz_n, hz_n, hz_r (.iload_n 2) 1, hz_r (.aload_n 1) 1, hz_r (.aload_n 0) 1],
  [hz_m (.getfield 71) 3 [8, 7] [], hz_n, hz_n, hz_m (.invokevirtual 81) 3 [63, 2, 1] [], hz_n, hz_n, hz_r (.bipush 43) 2, hz_n, hz_r (.if_icmp .ne 7) 3, hz_n, hz_n, hz_r (.iload_n 3) 1, hz_r (.goto 5) 3, hz_n, hz_n, hz_r (.iload_n 3) 1],
  [hz_r (.ineg) 1, hz_m (.iastore) 1 [] [true, true, true, false], hz_r (.aload_n 0) 1, hz_r (.dup) 1, hz_m (.getfield 103) 3 [8, 6] [], hz_n, hz_n, hz_r (.iconst 1) 1, hz_r (.iadd) 1, hz_m (.putfield 103) 3 [8, 6] [], hz_n, hz_n, hz_r (.aload_n 0) 1, hz_r (.dup) 1, hz_m (.getfield 71) 3 [8, 7] [], hz_n],
  [hz_n, hz_r (.iconst 2) 1, hz_r (.iadd) 1, hz_m (.putfield 71) 3 [8, 7] [], hz_n, hz_n, hz_r (.iinc 2 1) 3, hz_n, hz_n, hz_r (.goto (-98)) 3, hz_n, hz_n, hz_m (.aload_n 1) 1 [] [true, true, false, false], hz_r (.aload_n 0) 1, hz_m (.getfield 71) 3 [8, 7] [], hz_n],
  [hz_n, hz_m (.invokevirtual 81) 3 [63, 2, 1] [], hz_n, hz_n, hz_m (.invokestatic 106) 3 [79, 1, 1] [], hz_n, hz_n, hz_r (.ifCond .ne 7) 3, hz_n, hz_n, hz_m (.iconst 1) 1 [] [false, false, false, false], hz_r (.goto 4) 3, hz_n, hz_n, hz_m (.iconst 0) 1 [] [false, false, false, false], hz_m (.ireturn) 1 [] [false, false, false, false]]]
/-- HeavierServes$Town.isChangeSign(I)Z -/
def hs_k79 : hs_K := [
  [hz_r (.iload_n 0) 1, hz_r (.bipush 43) 2, hz_n, hz_r (.if_icmp .eq 9) 3, hz_n, hz_n, hz_r (.iload_n 0) 1, hz_r (.bipush 45) 2, hz_n, hz_r (.if_icmp .ne 7) 3, hz_n, hz_n, hz_m (.iconst 1) 1 [] [false], hz_r (.goto 4) 3, hz_n, hz_n],
  [hz_m (.iconst 0) 1 [] [false], hz_m (.ireturn) 1 [] [false]]]
/-- HeavierServes$Town.takeDraft(I)V -/
def hs_k80 : hs_K := [
  [hz_r (.aload_n 0) 1, hz_m (.getfield 18) 3 [8, 2] [], hz_n, hz_n, hz_r (.iload_n 1) 1, hz_r (.aload_n 0) 1, hz_m (.getfield 103) 3 [8, 6] [], hz_n, hz_n, hz_r (.iastore) 1, hz_r (.aload_n 0) 1, hz_m (.getfield 27) 3 [8, 5] [], hz_n, hz_n, hz_r (.iconst 0) 1, hz_r (.aload_n 0) 1],
  [hz_m (.getfield 21) 3 [8, 3] [], hz_n, hz_n, hz_r (.iload_n 1) 1, hz_r (.bipush 6) 2, hz_n, hz_r (.imul) 1, hz_r (.bipush 6) 2, hz_n, hz_m (.invokestatic 59) 3 [7] [], hz_n, hz_n, hz_r (.return_) 1]]
/-- HeavierServes$Trials.feast(II)V -/
def hs_k81 : hs_K := [
  [hz_r (.aload_n 0) 1, hz_m (.getfield 12) 3 [9, 4] [], hz_n, hz_n, hz_r (.aload_n 0) 1, hz_m (.getfield 22) 3 [9, 0] [], hz_n, hz_n, hz_m (.invokevirtual 37) 3 [52, 2, 0] [], hz_n, hz_n, hz_r (.aload_n 0) 1, hz_m (.getfield 12) 3 [9, 4] [], hz_n, hz_n, hz_r (.iload_n 1) 1],
  [hz_r (.aload_n 0) 1, hz_m (.getfield 22) 3 [9, 0] [], hz_n, hz_n, hz_m (.getfield 41) 3 [6, 7] [], hz_n, hz_n, hz_r (.iload_n 1) 1, hz_r (.iaload) 1, hz_r (.iload_n 2) 1, hz_r (.iadd) 1, hz_m (.invokevirtual 44) 3 [56, 3, 0] [], hz_n, hz_n, hz_r (.return_) 1]]
/-- HeavierServes$Trials.cakesWorthTrying(I)I -/
def hs_k82 : hs_K := [
  [hz_r (.sipush 999) 3, hz_n, hz_n, hz_r (.sipush 999) 3, hz_n, hz_n, hz_r (.aload_n 0) 1, hz_m (.getfield 22) 3 [9, 0] [], hz_n, hz_n, hz_m (.getfield 41) 3 [6, 7] [], hz_n, hz_n, hz_r (.iload_n 1) 1, hz_r (.iaload) 1, hz_r (.isub) 1],
  [hz_m (.invokestatic 48) 3 [3, 2, 1] [], hz_n, hz_n, hz_r (.ireturn) 1]]
/-- HeavierServes$Trials.cakesToStay(II)I -/
def hs_k83 : hs_K := [
  [hz_m (.aload_n 0) 1 [] [true, true, true, false, false, false], hz_r (.iload_n 1) 1, hz_m (.invokevirtual 54) 3 [82, 2, 1] [], hz_n, hz_n, hz_r (.istore_n 3) 1, hz_r (.iconst 0) 1, hz_r (.istore 4) 2, hz_n, hz_m (.iload 4) 2 [] [true, true, true, true, true, false], hz_n, hz_r (.iload_n 3) 1, hz_r (.if_icmp .gt 71) 3, hz_n, hz_n, hz_m (.aload_n 0) 1 [] [true, true, true, true, true, false]],
  [hz_r (.iload_n 1) 1, hz_r (.iload 4) 2, hz_n, hz_m (.invokevirtual 58) 3 [81, 3, 0] [], hz_n, hz_n, hz_r (.iconst 0) 1, hz_r (.istore 5) 2, hz_n, hz_r (.iload 5) 2, hz_n, hz_r (.iload_n 2) 1, hz_r (.if_icmp .ge 35) 3, hz_n, hz_n, hz_r (.aload_n 0) 1],
  [hz_m (.getfield 12) 3 [9, 4] [], hz_n, hz_n, hz_m (.getfield 61) 3 [6, 1] [], hz_n, hz_n, hz_r (.iload_n 1) 1, hz_r (.if_icmp .ne 24) 3, hz_n, hz_n, hz_r (.aload_n 0) 1, hz_m (.getfield 29) 3 [9, 2] [], hz_n, hz_n, hz_r (.aload_n 0) 1, hz_m (.getfield 12) 3 [9, 4] []],
  [hz_n, hz_n, hz_r (.iconst 0) 1, hz_r (.sipush 255) 3, hz_n, hz_n, hz_m (.invokevirtual 65) 3 [27, 4, 0] [], hz_n, hz_n, hz_r (.iinc 5 1) 3, hz_n, hz_n, hz_r (.goto (-35)) 3, hz_n, hz_n, hz_m (.aload_n 0) 1 [] [true, true, true, true, true, false]],
  [hz_m (.getfield 12) 3 [9, 4] [], hz_n, hz_n, hz_m (.getfield 61) 3 [6, 1] [], hz_n, hz_n, hz_r (.iload_n 1) 1, hz_r (.if_icmp .ne 6) 3, hz_n, hz_n, hz_m (.iload 4) 2 [] [false, false, false, false, true, false], hz_n, hz_r (.ireturn) 1, hz_m (.iinc 4 1) 3 [] [true, true, true, true, true, false], hz_n, hz_n],
  [hz_r (.goto (-71)) 3, hz_n, hz_n, hz_m (.bipush (-2)) 2 [] [false, false, false, false, false, false], hz_n, hz_r (.ireturn) 1]]
/-- HeavierServes$Trials.cakesToServe(II)I -/
def hs_k84 : hs_K := [
  [hz_m (.aload_n 0) 1 [] [true, true, true, false, false, false], hz_r (.iload_n 1) 1, hz_m (.invokevirtual 54) 3 [82, 2, 1] [], hz_n, hz_n, hz_r (.istore_n 3) 1, hz_r (.iconst 0) 1, hz_r (.istore 4) 2, hz_n, hz_m (.iload 4) 2 [] [true, true, true, true, true, false], hz_n, hz_r (.iload_n 3) 1, hz_r (.if_icmp .gt 87) 3, hz_n, hz_n, hz_m (.aload_n 0) 1 [] [true, true, true, true, true, false]],
  [hz_r (.iload_n 1) 1, hz_r (.iload 4) 2, hz_n, hz_m (.invokevirtual 58) 3 [81, 3, 0] [], hz_n, hz_n, hz_r (.iconst 0) 1, hz_r (.istore 5) 2, hz_n, hz_r (.iload 5) 2, hz_n, hz_r (.iload_n 2) 1, hz_r (.if_icmp .ge 24) 3, hz_n, hz_n, hz_r (.aload_n 0) 1],
  [hz_m (.getfield 29) 3 [9, 2] [], hz_n, hz_n, hz_r (.aload_n 0) 1, hz_m (.getfield 12) 3 [9, 4] [], hz_n, hz_n, hz_r (.iconst 0) 1, hz_r (.sipush 255) 3, hz_n, hz_n, hz_m (.invokevirtual 65) 3 [27, 4, 0] [], hz_n, hz_n, hz_r (.iinc 5 1) 3, hz_n],
  [hz_n, hz_r (.goto (-24)) 3, hz_n, hz_n, hz_m (.aload_n 0) 1 [] [true, true, true, true, true, false], hz_m (.getfield 12) 3 [9, 4] [], hz_n, hz_n, hz_m (.getfield 61) 3 [6, 1] [], hz_n, hz_n, hz_r (.iload_n 1) 1, hz_r (.if_icmp .ne 33) 3, hz_n, hz_n, hz_m (.aload_n 0) 1 [] [true, true, false, false, true, false]],
  [hz_m (.getfield 33) 3 [9, 3] [], hz_n, hz_n, hz_r (.aload_n 0) 1, hz_m (.getfield 12) 3 [9, 4] [], hz_n, hz_n, hz_m (.getfield 71) 3 [6, 8] [], hz_n, hz_n, hz_r (.iload_n 1) 1, hz_r (.iaload) 1, hz_r (.aload_n 0) 1, hz_m (.getfield 22) 3 [9, 0] [], hz_n, hz_n],
  [hz_m (.getfield 71) 3 [6, 8] [], hz_n, hz_n, hz_r (.iload_n 1) 1, hz_r (.iaload) 1, hz_r (.isub) 1, hz_r (.i2l) 1, hz_m (.invokevirtual 74) 3 [42, 2, 0] [], hz_n, hz_n, hz_r (.iload 4) 2, hz_n, hz_r (.ireturn) 1, hz_m (.iinc 4 1) 3 [] [true, true, true, true, true, false], hz_n, hz_n],
  [hz_r (.goto (-87)) 3, hz_n, hz_n, hz_m (.bipush (-2)) 2 [] [false, false, false, false, false, false], hz_n, hz_r (.ireturn) 1]]
/-- HeavierServes$Trials.ouncesToMiss(II)I -/
def hs_k85 : hs_K := [
  [hz_m (.iconst 0) 1 [] [true, true, true, false, false], hz_r (.istore_n 3) 1, hz_m (.iload_n 3) 1 [] [true, true, true, true, false], hz_r (.aload_n 0) 1, hz_m (.getfield 22) 3 [9, 0] [], hz_n, hz_n, hz_m (.getfield 41) 3 [6, 7] [], hz_n, hz_n, hz_r (.iload_n 1) 1, hz_r (.iaload) 1, hz_r (.if_icmp .ge 90) 3, hz_n, hz_n, hz_m (.aload_n 0) 1 [] [true, true, true, true, false]],
  [hz_r (.iload_n 1) 1, hz_r (.iload_n 3) 1, hz_r (.ineg) 1, hz_m (.invokevirtual 58) 3 [81, 3, 0] [], hz_n, hz_n, hz_r (.iconst 0) 1, hz_r (.istore 4) 2, hz_n, hz_r (.iload 4) 2, hz_n, hz_r (.iload_n 2) 1, hz_r (.if_icmp .ge 45) 3, hz_n, hz_n, hz_r (.aload_n 0) 1],
  [hz_m (.getfield 12) 3 [9, 4] [], hz_n, hz_n, hz_m (.getfield 71) 3 [6, 8] [], hz_n, hz_n, hz_r (.iload_n 1) 1, hz_r (.iaload) 1, hz_r (.aload_n 0) 1, hz_m (.getfield 22) 3 [9, 0] [], hz_n, hz_n, hz_m (.getfield 71) 3 [6, 8] [], hz_n, hz_n, hz_r (.iload_n 1) 1],
  [hz_r (.iaload) 1, hz_r (.if_icmp .ne 24) 3, hz_n, hz_n, hz_r (.aload_n 0) 1, hz_m (.getfield 29) 3 [9, 2] [], hz_n, hz_n, hz_r (.aload_n 0) 1, hz_m (.getfield 12) 3 [9, 4] [], hz_n, hz_n, hz_r (.iconst 0) 1, hz_r (.sipush 255) 3, hz_n, hz_n],
  [hz_m (.invokevirtual 65) 3 [27, 4, 0] [], hz_n, hz_n, hz_r (.iinc 4 1) 3, hz_n, hz_n, hz_r (.goto (-45)) 3, hz_n, hz_n, hz_m (.aload_n 0) 1 [] [true, true, true, true, false], hz_m (.getfield 12) 3 [9, 4] [], hz_n, hz_n, hz_m (.getfield 71) 3 [6, 8] [], hz_n, hz_n],
  [hz_r (.iload_n 1) 1, hz_r (.iaload) 1, hz_r (.aload_n 0) 1, hz_m (.getfield 22) 3 [9, 0] [], hz_n, hz_n, hz_m (.getfield 71) 3 [6, 8] [], hz_n, hz_n, hz_r (.iload_n 1) 1, hz_r (.iaload) 1, hz_r (.if_icmp .ne 5) 3, hz_n, hz_n, hz_m (.iload_n 3) 1 [] [false, false, false, true, false], hz_r (.ireturn) 1],
  [hz_m (.iinc 3 1) 3 [] [true, true, true, true, false], hz_n, hz_n, hz_r (.goto (-97)) 3, hz_n, hz_n, hz_m (.bipush (-2)) 2 [] [false, false, false, false, false], hz_n, hz_r (.ireturn) 1]]
/-- HeavierServes$Trials.leastFed()I -/
def hs_k86 : hs_K := [
  [hz_m (.bipush (-2)) 2 [] [true, false, false, false, false], hz_n, hz_r (.istore_n 1) 1, hz_r (.sipush 1000) 3, hz_n, hz_n, hz_r (.istore_n 2) 1, hz_r (.iconst 0) 1, hz_r (.istore_n 3) 1, hz_m (.iload_n 3) 1 [] [true, true, true, true, false], hz_r (.aload_n 0) 1, hz_m (.getfield 25) 3 [9, 1] [], hz_n, hz_n, hz_m (.getfield 80) 3 [8, 9] [], hz_n],
  [hz_n, hz_r (.if_icmp .ge 45) 3, hz_n, hz_n, hz_m (.aload_n 0) 1 [] [true, true, true, true, false], hz_m (.getfield 22) 3 [9, 0] [], hz_n, hz_n, hz_r (.iload_n 3) 1, hz_m (.invokevirtual 85) 3 [55, 2, 1] [], hz_n, hz_n, hz_r (.ifCond .eq 14) 3, hz_n, hz_n, hz_m (.aload_n 0) 1 [] [true, true, true, true, false]],
  [hz_r (.iload_n 3) 1, hz_r (.iload_n 2) 1, hz_r (.iconst 1) 1, hz_r (.isub) 1, hz_m (.invokevirtual 89) 3 [87, 3, 1] [], hz_n, hz_n, hz_r (.goto 4) 3, hz_n, hz_n, hz_m (.iconst (-1)) 1 [] [true, true, true, true, false], hz_m (.istore 4) 2 [] [true, true, true, true, false], hz_n, hz_r (.iload 4) 2, hz_n, hz_r (.iconst (-1)) 1],
  [hz_r (.if_icmp .eq 8) 3, hz_n, hz_n, hz_m (.iload_n 3) 1 [] [true, false, false, true, true], hz_r (.istore_n 1) 1, hz_r (.iload 4) 2, hz_n, hz_r (.istore_n 2) 1, hz_m (.iinc 3 1) 3 [] [true, true, true, true, false], hz_n, hz_n, hz_r (.goto (-50)) 3, hz_n, hz_n, hz_m (.iload_n 1) 1 [] [true, true, true, false, false], hz_r (.ifCond .lt 12) 3],
  [hz_n, hz_n, hz_m (.aload_n 0) 1 [] [true, true, true, false, false], hz_m (.getfield 33) 3 [9, 3] [], hz_n, hz_n, hz_r (.iload_n 2) 1, hz_r (.i2l) 1, hz_m (.invokevirtual 74) 3 [42, 2, 0] [], hz_n, hz_n, hz_m (.iload_n 1) 1 [] [false, true, false, false, false], hz_r (.ireturn) 1]]
/-- HeavierServes$Trials.cakesForNextWeek(II)I -/
def hs_k87 : hs_K := [
  [hz_m (.iload_n 2) 1 [] [true, true, true, false, false, false], hz_r (.aload_n 0) 1, hz_r (.iload_n 1) 1, hz_m (.invokevirtual 54) 3 [82, 2, 1] [], hz_n, hz_n, hz_m (.invokestatic 48) 3 [3, 2, 1] [], hz_n, hz_n, hz_r (.istore_n 3) 1, hz_r (.iconst 0) 1, hz_r (.istore 4) 2, hz_n, hz_m (.iload 4) 2 [] [true, true, false, true, true, false], hz_n, hz_r (.iload_n 3) 1],
  [hz_r (.if_icmp .gt 67) 3, hz_n, hz_n, hz_m (.aload_n 0) 1 [] [true, true, false, true, true, false], hz_r (.iload_n 1) 1, hz_r (.iload 4) 2, hz_n, hz_m (.invokevirtual 58) 3 [81, 3, 0] [], hz_n, hz_n, hz_r (.aload_n 0) 1, hz_m (.getfield 29) 3 [9, 2] [], hz_n, hz_n, hz_r (.aload_n 0) 1, hz_m (.getfield 12) 3 [9, 4] []],
  [hz_n, hz_n, hz_r (.iconst 1) 1, hz_r (.iload_n 1) 1, hz_r (.ishl) 1, hz_r (.sipush 255) 3, hz_n, hz_n, hz_r (.iconst 1) 1, hz_r (.iload_n 1) 1, hz_r (.ishl) 1, hz_r (.iconst (-1)) 1, hz_r (.ixor) 1, hz_r (.iand) 1, hz_m (.invokevirtual 92) 3 [29, 4, 1] [], hz_n],
  [hz_n, hz_r (.istore 5) 2, hz_n, hz_r (.iload 5) 2, hz_n, hz_r (.iload_n 1) 1, hz_r (.if_icmp .eq 20) 3, hz_n, hz_n, hz_m (.iload 5) 2 [] [true, true, false, true, true, true], hz_n, hz_r (.iconst (-1)) 1, hz_r (.if_icmp .ne 17) 3, hz_n, hz_n, hz_m (.aload_n 0) 1 [] [true, true, false, true, true, false]],
  [hz_m (.getfield 22) 3 [9, 0] [], hz_n, hz_n, hz_m (.getfield 61) 3 [6, 1] [], hz_n, hz_n, hz_r (.iload_n 1) 1, hz_r (.if_icmp .ne 6) 3, hz_n, hz_n, hz_m (.iload 4) 2 [] [false, false, false, false, true, false], hz_n, hz_r (.ireturn) 1, hz_m (.iinc 4 1) 3 [] [true, true, false, true, true, false], hz_n, hz_n],
  [hz_r (.goto (-67)) 3, hz_n, hz_n, hz_m (.iconst (-1)) 1 [] [false, false, false, false, false, false], hz_r (.ireturn) 1]]
/-- HeavierServes$Trials.gather(LHeavierServes$Pairs;)Z -/
def hs_k88 : hs_K := [
  [hz_m (.aload_n 0) 1 [] [true, true, false, false, false], hz_r (.iconst 0) 1, hz_m (.putfield 96) 3 [9, 6] [], hz_n, hz_n, hz_r (.iconst 0) 1, hz_r (.istore_n 2) 1, hz_m (.iload_n 2) 1 [] [true, true, true, false, false], hz_r (.bipush 60) 2, hz_n, hz_r (.if_icmp .gt 16) 3, hz_n, hz_n, hz_m (.aload_n 0) 1 [] [true, true, true, false, false], hz_m (.getfield 18) 3 [9, 5] [], hz_n],
  [hz_n, hz_r (.iload_n 2) 1, hz_r (.iconst (-1)) 1, hz_r (.iastore) 1, hz_r (.iinc 2 1) 3, hz_n, hz_n, hz_r (.goto (-16)) 3, hz_n, hz_n, hz_m (.iconst 0) 1 [] [true, true, false, false, false], hz_r (.istore_n 2) 1, hz_m (.iload_n 2) 1 [] [true, true, true, false, false], hz_r (.aload_n 1) 1, hz_m (.getfield 99) 3 [2, 2] [], hz_n],
  [hz_n, hz_r (.if_icmp .ge 75) 3, hz_n, hz_n, hz_m (.aload_n 1) 1 [] [true, true, true, false, false], hz_r (.iload_n 2) 1, hz_m (.invokevirtual 104) 3 [36, 2, 1] [], hz_n, hz_n, hz_r (.istore_n 3) 1, hz_r (.aload_n 1) 1, hz_r (.iload_n 2) 1, hz_m (.invokevirtual 107) 3 [35, 2, 1] [], hz_n, hz_n, hz_r (.istore 4) 2],
  [hz_n, hz_r (.iload_n 3) 1, hz_r (.ifCond .lt 30) 3, hz_n, hz_n, hz_r (.iload_n 3) 1, hz_r (.bipush 60) 2, hz_n, hz_r (.if_icmp .gt 24) 3, hz_n, hz_n, hz_r (.aload_n 0) 1, hz_m (.getfield 18) 3 [9, 5] [], hz_n, hz_n, hz_r (.iload_n 3) 1],
  [hz_r (.iaload) 1, hz_r (.iconst (-1)) 1, hz_r (.if_icmp .eq 16) 3, hz_n, hz_n, hz_r (.aload_n 0) 1, hz_m (.getfield 18) 3 [9, 5] [], hz_n, hz_n, hz_r (.iload_n 3) 1, hz_r (.iaload) 1, hz_r (.iload 4) 2, hz_n, hz_r (.if_icmp .eq 5) 3, hz_n, hz_n],
  [hz_m (.iconst 0) 1 [] [false, false, false, false, false], hz_r (.ireturn) 1, hz_r (.aload_n 0) 1, hz_m (.getfield 18) 3 [9, 5] [], hz_n, hz_n, hz_r (.iload_n 3) 1, hz_r (.iload 4) 2, hz_n, hz_r (.iastore) 1, hz_r (.aload_n 0) 1, hz_r (.aload_n 0) 1, hz_m (.getfield 96) 3 [9, 6] [], hz_n, hz_n, hz_r (.iload_n 3) 1],
  [hz_m (.invokestatic 110) 3 [2, 2, 1] [], hz_n, hz_n, hz_m (.putfield 96) 3 [9, 6] [], hz_n, hz_n, hz_r (.iinc 2 1) 3, hz_n, hz_n, hz_r (.goto (-77)) 3, hz_n, hz_n, hz_m (.iconst 1) 1 [] [false, false, false, false, false], hz_r (.ireturn) 1]]
/-- HeavierServes$Trials.comesAsDue(I)Z -/
def hs_k89 : hs_K := [
  [hz_m (.iconst 1) 1 [] [true, true, false], hz_r (.istore_n 2) 1, hz_r (.iload_n 2) 1, hz_r (.aload_n 0) 1, hz_m (.getfield 96) 3 [9, 6] [], hz_n, hz_n, hz_r (.if_icmp .gt 56) 3, hz_n, hz_n, hz_r (.iload_n 2) 1, hz_r (.bipush 60) 2, hz_n, hz_r (.if_icmp .gt 50) 3, hz_n, hz_n],
  [hz_r (.aload_n 0) 1, hz_m (.getfield 29) 3 [9, 2] [], hz_n, hz_n, hz_r (.aload_n 0) 1, hz_m (.getfield 12) 3 [9, 4] [], hz_n, hz_n, hz_r (.iconst 0) 1, hz_r (.iload_n 1) 1, hz_m (.invokevirtual 65) 3 [27, 4, 0] [], hz_n, hz_n, hz_r (.aload_n 0) 1, hz_m (.getfield 18) 3 [9, 5] [], hz_n],
  [hz_n, hz_r (.iload_n 2) 1, hz_r (.iaload) 1, hz_r (.iconst (-1)) 1, hz_r (.if_icmp .eq 21) 3, hz_n, hz_n, hz_r (.aload_n 0) 1, hz_m (.getfield 18) 3 [9, 5] [], hz_n, hz_n, hz_r (.iload_n 2) 1, hz_r (.iaload) 1, hz_r (.aload_n 0) 1, hz_m (.getfield 12) 3 [9, 4] [], hz_n],
  [hz_n, hz_m (.getfield 61) 3 [6, 1] [], hz_n, hz_n, hz_r (.if_icmp .eq 5) 3, hz_n, hz_n, hz_m (.iconst 0) 1 [] [false, false, false], hz_r (.ireturn) 1, hz_r (.iinc 2 1) 3, hz_n, hz_n, hz_r (.goto (-58)) 3, hz_n, hz_n, hz_m (.iconst 1) 1 [] [false, false, false]],
  [hz_r (.ireturn) 1]]
/-- HeavierServes$Trials.explainingWeights(LHeavierServes$Pairs;I)I -/
def hs_k90 : hs_K := [
  [hz_m (.iconst 0) 1 [] [true, true, true, false, false, false, false, false], hz_r (.istore_n 3) 1, hz_r (.iconst 0) 1, hz_r (.istore 4) 2, hz_n, hz_r (.iconst 0) 1, hz_r (.istore 5) 2, hz_n, hz_r (.aload_n 0) 1, hz_r (.aload_n 1) 1, hz_m (.invokevirtual 113) 3 [88, 2, 1] [], hz_n, hz_n, hz_r (.ifCond .eq 9) 3, hz_n, hz_n],
  [hz_m (.sipush 999) 3 [] [true, false, true, true, true, true, false, false], hz_n, hz_n, hz_r (.goto 4) 3, hz_n, hz_n, hz_m (.iconst 0) 1 [] [true, false, true, true, true, true, false, false], hz_m (.istore 6) 2 [] [true, false, true, true, true, true, false, false], hz_n, hz_r (.iconst 1) 1, hz_r (.istore 7) 2, hz_n, hz_m (.iload 7) 2 [] [true, false, true, true, true, true, true, true], hz_n, hz_r (.iload 6) 2, hz_n],
  [hz_r (.if_icmp .gt 56) 3, hz_n, hz_n, hz_m (.aload_n 0) 1 [] [true, false, true, true, true, true, true, true], hz_r (.iload_n 2) 1, hz_r (.iload 7) 2, hz_n, hz_r (.aload_n 0) 1, hz_m (.getfield 22) 3 [9, 0] [], hz_n, hz_n, hz_m (.getfield 41) 3 [6, 7] [], hz_n, hz_n, hz_r (.iload_n 2) 1, hz_r (.iaload) 1],
  [hz_r (.isub) 1, hz_m (.invokevirtual 58) 3 [81, 3, 0] [], hz_n, hz_n, hz_r (.aload_n 0) 1, hz_r (.sipush 255) 3, hz_n, hz_n, hz_m (.invokevirtual 117) 3 [89, 2, 1] [], hz_n, hz_n, hz_r (.ifCond .eq 23) 3, hz_n, hz_n, hz_m (.iload_n 3) 1 [] [true, false, true, true, true, false, true, true], hz_r (.ifCond .ne 8) 3],
  [hz_n, hz_n, hz_m (.iload 7) 2 [] [true, false, true, true, false, false, true, true], hz_n, hz_r (.goto 5) 3, hz_n, hz_n, hz_m (.iload 4) 2 [] [true, false, true, true, true, false, true, true], hz_n, hz_m (.istore 4) 2 [] [true, false, true, true, false, false, true, true], hz_n, hz_r (.iload 7) 2, hz_n, hz_r (.istore 5) 2, hz_n, hz_r (.iinc 3 1) 3],
  [hz_n, hz_n, hz_m (.iinc 7 1) 3 [] [true, false, true, true, true, true, true, true], hz_n, hz_n, hz_r (.goto (-57)) 3, hz_n, hz_n, hz_m (.aload_n 0) 1 [] [true, false, false, true, true, true, false, false], hz_m (.getfield 33) 3 [9, 3] [], hz_n, hz_n, hz_r (.iload_n 3) 1, hz_r (.iload 4) 2, hz_n, hz_r (.iload 5) 2],
  [hz_n, hz_m (.invokevirtual 120) 3 [44, 4, 0] [], hz_n, hz_n, hz_r (.iload_n 3) 1, hz_r (.ireturn) 1]]
/-- HeavierServes$Trials.explainingAbsences(LHeavierServes$Pairs;)I -/
def hs_k91 : hs_K := [
  [hz_m (.aload_n 0) 1 [] [true, true, false, false, false], hz_r (.aload_n 1) 1, hz_m (.invokevirtual 113) 3 [88, 2, 1] [], hz_n, hz_n, hz_r (.istore_n 2) 1, hz_r (.aload_n 0) 1, hz_m (.getfield 12) 3 [9, 4] [], hz_n, hz_n, hz_r (.aload_n 0) 1, hz_m (.getfield 22) 3 [9, 0] [], hz_n, hz_n, hz_m (.invokevirtual 37) 3 [52, 2, 0] [], hz_n],
  [hz_n, hz_r (.aload_n 0) 1, hz_m (.getfield 33) 3 [9, 3] [], hz_n, hz_n, hz_r (.iload_n 2) 1, hz_r (.ifCond .eq 17) 3, hz_n, hz_n, hz_m (.aload_n 0) 1 [] [true, false, true, false, false], hz_r (.sipush 255) 3, hz_n, hz_n, hz_m (.invokevirtual 117) 3 [89, 2, 1] [], hz_n, hz_n],
  [hz_r (.ifCond .eq 7) 3, hz_n, hz_n, hz_m (.lconst 1) 1 [] [true, false, true, false, false], hz_r (.goto 4) 3, hz_n, hz_n, hz_m (.lconst 0) 1 [] [true, false, true, false, false], hz_m (.invokevirtual 74) 3 [42, 2, 0] [true, false, true, false, false], hz_n, hz_n, hz_r (.iconst 0) 1, hz_r (.istore_n 3) 1, hz_r (.iconst 0) 1, hz_r (.istore 4) 2, hz_n],
  [hz_m (.iload 4) 2 [] [true, false, true, true, true], hz_n, hz_r (.aload_n 0) 1, hz_m (.getfield 25) 3 [9, 1] [], hz_n, hz_n, hz_m (.getfield 80) 3 [8, 9] [], hz_n, hz_n, hz_r (.if_icmp .ge 60) 3, hz_n, hz_n, hz_m (.aload_n 0) 1 [] [true, false, true, true, true], hz_m (.getfield 12) 3 [9, 4] [], hz_n, hz_n],
  [hz_r (.aload_n 0) 1, hz_m (.getfield 22) 3 [9, 0] [], hz_n, hz_n, hz_m (.invokevirtual 37) 3 [52, 2, 0] [], hz_n, hz_n, hz_r (.iload_n 2) 1, hz_r (.ifCond .eq 39) 3, hz_n, hz_n, hz_m (.aload_n 0) 1 [] [true, false, true, true, true], hz_m (.getfield 22) 3 [9, 0] [], hz_n, hz_n, hz_r (.iload 4) 2],
  [hz_n, hz_m (.invokevirtual 85) 3 [55, 2, 1] [], hz_n, hz_n, hz_r (.ifCond .eq 27) 3, hz_n, hz_n, hz_m (.aload_n 0) 1 [] [true, false, true, true, true], hz_r (.sipush 255) 3, hz_n, hz_n, hz_r (.iconst 1) 1, hz_r (.iload 4) 2, hz_n, hz_r (.ishl) 1, hz_r (.iconst (-1)) 1],
  [hz_r (.ixor) 1, hz_r (.iand) 1, hz_m (.invokevirtual 117) 3 [89, 2, 1] [], hz_n, hz_n, hz_r (.ifCond .eq 10) 3, hz_n, hz_n, hz_m (.iload_n 3) 1 [] [true, false, true, true, true], hz_r (.iconst 1) 1, hz_r (.iload 4) 2, hz_n, hz_r (.ishl) 1, hz_r (.ior) 1, hz_r (.istore_n 3) 1, hz_m (.iinc 4 1) 3 [] [true, false, true, true, true]],
  [hz_n, hz_n, hz_r (.goto (-66)) 3, hz_n, hz_n, hz_m (.iload_n 3) 1 [] [false, false, false, true, false], hz_r (.ireturn) 1]]
/-- HeavierServes$Will.read(LHeavierServes$Text;)I -/
def hs_k92 : hs_K := [
  [hz_r (.aload_n 1) 1, hz_r (.bipush 40) 2, hz_n, hz_m (.invokevirtual 21) 3 [62, 2, 0] [], hz_n, hz_n, hz_r (.aload_n 0) 1, hz_r (.iconst 0) 1, hz_m (.putfield 27) 3 [10, 5] [], hz_n, hz_n, hz_r (.aload_n 0) 1, hz_r (.iconst 0) 1, hz_m (.putfield 31) 3 [10, 4] [], hz_n, hz_n],
  [hz_r (.aload_n 1) 1, hz_m (.getfield 34) 3 [7, 1] [], hz_n, hz_n, hz_r (.ifCond .le 29) 3, hz_n, hz_n, hz_r (.aload_n 0) 1, hz_r (.aload_n 1) 1, hz_r (.iconst 0) 1, hz_r (.iconst 0) 1, hz_m (.invokevirtual 37) 3 [93, 4, 1] [], hz_n, hz_n, hz_r (.ifCond .eq 14) 3, hz_n],
  [hz_n, hz_r (.aload_n 0) 1, hz_m (.getfield 27) 3 [10, 5] [], hz_n, hz_n, hz_r (.aload_n 1) 1, hz_m (.getfield 34) 3 [7, 1] [], hz_n, hz_n, hz_r (.if_icmp .ge 8) 3, hz_n, hz_n, hz_m (.aload_n 0) 1 [] [true, false], hz_m (.getfield 27) 3 [10, 5] [], hz_n, hz_n],
  [hz_r (.ireturn) 1, hz_m (.aload_n 0) 1 [] [true, false], hz_m (.getfield 15) 3 [10, 1] [], hz_n, hz_n, hz_r (.iconst 0) 1, hz_r (.aload_n 0) 1, hz_m (.getfield 11) 3 [10, 0] [], hz_n, hz_n, hz_r (.iconst 0) 1, hz_r (.bipush 40) 2, hz_n, hz_m (.invokestatic 41) 3 [7] [], hz_n, hz_n],
  [hz_r (.aload_n 0) 1, hz_r (.aload_n 0) 1, hz_m (.getfield 31) 3 [10, 4] [], hz_n, hz_n, hz_m (.putfield 47) 3 [10, 3] [], hz_n, hz_n, hz_r (.iconst (-1)) 1, hz_r (.ireturn) 1]]
/-- HeavierServes$Will.readLevel(LHeavierServes$Text;II)Z -/
def hs_k93 : hs_K := [
  [hz_m (.iload_n 2) 1 [] [true, true, true, true, false, false, false, false], hz_r (.iconst 3) 1, hz_r (.if_icmp .lt 10) 3, hz_n, hz_n, hz_m (.aload_n 0) 1 [] [true, true, false, true, false, false, false, false], hz_r (.aload_n 1) 1, hz_r (.iload_n 3) 1, hz_m (.invokevirtual 50) 3 [95, 3, 1] [], hz_n, hz_n, hz_r (.ireturn) 1, hz_m (.aload_n 0) 1 [] [true, true, true, true, false, false, false, false], hz_r (.aload_n 1) 1, hz_r (.iload_n 2) 1, hz_r (.iconst 1) 1],
  [hz_r (.iadd) 1, hz_r (.iload_n 3) 1, hz_m (.invokevirtual 37) 3 [93, 4, 1] [], hz_n, hz_n, hz_r (.istore 4) 2, hz_n, hz_r (.iload_n 2) 1, hz_r (.ifCond .ne 7) 3, hz_n, hz_n, hz_m (.iconst 1) 1 [] [true, true, true, true, true, false, false, false], hz_r (.goto 5) 3, hz_n, hz_n, hz_m (.bipush 40) 2 [] [true, true, true, true, true, false, false, false]],
  [hz_n, hz_m (.istore 5) 2 [] [true, true, true, true, true, false, false, false], hz_n, hz_r (.iconst 0) 1, hz_r (.istore 6) 2, hz_n, hz_m (.iload 6) 2 [] [true, true, true, true, true, true, true, false], hz_n, hz_r (.iload 5) 2, hz_n, hz_r (.if_icmp .ge 67) 3, hz_n, hz_n, hz_m (.iload 4) 2 [] [true, true, true, true, true, true, true, false], hz_n, hz_r (.ifCond .eq 62) 3],
  [hz_n, hz_n, hz_m (.aload_n 1) 1 [] [true, true, true, true, true, true, true, false], hz_r (.aload_n 0) 1, hz_m (.getfield 27) 3 [10, 5] [], hz_n, hz_n, hz_m (.invokevirtual 54) 3 [63, 2, 1] [], hz_n, hz_n, hz_r (.istore 7) 2, hz_n, hz_r (.iload 7) 2, hz_n, hz_m (.invokestatic 58) 3 [94, 1, 1] [], hz_n],
  [hz_n, hz_r (.iload_n 2) 1, hz_r (.if_icmp .eq 6) 3, hz_n, hz_n, hz_m (.goto 40) 3 [] [false, false, false, false, true, false, false, false], hz_n, hz_n, hz_m (.aload_n 0) 1 [] [true, true, true, true, false, true, true, true], hz_r (.dup) 1, hz_m (.getfield 27) 3 [10, 5] [], hz_n, hz_n, hz_r (.iconst 1) 1, hz_r (.iadd) 1, hz_m (.putfield 27) 3 [10, 5] []],
  [hz_n, hz_n, hz_r (.aload_n 0) 1, hz_r (.aload_n 1) 1, hz_r (.iload_n 2) 1, hz_r (.iconst 1) 1, hz_r (.iadd) 1, hz_r (.iload_n 3) 1, hz_m (.invokevirtual 37) 3 [93, 4, 1] [], hz_n, hz_n, hz_r (.istore 4) 2, hz_n, hz_r (.aload_n 0) 1, hz_r (.sipush 2000) 3, hz_n],
  [hz_n, hz_r (.iload 7) 2, hz_n, hz_r (.iadd) 1, hz_m (.invokevirtual 61) 3 [98, 2, 0] [], hz_n, hz_n, hz_r (.iinc 6 1) 3, hz_n, hz_n, hz_r (.goto (-68)) 3, hz_n, hz_n, hz_m (.iload 4) 2 [] [false, false, false, false, true, false, false, false], hz_n, hz_r (.ireturn) 1]]
/-- HeavierServes$Will.levelOf(I)I -/
def hs_k94 : hs_K := [
  [hz_r (.iload_n 0) 1, hz_r (.tableswitch 105 42 62 #[103, 101, 105, 101, 105, 103, 105, 105, 105, 105, 105, 105, 105, 105, 105, 105, 105, 105, 99, 99, 99]) 99, hz_n, hz_n, hz_n, hz_n, hz_n, hz_n, hz_n, hz_n, hz_n, hz_n, hz_n, hz_n, hz_n, hz_n],
  [hz_n, hz_n, hz_n, hz_n, hz_n, hz_n, hz_n, hz_n, hz_n, hz_n, hz_n, hz_n, hz_n, hz_n, hz_n, hz_n],
  [hz_n, hz_n, hz_n, hz_n, hz_n, hz_n, hz_n, hz_n, hz_n, hz_n, hz_n, hz_n, hz_n, hz_n, hz_n, hz_n],
  [hz_n, hz_n, hz_n, hz_n, hz_n, hz_n, hz_n, hz_n, hz_n, hz_n, hz_n, hz_n, hz_n, hz_n, hz_n, hz_n],
  [hz_n, hz_n, hz_n, hz_n, hz_n, hz_n, hz_n, hz_n, hz_n, hz_n, hz_n, hz_n, hz_n, hz_n, hz_n, hz_n],
  [hz_n, hz_n, hz_n, hz_n, hz_n, hz_n, hz_n, hz_n, hz_n, hz_n, hz_n, hz_n, hz_n, hz_n, hz_n, hz_n],
  [hz_n, hz_n, hz_n, hz_n, hz_m (.iconst 0) 1 [] [false], hz_r (.ireturn) 1, hz_m (.iconst 1) 1 [] [false], hz_r (.ireturn) 1, hz_m (.iconst 2) 1 [] [false], hz_r (.ireturn) 1, hz_m (.iconst (-1)) 1 [] [false], hz_r (.ireturn) 1]]
/-- HeavierServes$Will.readThing(LHeavierServes$Text;I)Z -/
def hs_k95 : hs_K := [
  [hz_m (.iconst 0) 1 [] [true, true, true, false, false, false], hz_r (.istore_n 3) 1, hz_r (.iconst 0) 1, hz_r (.istore 4) 2, hz_n, hz_m (.iload 4) 2 [] [true, true, true, true, true, false], hz_n, hz_r (.bipush 40) 2, hz_n, hz_r (.if_icmp .ge 42) 3, hz_n, hz_n, hz_m (.aload_n 1) 1 [] [true, true, true, true, true, false], hz_r (.aload_n 0) 1, hz_m (.getfield 27) 3 [10, 5] [], hz_n],
  [hz_n, hz_m (.invokevirtual 54) 3 [63, 2, 1] [], hz_n, hz_n, hz_r (.bipush 45) 2, hz_n, hz_r (.if_icmp .ne 29) 3, hz_n, hz_n, hz_m (.iload_n 3) 1 [] [true, true, true, true, true, false], hz_r (.ifCond .ne 7) 3, hz_n, hz_n, hz_m (.iconst 1) 1 [] [true, true, true, false, true, false], hz_r (.goto 4) 3, hz_n],
  [hz_n, hz_m (.iconst 0) 1 [] [true, true, true, false, true, false], hz_m (.istore_n 3) 1 [] [true, true, true, false, true, false], hz_r (.aload_n 0) 1, hz_r (.dup) 1, hz_m (.getfield 27) 3 [10, 5] [], hz_n, hz_n, hz_r (.iconst 1) 1, hz_r (.iadd) 1, hz_m (.putfield 27) 3 [10, 5] [], hz_n, hz_n, hz_r (.iinc 4 1) 3, hz_n, hz_n],
  [hz_r (.goto (-43)) 3, hz_n, hz_n, hz_m (.aload_n 1) 1 [] [true, true, true, true, false, false], hz_r (.aload_n 0) 1, hz_m (.getfield 27) 3 [10, 5] [], hz_n, hz_n, hz_m (.invokevirtual 54) 3 [63, 2, 1] [], hz_n, hz_n, hz_r (.istore 4) 2, hz_n, hz_r (.iconst 1) 1, hz_r (.istore 5) 2, hz_n],
  [hz_r (.iload 4) 2, hz_n, hz_r (.bipush 40) 2, hz_n, hz_r (.if_icmp .ne 27) 3, hz_n, hz_n, hz_m (.iload_n 2) 1 [] [true, true, true, true, false, false], hz_r (.iconst 4) 1, hz_r (.if_icmp .ge 16) 3, hz_n, hz_n, hz_m (.aload_n 0) 1 [] [true, true, true, true, false, false], hz_r (.aload_n 1) 1, hz_r (.iload_n 2) 1, hz_m (.invokevirtual 64) 3 [96, 3, 1] []],
  [hz_n, hz_n, hz_r (.ifCond .eq 7) 3, hz_n, hz_n, hz_m (.iconst 1) 1 [] [true, false, false, true, false, false], hz_r (.goto 4) 3, hz_n, hz_n, hz_m (.iconst 0) 1 [] [true, false, false, true, false, false], hz_m (.istore 5) 2 [] [true, false, false, true, false, false], hz_n, hz_r (.goto 59) 3, hz_n, hz_n, hz_m (.iload 4) 2 [] [true, true, false, true, true, true]],
  [hz_n, hz_r (.bipush 48) 2, hz_n, hz_r (.if_icmp .lt 18) 3, hz_n, hz_n, hz_m (.iload 4) 2 [] [true, true, false, true, true, true], hz_n, hz_r (.bipush 57) 2, hz_n, hz_r (.if_icmp .gt 11) 3, hz_n, hz_n, hz_m (.aload_n 0) 1 [] [true, true, false, true, false, true], hz_r (.aload_n 1) 1, hz_m (.invokevirtual 67) 3 [97, 2, 0] []],
  [hz_n, hz_n, hz_r (.goto 37) 3, hz_n, hz_n, hz_m (.iload 4) 2 [] [true, false, false, true, true, true], hz_n, hz_m (.invokestatic 71) 3 [99, 1, 1] [], hz_n, hz_n, hz_r (.ifCond .eq 26) 3, hz_n, hz_n, hz_m (.aload_n 0) 1 [] [true, false, false, true, true, true], hz_r (.sipush 1000) 3, hz_n],
  [hz_n, hz_r (.iload 4) 2, hz_n, hz_r (.iadd) 1, hz_m (.invokevirtual 61) 3 [98, 2, 0] [], hz_n, hz_n, hz_r (.aload_n 0) 1, hz_r (.dup) 1, hz_m (.getfield 27) 3 [10, 5] [], hz_n, hz_n, hz_r (.iconst 1) 1, hz_r (.iadd) 1, hz_m (.putfield 27) 3 [10, 5] [], hz_n],
  [hz_n, hz_r (.goto 6) 3, hz_n, hz_n, hz_m (.iconst 0) 1 [] [true, false, false, true, false, false], hz_r (.istore 5) 2, hz_n, hz_m (.iload_n 3) 1 [] [true, false, false, true, false, true], hz_r (.ifCond .eq 10) 3, hz_n, hz_n, hz_m (.aload_n 0) 1 [] [true, false, false, false, false, true], hz_r (.sipush 3000) 3, hz_n, hz_n, hz_m (.invokevirtual 61) 3 [98, 2, 0] []],
  [hz_n, hz_n, hz_m (.iload 5) 2 [] [false, false, false, false, false, true], hz_n, hz_r (.ireturn) 1]]
/-- HeavierServes$Will.readBracket(LHeavierServes$Text;I)Z -/
def hs_k96 : hs_K := [
  [hz_r (.aload_n 0) 1, hz_r (.dup) 1, hz_m (.getfield 27) 3 [10, 5] [], hz_n, hz_n, hz_r (.iconst 1) 1, hz_r (.iadd) 1, hz_m (.putfield 27) 3 [10, 5] [], hz_n, hz_n, hz_r (.aload_n 0) 1, hz_r (.aload_n 1) 1, hz_r (.iconst 0) 1, hz_r (.iload_n 2) 1, hz_r (.iconst 1) 1, hz_r (.iadd) 1],
  [hz_m (.invokevirtual 37) 3 [93, 4, 1] [], hz_n, hz_n, hz_r (.ifCond .eq 16) 3, hz_n, hz_n, hz_m (.aload_n 1) 1 [] [true, true, false], hz_r (.aload_n 0) 1, hz_m (.getfield 27) 3 [10, 5] [], hz_n, hz_n, hz_m (.invokevirtual 54) 3 [63, 2, 1] [], hz_n, hz_n, hz_r (.bipush 41) 2, hz_n],
  [hz_r (.if_icmp .eq 5) 3, hz_n, hz_n, hz_m (.iconst 0) 1 [] [false, false, false], hz_r (.ireturn) 1, hz_m (.aload_n 0) 1 [] [true, false, false], hz_r (.dup) 1, hz_m (.getfield 27) 3 [10, 5] [], hz_n, hz_n, hz_r (.iconst 1) 1, hz_r (.iadd) 1, hz_m (.putfield 27) 3 [10, 5] [], hz_n, hz_n, hz_r (.iconst 1) 1],
  [hz_r (.ireturn) 1]]
/-- HeavierServes$Will.readNumber(LHeavierServes$Text;)V -/
def hs_k97 : hs_K := [
  [hz_m (.iconst 0) 1 [] [true, true, false, false], hz_r (.istore_n 2) 1, hz_r (.iconst 0) 1, hz_r (.istore_n 3) 1, hz_r (.iload_n 3) 1, hz_r (.iconst 3) 1, hz_r (.if_icmp .ge 45) 3, hz_n, hz_n, hz_r (.aload_n 1) 1, hz_r (.aload_n 0) 1, hz_m (.getfield 27) 3 [10, 5] [], hz_n, hz_n, hz_m (.invokevirtual 75) 3 [64, 2, 1] [], hz_n],
  [hz_n, hz_r (.iconst (-1)) 1, hz_r (.if_icmp .eq 33) 3, hz_n, hz_n, hz_r (.iload_n 2) 1, hz_r (.bipush 10) 2, hz_n, hz_r (.imul) 1, hz_r (.aload_n 1) 1, hz_r (.aload_n 0) 1, hz_m (.getfield 27) 3 [10, 5] [], hz_n, hz_n, hz_m (.invokevirtual 75) 3 [64, 2, 1] [], hz_n],
  [hz_n, hz_r (.iadd) 1, hz_r (.istore_n 2) 1, hz_r (.aload_n 0) 1, hz_r (.dup) 1, hz_m (.getfield 27) 3 [10, 5] [], hz_n, hz_n, hz_r (.iconst 1) 1, hz_r (.iadd) 1, hz_m (.putfield 27) 3 [10, 5] [], hz_n, hz_n, hz_r (.iinc 3 1) 3, hz_n, hz_n],
  [hz_r (.goto (-44)) 3, hz_n, hz_n, hz_m (.aload_n 0) 1 [] [true, false, true, false], hz_r (.iload_n 2) 1, hz_m (.invokevirtual 61) 3 [98, 2, 0] [], hz_n, hz_n, hz_r (.return_) 1]]
/-- HeavierServes$Will.emit(I)V -/
def hs_k98 : hs_K := [
  [hz_r (.aload_n 0) 1, hz_m (.getfield 31) 3 [10, 4] [], hz_n, hz_n, hz_r (.ifCond .lt 32) 3, hz_n, hz_n, hz_r (.aload_n 0) 1, hz_m (.getfield 31) 3 [10, 4] [], hz_n, hz_n, hz_r (.bipush 40) 2, hz_n, hz_r (.if_icmp .ge 23) 3, hz_n, hz_n],
  [hz_r (.aload_n 0) 1, hz_m (.getfield 15) 3 [10, 1] [], hz_n, hz_n, hz_r (.aload_n 0) 1, hz_m (.getfield 31) 3 [10, 4] [], hz_n, hz_n, hz_r (.iload_n 1) 1, hz_r (.iastore) 1, hz_r (.aload_n 0) 1, hz_r (.dup) 1, hz_m (.getfield 31) 3 [10, 4] [], hz_n, hz_n, hz_r (.iconst 1) 1],
  [hz_r (.iadd) 1, hz_m (.putfield 31) 3 [10, 4] [], hz_n, hz_n, hz_m (.return_) 1 [] [false, false]]]
/-- HeavierServes$Will.isFact(I)Z -/
def hs_k99 : hs_K := [
  [hz_r (.iload_n 0) 1, hz_r (.tableswitch 77 105 119 #[75, 77, 77, 77, 77, 75, 75, 75, 75, 77, 75, 75, 77, 75, 75]) 75, hz_n, hz_n, hz_n, hz_n, hz_n, hz_n, hz_n, hz_n, hz_n, hz_n, hz_n, hz_n, hz_n, hz_n],
  [hz_n, hz_n, hz_n, hz_n, hz_n, hz_n, hz_n, hz_n, hz_n, hz_n, hz_n, hz_n, hz_n, hz_n, hz_n, hz_n],
  [hz_n, hz_n, hz_n, hz_n, hz_n, hz_n, hz_n, hz_n, hz_n, hz_n, hz_n, hz_n, hz_n, hz_n, hz_n, hz_n],
  [hz_n, hz_n, hz_n, hz_n, hz_n, hz_n, hz_n, hz_n, hz_n, hz_n, hz_n, hz_n, hz_n, hz_n, hz_n, hz_n],
  [hz_n, hz_n, hz_n, hz_n, hz_n, hz_n, hz_n, hz_n, hz_n, hz_n, hz_n, hz_n, hz_m (.iconst 1) 1 [] [false], hz_r (.ireturn) 1, hz_m (.iconst 0) 1 [] [false], hz_r (.ireturn) 1]]
/-- HeavierServes$Will.value(LHeavierServes$State;LHeavierServes$Town;I)I -/
def hs_k100 : hs_K := [
  [hz_m (.aload_n 0) 1 [] [true, true, true, true, false, false, false, false, false], hz_m (.getfield 47) 3 [10, 3] [], hz_n, hz_n, hz_r (.ifCond .ne 5) 3, hz_n, hz_n, hz_m (.iconst 1) 1 [] [false, false, false, false, false, false, false, false, false], hz_r (.ireturn) 1, hz_m (.iconst 0) 1 [] [true, true, true, true, false, false, false, false, false], hz_r (.istore 4) 2, hz_n, hz_r (.iconst 0) 1, hz_r (.istore 5) 2, hz_n, hz_m (.iload 5) 2 [] [true, true, true, true, true, true, false, false, false]],
  [hz_n, hz_r (.aload_n 0) 1, hz_m (.getfield 47) 3 [10, 3] [], hz_n, hz_n, hz_r (.if_icmp .ge 159) 3, hz_n, hz_n, hz_m (.iload 5) 2 [] [true, true, true, true, true, true, false, false, false], hz_n, hz_r (.bipush 40) 2, hz_n, hz_r (.if_icmp .ge 152) 3, hz_n, hz_n, hz_m (.aload_n 0) 1 [] [true, true, true, true, true, true, false, false, false]],
  [hz_m (.getfield 11) 3 [10, 0] [], hz_n, hz_n, hz_r (.iload 5) 2, hz_n, hz_r (.iaload) 1, hz_r (.istore 6) 2, hz_n, hz_r (.iload 6) 2, hz_n, hz_r (.sipush 2000) 3, hz_n, hz_n, hz_r (.if_icmp .lt 85) 3, hz_n, hz_n],
  [hz_m (.iload 6) 2 [] [true, true, true, true, true, true, true, false, false], hz_n, hz_r (.sipush 3000) 3, hz_n, hz_n, hz_r (.if_icmp .ne 7) 3, hz_n, hz_n, hz_m (.iconst 0) 1 [] [true, true, true, true, true, true, true, false, false], hz_r (.goto 4) 3, hz_n, hz_n, hz_m (.iconst 1) 1 [] [true, true, true, true, true, true, true, false, false], hz_m (.istore 7) 2 [] [true, true, true, true, true, true, true, false, false], hz_n, hz_r (.iload 4) 2],
  [hz_n, hz_r (.iload 7) 2, hz_n, hz_r (.isub) 1, hz_r (.istore 4) 2, hz_n, hz_r (.iload 4) 2, hz_n, hz_r (.iconst 1) 1, hz_r (.if_icmp .ge 5) 3, hz_n, hz_n, hz_m (.iconst 0) 1 [] [false, false, false, false, false, false, false, false, false], hz_r (.ireturn) 1, hz_m (.aload_n 0) 1 [] [true, true, true, true, true, true, true, true, false], hz_m (.getfield 18) 3 [10, 2] []],
  [hz_n, hz_n, hz_r (.iload 4) 2, hz_n, hz_r (.iconst 1) 1, hz_r (.isub) 1, hz_r (.iaload) 1, hz_r (.istore 8) 2, hz_n, hz_r (.aload_n 0) 1, hz_m (.getfield 18) 3 [10, 2] [], hz_n, hz_n, hz_r (.iload 4) 2, hz_n, hz_r (.iconst 1) 1],
  [hz_r (.isub) 1, hz_r (.iload 7) 2, hz_n, hz_r (.ifCond .ne 9) 3, hz_n, hz_n, hz_m (.iload 8) 2 [] [true, true, true, true, true, true, false, false, true], hz_n, hz_r (.ineg) 1, hz_r (.goto 21) 3, hz_n, hz_n, hz_m (.iload 6) 2 [] [true, true, true, true, true, true, true, false, true], hz_n, hz_r (.sipush 2000) 3, hz_n],
  [hz_n, hz_r (.isub) 1, hz_r (.iload 8) 2, hz_n, hz_r (.aload_n 0) 1, hz_m (.getfield 18) 3 [10, 2] [], hz_n, hz_n, hz_r (.iload 4) 2, hz_n, hz_r (.iaload) 1, hz_m (.invokestatic 78) 3 [101, 3, 1] [], hz_n, hz_n, hz_m (.iastore) 1 [] [true, true, true, true, true, true, false, false, false], hz_r (.goto 47) 3],
  [hz_n, hz_n, hz_m (.iload 4) 2 [] [true, true, true, true, true, true, true, false, false], hz_n, hz_r (.bipush 40) 2, hz_n, hz_r (.if_icmp .lt 5) 3, hz_n, hz_n, hz_m (.iconst 0) 1 [] [false, false, false, false, false, false, false, false, false], hz_r (.ireturn) 1, hz_m (.aload_n 0) 1 [] [true, true, true, true, true, true, true, false, false], hz_m (.getfield 18) 3 [10, 2] [], hz_n, hz_n, hz_r (.iload 4) 2],
  [hz_n, hz_r (.iload 6) 2, hz_n, hz_r (.sipush 1000) 3, hz_n, hz_n, hz_r (.if_icmp .ge 8) 3, hz_n, hz_n, hz_m (.iload 6) 2 [] [true, true, true, true, true, true, true, false, false], hz_n, hz_r (.goto 15) 3, hz_n, hz_n, hz_m (.iload 6) 2 [] [true, true, true, true, true, true, true, false, false], hz_n],
  [hz_r (.sipush 1000) 3, hz_n, hz_n, hz_r (.isub) 1, hz_r (.aload_n 1) 1, hz_r (.aload_n 2) 1, hz_r (.iload_n 3) 1, hz_m (.invokestatic 82) 3 [102, 4, 1] [], hz_n, hz_n, hz_m (.iastore) 1 [] [true, true, true, true, true, true, false, false, false], hz_r (.iinc 4 1) 3, hz_n, hz_n, hz_m (.iinc 5 1) 3 [] [true, true, true, true, true, true, false, false, false], hz_n],
  [hz_n, hz_r (.goto (-162)) 3, hz_n, hz_n, hz_m (.aload_n 0) 1 [] [true, false, false, false, false, false, false, false, false], hz_m (.getfield 18) 3 [10, 2] [], hz_n, hz_n, hz_r (.iconst 0) 1, hz_r (.iaload) 1, hz_r (.ireturn) 1]]
/-- HeavierServes$Will.combine(III)I -/
def hs_k101 : hs_K := [
  [hz_r (.iload_n 0) 1, hz_r (.lookupswitch 105 #[(42, 67), (43, 59), (45, 63), (47, 71), (60, 83), (62, 94)]) 59, hz_n, hz_n, hz_n, hz_n, hz_n, hz_n, hz_n, hz_n, hz_n, hz_n, hz_n, hz_n, hz_n, hz_n],
  [hz_n, hz_n, hz_n, hz_n, hz_n, hz_n, hz_n, hz_n, hz_n, hz_n, hz_n, hz_n, hz_n, hz_n, hz_n, hz_n],
  [hz_n, hz_n, hz_n, hz_n, hz_n, hz_n, hz_n, hz_n, hz_n, hz_n, hz_n, hz_n, hz_n, hz_n, hz_n, hz_n],
  [hz_n, hz_n, hz_n, hz_n, hz_n, hz_n, hz_n, hz_n, hz_n, hz_n, hz_n, hz_n, hz_m (.iload_n 1) 1 [] [false, true, true], hz_r (.iload_n 2) 1, hz_r (.iadd) 1, hz_r (.ireturn) 1],
  [hz_m (.iload_n 1) 1 [] [false, true, true], hz_r (.iload_n 2) 1, hz_r (.isub) 1, hz_r (.ireturn) 1, hz_m (.iload_n 1) 1 [] [false, true, true], hz_r (.iload_n 2) 1, hz_r (.imul) 1, hz_r (.ireturn) 1, hz_m (.iload_n 2) 1 [] [false, true, true], hz_r (.ifCond .ne 7) 3, hz_n, hz_n, hz_m (.iconst 0) 1 [] [false, false, false], hz_r (.goto 6) 3, hz_n, hz_n],
  [hz_m (.iload_n 1) 1 [] [false, true, true], hz_r (.iload_n 2) 1, hz_r (.idiv) 1, hz_m (.ireturn) 1 [] [false, false, false], hz_m (.iload_n 1) 1 [] [false, true, true], hz_r (.iload_n 2) 1, hz_r (.if_icmp .ge 7) 3, hz_n, hz_n, hz_m (.iconst 1) 1 [] [false, false, false], hz_r (.goto 4) 3, hz_n, hz_n, hz_m (.iconst 0) 1 [] [false, false, false], hz_m (.ireturn) 1 [] [false, false, false], hz_m (.iload_n 1) 1 [] [false, true, true]],
  [hz_r (.iload_n 2) 1, hz_r (.if_icmp .le 7) 3, hz_n, hz_n, hz_m (.iconst 1) 1 [] [false, false, false], hz_r (.goto 4) 3, hz_n, hz_n, hz_m (.iconst 0) 1 [] [false, false, false], hz_m (.ireturn) 1 [] [false, false, false], hz_m (.iload_n 1) 1 [] [false, true, true], hz_r (.iload_n 2) 1, hz_r (.if_icmp .ne 7) 3, hz_n, hz_n, hz_m (.iconst 1) 1 [] [false, false, false]],
  [hz_r (.goto 4) 3, hz_n, hz_n, hz_m (.iconst 0) 1 [] [false, false, false], hz_m (.ireturn) 1 [] [false, false, false]]]
/-- HeavierServes$Will.fact(ILHeavierServes$State;LHeavierServes$Town;I)I -/
def hs_k102 : hs_K := [
  [hz_m (.aload_n 1) 1 [] [true, true, true, true, false], hz_m (.getfield 86) 3 [6, 1] [], hz_n, hz_n, hz_r (.istore 4) 2, hz_n, hz_r (.iload_n 0) 1, hz_r (.tableswitch 138 105 119 #[73, 138, 138, 138, 138, 133, 138, 82, 106, 138, 123, 128, 138, 89, 75]) 73, hz_n, hz_n, hz_n, hz_n, hz_n, hz_n, hz_n, hz_n],
  [hz_n, hz_n, hz_n, hz_n, hz_n, hz_n, hz_n, hz_n, hz_n, hz_n, hz_n, hz_n, hz_n, hz_n, hz_n, hz_n],
  [hz_n, hz_n, hz_n, hz_n, hz_n, hz_n, hz_n, hz_n, hz_n, hz_n, hz_n, hz_n, hz_n, hz_n, hz_n, hz_n],
  [hz_n, hz_n, hz_n, hz_n, hz_n, hz_n, hz_n, hz_n, hz_n, hz_n, hz_n, hz_n, hz_n, hz_n, hz_n, hz_n],
  [hz_n, hz_n, hz_n, hz_n, hz_n, hz_n, hz_n, hz_n, hz_n, hz_n, hz_n, hz_n, hz_n, hz_n, hz_n, hz_n],
  [hz_m (.iload_n 3) 1 [] [false, false, false, true, false], hz_r (.ireturn) 1, hz_m (.aload_n 1) 1 [] [false, true, false, true, false], hz_m (.getfield 91) 3 [6, 7] [], hz_n, hz_n, hz_r (.iload_n 3) 1, hz_r (.iaload) 1, hz_r (.ireturn) 1, hz_m (.aload_n 2) 1 [] [false, false, true, true, false], hz_m (.getfield 94) 3 [8, 0] [], hz_n, hz_n, hz_r (.iload_n 3) 1, hz_r (.iaload) 1, hz_r (.ireturn) 1],
  [hz_m (.iload 4) 2 [] [false, true, false, false, true], hz_n, hz_r (.ifCond .ge 7) 3, hz_n, hz_n, hz_m (.iconst 0) 1 [] [false, false, false, false, false], hz_r (.goto 10) 3, hz_n, hz_n, hz_m (.aload_n 1) 1 [] [false, true, false, false, true], hz_m (.getfield 91) 3 [6, 7] [], hz_n, hz_n, hz_r (.iload 4) 2, hz_n, hz_r (.iaload) 1],
  [hz_m (.ireturn) 1 [] [false, false, false, false, false], hz_m (.iload 4) 2 [] [false, false, true, false, true], hz_n, hz_r (.ifCond .ge 7) 3, hz_n, hz_n, hz_m (.iconst (-1)) 1 [] [false, false, false, false, false], hz_r (.goto 10) 3, hz_n, hz_n, hz_m (.aload_n 2) 1 [] [false, false, true, false, true], hz_m (.getfield 94) 3 [8, 0] [], hz_n, hz_n, hz_r (.iload 4) 2, hz_n],
  [hz_r (.iaload) 1, hz_m (.ireturn) 1 [] [false, false, false, false, false], hz_m (.aload_n 1) 1 [] [false, true, false, false, false], hz_m (.getfield 99) 3 [6, 2] [], hz_n, hz_n, hz_r (.ireturn) 1, hz_m (.aload_n 1) 1 [] [false, true, false, false, false], hz_m (.getfield 102) 3 [6, 5] [], hz_n, hz_n, hz_r (.ireturn) 1, hz_m (.aload_n 1) 1 [] [false, true, false, false, false], hz_m (.getfield 105) 3 [6, 0] [], hz_n, hz_n],
  [hz_r (.ireturn) 1, hz_m (.aload_n 1) 1 [] [false, true, false, true, false], hz_m (.getfield 108) 3 [6, 8] [], hz_n, hz_n, hz_r (.iload_n 3) 1, hz_r (.iaload) 1, hz_r (.ireturn) 1]]
/-- HeavierServes.sign(I)I -/
def hs_k103 : hs_K := [
  [hz_r (.aload_n 0) 1, hz_m (.getfield 10) 3 [11, 0] [], hz_n, hz_n, hz_r (.iload_n 1) 1, hz_m (.invokevirtual 95) 3 [61, 2, 1] [], hz_n, hz_n, hz_r (.ifCond .eq 13) 3, hz_n, hz_n, hz_m (.aload_n 0) 1 [] [true, false], hz_m (.getfield 10) 3 [11, 0] [], hz_n, hz_n, hz_m (.getfield 99) 3 [7, 1] []],
  [hz_n, hz_n, hz_r (.goto 4) 3, hz_n, hz_n, hz_m (.iconst (-1)) 1 [] [false, false], hz_m (.ireturn) 1 [] [false, false]]]
/-- HeavierServes.end(I)Z -/
def hs_k104 : hs_K := [
  [hz_r (.iload_n 1) 1, hz_r (.ifCond .lt 14) 3, hz_n, hz_n, hz_r (.iload_n 1) 1, hz_r (.aload_n 0) 1, hz_m (.getfield 10) 3 [11, 0] [], hz_n, hz_n, hz_m (.getfield 99) 3 [7, 1] [], hz_n, hz_n, hz_r (.if_icmp .le 5) 3, hz_n, hz_n, hz_m (.iconst 0) 1 [] [false, false]],
  [hz_r (.ireturn) 1, hz_r (.aload_n 0) 1, hz_m (.getfield 10) 3 [11, 0] [], hz_n, hz_n, hz_r (.iload_n 1) 1, hz_m (.putfield 99) 3 [7, 1] [], hz_n, hz_n, hz_r (.iconst 1) 1, hz_r (.ireturn) 1]]
/-- HeavierServes.town()I -/
def hs_k105 : hs_K := [
  [hz_m (.aload_n 0) 1 [] [true, false, false, false], hz_m (.getfield 10) 3 [11, 0] [], hz_n, hz_n, hz_m (.getfield 99) 3 [7, 1] [], hz_n, hz_n, hz_r (.ifCond .ne 5) 3, hz_n, hz_n, hz_m (.iconst 0) 1 [] [false, false, false, false], hz_r (.ireturn) 1, hz_m (.aload_n 0) 1 [] [true, false, false, false], hz_m (.getfield 26) 3 [11, 2] [], hz_n, hz_n],
  [hz_r (.aload_n 0) 1, hz_m (.getfield 10) 3 [11, 0] [], hz_n, hz_n, hz_m (.invokevirtual 103) 3 [73, 2, 1] [], hz_n, hz_n, hz_r (.istore_n 1) 1, hz_r (.aload_n 0) 1, hz_m (.getfield 10) 3 [11, 0] [], hz_n, hz_n, hz_r (.iconst 0) 1, hz_m (.putfield 99) 3 [7, 1] [], hz_n, hz_n],
  [hz_r (.iload_n 1) 1, hz_r (.iconst (-1)) 1, hz_r (.if_icmp .eq 7) 3, hz_n, hz_n, hz_m (.iconst (-1)) 1 [] [false, true, false, false], hz_r (.iload_n 1) 1, hz_r (.isub) 1, hz_r (.ireturn) 1, hz_m (.aload_n 0) 1 [] [true, false, false, false], hz_m (.getfield 26) 3 [11, 2] [], hz_n, hz_n, hz_m (.getfield 107) 3 [8, 8] [], hz_n, hz_n],
  [hz_r (.istore_n 2) 1, hz_r (.iconst 0) 1, hz_r (.istore_n 3) 1, hz_m (.iload_n 3) 1 [] [true, false, true, true], hz_r (.iload_n 2) 1, hz_r (.if_icmp .ge 50) 3, hz_n, hz_n, hz_m (.aload_n 0) 1 [] [true, false, true, true], hz_m (.getfield 47) 3 [11, 5] [], hz_n, hz_n, hz_r (.aload_n 0) 1, hz_m (.getfield 26) 3 [11, 2] [], hz_n, hz_n],
  [hz_m (.getfield 110) 3 [8, 9] [], hz_n, hz_n, hz_r (.aload_n 0) 1, hz_m (.getfield 26) 3 [11, 2] [], hz_n, hz_n, hz_r (.aload_n 0) 1, hz_m (.getfield 26) 3 [11, 2] [], hz_n, hz_n, hz_m (.getfield 110) 3 [8, 9] [], hz_n, hz_n, hz_m (.invokevirtual 113) 3 [68, 2, 1] [], hz_n],
  [hz_n, hz_m (.invokevirtual 117) 3 [54, 3, 0] [], hz_n, hz_n, hz_r (.aload_n 0) 1, hz_m (.getfield 26) 3 [11, 2] [], hz_n, hz_n, hz_r (.dup) 1, hz_m (.getfield 110) 3 [8, 9] [], hz_n, hz_n, hz_r (.iconst 1) 1, hz_r (.iadd) 1, hz_m (.putfield 110) 3 [8, 9] [], hz_n],
  [hz_n, hz_r (.iinc 3 1) 3, hz_n, hz_n, hz_r (.goto (-49)) 3, hz_n, hz_n, hz_m (.aload_n 0) 1 [] [true, false, true, false], hz_m (.getfield 54) 3 [11, 6] [], hz_n, hz_n, hz_m (.invokevirtual 121) 3 [39, 1, 0] [], hz_n, hz_n, hz_r (.iload_n 2) 1, hz_r (.ireturn) 1]]
/-- HeavierServes.will()I -/
def hs_k106 : hs_K := [
  [hz_m (.aload_n 0) 1 [] [true, false], hz_m (.getfield 33) 3 [11, 3] [], hz_n, hz_n, hz_r (.aload_n 0) 1, hz_m (.getfield 10) 3 [11, 0] [], hz_n, hz_n, hz_m (.invokevirtual 124) 3 [92, 2, 1] [], hz_n, hz_n, hz_r (.istore_n 1) 1, hz_r (.aload_n 0) 1, hz_m (.getfield 10) 3 [11, 0] [], hz_n, hz_n],
  [hz_r (.iconst 0) 1, hz_m (.putfield 99) 3 [7, 1] [], hz_n, hz_n, hz_r (.iload_n 1) 1, hz_r (.iconst (-1)) 1, hz_r (.if_icmp .ne 7) 3, hz_n, hz_n, hz_m (.iconst 0) 1 [] [false, false], hz_r (.goto 6) 3, hz_n, hz_n, hz_m (.iconst (-1)) 1 [] [false, true], hz_r (.iload_n 1) 1, hz_r (.isub) 1],
  [hz_m (.ireturn) 1 [] [false, false]]]
/-- HeavierServes.habit(I)I -/
def hs_k107 : hs_K := [
  [hz_m (.aload_n 0) 1 [] [true, true, false], hz_m (.getfield 26) 3 [11, 2] [], hz_n, hz_n, hz_r (.iload_n 1) 1, hz_m (.invokevirtual 127) 3 [65, 2, 1] [], hz_n, hz_n, hz_r (.ifCond .ne 14) 3, hz_n, hz_n, hz_m (.aload_n 0) 1 [] [true, false, false], hz_m (.getfield 10) 3 [11, 0] [], hz_n, hz_n, hz_r (.iconst 0) 1],
  [hz_m (.putfield 99) 3 [7, 1] [], hz_n, hz_n, hz_r (.bipush (-100)) 2, hz_n, hz_r (.ireturn) 1, hz_m (.aload_n 0) 1 [] [true, true, false], hz_m (.getfield 26) 3 [11, 2] [], hz_n, hz_n, hz_r (.aload_n 0) 1, hz_m (.getfield 10) 3 [11, 0] [], hz_n, hz_n, hz_r (.iload_n 1) 1, hz_m (.invokevirtual 130) 3 [74, 3, 1] []],
  [hz_n, hz_n, hz_r (.istore_n 2) 1, hz_r (.aload_n 0) 1, hz_m (.getfield 10) 3 [11, 0] [], hz_n, hz_n, hz_r (.iconst 0) 1, hz_m (.putfield 99) 3 [7, 1] [], hz_n, hz_n, hz_r (.iload_n 2) 1, hz_r (.iconst (-1)) 1, hz_r (.if_icmp .ne 15) 3, hz_n, hz_n],
  [hz_m (.aload_n 0) 1 [] [true, true, false], hz_m (.getfield 26) 3 [11, 2] [], hz_n, hz_n, hz_m (.getfield 134) 3 [8, 2] [], hz_n, hz_n, hz_r (.iload_n 1) 1, hz_r (.iaload) 1, hz_r (.goto 6) 3, hz_n, hz_n, hz_m (.iconst (-1)) 1 [] [false, false, true], hz_r (.iload_n 2) 1, hz_r (.isub) 1, hz_m (.ireturn) 1 [] [false, false, false]]]
/-- HeavierServes.of(II)I -/
def hs_k108 : hs_K := [
  [hz_r (.aload_n 0) 1, hz_m (.getfield 26) 3 [11, 2] [], hz_n, hz_n, hz_r (.iload_n 1) 1, hz_m (.invokevirtual 127) 3 [65, 2, 1] [], hz_n, hz_n, hz_r (.ifCond .ne 11) 3, hz_n, hz_n, hz_m (.new 138) 3 [] [false, false, false], hz_n, hz_n, hz_r (.dup) 1, hz_r (.invokespecial 140) 3],
  [hz_n, hz_n, hz_r (.athrow) 1, hz_r (.iload_n 2) 1, hz_r (.tableswitch 149 0 7 #[48, 58, 68, 78, 95, 105, 122, 139]) 48, hz_n, hz_n, hz_n, hz_n, hz_n, hz_n, hz_n, hz_n, hz_n, hz_n, hz_n],
  [hz_n, hz_n, hz_n, hz_n, hz_n, hz_n, hz_n, hz_n, hz_n, hz_n, hz_n, hz_n, hz_n, hz_n, hz_n, hz_n],
  [hz_n, hz_n, hz_n, hz_n, hz_n, hz_n, hz_n, hz_n, hz_n, hz_n, hz_n, hz_n, hz_n, hz_n, hz_n, hz_n],
  [hz_n, hz_n, hz_n, hz_n, hz_m (.aload_n 0) 1 [] [true, true, false], hz_m (.getfield 47) 3 [11, 5] [], hz_n, hz_n, hz_m (.getfield 141) 3 [6, 7] [], hz_n, hz_n, hz_r (.iload_n 1) 1, hz_r (.iaload) 1, hz_r (.ireturn) 1, hz_m (.aload_n 0) 1 [] [true, true, false], hz_m (.getfield 26) 3 [11, 2] []],
  [hz_n, hz_n, hz_m (.getfield 144) 3 [8, 0] [], hz_n, hz_n, hz_r (.iload_n 1) 1, hz_r (.iaload) 1, hz_r (.ireturn) 1, hz_m (.aload_n 0) 1 [] [true, true, false], hz_m (.getfield 26) 3 [11, 2] [], hz_n, hz_n, hz_m (.getfield 147) 3 [8, 1] [], hz_n, hz_n, hz_r (.iload_n 1) 1],
  [hz_r (.iaload) 1, hz_r (.ireturn) 1, hz_m (.aload_n 0) 1 [] [true, true, false], hz_m (.getfield 47) 3 [11, 5] [], hz_n, hz_n, hz_r (.iload_n 1) 1, hz_m (.invokevirtual 150) 3 [55, 2, 1] [], hz_n, hz_n, hz_r (.ifCond .eq 7) 3, hz_n, hz_n, hz_m (.iconst 1) 1 [] [false, false, false], hz_r (.goto 4) 3, hz_n],
  [hz_n, hz_m (.iconst 0) 1 [] [false, false, false], hz_m (.ireturn) 1 [] [false, false, false], hz_m (.aload_n 0) 1 [] [true, true, false], hz_m (.getfield 47) 3 [11, 5] [], hz_n, hz_n, hz_m (.getfield 153) 3 [6, 8] [], hz_n, hz_n, hz_r (.iload_n 1) 1, hz_r (.iaload) 1, hz_r (.ireturn) 1, hz_m (.aload_n 0) 1 [] [true, true, false], hz_m (.getfield 40) 3 [11, 4] [], hz_n],
  [hz_n, hz_r (.aload_n 0) 1, hz_m (.getfield 47) 3 [11, 5] [], hz_n, hz_n, hz_m (.getfield 141) 3 [6, 7] [], hz_n, hz_n, hz_r (.iload_n 1) 1, hz_r (.iaload) 1, hz_m (.invokevirtual 156) 3 [47, 2, 1] [], hz_n, hz_n, hz_r (.ireturn) 1, hz_m (.aload_n 0) 1 [] [true, true, false], hz_m (.getfield 33) 3 [11, 3] []],
  [hz_n, hz_n, hz_r (.aload_n 0) 1, hz_m (.getfield 47) 3 [11, 5] [], hz_n, hz_n, hz_r (.aload_n 0) 1, hz_m (.getfield 26) 3 [11, 2] [], hz_n, hz_n, hz_r (.iload_n 1) 1, hz_m (.invokevirtual 159) 3 [100, 4, 1] [], hz_n, hz_n, hz_r (.ireturn) 1, hz_m (.aload_n 0) 1 [] [true, true, false]],
  [hz_m (.getfield 26) 3 [11, 2] [], hz_n, hz_n, hz_m (.getfield 134) 3 [8, 2] [], hz_n, hz_n, hz_r (.iload_n 1) 1, hz_r (.iaload) 1, hz_r (.ireturn) 1, hz_m (.new 138) 3 [] [false, false, false], hz_n, hz_n, hz_r (.dup) 1, hz_r (.invokespecial 140) 3, hz_n, hz_n],
  [hz_r (.athrow) 1]]
/-- HeavierServes.change(II)I -/
def hs_k109 : hs_K := [
  [hz_r (.aload_n 0) 1, hz_m (.getfield 26) 3 [11, 2] [], hz_n, hz_n, hz_r (.iload_n 1) 1, hz_m (.invokevirtual 127) 3 [65, 2, 1] [], hz_n, hz_n, hz_r (.ifCond .eq 20) 3, hz_n, hz_n, hz_r (.iload_n 2) 1, hz_r (.ifCond .lt 16) 3, hz_n, hz_n, hz_r (.iload_n 2) 1],
  [hz_r (.aload_n 0) 1, hz_m (.getfield 26) 3 [11, 2] [], hz_n, hz_n, hz_m (.getfield 134) 3 [8, 2] [], hz_n, hz_n, hz_r (.iload_n 1) 1, hz_r (.iaload) 1, hz_r (.if_icmp .lt 11) 3, hz_n, hz_n, hz_m (.new 138) 3 [] [false, false, false], hz_n, hz_n, hz_r (.dup) 1],
  [hz_r (.invokespecial 140) 3, hz_n, hz_n, hz_r (.athrow) 1, hz_r (.aload_n 0) 1, hz_m (.getfield 26) 3 [11, 2] [], hz_n, hz_n, hz_r (.iload_n 1) 1, hz_r (.iload_n 2) 1, hz_m (.invokevirtual 163) 3 [69, 3, 1] [], hz_n, hz_n, hz_r (.ireturn) 1]]
/-- HeavierServes.set(III)I -/
def hs_k110 : hs_K := [
  [hz_r (.aload_n 0) 1, hz_m (.getfield 26) 3 [11, 2] [], hz_n, hz_n, hz_r (.iload_n 2) 1, hz_m (.invokevirtual 127) 3 [65, 2, 1] [], hz_n, hz_n, hz_r (.ifCond .eq 7) 3, hz_n, hz_n, hz_r (.iload_n 3) 1, hz_r (.ifCond .ge 5) 3, hz_n, hz_n, hz_m (.iconst (-1)) 1 [] [false, false, false, false]],
  [hz_r (.ireturn) 1, hz_r (.iload_n 1) 1, hz_r (.ifCond .ne 28) 3, hz_n, hz_n, hz_r (.iload_n 3) 1, hz_r (.iconst 1) 1, hz_r (.if_icmp .lt 23) 3, hz_n, hz_n, hz_r (.iload_n 3) 1, hz_r (.sipush 999) 3, hz_n, hz_n, hz_r (.if_icmp .gt 16) 3, hz_n],
  [hz_n, hz_m (.aload_n 0) 1 [] [true, false, true, true], hz_m (.getfield 47) 3 [11, 5] [], hz_n, hz_n, hz_m (.getfield 141) 3 [6, 7] [], hz_n, hz_n, hz_r (.iload_n 2) 1, hz_r (.iload_n 3) 1, hz_m (.invokestatic 167) 3 [154, 3, 1] [], hz_n, hz_n, hz_r (.ireturn) 1, hz_r (.iload_n 1) 1, hz_r (.iconst 1) 1],
  [hz_r (.if_icmp .ne 21) 3, hz_n, hz_n, hz_r (.iload_n 3) 1, hz_r (.iconst 4) 1, hz_r (.if_icmp .ge 16) 3, hz_n, hz_n, hz_m (.aload_n 0) 1 [] [true, false, true, true], hz_m (.getfield 26) 3 [11, 2] [], hz_n, hz_n, hz_m (.getfield 144) 3 [8, 0] [], hz_n, hz_n, hz_r (.iload_n 2) 1],
  [hz_r (.iload_n 3) 1, hz_m (.invokestatic 167) 3 [154, 3, 1] [], hz_n, hz_n, hz_r (.ireturn) 1, hz_r (.iload_n 1) 1, hz_r (.iconst 2) 1, hz_r (.if_icmp .ne 22) 3, hz_n, hz_n, hz_m (.iload_n 3) 1 [] [true, false, true, true], hz_r (.bipush 9) 2, hz_n, hz_r (.if_icmp .gt 16) 3, hz_n, hz_n],
  [hz_m (.aload_n 0) 1 [] [true, false, true, true], hz_m (.getfield 26) 3 [11, 2] [], hz_n, hz_n, hz_m (.getfield 147) 3 [8, 1] [], hz_n, hz_n, hz_r (.iload_n 2) 1, hz_r (.iload_n 3) 1, hz_m (.invokestatic 167) 3 [154, 3, 1] [], hz_n, hz_n, hz_r (.ireturn) 1, hz_m (.iconst (-1)) 1 [] [false, false, false, false], hz_r (.ireturn) 1]]
/-- HeavierServes.scale(II)Z -/
def hs_k111 : hs_K := [
  [hz_r (.iload_n 1) 1, hz_r (.ifCond .ne 24) 3, hz_n, hz_n, hz_r (.iload_n 2) 1, hz_r (.iconst 1) 1, hz_r (.if_icmp .lt 19) 3, hz_n, hz_n, hz_r (.iload_n 2) 1, hz_r (.bipush 9) 2, hz_n, hz_r (.if_icmp .gt 13) 3, hz_n, hz_n, hz_m (.aload_n 0) 1 [] [true, false, true]],
  [hz_m (.getfield 40) 3 [11, 4] [], hz_n, hz_n, hz_r (.iload_n 2) 1, hz_m (.putfield 171) 3 [5, 0] [], hz_n, hz_n, hz_r (.iconst 1) 1, hz_r (.ireturn) 1, hz_r (.iload_n 1) 1, hz_r (.iconst 1) 1, hz_r (.if_icmp .ne 25) 3, hz_n, hz_n, hz_m (.iload_n 2) 1 [] [true, false, true], hz_r (.bipush (-9)) 2],
  [hz_n, hz_r (.if_icmp .lt 19) 3, hz_n, hz_n, hz_m (.iload_n 2) 1 [] [true, false, true], hz_r (.bipush 9) 2, hz_n, hz_r (.if_icmp .gt 13) 3, hz_n, hz_n, hz_m (.aload_n 0) 1 [] [true, false, true], hz_m (.getfield 40) 3 [11, 4] [], hz_n, hz_n, hz_r (.iload_n 2) 1, hz_m (.putfield 174) 3 [5, 1] []],
  [hz_n, hz_n, hz_r (.iconst 1) 1, hz_r (.ireturn) 1, hz_m (.iconst 0) 1 [] [false, false, false], hz_r (.ireturn) 1]]
/-- HeavierServes.sheet(IIII)I -/
def hs_k112 : hs_K := [
  [hz_m (.iload_n 1) 1 [] [true, true, true, true, true, false, false, false, false], hz_r (.ifCond .lt 14) 3, hz_n, hz_n, hz_m (.iload_n 1) 1 [] [true, true, true, true, true, false, false, false, false], hz_r (.iconst 3) 1, hz_r (.if_icmp .gt 9) 3, hz_n, hz_n, hz_m (.iload_n 2) 1 [] [true, true, true, true, true, false, false, false, false], hz_r (.bipush 8) 2, hz_n, hz_r (.if_icmp .le 5) 3, hz_n, hz_n, hz_m (.iconst (-1)) 1 [] [false, false, false, false, false, false, false, false, false]],
  [hz_r (.ireturn) 1, hz_m (.iload_n 1) 1 [] [true, true, true, true, true, false, false, false, false], hz_r (.iconst 3) 1, hz_r (.if_icmp .eq 10) 3, hz_n, hz_n, hz_m (.iload_n 2) 1 [] [true, true, true, true, true, false, false, false, false], hz_r (.ifCond .ge 6) 3, hz_n, hz_n, hz_m (.bipush (-2)) 2 [] [false, false, false, false, false, false, false, false, false], hz_n, hz_r (.ireturn) 1, hz_m (.iload_n 1) 1 [] [true, true, true, true, true, false, false, false, false], hz_r (.iconst 3) 1, hz_r (.if_icmp .ne 7) 3],
  [hz_n, hz_n, hz_m (.iconst 0) 1 [] [true, true, false, true, true, false, false, false, false], hz_r (.goto 4) 3, hz_n, hz_n, hz_m (.iload_n 2) 1 [] [true, true, true, true, true, false, false, false, false], hz_m (.istore 5) 2 [] [true, true, false, true, true, false, false, false, false], hz_n, hz_r (.iconst 0) 1, hz_r (.istore 6) 2, hz_n, hz_r (.iconst 0) 1, hz_r (.istore 7) 2, hz_n, hz_m (.iload 7) 2 [] [true, true, false, true, true, true, true, true, false]],
  [hz_n, hz_r (.aload_n 0) 1, hz_m (.getfield 26) 3 [11, 2] [], hz_n, hz_n, hz_m (.getfield 110) 3 [8, 9] [], hz_n, hz_n, hz_r (.if_icmp .ge 59) 3, hz_n, hz_n, hz_m (.iload 7) 2 [] [true, true, false, true, true, true, true, true, false], hz_n, hz_r (.iload 5) 2, hz_n, hz_r (.if_icmp .ge 17) 3],
  [hz_n, hz_n, hz_m (.iload_n 1) 1 [] [true, true, false, true, true, true, true, true, false], hz_r (.iload_n 3) 1, hz_r (.iload 7) 2, hz_n, hz_r (.iload 4) 2, hz_n, hz_r (.imul) 1, hz_r (.iadd) 1, hz_m (.invokestatic 177) 3 [156, 2, 1] [], hz_n, hz_n, hz_r (.goto 4) 3, hz_n, hz_n],
  [hz_m (.iconst 1) 1 [] [true, true, false, true, true, true, true, true, false], hz_m (.istore 8) 2 [] [true, true, false, true, true, true, true, true, false], hz_n, hz_r (.aload_n 0) 1, hz_m (.getfield 47) 3 [11, 5] [], hz_n, hz_n, hz_r (.iload 7) 2, hz_n, hz_r (.iload 8) 2, hz_n, hz_m (.invokevirtual 180) 3 [56, 3, 0] [], hz_n, hz_n, hz_r (.iload 6) 2, hz_n],
  [hz_r (.aload_n 0) 1, hz_m (.getfield 47) 3 [11, 5] [], hz_n, hz_n, hz_m (.getfield 141) 3 [6, 7] [], hz_n, hz_n, hz_r (.iload 7) 2, hz_n, hz_r (.iaload) 1, hz_r (.iadd) 1, hz_r (.istore 6) 2, hz_n, hz_r (.iinc 7 1) 3, hz_n, hz_n],
  [hz_r (.goto (-65)) 3, hz_n, hz_n, hz_m (.iload_n 1) 1 [] [false, true, false, false, false, false, true, false, false], hz_r (.iconst 3) 1, hz_r (.if_icmp .ne 8) 3, hz_n, hz_n, hz_m (.bipush (-3)) 2 [] [false, false, false, false, false, false, false, false, false], hz_n, hz_r (.goto 5) 3, hz_n, hz_n, hz_m (.iload 6) 2 [] [false, false, false, false, false, false, true, false, false], hz_n, hz_m (.ireturn) 1 [] [false, false, false, false, false, false, false, false, false]]]
/-- HeavierServes.stand(I)I -/
def hs_k113 : hs_K := [
  [hz_m (.iload_n 1) 1 [] [true, true, false], hz_r (.aload_n 0) 1, hz_m (.getfield 26) 3 [11, 2] [], hz_n, hz_n, hz_m (.invokevirtual 183) 3 [66, 1, 1] [], hz_n, hz_n, hz_r (.iconst (-1)) 1, hz_r (.ixor) 1, hz_r (.iand) 1, hz_r (.ifCond .eq 6) 3, hz_n, hz_n, hz_m (.bipush (-2)) 2 [] [false, false, false], hz_n],
  [hz_r (.ireturn) 1, hz_m (.aload_n 0) 1 [] [true, true, false], hz_m (.getfield 54) 3 [11, 6] [], hz_n, hz_n, hz_r (.aload_n 0) 1, hz_m (.getfield 47) 3 [11, 5] [], hz_n, hz_n, hz_m (.invokevirtual 187) 3 [37, 2, 0] [], hz_n, hz_n, hz_r (.aload_n 0) 1, hz_r (.iload_n 1) 1, hz_r (.iconst 0) 1, hz_m (.invokevirtual 191) 3 [158, 3, 1] []],
  [hz_n, hz_n, hz_r (.istore_n 2) 1, hz_r (.aload_n 0) 1, hz_m (.getfield 19) 3 [11, 1] [], hz_n, hz_n, hz_r (.iload_n 2) 1, hz_r (.iconst (-1)) 1, hz_r (.if_icmp .ne 7) 3, hz_n, hz_n, hz_m (.lconst 0) 1 [] [true, false, true], hz_r (.goto 4) 3, hz_n, hz_n],
  [hz_m (.lconst 1) 1 [] [true, false, true], hz_m (.invokevirtual 194) 3 [42, 2, 0] [true, false, true], hz_n, hz_n, hz_r (.aload_n 0) 1, hz_m (.getfield 19) 3 [11, 1] [], hz_n, hz_n, hz_r (.iload_n 2) 1, hz_r (.iconst 0) 1, hz_m (.invokestatic 198) 3 [2, 2, 1] [], hz_n, hz_n, hz_r (.i2l) 1, hz_m (.invokevirtual 203) 3 [43, 2, 0] [], hz_n],
  [hz_n, hz_r (.aload_n 0) 1, hz_m (.getfield 47) 3 [11, 5] [], hz_n, hz_n, hz_m (.getfield 206) 3 [6, 1] [], hz_n, hz_n, hz_r (.ireturn) 1]]
/-- HeavierServes.weeks(I)I -/
def hs_k114 : hs_K := [
  [hz_m (.iload_n 1) 1 [] [true, true, false, false, false, false], hz_r (.ifCond .lt 9) 3, hz_n, hz_n, hz_m (.iload_n 1) 1 [] [true, true, false, false, false, false], hz_r (.bipush 99) 2, hz_n, hz_r (.if_icmp .le 5) 3, hz_n, hz_n, hz_m (.iconst (-1)) 1 [] [false, false, false, false, false, false], hz_r (.ireturn) 1, hz_m (.iload_n 1) 1 [] [true, true, false, false, false, false], hz_r (.ifCond .le 14) 3, hz_n, hz_n],
  [hz_m (.aload_n 0) 1 [] [true, true, false, false, false, false], hz_m (.getfield 54) 3 [11, 6] [], hz_n, hz_n, hz_r (.aload_n 0) 1, hz_m (.getfield 47) 3 [11, 5] [], hz_n, hz_n, hz_m (.invokevirtual 187) 3 [37, 2, 0] [], hz_n, hz_n, hz_m (.iconst 0) 1 [] [true, true, false, false, false, false], hz_r (.istore_n 2) 1, hz_r (.iconst 0) 1, hz_r (.istore_n 3) 1, hz_r (.iconst 0) 1],
  [hz_r (.istore 4) 2, hz_n, hz_m (.iload 4) 2 [] [true, true, true, true, true, false], hz_n, hz_r (.iload_n 1) 1, hz_r (.if_icmp .ge 33) 3, hz_n, hz_n, hz_m (.aload_n 0) 1 [] [true, true, true, true, true, false], hz_r (.iconst 0) 1, hz_r (.sipush 255) 3, hz_n, hz_n, hz_m (.invokevirtual 191) 3 [158, 3, 1] [], hz_n, hz_n],
  [hz_r (.istore 5) 2, hz_n, hz_r (.iload 5) 2, hz_n, hz_r (.iconst (-1)) 1, hz_r (.if_icmp .eq 11) 3, hz_n, hz_n, hz_r (.iinc 2 1) 3, hz_n, hz_n, hz_r (.iload_n 3) 1, hz_r (.iload 5) 2, hz_n, hz_r (.iadd) 1, hz_r (.istore_n 3) 1],
  [hz_m (.iinc 4 1) 3 [] [true, true, true, true, true, false], hz_n, hz_n, hz_r (.goto (-33)) 3, hz_n, hz_n, hz_m (.aload_n 0) 1 [] [true, false, true, true, false, false], hz_m (.getfield 19) 3 [11, 1] [], hz_n, hz_n, hz_r (.aload_n 0) 1, hz_m (.getfield 47) 3 [11, 5] [], hz_n, hz_n, hz_m (.getfield 206) 3 [6, 1] [], hz_n],
  [hz_n, hz_r (.i2l) 1, hz_m (.invokevirtual 194) 3 [42, 2, 0] [], hz_n, hz_n, hz_r (.aload_n 0) 1, hz_m (.getfield 19) 3 [11, 1] [], hz_n, hz_n, hz_r (.iload_n 3) 1, hz_r (.i2l) 1, hz_m (.invokevirtual 203) 3 [43, 2, 0] [], hz_n, hz_n, hz_r (.iload_n 2) 1, hz_r (.ireturn) 1]]
/-- HeavierServes.year()I -/
def hs_k115 : hs_K := [
  [hz_m (.aload_n 0) 1 [] [true, false, false], hz_m (.getfield 10) 3 [11, 0] [], hz_n, hz_n, hz_r (.bipush 60) 2, hz_n, hz_m (.invokevirtual 209) 3 [62, 2, 0] [], hz_n, hz_n, hz_r (.aload_n 0) 1, hz_m (.invokevirtual 212) 3 [159, 1, 1] [], hz_n, hz_n, hz_r (.istore_n 1) 1, hz_r (.iload_n 1) 1, hz_r (.iconst (-1)) 1],
  [hz_r (.if_icmp .ne 10) 3, hz_n, hz_n, hz_m (.aload_n 0) 1 [] [true, false, false], hz_m (.invokevirtual 215) 3 [160, 1, 1] [], hz_n, hz_n, hz_r (.goto 6) 3, hz_n, hz_n, hz_m (.iconst (-1)) 1 [] [true, true, false], hz_r (.iload_n 1) 1, hz_r (.isub) 1, hz_m (.istore_n 2) 1 [] [true, false, false], hz_r (.aload_n 0) 1, hz_m (.getfield 10) 3 [11, 0] []],
  [hz_n, hz_n, hz_r (.iconst 0) 1, hz_m (.putfield 99) 3 [7, 1] [], hz_n, hz_n, hz_r (.iload_n 2) 1, hz_r (.ireturn) 1]]
/-- HeavierServes.law()I -/
def hs_k116 : hs_K := [
  [hz_r (.aload_n 0) 1, hz_m (.getfield 47) 3 [11, 5] [], hz_n, hz_n, hz_m (.getfield 206) 3 [6, 1] [], hz_n, hz_n, hz_r (.iconst (-1)) 1, hz_r (.if_icmp .ne 6) 3, hz_n, hz_n, hz_m (.bipush (-2)) 2 [] [false], hz_n, hz_r (.ireturn) 1, hz_r (.aload_n 0) 1, hz_m (.getfield 47) 3 [11, 5] []],
  [hz_n, hz_n, hz_m (.getfield 218) 3 [6, 6] [], hz_n, hz_n, hz_r (.bipush 12) 2, hz_n, hz_r (.if_icmp .lt 6) 3, hz_n, hz_n, hz_m (.bipush (-3)) 2 [] [false], hz_n, hz_r (.ireturn) 1, hz_r (.aload_n 0) 1, hz_m (.getfield 54) 3 [11, 6] [], hz_n],
  [hz_n, hz_r (.aload_n 0) 1, hz_m (.getfield 47) 3 [11, 5] [], hz_n, hz_n, hz_m (.invokevirtual 187) 3 [37, 2, 0] [], hz_n, hz_n, hz_r (.aload_n 0) 1, hz_m (.getfield 47) 3 [11, 5] [], hz_n, hz_n, hz_m (.invokevirtual 221) 3 [57, 1, 1] [], hz_n, hz_n, hz_r (.ireturn) 1]]
/-- HeavierServes.laws(II)I -/
def hs_k117 : hs_K := [
  [hz_r (.iload_n 1) 1, hz_r (.ifCond .lt 14) 3, hz_n, hz_n, hz_r (.iload_n 1) 1, hz_r (.aload_n 0) 1, hz_m (.getfield 47) 3 [11, 5] [], hz_n, hz_n, hz_m (.getfield 218) 3 [6, 6] [], hz_n, hz_n, hz_r (.if_icmp .lt 11) 3, hz_n, hz_n, hz_m (.new 138) 3 [] [false, false, false]],
  [hz_n, hz_n, hz_r (.dup) 1, hz_r (.invokespecial 140) 3, hz_n, hz_n, hz_r (.athrow) 1, hz_r (.iload_n 2) 1, hz_r (.tableswitch 74 0 3 #[32, 42, 52, 64]) 32, hz_n, hz_n, hz_n, hz_n, hz_n, hz_n, hz_n],
  [hz_n, hz_n, hz_n, hz_n, hz_n, hz_n, hz_n, hz_n, hz_n, hz_n, hz_n, hz_n, hz_n, hz_n, hz_n, hz_n],
  [hz_n, hz_n, hz_n, hz_n, hz_n, hz_n, hz_n, hz_n, hz_m (.aload_n 0) 1 [] [true, true, false], hz_m (.getfield 47) 3 [11, 5] [], hz_n, hz_n, hz_m (.getfield 224) 3 [6, 9] [], hz_n, hz_n, hz_r (.iload_n 1) 1],
  [hz_r (.iaload) 1, hz_r (.ireturn) 1, hz_m (.aload_n 0) 1 [] [true, true, false], hz_m (.getfield 47) 3 [11, 5] [], hz_n, hz_n, hz_m (.getfield 227) 3 [6, 10] [], hz_n, hz_n, hz_r (.iload_n 1) 1, hz_r (.iaload) 1, hz_r (.ireturn) 1, hz_m (.aload_n 0) 1 [] [true, true, false], hz_m (.getfield 47) 3 [11, 5] [], hz_n, hz_n],
  [hz_m (.getfield 230) 3 [6, 4] [], hz_n, hz_n, hz_r (.iload_n 1) 1, hz_r (.ishr) 1, hz_r (.iconst 1) 1, hz_r (.iand) 1, hz_r (.ireturn) 1, hz_m (.aload_n 0) 1 [] [true, true, false], hz_m (.getfield 47) 3 [11, 5] [], hz_n, hz_n, hz_m (.getfield 233) 3 [6, 11] [], hz_n, hz_n, hz_r (.iload_n 1) 1],
  [hz_r (.iaload) 1, hz_r (.ireturn) 1, hz_m (.new 138) 3 [] [false, false, false], hz_n, hz_n, hz_r (.dup) 1, hz_r (.invokespecial 140) 3, hz_n, hz_n, hz_r (.athrow) 1]]
/-- HeavierServes.feed(II)I -/
def hs_k118 : hs_K := [
  [hz_r (.aload_n 0) 1, hz_r (.iload_n 1) 1, hz_r (.iload_n 2) 1, hz_r (.iconst 1) 1, hz_m (.invokevirtual 236) 3 [157, 4, 1] [], hz_n, hz_n, hz_r (.ireturn) 1]]
/-- HeavierServes.fast(II)I -/
def hs_k119 : hs_K := [
  [hz_r (.aload_n 0) 1, hz_r (.iload_n 1) 1, hz_r (.iload_n 2) 1, hz_r (.iconst (-1)) 1, hz_m (.invokevirtual 236) 3 [157, 4, 1] [], hz_n, hz_n, hz_r (.ireturn) 1]]
/-- HeavierServes.dies(I)I -/
def hs_k120 : hs_K := [
  [hz_r (.aload_n 0) 1, hz_r (.iload_n 1) 1, hz_m (.invokevirtual 240) 3 [153, 2, 1] [], hz_n, hz_n, hz_r (.ifCond .ne 5) 3, hz_n, hz_n, hz_m (.iconst (-1)) 1 [] [false, false], hz_r (.ireturn) 1, hz_r (.aload_n 0) 1, hz_m (.getfield 54) 3 [11, 6] [], hz_n, hz_n, hz_r (.aload_n 0) 1, hz_m (.getfield 47) 3 [11, 5] []],
  [hz_n, hz_n, hz_m (.invokevirtual 187) 3 [37, 2, 0] [], hz_n, hz_n, hz_r (.aload_n 0) 1, hz_m (.getfield 47) 3 [11, 5] [], hz_n, hz_n, hz_r (.iload_n 1) 1, hz_m (.invokevirtual 243) 3 [59, 2, 1] [], hz_n, hz_n, hz_r (.ireturn) 1]]
/-- HeavierServes.undo()I -/
def hs_k121 : hs_K := [
  [hz_r (.aload_n 0) 1, hz_m (.getfield 54) 3 [11, 6] [], hz_n, hz_n, hz_r (.aload_n 0) 1, hz_m (.getfield 47) 3 [11, 5] [], hz_n, hz_n, hz_m (.invokevirtual 246) 3 [38, 2, 1] [], hz_n, hz_n, hz_r (.ifCond .eq 13) 3, hz_n, hz_n, hz_r (.aload_n 0) 1, hz_m (.getfield 54) 3 [11, 6] []],
  [hz_n, hz_n, hz_m (.getfield 250) 3 [3, 4] [], hz_n, hz_n, hz_r (.goto 4) 3, hz_n, hz_n, hz_m (.iconst (-1)) 1 [] [false], hz_m (.ireturn) 1 [] [false]]]
/-- HeavierServes.served(I)I -/
def hs_k122 : hs_K := [
  [hz_r (.iload_n 1) 1, hz_r (.ifCond .lt 28) 3, hz_n, hz_n, hz_r (.iload_n 1) 1, hz_r (.aload_n 0) 1, hz_m (.getfield 47) 3 [11, 5] [], hz_n, hz_n, hz_m (.getfield 253) 3 [6, 0] [], hz_n, hz_n, hz_r (.if_icmp .ge 17) 3, hz_n, hz_n, hz_r (.iload_n 1) 1],
  [hz_r (.aload_n 0) 1, hz_m (.getfield 47) 3 [11, 5] [], hz_n, hz_n, hz_m (.getfield 253) 3 [6, 0] [], hz_n, hz_n, hz_r (.bipush 60) 2, hz_n, hz_r (.isub) 1, hz_r (.if_icmp .ge 6) 3, hz_n, hz_n, hz_m (.bipush (-2)) 2 [] [false, false], hz_n, hz_r (.ireturn) 1],
  [hz_r (.aload_n 0) 1, hz_m (.getfield 47) 3 [11, 5] [], hz_n, hz_n, hz_m (.getfield 256) 3 [6, 12] [], hz_n, hz_n, hz_r (.iload_n 1) 1, hz_r (.bipush 60) 2, hz_n, hz_r (.irem) 1, hz_r (.iaload) 1, hz_r (.ireturn) 1]]
/-- HeavierServes.later(II)I -/
def hs_k123 : hs_K := [
  [hz_r (.aload_n 0) 1, hz_r (.iload_n 1) 1, hz_m (.invokevirtual 240) 3 [153, 2, 1] [], hz_n, hz_n, hz_r (.ifCond .eq 13) 3, hz_n, hz_n, hz_r (.iload_n 2) 1, hz_r (.ifCond .lt 9) 3, hz_n, hz_n, hz_r (.iload_n 2) 1, hz_r (.bipush 99) 2, hz_n, hz_r (.if_icmp .le 5) 3],
  [hz_n, hz_n, hz_m (.iconst (-1)) 1 [] [false, false, false], hz_r (.ireturn) 1, hz_r (.aload_n 0) 1, hz_m (.getfield 26) 3 [11, 2] [], hz_n, hz_n, hz_r (.aload_n 0) 1, hz_m (.getfield 47) 3 [11, 5] [], hz_n, hz_n, hz_r (.iload_n 1) 1, hz_r (.iload_n 2) 1, hz_m (.invokevirtual 259) 3 [71, 4, 1] [], hz_n],
  [hz_n, hz_r (.ireturn) 1]]
/-- HeavierServes.then(I)I -/
def hs_k124 : hs_K := [
  [hz_r (.iload_n 1) 1, hz_r (.ifCond .lt 9) 3, hz_n, hz_n, hz_r (.iload_n 1) 1, hz_r (.bipush 99) 2, hz_n, hz_r (.if_icmp .le 8) 3, hz_n, hz_n, hz_m (.bipush (-2)) 2 [] [false, false], hz_n, hz_r (.goto 11) 3, hz_n, hz_n, hz_r (.aload_n 0) 1],
  [hz_m (.getfield 84) 3 [11, 10] [], hz_n, hz_n, hz_r (.iload_n 1) 1, hz_m (.invokevirtual 263) 3 [7, 2, 1] [], hz_n, hz_n, hz_m (.ireturn) 1 [] [false, false]]]
/-- HeavierServes.soonest(I)I -/
def hs_k125 : hs_K := [
  [hz_r (.aload_n 0) 1, hz_m (.getfield 26) 3 [11, 2] [], hz_n, hz_n, hz_r (.iload_n 1) 1, hz_m (.invokevirtual 127) 3 [65, 2, 1] [], hz_n, hz_n, hz_r (.ifCond .ne 5) 3, hz_n, hz_n, hz_m (.iconst (-1)) 1 [] [false, false], hz_r (.ireturn) 1, hz_r (.aload_n 0) 1, hz_m (.getfield 47) 3 [11, 5] [], hz_n],
  [hz_n, hz_m (.getfield 206) 3 [6, 1] [], hz_n, hz_n, hz_r (.iload_n 1) 1, hz_r (.if_icmp .ne 8) 3, hz_n, hz_n, hz_m (.bipush (-3)) 2 [] [false, false], hz_n, hz_r (.goto 11) 3, hz_n, hz_n, hz_r (.aload_n 0) 1, hz_m (.getfield 84) 3 [11, 10] [], hz_n],
  [hz_n, hz_r (.iload_n 1) 1, hz_m (.invokevirtual 266) 3 [8, 2, 1] [], hz_n, hz_n, hz_m (.ireturn) 1 [] [false, false]]]
/-- HeavierServes.ever(I)I -/
def hs_k126 : hs_K := [
  [hz_r (.iload_n 1) 1, hz_r (.ifCond .lt 9) 3, hz_n, hz_n, hz_r (.iload_n 1) 1, hz_r (.bipush 12) 2, hz_n, hz_r (.if_icmp .le 7) 3, hz_n, hz_n, hz_m (.iconst (-1)) 1 [] [false, false], hz_r (.goto 11) 3, hz_n, hz_n, hz_r (.aload_n 0) 1, hz_m (.getfield 84) 3 [11, 10] []],
  [hz_n, hz_n, hz_r (.iload_n 1) 1, hz_m (.invokevirtual 269) 3 [9, 2, 1] [], hz_n, hz_n, hz_m (.ireturn) 1 [] [false, false]]]
/-- HeavierServes.most(II)I -/
def hs_k127 : hs_K := [
  [hz_r (.aload_n 0) 1, hz_r (.iload_n 1) 1, hz_m (.invokevirtual 240) 3 [153, 2, 1] [], hz_n, hz_n, hz_r (.ifCond .eq 13) 3, hz_n, hz_n, hz_r (.iload_n 2) 1, hz_r (.ifCond .lt 9) 3, hz_n, hz_n, hz_r (.iload_n 2) 1, hz_r (.bipush 10) 2, hz_n, hz_r (.if_icmp .le 7) 3],
  [hz_n, hz_n, hz_m (.iconst (-1)) 1 [] [false, false, false], hz_r (.goto 12) 3, hz_n, hz_n, hz_r (.aload_n 0) 1, hz_m (.getfield 84) 3 [11, 10] [], hz_n, hz_n, hz_r (.iload_n 1) 1, hz_r (.iload_n 2) 1, hz_m (.invokevirtual 272) 3 [12, 3, 1] [], hz_n, hz_n, hz_m (.ireturn) 1 [] [false, false, false]]]
/-- HeavierServes.rests(II)I -/
def hs_k128 : hs_K := [
  [hz_r (.iload_n 1) 1, hz_r (.iconst 1) 1, hz_r (.if_icmp .lt 18) 3, hz_n, hz_n, hz_r (.iload_n 1) 1, hz_r (.iconst 4) 1, hz_r (.if_icmp .gt 13) 3, hz_n, hz_n, hz_r (.iload_n 2) 1, hz_r (.ifCond .lt 9) 3, hz_n, hz_n, hz_r (.iload_n 2) 1, hz_r (.bipush 20) 2],
  [hz_n, hz_r (.if_icmp .le 7) 3, hz_n, hz_n, hz_m (.iconst (-1)) 1 [] [false, false, false], hz_r (.goto 12) 3, hz_n, hz_n, hz_r (.aload_n 0) 1, hz_m (.getfield 84) 3 [11, 10] [], hz_n, hz_n, hz_r (.iload_n 1) 1, hz_r (.iload_n 2) 1, hz_m (.invokevirtual 275) 3 [15, 3, 1] [], hz_n],
  [hz_n, hz_m (.ireturn) 1 [] [false, false, false]]]
/-- HeavierServes.party(I)I -/
def hs_k129 : hs_K := [
  [hz_r (.iload_n 1) 1, hz_r (.ifCond .lt 9) 3, hz_n, hz_n, hz_r (.iload_n 1) 1, hz_r (.bipush 99) 2, hz_n, hz_r (.if_icmp .le 8) 3, hz_n, hz_n, hz_m (.bipush (-2)) 2 [] [false, false], hz_n, hz_r (.goto 11) 3, hz_n, hz_n, hz_r (.aload_n 0) 1],
  [hz_m (.getfield 84) 3 [11, 10] [], hz_n, hz_n, hz_r (.iload_n 1) 1, hz_m (.invokevirtual 278) 3 [19, 2, 1] [], hz_n, hz_n, hz_m (.ireturn) 1 [] [false, false]]]
/-- HeavierServes.byTurns(II)I -/
def hs_k130 : hs_K := [
  [hz_r (.iload_n 1) 1, hz_r (.ifCond .lt 18) 3, hz_n, hz_n, hz_r (.iload_n 1) 1, hz_r (.iconst 4) 1, hz_r (.if_icmp .ge 13) 3, hz_n, hz_n, hz_r (.iload_n 2) 1, hz_r (.ifCond .lt 9) 3, hz_n, hz_n, hz_r (.iload_n 2) 1, hz_r (.bipush 99) 2, hz_n],
  [hz_r (.if_icmp .le 7) 3, hz_n, hz_n, hz_m (.iconst (-1)) 1 [] [false, false, false], hz_r (.goto 12) 3, hz_n, hz_n, hz_r (.aload_n 0) 1, hz_m (.getfield 84) 3 [11, 10] [], hz_n, hz_n, hz_r (.iload_n 1) 1, hz_r (.iload_n 2) 1, hz_m (.invokevirtual 281) 3 [21, 3, 1] [], hz_n, hz_n],
  [hz_m (.ireturn) 1 [] [false, false, false]]]
/-- HeavierServes.fool(II)I -/
def hs_k131 : hs_K := [
  [hz_r (.aload_n 0) 1, hz_m (.getfield 26) 3 [11, 2] [], hz_n, hz_n, hz_r (.iload_n 1) 1, hz_m (.invokevirtual 127) 3 [65, 2, 1] [], hz_n, hz_n, hz_r (.ifCond .eq 13) 3, hz_n, hz_n, hz_r (.iload_n 2) 1, hz_r (.ifCond .lt 9) 3, hz_n, hz_n, hz_r (.iload_n 2) 1],
  [hz_r (.bipush 99) 2, hz_n, hz_r (.if_icmp .le 11) 3, hz_n, hz_n, hz_m (.new 138) 3 [] [false, false, false], hz_n, hz_n, hz_r (.dup) 1, hz_r (.invokespecial 140) 3, hz_n, hz_n, hz_r (.athrow) 1, hz_r (.aload_n 0) 1, hz_m (.getfield 84) 3 [11, 10] [], hz_n],
  [hz_n, hz_r (.iload_n 1) 1, hz_r (.iload_n 2) 1, hz_m (.invokevirtual 284) 3 [23, 3, 1] [], hz_n, hz_n, hz_r (.ireturn) 1]]
end
section
/-! ===== the code rows of the methods, 3 ===== -/
/-- HeavierServes.hold(I)I -/
def hs_k132 : hs_K := [
  [hz_r (.iload_n 1) 1, hz_r (.ifCond .lt 9) 3, hz_n, hz_n, hz_r (.iload_n 1) 1, hz_r (.bipush 60) 2, hz_n, hz_r (.if_icmp .le 5) 3, hz_n, hz_n, hz_m (.iconst (-1)) 1 [] [false, false], hz_r (.ireturn) 1, hz_r (.aload_n 0) 1, hz_m (.getfield 47) 3 [11, 5] [], hz_n, hz_n],
  [hz_m (.getfield 206) 3 [6, 1] [], hz_n, hz_n, hz_r (.iconst (-1)) 1, hz_r (.if_icmp .ne 8) 3, hz_n, hz_n, hz_m (.bipush (-3)) 2 [] [false, false], hz_n, hz_r (.goto 18) 3, hz_n, hz_n, hz_r (.aload_n 0) 1, hz_m (.getfield 91) 3 [11, 11] [], hz_n, hz_n],
  [hz_r (.aload_n 0) 1, hz_m (.getfield 47) 3 [11, 5] [], hz_n, hz_n, hz_m (.getfield 206) 3 [6, 1] [], hz_n, hz_n, hz_r (.iload_n 1) 1, hz_m (.invokevirtual 287) 3 [83, 3, 1] [], hz_n, hz_n, hz_m (.ireturn) 1 [] [false, false]]]
/-- HeavierServes.bribe(II)I -/
def hs_k133 : hs_K := [
  [hz_r (.aload_n 0) 1, hz_r (.iload_n 1) 1, hz_m (.invokevirtual 240) 3 [153, 2, 1] [], hz_n, hz_n, hz_r (.ifCond .eq 14) 3, hz_n, hz_n, hz_r (.iload_n 2) 1, hz_r (.iconst 1) 1, hz_r (.if_icmp .lt 9) 3, hz_n, hz_n, hz_r (.iload_n 2) 1, hz_r (.bipush 60) 2, hz_n],
  [hz_r (.if_icmp .le 7) 3, hz_n, hz_n, hz_m (.iconst (-1)) 1 [] [false, false, false], hz_r (.goto 12) 3, hz_n, hz_n, hz_r (.aload_n 0) 1, hz_m (.getfield 91) 3 [11, 11] [], hz_n, hz_n, hz_r (.iload_n 1) 1, hz_r (.iload_n 2) 1, hz_m (.invokevirtual 290) 3 [84, 3, 1] [], hz_n, hz_n],
  [hz_m (.ireturn) 1 [] [false, false, false]]]
/-- HeavierServes.starve(II)I -/
def hs_k134 : hs_K := [
  [hz_r (.aload_n 0) 1, hz_r (.iload_n 1) 1, hz_m (.invokevirtual 240) 3 [153, 2, 1] [], hz_n, hz_n, hz_r (.ifCond .eq 13) 3, hz_n, hz_n, hz_r (.iload_n 2) 1, hz_r (.ifCond .lt 9) 3, hz_n, hz_n, hz_r (.iload_n 2) 1, hz_r (.bipush 60) 2, hz_n, hz_r (.if_icmp .le 7) 3],
  [hz_n, hz_n, hz_m (.iconst (-1)) 1 [] [false, false, false], hz_r (.goto 12) 3, hz_n, hz_n, hz_r (.aload_n 0) 1, hz_m (.getfield 91) 3 [11, 11] [], hz_n, hz_n, hz_r (.iload_n 1) 1, hz_r (.iload_n 2) 1, hz_m (.invokevirtual 293) 3 [85, 3, 1] [], hz_n, hz_n, hz_m (.ireturn) 1 [] [false, false, false]]]
/-- HeavierServes.cheapest()I -/
def hs_k135 : hs_K := [
  [hz_r (.aload_n 0) 1, hz_m (.getfield 91) 3 [11, 11] [], hz_n, hz_n, hz_m (.invokevirtual 296) 3 [86, 1, 1] [], hz_n, hz_n, hz_r (.ireturn) 1]]
/-- HeavierServes.weighed(II)I -/
def hs_k136 : hs_K := [
  [hz_r (.aload_n 0) 1, hz_m (.getfield 26) 3 [11, 2] [], hz_n, hz_n, hz_r (.iload_n 1) 1, hz_m (.invokevirtual 127) 3 [65, 2, 1] [], hz_n, hz_n, hz_r (.ifCond .eq 14) 3, hz_n, hz_n, hz_r (.iload_n 2) 1, hz_r (.ifCond .lt 10) 3, hz_n, hz_n, hz_r (.iload_n 2) 1],
  [hz_r (.sipush 1010) 3, hz_n, hz_n, hz_r (.if_icmp .le 7) 3, hz_n, hz_n, hz_m (.iconst (-1)) 1 [] [false, false, false], hz_r (.goto 12) 3, hz_n, hz_n, hz_r (.aload_n 0) 1, hz_m (.getfield 63) 3 [11, 7] [], hz_n, hz_n, hz_r (.iload_n 1) 1, hz_r (.iload_n 2) 1],
  [hz_m (.invokevirtual 299) 3 [34, 3, 1] [], hz_n, hz_n, hz_m (.ireturn) 1 [] [false, false, false]]]
/-- HeavierServes.forget()I -/
def hs_k137 : hs_K := [
  [hz_r (.aload_n 0) 1, hz_m (.getfield 63) 3 [11, 7] [], hz_n, hz_n, hz_m (.getfield 301) 3 [2, 2] [], hz_n, hz_n, hz_r (.ifCond .ne 5) 3, hz_n, hz_n, hz_m (.iconst (-1)) 1 [] [false], hz_r (.ireturn) 1, hz_r (.aload_n 0) 1, hz_m (.getfield 63) 3 [11, 7] [], hz_n, hz_n],
  [hz_r (.dup) 1, hz_m (.getfield 301) 3 [2, 2] [], hz_n, hz_n, hz_r (.iconst 1) 1, hz_r (.isub) 1, hz_m (.putfield 301) 3 [2, 2] [], hz_n, hz_n, hz_r (.aload_n 0) 1, hz_m (.getfield 63) 3 [11, 7] [], hz_n, hz_n, hz_m (.getfield 301) 3 [2, 2] [], hz_n, hz_n],
  [hz_r (.ireturn) 1]]
/-- HeavierServes.grains()I -/
def hs_k138 : hs_K := [
  [hz_r (.aload_n 0) 1, hz_m (.getfield 40) 3 [11, 4] [], hz_n, hz_n, hz_r (.aload_n 0) 1, hz_m (.getfield 63) 3 [11, 7] [], hz_n, hz_n, hz_r (.aload_n 0) 1, hz_m (.getfield 26) 3 [11, 2] [], hz_n, hz_n, hz_m (.getfield 110) 3 [8, 9] [], hz_n, hz_n, hz_m (.invokevirtual 304) 3 [49, 3, 1] []],
  [hz_n, hz_n, hz_r (.ireturn) 1]]
/-- HeavierServes.span(I)I -/
def hs_k139 : hs_K := [
  [hz_m (.aload_n 0) 1 [] [true, true, false], hz_m (.getfield 26) 3 [11, 2] [], hz_n, hz_n, hz_r (.iload_n 1) 1, hz_m (.invokevirtual 127) 3 [65, 2, 1] [], hz_n, hz_n, hz_r (.ifCond .ne 5) 3, hz_n, hz_n, hz_m (.iconst (-1)) 1 [] [false, false, false], hz_r (.ireturn) 1, hz_m (.aload_n 0) 1 [] [true, true, false], hz_m (.getfield 40) 3 [11, 4] [], hz_n],
  [hz_n, hz_r (.aload_n 0) 1, hz_m (.getfield 63) 3 [11, 7] [], hz_n, hz_n, hz_r (.iload_n 1) 1, hz_r (.aload_n 0) 1, hz_m (.getfield 40) 3 [11, 4] [], hz_n, hz_n, hz_m (.getfield 171) 3 [5, 0] [], hz_n, hz_n, hz_m (.invokevirtual 308) 3 [50, 4, 1] [], hz_n, hz_n],
  [hz_r (.istore_n 2) 1, hz_r (.aload_n 0) 1, hz_m (.getfield 19) 3 [11, 1] [], hz_n, hz_n, hz_r (.iload_n 2) 1, hz_r (.aload_n 0) 1, hz_m (.getfield 40) 3 [11, 4] [], hz_n, hz_n, hz_m (.getfield 312) 3 [5, 2] [], hz_n, hz_n, hz_r (.aload_n 0) 1, hz_m (.getfield 40) 3 [11, 4] [], hz_n],
  [hz_n, hz_m (.getfield 315) 3 [5, 3] [], hz_n, hz_n, hz_m (.invokevirtual 318) 3 [44, 4, 0] [], hz_n, hz_n, hz_r (.iload_n 2) 1, hz_r (.ireturn) 1]]
/-- HeavierServes.offs()I -/
def hs_k140 : hs_K := [
  [hz_m (.iconst 0) 1 [] [true, false, false, false, false], hz_r (.istore_n 1) 1, hz_r (.iconst 0) 1, hz_r (.istore_n 2) 1, hz_r (.iconst 0) 1, hz_r (.istore_n 3) 1, hz_r (.bipush (-9)) 2, hz_n, hz_r (.istore 4) 2, hz_n, hz_r (.iload 4) 2, hz_n, hz_r (.bipush 9) 2, hz_n, hz_r (.if_icmp .gt 49) 3, hz_n],
  [hz_n, hz_r (.aload_n 0) 1, hz_m (.getfield 40) 3 [11, 4] [], hz_n, hz_n, hz_r (.aload_n 0) 1, hz_m (.getfield 63) 3 [11, 7] [], hz_n, hz_n, hz_r (.aload_n 0) 1, hz_m (.getfield 47) 3 [11, 5] [], hz_n, hz_n, hz_m (.getfield 141) 3 [6, 7] [], hz_n, hz_n],
  [hz_r (.iload 4) 2, hz_n, hz_m (.invokevirtual 322) 3 [48, 4, 1] [], hz_n, hz_n, hz_r (.ifCond .ne 20) 3, hz_n, hz_n, hz_m (.iload_n 1) 1 [] [true, true, true, false, true], hz_r (.ifCond .ne 8) 3, hz_n, hz_n, hz_m (.iload 4) 2 [] [true, true, false, false, true], hz_n, hz_r (.goto 4) 3, hz_n],
  [hz_n, hz_m (.iload_n 2) 1 [] [true, true, true, false, true], hz_m (.istore_n 2) 1 [] [true, true, false, false, true], hz_r (.iload 4) 2, hz_n, hz_r (.istore_n 3) 1, hz_r (.iinc 1 1) 3, hz_n, hz_n, hz_r (.iinc 4 1) 3, hz_n, hz_n, hz_r (.goto (-50)) 3, hz_n, hz_n, hz_m (.aload_n 0) 1 [] [true, true, true, true, false]],
  [hz_m (.getfield 19) 3 [11, 1] [], hz_n, hz_n, hz_r (.iload_n 1) 1, hz_r (.iload_n 2) 1, hz_r (.iload_n 3) 1, hz_m (.invokevirtual 318) 3 [44, 4, 0] [], hz_n, hz_n, hz_r (.iload_n 1) 1, hz_r (.ireturn) 1]]
/-- HeavierServes.cheats()I -/
def hs_k141 : hs_K := [
  [hz_m (.bipush 9) 2 [] [true, false, false, false, false, false], hz_n, hz_r (.istore_n 1) 1, hz_r (.iconst 0) 1, hz_r (.istore_n 2) 1, hz_r (.iconst 0) 1, hz_r (.istore_n 3) 1, hz_r (.bipush (-9)) 2, hz_n, hz_r (.istore 4) 2, hz_n, hz_m (.iload 4) 2 [] [true, true, true, true, true, false], hz_n, hz_r (.bipush 9) 2, hz_n, hz_r (.if_icmp .gt 52) 3],
  [hz_n, hz_n, hz_m (.aload_n 0) 1 [] [true, true, true, true, true, false], hz_m (.getfield 40) 3 [11, 4] [], hz_n, hz_n, hz_r (.aload_n 0) 1, hz_m (.getfield 63) 3 [11, 7] [], hz_n, hz_n, hz_r (.aload_n 0) 1, hz_m (.getfield 47) 3 [11, 5] [], hz_n, hz_n, hz_m (.getfield 141) 3 [6, 7] [], hz_n],
  [hz_n, hz_r (.iload 4) 2, hz_n, hz_m (.invokevirtual 322) 3 [48, 4, 1] [], hz_n, hz_n, hz_r (.istore 5) 2, hz_n, hz_r (.iload 5) 2, hz_n, hz_m (.invokestatic 326) 3 [0, 1, 1] [], hz_n, hz_n, hz_r (.iload_n 1) 1, hz_r (.if_icmp .ge 15) 3, hz_n],
  [hz_n, hz_m (.iload 5) 2 [] [true, false, false, false, true, true], hz_n, hz_m (.invokestatic 326) 3 [0, 1, 1] [], hz_n, hz_n, hz_r (.istore_n 1) 1, hz_r (.iload 5) 2, hz_n, hz_r (.istore_n 2) 1, hz_r (.iload 4) 2, hz_n, hz_r (.istore_n 3) 1, hz_m (.iinc 4 1) 3 [] [true, true, true, true, true, false], hz_n, hz_n],
  [hz_r (.goto (-53)) 3, hz_n, hz_n, hz_m (.aload_n 0) 1 [] [true, true, true, true, false, false], hz_m (.getfield 19) 3 [11, 1] [], hz_n, hz_n, hz_r (.iload_n 2) 1, hz_r (.i2l) 1, hz_m (.invokevirtual 194) 3 [42, 2, 0] [], hz_n, hz_n, hz_r (.aload_n 0) 1, hz_m (.getfield 19) 3 [11, 1] [], hz_n, hz_n],
  [hz_r (.iload_n 3) 1, hz_r (.i2l) 1, hz_m (.invokevirtual 203) 3 [43, 2, 0] [], hz_n, hz_n, hz_r (.iload_n 1) 1, hz_r (.ireturn) 1]]
/-- HeavierServes.told(II)I -/
def hs_k142 : hs_K := [
  [hz_r (.aload_n 0) 1, hz_m (.getfield 26) 3 [11, 2] [], hz_n, hz_n, hz_r (.iload_n 1) 1, hz_m (.invokevirtual 127) 3 [65, 2, 1] [], hz_n, hz_n, hz_r (.ifCond .eq 14) 3, hz_n, hz_n, hz_r (.iload_n 2) 1, hz_r (.iconst 1) 1, hz_r (.if_icmp .lt 9) 3, hz_n, hz_n],
  [hz_r (.iload_n 2) 1, hz_r (.bipush 60) 2, hz_n, hz_r (.if_icmp .le 7) 3, hz_n, hz_n, hz_m (.iconst (-1)) 1 [] [false, false, false], hz_r (.goto 12) 3, hz_n, hz_n, hz_r (.aload_n 0) 1, hz_m (.getfield 67) 3 [11, 8] [], hz_n, hz_n, hz_r (.iload_n 1) 1, hz_r (.iload_n 2) 1],
  [hz_m (.invokevirtual 299) 3 [34, 3, 1] [], hz_n, hz_n, hz_m (.ireturn) 1 [] [false, false, false]]]
/-- HeavierServes.wipe()I -/
def hs_k143 : hs_K := [
  [hz_m (.aload_n 0) 1 [] [true, false], hz_m (.getfield 67) 3 [11, 8] [], hz_n, hz_n, hz_m (.getfield 301) 3 [2, 2] [], hz_n, hz_n, hz_r (.istore_n 1) 1, hz_r (.aload_n 0) 1, hz_m (.getfield 67) 3 [11, 8] [], hz_n, hz_n, hz_r (.iconst 0) 1, hz_m (.putfield 301) 3 [2, 2] [], hz_n, hz_n],
  [hz_r (.iload_n 1) 1, hz_r (.ireturn) 1]]
/-- HeavierServes.explains(I)I -/
def hs_k144 : hs_K := [
  [hz_r (.aload_n 0) 1, hz_r (.iload_n 1) 1, hz_m (.invokevirtual 240) 3 [153, 2, 1] [], hz_n, hz_n, hz_r (.ifCond .eq 18) 3, hz_n, hz_n, hz_r (.aload_n 0) 1, hz_m (.getfield 91) 3 [11, 11] [], hz_n, hz_n, hz_r (.aload_n 0) 1, hz_m (.getfield 67) 3 [11, 8] [], hz_n, hz_n],
  [hz_r (.iload_n 1) 1, hz_m (.invokevirtual 331) 3 [90, 3, 1] [], hz_n, hz_n, hz_r (.goto 4) 3, hz_n, hz_n, hz_m (.iconst (-1)) 1 [] [false, false], hz_m (.ireturn) 1 [] [false, false]]]
/-- HeavierServes.absent()I -/
def hs_k145 : hs_K := [
  [hz_r (.aload_n 0) 1, hz_m (.getfield 91) 3 [11, 11] [], hz_n, hz_n, hz_r (.aload_n 0) 1, hz_m (.getfield 67) 3 [11, 8] [], hz_n, hz_n, hz_m (.invokevirtual 334) 3 [91, 2, 1] [], hz_n, hz_n, hz_r (.ireturn) 1]]
/-- HeavierServes.twin(I)I -/
def hs_k146 : hs_K := [
  [hz_m (.aload_n 0) 1 [] [true, true, false], hz_r (.iload_n 1) 1, hz_m (.invokevirtual 240) 3 [153, 2, 1] [], hz_n, hz_n, hz_r (.ifCond .eq 15) 3, hz_n, hz_n, hz_m (.aload_n 0) 1 [] [true, true, false], hz_m (.getfield 26) 3 [11, 2] [], hz_n, hz_n, hz_m (.getfield 110) 3 [8, 9] [], hz_n, hz_n, hz_r (.bipush 8) 2],
  [hz_n, hz_r (.if_icmp .lt 5) 3, hz_n, hz_n, hz_m (.iconst (-1)) 1 [] [false, false, false], hz_r (.ireturn) 1, hz_m (.aload_n 0) 1 [] [true, true, false], hz_m (.getfield 26) 3 [11, 2] [], hz_n, hz_n, hz_m (.getfield 110) 3 [8, 9] [], hz_n, hz_n, hz_r (.istore_n 2) 1, hz_r (.aload_n 0) 1, hz_m (.getfield 26) 3 [11, 2] []],
  [hz_n, hz_n, hz_r (.iload_n 1) 1, hz_r (.iload_n 2) 1, hz_m (.invokevirtual 338) 3 [72, 3, 0] [], hz_n, hz_n, hz_r (.aload_n 0) 1, hz_m (.getfield 47) 3 [11, 5] [], hz_n, hz_n, hz_r (.iload_n 2) 1, hz_r (.aload_n 0) 1, hz_m (.getfield 47) 3 [11, 5] [], hz_n, hz_n],
  [hz_m (.getfield 141) 3 [6, 7] [], hz_n, hz_n, hz_r (.iload_n 1) 1, hz_r (.iaload) 1, hz_m (.invokevirtual 117) 3 [54, 3, 0] [], hz_n, hz_n, hz_r (.aload_n 0) 1, hz_m (.getfield 26) 3 [11, 2] [], hz_n, hz_n, hz_r (.dup) 1, hz_m (.getfield 110) 3 [8, 9] [], hz_n, hz_n],
  [hz_r (.iconst 1) 1, hz_r (.iadd) 1, hz_m (.putfield 110) 3 [8, 9] [], hz_n, hz_n, hz_r (.aload_n 0) 1, hz_m (.getfield 54) 3 [11, 6] [], hz_n, hz_n, hz_m (.invokevirtual 121) 3 [39, 1, 0] [], hz_n, hz_n, hz_r (.iload_n 2) 1, hz_r (.ireturn) 1]]
/-- HeavierServes.odds(II)I -/
def hs_k147 : hs_K := [
  [hz_r (.aload_n 0) 1, hz_m (.getfield 26) 3 [11, 2] [], hz_n, hz_n, hz_r (.iload_n 1) 1, hz_m (.invokevirtual 127) 3 [65, 2, 1] [], hz_n, hz_n, hz_r (.ifCond .eq 12) 3, hz_n, hz_n, hz_r (.iload_n 2) 1, hz_r (.ifCond .lt 8) 3, hz_n, hz_n, hz_r (.iload_n 2) 1],
  [hz_r (.iconst 2) 1, hz_r (.if_icmp .le 5) 3, hz_n, hz_n, hz_m (.iconst (-1)) 1 [] [false, false, false], hz_r (.ireturn) 1, hz_r (.aload_n 0) 1, hz_m (.getfield 84) 3 [11, 10] [], hz_n, hz_n, hz_r (.iload_n 1) 1, hz_r (.iload_n 2) 1, hz_m (.invokevirtual 341) 3 [24, 3, 0] [], hz_n, hz_n, hz_r (.iconst 0) 1],
  [hz_r (.ireturn) 1]]
/-- HeavierServes.likely()I -/
def hs_k148 : hs_K := [
  [hz_r (.aload_n 0) 1, hz_m (.getfield 84) 3 [11, 10] [], hz_n, hz_n, hz_m (.invokevirtual 344) 3 [26, 1, 1] [], hz_n, hz_n, hz_r (.ireturn) 1]]
/-- HeavierServes.keep(I)Z -/
def hs_k149 : hs_K := [
  [hz_r (.aload_n 0) 1, hz_m (.getfield 54) 3 [11, 6] [], hz_n, hz_n, hz_r (.iload_n 1) 1, hz_r (.aload_n 0) 1, hz_m (.getfield 47) 3 [11, 5] [], hz_n, hz_n, hz_r (.aload_n 0) 1, hz_m (.getfield 26) 3 [11, 2] [], hz_n, hz_n, hz_m (.getfield 110) 3 [8, 9] [], hz_n, hz_n],
  [hz_m (.invokevirtual 347) 3 [40, 4, 1] [], hz_n, hz_n, hz_r (.ireturn) 1]]
/-- HeavierServes.again(I)Z -/
def hs_k150 : hs_K := [
  [hz_r (.aload_n 0) 1, hz_m (.getfield 54) 3 [11, 6] [], hz_n, hz_n, hz_r (.iload_n 1) 1, hz_r (.aload_n 0) 1, hz_m (.getfield 47) 3 [11, 5] [], hz_n, hz_n, hz_r (.aload_n 0) 1, hz_m (.getfield 26) 3 [11, 2] [], hz_n, hz_n, hz_m (.getfield 110) 3 [8, 9] [], hz_n, hz_n],
  [hz_m (.invokevirtual 351) 3 [41, 4, 1] [], hz_n, hz_n, hz_r (.ireturn) 1]]
/-- HeavierServes.count(I)I -/
def hs_k151 : hs_K := [
  [hz_r (.iload_n 1) 1, hz_r (.tableswitch 183 0 13 #[71, 79, 87, 95, 103, 111, 119, 127, 135, 143, 151, 159, 167, 175]) 71, hz_n, hz_n, hz_n, hz_n, hz_n, hz_n, hz_n, hz_n, hz_n, hz_n, hz_n, hz_n, hz_n, hz_n],
  [hz_n, hz_n, hz_n, hz_n, hz_n, hz_n, hz_n, hz_n, hz_n, hz_n, hz_n, hz_n, hz_n, hz_n, hz_n, hz_n],
  [hz_n, hz_n, hz_n, hz_n, hz_n, hz_n, hz_n, hz_n, hz_n, hz_n, hz_n, hz_n, hz_n, hz_n, hz_n, hz_n],
  [hz_n, hz_n, hz_n, hz_n, hz_n, hz_n, hz_n, hz_n, hz_n, hz_n, hz_n, hz_n, hz_n, hz_n, hz_n, hz_n],
  [hz_n, hz_n, hz_n, hz_n, hz_n, hz_n, hz_n, hz_n, hz_m (.aload_n 0) 1 [] [true, false], hz_m (.getfield 26) 3 [11, 2] [], hz_n, hz_n, hz_m (.getfield 110) 3 [8, 9] [], hz_n, hz_n, hz_r (.ireturn) 1],
  [hz_m (.aload_n 0) 1 [] [true, false], hz_m (.getfield 47) 3 [11, 5] [], hz_n, hz_n, hz_m (.getfield 253) 3 [6, 0] [], hz_n, hz_n, hz_r (.ireturn) 1, hz_m (.aload_n 0) 1 [] [true, false], hz_m (.getfield 47) 3 [11, 5] [], hz_n, hz_n, hz_m (.getfield 206) 3 [6, 1] [], hz_n, hz_n, hz_r (.ireturn) 1],
  [hz_m (.aload_n 0) 1 [] [true, false], hz_m (.getfield 47) 3 [11, 5] [], hz_n, hz_n, hz_m (.getfield 354) 3 [6, 2] [], hz_n, hz_n, hz_r (.ireturn) 1, hz_m (.aload_n 0) 1 [] [true, false], hz_m (.getfield 47) 3 [11, 5] [], hz_n, hz_n, hz_m (.getfield 218) 3 [6, 6] [], hz_n, hz_n, hz_r (.ireturn) 1],
  [hz_m (.aload_n 0) 1 [] [true, false], hz_m (.getfield 47) 3 [11, 5] [], hz_n, hz_n, hz_m (.getfield 230) 3 [6, 4] [], hz_n, hz_n, hz_r (.ireturn) 1, hz_m (.aload_n 0) 1 [] [true, false], hz_m (.getfield 47) 3 [11, 5] [], hz_n, hz_n, hz_m (.getfield 357) 3 [6, 3] [], hz_n, hz_n, hz_r (.ireturn) 1],
  [hz_m (.aload_n 0) 1 [] [true, false], hz_m (.getfield 54) 3 [11, 6] [], hz_n, hz_n, hz_m (.getfield 250) 3 [3, 4] [], hz_n, hz_n, hz_r (.ireturn) 1, hz_m (.aload_n 0) 1 [] [true, false], hz_m (.getfield 63) 3 [11, 7] [], hz_n, hz_n, hz_m (.getfield 301) 3 [2, 2] [], hz_n, hz_n, hz_r (.ireturn) 1],
  [hz_m (.aload_n 0) 1 [] [true, false], hz_m (.getfield 67) 3 [11, 8] [], hz_n, hz_n, hz_m (.getfield 301) 3 [2, 2] [], hz_n, hz_n, hz_r (.ireturn) 1, hz_m (.aload_n 0) 1 [] [true, false], hz_m (.getfield 19) 3 [11, 1] [], hz_n, hz_n, hz_m (.getfield 360) 3 [4, 1] [], hz_n, hz_n, hz_r (.ireturn) 1],
  [hz_m (.aload_n 0) 1 [] [true, false], hz_m (.getfield 10) 3 [11, 0] [], hz_n, hz_n, hz_m (.getfield 99) 3 [7, 1] [], hz_n, hz_n, hz_r (.ireturn) 1, hz_m (.aload_n 0) 1 [] [true, false], hz_m (.getfield 40) 3 [11, 4] [], hz_n, hz_n, hz_m (.getfield 171) 3 [5, 0] [], hz_n, hz_n, hz_r (.ireturn) 1],
  [hz_m (.aload_n 0) 1 [] [true, false], hz_m (.getfield 40) 3 [11, 4] [], hz_n, hz_n, hz_m (.getfield 174) 3 [5, 1] [], hz_n, hz_n, hz_r (.ireturn) 1, hz_m (.bipush (-100)) 2 [] [false, false], hz_n, hz_r (.ireturn) 1]]
/-- HeavierServes.row(I)J -/
def hs_k152 : hs_K := [
  [hz_r (.iload_n 1) 1, hz_r (.ifCond .lt 26) 3, hz_n, hz_n, hz_r (.iload_n 1) 1, hz_r (.aload_n 0) 1, hz_m (.getfield 19) 3 [11, 1] [], hz_n, hz_n, hz_m (.getfield 360) 3 [4, 1] [], hz_n, hz_n, hz_r (.if_icmp .ge 15) 3, hz_n, hz_n, hz_r (.iload_n 1) 1],
  [hz_r (.aload_n 0) 1, hz_m (.getfield 19) 3 [11, 1] [], hz_n, hz_n, hz_m (.getfield 361) 3 [4, 0] [], hz_n, hz_n, hz_r (.arraylength) 1, hz_r (.if_icmp .lt 11) 3, hz_n, hz_n, hz_m (.new 138) 3 [] [false, false], hz_n, hz_n, hz_r (.dup) 1, hz_r (.invokespecial 140) 3],
  [hz_n, hz_n, hz_r (.athrow) 1, hz_r (.aload_n 0) 1, hz_m (.getfield 19) 3 [11, 1] [], hz_n, hz_n, hz_m (.getfield 361) 3 [4, 0] [], hz_n, hz_n, hz_r (.iload_n 1) 1, hz_r (.laload) 1, hz_r (.lreturn) 1]]
/-- HeavierServes.isThere(I)Z -/
def hs_k153 : hs_K := [
  [hz_r (.aload_n 0) 1, hz_m (.getfield 26) 3 [11, 2] [], hz_n, hz_n, hz_r (.iload_n 1) 1, hz_m (.invokevirtual 127) 3 [65, 2, 1] [], hz_n, hz_n, hz_r (.ifCond .eq 18) 3, hz_n, hz_n, hz_r (.aload_n 0) 1, hz_m (.getfield 47) 3 [11, 5] [], hz_n, hz_n, hz_r (.iload_n 1) 1],
  [hz_m (.invokevirtual 150) 3 [55, 2, 1] [], hz_n, hz_n, hz_r (.ifCond .eq 7) 3, hz_n, hz_n, hz_m (.iconst 1) 1 [] [false, false], hz_r (.goto 4) 3, hz_n, hz_n, hz_m (.iconst 0) 1 [] [false, false], hz_m (.ireturn) 1 [] [false, false]]]
/-- HeavierServes.exchange([III)I -/
def hs_k154 : hs_K := [
  [hz_m (.iload_n 1) 1 [] [true, true, true, false], hz_r (.ifCond .lt 9) 3, hz_n, hz_n, hz_m (.iload_n 1) 1 [] [true, true, true, false], hz_r (.aload_n 0) 1, hz_r (.arraylength) 1, hz_r (.if_icmp .lt 5) 3, hz_n, hz_n, hz_m (.iconst (-1)) 1 [] [false, false, false, false], hz_r (.ireturn) 1, hz_m (.aload_n 0) 1 [] [true, true, true, false], hz_r (.iload_n 1) 1, hz_r (.iaload) 1, hz_r (.istore_n 3) 1],
  [hz_r (.aload_n 0) 1, hz_r (.iload_n 1) 1, hz_r (.iload_n 2) 1, hz_r (.iastore) 1, hz_r (.iload_n 3) 1, hz_r (.ireturn) 1]]
/-- HeavierServes.inBounds(I)I -/
def hs_k155 : hs_K := [
  [hz_r (.iload_n 0) 1, hz_r (.iconst 1) 1, hz_r (.if_icmp .ge 5) 3, hz_n, hz_n, hz_m (.iconst 1) 1 [] [false], hz_r (.ireturn) 1, hz_r (.iload_n 0) 1, hz_r (.sipush 999) 3, hz_n, hz_n, hz_r (.if_icmp .le 9) 3, hz_n, hz_n, hz_m (.sipush 999) 3 [] [false], hz_n],
  [hz_n, hz_r (.goto 4) 3, hz_n, hz_n, hz_r (.iload_n 0) 1, hz_m (.ireturn) 1 [] [false]]]
/-- HeavierServes.asKind(II)I -/
def hs_k156 : hs_K := [
  [hz_r (.iload_n 0) 1, hz_r (.ifCond .ne 6) 3, hz_n, hz_n, hz_m (.iload_n 1) 1 [] [false, true], hz_r (.i2b) 1, hz_r (.ireturn) 1, hz_r (.iload_n 0) 1, hz_r (.iconst 1) 1, hz_r (.if_icmp .ne 8) 3, hz_n, hz_n, hz_m (.iload_n 1) 1 [] [false, true], hz_r (.i2s) 1, hz_r (.goto 4) 3, hz_n],
  [hz_n, hz_m (.iload_n 1) 1 [] [false, true], hz_m (.ireturn) 1 [] [false, false]]]
/-- HeavierServes.eat(III)I -/
def hs_k157 : hs_K := [
  [hz_r (.aload_n 0) 1, hz_r (.iload_n 1) 1, hz_m (.invokevirtual 240) 3 [153, 2, 1] [], hz_n, hz_n, hz_r (.ifCond .eq 14) 3, hz_n, hz_n, hz_r (.iload_n 2) 1, hz_r (.iconst 1) 1, hz_r (.if_icmp .lt 9) 3, hz_n, hz_n, hz_r (.iload_n 2) 1, hz_r (.bipush 99) 2, hz_n],
  [hz_r (.if_icmp .le 5) 3, hz_n, hz_n, hz_m (.iconst (-1)) 1 [] [false, false, false, false], hz_r (.ireturn) 1, hz_r (.aload_n 0) 1, hz_m (.getfield 54) 3 [11, 6] [], hz_n, hz_n, hz_r (.aload_n 0) 1, hz_m (.getfield 47) 3 [11, 5] [], hz_n, hz_n, hz_m (.invokevirtual 187) 3 [37, 2, 0] [], hz_n, hz_n],
  [hz_r (.aload_n 0) 1, hz_m (.getfield 47) 3 [11, 5] [], hz_n, hz_n, hz_r (.iload_n 1) 1, hz_r (.aload_n 0) 1, hz_m (.getfield 47) 3 [11, 5] [], hz_n, hz_n, hz_m (.getfield 141) 3 [6, 7] [], hz_n, hz_n, hz_r (.iload_n 1) 1, hz_r (.iaload) 1, hz_r (.iload_n 3) 1, hz_r (.iload_n 2) 1],
  [hz_r (.imul) 1, hz_r (.iadd) 1, hz_m (.invokevirtual 180) 3 [56, 3, 0] [], hz_n, hz_n, hz_r (.aload_n 0) 1, hz_m (.getfield 47) 3 [11, 5] [], hz_n, hz_n, hz_m (.getfield 141) 3 [6, 7] [], hz_n, hz_n, hz_r (.iload_n 1) 1, hz_r (.iaload) 1, hz_r (.ireturn) 1]]
/-- HeavierServes.passWeek(II)I -/
def hs_k158 : hs_K := [
  [hz_m (.aload_n 0) 1 [] [true, true, true, false, false], hz_m (.getfield 47) 3 [11, 5] [], hz_n, hz_n, hz_m (.getfield 206) 3 [6, 1] [], hz_n, hz_n, hz_r (.istore_n 3) 1, hz_r (.aload_n 0) 1, hz_m (.getfield 47) 3 [11, 5] [], hz_n, hz_n, hz_m (.getfield 365) 3 [6, 5] [], hz_n, hz_n, hz_r (.istore 4) 2],
  [hz_n, hz_r (.aload_n 0) 1, hz_m (.getfield 75) 3 [11, 9] [], hz_n, hz_n, hz_r (.aload_n 0) 1, hz_m (.getfield 47) 3 [11, 5] [], hz_n, hz_n, hz_r (.iload_n 1) 1, hz_r (.iload_n 2) 1, hz_m (.invokevirtual 368) 3 [27, 4, 0] [], hz_n, hz_n, hz_r (.aload_n 0) 1, hz_m (.getfield 47) 3 [11, 5] []],
  [hz_n, hz_n, hz_m (.getfield 206) 3 [6, 1] [], hz_n, hz_n, hz_r (.iload_n 3) 1, hz_r (.if_icmp .ne 7) 3, hz_n, hz_n, hz_m (.iconst (-1)) 1 [] [false, false, false, false, false], hz_r (.goto 5) 3, hz_n, hz_n, hz_m (.iload 4) 2 [] [false, false, false, false, true], hz_n, hz_m (.ireturn) 1 [] [false, false, false, false, false]]]
/-- HeavierServes.yearFault()I -/
def hs_k159 : hs_K := [
  [hz_m (.iconst 0) 1 [] [true, false, false, false], hz_r (.istore_n 1) 1, hz_r (.iconst 0) 1, hz_r (.istore_n 2) 1, hz_m (.iload_n 2) 1 [] [true, true, true, false], hz_r (.aload_n 0) 1, hz_m (.getfield 10) 3 [11, 0] [], hz_n, hz_n, hz_m (.getfield 372) 3 [7, 2] [], hz_n, hz_n, hz_r (.if_icmp .ge 53) 3, hz_n, hz_n, hz_m (.aload_n 0) 1 [] [true, true, true, false]],
  [hz_m (.getfield 10) 3 [11, 0] [], hz_n, hz_n, hz_r (.iload_n 2) 1, hz_m (.invokevirtual 375) 3 [63, 2, 1] [], hz_n, hz_n, hz_r (.istore_n 3) 1, hz_r (.iload_n 3) 1, hz_r (.bipush 59) 2, hz_n, hz_r (.if_icmp .ne 8) 3, hz_n, hz_n, hz_m (.iconst 0) 1 [] [true, false, true, false], hz_r (.istore_n 1) 1],
  [hz_r (.goto 27) 3, hz_n, hz_n, hz_r (.iload_n 3) 1, hz_r (.bipush 97) 2, hz_n, hz_r (.if_icmp .lt 19) 3, hz_n, hz_n, hz_r (.iload_n 3) 1, hz_r (.bipush 104) 2, hz_n, hz_r (.if_icmp .gt 13) 3, hz_n, hz_n, hz_r (.iload_n 3) 1],
  [hz_r (.iload_n 1) 1, hz_r (.if_icmp .le 8) 3, hz_n, hz_n, hz_m (.iload_n 3) 1 [] [true, false, true, true], hz_r (.istore_n 1) 1, hz_r (.goto 5) 3, hz_n, hz_n, hz_m (.iload_n 2) 1 [] [false, false, true, false], hz_r (.ireturn) 1, hz_m (.iinc 2 1) 3 [] [true, true, true, false], hz_n, hz_n, hz_r (.goto (-58)) 3, hz_n],
  [hz_n, hz_m (.aload_n 0) 1 [] [true, false, false, false], hz_m (.getfield 10) 3 [11, 0] [], hz_n, hz_n, hz_m (.getfield 372) 3 [7, 2] [], hz_n, hz_n, hz_r (.aload_n 0) 1, hz_m (.getfield 10) 3 [11, 0] [], hz_n, hz_n, hz_m (.getfield 99) 3 [7, 1] [], hz_n, hz_n, hz_r (.if_icmp .ge 13) 3],
  [hz_n, hz_n, hz_m (.aload_n 0) 1 [] [true, false, false, false], hz_m (.getfield 10) 3 [11, 0] [], hz_n, hz_n, hz_m (.getfield 372) 3 [7, 2] [], hz_n, hz_n, hz_r (.goto 4) 3, hz_n, hz_n, hz_m (.iconst (-1)) 1 [] [false, false, false, false], hz_m (.ireturn) 1 [] [false, false, false, false]]]
/-- HeavierServes.passYear()I -/
def hs_k160 : hs_K := [
  [hz_m (.iconst 0) 1 [] [true, false, false, false, false, false, false], hz_r (.istore_n 1) 1, hz_r (.iconst 0) 1, hz_r (.istore_n 2) 1, hz_r (.iconst 0) 1, hz_r (.istore_n 3) 1, hz_r (.aload_n 0) 1, hz_m (.getfield 10) 3 [11, 0] [], hz_n, hz_n, hz_m (.getfield 372) 3 [7, 2] [], hz_n, hz_n, hz_r (.ifCond .ne 7) 3, hz_n, hz_n],
  [hz_m (.iconst 0) 1 [] [true, true, true, true, false, false, false], hz_r (.goto 12) 3, hz_n, hz_n, hz_m (.aload_n 0) 1 [] [true, true, true, true, false, false, false], hz_m (.getfield 10) 3 [11, 0] [], hz_n, hz_n, hz_m (.getfield 372) 3 [7, 2] [], hz_n, hz_n, hz_r (.iconst 1) 1, hz_r (.iadd) 1, hz_m (.istore 4) 2 [] [true, true, true, true, false, false, false], hz_n, hz_r (.iconst 0) 1],
  [hz_r (.istore 5) 2, hz_n, hz_m (.iload 5) 2 [] [true, true, true, true, true, true, false], hz_n, hz_r (.iload 4) 2, hz_n, hz_r (.if_icmp .ge 97) 3, hz_n, hz_n, hz_m (.iload_n 3) 1 [] [true, true, true, true, true, true, false], hz_r (.ifCond .ne 93) 3, hz_n, hz_n, hz_m (.aload_n 0) 1 [] [true, true, true, true, true, true, false], hz_m (.getfield 10) 3 [11, 0] [], hz_n],
  [hz_n, hz_r (.iload 5) 2, hz_n, hz_m (.invokevirtual 375) 3 [63, 2, 1] [], hz_n, hz_n, hz_r (.istore 6) 2, hz_n, hz_r (.iload 6) 2, hz_n, hz_r (.bipush 97) 2, hz_n, hz_r (.if_icmp .lt 23) 3, hz_n, hz_n, hz_r (.iload 6) 2],
  [hz_n, hz_r (.bipush 104) 2, hz_n, hz_r (.if_icmp .gt 16) 3, hz_n, hz_n, hz_r (.iload_n 2) 1, hz_r (.iconst 1) 1, hz_r (.iload 6) 2, hz_n, hz_r (.bipush 97) 2, hz_n, hz_r (.isub) 1, hz_r (.ishl) 1, hz_r (.ior) 1, hz_r (.istore_n 2) 1],
  [hz_r (.goto 49) 3, hz_n, hz_n, hz_m (.iload_n 2) 1 [] [true, true, true, true, true, true, false], hz_r (.aload_n 0) 1, hz_m (.getfield 26) 3 [11, 2] [], hz_n, hz_n, hz_m (.invokevirtual 183) 3 [66, 1, 1] [], hz_n, hz_n, hz_r (.iconst (-1)) 1, hz_r (.ixor) 1, hz_r (.iand) 1, hz_r (.ifCond .eq 8) 3, hz_n],
  [hz_n, hz_m (.iconst 1) 1 [] [true, true, true, false, true, true, false], hz_r (.istore_n 3) 1, hz_r (.goto 30) 3, hz_n, hz_n, hz_m (.iload_n 1) 1 [] [true, true, true, true, true, true, false], hz_r (.ifCond .ne 14) 3, hz_n, hz_n, hz_m (.aload_n 0) 1 [] [true, true, true, true, true, true, false], hz_m (.getfield 54) 3 [11, 6] [], hz_n, hz_n, hz_r (.aload_n 0) 1, hz_m (.getfield 47) 3 [11, 5] []],
  [hz_n, hz_n, hz_m (.invokevirtual 187) 3 [37, 2, 0] [], hz_n, hz_n, hz_m (.aload_n 0) 1 [] [true, true, true, true, true, true, false], hz_r (.iload_n 2) 1, hz_r (.iconst 0) 1, hz_m (.invokevirtual 191) 3 [158, 3, 1] [], hz_n, hz_n, hz_r (.pop) 1, hz_r (.iinc 1 1) 3, hz_n, hz_n, hz_r (.iconst 0) 1],
  [hz_r (.istore_n 2) 1, hz_m (.iinc 5 1) 3 [] [true, true, true, true, true, true, false], hz_n, hz_n, hz_r (.goto (-98)) 3, hz_n, hz_n, hz_m (.aload_n 0) 1 [] [true, true, false, true, false, false, false], hz_m (.getfield 19) 3 [11, 1] [], hz_n, hz_n, hz_r (.aload_n 0) 1, hz_m (.getfield 47) 3 [11, 5] [], hz_n, hz_n, hz_m (.getfield 206) 3 [6, 1] []],
  [hz_n, hz_n, hz_r (.i2l) 1, hz_m (.invokevirtual 194) 3 [42, 2, 0] [], hz_n, hz_n, hz_r (.aload_n 0) 1, hz_m (.getfield 19) 3 [11, 1] [], hz_n, hz_n, hz_r (.iload_n 3) 1, hz_r (.i2l) 1, hz_m (.invokevirtual 203) 3 [43, 2, 0] [], hz_n, hz_n, hz_r (.iload_n 1) 1],
  [hz_r (.ireturn) 1]]
/-- HeavierServesModel.thrown()I -/
def hs_k161 : hs_K := [
  [hz_r (.aload_n 0) 1, hz_m (.getfield 3) 3 [12, 0] [], hz_n, hz_n, hz_r (.ireturn) 1]]
/-- HeavierServesModel.refuse()I -/
def hs_k162 : hs_K := [
  [hz_r (.aload_n 0) 1, hz_r (.iconst 1) 1, hz_m (.putfield 3) 3 [12, 0] [], hz_n, hz_n, hz_r (.iconst 0) 1, hz_r (.ireturn) 1]]
/-- HeavierServesModel.in(JJJ)Z -/
def hs_k163 : hs_K := [
  [hz_m (.lload_n 0) 1 [] [true, false, true, false, true, false], hz_r (.lload_n 2) 1, hz_r (.lcmp) 1, hz_r (.ifCond .lt 14) 3, hz_n, hz_n, hz_m (.lload_n 0) 1 [] [true, false, false, false, true, false], hz_r (.lload 4) 2, hz_n, hz_r (.lcmp) 1, hz_r (.ifCond .gt 7) 3, hz_n, hz_n, hz_m (.iconst 1) 1 [] [false, false, false, false, false, false], hz_r (.goto 4) 3, hz_n],
  [hz_n, hz_m (.iconst 0) 1 [] [false, false, false, false, false, false], hz_m (.ireturn) 1 [] [false, false, false, false, false, false]]]
/-- HeavierServesModel.has(II)Z -/
def hs_k164 : hs_K := [
  [hz_r (.iload_n 0) 1, hz_r (.iload_n 1) 1, hz_r (.ishr) 1, hz_r (.iconst 1) 1, hz_r (.iand) 1, hz_r (.iconst 1) 1, hz_r (.if_icmp .ne 7) 3, hz_n, hz_n, hz_m (.iconst 1) 1 [] [false, false], hz_r (.goto 4) 3, hz_n, hz_n, hz_m (.iconst 0) 1 [] [false, false], hz_m (.ireturn) 1 [] [false, false]]]
/-- HeavierServesModel.flag(Z)I -/
def hs_k165 : hs_K := [
  [hz_r (.iload_n 0) 1, hz_r (.ifCond .eq 7) 3, hz_n, hz_n, hz_m (.iconst 1) 1 [] [false], hz_r (.goto 4) 3, hz_n, hz_n, hz_m (.iconst 0) 1 [] [false], hz_m (.ireturn) 1 [] [false]]]
/-- HeavierServesModel.common(JJ)J -/
def hs_k166 : hs_K := [
  [hz_m (.lload_n 2) 1 [] [true, false, true, false], hz_r (.lconst 0) 1, hz_r (.lcmp) 1, hz_r (.ifCond .ne 7) 3, hz_n, hz_n, hz_m (.lload_n 0) 1 [] [true, false, false, false], hz_r (.goto 10) 3, hz_n, hz_n, hz_m (.lload_n 2) 1 [] [true, false, true, false], hz_r (.lload_n 0) 1, hz_r (.lload_n 2) 1, hz_r (.lrem) 1, hz_m (.invokestatic 7) 3 [166, 2, 2] [], hz_n],
  [hz_n, hz_m (.lreturn) 1 [] [false, false, false, false]]]
/-- HeavierServesModel.enters(J)V -/
def hs_k167 : hs_K := [
  [hz_m (.aload_n 0) 1 [] [true, true, false], hz_m (.getfield 11) 3 [12, 2] [], hz_n, hz_n, hz_r (.aload_n 0) 1, hz_m (.getfield 15) 3 [12, 1] [], hz_n, hz_n, hz_r (.lload_n 1) 1, hz_r (.lastore) 1, hz_r (.aload_n 0) 1, hz_r (.dup) 1, hz_m (.getfield 15) 3 [12, 1] [], hz_n, hz_n, hz_r (.iconst 1) 1],
  [hz_r (.iadd) 1, hz_m (.putfield 15) 3 [12, 1] [], hz_n, hz_n, hz_r (.return_) 1]]
/-- HeavierServesModel.entersFraction(JJ)V -/
def hs_k168 : hs_K := [
  [hz_m (.lload_n 1) 1 [] [true, true, false, true, false, false, false], hz_r (.lload_n 3) 1, hz_m (.invokestatic 7) 3 [166, 2, 2] [], hz_n, hz_n, hz_r (.lstore 5) 2, hz_n, hz_r (.aload_n 0) 1, hz_r (.lload_n 1) 1, hz_r (.lload 5) 2, hz_n, hz_r (.ldiv) 1, hz_m (.invokevirtual 18) 3 [167, 2, 0] [], hz_n, hz_n, hz_r (.aload_n 0) 1],
  [hz_r (.lload_n 3) 1, hz_r (.lload 5) 2, hz_n, hz_r (.ldiv) 1, hz_m (.invokevirtual 18) 3 [167, 2, 0] [], hz_n, hz_n, hz_r (.return_) 1]]
/-- HeavierServesModel.isPerson(I)Z -/
def hs_k169 : hs_K := [
  [hz_r (.iload_n 1) 1, hz_r (.i2l) 1, hz_r (.lconst 0) 1, hz_r (.aload_n 0) 1, hz_m (.getfield 117) 3 [12, 3] [], hz_n, hz_n, hz_r (.iconst 1) 1, hz_r (.isub) 1, hz_r (.i2l) 1, hz_m (.invokestatic 120) 3 [163, 3, 1] [], hz_n, hz_n, hz_r (.ireturn) 1]]
/-- HeavierServesModel.isAlive(I)Z -/
def hs_k170 : hs_K := [
  [hz_r (.aload_n 0) 1, hz_r (.iload_n 1) 1, hz_m (.invokevirtual 124) 3 [169, 2, 1] [], hz_n, hz_n, hz_r (.ifCond .eq 21) 3, hz_n, hz_n, hz_r (.aload_n 0) 1, hz_m (.getfield 44) 3 [12, 10] [], hz_n, hz_n, hz_r (.bipush 16) 2, hz_n, hz_r (.iaload) 1, hz_r (.iload_n 1) 1],
  [hz_m (.invokestatic 128) 3 [164, 2, 1] [], hz_n, hz_n, hz_r (.ifCond .eq 7) 3, hz_n, hz_n, hz_m (.iconst 1) 1 [] [false, false], hz_r (.goto 4) 3, hz_n, hz_n, hz_m (.iconst 0) 1 [] [false, false], hz_m (.ireturn) 1 [] [false, false]]]
/-- HeavierServesModel.sign(I)I -/
def hs_k171 : hs_K := [
  [hz_m (.aload_n 0) 1 [] [true, true, false], hz_r (.iconst 0) 1, hz_m (.putfield 3) 3 [12, 0] [], hz_n, hz_n, hz_r (.aload_n 0) 1, hz_m (.getfield 132) 3 [12, 13] [], hz_n, hz_n, hz_r (.bipush 76) 2, hz_n, hz_r (.if_icmp .le 5) 3, hz_n, hz_n, hz_m (.iconst (-1)) 1 [] [false, false, false], hz_r (.ireturn) 1],
  [hz_m (.iconst 0) 1 [] [true, true, false], hz_r (.istore_n 2) 1, hz_r (.iload_n 2) 1, hz_r (.iconst 4) 1, hz_r (.if_icmp .ge 33) 3, hz_n, hz_n, hz_r (.aload_n 0) 1, hz_m (.getfield 50) 3 [12, 12] [], hz_n, hz_n, hz_r (.aload_n 0) 1, hz_m (.getfield 132) 3 [12, 13] [], hz_n, hz_n, hz_r (.iload_n 2) 1],
  [hz_r (.iadd) 1, hz_r (.iload_n 1) 1, hz_r (.bipush 24) 2, hz_n, hz_r (.bipush 8) 2, hz_n, hz_r (.iload_n 2) 1, hz_r (.imul) 1, hz_r (.isub) 1, hz_r (.ishr) 1, hz_r (.sipush 255) 3, hz_n, hz_n, hz_r (.iand) 1, hz_r (.iastore) 1, hz_r (.iinc 2 1) 3],
  [hz_n, hz_n, hz_r (.goto (-32)) 3, hz_n, hz_n, hz_m (.aload_n 0) 1 [] [true, false, false], hz_r (.dup) 1, hz_m (.getfield 132) 3 [12, 13] [], hz_n, hz_n, hz_r (.iconst 4) 1, hz_r (.iadd) 1, hz_m (.putfield 132) 3 [12, 13] [], hz_n, hz_n, hz_r (.aload_n 0) 1],
  [hz_m (.getfield 132) 3 [12, 13] [], hz_n, hz_n, hz_r (.ireturn) 1]]
/-- HeavierServesModel.end(I)Z -/
def hs_k172 : hs_K := [
  [hz_r (.aload_n 0) 1, hz_r (.iconst 0) 1, hz_m (.putfield 3) 3 [12, 0] [], hz_n, hz_n, hz_r (.iload_n 1) 1, hz_r (.i2l) 1, hz_r (.lconst 0) 1, hz_r (.aload_n 0) 1, hz_m (.getfield 132) 3 [12, 13] [], hz_n, hz_n, hz_r (.i2l) 1, hz_m (.invokestatic 120) 3 [163, 3, 1] [], hz_n, hz_n],
  [hz_r (.ifCond .ne 5) 3, hz_n, hz_n, hz_m (.iconst 0) 1 [] [false, false], hz_r (.ireturn) 1, hz_r (.aload_n 0) 1, hz_r (.iload_n 1) 1, hz_m (.putfield 132) 3 [12, 13] [], hz_n, hz_n, hz_r (.iconst 1) 1, hz_r (.ireturn) 1]]
/-- HeavierServesModel.begins(I)I -/
def hs_k173 : hs_K := [
  [hz_m (.aload_n 0) 1 [] [true, true, false], hz_m (.getfield 132) 3 [12, 13] [], hz_n, hz_n, hz_r (.istore_n 2) 1, hz_r (.aload_n 0) 1, hz_r (.iconst 0) 1, hz_m (.putfield 132) 3 [12, 13] [], hz_n, hz_n, hz_r (.aload_n 0) 1, hz_r (.iconst 0) 1, hz_m (.putfield 135) 3 [12, 14] [], hz_n, hz_n, hz_r (.aload_n 0) 1],
  [hz_r (.iconst 0) 1, hz_m (.putfield 138) 3 [12, 16] [], hz_n, hz_n, hz_r (.aload_n 0) 1, hz_r (.iload_n 2) 1, hz_r (.iload_n 1) 1, hz_m (.invokestatic 141) 3 [3, 2, 1] [], hz_n, hz_n, hz_m (.putfield 147) 3 [12, 15] [], hz_n, hz_n, hz_r (.iload_n 2) 1, hz_r (.ireturn) 1]]
/-- HeavierServesModel.takes(I)Z -/
def hs_k174 : hs_K := [
  [hz_m (.aload_n 0) 1 [] [true, true, false], hz_m (.getfield 135) 3 [12, 14] [], hz_n, hz_n, hz_r (.aload_n 0) 1, hz_m (.getfield 147) 3 [12, 15] [], hz_n, hz_n, hz_r (.if_icmp .ge 20) 3, hz_n, hz_n, hz_m (.aload_n 0) 1 [] [true, true, false], hz_m (.getfield 50) 3 [12, 12] [], hz_n, hz_n, hz_r (.aload_n 0) 1],
  [hz_m (.getfield 135) 3 [12, 14] [], hz_n, hz_n, hz_r (.iaload) 1, hz_r (.iload_n 1) 1, hz_r (.if_icmp .ne 7) 3, hz_n, hz_n, hz_m (.iconst 1) 1 [] [true, false, false], hz_r (.goto 4) 3, hz_n, hz_n, hz_m (.iconst 0) 1 [] [true, false, false], hz_m (.istore_n 2) 1 [] [true, false, false], hz_r (.aload_n 0) 1, hz_r (.dup) 1],
  [hz_m (.getfield 135) 3 [12, 14] [], hz_n, hz_n, hz_r (.iload_n 2) 1, hz_m (.invokestatic 150) 3 [165, 1, 1] [], hz_n, hz_n, hz_r (.iadd) 1, hz_m (.putfield 135) 3 [12, 14] [], hz_n, hz_n, hz_r (.iload_n 2) 1, hz_r (.ireturn) 1]]
/-- HeavierServesModel.isDigit()Z -/
def hs_k175 : hs_K := [
  [hz_r (.aload_n 0) 1, hz_m (.getfield 135) 3 [12, 14] [], hz_n, hz_n, hz_r (.aload_n 0) 1, hz_m (.getfield 147) 3 [12, 15] [], hz_n, hz_n, hz_r (.if_icmp .ge 29) 3, hz_n, hz_n, hz_r (.aload_n 0) 1, hz_m (.getfield 50) 3 [12, 12] [], hz_n, hz_n, hz_r (.aload_n 0) 1],
  [hz_m (.getfield 135) 3 [12, 14] [], hz_n, hz_n, hz_r (.iaload) 1, hz_r (.i2l) 1, hz_m (.ldc2_w 154) 3 [0, 48] [], hz_n, hz_n, hz_m (.ldc2_w 156) 3 [0, 57] [], hz_n, hz_n, hz_m (.invokestatic 120) 3 [163, 3, 1] [], hz_n, hz_n, hz_r (.ifCond .eq 7) 3, hz_n],
  [hz_n, hz_m (.iconst 1) 1 [] [false], hz_r (.goto 4) 3, hz_n, hz_n, hz_m (.iconst 0) 1 [] [false], hz_m (.ireturn) 1 [] [false]]]
/-- HeavierServesModel.number(I)I -/
def hs_k176 : hs_K := [
  [hz_m (.iconst 0) 1 [] [true, true, false, false], hz_r (.istore_n 2) 1, hz_r (.iconst 0) 1, hz_r (.istore_n 3) 1, hz_r (.iload_n 3) 1, hz_r (.iload_n 1) 1, hz_r (.if_icmp .ge 44) 3, hz_n, hz_n, hz_r (.aload_n 0) 1, hz_m (.invokevirtual 158) 3 [175, 1, 1] [], hz_n, hz_n, hz_r (.ifCond .eq 37) 3, hz_n, hz_n],
  [hz_r (.bipush 10) 2, hz_n, hz_r (.iload_n 2) 1, hz_r (.imul) 1, hz_r (.aload_n 0) 1, hz_m (.getfield 50) 3 [12, 12] [], hz_n, hz_n, hz_r (.aload_n 0) 1, hz_m (.getfield 135) 3 [12, 14] [], hz_n, hz_n, hz_r (.iaload) 1, hz_r (.iadd) 1, hz_r (.bipush 48) 2, hz_n],
  [hz_r (.isub) 1, hz_r (.istore_n 2) 1, hz_r (.aload_n 0) 1, hz_r (.dup) 1, hz_m (.getfield 135) 3 [12, 14] [], hz_n, hz_n, hz_r (.iconst 1) 1, hz_r (.iadd) 1, hz_m (.putfield 135) 3 [12, 14] [], hz_n, hz_n, hz_r (.iinc 3 1) 3, hz_n, hz_n, hz_r (.goto (-43)) 3],
  [hz_n, hz_n, hz_m (.iload_n 2) 1 [] [false, false, true, false], hz_r (.ireturn) 1]]
/-- HeavierServesModel.among(Ljava/lang/String;)I -/
def hs_k177 : hs_K := [
  [hz_m (.iconst 0) 1 [] [true, true, false], hz_r (.istore_n 2) 1, hz_r (.iload_n 2) 1, hz_r (.aload_n 1) 1, hz_m (.invokevirtual 162) 3 [7, 0] [], hz_n, hz_n, hz_r (.if_icmp .ge 39) 3, hz_n, hz_n, hz_r (.aload_n 0) 1, hz_m (.getfield 135) 3 [12, 14] [], hz_n, hz_n, hz_r (.aload_n 0) 1, hz_m (.getfield 147) 3 [12, 15] []],
  [hz_n, hz_n, hz_r (.if_icmp .ge 28) 3, hz_n, hz_n, hz_r (.aload_n 1) 1, hz_r (.iload_n 2) 1, hz_m (.invokevirtual 168) 3 [7, 1] [], hz_n, hz_n, hz_r (.aload_n 0) 1, hz_m (.getfield 50) 3 [12, 12] [], hz_n, hz_n, hz_r (.aload_n 0) 1, hz_m (.getfield 135) 3 [12, 14] []],
  [hz_n, hz_n, hz_r (.iaload) 1, hz_r (.if_icmp .ne 5) 3, hz_n, hz_n, hz_m (.iload_n 2) 1 [] [false, false, true], hz_r (.ireturn) 1, hz_r (.iinc 2 1) 3, hz_n, hz_n, hz_r (.goto (-41)) 3, hz_n, hz_n, hz_m (.iconst (-1)) 1 [] [false, false, false], hz_r (.ireturn) 1]]
/-- HeavierServesModel.faultOf(IIZ)I -/
def hs_k178 : hs_K := [
  [hz_m (.iload_n 3) 1 [] [true, true, true, true, false], hz_r (.ifCond .eq 18) 3, hz_n, hz_n, hz_m (.aload_n 0) 1 [] [true, true, true, false, false], hz_m (.getfield 135) 3 [12, 14] [], hz_n, hz_n, hz_r (.aload_n 0) 1, hz_m (.getfield 147) 3 [12, 15] [], hz_n, hz_n, hz_r (.if_icmp .ne 7) 3, hz_n, hz_n, hz_m (.iconst 1) 1 [] [true, true, true, false, false]],
  [hz_r (.goto 4) 3, hz_n, hz_n, hz_m (.iconst 0) 1 [] [true, true, true, false, false], hz_m (.istore 4) 2 [] [true, true, true, false, false], hz_n, hz_r (.iload_n 1) 1, hz_r (.iload_n 2) 1, hz_r (.if_icmp .le 20) 3, hz_n, hz_n, hz_m (.iload 4) 2 [] [true, false, true, false, true], hz_n, hz_r (.ifCond .ne 11) 3, hz_n, hz_n],
  [hz_m (.aload_n 0) 1 [] [true, false, true, false, true], hz_m (.getfield 135) 3 [12, 14] [], hz_n, hz_n, hz_r (.iload_n 2) 1, hz_r (.if_icmp .lt 7) 3, hz_n, hz_n, hz_m (.iconst (-1)) 1 [] [false, false, true, false, false], hz_r (.iload_n 2) 1, hz_r (.isub) 1, hz_r (.ireturn) 1, hz_m (.iload 4) 2 [] [true, false, false, false, true], hz_n, hz_r (.ifCond .eq 7) 3, hz_n],
  [hz_n, hz_m (.iconst 0) 1 [] [false, false, false, false, false], hz_r (.goto 9) 3, hz_n, hz_n, hz_m (.iconst (-1)) 1 [] [true, false, false, false, false], hz_r (.aload_n 0) 1, hz_m (.getfield 135) 3 [12, 14] [], hz_n, hz_n, hz_r (.isub) 1, hz_m (.ireturn) 1 [] [false, false, false, false, false]]]
/-- HeavierServesModel.readsHabit(I)Z -/
def hs_k179 : hs_K := [
  [hz_m (.iconst 0) 1 [] [true, true, false, false], hz_r (.istore_n 2) 1, hz_m (.iload_n 2) 1 [] [true, true, true, false], hz_r (.bipush 6) 2, hz_n, hz_r (.if_icmp .ge 81) 3, hz_n, hz_n, hz_m (.aload_n 0) 1 [] [true, true, true, false], hz_m (.ldc 172) 2 [1, 0] [], hz_n, hz_m (.invokevirtual 174) 3 [177, 2, 1] [], hz_n, hz_n, hz_r (.ifCond .lt 72) 3, hz_n],
  [hz_n, hz_m (.aload_n 0) 1 [] [true, true, true, false], hz_r (.bipush 43) 2, hz_n, hz_m (.invokevirtual 178) 3 [174, 2, 1] [], hz_n, hz_n, hz_r (.ifCond .eq 7) 3, hz_n, hz_n, hz_m (.iconst 1) 1 [] [true, true, true, false], hz_r (.goto 4) 3, hz_n, hz_n, hz_m (.iconst (-1)) 1 [] [true, true, true, false], hz_m (.istore_n 3) 1 [] [true, true, true, false]],
  [hz_r (.aload_n 0) 1, hz_r (.dup) 1, hz_m (.getfield 135) 3 [12, 14] [], hz_n, hz_n, hz_r (.iload_n 3) 1, hz_r (.ifCond .ge 7) 3, hz_n, hz_n, hz_r (.iconst 1) 1, hz_r (.goto 4) 3, hz_n, hz_n, hz_r (.iconst 0) 1, hz_m (.invokestatic 150) 3 [165, 1, 1] [], hz_n],
  [hz_n, hz_r (.iadd) 1, hz_m (.putfield 135) 3 [12, 14] [], hz_n, hz_n, hz_r (.aload_n 0) 1, hz_m (.invokevirtual 158) 3 [175, 1, 1] [], hz_n, hz_n, hz_r (.ifCond .ne 5) 3, hz_n, hz_n, hz_m (.iconst 0) 1 [] [false, false, false, false], hz_r (.ireturn) 1, hz_r (.aload_n 0) 1, hz_m (.getfield 59) 3 [12, 19] []],
  [hz_n, hz_n, hz_r (.bipush 6) 2, hz_n, hz_r (.iload_n 1) 1, hz_r (.imul) 1, hz_r (.iload_n 2) 1, hz_r (.iadd) 1, hz_r (.iload_n 3) 1, hz_r (.aload_n 0) 1, hz_r (.iconst 1) 1, hz_m (.invokevirtual 181) 3 [176, 2, 1] [], hz_n, hz_n, hz_r (.imul) 1, hz_r (.iastore) 1],
  [hz_r (.iinc 2 1) 3, hz_n, hz_n, hz_r (.goto (-81)) 3, hz_n, hz_n, hz_m (.aload_n 0) 1 [] [true, true, true, false], hz_m (.getfield 62) 3 [12, 20] [], hz_n, hz_n, hz_r (.iload_n 1) 1, hz_r (.iload_n 2) 1, hz_r (.iastore) 1, hz_r (.iconst 1) 1, hz_r (.ireturn) 1]]
/-- HeavierServesModel.readsPerson()Z -/
def hs_k180 : hs_K := [
  [hz_m (.aload_n 0) 1 [] [true, false], hz_m (.getfield 117) 3 [12, 3] [], hz_n, hz_n, hz_r (.aload_n 0) 1, hz_m (.getfield 185) 3 [12, 21] [], hz_n, hz_n, hz_r (.iadd) 1, hz_r (.istore_n 1) 1, hz_r (.aload_n 0) 1, hz_m (.invokevirtual 158) 3 [175, 1, 1] [], hz_n, hz_n, hz_r (.ifCond .eq 9) 3, hz_n],
  [hz_n, hz_r (.iload_n 1) 1, hz_r (.bipush 8) 2, hz_n, hz_r (.if_icmp .ne 5) 3, hz_n, hz_n, hz_m (.iconst 0) 1 [] [false, false], hz_r (.ireturn) 1, hz_r (.aload_n 0) 1, hz_m (.getfield 53) 3 [12, 17] [], hz_n, hz_n, hz_r (.iload_n 1) 1, hz_r (.aload_n 0) 1, hz_r (.iconst 3) 1],
  [hz_m (.invokevirtual 181) 3 [176, 2, 1] [], hz_n, hz_n, hz_r (.iastore) 1, hz_r (.aload_n 0) 1, hz_m (.getfield 53) 3 [12, 17] [], hz_n, hz_n, hz_r (.iload_n 1) 1, hz_r (.iaload) 1, hz_r (.ifCond .ne 15) 3, hz_n, hz_n, hz_m (.aload_n 0) 1 [] [true, false], hz_r (.dup) 1, hz_m (.getfield 135) 3 [12, 14] []],
  [hz_n, hz_n, hz_r (.iconst 1) 1, hz_r (.isub) 1, hz_m (.putfield 135) 3 [12, 14] [], hz_n, hz_n, hz_r (.iconst 0) 1, hz_r (.ireturn) 1, hz_r (.aload_n 0) 1, hz_m (.getfield 56) 3 [12, 18] [], hz_n, hz_n, hz_r (.iload_n 1) 1, hz_r (.iconst 0) 1, hz_r (.iastore) 1],
  [hz_r (.aload_n 0) 1, hz_r (.bipush 42) 2, hz_n, hz_m (.invokevirtual 178) 3 [174, 2, 1] [], hz_n, hz_n, hz_r (.ifCond .eq 25) 3, hz_n, hz_n, hz_r (.aload_n 0) 1, hz_m (.ldc 188) 2 [1, 1] [], hz_n, hz_m (.invokevirtual 174) 3 [177, 2, 1] [], hz_n, hz_n, hz_r (.ifCond .ge 5) 3],
  [hz_n, hz_n, hz_m (.iconst 0) 1 [] [false, false], hz_r (.ireturn) 1, hz_r (.aload_n 0) 1, hz_m (.getfield 56) 3 [12, 18] [], hz_n, hz_n, hz_r (.iload_n 1) 1, hz_r (.aload_n 0) 1, hz_r (.iconst 1) 1, hz_m (.invokevirtual 181) 3 [176, 2, 1] [], hz_n, hz_n, hz_r (.iastore) 1, hz_r (.aload_n 0) 1],
  [hz_r (.dup) 1, hz_m (.getfield 185) 3 [12, 21] [], hz_n, hz_n, hz_r (.iconst 1) 1, hz_r (.iadd) 1, hz_m (.putfield 185) 3 [12, 21] [], hz_n, hz_n, hz_r (.aload_n 0) 1, hz_r (.iload_n 1) 1, hz_m (.invokevirtual 190) 3 [179, 2, 1] [], hz_n, hz_n, hz_r (.ireturn) 1]]
/-- HeavierServesModel.town()I -/
def hs_k181 : hs_K := [
  [hz_m (.aload_n 0) 1 [] [true, false, false, false, false, false, false], hz_r (.iconst 0) 1, hz_m (.putfield 3) 3 [12, 0] [], hz_n, hz_n, hz_r (.aload_n 0) 1, hz_r (.bipush 76) 2, hz_n, hz_m (.invokevirtual 193) 3 [173, 2, 1] [], hz_n, hz_n, hz_r (.istore_n 1) 1, hz_r (.aload_n 0) 1, hz_r (.iconst 0) 1, hz_m (.putfield 185) 3 [12, 21] [], hz_n],
  [hz_n, hz_r (.iconst 1) 1, hz_r (.istore_n 2) 1, hz_r (.iload_n 1) 1, hz_r (.ifCond .le 7) 3, hz_n, hz_n, hz_m (.iconst 1) 1 [] [true, true, true, false, false, false, false], hz_r (.goto 4) 3, hz_n, hz_n, hz_m (.iconst 0) 1 [] [true, true, true, false, false, false, false], hz_m (.istore_n 3) 1 [] [true, true, true, false, false, false, false], hz_m (.iload_n 3) 1 [] [true, true, true, true, false, false, false], hz_r (.ifCond .eq 30) 3, hz_n],
  [hz_n, hz_m (.aload_n 0) 1 [] [true, true, false, false, false, false, false], hz_m (.invokevirtual 196) 3 [180, 1, 1] [], hz_n, hz_n, hz_r (.istore_n 2) 1, hz_r (.iload_n 2) 1, hz_r (.ifCond .eq 16) 3, hz_n, hz_n, hz_m (.aload_n 0) 1 [] [true, true, true, false, false, false, false], hz_r (.bipush 59) 2, hz_n, hz_m (.invokevirtual 178) 3 [174, 2, 1] [], hz_n, hz_n],
  [hz_r (.ifCond .eq 7) 3, hz_n, hz_n, hz_m (.iconst 1) 1 [] [true, true, true, false, false, false, false], hz_r (.goto 4) 3, hz_n, hz_n, hz_m (.iconst 0) 1 [] [true, true, true, false, false, false, false], hz_m (.istore_n 3) 1 [] [true, true, true, false, false, false, false], hz_r (.goto (-28)) 3, hz_n, hz_n, hz_m (.aload_n 0) 1 [] [true, true, true, false, false, false, false], hz_r (.iload_n 1) 1, hz_r (.bipush 76) 2, hz_n],
  [hz_r (.iload_n 2) 1, hz_m (.invokevirtual 199) 3 [178, 4, 1] [], hz_n, hz_n, hz_r (.istore 4) 2, hz_n, hz_r (.iload 4) 2, hz_n, hz_r (.ifCond .ge 6) 3, hz_n, hz_n, hz_m (.iload 4) 2 [] [false, false, false, false, true, false, false], hz_n, hz_r (.ireturn) 1, hz_m (.iconst 0) 1 [] [true, true, false, false, false, false, false], hz_r (.istore 5) 2],
  [hz_n, hz_m (.iload 5) 2 [] [true, true, false, false, false, true, false], hz_n, hz_r (.aload_n 0) 1, hz_m (.getfield 185) 3 [12, 21] [], hz_n, hz_n, hz_r (.if_icmp .ge 54) 3, hz_n, hz_n, hz_m (.aload_n 0) 1 [] [true, true, false, false, false, true, false], hz_m (.getfield 117) 3 [12, 3] [], hz_n, hz_n, hz_r (.iload 5) 2, hz_n],
  [hz_r (.iadd) 1, hz_r (.istore 6) 2, hz_n, hz_r (.aload_n 0) 1, hz_m (.getfield 44) 3 [12, 10] [], hz_n, hz_n, hz_r (.iload 6) 2, hz_n, hz_r (.aload_n 0) 1, hz_m (.getfield 53) 3 [12, 17] [], hz_n, hz_n, hz_r (.iload 6) 2, hz_n, hz_r (.iaload) 1],
  [hz_r (.iastore) 1, hz_r (.aload_n 0) 1, hz_m (.getfield 28) 3 [12, 4] [], hz_n, hz_n, hz_r (.iload 6) 2, hz_n, hz_r (.aload_n 0) 1, hz_m (.getfield 56) 3 [12, 18] [], hz_n, hz_n, hz_r (.iload 6) 2, hz_n, hz_r (.iaload) 1, hz_r (.iastore) 1, hz_r (.aload_n 0) 1],
  [hz_r (.iload 6) 2, hz_n, hz_r (.iload 6) 2, hz_n, hz_m (.invokevirtual 203) 3 [182, 3, 0] [], hz_n, hz_n, hz_r (.iinc 5 1) 3, hz_n, hz_n, hz_r (.goto (-57)) 3, hz_n, hz_n, hz_m (.aload_n 0) 1 [] [true, true, false, false, false, false, false], hz_r (.dup) 1, hz_m (.getfield 117) 3 [12, 3] []],
  [hz_n, hz_n, hz_r (.aload_n 0) 1, hz_m (.getfield 185) 3 [12, 21] [], hz_n, hz_n, hz_r (.iadd) 1, hz_m (.putfield 117) 3 [12, 3] [], hz_n, hz_n, hz_r (.aload_n 0) 1, hz_r (.iload_n 1) 1, hz_r (.ifCond .le 7) 3, hz_n, hz_n, hz_m (.iconst 0) 1 [] [true, false, false, false, false, false, false]],
  [hz_r (.goto 7) 3, hz_n, hz_n, hz_m (.aload_n 0) 1 [] [true, false, false, false, false, false, false], hz_m (.getfield 207) 3 [12, 28] [], hz_n, hz_n, hz_m (.putfield 207) 3 [12, 28] [true, false, false, false, false, false, false], hz_n, hz_n, hz_r (.aload_n 0) 1, hz_m (.getfield 185) 3 [12, 21] [], hz_n, hz_n, hz_r (.ireturn) 1]]
/-- HeavierServesModel.comes(II)V -/
def hs_k182 : hs_K := [
  [hz_r (.aload_n 0) 1, hz_m (.getfield 44) 3 [12, 10] [], hz_n, hz_n, hz_r (.bipush 8) 2, hz_n, hz_r (.iload_n 1) 1, hz_r (.iadd) 1, hz_r (.iconst 0) 1, hz_r (.iastore) 1, hz_r (.aload_n 0) 1, hz_m (.getfield 44) 3 [12, 10] [], hz_n, hz_n, hz_r (.bipush 16) 2, hz_n],
  [hz_r (.dup2) 1, hz_r (.iaload) 1, hz_r (.iconst 1) 1, hz_r (.iload_n 1) 1, hz_r (.ishl) 1, hz_r (.ior) 1, hz_r (.iastore) 1, hz_r (.aload_n 0) 1, hz_m (.getfield 32) 3 [12, 5] [], hz_n, hz_n, hz_r (.iload_n 1) 1, hz_r (.iconst 0) 1, hz_r (.iastore) 1, hz_r (.aload_n 0) 1, hz_r (.iload_n 1) 1],
  [hz_r (.iload_n 2) 1, hz_m (.invokevirtual 210) 3 [183, 3, 0] [], hz_n, hz_n, hz_r (.return_) 1]]
/-- HeavierServesModel.putsHabit(II)V -/
def hs_k183 : hs_K := [
  [hz_m (.aload_n 0) 1 [] [true, true, true, false], hz_m (.getfield 38) 3 [12, 7] [], hz_n, hz_n, hz_r (.iload_n 1) 1, hz_r (.aload_n 0) 1, hz_m (.getfield 62) 3 [12, 20] [], hz_n, hz_n, hz_r (.iload_n 2) 1, hz_r (.iaload) 1, hz_r (.iastore) 1, hz_r (.iconst 0) 1, hz_r (.istore_n 3) 1, hz_r (.iload_n 3) 1, hz_r (.bipush 6) 2],
  [hz_n, hz_r (.if_icmp .ge 31) 3, hz_n, hz_n, hz_r (.aload_n 0) 1, hz_m (.getfield 35) 3 [12, 6] [], hz_n, hz_n, hz_r (.bipush 6) 2, hz_n, hz_r (.iload_n 1) 1, hz_r (.imul) 1, hz_r (.iload_n 3) 1, hz_r (.iadd) 1, hz_r (.aload_n 0) 1, hz_m (.getfield 59) 3 [12, 19] []],
  [hz_n, hz_n, hz_r (.bipush 6) 2, hz_n, hz_r (.iload_n 2) 1, hz_r (.imul) 1, hz_r (.iload_n 3) 1, hz_r (.iadd) 1, hz_r (.iaload) 1, hz_r (.iastore) 1, hz_r (.iinc 3 1) 3, hz_n, hz_n, hz_r (.goto (-31)) 3, hz_n, hz_n],
  [hz_m (.return_) 1 [] [false, false, false, false]]]
/-- HeavierServesModel.habit(I)I -/
def hs_k184 : hs_K := [
  [hz_m (.aload_n 0) 1 [] [true, true, false, false, false], hz_r (.iconst 0) 1, hz_m (.putfield 3) 3 [12, 0] [], hz_n, hz_n, hz_r (.aload_n 0) 1, hz_r (.bipush 12) 2, hz_n, hz_m (.invokevirtual 193) 3 [173, 2, 1] [], hz_n, hz_n, hz_r (.istore_n 2) 1, hz_r (.aload_n 0) 1, hz_r (.iload_n 1) 1, hz_m (.invokevirtual 124) 3 [169, 2, 1] [], hz_n],
  [hz_n, hz_r (.ifCond .ne 6) 3, hz_n, hz_n, hz_m (.bipush (-100)) 2 [] [false, false, false, false, false], hz_n, hz_r (.ireturn) 1, hz_m (.aload_n 0) 1 [] [true, true, true, false, false], hz_r (.bipush 8) 2, hz_n, hz_m (.invokevirtual 190) 3 [179, 2, 1] [], hz_n, hz_n, hz_r (.istore_n 3) 1, hz_r (.aload_n 0) 1, hz_r (.iload_n 2) 1],
  [hz_r (.bipush 12) 2, hz_n, hz_r (.iload_n 3) 1, hz_m (.invokevirtual 199) 3 [178, 4, 1] [], hz_n, hz_n, hz_r (.istore 4) 2, hz_n, hz_r (.iload 4) 2, hz_n, hz_r (.ifCond .ge 6) 3, hz_n, hz_n, hz_m (.iload 4) 2 [] [false, false, false, false, true], hz_n, hz_r (.ireturn) 1],
  [hz_m (.aload_n 0) 1 [] [true, true, false, false, false], hz_r (.iload_n 1) 1, hz_r (.bipush 8) 2, hz_n, hz_m (.invokevirtual 210) 3 [183, 3, 0] [], hz_n, hz_n, hz_r (.aload_n 0) 1, hz_m (.getfield 38) 3 [12, 7] [], hz_n, hz_n, hz_r (.iload_n 1) 1, hz_r (.iaload) 1, hz_r (.ireturn) 1]]
/-- HeavierServesModel.codes(I)V -/
def hs_k185 : hs_K := [
  [hz_r (.aload_n 0) 1, hz_m (.getfield 68) 3 [12, 23] [], hz_n, hz_n, hz_r (.aload_n 0) 1, hz_m (.getfield 213) 3 [12, 25] [], hz_n, hz_n, hz_r (.iload_n 1) 1, hz_r (.iastore) 1, hz_r (.aload_n 0) 1, hz_r (.dup) 1, hz_m (.getfield 213) 3 [12, 25] [], hz_n, hz_n, hz_r (.iconst 1) 1],
  [hz_r (.iadd) 1, hz_m (.putfield 213) 3 [12, 25] [], hz_n, hz_n, hz_r (.return_) 1]]
/-- HeavierServesModel.readsThing()Z -/
def hs_k186 : hs_K := [
  [hz_m (.aload_n 0) 1 [] [true, false], hz_r (.bipush 45) 2, hz_n, hz_m (.invokevirtual 178) 3 [174, 2, 1] [], hz_n, hz_n, hz_r (.ifCond .eq 17) 3, hz_n, hz_n, hz_m (.aload_n 0) 1 [] [true, false], hz_m (.invokevirtual 216) 3 [186, 1, 1] [], hz_n, hz_n, hz_r (.istore_n 1) 1, hz_r (.aload_n 0) 1, hz_r (.sipush 3000) 3],
  [hz_n, hz_n, hz_m (.invokevirtual 219) 3 [185, 2, 0] [], hz_n, hz_n, hz_r (.iload_n 1) 1, hz_r (.ireturn) 1, hz_m (.aload_n 0) 1 [] [true, false], hz_m (.invokevirtual 158) 3 [175, 1, 1] [], hz_n, hz_n, hz_r (.ifCond .eq 14) 3, hz_n, hz_n, hz_m (.aload_n 0) 1 [] [true, false], hz_r (.aload_n 0) 1],
  [hz_r (.iconst 3) 1, hz_m (.invokevirtual 181) 3 [176, 2, 1] [], hz_n, hz_n, hz_m (.invokevirtual 219) 3 [185, 2, 0] [], hz_n, hz_n, hz_r (.iconst 1) 1, hz_r (.ireturn) 1, hz_m (.aload_n 0) 1 [] [true, false], hz_m (.ldc 223) 2 [1, 2] [], hz_n, hz_m (.invokevirtual 174) 3 [177, 2, 1] [], hz_n, hz_n, hz_r (.istore_n 1) 1],
  [hz_r (.iload_n 1) 1, hz_r (.ifCond .lt 24) 3, hz_n, hz_n, hz_r (.aload_n 0) 1, hz_r (.dup) 1, hz_m (.getfield 135) 3 [12, 14] [], hz_n, hz_n, hz_r (.iconst 1) 1, hz_r (.iadd) 1, hz_m (.putfield 135) 3 [12, 14] [], hz_n, hz_n, hz_r (.aload_n 0) 1, hz_r (.sipush 1000) 3],
  [hz_n, hz_n, hz_r (.iload_n 1) 1, hz_r (.iadd) 1, hz_m (.invokevirtual 219) 3 [185, 2, 0] [], hz_n, hz_n, hz_r (.iconst 1) 1, hz_r (.ireturn) 1, hz_m (.aload_n 0) 1 [] [true, false], hz_m (.getfield 138) 3 [12, 16] [], hz_n, hz_n, hz_r (.iconst 4) 1, hz_r (.if_icmp .eq 12) 3, hz_n],
  [hz_n, hz_m (.aload_n 0) 1 [] [true, false], hz_r (.bipush 40) 2, hz_n, hz_m (.invokevirtual 178) 3 [174, 2, 1] [], hz_n, hz_n, hz_r (.ifCond .ne 5) 3, hz_n, hz_n, hz_m (.iconst 0) 1 [] [false, false], hz_r (.ireturn) 1, hz_m (.aload_n 0) 1 [] [true, false], hz_r (.dup) 1, hz_m (.getfield 138) 3 [12, 16] [], hz_n],
  [hz_n, hz_r (.iconst 1) 1, hz_r (.iadd) 1, hz_m (.putfield 138) 3 [12, 16] [], hz_n, hz_n, hz_r (.aload_n 0) 1, hz_r (.iconst 0) 1, hz_m (.invokevirtual 225) 3 [187, 2, 1] [], hz_n, hz_n, hz_r (.ifCond .eq 12) 3, hz_n, hz_n, hz_m (.aload_n 0) 1 [] [true, false], hz_r (.bipush 41) 2],
  [hz_n, hz_m (.invokevirtual 178) 3 [174, 2, 1] [], hz_n, hz_n, hz_r (.ifCond .ne 5) 3, hz_n, hz_n, hz_m (.iconst 0) 1 [] [false, false], hz_r (.ireturn) 1, hz_m (.aload_n 0) 1 [] [true, false], hz_r (.dup) 1, hz_m (.getfield 138) 3 [12, 16] [], hz_n, hz_n, hz_r (.iconst 1) 1, hz_r (.isub) 1],
  [hz_m (.putfield 138) 3 [12, 16] [], hz_n, hz_n, hz_r (.iconst 1) 1, hz_r (.ireturn) 1]]
/-- HeavierServesModel.readsRank(I)Z -/
def hs_k187 : hs_K := [
  [hz_m (.iload_n 1) 1 [] [true, true, false, false], hz_r (.iconst 3) 1, hz_r (.if_icmp .ne 8) 3, hz_n, hz_n, hz_m (.aload_n 0) 1 [] [true, false, false, false], hz_m (.invokevirtual 216) 3 [186, 1, 1] [], hz_n, hz_n, hz_r (.ireturn) 1, hz_m (.aload_n 0) 1 [] [true, true, false, false], hz_r (.iload_n 1) 1, hz_r (.iconst 1) 1, hz_r (.iadd) 1, hz_m (.invokevirtual 225) 3 [187, 2, 1] [], hz_n],
  [hz_n, hz_r (.ifCond .ne 5) 3, hz_n, hz_n, hz_m (.iconst 0) 1 [] [false, false, false, false], hz_r (.ireturn) 1, hz_m (.iconst 1) 1 [] [true, true, false, false], hz_r (.istore_n 2) 1, hz_m (.iload_n 2) 1 [] [true, true, true, false], hz_r (.ifCond .eq 98) 3, hz_n, hz_n, hz_m (.aload_n 0) 1 [] [true, true, false, false], hz_r (.iload_n 1) 1, hz_r (.ifCond .ne 8) 3, hz_n],
  [hz_n, hz_m (.ldc 228) 2 [1, 3] [true, true, false, false], hz_n, hz_r (.goto 15) 3, hz_n, hz_n, hz_m (.iload_n 1) 1 [] [true, true, false, false], hz_r (.iconst 1) 1, hz_r (.if_icmp .ne 8) 3, hz_n, hz_n, hz_m (.ldc 172) 2 [1, 0] [true, true, false, false], hz_n, hz_r (.goto 5) 3, hz_n, hz_n],
  [hz_m (.ldc 230) 2 [1, 4] [true, true, false, false], hz_n, hz_m (.invokevirtual 174) 3 [177, 2, 1] [true, true, false, false], hz_n, hz_n, hz_r (.istore_n 3) 1, hz_r (.iload_n 3) 1, hz_r (.ifCond .ge 5) 3, hz_n, hz_n, hz_m (.iconst 1) 1 [] [false, false, false, false], hz_r (.ireturn) 1, hz_m (.aload_n 0) 1 [] [true, true, false, true], hz_r (.dup) 1, hz_m (.getfield 135) 3 [12, 14] [], hz_n],
  [hz_n, hz_r (.iconst 1) 1, hz_r (.iadd) 1, hz_m (.putfield 135) 3 [12, 14] [], hz_n, hz_n, hz_r (.aload_n 0) 1, hz_r (.iload_n 1) 1, hz_r (.iconst 1) 1, hz_r (.iadd) 1, hz_m (.invokevirtual 225) 3 [187, 2, 1] [], hz_n, hz_n, hz_r (.ifCond .ne 5) 3, hz_n, hz_n],
  [hz_m (.iconst 0) 1 [] [false, false, false, false], hz_r (.ireturn) 1, hz_m (.aload_n 0) 1 [] [true, true, false, true], hz_r (.sipush 2000) 3, hz_n, hz_n, hz_r (.iload_n 3) 1, hz_r (.iadd) 1, hz_r (.iload_n 1) 1, hz_r (.ifCond .ne 7) 3, hz_n, hz_n, hz_m (.iconst 0) 1 [] [true, true, false, false], hz_r (.goto 13) 3, hz_n, hz_n],
  [hz_m (.iload_n 1) 1 [] [true, true, false, false], hz_r (.iconst 1) 1, hz_r (.if_icmp .ne 7) 3, hz_n, hz_n, hz_m (.iconst 3) 1 [] [true, true, false, false], hz_r (.goto 4) 3, hz_n, hz_n, hz_m (.iconst 5) 1 [] [true, true, false, false], hz_m (.iadd) 1 [] [true, true, false, false], hz_m (.invokevirtual 219) 3 [185, 2, 0] [], hz_n, hz_n, hz_r (.iload_n 1) 1, hz_r (.ifCond .le 7) 3],
  [hz_n, hz_n, hz_m (.iconst 1) 1 [] [true, true, false, false], hz_r (.goto 4) 3, hz_n, hz_n, hz_m (.iconst 0) 1 [] [true, true, false, false], hz_m (.istore_n 2) 1 [] [true, true, false, false], hz_r (.goto (-96)) 3, hz_n, hz_n, hz_m (.iconst 1) 1 [] [false, false, false, false], hz_r (.ireturn) 1]]
/-- HeavierServesModel.will()I -/
def hs_k188 : hs_K := [
  [hz_m (.aload_n 0) 1 [] [true, false, false, false, false], hz_r (.iconst 0) 1, hz_m (.putfield 3) 3 [12, 0] [], hz_n, hz_n, hz_r (.aload_n 0) 1, hz_r (.bipush 40) 2, hz_n, hz_m (.invokevirtual 193) 3 [173, 2, 1] [], hz_n, hz_n, hz_r (.istore_n 1) 1, hz_r (.aload_n 0) 1, hz_r (.iconst 0) 1, hz_m (.putfield 213) 3 [12, 25] [], hz_n],
  [hz_n, hz_r (.iload_n 1) 1, hz_r (.ifCond .eq 11) 3, hz_n, hz_n, hz_m (.aload_n 0) 1 [] [true, true, false, false, false], hz_r (.iconst 0) 1, hz_m (.invokevirtual 225) 3 [187, 2, 1] [], hz_n, hz_n, hz_r (.ifCond .eq 7) 3, hz_n, hz_n, hz_m (.iconst 1) 1 [] [true, true, false, false, false], hz_r (.goto 4) 3, hz_n],
  [hz_n, hz_m (.iconst 0) 1 [] [true, true, false, false, false], hz_m (.istore_n 2) 1 [] [true, true, false, false, false], hz_r (.aload_n 0) 1, hz_r (.iload_n 1) 1, hz_r (.bipush 40) 2, hz_n, hz_r (.iload_n 2) 1, hz_m (.invokevirtual 199) 3 [178, 4, 1] [], hz_n, hz_n, hz_r (.istore_n 3) 1, hz_r (.iload_n 3) 1, hz_r (.ifCond .ge 5) 3, hz_n, hz_n],
  [hz_m (.iload_n 3) 1 [] [false, false, false, true, false], hz_r (.ireturn) 1, hz_m (.aload_n 0) 1 [] [true, false, false, false, false], hz_r (.aload_n 0) 1, hz_m (.getfield 213) 3 [12, 25] [], hz_n, hz_n, hz_m (.putfield 232) 3 [12, 24] [], hz_n, hz_n, hz_r (.iconst 0) 1, hz_r (.istore 4) 2, hz_n, hz_m (.iload 4) 2 [] [true, false, false, false, true], hz_n, hz_r (.aload_n 0) 1],
  [hz_m (.getfield 213) 3 [12, 25] [], hz_n, hz_n, hz_r (.if_icmp .ge 23) 3, hz_n, hz_n, hz_m (.aload_n 0) 1 [] [true, false, false, false, true], hz_m (.getfield 65) 3 [12, 22] [], hz_n, hz_n, hz_r (.iload 4) 2, hz_n, hz_r (.aload_n 0) 1, hz_m (.getfield 68) 3 [12, 23] [], hz_n, hz_n],
  [hz_r (.iload 4) 2, hz_n, hz_r (.iaload) 1, hz_r (.iastore) 1, hz_r (.iinc 4 1) 3, hz_n, hz_n, hz_r (.goto (-26)) 3, hz_n, hz_n, hz_m (.iconst 0) 1 [] [false, false, false, false, false], hz_r (.ireturn) 1]]
/-- HeavierServesModel.holding([I)I -/
def hs_k189 : hs_K := [
  [hz_m (.iconst 0) 1 [] [false, true, false, false], hz_r (.istore_n 2) 1, hz_r (.iconst 0) 1, hz_r (.istore_n 3) 1, hz_m (.iload_n 3) 1 [] [false, true, true, true], hz_r (.aload_n 1) 1, hz_r (.bipush 20) 2, hz_n, hz_r (.iaload) 1, hz_r (.if_icmp .ge 29) 3, hz_n, hz_n, hz_m (.iload_n 2) 1 [] [false, true, true, true], hz_r (.aload_n 1) 1, hz_r (.bipush 45) 2, hz_n],
  [hz_r (.iload_n 3) 1, hz_r (.iadd) 1, hz_r (.iaload) 1, hz_r (.ifCond .ge 7) 3, hz_n, hz_n, hz_m (.iconst 1) 1 [] [false, true, false, true], hz_r (.goto 4) 3, hz_n, hz_n, hz_m (.iconst 0) 1 [] [false, true, false, true], hz_m (.invokestatic 150) 3 [165, 1, 1] [false, true, false, true], hz_n, hz_n, hz_r (.iadd) 1, hz_r (.istore_n 2) 1],
  [hz_r (.iinc 3 1) 3, hz_n, hz_n, hz_r (.goto (-31)) 3, hz_n, hz_n, hz_m (.iload_n 2) 1 [] [false, false, true, false], hz_r (.ireturn) 1]]
/-- HeavierServesModel.thingOf([III)I -/
def hs_k190 : hs_K := [
  [hz_m (.aload_n 1) 1 [] [true, true, true, true, false], hz_r (.bipush 17) 2, hz_n, hz_r (.iaload) 1, hz_r (.istore 4) 2, hz_n, hz_r (.iload_n 3) 1, hz_r (.tableswitch 116 0 7 #[45, 47, 51, 58, 72, 89, 103, 109]) 45, hz_n, hz_n, hz_n, hz_n, hz_n, hz_n, hz_n, hz_n],
  [hz_n, hz_n, hz_n, hz_n, hz_n, hz_n, hz_n, hz_n, hz_n, hz_n, hz_n, hz_n, hz_n, hz_n, hz_n, hz_n],
  [hz_n, hz_n, hz_n, hz_n, hz_n, hz_n, hz_n, hz_n, hz_n, hz_n, hz_n, hz_n, hz_n, hz_n, hz_n, hz_n],
  [hz_n, hz_n, hz_n, hz_n, hz_m (.iload_n 2) 1 [] [false, false, true, false, false], hz_r (.ireturn) 1, hz_m (.aload_n 1) 1 [] [false, true, true, false, false], hz_r (.iload_n 2) 1, hz_r (.iaload) 1, hz_r (.ireturn) 1, hz_m (.aload_n 0) 1 [] [true, false, true, false, false], hz_m (.getfield 28) 3 [12, 4] [], hz_n, hz_n, hz_r (.iload_n 2) 1, hz_r (.iaload) 1],
  [hz_r (.ireturn) 1, hz_m (.iload 4) 2 [] [false, true, false, false, true], hz_n, hz_r (.ifCond .ge 7) 3, hz_n, hz_n, hz_m (.iconst 0) 1 [] [false, false, false, false, false], hz_r (.goto 7) 3, hz_n, hz_n, hz_m (.aload_n 1) 1 [] [false, true, false, false, true], hz_r (.iload 4) 2, hz_n, hz_r (.iaload) 1, hz_m (.ireturn) 1 [] [false, false, false, false, false], hz_m (.iload 4) 2 [] [true, false, false, false, true]],
  [hz_n, hz_r (.ifCond .ge 7) 3, hz_n, hz_n, hz_m (.iconst (-1)) 1 [] [false, false, false, false, false], hz_r (.goto 10) 3, hz_n, hz_n, hz_m (.aload_n 0) 1 [] [true, false, false, false, true], hz_m (.getfield 28) 3 [12, 4] [], hz_n, hz_n, hz_r (.iload 4) 2, hz_n, hz_r (.iaload) 1, hz_m (.ireturn) 1 [] [false, false, false, false, false]],
  [hz_m (.iload 4) 2 [] [false, true, false, false, true], hz_n, hz_r (.ifCond .ge 7) 3, hz_n, hz_n, hz_m (.iconst 0) 1 [] [false, false, false, false, false], hz_r (.goto 7) 3, hz_n, hz_n, hz_m (.aload_n 1) 1 [] [false, true, false, false, false], hz_r (.bipush 18) 2, hz_n, hz_r (.iaload) 1, hz_m (.ireturn) 1 [] [false, false, false, false, false], hz_m (.aload_n 0) 1 [] [true, true, false, false, false], hz_r (.aload_n 1) 1],
  [hz_m (.invokevirtual 235) 3 [189, 2, 1] [], hz_n, hz_n, hz_r (.ireturn) 1, hz_m (.aload_n 1) 1 [] [false, true, true, false, false], hz_r (.bipush 8) 2, hz_n, hz_r (.iload_n 2) 1, hz_r (.iadd) 1, hz_r (.iaload) 1, hz_r (.ireturn) 1, hz_m (.aload_n 1) 1 [] [false, true, false, false, false], hz_r (.bipush 19) 2, hz_n, hz_r (.iaload) 1, hz_r (.ireturn) 1]]
/-- HeavierServesModel.worked(III)I -/
def hs_k191 : hs_K := [
  [hz_r (.iload_n 0) 1, hz_r (.tableswitch 93 0 5 #[39, 53, 67, 81, 85, 89]) 39, hz_n, hz_n, hz_n, hz_n, hz_n, hz_n, hz_n, hz_n, hz_n, hz_n, hz_n, hz_n, hz_n, hz_n],
  [hz_n, hz_n, hz_n, hz_n, hz_n, hz_n, hz_n, hz_n, hz_n, hz_n, hz_n, hz_n, hz_n, hz_n, hz_n, hz_n],
  [hz_n, hz_n, hz_n, hz_n, hz_n, hz_n, hz_n, hz_n, hz_m (.iload_n 1) 1 [] [false, true, true], hz_r (.iload_n 2) 1, hz_r (.if_icmp .ge 7) 3, hz_n, hz_n, hz_m (.iconst 1) 1 [] [false, false, false], hz_r (.goto 4) 3, hz_n],
  [hz_n, hz_m (.iconst 0) 1 [] [false, false, false], hz_m (.invokestatic 150) 3 [165, 1, 1] [false, false, false], hz_n, hz_n, hz_r (.ireturn) 1, hz_m (.iload_n 1) 1 [] [false, true, true], hz_r (.iload_n 2) 1, hz_r (.if_icmp .le 7) 3, hz_n, hz_n, hz_m (.iconst 1) 1 [] [false, false, false], hz_r (.goto 4) 3, hz_n, hz_n, hz_m (.iconst 0) 1 [] [false, false, false]],
  [hz_m (.invokestatic 150) 3 [165, 1, 1] [false, false, false], hz_n, hz_n, hz_r (.ireturn) 1, hz_m (.iload_n 1) 1 [] [false, true, true], hz_r (.iload_n 2) 1, hz_r (.if_icmp .ne 7) 3, hz_n, hz_n, hz_m (.iconst 1) 1 [] [false, false, false], hz_r (.goto 4) 3, hz_n, hz_n, hz_m (.iconst 0) 1 [] [false, false, false], hz_m (.invokestatic 150) 3 [165, 1, 1] [false, false, false], hz_n],
  [hz_n, hz_r (.ireturn) 1, hz_m (.iload_n 1) 1 [] [false, true, true], hz_r (.iload_n 2) 1, hz_r (.iadd) 1, hz_r (.ireturn) 1, hz_m (.iload_n 1) 1 [] [false, true, true], hz_r (.iload_n 2) 1, hz_r (.isub) 1, hz_r (.ireturn) 1, hz_m (.iload_n 1) 1 [] [false, true, true], hz_r (.iload_n 2) 1, hz_r (.imul) 1, hz_r (.ireturn) 1, hz_m (.iload_n 2) 1 [] [false, true, true], hz_r (.ifCond .ne 7) 3],
  [hz_n, hz_n, hz_m (.iconst 0) 1 [] [false, false, false], hz_r (.goto 6) 3, hz_n, hz_n, hz_m (.iload_n 1) 1 [] [false, true, true], hz_r (.iload_n 2) 1, hz_r (.idiv) 1, hz_m (.ireturn) 1 [] [false, false, false]]]
/-- HeavierServesModel.willOf([II)I -/
def hs_k192 : hs_K := [
  [hz_m (.aload_n 0) 1 [] [true, true, true, false, false, false], hz_m (.getfield 232) 3 [12, 24] [], hz_n, hz_n, hz_r (.ifCond .ne 5) 3, hz_n, hz_n, hz_m (.iconst 1) 1 [] [false, false, false, false, false, false], hz_r (.ireturn) 1, hz_m (.iconst 0) 1 [] [true, true, true, false, false, false], hz_r (.istore_n 3) 1, hz_r (.iconst 0) 1, hz_r (.istore 4) 2, hz_n, hz_m (.iload 4) 2 [] [true, true, true, true, true, false], hz_n],
  [hz_r (.aload_n 0) 1, hz_m (.getfield 232) 3 [12, 24] [], hz_n, hz_n, hz_r (.if_icmp .ge 125) 3, hz_n, hz_n, hz_m (.aload_n 0) 1 [] [true, true, true, true, true, false], hz_m (.getfield 65) 3 [12, 22] [], hz_n, hz_n, hz_r (.iload 4) 2, hz_n, hz_r (.iaload) 1, hz_r (.istore 5) 2, hz_n],
  [hz_r (.iload 5) 2, hz_n, hz_r (.sipush 3000) 3, hz_n, hz_n, hz_r (.if_icmp .ne 23) 3, hz_n, hz_n, hz_m (.aload_n 0) 1 [] [true, true, true, true, true, false], hz_m (.getfield 71) 3 [12, 26] [], hz_n, hz_n, hz_r (.iload_n 3) 1, hz_r (.iconst 1) 1, hz_r (.isub) 1, hz_r (.aload_n 0) 1],
  [hz_m (.getfield 71) 3 [12, 26] [], hz_n, hz_n, hz_r (.iload_n 3) 1, hz_r (.iconst 1) 1, hz_r (.isub) 1, hz_r (.iaload) 1, hz_r (.ineg) 1, hz_r (.iastore) 1, hz_r (.goto 82) 3, hz_n, hz_n, hz_r (.iload 5) 2, hz_n, hz_r (.sipush 2000) 3, hz_n],
  [hz_n, hz_r (.if_icmp .lt 40) 3, hz_n, hz_n, hz_r (.iinc 3 (-1)) 3, hz_n, hz_n, hz_r (.aload_n 0) 1, hz_m (.getfield 71) 3 [12, 26] [], hz_n, hz_n, hz_r (.iload_n 3) 1, hz_r (.iconst 1) 1, hz_r (.isub) 1, hz_r (.iload 5) 2, hz_n],
  [hz_r (.sipush 2000) 3, hz_n, hz_n, hz_r (.isub) 1, hz_r (.aload_n 0) 1, hz_m (.getfield 71) 3 [12, 26] [], hz_n, hz_n, hz_r (.iload_n 3) 1, hz_r (.iconst 1) 1, hz_r (.isub) 1, hz_r (.iaload) 1, hz_r (.aload_n 0) 1, hz_m (.getfield 71) 3 [12, 26] [], hz_n, hz_n],
  [hz_r (.iload_n 3) 1, hz_r (.iaload) 1, hz_m (.invokestatic 239) 3 [191, 3, 1] [], hz_n, hz_n, hz_r (.iastore) 1, hz_r (.goto 37) 3, hz_n, hz_n, hz_r (.aload_n 0) 1, hz_m (.getfield 71) 3 [12, 26] [], hz_n, hz_n, hz_r (.iload_n 3) 1, hz_r (.iload 5) 2, hz_n],
  [hz_r (.sipush 1000) 3, hz_n, hz_n, hz_r (.if_icmp .lt 18) 3, hz_n, hz_n, hz_r (.aload_n 0) 1, hz_r (.aload_n 1) 1, hz_r (.iload_n 2) 1, hz_r (.iload 5) 2, hz_n, hz_r (.sipush 1000) 3, hz_n, hz_n, hz_r (.isub) 1, hz_m (.invokevirtual 243) 3 [190, 4, 1] []],
  [hz_n, hz_n, hz_r (.goto 5) 3, hz_n, hz_n, hz_r (.iload 5) 2, hz_n, hz_m (.iastore) 1 [] [true, true, true, true, true, false], hz_r (.iinc 3 1) 3, hz_n, hz_n, hz_m (.iinc 4 1) 3 [] [true, true, true, true, true, false], hz_n, hz_n, hz_r (.goto (-128)) 3, hz_n],
  [hz_n, hz_m (.aload_n 0) 1 [] [true, false, false, false, false, false], hz_m (.getfield 71) 3 [12, 26] [], hz_n, hz_n, hz_r (.iconst 0) 1, hz_r (.iaload) 1, hz_r (.ireturn) 1]]
/-- HeavierServesModel.willing([I)I -/
def hs_k193 : hs_K := [
  [hz_m (.iconst 0) 1 [] [true, true, false, false], hz_r (.istore_n 2) 1, hz_r (.iconst 0) 1, hz_r (.istore_n 3) 1, hz_r (.iload_n 3) 1, hz_r (.aload_n 0) 1, hz_m (.getfield 117) 3 [12, 3] [], hz_n, hz_n, hz_r (.if_icmp .ge 39) 3, hz_n, hz_n, hz_r (.iload_n 2) 1, hz_r (.aload_n 1) 1, hz_r (.bipush 16) 2, hz_n],
  [hz_r (.iaload) 1, hz_r (.iload_n 3) 1, hz_m (.invokestatic 128) 3 [164, 2, 1] [], hz_n, hz_n, hz_r (.ifCond .eq 18) 3, hz_n, hz_n, hz_m (.aload_n 0) 1 [] [true, true, false, true], hz_r (.aload_n 1) 1, hz_r (.iload_n 3) 1, hz_m (.invokevirtual 247) 3 [192, 3, 1] [], hz_n, hz_n, hz_r (.ifCond .eq 9) 3, hz_n],
  [hz_n, hz_m (.iconst 1) 1 [] [true, true, false, true], hz_r (.iload_n 3) 1, hz_r (.ishl) 1, hz_r (.goto 4) 3, hz_n, hz_n, hz_m (.iconst 0) 1 [] [true, true, false, true], hz_m (.ior) 1 [] [true, true, false, true], hz_r (.istore_n 2) 1, hz_r (.iinc 3 1) 3, hz_n, hz_n, hz_r (.goto (-41)) 3, hz_n, hz_n],
  [hz_m (.iload_n 2) 1 [] [false, false, true, false], hz_r (.ireturn) 1]]
/-- HeavierServesModel.shows(I)I -/
def hs_k194 : hs_K := [
  [hz_m (.iconst 0) 1 [] [true, true, false], hz_r (.iload_n 1) 1, hz_r (.aload_n 0) 1, hz_m (.getfield 251) 3 [12, 9] [], hz_n, hz_n, hz_r (.iadd) 1, hz_m (.invokestatic 254) 3 [2, 2, 1] [], hz_n, hz_n, hz_r (.istore_n 2) 1, hz_r (.iload_n 2) 1, hz_r (.iload_n 2) 1, hz_r (.aload_n 0) 1, hz_m (.getfield 41) 3 [12, 8] [], hz_n],
  [hz_n, hz_r (.irem) 1, hz_r (.isub) 1, hz_r (.ireturn) 1]]
/-- HeavierServesModel.of(II)I -/
def hs_k195 : hs_K := [
  [hz_r (.aload_n 0) 1, hz_r (.iconst 0) 1, hz_m (.putfield 3) 3 [12, 0] [], hz_n, hz_n, hz_r (.aload_n 0) 1, hz_r (.iload_n 1) 1, hz_m (.invokevirtual 124) 3 [169, 2, 1] [], hz_n, hz_n, hz_r (.ifCond .eq 15) 3, hz_n, hz_n, hz_r (.iload_n 2) 1, hz_r (.i2l) 1, hz_r (.lconst 0) 1],
  [hz_m (.ldc2_w 257) 3 [0, 7] [], hz_n, hz_n, hz_m (.invokestatic 120) 3 [163, 3, 1] [], hz_n, hz_n, hz_r (.ifCond .ne 8) 3, hz_n, hz_n, hz_m (.aload_n 0) 1 [] [true, false, false], hz_m (.invokevirtual 259) 3 [162, 1, 1] [], hz_n, hz_n, hz_r (.ireturn) 1, hz_r (.iload_n 2) 1, hz_r (.tableswitch 108 0 6 #[41, 48, 55, 62, 77, 87, 98]) 41],
  [hz_n, hz_n, hz_n, hz_n, hz_n, hz_n, hz_n, hz_n, hz_n, hz_n, hz_n, hz_n, hz_n, hz_n, hz_n, hz_n],
  [hz_n, hz_n, hz_n, hz_n, hz_n, hz_n, hz_n, hz_n, hz_n, hz_n, hz_n, hz_n, hz_n, hz_n, hz_n, hz_n],
  [hz_n, hz_n, hz_n, hz_n, hz_n, hz_n, hz_n, hz_n, hz_m (.aload_n 0) 1 [] [true, true, false], hz_m (.getfield 44) 3 [12, 10] [], hz_n, hz_n, hz_r (.iload_n 1) 1, hz_r (.iaload) 1, hz_r (.ireturn) 1, hz_m (.aload_n 0) 1 [] [true, true, false]],
  [hz_m (.getfield 28) 3 [12, 4] [], hz_n, hz_n, hz_r (.iload_n 1) 1, hz_r (.iaload) 1, hz_r (.ireturn) 1, hz_m (.aload_n 0) 1 [] [true, true, false], hz_m (.getfield 32) 3 [12, 5] [], hz_n, hz_n, hz_r (.iload_n 1) 1, hz_r (.iaload) 1, hz_r (.ireturn) 1, hz_m (.aload_n 0) 1 [] [true, true, false], hz_m (.getfield 44) 3 [12, 10] [], hz_n],
  [hz_n, hz_r (.bipush 16) 2, hz_n, hz_r (.iaload) 1, hz_r (.iload_n 1) 1, hz_m (.invokestatic 128) 3 [164, 2, 1] [], hz_n, hz_n, hz_m (.invokestatic 150) 3 [165, 1, 1] [], hz_n, hz_n, hz_r (.ireturn) 1, hz_m (.aload_n 0) 1 [] [true, true, false], hz_m (.getfield 44) 3 [12, 10] [], hz_n, hz_n],
  [hz_r (.bipush 8) 2, hz_n, hz_r (.iload_n 1) 1, hz_r (.iadd) 1, hz_r (.iaload) 1, hz_r (.ireturn) 1, hz_m (.aload_n 0) 1 [] [true, true, false], hz_r (.aload_n 0) 1, hz_m (.getfield 44) 3 [12, 10] [], hz_n, hz_n, hz_r (.iload_n 1) 1, hz_r (.iaload) 1, hz_m (.invokevirtual 262) 3 [194, 2, 1] [], hz_n, hz_n],
  [hz_r (.ireturn) 1, hz_m (.aload_n 0) 1 [] [true, true, false], hz_r (.aload_n 0) 1, hz_m (.getfield 44) 3 [12, 10] [], hz_n, hz_n, hz_r (.iload_n 1) 1, hz_m (.invokevirtual 247) 3 [192, 3, 1] [], hz_n, hz_n, hz_r (.ireturn) 1, hz_m (.aload_n 0) 1 [] [true, true, false], hz_m (.getfield 38) 3 [12, 7] [], hz_n, hz_n, hz_r (.iload_n 1) 1],
  [hz_r (.iaload) 1, hz_r (.ireturn) 1]]
/-- HeavierServesModel.change(II)I -/
def hs_k196 : hs_K := [
  [hz_r (.aload_n 0) 1, hz_r (.iconst 0) 1, hz_m (.putfield 3) 3 [12, 0] [], hz_n, hz_n, hz_r (.aload_n 0) 1, hz_r (.iload_n 1) 1, hz_m (.invokevirtual 124) 3 [169, 2, 1] [], hz_n, hz_n, hz_r (.ifCond .eq 21) 3, hz_n, hz_n, hz_r (.iload_n 2) 1, hz_r (.i2l) 1, hz_r (.lconst 0) 1],
  [hz_r (.aload_n 0) 1, hz_m (.getfield 38) 3 [12, 7] [], hz_n, hz_n, hz_r (.iload_n 1) 1, hz_r (.iaload) 1, hz_r (.iconst 1) 1, hz_r (.isub) 1, hz_r (.i2l) 1, hz_m (.invokestatic 120) 3 [163, 3, 1] [], hz_n, hz_n, hz_r (.ifCond .ne 8) 3, hz_n, hz_n, hz_m (.aload_n 0) 1 [] [true, false, false]],
  [hz_m (.invokevirtual 259) 3 [162, 1, 1] [], hz_n, hz_n, hz_r (.ireturn) 1, hz_r (.aload_n 0) 1, hz_m (.getfield 35) 3 [12, 6] [], hz_n, hz_n, hz_r (.bipush 6) 2, hz_n, hz_r (.iload_n 1) 1, hz_r (.imul) 1, hz_r (.iload_n 2) 1, hz_r (.iadd) 1, hz_r (.iaload) 1, hz_r (.ireturn) 1]]
/-- HeavierServesModel.set(III)I -/
def hs_k197 : hs_K := [
  [hz_m (.aload_n 0) 1 [] [true, true, true, true, false, false, false], hz_r (.iconst 0) 1, hz_m (.putfield 3) 3 [12, 0] [], hz_n, hz_n, hz_r (.iload_n 1) 1, hz_r (.ifCond .ne 15) 3, hz_n, hz_n, hz_m (.iload_n 3) 1 [] [true, true, true, true, false, false, false], hz_r (.i2l) 1, hz_r (.lconst 1) 1, hz_m (.ldc2_w 265) 3 [0, 999] [], hz_n, hz_n, hz_m (.invokestatic 120) 3 [163, 3, 1] []],
  [hz_n, hz_n, hz_r (.goto 42) 3, hz_n, hz_n, hz_m (.iload_n 1) 1 [] [true, true, true, true, false, false, false], hz_r (.iconst 1) 1, hz_r (.if_icmp .ne 15) 3, hz_n, hz_n, hz_m (.iload_n 3) 1 [] [true, true, true, true, false, false, false], hz_r (.i2l) 1, hz_r (.lconst 0) 1, hz_m (.ldc2_w 267) 3 [0, 3] [], hz_n, hz_n],
  [hz_m (.invokestatic 120) 3 [163, 3, 1] [], hz_n, hz_n, hz_r (.goto 25) 3, hz_n, hz_n, hz_m (.iload_n 1) 1 [] [true, true, true, true, false, false, false], hz_r (.iconst 2) 1, hz_r (.if_icmp .ne 19) 3, hz_n, hz_n, hz_m (.iload_n 3) 1 [] [true, true, true, true, false, false, false], hz_r (.i2l) 1, hz_r (.lconst 0) 1, hz_m (.ldc2_w 269) 3 [0, 9] [], hz_n],
  [hz_n, hz_m (.invokestatic 120) 3 [163, 3, 1] [], hz_n, hz_n, hz_r (.ifCond .eq 7) 3, hz_n, hz_n, hz_m (.iconst 1) 1 [] [true, true, true, true, false, false, false], hz_r (.goto 4) 3, hz_n, hz_n, hz_m (.iconst 0) 1 [] [true, true, true, true, false, false, false], hz_m (.istore 4) 2 [] [true, true, true, true, false, false, false], hz_n, hz_r (.aload_n 0) 1, hz_r (.iload_n 2) 1],
  [hz_m (.invokevirtual 124) 3 [169, 2, 1] [], hz_n, hz_n, hz_r (.ifCond .eq 8) 3, hz_n, hz_n, hz_m (.iload 4) 2 [] [true, true, true, true, true, false, false], hz_n, hz_r (.ifCond .ne 5) 3, hz_n, hz_n, hz_m (.iconst (-1)) 1 [] [false, false, false, false, false, false, false], hz_r (.ireturn) 1, hz_m (.iload_n 1) 1 [] [true, true, true, true, false, false, false], hz_r (.ifCond .ne 10) 3, hz_n],
  [hz_n, hz_m (.aload_n 0) 1 [] [true, false, true, true, false, false, false], hz_m (.getfield 44) 3 [12, 10] [], hz_n, hz_n, hz_r (.goto 19) 3, hz_n, hz_n, hz_m (.iload_n 1) 1 [] [true, true, true, true, false, false, false], hz_r (.iconst 1) 1, hz_r (.if_icmp .ne 10) 3, hz_n, hz_n, hz_m (.aload_n 0) 1 [] [true, false, true, true, false, false, false], hz_m (.getfield 28) 3 [12, 4] [], hz_n],
  [hz_n, hz_r (.goto 7) 3, hz_n, hz_n, hz_m (.aload_n 0) 1 [] [true, false, true, true, false, false, false], hz_m (.getfield 32) 3 [12, 5] [], hz_n, hz_n, hz_m (.astore 5) 2 [] [false, false, true, true, false, false, false], hz_n, hz_r (.aload 5) 2, hz_n, hz_r (.iload_n 2) 1, hz_r (.iaload) 1, hz_r (.istore 6) 2, hz_n],
  [hz_r (.aload 5) 2, hz_n, hz_r (.iload_n 2) 1, hz_r (.iload_n 3) 1, hz_r (.iastore) 1, hz_r (.iload 6) 2, hz_n, hz_r (.ireturn) 1]]
end
section
/-! ===== the code rows of the methods, 4 ===== -/
/-- HeavierServesModel.scale(II)Z -/
def hs_k198 : hs_K := [
  [hz_r (.aload_n 0) 1, hz_r (.iconst 0) 1, hz_m (.putfield 3) 3 [12, 0] [], hz_n, hz_n, hz_r (.iload_n 1) 1, hz_r (.ifCond .ne 22) 3, hz_n, hz_n, hz_r (.iload_n 2) 1, hz_r (.i2l) 1, hz_r (.lconst 1) 1, hz_m (.ldc2_w 269) 3 [0, 9] [], hz_n, hz_n, hz_m (.invokestatic 120) 3 [163, 3, 1] []],
  [hz_n, hz_n, hz_r (.ifCond .eq 10) 3, hz_n, hz_n, hz_m (.aload_n 0) 1 [] [true, false, true], hz_r (.iload_n 2) 1, hz_m (.putfield 41) 3 [12, 8] [], hz_n, hz_n, hz_r (.iconst 1) 1, hz_r (.ireturn) 1, hz_r (.iload_n 1) 1, hz_r (.iconst 1) 1, hz_r (.if_icmp .ne 24) 3, hz_n],
  [hz_n, hz_m (.iload_n 2) 1 [] [true, false, true], hz_r (.i2l) 1, hz_m (.ldc2_w 271) 3 [1, 9] [], hz_n, hz_n, hz_m (.ldc2_w 269) 3 [0, 9] [], hz_n, hz_n, hz_m (.invokestatic 120) 3 [163, 3, 1] [], hz_n, hz_n, hz_r (.ifCond .eq 10) 3, hz_n, hz_n, hz_m (.aload_n 0) 1 [] [true, false, true]],
  [hz_r (.iload_n 2) 1, hz_m (.putfield 251) 3 [12, 9] [], hz_n, hz_n, hz_r (.iconst 1) 1, hz_r (.ireturn) 1, hz_m (.iconst 0) 1 [] [false, false, false], hz_r (.ireturn) 1]]
/-- HeavierServesModel.sheet(IIII)I -/
def hs_k199 : hs_K := [
  [hz_m (.aload_n 0) 1 [] [true, true, true, true, true, false, false, false, false], hz_r (.iconst 0) 1, hz_m (.putfield 3) 3 [12, 0] [], hz_n, hz_n, hz_r (.iload_n 1) 1, hz_r (.i2l) 1, hz_r (.lconst 0) 1, hz_m (.ldc2_w 267) 3 [0, 3] [], hz_n, hz_n, hz_m (.invokestatic 120) 3 [163, 3, 1] [], hz_n, hz_n, hz_r (.ifCond .eq 9) 3, hz_n],
  [hz_n, hz_m (.iload_n 2) 1 [] [true, true, true, true, true, false, false, false, false], hz_r (.bipush 8) 2, hz_n, hz_r (.if_icmp .le 5) 3, hz_n, hz_n, hz_m (.iconst (-1)) 1 [] [false, false, false, false, false, false, false, false, false], hz_r (.ireturn) 1, hz_m (.iload_n 1) 1 [] [true, true, true, true, true, false, false, false, false], hz_r (.iconst 3) 1, hz_r (.if_icmp .eq 10) 3, hz_n, hz_n, hz_m (.iload_n 2) 1 [] [true, true, true, true, true, false, false, false, false], hz_r (.ifCond .ge 6) 3],
  [hz_n, hz_n, hz_m (.bipush (-2)) 2 [] [false, false, false, false, false, false, false, false, false], hz_n, hz_r (.ireturn) 1, hz_m (.iconst 0) 1 [] [true, true, true, true, true, false, false, false, false], hz_r (.istore 5) 2, hz_n, hz_r (.iload_n 3) 1, hz_r (.istore 6) 2, hz_n, hz_r (.iconst 0) 1, hz_r (.istore 7) 2, hz_n, hz_m (.iload 7) 2 [] [true, true, true, false, true, true, true, true, false], hz_n],
  [hz_r (.aload_n 0) 1, hz_m (.getfield 117) 3 [12, 3] [], hz_n, hz_n, hz_r (.if_icmp .ge 87) 3, hz_n, hz_n, hz_m (.iload_n 1) 1 [] [true, true, true, false, true, true, true, true, false], hz_r (.ifCond .ne 9) 3, hz_n, hz_n, hz_m (.iload 6) 2 [] [true, true, true, false, true, true, true, true, false], hz_n, hz_r (.i2b) 1, hz_r (.goto 16) 3, hz_n],
  [hz_n, hz_m (.iload_n 1) 1 [] [true, true, true, false, true, true, true, true, false], hz_r (.iconst 1) 1, hz_r (.if_icmp .ne 9) 3, hz_n, hz_n, hz_m (.iload 6) 2 [] [true, true, true, false, true, true, true, true, false], hz_n, hz_r (.i2s) 1, hz_r (.goto 5) 3, hz_n, hz_n, hz_m (.iload 6) 2 [] [true, true, true, false, true, true, true, true, false], hz_n, hz_m (.istore 8) 2 [] [true, true, true, false, true, true, true, true, false], hz_n],
  [hz_r (.aload_n 0) 1, hz_m (.getfield 44) 3 [12, 10] [], hz_n, hz_n, hz_r (.iload 7) 2, hz_n, hz_r (.iload_n 1) 1, hz_r (.iconst 3) 1, hz_r (.if_icmp .eq 9) 3, hz_n, hz_n, hz_m (.iload 7) 2 [] [true, true, true, false, true, true, true, true, true], hz_n, hz_r (.iload_n 2) 1, hz_r (.if_icmp .lt 7) 3, hz_n],
  [hz_n, hz_m (.iconst 1) 1 [] [true, true, true, false, true, true, true, true, false], hz_r (.goto 15) 3, hz_n, hz_n, hz_m (.iconst 1) 1 [] [true, true, true, false, true, true, true, true, true], hz_r (.sipush 999) 3, hz_n, hz_n, hz_r (.iload 8) 2, hz_n, hz_m (.invokestatic 141) 3 [3, 2, 1] [], hz_n, hz_n, hz_m (.invokestatic 254) 3 [2, 2, 1] [], hz_n],
  [hz_n, hz_m (.iastore) 1 [] [true, true, true, false, true, true, true, true, false], hz_r (.iload 5) 2, hz_n, hz_r (.aload_n 0) 1, hz_m (.getfield 44) 3 [12, 10] [], hz_n, hz_n, hz_r (.iload 7) 2, hz_n, hz_r (.iaload) 1, hz_r (.iadd) 1, hz_r (.istore 5) 2, hz_n, hz_r (.iload 6) 2, hz_n],
  [hz_r (.iload 4) 2, hz_n, hz_r (.iadd) 1, hz_r (.istore 6) 2, hz_n, hz_r (.iinc 7 1) 3, hz_n, hz_n, hz_r (.goto (-90)) 3, hz_n, hz_n, hz_m (.iload_n 1) 1 [] [false, true, false, false, false, true, false, false, false], hz_r (.iconst 3) 1, hz_r (.if_icmp .ne 8) 3, hz_n, hz_n],
  [hz_m (.bipush (-3)) 2 [] [false, false, false, false, false, false, false, false, false], hz_n, hz_r (.goto 5) 3, hz_n, hz_n, hz_m (.iload 5) 2 [] [false, false, false, false, false, true, false, false, false], hz_n, hz_m (.ireturn) 1 [] [false, false, false, false, false, false, false, false, false]]]
/-- HeavierServesModel.goes([II)V -/
def hs_k200 : hs_K := [
  [hz_m (.iconst (-1)) 1 [] [true, true, true, false, false, false], hz_r (.istore_n 3) 1, hz_r (.iconst 0) 1, hz_r (.istore 4) 2, hz_n, hz_m (.iload 4) 2 [] [true, true, true, true, true, false], hz_n, hz_r (.aload_n 0) 1, hz_m (.getfield 117) 3 [12, 3] [], hz_n, hz_n, hz_r (.if_icmp .ge 80) 3, hz_n, hz_n, hz_m (.iload_n 2) 1 [] [true, true, true, true, true, false], hz_r (.iload 4) 2],
  [hz_n, hz_m (.invokestatic 128) 3 [164, 2, 1] [], hz_n, hz_n, hz_r (.ifCond .eq 28) 3, hz_n, hz_n, hz_m (.aload_n 1) 1 [] [true, true, true, true, true, false], hz_r (.bipush 16) 2, hz_n, hz_r (.iaload) 1, hz_r (.iload 4) 2, hz_n, hz_m (.invokestatic 128) 3 [164, 2, 1] [], hz_n, hz_n],
  [hz_r (.ifCond .eq 16) 3, hz_n, hz_n, hz_m (.iload 4) 2 [] [true, true, true, true, true, false], hz_n, hz_r (.aload_n 1) 1, hz_r (.bipush 17) 2, hz_n, hz_r (.iaload) 1, hz_r (.if_icmp .eq 7) 3, hz_n, hz_n, hz_m (.iconst 1) 1 [] [true, true, true, true, true, false], hz_r (.goto 4) 3, hz_n, hz_n],
  [hz_m (.iconst 0) 1 [] [true, true, true, true, true, false], hz_m (.istore 5) 2 [] [true, true, true, true, true, false], hz_n, hz_r (.iload 5) 2, hz_n, hz_r (.ifCond .eq 30) 3, hz_n, hz_n, hz_m (.iload_n 3) 1 [] [true, true, true, true, true, false], hz_r (.ifCond .lt 21) 3, hz_n, hz_n, hz_m (.aload_n 0) 1 [] [true, true, true, true, true, false], hz_r (.aload_n 1) 1, hz_r (.iload 4) 2, hz_n],
  [hz_r (.iaload) 1, hz_m (.invokevirtual 262) 3 [194, 2, 1] [], hz_n, hz_n, hz_r (.aload_n 0) 1, hz_r (.aload_n 1) 1, hz_r (.iload_n 3) 1, hz_r (.iaload) 1, hz_m (.invokevirtual 262) 3 [194, 2, 1] [], hz_n, hz_n, hz_r (.if_icmp .le 8) 3, hz_n, hz_n, hz_m (.iload 4) 2 [] [true, true, true, false, true, false], hz_n],
  [hz_r (.goto 4) 3, hz_n, hz_n, hz_m (.iload_n 3) 1 [] [true, true, true, true, true, false], hz_m (.istore_n 3) 1 [] [true, true, true, false, true, false], hz_r (.iinc 4 1) 3, hz_n, hz_n, hz_r (.goto (-83)) 3, hz_n, hz_n, hz_m (.iload_n 3) 1 [] [true, true, false, true, false, false], hz_r (.ifCond .lt 54) 3, hz_n, hz_n, hz_m (.aload_n 1) 1 [] [true, true, false, true, false, false]],
  [hz_r (.bipush 17) 2, hz_n, hz_r (.iaload) 1, hz_r (.ifCond .lt 23) 3, hz_n, hz_n, hz_m (.aload_n 0) 1 [] [true, true, false, true, false, false], hz_r (.aload_n 1) 1, hz_r (.iload_n 3) 1, hz_r (.iaload) 1, hz_m (.invokevirtual 262) 3 [194, 2, 1] [], hz_n, hz_n, hz_r (.aload_n 0) 1, hz_r (.aload_n 1) 1, hz_r (.aload_n 1) 1],
  [hz_r (.bipush 17) 2, hz_n, hz_r (.iaload) 1, hz_r (.iaload) 1, hz_m (.invokevirtual 262) 3 [194, 2, 1] [], hz_n, hz_n, hz_r (.if_icmp .le 27) 3, hz_n, hz_n, hz_m (.aload_n 0) 1 [] [true, true, false, true, false, false], hz_r (.dup) 1, hz_m (.getfield 273) 3 [12, 27] [], hz_n, hz_n, hz_r (.aload_n 0) 1],
  [hz_r (.aload_n 1) 1, hz_m (.invokevirtual 276) 3 [201, 2, 1] [], hz_n, hz_n, hz_r (.iadd) 1, hz_m (.putfield 273) 3 [12, 27] [], hz_n, hz_n, hz_r (.aload_n 1) 1, hz_r (.bipush 17) 2, hz_n, hz_r (.iload_n 3) 1, hz_r (.iastore) 1, hz_r (.aload_n 1) 1, hz_r (.bipush 18) 2, hz_n],
  [hz_r (.iconst 0) 1, hz_r (.iastore) 1, hz_m (.aload_n 1) 1 [] [true, true, false, false, false, false], hz_r (.bipush 17) 2, hz_n, hz_r (.iaload) 1, hz_r (.ifCond .lt 24) 3, hz_n, hz_n, hz_m (.aload_n 1) 1 [] [true, true, false, false, false, false], hz_r (.bipush 8) 2, hz_n, hz_r (.aload_n 1) 1, hz_r (.bipush 17) 2, hz_n, hz_r (.iaload) 1],
  [hz_r (.iadd) 1, hz_r (.dup2) 1, hz_r (.iaload) 1, hz_r (.iconst 1) 1, hz_r (.iadd) 1, hz_r (.iastore) 1, hz_r (.aload_n 1) 1, hz_r (.bipush 18) 2, hz_n, hz_r (.dup2) 1, hz_r (.iaload) 1, hz_r (.iconst 1) 1, hz_r (.iadd) 1, hz_r (.iastore) 1, hz_m (.aload_n 1) 1 [] [true, true, false, false, false, false], hz_r (.bipush 57) 2],
  [hz_n, hz_r (.aload_n 1) 1, hz_r (.bipush 19) 2, hz_n, hz_r (.iaload) 1, hz_r (.bipush 60) 2, hz_n, hz_r (.irem) 1, hz_r (.iadd) 1, hz_r (.aload_n 1) 1, hz_r (.bipush 17) 2, hz_n, hz_r (.iaload) 1, hz_r (.iastore) 1, hz_r (.iconst 0) 1, hz_r (.istore 4) 2],
  [hz_n, hz_m (.iload 4) 2 [] [true, true, false, false, true, false], hz_n, hz_r (.aload_n 0) 1, hz_m (.getfield 117) 3 [12, 3] [], hz_n, hz_n, hz_r (.if_icmp .ge 73) 3, hz_n, hz_n, hz_m (.aload_n 1) 1 [] [true, true, false, false, true, false], hz_r (.bipush 16) 2, hz_n, hz_r (.iaload) 1, hz_r (.iload 4) 2, hz_n],
  [hz_m (.invokestatic 128) 3 [164, 2, 1] [], hz_n, hz_n, hz_r (.ifCond .eq 55) 3, hz_n, hz_n, hz_m (.aload_n 0) 1 [] [true, true, false, false, true, false], hz_m (.getfield 38) 3 [12, 7] [], hz_n, hz_n, hz_r (.iload 4) 2, hz_n, hz_r (.iaload) 1, hz_r (.ifCond .le 45) 3, hz_n, hz_n],
  [hz_m (.aload_n 1) 1 [] [true, true, false, false, true, false], hz_r (.iload 4) 2, hz_n, hz_r (.iconst 1) 1, hz_r (.sipush 999) 3, hz_n, hz_n, hz_r (.aload_n 1) 1, hz_r (.iload 4) 2, hz_n, hz_r (.iaload) 1, hz_r (.aload_n 0) 1, hz_m (.getfield 35) 3 [12, 6] [], hz_n, hz_n, hz_r (.bipush 6) 2],
  [hz_n, hz_r (.iload 4) 2, hz_n, hz_r (.imul) 1, hz_r (.aload_n 1) 1, hz_r (.bipush 19) 2, hz_n, hz_r (.iaload) 1, hz_r (.aload_n 0) 1, hz_m (.getfield 38) 3 [12, 7] [], hz_n, hz_n, hz_r (.iload 4) 2, hz_n, hz_r (.iaload) 1, hz_r (.irem) 1],
  [hz_r (.iadd) 1, hz_r (.iaload) 1, hz_r (.iadd) 1, hz_m (.invokestatic 141) 3 [3, 2, 1] [], hz_n, hz_n, hz_m (.invokestatic 254) 3 [2, 2, 1] [], hz_n, hz_n, hz_r (.iastore) 1, hz_m (.iinc 4 1) 3 [] [true, true, false, false, true, false], hz_n, hz_n, hz_r (.goto (-76)) 3, hz_n, hz_n],
  [hz_m (.aload_n 1) 1 [] [false, true, false, false, false, false], hz_r (.bipush 19) 2, hz_n, hz_r (.dup2) 1, hz_r (.iaload) 1, hz_r (.iconst 1) 1, hz_r (.iadd) 1, hz_r (.iastore) 1, hz_r (.return_) 1]]
/-- HeavierServesModel.falls([I)I -/
def hs_k201 : hs_K := [
  [hz_m (.iconst 0) 1 [] [false, true, false, false], hz_r (.istore_n 2) 1, hz_r (.iconst 0) 1, hz_r (.istore_n 3) 1, hz_m (.iload_n 3) 1 [] [false, true, true, true], hz_r (.aload_n 1) 1, hz_r (.bipush 20) 2, hz_n, hz_r (.iaload) 1, hz_r (.if_icmp .ge 51) 3, hz_n, hz_n, hz_m (.aload_n 1) 1 [] [false, true, true, true], hz_r (.bipush 17) 2, hz_n, hz_r (.iaload) 1],
  [hz_r (.ifCond .lt 38) 3, hz_n, hz_n, hz_m (.aload_n 1) 1 [] [false, true, true, true], hz_r (.bipush 21) 2, hz_n, hz_r (.iload_n 3) 1, hz_r (.iadd) 1, hz_r (.iaload) 1, hz_r (.aload_n 1) 1, hz_r (.bipush 17) 2, hz_n, hz_r (.iaload) 1, hz_r (.if_icmp .ne 25) 3, hz_n, hz_n],
  [hz_m (.aload_n 1) 1 [] [false, true, true, true], hz_r (.bipush 45) 2, hz_n, hz_r (.iload_n 3) 1, hz_r (.iadd) 1, hz_r (.iaload) 1, hz_r (.ifCond .ge 16) 3, hz_n, hz_n, hz_m (.aload_n 1) 1 [] [false, true, true, true], hz_r (.bipush 45) 2, hz_n, hz_r (.iload_n 3) 1, hz_r (.iadd) 1, hz_r (.aload_n 1) 1, hz_r (.bipush 19) 2],
  [hz_n, hz_r (.iaload) 1, hz_r (.iastore) 1, hz_r (.iinc 2 1) 3, hz_n, hz_n, hz_m (.iinc 3 1) 3 [] [false, true, true, true], hz_n, hz_n, hz_r (.goto (-53)) 3, hz_n, hz_n, hz_m (.iload_n 2) 1 [] [false, false, true, false], hz_r (.ireturn) 1]]
/-- HeavierServesModel.puts([I[I)V -/
def hs_k202 : hs_K := [
  [hz_m (.iconst 0) 1 [] [true, true, false], hz_r (.istore_n 2) 1, hz_r (.iload_n 2) 1, hz_r (.bipush 117) 2, hz_n, hz_r (.if_icmp .ge 15) 3, hz_n, hz_n, hz_r (.aload_n 1) 1, hz_r (.iload_n 2) 1, hz_r (.aload_n 0) 1, hz_r (.iload_n 2) 1, hz_r (.iaload) 1, hz_r (.iastore) 1, hz_r (.iinc 2 1) 3, hz_n],
  [hz_n, hz_r (.goto (-15)) 3, hz_n, hz_n, hz_m (.return_) 1 [] [false, false, false]]]
/-- HeavierServesModel.putsBy()V -/
def hs_k203 : hs_K := [
  [hz_m (.aload_n 0) 1 [] [true, false], hz_m (.getfield 207) 3 [12, 28] [], hz_n, hz_n, hz_r (.bipush 20) 2, hz_n, hz_r (.if_icmp .ne 43) 3, hz_n, hz_n, hz_m (.iconst 0) 1 [] [true, false], hz_r (.istore_n 1) 1, hz_r (.iload_n 1) 1, hz_r (.sipush 2223) 3, hz_n, hz_n, hz_r (.if_icmp .ge 24) 3],
  [hz_n, hz_n, hz_r (.aload_n 0) 1, hz_m (.getfield 74) 3 [12, 29] [], hz_n, hz_n, hz_r (.iload_n 1) 1, hz_r (.aload_n 0) 1, hz_m (.getfield 74) 3 [12, 29] [], hz_n, hz_n, hz_r (.iload_n 1) 1, hz_r (.bipush 117) 2, hz_n, hz_r (.iadd) 1, hz_r (.iaload) 1],
  [hz_r (.iastore) 1, hz_r (.iinc 1 1) 3, hz_n, hz_n, hz_r (.goto (-25)) 3, hz_n, hz_n, hz_m (.aload_n 0) 1 [] [true, false], hz_r (.dup) 1, hz_m (.getfield 207) 3 [12, 28] [], hz_n, hz_n, hz_r (.iconst 1) 1, hz_r (.isub) 1, hz_m (.putfield 207) 3 [12, 28] [], hz_n],
  [hz_n, hz_m (.iconst 0) 1 [] [true, false], hz_r (.istore_n 1) 1, hz_r (.iload_n 1) 1, hz_r (.bipush 117) 2, hz_n, hz_r (.if_icmp .ge 29) 3, hz_n, hz_n, hz_r (.aload_n 0) 1, hz_m (.getfield 74) 3 [12, 29] [], hz_n, hz_n, hz_r (.bipush 117) 2, hz_n, hz_r (.aload_n 0) 1],
  [hz_m (.getfield 207) 3 [12, 28] [], hz_n, hz_n, hz_r (.imul) 1, hz_r (.iload_n 1) 1, hz_r (.iadd) 1, hz_r (.aload_n 0) 1, hz_m (.getfield 44) 3 [12, 10] [], hz_n, hz_n, hz_r (.iload_n 1) 1, hz_r (.iaload) 1, hz_r (.iastore) 1, hz_r (.iinc 1 1) 3, hz_n, hz_n],
  [hz_r (.goto (-29)) 3, hz_n, hz_n, hz_m (.aload_n 0) 1 [] [true, false], hz_r (.dup) 1, hz_m (.getfield 207) 3 [12, 28] [], hz_n, hz_n, hz_r (.iconst 1) 1, hz_r (.iadd) 1, hz_m (.putfield 207) 3 [12, 28] [], hz_n, hz_n, hz_r (.return_) 1]]
/-- HeavierServesModel.undo()I -/
def hs_k204 : hs_K := [
  [hz_m (.aload_n 0) 1 [] [true, false], hz_r (.iconst 0) 1, hz_m (.putfield 3) 3 [12, 0] [], hz_n, hz_n, hz_r (.aload_n 0) 1, hz_m (.getfield 207) 3 [12, 28] [], hz_n, hz_n, hz_r (.ifCond .ne 5) 3, hz_n, hz_n, hz_m (.iconst (-1)) 1 [] [false, false], hz_r (.ireturn) 1, hz_m (.aload_n 0) 1 [] [true, false], hz_r (.dup) 1],
  [hz_m (.getfield 207) 3 [12, 28] [], hz_n, hz_n, hz_r (.iconst 1) 1, hz_r (.isub) 1, hz_m (.putfield 207) 3 [12, 28] [], hz_n, hz_n, hz_r (.iconst 0) 1, hz_r (.istore_n 1) 1, hz_r (.iload_n 1) 1, hz_r (.bipush 117) 2, hz_n, hz_r (.if_icmp .ge 29) 3, hz_n, hz_n],
  [hz_r (.aload_n 0) 1, hz_m (.getfield 44) 3 [12, 10] [], hz_n, hz_n, hz_r (.iload_n 1) 1, hz_r (.aload_n 0) 1, hz_m (.getfield 74) 3 [12, 29] [], hz_n, hz_n, hz_r (.bipush 117) 2, hz_n, hz_r (.aload_n 0) 1, hz_m (.getfield 207) 3 [12, 28] [], hz_n, hz_n, hz_r (.imul) 1],
  [hz_r (.iload_n 1) 1, hz_r (.iadd) 1, hz_r (.iaload) 1, hz_r (.iastore) 1, hz_r (.iinc 1 1) 3, hz_n, hz_n, hz_r (.goto (-29)) 3, hz_n, hz_n, hz_m (.aload_n 0) 1 [] [true, false], hz_m (.getfield 207) 3 [12, 28] [], hz_n, hz_n, hz_r (.ireturn) 1]]
/-- HeavierServesModel.stand(I)I -/
def hs_k205 : hs_K := [
  [hz_m (.aload_n 0) 1 [] [true, true, false], hz_r (.iconst 0) 1, hz_m (.putfield 3) 3 [12, 0] [], hz_n, hz_n, hz_r (.iload_n 1) 1, hz_r (.i2l) 1, hz_r (.lconst 0) 1, hz_r (.iconst 1) 1, hz_r (.aload_n 0) 1, hz_m (.getfield 117) 3 [12, 3] [], hz_n, hz_n, hz_r (.ishl) 1, hz_r (.iconst 1) 1, hz_r (.isub) 1],
  [hz_r (.i2l) 1, hz_m (.invokestatic 120) 3 [163, 3, 1] [], hz_n, hz_n, hz_r (.ifCond .ne 6) 3, hz_n, hz_n, hz_m (.bipush (-2)) 2 [] [false, false, false], hz_n, hz_r (.ireturn) 1, hz_m (.aload_n 0) 1 [] [true, true, false], hz_m (.invokevirtual 279) 3 [203, 1, 0] [], hz_n, hz_n, hz_r (.aload_n 0) 1, hz_m (.getfield 44) 3 [12, 10] []],
  [hz_n, hz_n, hz_r (.bipush 17) 2, hz_n, hz_r (.iaload) 1, hz_r (.istore_n 2) 1, hz_r (.aload_n 0) 1, hz_r (.iconst 0) 1, hz_m (.putfield 273) 3 [12, 27] [], hz_n, hz_n, hz_r (.aload_n 0) 1, hz_r (.aload_n 0) 1, hz_m (.getfield 44) 3 [12, 10] [], hz_n, hz_n],
  [hz_r (.iload_n 1) 1, hz_m (.invokevirtual 282) 3 [200, 3, 0] [], hz_n, hz_n, hz_r (.aload_n 0) 1, hz_r (.iconst 0) 1, hz_m (.putfield 15) 3 [12, 1] [], hz_n, hz_n, hz_r (.aload_n 0) 1, hz_r (.aload_n 0) 1, hz_m (.getfield 44) 3 [12, 10] [], hz_n, hz_n, hz_r (.bipush 17) 2, hz_n],
  [hz_r (.iaload) 1, hz_r (.iload_n 2) 1, hz_r (.if_icmp .eq 7) 3, hz_n, hz_n, hz_m (.iconst 1) 1 [] [true, false, false], hz_r (.goto 4) 3, hz_n, hz_n, hz_m (.iconst 0) 1 [] [true, false, false], hz_m (.invokestatic 150) 3 [165, 1, 1] [true, false, false], hz_n, hz_n, hz_r (.i2l) 1, hz_m (.invokevirtual 18) 3 [167, 2, 0] [], hz_n],
  [hz_n, hz_r (.aload_n 0) 1, hz_r (.aload_n 0) 1, hz_m (.getfield 273) 3 [12, 27] [], hz_n, hz_n, hz_r (.i2l) 1, hz_m (.invokevirtual 18) 3 [167, 2, 0] [], hz_n, hz_n, hz_r (.aload_n 0) 1, hz_m (.getfield 44) 3 [12, 10] [], hz_n, hz_n, hz_r (.bipush 17) 2, hz_n],
  [hz_r (.iaload) 1, hz_r (.ireturn) 1]]
/-- HeavierServesModel.weeks(I)I -/
def hs_k206 : hs_K := [
  [hz_m (.aload_n 0) 1 [] [true, true, false, false, false], hz_r (.iconst 0) 1, hz_m (.putfield 3) 3 [12, 0] [], hz_n, hz_n, hz_r (.iload_n 1) 1, hz_r (.i2l) 1, hz_r (.lconst 0) 1, hz_m (.ldc2_w 286) 3 [0, 99] [], hz_n, hz_n, hz_m (.invokestatic 120) 3 [163, 3, 1] [], hz_n, hz_n, hz_r (.ifCond .ne 5) 3, hz_n],
  [hz_n, hz_m (.iconst (-1)) 1 [] [false, false, false, false, false], hz_r (.ireturn) 1, hz_m (.iload_n 1) 1 [] [true, true, false, false, false], hz_r (.ifCond .le 7) 3, hz_n, hz_n, hz_m (.aload_n 0) 1 [] [true, true, false, false, false], hz_m (.invokevirtual 279) 3 [203, 1, 0] [], hz_n, hz_n, hz_m (.iconst 0) 1 [] [true, true, false, false, false], hz_r (.istore_n 2) 1, hz_r (.aload_n 0) 1, hz_r (.iconst 0) 1, hz_m (.putfield 273) 3 [12, 27] []],
  [hz_n, hz_n, hz_r (.iconst 0) 1, hz_r (.istore_n 3) 1, hz_m (.iload_n 3) 1 [] [true, true, true, true, false], hz_r (.iload_n 1) 1, hz_r (.if_icmp .ge 57) 3, hz_n, hz_n, hz_m (.aload_n 0) 1 [] [true, true, true, true, false], hz_m (.getfield 44) 3 [12, 10] [], hz_n, hz_n, hz_r (.bipush 17) 2, hz_n, hz_r (.iaload) 1],
  [hz_r (.istore 4) 2, hz_n, hz_r (.aload_n 0) 1, hz_r (.aload_n 0) 1, hz_m (.getfield 44) 3 [12, 10] [], hz_n, hz_n, hz_r (.aload_n 0) 1, hz_r (.aload_n 0) 1, hz_m (.getfield 44) 3 [12, 10] [], hz_n, hz_n, hz_m (.invokevirtual 288) 3 [193, 2, 1] [], hz_n, hz_n, hz_m (.invokevirtual 282) 3 [200, 3, 0] []],
  [hz_n, hz_n, hz_r (.iload_n 2) 1, hz_r (.aload_n 0) 1, hz_m (.getfield 44) 3 [12, 10] [], hz_n, hz_n, hz_r (.bipush 17) 2, hz_n, hz_r (.iaload) 1, hz_r (.iload 4) 2, hz_n, hz_r (.if_icmp .eq 7) 3, hz_n, hz_n, hz_m (.iconst 1) 1 [] [true, true, false, true, false]],
  [hz_r (.goto 4) 3, hz_n, hz_n, hz_m (.iconst 0) 1 [] [true, true, false, true, false], hz_m (.invokestatic 150) 3 [165, 1, 1] [true, true, false, true, false], hz_n, hz_n, hz_r (.iadd) 1, hz_r (.istore_n 2) 1, hz_r (.iinc 3 1) 3, hz_n, hz_n, hz_r (.goto (-56)) 3, hz_n, hz_n, hz_m (.aload_n 0) 1 [] [true, false, true, false, false]],
  [hz_r (.iconst 0) 1, hz_m (.putfield 15) 3 [12, 1] [], hz_n, hz_n, hz_r (.aload_n 0) 1, hz_r (.aload_n 0) 1, hz_m (.getfield 44) 3 [12, 10] [], hz_n, hz_n, hz_r (.bipush 17) 2, hz_n, hz_r (.iaload) 1, hz_r (.i2l) 1, hz_m (.invokevirtual 18) 3 [167, 2, 0] [], hz_n, hz_n],
  [hz_r (.aload_n 0) 1, hz_r (.aload_n 0) 1, hz_m (.getfield 273) 3 [12, 27] [], hz_n, hz_n, hz_r (.i2l) 1, hz_m (.invokevirtual 18) 3 [167, 2, 0] [], hz_n, hz_n, hz_r (.iload_n 2) 1, hz_r (.ireturn) 1]]
/-- HeavierServesModel.readsWeek()V -/
def hs_k207 : hs_K := [
  [hz_m (.iconst (-1)) 1 [] [true, false, false], hz_r (.istore_n 1) 1, hz_r (.iconst 0) 1, hz_r (.istore_n 2) 1, hz_r (.aload_n 0) 1, hz_m (.getfield 135) 3 [12, 14] [], hz_n, hz_n, hz_r (.aload_n 0) 1, hz_m (.getfield 147) 3 [12, 15] [], hz_n, hz_n, hz_r (.if_icmp .ge 61) 3, hz_n, hz_n, hz_r (.aload_n 0) 1],
  [hz_m (.getfield 50) 3 [12, 12] [], hz_n, hz_n, hz_r (.aload_n 0) 1, hz_m (.getfield 135) 3 [12, 14] [], hz_n, hz_n, hz_r (.iaload) 1, hz_r (.bipush 97) 2, hz_n, hz_r (.isub) 1, hz_r (.i2l) 1, hz_r (.iload_n 1) 1, hz_r (.iconst 1) 1, hz_r (.iadd) 1, hz_r (.i2l) 1],
  [hz_m (.ldc2_w 257) 3 [0, 7] [], hz_n, hz_n, hz_m (.invokestatic 120) 3 [163, 3, 1] [], hz_n, hz_n, hz_r (.ifCond .eq 35) 3, hz_n, hz_n, hz_m (.aload_n 0) 1 [] [true, false, true], hz_m (.getfield 50) 3 [12, 12] [], hz_n, hz_n, hz_r (.aload_n 0) 1, hz_m (.getfield 135) 3 [12, 14] [], hz_n],
  [hz_n, hz_r (.iaload) 1, hz_r (.bipush 97) 2, hz_n, hz_r (.isub) 1, hz_r (.istore_n 1) 1, hz_r (.iload_n 2) 1, hz_r (.iconst 1) 1, hz_r (.iload_n 1) 1, hz_r (.ishl) 1, hz_r (.ior) 1, hz_r (.istore_n 2) 1, hz_r (.aload_n 0) 1, hz_r (.dup) 1, hz_m (.getfield 135) 3 [12, 14] [], hz_n],
  [hz_n, hz_r (.iconst 1) 1, hz_r (.iadd) 1, hz_m (.putfield 135) 3 [12, 14] [], hz_n, hz_n, hz_r (.goto (-66)) 3, hz_n, hz_n, hz_m (.aload_n 0) 1 [] [true, false, true], hz_m (.getfield 77) 3 [12, 30] [], hz_n, hz_n, hz_r (.aload_n 0) 1, hz_m (.getfield 291) 3 [12, 31] [], hz_n],
  [hz_n, hz_r (.iload_n 2) 1, hz_r (.iastore) 1, hz_r (.aload_n 0) 1, hz_r (.dup) 1, hz_m (.getfield 291) 3 [12, 31] [], hz_n, hz_n, hz_r (.iconst 1) 1, hz_r (.iadd) 1, hz_m (.putfield 291) 3 [12, 31] [], hz_n, hz_n, hz_r (.return_) 1]]
/-- HeavierServesModel.year()I -/
def hs_k208 : hs_K := [
  [hz_m (.aload_n 0) 1 [] [true, false, false, false, false], hz_r (.iconst 0) 1, hz_m (.putfield 3) 3 [12, 0] [], hz_n, hz_n, hz_r (.aload_n 0) 1, hz_r (.bipush 60) 2, hz_n, hz_m (.invokevirtual 193) 3 [173, 2, 1] [], hz_n, hz_n, hz_r (.istore_n 1) 1, hz_r (.aload_n 0) 1, hz_r (.iconst 0) 1, hz_m (.putfield 291) 3 [12, 31] [], hz_n],
  [hz_n, hz_r (.iload_n 1) 1, hz_r (.ifCond .le 7) 3, hz_n, hz_n, hz_m (.iconst 1) 1 [] [true, true, false, false, false], hz_r (.goto 4) 3, hz_n, hz_n, hz_m (.iconst 0) 1 [] [true, true, false, false, false], hz_m (.istore_n 2) 1 [] [true, true, false, false, false], hz_m (.iload_n 2) 1 [] [true, true, true, false, false], hz_r (.ifCond .eq 17) 3, hz_n, hz_n, hz_m (.aload_n 0) 1 [] [true, true, false, false, false]],
  [hz_m (.invokevirtual 294) 3 [207, 1, 0] [], hz_n, hz_n, hz_r (.aload_n 0) 1, hz_r (.bipush 59) 2, hz_n, hz_m (.invokevirtual 178) 3 [174, 2, 1] [], hz_n, hz_n, hz_r (.istore_n 2) 1, hz_r (.goto (-15)) 3, hz_n, hz_n, hz_m (.aload_n 0) 1 [] [true, true, false, false, false], hz_r (.iload_n 1) 1, hz_r (.bipush 60) 2],
  [hz_n, hz_r (.iconst 1) 1, hz_m (.invokevirtual 199) 3 [178, 4, 1] [], hz_n, hz_n, hz_r (.istore_n 3) 1, hz_r (.iload_n 3) 1, hz_r (.ifCond .ge 5) 3, hz_n, hz_n, hz_m (.iload_n 3) 1 [] [false, false, false, true, false], hz_r (.ireturn) 1, hz_m (.iconst 0) 1 [] [true, false, false, false, false], hz_r (.istore 4) 2, hz_n, hz_r (.aload_n 0) 1],
  [hz_r (.iconst 0) 1, hz_m (.putfield 273) 3 [12, 27] [], hz_n, hz_n, hz_m (.iload 4) 2 [] [true, false, false, false, true], hz_n, hz_r (.aload_n 0) 1, hz_m (.getfield 291) 3 [12, 31] [], hz_n, hz_n, hz_r (.if_icmp .ge 49) 3, hz_n, hz_n, hz_m (.aload_n 0) 1 [] [true, false, false, false, true], hz_m (.getfield 77) 3 [12, 30] [], hz_n],
  [hz_n, hz_r (.iload 4) 2, hz_n, hz_r (.iaload) 1, hz_r (.iconst 1) 1, hz_r (.aload_n 0) 1, hz_m (.getfield 117) 3 [12, 3] [], hz_n, hz_n, hz_r (.ishl) 1, hz_r (.if_icmp .ge 33) 3, hz_n, hz_n, hz_m (.iload 4) 2 [] [true, false, false, false, true], hz_n, hz_r (.ifCond .ne 7) 3],
  [hz_n, hz_n, hz_m (.aload_n 0) 1 [] [true, false, false, false, true], hz_m (.invokevirtual 279) 3 [203, 1, 0] [], hz_n, hz_n, hz_m (.aload_n 0) 1 [] [true, false, false, false, true], hz_r (.aload_n 0) 1, hz_m (.getfield 44) 3 [12, 10] [], hz_n, hz_n, hz_r (.aload_n 0) 1, hz_m (.getfield 77) 3 [12, 30] [], hz_n, hz_n, hz_r (.iload 4) 2],
  [hz_n, hz_r (.iaload) 1, hz_m (.invokevirtual 282) 3 [200, 3, 0] [], hz_n, hz_n, hz_r (.iinc 4 1) 3, hz_n, hz_n, hz_r (.goto (-52)) 3, hz_n, hz_n, hz_m (.aload_n 0) 1 [] [true, false, false, false, true], hz_r (.iconst 0) 1, hz_m (.putfield 15) 3 [12, 1] [], hz_n, hz_n],
  [hz_r (.aload_n 0) 1, hz_r (.aload_n 0) 1, hz_m (.getfield 44) 3 [12, 10] [], hz_n, hz_n, hz_r (.bipush 17) 2, hz_n, hz_r (.iaload) 1, hz_r (.i2l) 1, hz_m (.invokevirtual 18) 3 [167, 2, 0] [], hz_n, hz_n, hz_r (.aload_n 0) 1, hz_r (.iload 4) 2, hz_n, hz_r (.aload_n 0) 1],
  [hz_m (.getfield 291) 3 [12, 31] [], hz_n, hz_n, hz_r (.if_icmp .ge 7) 3, hz_n, hz_n, hz_m (.iconst 1) 1 [] [false, false, false, false, true], hz_r (.goto 4) 3, hz_n, hz_n, hz_m (.iconst 0) 1 [] [false, false, false, false, true], hz_m (.invokestatic 150) 3 [165, 1, 1] [false, false, false, false, true], hz_n, hz_n, hz_r (.i2l) 1, hz_m (.invokevirtual 18) 3 [167, 2, 0] []],
  [hz_n, hz_n, hz_r (.iload 4) 2, hz_n, hz_r (.ireturn) 1]]
/-- HeavierServesModel.law()I -/
def hs_k209 : hs_K := [
  [hz_m (.aload_n 0) 1 [] [true, false], hz_r (.iconst 0) 1, hz_m (.putfield 3) 3 [12, 0] [], hz_n, hz_n, hz_r (.aload_n 0) 1, hz_m (.getfield 44) 3 [12, 10] [], hz_n, hz_n, hz_r (.bipush 17) 2, hz_n, hz_r (.iaload) 1, hz_r (.ifCond .ge 6) 3, hz_n, hz_n, hz_m (.bipush (-2)) 2 [] [false, false]],
  [hz_n, hz_r (.ireturn) 1, hz_m (.aload_n 0) 1 [] [true, false], hz_m (.getfield 44) 3 [12, 10] [], hz_n, hz_n, hz_r (.bipush 20) 2, hz_n, hz_r (.iaload) 1, hz_r (.bipush 12) 2, hz_n, hz_r (.if_icmp .ne 6) 3, hz_n, hz_n, hz_m (.bipush (-3)) 2 [] [false, false], hz_n],
  [hz_r (.ireturn) 1, hz_m (.aload_n 0) 1 [] [true, false], hz_m (.invokevirtual 279) 3 [203, 1, 0] [], hz_n, hz_n, hz_r (.aload_n 0) 1, hz_m (.getfield 44) 3 [12, 10] [], hz_n, hz_n, hz_r (.bipush 20) 2, hz_n, hz_r (.iaload) 1, hz_r (.istore_n 1) 1, hz_r (.aload_n 0) 1, hz_m (.getfield 44) 3 [12, 10] [], hz_n],
  [hz_n, hz_r (.bipush 21) 2, hz_n, hz_r (.iload_n 1) 1, hz_r (.iadd) 1, hz_r (.aload_n 0) 1, hz_m (.getfield 44) 3 [12, 10] [], hz_n, hz_n, hz_r (.bipush 17) 2, hz_n, hz_r (.iaload) 1, hz_r (.iastore) 1, hz_r (.aload_n 0) 1, hz_m (.getfield 44) 3 [12, 10] [], hz_n],
  [hz_n, hz_r (.bipush 33) 2, hz_n, hz_r (.iload_n 1) 1, hz_r (.iadd) 1, hz_r (.aload_n 0) 1, hz_m (.getfield 44) 3 [12, 10] [], hz_n, hz_n, hz_r (.bipush 19) 2, hz_n, hz_r (.iaload) 1, hz_r (.iastore) 1, hz_r (.aload_n 0) 1, hz_m (.getfield 44) 3 [12, 10] [], hz_n],
  [hz_n, hz_r (.bipush 45) 2, hz_n, hz_r (.iload_n 1) 1, hz_r (.iadd) 1, hz_r (.iconst (-1)) 1, hz_r (.iastore) 1, hz_r (.aload_n 0) 1, hz_m (.getfield 44) 3 [12, 10] [], hz_n, hz_n, hz_r (.bipush 20) 2, hz_n, hz_r (.dup2) 1, hz_r (.iaload) 1, hz_r (.iconst 1) 1],
  [hz_r (.iadd) 1, hz_r (.iastore) 1, hz_r (.iload_n 1) 1, hz_r (.ireturn) 1]]
/-- HeavierServesModel.laws(II)I -/
def hs_k210 : hs_K := [
  [hz_r (.aload_n 0) 1, hz_r (.iconst 0) 1, hz_m (.putfield 3) 3 [12, 0] [], hz_n, hz_n, hz_r (.iload_n 1) 1, hz_r (.i2l) 1, hz_r (.lconst 0) 1, hz_r (.aload_n 0) 1, hz_m (.getfield 44) 3 [12, 10] [], hz_n, hz_n, hz_r (.bipush 20) 2, hz_n, hz_r (.iaload) 1, hz_r (.iconst 1) 1],
  [hz_r (.isub) 1, hz_r (.i2l) 1, hz_m (.invokestatic 120) 3 [163, 3, 1] [], hz_n, hz_n, hz_r (.ifCond .eq 15) 3, hz_n, hz_n, hz_r (.iload_n 2) 1, hz_r (.i2l) 1, hz_r (.lconst 0) 1, hz_m (.ldc2_w 267) 3 [0, 3] [], hz_n, hz_n, hz_m (.invokestatic 120) 3 [163, 3, 1] [], hz_n],
  [hz_n, hz_r (.ifCond .ne 8) 3, hz_n, hz_n, hz_m (.aload_n 0) 1 [] [true, false, false], hz_m (.invokevirtual 259) 3 [162, 1, 1] [], hz_n, hz_n, hz_r (.ireturn) 1, hz_r (.iload_n 2) 1, hz_r (.tableswitch 67 0 2 #[26, 36, 46]) 26, hz_n, hz_n, hz_n, hz_n, hz_n],
  [hz_n, hz_n, hz_n, hz_n, hz_n, hz_n, hz_n, hz_n, hz_n, hz_n, hz_n, hz_n, hz_n, hz_n, hz_n, hz_n],
  [hz_n, hz_n, hz_n, hz_n, hz_m (.aload_n 0) 1 [] [true, true, false], hz_m (.getfield 44) 3 [12, 10] [], hz_n, hz_n, hz_r (.bipush 21) 2, hz_n, hz_r (.iload_n 1) 1, hz_r (.iadd) 1, hz_r (.iaload) 1, hz_r (.ireturn) 1, hz_m (.aload_n 0) 1 [] [true, true, false], hz_m (.getfield 44) 3 [12, 10] []],
  [hz_n, hz_n, hz_r (.bipush 33) 2, hz_n, hz_r (.iload_n 1) 1, hz_r (.iadd) 1, hz_r (.iaload) 1, hz_r (.ireturn) 1, hz_m (.aload_n 0) 1 [] [true, true, false], hz_m (.getfield 44) 3 [12, 10] [], hz_n, hz_n, hz_r (.bipush 45) 2, hz_n, hz_r (.iload_n 1) 1, hz_r (.iadd) 1],
  [hz_r (.iaload) 1, hz_r (.ifCond .ge 7) 3, hz_n, hz_n, hz_m (.iconst 1) 1 [] [false, false, false], hz_r (.goto 4) 3, hz_n, hz_n, hz_m (.iconst 0) 1 [] [false, false, false], hz_m (.invokestatic 150) 3 [165, 1, 1] [false, false, false], hz_n, hz_n, hz_r (.ireturn) 1, hz_m (.aload_n 0) 1 [] [true, true, false], hz_m (.getfield 44) 3 [12, 10] [], hz_n],
  [hz_n, hz_r (.bipush 45) 2, hz_n, hz_r (.iload_n 1) 1, hz_r (.iadd) 1, hz_r (.iaload) 1, hz_r (.ireturn) 1]]
/-- HeavierServesModel.eats(II)I -/
def hs_k211 : hs_K := [
  [hz_r (.aload_n 0) 1, hz_m (.invokevirtual 279) 3 [203, 1, 0] [], hz_n, hz_n, hz_r (.aload_n 0) 1, hz_m (.getfield 44) 3 [12, 10] [], hz_n, hz_n, hz_r (.iload_n 1) 1, hz_r (.iconst 1) 1, hz_r (.sipush 999) 3, hz_n, hz_n, hz_r (.aload_n 0) 1, hz_m (.getfield 44) 3 [12, 10] [], hz_n],
  [hz_n, hz_r (.iload_n 1) 1, hz_r (.iaload) 1, hz_r (.iload_n 2) 1, hz_r (.iadd) 1, hz_m (.invokestatic 141) 3 [3, 2, 1] [], hz_n, hz_n, hz_m (.invokestatic 254) 3 [2, 2, 1] [], hz_n, hz_n, hz_r (.iastore) 1, hz_r (.aload_n 0) 1, hz_m (.getfield 44) 3 [12, 10] [], hz_n, hz_n],
  [hz_r (.iload_n 1) 1, hz_r (.iaload) 1, hz_r (.ireturn) 1]]
/-- HeavierServesModel.feed(II)I -/
def hs_k212 : hs_K := [
  [hz_r (.aload_n 0) 1, hz_r (.iconst 0) 1, hz_m (.putfield 3) 3 [12, 0] [], hz_n, hz_n, hz_r (.aload_n 0) 1, hz_r (.iload_n 1) 1, hz_m (.invokevirtual 297) 3 [170, 2, 1] [], hz_n, hz_n, hz_r (.ifCond .eq 24) 3, hz_n, hz_n, hz_r (.iload_n 2) 1, hz_r (.i2l) 1, hz_r (.lconst 1) 1],
  [hz_m (.ldc2_w 286) 3 [0, 99] [], hz_n, hz_n, hz_m (.invokestatic 120) 3 [163, 3, 1] [], hz_n, hz_n, hz_r (.ifCond .eq 12) 3, hz_n, hz_n, hz_r (.aload_n 0) 1, hz_r (.iload_n 1) 1, hz_r (.iload_n 2) 1, hz_m (.invokevirtual 300) 3 [211, 3, 1] [], hz_n, hz_n, hz_r (.goto 4) 3],
  [hz_n, hz_n, hz_m (.iconst (-1)) 1 [] [false, false, false], hz_m (.ireturn) 1 [] [false, false, false]]]
/-- HeavierServesModel.fast(II)I -/
def hs_k213 : hs_K := [
  [hz_r (.aload_n 0) 1, hz_r (.iconst 0) 1, hz_m (.putfield 3) 3 [12, 0] [], hz_n, hz_n, hz_r (.aload_n 0) 1, hz_r (.iload_n 1) 1, hz_m (.invokevirtual 297) 3 [170, 2, 1] [], hz_n, hz_n, hz_r (.ifCond .eq 25) 3, hz_n, hz_n, hz_r (.iload_n 2) 1, hz_r (.i2l) 1, hz_r (.lconst 1) 1],
  [hz_m (.ldc2_w 286) 3 [0, 99] [], hz_n, hz_n, hz_m (.invokestatic 120) 3 [163, 3, 1] [], hz_n, hz_n, hz_r (.ifCond .eq 13) 3, hz_n, hz_n, hz_r (.aload_n 0) 1, hz_r (.iload_n 1) 1, hz_r (.iload_n 2) 1, hz_r (.ineg) 1, hz_m (.invokevirtual 300) 3 [211, 3, 1] [], hz_n, hz_n],
  [hz_r (.goto 4) 3, hz_n, hz_n, hz_m (.iconst (-1)) 1 [] [false, false, false], hz_m (.ireturn) 1 [] [false, false, false]]]
/-- HeavierServesModel.dies(I)I -/
def hs_k214 : hs_K := [
  [hz_m (.aload_n 0) 1 [] [true, true, false], hz_r (.iconst 0) 1, hz_m (.putfield 3) 3 [12, 0] [], hz_n, hz_n, hz_r (.aload_n 0) 1, hz_r (.iload_n 1) 1, hz_m (.invokevirtual 297) 3 [170, 2, 1] [], hz_n, hz_n, hz_r (.ifCond .ne 5) 3, hz_n, hz_n, hz_m (.iconst (-1)) 1 [] [false, false, false], hz_r (.ireturn) 1, hz_m (.aload_n 0) 1 [] [true, true, false]],
  [hz_m (.invokevirtual 279) 3 [203, 1, 0] [], hz_n, hz_n, hz_r (.aload_n 0) 1, hz_m (.getfield 44) 3 [12, 10] [], hz_n, hz_n, hz_r (.bipush 16) 2, hz_n, hz_r (.dup2) 1, hz_r (.iaload) 1, hz_r (.iconst 1) 1, hz_r (.iload_n 1) 1, hz_r (.ishl) 1, hz_r (.iconst (-1)) 1, hz_r (.ixor) 1],
  [hz_r (.iand) 1, hz_r (.iastore) 1, hz_r (.aload_n 0) 1, hz_m (.getfield 44) 3 [12, 10] [], hz_n, hz_n, hz_r (.bipush 17) 2, hz_n, hz_r (.iaload) 1, hz_r (.iload_n 1) 1, hz_r (.if_icmp .eq 5) 3, hz_n, hz_n, hz_m (.iconst 0) 1 [] [false, false, false], hz_r (.ireturn) 1, hz_m (.aload_n 0) 1 [] [true, false, false]],
  [hz_r (.aload_n 0) 1, hz_m (.getfield 44) 3 [12, 10] [], hz_n, hz_n, hz_m (.invokevirtual 276) 3 [201, 2, 1] [], hz_n, hz_n, hz_r (.istore_n 2) 1, hz_r (.aload_n 0) 1, hz_m (.getfield 44) 3 [12, 10] [], hz_n, hz_n, hz_r (.bipush 17) 2, hz_n, hz_r (.iconst (-1)) 1, hz_r (.iastore) 1],
  [hz_r (.aload_n 0) 1, hz_m (.getfield 44) 3 [12, 10] [], hz_n, hz_n, hz_r (.bipush 18) 2, hz_n, hz_r (.iconst 0) 1, hz_r (.iastore) 1, hz_r (.iload_n 2) 1, hz_r (.ireturn) 1]]
/-- HeavierServesModel.served(I)I -/
def hs_k215 : hs_K := [
  [hz_r (.aload_n 0) 1, hz_r (.iconst 0) 1, hz_m (.putfield 3) 3 [12, 0] [], hz_n, hz_n, hz_r (.iload_n 1) 1, hz_r (.i2l) 1, hz_r (.iconst 0) 1, hz_r (.aload_n 0) 1, hz_m (.getfield 44) 3 [12, 10] [], hz_n, hz_n, hz_r (.bipush 19) 2, hz_n, hz_r (.iaload) 1, hz_r (.bipush 60) 2],
  [hz_n, hz_r (.isub) 1, hz_m (.invokestatic 254) 3 [2, 2, 1] [], hz_n, hz_n, hz_r (.i2l) 1, hz_r (.aload_n 0) 1, hz_m (.getfield 44) 3 [12, 10] [], hz_n, hz_n, hz_r (.bipush 19) 2, hz_n, hz_r (.iaload) 1, hz_r (.iconst 1) 1, hz_r (.isub) 1, hz_r (.i2l) 1],
  [hz_m (.invokestatic 120) 3 [163, 3, 1] [], hz_n, hz_n, hz_r (.ifCond .ne 6) 3, hz_n, hz_n, hz_m (.bipush (-2)) 2 [] [false, false], hz_n, hz_r (.ireturn) 1, hz_r (.aload_n 0) 1, hz_m (.getfield 44) 3 [12, 10] [], hz_n, hz_n, hz_r (.bipush 57) 2, hz_n, hz_r (.iload_n 1) 1],
  [hz_r (.bipush 60) 2, hz_n, hz_r (.irem) 1, hz_r (.iadd) 1, hz_r (.iaload) 1, hz_r (.ireturn) 1]]
/-- HeavierServesModel.starts()V -/
def hs_k216 : hs_K := [
  [hz_m (.aload_n 0) 1 [] [true, false], hz_m (.getfield 44) 3 [12, 10] [], hz_n, hz_n, hz_r (.aload_n 0) 1, hz_m (.getfield 47) 3 [12, 11] [], hz_n, hz_n, hz_m (.invokestatic 303) 3 [202, 2, 0] [], hz_n, hz_n, hz_r (.iconst 0) 1, hz_r (.istore_n 1) 1, hz_r (.iload_n 1) 1, hz_r (.bipush 8) 2, hz_n],
  [hz_r (.if_icmp .ge 16) 3, hz_n, hz_n, hz_r (.aload_n 0) 1, hz_m (.getfield 80) 3 [12, 32] [], hz_n, hz_n, hz_r (.iload_n 1) 1, hz_r (.iconst 0) 1, hz_r (.iastore) 1, hz_r (.iinc 1 1) 3, hz_n, hz_n, hz_r (.goto (-16)) 3, hz_n, hz_n],
  [hz_m (.return_) 1 [] [false, false]]]
/-- HeavierServesModel.goesNext(I)V -/
def hs_k217 : hs_K := [
  [hz_r (.aload_n 0) 1, hz_r (.aload_n 0) 1, hz_m (.getfield 47) 3 [12, 11] [], hz_n, hz_n, hz_r (.iload_n 1) 1, hz_m (.invokevirtual 282) 3 [200, 3, 0] [], hz_n, hz_n, hz_r (.aload_n 0) 1, hz_m (.getfield 47) 3 [12, 11] [], hz_n, hz_n, hz_r (.bipush 17) 2, hz_n, hz_r (.iaload) 1],
  [hz_r (.ifCond .lt 19) 3, hz_n, hz_n, hz_m (.aload_n 0) 1 [] [true, false], hz_m (.getfield 80) 3 [12, 32] [], hz_n, hz_n, hz_r (.aload_n 0) 1, hz_m (.getfield 47) 3 [12, 11] [], hz_n, hz_n, hz_r (.bipush 17) 2, hz_n, hz_r (.iaload) 1, hz_r (.dup2) 1, hz_r (.iaload) 1],
  [hz_r (.iconst 1) 1, hz_r (.iadd) 1, hz_r (.iastore) 1, hz_m (.return_) 1 [] [false, false]]]
/-- HeavierServesModel.goesBy(II)V -/
def hs_k218 : hs_K := [
  [hz_m (.iconst 0) 1 [] [true, true, true, false], hz_r (.istore_n 3) 1, hz_r (.iload_n 3) 1, hz_r (.iload_n 1) 1, hz_r (.if_icmp .ge 25) 3, hz_n, hz_n, hz_r (.aload_n 0) 1, hz_r (.aload_n 0) 1, hz_r (.aload_n 0) 1, hz_m (.getfield 47) 3 [12, 11] [], hz_n, hz_n, hz_m (.invokevirtual 288) 3 [193, 2, 1] [], hz_n, hz_n],
  [hz_r (.iload_n 2) 1, hz_r (.iconst (-1)) 1, hz_r (.ixor) 1, hz_r (.iand) 1, hz_m (.invokevirtual 307) 3 [217, 2, 0] [], hz_n, hz_n, hz_r (.iinc 3 1) 3, hz_n, hz_n, hz_r (.goto (-24)) 3, hz_n, hz_n, hz_m (.return_) 1 [] [false, false, false, false]]]
/-- HeavierServesModel.areWeeks(I)Z -/
def hs_k219 : hs_K := [
  [hz_r (.iload_n 0) 1, hz_r (.i2l) 1, hz_r (.lconst 0) 1, hz_m (.ldc2_w 286) 3 [0, 99] [], hz_n, hz_n, hz_m (.invokestatic 120) 3 [163, 3, 1] [], hz_n, hz_n, hz_r (.ireturn) 1]]
/-- HeavierServesModel.later(II)I -/
def hs_k220 : hs_K := [
  [hz_r (.aload_n 0) 1, hz_r (.iconst 0) 1, hz_m (.putfield 3) 3 [12, 0] [], hz_n, hz_n, hz_r (.aload_n 0) 1, hz_r (.iload_n 1) 1, hz_m (.invokevirtual 297) 3 [170, 2, 1] [], hz_n, hz_n, hz_r (.ifCond .eq 10) 3, hz_n, hz_n, hz_r (.iload_n 2) 1, hz_m (.invokestatic 310) 3 [219, 1, 1] [], hz_n],
  [hz_n, hz_r (.ifCond .ne 5) 3, hz_n, hz_n, hz_m (.iconst (-1)) 1 [] [false, false, false], hz_r (.ireturn) 1, hz_r (.aload_n 0) 1, hz_m (.invokevirtual 313) 3 [216, 1, 0] [], hz_n, hz_n, hz_r (.aload_n 0) 1, hz_r (.iload_n 2) 1, hz_r (.iconst 0) 1, hz_m (.invokevirtual 316) 3 [218, 3, 0] [], hz_n, hz_n],
  [hz_r (.aload_n 0) 1, hz_m (.getfield 47) 3 [12, 11] [], hz_n, hz_n, hz_r (.iload_n 1) 1, hz_r (.iaload) 1, hz_r (.ireturn) 1]]
/-- HeavierServesModel.then(I)I -/
def hs_k221 : hs_K := [
  [hz_m (.aload_n 0) 1 [] [true, true, false], hz_r (.iconst 0) 1, hz_m (.putfield 3) 3 [12, 0] [], hz_n, hz_n, hz_r (.iload_n 1) 1, hz_m (.invokestatic 310) 3 [219, 1, 1] [], hz_n, hz_n, hz_r (.ifCond .ne 6) 3, hz_n, hz_n, hz_m (.bipush (-2)) 2 [] [false, false, false], hz_n, hz_r (.ireturn) 1, hz_m (.aload_n 0) 1 [] [true, true, false]],
  [hz_m (.invokevirtual 313) 3 [216, 1, 0] [], hz_n, hz_n, hz_r (.aload_n 0) 1, hz_r (.iload_n 1) 1, hz_r (.iconst 0) 1, hz_m (.invokevirtual 316) 3 [218, 3, 0] [], hz_n, hz_n, hz_r (.aload_n 0) 1, hz_r (.iconst 0) 1, hz_m (.putfield 15) 3 [12, 1] [], hz_n, hz_n, hz_r (.iconst 0) 1, hz_r (.istore_n 2) 1],
  [hz_m (.iload_n 2) 1 [] [true, false, true], hz_r (.aload_n 0) 1, hz_m (.getfield 117) 3 [12, 3] [], hz_n, hz_n, hz_r (.if_icmp .ge 20) 3, hz_n, hz_n, hz_m (.aload_n 0) 1 [] [true, false, true], hz_r (.aload_n 0) 1, hz_m (.getfield 80) 3 [12, 32] [], hz_n, hz_n, hz_r (.iload_n 2) 1, hz_r (.iaload) 1, hz_r (.i2l) 1],
  [hz_m (.invokevirtual 18) 3 [167, 2, 0] [], hz_n, hz_n, hz_r (.iinc 2 1) 3, hz_n, hz_n, hz_r (.goto (-22)) 3, hz_n, hz_n, hz_m (.aload_n 0) 1 [] [true, false, false], hz_m (.getfield 47) 3 [12, 11] [], hz_n, hz_n, hz_r (.bipush 17) 2, hz_n, hz_r (.iaload) 1],
  [hz_r (.ireturn) 1]]
/-- HeavierServesModel.soonest(I)I -/
def hs_k222 : hs_K := [
  [hz_m (.aload_n 0) 1 [] [true, true, false], hz_r (.iconst 0) 1, hz_m (.putfield 3) 3 [12, 0] [], hz_n, hz_n, hz_r (.aload_n 0) 1, hz_r (.iload_n 1) 1, hz_m (.invokevirtual 124) 3 [169, 2, 1] [], hz_n, hz_n, hz_r (.ifCond .ne 5) 3, hz_n, hz_n, hz_m (.iconst (-1)) 1 [] [false, false, false], hz_r (.ireturn) 1, hz_m (.aload_n 0) 1 [] [true, true, false]],
  [hz_m (.getfield 44) 3 [12, 10] [], hz_n, hz_n, hz_r (.bipush 17) 2, hz_n, hz_r (.iaload) 1, hz_r (.iload_n 1) 1, hz_r (.if_icmp .ne 6) 3, hz_n, hz_n, hz_m (.bipush (-3)) 2 [] [false, false, false], hz_n, hz_r (.ireturn) 1, hz_m (.aload_n 0) 1 [] [true, true, false], hz_m (.invokevirtual 313) 3 [216, 1, 0] [], hz_n],
  [hz_n, hz_r (.iconst 1) 1, hz_r (.istore_n 2) 1, hz_r (.iload_n 2) 1, hz_r (.bipush 99) 2, hz_n, hz_r (.if_icmp .gt 28) 3, hz_n, hz_n, hz_r (.aload_n 0) 1, hz_r (.iconst 1) 1, hz_r (.iconst 0) 1, hz_m (.invokevirtual 316) 3 [218, 3, 0] [], hz_n, hz_n, hz_r (.aload_n 0) 1],
  [hz_m (.getfield 47) 3 [12, 11] [], hz_n, hz_n, hz_r (.bipush 17) 2, hz_n, hz_r (.iaload) 1, hz_r (.iload_n 1) 1, hz_r (.if_icmp .ne 5) 3, hz_n, hz_n, hz_m (.iload_n 2) 1 [] [false, false, true], hz_r (.ireturn) 1, hz_r (.iinc 2 1) 3, hz_n, hz_n, hz_r (.goto (-28)) 3],
  [hz_n, hz_n, hz_m (.bipush (-2)) 2 [] [false, false, false], hz_n, hz_r (.ireturn) 1]]
/-- HeavierServesModel.ever(I)I -/
def hs_k223 : hs_K := [
  [hz_m (.aload_n 0) 1 [] [true, true, false, false, false, false, false, false, false, false], hz_r (.iconst 0) 1, hz_m (.putfield 3) 3 [12, 0] [], hz_n, hz_n, hz_r (.iload_n 1) 1, hz_r (.i2l) 1, hz_r (.lconst 0) 1, hz_m (.ldc2_w 319) 3 [0, 12] [], hz_n, hz_n, hz_m (.invokestatic 120) 3 [163, 3, 1] [], hz_n, hz_n, hz_r (.ifCond .ne 5) 3, hz_n],
  [hz_n, hz_m (.iconst (-1)) 1 [] [false, false, false, false, false, false, false, false, false, false], hz_r (.ireturn) 1, hz_m (.aload_n 0) 1 [] [true, true, false, false, false, false, false, false, false, false], hz_m (.invokevirtual 313) 3 [216, 1, 0] [], hz_n, hz_n, hz_r (.sipush 256) 3, hz_n, hz_n, hz_r (.istore_n 2) 1, hz_r (.aload_n 0) 1, hz_m (.getfield 44) 3 [12, 10] [], hz_n, hz_n, hz_r (.bipush 17) 2],
  [hz_n, hz_r (.iaload) 1, hz_r (.ifCond .ge 7) 3, hz_n, hz_n, hz_m (.iload_n 2) 1 [] [true, true, true, false, false, false, false, false, false, false], hz_r (.goto 12) 3, hz_n, hz_n, hz_m (.iconst 1) 1 [] [true, true, true, false, false, false, false, false, false, false], hz_r (.aload_n 0) 1, hz_m (.getfield 44) 3 [12, 10] [], hz_n, hz_n, hz_r (.bipush 17) 2, hz_n],
  [hz_r (.iaload) 1, hz_r (.ishl) 1, hz_m (.istore_n 3) 1 [] [true, true, true, false, false, false, false, false, false, false], hz_r (.iconst 0) 1, hz_r (.istore 4) 2, hz_n, hz_r (.iconst 0) 1, hz_r (.istore 5) 2, hz_n, hz_m (.iload 5) 2 [] [true, true, true, true, true, true, false, false, false, false], hz_n, hz_r (.iload_n 1) 1, hz_r (.if_icmp .ge 164) 3, hz_n, hz_n, hz_m (.iload_n 3) 1 [] [true, true, true, true, true, true, false, false, false, false]],
  [hz_r (.istore 6) 2, hz_n, hz_r (.iconst 0) 1, hz_r (.istore 7) 2, hz_n, hz_m (.iload 7) 2 [] [true, true, true, true, true, true, true, true, false, false], hz_n, hz_r (.aload_n 0) 1, hz_m (.getfield 117) 3 [12, 3] [], hz_n, hz_n, hz_r (.if_icmp .ge 121) 3, hz_n, hz_n, hz_m (.iload_n 3) 1 [] [true, true, true, true, true, true, true, true, false, false], hz_r (.bipush 8) 2],
  [hz_n, hz_m (.invokestatic 128) 3 [164, 2, 1] [], hz_n, hz_n, hz_r (.istore 8) 2, hz_n, hz_r (.iconst 0) 1, hz_r (.istore 9) 2, hz_n, hz_r (.iload 9) 2, hz_n, hz_r (.aload_n 0) 1, hz_m (.getfield 117) 3 [12, 3] [], hz_n, hz_n, hz_r (.if_icmp .ge 62) 3],
  [hz_n, hz_n, hz_r (.iload 8) 2, hz_n, hz_r (.ifCond .ne 44) 3, hz_n, hz_n, hz_m (.iload 9) 2 [] [true, true, true, true, true, true, true, true, false, true], hz_n, hz_r (.iload 7) 2, hz_n, hz_r (.if_icmp .eq 41) 3, hz_n, hz_n, hz_m (.iload_n 3) 1 [] [true, true, true, true, true, true, true, true, false, true], hz_r (.iload 9) 2],
  [hz_n, hz_m (.invokestatic 128) 3 [164, 2, 1] [], hz_n, hz_n, hz_r (.ifCond .eq 32) 3, hz_n, hz_n, hz_m (.aload_n 0) 1 [] [true, true, true, true, true, true, true, true, false, true], hz_r (.aload_n 0) 1, hz_m (.getfield 47) 3 [12, 11] [], hz_n, hz_n, hz_r (.iload 7) 2, hz_n, hz_r (.iaload) 1, hz_m (.invokevirtual 262) 3 [194, 2, 1] []],
  [hz_n, hz_n, hz_r (.aload_n 0) 1, hz_r (.aload_n 0) 1, hz_m (.getfield 47) 3 [12, 11] [], hz_n, hz_n, hz_r (.iload 9) 2, hz_n, hz_r (.iaload) 1, hz_m (.invokevirtual 262) 3 [194, 2, 1] [], hz_n, hz_n, hz_r (.if_icmp .le 7) 3, hz_n, hz_n],
  [hz_m (.iconst 1) 1 [] [true, true, true, true, true, true, true, true, false, true], hz_r (.goto 4) 3, hz_n, hz_n, hz_m (.iconst 0) 1 [] [true, true, true, true, true, true, true, true, false, true], hz_m (.istore 8) 2 [] [true, true, true, true, true, true, true, true, false, true], hz_n, hz_r (.iinc 9 1) 3, hz_n, hz_n, hz_r (.goto (-65)) 3, hz_n, hz_n, hz_m (.iload 6) 2 [] [true, true, true, true, true, true, true, true, true, false], hz_n, hz_r (.aload_n 0) 1],
  [hz_m (.getfield 47) 3 [12, 11] [], hz_n, hz_n, hz_r (.bipush 16) 2, hz_n, hz_r (.iaload) 1, hz_r (.iload 7) 2, hz_n, hz_m (.invokestatic 128) 3 [164, 2, 1] [], hz_n, hz_n, hz_r (.ifCond .eq 15) 3, hz_n, hz_n, hz_m (.iload 8) 2 [] [true, true, true, true, true, true, false, true, true, false], hz_n],
  [hz_r (.ifCond .eq 10) 3, hz_n, hz_n, hz_m (.iconst 1) 1 [] [true, true, true, true, true, true, false, true, false, false], hz_r (.iload 7) 2, hz_n, hz_r (.ishl) 1, hz_r (.goto 4) 3, hz_n, hz_n, hz_m (.iconst 0) 1 [] [true, true, true, true, true, true, false, true, false, false], hz_m (.ior) 1 [] [true, true, true, true, true, true, false, true, false, false], hz_r (.istore 6) 2, hz_n, hz_r (.iinc 7 1) 3, hz_n],
  [hz_n, hz_r (.goto (-124)) 3, hz_n, hz_n, hz_m (.aload_n 0) 1 [] [true, true, true, false, true, true, true, false, false, false], hz_r (.aload_n 0) 1, hz_m (.getfield 47) 3 [12, 11] [], hz_n, hz_n, hz_r (.iconst 0) 1, hz_m (.invokevirtual 282) 3 [200, 3, 0] [], hz_n, hz_n, hz_r (.iload 6) 2, hz_n, hz_r (.istore_n 3) 1],
  [hz_r (.iload 4) 2, hz_n, hz_r (.iload_n 3) 1, hz_r (.iload_n 2) 1, hz_r (.iconst 1) 1, hz_r (.isub) 1, hz_r (.iand) 1, hz_r (.ior) 1, hz_r (.istore 4) 2, hz_n, hz_r (.iinc 5 1) 3, hz_n, hz_n, hz_r (.goto (-164)) 3, hz_n, hz_n],
  [hz_m (.aload_n 0) 1 [] [true, true, true, true, true, false, false, false, false, false], hz_r (.iconst 0) 1, hz_m (.putfield 15) 3 [12, 1] [], hz_n, hz_n, hz_r (.aload_n 0) 1, hz_r (.iload_n 1) 1, hz_r (.ifCond .ne 7) 3, hz_n, hz_n, hz_m (.lconst 0) 1 [] [false, false, false, false, true, false, false, false, false, false], hz_r (.goto 9) 3, hz_n, hz_n, hz_m (.iload_n 3) 1 [] [false, false, true, true, true, false, false, false, false, false], hz_r (.iload_n 2) 1],
  [hz_r (.iconst 1) 1, hz_r (.isub) 1, hz_r (.iand) 1, hz_r (.i2l) 1, hz_m (.invokevirtual 18) 3 [167, 2, 0] [false, false, false, false, true, false, false, false, false, false], hz_n, hz_n, hz_r (.iload 4) 2, hz_n, hz_r (.ireturn) 1]]
/-- HeavierServesModel.most(II)I -/
def hs_k224 : hs_K := [
  [hz_m (.aload_n 0) 1 [] [true, true, true, false, false, false, false], hz_r (.iconst 0) 1, hz_m (.putfield 3) 3 [12, 0] [], hz_n, hz_n, hz_r (.aload_n 0) 1, hz_r (.iload_n 1) 1, hz_m (.invokevirtual 297) 3 [170, 2, 1] [], hz_n, hz_n, hz_r (.ifCond .eq 15) 3, hz_n, hz_n, hz_m (.iload_n 2) 1 [] [true, true, true, false, false, false, false], hz_r (.i2l) 1, hz_r (.lconst 0) 1],
  [hz_m (.ldc2_w 321) 3 [0, 10] [], hz_n, hz_n, hz_m (.invokestatic 120) 3 [163, 3, 1] [], hz_n, hz_n, hz_r (.ifCond .ne 5) 3, hz_n, hz_n, hz_m (.iconst (-1)) 1 [] [false, false, false, false, false, false, false], hz_r (.ireturn) 1, hz_m (.iconst (-1)) 1 [] [true, true, true, false, false, false, false], hz_r (.istore_n 3) 1, hz_r (.iconst 0) 1, hz_r (.istore 4) 2, hz_n],
  [hz_r (.iconst 0) 1, hz_r (.istore 5) 2, hz_n, hz_m (.iload 5) 2 [] [true, true, true, true, true, true, false], hz_n, hz_r (.iconst 1) 1, hz_r (.iload_n 2) 1, hz_r (.ishl) 1, hz_r (.if_icmp .ge 120) 3, hz_n, hz_n, hz_m (.aload_n 0) 1 [] [true, true, true, true, true, true, false], hz_m (.invokevirtual 313) 3 [216, 1, 0] [], hz_n, hz_n, hz_r (.iconst 0) 1],
  [hz_r (.istore 6) 2, hz_n, hz_r (.iload 6) 2, hz_n, hz_r (.iload_n 2) 1, hz_r (.if_icmp .ge 45) 3, hz_n, hz_n, hz_r (.aload_n 0) 1, hz_r (.aload_n 0) 1, hz_r (.aload_n 0) 1, hz_m (.getfield 47) 3 [12, 11] [], hz_n, hz_n, hz_m (.invokevirtual 288) 3 [193, 2, 1] [], hz_n],
  [hz_n, hz_r (.iconst 1) 1, hz_r (.iload_n 1) 1, hz_r (.ishl) 1, hz_r (.iconst (-1)) 1, hz_r (.ixor) 1, hz_r (.iand) 1, hz_r (.iload 5) 2, hz_n, hz_r (.iload 6) 2, hz_n, hz_m (.invokestatic 128) 3 [164, 2, 1] [], hz_n, hz_n, hz_r (.ifCond .eq 9) 3, hz_n],
  [hz_n, hz_r (.iconst 1) 1, hz_r (.iload_n 1) 1, hz_r (.ishl) 1, hz_r (.goto 4) 3, hz_n, hz_n, hz_r (.iconst 0) 1, hz_r (.ior) 1, hz_m (.invokevirtual 307) 3 [217, 2, 0] [], hz_n, hz_n, hz_r (.iinc 6 1) 3, hz_n, hz_n, hz_r (.goto (-45)) 3],
  [hz_n, hz_n, hz_m (.aload_n 0) 1 [] [true, true, true, true, true, true, false], hz_m (.getfield 80) 3 [12, 32] [], hz_n, hz_n, hz_r (.iload_n 1) 1, hz_r (.iaload) 1, hz_r (.iload_n 3) 1, hz_r (.if_icmp .ne 20) 3, hz_n, hz_n, hz_m (.iload 5) 2 [] [true, true, true, true, true, true, false], hz_n, hz_m (.invokestatic 323) 3 [0, 1, 1] [], hz_n],
  [hz_n, hz_r (.iload 4) 2, hz_n, hz_m (.invokestatic 323) 3 [0, 1, 1] [], hz_n, hz_n, hz_r (.if_icmp .ge 7) 3, hz_n, hz_n, hz_m (.iconst 1) 1 [] [true, true, true, true, true, true, false], hz_r (.goto 4) 3, hz_n, hz_n, hz_m (.iconst 0) 1 [] [true, true, true, true, true, true, false], hz_m (.istore 6) 2 [] [true, true, true, true, true, true, false], hz_n],
  [hz_r (.aload_n 0) 1, hz_m (.getfield 80) 3 [12, 32] [], hz_n, hz_n, hz_r (.iload_n 1) 1, hz_r (.iaload) 1, hz_r (.iload_n 3) 1, hz_r (.if_icmp .gt 8) 3, hz_n, hz_n, hz_r (.iload 6) 2, hz_n, hz_r (.ifCond .eq 14) 3, hz_n, hz_n, hz_m (.aload_n 0) 1 [] [true, true, true, false, false, true, false]],
  [hz_m (.getfield 80) 3 [12, 32] [], hz_n, hz_n, hz_r (.iload_n 1) 1, hz_r (.iaload) 1, hz_r (.istore_n 3) 1, hz_r (.iload 5) 2, hz_n, hz_r (.istore 4) 2, hz_n, hz_m (.iinc 5 1) 3 [] [true, true, true, true, true, true, false], hz_n, hz_n, hz_r (.goto (-122)) 3, hz_n, hz_n],
  [hz_m (.aload_n 0) 1 [] [true, false, false, true, true, false, false], hz_r (.iconst 0) 1, hz_m (.putfield 15) 3 [12, 1] [], hz_n, hz_n, hz_r (.aload_n 0) 1, hz_r (.iload 4) 2, hz_n, hz_r (.i2l) 1, hz_m (.invokevirtual 18) 3 [167, 2, 0] [], hz_n, hz_n, hz_r (.iload_n 3) 1, hz_r (.ireturn) 1]]
/-- HeavierServesModel.byPlans(II)I -/
def hs_k225 : hs_K := [
  [hz_m (.aload_n 0) 1 [] [true, true, true, false, false, false], hz_m (.invokevirtual 313) 3 [216, 1, 0] [], hz_n, hz_n, hz_r (.iconst 0) 1, hz_r (.istore_n 3) 1, hz_m (.iload_n 3) 1 [] [true, true, true, true, false, false], hz_r (.iload_n 2) 1, hz_r (.if_icmp .ge 63) 3, hz_n, hz_n, hz_m (.iconst 0) 1 [] [true, true, true, true, false, false], hz_r (.istore 4) 2, hz_n, hz_r (.iconst 0) 1, hz_r (.istore 5) 2],
  [hz_n, hz_r (.iload 5) 2, hz_n, hz_r (.aload_n 0) 1, hz_m (.getfield 117) 3 [12, 3] [], hz_n, hz_n, hz_r (.if_icmp .ge 36) 3, hz_n, hz_n, hz_r (.iload 4) 2, hz_n, hz_r (.aload_n 0) 1, hz_m (.getfield 83) 3 [12, 33] [], hz_n, hz_n],
  [hz_r (.iload 5) 2, hz_n, hz_r (.iaload) 1, hz_r (.iload_n 3) 1, hz_m (.invokestatic 128) 3 [164, 2, 1] [], hz_n, hz_n, hz_r (.ifCond .eq 10) 3, hz_n, hz_n, hz_m (.iconst 1) 1 [] [true, true, true, true, false, true], hz_r (.iload 5) 2, hz_n, hz_r (.ishl) 1, hz_r (.goto 4) 3, hz_n],
  [hz_n, hz_m (.iconst 0) 1 [] [true, true, true, true, false, true], hz_m (.ior) 1 [] [true, true, true, true, false, true], hz_r (.istore 4) 2, hz_n, hz_r (.iinc 5 1) 3, hz_n, hz_n, hz_r (.goto (-39)) 3, hz_n, hz_n, hz_m (.aload_n 0) 1 [] [true, true, true, true, true, false], hz_r (.iload 4) 2, hz_n, hz_m (.invokevirtual 307) 3 [217, 2, 0] [], hz_n],
  [hz_n, hz_r (.iinc 3 1) 3, hz_n, hz_n, hz_r (.goto (-62)) 3, hz_n, hz_n, hz_m (.aload_n 0) 1 [] [true, true, false, false, false, false], hz_m (.getfield 80) 3 [12, 32] [], hz_n, hz_n, hz_r (.iload_n 1) 1, hz_r (.iaload) 1, hz_r (.ireturn) 1]]
/-- HeavierServesModel.plans(II)Z -/
def hs_k226 : hs_K := [
  [hz_m (.aload_n 0) 1 [] [true, true, true, false, false, false, false, false], hz_m (.getfield 83) 3 [12, 33] [], hz_n, hz_n, hz_r (.iload_n 1) 1, hz_r (.iaload) 1, hz_r (.istore_n 3) 1, hz_r (.iload_n 3) 1, hz_r (.istore 4) 2, hz_n, hz_r (.aload_n 0) 1, hz_r (.iload_n 1) 1, hz_r (.iload_n 2) 1, hz_m (.invokevirtual 328) 3 [225, 3, 1] [], hz_n, hz_n],
  [hz_r (.istore 5) 2, hz_n, hz_r (.iconst 0) 1, hz_r (.istore 6) 2, hz_n, hz_m (.iload 6) 2 [] [true, true, true, true, true, true, true, false], hz_n, hz_r (.iconst 1) 1, hz_r (.iload_n 2) 1, hz_r (.ishl) 1, hz_r (.if_icmp .ge 50) 3, hz_n, hz_n, hz_m (.aload_n 0) 1 [] [true, true, true, true, true, true, true, false], hz_m (.getfield 83) 3 [12, 33] [], hz_n],
  [hz_n, hz_r (.iload_n 1) 1, hz_r (.iload 6) 2, hz_n, hz_r (.iastore) 1, hz_r (.aload_n 0) 1, hz_r (.iload_n 1) 1, hz_r (.iload_n 2) 1, hz_m (.invokevirtual 328) 3 [225, 3, 1] [], hz_n, hz_n, hz_r (.istore 7) 2, hz_n, hz_r (.iload 7) 2, hz_n, hz_r (.iload 5) 2],
  [hz_n, hz_r (.if_icmp .le 8) 3, hz_n, hz_n, hz_m (.iload 6) 2 [] [true, true, true, true, false, true, true, true], hz_n, hz_r (.goto 5) 3, hz_n, hz_n, hz_r (.iload 4) 2, hz_n, hz_m (.istore 4) 2 [] [true, true, true, true, false, true, true, true], hz_n, hz_r (.iload 5) 2, hz_n, hz_r (.iload 7) 2],
  [hz_n, hz_m (.invokestatic 254) 3 [2, 2, 1] [], hz_n, hz_n, hz_r (.istore 5) 2, hz_n, hz_r (.iinc 6 1) 3, hz_n, hz_n, hz_r (.goto (-52)) 3, hz_n, hz_n, hz_m (.aload_n 0) 1 [] [true, true, false, true, true, false, false, false], hz_m (.getfield 83) 3 [12, 33] [], hz_n, hz_n],
  [hz_r (.iload_n 1) 1, hz_r (.iload 4) 2, hz_n, hz_r (.iastore) 1, hz_r (.iload 4) 2, hz_n, hz_r (.iload_n 3) 1, hz_r (.if_icmp .eq 7) 3, hz_n, hz_n, hz_m (.iconst 1) 1 [] [false, false, false, false, false, false, false, false], hz_r (.goto 4) 3, hz_n, hz_n, hz_m (.iconst 0) 1 [] [false, false, false, false, false, false, false, false], hz_m (.ireturn) 1 [] [false, false, false, false, false, false, false, false]]]
/-- HeavierServesModel.rests(II)I -/
def hs_k227 : hs_K := [
  [hz_m (.aload_n 0) 1 [] [true, true, true, false, false, false], hz_r (.iconst 0) 1, hz_m (.putfield 3) 3 [12, 0] [], hz_n, hz_n, hz_r (.iload_n 1) 1, hz_r (.i2l) 1, hz_r (.lconst 1) 1, hz_m (.ldc2_w 331) 3 [0, 4] [], hz_n, hz_n, hz_m (.invokestatic 120) 3 [163, 3, 1] [], hz_n, hz_n, hz_r (.ifCond .eq 15) 3, hz_n],
  [hz_n, hz_m (.iload_n 2) 1 [] [true, true, true, false, false, false], hz_r (.i2l) 1, hz_r (.lconst 0) 1, hz_m (.ldc2_w 333) 3 [0, 20] [], hz_n, hz_n, hz_m (.invokestatic 120) 3 [163, 3, 1] [], hz_n, hz_n, hz_r (.ifCond .ne 5) 3, hz_n, hz_n, hz_m (.iconst (-1)) 1 [] [false, false, false, false, false, false], hz_r (.ireturn) 1, hz_m (.iconst 0) 1 [] [true, true, true, false, false, false]],
  [hz_r (.istore_n 3) 1, hz_m (.iload_n 3) 1 [] [true, true, true, true, false, false], hz_r (.bipush 8) 2, hz_n, hz_r (.if_icmp .ge 20) 3, hz_n, hz_n, hz_m (.aload_n 0) 1 [] [true, true, true, true, false, false], hz_m (.getfield 83) 3 [12, 33] [], hz_n, hz_n, hz_r (.iload_n 3) 1, hz_r (.iconst 1) 1, hz_r (.iload_n 1) 1, hz_r (.ishl) 1, hz_r (.iconst 1) 1],
  [hz_r (.isub) 1, hz_r (.iastore) 1, hz_r (.iinc 3 1) 3, hz_n, hz_n, hz_r (.goto (-20)) 3, hz_n, hz_n, hz_m (.iconst 0) 1 [] [true, true, true, false, false, false], hz_r (.istore_n 3) 1, hz_r (.iconst 0) 1, hz_r (.istore 4) 2, hz_n, hz_m (.iload_n 3) 1 [] [true, true, true, true, true, false], hz_r (.iload_n 2) 1, hz_r (.if_icmp .ge 66) 3],
  [hz_n, hz_n, hz_m (.iload 4) 2 [] [true, true, true, true, true, false], hz_n, hz_r (.ifCond .ne 61) 3, hz_n, hz_n, hz_m (.iconst 1) 1 [] [true, true, true, true, false, false], hz_r (.istore 4) 2, hz_n, hz_r (.iconst 0) 1, hz_r (.istore 5) 2, hz_n, hz_r (.iload 5) 2, hz_n, hz_r (.aload_n 0) 1],
  [hz_m (.getfield 117) 3 [12, 3] [], hz_n, hz_n, hz_r (.if_icmp .ge 40) 3, hz_n, hz_n, hz_r (.aload_n 0) 1, hz_r (.iload 5) 2, hz_n, hz_m (.invokevirtual 297) 3 [170, 2, 1] [], hz_n, hz_n, hz_r (.ifCond .eq 13) 3, hz_n, hz_n, hz_r (.aload_n 0) 1],
  [hz_r (.iload 5) 2, hz_n, hz_r (.iload_n 1) 1, hz_m (.invokevirtual 335) 3 [226, 3, 1] [], hz_n, hz_n, hz_r (.ifCond .ne 12) 3, hz_n, hz_n, hz_r (.iload 4) 2, hz_n, hz_r (.ifCond .eq 7) 3, hz_n, hz_n, hz_m (.iconst 1) 1 [] [true, true, true, true, false, true], hz_r (.goto 4) 3],
  [hz_n, hz_n, hz_m (.iconst 0) 1 [] [true, true, true, true, false, true], hz_m (.istore 4) 2 [] [true, true, true, true, false, true], hz_n, hz_r (.iinc 5 1) 3, hz_n, hz_n, hz_r (.goto (-43)) 3, hz_n, hz_n, hz_m (.iinc 3 1) 3 [] [true, true, true, true, true, false], hz_n, hz_n, hz_r (.goto (-65)) 3, hz_n],
  [hz_n, hz_m (.aload_n 0) 1 [] [true, false, false, true, true, false], hz_r (.iconst 0) 1, hz_m (.putfield 15) 3 [12, 1] [], hz_n, hz_n, hz_r (.aload_n 0) 1, hz_r (.iload 4) 2, hz_n, hz_m (.invokestatic 150) 3 [165, 1, 1] [], hz_n, hz_n, hz_r (.i2l) 1, hz_m (.invokevirtual 18) 3 [167, 2, 0] [], hz_n, hz_n],
  [hz_r (.iconst 0) 1, hz_r (.istore 5) 2, hz_n, hz_m (.iload 5) 2 [] [true, false, false, true, false, true], hz_n, hz_r (.aload_n 0) 1, hz_m (.getfield 117) 3 [12, 3] [], hz_n, hz_n, hz_r (.if_icmp .ge 21) 3, hz_n, hz_n, hz_m (.aload_n 0) 1 [] [true, false, false, true, false, true], hz_r (.aload_n 0) 1, hz_m (.getfield 83) 3 [12, 33] [], hz_n],
  [hz_n, hz_r (.iload 5) 2, hz_n, hz_r (.iaload) 1, hz_r (.i2l) 1, hz_m (.invokevirtual 18) 3 [167, 2, 0] [], hz_n, hz_n, hz_r (.iinc 5 1) 3, hz_n, hz_n, hz_r (.goto (-24)) 3, hz_n, hz_n, hz_m (.iload_n 3) 1 [] [false, false, false, true, false, false], hz_r (.ireturn) 1]]
/-- HeavierServesModel.servedBy(I)I -/
def hs_k228 : hs_K := [
  [hz_m (.iconst 0) 1 [] [true, true, false, false], hz_r (.istore_n 2) 1, hz_r (.iconst 0) 1, hz_r (.istore_n 3) 1, hz_r (.iload_n 3) 1, hz_r (.aload_n 0) 1, hz_m (.getfield 117) 3 [12, 3] [], hz_n, hz_n, hz_r (.if_icmp .ge 32) 3, hz_n, hz_n, hz_r (.iload_n 2) 1, hz_r (.aload_n 0) 1, hz_m (.getfield 28) 3 [12, 4] [], hz_n],
  [hz_n, hz_r (.iload_n 3) 1, hz_r (.iaload) 1, hz_r (.iload_n 1) 1, hz_r (.if_icmp .ne 12) 3, hz_n, hz_n, hz_m (.aload_n 0) 1 [] [true, true, false, true], hz_m (.getfield 80) 3 [12, 32] [], hz_n, hz_n, hz_r (.iload_n 3) 1, hz_r (.iaload) 1, hz_r (.goto 4) 3, hz_n, hz_n],
  [hz_m (.iconst 0) 1 [] [true, true, false, true], hz_m (.iadd) 1 [] [true, true, false, true], hz_r (.istore_n 2) 1, hz_r (.iinc 3 1) 3, hz_n, hz_n, hz_r (.goto (-34)) 3, hz_n, hz_n, hz_m (.iload_n 2) 1 [] [false, false, true, false], hz_r (.ireturn) 1]]
/-- HeavierServesModel.party(I)I -/
def hs_k229 : hs_K := [
  [hz_m (.aload_n 0) 1 [] [true, true, false, false, false, false, false], hz_r (.iconst 0) 1, hz_m (.putfield 3) 3 [12, 0] [], hz_n, hz_n, hz_r (.iload_n 1) 1, hz_m (.invokestatic 310) 3 [219, 1, 1] [], hz_n, hz_n, hz_r (.ifCond .ne 6) 3, hz_n, hz_n, hz_m (.bipush (-2)) 2 [] [false, false, false, false, false, false, false], hz_n, hz_r (.ireturn) 1, hz_m (.aload_n 0) 1 [] [true, true, false, false, false, false, false]],
  [hz_m (.invokevirtual 313) 3 [216, 1, 0] [], hz_n, hz_n, hz_r (.aload_n 0) 1, hz_r (.iload_n 1) 1, hz_r (.iconst 0) 1, hz_m (.invokevirtual 316) 3 [218, 3, 0] [], hz_n, hz_n, hz_r (.iconst (-1)) 1, hz_r (.istore_n 2) 1, hz_r (.iconst 0) 1, hz_r (.istore_n 3) 1, hz_r (.iconst 0) 1, hz_r (.istore 4) 2, hz_n],
  [hz_r (.aload_n 0) 1, hz_r (.iconst 0) 1, hz_m (.putfield 15) 3 [12, 1] [], hz_n, hz_n, hz_r (.iconst 0) 1, hz_r (.istore 5) 2, hz_n, hz_m (.iload 5) 2 [] [true, false, true, true, true, true, false], hz_n, hz_r (.iconst 4) 1, hz_r (.if_icmp .ge 44) 3, hz_n, hz_n, hz_m (.aload_n 0) 1 [] [true, false, true, true, true, true, false], hz_r (.iload 5) 2],
  [hz_n, hz_m (.invokevirtual 338) 3 [228, 2, 1] [], hz_n, hz_n, hz_r (.istore 6) 2, hz_n, hz_r (.aload_n 0) 1, hz_r (.iload 6) 2, hz_n, hz_r (.i2l) 1, hz_m (.invokevirtual 18) 3 [167, 2, 0] [], hz_n, hz_n, hz_r (.iload 6) 2, hz_n, hz_r (.iload_n 3) 1],
  [hz_r (.if_icmp .le 8) 3, hz_n, hz_n, hz_m (.iload 5) 2 [] [true, false, false, true, true, true, true], hz_n, hz_r (.goto 4) 3, hz_n, hz_n, hz_m (.iload_n 2) 1 [] [true, false, true, true, true, true, true], hz_m (.istore_n 2) 1 [] [true, false, false, true, true, true, true], hz_r (.iload_n 3) 1, hz_r (.iload 6) 2, hz_n, hz_m (.invokestatic 254) 3 [2, 2, 1] [], hz_n, hz_n],
  [hz_r (.istore_n 3) 1, hz_r (.iinc 5 1) 3, hz_n, hz_n, hz_r (.goto (-44)) 3, hz_n, hz_n, hz_m (.iconst 0) 1 [] [true, false, true, false, true, false, false], hz_r (.istore 5) 2, hz_n, hz_m (.iload 5) 2 [] [true, false, true, false, true, true, false], hz_n, hz_r (.aload_n 0) 1, hz_m (.getfield 117) 3 [12, 3] [], hz_n, hz_n],
  [hz_r (.if_icmp .ge 32) 3, hz_n, hz_n, hz_m (.iload 4) 2 [] [true, false, true, false, true, true, false], hz_n, hz_r (.aload_n 0) 1, hz_m (.getfield 80) 3 [12, 32] [], hz_n, hz_n, hz_r (.iload 5) 2, hz_n, hz_r (.iaload) 1, hz_r (.ifCond .le 10) 3, hz_n, hz_n, hz_m (.iconst 1) 1 [] [true, false, true, false, false, true, false]],
  [hz_r (.iload 5) 2, hz_n, hz_r (.ishl) 1, hz_r (.goto 4) 3, hz_n, hz_n, hz_m (.iconst 0) 1 [] [true, false, true, false, false, true, false], hz_m (.ior) 1 [] [true, false, true, false, false, true, false], hz_r (.istore 4) 2, hz_n, hz_r (.iinc 5 1) 3, hz_n, hz_n, hz_r (.goto (-35)) 3, hz_n, hz_n],
  [hz_m (.aload_n 0) 1 [] [true, false, true, false, true, false, false], hz_r (.iload 4) 2, hz_n, hz_r (.i2l) 1, hz_m (.invokevirtual 18) 3 [167, 2, 0] [], hz_n, hz_n, hz_r (.iload_n 2) 1, hz_r (.ireturn) 1]]
/-- HeavierServesModel.byTurns(II)I -/
def hs_k230 : hs_K := [
  [hz_m (.aload_n 0) 1 [] [true, true, true, false, false, false, false, false], hz_r (.iconst 0) 1, hz_m (.putfield 3) 3 [12, 0] [], hz_n, hz_n, hz_r (.iload_n 1) 1, hz_r (.i2l) 1, hz_r (.lconst 0) 1, hz_m (.ldc2_w 267) 3 [0, 3] [], hz_n, hz_n, hz_m (.invokestatic 120) 3 [163, 3, 1] [], hz_n, hz_n, hz_r (.ifCond .eq 10) 3, hz_n],
  [hz_n, hz_m (.iload_n 2) 1 [] [true, true, true, false, false, false, false, false], hz_m (.invokestatic 310) 3 [219, 1, 1] [], hz_n, hz_n, hz_r (.ifCond .ne 5) 3, hz_n, hz_n, hz_m (.iconst (-1)) 1 [] [false, false, false, false, false, false, false, false], hz_r (.ireturn) 1, hz_m (.aload_n 0) 1 [] [true, true, true, false, false, false, false, false], hz_m (.invokevirtual 313) 3 [216, 1, 0] [], hz_n, hz_n, hz_r (.aload_n 0) 1, hz_r (.iload_n 2) 1],
  [hz_r (.iconst 0) 1, hz_m (.invokevirtual 316) 3 [218, 3, 0] [], hz_n, hz_n, hz_r (.aload_n 0) 1, hz_r (.iload_n 1) 1, hz_m (.invokevirtual 338) 3 [228, 2, 1] [], hz_n, hz_n, hz_r (.istore_n 3) 1, hz_r (.iconst 0) 1, hz_r (.istore 4) 2, hz_n, hz_r (.iconst 0) 1, hz_r (.istore 5) 2, hz_n],
  [hz_m (.iload 5) 2 [] [true, true, true, true, true, true, false, false], hz_n, hz_r (.aload_n 0) 1, hz_m (.getfield 117) 3 [12, 3] [], hz_n, hz_n, hz_r (.if_icmp .ge 48) 3, hz_n, hz_n, hz_m (.iload 4) 2 [] [true, true, true, true, true, true, false, false], hz_n, hz_r (.aload_n 0) 1, hz_m (.getfield 28) 3 [12, 4] [], hz_n, hz_n, hz_r (.iload 5) 2],
  [hz_n, hz_r (.iaload) 1, hz_r (.iload_n 1) 1, hz_r (.if_icmp .ne 25) 3, hz_n, hz_n, hz_m (.aload_n 0) 1 [] [true, true, true, true, false, true, false, false], hz_m (.getfield 44) 3 [12, 10] [], hz_n, hz_n, hz_r (.bipush 16) 2, hz_n, hz_r (.iaload) 1, hz_r (.iload 5) 2, hz_n, hz_m (.invokestatic 128) 3 [164, 2, 1] []],
  [hz_n, hz_n, hz_r (.ifCond .eq 10) 3, hz_n, hz_n, hz_m (.iconst 1) 1 [] [true, true, true, true, false, true, false, false], hz_r (.iload 5) 2, hz_n, hz_r (.ishl) 1, hz_r (.goto 4) 3, hz_n, hz_n, hz_m (.iconst 0) 1 [] [true, true, true, true, false, true, false, false], hz_m (.ior) 1 [] [true, true, true, true, false, true, false, false], hz_r (.istore 4) 2, hz_n],
  [hz_r (.iinc 5 1) 3, hz_n, hz_n, hz_r (.goto (-51)) 3, hz_n, hz_n, hz_m (.aload_n 0) 1 [] [true, true, true, true, true, false, false, false], hz_m (.invokevirtual 313) 3 [216, 1, 0] [], hz_n, hz_n, hz_r (.iconst (-1)) 1, hz_r (.istore 5) 2, hz_n, hz_r (.iconst 0) 1, hz_r (.istore 6) 2, hz_n],
  [hz_m (.iload 6) 2 [] [true, true, true, true, true, true, true, false], hz_n, hz_r (.iload_n 2) 1, hz_r (.if_icmp .ge 75) 3, hz_n, hz_n, hz_m (.aload_n 0) 1 [] [true, true, true, true, true, true, true, false], hz_r (.aload_n 0) 1, hz_m (.getfield 47) 3 [12, 11] [], hz_n, hz_n, hz_m (.invokevirtual 288) 3 [193, 2, 1] [], hz_n, hz_n, hz_r (.iload 4) 2, hz_n],
  [hz_r (.iconst (-1)) 1, hz_r (.ixor) 1, hz_r (.iand) 1, hz_r (.istore 7) 2, hz_n, hz_r (.iload 4) 2, hz_n, hz_r (.ifCond .eq 43) 3, hz_n, hz_n, hz_r (.iload 5) 2, hz_n, hz_r (.iconst 1) 1, hz_r (.iadd) 1, hz_r (.bipush 8) 2, hz_n],
  [hz_r (.irem) 1, hz_r (.istore 5) 2, hz_n, hz_r (.iload 4) 2, hz_n, hz_r (.iload 5) 2, hz_n, hz_m (.invokestatic 128) 3 [164, 2, 1] [], hz_n, hz_n, hz_r (.ifCond .ne 15) 3, hz_n, hz_n, hz_r (.iload 5) 2, hz_n, hz_r (.iconst 1) 1],
  [hz_r (.iadd) 1, hz_r (.bipush 8) 2, hz_n, hz_r (.irem) 1, hz_r (.istore 5) 2, hz_n, hz_r (.goto (-19)) 3, hz_n, hz_n, hz_r (.iload 7) 2, hz_n, hz_r (.iconst 1) 1, hz_r (.iload 5) 2, hz_n, hz_r (.ishl) 1, hz_r (.ior) 1],
  [hz_r (.istore 7) 2, hz_n, hz_r (.aload_n 0) 1, hz_r (.iload 7) 2, hz_n, hz_m (.invokevirtual 307) 3 [217, 2, 0] [], hz_n, hz_n, hz_r (.iinc 6 1) 3, hz_n, hz_n, hz_r (.goto (-75)) 3, hz_n, hz_n, hz_m (.aload_n 0) 1 [] [true, true, false, true, false, false, false, false], hz_r (.iconst 0) 1],
  [hz_m (.putfield 15) 3 [12, 1] [], hz_n, hz_n, hz_r (.aload_n 0) 1, hz_r (.aload_n 0) 1, hz_r (.iload_n 1) 1, hz_m (.invokevirtual 338) 3 [228, 2, 1] [], hz_n, hz_n, hz_r (.iload_n 3) 1, hz_r (.isub) 1, hz_r (.i2l) 1, hz_m (.invokevirtual 18) 3 [167, 2, 0] [], hz_n, hz_n, hz_r (.aload_n 0) 1],
  [hz_r (.iload_n 1) 1, hz_m (.invokevirtual 338) 3 [228, 2, 1] [], hz_n, hz_n, hz_r (.ireturn) 1]]
/-- HeavierServesModel.fool(II)I -/
def hs_k231 : hs_K := [
  [hz_m (.aload_n 0) 1 [] [true, true, true, false, false], hz_r (.iconst 0) 1, hz_m (.putfield 3) 3 [12, 0] [], hz_n, hz_n, hz_r (.aload_n 0) 1, hz_r (.iload_n 1) 1, hz_m (.invokevirtual 124) 3 [169, 2, 1] [], hz_n, hz_n, hz_r (.ifCond .eq 10) 3, hz_n, hz_n, hz_m (.iload_n 2) 1 [] [true, true, true, false, false], hz_m (.invokestatic 310) 3 [219, 1, 1] [], hz_n],
  [hz_n, hz_r (.ifCond .ne 8) 3, hz_n, hz_n, hz_m (.aload_n 0) 1 [] [true, false, false, false, false], hz_m (.invokevirtual 259) 3 [162, 1, 1] [], hz_n, hz_n, hz_r (.ireturn) 1, hz_m (.aload_n 0) 1 [] [true, true, true, false, false], hz_m (.invokevirtual 313) 3 [216, 1, 0] [], hz_n, hz_n, hz_r (.aload_n 0) 1, hz_r (.iload_n 2) 1, hz_r (.iconst 0) 1],
  [hz_m (.invokevirtual 316) 3 [218, 3, 0] [], hz_n, hz_n, hz_r (.aload_n 0) 1, hz_r (.aload_n 0) 1, hz_m (.getfield 28) 3 [12, 4] [], hz_n, hz_n, hz_r (.iload_n 1) 1, hz_r (.iaload) 1, hz_m (.invokevirtual 338) 3 [228, 2, 1] [], hz_n, hz_n, hz_r (.istore_n 3) 1, hz_r (.aload_n 0) 1, hz_m (.invokevirtual 313) 3 [216, 1, 0] []],
  [hz_n, hz_n, hz_r (.aload_n 0) 1, hz_r (.iload_n 2) 1, hz_r (.iconst 1) 1, hz_r (.iload_n 1) 1, hz_r (.ishl) 1, hz_m (.invokevirtual 316) 3 [218, 3, 0] [], hz_n, hz_n, hz_r (.aload_n 0) 1, hz_r (.aload_n 0) 1, hz_m (.getfield 28) 3 [12, 4] [], hz_n, hz_n, hz_r (.iload_n 1) 1],
  [hz_r (.iaload) 1, hz_m (.invokevirtual 338) 3 [228, 2, 1] [], hz_n, hz_n, hz_r (.istore 4) 2, hz_n, hz_r (.aload_n 0) 1, hz_r (.iconst 0) 1, hz_m (.putfield 15) 3 [12, 1] [], hz_n, hz_n, hz_r (.aload_n 0) 1, hz_r (.iload_n 3) 1, hz_r (.i2l) 1, hz_m (.invokevirtual 18) 3 [167, 2, 0] [], hz_n],
  [hz_n, hz_r (.aload_n 0) 1, hz_r (.iload 4) 2, hz_n, hz_r (.i2l) 1, hz_m (.invokevirtual 18) 3 [167, 2, 0] [], hz_n, hz_n, hz_r (.iload_n 3) 1, hz_r (.iload 4) 2, hz_n, hz_r (.isub) 1, hz_r (.ireturn) 1]]
/-- HeavierServesModel.areSixty(I)Z -/
def hs_k232 : hs_K := [
  [hz_r (.iload_n 0) 1, hz_r (.i2l) 1, hz_r (.lconst 0) 1, hz_m (.ldc2_w 341) 3 [0, 60] [], hz_n, hz_n, hz_m (.invokestatic 120) 3 [163, 3, 1] [], hz_n, hz_n, hz_r (.ireturn) 1]]
/-- HeavierServesModel.startsWith(II)V -/
def hs_k233 : hs_K := [
  [hz_r (.aload_n 0) 1, hz_m (.invokevirtual 313) 3 [216, 1, 0] [], hz_n, hz_n, hz_r (.aload_n 0) 1, hz_m (.getfield 47) 3 [12, 11] [], hz_n, hz_n, hz_r (.iload_n 1) 1, hz_r (.iconst 1) 1, hz_r (.sipush 999) 3, hz_n, hz_n, hz_r (.aload_n 0) 1, hz_m (.getfield 47) 3 [12, 11] [], hz_n],
  [hz_n, hz_r (.iload_n 1) 1, hz_r (.iaload) 1, hz_r (.iload_n 2) 1, hz_r (.iadd) 1, hz_m (.invokestatic 141) 3 [3, 2, 1] [], hz_n, hz_n, hz_m (.invokestatic 254) 3 [2, 2, 1] [], hz_n, hz_n, hz_r (.iastore) 1, hz_r (.return_) 1]]
/-- HeavierServesModel.hold(I)I -/
def hs_k234 : hs_K := [
  [hz_m (.aload_n 0) 1 [] [true, true, false, false], hz_r (.iconst 0) 1, hz_m (.putfield 3) 3 [12, 0] [], hz_n, hz_n, hz_r (.iload_n 1) 1, hz_m (.invokestatic 343) 3 [232, 1, 1] [], hz_n, hz_n, hz_r (.ifCond .ne 5) 3, hz_n, hz_n, hz_m (.iconst (-1)) 1 [] [false, false, false, false], hz_r (.ireturn) 1, hz_m (.aload_n 0) 1 [] [true, true, false, false], hz_m (.getfield 44) 3 [12, 10] []],
  [hz_n, hz_n, hz_r (.bipush 17) 2, hz_n, hz_r (.iaload) 1, hz_r (.istore_n 2) 1, hz_r (.iload_n 2) 1, hz_r (.ifCond .ge 6) 3, hz_n, hz_n, hz_m (.bipush (-3)) 2 [] [false, false, false, false], hz_n, hz_r (.ireturn) 1, hz_m (.iconst 0) 1 [] [true, true, true, false], hz_r (.istore_n 3) 1, hz_r (.iload_n 3) 1],
  [hz_r (.sipush 999) 3, hz_n, hz_n, hz_r (.if_icmp .gt 33) 3, hz_n, hz_n, hz_r (.aload_n 0) 1, hz_r (.iload_n 2) 1, hz_r (.iload_n 3) 1, hz_m (.invokevirtual 346) 3 [233, 3, 0] [], hz_n, hz_n, hz_r (.aload_n 0) 1, hz_r (.iload_n 1) 1, hz_r (.iconst 0) 1, hz_m (.invokevirtual 316) 3 [218, 3, 0] []],
  [hz_n, hz_n, hz_r (.aload_n 0) 1, hz_m (.getfield 80) 3 [12, 32] [], hz_n, hz_n, hz_r (.iload_n 2) 1, hz_r (.iaload) 1, hz_r (.iload_n 1) 1, hz_r (.if_icmp .ne 5) 3, hz_n, hz_n, hz_m (.iload_n 3) 1 [] [false, false, false, true], hz_r (.ireturn) 1, hz_r (.iinc 3 1) 3, hz_n],
  [hz_n, hz_r (.goto (-34)) 3, hz_n, hz_n, hz_m (.bipush (-2)) 2 [] [false, false, false, false], hz_n, hz_r (.ireturn) 1]]
/-- HeavierServesModel.bribe(II)I -/
def hs_k235 : hs_K := [
  [hz_m (.aload_n 0) 1 [] [true, true, true, false], hz_r (.iconst 0) 1, hz_m (.putfield 3) 3 [12, 0] [], hz_n, hz_n, hz_r (.aload_n 0) 1, hz_r (.iload_n 1) 1, hz_m (.invokevirtual 297) 3 [170, 2, 1] [], hz_n, hz_n, hz_r (.ifCond .eq 15) 3, hz_n, hz_n, hz_m (.iload_n 2) 1 [] [true, true, true, false], hz_r (.i2l) 1, hz_r (.lconst 1) 1],
  [hz_m (.ldc2_w 341) 3 [0, 60] [], hz_n, hz_n, hz_m (.invokestatic 120) 3 [163, 3, 1] [], hz_n, hz_n, hz_r (.ifCond .ne 5) 3, hz_n, hz_n, hz_m (.iconst (-1)) 1 [] [false, false, false, false], hz_r (.ireturn) 1, hz_m (.iconst 0) 1 [] [true, true, true, false], hz_r (.istore_n 3) 1, hz_r (.iload_n 3) 1, hz_r (.sipush 999) 3, hz_n],
  [hz_n, hz_r (.if_icmp .gt 50) 3, hz_n, hz_n, hz_r (.aload_n 0) 1, hz_r (.iload_n 1) 1, hz_r (.iload_n 3) 1, hz_m (.invokevirtual 346) 3 [233, 3, 0] [], hz_n, hz_n, hz_r (.aload_n 0) 1, hz_r (.iload_n 2) 1, hz_r (.iconst 0) 1, hz_m (.invokevirtual 316) 3 [218, 3, 0] [], hz_n, hz_n],
  [hz_r (.aload_n 0) 1, hz_m (.getfield 47) 3 [12, 11] [], hz_n, hz_n, hz_r (.bipush 17) 2, hz_n, hz_r (.iaload) 1, hz_r (.iload_n 1) 1, hz_r (.if_icmp .ne 21) 3, hz_n, hz_n, hz_m (.aload_n 0) 1 [] [true, true, false, true], hz_r (.iconst 0) 1, hz_m (.putfield 15) 3 [12, 1] [], hz_n, hz_n],
  [hz_r (.aload_n 0) 1, hz_r (.aload_n 0) 1, hz_m (.getfield 80) 3 [12, 32] [], hz_n, hz_n, hz_r (.iload_n 1) 1, hz_r (.iaload) 1, hz_r (.i2l) 1, hz_m (.invokevirtual 18) 3 [167, 2, 0] [], hz_n, hz_n, hz_r (.iload_n 3) 1, hz_r (.ireturn) 1, hz_r (.iinc 3 1) 3, hz_n, hz_n],
  [hz_r (.goto (-51)) 3, hz_n, hz_n, hz_m (.bipush (-2)) 2 [] [false, false, false, false], hz_n, hz_r (.ireturn) 1]]
/-- HeavierServesModel.starve(II)I -/
def hs_k236 : hs_K := [
  [hz_m (.aload_n 0) 1 [] [true, true, true, false], hz_r (.iconst 0) 1, hz_m (.putfield 3) 3 [12, 0] [], hz_n, hz_n, hz_r (.aload_n 0) 1, hz_r (.iload_n 1) 1, hz_m (.invokevirtual 297) 3 [170, 2, 1] [], hz_n, hz_n, hz_r (.ifCond .eq 10) 3, hz_n, hz_n, hz_m (.iload_n 2) 1 [] [true, true, true, false], hz_m (.invokestatic 343) 3 [232, 1, 1] [], hz_n],
  [hz_n, hz_r (.ifCond .ne 5) 3, hz_n, hz_n, hz_m (.iconst (-1)) 1 [] [false, false, false, false], hz_r (.ireturn) 1, hz_m (.iconst 0) 1 [] [true, true, true, false], hz_r (.istore_n 3) 1, hz_r (.iload_n 3) 1, hz_r (.sipush 999) 3, hz_n, hz_n, hz_r (.if_icmp .gt 33) 3, hz_n, hz_n, hz_r (.aload_n 0) 1],
  [hz_r (.iload_n 1) 1, hz_r (.iload_n 3) 1, hz_r (.ineg) 1, hz_m (.invokevirtual 346) 3 [233, 3, 0] [], hz_n, hz_n, hz_r (.aload_n 0) 1, hz_r (.iload_n 2) 1, hz_r (.iconst 0) 1, hz_m (.invokevirtual 316) 3 [218, 3, 0] [], hz_n, hz_n, hz_r (.aload_n 0) 1, hz_m (.getfield 80) 3 [12, 32] [], hz_n, hz_n],
  [hz_r (.iload_n 1) 1, hz_r (.iaload) 1, hz_r (.ifCond .ne 5) 3, hz_n, hz_n, hz_m (.iload_n 3) 1 [] [false, false, false, true], hz_r (.ireturn) 1, hz_r (.iinc 3 1) 3, hz_n, hz_n, hz_r (.goto (-34)) 3, hz_n, hz_n, hz_m (.bipush (-2)) 2 [] [false, false, false, false], hz_n, hz_r (.ireturn) 1]]
/-- HeavierServesModel.cheapest()I -/
def hs_k237 : hs_K := [
  [hz_m (.aload_n 0) 1 [] [true, false, false, false, false], hz_r (.iconst 0) 1, hz_m (.putfield 3) 3 [12, 0] [], hz_n, hz_n, hz_r (.bipush (-2)) 2, hz_n, hz_r (.istore_n 1) 1, hz_r (.sipush 1000) 3, hz_n, hz_n, hz_r (.istore_n 2) 1, hz_r (.iconst 0) 1, hz_r (.istore_n 3) 1, hz_m (.iload_n 3) 1 [] [true, true, true, true, false], hz_r (.aload_n 0) 1],
  [hz_m (.getfield 117) 3 [12, 3] [], hz_n, hz_n, hz_r (.if_icmp .ge 74) 3, hz_n, hz_n, hz_m (.aload_n 0) 1 [] [true, true, true, true, false], hz_r (.iload_n 3) 1, hz_m (.invokevirtual 297) 3 [170, 2, 1] [], hz_n, hz_n, hz_r (.ifCond .ne 6) 3, hz_n, hz_n, hz_m (.goto 57) 3 [] [true, true, true, true, false], hz_n],
  [hz_n, hz_m (.iconst 0) 1 [] [true, true, true, true, false], hz_r (.istore 4) 2, hz_n, hz_r (.iload 4) 2, hz_n, hz_r (.iload_n 2) 1, hz_r (.if_icmp .ge 48) 3, hz_n, hz_n, hz_r (.aload_n 0) 1, hz_r (.iload_n 3) 1, hz_r (.iload 4) 2, hz_n, hz_m (.invokevirtual 346) 3 [233, 3, 0] [], hz_n],
  [hz_n, hz_r (.aload_n 0) 1, hz_r (.aload_n 0) 1, hz_r (.aload_n 0) 1, hz_m (.getfield 47) 3 [12, 11] [], hz_n, hz_n, hz_m (.invokevirtual 288) 3 [193, 2, 1] [], hz_n, hz_n, hz_r (.iconst 1) 1, hz_r (.iload_n 3) 1, hz_r (.ishl) 1, hz_r (.ior) 1, hz_m (.invokevirtual 307) 3 [217, 2, 0] [], hz_n],
  [hz_n, hz_r (.aload_n 0) 1, hz_m (.getfield 47) 3 [12, 11] [], hz_n, hz_n, hz_r (.bipush 17) 2, hz_n, hz_r (.iaload) 1, hz_r (.iload_n 3) 1, hz_r (.if_icmp .ne 8) 3, hz_n, hz_n, hz_m (.iload_n 3) 1 [] [true, false, false, true, true], hz_r (.istore_n 1) 1, hz_r (.iload 4) 2, hz_n],
  [hz_r (.istore_n 2) 1, hz_r (.iinc 4 1) 3, hz_n, hz_n, hz_r (.goto (-48)) 3, hz_n, hz_n, hz_m (.iinc 3 1) 3 [] [true, true, true, true, false], hz_n, hz_n, hz_r (.goto (-76)) 3, hz_n, hz_n, hz_m (.iload_n 1) 1 [] [true, true, true, false, false], hz_r (.ifCond .ge 6) 3, hz_n],
  [hz_n, hz_m (.bipush (-2)) 2 [] [false, false, false, false, false], hz_n, hz_r (.ireturn) 1, hz_m (.aload_n 0) 1 [] [true, true, true, false, false], hz_r (.iconst 0) 1, hz_m (.putfield 15) 3 [12, 1] [], hz_n, hz_n, hz_r (.aload_n 0) 1, hz_r (.iload_n 2) 1, hz_r (.i2l) 1, hz_m (.invokevirtual 18) 3 [167, 2, 0] [], hz_n, hz_n, hz_r (.iload_n 1) 1],
  [hz_r (.ireturn) 1]]
/-- HeavierServesModel.weighed(II)I -/
def hs_k238 : hs_K := [
  [hz_r (.aload_n 0) 1, hz_r (.iconst 0) 1, hz_m (.putfield 3) 3 [12, 0] [], hz_n, hz_n, hz_r (.aload_n 0) 1, hz_r (.iload_n 1) 1, hz_m (.invokevirtual 124) 3 [169, 2, 1] [], hz_n, hz_n, hz_r (.ifCond .eq 24) 3, hz_n, hz_n, hz_r (.iload_n 2) 1, hz_r (.i2l) 1, hz_r (.lconst 0) 1],
  [hz_m (.ldc2_w 349) 3 [0, 1010] [], hz_n, hz_n, hz_m (.invokestatic 120) 3 [163, 3, 1] [], hz_n, hz_n, hz_r (.ifCond .eq 12) 3, hz_n, hz_n, hz_r (.aload_n 0) 1, hz_m (.getfield 351) 3 [12, 34] [], hz_n, hz_n, hz_r (.bipush 12) 2, hz_n, hz_r (.if_icmp .ne 5) 3],
  [hz_n, hz_n, hz_m (.iconst (-1)) 1 [] [false, false, false], hz_r (.ireturn) 1, hz_r (.aload_n 0) 1, hz_m (.getfield 86) 3 [12, 35] [], hz_n, hz_n, hz_r (.aload_n 0) 1, hz_m (.getfield 351) 3 [12, 34] [], hz_n, hz_n, hz_r (.iload_n 1) 1, hz_r (.iastore) 1, hz_r (.aload_n 0) 1, hz_m (.getfield 89) 3 [12, 36] []],
  [hz_n, hz_n, hz_r (.aload_n 0) 1, hz_m (.getfield 351) 3 [12, 34] [], hz_n, hz_n, hz_r (.iload_n 2) 1, hz_r (.iastore) 1, hz_r (.aload_n 0) 1, hz_r (.dup) 1, hz_m (.getfield 351) 3 [12, 34] [], hz_n, hz_n, hz_r (.iconst 1) 1, hz_r (.iadd) 1, hz_m (.putfield 351) 3 [12, 34] []],
  [hz_n, hz_n, hz_r (.aload_n 0) 1, hz_m (.getfield 351) 3 [12, 34] [], hz_n, hz_n, hz_r (.ireturn) 1]]
/-- HeavierServesModel.forget()I -/
def hs_k239 : hs_K := [
  [hz_r (.aload_n 0) 1, hz_r (.iconst 0) 1, hz_m (.putfield 3) 3 [12, 0] [], hz_n, hz_n, hz_r (.aload_n 0) 1, hz_m (.getfield 351) 3 [12, 34] [], hz_n, hz_n, hz_r (.ifCond .ne 5) 3, hz_n, hz_n, hz_m (.iconst (-1)) 1 [] [false], hz_r (.ireturn) 1, hz_r (.aload_n 0) 1, hz_r (.dup) 1],
  [hz_m (.getfield 351) 3 [12, 34] [], hz_n, hz_n, hz_r (.iconst 1) 1, hz_r (.isub) 1, hz_m (.putfield 351) 3 [12, 34] [], hz_n, hz_n, hz_r (.aload_n 0) 1, hz_m (.getfield 351) 3 [12, 34] [], hz_n, hz_n, hz_r (.ireturn) 1]]
/-- HeavierServesModel.canBe(II)Z -/
def hs_k240 : hs_K := [
  [hz_m (.iconst 1) 1 [] [true, true, true, false, false], hz_r (.istore_n 3) 1, hz_r (.iconst 0) 1, hz_r (.istore 4) 2, hz_n, hz_r (.iload 4) 2, hz_n, hz_r (.aload_n 0) 1, hz_m (.getfield 351) 3 [12, 34] [], hz_n, hz_n, hz_r (.if_icmp .ge 45) 3, hz_n, hz_n, hz_r (.iload_n 3) 1, hz_r (.ifCond .eq 33) 3],
  [hz_n, hz_n, hz_m (.aload_n 0) 1 [] [true, true, true, false, true], hz_m (.getfield 86) 3 [12, 35] [], hz_n, hz_n, hz_r (.iload 4) 2, hz_n, hz_r (.iaload) 1, hz_r (.iload_n 1) 1, hz_r (.if_icmp .ne 18) 3, hz_n, hz_n, hz_m (.aload_n 0) 1 [] [true, true, true, false, true], hz_m (.getfield 89) 3 [12, 36] [], hz_n],
  [hz_n, hz_r (.iload 4) 2, hz_n, hz_r (.iaload) 1, hz_r (.aload_n 0) 1, hz_r (.iload_n 2) 1, hz_m (.invokevirtual 262) 3 [194, 2, 1] [], hz_n, hz_n, hz_r (.if_icmp .ne 7) 3, hz_n, hz_n, hz_m (.iconst 1) 1 [] [true, true, true, false, true], hz_r (.goto 4) 3, hz_n, hz_n],
  [hz_m (.iconst 0) 1 [] [true, true, true, false, true], hz_m (.istore_n 3) 1 [] [true, true, true, false, true], hz_r (.iinc 4 1) 3, hz_n, hz_n, hz_r (.goto (-48)) 3, hz_n, hz_n, hz_m (.iload_n 3) 1 [] [false, false, false, true, false], hz_r (.ireturn) 1]]
/-- HeavierServesModel.weightsOf(IZ)I -/
def hs_k241 : hs_K := [
  [hz_m (.iconst 0) 1 [] [true, true, true, false, false, false, false], hz_r (.istore_n 3) 1, hz_r (.iconst 0) 1, hz_r (.istore 4) 2, hz_n, hz_r (.iconst 0) 1, hz_r (.istore 5) 2, hz_n, hz_r (.iconst 1) 1, hz_r (.istore 6) 2, hz_n, hz_r (.iload 6) 2, hz_n, hz_r (.sipush 999) 3, hz_n, hz_n],
  [hz_r (.if_icmp .gt 39) 3, hz_n, hz_n, hz_r (.aload_n 0) 1, hz_r (.iload_n 1) 1, hz_r (.iload 6) 2, hz_n, hz_m (.invokevirtual 354) 3 [240, 3, 1] [], hz_n, hz_n, hz_r (.ifCond .eq 23) 3, hz_n, hz_n, hz_m (.iload_n 3) 1 [] [true, true, true, true, true, false, true], hz_r (.ifCond .ne 8) 3, hz_n],
  [hz_n, hz_m (.iload 6) 2 [] [true, true, true, true, false, false, true], hz_n, hz_r (.goto 5) 3, hz_n, hz_n, hz_m (.iload 4) 2 [] [true, true, true, true, true, false, true], hz_n, hz_m (.istore 4) 2 [] [true, true, true, true, false, false, true], hz_n, hz_r (.iload 6) 2, hz_n, hz_r (.istore 5) 2, hz_n, hz_r (.iinc 3 1) 3, hz_n],
  [hz_n, hz_r (.iinc 6 1) 3, hz_n, hz_n, hz_r (.goto (-41)) 3, hz_n, hz_n, hz_m (.iload_n 2) 1 [] [true, false, true, true, true, true, false], hz_r (.ifCond .eq 12) 3, hz_n, hz_n, hz_m (.aload_n 0) 1 [] [true, false, false, true, true, true, false], hz_r (.iload_n 3) 1, hz_r (.iload 4) 2, hz_n, hz_r (.iload 5) 2],
  [hz_n, hz_m (.invokevirtual 357) 3 [242, 4, 0] [], hz_n, hz_n, hz_m (.iload_n 3) 1 [] [false, false, false, true, false, false, false], hz_r (.ireturn) 1]]
/-- HeavierServesModel.tellsSpan(III)V -/
def hs_k242 : hs_K := [
  [hz_r (.aload_n 0) 1, hz_r (.iconst 0) 1, hz_m (.putfield 15) 3 [12, 1] [], hz_n, hz_n, hz_r (.iload_n 1) 1, hz_r (.ifCond .le 15) 3, hz_n, hz_n, hz_m (.aload_n 0) 1 [] [true, false, true, true], hz_r (.iload_n 2) 1, hz_r (.i2l) 1, hz_m (.invokevirtual 18) 3 [167, 2, 0] [], hz_n, hz_n, hz_r (.aload_n 0) 1],
  [hz_r (.iload_n 3) 1, hz_r (.i2l) 1, hz_m (.invokevirtual 18) 3 [167, 2, 0] [], hz_n, hz_n, hz_m (.return_) 1 [] [false, false, false, false]]]
/-- HeavierServesModel.grains()I -/
def hs_k243 : hs_K := [
  [hz_m (.aload_n 0) 1 [] [true, false, false, false, false, false], hz_r (.iconst 0) 1, hz_m (.putfield 3) 3 [12, 0] [], hz_n, hz_n, hz_r (.aload_n 0) 1, hz_m (.getfield 41) 3 [12, 8] [], hz_n, hz_n, hz_r (.istore_n 1) 1, hz_r (.iconst 0) 1, hz_r (.istore_n 2) 1, hz_r (.iconst 1) 1, hz_r (.istore_n 3) 1, hz_m (.iload_n 3) 1 [] [true, true, true, true, false, false], hz_r (.bipush 9) 2],
  [hz_n, hz_r (.if_icmp .gt 72) 3, hz_n, hz_n, hz_m (.aload_n 0) 1 [] [true, true, true, true, false, false], hz_r (.iload_n 3) 1, hz_m (.putfield 41) 3 [12, 8] [], hz_n, hz_n, hz_r (.iconst 1) 1, hz_r (.istore 4) 2, hz_n, hz_r (.iconst 0) 1, hz_r (.istore 5) 2, hz_n, hz_r (.iload 5) 2],
  [hz_n, hz_r (.aload_n 0) 1, hz_m (.getfield 117) 3 [12, 3] [], hz_n, hz_n, hz_r (.if_icmp .ge 31) 3, hz_n, hz_n, hz_r (.iload 4) 2, hz_n, hz_r (.ifCond .eq 17) 3, hz_n, hz_n, hz_m (.aload_n 0) 1 [] [true, true, true, true, false, true], hz_r (.iload 5) 2, hz_n],
  [hz_r (.iconst 0) 1, hz_m (.invokevirtual 361) 3 [241, 3, 1] [], hz_n, hz_n, hz_r (.ifCond .le 7) 3, hz_n, hz_n, hz_m (.iconst 1) 1 [] [true, true, true, true, false, true], hz_r (.goto 4) 3, hz_n, hz_n, hz_m (.iconst 0) 1 [] [true, true, true, true, false, true], hz_m (.istore 4) 2 [] [true, true, true, true, false, true], hz_n, hz_r (.iinc 5 1) 3, hz_n],
  [hz_n, hz_r (.goto (-34)) 3, hz_n, hz_n, hz_m (.iload_n 2) 1 [] [true, true, true, true, true, false], hz_r (.iload 4) 2, hz_n, hz_r (.ifCond .eq 9) 3, hz_n, hz_n, hz_m (.iconst 1) 1 [] [true, true, false, true, false, false], hz_r (.iload_n 3) 1, hz_r (.ishl) 1, hz_r (.goto 4) 3, hz_n, hz_n],
  [hz_m (.iconst 0) 1 [] [true, true, false, true, false, false], hz_m (.ior) 1 [] [true, true, false, true, false, false], hz_r (.istore_n 2) 1, hz_r (.iinc 3 1) 3, hz_n, hz_n, hz_r (.goto (-72)) 3, hz_n, hz_n, hz_m (.aload_n 0) 1 [] [true, true, true, false, false, false], hz_r (.iload_n 1) 1, hz_m (.putfield 41) 3 [12, 8] [], hz_n, hz_n, hz_r (.iload_n 2) 1, hz_r (.ireturn) 1]]
/-- HeavierServesModel.span(I)I -/
def hs_k244 : hs_K := [
  [hz_r (.aload_n 0) 1, hz_r (.iconst 0) 1, hz_m (.putfield 3) 3 [12, 0] [], hz_n, hz_n, hz_r (.aload_n 0) 1, hz_r (.iload_n 1) 1, hz_m (.invokevirtual 124) 3 [169, 2, 1] [], hz_n, hz_n, hz_r (.ifCond .eq 12) 3, hz_n, hz_n, hz_r (.aload_n 0) 1, hz_r (.iload_n 1) 1, hz_r (.iconst 1) 1],
  [hz_m (.invokevirtual 361) 3 [241, 3, 1] [], hz_n, hz_n, hz_r (.goto 4) 3, hz_n, hz_n, hz_m (.iconst (-1)) 1 [] [false, false], hz_m (.ireturn) 1 [] [false, false]]]
/-- HeavierServesModel.wrong()I -/
def hs_k245 : hs_K := [
  [hz_m (.iconst 0) 1 [] [true, false, false], hz_r (.istore_n 1) 1, hz_r (.iconst 0) 1, hz_r (.istore_n 2) 1, hz_r (.iload_n 2) 1, hz_r (.aload_n 0) 1, hz_m (.getfield 117) 3 [12, 3] [], hz_n, hz_n, hz_r (.if_icmp .ge 33) 3, hz_n, hz_n, hz_r (.iload_n 1) 1, hz_r (.aload_n 0) 1, hz_r (.iload_n 2) 1, hz_r (.aload_n 0) 1],
  [hz_m (.getfield 44) 3 [12, 10] [], hz_n, hz_n, hz_r (.iload_n 2) 1, hz_r (.iaload) 1, hz_m (.invokevirtual 354) 3 [240, 3, 1] [], hz_n, hz_n, hz_r (.ifCond .eq 7) 3, hz_n, hz_n, hz_m (.iconst 0) 1 [] [true, false, true], hz_r (.goto 6) 3, hz_n, hz_n, hz_m (.iconst 1) 1 [] [true, false, true]],
  [hz_r (.iload_n 2) 1, hz_r (.ishl) 1, hz_m (.ior) 1 [] [true, false, true], hz_r (.istore_n 1) 1, hz_r (.iinc 2 1) 3, hz_n, hz_n, hz_r (.goto (-35)) 3, hz_n, hz_n, hz_m (.iload_n 1) 1 [] [false, true, false], hz_r (.ireturn) 1]]
/-- HeavierServesModel.offs()I -/
def hs_k246 : hs_K := [
  [hz_m (.aload_n 0) 1 [] [true, false, false, false, false], hz_r (.iconst 0) 1, hz_m (.putfield 3) 3 [12, 0] [], hz_n, hz_n, hz_r (.aload_n 0) 1, hz_m (.getfield 251) 3 [12, 9] [], hz_n, hz_n, hz_r (.istore_n 1) 1, hz_r (.iconst 0) 1, hz_r (.istore_n 2) 1, hz_r (.iconst 0) 1, hz_r (.istore_n 3) 1, hz_r (.iconst 0) 1, hz_r (.istore 4) 2],
  [hz_n, hz_r (.aload_n 0) 1, hz_r (.bipush (-9)) 2, hz_n, hz_m (.putfield 251) 3 [12, 9] [], hz_n, hz_n, hz_r (.aload_n 0) 1, hz_m (.getfield 251) 3 [12, 9] [], hz_n, hz_n, hz_r (.bipush 9) 2, hz_n, hz_r (.if_icmp .gt 45) 3, hz_n, hz_n],
  [hz_r (.aload_n 0) 1, hz_m (.invokevirtual 365) 3 [245, 1, 1] [], hz_n, hz_n, hz_r (.ifCond .ne 25) 3, hz_n, hz_n, hz_m (.iload_n 2) 1 [] [true, true, true, true, false], hz_r (.ifCond .ne 10) 3, hz_n, hz_n, hz_m (.aload_n 0) 1 [] [true, true, true, false, false], hz_m (.getfield 251) 3 [12, 9] [], hz_n, hz_n, hz_r (.goto 4) 3],
  [hz_n, hz_n, hz_m (.iload_n 3) 1 [] [true, true, true, true, false], hz_m (.istore_n 3) 1 [] [true, true, true, false, false], hz_r (.aload_n 0) 1, hz_m (.getfield 251) 3 [12, 9] [], hz_n, hz_n, hz_r (.istore 4) 2, hz_n, hz_r (.iinc 2 1) 3, hz_n, hz_n, hz_r (.aload_n 0) 1, hz_r (.dup) 1, hz_m (.getfield 251) 3 [12, 9] []],
  [hz_n, hz_n, hz_r (.iconst 1) 1, hz_r (.iadd) 1, hz_m (.putfield 251) 3 [12, 9] [], hz_n, hz_n, hz_r (.goto (-48)) 3, hz_n, hz_n, hz_r (.aload_n 0) 1, hz_r (.iload_n 1) 1, hz_m (.putfield 251) 3 [12, 9] [], hz_n, hz_n, hz_r (.aload_n 0) 1],
  [hz_r (.iload_n 2) 1, hz_r (.iload_n 3) 1, hz_r (.iload 4) 2, hz_n, hz_m (.invokevirtual 357) 3 [242, 4, 0] [], hz_n, hz_n, hz_r (.iload_n 2) 1, hz_r (.ireturn) 1]]
/-- HeavierServesModel.cheats()I -/
def hs_k247 : hs_K := [
  [hz_m (.aload_n 0) 1 [] [true, false, false, false, false, false], hz_r (.iconst 0) 1, hz_m (.putfield 3) 3 [12, 0] [], hz_n, hz_n, hz_r (.aload_n 0) 1, hz_m (.getfield 251) 3 [12, 9] [], hz_n, hz_n, hz_r (.istore_n 1) 1, hz_r (.bipush 9) 2, hz_n, hz_r (.istore_n 2) 1, hz_r (.iconst 0) 1, hz_r (.istore_n 3) 1, hz_r (.iconst 0) 1],
  [hz_r (.istore 4) 2, hz_n, hz_r (.aload_n 0) 1, hz_r (.bipush (-9)) 2, hz_n, hz_m (.putfield 251) 3 [12, 9] [], hz_n, hz_n, hz_m (.aload_n 0) 1 [] [true, true, true, true, true, false], hz_m (.getfield 251) 3 [12, 9] [], hz_n, hz_n, hz_r (.bipush 9) 2, hz_n, hz_r (.if_icmp .gt 46) 3, hz_n],
  [hz_n, hz_m (.aload_n 0) 1 [] [true, true, true, true, true, false], hz_m (.invokevirtual 365) 3 [245, 1, 1] [], hz_n, hz_n, hz_r (.istore 5) 2, hz_n, hz_r (.iload 5) 2, hz_n, hz_m (.invokestatic 323) 3 [0, 1, 1] [], hz_n, hz_n, hz_r (.iload_n 2) 1, hz_r (.if_icmp .ge 18) 3, hz_n, hz_n],
  [hz_m (.iload 5) 2 [] [true, true, false, false, false, true], hz_n, hz_m (.invokestatic 323) 3 [0, 1, 1] [], hz_n, hz_n, hz_r (.istore_n 2) 1, hz_r (.iload 5) 2, hz_n, hz_r (.istore_n 3) 1, hz_r (.aload_n 0) 1, hz_m (.getfield 251) 3 [12, 9] [], hz_n, hz_n, hz_r (.istore 4) 2, hz_n, hz_m (.aload_n 0) 1 [] [true, true, true, true, true, false]],
  [hz_r (.dup) 1, hz_m (.getfield 251) 3 [12, 9] [], hz_n, hz_n, hz_r (.iconst 1) 1, hz_r (.iadd) 1, hz_m (.putfield 251) 3 [12, 9] [], hz_n, hz_n, hz_r (.goto (-49)) 3, hz_n, hz_n, hz_m (.aload_n 0) 1 [] [true, true, true, true, true, false], hz_r (.iload_n 1) 1, hz_m (.putfield 251) 3 [12, 9] [], hz_n],
  [hz_n, hz_r (.aload_n 0) 1, hz_r (.iconst 0) 1, hz_m (.putfield 15) 3 [12, 1] [], hz_n, hz_n, hz_r (.aload_n 0) 1, hz_r (.iload_n 3) 1, hz_r (.i2l) 1, hz_m (.invokevirtual 18) 3 [167, 2, 0] [], hz_n, hz_n, hz_r (.aload_n 0) 1, hz_r (.iload 4) 2, hz_n, hz_r (.i2l) 1],
  [hz_m (.invokevirtual 18) 3 [167, 2, 0] [], hz_n, hz_n, hz_r (.iload_n 2) 1, hz_r (.ireturn) 1]]
/-- HeavierServesModel.told(II)I -/
def hs_k248 : hs_K := [
  [hz_r (.aload_n 0) 1, hz_r (.iconst 0) 1, hz_m (.putfield 3) 3 [12, 0] [], hz_n, hz_n, hz_r (.aload_n 0) 1, hz_r (.iload_n 1) 1, hz_m (.invokevirtual 124) 3 [169, 2, 1] [], hz_n, hz_n, hz_r (.ifCond .eq 24) 3, hz_n, hz_n, hz_r (.iload_n 2) 1, hz_r (.i2l) 1, hz_r (.lconst 1) 1],
  [hz_m (.ldc2_w 341) 3 [0, 60] [], hz_n, hz_n, hz_m (.invokestatic 120) 3 [163, 3, 1] [], hz_n, hz_n, hz_r (.ifCond .eq 12) 3, hz_n, hz_n, hz_r (.aload_n 0) 1, hz_m (.getfield 368) 3 [12, 37] [], hz_n, hz_n, hz_r (.bipush 10) 2, hz_n, hz_r (.if_icmp .ne 5) 3],
  [hz_n, hz_n, hz_m (.iconst (-1)) 1 [] [false, false, false], hz_r (.ireturn) 1, hz_r (.aload_n 0) 1, hz_m (.getfield 92) 3 [12, 38] [], hz_n, hz_n, hz_r (.aload_n 0) 1, hz_m (.getfield 368) 3 [12, 37] [], hz_n, hz_n, hz_r (.iload_n 1) 1, hz_r (.iastore) 1, hz_r (.aload_n 0) 1, hz_m (.getfield 95) 3 [12, 39] []],
  [hz_n, hz_n, hz_r (.aload_n 0) 1, hz_m (.getfield 368) 3 [12, 37] [], hz_n, hz_n, hz_r (.iload_n 2) 1, hz_r (.iastore) 1, hz_r (.aload_n 0) 1, hz_r (.dup) 1, hz_m (.getfield 368) 3 [12, 37] [], hz_n, hz_n, hz_r (.iconst 1) 1, hz_r (.iadd) 1, hz_m (.putfield 368) 3 [12, 37] []],
  [hz_n, hz_n, hz_r (.aload_n 0) 1, hz_m (.getfield 368) 3 [12, 37] [], hz_n, hz_n, hz_r (.ireturn) 1]]
/-- HeavierServesModel.wipe()I -/
def hs_k249 : hs_K := [
  [hz_m (.aload_n 0) 1 [] [true, false], hz_r (.iconst 0) 1, hz_m (.putfield 3) 3 [12, 0] [], hz_n, hz_n, hz_r (.aload_n 0) 1, hz_m (.getfield 368) 3 [12, 37] [], hz_n, hz_n, hz_r (.istore_n 1) 1, hz_r (.aload_n 0) 1, hz_r (.iconst 0) 1, hz_m (.putfield 368) 3 [12, 37] [], hz_n, hz_n, hz_r (.iload_n 1) 1],
  [hz_r (.ireturn) 1]]
/-- HeavierServesModel.isSo(I)Z -/
def hs_k250 : hs_K := [
  [hz_m (.iconst 0) 1 [] [true, true, false, false, false], hz_r (.istore_n 2) 1, hz_r (.iconst 0) 1, hz_r (.istore_n 3) 1, hz_m (.iload_n 3) 1 [] [true, true, true, true, false], hz_r (.aload_n 0) 1, hz_m (.getfield 368) 3 [12, 37] [], hz_n, hz_n, hz_r (.if_icmp .ge 20) 3, hz_n, hz_n, hz_m (.iload_n 2) 1 [] [true, true, true, true, false], hz_r (.aload_n 0) 1, hz_m (.getfield 95) 3 [12, 39] [], hz_n],
  [hz_n, hz_r (.iload_n 3) 1, hz_r (.iaload) 1, hz_m (.invokestatic 254) 3 [2, 2, 1] [], hz_n, hz_n, hz_r (.istore_n 2) 1, hz_r (.iinc 3 1) 3, hz_n, hz_n, hz_r (.goto (-22)) 3, hz_n, hz_n, hz_m (.iconst 1) 1 [] [true, true, true, false, false], hz_r (.istore_n 3) 1, hz_m (.iload_n 3) 1 [] [true, true, true, true, false]],
  [hz_r (.iload_n 2) 1, hz_r (.if_icmp .gt 63) 3, hz_n, hz_n, hz_m (.aload_n 0) 1 [] [true, true, true, true, false], hz_r (.iconst 1) 1, hz_r (.iload_n 1) 1, hz_m (.invokevirtual 316) 3 [218, 3, 0] [], hz_n, hz_n, hz_r (.iconst 0) 1, hz_r (.istore 4) 2, hz_n, hz_r (.iload 4) 2, hz_n, hz_r (.aload_n 0) 1],
  [hz_m (.getfield 368) 3 [12, 37] [], hz_n, hz_n, hz_r (.if_icmp .ge 39) 3, hz_n, hz_n, hz_r (.aload_n 0) 1, hz_m (.getfield 95) 3 [12, 39] [], hz_n, hz_n, hz_r (.iload 4) 2, hz_n, hz_r (.iaload) 1, hz_r (.iload_n 3) 1, hz_r (.if_icmp .ne 22) 3, hz_n],
  [hz_n, hz_r (.aload_n 0) 1, hz_m (.getfield 47) 3 [12, 11] [], hz_n, hz_n, hz_r (.bipush 17) 2, hz_n, hz_r (.iaload) 1, hz_r (.aload_n 0) 1, hz_m (.getfield 92) 3 [12, 38] [], hz_n, hz_n, hz_r (.iload 4) 2, hz_n, hz_r (.iaload) 1, hz_r (.if_icmp .eq 5) 3],
  [hz_n, hz_n, hz_m (.iconst 0) 1 [] [false, false, false, false, false], hz_r (.ireturn) 1, hz_r (.iinc 4 1) 3, hz_n, hz_n, hz_r (.goto (-42)) 3, hz_n, hz_n, hz_m (.iinc 3 1) 3 [] [true, true, true, true, false], hz_n, hz_n, hz_r (.goto (-62)) 3, hz_n, hz_n],
  [hz_m (.iconst 1) 1 [] [false, false, false, false, false], hz_r (.ireturn) 1]]
/-- HeavierServesModel.explains(I)I -/
def hs_k251 : hs_K := [
  [hz_m (.aload_n 0) 1 [] [true, true, false, false, false, false], hz_r (.iconst 0) 1, hz_m (.putfield 3) 3 [12, 0] [], hz_n, hz_n, hz_r (.aload_n 0) 1, hz_r (.iload_n 1) 1, hz_m (.invokevirtual 297) 3 [170, 2, 1] [], hz_n, hz_n, hz_r (.ifCond .ne 5) 3, hz_n, hz_n, hz_m (.iconst (-1)) 1 [] [false, false, false, false, false, false], hz_r (.ireturn) 1, hz_m (.iconst 0) 1 [] [true, true, false, false, false, false]],
  [hz_r (.istore_n 2) 1, hz_r (.iconst 0) 1, hz_r (.istore_n 3) 1, hz_r (.iconst 0) 1, hz_r (.istore 4) 2, hz_n, hz_r (.iconst 1) 1, hz_r (.istore 5) 2, hz_n, hz_r (.iload 5) 2, hz_n, hz_r (.sipush 999) 3, hz_n, hz_n, hz_r (.if_icmp .gt 47) 3, hz_n],
  [hz_n, hz_r (.aload_n 0) 1, hz_m (.invokevirtual 313) 3 [216, 1, 0] [], hz_n, hz_n, hz_r (.aload_n 0) 1, hz_m (.getfield 47) 3 [12, 11] [], hz_n, hz_n, hz_r (.iload_n 1) 1, hz_r (.iload 5) 2, hz_n, hz_r (.iastore) 1, hz_r (.aload_n 0) 1, hz_r (.iconst 0) 1, hz_m (.invokevirtual 371) 3 [250, 2, 1] []],
  [hz_n, hz_n, hz_r (.ifCond .eq 21) 3, hz_n, hz_n, hz_m (.iload_n 2) 1 [] [true, true, true, true, false, true], hz_r (.ifCond .ne 8) 3, hz_n, hz_n, hz_m (.iload 5) 2 [] [true, true, true, false, false, true], hz_n, hz_r (.goto 4) 3, hz_n, hz_n, hz_m (.iload_n 3) 1 [] [true, true, true, true, false, true], hz_m (.istore_n 3) 1 [] [true, true, true, false, false, true]],
  [hz_r (.iload 5) 2, hz_n, hz_r (.istore 4) 2, hz_n, hz_r (.iinc 2 1) 3, hz_n, hz_n, hz_r (.iinc 5 1) 3, hz_n, hz_n, hz_r (.goto (-49)) 3, hz_n, hz_n, hz_m (.aload_n 0) 1 [] [true, false, true, true, true, false], hz_r (.iload_n 2) 1, hz_r (.iload_n 3) 1],
  [hz_r (.iload 4) 2, hz_n, hz_m (.invokevirtual 357) 3 [242, 4, 0] [], hz_n, hz_n, hz_r (.iload_n 2) 1, hz_r (.ireturn) 1]]
/-- HeavierServesModel.absent()I -/
def hs_k252 : hs_K := [
  [hz_m (.aload_n 0) 1 [] [true, false, false], hz_r (.iconst 0) 1, hz_m (.putfield 3) 3 [12, 0] [], hz_n, hz_n, hz_r (.iconst 0) 1, hz_r (.istore_n 1) 1, hz_r (.iconst 0) 1, hz_r (.istore_n 2) 1, hz_r (.iload_n 2) 1, hz_r (.aload_n 0) 1, hz_m (.getfield 117) 3 [12, 3] [], hz_n, hz_n, hz_r (.if_icmp .ge 41) 3, hz_n],
  [hz_n, hz_r (.aload_n 0) 1, hz_m (.invokevirtual 313) 3 [216, 1, 0] [], hz_n, hz_n, hz_r (.iload_n 1) 1, hz_r (.aload_n 0) 1, hz_r (.iload_n 2) 1, hz_m (.invokevirtual 297) 3 [170, 2, 1] [], hz_n, hz_n, hz_r (.ifCond .eq 19) 3, hz_n, hz_n, hz_m (.aload_n 0) 1 [] [true, false, true], hz_r (.iconst 1) 1],
  [hz_r (.iload_n 2) 1, hz_r (.ishl) 1, hz_m (.invokevirtual 371) 3 [250, 2, 1] [], hz_n, hz_n, hz_r (.ifCond .eq 9) 3, hz_n, hz_n, hz_m (.iconst 1) 1 [] [true, false, true], hz_r (.iload_n 2) 1, hz_r (.ishl) 1, hz_r (.goto 4) 3, hz_n, hz_n, hz_m (.iconst 0) 1 [] [true, false, true], hz_m (.ior) 1 [] [true, false, true]],
  [hz_r (.istore_n 1) 1, hz_r (.iinc 2 1) 3, hz_n, hz_n, hz_r (.goto (-43)) 3, hz_n, hz_n, hz_m (.aload_n 0) 1 [] [true, true, false], hz_m (.invokevirtual 313) 3 [216, 1, 0] [], hz_n, hz_n, hz_r (.aload_n 0) 1, hz_r (.iconst 0) 1, hz_m (.putfield 15) 3 [12, 1] [], hz_n, hz_n],
  [hz_r (.aload_n 0) 1, hz_r (.aload_n 0) 1, hz_r (.iconst 0) 1, hz_m (.invokevirtual 371) 3 [250, 2, 1] [], hz_n, hz_n, hz_m (.invokestatic 150) 3 [165, 1, 1] [], hz_n, hz_n, hz_r (.i2l) 1, hz_m (.invokevirtual 18) 3 [167, 2, 0] [], hz_n, hz_n, hz_r (.iload_n 1) 1, hz_r (.ireturn) 1]]
/-- HeavierServesModel.twin(I)I -/
def hs_k253 : hs_K := [
  [hz_m (.aload_n 0) 1 [] [true, true, false, false], hz_r (.iconst 0) 1, hz_m (.putfield 3) 3 [12, 0] [], hz_n, hz_n, hz_r (.aload_n 0) 1, hz_r (.iload_n 1) 1, hz_m (.invokevirtual 297) 3 [170, 2, 1] [], hz_n, hz_n, hz_r (.ifCond .eq 12) 3, hz_n, hz_n, hz_m (.aload_n 0) 1 [] [true, true, false, false], hz_m (.getfield 117) 3 [12, 3] [], hz_n],
  [hz_n, hz_r (.bipush 8) 2, hz_n, hz_r (.if_icmp .ne 5) 3, hz_n, hz_n, hz_m (.iconst (-1)) 1 [] [false, false, false, false], hz_r (.ireturn) 1, hz_m (.aload_n 0) 1 [] [true, true, false, false], hz_m (.getfield 117) 3 [12, 3] [], hz_n, hz_n, hz_r (.istore_n 2) 1, hz_r (.aload_n 0) 1, hz_r (.dup) 1, hz_m (.getfield 117) 3 [12, 3] []],
  [hz_n, hz_n, hz_r (.iconst 1) 1, hz_r (.iadd) 1, hz_m (.putfield 117) 3 [12, 3] [], hz_n, hz_n, hz_r (.aload_n 0) 1, hz_m (.getfield 44) 3 [12, 10] [], hz_n, hz_n, hz_r (.iload_n 2) 1, hz_r (.aload_n 0) 1, hz_m (.getfield 44) 3 [12, 10] [], hz_n, hz_n],
  [hz_r (.iload_n 1) 1, hz_r (.iaload) 1, hz_r (.iastore) 1, hz_r (.aload_n 0) 1, hz_m (.getfield 28) 3 [12, 4] [], hz_n, hz_n, hz_r (.iload_n 2) 1, hz_r (.aload_n 0) 1, hz_m (.getfield 28) 3 [12, 4] [], hz_n, hz_n, hz_r (.iload_n 1) 1, hz_r (.iaload) 1, hz_r (.iastore) 1, hz_r (.iconst 0) 1],
  [hz_r (.istore_n 3) 1, hz_r (.iload_n 3) 1, hz_r (.bipush 6) 2, hz_n, hz_r (.if_icmp .ge 29) 3, hz_n, hz_n, hz_r (.aload_n 0) 1, hz_m (.getfield 59) 3 [12, 19] [], hz_n, hz_n, hz_r (.bipush 48) 2, hz_n, hz_r (.iload_n 3) 1, hz_r (.iadd) 1, hz_r (.aload_n 0) 1],
  [hz_m (.getfield 35) 3 [12, 6] [], hz_n, hz_n, hz_r (.bipush 6) 2, hz_n, hz_r (.iload_n 1) 1, hz_r (.imul) 1, hz_r (.iload_n 3) 1, hz_r (.iadd) 1, hz_r (.iaload) 1, hz_r (.iastore) 1, hz_r (.iinc 3 1) 3, hz_n, hz_n, hz_r (.goto (-29)) 3, hz_n],
  [hz_n, hz_m (.aload_n 0) 1 [] [true, true, true, false], hz_m (.getfield 62) 3 [12, 20] [], hz_n, hz_n, hz_r (.bipush 8) 2, hz_n, hz_r (.aload_n 0) 1, hz_m (.getfield 38) 3 [12, 7] [], hz_n, hz_n, hz_r (.iload_n 1) 1, hz_r (.iaload) 1, hz_r (.iastore) 1, hz_r (.aload_n 0) 1, hz_r (.iload_n 2) 1],
  [hz_r (.bipush 8) 2, hz_n, hz_m (.invokevirtual 203) 3 [182, 3, 0] [], hz_n, hz_n, hz_r (.aload_n 0) 1, hz_m (.getfield 32) 3 [12, 5] [], hz_n, hz_n, hz_r (.iload_n 2) 1, hz_r (.aload_n 0) 1, hz_m (.getfield 32) 3 [12, 5] [], hz_n, hz_n, hz_r (.iload_n 1) 1, hz_r (.iaload) 1],
  [hz_r (.iastore) 1, hz_r (.aload_n 0) 1, hz_r (.iconst 0) 1, hz_m (.putfield 207) 3 [12, 28] [], hz_n, hz_n, hz_r (.iload_n 2) 1, hz_r (.ireturn) 1]]
/-- HeavierServesModel.oddsOf([I[J)V -/
def hs_k254 : hs_K := [
  [hz_m (.iconst 0) 1 [] [true, true, true, false, false, false, false, false, false, false], hz_r (.istore_n 3) 1, hz_m (.iload_n 3) 1 [] [true, true, true, true, false, false, false, false, false, false], hz_r (.bipush 8) 2, hz_n, hz_r (.if_icmp .gt 13) 3, hz_n, hz_n, hz_m (.aload_n 2) 1 [] [true, true, true, true, false, false, false, false, false, false], hz_r (.iload_n 3) 1, hz_r (.lconst 0) 1, hz_r (.lastore) 1, hz_r (.iinc 3 1) 3, hz_n, hz_n, hz_r (.goto (-13)) 3],
  [hz_n, hz_n, hz_m (.aload_n 0) 1 [] [true, true, true, false, false, false, false, false, false, false], hz_r (.aload_n 1) 1, hz_m (.invokevirtual 288) 3 [193, 2, 1] [], hz_n, hz_n, hz_r (.istore_n 3) 1, hz_r (.aload_n 1) 1, hz_r (.bipush 17) 2, hz_n, hz_r (.iaload) 1, hz_r (.istore 4) 2, hz_n, hz_m (.ldc2_w 374) 3 [0, 100000000] [], hz_n],
  [hz_n, hz_r (.lstore 5) 2, hz_n, hz_r (.iconst 0) 1, hz_r (.istore 7) 2, hz_n, hz_r (.iconst 0) 1, hz_r (.istore 8) 2, hz_n, hz_m (.iload 8) 2 [] [true, true, true, true, true, true, false, true, true, false], hz_n, hz_r (.aload_n 0) 1, hz_m (.getfield 117) 3 [12, 3] [], hz_n, hz_n, hz_r (.if_icmp .ge 74) 3],
  [hz_n, hz_n, hz_m (.iload 4) 2 [] [true, true, true, true, true, true, false, true, true, false], hz_n, hz_r (.ifCond .lt 22) 3, hz_n, hz_n, hz_m (.aload_n 0) 1 [] [true, true, true, true, true, true, false, true, true, false], hz_r (.aload_n 1) 1, hz_r (.iload 8) 2, hz_n, hz_r (.iaload) 1, hz_m (.invokevirtual 262) 3 [194, 2, 1] [], hz_n, hz_n, hz_r (.aload_n 0) 1],
  [hz_r (.aload_n 1) 1, hz_r (.iload 4) 2, hz_n, hz_r (.iaload) 1, hz_m (.invokevirtual 262) 3 [194, 2, 1] [], hz_n, hz_n, hz_r (.if_icmp .le 7) 3, hz_n, hz_n, hz_m (.iconst 1) 1 [] [true, true, true, true, true, true, false, true, true, false], hz_r (.goto 4) 3, hz_n, hz_n, hz_m (.iconst 0) 1 [] [true, true, true, true, true, true, false, true, true, false], hz_m (.istore 9) 2 [] [true, true, true, true, true, true, false, true, true, false]],
  [hz_n, hz_r (.iload 7) 2, hz_n, hz_r (.iload_n 3) 1, hz_r (.iload 8) 2, hz_n, hz_m (.invokestatic 128) 3 [164, 2, 1] [], hz_n, hz_n, hz_r (.ifCond .eq 22) 3, hz_n, hz_n, hz_m (.iload 8) 2 [] [true, true, true, true, true, true, false, false, true, true], hz_n, hz_r (.iload 4) 2, hz_n],
  [hz_r (.if_icmp .eq 15) 3, hz_n, hz_n, hz_m (.iload 9) 2 [] [true, true, true, true, true, true, false, false, true, true], hz_n, hz_r (.ifCond .eq 10) 3, hz_n, hz_n, hz_m (.iconst 1) 1 [] [true, true, true, true, true, true, false, false, true, false], hz_r (.iload 8) 2, hz_n, hz_r (.ishl) 1, hz_r (.goto 4) 3, hz_n, hz_n, hz_m (.iconst 0) 1 [] [true, true, true, true, true, true, false, false, true, false]],
  [hz_m (.ior) 1 [] [true, true, true, true, true, true, false, false, true, false], hz_r (.istore 7) 2, hz_n, hz_r (.iinc 8 1) 3, hz_n, hz_n, hz_r (.goto (-77)) 3, hz_n, hz_n, hz_m (.iload 7) 2 [] [true, true, true, false, true, true, false, true, false, false], hz_n, hz_r (.ifCond .eq 120) 3, hz_n, hz_n, hz_m (.iconst (-1)) 1 [] [true, true, true, false, true, true, false, true, false, false], hz_r (.istore 8) 2],
  [hz_n, hz_r (.iconst 0) 1, hz_r (.istore 9) 2, hz_n, hz_m (.iload 9) 2 [] [true, true, true, false, true, true, false, true, true, true], hz_n, hz_r (.aload_n 0) 1, hz_m (.getfield 117) 3 [12, 3] [], hz_n, hz_n, hz_r (.if_icmp .ge 52) 3, hz_n, hz_n, hz_m (.iload 7) 2 [] [true, true, true, false, true, true, false, true, true, true], hz_n, hz_r (.iload 9) 2],
  [hz_n, hz_m (.invokestatic 128) 3 [164, 2, 1] [], hz_n, hz_n, hz_r (.ifCond .eq 32) 3, hz_n, hz_n, hz_m (.iload 8) 2 [] [true, true, true, false, true, true, false, true, true, true], hz_n, hz_r (.ifCond .lt 22) 3, hz_n, hz_n, hz_m (.aload_n 0) 1 [] [true, true, true, false, true, true, false, true, true, true], hz_r (.aload_n 1) 1, hz_r (.iload 9) 2, hz_n],
  [hz_r (.iaload) 1, hz_m (.invokevirtual 262) 3 [194, 2, 1] [], hz_n, hz_n, hz_r (.aload_n 0) 1, hz_r (.aload_n 1) 1, hz_r (.iload 8) 2, hz_n, hz_r (.iaload) 1, hz_m (.invokevirtual 262) 3 [194, 2, 1] [], hz_n, hz_n, hz_r (.if_icmp .le 8) 3, hz_n, hz_n, hz_m (.iload 9) 2 [] [true, true, true, false, true, true, false, true, false, true]],
  [hz_n, hz_r (.goto 5) 3, hz_n, hz_n, hz_m (.iload 8) 2 [] [true, true, true, false, true, true, false, true, true, true], hz_n, hz_m (.istore 8) 2 [] [true, true, true, false, true, true, false, true, false, true], hz_n, hz_r (.iinc 9 1) 3, hz_n, hz_n, hz_r (.goto (-55)) 3, hz_n, hz_n, hz_m (.aload_n 2) 1 [] [true, true, true, false, true, true, false, true, true, false], hz_r (.iload 8) 2],
  [hz_n, hz_r (.lload 5) 2, hz_n, hz_m (.ldc2_w 321) 3 [0, 10] [], hz_n, hz_n, hz_r (.ldiv) 1, hz_r (.bipush 10) 2, hz_n, hz_r (.aload_n 0) 1, hz_m (.getfield 32) 3 [12, 5] [], hz_n, hz_n, hz_r (.iload 8) 2, hz_n, hz_r (.iaload) 1],
  [hz_r (.isub) 1, hz_r (.i2l) 1, hz_r (.lmul) 1, hz_r (.lastore) 1, hz_r (.lload 5) 2, hz_n, hz_m (.ldc2_w 321) 3 [0, 10] [], hz_n, hz_n, hz_r (.ldiv) 1, hz_r (.aload_n 0) 1, hz_m (.getfield 32) 3 [12, 5] [], hz_n, hz_n, hz_r (.iload 8) 2, hz_n],
  [hz_r (.iaload) 1, hz_r (.i2l) 1, hz_r (.lmul) 1, hz_r (.lstore 5) 2, hz_n, hz_r (.iload 7) 2, hz_n, hz_r (.iconst 1) 1, hz_r (.iload 8) 2, hz_n, hz_r (.ishl) 1, hz_r (.iconst (-1)) 1, hz_r (.ixor) 1, hz_r (.iand) 1, hz_r (.istore 7) 2, hz_n],
  [hz_r (.goto (-119)) 3, hz_n, hz_n, hz_m (.aload_n 2) 1 [] [false, false, true, false, true, true, false, false, false, false], hz_r (.iload 4) 2, hz_n, hz_r (.ifCond .ge 8) 3, hz_n, hz_n, hz_m (.bipush 8) 2 [] [false, false, false, false, false, true, false, false, false, false], hz_n, hz_r (.goto 5) 3, hz_n, hz_n, hz_m (.iload 4) 2 [] [false, false, false, false, true, true, false, false, false, false], hz_n],
  [hz_m (.dup2) 1 [] [false, false, false, false, false, true, false, false, false, false], hz_r (.laload) 1, hz_r (.lload 5) 2, hz_n, hz_r (.ladd) 1, hz_r (.lastore) 1, hz_r (.return_) 1]]
/-- HeavierServesModel.odds(II)I -/
def hs_k255 : hs_K := [
  [hz_m (.aload_n 0) 1 [] [true, true, true, false, false, false], hz_r (.iconst 0) 1, hz_m (.putfield 3) 3 [12, 0] [], hz_n, hz_n, hz_r (.aload_n 0) 1, hz_r (.iload_n 1) 1, hz_m (.invokevirtual 124) 3 [169, 2, 1] [], hz_n, hz_n, hz_r (.ifCond .eq 15) 3, hz_n, hz_n, hz_m (.iload_n 2) 1 [] [true, true, true, false, false, false], hz_r (.i2l) 1, hz_r (.lconst 0) 1],
  [hz_m (.ldc2_w 376) 3 [0, 2] [], hz_n, hz_n, hz_m (.invokestatic 120) 3 [163, 3, 1] [], hz_n, hz_n, hz_r (.ifCond .ne 5) 3, hz_n, hz_n, hz_m (.iconst (-1)) 1 [] [false, false, false, false, false, false], hz_r (.ireturn) 1, hz_m (.aload_n 0) 1 [] [true, true, true, false, false, false], hz_r (.iconst 0) 1, hz_m (.putfield 15) 3 [12, 1] [], hz_n, hz_n],
  [hz_r (.iload_n 2) 1, hz_r (.ifCond .ne 30) 3, hz_n, hz_n, hz_m (.aload_n 0) 1 [] [true, true, false, false, false, false], hz_r (.aload_n 0) 1, hz_m (.getfield 44) 3 [12, 10] [], hz_n, hz_n, hz_r (.bipush 17) 2, hz_n, hz_r (.iaload) 1, hz_r (.iload_n 1) 1, hz_r (.if_icmp .ne 7) 3, hz_n, hz_n],
  [hz_m (.iconst 1) 1 [] [false, false, false, false, false, false], hz_r (.goto 4) 3, hz_n, hz_n, hz_m (.iconst 0) 1 [] [false, false, false, false, false, false], hz_m (.invokestatic 150) 3 [165, 1, 1] [false, false, false, false, false, false], hz_n, hz_n, hz_r (.i2l) 1, hz_r (.lconst 1) 1, hz_m (.invokevirtual 378) 3 [168, 3, 0] [], hz_n, hz_n, hz_r (.iconst 0) 1, hz_r (.ireturn) 1, hz_m (.aload_n 0) 1 [] [true, true, true, false, false, false]],
  [hz_r (.aload_n 0) 1, hz_m (.getfield 44) 3 [12, 10] [], hz_n, hz_n, hz_r (.aload_n 0) 1, hz_m (.getfield 98) 3 [12, 40] [], hz_n, hz_n, hz_m (.invokevirtual 382) 3 [254, 3, 0] [], hz_n, hz_n, hz_r (.iload_n 2) 1, hz_r (.iconst 1) 1, hz_r (.if_icmp .ne 18) 3, hz_n, hz_n],
  [hz_m (.aload_n 0) 1 [] [true, true, false, false, false, false], hz_r (.aload_n 0) 1, hz_m (.getfield 98) 3 [12, 40] [], hz_n, hz_n, hz_r (.iload_n 1) 1, hz_r (.laload) 1, hz_m (.ldc2_w 374) 3 [0, 100000000] [], hz_n, hz_n, hz_m (.invokevirtual 378) 3 [168, 3, 0] [], hz_n, hz_n, hz_r (.iconst 0) 1, hz_r (.ireturn) 1, hz_m (.lconst 0) 1 [] [true, true, false, false, false, false]],
  [hz_r (.lstore_n 3) 1, hz_r (.iconst 0) 1, hz_r (.istore 5) 2, hz_n, hz_m (.iload 5) 2 [] [true, true, false, true, false, true], hz_n, hz_r (.bipush 8) 2, hz_n, hz_r (.if_icmp .gt 84) 3, hz_n, hz_n, hz_m (.aload_n 0) 1 [] [true, true, false, true, false, true], hz_m (.getfield 98) 3 [12, 40] [], hz_n, hz_n, hz_r (.iload 5) 2],
  [hz_n, hz_r (.laload) 1, hz_r (.lconst 0) 1, hz_r (.lcmp) 1, hz_r (.ifCond .le 66) 3, hz_n, hz_n, hz_m (.aload_n 0) 1 [] [true, true, false, true, false, true], hz_m (.getfield 44) 3 [12, 10] [], hz_n, hz_n, hz_r (.aload_n 0) 1, hz_m (.getfield 104) 3 [12, 42] [], hz_n, hz_n, hz_m (.invokestatic 303) 3 [202, 2, 0] []],
  [hz_n, hz_n, hz_r (.aload_n 0) 1, hz_r (.aload_n 0) 1, hz_m (.getfield 104) 3 [12, 42] [], hz_n, hz_n, hz_r (.iload 5) 2, hz_n, hz_r (.bipush 8) 2, hz_n, hz_r (.if_icmp .ne 7) 3, hz_n, hz_n, hz_m (.iconst 0) 1 [] [true, true, false, true, false, true], hz_r (.goto 7) 3],
  [hz_n, hz_n, hz_m (.iconst 1) 1 [] [true, true, false, true, false, true], hz_r (.iload 5) 2, hz_n, hz_r (.ishl) 1, hz_m (.invokevirtual 282) 3 [200, 3, 0] [true, true, false, true, false, true], hz_n, hz_n, hz_r (.aload_n 0) 1, hz_r (.aload_n 0) 1, hz_m (.getfield 104) 3 [12, 42] [], hz_n, hz_n, hz_r (.aload_n 0) 1, hz_m (.getfield 101) 3 [12, 41] []],
  [hz_n, hz_n, hz_m (.invokevirtual 382) 3 [254, 3, 0] [], hz_n, hz_n, hz_r (.lload_n 3) 1, hz_r (.aload_n 0) 1, hz_m (.getfield 98) 3 [12, 40] [], hz_n, hz_n, hz_r (.iload 5) 2, hz_n, hz_r (.laload) 1, hz_r (.aload_n 0) 1, hz_m (.getfield 101) 3 [12, 41] [], hz_n],
  [hz_n, hz_r (.iload_n 1) 1, hz_r (.laload) 1, hz_r (.lmul) 1, hz_r (.ladd) 1, hz_r (.lstore_n 3) 1, hz_m (.iinc 5 1) 3 [] [true, true, false, true, false, true], hz_n, hz_n, hz_r (.goto (-85)) 3, hz_n, hz_n, hz_m (.aload_n 0) 1 [] [true, false, false, true, false, false], hz_r (.lload_n 3) 1, hz_m (.ldc2_w 386) 3 [0, 10000000000000000] [], hz_n],
  [hz_n, hz_m (.invokevirtual 378) 3 [168, 3, 0] [], hz_n, hz_n, hz_r (.iconst 0) 1, hz_r (.ireturn) 1]]
/-- HeavierServesModel.likely()I -/
def hs_k256 : hs_K := [
  [hz_m (.aload_n 0) 1 [] [true, false, false], hz_r (.iconst 0) 1, hz_m (.putfield 3) 3 [12, 0] [], hz_n, hz_n, hz_r (.aload_n 0) 1, hz_r (.aload_n 0) 1, hz_m (.getfield 44) 3 [12, 10] [], hz_n, hz_n, hz_r (.aload_n 0) 1, hz_m (.getfield 98) 3 [12, 40] [], hz_n, hz_n, hz_m (.invokevirtual 382) 3 [254, 3, 0] [], hz_n],
  [hz_n, hz_r (.bipush 8) 2, hz_n, hz_r (.istore_n 1) 1, hz_r (.iconst 0) 1, hz_r (.istore_n 2) 1, hz_r (.iload_n 2) 1, hz_r (.aload_n 0) 1, hz_m (.getfield 117) 3 [12, 3] [], hz_n, hz_n, hz_r (.if_icmp .ge 31) 3, hz_n, hz_n, hz_r (.aload_n 0) 1, hz_m (.getfield 98) 3 [12, 40] []],
  [hz_n, hz_n, hz_r (.iload_n 2) 1, hz_r (.laload) 1, hz_r (.aload_n 0) 1, hz_m (.getfield 98) 3 [12, 40] [], hz_n, hz_n, hz_r (.iload_n 1) 1, hz_r (.laload) 1, hz_r (.lcmp) 1, hz_r (.ifCond .le 7) 3, hz_n, hz_n, hz_m (.iload_n 2) 1 [] [true, false, true], hz_r (.goto 4) 3],
  [hz_n, hz_n, hz_r (.iload_n 1) 1, hz_m (.istore_n 1) 1 [] [true, false, true], hz_r (.iinc 2 1) 3, hz_n, hz_n, hz_r (.goto (-33)) 3, hz_n, hz_n, hz_m (.aload_n 0) 1 [] [true, true, false], hz_r (.iconst 0) 1, hz_m (.putfield 15) 3 [12, 1] [], hz_n, hz_n, hz_r (.aload_n 0) 1],
  [hz_r (.aload_n 0) 1, hz_m (.getfield 98) 3 [12, 40] [], hz_n, hz_n, hz_r (.iload_n 1) 1, hz_r (.laload) 1, hz_m (.ldc2_w 374) 3 [0, 100000000] [], hz_n, hz_n, hz_m (.invokevirtual 378) 3 [168, 3, 0] [], hz_n, hz_n, hz_r (.iload_n 1) 1, hz_r (.bipush 8) 2, hz_n, hz_r (.if_icmp .ne 7) 3],
  [hz_n, hz_n, hz_m (.iconst (-1)) 1 [] [false, false, false], hz_r (.goto 4) 3, hz_n, hz_n, hz_m (.iload_n 1) 1 [] [false, true, false], hz_m (.ireturn) 1 [] [false, false, false]]]
/-- HeavierServesModel.keep(I)Z -/
def hs_k257 : hs_K := [
  [hz_m (.aload_n 0) 1 [] [true, true, false], hz_r (.iconst 0) 1, hz_m (.putfield 3) 3 [12, 0] [], hz_n, hz_n, hz_r (.iload_n 1) 1, hz_r (.i2l) 1, hz_r (.lconst 0) 1, hz_m (.ldc2_w 376) 3 [0, 2] [], hz_n, hz_n, hz_m (.invokestatic 120) 3 [163, 3, 1] [], hz_n, hz_n, hz_r (.ifCond .ne 5) 3, hz_n],
  [hz_n, hz_m (.iconst 0) 1 [] [false, false, false], hz_r (.ireturn) 1, hz_m (.aload_n 0) 1 [] [true, true, false], hz_m (.getfield 107) 3 [12, 43] [], hz_n, hz_n, hz_r (.iload_n 1) 1, hz_r (.iconst 1) 1, hz_r (.bastore) 1, hz_r (.aload_n 0) 1, hz_m (.getfield 111) 3 [12, 44] [], hz_n, hz_n, hz_r (.iload_n 1) 1, hz_r (.aload_n 0) 1],
  [hz_m (.getfield 117) 3 [12, 3] [], hz_n, hz_n, hz_r (.iastore) 1, hz_r (.iconst 0) 1, hz_r (.istore_n 2) 1, hz_r (.iload_n 2) 1, hz_r (.bipush 117) 2, hz_n, hz_r (.if_icmp .ge 26) 3, hz_n, hz_n, hz_r (.aload_n 0) 1, hz_m (.getfield 114) 3 [12, 45] [], hz_n, hz_n],
  [hz_r (.bipush 117) 2, hz_n, hz_r (.iload_n 1) 1, hz_r (.imul) 1, hz_r (.iload_n 2) 1, hz_r (.iadd) 1, hz_r (.aload_n 0) 1, hz_m (.getfield 44) 3 [12, 10] [], hz_n, hz_n, hz_r (.iload_n 2) 1, hz_r (.iaload) 1, hz_r (.iastore) 1, hz_r (.iinc 2 1) 3, hz_n, hz_n],
  [hz_r (.goto (-26)) 3, hz_n, hz_n, hz_m (.iconst 1) 1 [] [false, false, false], hz_r (.ireturn) 1]]
/-- HeavierServesModel.again(I)Z -/
def hs_k258 : hs_K := [
  [hz_m (.aload_n 0) 1 [] [true, true, false], hz_r (.iconst 0) 1, hz_m (.putfield 3) 3 [12, 0] [], hz_n, hz_n, hz_r (.iload_n 1) 1, hz_r (.i2l) 1, hz_r (.lconst 0) 1, hz_m (.ldc2_w 376) 3 [0, 2] [], hz_n, hz_n, hz_m (.invokestatic 120) 3 [163, 3, 1] [], hz_n, hz_n, hz_r (.ifCond .eq 25) 3, hz_n],
  [hz_n, hz_m (.aload_n 0) 1 [] [true, true, false], hz_m (.getfield 107) 3 [12, 43] [], hz_n, hz_n, hz_r (.iload_n 1) 1, hz_r (.baload) 1, hz_r (.ifCond .eq 16) 3, hz_n, hz_n, hz_m (.aload_n 0) 1 [] [true, true, false], hz_m (.getfield 111) 3 [12, 44] [], hz_n, hz_n, hz_r (.iload_n 1) 1, hz_r (.iaload) 1],
  [hz_r (.aload_n 0) 1, hz_m (.getfield 117) 3 [12, 3] [], hz_n, hz_n, hz_r (.if_icmp .eq 5) 3, hz_n, hz_n, hz_m (.iconst 0) 1 [] [false, false, false], hz_r (.ireturn) 1, hz_m (.iconst 0) 1 [] [true, true, false], hz_r (.istore_n 2) 1, hz_r (.iload_n 2) 1, hz_r (.bipush 117) 2, hz_n, hz_r (.if_icmp .ge 26) 3, hz_n],
  [hz_n, hz_r (.aload_n 0) 1, hz_m (.getfield 44) 3 [12, 10] [], hz_n, hz_n, hz_r (.iload_n 2) 1, hz_r (.aload_n 0) 1, hz_m (.getfield 114) 3 [12, 45] [], hz_n, hz_n, hz_r (.bipush 117) 2, hz_n, hz_r (.iload_n 1) 1, hz_r (.imul) 1, hz_r (.iload_n 2) 1, hz_r (.iadd) 1],
  [hz_r (.iaload) 1, hz_r (.iastore) 1, hz_r (.iinc 2 1) 3, hz_n, hz_n, hz_r (.goto (-26)) 3, hz_n, hz_n, hz_m (.aload_n 0) 1 [] [true, false, false], hz_r (.iconst 0) 1, hz_m (.putfield 207) 3 [12, 28] [], hz_n, hz_n, hz_r (.iconst 1) 1, hz_r (.ireturn) 1]]
/-- HeavierServesModel.lawsThatHold()I -/
def hs_k259 : hs_K := [
  [hz_m (.iconst 0) 1 [] [true, false, false], hz_r (.istore_n 1) 1, hz_r (.iconst 0) 1, hz_r (.istore_n 2) 1, hz_r (.iload_n 2) 1, hz_r (.aload_n 0) 1, hz_m (.getfield 44) 3 [12, 10] [], hz_n, hz_n, hz_r (.bipush 20) 2, hz_n, hz_r (.iaload) 1, hz_r (.if_icmp .ge 31) 3, hz_n, hz_n, hz_r (.iload_n 1) 1],
  [hz_r (.aload_n 0) 1, hz_m (.getfield 44) 3 [12, 10] [], hz_n, hz_n, hz_r (.bipush 45) 2, hz_n, hz_r (.iload_n 2) 1, hz_r (.iadd) 1, hz_r (.iaload) 1, hz_r (.ifCond .ge 9) 3, hz_n, hz_n, hz_m (.iconst 1) 1 [] [true, false, true], hz_r (.iload_n 2) 1, hz_r (.ishl) 1, hz_r (.goto 4) 3],
  [hz_n, hz_n, hz_m (.iconst 0) 1 [] [true, false, true], hz_m (.ior) 1 [] [true, false, true], hz_r (.istore_n 1) 1, hz_r (.iinc 2 1) 3, hz_n, hz_n, hz_r (.goto (-36)) 3, hz_n, hz_n, hz_m (.iload_n 1) 1 [] [false, true, false], hz_r (.ireturn) 1]]
/-- HeavierServesModel.count(I)I -/
def hs_k260 : hs_K := [
  [hz_r (.aload_n 0) 1, hz_r (.iconst 0) 1, hz_m (.putfield 3) 3 [12, 0] [], hz_n, hz_n, hz_r (.iload_n 1) 1, hz_r (.tableswitch 169 0 13 #[70, 75, 83, 91, 113, 121, 126, 134, 139, 144, 149, 154, 159, 164]) 70, hz_n, hz_n, hz_n, hz_n, hz_n, hz_n, hz_n, hz_n, hz_n],
  [hz_n, hz_n, hz_n, hz_n, hz_n, hz_n, hz_n, hz_n, hz_n, hz_n, hz_n, hz_n, hz_n, hz_n, hz_n, hz_n],
  [hz_n, hz_n, hz_n, hz_n, hz_n, hz_n, hz_n, hz_n, hz_n, hz_n, hz_n, hz_n, hz_n, hz_n, hz_n, hz_n],
  [hz_n, hz_n, hz_n, hz_n, hz_n, hz_n, hz_n, hz_n, hz_n, hz_n, hz_n, hz_n, hz_n, hz_n, hz_n, hz_n],
  [hz_n, hz_n, hz_n, hz_n, hz_n, hz_n, hz_n, hz_n, hz_n, hz_n, hz_n, hz_n, hz_m (.aload_n 0) 1 [] [true, false], hz_m (.getfield 117) 3 [12, 3] [], hz_n, hz_n],
  [hz_r (.ireturn) 1, hz_m (.aload_n 0) 1 [] [true, false], hz_m (.getfield 44) 3 [12, 10] [], hz_n, hz_n, hz_r (.bipush 19) 2, hz_n, hz_r (.iaload) 1, hz_r (.ireturn) 1, hz_m (.aload_n 0) 1 [] [true, false], hz_m (.getfield 44) 3 [12, 10] [], hz_n, hz_n, hz_r (.bipush 17) 2, hz_n, hz_r (.iaload) 1],
  [hz_r (.ireturn) 1, hz_m (.aload_n 0) 1 [] [true, false], hz_m (.getfield 44) 3 [12, 10] [], hz_n, hz_n, hz_r (.bipush 17) 2, hz_n, hz_r (.iaload) 1, hz_r (.ifCond .ge 7) 3, hz_n, hz_n, hz_m (.iconst 0) 1 [] [false, false], hz_r (.goto 10) 3, hz_n, hz_n, hz_m (.aload_n 0) 1 [] [true, false]],
  [hz_m (.getfield 44) 3 [12, 10] [], hz_n, hz_n, hz_r (.bipush 18) 2, hz_n, hz_r (.iaload) 1, hz_m (.ireturn) 1 [] [false, false], hz_m (.aload_n 0) 1 [] [true, false], hz_m (.getfield 44) 3 [12, 10] [], hz_n, hz_n, hz_r (.bipush 20) 2, hz_n, hz_r (.iaload) 1, hz_r (.ireturn) 1, hz_m (.aload_n 0) 1 [] [true, false]],
  [hz_m (.invokevirtual 388) 3 [259, 1, 1] [], hz_n, hz_n, hz_r (.ireturn) 1, hz_m (.aload_n 0) 1 [] [true, false], hz_m (.getfield 44) 3 [12, 10] [], hz_n, hz_n, hz_r (.bipush 16) 2, hz_n, hz_r (.iaload) 1, hz_r (.ireturn) 1, hz_m (.aload_n 0) 1 [] [true, false], hz_m (.getfield 207) 3 [12, 28] [], hz_n, hz_n],
  [hz_r (.ireturn) 1, hz_m (.aload_n 0) 1 [] [true, false], hz_m (.getfield 351) 3 [12, 34] [], hz_n, hz_n, hz_r (.ireturn) 1, hz_m (.aload_n 0) 1 [] [true, false], hz_m (.getfield 368) 3 [12, 37] [], hz_n, hz_n, hz_r (.ireturn) 1, hz_m (.aload_n 0) 1 [] [true, false], hz_m (.getfield 15) 3 [12, 1] [], hz_n, hz_n, hz_r (.ireturn) 1],
  [hz_m (.aload_n 0) 1 [] [true, false], hz_m (.getfield 132) 3 [12, 13] [], hz_n, hz_n, hz_r (.ireturn) 1, hz_m (.aload_n 0) 1 [] [true, false], hz_m (.getfield 41) 3 [12, 8] [], hz_n, hz_n, hz_r (.ireturn) 1, hz_m (.aload_n 0) 1 [] [true, false], hz_m (.getfield 251) 3 [12, 9] [], hz_n, hz_n, hz_r (.ireturn) 1, hz_m (.bipush (-100)) 2 [] [false, false]],
  [hz_n, hz_r (.ireturn) 1]]
/-- HeavierServesModel.row(I)J -/
def hs_k261 : hs_K := [
  [hz_r (.aload_n 0) 1, hz_r (.iconst 0) 1, hz_m (.putfield 3) 3 [12, 0] [], hz_n, hz_n, hz_r (.iload_n 1) 1, hz_r (.i2l) 1, hz_r (.lconst 0) 1, hz_r (.aload_n 0) 1, hz_m (.getfield 15) 3 [12, 1] [], hz_n, hz_n, hz_r (.iconst 1) 1, hz_r (.isub) 1, hz_r (.i2l) 1, hz_m (.invokestatic 120) 3 [163, 3, 1] []],
  [hz_n, hz_n, hz_r (.ifCond .ne 10) 3, hz_n, hz_n, hz_m (.aload_n 0) 1 [] [true, false], hz_r (.iconst 1) 1, hz_m (.putfield 3) 3 [12, 0] [], hz_n, hz_n, hz_r (.lconst 0) 1, hz_r (.lreturn) 1, hz_r (.aload_n 0) 1, hz_m (.getfield 11) 3 [12, 2] [], hz_n, hz_n],
  [hz_r (.iload_n 1) 1, hz_r (.laload) 1, hz_r (.lreturn) 1]]
/-- HeavierServesLaw.law([I)Z -/
def hs_klaw : hs_K := [
  [hz_m (.new 8) 3 [] [true, false, false, false, false, false, false, false], hz_n, hz_n, hz_r (.dup) 1, hz_r (.invokespecial 28) 3, hz_n, hz_n, hz_r (.astore_n 1) 1, hz_r (.new 29) 3, hz_n, hz_n, hz_r (.dup) 1, hz_r (.invokespecial 31) 3, hz_n, hz_n, hz_r (.astore_n 2) 1],
  [hz_r (.iconst 1) 1, hz_r (.newarray .long) 2, hz_n, hz_r (.astore_n 3) 1, hz_r (.iconst 0) 1, hz_r (.istore 4) 2, hz_n, hz_m (.iload 4) 2 [] [true, true, true, true, true, false, false, false], hz_n, hz_r (.aload_n 0) 1, hz_r (.arraylength) 1, hz_r (.iconst 5) 1, hz_r (.isub) 1, hz_r (.if_icmp .gt 1729) 3, hz_n, hz_n],
  [hz_m (.aload_n 0) 1 [] [true, true, true, true, true, false, false, false], hz_r (.iload 4) 2, hz_n, hz_r (.iaload) 1, hz_r (.bipush 63) 2, hz_n, hz_r (.iand) 1, hz_r (.tableswitch 1713 0 49 #[213, 238, 263, 276, 289, 314, 382, 450, 499, 536, 597, 622, 647, 660, 673, 741, 778, 815, 840, 853, 878, 915, 940, 965, 990, 1027, 1064, 1089, 1126, 1194, 1219, 1256, 1293, 1306, 1343, 1356, 1369, 1394, 1407, 1420, 1457, 1470, 1495, 1508, 1533, 1570, 1583, 1608, 1633, 1658]) 213, hz_n, hz_n, hz_n, hz_n, hz_n, hz_n, hz_n, hz_n],
  [hz_n, hz_n, hz_n, hz_n, hz_n, hz_n, hz_n, hz_n, hz_n, hz_n, hz_n, hz_n, hz_n, hz_n, hz_n, hz_n],
  [hz_n, hz_n, hz_n, hz_n, hz_n, hz_n, hz_n, hz_n, hz_n, hz_n, hz_n, hz_n, hz_n, hz_n, hz_n, hz_n],
  [hz_n, hz_n, hz_n, hz_n, hz_n, hz_n, hz_n, hz_n, hz_n, hz_n, hz_n, hz_n, hz_n, hz_n, hz_n, hz_n],
  [hz_n, hz_n, hz_n, hz_n, hz_n, hz_n, hz_n, hz_n, hz_n, hz_n, hz_n, hz_n, hz_n, hz_n, hz_n, hz_n],
  [hz_n, hz_n, hz_n, hz_n, hz_n, hz_n, hz_n, hz_n, hz_n, hz_n, hz_n, hz_n, hz_n, hz_n, hz_n, hz_n],
  [hz_n, hz_n, hz_n, hz_n, hz_n, hz_n, hz_n, hz_n, hz_n, hz_n, hz_n, hz_n, hz_n, hz_n, hz_n, hz_n],
  [hz_n, hz_n, hz_n, hz_n, hz_n, hz_n, hz_n, hz_n, hz_n, hz_n, hz_n, hz_n, hz_n, hz_n, hz_n, hz_n],
  [hz_n, hz_n, hz_n, hz_n, hz_n, hz_n, hz_n, hz_n, hz_n, hz_n, hz_n, hz_n, hz_n, hz_n, hz_n, hz_n],
  [hz_n, hz_n, hz_n, hz_n, hz_n, hz_n, hz_n, hz_n, hz_n, hz_n, hz_n, hz_n, hz_n, hz_n, hz_n, hz_n],
  [hz_n, hz_n, hz_n, hz_n, hz_n, hz_n, hz_n, hz_n, hz_n, hz_n, hz_n, hz_n, hz_n, hz_n, hz_n, hz_n],
  [hz_n, hz_n, hz_n, hz_n, hz_n, hz_n, hz_n, hz_n, hz_n, hz_n, hz_n, hz_n, hz_n, hz_n, hz_n, hz_n],
  [hz_n, hz_n, hz_n, hz_n, hz_n, hz_n, hz_n, hz_n, hz_n, hz_n, hz_n, hz_n, hz_n, hz_n, hz_n, hz_n],
  [hz_n, hz_n, hz_n, hz_n, hz_n, hz_n, hz_n, hz_n, hz_n, hz_n, hz_n, hz_n, hz_m (.aload_n 1) 1 [] [true, true, true, true, true, false, false, false], hz_r (.aload_n 0) 1, hz_r (.iload 4) 2, hz_n],
  [hz_r (.iconst 1) 1, hz_r (.iadd) 1, hz_r (.iaload) 1, hz_m (.invokevirtual 32) 3 [103, 2, 1] [], hz_n, hz_n, hz_r (.aload_n 2) 1, hz_r (.aload_n 0) 1, hz_r (.iload 4) 2, hz_n, hz_r (.iconst 1) 1, hz_r (.iadd) 1, hz_r (.iaload) 1, hz_m (.invokevirtual 36) 3 [171, 2, 1] [], hz_n, hz_n],
  [hz_r (.if_icmp .eq 1480) 3, hz_n, hz_n, hz_m (.iconst 0) 1 [] [false, false, false, false, false, false, false, false], hz_r (.ireturn) 1, hz_m (.aload_n 1) 1 [] [true, true, true, true, true, false, false, false], hz_r (.aload_n 0) 1, hz_r (.iload 4) 2, hz_n, hz_r (.iconst 1) 1, hz_r (.iadd) 1, hz_r (.iaload) 1, hz_m (.invokevirtual 37) 3 [104, 2, 1] [], hz_n, hz_n, hz_r (.aload_n 2) 1],
  [hz_r (.aload_n 0) 1, hz_r (.iload 4) 2, hz_n, hz_r (.iconst 1) 1, hz_r (.iadd) 1, hz_r (.iaload) 1, hz_m (.invokevirtual 41) 3 [172, 2, 1] [], hz_n, hz_n, hz_r (.if_icmp .eq 1455) 3, hz_n, hz_n, hz_m (.iconst 0) 1 [] [false, false, false, false, false, false, false, false], hz_r (.ireturn) 1, hz_m (.aload_n 1) 1 [] [true, true, true, true, true, false, false, false], hz_m (.invokevirtual 42) 3 [105, 1, 1] []],
  [hz_n, hz_n, hz_r (.aload_n 2) 1, hz_m (.invokevirtual 46) 3 [181, 1, 1] [], hz_n, hz_n, hz_r (.if_icmp .eq 1442) 3, hz_n, hz_n, hz_m (.iconst 0) 1 [] [false, false, false, false, false, false, false, false], hz_r (.ireturn) 1, hz_m (.aload_n 1) 1 [] [true, true, true, true, true, false, false, false], hz_m (.invokevirtual 47) 3 [106, 1, 1] [], hz_n, hz_n, hz_r (.aload_n 2) 1],
  [hz_m (.invokevirtual 50) 3 [188, 1, 1] [], hz_n, hz_n, hz_r (.if_icmp .eq 1429) 3, hz_n, hz_n, hz_m (.iconst 0) 1 [] [false, false, false, false, false, false, false, false], hz_r (.ireturn) 1, hz_m (.aload_n 1) 1 [] [true, true, true, true, true, false, false, false], hz_r (.aload_n 0) 1, hz_r (.iload 4) 2, hz_n, hz_r (.iconst 1) 1, hz_r (.iadd) 1, hz_r (.iaload) 1, hz_m (.invokevirtual 51) 3 [107, 2, 1] []],
  [hz_n, hz_n, hz_r (.aload_n 2) 1, hz_r (.aload_n 0) 1, hz_r (.iload 4) 2, hz_n, hz_r (.iconst 1) 1, hz_r (.iadd) 1, hz_r (.iaload) 1, hz_m (.invokevirtual 54) 3 [184, 2, 1] [], hz_n, hz_n, hz_r (.if_icmp .eq 1404) 3, hz_n, hz_n, hz_m (.iconst 0) 1 [] [false, false, false, false, false, false, false, false]],
  [hz_r (.ireturn) 1, hz_m (.aload_n 1) 1 [] [true, true, true, true, true, false, false, false], hz_r (.aload_n 0) 1, hz_r (.iload 4) 2, hz_n, hz_r (.iconst 1) 1, hz_r (.iadd) 1, hz_r (.iaload) 1, hz_r (.aload_n 0) 1, hz_r (.iload 4) 2, hz_n, hz_r (.iconst 2) 1, hz_r (.iadd) 1, hz_r (.iaload) 1, hz_r (.aload_n 3) 1, hz_r (.invokestatic 55) 3],
  [hz_n, hz_n, hz_r (.istore 5) 2, hz_n, hz_r (.aload_n 2) 1, hz_r (.aload_n 0) 1, hz_r (.iload 4) 2, hz_n, hz_r (.iconst 1) 1, hz_r (.iadd) 1, hz_r (.iaload) 1, hz_r (.aload_n 0) 1, hz_r (.iload 4) 2, hz_n, hz_r (.iconst 2) 1, hz_r (.iadd) 1],
  [hz_r (.iaload) 1, hz_m (.invokevirtual 60) 3 [195, 3, 1] [], hz_n, hz_n, hz_r (.istore 6) 2, hz_n, hz_r (.aload_n 2) 1, hz_m (.invokevirtual 61) 3 [161, 1, 1] [], hz_n, hz_n, hz_r (.iload 5) 2, hz_n, hz_r (.if_icmp .eq 5) 3, hz_n, hz_n, hz_m (.iconst 0) 1 [] [false, false, false, false, false, false, false, false]],
  [hz_r (.ireturn) 1, hz_m (.iload 5) 2 [] [true, true, true, true, true, true, true, false], hz_n, hz_r (.ifCond .ne 15) 3, hz_n, hz_n, hz_m (.aload_n 3) 1 [] [true, true, true, true, true, false, true, false], hz_r (.iconst 0) 1, hz_r (.laload) 1, hz_r (.iload 6) 2, hz_n, hz_r (.i2l) 1, hz_r (.lcmp) 1, hz_r (.ifCond .eq 5) 3, hz_n, hz_n],
  [hz_m (.iconst 0) 1 [] [false, false, false, false, false, false, false, false], hz_r (.ireturn) 1, hz_m (.goto 1334) 3 [] [true, true, true, true, true, false, false, false], hz_n, hz_n, hz_m (.aload_n 1) 1 [] [true, true, true, true, true, false, false, false], hz_r (.aload_n 0) 1, hz_r (.iload 4) 2, hz_n, hz_r (.iconst 1) 1, hz_r (.iadd) 1, hz_r (.iaload) 1, hz_r (.aload_n 0) 1, hz_r (.iload 4) 2, hz_n, hz_r (.iconst 2) 1],
  [hz_r (.iadd) 1, hz_r (.iaload) 1, hz_r (.aload_n 3) 1, hz_r (.invokestatic 64) 3, hz_n, hz_n, hz_r (.istore 5) 2, hz_n, hz_r (.aload_n 2) 1, hz_r (.aload_n 0) 1, hz_r (.iload 4) 2, hz_n, hz_r (.iconst 1) 1, hz_r (.iadd) 1, hz_r (.iaload) 1, hz_r (.aload_n 0) 1],
  [hz_r (.iload 4) 2, hz_n, hz_r (.iconst 2) 1, hz_r (.iadd) 1, hz_r (.iaload) 1, hz_m (.invokevirtual 66) 3 [196, 3, 1] [], hz_n, hz_n, hz_r (.istore 6) 2, hz_n, hz_r (.aload_n 2) 1, hz_m (.invokevirtual 61) 3 [161, 1, 1] [], hz_n, hz_n, hz_r (.iload 5) 2, hz_n],
  [hz_r (.if_icmp .eq 5) 3, hz_n, hz_n, hz_m (.iconst 0) 1 [] [false, false, false, false, false, false, false, false], hz_r (.ireturn) 1, hz_m (.iload 5) 2 [] [true, true, true, true, true, true, true, false], hz_n, hz_r (.ifCond .ne 15) 3, hz_n, hz_n, hz_m (.aload_n 3) 1 [] [true, true, true, true, true, false, true, false], hz_r (.iconst 0) 1, hz_r (.laload) 1, hz_r (.iload 6) 2, hz_n, hz_r (.i2l) 1],
  [hz_r (.lcmp) 1, hz_r (.ifCond .eq 5) 3, hz_n, hz_n, hz_m (.iconst 0) 1 [] [false, false, false, false, false, false, false, false], hz_r (.ireturn) 1, hz_m (.goto 1266) 3 [] [true, true, true, true, true, false, false, false], hz_n, hz_n, hz_m (.aload_n 1) 1 [] [true, true, true, true, true, false, false, false], hz_r (.aload_n 0) 1, hz_r (.iload 4) 2, hz_n, hz_r (.iconst 1) 1, hz_r (.iadd) 1, hz_r (.iaload) 1],
  [hz_r (.aload_n 0) 1, hz_r (.iload 4) 2, hz_n, hz_r (.iconst 2) 1, hz_r (.iadd) 1, hz_r (.iaload) 1, hz_r (.aload_n 0) 1, hz_r (.iload 4) 2, hz_n, hz_r (.iconst 3) 1, hz_r (.iadd) 1, hz_r (.iaload) 1, hz_m (.invokevirtual 67) 3 [110, 4, 1] [], hz_n, hz_n, hz_r (.aload_n 2) 1],
  [hz_r (.aload_n 0) 1, hz_r (.iload 4) 2, hz_n, hz_r (.iconst 1) 1, hz_r (.iadd) 1, hz_r (.iaload) 1, hz_r (.aload_n 0) 1, hz_r (.iload 4) 2, hz_n, hz_r (.iconst 2) 1, hz_r (.iadd) 1, hz_r (.iaload) 1, hz_r (.aload_n 0) 1, hz_r (.iload 4) 2, hz_n, hz_r (.iconst 3) 1],
  [hz_r (.iadd) 1, hz_r (.iaload) 1, hz_m (.invokevirtual 71) 3 [197, 4, 1] [], hz_n, hz_n, hz_r (.if_icmp .eq 1219) 3, hz_n, hz_n, hz_m (.iconst 0) 1 [] [false, false, false, false, false, false, false, false], hz_r (.ireturn) 1, hz_m (.aload_n 1) 1 [] [true, true, true, true, true, false, false, false], hz_r (.aload_n 0) 1, hz_r (.iload 4) 2, hz_n, hz_r (.iconst 1) 1, hz_r (.iadd) 1],
  [hz_r (.iaload) 1, hz_r (.aload_n 0) 1, hz_r (.iload 4) 2, hz_n, hz_r (.iconst 2) 1, hz_r (.iadd) 1, hz_r (.iaload) 1, hz_m (.invokevirtual 72) 3 [111, 3, 1] [], hz_n, hz_n, hz_r (.aload_n 2) 1, hz_r (.aload_n 0) 1, hz_r (.iload 4) 2, hz_n, hz_r (.iconst 1) 1, hz_r (.iadd) 1],
  [hz_r (.iaload) 1, hz_r (.aload_n 0) 1, hz_r (.iload 4) 2, hz_n, hz_r (.iconst 2) 1, hz_r (.iadd) 1, hz_r (.iaload) 1, hz_m (.invokevirtual 76) 3 [198, 3, 1] [], hz_n, hz_n, hz_r (.if_icmp .eq 1182) 3, hz_n, hz_n, hz_m (.iconst 0) 1 [] [false, false, false, false, false, false, false, false], hz_r (.ireturn) 1, hz_m (.aload_n 1) 1 [] [true, true, true, true, true, false, false, false]],
  [hz_r (.aload_n 0) 1, hz_r (.iload 4) 2, hz_n, hz_r (.iconst 1) 1, hz_r (.iadd) 1, hz_r (.iaload) 1, hz_r (.aload_n 0) 1, hz_r (.iload 4) 2, hz_n, hz_r (.iconst 2) 1, hz_r (.iadd) 1, hz_r (.iaload) 1, hz_r (.aload_n 0) 1, hz_r (.iload 4) 2, hz_n, hz_r (.iconst 3) 1],
  [hz_r (.iadd) 1, hz_r (.iaload) 1, hz_r (.aload_n 0) 1, hz_r (.iload 4) 2, hz_n, hz_r (.iconst 4) 1, hz_r (.iadd) 1, hz_r (.iaload) 1, hz_m (.invokevirtual 77) 3 [112, 5, 1] [], hz_n, hz_n, hz_r (.aload_n 2) 1, hz_r (.aload_n 0) 1, hz_r (.iload 4) 2, hz_n, hz_r (.iconst 1) 1],
  [hz_r (.iadd) 1, hz_r (.iaload) 1, hz_r (.aload_n 0) 1, hz_r (.iload 4) 2, hz_n, hz_r (.iconst 2) 1, hz_r (.iadd) 1, hz_r (.iaload) 1, hz_r (.aload_n 0) 1, hz_r (.iload 4) 2, hz_n, hz_r (.iconst 3) 1, hz_r (.iadd) 1, hz_r (.iaload) 1, hz_r (.aload_n 0) 1, hz_r (.iload 4) 2],
  [hz_n, hz_r (.iconst 4) 1, hz_r (.iadd) 1, hz_r (.iaload) 1, hz_m (.invokevirtual 81) 3 [199, 5, 1] [], hz_n, hz_n, hz_r (.if_icmp .eq 1121) 3, hz_n, hz_n, hz_m (.iconst 0) 1 [] [false, false, false, false, false, false, false, false], hz_r (.ireturn) 1, hz_m (.aload_n 1) 1 [] [true, true, true, true, true, false, false, false], hz_r (.aload_n 0) 1, hz_r (.iload 4) 2, hz_n],
  [hz_r (.iconst 1) 1, hz_r (.iadd) 1, hz_r (.iaload) 1, hz_m (.invokevirtual 82) 3 [113, 2, 1] [], hz_n, hz_n, hz_r (.aload_n 2) 1, hz_r (.aload_n 0) 1, hz_r (.iload 4) 2, hz_n, hz_r (.iconst 1) 1, hz_r (.iadd) 1, hz_r (.iaload) 1, hz_m (.invokevirtual 85) 3 [205, 2, 1] [], hz_n, hz_n],
  [hz_r (.if_icmp .eq 1096) 3, hz_n, hz_n, hz_m (.iconst 0) 1 [] [false, false, false, false, false, false, false, false], hz_r (.ireturn) 1, hz_m (.aload_n 1) 1 [] [true, true, true, true, true, false, false, false], hz_r (.aload_n 0) 1, hz_r (.iload 4) 2, hz_n, hz_r (.iconst 1) 1, hz_r (.iadd) 1, hz_r (.iaload) 1, hz_m (.invokevirtual 86) 3 [114, 2, 1] [], hz_n, hz_n, hz_r (.aload_n 2) 1],
  [hz_r (.aload_n 0) 1, hz_r (.iload 4) 2, hz_n, hz_r (.iconst 1) 1, hz_r (.iadd) 1, hz_r (.iaload) 1, hz_m (.invokevirtual 89) 3 [206, 2, 1] [], hz_n, hz_n, hz_r (.if_icmp .eq 1071) 3, hz_n, hz_n, hz_m (.iconst 0) 1 [] [false, false, false, false, false, false, false, false], hz_r (.ireturn) 1, hz_m (.aload_n 1) 1 [] [true, true, true, true, true, false, false, false], hz_m (.invokevirtual 90) 3 [115, 1, 1] []],
  [hz_n, hz_n, hz_r (.aload_n 2) 1, hz_m (.invokevirtual 93) 3 [208, 1, 1] [], hz_n, hz_n, hz_r (.if_icmp .eq 1058) 3, hz_n, hz_n, hz_m (.iconst 0) 1 [] [false, false, false, false, false, false, false, false], hz_r (.ireturn) 1, hz_m (.aload_n 1) 1 [] [true, true, true, true, true, false, false, false], hz_m (.invokevirtual 94) 3 [116, 1, 1] [], hz_n, hz_n, hz_r (.aload_n 2) 1],
  [hz_m (.invokevirtual 97) 3 [209, 1, 1] [], hz_n, hz_n, hz_r (.if_icmp .eq 1045) 3, hz_n, hz_n, hz_m (.iconst 0) 1 [] [false, false, false, false, false, false, false, false], hz_r (.ireturn) 1, hz_m (.aload_n 1) 1 [] [true, true, true, true, true, false, false, false], hz_r (.aload_n 0) 1, hz_r (.iload 4) 2, hz_n, hz_r (.iconst 1) 1, hz_r (.iadd) 1, hz_r (.iaload) 1, hz_r (.aload_n 0) 1],
  [hz_r (.iload 4) 2, hz_n, hz_r (.iconst 2) 1, hz_r (.iadd) 1, hz_r (.iaload) 1, hz_r (.aload_n 3) 1, hz_r (.invokestatic 98) 3, hz_n, hz_n, hz_r (.istore 5) 2, hz_n, hz_r (.aload_n 2) 1, hz_r (.aload_n 0) 1, hz_r (.iload 4) 2, hz_n, hz_r (.iconst 1) 1],
  [hz_r (.iadd) 1, hz_r (.iaload) 1, hz_r (.aload_n 0) 1, hz_r (.iload 4) 2, hz_n, hz_r (.iconst 2) 1, hz_r (.iadd) 1, hz_r (.iaload) 1, hz_m (.invokevirtual 100) 3 [210, 3, 1] [], hz_n, hz_n, hz_r (.istore 6) 2, hz_n, hz_r (.aload_n 2) 1, hz_m (.invokevirtual 61) 3 [161, 1, 1] [], hz_n],
  [hz_n, hz_r (.iload 5) 2, hz_n, hz_r (.if_icmp .eq 5) 3, hz_n, hz_n, hz_m (.iconst 0) 1 [] [false, false, false, false, false, false, false, false], hz_r (.ireturn) 1, hz_m (.iload 5) 2 [] [true, true, true, true, true, true, true, false], hz_n, hz_r (.ifCond .ne 15) 3, hz_n, hz_n, hz_m (.aload_n 3) 1 [] [true, true, true, true, true, false, true, false], hz_r (.iconst 0) 1, hz_r (.laload) 1],
  [hz_r (.iload 6) 2, hz_n, hz_r (.i2l) 1, hz_r (.lcmp) 1, hz_r (.ifCond .eq 5) 3, hz_n, hz_n, hz_m (.iconst 0) 1 [] [false, false, false, false, false, false, false, false], hz_r (.ireturn) 1, hz_m (.goto 975) 3 [] [true, true, true, true, true, false, false, false], hz_n, hz_n, hz_m (.aload_n 1) 1 [] [true, true, true, true, true, false, false, false], hz_r (.aload_n 0) 1, hz_r (.iload 4) 2, hz_n],
  [hz_r (.iconst 1) 1, hz_r (.iadd) 1, hz_r (.iaload) 1, hz_r (.aload_n 0) 1, hz_r (.iload 4) 2, hz_n, hz_r (.iconst 2) 1, hz_r (.iadd) 1, hz_r (.iaload) 1, hz_m (.invokevirtual 101) 3 [118, 3, 1] [], hz_n, hz_n, hz_r (.aload_n 2) 1, hz_r (.aload_n 0) 1, hz_r (.iload 4) 2, hz_n],
  [hz_r (.iconst 1) 1, hz_r (.iadd) 1, hz_r (.iaload) 1, hz_r (.aload_n 0) 1, hz_r (.iload 4) 2, hz_n, hz_r (.iconst 2) 1, hz_r (.iadd) 1, hz_r (.iaload) 1, hz_m (.invokevirtual 104) 3 [212, 3, 1] [], hz_n, hz_n, hz_r (.if_icmp .eq 940) 3, hz_n, hz_n, hz_m (.iconst 0) 1 [] [false, false, false, false, false, false, false, false]],
  [hz_r (.ireturn) 1, hz_m (.aload_n 1) 1 [] [true, true, true, true, true, false, false, false], hz_r (.aload_n 0) 1, hz_r (.iload 4) 2, hz_n, hz_r (.iconst 1) 1, hz_r (.iadd) 1, hz_r (.iaload) 1, hz_r (.aload_n 0) 1, hz_r (.iload 4) 2, hz_n, hz_r (.iconst 2) 1, hz_r (.iadd) 1, hz_r (.iaload) 1, hz_m (.invokevirtual 105) 3 [119, 3, 1] [], hz_n],
  [hz_n, hz_r (.aload_n 2) 1, hz_r (.aload_n 0) 1, hz_r (.iload 4) 2, hz_n, hz_r (.iconst 1) 1, hz_r (.iadd) 1, hz_r (.iaload) 1, hz_r (.aload_n 0) 1, hz_r (.iload 4) 2, hz_n, hz_r (.iconst 2) 1, hz_r (.iadd) 1, hz_r (.iaload) 1, hz_m (.invokevirtual 108) 3 [213, 3, 1] [], hz_n],
  [hz_n, hz_r (.if_icmp .eq 903) 3, hz_n, hz_n, hz_m (.iconst 0) 1 [] [false, false, false, false, false, false, false, false], hz_r (.ireturn) 1, hz_m (.aload_n 1) 1 [] [true, true, true, true, true, false, false, false], hz_r (.aload_n 0) 1, hz_r (.iload 4) 2, hz_n, hz_r (.iconst 1) 1, hz_r (.iadd) 1, hz_r (.iaload) 1, hz_m (.invokevirtual 109) 3 [120, 2, 1] [], hz_n, hz_n],
  [hz_r (.aload_n 2) 1, hz_r (.aload_n 0) 1, hz_r (.iload 4) 2, hz_n, hz_r (.iconst 1) 1, hz_r (.iadd) 1, hz_r (.iaload) 1, hz_m (.invokevirtual 112) 3 [214, 2, 1] [], hz_n, hz_n, hz_r (.if_icmp .eq 878) 3, hz_n, hz_n, hz_m (.iconst 0) 1 [] [false, false, false, false, false, false, false, false], hz_r (.ireturn) 1, hz_m (.aload_n 1) 1 [] [true, true, true, true, true, false, false, false]],
  [hz_m (.invokevirtual 113) 3 [121, 1, 1] [], hz_n, hz_n, hz_r (.aload_n 2) 1, hz_m (.invokevirtual 116) 3 [204, 1, 1] [], hz_n, hz_n, hz_r (.if_icmp .eq 865) 3, hz_n, hz_n, hz_m (.iconst 0) 1 [] [false, false, false, false, false, false, false, false], hz_r (.ireturn) 1, hz_m (.aload_n 1) 1 [] [true, true, true, true, true, false, false, false], hz_r (.aload_n 0) 1, hz_r (.iload 4) 2, hz_n],
  [hz_r (.iconst 1) 1, hz_r (.iadd) 1, hz_r (.iaload) 1, hz_m (.invokevirtual 117) 3 [122, 2, 1] [], hz_n, hz_n, hz_r (.aload_n 2) 1, hz_r (.aload_n 0) 1, hz_r (.iload 4) 2, hz_n, hz_r (.iconst 1) 1, hz_r (.iadd) 1, hz_r (.iaload) 1, hz_m (.invokevirtual 120) 3 [215, 2, 1] [], hz_n, hz_n],
  [hz_r (.if_icmp .eq 840) 3, hz_n, hz_n, hz_m (.iconst 0) 1 [] [false, false, false, false, false, false, false, false], hz_r (.ireturn) 1, hz_m (.aload_n 1) 1 [] [true, true, true, true, true, false, false, false], hz_r (.aload_n 0) 1, hz_r (.iload 4) 2, hz_n, hz_r (.iconst 1) 1, hz_r (.iadd) 1, hz_r (.iaload) 1, hz_r (.aload_n 0) 1, hz_r (.iload 4) 2, hz_n, hz_r (.iconst 2) 1],
  [hz_r (.iadd) 1, hz_r (.iaload) 1, hz_m (.invokevirtual 121) 3 [123, 3, 1] [], hz_n, hz_n, hz_r (.aload_n 2) 1, hz_r (.aload_n 0) 1, hz_r (.iload 4) 2, hz_n, hz_r (.iconst 1) 1, hz_r (.iadd) 1, hz_r (.iaload) 1, hz_r (.aload_n 0) 1, hz_r (.iload 4) 2, hz_n, hz_r (.iconst 2) 1],
  [hz_r (.iadd) 1, hz_r (.iaload) 1, hz_m (.invokevirtual 124) 3 [220, 3, 1] [], hz_n, hz_n, hz_r (.if_icmp .eq 803) 3, hz_n, hz_n, hz_m (.iconst 0) 1 [] [false, false, false, false, false, false, false, false], hz_r (.ireturn) 1, hz_m (.aload_n 1) 1 [] [true, true, true, true, true, false, false, false], hz_r (.aload_n 0) 1, hz_r (.iload 4) 2, hz_n, hz_r (.iconst 1) 1, hz_r (.iadd) 1],
  [hz_r (.iaload) 1, hz_m (.invokevirtual 125) 3 [124, 2, 1] [], hz_n, hz_n, hz_r (.aload_n 2) 1, hz_r (.aload_n 0) 1, hz_r (.iload 4) 2, hz_n, hz_r (.iconst 1) 1, hz_r (.iadd) 1, hz_r (.iaload) 1, hz_m (.invokevirtual 128) 3 [221, 2, 1] [], hz_n, hz_n, hz_r (.if_icmp .eq 778) 3, hz_n],
  [hz_n, hz_m (.iconst 0) 1 [] [false, false, false, false, false, false, false, false], hz_r (.ireturn) 1, hz_m (.aload_n 1) 1 [] [true, true, true, true, true, false, false, false], hz_r (.aload_n 0) 1, hz_r (.iload 4) 2, hz_n, hz_r (.iconst 1) 1, hz_r (.iadd) 1, hz_r (.iaload) 1, hz_m (.invokevirtual 129) 3 [125, 2, 1] [], hz_n, hz_n, hz_r (.aload_n 2) 1, hz_r (.aload_n 0) 1, hz_r (.iload 4) 2],
  [hz_n, hz_r (.iconst 1) 1, hz_r (.iadd) 1, hz_r (.iaload) 1, hz_m (.invokevirtual 132) 3 [222, 2, 1] [], hz_n, hz_n, hz_r (.if_icmp .eq 753) 3, hz_n, hz_n, hz_m (.iconst 0) 1 [] [false, false, false, false, false, false, false, false], hz_r (.ireturn) 1, hz_m (.aload_n 1) 1 [] [true, true, true, true, true, false, false, false], hz_r (.aload_n 0) 1, hz_r (.iload 4) 2, hz_n],
  [hz_r (.iconst 1) 1, hz_r (.iadd) 1, hz_r (.iaload) 1, hz_m (.invokevirtual 133) 3 [126, 2, 1] [], hz_n, hz_n, hz_r (.aload_n 2) 1, hz_r (.aload_n 0) 1, hz_r (.iload 4) 2, hz_n, hz_r (.iconst 1) 1, hz_r (.iadd) 1, hz_r (.iaload) 1, hz_m (.invokevirtual 136) 3 [223, 2, 1] [], hz_n, hz_n],
  [hz_r (.if_icmp .eq 728) 3, hz_n, hz_n, hz_m (.iconst 0) 1 [] [false, false, false, false, false, false, false, false], hz_r (.ireturn) 1, hz_m (.aload_n 1) 1 [] [true, true, true, true, true, false, false, false], hz_r (.aload_n 0) 1, hz_r (.iload 4) 2, hz_n, hz_r (.iconst 1) 1, hz_r (.iadd) 1, hz_r (.iaload) 1, hz_r (.aload_n 0) 1, hz_r (.iload 4) 2, hz_n, hz_r (.iconst 2) 1],
  [hz_r (.iadd) 1, hz_r (.iaload) 1, hz_m (.invokevirtual 137) 3 [127, 3, 1] [], hz_n, hz_n, hz_r (.aload_n 2) 1, hz_r (.aload_n 0) 1, hz_r (.iload 4) 2, hz_n, hz_r (.iconst 1) 1, hz_r (.iadd) 1, hz_r (.iaload) 1, hz_r (.aload_n 0) 1, hz_r (.iload 4) 2, hz_n, hz_r (.iconst 2) 1],
  [hz_r (.iadd) 1, hz_r (.iaload) 1, hz_m (.invokevirtual 140) 3 [224, 3, 1] [], hz_n, hz_n, hz_r (.if_icmp .eq 691) 3, hz_n, hz_n, hz_m (.iconst 0) 1 [] [false, false, false, false, false, false, false, false], hz_r (.ireturn) 1, hz_m (.aload_n 1) 1 [] [true, true, true, true, true, false, false, false], hz_r (.aload_n 0) 1, hz_r (.iload 4) 2, hz_n, hz_r (.iconst 1) 1, hz_r (.iadd) 1],
  [hz_r (.iaload) 1, hz_r (.aload_n 0) 1, hz_r (.iload 4) 2, hz_n, hz_r (.iconst 2) 1, hz_r (.iadd) 1, hz_r (.iaload) 1, hz_m (.invokevirtual 141) 3 [128, 3, 1] [], hz_n, hz_n, hz_r (.aload_n 2) 1, hz_r (.aload_n 0) 1, hz_r (.iload 4) 2, hz_n, hz_r (.iconst 1) 1, hz_r (.iadd) 1],
  [hz_r (.iaload) 1, hz_r (.aload_n 0) 1, hz_r (.iload 4) 2, hz_n, hz_r (.iconst 2) 1, hz_r (.iadd) 1, hz_r (.iaload) 1, hz_m (.invokevirtual 144) 3 [227, 3, 1] [], hz_n, hz_n, hz_r (.if_icmp .eq 654) 3, hz_n, hz_n, hz_m (.iconst 0) 1 [] [false, false, false, false, false, false, false, false], hz_r (.ireturn) 1, hz_m (.aload_n 1) 1 [] [true, true, true, true, true, false, false, false]],
  [hz_r (.aload_n 0) 1, hz_r (.iload 4) 2, hz_n, hz_r (.iconst 1) 1, hz_r (.iadd) 1, hz_r (.iaload) 1, hz_m (.invokevirtual 145) 3 [129, 2, 1] [], hz_n, hz_n, hz_r (.aload_n 2) 1, hz_r (.aload_n 0) 1, hz_r (.iload 4) 2, hz_n, hz_r (.iconst 1) 1, hz_r (.iadd) 1, hz_r (.iaload) 1],
  [hz_m (.invokevirtual 148) 3 [229, 2, 1] [], hz_n, hz_n, hz_r (.if_icmp .eq 629) 3, hz_n, hz_n, hz_m (.iconst 0) 1 [] [false, false, false, false, false, false, false, false], hz_r (.ireturn) 1, hz_m (.aload_n 1) 1 [] [true, true, true, true, true, false, false, false], hz_r (.aload_n 0) 1, hz_r (.iload 4) 2, hz_n, hz_r (.iconst 1) 1, hz_r (.iadd) 1, hz_r (.iaload) 1, hz_r (.aload_n 0) 1],
  [hz_r (.iload 4) 2, hz_n, hz_r (.iconst 2) 1, hz_r (.iadd) 1, hz_r (.iaload) 1, hz_m (.invokevirtual 149) 3 [130, 3, 1] [], hz_n, hz_n, hz_r (.aload_n 2) 1, hz_r (.aload_n 0) 1, hz_r (.iload 4) 2, hz_n, hz_r (.iconst 1) 1, hz_r (.iadd) 1, hz_r (.iaload) 1, hz_r (.aload_n 0) 1],
  [hz_r (.iload 4) 2, hz_n, hz_r (.iconst 2) 1, hz_r (.iadd) 1, hz_r (.iaload) 1, hz_m (.invokevirtual 152) 3 [230, 3, 1] [], hz_n, hz_n, hz_r (.if_icmp .eq 592) 3, hz_n, hz_n, hz_m (.iconst 0) 1 [] [false, false, false, false, false, false, false, false], hz_r (.ireturn) 1, hz_m (.aload_n 1) 1 [] [true, true, true, true, true, false, false, false], hz_r (.aload_n 0) 1, hz_r (.iload 4) 2],
  [hz_n, hz_r (.iconst 1) 1, hz_r (.iadd) 1, hz_r (.iaload) 1, hz_r (.aload_n 0) 1, hz_r (.iload 4) 2, hz_n, hz_r (.iconst 2) 1, hz_r (.iadd) 1, hz_r (.iaload) 1, hz_r (.aload_n 3) 1, hz_r (.invokestatic 153) 3, hz_n, hz_n, hz_r (.istore 5) 2, hz_n],
  [hz_r (.aload_n 2) 1, hz_r (.aload_n 0) 1, hz_r (.iload 4) 2, hz_n, hz_r (.iconst 1) 1, hz_r (.iadd) 1, hz_r (.iaload) 1, hz_r (.aload_n 0) 1, hz_r (.iload 4) 2, hz_n, hz_r (.iconst 2) 1, hz_r (.iadd) 1, hz_r (.iaload) 1, hz_m (.invokevirtual 155) 3 [231, 3, 1] [], hz_n, hz_n],
  [hz_r (.istore 6) 2, hz_n, hz_r (.aload_n 2) 1, hz_m (.invokevirtual 61) 3 [161, 1, 1] [], hz_n, hz_n, hz_r (.iload 5) 2, hz_n, hz_r (.if_icmp .eq 5) 3, hz_n, hz_n, hz_m (.iconst 0) 1 [] [false, false, false, false, false, false, false, false], hz_r (.ireturn) 1, hz_m (.iload 5) 2 [] [true, true, true, true, true, true, true, false], hz_n, hz_r (.ifCond .ne 15) 3],
  [hz_n, hz_n, hz_m (.aload_n 3) 1 [] [true, true, true, true, true, false, true, false], hz_r (.iconst 0) 1, hz_r (.laload) 1, hz_r (.iload 6) 2, hz_n, hz_r (.i2l) 1, hz_r (.lcmp) 1, hz_r (.ifCond .eq 5) 3, hz_n, hz_n, hz_m (.iconst 0) 1 [] [false, false, false, false, false, false, false, false], hz_r (.ireturn) 1, hz_m (.goto 522) 3 [] [true, true, true, true, true, false, false, false], hz_n],
  [hz_n, hz_m (.aload_n 1) 1 [] [true, true, true, true, true, false, false, false], hz_r (.aload_n 0) 1, hz_r (.iload 4) 2, hz_n, hz_r (.iconst 1) 1, hz_r (.iadd) 1, hz_r (.iaload) 1, hz_m (.invokevirtual 156) 3 [132, 2, 1] [], hz_n, hz_n, hz_r (.aload_n 2) 1, hz_r (.aload_n 0) 1, hz_r (.iload 4) 2, hz_n, hz_r (.iconst 1) 1],
  [hz_r (.iadd) 1, hz_r (.iaload) 1, hz_m (.invokevirtual 159) 3 [234, 2, 1] [], hz_n, hz_n, hz_r (.if_icmp .eq 499) 3, hz_n, hz_n, hz_m (.iconst 0) 1 [] [false, false, false, false, false, false, false, false], hz_r (.ireturn) 1, hz_m (.aload_n 1) 1 [] [true, true, true, true, true, false, false, false], hz_r (.aload_n 0) 1, hz_r (.iload 4) 2, hz_n, hz_r (.iconst 1) 1, hz_r (.iadd) 1],
  [hz_r (.iaload) 1, hz_r (.aload_n 0) 1, hz_r (.iload 4) 2, hz_n, hz_r (.iconst 2) 1, hz_r (.iadd) 1, hz_r (.iaload) 1, hz_m (.invokevirtual 160) 3 [133, 3, 1] [], hz_n, hz_n, hz_r (.aload_n 2) 1, hz_r (.aload_n 0) 1, hz_r (.iload 4) 2, hz_n, hz_r (.iconst 1) 1, hz_r (.iadd) 1],
  [hz_r (.iaload) 1, hz_r (.aload_n 0) 1, hz_r (.iload 4) 2, hz_n, hz_r (.iconst 2) 1, hz_r (.iadd) 1, hz_r (.iaload) 1, hz_m (.invokevirtual 163) 3 [235, 3, 1] [], hz_n, hz_n, hz_r (.if_icmp .eq 462) 3, hz_n, hz_n, hz_m (.iconst 0) 1 [] [false, false, false, false, false, false, false, false], hz_r (.ireturn) 1, hz_m (.aload_n 1) 1 [] [true, true, true, true, true, false, false, false]],
  [hz_r (.aload_n 0) 1, hz_r (.iload 4) 2, hz_n, hz_r (.iconst 1) 1, hz_r (.iadd) 1, hz_r (.iaload) 1, hz_r (.aload_n 0) 1, hz_r (.iload 4) 2, hz_n, hz_r (.iconst 2) 1, hz_r (.iadd) 1, hz_r (.iaload) 1, hz_m (.invokevirtual 164) 3 [134, 3, 1] [], hz_n, hz_n, hz_r (.aload_n 2) 1],
  [hz_r (.aload_n 0) 1, hz_r (.iload 4) 2, hz_n, hz_r (.iconst 1) 1, hz_r (.iadd) 1, hz_r (.iaload) 1, hz_r (.aload_n 0) 1, hz_r (.iload 4) 2, hz_n, hz_r (.iconst 2) 1, hz_r (.iadd) 1, hz_r (.iaload) 1, hz_m (.invokevirtual 167) 3 [236, 3, 1] [], hz_n, hz_n, hz_r (.if_icmp .eq 425) 3],
  [hz_n, hz_n, hz_m (.iconst 0) 1 [] [false, false, false, false, false, false, false, false], hz_r (.ireturn) 1, hz_m (.aload_n 1) 1 [] [true, true, true, true, true, false, false, false], hz_m (.invokevirtual 168) 3 [135, 1, 1] [], hz_n, hz_n, hz_r (.aload_n 2) 1, hz_m (.invokevirtual 171) 3 [237, 1, 1] [], hz_n, hz_n, hz_r (.if_icmp .eq 412) 3, hz_n, hz_n, hz_m (.iconst 0) 1 [] [false, false, false, false, false, false, false, false]],
  [hz_r (.ireturn) 1, hz_m (.aload_n 1) 1 [] [true, true, true, true, true, false, false, false], hz_r (.aload_n 0) 1, hz_r (.iload 4) 2, hz_n, hz_r (.iconst 1) 1, hz_r (.iadd) 1, hz_r (.iaload) 1, hz_r (.aload_n 0) 1, hz_r (.iload 4) 2, hz_n, hz_r (.iconst 2) 1, hz_r (.iadd) 1, hz_r (.iaload) 1, hz_m (.invokevirtual 172) 3 [136, 3, 1] [], hz_n],
  [hz_n, hz_r (.aload_n 2) 1, hz_r (.aload_n 0) 1, hz_r (.iload 4) 2, hz_n, hz_r (.iconst 1) 1, hz_r (.iadd) 1, hz_r (.iaload) 1, hz_r (.aload_n 0) 1, hz_r (.iload 4) 2, hz_n, hz_r (.iconst 2) 1, hz_r (.iadd) 1, hz_r (.iaload) 1, hz_m (.invokevirtual 175) 3 [238, 3, 1] [], hz_n],
  [hz_n, hz_r (.if_icmp .eq 375) 3, hz_n, hz_n, hz_m (.iconst 0) 1 [] [false, false, false, false, false, false, false, false], hz_r (.ireturn) 1, hz_m (.aload_n 1) 1 [] [true, true, true, true, true, false, false, false], hz_m (.invokevirtual 176) 3 [137, 1, 1] [], hz_n, hz_n, hz_r (.aload_n 2) 1, hz_m (.invokevirtual 179) 3 [239, 1, 1] [], hz_n, hz_n, hz_r (.if_icmp .eq 362) 3, hz_n],
  [hz_n, hz_m (.iconst 0) 1 [] [false, false, false, false, false, false, false, false], hz_r (.ireturn) 1, hz_m (.aload_n 1) 1 [] [true, true, true, true, true, false, false, false], hz_m (.invokevirtual 180) 3 [138, 1, 1] [], hz_n, hz_n, hz_r (.aload_n 2) 1, hz_m (.invokevirtual 183) 3 [243, 1, 1] [], hz_n, hz_n, hz_r (.if_icmp .eq 349) 3, hz_n, hz_n, hz_m (.iconst 0) 1 [] [false, false, false, false, false, false, false, false], hz_r (.ireturn) 1],
  [hz_m (.aload_n 1) 1 [] [true, true, true, true, true, false, false, false], hz_r (.aload_n 0) 1, hz_r (.iload 4) 2, hz_n, hz_r (.iconst 1) 1, hz_r (.iadd) 1, hz_r (.iaload) 1, hz_m (.invokevirtual 184) 3 [139, 2, 1] [], hz_n, hz_n, hz_r (.aload_n 2) 1, hz_r (.aload_n 0) 1, hz_r (.iload 4) 2, hz_n, hz_r (.iconst 1) 1, hz_r (.iadd) 1],
  [hz_r (.iaload) 1, hz_m (.invokevirtual 187) 3 [244, 2, 1] [], hz_n, hz_n, hz_r (.if_icmp .eq 324) 3, hz_n, hz_n, hz_m (.iconst 0) 1 [] [false, false, false, false, false, false, false, false], hz_r (.ireturn) 1, hz_m (.aload_n 1) 1 [] [true, true, true, true, true, false, false, false], hz_m (.invokevirtual 188) 3 [140, 1, 1] [], hz_n, hz_n, hz_r (.aload_n 2) 1, hz_m (.invokevirtual 191) 3 [246, 1, 1] [], hz_n],
  [hz_n, hz_r (.if_icmp .eq 311) 3, hz_n, hz_n, hz_m (.iconst 0) 1 [] [false, false, false, false, false, false, false, false], hz_r (.ireturn) 1, hz_m (.aload_n 1) 1 [] [true, true, true, true, true, false, false, false], hz_m (.invokevirtual 192) 3 [141, 1, 1] [], hz_n, hz_n, hz_r (.aload_n 2) 1, hz_m (.invokevirtual 195) 3 [247, 1, 1] [], hz_n, hz_n, hz_r (.if_icmp .eq 298) 3, hz_n],
  [hz_n, hz_m (.iconst 0) 1 [] [false, false, false, false, false, false, false, false], hz_r (.ireturn) 1, hz_m (.aload_n 1) 1 [] [true, true, true, true, true, false, false, false], hz_r (.aload_n 0) 1, hz_r (.iload 4) 2, hz_n, hz_r (.iconst 1) 1, hz_r (.iadd) 1, hz_r (.iaload) 1, hz_r (.aload_n 0) 1, hz_r (.iload 4) 2, hz_n, hz_r (.iconst 2) 1, hz_r (.iadd) 1, hz_r (.iaload) 1],
  [hz_m (.invokevirtual 196) 3 [142, 3, 1] [], hz_n, hz_n, hz_r (.aload_n 2) 1, hz_r (.aload_n 0) 1, hz_r (.iload 4) 2, hz_n, hz_r (.iconst 1) 1, hz_r (.iadd) 1, hz_r (.iaload) 1, hz_r (.aload_n 0) 1, hz_r (.iload 4) 2, hz_n, hz_r (.iconst 2) 1, hz_r (.iadd) 1, hz_r (.iaload) 1],
  [hz_m (.invokevirtual 199) 3 [248, 3, 1] [], hz_n, hz_n, hz_r (.if_icmp .eq 261) 3, hz_n, hz_n, hz_m (.iconst 0) 1 [] [false, false, false, false, false, false, false, false], hz_r (.ireturn) 1, hz_m (.aload_n 1) 1 [] [true, true, true, true, true, false, false, false], hz_m (.invokevirtual 200) 3 [143, 1, 1] [], hz_n, hz_n, hz_r (.aload_n 2) 1, hz_m (.invokevirtual 203) 3 [249, 1, 1] [], hz_n, hz_n],
  [hz_r (.if_icmp .eq 248) 3, hz_n, hz_n, hz_m (.iconst 0) 1 [] [false, false, false, false, false, false, false, false], hz_r (.ireturn) 1, hz_m (.aload_n 1) 1 [] [true, true, true, true, true, false, false, false], hz_r (.aload_n 0) 1, hz_r (.iload 4) 2, hz_n, hz_r (.iconst 1) 1, hz_r (.iadd) 1, hz_r (.iaload) 1, hz_m (.invokevirtual 204) 3 [144, 2, 1] [], hz_n, hz_n, hz_r (.aload_n 2) 1],
  [hz_r (.aload_n 0) 1, hz_r (.iload 4) 2, hz_n, hz_r (.iconst 1) 1, hz_r (.iadd) 1, hz_r (.iaload) 1, hz_m (.invokevirtual 207) 3 [251, 2, 1] [], hz_n, hz_n, hz_r (.if_icmp .eq 223) 3, hz_n, hz_n, hz_m (.iconst 0) 1 [] [false, false, false, false, false, false, false, false], hz_r (.ireturn) 1, hz_m (.aload_n 1) 1 [] [true, true, true, true, true, false, false, false], hz_m (.invokevirtual 208) 3 [145, 1, 1] []],
  [hz_n, hz_n, hz_r (.aload_n 2) 1, hz_m (.invokevirtual 211) 3 [252, 1, 1] [], hz_n, hz_n, hz_r (.if_icmp .eq 210) 3, hz_n, hz_n, hz_m (.iconst 0) 1 [] [false, false, false, false, false, false, false, false], hz_r (.ireturn) 1, hz_m (.aload_n 1) 1 [] [true, true, true, true, true, false, false, false], hz_r (.aload_n 0) 1, hz_r (.iload 4) 2, hz_n, hz_r (.iconst 1) 1],
  [hz_r (.iadd) 1, hz_r (.iaload) 1, hz_m (.invokevirtual 212) 3 [146, 2, 1] [], hz_n, hz_n, hz_r (.aload_n 2) 1, hz_r (.aload_n 0) 1, hz_r (.iload 4) 2, hz_n, hz_r (.iconst 1) 1, hz_r (.iadd) 1, hz_r (.iaload) 1, hz_m (.invokevirtual 215) 3 [253, 2, 1] [], hz_n, hz_n, hz_r (.if_icmp .eq 185) 3],
  [hz_n, hz_n, hz_m (.iconst 0) 1 [] [false, false, false, false, false, false, false, false], hz_r (.ireturn) 1, hz_m (.aload_n 1) 1 [] [true, true, true, true, true, false, false, false], hz_r (.aload_n 0) 1, hz_r (.iload 4) 2, hz_n, hz_r (.iconst 1) 1, hz_r (.iadd) 1, hz_r (.iaload) 1, hz_r (.aload_n 0) 1, hz_r (.iload 4) 2, hz_n, hz_r (.iconst 2) 1, hz_r (.iadd) 1],
  [hz_r (.iaload) 1, hz_m (.invokevirtual 216) 3 [147, 3, 1] [], hz_n, hz_n, hz_r (.aload_n 2) 1, hz_r (.aload_n 0) 1, hz_r (.iload 4) 2, hz_n, hz_r (.iconst 1) 1, hz_r (.iadd) 1, hz_r (.iaload) 1, hz_r (.aload_n 0) 1, hz_r (.iload 4) 2, hz_n, hz_r (.iconst 2) 1, hz_r (.iadd) 1],
  [hz_r (.iaload) 1, hz_m (.invokevirtual 219) 3 [255, 3, 1] [], hz_n, hz_n, hz_r (.if_icmp .eq 148) 3, hz_n, hz_n, hz_m (.iconst 0) 1 [] [false, false, false, false, false, false, false, false], hz_r (.ireturn) 1, hz_m (.aload_n 1) 1 [] [true, true, true, true, true, false, false, false], hz_m (.invokevirtual 220) 3 [148, 1, 1] [], hz_n, hz_n, hz_r (.aload_n 2) 1, hz_m (.invokevirtual 223) 3 [256, 1, 1] [], hz_n],
  [hz_n, hz_r (.if_icmp .eq 135) 3, hz_n, hz_n, hz_m (.iconst 0) 1 [] [false, false, false, false, false, false, false, false], hz_r (.ireturn) 1, hz_m (.aload_n 1) 1 [] [true, true, true, true, true, false, false, false], hz_r (.aload_n 0) 1, hz_r (.iload 4) 2, hz_n, hz_r (.iconst 1) 1, hz_r (.iadd) 1, hz_r (.iaload) 1, hz_m (.invokevirtual 224) 3 [149, 2, 1] [], hz_n, hz_n],
  [hz_r (.aload_n 2) 1, hz_r (.aload_n 0) 1, hz_r (.iload 4) 2, hz_n, hz_r (.iconst 1) 1, hz_r (.iadd) 1, hz_r (.iaload) 1, hz_m (.invokevirtual 227) 3 [257, 2, 1] [], hz_n, hz_n, hz_r (.if_icmp .eq 110) 3, hz_n, hz_n, hz_m (.iconst 0) 1 [] [false, false, false, false, false, false, false, false], hz_r (.ireturn) 1, hz_m (.aload_n 1) 1 [] [true, true, true, true, true, false, false, false]],
  [hz_r (.aload_n 0) 1, hz_r (.iload 4) 2, hz_n, hz_r (.iconst 1) 1, hz_r (.iadd) 1, hz_r (.iaload) 1, hz_m (.invokevirtual 228) 3 [150, 2, 1] [], hz_n, hz_n, hz_r (.aload_n 2) 1, hz_r (.aload_n 0) 1, hz_r (.iload 4) 2, hz_n, hz_r (.iconst 1) 1, hz_r (.iadd) 1, hz_r (.iaload) 1],
  [hz_m (.invokevirtual 231) 3 [258, 2, 1] [], hz_n, hz_n, hz_r (.if_icmp .eq 85) 3, hz_n, hz_n, hz_m (.iconst 0) 1 [] [false, false, false, false, false, false, false, false], hz_r (.ireturn) 1, hz_m (.aload_n 1) 1 [] [true, true, true, true, true, false, false, false], hz_r (.aload_n 0) 1, hz_r (.iload 4) 2, hz_n, hz_r (.iconst 1) 1, hz_r (.iadd) 1, hz_r (.iaload) 1, hz_m (.invokevirtual 232) 3 [151, 2, 1] []],
  [hz_n, hz_n, hz_r (.aload_n 2) 1, hz_r (.aload_n 0) 1, hz_r (.iload 4) 2, hz_n, hz_r (.iconst 1) 1, hz_r (.iadd) 1, hz_r (.iaload) 1, hz_m (.invokevirtual 235) 3 [260, 2, 1] [], hz_n, hz_n, hz_r (.if_icmp .eq 60) 3, hz_n, hz_n, hz_m (.iconst 0) 1 [] [false, false, false, false, false, false, false, false]],
  [hz_r (.ireturn) 1, hz_m (.aload_n 1) 1 [] [true, true, true, true, true, false, false, false], hz_r (.aload_n 0) 1, hz_r (.iload 4) 2, hz_n, hz_r (.iconst 1) 1, hz_r (.iadd) 1, hz_r (.iaload) 1, hz_r (.aload_n 3) 1, hz_r (.invokestatic 236) 3, hz_n, hz_n, hz_r (.istore 5) 2, hz_n, hz_r (.aload_n 2) 1, hz_r (.aload_n 0) 1],
  [hz_r (.iload 4) 2, hz_n, hz_r (.iconst 1) 1, hz_r (.iadd) 1, hz_r (.iaload) 1, hz_m (.invokevirtual 239) 3 [261, 2, 2] [], hz_n, hz_n, hz_r (.lstore 6) 2, hz_n, hz_r (.aload_n 2) 1, hz_m (.invokevirtual 61) 3 [161, 1, 1] [], hz_n, hz_n, hz_r (.iload 5) 2, hz_n],
  [hz_r (.if_icmp .eq 5) 3, hz_n, hz_n, hz_m (.iconst 0) 1 [] [false, false, false, false, false, false, false, false], hz_r (.ireturn) 1, hz_m (.iload 5) 2 [] [true, true, true, true, true, true, true, false], hz_n, hz_r (.ifCond .ne 14) 3, hz_n, hz_n, hz_m (.aload_n 3) 1 [] [true, true, true, true, true, false, true, false], hz_r (.iconst 0) 1, hz_r (.laload) 1, hz_r (.lload 6) 2, hz_n, hz_r (.lcmp) 1],
  [hz_r (.ifCond .eq 5) 3, hz_n, hz_n, hz_m (.iconst 0) 1 [] [false, false, false, false, false, false, false, false], hz_r (.ireturn) 1, hz_m (.goto 3) 3 [] [true, true, true, true, true, false, false, false], hz_n, hz_n, hz_m (.iinc 4 5) 3 [] [true, true, true, true, true, false, false, false], hz_n, hz_n, hz_m (.goto (-1732)) 3 [1] [], hz_n, hz_n, hz_m (.iconst 1) 1 [] [false, false, false, false, false, false, false, false], hz_r (.ireturn) 1]]
end
section
/-! ===== running: with fuel, then without; calls by depth ===== -/
def hs_one {ρ : Type} (code : hs_K) (call : hs_C) (k done : hs_T ρ) (pc : Nat) (ls : hs_L) (st : List hs_V) (μ : hs_M) : Option ρ :=
  match hs_at code pc with
  | some r => hs_step call k done r pc (hs_mask r.2.2.2 ls) st μ
  | none => none
def hs_clean (code : hs_K) (pc : Nat) (ls : hs_L) : hs_L :=
  match hs_at code pc with
  | some r => hs_mask r.2.2.2 ls
  | none => ls
def hs_run {ρ : Type} (code : hs_K) (call : hs_C) (done : hs_T ρ) (n : Nat) : hs_T ρ :=
  Nat.rec (fun _ _ _ _ => none) (fun _ ih => hs_one code call ih done) n
def hs_mem (l : List Nat) (n : Nat) : Bool := match l with
  | [] => false
  | a :: l => Nat.beq a n || hs_mem l n
/-- as far as the next of some places -/
def hs_go {ρ : Type} (code : hs_K) (call : hs_C) (stops : List Nat) (K done : hs_T ρ) (n : Nat) : hs_T ρ :=
  Nat.rec K (fun _ ih => hs_one code call (fun pc ls st μ => match hs_mem stops pc with
    | true => K pc (hs_clean code pc ls) st μ
    | false => ih pc ls st μ) done) n
noncomputable def hs_lim {ρ : Type} (g : Nat → Option ρ) : Option ρ := by
  classical
  exact if h : ∃ n, (g n).isSome = true then g h.choose else none
noncomputable def hs_evW {ρ : Type} (code : hs_K) (call : hs_C) (done : hs_T ρ) : hs_T ρ := fun pc ls st μ => hs_lim (fun n => hs_run code call done n pc ls st μ)
def hs_rz (x : Int32) (μ : hs_M) : Option (Option hs_V × hs_M) := if x &&& 1 = x then some (some (vI x), μ) else none
/-- what comes back: 0 nothing, 1 an int, 2 a long, 3 a truth -/
def hs_fin (rk : Nat) : hs_T (Option hs_V × hs_M) := fun _ _ st μ =>
  match rk, st with
  | _, [] => some (none, μ)
  | 1, [.inl x] => some (some (vI x), μ)
  | 2, [.inr (.inl x)] => some (some (vL x), μ)
  | 3, [.inl x] => hs_rz x μ
  | _, _ => none
def hs_ent : List hs_V → Nat → hs_L
  | [], n => List.replicate n none
  | .inr (.inl x) :: l, n => some (vL x) :: none :: hs_ent l (n - 2)
  | v :: l, n => some v :: hs_ent l (n - 1)
abbrev hs_P : Type := hs_K × (Nat × Nat)
def hs_progs : List hs_P := [(hs_k0, 1, 1),
  (hs_k1, 3, 1),
  (hs_k2, 2, 1),
  (hs_k3, 2, 1),
  (hs_k4, 4, 0),
  (hs_k5, 2, 1),
  (hs_k6, 4, 1),
  (hs_k7, 3, 1),
  (hs_k8, 3, 1),
  (hs_k9, 6, 1),
  (hs_k10, 4, 1),
  (hs_k11, 4, 1),
  (hs_k12, 3, 1),
  (hs_k13, 7, 0),
  (hs_k14, 4, 0),
  (hs_k15, 6, 1),
  (hs_k16, 5, 3),
  (hs_k17, 7, 1),
  (hs_k18, 6, 1),
  (hs_k19, 6, 1),
  (hs_k20, 3, 1),
  (hs_k21, 7, 1),
  (hs_k22, 4, 1),
  (hs_k23, 6, 1),
  (hs_k24, 3, 0),
  (hs_k25, 5, 2),
  (hs_k26, 3, 1),
  (hs_k27, 4, 0),
  (hs_k28, 3, 0),
  (hs_k29, 8, 1),
  (hs_k30, 2, 1),
  (hs_k31, 9, 0),
  (hs_k32, 5, 1),
  (hs_k33, 6, 1),
  (hs_k34, 3, 1),
  (hs_k35, 2, 1),
  (hs_k36, 2, 1),
  (hs_k37, 2, 0),
  (hs_k38, 2, 3),
  (hs_k39, 1, 0),
  (hs_k40, 4, 3),
  (hs_k41, 4, 3),
  (hs_k42, 3, 0),
  (hs_k43, 3, 0),
  (hs_k44, 4, 0),
  (hs_k45, 7, 0),
  (hs_k46, 7, 2),
  (hs_k47, 3, 1),
  (hs_k48, 7, 1),
  (hs_k49, 7, 1),
  (hs_k50, 5, 1),
  (hs_k51, 3, 0),
  (hs_k52, 2, 0),
  (hs_k53, 2, 0),
  (hs_k54, 3, 0),
  (hs_k55, 2, 3),
  (hs_k56, 3, 0),
  (hs_k57, 2, 1),
  (hs_k58, 3, 1),
  (hs_k59, 2, 1),
  (hs_k60, 2, 0),
  (hs_k61, 3, 3),
  (hs_k62, 2, 0),
  (hs_k63, 2, 1),
  (hs_k64, 3, 1),
  (hs_k65, 2, 3),
  (hs_k66, 1, 1),
  (hs_k67, 4, 1),
  (hs_k68, 2, 1),
  (hs_k69, 4, 1),
  (hs_k70, 5, 0),
  (hs_k71, 7, 1),
  (hs_k72, 3, 0),
  (hs_k73, 3, 1),
  (hs_k74, 3, 1),
  (hs_k75, 3, 3),
  (hs_k76, 5, 3),
  (hs_k77, 4, 3),
  (hs_k78, 4, 3),
  (hs_k79, 1, 3),
  (hs_k80, 2, 0),
  (hs_k81, 3, 0),
  (hs_k82, 2, 1),
  (hs_k83, 6, 1),
  (hs_k84, 6, 1),
  (hs_k85, 5, 1),
  (hs_k86, 5, 1),
  (hs_k87, 6, 1),
  (hs_k88, 5, 3),
  (hs_k89, 3, 3),
  (hs_k90, 8, 1),
  (hs_k91, 5, 1),
  (hs_k92, 2, 1),
  (hs_k93, 8, 3),
  (hs_k94, 1, 1),
  (hs_k95, 6, 3),
  (hs_k96, 3, 3),
  (hs_k97, 4, 0),
  (hs_k98, 2, 0),
  (hs_k99, 1, 3),
  (hs_k100, 9, 1),
  (hs_k101, 3, 1),
  (hs_k102, 5, 1),
  (hs_k103, 2, 1),
  (hs_k104, 2, 3),
  (hs_k105, 4, 1),
  (hs_k106, 2, 1),
  (hs_k107, 3, 1),
  (hs_k108, 3, 1),
  (hs_k109, 3, 1),
  (hs_k110, 4, 1),
  (hs_k111, 3, 3),
  (hs_k112, 9, 1),
  (hs_k113, 3, 1),
  (hs_k114, 6, 1),
  (hs_k115, 3, 1),
  (hs_k116, 1, 1),
  (hs_k117, 3, 1),
  (hs_k118, 3, 1),
  (hs_k119, 3, 1),
  (hs_k120, 2, 1),
  (hs_k121, 1, 1),
  (hs_k122, 2, 1),
  (hs_k123, 3, 1),
  (hs_k124, 2, 1),
  (hs_k125, 2, 1),
  (hs_k126, 2, 1),
  (hs_k127, 3, 1),
  (hs_k128, 3, 1),
  (hs_k129, 2, 1),
  (hs_k130, 3, 1),
  (hs_k131, 3, 1),
  (hs_k132, 2, 1),
  (hs_k133, 3, 1),
  (hs_k134, 3, 1),
  (hs_k135, 1, 1),
  (hs_k136, 3, 1),
  (hs_k137, 1, 1),
  (hs_k138, 1, 1),
  (hs_k139, 3, 1),
  (hs_k140, 5, 1),
  (hs_k141, 6, 1),
  (hs_k142, 3, 1),
  (hs_k143, 2, 1),
  (hs_k144, 2, 1),
  (hs_k145, 1, 1),
  (hs_k146, 3, 1),
  (hs_k147, 3, 1),
  (hs_k148, 1, 1),
  (hs_k149, 2, 3),
  (hs_k150, 2, 3),
  (hs_k151, 2, 1),
  (hs_k152, 2, 2),
  (hs_k153, 2, 3),
  (hs_k154, 4, 1),
  (hs_k155, 1, 1),
  (hs_k156, 2, 1),
  (hs_k157, 4, 1),
  (hs_k158, 5, 1),
  (hs_k159, 4, 1),
  (hs_k160, 7, 1),
  (hs_k161, 1, 1),
  (hs_k162, 1, 1),
  (hs_k163, 6, 3),
  (hs_k164, 2, 3),
  (hs_k165, 1, 1),
  (hs_k166, 4, 2),
  (hs_k167, 3, 0),
  (hs_k168, 7, 0),
  (hs_k169, 2, 3),
  (hs_k170, 2, 3),
  (hs_k171, 3, 1),
  (hs_k172, 2, 3),
  (hs_k173, 3, 1),
  (hs_k174, 3, 3),
  (hs_k175, 1, 3),
  (hs_k176, 4, 1),
  (hs_k177, 3, 1),
  (hs_k178, 5, 1),
  (hs_k179, 4, 3),
  (hs_k180, 2, 3),
  (hs_k181, 7, 1),
  (hs_k182, 3, 0),
  (hs_k183, 4, 0),
  (hs_k184, 5, 1),
  (hs_k185, 2, 0),
  (hs_k186, 2, 3),
  (hs_k187, 4, 3),
  (hs_k188, 5, 1),
  (hs_k189, 4, 1),
  (hs_k190, 5, 1),
  (hs_k191, 3, 1),
  (hs_k192, 6, 1),
  (hs_k193, 4, 1),
  (hs_k194, 3, 1),
  (hs_k195, 3, 1),
  (hs_k196, 3, 1),
  (hs_k197, 7, 1),
  (hs_k198, 3, 3),
  (hs_k199, 9, 1),
  (hs_k200, 6, 0),
  (hs_k201, 4, 1),
  (hs_k202, 3, 0),
  (hs_k203, 2, 0),
  (hs_k204, 2, 1),
  (hs_k205, 3, 1),
  (hs_k206, 5, 1),
  (hs_k207, 3, 0),
  (hs_k208, 5, 1),
  (hs_k209, 2, 1),
  (hs_k210, 3, 1),
  (hs_k211, 3, 1),
  (hs_k212, 3, 1),
  (hs_k213, 3, 1),
  (hs_k214, 3, 1),
  (hs_k215, 2, 1),
  (hs_k216, 2, 0),
  (hs_k217, 2, 0),
  (hs_k218, 4, 0),
  (hs_k219, 1, 3),
  (hs_k220, 3, 1),
  (hs_k221, 3, 1),
  (hs_k222, 3, 1),
  (hs_k223, 10, 1),
  (hs_k224, 7, 1),
  (hs_k225, 6, 1),
  (hs_k226, 8, 3),
  (hs_k227, 6, 1),
  (hs_k228, 4, 1),
  (hs_k229, 7, 1),
  (hs_k230, 8, 1),
  (hs_k231, 5, 1),
  (hs_k232, 1, 3),
  (hs_k233, 3, 0),
  (hs_k234, 4, 1),
  (hs_k235, 4, 1),
  (hs_k236, 4, 1),
  (hs_k237, 5, 1),
  (hs_k238, 3, 1),
  (hs_k239, 1, 1),
  (hs_k240, 5, 3),
  (hs_k241, 7, 1),
  (hs_k242, 4, 0),
  (hs_k243, 6, 1),
  (hs_k244, 2, 1),
  (hs_k245, 3, 1),
  (hs_k246, 5, 1),
  (hs_k247, 6, 1),
  (hs_k248, 3, 1),
  (hs_k249, 2, 1),
  (hs_k250, 5, 3),
  (hs_k251, 6, 1),
  (hs_k252, 3, 1),
  (hs_k253, 4, 1),
  (hs_k254, 10, 0),
  (hs_k255, 6, 1),
  (hs_k256, 3, 1),
  (hs_k257, 3, 3),
  (hs_k258, 3, 3),
  (hs_k259, 3, 1),
  (hs_k260, 2, 1),
  (hs_k261, 2, 2)]
def hs_prog (y : Nat) : hs_P := (hs_nth hs_progs y).getD ([], 0, 0)
noncomputable def hs_call (d : Nat) : hs_C :=
  Nat.rec (fun _ _ _ => none) (fun _ ih y as μ => hs_if (Nat.ble (hs_cats as) (hs_prog y).2.1) (hs_evW (hs_prog y).1 ih (hs_fin (hs_prog y).2.2) 0 (hs_ent as (hs_prog y).2.1) [] μ)) d
noncomputable def hs_ev (d y : Nat) : hs_T (Option hs_V × hs_M) := hs_evW (hs_prog y).1 (hs_call d) (hs_fin (hs_prog y).2.2)
theorem hs_call_s (d y : Nat) (as : List hs_V) (μ : hs_M) : hs_call (d + 1) y as μ = hs_if (Nat.ble (hs_cats as) (hs_prog y).2.1) (hs_ev d y 0 (hs_ent as (hs_prog y).2.1) [] μ) := rfl
end
section
/-! ===== a step is natural in what comes behind it; the fuel-free run is a fixed point ===== -/
theorem hs_b_if {ρ ρ' : Type} (g : ρ → Option ρ') (b : Bool) (r : Option ρ) : (hs_if b r).bind g = hs_if b (r.bind g) := by cases b <;> rfl
theorem hs_b_go8 {ρ ρ' : Type} (g : ρ → Option ρ') (st : List hs_V) (r : Option ρ) : (hs_go8 st r).bind g = hs_go8 st (r.bind g) := by
  unfold hs_go8
  cases Nat.ble (hs_cats st) 8 <;> rfl
theorem hs_b_bI {ρ ρ' : Type} (g : ρ → Option ρ') (r : Option (Option hs_V × hs_M)) (k : Int32 → hs_M → Option ρ) : (hs_bI r k).bind g = hs_bI r (fun x μ => (k x μ).bind g) := by
  rcases r with _ | ⟨_ | a | a | a, μ⟩ <;> rfl
theorem hs_b_bL {ρ ρ' : Type} (g : ρ → Option ρ') (r : Option (Option hs_V × hs_M)) (k : Int64 → hs_M → Option ρ) : (hs_bL r k).bind g = hs_bL r (fun x μ => (k x μ).bind g) := by
  rcases r with _ | ⟨_ | a | a | a, μ⟩ <;> rfl
theorem hs_b_bV {ρ ρ' : Type} (g : ρ → Option ρ') (r : Option (Option hs_V × hs_M)) (k : hs_M → Option ρ) : (hs_bV r k).bind g = hs_bV r (fun μ => (k μ).bind g) := by
  rcases r with _ | ⟨_ | a | a | a, μ⟩ <;> rfl
theorem hs_b_gI {ρ ρ' : Type} (g : ρ → Option ρ') (r : Option (Option hs_V)) (k : Int32 → Option ρ) : (hs_gI r k).bind g = hs_gI r (fun x => (k x).bind g) := by
  rcases r with _ | _ | a | a | a <;> rfl
theorem hs_b_gL {ρ ρ' : Type} (g : ρ → Option ρ') (r : Option (Option hs_V)) (k : Int64 → Option ρ) : (hs_gL r k).bind g = hs_gL r (fun x => (k x).bind g) := by
  rcases r with _ | _ | a | a | a <;> rfl
theorem hs_b_gR {ρ ρ' : Type} (g : ρ → Option ρ') (r : Option (Option hs_V)) (k : Nat → Nat → Option ρ) : (hs_gR r k).bind g = hs_gR r (fun x y => (k x y).bind g) := by
  rcases r with _ | _ | a | a | a <;> rfl
theorem hs_b_set1 {ρ ρ' : Type} (g : ρ → Option ρ') (v : hs_V) : ∀ (ls : hs_L) (i : Nat) (K : hs_L → Option ρ), (hs_set1 ls i v K).bind g = hs_set1 ls i v (fun l => (K l).bind g)
  | [], _, _ => rfl
  | _ :: _, 0, _ => rfl
  | a :: l, n + 1, K => by
    unfold hs_set1
    rw [hs_b_set1 g v l n]
    cases n <;> rfl
theorem hs_b_set2 {ρ ρ' : Type} (g : ρ → Option ρ') (v : hs_V) : ∀ (ls : hs_L) (i : Nat) (K : hs_L → Option ρ), (hs_set2 ls i v K).bind g = hs_set2 ls i v (fun l => (K l).bind g)
  | [], _, _ => rfl
  | [_], _, _ => rfl
  | _ :: _ :: _, 0, _ => rfl
  | a :: b :: l, n + 1, K => by
    unfold hs_set2
    rw [hs_b_set2 g v (b :: l) n]
    cases n <;> rfl
theorem hs_b_pop {ρ ρ' : Type} (g : ρ → Option ρ') : ∀ (n : Nat) (st as : List hs_V) (K : List hs_V → List hs_V → Option ρ), (hs_pop n st as K).bind g = hs_pop n st as (fun a s => (K a s).bind g)
  | 0, _, _, _ => rfl
  | _ + 1, [], _, _ => rfl
  | n + 1, v :: st, as, K => by
    unfold hs_pop
    rw [hs_b_pop g n st (v :: as) K]
theorem hs_b_tsw {ρ ρ' : Type} (g : ρ → Option ρ') (x : Int32) (pc : Nat) (dflt : Int) (k : Nat → Option ρ) : ∀ (l : List Int) (v : Int), (hs_tsw x pc dflt k v l).bind g = hs_tsw x pc dflt (fun t => (k t).bind g) v l
  | [], _ => rfl
  | a :: l, v => by
    unfold hs_tsw
    by_cases h : x = hs_ic v
    · rw [if_pos h, if_pos h]
    · rw [if_neg h, if_neg h, hs_b_tsw g x pc dflt k l (v + 1)]
theorem hs_b_lsw {ρ ρ' : Type} (g : ρ → Option ρ') (x : Int32) (pc : Nat) (dflt : Int) (k : Nat → Option ρ) : ∀ (l : List (Int × Int)), (hs_lsw x pc dflt k l).bind g = hs_lsw x pc dflt (fun t => (k t).bind g) l
  | [] => rfl
  | a :: l => by
    unfold hs_lsw
    by_cases h : x = hs_ic a.1
    · rw [if_pos h, if_pos h]
    · rw [if_neg h, if_neg h, hs_b_lsw g x pc dflt k l]
theorem hs_b_ite {ρ ρ' : Type} (g : ρ → Option ρ') {c : Prop} [Decidable c] (a b : Option ρ) : (if c then a else b).bind g = if c then a.bind g else b.bind g := by
  by_cases h : c
  · rw [if_pos h, if_pos h]
  · rw [if_neg h, if_neg h]
theorem hs_b_none {ρ ρ' : Type} (g : ρ → Option ρ') : (none : Option ρ).bind g = none := rfl
theorem hs_b_inv {ρ ρ' : Type} (g : ρ → Option ρ') (call : hs_C) (k : hs_T ρ) (ops : List Nat) (pc : Nat) (ls : hs_L) (st : List hs_V) (μ : hs_M) : (hs_inv call k ops pc ls st μ).bind g = hs_inv call (fun pc ls st μ => (k pc ls st μ).bind g) ops pc ls st μ := by
  unfold hs_inv
  split
  · rw [hs_b_pop]; simp only [hs_b_go8, hs_b_bV]
  · rw [hs_b_pop]; simp only [hs_b_go8, hs_b_bI]
  · rw [hs_b_pop]; simp only [hs_b_go8, hs_b_bL]
  · split
    · rw [hs_b_if, hs_b_ite]; rfl
    · rfl
  · rfl
theorem hs_b_txt {ρ ρ' : Type} (g : ρ → Option ρ') (k : hs_T ρ) (ops : List Nat) (pc : Nat) (ls : hs_L) (st : List hs_V) (μ : hs_M) : (hs_txt k ops pc ls st μ).bind g = hs_txt (fun pc ls st μ => (k pc ls st μ).bind g) ops pc ls st μ := by
  unfold hs_txt
  split
  · rw [hs_b_if]; split <;> rfl
  · rw [hs_b_if]
    split
    · rw [hs_b_ite]; rfl
    · rfl
  · rfl
set_option maxHeartbeats 4000000 in
theorem hs_b_step {ρ ρ' : Type} (g : ρ → Option ρ') (call : hs_C) (k done : hs_T ρ) (r : hs_R) (pc : Nat) (ls : hs_L) (st : List hs_V) (μ : hs_M) : (hs_step call k done r pc ls st μ).bind g = hs_step call (fun pc ls st μ => (k pc ls st μ).bind g) (fun pc ls st μ => (done pc ls st μ).bind g) r pc ls st μ := by
  obtain ⟨i, n, ops, mk⟩ := r
  cases i <;> simp only [hs_step, hs_b_gI, hs_b_gL, hs_b_gR, hs_b_set1, hs_b_none, hs_b_inv] <;> (repeat' split) <;> first | rfl | simp only [hs_b_set1, hs_b_set2, hs_b_if, hs_b_ite, hs_b_none, hs_b_tsw, hs_b_lsw, hs_b_txt, hs_b_inv]
end
section
/-! ===== the fuel-free run is a fixed point of the step; as far as the next of some places ===== -/
abbrev hs_Cf : Type := Nat × (hs_L × (List hs_V × hs_M))
def hs_nx (call : hs_C) (r : hs_R) (pc : Nat) (ls : hs_L) (st : List hs_V) (μ : hs_M) : Option (hs_Cf ⊕ hs_Cf) := hs_step call (fun pc ls st μ => some (.inl (pc, ls, st, μ))) (fun pc ls st μ => some (.inr (pc, ls, st, μ))) r pc ls st μ
def hs_gg {ρ : Type} (k done : hs_T ρ) : hs_Cf ⊕ hs_Cf → Option ρ
  | .inl c => k c.1 c.2.1 c.2.2.1 c.2.2.2
  | .inr c => done c.1 c.2.1 c.2.2.1 c.2.2.2
theorem hs_step_nx {ρ : Type} (call : hs_C) (k done : hs_T ρ) (r : hs_R) (pc : Nat) (ls : hs_L) (st : List hs_V) (μ : hs_M) : hs_step call k done r pc ls st μ = (hs_nx call r pc ls st μ).bind (hs_gg k done) := by
  unfold hs_nx
  rw [hs_b_step]
  rfl
theorem hs_run_s {ρ : Type} (code : hs_K) (call : hs_C) (done : hs_T ρ) (n : Nat) : hs_run code call done (n + 1) = hs_one code call (hs_run code call done n) done := rfl
theorem hs_one_mono {ρ : Type} {code : hs_K} {call : hs_C} {k k' done : hs_T ρ} (h : ∀ pc ls st μ r, k pc ls st μ = some r → k' pc ls st μ = some r) {pc : Nat} {ls : hs_L} {st : List hs_V} {μ : hs_M} {r : ρ} (e : hs_one code call k done pc ls st μ = some r) : hs_one code call k' done pc ls st μ = some r := by
  unfold hs_one at e ⊢
  cases ha : hs_at code pc with
  | none => rw [ha] at e; exact e
  | some row =>
    rw [ha] at e
    dsimp only at e ⊢
    rw [hs_step_nx] at e ⊢
    cases hx : hs_nx call row pc (hs_mask row.2.2.2 ls) st μ with
    | none => rw [hx] at e; exact e
    | some c =>
      rw [hx] at e
      rcases c with c | c
      · exact h _ _ _ _ _ e
      · exact e
theorem hs_run_mono {ρ : Type} {code : hs_K} {call : hs_C} {done : hs_T ρ} : ∀ (n : Nat) {pc : Nat} {ls : hs_L} {st : List hs_V} {μ : hs_M} {r : ρ}, hs_run code call done n pc ls st μ = some r → hs_run code call done (n + 1) pc ls st μ = some r
  | 0, _, _, _, _, _, h => by cases h
  | n + 1, pc, ls, st, μ, r, h => by
    rw [hs_run_s] at h ⊢
    exact hs_one_mono (fun pc ls st μ r => hs_run_mono n) h
theorem hs_lim_mono {ρ : Type} {g : Nat → Option ρ} (hm : ∀ n r, g n = some r → g (n + 1) = some r) {n : Nat} {r : ρ} (h : g n = some r) : ∀ k, g (n + k) = some r
  | 0 => h
  | k + 1 => hm _ _ (hs_lim_mono hm h k)
theorem hs_lim_some {ρ : Type} {g : Nat → Option ρ} (hm : ∀ n r, g n = some r → g (n + 1) = some r) {n : Nat} {r : ρ} (h : g n = some r) : hs_lim g = some r := by
  have hx : ∃ n, (g n).isSome = true := ⟨n, by rw [h]; rfl⟩
  unfold hs_lim
  rw [dif_pos hx]
  obtain ⟨v, hv⟩ := Option.isSome_iff_exists.mp hx.choose_spec
  have h1 := hs_lim_mono hm hv n
  have h2 := hs_lim_mono hm h hx.choose
  rw [Nat.add_comm] at h1
  rw [hv]
  exact h1.symm.trans h2
theorem hs_lim_ex {ρ : Type} {g : Nat → Option ρ} {r : ρ} (h : hs_lim g = some r) : ∃ n, g n = some r := by
  unfold hs_lim at h
  by_cases hx : ∃ n, (g n).isSome = true
  · rw [dif_pos hx] at h
    exact ⟨_, h⟩
  · rw [dif_neg hx] at h
    cases h
theorem hs_lim_eq {ρ : Type} {g h : Nat → Option ρ} (hg : ∀ n r, g n = some r → g (n + 1) = some r) (hh : ∀ n r, h n = some r → h (n + 1) = some r) (a : ∀ n r, g n = some r → ∃ m, h m = some r) (b : ∀ n r, h n = some r → ∃ m, g m = some r) : hs_lim g = hs_lim h := by
  cases e : hs_lim g with
  | some r =>
    obtain ⟨n, hn⟩ := hs_lim_ex e
    obtain ⟨m, hm⟩ := a n r hn
    exact (hs_lim_some hh hm).symm
  | none =>
    cases e2 : hs_lim h with
    | none => rfl
    | some r =>
      obtain ⟨n, hn⟩ := hs_lim_ex e2
      obtain ⟨m, hm⟩ := b n r hn
      rw [hs_lim_some hg hm] at e
      cases e
theorem hs_evW_eq {ρ : Type} (code : hs_K) (call : hs_C) (done : hs_T ρ) (pc : Nat) (ls : hs_L) (st : List hs_V) (μ : hs_M) : hs_evW code call done pc ls st μ = hs_one code call (hs_evW code call done) done pc ls st μ := by
  have hm : ∀ (pc : Nat) (ls : hs_L) (st : List hs_V) (μ : hs_M) (n : Nat) (r : ρ), hs_run code call done n pc ls st μ = some r → hs_run code call done (n + 1) pc ls st μ = some r := fun _ _ _ _ n _ h => hs_run_mono n h
  cases e : hs_evW code call done pc ls st μ with
  | some r =>
    obtain ⟨n, hn⟩ := hs_lim_ex e
    have h1 := hs_run_mono n hn
    rw [hs_run_s] at h1
    exact (hs_one_mono (fun pc ls st μ r h => hs_lim_some (hm pc ls st μ) h) h1).symm
  | none =>
    have all : ∀ n, hs_run code call done n pc ls st μ = none := by
      intro n
      cases h : hs_run code call done n pc ls st μ with
      | none => rfl
      | some r =>
        have := hs_lim_some (hm pc ls st μ) h
        unfold hs_evW at e
        rw [this] at e
        cases e
    unfold hs_one
    cases ha : hs_at code pc with
    | none => rfl
    | some row =>
      dsimp only
      rw [hs_step_nx]
      have all2 : ∀ n, (hs_nx call row pc (hs_mask row.2.2.2 ls) st μ).bind (hs_gg (hs_run code call done n) done) = none := by
        intro n
        have := all (n + 1)
        rw [hs_run_s] at this
        unfold hs_one at this
        rw [ha] at this
        dsimp only at this
        rw [hs_step_nx] at this
        exact this
      cases hx : hs_nx call row pc (hs_mask row.2.2.2 ls) st μ with
      | none => rfl
      | some c =>
        rw [hx] at all2
        rcases c with c | c
        · show none = hs_evW code call done c.1 c.2.1 c.2.2.1 c.2.2.2
          cases e3 : hs_evW code call done c.1 c.2.1 c.2.2.1 c.2.2.2 with
          | none => rfl
          | some r =>
            obtain ⟨n, hn⟩ := hs_lim_ex e3
            have := all2 n
            rw [show (some (Sum.inl c) : Option (hs_Cf ⊕ hs_Cf)).bind (hs_gg (hs_run code call done n) done) = hs_run code call done n c.1 c.2.1 c.2.2.1 c.2.2.2 from rfl, hn] at this
            cases this
        · exact (all2 0).symm
theorem hs_mask_mask : ∀ (m : List Bool) (l : hs_L), hs_mask m (hs_mask m l) = hs_mask m l
  | [], _ => rfl
  | _ :: _, [] => by cases ‹Bool› <;> rfl
  | true :: m, a :: l => by simp only [hs_mask, hs_mask_mask m l]
  | false :: m, a :: l => by simp only [hs_mask, hs_mask_mask m l]
theorem hs_evW_clean {ρ : Type} (code : hs_K) (call : hs_C) (done : hs_T ρ) (pc : Nat) (ls : hs_L) (st : List hs_V) (μ : hs_M) : hs_evW code call done pc (hs_clean code pc ls) st μ = hs_evW code call done pc ls st μ := by
  rw [hs_evW_eq, hs_evW_eq (ls := ls)]
  unfold hs_one hs_clean
  cases hs_at code pc with
  | none => rfl
  | some r => dsimp only; rw [hs_mask_mask]
theorem hs_evW_go {ρ : Type} (code : hs_K) (call : hs_C) (done : hs_T ρ) (stops : List Nat) : ∀ (n : Nat), hs_go code call stops (hs_evW code call done) done n = hs_evW code call done
  | 0 => rfl
  | n + 1 => by
    have ih := hs_evW_go code call done stops n
    funext pc ls st μ
    show hs_one code call (fun pc ls st μ => match hs_mem stops pc with
      | true => hs_evW code call done pc (hs_clean code pc ls) st μ
      | false => hs_go code call stops (hs_evW code call done) done n pc ls st μ) done pc ls st μ = _
    rw [hs_evW_eq, ih]
    congr 1
    funext pc ls st μ
    cases hs_mem stops pc with
    | true => exact hs_evW_clean code call done pc ls st μ
    | false => rfl
theorem hs_ev_go {d y : Nat} {code : hs_K} {ml rk : Nat} (hp : hs_prog y = (code, ml, rk)) (stops : List Nat) (n pc : Nat) (ls : hs_L) (st : List hs_V) (μ : hs_M) : hs_ev d y pc ls st μ = hs_go code (hs_call d) stops (hs_ev d y) (hs_fin rk) n pc ls st μ := by
  have h1 : hs_ev d y = hs_evW code (hs_call d) (hs_fin rk) := by
    unfold hs_ev
    rw [hp]
  rw [h1, hs_evW_go]
end
section
/-! ===== the calls by name ===== -/
noncomputable def hc_Int_bitCount (d : Nat) (x0 : Int32) (μ : hs_M) : Option (Option hs_V × hs_M) := hs_call d 0 [vI x0] μ
noncomputable def hc_Math_floorMod (d : Nat) (x0 : Int32) (x1 : Int32) (μ : hs_M) : Option (Option hs_V × hs_M) := hs_call d 1 [vI x0, vI x1] μ
noncomputable def hc_Math_max (d : Nat) (x0 : Int32) (x1 : Int32) (μ : hs_M) : Option (Option hs_V × hs_M) := hs_call d 2 [vI x0, vI x1] μ
noncomputable def hc_Math_min (d : Nat) (x0 : Int32) (x1 : Int32) (μ : hs_M) : Option (Option hs_V × hs_M) := hs_call d 3 [vI x0, vI x1] μ
noncomputable def hc_Future_run (d : Nat) (x1 : Int32) (x2 : Int32) (μ : hs_M) : Option (Option hs_V × hs_M) := hs_call d 4 [vR 0 0, vI x1, vI x2] μ
noncomputable def hc_Future_gain (d : Nat) (x1 : Int32) (μ : hs_M) : Option (Option hs_V × hs_M) := hs_call d 5 [vR 0 0, vI x1] μ
noncomputable def hc_Future_gainOfParty (d : Nat) (x1 : Int32) (μ : hs_M) : Option (Option hs_V × hs_M) := hs_call d 6 [vR 0 0, vI x1] μ
noncomputable def hc_Future_serverThen (d : Nat) (x1 : Int32) (μ : hs_M) : Option (Option hs_V × hs_M) := hs_call d 7 [vR 0 0, vI x1] μ
noncomputable def hc_Future_weeksTill (d : Nat) (x1 : Int32) (μ : hs_M) : Option (Option hs_V × hs_M) := hs_call d 8 [vR 0 0, vI x1] μ
noncomputable def hc_Future_reachable (d : Nat) (x1 : Int32) (μ : hs_M) : Option (Option hs_V × hs_M) := hs_call d 9 [vR 0 0, vI x1] μ
noncomputable def hc_Future_lightest (d : Nat) (x1 : Int32) (μ : hs_M) : Option (Option hs_V × hs_M) := hs_call d 10 [vR 0 0, vI x1] μ
noncomputable def hc_Future_heavierThan (d : Nat) (x1 : Int32) (μ : hs_M) : Option (Option hs_V × hs_M) := hs_call d 11 [vR 0 0, vI x1] μ
noncomputable def hc_Future_bestStanding (d : Nat) (x1 : Int32) (x2 : Int32) (μ : hs_M) : Option (Option hs_V × hs_M) := hs_call d 12 [vR 0 0, vI x1, vI x2] μ
noncomputable def hc_Future_search (d : Nat) (x1 : Int32) (x2 : Int32) (μ : hs_M) : Option (Option hs_V × hs_M) := hs_call d 13 [vR 0 0, vI x1, vI x2] μ
noncomputable def hc_Future_judge (d : Nat) (x1 : Int32) (x2 : Int32) (μ : hs_M) : Option (Option hs_V × hs_M) := hs_call d 14 [vR 0 0, vI x1, vI x2] μ
noncomputable def hc_Future_rounds (d : Nat) (x1 : Int32) (x2 : Int32) (μ : hs_M) : Option (Option hs_V × hs_M) := hs_call d 15 [vR 0 0, vI x1, vI x2] μ
noncomputable def hc_Future_someoneTurns (d : Nat) (x1 : Int32) (μ : hs_M) : Option (Option hs_V × hs_M) := hs_call d 16 [vR 0 0, vI x1] μ
noncomputable def hc_Future_bestReply (d : Nat) (x1 : Int32) (x2 : Int32) (μ : hs_M) : Option (Option hs_V × hs_M) := hs_call d 17 [vR 0 0, vI x1, vI x2] μ
noncomputable def hc_Future_weeksByPlans (d : Nat) (x1 : Int32) (x2 : Int32) (μ : hs_M) : Option (Option hs_V × hs_M) := hs_call d 18 [vR 0 0, vI x1, vI x2] μ
noncomputable def hc_Future_strongestParty (d : Nat) (x1 : Int32) (μ : hs_M) : Option (Option hs_V × hs_M) := hs_call d 19 [vR 0 0, vI x1] μ
noncomputable def hc_Future_gainers (d : Nat)  (μ : hs_M) : Option (Option hs_V × hs_M) := hs_call d 20 [vR 0 0] μ
noncomputable def hc_Future_takingTurns (d : Nat) (x1 : Int32) (x2 : Int32) (μ : hs_M) : Option (Option hs_V × hs_M) := hs_call d 21 [vR 0 0, vI x1, vI x2] μ
noncomputable def hc_Future_nextOf (d : Nat) (x0 : Int32) (x1 : Int32) (μ : hs_M) : Option (Option hs_V × hs_M) := hs_call d 22 [vI x0, vI x1] μ
noncomputable def hc_Future_foolsWorth (d : Nat) (x1 : Int32) (x2 : Int32) (μ : hs_M) : Option (Option hs_V × hs_M) := hs_call d 23 [vR 0 0, vI x1, vI x2] μ
noncomputable def hc_Future_tellChance (d : Nat) (x1 : Int32) (x2 : Int32) (μ : hs_M) : Option (Option hs_V × hs_M) := hs_call d 24 [vR 0 0, vI x1, vI x2] μ
noncomputable def hc_Future_chanceInTwo (d : Nat) (x1 : Int32) (μ : hs_M) : Option (Option hs_V × hs_M) := hs_call d 25 [vR 0 0, vI x1] μ
noncomputable def hc_Future_likeliest (d : Nat)  (μ : hs_M) : Option (Option hs_V × hs_M) := hs_call d 26 [vR 0 0] μ
noncomputable def hc_Office_pass (d : Nat) (j1 : Nat) (x2 : Int32) (x3 : Int32) (μ : hs_M) : Option (Option hs_V × hs_M) := hs_call d 27 [vR 1 0, vR 6 j1, vI x2, vI x3] μ
noncomputable def hc_Office_finish (d : Nat) (j1 : Nat) (x2 : Int32) (μ : hs_M) : Option (Option hs_V × hs_M) := hs_call d 28 [vR 1 0, vR 6 j1, vI x2] μ
noncomputable def hc_Office_winner (d : Nat) (j1 : Nat) (x2 : Int32) (x3 : Int32) (μ : hs_M) : Option (Option hs_V × hs_M) := hs_call d 29 [vR 1 0, vR 6 j1, vI x2, vI x3] μ
noncomputable def hc_Office_shownOfServer (d : Nat) (j1 : Nat) (μ : hs_M) : Option (Option hs_V × hs_M) := hs_call d 30 [vR 1 0, vR 6 j1] μ
noncomputable def hc_Office_shares (d : Nat) (j1 : Nat) (κ2 : Nat) (μ : hs_M) : Option (Option hs_V × hs_M) := hs_call d 31 [vR 1 0, vR 6 j1, vR κ2 0] μ
noncomputable def hc_Office_heavierWho (d : Nat) (j1 : Nat) (μ : hs_M) : Option (Option hs_V × hs_M) := hs_call d 32 [vR 1 0, vR 6 j1] μ
noncomputable def hc_Office_heaviestOf (d : Nat) (j1 : Nat) (x2 : Int32) (μ : hs_M) : Option (Option hs_V × hs_M) := hs_call d 33 [vR 1 0, vR 6 j1, vI x2] μ
noncomputable def hc_Pairs_append (d : Nat) (j0 : Nat) (x1 : Int32) (x2 : Int32) (μ : hs_M) : Option (Option hs_V × hs_M) := hs_call d 34 [vR 2 j0, vI x1, vI x2] μ
noncomputable def hc_Pairs_person (d : Nat) (j0 : Nat) (x1 : Int32) (μ : hs_M) : Option (Option hs_V × hs_M) := hs_call d 35 [vR 2 j0, vI x1] μ
noncomputable def hc_Pairs_value (d : Nat) (j0 : Nat) (x1 : Int32) (μ : hs_M) : Option (Option hs_V × hs_M) := hs_call d 36 [vR 2 j0, vI x1] μ
noncomputable def hc_Past_remember (d : Nat) (j1 : Nat) (μ : hs_M) : Option (Option hs_V × hs_M) := hs_call d 37 [vR 3 0, vR 6 j1] μ
noncomputable def hc_Past_stepBack (d : Nat) (j1 : Nat) (μ : hs_M) : Option (Option hs_V × hs_M) := hs_call d 38 [vR 3 0, vR 6 j1] μ
noncomputable def hc_Past_forgetSteps (d : Nat)  (μ : hs_M) : Option (Option hs_V × hs_M) := hs_call d 39 [vR 3 0] μ
noncomputable def hc_Past_keepAside (d : Nat) (x1 : Int32) (j2 : Nat) (x3 : Int32) (μ : hs_M) : Option (Option hs_V × hs_M) := hs_call d 40 [vR 3 0, vI x1, vR 6 j2, vI x3] μ
noncomputable def hc_Past_takeAgain (d : Nat) (x1 : Int32) (j2 : Nat) (x3 : Int32) (μ : hs_M) : Option (Option hs_V × hs_M) := hs_call d 41 [vR 3 0, vI x1, vR 6 j2, vI x3] μ
noncomputable def hc_Row_begin (d : Nat) (x1 : Int64) (μ : hs_M) : Option (Option hs_V × hs_M) := hs_call d 42 [vR 4 0, vL x1] μ
noncomputable def hc_Row_add (d : Nat) (x1 : Int64) (μ : hs_M) : Option (Option hs_V × hs_M) := hs_call d 43 [vR 4 0, vL x1] μ
noncomputable def hc_Row_range (d : Nat) (x1 : Int32) (x2 : Int32) (x3 : Int32) (μ : hs_M) : Option (Option hs_V × hs_M) := hs_call d 44 [vR 4 0, vI x1, vI x2, vI x3] μ
noncomputable def hc_Row_fraction (d : Nat) (x1 : Int64) (x3 : Int64) (μ : hs_M) : Option (Option hs_V × hs_M) := hs_call d 45 [vR 4 0, vL x1, vL x3] μ
noncomputable def hc_Row_commonDivisor (d : Nat) (x0 : Int64) (x2 : Int64) (μ : hs_M) : Option (Option hs_V × hs_M) := hs_call d 46 [vL x0, vL x2] μ
noncomputable def hc_Scale_shows (d : Nat) (x1 : Int32) (μ : hs_M) : Option (Option hs_V × hs_M) := hs_call d 47 [vR 5 0, vI x1] μ
noncomputable def hc_Scale_misfits (d : Nat) (j1 : Nat) (x3 : Int32) (μ : hs_M) : Option (Option hs_V × hs_M) := hs_call d 48 [vR 5 0, vR 2 j1, vR 24 0, vI x3] μ
noncomputable def hc_Scale_possibleGrains (d : Nat) (j1 : Nat) (x2 : Int32) (μ : hs_M) : Option (Option hs_V × hs_M) := hs_call d 49 [vR 5 0, vR 2 j1, vI x2] μ
noncomputable def hc_Scale_narrow (d : Nat) (j1 : Nat) (x2 : Int32) (x3 : Int32) (μ : hs_M) : Option (Option hs_V × hs_M) := hs_call d 50 [vR 5 0, vR 2 j1, vI x2, vI x3] μ
noncomputable def hc_Scale_narrowBy (d : Nat) (x1 : Int32) (x2 : Int32) (μ : hs_M) : Option (Option hs_V × hs_M) := hs_call d 51 [vR 5 0, vI x1, vI x2] μ
noncomputable def hc_State_follow (d : Nat) (j0 : Nat) (j1 : Nat) (μ : hs_M) : Option (Option hs_V × hs_M) := hs_call d 52 [vR 6 j0, vR 6 j1] μ
noncomputable def hc_State_copy (d : Nat) (j0 : Nat) (j1 : Nat) (μ : hs_M) : Option (Option hs_V × hs_M) := hs_call d 53 [vR 6 j0, vR 6 j1] μ
noncomputable def hc_State_welcome (d : Nat) (j0 : Nat) (x1 : Int32) (x2 : Int32) (μ : hs_M) : Option (Option hs_V × hs_M) := hs_call d 54 [vR 6 j0, vI x1, vI x2] μ
noncomputable def hc_State_lives (d : Nat) (j0 : Nat) (x1 : Int32) (μ : hs_M) : Option (Option hs_V × hs_M) := hs_call d 55 [vR 6 j0, vI x1] μ
noncomputable def hc_State_putWeight (d : Nat) (j0 : Nat) (x1 : Int32) (x2 : Int32) (μ : hs_M) : Option (Option hs_V × hs_M) := hs_call d 56 [vR 6 j0, vI x1, vI x2] μ
noncomputable def hc_State_makeLaw (d : Nat) (j0 : Nat) (μ : hs_M) : Option (Option hs_V × hs_M) := hs_call d 57 [vR 6 j0] μ
noncomputable def hc_State_dropLaws (d : Nat) (j0 : Nat) (μ : hs_M) : Option (Option hs_V × hs_M) := hs_call d 58 [vR 6 j0] μ
noncomputable def hc_State_bury (d : Nat) (j0 : Nat) (x1 : Int32) (μ : hs_M) : Option (Option hs_V × hs_M) := hs_call d 59 [vR 6 j0, vI x1] μ
noncomputable def hc_State_serveWeek (d : Nat) (j0 : Nat) (x1 : Int32) (μ : hs_M) : Option (Option hs_V × hs_M) := hs_call d 60 [vR 6 j0, vI x1] μ
noncomputable def hc_Text_append (d : Nat) (x1 : Int32) (μ : hs_M) : Option (Option hs_V × hs_M) := hs_call d 61 [vR 7 0, vI x1] μ
noncomputable def hc_Text_open (d : Nat) (x1 : Int32) (μ : hs_M) : Option (Option hs_V × hs_M) := hs_call d 62 [vR 7 0, vI x1] μ
noncomputable def hc_Text_signAt (d : Nat) (x1 : Int32) (μ : hs_M) : Option (Option hs_V × hs_M) := hs_call d 63 [vR 7 0, vI x1] μ
noncomputable def hc_Text_digitAt (d : Nat) (x1 : Int32) (μ : hs_M) : Option (Option hs_V × hs_M) := hs_call d 64 [vR 7 0, vI x1] μ
noncomputable def hc_Town_has (d : Nat) (x1 : Int32) (μ : hs_M) : Option (Option hs_V × hs_M) := hs_call d 65 [vR 8 0, vI x1] μ
noncomputable def hc_Town_everyone (d : Nat)  (μ : hs_M) : Option (Option hs_V × hs_M) := hs_call d 66 [vR 8 0] μ
noncomputable def hc_Town_ofParty (d : Nat) (x1 : Int32) (μ : hs_M) : Option (Option hs_V × hs_M) := hs_call d 67 [vR 8 0, vI x1] μ
noncomputable def hc_Town_arriving (d : Nat) (x1 : Int32) (μ : hs_M) : Option (Option hs_V × hs_M) := hs_call d 68 [vR 8 0, vI x1] μ
noncomputable def hc_Town_changeAt (d : Nat) (x1 : Int32) (x2 : Int32) (μ : hs_M) : Option (Option hs_V × hs_M) := hs_call d 69 [vR 8 0, vI x1, vI x2] μ
noncomputable def hc_Town_changeWeights (d : Nat) (j1 : Nat) (μ : hs_M) : Option (Option hs_V × hs_M) := hs_call d 70 [vR 8 0, vR 6 j1] μ
noncomputable def hc_Town_weightLater (d : Nat) (j1 : Nat) (x2 : Int32) (x3 : Int32) (μ : hs_M) : Option (Option hs_V × hs_M) := hs_call d 71 [vR 8 0, vR 6 j1, vI x2, vI x3] μ
noncomputable def hc_Town_copyPerson (d : Nat) (x1 : Int32) (x2 : Int32) (μ : hs_M) : Option (Option hs_V × hs_M) := hs_call d 72 [vR 8 0, vI x1, vI x2] μ
noncomputable def hc_Town_readLines (d : Nat)  (μ : hs_M) : Option (Option hs_V × hs_M) := hs_call d 73 [vR 8 0, vR 7 0] μ
noncomputable def hc_Town_readHabit (d : Nat) (x2 : Int32) (μ : hs_M) : Option (Option hs_V × hs_M) := hs_call d 74 [vR 8 0, vR 7 0, vI x2] μ
noncomputable def hc_Town_readLine (d : Nat) (x2 : Int32) (μ : hs_M) : Option (Option hs_V × hs_M) := hs_call d 75 [vR 8 0, vR 7 0, vI x2] μ
noncomputable def hc_Town_readWeight (d : Nat) (x2 : Int32) (μ : hs_M) : Option (Option hs_V × hs_M) := hs_call d 76 [vR 8 0, vR 7 0, vI x2] μ
noncomputable def hc_Town_readParty (d : Nat) (x2 : Int32) (μ : hs_M) : Option (Option hs_V × hs_M) := hs_call d 77 [vR 8 0, vR 7 0, vI x2] μ
noncomputable def hc_Town_readChanges (d : Nat)  (μ : hs_M) : Option (Option hs_V × hs_M) := hs_call d 78 [vR 8 0, vR 7 0] μ
noncomputable def hc_Town_isChangeSign (d : Nat) (x0 : Int32) (μ : hs_M) : Option (Option hs_V × hs_M) := hs_call d 79 [vI x0] μ
noncomputable def hc_Town_takeDraft (d : Nat) (x1 : Int32) (μ : hs_M) : Option (Option hs_V × hs_M) := hs_call d 80 [vR 8 0, vI x1] μ
noncomputable def hc_Trials_feast (d : Nat) (x1 : Int32) (x2 : Int32) (μ : hs_M) : Option (Option hs_V × hs_M) := hs_call d 81 [vR 9 0, vI x1, vI x2] μ
noncomputable def hc_Trials_cakesWorthTrying (d : Nat) (x1 : Int32) (μ : hs_M) : Option (Option hs_V × hs_M) := hs_call d 82 [vR 9 0, vI x1] μ
noncomputable def hc_Trials_cakesToStay (d : Nat) (x1 : Int32) (x2 : Int32) (μ : hs_M) : Option (Option hs_V × hs_M) := hs_call d 83 [vR 9 0, vI x1, vI x2] μ
noncomputable def hc_Trials_cakesToServe (d : Nat) (x1 : Int32) (x2 : Int32) (μ : hs_M) : Option (Option hs_V × hs_M) := hs_call d 84 [vR 9 0, vI x1, vI x2] μ
noncomputable def hc_Trials_ouncesToMiss (d : Nat) (x1 : Int32) (x2 : Int32) (μ : hs_M) : Option (Option hs_V × hs_M) := hs_call d 85 [vR 9 0, vI x1, vI x2] μ
noncomputable def hc_Trials_leastFed (d : Nat)  (μ : hs_M) : Option (Option hs_V × hs_M) := hs_call d 86 [vR 9 0] μ
noncomputable def hc_Trials_cakesForNextWeek (d : Nat) (x1 : Int32) (x2 : Int32) (μ : hs_M) : Option (Option hs_V × hs_M) := hs_call d 87 [vR 9 0, vI x1, vI x2] μ
noncomputable def hc_Trials_gather (d : Nat) (j1 : Nat) (μ : hs_M) : Option (Option hs_V × hs_M) := hs_call d 88 [vR 9 0, vR 2 j1] μ
noncomputable def hc_Trials_comesAsDue (d : Nat) (x1 : Int32) (μ : hs_M) : Option (Option hs_V × hs_M) := hs_call d 89 [vR 9 0, vI x1] μ
noncomputable def hc_Trials_explainingWeights (d : Nat) (j1 : Nat) (x2 : Int32) (μ : hs_M) : Option (Option hs_V × hs_M) := hs_call d 90 [vR 9 0, vR 2 j1, vI x2] μ
noncomputable def hc_Trials_explainingAbsences (d : Nat) (j1 : Nat) (μ : hs_M) : Option (Option hs_V × hs_M) := hs_call d 91 [vR 9 0, vR 2 j1] μ
noncomputable def hc_Will_read (d : Nat)  (μ : hs_M) : Option (Option hs_V × hs_M) := hs_call d 92 [vR 10 0, vR 7 0] μ
noncomputable def hc_Will_readLevel (d : Nat) (x2 : Int32) (x3 : Int32) (μ : hs_M) : Option (Option hs_V × hs_M) := hs_call d 93 [vR 10 0, vR 7 0, vI x2, vI x3] μ
noncomputable def hc_Will_levelOf (d : Nat) (x0 : Int32) (μ : hs_M) : Option (Option hs_V × hs_M) := hs_call d 94 [vI x0] μ
noncomputable def hc_Will_readThing (d : Nat) (x2 : Int32) (μ : hs_M) : Option (Option hs_V × hs_M) := hs_call d 95 [vR 10 0, vR 7 0, vI x2] μ
noncomputable def hc_Will_readBracket (d : Nat) (x2 : Int32) (μ : hs_M) : Option (Option hs_V × hs_M) := hs_call d 96 [vR 10 0, vR 7 0, vI x2] μ
noncomputable def hc_Will_readNumber (d : Nat)  (μ : hs_M) : Option (Option hs_V × hs_M) := hs_call d 97 [vR 10 0, vR 7 0] μ
noncomputable def hc_Will_emit (d : Nat) (x1 : Int32) (μ : hs_M) : Option (Option hs_V × hs_M) := hs_call d 98 [vR 10 0, vI x1] μ
noncomputable def hc_Will_isFact (d : Nat) (x0 : Int32) (μ : hs_M) : Option (Option hs_V × hs_M) := hs_call d 99 [vI x0] μ
noncomputable def hc_Will_value (d : Nat) (j1 : Nat) (x3 : Int32) (μ : hs_M) : Option (Option hs_V × hs_M) := hs_call d 100 [vR 10 0, vR 6 j1, vR 8 0, vI x3] μ
noncomputable def hc_Will_combine (d : Nat) (x0 : Int32) (x1 : Int32) (x2 : Int32) (μ : hs_M) : Option (Option hs_V × hs_M) := hs_call d 101 [vI x0, vI x1, vI x2] μ
noncomputable def hc_Will_fact (d : Nat) (x0 : Int32) (j1 : Nat) (x3 : Int32) (μ : hs_M) : Option (Option hs_V × hs_M) := hs_call d 102 [vI x0, vR 6 j1, vR 8 0, vI x3] μ
noncomputable def hc_H_sign (d : Nat) (x1 : Int32) (μ : hs_M) : Option (Option hs_V × hs_M) := hs_call d 103 [vR 11 0, vI x1] μ
noncomputable def hc_H_end (d : Nat) (x1 : Int32) (μ : hs_M) : Option (Option hs_V × hs_M) := hs_call d 104 [vR 11 0, vI x1] μ
noncomputable def hc_H_town (d : Nat)  (μ : hs_M) : Option (Option hs_V × hs_M) := hs_call d 105 [vR 11 0] μ
noncomputable def hc_H_will (d : Nat)  (μ : hs_M) : Option (Option hs_V × hs_M) := hs_call d 106 [vR 11 0] μ
noncomputable def hc_H_habit (d : Nat) (x1 : Int32) (μ : hs_M) : Option (Option hs_V × hs_M) := hs_call d 107 [vR 11 0, vI x1] μ
noncomputable def hc_H_of (d : Nat) (x1 : Int32) (x2 : Int32) (μ : hs_M) : Option (Option hs_V × hs_M) := hs_call d 108 [vR 11 0, vI x1, vI x2] μ
noncomputable def hc_H_change (d : Nat) (x1 : Int32) (x2 : Int32) (μ : hs_M) : Option (Option hs_V × hs_M) := hs_call d 109 [vR 11 0, vI x1, vI x2] μ
noncomputable def hc_H_set (d : Nat) (x1 : Int32) (x2 : Int32) (x3 : Int32) (μ : hs_M) : Option (Option hs_V × hs_M) := hs_call d 110 [vR 11 0, vI x1, vI x2, vI x3] μ
noncomputable def hc_H_scale (d : Nat) (x1 : Int32) (x2 : Int32) (μ : hs_M) : Option (Option hs_V × hs_M) := hs_call d 111 [vR 11 0, vI x1, vI x2] μ
noncomputable def hc_H_sheet (d : Nat) (x1 : Int32) (x2 : Int32) (x3 : Int32) (x4 : Int32) (μ : hs_M) : Option (Option hs_V × hs_M) := hs_call d 112 [vR 11 0, vI x1, vI x2, vI x3, vI x4] μ
noncomputable def hc_H_stand (d : Nat) (x1 : Int32) (μ : hs_M) : Option (Option hs_V × hs_M) := hs_call d 113 [vR 11 0, vI x1] μ
noncomputable def hc_H_weeks (d : Nat) (x1 : Int32) (μ : hs_M) : Option (Option hs_V × hs_M) := hs_call d 114 [vR 11 0, vI x1] μ
noncomputable def hc_H_year (d : Nat)  (μ : hs_M) : Option (Option hs_V × hs_M) := hs_call d 115 [vR 11 0] μ
noncomputable def hc_H_law (d : Nat)  (μ : hs_M) : Option (Option hs_V × hs_M) := hs_call d 116 [vR 11 0] μ
noncomputable def hc_H_laws (d : Nat) (x1 : Int32) (x2 : Int32) (μ : hs_M) : Option (Option hs_V × hs_M) := hs_call d 117 [vR 11 0, vI x1, vI x2] μ
noncomputable def hc_H_feed (d : Nat) (x1 : Int32) (x2 : Int32) (μ : hs_M) : Option (Option hs_V × hs_M) := hs_call d 118 [vR 11 0, vI x1, vI x2] μ
noncomputable def hc_H_fast (d : Nat) (x1 : Int32) (x2 : Int32) (μ : hs_M) : Option (Option hs_V × hs_M) := hs_call d 119 [vR 11 0, vI x1, vI x2] μ
noncomputable def hc_H_dies (d : Nat) (x1 : Int32) (μ : hs_M) : Option (Option hs_V × hs_M) := hs_call d 120 [vR 11 0, vI x1] μ
noncomputable def hc_H_undo (d : Nat)  (μ : hs_M) : Option (Option hs_V × hs_M) := hs_call d 121 [vR 11 0] μ
noncomputable def hc_H_served (d : Nat) (x1 : Int32) (μ : hs_M) : Option (Option hs_V × hs_M) := hs_call d 122 [vR 11 0, vI x1] μ
noncomputable def hc_H_later (d : Nat) (x1 : Int32) (x2 : Int32) (μ : hs_M) : Option (Option hs_V × hs_M) := hs_call d 123 [vR 11 0, vI x1, vI x2] μ
noncomputable def hc_H_then (d : Nat) (x1 : Int32) (μ : hs_M) : Option (Option hs_V × hs_M) := hs_call d 124 [vR 11 0, vI x1] μ
noncomputable def hc_H_soonest (d : Nat) (x1 : Int32) (μ : hs_M) : Option (Option hs_V × hs_M) := hs_call d 125 [vR 11 0, vI x1] μ
noncomputable def hc_H_ever (d : Nat) (x1 : Int32) (μ : hs_M) : Option (Option hs_V × hs_M) := hs_call d 126 [vR 11 0, vI x1] μ
noncomputable def hc_H_most (d : Nat) (x1 : Int32) (x2 : Int32) (μ : hs_M) : Option (Option hs_V × hs_M) := hs_call d 127 [vR 11 0, vI x1, vI x2] μ
noncomputable def hc_H_rests (d : Nat) (x1 : Int32) (x2 : Int32) (μ : hs_M) : Option (Option hs_V × hs_M) := hs_call d 128 [vR 11 0, vI x1, vI x2] μ
noncomputable def hc_H_party (d : Nat) (x1 : Int32) (μ : hs_M) : Option (Option hs_V × hs_M) := hs_call d 129 [vR 11 0, vI x1] μ
noncomputable def hc_H_byTurns (d : Nat) (x1 : Int32) (x2 : Int32) (μ : hs_M) : Option (Option hs_V × hs_M) := hs_call d 130 [vR 11 0, vI x1, vI x2] μ
noncomputable def hc_H_fool (d : Nat) (x1 : Int32) (x2 : Int32) (μ : hs_M) : Option (Option hs_V × hs_M) := hs_call d 131 [vR 11 0, vI x1, vI x2] μ
noncomputable def hc_H_hold (d : Nat) (x1 : Int32) (μ : hs_M) : Option (Option hs_V × hs_M) := hs_call d 132 [vR 11 0, vI x1] μ
noncomputable def hc_H_bribe (d : Nat) (x1 : Int32) (x2 : Int32) (μ : hs_M) : Option (Option hs_V × hs_M) := hs_call d 133 [vR 11 0, vI x1, vI x2] μ
noncomputable def hc_H_starve (d : Nat) (x1 : Int32) (x2 : Int32) (μ : hs_M) : Option (Option hs_V × hs_M) := hs_call d 134 [vR 11 0, vI x1, vI x2] μ
noncomputable def hc_H_cheapest (d : Nat)  (μ : hs_M) : Option (Option hs_V × hs_M) := hs_call d 135 [vR 11 0] μ
noncomputable def hc_H_weighed (d : Nat) (x1 : Int32) (x2 : Int32) (μ : hs_M) : Option (Option hs_V × hs_M) := hs_call d 136 [vR 11 0, vI x1, vI x2] μ
noncomputable def hc_H_forget (d : Nat)  (μ : hs_M) : Option (Option hs_V × hs_M) := hs_call d 137 [vR 11 0] μ
noncomputable def hc_H_grains (d : Nat)  (μ : hs_M) : Option (Option hs_V × hs_M) := hs_call d 138 [vR 11 0] μ
noncomputable def hc_H_span (d : Nat) (x1 : Int32) (μ : hs_M) : Option (Option hs_V × hs_M) := hs_call d 139 [vR 11 0, vI x1] μ
noncomputable def hc_H_offs (d : Nat)  (μ : hs_M) : Option (Option hs_V × hs_M) := hs_call d 140 [vR 11 0] μ
noncomputable def hc_H_cheats (d : Nat)  (μ : hs_M) : Option (Option hs_V × hs_M) := hs_call d 141 [vR 11 0] μ
noncomputable def hc_H_told (d : Nat) (x1 : Int32) (x2 : Int32) (μ : hs_M) : Option (Option hs_V × hs_M) := hs_call d 142 [vR 11 0, vI x1, vI x2] μ
noncomputable def hc_H_wipe (d : Nat)  (μ : hs_M) : Option (Option hs_V × hs_M) := hs_call d 143 [vR 11 0] μ
noncomputable def hc_H_explains (d : Nat) (x1 : Int32) (μ : hs_M) : Option (Option hs_V × hs_M) := hs_call d 144 [vR 11 0, vI x1] μ
noncomputable def hc_H_absent (d : Nat)  (μ : hs_M) : Option (Option hs_V × hs_M) := hs_call d 145 [vR 11 0] μ
noncomputable def hc_H_twin (d : Nat) (x1 : Int32) (μ : hs_M) : Option (Option hs_V × hs_M) := hs_call d 146 [vR 11 0, vI x1] μ
noncomputable def hc_H_odds (d : Nat) (x1 : Int32) (x2 : Int32) (μ : hs_M) : Option (Option hs_V × hs_M) := hs_call d 147 [vR 11 0, vI x1, vI x2] μ
noncomputable def hc_H_likely (d : Nat)  (μ : hs_M) : Option (Option hs_V × hs_M) := hs_call d 148 [vR 11 0] μ
noncomputable def hc_H_keep (d : Nat) (x1 : Int32) (μ : hs_M) : Option (Option hs_V × hs_M) := hs_call d 149 [vR 11 0, vI x1] μ
noncomputable def hc_H_again (d : Nat) (x1 : Int32) (μ : hs_M) : Option (Option hs_V × hs_M) := hs_call d 150 [vR 11 0, vI x1] μ
noncomputable def hc_H_count (d : Nat) (x1 : Int32) (μ : hs_M) : Option (Option hs_V × hs_M) := hs_call d 151 [vR 11 0, vI x1] μ
noncomputable def hc_H_row (d : Nat) (x1 : Int32) (μ : hs_M) : Option (Option hs_V × hs_M) := hs_call d 152 [vR 11 0, vI x1] μ
noncomputable def hc_H_isThere (d : Nat) (x1 : Int32) (μ : hs_M) : Option (Option hs_V × hs_M) := hs_call d 153 [vR 11 0, vI x1] μ
noncomputable def hc_H_exchange (d : Nat) (κ0 : Nat) (x1 : Int32) (x2 : Int32) (μ : hs_M) : Option (Option hs_V × hs_M) := hs_call d 154 [vR κ0 0, vI x1, vI x2] μ
noncomputable def hc_H_inBounds (d : Nat) (x0 : Int32) (μ : hs_M) : Option (Option hs_V × hs_M) := hs_call d 155 [vI x0] μ
noncomputable def hc_H_asKind (d : Nat) (x0 : Int32) (x1 : Int32) (μ : hs_M) : Option (Option hs_V × hs_M) := hs_call d 156 [vI x0, vI x1] μ
noncomputable def hc_H_eat (d : Nat) (x1 : Int32) (x2 : Int32) (x3 : Int32) (μ : hs_M) : Option (Option hs_V × hs_M) := hs_call d 157 [vR 11 0, vI x1, vI x2, vI x3] μ
noncomputable def hc_H_passWeek (d : Nat) (x1 : Int32) (x2 : Int32) (μ : hs_M) : Option (Option hs_V × hs_M) := hs_call d 158 [vR 11 0, vI x1, vI x2] μ
noncomputable def hc_H_yearFault (d : Nat)  (μ : hs_M) : Option (Option hs_V × hs_M) := hs_call d 159 [vR 11 0] μ
noncomputable def hc_H_passYear (d : Nat)  (μ : hs_M) : Option (Option hs_V × hs_M) := hs_call d 160 [vR 11 0] μ
noncomputable def hc_M_thrown (d : Nat)  (μ : hs_M) : Option (Option hs_V × hs_M) := hs_call d 161 [vR 12 0] μ
noncomputable def hc_M_refuse (d : Nat)  (μ : hs_M) : Option (Option hs_V × hs_M) := hs_call d 162 [vR 12 0] μ
noncomputable def hc_M_in (d : Nat) (x0 : Int64) (x2 : Int64) (x4 : Int64) (μ : hs_M) : Option (Option hs_V × hs_M) := hs_call d 163 [vL x0, vL x2, vL x4] μ
noncomputable def hc_M_has (d : Nat) (x0 : Int32) (x1 : Int32) (μ : hs_M) : Option (Option hs_V × hs_M) := hs_call d 164 [vI x0, vI x1] μ
noncomputable def hc_M_flag (d : Nat) (x0 : Int32) (μ : hs_M) : Option (Option hs_V × hs_M) := hs_call d 165 [vI x0] μ
noncomputable def hc_M_common (d : Nat) (x0 : Int64) (x2 : Int64) (μ : hs_M) : Option (Option hs_V × hs_M) := hs_call d 166 [vL x0, vL x2] μ
noncomputable def hc_M_enters (d : Nat) (x1 : Int64) (μ : hs_M) : Option (Option hs_V × hs_M) := hs_call d 167 [vR 12 0, vL x1] μ
noncomputable def hc_M_entersFraction (d : Nat) (x1 : Int64) (x3 : Int64) (μ : hs_M) : Option (Option hs_V × hs_M) := hs_call d 168 [vR 12 0, vL x1, vL x3] μ
noncomputable def hc_M_isPerson (d : Nat) (x1 : Int32) (μ : hs_M) : Option (Option hs_V × hs_M) := hs_call d 169 [vR 12 0, vI x1] μ
noncomputable def hc_M_isAlive (d : Nat) (x1 : Int32) (μ : hs_M) : Option (Option hs_V × hs_M) := hs_call d 170 [vR 12 0, vI x1] μ
noncomputable def hc_M_sign (d : Nat) (x1 : Int32) (μ : hs_M) : Option (Option hs_V × hs_M) := hs_call d 171 [vR 12 0, vI x1] μ
noncomputable def hc_M_end (d : Nat) (x1 : Int32) (μ : hs_M) : Option (Option hs_V × hs_M) := hs_call d 172 [vR 12 0, vI x1] μ
noncomputable def hc_M_begins (d : Nat) (x1 : Int32) (μ : hs_M) : Option (Option hs_V × hs_M) := hs_call d 173 [vR 12 0, vI x1] μ
noncomputable def hc_M_takes (d : Nat) (x1 : Int32) (μ : hs_M) : Option (Option hs_V × hs_M) := hs_call d 174 [vR 12 0, vI x1] μ
noncomputable def hc_M_isDigit (d : Nat)  (μ : hs_M) : Option (Option hs_V × hs_M) := hs_call d 175 [vR 12 0] μ
noncomputable def hc_M_number (d : Nat) (x1 : Int32) (μ : hs_M) : Option (Option hs_V × hs_M) := hs_call d 176 [vR 12 0, vI x1] μ
noncomputable def hc_M_among (d : Nat) (j1 : Nat) (μ : hs_M) : Option (Option hs_V × hs_M) := hs_call d 177 [vR 12 0, vR 90 j1] μ
noncomputable def hc_M_faultOf (d : Nat) (x1 : Int32) (x2 : Int32) (x3 : Int32) (μ : hs_M) : Option (Option hs_V × hs_M) := hs_call d 178 [vR 12 0, vI x1, vI x2, vI x3] μ
noncomputable def hc_M_readsHabit (d : Nat) (x1 : Int32) (μ : hs_M) : Option (Option hs_V × hs_M) := hs_call d 179 [vR 12 0, vI x1] μ
noncomputable def hc_M_readsPerson (d : Nat)  (μ : hs_M) : Option (Option hs_V × hs_M) := hs_call d 180 [vR 12 0] μ
noncomputable def hc_M_town (d : Nat)  (μ : hs_M) : Option (Option hs_V × hs_M) := hs_call d 181 [vR 12 0] μ
noncomputable def hc_M_comes (d : Nat) (x1 : Int32) (x2 : Int32) (μ : hs_M) : Option (Option hs_V × hs_M) := hs_call d 182 [vR 12 0, vI x1, vI x2] μ
noncomputable def hc_M_putsHabit (d : Nat) (x1 : Int32) (x2 : Int32) (μ : hs_M) : Option (Option hs_V × hs_M) := hs_call d 183 [vR 12 0, vI x1, vI x2] μ
noncomputable def hc_M_habit (d : Nat) (x1 : Int32) (μ : hs_M) : Option (Option hs_V × hs_M) := hs_call d 184 [vR 12 0, vI x1] μ
noncomputable def hc_M_codes (d : Nat) (x1 : Int32) (μ : hs_M) : Option (Option hs_V × hs_M) := hs_call d 185 [vR 12 0, vI x1] μ
noncomputable def hc_M_readsThing (d : Nat)  (μ : hs_M) : Option (Option hs_V × hs_M) := hs_call d 186 [vR 12 0] μ
noncomputable def hc_M_readsRank (d : Nat) (x1 : Int32) (μ : hs_M) : Option (Option hs_V × hs_M) := hs_call d 187 [vR 12 0, vI x1] μ
noncomputable def hc_M_will (d : Nat)  (μ : hs_M) : Option (Option hs_V × hs_M) := hs_call d 188 [vR 12 0] μ
noncomputable def hc_M_holding (d : Nat) (κ1 : Nat) (μ : hs_M) : Option (Option hs_V × hs_M) := hs_call d 189 [vR 12 0, vR κ1 0] μ
noncomputable def hc_M_thingOf (d : Nat) (κ1 : Nat) (x2 : Int32) (x3 : Int32) (μ : hs_M) : Option (Option hs_V × hs_M) := hs_call d 190 [vR 12 0, vR κ1 0, vI x2, vI x3] μ
noncomputable def hc_M_worked (d : Nat) (x0 : Int32) (x1 : Int32) (x2 : Int32) (μ : hs_M) : Option (Option hs_V × hs_M) := hs_call d 191 [vI x0, vI x1, vI x2] μ
noncomputable def hc_M_willOf (d : Nat) (κ1 : Nat) (x2 : Int32) (μ : hs_M) : Option (Option hs_V × hs_M) := hs_call d 192 [vR 12 0, vR κ1 0, vI x2] μ
noncomputable def hc_M_willing (d : Nat) (κ1 : Nat) (μ : hs_M) : Option (Option hs_V × hs_M) := hs_call d 193 [vR 12 0, vR κ1 0] μ
noncomputable def hc_M_shows (d : Nat) (x1 : Int32) (μ : hs_M) : Option (Option hs_V × hs_M) := hs_call d 194 [vR 12 0, vI x1] μ
noncomputable def hc_M_of (d : Nat) (x1 : Int32) (x2 : Int32) (μ : hs_M) : Option (Option hs_V × hs_M) := hs_call d 195 [vR 12 0, vI x1, vI x2] μ
noncomputable def hc_M_change (d : Nat) (x1 : Int32) (x2 : Int32) (μ : hs_M) : Option (Option hs_V × hs_M) := hs_call d 196 [vR 12 0, vI x1, vI x2] μ
noncomputable def hc_M_set (d : Nat) (x1 : Int32) (x2 : Int32) (x3 : Int32) (μ : hs_M) : Option (Option hs_V × hs_M) := hs_call d 197 [vR 12 0, vI x1, vI x2, vI x3] μ
noncomputable def hc_M_scale (d : Nat) (x1 : Int32) (x2 : Int32) (μ : hs_M) : Option (Option hs_V × hs_M) := hs_call d 198 [vR 12 0, vI x1, vI x2] μ
noncomputable def hc_M_sheet (d : Nat) (x1 : Int32) (x2 : Int32) (x3 : Int32) (x4 : Int32) (μ : hs_M) : Option (Option hs_V × hs_M) := hs_call d 199 [vR 12 0, vI x1, vI x2, vI x3, vI x4] μ
noncomputable def hc_M_goes (d : Nat) (κ1 : Nat) (x2 : Int32) (μ : hs_M) : Option (Option hs_V × hs_M) := hs_call d 200 [vR 12 0, vR κ1 0, vI x2] μ
noncomputable def hc_M_falls (d : Nat) (κ1 : Nat) (μ : hs_M) : Option (Option hs_V × hs_M) := hs_call d 201 [vR 12 0, vR κ1 0] μ
noncomputable def hc_M_puts (d : Nat) (κ1 : Nat) (μ : hs_M) : Option (Option hs_V × hs_M) := hs_call d 202 [vR 45 0, vR κ1 0] μ
noncomputable def hc_M_putsBy (d : Nat)  (μ : hs_M) : Option (Option hs_V × hs_M) := hs_call d 203 [vR 12 0] μ
noncomputable def hc_M_undo (d : Nat)  (μ : hs_M) : Option (Option hs_V × hs_M) := hs_call d 204 [vR 12 0] μ
noncomputable def hc_M_stand (d : Nat) (x1 : Int32) (μ : hs_M) : Option (Option hs_V × hs_M) := hs_call d 205 [vR 12 0, vI x1] μ
noncomputable def hc_M_weeks (d : Nat) (x1 : Int32) (μ : hs_M) : Option (Option hs_V × hs_M) := hs_call d 206 [vR 12 0, vI x1] μ
noncomputable def hc_M_readsWeek (d : Nat)  (μ : hs_M) : Option (Option hs_V × hs_M) := hs_call d 207 [vR 12 0] μ
noncomputable def hc_M_year (d : Nat)  (μ : hs_M) : Option (Option hs_V × hs_M) := hs_call d 208 [vR 12 0] μ
noncomputable def hc_M_law (d : Nat)  (μ : hs_M) : Option (Option hs_V × hs_M) := hs_call d 209 [vR 12 0] μ
noncomputable def hc_M_laws (d : Nat) (x1 : Int32) (x2 : Int32) (μ : hs_M) : Option (Option hs_V × hs_M) := hs_call d 210 [vR 12 0, vI x1, vI x2] μ
noncomputable def hc_M_eats (d : Nat) (x1 : Int32) (x2 : Int32) (μ : hs_M) : Option (Option hs_V × hs_M) := hs_call d 211 [vR 12 0, vI x1, vI x2] μ
noncomputable def hc_M_feed (d : Nat) (x1 : Int32) (x2 : Int32) (μ : hs_M) : Option (Option hs_V × hs_M) := hs_call d 212 [vR 12 0, vI x1, vI x2] μ
noncomputable def hc_M_fast (d : Nat) (x1 : Int32) (x2 : Int32) (μ : hs_M) : Option (Option hs_V × hs_M) := hs_call d 213 [vR 12 0, vI x1, vI x2] μ
noncomputable def hc_M_dies (d : Nat) (x1 : Int32) (μ : hs_M) : Option (Option hs_V × hs_M) := hs_call d 214 [vR 12 0, vI x1] μ
noncomputable def hc_M_served (d : Nat) (x1 : Int32) (μ : hs_M) : Option (Option hs_V × hs_M) := hs_call d 215 [vR 12 0, vI x1] μ
noncomputable def hc_M_starts (d : Nat)  (μ : hs_M) : Option (Option hs_V × hs_M) := hs_call d 216 [vR 12 0] μ
noncomputable def hc_M_goesNext (d : Nat) (x1 : Int32) (μ : hs_M) : Option (Option hs_V × hs_M) := hs_call d 217 [vR 12 0, vI x1] μ
noncomputable def hc_M_goesBy (d : Nat) (x1 : Int32) (x2 : Int32) (μ : hs_M) : Option (Option hs_V × hs_M) := hs_call d 218 [vR 12 0, vI x1, vI x2] μ
noncomputable def hc_M_areWeeks (d : Nat) (x0 : Int32) (μ : hs_M) : Option (Option hs_V × hs_M) := hs_call d 219 [vI x0] μ
noncomputable def hc_M_later (d : Nat) (x1 : Int32) (x2 : Int32) (μ : hs_M) : Option (Option hs_V × hs_M) := hs_call d 220 [vR 12 0, vI x1, vI x2] μ
noncomputable def hc_M_then (d : Nat) (x1 : Int32) (μ : hs_M) : Option (Option hs_V × hs_M) := hs_call d 221 [vR 12 0, vI x1] μ
noncomputable def hc_M_soonest (d : Nat) (x1 : Int32) (μ : hs_M) : Option (Option hs_V × hs_M) := hs_call d 222 [vR 12 0, vI x1] μ
noncomputable def hc_M_ever (d : Nat) (x1 : Int32) (μ : hs_M) : Option (Option hs_V × hs_M) := hs_call d 223 [vR 12 0, vI x1] μ
noncomputable def hc_M_most (d : Nat) (x1 : Int32) (x2 : Int32) (μ : hs_M) : Option (Option hs_V × hs_M) := hs_call d 224 [vR 12 0, vI x1, vI x2] μ
noncomputable def hc_M_byPlans (d : Nat) (x1 : Int32) (x2 : Int32) (μ : hs_M) : Option (Option hs_V × hs_M) := hs_call d 225 [vR 12 0, vI x1, vI x2] μ
noncomputable def hc_M_plans (d : Nat) (x1 : Int32) (x2 : Int32) (μ : hs_M) : Option (Option hs_V × hs_M) := hs_call d 226 [vR 12 0, vI x1, vI x2] μ
noncomputable def hc_M_rests (d : Nat) (x1 : Int32) (x2 : Int32) (μ : hs_M) : Option (Option hs_V × hs_M) := hs_call d 227 [vR 12 0, vI x1, vI x2] μ
noncomputable def hc_M_servedBy (d : Nat) (x1 : Int32) (μ : hs_M) : Option (Option hs_V × hs_M) := hs_call d 228 [vR 12 0, vI x1] μ
noncomputable def hc_M_party (d : Nat) (x1 : Int32) (μ : hs_M) : Option (Option hs_V × hs_M) := hs_call d 229 [vR 12 0, vI x1] μ
noncomputable def hc_M_byTurns (d : Nat) (x1 : Int32) (x2 : Int32) (μ : hs_M) : Option (Option hs_V × hs_M) := hs_call d 230 [vR 12 0, vI x1, vI x2] μ
noncomputable def hc_M_fool (d : Nat) (x1 : Int32) (x2 : Int32) (μ : hs_M) : Option (Option hs_V × hs_M) := hs_call d 231 [vR 12 0, vI x1, vI x2] μ
noncomputable def hc_M_areSixty (d : Nat) (x0 : Int32) (μ : hs_M) : Option (Option hs_V × hs_M) := hs_call d 232 [vI x0] μ
noncomputable def hc_M_startsWith (d : Nat) (x1 : Int32) (x2 : Int32) (μ : hs_M) : Option (Option hs_V × hs_M) := hs_call d 233 [vR 12 0, vI x1, vI x2] μ
noncomputable def hc_M_hold (d : Nat) (x1 : Int32) (μ : hs_M) : Option (Option hs_V × hs_M) := hs_call d 234 [vR 12 0, vI x1] μ
noncomputable def hc_M_bribe (d : Nat) (x1 : Int32) (x2 : Int32) (μ : hs_M) : Option (Option hs_V × hs_M) := hs_call d 235 [vR 12 0, vI x1, vI x2] μ
noncomputable def hc_M_starve (d : Nat) (x1 : Int32) (x2 : Int32) (μ : hs_M) : Option (Option hs_V × hs_M) := hs_call d 236 [vR 12 0, vI x1, vI x2] μ
noncomputable def hc_M_cheapest (d : Nat)  (μ : hs_M) : Option (Option hs_V × hs_M) := hs_call d 237 [vR 12 0] μ
noncomputable def hc_M_weighed (d : Nat) (x1 : Int32) (x2 : Int32) (μ : hs_M) : Option (Option hs_V × hs_M) := hs_call d 238 [vR 12 0, vI x1, vI x2] μ
noncomputable def hc_M_forget (d : Nat)  (μ : hs_M) : Option (Option hs_V × hs_M) := hs_call d 239 [vR 12 0] μ
noncomputable def hc_M_canBe (d : Nat) (x1 : Int32) (x2 : Int32) (μ : hs_M) : Option (Option hs_V × hs_M) := hs_call d 240 [vR 12 0, vI x1, vI x2] μ
noncomputable def hc_M_weightsOf (d : Nat) (x1 : Int32) (x2 : Int32) (μ : hs_M) : Option (Option hs_V × hs_M) := hs_call d 241 [vR 12 0, vI x1, vI x2] μ
noncomputable def hc_M_tellsSpan (d : Nat) (x1 : Int32) (x2 : Int32) (x3 : Int32) (μ : hs_M) : Option (Option hs_V × hs_M) := hs_call d 242 [vR 12 0, vI x1, vI x2, vI x3] μ
noncomputable def hc_M_grains (d : Nat)  (μ : hs_M) : Option (Option hs_V × hs_M) := hs_call d 243 [vR 12 0] μ
noncomputable def hc_M_span (d : Nat) (x1 : Int32) (μ : hs_M) : Option (Option hs_V × hs_M) := hs_call d 244 [vR 12 0, vI x1] μ
noncomputable def hc_M_wrong (d : Nat)  (μ : hs_M) : Option (Option hs_V × hs_M) := hs_call d 245 [vR 12 0] μ
noncomputable def hc_M_offs (d : Nat)  (μ : hs_M) : Option (Option hs_V × hs_M) := hs_call d 246 [vR 12 0] μ
noncomputable def hc_M_cheats (d : Nat)  (μ : hs_M) : Option (Option hs_V × hs_M) := hs_call d 247 [vR 12 0] μ
noncomputable def hc_M_told (d : Nat) (x1 : Int32) (x2 : Int32) (μ : hs_M) : Option (Option hs_V × hs_M) := hs_call d 248 [vR 12 0, vI x1, vI x2] μ
noncomputable def hc_M_wipe (d : Nat)  (μ : hs_M) : Option (Option hs_V × hs_M) := hs_call d 249 [vR 12 0] μ
noncomputable def hc_M_isSo (d : Nat) (x1 : Int32) (μ : hs_M) : Option (Option hs_V × hs_M) := hs_call d 250 [vR 12 0, vI x1] μ
noncomputable def hc_M_explains (d : Nat) (x1 : Int32) (μ : hs_M) : Option (Option hs_V × hs_M) := hs_call d 251 [vR 12 0, vI x1] μ
noncomputable def hc_M_absent (d : Nat)  (μ : hs_M) : Option (Option hs_V × hs_M) := hs_call d 252 [vR 12 0] μ
noncomputable def hc_M_twin (d : Nat) (x1 : Int32) (μ : hs_M) : Option (Option hs_V × hs_M) := hs_call d 253 [vR 12 0, vI x1] μ
noncomputable def hc_M_oddsOf (d : Nat) (κ1 : Nat) (κ2 : Nat) (μ : hs_M) : Option (Option hs_V × hs_M) := hs_call d 254 [vR 12 0, vR κ1 0, vR κ2 0] μ
noncomputable def hc_M_odds (d : Nat) (x1 : Int32) (x2 : Int32) (μ : hs_M) : Option (Option hs_V × hs_M) := hs_call d 255 [vR 12 0, vI x1, vI x2] μ
noncomputable def hc_M_likely (d : Nat)  (μ : hs_M) : Option (Option hs_V × hs_M) := hs_call d 256 [vR 12 0] μ
noncomputable def hc_M_keep (d : Nat) (x1 : Int32) (μ : hs_M) : Option (Option hs_V × hs_M) := hs_call d 257 [vR 12 0, vI x1] μ
noncomputable def hc_M_again (d : Nat) (x1 : Int32) (μ : hs_M) : Option (Option hs_V × hs_M) := hs_call d 258 [vR 12 0, vI x1] μ
noncomputable def hc_M_lawsThatHold (d : Nat)  (μ : hs_M) : Option (Option hs_V × hs_M) := hs_call d 259 [vR 12 0] μ
noncomputable def hc_M_count (d : Nat) (x1 : Int32) (μ : hs_M) : Option (Option hs_V × hs_M) := hs_call d 260 [vR 12 0, vI x1] μ
noncomputable def hc_M_row (d : Nat) (x1 : Int32) (μ : hs_M) : Option (Option hs_V × hs_M) := hs_call d 261 [vR 12 0, vI x1] μ
end
section
/-! ===== the equations of the methods, 1 ===== -/
theorem hp_Int_bitCount : hs_prog 0 = (hs_k0, 1, 1) := rfl
set_option maxRecDepth 100000 in
theorem hq_Int_bitCount (d : Nat) (x0 : Int32) (μ : hs_M)  : hc_Int_bitCount (d + 1) x0 μ =
  some (some (vI ((((((((x0 - (((x0.toUInt32 >>> ((1 : Int32).toUInt32 &&& Int32.toUInt32 31)).toInt32) &&& (1431655765 : Int32))) &&& (858993459 : Int32)) + ((((x0 - (((x0.toUInt32 >>> ((1 : Int32).toUInt32 &&& Int32.toUInt32 31)).toInt32) &&& (1431655765 : Int32))).toUInt32 >>> ((2 : Int32).toUInt32 &&& Int32.toUInt32 31)).toInt32) &&& (858993459 : Int32))) + (((((x0 - (((x0.toUInt32 >>> ((1 : Int32).toUInt32 &&& Int32.toUInt32 31)).toInt32) &&& (1431655765 : Int32))) &&& (858993459 : Int32)) + ((((x0 - (((x0.toUInt32 >>> ((1 : Int32).toUInt32 &&& Int32.toUInt32 31)).toInt32) &&& (1431655765 : Int32))).toUInt32 >>> ((2 : Int32).toUInt32 &&& Int32.toUInt32 31)).toInt32) &&& (858993459 : Int32))).toUInt32 >>> ((4 : Int32).toUInt32 &&& Int32.toUInt32 31)).toInt32)) &&& (252645135 : Int32)) + (((((((x0 - (((x0.toUInt32 >>> ((1 : Int32).toUInt32 &&& Int32.toUInt32 31)).toInt32) &&& (1431655765 : Int32))) &&& (858993459 : Int32)) + ((((x0 - (((x0.toUInt32 >>> ((1 : Int32).toUInt32 &&& Int32.toUInt32 31)).toInt32) &&& (1431655765 : Int32))).toUInt32 >>> ((2 : Int32).toUInt32 &&& Int32.toUInt32 31)).toInt32) &&& (858993459 : Int32))) + (((((x0 - (((x0.toUInt32 >>> ((1 : Int32).toUInt32 &&& Int32.toUInt32 31)).toInt32) &&& (1431655765 : Int32))) &&& (858993459 : Int32)) + ((((x0 - (((x0.toUInt32 >>> ((1 : Int32).toUInt32 &&& Int32.toUInt32 31)).toInt32) &&& (1431655765 : Int32))).toUInt32 >>> ((2 : Int32).toUInt32 &&& Int32.toUInt32 31)).toInt32) &&& (858993459 : Int32))).toUInt32 >>> ((4 : Int32).toUInt32 &&& Int32.toUInt32 31)).toInt32)) &&& (252645135 : Int32)).toUInt32 >>> ((8 : Int32).toUInt32 &&& Int32.toUInt32 31)).toInt32)) + ((((((((x0 - (((x0.toUInt32 >>> ((1 : Int32).toUInt32 &&& Int32.toUInt32 31)).toInt32) &&& (1431655765 : Int32))) &&& (858993459 : Int32)) + ((((x0 - (((x0.toUInt32 >>> ((1 : Int32).toUInt32 &&& Int32.toUInt32 31)).toInt32) &&& (1431655765 : Int32))).toUInt32 >>> ((2 : Int32).toUInt32 &&& Int32.toUInt32 31)).toInt32) &&& (858993459 : Int32))) + (((((x0 - (((x0.toUInt32 >>> ((1 : Int32).toUInt32 &&& Int32.toUInt32 31)).toInt32) &&& (1431655765 : Int32))) &&& (858993459 : Int32)) + ((((x0 - (((x0.toUInt32 >>> ((1 : Int32).toUInt32 &&& Int32.toUInt32 31)).toInt32) &&& (1431655765 : Int32))).toUInt32 >>> ((2 : Int32).toUInt32 &&& Int32.toUInt32 31)).toInt32) &&& (858993459 : Int32))).toUInt32 >>> ((4 : Int32).toUInt32 &&& Int32.toUInt32 31)).toInt32)) &&& (252645135 : Int32)) + (((((((x0 - (((x0.toUInt32 >>> ((1 : Int32).toUInt32 &&& Int32.toUInt32 31)).toInt32) &&& (1431655765 : Int32))) &&& (858993459 : Int32)) + ((((x0 - (((x0.toUInt32 >>> ((1 : Int32).toUInt32 &&& Int32.toUInt32 31)).toInt32) &&& (1431655765 : Int32))).toUInt32 >>> ((2 : Int32).toUInt32 &&& Int32.toUInt32 31)).toInt32) &&& (858993459 : Int32))) + (((((x0 - (((x0.toUInt32 >>> ((1 : Int32).toUInt32 &&& Int32.toUInt32 31)).toInt32) &&& (1431655765 : Int32))) &&& (858993459 : Int32)) + ((((x0 - (((x0.toUInt32 >>> ((1 : Int32).toUInt32 &&& Int32.toUInt32 31)).toInt32) &&& (1431655765 : Int32))).toUInt32 >>> ((2 : Int32).toUInt32 &&& Int32.toUInt32 31)).toInt32) &&& (858993459 : Int32))).toUInt32 >>> ((4 : Int32).toUInt32 &&& Int32.toUInt32 31)).toInt32)) &&& (252645135 : Int32)).toUInt32 >>> ((8 : Int32).toUInt32 &&& Int32.toUInt32 31)).toInt32)).toUInt32 >>> ((16 : Int32).toUInt32 &&& Int32.toUInt32 31)).toInt32)) &&& (63 : Int32))), μ) := by exact (hs_ev_go hp_Int_bitCount [] 45 0 _ [] μ).trans rfl
theorem hp_Math_floorMod : hs_prog 1 = (hs_k1, 3, 1) := rfl
set_option maxRecDepth 100000 in
theorem hq_Math_floorMod (d : Nat) (x0 : Int32) (x1 : Int32) (μ : hs_M)  : hc_Math_floorMod (d + 1) x0 x1 μ =
  (if x1 = 0 then none else (if (x0 ^^^ x1) < 0 then (if (x0 - x0 / x1 * x1) = 0 then some (some (vI (x0 - x0 / x1 * x1)), μ) else some (some (vI ((x0 - x0 / x1 * x1) + x1)), μ)) else some (some (vI (x0 - x0 / x1 * x1)), μ))) := by exact (hs_ev_go hp_Math_floorMod [] 19 0 _ [] μ).trans rfl
theorem hp_Math_max : hs_prog 2 = (hs_k2, 2, 1) := rfl
set_option maxRecDepth 100000 in
theorem hq_Math_max (d : Nat) (x0 : Int32) (x1 : Int32) (μ : hs_M)  : hc_Math_max (d + 1) x0 x1 μ =
  (if x0 < x1 then some (some (vI x1), μ) else some (some (vI x0), μ)) := by exact (hs_ev_go hp_Math_max [] 10 0 _ [] μ).trans rfl
theorem hp_Math_min : hs_prog 3 = (hs_k3, 2, 1) := rfl
set_option maxRecDepth 100000 in
theorem hq_Math_min (d : Nat) (x0 : Int32) (x1 : Int32) (μ : hs_M)  : hc_Math_min (d + 1) x0 x1 μ =
  (if x1 < x0 then some (some (vI x1), μ) else some (some (vI x0), μ)) := by exact (hs_ev_go hp_Math_min [] 10 0 _ [] μ).trans rfl
noncomputable def he_Future_run_13 (d : Nat) (x1 : Int32) (x2 : Int32) (x3 : Int32) (μ : hs_M) : Option (Option hs_V × hs_M) := hs_ev d 4 13 [some (vR 0 0), some (vI x1), some (vI x2), some (vI x3)] [] μ
theorem hp_Future_run : hs_prog 4 = (hs_k4, 4, 0) := rfl
set_option maxRecDepth 100000 in
theorem hq_Future_run (d : Nat) (x1 : Int32) (x2 : Int32) (μ : hs_M)  : hc_Future_run (d + 1) x1 x2 μ =
  hs_bV (hc_State_follow d 35 0 μ) (fun μ1 => he_Future_run_13 d x1 x2 (0 : Int32) μ1) := by exact (hs_ev_go hp_Future_run [13] 23 0 _ [] μ).trans rfl
set_option maxRecDepth 100000 in
theorem hq_Future_run_13 (d : Nat) (x1 : Int32) (x2 : Int32) (x3 : Int32) (μ : hs_M)  : he_Future_run_13 d x1 x2 x3 μ =
  (if x3 < x1 then hs_bV (hc_Office_pass d 35 (0 : Int32) x2 μ) (fun μ1 => he_Future_run_13 d x1 x2 (x3 + (1 : Int32)) μ1) else some (none, μ)) := by exact (hs_ev_go hp_Future_run [13] 23 13 _ [] μ).trans rfl
theorem hp_Future_gain : hs_prog 5 = (hs_k5, 2, 1) := rfl
set_option maxRecDepth 100000 in
theorem hq_Future_gain (d : Nat) (x1 : Int32) (μ : hs_M)  : hc_Future_gain (d + 1) x1 μ =
  (if hs_in x1 8 then (if hs_in x1 8 then some (some (vI ((μ.1 25 35 (x1.toNatClampNeg)) - (μ.1 25 0 (x1.toNatClampNeg)))), μ) else none) else none) := by exact (hs_ev_go hp_Future_gain [] 15 0 _ [] μ).trans rfl
noncomputable def he_Future_gainOfParty_4 (d : Nat) (x1 : Int32) (x2 : Int32) (x3 : Int32) (μ : hs_M) : Option (Option hs_V × hs_M) := hs_ev d 6 4 [some (vR 0 0), some (vI x1), some (vI x2), some (vI x3)] [] μ
theorem hp_Future_gainOfParty : hs_prog 6 = (hs_k6, 4, 1) := rfl
set_option maxRecDepth 100000 in
theorem hq_Future_gainOfParty (d : Nat) (x1 : Int32) (μ : hs_M)  : hc_Future_gainOfParty (d + 1) x1 μ =
  he_Future_gainOfParty_4 d x1 (0 : Int32) (0 : Int32) μ := by exact (hs_ev_go hp_Future_gainOfParty [4] 29 0 _ [] μ).trans rfl
set_option maxRecDepth 100000 in
theorem hq_Future_gainOfParty_4 (d : Nat) (x1 : Int32) (x2 : Int32) (x3 : Int32) (μ : hs_M)  : he_Future_gainOfParty_4 d x1 x2 x3 μ =
  (if x3 < (μ.1 8 0 9) then (if hs_in x3 8 then (if (μ.1 15 0 (x3.toNatClampNeg)) = x1 then hs_bI (hc_Future_gain d x3 μ) (fun r1 μ1 => he_Future_gainOfParty_4 d x1 (x2 + r1) (x3 + (1 : Int32)) μ1) else he_Future_gainOfParty_4 d x1 x2 (x3 + (1 : Int32)) μ) else none) else some (some (vI x2), μ)) := by exact (hs_ev_go hp_Future_gainOfParty [4] 29 4 _ [] μ).trans rfl
noncomputable def he_Future_serverThen_18 (d : Nat) (x2 : Int32) (μ : hs_M) : Option (Option hs_V × hs_M) := hs_ev d 7 18 [some (vR 0 0), none, some (vI x2)] [] μ
theorem hp_Future_serverThen : hs_prog 7 = (hs_k7, 3, 1) := rfl
set_option maxRecDepth 100000 in
theorem hq_Future_serverThen (d : Nat) (x1 : Int32) (μ : hs_M)  : hc_Future_serverThen (d + 1) x1 μ =
  hs_bV (hc_Future_run d x1 (255 : Int32) μ) (fun μ1 => he_Future_serverThen_18 d (0 : Int32) (hs_wI μ1 4 0 1 (0 : Int32))) := by exact (hs_ev_go hp_Future_serverThen [18] 31 0 _ [] μ).trans rfl
set_option maxRecDepth 100000 in
theorem hq_Future_serverThen_18 (d : Nat) (x2 : Int32) (μ : hs_M)  : he_Future_serverThen_18 d x2 μ =
  (if x2 < (μ.1 8 0 9) then hs_bI (hc_Future_gain d x2 μ) (fun r1 μ1 => hs_bV (hc_Row_add d (r1.toInt64) μ1) (fun μ2 => he_Future_serverThen_18 d (x2 + (1 : Int32)) μ2)) else some (some (vI (μ.1 6 35 1)), μ)) := by exact (hs_ev_go hp_Future_serverThen [18] 31 18 _ [] μ).trans rfl
noncomputable def he_Future_weeksTill_13 (d : Nat) (x1 : Int32) (x2 : Int32) (μ : hs_M) : Option (Option hs_V × hs_M) := hs_ev d 8 13 [some (vR 0 0), some (vI x1), some (vI x2)] [] μ
theorem hp_Future_weeksTill : hs_prog 8 = (hs_k8, 3, 1) := rfl
set_option maxRecDepth 100000 in
theorem hq_Future_weeksTill (d : Nat) (x1 : Int32) (μ : hs_M)  : hc_Future_weeksTill (d + 1) x1 μ =
  hs_bV (hc_State_follow d 35 0 μ) (fun μ1 => he_Future_weeksTill_13 d x1 (1 : Int32) μ1) := by exact (hs_ev_go hp_Future_weeksTill [13] 31 0 _ [] μ).trans rfl
set_option maxRecDepth 100000 in
theorem hq_Future_weeksTill_13 (d : Nat) (x1 : Int32) (x2 : Int32) (μ : hs_M)  : he_Future_weeksTill_13 d x1 x2 μ =
  (if (99 : Int32) < x2 then some (some (vI (-2 : Int32)), μ) else hs_bV (hc_Office_pass d 35 (0 : Int32) (255 : Int32) μ) (fun μ1 => (if (μ1.1 6 35 1) = x1 then some (some (vI x2), μ1) else he_Future_weeksTill_13 d x1 (x2 + (1 : Int32)) μ1))) := by exact (hs_ev_go hp_Future_weeksTill [13] 31 13 _ [] μ).trans rfl
noncomputable def he_Future_reachable_45 (d : Nat) (x1 : Int32) (x2 : Int32) (x3 : Int32) (x4 : Int32) (x5 : Int32) (μ : hs_M) : Option (Option hs_V × hs_M) := hs_ev d 9 45 [some (vR 0 0), some (vI x1), some (vI x2), some (vI x3), some (vI x4), some (vI x5)] [] μ
theorem hp_Future_reachable : hs_prog 9 = (hs_k9, 6, 1) := rfl
set_option maxRecDepth 100000 in
theorem hq_Future_reachable (d : Nat) (x1 : Int32) (μ : hs_M)  : hc_Future_reachable (d + 1) x1 μ =
  (if (μ.1 6 0 1) < 0 then hs_bV (hc_State_follow d 35 0 μ) (fun μ1 => he_Future_reachable_45 d x1 (0 : Int32) (0 : Int32) (256 : Int32) (0 : Int32) μ1) else hs_bV (hc_State_follow d 35 0 μ) (fun μ2 => he_Future_reachable_45 d x1 (0 : Int32) (0 : Int32) ((1 : Int32) <<< ((μ.1 6 0 1) &&& 31)) (0 : Int32) μ2)) := by exact (hs_ev_go hp_Future_reachable [45] 61 0 _ [] μ).trans rfl
set_option maxRecDepth 100000 in
theorem hq_Future_reachable_45 (d : Nat) (x1 : Int32) (x2 : Int32) (x3 : Int32) (x4 : Int32) (x5 : Int32) (μ : hs_M)  : he_Future_reachable_45 d x1 x2 x3 x4 x5 μ =
  (if x5 < x1 then hs_bI (hc_Future_lightest d x4 μ) (fun r1 μ1 => hs_bI (hc_Future_heavierThan d r1 μ1) (fun r2 μ2 => hs_bV (hc_Office_pass d 35 (0 : Int32) (0 : Int32) μ2) (fun μ3 => he_Future_reachable_45 d x1 (x2 ||| ((x4 ||| r2) &&& (255 : Int32))) ((x4 ||| r2) &&& (255 : Int32)) (x4 ||| r2) (x5 + (1 : Int32)) μ3))) else hs_bV (hc_Row_begin d (x3.toInt64) μ) (fun μ4 => some (some (vI x2), μ4))) := by exact (hs_ev_go hp_Future_reachable [45] 61 45 _ [] μ).trans rfl
noncomputable def he_Future_lightest_15 (d : Nat) (x1 : Int32) (x2 : Int32) (x3 : Int32) (μ : hs_M) : Option (Option hs_V × hs_M) := hs_ev d 10 15 [some (vR 0 0), some (vI x1), some (vI x2), some (vI x3)] [] μ
theorem hp_Future_lightest : hs_prog 10 = (hs_k10, 4, 1) := rfl
set_option maxRecDepth 100000 in
theorem hq_Future_lightest (d : Nat) (x1 : Int32) (μ : hs_M)  : hc_Future_lightest (d + 1) x1 μ =
  (if (x1 &&& (256 : Int32)) = 0 then he_Future_lightest_15 d x1 (2147483647 : Int32) (0 : Int32) μ else some (some (vI (-1 : Int32)), μ)) := by exact (hs_ev_go hp_Future_lightest [15] 40 0 _ [] μ).trans rfl
set_option maxRecDepth 100000 in
theorem hq_Future_lightest_15 (d : Nat) (x1 : Int32) (x2 : Int32) (x3 : Int32) (μ : hs_M)  : he_Future_lightest_15 d x1 x2 x3 μ =
  (if x3 < (μ.1 8 0 9) then (if ((x1 >>> (x3 &&& 31)) &&& (1 : Int32)) = 0 then he_Future_lightest_15 d x1 x2 (x3 + (1 : Int32)) μ else (if hs_in x3 8 then hs_bI (hc_Scale_shows d (μ.1 24 35 (x3.toNatClampNeg)) μ) (fun r1 μ1 => hs_bI (hc_Math_min d x2 r1 μ1) (fun r2 μ2 => he_Future_lightest_15 d x1 r2 (x3 + (1 : Int32)) μ2)) else none)) else some (some (vI x2), μ)) := by exact (hs_ev_go hp_Future_lightest [15] 40 15 _ [] μ).trans rfl
noncomputable def he_Future_heavierThan_4 (d : Nat) (x1 : Int32) (x2 : Int32) (x3 : Int32) (μ : hs_M) : Option (Option hs_V × hs_M) := hs_ev d 11 4 [some (vR 0 0), some (vI x1), some (vI x2), some (vI x3)] [] μ
theorem hp_Future_heavierThan : hs_prog 11 = (hs_k11, 4, 1) := rfl
set_option maxRecDepth 100000 in
theorem hq_Future_heavierThan (d : Nat) (x1 : Int32) (μ : hs_M)  : hc_Future_heavierThan (d + 1) x1 μ =
  he_Future_heavierThan_4 d x1 (0 : Int32) (0 : Int32) μ := by exact (hs_ev_go hp_Future_heavierThan [4] 38 0 _ [] μ).trans rfl
set_option maxRecDepth 100000 in
theorem hq_Future_heavierThan_4 (d : Nat) (x1 : Int32) (x2 : Int32) (x3 : Int32) (μ : hs_M)  : he_Future_heavierThan_4 d x1 x2 x3 μ =
  (if x3 < (μ.1 8 0 9) then hs_bI (hc_State_lives d 35 x3 μ) (fun r1 μ1 => (if r1 = 0 then he_Future_heavierThan_4 d x1 x2 (x3 + (1 : Int32)) μ1 else (if hs_in x3 8 then hs_bI (hc_Scale_shows d (μ1.1 24 35 (x3.toNatClampNeg)) μ1) (fun r2 μ2 => (if x1 < r2 then he_Future_heavierThan_4 d x1 (x2 ||| ((1 : Int32) <<< (x3 &&& 31))) (x3 + (1 : Int32)) μ2 else he_Future_heavierThan_4 d x1 x2 (x3 + (1 : Int32)) μ2)) else none))) else some (some (vI x2), μ)) := by exact (hs_ev_go hp_Future_heavierThan [4] 38 4 _ [] μ).trans rfl
theorem hp_Future_bestStanding : hs_prog 12 = (hs_k12, 3, 1) := rfl
set_option maxRecDepth 100000 in
theorem hq_Future_bestStanding (d : Nat) (x1 : Int32) (x2 : Int32) (μ : hs_M)  : hc_Future_bestStanding (d + 1) x1 x2 μ =
  hs_bV (hc_State_follow d 24 0 (hs_wI (hs_wI (hs_wI (hs_wI μ 0 0 9 x1) 0 0 10 x2) 0 0 11 (-1 : Int32)) 0 0 12 (0 : Int32))) (fun μ1 => hs_bV (hc_Future_search d (0 : Int32) (0 : Int32) μ1) (fun μ2 => hs_bV (hc_Row_begin d ((μ2.1 0 0 12).toInt64) μ2) (fun μ3 => some (some (vI (μ3.1 0 0 11)), μ3)))) := by exact (hs_ev_go hp_Future_bestStanding [] 35 0 _ [] μ).trans rfl
theorem hp_Future_search : hs_prog 13 = (hs_k13, 7, 0) := rfl
set_option maxRecDepth 100000 in
theorem hq_Future_search (d : Nat) (x1 : Int32) (x2 : Int32) (μ : hs_M)  : hc_Future_search (d + 1) x1 x2 μ =
  (if x1 < 0 then some (none, μ) else (if (μ.1 0 0 10) < x1 then some (none, μ) else (if (10 : Int32) < x1 then some (none, μ) else (if hs_in x1 11 then (if hs_in (μ.1 0 0 9) 8 then (if hs_in (μ.1 0 0 9) 8 then (if ((((μ.1 25 (24 + x1.toNatClampNeg) ((μ.1 0 0 9).toNatClampNeg)) - (μ.1 25 0 ((μ.1 0 0 9).toNatClampNeg))) + (μ.1 0 0 10)) - x1) < (μ.1 0 0 11) then some (none, μ) else (if x1 = (μ.1 0 0 10) then hs_bV (hc_Future_judge d ((μ.1 25 (24 + x1.toNatClampNeg) ((μ.1 0 0 9).toNatClampNeg)) - (μ.1 25 0 ((μ.1 0 0 9).toNatClampNeg))) x2 μ) (fun μ1 => some (none, μ1)) else (if x1 = (10 : Int32) then hs_bV (hc_Future_judge d ((μ.1 25 (24 + x1.toNatClampNeg) ((μ.1 0 0 9).toNatClampNeg)) - (μ.1 25 0 ((μ.1 0 0 9).toNatClampNeg))) x2 μ) (fun μ2 => some (none, μ2)) else (if hs_in (x1 + (1 : Int32)) 11 then (if (μ.1 6 (24 + x1.toNatClampNeg) 1) = (μ.1 0 0 9) then hs_bV (hc_State_follow d (24 + (x1 + (1 : Int32)).toNatClampNeg) (24 + x1.toNatClampNeg) μ) (fun μ3 => hs_bV (hc_Office_pass d (24 + (x1 + (1 : Int32)).toNatClampNeg) (0 : Int32) ((255 : Int32) &&& (((1 : Int32) <<< ((μ.1 0 0 9) &&& 31)) ^^^ (-1 : Int32))) μ3) (fun μ4 => hs_bV (hc_Future_search d (x1 + (1 : Int32)) x2 μ4) (fun μ5 => some (none, μ5)))) else hs_bI (hc_Office_winner d (24 + x1.toNatClampNeg) ((1 : Int32) <<< ((μ.1 0 0 9) &&& 31)) ((255 : Int32) &&& (((1 : Int32) <<< ((μ.1 0 0 9) &&& 31)) ^^^ (-1 : Int32))) μ) (fun r6 μ6 => (if r6 = (μ6.1 0 0 9) then hs_bV (hc_State_follow d (24 + (x1 + (1 : Int32)).toNatClampNeg) (24 + x1.toNatClampNeg) μ6) (fun μ7 => hs_bV (hc_Office_finish d (24 + (x1 + (1 : Int32)).toNatClampNeg) (μ7.1 0 0 9) μ7) (fun μ8 => hs_bV (hc_Future_search d (x1 + (1 : Int32)) (x2 ||| ((1 : Int32) <<< (x1 &&& 31))) μ8) (fun μ9 => hs_bV (hc_State_follow d (24 + (x1 + (1 : Int32)).toNatClampNeg) (24 + x1.toNatClampNeg) μ9) (fun μ10 => hs_bV (hc_Office_pass d (24 + (x1 + (1 : Int32)).toNatClampNeg) (0 : Int32) ((255 : Int32) &&& (((1 : Int32) <<< ((μ.1 0 0 9) &&& 31)) ^^^ (-1 : Int32))) μ10) (fun μ11 => hs_bV (hc_Future_search d (x1 + (1 : Int32)) x2 μ11) (fun μ12 => some (none, μ12))))))) else hs_bV (hc_State_follow d (24 + (x1 + (1 : Int32)).toNatClampNeg) (24 + x1.toNatClampNeg) μ6) (fun μ13 => hs_bV (hc_Office_pass d (24 + (x1 + (1 : Int32)).toNatClampNeg) (0 : Int32) ((255 : Int32) &&& (((1 : Int32) <<< ((μ.1 0 0 9) &&& 31)) ^^^ (-1 : Int32))) μ13) (fun μ14 => hs_bV (hc_Future_search d (x1 + (1 : Int32)) x2 μ14) (fun μ15 => some (none, μ15))))))) else none)))) else none) else none) else none)))) := by exact (hs_ev_go hp_Future_search [] 121 0 _ [] μ).trans rfl
noncomputable def he_Future_judge_62 (d : Nat) (x1 : Int32) (x2 : Int32) (μ : hs_M) : Option (Option hs_V × hs_M) := hs_ev d 14 62 [some (vR 0 0), some (vI x1), some (vI x2), none] [] μ
noncomputable def he_Future_judge_72 (d : Nat)  (μ : hs_M) : Option (Option hs_V × hs_M) := hs_ev d 14 72 [none, none, none, none] [] μ
theorem hp_Future_judge : hs_prog 14 = (hs_k14, 4, 0) := rfl
set_option maxRecDepth 100000 in
theorem hq_Future_judge (d : Nat) (x1 : Int32) (x2 : Int32) (μ : hs_M)  : hc_Future_judge (d + 1) x1 x2 μ =
  hs_bI (hc_Int_bitCount d x2 μ) (fun r1 μ1 => hs_bI (hc_Int_bitCount d (μ1.1 0 0 12) μ1) (fun r2 μ2 => (if r1 < r2 then (if (μ2.1 0 0 11) < x1 then he_Future_judge_62 d x1 x2 μ2 else (if x1 = (μ2.1 0 0 11) then he_Future_judge_62 d x1 x2 μ2 else he_Future_judge_72 d μ2)) else hs_bI (hc_Int_bitCount d x2 μ2) (fun r3 μ3 => hs_bI (hc_Int_bitCount d (μ3.1 0 0 12) μ3) (fun r4 μ4 => (if r3 = r4 then (if x2 < (μ4.1 0 0 12) then (if (μ4.1 0 0 11) < x1 then he_Future_judge_62 d x1 x2 μ4 else (if x1 = (μ4.1 0 0 11) then he_Future_judge_62 d x1 x2 μ4 else he_Future_judge_72 d μ4)) else (if (μ4.1 0 0 11) < x1 then he_Future_judge_62 d x1 x2 μ4 else (if x1 = (μ4.1 0 0 11) then he_Future_judge_72 d μ4 else he_Future_judge_72 d μ4))) else (if (μ4.1 0 0 11) < x1 then he_Future_judge_62 d x1 x2 μ4 else (if x1 = (μ4.1 0 0 11) then he_Future_judge_72 d μ4 else he_Future_judge_72 d μ4)))))))) := by exact (hs_ev_go hp_Future_judge [62, 72] 40 0 _ [] μ).trans rfl
set_option maxRecDepth 100000 in
theorem hq_Future_judge_62 (d : Nat) (x1 : Int32) (x2 : Int32) (μ : hs_M)  : he_Future_judge_62 d x1 x2 μ =
  he_Future_judge_72 d (hs_wI (hs_wI μ 0 0 11 x1) 0 0 12 x2) := by exact (hs_ev_go hp_Future_judge [62, 72] 40 62 _ [] μ).trans rfl
set_option maxRecDepth 100000 in
theorem hq_Future_judge_72 (d : Nat)  (μ : hs_M)  : he_Future_judge_72 d  μ =
  some (none, μ) := by exact (hs_ev_go hp_Future_judge [62, 72] 40 72 _ [] μ).trans rfl
noncomputable def he_Future_rounds_2 (d : Nat) (x1 : Int32) (x2 : Int32) (x3 : Int32) (μ : hs_M) : Option (Option hs_V × hs_M) := hs_ev d 15 2 [some (vR 0 0), some (vI x1), some (vI x2), some (vI x3), none, none] [] μ
noncomputable def he_Future_rounds_30 (d : Nat) (x1 : Int32) (x2 : Int32) (x3 : Int32) (x4 : Int32) (μ : hs_M) : Option (Option hs_V × hs_M) := hs_ev d 15 30 [some (vR 0 0), some (vI x1), some (vI x2), some (vI x3), some (vI x4), none] [] μ
noncomputable def he_Future_rounds_79 (d : Nat) (x4 : Int32) (x5 : Int32) (μ : hs_M) : Option (Option hs_V × hs_M) := hs_ev d 15 79 [some (vR 0 0), none, none, none, some (vI x4), some (vI x5)] [] μ
theorem hp_Future_rounds : hs_prog 15 = (hs_k15, 6, 1) := rfl
set_option maxRecDepth 100000 in
theorem hq_Future_rounds (d : Nat) (x1 : Int32) (x2 : Int32) (μ : hs_M)  : hc_Future_rounds (d + 1) x1 x2 μ =
  he_Future_rounds_2 d x1 x2 (0 : Int32) μ := by exact (hs_ev_go hp_Future_rounds [2, 30, 79] 65 0 _ [] μ).trans rfl
set_option maxRecDepth 100000 in
theorem hq_Future_rounds_2 (d : Nat) (x1 : Int32) (x2 : Int32) (x3 : Int32) (μ : hs_M)  : he_Future_rounds_2 d x1 x2 x3 μ =
  (if x3 < (8 : Int32) then (if hs_in x3 8 then he_Future_rounds_2 d x1 x2 (x3 + (1 : Int32)) (hs_wI μ 36 0 (x3.toNatClampNeg) (((1 : Int32) <<< (x1 &&& 31)) - (1 : Int32))) else none) else he_Future_rounds_30 d x1 x2 (0 : Int32) (0 : Int32) μ) := by exact (hs_ev_go hp_Future_rounds [2, 30, 79] 65 2 _ [] μ).trans rfl
set_option maxRecDepth 100000 in
theorem hq_Future_rounds_30 (d : Nat) (x1 : Int32) (x2 : Int32) (x3 : Int32) (x4 : Int32) (μ : hs_M)  : he_Future_rounds_30 d x1 x2 x3 x4 μ =
  (if x4 < x2 then (if x3 = 0 then hs_bI (hc_Future_someoneTurns d x1 μ) (fun r1 μ1 => (if r1 = 0 then he_Future_rounds_30 d x1 x2 (1 : Int32) (x4 + (1 : Int32)) μ1 else he_Future_rounds_30 d x1 x2 (0 : Int32) (x4 + (1 : Int32)) μ1)) else (if x3 = 0 then hs_bV (hc_Row_begin d (0 : Int64) μ) (fun μ2 => he_Future_rounds_79 d x4 (0 : Int32) μ2) else hs_bV (hc_Row_begin d (1 : Int64) μ) (fun μ3 => he_Future_rounds_79 d x4 (0 : Int32) μ3))) else (if x3 = 0 then hs_bV (hc_Row_begin d (0 : Int64) μ) (fun μ4 => he_Future_rounds_79 d x4 (0 : Int32) μ4) else hs_bV (hc_Row_begin d (1 : Int64) μ) (fun μ5 => he_Future_rounds_79 d x4 (0 : Int32) μ5))) := by exact (hs_ev_go hp_Future_rounds [2, 30, 79] 65 30 _ [] μ).trans rfl
set_option maxRecDepth 100000 in
theorem hq_Future_rounds_79 (d : Nat) (x4 : Int32) (x5 : Int32) (μ : hs_M)  : he_Future_rounds_79 d x4 x5 μ =
  (if x5 < (μ.1 8 0 9) then (if hs_in x5 8 then hs_bV (hc_Row_add d ((μ.1 36 0 (x5.toNatClampNeg)).toInt64) μ) (fun μ1 => he_Future_rounds_79 d x4 (x5 + (1 : Int32)) μ1) else none) else some (some (vI x4), μ)) := by exact (hs_ev_go hp_Future_rounds [2, 30, 79] 65 79 _ [] μ).trans rfl
noncomputable def he_Future_someoneTurns_4 (d : Nat) (x1 : Int32) (x2 : Int32) (x3 : Int32) (μ : hs_M) : Option (Option hs_V × hs_M) := hs_ev d 16 4 [some (vR 0 0), some (vI x1), some (vI x2), some (vI x3), none] [] μ
theorem hp_Future_someoneTurns : hs_prog 16 = (hs_k16, 5, 3) := rfl
set_option maxRecDepth 100000 in
theorem hq_Future_someoneTurns (d : Nat) (x1 : Int32) (μ : hs_M)  : hc_Future_someoneTurns (d + 1) x1 μ =
  he_Future_someoneTurns_4 d x1 (0 : Int32) (0 : Int32) μ := by exact (hs_ev_go hp_Future_someoneTurns [4] 46 0 _ [] μ).trans rfl
set_option maxRecDepth 100000 in
theorem hq_Future_someoneTurns_4 (d : Nat) (x1 : Int32) (x2 : Int32) (x3 : Int32) (μ : hs_M)  : he_Future_someoneTurns_4 d x1 x2 x3 μ =
  (if x3 < (μ.1 8 0 9) then (if hs_in x3 8 then hs_bI (hc_State_lives d 0 x3 μ) (fun r1 μ1 => (if r1 = 0 then (if x2 = 0 then (if hs_in x3 8 then (if (μ1.1 36 0 (x3.toNatClampNeg)) = (μ.1 36 0 (x3.toNatClampNeg)) then he_Future_someoneTurns_4 d x1 (0 : Int32) (x3 + (1 : Int32)) μ1 else he_Future_someoneTurns_4 d x1 (1 : Int32) (x3 + (1 : Int32)) μ1) else none) else he_Future_someoneTurns_4 d x1 (1 : Int32) (x3 + (1 : Int32)) μ1) else hs_bI (hc_Future_bestReply d x3 x1 μ1) (fun r2 μ2 => (if hs_in x3 8 then (if x2 = 0 then (if hs_in x3 8 then (if ((hs_wI μ2 36 0 (x3.toNatClampNeg) r2).1 36 0 (x3.toNatClampNeg)) = (μ.1 36 0 (x3.toNatClampNeg)) then he_Future_someoneTurns_4 d x1 (0 : Int32) (x3 + (1 : Int32)) (hs_wI μ2 36 0 (x3.toNatClampNeg) r2) else he_Future_someoneTurns_4 d x1 (1 : Int32) (x3 + (1 : Int32)) (hs_wI μ2 36 0 (x3.toNatClampNeg) r2)) else none) else he_Future_someoneTurns_4 d x1 (1 : Int32) (x3 + (1 : Int32)) (hs_wI μ2 36 0 (x3.toNatClampNeg) r2)) else none)))) else none) else hs_rz x2 μ) := by exact (hs_ev_go hp_Future_someoneTurns [4] 46 4 _ [] μ).trans rfl
noncomputable def he_Future_bestReply_18 (d : Nat) (x1 : Int32) (x2 : Int32) (x3 : Int32) (x4 : Int32) (x5 : Int32) (μ : hs_M) : Option (Option hs_V × hs_M) := hs_ev d 17 18 [some (vR 0 0), some (vI x1), some (vI x2), some (vI x3), some (vI x4), some (vI x5), none] [] μ
theorem hp_Future_bestReply : hs_prog 17 = (hs_k17, 7, 1) := rfl
set_option maxRecDepth 100000 in
theorem hq_Future_bestReply (d : Nat) (x1 : Int32) (x2 : Int32) (μ : hs_M)  : hc_Future_bestReply (d + 1) x1 x2 μ =
  (if hs_in x1 8 then hs_bI (hc_Future_weeksByPlans d x1 x2 μ) (fun r1 μ1 => he_Future_bestReply_18 d x1 x2 (μ.1 36 0 (x1.toNatClampNeg)) r1 (0 : Int32) μ1) else none) := by exact (hs_ev_go hp_Future_bestReply [18] 44 0 _ [] μ).trans rfl
set_option maxRecDepth 100000 in
theorem hq_Future_bestReply_18 (d : Nat) (x1 : Int32) (x2 : Int32) (x3 : Int32) (x4 : Int32) (x5 : Int32) (μ : hs_M)  : he_Future_bestReply_18 d x1 x2 x3 x4 x5 μ =
  (if x5 < ((1 : Int32) <<< (x2 &&& 31)) then (if x4 < x2 then (if hs_in x1 8 then hs_bI (hc_Future_weeksByPlans d x1 x2 (hs_wI μ 36 0 (x1.toNatClampNeg) x5)) (fun r1 μ1 => (if x4 < r1 then he_Future_bestReply_18 d x1 x2 x5 r1 (x5 + (1 : Int32)) μ1 else he_Future_bestReply_18 d x1 x2 x3 x4 (x5 + (1 : Int32)) μ1)) else none) else some (some (vI x3), μ)) else some (some (vI x3), μ)) := by exact (hs_ev_go hp_Future_bestReply [18] 44 18 _ [] μ).trans rfl
noncomputable def he_Future_weeksByPlans_13 (d : Nat) (x1 : Int32) (x2 : Int32) (x3 : Int32) (μ : hs_M) : Option (Option hs_V × hs_M) := hs_ev d 18 13 [some (vR 0 0), some (vI x1), some (vI x2), some (vI x3), none, none] [] μ
noncomputable def he_Future_weeksByPlans_24 (d : Nat) (x1 : Int32) (x2 : Int32) (x3 : Int32) (x4 : Int32) (x5 : Int32) (μ : hs_M) : Option (Option hs_V × hs_M) := hs_ev d 18 24 [some (vR 0 0), some (vI x1), some (vI x2), some (vI x3), some (vI x4), some (vI x5)] [] μ
theorem hp_Future_weeksByPlans : hs_prog 18 = (hs_k18, 6, 1) := rfl
set_option maxRecDepth 100000 in
theorem hq_Future_weeksByPlans (d : Nat) (x1 : Int32) (x2 : Int32) (μ : hs_M)  : hc_Future_weeksByPlans (d + 1) x1 x2 μ =
  hs_bV (hc_State_follow d 35 0 μ) (fun μ1 => he_Future_weeksByPlans_13 d x1 x2 (0 : Int32) μ1) := by exact (hs_ev_go hp_Future_weeksByPlans [13, 24] 55 0 _ [] μ).trans rfl
set_option maxRecDepth 100000 in
theorem hq_Future_weeksByPlans_13 (d : Nat) (x1 : Int32) (x2 : Int32) (x3 : Int32) (μ : hs_M)  : he_Future_weeksByPlans_13 d x1 x2 x3 μ =
  (if x3 < x2 then he_Future_weeksByPlans_24 d x1 x2 x3 (0 : Int32) (0 : Int32) μ else hs_bI (hc_Future_gain d x1 μ) (fun r1 μ1 => some (some (vI r1), μ1))) := by exact (hs_ev_go hp_Future_weeksByPlans [13, 24] 55 13 _ [] μ).trans rfl
set_option maxRecDepth 100000 in
theorem hq_Future_weeksByPlans_24 (d : Nat) (x1 : Int32) (x2 : Int32) (x3 : Int32) (x4 : Int32) (x5 : Int32) (μ : hs_M)  : he_Future_weeksByPlans_24 d x1 x2 x3 x4 x5 μ =
  (if x5 < (μ.1 8 0 9) then (if hs_in x5 8 then he_Future_weeksByPlans_24 d x1 x2 x3 (x4 ||| ((((μ.1 36 0 (x5.toNatClampNeg)) >>> (x3 &&& 31)) &&& (1 : Int32)) <<< (x5 &&& 31))) (x5 + (1 : Int32)) μ else none) else hs_bI (hc_Office_winner d 35 x4 (0 : Int32) μ) (fun r1 μ1 => hs_bV (hc_Office_finish d 35 r1 μ1) (fun μ2 => he_Future_weeksByPlans_13 d x1 x2 (x3 + (1 : Int32)) μ2))) := by exact (hs_ev_go hp_Future_weeksByPlans [13, 24] 55 24 _ [] μ).trans rfl
noncomputable def he_Future_strongestParty_23 (d : Nat) (x2 : Int32) (x3 : Int32) (x4 : Int32) (μ : hs_M) : Option (Option hs_V × hs_M) := hs_ev d 19 23 [some (vR 0 0), none, some (vI x2), some (vI x3), some (vI x4), none] [] μ
theorem hp_Future_strongestParty : hs_prog 19 = (hs_k19, 6, 1) := rfl
set_option maxRecDepth 100000 in
theorem hq_Future_strongestParty (d : Nat) (x1 : Int32) (μ : hs_M)  : hc_Future_strongestParty (d + 1) x1 μ =
  hs_bV (hc_Future_run d x1 (255 : Int32) μ) (fun μ1 => he_Future_strongestParty_23 d (-1 : Int32) (0 : Int32) (0 : Int32) (hs_wI μ1 4 0 1 (0 : Int32))) := by exact (hs_ev_go hp_Future_strongestParty [23] 46 0 _ [] μ).trans rfl
set_option maxRecDepth 100000 in
theorem hq_Future_strongestParty_23 (d : Nat) (x2 : Int32) (x3 : Int32) (x4 : Int32) (μ : hs_M)  : he_Future_strongestParty_23 d x2 x3 x4 μ =
  (if x4 < (4 : Int32) then hs_bI (hc_Future_gainOfParty d x4 μ) (fun r1 μ1 => hs_bV (hc_Row_add d (r1.toInt64) μ1) (fun μ2 => (if x3 < r1 then he_Future_strongestParty_23 d x4 r1 (x4 + (1 : Int32)) μ2 else he_Future_strongestParty_23 d x2 x3 (x4 + (1 : Int32)) μ2))) else hs_bI (hc_Future_gainers d μ) (fun r3 μ3 => hs_bV (hc_Row_add d (r3.toInt64) μ3) (fun μ4 => some (some (vI x2), μ4)))) := by exact (hs_ev_go hp_Future_strongestParty [23] 46 23 _ [] μ).trans rfl
noncomputable def he_Future_gainers_4 (d : Nat) (x1 : Int32) (x2 : Int32) (μ : hs_M) : Option (Option hs_V × hs_M) := hs_ev d 20 4 [some (vR 0 0), some (vI x1), some (vI x2)] [] μ
theorem hp_Future_gainers : hs_prog 20 = (hs_k20, 3, 1) := rfl
set_option maxRecDepth 100000 in
theorem hq_Future_gainers (d : Nat)  (μ : hs_M)  : hc_Future_gainers (d + 1)  μ =
  he_Future_gainers_4 d (0 : Int32) (0 : Int32) μ := by exact (hs_ev_go hp_Future_gainers [4] 26 0 _ [] μ).trans rfl
set_option maxRecDepth 100000 in
theorem hq_Future_gainers_4 (d : Nat) (x1 : Int32) (x2 : Int32) (μ : hs_M)  : he_Future_gainers_4 d x1 x2 μ =
  (if x2 < (μ.1 8 0 9) then hs_bI (hc_Future_gain d x2 μ) (fun r1 μ1 => (if 0 < r1 then he_Future_gainers_4 d (x1 ||| ((1 : Int32) <<< (x2 &&& 31))) (x2 + (1 : Int32)) μ1 else he_Future_gainers_4 d x1 (x2 + (1 : Int32)) μ1)) else some (some (vI x1), μ)) := by exact (hs_ev_go hp_Future_gainers [4] 26 4 _ [] μ).trans rfl
noncomputable def he_Future_takingTurns_41 (d : Nat) (x1 : Int32) (x2 : Int32) (x3 : Int32) (x4 : Int32) (x5 : Int32) (x6 : Int32) (μ : hs_M) : Option (Option hs_V × hs_M) := hs_ev d 21 41 [some (vR 0 0), some (vI x1), some (vI x2), some (vI x3), some (vI x4), some (vI x5), some (vI x6)] [] μ
theorem hp_Future_takingTurns : hs_prog 21 = (hs_k21, 7, 1) := rfl
set_option maxRecDepth 100000 in
theorem hq_Future_takingTurns (d : Nat) (x1 : Int32) (x2 : Int32) (μ : hs_M)  : hc_Future_takingTurns (d + 1) x1 x2 μ =
  hs_bV (hc_Future_run d x2 (255 : Int32) μ) (fun μ1 => hs_bI (hc_Future_gainOfParty d x1 μ1) (fun r2 μ2 => hs_bI (hc_Town_ofParty d x1 μ2) (fun r3 μ3 => hs_bV (hc_State_follow d 35 0 μ3) (fun μ4 => he_Future_takingTurns_41 d x1 x2 r2 r3 (-1 : Int32) (0 : Int32) μ4)))) := by exact (hs_ev_go hp_Future_takingTurns [41] 68 0 _ [] μ).trans rfl
set_option maxRecDepth 100000 in
theorem hq_Future_takingTurns_41 (d : Nat) (x1 : Int32) (x2 : Int32) (x3 : Int32) (x4 : Int32) (x5 : Int32) (x6 : Int32) (μ : hs_M)  : he_Future_takingTurns_41 d x1 x2 x3 x4 x5 x6 μ =
  (if x6 < x2 then hs_bI (hc_Future_nextOf d (x4 &&& (μ.1 6 0 3)) x5 μ) (fun r1 μ1 => (if r1 < 0 then hs_bV (hc_Office_pass d 35 (0 : Int32) ((255 : Int32) &&& (x4 ^^^ (-1 : Int32))) μ1) (fun μ2 => he_Future_takingTurns_41 d x1 x2 x3 x4 r1 (x6 + (1 : Int32)) μ2) else hs_bV (hc_Office_pass d 35 ((1 : Int32) <<< (r1 &&& 31)) ((255 : Int32) &&& (x4 ^^^ (-1 : Int32))) μ1) (fun μ3 => he_Future_takingTurns_41 d x1 x2 x3 x4 r1 (x6 + (1 : Int32)) μ3))) else hs_bI (hc_Future_gainOfParty d x1 μ) (fun r4 μ4 => hs_bV (hc_Row_begin d ((r4 - x3).toInt64) μ4) (fun μ5 => some (some (vI r4), μ5)))) := by exact (hs_ev_go hp_Future_takingTurns [41] 68 41 _ [] μ).trans rfl
noncomputable def he_Future_nextOf_2 (d : Nat) (x0 : Int32) (x1 : Int32) (x2 : Int32) (μ : hs_M) : Option (Option hs_V × hs_M) := hs_ev d 22 2 [some (vI x0), some (vI x1), some (vI x2), none] [] μ
theorem hp_Future_nextOf : hs_prog 22 = (hs_k22, 4, 1) := rfl
set_option maxRecDepth 100000 in
theorem hq_Future_nextOf (d : Nat) (x0 : Int32) (x1 : Int32) (μ : hs_M)  : hc_Future_nextOf (d + 1) x0 x1 μ =
  he_Future_nextOf_2 d x0 x1 (1 : Int32) μ := by exact (hs_ev_go hp_Future_nextOf [2] 26 0 _ [] μ).trans rfl
set_option maxRecDepth 100000 in
theorem hq_Future_nextOf_2 (d : Nat) (x0 : Int32) (x1 : Int32) (x2 : Int32) (μ : hs_M)  : he_Future_nextOf_2 d x0 x1 x2 μ =
  (if (8 : Int32) < x2 then some (some (vI (-1 : Int32)), μ) else (if ((x0 >>> (((x1 + x2) - (x1 + x2) / (8 : Int32) * (8 : Int32)) &&& 31)) &&& (1 : Int32)) = 0 then he_Future_nextOf_2 d x0 x1 (x2 + (1 : Int32)) μ else some (some (vI ((x1 + x2) - (x1 + x2) / (8 : Int32) * (8 : Int32))), μ))) := by exact (hs_ev_go hp_Future_nextOf [2] 26 2 _ [] μ).trans rfl
theorem hp_Future_foolsWorth : hs_prog 23 = (hs_k23, 6, 1) := rfl
set_option maxRecDepth 100000 in
theorem hq_Future_foolsWorth (d : Nat) (x1 : Int32) (x2 : Int32) (μ : hs_M)  : hc_Future_foolsWorth (d + 1) x1 x2 μ =
  (if hs_in x1 8 then hs_bV (hc_Future_run d x2 (255 : Int32) μ) (fun μ1 => hs_bI (hc_Future_gainOfParty d (μ.1 15 0 (x1.toNatClampNeg)) μ1) (fun r2 μ2 => hs_bV (hc_Future_run d x2 ((255 : Int32) &&& (((1 : Int32) <<< (x1 &&& 31)) ^^^ (-1 : Int32))) μ2) (fun μ3 => hs_bI (hc_Future_gainOfParty d (μ.1 15 0 (x1.toNatClampNeg)) μ3) (fun r4 μ4 => hs_bV (hc_Row_begin d (r2.toInt64) μ4) (fun μ5 => hs_bV (hc_Row_add d (r4.toInt64) μ5) (fun μ6 => some (some (vI (r2 - r4)), μ6))))))) else none) := by exact (hs_ev_go hp_Future_foolsWorth [] 45 0 _ [] μ).trans rfl
theorem hp_Future_tellChance : hs_prog 24 = (hs_k24, 3, 0) := rfl
set_option maxRecDepth 100000 in
theorem hq_Future_tellChance (d : Nat) (x1 : Int32) (x2 : Int32) (μ : hs_M)  : hc_Future_tellChance (d + 1) x1 x2 μ =
  (if x2 = 0 then (if (μ.1 6 0 1) = x1 then hs_bV (hc_Row_fraction d (1 : Int64) (1 : Int64) μ) (fun μ1 => some (none, μ1)) else hs_bV (hc_Row_fraction d (0 : Int64) (1 : Int64) μ) (fun μ2 => some (none, μ2))) else hs_bV (hc_Office_shares d 0 37 μ) (fun μ3 => (if x2 = (1 : Int32) then (if hs_in ((1 : Int32) + x1) 9 then hs_bV (hc_Row_fraction d (μ3.2 37 0 (((1 : Int32) + x1).toNatClampNeg)) (100000000 : Int64) μ3) (fun μ4 => some (none, μ4)) else none) else hs_bL (hc_Future_chanceInTwo d x1 μ3) (fun r5 μ5 => hs_bV (hc_Row_fraction d r5 (10000000000000000 : Int64) μ5) (fun μ6 => some (none, μ6)))))) := by exact (hs_ev_go hp_Future_tellChance [] 47 0 _ [] μ).trans rfl
noncomputable def he_Future_chanceInTwo_5 (d : Nat) (x1 : Int32) (x2 : Int64) (x4 : Int32) (μ : hs_M) : Option (Option hs_V × hs_M) := hs_ev d 25 5 [some (vR 0 0), some (vI x1), some (vL x2), none, some (vI x4)] [] μ
theorem hp_Future_chanceInTwo : hs_prog 25 = (hs_k25, 5, 2) := rfl
set_option maxRecDepth 100000 in
theorem hq_Future_chanceInTwo (d : Nat) (x1 : Int32) (μ : hs_M)  : hc_Future_chanceInTwo (d + 1) x1 μ =
  he_Future_chanceInTwo_5 d x1 (0 : Int64) (0 : Int32) μ := by exact (hs_ev_go hp_Future_chanceInTwo [5] 66 0 _ [] μ).trans rfl
set_option maxRecDepth 100000 in
theorem hq_Future_chanceInTwo_5 (d : Nat) (x1 : Int32) (x2 : Int64) (x4 : Int32) (μ : hs_M)  : he_Future_chanceInTwo_5 d x1 x2 x4 μ =
  (if (μ.1 8 0 9) < x4 then some (some (vL x2), μ) else (if hs_in x4 9 then (if 0 < (lg_cmp (μ.2 37 0 (x4.toNatClampNeg)) (0 : Int64)) then hs_bV (hc_State_follow d 35 0 μ) (fun μ1 => (if (x4 - (1 : Int32)) = (μ1.1 6 0 1) then hs_bV (hc_Office_finish d 35 (-1 : Int32) μ1) (fun μ2 => hs_bV (hc_Office_shares d 35 38 μ2) (fun μ3 => (if hs_in x4 9 then (if hs_in ((1 : Int32) + x1) 9 then he_Future_chanceInTwo_5 d x1 (x2 + ((μ3.2 37 0 (x4.toNatClampNeg)) * (μ3.2 38 0 (((1 : Int32) + x1).toNatClampNeg)))) (x4 + (1 : Int32)) μ3 else none) else none))) else hs_bV (hc_Office_finish d 35 (x4 - (1 : Int32)) μ1) (fun μ4 => hs_bV (hc_Office_shares d 35 38 μ4) (fun μ5 => (if hs_in x4 9 then (if hs_in ((1 : Int32) + x1) 9 then he_Future_chanceInTwo_5 d x1 (x2 + ((μ5.2 37 0 (x4.toNatClampNeg)) * (μ5.2 38 0 (((1 : Int32) + x1).toNatClampNeg)))) (x4 + (1 : Int32)) μ5 else none) else none))))) else he_Future_chanceInTwo_5 d x1 x2 (x4 + (1 : Int32)) μ) else none)) := by exact (hs_ev_go hp_Future_chanceInTwo [5] 66 5 _ [] μ).trans rfl
noncomputable def he_Future_likeliest_19 (d : Nat) (x1 : Int32) (x2 : Int32) (μ : hs_M) : Option (Option hs_V × hs_M) := hs_ev d 26 19 [some (vR 0 0), some (vI x1), some (vI x2)] [] μ
theorem hp_Future_likeliest : hs_prog 26 = (hs_k26, 3, 1) := rfl
set_option maxRecDepth 100000 in
theorem hq_Future_likeliest (d : Nat)  (μ : hs_M)  : hc_Future_likeliest (d + 1)  μ =
  hs_bV (hc_Office_shares d 0 37 μ) (fun μ1 => he_Future_likeliest_19 d (0 : Int32) (1 : Int32) μ1) := by exact (hs_ev_go hp_Future_likeliest [19] 45 0 _ [] μ).trans rfl
set_option maxRecDepth 100000 in
theorem hq_Future_likeliest_19 (d : Nat) (x1 : Int32) (x2 : Int32) (μ : hs_M)  : he_Future_likeliest_19 d x1 x2 μ =
  (if (μ.1 8 0 9) < x2 then (if hs_in x1 9 then hs_bV (hc_Row_fraction d (μ.2 37 0 (x1.toNatClampNeg)) (100000000 : Int64) μ) (fun μ1 => some (some (vI (x1 - (1 : Int32))), μ1)) else none) else (if hs_in x2 9 then (if hs_in x1 9 then (if 0 < (lg_cmp (μ.2 37 0 (x2.toNatClampNeg)) (μ.2 37 0 (x1.toNatClampNeg))) then he_Future_likeliest_19 d x2 (x2 + (1 : Int32)) μ else he_Future_likeliest_19 d x1 (x2 + (1 : Int32)) μ) else none) else none)) := by exact (hs_ev_go hp_Future_likeliest [19] 45 19 _ [] μ).trans rfl
theorem hp_Office_pass : hs_prog 27 = (hs_k27, 4, 0) := rfl
set_option maxRecDepth 100000 in
theorem hq_Office_pass (d : Nat) (j1 : Nat) (x2 : Int32) (x3 : Int32) (μ : hs_M)  : hc_Office_pass (d + 1) j1 x2 x3 μ =
  hs_bI (hc_Office_winner d j1 x2 x3 μ) (fun r1 μ1 => hs_bV (hc_Office_finish d j1 r1 μ1) (fun μ2 => some (none, μ2))) := by exact (hs_ev_go hp_Office_pass [] 12 0 _ [] μ).trans rfl
theorem hp_Office_finish : hs_prog 28 = (hs_k28, 3, 0) := rfl
set_option maxRecDepth 100000 in
theorem hq_Office_finish (d : Nat) (j1 : Nat) (x2 : Int32) (μ : hs_M)  : hc_Office_finish (d + 1) j1 x2 μ =
  hs_bV (hc_State_serveWeek d j1 x2 μ) (fun μ1 => hs_bV (hc_Town_changeWeights d j1 μ1) (fun μ2 => some (none, (hs_wI μ2 6 j1 0 ((μ2.1 6 j1 0) + (1 : Int32)))))) := by exact (hs_ev_go hp_Office_finish [] 17 0 _ [] μ).trans rfl
noncomputable def he_Office_winner_13 (d : Nat) (j1 : Nat) (x2 : Int32) (x3 : Int32) (x4 : Int32) (x5 : Int32) (x6 : Int32) (μ : hs_M) : Option (Option hs_V × hs_M) := hs_ev d 29 13 [some (vR 1 0), some (vR 6 j1), some (vI x2), some (vI x3), some (vI x4), some (vI x5), some (vI x6), none] [] μ
noncomputable def he_Office_winner_115 (d : Nat) (j1 : Nat) (x2 : Int32) (x3 : Int32) (x4 : Int32) (x5 : Int32) (x6 : Int32) (μ : hs_M) : Option (Option hs_V × hs_M) := hs_ev d 29 115 [some (vR 1 0), some (vR 6 j1), some (vI x2), some (vI x3), some (vI x4), some (vI x5), some (vI x6), none] [] μ
theorem hp_Office_winner : hs_prog 29 = (hs_k29, 8, 1) := rfl
set_option maxRecDepth 100000 in
theorem hq_Office_winner (d : Nat) (j1 : Nat) (x2 : Int32) (x3 : Int32) (μ : hs_M)  : hc_Office_winner (d + 1) j1 x2 x3 μ =
  hs_bI (hc_Office_shownOfServer d j1 μ) (fun r1 μ1 => he_Office_winner_13 d j1 x2 x3 (-1 : Int32) r1 (0 : Int32) μ1) := by exact (hs_ev_go hp_Office_winner [13, 115] 65 0 _ [] μ).trans rfl
set_option maxRecDepth 100000 in
theorem hq_Office_winner_13 (d : Nat) (j1 : Nat) (x2 : Int32) (x3 : Int32) (x4 : Int32) (x5 : Int32) (x6 : Int32) (μ : hs_M)  : he_Office_winner_13 d j1 x2 x3 x4 x5 x6 μ =
  (if x6 < (μ.1 8 0 9) then (if x6 = (μ.1 6 j1 1) then he_Office_winner_115 d j1 x2 x3 x4 x5 x6 μ else hs_bI (hc_State_lives d j1 x6 μ) (fun r1 μ1 => (if r1 = 0 then he_Office_winner_115 d j1 x2 x3 x4 x5 x6 μ1 else (if hs_in x6 8 then hs_bI (hc_Scale_shows d (μ1.1 24 j1 (x6.toNatClampNeg)) μ1) (fun r2 μ2 => (if x5 < r2 then (if ((x2 >>> (x6 &&& 31)) &&& (1 : Int32)) = 0 then (if ((x3 >>> (x6 &&& 31)) &&& (1 : Int32)) = 0 then he_Office_winner_115 d j1 x2 x3 x4 x5 x6 μ2 else hs_bI (hc_Will_value d j1 x6 μ2) (fun r3 μ3 => (if r3 = 0 then he_Office_winner_115 d j1 x2 x3 x4 x5 x6 μ3 else he_Office_winner_115 d j1 x2 x3 x6 r2 x6 μ3))) else he_Office_winner_115 d j1 x2 x3 x6 r2 x6 μ2) else he_Office_winner_115 d j1 x2 x3 x4 x5 x6 μ2)) else none)))) else some (some (vI x4), μ)) := by exact (hs_ev_go hp_Office_winner [13, 115] 65 13 _ [] μ).trans rfl
set_option maxRecDepth 100000 in
theorem hq_Office_winner_115 (d : Nat) (j1 : Nat) (x2 : Int32) (x3 : Int32) (x4 : Int32) (x5 : Int32) (x6 : Int32) (μ : hs_M)  : he_Office_winner_115 d j1 x2 x3 x4 x5 x6 μ =
  he_Office_winner_13 d j1 x2 x3 x4 x5 (x6 + (1 : Int32)) μ := by exact (hs_ev_go hp_Office_winner [13, 115] 65 115 _ [] μ).trans rfl
end
section
/-! ===== the equations of the methods, 2 ===== -/
theorem hp_Office_shownOfServer : hs_prog 30 = (hs_k30, 2, 1) := rfl
set_option maxRecDepth 100000 in
theorem hq_Office_shownOfServer (d : Nat) (j1 : Nat) (μ : hs_M)  : hc_Office_shownOfServer (d + 1) j1 μ =
  (if (μ.1 6 j1 1) < 0 then some (some (vI (-1 : Int32)), μ) else (if hs_in (μ.1 6 j1 1) 8 then hs_bI (hc_Scale_shows d (μ.1 24 j1 ((μ.1 6 j1 1).toNatClampNeg)) μ) (fun r1 μ1 => some (some (vI r1), μ1)) else none)) := by exact (hs_ev_go hp_Office_shownOfServer [] 17 0 _ [] μ).trans rfl
noncomputable def he_Office_shares_9 (d : Nat) (j1 : Nat) (κ2 : Nat) (x3 : Int32) (x4 : Int32) (μ : hs_M) : Option (Option hs_V × hs_M) := hs_ev d 31 9 [some (vR 1 0), some (vR 6 j1), some (vR κ2 0), some (vI x3), some (vI x4), none, none, none, none] [] μ
noncomputable def he_Office_shares_35 (d : Nat) (j1 : Nat) (κ2 : Nat) (x3 : Int32) (x4 : Int64) (x6 : Int32) (μ : hs_M) : Option (Option hs_V × hs_M) := hs_ev d 31 35 [some (vR 1 0), some (vR 6 j1), some (vR κ2 0), some (vI x3), some (vL x4), none, some (vI x6), none, none] [] μ
theorem hp_Office_shares : hs_prog 31 = (hs_k31, 9, 0) := rfl
set_option maxRecDepth 100000 in
theorem hq_Office_shares (d : Nat) (j1 : Nat) (κ2 : Nat) (μ : hs_M) (hκ2 : κ2 = 37 ∨ κ2 = 38) : hc_Office_shares (d + 1) j1 κ2 μ =
  hs_bI (hc_Office_heavierWho d j1 μ) (fun r1 μ1 => he_Office_shares_9 d j1 κ2 r1 (0 : Int32) μ1) := by rcases hκ2 with rfl | rfl <;> exact (hs_ev_go hp_Office_shares [9, 35] 80 0 _ [] μ).trans rfl
set_option maxRecDepth 100000 in
theorem hq_Office_shares_9 (d : Nat) (j1 : Nat) (κ2 : Nat) (x3 : Int32) (x4 : Int32) (μ : hs_M) (hκ2 : κ2 = 37 ∨ κ2 = 38) : he_Office_shares_9 d j1 κ2 x3 x4 μ =
  (if x4 < (9 : Int32) then (if hs_in x4 9 then he_Office_shares_9 d j1 κ2 x3 (x4 + (1 : Int32)) (hs_wL μ κ2 0 (x4.toNatClampNeg) (0 : Int64)) else none) else he_Office_shares_35 d j1 κ2 x3 (100000000 : Int64) (0 : Int32) μ) := by rcases hκ2 with rfl | rfl <;> exact (hs_ev_go hp_Office_shares [9, 35] 80 9 _ [] μ).trans rfl
set_option maxRecDepth 100000 in
theorem hq_Office_shares_35 (d : Nat) (j1 : Nat) (κ2 : Nat) (x3 : Int32) (x4 : Int64) (x6 : Int32) (μ : hs_M) (hκ2 : κ2 = 37 ∨ κ2 = 38) : he_Office_shares_35 d j1 κ2 x3 x4 x6 μ =
  (if x6 < (8 : Int32) then (if x3 = 0 then (if hs_in ((1 : Int32) + (μ.1 6 j1 1)) 9 then (if hs_in ((1 : Int32) + (μ.1 6 j1 1)) 9 then some (none, (hs_wL μ κ2 0 (((1 : Int32) + (μ.1 6 j1 1)).toNatClampNeg) ((μ.2 κ2 0 (((1 : Int32) + (μ.1 6 j1 1)).toNatClampNeg)) + x4))) else none) else none) else hs_bI (hc_Office_heaviestOf d j1 x3 μ) (fun r1 μ1 => (if hs_in r1 8 then (if hs_in ((1 : Int32) + r1) 9 then he_Office_shares_35 d j1 κ2 (x3 &&& (((1 : Int32) <<< (r1 &&& 31)) ^^^ (-1 : Int32))) ((x4 / (10 : Int64)) * ((μ1.1 16 0 (r1.toNatClampNeg)).toInt64)) (x6 + (1 : Int32)) (hs_wL μ1 κ2 0 (((1 : Int32) + r1).toNatClampNeg) ((x4 / (10 : Int64)) * (((10 : Int32) - (μ1.1 16 0 (r1.toNatClampNeg))).toInt64))) else none) else none))) else (if hs_in ((1 : Int32) + (μ.1 6 j1 1)) 9 then (if hs_in ((1 : Int32) + (μ.1 6 j1 1)) 9 then some (none, (hs_wL μ κ2 0 (((1 : Int32) + (μ.1 6 j1 1)).toNatClampNeg) ((μ.2 κ2 0 (((1 : Int32) + (μ.1 6 j1 1)).toNatClampNeg)) + x4))) else none) else none)) := by rcases hκ2 with rfl | rfl <;> exact (hs_ev_go hp_Office_shares [9, 35] 80 35 _ [] μ).trans rfl
noncomputable def he_Office_heavierWho_11 (d : Nat) (j1 : Nat) (x2 : Int32) (x3 : Int32) (x4 : Int32) (μ : hs_M) : Option (Option hs_V × hs_M) := hs_ev d 32 11 [some (vR 1 0), some (vR 6 j1), some (vI x2), some (vI x3), some (vI x4)] [] μ
noncomputable def he_Office_heavierWho_83 (d : Nat) (j1 : Nat) (x2 : Int32) (x3 : Int32) (x4 : Int32) (μ : hs_M) : Option (Option hs_V × hs_M) := hs_ev d 32 83 [some (vR 1 0), some (vR 6 j1), some (vI x2), some (vI x3), some (vI x4)] [] μ
theorem hp_Office_heavierWho : hs_prog 32 = (hs_k32, 5, 1) := rfl
set_option maxRecDepth 100000 in
theorem hq_Office_heavierWho (d : Nat) (j1 : Nat) (μ : hs_M)  : hc_Office_heavierWho (d + 1) j1 μ =
  hs_bI (hc_Office_shownOfServer d j1 μ) (fun r1 μ1 => he_Office_heavierWho_11 d j1 (0 : Int32) r1 (0 : Int32) μ1) := by exact (hs_ev_go hp_Office_heavierWho [11, 83] 51 0 _ [] μ).trans rfl
set_option maxRecDepth 100000 in
theorem hq_Office_heavierWho_11 (d : Nat) (j1 : Nat) (x2 : Int32) (x3 : Int32) (x4 : Int32) (μ : hs_M)  : he_Office_heavierWho_11 d j1 x2 x3 x4 μ =
  (if x4 < (μ.1 8 0 9) then (if x4 = (μ.1 6 j1 1) then he_Office_heavierWho_83 d j1 x2 x3 x4 μ else hs_bI (hc_State_lives d j1 x4 μ) (fun r1 μ1 => (if r1 = 0 then he_Office_heavierWho_83 d j1 x2 x3 x4 μ1 else (if hs_in x4 8 then hs_bI (hc_Scale_shows d (μ1.1 24 j1 (x4.toNatClampNeg)) μ1) (fun r2 μ2 => (if x3 < r2 then hs_bI (hc_Will_value d j1 x4 μ2) (fun r3 μ3 => (if r3 = 0 then he_Office_heavierWho_83 d j1 x2 x3 x4 μ3 else he_Office_heavierWho_83 d j1 (x2 ||| ((1 : Int32) <<< (x4 &&& 31))) x3 x4 μ3)) else he_Office_heavierWho_83 d j1 x2 x3 x4 μ2)) else none)))) else some (some (vI x2), μ)) := by exact (hs_ev_go hp_Office_heavierWho [11, 83] 51 11 _ [] μ).trans rfl
set_option maxRecDepth 100000 in
theorem hq_Office_heavierWho_83 (d : Nat) (j1 : Nat) (x2 : Int32) (x3 : Int32) (x4 : Int32) (μ : hs_M)  : he_Office_heavierWho_83 d j1 x2 x3 x4 μ =
  he_Office_heavierWho_11 d j1 x2 x3 (x4 + (1 : Int32)) μ := by exact (hs_ev_go hp_Office_heavierWho [11, 83] 51 83 _ [] μ).trans rfl
noncomputable def he_Office_heaviestOf_8 (d : Nat) (j1 : Nat) (x2 : Int32) (x3 : Int32) (x4 : Int32) (x5 : Int32) (μ : hs_M) : Option (Option hs_V × hs_M) := hs_ev d 33 8 [some (vR 1 0), some (vR 6 j1), some (vI x2), some (vI x3), some (vI x4), some (vI x5)] [] μ
theorem hp_Office_heaviestOf : hs_prog 33 = (hs_k33, 6, 1) := rfl
set_option maxRecDepth 100000 in
theorem hq_Office_heaviestOf (d : Nat) (j1 : Nat) (x2 : Int32) (μ : hs_M)  : hc_Office_heaviestOf (d + 1) j1 x2 μ =
  he_Office_heaviestOf_8 d j1 x2 (0 : Int32) (-1 : Int32) (0 : Int32) μ := by exact (hs_ev_go hp_Office_heaviestOf [8] 41 0 _ [] μ).trans rfl
set_option maxRecDepth 100000 in
theorem hq_Office_heaviestOf_8 (d : Nat) (j1 : Nat) (x2 : Int32) (x3 : Int32) (x4 : Int32) (x5 : Int32) (μ : hs_M)  : he_Office_heaviestOf_8 d j1 x2 x3 x4 x5 μ =
  (if x5 < (8 : Int32) then (if ((x2 >>> (x5 &&& 31)) &&& (1 : Int32)) = 0 then he_Office_heaviestOf_8 d j1 x2 x3 x4 (x5 + (1 : Int32)) μ else (if hs_in x5 8 then hs_bI (hc_Scale_shows d (μ.1 24 j1 (x5.toNatClampNeg)) μ) (fun r1 μ1 => (if x4 < r1 then (if hs_in x5 8 then hs_bI (hc_Scale_shows d (μ1.1 24 j1 (x5.toNatClampNeg)) μ1) (fun r2 μ2 => he_Office_heaviestOf_8 d j1 x2 x5 r2 (x5 + (1 : Int32)) μ2) else none) else he_Office_heaviestOf_8 d j1 x2 x3 x4 (x5 + (1 : Int32)) μ1)) else none)) else some (some (vI x3), μ)) := by exact (hs_ev_go hp_Office_heaviestOf [8] 41 8 _ [] μ).trans rfl
theorem hp_Pairs_append : hs_prog 34 = (hs_k34, 3, 1) := rfl
set_option maxRecDepth 100000 in
theorem hq_Pairs_append (d : Nat) (j0 : Nat) (x1 : Int32) (x2 : Int32) (μ : hs_M)  : hc_Pairs_append (d + 1) j0 x1 x2 μ =
  (if (μ.1 2 j0 2) < 0 then some (some (vI (-1 : Int32)), μ) else (if (μ.1 2 j0 2) < (Int32.ofNat (hs_len μ 33 j0)) then (if hs_in (μ.1 2 j0 2) (hs_len μ 33 j0) then (if hs_in (μ.1 2 j0 2) (hs_len (hs_wI μ 33 j0 ((μ.1 2 j0 2).toNatClampNeg) x1) 34 j0) then some (some (vI ((hs_wI (hs_wI (hs_wI μ 33 j0 ((μ.1 2 j0 2).toNatClampNeg) x1) 34 j0 ((μ.1 2 j0 2).toNatClampNeg) x2) 2 j0 2 ((μ.1 2 j0 2) + (1 : Int32))).1 2 j0 2)), (hs_wI (hs_wI (hs_wI μ 33 j0 ((μ.1 2 j0 2).toNatClampNeg) x1) 34 j0 ((μ.1 2 j0 2).toNatClampNeg) x2) 2 j0 2 ((μ.1 2 j0 2) + (1 : Int32)))) else none) else none) else some (some (vI (-1 : Int32)), μ))) := by exact (hs_ev_go hp_Pairs_append [] 35 0 _ [] μ).trans rfl
theorem hp_Pairs_person : hs_prog 35 = (hs_k35, 2, 1) := rfl
set_option maxRecDepth 100000 in
theorem hq_Pairs_person (d : Nat) (j0 : Nat) (x1 : Int32) (μ : hs_M)  : hc_Pairs_person (d + 1) j0 x1 μ =
  (if x1 < 0 then some (some (vI (-1 : Int32)), μ) else (if x1 < (Int32.ofNat (hs_len μ 33 j0)) then (if hs_in x1 (hs_len μ 33 j0) then some (some (vI (μ.1 33 j0 (x1.toNatClampNeg))), μ) else none) else some (some (vI (-1 : Int32)), μ))) := by exact (hs_ev_go hp_Pairs_person [] 17 0 _ [] μ).trans rfl
theorem hp_Pairs_value : hs_prog 36 = (hs_k36, 2, 1) := rfl
set_option maxRecDepth 100000 in
theorem hq_Pairs_value (d : Nat) (j0 : Nat) (x1 : Int32) (μ : hs_M)  : hc_Pairs_value (d + 1) j0 x1 μ =
  (if x1 < 0 then some (some (vI (-1 : Int32)), μ) else (if x1 < (Int32.ofNat (hs_len μ 34 j0)) then (if hs_in x1 (hs_len μ 34 j0) then some (some (vI (μ.1 34 j0 (x1.toNatClampNeg))), μ) else none) else some (some (vI (-1 : Int32)), μ))) := by exact (hs_ev_go hp_Pairs_value [] 17 0 _ [] μ).trans rfl
theorem hp_Past_remember : hs_prog 37 = (hs_k37, 2, 0) := rfl
set_option maxRecDepth 100000 in
theorem hq_Past_remember (d : Nat) (j1 : Nat) (μ : hs_M)  : hc_Past_remember (d + 1) j1 μ =
  (if (μ.1 3 0 4) = (20 : Int32) then hs_bI (hc_Math_floorMod d ((((μ.1 3 0 3) + (1 : Int32)) - ((μ.1 3 0 3) + (1 : Int32)) / (20 : Int32) * (20 : Int32)) + ((μ.1 3 0 4) - (1 : Int32))) (20 : Int32) (hs_wI (hs_wI μ 3 0 3 (((μ.1 3 0 3) + (1 : Int32)) - ((μ.1 3 0 3) + (1 : Int32)) / (20 : Int32) * (20 : Int32))) 3 0 4 ((μ.1 3 0 4) - (1 : Int32)))) (fun r1 μ1 => (if hs_in r1 20 then hs_bV (hc_State_copy d (1 + r1.toNatClampNeg) j1 μ1) (fun μ2 => some (none, (hs_wI μ2 3 0 4 ((μ2.1 3 0 4) + (1 : Int32))))) else none)) else hs_bI (hc_Math_floorMod d ((μ.1 3 0 3) + (μ.1 3 0 4)) (20 : Int32) μ) (fun r3 μ3 => (if hs_in r3 20 then hs_bV (hc_State_copy d (1 + r3.toNatClampNeg) j1 μ3) (fun μ4 => some (none, (hs_wI μ4 3 0 4 ((μ4.1 3 0 4) + (1 : Int32))))) else none))) := by exact (hs_ev_go hp_Past_remember [] 40 0 _ [] μ).trans rfl
theorem hp_Past_stepBack : hs_prog 38 = (hs_k38, 2, 3) := rfl
set_option maxRecDepth 100000 in
theorem hq_Past_stepBack (d : Nat) (j1 : Nat) (μ : hs_M)  : hc_Past_stepBack (d + 1) j1 μ =
  (if (μ.1 3 0 4) < (1 : Int32) then hs_rz (0 : Int32) μ else hs_bI (hc_Math_floorMod d ((μ.1 3 0 3) + ((μ.1 3 0 4) - (1 : Int32))) (20 : Int32) (hs_wI μ 3 0 4 ((μ.1 3 0 4) - (1 : Int32)))) (fun r1 μ1 => (if hs_in r1 20 then hs_bV (hc_State_copy d j1 (1 + r1.toNatClampNeg) μ1) (fun μ2 => hs_rz (1 : Int32) μ2) else none))) := by exact (hs_ev_go hp_Past_stepBack [] 29 0 _ [] μ).trans rfl
theorem hp_Past_forgetSteps : hs_prog 39 = (hs_k39, 1, 0) := rfl
set_option maxRecDepth 100000 in
theorem hq_Past_forgetSteps (d : Nat)  (μ : hs_M)  : hc_Past_forgetSteps (d + 1)  μ =
  some (none, (hs_wI μ 3 0 4 (0 : Int32))) := by exact (hs_ev_go hp_Past_forgetSteps [] 7 0 _ [] μ).trans rfl
theorem hp_Past_keepAside : hs_prog 40 = (hs_k40, 4, 3) := rfl
set_option maxRecDepth 100000 in
theorem hq_Past_keepAside (d : Nat) (x1 : Int32) (j2 : Nat) (x3 : Int32) (μ : hs_M)  : hc_Past_keepAside (d + 1) x1 j2 x3 μ =
  (if x1 < 0 then hs_rz (0 : Int32) μ else (if x1 < (3 : Int32) then (if hs_in x1 3 then hs_bV (hc_State_copy d (21 + x1.toNatClampNeg) j2 μ) (fun μ1 => (if hs_in x1 3 then hs_rz (1 : Int32) (hs_wI μ1 32 0 (x1.toNatClampNeg) x3) else none)) else none) else hs_rz (0 : Int32) μ)) := by exact (hs_ev_go hp_Past_keepAside [] 23 0 _ [] μ).trans rfl
theorem hp_Past_takeAgain : hs_prog 41 = (hs_k41, 4, 3) := rfl
set_option maxRecDepth 100000 in
theorem hq_Past_takeAgain (d : Nat) (x1 : Int32) (j2 : Nat) (x3 : Int32) (μ : hs_M)  : hc_Past_takeAgain (d + 1) x1 j2 x3 μ =
  (if x1 < 0 then hs_rz (0 : Int32) μ else (if x1 < (3 : Int32) then (if hs_in x1 3 then (if (μ.1 32 0 (x1.toNatClampNeg)) = x3 then (if hs_in x1 3 then hs_bV (hc_State_copy d j2 (21 + x1.toNatClampNeg) μ) (fun μ1 => hs_bV (hc_Past_forgetSteps d μ1) (fun μ2 => hs_rz (1 : Int32) μ2)) else none) else hs_rz (0 : Int32) μ) else none) else hs_rz (0 : Int32) μ)) := by exact (hs_ev_go hp_Past_takeAgain [] 26 0 _ [] μ).trans rfl
theorem hp_Row_begin : hs_prog 42 = (hs_k42, 3, 0) := rfl
set_option maxRecDepth 100000 in
theorem hq_Row_begin (d : Nat) (x1 : Int64) (μ : hs_M)  : hc_Row_begin (d + 1) x1 μ =
  hs_bV (hc_Row_add d x1 (hs_wI μ 4 0 1 (0 : Int32))) (fun μ1 => some (none, μ1)) := by exact (hs_ev_go hp_Row_begin [] 10 0 _ [] μ).trans rfl
theorem hp_Row_add : hs_prog 43 = (hs_k43, 3, 0) := rfl
set_option maxRecDepth 100000 in
theorem hq_Row_add (d : Nat) (x1 : Int64) (μ : hs_M)  : hc_Row_add (d + 1) x1 μ =
  (if (μ.1 4 0 1) < 0 then some (none, μ) else (if (μ.1 4 0 1) < (16 : Int32) then (if hs_in (μ.1 4 0 1) 16 then some (none, (hs_wI (hs_wL μ 14 0 ((μ.1 4 0 1).toNatClampNeg) x1) 4 0 1 ((μ.1 4 0 1) + (1 : Int32)))) else none) else some (none, μ))) := by exact (hs_ev_go hp_Row_add [] 23 0 _ [] μ).trans rfl
theorem hp_Row_range : hs_prog 44 = (hs_k44, 4, 0) := rfl
set_option maxRecDepth 100000 in
theorem hq_Row_range (d : Nat) (x1 : Int32) (x2 : Int32) (x3 : Int32) (μ : hs_M)  : hc_Row_range (d + 1) x1 x2 x3 μ =
  (if 0 < x1 then hs_bV (hc_Row_add d (x2.toInt64) (hs_wI μ 4 0 1 (0 : Int32))) (fun μ1 => hs_bV (hc_Row_add d (x3.toInt64) μ1) (fun μ2 => some (none, μ2))) else some (none, (hs_wI μ 4 0 1 (0 : Int32)))) := by exact (hs_ev_go hp_Row_range [] 17 0 _ [] μ).trans rfl
theorem hp_Row_fraction : hs_prog 45 = (hs_k45, 7, 0) := rfl
set_option maxRecDepth 100000 in
theorem hq_Row_fraction (d : Nat) (x1 : Int64) (x3 : Int64) (μ : hs_M)  : hc_Row_fraction (d + 1) x1 x3 μ =
  hs_bL (hc_Row_commonDivisor d x1 x3 μ) (fun r1 μ1 => (if 0 < (lg_cmp r1 (0 : Int64)) then (if r1 = 0 then none else hs_bV (hc_Row_begin d (x1 / r1) μ1) (fun μ2 => (if r1 = 0 then none else hs_bV (hc_Row_add d (x3 / r1) μ2) (fun μ3 => some (none, μ3))))) else some (none, μ1))) := by exact (hs_ev_go hp_Row_fraction [] 22 0 _ [] μ).trans rfl
noncomputable def he_Row_commonDivisor_3 (d : Nat) (x0 : Int64) (x2 : Int64) (x4 : Int32) (μ : hs_M) : Option (Option hs_V × hs_M) := hs_ev d 46 3 [some (vL x0), none, some (vL x2), none, some (vI x4), none, none] [] μ
theorem hp_Row_commonDivisor : hs_prog 46 = (hs_k46, 7, 2) := rfl
set_option maxRecDepth 100000 in
theorem hq_Row_commonDivisor (d : Nat) (x0 : Int64) (x2 : Int64) (μ : hs_M)  : hc_Row_commonDivisor (d + 1) x0 x2 μ =
  he_Row_commonDivisor_3 d x0 x2 (0 : Int32) μ := by exact (hs_ev_go hp_Row_commonDivisor [3] 24 0 _ [] μ).trans rfl
set_option maxRecDepth 100000 in
theorem hq_Row_commonDivisor_3 (d : Nat) (x0 : Int64) (x2 : Int64) (x4 : Int32) (μ : hs_M)  : he_Row_commonDivisor_3 d x0 x2 x4 μ =
  (if x4 < (200 : Int32) then (if (lg_cmp x2 (0 : Int64)) = 0 then some (some (vL x0), μ) else (if x2 = 0 then none else he_Row_commonDivisor_3 d x2 (x0 - x0 / x2 * x2) (x4 + (1 : Int32)) μ)) else some (some (vL x0), μ)) := by exact (hs_ev_go hp_Row_commonDivisor [3] 24 3 _ [] μ).trans rfl
theorem hp_Scale_shows : hs_prog 47 = (hs_k47, 3, 1) := rfl
set_option maxRecDepth 100000 in
theorem hq_Scale_shows (d : Nat) (x1 : Int32) (μ : hs_M)  : hc_Scale_shows (d + 1) x1 μ =
  (if (x1 + (μ.1 5 0 1)) < 0 then some (some (vI (0 : Int32)), μ) else (if (μ.1 5 0 0) < (1 : Int32) then some (some (vI (x1 + (μ.1 5 0 1))), μ) else (if (μ.1 5 0 0) = 0 then none else some (some (vI ((x1 + (μ.1 5 0 1)) - ((x1 + (μ.1 5 0 1)) - (x1 + (μ.1 5 0 1)) / (μ.1 5 0 0) * (μ.1 5 0 0)))), μ)))) := by exact (hs_ev_go hp_Scale_shows [] 25 0 _ [] μ).trans rfl
noncomputable def he_Scale_misfits_6 (d : Nat) (j1 : Nat) (x3 : Int32) (x4 : Int32) (x5 : Int32) (μ : hs_M) : Option (Option hs_V × hs_M) := hs_ev d 48 6 [some (vR 5 0), some (vR 2 j1), some (vR 24 0), some (vI x3), some (vI x4), some (vI x5), none] [] μ
theorem hp_Scale_misfits : hs_prog 48 = (hs_k48, 7, 1) := rfl
set_option maxRecDepth 100000 in
theorem hq_Scale_misfits (d : Nat) (j1 : Nat) (x3 : Int32) (μ : hs_M)  : hc_Scale_misfits (d + 1) j1 x3 μ =
  he_Scale_misfits_6 d j1 x3 (0 : Int32) (0 : Int32) μ := by exact (hs_ev_go hp_Scale_misfits [6] 46 0 _ [] μ).trans rfl
set_option maxRecDepth 100000 in
theorem hq_Scale_misfits_6 (d : Nat) (j1 : Nat) (x3 : Int32) (x4 : Int32) (x5 : Int32) (μ : hs_M)  : he_Scale_misfits_6 d j1 x3 x4 x5 μ =
  (if x5 < (μ.1 2 j1 2) then hs_bI (hc_Pairs_person d j1 x5 μ) (fun r1 μ1 => (if r1 < 0 then he_Scale_misfits_6 d j1 x3 x4 (x5 + (1 : Int32)) μ1 else (if r1 < (8 : Int32) then (if hs_in r1 8 then hs_bI (hc_Scale_shows d (((μ1.1 24 0 (r1.toNatClampNeg)) + x3) - (μ1.1 5 0 1)) μ1) (fun r2 μ2 => hs_bI (hc_Pairs_value d j1 x5 μ2) (fun r3 μ3 => (if r2 = r3 then he_Scale_misfits_6 d j1 x3 x4 (x5 + (1 : Int32)) μ3 else he_Scale_misfits_6 d j1 x3 (x4 ||| ((1 : Int32) <<< (r1 &&& 31))) (x5 + (1 : Int32)) μ3))) else none) else he_Scale_misfits_6 d j1 x3 x4 (x5 + (1 : Int32)) μ1))) else some (some (vI x4), μ)) := by exact (hs_ev_go hp_Scale_misfits [6] 46 6 _ [] μ).trans rfl
noncomputable def he_Scale_possibleGrains_5 (d : Nat) (j1 : Nat) (x2 : Int32) (x3 : Int32) (x4 : Int32) (μ : hs_M) : Option (Option hs_V × hs_M) := hs_ev d 49 5 [some (vR 5 0), some (vR 2 j1), some (vI x2), some (vI x3), some (vI x4), none, none] [] μ
noncomputable def he_Scale_possibleGrains_18 (d : Nat) (j1 : Nat) (x2 : Int32) (x3 : Int32) (x4 : Int32) (x5 : Int32) (x6 : Int32) (μ : hs_M) : Option (Option hs_V × hs_M) := hs_ev d 49 18 [some (vR 5 0), some (vR 2 j1), some (vI x2), some (vI x3), some (vI x4), some (vI x5), some (vI x6)] [] μ
theorem hp_Scale_possibleGrains : hs_prog 49 = (hs_k49, 7, 1) := rfl
set_option maxRecDepth 100000 in
theorem hq_Scale_possibleGrains (d : Nat) (j1 : Nat) (x2 : Int32) (μ : hs_M)  : hc_Scale_possibleGrains (d + 1) j1 x2 μ =
  he_Scale_possibleGrains_5 d j1 x2 (0 : Int32) (1 : Int32) μ := by exact (hs_ev_go hp_Scale_possibleGrains [5, 18] 43 0 _ [] μ).trans rfl
set_option maxRecDepth 100000 in
theorem hq_Scale_possibleGrains_5 (d : Nat) (j1 : Nat) (x2 : Int32) (x3 : Int32) (x4 : Int32) (μ : hs_M)  : he_Scale_possibleGrains_5 d j1 x2 x3 x4 μ =
  (if (9 : Int32) < x4 then some (some (vI x3), μ) else he_Scale_possibleGrains_18 d j1 x2 x3 x4 (1 : Int32) (0 : Int32) μ) := by exact (hs_ev_go hp_Scale_possibleGrains [5, 18] 43 5 _ [] μ).trans rfl
set_option maxRecDepth 100000 in
theorem hq_Scale_possibleGrains_18 (d : Nat) (j1 : Nat) (x2 : Int32) (x3 : Int32) (x4 : Int32) (x5 : Int32) (x6 : Int32) (μ : hs_M)  : he_Scale_possibleGrains_18 d j1 x2 x3 x4 x5 x6 μ =
  (if x6 < x2 then (if x5 = 0 then (if x5 = 0 then he_Scale_possibleGrains_5 d j1 x2 x3 (x4 + (1 : Int32)) μ else he_Scale_possibleGrains_5 d j1 x2 (x3 ||| ((1 : Int32) <<< (x4 &&& 31))) (x4 + (1 : Int32)) μ) else hs_bI (hc_Scale_narrow d j1 x6 x4 μ) (fun r1 μ1 => (if 0 < r1 then he_Scale_possibleGrains_18 d j1 x2 x3 x4 (1 : Int32) (x6 + (1 : Int32)) μ1 else he_Scale_possibleGrains_18 d j1 x2 x3 x4 (0 : Int32) (x6 + (1 : Int32)) μ1))) else (if x5 = 0 then he_Scale_possibleGrains_5 d j1 x2 x3 (x4 + (1 : Int32)) μ else he_Scale_possibleGrains_5 d j1 x2 (x3 ||| ((1 : Int32) <<< (x4 &&& 31))) (x4 + (1 : Int32)) μ)) := by exact (hs_ev_go hp_Scale_possibleGrains [5, 18] 43 18 _ [] μ).trans rfl
noncomputable def he_Scale_narrow_15 (d : Nat) (j1 : Nat) (x2 : Int32) (x3 : Int32) (x4 : Int32) (μ : hs_M) : Option (Option hs_V × hs_M) := hs_ev d 50 15 [some (vR 5 0), some (vR 2 j1), some (vI x2), some (vI x3), some (vI x4)] [] μ
theorem hp_Scale_narrow : hs_prog 50 = (hs_k50, 5, 1) := rfl
set_option maxRecDepth 100000 in
theorem hq_Scale_narrow (d : Nat) (j1 : Nat) (x2 : Int32) (x3 : Int32) (μ : hs_M)  : hc_Scale_narrow (d + 1) j1 x2 x3 μ =
  he_Scale_narrow_15 d j1 x2 x3 (0 : Int32) (hs_wI (hs_wI μ 5 0 2 (1 : Int32)) 5 0 3 (999 : Int32)) := by exact (hs_ev_go hp_Scale_narrow [15] 38 0 _ [] μ).trans rfl
set_option maxRecDepth 100000 in
theorem hq_Scale_narrow_15 (d : Nat) (j1 : Nat) (x2 : Int32) (x3 : Int32) (x4 : Int32) (μ : hs_M)  : he_Scale_narrow_15 d j1 x2 x3 x4 μ =
  (if x4 < (μ.1 2 j1 2) then hs_bI (hc_Pairs_person d j1 x4 μ) (fun r1 μ1 => (if r1 = x2 then hs_bI (hc_Pairs_value d j1 x4 μ1) (fun r2 μ2 => hs_bV (hc_Scale_narrowBy d r2 x3 μ2) (fun μ3 => he_Scale_narrow_15 d j1 x2 x3 (x4 + (1 : Int32)) μ3)) else he_Scale_narrow_15 d j1 x2 x3 (x4 + (1 : Int32)) μ1)) else hs_bI (hc_Math_max d (0 : Int32) (((μ.1 5 0 3) - (μ.1 5 0 2)) + (1 : Int32)) μ) (fun r4 μ4 => some (some (vI r4), μ4))) := by exact (hs_ev_go hp_Scale_narrow [15] 38 15 _ [] μ).trans rfl
theorem hp_Scale_narrowBy : hs_prog 51 = (hs_k51, 3, 0) := rfl
set_option maxRecDepth 100000 in
theorem hq_Scale_narrowBy (d : Nat) (x1 : Int32) (x2 : Int32) (μ : hs_M)  : hc_Scale_narrowBy (d + 1) x1 x2 μ =
  (if x2 < (1 : Int32) then some (none, (hs_wI μ 5 0 3 (0 : Int32))) else (if x2 = 0 then none else (if (x1 - x1 / x2 * x2) = 0 then (if 0 < x1 then hs_bI (hc_Math_max d (μ.1 5 0 2) (x1 - (μ.1 5 0 1)) μ) (fun r1 μ1 => hs_bI (hc_Math_min d (μ1.1 5 0 3) (((x1 + x2) - (1 : Int32)) - (μ1.1 5 0 1)) (hs_wI μ1 5 0 2 r1)) (fun r2 μ2 => some (none, (hs_wI μ2 5 0 3 r2)))) else hs_bI (hc_Math_min d (μ.1 5 0 3) (((x1 + x2) - (1 : Int32)) - (μ.1 5 0 1)) μ) (fun r3 μ3 => some (none, (hs_wI μ3 5 0 3 r3)))) else some (none, (hs_wI μ 5 0 3 (0 : Int32)))))) := by exact (hs_ev_go hp_Scale_narrowBy [] 39 0 _ [] μ).trans rfl
theorem hp_State_follow : hs_prog 52 = (hs_k52, 2, 0) := rfl
set_option maxRecDepth 100000 in
theorem hq_State_follow (d : Nat) (j0 : Nat) (j1 : Nat) (μ : hs_M)  : hc_State_follow (d + 1) j0 j1 μ =
  some (none, (hs_cp (hs_cp (hs_wI (hs_wI (hs_wI (hs_wI (hs_wI (hs_wI μ 6 j0 0 (μ.1 6 j1 0)) 6 j0 1 (μ.1 6 j1 1)) 6 j0 2 (μ.1 6 j1 2)) 6 j0 3 (μ.1 6 j1 3)) 6 j0 4 (μ.1 6 j1 4)) 6 j0 5 (μ.1 6 j1 5)) 24 j1 0 24 j0 0 8) 25 j1 0 25 j0 0 8)) := by exact (hs_ev_go hp_State_follow [] 44 0 _ [] μ).trans rfl
theorem hp_State_copy : hs_prog 53 = (hs_k53, 2, 0) := rfl
set_option maxRecDepth 100000 in
theorem hq_State_copy (d : Nat) (j0 : Nat) (j1 : Nat) (μ : hs_M)  : hc_State_copy (d + 1) j0 j1 μ =
  hs_bV (hc_State_follow d j0 j1 μ) (fun μ1 => some (none, (hs_cp (hs_cp (hs_cp (hs_cp (hs_wI μ1 6 j0 6 (μ1.1 6 j1 6)) 26 j1 0 26 j0 0 12) 27 j1 0 27 j0 0 12) 28 j1 0 28 j0 0 12) 29 j1 0 29 j0 0 60))) := by exact (hs_ev_go hp_State_copy [] 43 0 _ [] μ).trans rfl
theorem hp_State_welcome : hs_prog 54 = (hs_k54, 3, 0) := rfl
set_option maxRecDepth 100000 in
theorem hq_State_welcome (d : Nat) (j0 : Nat) (x1 : Int32) (x2 : Int32) (μ : hs_M)  : hc_State_welcome (d + 1) j0 x1 x2 μ =
  (if x1 < 0 then some (none, μ) else (if x1 < (8 : Int32) then (if hs_in x1 8 then (if hs_in x1 8 then some (none, (hs_wI (hs_wI (hs_wI μ 24 j0 (x1.toNatClampNeg) x2) 25 j0 (x1.toNatClampNeg) (0 : Int32)) 6 j0 3 ((μ.1 6 j0 3) ||| ((1 : Int32) <<< (x1 &&& 31))))) else none) else none) else some (none, μ))) := by exact (hs_ev_go hp_State_welcome [] 27 0 _ [] μ).trans rfl
theorem hp_State_lives : hs_prog 55 = (hs_k55, 2, 3) := rfl
set_option maxRecDepth 100000 in
theorem hq_State_lives (d : Nat) (j0 : Nat) (x1 : Int32) (μ : hs_M)  : hc_State_lives (d + 1) j0 x1 μ =
  (if (((μ.1 6 j0 3) >>> (x1 &&& 31)) &&& (1 : Int32)) = 0 then hs_rz (0 : Int32) μ else hs_rz (1 : Int32) μ) := by exact (hs_ev_go hp_State_lives [] 14 0 _ [] μ).trans rfl
theorem hp_State_putWeight : hs_prog 56 = (hs_k56, 3, 0) := rfl
set_option maxRecDepth 100000 in
theorem hq_State_putWeight (d : Nat) (j0 : Nat) (x1 : Int32) (x2 : Int32) (μ : hs_M)  : hc_State_putWeight (d + 1) j0 x1 x2 μ =
  (if x1 < 0 then some (none, μ) else (if x1 < (8 : Int32) then hs_bI (hc_H_inBounds d x2 μ) (fun r1 μ1 => (if hs_in x1 8 then some (none, (hs_wI μ1 24 j0 (x1.toNatClampNeg) r1)) else none)) else some (none, μ))) := by exact (hs_ev_go hp_State_putWeight [] 15 0 _ [] μ).trans rfl
theorem hp_State_makeLaw : hs_prog 57 = (hs_k57, 2, 1) := rfl
set_option maxRecDepth 100000 in
theorem hq_State_makeLaw (d : Nat) (j0 : Nat) (μ : hs_M)  : hc_State_makeLaw (d + 1) j0 μ =
  (if (μ.1 6 j0 6) < 0 then some (some (vI (-1 : Int32)), μ) else (if (μ.1 6 j0 6) < (12 : Int32) then (if hs_in (μ.1 6 j0 6) 12 then (if hs_in (μ.1 6 j0 6) 12 then (if hs_in (μ.1 6 j0 6) 12 then some (some (vI (μ.1 6 j0 6)), (hs_wI (hs_wI (hs_wI (hs_wI (hs_wI (hs_wI μ 26 j0 ((μ.1 6 j0 6).toNatClampNeg) (μ.1 6 j0 1)) 27 j0 ((μ.1 6 j0 6).toNatClampNeg) (μ.1 6 j0 0)) 28 j0 ((μ.1 6 j0 6).toNatClampNeg) (-1 : Int32)) 6 j0 4 ((μ.1 6 j0 4) ||| ((1 : Int32) <<< ((μ.1 6 j0 6) &&& 31)))) 6 j0 5 ((μ.1 6 j0 5) + (1 : Int32))) 6 j0 6 ((μ.1 6 j0 6) + (1 : Int32)))) else none) else none) else none) else some (some (vI (-1 : Int32)), μ))) := by exact (hs_ev_go hp_State_makeLaw [] 52 0 _ [] μ).trans rfl
noncomputable def he_State_dropLaws_7 (d : Nat) (j0 : Nat) (x1 : Int32) (x2 : Int32) (μ : hs_M) : Option (Option hs_V × hs_M) := hs_ev d 58 7 [some (vR 6 j0), some (vI x1), some (vI x2)] [] μ
theorem hp_State_dropLaws : hs_prog 58 = (hs_k58, 3, 1) := rfl
set_option maxRecDepth 100000 in
theorem hq_State_dropLaws (d : Nat) (j0 : Nat) (μ : hs_M)  : hc_State_dropLaws (d + 1) j0 μ =
  he_State_dropLaws_7 d j0 (μ.1 6 j0 5) (0 : Int32) μ := by exact (hs_ev_go hp_State_dropLaws [7] 36 0 _ [] μ).trans rfl
set_option maxRecDepth 100000 in
theorem hq_State_dropLaws_7 (d : Nat) (j0 : Nat) (x1 : Int32) (x2 : Int32) (μ : hs_M)  : he_State_dropLaws_7 d j0 x1 x2 μ =
  (if x2 < (12 : Int32) then (if 0 < x1 then (if (((μ.1 6 j0 4) >>> (x2 &&& 31)) &&& (1 : Int32)) = 0 then he_State_dropLaws_7 d j0 x1 (x2 + (1 : Int32)) μ else (if hs_in x2 12 then he_State_dropLaws_7 d j0 x1 (x2 + (1 : Int32)) (hs_wI μ 28 j0 (x2.toNatClampNeg) (μ.1 6 j0 0)) else none)) else some (some (vI x1), (hs_wI (hs_wI μ 6 j0 4 (0 : Int32)) 6 j0 5 (0 : Int32)))) else some (some (vI x1), (hs_wI (hs_wI μ 6 j0 4 (0 : Int32)) 6 j0 5 (0 : Int32)))) := by exact (hs_ev_go hp_State_dropLaws [7] 36 7 _ [] μ).trans rfl
theorem hp_State_bury : hs_prog 59 = (hs_k59, 2, 1) := rfl
set_option maxRecDepth 100000 in
theorem hq_State_bury (d : Nat) (j0 : Nat) (x1 : Int32) (μ : hs_M)  : hc_State_bury (d + 1) j0 x1 μ =
  (if (μ.1 6 j0 1) = x1 then hs_bI (hc_State_dropLaws d j0 (hs_wI (hs_wI (hs_wI μ 6 j0 3 ((μ.1 6 j0 3) &&& (((1 : Int32) <<< (x1 &&& 31)) ^^^ (-1 : Int32)))) 6 j0 1 (-1 : Int32)) 6 j0 2 (0 : Int32))) (fun r1 μ1 => some (some (vI r1), μ1)) else some (some (vI (0 : Int32)), (hs_wI μ 6 j0 3 ((μ.1 6 j0 3) &&& (((1 : Int32) <<< (x1 &&& 31)) ^^^ (-1 : Int32)))))) := by exact (hs_ev_go hp_State_bury [] 28 0 _ [] μ).trans rfl
noncomputable def he_State_serveWeek_59 (d : Nat) (j0 : Nat) (μ : hs_M) : Option (Option hs_V × hs_M) := hs_ev d 60 59 [some (vR 6 j0), none] [] μ
theorem hp_State_serveWeek : hs_prog 60 = (hs_k60, 2, 0) := rfl
set_option maxRecDepth 100000 in
theorem hq_State_serveWeek (d : Nat) (j0 : Nat) (x1 : Int32) (μ : hs_M)  : hc_State_serveWeek (d + 1) j0 x1 μ =
  (if x1 = (-1 : Int32) then (if (μ.1 6 j0 1) < 0 then he_State_serveWeek_59 d j0 μ else (if (μ.1 6 j0 1) < (8 : Int32) then (if hs_in (μ.1 6 j0 1) 8 then (if hs_in (μ.1 6 j0 1) 8 then he_State_serveWeek_59 d j0 (hs_wI (hs_wI μ 6 j0 2 ((μ.1 6 j0 2) + (1 : Int32))) 25 j0 ((μ.1 6 j0 1).toNatClampNeg) ((μ.1 25 j0 ((μ.1 6 j0 1).toNatClampNeg)) + (1 : Int32))) else none) else none) else he_State_serveWeek_59 d j0 μ)) else hs_bI (hc_State_dropLaws d j0 μ) (fun r1 μ1 => (if ((hs_wI μ1 6 j0 1 x1).1 6 j0 1) < 0 then he_State_serveWeek_59 d j0 (hs_wI (hs_wI μ1 6 j0 1 x1) 6 j0 2 (0 : Int32)) else (if ((hs_wI μ1 6 j0 1 x1).1 6 j0 1) < (8 : Int32) then (if hs_in ((hs_wI μ1 6 j0 1 x1).1 6 j0 1) 8 then (if hs_in ((hs_wI μ1 6 j0 1 x1).1 6 j0 1) 8 then he_State_serveWeek_59 d j0 (hs_wI (hs_wI (hs_wI (hs_wI μ1 6 j0 1 x1) 6 j0 2 (0 : Int32)) 6 j0 2 (((hs_wI (hs_wI μ1 6 j0 1 x1) 6 j0 2 (0 : Int32)).1 6 j0 2) + (1 : Int32))) 25 j0 (((hs_wI μ1 6 j0 1 x1).1 6 j0 1).toNatClampNeg) ((μ1.1 25 j0 (((hs_wI μ1 6 j0 1 x1).1 6 j0 1).toNatClampNeg)) + (1 : Int32))) else none) else none) else he_State_serveWeek_59 d j0 (hs_wI (hs_wI μ1 6 j0 1 x1) 6 j0 2 (0 : Int32)))))) := by exact (hs_ev_go hp_State_serveWeek [59] 47 0 _ [] μ).trans rfl
set_option maxRecDepth 100000 in
theorem hq_State_serveWeek_59 (d : Nat) (j0 : Nat) (μ : hs_M)  : he_State_serveWeek_59 d j0 μ =
  hs_bI (hc_Math_floorMod d (μ.1 6 j0 0) (60 : Int32) μ) (fun r1 μ1 => (if hs_in r1 60 then some (none, (hs_wI μ1 29 j0 (r1.toNatClampNeg) (μ1.1 6 j0 1))) else none)) := by exact (hs_ev_go hp_State_serveWeek [59] 47 59 _ [] μ).trans rfl
noncomputable def he_Text_append_20 (d : Nat) (x1 : Int32) (x2 : Int32) (μ : hs_M) : Option (Option hs_V × hs_M) := hs_ev d 61 20 [some (vR 7 0), some (vI x1), some (vI x2)] [] μ
theorem hp_Text_append : hs_prog 61 = (hs_k61, 3, 3) := rfl
set_option maxRecDepth 100000 in
theorem hq_Text_append (d : Nat) (x1 : Int32) (μ : hs_M)  : hc_Text_append (d + 1) x1 μ =
  (if (μ.1 7 0 1) < 0 then hs_rz (0 : Int32) μ else (if (76 : Int32) < (μ.1 7 0 1) then hs_rz (0 : Int32) μ else he_Text_append_20 d x1 (0 : Int32) μ)) := by exact (hs_ev_go hp_Text_append [20] 43 0 _ [] μ).trans rfl
set_option maxRecDepth 100000 in
theorem hq_Text_append_20 (d : Nat) (x1 : Int32) (x2 : Int32) (μ : hs_M)  : he_Text_append_20 d x1 x2 μ =
  (if x2 < (4 : Int32) then (if hs_in ((μ.1 7 0 1) + x2) 80 then he_Text_append_20 d x1 (x2 + (1 : Int32)) (hs_wI μ 13 0 (((μ.1 7 0 1) + x2).toNatClampNeg) (((x1.toUInt32 >>> (((24 : Int32) - ((8 : Int32) * x2)).toUInt32 &&& Int32.toUInt32 31)).toInt32) &&& (255 : Int32))) else none) else hs_rz (1 : Int32) (hs_wI μ 7 0 1 ((μ.1 7 0 1) + (4 : Int32)))) := by exact (hs_ev_go hp_Text_append [20] 43 20 _ [] μ).trans rfl
theorem hp_Text_open : hs_prog 62 = (hs_k62, 2, 0) := rfl
set_option maxRecDepth 100000 in
theorem hq_Text_open (d : Nat) (x1 : Int32) (μ : hs_M)  : hc_Text_open (d + 1) x1 μ =
  hs_bI (hc_Math_min d (μ.1 7 0 1) x1 μ) (fun r1 μ1 => some (none, (hs_wI μ1 7 0 2 r1))) := by exact (hs_ev_go hp_Text_open [] 10 0 _ [] μ).trans rfl
theorem hp_Text_signAt : hs_prog 63 = (hs_k63, 2, 1) := rfl
set_option maxRecDepth 100000 in
theorem hq_Text_signAt (d : Nat) (x1 : Int32) (μ : hs_M)  : hc_Text_signAt (d + 1) x1 μ =
  (if x1 < 0 then some (some (vI (-1 : Int32)), μ) else (if x1 < (μ.1 7 0 2) then (if x1 < (80 : Int32) then (if hs_in x1 80 then some (some (vI (μ.1 13 0 (x1.toNatClampNeg))), μ) else none) else some (some (vI (-1 : Int32)), μ)) else some (some (vI (-1 : Int32)), μ))) := by exact (hs_ev_go hp_Text_signAt [] 19 0 _ [] μ).trans rfl
theorem hp_Text_digitAt : hs_prog 64 = (hs_k64, 3, 1) := rfl
set_option maxRecDepth 100000 in
theorem hq_Text_digitAt (d : Nat) (x1 : Int32) (μ : hs_M)  : hc_Text_digitAt (d + 1) x1 μ =
  hs_bI (hc_Text_signAt d x1 μ) (fun r1 μ1 => (if r1 < (48 : Int32) then some (some (vI (-1 : Int32)), μ1) else (if (57 : Int32) < r1 then some (some (vI (-1 : Int32)), μ1) else some (some (vI (r1 - (48 : Int32))), μ1)))) := by exact (hs_ev_go hp_Text_digitAt [] 19 0 _ [] μ).trans rfl
theorem hp_Town_has : hs_prog 65 = (hs_k65, 2, 3) := rfl
set_option maxRecDepth 100000 in
theorem hq_Town_has (d : Nat) (x1 : Int32) (μ : hs_M)  : hc_Town_has (d + 1) x1 μ =
  (if x1 < 0 then hs_rz (0 : Int32) μ else (if x1 < (μ.1 8 0 9) then (if x1 < (8 : Int32) then hs_rz (1 : Int32) μ else hs_rz (0 : Int32) μ) else hs_rz (0 : Int32) μ)) := by exact (hs_ev_go hp_Town_has [] 16 0 _ [] μ).trans rfl
theorem hp_Town_everyone : hs_prog 66 = (hs_k66, 1, 1) := rfl
set_option maxRecDepth 100000 in
theorem hq_Town_everyone (d : Nat)  (μ : hs_M)  : hc_Town_everyone (d + 1)  μ =
  some (some (vI (((1 : Int32) <<< ((μ.1 8 0 9) &&& 31)) - (1 : Int32))), μ) := by exact (hs_ev_go hp_Town_everyone [] 10 0 _ [] μ).trans rfl
noncomputable def he_Town_ofParty_4 (d : Nat) (x1 : Int32) (x2 : Int32) (x3 : Int32) (μ : hs_M) : Option (Option hs_V × hs_M) := hs_ev d 67 4 [some (vR 8 0), some (vI x1), some (vI x2), some (vI x3)] [] μ
theorem hp_Town_ofParty : hs_prog 67 = (hs_k67, 4, 1) := rfl
set_option maxRecDepth 100000 in
theorem hq_Town_ofParty (d : Nat) (x1 : Int32) (μ : hs_M)  : hc_Town_ofParty (d + 1) x1 μ =
  he_Town_ofParty_4 d x1 (0 : Int32) (0 : Int32) μ := by exact (hs_ev_go hp_Town_ofParty [4] 27 0 _ [] μ).trans rfl
set_option maxRecDepth 100000 in
theorem hq_Town_ofParty_4 (d : Nat) (x1 : Int32) (x2 : Int32) (x3 : Int32) (μ : hs_M)  : he_Town_ofParty_4 d x1 x2 x3 μ =
  (if x3 < (μ.1 8 0 9) then (if hs_in x3 8 then (if (μ.1 15 0 (x3.toNatClampNeg)) = x1 then he_Town_ofParty_4 d x1 (x2 ||| ((1 : Int32) <<< (x3 &&& 31))) (x3 + (1 : Int32)) μ else he_Town_ofParty_4 d x1 x2 (x3 + (1 : Int32)) μ) else none) else some (some (vI x2), μ)) := by exact (hs_ev_go hp_Town_ofParty [4] 27 4 _ [] μ).trans rfl
theorem hp_Town_arriving : hs_prog 68 = (hs_k68, 2, 1) := rfl
set_option maxRecDepth 100000 in
theorem hq_Town_arriving (d : Nat) (x1 : Int32) (μ : hs_M)  : hc_Town_arriving (d + 1) x1 μ =
  (if x1 < 0 then some (some (vI (1 : Int32)), μ) else (if x1 < (8 : Int32) then (if hs_in x1 8 then some (some (vI (μ.1 19 0 (x1.toNatClampNeg))), μ) else none) else some (some (vI (1 : Int32)), μ))) := by exact (hs_ev_go hp_Town_arriving [] 15 0 _ [] μ).trans rfl
theorem hp_Town_changeAt : hs_prog 69 = (hs_k69, 4, 1) := rfl
set_option maxRecDepth 100000 in
theorem hq_Town_changeAt (d : Nat) (x1 : Int32) (x2 : Int32) (μ : hs_M)  : hc_Town_changeAt (d + 1) x1 x2 μ =
  (if ((x1 * (6 : Int32)) + x2) < 0 then some (some (vI (0 : Int32)), μ) else (if ((x1 * (6 : Int32)) + x2) < (48 : Int32) then (if hs_in ((x1 * (6 : Int32)) + x2) 48 then some (some (vI (μ.1 18 0 (((x1 * (6 : Int32)) + x2).toNatClampNeg))), μ) else none) else some (some (vI (0 : Int32)), μ))) := by exact (hs_ev_go hp_Town_changeAt [] 23 0 _ [] μ).trans rfl
noncomputable def he_Town_changeWeights_2 (d : Nat) (j1 : Nat) (x2 : Int32) (μ : hs_M) : Option (Option hs_V × hs_M) := hs_ev d 70 2 [some (vR 8 0), some (vR 6 j1), some (vI x2), none, none] [] μ
theorem hp_Town_changeWeights : hs_prog 70 = (hs_k70, 5, 0) := rfl
set_option maxRecDepth 100000 in
theorem hq_Town_changeWeights (d : Nat) (j1 : Nat) (μ : hs_M)  : hc_Town_changeWeights (d + 1) j1 μ =
  he_Town_changeWeights_2 d j1 (0 : Int32) μ := by exact (hs_ev_go hp_Town_changeWeights [2] 46 0 _ [] μ).trans rfl
set_option maxRecDepth 100000 in
theorem hq_Town_changeWeights_2 (d : Nat) (j1 : Nat) (x2 : Int32) (μ : hs_M)  : he_Town_changeWeights_2 d j1 x2 μ =
  (if x2 < (μ.1 8 0 9) then (if hs_in x2 8 then (if 0 < (μ.1 17 0 (x2.toNatClampNeg)) then hs_bI (hc_State_lives d j1 x2 μ) (fun r1 μ1 => (if r1 = 0 then he_Town_changeWeights_2 d j1 (x2 + (1 : Int32)) μ1 else hs_bI (hc_Math_floorMod d (μ1.1 6 j1 0) (μ.1 17 0 (x2.toNatClampNeg)) μ1) (fun r2 μ2 => (if hs_in ((x2 * (6 : Int32)) + r2) 48 then (if hs_in x2 8 then hs_bI (hc_H_inBounds d ((μ2.1 24 j1 (x2.toNatClampNeg)) + (μ2.1 18 0 (((x2 * (6 : Int32)) + r2).toNatClampNeg))) μ2) (fun r3 μ3 => (if hs_in x2 8 then he_Town_changeWeights_2 d j1 (x2 + (1 : Int32)) (hs_wI μ3 24 j1 (x2.toNatClampNeg) r3) else none)) else none) else none)))) else he_Town_changeWeights_2 d j1 (x2 + (1 : Int32)) μ) else none) else some (none, μ)) := by exact (hs_ev_go hp_Town_changeWeights [2] 46 2 _ [] μ).trans rfl
noncomputable def he_Town_weightLater_19 (d : Nat) (j1 : Nat) (x2 : Int32) (x3 : Int32) (x4 : Int32) (x5 : Int32) (x6 : Int32) (μ : hs_M) : Option (Option hs_V × hs_M) := hs_ev d 71 19 [some (vR 8 0), some (vR 6 j1), some (vI x2), some (vI x3), some (vI x4), some (vI x5), some (vI x6)] [] μ
theorem hp_Town_weightLater : hs_prog 71 = (hs_k71, 7, 1) := rfl
set_option maxRecDepth 100000 in
theorem hq_Town_weightLater (d : Nat) (j1 : Nat) (x2 : Int32) (x3 : Int32) (μ : hs_M)  : hc_Town_weightLater (d + 1) j1 x2 x3 μ =
  (if hs_in x2 8 then (if hs_in x2 8 then he_Town_weightLater_19 d j1 x2 x3 (μ.1 24 j1 (x2.toNatClampNeg)) (μ.1 17 0 (x2.toNatClampNeg)) (0 : Int32) μ else none) else none) := by exact (hs_ev_go hp_Town_weightLater [19] 37 0 _ [] μ).trans rfl
set_option maxRecDepth 100000 in
theorem hq_Town_weightLater_19 (d : Nat) (j1 : Nat) (x2 : Int32) (x3 : Int32) (x4 : Int32) (x5 : Int32) (x6 : Int32) (μ : hs_M)  : he_Town_weightLater_19 d j1 x2 x3 x4 x5 x6 μ =
  (if x6 < x3 then (if 0 < x5 then hs_bI (hc_Math_floorMod d ((μ.1 6 j1 0) + x6) x5 μ) (fun r1 μ1 => hs_bI (hc_Town_changeAt d x2 r1 μ1) (fun r2 μ2 => hs_bI (hc_H_inBounds d (x4 + r2) μ2) (fun r3 μ3 => he_Town_weightLater_19 d j1 x2 x3 r3 x5 (x6 + (1 : Int32)) μ3))) else some (some (vI x4), μ)) else some (some (vI x4), μ)) := by exact (hs_ev_go hp_Town_weightLater [19] 37 19 _ [] μ).trans rfl
theorem hp_Town_copyPerson : hs_prog 72 = (hs_k72, 3, 0) := rfl
set_option maxRecDepth 100000 in
theorem hq_Town_copyPerson (d : Nat) (x1 : Int32) (x2 : Int32) (μ : hs_M)  : hc_Town_copyPerson (d + 1) x1 x2 μ =
  (if hs_in x1 8 then (if hs_in x2 8 then (if hs_in x1 8 then (if hs_in x2 8 then (if hs_in x1 8 then (if hs_in x2 8 then (if hs_cok (x1 * (6 : Int32)) (x2 * (6 : Int32)) (6 : Int32) 48 48 then some (none, (hs_cp (hs_wI (hs_wI (hs_wI μ 15 0 (x2.toNatClampNeg) (μ.1 15 0 (x1.toNatClampNeg))) 16 0 (x2.toNatClampNeg) (μ.1 16 0 (x1.toNatClampNeg))) 17 0 (x2.toNatClampNeg) (μ.1 17 0 (x1.toNatClampNeg))) 18 0 ((x1 * (6 : Int32)).toNatClampNeg) 18 0 ((x2 * (6 : Int32)).toNatClampNeg) 6)) else none) else none) else none) else none) else none) else none) else none) := by exact (hs_ev_go hp_Town_copyPerson [] 40 0 _ [] μ).trans rfl
noncomputable def he_Town_readLines_21 (d : Nat) (x2 : Int32) (μ : hs_M) : Option (Option hs_V × hs_M) := hs_ev d 73 21 [some (vR 8 0), some (vR 7 0), some (vI x2)] [] μ
theorem hp_Town_readLines : hs_prog 73 = (hs_k73, 3, 1) := rfl
set_option maxRecDepth 100000 in
theorem hq_Town_readLines (d : Nat)  (μ : hs_M)  : hc_Town_readLines (d + 1)  μ =
  hs_bV (hc_Text_open d (76 : Int32) μ) (fun μ1 => he_Town_readLines_21 d (μ1.1 8 0 9) (hs_wI (hs_wI μ1 8 0 7 (0 : Int32)) 8 0 8 (0 : Int32))) := by exact (hs_ev_go hp_Town_readLines [21] 60 0 _ [] μ).trans rfl
set_option maxRecDepth 100000 in
theorem hq_Town_readLines_21 (d : Nat) (x2 : Int32) (μ : hs_M)  : he_Town_readLines_21 d x2 μ =
  (if (8 : Int32) < x2 then (if (μ.1 8 0 7) < (μ.1 7 0 1) then some (some (vI (μ.1 8 0 7)), μ) else some (some (vI (-1 : Int32)), μ)) else (if x2 = (8 : Int32) then some (some (vI (μ.1 8 0 7)), μ) else hs_bI (hc_Town_readLine d x2 μ) (fun r1 μ1 => (if r1 = 0 then some (some (vI (μ1.1 8 0 7)), μ1) else hs_bI (hc_Text_signAt d (μ1.1 8 0 7) (hs_wI μ1 8 0 8 ((μ1.1 8 0 8) + (1 : Int32)))) (fun r2 μ2 => (if r2 = (59 : Int32) then he_Town_readLines_21 d (x2 + (1 : Int32)) (hs_wI μ2 8 0 7 ((μ2.1 8 0 7) + (1 : Int32))) else (if (μ2.1 8 0 7) < (μ2.1 7 0 1) then some (some (vI (μ2.1 8 0 7)), μ2) else some (some (vI (-1 : Int32)), μ2)))))))) := by exact (hs_ev_go hp_Town_readLines [21] 60 21 _ [] μ).trans rfl
end
section
/-! ===== the equations of the methods, 3 ===== -/
theorem hp_Town_readHabit : hs_prog 74 = (hs_k74, 3, 1) := rfl
set_option maxRecDepth 100000 in
theorem hq_Town_readHabit (d : Nat) (x2 : Int32) (μ : hs_M)  : hc_Town_readHabit (d + 1) x2 μ =
  hs_bV (hc_Text_open d (12 : Int32) μ) (fun μ1 => hs_bI (hc_Town_readChanges d (hs_wI μ1 8 0 7 (0 : Int32))) (fun r2 μ2 => (if r2 = 0 then some (some (vI (μ2.1 8 0 7)), μ2) else (if (μ2.1 8 0 7) < (μ2.1 7 0 1) then some (some (vI (μ2.1 8 0 7)), μ2) else hs_bV (hc_Town_takeDraft d x2 μ2) (fun μ3 => some (some (vI (-1 : Int32)), μ3)))))) := by exact (hs_ev_go hp_Town_readHabit [] 26 0 _ [] μ).trans rfl
theorem hp_Town_readLine : hs_prog 75 = (hs_k75, 3, 3) := rfl
set_option maxRecDepth 100000 in
theorem hq_Town_readLine (d : Nat) (x2 : Int32) (μ : hs_M)  : hc_Town_readLine (d + 1) x2 μ =
  hs_bI (hc_Town_readWeight d x2 μ) (fun r1 μ1 => (if r1 = 0 then hs_rz (0 : Int32) μ1 else hs_bI (hc_Town_readParty d x2 μ1) (fun r2 μ2 => (if r2 = 0 then hs_rz (0 : Int32) μ2 else hs_bI (hc_Town_readChanges d μ2) (fun r3 μ3 => (if r3 = 0 then hs_rz (0 : Int32) μ3 else hs_bV (hc_Town_takeDraft d x2 μ3) (fun μ4 => (if hs_in x2 8 then hs_rz (1 : Int32) (hs_wI μ4 16 0 (x2.toNatClampNeg) (0 : Int32)) else none)))))))) := by exact (hs_ev_go hp_Town_readLine [] 29 0 _ [] μ).trans rfl
noncomputable def he_Town_readWeight_5 (d : Nat) (x2 : Int32) (x3 : Int32) (x4 : Int32) (μ : hs_M) : Option (Option hs_V × hs_M) := hs_ev d 76 5 [some (vR 8 0), some (vR 7 0), some (vI x2), some (vI x3), some (vI x4)] [] μ
noncomputable def he_Town_readWeight_72 (d : Nat) (x2 : Int32) (x3 : Int32) (μ : hs_M) : Option (Option hs_V × hs_M) := hs_ev d 76 72 [some (vR 8 0), none, some (vI x2), some (vI x3), none] [] μ
theorem hp_Town_readWeight : hs_prog 76 = (hs_k76, 5, 3) := rfl
set_option maxRecDepth 100000 in
theorem hq_Town_readWeight (d : Nat) (x2 : Int32) (μ : hs_M)  : hc_Town_readWeight (d + 1) x2 μ =
  he_Town_readWeight_5 d x2 (0 : Int32) (0 : Int32) μ := by exact (hs_ev_go hp_Town_readWeight [5, 72] 54 0 _ [] μ).trans rfl
set_option maxRecDepth 100000 in
theorem hq_Town_readWeight_5 (d : Nat) (x2 : Int32) (x3 : Int32) (x4 : Int32) (μ : hs_M)  : he_Town_readWeight_5 d x2 x3 x4 μ =
  (if x4 < (3 : Int32) then hs_bI (hc_Text_digitAt d (μ.1 8 0 7) μ) (fun r1 μ1 => (if r1 = (-1 : Int32) then (if 0 < x4 then (if x3 = 0 then he_Town_readWeight_72 d x2 x3 (hs_wI μ1 8 0 7 ((μ1.1 8 0 7) - (1 : Int32))) else he_Town_readWeight_72 d x2 x3 μ1) else he_Town_readWeight_72 d x2 x3 μ1) else hs_bI (hc_Text_digitAt d (μ1.1 8 0 7) μ1) (fun r2 μ2 => he_Town_readWeight_5 d x2 ((x3 * (10 : Int32)) + r2) (x4 + (1 : Int32)) (hs_wI μ2 8 0 7 ((μ2.1 8 0 7) + (1 : Int32)))))) else (if 0 < x4 then (if x3 = 0 then he_Town_readWeight_72 d x2 x3 (hs_wI μ 8 0 7 ((μ.1 8 0 7) - (1 : Int32))) else he_Town_readWeight_72 d x2 x3 μ) else he_Town_readWeight_72 d x2 x3 μ)) := by exact (hs_ev_go hp_Town_readWeight [5, 72] 54 5 _ [] μ).trans rfl
set_option maxRecDepth 100000 in
theorem hq_Town_readWeight_72 (d : Nat) (x2 : Int32) (x3 : Int32) (μ : hs_M)  : he_Town_readWeight_72 d x2 x3 μ =
  (if hs_in x2 8 then (if 0 < x3 then hs_rz (1 : Int32) (hs_wI μ 19 0 (x2.toNatClampNeg) x3) else hs_rz (0 : Int32) (hs_wI μ 19 0 (x2.toNatClampNeg) x3)) else none) := by exact (hs_ev_go hp_Town_readWeight [5, 72] 54 72 _ [] μ).trans rfl
theorem hp_Town_readParty : hs_prog 77 = (hs_k77, 4, 3) := rfl
set_option maxRecDepth 100000 in
theorem hq_Town_readParty (d : Nat) (x2 : Int32) (μ : hs_M)  : hc_Town_readParty (d + 1) x2 μ =
  (if hs_in x2 8 then hs_bI (hc_Text_signAt d (μ.1 8 0 7) (hs_wI μ 15 0 (x2.toNatClampNeg) (0 : Int32))) (fun r1 μ1 => (if r1 = (42 : Int32) then hs_bI (hc_Text_digitAt d ((μ1.1 8 0 7) + (1 : Int32)) (hs_wI μ1 8 0 7 ((μ1.1 8 0 7) + (1 : Int32)))) (fun r2 μ2 => (if r2 = (-1 : Int32) then hs_rz (0 : Int32) μ2 else (if r2 < (4 : Int32) then (if hs_in x2 8 then hs_rz (1 : Int32) (hs_wI (hs_wI μ2 15 0 (x2.toNatClampNeg) r2) 8 0 7 ((μ2.1 8 0 7) + (1 : Int32))) else none) else hs_rz (0 : Int32) μ2))) else hs_rz (1 : Int32) μ1)) else none) := by exact (hs_ev_go hp_Town_readParty [] 48 0 _ [] μ).trans rfl
noncomputable def he_Town_readChanges_7 (d : Nat) (x2 : Int32) (μ : hs_M) : Option (Option hs_V × hs_M) := hs_ev d 78 7 [some (vR 8 0), some (vR 7 0), some (vI x2), none] [] μ
theorem hp_Town_readChanges : hs_prog 78 = (hs_k78, 4, 3) := rfl
set_option maxRecDepth 100000 in
theorem hq_Town_readChanges (d : Nat)  (μ : hs_M)  : hc_Town_readChanges (d + 1)  μ =
  he_Town_readChanges_7 d (0 : Int32) (hs_wI μ 8 0 6 (0 : Int32)) := by exact (hs_ev_go hp_Town_readChanges [7] 75 0 _ [] μ).trans rfl
set_option maxRecDepth 100000 in
theorem hq_Town_readChanges_7 (d : Nat) (x2 : Int32) (μ : hs_M)  : he_Town_readChanges_7 d x2 μ =
  (if x2 < (6 : Int32) then hs_bI (hc_Text_signAt d (μ.1 8 0 7) μ) (fun r1 μ1 => hs_bI (hc_Town_isChangeSign d r1 μ1) (fun r2 μ2 => (if r2 = 0 then hs_rz (1 : Int32) μ2 else hs_bI (hc_Text_digitAt d ((μ2.1 8 0 7) + (1 : Int32)) μ2) (fun r3 μ3 => (if r3 = (-1 : Int32) then hs_rz (0 : Int32) (hs_wI μ3 8 0 7 ((μ3.1 8 0 7) + (1 : Int32))) else hs_bI (hc_Text_signAt d (μ3.1 8 0 7) μ3) (fun r4 μ4 => (if r4 = (43 : Int32) then (if hs_in x2 6 then he_Town_readChanges_7 d (x2 + (1 : Int32)) (hs_wI (hs_wI (hs_wI μ4 20 0 (x2.toNatClampNeg) r3) 8 0 6 ((μ4.1 8 0 6) + (1 : Int32))) 8 0 7 ((μ4.1 8 0 7) + (2 : Int32))) else none) else (if hs_in x2 6 then he_Town_readChanges_7 d (x2 + (1 : Int32)) (hs_wI (hs_wI (hs_wI μ4 20 0 (x2.toNatClampNeg) (-r3)) 8 0 6 ((μ4.1 8 0 6) + (1 : Int32))) 8 0 7 ((μ4.1 8 0 7) + (2 : Int32))) else none)))))))) else hs_bI (hc_Text_signAt d (μ.1 8 0 7) μ) (fun r5 μ5 => hs_bI (hc_Town_isChangeSign d r5 μ5) (fun r6 μ6 => (if r6 = 0 then hs_rz (1 : Int32) μ6 else hs_rz (0 : Int32) μ6)))) := by exact (hs_ev_go hp_Town_readChanges [7] 75 7 _ [] μ).trans rfl
theorem hp_Town_isChangeSign : hs_prog 79 = (hs_k79, 1, 3) := rfl
set_option maxRecDepth 100000 in
theorem hq_Town_isChangeSign (d : Nat) (x0 : Int32) (μ : hs_M)  : hc_Town_isChangeSign (d + 1) x0 μ =
  (if x0 = (43 : Int32) then hs_rz (1 : Int32) μ else (if x0 = (45 : Int32) then hs_rz (1 : Int32) μ else hs_rz (0 : Int32) μ)) := by exact (hs_ev_go hp_Town_isChangeSign [] 13 0 _ [] μ).trans rfl
theorem hp_Town_takeDraft : hs_prog 80 = (hs_k80, 2, 0) := rfl
set_option maxRecDepth 100000 in
theorem hq_Town_takeDraft (d : Nat) (x1 : Int32) (μ : hs_M)  : hc_Town_takeDraft (d + 1) x1 μ =
  (if hs_in x1 8 then (if hs_cok (0 : Int32) (x1 * (6 : Int32)) (6 : Int32) 6 48 then some (none, (hs_cp (hs_wI μ 17 0 (x1.toNatClampNeg) (μ.1 8 0 6)) 20 0 0 18 0 ((x1 * (6 : Int32)).toNatClampNeg) 6)) else none) else none) := by exact (hs_ev_go hp_Town_takeDraft [] 20 0 _ [] μ).trans rfl
theorem hp_Trials_feast : hs_prog 81 = (hs_k81, 3, 0) := rfl
set_option maxRecDepth 100000 in
theorem hq_Trials_feast (d : Nat) (x1 : Int32) (x2 : Int32) (μ : hs_M)  : hc_Trials_feast (d + 1) x1 x2 μ =
  hs_bV (hc_State_follow d 36 0 μ) (fun μ1 => (if hs_in x1 8 then hs_bV (hc_State_putWeight d 36 x1 ((μ1.1 24 0 (x1.toNatClampNeg)) + x2) μ1) (fun μ2 => some (none, μ2)) else none)) := by exact (hs_ev_go hp_Trials_feast [] 20 0 _ [] μ).trans rfl
theorem hp_Trials_cakesWorthTrying : hs_prog 82 = (hs_k82, 2, 1) := rfl
set_option maxRecDepth 100000 in
theorem hq_Trials_cakesWorthTrying (d : Nat) (x1 : Int32) (μ : hs_M)  : hc_Trials_cakesWorthTrying (d + 1) x1 μ =
  (if hs_in x1 8 then hs_bI (hc_Math_min d (999 : Int32) ((999 : Int32) - (μ.1 24 0 (x1.toNatClampNeg))) μ) (fun r1 μ1 => some (some (vI r1), μ1)) else none) := by exact (hs_ev_go hp_Trials_cakesWorthTrying [] 13 0 _ [] μ).trans rfl
noncomputable def he_Trials_cakesToStay_9 (d : Nat) (x1 : Int32) (x2 : Int32) (x3 : Int32) (x4 : Int32) (μ : hs_M) : Option (Option hs_V × hs_M) := hs_ev d 83 9 [some (vR 9 0), some (vI x1), some (vI x2), some (vI x3), some (vI x4), none] [] μ
noncomputable def he_Trials_cakesToStay_25 (d : Nat) (x1 : Int32) (x2 : Int32) (x3 : Int32) (x4 : Int32) (x5 : Int32) (μ : hs_M) : Option (Option hs_V × hs_M) := hs_ev d 83 25 [some (vR 9 0), some (vI x1), some (vI x2), some (vI x3), some (vI x4), some (vI x5)] [] μ
theorem hp_Trials_cakesToStay : hs_prog 83 = (hs_k83, 6, 1) := rfl
set_option maxRecDepth 100000 in
theorem hq_Trials_cakesToStay (d : Nat) (x1 : Int32) (x2 : Int32) (μ : hs_M)  : hc_Trials_cakesToStay (d + 1) x1 x2 μ =
  hs_bI (hc_Trials_cakesWorthTrying d x1 μ) (fun r1 μ1 => he_Trials_cakesToStay_9 d x1 x2 r1 (0 : Int32) μ1) := by exact (hs_ev_go hp_Trials_cakesToStay [9, 25] 46 0 _ [] μ).trans rfl
set_option maxRecDepth 100000 in
theorem hq_Trials_cakesToStay_9 (d : Nat) (x1 : Int32) (x2 : Int32) (x3 : Int32) (x4 : Int32) (μ : hs_M)  : he_Trials_cakesToStay_9 d x1 x2 x3 x4 μ =
  (if x3 < x4 then some (some (vI (-2 : Int32)), μ) else hs_bV (hc_Trials_feast d x1 x4 μ) (fun μ1 => he_Trials_cakesToStay_25 d x1 x2 x3 x4 (0 : Int32) μ1)) := by exact (hs_ev_go hp_Trials_cakesToStay [9, 25] 46 9 _ [] μ).trans rfl
set_option maxRecDepth 100000 in
theorem hq_Trials_cakesToStay_25 (d : Nat) (x1 : Int32) (x2 : Int32) (x3 : Int32) (x4 : Int32) (x5 : Int32) (μ : hs_M)  : he_Trials_cakesToStay_25 d x1 x2 x3 x4 x5 μ =
  (if x5 < x2 then (if (μ.1 6 36 1) = x1 then hs_bV (hc_Office_pass d 36 (0 : Int32) (255 : Int32) μ) (fun μ1 => he_Trials_cakesToStay_25 d x1 x2 x3 x4 (x5 + (1 : Int32)) μ1) else (if (μ.1 6 36 1) = x1 then some (some (vI x4), μ) else he_Trials_cakesToStay_9 d x1 x2 x3 (x4 + (1 : Int32)) μ)) else (if (μ.1 6 36 1) = x1 then some (some (vI x4), μ) else he_Trials_cakesToStay_9 d x1 x2 x3 (x4 + (1 : Int32)) μ)) := by exact (hs_ev_go hp_Trials_cakesToStay [9, 25] 46 25 _ [] μ).trans rfl
noncomputable def he_Trials_cakesToServe_9 (d : Nat) (x1 : Int32) (x2 : Int32) (x3 : Int32) (x4 : Int32) (μ : hs_M) : Option (Option hs_V × hs_M) := hs_ev d 84 9 [some (vR 9 0), some (vI x1), some (vI x2), some (vI x3), some (vI x4), none] [] μ
noncomputable def he_Trials_cakesToServe_25 (d : Nat) (x1 : Int32) (x2 : Int32) (x3 : Int32) (x4 : Int32) (x5 : Int32) (μ : hs_M) : Option (Option hs_V × hs_M) := hs_ev d 84 25 [some (vR 9 0), some (vI x1), some (vI x2), some (vI x3), some (vI x4), some (vI x5)] [] μ
theorem hp_Trials_cakesToServe : hs_prog 84 = (hs_k84, 6, 1) := rfl
set_option maxRecDepth 100000 in
theorem hq_Trials_cakesToServe (d : Nat) (x1 : Int32) (x2 : Int32) (μ : hs_M)  : hc_Trials_cakesToServe (d + 1) x1 x2 μ =
  hs_bI (hc_Trials_cakesWorthTrying d x1 μ) (fun r1 μ1 => he_Trials_cakesToServe_9 d x1 x2 r1 (0 : Int32) μ1) := by exact (hs_ev_go hp_Trials_cakesToServe [9, 25] 56 0 _ [] μ).trans rfl
set_option maxRecDepth 100000 in
theorem hq_Trials_cakesToServe_9 (d : Nat) (x1 : Int32) (x2 : Int32) (x3 : Int32) (x4 : Int32) (μ : hs_M)  : he_Trials_cakesToServe_9 d x1 x2 x3 x4 μ =
  (if x3 < x4 then some (some (vI (-2 : Int32)), μ) else hs_bV (hc_Trials_feast d x1 x4 μ) (fun μ1 => he_Trials_cakesToServe_25 d x1 x2 x3 x4 (0 : Int32) μ1)) := by exact (hs_ev_go hp_Trials_cakesToServe [9, 25] 56 9 _ [] μ).trans rfl
set_option maxRecDepth 100000 in
theorem hq_Trials_cakesToServe_25 (d : Nat) (x1 : Int32) (x2 : Int32) (x3 : Int32) (x4 : Int32) (x5 : Int32) (μ : hs_M)  : he_Trials_cakesToServe_25 d x1 x2 x3 x4 x5 μ =
  (if x5 < x2 then hs_bV (hc_Office_pass d 36 (0 : Int32) (255 : Int32) μ) (fun μ1 => he_Trials_cakesToServe_25 d x1 x2 x3 x4 (x5 + (1 : Int32)) μ1) else (if (μ.1 6 36 1) = x1 then (if hs_in x1 8 then (if hs_in x1 8 then hs_bV (hc_Row_begin d (((μ.1 25 36 (x1.toNatClampNeg)) - (μ.1 25 0 (x1.toNatClampNeg))).toInt64) μ) (fun μ2 => some (some (vI x4), μ2)) else none) else none) else he_Trials_cakesToServe_9 d x1 x2 x3 (x4 + (1 : Int32)) μ)) := by exact (hs_ev_go hp_Trials_cakesToServe [9, 25] 56 25 _ [] μ).trans rfl
noncomputable def he_Trials_ouncesToMiss_2 (d : Nat) (x1 : Int32) (x2 : Int32) (x3 : Int32) (μ : hs_M) : Option (Option hs_V × hs_M) := hs_ev d 85 2 [some (vR 9 0), some (vI x1), some (vI x2), some (vI x3), none] [] μ
noncomputable def he_Trials_ouncesToMiss_25 (d : Nat) (x1 : Int32) (x2 : Int32) (x3 : Int32) (x4 : Int32) (μ : hs_M) : Option (Option hs_V × hs_M) := hs_ev d 85 25 [some (vR 9 0), some (vI x1), some (vI x2), some (vI x3), some (vI x4)] [] μ
theorem hp_Trials_ouncesToMiss : hs_prog 85 = (hs_k85, 5, 1) := rfl
set_option maxRecDepth 100000 in
theorem hq_Trials_ouncesToMiss (d : Nat) (x1 : Int32) (x2 : Int32) (μ : hs_M)  : hc_Trials_ouncesToMiss (d + 1) x1 x2 μ =
  he_Trials_ouncesToMiss_2 d x1 x2 (0 : Int32) μ := by exact (hs_ev_go hp_Trials_ouncesToMiss [2, 25] 59 0 _ [] μ).trans rfl
set_option maxRecDepth 100000 in
theorem hq_Trials_ouncesToMiss_2 (d : Nat) (x1 : Int32) (x2 : Int32) (x3 : Int32) (μ : hs_M)  : he_Trials_ouncesToMiss_2 d x1 x2 x3 μ =
  (if hs_in x1 8 then (if x3 < (μ.1 24 0 (x1.toNatClampNeg)) then hs_bV (hc_Trials_feast d x1 (-x3) μ) (fun μ1 => he_Trials_ouncesToMiss_25 d x1 x2 x3 (0 : Int32) μ1) else some (some (vI (-2 : Int32)), μ)) else none) := by exact (hs_ev_go hp_Trials_ouncesToMiss [2, 25] 59 2 _ [] μ).trans rfl
set_option maxRecDepth 100000 in
theorem hq_Trials_ouncesToMiss_25 (d : Nat) (x1 : Int32) (x2 : Int32) (x3 : Int32) (x4 : Int32) (μ : hs_M)  : he_Trials_ouncesToMiss_25 d x1 x2 x3 x4 μ =
  (if x4 < x2 then (if hs_in x1 8 then (if hs_in x1 8 then (if (μ.1 25 36 (x1.toNatClampNeg)) = (μ.1 25 0 (x1.toNatClampNeg)) then hs_bV (hc_Office_pass d 36 (0 : Int32) (255 : Int32) μ) (fun μ1 => he_Trials_ouncesToMiss_25 d x1 x2 x3 (x4 + (1 : Int32)) μ1) else (if hs_in x1 8 then (if hs_in x1 8 then (if (μ.1 25 36 (x1.toNatClampNeg)) = (μ.1 25 0 (x1.toNatClampNeg)) then some (some (vI x3), μ) else he_Trials_ouncesToMiss_2 d x1 x2 (x3 + (1 : Int32)) μ) else none) else none)) else none) else none) else (if hs_in x1 8 then (if hs_in x1 8 then (if (μ.1 25 36 (x1.toNatClampNeg)) = (μ.1 25 0 (x1.toNatClampNeg)) then some (some (vI x3), μ) else he_Trials_ouncesToMiss_2 d x1 x2 (x3 + (1 : Int32)) μ) else none) else none)) := by exact (hs_ev_go hp_Trials_ouncesToMiss [2, 25] 59 25 _ [] μ).trans rfl
noncomputable def he_Trials_leastFed_9 (d : Nat) (x1 : Int32) (x2 : Int32) (x3 : Int32) (μ : hs_M) : Option (Option hs_V × hs_M) := hs_ev d 86 9 [some (vR 9 0), some (vI x1), some (vI x2), some (vI x3), none] [] μ
theorem hp_Trials_leastFed : hs_prog 86 = (hs_k86, 5, 1) := rfl
set_option maxRecDepth 100000 in
theorem hq_Trials_leastFed (d : Nat)  (μ : hs_M)  : hc_Trials_leastFed (d + 1)  μ =
  he_Trials_leastFed_9 d (-2 : Int32) (1000 : Int32) (0 : Int32) μ := by exact (hs_ev_go hp_Trials_leastFed [9] 46 0 _ [] μ).trans rfl
set_option maxRecDepth 100000 in
theorem hq_Trials_leastFed_9 (d : Nat) (x1 : Int32) (x2 : Int32) (x3 : Int32) (μ : hs_M)  : he_Trials_leastFed_9 d x1 x2 x3 μ =
  (if x3 < (μ.1 8 0 9) then hs_bI (hc_State_lives d 0 x3 μ) (fun r1 μ1 => (if r1 = 0 then (if (-1 : Int32) = (-1 : Int32) then he_Trials_leastFed_9 d x1 x2 (x3 + (1 : Int32)) μ1 else he_Trials_leastFed_9 d x3 (-1 : Int32) (x3 + (1 : Int32)) μ1) else hs_bI (hc_Trials_cakesForNextWeek d x3 (x2 - (1 : Int32)) μ1) (fun r2 μ2 => (if r2 = (-1 : Int32) then he_Trials_leastFed_9 d x1 x2 (x3 + (1 : Int32)) μ2 else he_Trials_leastFed_9 d x3 r2 (x3 + (1 : Int32)) μ2)))) else (if x1 < 0 then some (some (vI x1), μ) else hs_bV (hc_Row_begin d (x2.toInt64) μ) (fun μ3 => some (some (vI x1), μ3)))) := by exact (hs_ev_go hp_Trials_leastFed [9] 46 9 _ [] μ).trans rfl
noncomputable def he_Trials_cakesForNextWeek_13 (d : Nat) (x1 : Int32) (x3 : Int32) (x4 : Int32) (μ : hs_M) : Option (Option hs_V × hs_M) := hs_ev d 87 13 [some (vR 9 0), some (vI x1), none, some (vI x3), some (vI x4), none] [] μ
theorem hp_Trials_cakesForNextWeek : hs_prog 87 = (hs_k87, 6, 1) := rfl
set_option maxRecDepth 100000 in
theorem hq_Trials_cakesForNextWeek (d : Nat) (x1 : Int32) (x2 : Int32) (μ : hs_M)  : hc_Trials_cakesForNextWeek (d + 1) x1 x2 μ =
  hs_bI (hc_Trials_cakesWorthTrying d x1 μ) (fun r1 μ1 => hs_bI (hc_Math_min d x2 r1 μ1) (fun r2 μ2 => he_Trials_cakesForNextWeek_13 d x1 r2 (0 : Int32) μ2)) := by exact (hs_ev_go hp_Trials_cakesForNextWeek [13] 51 0 _ [] μ).trans rfl
set_option maxRecDepth 100000 in
theorem hq_Trials_cakesForNextWeek_13 (d : Nat) (x1 : Int32) (x3 : Int32) (x4 : Int32) (μ : hs_M)  : he_Trials_cakesForNextWeek_13 d x1 x3 x4 μ =
  (if x3 < x4 then some (some (vI (-1 : Int32)), μ) else hs_bV (hc_Trials_feast d x1 x4 μ) (fun μ1 => hs_bI (hc_Office_winner d 36 ((1 : Int32) <<< (x1 &&& 31)) ((255 : Int32) &&& (((1 : Int32) <<< (x1 &&& 31)) ^^^ (-1 : Int32))) μ1) (fun r2 μ2 => (if r2 = x1 then some (some (vI x4), μ2) else (if r2 = (-1 : Int32) then (if (μ2.1 6 0 1) = x1 then some (some (vI x4), μ2) else he_Trials_cakesForNextWeek_13 d x1 x3 (x4 + (1 : Int32)) μ2) else he_Trials_cakesForNextWeek_13 d x1 x3 (x4 + (1 : Int32)) μ2))))) := by exact (hs_ev_go hp_Trials_cakesForNextWeek [13] 51 13 _ [] μ).trans rfl
noncomputable def he_Trials_gather_7 (d : Nat) (j1 : Nat) (x2 : Int32) (μ : hs_M) : Option (Option hs_V × hs_M) := hs_ev d 88 7 [some (vR 9 0), some (vR 2 j1), some (vI x2), none, none] [] μ
noncomputable def he_Trials_gather_28 (d : Nat) (j1 : Nat) (x2 : Int32) (μ : hs_M) : Option (Option hs_V × hs_M) := hs_ev d 88 28 [some (vR 9 0), some (vR 2 j1), some (vI x2), none, none] [] μ
theorem hp_Trials_gather : hs_prog 88 = (hs_k88, 5, 3) := rfl
set_option maxRecDepth 100000 in
theorem hq_Trials_gather (d : Nat) (j1 : Nat) (μ : hs_M)  : hc_Trials_gather (d + 1) j1 μ =
  he_Trials_gather_7 d j1 (0 : Int32) (hs_wI μ 9 0 6 (0 : Int32)) := by exact (hs_ev_go hp_Trials_gather [7, 28] 66 0 _ [] μ).trans rfl
set_option maxRecDepth 100000 in
theorem hq_Trials_gather_7 (d : Nat) (j1 : Nat) (x2 : Int32) (μ : hs_M)  : he_Trials_gather_7 d j1 x2 μ =
  (if (60 : Int32) < x2 then he_Trials_gather_28 d j1 (0 : Int32) μ else (if hs_in x2 61 then he_Trials_gather_7 d j1 (x2 + (1 : Int32)) (hs_wI μ 39 0 (x2.toNatClampNeg) (-1 : Int32)) else none)) := by exact (hs_ev_go hp_Trials_gather [7, 28] 66 7 _ [] μ).trans rfl
set_option maxRecDepth 100000 in
theorem hq_Trials_gather_28 (d : Nat) (j1 : Nat) (x2 : Int32) (μ : hs_M)  : he_Trials_gather_28 d j1 x2 μ =
  (if x2 < (μ.1 2 j1 2) then hs_bI (hc_Pairs_value d j1 x2 μ) (fun r1 μ1 => hs_bI (hc_Pairs_person d j1 x2 μ1) (fun r2 μ2 => (if r1 < 0 then hs_rz (0 : Int32) μ2 else (if (60 : Int32) < r1 then hs_rz (0 : Int32) μ2 else (if hs_in r1 61 then (if (μ2.1 39 0 (r1.toNatClampNeg)) = (-1 : Int32) then (if hs_in r1 61 then hs_bI (hc_Math_max d (μ2.1 9 0 6) r1 (hs_wI μ2 39 0 (r1.toNatClampNeg) r2)) (fun r3 μ3 => he_Trials_gather_28 d j1 (x2 + (1 : Int32)) (hs_wI μ3 9 0 6 r3)) else none) else (if hs_in r1 61 then (if (μ2.1 39 0 (r1.toNatClampNeg)) = r2 then (if hs_in r1 61 then hs_bI (hc_Math_max d (μ2.1 9 0 6) r1 (hs_wI μ2 39 0 (r1.toNatClampNeg) r2)) (fun r4 μ4 => he_Trials_gather_28 d j1 (x2 + (1 : Int32)) (hs_wI μ4 9 0 6 r4)) else none) else hs_rz (0 : Int32) μ2) else none)) else none))))) else hs_rz (1 : Int32) μ) := by exact (hs_ev_go hp_Trials_gather [7, 28] 66 28 _ [] μ).trans rfl
noncomputable def he_Trials_comesAsDue_2 (d : Nat) (x1 : Int32) (x2 : Int32) (μ : hs_M) : Option (Option hs_V × hs_M) := hs_ev d 89 2 [some (vR 9 0), some (vI x1), some (vI x2)] [] μ
theorem hp_Trials_comesAsDue : hs_prog 89 = (hs_k89, 3, 3) := rfl
set_option maxRecDepth 100000 in
theorem hq_Trials_comesAsDue (d : Nat) (x1 : Int32) (μ : hs_M)  : hc_Trials_comesAsDue (d + 1) x1 μ =
  he_Trials_comesAsDue_2 d x1 (1 : Int32) μ := by exact (hs_ev_go hp_Trials_comesAsDue [2] 39 0 _ [] μ).trans rfl
set_option maxRecDepth 100000 in
theorem hq_Trials_comesAsDue_2 (d : Nat) (x1 : Int32) (x2 : Int32) (μ : hs_M)  : he_Trials_comesAsDue_2 d x1 x2 μ =
  (if (μ.1 9 0 6) < x2 then hs_rz (1 : Int32) μ else (if (60 : Int32) < x2 then hs_rz (1 : Int32) μ else hs_bV (hc_Office_pass d 36 (0 : Int32) x1 μ) (fun μ1 => (if hs_in x2 61 then (if (μ1.1 39 0 (x2.toNatClampNeg)) = (-1 : Int32) then he_Trials_comesAsDue_2 d x1 (x2 + (1 : Int32)) μ1 else (if hs_in x2 61 then (if (μ1.1 39 0 (x2.toNatClampNeg)) = (μ1.1 6 36 1) then he_Trials_comesAsDue_2 d x1 (x2 + (1 : Int32)) μ1 else hs_rz (0 : Int32) μ1) else none)) else none)))) := by exact (hs_ev_go hp_Trials_comesAsDue [2] 39 2 _ [] μ).trans rfl
noncomputable def he_Trials_explainingWeights_28 (d : Nat) (x2 : Int32) (x3 : Int32) (x4 : Int32) (x5 : Int32) (x6 : Int32) (x7 : Int32) (μ : hs_M) : Option (Option hs_V × hs_M) := hs_ev d 90 28 [some (vR 9 0), none, some (vI x2), some (vI x3), some (vI x4), some (vI x5), some (vI x6), some (vI x7)] [] μ
theorem hp_Trials_explainingWeights : hs_prog 90 = (hs_k90, 8, 1) := rfl
set_option maxRecDepth 100000 in
theorem hq_Trials_explainingWeights (d : Nat) (j1 : Nat) (x2 : Int32) (μ : hs_M)  : hc_Trials_explainingWeights (d + 1) j1 x2 μ =
  hs_bI (hc_Trials_gather d j1 μ) (fun r1 μ1 => (if r1 = 0 then he_Trials_explainingWeights_28 d x2 (0 : Int32) (0 : Int32) (0 : Int32) (0 : Int32) (1 : Int32) μ1 else he_Trials_explainingWeights_28 d x2 (0 : Int32) (0 : Int32) (0 : Int32) (999 : Int32) (1 : Int32) μ1)) := by exact (hs_ev_go hp_Trials_explainingWeights [28] 55 0 _ [] μ).trans rfl
set_option maxRecDepth 100000 in
theorem hq_Trials_explainingWeights_28 (d : Nat) (x2 : Int32) (x3 : Int32) (x4 : Int32) (x5 : Int32) (x6 : Int32) (x7 : Int32) (μ : hs_M)  : he_Trials_explainingWeights_28 d x2 x3 x4 x5 x6 x7 μ =
  (if x6 < x7 then hs_bV (hc_Row_range d x3 x4 x5 μ) (fun μ1 => some (some (vI x3), μ1)) else (if hs_in x2 8 then hs_bV (hc_Trials_feast d x2 (x7 - (μ.1 24 0 (x2.toNatClampNeg))) μ) (fun μ2 => hs_bI (hc_Trials_comesAsDue d (255 : Int32) μ2) (fun r3 μ3 => (if r3 = 0 then he_Trials_explainingWeights_28 d x2 x3 x4 x5 x6 (x7 + (1 : Int32)) μ3 else (if x3 = 0 then he_Trials_explainingWeights_28 d x2 (x3 + (1 : Int32)) x7 x7 x6 (x7 + (1 : Int32)) μ3 else he_Trials_explainingWeights_28 d x2 (x3 + (1 : Int32)) x4 x7 x6 (x7 + (1 : Int32)) μ3)))) else none)) := by exact (hs_ev_go hp_Trials_explainingWeights [28] 55 28 _ [] μ).trans rfl
noncomputable def he_Trials_explainingAbsences_48 (d : Nat) (x2 : Int32) (x3 : Int32) (x4 : Int32) (μ : hs_M) : Option (Option hs_V × hs_M) := hs_ev d 91 48 [some (vR 9 0), none, some (vI x2), some (vI x3), some (vI x4)] [] μ
theorem hp_Trials_explainingAbsences : hs_prog 91 = (hs_k91, 5, 1) := rfl
set_option maxRecDepth 100000 in
theorem hq_Trials_explainingAbsences (d : Nat) (j1 : Nat) (μ : hs_M)  : hc_Trials_explainingAbsences (d + 1) j1 μ =
  hs_bI (hc_Trials_gather d j1 μ) (fun r1 μ1 => hs_bV (hc_State_follow d 36 0 μ1) (fun μ2 => (if r1 = 0 then hs_bV (hc_Row_begin d (0 : Int64) μ2) (fun μ3 => he_Trials_explainingAbsences_48 d r1 (0 : Int32) (0 : Int32) μ3) else hs_bI (hc_Trials_comesAsDue d (255 : Int32) μ2) (fun r4 μ4 => (if r4 = 0 then hs_bV (hc_Row_begin d (0 : Int64) μ4) (fun μ5 => he_Trials_explainingAbsences_48 d r1 (0 : Int32) (0 : Int32) μ5) else hs_bV (hc_Row_begin d (1 : Int64) μ4) (fun μ6 => he_Trials_explainingAbsences_48 d r1 (0 : Int32) (0 : Int32) μ6)))))) := by exact (hs_ev_go hp_Trials_explainingAbsences [48] 65 0 _ [] μ).trans rfl
set_option maxRecDepth 100000 in
theorem hq_Trials_explainingAbsences_48 (d : Nat) (x2 : Int32) (x3 : Int32) (x4 : Int32) (μ : hs_M)  : he_Trials_explainingAbsences_48 d x2 x3 x4 μ =
  (if x4 < (μ.1 8 0 9) then hs_bV (hc_State_follow d 36 0 μ) (fun μ1 => (if x2 = 0 then he_Trials_explainingAbsences_48 d x2 x3 (x4 + (1 : Int32)) μ1 else hs_bI (hc_State_lives d 0 x4 μ1) (fun r2 μ2 => (if r2 = 0 then he_Trials_explainingAbsences_48 d x2 x3 (x4 + (1 : Int32)) μ2 else hs_bI (hc_Trials_comesAsDue d ((255 : Int32) &&& (((1 : Int32) <<< (x4 &&& 31)) ^^^ (-1 : Int32))) μ2) (fun r3 μ3 => (if r3 = 0 then he_Trials_explainingAbsences_48 d x2 x3 (x4 + (1 : Int32)) μ3 else he_Trials_explainingAbsences_48 d x2 (x3 ||| ((1 : Int32) <<< (x4 &&& 31))) (x4 + (1 : Int32)) μ3)))))) else some (some (vI x3), μ)) := by exact (hs_ev_go hp_Trials_explainingAbsences [48] 65 48 _ [] μ).trans rfl
theorem hp_Will_read : hs_prog 92 = (hs_k92, 2, 1) := rfl
set_option maxRecDepth 100000 in
theorem hq_Will_read (d : Nat)  (μ : hs_M)  : hc_Will_read (d + 1)  μ =
  hs_bV (hc_Text_open d (40 : Int32) μ) (fun μ1 => (if 0 < (μ1.1 7 0 1) then hs_bI (hc_Will_readLevel d (0 : Int32) (0 : Int32) (hs_wI (hs_wI μ1 10 0 5 (0 : Int32)) 10 0 4 (0 : Int32))) (fun r2 μ2 => (if r2 = 0 then some (some (vI (μ2.1 10 0 5)), μ2) else (if (μ2.1 10 0 5) < (μ2.1 7 0 1) then some (some (vI (μ2.1 10 0 5)), μ2) else some (some (vI (-1 : Int32)), (hs_wI (hs_cp μ2 22 0 0 21 0 0 40) 10 0 3 (μ2.1 10 0 4)))))) else some (some (vI (-1 : Int32)), (hs_wI (hs_cp (hs_wI (hs_wI μ1 10 0 5 (0 : Int32)) 10 0 4 (0 : Int32)) 22 0 0 21 0 0 40) 10 0 3 (0 : Int32))))) := by exact (hs_ev_go hp_Will_read [] 43 0 _ [] μ).trans rfl
noncomputable def he_Will_readLevel_38 (d : Nat) (x2 : Int32) (x3 : Int32) (x4 : Int32) (x5 : Int32) (x6 : Int32) (μ : hs_M) : Option (Option hs_V × hs_M) := hs_ev d 93 38 [some (vR 10 0), some (vR 7 0), some (vI x2), some (vI x3), some (vI x4), some (vI x5), some (vI x6), none] [] μ
theorem hp_Will_readLevel : hs_prog 93 = (hs_k93, 8, 3) := rfl
set_option maxRecDepth 100000 in
theorem hq_Will_readLevel (d : Nat) (x2 : Int32) (x3 : Int32) (μ : hs_M)  : hc_Will_readLevel (d + 1) x2 x3 μ =
  (if x2 < (3 : Int32) then hs_bI (hc_Will_readLevel d (x2 + (1 : Int32)) x3 μ) (fun r1 μ1 => (if x2 = 0 then he_Will_readLevel_38 d x2 x3 r1 (1 : Int32) (0 : Int32) μ1 else he_Will_readLevel_38 d x2 x3 r1 (40 : Int32) (0 : Int32) μ1)) else hs_bI (hc_Will_readThing d x3 μ) (fun r2 μ2 => hs_rz r2 μ2)) := by exact (hs_ev_go hp_Will_readLevel [38] 65 0 _ [] μ).trans rfl
set_option maxRecDepth 100000 in
theorem hq_Will_readLevel_38 (d : Nat) (x2 : Int32) (x3 : Int32) (x4 : Int32) (x5 : Int32) (x6 : Int32) (μ : hs_M)  : he_Will_readLevel_38 d x2 x3 x4 x5 x6 μ =
  (if x6 < x5 then (if x4 = 0 then hs_rz x4 μ else hs_bI (hc_Text_signAt d (μ.1 10 0 5) μ) (fun r1 μ1 => hs_bI (hc_Will_levelOf d r1 μ1) (fun r2 μ2 => (if r2 = x2 then hs_bI (hc_Will_readLevel d (x2 + (1 : Int32)) x3 (hs_wI μ2 10 0 5 ((μ2.1 10 0 5) + (1 : Int32)))) (fun r3 μ3 => hs_bV (hc_Will_emit d ((2000 : Int32) + r1) μ3) (fun μ4 => he_Will_readLevel_38 d x2 x3 r3 x5 (x6 + (1 : Int32)) μ4)) else hs_rz x4 μ2)))) else hs_rz x4 μ) := by exact (hs_ev_go hp_Will_readLevel [38] 65 38 _ [] μ).trans rfl
noncomputable def he_Will_levelOf_106 (d : Nat)  (μ : hs_M) : Option (Option hs_V × hs_M) := hs_ev d 94 106 [none] [] μ
theorem hp_Will_levelOf : hs_prog 94 = (hs_k94, 1, 1) := rfl
set_option maxRecDepth 100000 in
theorem hq_Will_levelOf (d : Nat) (x0 : Int32) (μ : hs_M)  : hc_Will_levelOf (d + 1) x0 μ =
  (if x0 = (42 : Int32) then some (some (vI (2 : Int32)), μ) else (if x0 = (43 : Int32) then some (some (vI (1 : Int32)), μ) else (if x0 = (44 : Int32) then he_Will_levelOf_106 d μ else (if x0 = (45 : Int32) then some (some (vI (1 : Int32)), μ) else (if x0 = (46 : Int32) then he_Will_levelOf_106 d μ else (if x0 = (47 : Int32) then some (some (vI (2 : Int32)), μ) else (if x0 = (48 : Int32) then he_Will_levelOf_106 d μ else (if x0 = (49 : Int32) then he_Will_levelOf_106 d μ else (if x0 = (50 : Int32) then he_Will_levelOf_106 d μ else (if x0 = (51 : Int32) then he_Will_levelOf_106 d μ else (if x0 = (52 : Int32) then he_Will_levelOf_106 d μ else (if x0 = (53 : Int32) then he_Will_levelOf_106 d μ else (if x0 = (54 : Int32) then he_Will_levelOf_106 d μ else (if x0 = (55 : Int32) then he_Will_levelOf_106 d μ else (if x0 = (56 : Int32) then he_Will_levelOf_106 d μ else (if x0 = (57 : Int32) then he_Will_levelOf_106 d μ else (if x0 = (58 : Int32) then he_Will_levelOf_106 d μ else (if x0 = (59 : Int32) then he_Will_levelOf_106 d μ else (if x0 = (60 : Int32) then some (some (vI (0 : Int32)), μ) else (if x0 = (61 : Int32) then some (some (vI (0 : Int32)), μ) else (if x0 = (62 : Int32) then some (some (vI (0 : Int32)), μ) else he_Will_levelOf_106 d μ))))))))))))))))))))) := by exact (hs_ev_go hp_Will_levelOf [106] 13 0 _ [] μ).trans rfl
set_option maxRecDepth 100000 in
theorem hq_Will_levelOf_106 (d : Nat)  (μ : hs_M)  : he_Will_levelOf_106 d  μ =
  some (some (vI (-1 : Int32)), μ) := by exact (hs_ev_go hp_Will_levelOf [106] 13 106 _ [] μ).trans rfl
noncomputable def he_Will_readThing_5 (d : Nat) (x2 : Int32) (x3 : Int32) (x4 : Int32) (μ : hs_M) : Option (Option hs_V × hs_M) := hs_ev d 95 5 [some (vR 10 0), some (vR 7 0), some (vI x2), some (vI x3), some (vI x4), none] [] μ
noncomputable def he_Will_readThing_151 (d : Nat) (x3 : Int32) (x5 : Int32) (μ : hs_M) : Option (Option hs_V × hs_M) := hs_ev d 95 151 [some (vR 10 0), none, none, some (vI x3), none, some (vI x5)] [] μ
theorem hp_Will_readThing : hs_prog 95 = (hs_k95, 6, 3) := rfl
set_option maxRecDepth 100000 in
theorem hq_Will_readThing (d : Nat) (x2 : Int32) (μ : hs_M)  : hc_Will_readThing (d + 1) x2 μ =
  he_Will_readThing_5 d x2 (0 : Int32) (0 : Int32) μ := by exact (hs_ev_go hp_Will_readThing [5, 151] 87 0 _ [] μ).trans rfl
set_option maxRecDepth 100000 in
theorem hq_Will_readThing_5 (d : Nat) (x2 : Int32) (x3 : Int32) (x4 : Int32) (μ : hs_M)  : he_Will_readThing_5 d x2 x3 x4 μ =
  (if x4 < (40 : Int32) then hs_bI (hc_Text_signAt d (μ.1 10 0 5) μ) (fun r1 μ1 => (if r1 = (45 : Int32) then (if x3 = 0 then he_Will_readThing_5 d x2 (1 : Int32) (x4 + (1 : Int32)) (hs_wI μ1 10 0 5 ((μ1.1 10 0 5) + (1 : Int32))) else he_Will_readThing_5 d x2 (0 : Int32) (x4 + (1 : Int32)) (hs_wI μ1 10 0 5 ((μ1.1 10 0 5) + (1 : Int32)))) else hs_bI (hc_Text_signAt d (μ1.1 10 0 5) μ1) (fun r2 μ2 => (if r2 = (40 : Int32) then (if x2 < (4 : Int32) then hs_bI (hc_Will_readBracket d x2 μ2) (fun r3 μ3 => (if r3 = 0 then he_Will_readThing_151 d x3 (0 : Int32) μ3 else he_Will_readThing_151 d x3 (1 : Int32) μ3)) else he_Will_readThing_151 d x3 (0 : Int32) μ2) else (if r2 < (48 : Int32) then hs_bI (hc_Will_isFact d r2 μ2) (fun r4 μ4 => (if r4 = 0 then he_Will_readThing_151 d x3 (0 : Int32) μ4 else hs_bV (hc_Will_emit d ((1000 : Int32) + r2) μ4) (fun μ5 => he_Will_readThing_151 d x3 (1 : Int32) (hs_wI μ5 10 0 5 ((μ5.1 10 0 5) + (1 : Int32)))))) else (if (57 : Int32) < r2 then hs_bI (hc_Will_isFact d r2 μ2) (fun r6 μ6 => (if r6 = 0 then he_Will_readThing_151 d x3 (0 : Int32) μ6 else hs_bV (hc_Will_emit d ((1000 : Int32) + r2) μ6) (fun μ7 => he_Will_readThing_151 d x3 (1 : Int32) (hs_wI μ7 10 0 5 ((μ7.1 10 0 5) + (1 : Int32)))))) else hs_bV (hc_Will_readNumber d μ2) (fun μ8 => he_Will_readThing_151 d x3 (1 : Int32) μ8))))))) else hs_bI (hc_Text_signAt d (μ.1 10 0 5) μ) (fun r9 μ9 => (if r9 = (40 : Int32) then (if x2 < (4 : Int32) then hs_bI (hc_Will_readBracket d x2 μ9) (fun r10 μ10 => (if r10 = 0 then he_Will_readThing_151 d x3 (0 : Int32) μ10 else he_Will_readThing_151 d x3 (1 : Int32) μ10)) else he_Will_readThing_151 d x3 (0 : Int32) μ9) else (if r9 < (48 : Int32) then hs_bI (hc_Will_isFact d r9 μ9) (fun r11 μ11 => (if r11 = 0 then he_Will_readThing_151 d x3 (0 : Int32) μ11 else hs_bV (hc_Will_emit d ((1000 : Int32) + r9) μ11) (fun μ12 => he_Will_readThing_151 d x3 (1 : Int32) (hs_wI μ12 10 0 5 ((μ12.1 10 0 5) + (1 : Int32)))))) else (if (57 : Int32) < r9 then hs_bI (hc_Will_isFact d r9 μ9) (fun r13 μ13 => (if r13 = 0 then he_Will_readThing_151 d x3 (0 : Int32) μ13 else hs_bV (hc_Will_emit d ((1000 : Int32) + r9) μ13) (fun μ14 => he_Will_readThing_151 d x3 (1 : Int32) (hs_wI μ14 10 0 5 ((μ14.1 10 0 5) + (1 : Int32)))))) else hs_bV (hc_Will_readNumber d μ9) (fun μ15 => he_Will_readThing_151 d x3 (1 : Int32) μ15)))))) := by exact (hs_ev_go hp_Will_readThing [5, 151] 87 5 _ [] μ).trans rfl
set_option maxRecDepth 100000 in
theorem hq_Will_readThing_151 (d : Nat) (x3 : Int32) (x5 : Int32) (μ : hs_M)  : he_Will_readThing_151 d x3 x5 μ =
  (if x3 = 0 then hs_rz x5 μ else hs_bV (hc_Will_emit d (3000 : Int32) μ) (fun μ1 => hs_rz x5 μ1)) := by exact (hs_ev_go hp_Will_readThing [5, 151] 87 151 _ [] μ).trans rfl
theorem hp_Will_readBracket : hs_prog 96 = (hs_k96, 3, 3) := rfl
set_option maxRecDepth 100000 in
theorem hq_Will_readBracket (d : Nat) (x2 : Int32) (μ : hs_M)  : hc_Will_readBracket (d + 1) x2 μ =
  hs_bI (hc_Will_readLevel d (0 : Int32) (x2 + (1 : Int32)) (hs_wI μ 10 0 5 ((μ.1 10 0 5) + (1 : Int32)))) (fun r1 μ1 => (if r1 = 0 then hs_rz (0 : Int32) μ1 else hs_bI (hc_Text_signAt d (μ1.1 10 0 5) μ1) (fun r2 μ2 => (if r2 = (41 : Int32) then hs_rz (1 : Int32) (hs_wI μ2 10 0 5 ((μ2.1 10 0 5) + (1 : Int32))) else hs_rz (0 : Int32) μ2)))) := by exact (hs_ev_go hp_Will_readBracket [] 33 0 _ [] μ).trans rfl
noncomputable def he_Will_readNumber_4 (d : Nat) (x2 : Int32) (x3 : Int32) (μ : hs_M) : Option (Option hs_V × hs_M) := hs_ev d 97 4 [some (vR 10 0), some (vR 7 0), some (vI x2), some (vI x3)] [] μ
theorem hp_Will_readNumber : hs_prog 97 = (hs_k97, 4, 0) := rfl
set_option maxRecDepth 100000 in
theorem hq_Will_readNumber (d : Nat)  (μ : hs_M)  : hc_Will_readNumber (d + 1)  μ =
  he_Will_readNumber_4 d (0 : Int32) (0 : Int32) μ := by exact (hs_ev_go hp_Will_readNumber [4] 37 0 _ [] μ).trans rfl
set_option maxRecDepth 100000 in
theorem hq_Will_readNumber_4 (d : Nat) (x2 : Int32) (x3 : Int32) (μ : hs_M)  : he_Will_readNumber_4 d x2 x3 μ =
  (if x3 < (3 : Int32) then hs_bI (hc_Text_digitAt d (μ.1 10 0 5) μ) (fun r1 μ1 => (if r1 = (-1 : Int32) then hs_bV (hc_Will_emit d x2 μ1) (fun μ2 => some (none, μ2)) else hs_bI (hc_Text_digitAt d (μ1.1 10 0 5) μ1) (fun r3 μ3 => he_Will_readNumber_4 d ((x2 * (10 : Int32)) + r3) (x3 + (1 : Int32)) (hs_wI μ3 10 0 5 ((μ3.1 10 0 5) + (1 : Int32)))))) else hs_bV (hc_Will_emit d x2 μ) (fun μ4 => some (none, μ4))) := by exact (hs_ev_go hp_Will_readNumber [4] 37 4 _ [] μ).trans rfl
theorem hp_Will_emit : hs_prog 98 = (hs_k98, 2, 0) := rfl
set_option maxRecDepth 100000 in
theorem hq_Will_emit (d : Nat) (x1 : Int32) (μ : hs_M)  : hc_Will_emit (d + 1) x1 μ =
  (if (μ.1 10 0 4) < 0 then some (none, μ) else (if (μ.1 10 0 4) < (40 : Int32) then (if hs_in (μ.1 10 0 4) 40 then some (none, (hs_wI (hs_wI μ 22 0 ((μ.1 10 0 4).toNatClampNeg) x1) 10 0 4 ((μ.1 10 0 4) + (1 : Int32)))) else none) else some (none, μ))) := by exact (hs_ev_go hp_Will_emit [] 23 0 _ [] μ).trans rfl
noncomputable def he_Will_isFact_76 (d : Nat)  (μ : hs_M) : Option (Option hs_V × hs_M) := hs_ev d 99 76 [none] [] μ
noncomputable def he_Will_isFact_78 (d : Nat)  (μ : hs_M) : Option (Option hs_V × hs_M) := hs_ev d 99 78 [none] [] μ
theorem hp_Will_isFact : hs_prog 99 = (hs_k99, 1, 3) := rfl
set_option maxRecDepth 100000 in
theorem hq_Will_isFact (d : Nat) (x0 : Int32) (μ : hs_M)  : hc_Will_isFact (d + 1) x0 μ =
  (if x0 = (105 : Int32) then he_Will_isFact_76 d μ else (if x0 = (106 : Int32) then he_Will_isFact_78 d μ else (if x0 = (107 : Int32) then he_Will_isFact_78 d μ else (if x0 = (108 : Int32) then he_Will_isFact_78 d μ else (if x0 = (109 : Int32) then he_Will_isFact_78 d μ else (if x0 = (110 : Int32) then he_Will_isFact_76 d μ else (if x0 = (111 : Int32) then he_Will_isFact_76 d μ else (if x0 = (112 : Int32) then he_Will_isFact_76 d μ else (if x0 = (113 : Int32) then he_Will_isFact_76 d μ else (if x0 = (114 : Int32) then he_Will_isFact_78 d μ else (if x0 = (115 : Int32) then he_Will_isFact_76 d μ else (if x0 = (116 : Int32) then he_Will_isFact_76 d μ else (if x0 = (117 : Int32) then he_Will_isFact_78 d μ else (if x0 = (118 : Int32) then he_Will_isFact_76 d μ else (if x0 = (119 : Int32) then he_Will_isFact_76 d μ else he_Will_isFact_78 d μ))))))))))))))) := by exact (hs_ev_go hp_Will_isFact [76, 78] 9 0 _ [] μ).trans rfl
set_option maxRecDepth 100000 in
theorem hq_Will_isFact_76 (d : Nat)  (μ : hs_M)  : he_Will_isFact_76 d  μ =
  hs_rz (1 : Int32) μ := by exact (hs_ev_go hp_Will_isFact [76, 78] 9 76 _ [] μ).trans rfl
set_option maxRecDepth 100000 in
theorem hq_Will_isFact_78 (d : Nat)  (μ : hs_M)  : he_Will_isFact_78 d  μ =
  hs_rz (0 : Int32) μ := by exact (hs_ev_go hp_Will_isFact [76, 78] 9 78 _ [] μ).trans rfl
noncomputable def he_Will_value_15 (d : Nat) (j1 : Nat) (x3 : Int32) (x4 : Int32) (x5 : Int32) (μ : hs_M) : Option (Option hs_V × hs_M) := hs_ev d 100 15 [some (vR 10 0), some (vR 6 j1), some (vR 8 0), some (vI x3), some (vI x4), some (vI x5), none, none, none] [] μ
noncomputable def he_Will_value_174 (d : Nat) (j1 : Nat) (x3 : Int32) (x4 : Int32) (x5 : Int32) (μ : hs_M) : Option (Option hs_V × hs_M) := hs_ev d 100 174 [some (vR 10 0), some (vR 6 j1), some (vR 8 0), some (vI x3), some (vI x4), some (vI x5), none, none, none] [] μ
theorem hp_Will_value : hs_prog 100 = (hs_k100, 9, 1) := rfl
set_option maxRecDepth 100000 in
theorem hq_Will_value (d : Nat) (j1 : Nat) (x3 : Int32) (μ : hs_M)  : hc_Will_value (d + 1) j1 x3 μ =
  (if (μ.1 10 0 3) = 0 then some (some (vI (1 : Int32)), μ) else he_Will_value_15 d j1 x3 (0 : Int32) (0 : Int32) μ) := by exact (hs_ev_go hp_Will_value [15, 174] 100 0 _ [] μ).trans rfl
set_option maxRecDepth 100000 in
theorem hq_Will_value_15 (d : Nat) (j1 : Nat) (x3 : Int32) (x4 : Int32) (x5 : Int32) (μ : hs_M)  : he_Will_value_15 d j1 x3 x4 x5 μ =
  (if x5 < (μ.1 10 0 3) then (if x5 < (40 : Int32) then (if hs_in x5 40 then (if (μ.1 21 0 (x5.toNatClampNeg)) < (2000 : Int32) then (if x4 < (40 : Int32) then (if (μ.1 21 0 (x5.toNatClampNeg)) < (1000 : Int32) then (if hs_in x4 40 then he_Will_value_174 d j1 x3 (x4 + (1 : Int32)) x5 (hs_wI μ 23 0 (x4.toNatClampNeg) (μ.1 21 0 (x5.toNatClampNeg))) else none) else hs_bI (hc_Will_fact d ((μ.1 21 0 (x5.toNatClampNeg)) - (1000 : Int32)) j1 x3 μ) (fun r1 μ1 => (if hs_in x4 40 then he_Will_value_174 d j1 x3 (x4 + (1 : Int32)) x5 (hs_wI μ1 23 0 (x4.toNatClampNeg) r1) else none))) else some (some (vI (0 : Int32)), μ)) else (if (μ.1 21 0 (x5.toNatClampNeg)) = (3000 : Int32) then (if (x4 - (0 : Int32)) < (1 : Int32) then some (some (vI (0 : Int32)), μ) else (if hs_in ((x4 - (0 : Int32)) - (1 : Int32)) 40 then (if hs_in ((x4 - (0 : Int32)) - (1 : Int32)) 40 then he_Will_value_174 d j1 x3 (x4 - (0 : Int32)) x5 (hs_wI μ 23 0 (((x4 - (0 : Int32)) - (1 : Int32)).toNatClampNeg) (-(μ.1 23 0 (((x4 - (0 : Int32)) - (1 : Int32)).toNatClampNeg)))) else none) else none)) else (if (x4 - (1 : Int32)) < (1 : Int32) then some (some (vI (0 : Int32)), μ) else (if hs_in ((x4 - (1 : Int32)) - (1 : Int32)) 40 then (if hs_in (x4 - (1 : Int32)) 40 then hs_bI (hc_Will_combine d ((μ.1 21 0 (x5.toNatClampNeg)) - (2000 : Int32)) (μ.1 23 0 (((x4 - (1 : Int32)) - (1 : Int32)).toNatClampNeg)) (μ.1 23 0 ((x4 - (1 : Int32)).toNatClampNeg)) μ) (fun r2 μ2 => (if hs_in ((x4 - (1 : Int32)) - (1 : Int32)) 40 then he_Will_value_174 d j1 x3 (x4 - (1 : Int32)) x5 (hs_wI μ2 23 0 (((x4 - (1 : Int32)) - (1 : Int32)).toNatClampNeg) r2) else none)) else none) else none)))) else none) else some (some (vI (μ.1 23 0 0)), μ)) else some (some (vI (μ.1 23 0 0)), μ)) := by exact (hs_ev_go hp_Will_value [15, 174] 100 15 _ [] μ).trans rfl
set_option maxRecDepth 100000 in
theorem hq_Will_value_174 (d : Nat) (j1 : Nat) (x3 : Int32) (x4 : Int32) (x5 : Int32) (μ : hs_M)  : he_Will_value_174 d j1 x3 x4 x5 μ =
  he_Will_value_15 d j1 x3 x4 (x5 + (1 : Int32)) μ := by exact (hs_ev_go hp_Will_value [15, 174] 100 174 _ [] μ).trans rfl
end
section
/-! ===== the equations of the methods, 4 ===== -/
theorem hp_Will_combine : hs_prog 101 = (hs_k101, 3, 1) := rfl
set_option maxRecDepth 100000 in
theorem hq_Will_combine (d : Nat) (x0 : Int32) (x1 : Int32) (x2 : Int32) (μ : hs_M)  : hc_Will_combine (d + 1) x0 x1 x2 μ =
  (if x0 = (42 : Int32) then some (some (vI (x1 * x2)), μ) else (if x0 = (43 : Int32) then some (some (vI (x1 + x2)), μ) else (if x0 = (45 : Int32) then some (some (vI (x1 - x2)), μ) else (if x0 = (47 : Int32) then (if x2 = 0 then some (some (vI (0 : Int32)), μ) else (if x2 = 0 then none else some (some (vI (x1 / x2)), μ))) else (if x0 = (60 : Int32) then (if x1 < x2 then some (some (vI (1 : Int32)), μ) else some (some (vI (0 : Int32)), μ)) else (if x0 = (62 : Int32) then (if x2 < x1 then some (some (vI (1 : Int32)), μ) else some (some (vI (0 : Int32)), μ)) else (if x1 = x2 then some (some (vI (1 : Int32)), μ) else some (some (vI (0 : Int32)), μ)))))))) := by exact (hs_ev_go hp_Will_combine [] 46 0 _ [] μ).trans rfl
noncomputable def he_Will_fact_145 (d : Nat) (j1 : Nat) (x3 : Int32) (μ : hs_M) : Option (Option hs_V × hs_M) := hs_ev d 102 145 [none, some (vR 6 j1), none, some (vI x3), none] [] μ
theorem hp_Will_fact : hs_prog 102 = (hs_k102, 5, 1) := rfl
set_option maxRecDepth 100000 in
theorem hq_Will_fact (d : Nat) (x0 : Int32) (j1 : Nat) (x3 : Int32) (μ : hs_M)  : hc_Will_fact (d + 1) x0 j1 x3 μ =
  (if x0 = (105 : Int32) then some (some (vI x3), μ) else (if x0 = (106 : Int32) then he_Will_fact_145 d j1 x3 μ else (if x0 = (107 : Int32) then he_Will_fact_145 d j1 x3 μ else (if x0 = (108 : Int32) then he_Will_fact_145 d j1 x3 μ else (if x0 = (109 : Int32) then he_Will_fact_145 d j1 x3 μ else (if x0 = (110 : Int32) then some (some (vI (μ.1 6 j1 0)), μ) else (if x0 = (111 : Int32) then he_Will_fact_145 d j1 x3 μ else (if x0 = (112 : Int32) then (if hs_in x3 8 then some (some (vI (μ.1 15 0 (x3.toNatClampNeg))), μ) else none) else (if x0 = (113 : Int32) then (if (μ.1 6 j1 1) < 0 then some (some (vI (-1 : Int32)), μ) else (if hs_in (μ.1 6 j1 1) 8 then some (some (vI (μ.1 15 0 ((μ.1 6 j1 1).toNatClampNeg))), μ) else none)) else (if x0 = (114 : Int32) then he_Will_fact_145 d j1 x3 μ else (if x0 = (115 : Int32) then some (some (vI (μ.1 6 j1 2)), μ) else (if x0 = (116 : Int32) then some (some (vI (μ.1 6 j1 5)), μ) else (if x0 = (117 : Int32) then he_Will_fact_145 d j1 x3 μ else (if x0 = (118 : Int32) then (if (μ.1 6 j1 1) < 0 then some (some (vI (0 : Int32)), μ) else (if hs_in (μ.1 6 j1 1) 8 then some (some (vI (μ.1 24 j1 ((μ.1 6 j1 1).toNatClampNeg))), μ) else none)) else (if x0 = (119 : Int32) then (if hs_in x3 8 then some (some (vI (μ.1 24 j1 (x3.toNatClampNeg))), μ) else none) else he_Will_fact_145 d j1 x3 μ))))))))))))))) := by exact (hs_ev_go hp_Will_fact [145] 52 0 _ [] μ).trans rfl
set_option maxRecDepth 100000 in
theorem hq_Will_fact_145 (d : Nat) (j1 : Nat) (x3 : Int32) (μ : hs_M)  : he_Will_fact_145 d j1 x3 μ =
  (if hs_in x3 8 then some (some (vI (μ.1 25 j1 (x3.toNatClampNeg))), μ) else none) := by exact (hs_ev_go hp_Will_fact [145] 52 145 _ [] μ).trans rfl
theorem hp_H_sign : hs_prog 103 = (hs_k103, 2, 1) := rfl
set_option maxRecDepth 100000 in
theorem hq_H_sign (d : Nat) (x1 : Int32) (μ : hs_M)  : hc_H_sign (d + 1) x1 μ =
  hs_bI (hc_Text_append d x1 μ) (fun r1 μ1 => (if r1 = 0 then some (some (vI (-1 : Int32)), μ1) else some (some (vI (μ1.1 7 0 1)), μ1))) := by exact (hs_ev_go hp_H_sign [] 14 0 _ [] μ).trans rfl
theorem hp_H_end : hs_prog 104 = (hs_k104, 2, 3) := rfl
set_option maxRecDepth 100000 in
theorem hq_H_end (d : Nat) (x1 : Int32) (μ : hs_M)  : hc_H_end (d + 1) x1 μ =
  (if x1 < 0 then hs_rz (0 : Int32) μ else (if (μ.1 7 0 1) < x1 then hs_rz (0 : Int32) μ else hs_rz (1 : Int32) (hs_wI μ 7 0 1 x1))) := by exact (hs_ev_go hp_H_end [] 18 0 _ [] μ).trans rfl
noncomputable def he_H_town_51 (d : Nat) (x2 : Int32) (x3 : Int32) (μ : hs_M) : Option (Option hs_V × hs_M) := hs_ev d 105 51 [some (vR 11 0), none, some (vI x2), some (vI x3)] [] μ
theorem hp_H_town : hs_prog 105 = (hs_k105, 4, 1) := rfl
set_option maxRecDepth 100000 in
theorem hq_H_town (d : Nat)  (μ : hs_M)  : hc_H_town (d + 1)  μ =
  (if (μ.1 7 0 1) = 0 then some (some (vI (0 : Int32)), μ) else hs_bI (hc_Town_readLines d μ) (fun r1 μ1 => (if r1 = (-1 : Int32) then he_H_town_51 d (μ1.1 8 0 8) (0 : Int32) (hs_wI μ1 7 0 1 (0 : Int32)) else some (some (vI ((-1 : Int32) - r1)), (hs_wI μ1 7 0 1 (0 : Int32)))))) := by exact (hs_ev_go hp_H_town [51] 61 0 _ [] μ).trans rfl
set_option maxRecDepth 100000 in
theorem hq_H_town_51 (d : Nat) (x2 : Int32) (x3 : Int32) (μ : hs_M)  : he_H_town_51 d x2 x3 μ =
  (if x3 < x2 then hs_bI (hc_Town_arriving d (μ.1 8 0 9) μ) (fun r1 μ1 => hs_bV (hc_State_welcome d 0 (μ.1 8 0 9) r1 μ1) (fun μ2 => he_H_town_51 d x2 (x3 + (1 : Int32)) (hs_wI μ2 8 0 9 ((μ2.1 8 0 9) + (1 : Int32))))) else hs_bV (hc_Past_forgetSteps d μ) (fun μ3 => some (some (vI x2), μ3))) := by exact (hs_ev_go hp_H_town [51] 61 51 _ [] μ).trans rfl
theorem hp_H_will : hs_prog 106 = (hs_k106, 2, 1) := rfl
set_option maxRecDepth 100000 in
theorem hq_H_will (d : Nat)  (μ : hs_M)  : hc_H_will (d + 1)  μ =
  hs_bI (hc_Will_read d μ) (fun r1 μ1 => (if r1 = (-1 : Int32) then some (some (vI (0 : Int32)), (hs_wI μ1 7 0 1 (0 : Int32))) else some (some (vI ((-1 : Int32) - r1)), (hs_wI μ1 7 0 1 (0 : Int32))))) := by exact (hs_ev_go hp_H_will [] 22 0 _ [] μ).trans rfl
theorem hp_H_habit : hs_prog 107 = (hs_k107, 3, 1) := rfl
set_option maxRecDepth 100000 in
theorem hq_H_habit (d : Nat) (x1 : Int32) (μ : hs_M)  : hc_H_habit (d + 1) x1 μ =
  hs_bI (hc_Town_has d x1 μ) (fun r1 μ1 => (if r1 = 0 then some (some (vI (-100 : Int32)), (hs_wI μ1 7 0 1 (0 : Int32))) else hs_bI (hc_Town_readHabit d x1 μ1) (fun r2 μ2 => (if r2 = (-1 : Int32) then (if hs_in x1 8 then some (some (vI (μ2.1 17 0 (x1.toNatClampNeg))), (hs_wI μ2 7 0 1 (0 : Int32))) else none) else some (some (vI ((-1 : Int32) - r2)), (hs_wI μ2 7 0 1 (0 : Int32))))))) := by exact (hs_ev_go hp_H_habit [] 38 0 _ [] μ).trans rfl
theorem hp_H_of : hs_prog 108 = (hs_k108, 3, 1) := rfl
set_option maxRecDepth 100000 in
theorem hq_H_of (d : Nat) (x1 : Int32) (x2 : Int32) (μ : hs_M)  : hc_H_of (d + 1) x1 x2 μ =
  hs_bI (hc_Town_has d x1 μ) (fun r1 μ1 => (if r1 = 0 then some (none, μ1) else (if x2 = (0 : Int32) then (if hs_in x1 8 then some (some (vI (μ1.1 24 0 (x1.toNatClampNeg))), μ1) else none) else (if x2 = (1 : Int32) then (if hs_in x1 8 then some (some (vI (μ1.1 15 0 (x1.toNatClampNeg))), μ1) else none) else (if x2 = (2 : Int32) then (if hs_in x1 8 then some (some (vI (μ1.1 16 0 (x1.toNatClampNeg))), μ1) else none) else (if x2 = (3 : Int32) then hs_bI (hc_State_lives d 0 x1 μ1) (fun r4 μ4 => (if r4 = 0 then some (some (vI (0 : Int32)), μ4) else some (some (vI (1 : Int32)), μ4))) else (if x2 = (4 : Int32) then (if hs_in x1 8 then some (some (vI (μ1.1 25 0 (x1.toNatClampNeg))), μ1) else none) else (if x2 = (5 : Int32) then (if hs_in x1 8 then hs_bI (hc_Scale_shows d (μ1.1 24 0 (x1.toNatClampNeg)) μ1) (fun r3 μ3 => some (some (vI r3), μ3)) else none) else (if x2 = (6 : Int32) then hs_bI (hc_Will_value d 0 x1 μ1) (fun r2 μ2 => some (some (vI r2), μ2)) else (if x2 = (7 : Int32) then (if hs_in x1 8 then some (some (vI (μ1.1 17 0 (x1.toNatClampNeg))), μ1) else none) else some (none, μ1))))))))))) := by exact (hs_ev_go hp_H_of [] 75 0 _ [] μ).trans rfl
theorem hp_H_change : hs_prog 109 = (hs_k109, 3, 1) := rfl
set_option maxRecDepth 100000 in
theorem hq_H_change (d : Nat) (x1 : Int32) (x2 : Int32) (μ : hs_M)  : hc_H_change (d + 1) x1 x2 μ =
  hs_bI (hc_Town_has d x1 μ) (fun r1 μ1 => (if r1 = 0 then some (none, μ1) else (if x2 < 0 then some (none, μ1) else (if hs_in x1 8 then (if x2 < (μ1.1 17 0 (x1.toNatClampNeg)) then hs_bI (hc_Town_changeAt d x1 x2 μ1) (fun r2 μ2 => some (some (vI r2), μ2)) else some (none, μ1)) else none)))) := by exact (hs_ev_go hp_H_change [] 27 0 _ [] μ).trans rfl
noncomputable def he_H_set_69 (d : Nat) (x1 : Int32) (x2 : Int32) (x3 : Int32) (μ : hs_M) : Option (Option hs_V × hs_M) := hs_ev d 110 69 [some (vR 11 0), some (vI x1), some (vI x2), some (vI x3)] [] μ
theorem hp_H_set : hs_prog 110 = (hs_k110, 4, 1) := rfl
set_option maxRecDepth 100000 in
theorem hq_H_set (d : Nat) (x1 : Int32) (x2 : Int32) (x3 : Int32) (μ : hs_M)  : hc_H_set (d + 1) x1 x2 x3 μ =
  hs_bI (hc_Town_has d x2 μ) (fun r1 μ1 => (if r1 = 0 then some (some (vI (-1 : Int32)), μ1) else (if x3 < 0 then some (some (vI (-1 : Int32)), μ1) else (if x1 = 0 then (if x3 < (1 : Int32) then (if x1 = (1 : Int32) then (if x3 < (4 : Int32) then hs_bI (hc_H_exchange d 15 x2 x3 μ1) (fun r2 μ2 => some (some (vI r2), μ2)) else he_H_set_69 d x1 x2 x3 μ1) else he_H_set_69 d x1 x2 x3 μ1) else (if (999 : Int32) < x3 then (if x1 = (1 : Int32) then (if x3 < (4 : Int32) then hs_bI (hc_H_exchange d 15 x2 x3 μ1) (fun r3 μ3 => some (some (vI r3), μ3)) else he_H_set_69 d x1 x2 x3 μ1) else he_H_set_69 d x1 x2 x3 μ1) else hs_bI (hc_H_exchange d 24 x2 x3 μ1) (fun r4 μ4 => some (some (vI r4), μ4)))) else (if x1 = (1 : Int32) then (if x3 < (4 : Int32) then hs_bI (hc_H_exchange d 15 x2 x3 μ1) (fun r5 μ5 => some (some (vI r5), μ5)) else he_H_set_69 d x1 x2 x3 μ1) else he_H_set_69 d x1 x2 x3 μ1))))) := by exact (hs_ev_go hp_H_set [69] 55 0 _ [] μ).trans rfl
set_option maxRecDepth 100000 in
theorem hq_H_set_69 (d : Nat) (x1 : Int32) (x2 : Int32) (x3 : Int32) (μ : hs_M)  : he_H_set_69 d x1 x2 x3 μ =
  (if x1 = (2 : Int32) then (if (9 : Int32) < x3 then some (some (vI (-1 : Int32)), μ) else hs_bI (hc_H_exchange d 16 x2 x3 μ) (fun r1 μ1 => some (some (vI r1), μ1))) else some (some (vI (-1 : Int32)), μ)) := by exact (hs_ev_go hp_H_set [69] 55 69 _ [] μ).trans rfl
noncomputable def he_H_scale_52 (d : Nat)  (μ : hs_M) : Option (Option hs_V × hs_M) := hs_ev d 111 52 [none, none, none] [] μ
theorem hp_H_scale : hs_prog 111 = (hs_k111, 3, 3) := rfl
set_option maxRecDepth 100000 in
theorem hq_H_scale (d : Nat) (x1 : Int32) (x2 : Int32) (μ : hs_M)  : hc_H_scale (d + 1) x1 x2 μ =
  (if x1 = 0 then (if x2 < (1 : Int32) then (if x1 = (1 : Int32) then (if x2 < (-9 : Int32) then he_H_scale_52 d μ else (if (9 : Int32) < x2 then he_H_scale_52 d μ else hs_rz (1 : Int32) (hs_wI μ 5 0 1 x2))) else he_H_scale_52 d μ) else (if (9 : Int32) < x2 then (if x1 = (1 : Int32) then (if x2 < (-9 : Int32) then he_H_scale_52 d μ else (if (9 : Int32) < x2 then he_H_scale_52 d μ else hs_rz (1 : Int32) (hs_wI μ 5 0 1 x2))) else he_H_scale_52 d μ) else hs_rz (1 : Int32) (hs_wI μ 5 0 0 x2))) else (if x1 = (1 : Int32) then (if x2 < (-9 : Int32) then he_H_scale_52 d μ else (if (9 : Int32) < x2 then he_H_scale_52 d μ else hs_rz (1 : Int32) (hs_wI μ 5 0 1 x2))) else he_H_scale_52 d μ)) := by exact (hs_ev_go hp_H_scale [52] 34 0 _ [] μ).trans rfl
set_option maxRecDepth 100000 in
theorem hq_H_scale_52 (d : Nat)  (μ : hs_M)  : he_H_scale_52 d  μ =
  hs_rz (0 : Int32) μ := by exact (hs_ev_go hp_H_scale [52] 34 52 _ [] μ).trans rfl
noncomputable def he_H_sheet_47 (d : Nat) (x1 : Int32) (x3 : Int32) (x4 : Int32) (x5 : Int32) (x6 : Int32) (x7 : Int32) (μ : hs_M) : Option (Option hs_V × hs_M) := hs_ev d 112 47 [some (vR 11 0), some (vI x1), none, some (vI x3), some (vI x4), some (vI x5), some (vI x6), some (vI x7), none] [] μ
theorem hp_H_sheet : hs_prog 112 = (hs_k112, 9, 1) := rfl
set_option maxRecDepth 100000 in
theorem hq_H_sheet (d : Nat) (x1 : Int32) (x2 : Int32) (x3 : Int32) (x4 : Int32) (μ : hs_M)  : hc_H_sheet (d + 1) x1 x2 x3 x4 μ =
  (if x1 < 0 then some (some (vI (-1 : Int32)), μ) else (if (3 : Int32) < x1 then some (some (vI (-1 : Int32)), μ) else (if (8 : Int32) < x2 then some (some (vI (-1 : Int32)), μ) else (if x1 = (3 : Int32) then (if x1 = (3 : Int32) then he_H_sheet_47 d x1 x3 x4 (0 : Int32) (0 : Int32) (0 : Int32) μ else he_H_sheet_47 d x1 x3 x4 x2 (0 : Int32) (0 : Int32) μ) else (if x2 < 0 then some (some (vI (-2 : Int32)), μ) else (if x1 = (3 : Int32) then he_H_sheet_47 d x1 x3 x4 (0 : Int32) (0 : Int32) (0 : Int32) μ else he_H_sheet_47 d x1 x3 x4 x2 (0 : Int32) (0 : Int32) μ)))))) := by exact (hs_ev_go hp_H_sheet [47] 71 0 _ [] μ).trans rfl
set_option maxRecDepth 100000 in
theorem hq_H_sheet_47 (d : Nat) (x1 : Int32) (x3 : Int32) (x4 : Int32) (x5 : Int32) (x6 : Int32) (x7 : Int32) (μ : hs_M)  : he_H_sheet_47 d x1 x3 x4 x5 x6 x7 μ =
  (if x7 < (μ.1 8 0 9) then (if x7 < x5 then hs_bI (hc_H_asKind d x1 (x3 + (x7 * x4)) μ) (fun r1 μ1 => hs_bV (hc_State_putWeight d 0 x7 r1 μ1) (fun μ2 => (if hs_in x7 8 then he_H_sheet_47 d x1 x3 x4 x5 (x6 + (μ2.1 24 0 (x7.toNatClampNeg))) (x7 + (1 : Int32)) μ2 else none))) else hs_bV (hc_State_putWeight d 0 x7 (1 : Int32) μ) (fun μ3 => (if hs_in x7 8 then he_H_sheet_47 d x1 x3 x4 x5 (x6 + (μ3.1 24 0 (x7.toNatClampNeg))) (x7 + (1 : Int32)) μ3 else none))) else (if x1 = (3 : Int32) then some (some (vI (-3 : Int32)), μ) else some (some (vI x6), μ))) := by exact (hs_ev_go hp_H_sheet [47] 71 47 _ [] μ).trans rfl
theorem hp_H_stand : hs_prog 113 = (hs_k113, 3, 1) := rfl
set_option maxRecDepth 100000 in
theorem hq_H_stand (d : Nat) (x1 : Int32) (μ : hs_M)  : hc_H_stand (d + 1) x1 μ =
  hs_bI (hc_Town_everyone d μ) (fun r1 μ1 => (if (x1 &&& (r1 ^^^ (-1 : Int32))) = 0 then hs_bV (hc_Past_remember d 0 μ1) (fun μ2 => hs_bI (hc_H_passWeek d x1 (0 : Int32) μ2) (fun r3 μ3 => (if r3 = (-1 : Int32) then hs_bV (hc_Row_begin d (0 : Int64) μ3) (fun μ4 => hs_bI (hc_Math_max d r3 (0 : Int32) μ4) (fun r5 μ5 => hs_bV (hc_Row_add d (r5.toInt64) μ5) (fun μ6 => some (some (vI (μ6.1 6 0 1)), μ6)))) else hs_bV (hc_Row_begin d (1 : Int64) μ3) (fun μ7 => hs_bI (hc_Math_max d r3 (0 : Int32) μ7) (fun r8 μ8 => hs_bV (hc_Row_add d (r8.toInt64) μ8) (fun μ9 => some (some (vI (μ9.1 6 0 1)), μ9))))))) else some (some (vI (-2 : Int32)), μ1))) := by exact (hs_ev_go hp_H_stand [] 43 0 _ [] μ).trans rfl
noncomputable def he_H_weeks_34 (d : Nat) (x1 : Int32) (x2 : Int32) (x3 : Int32) (x4 : Int32) (μ : hs_M) : Option (Option hs_V × hs_M) := hs_ev d 114 34 [some (vR 11 0), some (vI x1), some (vI x2), some (vI x3), some (vI x4), none] [] μ
theorem hp_H_weeks : hs_prog 114 = (hs_k114, 6, 1) := rfl
set_option maxRecDepth 100000 in
theorem hq_H_weeks (d : Nat) (x1 : Int32) (μ : hs_M)  : hc_H_weeks (d + 1) x1 μ =
  (if x1 < 0 then some (some (vI (-1 : Int32)), μ) else (if (99 : Int32) < x1 then some (some (vI (-1 : Int32)), μ) else (if 0 < x1 then hs_bV (hc_Past_remember d 0 μ) (fun μ1 => he_H_weeks_34 d x1 (0 : Int32) (0 : Int32) (0 : Int32) μ1) else he_H_weeks_34 d x1 (0 : Int32) (0 : Int32) (0 : Int32) μ))) := by exact (hs_ev_go hp_H_weeks [34] 55 0 _ [] μ).trans rfl
set_option maxRecDepth 100000 in
theorem hq_H_weeks_34 (d : Nat) (x1 : Int32) (x2 : Int32) (x3 : Int32) (x4 : Int32) (μ : hs_M)  : he_H_weeks_34 d x1 x2 x3 x4 μ =
  (if x4 < x1 then hs_bI (hc_H_passWeek d (0 : Int32) (255 : Int32) μ) (fun r1 μ1 => (if r1 = (-1 : Int32) then he_H_weeks_34 d x1 x2 x3 (x4 + (1 : Int32)) μ1 else he_H_weeks_34 d x1 (x2 + (1 : Int32)) (x3 + r1) (x4 + (1 : Int32)) μ1)) else hs_bV (hc_Row_begin d ((μ.1 6 0 1).toInt64) μ) (fun μ2 => hs_bV (hc_Row_add d (x3.toInt64) μ2) (fun μ3 => some (some (vI x2), μ3)))) := by exact (hs_ev_go hp_H_weeks [34] 55 34 _ [] μ).trans rfl
theorem hp_H_year : hs_prog 115 = (hs_k115, 3, 1) := rfl
set_option maxRecDepth 100000 in
theorem hq_H_year (d : Nat)  (μ : hs_M)  : hc_H_year (d + 1)  μ =
  hs_bV (hc_Text_open d (60 : Int32) μ) (fun μ1 => hs_bI (hc_H_yearFault d μ1) (fun r2 μ2 => (if r2 = (-1 : Int32) then hs_bI (hc_H_passYear d μ2) (fun r3 μ3 => some (some (vI r3), (hs_wI μ3 7 0 1 (0 : Int32)))) else some (some (vI ((-1 : Int32) - r2)), (hs_wI μ2 7 0 1 (0 : Int32)))))) := by exact (hs_ev_go hp_H_year [] 26 0 _ [] μ).trans rfl
theorem hp_H_law : hs_prog 116 = (hs_k116, 1, 1) := rfl
set_option maxRecDepth 100000 in
theorem hq_H_law (d : Nat)  (μ : hs_M)  : hc_H_law (d + 1)  μ =
  (if (μ.1 6 0 1) = (-1 : Int32) then some (some (vI (-2 : Int32)), μ) else (if (μ.1 6 0 6) < (12 : Int32) then hs_bV (hc_Past_remember d 0 μ) (fun μ1 => hs_bI (hc_State_makeLaw d 0 μ1) (fun r2 μ2 => some (some (vI r2), μ2))) else some (some (vI (-3 : Int32)), μ))) := by exact (hs_ev_go hp_H_law [] 26 0 _ [] μ).trans rfl
theorem hp_H_laws : hs_prog 117 = (hs_k117, 3, 1) := rfl
set_option maxRecDepth 100000 in
theorem hq_H_laws (d : Nat) (x1 : Int32) (x2 : Int32) (μ : hs_M)  : hc_H_laws (d + 1) x1 x2 μ =
  (if x1 < 0 then some (none, μ) else (if x1 < (μ.1 6 0 6) then (if x2 = (0 : Int32) then (if hs_in x1 12 then some (some (vI (μ.1 26 0 (x1.toNatClampNeg))), μ) else none) else (if x2 = (1 : Int32) then (if hs_in x1 12 then some (some (vI (μ.1 27 0 (x1.toNatClampNeg))), μ) else none) else (if x2 = (2 : Int32) then some (some (vI (((μ.1 6 0 4) >>> (x1 &&& 31)) &&& (1 : Int32))), μ) else (if x2 = (3 : Int32) then (if hs_in x1 12 then some (some (vI (μ.1 28 0 (x1.toNatClampNeg))), μ) else none) else some (none, μ))))) else some (none, μ))) := by exact (hs_ev_go hp_H_laws [] 46 0 _ [] μ).trans rfl
theorem hp_H_feed : hs_prog 118 = (hs_k118, 3, 1) := rfl
set_option maxRecDepth 100000 in
theorem hq_H_feed (d : Nat) (x1 : Int32) (x2 : Int32) (μ : hs_M)  : hc_H_feed (d + 1) x1 x2 μ =
  hs_bI (hc_H_eat d x1 x2 (1 : Int32) μ) (fun r1 μ1 => some (some (vI r1), μ1)) := by exact (hs_ev_go hp_H_feed [] 9 0 _ [] μ).trans rfl
theorem hp_H_fast : hs_prog 119 = (hs_k119, 3, 1) := rfl
set_option maxRecDepth 100000 in
theorem hq_H_fast (d : Nat) (x1 : Int32) (x2 : Int32) (μ : hs_M)  : hc_H_fast (d + 1) x1 x2 μ =
  hs_bI (hc_H_eat d x1 x2 (-1 : Int32) μ) (fun r1 μ1 => some (some (vI r1), μ1)) := by exact (hs_ev_go hp_H_fast [] 9 0 _ [] μ).trans rfl
theorem hp_H_dies : hs_prog 120 = (hs_k120, 2, 1) := rfl
set_option maxRecDepth 100000 in
theorem hq_H_dies (d : Nat) (x1 : Int32) (μ : hs_M)  : hc_H_dies (d + 1) x1 μ =
  hs_bI (hc_H_isThere d x1 μ) (fun r1 μ1 => (if r1 = 0 then some (some (vI (-1 : Int32)), μ1) else hs_bV (hc_Past_remember d 0 μ1) (fun μ2 => hs_bI (hc_State_bury d 0 x1 μ2) (fun r3 μ3 => some (some (vI r3), μ3))))) := by exact (hs_ev_go hp_H_dies [] 19 0 _ [] μ).trans rfl
theorem hp_H_undo : hs_prog 121 = (hs_k121, 1, 1) := rfl
set_option maxRecDepth 100000 in
theorem hq_H_undo (d : Nat)  (μ : hs_M)  : hc_H_undo (d + 1)  μ =
  hs_bI (hc_Past_stepBack d 0 μ) (fun r1 μ1 => (if r1 = 0 then some (some (vI (-1 : Int32)), μ1) else some (some (vI (μ1.1 3 0 4)), μ1))) := by exact (hs_ev_go hp_H_undo [] 15 0 _ [] μ).trans rfl
theorem hp_H_served : hs_prog 122 = (hs_k122, 2, 1) := rfl
set_option maxRecDepth 100000 in
theorem hq_H_served (d : Nat) (x1 : Int32) (μ : hs_M)  : hc_H_served (d + 1) x1 μ =
  (if x1 < 0 then some (some (vI (-2 : Int32)), μ) else (if x1 < (μ.1 6 0 0) then (if x1 < ((μ.1 6 0 0) - (60 : Int32)) then some (some (vI (-2 : Int32)), μ) else (if hs_in (x1 - x1 / (60 : Int32) * (60 : Int32)) 60 then some (some (vI (μ.1 29 0 ((x1 - x1 / (60 : Int32) * (60 : Int32)).toNatClampNeg))), μ) else none)) else some (some (vI (-2 : Int32)), μ))) := by exact (hs_ev_go hp_H_served [] 27 0 _ [] μ).trans rfl
theorem hp_H_later : hs_prog 123 = (hs_k123, 3, 1) := rfl
set_option maxRecDepth 100000 in
theorem hq_H_later (d : Nat) (x1 : Int32) (x2 : Int32) (μ : hs_M)  : hc_H_later (d + 1) x1 x2 μ =
  hs_bI (hc_H_isThere d x1 μ) (fun r1 μ1 => (if r1 = 0 then some (some (vI (-1 : Int32)), μ1) else (if x2 < 0 then some (some (vI (-1 : Int32)), μ1) else (if (99 : Int32) < x2 then some (some (vI (-1 : Int32)), μ1) else hs_bI (hc_Town_weightLater d 0 x1 x2 μ1) (fun r2 μ2 => some (some (vI r2), μ2)))))) := by exact (hs_ev_go hp_H_later [] 22 0 _ [] μ).trans rfl
theorem hp_H_then : hs_prog 124 = (hs_k124, 2, 1) := rfl
set_option maxRecDepth 100000 in
theorem hq_H_then (d : Nat) (x1 : Int32) (μ : hs_M)  : hc_H_then (d + 1) x1 μ =
  (if x1 < 0 then some (some (vI (-2 : Int32)), μ) else (if (99 : Int32) < x1 then some (some (vI (-2 : Int32)), μ) else hs_bI (hc_Future_serverThen d x1 μ) (fun r1 μ1 => some (some (vI r1), μ1)))) := by exact (hs_ev_go hp_H_then [] 15 0 _ [] μ).trans rfl
theorem hp_H_soonest : hs_prog 125 = (hs_k125, 2, 1) := rfl
set_option maxRecDepth 100000 in
theorem hq_H_soonest (d : Nat) (x1 : Int32) (μ : hs_M)  : hc_H_soonest (d + 1) x1 μ =
  hs_bI (hc_Town_has d x1 μ) (fun r1 μ1 => (if r1 = 0 then some (some (vI (-1 : Int32)), μ1) else (if (μ1.1 6 0 1) = x1 then some (some (vI (-3 : Int32)), μ1) else hs_bI (hc_Future_weeksTill d x1 μ1) (fun r2 μ2 => some (some (vI r2), μ2))))) := by exact (hs_ev_go hp_H_soonest [] 22 0 _ [] μ).trans rfl
theorem hp_H_ever : hs_prog 126 = (hs_k126, 2, 1) := rfl
set_option maxRecDepth 100000 in
theorem hq_H_ever (d : Nat) (x1 : Int32) (μ : hs_M)  : hc_H_ever (d + 1) x1 μ =
  (if x1 < 0 then some (some (vI (-1 : Int32)), μ) else (if (12 : Int32) < x1 then some (some (vI (-1 : Int32)), μ) else hs_bI (hc_Future_reachable d x1 μ) (fun r1 μ1 => some (some (vI r1), μ1)))) := by exact (hs_ev_go hp_H_ever [] 15 0 _ [] μ).trans rfl
theorem hp_H_most : hs_prog 127 = (hs_k127, 3, 1) := rfl
set_option maxRecDepth 100000 in
theorem hq_H_most (d : Nat) (x1 : Int32) (x2 : Int32) (μ : hs_M)  : hc_H_most (d + 1) x1 x2 μ =
  hs_bI (hc_H_isThere d x1 μ) (fun r1 μ1 => (if r1 = 0 then some (some (vI (-1 : Int32)), μ1) else (if x2 < 0 then some (some (vI (-1 : Int32)), μ1) else (if (10 : Int32) < x2 then some (some (vI (-1 : Int32)), μ1) else hs_bI (hc_Future_bestStanding d x1 x2 μ1) (fun r2 μ2 => some (some (vI r2), μ2)))))) := by exact (hs_ev_go hp_H_most [] 20 0 _ [] μ).trans rfl
theorem hp_H_rests : hs_prog 128 = (hs_k128, 3, 1) := rfl
set_option maxRecDepth 100000 in
theorem hq_H_rests (d : Nat) (x1 : Int32) (x2 : Int32) (μ : hs_M)  : hc_H_rests (d + 1) x1 x2 μ =
  (if x1 < (1 : Int32) then some (some (vI (-1 : Int32)), μ) else (if (4 : Int32) < x1 then some (some (vI (-1 : Int32)), μ) else (if x2 < 0 then some (some (vI (-1 : Int32)), μ) else (if (20 : Int32) < x2 then some (some (vI (-1 : Int32)), μ) else hs_bI (hc_Future_rounds d x1 x2 μ) (fun r1 μ1 => some (some (vI r1), μ1)))))) := by exact (hs_ev_go hp_H_rests [] 22 0 _ [] μ).trans rfl
theorem hp_H_party : hs_prog 129 = (hs_k129, 2, 1) := rfl
set_option maxRecDepth 100000 in
theorem hq_H_party (d : Nat) (x1 : Int32) (μ : hs_M)  : hc_H_party (d + 1) x1 μ =
  (if x1 < 0 then some (some (vI (-2 : Int32)), μ) else (if (99 : Int32) < x1 then some (some (vI (-2 : Int32)), μ) else hs_bI (hc_Future_strongestParty d x1 μ) (fun r1 μ1 => some (some (vI r1), μ1)))) := by exact (hs_ev_go hp_H_party [] 15 0 _ [] μ).trans rfl
theorem hp_H_byTurns : hs_prog 130 = (hs_k130, 3, 1) := rfl
set_option maxRecDepth 100000 in
theorem hq_H_byTurns (d : Nat) (x1 : Int32) (x2 : Int32) (μ : hs_M)  : hc_H_byTurns (d + 1) x1 x2 μ =
  (if x1 < 0 then some (some (vI (-1 : Int32)), μ) else (if x1 < (4 : Int32) then (if x2 < 0 then some (some (vI (-1 : Int32)), μ) else (if (99 : Int32) < x2 then some (some (vI (-1 : Int32)), μ) else hs_bI (hc_Future_takingTurns d x1 x2 μ) (fun r1 μ1 => some (some (vI r1), μ1)))) else some (some (vI (-1 : Int32)), μ))) := by exact (hs_ev_go hp_H_byTurns [] 21 0 _ [] μ).trans rfl
theorem hp_H_fool : hs_prog 131 = (hs_k131, 3, 1) := rfl
set_option maxRecDepth 100000 in
theorem hq_H_fool (d : Nat) (x1 : Int32) (x2 : Int32) (μ : hs_M)  : hc_H_fool (d + 1) x1 x2 μ =
  hs_bI (hc_Town_has d x1 μ) (fun r1 μ1 => (if r1 = 0 then some (none, μ1) else (if x2 < 0 then some (none, μ1) else (if (99 : Int32) < x2 then some (none, μ1) else hs_bI (hc_Future_foolsWorth d x1 x2 μ1) (fun r2 μ2 => some (some (vI r2), μ2)))))) := by exact (hs_ev_go hp_H_fool [] 23 0 _ [] μ).trans rfl
theorem hp_H_hold : hs_prog 132 = (hs_k132, 2, 1) := rfl
set_option maxRecDepth 100000 in
theorem hq_H_hold (d : Nat) (x1 : Int32) (μ : hs_M)  : hc_H_hold (d + 1) x1 μ =
  (if x1 < 0 then some (some (vI (-1 : Int32)), μ) else (if (60 : Int32) < x1 then some (some (vI (-1 : Int32)), μ) else (if (μ.1 6 0 1) = (-1 : Int32) then some (some (vI (-3 : Int32)), μ) else hs_bI (hc_Trials_cakesToStay d (μ.1 6 0 1) x1 μ) (fun r1 μ1 => some (some (vI r1), μ1))))) := by exact (hs_ev_go hp_H_hold [] 25 0 _ [] μ).trans rfl
theorem hp_H_bribe : hs_prog 133 = (hs_k133, 3, 1) := rfl
set_option maxRecDepth 100000 in
theorem hq_H_bribe (d : Nat) (x1 : Int32) (x2 : Int32) (μ : hs_M)  : hc_H_bribe (d + 1) x1 x2 μ =
  hs_bI (hc_H_isThere d x1 μ) (fun r1 μ1 => (if r1 = 0 then some (some (vI (-1 : Int32)), μ1) else (if x2 < (1 : Int32) then some (some (vI (-1 : Int32)), μ1) else (if (60 : Int32) < x2 then some (some (vI (-1 : Int32)), μ1) else hs_bI (hc_Trials_cakesToServe d x1 x2 μ1) (fun r2 μ2 => some (some (vI r2), μ2)))))) := by exact (hs_ev_go hp_H_bribe [] 21 0 _ [] μ).trans rfl
theorem hp_H_starve : hs_prog 134 = (hs_k134, 3, 1) := rfl
set_option maxRecDepth 100000 in
theorem hq_H_starve (d : Nat) (x1 : Int32) (x2 : Int32) (μ : hs_M)  : hc_H_starve (d + 1) x1 x2 μ =
  hs_bI (hc_H_isThere d x1 μ) (fun r1 μ1 => (if r1 = 0 then some (some (vI (-1 : Int32)), μ1) else (if x2 < 0 then some (some (vI (-1 : Int32)), μ1) else (if (60 : Int32) < x2 then some (some (vI (-1 : Int32)), μ1) else hs_bI (hc_Trials_ouncesToMiss d x1 x2 μ1) (fun r2 μ2 => some (some (vI r2), μ2)))))) := by exact (hs_ev_go hp_H_starve [] 20 0 _ [] μ).trans rfl
theorem hp_H_cheapest : hs_prog 135 = (hs_k135, 1, 1) := rfl
set_option maxRecDepth 100000 in
theorem hq_H_cheapest (d : Nat)  (μ : hs_M)  : hc_H_cheapest (d + 1)  μ =
  hs_bI (hc_Trials_leastFed d μ) (fun r1 μ1 => some (some (vI r1), μ1)) := by exact (hs_ev_go hp_H_cheapest [] 7 0 _ [] μ).trans rfl
theorem hp_H_weighed : hs_prog 136 = (hs_k136, 3, 1) := rfl
set_option maxRecDepth 100000 in
theorem hq_H_weighed (d : Nat) (x1 : Int32) (x2 : Int32) (μ : hs_M)  : hc_H_weighed (d + 1) x1 x2 μ =
  hs_bI (hc_Town_has d x1 μ) (fun r1 μ1 => (if r1 = 0 then some (some (vI (-1 : Int32)), μ1) else (if x2 < 0 then some (some (vI (-1 : Int32)), μ1) else (if (1010 : Int32) < x2 then some (some (vI (-1 : Int32)), μ1) else hs_bI (hc_Pairs_append d 0 x1 x2 μ1) (fun r2 μ2 => some (some (vI r2), μ2)))))) := by exact (hs_ev_go hp_H_weighed [] 21 0 _ [] μ).trans rfl
theorem hp_H_forget : hs_prog 137 = (hs_k137, 1, 1) := rfl
set_option maxRecDepth 100000 in
theorem hq_H_forget (d : Nat)  (μ : hs_M)  : hc_H_forget (d + 1)  μ =
  (if (μ.1 2 0 2) = 0 then some (some (vI (-1 : Int32)), μ) else some (some (vI ((μ.1 2 0 2) - (1 : Int32))), (hs_wI μ 2 0 2 ((μ.1 2 0 2) - (1 : Int32))))) := by exact (hs_ev_go hp_H_forget [] 20 0 _ [] μ).trans rfl
theorem hp_H_grains : hs_prog 138 = (hs_k138, 1, 1) := rfl
set_option maxRecDepth 100000 in
theorem hq_H_grains (d : Nat)  (μ : hs_M)  : hc_H_grains (d + 1)  μ =
  hs_bI (hc_Scale_possibleGrains d 0 (μ.1 8 0 9) μ) (fun r1 μ1 => some (some (vI r1), μ1)) := by exact (hs_ev_go hp_H_grains [] 12 0 _ [] μ).trans rfl
theorem hp_H_span : hs_prog 139 = (hs_k139, 3, 1) := rfl
set_option maxRecDepth 100000 in
theorem hq_H_span (d : Nat) (x1 : Int32) (μ : hs_M)  : hc_H_span (d + 1) x1 μ =
  hs_bI (hc_Town_has d x1 μ) (fun r1 μ1 => (if r1 = 0 then some (some (vI (-1 : Int32)), μ1) else hs_bI (hc_Scale_narrow d 0 x1 (μ1.1 5 0 0) μ1) (fun r2 μ2 => hs_bV (hc_Row_range d r2 (μ2.1 5 0 2) (μ2.1 5 0 3) μ2) (fun μ3 => some (some (vI r2), μ3))))) := by exact (hs_ev_go hp_H_span [] 32 0 _ [] μ).trans rfl
noncomputable def he_H_offs_10 (d : Nat) (x1 : Int32) (x2 : Int32) (x3 : Int32) (x4 : Int32) (μ : hs_M) : Option (Option hs_V × hs_M) := hs_ev d 140 10 [some (vR 11 0), some (vI x1), some (vI x2), some (vI x3), some (vI x4)] [] μ
theorem hp_H_offs : hs_prog 140 = (hs_k140, 5, 1) := rfl
set_option maxRecDepth 100000 in
theorem hq_H_offs (d : Nat)  (μ : hs_M)  : hc_H_offs (d + 1)  μ =
  he_H_offs_10 d (0 : Int32) (0 : Int32) (0 : Int32) (-9 : Int32) μ := by exact (hs_ev_go hp_H_offs [10] 43 0 _ [] μ).trans rfl
set_option maxRecDepth 100000 in
theorem hq_H_offs_10 (d : Nat) (x1 : Int32) (x2 : Int32) (x3 : Int32) (x4 : Int32) (μ : hs_M)  : he_H_offs_10 d x1 x2 x3 x4 μ =
  (if (9 : Int32) < x4 then hs_bV (hc_Row_range d x1 x2 x3 μ) (fun μ1 => some (some (vI x1), μ1)) else hs_bI (hc_Scale_misfits d 0 x4 μ) (fun r2 μ2 => (if r2 = 0 then (if x1 = 0 then he_H_offs_10 d (x1 + (1 : Int32)) x4 x4 (x4 + (1 : Int32)) μ2 else he_H_offs_10 d (x1 + (1 : Int32)) x2 x4 (x4 + (1 : Int32)) μ2) else he_H_offs_10 d x1 x2 x3 (x4 + (1 : Int32)) μ2))) := by exact (hs_ev_go hp_H_offs [10] 43 10 _ [] μ).trans rfl
noncomputable def he_H_cheats_11 (d : Nat) (x1 : Int32) (x2 : Int32) (x3 : Int32) (x4 : Int32) (μ : hs_M) : Option (Option hs_V × hs_M) := hs_ev d 141 11 [some (vR 11 0), some (vI x1), some (vI x2), some (vI x3), some (vI x4), none] [] μ
theorem hp_H_cheats : hs_prog 141 = (hs_k141, 6, 1) := rfl
set_option maxRecDepth 100000 in
theorem hq_H_cheats (d : Nat)  (μ : hs_M)  : hc_H_cheats (d + 1)  μ =
  he_H_cheats_11 d (9 : Int32) (0 : Int32) (0 : Int32) (-9 : Int32) μ := by exact (hs_ev_go hp_H_cheats [11] 49 0 _ [] μ).trans rfl
set_option maxRecDepth 100000 in
theorem hq_H_cheats_11 (d : Nat) (x1 : Int32) (x2 : Int32) (x3 : Int32) (x4 : Int32) (μ : hs_M)  : he_H_cheats_11 d x1 x2 x3 x4 μ =
  (if (9 : Int32) < x4 then hs_bV (hc_Row_begin d (x2.toInt64) μ) (fun μ1 => hs_bV (hc_Row_add d (x3.toInt64) μ1) (fun μ2 => some (some (vI x1), μ2))) else hs_bI (hc_Scale_misfits d 0 x4 μ) (fun r3 μ3 => hs_bI (hc_Int_bitCount d r3 μ3) (fun r4 μ4 => (if r4 < x1 then hs_bI (hc_Int_bitCount d r3 μ4) (fun r5 μ5 => he_H_cheats_11 d r5 r3 x4 (x4 + (1 : Int32)) μ5) else he_H_cheats_11 d x1 x2 x3 (x4 + (1 : Int32)) μ4)))) := by exact (hs_ev_go hp_H_cheats [11] 49 11 _ [] μ).trans rfl
theorem hp_H_told : hs_prog 142 = (hs_k142, 3, 1) := rfl
set_option maxRecDepth 100000 in
theorem hq_H_told (d : Nat) (x1 : Int32) (x2 : Int32) (μ : hs_M)  : hc_H_told (d + 1) x1 x2 μ =
  hs_bI (hc_Town_has d x1 μ) (fun r1 μ1 => (if r1 = 0 then some (some (vI (-1 : Int32)), μ1) else (if x2 < (1 : Int32) then some (some (vI (-1 : Int32)), μ1) else (if (60 : Int32) < x2 then some (some (vI (-1 : Int32)), μ1) else hs_bI (hc_Pairs_append d 1 x1 x2 μ1) (fun r2 μ2 => some (some (vI r2), μ2)))))) := by exact (hs_ev_go hp_H_told [] 22 0 _ [] μ).trans rfl
theorem hp_H_wipe : hs_prog 143 = (hs_k143, 2, 1) := rfl
set_option maxRecDepth 100000 in
theorem hq_H_wipe (d : Nat)  (μ : hs_M)  : hc_H_wipe (d + 1)  μ =
  some (some (vI (μ.1 2 1 2)), (hs_wI μ 2 1 2 (0 : Int32))) := by exact (hs_ev_go hp_H_wipe [] 13 0 _ [] μ).trans rfl
theorem hp_H_explains : hs_prog 144 = (hs_k144, 2, 1) := rfl
set_option maxRecDepth 100000 in
theorem hq_H_explains (d : Nat) (x1 : Int32) (μ : hs_M)  : hc_H_explains (d + 1) x1 μ =
  hs_bI (hc_H_isThere d x1 μ) (fun r1 μ1 => (if r1 = 0 then some (some (vI (-1 : Int32)), μ1) else hs_bI (hc_Trials_explainingWeights d 1 x1 μ1) (fun r2 μ2 => some (some (vI r2), μ2)))) := by exact (hs_ev_go hp_H_explains [] 16 0 _ [] μ).trans rfl
theorem hp_H_absent : hs_prog 145 = (hs_k145, 1, 1) := rfl
set_option maxRecDepth 100000 in
theorem hq_H_absent (d : Nat)  (μ : hs_M)  : hc_H_absent (d + 1)  μ =
  hs_bI (hc_Trials_explainingAbsences d 1 μ) (fun r1 μ1 => some (some (vI r1), μ1)) := by exact (hs_ev_go hp_H_absent [] 9 0 _ [] μ).trans rfl
theorem hp_H_twin : hs_prog 146 = (hs_k146, 3, 1) := rfl
set_option maxRecDepth 100000 in
theorem hq_H_twin (d : Nat) (x1 : Int32) (μ : hs_M)  : hc_H_twin (d + 1) x1 μ =
  hs_bI (hc_H_isThere d x1 μ) (fun r1 μ1 => (if r1 = 0 then some (some (vI (-1 : Int32)), μ1) else (if (μ1.1 8 0 9) < (8 : Int32) then hs_bV (hc_Town_copyPerson d x1 (μ1.1 8 0 9) μ1) (fun μ2 => (if hs_in x1 8 then hs_bV (hc_State_welcome d 0 (μ1.1 8 0 9) (μ2.1 24 0 (x1.toNatClampNeg)) μ2) (fun μ3 => hs_bV (hc_Past_forgetSteps d (hs_wI μ3 8 0 9 ((μ3.1 8 0 9) + (1 : Int32)))) (fun μ4 => some (some (vI (μ1.1 8 0 9)), μ4))) else none)) else some (some (vI (-1 : Int32)), μ1)))) := by exact (hs_ev_go hp_H_twin [] 44 0 _ [] μ).trans rfl
theorem hp_H_odds : hs_prog 147 = (hs_k147, 3, 1) := rfl
set_option maxRecDepth 100000 in
theorem hq_H_odds (d : Nat) (x1 : Int32) (x2 : Int32) (μ : hs_M)  : hc_H_odds (d + 1) x1 x2 μ =
  hs_bI (hc_Town_has d x1 μ) (fun r1 μ1 => (if r1 = 0 then some (some (vI (-1 : Int32)), μ1) else (if x2 < 0 then some (some (vI (-1 : Int32)), μ1) else (if (2 : Int32) < x2 then some (some (vI (-1 : Int32)), μ1) else hs_bV (hc_Future_tellChance d x1 x2 μ1) (fun μ2 => some (some (vI (0 : Int32)), μ2)))))) := by exact (hs_ev_go hp_H_odds [] 22 0 _ [] μ).trans rfl
theorem hp_H_likely : hs_prog 148 = (hs_k148, 1, 1) := rfl
set_option maxRecDepth 100000 in
theorem hq_H_likely (d : Nat)  (μ : hs_M)  : hc_H_likely (d + 1)  μ =
  hs_bI (hc_Future_likeliest d μ) (fun r1 μ1 => some (some (vI r1), μ1)) := by exact (hs_ev_go hp_H_likely [] 7 0 _ [] μ).trans rfl
theorem hp_H_keep : hs_prog 149 = (hs_k149, 2, 3) := rfl
set_option maxRecDepth 100000 in
theorem hq_H_keep (d : Nat) (x1 : Int32) (μ : hs_M)  : hc_H_keep (d + 1) x1 μ =
  hs_bI (hc_Past_keepAside d x1 0 (μ.1 8 0 9) μ) (fun r1 μ1 => hs_rz r1 μ1) := by exact (hs_ev_go hp_H_keep [] 13 0 _ [] μ).trans rfl
theorem hp_H_again : hs_prog 150 = (hs_k150, 2, 3) := rfl
set_option maxRecDepth 100000 in
theorem hq_H_again (d : Nat) (x1 : Int32) (μ : hs_M)  : hc_H_again (d + 1) x1 μ =
  hs_bI (hc_Past_takeAgain d x1 0 (μ.1 8 0 9) μ) (fun r1 μ1 => hs_rz r1 μ1) := by exact (hs_ev_go hp_H_again [] 13 0 _ [] μ).trans rfl
theorem hp_H_count : hs_prog 151 = (hs_k151, 2, 1) := rfl
set_option maxRecDepth 100000 in
theorem hq_H_count (d : Nat) (x1 : Int32) (μ : hs_M)  : hc_H_count (d + 1) x1 μ =
  (if x1 = (0 : Int32) then some (some (vI (μ.1 8 0 9)), μ) else (if x1 = (1 : Int32) then some (some (vI (μ.1 6 0 0)), μ) else (if x1 = (2 : Int32) then some (some (vI (μ.1 6 0 1)), μ) else (if x1 = (3 : Int32) then some (some (vI (μ.1 6 0 2)), μ) else (if x1 = (4 : Int32) then some (some (vI (μ.1 6 0 6)), μ) else (if x1 = (5 : Int32) then some (some (vI (μ.1 6 0 4)), μ) else (if x1 = (6 : Int32) then some (some (vI (μ.1 6 0 3)), μ) else (if x1 = (7 : Int32) then some (some (vI (μ.1 3 0 4)), μ) else (if x1 = (8 : Int32) then some (some (vI (μ.1 2 0 2)), μ) else (if x1 = (9 : Int32) then some (some (vI (μ.1 2 1 2)), μ) else (if x1 = (10 : Int32) then some (some (vI (μ.1 4 0 1)), μ) else (if x1 = (11 : Int32) then some (some (vI (μ.1 7 0 1)), μ) else (if x1 = (12 : Int32) then some (some (vI (μ.1 5 0 0)), μ) else (if x1 = (13 : Int32) then some (some (vI (μ.1 5 0 1)), μ) else some (some (vI (-100 : Int32)), μ))))))))))))))) := by exact (hs_ev_go hp_H_count [] 63 0 _ [] μ).trans rfl
theorem hp_H_row : hs_prog 152 = (hs_k152, 2, 2) := rfl
set_option maxRecDepth 100000 in
theorem hq_H_row (d : Nat) (x1 : Int32) (μ : hs_M)  : hc_H_row (d + 1) x1 μ =
  (if x1 < 0 then some (none, μ) else (if x1 < (μ.1 4 0 1) then (if x1 < (16 : Int32) then (if hs_in x1 16 then some (some (vL (μ.2 14 0 (x1.toNatClampNeg))), μ) else none) else some (none, μ)) else some (none, μ))) := by exact (hs_ev_go hp_H_row [] 26 0 _ [] μ).trans rfl
theorem hp_H_isThere : hs_prog 153 = (hs_k153, 2, 3) := rfl
set_option maxRecDepth 100000 in
theorem hq_H_isThere (d : Nat) (x1 : Int32) (μ : hs_M)  : hc_H_isThere (d + 1) x1 μ =
  hs_bI (hc_Town_has d x1 μ) (fun r1 μ1 => (if r1 = 0 then hs_rz (0 : Int32) μ1 else hs_bI (hc_State_lives d 0 x1 μ1) (fun r2 μ2 => (if r2 = 0 then hs_rz (0 : Int32) μ2 else hs_rz (1 : Int32) μ2)))) := by exact (hs_ev_go hp_H_isThere [] 17 0 _ [] μ).trans rfl
theorem hp_H_exchange : hs_prog 154 = (hs_k154, 4, 1) := rfl
set_option maxRecDepth 100000 in
theorem hq_H_exchange (d : Nat) (κ0 : Nat) (x1 : Int32) (x2 : Int32) (μ : hs_M) (hκ0 : κ0 = 24 ∨ κ0 = 15 ∨ κ0 = 16) : hc_H_exchange (d + 1) κ0 x1 x2 μ =
  (if x1 < 0 then some (some (vI (-1 : Int32)), μ) else (if x1 < (8 : Int32) then (if hs_in x1 8 then (if hs_in x1 8 then some (some (vI (μ.1 κ0 0 (x1.toNatClampNeg))), (hs_wI μ κ0 0 (x1.toNatClampNeg) x2)) else none) else none) else some (some (vI (-1 : Int32)), μ))) := by rcases hκ0 with rfl | rfl | rfl <;> exact (hs_ev_go hp_H_exchange [] 21 0 _ [] μ).trans rfl
theorem hp_H_inBounds : hs_prog 155 = (hs_k155, 1, 1) := rfl
set_option maxRecDepth 100000 in
theorem hq_H_inBounds (d : Nat) (x0 : Int32) (μ : hs_M)  : hc_H_inBounds (d + 1) x0 μ =
  (if x0 < (1 : Int32) then some (some (vI (1 : Int32)), μ) else (if (999 : Int32) < x0 then some (some (vI (999 : Int32)), μ) else some (some (vI x0), μ))) := by exact (hs_ev_go hp_H_inBounds [] 15 0 _ [] μ).trans rfl
theorem hp_H_asKind : hs_prog 156 = (hs_k156, 2, 1) := rfl
set_option maxRecDepth 100000 in
theorem hq_H_asKind (d : Nat) (x0 : Int32) (x1 : Int32) (μ : hs_M)  : hc_H_asKind (d + 1) x0 x1 μ =
  (if x0 = 0 then some (some (vI (x1.toInt8.toInt32)), μ) else (if x0 = (1 : Int32) then some (some (vI (x1.toInt16.toInt32)), μ) else some (some (vI x1), μ))) := by exact (hs_ev_go hp_H_asKind [] 16 0 _ [] μ).trans rfl
theorem hp_H_eat : hs_prog 157 = (hs_k157, 4, 1) := rfl
set_option maxRecDepth 100000 in
theorem hq_H_eat (d : Nat) (x1 : Int32) (x2 : Int32) (x3 : Int32) (μ : hs_M)  : hc_H_eat (d + 1) x1 x2 x3 μ =
  hs_bI (hc_H_isThere d x1 μ) (fun r1 μ1 => (if r1 = 0 then some (some (vI (-1 : Int32)), μ1) else (if x2 < (1 : Int32) then some (some (vI (-1 : Int32)), μ1) else (if (99 : Int32) < x2 then some (some (vI (-1 : Int32)), μ1) else hs_bV (hc_Past_remember d 0 μ1) (fun μ2 => (if hs_in x1 8 then hs_bV (hc_State_putWeight d 0 x1 ((μ2.1 24 0 (x1.toNatClampNeg)) + (x3 * x2)) μ2) (fun μ3 => (if hs_in x1 8 then some (some (vI (μ3.1 24 0 (x1.toNatClampNeg))), μ3) else none)) else none)))))) := by exact (hs_ev_go hp_H_eat [] 39 0 _ [] μ).trans rfl
theorem hp_H_passWeek : hs_prog 158 = (hs_k158, 5, 1) := rfl
set_option maxRecDepth 100000 in
theorem hq_H_passWeek (d : Nat) (x1 : Int32) (x2 : Int32) (μ : hs_M)  : hc_H_passWeek (d + 1) x1 x2 μ =
  hs_bV (hc_Office_pass d 0 x1 x2 μ) (fun μ1 => (if (μ1.1 6 0 1) = (μ.1 6 0 1) then some (some (vI (-1 : Int32)), μ1) else some (some (vI (μ.1 6 0 5)), μ1))) := by exact (hs_ev_go hp_H_passWeek [] 27 0 _ [] μ).trans rfl
noncomputable def he_H_yearFault_4 (d : Nat) (x1 : Int32) (x2 : Int32) (μ : hs_M) : Option (Option hs_V × hs_M) := hs_ev d 159 4 [some (vR 11 0), some (vI x1), some (vI x2), none] [] μ
theorem hp_H_yearFault : hs_prog 159 = (hs_k159, 4, 1) := rfl
set_option maxRecDepth 100000 in
theorem hq_H_yearFault (d : Nat)  (μ : hs_M)  : hc_H_yearFault (d + 1)  μ =
  he_H_yearFault_4 d (0 : Int32) (0 : Int32) μ := by exact (hs_ev_go hp_H_yearFault [4] 52 0 _ [] μ).trans rfl
set_option maxRecDepth 100000 in
theorem hq_H_yearFault_4 (d : Nat) (x1 : Int32) (x2 : Int32) (μ : hs_M)  : he_H_yearFault_4 d x1 x2 μ =
  (if x2 < (μ.1 7 0 2) then hs_bI (hc_Text_signAt d x2 μ) (fun r1 μ1 => (if r1 = (59 : Int32) then he_H_yearFault_4 d (0 : Int32) (x2 + (1 : Int32)) μ1 else (if r1 < (97 : Int32) then some (some (vI x2), μ1) else (if (104 : Int32) < r1 then some (some (vI x2), μ1) else (if x1 < r1 then he_H_yearFault_4 d r1 (x2 + (1 : Int32)) μ1 else some (some (vI x2), μ1)))))) else (if (μ.1 7 0 2) < (μ.1 7 0 1) then some (some (vI (μ.1 7 0 2)), μ) else some (some (vI (-1 : Int32)), μ))) := by exact (hs_ev_go hp_H_yearFault [4] 52 4 _ [] μ).trans rfl
end
section
/-! ===== the equations of the methods, 5 ===== -/
noncomputable def he_H_passYear_34 (d : Nat) (x1 : Int32) (x2 : Int32) (x3 : Int32) (x4 : Int32) (x5 : Int32) (μ : hs_M) : Option (Option hs_V × hs_M) := hs_ev d 160 34 [some (vR 11 0), some (vI x1), some (vI x2), some (vI x3), some (vI x4), some (vI x5), none] [] μ
noncomputable def he_H_passYear_129 (d : Nat) (x1 : Int32) (x2 : Int32) (x3 : Int32) (x4 : Int32) (x5 : Int32) (μ : hs_M) : Option (Option hs_V × hs_M) := hs_ev d 160 129 [some (vR 11 0), some (vI x1), some (vI x2), some (vI x3), some (vI x4), some (vI x5), none] [] μ
theorem hp_H_passYear : hs_prog 160 = (hs_k160, 7, 1) := rfl
set_option maxRecDepth 100000 in
theorem hq_H_passYear (d : Nat)  (μ : hs_M)  : hc_H_passYear (d + 1)  μ =
  (if (μ.1 7 0 2) = 0 then he_H_passYear_34 d (0 : Int32) (0 : Int32) (0 : Int32) (0 : Int32) (0 : Int32) μ else he_H_passYear_34 d (0 : Int32) (0 : Int32) (0 : Int32) ((μ.1 7 0 2) + (1 : Int32)) (0 : Int32) μ) := by exact (hs_ev_go hp_H_passYear [34, 129] 90 0 _ [] μ).trans rfl
set_option maxRecDepth 100000 in
theorem hq_H_passYear_34 (d : Nat) (x1 : Int32) (x2 : Int32) (x3 : Int32) (x4 : Int32) (x5 : Int32) (μ : hs_M)  : he_H_passYear_34 d x1 x2 x3 x4 x5 μ =
  (if x5 < x4 then (if x3 = 0 then hs_bI (hc_Text_signAt d x5 μ) (fun r1 μ1 => (if r1 < (97 : Int32) then hs_bI (hc_Town_everyone d μ1) (fun r2 μ2 => (if (x2 &&& (r2 ^^^ (-1 : Int32))) = 0 then (if x1 = 0 then hs_bV (hc_Past_remember d 0 μ2) (fun μ3 => hs_bI (hc_H_passWeek d x2 (0 : Int32) μ3) (fun r4 μ4 => he_H_passYear_129 d (x1 + (1 : Int32)) (0 : Int32) x3 x4 x5 μ4)) else hs_bI (hc_H_passWeek d x2 (0 : Int32) μ2) (fun r5 μ5 => he_H_passYear_129 d (x1 + (1 : Int32)) (0 : Int32) x3 x4 x5 μ5)) else he_H_passYear_129 d x1 x2 (1 : Int32) x4 x5 μ2)) else (if (104 : Int32) < r1 then hs_bI (hc_Town_everyone d μ1) (fun r6 μ6 => (if (x2 &&& (r6 ^^^ (-1 : Int32))) = 0 then (if x1 = 0 then hs_bV (hc_Past_remember d 0 μ6) (fun μ7 => hs_bI (hc_H_passWeek d x2 (0 : Int32) μ7) (fun r8 μ8 => he_H_passYear_129 d (x1 + (1 : Int32)) (0 : Int32) x3 x4 x5 μ8)) else hs_bI (hc_H_passWeek d x2 (0 : Int32) μ6) (fun r9 μ9 => he_H_passYear_129 d (x1 + (1 : Int32)) (0 : Int32) x3 x4 x5 μ9)) else he_H_passYear_129 d x1 x2 (1 : Int32) x4 x5 μ6)) else he_H_passYear_129 d x1 (x2 ||| ((1 : Int32) <<< ((r1 - (97 : Int32)) &&& 31))) x3 x4 x5 μ1))) else hs_bV (hc_Row_begin d ((μ.1 6 0 1).toInt64) μ) (fun μ10 => hs_bV (hc_Row_add d (x3.toInt64) μ10) (fun μ11 => some (some (vI x1), μ11)))) else hs_bV (hc_Row_begin d ((μ.1 6 0 1).toInt64) μ) (fun μ12 => hs_bV (hc_Row_add d (x3.toInt64) μ12) (fun μ13 => some (some (vI x1), μ13)))) := by exact (hs_ev_go hp_H_passYear [34, 129] 90 34 _ [] μ).trans rfl
set_option maxRecDepth 100000 in
theorem hq_H_passYear_129 (d : Nat) (x1 : Int32) (x2 : Int32) (x3 : Int32) (x4 : Int32) (x5 : Int32) (μ : hs_M)  : he_H_passYear_129 d x1 x2 x3 x4 x5 μ =
  he_H_passYear_34 d x1 x2 x3 x4 (x5 + (1 : Int32)) μ := by exact (hs_ev_go hp_H_passYear [34, 129] 90 129 _ [] μ).trans rfl
theorem hp_M_thrown : hs_prog 161 = (hs_k161, 1, 1) := rfl
set_option maxRecDepth 100000 in
theorem hq_M_thrown (d : Nat)  (μ : hs_M)  : hc_M_thrown (d + 1)  μ =
  some (some (vI (μ.1 12 0 0)), μ) := by exact (hs_ev_go hp_M_thrown [] 6 0 _ [] μ).trans rfl
theorem hp_M_refuse : hs_prog 162 = (hs_k162, 1, 1) := rfl
set_option maxRecDepth 100000 in
theorem hq_M_refuse (d : Nat)  (μ : hs_M)  : hc_M_refuse (d + 1)  μ =
  some (some (vI (0 : Int32)), (hs_wI μ 12 0 0 (1 : Int32))) := by exact (hs_ev_go hp_M_refuse [] 8 0 _ [] μ).trans rfl
theorem hp_M_in : hs_prog 163 = (hs_k163, 6, 3) := rfl
set_option maxRecDepth 100000 in
theorem hq_M_in (d : Nat) (x0 : Int64) (x2 : Int64) (x4 : Int64) (μ : hs_M)  : hc_M_in (d + 1) x0 x2 x4 μ =
  (if (lg_cmp x0 x2) < 0 then hs_rz (0 : Int32) μ else (if 0 < (lg_cmp x0 x4) then hs_rz (0 : Int32) μ else hs_rz (1 : Int32) μ)) := by exact (hs_ev_go hp_M_in [] 15 0 _ [] μ).trans rfl
theorem hp_M_has : hs_prog 164 = (hs_k164, 2, 3) := rfl
set_option maxRecDepth 100000 in
theorem hq_M_has (d : Nat) (x0 : Int32) (x1 : Int32) (μ : hs_M)  : hc_M_has (d + 1) x0 x1 μ =
  (if ((x0 >>> (x1 &&& 31)) &&& (1 : Int32)) = (1 : Int32) then hs_rz (1 : Int32) μ else hs_rz (0 : Int32) μ) := by exact (hs_ev_go hp_M_has [] 14 0 _ [] μ).trans rfl
theorem hp_M_flag : hs_prog 165 = (hs_k165, 1, 1) := rfl
set_option maxRecDepth 100000 in
theorem hq_M_flag (d : Nat) (x0 : Int32) (μ : hs_M)  : hc_M_flag (d + 1) x0 μ =
  (if x0 = 0 then some (some (vI (0 : Int32)), μ) else some (some (vI (1 : Int32)), μ)) := by exact (hs_ev_go hp_M_flag [] 9 0 _ [] μ).trans rfl
theorem hp_M_common : hs_prog 166 = (hs_k166, 4, 2) := rfl
set_option maxRecDepth 100000 in
theorem hq_M_common (d : Nat) (x0 : Int64) (x2 : Int64) (μ : hs_M)  : hc_M_common (d + 1) x0 x2 μ =
  (if (lg_cmp x2 (0 : Int64)) = 0 then some (some (vL x0), μ) else (if x2 = 0 then none else hs_bL (hc_M_common d x2 (x0 - x0 / x2 * x2) μ) (fun r1 μ1 => some (some (vL r1), μ1)))) := by exact (hs_ev_go hp_M_common [] 15 0 _ [] μ).trans rfl
theorem hp_M_enters : hs_prog 167 = (hs_k167, 3, 0) := rfl
set_option maxRecDepth 100000 in
theorem hq_M_enters (d : Nat) (x1 : Int64) (μ : hs_M)  : hc_M_enters (d + 1) x1 μ =
  (if hs_in (μ.1 12 0 1) 24 then some (none, (hs_wI (hs_wL μ 40 0 ((μ.1 12 0 1).toNatClampNeg) x1) 12 0 1 ((μ.1 12 0 1) + (1 : Int32)))) else none) := by exact (hs_ev_go hp_M_enters [] 16 0 _ [] μ).trans rfl
theorem hp_M_entersFraction : hs_prog 168 = (hs_k168, 7, 0) := rfl
set_option maxRecDepth 100000 in
theorem hq_M_entersFraction (d : Nat) (x1 : Int64) (x3 : Int64) (μ : hs_M)  : hc_M_entersFraction (d + 1) x1 x3 μ =
  hs_bL (hc_M_common d x1 x3 μ) (fun r1 μ1 => (if r1 = 0 then none else hs_bV (hc_M_enters d (x1 / r1) μ1) (fun μ2 => (if r1 = 0 then none else hs_bV (hc_M_enters d (x3 / r1) μ2) (fun μ3 => some (none, μ3)))))) := by exact (hs_ev_go hp_M_entersFraction [] 18 0 _ [] μ).trans rfl
theorem hp_M_isPerson : hs_prog 169 = (hs_k169, 2, 3) := rfl
set_option maxRecDepth 100000 in
theorem hq_M_isPerson (d : Nat) (x1 : Int32) (μ : hs_M)  : hc_M_isPerson (d + 1) x1 μ =
  hs_bI (hc_M_in d (x1.toInt64) (0 : Int64) (((μ.1 12 0 3) - (1 : Int32)).toInt64) μ) (fun r1 μ1 => hs_rz r1 μ1) := by exact (hs_ev_go hp_M_isPerson [] 13 0 _ [] μ).trans rfl
theorem hp_M_isAlive : hs_prog 170 = (hs_k170, 2, 3) := rfl
set_option maxRecDepth 100000 in
theorem hq_M_isAlive (d : Nat) (x1 : Int32) (μ : hs_M)  : hc_M_isAlive (d + 1) x1 μ =
  hs_bI (hc_M_isPerson d x1 μ) (fun r1 μ1 => (if r1 = 0 then hs_rz (0 : Int32) μ1 else hs_bI (hc_M_has d (μ1.1 45 0 16) x1 μ1) (fun r2 μ2 => (if r2 = 0 then hs_rz (0 : Int32) μ2 else hs_rz (1 : Int32) μ2)))) := by exact (hs_ev_go hp_M_isAlive [] 18 0 _ [] μ).trans rfl
noncomputable def he_M_sign_18 (d : Nat) (x1 : Int32) (x2 : Int32) (μ : hs_M) : Option (Option hs_V × hs_M) := hs_ev d 171 18 [some (vR 12 0), some (vI x1), some (vI x2)] [] μ
theorem hp_M_sign : hs_prog 171 = (hs_k171, 3, 1) := rfl
set_option maxRecDepth 100000 in
theorem hq_M_sign (d : Nat) (x1 : Int32) (μ : hs_M)  : hc_M_sign (d + 1) x1 μ =
  (if (76 : Int32) < (μ.1 12 0 13) then some (some (vI (-1 : Int32)), (hs_wI μ 12 0 0 (0 : Int32))) else he_M_sign_18 d x1 (0 : Int32) (hs_wI μ 12 0 0 (0 : Int32))) := by exact (hs_ev_go hp_M_sign [18] 44 0 _ [] μ).trans rfl
set_option maxRecDepth 100000 in
theorem hq_M_sign_18 (d : Nat) (x1 : Int32) (x2 : Int32) (μ : hs_M)  : he_M_sign_18 d x1 x2 μ =
  (if x2 < (4 : Int32) then (if hs_in ((μ.1 12 0 13) + x2) 80 then he_M_sign_18 d x1 (x2 + (1 : Int32)) (hs_wI μ 47 0 (((μ.1 12 0 13) + x2).toNatClampNeg) ((x1 >>> (((24 : Int32) - ((8 : Int32) * x2)) &&& 31)) &&& (255 : Int32))) else none) else some (some (vI ((μ.1 12 0 13) + (4 : Int32))), (hs_wI μ 12 0 13 ((μ.1 12 0 13) + (4 : Int32))))) := by exact (hs_ev_go hp_M_sign [18] 44 18 _ [] μ).trans rfl
theorem hp_M_end : hs_prog 172 = (hs_k172, 2, 3) := rfl
set_option maxRecDepth 100000 in
theorem hq_M_end (d : Nat) (x1 : Int32) (μ : hs_M)  : hc_M_end (d + 1) x1 μ =
  hs_bI (hc_M_in d (x1.toInt64) (0 : Int64) ((μ.1 12 0 13).toInt64) (hs_wI μ 12 0 0 (0 : Int32))) (fun r1 μ1 => (if r1 = 0 then hs_rz (0 : Int32) μ1 else hs_rz (1 : Int32) (hs_wI μ1 12 0 13 x1))) := by exact (hs_ev_go hp_M_end [] 21 0 _ [] μ).trans rfl
theorem hp_M_begins : hs_prog 173 = (hs_k173, 3, 1) := rfl
set_option maxRecDepth 100000 in
theorem hq_M_begins (d : Nat) (x1 : Int32) (μ : hs_M)  : hc_M_begins (d + 1) x1 μ =
  hs_bI (hc_Math_min d (μ.1 12 0 13) x1 (hs_wI (hs_wI (hs_wI μ 12 0 13 (0 : Int32)) 12 0 14 (0 : Int32)) 12 0 16 (0 : Int32))) (fun r1 μ1 => some (some (vI (μ.1 12 0 13)), (hs_wI μ1 12 0 15 r1))) := by exact (hs_ev_go hp_M_begins [] 22 0 _ [] μ).trans rfl
theorem hp_M_takes : hs_prog 174 = (hs_k174, 3, 3) := rfl
set_option maxRecDepth 100000 in
theorem hq_M_takes (d : Nat) (x1 : Int32) (μ : hs_M)  : hc_M_takes (d + 1) x1 μ =
  (if (μ.1 12 0 14) < (μ.1 12 0 15) then (if hs_in (μ.1 12 0 14) 80 then (if (μ.1 47 0 ((μ.1 12 0 14).toNatClampNeg)) = x1 then hs_bI (hc_M_flag d (1 : Int32) μ) (fun r1 μ1 => hs_rz (1 : Int32) (hs_wI μ1 12 0 14 ((μ.1 12 0 14) + r1))) else hs_bI (hc_M_flag d (0 : Int32) μ) (fun r2 μ2 => hs_rz (0 : Int32) (hs_wI μ2 12 0 14 ((μ.1 12 0 14) + r2)))) else none) else hs_bI (hc_M_flag d (0 : Int32) μ) (fun r3 μ3 => hs_rz (0 : Int32) (hs_wI μ3 12 0 14 ((μ.1 12 0 14) + r3)))) := by exact (hs_ev_go hp_M_takes [] 28 0 _ [] μ).trans rfl
theorem hp_M_isDigit : hs_prog 175 = (hs_k175, 1, 3) := rfl
set_option maxRecDepth 100000 in
theorem hq_M_isDigit (d : Nat)  (μ : hs_M)  : hc_M_isDigit (d + 1)  μ =
  (if (μ.1 12 0 14) < (μ.1 12 0 15) then (if hs_in (μ.1 12 0 14) 80 then hs_bI (hc_M_in d ((μ.1 47 0 ((μ.1 12 0 14).toNatClampNeg)).toInt64) (48 : Int64) (57 : Int64) μ) (fun r1 μ1 => (if r1 = 0 then hs_rz (0 : Int32) μ1 else hs_rz (1 : Int32) μ1)) else none) else hs_rz (0 : Int32) μ) := by exact (hs_ev_go hp_M_isDigit [] 22 0 _ [] μ).trans rfl
noncomputable def he_M_number_4 (d : Nat) (x1 : Int32) (x2 : Int32) (x3 : Int32) (μ : hs_M) : Option (Option hs_V × hs_M) := hs_ev d 176 4 [some (vR 12 0), some (vI x1), some (vI x2), some (vI x3)] [] μ
theorem hp_M_number : hs_prog 176 = (hs_k176, 4, 1) := rfl
set_option maxRecDepth 100000 in
theorem hq_M_number (d : Nat) (x1 : Int32) (μ : hs_M)  : hc_M_number (d + 1) x1 μ =
  he_M_number_4 d x1 (0 : Int32) (0 : Int32) μ := by exact (hs_ev_go hp_M_number [4] 35 0 _ [] μ).trans rfl
set_option maxRecDepth 100000 in
theorem hq_M_number_4 (d : Nat) (x1 : Int32) (x2 : Int32) (x3 : Int32) (μ : hs_M)  : he_M_number_4 d x1 x2 x3 μ =
  (if x3 < x1 then hs_bI (hc_M_isDigit d μ) (fun r1 μ1 => (if r1 = 0 then some (some (vI x2), μ1) else (if hs_in (μ1.1 12 0 14) 80 then he_M_number_4 d x1 ((((10 : Int32) * x2) + (μ1.1 47 0 ((μ1.1 12 0 14).toNatClampNeg))) - (48 : Int32)) (x3 + (1 : Int32)) (hs_wI μ1 12 0 14 ((μ1.1 12 0 14) + (1 : Int32))) else none))) else some (some (vI x2), μ)) := by exact (hs_ev_go hp_M_number [4] 35 4 _ [] μ).trans rfl
noncomputable def he_M_among_2 (d : Nat) (j1 : Nat) (x2 : Int32) (μ : hs_M) : Option (Option hs_V × hs_M) := hs_ev d 177 2 [some (vR 12 0), some (vR 90 j1), some (vI x2)] [] μ
theorem hp_M_among : hs_prog 177 = (hs_k177, 3, 1) := rfl
set_option maxRecDepth 100000 in
theorem hq_M_among_0_0 (d : Nat)  (μ : hs_M)  : hc_M_among (d + 1) 0 μ =
  he_M_among_2 d 0 (0 : Int32) μ := by exact (hs_ev_go hp_M_among [2] 29 0 _ [] μ).trans rfl
set_option maxRecDepth 100000 in
theorem hq_M_among_2_0 (d : Nat) (x2 : Int32) (μ : hs_M)  : he_M_among_2 d 0 x2 μ =
  (if x2 < (2 : Int32) then (if (μ.1 12 0 14) < (μ.1 12 0 15) then (if hs_in x2 2 then (if hs_in (μ.1 12 0 14) 80 then (if (Int32.ofNat ([43, 45].getD x2.toNatClampNeg 0)) = (μ.1 47 0 ((μ.1 12 0 14).toNatClampNeg)) then some (some (vI x2), μ) else he_M_among_2 d 0 (x2 + (1 : Int32)) μ) else none) else none) else some (some (vI (-1 : Int32)), μ)) else some (some (vI (-1 : Int32)), μ)) := by exact (hs_ev_go hp_M_among [2] 29 2 _ [] μ).trans rfl
set_option maxRecDepth 100000 in
theorem hq_M_among_0_1 (d : Nat)  (μ : hs_M)  : hc_M_among (d + 1) 1 μ =
  he_M_among_2 d 1 (0 : Int32) μ := by exact (hs_ev_go hp_M_among [2] 29 0 _ [] μ).trans rfl
set_option maxRecDepth 100000 in
theorem hq_M_among_2_1 (d : Nat) (x2 : Int32) (μ : hs_M)  : he_M_among_2 d 1 x2 μ =
  (if x2 < (4 : Int32) then (if (μ.1 12 0 14) < (μ.1 12 0 15) then (if hs_in x2 4 then (if hs_in (μ.1 12 0 14) 80 then (if (Int32.ofNat ([48, 49, 50, 51].getD x2.toNatClampNeg 0)) = (μ.1 47 0 ((μ.1 12 0 14).toNatClampNeg)) then some (some (vI x2), μ) else he_M_among_2 d 1 (x2 + (1 : Int32)) μ) else none) else none) else some (some (vI (-1 : Int32)), μ)) else some (some (vI (-1 : Int32)), μ)) := by exact (hs_ev_go hp_M_among [2] 29 2 _ [] μ).trans rfl
set_option maxRecDepth 100000 in
theorem hq_M_among_0_2 (d : Nat)  (μ : hs_M)  : hc_M_among (d + 1) 2 μ =
  he_M_among_2 d 2 (0 : Int32) μ := by exact (hs_ev_go hp_M_among [2] 29 0 _ [] μ).trans rfl
set_option maxRecDepth 100000 in
theorem hq_M_among_2_2 (d : Nat) (x2 : Int32) (μ : hs_M)  : he_M_among_2 d 2 x2 μ =
  (if x2 < (9 : Int32) then (if (μ.1 12 0 14) < (μ.1 12 0 15) then (if hs_in x2 9 then (if hs_in (μ.1 12 0 14) 80 then (if (Int32.ofNat ([105, 119, 112, 118, 113, 115, 116, 111, 110].getD x2.toNatClampNeg 0)) = (μ.1 47 0 ((μ.1 12 0 14).toNatClampNeg)) then some (some (vI x2), μ) else he_M_among_2 d 2 (x2 + (1 : Int32)) μ) else none) else none) else some (some (vI (-1 : Int32)), μ)) else some (some (vI (-1 : Int32)), μ)) := by exact (hs_ev_go hp_M_among [2] 29 2 _ [] μ).trans rfl
set_option maxRecDepth 100000 in
theorem hq_M_among_0_3 (d : Nat)  (μ : hs_M)  : hc_M_among (d + 1) 3 μ =
  he_M_among_2 d 3 (0 : Int32) μ := by exact (hs_ev_go hp_M_among [2] 29 0 _ [] μ).trans rfl
set_option maxRecDepth 100000 in
theorem hq_M_among_2_3 (d : Nat) (x2 : Int32) (μ : hs_M)  : he_M_among_2 d 3 x2 μ =
  (if x2 < (3 : Int32) then (if (μ.1 12 0 14) < (μ.1 12 0 15) then (if hs_in x2 3 then (if hs_in (μ.1 12 0 14) 80 then (if (Int32.ofNat ([60, 62, 61].getD x2.toNatClampNeg 0)) = (μ.1 47 0 ((μ.1 12 0 14).toNatClampNeg)) then some (some (vI x2), μ) else he_M_among_2 d 3 (x2 + (1 : Int32)) μ) else none) else none) else some (some (vI (-1 : Int32)), μ)) else some (some (vI (-1 : Int32)), μ)) := by exact (hs_ev_go hp_M_among [2] 29 2 _ [] μ).trans rfl
set_option maxRecDepth 100000 in
theorem hq_M_among_0_4 (d : Nat)  (μ : hs_M)  : hc_M_among (d + 1) 4 μ =
  he_M_among_2 d 4 (0 : Int32) μ := by exact (hs_ev_go hp_M_among [2] 29 0 _ [] μ).trans rfl
set_option maxRecDepth 100000 in
theorem hq_M_among_2_4 (d : Nat) (x2 : Int32) (μ : hs_M)  : he_M_among_2 d 4 x2 μ =
  (if x2 < (2 : Int32) then (if (μ.1 12 0 14) < (μ.1 12 0 15) then (if hs_in x2 2 then (if hs_in (μ.1 12 0 14) 80 then (if (Int32.ofNat ([42, 47].getD x2.toNatClampNeg 0)) = (μ.1 47 0 ((μ.1 12 0 14).toNatClampNeg)) then some (some (vI x2), μ) else he_M_among_2 d 4 (x2 + (1 : Int32)) μ) else none) else none) else some (some (vI (-1 : Int32)), μ)) else some (some (vI (-1 : Int32)), μ)) := by exact (hs_ev_go hp_M_among [2] 29 2 _ [] μ).trans rfl
noncomputable def he_M_faultOf_40 (d : Nat) (x2 : Int32) (μ : hs_M) : Option (Option hs_V × hs_M) := hs_ev d 178 40 [none, none, some (vI x2), none, none] [] μ
noncomputable def he_M_faultOf_44 (d : Nat) (x4 : Int32) (μ : hs_M) : Option (Option hs_V × hs_M) := hs_ev d 178 44 [some (vR 12 0), none, none, none, some (vI x4)] [] μ
theorem hp_M_faultOf : hs_prog 178 = (hs_k178, 5, 1) := rfl
set_option maxRecDepth 100000 in
theorem hq_M_faultOf (d : Nat) (x1 : Int32) (x2 : Int32) (x3 : Int32) (μ : hs_M)  : hc_M_faultOf (d + 1) x1 x2 x3 μ =
  (if x3 = 0 then (if x2 < x1 then (if (μ.1 12 0 14) < x2 then he_M_faultOf_44 d (0 : Int32) μ else he_M_faultOf_40 d x2 μ) else he_M_faultOf_44 d (0 : Int32) μ) else (if (μ.1 12 0 14) = (μ.1 12 0 15) then (if x2 < x1 then he_M_faultOf_40 d x2 μ else he_M_faultOf_44 d (1 : Int32) μ) else (if x2 < x1 then (if (μ.1 12 0 14) < x2 then he_M_faultOf_44 d (0 : Int32) μ else he_M_faultOf_40 d x2 μ) else he_M_faultOf_44 d (0 : Int32) μ))) := by exact (hs_ev_go hp_M_faultOf [40, 44] 36 0 _ [] μ).trans rfl
set_option maxRecDepth 100000 in
theorem hq_M_faultOf_40 (d : Nat) (x2 : Int32) (μ : hs_M)  : he_M_faultOf_40 d x2 μ =
  some (some (vI ((-1 : Int32) - x2)), μ) := by exact (hs_ev_go hp_M_faultOf [40, 44] 36 40 _ [] μ).trans rfl
set_option maxRecDepth 100000 in
theorem hq_M_faultOf_44 (d : Nat) (x4 : Int32) (μ : hs_M)  : he_M_faultOf_44 d x4 μ =
  (if x4 = 0 then some (some (vI ((-1 : Int32) - (μ.1 12 0 14))), μ) else some (some (vI (0 : Int32)), μ)) := by exact (hs_ev_go hp_M_faultOf [40, 44] 36 44 _ [] μ).trans rfl
noncomputable def he_M_readsHabit_2 (d : Nat) (x1 : Int32) (x2 : Int32) (μ : hs_M) : Option (Option hs_V × hs_M) := hs_ev d 179 2 [some (vR 12 0), some (vI x1), some (vI x2), none] [] μ
theorem hp_M_readsHabit : hs_prog 179 = (hs_k179, 4, 3) := rfl
set_option maxRecDepth 100000 in
theorem hq_M_readsHabit (d : Nat) (x1 : Int32) (μ : hs_M)  : hc_M_readsHabit (d + 1) x1 μ =
  he_M_readsHabit_2 d x1 (0 : Int32) μ := by exact (hs_ev_go hp_M_readsHabit [2] 58 0 _ [] μ).trans rfl
set_option maxRecDepth 100000 in
theorem hq_M_readsHabit_2 (d : Nat) (x1 : Int32) (x2 : Int32) (μ : hs_M)  : he_M_readsHabit_2 d x1 x2 μ =
  (if x2 < (6 : Int32) then hs_bI (hc_M_among d 0 μ) (fun r1 μ1 => (if r1 < 0 then (if hs_in x1 9 then hs_rz (1 : Int32) (hs_wI μ1 51 0 (x1.toNatClampNeg) x2) else none) else hs_bI (hc_M_takes d (43 : Int32) μ1) (fun r2 μ2 => (if r2 = 0 then hs_bI (hc_M_flag d (1 : Int32) μ2) (fun r3 μ3 => hs_bI (hc_M_isDigit d (hs_wI μ3 12 0 14 ((μ2.1 12 0 14) + r3))) (fun r4 μ4 => (if r4 = 0 then hs_rz (0 : Int32) μ4 else hs_bI (hc_M_number d (1 : Int32) μ4) (fun r5 μ5 => (if hs_in (((6 : Int32) * x1) + x2) 54 then he_M_readsHabit_2 d x1 (x2 + (1 : Int32)) (hs_wI μ5 50 0 ((((6 : Int32) * x1) + x2).toNatClampNeg) ((-1 : Int32) * r5)) else none))))) else hs_bI (hc_M_flag d (0 : Int32) μ2) (fun r6 μ6 => hs_bI (hc_M_isDigit d (hs_wI μ6 12 0 14 ((μ2.1 12 0 14) + r6))) (fun r7 μ7 => (if r7 = 0 then hs_rz (0 : Int32) μ7 else hs_bI (hc_M_number d (1 : Int32) μ7) (fun r8 μ8 => (if hs_in (((6 : Int32) * x1) + x2) 54 then he_M_readsHabit_2 d x1 (x2 + (1 : Int32)) (hs_wI μ8 50 0 ((((6 : Int32) * x1) + x2).toNatClampNeg) ((1 : Int32) * r8)) else none))))))))) else (if hs_in x1 9 then hs_rz (1 : Int32) (hs_wI μ 51 0 (x1.toNatClampNeg) x2) else none)) := by exact (hs_ev_go hp_M_readsHabit [2] 58 2 _ [] μ).trans rfl
theorem hp_M_readsPerson : hs_prog 180 = (hs_k180, 2, 3) := rfl
set_option maxRecDepth 100000 in
theorem hq_M_readsPerson (d : Nat)  (μ : hs_M)  : hc_M_readsPerson (d + 1)  μ =
  hs_bI (hc_M_isDigit d μ) (fun r1 μ1 => (if r1 = 0 then hs_rz (0 : Int32) μ1 else (if ((μ.1 12 0 3) + (μ.1 12 0 21)) = (8 : Int32) then hs_rz (0 : Int32) μ1 else hs_bI (hc_M_number d (3 : Int32) μ1) (fun r2 μ2 => (if hs_in ((μ.1 12 0 3) + (μ.1 12 0 21)) 8 then (if hs_in ((μ.1 12 0 3) + (μ.1 12 0 21)) 8 then (if ((hs_wI μ2 48 0 (((μ.1 12 0 3) + (μ.1 12 0 21)).toNatClampNeg) r2).1 48 0 (((μ.1 12 0 3) + (μ.1 12 0 21)).toNatClampNeg)) = 0 then hs_rz (0 : Int32) (hs_wI (hs_wI μ2 48 0 (((μ.1 12 0 3) + (μ.1 12 0 21)).toNatClampNeg) r2) 12 0 14 ((μ2.1 12 0 14) - (1 : Int32))) else (if hs_in ((μ.1 12 0 3) + (μ.1 12 0 21)) 8 then hs_bI (hc_M_takes d (42 : Int32) (hs_wI (hs_wI μ2 48 0 (((μ.1 12 0 3) + (μ.1 12 0 21)).toNatClampNeg) r2) 49 0 (((μ.1 12 0 3) + (μ.1 12 0 21)).toNatClampNeg) (0 : Int32))) (fun r3 μ3 => (if r3 = 0 then hs_bI (hc_M_readsHabit d ((μ.1 12 0 3) + (μ.1 12 0 21)) (hs_wI μ3 12 0 21 ((μ3.1 12 0 21) + (1 : Int32)))) (fun r4 μ4 => hs_rz r4 μ4) else hs_bI (hc_M_among d 1 μ3) (fun r5 μ5 => (if r5 < 0 then hs_rz (0 : Int32) μ5 else hs_bI (hc_M_number d (1 : Int32) μ5) (fun r6 μ6 => (if hs_in ((μ.1 12 0 3) + (μ.1 12 0 21)) 8 then hs_bI (hc_M_readsHabit d ((μ.1 12 0 3) + (μ.1 12 0 21)) (hs_wI (hs_wI μ6 49 0 (((μ.1 12 0 3) + (μ.1 12 0 21)).toNatClampNeg) r6) 12 0 21 ((μ6.1 12 0 21) + (1 : Int32)))) (fun r7 μ7 => hs_rz r7 μ7) else none)))))) else none)) else none) else none))))) := by exact (hs_ev_go hp_M_readsPerson [] 69 0 _ [] μ).trans rfl
noncomputable def he_M_town_29 (d : Nat) (x1 : Int32) (x2 : Int32) (x3 : Int32) (μ : hs_M) : Option (Option hs_V × hs_M) := hs_ev d 181 29 [some (vR 12 0), some (vI x1), some (vI x2), some (vI x3), none, none, none] [] μ
noncomputable def he_M_town_81 (d : Nat) (x1 : Int32) (x5 : Int32) (μ : hs_M) : Option (Option hs_V × hs_M) := hs_ev d 181 81 [some (vR 12 0), some (vI x1), none, none, none, some (vI x5), none] [] μ
theorem hp_M_town : hs_prog 181 = (hs_k181, 7, 1) := rfl
set_option maxRecDepth 100000 in
theorem hq_M_town (d : Nat)  (μ : hs_M)  : hc_M_town (d + 1)  μ =
  hs_bI (hc_M_begins d (76 : Int32) (hs_wI μ 12 0 0 (0 : Int32))) (fun r1 μ1 => (if 0 < r1 then he_M_town_29 d r1 (1 : Int32) (1 : Int32) (hs_wI μ1 12 0 21 (0 : Int32)) else he_M_town_29 d r1 (1 : Int32) (0 : Int32) (hs_wI μ1 12 0 21 (0 : Int32)))) := by exact (hs_ev_go hp_M_town [29, 81] 98 0 _ [] μ).trans rfl
set_option maxRecDepth 100000 in
theorem hq_M_town_29 (d : Nat) (x1 : Int32) (x2 : Int32) (x3 : Int32) (μ : hs_M)  : he_M_town_29 d x1 x2 x3 μ =
  (if x3 = 0 then hs_bI (hc_M_faultOf d x1 (76 : Int32) x2 μ) (fun r1 μ1 => (if r1 < 0 then some (some (vI r1), μ1) else he_M_town_81 d x1 (0 : Int32) μ1)) else hs_bI (hc_M_readsPerson d μ) (fun r2 μ2 => (if r2 = 0 then he_M_town_29 d x1 r2 (0 : Int32) μ2 else hs_bI (hc_M_takes d (59 : Int32) μ2) (fun r3 μ3 => (if r3 = 0 then he_M_town_29 d x1 r2 (0 : Int32) μ3 else he_M_town_29 d x1 r2 (1 : Int32) μ3))))) := by exact (hs_ev_go hp_M_town [29, 81] 98 29 _ [] μ).trans rfl
set_option maxRecDepth 100000 in
theorem hq_M_town_81 (d : Nat) (x1 : Int32) (x5 : Int32) (μ : hs_M)  : he_M_town_81 d x1 x5 μ =
  (if x5 < (μ.1 12 0 21) then (if hs_in ((μ.1 12 0 3) + x5) 8 then (if hs_in ((μ.1 12 0 3) + x5) 117 then (if hs_in ((μ.1 12 0 3) + x5) 8 then (if hs_in ((μ.1 12 0 3) + x5) 8 then hs_bV (hc_M_comes d ((μ.1 12 0 3) + x5) ((μ.1 12 0 3) + x5) (hs_wI (hs_wI μ 45 0 (((μ.1 12 0 3) + x5).toNatClampNeg) (μ.1 48 0 (((μ.1 12 0 3) + x5).toNatClampNeg))) 41 0 (((μ.1 12 0 3) + x5).toNatClampNeg) (μ.1 49 0 (((μ.1 12 0 3) + x5).toNatClampNeg)))) (fun μ1 => he_M_town_81 d x1 (x5 + (1 : Int32)) μ1) else none) else none) else none) else none) else (if 0 < x1 then some (some (vI (μ.1 12 0 21)), (hs_wI (hs_wI μ 12 0 3 ((μ.1 12 0 3) + (μ.1 12 0 21))) 12 0 28 (0 : Int32))) else some (some (vI (μ.1 12 0 21)), (hs_wI (hs_wI μ 12 0 3 ((μ.1 12 0 3) + (μ.1 12 0 21))) 12 0 28 (μ.1 12 0 28))))) := by exact (hs_ev_go hp_M_town [29, 81] 98 81 _ [] μ).trans rfl
theorem hp_M_comes : hs_prog 182 = (hs_k182, 3, 0) := rfl
set_option maxRecDepth 100000 in
theorem hq_M_comes (d : Nat) (x1 : Int32) (x2 : Int32) (μ : hs_M)  : hc_M_comes (d + 1) x1 x2 μ =
  (if hs_in ((8 : Int32) + x1) 117 then (if hs_in x1 8 then hs_bV (hc_M_putsHabit d x1 x2 (hs_wI (hs_wI (hs_wI μ 45 0 (((8 : Int32) + x1).toNatClampNeg) (0 : Int32)) 45 0 16 (((hs_wI μ 45 0 (((8 : Int32) + x1).toNatClampNeg) (0 : Int32)).1 45 0 16) ||| ((1 : Int32) <<< (x1 &&& 31)))) 42 0 (x1.toNatClampNeg) (0 : Int32))) (fun μ1 => some (none, μ1)) else none) else none) := by exact (hs_ev_go hp_M_comes [] 30 0 _ [] μ).trans rfl
noncomputable def he_M_putsHabit_14 (d : Nat) (x1 : Int32) (x2 : Int32) (x3 : Int32) (μ : hs_M) : Option (Option hs_V × hs_M) := hs_ev d 183 14 [some (vR 12 0), some (vI x1), some (vI x2), some (vI x3)] [] μ
theorem hp_M_putsHabit : hs_prog 183 = (hs_k183, 4, 0) := rfl
set_option maxRecDepth 100000 in
theorem hq_M_putsHabit (d : Nat) (x1 : Int32) (x2 : Int32) (μ : hs_M)  : hc_M_putsHabit (d + 1) x1 x2 μ =
  (if hs_in x2 9 then (if hs_in x1 8 then he_M_putsHabit_14 d x1 x2 (0 : Int32) (hs_wI μ 44 0 (x1.toNatClampNeg) (μ.1 51 0 (x2.toNatClampNeg))) else none) else none) := by exact (hs_ev_go hp_M_putsHabit [14] 35 0 _ [] μ).trans rfl
set_option maxRecDepth 100000 in
theorem hq_M_putsHabit_14 (d : Nat) (x1 : Int32) (x2 : Int32) (x3 : Int32) (μ : hs_M)  : he_M_putsHabit_14 d x1 x2 x3 μ =
  (if x3 < (6 : Int32) then (if hs_in (((6 : Int32) * x2) + x3) 54 then (if hs_in (((6 : Int32) * x1) + x3) 48 then he_M_putsHabit_14 d x1 x2 (x3 + (1 : Int32)) (hs_wI μ 43 0 ((((6 : Int32) * x1) + x3).toNatClampNeg) (μ.1 50 0 ((((6 : Int32) * x2) + x3).toNatClampNeg))) else none) else none) else some (none, μ)) := by exact (hs_ev_go hp_M_putsHabit [14] 35 14 _ [] μ).trans rfl
theorem hp_M_habit : hs_prog 184 = (hs_k184, 5, 1) := rfl
set_option maxRecDepth 100000 in
theorem hq_M_habit (d : Nat) (x1 : Int32) (μ : hs_M)  : hc_M_habit (d + 1) x1 μ =
  hs_bI (hc_M_begins d (12 : Int32) (hs_wI μ 12 0 0 (0 : Int32))) (fun r1 μ1 => hs_bI (hc_M_isPerson d x1 μ1) (fun r2 μ2 => (if r2 = 0 then some (some (vI (-100 : Int32)), μ2) else hs_bI (hc_M_readsHabit d (8 : Int32) μ2) (fun r3 μ3 => hs_bI (hc_M_faultOf d r1 (12 : Int32) r3 μ3) (fun r4 μ4 => (if r4 < 0 then some (some (vI r4), μ4) else hs_bV (hc_M_putsHabit d x1 (8 : Int32) μ4) (fun μ5 => (if hs_in x1 8 then some (some (vI (μ5.1 44 0 (x1.toNatClampNeg))), μ5) else none)))))))) := by exact (hs_ev_go hp_M_habit [] 39 0 _ [] μ).trans rfl
theorem hp_M_codes : hs_prog 185 = (hs_k185, 2, 0) := rfl
set_option maxRecDepth 100000 in
theorem hq_M_codes (d : Nat) (x1 : Int32) (μ : hs_M)  : hc_M_codes (d + 1) x1 μ =
  (if hs_in (μ.1 12 0 25) 80 then some (none, (hs_wI (hs_wI μ 53 0 ((μ.1 12 0 25).toNatClampNeg) x1) 12 0 25 ((μ.1 12 0 25) + (1 : Int32)))) else none) := by exact (hs_ev_go hp_M_codes [] 16 0 _ [] μ).trans rfl
theorem hp_M_readsThing : hs_prog 186 = (hs_k186, 2, 3) := rfl
set_option maxRecDepth 100000 in
theorem hq_M_readsThing (d : Nat)  (μ : hs_M)  : hc_M_readsThing (d + 1)  μ =
  hs_bI (hc_M_takes d (45 : Int32) μ) (fun r1 μ1 => (if r1 = 0 then hs_bI (hc_M_isDigit d μ1) (fun r2 μ2 => (if r2 = 0 then hs_bI (hc_M_among d 2 μ2) (fun r3 μ3 => (if r3 < 0 then (if (μ3.1 12 0 16) = (4 : Int32) then hs_rz (0 : Int32) μ3 else hs_bI (hc_M_takes d (40 : Int32) μ3) (fun r4 μ4 => (if r4 = 0 then hs_rz (0 : Int32) μ4 else hs_bI (hc_M_readsRank d (0 : Int32) (hs_wI μ4 12 0 16 ((μ4.1 12 0 16) + (1 : Int32)))) (fun r5 μ5 => (if r5 = 0 then hs_rz (0 : Int32) μ5 else hs_bI (hc_M_takes d (41 : Int32) μ5) (fun r6 μ6 => (if r6 = 0 then hs_rz (0 : Int32) μ6 else hs_rz (1 : Int32) (hs_wI μ6 12 0 16 ((μ6.1 12 0 16) - (1 : Int32)))))))))) else hs_bV (hc_M_codes d ((1000 : Int32) + r3) (hs_wI μ3 12 0 14 ((μ3.1 12 0 14) + (1 : Int32)))) (fun μ7 => hs_rz (1 : Int32) μ7))) else hs_bI (hc_M_number d (3 : Int32) μ2) (fun r8 μ8 => hs_bV (hc_M_codes d r8 μ8) (fun μ9 => hs_rz (1 : Int32) μ9)))) else hs_bI (hc_M_readsThing d μ1) (fun r10 μ10 => hs_bV (hc_M_codes d (3000 : Int32) μ10) (fun μ11 => hs_rz r10 μ11)))) := by exact (hs_ev_go hp_M_readsThing [] 78 0 _ [] μ).trans rfl
noncomputable def he_M_readsRank_24 (d : Nat) (x1 : Int32) (x2 : Int32) (μ : hs_M) : Option (Option hs_V × hs_M) := hs_ev d 187 24 [some (vR 12 0), some (vI x1), some (vI x2), none] [] μ
theorem hp_M_readsRank : hs_prog 187 = (hs_k187, 4, 3) := rfl
set_option maxRecDepth 100000 in
theorem hq_M_readsRank (d : Nat) (x1 : Int32) (μ : hs_M)  : hc_M_readsRank (d + 1) x1 μ =
  (if x1 = (3 : Int32) then hs_bI (hc_M_readsThing d μ) (fun r1 μ1 => hs_rz r1 μ1) else hs_bI (hc_M_readsRank d (x1 + (1 : Int32)) μ) (fun r2 μ2 => (if r2 = 0 then hs_rz (0 : Int32) μ2 else he_M_readsRank_24 d x1 (1 : Int32) μ2))) := by exact (hs_ev_go hp_M_readsRank [24] 77 0 _ [] μ).trans rfl
set_option maxRecDepth 100000 in
theorem hq_M_readsRank_24 (d : Nat) (x1 : Int32) (x2 : Int32) (μ : hs_M)  : he_M_readsRank_24 d x1 x2 μ =
  (if x2 = 0 then hs_rz (1 : Int32) μ else (if x1 = 0 then hs_bI (hc_M_among d 3 μ) (fun r1 μ1 => (if r1 < 0 then hs_rz (1 : Int32) μ1 else hs_bI (hc_M_readsRank d (x1 + (1 : Int32)) (hs_wI μ1 12 0 14 ((μ1.1 12 0 14) + (1 : Int32)))) (fun r2 μ2 => (if r2 = 0 then hs_rz (0 : Int32) μ2 else (if x1 = 0 then hs_bV (hc_M_codes d (((2000 : Int32) + r1) + (0 : Int32)) μ2) (fun μ3 => (if 0 < x1 then he_M_readsRank_24 d x1 (1 : Int32) μ3 else he_M_readsRank_24 d x1 (0 : Int32) μ3)) else (if x1 = (1 : Int32) then hs_bV (hc_M_codes d (((2000 : Int32) + r1) + (3 : Int32)) μ2) (fun μ4 => (if 0 < x1 then he_M_readsRank_24 d x1 (1 : Int32) μ4 else he_M_readsRank_24 d x1 (0 : Int32) μ4)) else hs_bV (hc_M_codes d (((2000 : Int32) + r1) + (5 : Int32)) μ2) (fun μ5 => (if 0 < x1 then he_M_readsRank_24 d x1 (1 : Int32) μ5 else he_M_readsRank_24 d x1 (0 : Int32) μ5)))))))) else (if x1 = (1 : Int32) then hs_bI (hc_M_among d 0 μ) (fun r6 μ6 => (if r6 < 0 then hs_rz (1 : Int32) μ6 else hs_bI (hc_M_readsRank d (x1 + (1 : Int32)) (hs_wI μ6 12 0 14 ((μ6.1 12 0 14) + (1 : Int32)))) (fun r7 μ7 => (if r7 = 0 then hs_rz (0 : Int32) μ7 else (if x1 = 0 then hs_bV (hc_M_codes d (((2000 : Int32) + r6) + (0 : Int32)) μ7) (fun μ8 => (if 0 < x1 then he_M_readsRank_24 d x1 (1 : Int32) μ8 else he_M_readsRank_24 d x1 (0 : Int32) μ8)) else (if x1 = (1 : Int32) then hs_bV (hc_M_codes d (((2000 : Int32) + r6) + (3 : Int32)) μ7) (fun μ9 => (if 0 < x1 then he_M_readsRank_24 d x1 (1 : Int32) μ9 else he_M_readsRank_24 d x1 (0 : Int32) μ9)) else hs_bV (hc_M_codes d (((2000 : Int32) + r6) + (5 : Int32)) μ7) (fun μ10 => (if 0 < x1 then he_M_readsRank_24 d x1 (1 : Int32) μ10 else he_M_readsRank_24 d x1 (0 : Int32) μ10)))))))) else hs_bI (hc_M_among d 4 μ) (fun r11 μ11 => (if r11 < 0 then hs_rz (1 : Int32) μ11 else hs_bI (hc_M_readsRank d (x1 + (1 : Int32)) (hs_wI μ11 12 0 14 ((μ11.1 12 0 14) + (1 : Int32)))) (fun r12 μ12 => (if r12 = 0 then hs_rz (0 : Int32) μ12 else (if x1 = 0 then hs_bV (hc_M_codes d (((2000 : Int32) + r11) + (0 : Int32)) μ12) (fun μ13 => (if 0 < x1 then he_M_readsRank_24 d x1 (1 : Int32) μ13 else he_M_readsRank_24 d x1 (0 : Int32) μ13)) else (if x1 = (1 : Int32) then hs_bV (hc_M_codes d (((2000 : Int32) + r11) + (3 : Int32)) μ12) (fun μ14 => (if 0 < x1 then he_M_readsRank_24 d x1 (1 : Int32) μ14 else he_M_readsRank_24 d x1 (0 : Int32) μ14)) else hs_bV (hc_M_codes d (((2000 : Int32) + r11) + (5 : Int32)) μ12) (fun μ15 => (if 0 < x1 then he_M_readsRank_24 d x1 (1 : Int32) μ15 else he_M_readsRank_24 d x1 (0 : Int32) μ15))))))))))) := by exact (hs_ev_go hp_M_readsRank [24] 77 24 _ [] μ).trans rfl
noncomputable def he_M_will_61 (d : Nat) (x4 : Int32) (μ : hs_M) : Option (Option hs_V × hs_M) := hs_ev d 188 61 [some (vR 12 0), none, none, none, some (vI x4)] [] μ
theorem hp_M_will : hs_prog 188 = (hs_k188, 5, 1) := rfl
set_option maxRecDepth 100000 in
theorem hq_M_will (d : Nat)  (μ : hs_M)  : hc_M_will (d + 1)  μ =
  hs_bI (hc_M_begins d (40 : Int32) (hs_wI μ 12 0 0 (0 : Int32))) (fun r1 μ1 => (if r1 = 0 then hs_bI (hc_M_faultOf d r1 (40 : Int32) (1 : Int32) (hs_wI μ1 12 0 25 (0 : Int32))) (fun r2 μ2 => (if r2 < 0 then some (some (vI r2), μ2) else he_M_will_61 d (0 : Int32) (hs_wI μ2 12 0 24 (μ2.1 12 0 25)))) else hs_bI (hc_M_readsRank d (0 : Int32) (hs_wI μ1 12 0 25 (0 : Int32))) (fun r3 μ3 => (if r3 = 0 then hs_bI (hc_M_faultOf d r1 (40 : Int32) (0 : Int32) μ3) (fun r4 μ4 => (if r4 < 0 then some (some (vI r4), μ4) else he_M_will_61 d (0 : Int32) (hs_wI μ4 12 0 24 (μ4.1 12 0 25)))) else hs_bI (hc_M_faultOf d r1 (40 : Int32) (1 : Int32) μ3) (fun r5 μ5 => (if r5 < 0 then some (some (vI r5), μ5) else he_M_will_61 d (0 : Int32) (hs_wI μ5 12 0 24 (μ5.1 12 0 25)))))))) := by exact (hs_ev_go hp_M_will [61] 55 0 _ [] μ).trans rfl
set_option maxRecDepth 100000 in
theorem hq_M_will_61 (d : Nat) (x4 : Int32) (μ : hs_M)  : he_M_will_61 d x4 μ =
  (if x4 < (μ.1 12 0 25) then (if hs_in x4 80 then (if hs_in x4 80 then he_M_will_61 d (x4 + (1 : Int32)) (hs_wI μ 52 0 (x4.toNatClampNeg) (μ.1 53 0 (x4.toNatClampNeg))) else none) else none) else some (some (vI (0 : Int32)), μ)) := by exact (hs_ev_go hp_M_will [61] 55 61 _ [] μ).trans rfl
noncomputable def he_M_holding_4 (d : Nat) (κ1 : Nat) (x2 : Int32) (x3 : Int32) (μ : hs_M) : Option (Option hs_V × hs_M) := hs_ev d 189 4 [none, some (vR κ1 0), some (vI x2), some (vI x3)] [] μ
theorem hp_M_holding : hs_prog 189 = (hs_k189, 4, 1) := rfl
set_option maxRecDepth 100000 in
theorem hq_M_holding (d : Nat) (κ1 : Nat) (μ : hs_M) (hκ1 : κ1 = 45 ∨ κ1 = 46 ∨ κ1 = 65) : hc_M_holding (d + 1) κ1 μ =
  he_M_holding_4 d κ1 (0 : Int32) (0 : Int32) μ := by rcases hκ1 with rfl | rfl | rfl <;> exact (hs_ev_go hp_M_holding [4] 29 0 _ [] μ).trans rfl
set_option maxRecDepth 100000 in
theorem hq_M_holding_4 (d : Nat) (κ1 : Nat) (x2 : Int32) (x3 : Int32) (μ : hs_M) (hκ1 : κ1 = 45 ∨ κ1 = 46 ∨ κ1 = 65) : he_M_holding_4 d κ1 x2 x3 μ =
  (if x3 < (μ.1 κ1 0 20) then (if hs_in ((45 : Int32) + x3) 117 then (if (μ.1 κ1 0 (((45 : Int32) + x3).toNatClampNeg)) < 0 then hs_bI (hc_M_flag d (1 : Int32) μ) (fun r1 μ1 => he_M_holding_4 d κ1 (x2 + r1) (x3 + (1 : Int32)) μ1) else hs_bI (hc_M_flag d (0 : Int32) μ) (fun r2 μ2 => he_M_holding_4 d κ1 (x2 + r2) (x3 + (1 : Int32)) μ2)) else none) else some (some (vI x2), μ)) := by rcases hκ1 with rfl | rfl | rfl <;> exact (hs_ev_go hp_M_holding [4] 29 4 _ [] μ).trans rfl
theorem hp_M_thingOf : hs_prog 190 = (hs_k190, 5, 1) := rfl
set_option maxRecDepth 100000 in
theorem hq_M_thingOf (d : Nat) (κ1 : Nat) (x2 : Int32) (x3 : Int32) (μ : hs_M) (hκ1 : κ1 = 45 ∨ κ1 = 46 ∨ κ1 = 65) : hc_M_thingOf (d + 1) κ1 x2 x3 μ =
  (if x3 = (0 : Int32) then some (some (vI x2), μ) else (if x3 = (1 : Int32) then (if hs_in x2 117 then some (some (vI (μ.1 κ1 0 (x2.toNatClampNeg))), μ) else none) else (if x3 = (2 : Int32) then (if hs_in x2 8 then some (some (vI (μ.1 41 0 (x2.toNatClampNeg))), μ) else none) else (if x3 = (3 : Int32) then (if (μ.1 κ1 0 17) < 0 then some (some (vI (0 : Int32)), μ) else (if hs_in (μ.1 κ1 0 17) 117 then some (some (vI (μ.1 κ1 0 ((μ.1 κ1 0 17).toNatClampNeg))), μ) else none)) else (if x3 = (4 : Int32) then (if (μ.1 κ1 0 17) < 0 then some (some (vI (-1 : Int32)), μ) else (if hs_in (μ.1 κ1 0 17) 8 then some (some (vI (μ.1 41 0 ((μ.1 κ1 0 17).toNatClampNeg))), μ) else none)) else (if x3 = (5 : Int32) then (if (μ.1 κ1 0 17) < 0 then some (some (vI (0 : Int32)), μ) else some (some (vI (μ.1 κ1 0 18)), μ)) else (if x3 = (6 : Int32) then hs_bI (hc_M_holding d κ1 μ) (fun r1 μ1 => some (some (vI r1), μ1)) else (if x3 = (7 : Int32) then (if hs_in ((8 : Int32) + x2) 117 then some (some (vI (μ.1 κ1 0 (((8 : Int32) + x2).toNatClampNeg))), μ) else none) else some (some (vI (μ.1 κ1 0 19)), μ))))))))) := by rcases hκ1 with rfl | rfl | rfl <;> exact (hs_ev_go hp_M_thingOf [] 59 0 _ [] μ).trans rfl
theorem hp_M_worked : hs_prog 191 = (hs_k191, 3, 1) := rfl
set_option maxRecDepth 100000 in
theorem hq_M_worked (d : Nat) (x0 : Int32) (x1 : Int32) (x2 : Int32) (μ : hs_M)  : hc_M_worked (d + 1) x0 x1 x2 μ =
  (if x0 = (0 : Int32) then (if x1 < x2 then hs_bI (hc_M_flag d (1 : Int32) μ) (fun r5 μ5 => some (some (vI r5), μ5)) else hs_bI (hc_M_flag d (0 : Int32) μ) (fun r6 μ6 => some (some (vI r6), μ6))) else (if x0 = (1 : Int32) then (if x2 < x1 then hs_bI (hc_M_flag d (1 : Int32) μ) (fun r3 μ3 => some (some (vI r3), μ3)) else hs_bI (hc_M_flag d (0 : Int32) μ) (fun r4 μ4 => some (some (vI r4), μ4))) else (if x0 = (2 : Int32) then (if x1 = x2 then hs_bI (hc_M_flag d (1 : Int32) μ) (fun r1 μ1 => some (some (vI r1), μ1)) else hs_bI (hc_M_flag d (0 : Int32) μ) (fun r2 μ2 => some (some (vI r2), μ2))) else (if x0 = (3 : Int32) then some (some (vI (x1 + x2)), μ) else (if x0 = (4 : Int32) then some (some (vI (x1 - x2)), μ) else (if x0 = (5 : Int32) then some (some (vI (x1 * x2)), μ) else (if x2 = 0 then some (some (vI (0 : Int32)), μ) else (if x2 = 0 then none else some (some (vI (x1 / x2)), μ))))))))) := by exact (hs_ev_go hp_M_worked [] 49 0 _ [] μ).trans rfl
noncomputable def he_M_willOf_14 (d : Nat) (κ1 : Nat) (x2 : Int32) (x3 : Int32) (x4 : Int32) (μ : hs_M) : Option (Option hs_V × hs_M) := hs_ev d 192 14 [some (vR 12 0), some (vR κ1 0), some (vI x2), some (vI x3), some (vI x4), none] [] μ
noncomputable def he_M_willOf_71 (d : Nat) (κ1 : Nat) (x2 : Int32) (x3 : Int32) (x4 : Int32) (x5 : Int32) (μ : hs_M) : Option (Option hs_V × hs_M) := hs_ev d 192 71 [some (vR 12 0), some (vR κ1 0), some (vI x2), some (vI x3), some (vI x4), some (vI x5)] [] μ
theorem hp_M_willOf : hs_prog 192 = (hs_k192, 6, 1) := rfl
set_option maxRecDepth 100000 in
theorem hq_M_willOf (d : Nat) (κ1 : Nat) (x2 : Int32) (μ : hs_M) (hκ1 : κ1 = 45 ∨ κ1 = 46 ∨ κ1 = 65) : hc_M_willOf (d + 1) κ1 x2 μ =
  (if (μ.1 12 0 24) = 0 then some (some (vI (1 : Int32)), μ) else he_M_willOf_14 d κ1 x2 (0 : Int32) (0 : Int32) μ) := by rcases hκ1 with rfl | rfl | rfl <;> exact (hs_ev_go hp_M_willOf [14, 71] 87 0 _ [] μ).trans rfl
set_option maxRecDepth 100000 in
theorem hq_M_willOf_14 (d : Nat) (κ1 : Nat) (x2 : Int32) (x3 : Int32) (x4 : Int32) (μ : hs_M) (hκ1 : κ1 = 45 ∨ κ1 = 46 ∨ κ1 = 65) : he_M_willOf_14 d κ1 x2 x3 x4 μ =
  (if x4 < (μ.1 12 0 24) then (if hs_in x4 80 then (if (μ.1 52 0 (x4.toNatClampNeg)) = (3000 : Int32) then (if hs_in (x3 - (1 : Int32)) 80 then (if hs_in (x3 - (1 : Int32)) 80 then he_M_willOf_14 d κ1 x2 x3 (x4 + (1 : Int32)) (hs_wI μ 54 0 ((x3 - (1 : Int32)).toNatClampNeg) (-(μ.1 54 0 ((x3 - (1 : Int32)).toNatClampNeg)))) else none) else none) else (if (μ.1 52 0 (x4.toNatClampNeg)) < (2000 : Int32) then (if (μ.1 52 0 (x4.toNatClampNeg)) < (1000 : Int32) then (if hs_in x3 80 then he_M_willOf_14 d κ1 x2 (x3 + (1 : Int32)) (x4 + (1 : Int32)) (hs_wI μ 54 0 (x3.toNatClampNeg) (μ.1 52 0 (x4.toNatClampNeg))) else none) else hs_bI (hc_M_thingOf d κ1 x2 ((μ.1 52 0 (x4.toNatClampNeg)) - (1000 : Int32)) μ) (fun r1 μ1 => (if hs_in x3 80 then he_M_willOf_14 d κ1 x2 (x3 + (1 : Int32)) (x4 + (1 : Int32)) (hs_wI μ1 54 0 (x3.toNatClampNeg) r1) else none))) else he_M_willOf_71 d κ1 x2 (x3 + hs_ic (-1)) x4 (μ.1 52 0 (x4.toNatClampNeg)) μ)) else none) else some (some (vI (μ.1 54 0 0)), μ)) := by rcases hκ1 with rfl | rfl | rfl <;> exact (hs_ev_go hp_M_willOf [14, 71] 87 14 _ [] μ).trans rfl
set_option maxRecDepth 100000 in
theorem hq_M_willOf_71 (d : Nat) (κ1 : Nat) (x2 : Int32) (x3 : Int32) (x4 : Int32) (x5 : Int32) (μ : hs_M) (hκ1 : κ1 = 45 ∨ κ1 = 46 ∨ κ1 = 65) : he_M_willOf_71 d κ1 x2 x3 x4 x5 μ =
  (if hs_in (x3 - (1 : Int32)) 80 then (if hs_in x3 80 then hs_bI (hc_M_worked d (x5 - (2000 : Int32)) (μ.1 54 0 ((x3 - (1 : Int32)).toNatClampNeg)) (μ.1 54 0 (x3.toNatClampNeg)) μ) (fun r1 μ1 => (if hs_in (x3 - (1 : Int32)) 80 then he_M_willOf_14 d κ1 x2 x3 (x4 + (1 : Int32)) (hs_wI μ1 54 0 ((x3 - (1 : Int32)).toNatClampNeg) r1) else none)) else none) else none) := by rcases hκ1 with rfl | rfl | rfl <;> exact (hs_ev_go hp_M_willOf [14, 71] 87 71 _ [] μ).trans rfl
end
section
/-! ===== the equations of the methods, 6 ===== -/
noncomputable def he_M_willing_4 (d : Nat) (κ1 : Nat) (x2 : Int32) (x3 : Int32) (μ : hs_M) : Option (Option hs_V × hs_M) := hs_ev d 193 4 [some (vR 12 0), some (vR κ1 0), some (vI x2), some (vI x3)] [] μ
theorem hp_M_willing : hs_prog 193 = (hs_k193, 4, 1) := rfl
set_option maxRecDepth 100000 in
theorem hq_M_willing (d : Nat) (κ1 : Nat) (μ : hs_M) (hκ1 : κ1 = 45 ∨ κ1 = 46 ∨ κ1 = 65) : hc_M_willing (d + 1) κ1 μ =
  he_M_willing_4 d κ1 (0 : Int32) (0 : Int32) μ := by rcases hκ1 with rfl | rfl | rfl <;> exact (hs_ev_go hp_M_willing [4] 34 0 _ [] μ).trans rfl
set_option maxRecDepth 100000 in
theorem hq_M_willing_4 (d : Nat) (κ1 : Nat) (x2 : Int32) (x3 : Int32) (μ : hs_M) (hκ1 : κ1 = 45 ∨ κ1 = 46 ∨ κ1 = 65) : he_M_willing_4 d κ1 x2 x3 μ =
  (if x3 < (μ.1 12 0 3) then hs_bI (hc_M_has d (μ.1 κ1 0 16) x3 μ) (fun r1 μ1 => (if r1 = 0 then he_M_willing_4 d κ1 (x2 ||| (0 : Int32)) (x3 + (1 : Int32)) μ1 else hs_bI (hc_M_willOf d κ1 x3 μ1) (fun r2 μ2 => (if r2 = 0 then he_M_willing_4 d κ1 (x2 ||| (0 : Int32)) (x3 + (1 : Int32)) μ2 else he_M_willing_4 d κ1 (x2 ||| ((1 : Int32) <<< (x3 &&& 31))) (x3 + (1 : Int32)) μ2)))) else some (some (vI x2), μ)) := by rcases hκ1 with rfl | rfl | rfl <;> exact (hs_ev_go hp_M_willing [4] 34 4 _ [] μ).trans rfl
theorem hp_M_shows : hs_prog 194 = (hs_k194, 3, 1) := rfl
set_option maxRecDepth 100000 in
theorem hq_M_shows (d : Nat) (x1 : Int32) (μ : hs_M)  : hc_M_shows (d + 1) x1 μ =
  hs_bI (hc_Math_max d (0 : Int32) (x1 + (μ.1 12 0 9)) μ) (fun r1 μ1 => (if (μ1.1 12 0 8) = 0 then none else some (some (vI (r1 - (r1 - r1 / (μ1.1 12 0 8) * (μ1.1 12 0 8)))), μ1))) := by exact (hs_ev_go hp_M_shows [] 17 0 _ [] μ).trans rfl
theorem hp_M_of : hs_prog 195 = (hs_k195, 3, 1) := rfl
set_option maxRecDepth 100000 in
theorem hq_M_of (d : Nat) (x1 : Int32) (x2 : Int32) (μ : hs_M)  : hc_M_of (d + 1) x1 x2 μ =
  hs_bI (hc_M_isPerson d x1 (hs_wI μ 12 0 0 (0 : Int32))) (fun r1 μ1 => (if r1 = 0 then hs_bI (hc_M_refuse d μ1) (fun r2 μ2 => some (some (vI r2), μ2)) else hs_bI (hc_M_in d (x2.toInt64) (0 : Int64) (7 : Int64) μ1) (fun r3 μ3 => (if r3 = 0 then hs_bI (hc_M_refuse d μ3) (fun r4 μ4 => some (some (vI r4), μ4)) else (if x2 = (0 : Int32) then (if hs_in x1 117 then some (some (vI (μ3.1 45 0 (x1.toNatClampNeg))), μ3) else none) else (if x2 = (1 : Int32) then (if hs_in x1 8 then some (some (vI (μ3.1 41 0 (x1.toNatClampNeg))), μ3) else none) else (if x2 = (2 : Int32) then (if hs_in x1 8 then some (some (vI (μ3.1 42 0 (x1.toNatClampNeg))), μ3) else none) else (if x2 = (3 : Int32) then hs_bI (hc_M_has d (μ3.1 45 0 16) x1 μ3) (fun r7 μ7 => hs_bI (hc_M_flag d r7 μ7) (fun r8 μ8 => some (some (vI r8), μ8))) else (if x2 = (4 : Int32) then (if hs_in ((8 : Int32) + x1) 117 then some (some (vI (μ3.1 45 0 (((8 : Int32) + x1).toNatClampNeg))), μ3) else none) else (if x2 = (5 : Int32) then (if hs_in x1 117 then hs_bI (hc_M_shows d (μ3.1 45 0 (x1.toNatClampNeg)) μ3) (fun r6 μ6 => some (some (vI r6), μ6)) else none) else (if x2 = (6 : Int32) then hs_bI (hc_M_willOf d 45 x1 μ3) (fun r5 μ5 => some (some (vI r5), μ5)) else (if hs_in x1 8 then some (some (vI (μ3.1 44 0 (x1.toNatClampNeg))), μ3) else none)))))))))))) := by exact (hs_ev_go hp_M_of [] 69 0 _ [] μ).trans rfl
theorem hp_M_change : hs_prog 196 = (hs_k196, 3, 1) := rfl
set_option maxRecDepth 100000 in
theorem hq_M_change (d : Nat) (x1 : Int32) (x2 : Int32) (μ : hs_M)  : hc_M_change (d + 1) x1 x2 μ =
  hs_bI (hc_M_isPerson d x1 (hs_wI μ 12 0 0 (0 : Int32))) (fun r1 μ1 => (if r1 = 0 then hs_bI (hc_M_refuse d μ1) (fun r2 μ2 => some (some (vI r2), μ2)) else (if hs_in x1 8 then hs_bI (hc_M_in d (x2.toInt64) (0 : Int64) (((μ1.1 44 0 (x1.toNatClampNeg)) - (1 : Int32)).toInt64) μ1) (fun r3 μ3 => (if r3 = 0 then hs_bI (hc_M_refuse d μ3) (fun r4 μ4 => some (some (vI r4), μ4)) else (if hs_in (((6 : Int32) * x1) + x2) 48 then some (some (vI (μ3.1 43 0 ((((6 : Int32) * x1) + x2).toNatClampNeg))), μ3) else none))) else none))) := by exact (hs_ev_go hp_M_change [] 34 0 _ [] μ).trans rfl
noncomputable def he_M_set_75 (d : Nat)  (μ : hs_M) : Option (Option hs_V × hs_M) := hs_ev d 197 75 [none, none, none, none, none, none, none] [] μ
theorem hp_M_set : hs_prog 197 = (hs_k197, 7, 1) := rfl
set_option maxRecDepth 100000 in
theorem hq_M_set (d : Nat) (x1 : Int32) (x2 : Int32) (x3 : Int32) (μ : hs_M)  : hc_M_set (d + 1) x1 x2 x3 μ =
  (if x1 = 0 then hs_bI (hc_M_in d (x3.toInt64) (1 : Int64) (999 : Int64) (hs_wI μ 12 0 0 (0 : Int32))) (fun r1 μ1 => hs_bI (hc_M_isPerson d x2 μ1) (fun r2 μ2 => (if r2 = 0 then he_M_set_75 d μ2 else (if r1 = 0 then he_M_set_75 d μ2 else (if x1 = 0 then (if hs_in x2 117 then (if hs_in x2 117 then some (some (vI (μ2.1 45 0 (x2.toNatClampNeg))), (hs_wI μ2 45 0 (x2.toNatClampNeg) x3)) else none) else none) else (if x1 = (1 : Int32) then (if hs_in x2 8 then (if hs_in x2 8 then some (some (vI (μ2.1 41 0 (x2.toNatClampNeg))), (hs_wI μ2 41 0 (x2.toNatClampNeg) x3)) else none) else none) else (if hs_in x2 8 then (if hs_in x2 8 then some (some (vI (μ2.1 42 0 (x2.toNatClampNeg))), (hs_wI μ2 42 0 (x2.toNatClampNeg) x3)) else none) else none))))))) else (if x1 = (1 : Int32) then hs_bI (hc_M_in d (x3.toInt64) (0 : Int64) (3 : Int64) (hs_wI μ 12 0 0 (0 : Int32))) (fun r3 μ3 => hs_bI (hc_M_isPerson d x2 μ3) (fun r4 μ4 => (if r4 = 0 then he_M_set_75 d μ4 else (if r3 = 0 then he_M_set_75 d μ4 else (if x1 = 0 then (if hs_in x2 117 then (if hs_in x2 117 then some (some (vI (μ4.1 45 0 (x2.toNatClampNeg))), (hs_wI μ4 45 0 (x2.toNatClampNeg) x3)) else none) else none) else (if x1 = (1 : Int32) then (if hs_in x2 8 then (if hs_in x2 8 then some (some (vI (μ4.1 41 0 (x2.toNatClampNeg))), (hs_wI μ4 41 0 (x2.toNatClampNeg) x3)) else none) else none) else (if hs_in x2 8 then (if hs_in x2 8 then some (some (vI (μ4.1 42 0 (x2.toNatClampNeg))), (hs_wI μ4 42 0 (x2.toNatClampNeg) x3)) else none) else none))))))) else (if x1 = (2 : Int32) then hs_bI (hc_M_in d (x3.toInt64) (0 : Int64) (9 : Int64) (hs_wI μ 12 0 0 (0 : Int32))) (fun r5 μ5 => (if r5 = 0 then hs_bI (hc_M_isPerson d x2 μ5) (fun r6 μ6 => (if r6 = 0 then he_M_set_75 d μ6 else he_M_set_75 d μ6)) else hs_bI (hc_M_isPerson d x2 μ5) (fun r7 μ7 => (if r7 = 0 then he_M_set_75 d μ7 else (if x1 = 0 then (if hs_in x2 117 then (if hs_in x2 117 then some (some (vI (μ7.1 45 0 (x2.toNatClampNeg))), (hs_wI μ7 45 0 (x2.toNatClampNeg) x3)) else none) else none) else (if x1 = (1 : Int32) then (if hs_in x2 8 then (if hs_in x2 8 then some (some (vI (μ7.1 41 0 (x2.toNatClampNeg))), (hs_wI μ7 41 0 (x2.toNatClampNeg) x3)) else none) else none) else (if hs_in x2 8 then (if hs_in x2 8 then some (some (vI (μ7.1 42 0 (x2.toNatClampNeg))), (hs_wI μ7 42 0 (x2.toNatClampNeg) x3)) else none) else none))))))) else hs_bI (hc_M_isPerson d x2 (hs_wI μ 12 0 0 (0 : Int32))) (fun r8 μ8 => (if r8 = 0 then he_M_set_75 d μ8 else he_M_set_75 d μ8))))) := by exact (hs_ev_go hp_M_set [75] 68 0 _ [] μ).trans rfl
set_option maxRecDepth 100000 in
theorem hq_M_set_75 (d : Nat)  (μ : hs_M)  : he_M_set_75 d  μ =
  some (some (vI (-1 : Int32)), μ) := by exact (hs_ev_go hp_M_set [75] 68 75 _ [] μ).trans rfl
theorem hp_M_scale : hs_prog 198 = (hs_k198, 3, 3) := rfl
set_option maxRecDepth 100000 in
theorem hq_M_scale (d : Nat) (x1 : Int32) (x2 : Int32) (μ : hs_M)  : hc_M_scale (d + 1) x1 x2 μ =
  (if x1 = 0 then hs_bI (hc_M_in d (x2.toInt64) (1 : Int64) (9 : Int64) (hs_wI μ 12 0 0 (0 : Int32))) (fun r1 μ1 => (if r1 = 0 then (if x1 = (1 : Int32) then hs_bI (hc_M_in d (x2.toInt64) (-9 : Int64) (9 : Int64) μ1) (fun r2 μ2 => (if r2 = 0 then hs_rz (0 : Int32) μ2 else hs_rz (1 : Int32) (hs_wI μ2 12 0 9 x2))) else hs_rz (0 : Int32) μ1) else hs_rz (1 : Int32) (hs_wI μ1 12 0 8 x2))) else (if x1 = (1 : Int32) then hs_bI (hc_M_in d (x2.toInt64) (-9 : Int64) (9 : Int64) (hs_wI μ 12 0 0 (0 : Int32))) (fun r3 μ3 => (if r3 = 0 then hs_rz (0 : Int32) μ3 else hs_rz (1 : Int32) (hs_wI μ3 12 0 9 x2))) else hs_rz (0 : Int32) (hs_wI μ 12 0 0 (0 : Int32)))) := by exact (hs_ev_go hp_M_scale [] 35 0 _ [] μ).trans rfl
noncomputable def he_M_sheet_46 (d : Nat) (x1 : Int32) (x2 : Int32) (x4 : Int32) (x5 : Int32) (x6 : Int32) (x7 : Int32) (μ : hs_M) : Option (Option hs_V × hs_M) := hs_ev d 199 46 [some (vR 12 0), some (vI x1), some (vI x2), none, some (vI x4), some (vI x5), some (vI x6), some (vI x7), none] [] μ
theorem hp_M_sheet : hs_prog 199 = (hs_k199, 9, 1) := rfl
set_option maxRecDepth 100000 in
theorem hq_M_sheet (d : Nat) (x1 : Int32) (x2 : Int32) (x3 : Int32) (x4 : Int32) (μ : hs_M)  : hc_M_sheet (d + 1) x1 x2 x3 x4 μ =
  hs_bI (hc_M_in d (x1.toInt64) (0 : Int64) (3 : Int64) (hs_wI μ 12 0 0 (0 : Int32))) (fun r1 μ1 => (if r1 = 0 then some (some (vI (-1 : Int32)), μ1) else (if (8 : Int32) < x2 then some (some (vI (-1 : Int32)), μ1) else (if x1 = (3 : Int32) then he_M_sheet_46 d x1 x2 x4 (0 : Int32) x3 (0 : Int32) μ1 else (if x2 < 0 then some (some (vI (-2 : Int32)), μ1) else he_M_sheet_46 d x1 x2 x4 (0 : Int32) x3 (0 : Int32) μ1))))) := by exact (hs_ev_go hp_M_sheet [46] 84 0 _ [] μ).trans rfl
set_option maxRecDepth 100000 in
theorem hq_M_sheet_46 (d : Nat) (x1 : Int32) (x2 : Int32) (x4 : Int32) (x5 : Int32) (x6 : Int32) (x7 : Int32) (μ : hs_M)  : he_M_sheet_46 d x1 x2 x4 x5 x6 x7 μ =
  (if x7 < (μ.1 12 0 3) then (if x1 = 0 then (if x1 = (3 : Int32) then (if hs_in x7 117 then (if hs_in x7 117 then he_M_sheet_46 d x1 x2 x4 (x5 + ((hs_wI μ 45 0 (x7.toNatClampNeg) (1 : Int32)).1 45 0 (x7.toNatClampNeg))) (x6 + x4) (x7 + (1 : Int32)) (hs_wI μ 45 0 (x7.toNatClampNeg) (1 : Int32)) else none) else none) else (if x7 < x2 then hs_bI (hc_Math_min d (999 : Int32) (x6.toInt8.toInt32) μ) (fun r1 μ1 => hs_bI (hc_Math_max d (1 : Int32) r1 μ1) (fun r2 μ2 => (if hs_in x7 117 then (if hs_in x7 117 then he_M_sheet_46 d x1 x2 x4 (x5 + ((hs_wI μ2 45 0 (x7.toNatClampNeg) r2).1 45 0 (x7.toNatClampNeg))) (x6 + x4) (x7 + (1 : Int32)) (hs_wI μ2 45 0 (x7.toNatClampNeg) r2) else none) else none))) else (if hs_in x7 117 then (if hs_in x7 117 then he_M_sheet_46 d x1 x2 x4 (x5 + ((hs_wI μ 45 0 (x7.toNatClampNeg) (1 : Int32)).1 45 0 (x7.toNatClampNeg))) (x6 + x4) (x7 + (1 : Int32)) (hs_wI μ 45 0 (x7.toNatClampNeg) (1 : Int32)) else none) else none))) else (if x1 = (1 : Int32) then (if x1 = (3 : Int32) then (if hs_in x7 117 then (if hs_in x7 117 then he_M_sheet_46 d x1 x2 x4 (x5 + ((hs_wI μ 45 0 (x7.toNatClampNeg) (1 : Int32)).1 45 0 (x7.toNatClampNeg))) (x6 + x4) (x7 + (1 : Int32)) (hs_wI μ 45 0 (x7.toNatClampNeg) (1 : Int32)) else none) else none) else (if x7 < x2 then hs_bI (hc_Math_min d (999 : Int32) (x6.toInt16.toInt32) μ) (fun r3 μ3 => hs_bI (hc_Math_max d (1 : Int32) r3 μ3) (fun r4 μ4 => (if hs_in x7 117 then (if hs_in x7 117 then he_M_sheet_46 d x1 x2 x4 (x5 + ((hs_wI μ4 45 0 (x7.toNatClampNeg) r4).1 45 0 (x7.toNatClampNeg))) (x6 + x4) (x7 + (1 : Int32)) (hs_wI μ4 45 0 (x7.toNatClampNeg) r4) else none) else none))) else (if hs_in x7 117 then (if hs_in x7 117 then he_M_sheet_46 d x1 x2 x4 (x5 + ((hs_wI μ 45 0 (x7.toNatClampNeg) (1 : Int32)).1 45 0 (x7.toNatClampNeg))) (x6 + x4) (x7 + (1 : Int32)) (hs_wI μ 45 0 (x7.toNatClampNeg) (1 : Int32)) else none) else none))) else (if x1 = (3 : Int32) then (if hs_in x7 117 then (if hs_in x7 117 then he_M_sheet_46 d x1 x2 x4 (x5 + ((hs_wI μ 45 0 (x7.toNatClampNeg) (1 : Int32)).1 45 0 (x7.toNatClampNeg))) (x6 + x4) (x7 + (1 : Int32)) (hs_wI μ 45 0 (x7.toNatClampNeg) (1 : Int32)) else none) else none) else (if x7 < x2 then hs_bI (hc_Math_min d (999 : Int32) x6 μ) (fun r5 μ5 => hs_bI (hc_Math_max d (1 : Int32) r5 μ5) (fun r6 μ6 => (if hs_in x7 117 then (if hs_in x7 117 then he_M_sheet_46 d x1 x2 x4 (x5 + ((hs_wI μ6 45 0 (x7.toNatClampNeg) r6).1 45 0 (x7.toNatClampNeg))) (x6 + x4) (x7 + (1 : Int32)) (hs_wI μ6 45 0 (x7.toNatClampNeg) r6) else none) else none))) else (if hs_in x7 117 then (if hs_in x7 117 then he_M_sheet_46 d x1 x2 x4 (x5 + ((hs_wI μ 45 0 (x7.toNatClampNeg) (1 : Int32)).1 45 0 (x7.toNatClampNeg))) (x6 + x4) (x7 + (1 : Int32)) (hs_wI μ 45 0 (x7.toNatClampNeg) (1 : Int32)) else none) else none))))) else (if x1 = (3 : Int32) then some (some (vI (-3 : Int32)), μ) else some (some (vI x5), μ))) := by exact (hs_ev_go hp_M_sheet [46] 84 46 _ [] μ).trans rfl
noncomputable def he_M_goes_5 (d : Nat) (κ1 : Nat) (x2 : Int32) (x3 : Int32) (x4 : Int32) (μ : hs_M) : Option (Option hs_V × hs_M) := hs_ev d 200 5 [some (vR 12 0), some (vR κ1 0), some (vI x2), some (vI x3), some (vI x4), none] [] μ
noncomputable def he_M_goes_78 (d : Nat) (κ1 : Nat) (x2 : Int32) (x4 : Int32) (μ : hs_M) : Option (Option hs_V × hs_M) := hs_ev d 200 78 [some (vR 12 0), some (vR κ1 0), some (vI x2), none, some (vI x4), none] [] μ
noncomputable def he_M_goes_83 (d : Nat) (κ1 : Nat) (x2 : Int32) (x3 : Int32) (x4 : Int32) (μ : hs_M) : Option (Option hs_V × hs_M) := hs_ev d 200 83 [some (vR 12 0), some (vR κ1 0), some (vI x2), some (vI x3), some (vI x4), none] [] μ
noncomputable def he_M_goes_174 (d : Nat) (κ1 : Nat) (μ : hs_M) : Option (Option hs_V × hs_M) := hs_ev d 200 174 [some (vR 12 0), some (vR κ1 0), none, none, none, none] [] μ
noncomputable def he_M_goes_193 (d : Nat) (κ1 : Nat) (x4 : Int32) (μ : hs_M) : Option (Option hs_V × hs_M) := hs_ev d 200 193 [some (vR 12 0), some (vR κ1 0), none, none, some (vI x4), none] [] μ
theorem hp_M_goes : hs_prog 200 = (hs_k200, 6, 0) := rfl
set_option maxRecDepth 100000 in
theorem hq_M_goes (d : Nat) (κ1 : Nat) (x2 : Int32) (μ : hs_M) (hκ1 : κ1 = 45 ∨ κ1 = 46 ∨ κ1 = 65) : hc_M_goes (d + 1) κ1 x2 μ =
  he_M_goes_5 d κ1 x2 (-1 : Int32) (0 : Int32) μ := by rcases hκ1 with rfl | rfl | rfl <;> exact (hs_ev_go hp_M_goes [5, 78, 83, 174, 193] 173 0 _ [] μ).trans rfl
set_option maxRecDepth 100000 in
theorem hq_M_goes_5 (d : Nat) (κ1 : Nat) (x2 : Int32) (x3 : Int32) (x4 : Int32) (μ : hs_M) (hκ1 : κ1 = 45 ∨ κ1 = 46 ∨ κ1 = 65) : he_M_goes_5 d κ1 x2 x3 x4 μ =
  (if x4 < (μ.1 12 0 3) then hs_bI (hc_M_has d x2 x4 μ) (fun r1 μ1 => (if r1 = 0 then he_M_goes_83 d κ1 x2 x3 x4 μ1 else hs_bI (hc_M_has d (μ1.1 κ1 0 16) x4 μ1) (fun r2 μ2 => (if r2 = 0 then he_M_goes_83 d κ1 x2 x3 x4 μ2 else (if x4 = (μ2.1 κ1 0 17) then he_M_goes_83 d κ1 x2 x3 x4 μ2 else (if x3 < 0 then he_M_goes_78 d κ1 x2 x4 μ2 else (if hs_in x4 117 then hs_bI (hc_M_shows d (μ2.1 κ1 0 (x4.toNatClampNeg)) μ2) (fun r3 μ3 => (if hs_in x3 117 then hs_bI (hc_M_shows d (μ3.1 κ1 0 (x3.toNatClampNeg)) μ3) (fun r4 μ4 => (if r4 < r3 then he_M_goes_78 d κ1 x2 x4 μ4 else he_M_goes_83 d κ1 x2 x3 x4 μ4)) else none)) else none))))))) else (if x3 < 0 then (if (μ.1 κ1 0 17) < 0 then he_M_goes_174 d κ1 μ else (if hs_in ((8 : Int32) + (μ.1 κ1 0 17)) 117 then (if hs_in ((8 : Int32) + (μ.1 κ1 0 17)) 117 then he_M_goes_174 d κ1 (hs_wI (hs_wI μ κ1 0 (((8 : Int32) + (μ.1 κ1 0 17)).toNatClampNeg) ((μ.1 κ1 0 (((8 : Int32) + (μ.1 κ1 0 17)).toNatClampNeg)) + (1 : Int32))) κ1 0 18 (((hs_wI μ κ1 0 (((8 : Int32) + (μ.1 κ1 0 17)).toNatClampNeg) ((μ.1 κ1 0 (((8 : Int32) + (μ.1 κ1 0 17)).toNatClampNeg)) + (1 : Int32))).1 κ1 0 18) + (1 : Int32))) else none) else none)) else (if (μ.1 κ1 0 17) < 0 then hs_bI (hc_M_falls d κ1 μ) (fun r5 μ5 => (if ((hs_wI (hs_wI (hs_wI μ5 12 0 27 ((μ.1 12 0 27) + r5)) κ1 0 17 x3) κ1 0 18 (0 : Int32)).1 κ1 0 17) < 0 then he_M_goes_174 d κ1 (hs_wI (hs_wI (hs_wI μ5 12 0 27 ((μ.1 12 0 27) + r5)) κ1 0 17 x3) κ1 0 18 (0 : Int32)) else (if hs_in ((8 : Int32) + ((hs_wI (hs_wI (hs_wI μ5 12 0 27 ((μ.1 12 0 27) + r5)) κ1 0 17 x3) κ1 0 18 (0 : Int32)).1 κ1 0 17)) 117 then (if hs_in ((8 : Int32) + ((hs_wI (hs_wI (hs_wI μ5 12 0 27 ((μ.1 12 0 27) + r5)) κ1 0 17 x3) κ1 0 18 (0 : Int32)).1 κ1 0 17)) 117 then he_M_goes_174 d κ1 (hs_wI (hs_wI (hs_wI (hs_wI (hs_wI μ5 12 0 27 ((μ.1 12 0 27) + r5)) κ1 0 17 x3) κ1 0 18 (0 : Int32)) κ1 0 (((8 : Int32) + ((hs_wI (hs_wI (hs_wI μ5 12 0 27 ((μ.1 12 0 27) + r5)) κ1 0 17 x3) κ1 0 18 (0 : Int32)).1 κ1 0 17)).toNatClampNeg) (((hs_wI (hs_wI (hs_wI μ5 12 0 27 ((μ.1 12 0 27) + r5)) κ1 0 17 x3) κ1 0 18 (0 : Int32)).1 κ1 0 (((8 : Int32) + ((hs_wI (hs_wI (hs_wI μ5 12 0 27 ((μ.1 12 0 27) + r5)) κ1 0 17 x3) κ1 0 18 (0 : Int32)).1 κ1 0 17)).toNatClampNeg)) + (1 : Int32))) κ1 0 18 (((hs_wI (hs_wI (hs_wI (hs_wI μ5 12 0 27 ((μ.1 12 0 27) + r5)) κ1 0 17 x3) κ1 0 18 (0 : Int32)) κ1 0 (((8 : Int32) + ((hs_wI (hs_wI (hs_wI μ5 12 0 27 ((μ.1 12 0 27) + r5)) κ1 0 17 x3) κ1 0 18 (0 : Int32)).1 κ1 0 17)).toNatClampNeg) (((hs_wI (hs_wI (hs_wI μ5 12 0 27 ((μ.1 12 0 27) + r5)) κ1 0 17 x3) κ1 0 18 (0 : Int32)).1 κ1 0 (((8 : Int32) + ((hs_wI (hs_wI (hs_wI μ5 12 0 27 ((μ.1 12 0 27) + r5)) κ1 0 17 x3) κ1 0 18 (0 : Int32)).1 κ1 0 17)).toNatClampNeg)) + (1 : Int32))).1 κ1 0 18) + (1 : Int32))) else none) else none))) else (if hs_in x3 117 then hs_bI (hc_M_shows d (μ.1 κ1 0 (x3.toNatClampNeg)) μ) (fun r6 μ6 => (if hs_in (μ6.1 κ1 0 17) 117 then hs_bI (hc_M_shows d (μ6.1 κ1 0 ((μ6.1 κ1 0 17).toNatClampNeg)) μ6) (fun r7 μ7 => (if r7 < r6 then hs_bI (hc_M_falls d κ1 μ7) (fun r8 μ8 => (if ((hs_wI (hs_wI (hs_wI μ8 12 0 27 ((μ7.1 12 0 27) + r8)) κ1 0 17 x3) κ1 0 18 (0 : Int32)).1 κ1 0 17) < 0 then he_M_goes_174 d κ1 (hs_wI (hs_wI (hs_wI μ8 12 0 27 ((μ7.1 12 0 27) + r8)) κ1 0 17 x3) κ1 0 18 (0 : Int32)) else (if hs_in ((8 : Int32) + ((hs_wI (hs_wI (hs_wI μ8 12 0 27 ((μ7.1 12 0 27) + r8)) κ1 0 17 x3) κ1 0 18 (0 : Int32)).1 κ1 0 17)) 117 then (if hs_in ((8 : Int32) + ((hs_wI (hs_wI (hs_wI μ8 12 0 27 ((μ7.1 12 0 27) + r8)) κ1 0 17 x3) κ1 0 18 (0 : Int32)).1 κ1 0 17)) 117 then he_M_goes_174 d κ1 (hs_wI (hs_wI (hs_wI (hs_wI (hs_wI μ8 12 0 27 ((μ7.1 12 0 27) + r8)) κ1 0 17 x3) κ1 0 18 (0 : Int32)) κ1 0 (((8 : Int32) + ((hs_wI (hs_wI (hs_wI μ8 12 0 27 ((μ7.1 12 0 27) + r8)) κ1 0 17 x3) κ1 0 18 (0 : Int32)).1 κ1 0 17)).toNatClampNeg) (((hs_wI (hs_wI (hs_wI μ8 12 0 27 ((μ7.1 12 0 27) + r8)) κ1 0 17 x3) κ1 0 18 (0 : Int32)).1 κ1 0 (((8 : Int32) + ((hs_wI (hs_wI (hs_wI μ8 12 0 27 ((μ7.1 12 0 27) + r8)) κ1 0 17 x3) κ1 0 18 (0 : Int32)).1 κ1 0 17)).toNatClampNeg)) + (1 : Int32))) κ1 0 18 (((hs_wI (hs_wI (hs_wI (hs_wI μ8 12 0 27 ((μ7.1 12 0 27) + r8)) κ1 0 17 x3) κ1 0 18 (0 : Int32)) κ1 0 (((8 : Int32) + ((hs_wI (hs_wI (hs_wI μ8 12 0 27 ((μ7.1 12 0 27) + r8)) κ1 0 17 x3) κ1 0 18 (0 : Int32)).1 κ1 0 17)).toNatClampNeg) (((hs_wI (hs_wI (hs_wI μ8 12 0 27 ((μ7.1 12 0 27) + r8)) κ1 0 17 x3) κ1 0 18 (0 : Int32)).1 κ1 0 (((8 : Int32) + ((hs_wI (hs_wI (hs_wI μ8 12 0 27 ((μ7.1 12 0 27) + r8)) κ1 0 17 x3) κ1 0 18 (0 : Int32)).1 κ1 0 17)).toNatClampNeg)) + (1 : Int32))).1 κ1 0 18) + (1 : Int32))) else none) else none))) else (if (μ7.1 κ1 0 17) < 0 then he_M_goes_174 d κ1 μ7 else (if hs_in ((8 : Int32) + (μ7.1 κ1 0 17)) 117 then (if hs_in ((8 : Int32) + (μ7.1 κ1 0 17)) 117 then he_M_goes_174 d κ1 (hs_wI (hs_wI μ7 κ1 0 (((8 : Int32) + (μ7.1 κ1 0 17)).toNatClampNeg) ((μ7.1 κ1 0 (((8 : Int32) + (μ7.1 κ1 0 17)).toNatClampNeg)) + (1 : Int32))) κ1 0 18 (((hs_wI μ7 κ1 0 (((8 : Int32) + (μ7.1 κ1 0 17)).toNatClampNeg) ((μ7.1 κ1 0 (((8 : Int32) + (μ7.1 κ1 0 17)).toNatClampNeg)) + (1 : Int32))).1 κ1 0 18) + (1 : Int32))) else none) else none)))) else none)) else none)))) := by rcases hκ1 with rfl | rfl | rfl <;> exact (hs_ev_go hp_M_goes [5, 78, 83, 174, 193] 173 5 _ [] μ).trans rfl
set_option maxRecDepth 100000 in
theorem hq_M_goes_78 (d : Nat) (κ1 : Nat) (x2 : Int32) (x4 : Int32) (μ : hs_M) (hκ1 : κ1 = 45 ∨ κ1 = 46 ∨ κ1 = 65) : he_M_goes_78 d κ1 x2 x4 μ =
  he_M_goes_5 d κ1 x2 x4 (x4 + (1 : Int32)) μ := by rcases hκ1 with rfl | rfl | rfl <;> exact (hs_ev_go hp_M_goes [5, 78, 83, 174, 193] 173 78 _ [] μ).trans rfl
set_option maxRecDepth 100000 in
theorem hq_M_goes_83 (d : Nat) (κ1 : Nat) (x2 : Int32) (x3 : Int32) (x4 : Int32) (μ : hs_M) (hκ1 : κ1 = 45 ∨ κ1 = 46 ∨ κ1 = 65) : he_M_goes_83 d κ1 x2 x3 x4 μ =
  he_M_goes_5 d κ1 x2 x3 (x4 + (1 : Int32)) μ := by rcases hκ1 with rfl | rfl | rfl <;> exact (hs_ev_go hp_M_goes [5, 78, 83, 174, 193] 173 83 _ [] μ).trans rfl
set_option maxRecDepth 100000 in
theorem hq_M_goes_174 (d : Nat) (κ1 : Nat) (μ : hs_M) (hκ1 : κ1 = 45 ∨ κ1 = 46 ∨ κ1 = 65) : he_M_goes_174 d κ1 μ =
  (if hs_in ((57 : Int32) + ((μ.1 κ1 0 19) - (μ.1 κ1 0 19) / (60 : Int32) * (60 : Int32))) 117 then he_M_goes_193 d κ1 (0 : Int32) (hs_wI μ κ1 0 (((57 : Int32) + ((μ.1 κ1 0 19) - (μ.1 κ1 0 19) / (60 : Int32) * (60 : Int32))).toNatClampNeg) (μ.1 κ1 0 17)) else none) := by rcases hκ1 with rfl | rfl | rfl <;> exact (hs_ev_go hp_M_goes [5, 78, 83, 174, 193] 173 174 _ [] μ).trans rfl
set_option maxRecDepth 100000 in
theorem hq_M_goes_193 (d : Nat) (κ1 : Nat) (x4 : Int32) (μ : hs_M) (hκ1 : κ1 = 45 ∨ κ1 = 46 ∨ κ1 = 65) : he_M_goes_193 d κ1 x4 μ =
  (if x4 < (μ.1 12 0 3) then hs_bI (hc_M_has d (μ.1 κ1 0 16) x4 μ) (fun r1 μ1 => (if r1 = 0 then he_M_goes_193 d κ1 (x4 + (1 : Int32)) μ1 else (if hs_in x4 8 then (if 0 < (μ1.1 44 0 (x4.toNatClampNeg)) then (if hs_in x4 117 then (if hs_in x4 8 then (if (μ1.1 44 0 (x4.toNatClampNeg)) = 0 then none else (if hs_in (((6 : Int32) * x4) + ((μ1.1 κ1 0 19) - (μ1.1 κ1 0 19) / (μ1.1 44 0 (x4.toNatClampNeg)) * (μ1.1 44 0 (x4.toNatClampNeg)))) 48 then hs_bI (hc_Math_min d (999 : Int32) ((μ1.1 κ1 0 (x4.toNatClampNeg)) + (μ1.1 43 0 ((((6 : Int32) * x4) + ((μ1.1 κ1 0 19) - (μ1.1 κ1 0 19) / (μ1.1 44 0 (x4.toNatClampNeg)) * (μ1.1 44 0 (x4.toNatClampNeg)))).toNatClampNeg))) μ1) (fun r2 μ2 => hs_bI (hc_Math_max d (1 : Int32) r2 μ2) (fun r3 μ3 => (if hs_in x4 117 then he_M_goes_193 d κ1 (x4 + (1 : Int32)) (hs_wI μ3 κ1 0 (x4.toNatClampNeg) r3) else none))) else none)) else none) else none) else he_M_goes_193 d κ1 (x4 + (1 : Int32)) μ1) else none))) else some (none, (hs_wI μ κ1 0 19 ((μ.1 κ1 0 19) + (1 : Int32))))) := by rcases hκ1 with rfl | rfl | rfl <;> exact (hs_ev_go hp_M_goes [5, 78, 83, 174, 193] 173 193 _ [] μ).trans rfl
noncomputable def he_M_falls_4 (d : Nat) (κ1 : Nat) (x2 : Int32) (x3 : Int32) (μ : hs_M) : Option (Option hs_V × hs_M) := hs_ev d 201 4 [none, some (vR κ1 0), some (vI x2), some (vI x3)] [] μ
theorem hp_M_falls : hs_prog 201 = (hs_k201, 4, 1) := rfl
set_option maxRecDepth 100000 in
theorem hq_M_falls (d : Nat) (κ1 : Nat) (μ : hs_M) (hκ1 : κ1 = 45 ∨ κ1 = 46 ∨ κ1 = 65) : hc_M_falls (d + 1) κ1 μ =
  he_M_falls_4 d κ1 (0 : Int32) (0 : Int32) μ := by rcases hκ1 with rfl | rfl | rfl <;> exact (hs_ev_go hp_M_falls [4] 44 0 _ [] μ).trans rfl
set_option maxRecDepth 100000 in
theorem hq_M_falls_4 (d : Nat) (κ1 : Nat) (x2 : Int32) (x3 : Int32) (μ : hs_M) (hκ1 : κ1 = 45 ∨ κ1 = 46 ∨ κ1 = 65) : he_M_falls_4 d κ1 x2 x3 μ =
  (if x3 < (μ.1 κ1 0 20) then (if (μ.1 κ1 0 17) < 0 then he_M_falls_4 d κ1 x2 (x3 + (1 : Int32)) μ else (if hs_in ((21 : Int32) + x3) 117 then (if (μ.1 κ1 0 (((21 : Int32) + x3).toNatClampNeg)) = (μ.1 κ1 0 17) then (if hs_in ((45 : Int32) + x3) 117 then (if (μ.1 κ1 0 (((45 : Int32) + x3).toNatClampNeg)) < 0 then (if hs_in ((45 : Int32) + x3) 117 then he_M_falls_4 d κ1 (x2 + (1 : Int32)) (x3 + (1 : Int32)) (hs_wI μ κ1 0 (((45 : Int32) + x3).toNatClampNeg) (μ.1 κ1 0 19)) else none) else he_M_falls_4 d κ1 x2 (x3 + (1 : Int32)) μ) else none) else he_M_falls_4 d κ1 x2 (x3 + (1 : Int32)) μ) else none)) else some (some (vI x2), μ)) := by rcases hκ1 with rfl | rfl | rfl <;> exact (hs_ev_go hp_M_falls [4] 44 4 _ [] μ).trans rfl
noncomputable def he_M_puts_2 (d : Nat) (κ1 : Nat) (x2 : Int32) (μ : hs_M) : Option (Option hs_V × hs_M) := hs_ev d 202 2 [some (vR 45 0), some (vR κ1 0), some (vI x2)] [] μ
theorem hp_M_puts : hs_prog 202 = (hs_k202, 3, 0) := rfl
set_option maxRecDepth 100000 in
theorem hq_M_puts (d : Nat) (κ1 : Nat) (μ : hs_M) (hκ1 : κ1 = 46 ∨ κ1 = 65) : hc_M_puts (d + 1) κ1 μ =
  he_M_puts_2 d κ1 (0 : Int32) μ := by rcases hκ1 with rfl | rfl <;> exact (hs_ev_go hp_M_puts [2] 17 0 _ [] μ).trans rfl
set_option maxRecDepth 100000 in
theorem hq_M_puts_2 (d : Nat) (κ1 : Nat) (x2 : Int32) (μ : hs_M) (hκ1 : κ1 = 46 ∨ κ1 = 65) : he_M_puts_2 d κ1 x2 μ =
  (if x2 < (117 : Int32) then (if hs_in x2 117 then (if hs_in x2 117 then he_M_puts_2 d κ1 (x2 + (1 : Int32)) (hs_wI μ κ1 0 (x2.toNatClampNeg) (μ.1 45 0 (x2.toNatClampNeg))) else none) else none) else some (none, μ)) := by rcases hκ1 with rfl | rfl <;> exact (hs_ev_go hp_M_puts [2] 17 2 _ [] μ).trans rfl
noncomputable def he_M_putsBy_11 (d : Nat) (x1 : Int32) (μ : hs_M) : Option (Option hs_V × hs_M) := hs_ev d 203 11 [some (vR 12 0), some (vI x1)] [] μ
noncomputable def he_M_putsBy_51 (d : Nat) (x1 : Int32) (μ : hs_M) : Option (Option hs_V × hs_M) := hs_ev d 203 51 [some (vR 12 0), some (vI x1)] [] μ
theorem hp_M_putsBy : hs_prog 203 = (hs_k203, 2, 0) := rfl
set_option maxRecDepth 100000 in
theorem hq_M_putsBy (d : Nat)  (μ : hs_M)  : hc_M_putsBy (d + 1)  μ =
  (if (μ.1 12 0 28) = (20 : Int32) then he_M_putsBy_11 d (0 : Int32) μ else he_M_putsBy_51 d (0 : Int32) μ) := by exact (hs_ev_go hp_M_putsBy [11, 51] 57 0 _ [] μ).trans rfl
set_option maxRecDepth 100000 in
theorem hq_M_putsBy_11 (d : Nat) (x1 : Int32) (μ : hs_M)  : he_M_putsBy_11 d x1 μ =
  (if x1 < (2223 : Int32) then (if hs_in (x1 + (117 : Int32)) 2340 then (if hs_in x1 2340 then he_M_putsBy_11 d (x1 + (1 : Int32)) (hs_wI μ 55 0 (x1.toNatClampNeg) (μ.1 55 0 ((x1 + (117 : Int32)).toNatClampNeg))) else none) else none) else he_M_putsBy_51 d (0 : Int32) (hs_wI μ 12 0 28 ((μ.1 12 0 28) - (1 : Int32)))) := by exact (hs_ev_go hp_M_putsBy [11, 51] 57 11 _ [] μ).trans rfl
set_option maxRecDepth 100000 in
theorem hq_M_putsBy_51 (d : Nat) (x1 : Int32) (μ : hs_M)  : he_M_putsBy_51 d x1 μ =
  (if x1 < (117 : Int32) then (if hs_in x1 117 then (if hs_in (((117 : Int32) * (μ.1 12 0 28)) + x1) 2340 then he_M_putsBy_51 d (x1 + (1 : Int32)) (hs_wI μ 55 0 ((((117 : Int32) * (μ.1 12 0 28)) + x1).toNatClampNeg) (μ.1 45 0 (x1.toNatClampNeg))) else none) else none) else some (none, (hs_wI μ 12 0 28 ((μ.1 12 0 28) + (1 : Int32))))) := by exact (hs_ev_go hp_M_putsBy [11, 51] 57 51 _ [] μ).trans rfl
noncomputable def he_M_undo_26 (d : Nat) (x1 : Int32) (μ : hs_M) : Option (Option hs_V × hs_M) := hs_ev d 204 26 [some (vR 12 0), some (vI x1)] [] μ
theorem hp_M_undo : hs_prog 204 = (hs_k204, 2, 1) := rfl
set_option maxRecDepth 100000 in
theorem hq_M_undo (d : Nat)  (μ : hs_M)  : hc_M_undo (d + 1)  μ =
  (if (μ.1 12 0 28) = 0 then some (some (vI (-1 : Int32)), (hs_wI μ 12 0 0 (0 : Int32))) else he_M_undo_26 d (0 : Int32) (hs_wI (hs_wI μ 12 0 0 (0 : Int32)) 12 0 28 ((μ.1 12 0 28) - (1 : Int32)))) := by exact (hs_ev_go hp_M_undo [26] 40 0 _ [] μ).trans rfl
set_option maxRecDepth 100000 in
theorem hq_M_undo_26 (d : Nat) (x1 : Int32) (μ : hs_M)  : he_M_undo_26 d x1 μ =
  (if x1 < (117 : Int32) then (if hs_in (((117 : Int32) * (μ.1 12 0 28)) + x1) 2340 then (if hs_in x1 117 then he_M_undo_26 d (x1 + (1 : Int32)) (hs_wI μ 45 0 (x1.toNatClampNeg) (μ.1 55 0 ((((117 : Int32) * (μ.1 12 0 28)) + x1).toNatClampNeg))) else none) else none) else some (some (vI (μ.1 12 0 28)), μ)) := by exact (hs_ev_go hp_M_undo [26] 40 26 _ [] μ).trans rfl
theorem hp_M_stand : hs_prog 205 = (hs_k205, 3, 1) := rfl
set_option maxRecDepth 100000 in
theorem hq_M_stand (d : Nat) (x1 : Int32) (μ : hs_M)  : hc_M_stand (d + 1) x1 μ =
  hs_bI (hc_M_in d (x1.toInt64) (0 : Int64) ((((1 : Int32) <<< ((μ.1 12 0 3) &&& 31)) - (1 : Int32)).toInt64) (hs_wI μ 12 0 0 (0 : Int32))) (fun r1 μ1 => (if r1 = 0 then some (some (vI (-2 : Int32)), μ1) else hs_bV (hc_M_putsBy d μ1) (fun μ2 => hs_bV (hc_M_goes d 45 x1 (hs_wI μ2 12 0 27 (0 : Int32))) (fun μ3 => (if (μ3.1 45 0 17) = (μ2.1 45 0 17) then hs_bI (hc_M_flag d (0 : Int32) (hs_wI μ3 12 0 1 (0 : Int32))) (fun r4 μ4 => hs_bV (hc_M_enters d (r4.toInt64) μ4) (fun μ5 => hs_bV (hc_M_enters d ((μ5.1 12 0 27).toInt64) μ5) (fun μ6 => some (some (vI (μ6.1 45 0 17)), μ6)))) else hs_bI (hc_M_flag d (1 : Int32) (hs_wI μ3 12 0 1 (0 : Int32))) (fun r7 μ7 => hs_bV (hc_M_enters d (r7.toInt64) μ7) (fun μ8 => hs_bV (hc_M_enters d ((μ8.1 12 0 27).toInt64) μ8) (fun μ9 => some (some (vI (μ9.1 45 0 17)), μ9))))))))) := by exact (hs_ev_go hp_M_stand [] 61 0 _ [] μ).trans rfl
noncomputable def he_M_weeks_36 (d : Nat) (x1 : Int32) (x2 : Int32) (x3 : Int32) (μ : hs_M) : Option (Option hs_V × hs_M) := hs_ev d 206 36 [some (vR 12 0), some (vI x1), some (vI x2), some (vI x3), none] [] μ
theorem hp_M_weeks : hs_prog 206 = (hs_k206, 5, 1) := rfl
set_option maxRecDepth 100000 in
theorem hq_M_weeks (d : Nat) (x1 : Int32) (μ : hs_M)  : hc_M_weeks (d + 1) x1 μ =
  hs_bI (hc_M_in d (x1.toInt64) (0 : Int64) (99 : Int64) (hs_wI μ 12 0 0 (0 : Int32))) (fun r1 μ1 => (if r1 = 0 then some (some (vI (-1 : Int32)), μ1) else (if 0 < x1 then hs_bV (hc_M_putsBy d μ1) (fun μ2 => he_M_weeks_36 d x1 (0 : Int32) (0 : Int32) (hs_wI μ2 12 0 27 (0 : Int32))) else he_M_weeks_36 d x1 (0 : Int32) (0 : Int32) (hs_wI μ1 12 0 27 (0 : Int32))))) := by exact (hs_ev_go hp_M_weeks [36] 73 0 _ [] μ).trans rfl
set_option maxRecDepth 100000 in
theorem hq_M_weeks_36 (d : Nat) (x1 : Int32) (x2 : Int32) (x3 : Int32) (μ : hs_M)  : he_M_weeks_36 d x1 x2 x3 μ =
  (if x3 < x1 then hs_bI (hc_M_willing d 45 μ) (fun r1 μ1 => hs_bV (hc_M_goes d 45 r1 μ1) (fun μ2 => (if (μ2.1 45 0 17) = (μ.1 45 0 17) then hs_bI (hc_M_flag d (0 : Int32) μ2) (fun r3 μ3 => he_M_weeks_36 d x1 (x2 + r3) (x3 + (1 : Int32)) μ3) else hs_bI (hc_M_flag d (1 : Int32) μ2) (fun r4 μ4 => he_M_weeks_36 d x1 (x2 + r4) (x3 + (1 : Int32)) μ4)))) else hs_bV (hc_M_enters d ((μ.1 45 0 17).toInt64) (hs_wI μ 12 0 1 (0 : Int32))) (fun μ5 => hs_bV (hc_M_enters d ((μ5.1 12 0 27).toInt64) μ5) (fun μ6 => some (some (vI x2), μ6)))) := by exact (hs_ev_go hp_M_weeks [36] 73 36 _ [] μ).trans rfl
noncomputable def he_M_readsWeek_4 (d : Nat) (x1 : Int32) (x2 : Int32) (μ : hs_M) : Option (Option hs_V × hs_M) := hs_ev d 207 4 [some (vR 12 0), some (vI x1), some (vI x2)] [] μ
theorem hp_M_readsWeek : hs_prog 207 = (hs_k207, 3, 0) := rfl
set_option maxRecDepth 100000 in
theorem hq_M_readsWeek (d : Nat)  (μ : hs_M)  : hc_M_readsWeek (d + 1)  μ =
  he_M_readsWeek_4 d (-1 : Int32) (0 : Int32) μ := by exact (hs_ev_go hp_M_readsWeek [4] 61 0 _ [] μ).trans rfl
set_option maxRecDepth 100000 in
theorem hq_M_readsWeek_4 (d : Nat) (x1 : Int32) (x2 : Int32) (μ : hs_M)  : he_M_readsWeek_4 d x1 x2 μ =
  (if (μ.1 12 0 14) < (μ.1 12 0 15) then (if hs_in (μ.1 12 0 14) 80 then hs_bI (hc_M_in d (((μ.1 47 0 ((μ.1 12 0 14).toNatClampNeg)) - (97 : Int32)).toInt64) ((x1 + (1 : Int32)).toInt64) (7 : Int64) μ) (fun r1 μ1 => (if r1 = 0 then (if hs_in (μ1.1 12 0 31) 61 then some (none, (hs_wI (hs_wI μ1 56 0 ((μ1.1 12 0 31).toNatClampNeg) x2) 12 0 31 ((μ1.1 12 0 31) + (1 : Int32)))) else none) else (if hs_in (μ1.1 12 0 14) 80 then he_M_readsWeek_4 d ((μ1.1 47 0 ((μ1.1 12 0 14).toNatClampNeg)) - (97 : Int32)) (x2 ||| ((1 : Int32) <<< (((μ1.1 47 0 ((μ1.1 12 0 14).toNatClampNeg)) - (97 : Int32)) &&& 31))) (hs_wI μ1 12 0 14 ((μ1.1 12 0 14) + (1 : Int32))) else none))) else none) else (if hs_in (μ.1 12 0 31) 61 then some (none, (hs_wI (hs_wI μ 56 0 ((μ.1 12 0 31).toNatClampNeg) x2) 12 0 31 ((μ.1 12 0 31) + (1 : Int32)))) else none)) := by exact (hs_ev_go hp_M_readsWeek [4] 61 4 _ [] μ).trans rfl
noncomputable def he_M_year_27 (d : Nat) (x1 : Int32) (x2 : Int32) (μ : hs_M) : Option (Option hs_V × hs_M) := hs_ev d 208 27 [some (vR 12 0), some (vI x1), some (vI x2), none, none] [] μ
noncomputable def he_M_year_68 (d : Nat) (x4 : Int32) (μ : hs_M) : Option (Option hs_V × hs_M) := hs_ev d 208 68 [some (vR 12 0), none, none, none, some (vI x4)] [] μ
theorem hp_M_year : hs_prog 208 = (hs_k208, 5, 1) := rfl
set_option maxRecDepth 100000 in
theorem hq_M_year (d : Nat)  (μ : hs_M)  : hc_M_year (d + 1)  μ =
  hs_bI (hc_M_begins d (60 : Int32) (hs_wI μ 12 0 0 (0 : Int32))) (fun r1 μ1 => (if 0 < r1 then he_M_year_27 d r1 (1 : Int32) (hs_wI μ1 12 0 31 (0 : Int32)) else he_M_year_27 d r1 (0 : Int32) (hs_wI μ1 12 0 31 (0 : Int32)))) := by exact (hs_ev_go hp_M_year [27, 68] 93 0 _ [] μ).trans rfl
set_option maxRecDepth 100000 in
theorem hq_M_year_27 (d : Nat) (x1 : Int32) (x2 : Int32) (μ : hs_M)  : he_M_year_27 d x1 x2 μ =
  (if x2 = 0 then hs_bI (hc_M_faultOf d x1 (60 : Int32) (1 : Int32) μ) (fun r1 μ1 => (if r1 < 0 then some (some (vI r1), μ1) else he_M_year_68 d (0 : Int32) (hs_wI μ1 12 0 27 (0 : Int32)))) else hs_bV (hc_M_readsWeek d μ) (fun μ2 => hs_bI (hc_M_takes d (59 : Int32) μ2) (fun r3 μ3 => he_M_year_27 d x1 r3 μ3))) := by exact (hs_ev_go hp_M_year [27, 68] 93 27 _ [] μ).trans rfl
set_option maxRecDepth 100000 in
theorem hq_M_year_68 (d : Nat) (x4 : Int32) (μ : hs_M)  : he_M_year_68 d x4 μ =
  (if x4 < (μ.1 12 0 31) then (if hs_in x4 61 then (if (μ.1 56 0 (x4.toNatClampNeg)) < ((1 : Int32) <<< ((μ.1 12 0 3) &&& 31)) then (if x4 = 0 then hs_bV (hc_M_putsBy d μ) (fun μ1 => (if hs_in x4 61 then hs_bV (hc_M_goes d 45 (μ1.1 56 0 (x4.toNatClampNeg)) μ1) (fun μ2 => he_M_year_68 d (x4 + (1 : Int32)) μ2) else none)) else (if hs_in x4 61 then hs_bV (hc_M_goes d 45 (μ.1 56 0 (x4.toNatClampNeg)) μ) (fun μ3 => he_M_year_68 d (x4 + (1 : Int32)) μ3) else none)) else hs_bV (hc_M_enters d ((μ.1 45 0 17).toInt64) (hs_wI μ 12 0 1 (0 : Int32))) (fun μ4 => (if x4 < (μ4.1 12 0 31) then hs_bI (hc_M_flag d (1 : Int32) μ4) (fun r5 μ5 => hs_bV (hc_M_enters d (r5.toInt64) μ5) (fun μ6 => some (some (vI x4), μ6))) else hs_bI (hc_M_flag d (0 : Int32) μ4) (fun r7 μ7 => hs_bV (hc_M_enters d (r7.toInt64) μ7) (fun μ8 => some (some (vI x4), μ8)))))) else none) else hs_bV (hc_M_enters d ((μ.1 45 0 17).toInt64) (hs_wI μ 12 0 1 (0 : Int32))) (fun μ9 => (if x4 < (μ9.1 12 0 31) then hs_bI (hc_M_flag d (1 : Int32) μ9) (fun r10 μ10 => hs_bV (hc_M_enters d (r10.toInt64) μ10) (fun μ11 => some (some (vI x4), μ11))) else hs_bI (hc_M_flag d (0 : Int32) μ9) (fun r12 μ12 => hs_bV (hc_M_enters d (r12.toInt64) μ12) (fun μ13 => some (some (vI x4), μ13)))))) := by exact (hs_ev_go hp_M_year [27, 68] 93 68 _ [] μ).trans rfl
theorem hp_M_law : hs_prog 209 = (hs_k209, 2, 1) := rfl
set_option maxRecDepth 100000 in
theorem hq_M_law (d : Nat)  (μ : hs_M)  : hc_M_law (d + 1)  μ =
  (if (μ.1 45 0 17) < 0 then some (some (vI (-2 : Int32)), (hs_wI μ 12 0 0 (0 : Int32))) else (if (μ.1 45 0 20) = (12 : Int32) then some (some (vI (-3 : Int32)), (hs_wI μ 12 0 0 (0 : Int32))) else hs_bV (hc_M_putsBy d (hs_wI μ 12 0 0 (0 : Int32))) (fun μ1 => (if hs_in ((21 : Int32) + (μ1.1 45 0 20)) 117 then (if hs_in ((33 : Int32) + (μ1.1 45 0 20)) 117 then (if hs_in ((45 : Int32) + (μ1.1 45 0 20)) 117 then some (some (vI (μ1.1 45 0 20)), (hs_wI (hs_wI (hs_wI (hs_wI μ1 45 0 (((21 : Int32) + (μ1.1 45 0 20)).toNatClampNeg) (μ1.1 45 0 17)) 45 0 (((33 : Int32) + (μ1.1 45 0 20)).toNatClampNeg) ((hs_wI μ1 45 0 (((21 : Int32) + (μ1.1 45 0 20)).toNatClampNeg) (μ1.1 45 0 17)).1 45 0 19)) 45 0 (((45 : Int32) + (μ1.1 45 0 20)).toNatClampNeg) (-1 : Int32)) 45 0 20 (((hs_wI (hs_wI (hs_wI μ1 45 0 (((21 : Int32) + (μ1.1 45 0 20)).toNatClampNeg) (μ1.1 45 0 17)) 45 0 (((33 : Int32) + (μ1.1 45 0 20)).toNatClampNeg) ((hs_wI μ1 45 0 (((21 : Int32) + (μ1.1 45 0 20)).toNatClampNeg) (μ1.1 45 0 17)).1 45 0 19)) 45 0 (((45 : Int32) + (μ1.1 45 0 20)).toNatClampNeg) (-1 : Int32)).1 45 0 20) + (1 : Int32)))) else none) else none) else none)))) := by exact (hs_ev_go hp_M_law [] 65 0 _ [] μ).trans rfl
theorem hp_M_laws : hs_prog 210 = (hs_k210, 3, 1) := rfl
set_option maxRecDepth 100000 in
theorem hq_M_laws (d : Nat) (x1 : Int32) (x2 : Int32) (μ : hs_M)  : hc_M_laws (d + 1) x1 x2 μ =
  hs_bI (hc_M_in d (x1.toInt64) (0 : Int64) (((μ.1 45 0 20) - (1 : Int32)).toInt64) (hs_wI μ 12 0 0 (0 : Int32))) (fun r1 μ1 => (if r1 = 0 then hs_bI (hc_M_refuse d μ1) (fun r2 μ2 => some (some (vI r2), μ2)) else hs_bI (hc_M_in d (x2.toInt64) (0 : Int64) (3 : Int64) μ1) (fun r3 μ3 => (if r3 = 0 then hs_bI (hc_M_refuse d μ3) (fun r4 μ4 => some (some (vI r4), μ4)) else (if x2 = (0 : Int32) then (if hs_in ((21 : Int32) + x1) 117 then some (some (vI (μ3.1 45 0 (((21 : Int32) + x1).toNatClampNeg))), μ3) else none) else (if x2 = (1 : Int32) then (if hs_in ((33 : Int32) + x1) 117 then some (some (vI (μ3.1 45 0 (((33 : Int32) + x1).toNatClampNeg))), μ3) else none) else (if x2 = (2 : Int32) then (if hs_in ((45 : Int32) + x1) 117 then (if (μ3.1 45 0 (((45 : Int32) + x1).toNatClampNeg)) < 0 then hs_bI (hc_M_flag d (1 : Int32) μ3) (fun r5 μ5 => some (some (vI r5), μ5)) else hs_bI (hc_M_flag d (0 : Int32) μ3) (fun r6 μ6 => some (some (vI r6), μ6))) else none) else (if hs_in ((45 : Int32) + x1) 117 then some (some (vI (μ3.1 45 0 (((45 : Int32) + x1).toNatClampNeg))), μ3) else none)))))))) := by exact (hs_ev_go hp_M_laws [] 62 0 _ [] μ).trans rfl
theorem hp_M_eats : hs_prog 211 = (hs_k211, 3, 1) := rfl
set_option maxRecDepth 100000 in
theorem hq_M_eats (d : Nat) (x1 : Int32) (x2 : Int32) (μ : hs_M)  : hc_M_eats (d + 1) x1 x2 μ =
  hs_bV (hc_M_putsBy d μ) (fun μ1 => (if hs_in x1 117 then hs_bI (hc_Math_min d (999 : Int32) ((μ1.1 45 0 (x1.toNatClampNeg)) + x2) μ1) (fun r2 μ2 => hs_bI (hc_Math_max d (1 : Int32) r2 μ2) (fun r3 μ3 => (if hs_in x1 117 then (if hs_in x1 117 then some (some (vI ((hs_wI μ3 45 0 (x1.toNatClampNeg) r3).1 45 0 (x1.toNatClampNeg))), (hs_wI μ3 45 0 (x1.toNatClampNeg) r3)) else none) else none))) else none)) := by exact (hs_ev_go hp_M_eats [] 24 0 _ [] μ).trans rfl
theorem hp_M_feed : hs_prog 212 = (hs_k212, 3, 1) := rfl
set_option maxRecDepth 100000 in
theorem hq_M_feed (d : Nat) (x1 : Int32) (x2 : Int32) (μ : hs_M)  : hc_M_feed (d + 1) x1 x2 μ =
  hs_bI (hc_M_isAlive d x1 (hs_wI μ 12 0 0 (0 : Int32))) (fun r1 μ1 => (if r1 = 0 then some (some (vI (-1 : Int32)), μ1) else hs_bI (hc_M_in d (x2.toInt64) (1 : Int64) (99 : Int64) μ1) (fun r2 μ2 => (if r2 = 0 then some (some (vI (-1 : Int32)), μ2) else hs_bI (hc_M_eats d x1 x2 μ2) (fun r3 μ3 => some (some (vI r3), μ3)))))) := by exact (hs_ev_go hp_M_feed [] 23 0 _ [] μ).trans rfl
theorem hp_M_fast : hs_prog 213 = (hs_k213, 3, 1) := rfl
set_option maxRecDepth 100000 in
theorem hq_M_fast (d : Nat) (x1 : Int32) (x2 : Int32) (μ : hs_M)  : hc_M_fast (d + 1) x1 x2 μ =
  hs_bI (hc_M_isAlive d x1 (hs_wI μ 12 0 0 (0 : Int32))) (fun r1 μ1 => (if r1 = 0 then some (some (vI (-1 : Int32)), μ1) else hs_bI (hc_M_in d (x2.toInt64) (1 : Int64) (99 : Int64) μ1) (fun r2 μ2 => (if r2 = 0 then some (some (vI (-1 : Int32)), μ2) else hs_bI (hc_M_eats d x1 (-x2) μ2) (fun r3 μ3 => some (some (vI r3), μ3)))))) := by exact (hs_ev_go hp_M_fast [] 24 0 _ [] μ).trans rfl
end
section
/-! ===== the equations of the methods, 7 ===== -/
theorem hp_M_dies : hs_prog 214 = (hs_k214, 3, 1) := rfl
set_option maxRecDepth 100000 in
theorem hq_M_dies (d : Nat) (x1 : Int32) (μ : hs_M)  : hc_M_dies (d + 1) x1 μ =
  hs_bI (hc_M_isAlive d x1 (hs_wI μ 12 0 0 (0 : Int32))) (fun r1 μ1 => (if r1 = 0 then some (some (vI (-1 : Int32)), μ1) else hs_bV (hc_M_putsBy d μ1) (fun μ2 => (if (μ2.1 45 0 17) = x1 then hs_bI (hc_M_falls d 45 (hs_wI μ2 45 0 16 ((μ2.1 45 0 16) &&& (((1 : Int32) <<< (x1 &&& 31)) ^^^ (-1 : Int32))))) (fun r3 μ3 => some (some (vI r3), (hs_wI (hs_wI μ3 45 0 17 (-1 : Int32)) 45 0 18 (0 : Int32)))) else some (some (vI (0 : Int32)), (hs_wI μ2 45 0 16 ((μ2.1 45 0 16) &&& (((1 : Int32) <<< (x1 &&& 31)) ^^^ (-1 : Int32))))))))) := by exact (hs_ev_go hp_M_dies [] 51 0 _ [] μ).trans rfl
theorem hp_M_served : hs_prog 215 = (hs_k215, 2, 1) := rfl
set_option maxRecDepth 100000 in
theorem hq_M_served (d : Nat) (x1 : Int32) (μ : hs_M)  : hc_M_served (d + 1) x1 μ =
  hs_bI (hc_Math_max d (0 : Int32) ((μ.1 45 0 19) - (60 : Int32)) (hs_wI μ 12 0 0 (0 : Int32))) (fun r1 μ1 => hs_bI (hc_M_in d (x1.toInt64) (r1.toInt64) (((μ1.1 45 0 19) - (1 : Int32)).toInt64) μ1) (fun r2 μ2 => (if r2 = 0 then some (some (vI (-2 : Int32)), μ2) else (if hs_in ((57 : Int32) + (x1 - x1 / (60 : Int32) * (60 : Int32))) 117 then some (some (vI (μ2.1 45 0 (((57 : Int32) + (x1 - x1 / (60 : Int32) * (60 : Int32))).toNatClampNeg))), μ2) else none)))) := by exact (hs_ev_go hp_M_served [] 37 0 _ [] μ).trans rfl
noncomputable def he_M_starts_13 (d : Nat) (x1 : Int32) (μ : hs_M) : Option (Option hs_V × hs_M) := hs_ev d 216 13 [some (vR 12 0), some (vI x1)] [] μ
theorem hp_M_starts : hs_prog 216 = (hs_k216, 2, 0) := rfl
set_option maxRecDepth 100000 in
theorem hq_M_starts (d : Nat)  (μ : hs_M)  : hc_M_starts (d + 1)  μ =
  hs_bV (hc_M_puts d 46 μ) (fun μ1 => he_M_starts_13 d (0 : Int32) μ1) := by exact (hs_ev_go hp_M_starts [13] 21 0 _ [] μ).trans rfl
set_option maxRecDepth 100000 in
theorem hq_M_starts_13 (d : Nat) (x1 : Int32) (μ : hs_M)  : he_M_starts_13 d x1 μ =
  (if x1 < (8 : Int32) then (if hs_in x1 8 then he_M_starts_13 d (x1 + (1 : Int32)) (hs_wI μ 57 0 (x1.toNatClampNeg) (0 : Int32)) else none) else some (none, μ)) := by exact (hs_ev_go hp_M_starts [13] 21 13 _ [] μ).trans rfl
theorem hp_M_goesNext : hs_prog 217 = (hs_k217, 2, 0) := rfl
set_option maxRecDepth 100000 in
theorem hq_M_goesNext (d : Nat) (x1 : Int32) (μ : hs_M)  : hc_M_goesNext (d + 1) x1 μ =
  hs_bV (hc_M_goes d 46 x1 μ) (fun μ1 => (if (μ1.1 46 0 17) < 0 then some (none, μ1) else (if hs_in (μ1.1 46 0 17) 8 then (if hs_in (μ1.1 46 0 17) 8 then some (none, (hs_wI μ1 57 0 ((μ1.1 46 0 17).toNatClampNeg) ((μ1.1 57 0 ((μ1.1 46 0 17).toNatClampNeg)) + (1 : Int32)))) else none) else none))) := by exact (hs_ev_go hp_M_goesNext [] 25 0 _ [] μ).trans rfl
noncomputable def he_M_goesBy_2 (d : Nat) (x1 : Int32) (x2 : Int32) (x3 : Int32) (μ : hs_M) : Option (Option hs_V × hs_M) := hs_ev d 218 2 [some (vR 12 0), some (vI x1), some (vI x2), some (vI x3)] [] μ
theorem hp_M_goesBy : hs_prog 218 = (hs_k218, 4, 0) := rfl
set_option maxRecDepth 100000 in
theorem hq_M_goesBy (d : Nat) (x1 : Int32) (x2 : Int32) (μ : hs_M)  : hc_M_goesBy (d + 1) x1 x2 μ =
  he_M_goesBy_2 d x1 x2 (0 : Int32) μ := by exact (hs_ev_go hp_M_goesBy [2] 21 0 _ [] μ).trans rfl
set_option maxRecDepth 100000 in
theorem hq_M_goesBy_2 (d : Nat) (x1 : Int32) (x2 : Int32) (x3 : Int32) (μ : hs_M)  : he_M_goesBy_2 d x1 x2 x3 μ =
  (if x3 < x1 then hs_bI (hc_M_willing d 46 μ) (fun r1 μ1 => hs_bV (hc_M_goesNext d (r1 &&& (x2 ^^^ (-1 : Int32))) μ1) (fun μ2 => he_M_goesBy_2 d x1 x2 (x3 + (1 : Int32)) μ2)) else some (none, μ)) := by exact (hs_ev_go hp_M_goesBy [2] 21 2 _ [] μ).trans rfl
theorem hp_M_areWeeks : hs_prog 219 = (hs_k219, 1, 3) := rfl
set_option maxRecDepth 100000 in
theorem hq_M_areWeeks (d : Nat) (x0 : Int32) (μ : hs_M)  : hc_M_areWeeks (d + 1) x0 μ =
  hs_bI (hc_M_in d (x0.toInt64) (0 : Int64) (99 : Int64) μ) (fun r1 μ1 => hs_rz r1 μ1) := by exact (hs_ev_go hp_M_areWeeks [] 9 0 _ [] μ).trans rfl
theorem hp_M_later : hs_prog 220 = (hs_k220, 3, 1) := rfl
set_option maxRecDepth 100000 in
theorem hq_M_later (d : Nat) (x1 : Int32) (x2 : Int32) (μ : hs_M)  : hc_M_later (d + 1) x1 x2 μ =
  hs_bI (hc_M_isAlive d x1 (hs_wI μ 12 0 0 (0 : Int32))) (fun r1 μ1 => (if r1 = 0 then some (some (vI (-1 : Int32)), μ1) else hs_bI (hc_M_areWeeks d x2 μ1) (fun r2 μ2 => (if r2 = 0 then some (some (vI (-1 : Int32)), μ2) else hs_bV (hc_M_starts d μ2) (fun μ3 => hs_bV (hc_M_goesBy d x2 (0 : Int32) μ3) (fun μ4 => (if hs_in x1 117 then some (some (vI (μ4.1 46 0 (x1.toNatClampNeg))), μ4) else none))))))) := by exact (hs_ev_go hp_M_later [] 26 0 _ [] μ).trans rfl
noncomputable def he_M_then_32 (d : Nat) (x2 : Int32) (μ : hs_M) : Option (Option hs_V × hs_M) := hs_ev d 221 32 [some (vR 12 0), none, some (vI x2)] [] μ
theorem hp_M_then : hs_prog 221 = (hs_k221, 3, 1) := rfl
set_option maxRecDepth 100000 in
theorem hq_M_then (d : Nat) (x1 : Int32) (μ : hs_M)  : hc_M_then (d + 1) x1 μ =
  hs_bI (hc_M_areWeeks d x1 (hs_wI μ 12 0 0 (0 : Int32))) (fun r1 μ1 => (if r1 = 0 then some (some (vI (-2 : Int32)), μ1) else hs_bV (hc_M_starts d μ1) (fun μ2 => hs_bV (hc_M_goesBy d x1 (0 : Int32) μ2) (fun μ3 => he_M_then_32 d (0 : Int32) (hs_wI μ3 12 0 1 (0 : Int32)))))) := by exact (hs_ev_go hp_M_then [32] 40 0 _ [] μ).trans rfl
set_option maxRecDepth 100000 in
theorem hq_M_then_32 (d : Nat) (x2 : Int32) (μ : hs_M)  : he_M_then_32 d x2 μ =
  (if x2 < (μ.1 12 0 3) then (if hs_in x2 8 then hs_bV (hc_M_enters d ((μ.1 57 0 (x2.toNatClampNeg)).toInt64) μ) (fun μ1 => he_M_then_32 d (x2 + (1 : Int32)) μ1) else none) else some (some (vI (μ.1 46 0 17)), μ)) := by exact (hs_ev_go hp_M_then [32] 40 32 _ [] μ).trans rfl
noncomputable def he_M_soonest_35 (d : Nat) (x1 : Int32) (x2 : Int32) (μ : hs_M) : Option (Option hs_V × hs_M) := hs_ev d 222 35 [some (vR 12 0), some (vI x1), some (vI x2)] [] μ
theorem hp_M_soonest : hs_prog 222 = (hs_k222, 3, 1) := rfl
set_option maxRecDepth 100000 in
theorem hq_M_soonest (d : Nat) (x1 : Int32) (μ : hs_M)  : hc_M_soonest (d + 1) x1 μ =
  hs_bI (hc_M_isPerson d x1 (hs_wI μ 12 0 0 (0 : Int32))) (fun r1 μ1 => (if r1 = 0 then some (some (vI (-1 : Int32)), μ1) else (if (μ1.1 45 0 17) = x1 then some (some (vI (-3 : Int32)), μ1) else hs_bV (hc_M_starts d μ1) (fun μ2 => he_M_soonest_35 d x1 (1 : Int32) μ2)))) := by exact (hs_ev_go hp_M_soonest [35] 43 0 _ [] μ).trans rfl
set_option maxRecDepth 100000 in
theorem hq_M_soonest_35 (d : Nat) (x1 : Int32) (x2 : Int32) (μ : hs_M)  : he_M_soonest_35 d x1 x2 μ =
  (if (99 : Int32) < x2 then some (some (vI (-2 : Int32)), μ) else hs_bV (hc_M_goesBy d (1 : Int32) (0 : Int32) μ) (fun μ1 => (if (μ1.1 46 0 17) = x1 then some (some (vI x2), μ1) else he_M_soonest_35 d x1 (x2 + (1 : Int32)) μ1))) := by exact (hs_ev_go hp_M_soonest [35] 43 35 _ [] μ).trans rfl
noncomputable def he_M_ever_57 (d : Nat) (x1 : Int32) (x2 : Int32) (x3 : Int32) (x4 : Int32) (x5 : Int32) (μ : hs_M) : Option (Option hs_V × hs_M) := hs_ev d 223 57 [some (vR 12 0), some (vI x1), some (vI x2), some (vI x3), some (vI x4), some (vI x5), none, none, none, none] [] μ
noncomputable def he_M_ever_69 (d : Nat) (x1 : Int32) (x2 : Int32) (x3 : Int32) (x4 : Int32) (x5 : Int32) (x6 : Int32) (x7 : Int32) (μ : hs_M) : Option (Option hs_V × hs_M) := hs_ev d 223 69 [some (vR 12 0), some (vI x1), some (vI x2), some (vI x3), some (vI x4), some (vI x5), some (vI x6), some (vI x7), none, none] [] μ
noncomputable def he_M_ever_89 (d : Nat) (x1 : Int32) (x2 : Int32) (x3 : Int32) (x4 : Int32) (x5 : Int32) (x6 : Int32) (x7 : Int32) (x8 : Int32) (x9 : Int32) (μ : hs_M) : Option (Option hs_V × hs_M) := hs_ev d 223 89 [some (vR 12 0), some (vI x1), some (vI x2), some (vI x3), some (vI x4), some (vI x5), some (vI x6), some (vI x7), some (vI x8), some (vI x9)] [] μ
theorem hp_M_ever : hs_prog 223 = (hs_k223, 10, 1) := rfl
set_option maxRecDepth 100000 in
theorem hq_M_ever (d : Nat) (x1 : Int32) (μ : hs_M)  : hc_M_ever (d + 1) x1 μ =
  hs_bI (hc_M_in d (x1.toInt64) (0 : Int64) (12 : Int64) (hs_wI μ 12 0 0 (0 : Int32))) (fun r1 μ1 => (if r1 = 0 then some (some (vI (-1 : Int32)), μ1) else hs_bV (hc_M_starts d μ1) (fun μ2 => (if (μ2.1 45 0 17) < 0 then he_M_ever_57 d x1 (256 : Int32) (256 : Int32) (0 : Int32) (0 : Int32) μ2 else he_M_ever_57 d x1 (256 : Int32) ((1 : Int32) <<< ((μ2.1 45 0 17) &&& 31)) (0 : Int32) (0 : Int32) μ2)))) := by exact (hs_ev_go hp_M_ever [57, 69, 89] 138 0 _ [] μ).trans rfl
set_option maxRecDepth 100000 in
theorem hq_M_ever_57 (d : Nat) (x1 : Int32) (x2 : Int32) (x3 : Int32) (x4 : Int32) (x5 : Int32) (μ : hs_M)  : he_M_ever_57 d x1 x2 x3 x4 x5 μ =
  (if x5 < x1 then he_M_ever_69 d x1 x2 x3 x4 x5 x3 (0 : Int32) μ else (if x1 = 0 then hs_bV (hc_M_enters d (0 : Int64) (hs_wI μ 12 0 1 (0 : Int32))) (fun μ1 => some (some (vI x4), μ1)) else hs_bV (hc_M_enters d ((x3 &&& (x2 - (1 : Int32))).toInt64) (hs_wI μ 12 0 1 (0 : Int32))) (fun μ2 => some (some (vI x4), μ2)))) := by exact (hs_ev_go hp_M_ever [57, 69, 89] 138 57 _ [] μ).trans rfl
set_option maxRecDepth 100000 in
theorem hq_M_ever_69 (d : Nat) (x1 : Int32) (x2 : Int32) (x3 : Int32) (x4 : Int32) (x5 : Int32) (x6 : Int32) (x7 : Int32) (μ : hs_M)  : he_M_ever_69 d x1 x2 x3 x4 x5 x6 x7 μ =
  (if x7 < (μ.1 12 0 3) then hs_bI (hc_M_has d x3 (8 : Int32) μ) (fun r1 μ1 => he_M_ever_89 d x1 x2 x3 x4 x5 x6 x7 r1 (0 : Int32) μ1) else hs_bV (hc_M_goes d 46 (0 : Int32) μ) (fun μ2 => he_M_ever_57 d x1 x2 x6 (x4 ||| (x6 &&& (x2 - (1 : Int32)))) (x5 + (1 : Int32)) μ2)) := by exact (hs_ev_go hp_M_ever [57, 69, 89] 138 69 _ [] μ).trans rfl
set_option maxRecDepth 100000 in
theorem hq_M_ever_89 (d : Nat) (x1 : Int32) (x2 : Int32) (x3 : Int32) (x4 : Int32) (x5 : Int32) (x6 : Int32) (x7 : Int32) (x8 : Int32) (x9 : Int32) (μ : hs_M)  : he_M_ever_89 d x1 x2 x3 x4 x5 x6 x7 x8 x9 μ =
  (if x9 < (μ.1 12 0 3) then (if x8 = 0 then (if x9 = x7 then he_M_ever_89 d x1 x2 x3 x4 x5 x6 x7 (0 : Int32) (x9 + (1 : Int32)) μ else hs_bI (hc_M_has d x3 x9 μ) (fun r1 μ1 => (if r1 = 0 then he_M_ever_89 d x1 x2 x3 x4 x5 x6 x7 (0 : Int32) (x9 + (1 : Int32)) μ1 else (if hs_in x7 117 then hs_bI (hc_M_shows d (μ1.1 46 0 (x7.toNatClampNeg)) μ1) (fun r2 μ2 => (if hs_in x9 117 then hs_bI (hc_M_shows d (μ2.1 46 0 (x9.toNatClampNeg)) μ2) (fun r3 μ3 => (if r3 < r2 then he_M_ever_89 d x1 x2 x3 x4 x5 x6 x7 (1 : Int32) (x9 + (1 : Int32)) μ3 else he_M_ever_89 d x1 x2 x3 x4 x5 x6 x7 (0 : Int32) (x9 + (1 : Int32)) μ3)) else none)) else none)))) else he_M_ever_89 d x1 x2 x3 x4 x5 x6 x7 (1 : Int32) (x9 + (1 : Int32)) μ) else hs_bI (hc_M_has d (μ.1 46 0 16) x7 μ) (fun r4 μ4 => (if r4 = 0 then he_M_ever_69 d x1 x2 x3 x4 x5 (x6 ||| (0 : Int32)) (x7 + (1 : Int32)) μ4 else (if x8 = 0 then he_M_ever_69 d x1 x2 x3 x4 x5 (x6 ||| (0 : Int32)) (x7 + (1 : Int32)) μ4 else he_M_ever_69 d x1 x2 x3 x4 x5 (x6 ||| ((1 : Int32) <<< (x7 &&& 31))) (x7 + (1 : Int32)) μ4)))) := by exact (hs_ev_go hp_M_ever [57, 69, 89] 138 89 _ [] μ).trans rfl
noncomputable def he_M_most_35 (d : Nat) (x1 : Int32) (x2 : Int32) (x3 : Int32) (x4 : Int32) (x5 : Int32) (μ : hs_M) : Option (Option hs_V × hs_M) := hs_ev d 224 35 [some (vR 12 0), some (vI x1), some (vI x2), some (vI x3), some (vI x4), some (vI x5), none] [] μ
noncomputable def he_M_most_50 (d : Nat) (x1 : Int32) (x2 : Int32) (x3 : Int32) (x4 : Int32) (x5 : Int32) (x6 : Int32) (μ : hs_M) : Option (Option hs_V × hs_M) := hs_ev d 224 50 [some (vR 12 0), some (vI x1), some (vI x2), some (vI x3), some (vI x4), some (vI x5), some (vI x6)] [] μ
noncomputable def he_M_most_143 (d : Nat) (x1 : Int32) (x2 : Int32) (x5 : Int32) (μ : hs_M) : Option (Option hs_V × hs_M) := hs_ev d 224 143 [some (vR 12 0), some (vI x1), some (vI x2), none, none, some (vI x5), none] [] μ
theorem hp_M_most : hs_prog 224 = (hs_k224, 7, 1) := rfl
set_option maxRecDepth 100000 in
theorem hq_M_most (d : Nat) (x1 : Int32) (x2 : Int32) (μ : hs_M)  : hc_M_most (d + 1) x1 x2 μ =
  hs_bI (hc_M_isAlive d x1 (hs_wI μ 12 0 0 (0 : Int32))) (fun r1 μ1 => (if r1 = 0 then some (some (vI (-1 : Int32)), μ1) else hs_bI (hc_M_in d (x2.toInt64) (0 : Int64) (10 : Int64) μ1) (fun r2 μ2 => (if r2 = 0 then some (some (vI (-1 : Int32)), μ2) else he_M_most_35 d x1 x2 (-1 : Int32) (0 : Int32) (0 : Int32) μ2)))) := by exact (hs_ev_go hp_M_most [35, 50, 143] 101 0 _ [] μ).trans rfl
set_option maxRecDepth 100000 in
theorem hq_M_most_35 (d : Nat) (x1 : Int32) (x2 : Int32) (x3 : Int32) (x4 : Int32) (x5 : Int32) (μ : hs_M)  : he_M_most_35 d x1 x2 x3 x4 x5 μ =
  (if x5 < ((1 : Int32) <<< (x2 &&& 31)) then hs_bV (hc_M_starts d μ) (fun μ1 => he_M_most_50 d x1 x2 x3 x4 x5 (0 : Int32) μ1) else hs_bV (hc_M_enters d (x4.toInt64) (hs_wI μ 12 0 1 (0 : Int32))) (fun μ2 => some (some (vI x3), μ2))) := by exact (hs_ev_go hp_M_most [35, 50, 143] 101 35 _ [] μ).trans rfl
set_option maxRecDepth 100000 in
theorem hq_M_most_50 (d : Nat) (x1 : Int32) (x2 : Int32) (x3 : Int32) (x4 : Int32) (x5 : Int32) (x6 : Int32) (μ : hs_M)  : he_M_most_50 d x1 x2 x3 x4 x5 x6 μ =
  (if x6 < x2 then hs_bI (hc_M_willing d 46 μ) (fun r1 μ1 => hs_bI (hc_M_has d x5 x6 μ1) (fun r2 μ2 => (if r2 = 0 then hs_bV (hc_M_goesNext d ((r1 &&& (((1 : Int32) <<< (x1 &&& 31)) ^^^ (-1 : Int32))) ||| (0 : Int32)) μ2) (fun μ3 => he_M_most_50 d x1 x2 x3 x4 x5 (x6 + (1 : Int32)) μ3) else hs_bV (hc_M_goesNext d ((r1 &&& (((1 : Int32) <<< (x1 &&& 31)) ^^^ (-1 : Int32))) ||| ((1 : Int32) <<< (x1 &&& 31))) μ2) (fun μ4 => he_M_most_50 d x1 x2 x3 x4 x5 (x6 + (1 : Int32)) μ4)))) else (if hs_in x1 8 then (if (μ.1 57 0 (x1.toNatClampNeg)) = x3 then hs_bI (hc_Int_bitCount d x5 μ) (fun r5 μ5 => hs_bI (hc_Int_bitCount d x4 μ5) (fun r6 μ6 => (if r5 < r6 then (if hs_in x1 8 then (if x3 < (μ6.1 57 0 (x1.toNatClampNeg)) then he_M_most_143 d x1 x2 x5 μ6 else he_M_most_143 d x1 x2 x5 μ6) else none) else (if hs_in x1 8 then (if x3 < (μ6.1 57 0 (x1.toNatClampNeg)) then he_M_most_143 d x1 x2 x5 μ6 else he_M_most_35 d x1 x2 x3 x4 (x5 + (1 : Int32)) μ6) else none)))) else (if hs_in x1 8 then (if x3 < (μ.1 57 0 (x1.toNatClampNeg)) then he_M_most_143 d x1 x2 x5 μ else he_M_most_35 d x1 x2 x3 x4 (x5 + (1 : Int32)) μ) else none)) else none)) := by exact (hs_ev_go hp_M_most [35, 50, 143] 101 50 _ [] μ).trans rfl
set_option maxRecDepth 100000 in
theorem hq_M_most_143 (d : Nat) (x1 : Int32) (x2 : Int32) (x5 : Int32) (μ : hs_M)  : he_M_most_143 d x1 x2 x5 μ =
  (if hs_in x1 8 then he_M_most_35 d x1 x2 (μ.1 57 0 (x1.toNatClampNeg)) x5 (x5 + (1 : Int32)) μ else none) := by exact (hs_ev_go hp_M_most [35, 50, 143] 101 143 _ [] μ).trans rfl
noncomputable def he_M_byPlans_6 (d : Nat) (x1 : Int32) (x2 : Int32) (x3 : Int32) (μ : hs_M) : Option (Option hs_V × hs_M) := hs_ev d 225 6 [some (vR 12 0), some (vI x1), some (vI x2), some (vI x3), none, none] [] μ
noncomputable def he_M_byPlans_17 (d : Nat) (x1 : Int32) (x2 : Int32) (x3 : Int32) (x4 : Int32) (x5 : Int32) (μ : hs_M) : Option (Option hs_V × hs_M) := hs_ev d 225 17 [some (vR 12 0), some (vI x1), some (vI x2), some (vI x3), some (vI x4), some (vI x5)] [] μ
theorem hp_M_byPlans : hs_prog 225 = (hs_k225, 6, 1) := rfl
set_option maxRecDepth 100000 in
theorem hq_M_byPlans (d : Nat) (x1 : Int32) (x2 : Int32) (μ : hs_M)  : hc_M_byPlans (d + 1) x1 x2 μ =
  hs_bV (hc_M_starts d μ) (fun μ1 => he_M_byPlans_6 d x1 x2 (0 : Int32) μ1) := by exact (hs_ev_go hp_M_byPlans [6, 17] 45 0 _ [] μ).trans rfl
set_option maxRecDepth 100000 in
theorem hq_M_byPlans_6 (d : Nat) (x1 : Int32) (x2 : Int32) (x3 : Int32) (μ : hs_M)  : he_M_byPlans_6 d x1 x2 x3 μ =
  (if x3 < x2 then he_M_byPlans_17 d x1 x2 x3 (0 : Int32) (0 : Int32) μ else (if hs_in x1 8 then some (some (vI (μ.1 57 0 (x1.toNatClampNeg))), μ) else none)) := by exact (hs_ev_go hp_M_byPlans [6, 17] 45 6 _ [] μ).trans rfl
set_option maxRecDepth 100000 in
theorem hq_M_byPlans_17 (d : Nat) (x1 : Int32) (x2 : Int32) (x3 : Int32) (x4 : Int32) (x5 : Int32) (μ : hs_M)  : he_M_byPlans_17 d x1 x2 x3 x4 x5 μ =
  (if x5 < (μ.1 12 0 3) then (if hs_in x5 8 then hs_bI (hc_M_has d (μ.1 58 0 (x5.toNatClampNeg)) x3 μ) (fun r1 μ1 => (if r1 = 0 then he_M_byPlans_17 d x1 x2 x3 (x4 ||| (0 : Int32)) (x5 + (1 : Int32)) μ1 else he_M_byPlans_17 d x1 x2 x3 (x4 ||| ((1 : Int32) <<< (x5 &&& 31))) (x5 + (1 : Int32)) μ1)) else none) else hs_bV (hc_M_goesNext d x4 μ) (fun μ2 => he_M_byPlans_6 d x1 x2 (x3 + (1 : Int32)) μ2)) := by exact (hs_ev_go hp_M_byPlans [6, 17] 45 17 _ [] μ).trans rfl
noncomputable def he_M_plans_21 (d : Nat) (x1 : Int32) (x2 : Int32) (x3 : Int32) (x4 : Int32) (x5 : Int32) (x6 : Int32) (μ : hs_M) : Option (Option hs_V × hs_M) := hs_ev d 226 21 [some (vR 12 0), some (vI x1), some (vI x2), some (vI x3), some (vI x4), some (vI x5), some (vI x6), none] [] μ
theorem hp_M_plans : hs_prog 226 = (hs_k226, 8, 3) := rfl
set_option maxRecDepth 100000 in
theorem hq_M_plans (d : Nat) (x1 : Int32) (x2 : Int32) (μ : hs_M)  : hc_M_plans (d + 1) x1 x2 μ =
  (if hs_in x1 8 then hs_bI (hc_M_byPlans d x1 x2 μ) (fun r1 μ1 => he_M_plans_21 d x1 x2 (μ.1 58 0 (x1.toNatClampNeg)) (μ.1 58 0 (x1.toNatClampNeg)) r1 (0 : Int32) μ1) else none) := by exact (hs_ev_go hp_M_plans [21] 57 0 _ [] μ).trans rfl
set_option maxRecDepth 100000 in
theorem hq_M_plans_21 (d : Nat) (x1 : Int32) (x2 : Int32) (x3 : Int32) (x4 : Int32) (x5 : Int32) (x6 : Int32) (μ : hs_M)  : he_M_plans_21 d x1 x2 x3 x4 x5 x6 μ =
  (if x6 < ((1 : Int32) <<< (x2 &&& 31)) then (if hs_in x1 8 then hs_bI (hc_M_byPlans d x1 x2 (hs_wI μ 58 0 (x1.toNatClampNeg) x6)) (fun r1 μ1 => (if x5 < r1 then hs_bI (hc_Math_max d x5 r1 μ1) (fun r2 μ2 => he_M_plans_21 d x1 x2 x3 x6 r2 (x6 + (1 : Int32)) μ2) else hs_bI (hc_Math_max d x5 r1 μ1) (fun r3 μ3 => he_M_plans_21 d x1 x2 x3 x4 r3 (x6 + (1 : Int32)) μ3))) else none) else (if hs_in x1 8 then (if x4 = x3 then hs_rz (0 : Int32) (hs_wI μ 58 0 (x1.toNatClampNeg) x4) else hs_rz (1 : Int32) (hs_wI μ 58 0 (x1.toNatClampNeg) x4)) else none)) := by exact (hs_ev_go hp_M_plans [21] 57 21 _ [] μ).trans rfl
noncomputable def he_M_rests_33 (d : Nat) (x1 : Int32) (x2 : Int32) (x3 : Int32) (μ : hs_M) : Option (Option hs_V × hs_M) := hs_ev d 227 33 [some (vR 12 0), some (vI x1), some (vI x2), some (vI x3), none, none] [] μ
noncomputable def he_M_rests_61 (d : Nat) (x1 : Int32) (x2 : Int32) (x3 : Int32) (x4 : Int32) (μ : hs_M) : Option (Option hs_V × hs_M) := hs_ev d 227 61 [some (vR 12 0), some (vI x1), some (vI x2), some (vI x3), some (vI x4), none] [] μ
noncomputable def he_M_rests_77 (d : Nat) (x1 : Int32) (x2 : Int32) (x3 : Int32) (x4 : Int32) (x5 : Int32) (μ : hs_M) : Option (Option hs_V × hs_M) := hs_ev d 227 77 [some (vR 12 0), some (vI x1), some (vI x2), some (vI x3), some (vI x4), some (vI x5)] [] μ
noncomputable def he_M_rests_147 (d : Nat) (x3 : Int32) (x5 : Int32) (μ : hs_M) : Option (Option hs_V × hs_M) := hs_ev d 227 147 [some (vR 12 0), none, none, some (vI x3), none, some (vI x5)] [] μ
theorem hp_M_rests : hs_prog 227 = (hs_k227, 6, 1) := rfl
set_option maxRecDepth 100000 in
theorem hq_M_rests (d : Nat) (x1 : Int32) (x2 : Int32) (μ : hs_M)  : hc_M_rests (d + 1) x1 x2 μ =
  hs_bI (hc_M_in d (x1.toInt64) (1 : Int64) (4 : Int64) (hs_wI μ 12 0 0 (0 : Int32))) (fun r1 μ1 => (if r1 = 0 then some (some (vI (-1 : Int32)), μ1) else hs_bI (hc_M_in d (x2.toInt64) (0 : Int64) (20 : Int64) μ1) (fun r2 μ2 => (if r2 = 0 then some (some (vI (-1 : Int32)), μ2) else he_M_rests_33 d x1 x2 (0 : Int32) μ2)))) := by exact (hs_ev_go hp_M_rests [33, 61, 77, 147] 97 0 _ [] μ).trans rfl
set_option maxRecDepth 100000 in
theorem hq_M_rests_33 (d : Nat) (x1 : Int32) (x2 : Int32) (x3 : Int32) (μ : hs_M)  : he_M_rests_33 d x1 x2 x3 μ =
  (if x3 < (8 : Int32) then (if hs_in x3 8 then he_M_rests_33 d x1 x2 (x3 + (1 : Int32)) (hs_wI μ 58 0 (x3.toNatClampNeg) (((1 : Int32) <<< (x1 &&& 31)) - (1 : Int32))) else none) else he_M_rests_61 d x1 x2 (0 : Int32) (0 : Int32) μ) := by exact (hs_ev_go hp_M_rests [33, 61, 77, 147] 97 33 _ [] μ).trans rfl
set_option maxRecDepth 100000 in
theorem hq_M_rests_61 (d : Nat) (x1 : Int32) (x2 : Int32) (x3 : Int32) (x4 : Int32) (μ : hs_M)  : he_M_rests_61 d x1 x2 x3 x4 μ =
  (if x3 < x2 then (if x4 = 0 then he_M_rests_77 d x1 x2 x3 (1 : Int32) (0 : Int32) μ else hs_bI (hc_M_flag d x4 (hs_wI μ 12 0 1 (0 : Int32))) (fun r1 μ1 => hs_bV (hc_M_enters d (r1.toInt64) μ1) (fun μ2 => he_M_rests_147 d x3 (0 : Int32) μ2))) else hs_bI (hc_M_flag d x4 (hs_wI μ 12 0 1 (0 : Int32))) (fun r3 μ3 => hs_bV (hc_M_enters d (r3.toInt64) μ3) (fun μ4 => he_M_rests_147 d x3 (0 : Int32) μ4))) := by exact (hs_ev_go hp_M_rests [33, 61, 77, 147] 97 61 _ [] μ).trans rfl
set_option maxRecDepth 100000 in
theorem hq_M_rests_77 (d : Nat) (x1 : Int32) (x2 : Int32) (x3 : Int32) (x4 : Int32) (x5 : Int32) (μ : hs_M)  : he_M_rests_77 d x1 x2 x3 x4 x5 μ =
  (if x5 < (μ.1 12 0 3) then hs_bI (hc_M_isAlive d x5 μ) (fun r1 μ1 => (if r1 = 0 then (if x4 = 0 then he_M_rests_77 d x1 x2 x3 (0 : Int32) (x5 + (1 : Int32)) μ1 else he_M_rests_77 d x1 x2 x3 (1 : Int32) (x5 + (1 : Int32)) μ1) else hs_bI (hc_M_plans d x5 x1 μ1) (fun r2 μ2 => (if r2 = 0 then (if x4 = 0 then he_M_rests_77 d x1 x2 x3 (0 : Int32) (x5 + (1 : Int32)) μ2 else he_M_rests_77 d x1 x2 x3 (1 : Int32) (x5 + (1 : Int32)) μ2) else he_M_rests_77 d x1 x2 x3 (0 : Int32) (x5 + (1 : Int32)) μ2)))) else he_M_rests_61 d x1 x2 (x3 + (1 : Int32)) x4 μ) := by exact (hs_ev_go hp_M_rests [33, 61, 77, 147] 97 77 _ [] μ).trans rfl
set_option maxRecDepth 100000 in
theorem hq_M_rests_147 (d : Nat) (x3 : Int32) (x5 : Int32) (μ : hs_M)  : he_M_rests_147 d x3 x5 μ =
  (if x5 < (μ.1 12 0 3) then (if hs_in x5 8 then hs_bV (hc_M_enters d ((μ.1 58 0 (x5.toNatClampNeg)).toInt64) μ) (fun μ1 => he_M_rests_147 d x3 (x5 + (1 : Int32)) μ1) else none) else some (some (vI x3), μ)) := by exact (hs_ev_go hp_M_rests [33, 61, 77, 147] 97 147 _ [] μ).trans rfl
noncomputable def he_M_servedBy_4 (d : Nat) (x1 : Int32) (x2 : Int32) (x3 : Int32) (μ : hs_M) : Option (Option hs_V × hs_M) := hs_ev d 228 4 [some (vR 12 0), some (vI x1), some (vI x2), some (vI x3)] [] μ
theorem hp_M_servedBy : hs_prog 228 = (hs_k228, 4, 1) := rfl
set_option maxRecDepth 100000 in
theorem hq_M_servedBy (d : Nat) (x1 : Int32) (μ : hs_M)  : hc_M_servedBy (d + 1) x1 μ =
  he_M_servedBy_4 d x1 (0 : Int32) (0 : Int32) μ := by exact (hs_ev_go hp_M_servedBy [4] 30 0 _ [] μ).trans rfl
set_option maxRecDepth 100000 in
theorem hq_M_servedBy_4 (d : Nat) (x1 : Int32) (x2 : Int32) (x3 : Int32) (μ : hs_M)  : he_M_servedBy_4 d x1 x2 x3 μ =
  (if x3 < (μ.1 12 0 3) then (if hs_in x3 8 then (if (μ.1 41 0 (x3.toNatClampNeg)) = x1 then (if hs_in x3 8 then he_M_servedBy_4 d x1 (x2 + (μ.1 57 0 (x3.toNatClampNeg))) (x3 + (1 : Int32)) μ else none) else he_M_servedBy_4 d x1 (x2 + (0 : Int32)) (x3 + (1 : Int32)) μ) else none) else some (some (vI x2), μ)) := by exact (hs_ev_go hp_M_servedBy [4] 30 4 _ [] μ).trans rfl
noncomputable def he_M_party_40 (d : Nat) (x2 : Int32) (x3 : Int32) (x4 : Int32) (x5 : Int32) (μ : hs_M) : Option (Option hs_V × hs_M) := hs_ev d 229 40 [some (vR 12 0), none, some (vI x2), some (vI x3), some (vI x4), some (vI x5), none] [] μ
noncomputable def he_M_party_90 (d : Nat) (x2 : Int32) (x4 : Int32) (x5 : Int32) (μ : hs_M) : Option (Option hs_V × hs_M) := hs_ev d 229 90 [some (vR 12 0), none, some (vI x2), none, some (vI x4), some (vI x5), none] [] μ
theorem hp_M_party : hs_prog 229 = (hs_k229, 7, 1) := rfl
set_option maxRecDepth 100000 in
theorem hq_M_party (d : Nat) (x1 : Int32) (μ : hs_M)  : hc_M_party (d + 1) x1 μ =
  hs_bI (hc_M_areWeeks d x1 (hs_wI μ 12 0 0 (0 : Int32))) (fun r1 μ1 => (if r1 = 0 then some (some (vI (-2 : Int32)), μ1) else hs_bV (hc_M_starts d μ1) (fun μ2 => hs_bV (hc_M_goesBy d x1 (0 : Int32) μ2) (fun μ3 => he_M_party_40 d (-1 : Int32) (0 : Int32) (0 : Int32) (0 : Int32) (hs_wI μ3 12 0 1 (0 : Int32)))))) := by exact (hs_ev_go hp_M_party [40, 90] 79 0 _ [] μ).trans rfl
set_option maxRecDepth 100000 in
theorem hq_M_party_40 (d : Nat) (x2 : Int32) (x3 : Int32) (x4 : Int32) (x5 : Int32) (μ : hs_M)  : he_M_party_40 d x2 x3 x4 x5 μ =
  (if x5 < (4 : Int32) then hs_bI (hc_M_servedBy d x5 μ) (fun r1 μ1 => hs_bV (hc_M_enters d (r1.toInt64) μ1) (fun μ2 => (if x3 < r1 then hs_bI (hc_Math_max d x3 r1 μ2) (fun r3 μ3 => he_M_party_40 d x5 r3 x4 (x5 + (1 : Int32)) μ3) else hs_bI (hc_Math_max d x3 r1 μ2) (fun r4 μ4 => he_M_party_40 d x2 r4 x4 (x5 + (1 : Int32)) μ4)))) else he_M_party_90 d x2 x4 (0 : Int32) μ) := by exact (hs_ev_go hp_M_party [40, 90] 79 40 _ [] μ).trans rfl
set_option maxRecDepth 100000 in
theorem hq_M_party_90 (d : Nat) (x2 : Int32) (x4 : Int32) (x5 : Int32) (μ : hs_M)  : he_M_party_90 d x2 x4 x5 μ =
  (if x5 < (μ.1 12 0 3) then (if hs_in x5 8 then (if 0 < (μ.1 57 0 (x5.toNatClampNeg)) then he_M_party_90 d x2 (x4 ||| ((1 : Int32) <<< (x5 &&& 31))) (x5 + (1 : Int32)) μ else he_M_party_90 d x2 (x4 ||| (0 : Int32)) (x5 + (1 : Int32)) μ) else none) else hs_bV (hc_M_enters d (x4.toInt64) μ) (fun μ1 => some (some (vI x2), μ1))) := by exact (hs_ev_go hp_M_party [40, 90] 79 90 _ [] μ).trans rfl
noncomputable def he_M_byTurns_48 (d : Nat) (x1 : Int32) (x2 : Int32) (x3 : Int32) (x4 : Int32) (x5 : Int32) (μ : hs_M) : Option (Option hs_V × hs_M) := hs_ev d 230 48 [some (vR 12 0), some (vI x1), some (vI x2), some (vI x3), some (vI x4), some (vI x5), none, none] [] μ
noncomputable def he_M_byTurns_112 (d : Nat) (x1 : Int32) (x2 : Int32) (x3 : Int32) (x4 : Int32) (x5 : Int32) (x6 : Int32) (μ : hs_M) : Option (Option hs_V × hs_M) := hs_ev d 230 112 [some (vR 12 0), some (vI x1), some (vI x2), some (vI x3), some (vI x4), some (vI x5), some (vI x6), none] [] μ
noncomputable def he_M_byTurns_147 (d : Nat) (x1 : Int32) (x2 : Int32) (x3 : Int32) (x4 : Int32) (x5 : Int32) (x6 : Int32) (x7 : Int32) (μ : hs_M) : Option (Option hs_V × hs_M) := hs_ev d 230 147 [some (vR 12 0), some (vI x1), some (vI x2), some (vI x3), some (vI x4), some (vI x5), some (vI x6), some (vI x7)] [] μ
theorem hp_M_byTurns : hs_prog 230 = (hs_k230, 8, 1) := rfl
set_option maxRecDepth 100000 in
theorem hq_M_byTurns (d : Nat) (x1 : Int32) (x2 : Int32) (μ : hs_M)  : hc_M_byTurns (d + 1) x1 x2 μ =
  hs_bI (hc_M_in d (x1.toInt64) (0 : Int64) (3 : Int64) (hs_wI μ 12 0 0 (0 : Int32))) (fun r1 μ1 => (if r1 = 0 then some (some (vI (-1 : Int32)), μ1) else hs_bI (hc_M_areWeeks d x2 μ1) (fun r2 μ2 => (if r2 = 0 then some (some (vI (-1 : Int32)), μ2) else hs_bV (hc_M_starts d μ2) (fun μ3 => hs_bV (hc_M_goesBy d x2 (0 : Int32) μ3) (fun μ4 => hs_bI (hc_M_servedBy d x1 μ4) (fun r5 μ5 => he_M_byTurns_48 d x1 x2 r5 (0 : Int32) (0 : Int32) μ5))))))) := by exact (hs_ev_go hp_M_byTurns [48, 112, 147] 121 0 _ [] μ).trans rfl
set_option maxRecDepth 100000 in
theorem hq_M_byTurns_48 (d : Nat) (x1 : Int32) (x2 : Int32) (x3 : Int32) (x4 : Int32) (x5 : Int32) (μ : hs_M)  : he_M_byTurns_48 d x1 x2 x3 x4 x5 μ =
  (if x5 < (μ.1 12 0 3) then (if hs_in x5 8 then (if (μ.1 41 0 (x5.toNatClampNeg)) = x1 then hs_bI (hc_M_has d (μ.1 45 0 16) x5 μ) (fun r1 μ1 => (if r1 = 0 then he_M_byTurns_48 d x1 x2 x3 (x4 ||| (0 : Int32)) (x5 + (1 : Int32)) μ1 else he_M_byTurns_48 d x1 x2 x3 (x4 ||| ((1 : Int32) <<< (x5 &&& 31))) (x5 + (1 : Int32)) μ1)) else he_M_byTurns_48 d x1 x2 x3 (x4 ||| (0 : Int32)) (x5 + (1 : Int32)) μ) else none) else hs_bV (hc_M_starts d μ) (fun μ2 => he_M_byTurns_112 d x1 x2 x3 x4 (-1 : Int32) (0 : Int32) μ2)) := by exact (hs_ev_go hp_M_byTurns [48, 112, 147] 121 48 _ [] μ).trans rfl
set_option maxRecDepth 100000 in
theorem hq_M_byTurns_112 (d : Nat) (x1 : Int32) (x2 : Int32) (x3 : Int32) (x4 : Int32) (x5 : Int32) (x6 : Int32) (μ : hs_M)  : he_M_byTurns_112 d x1 x2 x3 x4 x5 x6 μ =
  (if x6 < x2 then hs_bI (hc_M_willing d 46 μ) (fun r1 μ1 => (if x4 = 0 then hs_bV (hc_M_goesNext d (r1 &&& (x4 ^^^ (-1 : Int32))) μ1) (fun μ2 => he_M_byTurns_112 d x1 x2 x3 x4 x5 (x6 + (1 : Int32)) μ2) else he_M_byTurns_147 d x1 x2 x3 x4 ((x5 + (1 : Int32)) - (x5 + (1 : Int32)) / (8 : Int32) * (8 : Int32)) x6 (r1 &&& (x4 ^^^ (-1 : Int32))) μ1)) else hs_bI (hc_M_servedBy d x1 (hs_wI μ 12 0 1 (0 : Int32))) (fun r3 μ3 => hs_bV (hc_M_enters d ((r3 - x3).toInt64) μ3) (fun μ4 => hs_bI (hc_M_servedBy d x1 μ4) (fun r5 μ5 => some (some (vI r5), μ5))))) := by exact (hs_ev_go hp_M_byTurns [48, 112, 147] 121 112 _ [] μ).trans rfl
set_option maxRecDepth 100000 in
theorem hq_M_byTurns_147 (d : Nat) (x1 : Int32) (x2 : Int32) (x3 : Int32) (x4 : Int32) (x5 : Int32) (x6 : Int32) (x7 : Int32) (μ : hs_M)  : he_M_byTurns_147 d x1 x2 x3 x4 x5 x6 x7 μ =
  hs_bI (hc_M_has d x4 x5 μ) (fun r1 μ1 => (if r1 = 0 then he_M_byTurns_147 d x1 x2 x3 x4 ((x5 + (1 : Int32)) - (x5 + (1 : Int32)) / (8 : Int32) * (8 : Int32)) x6 x7 μ1 else hs_bV (hc_M_goesNext d (x7 ||| ((1 : Int32) <<< (x5 &&& 31))) μ1) (fun μ2 => he_M_byTurns_112 d x1 x2 x3 x4 x5 (x6 + (1 : Int32)) μ2))) := by exact (hs_ev_go hp_M_byTurns [48, 112, 147] 121 147 _ [] μ).trans rfl
theorem hp_M_fool : hs_prog 231 = (hs_k231, 5, 1) := rfl
set_option maxRecDepth 100000 in
theorem hq_M_fool (d : Nat) (x1 : Int32) (x2 : Int32) (μ : hs_M)  : hc_M_fool (d + 1) x1 x2 μ =
  hs_bI (hc_M_isPerson d x1 (hs_wI μ 12 0 0 (0 : Int32))) (fun r1 μ1 => (if r1 = 0 then hs_bI (hc_M_refuse d μ1) (fun r2 μ2 => some (some (vI r2), μ2)) else hs_bI (hc_M_areWeeks d x2 μ1) (fun r3 μ3 => (if r3 = 0 then hs_bI (hc_M_refuse d μ3) (fun r4 μ4 => some (some (vI r4), μ4)) else hs_bV (hc_M_starts d μ3) (fun μ5 => hs_bV (hc_M_goesBy d x2 (0 : Int32) μ5) (fun μ6 => (if hs_in x1 8 then hs_bI (hc_M_servedBy d (μ6.1 41 0 (x1.toNatClampNeg)) μ6) (fun r7 μ7 => hs_bV (hc_M_starts d μ7) (fun μ8 => hs_bV (hc_M_goesBy d x2 ((1 : Int32) <<< (x1 &&& 31)) μ8) (fun μ9 => (if hs_in x1 8 then hs_bI (hc_M_servedBy d (μ9.1 41 0 (x1.toNatClampNeg)) μ9) (fun r10 μ10 => hs_bV (hc_M_enters d (r7.toInt64) (hs_wI μ10 12 0 1 (0 : Int32))) (fun μ11 => hs_bV (hc_M_enters d (r10.toInt64) μ11) (fun μ12 => some (some (vI (r7 - r10)), μ12)))) else none)))) else none))))))) := by exact (hs_ev_go hp_M_fool [] 59 0 _ [] μ).trans rfl
theorem hp_M_areSixty : hs_prog 232 = (hs_k232, 1, 3) := rfl
set_option maxRecDepth 100000 in
theorem hq_M_areSixty (d : Nat) (x0 : Int32) (μ : hs_M)  : hc_M_areSixty (d + 1) x0 μ =
  hs_bI (hc_M_in d (x0.toInt64) (0 : Int64) (60 : Int64) μ) (fun r1 μ1 => hs_rz r1 μ1) := by exact (hs_ev_go hp_M_areSixty [] 9 0 _ [] μ).trans rfl
theorem hp_M_startsWith : hs_prog 233 = (hs_k233, 3, 0) := rfl
set_option maxRecDepth 100000 in
theorem hq_M_startsWith (d : Nat) (x1 : Int32) (x2 : Int32) (μ : hs_M)  : hc_M_startsWith (d + 1) x1 x2 μ =
  hs_bV (hc_M_starts d μ) (fun μ1 => (if hs_in x1 117 then hs_bI (hc_Math_min d (999 : Int32) ((μ1.1 46 0 (x1.toNatClampNeg)) + x2) μ1) (fun r2 μ2 => hs_bI (hc_Math_max d (1 : Int32) r2 μ2) (fun r3 μ3 => (if hs_in x1 117 then some (none, (hs_wI μ3 46 0 (x1.toNatClampNeg) r3)) else none))) else none)) := by exact (hs_ev_go hp_M_startsWith [] 20 0 _ [] μ).trans rfl
noncomputable def he_M_hold_31 (d : Nat) (x1 : Int32) (x2 : Int32) (x3 : Int32) (μ : hs_M) : Option (Option hs_V × hs_M) := hs_ev d 234 31 [some (vR 12 0), some (vI x1), some (vI x2), some (vI x3)] [] μ
theorem hp_M_hold : hs_prog 234 = (hs_k234, 4, 1) := rfl
set_option maxRecDepth 100000 in
theorem hq_M_hold (d : Nat) (x1 : Int32) (μ : hs_M)  : hc_M_hold (d + 1) x1 μ =
  hs_bI (hc_M_areSixty d x1 (hs_wI μ 12 0 0 (0 : Int32))) (fun r1 μ1 => (if r1 = 0 then some (some (vI (-1 : Int32)), μ1) else (if (μ1.1 45 0 17) < 0 then some (some (vI (-3 : Int32)), μ1) else he_M_hold_31 d x1 (μ1.1 45 0 17) (0 : Int32) μ1))) := by exact (hs_ev_go hp_M_hold [31] 45 0 _ [] μ).trans rfl
set_option maxRecDepth 100000 in
theorem hq_M_hold_31 (d : Nat) (x1 : Int32) (x2 : Int32) (x3 : Int32) (μ : hs_M)  : he_M_hold_31 d x1 x2 x3 μ =
  (if (999 : Int32) < x3 then some (some (vI (-2 : Int32)), μ) else hs_bV (hc_M_startsWith d x2 x3 μ) (fun μ1 => hs_bV (hc_M_goesBy d x1 (0 : Int32) μ1) (fun μ2 => (if hs_in x2 8 then (if (μ2.1 57 0 (x2.toNatClampNeg)) = x1 then some (some (vI x3), μ2) else he_M_hold_31 d x1 x2 (x3 + (1 : Int32)) μ2) else none)))) := by exact (hs_ev_go hp_M_hold [31] 45 31 _ [] μ).trans rfl
noncomputable def he_M_bribe_29 (d : Nat) (x1 : Int32) (x2 : Int32) (x3 : Int32) (μ : hs_M) : Option (Option hs_V × hs_M) := hs_ev d 235 29 [some (vR 12 0), some (vI x1), some (vI x2), some (vI x3)] [] μ
theorem hp_M_bribe : hs_prog 235 = (hs_k235, 4, 1) := rfl
set_option maxRecDepth 100000 in
theorem hq_M_bribe (d : Nat) (x1 : Int32) (x2 : Int32) (μ : hs_M)  : hc_M_bribe (d + 1) x1 x2 μ =
  hs_bI (hc_M_isAlive d x1 (hs_wI μ 12 0 0 (0 : Int32))) (fun r1 μ1 => (if r1 = 0 then some (some (vI (-1 : Int32)), μ1) else hs_bI (hc_M_in d (x2.toInt64) (1 : Int64) (60 : Int64) μ1) (fun r2 μ2 => (if r2 = 0 then some (some (vI (-1 : Int32)), μ2) else he_M_bribe_29 d x1 x2 (0 : Int32) μ2)))) := by exact (hs_ev_go hp_M_bribe [29] 53 0 _ [] μ).trans rfl
set_option maxRecDepth 100000 in
theorem hq_M_bribe_29 (d : Nat) (x1 : Int32) (x2 : Int32) (x3 : Int32) (μ : hs_M)  : he_M_bribe_29 d x1 x2 x3 μ =
  (if (999 : Int32) < x3 then some (some (vI (-2 : Int32)), μ) else hs_bV (hc_M_startsWith d x1 x3 μ) (fun μ1 => hs_bV (hc_M_goesBy d x2 (0 : Int32) μ1) (fun μ2 => (if (μ2.1 46 0 17) = x1 then (if hs_in x1 8 then hs_bV (hc_M_enters d ((μ2.1 57 0 (x1.toNatClampNeg)).toInt64) (hs_wI μ2 12 0 1 (0 : Int32))) (fun μ3 => some (some (vI x3), μ3)) else none) else he_M_bribe_29 d x1 x2 (x3 + (1 : Int32)) μ2)))) := by exact (hs_ev_go hp_M_bribe [29] 53 29 _ [] μ).trans rfl
noncomputable def he_M_starve_24 (d : Nat) (x1 : Int32) (x2 : Int32) (x3 : Int32) (μ : hs_M) : Option (Option hs_V × hs_M) := hs_ev d 236 24 [some (vR 12 0), some (vI x1), some (vI x2), some (vI x3)] [] μ
theorem hp_M_starve : hs_prog 236 = (hs_k236, 4, 1) := rfl
set_option maxRecDepth 100000 in
theorem hq_M_starve (d : Nat) (x1 : Int32) (x2 : Int32) (μ : hs_M)  : hc_M_starve (d + 1) x1 x2 μ =
  hs_bI (hc_M_isAlive d x1 (hs_wI μ 12 0 0 (0 : Int32))) (fun r1 μ1 => (if r1 = 0 then some (some (vI (-1 : Int32)), μ1) else hs_bI (hc_M_areSixty d x2 μ1) (fun r2 μ2 => (if r2 = 0 then some (some (vI (-1 : Int32)), μ2) else he_M_starve_24 d x1 x2 (0 : Int32) μ2)))) := by exact (hs_ev_go hp_M_starve [24] 40 0 _ [] μ).trans rfl
set_option maxRecDepth 100000 in
theorem hq_M_starve_24 (d : Nat) (x1 : Int32) (x2 : Int32) (x3 : Int32) (μ : hs_M)  : he_M_starve_24 d x1 x2 x3 μ =
  (if (999 : Int32) < x3 then some (some (vI (-2 : Int32)), μ) else hs_bV (hc_M_startsWith d x1 (-x3) μ) (fun μ1 => hs_bV (hc_M_goesBy d x2 (0 : Int32) μ1) (fun μ2 => (if hs_in x1 8 then (if (μ2.1 57 0 (x1.toNatClampNeg)) = 0 then some (some (vI x3), μ2) else he_M_starve_24 d x1 x2 (x3 + (1 : Int32)) μ2) else none)))) := by exact (hs_ev_go hp_M_starve [24] 40 24 _ [] μ).trans rfl
noncomputable def he_M_cheapest_14 (d : Nat) (x1 : Int32) (x2 : Int32) (x3 : Int32) (μ : hs_M) : Option (Option hs_V × hs_M) := hs_ev d 237 14 [some (vR 12 0), some (vI x1), some (vI x2), some (vI x3), none] [] μ
noncomputable def he_M_cheapest_36 (d : Nat) (x1 : Int32) (x2 : Int32) (x3 : Int32) (x4 : Int32) (μ : hs_M) : Option (Option hs_V × hs_M) := hs_ev d 237 36 [some (vR 12 0), some (vI x1), some (vI x2), some (vI x3), some (vI x4)] [] μ
theorem hp_M_cheapest : hs_prog 237 = (hs_k237, 5, 1) := rfl
set_option maxRecDepth 100000 in
theorem hq_M_cheapest (d : Nat)  (μ : hs_M)  : hc_M_cheapest (d + 1)  μ =
  he_M_cheapest_14 d (-2 : Int32) (1000 : Int32) (0 : Int32) (hs_wI μ 12 0 0 (0 : Int32)) := by exact (hs_ev_go hp_M_cheapest [14, 36] 67 0 _ [] μ).trans rfl
set_option maxRecDepth 100000 in
theorem hq_M_cheapest_14 (d : Nat) (x1 : Int32) (x2 : Int32) (x3 : Int32) (μ : hs_M)  : he_M_cheapest_14 d x1 x2 x3 μ =
  (if x3 < (μ.1 12 0 3) then hs_bI (hc_M_isAlive d x3 μ) (fun r1 μ1 => (if r1 = 0 then he_M_cheapest_14 d x1 x2 (x3 + (1 : Int32)) μ1 else he_M_cheapest_36 d x1 x2 x3 (0 : Int32) μ1)) else (if x1 < 0 then some (some (vI (-2 : Int32)), μ) else hs_bV (hc_M_enters d (x2.toInt64) (hs_wI μ 12 0 1 (0 : Int32))) (fun μ2 => some (some (vI x1), μ2)))) := by exact (hs_ev_go hp_M_cheapest [14, 36] 67 14 _ [] μ).trans rfl
set_option maxRecDepth 100000 in
theorem hq_M_cheapest_36 (d : Nat) (x1 : Int32) (x2 : Int32) (x3 : Int32) (x4 : Int32) (μ : hs_M)  : he_M_cheapest_36 d x1 x2 x3 x4 μ =
  (if x4 < x2 then hs_bV (hc_M_startsWith d x3 x4 μ) (fun μ1 => hs_bI (hc_M_willing d 46 μ1) (fun r2 μ2 => hs_bV (hc_M_goesNext d (r2 ||| ((1 : Int32) <<< (x3 &&& 31))) μ2) (fun μ3 => (if (μ3.1 46 0 17) = x3 then he_M_cheapest_36 d x3 x4 x3 (x4 + (1 : Int32)) μ3 else he_M_cheapest_36 d x1 x2 x3 (x4 + (1 : Int32)) μ3)))) else he_M_cheapest_14 d x1 x2 (x3 + (1 : Int32)) μ) := by exact (hs_ev_go hp_M_cheapest [14, 36] 67 36 _ [] μ).trans rfl
theorem hp_M_weighed : hs_prog 238 = (hs_k238, 3, 1) := rfl
set_option maxRecDepth 100000 in
theorem hq_M_weighed (d : Nat) (x1 : Int32) (x2 : Int32) (μ : hs_M)  : hc_M_weighed (d + 1) x1 x2 μ =
  hs_bI (hc_M_isPerson d x1 (hs_wI μ 12 0 0 (0 : Int32))) (fun r1 μ1 => (if r1 = 0 then some (some (vI (-1 : Int32)), μ1) else hs_bI (hc_M_in d (x2.toInt64) (0 : Int64) (1010 : Int64) μ1) (fun r2 μ2 => (if r2 = 0 then some (some (vI (-1 : Int32)), μ2) else (if (μ2.1 12 0 34) = (12 : Int32) then some (some (vI (-1 : Int32)), μ2) else (if hs_in (μ2.1 12 0 34) 12 then (if hs_in (μ2.1 12 0 34) 12 then some (some (vI ((μ2.1 12 0 34) + (1 : Int32))), (hs_wI (hs_wI (hs_wI μ2 59 0 ((μ2.1 12 0 34).toNatClampNeg) x1) 60 0 ((μ2.1 12 0 34).toNatClampNeg) x2) 12 0 34 ((μ2.1 12 0 34) + (1 : Int32)))) else none) else none)))))) := by exact (hs_ev_go hp_M_weighed [] 43 0 _ [] μ).trans rfl
theorem hp_M_forget : hs_prog 239 = (hs_k239, 1, 1) := rfl
set_option maxRecDepth 100000 in
theorem hq_M_forget (d : Nat)  (μ : hs_M)  : hc_M_forget (d + 1)  μ =
  (if (μ.1 12 0 34) = 0 then some (some (vI (-1 : Int32)), (hs_wI μ 12 0 0 (0 : Int32))) else some (some (vI ((μ.1 12 0 34) - (1 : Int32))), (hs_wI (hs_wI μ 12 0 0 (0 : Int32)) 12 0 34 ((μ.1 12 0 34) - (1 : Int32))))) := by exact (hs_ev_go hp_M_forget [] 20 0 _ [] μ).trans rfl
end
section
/-! ===== the equations of the methods, 8 ===== -/
noncomputable def he_M_canBe_5 (d : Nat) (x1 : Int32) (x2 : Int32) (x3 : Int32) (x4 : Int32) (μ : hs_M) : Option (Option hs_V × hs_M) := hs_ev d 240 5 [some (vR 12 0), some (vI x1), some (vI x2), some (vI x3), some (vI x4)] [] μ
theorem hp_M_canBe : hs_prog 240 = (hs_k240, 5, 3) := rfl
set_option maxRecDepth 100000 in
theorem hq_M_canBe (d : Nat) (x1 : Int32) (x2 : Int32) (μ : hs_M)  : hc_M_canBe (d + 1) x1 x2 μ =
  he_M_canBe_5 d x1 x2 (1 : Int32) (0 : Int32) μ := by exact (hs_ev_go hp_M_canBe [5] 35 0 _ [] μ).trans rfl
set_option maxRecDepth 100000 in
theorem hq_M_canBe_5 (d : Nat) (x1 : Int32) (x2 : Int32) (x3 : Int32) (x4 : Int32) (μ : hs_M)  : he_M_canBe_5 d x1 x2 x3 x4 μ =
  (if x4 < (μ.1 12 0 34) then (if x3 = 0 then he_M_canBe_5 d x1 x2 (0 : Int32) (x4 + (1 : Int32)) μ else (if hs_in x4 12 then (if (μ.1 59 0 (x4.toNatClampNeg)) = x1 then (if hs_in x4 12 then hs_bI (hc_M_shows d x2 μ) (fun r1 μ1 => (if (μ.1 60 0 (x4.toNatClampNeg)) = r1 then he_M_canBe_5 d x1 x2 (1 : Int32) (x4 + (1 : Int32)) μ1 else he_M_canBe_5 d x1 x2 (0 : Int32) (x4 + (1 : Int32)) μ1)) else none) else he_M_canBe_5 d x1 x2 (1 : Int32) (x4 + (1 : Int32)) μ) else none)) else hs_rz x3 μ) := by exact (hs_ev_go hp_M_canBe [5] 35 5 _ [] μ).trans rfl
noncomputable def he_M_weightsOf_11 (d : Nat) (x1 : Int32) (x2 : Int32) (x3 : Int32) (x4 : Int32) (x5 : Int32) (x6 : Int32) (μ : hs_M) : Option (Option hs_V × hs_M) := hs_ev d 241 11 [some (vR 12 0), some (vI x1), some (vI x2), some (vI x3), some (vI x4), some (vI x5), some (vI x6)] [] μ
theorem hp_M_weightsOf : hs_prog 241 = (hs_k241, 7, 1) := rfl
set_option maxRecDepth 100000 in
theorem hq_M_weightsOf (d : Nat) (x1 : Int32) (x2 : Int32) (μ : hs_M)  : hc_M_weightsOf (d + 1) x1 x2 μ =
  he_M_weightsOf_11 d x1 x2 (0 : Int32) (0 : Int32) (0 : Int32) (1 : Int32) μ := by exact (hs_ev_go hp_M_weightsOf [11] 39 0 _ [] μ).trans rfl
set_option maxRecDepth 100000 in
theorem hq_M_weightsOf_11 (d : Nat) (x1 : Int32) (x2 : Int32) (x3 : Int32) (x4 : Int32) (x5 : Int32) (x6 : Int32) (μ : hs_M)  : he_M_weightsOf_11 d x1 x2 x3 x4 x5 x6 μ =
  (if (999 : Int32) < x6 then (if x2 = 0 then some (some (vI x3), μ) else hs_bV (hc_M_tellsSpan d x3 x4 x5 μ) (fun μ1 => some (some (vI x3), μ1))) else hs_bI (hc_M_canBe d x1 x6 μ) (fun r2 μ2 => (if r2 = 0 then he_M_weightsOf_11 d x1 x2 x3 x4 x5 (x6 + (1 : Int32)) μ2 else (if x3 = 0 then he_M_weightsOf_11 d x1 x2 (x3 + (1 : Int32)) x6 x6 (x6 + (1 : Int32)) μ2 else he_M_weightsOf_11 d x1 x2 (x3 + (1 : Int32)) x4 x6 (x6 + (1 : Int32)) μ2)))) := by exact (hs_ev_go hp_M_weightsOf [11] 39 11 _ [] μ).trans rfl
theorem hp_M_tellsSpan : hs_prog 242 = (hs_k242, 4, 0) := rfl
set_option maxRecDepth 100000 in
theorem hq_M_tellsSpan (d : Nat) (x1 : Int32) (x2 : Int32) (x3 : Int32) (μ : hs_M)  : hc_M_tellsSpan (d + 1) x1 x2 x3 μ =
  (if 0 < x1 then hs_bV (hc_M_enters d (x2.toInt64) (hs_wI μ 12 0 1 (0 : Int32))) (fun μ1 => hs_bV (hc_M_enters d (x3.toInt64) μ1) (fun μ2 => some (none, μ2))) else some (none, (hs_wI μ 12 0 1 (0 : Int32)))) := by exact (hs_ev_go hp_M_tellsSpan [] 17 0 _ [] μ).trans rfl
noncomputable def he_M_grains_14 (d : Nat) (x1 : Int32) (x2 : Int32) (x3 : Int32) (μ : hs_M) : Option (Option hs_V × hs_M) := hs_ev d 243 14 [some (vR 12 0), some (vI x1), some (vI x2), some (vI x3), none, none] [] μ
noncomputable def he_M_grains_31 (d : Nat) (x1 : Int32) (x2 : Int32) (x3 : Int32) (x4 : Int32) (x5 : Int32) (μ : hs_M) : Option (Option hs_V × hs_M) := hs_ev d 243 31 [some (vR 12 0), some (vI x1), some (vI x2), some (vI x3), some (vI x4), some (vI x5)] [] μ
theorem hp_M_grains : hs_prog 243 = (hs_k243, 6, 1) := rfl
set_option maxRecDepth 100000 in
theorem hq_M_grains (d : Nat)  (μ : hs_M)  : hc_M_grains (d + 1)  μ =
  he_M_grains_14 d (μ.1 12 0 8) (0 : Int32) (1 : Int32) (hs_wI μ 12 0 0 (0 : Int32)) := by exact (hs_ev_go hp_M_grains [14, 31] 57 0 _ [] μ).trans rfl
set_option maxRecDepth 100000 in
theorem hq_M_grains_14 (d : Nat) (x1 : Int32) (x2 : Int32) (x3 : Int32) (μ : hs_M)  : he_M_grains_14 d x1 x2 x3 μ =
  (if (9 : Int32) < x3 then some (some (vI x2), (hs_wI μ 12 0 8 x1)) else he_M_grains_31 d x1 x2 x3 (1 : Int32) (0 : Int32) (hs_wI μ 12 0 8 x3)) := by exact (hs_ev_go hp_M_grains [14, 31] 57 14 _ [] μ).trans rfl
set_option maxRecDepth 100000 in
theorem hq_M_grains_31 (d : Nat) (x1 : Int32) (x2 : Int32) (x3 : Int32) (x4 : Int32) (x5 : Int32) (μ : hs_M)  : he_M_grains_31 d x1 x2 x3 x4 x5 μ =
  (if x5 < (μ.1 12 0 3) then (if x4 = 0 then he_M_grains_31 d x1 x2 x3 (0 : Int32) (x5 + (1 : Int32)) μ else hs_bI (hc_M_weightsOf d x5 (0 : Int32) μ) (fun r1 μ1 => (if 0 < r1 then he_M_grains_31 d x1 x2 x3 (1 : Int32) (x5 + (1 : Int32)) μ1 else he_M_grains_31 d x1 x2 x3 (0 : Int32) (x5 + (1 : Int32)) μ1))) else (if x4 = 0 then he_M_grains_14 d x1 (x2 ||| (0 : Int32)) (x3 + (1 : Int32)) μ else he_M_grains_14 d x1 (x2 ||| ((1 : Int32) <<< (x3 &&& 31))) (x3 + (1 : Int32)) μ)) := by exact (hs_ev_go hp_M_grains [14, 31] 57 31 _ [] μ).trans rfl
theorem hp_M_span : hs_prog 244 = (hs_k244, 2, 1) := rfl
set_option maxRecDepth 100000 in
theorem hq_M_span (d : Nat) (x1 : Int32) (μ : hs_M)  : hc_M_span (d + 1) x1 μ =
  hs_bI (hc_M_isPerson d x1 (hs_wI μ 12 0 0 (0 : Int32))) (fun r1 μ1 => (if r1 = 0 then some (some (vI (-1 : Int32)), μ1) else hs_bI (hc_M_weightsOf d x1 (1 : Int32) μ1) (fun r2 μ2 => some (some (vI r2), μ2)))) := by exact (hs_ev_go hp_M_span [] 17 0 _ [] μ).trans rfl
noncomputable def he_M_wrong_4 (d : Nat) (x1 : Int32) (x2 : Int32) (μ : hs_M) : Option (Option hs_V × hs_M) := hs_ev d 245 4 [some (vR 12 0), some (vI x1), some (vI x2)] [] μ
theorem hp_M_wrong : hs_prog 245 = (hs_k245, 3, 1) := rfl
set_option maxRecDepth 100000 in
theorem hq_M_wrong (d : Nat)  (μ : hs_M)  : hc_M_wrong (d + 1)  μ =
  he_M_wrong_4 d (0 : Int32) (0 : Int32) μ := by exact (hs_ev_go hp_M_wrong [4] 31 0 _ [] μ).trans rfl
set_option maxRecDepth 100000 in
theorem hq_M_wrong_4 (d : Nat) (x1 : Int32) (x2 : Int32) (μ : hs_M)  : he_M_wrong_4 d x1 x2 μ =
  (if x2 < (μ.1 12 0 3) then (if hs_in x2 117 then hs_bI (hc_M_canBe d x2 (μ.1 45 0 (x2.toNatClampNeg)) μ) (fun r1 μ1 => (if r1 = 0 then he_M_wrong_4 d (x1 ||| ((1 : Int32) <<< (x2 &&& 31))) (x2 + (1 : Int32)) μ1 else he_M_wrong_4 d (x1 ||| (0 : Int32)) (x2 + (1 : Int32)) μ1)) else none) else some (some (vI x1), μ)) := by exact (hs_ev_go hp_M_wrong [4] 31 4 _ [] μ).trans rfl
noncomputable def he_M_offs_23 (d : Nat) (x1 : Int32) (x2 : Int32) (x3 : Int32) (x4 : Int32) (μ : hs_M) : Option (Option hs_V × hs_M) := hs_ev d 246 23 [some (vR 12 0), some (vI x1), some (vI x2), some (vI x3), some (vI x4)] [] μ
theorem hp_M_offs : hs_prog 246 = (hs_k246, 5, 1) := rfl
set_option maxRecDepth 100000 in
theorem hq_M_offs (d : Nat)  (μ : hs_M)  : hc_M_offs (d + 1)  μ =
  he_M_offs_23 d (μ.1 12 0 9) (0 : Int32) (0 : Int32) (0 : Int32) (hs_wI (hs_wI μ 12 0 0 (0 : Int32)) 12 0 9 (-9 : Int32)) := by exact (hs_ev_go hp_M_offs [23] 53 0 _ [] μ).trans rfl
set_option maxRecDepth 100000 in
theorem hq_M_offs_23 (d : Nat) (x1 : Int32) (x2 : Int32) (x3 : Int32) (x4 : Int32) (μ : hs_M)  : he_M_offs_23 d x1 x2 x3 x4 μ =
  (if (9 : Int32) < (μ.1 12 0 9) then hs_bV (hc_M_tellsSpan d x2 x3 x4 (hs_wI μ 12 0 9 x1)) (fun μ1 => some (some (vI x2), μ1)) else hs_bI (hc_M_wrong d μ) (fun r2 μ2 => (if r2 = 0 then (if x2 = 0 then he_M_offs_23 d x1 (x2 + (1 : Int32)) (μ2.1 12 0 9) (μ2.1 12 0 9) (hs_wI μ2 12 0 9 ((μ2.1 12 0 9) + (1 : Int32))) else he_M_offs_23 d x1 (x2 + (1 : Int32)) x3 (μ2.1 12 0 9) (hs_wI μ2 12 0 9 ((μ2.1 12 0 9) + (1 : Int32)))) else he_M_offs_23 d x1 x2 x3 x4 (hs_wI μ2 12 0 9 ((μ2.1 12 0 9) + (1 : Int32)))))) := by exact (hs_ev_go hp_M_offs [23] 53 23 _ [] μ).trans rfl
noncomputable def he_M_cheats_24 (d : Nat) (x1 : Int32) (x2 : Int32) (x3 : Int32) (x4 : Int32) (μ : hs_M) : Option (Option hs_V × hs_M) := hs_ev d 247 24 [some (vR 12 0), some (vI x1), some (vI x2), some (vI x3), some (vI x4), none] [] μ
theorem hp_M_cheats : hs_prog 247 = (hs_k247, 6, 1) := rfl
set_option maxRecDepth 100000 in
theorem hq_M_cheats (d : Nat)  (μ : hs_M)  : hc_M_cheats (d + 1)  μ =
  he_M_cheats_24 d (μ.1 12 0 9) (9 : Int32) (0 : Int32) (0 : Int32) (hs_wI (hs_wI μ 12 0 0 (0 : Int32)) 12 0 9 (-9 : Int32)) := by exact (hs_ev_go hp_M_cheats [24] 60 0 _ [] μ).trans rfl
set_option maxRecDepth 100000 in
theorem hq_M_cheats_24 (d : Nat) (x1 : Int32) (x2 : Int32) (x3 : Int32) (x4 : Int32) (μ : hs_M)  : he_M_cheats_24 d x1 x2 x3 x4 μ =
  (if (9 : Int32) < (μ.1 12 0 9) then hs_bV (hc_M_enters d (x3.toInt64) (hs_wI (hs_wI μ 12 0 9 x1) 12 0 1 (0 : Int32))) (fun μ1 => hs_bV (hc_M_enters d (x4.toInt64) μ1) (fun μ2 => some (some (vI x2), μ2))) else hs_bI (hc_M_wrong d μ) (fun r3 μ3 => hs_bI (hc_Int_bitCount d r3 μ3) (fun r4 μ4 => (if r4 < x2 then hs_bI (hc_Int_bitCount d r3 μ4) (fun r5 μ5 => he_M_cheats_24 d x1 r5 r3 (μ5.1 12 0 9) (hs_wI μ5 12 0 9 ((μ5.1 12 0 9) + (1 : Int32)))) else he_M_cheats_24 d x1 x2 x3 x4 (hs_wI μ4 12 0 9 ((μ4.1 12 0 9) + (1 : Int32))))))) := by exact (hs_ev_go hp_M_cheats [24] 60 24 _ [] μ).trans rfl
theorem hp_M_told : hs_prog 248 = (hs_k248, 3, 1) := rfl
set_option maxRecDepth 100000 in
theorem hq_M_told (d : Nat) (x1 : Int32) (x2 : Int32) (μ : hs_M)  : hc_M_told (d + 1) x1 x2 μ =
  hs_bI (hc_M_isPerson d x1 (hs_wI μ 12 0 0 (0 : Int32))) (fun r1 μ1 => (if r1 = 0 then some (some (vI (-1 : Int32)), μ1) else hs_bI (hc_M_in d (x2.toInt64) (1 : Int64) (60 : Int64) μ1) (fun r2 μ2 => (if r2 = 0 then some (some (vI (-1 : Int32)), μ2) else (if (μ2.1 12 0 37) = (10 : Int32) then some (some (vI (-1 : Int32)), μ2) else (if hs_in (μ2.1 12 0 37) 10 then (if hs_in (μ2.1 12 0 37) 10 then some (some (vI ((μ2.1 12 0 37) + (1 : Int32))), (hs_wI (hs_wI (hs_wI μ2 61 0 ((μ2.1 12 0 37).toNatClampNeg) x1) 62 0 ((μ2.1 12 0 37).toNatClampNeg) x2) 12 0 37 ((μ2.1 12 0 37) + (1 : Int32)))) else none) else none)))))) := by exact (hs_ev_go hp_M_told [] 43 0 _ [] μ).trans rfl
theorem hp_M_wipe : hs_prog 249 = (hs_k249, 2, 1) := rfl
set_option maxRecDepth 100000 in
theorem hq_M_wipe (d : Nat)  (μ : hs_M)  : hc_M_wipe (d + 1)  μ =
  some (some (vI (μ.1 12 0 37)), (hs_wI (hs_wI μ 12 0 0 (0 : Int32)) 12 0 37 (0 : Int32))) := by exact (hs_ev_go hp_M_wipe [] 14 0 _ [] μ).trans rfl
noncomputable def he_M_isSo_4 (d : Nat) (x1 : Int32) (x2 : Int32) (x3 : Int32) (μ : hs_M) : Option (Option hs_V × hs_M) := hs_ev d 250 4 [some (vR 12 0), some (vI x1), some (vI x2), some (vI x3), none] [] μ
noncomputable def he_M_isSo_31 (d : Nat) (x1 : Int32) (x2 : Int32) (x3 : Int32) (μ : hs_M) : Option (Option hs_V × hs_M) := hs_ev d 250 31 [some (vR 12 0), some (vI x1), some (vI x2), some (vI x3), none] [] μ
noncomputable def he_M_isSo_45 (d : Nat) (x1 : Int32) (x2 : Int32) (x3 : Int32) (x4 : Int32) (μ : hs_M) : Option (Option hs_V × hs_M) := hs_ev d 250 45 [some (vR 12 0), some (vI x1), some (vI x2), some (vI x3), some (vI x4)] [] μ
theorem hp_M_isSo : hs_prog 250 = (hs_k250, 5, 3) := rfl
set_option maxRecDepth 100000 in
theorem hq_M_isSo (d : Nat) (x1 : Int32) (μ : hs_M)  : hc_M_isSo (d + 1) x1 μ =
  he_M_isSo_4 d x1 (0 : Int32) (0 : Int32) μ := by exact (hs_ev_go hp_M_isSo [4, 31, 45] 58 0 _ [] μ).trans rfl
set_option maxRecDepth 100000 in
theorem hq_M_isSo_4 (d : Nat) (x1 : Int32) (x2 : Int32) (x3 : Int32) (μ : hs_M)  : he_M_isSo_4 d x1 x2 x3 μ =
  (if x3 < (μ.1 12 0 37) then (if hs_in x3 10 then hs_bI (hc_Math_max d x2 (μ.1 62 0 (x3.toNatClampNeg)) μ) (fun r1 μ1 => he_M_isSo_4 d x1 r1 (x3 + (1 : Int32)) μ1) else none) else he_M_isSo_31 d x1 x2 (1 : Int32) μ) := by exact (hs_ev_go hp_M_isSo [4, 31, 45] 58 4 _ [] μ).trans rfl
set_option maxRecDepth 100000 in
theorem hq_M_isSo_31 (d : Nat) (x1 : Int32) (x2 : Int32) (x3 : Int32) (μ : hs_M)  : he_M_isSo_31 d x1 x2 x3 μ =
  (if x2 < x3 then hs_rz (1 : Int32) μ else hs_bV (hc_M_goesBy d (1 : Int32) x1 μ) (fun μ1 => he_M_isSo_45 d x1 x2 x3 (0 : Int32) μ1)) := by exact (hs_ev_go hp_M_isSo [4, 31, 45] 58 31 _ [] μ).trans rfl
set_option maxRecDepth 100000 in
theorem hq_M_isSo_45 (d : Nat) (x1 : Int32) (x2 : Int32) (x3 : Int32) (x4 : Int32) (μ : hs_M)  : he_M_isSo_45 d x1 x2 x3 x4 μ =
  (if x4 < (μ.1 12 0 37) then (if hs_in x4 10 then (if (μ.1 62 0 (x4.toNatClampNeg)) = x3 then (if hs_in x4 10 then (if (μ.1 46 0 17) = (μ.1 61 0 (x4.toNatClampNeg)) then he_M_isSo_45 d x1 x2 x3 (x4 + (1 : Int32)) μ else hs_rz (0 : Int32) μ) else none) else he_M_isSo_45 d x1 x2 x3 (x4 + (1 : Int32)) μ) else none) else he_M_isSo_31 d x1 x2 (x3 + (1 : Int32)) μ) := by exact (hs_ev_go hp_M_isSo [4, 31, 45] 58 45 _ [] μ).trans rfl
noncomputable def he_M_explains_25 (d : Nat) (x1 : Int32) (x2 : Int32) (x3 : Int32) (x4 : Int32) (x5 : Int32) (μ : hs_M) : Option (Option hs_V × hs_M) := hs_ev d 251 25 [some (vR 12 0), some (vI x1), some (vI x2), some (vI x3), some (vI x4), some (vI x5)] [] μ
theorem hp_M_explains : hs_prog 251 = (hs_k251, 6, 1) := rfl
set_option maxRecDepth 100000 in
theorem hq_M_explains (d : Nat) (x1 : Int32) (μ : hs_M)  : hc_M_explains (d + 1) x1 μ =
  hs_bI (hc_M_isAlive d x1 (hs_wI μ 12 0 0 (0 : Int32))) (fun r1 μ1 => (if r1 = 0 then some (some (vI (-1 : Int32)), μ1) else he_M_explains_25 d x1 (0 : Int32) (0 : Int32) (0 : Int32) (1 : Int32) μ1)) := by exact (hs_ev_go hp_M_explains [25] 52 0 _ [] μ).trans rfl
set_option maxRecDepth 100000 in
theorem hq_M_explains_25 (d : Nat) (x1 : Int32) (x2 : Int32) (x3 : Int32) (x4 : Int32) (x5 : Int32) (μ : hs_M)  : he_M_explains_25 d x1 x2 x3 x4 x5 μ =
  (if (999 : Int32) < x5 then hs_bV (hc_M_tellsSpan d x2 x3 x4 μ) (fun μ1 => some (some (vI x2), μ1)) else hs_bV (hc_M_starts d μ) (fun μ2 => (if hs_in x1 117 then hs_bI (hc_M_isSo d (0 : Int32) (hs_wI μ2 46 0 (x1.toNatClampNeg) x5)) (fun r3 μ3 => (if r3 = 0 then he_M_explains_25 d x1 x2 x3 x4 (x5 + (1 : Int32)) μ3 else (if x2 = 0 then he_M_explains_25 d x1 (x2 + (1 : Int32)) x5 x5 (x5 + (1 : Int32)) μ3 else he_M_explains_25 d x1 (x2 + (1 : Int32)) x3 x5 (x5 + (1 : Int32)) μ3))) else none))) := by exact (hs_ev_go hp_M_explains [25] 52 25 _ [] μ).trans rfl
noncomputable def he_M_absent_9 (d : Nat) (x1 : Int32) (x2 : Int32) (μ : hs_M) : Option (Option hs_V × hs_M) := hs_ev d 252 9 [some (vR 12 0), some (vI x1), some (vI x2)] [] μ
theorem hp_M_absent : hs_prog 252 = (hs_k252, 3, 1) := rfl
set_option maxRecDepth 100000 in
theorem hq_M_absent (d : Nat)  (μ : hs_M)  : hc_M_absent (d + 1)  μ =
  he_M_absent_9 d (0 : Int32) (0 : Int32) (hs_wI μ 12 0 0 (0 : Int32)) := by exact (hs_ev_go hp_M_absent [9] 50 0 _ [] μ).trans rfl
set_option maxRecDepth 100000 in
theorem hq_M_absent_9 (d : Nat) (x1 : Int32) (x2 : Int32) (μ : hs_M)  : he_M_absent_9 d x1 x2 μ =
  (if x2 < (μ.1 12 0 3) then hs_bV (hc_M_starts d μ) (fun μ1 => hs_bI (hc_M_isAlive d x2 μ1) (fun r2 μ2 => (if r2 = 0 then he_M_absent_9 d (x1 ||| (0 : Int32)) (x2 + (1 : Int32)) μ2 else hs_bI (hc_M_isSo d ((1 : Int32) <<< (x2 &&& 31)) μ2) (fun r3 μ3 => (if r3 = 0 then he_M_absent_9 d (x1 ||| (0 : Int32)) (x2 + (1 : Int32)) μ3 else he_M_absent_9 d (x1 ||| ((1 : Int32) <<< (x2 &&& 31))) (x2 + (1 : Int32)) μ3))))) else hs_bV (hc_M_starts d μ) (fun μ4 => hs_bI (hc_M_isSo d (0 : Int32) (hs_wI μ4 12 0 1 (0 : Int32))) (fun r5 μ5 => hs_bI (hc_M_flag d r5 μ5) (fun r6 μ6 => hs_bV (hc_M_enters d (r6.toInt64) μ6) (fun μ7 => some (some (vI x1), μ7)))))) := by exact (hs_ev_go hp_M_absent [9] 50 9 _ [] μ).trans rfl
noncomputable def he_M_twin_65 (d : Nat) (x1 : Int32) (x2 : Int32) (x3 : Int32) (μ : hs_M) : Option (Option hs_V × hs_M) := hs_ev d 253 65 [some (vR 12 0), some (vI x1), some (vI x2), some (vI x3)] [] μ
theorem hp_M_twin : hs_prog 253 = (hs_k253, 4, 1) := rfl
set_option maxRecDepth 100000 in
theorem hq_M_twin (d : Nat) (x1 : Int32) (μ : hs_M)  : hc_M_twin (d + 1) x1 μ =
  hs_bI (hc_M_isAlive d x1 (hs_wI μ 12 0 0 (0 : Int32))) (fun r1 μ1 => (if r1 = 0 then some (some (vI (-1 : Int32)), μ1) else (if (μ1.1 12 0 3) = (8 : Int32) then some (some (vI (-1 : Int32)), μ1) else (if hs_in x1 117 then (if hs_in (μ1.1 12 0 3) 117 then (if hs_in x1 8 then (if hs_in (μ1.1 12 0 3) 8 then he_M_twin_65 d x1 (μ1.1 12 0 3) (0 : Int32) (hs_wI (hs_wI (hs_wI μ1 12 0 3 ((μ1.1 12 0 3) + (1 : Int32))) 45 0 ((μ1.1 12 0 3).toNatClampNeg) (μ1.1 45 0 (x1.toNatClampNeg))) 41 0 ((μ1.1 12 0 3).toNatClampNeg) (μ1.1 41 0 (x1.toNatClampNeg))) else none) else none) else none) else none)))) := by exact (hs_ev_go hp_M_twin [65] 87 0 _ [] μ).trans rfl
set_option maxRecDepth 100000 in
theorem hq_M_twin_65 (d : Nat) (x1 : Int32) (x2 : Int32) (x3 : Int32) (μ : hs_M)  : he_M_twin_65 d x1 x2 x3 μ =
  (if x3 < (6 : Int32) then (if hs_in (((6 : Int32) * x1) + x3) 48 then (if hs_in ((48 : Int32) + x3) 54 then he_M_twin_65 d x1 x2 (x3 + (1 : Int32)) (hs_wI μ 50 0 (((48 : Int32) + x3).toNatClampNeg) (μ.1 43 0 ((((6 : Int32) * x1) + x3).toNatClampNeg))) else none) else none) else (if hs_in x1 8 then hs_bV (hc_M_comes d x2 (8 : Int32) (hs_wI μ 51 0 8 (μ.1 44 0 (x1.toNatClampNeg)))) (fun μ1 => (if hs_in x1 8 then (if hs_in x2 8 then some (some (vI x2), (hs_wI (hs_wI μ1 42 0 (x2.toNatClampNeg) (μ1.1 42 0 (x1.toNatClampNeg))) 12 0 28 (0 : Int32))) else none) else none)) else none)) := by exact (hs_ev_go hp_M_twin [65] 87 65 _ [] μ).trans rfl
noncomputable def he_M_oddsOf_2 (d : Nat) (κ1 : Nat) (κ2 : Nat) (x3 : Int32) (μ : hs_M) : Option (Option hs_V × hs_M) := hs_ev d 254 2 [some (vR 12 0), some (vR κ1 0), some (vR κ2 0), some (vI x3), none, none, none, none, none, none] [] μ
noncomputable def he_M_oddsOf_41 (d : Nat) (κ1 : Nat) (κ2 : Nat) (x3 : Int32) (x4 : Int32) (x5 : Int64) (x7 : Int32) (x8 : Int32) (μ : hs_M) : Option (Option hs_V × hs_M) := hs_ev d 254 41 [some (vR 12 0), some (vR κ1 0), some (vR κ2 0), some (vI x3), some (vI x4), some (vL x5), none, some (vI x7), some (vI x8), none] [] μ
noncomputable def he_M_oddsOf_121 (d : Nat) (κ1 : Nat) (κ2 : Nat) (x4 : Int32) (x5 : Int64) (x7 : Int32) (μ : hs_M) : Option (Option hs_V × hs_M) := hs_ev d 254 121 [some (vR 12 0), some (vR κ1 0), some (vR κ2 0), none, some (vI x4), some (vL x5), none, some (vI x7), none, none] [] μ
noncomputable def he_M_oddsOf_132 (d : Nat) (κ1 : Nat) (κ2 : Nat) (x4 : Int32) (x5 : Int64) (x7 : Int32) (x8 : Int32) (x9 : Int32) (μ : hs_M) : Option (Option hs_V × hs_M) := hs_ev d 254 132 [some (vR 12 0), some (vR κ1 0), some (vR κ2 0), none, some (vI x4), some (vL x5), none, some (vI x7), some (vI x8), some (vI x9)] [] μ
theorem hp_M_oddsOf : hs_prog 254 = (hs_k254, 10, 0) := rfl
set_option maxRecDepth 100000 in
theorem hq_M_oddsOf (d : Nat) (κ1 : Nat) (κ2 : Nat) (μ : hs_M) (hκ1 : κ1 = 45 ∨ κ1 = 65) (hκ2 : κ2 = 63 ∨ κ2 = 64) : hc_M_oddsOf (d + 1) κ1 κ2 μ =
  he_M_oddsOf_2 d κ1 κ2 (0 : Int32) μ := by rcases hκ1 with rfl | rfl <;> rcases hκ2 with rfl | rfl <;> exact (hs_ev_go hp_M_oddsOf [2, 41, 121, 132] 146 0 _ [] μ).trans rfl
set_option maxRecDepth 100000 in
theorem hq_M_oddsOf_2 (d : Nat) (κ1 : Nat) (κ2 : Nat) (x3 : Int32) (μ : hs_M) (hκ1 : κ1 = 45 ∨ κ1 = 65) (hκ2 : κ2 = 63 ∨ κ2 = 64) : he_M_oddsOf_2 d κ1 κ2 x3 μ =
  (if (8 : Int32) < x3 then hs_bI (hc_M_willing d κ1 μ) (fun r1 μ1 => he_M_oddsOf_41 d κ1 κ2 r1 (μ1.1 κ1 0 17) (100000000 : Int64) (0 : Int32) (0 : Int32) μ1) else (if hs_in x3 9 then he_M_oddsOf_2 d κ1 κ2 (x3 + (1 : Int32)) (hs_wL μ κ2 0 (x3.toNatClampNeg) (0 : Int64)) else none)) := by rcases hκ1 with rfl | rfl <;> rcases hκ2 with rfl | rfl <;> exact (hs_ev_go hp_M_oddsOf [2, 41, 121, 132] 146 2 _ [] μ).trans rfl
set_option maxRecDepth 100000 in
theorem hq_M_oddsOf_41 (d : Nat) (κ1 : Nat) (κ2 : Nat) (x3 : Int32) (x4 : Int32) (x5 : Int64) (x7 : Int32) (x8 : Int32) (μ : hs_M) (hκ1 : κ1 = 45 ∨ κ1 = 65) (hκ2 : κ2 = 63 ∨ κ2 = 64) : he_M_oddsOf_41 d κ1 κ2 x3 x4 x5 x7 x8 μ =
  (if x8 < (μ.1 12 0 3) then (if x4 < 0 then hs_bI (hc_M_has d x3 x8 μ) (fun r1 μ1 => (if r1 = 0 then he_M_oddsOf_41 d κ1 κ2 x3 x4 x5 (x7 ||| (0 : Int32)) (x8 + (1 : Int32)) μ1 else (if x8 = x4 then he_M_oddsOf_41 d κ1 κ2 x3 x4 x5 (x7 ||| (0 : Int32)) (x8 + (1 : Int32)) μ1 else he_M_oddsOf_41 d κ1 κ2 x3 x4 x5 (x7 ||| ((1 : Int32) <<< (x8 &&& 31))) (x8 + (1 : Int32)) μ1))) else (if hs_in x8 117 then hs_bI (hc_M_shows d (μ.1 κ1 0 (x8.toNatClampNeg)) μ) (fun r2 μ2 => (if hs_in x4 117 then hs_bI (hc_M_shows d (μ2.1 κ1 0 (x4.toNatClampNeg)) μ2) (fun r3 μ3 => (if r3 < r2 then hs_bI (hc_M_has d x3 x8 μ3) (fun r4 μ4 => (if r4 = 0 then he_M_oddsOf_41 d κ1 κ2 x3 x4 x5 (x7 ||| (0 : Int32)) (x8 + (1 : Int32)) μ4 else (if x8 = x4 then he_M_oddsOf_41 d κ1 κ2 x3 x4 x5 (x7 ||| (0 : Int32)) (x8 + (1 : Int32)) μ4 else he_M_oddsOf_41 d κ1 κ2 x3 x4 x5 (x7 ||| ((1 : Int32) <<< (x8 &&& 31))) (x8 + (1 : Int32)) μ4))) else hs_bI (hc_M_has d x3 x8 μ3) (fun r5 μ5 => (if r5 = 0 then he_M_oddsOf_41 d κ1 κ2 x3 x4 x5 (x7 ||| (0 : Int32)) (x8 + (1 : Int32)) μ5 else (if x8 = x4 then he_M_oddsOf_41 d κ1 κ2 x3 x4 x5 (x7 ||| (0 : Int32)) (x8 + (1 : Int32)) μ5 else he_M_oddsOf_41 d κ1 κ2 x3 x4 x5 (x7 ||| (0 : Int32)) (x8 + (1 : Int32)) μ5))))) else none)) else none)) else he_M_oddsOf_121 d κ1 κ2 x4 x5 x7 μ) := by rcases hκ1 with rfl | rfl <;> rcases hκ2 with rfl | rfl <;> exact (hs_ev_go hp_M_oddsOf [2, 41, 121, 132] 146 41 _ [] μ).trans rfl
set_option maxRecDepth 100000 in
theorem hq_M_oddsOf_121 (d : Nat) (κ1 : Nat) (κ2 : Nat) (x4 : Int32) (x5 : Int64) (x7 : Int32) (μ : hs_M) (hκ1 : κ1 = 45 ∨ κ1 = 65) (hκ2 : κ2 = 63 ∨ κ2 = 64) : he_M_oddsOf_121 d κ1 κ2 x4 x5 x7 μ =
  (if x7 = 0 then (if x4 < 0 then some (none, (hs_wL μ κ2 0 8 ((μ.2 κ2 0 8) + x5))) else (if hs_in x4 9 then (if hs_in x4 9 then some (none, (hs_wL μ κ2 0 (x4.toNatClampNeg) ((μ.2 κ2 0 (x4.toNatClampNeg)) + x5))) else none) else none)) else he_M_oddsOf_132 d κ1 κ2 x4 x5 x7 (-1 : Int32) (0 : Int32) μ) := by rcases hκ1 with rfl | rfl <;> rcases hκ2 with rfl | rfl <;> exact (hs_ev_go hp_M_oddsOf [2, 41, 121, 132] 146 121 _ [] μ).trans rfl
set_option maxRecDepth 100000 in
theorem hq_M_oddsOf_132 (d : Nat) (κ1 : Nat) (κ2 : Nat) (x4 : Int32) (x5 : Int64) (x7 : Int32) (x8 : Int32) (x9 : Int32) (μ : hs_M) (hκ1 : κ1 = 45 ∨ κ1 = 65) (hκ2 : κ2 = 63 ∨ κ2 = 64) : he_M_oddsOf_132 d κ1 κ2 x4 x5 x7 x8 x9 μ =
  (if x9 < (μ.1 12 0 3) then hs_bI (hc_M_has d x7 x9 μ) (fun r1 μ1 => (if r1 = 0 then he_M_oddsOf_132 d κ1 κ2 x4 x5 x7 x8 (x9 + (1 : Int32)) μ1 else (if x8 < 0 then he_M_oddsOf_132 d κ1 κ2 x4 x5 x7 x9 (x9 + (1 : Int32)) μ1 else (if hs_in x9 117 then hs_bI (hc_M_shows d (μ1.1 κ1 0 (x9.toNatClampNeg)) μ1) (fun r2 μ2 => (if hs_in x8 117 then hs_bI (hc_M_shows d (μ2.1 κ1 0 (x8.toNatClampNeg)) μ2) (fun r3 μ3 => (if r3 < r2 then he_M_oddsOf_132 d κ1 κ2 x4 x5 x7 x9 (x9 + (1 : Int32)) μ3 else he_M_oddsOf_132 d κ1 κ2 x4 x5 x7 x8 (x9 + (1 : Int32)) μ3)) else none)) else none)))) else (if hs_in x8 8 then (if hs_in x8 9 then (if hs_in x8 8 then he_M_oddsOf_121 d κ1 κ2 x4 ((x5 / (10 : Int64)) * ((μ.1 42 0 (x8.toNatClampNeg)).toInt64)) (x7 &&& (((1 : Int32) <<< (x8 &&& 31)) ^^^ (-1 : Int32))) (hs_wL μ κ2 0 (x8.toNatClampNeg) ((x5 / (10 : Int64)) * (((10 : Int32) - (μ.1 42 0 (x8.toNatClampNeg))).toInt64))) else none) else none) else none)) := by rcases hκ1 with rfl | rfl <;> rcases hκ2 with rfl | rfl <;> exact (hs_ev_go hp_M_oddsOf [2, 41, 121, 132] 146 132 _ [] μ).trans rfl
noncomputable def he_M_odds_100 (d : Nat) (x1 : Int32) (x3 : Int64) (x5 : Int32) (μ : hs_M) : Option (Option hs_V × hs_M) := hs_ev d 255 100 [some (vR 12 0), some (vI x1), none, some (vL x3), none, some (vI x5)] [] μ
theorem hp_M_odds : hs_prog 255 = (hs_k255, 6, 1) := rfl
set_option maxRecDepth 100000 in
theorem hq_M_odds (d : Nat) (x1 : Int32) (x2 : Int32) (μ : hs_M)  : hc_M_odds (d + 1) x1 x2 μ =
  hs_bI (hc_M_isPerson d x1 (hs_wI μ 12 0 0 (0 : Int32))) (fun r1 μ1 => (if r1 = 0 then some (some (vI (-1 : Int32)), μ1) else hs_bI (hc_M_in d (x2.toInt64) (0 : Int64) (2 : Int64) μ1) (fun r2 μ2 => (if r2 = 0 then some (some (vI (-1 : Int32)), μ2) else (if x2 = 0 then (if (μ2.1 45 0 17) = x1 then hs_bI (hc_M_flag d (1 : Int32) (hs_wI μ2 12 0 1 (0 : Int32))) (fun r3 μ3 => hs_bV (hc_M_entersFraction d (r3.toInt64) (1 : Int64) μ3) (fun μ4 => some (some (vI (0 : Int32)), μ4))) else hs_bI (hc_M_flag d (0 : Int32) (hs_wI μ2 12 0 1 (0 : Int32))) (fun r5 μ5 => hs_bV (hc_M_entersFraction d (r5.toInt64) (1 : Int64) μ5) (fun μ6 => some (some (vI (0 : Int32)), μ6)))) else hs_bV (hc_M_oddsOf d 45 63 (hs_wI μ2 12 0 1 (0 : Int32))) (fun μ7 => (if x2 = (1 : Int32) then (if hs_in x1 9 then hs_bV (hc_M_entersFraction d (μ7.2 63 0 (x1.toNatClampNeg)) (100000000 : Int64) μ7) (fun μ8 => some (some (vI (0 : Int32)), μ8)) else none) else he_M_odds_100 d x1 (0 : Int64) (0 : Int32) μ7))))))) := by exact (hs_ev_go hp_M_odds [100] 114 0 _ [] μ).trans rfl
set_option maxRecDepth 100000 in
theorem hq_M_odds_100 (d : Nat) (x1 : Int32) (x3 : Int64) (x5 : Int32) (μ : hs_M)  : he_M_odds_100 d x1 x3 x5 μ =
  (if (8 : Int32) < x5 then hs_bV (hc_M_entersFraction d x3 (10000000000000000 : Int64) μ) (fun μ1 => some (some (vI (0 : Int32)), μ1)) else (if hs_in x5 9 then (if 0 < (lg_cmp (μ.2 63 0 (x5.toNatClampNeg)) (0 : Int64)) then hs_bV (hc_M_puts d 65 μ) (fun μ2 => (if x5 = (8 : Int32) then hs_bV (hc_M_goes d 65 (0 : Int32) μ2) (fun μ3 => hs_bV (hc_M_oddsOf d 65 64 μ3) (fun μ4 => (if hs_in x5 9 then (if hs_in x1 9 then he_M_odds_100 d x1 (x3 + ((μ4.2 63 0 (x5.toNatClampNeg)) * (μ4.2 64 0 (x1.toNatClampNeg)))) (x5 + (1 : Int32)) μ4 else none) else none))) else hs_bV (hc_M_goes d 65 ((1 : Int32) <<< (x5 &&& 31)) μ2) (fun μ5 => hs_bV (hc_M_oddsOf d 65 64 μ5) (fun μ6 => (if hs_in x5 9 then (if hs_in x1 9 then he_M_odds_100 d x1 (x3 + ((μ6.2 63 0 (x5.toNatClampNeg)) * (μ6.2 64 0 (x1.toNatClampNeg)))) (x5 + (1 : Int32)) μ6 else none) else none))))) else he_M_odds_100 d x1 x3 (x5 + (1 : Int32)) μ) else none)) := by exact (hs_ev_go hp_M_odds [100] 114 100 _ [] μ).trans rfl
noncomputable def he_M_likely_22 (d : Nat) (x1 : Int32) (x2 : Int32) (μ : hs_M) : Option (Option hs_V × hs_M) := hs_ev d 256 22 [some (vR 12 0), some (vI x1), some (vI x2)] [] μ
theorem hp_M_likely : hs_prog 256 = (hs_k256, 3, 1) := rfl
set_option maxRecDepth 100000 in
theorem hq_M_likely (d : Nat)  (μ : hs_M)  : hc_M_likely (d + 1)  μ =
  hs_bV (hc_M_oddsOf d 45 63 (hs_wI μ 12 0 0 (0 : Int32))) (fun μ1 => he_M_likely_22 d (8 : Int32) (0 : Int32) μ1) := by exact (hs_ev_go hp_M_likely [22] 53 0 _ [] μ).trans rfl
set_option maxRecDepth 100000 in
theorem hq_M_likely_22 (d : Nat) (x1 : Int32) (x2 : Int32) (μ : hs_M)  : he_M_likely_22 d x1 x2 μ =
  (if x2 < (μ.1 12 0 3) then (if hs_in x2 9 then (if hs_in x1 9 then (if 0 < (lg_cmp (μ.2 63 0 (x2.toNatClampNeg)) (μ.2 63 0 (x1.toNatClampNeg))) then he_M_likely_22 d x2 (x2 + (1 : Int32)) μ else he_M_likely_22 d x1 (x2 + (1 : Int32)) μ) else none) else none) else (if hs_in x1 9 then hs_bV (hc_M_entersFraction d (μ.2 63 0 (x1.toNatClampNeg)) (100000000 : Int64) (hs_wI μ 12 0 1 (0 : Int32))) (fun μ1 => (if x1 = (8 : Int32) then some (some (vI (-1 : Int32)), μ1) else some (some (vI x1), μ1))) else none)) := by exact (hs_ev_go hp_M_likely [22] 53 22 _ [] μ).trans rfl
noncomputable def he_M_keep_38 (d : Nat) (x1 : Int32) (x2 : Int32) (μ : hs_M) : Option (Option hs_V × hs_M) := hs_ev d 257 38 [some (vR 12 0), some (vI x1), some (vI x2)] [] μ
theorem hp_M_keep : hs_prog 257 = (hs_k257, 3, 3) := rfl
set_option maxRecDepth 100000 in
theorem hq_M_keep (d : Nat) (x1 : Int32) (μ : hs_M)  : hc_M_keep (d + 1) x1 μ =
  hs_bI (hc_M_in d (x1.toInt64) (0 : Int64) (2 : Int64) (hs_wI μ 12 0 0 (0 : Int32))) (fun r1 μ1 => (if r1 = 0 then hs_rz (0 : Int32) μ1 else (if hs_in x1 3 then (if hs_in x1 3 then he_M_keep_38 d x1 (0 : Int32) (hs_wI (hs_wI μ1 66 0 (x1.toNatClampNeg) ((1 : Int32) &&& 1)) 67 0 (x1.toNatClampNeg) (μ1.1 12 0 3)) else none) else none))) := by exact (hs_ev_go hp_M_keep [38] 46 0 _ [] μ).trans rfl
set_option maxRecDepth 100000 in
theorem hq_M_keep_38 (d : Nat) (x1 : Int32) (x2 : Int32) (μ : hs_M)  : he_M_keep_38 d x1 x2 μ =
  (if x2 < (117 : Int32) then (if hs_in x2 117 then (if hs_in (((117 : Int32) * x1) + x2) 351 then he_M_keep_38 d x1 (x2 + (1 : Int32)) (hs_wI μ 68 0 ((((117 : Int32) * x1) + x2).toNatClampNeg) (μ.1 45 0 (x2.toNatClampNeg))) else none) else none) else hs_rz (1 : Int32) μ) := by exact (hs_ev_go hp_M_keep [38] 46 38 _ [] μ).trans rfl
noncomputable def he_M_again_43 (d : Nat) (x1 : Int32) (x2 : Int32) (μ : hs_M) : Option (Option hs_V × hs_M) := hs_ev d 258 43 [some (vR 12 0), some (vI x1), some (vI x2)] [] μ
theorem hp_M_again : hs_prog 258 = (hs_k258, 3, 3) := rfl
set_option maxRecDepth 100000 in
theorem hq_M_again (d : Nat) (x1 : Int32) (μ : hs_M)  : hc_M_again (d + 1) x1 μ =
  hs_bI (hc_M_in d (x1.toInt64) (0 : Int64) (2 : Int64) (hs_wI μ 12 0 0 (0 : Int32))) (fun r1 μ1 => (if r1 = 0 then hs_rz (0 : Int32) μ1 else (if hs_in x1 3 then (if (μ1.1 66 0 (x1.toNatClampNeg)) = 0 then hs_rz (0 : Int32) μ1 else (if hs_in x1 3 then (if (μ1.1 67 0 (x1.toNatClampNeg)) = (μ1.1 12 0 3) then he_M_again_43 d x1 (0 : Int32) μ1 else hs_rz (0 : Int32) μ1) else none)) else none))) := by exact (hs_ev_go hp_M_again [43] 50 0 _ [] μ).trans rfl
set_option maxRecDepth 100000 in
theorem hq_M_again_43 (d : Nat) (x1 : Int32) (x2 : Int32) (μ : hs_M)  : he_M_again_43 d x1 x2 μ =
  (if x2 < (117 : Int32) then (if hs_in (((117 : Int32) * x1) + x2) 351 then (if hs_in x2 117 then he_M_again_43 d x1 (x2 + (1 : Int32)) (hs_wI μ 45 0 (x2.toNatClampNeg) (μ.1 68 0 ((((117 : Int32) * x1) + x2).toNatClampNeg))) else none) else none) else hs_rz (1 : Int32) (hs_wI μ 12 0 28 (0 : Int32))) := by exact (hs_ev_go hp_M_again [43] 50 43 _ [] μ).trans rfl
noncomputable def he_M_lawsThatHold_4 (d : Nat) (x1 : Int32) (x2 : Int32) (μ : hs_M) : Option (Option hs_V × hs_M) := hs_ev d 259 4 [some (vR 12 0), some (vI x1), some (vI x2)] [] μ
theorem hp_M_lawsThatHold : hs_prog 259 = (hs_k259, 3, 1) := rfl
set_option maxRecDepth 100000 in
theorem hq_M_lawsThatHold (d : Nat)  (μ : hs_M)  : hc_M_lawsThatHold (d + 1)  μ =
  he_M_lawsThatHold_4 d (0 : Int32) (0 : Int32) μ := by exact (hs_ev_go hp_M_lawsThatHold [4] 32 0 _ [] μ).trans rfl
set_option maxRecDepth 100000 in
theorem hq_M_lawsThatHold_4 (d : Nat) (x1 : Int32) (x2 : Int32) (μ : hs_M)  : he_M_lawsThatHold_4 d x1 x2 μ =
  (if x2 < (μ.1 45 0 20) then (if hs_in ((45 : Int32) + x2) 117 then (if (μ.1 45 0 (((45 : Int32) + x2).toNatClampNeg)) < 0 then he_M_lawsThatHold_4 d (x1 ||| ((1 : Int32) <<< (x2 &&& 31))) (x2 + (1 : Int32)) μ else he_M_lawsThatHold_4 d (x1 ||| (0 : Int32)) (x2 + (1 : Int32)) μ) else none) else some (some (vI x1), μ)) := by exact (hs_ev_go hp_M_lawsThatHold [4] 32 4 _ [] μ).trans rfl
theorem hp_M_count : hs_prog 260 = (hs_k260, 2, 1) := rfl
set_option maxRecDepth 100000 in
theorem hq_M_count (d : Nat) (x1 : Int32) (μ : hs_M)  : hc_M_count (d + 1) x1 μ =
  (if x1 = (0 : Int32) then some (some (vI (μ.1 12 0 3)), (hs_wI μ 12 0 0 (0 : Int32))) else (if x1 = (1 : Int32) then some (some (vI (μ.1 45 0 19)), (hs_wI μ 12 0 0 (0 : Int32))) else (if x1 = (2 : Int32) then some (some (vI (μ.1 45 0 17)), (hs_wI μ 12 0 0 (0 : Int32))) else (if x1 = (3 : Int32) then (if (μ.1 45 0 17) < 0 then some (some (vI (0 : Int32)), (hs_wI μ 12 0 0 (0 : Int32))) else some (some (vI (μ.1 45 0 18)), (hs_wI μ 12 0 0 (0 : Int32)))) else (if x1 = (4 : Int32) then some (some (vI (μ.1 45 0 20)), (hs_wI μ 12 0 0 (0 : Int32))) else (if x1 = (5 : Int32) then hs_bI (hc_M_lawsThatHold d (hs_wI μ 12 0 0 (0 : Int32))) (fun r1 μ1 => some (some (vI r1), μ1)) else (if x1 = (6 : Int32) then some (some (vI (μ.1 45 0 16)), (hs_wI μ 12 0 0 (0 : Int32))) else (if x1 = (7 : Int32) then some (some (vI (μ.1 12 0 28)), (hs_wI μ 12 0 0 (0 : Int32))) else (if x1 = (8 : Int32) then some (some (vI (μ.1 12 0 34)), (hs_wI μ 12 0 0 (0 : Int32))) else (if x1 = (9 : Int32) then some (some (vI (μ.1 12 0 37)), (hs_wI μ 12 0 0 (0 : Int32))) else (if x1 = (10 : Int32) then some (some (vI (μ.1 12 0 1)), (hs_wI μ 12 0 0 (0 : Int32))) else (if x1 = (11 : Int32) then some (some (vI (μ.1 12 0 13)), (hs_wI μ 12 0 0 (0 : Int32))) else (if x1 = (12 : Int32) then some (some (vI (μ.1 12 0 8)), (hs_wI μ 12 0 0 (0 : Int32))) else (if x1 = (13 : Int32) then some (some (vI (μ.1 12 0 9)), (hs_wI μ 12 0 0 (0 : Int32))) else some (some (vI (-100 : Int32)), (hs_wI μ 12 0 0 (0 : Int32))))))))))))))))) := by exact (hs_ev_go hp_M_count [] 69 0 _ [] μ).trans rfl
theorem hp_M_row : hs_prog 261 = (hs_k261, 2, 2) := rfl
set_option maxRecDepth 100000 in
theorem hq_M_row (d : Nat) (x1 : Int32) (μ : hs_M)  : hc_M_row (d + 1) x1 μ =
  hs_bI (hc_M_in d (x1.toInt64) (0 : Int64) (((μ.1 12 0 1) - (1 : Int32)).toInt64) (hs_wI μ 12 0 0 (0 : Int32))) (fun r1 μ1 => (if r1 = 0 then some (some (vL (0 : Int64)), (hs_wI μ1 12 0 0 (1 : Int32))) else (if hs_in x1 24 then some (some (vL (μ1.2 40 0 (x1.toNatClampNeg))), μ1) else none))) := by exact (hs_ev_go hp_M_row [] 26 0 _ [] μ).trans rfl
end
section
/-- a private method of a class that the tables say can be made, by its rows of tables_1 -/
def lw_okq (q : MethodName × Nat) : Prop := (q.1.cls ≠ "java/lang/invoke/MethodHandle" ∧ q.1.cls ≠ "java/lang/invoke/VarHandle") ∧ Cond.instantiable q.1.cls q.2 ∈ tables_1 ∧ Cond.privateMethod q.1 ∈ tables_1 ∧ Cond.instanceMethod q.1 ∈ tables_1
theorem lw_p0 : lw_okq (⟨"HeavierServes$Town", "readLine", "(LHeavierServes$Text;I)Z"⟩, 10) := ⟨⟨by decide +kernel, by decide +kernel⟩, List.mem_of_getElem? (i := 72) (by decide +kernel), List.mem_of_getElem? (i := 452) (by decide +kernel), List.mem_of_getElem? (i := 453) (by decide +kernel)⟩
theorem lw_p1 : lw_okq (⟨"HeavierServes$Town", "readWeight", "(LHeavierServes$Text;I)Z"⟩, 10) := ⟨⟨by decide +kernel, by decide +kernel⟩, List.mem_of_getElem? (i := 72) (by decide +kernel), List.mem_of_getElem? (i := 456) (by decide +kernel), List.mem_of_getElem? (i := 457) (by decide +kernel)⟩
theorem lw_p2 : lw_okq (⟨"HeavierServes$Town", "readParty", "(LHeavierServes$Text;I)Z"⟩, 10) := ⟨⟨by decide +kernel, by decide +kernel⟩, List.mem_of_getElem? (i := 72) (by decide +kernel), List.mem_of_getElem? (i := 468) (by decide +kernel), List.mem_of_getElem? (i := 469) (by decide +kernel)⟩
theorem lw_p3 : lw_okq (⟨"HeavierServes$Town", "readChanges", "(LHeavierServes$Text;)Z"⟩, 10) := ⟨⟨by decide +kernel, by decide +kernel⟩, List.mem_of_getElem? (i := 72) (by decide +kernel), List.mem_of_getElem? (i := 473) (by decide +kernel), List.mem_of_getElem? (i := 474) (by decide +kernel)⟩
theorem lw_p4 : lw_okq (⟨"HeavierServes$Town", "takeDraft", "(I)V"⟩, 10) := ⟨⟨by decide +kernel, by decide +kernel⟩, List.mem_of_getElem? (i := 72) (by decide +kernel), List.mem_of_getElem? (i := 480) (by decide +kernel), List.mem_of_getElem? (i := 481) (by decide +kernel)⟩
theorem lw_p5 : lw_okq (⟨"HeavierServes$Will", "readLevel", "(LHeavierServes$Text;II)Z"⟩, 6) := ⟨⟨by decide +kernel, by decide +kernel⟩, List.mem_of_getElem? (i := 120) (by decide +kernel), List.mem_of_getElem? (i := 508) (by decide +kernel), List.mem_of_getElem? (i := 509) (by decide +kernel)⟩
theorem lw_p6 : lw_okq (⟨"HeavierServes$Will", "readThing", "(LHeavierServes$Text;I)Z"⟩, 6) := ⟨⟨by decide +kernel, by decide +kernel⟩, List.mem_of_getElem? (i := 120) (by decide +kernel), List.mem_of_getElem? (i := 512) (by decide +kernel), List.mem_of_getElem? (i := 513) (by decide +kernel)⟩
theorem lw_p7 : lw_okq (⟨"HeavierServes$Will", "readBracket", "(LHeavierServes$Text;I)Z"⟩, 6) := ⟨⟨by decide +kernel, by decide +kernel⟩, List.mem_of_getElem? (i := 120) (by decide +kernel), List.mem_of_getElem? (i := 517) (by decide +kernel), List.mem_of_getElem? (i := 518) (by decide +kernel)⟩
theorem lw_p8 : lw_okq (⟨"HeavierServes$Will", "readNumber", "(LHeavierServes$Text;)V"⟩, 6) := ⟨⟨by decide +kernel, by decide +kernel⟩, List.mem_of_getElem? (i := 120) (by decide +kernel), List.mem_of_getElem? (i := 521) (by decide +kernel), List.mem_of_getElem? (i := 522) (by decide +kernel)⟩
theorem lw_p9 : lw_okq (⟨"HeavierServes$Will", "emit", "(I)V"⟩, 6) := ⟨⟨by decide +kernel, by decide +kernel⟩, List.mem_of_getElem? (i := 120) (by decide +kernel), List.mem_of_getElem? (i := 526) (by decide +kernel), List.mem_of_getElem? (i := 527) (by decide +kernel)⟩
theorem lw_p10 : lw_okq (⟨"HeavierServes", "passWeek", "(II)I"⟩, 12) := ⟨⟨by decide +kernel, by decide +kernel⟩, List.mem_of_getElem? (i := 26) (by decide +kernel), List.mem_of_getElem? (i := 598) (by decide +kernel), List.mem_of_getElem? (i := 599) (by decide +kernel)⟩
theorem lw_p11 : lw_okq (⟨"HeavierServes$Office", "shownOfServer", "(LHeavierServes$State;)I"⟩, 3) := ⟨⟨by decide +kernel, by decide +kernel⟩, List.mem_of_getElem? (i := 293) (by decide +kernel), List.mem_of_getElem? (i := 610) (by decide +kernel), List.mem_of_getElem? (i := 611) (by decide +kernel)⟩
theorem lw_p12 : lw_okq (⟨"HeavierServes$State", "dropLaws", "()I"⟩, 13) := ⟨⟨by decide +kernel, by decide +kernel⟩, List.mem_of_getElem? (i := 168) (by decide +kernel), List.mem_of_getElem? (i := 640) (by decide +kernel), List.mem_of_getElem? (i := 641) (by decide +kernel)⟩
theorem lw_p13 : lw_okq (⟨"HeavierServes", "yearFault", "()I"⟩, 12) := ⟨⟨by decide +kernel, by decide +kernel⟩, List.mem_of_getElem? (i := 26) (by decide +kernel), List.mem_of_getElem? (i := 671) (by decide +kernel), List.mem_of_getElem? (i := 672) (by decide +kernel)⟩
theorem lw_p14 : lw_okq (⟨"HeavierServes", "passYear", "()I"⟩, 12) := ⟨⟨by decide +kernel, by decide +kernel⟩, List.mem_of_getElem? (i := 26) (by decide +kernel), List.mem_of_getElem? (i := 676) (by decide +kernel), List.mem_of_getElem? (i := 677) (by decide +kernel)⟩
theorem lw_p15 : lw_okq (⟨"HeavierServes", "eat", "(III)I"⟩, 12) := ⟨⟨by decide +kernel, by decide +kernel⟩, List.mem_of_getElem? (i := 26) (by decide +kernel), List.mem_of_getElem? (i := 692) (by decide +kernel), List.mem_of_getElem? (i := 693) (by decide +kernel)⟩
def lw_privs_1 : List (MethodName × Nat) := [(⟨"HeavierServes$Town", "readLine", "(LHeavierServes$Text;I)Z"⟩, 10), (⟨"HeavierServes$Town", "readWeight", "(LHeavierServes$Text;I)Z"⟩, 10), (⟨"HeavierServes$Town", "readParty", "(LHeavierServes$Text;I)Z"⟩, 10), (⟨"HeavierServes$Town", "readChanges", "(LHeavierServes$Text;)Z"⟩, 10), (⟨"HeavierServes$Town", "takeDraft", "(I)V"⟩, 10), (⟨"HeavierServes$Will", "readLevel", "(LHeavierServes$Text;II)Z"⟩, 6), (⟨"HeavierServes$Will", "readThing", "(LHeavierServes$Text;I)Z"⟩, 6), (⟨"HeavierServes$Will", "readBracket", "(LHeavierServes$Text;I)Z"⟩, 6), (⟨"HeavierServes$Will", "readNumber", "(LHeavierServes$Text;)V"⟩, 6), (⟨"HeavierServes$Will", "emit", "(I)V"⟩, 6), (⟨"HeavierServes", "passWeek", "(II)I"⟩, 12), (⟨"HeavierServes$Office", "shownOfServer", "(LHeavierServes$State;)I"⟩, 3), (⟨"HeavierServes$State", "dropLaws", "()I"⟩, 13), (⟨"HeavierServes", "yearFault", "()I"⟩, 12), (⟨"HeavierServes", "passYear", "()I"⟩, 12), (⟨"HeavierServes", "eat", "(III)I"⟩, 12)]
theorem lw_r1 : ∀ q ∈ lw_privs_1, lw_okq q := List.forall_mem_cons.mpr ⟨lw_p0, List.forall_mem_cons.mpr ⟨lw_p1, List.forall_mem_cons.mpr ⟨lw_p2, List.forall_mem_cons.mpr ⟨lw_p3, List.forall_mem_cons.mpr ⟨lw_p4, List.forall_mem_cons.mpr ⟨lw_p5, List.forall_mem_cons.mpr ⟨lw_p6, List.forall_mem_cons.mpr ⟨lw_p7, List.forall_mem_cons.mpr ⟨lw_p8, List.forall_mem_cons.mpr ⟨lw_p9, List.forall_mem_cons.mpr ⟨lw_p10, List.forall_mem_cons.mpr ⟨lw_p11, List.forall_mem_cons.mpr ⟨lw_p12, List.forall_mem_cons.mpr ⟨lw_p13, List.forall_mem_cons.mpr ⟨lw_p14, List.forall_mem_cons.mpr ⟨lw_p15, fun _ h => absurd h List.not_mem_nil⟩⟩⟩⟩⟩⟩⟩⟩⟩⟩⟩⟩⟩⟩⟩⟩
theorem lw_p16 : lw_okq (⟨"HeavierServes", "isThere", "(I)Z"⟩, 12) := ⟨⟨by decide +kernel, by decide +kernel⟩, List.mem_of_getElem? (i := 26) (by decide +kernel), List.mem_of_getElem? (i := 696) (by decide +kernel), List.mem_of_getElem? (i := 697) (by decide +kernel)⟩
theorem lw_p17 : lw_okq (⟨"HeavierServes$Future", "run", "(II)V"⟩, 13) := ⟨⟨by decide +kernel, by decide +kernel⟩, List.mem_of_getElem? (i := 310) (by decide +kernel), List.mem_of_getElem? (i := 745) (by decide +kernel), List.mem_of_getElem? (i := 746) (by decide +kernel)⟩
theorem lw_p18 : lw_okq (⟨"HeavierServes$Future", "gain", "(I)I"⟩, 13) := ⟨⟨by decide +kernel, by decide +kernel⟩, List.mem_of_getElem? (i := 310) (by decide +kernel), List.mem_of_getElem? (i := 751) (by decide +kernel), List.mem_of_getElem? (i := 752) (by decide +kernel)⟩
theorem lw_p19 : lw_okq (⟨"HeavierServes$Future", "lightest", "(I)I"⟩, 13) := ⟨⟨by decide +kernel, by decide +kernel⟩, List.mem_of_getElem? (i := 310) (by decide +kernel), List.mem_of_getElem? (i := 772) (by decide +kernel), List.mem_of_getElem? (i := 773) (by decide +kernel)⟩
theorem lw_p20 : lw_okq (⟨"HeavierServes$Future", "heavierThan", "(I)I"⟩, 13) := ⟨⟨by decide +kernel, by decide +kernel⟩, List.mem_of_getElem? (i := 310) (by decide +kernel), List.mem_of_getElem? (i := 779) (by decide +kernel), List.mem_of_getElem? (i := 780) (by decide +kernel)⟩
theorem lw_p21 : lw_okq (⟨"HeavierServes$Future", "search", "(II)V"⟩, 13) := ⟨⟨by decide +kernel, by decide +kernel⟩, List.mem_of_getElem? (i := 310) (by decide +kernel), List.mem_of_getElem? (i := 793) (by decide +kernel), List.mem_of_getElem? (i := 794) (by decide +kernel)⟩
theorem lw_p22 : lw_okq (⟨"HeavierServes$Future", "judge", "(II)V"⟩, 13) := ⟨⟨by decide +kernel, by decide +kernel⟩, List.mem_of_getElem? (i := 310) (by decide +kernel), List.mem_of_getElem? (i := 797) (by decide +kernel), List.mem_of_getElem? (i := 798) (by decide +kernel)⟩
theorem lw_p23 : lw_okq (⟨"HeavierServes$Future", "someoneTurns", "(I)Z"⟩, 13) := ⟨⟨by decide +kernel, by decide +kernel⟩, List.mem_of_getElem? (i := 310) (by decide +kernel), List.mem_of_getElem? (i := 817) (by decide +kernel), List.mem_of_getElem? (i := 818) (by decide +kernel)⟩
theorem lw_p24 : lw_okq (⟨"HeavierServes$Future", "bestReply", "(II)I"⟩, 13) := ⟨⟨by decide +kernel, by decide +kernel⟩, List.mem_of_getElem? (i := 310) (by decide +kernel), List.mem_of_getElem? (i := 821) (by decide +kernel), List.mem_of_getElem? (i := 822) (by decide +kernel)⟩
theorem lw_p25 : lw_okq (⟨"HeavierServes$Future", "weeksByPlans", "(II)I"⟩, 13) := ⟨⟨by decide +kernel, by decide +kernel⟩, List.mem_of_getElem? (i := 310) (by decide +kernel), List.mem_of_getElem? (i := 825) (by decide +kernel), List.mem_of_getElem? (i := 826) (by decide +kernel)⟩
theorem lw_p26 : lw_okq (⟨"HeavierServes$Future", "gainOfParty", "(I)I"⟩, 13) := ⟨⟨by decide +kernel, by decide +kernel⟩, List.mem_of_getElem? (i := 310) (by decide +kernel), List.mem_of_getElem? (i := 837) (by decide +kernel), List.mem_of_getElem? (i := 838) (by decide +kernel)⟩
theorem lw_p27 : lw_okq (⟨"HeavierServes$Future", "gainers", "()I"⟩, 13) := ⟨⟨by decide +kernel, by decide +kernel⟩, List.mem_of_getElem? (i := 310) (by decide +kernel), List.mem_of_getElem? (i := 841) (by decide +kernel), List.mem_of_getElem? (i := 842) (by decide +kernel)⟩
theorem lw_p28 : lw_okq (⟨"HeavierServes$Trials", "cakesWorthTrying", "(I)I"⟩, 7) := ⟨⟨by decide +kernel, by decide +kernel⟩, List.mem_of_getElem? (i := 358) (by decide +kernel), List.mem_of_getElem? (i := 868) (by decide +kernel), List.mem_of_getElem? (i := 869) (by decide +kernel)⟩
theorem lw_p29 : lw_okq (⟨"HeavierServes$Trials", "feast", "(II)V"⟩, 7) := ⟨⟨by decide +kernel, by decide +kernel⟩, List.mem_of_getElem? (i := 358) (by decide +kernel), List.mem_of_getElem? (i := 873) (by decide +kernel), List.mem_of_getElem? (i := 874) (by decide +kernel)⟩
theorem lw_p30 : lw_okq (⟨"HeavierServes$Trials", "cakesForNextWeek", "(II)I"⟩, 7) := ⟨⟨by decide +kernel, by decide +kernel⟩, List.mem_of_getElem? (i := 358) (by decide +kernel), List.mem_of_getElem? (i := 906) (by decide +kernel), List.mem_of_getElem? (i := 907) (by decide +kernel)⟩
theorem lw_p31 : lw_okq (⟨"HeavierServes$Scale", "narrowBy", "(II)V"⟩, 4) := ⟨⟨by decide +kernel, by decide +kernel⟩, List.mem_of_getElem? (i := 145) (by decide +kernel), List.mem_of_getElem? (i := 943) (by decide +kernel), List.mem_of_getElem? (i := 944) (by decide +kernel)⟩
def lw_privs_2 : List (MethodName × Nat) := [(⟨"HeavierServes", "isThere", "(I)Z"⟩, 12), (⟨"HeavierServes$Future", "run", "(II)V"⟩, 13), (⟨"HeavierServes$Future", "gain", "(I)I"⟩, 13), (⟨"HeavierServes$Future", "lightest", "(I)I"⟩, 13), (⟨"HeavierServes$Future", "heavierThan", "(I)I"⟩, 13), (⟨"HeavierServes$Future", "search", "(II)V"⟩, 13), (⟨"HeavierServes$Future", "judge", "(II)V"⟩, 13), (⟨"HeavierServes$Future", "someoneTurns", "(I)Z"⟩, 13), (⟨"HeavierServes$Future", "bestReply", "(II)I"⟩, 13), (⟨"HeavierServes$Future", "weeksByPlans", "(II)I"⟩, 13), (⟨"HeavierServes$Future", "gainOfParty", "(I)I"⟩, 13), (⟨"HeavierServes$Future", "gainers", "()I"⟩, 13), (⟨"HeavierServes$Trials", "cakesWorthTrying", "(I)I"⟩, 7), (⟨"HeavierServes$Trials", "feast", "(II)V"⟩, 7), (⟨"HeavierServes$Trials", "cakesForNextWeek", "(II)I"⟩, 7), (⟨"HeavierServes$Scale", "narrowBy", "(II)V"⟩, 4)]
theorem lw_r2 : ∀ q ∈ lw_privs_2, lw_okq q := List.forall_mem_cons.mpr ⟨lw_p16, List.forall_mem_cons.mpr ⟨lw_p17, List.forall_mem_cons.mpr ⟨lw_p18, List.forall_mem_cons.mpr ⟨lw_p19, List.forall_mem_cons.mpr ⟨lw_p20, List.forall_mem_cons.mpr ⟨lw_p21, List.forall_mem_cons.mpr ⟨lw_p22, List.forall_mem_cons.mpr ⟨lw_p23, List.forall_mem_cons.mpr ⟨lw_p24, List.forall_mem_cons.mpr ⟨lw_p25, List.forall_mem_cons.mpr ⟨lw_p26, List.forall_mem_cons.mpr ⟨lw_p27, List.forall_mem_cons.mpr ⟨lw_p28, List.forall_mem_cons.mpr ⟨lw_p29, List.forall_mem_cons.mpr ⟨lw_p30, List.forall_mem_cons.mpr ⟨lw_p31, fun _ h => absurd h List.not_mem_nil⟩⟩⟩⟩⟩⟩⟩⟩⟩⟩⟩⟩⟩⟩⟩⟩
theorem lw_p32 : lw_okq (⟨"HeavierServes$Trials", "gather", "(LHeavierServes$Pairs;)Z"⟩, 7) := ⟨⟨by decide +kernel, by decide +kernel⟩, List.mem_of_getElem? (i := 358) (by decide +kernel), List.mem_of_getElem? (i := 988) (by decide +kernel), List.mem_of_getElem? (i := 989) (by decide +kernel)⟩
theorem lw_p33 : lw_okq (⟨"HeavierServes$Trials", "comesAsDue", "(I)Z"⟩, 7) := ⟨⟨by decide +kernel, by decide +kernel⟩, List.mem_of_getElem? (i := 358) (by decide +kernel), List.mem_of_getElem? (i := 995) (by decide +kernel), List.mem_of_getElem? (i := 996) (by decide +kernel)⟩
theorem lw_p34 : lw_okq (⟨"HeavierServes$Office", "heavierWho", "(LHeavierServes$State;)I"⟩, 3) := ⟨⟨by decide +kernel, by decide +kernel⟩, List.mem_of_getElem? (i := 293) (by decide +kernel), List.mem_of_getElem? (i := 1036) (by decide +kernel), List.mem_of_getElem? (i := 1037) (by decide +kernel)⟩
theorem lw_p35 : lw_okq (⟨"HeavierServes$Office", "heaviestOf", "(LHeavierServes$State;I)I"⟩, 3) := ⟨⟨by decide +kernel, by decide +kernel⟩, List.mem_of_getElem? (i := 293) (by decide +kernel), List.mem_of_getElem? (i := 1041) (by decide +kernel), List.mem_of_getElem? (i := 1042) (by decide +kernel)⟩
theorem lw_p36 : lw_okq (⟨"HeavierServes$Future", "chanceInTwo", "(I)J"⟩, 13) := ⟨⟨by decide +kernel, by decide +kernel⟩, List.mem_of_getElem? (i := 310) (by decide +kernel), List.mem_of_getElem? (i := 1047) (by decide +kernel), List.mem_of_getElem? (i := 1048) (by decide +kernel)⟩
theorem lw_p37 : lw_okq (⟨"java/lang/Throwable", "fillInStackTrace", "(I)Ljava/lang/Throwable;"⟩, 6) := ⟨⟨by decide +kernel, by decide +kernel⟩, List.mem_of_getElem? (i := 1125) (by decide +kernel), List.mem_of_getElem? (i := 1123) (by decide +kernel), List.mem_of_getElem? (i := 1124) (by decide +kernel)⟩
theorem lw_p38 : lw_okq (⟨"HeavierServesModel", "begins", "(I)I"⟩, 46) := ⟨⟨by decide +kernel, by decide +kernel⟩, List.mem_of_getElem? (i := 1189) (by decide +kernel), List.mem_of_getElem? (i := 1350) (by decide +kernel), List.mem_of_getElem? (i := 1351) (by decide +kernel)⟩
theorem lw_p39 : lw_okq (⟨"HeavierServesModel", "readsPerson", "()Z"⟩, 46) := ⟨⟨by decide +kernel, by decide +kernel⟩, List.mem_of_getElem? (i := 1189) (by decide +kernel), List.mem_of_getElem? (i := 1355) (by decide +kernel), List.mem_of_getElem? (i := 1356) (by decide +kernel)⟩
theorem lw_p40 : lw_okq (⟨"HeavierServesModel", "isDigit", "()Z"⟩, 46) := ⟨⟨by decide +kernel, by decide +kernel⟩, List.mem_of_getElem? (i := 1189) (by decide +kernel), List.mem_of_getElem? (i := 1359) (by decide +kernel), List.mem_of_getElem? (i := 1360) (by decide +kernel)⟩
theorem lw_p41 : lw_okq (⟨"HeavierServesModel", "number", "(I)I"⟩, 46) := ⟨⟨by decide +kernel, by decide +kernel⟩, List.mem_of_getElem? (i := 1189) (by decide +kernel), List.mem_of_getElem? (i := 1365) (by decide +kernel), List.mem_of_getElem? (i := 1366) (by decide +kernel)⟩
theorem lw_p42 : lw_okq (⟨"HeavierServesModel", "takes", "(I)Z"⟩, 46) := ⟨⟨by decide +kernel, by decide +kernel⟩, List.mem_of_getElem? (i := 1189) (by decide +kernel), List.mem_of_getElem? (i := 1369) (by decide +kernel), List.mem_of_getElem? (i := 1370) (by decide +kernel)⟩
theorem lw_p43 : lw_okq (⟨"HeavierServesModel", "among", "(Ljava/lang/String;)I"⟩, 46) := ⟨⟨by decide +kernel, by decide +kernel⟩, List.mem_of_getElem? (i := 1189) (by decide +kernel), List.mem_of_getElem? (i := 1377) (by decide +kernel), List.mem_of_getElem? (i := 1378) (by decide +kernel)⟩
theorem lw_p44 : lw_okq (⟨"HeavierServesModel", "readsHabit", "(I)Z"⟩, 46) := ⟨⟨by decide +kernel, by decide +kernel⟩, List.mem_of_getElem? (i := 1189) (by decide +kernel), List.mem_of_getElem? (i := 1429) (by decide +kernel), List.mem_of_getElem? (i := 1430) (by decide +kernel)⟩
theorem lw_p45 : lw_okq (⟨"HeavierServesModel", "faultOf", "(IIZ)I"⟩, 46) := ⟨⟨by decide +kernel, by decide +kernel⟩, List.mem_of_getElem? (i := 1189) (by decide +kernel), List.mem_of_getElem? (i := 1434) (by decide +kernel), List.mem_of_getElem? (i := 1435) (by decide +kernel)⟩
theorem lw_p46 : lw_okq (⟨"HeavierServesModel", "comes", "(II)V"⟩, 46) := ⟨⟨by decide +kernel, by decide +kernel⟩, List.mem_of_getElem? (i := 1189) (by decide +kernel), List.mem_of_getElem? (i := 1438) (by decide +kernel), List.mem_of_getElem? (i := 1439) (by decide +kernel)⟩
theorem lw_p47 : lw_okq (⟨"HeavierServesModel", "putsHabit", "(II)V"⟩, 46) := ⟨⟨by decide +kernel, by decide +kernel⟩, List.mem_of_getElem? (i := 1189) (by decide +kernel), List.mem_of_getElem? (i := 1442) (by decide +kernel), List.mem_of_getElem? (i := 1443) (by decide +kernel)⟩
def lw_privs_3 : List (MethodName × Nat) := [(⟨"HeavierServes$Trials", "gather", "(LHeavierServes$Pairs;)Z"⟩, 7), (⟨"HeavierServes$Trials", "comesAsDue", "(I)Z"⟩, 7), (⟨"HeavierServes$Office", "heavierWho", "(LHeavierServes$State;)I"⟩, 3), (⟨"HeavierServes$Office", "heaviestOf", "(LHeavierServes$State;I)I"⟩, 3), (⟨"HeavierServes$Future", "chanceInTwo", "(I)J"⟩, 13), (⟨"java/lang/Throwable", "fillInStackTrace", "(I)Ljava/lang/Throwable;"⟩, 6), (⟨"HeavierServesModel", "begins", "(I)I"⟩, 46), (⟨"HeavierServesModel", "readsPerson", "()Z"⟩, 46), (⟨"HeavierServesModel", "isDigit", "()Z"⟩, 46), (⟨"HeavierServesModel", "number", "(I)I"⟩, 46), (⟨"HeavierServesModel", "takes", "(I)Z"⟩, 46), (⟨"HeavierServesModel", "among", "(Ljava/lang/String;)I"⟩, 46), (⟨"HeavierServesModel", "readsHabit", "(I)Z"⟩, 46), (⟨"HeavierServesModel", "faultOf", "(IIZ)I"⟩, 46), (⟨"HeavierServesModel", "comes", "(II)V"⟩, 46), (⟨"HeavierServesModel", "putsHabit", "(II)V"⟩, 46)]
theorem lw_r3 : ∀ q ∈ lw_privs_3, lw_okq q := List.forall_mem_cons.mpr ⟨lw_p32, List.forall_mem_cons.mpr ⟨lw_p33, List.forall_mem_cons.mpr ⟨lw_p34, List.forall_mem_cons.mpr ⟨lw_p35, List.forall_mem_cons.mpr ⟨lw_p36, List.forall_mem_cons.mpr ⟨lw_p37, List.forall_mem_cons.mpr ⟨lw_p38, List.forall_mem_cons.mpr ⟨lw_p39, List.forall_mem_cons.mpr ⟨lw_p40, List.forall_mem_cons.mpr ⟨lw_p41, List.forall_mem_cons.mpr ⟨lw_p42, List.forall_mem_cons.mpr ⟨lw_p43, List.forall_mem_cons.mpr ⟨lw_p44, List.forall_mem_cons.mpr ⟨lw_p45, List.forall_mem_cons.mpr ⟨lw_p46, List.forall_mem_cons.mpr ⟨lw_p47, fun _ h => absurd h List.not_mem_nil⟩⟩⟩⟩⟩⟩⟩⟩⟩⟩⟩⟩⟩⟩⟩⟩
theorem lw_p48 : lw_okq (⟨"HeavierServesModel", "isPerson", "(I)Z"⟩, 46) := ⟨⟨by decide +kernel, by decide +kernel⟩, List.mem_of_getElem? (i := 1189) (by decide +kernel), List.mem_of_getElem? (i := 1451) (by decide +kernel), List.mem_of_getElem? (i := 1452) (by decide +kernel)⟩
theorem lw_p49 : lw_okq (⟨"HeavierServesModel", "readsRank", "(I)Z"⟩, 46) := ⟨⟨by decide +kernel, by decide +kernel⟩, List.mem_of_getElem? (i := 1189) (by decide +kernel), List.mem_of_getElem? (i := 1459) (by decide +kernel), List.mem_of_getElem? (i := 1460) (by decide +kernel)⟩
theorem lw_p50 : lw_okq (⟨"HeavierServesModel", "readsThing", "()Z"⟩, 46) := ⟨⟨by decide +kernel, by decide +kernel⟩, List.mem_of_getElem? (i := 1189) (by decide +kernel), List.mem_of_getElem? (i := 1463) (by decide +kernel), List.mem_of_getElem? (i := 1464) (by decide +kernel)⟩
theorem lw_p51 : lw_okq (⟨"HeavierServesModel", "codes", "(I)V"⟩, 46) := ⟨⟨by decide +kernel, by decide +kernel⟩, List.mem_of_getElem? (i := 1189) (by decide +kernel), List.mem_of_getElem? (i := 1467) (by decide +kernel), List.mem_of_getElem? (i := 1468) (by decide +kernel)⟩
theorem lw_p52 : lw_okq (⟨"HeavierServesModel", "refuse", "()I"⟩, 46) := ⟨⟨by decide +kernel, by decide +kernel⟩, List.mem_of_getElem? (i := 1189) (by decide +kernel), List.mem_of_getElem? (i := 1479) (by decide +kernel), List.mem_of_getElem? (i := 1480) (by decide +kernel)⟩
theorem lw_p53 : lw_okq (⟨"HeavierServesModel", "shows", "(I)I"⟩, 46) := ⟨⟨by decide +kernel, by decide +kernel⟩, List.mem_of_getElem? (i := 1189) (by decide +kernel), List.mem_of_getElem? (i := 1486) (by decide +kernel), List.mem_of_getElem? (i := 1487) (by decide +kernel)⟩
theorem lw_p54 : lw_okq (⟨"HeavierServesModel", "willOf", "([II)I"⟩, 46) := ⟨⟨by decide +kernel, by decide +kernel⟩, List.mem_of_getElem? (i := 1189) (by decide +kernel), List.mem_of_getElem? (i := 1491) (by decide +kernel), List.mem_of_getElem? (i := 1492) (by decide +kernel)⟩
theorem lw_p55 : lw_okq (⟨"HeavierServesModel", "thingOf", "([III)I"⟩, 46) := ⟨⟨by decide +kernel, by decide +kernel⟩, List.mem_of_getElem? (i := 1189) (by decide +kernel), List.mem_of_getElem? (i := 1498) (by decide +kernel), List.mem_of_getElem? (i := 1499) (by decide +kernel)⟩
theorem lw_p56 : lw_okq (⟨"HeavierServesModel", "holding", "([I)I"⟩, 46) := ⟨⟨by decide +kernel, by decide +kernel⟩, List.mem_of_getElem? (i := 1189) (by decide +kernel), List.mem_of_getElem? (i := 1502) (by decide +kernel), List.mem_of_getElem? (i := 1503) (by decide +kernel)⟩
theorem lw_p57 : lw_okq (⟨"HeavierServesModel", "putsBy", "()V"⟩, 46) := ⟨⟨by decide +kernel, by decide +kernel⟩, List.mem_of_getElem? (i := 1189) (by decide +kernel), List.mem_of_getElem? (i := 1534) (by decide +kernel), List.mem_of_getElem? (i := 1535) (by decide +kernel)⟩
theorem lw_p58 : lw_okq (⟨"HeavierServesModel", "goes", "([II)V"⟩, 46) := ⟨⟨by decide +kernel, by decide +kernel⟩, List.mem_of_getElem? (i := 1189) (by decide +kernel), List.mem_of_getElem? (i := 1538) (by decide +kernel), List.mem_of_getElem? (i := 1539) (by decide +kernel)⟩
theorem lw_p59 : lw_okq (⟨"HeavierServesModel", "falls", "([I)I"⟩, 46) := ⟨⟨by decide +kernel, by decide +kernel⟩, List.mem_of_getElem? (i := 1189) (by decide +kernel), List.mem_of_getElem? (i := 1542) (by decide +kernel), List.mem_of_getElem? (i := 1543) (by decide +kernel)⟩
theorem lw_p60 : lw_okq (⟨"HeavierServesModel", "enters", "(J)V"⟩, 46) := ⟨⟨by decide +kernel, by decide +kernel⟩, List.mem_of_getElem? (i := 1189) (by decide +kernel), List.mem_of_getElem? (i := 1546) (by decide +kernel), List.mem_of_getElem? (i := 1547) (by decide +kernel)⟩
theorem lw_p61 : lw_okq (⟨"HeavierServesModel", "willing", "([I)I"⟩, 46) := ⟨⟨by decide +kernel, by decide +kernel⟩, List.mem_of_getElem? (i := 1189) (by decide +kernel), List.mem_of_getElem? (i := 1555) (by decide +kernel), List.mem_of_getElem? (i := 1556) (by decide +kernel)⟩
theorem lw_p62 : lw_okq (⟨"HeavierServesModel", "readsWeek", "()V"⟩, 46) := ⟨⟨by decide +kernel, by decide +kernel⟩, List.mem_of_getElem? (i := 1189) (by decide +kernel), List.mem_of_getElem? (i := 1563) (by decide +kernel), List.mem_of_getElem? (i := 1564) (by decide +kernel)⟩
theorem lw_p63 : lw_okq (⟨"HeavierServesModel", "isAlive", "(I)Z"⟩, 46) := ⟨⟨by decide +kernel, by decide +kernel⟩, List.mem_of_getElem? (i := 1189) (by decide +kernel), List.mem_of_getElem? (i := 1579) (by decide +kernel), List.mem_of_getElem? (i := 1580) (by decide +kernel)⟩
def lw_privs_4 : List (MethodName × Nat) := [(⟨"HeavierServesModel", "isPerson", "(I)Z"⟩, 46), (⟨"HeavierServesModel", "readsRank", "(I)Z"⟩, 46), (⟨"HeavierServesModel", "readsThing", "()Z"⟩, 46), (⟨"HeavierServesModel", "codes", "(I)V"⟩, 46), (⟨"HeavierServesModel", "refuse", "()I"⟩, 46), (⟨"HeavierServesModel", "shows", "(I)I"⟩, 46), (⟨"HeavierServesModel", "willOf", "([II)I"⟩, 46), (⟨"HeavierServesModel", "thingOf", "([III)I"⟩, 46), (⟨"HeavierServesModel", "holding", "([I)I"⟩, 46), (⟨"HeavierServesModel", "putsBy", "()V"⟩, 46), (⟨"HeavierServesModel", "goes", "([II)V"⟩, 46), (⟨"HeavierServesModel", "falls", "([I)I"⟩, 46), (⟨"HeavierServesModel", "enters", "(J)V"⟩, 46), (⟨"HeavierServesModel", "willing", "([I)I"⟩, 46), (⟨"HeavierServesModel", "readsWeek", "()V"⟩, 46), (⟨"HeavierServesModel", "isAlive", "(I)Z"⟩, 46)]
theorem lw_r4 : ∀ q ∈ lw_privs_4, lw_okq q := List.forall_mem_cons.mpr ⟨lw_p48, List.forall_mem_cons.mpr ⟨lw_p49, List.forall_mem_cons.mpr ⟨lw_p50, List.forall_mem_cons.mpr ⟨lw_p51, List.forall_mem_cons.mpr ⟨lw_p52, List.forall_mem_cons.mpr ⟨lw_p53, List.forall_mem_cons.mpr ⟨lw_p54, List.forall_mem_cons.mpr ⟨lw_p55, List.forall_mem_cons.mpr ⟨lw_p56, List.forall_mem_cons.mpr ⟨lw_p57, List.forall_mem_cons.mpr ⟨lw_p58, List.forall_mem_cons.mpr ⟨lw_p59, List.forall_mem_cons.mpr ⟨lw_p60, List.forall_mem_cons.mpr ⟨lw_p61, List.forall_mem_cons.mpr ⟨lw_p62, List.forall_mem_cons.mpr ⟨lw_p63, fun _ h => absurd h List.not_mem_nil⟩⟩⟩⟩⟩⟩⟩⟩⟩⟩⟩⟩⟩⟩⟩⟩
theorem lw_p64 : lw_okq (⟨"HeavierServesModel", "eats", "(II)I"⟩, 46) := ⟨⟨by decide +kernel, by decide +kernel⟩, List.mem_of_getElem? (i := 1189) (by decide +kernel), List.mem_of_getElem? (i := 1583) (by decide +kernel), List.mem_of_getElem? (i := 1584) (by decide +kernel)⟩
theorem lw_p65 : lw_okq (⟨"HeavierServesModel", "starts", "()V"⟩, 46) := ⟨⟨by decide +kernel, by decide +kernel⟩, List.mem_of_getElem? (i := 1189) (by decide +kernel), List.mem_of_getElem? (i := 1606) (by decide +kernel), List.mem_of_getElem? (i := 1607) (by decide +kernel)⟩
theorem lw_p66 : lw_okq (⟨"HeavierServesModel", "goesBy", "(II)V"⟩, 46) := ⟨⟨by decide +kernel, by decide +kernel⟩, List.mem_of_getElem? (i := 1189) (by decide +kernel), List.mem_of_getElem? (i := 1613) (by decide +kernel), List.mem_of_getElem? (i := 1614) (by decide +kernel)⟩
theorem lw_p67 : lw_okq (⟨"HeavierServesModel", "goesNext", "(I)V"⟩, 46) := ⟨⟨by decide +kernel, by decide +kernel⟩, List.mem_of_getElem? (i := 1189) (by decide +kernel), List.mem_of_getElem? (i := 1617) (by decide +kernel), List.mem_of_getElem? (i := 1618) (by decide +kernel)⟩
theorem lw_p68 : lw_okq (⟨"HeavierServesModel", "plans", "(II)Z"⟩, 46) := ⟨⟨by decide +kernel, by decide +kernel⟩, List.mem_of_getElem? (i := 1189) (by decide +kernel), List.mem_of_getElem? (i := 1646) (by decide +kernel), List.mem_of_getElem? (i := 1647) (by decide +kernel)⟩
theorem lw_p69 : lw_okq (⟨"HeavierServesModel", "byPlans", "(II)I"⟩, 46) := ⟨⟨by decide +kernel, by decide +kernel⟩, List.mem_of_getElem? (i := 1189) (by decide +kernel), List.mem_of_getElem? (i := 1650) (by decide +kernel), List.mem_of_getElem? (i := 1651) (by decide +kernel)⟩
theorem lw_p70 : lw_okq (⟨"HeavierServesModel", "servedBy", "(I)I"⟩, 46) := ⟨⟨by decide +kernel, by decide +kernel⟩, List.mem_of_getElem? (i := 1189) (by decide +kernel), List.mem_of_getElem? (i := 1658) (by decide +kernel), List.mem_of_getElem? (i := 1659) (by decide +kernel)⟩
theorem lw_p71 : lw_okq (⟨"HeavierServesModel", "startsWith", "(II)V"⟩, 46) := ⟨⟨by decide +kernel, by decide +kernel⟩, List.mem_of_getElem? (i := 1189) (by decide +kernel), List.mem_of_getElem? (i := 1678) (by decide +kernel), List.mem_of_getElem? (i := 1679) (by decide +kernel)⟩
theorem lw_p72 : lw_okq (⟨"HeavierServesModel", "weightsOf", "(IZ)I"⟩, 46) := ⟨⟨by decide +kernel, by decide +kernel⟩, List.mem_of_getElem? (i := 1189) (by decide +kernel), List.mem_of_getElem? (i := 1707) (by decide +kernel), List.mem_of_getElem? (i := 1708) (by decide +kernel)⟩
theorem lw_p73 : lw_okq (⟨"HeavierServesModel", "canBe", "(II)Z"⟩, 46) := ⟨⟨by decide +kernel, by decide +kernel⟩, List.mem_of_getElem? (i := 1189) (by decide +kernel), List.mem_of_getElem? (i := 1711) (by decide +kernel), List.mem_of_getElem? (i := 1712) (by decide +kernel)⟩
theorem lw_p74 : lw_okq (⟨"HeavierServesModel", "tellsSpan", "(III)V"⟩, 46) := ⟨⟨by decide +kernel, by decide +kernel⟩, List.mem_of_getElem? (i := 1189) (by decide +kernel), List.mem_of_getElem? (i := 1715) (by decide +kernel), List.mem_of_getElem? (i := 1716) (by decide +kernel)⟩
theorem lw_p75 : lw_okq (⟨"HeavierServesModel", "wrong", "()I"⟩, 46) := ⟨⟨by decide +kernel, by decide +kernel⟩, List.mem_of_getElem? (i := 1189) (by decide +kernel), List.mem_of_getElem? (i := 1727) (by decide +kernel), List.mem_of_getElem? (i := 1728) (by decide +kernel)⟩
theorem lw_p76 : lw_okq (⟨"HeavierServesModel", "isSo", "(I)Z"⟩, 46) := ⟨⟨by decide +kernel, by decide +kernel⟩, List.mem_of_getElem? (i := 1189) (by decide +kernel), List.mem_of_getElem? (i := 1747) (by decide +kernel), List.mem_of_getElem? (i := 1748) (by decide +kernel)⟩
theorem lw_p77 : lw_okq (⟨"HeavierServesModel", "entersFraction", "(JJ)V"⟩, 46) := ⟨⟨by decide +kernel, by decide +kernel⟩, List.mem_of_getElem? (i := 1189) (by decide +kernel), List.mem_of_getElem? (i := 1764) (by decide +kernel), List.mem_of_getElem? (i := 1765) (by decide +kernel)⟩
theorem lw_p78 : lw_okq (⟨"HeavierServesModel", "oddsOf", "([I[J)V"⟩, 46) := ⟨⟨by decide +kernel, by decide +kernel⟩, List.mem_of_getElem? (i := 1189) (by decide +kernel), List.mem_of_getElem? (i := 1771) (by decide +kernel), List.mem_of_getElem? (i := 1772) (by decide +kernel)⟩
theorem lw_p79 : lw_okq (⟨"HeavierServesModel", "lawsThatHold", "()I"⟩, 46) := ⟨⟨by decide +kernel, by decide +kernel⟩, List.mem_of_getElem? (i := 1189) (by decide +kernel), List.mem_of_getElem? (i := 1793) (by decide +kernel), List.mem_of_getElem? (i := 1794) (by decide +kernel)⟩
def lw_privs_5 : List (MethodName × Nat) := [(⟨"HeavierServesModel", "eats", "(II)I"⟩, 46), (⟨"HeavierServesModel", "starts", "()V"⟩, 46), (⟨"HeavierServesModel", "goesBy", "(II)V"⟩, 46), (⟨"HeavierServesModel", "goesNext", "(I)V"⟩, 46), (⟨"HeavierServesModel", "plans", "(II)Z"⟩, 46), (⟨"HeavierServesModel", "byPlans", "(II)I"⟩, 46), (⟨"HeavierServesModel", "servedBy", "(I)I"⟩, 46), (⟨"HeavierServesModel", "startsWith", "(II)V"⟩, 46), (⟨"HeavierServesModel", "weightsOf", "(IZ)I"⟩, 46), (⟨"HeavierServesModel", "canBe", "(II)Z"⟩, 46), (⟨"HeavierServesModel", "tellsSpan", "(III)V"⟩, 46), (⟨"HeavierServesModel", "wrong", "()I"⟩, 46), (⟨"HeavierServesModel", "isSo", "(I)Z"⟩, 46), (⟨"HeavierServesModel", "entersFraction", "(JJ)V"⟩, 46), (⟨"HeavierServesModel", "oddsOf", "([I[J)V"⟩, 46), (⟨"HeavierServesModel", "lawsThatHold", "()I"⟩, 46)]
theorem lw_r5 : ∀ q ∈ lw_privs_5, lw_okq q := List.forall_mem_cons.mpr ⟨lw_p64, List.forall_mem_cons.mpr ⟨lw_p65, List.forall_mem_cons.mpr ⟨lw_p66, List.forall_mem_cons.mpr ⟨lw_p67, List.forall_mem_cons.mpr ⟨lw_p68, List.forall_mem_cons.mpr ⟨lw_p69, List.forall_mem_cons.mpr ⟨lw_p70, List.forall_mem_cons.mpr ⟨lw_p71, List.forall_mem_cons.mpr ⟨lw_p72, List.forall_mem_cons.mpr ⟨lw_p73, List.forall_mem_cons.mpr ⟨lw_p74, List.forall_mem_cons.mpr ⟨lw_p75, List.forall_mem_cons.mpr ⟨lw_p76, List.forall_mem_cons.mpr ⟨lw_p77, List.forall_mem_cons.mpr ⟨lw_p78, List.forall_mem_cons.mpr ⟨lw_p79, fun _ h => absurd h List.not_mem_nil⟩⟩⟩⟩⟩⟩⟩⟩⟩⟩⟩⟩⟩⟩⟩⟩
def lw_privs : List (MethodName × Nat) := lw_privs_1 ++ (lw_privs_2 ++ (lw_privs_3 ++ (lw_privs_4 ++ (lw_privs_5))))
def lw_tbl : List Cond := k2_sels lw_privs ++ tables_1
theorem lw_privs_ok : ∀ q ∈ lw_privs, lw_okq q := by
  show ∀ q ∈ lw_privs_1 ++ (lw_privs_2 ++ (lw_privs_3 ++ (lw_privs_4 ++ (lw_privs_5)))), lw_okq q
  exact List.forall_mem_append.mpr ⟨lw_r1, List.forall_mem_append.mpr ⟨lw_r2, List.forall_mem_append.mpr ⟨lw_r3, List.forall_mem_append.mpr ⟨lw_r4, lw_r5⟩⟩⟩⟩
end
section
/-! ===== classes, fields, methods, links: data ===== -/
def RX0 : String := "HeavierServes$Future"
def TX0 : u_T := fun k => match k with
  | 0 => ("HeavierServes$Future", "now", "LHeavierServes$State;", true)
  | 1 => ("HeavierServes$Future", "town", "LHeavierServes$Town;", true)
  | 2 => ("HeavierServes$Future", "office", "LHeavierServes$Office;", true)
  | 3 => ("HeavierServes$Future", "row", "LHeavierServes$Row;", true)
  | 4 => ("HeavierServes$Future", "ladder", "[LHeavierServes$State;", true)
  | 5 => ("HeavierServes$Future", "course", "LHeavierServes$State;", true)
  | 6 => ("HeavierServes$Future", "plans", "[I", true)
  | 7 => ("HeavierServes$Future", "shares", "[J", true)
  | 8 => ("HeavierServes$Future", "sharesThen", "[J", true)
  | 9 => ("HeavierServes$Future", "chooser", "I", false)
  | 10 => ("HeavierServes$Future", "choices", "I", false)
  | 11 => ("HeavierServes$Future", "bestWeeks", "I", false)
  | _ => ("HeavierServes$Future", "bestPlan", "I", false)
def tyX0 : Nat → FieldType := fun k => match k with
  | 0 => .object "HeavierServes$State"
  | 1 => .object "HeavierServes$Town"
  | 2 => .object "HeavierServes$Office"
  | 3 => .object "HeavierServes$Row"
  | 4 => .array (.object "HeavierServes$State")
  | 5 => .object "HeavierServes$State"
  | 6 => .array .int
  | 7 => .array .long
  | 8 => .array .long
  | 9 => .int
  | 10 => .int
  | 11 => .int
  | _ => .int
theorem nmX0 : ∀ a, a < 13 → ∀ b, b < 13 → a ≠ b → (TX0 a).2.1 ≠ (TX0 b).2.1 := by decide +kernel
theorem tyX0_ok : ∀ k, k < 13 → parseFieldDescriptor (TX0 k).2.2.1 = some (tyX0 k) := by decide +kernel
def RX1 : String := "HeavierServes$Office"
def TX1 : u_T := fun k => match k with
  | 0 => ("HeavierServes$Office", "town", "LHeavierServes$Town;", true)
  | 1 => ("HeavierServes$Office", "will", "LHeavierServes$Will;", true)
  | _ => ("HeavierServes$Office", "scale", "LHeavierServes$Scale;", true)
def tyX1 : Nat → FieldType := fun k => match k with
  | 0 => .object "HeavierServes$Town"
  | 1 => .object "HeavierServes$Will"
  | _ => .object "HeavierServes$Scale"
theorem nmX1 : ∀ a, a < 3 → ∀ b, b < 3 → a ≠ b → (TX1 a).2.1 ≠ (TX1 b).2.1 := by decide +kernel
theorem tyX1_ok : ∀ k, k < 3 → parseFieldDescriptor (TX1 k).2.2.1 = some (tyX1 k) := by decide +kernel
def RX2 : String := "HeavierServes$Pairs"
def TX2 : u_T := fun k => match k with
  | 0 => ("HeavierServes$Pairs", "persons", "[I", true)
  | 1 => ("HeavierServes$Pairs", "values", "[I", true)
  | _ => ("HeavierServes$Pairs", "size", "I", false)
def tyX2 : Nat → FieldType := fun k => match k with
  | 0 => .array .int
  | 1 => .array .int
  | _ => .int
theorem nmX2 : ∀ a, a < 3 → ∀ b, b < 3 → a ≠ b → (TX2 a).2.1 ≠ (TX2 b).2.1 := by decide +kernel
theorem tyX2_ok : ∀ k, k < 3 → parseFieldDescriptor (TX2 k).2.2.1 = some (tyX2 k) := by decide +kernel
def RX3 : String := "HeavierServes$Past"
def TX3 : u_T := fun k => match k with
  | 0 => ("HeavierServes$Past", "ahead", "[LHeavierServes$State;", true)
  | 1 => ("HeavierServes$Past", "kept", "[LHeavierServes$State;", true)
  | 2 => ("HeavierServes$Past", "keptPeople", "[I", true)
  | 3 => ("HeavierServes$Past", "first", "I", false)
  | _ => ("HeavierServes$Past", "steps", "I", false)
def tyX3 : Nat → FieldType := fun k => match k with
  | 0 => .array (.object "HeavierServes$State")
  | 1 => .array (.object "HeavierServes$State")
  | 2 => .array .int
  | 3 => .int
  | _ => .int
theorem nmX3 : ∀ a, a < 5 → ∀ b, b < 5 → a ≠ b → (TX3 a).2.1 ≠ (TX3 b).2.1 := by decide +kernel
theorem tyX3_ok : ∀ k, k < 5 → parseFieldDescriptor (TX3 k).2.2.1 = some (tyX3 k) := by decide +kernel
def RX4 : String := "HeavierServes$Row"
def TX4 : u_T := fun k => match k with
  | 0 => ("HeavierServes$Row", "numbers", "[J", true)
  | _ => ("HeavierServes$Row", "size", "I", false)
def tyX4 : Nat → FieldType := fun k => match k with
  | 0 => .array .long
  | _ => .int
theorem nmX4 : ∀ a, a < 2 → ∀ b, b < 2 → a ≠ b → (TX4 a).2.1 ≠ (TX4 b).2.1 := by decide +kernel
theorem tyX4_ok : ∀ k, k < 2 → parseFieldDescriptor (TX4 k).2.2.1 = some (tyX4 k) := by decide +kernel
def RX5 : String := "HeavierServes$Scale"
def TX5 : u_T := fun k => match k with
  | 0 => ("HeavierServes$Scale", "grain", "I", false)
  | 1 => ("HeavierServes$Scale", "off", "I", false)
  | 2 => ("HeavierServes$Scale", "least", "I", false)
  | _ => ("HeavierServes$Scale", "greatest", "I", false)
def tyX5 : Nat → FieldType := fun k => match k with
  | 0 => .int
  | 1 => .int
  | 2 => .int
  | _ => .int
theorem nmX5 : ∀ a, a < 4 → ∀ b, b < 4 → a ≠ b → (TX5 a).2.1 ≠ (TX5 b).2.1 := by decide +kernel
theorem tyX5_ok : ∀ k, k < 4 → parseFieldDescriptor (TX5 k).2.2.1 = some (tyX5 k) := by decide +kernel
def RX6 : String := "HeavierServes$State"
def TX6 : u_T := fun k => match k with
  | 0 => ("HeavierServes$State", "week", "I", false)
  | 1 => ("HeavierServes$State", "server", "I", false)
  | 2 => ("HeavierServes$State", "since", "I", false)
  | 3 => ("HeavierServes$State", "alive", "I", false)
  | 4 => ("HeavierServes$State", "holds", "I", false)
  | 5 => ("HeavierServes$State", "holding", "I", false)
  | 6 => ("HeavierServes$State", "lawsMade", "I", false)
  | 7 => ("HeavierServes$State", "weight", "[I", true)
  | 8 => ("HeavierServes$State", "weeksServed", "[I", true)
  | 9 => ("HeavierServes$State", "maker", "[I", true)
  | 10 => ("HeavierServes$State", "madeIn", "[I", true)
  | 11 => ("HeavierServes$State", "fellIn", "[I", true)
  | _ => ("HeavierServes$State", "history", "[I", true)
def tyX6 : Nat → FieldType := fun k => match k with
  | 0 => .int
  | 1 => .int
  | 2 => .int
  | 3 => .int
  | 4 => .int
  | 5 => .int
  | 6 => .int
  | 7 => .array .int
  | 8 => .array .int
  | 9 => .array .int
  | 10 => .array .int
  | 11 => .array .int
  | _ => .array .int
theorem nmX6 : ∀ a, a < 13 → ∀ b, b < 13 → a ≠ b → (TX6 a).2.1 ≠ (TX6 b).2.1 := by decide +kernel
theorem tyX6_ok : ∀ k, k < 13 → parseFieldDescriptor (TX6 k).2.2.1 = some (tyX6 k) := by decide +kernel
def RX7 : String := "HeavierServes$Text"
def TX7 : u_T := fun k => match k with
  | 0 => ("HeavierServes$Text", "signs", "[I", true)
  | 1 => ("HeavierServes$Text", "length", "I", false)
  | _ => ("HeavierServes$Text", "readable", "I", false)
def tyX7 : Nat → FieldType := fun k => match k with
  | 0 => .array .int
  | 1 => .int
  | _ => .int
theorem nmX7 : ∀ a, a < 3 → ∀ b, b < 3 → a ≠ b → (TX7 a).2.1 ≠ (TX7 b).2.1 := by decide +kernel
theorem tyX7_ok : ∀ k, k < 3 → parseFieldDescriptor (TX7 k).2.2.1 = some (tyX7 k) := by decide +kernel
def RX8 : String := "HeavierServes$Town"
def TX8 : u_T := fun k => match k with
  | 0 => ("HeavierServes$Town", "party", "[I", true)
  | 1 => ("HeavierServes$Town", "ill", "[I", true)
  | 2 => ("HeavierServes$Town", "habitLength", "[I", true)
  | 3 => ("HeavierServes$Town", "habits", "[I", true)
  | 4 => ("HeavierServes$Town", "weightTold", "[I", true)
  | 5 => ("HeavierServes$Town", "draft", "[I", true)
  | 6 => ("HeavierServes$Town", "drafted", "I", false)
  | 7 => ("HeavierServes$Town", "place", "I", false)
  | 8 => ("HeavierServes$Town", "lines", "I", false)
  | _ => ("HeavierServes$Town", "people", "I", false)
def tyX8 : Nat → FieldType := fun k => match k with
  | 0 => .array .int
  | 1 => .array .int
  | 2 => .array .int
  | 3 => .array .int
  | 4 => .array .int
  | 5 => .array .int
  | 6 => .int
  | 7 => .int
  | 8 => .int
  | _ => .int
theorem nmX8 : ∀ a, a < 10 → ∀ b, b < 10 → a ≠ b → (TX8 a).2.1 ≠ (TX8 b).2.1 := by decide +kernel
theorem tyX8_ok : ∀ k, k < 10 → parseFieldDescriptor (TX8 k).2.2.1 = some (tyX8 k) := by decide +kernel
def RX9 : String := "HeavierServes$Trials"
def TX9 : u_T := fun k => match k with
  | 0 => ("HeavierServes$Trials", "now", "LHeavierServes$State;", true)
  | 1 => ("HeavierServes$Trials", "town", "LHeavierServes$Town;", true)
  | 2 => ("HeavierServes$Trials", "office", "LHeavierServes$Office;", true)
  | 3 => ("HeavierServes$Trials", "row", "LHeavierServes$Row;", true)
  | 4 => ("HeavierServes$Trials", "trial", "LHeavierServes$State;", true)
  | 5 => ("HeavierServes$Trials", "due", "[I", true)
  | _ => ("HeavierServes$Trials", "lastDue", "I", false)
def tyX9 : Nat → FieldType := fun k => match k with
  | 0 => .object "HeavierServes$State"
  | 1 => .object "HeavierServes$Town"
  | 2 => .object "HeavierServes$Office"
  | 3 => .object "HeavierServes$Row"
  | 4 => .object "HeavierServes$State"
  | 5 => .array .int
  | _ => .int
theorem nmX9 : ∀ a, a < 7 → ∀ b, b < 7 → a ≠ b → (TX9 a).2.1 ≠ (TX9 b).2.1 := by decide +kernel
theorem tyX9_ok : ∀ k, k < 7 → parseFieldDescriptor (TX9 k).2.2.1 = some (tyX9 k) := by decide +kernel
def RX10 : String := "HeavierServes$Will"
def TX10 : u_T := fun k => match k with
  | 0 => ("HeavierServes$Will", "codes", "[I", true)
  | 1 => ("HeavierServes$Will", "draft", "[I", true)
  | 2 => ("HeavierServes$Will", "stack", "[I", true)
  | 3 => ("HeavierServes$Will", "size", "I", false)
  | 4 => ("HeavierServes$Will", "drafted", "I", false)
  | _ => ("HeavierServes$Will", "place", "I", false)
def tyX10 : Nat → FieldType := fun k => match k with
  | 0 => .array .int
  | 1 => .array .int
  | 2 => .array .int
  | 3 => .int
  | 4 => .int
  | _ => .int
theorem nmX10 : ∀ a, a < 6 → ∀ b, b < 6 → a ≠ b → (TX10 a).2.1 ≠ (TX10 b).2.1 := by decide +kernel
theorem tyX10_ok : ∀ k, k < 6 → parseFieldDescriptor (TX10 k).2.2.1 = some (tyX10 k) := by decide +kernel
def RX11 : String := "HeavierServes"
def TX11 : u_T := fun k => match k with
  | 0 => ("HeavierServes", "text", "LHeavierServes$Text;", true)
  | 1 => ("HeavierServes", "row", "LHeavierServes$Row;", true)
  | 2 => ("HeavierServes", "town", "LHeavierServes$Town;", true)
  | 3 => ("HeavierServes", "will", "LHeavierServes$Will;", true)
  | 4 => ("HeavierServes", "scale", "LHeavierServes$Scale;", true)
  | 5 => ("HeavierServes", "now", "LHeavierServes$State;", true)
  | 6 => ("HeavierServes", "past", "LHeavierServes$Past;", true)
  | 7 => ("HeavierServes", "weighings", "LHeavierServes$Pairs;", true)
  | 8 => ("HeavierServes", "tellings", "LHeavierServes$Pairs;", true)
  | 9 => ("HeavierServes", "office", "LHeavierServes$Office;", true)
  | 10 => ("HeavierServes", "future", "LHeavierServes$Future;", true)
  | _ => ("HeavierServes", "trials", "LHeavierServes$Trials;", true)
def tyX11 : Nat → FieldType := fun k => match k with
  | 0 => .object "HeavierServes$Text"
  | 1 => .object "HeavierServes$Row"
  | 2 => .object "HeavierServes$Town"
  | 3 => .object "HeavierServes$Will"
  | 4 => .object "HeavierServes$Scale"
  | 5 => .object "HeavierServes$State"
  | 6 => .object "HeavierServes$Past"
  | 7 => .object "HeavierServes$Pairs"
  | 8 => .object "HeavierServes$Pairs"
  | 9 => .object "HeavierServes$Office"
  | 10 => .object "HeavierServes$Future"
  | _ => .object "HeavierServes$Trials"
theorem nmX11 : ∀ a, a < 12 → ∀ b, b < 12 → a ≠ b → (TX11 a).2.1 ≠ (TX11 b).2.1 := by decide +kernel
theorem tyX11_ok : ∀ k, k < 12 → parseFieldDescriptor (TX11 k).2.2.1 = some (tyX11 k) := by decide +kernel
def RX12 : String := "HeavierServesModel"
def TX12 : u_T := fun k => match k with
  | 0 => ("HeavierServesModel", "thrown", "I", false)
  | 1 => ("HeavierServesModel", "rows", "I", false)
  | 2 => ("HeavierServesModel", "row", "[J", true)
  | 3 => ("HeavierServesModel", "people", "I", false)
  | 4 => ("HeavierServesModel", "party", "[I", true)
  | 5 => ("HeavierServesModel", "ill", "[I", true)
  | 6 => ("HeavierServesModel", "habit", "[I", true)
  | 7 => ("HeavierServesModel", "habitMany", "[I", true)
  | 8 => ("HeavierServesModel", "grain", "I", false)
  | 9 => ("HeavierServesModel", "off", "I", false)
  | 10 => ("HeavierServesModel", "now", "[I", true)
  | 11 => ("HeavierServesModel", "next", "[I", true)
  | 12 => ("HeavierServesModel", "tape", "[I", true)
  | 13 => ("HeavierServesModel", "taped", "I", false)
  | 14 => ("HeavierServesModel", "at", "I", false)
  | 15 => ("HeavierServesModel", "to", "I", false)
  | 16 => ("HeavierServesModel", "nest", "I", false)
  | 17 => ("HeavierServesModel", "readWeight", "[I", true)
  | 18 => ("HeavierServesModel", "readParty", "[I", true)
  | 19 => ("HeavierServesModel", "readHabit", "[I", true)
  | 20 => ("HeavierServesModel", "readHabitMany", "[I", true)
  | 21 => ("HeavierServesModel", "readMany", "I", false)
  | 22 => ("HeavierServesModel", "code", "[I", true)
  | 23 => ("HeavierServesModel", "readCode", "[I", true)
  | 24 => ("HeavierServesModel", "codeLong", "I", false)
  | 25 => ("HeavierServesModel", "readLong", "I", false)
  | 26 => ("HeavierServesModel", "stack", "[I", true)
  | 27 => ("HeavierServesModel", "fell", "I", false)
  | 28 => ("HeavierServesModel", "undos", "I", false)
  | 29 => ("HeavierServesModel", "undone", "[I", true)
  | 30 => ("HeavierServesModel", "readStand", "[I", true)
  | 31 => ("HeavierServesModel", "readWeeks", "I", false)
  | 32 => ("HeavierServesModel", "servedFor", "[I", true)
  | 33 => ("HeavierServesModel", "plan", "[I", true)
  | 34 => ("HeavierServesModel", "weighings", "I", false)
  | 35 => ("HeavierServesModel", "weighedWho", "[I", true)
  | 36 => ("HeavierServesModel", "weighedShown", "[I", true)
  | 37 => ("HeavierServesModel", "dates", "I", false)
  | 38 => ("HeavierServesModel", "dateWho", "[I", true)
  | 39 => ("HeavierServesModel", "dateWeek", "[I", true)
  | 40 => ("HeavierServesModel", "chance", "[J", true)
  | 41 => ("HeavierServesModel", "chanceThen", "[J", true)
  | 42 => ("HeavierServesModel", "behind", "[I", true)
  | 43 => ("HeavierServesModel", "isKept", "[Z", true)
  | 44 => ("HeavierServesModel", "keptPeople", "[I", true)
  | _ => ("HeavierServesModel", "kept", "[I", true)
def tyX12 : Nat → FieldType := fun k => match k with
  | 0 => .int
  | 1 => .int
  | 2 => .array .long
  | 3 => .int
  | 4 => .array .int
  | 5 => .array .int
  | 6 => .array .int
  | 7 => .array .int
  | 8 => .int
  | 9 => .int
  | 10 => .array .int
  | 11 => .array .int
  | 12 => .array .int
  | 13 => .int
  | 14 => .int
  | 15 => .int
  | 16 => .int
  | 17 => .array .int
  | 18 => .array .int
  | 19 => .array .int
  | 20 => .array .int
  | 21 => .int
  | 22 => .array .int
  | 23 => .array .int
  | 24 => .int
  | 25 => .int
  | 26 => .array .int
  | 27 => .int
  | 28 => .int
  | 29 => .array .int
  | 30 => .array .int
  | 31 => .int
  | 32 => .array .int
  | 33 => .array .int
  | 34 => .int
  | 35 => .array .int
  | 36 => .array .int
  | 37 => .int
  | 38 => .array .int
  | 39 => .array .int
  | 40 => .array .long
  | 41 => .array .long
  | 42 => .array .int
  | 43 => .array .boolean
  | 44 => .array .int
  | _ => .array .int
theorem nmX12 : ∀ a, a < 46 → ∀ b, b < 46 → a ≠ b → (TX12 a).2.1 ≠ (TX12 b).2.1 := by decide +kernel
theorem tyX12_ok : ∀ k, k < 46 → parseFieldDescriptor (TX12 k).2.2.1 = some (tyX12 k) := by decide +kernel
def hs_clas : List vw_C := [(RX0, TX0, 13), (RX1, TX1, 3), (RX2, TX2, 3), (RX3, TX3, 5), (RX4, TX4, 2), (RX5, TX5, 4), (RX6, TX6, 13), (RX7, TX7, 3), (RX8, TX8, 10), (RX9, TX9, 7), (RX10, TX10, 6), (RX11, TX11, 12), (RX12, TX12, 46)]
def hs_own (n : Nat) : String := (hs_nth ["HeavierServes$Future", "HeavierServes$Office", "HeavierServes$Pairs", "HeavierServes$Past", "HeavierServes$Row", "HeavierServes$Scale", "HeavierServes$State", "HeavierServes$Text", "HeavierServes$Town", "HeavierServes$Trials", "HeavierServes$Will", "HeavierServes", "HeavierServesModel", "HeavierServesLaw", "java/lang/Integer", "java/lang/Math"] n).getD ""
def hs_cT (κ : Nat) : u_T := (hs_nth [TX0, TX1, TX2, TX3, TX4, TX5, TX6, TX7, TX8, TX9, TX10, TX11, TX12] κ).getD TX0
def hs_cty (κ : Nat) : Nat → FieldType := (hs_nth [tyX0, tyX1, tyX2, tyX3, tyX4, tyX5, tyX6, tyX7, tyX8, tyX9, tyX10, tyX11, tyX12] κ).getD tyX0
def hs_cN (κ : Nat) : Nat := (hs_nth [13, 3, 3, 5, 2, 4, 13, 3, 10, 7, 6, 12, 46] κ).getD 0
/-- the bytes of a code word of the tables -/
def hs_code (i : Nat) : ByteArray := match lw_tbl[i]? with
  | some (.code _ b _ _) => b
  | _ => .empty
def hs_isC (i : Nat) (nm : MethodName) (ml : Nat) (ret : Option FieldType) : Bool := match lw_tbl[i]? with
  | some (.code n _ m r) => decide (n = nm) && (decide (m = ml) && decide (r = ret))
  | _ => false
/-- name, bytes, locals, what comes back -/
abbrev hs_N : Type := MethodName × (ByteArray × (Nat × Option FieldType))
def hs_names : List hs_N := [(⟨"java/lang/Integer", "bitCount", "(I)I"⟩, hs_code 882, 1, (some .int)),
  (⟨"java/lang/Math", "floorMod", "(II)I"⟩, hs_code 667, 3, (some .int)),
  (⟨"java/lang/Math", "max", "(II)I"⟩, hs_code 358, 2, (some .int)),
  (⟨"java/lang/Math", "min", "(II)I"⟩, hs_code 530, 2, (some .int)),
  (⟨"HeavierServes$Future", "run", "(II)V"⟩, hs_code 827, 4, none),
  (⟨"HeavierServes$Future", "gain", "(I)I"⟩, hs_code 833, 2, (some .int)),
  (⟨"HeavierServes$Future", "gainOfParty", "(I)I"⟩, hs_code 919, 4, (some .int)),
  (⟨"HeavierServes$Future", "serverThen", "(I)I"⟩, hs_code 823, 3, (some .int)),
  (⟨"HeavierServes$Future", "weeksTill", "(I)I"⟩, hs_code 842, 3, (some .int)),
  (⟨"HeavierServes$Future", "reachable", "(I)I"⟩, hs_code 850, 6, (some .int)),
  (⟨"HeavierServes$Future", "lightest", "(I)I"⟩, hs_code 854, 4, (some .int)),
  (⟨"HeavierServes$Future", "heavierThan", "(I)I"⟩, hs_code 861, 4, (some .int)),
  (⟨"HeavierServes$Future", "bestStanding", "(II)I"⟩, hs_code 871, 3, (some .int)),
  (⟨"HeavierServes$Future", "search", "(II)V"⟩, hs_code 875, 7, none),
  (⟨"HeavierServes$Future", "judge", "(II)V"⟩, hs_code 879, 4, none),
  (⟨"HeavierServes$Future", "rounds", "(II)I"⟩, hs_code 895, 6, (some .int)),
  (⟨"HeavierServes$Future", "someoneTurns", "(I)Z"⟩, hs_code 899, 5, (some .boolean)),
  (⟨"HeavierServes$Future", "bestReply", "(II)I"⟩, hs_code 903, 7, (some .int)),
  (⟨"HeavierServes$Future", "weeksByPlans", "(II)I"⟩, hs_code 907, 6, (some .int)),
  (⟨"HeavierServes$Future", "strongestParty", "(I)I"⟩, hs_code 915, 6, (some .int)),
  (⟨"HeavierServes$Future", "gainers", "()I"⟩, hs_code 923, 3, (some .int)),
  (⟨"HeavierServes$Future", "takingTurns", "(II)I"⟩, hs_code 931, 7, (some .int)),
  (⟨"HeavierServes$Future", "nextOf", "(II)I"⟩, hs_code 938, 4, (some .int)),
  (⟨"HeavierServes$Future", "foolsWorth", "(II)I"⟩, hs_code 1256, 6, (some .int)),
  (⟨"HeavierServes$Future", "tellChance", "(II)V"⟩, hs_code 1102, 3, none),
  (⟨"HeavierServes$Future", "chanceInTwo", "(I)J"⟩, hs_code 1129, 5, (some .long)),
  (⟨"HeavierServes$Future", "likeliest", "()I"⟩, hs_code 1138, 3, (some .int)),
  (⟨"HeavierServes$Office", "pass", "(LHeavierServes$State;II)V"⟩, hs_code 684, 4, none),
  (⟨"HeavierServes$Office", "finish", "(LHeavierServes$State;I)V"⟩, hs_code 714, 3, none),
  (⟨"HeavierServes$Office", "winner", "(LHeavierServes$State;II)I"⟩, hs_code 688, 8, (some .int)),
  (⟨"HeavierServes$Office", "shownOfServer", "(LHeavierServes$State;)I"⟩, hs_code 692, 2, (some .int)),
  (⟨"HeavierServes$Office", "shares", "(LHeavierServes$State;[J)V"⟩, hs_code 1114, 9, none),
  (⟨"HeavierServes$Office", "heavierWho", "(LHeavierServes$State;)I"⟩, hs_code 1118, 5, (some .int)),
  (⟨"HeavierServes$Office", "heaviestOf", "(LHeavierServes$State;I)I"⟩, hs_code 1123, 6, (some .int)),
  (⟨"HeavierServes$Pairs", "append", "(II)I"⟩, hs_code 997, 3, (some .int)),
  (⟨"HeavierServes$Pairs", "person", "(I)I"⟩, hs_code 1017, 2, (some .int)),
  (⟨"HeavierServes$Pairs", "value", "(I)I"⟩, hs_code 1021, 2, (some .int)),
  (⟨"HeavierServes$Past", "remember", "(LHeavierServes$State;)V"⟩, hs_code 664, 2, none),
  (⟨"HeavierServes$Past", "stepBack", "(LHeavierServes$State;)Z"⟩, hs_code 799, 2, (some .boolean)),
  (⟨"HeavierServes$Past", "forgetSteps", "()V"⟩, hs_code 577, 1, none),
  (⟨"HeavierServes$Past", "keepAside", "(ILHeavierServes$State;I)Z"⟩, hs_code 1146, 4, (some .boolean)),
  (⟨"HeavierServes$Past", "takeAgain", "(ILHeavierServes$State;I)Z"⟩, hs_code 1154, 4, (some .boolean)),
  (⟨"HeavierServes$Row", "begin", "(J)V"⟩, hs_code 734, 3, none),
  (⟨"HeavierServes$Row", "add", "(J)V"⟩, hs_code 738, 3, none),
  (⟨"HeavierServes$Row", "range", "(III)V"⟩, hs_code 1036, 4, none),
  (⟨"HeavierServes$Row", "fraction", "(JJ)V"⟩, hs_code 1106, 7, none),
  (⟨"HeavierServes$Row", "commonDivisor", "(JJ)J"⟩, hs_code 1109, 7, (some .long)),
  (⟨"HeavierServes$Scale", "shows", "(I)I"⟩, hs_code 696, 3, (some .int)),
  (⟨"HeavierServes$Scale", "misfits", "(LHeavierServes$Pairs;[II)I"⟩, hs_code 1044, 7, (some .int)),
  (⟨"HeavierServes$Scale", "possibleGrains", "(LHeavierServes$Pairs;I)I"⟩, hs_code 1009, 7, (some .int)),
  (⟨"HeavierServes$Scale", "narrow", "(LHeavierServes$Pairs;II)I"⟩, hs_code 1013, 5, (some .int)),
  (⟨"HeavierServes$Scale", "narrowBy", "(II)V"⟩, hs_code 1025, 3, none),
  (⟨"HeavierServes$State", "follow", "(LHeavierServes$State;)V"⟩, hs_code 675, 2, none),
  (⟨"HeavierServes$State", "copy", "(LHeavierServes$State;)V"⟩, hs_code 671, 2, none),
  (⟨"HeavierServes$State", "welcome", "(II)V"⟩, hs_code 573, 3, none),
  (⟨"HeavierServes$State", "lives", "(I)Z"⟩, hs_code 700, 2, (some .boolean)),
  (⟨"HeavierServes$State", "putWeight", "(II)V"⟩, hs_code 649, 3, none),
  (⟨"HeavierServes$State", "makeLaw", "()I"⟩, hs_code 766, 2, (some .int)),
  (⟨"HeavierServes$State", "dropLaws", "()I"⟩, hs_code 722, 3, (some .int)),
  (⟨"HeavierServes$State", "bury", "(I)I"⟩, hs_code 791, 2, (some .int)),
  (⟨"HeavierServes$State", "serveWeek", "(I)V"⟩, hs_code 718, 2, none),
  (⟨"HeavierServes$Text", "append", "(I)Z"⟩, hs_code 511, 3, (some .boolean)),
  (⟨"HeavierServes$Text", "open", "(I)V"⟩, hs_code 527, 2, none),
  (⟨"HeavierServes$Text", "signAt", "(I)I"⟩, hs_code 546, 2, (some .int)),
  (⟨"HeavierServes$Text", "digitAt", "(I)I"⟩, hs_code 542, 3, (some .int)),
  (⟨"HeavierServes$Town", "has", "(I)Z"⟩, hs_code 623, 2, (some .boolean)),
  (⟨"HeavierServes$Town", "everyone", "()I"⟩, hs_code 660, 1, (some .int)),
  (⟨"HeavierServes$Town", "ofParty", "(I)I"⟩, hs_code 935, 4, (some .int)),
  (⟨"HeavierServes$Town", "arriving", "(I)I"⟩, hs_code 569, 2, (some .int)),
  (⟨"HeavierServes$Town", "changeAt", "(II)I"⟩, hs_code 815, 4, (some .int)),
  (⟨"HeavierServes$Town", "changeWeights", "(LHeavierServes$State;)V"⟩, hs_code 727, 5, none),
  (⟨"HeavierServes$Town", "weightLater", "(LHeavierServes$State;II)I"⟩, hs_code 811, 7, (some .int)),
  (⟨"HeavierServes$Town", "copyPerson", "(II)V"⟩, hs_code 1094, 3, none),
  (⟨"HeavierServes$Town", "readLines", "(LHeavierServes$Text;)I"⟩, hs_code 523, 3, (some .int)),
  (⟨"HeavierServes$Town", "readHabit", "(LHeavierServes$Text;I)I"⟩, hs_code 627, 3, (some .int)),
  (⟨"HeavierServes$Town", "readLine", "(LHeavierServes$Text;I)Z"⟩, hs_code 534, 3, (some .boolean)),
  (⟨"HeavierServes$Town", "readWeight", "(LHeavierServes$Text;I)Z"⟩, hs_code 538, 5, (some .boolean)),
  (⟨"HeavierServes$Town", "readParty", "(LHeavierServes$Text;I)Z"⟩, hs_code 550, 4, (some .boolean)),
  (⟨"HeavierServes$Town", "readChanges", "(LHeavierServes$Text;)Z"⟩, hs_code 555, 4, (some .boolean)),
  (⟨"HeavierServes$Town", "isChangeSign", "(I)Z"⟩, hs_code 558, 1, (some .boolean)),
  (⟨"HeavierServes$Town", "takeDraft", "(I)V"⟩, hs_code 562, 2, none),
  (⟨"HeavierServes$Trials", "feast", "(II)V"⟩, hs_code 955, 3, none),
  (⟨"HeavierServes$Trials", "cakesWorthTrying", "(I)I"⟩, hs_code 950, 2, (some .int)),
  (⟨"HeavierServes$Trials", "cakesToStay", "(II)I"⟩, hs_code 946, 6, (some .int)),
  (⟨"HeavierServes$Trials", "cakesToServe", "(II)I"⟩, hs_code 966, 6, (some .int)),
  (⟨"HeavierServes$Trials", "ouncesToMiss", "(II)I"⟩, hs_code 975, 5, (some .int)),
  (⟨"HeavierServes$Trials", "leastFed", "()I"⟩, hs_code 983, 5, (some .int)),
  (⟨"HeavierServes$Trials", "cakesForNextWeek", "(II)I"⟩, hs_code 988, 6, (some .int)),
  (⟨"HeavierServes$Trials", "gather", "(LHeavierServes$Pairs;)Z"⟩, hs_code 1070, 5, (some .boolean)),
  (⟨"HeavierServes$Trials", "comesAsDue", "(I)Z"⟩, hs_code 1077, 3, (some .boolean)),
  (⟨"HeavierServes$Trials", "explainingWeights", "(LHeavierServes$Pairs;I)I"⟩, hs_code 1066, 8, (some .int)),
  (⟨"HeavierServes$Trials", "explainingAbsences", "(LHeavierServes$Pairs;)I"⟩, hs_code 1086, 5, (some .int)),
  (⟨"HeavierServes$Will", "read", "(LHeavierServes$Text;)I"⟩, hs_code 585, 2, (some .int)),
  (⟨"HeavierServes$Will", "readLevel", "(LHeavierServes$Text;II)Z"⟩, hs_code 590, 8, (some .boolean)),
  (⟨"HeavierServes$Will", "levelOf", "(I)I"⟩, hs_code 614, 1, (some .int)),
  (⟨"HeavierServes$Will", "readThing", "(LHeavierServes$Text;I)Z"⟩, hs_code 594, 6, (some .boolean)),
  (⟨"HeavierServes$Will", "readBracket", "(LHeavierServes$Text;I)Z"⟩, hs_code 599, 3, (some .boolean)),
  (⟨"HeavierServes$Will", "readNumber", "(LHeavierServes$Text;)V"⟩, hs_code 603, 4, none),
  (⟨"HeavierServes$Will", "emit", "(I)V"⟩, hs_code 608, 2, none),
  (⟨"HeavierServes$Will", "isFact", "(I)Z"⟩, hs_code 611, 1, (some .boolean)),
  (⟨"HeavierServes$Will", "value", "(LHeavierServes$State;LHeavierServes$Town;I)I"⟩, hs_code 704, 9, (some .int)),
  (⟨"HeavierServes$Will", "combine", "(III)I"⟩, hs_code 707, 3, (some .int)),
  (⟨"HeavierServes$Will", "fact", "(ILHeavierServes$State;LHeavierServes$Town;I)I"⟩, hs_code 710, 5, (some .int)),
  (⟨"HeavierServes", "sign", "(I)I"⟩, hs_code 507, 2, (some .int)),
  (⟨"HeavierServes", "end", "(I)Z"⟩, hs_code 515, 2, (some .boolean)),
  (⟨"HeavierServes", "town", "()I"⟩, hs_code 519, 4, (some .int)),
  (⟨"HeavierServes", "will", "()I"⟩, hs_code 581, 2, (some .int)),
  (⟨"HeavierServes", "habit", "(I)I"⟩, hs_code 619, 3, (some .int)),
  (⟨"HeavierServes", "of", "(II)I"⟩, hs_code 1167, 3, (some .int)),
  (⟨"HeavierServes", "change", "(II)I"⟩, hs_code 1237, 3, (some .int)),
  (⟨"HeavierServes", "set", "(III)I"⟩, hs_code 631, 4, (some .int)),
  (⟨"HeavierServes", "scale", "(II)Z"⟩, hs_code 638, 3, (some .boolean)),
  (⟨"HeavierServes", "sheet", "(IIII)I"⟩, hs_code 642, 9, (some .int)),
  (⟨"HeavierServes", "stand", "(I)I"⟩, hs_code 656, 3, (some .int)),
  (⟨"HeavierServes", "weeks", "(I)I"⟩, hs_code 744, 6, (some .int)),
  (⟨"HeavierServes", "year", "()I"⟩, hs_code 748, 3, (some .int)),
  (⟨"HeavierServes", "law", "()I"⟩, hs_code 762, 1, (some .int)),
  (⟨"HeavierServes", "laws", "(II)I"⟩, hs_code 1245, 3, (some .int)),
  (⟨"HeavierServes", "feed", "(II)I"⟩, hs_code 770, 3, (some .int)),
  (⟨"HeavierServes", "fast", "(II)I"⟩, hs_code 783, 3, (some .int)),
  (⟨"HeavierServes", "dies", "(I)I"⟩, hs_code 787, 2, (some .int)),
  (⟨"HeavierServes", "undo", "()I"⟩, hs_code 795, 1, (some .int)),
  (⟨"HeavierServes", "served", "(I)I"⟩, hs_code 803, 2, (some .int)),
  (⟨"HeavierServes", "later", "(II)I"⟩, hs_code 807, 3, (some .int)),
  (⟨"HeavierServes", "then", "(I)I"⟩, hs_code 819, 2, (some .int)),
  (⟨"HeavierServes", "soonest", "(I)I"⟩, hs_code 838, 2, (some .int)),
  (⟨"HeavierServes", "ever", "(I)I"⟩, hs_code 846, 2, (some .int)),
  (⟨"HeavierServes", "most", "(II)I"⟩, hs_code 867, 3, (some .int)),
  (⟨"HeavierServes", "rests", "(II)I"⟩, hs_code 891, 3, (some .int)),
  (⟨"HeavierServes", "party", "(I)I"⟩, hs_code 911, 2, (some .int)),
  (⟨"HeavierServes", "byTurns", "(II)I"⟩, hs_code 927, 3, (some .int)),
  (⟨"HeavierServes", "fool", "(II)I"⟩, hs_code 1252, 3, (some .int)),
  (⟨"HeavierServes", "hold", "(I)I"⟩, hs_code 942, 2, (some .int)),
  (⟨"HeavierServes", "bribe", "(II)I"⟩, hs_code 962, 3, (some .int)),
  (⟨"HeavierServes", "starve", "(II)I"⟩, hs_code 971, 3, (some .int)),
  (⟨"HeavierServes", "cheapest", "()I"⟩, hs_code 979, 1, (some .int)),
  (⟨"HeavierServes", "weighed", "(II)I"⟩, hs_code 993, 3, (some .int)),
  (⟨"HeavierServes", "forget", "()I"⟩, hs_code 1001, 1, (some .int)),
  (⟨"HeavierServes", "grains", "()I"⟩, hs_code 1005, 1, (some .int)),
  (⟨"HeavierServes", "span", "(I)I"⟩, hs_code 1031, 3, (some .int)),
  (⟨"HeavierServes", "offs", "()I"⟩, hs_code 1040, 5, (some .int)),
  (⟨"HeavierServes", "cheats", "()I"⟩, hs_code 1049, 6, (some .int)),
  (⟨"HeavierServes", "told", "(II)I"⟩, hs_code 1054, 3, (some .int)),
  (⟨"HeavierServes", "wipe", "()I"⟩, hs_code 1058, 2, (some .int)),
  (⟨"HeavierServes", "explains", "(I)I"⟩, hs_code 1062, 2, (some .int)),
  (⟨"HeavierServes", "absent", "()I"⟩, hs_code 1082, 1, (some .int)),
  (⟨"HeavierServes", "twin", "(I)I"⟩, hs_code 1090, 3, (some .int)),
  (⟨"HeavierServes", "odds", "(II)I"⟩, hs_code 1098, 3, (some .int)),
  (⟨"HeavierServes", "likely", "()I"⟩, hs_code 1134, 1, (some .int)),
  (⟨"HeavierServes", "keep", "(I)Z"⟩, hs_code 1142, 2, (some .boolean)),
  (⟨"HeavierServes", "again", "(I)Z"⟩, hs_code 1150, 2, (some .boolean)),
  (⟨"HeavierServes", "count", "(I)I"⟩, hs_code 1159, 2, (some .int)),
  (⟨"HeavierServes", "row", "(I)J"⟩, hs_code 1263, 2, (some .long)),
  (⟨"HeavierServes", "isThere", "(I)Z"⟩, hs_code 778, 2, (some .boolean)),
  (⟨"HeavierServes", "exchange", "([III)I"⟩, hs_code 634, 4, (some .int)),
  (⟨"HeavierServes", "inBounds", "(I)I"⟩, hs_code 652, 1, (some .int)),
  (⟨"HeavierServes", "asKind", "(II)I"⟩, hs_code 645, 2, (some .int)),
  (⟨"HeavierServes", "eat", "(III)I"⟩, hs_code 774, 4, (some .int)),
  (⟨"HeavierServes", "passWeek", "(II)I"⟩, hs_code 680, 5, (some .int)),
  (⟨"HeavierServes", "yearFault", "()I"⟩, hs_code 753, 4, (some .int)),
  (⟨"HeavierServes", "passYear", "()I"⟩, hs_code 758, 7, (some .int)),
  (⟨"HeavierServesModel", "thrown", "()I"⟩, hs_code 1267, 1, (some .int)),
  (⟨"HeavierServesModel", "refuse", "()I"⟩, hs_code 1561, 1, (some .int)),
  (⟨"HeavierServesModel", "in", "(JJJ)Z"⟩, hs_code 1424, 6, (some .boolean)),
  (⟨"HeavierServesModel", "has", "(II)Z"⟩, hs_code 1564, 2, (some .boolean)),
  (⟨"HeavierServesModel", "flag", "(Z)I"⟩, hs_code 1454, 1, (some .int)),
  (⟨"HeavierServesModel", "common", "(JJ)J"⟩, hs_code 1849, 4, (some .long)),
  (⟨"HeavierServesModel", "enters", "(J)V"⟩, hs_code 1628, 3, none),
  (⟨"HeavierServesModel", "entersFraction", "(JJ)V"⟩, hs_code 1846, 7, none),
  (⟨"HeavierServesModel", "isPerson", "(I)Z"⟩, hs_code 1533, 2, (some .boolean)),
  (⟨"HeavierServesModel", "isAlive", "(I)Z"⟩, hs_code 1661, 2, (some .boolean)),
  (⟨"HeavierServesModel", "sign", "(I)I"⟩, hs_code 1417, 3, (some .int)),
  (⟨"HeavierServesModel", "end", "(I)Z"⟩, hs_code 1421, 2, (some .boolean)),
  (⟨"HeavierServesModel", "begins", "(I)I"⟩, hs_code 1432, 3, (some .int)),
  (⟨"HeavierServesModel", "takes", "(I)Z"⟩, hs_code 1451, 3, (some .boolean)),
  (⟨"HeavierServesModel", "isDigit", "()Z"⟩, hs_code 1441, 1, (some .boolean)),
  (⟨"HeavierServesModel", "number", "(I)I"⟩, hs_code 1447, 4, (some .int)),
  (⟨"HeavierServesModel", "among", "(Ljava/lang/String;)I"⟩, hs_code 1459, 3, (some .int)),
  (⟨"HeavierServesModel", "faultOf", "(IIZ)I"⟩, hs_code 1516, 5, (some .int)),
  (⟨"HeavierServesModel", "readsHabit", "(I)Z"⟩, hs_code 1511, 4, (some .boolean)),
  (⟨"HeavierServesModel", "readsPerson", "()Z"⟩, hs_code 1437, 2, (some .boolean)),
  (⟨"HeavierServesModel", "town", "()I"⟩, hs_code 1428, 7, (some .int)),
  (⟨"HeavierServesModel", "comes", "(II)V"⟩, hs_code 1520, 3, none),
  (⟨"HeavierServesModel", "putsHabit", "(II)V"⟩, hs_code 1524, 4, none),
  (⟨"HeavierServesModel", "habit", "(I)I"⟩, hs_code 1529, 5, (some .int)),
  (⟨"HeavierServesModel", "codes", "(I)V"⟩, hs_code 1549, 2, none),
  (⟨"HeavierServesModel", "readsThing", "()Z"⟩, hs_code 1545, 2, (some .boolean)),
  (⟨"HeavierServesModel", "readsRank", "(I)Z"⟩, hs_code 1541, 4, (some .boolean)),
  (⟨"HeavierServesModel", "will", "()I"⟩, hs_code 1537, 5, (some .int)),
  (⟨"HeavierServesModel", "holding", "([I)I"⟩, hs_code 1584, 4, (some .int)),
  (⟨"HeavierServesModel", "thingOf", "([III)I"⟩, hs_code 1580, 5, (some .int)),
  (⟨"HeavierServesModel", "worked", "(III)I"⟩, hs_code 1576, 3, (some .int)),
  (⟨"HeavierServesModel", "willOf", "([II)I"⟩, hs_code 1573, 6, (some .int)),
  (⟨"HeavierServesModel", "willing", "([I)I"⟩, hs_code 1637, 4, (some .int)),
  (⟨"HeavierServesModel", "shows", "(I)I"⟩, hs_code 1568, 3, (some .int)),
  (⟨"HeavierServesModel", "of", "(II)I"⟩, hs_code 1556, 3, (some .int)),
  (⟨"HeavierServesModel", "change", "(II)I"⟩, hs_code 1588, 3, (some .int)),
  (⟨"HeavierServesModel", "set", "(III)I"⟩, hs_code 1592, 7, (some .int)),
  (⟨"HeavierServesModel", "scale", "(II)Z"⟩, hs_code 1599, 3, (some .boolean)),
  (⟨"HeavierServesModel", "sheet", "(IIII)I"⟩, hs_code 1604, 9, (some .int)),
  (⟨"HeavierServesModel", "goes", "([II)V"⟩, hs_code 1620, 6, none),
  (⟨"HeavierServesModel", "falls", "([I)I"⟩, hs_code 1624, 4, (some .int)),
  (⟨"HeavierServesModel", "puts", "([I[I)V"⟩, hs_code 1691, 3, none),
  (⟨"HeavierServesModel", "putsBy", "()V"⟩, hs_code 1616, 2, none),
  (⟨"HeavierServesModel", "undo", "()I"⟩, hs_code 1608, 2, (some .int)),
  (⟨"HeavierServesModel", "stand", "(I)I"⟩, hs_code 1612, 3, (some .int)),
  (⟨"HeavierServesModel", "weeks", "(I)I"⟩, hs_code 1632, 5, (some .int)),
  (⟨"HeavierServesModel", "readsWeek", "()V"⟩, hs_code 1645, 3, none),
  (⟨"HeavierServesModel", "year", "()I"⟩, hs_code 1641, 5, (some .int)),
  (⟨"HeavierServesModel", "law", "()I"⟩, hs_code 1649, 2, (some .int)),
  (⟨"HeavierServesModel", "laws", "(II)I"⟩, hs_code 1653, 3, (some .int)),
  (⟨"HeavierServesModel", "eats", "(II)I"⟩, hs_code 1665, 3, (some .int)),
  (⟨"HeavierServesModel", "feed", "(II)I"⟩, hs_code 1657, 3, (some .int)),
  (⟨"HeavierServesModel", "fast", "(II)I"⟩, hs_code 1669, 3, (some .int)),
  (⟨"HeavierServesModel", "dies", "(I)I"⟩, hs_code 1673, 3, (some .int)),
  (⟨"HeavierServesModel", "served", "(I)I"⟩, hs_code 1677, 2, (some .int)),
  (⟨"HeavierServesModel", "starts", "()V"⟩, hs_code 1688, 2, none),
  (⟨"HeavierServesModel", "goesNext", "(I)V"⟩, hs_code 1699, 2, none),
  (⟨"HeavierServesModel", "goesBy", "(II)V"⟩, hs_code 1695, 4, none),
  (⟨"HeavierServesModel", "areWeeks", "(I)Z"⟩, hs_code 1684, 1, (some .boolean)),
  (⟨"HeavierServesModel", "later", "(II)I"⟩, hs_code 1681, 3, (some .int)),
  (⟨"HeavierServesModel", "then", "(I)I"⟩, hs_code 1703, 3, (some .int)),
  (⟨"HeavierServesModel", "soonest", "(I)I"⟩, hs_code 1707, 3, (some .int)),
  (⟨"HeavierServesModel", "ever", "(I)I"⟩, hs_code 1711, 10, (some .int)),
  (⟨"HeavierServesModel", "most", "(II)I"⟩, hs_code 1716, 7, (some .int)),
  (⟨"HeavierServesModel", "byPlans", "(II)I"⟩, hs_code 1732, 6, (some .int)),
  (⟨"HeavierServesModel", "plans", "(II)Z"⟩, hs_code 1728, 8, (some .boolean)),
  (⟨"HeavierServesModel", "rests", "(II)I"⟩, hs_code 1722, 6, (some .int)),
  (⟨"HeavierServesModel", "servedBy", "(I)I"⟩, hs_code 1740, 4, (some .int)),
  (⟨"HeavierServesModel", "party", "(I)I"⟩, hs_code 1736, 7, (some .int)),
  (⟨"HeavierServesModel", "byTurns", "(II)I"⟩, hs_code 1744, 8, (some .int)),
  (⟨"HeavierServesModel", "fool", "(II)I"⟩, hs_code 1748, 5, (some .int)),
  (⟨"HeavierServesModel", "areSixty", "(I)Z"⟩, hs_code 1755, 1, (some .boolean)),
  (⟨"HeavierServesModel", "startsWith", "(II)V"⟩, hs_code 1760, 3, none),
  (⟨"HeavierServesModel", "hold", "(I)I"⟩, hs_code 1752, 4, (some .int)),
  (⟨"HeavierServesModel", "bribe", "(II)I"⟩, hs_code 1764, 4, (some .int)),
  (⟨"HeavierServesModel", "starve", "(II)I"⟩, hs_code 1768, 4, (some .int)),
  (⟨"HeavierServesModel", "cheapest", "()I"⟩, hs_code 1772, 5, (some .int)),
  (⟨"HeavierServesModel", "weighed", "(II)I"⟩, hs_code 1776, 3, (some .int)),
  (⟨"HeavierServesModel", "forget", "()I"⟩, hs_code 1781, 1, (some .int)),
  (⟨"HeavierServesModel", "canBe", "(II)Z"⟩, hs_code 1793, 5, (some .boolean)),
  (⟨"HeavierServesModel", "weightsOf", "(IZ)I"⟩, hs_code 1789, 7, (some .int)),
  (⟨"HeavierServesModel", "tellsSpan", "(III)V"⟩, hs_code 1797, 4, none),
  (⟨"HeavierServesModel", "grains", "()I"⟩, hs_code 1785, 6, (some .int)),
  (⟨"HeavierServesModel", "span", "(I)I"⟩, hs_code 1801, 2, (some .int)),
  (⟨"HeavierServesModel", "wrong", "()I"⟩, hs_code 1809, 3, (some .int)),
  (⟨"HeavierServesModel", "offs", "()I"⟩, hs_code 1805, 5, (some .int)),
  (⟨"HeavierServesModel", "cheats", "()I"⟩, hs_code 1813, 6, (some .int)),
  (⟨"HeavierServesModel", "told", "(II)I"⟩, hs_code 1817, 3, (some .int)),
  (⟨"HeavierServesModel", "wipe", "()I"⟩, hs_code 1821, 2, (some .int)),
  (⟨"HeavierServesModel", "isSo", "(I)Z"⟩, hs_code 1829, 5, (some .boolean)),
  (⟨"HeavierServesModel", "explains", "(I)I"⟩, hs_code 1825, 6, (some .int)),
  (⟨"HeavierServesModel", "absent", "()I"⟩, hs_code 1833, 3, (some .int)),
  (⟨"HeavierServesModel", "twin", "(I)I"⟩, hs_code 1837, 4, (some .int)),
  (⟨"HeavierServesModel", "oddsOf", "([I[J)V"⟩, hs_code 1853, 10, none),
  (⟨"HeavierServesModel", "odds", "(II)I"⟩, hs_code 1841, 6, (some .int)),
  (⟨"HeavierServesModel", "likely", "()I"⟩, hs_code 1859, 3, (some .int)),
  (⟨"HeavierServesModel", "keep", "(I)Z"⟩, hs_code 1863, 3, (some .boolean)),
  (⟨"HeavierServesModel", "again", "(I)Z"⟩, hs_code 1867, 3, (some .boolean)),
  (⟨"HeavierServesModel", "lawsThatHold", "()I"⟩, hs_code 1875, 3, (some .int)),
  (⟨"HeavierServesModel", "count", "(I)I"⟩, hs_code 1871, 2, (some .int)),
  (⟨"HeavierServesModel", "row", "(I)J"⟩, hs_code 1879, 2, (some .long))]
def hs_nm (y : Nat) : hs_N := (hs_nth hs_names y).getD (⟨"", "", ""⟩, .empty, 0, none)
/-- own class by number, and the places of a method's words: its code, instance or static (1), initialised, selects -/
def hs_mws : List (Nat × (Nat × (Nat × (Nat × (Nat × Nat))))) := [(14, 882, 881, 1, 104, 0),
  (15, 667, 666, 1, 90, 0),
  (15, 358, 357, 1, 90, 0),
  (15, 530, 529, 1, 90, 0),
  (0, 827, 826, 0, 92, 17),
  (0, 833, 832, 0, 92, 18),
  (0, 919, 918, 0, 92, 26),
  (0, 823, 821, 0, 92, 822),
  (0, 842, 840, 0, 92, 841),
  (0, 850, 848, 0, 92, 849),
  (0, 854, 853, 0, 92, 19),
  (0, 861, 860, 0, 92, 20),
  (0, 871, 869, 0, 92, 870),
  (0, 875, 874, 0, 92, 21),
  (0, 879, 878, 0, 92, 22),
  (0, 895, 893, 0, 92, 894),
  (0, 899, 898, 0, 92, 23),
  (0, 903, 902, 0, 92, 24),
  (0, 907, 906, 0, 92, 25),
  (0, 915, 913, 0, 92, 914),
  (0, 923, 922, 0, 92, 27),
  (0, 931, 929, 0, 92, 930),
  (0, 938, 937, 1, 92, 0),
  (0, 1256, 1254, 0, 92, 1255),
  (0, 1102, 1100, 0, 92, 1101),
  (0, 1129, 1128, 0, 92, 36),
  (0, 1138, 1136, 0, 92, 1137),
  (1, 684, 682, 0, 91, 683),
  (1, 714, 712, 0, 91, 713),
  (1, 688, 686, 0, 91, 687),
  (1, 692, 691, 0, 91, 11),
  (1, 1114, 1112, 0, 91, 1113),
  (1, 1118, 1117, 0, 91, 34),
  (1, 1123, 1122, 0, 91, 35),
  (2, 997, 995, 0, 89, 996),
  (2, 1017, 1015, 0, 89, 1016),
  (2, 1021, 1019, 0, 89, 1020),
  (3, 664, 662, 0, 88, 663),
  (3, 799, 797, 0, 88, 798),
  (3, 577, 575, 0, 88, 576),
  (3, 1146, 1144, 0, 88, 1145),
  (3, 1154, 1152, 0, 88, 1153),
  (4, 734, 732, 0, 83, 733),
  (4, 738, 736, 0, 83, 737),
  (4, 1036, 1034, 0, 83, 1035),
  (4, 1106, 1104, 0, 83, 1105),
  (4, 1109, 1108, 1, 83, 0),
  (5, 696, 694, 0, 86, 695),
  (5, 1044, 1042, 0, 86, 1043),
  (5, 1009, 1007, 0, 86, 1008),
  (5, 1013, 1011, 0, 86, 1012),
  (5, 1025, 1024, 0, 86, 31),
  (6, 675, 673, 0, 87, 674),
  (6, 671, 669, 0, 87, 670),
  (6, 573, 571, 0, 87, 572),
  (6, 700, 698, 0, 87, 699),
  (6, 649, 647, 0, 87, 648),
  (6, 766, 764, 0, 87, 765),
  (6, 722, 721, 0, 87, 12),
  (6, 791, 789, 0, 87, 790),
  (6, 718, 716, 0, 87, 717),
  (7, 511, 509, 0, 82, 510),
  (7, 527, 525, 0, 82, 526),
  (7, 546, 544, 0, 82, 545),
  (7, 542, 540, 0, 82, 541),
  (8, 623, 621, 0, 84, 622),
  (8, 660, 658, 0, 84, 659),
  (8, 935, 933, 0, 84, 934),
  (8, 569, 567, 0, 84, 568),
  (8, 815, 813, 0, 84, 814),
  (8, 727, 725, 0, 84, 726),
  (8, 811, 809, 0, 84, 810),
  (8, 1094, 1092, 0, 84, 1093),
  (8, 523, 521, 0, 84, 522),
  (8, 627, 625, 0, 84, 626),
  (8, 534, 533, 0, 84, 0),
  (8, 538, 537, 0, 84, 1),
  (8, 550, 549, 0, 84, 2),
  (8, 555, 554, 0, 84, 3),
  (8, 558, 557, 1, 84, 0),
  (8, 562, 561, 0, 84, 4),
  (9, 955, 954, 0, 93, 29),
  (9, 950, 949, 0, 93, 28),
  (9, 946, 944, 0, 93, 945),
  (9, 966, 964, 0, 93, 965),
  (9, 975, 973, 0, 93, 974),
  (9, 983, 981, 0, 93, 982),
  (9, 988, 987, 0, 93, 30),
  (9, 1070, 1069, 0, 93, 32),
  (9, 1077, 1076, 0, 93, 33),
  (9, 1066, 1064, 0, 93, 1065),
  (9, 1086, 1084, 0, 93, 1085),
  (10, 585, 583, 0, 85, 584),
  (10, 590, 589, 0, 85, 5),
  (10, 614, 613, 1, 85, 0),
  (10, 594, 593, 0, 85, 6),
  (10, 599, 598, 0, 85, 7),
  (10, 603, 602, 0, 85, 8),
  (10, 608, 607, 0, 85, 9),
  (10, 611, 610, 1, 85, 0),
  (10, 704, 702, 0, 85, 703),
  (10, 707, 706, 1, 85, 0),
  (10, 710, 709, 1, 85, 0),
  (11, 507, 505, 0, 81, 506),
  (11, 515, 513, 0, 81, 514),
  (11, 519, 517, 0, 81, 518),
  (11, 581, 579, 0, 81, 580),
  (11, 619, 617, 0, 81, 618),
  (11, 1167, 1165, 0, 81, 1166),
  (11, 1237, 1235, 0, 81, 1236),
  (11, 631, 629, 0, 81, 630),
  (11, 638, 636, 0, 81, 637),
  (11, 642, 640, 0, 81, 641),
  (11, 656, 654, 0, 81, 655),
  (11, 744, 742, 0, 81, 743),
  (11, 748, 746, 0, 81, 747),
  (11, 762, 760, 0, 81, 761),
  (11, 1245, 1243, 0, 81, 1244),
  (11, 770, 768, 0, 81, 769),
  (11, 783, 781, 0, 81, 782),
  (11, 787, 785, 0, 81, 786),
  (11, 795, 793, 0, 81, 794),
  (11, 803, 801, 0, 81, 802),
  (11, 807, 805, 0, 81, 806),
  (11, 819, 817, 0, 81, 818),
  (11, 838, 836, 0, 81, 837),
  (11, 846, 844, 0, 81, 845),
  (11, 867, 865, 0, 81, 866),
  (11, 891, 889, 0, 81, 890),
  (11, 911, 909, 0, 81, 910),
  (11, 927, 925, 0, 81, 926),
  (11, 1252, 1250, 0, 81, 1251),
  (11, 942, 940, 0, 81, 941),
  (11, 962, 960, 0, 81, 961),
  (11, 971, 969, 0, 81, 970),
  (11, 979, 977, 0, 81, 978),
  (11, 993, 991, 0, 81, 992),
  (11, 1001, 999, 0, 81, 1000),
  (11, 1005, 1003, 0, 81, 1004),
  (11, 1031, 1029, 0, 81, 1030),
  (11, 1040, 1038, 0, 81, 1039),
  (11, 1049, 1047, 0, 81, 1048),
  (11, 1054, 1052, 0, 81, 1053),
  (11, 1058, 1056, 0, 81, 1057),
  (11, 1062, 1060, 0, 81, 1061),
  (11, 1082, 1080, 0, 81, 1081),
  (11, 1090, 1088, 0, 81, 1089),
  (11, 1098, 1096, 0, 81, 1097),
  (11, 1134, 1132, 0, 81, 1133),
  (11, 1142, 1140, 0, 81, 1141),
  (11, 1150, 1148, 0, 81, 1149),
  (11, 1159, 1157, 0, 81, 1158),
  (11, 1263, 1261, 0, 81, 1262),
  (11, 778, 777, 0, 81, 16),
  (11, 634, 633, 1, 81, 0),
  (11, 652, 651, 1, 81, 0),
  (11, 645, 644, 1, 81, 0),
  (11, 774, 773, 0, 81, 15),
  (11, 680, 679, 0, 81, 10),
  (11, 753, 752, 0, 81, 13),
  (11, 758, 757, 0, 81, 14),
  (12, 1267, 1265, 0, 94, 1266),
  (12, 1561, 1560, 0, 94, 52),
  (12, 1424, 1423, 1, 94, 0),
  (12, 1564, 1563, 1, 94, 0),
  (12, 1454, 1453, 1, 94, 0),
  (12, 1849, 1848, 1, 94, 0),
  (12, 1628, 1627, 0, 94, 60),
  (12, 1846, 1845, 0, 94, 77),
  (12, 1533, 1532, 0, 94, 48),
  (12, 1661, 1660, 0, 94, 63),
  (12, 1417, 1415, 0, 94, 1416),
  (12, 1421, 1419, 0, 94, 1420),
  (12, 1432, 1431, 0, 94, 38),
  (12, 1451, 1450, 0, 94, 42),
  (12, 1441, 1440, 0, 94, 40),
  (12, 1447, 1446, 0, 94, 41),
  (12, 1459, 1458, 0, 94, 43),
  (12, 1516, 1515, 0, 94, 45),
  (12, 1511, 1510, 0, 94, 44),
  (12, 1437, 1436, 0, 94, 39),
  (12, 1428, 1426, 0, 94, 1427),
  (12, 1520, 1519, 0, 94, 46),
  (12, 1524, 1523, 0, 94, 47),
  (12, 1529, 1527, 0, 94, 1528),
  (12, 1549, 1548, 0, 94, 51),
  (12, 1545, 1544, 0, 94, 50),
  (12, 1541, 1540, 0, 94, 49),
  (12, 1537, 1535, 0, 94, 1536),
  (12, 1584, 1583, 0, 94, 56),
  (12, 1580, 1579, 0, 94, 55),
  (12, 1576, 1575, 1, 94, 0),
  (12, 1573, 1572, 0, 94, 54),
  (12, 1637, 1636, 0, 94, 61),
  (12, 1568, 1567, 0, 94, 53),
  (12, 1556, 1554, 0, 94, 1555),
  (12, 1588, 1586, 0, 94, 1587),
  (12, 1592, 1590, 0, 94, 1591),
  (12, 1599, 1597, 0, 94, 1598),
  (12, 1604, 1602, 0, 94, 1603),
  (12, 1620, 1619, 0, 94, 58),
  (12, 1624, 1623, 0, 94, 59),
  (12, 1691, 1690, 1, 94, 0),
  (12, 1616, 1615, 0, 94, 57),
  (12, 1608, 1606, 0, 94, 1607),
  (12, 1612, 1610, 0, 94, 1611),
  (12, 1632, 1630, 0, 94, 1631),
  (12, 1645, 1644, 0, 94, 62),
  (12, 1641, 1639, 0, 94, 1640),
  (12, 1649, 1647, 0, 94, 1648),
  (12, 1653, 1651, 0, 94, 1652),
  (12, 1665, 1664, 0, 94, 64),
  (12, 1657, 1655, 0, 94, 1656),
  (12, 1669, 1667, 0, 94, 1668),
  (12, 1673, 1671, 0, 94, 1672),
  (12, 1677, 1675, 0, 94, 1676),
  (12, 1688, 1687, 0, 94, 65),
  (12, 1699, 1698, 0, 94, 67),
  (12, 1695, 1694, 0, 94, 66),
  (12, 1684, 1683, 1, 94, 0),
  (12, 1681, 1679, 0, 94, 1680),
  (12, 1703, 1701, 0, 94, 1702),
  (12, 1707, 1705, 0, 94, 1706),
  (12, 1711, 1709, 0, 94, 1710),
  (12, 1716, 1714, 0, 94, 1715),
  (12, 1732, 1731, 0, 94, 69),
  (12, 1728, 1727, 0, 94, 68),
  (12, 1722, 1720, 0, 94, 1721),
  (12, 1740, 1739, 0, 94, 70),
  (12, 1736, 1734, 0, 94, 1735),
  (12, 1744, 1742, 0, 94, 1743),
  (12, 1748, 1746, 0, 94, 1747),
  (12, 1755, 1754, 1, 94, 0),
  (12, 1760, 1759, 0, 94, 71),
  (12, 1752, 1750, 0, 94, 1751),
  (12, 1764, 1762, 0, 94, 1763),
  (12, 1768, 1766, 0, 94, 1767),
  (12, 1772, 1770, 0, 94, 1771),
  (12, 1776, 1774, 0, 94, 1775),
  (12, 1781, 1779, 0, 94, 1780),
  (12, 1793, 1792, 0, 94, 73),
  (12, 1789, 1788, 0, 94, 72),
  (12, 1797, 1796, 0, 94, 74),
  (12, 1785, 1783, 0, 94, 1784),
  (12, 1801, 1799, 0, 94, 1800),
  (12, 1809, 1808, 0, 94, 75),
  (12, 1805, 1803, 0, 94, 1804),
  (12, 1813, 1811, 0, 94, 1812),
  (12, 1817, 1815, 0, 94, 1816),
  (12, 1821, 1819, 0, 94, 1820),
  (12, 1829, 1828, 0, 94, 76),
  (12, 1825, 1823, 0, 94, 1824),
  (12, 1833, 1831, 0, 94, 1832),
  (12, 1837, 1835, 0, 94, 1836),
  (12, 1853, 1852, 0, 94, 78),
  (12, 1841, 1839, 0, 94, 1840),
  (12, 1859, 1857, 0, 94, 1858),
  (12, 1863, 1861, 0, 94, 1862),
  (12, 1867, 1865, 0, 94, 1866),
  (12, 1875, 1874, 0, 94, 79),
  (12, 1871, 1869, 0, 94, 1870),
  (12, 1879, 1877, 0, 94, 1878)]
def hs_mw (y : Nat) : Nat × (Nat × (Nat × (Nat × (Nat × Nat)))) := (hs_nth hs_mws y).getD (0, 0, 0, 0, 0, 0)
/-- own class, index, class, field, place of the word -/
def hs_fl : List (Nat × (Nat × (Nat × (Nat × Nat)))) := [(0, 13, 0, 4, 401), (0, 18, 0, 5, 402), (0, 22, 0, 6, 403), (0, 26, 0, 7, 404), (0, 30, 0, 8, 405), (0, 33, 0, 0, 397), (0, 36, 0, 1, 398), (0, 40, 0, 2, 399), (0, 44, 0, 3, 400), (0, 58, 6, 8, 285), (0, 61, 8, 9, 174), (0, 67, 8, 0, 158), (0, 78, 4, 1, 143), (0, 87, 6, 1, 261), (0, 102, 1, 2, 381), (0, 106, 6, 7, 282), (0, 124, 0, 9, 406), (0, 127, 0, 10, 407), (0, 130, 0, 11, 408), (0, 133, 0, 12, 409), (0, 172, 6, 3, 268), (1, 9, 1, 0, 378), (1, 15, 1, 1, 379), (1, 19, 1, 2, 380), (1, 43, 6, 0, 254), (1, 51, 8, 9, 175), (1, 54, 6, 1, 259), (1, 61, 6, 7, 279), (1, 86, 8, 1, 162), (2, 15, 2, 0, 359), (2, 21, 2, 1, 360), (2, 24, 2, 2, 361), (3, 13, 3, 0, 333), (3, 17, 3, 1, 334), (3, 20, 3, 2, 335), (3, 25, 3, 4, 337), (3, 29, 3, 3, 336), (4, 9, 4, 0, 140), (4, 13, 4, 1, 142), (5, 9, 5, 0, 230), (5, 15, 5, 1, 232), (5, 18, 2, 2, 362), (5, 37, 5, 2, 234), (5, 40, 5, 3, 236), (6, 9, 6, 1, 258), (6, 15, 6, 7, 277), (6, 19, 6, 8, 284), (6, 22, 6, 9, 289), (6, 25, 6, 10, 291), (6, 28, 6, 11, 293), (6, 31, 6, 12, 295), (6, 34, 6, 0, 253), (6, 37, 6, 2, 264), (6, 40, 6, 3, 267), (6, 43, 6, 4, 270), (6, 46, 6, 5, 272), (6, 59, 6, 6, 275), (7, 11, 7, 0, 119), (7, 15, 7, 1, 120), (7, 25, 7, 2, 124), (8, 9, 8, 0, 157), (8, 15, 8, 1, 161), (8, 18, 8, 2, 164), (8, 21, 8, 3, 166), (8, 24, 8, 4, 167), (8, 27, 8, 5, 168), (8, 30, 8, 9, 173), (8, 40, 6, 0, 255), (8, 49, 6, 7, 280), (8, 71, 8, 7, 170), (8, 74, 8, 8, 172), (8, 84, 7, 1, 123), (8, 103, 8, 6, 169), (9, 12, 9, 4, 449), (9, 18, 9, 5, 450), (9, 22, 9, 0, 445), (9, 25, 9, 1, 446), (9, 29, 9, 2, 447), (9, 33, 9, 3, 448), (9, 41, 6, 7, 278), (9, 61, 6, 1, 260), (9, 71, 6, 8, 286), (9, 80, 8, 9, 177), (9, 96, 9, 6, 451), (9, 99, 2, 2, 363), (10, 11, 10, 0, 205), (10, 15, 10, 1, 206), (10, 18, 10, 2, 207), (10, 27, 10, 5, 210), (10, 31, 10, 4, 209), (10, 34, 7, 1, 122), (10, 47, 10, 3, 208), (10, 86, 6, 1, 262), (10, 91, 6, 7, 283), (10, 94, 8, 0, 160), (10, 99, 6, 2, 265), (10, 102, 6, 5, 273), (10, 105, 6, 0, 256), (10, 108, 6, 8, 288), (11, 10, 11, 0, 467), (11, 19, 11, 1, 468), (11, 26, 11, 2, 469), (11, 33, 11, 3, 470), (11, 40, 11, 4, 471), (11, 47, 11, 5, 472), (11, 54, 11, 6, 473), (11, 63, 11, 7, 474), (11, 67, 11, 8, 475), (11, 75, 11, 9, 476), (11, 84, 11, 10, 477), (11, 91, 11, 11, 478), (11, 99, 7, 1, 121), (11, 107, 8, 8, 171), (11, 110, 8, 9, 176), (11, 134, 8, 2, 165), (11, 141, 6, 7, 281), (11, 144, 8, 0, 159), (11, 147, 8, 1, 163), (11, 153, 6, 8, 287), (11, 171, 5, 0, 231), (11, 174, 5, 1, 233), (11, 206, 6, 1, 263), (11, 218, 6, 6, 276), (11, 224, 6, 9, 290), (11, 227, 6, 10, 292), (11, 230, 6, 4, 271), (11, 233, 6, 11, 294), (11, 250, 3, 4, 338), (11, 253, 6, 0, 257), (11, 256, 6, 12, 296), (11, 301, 2, 2, 364), (11, 312, 5, 2, 235), (11, 315, 5, 3, 237), (11, 354, 6, 2, 266), (11, 357, 6, 3, 269), (11, 360, 4, 1, 144), (11, 361, 4, 0, 141), (11, 365, 6, 5, 274), (11, 372, 7, 2, 125), (12, 3, 12, 0, 1274), (12, 11, 12, 2, 1276), (12, 15, 12, 1, 1275), (12, 28, 12, 4, 1278), (12, 32, 12, 5, 1279), (12, 35, 12, 6, 1280), (12, 38, 12, 7, 1281), (12, 41, 12, 8, 1282), (12, 44, 12, 10, 1284), (12, 47, 12, 11, 1285), (12, 50, 12, 12, 1286), (12, 53, 12, 17, 1291), (12, 56, 12, 18, 1292), (12, 59, 12, 19, 1293), (12, 62, 12, 20, 1294), (12, 65, 12, 22, 1296), (12, 68, 12, 23, 1297), (12, 71, 12, 26, 1300), (12, 74, 12, 29, 1303), (12, 77, 12, 30, 1304), (12, 80, 12, 32, 1306), (12, 83, 12, 33, 1307), (12, 86, 12, 35, 1309), (12, 89, 12, 36, 1310), (12, 92, 12, 38, 1312), (12, 95, 12, 39, 1313), (12, 98, 12, 40, 1314), (12, 101, 12, 41, 1315), (12, 104, 12, 42, 1316), (12, 107, 12, 43, 1317), (12, 111, 12, 44, 1318), (12, 114, 12, 45, 1319), (12, 117, 12, 3, 1277), (12, 132, 12, 13, 1287), (12, 135, 12, 14, 1288), (12, 138, 12, 16, 1290), (12, 147, 12, 15, 1289), (12, 185, 12, 21, 1295), (12, 207, 12, 28, 1302), (12, 213, 12, 25, 1299), (12, 232, 12, 24, 1298), (12, 251, 12, 9, 1283), (12, 273, 12, 27, 1301), (12, 291, 12, 31, 1305), (12, 351, 12, 34, 1308), (12, 368, 12, 37, 1311)]
/-- own class, index, method, 0 virtual 1 static 2 nest, place of the word -/
def hs_ml : List (Nat × (Nat × (Nat × (Nat × Nat)))) := [(0, 48, 52, 0, 828), (0, 52, 27, 0, 829), (0, 70, 5, 0, 830), (0, 74, 4, 0, 824), (0, 83, 43, 0, 834), (0, 90, 10, 0, 851), (0, 93, 11, 0, 858), (0, 96, 42, 0, 863), (0, 109, 47, 0, 856), (0, 114, 3, 1, 857), (0, 120, 55, 0, 862), (0, 136, 13, 0, 872), (0, 139, 14, 0, 876), (0, 142, 29, 0, 886), (0, 146, 28, 0, 887), (0, 150, 0, 1, 880), (0, 153, 16, 0, 896), (0, 156, 17, 0, 900), (0, 159, 18, 0, 904), (0, 162, 6, 0, 916), (0, 165, 20, 0, 920), (0, 169, 67, 0, 932), (0, 175, 22, 1, 936), (0, 178, 45, 0, 1103), (0, 182, 31, 0, 1111), (0, 187, 25, 0, 1126), (1, 23, 29, 0, 685), (1, 27, 28, 0, 711), (1, 31, 60, 0, 715), (1, 37, 70, 0, 724), (1, 47, 30, 0, 689), (1, 57, 55, 0, 697), (1, 65, 47, 0, 693), (1, 71, 100, 0, 701), (1, 77, 32, 0, 1115), (1, 82, 33, 0, 1120), (3, 32, 1, 1, 665), (3, 38, 53, 0, 668), (3, 42, 39, 0, 1155), (4, 17, 43, 0, 735), (4, 21, 46, 1, 1107), (4, 25, 42, 0, 1110), (5, 23, 35, 0, 1014), (5, 27, 47, 0, 1045), (5, 30, 36, 0, 1018), (5, 33, 50, 0, 1010), (5, 43, 51, 0, 1022), (5, 47, 2, 1, 1026), (5, 53, 3, 1, 1027), (6, 55, 52, 0, 672), (6, 62, 155, 2, 650), (6, 66, 58, 0, 719), (6, 70, 1, 1, 723), (7, 19, 3, 1, 528), (7, 28, 63, 0, 543), (8, 34, 55, 0, 728), (8, 43, 1, 1, 729), (8, 52, 155, 2, 730), (8, 56, 69, 0, 812), (8, 65, 62, 0, 524), (8, 77, 75, 0, 531), (8, 81, 63, 0, 551), (8, 87, 78, 0, 552), (8, 91, 80, 0, 559), (8, 94, 76, 0, 535), (8, 97, 77, 0, 547), (8, 100, 64, 0, 539), (8, 106, 79, 1, 556), (9, 37, 52, 0, 956), (9, 44, 56, 0, 957), (9, 48, 3, 1, 951), (9, 54, 82, 0, 947), (9, 58, 81, 0, 952), (9, 65, 27, 0, 958), (9, 74, 42, 0, 967), (9, 85, 55, 0, 984), (9, 89, 87, 0, 985), (9, 92, 29, 0, 989), (9, 104, 36, 0, 1071), (9, 107, 35, 0, 1072), (9, 110, 2, 1, 1073), (9, 113, 88, 0, 1067), (9, 117, 89, 0, 1074), (9, 120, 44, 0, 1078), (10, 21, 62, 0, 586), (10, 37, 93, 0, 587), (10, 50, 95, 0, 591), (10, 54, 63, 0, 595), (10, 58, 94, 1, 612), (10, 61, 98, 0, 605), (10, 64, 96, 0, 596), (10, 67, 97, 0, 600), (10, 71, 99, 1, 609), (10, 75, 64, 0, 604), (10, 78, 101, 1, 705), (10, 82, 102, 1, 708), (11, 95, 61, 0, 508), (11, 103, 73, 0, 520), (11, 113, 68, 0, 566), (11, 117, 54, 0, 570), (11, 121, 39, 0, 574), (11, 124, 92, 0, 582), (11, 127, 65, 0, 620), (11, 130, 74, 0, 624), (11, 150, 55, 0, 779), (11, 156, 47, 0, 1229), (11, 159, 100, 0, 1230), (11, 163, 69, 0, 1238), (11, 167, 154, 1, 632), (11, 177, 156, 1, 643), (11, 180, 56, 0, 646), (11, 183, 66, 0, 657), (11, 187, 37, 0, 661), (11, 191, 158, 0, 677), (11, 194, 42, 0, 731), (11, 198, 2, 1, 739), (11, 203, 43, 0, 740), (11, 209, 62, 0, 749), (11, 212, 159, 0, 750), (11, 215, 160, 0, 755), (11, 221, 57, 0, 763), (11, 236, 157, 0, 771), (11, 240, 153, 0, 775), (11, 243, 59, 0, 788), (11, 246, 38, 0, 796), (11, 259, 71, 0, 808), (11, 263, 7, 0, 820), (11, 266, 8, 0, 839), (11, 269, 9, 0, 847), (11, 272, 12, 0, 868), (11, 275, 15, 0, 892), (11, 278, 19, 0, 912), (11, 281, 21, 0, 928), (11, 284, 23, 0, 1253), (11, 287, 83, 0, 943), (11, 290, 84, 0, 963), (11, 293, 85, 0, 972), (11, 296, 86, 0, 980), (11, 299, 34, 0, 994), (11, 304, 49, 0, 1006), (11, 308, 50, 0, 1032), (11, 318, 44, 0, 1033), (11, 322, 48, 0, 1041), (11, 326, 0, 1, 1050), (11, 331, 90, 0, 1063), (11, 334, 91, 0, 1083), (11, 338, 72, 0, 1091), (11, 341, 24, 0, 1099), (11, 344, 26, 0, 1135), (11, 347, 40, 0, 1143), (11, 351, 41, 0, 1151), (11, 368, 27, 0, 681), (11, 375, 63, 0, 754), (12, 7, 166, 1, 1847), (12, 18, 167, 0, 1625), (12, 120, 163, 1, 1422), (12, 124, 169, 0, 1530), (12, 128, 164, 1, 1562), (12, 141, 3, 1, 1433), (12, 150, 165, 1, 1452), (12, 158, 175, 0, 1438), (12, 174, 177, 0, 1456), (12, 178, 174, 0, 1448), (12, 181, 176, 0, 1444), (12, 190, 179, 0, 1508), (12, 193, 173, 0, 1429), (12, 196, 180, 0, 1434), (12, 199, 178, 0, 1513), (12, 203, 182, 0, 1517), (12, 210, 183, 0, 1521), (12, 216, 186, 0, 1542), (12, 219, 185, 0, 1546), (12, 225, 187, 0, 1538), (12, 235, 189, 0, 1581), (12, 239, 191, 1, 1574), (12, 243, 190, 0, 1577), (12, 247, 192, 0, 1570), (12, 254, 2, 1, 1569), (12, 259, 162, 0, 1558), (12, 262, 194, 0, 1565), (12, 276, 201, 0, 1621), (12, 279, 203, 0, 1613), (12, 282, 200, 0, 1617), (12, 288, 193, 0, 1634), (12, 294, 207, 0, 1642), (12, 297, 170, 0, 1658), (12, 300, 211, 0, 1662), (12, 303, 202, 1, 1689), (12, 307, 217, 0, 1696), (12, 310, 219, 1, 1682), (12, 313, 216, 0, 1685), (12, 316, 218, 0, 1692), (12, 323, 0, 1, 1718), (12, 328, 225, 0, 1729), (12, 335, 226, 0, 1725), (12, 338, 228, 0, 1737), (12, 343, 232, 1, 1753), (12, 346, 233, 0, 1757), (12, 354, 240, 0, 1790), (12, 357, 242, 0, 1794), (12, 361, 241, 0, 1786), (12, 365, 245, 0, 1806), (12, 371, 250, 0, 1826), (12, 378, 168, 0, 1843), (12, 382, 254, 0, 1850), (12, 388, 259, 0, 1872), (13, 32, 103, 0, 504), (13, 36, 171, 0, 1414), (13, 37, 104, 0, 512), (13, 41, 172, 0, 1418), (13, 42, 105, 0, 516), (13, 46, 181, 0, 1425), (13, 47, 106, 0, 578), (13, 50, 188, 0, 1534), (13, 51, 107, 0, 616), (13, 54, 184, 0, 1526), (13, 60, 195, 0, 1553), (13, 61, 161, 0, 1264), (13, 66, 196, 0, 1585), (13, 67, 110, 0, 628), (13, 71, 197, 0, 1589), (13, 72, 111, 0, 635), (13, 76, 198, 0, 1596), (13, 77, 112, 0, 639), (13, 81, 199, 0, 1601), (13, 82, 113, 0, 653), (13, 85, 205, 0, 1609), (13, 86, 114, 0, 741), (13, 89, 206, 0, 1629), (13, 90, 115, 0, 745), (13, 93, 208, 0, 1638), (13, 94, 116, 0, 759), (13, 97, 209, 0, 1646), (13, 100, 210, 0, 1650), (13, 101, 118, 0, 767), (13, 104, 212, 0, 1654), (13, 105, 119, 0, 780), (13, 108, 213, 0, 1666), (13, 109, 120, 0, 784), (13, 112, 214, 0, 1670), (13, 113, 121, 0, 792), (13, 116, 204, 0, 1605), (13, 117, 122, 0, 800), (13, 120, 215, 0, 1674), (13, 121, 123, 0, 804), (13, 124, 220, 0, 1678), (13, 125, 124, 0, 816), (13, 128, 221, 0, 1700), (13, 129, 125, 0, 835), (13, 132, 222, 0, 1704), (13, 133, 126, 0, 843), (13, 136, 223, 0, 1708), (13, 137, 127, 0, 864), (13, 140, 224, 0, 1713), (13, 141, 128, 0, 888), (13, 144, 227, 0, 1719), (13, 145, 129, 0, 908), (13, 148, 229, 0, 1733), (13, 149, 130, 0, 924), (13, 152, 230, 0, 1741), (13, 155, 231, 0, 1745), (13, 156, 132, 0, 939), (13, 159, 234, 0, 1749), (13, 160, 133, 0, 959), (13, 163, 235, 0, 1761), (13, 164, 134, 0, 968), (13, 167, 236, 0, 1765), (13, 168, 135, 0, 976), (13, 171, 237, 0, 1769), (13, 172, 136, 0, 990), (13, 175, 238, 0, 1773), (13, 176, 137, 0, 998), (13, 179, 239, 0, 1778), (13, 180, 138, 0, 1002), (13, 183, 243, 0, 1782), (13, 184, 139, 0, 1028), (13, 187, 244, 0, 1798), (13, 188, 140, 0, 1037), (13, 191, 246, 0, 1802), (13, 192, 141, 0, 1046), (13, 195, 247, 0, 1810), (13, 196, 142, 0, 1051), (13, 199, 248, 0, 1814), (13, 200, 143, 0, 1055), (13, 203, 249, 0, 1818), (13, 204, 144, 0, 1059), (13, 207, 251, 0, 1822), (13, 208, 145, 0, 1079), (13, 211, 252, 0, 1830), (13, 212, 146, 0, 1087), (13, 215, 253, 0, 1834), (13, 216, 147, 0, 1095), (13, 219, 255, 0, 1838), (13, 220, 148, 0, 1131), (13, 223, 256, 0, 1856), (13, 224, 149, 0, 1139), (13, 227, 257, 0, 1860), (13, 228, 150, 0, 1147), (13, 231, 258, 0, 1864), (13, 232, 151, 0, 1156), (13, 235, 260, 0, 1868), (13, 239, 261, 0, 1876)]
/-- own class, index, 0 int 1 long 2 long below 0, number, place of the word -/
def hs_kl : List (Nat × (Nat × (Nat × (Nat × Nat)))) := [(0, 101, 0, 2147483647, 855), (0, 185, 1, 100000000, 1125), (0, 191, 1, 10000000000000000, 1130), (1, 80, 1, 100000000, 1119), (1, 89, 1, 10, 1124), (12, 154, 1, 48, 1442), (12, 156, 1, 57, 1443), (12, 257, 1, 7, 1557), (12, 265, 1, 999, 1593), (12, 267, 1, 3, 1594), (12, 269, 1, 9, 1595), (12, 271, 2, 9, 1600), (12, 286, 1, 99, 1633), (12, 319, 1, 12, 1712), (12, 321, 1, 10, 1717), (12, 331, 1, 4, 1723), (12, 333, 1, 20, 1724), (12, 341, 1, 60, 1756), (12, 349, 1, 1010, 1777), (12, 374, 1, 100000000, 1854), (12, 376, 1, 2, 1842), (12, 386, 1, 10000000000000000, 1855), (14, 265, 0, 1431655765, 883), (14, 266, 0, 858993459, 884), (14, 267, 0, 252645135, 885)]
def hs_al : List (Nat × (Nat × Nat)) := [(6, 49, 676), (8, 59, 563), (10, 41, 615)]
def hs_sl : List (Nat × (Nat × (Nat × Nat))) := [(12, 162, 0, 1460), (12, 168, 1, 1470)]
/-- how many there are of a kind -/
def hs_num (κ : Nat) : Nat := (hs_nth [1, 1, 2, 1, 1, 1, 37, 1, 1, 1, 1, 1, 1, 1, 1, 1, 1, 1, 1, 1, 1, 1, 1, 1, 37, 37, 37, 37, 37, 37, 1, 1, 1, 2, 2, 1, 1, 1, 1, 1, 1, 1, 1, 1, 1, 1, 1, 1, 1, 1, 1, 1, 1, 1, 1, 1, 1, 1, 1, 1, 1, 1, 1, 1, 1, 1, 1, 1, 1, 1, 1] κ).getD 0
end
section
/-! ===== the words stand in the tables ===== -/
def hs_GW : List Cond := lw_tbl.filter goodWord
def hs_is (i : Nat) (w : Cond) : Bool := decide (lw_tbl[i]? = some w) && goodWord w
theorem hs_is_in {i : Nat} {w : Cond} (h : hs_is i w = true) : w ∈ hs_GW := by
  simp only [hs_is, Bool.and_eq_true, decide_eq_true_eq] at h
  exact List.mem_filter.mpr ⟨List.mem_of_getElem? h.1, h.2⟩
theorem hs_in_tbl {w : Cond} (h : w ∈ hs_GW) : w ∈ lw_tbl := (List.mem_filter.mp h).1
theorem hs_in_good {w : Cond} (h : w ∈ hs_GW) : goodWord w = true := (List.mem_filter.mp h).2
set_option maxRecDepth 100000 in
theorem hs_fl_ok : hs_fl.all (fun q => hs_is q.2.2.2.2 (.fieldLink (hs_own q.1) q.2.1 (hs_cT q.2.2.1 q.2.2.2.1).1 (hs_cT q.2.2.1 q.2.2.2.1).2.1 (hs_cT q.2.2.1 q.2.2.2.1).2.2.1)) = true := by decide +kernel
set_option maxRecDepth 100000 in
theorem hs_ml_ok : hs_ml.all (fun q => match q.2.2.2.1 with
  | 2 => decide (lw_tbl[q.2.2.2.2]? = some (.methodLinkNest (hs_own q.1) q.2.1 (hs_nm q.2.2.1).1 "HeavierServes"))
  | _ => hs_is q.2.2.2.2 (.methodLink (hs_own q.1) q.2.1 (hs_nm q.2.2.1).1)) = true := by decide +kernel
set_option maxRecDepth 100000 in
theorem hs_kl_ok : hs_kl.all (fun q => match q.2.2.1 with
  | 0 => hs_is q.2.2.2.2 (.constant (hs_own q.1) q.2.1 (Int32.ofNat q.2.2.2.1))
  | 1 => hs_is q.2.2.2.2 (.constantLong (hs_own q.1) q.2.1 (Int64.ofNat q.2.2.2.1))
  | _ => hs_is q.2.2.2.2 (.constantLong (hs_own q.1) q.2.1 (-(Int64.ofNat q.2.2.2.1)))) = true := by decide +kernel
theorem hs_al_ok : hs_al.all (fun q => hs_is q.2.2 (.methodLink (hs_own q.1) q.2.1 arraycopyName)) = true := by decide +kernel
def hs_ckm (y : Nat) : Bool :=
  let n := hs_nm y
  let q := hs_mw y
  hs_isC q.2.1 n.1 n.2.2.1 n.2.2.2 && (decide (n.1.cls = hs_own q.1) && ((match q.2.2.2.1 with
    | 1 => hs_is q.2.2.1 (.static n.1)
    | _ => hs_is q.2.2.1 (.instanceMethod n.1) && hs_is q.2.2.2.2.2 (.selects n.1.cls n.1 n.1)) && (hs_is q.2.2.2.2.1 (.initialized n.1.cls) && (plainFor n.1 && (decide (n.1.cls ≠ "java/lang/invoke/MethodHandle" ∧ n.1.cls ≠ "java/lang/invoke/VarHandle") && decide (n.2.2.1 = (hs_prog y).2.1 ∧ n.2.2.1 ≤ 29))))))
set_option maxRecDepth 100000 in
theorem hs_ckm_0 : (List.range 20).all (fun k => hs_ckm (0 + k) || decide (262 ≤ 0 + k)) = true := by decide +kernel
set_option maxRecDepth 100000 in
theorem hs_ckm_1 : (List.range 20).all (fun k => hs_ckm (20 + k) || decide (262 ≤ 20 + k)) = true := by decide +kernel
set_option maxRecDepth 100000 in
theorem hs_ckm_2 : (List.range 20).all (fun k => hs_ckm (40 + k) || decide (262 ≤ 40 + k)) = true := by decide +kernel
set_option maxRecDepth 100000 in
theorem hs_ckm_3 : (List.range 20).all (fun k => hs_ckm (60 + k) || decide (262 ≤ 60 + k)) = true := by decide +kernel
set_option maxRecDepth 100000 in
theorem hs_ckm_4 : (List.range 20).all (fun k => hs_ckm (80 + k) || decide (262 ≤ 80 + k)) = true := by decide +kernel
set_option maxRecDepth 100000 in
theorem hs_ckm_5 : (List.range 20).all (fun k => hs_ckm (100 + k) || decide (262 ≤ 100 + k)) = true := by decide +kernel
set_option maxRecDepth 100000 in
theorem hs_ckm_6 : (List.range 20).all (fun k => hs_ckm (120 + k) || decide (262 ≤ 120 + k)) = true := by decide +kernel
set_option maxRecDepth 100000 in
theorem hs_ckm_7 : (List.range 20).all (fun k => hs_ckm (140 + k) || decide (262 ≤ 140 + k)) = true := by decide +kernel
set_option maxRecDepth 100000 in
theorem hs_ckm_8 : (List.range 20).all (fun k => hs_ckm (160 + k) || decide (262 ≤ 160 + k)) = true := by decide +kernel
set_option maxRecDepth 100000 in
theorem hs_ckm_9 : (List.range 20).all (fun k => hs_ckm (180 + k) || decide (262 ≤ 180 + k)) = true := by decide +kernel
set_option maxRecDepth 100000 in
theorem hs_ckm_10 : (List.range 20).all (fun k => hs_ckm (200 + k) || decide (262 ≤ 200 + k)) = true := by decide +kernel
set_option maxRecDepth 100000 in
theorem hs_ckm_11 : (List.range 20).all (fun k => hs_ckm (220 + k) || decide (262 ≤ 220 + k)) = true := by decide +kernel
set_option maxRecDepth 100000 in
theorem hs_ckm_12 : (List.range 20).all (fun k => hs_ckm (240 + k) || decide (262 ≤ 240 + k)) = true := by decide +kernel
set_option maxRecDepth 100000 in
theorem hs_ckm_13 : (List.range 20).all (fun k => hs_ckm (260 + k) || decide (262 ≤ 260 + k)) = true := by decide +kernel
end
section
/-! ===== the code rows are what the bytes say ===== -/
def hs_any (l : List (Nat × (Nat × (Nat × (Nat × Nat))))) (a b c d : Nat) : Bool := l.any (fun q => Nat.beq q.1 a && (Nat.beq q.2.1 b && (Nat.beq q.2.2.1 c && Nat.beq q.2.2.2.1 d)))
def hs_tok (pc : Nat) (off : Int) : Bool := decide ((pc : Int) + off = (hs_tgt pc off : Int))
def hs_vok : Int → List Int → Bool
  | _, [] => true
  | v, _ :: l => decide (Int32.ofInt v = hs_ic v) && hs_vok (v + 1) l
/-- how many parameters -/
def hs_np (y : Nat) : Nat := (hs_nth [1, 2, 2, 2, 2, 1, 1, 1, 1, 1, 1, 1, 2, 2, 2, 2, 1, 2, 2, 1, 0, 2, 2, 2, 2, 1, 0, 3, 2, 3, 1, 2, 1, 2, 2, 1, 1, 1, 1, 0, 3, 3, 1, 1, 3, 2, 2, 1, 3, 2, 3, 2, 1, 1, 2, 1, 2, 0, 0, 1, 1, 1, 1, 1, 1, 1, 0, 1, 1, 2, 1, 3, 2, 1, 2, 2, 2, 2, 1, 1, 1, 2, 1, 2, 2, 2, 0, 2, 1, 1, 2, 1, 1, 3, 1, 2, 2, 1, 1, 1, 3, 3, 4, 1, 1, 0, 0, 1, 2, 2, 3, 2, 4, 1, 1, 0, 0, 2, 2, 2, 1, 0, 1, 2, 1, 1, 1, 2, 2, 1, 2, 2, 1, 2, 2, 0, 2, 0, 0, 1, 0, 0, 2, 0, 1, 0, 1, 2, 0, 1, 1, 1, 1, 1, 3, 1, 2, 3, 2, 0, 0, 0, 0, 3, 2, 1, 2, 1, 2, 1, 1, 1, 1, 1, 1, 0, 1, 1, 3, 1, 0, 0, 2, 2, 1, 1, 0, 1, 0, 1, 3, 3, 2, 1, 1, 2, 2, 3, 2, 4, 2, 1, 2, 0, 0, 1, 1, 0, 0, 0, 2, 2, 2, 2, 1, 1, 0, 1, 2, 1, 2, 1, 1, 1, 2, 2, 2, 2, 1, 1, 2, 2, 1, 2, 1, 2, 2, 0, 2, 0, 2, 2, 3, 0, 1, 0, 0, 0, 2, 0, 1, 1, 0, 1, 2, 2, 0, 1, 1, 0, 1, 1] y).getD 0
def hs_stx : List (Nat × Nat) := [(172, 0), (188, 1), (223, 2), (228, 3), (230, 4)]
set_option maxRecDepth 100000 in
theorem hs_np_ok : (List.range 262).all (fun y => decide ((parseMethodDescriptor (hs_nm y).1.desc).map (fun d => d.parameters.length) = some (hs_np y))) = true := by decide +kernel
def hs_okI (own pc : Nat) (r : hs_R) (idx : Nat) (v : Bool) : Bool := Nat.beq r.2.1 3 && (match r.2.2.1 with
  | [y, n, k] => (match v with
    | true => hs_any hs_ml own idx y 0 && (Nat.beq n (hs_np y + 1) && Nat.beq (hs_mw y).2.2.2.1 0)
    | false => (hs_any hs_ml own idx y 1 || hs_any hs_ml own idx y 2) && (Nat.beq n (hs_np y) && Nat.beq (hs_mw y).2.2.2.1 1)) && (Nat.blt y 262 && (match (hs_prog y).2.2 with
      | 0 => Nat.beq k 0
      | 1 => Nat.beq k 1
      | 2 => Nat.beq k 2
      | _ => Nat.beq k 1))
  | [_] => (match v with
    | true => false
    | false => hs_al.any (fun q => Nat.beq q.1 own && Nat.beq q.2.1 idx))
  | [_, b] => (match v with
    | true => hs_sl.any (fun q => Nat.beq q.1 own && (Nat.beq q.2.1 idx && Nat.beq q.2.2.1 b))
    | false => false)
  | _ => true)
def hs_okr (own pc : Nat) (r : hs_R) : Bool :=
  match r.1 with
  | .iload _ => Nat.beq r.2.1 2
  | .lload _ => Nat.beq r.2.1 2
  | .aload _ => Nat.beq r.2.1 2
  | .istore _ => Nat.beq r.2.1 2
  | .lstore _ => Nat.beq r.2.1 2
  | .astore _ => Nat.beq r.2.1 2
  | .iinc _ n => Nat.beq r.2.1 3 && decide (Int32.ofInt n = hs_ic n)
  | .iconst n => Nat.beq r.2.1 1 && decide (Int32.ofInt n = hs_ic n)
  | .bipush n => Nat.beq r.2.1 2 && decide ((Int8.ofInt n).toInt32 = hs_ic n)
  | .sipush n => Nat.beq r.2.1 3 && decide ((Int16.ofInt n).toInt32 = hs_ic n)
  | .ldc idx => Nat.beq r.2.1 2 && (match r.2.2.1 with
    | [0, n] => hs_any hs_kl own idx 0 n
    | [1, n] => Nat.beq own 12 && hs_stx.any (fun q => Nat.beq q.1 idx && Nat.beq q.2 n)
    | _ => true)
  | .ldc_w idx => Nat.beq r.2.1 3 && (match r.2.2.1 with
    | [0, n] => hs_any hs_kl own idx 0 n
    | _ => true)
  | .ldc2_w idx => Nat.beq r.2.1 3 && (match r.2.2.1 with
    | [0, n] => hs_any hs_kl own idx 1 n
    | [1, n] => hs_any hs_kl own idx 2 n
    | _ => true)
  | .goto off => Nat.beq r.2.1 3 && hs_tok pc off
  | .ifCond _ off => Nat.beq r.2.1 3 && hs_tok pc off
  | .if_icmp _ off => Nat.beq r.2.1 3 && hs_tok pc off
  | .tableswitch dflt lo hi offs => hs_tok pc dflt && (offs.toList.all (hs_tok pc) && (hs_vok lo offs.toList && decide (hi + 1 = lo + offs.toList.length ∧ -1000 ≤ lo ∧ hi ≤ 1000)))
  | .lookupswitch dflt ps => hs_tok pc dflt && (ps.toList.all (fun q => hs_tok pc q.2 && (decide (Int32.ofInt q.1 = hs_ic q.1) && decide (-1000 ≤ q.1 ∧ q.1 ≤ 1000))) && (ps.toList.zip (ps.toList.drop 1)).all (fun (a, next) => a.1 < next.1))
  | .getfield idx => Nat.beq r.2.1 3 && (match r.2.2.1 with
    | [ci, f] => hs_any hs_fl own idx ci f && (Nat.blt f (hs_cN ci) && Nat.blt ci 13)
    | _ => true)
  | .putfield idx => Nat.beq r.2.1 3 && (match r.2.2.1 with
    | [ci, f] => hs_any hs_fl own idx ci f && (Nat.blt f (hs_cN ci) && (Nat.blt ci 13 && (!(hs_cT ci f).2.2.2 && decide (hs_cty ci f = .int))))
    | _ => true)
  | .invokevirtual idx => hs_okI own pc r idx true
  | .invokestatic idx => hs_okI own pc r idx false
  | _ => Nat.beq r.2.1 1 || (match r.1 with
    | .new _ => true
    | .invokespecial _ => true
    | .newarray _ => true
    | _ => false)
def hs_ckl (own : Nat) (bytes : ByteArray) : Nat → List (Option hs_R) → Bool
  | _, [] => true
  | pc, none :: l => hs_ckl own bytes (pc + 1) l
  | pc, some r :: l => decide (decode bytes pc = .ok (r.1, r.2.1)) && (hs_okr own pc r && hs_ckl own bytes (pc + 1) l)
def hs_ckk (own : Nat) (bytes : ByteArray) : Nat → hs_K → Bool
  | _, [] => true
  | pc, l :: k => Nat.ble l.length 16 && (hs_ckl own bytes pc l && hs_ckk own bytes (pc + 16) k)
theorem hs_ckl_at {own : Nat} {bytes : ByteArray} : ∀ (l : List (Option hs_R)) (pc i : Nat) (r : hs_R), hs_ckl own bytes pc l = true → hs_nth l i = some (some r) → decode bytes (pc + i) = .ok (r.1, r.2.1) ∧ hs_okr own (pc + i) r = true
  | [], _, _, _, _, h => by cases h
  | none :: l, pc, 0, r, _, h => by cases h
  | none :: l, pc, i + 1, r, hc, h => by
    have := hs_ckl_at l (pc + 1) i r hc h
    rw [show pc + (i + 1) = pc + 1 + i by omega]
    exact this
  | some q :: l, pc, 0, r, hc, h => by
    cases h
    simp only [hs_ckl, Bool.and_eq_true, decide_eq_true_eq] at hc
    exact ⟨hc.1, hc.2.1⟩
  | some q :: l, pc, i + 1, r, hc, h => by
    simp only [hs_ckl, Bool.and_eq_true, decide_eq_true_eq] at hc
    have := hs_ckl_at l (pc + 1) i r hc.2.2 h
    rw [show pc + (i + 1) = pc + 1 + i by omega]
    exact this
theorem hs_ckk_at {own : Nat} {bytes : ByteArray} : ∀ (k : hs_K) (pc a : Nat) (l : List (Option hs_R)), hs_ckk own bytes pc k = true → hs_nth k a = some l → hs_ckl own bytes (pc + 16 * a) l = true
  | [], _, _, _, _, h => by cases h
  | l :: k, pc, 0, l', hc, h => by
    cases h
    simp only [hs_ckk, Bool.and_eq_true] at hc
    exact hc.2.1
  | l :: k, pc, a + 1, l', hc, h => by
    simp only [hs_ckk, Bool.and_eq_true] at hc
    have := hs_ckk_at k (pc + 16) a l' hc.2.2 h
    rw [show pc + 16 * (a + 1) = pc + 16 + 16 * a by omega]
    exact this
theorem hs_at_ok {own : Nat} {bytes : ByteArray} {code : hs_K} (hc : hs_ckk own bytes 0 code = true) {pc : Nat} {r : hs_R} (h : hs_at code pc = some r) : decode bytes pc = .ok (r.1, r.2.1) ∧ hs_okr own pc r = true := by
  unfold hs_at at h
  cases h1 : hs_nth code (pc / 16) with
  | none => rw [h1] at h; cases h
  | some l =>
    rw [h1] at h
    dsimp only at h
    cases h2 : hs_nth l (pc % 16) with
    | none => rw [h2] at h; cases h
    | some o =>
      rw [h2] at h
      dsimp only at h
      subst h
      have := hs_ckl_at l _ _ r (hs_ckk_at code 0 _ l hc h1) h2
      rw [show 0 + 16 * (pc / 16) + pc % 16 = pc by omega] at this
      exact this
def hs_ckp (y : Nat) : Bool := hs_ckk (hs_mw y).1 (hs_nm y).2.1 0 (hs_prog y).1
end
section
/-! ===== the code rows checked, 1 ===== -/
set_option maxRecDepth 100000 in
theorem hs_ckp_8 : hs_ckp 8 = true := by decide +kernel
set_option maxRecDepth 100000 in
theorem hs_ckp_14 : hs_ckp 14 = true := by decide +kernel
set_option maxRecDepth 100000 in
theorem hs_ckp_17 : hs_ckp 17 = true := by decide +kernel
set_option maxRecDepth 100000 in
theorem hs_ckp_20 : hs_ckp 20 = true := by decide +kernel
set_option maxRecDepth 100000 in
theorem hs_ckp_21 : hs_ckp 21 = true := by decide +kernel
set_option maxRecDepth 100000 in
theorem hs_ckp_24 : hs_ckp 24 = true := by decide +kernel
set_option maxRecDepth 100000 in
theorem hs_ckp_27 : hs_ckp 27 = true := by decide +kernel
set_option maxRecDepth 100000 in
theorem hs_ckp_32 : hs_ckp 32 = true := by decide +kernel
set_option maxRecDepth 100000 in
theorem hs_ckp_40 : hs_ckp 40 = true := by decide +kernel
set_option maxRecDepth 100000 in
theorem hs_ckp_44 : hs_ckp 44 = true := by decide +kernel
set_option maxRecDepth 100000 in
theorem hs_ckp_73 : hs_ckp 73 = true := by decide +kernel
set_option maxRecDepth 100000 in
theorem hs_ckp_76 : hs_ckp 76 = true := by decide +kernel
set_option maxRecDepth 100000 in
theorem hs_ckp_92 : hs_ckp 92 = true := by decide +kernel
set_option maxRecDepth 100000 in
theorem hs_ckp_93 : hs_ckp 93 = true := by decide +kernel
set_option maxRecDepth 100000 in
theorem hs_ckp_101 : hs_ckp 101 = true := by decide +kernel
set_option maxRecDepth 100000 in
theorem hs_ckp_118 : hs_ckp 118 = true := by decide +kernel
set_option maxRecDepth 100000 in
theorem hs_ckp_120 : hs_ckp 120 = true := by decide +kernel
set_option maxRecDepth 100000 in
theorem hs_ckp_123 : hs_ckp 123 = true := by decide +kernel
set_option maxRecDepth 100000 in
theorem hs_ckp_126 : hs_ckp 126 = true := by decide +kernel
set_option maxRecDepth 100000 in
theorem hs_ckp_127 : hs_ckp 127 = true := by decide +kernel
set_option maxRecDepth 100000 in
theorem hs_ckp_133 : hs_ckp 133 = true := by decide +kernel
set_option maxRecDepth 100000 in
theorem hs_ckp_135 : hs_ckp 135 = true := by decide +kernel
set_option maxRecDepth 100000 in
theorem hs_ckp_156 : hs_ckp 156 = true := by decide +kernel
set_option maxRecDepth 100000 in
theorem hs_ckp_157 : hs_ckp 157 = true := by decide +kernel
set_option maxRecDepth 100000 in
theorem hs_ckp_189 : hs_ckp 189 = true := by decide +kernel
set_option maxRecDepth 100000 in
theorem hs_ckp_200 : hs_ckp 200 = true := by decide +kernel
set_option maxRecDepth 100000 in
theorem hs_ckp_215 : hs_ckp 215 = true := by decide +kernel
set_option maxRecDepth 100000 in
theorem hs_ckp_226 : hs_ckp 226 = true := by decide +kernel
set_option maxRecDepth 100000 in
theorem hs_ckp_240 : hs_ckp 240 = true := by decide +kernel
set_option maxRecDepth 100000 in
theorem hs_ckp_249 : hs_ckp 249 = true := by decide +kernel
set_option maxRecDepth 100000 in
theorem hs_ckp_261 : hs_ckp 261 = true := by decide +kernel
end
section
/-! ===== the code rows checked, 2 ===== -/
set_option maxRecDepth 100000 in
theorem hs_ckp_0 : hs_ckp 0 = true := by decide +kernel
set_option maxRecDepth 100000 in
theorem hs_ckp_2 : hs_ckp 2 = true := by decide +kernel
set_option maxRecDepth 100000 in
theorem hs_ckp_15 : hs_ckp 15 = true := by decide +kernel
set_option maxRecDepth 100000 in
theorem hs_ckp_31 : hs_ckp 31 = true := by decide +kernel
set_option maxRecDepth 100000 in
theorem hs_ckp_52 : hs_ckp 52 = true := by decide +kernel
set_option maxRecDepth 100000 in
theorem hs_ckp_56 : hs_ckp 56 = true := by decide +kernel
set_option maxRecDepth 100000 in
theorem hs_ckp_60 : hs_ckp 60 = true := by decide +kernel
set_option maxRecDepth 100000 in
theorem hs_ckp_80 : hs_ckp 80 = true := by decide +kernel
set_option maxRecDepth 100000 in
theorem hs_ckp_82 : hs_ckp 82 = true := by decide +kernel
set_option maxRecDepth 100000 in
theorem hs_ckp_90 : hs_ckp 90 = true := by decide +kernel
set_option maxRecDepth 100000 in
theorem hs_ckp_97 : hs_ckp 97 = true := by decide +kernel
set_option maxRecDepth 100000 in
theorem hs_ckp_105 : hs_ckp 105 = true := by decide +kernel
set_option maxRecDepth 100000 in
theorem hs_ckp_112 : hs_ckp 112 = true := by decide +kernel
set_option maxRecDepth 100000 in
theorem hs_ckp_119 : hs_ckp 119 = true := by decide +kernel
set_option maxRecDepth 100000 in
theorem hs_ckp_131 : hs_ckp 131 = true := by decide +kernel
set_option maxRecDepth 100000 in
theorem hs_ckp_137 : hs_ckp 137 = true := by decide +kernel
set_option maxRecDepth 100000 in
theorem hs_ckp_141 : hs_ckp 141 = true := by decide +kernel
set_option maxRecDepth 100000 in
theorem hs_ckp_144 : hs_ckp 144 = true := by decide +kernel
set_option maxRecDepth 100000 in
theorem hs_ckp_152 : hs_ckp 152 = true := by decide +kernel
set_option maxRecDepth 100000 in
theorem hs_ckp_155 : hs_ckp 155 = true := by decide +kernel
set_option maxRecDepth 100000 in
theorem hs_ckp_158 : hs_ckp 158 = true := by decide +kernel
set_option maxRecDepth 100000 in
theorem hs_ckp_161 : hs_ckp 161 = true := by decide +kernel
set_option maxRecDepth 100000 in
theorem hs_ckp_170 : hs_ckp 170 = true := by decide +kernel
set_option maxRecDepth 100000 in
theorem hs_ckp_173 : hs_ckp 173 = true := by decide +kernel
set_option maxRecDepth 100000 in
theorem hs_ckp_176 : hs_ckp 176 = true := by decide +kernel
set_option maxRecDepth 100000 in
theorem hs_ckp_177 : hs_ckp 177 = true := by decide +kernel
set_option maxRecDepth 100000 in
theorem hs_ckp_196 : hs_ckp 196 = true := by decide +kernel
set_option maxRecDepth 100000 in
theorem hs_ckp_213 : hs_ckp 213 = true := by decide +kernel
set_option maxRecDepth 100000 in
theorem hs_ckp_222 : hs_ckp 222 = true := by decide +kernel
set_option maxRecDepth 100000 in
theorem hs_ckp_231 : hs_ckp 231 = true := by decide +kernel
set_option maxRecDepth 100000 in
theorem hs_ckp_236 : hs_ckp 236 = true := by decide +kernel
set_option maxRecDepth 100000 in
theorem hs_ckp_246 : hs_ckp 246 = true := by decide +kernel
set_option maxRecDepth 100000 in
theorem hs_ckp_254 : hs_ckp 254 = true := by decide +kernel
end
section
/-! ===== the code rows checked, 3 ===== -/
set_option maxRecDepth 100000 in
theorem hs_ckp_22 : hs_ckp 22 = true := by decide +kernel
set_option maxRecDepth 100000 in
theorem hs_ckp_36 : hs_ckp 36 = true := by decide +kernel
set_option maxRecDepth 100000 in
theorem hs_ckp_47 : hs_ckp 47 = true := by decide +kernel
set_option maxRecDepth 100000 in
theorem hs_ckp_49 : hs_ckp 49 = true := by decide +kernel
set_option maxRecDepth 100000 in
theorem hs_ckp_54 : hs_ckp 54 = true := by decide +kernel
set_option maxRecDepth 100000 in
theorem hs_ckp_57 : hs_ckp 57 = true := by decide +kernel
set_option maxRecDepth 100000 in
theorem hs_ckp_83 : hs_ckp 83 = true := by decide +kernel
set_option maxRecDepth 100000 in
theorem hs_ckp_84 : hs_ckp 84 = true := by decide +kernel
set_option maxRecDepth 100000 in
theorem hs_ckp_87 : hs_ckp 87 = true := by decide +kernel
set_option maxRecDepth 100000 in
theorem hs_ckp_99 : hs_ckp 99 = true := by decide +kernel
set_option maxRecDepth 100000 in
theorem hs_ckp_107 : hs_ckp 107 = true := by decide +kernel
set_option maxRecDepth 100000 in
theorem hs_ckp_108 : hs_ckp 108 = true := by decide +kernel
set_option maxRecDepth 100000 in
theorem hs_ckp_113 : hs_ckp 113 = true := by decide +kernel
set_option maxRecDepth 100000 in
theorem hs_ckp_121 : hs_ckp 121 = true := by decide +kernel
set_option maxRecDepth 100000 in
theorem hs_ckp_130 : hs_ckp 130 = true := by decide +kernel
set_option maxRecDepth 100000 in
theorem hs_ckp_148 : hs_ckp 148 = true := by decide +kernel
set_option maxRecDepth 100000 in
theorem hs_ckp_151 : hs_ckp 151 = true := by decide +kernel
set_option maxRecDepth 100000 in
theorem hs_ckp_154 : hs_ckp 154 = true := by decide +kernel
set_option maxRecDepth 100000 in
theorem hs_ckp_162 : hs_ckp 162 = true := by decide +kernel
set_option maxRecDepth 100000 in
theorem hs_ckp_166 : hs_ckp 166 = true := by decide +kernel
set_option maxRecDepth 100000 in
theorem hs_ckp_169 : hs_ckp 169 = true := by decide +kernel
set_option maxRecDepth 100000 in
theorem hs_ckp_190 : hs_ckp 190 = true := by decide +kernel
set_option maxRecDepth 100000 in
theorem hs_ckp_192 : hs_ckp 192 = true := by decide +kernel
set_option maxRecDepth 100000 in
theorem hs_ckp_198 : hs_ckp 198 = true := by decide +kernel
set_option maxRecDepth 100000 in
theorem hs_ckp_204 : hs_ckp 204 = true := by decide +kernel
set_option maxRecDepth 100000 in
theorem hs_ckp_212 : hs_ckp 212 = true := by decide +kernel
set_option maxRecDepth 100000 in
theorem hs_ckp_223 : hs_ckp 223 = true := by decide +kernel
set_option maxRecDepth 100000 in
theorem hs_ckp_225 : hs_ckp 225 = true := by decide +kernel
set_option maxRecDepth 100000 in
theorem hs_ckp_228 : hs_ckp 228 = true := by decide +kernel
set_option maxRecDepth 100000 in
theorem hs_ckp_237 : hs_ckp 237 = true := by decide +kernel
set_option maxRecDepth 100000 in
theorem hs_ckp_239 : hs_ckp 239 = true := by decide +kernel
set_option maxRecDepth 100000 in
theorem hs_ckp_242 : hs_ckp 242 = true := by decide +kernel
set_option maxRecDepth 100000 in
theorem hs_ckp_259 : hs_ckp 259 = true := by decide +kernel
end
section
/-! ===== the code rows checked, 4 ===== -/
set_option maxRecDepth 100000 in
theorem hs_ckp_3 : hs_ckp 3 = true := by decide +kernel
set_option maxRecDepth 100000 in
theorem hs_ckp_6 : hs_ckp 6 = true := by decide +kernel
set_option maxRecDepth 100000 in
theorem hs_ckp_13 : hs_ckp 13 = true := by decide +kernel
set_option maxRecDepth 100000 in
theorem hs_ckp_26 : hs_ckp 26 = true := by decide +kernel
set_option maxRecDepth 100000 in
theorem hs_ckp_33 : hs_ckp 33 = true := by decide +kernel
set_option maxRecDepth 100000 in
theorem hs_ckp_35 : hs_ckp 35 = true := by decide +kernel
set_option maxRecDepth 100000 in
theorem hs_ckp_59 : hs_ckp 59 = true := by decide +kernel
set_option maxRecDepth 100000 in
theorem hs_ckp_68 : hs_ckp 68 = true := by decide +kernel
set_option maxRecDepth 100000 in
theorem hs_ckp_70 : hs_ckp 70 = true := by decide +kernel
set_option maxRecDepth 100000 in
theorem hs_ckp_72 : hs_ckp 72 = true := by decide +kernel
set_option maxRecDepth 100000 in
theorem hs_ckp_74 : hs_ckp 74 = true := by decide +kernel
set_option maxRecDepth 100000 in
theorem hs_ckp_77 : hs_ckp 77 = true := by decide +kernel
set_option maxRecDepth 100000 in
theorem hs_ckp_81 : hs_ckp 81 = true := by decide +kernel
set_option maxRecDepth 100000 in
theorem hs_ckp_91 : hs_ckp 91 = true := by decide +kernel
set_option maxRecDepth 100000 in
theorem hs_ckp_94 : hs_ckp 94 = true := by decide +kernel
set_option maxRecDepth 100000 in
theorem hs_ckp_96 : hs_ckp 96 = true := by decide +kernel
set_option maxRecDepth 100000 in
theorem hs_ckp_106 : hs_ckp 106 = true := by decide +kernel
set_option maxRecDepth 100000 in
theorem hs_ckp_145 : hs_ckp 145 = true := by decide +kernel
set_option maxRecDepth 100000 in
theorem hs_ckp_160 : hs_ckp 160 = true := by decide +kernel
set_option maxRecDepth 100000 in
theorem hs_ckp_163 : hs_ckp 163 = true := by decide +kernel
set_option maxRecDepth 100000 in
theorem hs_ckp_171 : hs_ckp 171 = true := by decide +kernel
set_option maxRecDepth 100000 in
theorem hs_ckp_175 : hs_ckp 175 = true := by decide +kernel
set_option maxRecDepth 100000 in
theorem hs_ckp_183 : hs_ckp 183 = true := by decide +kernel
set_option maxRecDepth 100000 in
theorem hs_ckp_187 : hs_ckp 187 = true := by decide +kernel
set_option maxRecDepth 100000 in
theorem hs_ckp_188 : hs_ckp 188 = true := by decide +kernel
set_option maxRecDepth 100000 in
theorem hs_ckp_202 : hs_ckp 202 = true := by decide +kernel
set_option maxRecDepth 100000 in
theorem hs_ckp_203 : hs_ckp 203 = true := by decide +kernel
set_option maxRecDepth 100000 in
theorem hs_ckp_207 : hs_ckp 207 = true := by decide +kernel
set_option maxRecDepth 100000 in
theorem hs_ckp_217 : hs_ckp 217 = true := by decide +kernel
set_option maxRecDepth 100000 in
theorem hs_ckp_233 : hs_ckp 233 = true := by decide +kernel
set_option maxRecDepth 100000 in
theorem hs_ckp_241 : hs_ckp 241 = true := by decide +kernel
set_option maxRecDepth 100000 in
theorem hs_ckp_251 : hs_ckp 251 = true := by decide +kernel
set_option maxRecDepth 100000 in
theorem hs_ckp_260 : hs_ckp 260 = true := by decide +kernel
end
section
/-! ===== the code rows checked, 5 ===== -/
set_option maxRecDepth 100000 in
theorem hs_ckp_4 : hs_ckp 4 = true := by decide +kernel
set_option maxRecDepth 100000 in
theorem hs_ckp_10 : hs_ckp 10 = true := by decide +kernel
set_option maxRecDepth 100000 in
theorem hs_ckp_16 : hs_ckp 16 = true := by decide +kernel
set_option maxRecDepth 100000 in
theorem hs_ckp_29 : hs_ckp 29 = true := by decide +kernel
set_option maxRecDepth 100000 in
theorem hs_ckp_37 : hs_ckp 37 = true := by decide +kernel
set_option maxRecDepth 100000 in
theorem hs_ckp_42 : hs_ckp 42 = true := by decide +kernel
set_option maxRecDepth 100000 in
theorem hs_ckp_43 : hs_ckp 43 = true := by decide +kernel
set_option maxRecDepth 100000 in
theorem hs_ckp_55 : hs_ckp 55 = true := by decide +kernel
set_option maxRecDepth 100000 in
theorem hs_ckp_58 : hs_ckp 58 = true := by decide +kernel
set_option maxRecDepth 100000 in
theorem hs_ckp_95 : hs_ckp 95 = true := by decide +kernel
set_option maxRecDepth 100000 in
theorem hs_ckp_104 : hs_ckp 104 = true := by decide +kernel
set_option maxRecDepth 100000 in
theorem hs_ckp_110 : hs_ckp 110 = true := by decide +kernel
set_option maxRecDepth 100000 in
theorem hs_ckp_117 : hs_ckp 117 = true := by decide +kernel
set_option maxRecDepth 100000 in
theorem hs_ckp_124 : hs_ckp 124 = true := by decide +kernel
set_option maxRecDepth 100000 in
theorem hs_ckp_125 : hs_ckp 125 = true := by decide +kernel
set_option maxRecDepth 100000 in
theorem hs_ckp_134 : hs_ckp 134 = true := by decide +kernel
set_option maxRecDepth 100000 in
theorem hs_ckp_136 : hs_ckp 136 = true := by decide +kernel
set_option maxRecDepth 100000 in
theorem hs_ckp_139 : hs_ckp 139 = true := by decide +kernel
set_option maxRecDepth 100000 in
theorem hs_ckp_143 : hs_ckp 143 = true := by decide +kernel
set_option maxRecDepth 100000 in
theorem hs_ckp_165 : hs_ckp 165 = true := by decide +kernel
set_option maxRecDepth 100000 in
theorem hs_ckp_174 : hs_ckp 174 = true := by decide +kernel
set_option maxRecDepth 100000 in
theorem hs_ckp_179 : hs_ckp 179 = true := by decide +kernel
set_option maxRecDepth 100000 in
theorem hs_ckp_182 : hs_ckp 182 = true := by decide +kernel
set_option maxRecDepth 100000 in
theorem hs_ckp_184 : hs_ckp 184 = true := by decide +kernel
set_option maxRecDepth 100000 in
theorem hs_ckp_186 : hs_ckp 186 = true := by decide +kernel
set_option maxRecDepth 100000 in
theorem hs_ckp_191 : hs_ckp 191 = true := by decide +kernel
set_option maxRecDepth 100000 in
theorem hs_ckp_195 : hs_ckp 195 = true := by decide +kernel
set_option maxRecDepth 100000 in
theorem hs_ckp_201 : hs_ckp 201 = true := by decide +kernel
set_option maxRecDepth 100000 in
theorem hs_ckp_205 : hs_ckp 205 = true := by decide +kernel
set_option maxRecDepth 100000 in
theorem hs_ckp_220 : hs_ckp 220 = true := by decide +kernel
set_option maxRecDepth 100000 in
theorem hs_ckp_230 : hs_ckp 230 = true := by decide +kernel
set_option maxRecDepth 100000 in
theorem hs_ckp_244 : hs_ckp 244 = true := by decide +kernel
set_option maxRecDepth 100000 in
theorem hs_ckp_256 : hs_ckp 256 = true := by decide +kernel
end
section
/-! ===== the code rows checked, 6 ===== -/
set_option maxRecDepth 100000 in
theorem hs_ckp_9 : hs_ckp 9 = true := by decide +kernel
set_option maxRecDepth 100000 in
theorem hs_ckp_12 : hs_ckp 12 = true := by decide +kernel
set_option maxRecDepth 100000 in
theorem hs_ckp_18 : hs_ckp 18 = true := by decide +kernel
set_option maxRecDepth 100000 in
theorem hs_ckp_19 : hs_ckp 19 = true := by decide +kernel
set_option maxRecDepth 100000 in
theorem hs_ckp_28 : hs_ckp 28 = true := by decide +kernel
set_option maxRecDepth 100000 in
theorem hs_ckp_38 : hs_ckp 38 = true := by decide +kernel
set_option maxRecDepth 100000 in
theorem hs_ckp_46 : hs_ckp 46 = true := by decide +kernel
set_option maxRecDepth 100000 in
theorem hs_ckp_53 : hs_ckp 53 = true := by decide +kernel
set_option maxRecDepth 100000 in
theorem hs_ckp_63 : hs_ckp 63 = true := by decide +kernel
set_option maxRecDepth 100000 in
theorem hs_ckp_66 : hs_ckp 66 = true := by decide +kernel
set_option maxRecDepth 100000 in
theorem hs_ckp_69 : hs_ckp 69 = true := by decide +kernel
set_option maxRecDepth 100000 in
theorem hs_ckp_71 : hs_ckp 71 = true := by decide +kernel
set_option maxRecDepth 100000 in
theorem hs_ckp_88 : hs_ckp 88 = true := by decide +kernel
set_option maxRecDepth 100000 in
theorem hs_ckp_109 : hs_ckp 109 = true := by decide +kernel
set_option maxRecDepth 100000 in
theorem hs_ckp_111 : hs_ckp 111 = true := by decide +kernel
set_option maxRecDepth 100000 in
theorem hs_ckp_115 : hs_ckp 115 = true := by decide +kernel
set_option maxRecDepth 100000 in
theorem hs_ckp_140 : hs_ckp 140 = true := by decide +kernel
set_option maxRecDepth 100000 in
theorem hs_ckp_142 : hs_ckp 142 = true := by decide +kernel
set_option maxRecDepth 100000 in
theorem hs_ckp_150 : hs_ckp 150 = true := by decide +kernel
set_option maxRecDepth 100000 in
theorem hs_ckp_153 : hs_ckp 153 = true := by decide +kernel
set_option maxRecDepth 100000 in
theorem hs_ckp_164 : hs_ckp 164 = true := by decide +kernel
set_option maxRecDepth 100000 in
theorem hs_ckp_180 : hs_ckp 180 = true := by decide +kernel
set_option maxRecDepth 100000 in
theorem hs_ckp_185 : hs_ckp 185 = true := by decide +kernel
set_option maxRecDepth 100000 in
theorem hs_ckp_208 : hs_ckp 208 = true := by decide +kernel
set_option maxRecDepth 100000 in
theorem hs_ckp_216 : hs_ckp 216 = true := by decide +kernel
set_option maxRecDepth 100000 in
theorem hs_ckp_221 : hs_ckp 221 = true := by decide +kernel
set_option maxRecDepth 100000 in
theorem hs_ckp_229 : hs_ckp 229 = true := by decide +kernel
set_option maxRecDepth 100000 in
theorem hs_ckp_232 : hs_ckp 232 = true := by decide +kernel
set_option maxRecDepth 100000 in
theorem hs_ckp_235 : hs_ckp 235 = true := by decide +kernel
set_option maxRecDepth 100000 in
theorem hs_ckp_247 : hs_ckp 247 = true := by decide +kernel
set_option maxRecDepth 100000 in
theorem hs_ckp_252 : hs_ckp 252 = true := by decide +kernel
set_option maxRecDepth 100000 in
theorem hs_ckp_255 : hs_ckp 255 = true := by decide +kernel
set_option maxRecDepth 100000 in
theorem hs_ckp_257 : hs_ckp 257 = true := by decide +kernel
end
section
/-! ===== the code rows checked, 7 ===== -/
set_option maxRecDepth 100000 in
theorem hs_ckp_1 : hs_ckp 1 = true := by decide +kernel
set_option maxRecDepth 100000 in
theorem hs_ckp_7 : hs_ckp 7 = true := by decide +kernel
set_option maxRecDepth 100000 in
theorem hs_ckp_11 : hs_ckp 11 = true := by decide +kernel
set_option maxRecDepth 100000 in
theorem hs_ckp_23 : hs_ckp 23 = true := by decide +kernel
set_option maxRecDepth 100000 in
theorem hs_ckp_41 : hs_ckp 41 = true := by decide +kernel
set_option maxRecDepth 100000 in
theorem hs_ckp_45 : hs_ckp 45 = true := by decide +kernel
set_option maxRecDepth 100000 in
theorem hs_ckp_48 : hs_ckp 48 = true := by decide +kernel
set_option maxRecDepth 100000 in
theorem hs_ckp_51 : hs_ckp 51 = true := by decide +kernel
set_option maxRecDepth 100000 in
theorem hs_ckp_62 : hs_ckp 62 = true := by decide +kernel
set_option maxRecDepth 100000 in
theorem hs_ckp_65 : hs_ckp 65 = true := by decide +kernel
set_option maxRecDepth 100000 in
theorem hs_ckp_67 : hs_ckp 67 = true := by decide +kernel
set_option maxRecDepth 100000 in
theorem hs_ckp_78 : hs_ckp 78 = true := by decide +kernel
set_option maxRecDepth 100000 in
theorem hs_ckp_85 : hs_ckp 85 = true := by decide +kernel
set_option maxRecDepth 100000 in
theorem hs_ckp_103 : hs_ckp 103 = true := by decide +kernel
set_option maxRecDepth 100000 in
theorem hs_ckp_128 : hs_ckp 128 = true := by decide +kernel
set_option maxRecDepth 100000 in
theorem hs_ckp_132 : hs_ckp 132 = true := by decide +kernel
set_option maxRecDepth 100000 in
theorem hs_ckp_146 : hs_ckp 146 = true := by decide +kernel
set_option maxRecDepth 100000 in
theorem hs_ckp_149 : hs_ckp 149 = true := by decide +kernel
set_option maxRecDepth 100000 in
theorem hs_ckp_159 : hs_ckp 159 = true := by decide +kernel
set_option maxRecDepth 100000 in
theorem hs_ckp_167 : hs_ckp 167 = true := by decide +kernel
set_option maxRecDepth 100000 in
theorem hs_ckp_168 : hs_ckp 168 = true := by decide +kernel
set_option maxRecDepth 100000 in
theorem hs_ckp_172 : hs_ckp 172 = true := by decide +kernel
set_option maxRecDepth 100000 in
theorem hs_ckp_178 : hs_ckp 178 = true := by decide +kernel
set_option maxRecDepth 100000 in
theorem hs_ckp_197 : hs_ckp 197 = true := by decide +kernel
set_option maxRecDepth 100000 in
theorem hs_ckp_199 : hs_ckp 199 = true := by decide +kernel
set_option maxRecDepth 100000 in
theorem hs_ckp_210 : hs_ckp 210 = true := by decide +kernel
set_option maxRecDepth 100000 in
theorem hs_ckp_219 : hs_ckp 219 = true := by decide +kernel
set_option maxRecDepth 100000 in
theorem hs_ckp_224 : hs_ckp 224 = true := by decide +kernel
set_option maxRecDepth 100000 in
theorem hs_ckp_227 : hs_ckp 227 = true := by decide +kernel
set_option maxRecDepth 100000 in
theorem hs_ckp_238 : hs_ckp 238 = true := by decide +kernel
set_option maxRecDepth 100000 in
theorem hs_ckp_243 : hs_ckp 243 = true := by decide +kernel
set_option maxRecDepth 100000 in
theorem hs_ckp_245 : hs_ckp 245 = true := by decide +kernel
set_option maxRecDepth 100000 in
theorem hs_ckp_258 : hs_ckp 258 = true := by decide +kernel
end
section
/-! ===== the code rows checked, 8 ===== -/
set_option maxRecDepth 100000 in
theorem hs_ckp_5 : hs_ckp 5 = true := by decide +kernel
set_option maxRecDepth 100000 in
theorem hs_ckp_25 : hs_ckp 25 = true := by decide +kernel
set_option maxRecDepth 100000 in
theorem hs_ckp_30 : hs_ckp 30 = true := by decide +kernel
set_option maxRecDepth 100000 in
theorem hs_ckp_34 : hs_ckp 34 = true := by decide +kernel
set_option maxRecDepth 100000 in
theorem hs_ckp_39 : hs_ckp 39 = true := by decide +kernel
set_option maxRecDepth 100000 in
theorem hs_ckp_50 : hs_ckp 50 = true := by decide +kernel
set_option maxRecDepth 100000 in
theorem hs_ckp_61 : hs_ckp 61 = true := by decide +kernel
set_option maxRecDepth 100000 in
theorem hs_ckp_64 : hs_ckp 64 = true := by decide +kernel
set_option maxRecDepth 100000 in
theorem hs_ckp_75 : hs_ckp 75 = true := by decide +kernel
set_option maxRecDepth 100000 in
theorem hs_ckp_79 : hs_ckp 79 = true := by decide +kernel
set_option maxRecDepth 100000 in
theorem hs_ckp_86 : hs_ckp 86 = true := by decide +kernel
set_option maxRecDepth 100000 in
theorem hs_ckp_89 : hs_ckp 89 = true := by decide +kernel
set_option maxRecDepth 100000 in
theorem hs_ckp_98 : hs_ckp 98 = true := by decide +kernel
set_option maxRecDepth 100000 in
theorem hs_ckp_100 : hs_ckp 100 = true := by decide +kernel
set_option maxRecDepth 100000 in
theorem hs_ckp_102 : hs_ckp 102 = true := by decide +kernel
set_option maxRecDepth 100000 in
theorem hs_ckp_114 : hs_ckp 114 = true := by decide +kernel
set_option maxRecDepth 100000 in
theorem hs_ckp_116 : hs_ckp 116 = true := by decide +kernel
set_option maxRecDepth 100000 in
theorem hs_ckp_122 : hs_ckp 122 = true := by decide +kernel
set_option maxRecDepth 100000 in
theorem hs_ckp_129 : hs_ckp 129 = true := by decide +kernel
set_option maxRecDepth 100000 in
theorem hs_ckp_138 : hs_ckp 138 = true := by decide +kernel
set_option maxRecDepth 100000 in
theorem hs_ckp_147 : hs_ckp 147 = true := by decide +kernel
set_option maxRecDepth 100000 in
theorem hs_ckp_181 : hs_ckp 181 = true := by decide +kernel
set_option maxRecDepth 100000 in
theorem hs_ckp_193 : hs_ckp 193 = true := by decide +kernel
set_option maxRecDepth 100000 in
theorem hs_ckp_194 : hs_ckp 194 = true := by decide +kernel
set_option maxRecDepth 100000 in
theorem hs_ckp_206 : hs_ckp 206 = true := by decide +kernel
set_option maxRecDepth 100000 in
theorem hs_ckp_209 : hs_ckp 209 = true := by decide +kernel
set_option maxRecDepth 100000 in
theorem hs_ckp_211 : hs_ckp 211 = true := by decide +kernel
set_option maxRecDepth 100000 in
theorem hs_ckp_214 : hs_ckp 214 = true := by decide +kernel
set_option maxRecDepth 100000 in
theorem hs_ckp_218 : hs_ckp 218 = true := by decide +kernel
set_option maxRecDepth 100000 in
theorem hs_ckp_234 : hs_ckp 234 = true := by decide +kernel
set_option maxRecDepth 100000 in
theorem hs_ckp_248 : hs_ckp 248 = true := by decide +kernel
set_option maxRecDepth 100000 in
theorem hs_ckp_250 : hs_ckp 250 = true := by decide +kernel
set_option maxRecDepth 100000 in
theorem hs_ckp_253 : hs_ckp 253 = true := by decide +kernel
end
section
/-! ===== the world: what the heap holds, by the abstract memory ===== -/
/-- classes' numbers, field slots, array classes by kind, addresses, the texts' byte arrays, the cells that are ours -/
abbrev hs_G : Type := (Nat → ClassId) × ((Nat → Nat → Nat) × ((Nat → ClassId) × ((Nat → Nat → Nat) × ((Nat → Nat) × (Nat → Prop)))))
abbrev hs_gD (g : hs_G) : va_G := (g.1, g.2.1)
abbrev hs_gC (g : hs_G) : Nat → ClassId := g.2.2.1
abbrev hs_gA (g : hs_G) : Nat → Nat → Nat := g.2.2.2.1
abbrev hs_gV (g : hs_G) : Nat → Nat := g.2.2.2.2.1
abbrev hs_gP (g : hs_G) : Nat → Prop := g.2.2.2.2.2
def hs_enc (g : hs_G) : hs_V → Value
  | .inl x => .int x
  | .inr (.inl x) => .long x
  | .inr (.inr q) => .ref (hs_gA g q.1 q.2)
theorem hs_enc_cat (g : hs_G) (v : hs_V) : (hs_enc g v).category = hs_cat v := by
  rcases v with x | x | x <;> rfl
/-- a reference that is one -/
def hs_ok : hs_V → Prop
  | .inr (.inr q) => (q.1 < 70 ∧ q.2 < hs_num q.1) ∨ (q.1 = 90 ∧ q.2 < 5) ∨ q = (70, 0)
  | _ => True
def hs_fv (g : hs_G) (μ : hs_M) (κ j : Nat) : Nat → List (Option (Nat × Nat × Nat)) → List Value
  | _, [] => []
  | k, none :: l => .int (μ.1 κ j k) :: hs_fv g μ κ j (k + 1) l
  | k, some (κ', 0, b) :: l => .ref (hs_gA g κ' b) :: hs_fv g μ κ j (k + 1) l
  | k, some (κ', _ + 1, b) :: l => .ref (hs_gA g κ' (j + b)) :: hs_fv g μ κ j (k + 1) l
def hs_cell (g : hs_G) (μ : hs_M) (κ j : Nat) : va_E := match hs_akind κ with
  | 0 => .inl (hs_gC g 0, hs_len μ κ j, .inl (μ.1 κ j))
  | 1 => .inl (hs_gC g 1, hs_len μ κ j, .inr (.inl (μ.2 κ j)))
  | 2 => .inl (hs_gC g 2, hs_len μ κ j, .inl (μ.1 κ j))
  | 3 => .inl (hs_gC g 3, hs_len μ κ j, .inr (.inr (.inr (.inr (fun i => some (hs_gA g 6 (hs_base κ + i)))))))
  | _ => .inr (κ, hs_fv g μ κ j 0 (hs_fld κ))
def hs_objs : List (Nat × Nat) := (List.range 70).flatMap fun κ => (List.range (hs_num κ)).map fun j => (κ, j)
theorem hs_mem_objs {κ j : Nat} : (κ, j) ∈ hs_objs ↔ κ < 70 ∧ j < hs_num κ := by
  simp only [hs_objs, List.mem_flatMap, List.mem_range, List.mem_map]
  constructor
  · rintro ⟨a, ha, b, hb, e⟩
    cases e
    exact ⟨ha, hb⟩
  · rintro ⟨a, b⟩
    exact ⟨κ, a, j, b, rfl⟩
def hs_ws (g : hs_G) (μ : hs_M) : va_W := hs_objs.map (fun q => (hs_gA g q.1 q.2, hs_cell g μ q.1 q.2))
theorem hs_ws_at {g : hs_G} {μ : hs_M} {q : Nat} {x : Nat × Nat} (h : hs_objs[q]? = some x) : (hs_ws g μ)[q]? = some (hs_gA g x.1 x.2, hs_cell g μ x.1 x.2) := by
  unfold hs_ws
  rw [List.getElem?_map, h]
  rfl
theorem hs_ws_get (g : hs_G) (μ : hs_M) {κ j : Nat} (h1 : κ < 70) (h2 : j < hs_num κ) : ∃ q : Nat, hs_objs[q]? = some (κ, j) ∧ (hs_ws g μ)[q]? = some (hs_gA g κ j, hs_cell g μ κ j) := by
  obtain ⟨q, hq⟩ := List.getElem?_of_mem (hs_mem_objs.mpr ⟨h1, h2⟩)
  exact ⟨q, hq, hs_ws_at hq⟩
/-- the heap holds the memory, the cells are apart and ours -/
def hs_Wd (g : hs_G) (μ : hs_M) (H : Heap) : Prop := va_P (hs_gD g) hs_clas (hs_ws g μ) H ∧ va_D (hs_gP g) (hs_ws g μ)
theorem hs_ws_set {g : hs_G} {μ μ' : hs_M} {q κ j : Nat} (hD : va_D (hs_gP g) (hs_ws g μ)) (hq : hs_objs[q]? = some (κ, j)) (ho : ∀ κ' j', κ' < 70 → (κ', j') ≠ (κ, j) → hs_cell g μ' κ' j' = hs_cell g μ κ' j') : (hs_ws g μ).set q (hs_gA g κ j, hs_cell g μ' κ j) = hs_ws g μ' := by
  apply List.ext_getElem?
  intro i
  rw [List.getElem?_set]
  have hlen : q < hs_objs.length := (List.getElem?_eq_some_iff.mp hq).1
  by_cases hi : q = i
  · subst hi
    rw [if_pos rfl, if_pos (by unfold hs_ws; rw [List.length_map]; exact hlen), hs_ws_at hq]
  · rw [if_neg hi]
    cases hx : hs_objs[i]? with
    | none => unfold hs_ws; rw [List.getElem?_map, List.getElem?_map, hx]; rfl
    | some x =>
      rw [hs_ws_at hx, hs_ws_at hx]
      obtain ⟨κ', j'⟩ := x
      have hne : (κ', j') ≠ (κ, j) := by
        intro e
        cases e
        exact hi (hD.1 q i _ _ (hs_ws_at hq) (hs_ws_at hx) rfl)
      rw [ho κ' j' (hs_mem_objs.mp (List.mem_of_getElem? hx)).1 hne]
theorem hs_len_free {μ μ' : hs_M} {κ j : Nat} (h : κ < 70) : hs_len μ κ j = hs_len μ' κ j := by
  unfold hs_len
  cases hb : (Nat.beq κ 33 || Nat.beq κ 34) with
  | true => rfl
  | false =>
    have : Nat.beq κ 70 = false := by
      cases hc : Nat.beq κ 70 with
      | false => rfl
      | true => exact absurd (Nat.eq_of_beq_eq_true hc) (by omega)
    dsimp only
    rw [this]
theorem hs_fv_congr {g : hs_G} {μ μ' : hs_M} {κ j : Nat} (h : ∀ i, μ'.1 κ j i = μ.1 κ j i) : ∀ (l : List (Option (Nat × Nat × Nat))) (k : Nat), hs_fv g μ' κ j k l = hs_fv g μ κ j k l
  | [], _ => rfl
  | none :: l, k => by simp only [hs_fv, h, hs_fv_congr h l]
  | some (κ', 0, b) :: l, k => by simp only [hs_fv, hs_fv_congr h l]
  | some (κ', n + 1, b) :: l, k => by simp only [hs_fv, hs_fv_congr h l]
theorem hs_cell_congr {g : hs_G} {μ μ' : hs_M} {κ j : Nat} (hκ : κ < 70) (h1 : μ'.1 κ j = μ.1 κ j) (h2 : μ'.2 κ j = μ.2 κ j) : hs_cell g μ' κ j = hs_cell g μ κ j := by
  unfold hs_cell
  have h3 : hs_fv g μ' κ j 0 (hs_fld κ) = hs_fv g μ κ j 0 (hs_fld κ) := hs_fv_congr (fun i => by rw [h1]) _ _
  rw [h1, h2, hs_len_free (μ := μ') (μ' := μ) hκ, h3]
theorem hs_wI_ne {μ : hs_M} {κ j i : Nat} {v : Int32} {κ' j' : Nat} (h : (κ', j') ≠ (κ, j)) : (hs_wI μ κ j i v).1 κ' j' = μ.1 κ' j' := by
  funext c
  show (if κ' = κ ∧ c = i ∧ j' = j then v else μ.1 κ' j' c) = _
  rw [if_neg]
  rintro ⟨a, -, b⟩
  exact h (by rw [a, b])
theorem hs_wL_ne {μ : hs_M} {κ j i : Nat} {v : Int64} {κ' j' : Nat} (h : (κ', j') ≠ (κ, j)) : (hs_wL μ κ j i v).2 κ' j' = μ.2 κ' j' := by
  funext c
  show (if κ' = κ ∧ c = i ∧ j' = j then v else μ.2 κ' j' c) = _
  rw [if_neg]
  rintro ⟨a, -, b⟩
  exact h (by rw [a, b])
theorem hs_cp_ne {μ : hs_M} {κ j sp κ1 j1 dp n : Nat} {κ' j' : Nat} (h : (κ', j') ≠ (κ1, j1)) : (hs_cp μ κ j sp κ1 j1 dp n).1 κ' j' = μ.1 κ' j' := by
  funext c
  show (if κ' = κ1 ∧ j' = j1 ∧ dp ≤ c ∧ c < dp + n then _ else μ.1 κ' j' c) = _
  rw [if_neg]
  rintro ⟨a, b, -⟩
  exact h (by rw [a, b])
theorem hs_cp_eq (μ : hs_M) (κ j sp κ1 j1 dp n : Nat) : (hs_cp μ κ j sp κ1 j1 dp n).1 κ1 j1 = va_cpy (μ.1 κ j) (μ.1 κ1 j1) sp dp n := by
  funext c
  show (if κ1 = κ1 ∧ j1 = j1 ∧ dp ≤ c ∧ c < dp + n then μ.1 κ j (sp + (c - dp)) else μ.1 κ1 j1 c) = (if dp ≤ c ∧ c < dp + n then _ else _)
  simp
theorem hs_wI_eq (μ : hs_M) (κ j i : Nat) (v : Int32) : (hs_wI μ κ j i v).1 κ j = upd (μ.1 κ j) i v := by
  funext c
  show (if κ = κ ∧ c = i ∧ j = j then v else μ.1 κ j c) = (if c = i then v else _)
  simp
theorem hs_wL_eq (μ : hs_M) (κ j i : Nat) (v : Int64) : (hs_wL μ κ j i v).2 κ j = vp_updL (μ.2 κ j) i v := by
  funext c
  show (if κ = κ ∧ c = i ∧ j = j then v else μ.2 κ j c) = (if c = i then v else _)
  simp
/-- the fields of an object, by their places -/
theorem hs_fv_at {g : hs_G} {μ : hs_M} {κ j : Nat} : ∀ (l : List (Option (Nat × Nat × Nat))) (k f : Nat), (hs_fv g μ κ j k l)[f]? = (hs_nth l f).map (fun x => match x with
    | none => Value.int (μ.1 κ j (k + f))
    | some (κ', 0, b) => .ref (hs_gA g κ' b)
    | some (κ', _ + 1, b) => .ref (hs_gA g κ' (j + b)))
  | [], _, _ => rfl
  | none :: l, k, 0 => rfl
  | some (κ', 0, b) :: l, k, 0 => rfl
  | some (κ', n + 1, b) :: l, k, 0 => rfl
  | none :: l, k, f + 1 => by
    have := hs_fv_at (g := g) (μ := μ) (κ := κ) (j := j) l (k + 1) f
    rw [show k + 1 + f = k + (f + 1) by omega] at this
    exact this
  | some (κ', 0, b) :: l, k, f + 1 => by
    have := hs_fv_at (g := g) (μ := μ) (κ := κ) (j := j) l (k + 1) f
    rw [show k + 1 + f = k + (f + 1) by omega] at this
    exact this
  | some (κ', n + 1, b) :: l, k, f + 1 => by
    have := hs_fv_at (g := g) (μ := μ) (κ := κ) (j := j) l (k + 1) f
    rw [show k + 1 + f = k + (f + 1) by omega] at this
    exact this
theorem hs_fv_set {g : hs_G} {μ : hs_M} {κ j f : Nat} {v : Int32} : ∀ (l : List (Option (Nat × Nat × Nat))) (k : Nat), k ≤ f → hs_nth l (f - k) = some none → hs_fv g (hs_wI μ κ j f v) κ j k l = (hs_fv g μ κ j k l).set (f - k) (.int v) := by
  intro l k hk hn
  have hup : (hs_wI μ κ j f v).1 κ j = upd (μ.1 κ j) f v := hs_wI_eq μ κ j f v
  apply List.ext_getElem?
  intro i
  rw [hs_fv_at, List.getElem?_set, hs_fv_at]
  by_cases hi : f - k = i
  · subst hi
    rw [if_pos rfl, hn]
    have hlt : f - k < (hs_fv g μ κ j k l).length := by
      have h1 := hs_fv_at (g := g) (μ := μ) (κ := κ) (j := j) l k (f - k)
      rw [hn] at h1
      exact (List.getElem?_eq_some_iff.mp h1).1
    rw [if_pos hlt]
    simp only [Option.map_some, hup, show k + (f - k) = f by omega, upd, if_pos]
  · rw [if_neg hi]
    congr 1
    funext x
    rcases x with _ | ⟨κ', n, b⟩
    · simp only [hup, upd, if_neg (show ¬ k + i = f by omega)]
    · cases n <;> rfl
end
section
/-! ===== frames: the machine's locals and stack, and the kit's ===== -/
def hs_el (g : hs_G) : Nat → hs_L → List (Nat × Value)
  | _, [] => []
  | i, none :: l => hs_el g (i + 1) l
  | i, some v :: l => (i, hs_enc g v) :: hs_el g (i + 1) l
theorem hs_el_mem {g : hs_G} : ∀ (l : hs_L) (i : Nat) (q : Nat × Value), q ∈ hs_el g i l ↔ ∃ (k : Nat) (v : hs_V), hs_nth l k = some (some v) ∧ q = (i + k, hs_enc g v)
  | [], i, q => by
    constructor
    · intro h; cases h
    · rintro ⟨k, v, h, -⟩; cases h
  | none :: l, i, q => by
    rw [show hs_el g i (none :: l) = hs_el g (i + 1) l from rfl, hs_el_mem l (i + 1) q]
    constructor
    · rintro ⟨k, v, h, e⟩
      exact ⟨k + 1, v, h, by rw [e, show i + 1 + k = i + (k + 1) by omega]⟩
    · rintro ⟨k, v, h, e⟩
      cases k with
      | zero => cases h
      | succ k => exact ⟨k, v, h, by rw [e, show i + 1 + k = i + (k + 1) by omega]⟩
  | some w :: l, i, q => by
    rw [show hs_el g i (some w :: l) = (i, hs_enc g w) :: hs_el g (i + 1) l from rfl, List.mem_cons, hs_el_mem l (i + 1) q]
    constructor
    · rintro (e | ⟨k, v, h, e⟩)
      · exact ⟨0, w, rfl, e⟩
      · exact ⟨k + 1, v, h, by rw [e, show i + 1 + k = i + (k + 1) by omega]⟩
    · rintro ⟨k, v, h, e⟩
      cases k with
      | zero => cases h; exact Or.inl e
      | succ k => exact Or.inr ⟨k, v, h, by rw [e, show i + 1 + k = i + (k + 1) by omega]⟩
theorem hs_nth_mem {α : Type} : ∀ (l : List α) (k : Nat) (a : α), hs_nth l k = some a → a ∈ l
  | [], _, _, h => by cases h
  | b :: l, 0, a, h => by cases h; exact List.mem_cons_self
  | b :: l, k + 1, a, h => List.mem_cons_of_mem _ (hs_nth_mem l k a h)
theorem hs_nth_lt {α : Type} : ∀ (l : List α) (k : Nat) (a : α), hs_nth l k = some a → k < l.length
  | [], _, _, h => by cases h
  | b :: l, 0, a, h => Nat.succ_pos _
  | b :: l, k + 1, a, h => Nat.succ_lt_succ (hs_nth_lt l k a h)
theorem lv_less {ls : Array Slot} {nL : Nat} {l l' : List (Nat × Value)} (h : lv_has ls nL l) (hs : ∀ q ∈ l', q ∈ l) : lv_has ls nL l' := ⟨h.1, h.2.1, fun q hq => h.2.2 q (hs q hq)⟩
theorem hs_mask_nth : ∀ (m : List Bool) (l : hs_L) (k : Nat) (v : hs_V), hs_nth (hs_mask m l) k = some (some v) → hs_nth l k = some (some v)
  | [], _, _, _, h => h
  | _ :: _, [], _, _, h => by
    rename_i b _
    cases b <;> cases h
  | true :: m, a :: l, 0, v, h => h
  | false :: m, a :: l, 0, v, h => by cases h
  | true :: m, a :: l, k + 1, v, h => hs_mask_nth m l k v h
  | false :: m, a :: l, k + 1, v, h => hs_mask_nth m l k v h
theorem hs_mask_length : ∀ (m : List Bool) (l : hs_L), (hs_mask m l).length = l.length
  | [], _ => rfl
  | _ :: _, [] => by
    rename_i b _
    cases b <;> rfl
  | true :: m, a :: l => by simp only [hs_mask, List.length_cons, hs_mask_length m l]
  | false :: m, a :: l => by simp only [hs_mask, List.length_cons, hs_mask_length m l]
/-- what a written local leaves -/
theorem hs_set1_spec {ρ : Type} : ∀ (ls : hs_L) (i : Nat) (v : hs_V) (K : hs_L → Option ρ) (r : ρ), hs_set1 ls i v K = some r → ∃ ls', K ls' = some r ∧ ls'.length = ls.length ∧ i < ls.length ∧ ∀ k w, hs_nth ls' k = some (some w) → (k = i ∧ w = v) ∨ (k ≠ i ∧ hs_nth ls k = some (some w) ∧ ¬ (k + 1 = i ∧ hs_cat w = 2))
  | [], _, _, _, _, h => by cases h
  | a :: l, 0, v, K, r, h => by
    refine ⟨some v :: l, h, rfl, Nat.succ_pos _, ?_⟩
    intro k w hk
    cases k with
    | zero => cases hk; exact Or.inl ⟨rfl, rfl⟩
    | succ k => exact Or.inr ⟨by omega, hk, by omega⟩
  | a :: l, n + 1, v, K, r, h => by
    obtain ⟨l', h1, h2, h3, h4⟩ := hs_set1_spec l n v _ r h
    cases n with
    | zero =>
      refine ⟨_, h1, by simp only [List.length_cons, h2], by simp only [List.length_cons]; omega, ?_⟩
      intro k w hk
      cases k with
      | zero =>
        cases ha : hs_isL a with
        | true => rw [ha] at hk; cases hk
        | false =>
          rw [ha] at hk
          refine Or.inr ⟨by omega, hk, ?_⟩
          rintro ⟨-, h6⟩
          have : a = some w := Option.some.inj hk
          rw [this] at ha
          rcases w with x | x | x
          · cases h6
          · cases ha
          · cases h6
      | succ k =>
        rcases h4 k w hk with ⟨a1, a2⟩ | ⟨a1, a2, a3⟩
        · exact Or.inl ⟨by omega, a2⟩
        · exact Or.inr ⟨by omega, a2, by rintro ⟨b1, b2⟩; exact a3 ⟨by omega, b2⟩⟩
    | succ n =>
      refine ⟨_, h1, by simp only [List.length_cons, h2], by simp only [List.length_cons]; omega, ?_⟩
      intro k w hk
      cases k with
      | zero => exact Or.inr ⟨by omega, hk, by omega⟩
      | succ k =>
        rcases h4 k w hk with ⟨a1, a2⟩ | ⟨a1, a2, a3⟩
        · exact Or.inl ⟨by omega, a2⟩
        · exact Or.inr ⟨by omega, a2, by rintro ⟨b1, b2⟩; exact a3 ⟨by omega, b2⟩⟩
theorem hs_set2_spec {ρ : Type} : ∀ (ls : hs_L) (i : Nat) (v : hs_V) (K : hs_L → Option ρ) (r : ρ), hs_set2 ls i v K = some r → ∃ ls', K ls' = some r ∧ ls'.length = ls.length ∧ i + 1 < ls.length ∧ ∀ k w, hs_nth ls' k = some (some w) → (k = i ∧ w = v) ∨ (k ≠ i ∧ k ≠ i + 1 ∧ hs_nth ls k = some (some w) ∧ ¬ (k + 1 = i ∧ hs_cat w = 2))
  | [], _, _, _, _, h => by cases h
  | [a], _, _, _, _, h => by
    rename_i i _ _ _
    cases i <;> cases h
  | a :: b :: l, 0, v, K, r, h => by
    refine ⟨some v :: none :: l, h, rfl, by simp only [List.length_cons]; omega, ?_⟩
    intro k w hk
    cases k with
    | zero => cases hk; exact Or.inl ⟨rfl, rfl⟩
    | succ k =>
      cases k with
      | zero => cases hk
      | succ k => exact Or.inr ⟨by omega, by omega, hk, by omega⟩
  | a :: b :: l, n + 1, v, K, r, h => by
    obtain ⟨l', h1, h2, h3, h4⟩ := hs_set2_spec (b :: l) n v _ r h
    cases n with
    | zero =>
      refine ⟨_, h1, by simp only [List.length_cons, h2], by simp only [List.length_cons] at h3 ⊢; omega, ?_⟩
      intro k w hk
      cases k with
      | zero =>
        cases ha : hs_isL a with
        | true => rw [ha] at hk; cases hk
        | false =>
          rw [ha] at hk
          refine Or.inr ⟨by omega, by omega, hk, ?_⟩
          rintro ⟨-, h6⟩
          have : a = some w := Option.some.inj hk
          rw [this] at ha
          rcases w with x | x | x
          · cases h6
          · cases ha
          · cases h6
      | succ k =>
        rcases h4 k w hk with ⟨a1, a2⟩ | ⟨a1, a0, a2, a3⟩
        · exact Or.inl ⟨by omega, a2⟩
        · exact Or.inr ⟨by omega, by omega, a2, by rintro ⟨b1, b2⟩; exact a3 ⟨by omega, b2⟩⟩
    | succ n =>
      refine ⟨_, h1, by simp only [List.length_cons, h2], by simp only [List.length_cons] at h3 ⊢; omega, ?_⟩
      intro k w hk
      cases k with
      | zero => exact Or.inr ⟨by omega, by omega, hk, by omega⟩
      | succ k =>
        rcases h4 k w hk with ⟨a1, a2⟩ | ⟨a1, a0, a2, a3⟩
        · exact Or.inl ⟨by omega, a2⟩
        · exact Or.inr ⟨by omega, by omega, a2, by rintro ⟨b1, b2⟩; exact a3 ⟨by omega, b2⟩⟩
def hs_stt (j : Nat) : String := (hs_nth ["+-", "0123", "iwpvqston", "<>=", "*/"] j).getD ""
/-- what the tables and the constants say of a state -/
def hs_Tx (g : hs_G) (U : State) : Prop := (∀ q ∈ hs_stx, vk_R "HeavierServesModel" q.1 (hs_stt q.2) (hs_gA g 90 q.2) U) ∧ vk_S 5 (hs_texts.map List.length) (hs_texts.map (fun l => l.map (fun n => Int32.ofNat n))) (hs_gA g 90) (hs_gV g) (hs_gP g) U U.heap ∧ va_Z "java/lang/String" "COMPACT_STRINGS" "Z" (.int 1) (hs_gP g) U U.heap
abbrev hs_inB : MethodName := ⟨"HeavierServes", "inBounds", "(I)I"⟩
def hs_Sf (g : hs_G) (U : State) : Prop := va_K (hs_gD g) hs_clas [(hs_gC g 0, .int), (hs_gC g 1, .long), (hs_gC g 2, .boolean), (hs_gC g 3, .object "HeavierServes$State")] U ∧ va_Nw (.methodLinkNest "HeavierServes$State" 62 hs_inB "HeavierServes") U ∧ va_Nw (.methodLinkNest "HeavierServes$Town" 52 hs_inB "HeavierServes") U ∧ hs_Tx g U
def hs_rel (g : hs_G) (nL : Nat) (s : State) (L : hs_L) (st : List hs_V) (μ : hs_M) (ls : Array Slot) (H : Heap) (locs : List Loc) : Prop := lv_has ls nL (hs_el g 0 L) ∧ L.length = nL ∧ (∀ k v, hs_nth L k = some (some v) → hs_ok v) ∧ (∀ v ∈ st, hs_ok v) ∧ hs_Wd g μ H ∧ va_S (hs_gP g) s.heap H locs
/-- a method's start and end -/
def hs_Pc (g : hs_G) (as : List hs_V) (μ : hs_M) : Array Value → State → Prop := va_Pc (as.map (hs_enc g)) (fun U => hs_Sf g U ∧ hs_Wd g μ U.heap)
def hs_Qc (g : hs_G) (r : Option hs_V) (μ : hs_M) : Array Value → State → Outcome → State → Prop := fun _ st oc t => oc = .returned (r.map (hs_enc g)) ∧ hs_Wd g μ t.heap ∧ va_F (hs_gP g) st t
def hs_wsl (y : Nat) : List Cond := .code (hs_nm y).1 (hs_nm y).2.1 (hs_nm y).2.2.1 (hs_nm y).2.2.2 :: hs_GW
def hs_callok (g : hs_G) (l : Launch) (rm : Room) (call : hs_C) : Prop := ∀ (y : Nat) (as : List hs_V) (μ : hs_M) (r : Option hs_V) (μ' : hs_M), y < 262 → call y as μ = some (r, μ') → (r = none → (hs_prog y).2.2 = 0) → (∀ v ∈ as, hs_ok v) → Met l (hs_nm y).1 (hs_wsl y) rm (hs_Pc g as μ) (hs_Qc g r μ') 0 0 (hs_gP g)
def hs_Ctx (g : hs_G) (p : Program) (l : Launch) (R : Room) (s : State) (m : MethodId) (args : Array Value) (c : Code) (cells slots own : Nat) (cc : ByteArray) (nL : Nat) (call : hs_C) : Prop :=
  p.tables.exec = Jvm.exec ∧ c.code = cc ∧ c.maxLocals = nL ∧ s.vm.findClass (hs_own own) = some m.cls ∧ (∀ w ∈ hs_GW, w.before args s = true) ∧ hs_Sf g s ∧ (cells ≤ R.cells ∧ slots ≤ R.slots) ∧ (1 ≤ R.frames ∧ 48 ≤ R.locals) ∧ ∃ rm : Room, rm.cells = 0 ∧ rm.slots = 0 ∧ rm.frames + 1 ≤ R.frames ∧ 48 + rm.locals ≤ R.locals ∧ hs_callok g l rm call
end
section
/-! ===== each instruction of the machine is the kit's ===== -/
/-- whatever frame and heap hold these locals, this stack, this memory: the machine comes to Q -/
def hs_WS (g : hs_G) (p : Program) (l : Launch) (e : Env) (R : Room) (s : State) (m : MethodId) (args : Array Value) (below : List Frame) (meth : Method) (c : Code) (cells slots nL : Nat) (Q : State → Prop) (pc : Nat) (L : hs_L) (st : List hs_V) (μ : hs_M) : Prop :=
  ∀ (ls : Array Slot) (H : Heap) (locs : List Loc), hs_rel g nL s L st μ ls H locs → W p l e R s m args below meth c H locs cells slots Q (F0 m pc ls (st.map (hs_enc g)))
theorem hs_rel.st {g : hs_G} {nL : Nat} {s : State} {L : hs_L} {st st' : List hs_V} {μ : hs_M} {ls : Array Slot} {H : Heap} {locs : List Loc} (h : hs_rel g nL s L st μ ls H locs) (hs : ∀ v ∈ st', hs_ok v) : hs_rel g nL s L st' μ ls H locs := ⟨h.1, h.2.1, h.2.2.1, hs, h.2.2.2.2⟩
theorem hs_rel.tail {g : hs_G} {nL : Nat} {s : State} {L : hs_L} {st st' : List hs_V} {μ : hs_M} {ls : Array Slot} {H : Heap} {locs : List Loc} (h : hs_rel g nL s L st μ ls H locs) (hs : ∀ v ∈ st', v ∈ st ∨ hs_ok v) : hs_rel g nL s L st' μ ls H locs := h.st (fun v hv => (hs v hv).elim (h.2.2.2.1 v) id)
theorem hs_okv_i (x : Int32) : hs_ok (vI x) := trivial
theorem hs_okv_l (x : Int64) : hs_ok (vL x) := trivial
theorem hs_ld {g : hs_G} {nL : Nat} {s : State} {L : hs_L} {st : List hs_V} {μ : hs_M} {ls : Array Slot} {H : Heap} {locs : List Loc} (h : hs_rel g nL s L st μ ls H locs) {i : Nat} {v : hs_V} (hv : hs_nth L i = some (some v)) : ls[i]? = some (.val (hs_enc g v)) := by
  have := h.1.2.2 (i, hs_enc g v) ((hs_el_mem L 0 _).mpr ⟨i, v, hv, by rw [Nat.zero_add]⟩)
  exact this
theorem hs_rel.stored1 {g : hs_G} {nL : Nat} {s : State} {L L' : hs_L} {st st' : List hs_V} {μ : hs_M} {ls ls' : Array Slot} {H : Heap} {locs : List Loc} (h : hs_rel g nL s L st μ ls H locs) {i : Nat} {v : hs_V} (hl : L'.length = L.length) (hv : hs_ok v) (hs : ∀ w ∈ st', w ∈ st)
    (hx : ∀ k w, hs_nth L' k = some (some w) → (k = i ∧ w = v) ∨ (k ≠ i ∧ hs_nth L k = some (some w) ∧ ¬ (k + 1 = i ∧ hs_cat w = 2)))
    (h' : lv_has ls' nL ((i, hs_enc g v) :: (hs_el g 0 L).filter (fun q => !(q.1 == i) && !(q.1 + 1 == i && q.2.category == 2)))) : hs_rel g nL s L' st' μ ls' H locs := by
  refine ⟨lv_less h' ?_, hl.trans h.2.1, ?_, fun w hw => h.2.2.2.1 w (hs w hw), h.2.2.2.2⟩
  · intro q hq
    obtain ⟨k, w, hk, e⟩ := (hs_el_mem L' 0 q).mp hq
    rw [Nat.zero_add] at e
    rcases hx k w hk with ⟨a, b⟩ | ⟨a, b, d⟩
    · rw [e, a, b]; exact List.mem_cons_self
    · refine List.mem_cons_of_mem _ (List.mem_filter.mpr ⟨(hs_el_mem L 0 q).mpr ⟨k, w, b, by rw [Nat.zero_add]; exact e⟩, ?_⟩)
      rw [e]
      simp only [hs_enc_cat, Bool.and_eq_true, Bool.not_eq_true', beq_eq_false_iff_ne, ne_eq, Bool.and_eq_false_iff]
      refine ⟨a, ?_⟩
      by_cases z : k + 1 = i
      · exact Or.inr (fun y => d ⟨z, y⟩)
      · exact Or.inl z
  · intro k w hk
    rcases hx k w hk with ⟨-, b⟩ | ⟨-, b, -⟩
    · rw [b]; exact hv
    · exact h.2.2.1 k w b
theorem hs_rel.stored2 {g : hs_G} {nL : Nat} {s : State} {L L' : hs_L} {st st' : List hs_V} {μ : hs_M} {ls ls' : Array Slot} {H : Heap} {locs : List Loc} (h : hs_rel g nL s L st μ ls H locs) {i : Nat} {v : hs_V} (hl : L'.length = L.length) (hv : hs_ok v) (hs : ∀ w ∈ st', w ∈ st)
    (hx : ∀ k w, hs_nth L' k = some (some w) → (k = i ∧ w = v) ∨ (k ≠ i ∧ k ≠ i + 1 ∧ hs_nth L k = some (some w) ∧ ¬ (k + 1 = i ∧ hs_cat w = 2)))
    (h' : lv_has ls' nL ((i, hs_enc g v) :: (hs_el g 0 L).filter (fun q => !(q.1 == i) && (!(q.1 == i + 1) && !(q.1 + 1 == i && q.2.category == 2))))) : hs_rel g nL s L' st' μ ls' H locs := by
  refine ⟨lv_less h' ?_, hl.trans h.2.1, ?_, fun w hw => h.2.2.2.1 w (hs w hw), h.2.2.2.2⟩
  · intro q hq
    obtain ⟨k, w, hk, e⟩ := (hs_el_mem L' 0 q).mp hq
    rw [Nat.zero_add] at e
    rcases hx k w hk with ⟨a, b⟩ | ⟨a, a2, b, d⟩
    · rw [e, a, b]; exact List.mem_cons_self
    · refine List.mem_cons_of_mem _ (List.mem_filter.mpr ⟨(hs_el_mem L 0 q).mpr ⟨k, w, b, by rw [Nat.zero_add]; exact e⟩, ?_⟩)
      rw [e]
      simp only [hs_enc_cat, Bool.and_eq_true, Bool.not_eq_true', beq_eq_false_iff_ne, ne_eq, Bool.and_eq_false_iff]
      refine ⟨a, a2, ?_⟩
      by_cases z : k + 1 = i
      · exact Or.inr (fun y => d ⟨z, y⟩)
      · exact Or.inl z
  · intro k w hk
    rcases hx k w hk with ⟨-, b⟩ | ⟨-, -, b, -⟩
    · rw [b]; exact hv
    · exact h.2.2.1 k w b
theorem hs_s_iload {g : hs_G} {p : Program} {l : Launch} {e : Env} {R : Room} {s : State} {m : MethodId} {args : Array Value} {below : List Frame} {meth : Method} {c : Code} {cells slots own : Nat} {cc : ByteArray} {nL : Nat} {call : hs_C} {Q : State → Prop} (C : hs_Ctx g p l R s m args c cells slots own cc nL call) {i : Nat} {pc n : Nat} {ops : List Nat} {mk : List Bool} {L : hs_L} {st : List hs_V} {μ : hs_M} {pc' : Nat} {L' : hs_L} {st' : List hs_V} {μ' : hs_M} (hd : decode cc pc = .ok (.iload i, n)) (hok : hs_okr own pc (.iload i, n, ops, mk) = true) (ex : hs_nx call (.iload i, n, ops, mk) pc L st μ = some (.inl (pc', L', st', μ'))) (hk : hs_WS g p l e R s m args below meth c cells slots nL Q pc' L' st' μ') : hs_WS g p l e R s m args below meth c cells slots nL Q pc L st μ := by
  obtain ⟨hexec, hb, -⟩ := C
  have hn : n = 2 := by simpa [hs_okr] using hok
  subst hn
  unfold hs_nx hs_step at ex
  dsimp only at ex
  cases hx : hs_nth L i with
  | none => rw [hx] at ex; cases ex
  | some o =>
    rw [hx] at ex
    rcases o with _ | x | x | x
    · cases ex
    · cases ex
      intro ls H locs hr
      exact lv_iload hexec hb hd (hs_ld hr hx) (hk ls H locs (hr.tail (fun w hw => (List.mem_cons.mp hw).elim (fun q => by rw [q]; exact Or.inr (hs_okv_i x)) Or.inl)))
    · cases ex
    · cases ex
theorem hs_s_iload_n {g : hs_G} {p : Program} {l : Launch} {e : Env} {R : Room} {s : State} {m : MethodId} {args : Array Value} {below : List Frame} {meth : Method} {c : Code} {cells slots own : Nat} {cc : ByteArray} {nL : Nat} {call : hs_C} {Q : State → Prop} (C : hs_Ctx g p l R s m args c cells slots own cc nL call) {i : Fin 4} {pc n : Nat} {ops : List Nat} {mk : List Bool} {L : hs_L} {st : List hs_V} {μ : hs_M} {pc' : Nat} {L' : hs_L} {st' : List hs_V} {μ' : hs_M} (hd : decode cc pc = .ok (.iload_n i, n)) (hok : hs_okr own pc (.iload_n i, n, ops, mk) = true) (ex : hs_nx call (.iload_n i, n, ops, mk) pc L st μ = some (.inl (pc', L', st', μ'))) (hk : hs_WS g p l e R s m args below meth c cells slots nL Q pc' L' st' μ') : hs_WS g p l e R s m args below meth c cells slots nL Q pc L st μ := by
  obtain ⟨hexec, hb, -⟩ := C
  have hn : n = 1 := by simpa [hs_okr] using hok
  subst hn
  unfold hs_nx hs_step at ex
  dsimp only at ex
  cases hx : hs_nth L i.val with
  | none => rw [hx] at ex; cases ex
  | some o =>
    rw [hx] at ex
    rcases o with _ | x | x | x
    · cases ex
    · cases ex
      intro ls H locs hr
      exact lv_iload_n hexec hb hd rfl (hs_ld hr hx) (hk ls H locs (hr.tail (fun w hw => (List.mem_cons.mp hw).elim (fun q => by rw [q]; exact Or.inr (hs_okv_i x)) Or.inl)))
    · cases ex
    · cases ex
theorem hs_s_lload {g : hs_G} {p : Program} {l : Launch} {e : Env} {R : Room} {s : State} {m : MethodId} {args : Array Value} {below : List Frame} {meth : Method} {c : Code} {cells slots own : Nat} {cc : ByteArray} {nL : Nat} {call : hs_C} {Q : State → Prop} (C : hs_Ctx g p l R s m args c cells slots own cc nL call) {i : Nat} {pc n : Nat} {ops : List Nat} {mk : List Bool} {L : hs_L} {st : List hs_V} {μ : hs_M} {pc' : Nat} {L' : hs_L} {st' : List hs_V} {μ' : hs_M} (hd : decode cc pc = .ok (.lload i, n)) (hok : hs_okr own pc (.lload i, n, ops, mk) = true) (ex : hs_nx call (.lload i, n, ops, mk) pc L st μ = some (.inl (pc', L', st', μ'))) (hk : hs_WS g p l e R s m args below meth c cells slots nL Q pc' L' st' μ') : hs_WS g p l e R s m args below meth c cells slots nL Q pc L st μ := by
  obtain ⟨hexec, hb, -⟩ := C
  have hn : n = 2 := by simpa [hs_okr] using hok
  subst hn
  unfold hs_nx hs_step at ex
  dsimp only at ex
  cases hx : hs_nth L i with
  | none => rw [hx] at ex; cases ex
  | some o =>
    rw [hx] at ex
    rcases o with _ | x | x | x
    · cases ex
    · cases ex
    · cases ex
      intro ls H locs hr
      exact lv_lload hexec hb hd (hs_ld hr hx) (hk ls H locs (hr.tail (fun w hw => (List.mem_cons.mp hw).elim (fun q => by rw [q]; exact Or.inr (hs_okv_l x)) Or.inl)))
    · cases ex
theorem hs_s_lload_n {g : hs_G} {p : Program} {l : Launch} {e : Env} {R : Room} {s : State} {m : MethodId} {args : Array Value} {below : List Frame} {meth : Method} {c : Code} {cells slots own : Nat} {cc : ByteArray} {nL : Nat} {call : hs_C} {Q : State → Prop} (C : hs_Ctx g p l R s m args c cells slots own cc nL call) {i : Fin 4} {pc n : Nat} {ops : List Nat} {mk : List Bool} {L : hs_L} {st : List hs_V} {μ : hs_M} {pc' : Nat} {L' : hs_L} {st' : List hs_V} {μ' : hs_M} (hd : decode cc pc = .ok (.lload_n i, n)) (hok : hs_okr own pc (.lload_n i, n, ops, mk) = true) (ex : hs_nx call (.lload_n i, n, ops, mk) pc L st μ = some (.inl (pc', L', st', μ'))) (hk : hs_WS g p l e R s m args below meth c cells slots nL Q pc' L' st' μ') : hs_WS g p l e R s m args below meth c cells slots nL Q pc L st μ := by
  obtain ⟨hexec, hb, -⟩ := C
  have hn : n = 1 := by simpa [hs_okr] using hok
  subst hn
  unfold hs_nx hs_step at ex
  dsimp only at ex
  cases hx : hs_nth L i.val with
  | none => rw [hx] at ex; cases ex
  | some o =>
    rw [hx] at ex
    rcases o with _ | x | x | x
    · cases ex
    · cases ex
    · cases ex
      intro ls H locs hr
      exact lv_lload_n hexec hb hd rfl (hs_ld hr hx) (hk ls H locs (hr.tail (fun w hw => (List.mem_cons.mp hw).elim (fun q => by rw [q]; exact Or.inr (hs_okv_l x)) Or.inl)))
    · cases ex
theorem hs_s_aload {g : hs_G} {p : Program} {l : Launch} {e : Env} {R : Room} {s : State} {m : MethodId} {args : Array Value} {below : List Frame} {meth : Method} {c : Code} {cells slots own : Nat} {cc : ByteArray} {nL : Nat} {call : hs_C} {Q : State → Prop} (C : hs_Ctx g p l R s m args c cells slots own cc nL call) {i : Nat} {pc n : Nat} {ops : List Nat} {mk : List Bool} {L : hs_L} {st : List hs_V} {μ : hs_M} {pc' : Nat} {L' : hs_L} {st' : List hs_V} {μ' : hs_M} (hd : decode cc pc = .ok (.aload i, n)) (hok : hs_okr own pc (.aload i, n, ops, mk) = true) (ex : hs_nx call (.aload i, n, ops, mk) pc L st μ = some (.inl (pc', L', st', μ'))) (hk : hs_WS g p l e R s m args below meth c cells slots nL Q pc' L' st' μ') : hs_WS g p l e R s m args below meth c cells slots nL Q pc L st μ := by
  obtain ⟨hexec, hb, -⟩ := C
  have hn : n = 2 := by simpa [hs_okr] using hok
  subst hn
  unfold hs_nx hs_step at ex
  dsimp only at ex
  cases hx : hs_nth L i with
  | none => rw [hx] at ex; cases ex
  | some o =>
    rw [hx] at ex
    rcases o with _ | x | x | x
    · cases ex
    · cases ex
    · cases ex
    · cases ex
      intro ls H locs hr
      exact lv_aload hexec hb hd (hs_ld hr hx) (hk ls H locs (hr.tail (fun w hw => (List.mem_cons.mp hw).elim (fun q => by rw [q]; exact Or.inr (hr.2.2.1 _ _ hx)) Or.inl)))
theorem hs_s_aload_n {g : hs_G} {p : Program} {l : Launch} {e : Env} {R : Room} {s : State} {m : MethodId} {args : Array Value} {below : List Frame} {meth : Method} {c : Code} {cells slots own : Nat} {cc : ByteArray} {nL : Nat} {call : hs_C} {Q : State → Prop} (C : hs_Ctx g p l R s m args c cells slots own cc nL call) {i : Fin 4} {pc n : Nat} {ops : List Nat} {mk : List Bool} {L : hs_L} {st : List hs_V} {μ : hs_M} {pc' : Nat} {L' : hs_L} {st' : List hs_V} {μ' : hs_M} (hd : decode cc pc = .ok (.aload_n i, n)) (hok : hs_okr own pc (.aload_n i, n, ops, mk) = true) (ex : hs_nx call (.aload_n i, n, ops, mk) pc L st μ = some (.inl (pc', L', st', μ'))) (hk : hs_WS g p l e R s m args below meth c cells slots nL Q pc' L' st' μ') : hs_WS g p l e R s m args below meth c cells slots nL Q pc L st μ := by
  obtain ⟨hexec, hb, -⟩ := C
  have hn : n = 1 := by simpa [hs_okr] using hok
  subst hn
  unfold hs_nx hs_step at ex
  dsimp only at ex
  cases hx : hs_nth L i.val with
  | none => rw [hx] at ex; cases ex
  | some o =>
    rw [hx] at ex
    rcases o with _ | x | x | x
    · cases ex
    · cases ex
    · cases ex
    · cases ex
      intro ls H locs hr
      exact lv_aload_n hexec hb hd rfl (hs_ld hr hx) (hk ls H locs (hr.tail (fun w hw => (List.mem_cons.mp hw).elim (fun q => by rw [q]; exact Or.inr (hr.2.2.1 _ _ hx)) Or.inl)))
theorem hs_s_istore {g : hs_G} {p : Program} {l : Launch} {e : Env} {R : Room} {s : State} {m : MethodId} {args : Array Value} {below : List Frame} {meth : Method} {c : Code} {cells slots own : Nat} {cc : ByteArray} {nL : Nat} {call : hs_C} {Q : State → Prop} (C : hs_Ctx g p l R s m args c cells slots own cc nL call) {i : Nat} {pc n : Nat} {ops : List Nat} {mk : List Bool} {L : hs_L} {st : List hs_V} {μ : hs_M} {pc' : Nat} {L' : hs_L} {st' : List hs_V} {μ' : hs_M} (hd : decode cc pc = .ok (.istore i, n)) (hok : hs_okr own pc (.istore i, n, ops, mk) = true) (ex : hs_nx call (.istore i, n, ops, mk) pc L st μ = some (.inl (pc', L', st', μ'))) (hk : hs_WS g p l e R s m args below meth c cells slots nL Q pc' L' st' μ') : hs_WS g p l e R s m args below meth c cells slots nL Q pc L st μ := by
  obtain ⟨hexec, hb, -⟩ := C
  have hn : n = 2 := by simpa [hs_okr] using hok
  subst hn
  unfold hs_nx hs_step at ex
  dsimp only at ex
  split at ex
  · rename_i x st0
    obtain ⟨L1, h1, h2, h3, h4⟩ := hs_set1_spec L i (vI x) _ _ ex
    cases h1
    intro ls H locs hr
    refine lv_istore hexec hb hd hr.1 (by rw [← hr.2.1]; exact h3) rfl (fun ls' hl => hk ls' H locs ?_)
    exact hr.stored1 (v := vI x) h2 (hs_okv_i x) (fun w hw => List.mem_cons_of_mem _ hw) h4 hl
  · cases ex
theorem hs_s_istore_n {g : hs_G} {p : Program} {l : Launch} {e : Env} {R : Room} {s : State} {m : MethodId} {args : Array Value} {below : List Frame} {meth : Method} {c : Code} {cells slots own : Nat} {cc : ByteArray} {nL : Nat} {call : hs_C} {Q : State → Prop} (C : hs_Ctx g p l R s m args c cells slots own cc nL call) {i : Fin 4} {pc n : Nat} {ops : List Nat} {mk : List Bool} {L : hs_L} {st : List hs_V} {μ : hs_M} {pc' : Nat} {L' : hs_L} {st' : List hs_V} {μ' : hs_M} (hd : decode cc pc = .ok (.istore_n i, n)) (hok : hs_okr own pc (.istore_n i, n, ops, mk) = true) (ex : hs_nx call (.istore_n i, n, ops, mk) pc L st μ = some (.inl (pc', L', st', μ'))) (hk : hs_WS g p l e R s m args below meth c cells slots nL Q pc' L' st' μ') : hs_WS g p l e R s m args below meth c cells slots nL Q pc L st μ := by
  obtain ⟨hexec, hb, -⟩ := C
  have hn : n = 1 := by simpa [hs_okr] using hok
  subst hn
  unfold hs_nx hs_step at ex
  dsimp only at ex
  split at ex
  · rename_i x st0
    obtain ⟨L1, h1, h2, h3, h4⟩ := hs_set1_spec L i.val (vI x) _ _ ex
    cases h1
    intro ls H locs hr
    refine lv_istore_n hexec hb hd rfl hr.1 (by rw [← hr.2.1]; exact h3) rfl (fun ls' hl => hk ls' H locs ?_)
    exact hr.stored1 (v := vI x) h2 (hs_okv_i x) (fun w hw => List.mem_cons_of_mem _ hw) h4 hl
  · cases ex
theorem hs_s_lstore {g : hs_G} {p : Program} {l : Launch} {e : Env} {R : Room} {s : State} {m : MethodId} {args : Array Value} {below : List Frame} {meth : Method} {c : Code} {cells slots own : Nat} {cc : ByteArray} {nL : Nat} {call : hs_C} {Q : State → Prop} (C : hs_Ctx g p l R s m args c cells slots own cc nL call) {i : Nat} {pc n : Nat} {ops : List Nat} {mk : List Bool} {L : hs_L} {st : List hs_V} {μ : hs_M} {pc' : Nat} {L' : hs_L} {st' : List hs_V} {μ' : hs_M} (hd : decode cc pc = .ok (.lstore i, n)) (hok : hs_okr own pc (.lstore i, n, ops, mk) = true) (ex : hs_nx call (.lstore i, n, ops, mk) pc L st μ = some (.inl (pc', L', st', μ'))) (hk : hs_WS g p l e R s m args below meth c cells slots nL Q pc' L' st' μ') : hs_WS g p l e R s m args below meth c cells slots nL Q pc L st μ := by
  obtain ⟨hexec, hb, -⟩ := C
  have hn : n = 2 := by simpa [hs_okr] using hok
  subst hn
  unfold hs_nx hs_step at ex
  dsimp only at ex
  split at ex
  · rename_i x st0
    obtain ⟨L1, h1, h2, h3, h4⟩ := hs_set2_spec L i (vL x) _ _ ex
    cases h1
    intro ls H locs hr
    refine lv_lstore hexec hb hd hr.1 (by rw [← hr.2.1]; exact h3) rfl (fun ls' hl => hk ls' H locs ?_)
    exact hr.stored2 (v := vL x) h2 (hs_okv_l x) (fun w hw => List.mem_cons_of_mem _ hw) h4 hl
  · cases ex
theorem hs_s_lstore_n {g : hs_G} {p : Program} {l : Launch} {e : Env} {R : Room} {s : State} {m : MethodId} {args : Array Value} {below : List Frame} {meth : Method} {c : Code} {cells slots own : Nat} {cc : ByteArray} {nL : Nat} {call : hs_C} {Q : State → Prop} (C : hs_Ctx g p l R s m args c cells slots own cc nL call) {i : Fin 4} {pc n : Nat} {ops : List Nat} {mk : List Bool} {L : hs_L} {st : List hs_V} {μ : hs_M} {pc' : Nat} {L' : hs_L} {st' : List hs_V} {μ' : hs_M} (hd : decode cc pc = .ok (.lstore_n i, n)) (hok : hs_okr own pc (.lstore_n i, n, ops, mk) = true) (ex : hs_nx call (.lstore_n i, n, ops, mk) pc L st μ = some (.inl (pc', L', st', μ'))) (hk : hs_WS g p l e R s m args below meth c cells slots nL Q pc' L' st' μ') : hs_WS g p l e R s m args below meth c cells slots nL Q pc L st μ := by
  obtain ⟨hexec, hb, -⟩ := C
  have hn : n = 1 := by simpa [hs_okr] using hok
  subst hn
  unfold hs_nx hs_step at ex
  dsimp only at ex
  split at ex
  · rename_i x st0
    obtain ⟨L1, h1, h2, h3, h4⟩ := hs_set2_spec L i.val (vL x) _ _ ex
    cases h1
    intro ls H locs hr
    refine lv_lstore_n hexec hb hd rfl hr.1 (by rw [← hr.2.1]; exact h3) rfl (fun ls' hl => hk ls' H locs ?_)
    exact hr.stored2 (v := vL x) h2 (hs_okv_l x) (fun w hw => List.mem_cons_of_mem _ hw) h4 hl
  · cases ex
theorem hs_s_astore {g : hs_G} {p : Program} {l : Launch} {e : Env} {R : Room} {s : State} {m : MethodId} {args : Array Value} {below : List Frame} {meth : Method} {c : Code} {cells slots own : Nat} {cc : ByteArray} {nL : Nat} {call : hs_C} {Q : State → Prop} (C : hs_Ctx g p l R s m args c cells slots own cc nL call) {i : Nat} {pc n : Nat} {ops : List Nat} {mk : List Bool} {L : hs_L} {st : List hs_V} {μ : hs_M} {pc' : Nat} {L' : hs_L} {st' : List hs_V} {μ' : hs_M} (hd : decode cc pc = .ok (.astore i, n)) (hok : hs_okr own pc (.astore i, n, ops, mk) = true) (ex : hs_nx call (.astore i, n, ops, mk) pc L st μ = some (.inl (pc', L', st', μ'))) (hk : hs_WS g p l e R s m args below meth c cells slots nL Q pc' L' st' μ') : hs_WS g p l e R s m args below meth c cells slots nL Q pc L st μ := by
  obtain ⟨hexec, hb, -⟩ := C
  have hn : n = 2 := by simpa [hs_okr] using hok
  subst hn
  unfold hs_nx hs_step at ex
  dsimp only at ex
  split at ex
  · rename_i κ j st0
    obtain ⟨L1, h1, h2, h3, h4⟩ := hs_set1_spec L i (vR κ j) _ _ ex
    cases h1
    intro ls H locs hr
    refine lv_astore hexec hb hd hr.1 (by rw [← hr.2.1]; exact h3) rfl (fun ls' hl => hk ls' H locs ?_)
    exact hr.stored1 (v := vR κ j) h2 (hr.2.2.2.1 _ List.mem_cons_self) (fun w hw => List.mem_cons_of_mem _ hw) h4 hl
  · cases ex
theorem hs_s_astore_n {g : hs_G} {p : Program} {l : Launch} {e : Env} {R : Room} {s : State} {m : MethodId} {args : Array Value} {below : List Frame} {meth : Method} {c : Code} {cells slots own : Nat} {cc : ByteArray} {nL : Nat} {call : hs_C} {Q : State → Prop} (C : hs_Ctx g p l R s m args c cells slots own cc nL call) {i : Fin 4} {pc n : Nat} {ops : List Nat} {mk : List Bool} {L : hs_L} {st : List hs_V} {μ : hs_M} {pc' : Nat} {L' : hs_L} {st' : List hs_V} {μ' : hs_M} (hd : decode cc pc = .ok (.astore_n i, n)) (hok : hs_okr own pc (.astore_n i, n, ops, mk) = true) (ex : hs_nx call (.astore_n i, n, ops, mk) pc L st μ = some (.inl (pc', L', st', μ'))) (hk : hs_WS g p l e R s m args below meth c cells slots nL Q pc' L' st' μ') : hs_WS g p l e R s m args below meth c cells slots nL Q pc L st μ := by
  obtain ⟨hexec, hb, -⟩ := C
  have hn : n = 1 := by simpa [hs_okr] using hok
  subst hn
  unfold hs_nx hs_step at ex
  dsimp only at ex
  split at ex
  · rename_i κ j st0
    obtain ⟨L1, h1, h2, h3, h4⟩ := hs_set1_spec L i.val (vR κ j) _ _ ex
    cases h1
    intro ls H locs hr
    refine lv_astore_n hexec hb hd rfl hr.1 (by rw [← hr.2.1]; exact h3) rfl (fun ls' hl => hk ls' H locs ?_)
    exact hr.stored1 (v := vR κ j) h2 (hr.2.2.2.1 _ List.mem_cons_self) (fun w hw => List.mem_cons_of_mem _ hw) h4 hl
  · cases ex
theorem hs_s_iinc {g : hs_G} {p : Program} {l : Launch} {e : Env} {R : Room} {s : State} {m : MethodId} {args : Array Value} {below : List Frame} {meth : Method} {c : Code} {cells slots own : Nat} {cc : ByteArray} {nL : Nat} {call : hs_C} {Q : State → Prop} (C : hs_Ctx g p l R s m args c cells slots own cc nL call) {i : Nat} {z : Int} {pc n : Nat} {ops : List Nat} {mk : List Bool} {L : hs_L} {st : List hs_V} {μ : hs_M} {pc' : Nat} {L' : hs_L} {st' : List hs_V} {μ' : hs_M} (hd : decode cc pc = .ok (.iinc i z, n)) (hok : hs_okr own pc (.iinc i z, n, ops, mk) = true) (ex : hs_nx call (.iinc i z, n, ops, mk) pc L st μ = some (.inl (pc', L', st', μ'))) (hk : hs_WS g p l e R s m args below meth c cells slots nL Q pc' L' st' μ') : hs_WS g p l e R s m args below meth c cells slots nL Q pc L st μ := by
  obtain ⟨hexec, hb, -⟩ := C
  simp only [hs_okr, Bool.and_eq_true, decide_eq_true_eq] at hok
  have hn : n = 3 := Nat.eq_of_beq_eq_true hok.1
  subst hn
  unfold hs_nx hs_step at ex
  dsimp only at ex
  cases hx : hs_nth L i with
  | none => rw [hx] at ex; cases ex
  | some o =>
    rw [hx] at ex
    rcases o with _ | x | x | x
    · cases ex
    · obtain ⟨L1, h1, h2, h3, h4⟩ := hs_set1_spec L i (vI (x + hs_ic z)) _ _ ex
      cases h1
      intro ls H locs hr
      obtain ⟨k, hk1⟩ := List.getElem?_of_mem ((hs_el_mem (g := g) L 0 (i, .int x)).mpr ⟨i, vI x, hx, by rw [Nat.zero_add]; rfl⟩)
      refine lv_iinc hexec hb hd hr.1 hk1 (by rw [hok.2]) (by rw [← hr.2.1]; exact h3) rfl (fun ls' hl => hk ls' H locs ?_)
      exact hr.stored1 (v := vI (x + hs_ic z)) h2 (hs_okv_i _) (fun w hw => hw) h4 hl
    · cases ex
    · cases ex
theorem hs_s_iconst {g : hs_G} {p : Program} {l : Launch} {e : Env} {R : Room} {s : State} {m : MethodId} {args : Array Value} {below : List Frame} {meth : Method} {c : Code} {cells slots own : Nat} {cc : ByteArray} {nL : Nat} {call : hs_C} {Q : State → Prop} (C : hs_Ctx g p l R s m args c cells slots own cc nL call) {z : Int} {pc n : Nat} {ops : List Nat} {mk : List Bool} {L : hs_L} {st : List hs_V} {μ : hs_M} {pc' : Nat} {L' : hs_L} {st' : List hs_V} {μ' : hs_M} (hd : decode cc pc = .ok (.iconst z, n)) (hok : hs_okr own pc (.iconst z, n, ops, mk) = true) (ex : hs_nx call (.iconst z, n, ops, mk) pc L st μ = some (.inl (pc', L', st', μ'))) (hk : hs_WS g p l e R s m args below meth c cells slots nL Q pc' L' st' μ') : hs_WS g p l e R s m args below meth c cells slots nL Q pc L st μ := by
  obtain ⟨hexec, hb, -⟩ := C
  simp only [hs_okr, Bool.and_eq_true, decide_eq_true_eq] at hok
  have hn : n = 1 := Nat.eq_of_beq_eq_true hok.1
  subst hn
  cases ex
  intro ls H locs hr
  exact lv_iconst hexec hb hd hok.2 (hk ls H locs (hr.tail (fun w hw => (List.mem_cons.mp hw).elim (fun q => by rw [q]; exact Or.inr (hs_okv_i _)) Or.inl)))
theorem hs_s_bipush {g : hs_G} {p : Program} {l : Launch} {e : Env} {R : Room} {s : State} {m : MethodId} {args : Array Value} {below : List Frame} {meth : Method} {c : Code} {cells slots own : Nat} {cc : ByteArray} {nL : Nat} {call : hs_C} {Q : State → Prop} (C : hs_Ctx g p l R s m args c cells slots own cc nL call) {z : Int} {pc n : Nat} {ops : List Nat} {mk : List Bool} {L : hs_L} {st : List hs_V} {μ : hs_M} {pc' : Nat} {L' : hs_L} {st' : List hs_V} {μ' : hs_M} (hd : decode cc pc = .ok (.bipush z, n)) (hok : hs_okr own pc (.bipush z, n, ops, mk) = true) (ex : hs_nx call (.bipush z, n, ops, mk) pc L st μ = some (.inl (pc', L', st', μ'))) (hk : hs_WS g p l e R s m args below meth c cells slots nL Q pc' L' st' μ') : hs_WS g p l e R s m args below meth c cells slots nL Q pc L st μ := by
  obtain ⟨hexec, hb, -⟩ := C
  simp only [hs_okr, Bool.and_eq_true, decide_eq_true_eq] at hok
  have hn : n = 2 := Nat.eq_of_beq_eq_true hok.1
  subst hn
  cases ex
  intro ls H locs hr
  exact lv_bipush hexec hb hd hok.2 (hk ls H locs (hr.tail (fun w hw => (List.mem_cons.mp hw).elim (fun q => by rw [q]; exact Or.inr (hs_okv_i _)) Or.inl)))
theorem hs_s_sipush {g : hs_G} {p : Program} {l : Launch} {e : Env} {R : Room} {s : State} {m : MethodId} {args : Array Value} {below : List Frame} {meth : Method} {c : Code} {cells slots own : Nat} {cc : ByteArray} {nL : Nat} {call : hs_C} {Q : State → Prop} (C : hs_Ctx g p l R s m args c cells slots own cc nL call) {z : Int} {pc n : Nat} {ops : List Nat} {mk : List Bool} {L : hs_L} {st : List hs_V} {μ : hs_M} {pc' : Nat} {L' : hs_L} {st' : List hs_V} {μ' : hs_M} (hd : decode cc pc = .ok (.sipush z, n)) (hok : hs_okr own pc (.sipush z, n, ops, mk) = true) (ex : hs_nx call (.sipush z, n, ops, mk) pc L st μ = some (.inl (pc', L', st', μ'))) (hk : hs_WS g p l e R s m args below meth c cells slots nL Q pc' L' st' μ') : hs_WS g p l e R s m args below meth c cells slots nL Q pc L st μ := by
  obtain ⟨hexec, hb, -⟩ := C
  simp only [hs_okr, Bool.and_eq_true, decide_eq_true_eq] at hok
  have hn : n = 3 := Nat.eq_of_beq_eq_true hok.1
  subst hn
  cases ex
  intro ls H locs hr
  exact lv_sipush hexec hb hd hok.2 (hk ls H locs (hr.tail (fun w hw => (List.mem_cons.mp hw).elim (fun q => by rw [q]; exact Or.inr (hs_okv_i _)) Or.inl)))
theorem hs_s_lconst {g : hs_G} {p : Program} {l : Launch} {e : Env} {R : Room} {s : State} {m : MethodId} {args : Array Value} {below : List Frame} {meth : Method} {c : Code} {cells slots own : Nat} {cc : ByteArray} {nL : Nat} {call : hs_C} {Q : State → Prop} (C : hs_Ctx g p l R s m args c cells slots own cc nL call) {z : Fin 2} {pc n : Nat} {ops : List Nat} {mk : List Bool} {L : hs_L} {st : List hs_V} {μ : hs_M} {pc' : Nat} {L' : hs_L} {st' : List hs_V} {μ' : hs_M} (hd : decode cc pc = .ok (.lconst z, n)) (hok : hs_okr own pc (.lconst z, n, ops, mk) = true) (ex : hs_nx call (.lconst z, n, ops, mk) pc L st μ = some (.inl (pc', L', st', μ'))) (hk : hs_WS g p l e R s m args below meth c cells slots nL Q pc' L' st' μ') : hs_WS g p l e R s m args below meth c cells slots nL Q pc L st μ := by
  obtain ⟨hexec, hb, -⟩ := C
  have hn : n = 1 := by simpa [hs_okr] using hok
  subst hn
  unfold hs_nx hs_step at ex
  dsimp only at ex
  cases ex
  intro ls H locs hr
  exact lv_lconst hexec hb hd rfl (hk ls H locs (hr.tail (fun w hw => (List.mem_cons.mp hw).elim (fun q => by rw [q]; exact Or.inr (hs_okv_l _)) Or.inl)))
theorem hs_s_iadd {g : hs_G} {p : Program} {l : Launch} {e : Env} {R : Room} {s : State} {m : MethodId} {args : Array Value} {below : List Frame} {meth : Method} {c : Code} {cells slots own : Nat} {cc : ByteArray} {nL : Nat} {call : hs_C} {Q : State → Prop} (C : hs_Ctx g p l R s m args c cells slots own cc nL call)  {pc n : Nat} {ops : List Nat} {mk : List Bool} {L : hs_L} {st : List hs_V} {μ : hs_M} {pc' : Nat} {L' : hs_L} {st' : List hs_V} {μ' : hs_M} (hd : decode cc pc = .ok (.iadd, n)) (hok : hs_okr own pc (.iadd, n, ops, mk) = true) (ex : hs_nx call (.iadd, n, ops, mk) pc L st μ = some (.inl (pc', L', st', μ'))) (hk : hs_WS g p l e R s m args below meth c cells slots nL Q pc' L' st' μ') : hs_WS g p l e R s m args below meth c cells slots nL Q pc L st μ := by
  obtain ⟨hexec, hb, -⟩ := C
  have hn : n = 1 := by simpa [hs_okr] using hok
  subst hn
  unfold hs_nx hs_step at ex
  dsimp only at ex
  split at ex
  · cases ex
    intro ls H locs hr
    exact lv_iadd hexec hb hd (hk ls H locs (hr.tail (fun w hw => (List.mem_cons.mp hw).elim (fun q => by rw [q]; exact Or.inr (hs_okv_i _)) (fun q => Or.inl ((fun q => List.mem_cons_of_mem _ (List.mem_cons_of_mem _ (q))) q)))))
  · cases ex
theorem hs_s_isub {g : hs_G} {p : Program} {l : Launch} {e : Env} {R : Room} {s : State} {m : MethodId} {args : Array Value} {below : List Frame} {meth : Method} {c : Code} {cells slots own : Nat} {cc : ByteArray} {nL : Nat} {call : hs_C} {Q : State → Prop} (C : hs_Ctx g p l R s m args c cells slots own cc nL call)  {pc n : Nat} {ops : List Nat} {mk : List Bool} {L : hs_L} {st : List hs_V} {μ : hs_M} {pc' : Nat} {L' : hs_L} {st' : List hs_V} {μ' : hs_M} (hd : decode cc pc = .ok (.isub, n)) (hok : hs_okr own pc (.isub, n, ops, mk) = true) (ex : hs_nx call (.isub, n, ops, mk) pc L st μ = some (.inl (pc', L', st', μ'))) (hk : hs_WS g p l e R s m args below meth c cells slots nL Q pc' L' st' μ') : hs_WS g p l e R s m args below meth c cells slots nL Q pc L st μ := by
  obtain ⟨hexec, hb, -⟩ := C
  have hn : n = 1 := by simpa [hs_okr] using hok
  subst hn
  unfold hs_nx hs_step at ex
  dsimp only at ex
  split at ex
  · cases ex
    intro ls H locs hr
    exact lv_isub hexec hb hd (hk ls H locs (hr.tail (fun w hw => (List.mem_cons.mp hw).elim (fun q => by rw [q]; exact Or.inr (hs_okv_i _)) (fun q => Or.inl ((fun q => List.mem_cons_of_mem _ (List.mem_cons_of_mem _ (q))) q)))))
  · cases ex
theorem hs_s_imul {g : hs_G} {p : Program} {l : Launch} {e : Env} {R : Room} {s : State} {m : MethodId} {args : Array Value} {below : List Frame} {meth : Method} {c : Code} {cells slots own : Nat} {cc : ByteArray} {nL : Nat} {call : hs_C} {Q : State → Prop} (C : hs_Ctx g p l R s m args c cells slots own cc nL call)  {pc n : Nat} {ops : List Nat} {mk : List Bool} {L : hs_L} {st : List hs_V} {μ : hs_M} {pc' : Nat} {L' : hs_L} {st' : List hs_V} {μ' : hs_M} (hd : decode cc pc = .ok (.imul, n)) (hok : hs_okr own pc (.imul, n, ops, mk) = true) (ex : hs_nx call (.imul, n, ops, mk) pc L st μ = some (.inl (pc', L', st', μ'))) (hk : hs_WS g p l e R s m args below meth c cells slots nL Q pc' L' st' μ') : hs_WS g p l e R s m args below meth c cells slots nL Q pc L st μ := by
  obtain ⟨hexec, hb, -⟩ := C
  have hn : n = 1 := by simpa [hs_okr] using hok
  subst hn
  unfold hs_nx hs_step at ex
  dsimp only at ex
  split at ex
  · cases ex
    intro ls H locs hr
    exact lv_imul hexec hb hd (hk ls H locs (hr.tail (fun w hw => (List.mem_cons.mp hw).elim (fun q => by rw [q]; exact Or.inr (hs_okv_i _)) (fun q => Or.inl ((fun q => List.mem_cons_of_mem _ (List.mem_cons_of_mem _ (q))) q)))))
  · cases ex
theorem hs_s_iand {g : hs_G} {p : Program} {l : Launch} {e : Env} {R : Room} {s : State} {m : MethodId} {args : Array Value} {below : List Frame} {meth : Method} {c : Code} {cells slots own : Nat} {cc : ByteArray} {nL : Nat} {call : hs_C} {Q : State → Prop} (C : hs_Ctx g p l R s m args c cells slots own cc nL call)  {pc n : Nat} {ops : List Nat} {mk : List Bool} {L : hs_L} {st : List hs_V} {μ : hs_M} {pc' : Nat} {L' : hs_L} {st' : List hs_V} {μ' : hs_M} (hd : decode cc pc = .ok (.iand, n)) (hok : hs_okr own pc (.iand, n, ops, mk) = true) (ex : hs_nx call (.iand, n, ops, mk) pc L st μ = some (.inl (pc', L', st', μ'))) (hk : hs_WS g p l e R s m args below meth c cells slots nL Q pc' L' st' μ') : hs_WS g p l e R s m args below meth c cells slots nL Q pc L st μ := by
  obtain ⟨hexec, hb, -⟩ := C
  have hn : n = 1 := by simpa [hs_okr] using hok
  subst hn
  unfold hs_nx hs_step at ex
  dsimp only at ex
  split at ex
  · cases ex
    intro ls H locs hr
    exact lv_iand hexec hb hd (hk ls H locs (hr.tail (fun w hw => (List.mem_cons.mp hw).elim (fun q => by rw [q]; exact Or.inr (hs_okv_i _)) (fun q => Or.inl ((fun q => List.mem_cons_of_mem _ (List.mem_cons_of_mem _ (q))) q)))))
  · cases ex
theorem hs_s_ior {g : hs_G} {p : Program} {l : Launch} {e : Env} {R : Room} {s : State} {m : MethodId} {args : Array Value} {below : List Frame} {meth : Method} {c : Code} {cells slots own : Nat} {cc : ByteArray} {nL : Nat} {call : hs_C} {Q : State → Prop} (C : hs_Ctx g p l R s m args c cells slots own cc nL call)  {pc n : Nat} {ops : List Nat} {mk : List Bool} {L : hs_L} {st : List hs_V} {μ : hs_M} {pc' : Nat} {L' : hs_L} {st' : List hs_V} {μ' : hs_M} (hd : decode cc pc = .ok (.ior, n)) (hok : hs_okr own pc (.ior, n, ops, mk) = true) (ex : hs_nx call (.ior, n, ops, mk) pc L st μ = some (.inl (pc', L', st', μ'))) (hk : hs_WS g p l e R s m args below meth c cells slots nL Q pc' L' st' μ') : hs_WS g p l e R s m args below meth c cells slots nL Q pc L st μ := by
  obtain ⟨hexec, hb, -⟩ := C
  have hn : n = 1 := by simpa [hs_okr] using hok
  subst hn
  unfold hs_nx hs_step at ex
  dsimp only at ex
  split at ex
  · cases ex
    intro ls H locs hr
    exact lv_ior hexec hb hd (hk ls H locs (hr.tail (fun w hw => (List.mem_cons.mp hw).elim (fun q => by rw [q]; exact Or.inr (hs_okv_i _)) (fun q => Or.inl ((fun q => List.mem_cons_of_mem _ (List.mem_cons_of_mem _ (q))) q)))))
  · cases ex
theorem hs_s_ixor {g : hs_G} {p : Program} {l : Launch} {e : Env} {R : Room} {s : State} {m : MethodId} {args : Array Value} {below : List Frame} {meth : Method} {c : Code} {cells slots own : Nat} {cc : ByteArray} {nL : Nat} {call : hs_C} {Q : State → Prop} (C : hs_Ctx g p l R s m args c cells slots own cc nL call)  {pc n : Nat} {ops : List Nat} {mk : List Bool} {L : hs_L} {st : List hs_V} {μ : hs_M} {pc' : Nat} {L' : hs_L} {st' : List hs_V} {μ' : hs_M} (hd : decode cc pc = .ok (.ixor, n)) (hok : hs_okr own pc (.ixor, n, ops, mk) = true) (ex : hs_nx call (.ixor, n, ops, mk) pc L st μ = some (.inl (pc', L', st', μ'))) (hk : hs_WS g p l e R s m args below meth c cells slots nL Q pc' L' st' μ') : hs_WS g p l e R s m args below meth c cells slots nL Q pc L st μ := by
  obtain ⟨hexec, hb, -⟩ := C
  have hn : n = 1 := by simpa [hs_okr] using hok
  subst hn
  unfold hs_nx hs_step at ex
  dsimp only at ex
  split at ex
  · cases ex
    intro ls H locs hr
    exact lv_ixor hexec hb hd (hk ls H locs (hr.tail (fun w hw => (List.mem_cons.mp hw).elim (fun q => by rw [q]; exact Or.inr (hs_okv_i _)) (fun q => Or.inl ((fun q => List.mem_cons_of_mem _ (List.mem_cons_of_mem _ (q))) q)))))
  · cases ex
theorem hs_s_ishl {g : hs_G} {p : Program} {l : Launch} {e : Env} {R : Room} {s : State} {m : MethodId} {args : Array Value} {below : List Frame} {meth : Method} {c : Code} {cells slots own : Nat} {cc : ByteArray} {nL : Nat} {call : hs_C} {Q : State → Prop} (C : hs_Ctx g p l R s m args c cells slots own cc nL call)  {pc n : Nat} {ops : List Nat} {mk : List Bool} {L : hs_L} {st : List hs_V} {μ : hs_M} {pc' : Nat} {L' : hs_L} {st' : List hs_V} {μ' : hs_M} (hd : decode cc pc = .ok (.ishl, n)) (hok : hs_okr own pc (.ishl, n, ops, mk) = true) (ex : hs_nx call (.ishl, n, ops, mk) pc L st μ = some (.inl (pc', L', st', μ'))) (hk : hs_WS g p l e R s m args below meth c cells slots nL Q pc' L' st' μ') : hs_WS g p l e R s m args below meth c cells slots nL Q pc L st μ := by
  obtain ⟨hexec, hb, -⟩ := C
  have hn : n = 1 := by simpa [hs_okr] using hok
  subst hn
  unfold hs_nx hs_step at ex
  dsimp only at ex
  split at ex
  · cases ex
    intro ls H locs hr
    exact lv_ishl hexec hb hd (hk ls H locs (hr.tail (fun w hw => (List.mem_cons.mp hw).elim (fun q => by rw [q]; exact Or.inr (hs_okv_i _)) (fun q => Or.inl ((fun q => List.mem_cons_of_mem _ (List.mem_cons_of_mem _ (q))) q)))))
  · cases ex
theorem hs_s_ishr {g : hs_G} {p : Program} {l : Launch} {e : Env} {R : Room} {s : State} {m : MethodId} {args : Array Value} {below : List Frame} {meth : Method} {c : Code} {cells slots own : Nat} {cc : ByteArray} {nL : Nat} {call : hs_C} {Q : State → Prop} (C : hs_Ctx g p l R s m args c cells slots own cc nL call)  {pc n : Nat} {ops : List Nat} {mk : List Bool} {L : hs_L} {st : List hs_V} {μ : hs_M} {pc' : Nat} {L' : hs_L} {st' : List hs_V} {μ' : hs_M} (hd : decode cc pc = .ok (.ishr, n)) (hok : hs_okr own pc (.ishr, n, ops, mk) = true) (ex : hs_nx call (.ishr, n, ops, mk) pc L st μ = some (.inl (pc', L', st', μ'))) (hk : hs_WS g p l e R s m args below meth c cells slots nL Q pc' L' st' μ') : hs_WS g p l e R s m args below meth c cells slots nL Q pc L st μ := by
  obtain ⟨hexec, hb, -⟩ := C
  have hn : n = 1 := by simpa [hs_okr] using hok
  subst hn
  unfold hs_nx hs_step at ex
  dsimp only at ex
  split at ex
  · cases ex
    intro ls H locs hr
    exact lv_ishr hexec hb hd (hk ls H locs (hr.tail (fun w hw => (List.mem_cons.mp hw).elim (fun q => by rw [q]; exact Or.inr (hs_okv_i _)) (fun q => Or.inl ((fun q => List.mem_cons_of_mem _ (List.mem_cons_of_mem _ (q))) q)))))
  · cases ex
theorem hs_s_iushr {g : hs_G} {p : Program} {l : Launch} {e : Env} {R : Room} {s : State} {m : MethodId} {args : Array Value} {below : List Frame} {meth : Method} {c : Code} {cells slots own : Nat} {cc : ByteArray} {nL : Nat} {call : hs_C} {Q : State → Prop} (C : hs_Ctx g p l R s m args c cells slots own cc nL call)  {pc n : Nat} {ops : List Nat} {mk : List Bool} {L : hs_L} {st : List hs_V} {μ : hs_M} {pc' : Nat} {L' : hs_L} {st' : List hs_V} {μ' : hs_M} (hd : decode cc pc = .ok (.iushr, n)) (hok : hs_okr own pc (.iushr, n, ops, mk) = true) (ex : hs_nx call (.iushr, n, ops, mk) pc L st μ = some (.inl (pc', L', st', μ'))) (hk : hs_WS g p l e R s m args below meth c cells slots nL Q pc' L' st' μ') : hs_WS g p l e R s m args below meth c cells slots nL Q pc L st μ := by
  obtain ⟨hexec, hb, -⟩ := C
  have hn : n = 1 := by simpa [hs_okr] using hok
  subst hn
  unfold hs_nx hs_step at ex
  dsimp only at ex
  split at ex
  · cases ex
    intro ls H locs hr
    exact lv_iushr hexec hb hd rfl (hk ls H locs (hr.tail (fun w hw => (List.mem_cons.mp hw).elim (fun q => by rw [q]; exact Or.inr (hs_okv_i _)) (fun q => Or.inl ((fun q => List.mem_cons_of_mem _ (List.mem_cons_of_mem _ (q))) q)))))
  · cases ex
theorem hs_s_idiv {g : hs_G} {p : Program} {l : Launch} {e : Env} {R : Room} {s : State} {m : MethodId} {args : Array Value} {below : List Frame} {meth : Method} {c : Code} {cells slots own : Nat} {cc : ByteArray} {nL : Nat} {call : hs_C} {Q : State → Prop} (C : hs_Ctx g p l R s m args c cells slots own cc nL call)  {pc n : Nat} {ops : List Nat} {mk : List Bool} {L : hs_L} {st : List hs_V} {μ : hs_M} {pc' : Nat} {L' : hs_L} {st' : List hs_V} {μ' : hs_M} (hd : decode cc pc = .ok (.idiv, n)) (hok : hs_okr own pc (.idiv, n, ops, mk) = true) (ex : hs_nx call (.idiv, n, ops, mk) pc L st μ = some (.inl (pc', L', st', μ'))) (hk : hs_WS g p l e R s m args below meth c cells slots nL Q pc' L' st' μ') : hs_WS g p l e R s m args below meth c cells slots nL Q pc L st μ := by
  obtain ⟨hexec, hb, -⟩ := C
  have hn : n = 1 := by simpa [hs_okr] using hok
  subst hn
  unfold hs_nx hs_step at ex
  dsimp only at ex
  split at ex
  · rename_i y x st0
    by_cases hy : y = 0
    · rw [if_pos hy] at ex; cases ex
    · rw [if_neg hy] at ex
      cases ex
      intro ls H locs hr
      exact lv_idiv hexec hb hd hy (hk ls H locs (hr.tail (fun w hw => (List.mem_cons.mp hw).elim (fun q => by rw [q]; exact Or.inr (hs_okv_i _)) (fun q => Or.inl ((fun q => List.mem_cons_of_mem _ (List.mem_cons_of_mem _ (q))) q)))))
  · cases ex
theorem hs_s_irem {g : hs_G} {p : Program} {l : Launch} {e : Env} {R : Room} {s : State} {m : MethodId} {args : Array Value} {below : List Frame} {meth : Method} {c : Code} {cells slots own : Nat} {cc : ByteArray} {nL : Nat} {call : hs_C} {Q : State → Prop} (C : hs_Ctx g p l R s m args c cells slots own cc nL call)  {pc n : Nat} {ops : List Nat} {mk : List Bool} {L : hs_L} {st : List hs_V} {μ : hs_M} {pc' : Nat} {L' : hs_L} {st' : List hs_V} {μ' : hs_M} (hd : decode cc pc = .ok (.irem, n)) (hok : hs_okr own pc (.irem, n, ops, mk) = true) (ex : hs_nx call (.irem, n, ops, mk) pc L st μ = some (.inl (pc', L', st', μ'))) (hk : hs_WS g p l e R s m args below meth c cells slots nL Q pc' L' st' μ') : hs_WS g p l e R s m args below meth c cells slots nL Q pc L st μ := by
  obtain ⟨hexec, hb, -⟩ := C
  have hn : n = 1 := by simpa [hs_okr] using hok
  subst hn
  unfold hs_nx hs_step at ex
  dsimp only at ex
  split at ex
  · rename_i y x st0
    by_cases hy : y = 0
    · rw [if_pos hy] at ex; cases ex
    · rw [if_neg hy] at ex
      cases ex
      intro ls H locs hr
      exact lv_irem hexec hb hd hy (hk ls H locs (hr.tail (fun w hw => (List.mem_cons.mp hw).elim (fun q => by rw [q]; exact Or.inr (hs_okv_i _)) (fun q => Or.inl ((fun q => List.mem_cons_of_mem _ (List.mem_cons_of_mem _ (q))) q)))))
  · cases ex
theorem hs_s_ldiv {g : hs_G} {p : Program} {l : Launch} {e : Env} {R : Room} {s : State} {m : MethodId} {args : Array Value} {below : List Frame} {meth : Method} {c : Code} {cells slots own : Nat} {cc : ByteArray} {nL : Nat} {call : hs_C} {Q : State → Prop} (C : hs_Ctx g p l R s m args c cells slots own cc nL call)  {pc n : Nat} {ops : List Nat} {mk : List Bool} {L : hs_L} {st : List hs_V} {μ : hs_M} {pc' : Nat} {L' : hs_L} {st' : List hs_V} {μ' : hs_M} (hd : decode cc pc = .ok (.ldiv, n)) (hok : hs_okr own pc (.ldiv, n, ops, mk) = true) (ex : hs_nx call (.ldiv, n, ops, mk) pc L st μ = some (.inl (pc', L', st', μ'))) (hk : hs_WS g p l e R s m args below meth c cells slots nL Q pc' L' st' μ') : hs_WS g p l e R s m args below meth c cells slots nL Q pc L st μ := by
  obtain ⟨hexec, hb, -⟩ := C
  have hn : n = 1 := by simpa [hs_okr] using hok
  subst hn
  unfold hs_nx hs_step at ex
  dsimp only at ex
  split at ex
  · rename_i y x st0
    by_cases hy : y = 0
    · rw [if_pos hy] at ex; cases ex
    · rw [if_neg hy] at ex
      cases ex
      intro ls H locs hr
      exact lv_ldiv hexec hb hd hy (hk ls H locs (hr.tail (fun w hw => (List.mem_cons.mp hw).elim (fun q => by rw [q]; exact Or.inr (hs_okv_l _)) (fun q => Or.inl ((fun q => List.mem_cons_of_mem _ (List.mem_cons_of_mem _ (q))) q)))))
  · cases ex
theorem hs_s_lrem {g : hs_G} {p : Program} {l : Launch} {e : Env} {R : Room} {s : State} {m : MethodId} {args : Array Value} {below : List Frame} {meth : Method} {c : Code} {cells slots own : Nat} {cc : ByteArray} {nL : Nat} {call : hs_C} {Q : State → Prop} (C : hs_Ctx g p l R s m args c cells slots own cc nL call)  {pc n : Nat} {ops : List Nat} {mk : List Bool} {L : hs_L} {st : List hs_V} {μ : hs_M} {pc' : Nat} {L' : hs_L} {st' : List hs_V} {μ' : hs_M} (hd : decode cc pc = .ok (.lrem, n)) (hok : hs_okr own pc (.lrem, n, ops, mk) = true) (ex : hs_nx call (.lrem, n, ops, mk) pc L st μ = some (.inl (pc', L', st', μ'))) (hk : hs_WS g p l e R s m args below meth c cells slots nL Q pc' L' st' μ') : hs_WS g p l e R s m args below meth c cells slots nL Q pc L st μ := by
  obtain ⟨hexec, hb, -⟩ := C
  have hn : n = 1 := by simpa [hs_okr] using hok
  subst hn
  unfold hs_nx hs_step at ex
  dsimp only at ex
  split at ex
  · rename_i y x st0
    by_cases hy : y = 0
    · rw [if_pos hy] at ex; cases ex
    · rw [if_neg hy] at ex
      cases ex
      intro ls H locs hr
      exact lv_lrem hexec hb hd hy (hk ls H locs (hr.tail (fun w hw => (List.mem_cons.mp hw).elim (fun q => by rw [q]; exact Or.inr (hs_okv_l _)) (fun q => Or.inl ((fun q => List.mem_cons_of_mem _ (List.mem_cons_of_mem _ (q))) q)))))
  · cases ex
theorem hs_s_ineg {g : hs_G} {p : Program} {l : Launch} {e : Env} {R : Room} {s : State} {m : MethodId} {args : Array Value} {below : List Frame} {meth : Method} {c : Code} {cells slots own : Nat} {cc : ByteArray} {nL : Nat} {call : hs_C} {Q : State → Prop} (C : hs_Ctx g p l R s m args c cells slots own cc nL call)  {pc n : Nat} {ops : List Nat} {mk : List Bool} {L : hs_L} {st : List hs_V} {μ : hs_M} {pc' : Nat} {L' : hs_L} {st' : List hs_V} {μ' : hs_M} (hd : decode cc pc = .ok (.ineg, n)) (hok : hs_okr own pc (.ineg, n, ops, mk) = true) (ex : hs_nx call (.ineg, n, ops, mk) pc L st μ = some (.inl (pc', L', st', μ'))) (hk : hs_WS g p l e R s m args below meth c cells slots nL Q pc' L' st' μ') : hs_WS g p l e R s m args below meth c cells slots nL Q pc L st μ := by
  obtain ⟨hexec, hb, -⟩ := C
  have hn : n = 1 := by simpa [hs_okr] using hok
  subst hn
  unfold hs_nx hs_step at ex
  dsimp only at ex
  split at ex
  · cases ex
    intro ls H locs hr
    exact lv_ineg hexec hb hd (hk ls H locs (hr.tail (fun w hw => (List.mem_cons.mp hw).elim (fun q => by rw [q]; exact Or.inr (hs_okv_i _)) (fun q => Or.inl ((fun q => List.mem_cons_of_mem _ (q)) q)))))
  · cases ex
theorem hs_s_i2l {g : hs_G} {p : Program} {l : Launch} {e : Env} {R : Room} {s : State} {m : MethodId} {args : Array Value} {below : List Frame} {meth : Method} {c : Code} {cells slots own : Nat} {cc : ByteArray} {nL : Nat} {call : hs_C} {Q : State → Prop} (C : hs_Ctx g p l R s m args c cells slots own cc nL call)  {pc n : Nat} {ops : List Nat} {mk : List Bool} {L : hs_L} {st : List hs_V} {μ : hs_M} {pc' : Nat} {L' : hs_L} {st' : List hs_V} {μ' : hs_M} (hd : decode cc pc = .ok (.i2l, n)) (hok : hs_okr own pc (.i2l, n, ops, mk) = true) (ex : hs_nx call (.i2l, n, ops, mk) pc L st μ = some (.inl (pc', L', st', μ'))) (hk : hs_WS g p l e R s m args below meth c cells slots nL Q pc' L' st' μ') : hs_WS g p l e R s m args below meth c cells slots nL Q pc L st μ := by
  obtain ⟨hexec, hb, -⟩ := C
  have hn : n = 1 := by simpa [hs_okr] using hok
  subst hn
  unfold hs_nx hs_step at ex
  dsimp only at ex
  split at ex
  · cases ex
    intro ls H locs hr
    exact lv_i2l hexec hb hd rfl (hk ls H locs (hr.tail (fun w hw => (List.mem_cons.mp hw).elim (fun q => by rw [q]; exact Or.inr (hs_okv_l _)) (fun q => Or.inl ((fun q => List.mem_cons_of_mem _ (q)) q)))))
  · cases ex
theorem hs_s_i2b {g : hs_G} {p : Program} {l : Launch} {e : Env} {R : Room} {s : State} {m : MethodId} {args : Array Value} {below : List Frame} {meth : Method} {c : Code} {cells slots own : Nat} {cc : ByteArray} {nL : Nat} {call : hs_C} {Q : State → Prop} (C : hs_Ctx g p l R s m args c cells slots own cc nL call)  {pc n : Nat} {ops : List Nat} {mk : List Bool} {L : hs_L} {st : List hs_V} {μ : hs_M} {pc' : Nat} {L' : hs_L} {st' : List hs_V} {μ' : hs_M} (hd : decode cc pc = .ok (.i2b, n)) (hok : hs_okr own pc (.i2b, n, ops, mk) = true) (ex : hs_nx call (.i2b, n, ops, mk) pc L st μ = some (.inl (pc', L', st', μ'))) (hk : hs_WS g p l e R s m args below meth c cells slots nL Q pc' L' st' μ') : hs_WS g p l e R s m args below meth c cells slots nL Q pc L st μ := by
  obtain ⟨hexec, hb, -⟩ := C
  have hn : n = 1 := by simpa [hs_okr] using hok
  subst hn
  unfold hs_nx hs_step at ex
  dsimp only at ex
  split at ex
  · cases ex
    intro ls H locs hr
    exact lv_i2b hexec hb hd rfl (hk ls H locs (hr.tail (fun w hw => (List.mem_cons.mp hw).elim (fun q => by rw [q]; exact Or.inr (hs_okv_i _)) (fun q => Or.inl ((fun q => List.mem_cons_of_mem _ (q)) q)))))
  · cases ex
theorem hs_s_i2s {g : hs_G} {p : Program} {l : Launch} {e : Env} {R : Room} {s : State} {m : MethodId} {args : Array Value} {below : List Frame} {meth : Method} {c : Code} {cells slots own : Nat} {cc : ByteArray} {nL : Nat} {call : hs_C} {Q : State → Prop} (C : hs_Ctx g p l R s m args c cells slots own cc nL call)  {pc n : Nat} {ops : List Nat} {mk : List Bool} {L : hs_L} {st : List hs_V} {μ : hs_M} {pc' : Nat} {L' : hs_L} {st' : List hs_V} {μ' : hs_M} (hd : decode cc pc = .ok (.i2s, n)) (hok : hs_okr own pc (.i2s, n, ops, mk) = true) (ex : hs_nx call (.i2s, n, ops, mk) pc L st μ = some (.inl (pc', L', st', μ'))) (hk : hs_WS g p l e R s m args below meth c cells slots nL Q pc' L' st' μ') : hs_WS g p l e R s m args below meth c cells slots nL Q pc L st μ := by
  obtain ⟨hexec, hb, -⟩ := C
  have hn : n = 1 := by simpa [hs_okr] using hok
  subst hn
  unfold hs_nx hs_step at ex
  dsimp only at ex
  split at ex
  · cases ex
    intro ls H locs hr
    exact lv_i2s hexec hb hd rfl (hk ls H locs (hr.tail (fun w hw => (List.mem_cons.mp hw).elim (fun q => by rw [q]; exact Or.inr (hs_okv_i _)) (fun q => Or.inl ((fun q => List.mem_cons_of_mem _ (q)) q)))))
  · cases ex
theorem hs_s_ladd {g : hs_G} {p : Program} {l : Launch} {e : Env} {R : Room} {s : State} {m : MethodId} {args : Array Value} {below : List Frame} {meth : Method} {c : Code} {cells slots own : Nat} {cc : ByteArray} {nL : Nat} {call : hs_C} {Q : State → Prop} (C : hs_Ctx g p l R s m args c cells slots own cc nL call)  {pc n : Nat} {ops : List Nat} {mk : List Bool} {L : hs_L} {st : List hs_V} {μ : hs_M} {pc' : Nat} {L' : hs_L} {st' : List hs_V} {μ' : hs_M} (hd : decode cc pc = .ok (.ladd, n)) (hok : hs_okr own pc (.ladd, n, ops, mk) = true) (ex : hs_nx call (.ladd, n, ops, mk) pc L st μ = some (.inl (pc', L', st', μ'))) (hk : hs_WS g p l e R s m args below meth c cells slots nL Q pc' L' st' μ') : hs_WS g p l e R s m args below meth c cells slots nL Q pc L st μ := by
  obtain ⟨hexec, hb, -⟩ := C
  have hn : n = 1 := by simpa [hs_okr] using hok
  subst hn
  unfold hs_nx hs_step at ex
  dsimp only at ex
  split at ex
  · cases ex
    intro ls H locs hr
    exact lv_ladd hexec hb hd (hk ls H locs (hr.tail (fun w hw => (List.mem_cons.mp hw).elim (fun q => by rw [q]; exact Or.inr (hs_okv_l _)) (fun q => Or.inl ((fun q => List.mem_cons_of_mem _ (List.mem_cons_of_mem _ (q))) q)))))
  · cases ex
theorem hs_s_lmul {g : hs_G} {p : Program} {l : Launch} {e : Env} {R : Room} {s : State} {m : MethodId} {args : Array Value} {below : List Frame} {meth : Method} {c : Code} {cells slots own : Nat} {cc : ByteArray} {nL : Nat} {call : hs_C} {Q : State → Prop} (C : hs_Ctx g p l R s m args c cells slots own cc nL call)  {pc n : Nat} {ops : List Nat} {mk : List Bool} {L : hs_L} {st : List hs_V} {μ : hs_M} {pc' : Nat} {L' : hs_L} {st' : List hs_V} {μ' : hs_M} (hd : decode cc pc = .ok (.lmul, n)) (hok : hs_okr own pc (.lmul, n, ops, mk) = true) (ex : hs_nx call (.lmul, n, ops, mk) pc L st μ = some (.inl (pc', L', st', μ'))) (hk : hs_WS g p l e R s m args below meth c cells slots nL Q pc' L' st' μ') : hs_WS g p l e R s m args below meth c cells slots nL Q pc L st μ := by
  obtain ⟨hexec, hb, -⟩ := C
  have hn : n = 1 := by simpa [hs_okr] using hok
  subst hn
  unfold hs_nx hs_step at ex
  dsimp only at ex
  split at ex
  · cases ex
    intro ls H locs hr
    exact lv_lmul hexec hb hd (hk ls H locs (hr.tail (fun w hw => (List.mem_cons.mp hw).elim (fun q => by rw [q]; exact Or.inr (hs_okv_l _)) (fun q => Or.inl ((fun q => List.mem_cons_of_mem _ (List.mem_cons_of_mem _ (q))) q)))))
  · cases ex
theorem hs_s_lcmp {g : hs_G} {p : Program} {l : Launch} {e : Env} {R : Room} {s : State} {m : MethodId} {args : Array Value} {below : List Frame} {meth : Method} {c : Code} {cells slots own : Nat} {cc : ByteArray} {nL : Nat} {call : hs_C} {Q : State → Prop} (C : hs_Ctx g p l R s m args c cells slots own cc nL call)  {pc n : Nat} {ops : List Nat} {mk : List Bool} {L : hs_L} {st : List hs_V} {μ : hs_M} {pc' : Nat} {L' : hs_L} {st' : List hs_V} {μ' : hs_M} (hd : decode cc pc = .ok (.lcmp, n)) (hok : hs_okr own pc (.lcmp, n, ops, mk) = true) (ex : hs_nx call (.lcmp, n, ops, mk) pc L st μ = some (.inl (pc', L', st', μ'))) (hk : hs_WS g p l e R s m args below meth c cells slots nL Q pc' L' st' μ') : hs_WS g p l e R s m args below meth c cells slots nL Q pc L st μ := by
  obtain ⟨hexec, hb, -⟩ := C
  have hn : n = 1 := by simpa [hs_okr] using hok
  subst hn
  unfold hs_nx hs_step at ex
  dsimp only at ex
  split at ex
  · cases ex
    intro ls H locs hr
    exact W.lcmp hexec hb hd (hk ls H locs (hr.tail (fun w hw => (List.mem_cons.mp hw).elim (fun q => by rw [q]; exact Or.inr (hs_okv_i _)) (fun q => Or.inl ((fun q => List.mem_cons_of_mem _ (List.mem_cons_of_mem _ (q))) q)))))
  · cases ex
theorem hs_s_dup {g : hs_G} {p : Program} {l : Launch} {e : Env} {R : Room} {s : State} {m : MethodId} {args : Array Value} {below : List Frame} {meth : Method} {c : Code} {cells slots own : Nat} {cc : ByteArray} {nL : Nat} {call : hs_C} {Q : State → Prop} (C : hs_Ctx g p l R s m args c cells slots own cc nL call)  {pc n : Nat} {ops : List Nat} {mk : List Bool} {L : hs_L} {st : List hs_V} {μ : hs_M} {pc' : Nat} {L' : hs_L} {st' : List hs_V} {μ' : hs_M} (hd : decode cc pc = .ok (.dup, n)) (hok : hs_okr own pc (.dup, n, ops, mk) = true) (ex : hs_nx call (.dup, n, ops, mk) pc L st μ = some (.inl (pc', L', st', μ'))) (hk : hs_WS g p l e R s m args below meth c cells slots nL Q pc' L' st' μ') : hs_WS g p l e R s m args below meth c cells slots nL Q pc L st μ := by
  obtain ⟨hexec, hb, -⟩ := C
  have hn : n = 1 := by simpa [hs_okr] using hok
  subst hn
  unfold hs_nx hs_step at ex
  dsimp only at ex
  split at ex
  · cases ex
    intro ls H locs hr
    exact lv_dup hexec hb hd rfl (hk ls H locs (hr.tail (fun w hw => (List.mem_cons.mp hw).elim (fun q => by rw [q]; exact Or.inr (hs_okv_i _)) (fun q => Or.inl q))))
  · cases ex
    intro ls H locs hr
    exact lv_dup hexec hb hd rfl (hk ls H locs (hr.tail (fun w hw => (List.mem_cons.mp hw).elim (fun q => by rw [q]; exact Or.inl List.mem_cons_self) (fun q => Or.inl q))))
  · cases ex
theorem hs_s_dup2 {g : hs_G} {p : Program} {l : Launch} {e : Env} {R : Room} {s : State} {m : MethodId} {args : Array Value} {below : List Frame} {meth : Method} {c : Code} {cells slots own : Nat} {cc : ByteArray} {nL : Nat} {call : hs_C} {Q : State → Prop} (C : hs_Ctx g p l R s m args c cells slots own cc nL call)  {pc n : Nat} {ops : List Nat} {mk : List Bool} {L : hs_L} {st : List hs_V} {μ : hs_M} {pc' : Nat} {L' : hs_L} {st' : List hs_V} {μ' : hs_M} (hd : decode cc pc = .ok (.dup2, n)) (hok : hs_okr own pc (.dup2, n, ops, mk) = true) (ex : hs_nx call (.dup2, n, ops, mk) pc L st μ = some (.inl (pc', L', st', μ'))) (hk : hs_WS g p l e R s m args below meth c cells slots nL Q pc' L' st' μ') : hs_WS g p l e R s m args below meth c cells slots nL Q pc L st μ := by
  obtain ⟨hexec, hb, -⟩ := C
  have hn : n = 1 := by simpa [hs_okr] using hok
  subst hn
  unfold hs_nx hs_step at ex
  dsimp only at ex
  split at ex
  · cases ex
    intro ls H locs hr
    refine lv_dup2_11 hexec hb hd rfl rfl (hk ls H locs (hr.tail (fun w hw => Or.inl ?_)))
    rcases List.mem_cons.mp hw with q | hw
    · rw [q]; exact List.mem_cons_self
    · rcases List.mem_cons.mp hw with q | hw
      · rw [q]; exact List.mem_cons_of_mem _ List.mem_cons_self
      · exact hw
  · cases ex
theorem hs_s_pop {g : hs_G} {p : Program} {l : Launch} {e : Env} {R : Room} {s : State} {m : MethodId} {args : Array Value} {below : List Frame} {meth : Method} {c : Code} {cells slots own : Nat} {cc : ByteArray} {nL : Nat} {call : hs_C} {Q : State → Prop} (C : hs_Ctx g p l R s m args c cells slots own cc nL call)  {pc n : Nat} {ops : List Nat} {mk : List Bool} {L : hs_L} {st : List hs_V} {μ : hs_M} {pc' : Nat} {L' : hs_L} {st' : List hs_V} {μ' : hs_M} (hd : decode cc pc = .ok (.pop, n)) (hok : hs_okr own pc (.pop, n, ops, mk) = true) (ex : hs_nx call (.pop, n, ops, mk) pc L st μ = some (.inl (pc', L', st', μ'))) (hk : hs_WS g p l e R s m args below meth c cells slots nL Q pc' L' st' μ') : hs_WS g p l e R s m args below meth c cells slots nL Q pc L st μ := by
  obtain ⟨hexec, hb, -⟩ := C
  have hn : n = 1 := by simpa [hs_okr] using hok
  subst hn
  unfold hs_nx hs_step at ex
  dsimp only at ex
  split at ex
  · cases ex
    intro ls H locs hr
    exact lv_pop hexec hb hd rfl (hk ls H locs (hr.tail (fun w hw => Or.inl (List.mem_cons_of_mem _ hw))))
  · cases ex
theorem hs_s_goto {g : hs_G} {p : Program} {l : Launch} {e : Env} {R : Room} {s : State} {m : MethodId} {args : Array Value} {below : List Frame} {meth : Method} {c : Code} {cells slots own : Nat} {cc : ByteArray} {nL : Nat} {call : hs_C} {Q : State → Prop} (C : hs_Ctx g p l R s m args c cells slots own cc nL call) {off : Int} {pc n : Nat} {ops : List Nat} {mk : List Bool} {L : hs_L} {st : List hs_V} {μ : hs_M} {pc' : Nat} {L' : hs_L} {st' : List hs_V} {μ' : hs_M} (hd : decode cc pc = .ok (.goto off, n)) (hok : hs_okr own pc (.goto off, n, ops, mk) = true) (ex : hs_nx call (.goto off, n, ops, mk) pc L st μ = some (.inl (pc', L', st', μ'))) (hk : hs_WS g p l e R s m args below meth c cells slots nL Q pc' L' st' μ') : hs_WS g p l e R s m args below meth c cells slots nL Q pc L st μ := by
  obtain ⟨hexec, hb, -⟩ := C
  simp only [hs_okr, Bool.and_eq_true] at hok
  have hn : n = 3 := Nat.eq_of_beq_eq_true hok.1
  subst hn
  have ht : (pc : Int) + off = (hs_tgt pc off : Int) := by simpa [hs_tok] using hok.2
  unfold hs_nx hs_step at ex
  dsimp only at ex
  split at ex
  · cases ex
    intro ls H locs hr
    exact lv_goto hexec hb hd ht (hk ls H locs hr)
  · cases ex
theorem hs_s_ifCond_eq {g : hs_G} {p : Program} {l : Launch} {e : Env} {R : Room} {s : State} {m : MethodId} {args : Array Value} {below : List Frame} {meth : Method} {c : Code} {cells slots own : Nat} {cc : ByteArray} {nL : Nat} {call : hs_C} {Q : State → Prop} (C : hs_Ctx g p l R s m args c cells slots own cc nL call) {off : Int} {pc n : Nat} {ops : List Nat} {mk : List Bool} {L : hs_L} {st : List hs_V} {μ : hs_M} {pc' : Nat} {L' : hs_L} {st' : List hs_V} {μ' : hs_M} (hd : decode cc pc = .ok (.ifCond .eq off, n)) (hok : hs_okr own pc (.ifCond .eq off, n, ops, mk) = true) (ex : hs_nx call (.ifCond .eq off, n, ops, mk) pc L st μ = some (.inl (pc', L', st', μ'))) (hk : hs_WS g p l e R s m args below meth c cells slots nL Q pc' L' st' μ') : hs_WS g p l e R s m args below meth c cells slots nL Q pc L st μ := by
  obtain ⟨hexec, hb, -⟩ := C
  simp only [hs_okr, Bool.and_eq_true] at hok
  have hn : n = 3 := Nat.eq_of_beq_eq_true hok.1
  subst hn
  have ht : (pc : Int) + off = (hs_tgt pc off : Int) := by simpa [hs_tok] using hok.2
  unfold hs_nx hs_step at ex
  dsimp only at ex
  split at ex
  · rename_i x st0
    by_cases hc : x = 0
    · rw [if_pos hc] at ex
      cases ex
      intro ls H locs hr
      exact lv_if_eq hexec hb hd ht (fun _ => hk ls H locs (hr.tail (fun w hw => Or.inl (List.mem_cons_of_mem _ (hw))))) (fun q => absurd hc q)
    · rw [if_neg hc] at ex
      cases ex
      intro ls H locs hr
      exact lv_if_eq hexec hb hd ht (fun q => absurd q hc) (fun _ => hk ls H locs (hr.tail (fun w hw => Or.inl (List.mem_cons_of_mem _ (hw)))))
  · cases ex
theorem hs_s_ifCond_ne {g : hs_G} {p : Program} {l : Launch} {e : Env} {R : Room} {s : State} {m : MethodId} {args : Array Value} {below : List Frame} {meth : Method} {c : Code} {cells slots own : Nat} {cc : ByteArray} {nL : Nat} {call : hs_C} {Q : State → Prop} (C : hs_Ctx g p l R s m args c cells slots own cc nL call) {off : Int} {pc n : Nat} {ops : List Nat} {mk : List Bool} {L : hs_L} {st : List hs_V} {μ : hs_M} {pc' : Nat} {L' : hs_L} {st' : List hs_V} {μ' : hs_M} (hd : decode cc pc = .ok (.ifCond .ne off, n)) (hok : hs_okr own pc (.ifCond .ne off, n, ops, mk) = true) (ex : hs_nx call (.ifCond .ne off, n, ops, mk) pc L st μ = some (.inl (pc', L', st', μ'))) (hk : hs_WS g p l e R s m args below meth c cells slots nL Q pc' L' st' μ') : hs_WS g p l e R s m args below meth c cells slots nL Q pc L st μ := by
  obtain ⟨hexec, hb, -⟩ := C
  simp only [hs_okr, Bool.and_eq_true] at hok
  have hn : n = 3 := Nat.eq_of_beq_eq_true hok.1
  subst hn
  have ht : (pc : Int) + off = (hs_tgt pc off : Int) := by simpa [hs_tok] using hok.2
  unfold hs_nx hs_step at ex
  dsimp only at ex
  split at ex
  · rename_i x st0
    by_cases hc : x = 0
    · rw [if_pos hc] at ex
      cases ex
      intro ls H locs hr
      exact lv_if_ne hexec hb hd ht (fun q => absurd hc q) (fun _ => hk ls H locs (hr.tail (fun w hw => Or.inl (List.mem_cons_of_mem _ (hw)))))
    · rw [if_neg hc] at ex
      cases ex
      intro ls H locs hr
      exact lv_if_ne hexec hb hd ht (fun _ => hk ls H locs (hr.tail (fun w hw => Or.inl (List.mem_cons_of_mem _ (hw))))) (fun q => absurd q hc)
  · cases ex
theorem hs_s_ifCond_lt {g : hs_G} {p : Program} {l : Launch} {e : Env} {R : Room} {s : State} {m : MethodId} {args : Array Value} {below : List Frame} {meth : Method} {c : Code} {cells slots own : Nat} {cc : ByteArray} {nL : Nat} {call : hs_C} {Q : State → Prop} (C : hs_Ctx g p l R s m args c cells slots own cc nL call) {off : Int} {pc n : Nat} {ops : List Nat} {mk : List Bool} {L : hs_L} {st : List hs_V} {μ : hs_M} {pc' : Nat} {L' : hs_L} {st' : List hs_V} {μ' : hs_M} (hd : decode cc pc = .ok (.ifCond .lt off, n)) (hok : hs_okr own pc (.ifCond .lt off, n, ops, mk) = true) (ex : hs_nx call (.ifCond .lt off, n, ops, mk) pc L st μ = some (.inl (pc', L', st', μ'))) (hk : hs_WS g p l e R s m args below meth c cells slots nL Q pc' L' st' μ') : hs_WS g p l e R s m args below meth c cells slots nL Q pc L st μ := by
  obtain ⟨hexec, hb, -⟩ := C
  simp only [hs_okr, Bool.and_eq_true] at hok
  have hn : n = 3 := Nat.eq_of_beq_eq_true hok.1
  subst hn
  have ht : (pc : Int) + off = (hs_tgt pc off : Int) := by simpa [hs_tok] using hok.2
  unfold hs_nx hs_step at ex
  dsimp only at ex
  split at ex
  · rename_i x st0
    by_cases hc : x < 0
    · rw [if_pos hc] at ex
      cases ex
      intro ls H locs hr
      exact lv_if_lt hexec hb hd ht (fun _ => hk ls H locs (hr.tail (fun w hw => Or.inl (List.mem_cons_of_mem _ (hw))))) (fun q => absurd hc q)
    · rw [if_neg hc] at ex
      cases ex
      intro ls H locs hr
      exact lv_if_lt hexec hb hd ht (fun q => absurd q hc) (fun _ => hk ls H locs (hr.tail (fun w hw => Or.inl (List.mem_cons_of_mem _ (hw)))))
  · cases ex
theorem hs_s_ifCond_ge {g : hs_G} {p : Program} {l : Launch} {e : Env} {R : Room} {s : State} {m : MethodId} {args : Array Value} {below : List Frame} {meth : Method} {c : Code} {cells slots own : Nat} {cc : ByteArray} {nL : Nat} {call : hs_C} {Q : State → Prop} (C : hs_Ctx g p l R s m args c cells slots own cc nL call) {off : Int} {pc n : Nat} {ops : List Nat} {mk : List Bool} {L : hs_L} {st : List hs_V} {μ : hs_M} {pc' : Nat} {L' : hs_L} {st' : List hs_V} {μ' : hs_M} (hd : decode cc pc = .ok (.ifCond .ge off, n)) (hok : hs_okr own pc (.ifCond .ge off, n, ops, mk) = true) (ex : hs_nx call (.ifCond .ge off, n, ops, mk) pc L st μ = some (.inl (pc', L', st', μ'))) (hk : hs_WS g p l e R s m args below meth c cells slots nL Q pc' L' st' μ') : hs_WS g p l e R s m args below meth c cells slots nL Q pc L st μ := by
  obtain ⟨hexec, hb, -⟩ := C
  simp only [hs_okr, Bool.and_eq_true] at hok
  have hn : n = 3 := Nat.eq_of_beq_eq_true hok.1
  subst hn
  have ht : (pc : Int) + off = (hs_tgt pc off : Int) := by simpa [hs_tok] using hok.2
  unfold hs_nx hs_step at ex
  dsimp only at ex
  split at ex
  · rename_i x st0
    by_cases hc : x < 0
    · rw [if_pos hc] at ex
      cases ex
      intro ls H locs hr
      exact lv_if_ge hexec hb hd ht (fun q => absurd hc (Int32.not_lt.mpr q)) (fun _ => hk ls H locs (hr.tail (fun w hw => Or.inl (List.mem_cons_of_mem _ (hw)))))
    · rw [if_neg hc] at ex
      cases ex
      intro ls H locs hr
      exact lv_if_ge hexec hb hd ht (fun _ => hk ls H locs (hr.tail (fun w hw => Or.inl (List.mem_cons_of_mem _ (hw))))) (fun q => absurd (Int32.not_lt.mp hc) q)
  · cases ex
theorem hs_s_ifCond_gt {g : hs_G} {p : Program} {l : Launch} {e : Env} {R : Room} {s : State} {m : MethodId} {args : Array Value} {below : List Frame} {meth : Method} {c : Code} {cells slots own : Nat} {cc : ByteArray} {nL : Nat} {call : hs_C} {Q : State → Prop} (C : hs_Ctx g p l R s m args c cells slots own cc nL call) {off : Int} {pc n : Nat} {ops : List Nat} {mk : List Bool} {L : hs_L} {st : List hs_V} {μ : hs_M} {pc' : Nat} {L' : hs_L} {st' : List hs_V} {μ' : hs_M} (hd : decode cc pc = .ok (.ifCond .gt off, n)) (hok : hs_okr own pc (.ifCond .gt off, n, ops, mk) = true) (ex : hs_nx call (.ifCond .gt off, n, ops, mk) pc L st μ = some (.inl (pc', L', st', μ'))) (hk : hs_WS g p l e R s m args below meth c cells slots nL Q pc' L' st' μ') : hs_WS g p l e R s m args below meth c cells slots nL Q pc L st μ := by
  obtain ⟨hexec, hb, -⟩ := C
  simp only [hs_okr, Bool.and_eq_true] at hok
  have hn : n = 3 := Nat.eq_of_beq_eq_true hok.1
  subst hn
  have ht : (pc : Int) + off = (hs_tgt pc off : Int) := by simpa [hs_tok] using hok.2
  unfold hs_nx hs_step at ex
  dsimp only at ex
  split at ex
  · rename_i x st0
    by_cases hc : 0 < x
    · rw [if_pos hc] at ex
      cases ex
      intro ls H locs hr
      exact lv_if_gt hexec hb hd ht (fun _ => hk ls H locs (hr.tail (fun w hw => Or.inl (List.mem_cons_of_mem _ (hw))))) (fun q => absurd hc q)
    · rw [if_neg hc] at ex
      cases ex
      intro ls H locs hr
      exact lv_if_gt hexec hb hd ht (fun q => absurd q hc) (fun _ => hk ls H locs (hr.tail (fun w hw => Or.inl (List.mem_cons_of_mem _ (hw)))))
  · cases ex
theorem hs_s_ifCond_le {g : hs_G} {p : Program} {l : Launch} {e : Env} {R : Room} {s : State} {m : MethodId} {args : Array Value} {below : List Frame} {meth : Method} {c : Code} {cells slots own : Nat} {cc : ByteArray} {nL : Nat} {call : hs_C} {Q : State → Prop} (C : hs_Ctx g p l R s m args c cells slots own cc nL call) {off : Int} {pc n : Nat} {ops : List Nat} {mk : List Bool} {L : hs_L} {st : List hs_V} {μ : hs_M} {pc' : Nat} {L' : hs_L} {st' : List hs_V} {μ' : hs_M} (hd : decode cc pc = .ok (.ifCond .le off, n)) (hok : hs_okr own pc (.ifCond .le off, n, ops, mk) = true) (ex : hs_nx call (.ifCond .le off, n, ops, mk) pc L st μ = some (.inl (pc', L', st', μ'))) (hk : hs_WS g p l e R s m args below meth c cells slots nL Q pc' L' st' μ') : hs_WS g p l e R s m args below meth c cells slots nL Q pc L st μ := by
  obtain ⟨hexec, hb, -⟩ := C
  simp only [hs_okr, Bool.and_eq_true] at hok
  have hn : n = 3 := Nat.eq_of_beq_eq_true hok.1
  subst hn
  have ht : (pc : Int) + off = (hs_tgt pc off : Int) := by simpa [hs_tok] using hok.2
  unfold hs_nx hs_step at ex
  dsimp only at ex
  split at ex
  · rename_i x st0
    by_cases hc : 0 < x
    · rw [if_pos hc] at ex
      cases ex
      intro ls H locs hr
      exact lv_if_le hexec hb hd ht (fun q => absurd hc (Int32.not_lt.mpr q)) (fun _ => hk ls H locs (hr.tail (fun w hw => Or.inl (List.mem_cons_of_mem _ (hw)))))
    · rw [if_neg hc] at ex
      cases ex
      intro ls H locs hr
      exact lv_if_le hexec hb hd ht (fun _ => hk ls H locs (hr.tail (fun w hw => Or.inl (List.mem_cons_of_mem _ (hw))))) (fun q => absurd (Int32.not_lt.mp hc) q)
  · cases ex
theorem hs_s_if_icmp_eq {g : hs_G} {p : Program} {l : Launch} {e : Env} {R : Room} {s : State} {m : MethodId} {args : Array Value} {below : List Frame} {meth : Method} {c : Code} {cells slots own : Nat} {cc : ByteArray} {nL : Nat} {call : hs_C} {Q : State → Prop} (C : hs_Ctx g p l R s m args c cells slots own cc nL call) {off : Int} {pc n : Nat} {ops : List Nat} {mk : List Bool} {L : hs_L} {st : List hs_V} {μ : hs_M} {pc' : Nat} {L' : hs_L} {st' : List hs_V} {μ' : hs_M} (hd : decode cc pc = .ok (.if_icmp .eq off, n)) (hok : hs_okr own pc (.if_icmp .eq off, n, ops, mk) = true) (ex : hs_nx call (.if_icmp .eq off, n, ops, mk) pc L st μ = some (.inl (pc', L', st', μ'))) (hk : hs_WS g p l e R s m args below meth c cells slots nL Q pc' L' st' μ') : hs_WS g p l e R s m args below meth c cells slots nL Q pc L st μ := by
  obtain ⟨hexec, hb, -⟩ := C
  simp only [hs_okr, Bool.and_eq_true] at hok
  have hn : n = 3 := Nat.eq_of_beq_eq_true hok.1
  subst hn
  have ht : (pc : Int) + off = (hs_tgt pc off : Int) := by simpa [hs_tok] using hok.2
  unfold hs_nx hs_step at ex
  dsimp only at ex
  split at ex
  · rename_i y x st0
    by_cases hc : x = y
    · rw [if_pos hc] at ex
      cases ex
      intro ls H locs hr
      exact lv_icmp_eq hexec hb hd ht (fun _ => hk ls H locs (hr.tail (fun w hw => Or.inl (List.mem_cons_of_mem _ (List.mem_cons_of_mem _ (hw)))))) (fun q => absurd hc q)
    · rw [if_neg hc] at ex
      cases ex
      intro ls H locs hr
      exact lv_icmp_eq hexec hb hd ht (fun q => absurd q hc) (fun _ => hk ls H locs (hr.tail (fun w hw => Or.inl (List.mem_cons_of_mem _ (List.mem_cons_of_mem _ (hw))))))
  · cases ex
theorem hs_s_if_icmp_ne {g : hs_G} {p : Program} {l : Launch} {e : Env} {R : Room} {s : State} {m : MethodId} {args : Array Value} {below : List Frame} {meth : Method} {c : Code} {cells slots own : Nat} {cc : ByteArray} {nL : Nat} {call : hs_C} {Q : State → Prop} (C : hs_Ctx g p l R s m args c cells slots own cc nL call) {off : Int} {pc n : Nat} {ops : List Nat} {mk : List Bool} {L : hs_L} {st : List hs_V} {μ : hs_M} {pc' : Nat} {L' : hs_L} {st' : List hs_V} {μ' : hs_M} (hd : decode cc pc = .ok (.if_icmp .ne off, n)) (hok : hs_okr own pc (.if_icmp .ne off, n, ops, mk) = true) (ex : hs_nx call (.if_icmp .ne off, n, ops, mk) pc L st μ = some (.inl (pc', L', st', μ'))) (hk : hs_WS g p l e R s m args below meth c cells slots nL Q pc' L' st' μ') : hs_WS g p l e R s m args below meth c cells slots nL Q pc L st μ := by
  obtain ⟨hexec, hb, -⟩ := C
  simp only [hs_okr, Bool.and_eq_true] at hok
  have hn : n = 3 := Nat.eq_of_beq_eq_true hok.1
  subst hn
  have ht : (pc : Int) + off = (hs_tgt pc off : Int) := by simpa [hs_tok] using hok.2
  unfold hs_nx hs_step at ex
  dsimp only at ex
  split at ex
  · rename_i y x st0
    by_cases hc : x = y
    · rw [if_pos hc] at ex
      cases ex
      intro ls H locs hr
      exact lv_icmp_ne hexec hb hd ht (fun q => absurd hc q) (fun _ => hk ls H locs (hr.tail (fun w hw => Or.inl (List.mem_cons_of_mem _ (List.mem_cons_of_mem _ (hw))))))
    · rw [if_neg hc] at ex
      cases ex
      intro ls H locs hr
      exact lv_icmp_ne hexec hb hd ht (fun _ => hk ls H locs (hr.tail (fun w hw => Or.inl (List.mem_cons_of_mem _ (List.mem_cons_of_mem _ (hw)))))) (fun q => absurd q hc)
  · cases ex
theorem hs_s_if_icmp_lt {g : hs_G} {p : Program} {l : Launch} {e : Env} {R : Room} {s : State} {m : MethodId} {args : Array Value} {below : List Frame} {meth : Method} {c : Code} {cells slots own : Nat} {cc : ByteArray} {nL : Nat} {call : hs_C} {Q : State → Prop} (C : hs_Ctx g p l R s m args c cells slots own cc nL call) {off : Int} {pc n : Nat} {ops : List Nat} {mk : List Bool} {L : hs_L} {st : List hs_V} {μ : hs_M} {pc' : Nat} {L' : hs_L} {st' : List hs_V} {μ' : hs_M} (hd : decode cc pc = .ok (.if_icmp .lt off, n)) (hok : hs_okr own pc (.if_icmp .lt off, n, ops, mk) = true) (ex : hs_nx call (.if_icmp .lt off, n, ops, mk) pc L st μ = some (.inl (pc', L', st', μ'))) (hk : hs_WS g p l e R s m args below meth c cells slots nL Q pc' L' st' μ') : hs_WS g p l e R s m args below meth c cells slots nL Q pc L st μ := by
  obtain ⟨hexec, hb, -⟩ := C
  simp only [hs_okr, Bool.and_eq_true] at hok
  have hn : n = 3 := Nat.eq_of_beq_eq_true hok.1
  subst hn
  have ht : (pc : Int) + off = (hs_tgt pc off : Int) := by simpa [hs_tok] using hok.2
  unfold hs_nx hs_step at ex
  dsimp only at ex
  split at ex
  · rename_i y x st0
    by_cases hc : x < y
    · rw [if_pos hc] at ex
      cases ex
      intro ls H locs hr
      exact lv_icmp_lt hexec hb hd ht (fun _ => hk ls H locs (hr.tail (fun w hw => Or.inl (List.mem_cons_of_mem _ (List.mem_cons_of_mem _ (hw)))))) (fun q => absurd hc q)
    · rw [if_neg hc] at ex
      cases ex
      intro ls H locs hr
      exact lv_icmp_lt hexec hb hd ht (fun q => absurd q hc) (fun _ => hk ls H locs (hr.tail (fun w hw => Or.inl (List.mem_cons_of_mem _ (List.mem_cons_of_mem _ (hw))))))
  · cases ex
theorem hs_s_if_icmp_ge {g : hs_G} {p : Program} {l : Launch} {e : Env} {R : Room} {s : State} {m : MethodId} {args : Array Value} {below : List Frame} {meth : Method} {c : Code} {cells slots own : Nat} {cc : ByteArray} {nL : Nat} {call : hs_C} {Q : State → Prop} (C : hs_Ctx g p l R s m args c cells slots own cc nL call) {off : Int} {pc n : Nat} {ops : List Nat} {mk : List Bool} {L : hs_L} {st : List hs_V} {μ : hs_M} {pc' : Nat} {L' : hs_L} {st' : List hs_V} {μ' : hs_M} (hd : decode cc pc = .ok (.if_icmp .ge off, n)) (hok : hs_okr own pc (.if_icmp .ge off, n, ops, mk) = true) (ex : hs_nx call (.if_icmp .ge off, n, ops, mk) pc L st μ = some (.inl (pc', L', st', μ'))) (hk : hs_WS g p l e R s m args below meth c cells slots nL Q pc' L' st' μ') : hs_WS g p l e R s m args below meth c cells slots nL Q pc L st μ := by
  obtain ⟨hexec, hb, -⟩ := C
  simp only [hs_okr, Bool.and_eq_true] at hok
  have hn : n = 3 := Nat.eq_of_beq_eq_true hok.1
  subst hn
  have ht : (pc : Int) + off = (hs_tgt pc off : Int) := by simpa [hs_tok] using hok.2
  unfold hs_nx hs_step at ex
  dsimp only at ex
  split at ex
  · rename_i y x st0
    by_cases hc : x < y
    · rw [if_pos hc] at ex
      cases ex
      intro ls H locs hr
      exact lv_icmp_ge hexec hb hd ht (fun q => absurd hc (Int32.not_lt.mpr q)) (fun _ => hk ls H locs (hr.tail (fun w hw => Or.inl (List.mem_cons_of_mem _ (List.mem_cons_of_mem _ (hw))))))
    · rw [if_neg hc] at ex
      cases ex
      intro ls H locs hr
      exact lv_icmp_ge hexec hb hd ht (fun _ => hk ls H locs (hr.tail (fun w hw => Or.inl (List.mem_cons_of_mem _ (List.mem_cons_of_mem _ (hw)))))) (fun q => absurd (Int32.not_lt.mp hc) q)
  · cases ex
theorem hs_s_if_icmp_gt {g : hs_G} {p : Program} {l : Launch} {e : Env} {R : Room} {s : State} {m : MethodId} {args : Array Value} {below : List Frame} {meth : Method} {c : Code} {cells slots own : Nat} {cc : ByteArray} {nL : Nat} {call : hs_C} {Q : State → Prop} (C : hs_Ctx g p l R s m args c cells slots own cc nL call) {off : Int} {pc n : Nat} {ops : List Nat} {mk : List Bool} {L : hs_L} {st : List hs_V} {μ : hs_M} {pc' : Nat} {L' : hs_L} {st' : List hs_V} {μ' : hs_M} (hd : decode cc pc = .ok (.if_icmp .gt off, n)) (hok : hs_okr own pc (.if_icmp .gt off, n, ops, mk) = true) (ex : hs_nx call (.if_icmp .gt off, n, ops, mk) pc L st μ = some (.inl (pc', L', st', μ'))) (hk : hs_WS g p l e R s m args below meth c cells slots nL Q pc' L' st' μ') : hs_WS g p l e R s m args below meth c cells slots nL Q pc L st μ := by
  obtain ⟨hexec, hb, -⟩ := C
  simp only [hs_okr, Bool.and_eq_true] at hok
  have hn : n = 3 := Nat.eq_of_beq_eq_true hok.1
  subst hn
  have ht : (pc : Int) + off = (hs_tgt pc off : Int) := by simpa [hs_tok] using hok.2
  unfold hs_nx hs_step at ex
  dsimp only at ex
  split at ex
  · rename_i y x st0
    by_cases hc : y < x
    · rw [if_pos hc] at ex
      cases ex
      intro ls H locs hr
      exact lv_icmp_gt hexec hb hd ht (fun _ => hk ls H locs (hr.tail (fun w hw => Or.inl (List.mem_cons_of_mem _ (List.mem_cons_of_mem _ (hw)))))) (fun q => absurd hc q)
    · rw [if_neg hc] at ex
      cases ex
      intro ls H locs hr
      exact lv_icmp_gt hexec hb hd ht (fun q => absurd q hc) (fun _ => hk ls H locs (hr.tail (fun w hw => Or.inl (List.mem_cons_of_mem _ (List.mem_cons_of_mem _ (hw))))))
  · cases ex
theorem hs_s_if_icmp_le {g : hs_G} {p : Program} {l : Launch} {e : Env} {R : Room} {s : State} {m : MethodId} {args : Array Value} {below : List Frame} {meth : Method} {c : Code} {cells slots own : Nat} {cc : ByteArray} {nL : Nat} {call : hs_C} {Q : State → Prop} (C : hs_Ctx g p l R s m args c cells slots own cc nL call) {off : Int} {pc n : Nat} {ops : List Nat} {mk : List Bool} {L : hs_L} {st : List hs_V} {μ : hs_M} {pc' : Nat} {L' : hs_L} {st' : List hs_V} {μ' : hs_M} (hd : decode cc pc = .ok (.if_icmp .le off, n)) (hok : hs_okr own pc (.if_icmp .le off, n, ops, mk) = true) (ex : hs_nx call (.if_icmp .le off, n, ops, mk) pc L st μ = some (.inl (pc', L', st', μ'))) (hk : hs_WS g p l e R s m args below meth c cells slots nL Q pc' L' st' μ') : hs_WS g p l e R s m args below meth c cells slots nL Q pc L st μ := by
  obtain ⟨hexec, hb, -⟩ := C
  simp only [hs_okr, Bool.and_eq_true] at hok
  have hn : n = 3 := Nat.eq_of_beq_eq_true hok.1
  subst hn
  have ht : (pc : Int) + off = (hs_tgt pc off : Int) := by simpa [hs_tok] using hok.2
  unfold hs_nx hs_step at ex
  dsimp only at ex
  split at ex
  · rename_i y x st0
    by_cases hc : y < x
    · rw [if_pos hc] at ex
      cases ex
      intro ls H locs hr
      exact lv_icmp_le hexec hb hd ht (fun q => absurd hc (Int32.not_lt.mpr q)) (fun _ => hk ls H locs (hr.tail (fun w hw => Or.inl (List.mem_cons_of_mem _ (List.mem_cons_of_mem _ (hw))))))
    · rw [if_neg hc] at ex
      cases ex
      intro ls H locs hr
      exact lv_icmp_le hexec hb hd ht (fun _ => hk ls H locs (hr.tail (fun w hw => Or.inl (List.mem_cons_of_mem _ (List.mem_cons_of_mem _ (hw)))))) (fun q => absurd (Int32.not_lt.mp hc) q)
  · cases ex
end
