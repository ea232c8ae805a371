section
/-! ===== THE MACHINE: a pure interpreter of the bytecode over an abstract memory ===== -/
abbrev hs_V : Type := Int32 ⊕ (Int64 ⊕ (Nat × Nat))
abbrev hs_M : Type := (Nat → Nat → Nat → Int32) × (Nat → Nat → Nat → Int64)
abbrev hs_L : Type := List (Option hs_V)
abbrev hs_T (ρ : Type) : Type := Nat → hs_L → List hs_V → hs_M → Option ρ
/-- an instruction, its length, what its operands say, the mask of the locals that are used from here on -/
abbrev hs_R : Type := Instr × (Nat × (List Nat × List Bool))
abbrev hs_K : Type := List (List (Option hs_R))
abbrev hs_C : Type := Nat → List hs_V → hs_M → Option (Option hs_V × hs_M)
abbrev vI (x : Int32) : hs_V := .inl x
abbrev vL (x : Int64) : hs_V := .inr (.inl x)
abbrev vR (k j : Nat) : hs_V := .inr (.inr (k, j))
def hs_nth {α : Type} : List α → Nat → Option α
  | [], _ => none
  | a :: _, 0 => some a
  | _ :: l, n + 1 => hs_nth l n
def hs_at (code : hs_K) (pc : Nat) : Option hs_R :=
  match hs_nth code (pc / 16) with
  | some l => (match hs_nth l (pc % 16) with
    | some r => r
    | none => none)
  | none => none
def hs_wI (μ : hs_M) (κ j i : Nat) (v : Int32) : hs_M := (fun a b c => if a = κ ∧ c = i ∧ b = j then v else μ.1 a b c, μ.2)
def hs_wL (μ : hs_M) (κ j i : Nat) (v : Int64) : hs_M := (μ.1, fun a b c => if a = κ ∧ c = i ∧ b = j then v else μ.2 a b c)
/-- System.arraycopy of ints -/
def hs_cp (μ : hs_M) (κ j sp κ' j' dp n : Nat) : hs_M := (fun a b c => if a = κ' ∧ b = j' ∧ dp ≤ c ∧ c < dp + n then μ.1 κ j (sp + (c - dp)) else μ.1 a b c, μ.2)
def hs_in (i : Int32) (n : Nat) : Bool := decide (0 ≤ i) && decide (i.toNatClampNeg < n)
def hs_cok (sp dp n : Int32) (a b : Nat) : Bool := decide (0 ≤ sp) && (decide (0 ≤ dp) && (decide (0 ≤ n) && (decide (sp.toNatClampNeg + n.toNatClampNeg ≤ a) && decide (dp.toNatClampNeg + n.toNatClampNeg ≤ b))))
def hs_isL : Option hs_V → Bool
  | some (.inr (.inl _)) => true
  | _ => false
def hs_cl (b : Bool) (a : Option hs_V) : Option hs_V := match b with
  | true => none
  | false => a
/-- a local of one slot is written: a long that stands before it or at it is gone -/
def hs_set1 {ρ : Type} : hs_L → Nat → hs_V → (hs_L → Option ρ) → Option ρ
  | [], _, _, _ => none
  | _ :: l, 0, v, K => K (some v :: l)
  | a :: l, n + 1, v, K => hs_set1 l n v (fun l' => match n with
    | 0 => K (hs_cl (hs_isL a) a :: l')
    | _ + 1 => K (a :: l'))
/-- a long is written -/
def hs_set2 {ρ : Type} : hs_L → Nat → hs_V → (hs_L → Option ρ) → Option ρ
  | [], _, _, _ => none
  | [_], _, _, _ => none
  | _ :: _ :: l, 0, v, K => K (some v :: none :: l)
  | a :: b :: l, n + 1, v, K => hs_set2 (b :: l) n v (fun l' => match n with
    | 0 => K (hs_cl (hs_isL a) a :: l')
    | _ + 1 => K (a :: l'))
def hs_mask : List Bool → hs_L → hs_L
  | [], l => l
  | _ :: _, [] => []
  | true :: m, a :: l => a :: hs_mask m l
  | false :: m, _ :: l => none :: hs_mask m l
def hs_cat : hs_V → Nat
  | .inr (.inl _) => 2
  | _ => 1
def hs_cats : List hs_V → Nat
  | [] => 0
  | v :: l => hs_cat v + hs_cats l
def hs_tgt (pc : Nat) (off : Int) : Nat := ((pc : Int) + off).toNat
def hs_ic (n : Int) : Int32 := match n with
  | .ofNat n => Int32.ofNat n
  | .negSucc n => -(Int32.ofNat (n + 1))
def hs_tsw {ρ : Type} (x : Int32) (pc : Nat) (dflt : Int) (k : Nat → Option ρ) : Int → List Int → Option ρ
  | _, [] => k (hs_tgt pc dflt)
  | v, off :: l => if x = hs_ic v then k (hs_tgt pc off) else hs_tsw x pc dflt k (v + 1) l
def hs_lsw {ρ : Type} (x : Int32) (pc : Nat) (dflt : Int) (k : Nat → Option ρ) : List (Int × Int) → Option ρ
  | [] => k (hs_tgt pc dflt)
  | q :: l => if x = hs_ic q.1 then k (hs_tgt pc q.2) else hs_lsw x pc dflt k l
def hs_bI {ρ : Type} (r : Option (Option hs_V × hs_M)) (k : Int32 → hs_M → Option ρ) : Option ρ :=
  match r with
  | some (some (.inl v), μ) => k v μ
  | _ => none
def hs_bL {ρ : Type} (r : Option (Option hs_V × hs_M)) (k : Int64 → hs_M → Option ρ) : Option ρ :=
  match r with
  | some (some (.inr (.inl v)), μ) => k v μ
  | _ => none
def hs_bV {ρ : Type} (r : Option (Option hs_V × hs_M)) (k : hs_M → Option ρ) : Option ρ :=
  match r with
  | some (none, μ) => k μ
  | _ => none
def hs_gI {ρ : Type} (o : Option (Option hs_V)) (k : Int32 → Option ρ) : Option ρ :=
  match o with
  | some (some (.inl x)) => k x
  | _ => none
def hs_gL {ρ : Type} (o : Option (Option hs_V)) (k : Int64 → Option ρ) : Option ρ :=
  match o with
  | some (some (.inr (.inl x))) => k x
  | _ => none
def hs_gR {ρ : Type} (o : Option (Option hs_V)) (k : Nat → Nat → Option ρ) : Option ρ :=
  match o with
  | some (some (.inr (.inr q))) => k q.1 q.2
  | _ => none
/-- the arguments of a call, off the stack -/
def hs_pop {ρ : Type} : Nat → List hs_V → List hs_V → (List hs_V → List hs_V → Option ρ) → Option ρ
  | 0, st, as, K => K as st
  | _ + 1, [], _, _ => none
  | n + 1, v :: st, as, K => hs_pop n st (v :: as) K
def hs_go8 {ρ : Type} (st : List hs_V) (r : Option ρ) : Option ρ := match Nat.ble (hs_cats st) 8 with
  | true => r
  | false => none
def hs_if {ρ : Type} (b : Bool) (r : Option ρ) : Option ρ := match b with
  | true => r
  | false => none
def hs_akind (κ : Nat) : Nat := (hs_nth [9, 9, 9, 9, 9, 9, 9, 9, 9, 9, 9, 9, 9, 0, 1, 0, 0, 0, 0, 0, 0, 0, 0, 0, 0, 0, 0, 0, 0, 0, 3, 3, 0, 0, 0, 3, 0, 1, 1, 0, 1, 0, 0, 0, 0, 0, 0, 0, 0, 0, 0, 0, 0, 0, 0, 0, 0, 0, 0, 0, 0, 0, 0, 1, 1, 0, 2, 0, 0, 1, 0] κ).getD 9
def hs_len0 (κ : Nat) : Nat := (hs_nth [0, 0, 0, 0, 0, 0, 0, 0, 0, 0, 0, 0, 0, 80, 16, 8, 8, 8, 48, 8, 6, 40, 40, 40, 8, 8, 12, 12, 12, 60, 20, 3, 3, 12, 12, 11, 8, 9, 9, 61, 24, 8, 8, 48, 8, 117, 117, 80, 8, 8, 54, 9, 80, 80, 80, 2340, 61, 8, 8, 12, 12, 10, 10, 9, 9, 117, 3, 3, 351, 1, 0] κ).getD 0
/-- how long an array is; of the two pairs the second is shorter; the script says it itself -/
def hs_len (μ : hs_M) (κ j : Nat) : Nat := match Nat.beq κ 33 || Nat.beq κ 34 with
  | true => (match j with
    | 0 => 12
    | _ => 10)
  | false => (match Nat.beq κ 70 with
    | true => (μ.1 70 1 0).toNatClampNeg
    | false => hs_len0 κ)
def hs_wr (κ : Nat) : Bool := !(Nat.beq κ 70)
def hs_base (κ : Nat) : Nat := (hs_nth [0, 0, 0, 0, 0, 0, 0, 0, 0, 0, 0, 0, 0, 0, 0, 0, 0, 0, 0, 0, 0, 0, 0, 0, 0, 0, 0, 0, 0, 0, 1, 21, 0, 0, 0, 24] κ).getD 0
def hs_fld (κ : Nat) : List (Option (Nat × Nat × Nat)) := (hs_nth [[some (6, 0, 0), some (8, 0, 0), some (1, 0, 0), some (4, 0, 0), some (35, 0, 0), some (6, 0, 35), some (36, 0, 0), some (37, 0, 0), some (38, 0, 0), none, none, none, none],
  [some (8, 0, 0), some (10, 0, 0), some (5, 0, 0)],
  [some (33, 1, 0), some (34, 1, 0), none],
  [some (30, 0, 0), some (31, 0, 0), some (32, 0, 0), none, none],
  [some (14, 0, 0), none],
  [none, none, none, none],
  [none, none, none, none, none, none, none, some (24, 1, 0), some (25, 1, 0), some (26, 1, 0), some (27, 1, 0), some (28, 1, 0), some (29, 1, 0)],
  [some (13, 0, 0), none, none],
  [some (15, 0, 0), some (16, 0, 0), some (17, 0, 0), some (18, 0, 0), some (19, 0, 0), some (20, 0, 0), none, none, none, none],
  [some (6, 0, 0), some (8, 0, 0), some (1, 0, 0), some (4, 0, 0), some (6, 0, 36), some (39, 0, 0), none],
  [some (21, 0, 0), some (22, 0, 0), some (23, 0, 0), none, none, none],
  [some (7, 0, 0), some (4, 0, 0), some (8, 0, 0), some (10, 0, 0), some (5, 0, 0), some (6, 0, 0), some (3, 0, 0), some (2, 0, 0), some (2, 0, 1), some (1, 0, 0), some (0, 0, 0), some (9, 0, 0)],
  [none, none, some (40, 0, 0), none, some (41, 0, 0), some (42, 0, 0), some (43, 0, 0), some (44, 0, 0), none, none, some (45, 0, 0), some (46, 0, 0), some (47, 0, 0), none, none, none, none, some (48, 0, 0), some (49, 0, 0), some (50, 0, 0), some (51, 0, 0), none, some (52, 0, 0), some (53, 0, 0), none, none, some (54, 0, 0), none, none, some (55, 0, 0), some (56, 0, 0), none, some (57, 0, 0), some (58, 0, 0), none, some (59, 0, 0), some (60, 0, 0), none, some (61, 0, 0), some (62, 0, 0), some (63, 0, 0), some (64, 0, 0), some (65, 0, 0), some (66, 0, 0), some (67, 0, 0), some (68, 0, 0)]] κ).getD []
def hs_texts : List (List Nat) := [[43, 45], [48, 49, 50, 51], [105, 119, 112, 118, 113, 115, 116, 111, 110], [60, 62, 61], [42, 47]]
abbrev hz_n : Option hs_R := none
abbrev hz_r (i : Instr) (n : Nat) : Option hs_R := some (i, n, [], [])
abbrev hz_m (i : Instr) (n : Nat) (o : List Nat) (m : List Bool) : Option hs_R := some (i, n, o, m)
/-- a call: 0 nothing comes back, 1 an int, 2 a long -/
def hs_inv {ρ : Type} (call : hs_C) (k : hs_T ρ) (ops : List Nat) (pc : Nat) (ls : hs_L) (st : List hs_V) (μ : hs_M) : Option ρ :=
  match ops with
  | [y, n, 0] => hs_pop n st [] (fun as st' => hs_go8 st' (hs_bV (call y as μ) (fun μ' => k (pc + 3) ls st' μ')))
  | [y, n, 1] => hs_pop n st [] (fun as st' => hs_go8 st' (hs_bI (call y as μ) (fun x μ' => k (pc + 3) ls (vI x :: st') μ')))
  | [y, n, 2] => hs_pop n st [] (fun as st' => hs_go8 st' (hs_bL (call y as μ) (fun x μ' => k (pc + 3) ls (vL x :: st') μ')))
  | [_] => (match st with
    | .inl n :: .inl dp :: .inr (.inr (κ', j')) :: .inl sp :: .inr (.inr (κ, j)) :: st' =>
      hs_if (Nat.beq (hs_akind κ) 0 && (Nat.beq (hs_akind κ') 0 && Nat.ble (hs_cats st') 8)) (if hs_cok sp dp n (hs_len μ κ j) (hs_len μ κ' j') then k (pc + 3) ls st' (hs_cp μ κ j sp.toNatClampNeg κ' j' dp.toNatClampNeg n.toNatClampNeg) else none)
    | _ => none)
  | _ => none
/-- a text constant's own calls: its length, its signs -/
def hs_txt {ρ : Type} (k : hs_T ρ) (ops : List Nat) (pc : Nat) (ls : hs_L) (st : List hs_V) (μ : hs_M) : Option ρ :=
  match ops, st with
  | [_, 0], .inr (.inr (κ, j)) :: st' => hs_if (Nat.beq κ 90 && Nat.ble (hs_cats st') 8) (match hs_nth hs_texts j with
    | some l => k (pc + 3) ls (vI (Int32.ofNat l.length) :: st') μ
    | none => none)
  | [_, 1], .inl i :: .inr (.inr (κ, j)) :: st' => hs_if (Nat.beq κ 90 && Nat.ble (hs_cats st') 8) (match hs_nth hs_texts j with
    | some l => if hs_in i l.length then k (pc + 3) ls (vI (Int32.ofNat (l.getD i.toNatClampNeg 0)) :: st') μ else none
    | none => none)
  | _, _ => none
def hs_step {ρ : Type} (call : hs_C) (k done : hs_T ρ) (r : hs_R) (pc : Nat) (ls : hs_L) (st : List hs_V) (μ : hs_M) : Option ρ :=
  match r.1 with
  | .iload i => hs_gI (hs_nth ls i) (fun x => k (pc + 2) ls (vI x :: st) μ)
  | .iload_n i => hs_gI (hs_nth ls i.val) (fun x => k (pc + 1) ls (vI x :: st) μ)
  | .lload i => hs_gL (hs_nth ls i) (fun x => k (pc + 2) ls (vL x :: st) μ)
  | .lload_n i => hs_gL (hs_nth ls i.val) (fun x => k (pc + 1) ls (vL x :: st) μ)
  | .aload i => hs_gR (hs_nth ls i) (fun κ j => k (pc + 2) ls (vR κ j :: st) μ)
  | .aload_n i => hs_gR (hs_nth ls i.val) (fun κ j => k (pc + 1) ls (vR κ j :: st) μ)
  | .istore i => (match st with
    | .inl x :: st' => hs_set1 ls i (vI x) (fun ls' => k (pc + 2) ls' st' μ)
    | _ => none)
  | .istore_n i => (match st with
    | .inl x :: st' => hs_set1 ls i.val (vI x) (fun ls' => k (pc + 1) ls' st' μ)
    | _ => none)
  | .lstore i => (match st with
    | .inr (.inl x) :: st' => hs_set2 ls i (vL x) (fun ls' => k (pc + 2) ls' st' μ)
    | _ => none)
  | .lstore_n i => (match st with
    | .inr (.inl x) :: st' => hs_set2 ls i.val (vL x) (fun ls' => k (pc + 1) ls' st' μ)
    | _ => none)
  | .astore i => (match st with
    | .inr (.inr (κ, j)) :: st' => hs_set1 ls i (vR κ j) (fun ls' => k (pc + 2) ls' st' μ)
    | _ => none)
  | .astore_n i => (match st with
    | .inr (.inr (κ, j)) :: st' => hs_set1 ls i.val (vR κ j) (fun ls' => k (pc + 1) ls' st' μ)
    | _ => none)
  | .iinc i n => hs_gI (hs_nth ls i) (fun x => hs_set1 ls i (vI (x + hs_ic n)) (fun ls' => k (pc + 3) ls' st μ))
  | .iconst n => k (pc + 1) ls (vI (hs_ic n) :: st) μ
  | .bipush n => k (pc + 2) ls (vI (hs_ic n) :: st) μ
  | .sipush n => k (pc + 3) ls (vI (hs_ic n) :: st) μ
  | .lconst n => k (pc + 1) ls (vL (Int64.ofNat n.val) :: st) μ
  | .ldc _ => (match r.2.2.1 with
    | [0, n] => k (pc + 2) ls (vI (Int32.ofNat n) :: st) μ
    | [1, n] => k (pc + 2) ls (vR 90 n :: st) μ
    | _ => none)
  | .ldc_w _ => (match r.2.2.1 with
    | [0, n] => k (pc + 3) ls (vI (Int32.ofNat n) :: st) μ
    | _ => none)
  | .ldc2_w _ => (match r.2.2.1 with
    | [0, n] => k (pc + 3) ls (vL (Int64.ofNat n) :: st) μ
    | [1, n] => k (pc + 3) ls (vL (-(Int64.ofNat n)) :: st) μ
    | _ => none)
  | .iadd => (match st with
    | .inl y :: .inl x :: st' => k (pc + 1) ls (vI (x + y) :: st') μ
    | _ => none)
  | .isub => (match st with
    | .inl y :: .inl x :: st' => k (pc + 1) ls (vI (x - y) :: st') μ
    | _ => none)
  | .imul => (match st with
    | .inl y :: .inl x :: st' => k (pc + 1) ls (vI (x * y) :: st') μ
    | _ => none)
  | .idiv => (match st with
    | .inl y :: .inl x :: st' => if y = 0 then none else k (pc + 1) ls (vI (x / y) :: st') μ
    | _ => none)
  | .irem => (match st with
    | .inl y :: .inl x :: st' => if y = 0 then none else k (pc + 1) ls (vI (x - x / y * y) :: st') μ
    | _ => none)
  | .ineg => (match st with
    | .inl x :: st' => k (pc + 1) ls (vI (-x) :: st') μ
    | _ => none)
  | .iand => (match st with
    | .inl y :: .inl x :: st' => k (pc + 1) ls (vI (x &&& y) :: st') μ
    | _ => none)
  | .ior => (match st with
    | .inl y :: .inl x :: st' => k (pc + 1) ls (vI (x ||| y) :: st') μ
    | _ => none)
  | .ixor => (match st with
    | .inl y :: .inl x :: st' => k (pc + 1) ls (vI (x ^^^ y) :: st') μ
    | _ => none)
  | .ishl => (match st with
    | .inl y :: .inl x :: st' => k (pc + 1) ls (vI (x <<< (y &&& 31)) :: st') μ
    | _ => none)
  | .ishr => (match st with
    | .inl y :: .inl x :: st' => k (pc + 1) ls (vI (x >>> (y &&& 31)) :: st') μ
    | _ => none)
  | .iushr => (match st with
    | .inl y :: .inl x :: st' => k (pc + 1) ls (vI ((x.toUInt32 >>> (y.toUInt32 &&& Int32.toUInt32 31)).toInt32) :: st') μ
    | _ => none)
  | .i2l => (match st with
    | .inl x :: st' => k (pc + 1) ls (vL x.toInt64 :: st') μ
    | _ => none)
  | .i2b => (match st with
    | .inl x :: st' => k (pc + 1) ls (vI x.toInt8.toInt32 :: st') μ
    | _ => none)
  | .i2s => (match st with
    | .inl x :: st' => k (pc + 1) ls (vI x.toInt16.toInt32 :: st') μ
    | _ => none)
  | .ladd => (match st with
    | .inr (.inl y) :: .inr (.inl x) :: st' => k (pc + 1) ls (vL (x + y) :: st') μ
    | _ => none)
  | .lmul => (match st with
    | .inr (.inl y) :: .inr (.inl x) :: st' => k (pc + 1) ls (vL (x * y) :: st') μ
    | _ => none)
  | .ldiv => (match st with
    | .inr (.inl y) :: .inr (.inl x) :: st' => if y = 0 then none else k (pc + 1) ls (vL (x / y) :: st') μ
    | _ => none)
  | .lrem => (match st with
    | .inr (.inl y) :: .inr (.inl x) :: st' => if y = 0 then none else k (pc + 1) ls (vL (x - x / y * y) :: st') μ
    | _ => none)
  | .lcmp => (match st with
    | .inr (.inl y) :: .inr (.inl x) :: st' => k (pc + 1) ls (vI (lg_cmp x y) :: st') μ
    | _ => none)
  | .dup => (match st with
    | .inl x :: st' => k (pc + 1) ls (vI x :: vI x :: st') μ
    | .inr (.inr (κ, j)) :: st' => k (pc + 1) ls (vR κ j :: vR κ j :: st') μ
    | _ => none)
  | .dup2 => (match st with
    | .inl x :: .inr (.inr (κ, j)) :: st' => k (pc + 1) ls (vI x :: vR κ j :: vI x :: vR κ j :: st') μ
    | _ => none)
  | .pop => (match st with
    | .inl _ :: st' => k (pc + 1) ls st' μ
    | _ => none)
  | .goto off => (match r.2.2.1 with
    | [] => k (hs_tgt pc off) ls st μ
    | _ => done pc ls st μ)
  | .ifCond c off => (match st with
    | .inl x :: st' => (match c with
      | .eq => if x = 0 then k (hs_tgt pc off) ls st' μ else k (pc + 3) ls st' μ
      | .ne => if x = 0 then k (pc + 3) ls st' μ else k (hs_tgt pc off) ls st' μ
      | .lt => if x < 0 then k (hs_tgt pc off) ls st' μ else k (pc + 3) ls st' μ
      | .ge => if x < 0 then k (pc + 3) ls st' μ else k (hs_tgt pc off) ls st' μ
      | .gt => if 0 < x then k (hs_tgt pc off) ls st' μ else k (pc + 3) ls st' μ
      | .le => if 0 < x then k (pc + 3) ls st' μ else k (hs_tgt pc off) ls st' μ)
    | _ => none)
  | .if_icmp c off => (match st with
    | .inl y :: .inl x :: st' => (match c with
      | .eq => if x = y then k (hs_tgt pc off) ls st' μ else k (pc + 3) ls st' μ
      | .ne => if x = y then k (pc + 3) ls st' μ else k (hs_tgt pc off) ls st' μ
      | .lt => if x < y then k (hs_tgt pc off) ls st' μ else k (pc + 3) ls st' μ
      | .ge => if x < y then k (pc + 3) ls st' μ else k (hs_tgt pc off) ls st' μ
      | .gt => if y < x then k (hs_tgt pc off) ls st' μ else k (pc + 3) ls st' μ
      | .le => if y < x then k (pc + 3) ls st' μ else k (hs_tgt pc off) ls st' μ)
    | _ => none)
  | .tableswitch dflt lo _ offs => (match st with
    | .inl x :: st' => hs_tsw x pc dflt (fun t => k t ls st' μ) lo offs.toList
    | _ => none)
  | .lookupswitch dflt ps => (match st with
    | .inl x :: st' => hs_lsw x pc dflt (fun t => k t ls st' μ) ps.toList
    | _ => none)
  | .getfield _ => (match r.2.2.1, st with
    | [ci, f], .inr (.inr (κ, j)) :: st' => hs_if (Nat.beq κ ci) (match hs_nth (hs_fld κ) f with
      | some none => k (pc + 3) ls (vI (μ.1 κ j f) :: st') μ
      | some (some (κ', 0, b)) => k (pc + 3) ls (vR κ' b :: st') μ
      | some (some (κ', _ + 1, b)) => k (pc + 3) ls (vR κ' (j + b) :: st') μ
      | none => none)
    | _, _ => none)
  | .putfield _ => (match r.2.2.1, st with
    | [ci, f], .inl v :: .inr (.inr (κ, j)) :: st' => hs_if (Nat.beq κ ci) (match hs_nth (hs_fld κ) f with
      | some none => k (pc + 3) ls st' (hs_wI μ κ j f v)
      | _ => none)
    | _, _ => none)
  | .iaload => (match st with
    | .inl i :: .inr (.inr (κ, j)) :: st' => hs_if (Nat.beq (hs_akind κ) 0) (if hs_in i (hs_len μ κ j) then k (pc + 1) ls (vI (μ.1 κ j i.toNatClampNeg) :: st') μ else none)
    | _ => none)
  | .iastore => (match st with
    | .inl v :: .inl i :: .inr (.inr (κ, j)) :: st' => hs_if (Nat.beq (hs_akind κ) 0 && hs_wr κ) (if hs_in i (hs_len μ κ j) then k (pc + 1) ls st' (hs_wI μ κ j i.toNatClampNeg v) else none)
    | _ => none)
  | .baload => (match st with
    | .inl i :: .inr (.inr (κ, j)) :: st' => hs_if (Nat.beq (hs_akind κ) 2) (if hs_in i (hs_len μ κ j) then k (pc + 1) ls (vI (μ.1 κ j i.toNatClampNeg) :: st') μ else none)
    | _ => none)
  | .bastore => (match st with
    | .inl v :: .inl i :: .inr (.inr (κ, j)) :: st' => hs_if (Nat.beq (hs_akind κ) 2) (if hs_in i (hs_len μ κ j) then k (pc + 1) ls st' (hs_wI μ κ j i.toNatClampNeg (v &&& 1)) else none)
    | _ => none)
  | .laload => (match st with
    | .inl i :: .inr (.inr (κ, j)) :: st' => hs_if (Nat.beq (hs_akind κ) 1) (if hs_in i (hs_len μ κ j) then k (pc + 1) ls (vL (μ.2 κ j i.toNatClampNeg) :: st') μ else none)
    | _ => none)
  | .lastore => (match st with
    | .inr (.inl v) :: .inl i :: .inr (.inr (κ, j)) :: st' => hs_if (Nat.beq (hs_akind κ) 1) (if hs_in i (hs_len μ κ j) then k (pc + 1) ls st' (hs_wL μ κ j i.toNatClampNeg v) else none)
    | _ => none)
  | .aaload => (match st with
    | .inl i :: .inr (.inr (κ, j)) :: st' => hs_if (Nat.beq (hs_akind κ) 3) (if hs_in i (hs_len μ κ j) then k (pc + 1) ls (vR 6 (hs_base κ + i.toNatClampNeg) :: st') μ else none)
    | _ => none)
  | .arraylength => (match st with
    | .inr (.inr (κ, j)) :: st' => hs_if (Nat.ble 13 κ && Nat.blt κ 90) (k (pc + 1) ls (vI (Int32.ofNat (hs_len μ κ j)) :: st') μ)
    | _ => none)
  | .invokevirtual _ => (match r.2.2.1 with
    | [a, b] => hs_txt k [a, b] pc ls st μ
    | ops => hs_inv call k ops pc ls st μ)
  | .invokestatic _ => hs_inv call k r.2.2.1 pc ls st μ
  | .ireturn => done pc ls st μ
  | .lreturn => done pc ls st μ
  | .return_ => done pc ls st μ
  | .new _ => done pc ls st μ
  | _ => none
end
section
/-! ===== the code rows of the methods, 1 ===== -/
/-- java/lang/Integer.bitCount(I)I -/
def hs_k0 : hs_K := [
  [hz_r (.iload_n 0) 1, hz_r (.iload_n 0) 1, hz_r (.iconst 1) 1, hz_r (.iushr) 1, hz_m (.ldc_w 265) 3 [0, 1431655765] [], hz_n, hz_n, hz_r (.iand) 1, hz_r (.isub) 1, hz_r (.istore_n 0) 1, hz_r (.iload_n 0) 1, hz_m (.ldc_w 266) 3 [0, 858993459] [], hz_n, hz_n, hz_r (.iand) 1, hz_r (.iload_n 0) 1],
  [hz_r (.iconst 2) 1, hz_r (.iushr) 1, hz_m (.ldc_w 266) 3 [0, 858993459] [], hz_n, hz_n, hz_r (.iand) 1, hz_r (.iadd) 1, hz_r (.istore_n 0) 1, hz_r (.iload_n 0) 1, hz_r (.iload_n 0) 1, hz_r (.iconst 4) 1, hz_r (.iushr) 1, hz_r (.iadd) 1, hz_m (.ldc_w 267) 3 [0, 252645135] [], hz_n, hz_n],
  [hz_r (.iand) 1, hz_r (.istore_n 0) 1, hz_r (.iload_n 0) 1, hz_r (.iload_n 0) 1, hz_r (.bipush 8) 2, hz_n, hz_r (.iushr) 1, hz_r (.iadd) 1, hz_r (.istore_n 0) 1, hz_r (.iload_n 0) 1, hz_r (.iload_n 0) 1, hz_r (.bipush 16) 2, hz_n, hz_r (.iushr) 1, hz_r (.iadd) 1, hz_r (.istore_n 0) 1],
  [hz_r (.iload_n 0) 1, hz_r (.bipush 63) 2, hz_n, hz_r (.iand) 1, hz_r (.ireturn) 1]]
/-- java/lang/Math.floorMod(II)I -/
def hs_k1 : hs_K := [
  [hz_m (.iload_n 0) 1 [] [true, true, false], hz_r (.iload_n 1) 1, hz_r (.irem) 1, hz_r (.istore_n 2) 1, hz_r (.iload_n 0) 1, hz_r (.iload_n 1) 1, hz_r (.ixor) 1, hz_r (.ifCond .ge 11) 3, hz_n, hz_n, hz_m (.iload_n 2) 1 [] [false, true, true], hz_r (.ifCond .eq 7) 3, hz_n, hz_n, hz_m (.iload_n 2) 1 [] [false, true, true], hz_r (.iload_n 1) 1],
  [hz_r (.iadd) 1, hz_r (.ireturn) 1, hz_m (.iload_n 2) 1 [] [false, false, true], hz_r (.ireturn) 1]]
/-- java/lang/Math.max(II)I -/
def hs_k2 : hs_K := [
  [hz_r (.iload_n 0) 1, hz_r (.iload_n 1) 1, hz_r (.if_icmp .lt 7) 3, hz_n, hz_n, hz_m (.iload_n 0) 1 [] [true, false], hz_r (.goto 4) 3, hz_n, hz_n, hz_m (.iload_n 1) 1 [] [false, true], hz_m (.ireturn) 1 [] [false, false]]]
/-- java/lang/Math.min(II)I -/
def hs_k3 : hs_K := [
  [hz_r (.iload_n 0) 1, hz_r (.iload_n 1) 1, hz_r (.if_icmp .gt 7) 3, hz_n, hz_n, hz_m (.iload_n 0) 1 [] [true, false], hz_r (.goto 4) 3, hz_n, hz_n, hz_m (.iload_n 1) 1 [] [false, true], hz_m (.ireturn) 1 [] [false, false]]]
/-- HeavierServes$Future.run(II)V -/
def hs_k4 : hs_K := [
  [hz_m (.aload_n 0) 1 [] [true, true, true, false], hz_m (.getfield 18) 3 [0, 5] [], hz_n, hz_n, hz_r (.aload_n 0) 1, hz_m (.getfield 33) 3 [0, 0] [], hz_n, hz_n, hz_m (.invokevirtual 48) 3 [52, 2, 0] [], hz_n, hz_n, hz_r (.iconst 0) 1, hz_r (.istore_n 3) 1, hz_r (.iload_n 3) 1, hz_r (.iload_n 1) 1, hz_r (.if_icmp .ge 22) 3],
  [hz_n, hz_n, hz_r (.aload_n 0) 1, hz_m (.getfield 40) 3 [0, 2] [], hz_n, hz_n, hz_r (.aload_n 0) 1, hz_m (.getfield 18) 3 [0, 5] [], hz_n, hz_n, hz_r (.iconst 0) 1, hz_r (.iload_n 2) 1, hz_m (.invokevirtual 52) 3 [27, 4, 0] [], hz_n, hz_n, hz_r (.iinc 3 1) 3],
  [hz_n, hz_n, hz_r (.goto (-21)) 3, hz_n, hz_n, hz_m (.return_) 1 [] [false, false, false, false]]]
/-- HeavierServes$Future.gain(I)I -/
def hs_k5 : hs_K := [
  [hz_r (.aload_n 0) 1, hz_m (.getfield 18) 3 [0, 5] [], hz_n, hz_n, hz_m (.getfield 58) 3 [6, 8] [], hz_n, hz_n, hz_r (.iload_n 1) 1, hz_r (.iaload) 1, hz_r (.aload_n 0) 1, hz_m (.getfield 33) 3 [0, 0] [], hz_n, hz_n, hz_m (.getfield 58) 3 [6, 8] [], hz_n, hz_n],
  [hz_r (.iload_n 1) 1, hz_r (.iaload) 1, hz_r (.isub) 1, hz_r (.ireturn) 1]]
/-- HeavierServes$Future.gainOfParty(I)I -/
def hs_k6 : hs_K := [
  [hz_m (.iconst 0) 1 [] [true, true, false, false], hz_r (.istore_n 2) 1, hz_r (.iconst 0) 1, hz_r (.istore_n 3) 1, hz_r (.iload_n 3) 1, hz_r (.aload_n 0) 1, hz_m (.getfield 36) 3 [0, 1] [], hz_n, hz_n, hz_m (.getfield 61) 3 [8, 9] [], hz_n, hz_n, hz_r (.if_icmp .ge 30) 3, hz_n, hz_n, hz_r (.aload_n 0) 1],
  [hz_m (.getfield 36) 3 [0, 1] [], hz_n, hz_n, hz_m (.getfield 67) 3 [8, 0] [], hz_n, hz_n, hz_r (.iload_n 3) 1, hz_r (.iaload) 1, hz_r (.iload_n 1) 1, hz_r (.if_icmp .ne 11) 3, hz_n, hz_n, hz_r (.iload_n 2) 1, hz_r (.aload_n 0) 1, hz_r (.iload_n 3) 1, hz_m (.invokevirtual 70) 3 [5, 2, 1] []],
  [hz_n, hz_n, hz_r (.iadd) 1, hz_r (.istore_n 2) 1, hz_r (.iinc 3 1) 3, hz_n, hz_n, hz_r (.goto (-35)) 3, hz_n, hz_n, hz_m (.iload_n 2) 1 [] [false, false, true, false], hz_r (.ireturn) 1]]
/-- HeavierServes$Future.serverThen(I)I -/
def hs_k7 : hs_K := [
  [hz_m (.aload_n 0) 1 [] [true, true, false], hz_r (.iload_n 1) 1, hz_r (.sipush 255) 3, hz_n, hz_n, hz_m (.invokevirtual 74) 3 [4, 3, 0] [], hz_n, hz_n, hz_r (.aload_n 0) 1, hz_m (.getfield 44) 3 [0, 3] [], hz_n, hz_n, hz_r (.iconst 0) 1, hz_m (.putfield 78) 3 [4, 1] [], hz_n, hz_n],
  [hz_r (.iconst 0) 1, hz_r (.istore_n 2) 1, hz_m (.iload_n 2) 1 [] [true, false, true], hz_r (.aload_n 0) 1, hz_m (.getfield 36) 3 [0, 1] [], hz_n, hz_n, hz_m (.getfield 61) 3 [8, 9] [], hz_n, hz_n, hz_r (.if_icmp .ge 22) 3, hz_n, hz_n, hz_m (.aload_n 0) 1 [] [true, false, true], hz_m (.getfield 44) 3 [0, 3] [], hz_n],
  [hz_n, hz_r (.aload_n 0) 1, hz_r (.iload_n 2) 1, hz_m (.invokevirtual 70) 3 [5, 2, 1] [], hz_n, hz_n, hz_r (.i2l) 1, hz_m (.invokevirtual 83) 3 [43, 2, 0] [], hz_n, hz_n, hz_r (.iinc 2 1) 3, hz_n, hz_n, hz_r (.goto (-27)) 3, hz_n, hz_n],
  [hz_m (.aload_n 0) 1 [] [true, false, false], hz_m (.getfield 18) 3 [0, 5] [], hz_n, hz_n, hz_m (.getfield 87) 3 [6, 1] [], hz_n, hz_n, hz_r (.ireturn) 1]]
/-- HeavierServes$Future.weeksTill(I)I -/
def hs_k8 : hs_K := [
  [hz_m (.aload_n 0) 1 [] [true, true, false], hz_m (.getfield 18) 3 [0, 5] [], hz_n, hz_n, hz_r (.aload_n 0) 1, hz_m (.getfield 33) 3 [0, 0] [], hz_n, hz_n, hz_m (.invokevirtual 48) 3 [52, 2, 0] [], hz_n, hz_n, hz_r (.iconst 1) 1, hz_r (.istore_n 2) 1, hz_r (.iload_n 2) 1, hz_r (.bipush 99) 2, hz_n],
  [hz_r (.if_icmp .gt 37) 3, hz_n, hz_n, hz_r (.aload_n 0) 1, hz_m (.getfield 40) 3 [0, 2] [], hz_n, hz_n, hz_r (.aload_n 0) 1, hz_m (.getfield 18) 3 [0, 5] [], hz_n, hz_n, hz_r (.iconst 0) 1, hz_r (.sipush 255) 3, hz_n, hz_n, hz_m (.invokevirtual 52) 3 [27, 4, 0] []],
  [hz_n, hz_n, hz_r (.aload_n 0) 1, hz_m (.getfield 18) 3 [0, 5] [], hz_n, hz_n, hz_m (.getfield 87) 3 [6, 1] [], hz_n, hz_n, hz_r (.iload_n 1) 1, hz_r (.if_icmp .ne 5) 3, hz_n, hz_n, hz_m (.iload_n 2) 1 [] [false, false, true], hz_r (.ireturn) 1, hz_r (.iinc 2 1) 3],
  [hz_n, hz_n, hz_r (.goto (-37)) 3, hz_n, hz_n, hz_m (.bipush (-2)) 2 [] [false, false, false], hz_n, hz_r (.ireturn) 1]]
/-- HeavierServes$Future.reachable(I)I -/
def hs_k9 : hs_K := [
  [hz_m (.iconst 0) 1 [] [true, true, false, false, false, false], hz_r (.istore_n 2) 1, hz_r (.iconst 0) 1, hz_r (.istore_n 3) 1, hz_r (.aload_n 0) 1, hz_m (.getfield 33) 3 [0, 0] [], hz_n, hz_n, hz_m (.getfield 87) 3 [6, 1] [], hz_n, hz_n, hz_r (.ifCond .ge 9) 3, hz_n, hz_n, hz_m (.sipush 256) 3 [] [true, true, true, true, false, false], hz_n],
  [hz_n, hz_r (.goto 12) 3, hz_n, hz_n, hz_m (.iconst 1) 1 [] [true, true, true, true, false, false], hz_r (.aload_n 0) 1, hz_m (.getfield 33) 3 [0, 0] [], hz_n, hz_n, hz_m (.getfield 87) 3 [6, 1] [], hz_n, hz_n, hz_r (.ishl) 1, hz_m (.istore 4) 2 [] [true, true, true, true, false, false], hz_n, hz_r (.aload_n 0) 1],
  [hz_m (.getfield 18) 3 [0, 5] [], hz_n, hz_n, hz_r (.aload_n 0) 1, hz_m (.getfield 33) 3 [0, 0] [], hz_n, hz_n, hz_m (.invokevirtual 48) 3 [52, 2, 0] [], hz_n, hz_n, hz_r (.iconst 0) 1, hz_r (.istore 5) 2, hz_n, hz_r (.iload 5) 2, hz_n, hz_r (.iload_n 1) 1],
  [hz_r (.if_icmp .ge 48) 3, hz_n, hz_n, hz_m (.iload 4) 2 [] [true, true, true, false, true, true], hz_n, hz_r (.aload_n 0) 1, hz_r (.aload_n 0) 1, hz_r (.iload 4) 2, hz_n, hz_m (.invokevirtual 90) 3 [10, 2, 1] [], hz_n, hz_n, hz_m (.invokevirtual 93) 3 [11, 2, 1] [], hz_n, hz_n, hz_r (.ior) 1],
  [hz_r (.istore 4) 2, hz_n, hz_r (.iload 4) 2, hz_n, hz_r (.sipush 255) 3, hz_n, hz_n, hz_r (.iand) 1, hz_r (.istore_n 3) 1, hz_r (.iload_n 2) 1, hz_r (.iload_n 3) 1, hz_r (.ior) 1, hz_r (.istore_n 2) 1, hz_r (.aload_n 0) 1, hz_m (.getfield 40) 3 [0, 2] [], hz_n],
  [hz_n, hz_r (.aload_n 0) 1, hz_m (.getfield 18) 3 [0, 5] [], hz_n, hz_n, hz_r (.iconst 0) 1, hz_r (.iconst 0) 1, hz_m (.invokevirtual 52) 3 [27, 4, 0] [], hz_n, hz_n, hz_r (.iinc 5 1) 3, hz_n, hz_n, hz_r (.goto (-48)) 3, hz_n, hz_n],
  [hz_m (.aload_n 0) 1 [] [true, false, true, true, false, false], hz_m (.getfield 44) 3 [0, 3] [], hz_n, hz_n, hz_r (.iload_n 3) 1, hz_r (.i2l) 1, hz_m (.invokevirtual 96) 3 [42, 2, 0] [], hz_n, hz_n, hz_r (.iload_n 2) 1, hz_r (.ireturn) 1]]
/-- HeavierServes$Future.lightest(I)I -/
def hs_k10 : hs_K := [
  [hz_m (.iload_n 1) 1 [] [true, true, false, false], hz_r (.sipush 256) 3, hz_n, hz_n, hz_r (.iand) 1, hz_r (.ifCond .eq 5) 3, hz_n, hz_n, hz_m (.iconst (-1)) 1 [] [false, false, false, false], hz_r (.ireturn) 1, hz_m (.ldc 101) 2 [0, 2147483647] [true, true, false, false], hz_n, hz_r (.istore_n 2) 1, hz_r (.iconst 0) 1, hz_r (.istore_n 3) 1, hz_r (.iload_n 3) 1],
  [hz_r (.aload_n 0) 1, hz_m (.getfield 36) 3 [0, 1] [], hz_n, hz_n, hz_m (.getfield 61) 3 [8, 9] [], hz_n, hz_n, hz_r (.if_icmp .ge 41) 3, hz_n, hz_n, hz_r (.iload_n 1) 1, hz_r (.iload_n 3) 1, hz_r (.ishr) 1, hz_r (.iconst 1) 1, hz_r (.iand) 1, hz_r (.ifCond .eq 27) 3],
  [hz_n, hz_n, hz_r (.iload_n 2) 1, hz_r (.aload_n 0) 1, hz_m (.getfield 40) 3 [0, 2] [], hz_n, hz_n, hz_m (.getfield 102) 3 [1, 2] [], hz_n, hz_n, hz_r (.aload_n 0) 1, hz_m (.getfield 18) 3 [0, 5] [], hz_n, hz_n, hz_m (.getfield 106) 3 [6, 7] [], hz_n],
  [hz_n, hz_r (.iload_n 3) 1, hz_r (.iaload) 1, hz_m (.invokevirtual 109) 3 [47, 2, 1] [], hz_n, hz_n, hz_m (.invokestatic 114) 3 [3, 2, 1] [], hz_n, hz_n, hz_r (.istore_n 2) 1, hz_r (.iinc 3 1) 3, hz_n, hz_n, hz_r (.goto (-46)) 3, hz_n, hz_n],
  [hz_m (.iload_n 2) 1 [] [false, false, true, false], hz_r (.ireturn) 1]]
/-- HeavierServes$Future.heavierThan(I)I -/
def hs_k11 : hs_K := [
  [hz_m (.iconst 0) 1 [] [true, true, false, false], hz_r (.istore_n 2) 1, hz_r (.iconst 0) 1, hz_r (.istore_n 3) 1, hz_r (.iload_n 3) 1, hz_r (.aload_n 0) 1, hz_m (.getfield 36) 3 [0, 1] [], hz_n, hz_n, hz_m (.getfield 61) 3 [8, 9] [], hz_n, hz_n, hz_r (.if_icmp .ge 49) 3, hz_n, hz_n, hz_r (.aload_n 0) 1],
  [hz_m (.getfield 18) 3 [0, 5] [], hz_n, hz_n, hz_r (.iload_n 3) 1, hz_m (.invokevirtual 120) 3 [55, 2, 1] [], hz_n, hz_n, hz_r (.ifCond .eq 32) 3, hz_n, hz_n, hz_r (.aload_n 0) 1, hz_m (.getfield 40) 3 [0, 2] [], hz_n, hz_n, hz_m (.getfield 102) 3 [1, 2] [], hz_n],
  [hz_n, hz_r (.aload_n 0) 1, hz_m (.getfield 18) 3 [0, 5] [], hz_n, hz_n, hz_m (.getfield 106) 3 [6, 7] [], hz_n, hz_n, hz_r (.iload_n 3) 1, hz_r (.iaload) 1, hz_m (.invokevirtual 109) 3 [47, 2, 1] [], hz_n, hz_n, hz_r (.iload_n 1) 1, hz_r (.if_icmp .le 9) 3, hz_n],
  [hz_n, hz_r (.iload_n 2) 1, hz_r (.iconst 1) 1, hz_r (.iload_n 3) 1, hz_r (.ishl) 1, hz_r (.ior) 1, hz_r (.istore_n 2) 1, hz_r (.iinc 3 1) 3, hz_n, hz_n, hz_r (.goto (-54)) 3, hz_n, hz_n, hz_m (.iload_n 2) 1 [] [false, false, true, false], hz_r (.ireturn) 1]]
/-- HeavierServes$Future.bestStanding(II)I -/
def hs_k12 : hs_K := [
  [hz_r (.aload_n 0) 1, hz_r (.iload_n 1) 1, hz_m (.putfield 124) 3 [0, 9] [], hz_n, hz_n, hz_r (.aload_n 0) 1, hz_r (.iload_n 2) 1, hz_m (.putfield 127) 3 [0, 10] [], hz_n, hz_n, hz_r (.aload_n 0) 1, hz_r (.iconst (-1)) 1, hz_m (.putfield 130) 3 [0, 11] [], hz_n, hz_n, hz_r (.aload_n 0) 1],
  [hz_r (.iconst 0) 1, hz_m (.putfield 133) 3 [0, 12] [], hz_n, hz_n, hz_r (.aload_n 0) 1, hz_m (.getfield 13) 3 [0, 4] [], hz_n, hz_n, hz_r (.iconst 0) 1, hz_r (.aaload) 1, hz_r (.aload_n 0) 1, hz_m (.getfield 33) 3 [0, 0] [], hz_n, hz_n, hz_m (.invokevirtual 48) 3 [52, 2, 0] [], hz_n],
  [hz_n, hz_r (.aload_n 0) 1, hz_r (.iconst 0) 1, hz_r (.iconst 0) 1, hz_m (.invokevirtual 136) 3 [13, 3, 0] [], hz_n, hz_n, hz_r (.aload_n 0) 1, hz_m (.getfield 44) 3 [0, 3] [], hz_n, hz_n, hz_r (.aload_n 0) 1, hz_m (.getfield 133) 3 [0, 12] [], hz_n, hz_n, hz_r (.i2l) 1],
  [hz_m (.invokevirtual 96) 3 [42, 2, 0] [], hz_n, hz_n, hz_r (.aload_n 0) 1, hz_m (.getfield 130) 3 [0, 11] [], hz_n, hz_n, hz_r (.ireturn) 1]]
/-- HeavierServes$Future.search(II)V -/
def hs_k13 : hs_K := [
  [hz_m (.iload_n 1) 1 [] [true, true, true, false, false, false, false], hz_r (.ifCond .lt 17) 3, hz_n, hz_n, hz_m (.iload_n 1) 1 [] [true, true, true, false, false, false, false], hz_r (.aload_n 0) 1, hz_m (.getfield 127) 3 [0, 10] [], hz_n, hz_n, hz_r (.if_icmp .gt 9) 3, hz_n, hz_n, hz_m (.iload_n 1) 1 [] [true, true, true, false, false, false, false], hz_r (.bipush 10) 2, hz_n, hz_r (.if_icmp .le 4) 3],
  [hz_n, hz_n, hz_m (.return_) 1 [] [false, false, false, false, false, false, false], hz_m (.aload_n 0) 1 [] [true, true, true, false, false, false, false], hz_m (.getfield 13) 3 [0, 4] [], hz_n, hz_n, hz_r (.iload_n 1) 1, hz_r (.aaload) 1, hz_r (.astore_n 3) 1, hz_r (.aload_n 3) 1, hz_m (.getfield 58) 3 [6, 8] [], hz_n, hz_n, hz_r (.aload_n 0) 1, hz_m (.getfield 124) 3 [0, 9] []],
  [hz_n, hz_n, hz_r (.iaload) 1, hz_r (.aload_n 0) 1, hz_m (.getfield 33) 3 [0, 0] [], hz_n, hz_n, hz_m (.getfield 58) 3 [6, 8] [], hz_n, hz_n, hz_r (.aload_n 0) 1, hz_m (.getfield 124) 3 [0, 9] [], hz_n, hz_n, hz_r (.iaload) 1, hz_r (.isub) 1],
  [hz_r (.istore 4) 2, hz_n, hz_r (.iload 4) 2, hz_n, hz_r (.aload_n 0) 1, hz_m (.getfield 127) 3 [0, 10] [], hz_n, hz_n, hz_r (.iadd) 1, hz_r (.iload_n 1) 1, hz_r (.isub) 1, hz_r (.aload_n 0) 1, hz_m (.getfield 130) 3 [0, 11] [], hz_n, hz_n, hz_r (.if_icmp .ge 4) 3],
  [hz_n, hz_n, hz_m (.return_) 1 [] [false, false, false, false, false, false, false], hz_m (.iload_n 1) 1 [] [true, true, true, true, true, false, false], hz_r (.aload_n 0) 1, hz_m (.getfield 127) 3 [0, 10] [], hz_n, hz_n, hz_r (.if_icmp .eq 9) 3, hz_n, hz_n, hz_m (.iload_n 1) 1 [] [true, true, true, true, true, false, false], hz_r (.bipush 10) 2, hz_n, hz_r (.if_icmp .ne 11) 3, hz_n],
  [hz_n, hz_m (.aload_n 0) 1 [] [true, false, true, false, true, false, false], hz_r (.iload 4) 2, hz_n, hz_r (.iload_n 2) 1, hz_m (.invokevirtual 139) 3 [14, 3, 0] [], hz_n, hz_n, hz_r (.return_) 1, hz_m (.aload_n 0) 1 [] [true, true, true, true, false, false, false], hz_m (.getfield 13) 3 [0, 4] [], hz_n, hz_n, hz_r (.iload_n 1) 1, hz_r (.iconst 1) 1, hz_r (.iadd) 1],
  [hz_r (.aaload) 1, hz_r (.astore 5) 2, hz_n, hz_r (.sipush 255) 3, hz_n, hz_n, hz_r (.iconst 1) 1, hz_r (.aload_n 0) 1, hz_m (.getfield 124) 3 [0, 9] [], hz_n, hz_n, hz_r (.ishl) 1, hz_r (.iconst (-1)) 1, hz_r (.ixor) 1, hz_r (.iand) 1, hz_r (.istore 6) 2],
  [hz_n, hz_r (.aload_n 3) 1, hz_m (.getfield 87) 3 [6, 1] [], hz_n, hz_n, hz_r (.aload_n 0) 1, hz_m (.getfield 124) 3 [0, 9] [], hz_n, hz_n, hz_r (.if_icmp .eq 57) 3, hz_n, hz_n, hz_m (.aload_n 0) 1 [] [true, true, true, true, false, true, true], hz_m (.getfield 40) 3 [0, 2] [], hz_n, hz_n],
  [hz_r (.aload_n 3) 1, hz_r (.iconst 1) 1, hz_r (.aload_n 0) 1, hz_m (.getfield 124) 3 [0, 9] [], hz_n, hz_n, hz_r (.ishl) 1, hz_r (.iload 6) 2, hz_n, hz_m (.invokevirtual 142) 3 [29, 4, 1] [], hz_n, hz_n, hz_r (.aload_n 0) 1, hz_m (.getfield 124) 3 [0, 9] [], hz_n, hz_n],
  [hz_r (.if_icmp .ne 34) 3, hz_n, hz_n, hz_m (.aload 5) 2 [] [true, true, true, true, false, true, true], hz_n, hz_r (.aload_n 3) 1, hz_m (.invokevirtual 48) 3 [52, 2, 0] [], hz_n, hz_n, hz_r (.aload_n 0) 1, hz_m (.getfield 40) 3 [0, 2] [], hz_n, hz_n, hz_r (.aload 5) 2, hz_n, hz_r (.aload_n 0) 1],
  [hz_m (.getfield 124) 3 [0, 9] [], hz_n, hz_n, hz_m (.invokevirtual 146) 3 [28, 3, 0] [], hz_n, hz_n, hz_r (.aload_n 0) 1, hz_r (.iload_n 1) 1, hz_r (.iconst 1) 1, hz_r (.iadd) 1, hz_r (.iload_n 2) 1, hz_r (.iconst 1) 1, hz_r (.iload_n 1) 1, hz_r (.ishl) 1, hz_r (.ior) 1, hz_m (.invokevirtual 136) 3 [13, 3, 0] []],
  [hz_n, hz_n, hz_m (.aload 5) 2 [] [true, true, true, true, false, true, true], hz_n, hz_r (.aload_n 3) 1, hz_m (.invokevirtual 48) 3 [52, 2, 0] [], hz_n, hz_n, hz_r (.aload_n 0) 1, hz_m (.getfield 40) 3 [0, 2] [], hz_n, hz_n, hz_r (.aload 5) 2, hz_n, hz_r (.iconst 0) 1, hz_r (.iload 6) 2],
  [hz_n, hz_m (.invokevirtual 52) 3 [27, 4, 0] [], hz_n, hz_n, hz_r (.aload_n 0) 1, hz_r (.iload_n 1) 1, hz_r (.iconst 1) 1, hz_r (.iadd) 1, hz_r (.iload_n 2) 1, hz_m (.invokevirtual 136) 3 [13, 3, 0] [], hz_n, hz_n, hz_r (.return_) 1]]
/-- HeavierServes$Future.judge(II)V -/
def hs_k14 : hs_K := [
  [hz_m (.iload_n 2) 1 [] [true, true, true, false], hz_m (.invokestatic 150) 3 [0, 1, 1] [], hz_n, hz_n, hz_r (.aload_n 0) 1, hz_m (.getfield 133) 3 [0, 12] [], hz_n, hz_n, hz_m (.invokestatic 150) 3 [0, 1, 1] [], hz_n, hz_n, hz_r (.if_icmp .lt 25) 3, hz_n, hz_n, hz_m (.iload_n 2) 1 [] [true, true, true, false], hz_m (.invokestatic 150) 3 [0, 1, 1] []],
  [hz_n, hz_n, hz_r (.aload_n 0) 1, hz_m (.getfield 133) 3 [0, 12] [], hz_n, hz_n, hz_m (.invokestatic 150) 3 [0, 1, 1] [], hz_n, hz_n, hz_r (.if_icmp .ne 15) 3, hz_n, hz_n, hz_m (.iload_n 2) 1 [] [true, true, true, false], hz_r (.aload_n 0) 1, hz_m (.getfield 133) 3 [0, 12] [], hz_n],
  [hz_n, hz_r (.if_icmp .ge 7) 3, hz_n, hz_n, hz_m (.iconst 1) 1 [] [true, true, true, false], hz_r (.goto 4) 3, hz_n, hz_n, hz_m (.iconst 0) 1 [] [true, true, true, false], hz_m (.istore_n 3) 1 [] [true, true, true, false], hz_r (.iload_n 1) 1, hz_r (.aload_n 0) 1, hz_m (.getfield 130) 3 [0, 11] [], hz_n, hz_n, hz_r (.if_icmp .gt 15) 3],
  [hz_n, hz_n, hz_r (.iload_n 1) 1, hz_r (.aload_n 0) 1, hz_m (.getfield 130) 3 [0, 11] [], hz_n, hz_n, hz_r (.if_icmp .ne 17) 3, hz_n, hz_n, hz_r (.iload_n 3) 1, hz_r (.ifCond .eq 13) 3, hz_n, hz_n, hz_m (.aload_n 0) 1 [] [true, true, true, false], hz_r (.iload_n 1) 1],
  [hz_m (.putfield 130) 3 [0, 11] [], hz_n, hz_n, hz_r (.aload_n 0) 1, hz_r (.iload_n 2) 1, hz_m (.putfield 133) 3 [0, 12] [], hz_n, hz_n, hz_m (.return_) 1 [] [false, false, false, false]]]
/-- HeavierServes$Future.rounds(II)I -/
def hs_k15 : hs_K := [
  [hz_m (.iconst 0) 1 [] [true, true, true, false, false, false], hz_r (.istore_n 3) 1, hz_m (.iload_n 3) 1 [] [true, true, true, true, false, false], hz_r (.bipush 8) 2, hz_n, hz_r (.if_icmp .ge 20) 3, hz_n, hz_n, hz_m (.aload_n 0) 1 [] [true, true, true, true, false, false], hz_m (.getfield 22) 3 [0, 6] [], hz_n, hz_n, hz_r (.iload_n 3) 1, hz_r (.iconst 1) 1, hz_r (.iload_n 1) 1, hz_r (.ishl) 1],
  [hz_r (.iconst 1) 1, hz_r (.isub) 1, hz_r (.iastore) 1, hz_r (.iinc 3 1) 3, hz_n, hz_n, hz_r (.goto (-20)) 3, hz_n, hz_n, hz_m (.iconst 0) 1 [] [true, true, true, false, false, false], hz_r (.istore_n 3) 1, hz_r (.iconst 0) 1, hz_r (.istore 4) 2, hz_n, hz_m (.iload 4) 2 [] [true, true, true, true, true, false], hz_n],
  [hz_r (.iload_n 2) 1, hz_r (.if_icmp .ge 27) 3, hz_n, hz_n, hz_m (.iload_n 3) 1 [] [true, true, true, true, true, false], hz_r (.ifCond .ne 23) 3, hz_n, hz_n, hz_m (.aload_n 0) 1 [] [true, true, true, false, true, false], hz_r (.iload_n 1) 1, hz_m (.invokevirtual 153) 3 [16, 2, 1] [], hz_n, hz_n, hz_r (.ifCond .ne 7) 3, hz_n, hz_n],
  [hz_m (.iconst 1) 1 [] [true, true, true, false, true, false], hz_r (.goto 4) 3, hz_n, hz_n, hz_m (.iconst 0) 1 [] [true, true, true, false, true, false], hz_m (.istore_n 3) 1 [] [true, true, true, false, true, false], hz_r (.iinc 4 1) 3, hz_n, hz_n, hz_r (.goto (-27)) 3, hz_n, hz_n, hz_m (.aload_n 0) 1 [] [true, false, false, true, true, false], hz_m (.getfield 44) 3 [0, 3] [], hz_n, hz_n],
  [hz_r (.iload_n 3) 1, hz_r (.ifCond .eq 7) 3, hz_n, hz_n, hz_m (.lconst 1) 1 [] [true, false, false, false, true, false], hz_r (.goto 4) 3, hz_n, hz_n, hz_m (.lconst 0) 1 [] [true, false, false, false, true, false], hz_m (.invokevirtual 96) 3 [42, 2, 0] [true, false, false, false, true, false], hz_n, hz_n, hz_r (.iconst 0) 1, hz_r (.istore 5) 2, hz_n, hz_m (.iload 5) 2 [] [true, false, false, false, true, true]],
  [hz_n, hz_r (.aload_n 0) 1, hz_m (.getfield 36) 3 [0, 1] [], hz_n, hz_n, hz_m (.getfield 61) 3 [8, 9] [], hz_n, hz_n, hz_r (.if_icmp .ge 24) 3, hz_n, hz_n, hz_m (.aload_n 0) 1 [] [true, false, false, false, true, true], hz_m (.getfield 44) 3 [0, 3] [], hz_n, hz_n, hz_r (.aload_n 0) 1],
  [hz_m (.getfield 22) 3 [0, 6] [], hz_n, hz_n, hz_r (.iload 5) 2, hz_n, hz_r (.iaload) 1, hz_r (.i2l) 1, hz_m (.invokevirtual 83) 3 [43, 2, 0] [], hz_n, hz_n, hz_r (.iinc 5 1) 3, hz_n, hz_n, hz_r (.goto (-30)) 3, hz_n, hz_n],
  [hz_m (.iload 4) 2 [] [false, false, false, false, true, false], hz_n, hz_r (.ireturn) 1]]
/-- HeavierServes$Future.someoneTurns(I)Z -/
def hs_k16 : hs_K := [
  [hz_m (.iconst 0) 1 [] [true, true, false, false, false], hz_r (.istore_n 2) 1, hz_r (.iconst 0) 1, hz_r (.istore_n 3) 1, hz_m (.iload_n 3) 1 [] [true, true, true, true, false], hz_r (.aload_n 0) 1, hz_m (.getfield 36) 3 [0, 1] [], hz_n, hz_n, hz_m (.getfield 61) 3 [8, 9] [], hz_n, hz_n, hz_r (.if_icmp .ge 61) 3, hz_n, hz_n, hz_m (.aload_n 0) 1 [] [true, true, true, true, false]],
  [hz_m (.getfield 22) 3 [0, 6] [], hz_n, hz_n, hz_r (.iload_n 3) 1, hz_r (.iaload) 1, hz_r (.istore 4) 2, hz_n, hz_r (.aload_n 0) 1, hz_m (.getfield 33) 3 [0, 0] [], hz_n, hz_n, hz_r (.iload_n 3) 1, hz_m (.invokevirtual 120) 3 [55, 2, 1] [], hz_n, hz_n, hz_r (.ifCond .eq 15) 3],
  [hz_n, hz_n, hz_r (.aload_n 0) 1, hz_m (.getfield 22) 3 [0, 6] [], hz_n, hz_n, hz_r (.iload_n 3) 1, hz_r (.aload_n 0) 1, hz_r (.iload_n 3) 1, hz_r (.iload_n 1) 1, hz_m (.invokevirtual 156) 3 [17, 3, 1] [], hz_n, hz_n, hz_r (.iastore) 1, hz_r (.iload_n 2) 1, hz_r (.ifCond .ne 14) 3],
  [hz_n, hz_n, hz_m (.aload_n 0) 1 [] [true, true, false, true, true], hz_m (.getfield 22) 3 [0, 6] [], hz_n, hz_n, hz_r (.iload_n 3) 1, hz_r (.iaload) 1, hz_r (.iload 4) 2, hz_n, hz_r (.if_icmp .eq 7) 3, hz_n, hz_n, hz_m (.iconst 1) 1 [] [true, true, false, true, false], hz_r (.goto 4) 3, hz_n],
  [hz_n, hz_m (.iconst 0) 1 [] [true, true, false, true, false], hz_m (.istore_n 2) 1 [] [true, true, false, true, false], hz_r (.iinc 3 1) 3, hz_n, hz_n, hz_r (.goto (-66)) 3, hz_n, hz_n, hz_m (.iload_n 2) 1 [] [false, false, true, false, false], hz_r (.ireturn) 1]]
/-- HeavierServes$Future.bestReply(II)I -/
def hs_k17 : hs_K := [
  [hz_m (.aload_n 0) 1 [] [true, true, true, false, false, false, false], hz_m (.getfield 22) 3 [0, 6] [], hz_n, hz_n, hz_r (.iload_n 1) 1, hz_r (.iaload) 1, hz_r (.istore_n 3) 1, hz_r (.aload_n 0) 1, hz_r (.iload_n 1) 1, hz_r (.iload_n 2) 1, hz_m (.invokevirtual 159) 3 [18, 3, 1] [], hz_n, hz_n, hz_r (.istore 4) 2, hz_n, hz_r (.iconst 0) 1],
  [hz_r (.istore 5) 2, hz_n, hz_m (.iload 5) 2 [] [true, true, true, true, true, true, false], hz_n, hz_r (.iconst 1) 1, hz_r (.iload_n 2) 1, hz_r (.ishl) 1, hz_r (.if_icmp .ge 45) 3, hz_n, hz_n, hz_m (.iload 4) 2 [] [true, true, true, true, true, true, false], hz_n, hz_r (.iload_n 2) 1, hz_r (.if_icmp .ge 39) 3, hz_n, hz_n],
  [hz_m (.aload_n 0) 1 [] [true, true, true, true, true, true, false], hz_m (.getfield 22) 3 [0, 6] [], hz_n, hz_n, hz_r (.iload_n 1) 1, hz_r (.iload 5) 2, hz_n, hz_r (.iastore) 1, hz_r (.aload_n 0) 1, hz_r (.iload_n 1) 1, hz_r (.iload_n 2) 1, hz_m (.invokevirtual 159) 3 [18, 3, 1] [], hz_n, hz_n, hz_r (.istore 6) 2, hz_n],
  [hz_r (.iload 6) 2, hz_n, hz_r (.iload 4) 2, hz_n, hz_r (.if_icmp .le 10) 3, hz_n, hz_n, hz_m (.iload 5) 2 [] [true, true, true, false, false, true, true], hz_n, hz_r (.istore_n 3) 1, hz_r (.iload 6) 2, hz_n, hz_r (.istore 4) 2, hz_n, hz_m (.iinc 5 1) 3 [] [true, true, true, true, true, true, false], hz_n],
  [hz_n, hz_r (.goto (-47)) 3, hz_n, hz_n, hz_m (.iload_n 3) 1 [] [false, false, false, true, false, false, false], hz_r (.ireturn) 1]]
/-- HeavierServes$Future.weeksByPlans(II)I -/
def hs_k18 : hs_K := [
  [hz_m (.aload_n 0) 1 [] [true, true, true, false, false, false], hz_m (.getfield 18) 3 [0, 5] [], hz_n, hz_n, hz_r (.aload_n 0) 1, hz_m (.getfield 33) 3 [0, 0] [], hz_n, hz_n, hz_m (.invokevirtual 48) 3 [52, 2, 0] [], hz_n, hz_n, hz_r (.iconst 0) 1, hz_r (.istore_n 3) 1, hz_m (.iload_n 3) 1 [] [true, true, true, true, false, false], hz_r (.iload_n 2) 1, hz_r (.if_icmp .ge 77) 3],
  [hz_n, hz_n, hz_m (.iconst 0) 1 [] [true, true, true, true, false, false], hz_r (.istore 4) 2, hz_n, hz_r (.iconst 0) 1, hz_r (.istore 5) 2, hz_n, hz_r (.iload 5) 2, hz_n, hz_r (.aload_n 0) 1, hz_m (.getfield 36) 3 [0, 1] [], hz_n, hz_n, hz_m (.getfield 61) 3 [8, 9] [], hz_n],
  [hz_n, hz_r (.if_icmp .ge 28) 3, hz_n, hz_n, hz_r (.iload 4) 2, hz_n, hz_r (.aload_n 0) 1, hz_m (.getfield 22) 3 [0, 6] [], hz_n, hz_n, hz_r (.iload 5) 2, hz_n, hz_r (.iaload) 1, hz_r (.iload_n 3) 1, hz_r (.ishr) 1, hz_r (.iconst 1) 1],
  [hz_r (.iand) 1, hz_r (.iload 5) 2, hz_n, hz_r (.ishl) 1, hz_r (.ior) 1, hz_r (.istore 4) 2, hz_n, hz_r (.iinc 5 1) 3, hz_n, hz_n, hz_r (.goto (-34)) 3, hz_n, hz_n, hz_m (.aload_n 0) 1 [] [true, true, true, true, true, false], hz_m (.getfield 40) 3 [0, 2] [], hz_n],
  [hz_n, hz_r (.aload_n 0) 1, hz_m (.getfield 18) 3 [0, 5] [], hz_n, hz_n, hz_r (.aload_n 0) 1, hz_m (.getfield 40) 3 [0, 2] [], hz_n, hz_n, hz_r (.aload_n 0) 1, hz_m (.getfield 18) 3 [0, 5] [], hz_n, hz_n, hz_r (.iload 4) 2, hz_n, hz_r (.iconst 0) 1],
  [hz_m (.invokevirtual 142) 3 [29, 4, 1] [], hz_n, hz_n, hz_m (.invokevirtual 146) 3 [28, 3, 0] [], hz_n, hz_n, hz_r (.iinc 3 1) 3, hz_n, hz_n, hz_r (.goto (-76)) 3, hz_n, hz_n, hz_m (.aload_n 0) 1 [] [true, true, false, false, false, false], hz_r (.iload_n 1) 1, hz_m (.invokevirtual 70) 3 [5, 2, 1] [], hz_n],
  [hz_n, hz_r (.ireturn) 1]]
/-- HeavierServes$Future.strongestParty(I)I -/
def hs_k19 : hs_K := [
  [hz_m (.aload_n 0) 1 [] [true, true, false, false, false, false], hz_r (.iload_n 1) 1, hz_r (.sipush 255) 3, hz_n, hz_n, hz_m (.invokevirtual 74) 3 [4, 3, 0] [], hz_n, hz_n, hz_r (.iconst (-1)) 1, hz_r (.istore_n 2) 1, hz_r (.iconst 0) 1, hz_r (.istore_n 3) 1, hz_r (.aload_n 0) 1, hz_m (.getfield 44) 3 [0, 3] [], hz_n, hz_n],
  [hz_r (.iconst 0) 1, hz_m (.putfield 78) 3 [4, 1] [], hz_n, hz_n, hz_r (.iconst 0) 1, hz_r (.istore 4) 2, hz_n, hz_m (.iload 4) 2 [] [true, false, true, true, true, false], hz_n, hz_r (.iconst 4) 1, hz_r (.if_icmp .ge 39) 3, hz_n, hz_n, hz_m (.aload_n 0) 1 [] [true, false, true, true, true, false], hz_r (.iload 4) 2, hz_n],
  [hz_m (.invokevirtual 162) 3 [6, 2, 1] [], hz_n, hz_n, hz_r (.istore 5) 2, hz_n, hz_r (.aload_n 0) 1, hz_m (.getfield 44) 3 [0, 3] [], hz_n, hz_n, hz_r (.iload 5) 2, hz_n, hz_r (.i2l) 1, hz_m (.invokevirtual 83) 3 [43, 2, 0] [], hz_n, hz_n, hz_r (.iload 5) 2],
  [hz_n, hz_r (.iload_n 3) 1, hz_r (.if_icmp .le 9) 3, hz_n, hz_n, hz_m (.iload 4) 2 [] [true, false, false, false, true, true], hz_n, hz_r (.istore_n 2) 1, hz_r (.iload 5) 2, hz_n, hz_r (.istore_n 3) 1, hz_m (.iinc 4 1) 3 [] [true, false, true, true, true, false], hz_n, hz_n, hz_r (.goto (-39)) 3, hz_n],
  [hz_n, hz_m (.aload_n 0) 1 [] [true, false, true, false, false, false], hz_m (.getfield 44) 3 [0, 3] [], hz_n, hz_n, hz_r (.aload_n 0) 1, hz_m (.invokevirtual 165) 3 [20, 1, 1] [], hz_n, hz_n, hz_r (.i2l) 1, hz_m (.invokevirtual 83) 3 [43, 2, 0] [], hz_n, hz_n, hz_r (.iload_n 2) 1, hz_r (.ireturn) 1]]
/-- HeavierServes$Future.gainers()I -/
def hs_k20 : hs_K := [
  [hz_m (.iconst 0) 1 [] [true, false, false], hz_r (.istore_n 1) 1, hz_r (.iconst 0) 1, hz_r (.istore_n 2) 1, hz_r (.iload_n 2) 1, hz_r (.aload_n 0) 1, hz_m (.getfield 36) 3 [0, 1] [], hz_n, hz_n, hz_m (.getfield 61) 3 [8, 9] [], hz_n, hz_n, hz_r (.if_icmp .ge 23) 3, hz_n, hz_n, hz_r (.aload_n 0) 1],
  [hz_r (.iload_n 2) 1, hz_m (.invokevirtual 70) 3 [5, 2, 1] [], hz_n, hz_n, hz_r (.ifCond .le 9) 3, hz_n, hz_n, hz_r (.iload_n 1) 1, hz_r (.iconst 1) 1, hz_r (.iload_n 2) 1, hz_r (.ishl) 1, hz_r (.ior) 1, hz_r (.istore_n 1) 1, hz_r (.iinc 2 1) 3, hz_n, hz_n],
  [hz_r (.goto (-28)) 3, hz_n, hz_n, hz_m (.iload_n 1) 1 [] [false, true, false], hz_r (.ireturn) 1]]
/-- HeavierServes$Future.takingTurns(II)I -/
def hs_k21 : hs_K := [
  [hz_m (.aload_n 0) 1 [] [true, true, true, false, false, false, false], hz_r (.iload_n 2) 1, hz_r (.sipush 255) 3, hz_n, hz_n, hz_m (.invokevirtual 74) 3 [4, 3, 0] [], hz_n, hz_n, hz_r (.aload_n 0) 1, hz_r (.iload_n 1) 1, hz_m (.invokevirtual 162) 3 [6, 2, 1] [], hz_n, hz_n, hz_r (.istore_n 3) 1, hz_r (.aload_n 0) 1, hz_m (.getfield 36) 3 [0, 1] []],
  [hz_n, hz_n, hz_r (.iload_n 1) 1, hz_m (.invokevirtual 169) 3 [67, 2, 1] [], hz_n, hz_n, hz_r (.istore 4) 2, hz_n, hz_r (.iconst (-1)) 1, hz_r (.istore 5) 2, hz_n, hz_r (.aload_n 0) 1, hz_m (.getfield 18) 3 [0, 5] [], hz_n, hz_n, hz_r (.aload_n 0) 1],
  [hz_m (.getfield 33) 3 [0, 0] [], hz_n, hz_n, hz_m (.invokevirtual 48) 3 [52, 2, 0] [], hz_n, hz_n, hz_r (.iconst 0) 1, hz_r (.istore 6) 2, hz_n, hz_r (.iload 6) 2, hz_n, hz_r (.iload_n 2) 1, hz_r (.if_icmp .ge 58) 3, hz_n, hz_n, hz_r (.iload 4) 2],
  [hz_n, hz_r (.aload_n 0) 1, hz_m (.getfield 33) 3 [0, 0] [], hz_n, hz_n, hz_m (.getfield 172) 3 [6, 3] [], hz_n, hz_n, hz_r (.iand) 1, hz_r (.iload 5) 2, hz_n, hz_m (.invokestatic 175) 3 [22, 2, 1] [], hz_n, hz_n, hz_r (.istore 5) 2, hz_n],
  [hz_r (.aload_n 0) 1, hz_m (.getfield 40) 3 [0, 2] [], hz_n, hz_n, hz_r (.aload_n 0) 1, hz_m (.getfield 18) 3 [0, 5] [], hz_n, hz_n, hz_r (.iload 5) 2, hz_n, hz_r (.ifCond .ge 7) 3, hz_n, hz_n, hz_r (.iconst 0) 1, hz_r (.goto 7) 3, hz_n],
  [hz_n, hz_r (.iconst 1) 1, hz_r (.iload 5) 2, hz_n, hz_r (.ishl) 1, hz_r (.sipush 255) 3, hz_n, hz_n, hz_r (.iload 4) 2, hz_n, hz_r (.iconst (-1)) 1, hz_r (.ixor) 1, hz_r (.iand) 1, hz_m (.invokevirtual 52) 3 [27, 4, 0] [], hz_n, hz_n],
  [hz_r (.iinc 6 1) 3, hz_n, hz_n, hz_r (.goto (-58)) 3, hz_n, hz_n, hz_m (.aload_n 0) 1 [] [true, true, false, true, false, false, false], hz_r (.iload_n 1) 1, hz_m (.invokevirtual 162) 3 [6, 2, 1] [], hz_n, hz_n, hz_r (.istore 6) 2, hz_n, hz_r (.aload_n 0) 1, hz_m (.getfield 44) 3 [0, 3] [], hz_n],
  [hz_n, hz_r (.iload 6) 2, hz_n, hz_r (.iload_n 3) 1, hz_r (.isub) 1, hz_r (.i2l) 1, hz_m (.invokevirtual 96) 3 [42, 2, 0] [], hz_n, hz_n, hz_r (.iload 6) 2, hz_n, hz_r (.ireturn) 1]]
/-- HeavierServes$Future.nextOf(II)I -/
def hs_k22 : hs_K := [
  [hz_m (.iconst 1) 1 [] [true, true, false, false], hz_r (.istore_n 2) 1, hz_m (.iload_n 2) 1 [] [true, true, true, false], hz_r (.bipush 8) 2, hz_n, hz_r (.if_icmp .gt 26) 3, hz_n, hz_n, hz_m (.iload_n 1) 1 [] [true, true, true, false], hz_r (.iload_n 2) 1, hz_r (.iadd) 1, hz_r (.bipush 8) 2, hz_n, hz_r (.irem) 1, hz_r (.istore_n 3) 1, hz_r (.iload_n 0) 1],
  [hz_r (.iload_n 3) 1, hz_r (.ishr) 1, hz_r (.iconst 1) 1, hz_r (.iand) 1, hz_r (.ifCond .eq 5) 3, hz_n, hz_n, hz_m (.iload_n 3) 1 [] [false, false, false, true], hz_r (.ireturn) 1, hz_m (.iinc 2 1) 3 [] [true, true, true, false], hz_n, hz_n, hz_r (.goto (-26)) 3, hz_n, hz_n, hz_m (.iconst (-1)) 1 [] [false, false, false, false]],
  [hz_r (.ireturn) 1]]
/-- HeavierServes$Future.foolsWorth(II)I -/
def hs_k23 : hs_K := [
  [hz_m (.aload_n 0) 1 [] [true, true, true, false, false, false], hz_m (.getfield 36) 3 [0, 1] [], hz_n, hz_n, hz_m (.getfield 67) 3 [8, 0] [], hz_n, hz_n, hz_r (.iload_n 1) 1, hz_r (.iaload) 1, hz_r (.istore_n 3) 1, hz_r (.aload_n 0) 1, hz_r (.iload_n 2) 1, hz_r (.sipush 255) 3, hz_n, hz_n, hz_m (.invokevirtual 74) 3 [4, 3, 0] []],
  [hz_n, hz_n, hz_r (.aload_n 0) 1, hz_r (.iload_n 3) 1, hz_m (.invokevirtual 162) 3 [6, 2, 1] [], hz_n, hz_n, hz_r (.istore 4) 2, hz_n, hz_r (.aload_n 0) 1, hz_r (.iload_n 2) 1, hz_r (.sipush 255) 3, hz_n, hz_n, hz_r (.iconst 1) 1, hz_r (.iload_n 1) 1],
  [hz_r (.ishl) 1, hz_r (.iconst (-1)) 1, hz_r (.ixor) 1, hz_r (.iand) 1, hz_m (.invokevirtual 74) 3 [4, 3, 0] [], hz_n, hz_n, hz_r (.aload_n 0) 1, hz_r (.iload_n 3) 1, hz_m (.invokevirtual 162) 3 [6, 2, 1] [], hz_n, hz_n, hz_r (.istore 5) 2, hz_n, hz_r (.aload_n 0) 1, hz_m (.getfield 44) 3 [0, 3] []],
  [hz_n, hz_n, hz_r (.iload 4) 2, hz_n, hz_r (.i2l) 1, hz_m (.invokevirtual 96) 3 [42, 2, 0] [], hz_n, hz_n, hz_r (.aload_n 0) 1, hz_m (.getfield 44) 3 [0, 3] [], hz_n, hz_n, hz_r (.iload 5) 2, hz_n, hz_r (.i2l) 1, hz_m (.invokevirtual 83) 3 [43, 2, 0] []],
  [hz_n, hz_n, hz_r (.iload 4) 2, hz_n, hz_r (.iload 5) 2, hz_n, hz_r (.isub) 1, hz_r (.ireturn) 1]]
/-- HeavierServes$Future.tellChance(II)V -/
def hs_k24 : hs_K := [
  [hz_r (.iload_n 2) 1, hz_r (.ifCond .ne 28) 3, hz_n, hz_n, hz_m (.aload_n 0) 1 [] [true, true, false], hz_m (.getfield 44) 3 [0, 3] [], hz_n, hz_n, hz_r (.aload_n 0) 1, hz_m (.getfield 33) 3 [0, 0] [], hz_n, hz_n, hz_m (.getfield 87) 3 [6, 1] [], hz_n, hz_n, hz_r (.iload_n 1) 1],
  [hz_r (.if_icmp .ne 7) 3, hz_n, hz_n, hz_m (.lconst 1) 1 [] [false, false, false], hz_r (.goto 4) 3, hz_n, hz_n, hz_m (.lconst 0) 1 [] [false, false, false], hz_m (.lconst 1) 1 [] [false, false, false], hz_m (.invokevirtual 178) 3 [45, 3, 0] [], hz_n, hz_n, hz_r (.return_) 1, hz_r (.aload_n 0) 1, hz_m (.getfield 40) 3 [0, 2] [], hz_n],
  [hz_n, hz_r (.aload_n 0) 1, hz_m (.getfield 33) 3 [0, 0] [], hz_n, hz_n, hz_r (.aload_n 0) 1, hz_m (.getfield 26) 3 [0, 7] [], hz_n, hz_n, hz_m (.invokevirtual 182) 3 [31, 3, 0] [], hz_n, hz_n, hz_r (.iload_n 2) 1, hz_r (.iconst 1) 1, hz_r (.if_icmp .ne 24) 3, hz_n],
  [hz_n, hz_m (.aload_n 0) 1 [] [true, true, false], hz_m (.getfield 44) 3 [0, 3] [], hz_n, hz_n, hz_r (.aload_n 0) 1, hz_m (.getfield 26) 3 [0, 7] [], hz_n, hz_n, hz_r (.iconst 1) 1, hz_r (.iload_n 1) 1, hz_r (.iadd) 1, hz_r (.laload) 1, hz_m (.ldc2_w 185) 3 [0, 100000000] [], hz_n, hz_n],
  [hz_m (.invokevirtual 178) 3 [45, 3, 0] [], hz_n, hz_n, hz_r (.goto 18) 3, hz_n, hz_n, hz_m (.aload_n 0) 1 [] [true, true, false], hz_m (.getfield 44) 3 [0, 3] [], hz_n, hz_n, hz_r (.aload_n 0) 1, hz_r (.iload_n 1) 1, hz_m (.invokevirtual 187) 3 [25, 2, 2] [], hz_n, hz_n, hz_m (.ldc2_w 191) 3 [0, 10000000000000000] []],
  [hz_n, hz_n, hz_m (.invokevirtual 178) 3 [45, 3, 0] [], hz_n, hz_n, hz_m (.return_) 1 [] [false, false, false]]]
/-- HeavierServes$Future.chanceInTwo(I)J -/
def hs_k25 : hs_K := [
  [hz_m (.lconst 0) 1 [] [true, true, false, false, false], hz_r (.lstore_n 2) 1, hz_r (.iconst 0) 1, hz_r (.istore 4) 2, hz_n, hz_m (.iload 4) 2 [] [true, true, true, false, true], hz_n, hz_r (.aload_n 0) 1, hz_m (.getfield 36) 3 [0, 1] [], hz_n, hz_n, hz_m (.getfield 61) 3 [8, 9] [], hz_n, hz_n, hz_r (.if_icmp .gt 99) 3, hz_n],
  [hz_n, hz_m (.aload_n 0) 1 [] [true, true, true, false, true], hz_m (.getfield 26) 3 [0, 7] [], hz_n, hz_n, hz_r (.iload 4) 2, hz_n, hz_r (.laload) 1, hz_r (.lconst 0) 1, hz_r (.lcmp) 1, hz_r (.ifCond .le 81) 3, hz_n, hz_n, hz_m (.aload_n 0) 1 [] [true, true, true, false, true], hz_m (.getfield 18) 3 [0, 5] [], hz_n],
  [hz_n, hz_r (.aload_n 0) 1, hz_m (.getfield 33) 3 [0, 0] [], hz_n, hz_n, hz_m (.invokevirtual 48) 3 [52, 2, 0] [], hz_n, hz_n, hz_r (.aload_n 0) 1, hz_m (.getfield 40) 3 [0, 2] [], hz_n, hz_n, hz_r (.aload_n 0) 1, hz_m (.getfield 18) 3 [0, 5] [], hz_n, hz_n],
  [hz_r (.iload 4) 2, hz_n, hz_r (.iconst 1) 1, hz_r (.isub) 1, hz_r (.aload_n 0) 1, hz_m (.getfield 33) 3 [0, 0] [], hz_n, hz_n, hz_m (.getfield 87) 3 [6, 1] [], hz_n, hz_n, hz_r (.if_icmp .ne 7) 3, hz_n, hz_n, hz_m (.iconst (-1)) 1 [] [true, true, true, false, true], hz_r (.goto 7) 3],
  [hz_n, hz_n, hz_m (.iload 4) 2 [] [true, true, true, false, true], hz_n, hz_r (.iconst 1) 1, hz_r (.isub) 1, hz_m (.invokevirtual 146) 3 [28, 3, 0] [true, true, true, false, true], hz_n, hz_n, hz_r (.aload_n 0) 1, hz_m (.getfield 40) 3 [0, 2] [], hz_n, hz_n, hz_r (.aload_n 0) 1, hz_m (.getfield 18) 3 [0, 5] [], hz_n],
  [hz_n, hz_r (.aload_n 0) 1, hz_m (.getfield 30) 3 [0, 8] [], hz_n, hz_n, hz_m (.invokevirtual 182) 3 [31, 3, 0] [], hz_n, hz_n, hz_r (.lload_n 2) 1, hz_r (.aload_n 0) 1, hz_m (.getfield 26) 3 [0, 7] [], hz_n, hz_n, hz_r (.iload 4) 2, hz_n, hz_r (.laload) 1],
  [hz_r (.aload_n 0) 1, hz_m (.getfield 30) 3 [0, 8] [], hz_n, hz_n, hz_r (.iconst 1) 1, hz_r (.iload_n 1) 1, hz_r (.iadd) 1, hz_r (.laload) 1, hz_r (.lmul) 1, hz_r (.ladd) 1, hz_r (.lstore_n 2) 1, hz_m (.iinc 4 1) 3 [] [true, true, true, false, true], hz_n, hz_n, hz_r (.goto (-105)) 3, hz_n],
  [hz_n, hz_m (.lload_n 2) 1 [] [false, false, true, false, false], hz_r (.lreturn) 1]]
/-- HeavierServes$Future.likeliest()I -/
def hs_k26 : hs_K := [
  [hz_m (.aload_n 0) 1 [] [true, false, false], hz_m (.getfield 40) 3 [0, 2] [], hz_n, hz_n, hz_r (.aload_n 0) 1, hz_m (.getfield 33) 3 [0, 0] [], hz_n, hz_n, hz_r (.aload_n 0) 1, hz_m (.getfield 26) 3 [0, 7] [], hz_n, hz_n, hz_m (.invokevirtual 182) 3 [31, 3, 0] [], hz_n, hz_n, hz_r (.iconst 0) 1],
  [hz_r (.istore_n 1) 1, hz_r (.iconst 1) 1, hz_r (.istore_n 2) 1, hz_r (.iload_n 2) 1, hz_r (.aload_n 0) 1, hz_m (.getfield 36) 3 [0, 1] [], hz_n, hz_n, hz_m (.getfield 61) 3 [8, 9] [], hz_n, hz_n, hz_r (.if_icmp .gt 27) 3, hz_n, hz_n, hz_r (.aload_n 0) 1, hz_m (.getfield 26) 3 [0, 7] []],
  [hz_n, hz_n, hz_r (.iload_n 2) 1, hz_r (.laload) 1, hz_r (.aload_n 0) 1, hz_m (.getfield 26) 3 [0, 7] [], hz_n, hz_n, hz_r (.iload_n 1) 1, hz_r (.laload) 1, hz_r (.lcmp) 1, hz_r (.ifCond .le 5) 3, hz_n, hz_n, hz_m (.iload_n 2) 1 [] [true, false, true], hz_r (.istore_n 1) 1],
  [hz_r (.iinc 2 1) 3, hz_n, hz_n, hz_r (.goto (-32)) 3, hz_n, hz_n, hz_m (.aload_n 0) 1 [] [true, true, false], hz_m (.getfield 44) 3 [0, 3] [], hz_n, hz_n, hz_r (.aload_n 0) 1, hz_m (.getfield 26) 3 [0, 7] [], hz_n, hz_n, hz_r (.iload_n 1) 1, hz_r (.laload) 1],
  [hz_m (.ldc2_w 185) 3 [0, 100000000] [], hz_n, hz_n, hz_m (.invokevirtual 178) 3 [45, 3, 0] [], hz_n, hz_n, hz_r (.iload_n 1) 1, hz_r (.iconst 1) 1, hz_r (.isub) 1, hz_r (.ireturn) 1]]
/-- HeavierServes$Office.pass(LHeavierServes$State;II)V -/
def hs_k27 : hs_K := [
  [hz_r (.aload_n 0) 1, hz_r (.aload_n 1) 1, hz_r (.aload_n 0) 1, hz_r (.aload_n 1) 1, hz_r (.iload_n 2) 1, hz_r (.iload_n 3) 1, hz_m (.invokevirtual 23) 3 [29, 4, 1] [], hz_n, hz_n, hz_m (.invokevirtual 27) 3 [28, 3, 0] [], hz_n, hz_n, hz_r (.return_) 1]]
/-- HeavierServes$Office.finish(LHeavierServes$State;I)V -/
def hs_k28 : hs_K := [
  [hz_r (.aload_n 1) 1, hz_r (.iload_n 2) 1, hz_m (.invokevirtual 31) 3 [60, 2, 0] [], hz_n, hz_n, hz_r (.aload_n 0) 1, hz_m (.getfield 9) 3 [1, 0] [], hz_n, hz_n, hz_r (.aload_n 1) 1, hz_m (.invokevirtual 37) 3 [70, 2, 0] [], hz_n, hz_n, hz_r (.aload_n 1) 1, hz_r (.dup) 1, hz_m (.getfield 43) 3 [6, 0] []],
  [hz_n, hz_n, hz_r (.iconst 1) 1, hz_r (.iadd) 1, hz_m (.putfield 43) 3 [6, 0] [], hz_n, hz_n, hz_r (.return_) 1]]
/-- HeavierServes$Office.winner(LHeavierServes$State;II)I -/
def hs_k29 : hs_K := [
  [hz_m (.iconst (-1)) 1 [] [true, true, true, true, false, false, false, false], hz_r (.istore 4) 2, hz_n, hz_r (.aload_n 0) 1, hz_r (.aload_n 1) 1, hz_m (.invokevirtual 47) 3 [30, 2, 1] [], hz_n, hz_n, hz_r (.istore 5) 2, hz_n, hz_r (.iconst 0) 1, hz_r (.istore 6) 2, hz_n, hz_m (.iload 6) 2 [] [true, true, true, true, true, true, true, false], hz_n, hz_r (.aload_n 0) 1],
  [hz_m (.getfield 9) 3 [1, 0] [], hz_n, hz_n, hz_m (.getfield 51) 3 [8, 9] [], hz_n, hz_n, hz_r (.if_icmp .ge 99) 3, hz_n, hz_n, hz_m (.iload 6) 2 [] [true, true, true, true, true, true, true, false], hz_n, hz_r (.aload_n 1) 1, hz_m (.getfield 54) 3 [6, 1] [], hz_n, hz_n, hz_r (.if_icmp .eq 84) 3],
  [hz_n, hz_n, hz_m (.aload_n 1) 1 [] [true, true, true, true, true, true, true, false], hz_r (.iload 6) 2, hz_n, hz_m (.invokevirtual 57) 3 [55, 2, 1] [], hz_n, hz_n, hz_r (.ifCond .ne 6) 3, hz_n, hz_n, hz_m (.goto 72) 3 [] [true, true, true, true, true, true, true, false], hz_n, hz_n, hz_m (.aload_n 0) 1 [] [true, true, true, true, true, true, true, false], hz_m (.getfield 19) 3 [1, 2] []],
  [hz_n, hz_n, hz_r (.aload_n 1) 1, hz_m (.getfield 61) 3 [6, 7] [], hz_n, hz_n, hz_r (.iload 6) 2, hz_n, hz_r (.iaload) 1, hz_m (.invokevirtual 65) 3 [47, 2, 1] [], hz_n, hz_n, hz_r (.istore 7) 2, hz_n, hz_r (.iload 7) 2, hz_n],
  [hz_r (.iload 5) 2, hz_n, hz_r (.if_icmp .gt 6) 3, hz_n, hz_n, hz_m (.goto 46) 3 [] [true, true, true, true, true, true, true, false], hz_n, hz_n, hz_r (.iload_n 2) 1, hz_r (.iload 6) 2, hz_n, hz_r (.ishr) 1, hz_r (.iconst 1) 1, hz_r (.iand) 1, hz_r (.ifCond .ne 29) 3, hz_n],
  [hz_n, hz_r (.iload_n 3) 1, hz_r (.iload 6) 2, hz_n, hz_r (.ishr) 1, hz_r (.iconst 1) 1, hz_r (.iand) 1, hz_r (.ifCond .eq 28) 3, hz_n, hz_n, hz_r (.aload_n 0) 1, hz_m (.getfield 15) 3 [1, 1] [], hz_n, hz_n, hz_r (.aload_n 1) 1, hz_r (.aload_n 0) 1],
  [hz_m (.getfield 9) 3 [1, 0] [], hz_n, hz_n, hz_r (.iload 6) 2, hz_n, hz_m (.invokevirtual 71) 3 [100, 4, 1] [], hz_n, hz_n, hz_r (.ifCond .eq 11) 3, hz_n, hz_n, hz_m (.iload 6) 2 [] [true, true, true, true, false, false, true, true], hz_n, hz_r (.istore 4) 2, hz_n, hz_r (.iload 7) 2],
  [hz_n, hz_r (.istore 5) 2, hz_n, hz_m (.iinc 6 1) 3 [] [true, true, true, true, true, true, true, false], hz_n, hz_n, hz_r (.goto (-105)) 3, hz_n, hz_n, hz_m (.iload 4) 2 [] [false, false, false, false, true, false, false, false], hz_n, hz_r (.ireturn) 1]]
/-- HeavierServes$Office.shownOfServer(LHeavierServes$State;)I -/
def hs_k30 : hs_K := [
  [hz_r (.aload_n 1) 1, hz_m (.getfield 54) 3 [6, 1] [], hz_n, hz_n, hz_r (.ifCond .ge 7) 3, hz_n, hz_n, hz_m (.iconst (-1)) 1 [] [false, false], hz_r (.goto 19) 3, hz_n, hz_n, hz_r (.aload_n 0) 1, hz_m (.getfield 19) 3 [1, 2] [], hz_n, hz_n, hz_r (.aload_n 1) 1],
  [hz_m (.getfield 61) 3 [6, 7] [], hz_n, hz_n, hz_r (.aload_n 1) 1, hz_m (.getfield 54) 3 [6, 1] [], hz_n, hz_n, hz_r (.iaload) 1, hz_m (.invokevirtual 65) 3 [47, 2, 1] [], hz_n, hz_n, hz_m (.ireturn) 1 [] [false, false]]]
/-- HeavierServes$Office.shares(LHeavierServes$State;[J)V -/
def hs_k31 : hs_K := [
  [hz_m (.aload_n 0) 1 [] [true, true, true, false, false, false, false, false, false], hz_r (.aload_n 1) 1, hz_m (.invokevirtual 77) 3 [32, 2, 1] [], hz_n, hz_n, hz_r (.istore_n 3) 1, hz_r (.iconst 0) 1, hz_r (.istore 4) 2, hz_n, hz_m (.iload 4) 2 [] [true, true, true, true, true, false, false, false, false], hz_n, hz_r (.aload_n 2) 1, hz_r (.arraylength) 1, hz_r (.if_icmp .ge 14) 3, hz_n, hz_n],
  [hz_m (.aload_n 2) 1 [] [true, true, true, true, true, false, false, false, false], hz_r (.iload 4) 2, hz_n, hz_r (.lconst 0) 1, hz_r (.lastore) 1, hz_r (.iinc 4 1) 3, hz_n, hz_n, hz_r (.goto (-15)) 3, hz_n, hz_n, hz_m (.ldc2_w 80) 3 [0, 100000000] [true, true, true, true, false, false, false, false, false], hz_n, hz_n, hz_r (.lstore 4) 2, hz_n],
  [hz_r (.iconst 0) 1, hz_r (.istore 6) 2, hz_n, hz_m (.iload 6) 2 [] [true, true, true, true, true, false, true, false, false], hz_n, hz_r (.bipush 8) 2, hz_n, hz_r (.if_icmp .ge 73) 3, hz_n, hz_n, hz_m (.iload_n 3) 1 [] [true, true, true, true, true, false, true, false, false], hz_r (.ifCond .eq 69) 3, hz_n, hz_n, hz_m (.aload_n 0) 1 [] [true, true, true, true, true, false, true, false, false], hz_r (.aload_n 1) 1],
  [hz_r (.iload_n 3) 1, hz_m (.invokevirtual 82) 3 [33, 3, 1] [], hz_n, hz_n, hz_r (.istore 7) 2, hz_n, hz_r (.aload_n 0) 1, hz_m (.getfield 9) 3 [1, 0] [], hz_n, hz_n, hz_m (.getfield 86) 3 [8, 1] [], hz_n, hz_n, hz_r (.iload 7) 2, hz_n, hz_r (.iaload) 1],
  [hz_r (.istore 8) 2, hz_n, hz_r (.aload_n 2) 1, hz_r (.iconst 1) 1, hz_r (.iload 7) 2, hz_n, hz_r (.iadd) 1, hz_r (.lload 4) 2, hz_n, hz_m (.ldc2_w 89) 3 [0, 10] [], hz_n, hz_n, hz_r (.ldiv) 1, hz_r (.bipush 10) 2, hz_n, hz_r (.iload 8) 2],
  [hz_n, hz_r (.isub) 1, hz_r (.i2l) 1, hz_r (.lmul) 1, hz_r (.lastore) 1, hz_r (.lload 4) 2, hz_n, hz_m (.ldc2_w 89) 3 [0, 10] [], hz_n, hz_n, hz_r (.ldiv) 1, hz_r (.iload 8) 2, hz_n, hz_r (.i2l) 1, hz_r (.lmul) 1, hz_r (.lstore 4) 2],
  [hz_n, hz_r (.iload_n 3) 1, hz_r (.iconst 1) 1, hz_r (.iload 7) 2, hz_n, hz_r (.ishl) 1, hz_r (.iconst (-1)) 1, hz_r (.ixor) 1, hz_r (.iand) 1, hz_r (.istore_n 3) 1, hz_r (.iinc 6 1) 3, hz_n, hz_n, hz_r (.goto (-74)) 3, hz_n, hz_n],
  [hz_m (.aload_n 2) 1 [] [false, true, true, false, true, false, false, false, false], hz_r (.iconst 1) 1, hz_r (.aload_n 1) 1, hz_m (.getfield 54) 3 [6, 1] [], hz_n, hz_n, hz_r (.iadd) 1, hz_r (.dup2) 1, hz_r (.laload) 1, hz_r (.lload 4) 2, hz_n, hz_r (.ladd) 1, hz_r (.lastore) 1, hz_r (.return_) 1]]
/-- HeavierServes$Office.heavierWho(LHeavierServes$State;)I -/
def hs_k32 : hs_K := [
  [hz_m (.iconst 0) 1 [] [true, true, false, false, false], hz_r (.istore_n 2) 1, hz_r (.aload_n 0) 1, hz_r (.aload_n 1) 1, hz_m (.invokevirtual 47) 3 [30, 2, 1] [], hz_n, hz_n, hz_r (.istore_n 3) 1, hz_r (.iconst 0) 1, hz_r (.istore 4) 2, hz_n, hz_r (.iload 4) 2, hz_n, hz_r (.aload_n 0) 1, hz_m (.getfield 9) 3 [1, 0] [], hz_n],
  [hz_n, hz_m (.getfield 51) 3 [8, 9] [], hz_n, hz_n, hz_r (.if_icmp .ge 69) 3, hz_n, hz_n, hz_r (.iload 4) 2, hz_n, hz_r (.aload_n 1) 1, hz_m (.getfield 54) 3 [6, 1] [], hz_n, hz_n, hz_r (.if_icmp .eq 54) 3, hz_n, hz_n],
  [hz_r (.aload_n 1) 1, hz_r (.iload 4) 2, hz_n, hz_m (.invokevirtual 57) 3 [55, 2, 1] [], hz_n, hz_n, hz_r (.ifCond .eq 45) 3, hz_n, hz_n, hz_r (.aload_n 0) 1, hz_m (.getfield 19) 3 [1, 2] [], hz_n, hz_n, hz_r (.aload_n 1) 1, hz_m (.getfield 61) 3 [6, 7] [], hz_n],
  [hz_n, hz_r (.iload 4) 2, hz_n, hz_r (.iaload) 1, hz_m (.invokevirtual 65) 3 [47, 2, 1] [], hz_n, hz_n, hz_r (.iload_n 3) 1, hz_r (.if_icmp .le 27) 3, hz_n, hz_n, hz_r (.aload_n 0) 1, hz_m (.getfield 15) 3 [1, 1] [], hz_n, hz_n, hz_r (.aload_n 1) 1],
  [hz_r (.aload_n 0) 1, hz_m (.getfield 9) 3 [1, 0] [], hz_n, hz_n, hz_r (.iload 4) 2, hz_n, hz_m (.invokevirtual 71) 3 [100, 4, 1] [], hz_n, hz_n, hz_r (.ifCond .eq 10) 3, hz_n, hz_n, hz_r (.iload_n 2) 1, hz_r (.iconst 1) 1, hz_r (.iload 4) 2, hz_n],
  [hz_r (.ishl) 1, hz_r (.ior) 1, hz_r (.istore_n 2) 1, hz_r (.iinc 4 1) 3, hz_n, hz_n, hz_r (.goto (-75)) 3, hz_n, hz_n, hz_m (.iload_n 2) 1 [] [false, false, true, false, false], hz_r (.ireturn) 1]]
/-- HeavierServes$Office.heaviestOf(LHeavierServes$State;I)I -/
def hs_k33 : hs_K := [
  [hz_m (.iconst 0) 1 [] [true, true, true, false, false, false], hz_r (.istore_n 3) 1, hz_r (.iconst (-1)) 1, hz_r (.istore 4) 2, hz_n, hz_r (.iconst 0) 1, hz_r (.istore 5) 2, hz_n, hz_r (.iload 5) 2, hz_n, hz_r (.bipush 8) 2, hz_n, hz_r (.if_icmp .ge 56) 3, hz_n, hz_n, hz_r (.iload_n 2) 1],
  [hz_r (.iload 5) 2, hz_n, hz_r (.ishr) 1, hz_r (.iconst 1) 1, hz_r (.iand) 1, hz_r (.ifCond .eq 41) 3, hz_n, hz_n, hz_r (.aload_n 0) 1, hz_m (.getfield 19) 3 [1, 2] [], hz_n, hz_n, hz_r (.aload_n 1) 1, hz_m (.getfield 61) 3 [6, 7] [], hz_n, hz_n],
  [hz_r (.iload 5) 2, hz_n, hz_r (.iaload) 1, hz_m (.invokevirtual 65) 3 [47, 2, 1] [], hz_n, hz_n, hz_r (.iload 4) 2, hz_n, hz_r (.if_icmp .le 22) 3, hz_n, hz_n, hz_m (.iload 5) 2 [] [true, true, true, false, false, true], hz_n, hz_r (.istore_n 3) 1, hz_r (.aload_n 0) 1, hz_m (.getfield 19) 3 [1, 2] []],
  [hz_n, hz_n, hz_r (.aload_n 1) 1, hz_m (.getfield 61) 3 [6, 7] [], hz_n, hz_n, hz_r (.iload 5) 2, hz_n, hz_r (.iaload) 1, hz_m (.invokevirtual 65) 3 [47, 2, 1] [], hz_n, hz_n, hz_r (.istore 4) 2, hz_n, hz_r (.iinc 5 1) 3, hz_n],
  [hz_n, hz_r (.goto (-57)) 3, hz_n, hz_n, hz_m (.iload_n 3) 1 [] [false, false, false, true, false, false], hz_r (.ireturn) 1]]
/-- HeavierServes$Pairs.append(II)I -/
def hs_k34 : hs_K := [
  [hz_r (.aload_n 0) 1, hz_m (.getfield 24) 3 [2, 2] [], hz_n, hz_n, hz_r (.ifCond .lt 15) 3, hz_n, hz_n, hz_r (.aload_n 0) 1, hz_m (.getfield 24) 3 [2, 2] [], hz_n, hz_n, hz_r (.aload_n 0) 1, hz_m (.getfield 15) 3 [2, 0] [], hz_n, hz_n, hz_r (.arraylength) 1],
  [hz_r (.if_icmp .lt 5) 3, hz_n, hz_n, hz_m (.iconst (-1)) 1 [] [false, false, false], hz_r (.ireturn) 1, hz_r (.aload_n 0) 1, hz_m (.getfield 15) 3 [2, 0] [], hz_n, hz_n, hz_r (.aload_n 0) 1, hz_m (.getfield 24) 3 [2, 2] [], hz_n, hz_n, hz_r (.iload_n 1) 1, hz_r (.iastore) 1, hz_r (.aload_n 0) 1],
  [hz_m (.getfield 21) 3 [2, 1] [], hz_n, hz_n, hz_r (.aload_n 0) 1, hz_m (.getfield 24) 3 [2, 2] [], hz_n, hz_n, hz_r (.iload_n 2) 1, hz_r (.iastore) 1, hz_r (.aload_n 0) 1, hz_r (.dup) 1, hz_m (.getfield 24) 3 [2, 2] [], hz_n, hz_n, hz_r (.iconst 1) 1, hz_r (.iadd) 1],
  [hz_m (.putfield 24) 3 [2, 2] [], hz_n, hz_n, hz_r (.aload_n 0) 1, hz_m (.getfield 24) 3 [2, 2] [], hz_n, hz_n, hz_r (.ireturn) 1]]
/-- HeavierServes$Pairs.person(I)I -/
def hs_k35 : hs_K := [
  [hz_r (.iload_n 1) 1, hz_r (.ifCond .lt 12) 3, hz_n, hz_n, hz_r (.iload_n 1) 1, hz_r (.aload_n 0) 1, hz_m (.getfield 15) 3 [2, 0] [], hz_n, hz_n, hz_r (.arraylength) 1, hz_r (.if_icmp .lt 7) 3, hz_n, hz_n, hz_m (.iconst (-1)) 1 [] [false, false], hz_r (.goto 9) 3, hz_n],
  [hz_n, hz_r (.aload_n 0) 1, hz_m (.getfield 15) 3 [2, 0] [], hz_n, hz_n, hz_r (.iload_n 1) 1, hz_r (.iaload) 1, hz_m (.ireturn) 1 [] [false, false]]]
/-- HeavierServes$Pairs.value(I)I -/
def hs_k36 : hs_K := [
  [hz_r (.iload_n 1) 1, hz_r (.ifCond .lt 12) 3, hz_n, hz_n, hz_r (.iload_n 1) 1, hz_r (.aload_n 0) 1, hz_m (.getfield 21) 3 [2, 1] [], hz_n, hz_n, hz_r (.arraylength) 1, hz_r (.if_icmp .lt 7) 3, hz_n, hz_n, hz_m (.iconst (-1)) 1 [] [false, false], hz_r (.goto 9) 3, hz_n],
  [hz_n, hz_r (.aload_n 0) 1, hz_m (.getfield 21) 3 [2, 1] [], hz_n, hz_n, hz_r (.iload_n 1) 1, hz_r (.iaload) 1, hz_m (.ireturn) 1 [] [false, false]]]
/-- HeavierServes$Past.remember(LHeavierServes$State;)V -/
def hs_k37 : hs_K := [
  [hz_r (.aload_n 0) 1, hz_m (.getfield 25) 3 [3, 4] [], hz_n, hz_n, hz_r (.bipush 20) 2, hz_n, hz_r (.if_icmp .ne 26) 3, hz_n, hz_n, hz_r (.aload_n 0) 1, hz_r (.aload_n 0) 1, hz_m (.getfield 29) 3 [3, 3] [], hz_n, hz_n, hz_r (.iconst 1) 1, hz_r (.iadd) 1],
  [hz_r (.bipush 20) 2, hz_n, hz_r (.irem) 1, hz_m (.putfield 29) 3 [3, 3] [], hz_n, hz_n, hz_r (.aload_n 0) 1, hz_r (.dup) 1, hz_m (.getfield 25) 3 [3, 4] [], hz_n, hz_n, hz_r (.iconst 1) 1, hz_r (.isub) 1, hz_m (.putfield 25) 3 [3, 4] [], hz_n, hz_n],
  [hz_r (.aload_n 0) 1, hz_m (.getfield 13) 3 [3, 0] [], hz_n, hz_n, hz_r (.aload_n 0) 1, hz_m (.getfield 29) 3 [3, 3] [], hz_n, hz_n, hz_r (.aload_n 0) 1, hz_m (.getfield 25) 3 [3, 4] [], hz_n, hz_n, hz_r (.iadd) 1, hz_r (.bipush 20) 2, hz_n, hz_m (.invokestatic 32) 3 [1, 2, 1] []],
  [hz_n, hz_n, hz_r (.aaload) 1, hz_r (.aload_n 1) 1, hz_m (.invokevirtual 38) 3 [53, 2, 0] [], hz_n, hz_n, hz_r (.aload_n 0) 1, hz_r (.dup) 1, hz_m (.getfield 25) 3 [3, 4] [], hz_n, hz_n, hz_r (.iconst 1) 1, hz_r (.iadd) 1, hz_m (.putfield 25) 3 [3, 4] [], hz_n],
  [hz_n, hz_r (.return_) 1]]
/-- HeavierServes$Past.stepBack(LHeavierServes$State;)Z -/
def hs_k38 : hs_K := [
  [hz_r (.aload_n 0) 1, hz_m (.getfield 25) 3 [3, 4] [], hz_n, hz_n, hz_r (.iconst 1) 1, hz_r (.if_icmp .ge 5) 3, hz_n, hz_n, hz_m (.iconst 0) 1 [] [false, false], hz_r (.ireturn) 1, hz_r (.aload_n 0) 1, hz_r (.dup) 1, hz_m (.getfield 25) 3 [3, 4] [], hz_n, hz_n, hz_r (.iconst 1) 1],
  [hz_r (.isub) 1, hz_m (.putfield 25) 3 [3, 4] [], hz_n, hz_n, hz_r (.aload_n 1) 1, hz_r (.aload_n 0) 1, hz_m (.getfield 13) 3 [3, 0] [], hz_n, hz_n, hz_r (.aload_n 0) 1, hz_m (.getfield 29) 3 [3, 3] [], hz_n, hz_n, hz_r (.aload_n 0) 1, hz_m (.getfield 25) 3 [3, 4] [], hz_n],
  [hz_n, hz_r (.iadd) 1, hz_r (.bipush 20) 2, hz_n, hz_m (.invokestatic 32) 3 [1, 2, 1] [], hz_n, hz_n, hz_r (.aaload) 1, hz_m (.invokevirtual 38) 3 [53, 2, 0] [], hz_n, hz_n, hz_r (.iconst 1) 1, hz_r (.ireturn) 1]]
/-- HeavierServes$Past.forgetSteps()V -/
def hs_k39 : hs_K := [
  [hz_r (.aload_n 0) 1, hz_r (.iconst 0) 1, hz_m (.putfield 25) 3 [3, 4] [], hz_n, hz_n, hz_r (.return_) 1]]
/-- HeavierServes$Past.keepAside(ILHeavierServes$State;I)Z -/
def hs_k40 : hs_K := [
  [hz_r (.iload_n 1) 1, hz_r (.ifCond .lt 8) 3, hz_n, hz_n, hz_r (.iload_n 1) 1, hz_r (.iconst 3) 1, hz_r (.if_icmp .lt 5) 3, hz_n, hz_n, hz_m (.iconst 0) 1 [] [false, false, false, false], hz_r (.ireturn) 1, hz_r (.aload_n 0) 1, hz_m (.getfield 17) 3 [3, 1] [], hz_n, hz_n, hz_r (.iload_n 1) 1],
  [hz_r (.aaload) 1, hz_r (.aload_n 2) 1, hz_m (.invokevirtual 38) 3 [53, 2, 0] [], hz_n, hz_n, hz_r (.aload_n 0) 1, hz_m (.getfield 20) 3 [3, 2] [], hz_n, hz_n, hz_r (.iload_n 1) 1, hz_r (.iload_n 3) 1, hz_r (.iastore) 1, hz_r (.iconst 1) 1, hz_r (.ireturn) 1]]
/-- HeavierServes$Past.takeAgain(ILHeavierServes$State;I)Z -/
def hs_k41 : hs_K := [
  [hz_r (.iload_n 1) 1, hz_r (.ifCond .lt 18) 3, hz_n, hz_n, hz_r (.iload_n 1) 1, hz_r (.iconst 3) 1, hz_r (.if_icmp .ge 13) 3, hz_n, hz_n, hz_r (.aload_n 0) 1, hz_m (.getfield 20) 3 [3, 2] [], hz_n, hz_n, hz_r (.iload_n 1) 1, hz_r (.iaload) 1, hz_r (.iload_n 3) 1],
  [hz_r (.if_icmp .eq 5) 3, hz_n, hz_n, hz_m (.iconst 0) 1 [] [false, false, false, false], hz_r (.ireturn) 1, hz_m (.aload_n 2) 1 [] [true, true, true, false], hz_r (.aload_n 0) 1, hz_m (.getfield 17) 3 [3, 1] [], hz_n, hz_n, hz_r (.iload_n 1) 1, hz_r (.aaload) 1, hz_m (.invokevirtual 38) 3 [53, 2, 0] [], hz_n, hz_n, hz_r (.aload_n 0) 1],
  [hz_m (.invokevirtual 42) 3 [39, 1, 0] [], hz_n, hz_n, hz_r (.iconst 1) 1, hz_r (.ireturn) 1]]
/-- HeavierServes$Row.begin(J)V -/
def hs_k42 : hs_K := [
  [hz_m (.aload_n 0) 1 [] [true, true, false], hz_r (.iconst 0) 1, hz_m (.putfield 13) 3 [4, 1] [], hz_n, hz_n, hz_r (.aload_n 0) 1, hz_r (.lload_n 1) 1, hz_m (.invokevirtual 17) 3 [43, 2, 0] [], hz_n, hz_n, hz_r (.return_) 1]]
/-- HeavierServes$Row.add(J)V -/
def hs_k43 : hs_K := [
  [hz_m (.aload_n 0) 1 [] [true, true, false], hz_m (.getfield 13) 3 [4, 1] [], hz_n, hz_n, hz_r (.ifCond .lt 32) 3, hz_n, hz_n, hz_m (.aload_n 0) 1 [] [true, true, false], hz_m (.getfield 13) 3 [4, 1] [], hz_n, hz_n, hz_r (.bipush 16) 2, hz_n, hz_r (.if_icmp .ge 23) 3, hz_n, hz_n],
  [hz_m (.aload_n 0) 1 [] [true, true, false], hz_m (.getfield 9) 3 [4, 0] [], hz_n, hz_n, hz_r (.aload_n 0) 1, hz_m (.getfield 13) 3 [4, 1] [], hz_n, hz_n, hz_r (.lload_n 1) 1, hz_r (.lastore) 1, hz_r (.aload_n 0) 1, hz_r (.dup) 1, hz_m (.getfield 13) 3 [4, 1] [], hz_n, hz_n, hz_r (.iconst 1) 1],
  [hz_r (.iadd) 1, hz_m (.putfield 13) 3 [4, 1] [], hz_n, hz_n, hz_m (.return_) 1 [] [false, false, false]]]
/-- HeavierServes$Row.range(III)V -/
def hs_k44 : hs_K := [
  [hz_r (.aload_n 0) 1, hz_r (.iconst 0) 1, hz_m (.putfield 13) 3 [4, 1] [], hz_n, hz_n, hz_r (.iload_n 1) 1, hz_r (.ifCond .le 15) 3, hz_n, hz_n, hz_m (.aload_n 0) 1 [] [true, false, true, true], hz_r (.iload_n 2) 1, hz_r (.i2l) 1, hz_m (.invokevirtual 17) 3 [43, 2, 0] [], hz_n, hz_n, hz_r (.aload_n 0) 1],
  [hz_r (.iload_n 3) 1, hz_r (.i2l) 1, hz_m (.invokevirtual 17) 3 [43, 2, 0] [], hz_n, hz_n, hz_m (.return_) 1 [] [false, false, false, false]]]
/-- HeavierServes$Row.fraction(JJ)V -/
def hs_k45 : hs_K := [
  [hz_m (.lload_n 1) 1 [] [true, true, false, true, false, false, false], hz_r (.lload_n 3) 1, hz_m (.invokestatic 21) 3 [46, 2, 2] [], hz_n, hz_n, hz_r (.lstore 5) 2, hz_n, hz_r (.lload 5) 2, hz_n, hz_r (.lconst 0) 1, hz_r (.lcmp) 1, hz_r (.ifCond .le 19) 3, hz_n, hz_n, hz_m (.aload_n 0) 1 [] [true, true, false, true, false, true, false], hz_r (.lload_n 1) 1],
  [hz_r (.lload 5) 2, hz_n, hz_r (.ldiv) 1, hz_m (.invokevirtual 25) 3 [42, 2, 0] [], hz_n, hz_n, hz_r (.aload_n 0) 1, hz_r (.lload_n 3) 1, hz_r (.lload 5) 2, hz_n, hz_r (.ldiv) 1, hz_m (.invokevirtual 17) 3 [43, 2, 0] [], hz_n, hz_n, hz_m (.return_) 1 [] [false, false, false, false, false, false, false]]]
/-- HeavierServes$Row.commonDivisor(JJ)J -/
def hs_k46 : hs_K := [
  [hz_m (.iconst 0) 1 [] [true, false, true, false, false, false, false], hz_r (.istore 4) 2, hz_n, hz_m (.iload 4) 2 [] [true, false, true, false, true, false, false], hz_n, hz_r (.sipush 200) 3, hz_n, hz_n, hz_r (.if_icmp .ge 25) 3, hz_n, hz_n, hz_m (.lload_n 2) 1 [] [true, false, true, false, true, false, false], hz_r (.lconst 0) 1, hz_r (.lcmp) 1, hz_r (.ifCond .eq 19) 3, hz_n],
  [hz_n, hz_m (.lload_n 0) 1 [] [true, false, true, false, true, false, false], hz_r (.lload_n 2) 1, hz_r (.lrem) 1, hz_r (.lstore 5) 2, hz_n, hz_r (.lload_n 2) 1, hz_r (.lstore_n 0) 1, hz_r (.lload 5) 2, hz_n, hz_r (.lstore_n 2) 1, hz_r (.iinc 4 1) 3, hz_n, hz_n, hz_r (.goto (-27)) 3, hz_n],
  [hz_n, hz_m (.lload_n 0) 1 [] [true, false, false, false, false, false, false], hz_r (.lreturn) 1]]
/-- HeavierServes$Scale.shows(I)I -/
def hs_k47 : hs_K := [
  [hz_m (.iload_n 1) 1 [] [true, true, false], hz_r (.aload_n 0) 1, hz_m (.getfield 15) 3 [5, 1] [], hz_n, hz_n, hz_r (.iadd) 1, hz_r (.istore_n 2) 1, hz_r (.iload_n 2) 1, hz_r (.ifCond .ge 5) 3, hz_n, hz_n, hz_m (.iconst 0) 1 [] [false, false, false], hz_r (.ireturn) 1, hz_m (.aload_n 0) 1 [] [true, false, true], hz_m (.getfield 9) 3 [5, 0] [], hz_n],
  [hz_n, hz_r (.iconst 1) 1, hz_r (.if_icmp .ge 7) 3, hz_n, hz_n, hz_m (.iload_n 2) 1 [] [false, false, true], hz_r (.goto 11) 3, hz_n, hz_n, hz_m (.iload_n 2) 1 [] [true, false, true], hz_r (.iload_n 2) 1, hz_r (.aload_n 0) 1, hz_m (.getfield 9) 3 [5, 0] [], hz_n, hz_n, hz_r (.irem) 1],
  [hz_r (.isub) 1, hz_m (.ireturn) 1 [] [false, false, false]]]
/-- HeavierServes$Scale.misfits(LHeavierServes$Pairs;[II)I -/
def hs_k48 : hs_K := [
  [hz_m (.iconst 0) 1 [] [true, true, true, true, false, false, false], hz_r (.istore 4) 2, hz_n, hz_r (.iconst 0) 1, hz_r (.istore 5) 2, hz_n, hz_m (.iload 5) 2 [] [true, true, true, true, true, true, false], hz_n, hz_r (.aload_n 1) 1, hz_m (.getfield 18) 3 [2, 2] [], hz_n, hz_n, hz_r (.if_icmp .ge 65) 3, hz_n, hz_n, hz_m (.aload_n 1) 1 [] [true, true, true, true, true, true, false]],
  [hz_r (.iload 5) 2, hz_n, hz_m (.invokevirtual 23) 3 [35, 2, 1] [], hz_n, hz_n, hz_r (.istore 6) 2, hz_n, hz_r (.iload 6) 2, hz_n, hz_r (.ifCond .lt 46) 3, hz_n, hz_n, hz_r (.iload 6) 2, hz_n, hz_r (.aload_n 2) 1, hz_r (.arraylength) 1],
  [hz_r (.if_icmp .lt 6) 3, hz_n, hz_n, hz_m (.goto 36) 3 [] [true, true, true, true, true, true, false], hz_n, hz_n, hz_r (.aload_n 0) 1, hz_r (.aload_n 2) 1, hz_r (.iload 6) 2, hz_n, hz_r (.iaload) 1, hz_r (.iload_n 3) 1, hz_r (.iadd) 1, hz_r (.aload_n 0) 1, hz_m (.getfield 15) 3 [5, 1] [], hz_n],
  [hz_n, hz_r (.isub) 1, hz_m (.invokevirtual 27) 3 [47, 2, 1] [], hz_n, hz_n, hz_r (.aload_n 1) 1, hz_r (.iload 5) 2, hz_n, hz_m (.invokevirtual 30) 3 [36, 2, 1] [], hz_n, hz_n, hz_r (.if_icmp .eq 12) 3, hz_n, hz_n, hz_r (.iload 4) 2, hz_n],
  [hz_r (.iconst 1) 1, hz_r (.iload 6) 2, hz_n, hz_r (.ishl) 1, hz_r (.ior) 1, hz_r (.istore 4) 2, hz_n, hz_m (.iinc 5 1) 3 [] [true, true, true, true, true, true, false], hz_n, hz_n, hz_r (.goto (-68)) 3, hz_n, hz_n, hz_m (.iload 4) 2 [] [false, false, false, false, true, false, false], hz_n, hz_r (.ireturn) 1]]
/-- HeavierServes$Scale.possibleGrains(LHeavierServes$Pairs;I)I -/
def hs_k49 : hs_K := [
  [hz_m (.iconst 0) 1 [] [true, true, true, false, false, false, false], hz_r (.istore_n 3) 1, hz_r (.iconst 1) 1, hz_r (.istore 4) 2, hz_n, hz_m (.iload 4) 2 [] [true, true, true, true, true, false, false], hz_n, hz_r (.bipush 9) 2, hz_n, hz_r (.if_icmp .gt 63) 3, hz_n, hz_n, hz_m (.iconst 1) 1 [] [true, true, true, true, true, false, false], hz_r (.istore 5) 2, hz_n, hz_r (.iconst 0) 1],
  [hz_r (.istore 6) 2, hz_n, hz_r (.iload 6) 2, hz_n, hz_r (.iload_n 2) 1, hz_r (.if_icmp .ge 33) 3, hz_n, hz_n, hz_r (.iload 5) 2, hz_n, hz_r (.ifCond .eq 28) 3, hz_n, hz_n, hz_m (.aload_n 0) 1 [] [true, true, true, true, true, false, true], hz_r (.aload_n 1) 1, hz_r (.iload 6) 2],
  [hz_n, hz_r (.iload 4) 2, hz_n, hz_m (.invokevirtual 33) 3 [50, 4, 1] [], hz_n, hz_n, hz_r (.ifCond .le 7) 3, hz_n, hz_n, hz_m (.iconst 1) 1 [] [true, true, true, true, true, false, true], hz_r (.goto 4) 3, hz_n, hz_n, hz_m (.iconst 0) 1 [] [true, true, true, true, true, false, true], hz_m (.istore 5) 2 [] [true, true, true, true, true, false, true], hz_n],
  [hz_r (.iinc 6 1) 3, hz_n, hz_n, hz_r (.goto (-33)) 3, hz_n, hz_n, hz_m (.iload 5) 2 [] [true, true, true, true, true, true, false], hz_n, hz_r (.ifCond .eq 10) 3, hz_n, hz_n, hz_m (.iload_n 3) 1 [] [true, true, true, true, true, false, false], hz_r (.iconst 1) 1, hz_r (.iload 4) 2, hz_n, hz_r (.ishl) 1],
  [hz_r (.ior) 1, hz_r (.istore_n 3) 1, hz_m (.iinc 4 1) 3 [] [true, true, true, true, true, false, false], hz_n, hz_n, hz_r (.goto (-64)) 3, hz_n, hz_n, hz_m (.iload_n 3) 1 [] [false, false, false, true, false, false, false], hz_r (.ireturn) 1]]
/-- HeavierServes$Scale.narrow(LHeavierServes$Pairs;II)I -/
def hs_k50 : hs_K := [
  [hz_m (.aload_n 0) 1 [] [true, true, true, true, false], hz_r (.iconst 1) 1, hz_m (.putfield 37) 3 [5, 2] [], hz_n, hz_n, hz_r (.aload_n 0) 1, hz_r (.sipush 999) 3, hz_n, hz_n, hz_m (.putfield 40) 3 [5, 3] [], hz_n, hz_n, hz_r (.iconst 0) 1, hz_r (.istore 4) 2, hz_n, hz_r (.iload 4) 2],
  [hz_n, hz_r (.aload_n 1) 1, hz_m (.getfield 18) 3 [2, 2] [], hz_n, hz_n, hz_r (.if_icmp .ge 30) 3, hz_n, hz_n, hz_r (.aload_n 1) 1, hz_r (.iload 4) 2, hz_n, hz_m (.invokevirtual 23) 3 [35, 2, 1] [], hz_n, hz_n, hz_r (.iload_n 2) 1, hz_r (.if_icmp .ne 14) 3],
  [hz_n, hz_n, hz_r (.aload_n 0) 1, hz_r (.aload_n 1) 1, hz_r (.iload 4) 2, hz_n, hz_m (.invokevirtual 30) 3 [36, 2, 1] [], hz_n, hz_n, hz_r (.iload_n 3) 1, hz_m (.invokevirtual 43) 3 [51, 3, 0] [], hz_n, hz_n, hz_r (.iinc 4 1) 3, hz_n, hz_n],
  [hz_r (.goto (-33)) 3, hz_n, hz_n, hz_m (.iconst 0) 1 [] [true, false, false, false, false], hz_r (.aload_n 0) 1, hz_m (.getfield 40) 3 [5, 3] [], hz_n, hz_n, hz_r (.aload_n 0) 1, hz_m (.getfield 37) 3 [5, 2] [], hz_n, hz_n, hz_r (.isub) 1, hz_r (.iconst 1) 1, hz_r (.iadd) 1, hz_m (.invokestatic 47) 3 [2, 2, 1] []],
  [hz_n, hz_n, hz_r (.ireturn) 1]]
/-- HeavierServes$Scale.narrowBy(II)V -/
def hs_k51 : hs_K := [
  [hz_r (.iload_n 2) 1, hz_r (.iconst 1) 1, hz_r (.if_icmp .lt 9) 3, hz_n, hz_n, hz_r (.iload_n 1) 1, hz_r (.iload_n 2) 1, hz_r (.irem) 1, hz_r (.ifCond .eq 9) 3, hz_n, hz_n, hz_m (.aload_n 0) 1 [] [true, false, false], hz_r (.iconst 0) 1, hz_m (.putfield 40) 3 [5, 3] [], hz_n, hz_n],
  [hz_r (.return_) 1, hz_r (.iload_n 1) 1, hz_r (.ifCond .le 20) 3, hz_n, hz_n, hz_r (.aload_n 0) 1, hz_r (.aload_n 0) 1, hz_m (.getfield 37) 3 [5, 2] [], hz_n, hz_n, hz_r (.iload_n 1) 1, hz_r (.aload_n 0) 1, hz_m (.getfield 15) 3 [5, 1] [], hz_n, hz_n, hz_r (.isub) 1],
  [hz_m (.invokestatic 47) 3 [2, 2, 1] [], hz_n, hz_n, hz_m (.putfield 37) 3 [5, 2] [], hz_n, hz_n, hz_r (.aload_n 0) 1, hz_r (.aload_n 0) 1, hz_m (.getfield 40) 3 [5, 3] [], hz_n, hz_n, hz_r (.iload_n 1) 1, hz_r (.iload_n 2) 1, hz_r (.iadd) 1, hz_r (.iconst 1) 1, hz_r (.isub) 1],
  [hz_r (.aload_n 0) 1, hz_m (.getfield 15) 3 [5, 1] [], hz_n, hz_n, hz_r (.isub) 1, hz_m (.invokestatic 53) 3 [3, 2, 1] [], hz_n, hz_n, hz_m (.putfield 40) 3 [5, 3] [], hz_n, hz_n, hz_r (.return_) 1]]
/-- HeavierServes$State.follow(LHeavierServes$State;)V -/
def hs_k52 : hs_K := [
  [hz_r (.aload_n 0) 1, hz_r (.aload_n 1) 1, hz_m (.getfield 34) 3 [6, 0] [], hz_n, hz_n, hz_m (.putfield 34) 3 [6, 0] [], hz_n, hz_n, hz_r (.aload_n 0) 1, hz_r (.aload_n 1) 1, hz_m (.getfield 9) 3 [6, 1] [], hz_n, hz_n, hz_m (.putfield 9) 3 [6, 1] [], hz_n, hz_n],
  [hz_r (.aload_n 0) 1, hz_r (.aload_n 1) 1, hz_m (.getfield 37) 3 [6, 2] [], hz_n, hz_n, hz_m (.putfield 37) 3 [6, 2] [], hz_n, hz_n, hz_r (.aload_n 0) 1, hz_r (.aload_n 1) 1, hz_m (.getfield 40) 3 [6, 3] [], hz_n, hz_n, hz_m (.putfield 40) 3 [6, 3] [], hz_n, hz_n],
  [hz_r (.aload_n 0) 1, hz_r (.aload_n 1) 1, hz_m (.getfield 43) 3 [6, 4] [], hz_n, hz_n, hz_m (.putfield 43) 3 [6, 4] [], hz_n, hz_n, hz_r (.aload_n 0) 1, hz_r (.aload_n 1) 1, hz_m (.getfield 46) 3 [6, 5] [], hz_n, hz_n, hz_m (.putfield 46) 3 [6, 5] [], hz_n, hz_n],
  [hz_r (.aload_n 1) 1, hz_m (.getfield 15) 3 [6, 7] [], hz_n, hz_n, hz_r (.iconst 0) 1, hz_r (.aload_n 0) 1, hz_m (.getfield 15) 3 [6, 7] [], hz_n, hz_n, hz_r (.iconst 0) 1, hz_r (.bipush 8) 2, hz_n, hz_m (.invokestatic 49) 3 [7] [], hz_n, hz_n, hz_r (.aload_n 1) 1],
  [hz_m (.getfield 19) 3 [6, 8] [], hz_n, hz_n, hz_r (.iconst 0) 1, hz_r (.aload_n 0) 1, hz_m (.getfield 19) 3 [6, 8] [], hz_n, hz_n, hz_r (.iconst 0) 1, hz_r (.bipush 8) 2, hz_n, hz_m (.invokestatic 49) 3 [7] [], hz_n, hz_n, hz_r (.return_) 1]]
/-- HeavierServes$State.copy(LHeavierServes$State;)V -/
def hs_k53 : hs_K := [
  [hz_r (.aload_n 0) 1, hz_r (.aload_n 1) 1, hz_m (.invokevirtual 55) 3 [52, 2, 0] [], hz_n, hz_n, hz_r (.aload_n 0) 1, hz_r (.aload_n 1) 1, hz_m (.getfield 59) 3 [6, 6] [], hz_n, hz_n, hz_m (.putfield 59) 3 [6, 6] [], hz_n, hz_n, hz_r (.aload_n 1) 1, hz_m (.getfield 22) 3 [6, 9] [], hz_n],
  [hz_n, hz_r (.iconst 0) 1, hz_r (.aload_n 0) 1, hz_m (.getfield 22) 3 [6, 9] [], hz_n, hz_n, hz_r (.iconst 0) 1, hz_r (.bipush 12) 2, hz_n, hz_m (.invokestatic 49) 3 [7] [], hz_n, hz_n, hz_r (.aload_n 1) 1, hz_m (.getfield 25) 3 [6, 10] [], hz_n, hz_n],
  [hz_r (.iconst 0) 1, hz_r (.aload_n 0) 1, hz_m (.getfield 25) 3 [6, 10] [], hz_n, hz_n, hz_r (.iconst 0) 1, hz_r (.bipush 12) 2, hz_n, hz_m (.invokestatic 49) 3 [7] [], hz_n, hz_n, hz_r (.aload_n 1) 1, hz_m (.getfield 28) 3 [6, 11] [], hz_n, hz_n, hz_r (.iconst 0) 1],
  [hz_r (.aload_n 0) 1, hz_m (.getfield 28) 3 [6, 11] [], hz_n, hz_n, hz_r (.iconst 0) 1, hz_r (.bipush 12) 2, hz_n, hz_m (.invokestatic 49) 3 [7] [], hz_n, hz_n, hz_r (.aload_n 1) 1, hz_m (.getfield 31) 3 [6, 12] [], hz_n, hz_n, hz_r (.iconst 0) 1, hz_r (.aload_n 0) 1],
  [hz_m (.getfield 31) 3 [6, 12] [], hz_n, hz_n, hz_r (.iconst 0) 1, hz_r (.bipush 60) 2, hz_n, hz_m (.invokestatic 49) 3 [7] [], hz_n, hz_n, hz_r (.return_) 1]]
/-- HeavierServes$State.welcome(II)V -/
def hs_k54 : hs_K := [
  [hz_r (.iload_n 1) 1, hz_r (.ifCond .lt 35) 3, hz_n, hz_n, hz_r (.iload_n 1) 1, hz_r (.bipush 8) 2, hz_n, hz_r (.if_icmp .ge 29) 3, hz_n, hz_n, hz_r (.aload_n 0) 1, hz_m (.getfield 15) 3 [6, 7] [], hz_n, hz_n, hz_r (.iload_n 1) 1, hz_r (.iload_n 2) 1],
  [hz_r (.iastore) 1, hz_r (.aload_n 0) 1, hz_m (.getfield 19) 3 [6, 8] [], hz_n, hz_n, hz_r (.iload_n 1) 1, hz_r (.iconst 0) 1, hz_r (.iastore) 1, hz_r (.aload_n 0) 1, hz_r (.dup) 1, hz_m (.getfield 40) 3 [6, 3] [], hz_n, hz_n, hz_r (.iconst 1) 1, hz_r (.iload_n 1) 1, hz_r (.ishl) 1],
  [hz_r (.ior) 1, hz_m (.putfield 40) 3 [6, 3] [], hz_n, hz_n, hz_m (.return_) 1 [] [false, false, false]]]
/-- HeavierServes$State.lives(I)Z -/
def hs_k55 : hs_K := [
  [hz_r (.aload_n 0) 1, hz_m (.getfield 40) 3 [6, 3] [], hz_n, hz_n, hz_r (.iload_n 1) 1, hz_r (.ishr) 1, hz_r (.iconst 1) 1, hz_r (.iand) 1, hz_r (.ifCond .eq 7) 3, hz_n, hz_n, hz_m (.iconst 1) 1 [] [false, false], hz_r (.goto 4) 3, hz_n, hz_n, hz_m (.iconst 0) 1 [] [false, false]],
  [hz_m (.ireturn) 1 [] [false, false]]]
/-- HeavierServes$State.putWeight(II)V -/
def hs_k56 : hs_K := [
  [hz_r (.iload_n 1) 1, hz_r (.ifCond .lt 19) 3, hz_n, hz_n, hz_r (.iload_n 1) 1, hz_r (.bipush 8) 2, hz_n, hz_r (.if_icmp .ge 13) 3, hz_n, hz_n, hz_r (.aload_n 0) 1, hz_m (.getfield 15) 3 [6, 7] [], hz_n, hz_n, hz_r (.iload_n 1) 1, hz_r (.iload_n 2) 1],
  [hz_m (.invokestatic 62) 3 [155, 1, 1] [], hz_n, hz_n, hz_r (.iastore) 1, hz_m (.return_) 1 [] [false, false, false]]]
/-- HeavierServes$State.makeLaw()I -/
def hs_k57 : hs_K := [
  [hz_m (.aload_n 0) 1 [] [true, false], hz_m (.getfield 59) 3 [6, 6] [], hz_n, hz_n, hz_r (.istore_n 1) 1, hz_r (.iload_n 1) 1, hz_r (.ifCond .lt 9) 3, hz_n, hz_n, hz_r (.iload_n 1) 1, hz_r (.bipush 12) 2, hz_n, hz_r (.if_icmp .lt 5) 3, hz_n, hz_n, hz_m (.iconst (-1)) 1 [] [false, false]],
  [hz_r (.ireturn) 1, hz_r (.aload_n 0) 1, hz_m (.getfield 22) 3 [6, 9] [], hz_n, hz_n, hz_r (.iload_n 1) 1, hz_r (.aload_n 0) 1, hz_m (.getfield 9) 3 [6, 1] [], hz_n, hz_n, hz_r (.iastore) 1, hz_r (.aload_n 0) 1, hz_m (.getfield 25) 3 [6, 10] [], hz_n, hz_n, hz_r (.iload_n 1) 1],
  [hz_r (.aload_n 0) 1, hz_m (.getfield 34) 3 [6, 0] [], hz_n, hz_n, hz_r (.iastore) 1, hz_r (.aload_n 0) 1, hz_m (.getfield 28) 3 [6, 11] [], hz_n, hz_n, hz_r (.iload_n 1) 1, hz_r (.iconst (-1)) 1, hz_r (.iastore) 1, hz_r (.aload_n 0) 1, hz_r (.dup) 1, hz_m (.getfield 43) 3 [6, 4] [], hz_n],
  [hz_n, hz_r (.iconst 1) 1, hz_r (.iload_n 1) 1, hz_r (.ishl) 1, hz_r (.ior) 1, hz_m (.putfield 43) 3 [6, 4] [], hz_n, hz_n, hz_r (.aload_n 0) 1, hz_r (.dup) 1, hz_m (.getfield 46) 3 [6, 5] [], hz_n, hz_n, hz_r (.iconst 1) 1, hz_r (.iadd) 1, hz_m (.putfield 46) 3 [6, 5] []],
  [hz_n, hz_n, hz_r (.aload_n 0) 1, hz_r (.dup) 1, hz_m (.getfield 59) 3 [6, 6] [], hz_n, hz_n, hz_r (.iconst 1) 1, hz_r (.iadd) 1, hz_m (.putfield 59) 3 [6, 6] [], hz_n, hz_n, hz_r (.iload_n 1) 1, hz_r (.ireturn) 1]]
/-- HeavierServes$State.dropLaws()I -/
def hs_k58 : hs_K := [
  [hz_m (.aload_n 0) 1 [] [true, false, false], hz_m (.getfield 46) 3 [6, 5] [], hz_n, hz_n, hz_r (.istore_n 1) 1, hz_r (.iconst 0) 1, hz_r (.istore_n 2) 1, hz_r (.iload_n 2) 1, hz_r (.bipush 12) 2, hz_n, hz_r (.if_icmp .ge 34) 3, hz_n, hz_n, hz_r (.iload_n 1) 1, hz_r (.ifCond .le 30) 3, hz_n],
  [hz_n, hz_r (.aload_n 0) 1, hz_m (.getfield 43) 3 [6, 4] [], hz_n, hz_n, hz_r (.iload_n 2) 1, hz_r (.ishr) 1, hz_r (.iconst 1) 1, hz_r (.iand) 1, hz_r (.ifCond .eq 13) 3, hz_n, hz_n, hz_r (.aload_n 0) 1, hz_m (.getfield 28) 3 [6, 11] [], hz_n, hz_n],
  [hz_r (.iload_n 2) 1, hz_r (.aload_n 0) 1, hz_m (.getfield 34) 3 [6, 0] [], hz_n, hz_n, hz_r (.iastore) 1, hz_r (.iinc 2 1) 3, hz_n, hz_n, hz_r (.goto (-34)) 3, hz_n, hz_n, hz_m (.aload_n 0) 1 [] [true, true, false], hz_r (.iconst 0) 1, hz_m (.putfield 43) 3 [6, 4] [], hz_n],
  [hz_n, hz_r (.aload_n 0) 1, hz_r (.iconst 0) 1, hz_m (.putfield 46) 3 [6, 5] [], hz_n, hz_n, hz_r (.iload_n 1) 1, hz_r (.ireturn) 1]]
/-- HeavierServes$State.bury(I)I -/
def hs_k59 : hs_K := [
  [hz_r (.aload_n 0) 1, hz_r (.dup) 1, hz_m (.getfield 40) 3 [6, 3] [], hz_n, hz_n, hz_r (.iconst 1) 1, hz_r (.iload_n 1) 1, hz_r (.ishl) 1, hz_r (.iconst (-1)) 1, hz_r (.ixor) 1, hz_r (.iand) 1, hz_m (.putfield 40) 3 [6, 3] [], hz_n, hz_n, hz_r (.aload_n 0) 1, hz_m (.getfield 9) 3 [6, 1] []],
  [hz_n, hz_n, hz_r (.iload_n 1) 1, hz_r (.if_icmp .eq 5) 3, hz_n, hz_n, hz_m (.iconst 0) 1 [] [false, false], hz_r (.ireturn) 1, hz_m (.aload_n 0) 1 [] [true, false], hz_r (.iconst (-1)) 1, hz_m (.putfield 9) 3 [6, 1] [], hz_n, hz_n, hz_r (.aload_n 0) 1, hz_r (.iconst 0) 1, hz_m (.putfield 37) 3 [6, 2] []],
  [hz_n, hz_n, hz_r (.aload_n 0) 1, hz_m (.invokevirtual 66) 3 [58, 1, 1] [], hz_n, hz_n, hz_r (.ireturn) 1]]
/-- HeavierServes$State.serveWeek(I)V -/
def hs_k60 : hs_K := [
  [hz_r (.iload_n 1) 1, hz_r (.iconst (-1)) 1, hz_r (.if_icmp .eq 18) 3, hz_n, hz_n, hz_r (.aload_n 0) 1, hz_m (.invokevirtual 66) 3 [58, 1, 1] [], hz_n, hz_n, hz_r (.pop) 1, hz_r (.aload_n 0) 1, hz_r (.iload_n 1) 1, hz_m (.putfield 9) 3 [6, 1] [], hz_n, hz_n, hz_r (.aload_n 0) 1],
  [hz_r (.iconst 0) 1, hz_m (.putfield 37) 3 [6, 2] [], hz_n, hz_n, hz_m (.aload_n 0) 1 [] [true, false], hz_m (.getfield 9) 3 [6, 1] [], hz_n, hz_n, hz_r (.ifCond .lt 35) 3, hz_n, hz_n, hz_m (.aload_n 0) 1 [] [true, false], hz_m (.getfield 9) 3 [6, 1] [], hz_n, hz_n, hz_r (.bipush 8) 2],
  [hz_n, hz_r (.if_icmp .ge 26) 3, hz_n, hz_n, hz_m (.aload_n 0) 1 [] [true, false], hz_r (.dup) 1, hz_m (.getfield 37) 3 [6, 2] [], hz_n, hz_n, hz_r (.iconst 1) 1, hz_r (.iadd) 1, hz_m (.putfield 37) 3 [6, 2] [], hz_n, hz_n, hz_r (.aload_n 0) 1, hz_m (.getfield 19) 3 [6, 8] []],
  [hz_n, hz_n, hz_r (.aload_n 0) 1, hz_m (.getfield 9) 3 [6, 1] [], hz_n, hz_n, hz_r (.dup2) 1, hz_r (.iaload) 1, hz_r (.iconst 1) 1, hz_r (.iadd) 1, hz_r (.iastore) 1, hz_m (.aload_n 0) 1 [] [true, false], hz_m (.getfield 31) 3 [6, 12] [], hz_n, hz_n, hz_r (.aload_n 0) 1],
  [hz_m (.getfield 34) 3 [6, 0] [], hz_n, hz_n, hz_r (.bipush 60) 2, hz_n, hz_m (.invokestatic 70) 3 [1, 2, 1] [], hz_n, hz_n, hz_r (.aload_n 0) 1, hz_m (.getfield 9) 3 [6, 1] [], hz_n, hz_n, hz_r (.iastore) 1, hz_r (.return_) 1]]
/-- HeavierServes$Text.append(I)Z -/
def hs_k61 : hs_K := [
  [hz_m (.aload_n 0) 1 [] [true, true, false], hz_m (.getfield 15) 3 [7, 1] [], hz_n, hz_n, hz_r (.ifCond .lt 12) 3, hz_n, hz_n, hz_m (.aload_n 0) 1 [] [true, true, false], hz_m (.getfield 15) 3 [7, 1] [], hz_n, hz_n, hz_r (.bipush 76) 2, hz_n, hz_r (.if_icmp .le 5) 3, hz_n, hz_n],
  [hz_m (.iconst 0) 1 [] [false, false, false], hz_r (.ireturn) 1, hz_m (.iconst 0) 1 [] [true, true, false], hz_r (.istore_n 2) 1, hz_r (.iload_n 2) 1, hz_r (.iconst 4) 1, hz_r (.if_icmp .ge 33) 3, hz_n, hz_n, hz_r (.aload_n 0) 1, hz_m (.getfield 11) 3 [7, 0] [], hz_n, hz_n, hz_r (.aload_n 0) 1, hz_m (.getfield 15) 3 [7, 1] [], hz_n],
  [hz_n, hz_r (.iload_n 2) 1, hz_r (.iadd) 1, hz_r (.iload_n 1) 1, hz_r (.bipush 24) 2, hz_n, hz_r (.bipush 8) 2, hz_n, hz_r (.iload_n 2) 1, hz_r (.imul) 1, hz_r (.isub) 1, hz_r (.iushr) 1, hz_r (.sipush 255) 3, hz_n, hz_n, hz_r (.iand) 1],
  [hz_r (.iastore) 1, hz_r (.iinc 2 1) 3, hz_n, hz_n, hz_r (.goto (-32)) 3, hz_n, hz_n, hz_m (.aload_n 0) 1 [] [true, false, false], hz_r (.dup) 1, hz_m (.getfield 15) 3 [7, 1] [], hz_n, hz_n, hz_r (.iconst 4) 1, hz_r (.iadd) 1, hz_m (.putfield 15) 3 [7, 1] [], hz_n],
  [hz_n, hz_r (.iconst 1) 1, hz_r (.ireturn) 1]]
/-- HeavierServes$Text.open(I)V -/
def hs_k62 : hs_K := [
  [hz_r (.aload_n 0) 1, hz_r (.aload_n 0) 1, hz_m (.getfield 15) 3 [7, 1] [], hz_n, hz_n, hz_r (.iload_n 1) 1, hz_m (.invokestatic 19) 3 [3, 2, 1] [], hz_n, hz_n, hz_m (.putfield 25) 3 [7, 2] [], hz_n, hz_n, hz_r (.return_) 1]]
/-- HeavierServes$Text.signAt(I)I -/
def hs_k63 : hs_K := [
  [hz_r (.iload_n 1) 1, hz_r (.ifCond .lt 17) 3, hz_n, hz_n, hz_r (.iload_n 1) 1, hz_r (.aload_n 0) 1, hz_m (.getfield 25) 3 [7, 2] [], hz_n, hz_n, hz_r (.if_icmp .ge 9) 3, hz_n, hz_n, hz_r (.iload_n 1) 1, hz_r (.bipush 80) 2, hz_n, hz_r (.if_icmp .lt 7) 3],
  [hz_n, hz_n, hz_m (.iconst (-1)) 1 [] [false, false], hz_r (.goto 9) 3, hz_n, hz_n, hz_r (.aload_n 0) 1, hz_m (.getfield 11) 3 [7, 0] [], hz_n, hz_n, hz_r (.iload_n 1) 1, hz_r (.iaload) 1, hz_m (.ireturn) 1 [] [false, false]]]
/-- HeavierServes$Text.digitAt(I)I -/
def hs_k64 : hs_K := [
  [hz_m (.aload_n 0) 1 [] [true, true, false], hz_r (.iload_n 1) 1, hz_m (.invokevirtual 28) 3 [63, 2, 1] [], hz_n, hz_n, hz_r (.istore_n 2) 1, hz_r (.iload_n 2) 1, hz_r (.bipush 48) 2, hz_n, hz_r (.if_icmp .lt 16) 3, hz_n, hz_n, hz_m (.iload_n 2) 1 [] [false, false, true], hz_r (.bipush 57) 2, hz_n, hz_r (.if_icmp .gt 10) 3],
  [hz_n, hz_n, hz_m (.iload_n 2) 1 [] [false, false, true], hz_r (.bipush 48) 2, hz_n, hz_r (.isub) 1, hz_r (.goto 4) 3, hz_n, hz_n, hz_m (.iconst (-1)) 1 [] [false, false, false], hz_m (.ireturn) 1 [] [false, false, false]]]
/-- HeavierServes$Town.has(I)Z -/
def hs_k65 : hs_K := [
  [hz_r (.iload_n 1) 1, hz_r (.ifCond .lt 21) 3, hz_n, hz_n, hz_r (.iload_n 1) 1, hz_r (.aload_n 0) 1, hz_m (.getfield 30) 3 [8, 9] [], hz_n, hz_n, hz_r (.if_icmp .ge 13) 3, hz_n, hz_n, hz_m (.iload_n 1) 1 [] [false, true], hz_r (.bipush 8) 2, hz_n, hz_r (.if_icmp .ge 7) 3],
  [hz_n, hz_n, hz_m (.iconst 1) 1 [] [false, false], hz_r (.goto 4) 3, hz_n, hz_n, hz_m (.iconst 0) 1 [] [false, false], hz_m (.ireturn) 1 [] [false, false]]]
end
section
/-! ===== the code rows of the methods, 2 ===== -/
/-- HeavierServes$Town.everyone()I -/
def hs_k66 : hs_K := [
  [hz_r (.iconst 1) 1, hz_r (.aload_n 0) 1, hz_m (.getfield 30) 3 [8, 9] [], hz_n, hz_n, hz_r (.ishl) 1, hz_r (.iconst 1) 1, hz_r (.isub) 1, hz_r (.ireturn) 1]]
/-- HeavierServes$Town.ofParty(I)I -/
def hs_k67 : hs_K := [
  [hz_m (.iconst 0) 1 [] [true, true, false, false], hz_r (.istore_n 2) 1, hz_r (.iconst 0) 1, hz_r (.istore_n 3) 1, hz_r (.iload_n 3) 1, hz_r (.aload_n 0) 1, hz_m (.getfield 30) 3 [8, 9] [], hz_n, hz_n, hz_r (.if_icmp .ge 25) 3, hz_n, hz_n, hz_r (.aload_n 0) 1, hz_m (.getfield 9) 3 [8, 0] [], hz_n, hz_n],
  [hz_r (.iload_n 3) 1, hz_r (.iaload) 1, hz_r (.iload_n 1) 1, hz_r (.if_icmp .ne 9) 3, hz_n, hz_n, hz_r (.iload_n 2) 1, hz_r (.iconst 1) 1, hz_r (.iload_n 3) 1, hz_r (.ishl) 1, hz_r (.ior) 1, hz_r (.istore_n 2) 1, hz_r (.iinc 3 1) 3, hz_n, hz_n, hz_r (.goto (-27)) 3],
  [hz_n, hz_n, hz_m (.iload_n 2) 1 [] [false, false, true, false], hz_r (.ireturn) 1]]
/-- HeavierServes$Town.arriving(I)I -/
def hs_k68 : hs_K := [
  [hz_r (.iload_n 1) 1, hz_r (.ifCond .lt 9) 3, hz_n, hz_n, hz_r (.iload_n 1) 1, hz_r (.bipush 8) 2, hz_n, hz_r (.if_icmp .lt 7) 3, hz_n, hz_n, hz_m (.iconst 1) 1 [] [false, false], hz_r (.goto 9) 3, hz_n, hz_n, hz_r (.aload_n 0) 1, hz_m (.getfield 24) 3 [8, 4] []],
  [hz_n, hz_n, hz_r (.iload_n 1) 1, hz_r (.iaload) 1, hz_m (.ireturn) 1 [] [false, false]]]
/-- HeavierServes$Town.changeAt(II)I -/
def hs_k69 : hs_K := [
  [hz_m (.iload_n 1) 1 [] [true, true, true, false], hz_r (.bipush 6) 2, hz_n, hz_r (.imul) 1, hz_r (.iload_n 2) 1, hz_r (.iadd) 1, hz_r (.istore_n 3) 1, hz_r (.iload_n 3) 1, hz_r (.ifCond .lt 12) 3, hz_n, hz_n, hz_m (.iload_n 3) 1 [] [true, false, false, true], hz_r (.aload_n 0) 1, hz_m (.getfield 21) 3 [8, 3] [], hz_n, hz_n],
  [hz_r (.arraylength) 1, hz_r (.if_icmp .lt 7) 3, hz_n, hz_n, hz_m (.iconst 0) 1 [] [false, false, false, false], hz_r (.goto 9) 3, hz_n, hz_n, hz_m (.aload_n 0) 1 [] [true, false, false, true], hz_m (.getfield 21) 3 [8, 3] [], hz_n, hz_n, hz_r (.iload_n 3) 1, hz_r (.iaload) 1, hz_m (.ireturn) 1 [] [false, false, false, false]]]
/-- HeavierServes$Town.changeWeights(LHeavierServes$State;)V -/
def hs_k70 : hs_K := [
  [hz_m (.iconst 0) 1 [] [true, true, false, false, false], hz_r (.istore_n 2) 1, hz_m (.iload_n 2) 1 [] [true, true, true, false, false], hz_r (.aload_n 0) 1, hz_m (.getfield 30) 3 [8, 9] [], hz_n, hz_n, hz_r (.if_icmp .ge 66) 3, hz_n, hz_n, hz_m (.aload_n 0) 1 [] [true, true, true, false, false], hz_m (.getfield 18) 3 [8, 2] [], hz_n, hz_n, hz_r (.iload_n 2) 1, hz_r (.iaload) 1],
  [hz_r (.istore_n 3) 1, hz_r (.iload_n 3) 1, hz_r (.ifCond .le 49) 3, hz_n, hz_n, hz_m (.aload_n 1) 1 [] [true, true, true, true, false], hz_r (.iload_n 2) 1, hz_m (.invokevirtual 34) 3 [55, 2, 1] [], hz_n, hz_n, hz_r (.ifCond .eq 41) 3, hz_n, hz_n, hz_m (.aload_n 0) 1 [] [true, true, true, true, false], hz_m (.getfield 21) 3 [8, 3] [], hz_n],
  [hz_n, hz_r (.iload_n 2) 1, hz_r (.bipush 6) 2, hz_n, hz_r (.imul) 1, hz_r (.aload_n 1) 1, hz_m (.getfield 40) 3 [6, 0] [], hz_n, hz_n, hz_r (.iload_n 3) 1, hz_m (.invokestatic 43) 3 [1, 2, 1] [], hz_n, hz_n, hz_r (.iadd) 1, hz_r (.iaload) 1, hz_r (.istore 4) 2],
  [hz_n, hz_r (.aload_n 1) 1, hz_m (.getfield 49) 3 [6, 7] [], hz_n, hz_n, hz_r (.iload_n 2) 1, hz_r (.aload_n 1) 1, hz_m (.getfield 49) 3 [6, 7] [], hz_n, hz_n, hz_r (.iload_n 2) 1, hz_r (.iaload) 1, hz_r (.iload 4) 2, hz_n, hz_r (.iadd) 1, hz_m (.invokestatic 52) 3 [155, 1, 1] []],
  [hz_n, hz_n, hz_r (.iastore) 1, hz_m (.iinc 2 1) 3 [] [true, true, true, false, false], hz_n, hz_n, hz_r (.goto (-68)) 3, hz_n, hz_n, hz_m (.return_) 1 [] [false, false, false, false, false]]]
/-- HeavierServes$Town.weightLater(LHeavierServes$State;II)I -/
def hs_k71 : hs_K := [
  [hz_m (.aload_n 1) 1 [] [true, true, true, true, false, false, false], hz_m (.getfield 49) 3 [6, 7] [], hz_n, hz_n, hz_r (.iload_n 2) 1, hz_r (.iaload) 1, hz_r (.istore 4) 2, hz_n, hz_r (.aload_n 0) 1, hz_m (.getfield 18) 3 [8, 2] [], hz_n, hz_n, hz_r (.iload_n 2) 1, hz_r (.iaload) 1, hz_r (.istore 5) 2, hz_n],
  [hz_r (.iconst 0) 1, hz_r (.istore 6) 2, hz_n, hz_r (.iload 6) 2, hz_n, hz_r (.iload_n 3) 1, hz_r (.if_icmp .ge 39) 3, hz_n, hz_n, hz_r (.iload 5) 2, hz_n, hz_r (.ifCond .le 34) 3, hz_n, hz_n, hz_r (.iload 4) 2, hz_n],
  [hz_r (.aload_n 0) 1, hz_r (.iload_n 2) 1, hz_r (.aload_n 1) 1, hz_m (.getfield 40) 3 [6, 0] [], hz_n, hz_n, hz_r (.iload 6) 2, hz_n, hz_r (.iadd) 1, hz_r (.iload 5) 2, hz_n, hz_m (.invokestatic 43) 3 [1, 2, 1] [], hz_n, hz_n, hz_m (.invokevirtual 56) 3 [69, 3, 1] [], hz_n],
  [hz_n, hz_r (.iadd) 1, hz_m (.invokestatic 52) 3 [155, 1, 1] [], hz_n, hz_n, hz_r (.istore 4) 2, hz_n, hz_r (.iinc 6 1) 3, hz_n, hz_n, hz_r (.goto (-39)) 3, hz_n, hz_n, hz_m (.iload 4) 2 [] [false, false, false, false, true, false, false], hz_n, hz_r (.ireturn) 1]]
/-- HeavierServes$Town.copyPerson(II)V -/
def hs_k72 : hs_K := [
  [hz_r (.aload_n 0) 1, hz_m (.getfield 9) 3 [8, 0] [], hz_n, hz_n, hz_r (.iload_n 2) 1, hz_r (.aload_n 0) 1, hz_m (.getfield 9) 3 [8, 0] [], hz_n, hz_n, hz_r (.iload_n 1) 1, hz_r (.iaload) 1, hz_r (.iastore) 1, hz_r (.aload_n 0) 1, hz_m (.getfield 15) 3 [8, 1] [], hz_n, hz_n],
  [hz_r (.iload_n 2) 1, hz_r (.aload_n 0) 1, hz_m (.getfield 15) 3 [8, 1] [], hz_n, hz_n, hz_r (.iload_n 1) 1, hz_r (.iaload) 1, hz_r (.iastore) 1, hz_r (.aload_n 0) 1, hz_m (.getfield 18) 3 [8, 2] [], hz_n, hz_n, hz_r (.iload_n 2) 1, hz_r (.aload_n 0) 1, hz_m (.getfield 18) 3 [8, 2] [], hz_n],
  [hz_n, hz_r (.iload_n 1) 1, hz_r (.iaload) 1, hz_r (.iastore) 1, hz_r (.aload_n 0) 1, hz_m (.getfield 21) 3 [8, 3] [], hz_n, hz_n, hz_r (.iload_n 1) 1, hz_r (.bipush 6) 2, hz_n, hz_r (.imul) 1, hz_r (.aload_n 0) 1, hz_m (.getfield 21) 3 [8, 3] [], hz_n, hz_n],
  [hz_r (.iload_n 2) 1, hz_r (.bipush 6) 2, hz_n, hz_r (.imul) 1, hz_r (.bipush 6) 2, hz_n, hz_m (.invokestatic 59) 3 [7] [], hz_n, hz_n, hz_r (.return_) 1]]
/-- HeavierServes$Town.readLines(LHeavierServes$Text;)I -/
def hs_k73 : hs_K := [
  [hz_m (.aload_n 1) 1 [] [true, true, false], hz_r (.bipush 76) 2, hz_n, hz_m (.invokevirtual 65) 3 [62, 2, 0] [], hz_n, hz_n, hz_r (.aload_n 0) 1, hz_r (.iconst 0) 1, hz_m (.putfield 71) 3 [8, 7] [], hz_n, hz_n, hz_r (.aload_n 0) 1, hz_r (.iconst 0) 1, hz_m (.putfield 74) 3 [8, 8] [], hz_n, hz_n],
  [hz_r (.aload_n 0) 1, hz_m (.getfield 30) 3 [8, 9] [], hz_n, hz_n, hz_r (.istore_n 2) 1, hz_r (.iload_n 2) 1, hz_r (.bipush 8) 2, hz_n, hz_r (.if_icmp .gt 65) 3, hz_n, hz_n, hz_r (.iload_n 2) 1, hz_r (.bipush 8) 2, hz_n, hz_r (.if_icmp .eq 12) 3, hz_n],
  [hz_n, hz_r (.aload_n 0) 1, hz_r (.aload_n 1) 1, hz_r (.iload_n 2) 1, hz_m (.invokevirtual 77) 3 [75, 3, 1] [], hz_n, hz_n, hz_r (.ifCond .ne 8) 3, hz_n, hz_n, hz_m (.aload_n 0) 1 [] [true, false, false], hz_m (.getfield 71) 3 [8, 7] [], hz_n, hz_n, hz_r (.ireturn) 1, hz_r (.aload_n 0) 1],
  [hz_r (.dup) 1, hz_m (.getfield 74) 3 [8, 8] [], hz_n, hz_n, hz_r (.iconst 1) 1, hz_r (.iadd) 1, hz_m (.putfield 74) 3 [8, 8] [], hz_n, hz_n, hz_r (.aload_n 1) 1, hz_r (.aload_n 0) 1, hz_m (.getfield 71) 3 [8, 7] [], hz_n, hz_n, hz_m (.invokevirtual 81) 3 [63, 2, 1] [], hz_n],
  [hz_n, hz_r (.bipush 59) 2, hz_n, hz_r (.if_icmp .eq 6) 3, hz_n, hz_n, hz_m (.goto 19) 3 [] [true, true, false], hz_n, hz_n, hz_r (.aload_n 0) 1, hz_r (.dup) 1, hz_m (.getfield 71) 3 [8, 7] [], hz_n, hz_n, hz_r (.iconst 1) 1, hz_r (.iadd) 1],
  [hz_m (.putfield 71) 3 [8, 7] [], hz_n, hz_n, hz_r (.iinc 2 1) 3, hz_n, hz_n, hz_r (.goto (-65)) 3, hz_n, hz_n, hz_m (.aload_n 0) 1 [] [true, true, false], hz_m (.getfield 71) 3 [8, 7] [], hz_n, hz_n, hz_r (.aload_n 1) 1, hz_m (.getfield 84) 3 [7, 1] [], hz_n],
  [hz_n, hz_r (.if_icmp .ge 10) 3, hz_n, hz_n, hz_m (.aload_n 0) 1 [] [true, false, false], hz_m (.getfield 71) 3 [8, 7] [], hz_n, hz_n, hz_r (.goto 4) 3, hz_n, hz_n, hz_m (.iconst (-1)) 1 [] [false, false, false], hz_m (.ireturn) 1 [] [false, false, false]]]
/-- HeavierServes$Town.readHabit(LHeavierServes$Text;I)I -/
def hs_k74 : hs_K := [
  [hz_r (.aload_n 1) 1, hz_r (.bipush 12) 2, hz_n, hz_m (.invokevirtual 65) 3 [62, 2, 0] [], hz_n, hz_n, hz_r (.aload_n 0) 1, hz_r (.iconst 0) 1, hz_m (.putfield 71) 3 [8, 7] [], hz_n, hz_n, hz_r (.aload_n 0) 1, hz_r (.aload_n 1) 1, hz_m (.invokevirtual 87) 3 [78, 2, 1] [], hz_n, hz_n],
  [hz_r (.ifCond .eq 14) 3, hz_n, hz_n, hz_r (.aload_n 0) 1, hz_m (.getfield 71) 3 [8, 7] [], hz_n, hz_n, hz_r (.aload_n 1) 1, hz_m (.getfield 84) 3 [7, 1] [], hz_n, hz_n, hz_r (.if_icmp .ge 8) 3, hz_n, hz_n, hz_m (.aload_n 0) 1 [] [true, false, false], hz_m (.getfield 71) 3 [8, 7] []],
  [hz_n, hz_n, hz_r (.ireturn) 1, hz_m (.aload_n 0) 1 [] [true, false, true], hz_r (.iload_n 2) 1, hz_m (.invokevirtual 91) 3 [80, 2, 0] [], hz_n, hz_n, hz_r (.iconst (-1)) 1, hz_r (.ireturn) 1]]
/-- HeavierServes$Town.readLine(LHeavierServes$Text;I)Z -/
def hs_k75 : hs_K := [
  [hz_r (.aload_n 0) 1, hz_r (.aload_n 1) 1, hz_r (.iload_n 2) 1, hz_m (.invokevirtual 94) 3 [76, 3, 1] [], hz_n, hz_n, hz_r (.ifCond .eq 20) 3, hz_n, hz_n, hz_r (.aload_n 0) 1, hz_r (.aload_n 1) 1, hz_r (.iload_n 2) 1, hz_m (.invokevirtual 97) 3 [77, 3, 1] [], hz_n, hz_n, hz_r (.ifCond .eq 11) 3],
  [hz_n, hz_n, hz_r (.aload_n 0) 1, hz_r (.aload_n 1) 1, hz_m (.invokevirtual 87) 3 [78, 2, 1] [], hz_n, hz_n, hz_r (.ifCond .ne 5) 3, hz_n, hz_n, hz_m (.iconst 0) 1 [] [false, false, false], hz_r (.ireturn) 1, hz_m (.aload_n 0) 1 [] [true, false, true], hz_r (.iload_n 2) 1, hz_m (.invokevirtual 91) 3 [80, 2, 0] [], hz_n],
  [hz_n, hz_r (.aload_n 0) 1, hz_m (.getfield 15) 3 [8, 1] [], hz_n, hz_n, hz_r (.iload_n 2) 1, hz_r (.iconst 0) 1, hz_r (.iastore) 1, hz_r (.iconst 1) 1, hz_r (.ireturn) 1]]
/-- HeavierServes$Town.readWeight(LHeavierServes$Text;I)Z -/
def hs_k76 : hs_K := [
  [hz_m (.iconst 0) 1 [] [true, true, true, false, false], hz_r (.istore_n 3) 1, hz_r (.iconst 0) 1, hz_r (.istore 4) 2, hz_n, hz_r (.iload 4) 2, hz_n, hz_r (.iconst 3) 1, hz_r (.if_icmp .ge 45) 3, hz_n, hz_n, hz_r (.aload_n 1) 1, hz_r (.aload_n 0) 1, hz_m (.getfield 71) 3 [8, 7] [], hz_n, hz_n],
  [hz_m (.invokevirtual 100) 3 [64, 2, 1] [], hz_n, hz_n, hz_r (.iconst (-1)) 1, hz_r (.if_icmp .eq 33) 3, hz_n, hz_n, hz_r (.iload_n 3) 1, hz_r (.bipush 10) 2, hz_n, hz_r (.imul) 1, hz_r (.aload_n 1) 1, hz_r (.aload_n 0) 1, hz_m (.getfield 71) 3 [8, 7] [], hz_n, hz_n],
  [hz_m (.invokevirtual 100) 3 [64, 2, 1] [], hz_n, hz_n, hz_r (.iadd) 1, hz_r (.istore_n 3) 1, hz_r (.aload_n 0) 1, hz_r (.dup) 1, hz_m (.getfield 71) 3 [8, 7] [], hz_n, hz_n, hz_r (.iconst 1) 1, hz_r (.iadd) 1, hz_m (.putfield 71) 3 [8, 7] [], hz_n, hz_n, hz_r (.iinc 4 1) 3],
  [hz_n, hz_n, hz_r (.goto (-45)) 3, hz_n, hz_n, hz_m (.iload 4) 2 [] [true, false, true, true, true], hz_n, hz_r (.ifCond .le 17) 3, hz_n, hz_n, hz_m (.iload_n 3) 1 [] [true, false, true, true, false], hz_r (.ifCond .ne 13) 3, hz_n, hz_n, hz_m (.aload_n 0) 1 [] [true, false, true, true, false], hz_r (.dup) 1],
  [hz_m (.getfield 71) 3 [8, 7] [], hz_n, hz_n, hz_r (.iconst 1) 1, hz_r (.isub) 1, hz_m (.putfield 71) 3 [8, 7] [], hz_n, hz_n, hz_m (.aload_n 0) 1 [] [true, false, true, true, false], hz_m (.getfield 24) 3 [8, 4] [], hz_n, hz_n, hz_r (.iload_n 2) 1, hz_r (.iload_n 3) 1, hz_r (.iastore) 1, hz_r (.iload_n 3) 1],
  [hz_r (.ifCond .le 7) 3, hz_n, hz_n, hz_m (.iconst 1) 1 [] [false, false, false, false, false], hz_r (.goto 4) 3, hz_n, hz_n, hz_m (.iconst 0) 1 [] [false, false, false, false, false], hz_m (.ireturn) 1 [] [false, false, false, false, false]]]
/-- HeavierServes$Town.readParty(LHeavierServes$Text;I)Z -/
def hs_k77 : hs_K := [
  [hz_m (.aload_n 0) 1 [] [true, true, true, false], hz_m (.getfield 9) 3 [8, 0] [], hz_n, hz_n, hz_r (.iload_n 2) 1, hz_r (.iconst 0) 1, hz_r (.iastore) 1, hz_r (.aload_n 1) 1, hz_r (.aload_n 0) 1, hz_m (.getfield 71) 3 [8, 7] [], hz_n, hz_n, hz_m (.invokevirtual 81) 3 [63, 2, 1] [], hz_n, hz_n, hz_r (.bipush 42) 2],
  [hz_n, hz_r (.if_icmp .eq 5) 3, hz_n, hz_n, hz_m (.iconst 1) 1 [] [false, false, false, false], hz_r (.ireturn) 1, hz_m (.aload_n 0) 1 [] [true, true, true, false], hz_r (.dup) 1, hz_m (.getfield 71) 3 [8, 7] [], hz_n, hz_n, hz_r (.iconst 1) 1, hz_r (.iadd) 1, hz_m (.putfield 71) 3 [8, 7] [], hz_n, hz_n],
  [hz_r (.aload_n 1) 1, hz_r (.aload_n 0) 1, hz_m (.getfield 71) 3 [8, 7] [], hz_n, hz_n, hz_m (.invokevirtual 100) 3 [64, 2, 1] [], hz_n, hz_n, hz_r (.istore_n 3) 1, hz_r (.iload_n 3) 1, hz_r (.iconst (-1)) 1, hz_r (.if_icmp .eq 8) 3, hz_n, hz_n, hz_m (.iload_n 3) 1 [] [true, false, true, true], hz_r (.iconst 4) 1],
  [hz_r (.if_icmp .lt 5) 3, hz_n, hz_n, hz_m (.iconst 0) 1 [] [false, false, false, false], hz_r (.ireturn) 1, hz_m (.aload_n 0) 1 [] [true, false, true, true], hz_m (.getfield 9) 3 [8, 0] [], hz_n, hz_n, hz_r (.iload_n 2) 1, hz_r (.iload_n 3) 1, hz_r (.iastore) 1, hz_r (.aload_n 0) 1, hz_r (.dup) 1, hz_m (.getfield 71) 3 [8, 7] [], hz_n],
  [hz_n, hz_r (.iconst 1) 1, hz_r (.iadd) 1, hz_m (.putfield 71) 3 [8, 7] [], hz_n, hz_n, hz_r (.iconst 1) 1, hz_r (.ireturn) 1]]
/-- HeavierServes$Town.readChanges(LHeavierServes$Text;)Z -/
def hs_k78 : hs_K := [
  [hz_m (.aload_n 0) 1 [] [true, true, false, false], hz_r (.iconst 0) 1, hz_m (.putfield 103) 3 [8, 6] [], hz_n, hz_n, hz_r (.iconst 0) 1, hz_r (.istore_n 2) 1, hz_m (.iload_n 2) 1 [] [true, true, true, false], hz_r (.bipush 6) 2, hz_n, hz_r (.if_icmp .ge 98) 3, hz_n, hz_n, hz_m (.aload_n 1) 1 [] [true, true, true, false], hz_r (.aload_n 0) 1, hz_m (.getfield 71) 3 [8, 7] []],
  [hz_n, hz_n, hz_m (.invokevirtual 81) 3 [63, 2, 1] [], hz_n, hz_n, hz_m (.invokestatic 106) 3 [79, 1, 1] [], hz_n, hz_n, hz_r (.ifCond .ne 5) 3, hz_n, hz_n, hz_m (.iconst 1) 1 [] [false, false, false, false], hz_r (.ireturn) 1, hz_m (.aload_n 1) 1 [] [true, true, true, false], hz_r (.aload_n 0) 1, hz_m (.getfield 71) 3 [8, 7] []],
  [hz_n, hz_n, hz_r (.iconst 1) 1, hz_r (.iadd) 1, hz_m (.invokevirtual 100) 3 [64, 2, 1] [], hz_n, hz_n, hz_r (.istore_n 3) 1, hz_r (.iload_n 3) 1, hz_r (.iconst (-1)) 1, hz_r (.if_icmp .ne 15) 3, hz_n, hz_n, hz_m (.aload_n 0) 1 [] [true, false, false, false], hz_r (.dup) 1, hz_m (.getfield 71) 3 [8, 7] []],
  [hz_n, hz_n, hz_r (.iconst 1) 1, hz_r (.iadd) 1, hz_m (.putfield 71) 3 [8, 7] [], hz_n, hz_n, hz_r (.iconst 0) 1, hz_r (.ireturn) 1, hz_r (.aload_n 0) 1, hz_m (.getfield 27) 3 [8, 5] [], hz_n, hz_n, hz_r (.iload_n 2) 1, hz_r (.aload_n 1) 1, hz_r (.aload_n 0) 1],
  [hz_m (.getfield 71) 3 [8, 7] [], hz_n, hz_n, hz_m (.invokevirtual 81) 3 [63, 2, 1] [], hz_n, hz_n, hz_r (.bipush 43) 2, hz_n, hz_r (.if_icmp .ne 7) 3, hz_n, hz_n, hz_r (.iload_n 3) 1, hz_r (.goto 5) 3, hz_n, hz_n, hz_r (.iload_n 3) 1],
  [hz_r (.ineg) 1, hz_m (.iastore) 1 [] [true, true, true, false], hz_r (.aload_n 0) 1, hz_r (.dup) 1, hz_m (.getfield 103) 3 [8, 6] [], hz_n, hz_n, hz_r (.iconst 1) 1, hz_r (.iadd) 1, hz_m (.putfield 103) 3 [8, 6] [], hz_n, hz_n, hz_r (.aload_n 0) 1, hz_r (.dup) 1, hz_m (.getfield 71) 3 [8, 7] [], hz_n],
  [hz_n, hz_r (.iconst 2) 1, hz_r (.iadd) 1, hz_m (.putfield 71) 3 [8, 7] [], hz_n, hz_n, hz_r (.iinc 2 1) 3, hz_n, hz_n, hz_r (.goto (-98)) 3, hz_n, hz_n, hz_m (.aload_n 1) 1 [] [true, true, false, false], hz_r (.aload_n 0) 1, hz_m (.getfield 71) 3 [8, 7] [], hz_n],
  [hz_n, hz_m (.invokevirtual 81) 3 [63, 2, 1] [], hz_n, hz_n, hz_m (.invokestatic 106) 3 [79, 1, 1] [], hz_n, hz_n, hz_r (.ifCond .ne 7) 3, hz_n, hz_n, hz_m (.iconst 1) 1 [] [false, false, false, false], hz_r (.goto 4) 3, hz_n, hz_n, hz_m (.iconst 0) 1 [] [false, false, false, false], hz_m (.ireturn) 1 [] [false, false, false, false]]]
/-- HeavierServes$Town.isChangeSign(I)Z -/
def hs_k79 : hs_K := [
  [hz_r (.iload_n 0) 1, hz_r (.bipush 43) 2, hz_n, hz_r (.if_icmp .eq 9) 3, hz_n, hz_n, hz_r (.iload_n 0) 1, hz_r (.bipush 45) 2, hz_n, hz_r (.if_icmp .ne 7) 3, hz_n, hz_n, hz_m (.iconst 1) 1 [] [false], hz_r (.goto 4) 3, hz_n, hz_n],
  [hz_m (.iconst 0) 1 [] [false], hz_m (.ireturn) 1 [] [false]]]
/-- HeavierServes$Town.takeDraft(I)V -/
def hs_k80 : hs_K := [
  [hz_r (.aload_n 0) 1, hz_m (.getfield 18) 3 [8, 2] [], hz_n, hz_n, hz_r (.iload_n 1) 1, hz_r (.aload_n 0) 1, hz_m (.getfield 103) 3 [8, 6] [], hz_n, hz_n, hz_r (.iastore) 1, hz_r (.aload_n 0) 1, hz_m (.getfield 27) 3 [8, 5] [], hz_n, hz_n, hz_r (.iconst 0) 1, hz_r (.aload_n 0) 1],
  [hz_m (.getfield 21) 3 [8, 3] [], hz_n, hz_n, hz_r (.iload_n 1) 1, hz_r (.bipush 6) 2, hz_n, hz_r (.imul) 1, hz_r (.bipush 6) 2, hz_n, hz_m (.invokestatic 59) 3 [7] [], hz_n, hz_n, hz_r (.return_) 1]]
/-- HeavierServes$Trials.feast(II)V -/
def hs_k81 : hs_K := [
  [hz_r (.aload_n 0) 1, hz_m (.getfield 12) 3 [9, 4] [], hz_n, hz_n, hz_r (.aload_n 0) 1, hz_m (.getfield 22) 3 [9, 0] [], hz_n, hz_n, hz_m (.invokevirtual 37) 3 [52, 2, 0] [], hz_n, hz_n, hz_r (.aload_n 0) 1, hz_m (.getfield 12) 3 [9, 4] [], hz_n, hz_n, hz_r (.iload_n 1) 1],
  [hz_r (.aload_n 0) 1, hz_m (.getfield 22) 3 [9, 0] [], hz_n, hz_n, hz_m (.getfield 41) 3 [6, 7] [], hz_n, hz_n, hz_r (.iload_n 1) 1, hz_r (.iaload) 1, hz_r (.iload_n 2) 1, hz_r (.iadd) 1, hz_m (.invokevirtual 44) 3 [56, 3, 0] [], hz_n, hz_n, hz_r (.return_) 1]]
/-- HeavierServes$Trials.cakesWorthTrying(I)I -/
def hs_k82 : hs_K := [
  [hz_r (.sipush 999) 3, hz_n, hz_n, hz_r (.sipush 999) 3, hz_n, hz_n, hz_r (.aload_n 0) 1, hz_m (.getfield 22) 3 [9, 0] [], hz_n, hz_n, hz_m (.getfield 41) 3 [6, 7] [], hz_n, hz_n, hz_r (.iload_n 1) 1, hz_r (.iaload) 1, hz_r (.isub) 1],
  [hz_m (.invokestatic 48) 3 [3, 2, 1] [], hz_n, hz_n, hz_r (.ireturn) 1]]
/-- HeavierServes$Trials.cakesToStay(II)I -/
def hs_k83 : hs_K := [
  [hz_m (.aload_n 0) 1 [] [true, true, true, false, false, false], hz_r (.iload_n 1) 1, hz_m (.invokevirtual 54) 3 [82, 2, 1] [], hz_n, hz_n, hz_r (.istore_n 3) 1, hz_r (.iconst 0) 1, hz_r (.istore 4) 2, hz_n, hz_m (.iload 4) 2 [] [true, true, true, true, true, false], hz_n, hz_r (.iload_n 3) 1, hz_r (.if_icmp .gt 71) 3, hz_n, hz_n, hz_m (.aload_n 0) 1 [] [true, true, true, true, true, false]],
  [hz_r (.iload_n 1) 1, hz_r (.iload 4) 2, hz_n, hz_m (.invokevirtual 58) 3 [81, 3, 0] [], hz_n, hz_n, hz_r (.iconst 0) 1, hz_r (.istore 5) 2, hz_n, hz_r (.iload 5) 2, hz_n, hz_r (.iload_n 2) 1, hz_r (.if_icmp .ge 35) 3, hz_n, hz_n, hz_r (.aload_n 0) 1],
  [hz_m (.getfield 12) 3 [9, 4] [], hz_n, hz_n, hz_m (.getfield 61) 3 [6, 1] [], hz_n, hz_n, hz_r (.iload_n 1) 1, hz_r (.if_icmp .ne 24) 3, hz_n, hz_n, hz_r (.aload_n 0) 1, hz_m (.getfield 29) 3 [9, 2] [], hz_n, hz_n, hz_r (.aload_n 0) 1, hz_m (.getfield 12) 3 [9, 4] []],
  [hz_n, hz_n, hz_r (.iconst 0) 1, hz_r (.sipush 255) 3, hz_n, hz_n, hz_m (.invokevirtual 65) 3 [27, 4, 0] [], hz_n, hz_n, hz_r (.iinc 5 1) 3, hz_n, hz_n, hz_r (.goto (-35)) 3, hz_n, hz_n, hz_m (.aload_n 0) 1 [] [true, true, true, true, true, false]],
  [hz_m (.getfield 12) 3 [9, 4] [], hz_n, hz_n, hz_m (.getfield 61) 3 [6, 1] [], hz_n, hz_n, hz_r (.iload_n 1) 1, hz_r (.if_icmp .ne 6) 3, hz_n, hz_n, hz_m (.iload 4) 2 [] [false, false, false, false, true, false], hz_n, hz_r (.ireturn) 1, hz_m (.iinc 4 1) 3 [] [true, true, true, true, true, false], hz_n, hz_n],
  [hz_r (.goto (-71)) 3, hz_n, hz_n, hz_m (.bipush (-2)) 2 [] [false, false, false, false, false, false], hz_n, hz_r (.ireturn) 1]]
/-- HeavierServes$Trials.cakesToServe(II)I -/
def hs_k84 : hs_K := [
  [hz_m (.aload_n 0) 1 [] [true, true, true, false, false, false], hz_r (.iload_n 1) 1, hz_m (.invokevirtual 54) 3 [82, 2, 1] [], hz_n, hz_n, hz_r (.istore_n 3) 1, hz_r (.iconst 0) 1, hz_r (.istore 4) 2, hz_n, hz_m (.iload 4) 2 [] [true, true, true, true, true, false], hz_n, hz_r (.iload_n 3) 1, hz_r (.if_icmp .gt 87) 3, hz_n, hz_n, hz_m (.aload_n 0) 1 [] [true, true, true, true, true, false]],
  [hz_r (.iload_n 1) 1, hz_r (.iload 4) 2, hz_n, hz_m (.invokevirtual 58) 3 [81, 3, 0] [], hz_n, hz_n, hz_r (.iconst 0) 1, hz_r (.istore 5) 2, hz_n, hz_r (.iload 5) 2, hz_n, hz_r (.iload_n 2) 1, hz_r (.if_icmp .ge 24) 3, hz_n, hz_n, hz_r (.aload_n 0) 1],
  [hz_m (.getfield 29) 3 [9, 2] [], hz_n, hz_n, hz_r (.aload_n 0) 1, hz_m (.getfield 12) 3 [9, 4] [], hz_n, hz_n, hz_r (.iconst 0) 1, hz_r (.sipush 255) 3, hz_n, hz_n, hz_m (.invokevirtual 65) 3 [27, 4, 0] [], hz_n, hz_n, hz_r (.iinc 5 1) 3, hz_n],
  [hz_n, hz_r (.goto (-24)) 3, hz_n, hz_n, hz_m (.aload_n 0) 1 [] [true, true, true, true, true, false], hz_m (.getfield 12) 3 [9, 4] [], hz_n, hz_n, hz_m (.getfield 61) 3 [6, 1] [], hz_n, hz_n, hz_r (.iload_n 1) 1, hz_r (.if_icmp .ne 33) 3, hz_n, hz_n, hz_m (.aload_n 0) 1 [] [true, true, false, false, true, false]],
  [hz_m (.getfield 33) 3 [9, 3] [], hz_n, hz_n, hz_r (.aload_n 0) 1, hz_m (.getfield 12) 3 [9, 4] [], hz_n, hz_n, hz_m (.getfield 71) 3 [6, 8] [], hz_n, hz_n, hz_r (.iload_n 1) 1, hz_r (.iaload) 1, hz_r (.aload_n 0) 1, hz_m (.getfield 22) 3 [9, 0] [], hz_n, hz_n],
  [hz_m (.getfield 71) 3 [6, 8] [], hz_n, hz_n, hz_r (.iload_n 1) 1, hz_r (.iaload) 1, hz_r (.isub) 1, hz_r (.i2l) 1, hz_m (.invokevirtual 74) 3 [42, 2, 0] [], hz_n, hz_n, hz_r (.iload 4) 2, hz_n, hz_r (.ireturn) 1, hz_m (.iinc 4 1) 3 [] [true, true, true, true, true, false], hz_n, hz_n],
  [hz_r (.goto (-87)) 3, hz_n, hz_n, hz_m (.bipush (-2)) 2 [] [false, false, false, false, false, false], hz_n, hz_r (.ireturn) 1]]
/-- HeavierServes$Trials.ouncesToMiss(II)I -/
def hs_k85 : hs_K := [
  [hz_m (.iconst 0) 1 [] [true, true, true, false, false], hz_r (.istore_n 3) 1, hz_m (.iload_n 3) 1 [] [true, true, true, true, false], hz_r (.aload_n 0) 1, hz_m (.getfield 22) 3 [9, 0] [], hz_n, hz_n, hz_m (.getfield 41) 3 [6, 7] [], hz_n, hz_n, hz_r (.iload_n 1) 1, hz_r (.iaload) 1, hz_r (.if_icmp .ge 90) 3, hz_n, hz_n, hz_m (.aload_n 0) 1 [] [true, true, true, true, false]],
  [hz_r (.iload_n 1) 1, hz_r (.iload_n 3) 1, hz_r (.ineg) 1, hz_m (.invokevirtual 58) 3 [81, 3, 0] [], hz_n, hz_n, hz_r (.iconst 0) 1, hz_r (.istore 4) 2, hz_n, hz_r (.iload 4) 2, hz_n, hz_r (.iload_n 2) 1, hz_r (.if_icmp .ge 45) 3, hz_n, hz_n, hz_r (.aload_n 0) 1],
  [hz_m (.getfield 12) 3 [9, 4] [], hz_n, hz_n, hz_m (.getfield 71) 3 [6, 8] [], hz_n, hz_n, hz_r (.iload_n 1) 1, hz_r (.iaload) 1, hz_r (.aload_n 0) 1, hz_m (.getfield 22) 3 [9, 0] [], hz_n, hz_n, hz_m (.getfield 71) 3 [6, 8] [], hz_n, hz_n, hz_r (.iload_n 1) 1],
  [hz_r (.iaload) 1, hz_r (.if_icmp .ne 24) 3, hz_n, hz_n, hz_r (.aload_n 0) 1, hz_m (.getfield 29) 3 [9, 2] [], hz_n, hz_n, hz_r (.aload_n 0) 1, hz_m (.getfield 12) 3 [9, 4] [], hz_n, hz_n, hz_r (.iconst 0) 1, hz_r (.sipush 255) 3, hz_n, hz_n],
  [hz_m (.invokevirtual 65) 3 [27, 4, 0] [], hz_n, hz_n, hz_r (.iinc 4 1) 3, hz_n, hz_n, hz_r (.goto (-45)) 3, hz_n, hz_n, hz_m (.aload_n 0) 1 [] [true, true, true, true, false], hz_m (.getfield 12) 3 [9, 4] [], hz_n, hz_n, hz_m (.getfield 71) 3 [6, 8] [], hz_n, hz_n],
  [hz_r (.iload_n 1) 1, hz_r (.iaload) 1, hz_r (.aload_n 0) 1, hz_m (.getfield 22) 3 [9, 0] [], hz_n, hz_n, hz_m (.getfield 71) 3 [6, 8] [], hz_n, hz_n, hz_r (.iload_n 1) 1, hz_r (.iaload) 1, hz_r (.if_icmp .ne 5) 3, hz_n, hz_n, hz_m (.iload_n 3) 1 [] [false, false, false, true, false], hz_r (.ireturn) 1],
  [hz_m (.iinc 3 1) 3 [] [true, true, true, true, false], hz_n, hz_n, hz_r (.goto (-97)) 3, hz_n, hz_n, hz_m (.bipush (-2)) 2 [] [false, false, false, false, false], hz_n, hz_r (.ireturn) 1]]
/-- HeavierServes$Trials.leastFed()I -/
def hs_k86 : hs_K := [
  [hz_m (.bipush (-2)) 2 [] [true, false, false, false, false], hz_n, hz_r (.istore_n 1) 1, hz_r (.sipush 1000) 3, hz_n, hz_n, hz_r (.istore_n 2) 1, hz_r (.iconst 0) 1, hz_r (.istore_n 3) 1, hz_m (.iload_n 3) 1 [] [true, true, true, true, false], hz_r (.aload_n 0) 1, hz_m (.getfield 25) 3 [9, 1] [], hz_n, hz_n, hz_m (.getfield 80) 3 [8, 9] [], hz_n],
  [hz_n, hz_r (.if_icmp .ge 45) 3, hz_n, hz_n, hz_m (.aload_n 0) 1 [] [true, true, true, true, false], hz_m (.getfield 22) 3 [9, 0] [], hz_n, hz_n, hz_r (.iload_n 3) 1, hz_m (.invokevirtual 85) 3 [55, 2, 1] [], hz_n, hz_n, hz_r (.ifCond .eq 14) 3, hz_n, hz_n, hz_m (.aload_n 0) 1 [] [true, true, true, true, false]],
  [hz_r (.iload_n 3) 1, hz_r (.iload_n 2) 1, hz_r (.iconst 1) 1, hz_r (.isub) 1, hz_m (.invokevirtual 89) 3 [87, 3, 1] [], hz_n, hz_n, hz_r (.goto 4) 3, hz_n, hz_n, hz_m (.iconst (-1)) 1 [] [true, true, true, true, false], hz_m (.istore 4) 2 [] [true, true, true, true, false], hz_n, hz_r (.iload 4) 2, hz_n, hz_r (.iconst (-1)) 1],
  [hz_r (.if_icmp .eq 8) 3, hz_n, hz_n, hz_m (.iload_n 3) 1 [] [true, false, false, true, true], hz_r (.istore_n 1) 1, hz_r (.iload 4) 2, hz_n, hz_r (.istore_n 2) 1, hz_m (.iinc 3 1) 3 [] [true, true, true, true, false], hz_n, hz_n, hz_r (.goto (-50)) 3, hz_n, hz_n, hz_m (.iload_n 1) 1 [] [true, true, true, false, false], hz_r (.ifCond .lt 12) 3],
  [hz_n, hz_n, hz_m (.aload_n 0) 1 [] [true, true, true, false, false], hz_m (.getfield 33) 3 [9, 3] [], hz_n, hz_n, hz_r (.iload_n 2) 1, hz_r (.i2l) 1, hz_m (.invokevirtual 74) 3 [42, 2, 0] [], hz_n, hz_n, hz_m (.iload_n 1) 1 [] [false, true, false, false, false], hz_r (.ireturn) 1]]
/-- HeavierServes$Trials.cakesForNextWeek(II)I -/
def hs_k87 : hs_K := [
  [hz_m (.iload_n 2) 1 [] [true, true, true, false, false, false], hz_r (.aload_n 0) 1, hz_r (.iload_n 1) 1, hz_m (.invokevirtual 54) 3 [82, 2, 1] [], hz_n, hz_n, hz_m (.invokestatic 48) 3 [3, 2, 1] [], hz_n, hz_n, hz_r (.istore_n 3) 1, hz_r (.iconst 0) 1, hz_r (.istore 4) 2, hz_n, hz_m (.iload 4) 2 [] [true, true, false, true, true, false], hz_n, hz_r (.iload_n 3) 1],
  [hz_r (.if_icmp .gt 67) 3, hz_n, hz_n, hz_m (.aload_n 0) 1 [] [true, true, false, true, true, false], hz_r (.iload_n 1) 1, hz_r (.iload 4) 2, hz_n, hz_m (.invokevirtual 58) 3 [81, 3, 0] [], hz_n, hz_n, hz_r (.aload_n 0) 1, hz_m (.getfield 29) 3 [9, 2] [], hz_n, hz_n, hz_r (.aload_n 0) 1, hz_m (.getfield 12) 3 [9, 4] []],
  [hz_n, hz_n, hz_r (.iconst 1) 1, hz_r (.iload_n 1) 1, hz_r (.ishl) 1, hz_r (.sipush 255) 3, hz_n, hz_n, hz_r (.iconst 1) 1, hz_r (.iload_n 1) 1, hz_r (.ishl) 1, hz_r (.iconst (-1)) 1, hz_r (.ixor) 1, hz_r (.iand) 1, hz_m (.invokevirtual 92) 3 [29, 4, 1] [], hz_n],
  [hz_n, hz_r (.istore 5) 2, hz_n, hz_r (.iload 5) 2, hz_n, hz_r (.iload_n 1) 1, hz_r (.if_icmp .eq 20) 3, hz_n, hz_n, hz_m (.iload 5) 2 [] [true, true, false, true, true, true], hz_n, hz_r (.iconst (-1)) 1, hz_r (.if_icmp .ne 17) 3, hz_n, hz_n, hz_m (.aload_n 0) 1 [] [true, true, false, true, true, false]],
  [hz_m (.getfield 22) 3 [9, 0] [], hz_n, hz_n, hz_m (.getfield 61) 3 [6, 1] [], hz_n, hz_n, hz_r (.iload_n 1) 1, hz_r (.if_icmp .ne 6) 3, hz_n, hz_n, hz_m (.iload 4) 2 [] [false, false, false, false, true, false], hz_n, hz_r (.ireturn) 1, hz_m (.iinc 4 1) 3 [] [true, true, false, true, true, false], hz_n, hz_n],
  [hz_r (.goto (-67)) 3, hz_n, hz_n, hz_m (.iconst (-1)) 1 [] [false, false, false, false, false, false], hz_r (.ireturn) 1]]
/-- HeavierServes$Trials.gather(LHeavierServes$Pairs;)Z -/
def hs_k88 : hs_K := [
  [hz_m (.aload_n 0) 1 [] [true, true, false, false, false], hz_r (.iconst 0) 1, hz_m (.putfield 96) 3 [9, 6] [], hz_n, hz_n, hz_r (.iconst 0) 1, hz_r (.istore_n 2) 1, hz_m (.iload_n 2) 1 [] [true, true, true, false, false], hz_r (.bipush 60) 2, hz_n, hz_r (.if_icmp .gt 16) 3, hz_n, hz_n, hz_m (.aload_n 0) 1 [] [true, true, true, false, false], hz_m (.getfield 18) 3 [9, 5] [], hz_n],
  [hz_n, hz_r (.iload_n 2) 1, hz_r (.iconst (-1)) 1, hz_r (.iastore) 1, hz_r (.iinc 2 1) 3, hz_n, hz_n, hz_r (.goto (-16)) 3, hz_n, hz_n, hz_m (.iconst 0) 1 [] [true, true, false, false, false], hz_r (.istore_n 2) 1, hz_m (.iload_n 2) 1 [] [true, true, true, false, false], hz_r (.aload_n 1) 1, hz_m (.getfield 99) 3 [2, 2] [], hz_n],
  [hz_n, hz_r (.if_icmp .ge 75) 3, hz_n, hz_n, hz_m (.aload_n 1) 1 [] [true, true, true, false, false], hz_r (.iload_n 2) 1, hz_m (.invokevirtual 104) 3 [36, 2, 1] [], hz_n, hz_n, hz_r (.istore_n 3) 1, hz_r (.aload_n 1) 1, hz_r (.iload_n 2) 1, hz_m (.invokevirtual 107) 3 [35, 2, 1] [], hz_n, hz_n, hz_r (.istore 4) 2],
  [hz_n, hz_r (.iload_n 3) 1, hz_r (.ifCond .lt 30) 3, hz_n, hz_n, hz_r (.iload_n 3) 1, hz_r (.bipush 60) 2, hz_n, hz_r (.if_icmp .gt 24) 3, hz_n, hz_n, hz_r (.aload_n 0) 1, hz_m (.getfield 18) 3 [9, 5] [], hz_n, hz_n, hz_r (.iload_n 3) 1],
  [hz_r (.iaload) 1, hz_r (.iconst (-1)) 1, hz_r (.if_icmp .eq 16) 3, hz_n, hz_n, hz_r (.aload_n 0) 1, hz_m (.getfield 18) 3 [9, 5] [], hz_n, hz_n, hz_r (.iload_n 3) 1, hz_r (.iaload) 1, hz_r (.iload 4) 2, hz_n, hz_r (.if_icmp .eq 5) 3, hz_n, hz_n],
  [hz_m (.iconst 0) 1 [] [false, false, false, false, false], hz_r (.ireturn) 1, hz_r (.aload_n 0) 1, hz_m (.getfield 18) 3 [9, 5] [], hz_n, hz_n, hz_r (.iload_n 3) 1, hz_r (.iload 4) 2, hz_n, hz_r (.iastore) 1, hz_r (.aload_n 0) 1, hz_r (.aload_n 0) 1, hz_m (.getfield 96) 3 [9, 6] [], hz_n, hz_n, hz_r (.iload_n 3) 1],
  [hz_m (.invokestatic 110) 3 [2, 2, 1] [], hz_n, hz_n, hz_m (.putfield 96) 3 [9, 6] [], hz_n, hz_n, hz_r (.iinc 2 1) 3, hz_n, hz_n, hz_r (.goto (-77)) 3, hz_n, hz_n, hz_m (.iconst 1) 1 [] [false, false, false, false, false], hz_r (.ireturn) 1]]
/-- HeavierServes$Trials.comesAsDue(I)Z -/
def hs_k89 : hs_K := [
  [hz_m (.iconst 1) 1 [] [true, true, false], hz_r (.istore_n 2) 1, hz_r (.iload_n 2) 1, hz_r (.aload_n 0) 1, hz_m (.getfield 96) 3 [9, 6] [], hz_n, hz_n, hz_r (.if_icmp .gt 56) 3, hz_n, hz_n, hz_r (.iload_n 2) 1, hz_r (.bipush 60) 2, hz_n, hz_r (.if_icmp .gt 50) 3, hz_n, hz_n],
  [hz_r (.aload_n 0) 1, hz_m (.getfield 29) 3 [9, 2] [], hz_n, hz_n, hz_r (.aload_n 0) 1, hz_m (.getfield 12) 3 [9, 4] [], hz_n, hz_n, hz_r (.iconst 0) 1, hz_r (.iload_n 1) 1, hz_m (.invokevirtual 65) 3 [27, 4, 0] [], hz_n, hz_n, hz_r (.aload_n 0) 1, hz_m (.getfield 18) 3 [9, 5] [], hz_n],
  [hz_n, hz_r (.iload_n 2) 1, hz_r (.iaload) 1, hz_r (.iconst (-1)) 1, hz_r (.if_icmp .eq 21) 3, hz_n, hz_n, hz_r (.aload_n 0) 1, hz_m (.getfield 18) 3 [9, 5] [], hz_n, hz_n, hz_r (.iload_n 2) 1, hz_r (.iaload) 1, hz_r (.aload_n 0) 1, hz_m (.getfield 12) 3 [9, 4] [], hz_n],
  [hz_n, hz_m (.getfield 61) 3 [6, 1] [], hz_n, hz_n, hz_r (.if_icmp .eq 5) 3, hz_n, hz_n, hz_m (.iconst 0) 1 [] [false, false, false], hz_r (.ireturn) 1, hz_r (.iinc 2 1) 3, hz_n, hz_n, hz_r (.goto (-58)) 3, hz_n, hz_n, hz_m (.iconst 1) 1 [] [false, false, false]],
  [hz_r (.ireturn) 1]]
/-- HeavierServes$Trials.explainingWeights(LHeavierServes$Pairs;I)I -/
def hs_k90 : hs_K := [
  [hz_m (.iconst 0) 1 [] [true, true, true, false, false, false, false, false], hz_r (.istore_n 3) 1, hz_r (.iconst 0) 1, hz_r (.istore 4) 2, hz_n, hz_r (.iconst 0) 1, hz_r (.istore 5) 2, hz_n, hz_r (.aload_n 0) 1, hz_r (.aload_n 1) 1, hz_m (.invokevirtual 113) 3 [88, 2, 1] [], hz_n, hz_n, hz_r (.ifCond .eq 9) 3, hz_n, hz_n],
  [hz_m (.sipush 999) 3 [] [true, false, true, true, true, true, false, false], hz_n, hz_n, hz_r (.goto 4) 3, hz_n, hz_n, hz_m (.iconst 0) 1 [] [true, false, true, true, true, true, false, false], hz_m (.istore 6) 2 [] [true, false, true, true, true, true, false, false], hz_n, hz_r (.iconst 1) 1, hz_r (.istore 7) 2, hz_n, hz_m (.iload 7) 2 [] [true, false, true, true, true, true, true, true], hz_n, hz_r (.iload 6) 2, hz_n],
  [hz_r (.if_icmp .gt 56) 3, hz_n, hz_n, hz_m (.aload_n 0) 1 [] [true, false, true, true, true, true, true, true], hz_r (.iload_n 2) 1, hz_r (.iload 7) 2, hz_n, hz_r (.aload_n 0) 1, hz_m (.getfield 22) 3 [9, 0] [], hz_n, hz_n, hz_m (.getfield 41) 3 [6, 7] [], hz_n, hz_n, hz_r (.iload_n 2) 1, hz_r (.iaload) 1],
  [hz_r (.isub) 1, hz_m (.invokevirtual 58) 3 [81, 3, 0] [], hz_n, hz_n, hz_r (.aload_n 0) 1, hz_r (.sipush 255) 3, hz_n, hz_n, hz_m (.invokevirtual 117) 3 [89, 2, 1] [], hz_n, hz_n, hz_r (.ifCond .eq 23) 3, hz_n, hz_n, hz_m (.iload_n 3) 1 [] [true, false, true, true, true, false, true, true], hz_r (.ifCond .ne 8) 3],
  [hz_n, hz_n, hz_m (.iload 7) 2 [] [true, false, true, true, false, false, true, true], hz_n, hz_r (.goto 5) 3, hz_n, hz_n, hz_m (.iload 4) 2 [] [true, false, true, true, true, false, true, true], hz_n, hz_m (.istore 4) 2 [] [true, false, true, true, false, false, true, true], hz_n, hz_r (.iload 7) 2, hz_n, hz_r (.istore 5) 2, hz_n, hz_r (.iinc 3 1) 3],
  [hz_n, hz_n, hz_m (.iinc 7 1) 3 [] [true, false, true, true, true, true, true, true], hz_n, hz_n, hz_r (.goto (-57)) 3, hz_n, hz_n, hz_m (.aload_n 0) 1 [] [true, false, false, true, true, true, false, false], hz_m (.getfield 33) 3 [9, 3] [], hz_n, hz_n, hz_r (.iload_n 3) 1, hz_r (.iload 4) 2, hz_n, hz_r (.iload 5) 2],
  [hz_n, hz_m (.invokevirtual 120) 3 [44, 4, 0] [], hz_n, hz_n, hz_r (.iload_n 3) 1, hz_r (.ireturn) 1]]
/-- HeavierServes$Trials.explainingAbsences(LHeavierServes$Pairs;)I -/
def hs_k91 : hs_K := [
  [hz_m (.aload_n 0) 1 [] [true, true, false, false, false], hz_r (.aload_n 1) 1, hz_m (.invokevirtual 113) 3 [88, 2, 1] [], hz_n, hz_n, hz_r (.istore_n 2) 1, hz_r (.aload_n 0) 1, hz_m (.getfield 12) 3 [9, 4] [], hz_n, hz_n, hz_r (.aload_n 0) 1, hz_m (.getfield 22) 3 [9, 0] [], hz_n, hz_n, hz_m (.invokevirtual 37) 3 [52, 2, 0] [], hz_n],
  [hz_n, hz_r (.aload_n 0) 1, hz_m (.getfield 33) 3 [9, 3] [], hz_n, hz_n, hz_r (.iload_n 2) 1, hz_r (.ifCond .eq 17) 3, hz_n, hz_n, hz_m (.aload_n 0) 1 [] [true, false, true, false, false], hz_r (.sipush 255) 3, hz_n, hz_n, hz_m (.invokevirtual 117) 3 [89, 2, 1] [], hz_n, hz_n],
  [hz_r (.ifCond .eq 7) 3, hz_n, hz_n, hz_m (.lconst 1) 1 [] [true, false, true, false, false], hz_r (.goto 4) 3, hz_n, hz_n, hz_m (.lconst 0) 1 [] [true, false, true, false, false], hz_m (.invokevirtual 74) 3 [42, 2, 0] [true, false, true, false, false], hz_n, hz_n, hz_r (.iconst 0) 1, hz_r (.istore_n 3) 1, hz_r (.iconst 0) 1, hz_r (.istore 4) 2, hz_n],
  [hz_m (.iload 4) 2 [] [true, false, true, true, true], hz_n, hz_r (.aload_n 0) 1, hz_m (.getfield 25) 3 [9, 1] [], hz_n, hz_n, hz_m (.getfield 80) 3 [8, 9] [], hz_n, hz_n, hz_r (.if_icmp .ge 60) 3, hz_n, hz_n, hz_m (.aload_n 0) 1 [] [true, false, true, true, true], hz_m (.getfield 12) 3 [9, 4] [], hz_n, hz_n],
  [hz_r (.aload_n 0) 1, hz_m (.getfield 22) 3 [9, 0] [], hz_n, hz_n, hz_m (.invokevirtual 37) 3 [52, 2, 0] [], hz_n, hz_n, hz_r (.iload_n 2) 1, hz_r (.ifCond .eq 39) 3, hz_n, hz_n, hz_m (.aload_n 0) 1 [] [true, false, true, true, true], hz_m (.getfield 22) 3 [9, 0] [], hz_n, hz_n, hz_r (.iload 4) 2],
  [hz_n, hz_m (.invokevirtual 85) 3 [55, 2, 1] [], hz_n, hz_n, hz_r (.ifCond .eq 27) 3, hz_n, hz_n, hz_m (.aload_n 0) 1 [] [true, false, true, true, true], hz_r (.sipush 255) 3, hz_n, hz_n, hz_r (.iconst 1) 1, hz_r (.iload 4) 2, hz_n, hz_r (.ishl) 1, hz_r (.iconst (-1)) 1],
  [hz_r (.ixor) 1, hz_r (.iand) 1, hz_m (.invokevirtual 117) 3 [89, 2, 1] [], hz_n, hz_n, hz_r (.ifCond .eq 10) 3, hz_n, hz_n, hz_m (.iload_n 3) 1 [] [true, false, true, true, true], hz_r (.iconst 1) 1, hz_r (.iload 4) 2, hz_n, hz_r (.ishl) 1, hz_r (.ior) 1, hz_r (.istore_n 3) 1, hz_m (.iinc 4 1) 3 [] [true, false, true, true, true]],
  [hz_n, hz_n, hz_r (.goto (-66)) 3, hz_n, hz_n, hz_m (.iload_n 3) 1 [] [false, false, false, true, false], hz_r (.ireturn) 1]]
/-- HeavierServes$Will.read(LHeavierServes$Text;)I -/
def hs_k92 : hs_K := [
  [hz_r (.aload_n 1) 1, hz_r (.bipush 40) 2, hz_n, hz_m (.invokevirtual 21) 3 [62, 2, 0] [], hz_n, hz_n, hz_r (.aload_n 0) 1, hz_r (.iconst 0) 1, hz_m (.putfield 27) 3 [10, 5] [], hz_n, hz_n, hz_r (.aload_n 0) 1, hz_r (.iconst 0) 1, hz_m (.putfield 31) 3 [10, 4] [], hz_n, hz_n],
  [hz_r (.aload_n 1) 1, hz_m (.getfield 34) 3 [7, 1] [], hz_n, hz_n, hz_r (.ifCond .le 29) 3, hz_n, hz_n, hz_r (.aload_n 0) 1, hz_r (.aload_n 1) 1, hz_r (.iconst 0) 1, hz_r (.iconst 0) 1, hz_m (.invokevirtual 37) 3 [93, 4, 1] [], hz_n, hz_n, hz_r (.ifCond .eq 14) 3, hz_n],
  [hz_n, hz_r (.aload_n 0) 1, hz_m (.getfield 27) 3 [10, 5] [], hz_n, hz_n, hz_r (.aload_n 1) 1, hz_m (.getfield 34) 3 [7, 1] [], hz_n, hz_n, hz_r (.if_icmp .ge 8) 3, hz_n, hz_n, hz_m (.aload_n 0) 1 [] [true, false], hz_m (.getfield 27) 3 [10, 5] [], hz_n, hz_n],
  [hz_r (.ireturn) 1, hz_m (.aload_n 0) 1 [] [true, false], hz_m (.getfield 15) 3 [10, 1] [], hz_n, hz_n, hz_r (.iconst 0) 1, hz_r (.aload_n 0) 1, hz_m (.getfield 11) 3 [10, 0] [], hz_n, hz_n, hz_r (.iconst 0) 1, hz_r (.bipush 40) 2, hz_n, hz_m (.invokestatic 41) 3 [7] [], hz_n, hz_n],
  [hz_r (.aload_n 0) 1, hz_r (.aload_n 0) 1, hz_m (.getfield 31) 3 [10, 4] [], hz_n, hz_n, hz_m (.putfield 47) 3 [10, 3] [], hz_n, hz_n, hz_r (.iconst (-1)) 1, hz_r (.ireturn) 1]]
/-- HeavierServes$Will.readLevel(LHeavierServes$Text;II)Z -/
def hs_k93 : hs_K := [
  [hz_m (.iload_n 2) 1 [] [true, true, true, true, false, false, false, false], hz_r (.iconst 3) 1, hz_r (.if_icmp .lt 10) 3, hz_n, hz_n, hz_m (.aload_n 0) 1 [] [true, true, false, true, false, false, false, false], hz_r (.aload_n 1) 1, hz_r (.iload_n 3) 1, hz_m (.invokevirtual 50) 3 [95, 3, 1] [], hz_n, hz_n, hz_r (.ireturn) 1, hz_m (.aload_n 0) 1 [] [true, true, true, true, false, false, false, false], hz_r (.aload_n 1) 1, hz_r (.iload_n 2) 1, hz_r (.iconst 1) 1],
  [hz_r (.iadd) 1, hz_r (.iload_n 3) 1, hz_m (.invokevirtual 37) 3 [93, 4, 1] [], hz_n, hz_n, hz_r (.istore 4) 2, hz_n, hz_r (.iload_n 2) 1, hz_r (.ifCond .ne 7) 3, hz_n, hz_n, hz_m (.iconst 1) 1 [] [true, true, true, true, true, false, false, false], hz_r (.goto 5) 3, hz_n, hz_n, hz_m (.bipush 40) 2 [] [true, true, true, true, true, false, false, false]],
  [hz_n, hz_m (.istore 5) 2 [] [true, true, true, true, true, false, false, false], hz_n, hz_r (.iconst 0) 1, hz_r (.istore 6) 2, hz_n, hz_m (.iload 6) 2 [] [true, true, true, true, true, true, true, false], hz_n, hz_r (.iload 5) 2, hz_n, hz_r (.if_icmp .ge 67) 3, hz_n, hz_n, hz_m (.iload 4) 2 [] [true, true, true, true, true, true, true, false], hz_n, hz_r (.ifCond .eq 62) 3],
  [hz_n, hz_n, hz_m (.aload_n 1) 1 [] [true, true, true, true, true, true, true, false], hz_r (.aload_n 0) 1, hz_m (.getfield 27) 3 [10, 5] [], hz_n, hz_n, hz_m (.invokevirtual 54) 3 [63, 2, 1] [], hz_n, hz_n, hz_r (.istore 7) 2, hz_n, hz_r (.iload 7) 2, hz_n, hz_m (.invokestatic 58) 3 [94, 1, 1] [], hz_n],
  [hz_n, hz_r (.iload_n 2) 1, hz_r (.if_icmp .eq 6) 3, hz_n, hz_n, hz_m (.goto 40) 3 [] [false, false, false, false, true, false, false, false], hz_n, hz_n, hz_m (.aload_n 0) 1 [] [true, true, true, true, false, true, true, true], hz_r (.dup) 1, hz_m (.getfield 27) 3 [10, 5] [], hz_n, hz_n, hz_r (.iconst 1) 1, hz_r (.iadd) 1, hz_m (.putfield 27) 3 [10, 5] []],
  [hz_n, hz_n, hz_r (.aload_n 0) 1, hz_r (.aload_n 1) 1, hz_r (.iload_n 2) 1, hz_r (.iconst 1) 1, hz_r (.iadd) 1, hz_r (.iload_n 3) 1, hz_m (.invokevirtual 37) 3 [93, 4, 1] [], hz_n, hz_n, hz_r (.istore 4) 2, hz_n, hz_r (.aload_n 0) 1, hz_r (.sipush 2000) 3, hz_n],
  [hz_n, hz_r (.iload 7) 2, hz_n, hz_r (.iadd) 1, hz_m (.invokevirtual 61) 3 [98, 2, 0] [], hz_n, hz_n, hz_r (.iinc 6 1) 3, hz_n, hz_n, hz_r (.goto (-68)) 3, hz_n, hz_n, hz_m (.iload 4) 2 [] [false, false, false, false, true, false, false, false], hz_n, hz_r (.ireturn) 1]]
/-- HeavierServes$Will.levelOf(I)I -/
def hs_k94 : hs_K := [
  [hz_r (.iload_n 0) 1, hz_r (.tableswitch 105 42 62 #[103, 101, 105, 101, 105, 103, 105, 105, 105, 105, 105, 105, 105, 105, 105, 105, 105, 105, 99, 99, 99]) 99, hz_n, hz_n, hz_n, hz_n, hz_n, hz_n, hz_n, hz_n, hz_n, hz_n, hz_n, hz_n, hz_n, hz_n],
  [hz_n, hz_n, hz_n, hz_n, hz_n, hz_n, hz_n, hz_n, hz_n, hz_n, hz_n, hz_n, hz_n, hz_n, hz_n, hz_n],
  [hz_n, hz_n, hz_n, hz_n, hz_n, hz_n, hz_n, hz_n, hz_n, hz_n, hz_n, hz_n, hz_n, hz_n, hz_n, hz_n],
  [hz_n, hz_n, hz_n, hz_n, hz_n, hz_n, hz_n, hz_n, hz_n, hz_n, hz_n, hz_n, hz_n, hz_n, hz_n, hz_n],
  [hz_n, hz_n, hz_n, hz_n, hz_n, hz_n, hz_n, hz_n, hz_n, hz_n, hz_n, hz_n, hz_n, hz_n, hz_n, hz_n],
  [hz_n, hz_n, hz_n, hz_n, hz_n, hz_n, hz_n, hz_n, hz_n, hz_n, hz_n, hz_n, hz_n, hz_n, hz_n, hz_n],
  [hz_n, hz_n, hz_n, hz_n, hz_m (.iconst 0) 1 [] [false], hz_r (.ireturn) 1, hz_m (.iconst 1) 1 [] [false], hz_r (.ireturn) 1, hz_m (.iconst 2) 1 [] [false], hz_r (.ireturn) 1, hz_m (.iconst (-1)) 1 [] [false], hz_r (.ireturn) 1]]
/-- HeavierServes$Will.readThing(LHeavierServes$Text;I)Z -/
def hs_k95 : hs_K := [
  [hz_m (.iconst 0) 1 [] [true, true, true, false, false, false], hz_r (.istore_n 3) 1, hz_r (.iconst 0) 1, hz_r (.istore 4) 2, hz_n, hz_m (.iload 4) 2 [] [true, true, true, true, true, false], hz_n, hz_r (.bipush 40) 2, hz_n, hz_r (.if_icmp .ge 42) 3, hz_n, hz_n, hz_m (.aload_n 1) 1 [] [true, true, true, true, true, false], hz_r (.aload_n 0) 1, hz_m (.getfield 27) 3 [10, 5] [], hz_n],
  [hz_n, hz_m (.invokevirtual 54) 3 [63, 2, 1] [], hz_n, hz_n, hz_r (.bipush 45) 2, hz_n, hz_r (.if_icmp .ne 29) 3, hz_n, hz_n, hz_m (.iload_n 3) 1 [] [true, true, true, true, true, false], hz_r (.ifCond .ne 7) 3, hz_n, hz_n, hz_m (.iconst 1) 1 [] [true, true, true, false, true, false], hz_r (.goto 4) 3, hz_n],
  [hz_n, hz_m (.iconst 0) 1 [] [true, true, true, false, true, false], hz_m (.istore_n 3) 1 [] [true, true, true, false, true, false], hz_r (.aload_n 0) 1, hz_r (.dup) 1, hz_m (.getfield 27) 3 [10, 5] [], hz_n, hz_n, hz_r (.iconst 1) 1, hz_r (.iadd) 1, hz_m (.putfield 27) 3 [10, 5] [], hz_n, hz_n, hz_r (.iinc 4 1) 3, hz_n, hz_n],
  [hz_r (.goto (-43)) 3, hz_n, hz_n, hz_m (.aload_n 1) 1 [] [true, true, true, true, false, false], hz_r (.aload_n 0) 1, hz_m (.getfield 27) 3 [10, 5] [], hz_n, hz_n, hz_m (.invokevirtual 54) 3 [63, 2, 1] [], hz_n, hz_n, hz_r (.istore 4) 2, hz_n, hz_r (.iconst 1) 1, hz_r (.istore 5) 2, hz_n],
  [hz_r (.iload 4) 2, hz_n, hz_r (.bipush 40) 2, hz_n, hz_r (.if_icmp .ne 27) 3, hz_n, hz_n, hz_m (.iload_n 2) 1 [] [true, true, true, true, false, false], hz_r (.iconst 4) 1, hz_r (.if_icmp .ge 16) 3, hz_n, hz_n, hz_m (.aload_n 0) 1 [] [true, true, true, true, false, false], hz_r (.aload_n 1) 1, hz_r (.iload_n 2) 1, hz_m (.invokevirtual 64) 3 [96, 3, 1] []],
  [hz_n, hz_n, hz_r (.ifCond .eq 7) 3, hz_n, hz_n, hz_m (.iconst 1) 1 [] [true, false, false, true, false, false], hz_r (.goto 4) 3, hz_n, hz_n, hz_m (.iconst 0) 1 [] [true, false, false, true, false, false], hz_m (.istore 5) 2 [] [true, false, false, true, false, false], hz_n, hz_r (.goto 59) 3, hz_n, hz_n, hz_m (.iload 4) 2 [] [true, true, false, true, true, true]],
  [hz_n, hz_r (.bipush 48) 2, hz_n, hz_r (.if_icmp .lt 18) 3, hz_n, hz_n, hz_m (.iload 4) 2 [] [true, true, false, true, true, true], hz_n, hz_r (.bipush 57) 2, hz_n, hz_r (.if_icmp .gt 11) 3, hz_n, hz_n, hz_m (.aload_n 0) 1 [] [true, true, false, true, false, true], hz_r (.aload_n 1) 1, hz_m (.invokevirtual 67) 3 [97, 2, 0] []],
  [hz_n, hz_n, hz_r (.goto 37) 3, hz_n, hz_n, hz_m (.iload 4) 2 [] [true, false, false, true, true, true], hz_n, hz_m (.invokestatic 71) 3 [99, 1, 1] [], hz_n, hz_n, hz_r (.ifCond .eq 26) 3, hz_n, hz_n, hz_m (.aload_n 0) 1 [] [true, false, false, true, true, true], hz_r (.sipush 1000) 3, hz_n],
  [hz_n, hz_r (.iload 4) 2, hz_n, hz_r (.iadd) 1, hz_m (.invokevirtual 61) 3 [98, 2, 0] [], hz_n, hz_n, hz_r (.aload_n 0) 1, hz_r (.dup) 1, hz_m (.getfield 27) 3 [10, 5] [], hz_n, hz_n, hz_r (.iconst 1) 1, hz_r (.iadd) 1, hz_m (.putfield 27) 3 [10, 5] [], hz_n],
  [hz_n, hz_r (.goto 6) 3, hz_n, hz_n, hz_m (.iconst 0) 1 [] [true, false, false, true, false, false], hz_r (.istore 5) 2, hz_n, hz_m (.iload_n 3) 1 [] [true, false, false, true, false, true], hz_r (.ifCond .eq 10) 3, hz_n, hz_n, hz_m (.aload_n 0) 1 [] [true, false, false, false, false, true], hz_r (.sipush 3000) 3, hz_n, hz_n, hz_m (.invokevirtual 61) 3 [98, 2, 0] []],
  [hz_n, hz_n, hz_m (.iload 5) 2 [] [false, false, false, false, false, true], hz_n, hz_r (.ireturn) 1]]
/-- HeavierServes$Will.readBracket(LHeavierServes$Text;I)Z -/
def hs_k96 : hs_K := [
  [hz_r (.aload_n 0) 1, hz_r (.dup) 1, hz_m (.getfield 27) 3 [10, 5] [], hz_n, hz_n, hz_r (.iconst 1) 1, hz_r (.iadd) 1, hz_m (.putfield 27) 3 [10, 5] [], hz_n, hz_n, hz_r (.aload_n 0) 1, hz_r (.aload_n 1) 1, hz_r (.iconst 0) 1, hz_r (.iload_n 2) 1, hz_r (.iconst 1) 1, hz_r (.iadd) 1],
  [hz_m (.invokevirtual 37) 3 [93, 4, 1] [], hz_n, hz_n, hz_r (.ifCond .eq 16) 3, hz_n, hz_n, hz_m (.aload_n 1) 1 [] [true, true, false], hz_r (.aload_n 0) 1, hz_m (.getfield 27) 3 [10, 5] [], hz_n, hz_n, hz_m (.invokevirtual 54) 3 [63, 2, 1] [], hz_n, hz_n, hz_r (.bipush 41) 2, hz_n],
  [hz_r (.if_icmp .eq 5) 3, hz_n, hz_n, hz_m (.iconst 0) 1 [] [false, false, false], hz_r (.ireturn) 1, hz_m (.aload_n 0) 1 [] [true, false, false], hz_r (.dup) 1, hz_m (.getfield 27) 3 [10, 5] [], hz_n, hz_n, hz_r (.iconst 1) 1, hz_r (.iadd) 1, hz_m (.putfield 27) 3 [10, 5] [], hz_n, hz_n, hz_r (.iconst 1) 1],
  [hz_r (.ireturn) 1]]
/-- HeavierServes$Will.readNumber(LHeavierServes$Text;)V -/
def hs_k97 : hs_K := [
  [hz_m (.iconst 0) 1 [] [true, true, false, false], hz_r (.istore_n 2) 1, hz_r (.iconst 0) 1, hz_r (.istore_n 3) 1, hz_r (.iload_n 3) 1, hz_r (.iconst 3) 1, hz_r (.if_icmp .ge 45) 3, hz_n, hz_n, hz_r (.aload_n 1) 1, hz_r (.aload_n 0) 1, hz_m (.getfield 27) 3 [10, 5] [], hz_n, hz_n, hz_m (.invokevirtual 75) 3 [64, 2, 1] [], hz_n],
  [hz_n, hz_r (.iconst (-1)) 1, hz_r (.if_icmp .eq 33) 3, hz_n, hz_n, hz_r (.iload_n 2) 1, hz_r (.bipush 10) 2, hz_n, hz_r (.imul) 1, hz_r (.aload_n 1) 1, hz_r (.aload_n 0) 1, hz_m (.getfield 27) 3 [10, 5] [], hz_n, hz_n, hz_m (.invokevirtual 75) 3 [64, 2, 1] [], hz_n],
  [hz_n, hz_r (.iadd) 1, hz_r (.istore_n 2) 1, hz_r (.aload_n 0) 1, hz_r (.dup) 1, hz_m (.getfield 27) 3 [10, 5] [], hz_n, hz_n, hz_r (.iconst 1) 1, hz_r (.iadd) 1, hz_m (.putfield 27) 3 [10, 5] [], hz_n, hz_n, hz_r (.iinc 3 1) 3, hz_n, hz_n],
  [hz_r (.goto (-44)) 3, hz_n, hz_n, hz_m (.aload_n 0) 1 [] [true, false, true, false], hz_r (.iload_n 2) 1, hz_m (.invokevirtual 61) 3 [98, 2, 0] [], hz_n, hz_n, hz_r (.return_) 1]]
/-- HeavierServes$Will.emit(I)V -/
def hs_k98 : hs_K := [
  [hz_r (.aload_n 0) 1, hz_m (.getfield 31) 3 [10, 4] [], hz_n, hz_n, hz_r (.ifCond .lt 32) 3, hz_n, hz_n, hz_r (.aload_n 0) 1, hz_m (.getfield 31) 3 [10, 4] [], hz_n, hz_n, hz_r (.bipush 40) 2, hz_n, hz_r (.if_icmp .ge 23) 3, hz_n, hz_n],
  [hz_r (.aload_n 0) 1, hz_m (.getfield 15) 3 [10, 1] [], hz_n, hz_n, hz_r (.aload_n 0) 1, hz_m (.getfield 31) 3 [10, 4] [], hz_n, hz_n, hz_r (.iload_n 1) 1, hz_r (.iastore) 1, hz_r (.aload_n 0) 1, hz_r (.dup) 1, hz_m (.getfield 31) 3 [10, 4] [], hz_n, hz_n, hz_r (.iconst 1) 1],
  [hz_r (.iadd) 1, hz_m (.putfield 31) 3 [10, 4] [], hz_n, hz_n, hz_m (.return_) 1 [] [false, false]]]
/-- HeavierServes$Will.isFact(I)Z -/
def hs_k99 : hs_K := [
  [hz_r (.iload_n 0) 1, hz_r (.tableswitch 77 105 119 #[75, 77, 77, 77, 77, 75, 75, 75, 75, 77, 75, 75, 77, 75, 75]) 75, hz_n, hz_n, hz_n, hz_n, hz_n, hz_n, hz_n, hz_n, hz_n, hz_n, hz_n, hz_n, hz_n, hz_n],
  [hz_n, hz_n, hz_n, hz_n, hz_n, hz_n, hz_n, hz_n, hz_n, hz_n, hz_n, hz_n, hz_n, hz_n, hz_n, hz_n],
  [hz_n, hz_n, hz_n, hz_n, hz_n, hz_n, hz_n, hz_n, hz_n, hz_n, hz_n, hz_n, hz_n, hz_n, hz_n, hz_n],
  [hz_n, hz_n, hz_n, hz_n, hz_n, hz_n, hz_n, hz_n, hz_n, hz_n, hz_n, hz_n, hz_n, hz_n, hz_n, hz_n],
  [hz_n, hz_n, hz_n, hz_n, hz_n, hz_n, hz_n, hz_n, hz_n, hz_n, hz_n, hz_n, hz_m (.iconst 1) 1 [] [false], hz_r (.ireturn) 1, hz_m (.iconst 0) 1 [] [false], hz_r (.ireturn) 1]]
/-- HeavierServes$Will.value(LHeavierServes$State;LHeavierServes$Town;I)I -/
def hs_k100 : hs_K := [
  [hz_m (.aload_n 0) 1 [] [true, true, true, true, false, false, false, false, false], hz_m (.getfield 47) 3 [10, 3] [], hz_n, hz_n, hz_r (.ifCond .ne 5) 3, hz_n, hz_n, hz_m (.iconst 1) 1 [] [false, false, false, false, false, false, false, false, false], hz_r (.ireturn) 1, hz_m (.iconst 0) 1 [] [true, true, true, true, false, false, false, false, false], hz_r (.istore 4) 2, hz_n, hz_r (.iconst 0) 1, hz_r (.istore 5) 2, hz_n, hz_m (.iload 5) 2 [] [true, true, true, true, true, true, false, false, false]],
  [hz_n, hz_r (.aload_n 0) 1, hz_m (.getfield 47) 3 [10, 3] [], hz_n, hz_n, hz_r (.if_icmp .ge 159) 3, hz_n, hz_n, hz_m (.iload 5) 2 [] [true, true, true, true, true, true, false, false, false], hz_n, hz_r (.bipush 40) 2, hz_n, hz_r (.if_icmp .ge 152) 3, hz_n, hz_n, hz_m (.aload_n 0) 1 [] [true, true, true, true, true, true, false, false, false]],
  [hz_m (.getfield 11) 3 [10, 0] [], hz_n, hz_n, hz_r (.iload 5) 2, hz_n, hz_r (.iaload) 1, hz_r (.istore 6) 2, hz_n, hz_r (.iload 6) 2, hz_n, hz_r (.sipush 2000) 3, hz_n, hz_n, hz_r (.if_icmp .lt 85) 3, hz_n, hz_n],
  [hz_m (.iload 6) 2 [] [true, true, true, true, true, true, true, false, false], hz_n, hz_r (.sipush 3000) 3, hz_n, hz_n, hz_r (.if_icmp .ne 7) 3, hz_n, hz_n, hz_m (.iconst 0) 1 [] [true, true, true, true, true, true, true, false, false], hz_r (.goto 4) 3, hz_n, hz_n, hz_m (.iconst 1) 1 [] [true, true, true, true, true, true, true, false, false], hz_m (.istore 7) 2 [] [true, true, true, true, true, true, true, false, false], hz_n, hz_r (.iload 4) 2],
  [hz_n, hz_r (.iload 7) 2, hz_n, hz_r (.isub) 1, hz_r (.istore 4) 2, hz_n, hz_r (.iload 4) 2, hz_n, hz_r (.iconst 1) 1, hz_r (.if_icmp .ge 5) 3, hz_n, hz_n, hz_m (.iconst 0) 1 [] [false, false, false, false, false, false, false, false, false], hz_r (.ireturn) 1, hz_m (.aload_n 0) 1 [] [true, true, true, true, true, true, true, true, false], hz_m (.getfield 18) 3 [10, 2] []],
  [hz_n, hz_n, hz_r (.iload 4) 2, hz_n, hz_r (.iconst 1) 1, hz_r (.isub) 1, hz_r (.iaload) 1, hz_r (.istore 8) 2, hz_n, hz_r (.aload_n 0) 1, hz_m (.getfield 18) 3 [10, 2] [], hz_n, hz_n, hz_r (.iload 4) 2, hz_n, hz_r (.iconst 1) 1],
  [hz_r (.isub) 1, hz_r (.iload 7) 2, hz_n, hz_r (.ifCond .ne 9) 3, hz_n, hz_n, hz_m (.iload 8) 2 [] [true, true, true, true, true, true, false, false, true], hz_n, hz_r (.ineg) 1, hz_r (.goto 21) 3, hz_n, hz_n, hz_m (.iload 6) 2 [] [true, true, true, true, true, true, true, false, true], hz_n, hz_r (.sipush 2000) 3, hz_n],
  [hz_n, hz_r (.isub) 1, hz_r (.iload 8) 2, hz_n, hz_r (.aload_n 0) 1, hz_m (.getfield 18) 3 [10, 2] [], hz_n, hz_n, hz_r (.iload 4) 2, hz_n, hz_r (.iaload) 1, hz_m (.invokestatic 78) 3 [101, 3, 1] [], hz_n, hz_n, hz_m (.iastore) 1 [] [true, true, true, true, true, true, false, false, false], hz_r (.goto 47) 3],
  [hz_n, hz_n, hz_m (.iload 4) 2 [] [true, true, true, true, true, true, true, false, false], hz_n, hz_r (.bipush 40) 2, hz_n, hz_r (.if_icmp .lt 5) 3, hz_n, hz_n, hz_m (.iconst 0) 1 [] [false, false, false, false, false, false, false, false, false], hz_r (.ireturn) 1, hz_m (.aload_n 0) 1 [] [true, true, true, true, true, true, true, false, false], hz_m (.getfield 18) 3 [10, 2] [], hz_n, hz_n, hz_r (.iload 4) 2],
  [hz_n, hz_r (.iload 6) 2, hz_n, hz_r (.sipush 1000) 3, hz_n, hz_n, hz_r (.if_icmp .ge 8) 3, hz_n, hz_n, hz_m (.iload 6) 2 [] [true, true, true, true, true, true, true, false, false], hz_n, hz_r (.goto 15) 3, hz_n, hz_n, hz_m (.iload 6) 2 [] [true, true, true, true, true, true, true, false, false], hz_n],
  [hz_r (.sipush 1000) 3, hz_n, hz_n, hz_r (.isub) 1, hz_r (.aload_n 1) 1, hz_r (.aload_n 2) 1, hz_r (.iload_n 3) 1, hz_m (.invokestatic 82) 3 [102, 4, 1] [], hz_n, hz_n, hz_m (.iastore) 1 [] [true, true, true, true, true, true, false, false, false], hz_r (.iinc 4 1) 3, hz_n, hz_n, hz_m (.iinc 5 1) 3 [] [true, true, true, true, true, true, false, false, false], hz_n],
  [hz_n, hz_r (.goto (-162)) 3, hz_n, hz_n, hz_m (.aload_n 0) 1 [] [true, false, false, false, false, false, false, false, false], hz_m (.getfield 18) 3 [10, 2] [], hz_n, hz_n, hz_r (.iconst 0) 1, hz_r (.iaload) 1, hz_r (.ireturn) 1]]
/-- HeavierServes$Will.combine(III)I -/
def hs_k101 : hs_K := [
  [hz_r (.iload_n 0) 1, hz_r (.lookupswitch 105 #[(42, 67), (43, 59), (45, 63), (47, 71), (60, 83), (62, 94)]) 59, hz_n, hz_n, hz_n, hz_n, hz_n, hz_n, hz_n, hz_n, hz_n, hz_n, hz_n, hz_n, hz_n, hz_n],
  [hz_n, hz_n, hz_n, hz_n, hz_n, hz_n, hz_n, hz_n, hz_n, hz_n, hz_n, hz_n, hz_n, hz_n, hz_n, hz_n],
  [hz_n, hz_n, hz_n, hz_n, hz_n, hz_n, hz_n, hz_n, hz_n, hz_n, hz_n, hz_n, hz_n, hz_n, hz_n, hz_n],
  [hz_n, hz_n, hz_n, hz_n, hz_n, hz_n, hz_n, hz_n, hz_n, hz_n, hz_n, hz_n, hz_m (.iload_n 1) 1 [] [false, true, true], hz_r (.iload_n 2) 1, hz_r (.iadd) 1, hz_r (.ireturn) 1],
  [hz_m (.iload_n 1) 1 [] [false, true, true], hz_r (.iload_n 2) 1, hz_r (.isub) 1, hz_r (.ireturn) 1, hz_m (.iload_n 1) 1 [] [false, true, true], hz_r (.iload_n 2) 1, hz_r (.imul) 1, hz_r (.ireturn) 1, hz_m (.iload_n 2) 1 [] [false, true, true], hz_r (.ifCond .ne 7) 3, hz_n, hz_n, hz_m (.iconst 0) 1 [] [false, false, false], hz_r (.goto 6) 3, hz_n, hz_n],
  [hz_m (.iload_n 1) 1 [] [false, true, true], hz_r (.iload_n 2) 1, hz_r (.idiv) 1, hz_m (.ireturn) 1 [] [false, false, false], hz_m (.iload_n 1) 1 [] [false, true, true], hz_r (.iload_n 2) 1, hz_r (.if_icmp .ge 7) 3, hz_n, hz_n, hz_m (.iconst 1) 1 [] [false, false, false], hz_r (.goto 4) 3, hz_n, hz_n, hz_m (.iconst 0) 1 [] [false, false, false], hz_m (.ireturn) 1 [] [false, false, false], hz_m (.iload_n 1) 1 [] [false, true, true]],
  [hz_r (.iload_n 2) 1, hz_r (.if_icmp .le 7) 3, hz_n, hz_n, hz_m (.iconst 1) 1 [] [false, false, false], hz_r (.goto 4) 3, hz_n, hz_n, hz_m (.iconst 0) 1 [] [false, false, false], hz_m (.ireturn) 1 [] [false, false, false], hz_m (.iload_n 1) 1 [] [false, true, true], hz_r (.iload_n 2) 1, hz_r (.if_icmp .ne 7) 3, hz_n, hz_n, hz_m (.iconst 1) 1 [] [false, false, false]],
  [hz_r (.goto 4) 3, hz_n, hz_n, hz_m (.iconst 0) 1 [] [false, false, false], hz_m (.ireturn) 1 [] [false, false, false]]]
/-- HeavierServes$Will.fact(ILHeavierServes$State;LHeavierServes$Town;I)I -/
def hs_k102 : hs_K := [
  [hz_m (.aload_n 1) 1 [] [true, true, true, true, false], hz_m (.getfield 86) 3 [6, 1] [], hz_n, hz_n, hz_r (.istore 4) 2, hz_n, hz_r (.iload_n 0) 1, hz_r (.tableswitch 138 105 119 #[73, 138, 138, 138, 138, 133, 138, 82, 106, 138, 123, 128, 138, 89, 75]) 73, hz_n, hz_n, hz_n, hz_n, hz_n, hz_n, hz_n, hz_n],
  [hz_n, hz_n, hz_n, hz_n, hz_n, hz_n, hz_n, hz_n, hz_n, hz_n, hz_n, hz_n, hz_n, hz_n, hz_n, hz_n],
  [hz_n, hz_n, hz_n, hz_n, hz_n, hz_n, hz_n, hz_n, hz_n, hz_n, hz_n, hz_n, hz_n, hz_n, hz_n, hz_n],
  [hz_n, hz_n, hz_n, hz_n, hz_n, hz_n, hz_n, hz_n, hz_n, hz_n, hz_n, hz_n, hz_n, hz_n, hz_n, hz_n],
  [hz_n, hz_n, hz_n, hz_n, hz_n, hz_n, hz_n, hz_n, hz_n, hz_n, hz_n, hz_n, hz_n, hz_n, hz_n, hz_n],
  [hz_m (.iload_n 3) 1 [] [false, false, false, true, false], hz_r (.ireturn) 1, hz_m (.aload_n 1) 1 [] [false, true, false, true, false], hz_m (.getfield 91) 3 [6, 7] [], hz_n, hz_n, hz_r (.iload_n 3) 1, hz_r (.iaload) 1, hz_r (.ireturn) 1, hz_m (.aload_n 2) 1 [] [false, false, true, true, false], hz_m (.getfield 94) 3 [8, 0] [], hz_n, hz_n, hz_r (.iload_n 3) 1, hz_r (.iaload) 1, hz_r (.ireturn) 1],
  [hz_m (.iload 4) 2 [] [false, true, false, false, true], hz_n, hz_r (.ifCond .ge 7) 3, hz_n, hz_n, hz_m (.iconst 0) 1 [] [false, false, false, false, false], hz_r (.goto 10) 3, hz_n, hz_n, hz_m (.aload_n 1) 1 [] [false, true, false, false, true], hz_m (.getfield 91) 3 [6, 7] [], hz_n, hz_n, hz_r (.iload 4) 2, hz_n, hz_r (.iaload) 1],
  [hz_m (.ireturn) 1 [] [false, false, false, false, false], hz_m (.iload 4) 2 [] [false, false, true, false, true], hz_n, hz_r (.ifCond .ge 7) 3, hz_n, hz_n, hz_m (.iconst (-1)) 1 [] [false, false, false, false, false], hz_r (.goto 10) 3, hz_n, hz_n, hz_m (.aload_n 2) 1 [] [false, false, true, false, true], hz_m (.getfield 94) 3 [8, 0] [], hz_n, hz_n, hz_r (.iload 4) 2, hz_n],
  [hz_r (.iaload) 1, hz_m (.ireturn) 1 [] [false, false, false, false, false], hz_m (.aload_n 1) 1 [] [false, true, false, false, false], hz_m (.getfield 99) 3 [6, 2] [], hz_n, hz_n, hz_r (.ireturn) 1, hz_m (.aload_n 1) 1 [] [false, true, false, false, false], hz_m (.getfield 102) 3 [6, 5] [], hz_n, hz_n, hz_r (.ireturn) 1, hz_m (.aload_n 1) 1 [] [false, true, false, false, false], hz_m (.getfield 105) 3 [6, 0] [], hz_n, hz_n],
  [hz_r (.ireturn) 1, hz_m (.aload_n 1) 1 [] [false, true, false, true, false], hz_m (.getfield 108) 3 [6, 8] [], hz_n, hz_n, hz_r (.iload_n 3) 1, hz_r (.iaload) 1, hz_r (.ireturn) 1]]
/-- HeavierServes.sign(I)I -/
def hs_k103 : hs_K := [
  [hz_r (.aload_n 0) 1, hz_m (.getfield 10) 3 [11, 0] [], hz_n, hz_n, hz_r (.iload_n 1) 1, hz_m (.invokevirtual 95) 3 [61, 2, 1] [], hz_n, hz_n, hz_r (.ifCond .eq 13) 3, hz_n, hz_n, hz_m (.aload_n 0) 1 [] [true, false], hz_m (.getfield 10) 3 [11, 0] [], hz_n, hz_n, hz_m (.getfield 99) 3 [7, 1] []],
  [hz_n, hz_n, hz_r (.goto 4) 3, hz_n, hz_n, hz_m (.iconst (-1)) 1 [] [false, false], hz_m (.ireturn) 1 [] [false, false]]]
/-- HeavierServes.end(I)Z -/
def hs_k104 : hs_K := [
  [hz_r (.iload_n 1) 1, hz_r (.ifCond .lt 14) 3, hz_n, hz_n, hz_r (.iload_n 1) 1, hz_r (.aload_n 0) 1, hz_m (.getfield 10) 3 [11, 0] [], hz_n, hz_n, hz_m (.getfield 99) 3 [7, 1] [], hz_n, hz_n, hz_r (.if_icmp .le 5) 3, hz_n, hz_n, hz_m (.iconst 0) 1 [] [false, false]],
  [hz_r (.ireturn) 1, hz_r (.aload_n 0) 1, hz_m (.getfield 10) 3 [11, 0] [], hz_n, hz_n, hz_r (.iload_n 1) 1, hz_m (.putfield 99) 3 [7, 1] [], hz_n, hz_n, hz_r (.iconst 1) 1, hz_r (.ireturn) 1]]
/-- HeavierServes.town()I -/
def hs_k105 : hs_K := [
  [hz_m (.aload_n 0) 1 [] [true, false, false, false], hz_m (.getfield 10) 3 [11, 0] [], hz_n, hz_n, hz_m (.getfield 99) 3 [7, 1] [], hz_n, hz_n, hz_r (.ifCond .ne 5) 3, hz_n, hz_n, hz_m (.iconst 0) 1 [] [false, false, false, false], hz_r (.ireturn) 1, hz_m (.aload_n 0) 1 [] [true, false, false, false], hz_m (.getfield 26) 3 [11, 2] [], hz_n, hz_n],
  [hz_r (.aload_n 0) 1, hz_m (.getfield 10) 3 [11, 0] [], hz_n, hz_n, hz_m (.invokevirtual 103) 3 [73, 2, 1] [], hz_n, hz_n, hz_r (.istore_n 1) 1, hz_r (.aload_n 0) 1, hz_m (.getfield 10) 3 [11, 0] [], hz_n, hz_n, hz_r (.iconst 0) 1, hz_m (.putfield 99) 3 [7, 1] [], hz_n, hz_n],
  [hz_r (.iload_n 1) 1, hz_r (.iconst (-1)) 1, hz_r (.if_icmp .eq 7) 3, hz_n, hz_n, hz_m (.iconst (-1)) 1 [] [false, true, false, false], hz_r (.iload_n 1) 1, hz_r (.isub) 1, hz_r (.ireturn) 1, hz_m (.aload_n 0) 1 [] [true, false, false, false], hz_m (.getfield 26) 3 [11, 2] [], hz_n, hz_n, hz_m (.getfield 107) 3 [8, 8] [], hz_n, hz_n],
  [hz_r (.istore_n 2) 1, hz_r (.iconst 0) 1, hz_r (.istore_n 3) 1, hz_m (.iload_n 3) 1 [] [true, false, true, true], hz_r (.iload_n 2) 1, hz_r (.if_icmp .ge 50) 3, hz_n, hz_n, hz_m (.aload_n 0) 1 [] [true, false, true, true], hz_m (.getfield 47) 3 [11, 5] [], hz_n, hz_n, hz_r (.aload_n 0) 1, hz_m (.getfield 26) 3 [11, 2] [], hz_n, hz_n],
  [hz_m (.getfield 110) 3 [8, 9] [], hz_n, hz_n, hz_r (.aload_n 0) 1, hz_m (.getfield 26) 3 [11, 2] [], hz_n, hz_n, hz_r (.aload_n 0) 1, hz_m (.getfield 26) 3 [11, 2] [], hz_n, hz_n, hz_m (.getfield 110) 3 [8, 9] [], hz_n, hz_n, hz_m (.invokevirtual 113) 3 [68, 2, 1] [], hz_n],
  [hz_n, hz_m (.invokevirtual 117) 3 [54, 3, 0] [], hz_n, hz_n, hz_r (.aload_n 0) 1, hz_m (.getfield 26) 3 [11, 2] [], hz_n, hz_n, hz_r (.dup) 1, hz_m (.getfield 110) 3 [8, 9] [], hz_n, hz_n, hz_r (.iconst 1) 1, hz_r (.iadd) 1, hz_m (.putfield 110) 3 [8, 9] [], hz_n],
  [hz_n, hz_r (.iinc 3 1) 3, hz_n, hz_n, hz_r (.goto (-49)) 3, hz_n, hz_n, hz_m (.aload_n 0) 1 [] [true, false, true, false], hz_m (.getfield 54) 3 [11, 6] [], hz_n, hz_n, hz_m (.invokevirtual 121) 3 [39, 1, 0] [], hz_n, hz_n, hz_r (.iload_n 2) 1, hz_r (.ireturn) 1]]
/-- HeavierServes.will()I -/
def hs_k106 : hs_K := [
  [hz_m (.aload_n 0) 1 [] [true, false], hz_m (.getfield 33) 3 [11, 3] [], hz_n, hz_n, hz_r (.aload_n 0) 1, hz_m (.getfield 10) 3 [11, 0] [], hz_n, hz_n, hz_m (.invokevirtual 124) 3 [92, 2, 1] [], hz_n, hz_n, hz_r (.istore_n 1) 1, hz_r (.aload_n 0) 1, hz_m (.getfield 10) 3 [11, 0] [], hz_n, hz_n],
  [hz_r (.iconst 0) 1, hz_m (.putfield 99) 3 [7, 1] [], hz_n, hz_n, hz_r (.iload_n 1) 1, hz_r (.iconst (-1)) 1, hz_r (.if_icmp .ne 7) 3, hz_n, hz_n, hz_m (.iconst 0) 1 [] [false, false], hz_r (.goto 6) 3, hz_n, hz_n, hz_m (.iconst (-1)) 1 [] [false, true], hz_r (.iload_n 1) 1, hz_r (.isub) 1],
  [hz_m (.ireturn) 1 [] [false, false]]]
/-- HeavierServes.habit(I)I -/
def hs_k107 : hs_K := [
  [hz_m (.aload_n 0) 1 [] [true, true, false], hz_m (.getfield 26) 3 [11, 2] [], hz_n, hz_n, hz_r (.iload_n 1) 1, hz_m (.invokevirtual 127) 3 [65, 2, 1] [], hz_n, hz_n, hz_r (.ifCond .ne 14) 3, hz_n, hz_n, hz_m (.aload_n 0) 1 [] [true, false, false], hz_m (.getfield 10) 3 [11, 0] [], hz_n, hz_n, hz_r (.iconst 0) 1],
  [hz_m (.putfield 99) 3 [7, 1] [], hz_n, hz_n, hz_r (.bipush (-100)) 2, hz_n, hz_r (.ireturn) 1, hz_m (.aload_n 0) 1 [] [true, true, false], hz_m (.getfield 26) 3 [11, 2] [], hz_n, hz_n, hz_r (.aload_n 0) 1, hz_m (.getfield 10) 3 [11, 0] [], hz_n, hz_n, hz_r (.iload_n 1) 1, hz_m (.invokevirtual 130) 3 [74, 3, 1] []],
  [hz_n, hz_n, hz_r (.istore_n 2) 1, hz_r (.aload_n 0) 1, hz_m (.getfield 10) 3 [11, 0] [], hz_n, hz_n, hz_r (.iconst 0) 1, hz_m (.putfield 99) 3 [7, 1] [], hz_n, hz_n, hz_r (.iload_n 2) 1, hz_r (.iconst (-1)) 1, hz_r (.if_icmp .ne 15) 3, hz_n, hz_n],
  [hz_m (.aload_n 0) 1 [] [true, true, false], hz_m (.getfield 26) 3 [11, 2] [], hz_n, hz_n, hz_m (.getfield 134) 3 [8, 2] [], hz_n, hz_n, hz_r (.iload_n 1) 1, hz_r (.iaload) 1, hz_r (.goto 6) 3, hz_n, hz_n, hz_m (.iconst (-1)) 1 [] [false, false, true], hz_r (.iload_n 2) 1, hz_r (.isub) 1, hz_m (.ireturn) 1 [] [false, false, false]]]
/-- HeavierServes.of(II)I -/
def hs_k108 : hs_K := [
  [hz_r (.aload_n 0) 1, hz_m (.getfield 26) 3 [11, 2] [], hz_n, hz_n, hz_r (.iload_n 1) 1, hz_m (.invokevirtual 127) 3 [65, 2, 1] [], hz_n, hz_n, hz_r (.ifCond .ne 11) 3, hz_n, hz_n, hz_m (.new 138) 3 [] [false, false, false], hz_n, hz_n, hz_r (.dup) 1, hz_r (.invokespecial 140) 3],
  [hz_n, hz_n, hz_r (.athrow) 1, hz_r (.iload_n 2) 1, hz_r (.tableswitch 149 0 7 #[48, 58, 68, 78, 95, 105, 122, 139]) 48, hz_n, hz_n, hz_n, hz_n, hz_n, hz_n, hz_n, hz_n, hz_n, hz_n, hz_n],
  [hz_n, hz_n, hz_n, hz_n, hz_n, hz_n, hz_n, hz_n, hz_n, hz_n, hz_n, hz_n, hz_n, hz_n, hz_n, hz_n],
  [hz_n, hz_n, hz_n, hz_n, hz_n, hz_n, hz_n, hz_n, hz_n, hz_n, hz_n, hz_n, hz_n, hz_n, hz_n, hz_n],
  [hz_n, hz_n, hz_n, hz_n, hz_m (.aload_n 0) 1 [] [true, true, false], hz_m (.getfield 47) 3 [11, 5] [], hz_n, hz_n, hz_m (.getfield 141) 3 [6, 7] [], hz_n, hz_n, hz_r (.iload_n 1) 1, hz_r (.iaload) 1, hz_r (.ireturn) 1, hz_m (.aload_n 0) 1 [] [true, true, false], hz_m (.getfield 26) 3 [11, 2] []],
  [hz_n, hz_n, hz_m (.getfield 144) 3 [8, 0] [], hz_n, hz_n, hz_r (.iload_n 1) 1, hz_r (.iaload) 1, hz_r (.ireturn) 1, hz_m (.aload_n 0) 1 [] [true, true, false], hz_m (.getfield 26) 3 [11, 2] [], hz_n, hz_n, hz_m (.getfield 147) 3 [8, 1] [], hz_n, hz_n, hz_r (.iload_n 1) 1],
  [hz_r (.iaload) 1, hz_r (.ireturn) 1, hz_m (.aload_n 0) 1 [] [true, true, false], hz_m (.getfield 47) 3 [11, 5] [], hz_n, hz_n, hz_r (.iload_n 1) 1, hz_m (.invokevirtual 150) 3 [55, 2, 1] [], hz_n, hz_n, hz_r (.ifCond .eq 7) 3, hz_n, hz_n, hz_m (.iconst 1) 1 [] [false, false, false], hz_r (.goto 4) 3, hz_n],
  [hz_n, hz_m (.iconst 0) 1 [] [false, false, false], hz_m (.ireturn) 1 [] [false, false, false], hz_m (.aload_n 0) 1 [] [true, true, false], hz_m (.getfield 47) 3 [11, 5] [], hz_n, hz_n, hz_m (.getfield 153) 3 [6, 8] [], hz_n, hz_n, hz_r (.iload_n 1) 1, hz_r (.iaload) 1, hz_r (.ireturn) 1, hz_m (.aload_n 0) 1 [] [true, true, false], hz_m (.getfield 40) 3 [11, 4] [], hz_n],
  [hz_n, hz_r (.aload_n 0) 1, hz_m (.getfield 47) 3 [11, 5] [], hz_n, hz_n, hz_m (.getfield 141) 3 [6, 7] [], hz_n, hz_n, hz_r (.iload_n 1) 1, hz_r (.iaload) 1, hz_m (.invokevirtual 156) 3 [47, 2, 1] [], hz_n, hz_n, hz_r (.ireturn) 1, hz_m (.aload_n 0) 1 [] [true, true, false], hz_m (.getfield 33) 3 [11, 3] []],
  [hz_n, hz_n, hz_r (.aload_n 0) 1, hz_m (.getfield 47) 3 [11, 5] [], hz_n, hz_n, hz_r (.aload_n 0) 1, hz_m (.getfield 26) 3 [11, 2] [], hz_n, hz_n, hz_r (.iload_n 1) 1, hz_m (.invokevirtual 159) 3 [100, 4, 1] [], hz_n, hz_n, hz_r (.ireturn) 1, hz_m (.aload_n 0) 1 [] [true, true, false]],
  [hz_m (.getfield 26) 3 [11, 2] [], hz_n, hz_n, hz_m (.getfield 134) 3 [8, 2] [], hz_n, hz_n, hz_r (.iload_n 1) 1, hz_r (.iaload) 1, hz_r (.ireturn) 1, hz_m (.new 138) 3 [] [false, false, false], hz_n, hz_n, hz_r (.dup) 1, hz_r (.invokespecial 140) 3, hz_n, hz_n],
  [hz_r (.athrow) 1]]
/-- HeavierServes.change(II)I -/
def hs_k109 : hs_K := [
  [hz_r (.aload_n 0) 1, hz_m (.getfield 26) 3 [11, 2] [], hz_n, hz_n, hz_r (.iload_n 1) 1, hz_m (.invokevirtual 127) 3 [65, 2, 1] [], hz_n, hz_n, hz_r (.ifCond .eq 20) 3, hz_n, hz_n, hz_r (.iload_n 2) 1, hz_r (.ifCond .lt 16) 3, hz_n, hz_n, hz_r (.iload_n 2) 1],
  [hz_r (.aload_n 0) 1, hz_m (.getfield 26) 3 [11, 2] [], hz_n, hz_n, hz_m (.getfield 134) 3 [8, 2] [], hz_n, hz_n, hz_r (.iload_n 1) 1, hz_r (.iaload) 1, hz_r (.if_icmp .lt 11) 3, hz_n, hz_n, hz_m (.new 138) 3 [] [false, false, false], hz_n, hz_n, hz_r (.dup) 1],
  [hz_r (.invokespecial 140) 3, hz_n, hz_n, hz_r (.athrow) 1, hz_r (.aload_n 0) 1, hz_m (.getfield 26) 3 [11, 2] [], hz_n, hz_n, hz_r (.iload_n 1) 1, hz_r (.iload_n 2) 1, hz_m (.invokevirtual 163) 3 [69, 3, 1] [], hz_n, hz_n, hz_r (.ireturn) 1]]
/-- HeavierServes.set(III)I -/
def hs_k110 : hs_K := [
  [hz_r (.aload_n 0) 1, hz_m (.getfield 26) 3 [11, 2] [], hz_n, hz_n, hz_r (.iload_n 2) 1, hz_m (.invokevirtual 127) 3 [65, 2, 1] [], hz_n, hz_n, hz_r (.ifCond .eq 7) 3, hz_n, hz_n, hz_r (.iload_n 3) 1, hz_r (.ifCond .ge 5) 3, hz_n, hz_n, hz_m (.iconst (-1)) 1 [] [false, false, false, false]],
  [hz_r (.ireturn) 1, hz_r (.iload_n 1) 1, hz_r (.ifCond .ne 28) 3, hz_n, hz_n, hz_r (.iload_n 3) 1, hz_r (.iconst 1) 1, hz_r (.if_icmp .lt 23) 3, hz_n, hz_n, hz_r (.iload_n 3) 1, hz_r (.sipush 999) 3, hz_n, hz_n, hz_r (.if_icmp .gt 16) 3, hz_n],
  [hz_n, hz_m (.aload_n 0) 1 [] [true, false, true, true], hz_m (.getfield 47) 3 [11, 5] [], hz_n, hz_n, hz_m (.getfield 141) 3 [6, 7] [], hz_n, hz_n, hz_r (.iload_n 2) 1, hz_r (.iload_n 3) 1, hz_m (.invokestatic 167) 3 [154, 3, 1] [], hz_n, hz_n, hz_r (.ireturn) 1, hz_r (.iload_n 1) 1, hz_r (.iconst 1) 1],
  [hz_r (.if_icmp .ne 21) 3, hz_n, hz_n, hz_r (.iload_n 3) 1, hz_r (.iconst 4) 1, hz_r (.if_icmp .ge 16) 3, hz_n, hz_n, hz_m (.aload_n 0) 1 [] [true, false, true, true], hz_m (.getfield 26) 3 [11, 2] [], hz_n, hz_n, hz_m (.getfield 144) 3 [8, 0] [], hz_n, hz_n, hz_r (.iload_n 2) 1],
  [hz_r (.iload_n 3) 1, hz_m (.invokestatic 167) 3 [154, 3, 1] [], hz_n, hz_n, hz_r (.ireturn) 1, hz_r (.iload_n 1) 1, hz_r (.iconst 2) 1, hz_r (.if_icmp .ne 22) 3, hz_n, hz_n, hz_m (.iload_n 3) 1 [] [true, false, true, true], hz_r (.bipush 9) 2, hz_n, hz_r (.if_icmp .gt 16) 3, hz_n, hz_n],
  [hz_m (.aload_n 0) 1 [] [true, false, true, true], hz_m (.getfield 26) 3 [11, 2] [], hz_n, hz_n, hz_m (.getfield 147) 3 [8, 1] [], hz_n, hz_n, hz_r (.iload_n 2) 1, hz_r (.iload_n 3) 1, hz_m (.invokestatic 167) 3 [154, 3, 1] [], hz_n, hz_n, hz_r (.ireturn) 1, hz_m (.iconst (-1)) 1 [] [false, false, false, false], hz_r (.ireturn) 1]]
/-- HeavierServes.scale(II)Z -/
def hs_k111 : hs_K := [
  [hz_r (.iload_n 1) 1, hz_r (.ifCond .ne 24) 3, hz_n, hz_n, hz_r (.iload_n 2) 1, hz_r (.iconst 1) 1, hz_r (.if_icmp .lt 19) 3, hz_n, hz_n, hz_r (.iload_n 2) 1, hz_r (.bipush 9) 2, hz_n, hz_r (.if_icmp .gt 13) 3, hz_n, hz_n, hz_m (.aload_n 0) 1 [] [true, false, true]],
  [hz_m (.getfield 40) 3 [11, 4] [], hz_n, hz_n, hz_r (.iload_n 2) 1, hz_m (.putfield 171) 3 [5, 0] [], hz_n, hz_n, hz_r (.iconst 1) 1, hz_r (.ireturn) 1, hz_r (.iload_n 1) 1, hz_r (.iconst 1) 1, hz_r (.if_icmp .ne 25) 3, hz_n, hz_n, hz_m (.iload_n 2) 1 [] [true, false, true], hz_r (.bipush (-9)) 2],
  [hz_n, hz_r (.if_icmp .lt 19) 3, hz_n, hz_n, hz_m (.iload_n 2) 1 [] [true, false, true], hz_r (.bipush 9) 2, hz_n, hz_r (.if_icmp .gt 13) 3, hz_n, hz_n, hz_m (.aload_n 0) 1 [] [true, false, true], hz_m (.getfield 40) 3 [11, 4] [], hz_n, hz_n, hz_r (.iload_n 2) 1, hz_m (.putfield 174) 3 [5, 1] []],
  [hz_n, hz_n, hz_r (.iconst 1) 1, hz_r (.ireturn) 1, hz_m (.iconst 0) 1 [] [false, false, false], hz_r (.ireturn) 1]]
/-- HeavierServes.sheet(IIII)I -/
def hs_k112 : hs_K := [
  [hz_m (.iload_n 1) 1 [] [true, true, true, true, true, false, false, false, false], hz_r (.ifCond .lt 14) 3, hz_n, hz_n, hz_m (.iload_n 1) 1 [] [true, true, true, true, true, false, false, false, false], hz_r (.iconst 3) 1, hz_r (.if_icmp .gt 9) 3, hz_n, hz_n, hz_m (.iload_n 2) 1 [] [true, true, true, true, true, false, false, false, false], hz_r (.bipush 8) 2, hz_n, hz_r (.if_icmp .le 5) 3, hz_n, hz_n, hz_m (.iconst (-1)) 1 [] [false, false, false, false, false, false, false, false, false]],
  [hz_r (.ireturn) 1, hz_m (.iload_n 1) 1 [] [true, true, true, true, true, false, false, false, false], hz_r (.iconst 3) 1, hz_r (.if_icmp .eq 10) 3, hz_n, hz_n, hz_m (.iload_n 2) 1 [] [true, true, true, true, true, false, false, false, false], hz_r (.ifCond .ge 6) 3, hz_n, hz_n, hz_m (.bipush (-2)) 2 [] [false, false, false, false, false, false, false, false, false], hz_n, hz_r (.ireturn) 1, hz_m (.iload_n 1) 1 [] [true, true, true, true, true, false, false, false, false], hz_r (.iconst 3) 1, hz_r (.if_icmp .ne 7) 3],
  [hz_n, hz_n, hz_m (.iconst 0) 1 [] [true, true, false, true, true, false, false, false, false], hz_r (.goto 4) 3, hz_n, hz_n, hz_m (.iload_n 2) 1 [] [true, true, true, true, true, false, false, false, false], hz_m (.istore 5) 2 [] [true, true, false, true, true, false, false, false, false], hz_n, hz_r (.iconst 0) 1, hz_r (.istore 6) 2, hz_n, hz_r (.iconst 0) 1, hz_r (.istore 7) 2, hz_n, hz_m (.iload 7) 2 [] [true, true, false, true, true, true, true, true, false]],
  [hz_n, hz_r (.aload_n 0) 1, hz_m (.getfield 26) 3 [11, 2] [], hz_n, hz_n, hz_m (.getfield 110) 3 [8, 9] [], hz_n, hz_n, hz_r (.if_icmp .ge 59) 3, hz_n, hz_n, hz_m (.iload 7) 2 [] [true, true, false, true, true, true, true, true, false], hz_n, hz_r (.iload 5) 2, hz_n, hz_r (.if_icmp .ge 17) 3],
  [hz_n, hz_n, hz_m (.iload_n 1) 1 [] [true, true, false, true, true, true, true, true, false], hz_r (.iload_n 3) 1, hz_r (.iload 7) 2, hz_n, hz_r (.iload 4) 2, hz_n, hz_r (.imul) 1, hz_r (.iadd) 1, hz_m (.invokestatic 177) 3 [156, 2, 1] [], hz_n, hz_n, hz_r (.goto 4) 3, hz_n, hz_n],
  [hz_m (.iconst 1) 1 [] [true, true, false, true, true, true, true, true, false], hz_m (.istore 8) 2 [] [true, true, false, true, true, true, true, true, false], hz_n, hz_r (.aload_n 0) 1, hz_m (.getfield 47) 3 [11, 5] [], hz_n, hz_n, hz_r (.iload 7) 2, hz_n, hz_r (.iload 8) 2, hz_n, hz_m (.invokevirtual 180) 3 [56, 3, 0] [], hz_n, hz_n, hz_r (.iload 6) 2, hz_n],
  [hz_r (.aload_n 0) 1, hz_m (.getfield 47) 3 [11, 5] [], hz_n, hz_n, hz_m (.getfield 141) 3 [6, 7] [], hz_n, hz_n, hz_r (.iload 7) 2, hz_n, hz_r (.iaload) 1, hz_r (.iadd) 1, hz_r (.istore 6) 2, hz_n, hz_r (.iinc 7 1) 3, hz_n, hz_n],
  [hz_r (.goto (-65)) 3, hz_n, hz_n, hz_m (.iload_n 1) 1 [] [false, true, false, false, false, false, true, false, false], hz_r (.iconst 3) 1, hz_r (.if_icmp .ne 8) 3, hz_n, hz_n, hz_m (.bipush (-3)) 2 [] [false, false, false, false, false, false, false, false, false], hz_n, hz_r (.goto 5) 3, hz_n, hz_n, hz_m (.iload 6) 2 [] [false, false, false, false, false, false, true, false, false], hz_n, hz_m (.ireturn) 1 [] [false, false, false, false, false, false, false, false, false]]]
/-- HeavierServes.stand(I)I -/
def hs_k113 : hs_K := [
  [hz_m (.iload_n 1) 1 [] [true, true, false], hz_r (.aload_n 0) 1, hz_m (.getfield 26) 3 [11, 2] [], hz_n, hz_n, hz_m (.invokevirtual 183) 3 [66, 1, 1] [], hz_n, hz_n, hz_r (.iconst (-1)) 1, hz_r (.ixor) 1, hz_r (.iand) 1, hz_r (.ifCond .eq 6) 3, hz_n, hz_n, hz_m (.bipush (-2)) 2 [] [false, false, false], hz_n],
  [hz_r (.ireturn) 1, hz_m (.aload_n 0) 1 [] [true, true, false], hz_m (.getfield 54) 3 [11, 6] [], hz_n, hz_n, hz_r (.aload_n 0) 1, hz_m (.getfield 47) 3 [11, 5] [], hz_n, hz_n, hz_m (.invokevirtual 187) 3 [37, 2, 0] [], hz_n, hz_n, hz_r (.aload_n 0) 1, hz_r (.iload_n 1) 1, hz_r (.iconst 0) 1, hz_m (.invokevirtual 191) 3 [158, 3, 1] []],
  [hz_n, hz_n, hz_r (.istore_n 2) 1, hz_r (.aload_n 0) 1, hz_m (.getfield 19) 3 [11, 1] [], hz_n, hz_n, hz_r (.iload_n 2) 1, hz_r (.iconst (-1)) 1, hz_r (.if_icmp .ne 7) 3, hz_n, hz_n, hz_m (.lconst 0) 1 [] [true, false, true], hz_r (.goto 4) 3, hz_n, hz_n],
  [hz_m (.lconst 1) 1 [] [true, false, true], hz_m (.invokevirtual 194) 3 [42, 2, 0] [true, false, true], hz_n, hz_n, hz_r (.aload_n 0) 1, hz_m (.getfield 19) 3 [11, 1] [], hz_n, hz_n, hz_r (.iload_n 2) 1, hz_r (.iconst 0) 1, hz_m (.invokestatic 198) 3 [2, 2, 1] [], hz_n, hz_n, hz_r (.i2l) 1, hz_m (.invokevirtual 203) 3 [43, 2, 0] [], hz_n],
  [hz_n, hz_r (.aload_n 0) 1, hz_m (.getfield 47) 3 [11, 5] [], hz_n, hz_n, hz_m (.getfield 206) 3 [6, 1] [], hz_n, hz_n, hz_r (.ireturn) 1]]
/-- HeavierServes.weeks(I)I -/
def hs_k114 : hs_K := [
  [hz_m (.iload_n 1) 1 [] [true, true, false, false, false, false], hz_r (.ifCond .lt 9) 3, hz_n, hz_n, hz_m (.iload_n 1) 1 [] [true, true, false, false, false, false], hz_r (.bipush 99) 2, hz_n, hz_r (.if_icmp .le 5) 3, hz_n, hz_n, hz_m (.iconst (-1)) 1 [] [false, false, false, false, false, false], hz_r (.ireturn) 1, hz_m (.iload_n 1) 1 [] [true, true, false, false, false, false], hz_r (.ifCond .le 14) 3, hz_n, hz_n],
  [hz_m (.aload_n 0) 1 [] [true, true, false, false, false, false], hz_m (.getfield 54) 3 [11, 6] [], hz_n, hz_n, hz_r (.aload_n 0) 1, hz_m (.getfield 47) 3 [11, 5] [], hz_n, hz_n, hz_m (.invokevirtual 187) 3 [37, 2, 0] [], hz_n, hz_n, hz_m (.iconst 0) 1 [] [true, true, false, false, false, false], hz_r (.istore_n 2) 1, hz_r (.iconst 0) 1, hz_r (.istore_n 3) 1, hz_r (.iconst 0) 1],
  [hz_r (.istore 4) 2, hz_n, hz_m (.iload 4) 2 [] [true, true, true, true, true, false], hz_n, hz_r (.iload_n 1) 1, hz_r (.if_icmp .ge 33) 3, hz_n, hz_n, hz_m (.aload_n 0) 1 [] [true, true, true, true, true, false], hz_r (.iconst 0) 1, hz_r (.sipush 255) 3, hz_n, hz_n, hz_m (.invokevirtual 191) 3 [158, 3, 1] [], hz_n, hz_n],
  [hz_r (.istore 5) 2, hz_n, hz_r (.iload 5) 2, hz_n, hz_r (.iconst (-1)) 1, hz_r (.if_icmp .eq 11) 3, hz_n, hz_n, hz_r (.iinc 2 1) 3, hz_n, hz_n, hz_r (.iload_n 3) 1, hz_r (.iload 5) 2, hz_n, hz_r (.iadd) 1, hz_r (.istore_n 3) 1],
  [hz_m (.iinc 4 1) 3 [] [true, true, true, true, true, false], hz_n, hz_n, hz_r (.goto (-33)) 3, hz_n, hz_n, hz_m (.aload_n 0) 1 [] [true, false, true, true, false, false], hz_m (.getfield 19) 3 [11, 1] [], hz_n, hz_n, hz_r (.aload_n 0) 1, hz_m (.getfield 47) 3 [11, 5] [], hz_n, hz_n, hz_m (.getfield 206) 3 [6, 1] [], hz_n],
  [hz_n, hz_r (.i2l) 1, hz_m (.invokevirtual 194) 3 [42, 2, 0] [], hz_n, hz_n, hz_r (.aload_n 0) 1, hz_m (.getfield 19) 3 [11, 1] [], hz_n, hz_n, hz_r (.iload_n 3) 1, hz_r (.i2l) 1, hz_m (.invokevirtual 203) 3 [43, 2, 0] [], hz_n, hz_n, hz_r (.iload_n 2) 1, hz_r (.ireturn) 1]]
/-- HeavierServes.year()I -/
def hs_k115 : hs_K := [
  [hz_m (.aload_n 0) 1 [] [true, false, false], hz_m (.getfield 10) 3 [11, 0] [], hz_n, hz_n, hz_r (.bipush 60) 2, hz_n, hz_m (.invokevirtual 209) 3 [62, 2, 0] [], hz_n, hz_n, hz_r (.aload_n 0) 1, hz_m (.invokevirtual 212) 3 [159, 1, 1] [], hz_n, hz_n, hz_r (.istore_n 1) 1, hz_r (.iload_n 1) 1, hz_r (.iconst (-1)) 1],
  [hz_r (.if_icmp .ne 10) 3, hz_n, hz_n, hz_m (.aload_n 0) 1 [] [true, false, false], hz_m (.invokevirtual 215) 3 [160, 1, 1] [], hz_n, hz_n, hz_r (.goto 6) 3, hz_n, hz_n, hz_m (.iconst (-1)) 1 [] [true, true, false], hz_r (.iload_n 1) 1, hz_r (.isub) 1, hz_m (.istore_n 2) 1 [] [true, false, false], hz_r (.aload_n 0) 1, hz_m (.getfield 10) 3 [11, 0] []],
  [hz_n, hz_n, hz_r (.iconst 0) 1, hz_m (.putfield 99) 3 [7, 1] [], hz_n, hz_n, hz_r (.iload_n 2) 1, hz_r (.ireturn) 1]]
/-- HeavierServes.law()I -/
def hs_k116 : hs_K := [
  [hz_r (.aload_n 0) 1, hz_m (.getfield 47) 3 [11, 5] [], hz_n, hz_n, hz_m (.getfield 206) 3 [6, 1] [], hz_n, hz_n, hz_r (.iconst (-1)) 1, hz_r (.if_icmp .ne 6) 3, hz_n, hz_n, hz_m (.bipush (-2)) 2 [] [false], hz_n, hz_r (.ireturn) 1, hz_r (.aload_n 0) 1, hz_m (.getfield 47) 3 [11, 5] []],
  [hz_n, hz_n, hz_m (.getfield 218) 3 [6, 6] [], hz_n, hz_n, hz_r (.bipush 12) 2, hz_n, hz_r (.if_icmp .lt 6) 3, hz_n, hz_n, hz_m (.bipush (-3)) 2 [] [false], hz_n, hz_r (.ireturn) 1, hz_r (.aload_n 0) 1, hz_m (.getfield 54) 3 [11, 6] [], hz_n],
  [hz_n, hz_r (.aload_n 0) 1, hz_m (.getfield 47) 3 [11, 5] [], hz_n, hz_n, hz_m (.invokevirtual 187) 3 [37, 2, 0] [], hz_n, hz_n, hz_r (.aload_n 0) 1, hz_m (.getfield 47) 3 [11, 5] [], hz_n, hz_n, hz_m (.invokevirtual 221) 3 [57, 1, 1] [], hz_n, hz_n, hz_r (.ireturn) 1]]
/-- HeavierServes.laws(II)I -/
def hs_k117 : hs_K := [
  [hz_r (.iload_n 1) 1, hz_r (.ifCond .lt 14) 3, hz_n, hz_n, hz_r (.iload_n 1) 1, hz_r (.aload_n 0) 1, hz_m (.getfield 47) 3 [11, 5] [], hz_n, hz_n, hz_m (.getfield 218) 3 [6, 6] [], hz_n, hz_n, hz_r (.if_icmp .lt 11) 3, hz_n, hz_n, hz_m (.new 138) 3 [] [false, false, false]],
  [hz_n, hz_n, hz_r (.dup) 1, hz_r (.invokespecial 140) 3, hz_n, hz_n, hz_r (.athrow) 1, hz_r (.iload_n 2) 1, hz_r (.tableswitch 74 0 3 #[32, 42, 52, 64]) 32, hz_n, hz_n, hz_n, hz_n, hz_n, hz_n, hz_n],
  [hz_n, hz_n, hz_n, hz_n, hz_n, hz_n, hz_n, hz_n, hz_n, hz_n, hz_n, hz_n, hz_n, hz_n, hz_n, hz_n],
  [hz_n, hz_n, hz_n, hz_n, hz_n, hz_n, hz_n, hz_n, hz_m (.aload_n 0) 1 [] [true, true, false], hz_m (.getfield 47) 3 [11, 5] [], hz_n, hz_n, hz_m (.getfield 224) 3 [6, 9] [], hz_n, hz_n, hz_r (.iload_n 1) 1],
  [hz_r (.iaload) 1, hz_r (.ireturn) 1, hz_m (.aload_n 0) 1 [] [true, true, false], hz_m (.getfield 47) 3 [11, 5] [], hz_n, hz_n, hz_m (.getfield 227) 3 [6, 10] [], hz_n, hz_n, hz_r (.iload_n 1) 1, hz_r (.iaload) 1, hz_r (.ireturn) 1, hz_m (.aload_n 0) 1 [] [true, true, false], hz_m (.getfield 47) 3 [11, 5] [], hz_n, hz_n],
  [hz_m (.getfield 230) 3 [6, 4] [], hz_n, hz_n, hz_r (.iload_n 1) 1, hz_r (.ishr) 1, hz_r (.iconst 1) 1, hz_r (.iand) 1, hz_r (.ireturn) 1, hz_m (.aload_n 0) 1 [] [true, true, false], hz_m (.getfield 47) 3 [11, 5] [], hz_n, hz_n, hz_m (.getfield 233) 3 [6, 11] [], hz_n, hz_n, hz_r (.iload_n 1) 1],
  [hz_r (.iaload) 1, hz_r (.ireturn) 1, hz_m (.new 138) 3 [] [false, false, false], hz_n, hz_n, hz_r (.dup) 1, hz_r (.invokespecial 140) 3, hz_n, hz_n, hz_r (.athrow) 1]]
/-- HeavierServes.feed(II)I -/
def hs_k118 : hs_K := [
  [hz_r (.aload_n 0) 1, hz_r (.iload_n 1) 1, hz_r (.iload_n 2) 1, hz_r (.iconst 1) 1, hz_m (.invokevirtual 236) 3 [157, 4, 1] [], hz_n, hz_n, hz_r (.ireturn) 1]]
/-- HeavierServes.fast(II)I -/
def hs_k119 : hs_K := [
  [hz_r (.aload_n 0) 1, hz_r (.iload_n 1) 1, hz_r (.iload_n 2) 1, hz_r (.iconst (-1)) 1, hz_m (.invokevirtual 236) 3 [157, 4, 1] [], hz_n, hz_n, hz_r (.ireturn) 1]]
/-- HeavierServes.dies(I)I -/
def hs_k120 : hs_K := [
  [hz_r (.aload_n 0) 1, hz_r (.iload_n 1) 1, hz_m (.invokevirtual 240) 3 [153, 2, 1] [], hz_n, hz_n, hz_r (.ifCond .ne 5) 3, hz_n, hz_n, hz_m (.iconst (-1)) 1 [] [false, false], hz_r (.ireturn) 1, hz_r (.aload_n 0) 1, hz_m (.getfield 54) 3 [11, 6] [], hz_n, hz_n, hz_r (.aload_n 0) 1, hz_m (.getfield 47) 3 [11, 5] []],
  [hz_n, hz_n, hz_m (.invokevirtual 187) 3 [37, 2, 0] [], hz_n, hz_n, hz_r (.aload_n 0) 1, hz_m (.getfield 47) 3 [11, 5] [], hz_n, hz_n, hz_r (.iload_n 1) 1, hz_m (.invokevirtual 243) 3 [59, 2, 1] [], hz_n, hz_n, hz_r (.ireturn) 1]]
/-- HeavierServes.undo()I -/
def hs_k121 : hs_K := [
  [hz_r (.aload_n 0) 1, hz_m (.getfield 54) 3 [11, 6] [], hz_n, hz_n, hz_r (.aload_n 0) 1, hz_m (.getfield 47) 3 [11, 5] [], hz_n, hz_n, hz_m (.invokevirtual 246) 3 [38, 2, 1] [], hz_n, hz_n, hz_r (.ifCond .eq 13) 3, hz_n, hz_n, hz_r (.aload_n 0) 1, hz_m (.getfield 54) 3 [11, 6] []],
  [hz_n, hz_n, hz_m (.getfield 250) 3 [3, 4] [], hz_n, hz_n, hz_r (.goto 4) 3, hz_n, hz_n, hz_m (.iconst (-1)) 1 [] [false], hz_m (.ireturn) 1 [] [false]]]
/-- HeavierServes.served(I)I -/
def hs_k122 : hs_K := [
  [hz_r (.iload_n 1) 1, hz_r (.ifCond .lt 28) 3, hz_n, hz_n, hz_r (.iload_n 1) 1, hz_r (.aload_n 0) 1, hz_m (.getfield 47) 3 [11, 5] [], hz_n, hz_n, hz_m (.getfield 253) 3 [6, 0] [], hz_n, hz_n, hz_r (.if_icmp .ge 17) 3, hz_n, hz_n, hz_r (.iload_n 1) 1],
  [hz_r (.aload_n 0) 1, hz_m (.getfield 47) 3 [11, 5] [], hz_n, hz_n, hz_m (.getfield 253) 3 [6, 0] [], hz_n, hz_n, hz_r (.bipush 60) 2, hz_n, hz_r (.isub) 1, hz_r (.if_icmp .ge 6) 3, hz_n, hz_n, hz_m (.bipush (-2)) 2 [] [false, false], hz_n, hz_r (.ireturn) 1],
  [hz_r (.aload_n 0) 1, hz_m (.getfield 47) 3 [11, 5] [], hz_n, hz_n, hz_m (.getfield 256) 3 [6, 12] [], hz_n, hz_n, hz_r (.iload_n 1) 1, hz_r (.bipush 60) 2, hz_n, hz_r (.irem) 1, hz_r (.iaload) 1, hz_r (.ireturn) 1]]
/-- HeavierServes.later(II)I -/
def hs_k123 : hs_K := [
  [hz_r (.aload_n 0) 1, hz_r (.iload_n 1) 1, hz_m (.invokevirtual 240) 3 [153, 2, 1] [], hz_n, hz_n, hz_r (.ifCond .eq 13) 3, hz_n, hz_n, hz_r (.iload_n 2) 1, hz_r (.ifCond .lt 9) 3, hz_n, hz_n, hz_r (.iload_n 2) 1, hz_r (.bipush 99) 2, hz_n, hz_r (.if_icmp .le 5) 3],
  [hz_n, hz_n, hz_m (.iconst (-1)) 1 [] [false, false, false], hz_r (.ireturn) 1, hz_r (.aload_n 0) 1, hz_m (.getfield 26) 3 [11, 2] [], hz_n, hz_n, hz_r (.aload_n 0) 1, hz_m (.getfield 47) 3 [11, 5] [], hz_n, hz_n, hz_r (.iload_n 1) 1, hz_r (.iload_n 2) 1, hz_m (.invokevirtual 259) 3 [71, 4, 1] [], hz_n],
  [hz_n, hz_r (.ireturn) 1]]
/-- HeavierServes.then(I)I -/
def hs_k124 : hs_K := [
  [hz_r (.iload_n 1) 1, hz_r (.ifCond .lt 9) 3, hz_n, hz_n, hz_r (.iload_n 1) 1, hz_r (.bipush 99) 2, hz_n, hz_r (.if_icmp .le 8) 3, hz_n, hz_n, hz_m (.bipush (-2)) 2 [] [false, false], hz_n, hz_r (.goto 11) 3, hz_n, hz_n, hz_r (.aload_n 0) 1],
  [hz_m (.getfield 84) 3 [11, 10] [], hz_n, hz_n, hz_r (.iload_n 1) 1, hz_m (.invokevirtual 263) 3 [7, 2, 1] [], hz_n, hz_n, hz_m (.ireturn) 1 [] [false, false]]]
/-- HeavierServes.soonest(I)I -/
def hs_k125 : hs_K := [
  [hz_r (.aload_n 0) 1, hz_m (.getfield 26) 3 [11, 2] [], hz_n, hz_n, hz_r (.iload_n 1) 1, hz_m (.invokevirtual 127) 3 [65, 2, 1] [], hz_n, hz_n, hz_r (.ifCond .ne 5) 3, hz_n, hz_n, hz_m (.iconst (-1)) 1 [] [false, false], hz_r (.ireturn) 1, hz_r (.aload_n 0) 1, hz_m (.getfield 47) 3 [11, 5] [], hz_n],
  [hz_n, hz_m (.getfield 206) 3 [6, 1] [], hz_n, hz_n, hz_r (.iload_n 1) 1, hz_r (.if_icmp .ne 8) 3, hz_n, hz_n, hz_m (.bipush (-3)) 2 [] [false, false], hz_n, hz_r (.goto 11) 3, hz_n, hz_n, hz_r (.aload_n 0) 1, hz_m (.getfield 84) 3 [11, 10] [], hz_n],
  [hz_n, hz_r (.iload_n 1) 1, hz_m (.invokevirtual 266) 3 [8, 2, 1] [], hz_n, hz_n, hz_m (.ireturn) 1 [] [false, false]]]
/-- HeavierServes.ever(I)I -/
def hs_k126 : hs_K := [
  [hz_r (.iload_n 1) 1, hz_r (.ifCond .lt 9) 3, hz_n, hz_n, hz_r (.iload_n 1) 1, hz_r (.bipush 12) 2, hz_n, hz_r (.if_icmp .le 7) 3, hz_n, hz_n, hz_m (.iconst (-1)) 1 [] [false, false], hz_r (.goto 11) 3, hz_n, hz_n, hz_r (.aload_n 0) 1, hz_m (.getfield 84) 3 [11, 10] []],
  [hz_n, hz_n, hz_r (.iload_n 1) 1, hz_m (.invokevirtual 269) 3 [9, 2, 1] [], hz_n, hz_n, hz_m (.ireturn) 1 [] [false, false]]]
/-- HeavierServes.most(II)I -/
def hs_k127 : hs_K := [
  [hz_r (.aload_n 0) 1, hz_r (.iload_n 1) 1, hz_m (.invokevirtual 240) 3 [153, 2, 1] [], hz_n, hz_n, hz_r (.ifCond .eq 13) 3, hz_n, hz_n, hz_r (.iload_n 2) 1, hz_r (.ifCond .lt 9) 3, hz_n, hz_n, hz_r (.iload_n 2) 1, hz_r (.bipush 10) 2, hz_n, hz_r (.if_icmp .le 7) 3],
  [hz_n, hz_n, hz_m (.iconst (-1)) 1 [] [false, false, false], hz_r (.goto 12) 3, hz_n, hz_n, hz_r (.aload_n 0) 1, hz_m (.getfield 84) 3 [11, 10] [], hz_n, hz_n, hz_r (.iload_n 1) 1, hz_r (.iload_n 2) 1, hz_m (.invokevirtual 272) 3 [12, 3, 1] [], hz_n, hz_n, hz_m (.ireturn) 1 [] [false, false, false]]]
/-- HeavierServes.rests(II)I -/
def hs_k128 : hs_K := [
  [hz_r (.iload_n 1) 1, hz_r (.iconst 1) 1, hz_r (.if_icmp .lt 18) 3, hz_n, hz_n, hz_r (.iload_n 1) 1, hz_r (.iconst 4) 1, hz_r (.if_icmp .gt 13) 3, hz_n, hz_n, hz_r (.iload_n 2) 1, hz_r (.ifCond .lt 9) 3, hz_n, hz_n, hz_r (.iload_n 2) 1, hz_r (.bipush 20) 2],
  [hz_n, hz_r (.if_icmp .le 7) 3, hz_n, hz_n, hz_m (.iconst (-1)) 1 [] [false, false, false], hz_r (.goto 12) 3, hz_n, hz_n, hz_r (.aload_n 0) 1, hz_m (.getfield 84) 3 [11, 10] [], hz_n, hz_n, hz_r (.iload_n 1) 1, hz_r (.iload_n 2) 1, hz_m (.invokevirtual 275) 3 [15, 3, 1] [], hz_n],
  [hz_n, hz_m (.ireturn) 1 [] [false, false, false]]]
/-- HeavierServes.party(I)I -/
def hs_k129 : hs_K := [
  [hz_r (.iload_n 1) 1, hz_r (.ifCond .lt 9) 3, hz_n, hz_n, hz_r (.iload_n 1) 1, hz_r (.bipush 99) 2, hz_n, hz_r (.if_icmp .le 8) 3, hz_n, hz_n, hz_m (.bipush (-2)) 2 [] [false, false], hz_n, hz_r (.goto 11) 3, hz_n, hz_n, hz_r (.aload_n 0) 1],
  [hz_m (.getfield 84) 3 [11, 10] [], hz_n, hz_n, hz_r (.iload_n 1) 1, hz_m (.invokevirtual 278) 3 [19, 2, 1] [], hz_n, hz_n, hz_m (.ireturn) 1 [] [false, false]]]
/-- HeavierServes.byTurns(II)I -/
def hs_k130 : hs_K := [
  [hz_r (.iload_n 1) 1, hz_r (.ifCond .lt 18) 3, hz_n, hz_n, hz_r (.iload_n 1) 1, hz_r (.iconst 4) 1, hz_r (.if_icmp .ge 13) 3, hz_n, hz_n, hz_r (.iload_n 2) 1, hz_r (.ifCond .lt 9) 3, hz_n, hz_n, hz_r (.iload_n 2) 1, hz_r (.bipush 99) 2, hz_n],
  [hz_r (.if_icmp .le 7) 3, hz_n, hz_n, hz_m (.iconst (-1)) 1 [] [false, false, false], hz_r (.goto 12) 3, hz_n, hz_n, hz_r (.aload_n 0) 1, hz_m (.getfield 84) 3 [11, 10] [], hz_n, hz_n, hz_r (.iload_n 1) 1, hz_r (.iload_n 2) 1, hz_m (.invokevirtual 281) 3 [21, 3, 1] [], hz_n, hz_n],
  [hz_m (.ireturn) 1 [] [false, false, false]]]
/-- HeavierServes.fool(II)I -/
def hs_k131 : hs_K := [
  [hz_r (.aload_n 0) 1, hz_m (.getfield 26) 3 [11, 2] [], hz_n, hz_n, hz_r (.iload_n 1) 1, hz_m (.invokevirtual 127) 3 [65, 2, 1] [], hz_n, hz_n, hz_r (.ifCond .eq 13) 3, hz_n, hz_n, hz_r (.iload_n 2) 1, hz_r (.ifCond .lt 9) 3, hz_n, hz_n, hz_r (.iload_n 2) 1],
  [hz_r (.bipush 99) 2, hz_n, hz_r (.if_icmp .le 11) 3, hz_n, hz_n, hz_m (.new 138) 3 [] [false, false, false], hz_n, hz_n, hz_r (.dup) 1, hz_r (.invokespecial 140) 3, hz_n, hz_n, hz_r (.athrow) 1, hz_r (.aload_n 0) 1, hz_m (.getfield 84) 3 [11, 10] [], hz_n],
  [hz_n, hz_r (.iload_n 1) 1, hz_r (.iload_n 2) 1, hz_m (.invokevirtual 284) 3 [23, 3, 1] [], hz_n, hz_n, hz_r (.ireturn) 1]]
end
section
/-! ===== the code rows of the methods, 3 ===== -/
/-- HeavierServes.hold(I)I -/
def hs_k132 : hs_K := [
  [hz_r (.iload_n 1) 1, hz_r (.ifCond .lt 9) 3, hz_n, hz_n, hz_r (.iload_n 1) 1, hz_r (.bipush 60) 2, hz_n, hz_r (.if_icmp .le 5) 3, hz_n, hz_n, hz_m (.iconst (-1)) 1 [] [false, false], hz_r (.ireturn) 1, hz_r (.aload_n 0) 1, hz_m (.getfield 47) 3 [11, 5] [], hz_n, hz_n],
  [hz_m (.getfield 206) 3 [6, 1] [], hz_n, hz_n, hz_r (.iconst (-1)) 1, hz_r (.if_icmp .ne 8) 3, hz_n, hz_n, hz_m (.bipush (-3)) 2 [] [false, false], hz_n, hz_r (.goto 18) 3, hz_n, hz_n, hz_r (.aload_n 0) 1, hz_m (.getfield 91) 3 [11, 11] [], hz_n, hz_n],
  [hz_r (.aload_n 0) 1, hz_m (.getfield 47) 3 [11, 5] [], hz_n, hz_n, hz_m (.getfield 206) 3 [6, 1] [], hz_n, hz_n, hz_r (.iload_n 1) 1, hz_m (.invokevirtual 287) 3 [83, 3, 1] [], hz_n, hz_n, hz_m (.ireturn) 1 [] [false, false]]]
/-- HeavierServes.bribe(II)I -/
def hs_k133 : hs_K := [
  [hz_r (.aload_n 0) 1, hz_r (.iload_n 1) 1, hz_m (.invokevirtual 240) 3 [153, 2, 1] [], hz_n, hz_n, hz_r (.ifCond .eq 14) 3, hz_n, hz_n, hz_r (.iload_n 2) 1, hz_r (.iconst 1) 1, hz_r (.if_icmp .lt 9) 3, hz_n, hz_n, hz_r (.iload_n 2) 1, hz_r (.bipush 60) 2, hz_n],
  [hz_r (.if_icmp .le 7) 3, hz_n, hz_n, hz_m (.iconst (-1)) 1 [] [false, false, false], hz_r (.goto 12) 3, hz_n, hz_n, hz_r (.aload_n 0) 1, hz_m (.getfield 91) 3 [11, 11] [], hz_n, hz_n, hz_r (.iload_n 1) 1, hz_r (.iload_n 2) 1, hz_m (.invokevirtual 290) 3 [84, 3, 1] [], hz_n, hz_n],
  [hz_m (.ireturn) 1 [] [false, false, false]]]
/-- HeavierServes.starve(II)I -/
def hs_k134 : hs_K := [
  [hz_r (.aload_n 0) 1, hz_r (.iload_n 1) 1, hz_m (.invokevirtual 240) 3 [153, 2, 1] [], hz_n, hz_n, hz_r (.ifCond .eq 13) 3, hz_n, hz_n, hz_r (.iload_n 2) 1, hz_r (.ifCond .lt 9) 3, hz_n, hz_n, hz_r (.iload_n 2) 1, hz_r (.bipush 60) 2, hz_n, hz_r (.if_icmp .le 7) 3],
  [hz_n, hz_n, hz_m (.iconst (-1)) 1 [] [false, false, false], hz_r (.goto 12) 3, hz_n, hz_n, hz_r (.aload_n 0) 1, hz_m (.getfield 91) 3 [11, 11] [], hz_n, hz_n, hz_r (.iload_n 1) 1, hz_r (.iload_n 2) 1, hz_m (.invokevirtual 293) 3 [85, 3, 1] [], hz_n, hz_n, hz_m (.ireturn) 1 [] [false, false, false]]]
/-- HeavierServes.cheapest()I -/
def hs_k135 : hs_K := [
  [hz_r (.aload_n 0) 1, hz_m (.getfield 91) 3 [11, 11] [], hz_n, hz_n, hz_m (.invokevirtual 296) 3 [86, 1, 1] [], hz_n, hz_n, hz_r (.ireturn) 1]]
/-- HeavierServes.weighed(II)I -/
def hs_k136 : hs_K := [
  [hz_r (.aload_n 0) 1, hz_m (.getfield 26) 3 [11, 2] [], hz_n, hz_n, hz_r (.iload_n 1) 1, hz_m (.invokevirtual 127) 3 [65, 2, 1] [], hz_n, hz_n, hz_r (.ifCond .eq 14) 3, hz_n, hz_n, hz_r (.iload_n 2) 1, hz_r (.ifCond .lt 10) 3, hz_n, hz_n, hz_r (.iload_n 2) 1],
  [hz_r (.sipush 1010) 3, hz_n, hz_n, hz_r (.if_icmp .le 7) 3, hz_n, hz_n, hz_m (.iconst (-1)) 1 [] [false, false, false], hz_r (.goto 12) 3, hz_n, hz_n, hz_r (.aload_n 0) 1, hz_m (.getfield 63) 3 [11, 7] [], hz_n, hz_n, hz_r (.iload_n 1) 1, hz_r (.iload_n 2) 1],
  [hz_m (.invokevirtual 299) 3 [34, 3, 1] [], hz_n, hz_n, hz_m (.ireturn) 1 [] [false, false, false]]]
/-- HeavierServes.forget()I -/
def hs_k137 : hs_K := [
  [hz_r (.aload_n 0) 1, hz_m (.getfield 63) 3 [11, 7] [], hz_n, hz_n, hz_m (.getfield 301) 3 [2, 2] [], hz_n, hz_n, hz_r (.ifCond .ne 5) 3, hz_n, hz_n, hz_m (.iconst (-1)) 1 [] [false], hz_r (.ireturn) 1, hz_r (.aload_n 0) 1, hz_m (.getfield 63) 3 [11, 7] [], hz_n, hz_n],
  [hz_r (.dup) 1, hz_m (.getfield 301) 3 [2, 2] [], hz_n, hz_n, hz_r (.iconst 1) 1, hz_r (.isub) 1, hz_m (.putfield 301) 3 [2, 2] [], hz_n, hz_n, hz_r (.aload_n 0) 1, hz_m (.getfield 63) 3 [11, 7] [], hz_n, hz_n, hz_m (.getfield 301) 3 [2, 2] [], hz_n, hz_n],
  [hz_r (.ireturn) 1]]
/-- HeavierServes.grains()I -/
def hs_k138 : hs_K := [
  [hz_r (.aload_n 0) 1, hz_m (.getfield 40) 3 [11, 4] [], hz_n, hz_n, hz_r (.aload_n 0) 1, hz_m (.getfield 63) 3 [11, 7] [], hz_n, hz_n, hz_r (.aload_n 0) 1, hz_m (.getfield 26) 3 [11, 2] [], hz_n, hz_n, hz_m (.getfield 110) 3 [8, 9] [], hz_n, hz_n, hz_m (.invokevirtual 304) 3 [49, 3, 1] []],
  [hz_n, hz_n, hz_r (.ireturn) 1]]
/-- HeavierServes.span(I)I -/
def hs_k139 : hs_K := [
  [hz_m (.aload_n 0) 1 [] [true, true, false], hz_m (.getfield 26) 3 [11, 2] [], hz_n, hz_n, hz_r (.iload_n 1) 1, hz_m (.invokevirtual 127) 3 [65, 2, 1] [], hz_n, hz_n, hz_r (.ifCond .ne 5) 3, hz_n, hz_n, hz_m (.iconst (-1)) 1 [] [false, false, false], hz_r (.ireturn) 1, hz_m (.aload_n 0) 1 [] [true, true, false], hz_m (.getfield 40) 3 [11, 4] [], hz_n],
  [hz_n, hz_r (.aload_n 0) 1, hz_m (.getfield 63) 3 [11, 7] [], hz_n, hz_n, hz_r (.iload_n 1) 1, hz_r (.aload_n 0) 1, hz_m (.getfield 40) 3 [11, 4] [], hz_n, hz_n, hz_m (.getfield 171) 3 [5, 0] [], hz_n, hz_n, hz_m (.invokevirtual 308) 3 [50, 4, 1] [], hz_n, hz_n],
  [hz_r (.istore_n 2) 1, hz_r (.aload_n 0) 1, hz_m (.getfield 19) 3 [11, 1] [], hz_n, hz_n, hz_r (.iload_n 2) 1, hz_r (.aload_n 0) 1, hz_m (.getfield 40) 3 [11, 4] [], hz_n, hz_n, hz_m (.getfield 312) 3 [5, 2] [], hz_n, hz_n, hz_r (.aload_n 0) 1, hz_m (.getfield 40) 3 [11, 4] [], hz_n],
  [hz_n, hz_m (.getfield 315) 3 [5, 3] [], hz_n, hz_n, hz_m (.invokevirtual 318) 3 [44, 4, 0] [], hz_n, hz_n, hz_r (.iload_n 2) 1, hz_r (.ireturn) 1]]
/-- HeavierServes.offs()I -/
def hs_k140 : hs_K := [
  [hz_m (.iconst 0) 1 [] [true, false, false, false, false], hz_r (.istore_n 1) 1, hz_r (.iconst 0) 1, hz_r (.istore_n 2) 1, hz_r (.iconst 0) 1, hz_r (.istore_n 3) 1, hz_r (.bipush (-9)) 2, hz_n, hz_r (.istore 4) 2, hz_n, hz_r (.iload 4) 2, hz_n, hz_r (.bipush 9) 2, hz_n, hz_r (.if_icmp .gt 49) 3, hz_n],
  [hz_n, hz_r (.aload_n 0) 1, hz_m (.getfield 40) 3 [11, 4] [], hz_n, hz_n, hz_r (.aload_n 0) 1, hz_m (.getfield 63) 3 [11, 7] [], hz_n, hz_n, hz_r (.aload_n 0) 1, hz_m (.getfield 47) 3 [11, 5] [], hz_n, hz_n, hz_m (.getfield 141) 3 [6, 7] [], hz_n, hz_n],
  [hz_r (.iload 4) 2, hz_n, hz_m (.invokevirtual 322) 3 [48, 4, 1] [], hz_n, hz_n, hz_r (.ifCond .ne 20) 3, hz_n, hz_n, hz_m (.iload_n 1) 1 [] [true, true, true, false, true], hz_r (.ifCond .ne 8) 3, hz_n, hz_n, hz_m (.iload 4) 2 [] [true, true, false, false, true], hz_n, hz_r (.goto 4) 3, hz_n],
  [hz_n, hz_m (.iload_n 2) 1 [] [true, true, true, false, true], hz_m (.istore_n 2) 1 [] [true, true, false, false, true], hz_r (.iload 4) 2, hz_n, hz_r (.istore_n 3) 1, hz_r (.iinc 1 1) 3, hz_n, hz_n, hz_r (.iinc 4 1) 3, hz_n, hz_n, hz_r (.goto (-50)) 3, hz_n, hz_n, hz_m (.aload_n 0) 1 [] [true, true, true, true, false]],
  [hz_m (.getfield 19) 3 [11, 1] [], hz_n, hz_n, hz_r (.iload_n 1) 1, hz_r (.iload_n 2) 1, hz_r (.iload_n 3) 1, hz_m (.invokevirtual 318) 3 [44, 4, 0] [], hz_n, hz_n, hz_r (.iload_n 1) 1, hz_r (.ireturn) 1]]
/-- HeavierServes.cheats()I -/
def hs_k141 : hs_K := [
  [hz_m (.bipush 9) 2 [] [true, false, false, false, false, false], hz_n, hz_r (.istore_n 1) 1, hz_r (.iconst 0) 1, hz_r (.istore_n 2) 1, hz_r (.iconst 0) 1, hz_r (.istore_n 3) 1, hz_r (.bipush (-9)) 2, hz_n, hz_r (.istore 4) 2, hz_n, hz_m (.iload 4) 2 [] [true, true, true, true, true, false], hz_n, hz_r (.bipush 9) 2, hz_n, hz_r (.if_icmp .gt 52) 3],
  [hz_n, hz_n, hz_m (.aload_n 0) 1 [] [true, true, true, true, true, false], hz_m (.getfield 40) 3 [11, 4] [], hz_n, hz_n, hz_r (.aload_n 0) 1, hz_m (.getfield 63) 3 [11, 7] [], hz_n, hz_n, hz_r (.aload_n 0) 1, hz_m (.getfield 47) 3 [11, 5] [], hz_n, hz_n, hz_m (.getfield 141) 3 [6, 7] [], hz_n],
  [hz_n, hz_r (.iload 4) 2, hz_n, hz_m (.invokevirtual 322) 3 [48, 4, 1] [], hz_n, hz_n, hz_r (.istore 5) 2, hz_n, hz_r (.iload 5) 2, hz_n, hz_m (.invokestatic 326) 3 [0, 1, 1] [], hz_n, hz_n, hz_r (.iload_n 1) 1, hz_r (.if_icmp .ge 15) 3, hz_n],
  [hz_n, hz_m (.iload 5) 2 [] [true, false, false, false, true, true], hz_n, hz_m (.invokestatic 326) 3 [0, 1, 1] [], hz_n, hz_n, hz_r (.istore_n 1) 1, hz_r (.iload 5) 2, hz_n, hz_r (.istore_n 2) 1, hz_r (.iload 4) 2, hz_n, hz_r (.istore_n 3) 1, hz_m (.iinc 4 1) 3 [] [true, true, true, true, true, false], hz_n, hz_n],
  [hz_r (.goto (-53)) 3, hz_n, hz_n, hz_m (.aload_n 0) 1 [] [true, true, true, true, false, false], hz_m (.getfield 19) 3 [11, 1] [], hz_n, hz_n, hz_r (.iload_n 2) 1, hz_r (.i2l) 1, hz_m (.invokevirtual 194) 3 [42, 2, 0] [], hz_n, hz_n, hz_r (.aload_n 0) 1, hz_m (.getfield 19) 3 [11, 1] [], hz_n, hz_n],
  [hz_r (.iload_n 3) 1, hz_r (.i2l) 1, hz_m (.invokevirtual 203) 3 [43, 2, 0] [], hz_n, hz_n, hz_r (.iload_n 1) 1, hz_r (.ireturn) 1]]
/-- HeavierServes.told(II)I -/
def hs_k142 : hs_K := [
  [hz_r (.aload_n 0) 1, hz_m (.getfield 26) 3 [11, 2] [], hz_n, hz_n, hz_r (.iload_n 1) 1, hz_m (.invokevirtual 127) 3 [65, 2, 1] [], hz_n, hz_n, hz_r (.ifCond .eq 14) 3, hz_n, hz_n, hz_r (.iload_n 2) 1, hz_r (.iconst 1) 1, hz_r (.if_icmp .lt 9) 3, hz_n, hz_n],
  [hz_r (.iload_n 2) 1, hz_r (.bipush 60) 2, hz_n, hz_r (.if_icmp .le 7) 3, hz_n, hz_n, hz_m (.iconst (-1)) 1 [] [false, false, false], hz_r (.goto 12) 3, hz_n, hz_n, hz_r (.aload_n 0) 1, hz_m (.getfield 67) 3 [11, 8] [], hz_n, hz_n, hz_r (.iload_n 1) 1, hz_r (.iload_n 2) 1],
  [hz_m (.invokevirtual 299) 3 [34, 3, 1] [], hz_n, hz_n, hz_m (.ireturn) 1 [] [false, false, false]]]
/-- HeavierServes.wipe()I -/
def hs_k143 : hs_K := [
  [hz_m (.aload_n 0) 1 [] [true, false], hz_m (.getfield 67) 3 [11, 8] [], hz_n, hz_n, hz_m (.getfield 301) 3 [2, 2] [], hz_n, hz_n, hz_r (.istore_n 1) 1, hz_r (.aload_n 0) 1, hz_m (.getfield 67) 3 [11, 8] [], hz_n, hz_n, hz_r (.iconst 0) 1, hz_m (.putfield 301) 3 [2, 2] [], hz_n, hz_n],
  [hz_r (.iload_n 1) 1, hz_r (.ireturn) 1]]
/-- HeavierServes.explains(I)I -/
def hs_k144 : hs_K := [
  [hz_r (.aload_n 0) 1, hz_r (.iload_n 1) 1, hz_m (.invokevirtual 240) 3 [153, 2, 1] [], hz_n, hz_n, hz_r (.ifCond .eq 18) 3, hz_n, hz_n, hz_r (.aload_n 0) 1, hz_m (.getfield 91) 3 [11, 11] [], hz_n, hz_n, hz_r (.aload_n 0) 1, hz_m (.getfield 67) 3 [11, 8] [], hz_n, hz_n],
  [hz_r (.iload_n 1) 1, hz_m (.invokevirtual 331) 3 [90, 3, 1] [], hz_n, hz_n, hz_r (.goto 4) 3, hz_n, hz_n, hz_m (.iconst (-1)) 1 [] [false, false], hz_m (.ireturn) 1 [] [false, false]]]
/-- HeavierServes.absent()I -/
def hs_k145 : hs_K := [
  [hz_r (.aload_n 0) 1, hz_m (.getfield 91) 3 [11, 11] [], hz_n, hz_n, hz_r (.aload_n 0) 1, hz_m (.getfield 67) 3 [11, 8] [], hz_n, hz_n, hz_m (.invokevirtual 334) 3 [91, 2, 1] [], hz_n, hz_n, hz_r (.ireturn) 1]]
/-- HeavierServes.twin(I)I -/
def hs_k146 : hs_K := [
  [hz_m (.aload_n 0) 1 [] [true, true, false], hz_r (.iload_n 1) 1, hz_m (.invokevirtual 240) 3 [153, 2, 1] [], hz_n, hz_n, hz_r (.ifCond .eq 15) 3, hz_n, hz_n, hz_m (.aload_n 0) 1 [] [true, true, false], hz_m (.getfield 26) 3 [11, 2] [], hz_n, hz_n, hz_m (.getfield 110) 3 [8, 9] [], hz_n, hz_n, hz_r (.bipush 8) 2],
  [hz_n, hz_r (.if_icmp .lt 5) 3, hz_n, hz_n, hz_m (.iconst (-1)) 1 [] [false, false, false], hz_r (.ireturn) 1, hz_m (.aload_n 0) 1 [] [true, true, false], hz_m (.getfield 26) 3 [11, 2] [], hz_n, hz_n, hz_m (.getfield 110) 3 [8, 9] [], hz_n, hz_n, hz_r (.istore_n 2) 1, hz_r (.aload_n 0) 1, hz_m (.getfield 26) 3 [11, 2] []],
  [hz_n, hz_n, hz_r (.iload_n 1) 1, hz_r (.iload_n 2) 1, hz_m (.invokevirtual 338) 3 [72, 3, 0] [], hz_n, hz_n, hz_r (.aload_n 0) 1, hz_m (.getfield 47) 3 [11, 5] [], hz_n, hz_n, hz_r (.iload_n 2) 1, hz_r (.aload_n 0) 1, hz_m (.getfield 47) 3 [11, 5] [], hz_n, hz_n],
  [hz_m (.getfield 141) 3 [6, 7] [], hz_n, hz_n, hz_r (.iload_n 1) 1, hz_r (.iaload) 1, hz_m (.invokevirtual 117) 3 [54, 3, 0] [], hz_n, hz_n, hz_r (.aload_n 0) 1, hz_m (.getfield 26) 3 [11, 2] [], hz_n, hz_n, hz_r (.dup) 1, hz_m (.getfield 110) 3 [8, 9] [], hz_n, hz_n],
  [hz_r (.iconst 1) 1, hz_r (.iadd) 1, hz_m (.putfield 110) 3 [8, 9] [], hz_n, hz_n, hz_r (.aload_n 0) 1, hz_m (.getfield 54) 3 [11, 6] [], hz_n, hz_n, hz_m (.invokevirtual 121) 3 [39, 1, 0] [], hz_n, hz_n, hz_r (.iload_n 2) 1, hz_r (.ireturn) 1]]
/-- HeavierServes.odds(II)I -/
def hs_k147 : hs_K := [
  [hz_r (.aload_n 0) 1, hz_m (.getfield 26) 3 [11, 2] [], hz_n, hz_n, hz_r (.iload_n 1) 1, hz_m (.invokevirtual 127) 3 [65, 2, 1] [], hz_n, hz_n, hz_r (.ifCond .eq 12) 3, hz_n, hz_n, hz_r (.iload_n 2) 1, hz_r (.ifCond .lt 8) 3, hz_n, hz_n, hz_r (.iload_n 2) 1],
  [hz_r (.iconst 2) 1, hz_r (.if_icmp .le 5) 3, hz_n, hz_n, hz_m (.iconst (-1)) 1 [] [false, false, false], hz_r (.ireturn) 1, hz_r (.aload_n 0) 1, hz_m (.getfield 84) 3 [11, 10] [], hz_n, hz_n, hz_r (.iload_n 1) 1, hz_r (.iload_n 2) 1, hz_m (.invokevirtual 341) 3 [24, 3, 0] [], hz_n, hz_n, hz_r (.iconst 0) 1],
  [hz_r (.ireturn) 1]]
/-- HeavierServes.likely()I -/
def hs_k148 : hs_K := [
  [hz_r (.aload_n 0) 1, hz_m (.getfield 84) 3 [11, 10] [], hz_n, hz_n, hz_m (.invokevirtual 344) 3 [26, 1, 1] [], hz_n, hz_n, hz_r (.ireturn) 1]]
/-- HeavierServes.keep(I)Z -/
def hs_k149 : hs_K := [
  [hz_r (.aload_n 0) 1, hz_m (.getfield 54) 3 [11, 6] [], hz_n, hz_n, hz_r (.iload_n 1) 1, hz_r (.aload_n 0) 1, hz_m (.getfield 47) 3 [11, 5] [], hz_n, hz_n, hz_r (.aload_n 0) 1, hz_m (.getfield 26) 3 [11, 2] [], hz_n, hz_n, hz_m (.getfield 110) 3 [8, 9] [], hz_n, hz_n],
  [hz_m (.invokevirtual 347) 3 [40, 4, 1] [], hz_n, hz_n, hz_r (.ireturn) 1]]
/-- HeavierServes.again(I)Z -/
def hs_k150 : hs_K := [
  [hz_r (.aload_n 0) 1, hz_m (.getfield 54) 3 [11, 6] [], hz_n, hz_n, hz_r (.iload_n 1) 1, hz_r (.aload_n 0) 1, hz_m (.getfield 47) 3 [11, 5] [], hz_n, hz_n, hz_r (.aload_n 0) 1, hz_m (.getfield 26) 3 [11, 2] [], hz_n, hz_n, hz_m (.getfield 110) 3 [8, 9] [], hz_n, hz_n],
  [hz_m (.invokevirtual 351) 3 [41, 4, 1] [], hz_n, hz_n, hz_r (.ireturn) 1]]
/-- HeavierServes.count(I)I -/
def hs_k151 : hs_K := [
  [hz_r (.iload_n 1) 1, hz_r (.tableswitch 183 0 13 #[71, 79, 87, 95, 103, 111, 119, 127, 135, 143, 151, 159, 167, 175]) 71, hz_n, hz_n, hz_n, hz_n, hz_n, hz_n, hz_n, hz_n, hz_n, hz_n, hz_n, hz_n, hz_n, hz_n],
  [hz_n, hz_n, hz_n, hz_n, hz_n, hz_n, hz_n, hz_n, hz_n, hz_n, hz_n, hz_n, hz_n, hz_n, hz_n, hz_n],
  [hz_n, hz_n, hz_n, hz_n, hz_n, hz_n, hz_n, hz_n, hz_n, hz_n, hz_n, hz_n, hz_n, hz_n, hz_n, hz_n],
  [hz_n, hz_n, hz_n, hz_n, hz_n, hz_n, hz_n, hz_n, hz_n, hz_n, hz_n, hz_n, hz_n, hz_n, hz_n, hz_n],
  [hz_n, hz_n, hz_n, hz_n, hz_n, hz_n, hz_n, hz_n, hz_m (.aload_n 0) 1 [] [true, false], hz_m (.getfield 26) 3 [11, 2] [], hz_n, hz_n, hz_m (.getfield 110) 3 [8, 9] [], hz_n, hz_n, hz_r (.ireturn) 1],
  [hz_m (.aload_n 0) 1 [] [true, false], hz_m (.getfield 47) 3 [11, 5] [], hz_n, hz_n, hz_m (.getfield 253) 3 [6, 0] [], hz_n, hz_n, hz_r (.ireturn) 1, hz_m (.aload_n 0) 1 [] [true, false], hz_m (.getfield 47) 3 [11, 5] [], hz_n, hz_n, hz_m (.getfield 206) 3 [6, 1] [], hz_n, hz_n, hz_r (.ireturn) 1],
  [hz_m (.aload_n 0) 1 [] [true, false], hz_m (.getfield 47) 3 [11, 5] [], hz_n, hz_n, hz_m (.getfield 354) 3 [6, 2] [], hz_n, hz_n, hz_r (.ireturn) 1, hz_m (.aload_n 0) 1 [] [true, false], hz_m (.getfield 47) 3 [11, 5] [], hz_n, hz_n, hz_m (.getfield 218) 3 [6, 6] [], hz_n, hz_n, hz_r (.ireturn) 1],
  [hz_m (.aload_n 0) 1 [] [true, false], hz_m (.getfield 47) 3 [11, 5] [], hz_n, hz_n, hz_m (.getfield 230) 3 [6, 4] [], hz_n, hz_n, hz_r (.ireturn) 1, hz_m (.aload_n 0) 1 [] [true, false], hz_m (.getfield 47) 3 [11, 5] [], hz_n, hz_n, hz_m (.getfield 357) 3 [6, 3] [], hz_n, hz_n, hz_r (.ireturn) 1],
  [hz_m (.aload_n 0) 1 [] [true, false], hz_m (.getfield 54) 3 [11, 6] [], hz_n, hz_n, hz_m (.getfield 250) 3 [3, 4] [], hz_n, hz_n, hz_r (.ireturn) 1, hz_m (.aload_n 0) 1 [] [true, false], hz_m (.getfield 63) 3 [11, 7] [], hz_n, hz_n, hz_m (.getfield 301) 3 [2, 2] [], hz_n, hz_n, hz_r (.ireturn) 1],
  [hz_m (.aload_n 0) 1 [] [true, false], hz_m (.getfield 67) 3 [11, 8] [], hz_n, hz_n, hz_m (.getfield 301) 3 [2, 2] [], hz_n, hz_n, hz_r (.ireturn) 1, hz_m (.aload_n 0) 1 [] [true, false], hz_m (.getfield 19) 3 [11, 1] [], hz_n, hz_n, hz_m (.getfield 360) 3 [4, 1] [], hz_n, hz_n, hz_r (.ireturn) 1],
  [hz_m (.aload_n 0) 1 [] [true, false], hz_m (.getfield 10) 3 [11, 0] [], hz_n, hz_n, hz_m (.getfield 99) 3 [7, 1] [], hz_n, hz_n, hz_r (.ireturn) 1, hz_m (.aload_n 0) 1 [] [true, false], hz_m (.getfield 40) 3 [11, 4] [], hz_n, hz_n, hz_m (.getfield 171) 3 [5, 0] [], hz_n, hz_n, hz_r (.ireturn) 1],
  [hz_m (.aload_n 0) 1 [] [true, false], hz_m (.getfield 40) 3 [11, 4] [], hz_n, hz_n, hz_m (.getfield 174) 3 [5, 1] [], hz_n, hz_n, hz_r (.ireturn) 1, hz_m (.bipush (-100)) 2 [] [false, false], hz_n, hz_r (.ireturn) 1]]
/-- HeavierServes.row(I)J -/
def hs_k152 : hs_K := [
  [hz_r (.iload_n 1) 1, hz_r (.ifCond .lt 26) 3, hz_n, hz_n, hz_r (.iload_n 1) 1, hz_r (.aload_n 0) 1, hz_m (.getfield 19) 3 [11, 1] [], hz_n, hz_n, hz_m (.getfield 360) 3 [4, 1] [], hz_n, hz_n, hz_r (.if_icmp .ge 15) 3, hz_n, hz_n, hz_r (.iload_n 1) 1],
  [hz_r (.aload_n 0) 1, hz_m (.getfield 19) 3 [11, 1] [], hz_n, hz_n, hz_m (.getfield 361) 3 [4, 0] [], hz_n, hz_n, hz_r (.arraylength) 1, hz_r (.if_icmp .lt 11) 3, hz_n, hz_n, hz_m (.new 138) 3 [] [false, false], hz_n, hz_n, hz_r (.dup) 1, hz_r (.invokespecial 140) 3],
  [hz_n, hz_n, hz_r (.athrow) 1, hz_r (.aload_n 0) 1, hz_m (.getfield 19) 3 [11, 1] [], hz_n, hz_n, hz_m (.getfield 361) 3 [4, 0] [], hz_n, hz_n, hz_r (.iload_n 1) 1, hz_r (.laload) 1, hz_r (.lreturn) 1]]
/-- HeavierServes.isThere(I)Z -/
def hs_k153 : hs_K := [
  [hz_r (.aload_n 0) 1, hz_m (.getfield 26) 3 [11, 2] [], hz_n, hz_n, hz_r (.iload_n 1) 1, hz_m (.invokevirtual 127) 3 [65, 2, 1] [], hz_n, hz_n, hz_r (.ifCond .eq 18) 3, hz_n, hz_n, hz_r (.aload_n 0) 1, hz_m (.getfield 47) 3 [11, 5] [], hz_n, hz_n, hz_r (.iload_n 1) 1],
  [hz_m (.invokevirtual 150) 3 [55, 2, 1] [], hz_n, hz_n, hz_r (.ifCond .eq 7) 3, hz_n, hz_n, hz_m (.iconst 1) 1 [] [false, false], hz_r (.goto 4) 3, hz_n, hz_n, hz_m (.iconst 0) 1 [] [false, false], hz_m (.ireturn) 1 [] [false, false]]]
/-- HeavierServes.exchange([III)I -/
def hs_k154 : hs_K := [
  [hz_m (.iload_n 1) 1 [] [true, true, true, false], hz_r (.ifCond .lt 9) 3, hz_n, hz_n, hz_m (.iload_n 1) 1 [] [true, true, true, false], hz_r (.aload_n 0) 1, hz_r (.arraylength) 1, hz_r (.if_icmp .lt 5) 3, hz_n, hz_n, hz_m (.iconst (-1)) 1 [] [false, false, false, false], hz_r (.ireturn) 1, hz_m (.aload_n 0) 1 [] [true, true, true, false], hz_r (.iload_n 1) 1, hz_r (.iaload) 1, hz_r (.istore_n 3) 1],
  [hz_r (.aload_n 0) 1, hz_r (.iload_n 1) 1, hz_r (.iload_n 2) 1, hz_r (.iastore) 1, hz_r (.iload_n 3) 1, hz_r (.ireturn) 1]]
/-- HeavierServes.inBounds(I)I -/
def hs_k155 : hs_K := [
  [hz_r (.iload_n 0) 1, hz_r (.iconst 1) 1, hz_r (.if_icmp .ge 5) 3, hz_n, hz_n, hz_m (.iconst 1) 1 [] [false], hz_r (.ireturn) 1, hz_r (.iload_n 0) 1, hz_r (.sipush 999) 3, hz_n, hz_n, hz_r (.if_icmp .le 9) 3, hz_n, hz_n, hz_m (.sipush 999) 3 [] [false], hz_n],
  [hz_n, hz_r (.goto 4) 3, hz_n, hz_n, hz_r (.iload_n 0) 1, hz_m (.ireturn) 1 [] [false]]]
/-- HeavierServes.asKind(II)I -/
def hs_k156 : hs_K := [
  [hz_r (.iload_n 0) 1, hz_r (.ifCond .ne 6) 3, hz_n, hz_n, hz_m (.iload_n 1) 1 [] [false, true], hz_r (.i2b) 1, hz_r (.ireturn) 1, hz_r (.iload_n 0) 1, hz_r (.iconst 1) 1, hz_r (.if_icmp .ne 8) 3, hz_n, hz_n, hz_m (.iload_n 1) 1 [] [false, true], hz_r (.i2s) 1, hz_r (.goto 4) 3, hz_n],
  [hz_n, hz_m (.iload_n 1) 1 [] [false, true], hz_m (.ireturn) 1 [] [false, false]]]
/-- HeavierServes.eat(III)I -/
def hs_k157 : hs_K := [
  [hz_r (.aload_n 0) 1, hz_r (.iload_n 1) 1, hz_m (.invokevirtual 240) 3 [153, 2, 1] [], hz_n, hz_n, hz_r (.ifCond .eq 14) 3, hz_n, hz_n, hz_r (.iload_n 2) 1, hz_r (.iconst 1) 1, hz_r (.if_icmp .lt 9) 3, hz_n, hz_n, hz_r (.iload_n 2) 1, hz_r (.bipush 99) 2, hz_n],
  [hz_r (.if_icmp .le 5) 3, hz_n, hz_n, hz_m (.iconst (-1)) 1 [] [false, false, false, false], hz_r (.ireturn) 1, hz_r (.aload_n 0) 1, hz_m (.getfield 54) 3 [11, 6] [], hz_n, hz_n, hz_r (.aload_n 0) 1, hz_m (.getfield 47) 3 [11, 5] [], hz_n, hz_n, hz_m (.invokevirtual 187) 3 [37, 2, 0] [], hz_n, hz_n],
  [hz_r (.aload_n 0) 1, hz_m (.getfield 47) 3 [11, 5] [], hz_n, hz_n, hz_r (.iload_n 1) 1, hz_r (.aload_n 0) 1, hz_m (.getfield 47) 3 [11, 5] [], hz_n, hz_n, hz_m (.getfield 141) 3 [6, 7] [], hz_n, hz_n, hz_r (.iload_n 1) 1, hz_r (.iaload) 1, hz_r (.iload_n 3) 1, hz_r (.iload_n 2) 1],
  [hz_r (.imul) 1, hz_r (.iadd) 1, hz_m (.invokevirtual 180) 3 [56, 3, 0] [], hz_n, hz_n, hz_r (.aload_n 0) 1, hz_m (.getfield 47) 3 [11, 5] [], hz_n, hz_n, hz_m (.getfield 141) 3 [6, 7] [], hz_n, hz_n, hz_r (.iload_n 1) 1, hz_r (.iaload) 1, hz_r (.ireturn) 1]]
/-- HeavierServes.passWeek(II)I -/
def hs_k158 : hs_K := [
  [hz_m (.aload_n 0) 1 [] [true, true, true, false, false], hz_m (.getfield 47) 3 [11, 5] [], hz_n, hz_n, hz_m (.getfield 206) 3 [6, 1] [], hz_n, hz_n, hz_r (.istore_n 3) 1, hz_r (.aload_n 0) 1, hz_m (.getfield 47) 3 [11, 5] [], hz_n, hz_n, hz_m (.getfield 365) 3 [6, 5] [], hz_n, hz_n, hz_r (.istore 4) 2],
  [hz_n, hz_r (.aload_n 0) 1, hz_m (.getfield 75) 3 [11, 9] [], hz_n, hz_n, hz_r (.aload_n 0) 1, hz_m (.getfield 47) 3 [11, 5] [], hz_n, hz_n, hz_r (.iload_n 1) 1, hz_r (.iload_n 2) 1, hz_m (.invokevirtual 368) 3 [27, 4, 0] [], hz_n, hz_n, hz_r (.aload_n 0) 1, hz_m (.getfield 47) 3 [11, 5] []],
  [hz_n, hz_n, hz_m (.getfield 206) 3 [6, 1] [], hz_n, hz_n, hz_r (.iload_n 3) 1, hz_r (.if_icmp .ne 7) 3, hz_n, hz_n, hz_m (.iconst (-1)) 1 [] [false, false, false, false, false], hz_r (.goto 5) 3, hz_n, hz_n, hz_m (.iload 4) 2 [] [false, false, false, false, true], hz_n, hz_m (.ireturn) 1 [] [false, false, false, false, false]]]
/-- HeavierServes.yearFault()I -/
def hs_k159 : hs_K := [
  [hz_m (.iconst 0) 1 [] [true, false, false, false], hz_r (.istore_n 1) 1, hz_r (.iconst 0) 1, hz_r (.istore_n 2) 1, hz_m (.iload_n 2) 1 [] [true, true, true, false], hz_r (.aload_n 0) 1, hz_m (.getfield 10) 3 [11, 0] [], hz_n, hz_n, hz_m (.getfield 372) 3 [7, 2] [], hz_n, hz_n, hz_r (.if_icmp .ge 53) 3, hz_n, hz_n, hz_m (.aload_n 0) 1 [] [true, true, true, false]],
  [hz_m (.getfield 10) 3 [11, 0] [], hz_n, hz_n, hz_r (.iload_n 2) 1, hz_m (.invokevirtual 375) 3 [63, 2, 1] [], hz_n, hz_n, hz_r (.istore_n 3) 1, hz_r (.iload_n 3) 1, hz_r (.bipush 59) 2, hz_n, hz_r (.if_icmp .ne 8) 3, hz_n, hz_n, hz_m (.iconst 0) 1 [] [true, false, true, false], hz_r (.istore_n 1) 1],
  [hz_r (.goto 27) 3, hz_n, hz_n, hz_r (.iload_n 3) 1, hz_r (.bipush 97) 2, hz_n, hz_r (.if_icmp .lt 19) 3, hz_n, hz_n, hz_r (.iload_n 3) 1, hz_r (.bipush 104) 2, hz_n, hz_r (.if_icmp .gt 13) 3, hz_n, hz_n, hz_r (.iload_n 3) 1],
  [hz_r (.iload_n 1) 1, hz_r (.if_icmp .le 8) 3, hz_n, hz_n, hz_m (.iload_n 3) 1 [] [true, false, true, true], hz_r (.istore_n 1) 1, hz_r (.goto 5) 3, hz_n, hz_n, hz_m (.iload_n 2) 1 [] [false, false, true, false], hz_r (.ireturn) 1, hz_m (.iinc 2 1) 3 [] [true, true, true, false], hz_n, hz_n, hz_r (.goto (-58)) 3, hz_n],
  [hz_n, hz_m (.aload_n 0) 1 [] [true, false, false, false], hz_m (.getfield 10) 3 [11, 0] [], hz_n, hz_n, hz_m (.getfield 372) 3 [7, 2] [], hz_n, hz_n, hz_r (.aload_n 0) 1, hz_m (.getfield 10) 3 [11, 0] [], hz_n, hz_n, hz_m (.getfield 99) 3 [7, 1] [], hz_n, hz_n, hz_r (.if_icmp .ge 13) 3],
  [hz_n, hz_n, hz_m (.aload_n 0) 1 [] [true, false, false, false], hz_m (.getfield 10) 3 [11, 0] [], hz_n, hz_n, hz_m (.getfield 372) 3 [7, 2] [], hz_n, hz_n, hz_r (.goto 4) 3, hz_n, hz_n, hz_m (.iconst (-1)) 1 [] [false, false, false, false], hz_m (.ireturn) 1 [] [false, false, false, false]]]
/-- HeavierServes.passYear()I -/
def hs_k160 : hs_K := [
  [hz_m (.iconst 0) 1 [] [true, false, false, false, false, false, false], hz_r (.istore_n 1) 1, hz_r (.iconst 0) 1, hz_r (.istore_n 2) 1, hz_r (.iconst 0) 1, hz_r (.istore_n 3) 1, hz_r (.aload_n 0) 1, hz_m (.getfield 10) 3 [11, 0] [], hz_n, hz_n, hz_m (.getfield 372) 3 [7, 2] [], hz_n, hz_n, hz_r (.ifCond .ne 7) 3, hz_n, hz_n],
  [hz_m (.iconst 0) 1 [] [true, true, true, true, false, false, false], hz_r (.goto 12) 3, hz_n, hz_n, hz_m (.aload_n 0) 1 [] [true, true, true, true, false, false, false], hz_m (.getfield 10) 3 [11, 0] [], hz_n, hz_n, hz_m (.getfield 372) 3 [7, 2] [], hz_n, hz_n, hz_r (.iconst 1) 1, hz_r (.iadd) 1, hz_m (.istore 4) 2 [] [true, true, true, true, false, false, false], hz_n, hz_r (.iconst 0) 1],
  [hz_r (.istore 5) 2, hz_n, hz_m (.iload 5) 2 [] [true, true, true, true, true, true, false], hz_n, hz_r (.iload 4) 2, hz_n, hz_r (.if_icmp .ge 97) 3, hz_n, hz_n, hz_m (.iload_n 3) 1 [] [true, true, true, true, true, true, false], hz_r (.ifCond .ne 93) 3, hz_n, hz_n, hz_m (.aload_n 0) 1 [] [true, true, true, true, true, true, false], hz_m (.getfield 10) 3 [11, 0] [], hz_n],
  [hz_n, hz_r (.iload 5) 2, hz_n, hz_m (.invokevirtual 375) 3 [63, 2, 1] [], hz_n, hz_n, hz_r (.istore 6) 2, hz_n, hz_r (.iload 6) 2, hz_n, hz_r (.bipush 97) 2, hz_n, hz_r (.if_icmp .lt 23) 3, hz_n, hz_n, hz_r (.iload 6) 2],
  [hz_n, hz_r (.bipush 104) 2, hz_n, hz_r (.if_icmp .gt 16) 3, hz_n, hz_n, hz_r (.iload_n 2) 1, hz_r (.iconst 1) 1, hz_r (.iload 6) 2, hz_n, hz_r (.bipush 97) 2, hz_n, hz_r (.isub) 1, hz_r (.ishl) 1, hz_r (.ior) 1, hz_r (.istore_n 2) 1],
  [hz_r (.goto 49) 3, hz_n, hz_n, hz_m (.iload_n 2) 1 [] [true, true, true, true, true, true, false], hz_r (.aload_n 0) 1, hz_m (.getfield 26) 3 [11, 2] [], hz_n, hz_n, hz_m (.invokevirtual 183) 3 [66, 1, 1] [], hz_n, hz_n, hz_r (.iconst (-1)) 1, hz_r (.ixor) 1, hz_r (.iand) 1, hz_r (.ifCond .eq 8) 3, hz_n],
  [hz_n, hz_m (.iconst 1) 1 [] [true, true, true, false, true, true, false], hz_r (.istore_n 3) 1, hz_r (.goto 30) 3, hz_n, hz_n, hz_m (.iload_n 1) 1 [] [true, true, true, true, true, true, false], hz_r (.ifCond .ne 14) 3, hz_n, hz_n, hz_m (.aload_n 0) 1 [] [true, true, true, true, true, true, false], hz_m (.getfield 54) 3 [11, 6] [], hz_n, hz_n, hz_r (.aload_n 0) 1, hz_m (.getfield 47) 3 [11, 5] []],
  [hz_n, hz_n, hz_m (.invokevirtual 187) 3 [37, 2, 0] [], hz_n, hz_n, hz_m (.aload_n 0) 1 [] [true, true, true, true, true, true, false], hz_r (.iload_n 2) 1, hz_r (.iconst 0) 1, hz_m (.invokevirtual 191) 3 [158, 3, 1] [], hz_n, hz_n, hz_r (.pop) 1, hz_r (.iinc 1 1) 3, hz_n, hz_n, hz_r (.iconst 0) 1],
  [hz_r (.istore_n 2) 1, hz_m (.iinc 5 1) 3 [] [true, true, true, true, true, true, false], hz_n, hz_n, hz_r (.goto (-98)) 3, hz_n, hz_n, hz_m (.aload_n 0) 1 [] [true, true, false, true, false, false, false], hz_m (.getfield 19) 3 [11, 1] [], hz_n, hz_n, hz_r (.aload_n 0) 1, hz_m (.getfield 47) 3 [11, 5] [], hz_n, hz_n, hz_m (.getfield 206) 3 [6, 1] []],
  [hz_n, hz_n, hz_r (.i2l) 1, hz_m (.invokevirtual 194) 3 [42, 2, 0] [], hz_n, hz_n, hz_r (.aload_n 0) 1, hz_m (.getfield 19) 3 [11, 1] [], hz_n, hz_n, hz_r (.iload_n 3) 1, hz_r (.i2l) 1, hz_m (.invokevirtual 203) 3 [43, 2, 0] [], hz_n, hz_n, hz_r (.iload_n 1) 1],
  [hz_r (.ireturn) 1]]
/-- HeavierServesModel.thrown()I -/
def hs_k161 : hs_K := [
  [hz_r (.aload_n 0) 1, hz_m (.getfield 3) 3 [12, 0] [], hz_n, hz_n, hz_r (.ireturn) 1]]
/-- HeavierServesModel.refuse()I -/
def hs_k162 : hs_K := [
  [hz_r (.aload_n 0) 1, hz_r (.iconst 1) 1, hz_m (.putfield 3) 3 [12, 0] [], hz_n, hz_n, hz_r (.iconst 0) 1, hz_r (.ireturn) 1]]
/-- HeavierServesModel.in(JJJ)Z -/
def hs_k163 : hs_K := [
  [hz_m (.lload_n 0) 1 [] [true, false, true, false, true, false], hz_r (.lload_n 2) 1, hz_r (.lcmp) 1, hz_r (.ifCond .lt 14) 3, hz_n, hz_n, hz_m (.lload_n 0) 1 [] [true, false, false, false, true, false], hz_r (.lload 4) 2, hz_n, hz_r (.lcmp) 1, hz_r (.ifCond .gt 7) 3, hz_n, hz_n, hz_m (.iconst 1) 1 [] [false, false, false, false, false, false], hz_r (.goto 4) 3, hz_n],
  [hz_n, hz_m (.iconst 0) 1 [] [false, false, false, false, false, false], hz_m (.ireturn) 1 [] [false, false, false, false, false, false]]]
/-- HeavierServesModel.has(II)Z -/
def hs_k164 : hs_K := [
  [hz_r (.iload_n 0) 1, hz_r (.iload_n 1) 1, hz_r (.ishr) 1, hz_r (.iconst 1) 1, hz_r (.iand) 1, hz_r (.iconst 1) 1, hz_r (.if_icmp .ne 7) 3, hz_n, hz_n, hz_m (.iconst 1) 1 [] [false, false], hz_r (.goto 4) 3, hz_n, hz_n, hz_m (.iconst 0) 1 [] [false, false], hz_m (.ireturn) 1 [] [false, false]]]
/-- HeavierServesModel.flag(Z)I -/
def hs_k165 : hs_K := [
  [hz_r (.iload_n 0) 1, hz_r (.ifCond .eq 7) 3, hz_n, hz_n, hz_m (.iconst 1) 1 [] [false], hz_r (.goto 4) 3, hz_n, hz_n, hz_m (.iconst 0) 1 [] [false], hz_m (.ireturn) 1 [] [false]]]
/-- HeavierServesModel.common(JJ)J -/
def hs_k166 : hs_K := [
  [hz_m (.lload_n 2) 1 [] [true, false, true, false], hz_r (.lconst 0) 1, hz_r (.lcmp) 1, hz_r (.ifCond .ne 7) 3, hz_n, hz_n, hz_m (.lload_n 0) 1 [] [true, false, false, false], hz_r (.goto 10) 3, hz_n, hz_n, hz_m (.lload_n 2) 1 [] [true, false, true, false], hz_r (.lload_n 0) 1, hz_r (.lload_n 2) 1, hz_r (.lrem) 1, hz_m (.invokestatic 7) 3 [166, 2, 2] [], hz_n],
  [hz_n, hz_m (.lreturn) 1 [] [false, false, false, false]]]
/-- HeavierServesModel.enters(J)V -/
def hs_k167 : hs_K := [
  [hz_m (.aload_n 0) 1 [] [true, true, false], hz_m (.getfield 11) 3 [12, 2] [], hz_n, hz_n, hz_r (.aload_n 0) 1, hz_m (.getfield 15) 3 [12, 1] [], hz_n, hz_n, hz_r (.lload_n 1) 1, hz_r (.lastore) 1, hz_r (.aload_n 0) 1, hz_r (.dup) 1, hz_m (.getfield 15) 3 [12, 1] [], hz_n, hz_n, hz_r (.iconst 1) 1],
  [hz_r (.iadd) 1, hz_m (.putfield 15) 3 [12, 1] [], hz_n, hz_n, hz_r (.return_) 1]]
/-- HeavierServesModel.entersFraction(JJ)V -/
def hs_k168 : hs_K := [
  [hz_m (.lload_n 1) 1 [] [true, true, false, true, false, false, false], hz_r (.lload_n 3) 1, hz_m (.invokestatic 7) 3 [166, 2, 2] [], hz_n, hz_n, hz_r (.lstore 5) 2, hz_n, hz_r (.aload_n 0) 1, hz_r (.lload_n 1) 1, hz_r (.lload 5) 2, hz_n, hz_r (.ldiv) 1, hz_m (.invokevirtual 18) 3 [167, 2, 0] [], hz_n, hz_n, hz_r (.aload_n 0) 1],
  [hz_r (.lload_n 3) 1, hz_r (.lload 5) 2, hz_n, hz_r (.ldiv) 1, hz_m (.invokevirtual 18) 3 [167, 2, 0] [], hz_n, hz_n, hz_r (.return_) 1]]
/-- HeavierServesModel.isPerson(I)Z -/
def hs_k169 : hs_K := [
  [hz_r (.iload_n 1) 1, hz_r (.i2l) 1, hz_r (.lconst 0) 1, hz_r (.aload_n 0) 1, hz_m (.getfield 117) 3 [12, 3] [], hz_n, hz_n, hz_r (.iconst 1) 1, hz_r (.isub) 1, hz_r (.i2l) 1, hz_m (.invokestatic 120) 3 [163, 3, 1] [], hz_n, hz_n, hz_r (.ireturn) 1]]
/-- HeavierServesModel.isAlive(I)Z -/
def hs_k170 : hs_K := [
  [hz_r (.aload_n 0) 1, hz_r (.iload_n 1) 1, hz_m (.invokevirtual 124) 3 [169, 2, 1] [], hz_n, hz_n, hz_r (.ifCond .eq 21) 3, hz_n, hz_n, hz_r (.aload_n 0) 1, hz_m (.getfield 44) 3 [12, 10] [], hz_n, hz_n, hz_r (.bipush 16) 2, hz_n, hz_r (.iaload) 1, hz_r (.iload_n 1) 1],
  [hz_m (.invokestatic 128) 3 [164, 2, 1] [], hz_n, hz_n, hz_r (.ifCond .eq 7) 3, hz_n, hz_n, hz_m (.iconst 1) 1 [] [false, false], hz_r (.goto 4) 3, hz_n, hz_n, hz_m (.iconst 0) 1 [] [false, false], hz_m (.ireturn) 1 [] [false, false]]]
/-- HeavierServesModel.sign(I)I -/
def hs_k171 : hs_K := [
  [hz_m (.aload_n 0) 1 [] [true, true, false], hz_r (.iconst 0) 1, hz_m (.putfield 3) 3 [12, 0] [], hz_n, hz_n, hz_r (.aload_n 0) 1, hz_m (.getfield 132) 3 [12, 13] [], hz_n, hz_n, hz_r (.bipush 76) 2, hz_n, hz_r (.if_icmp .le 5) 3, hz_n, hz_n, hz_m (.iconst (-1)) 1 [] [false, false, false], hz_r (.ireturn) 1],
  [hz_m (.iconst 0) 1 [] [true, true, false], hz_r (.istore_n 2) 1, hz_r (.iload_n 2) 1, hz_r (.iconst 4) 1, hz_r (.if_icmp .ge 33) 3, hz_n, hz_n, hz_r (.aload_n 0) 1, hz_m (.getfield 50) 3 [12, 12] [], hz_n, hz_n, hz_r (.aload_n 0) 1, hz_m (.getfield 132) 3 [12, 13] [], hz_n, hz_n, hz_r (.iload_n 2) 1],
  [hz_r (.iadd) 1, hz_r (.iload_n 1) 1, hz_r (.bipush 24) 2, hz_n, hz_r (.bipush 8) 2, hz_n, hz_r (.iload_n 2) 1, hz_r (.imul) 1, hz_r (.isub) 1, hz_r (.ishr) 1, hz_r (.sipush 255) 3, hz_n, hz_n, hz_r (.iand) 1, hz_r (.iastore) 1, hz_r (.iinc 2 1) 3],
  [hz_n, hz_n, hz_r (.goto (-32)) 3, hz_n, hz_n, hz_m (.aload_n 0) 1 [] [true, false, false], hz_r (.dup) 1, hz_m (.getfield 132) 3 [12, 13] [], hz_n, hz_n, hz_r (.iconst 4) 1, hz_r (.iadd) 1, hz_m (.putfield 132) 3 [12, 13] [], hz_n, hz_n, hz_r (.aload_n 0) 1],
  [hz_m (.getfield 132) 3 [12, 13] [], hz_n, hz_n, hz_r (.ireturn) 1]]
/-- HeavierServesModel.end(I)Z -/
def hs_k172 : hs_K := [
  [hz_r (.aload_n 0) 1, hz_r (.iconst 0) 1, hz_m (.putfield 3) 3 [12, 0] [], hz_n, hz_n, hz_r (.iload_n 1) 1, hz_r (.i2l) 1, hz_r (.lconst 0) 1, hz_r (.aload_n 0) 1, hz_m (.getfield 132) 3 [12, 13] [], hz_n, hz_n, hz_r (.i2l) 1, hz_m (.invokestatic 120) 3 [163, 3, 1] [], hz_n, hz_n],
  [hz_r (.ifCond .ne 5) 3, hz_n, hz_n, hz_m (.iconst 0) 1 [] [false, false], hz_r (.ireturn) 1, hz_r (.aload_n 0) 1, hz_r (.iload_n 1) 1, hz_m (.putfield 132) 3 [12, 13] [], hz_n, hz_n, hz_r (.iconst 1) 1, hz_r (.ireturn) 1]]
/-- HeavierServesModel.begins(I)I -/
def hs_k173 : hs_K := [
  [hz_m (.aload_n 0) 1 [] [true, true, false], hz_m (.getfield 132) 3 [12, 13] [], hz_n, hz_n, hz_r (.istore_n 2) 1, hz_r (.aload_n 0) 1, hz_r (.iconst 0) 1, hz_m (.putfield 132) 3 [12, 13] [], hz_n, hz_n, hz_r (.aload_n 0) 1, hz_r (.iconst 0) 1, hz_m (.putfield 135) 3 [12, 14] [], hz_n, hz_n, hz_r (.aload_n 0) 1],
  [hz_r (.iconst 0) 1, hz_m (.putfield 138) 3 [12, 16] [], hz_n, hz_n, hz_r (.aload_n 0) 1, hz_r (.iload_n 2) 1, hz_r (.iload_n 1) 1, hz_m (.invokestatic 141) 3 [3, 2, 1] [], hz_n, hz_n, hz_m (.putfield 147) 3 [12, 15] [], hz_n, hz_n, hz_r (.iload_n 2) 1, hz_r (.ireturn) 1]]
/-- HeavierServesModel.takes(I)Z -/
def hs_k174 : hs_K := [
  [hz_m (.aload_n 0) 1 [] [true, true, false], hz_m (.getfield 135) 3 [12, 14] [], hz_n, hz_n, hz_r (.aload_n 0) 1, hz_m (.getfield 147) 3 [12, 15] [], hz_n, hz_n, hz_r (.if_icmp .ge 20) 3, hz_n, hz_n, hz_m (.aload_n 0) 1 [] [true, true, false], hz_m (.getfield 50) 3 [12, 12] [], hz_n, hz_n, hz_r (.aload_n 0) 1],
  [hz_m (.getfield 135) 3 [12, 14] [], hz_n, hz_n, hz_r (.iaload) 1, hz_r (.iload_n 1) 1, hz_r (.if_icmp .ne 7) 3, hz_n, hz_n, hz_m (.iconst 1) 1 [] [true, false, false], hz_r (.goto 4) 3, hz_n, hz_n, hz_m (.iconst 0) 1 [] [true, false, false], hz_m (.istore_n 2) 1 [] [true, false, false], hz_r (.aload_n 0) 1, hz_r (.dup) 1],
  [hz_m (.getfield 135) 3 [12, 14] [], hz_n, hz_n, hz_r (.iload_n 2) 1, hz_m (.invokestatic 150) 3 [165, 1, 1] [], hz_n, hz_n, hz_r (.iadd) 1, hz_m (.putfield 135) 3 [12, 14] [], hz_n, hz_n, hz_r (.iload_n 2) 1, hz_r (.ireturn) 1]]
/-- HeavierServesModel.isDigit()Z -/
def hs_k175 : hs_K := [
  [hz_r (.aload_n 0) 1, hz_m (.getfield 135) 3 [12, 14] [], hz_n, hz_n, hz_r (.aload_n 0) 1, hz_m (.getfield 147) 3 [12, 15] [], hz_n, hz_n, hz_r (.if_icmp .ge 29) 3, hz_n, hz_n, hz_r (.aload_n 0) 1, hz_m (.getfield 50) 3 [12, 12] [], hz_n, hz_n, hz_r (.aload_n 0) 1],
  [hz_m (.getfield 135) 3 [12, 14] [], hz_n, hz_n, hz_r (.iaload) 1, hz_r (.i2l) 1, hz_m (.ldc2_w 154) 3 [0, 48] [], hz_n, hz_n, hz_m (.ldc2_w 156) 3 [0, 57] [], hz_n, hz_n, hz_m (.invokestatic 120) 3 [163, 3, 1] [], hz_n, hz_n, hz_r (.ifCond .eq 7) 3, hz_n],
  [hz_n, hz_m (.iconst 1) 1 [] [false], hz_r (.goto 4) 3, hz_n, hz_n, hz_m (.iconst 0) 1 [] [false], hz_m (.ireturn) 1 [] [false]]]
/-- HeavierServesModel.number(I)I -/
def hs_k176 : hs_K := [
  [hz_m (.iconst 0) 1 [] [true, true, false, false], hz_r (.istore_n 2) 1, hz_r (.iconst 0) 1, hz_r (.istore_n 3) 1, hz_r (.iload_n 3) 1, hz_r (.iload_n 1) 1, hz_r (.if_icmp .ge 44) 3, hz_n, hz_n, hz_r (.aload_n 0) 1, hz_m (.invokevirtual 158) 3 [175, 1, 1] [], hz_n, hz_n, hz_r (.ifCond .eq 37) 3, hz_n, hz_n],
  [hz_r (.bipush 10) 2, hz_n, hz_r (.iload_n 2) 1, hz_r (.imul) 1, hz_r (.aload_n 0) 1, hz_m (.getfield 50) 3 [12, 12] [], hz_n, hz_n, hz_r (.aload_n 0) 1, hz_m (.getfield 135) 3 [12, 14] [], hz_n, hz_n, hz_r (.iaload) 1, hz_r (.iadd) 1, hz_r (.bipush 48) 2, hz_n],
  [hz_r (.isub) 1, hz_r (.istore_n 2) 1, hz_r (.aload_n 0) 1, hz_r (.dup) 1, hz_m (.getfield 135) 3 [12, 14] [], hz_n, hz_n, hz_r (.iconst 1) 1, hz_r (.iadd) 1, hz_m (.putfield 135) 3 [12, 14] [], hz_n, hz_n, hz_r (.iinc 3 1) 3, hz_n, hz_n, hz_r (.goto (-43)) 3],
  [hz_n, hz_n, hz_m (.iload_n 2) 1 [] [false, false, true, false], hz_r (.ireturn) 1]]
/-- HeavierServesModel.among(Ljava/lang/String;)I -/
def hs_k177 : hs_K := [
  [hz_m (.iconst 0) 1 [] [true, true, false], hz_r (.istore_n 2) 1, hz_r (.iload_n 2) 1, hz_r (.aload_n 1) 1, hz_m (.invokevirtual 162) 3 [7, 0] [], hz_n, hz_n, hz_r (.if_icmp .ge 39) 3, hz_n, hz_n, hz_r (.aload_n 0) 1, hz_m (.getfield 135) 3 [12, 14] [], hz_n, hz_n, hz_r (.aload_n 0) 1, hz_m (.getfield 147) 3 [12, 15] []],
  [hz_n, hz_n, hz_r (.if_icmp .ge 28) 3, hz_n, hz_n, hz_r (.aload_n 1) 1, hz_r (.iload_n 2) 1, hz_m (.invokevirtual 168) 3 [7, 1] [], hz_n, hz_n, hz_r (.aload_n 0) 1, hz_m (.getfield 50) 3 [12, 12] [], hz_n, hz_n, hz_r (.aload_n 0) 1, hz_m (.getfield 135) 3 [12, 14] []],
  [hz_n, hz_n, hz_r (.iaload) 1, hz_r (.if_icmp .ne 5) 3, hz_n, hz_n, hz_m (.iload_n 2) 1 [] [false, false, true], hz_r (.ireturn) 1, hz_r (.iinc 2 1) 3, hz_n, hz_n, hz_r (.goto (-41)) 3, hz_n, hz_n, hz_m (.iconst (-1)) 1 [] [false, false, false], hz_r (.ireturn) 1]]
/-- HeavierServesModel.faultOf(IIZ)I -/
def hs_k178 : hs_K := [
  [hz_m (.iload_n 3) 1 [] [true, true, true, true, false], hz_r (.ifCond .eq 18) 3, hz_n, hz_n, hz_m (.aload_n 0) 1 [] [true, true, true, false, false], hz_m (.getfield 135) 3 [12, 14] [], hz_n, hz_n, hz_r (.aload_n 0) 1, hz_m (.getfield 147) 3 [12, 15] [], hz_n, hz_n, hz_r (.if_icmp .ne 7) 3, hz_n, hz_n, hz_m (.iconst 1) 1 [] [true, true, true, false, false]],
  [hz_r (.goto 4) 3, hz_n, hz_n, hz_m (.iconst 0) 1 [] [true, true, true, false, false], hz_m (.istore 4) 2 [] [true, true, true, false, false], hz_n, hz_r (.iload_n 1) 1, hz_r (.iload_n 2) 1, hz_r (.if_icmp .le 20) 3, hz_n, hz_n, hz_m (.iload 4) 2 [] [true, false, true, false, true], hz_n, hz_r (.ifCond .ne 11) 3, hz_n, hz_n],
  [hz_m (.aload_n 0) 1 [] [true, false, true, false, true], hz_m (.getfield 135) 3 [12, 14] [], hz_n, hz_n, hz_r (.iload_n 2) 1, hz_r (.if_icmp .lt 7) 3, hz_n, hz_n, hz_m (.iconst (-1)) 1 [] [false, false, true, false, false], hz_r (.iload_n 2) 1, hz_r (.isub) 1, hz_r (.ireturn) 1, hz_m (.iload 4) 2 [] [true, false, false, false, true], hz_n, hz_r (.ifCond .eq 7) 3, hz_n],
  [hz_n, hz_m (.iconst 0) 1 [] [false, false, false, false, false], hz_r (.goto 9) 3, hz_n, hz_n, hz_m (.iconst (-1)) 1 [] [true, false, false, false, false], hz_r (.aload_n 0) 1, hz_m (.getfield 135) 3 [12, 14] [], hz_n, hz_n, hz_r (.isub) 1, hz_m (.ireturn) 1 [] [false, false, false, false, false]]]
/-- HeavierServesModel.readsHabit(I)Z -/
def hs_k179 : hs_K := [
  [hz_m (.iconst 0) 1 [] [true, true, false, false], hz_r (.istore_n 2) 1, hz_m (.iload_n 2) 1 [] [true, true, true, false], hz_r (.bipush 6) 2, hz_n, hz_r (.if_icmp .ge 81) 3, hz_n, hz_n, hz_m (.aload_n 0) 1 [] [true, true, true, false], hz_m (.ldc 172) 2 [1, 0] [], hz_n, hz_m (.invokevirtual 174) 3 [177, 2, 1] [], hz_n, hz_n, hz_r (.ifCond .lt 72) 3, hz_n],
  [hz_n, hz_m (.aload_n 0) 1 [] [true, true, true, false], hz_r (.bipush 43) 2, hz_n, hz_m (.invokevirtual 178) 3 [174, 2, 1] [], hz_n, hz_n, hz_r (.ifCond .eq 7) 3, hz_n, hz_n, hz_m (.iconst 1) 1 [] [true, true, true, false], hz_r (.goto 4) 3, hz_n, hz_n, hz_m (.iconst (-1)) 1 [] [true, true, true, false], hz_m (.istore_n 3) 1 [] [true, true, true, false]],
  [hz_r (.aload_n 0) 1, hz_r (.dup) 1, hz_m (.getfield 135) 3 [12, 14] [], hz_n, hz_n, hz_r (.iload_n 3) 1, hz_r (.ifCond .ge 7) 3, hz_n, hz_n, hz_r (.iconst 1) 1, hz_r (.goto 4) 3, hz_n, hz_n, hz_r (.iconst 0) 1, hz_m (.invokestatic 150) 3 [165, 1, 1] [], hz_n],
  [hz_n, hz_r (.iadd) 1, hz_m (.putfield 135) 3 [12, 14] [], hz_n, hz_n, hz_r (.aload_n 0) 1, hz_m (.invokevirtual 158) 3 [175, 1, 1] [], hz_n, hz_n, hz_r (.ifCond .ne 5) 3, hz_n, hz_n, hz_m (.iconst 0) 1 [] [false, false, false, false], hz_r (.ireturn) 1, hz_r (.aload_n 0) 1, hz_m (.getfield 59) 3 [12, 19] []],
  [hz_n, hz_n, hz_r (.bipush 6) 2, hz_n, hz_r (.iload_n 1) 1, hz_r (.imul) 1, hz_r (.iload_n 2) 1, hz_r (.iadd) 1, hz_r (.iload_n 3) 1, hz_r (.aload_n 0) 1, hz_r (.iconst 1) 1, hz_m (.invokevirtual 181) 3 [176, 2, 1] [], hz_n, hz_n, hz_r (.imul) 1, hz_r (.iastore) 1],
  [hz_r (.iinc 2 1) 3, hz_n, hz_n, hz_r (.goto (-81)) 3, hz_n, hz_n, hz_m (.aload_n 0) 1 [] [true, true, true, false], hz_m (.getfield 62) 3 [12, 20] [], hz_n, hz_n, hz_r (.iload_n 1) 1, hz_r (.iload_n 2) 1, hz_r (.iastore) 1, hz_r (.iconst 1) 1, hz_r (.ireturn) 1]]
/-- HeavierServesModel.readsPerson()Z -/
def hs_k180 : hs_K := [
  [hz_m (.aload_n 0) 1 [] [true, false], hz_m (.getfield 117) 3 [12, 3] [], hz_n, hz_n, hz_r (.aload_n 0) 1, hz_m (.getfield 185) 3 [12, 21] [], hz_n, hz_n, hz_r (.iadd) 1, hz_r (.istore_n 1) 1, hz_r (.aload_n 0) 1, hz_m (.invokevirtual 158) 3 [175, 1, 1] [], hz_n, hz_n, hz_r (.ifCond .eq 9) 3, hz_n],
  [hz_n, hz_r (.iload_n 1) 1, hz_r (.bipush 8) 2, hz_n, hz_r (.if_icmp .ne 5) 3, hz_n, hz_n, hz_m (.iconst 0) 1 [] [false, false], hz_r (.ireturn) 1, hz_r (.aload_n 0) 1, hz_m (.getfield 53) 3 [12, 17] [], hz_n, hz_n, hz_r (.iload_n 1) 1, hz_r (.aload_n 0) 1, hz_r (.iconst 3) 1],
  [hz_m (.invokevirtual 181) 3 [176, 2, 1] [], hz_n, hz_n, hz_r (.iastore) 1, hz_r (.aload_n 0) 1, hz_m (.getfield 53) 3 [12, 17] [], hz_n, hz_n, hz_r (.iload_n 1) 1, hz_r (.iaload) 1, hz_r (.ifCond .ne 15) 3, hz_n, hz_n, hz_m (.aload_n 0) 1 [] [true, false], hz_r (.dup) 1, hz_m (.getfield 135) 3 [12, 14] []],
  [hz_n, hz_n, hz_r (.iconst 1) 1, hz_r (.isub) 1, hz_m (.putfield 135) 3 [12, 14] [], hz_n, hz_n, hz_r (.iconst 0) 1, hz_r (.ireturn) 1, hz_r (.aload_n 0) 1, hz_m (.getfield 56) 3 [12, 18] [], hz_n, hz_n, hz_r (.iload_n 1) 1, hz_r (.iconst 0) 1, hz_r (.iastore) 1],
  [hz_r (.aload_n 0) 1, hz_r (.bipush 42) 2, hz_n, hz_m (.invokevirtual 178) 3 [174, 2, 1] [], hz_n, hz_n, hz_r (.ifCond .eq 25) 3, hz_n, hz_n, hz_r (.aload_n 0) 1, hz_m (.ldc 188) 2 [1, 1] [], hz_n, hz_m (.invokevirtual 174) 3 [177, 2, 1] [], hz_n, hz_n, hz_r (.ifCond .ge 5) 3],
  [hz_n, hz_n, hz_m (.iconst 0) 1 [] [false, false], hz_r (.ireturn) 1, hz_r (.aload_n 0) 1, hz_m (.getfield 56) 3 [12, 18] [], hz_n, hz_n, hz_r (.iload_n 1) 1, hz_r (.aload_n 0) 1, hz_r (.iconst 1) 1, hz_m (.invokevirtual 181) 3 [176, 2, 1] [], hz_n, hz_n, hz_r (.iastore) 1, hz_r (.aload_n 0) 1],
  [hz_r (.dup) 1, hz_m (.getfield 185) 3 [12, 21] [], hz_n, hz_n, hz_r (.iconst 1) 1, hz_r (.iadd) 1, hz_m (.putfield 185) 3 [12, 21] [], hz_n, hz_n, hz_r (.aload_n 0) 1, hz_r (.iload_n 1) 1, hz_m (.invokevirtual 190) 3 [179, 2, 1] [], hz_n, hz_n, hz_r (.ireturn) 1]]
/-- HeavierServesModel.town()I -/
def hs_k181 : hs_K := [
  [hz_m (.aload_n 0) 1 [] [true, false, false, false, false, false, false], hz_r (.iconst 0) 1, hz_m (.putfield 3) 3 [12, 0] [], hz_n, hz_n, hz_r (.aload_n 0) 1, hz_r (.bipush 76) 2, hz_n, hz_m (.invokevirtual 193) 3 [173, 2, 1] [], hz_n, hz_n, hz_r (.istore_n 1) 1, hz_r (.aload_n 0) 1, hz_r (.iconst 0) 1, hz_m (.putfield 185) 3 [12, 21] [], hz_n],
  [hz_n, hz_r (.iconst 1) 1, hz_r (.istore_n 2) 1, hz_r (.iload_n 1) 1, hz_r (.ifCond .le 7) 3, hz_n, hz_n, hz_m (.iconst 1) 1 [] [true, true, true, false, false, false, false], hz_r (.goto 4) 3, hz_n, hz_n, hz_m (.iconst 0) 1 [] [true, true, true, false, false, false, false], hz_m (.istore_n 3) 1 [] [true, true, true, false, false, false, false], hz_m (.iload_n 3) 1 [] [true, true, true, true, false, false, false], hz_r (.ifCond .eq 30) 3, hz_n],
  [hz_n, hz_m (.aload_n 0) 1 [] [true, true, false, false, false, false, false], hz_m (.invokevirtual 196) 3 [180, 1, 1] [], hz_n, hz_n, hz_r (.istore_n 2) 1, hz_r (.iload_n 2) 1, hz_r (.ifCond .eq 16) 3, hz_n, hz_n, hz_m (.aload_n 0) 1 [] [true, true, true, false, false, false, false], hz_r (.bipush 59) 2, hz_n, hz_m (.invokevirtual 178) 3 [174, 2, 1] [], hz_n, hz_n],
  [hz_r (.ifCond .eq 7) 3, hz_n, hz_n, hz_m (.iconst 1) 1 [] [true, true, true, false, false, false, false], hz_r (.goto 4) 3, hz_n, hz_n, hz_m (.iconst 0) 1 [] [true, true, true, false, false, false, false], hz_m (.istore_n 3) 1 [] [true, true, true, false, false, false, false], hz_r (.goto (-28)) 3, hz_n, hz_n, hz_m (.aload_n 0) 1 [] [true, true, true, false, false, false, false], hz_r (.iload_n 1) 1, hz_r (.bipush 76) 2, hz_n],
  [hz_r (.iload_n 2) 1, hz_m (.invokevirtual 199) 3 [178, 4, 1] [], hz_n, hz_n, hz_r (.istore 4) 2, hz_n, hz_r (.iload 4) 2, hz_n, hz_r (.ifCond .ge 6) 3, hz_n, hz_n, hz_m (.iload 4) 2 [] [false, false, false, false, true, false, false], hz_n, hz_r (.ireturn) 1, hz_m (.iconst 0) 1 [] [true, true, false, false, false, false, false], hz_r (.istore 5) 2],
  [hz_n, hz_m (.iload 5) 2 [] [true, true, false, false, false, true, false], hz_n, hz_r (.aload_n 0) 1, hz_m (.getfield 185) 3 [12, 21] [], hz_n, hz_n, hz_r (.if_icmp .ge 54) 3, hz_n, hz_n, hz_m (.aload_n 0) 1 [] [true, true, false, false, false, true, false], hz_m (.getfield 117) 3 [12, 3] [], hz_n, hz_n, hz_r (.iload 5) 2, hz_n],
  [hz_r (.iadd) 1, hz_r (.istore 6) 2, hz_n, hz_r (.aload_n 0) 1, hz_m (.getfield 44) 3 [12, 10] [], hz_n, hz_n, hz_r (.iload 6) 2, hz_n, hz_r (.aload_n 0) 1, hz_m (.getfield 53) 3 [12, 17] [], hz_n, hz_n, hz_r (.iload 6) 2, hz_n, hz_r (.iaload) 1],
  [hz_r (.iastore) 1, hz_r (.aload_n 0) 1, hz_m (.getfield 28) 3 [12, 4] [], hz_n, hz_n, hz_r (.iload 6) 2, hz_n, hz_r (.aload_n 0) 1, hz_m (.getfield 56) 3 [12, 18] [], hz_n, hz_n, hz_r (.iload 6) 2, hz_n, hz_r (.iaload) 1, hz_r (.iastore) 1, hz_r (.aload_n 0) 1],
  [hz_r (.iload 6) 2, hz_n, hz_r (.iload 6) 2, hz_n, hz_m (.invokevirtual 203) 3 [182, 3, 0] [], hz_n, hz_n, hz_r (.iinc 5 1) 3, hz_n, hz_n, hz_r (.goto (-57)) 3, hz_n, hz_n, hz_m (.aload_n 0) 1 [] [true, true, false, false, false, false, false], hz_r (.dup) 1, hz_m (.getfield 117) 3 [12, 3] []],
  [hz_n, hz_n, hz_r (.aload_n 0) 1, hz_m (.getfield 185) 3 [12, 21] [], hz_n, hz_n, hz_r (.iadd) 1, hz_m (.putfield 117) 3 [12, 3] [], hz_n, hz_n, hz_r (.aload_n 0) 1, hz_r (.iload_n 1) 1, hz_r (.ifCond .le 7) 3, hz_n, hz_n, hz_m (.iconst 0) 1 [] [true, false, false, false, false, false, false]],
  [hz_r (.goto 7) 3, hz_n, hz_n, hz_m (.aload_n 0) 1 [] [true, false, false, false, false, false, false], hz_m (.getfield 207) 3 [12, 28] [], hz_n, hz_n, hz_m (.putfield 207) 3 [12, 28] [true, false, false, false, false, false, false], hz_n, hz_n, hz_r (.aload_n 0) 1, hz_m (.getfield 185) 3 [12, 21] [], hz_n, hz_n, hz_r (.ireturn) 1]]
/-- HeavierServesModel.comes(II)V -/
def hs_k182 : hs_K := [
  [hz_r (.aload_n 0) 1, hz_m (.getfield 44) 3 [12, 10] [], hz_n, hz_n, hz_r (.bipush 8) 2, hz_n, hz_r (.iload_n 1) 1, hz_r (.iadd) 1, hz_r (.iconst 0) 1, hz_r (.iastore) 1, hz_r (.aload_n 0) 1, hz_m (.getfield 44) 3 [12, 10] [], hz_n, hz_n, hz_r (.bipush 16) 2, hz_n],
  [hz_r (.dup2) 1, hz_r (.iaload) 1, hz_r (.iconst 1) 1, hz_r (.iload_n 1) 1, hz_r (.ishl) 1, hz_r (.ior) 1, hz_r (.iastore) 1, hz_r (.aload_n 0) 1, hz_m (.getfield 32) 3 [12, 5] [], hz_n, hz_n, hz_r (.iload_n 1) 1, hz_r (.iconst 0) 1, hz_r (.iastore) 1, hz_r (.aload_n 0) 1, hz_r (.iload_n 1) 1],
  [hz_r (.iload_n 2) 1, hz_m (.invokevirtual 210) 3 [183, 3, 0] [], hz_n, hz_n, hz_r (.return_) 1]]
/-- HeavierServesModel.putsHabit(II)V -/
def hs_k183 : hs_K := [
  [hz_m (.aload_n 0) 1 [] [true, true, true, false], hz_m (.getfield 38) 3 [12, 7] [], hz_n, hz_n, hz_r (.iload_n 1) 1, hz_r (.aload_n 0) 1, hz_m (.getfield 62) 3 [12, 20] [], hz_n, hz_n, hz_r (.iload_n 2) 1, hz_r (.iaload) 1, hz_r (.iastore) 1, hz_r (.iconst 0) 1, hz_r (.istore_n 3) 1, hz_r (.iload_n 3) 1, hz_r (.bipush 6) 2],
  [hz_n, hz_r (.if_icmp .ge 31) 3, hz_n, hz_n, hz_r (.aload_n 0) 1, hz_m (.getfield 35) 3 [12, 6] [], hz_n, hz_n, hz_r (.bipush 6) 2, hz_n, hz_r (.iload_n 1) 1, hz_r (.imul) 1, hz_r (.iload_n 3) 1, hz_r (.iadd) 1, hz_r (.aload_n 0) 1, hz_m (.getfield 59) 3 [12, 19] []],
  [hz_n, hz_n, hz_r (.bipush 6) 2, hz_n, hz_r (.iload_n 2) 1, hz_r (.imul) 1, hz_r (.iload_n 3) 1, hz_r (.iadd) 1, hz_r (.iaload) 1, hz_r (.iastore) 1, hz_r (.iinc 3 1) 3, hz_n, hz_n, hz_r (.goto (-31)) 3, hz_n, hz_n],
  [hz_m (.return_) 1 [] [false, false, false, false]]]
/-- HeavierServesModel.habit(I)I -/
def hs_k184 : hs_K := [
  [hz_m (.aload_n 0) 1 [] [true, true, false, false, false], hz_r (.iconst 0) 1, hz_m (.putfield 3) 3 [12, 0] [], hz_n, hz_n, hz_r (.aload_n 0) 1, hz_r (.bipush 12) 2, hz_n, hz_m (.invokevirtual 193) 3 [173, 2, 1] [], hz_n, hz_n, hz_r (.istore_n 2) 1, hz_r (.aload_n 0) 1, hz_r (.iload_n 1) 1, hz_m (.invokevirtual 124) 3 [169, 2, 1] [], hz_n],
  [hz_n, hz_r (.ifCond .ne 6) 3, hz_n, hz_n, hz_m (.bipush (-100)) 2 [] [false, false, false, false, false], hz_n, hz_r (.ireturn) 1, hz_m (.aload_n 0) 1 [] [true, true, true, false, false], hz_r (.bipush 8) 2, hz_n, hz_m (.invokevirtual 190) 3 [179, 2, 1] [], hz_n, hz_n, hz_r (.istore_n 3) 1, hz_r (.aload_n 0) 1, hz_r (.iload_n 2) 1],
  [hz_r (.bipush 12) 2, hz_n, hz_r (.iload_n 3) 1, hz_m (.invokevirtual 199) 3 [178, 4, 1] [], hz_n, hz_n, hz_r (.istore 4) 2, hz_n, hz_r (.iload 4) 2, hz_n, hz_r (.ifCond .ge 6) 3, hz_n, hz_n, hz_m (.iload 4) 2 [] [false, false, false, false, true], hz_n, hz_r (.ireturn) 1],
  [hz_m (.aload_n 0) 1 [] [true, true, false, false, false], hz_r (.iload_n 1) 1, hz_r (.bipush 8) 2, hz_n, hz_m (.invokevirtual 210) 3 [183, 3, 0] [], hz_n, hz_n, hz_r (.aload_n 0) 1, hz_m (.getfield 38) 3 [12, 7] [], hz_n, hz_n, hz_r (.iload_n 1) 1, hz_r (.iaload) 1, hz_r (.ireturn) 1]]
/-- HeavierServesModel.codes(I)V -/
def hs_k185 : hs_K := [
  [hz_r (.aload_n 0) 1, hz_m (.getfield 68) 3 [12, 23] [], hz_n, hz_n, hz_r (.aload_n 0) 1, hz_m (.getfield 213) 3 [12, 25] [], hz_n, hz_n, hz_r (.iload_n 1) 1, hz_r (.iastore) 1, hz_r (.aload_n 0) 1, hz_r (.dup) 1, hz_m (.getfield 213) 3 [12, 25] [], hz_n, hz_n, hz_r (.iconst 1) 1],
  [hz_r (.iadd) 1, hz_m (.putfield 213) 3 [12, 25] [], hz_n, hz_n, hz_r (.return_) 1]]
/-- HeavierServesModel.readsThing()Z -/
def hs_k186 : hs_K := [
  [hz_m (.aload_n 0) 1 [] [true, false], hz_r (.bipush 45) 2, hz_n, hz_m (.invokevirtual 178) 3 [174, 2, 1] [], hz_n, hz_n, hz_r (.ifCond .eq 17) 3, hz_n, hz_n, hz_m (.aload_n 0) 1 [] [true, false], hz_m (.invokevirtual 216) 3 [186, 1, 1] [], hz_n, hz_n, hz_r (.istore_n 1) 1, hz_r (.aload_n 0) 1, hz_r (.sipush 3000) 3],
  [hz_n, hz_n, hz_m (.invokevirtual 219) 3 [185, 2, 0] [], hz_n, hz_n, hz_r (.iload_n 1) 1, hz_r (.ireturn) 1, hz_m (.aload_n 0) 1 [] [true, false], hz_m (.invokevirtual 158) 3 [175, 1, 1] [], hz_n, hz_n, hz_r (.ifCond .eq 14) 3, hz_n, hz_n, hz_m (.aload_n 0) 1 [] [true, false], hz_r (.aload_n 0) 1],
  [hz_r (.iconst 3) 1, hz_m (.invokevirtual 181) 3 [176, 2, 1] [], hz_n, hz_n, hz_m (.invokevirtual 219) 3 [185, 2, 0] [], hz_n, hz_n, hz_r (.iconst 1) 1, hz_r (.ireturn) 1, hz_m (.aload_n 0) 1 [] [true, false], hz_m (.ldc 223) 2 [1, 2] [], hz_n, hz_m (.invokevirtual 174) 3 [177, 2, 1] [], hz_n, hz_n, hz_r (.istore_n 1) 1],
  [hz_r (.iload_n 1) 1, hz_r (.ifCond .lt 24) 3, hz_n, hz_n, hz_r (.aload_n 0) 1, hz_r (.dup) 1, hz_m (.getfield 135) 3 [12, 14] [], hz_n, hz_n, hz_r (.iconst 1) 1, hz_r (.iadd) 1, hz_m (.putfield 135) 3 [12, 14] [], hz_n, hz_n, hz_r (.aload_n 0) 1, hz_r (.sipush 1000) 3],
  [hz_n, hz_n, hz_r (.iload_n 1) 1, hz_r (.iadd) 1, hz_m (.invokevirtual 219) 3 [185, 2, 0] [], hz_n, hz_n, hz_r (.iconst 1) 1, hz_r (.ireturn) 1, hz_m (.aload_n 0) 1 [] [true, false], hz_m (.getfield 138) 3 [12, 16] [], hz_n, hz_n, hz_r (.iconst 4) 1, hz_r (.if_icmp .eq 12) 3, hz_n],
  [hz_n, hz_m (.aload_n 0) 1 [] [true, false], hz_r (.bipush 40) 2, hz_n, hz_m (.invokevirtual 178) 3 [174, 2, 1] [], hz_n, hz_n, hz_r (.ifCond .ne 5) 3, hz_n, hz_n, hz_m (.iconst 0) 1 [] [false, false], hz_r (.ireturn) 1, hz_m (.aload_n 0) 1 [] [true, false], hz_r (.dup) 1, hz_m (.getfield 138) 3 [12, 16] [], hz_n],
  [hz_n, hz_r (.iconst 1) 1, hz_r (.iadd) 1, hz_m (.putfield 138) 3 [12, 16] [], hz_n, hz_n, hz_r (.aload_n 0) 1, hz_r (.iconst 0) 1, hz_m (.invokevirtual 225) 3 [187, 2, 1] [], hz_n, hz_n, hz_r (.ifCond .eq 12) 3, hz_n, hz_n, hz_m (.aload_n 0) 1 [] [true, false], hz_r (.bipush 41) 2],
  [hz_n, hz_m (.invokevirtual 178) 3 [174, 2, 1] [], hz_n, hz_n, hz_r (.ifCond .ne 5) 3, hz_n, hz_n, hz_m (.iconst 0) 1 [] [false, false], hz_r (.ireturn) 1, hz_m (.aload_n 0) 1 [] [true, false], hz_r (.dup) 1, hz_m (.getfield 138) 3 [12, 16] [], hz_n, hz_n, hz_r (.iconst 1) 1, hz_r (.isub) 1],
  [hz_m (.putfield 138) 3 [12, 16] [], hz_n, hz_n, hz_r (.iconst 1) 1, hz_r (.ireturn) 1]]
/-- HeavierServesModel.readsRank(I)Z -/
def hs_k187 : hs_K := [
  [hz_m (.iload_n 1) 1 [] [true, true, false, false], hz_r (.iconst 3) 1, hz_r (.if_icmp .ne 8) 3, hz_n, hz_n, hz_m (.aload_n 0) 1 [] [true, false, false, false], hz_m (.invokevirtual 216) 3 [186, 1, 1] [], hz_n, hz_n, hz_r (.ireturn) 1, hz_m (.aload_n 0) 1 [] [true, true, false, false], hz_r (.iload_n 1) 1, hz_r (.iconst 1) 1, hz_r (.iadd) 1, hz_m (.invokevirtual 225) 3 [187, 2, 1] [], hz_n],
  [hz_n, hz_r (.ifCond .ne 5) 3, hz_n, hz_n, hz_m (.iconst 0) 1 [] [false, false, false, false], hz_r (.ireturn) 1, hz_m (.iconst 1) 1 [] [true, true, false, false], hz_r (.istore_n 2) 1, hz_m (.iload_n 2) 1 [] [true, true, true, false], hz_r (.ifCond .eq 98) 3, hz_n, hz_n, hz_m (.aload_n 0) 1 [] [true, true, false, false], hz_r (.iload_n 1) 1, hz_r (.ifCond .ne 8) 3, hz_n],
  [hz_n, hz_m (.ldc 228) 2 [1, 3] [true, true, false, false], hz_n, hz_r (.goto 15) 3, hz_n, hz_n, hz_m (.iload_n 1) 1 [] [true, true, false, false], hz_r (.iconst 1) 1, hz_r (.if_icmp .ne 8) 3, hz_n, hz_n, hz_m (.ldc 172) 2 [1, 0] [true, true, false, false], hz_n, hz_r (.goto 5) 3, hz_n, hz_n],
  [hz_m (.ldc 230) 2 [1, 4] [true, true, false, false], hz_n, hz_m (.invokevirtual 174) 3 [177, 2, 1] [true, true, false, false], hz_n, hz_n, hz_r (.istore_n 3) 1, hz_r (.iload_n 3) 1, hz_r (.ifCond .ge 5) 3, hz_n, hz_n, hz_m (.iconst 1) 1 [] [false, false, false, false], hz_r (.ireturn) 1, hz_m (.aload_n 0) 1 [] [true, true, false, true], hz_r (.dup) 1, hz_m (.getfield 135) 3 [12, 14] [], hz_n],
  [hz_n, hz_r (.iconst 1) 1, hz_r (.iadd) 1, hz_m (.putfield 135) 3 [12, 14] [], hz_n, hz_n, hz_r (.aload_n 0) 1, hz_r (.iload_n 1) 1, hz_r (.iconst 1) 1, hz_r (.iadd) 1, hz_m (.invokevirtual 225) 3 [187, 2, 1] [], hz_n, hz_n, hz_r (.ifCond .ne 5) 3, hz_n, hz_n],
  [hz_m (.iconst 0) 1 [] [false, false, false, false], hz_r (.ireturn) 1, hz_m (.aload_n 0) 1 [] [true, true, false, true], hz_r (.sipush 2000) 3, hz_n, hz_n, hz_r (.iload_n 3) 1, hz_r (.iadd) 1, hz_r (.iload_n 1) 1, hz_r (.ifCond .ne 7) 3, hz_n, hz_n, hz_m (.iconst 0) 1 [] [true, true, false, false], hz_r (.goto 13) 3, hz_n, hz_n],
  [hz_m (.iload_n 1) 1 [] [true, true, false, false], hz_r (.iconst 1) 1, hz_r (.if_icmp .ne 7) 3, hz_n, hz_n, hz_m (.iconst 3) 1 [] [true, true, false, false], hz_r (.goto 4) 3, hz_n, hz_n, hz_m (.iconst 5) 1 [] [true, true, false, false], hz_m (.iadd) 1 [] [true, true, false, false], hz_m (.invokevirtual 219) 3 [185, 2, 0] [], hz_n, hz_n, hz_r (.iload_n 1) 1, hz_r (.ifCond .le 7) 3],
  [hz_n, hz_n, hz_m (.iconst 1) 1 [] [true, true, false, false], hz_r (.goto 4) 3, hz_n, hz_n, hz_m (.iconst 0) 1 [] [true, true, false, false], hz_m (.istore_n 2) 1 [] [true, true, false, false], hz_r (.goto (-96)) 3, hz_n, hz_n, hz_m (.iconst 1) 1 [] [false, false, false, false], hz_r (.ireturn) 1]]
/-- HeavierServesModel.will()I -/
def hs_k188 : hs_K := [
  [hz_m (.aload_n 0) 1 [] [true, false, false, false, false], hz_r (.iconst 0) 1, hz_m (.putfield 3) 3 [12, 0] [], hz_n, hz_n, hz_r (.aload_n 0) 1, hz_r (.bipush 40) 2, hz_n, hz_m (.invokevirtual 193) 3 [173, 2, 1] [], hz_n, hz_n, hz_r (.istore_n 1) 1, hz_r (.aload_n 0) 1, hz_r (.iconst 0) 1, hz_m (.putfield 213) 3 [12, 25] [], hz_n],
  [hz_n, hz_r (.iload_n 1) 1, hz_r (.ifCond .eq 11) 3, hz_n, hz_n, hz_m (.aload_n 0) 1 [] [true, true, false, false, false], hz_r (.iconst 0) 1, hz_m (.invokevirtual 225) 3 [187, 2, 1] [], hz_n, hz_n, hz_r (.ifCond .eq 7) 3, hz_n, hz_n, hz_m (.iconst 1) 1 [] [true, true, false, false, false], hz_r (.goto 4) 3, hz_n],
  [hz_n, hz_m (.iconst 0) 1 [] [true, true, false, false, false], hz_m (.istore_n 2) 1 [] [true, true, false, false, false], hz_r (.aload_n 0) 1, hz_r (.iload_n 1) 1, hz_r (.bipush 40) 2, hz_n, hz_r (.iload_n 2) 1, hz_m (.invokevirtual 199) 3 [178, 4, 1] [], hz_n, hz_n, hz_r (.istore_n 3) 1, hz_r (.iload_n 3) 1, hz_r (.ifCond .ge 5) 3, hz_n, hz_n],
  [hz_m (.iload_n 3) 1 [] [false, false, false, true, false], hz_r (.ireturn) 1, hz_m (.aload_n 0) 1 [] [true, false, false, false, false], hz_r (.aload_n 0) 1, hz_m (.getfield 213) 3 [12, 25] [], hz_n, hz_n, hz_m (.putfield 232) 3 [12, 24] [], hz_n, hz_n, hz_r (.iconst 0) 1, hz_r (.istore 4) 2, hz_n, hz_m (.iload 4) 2 [] [true, false, false, false, true], hz_n, hz_r (.aload_n 0) 1],
  [hz_m (.getfield 213) 3 [12, 25] [], hz_n, hz_n, hz_r (.if_icmp .ge 23) 3, hz_n, hz_n, hz_m (.aload_n 0) 1 [] [true, false, false, false, true], hz_m (.getfield 65) 3 [12, 22] [], hz_n, hz_n, hz_r (.iload 4) 2, hz_n, hz_r (.aload_n 0) 1, hz_m (.getfield 68) 3 [12, 23] [], hz_n, hz_n],
  [hz_r (.iload 4) 2, hz_n, hz_r (.iaload) 1, hz_r (.iastore) 1, hz_r (.iinc 4 1) 3, hz_n, hz_n, hz_r (.goto (-26)) 3, hz_n, hz_n, hz_m (.iconst 0) 1 [] [false, false, false, false, false], hz_r (.ireturn) 1]]
/-- HeavierServesModel.holding([I)I -/
def hs_k189 : hs_K := [
  [hz_m (.iconst 0) 1 [] [false, true, false, false], hz_r (.istore_n 2) 1, hz_r (.iconst 0) 1, hz_r (.istore_n 3) 1, hz_m (.iload_n 3) 1 [] [false, true, true, true], hz_r (.aload_n 1) 1, hz_r (.bipush 20) 2, hz_n, hz_r (.iaload) 1, hz_r (.if_icmp .ge 29) 3, hz_n, hz_n, hz_m (.iload_n 2) 1 [] [false, true, true, true], hz_r (.aload_n 1) 1, hz_r (.bipush 45) 2, hz_n],
  [hz_r (.iload_n 3) 1, hz_r (.iadd) 1, hz_r (.iaload) 1, hz_r (.ifCond .ge 7) 3, hz_n, hz_n, hz_m (.iconst 1) 1 [] [false, true, false, true], hz_r (.goto 4) 3, hz_n, hz_n, hz_m (.iconst 0) 1 [] [false, true, false, true], hz_m (.invokestatic 150) 3 [165, 1, 1] [false, true, false, true], hz_n, hz_n, hz_r (.iadd) 1, hz_r (.istore_n 2) 1],
  [hz_r (.iinc 3 1) 3, hz_n, hz_n, hz_r (.goto (-31)) 3, hz_n, hz_n, hz_m (.iload_n 2) 1 [] [false, false, true, false], hz_r (.ireturn) 1]]
/-- HeavierServesModel.thingOf([III)I -/
def hs_k190 : hs_K := [
  [hz_m (.aload_n 1) 1 [] [true, true, true, true, false], hz_r (.bipush 17) 2, hz_n, hz_r (.iaload) 1, hz_r (.istore 4) 2, hz_n, hz_r (.iload_n 3) 1, hz_r (.tableswitch 116 0 7 #[45, 47, 51, 58, 72, 89, 103, 109]) 45, hz_n, hz_n, hz_n, hz_n, hz_n, hz_n, hz_n, hz_n],
  [hz_n, hz_n, hz_n, hz_n, hz_n, hz_n, hz_n, hz_n, hz_n, hz_n, hz_n, hz_n, hz_n, hz_n, hz_n, hz_n],
  [hz_n, hz_n, hz_n, hz_n, hz_n, hz_n, hz_n, hz_n, hz_n, hz_n, hz_n, hz_n, hz_n, hz_n, hz_n, hz_n],
  [hz_n, hz_n, hz_n, hz_n, hz_m (.iload_n 2) 1 [] [false, false, true, false, false], hz_r (.ireturn) 1, hz_m (.aload_n 1) 1 [] [false, true, true, false, false], hz_r (.iload_n 2) 1, hz_r (.iaload) 1, hz_r (.ireturn) 1, hz_m (.aload_n 0) 1 [] [true, false, true, false, false], hz_m (.getfield 28) 3 [12, 4] [], hz_n, hz_n, hz_r (.iload_n 2) 1, hz_r (.iaload) 1],
  [hz_r (.ireturn) 1, hz_m (.iload 4) 2 [] [false, true, false, false, true], hz_n, hz_r (.ifCond .ge 7) 3, hz_n, hz_n, hz_m (.iconst 0) 1 [] [false, false, false, false, false], hz_r (.goto 7) 3, hz_n, hz_n, hz_m (.aload_n 1) 1 [] [false, true, false, false, true], hz_r (.iload 4) 2, hz_n, hz_r (.iaload) 1, hz_m (.ireturn) 1 [] [false, false, false, false, false], hz_m (.iload 4) 2 [] [true, false, false, false, true]],
  [hz_n, hz_r (.ifCond .ge 7) 3, hz_n, hz_n, hz_m (.iconst (-1)) 1 [] [false, false, false, false, false], hz_r (.goto 10) 3, hz_n, hz_n, hz_m (.aload_n 0) 1 [] [true, false, false, false, true], hz_m (.getfield 28) 3 [12, 4] [], hz_n, hz_n, hz_r (.iload 4) 2, hz_n, hz_r (.iaload) 1, hz_m (.ireturn) 1 [] [false, false, false, false, false]],
  [hz_m (.iload 4) 2 [] [false, true, false, false, true], hz_n, hz_r (.ifCond .ge 7) 3, hz_n, hz_n, hz_m (.iconst 0) 1 [] [false, false, false, false, false], hz_r (.goto 7) 3, hz_n, hz_n, hz_m (.aload_n 1) 1 [] [false, true, false, false, false], hz_r (.bipush 18) 2, hz_n, hz_r (.iaload) 1, hz_m (.ireturn) 1 [] [false, false, false, false, false], hz_m (.aload_n 0) 1 [] [true, true, false, false, false], hz_r (.aload_n 1) 1],
  [hz_m (.invokevirtual 235) 3 [189, 2, 1] [], hz_n, hz_n, hz_r (.ireturn) 1, hz_m (.aload_n 1) 1 [] [false, true, true, false, false], hz_r (.bipush 8) 2, hz_n, hz_r (.iload_n 2) 1, hz_r (.iadd) 1, hz_r (.iaload) 1, hz_r (.ireturn) 1, hz_m (.aload_n 1) 1 [] [false, true, false, false, false], hz_r (.bipush 19) 2, hz_n, hz_r (.iaload) 1, hz_r (.ireturn) 1]]
/-- HeavierServesModel.worked(III)I -/
def hs_k191 : hs_K := [
  [hz_r (.iload_n 0) 1, hz_r (.tableswitch 93 0 5 #[39, 53, 67, 81, 85, 89]) 39, hz_n, hz_n, hz_n, hz_n, hz_n, hz_n, hz_n, hz_n, hz_n, hz_n, hz_n, hz_n, hz_n, hz_n],
  [hz_n, hz_n, hz_n, hz_n, hz_n, hz_n, hz_n, hz_n, hz_n, hz_n, hz_n, hz_n, hz_n, hz_n, hz_n, hz_n],
  [hz_n, hz_n, hz_n, hz_n, hz_n, hz_n, hz_n, hz_n, hz_m (.iload_n 1) 1 [] [false, true, true], hz_r (.iload_n 2) 1, hz_r (.if_icmp .ge 7) 3, hz_n, hz_n, hz_m (.iconst 1) 1 [] [false, false, false], hz_r (.goto 4) 3, hz_n],
  [hz_n, hz_m (.iconst 0) 1 [] [false, false, false], hz_m (.invokestatic 150) 3 [165, 1, 1] [false, false, false], hz_n, hz_n, hz_r (.ireturn) 1, hz_m (.iload_n 1) 1 [] [false, true, true], hz_r (.iload_n 2) 1, hz_r (.if_icmp .le 7) 3, hz_n, hz_n, hz_m (.iconst 1) 1 [] [false, false, false], hz_r (.goto 4) 3, hz_n, hz_n, hz_m (.iconst 0) 1 [] [false, false, false]],
  [hz_m (.invokestatic 150) 3 [165, 1, 1] [false, false, false], hz_n, hz_n, hz_r (.ireturn) 1, hz_m (.iload_n 1) 1 [] [false, true, true], hz_r (.iload_n 2) 1, hz_r (.if_icmp .ne 7) 3, hz_n, hz_n, hz_m (.iconst 1) 1 [] [false, false, false], hz_r (.goto 4) 3, hz_n, hz_n, hz_m (.iconst 0) 1 [] [false, false, false], hz_m (.invokestatic 150) 3 [165, 1, 1] [false, false, false], hz_n],
  [hz_n, hz_r (.ireturn) 1, hz_m (.iload_n 1) 1 [] [false, true, true], hz_r (.iload_n 2) 1, hz_r (.iadd) 1, hz_r (.ireturn) 1, hz_m (.iload_n 1) 1 [] [false, true, true], hz_r (.iload_n 2) 1, hz_r (.isub) 1, hz_r (.ireturn) 1, hz_m (.iload_n 1) 1 [] [false, true, true], hz_r (.iload_n 2) 1, hz_r (.imul) 1, hz_r (.ireturn) 1, hz_m (.iload_n 2) 1 [] [false, true, true], hz_r (.ifCond .ne 7) 3],
  [hz_n, hz_n, hz_m (.iconst 0) 1 [] [false, false, false], hz_r (.goto 6) 3, hz_n, hz_n, hz_m (.iload_n 1) 1 [] [false, true, true], hz_r (.iload_n 2) 1, hz_r (.idiv) 1, hz_m (.ireturn) 1 [] [false, false, false]]]
/-- HeavierServesModel.willOf([II)I -/
def hs_k192 : hs_K := [
  [hz_m (.aload_n 0) 1 [] [true, true, true, false, false, false], hz_m (.getfield 232) 3 [12, 24] [], hz_n, hz_n, hz_r (.ifCond .ne 5) 3, hz_n, hz_n, hz_m (.iconst 1) 1 [] [false, false, false, false, false, false], hz_r (.ireturn) 1, hz_m (.iconst 0) 1 [] [true, true, true, false, false, false], hz_r (.istore_n 3) 1, hz_r (.iconst 0) 1, hz_r (.istore 4) 2, hz_n, hz_m (.iload 4) 2 [] [true, true, true, true, true, false], hz_n],
  [hz_r (.aload_n 0) 1, hz_m (.getfield 232) 3 [12, 24] [], hz_n, hz_n, hz_r (.if_icmp .ge 125) 3, hz_n, hz_n, hz_m (.aload_n 0) 1 [] [true, true, true, true, true, false], hz_m (.getfield 65) 3 [12, 22] [], hz_n, hz_n, hz_r (.iload 4) 2, hz_n, hz_r (.iaload) 1, hz_r (.istore 5) 2, hz_n],
  [hz_r (.iload 5) 2, hz_n, hz_r (.sipush 3000) 3, hz_n, hz_n, hz_r (.if_icmp .ne 23) 3, hz_n, hz_n, hz_m (.aload_n 0) 1 [] [true, true, true, true, true, false], hz_m (.getfield 71) 3 [12, 26] [], hz_n, hz_n, hz_r (.iload_n 3) 1, hz_r (.iconst 1) 1, hz_r (.isub) 1, hz_r (.aload_n 0) 1],
  [hz_m (.getfield 71) 3 [12, 26] [], hz_n, hz_n, hz_r (.iload_n 3) 1, hz_r (.iconst 1) 1, hz_r (.isub) 1, hz_r (.iaload) 1, hz_r (.ineg) 1, hz_r (.iastore) 1, hz_r (.goto 82) 3, hz_n, hz_n, hz_r (.iload 5) 2, hz_n, hz_r (.sipush 2000) 3, hz_n],
  [hz_n, hz_r (.if_icmp .lt 40) 3, hz_n, hz_n, hz_r (.iinc 3 (-1)) 3, hz_n, hz_n, hz_r (.aload_n 0) 1, hz_m (.getfield 71) 3 [12, 26] [], hz_n, hz_n, hz_r (.iload_n 3) 1, hz_r (.iconst 1) 1, hz_r (.isub) 1, hz_r (.iload 5) 2, hz_n],
  [hz_r (.sipush 2000) 3, hz_n, hz_n, hz_r (.isub) 1, hz_r (.aload_n 0) 1, hz_m (.getfield 71) 3 [12, 26] [], hz_n, hz_n, hz_r (.iload_n 3) 1, hz_r (.iconst 1) 1, hz_r (.isub) 1, hz_r (.iaload) 1, hz_r (.aload_n 0) 1, hz_m (.getfield 71) 3 [12, 26] [], hz_n, hz_n],
  [hz_r (.iload_n 3) 1, hz_r (.iaload) 1, hz_m (.invokestatic 239) 3 [191, 3, 1] [], hz_n, hz_n, hz_r (.iastore) 1, hz_r (.goto 37) 3, hz_n, hz_n, hz_r (.aload_n 0) 1, hz_m (.getfield 71) 3 [12, 26] [], hz_n, hz_n, hz_r (.iload_n 3) 1, hz_r (.iload 5) 2, hz_n],
  [hz_r (.sipush 1000) 3, hz_n, hz_n, hz_r (.if_icmp .lt 18) 3, hz_n, hz_n, hz_r (.aload_n 0) 1, hz_r (.aload_n 1) 1, hz_r (.iload_n 2) 1, hz_r (.iload 5) 2, hz_n, hz_r (.sipush 1000) 3, hz_n, hz_n, hz_r (.isub) 1, hz_m (.invokevirtual 243) 3 [190, 4, 1] []],
  [hz_n, hz_n, hz_r (.goto 5) 3, hz_n, hz_n, hz_r (.iload 5) 2, hz_n, hz_m (.iastore) 1 [] [true, true, true, true, true, false], hz_r (.iinc 3 1) 3, hz_n, hz_n, hz_m (.iinc 4 1) 3 [] [true, true, true, true, true, false], hz_n, hz_n, hz_r (.goto (-128)) 3, hz_n],
  [hz_n, hz_m (.aload_n 0) 1 [] [true, false, false, false, false, false], hz_m (.getfield 71) 3 [12, 26] [], hz_n, hz_n, hz_r (.iconst 0) 1, hz_r (.iaload) 1, hz_r (.ireturn) 1]]
/-- HeavierServesModel.willing([I)I -/
def hs_k193 : hs_K := [
  [hz_m (.iconst 0) 1 [] [true, true, false, false], hz_r (.istore_n 2) 1, hz_r (.iconst 0) 1, hz_r (.istore_n 3) 1, hz_r (.iload_n 3) 1, hz_r (.aload_n 0) 1, hz_m (.getfield 117) 3 [12, 3] [], hz_n, hz_n, hz_r (.if_icmp .ge 39) 3, hz_n, hz_n, hz_r (.iload_n 2) 1, hz_r (.aload_n 1) 1, hz_r (.bipush 16) 2, hz_n],
  [hz_r (.iaload) 1, hz_r (.iload_n 3) 1, hz_m (.invokestatic 128) 3 [164, 2, 1] [], hz_n, hz_n, hz_r (.ifCond .eq 18) 3, hz_n, hz_n, hz_m (.aload_n 0) 1 [] [true, true, false, true], hz_r (.aload_n 1) 1, hz_r (.iload_n 3) 1, hz_m (.invokevirtual 247) 3 [192, 3, 1] [], hz_n, hz_n, hz_r (.ifCond .eq 9) 3, hz_n],
  [hz_n, hz_m (.iconst 1) 1 [] [true, true, false, true], hz_r (.iload_n 3) 1, hz_r (.ishl) 1, hz_r (.goto 4) 3, hz_n, hz_n, hz_m (.iconst 0) 1 [] [true, true, false, true], hz_m (.ior) 1 [] [true, true, false, true], hz_r (.istore_n 2) 1, hz_r (.iinc 3 1) 3, hz_n, hz_n, hz_r (.goto (-41)) 3, hz_n, hz_n],
  [hz_m (.iload_n 2) 1 [] [false, false, true, false], hz_r (.ireturn) 1]]
/-- HeavierServesModel.shows(I)I -/
def hs_k194 : hs_K := [
  [hz_m (.iconst 0) 1 [] [true, true, false], hz_r (.iload_n 1) 1, hz_r (.aload_n 0) 1, hz_m (.getfield 251) 3 [12, 9] [], hz_n, hz_n, hz_r (.iadd) 1, hz_m (.invokestatic 254) 3 [2, 2, 1] [], hz_n, hz_n, hz_r (.istore_n 2) 1, hz_r (.iload_n 2) 1, hz_r (.iload_n 2) 1, hz_r (.aload_n 0) 1, hz_m (.getfield 41) 3 [12, 8] [], hz_n],
  [hz_n, hz_r (.irem) 1, hz_r (.isub) 1, hz_r (.ireturn) 1]]
/-- HeavierServesModel.of(II)I -/
def hs_k195 : hs_K := [
  [hz_r (.aload_n 0) 1, hz_r (.iconst 0) 1, hz_m (.putfield 3) 3 [12, 0] [], hz_n, hz_n, hz_r (.aload_n 0) 1, hz_r (.iload_n 1) 1, hz_m (.invokevirtual 124) 3 [169, 2, 1] [], hz_n, hz_n, hz_r (.ifCond .eq 15) 3, hz_n, hz_n, hz_r (.iload_n 2) 1, hz_r (.i2l) 1, hz_r (.lconst 0) 1],
  [hz_m (.ldc2_w 257) 3 [0, 7] [], hz_n, hz_n, hz_m (.invokestatic 120) 3 [163, 3, 1] [], hz_n, hz_n, hz_r (.ifCond .ne 8) 3, hz_n, hz_n, hz_m (.aload_n 0) 1 [] [true, false, false], hz_m (.invokevirtual 259) 3 [162, 1, 1] [], hz_n, hz_n, hz_r (.ireturn) 1, hz_r (.iload_n 2) 1, hz_r (.tableswitch 108 0 6 #[41, 48, 55, 62, 77, 87, 98]) 41],
  [hz_n, hz_n, hz_n, hz_n, hz_n, hz_n, hz_n, hz_n, hz_n, hz_n, hz_n, hz_n, hz_n, hz_n, hz_n, hz_n],
  [hz_n, hz_n, hz_n, hz_n, hz_n, hz_n, hz_n, hz_n, hz_n, hz_n, hz_n, hz_n, hz_n, hz_n, hz_n, hz_n],
  [hz_n, hz_n, hz_n, hz_n, hz_n, hz_n, hz_n, hz_n, hz_m (.aload_n 0) 1 [] [true, true, false], hz_m (.getfield 44) 3 [12, 10] [], hz_n, hz_n, hz_r (.iload_n 1) 1, hz_r (.iaload) 1, hz_r (.ireturn) 1, hz_m (.aload_n 0) 1 [] [true, true, false]],
  [hz_m (.getfield 28) 3 [12, 4] [], hz_n, hz_n, hz_r (.iload_n 1) 1, hz_r (.iaload) 1, hz_r (.ireturn) 1, hz_m (.aload_n 0) 1 [] [true, true, false], hz_m (.getfield 32) 3 [12, 5] [], hz_n, hz_n, hz_r (.iload_n 1) 1, hz_r (.iaload) 1, hz_r (.ireturn) 1, hz_m (.aload_n 0) 1 [] [true, true, false], hz_m (.getfield 44) 3 [12, 10] [], hz_n],
  [hz_n, hz_r (.bipush 16) 2, hz_n, hz_r (.iaload) 1, hz_r (.iload_n 1) 1, hz_m (.invokestatic 128) 3 [164, 2, 1] [], hz_n, hz_n, hz_m (.invokestatic 150) 3 [165, 1, 1] [], hz_n, hz_n, hz_r (.ireturn) 1, hz_m (.aload_n 0) 1 [] [true, true, false], hz_m (.getfield 44) 3 [12, 10] [], hz_n, hz_n],
  [hz_r (.bipush 8) 2, hz_n, hz_r (.iload_n 1) 1, hz_r (.iadd) 1, hz_r (.iaload) 1, hz_r (.ireturn) 1, hz_m (.aload_n 0) 1 [] [true, true, false], hz_r (.aload_n 0) 1, hz_m (.getfield 44) 3 [12, 10] [], hz_n, hz_n, hz_r (.iload_n 1) 1, hz_r (.iaload) 1, hz_m (.invokevirtual 262) 3 [194, 2, 1] [], hz_n, hz_n],
  [hz_r (.ireturn) 1, hz_m (.aload_n 0) 1 [] [true, true, false], hz_r (.aload_n 0) 1, hz_m (.getfield 44) 3 [12, 10] [], hz_n, hz_n, hz_r (.iload_n 1) 1, hz_m (.invokevirtual 247) 3 [192, 3, 1] [], hz_n, hz_n, hz_r (.ireturn) 1, hz_m (.aload_n 0) 1 [] [true, true, false], hz_m (.getfield 38) 3 [12, 7] [], hz_n, hz_n, hz_r (.iload_n 1) 1],
  [hz_r (.iaload) 1, hz_r (.ireturn) 1]]
/-- HeavierServesModel.change(II)I -/
def hs_k196 : hs_K := [
  [hz_r (.aload_n 0) 1, hz_r (.iconst 0) 1, hz_m (.putfield 3) 3 [12, 0] [], hz_n, hz_n, hz_r (.aload_n 0) 1, hz_r (.iload_n 1) 1, hz_m (.invokevirtual 124) 3 [169, 2, 1] [], hz_n, hz_n, hz_r (.ifCond .eq 21) 3, hz_n, hz_n, hz_r (.iload_n 2) 1, hz_r (.i2l) 1, hz_r (.lconst 0) 1],
  [hz_r (.aload_n 0) 1, hz_m (.getfield 38) 3 [12, 7] [], hz_n, hz_n, hz_r (.iload_n 1) 1, hz_r (.iaload) 1, hz_r (.iconst 1) 1, hz_r (.isub) 1, hz_r (.i2l) 1, hz_m (.invokestatic 120) 3 [163, 3, 1] [], hz_n, hz_n, hz_r (.ifCond .ne 8) 3, hz_n, hz_n, hz_m (.aload_n 0) 1 [] [true, false, false]],
  [hz_m (.invokevirtual 259) 3 [162, 1, 1] [], hz_n, hz_n, hz_r (.ireturn) 1, hz_r (.aload_n 0) 1, hz_m (.getfield 35) 3 [12, 6] [], hz_n, hz_n, hz_r (.bipush 6) 2, hz_n, hz_r (.iload_n 1) 1, hz_r (.imul) 1, hz_r (.iload_n 2) 1, hz_r (.iadd) 1, hz_r (.iaload) 1, hz_r (.ireturn) 1]]
/-- HeavierServesModel.set(III)I -/
def hs_k197 : hs_K := [
  [hz_m (.aload_n 0) 1 [] [true, true, true, true, false, false, false], hz_r (.iconst 0) 1, hz_m (.putfield 3) 3 [12, 0] [], hz_n, hz_n, hz_r (.iload_n 1) 1, hz_r (.ifCond .ne 15) 3, hz_n, hz_n, hz_m (.iload_n 3) 1 [] [true, true, true, true, false, false, false], hz_r (.i2l) 1, hz_r (.lconst 1) 1, hz_m (.ldc2_w 265) 3 [0, 999] [], hz_n, hz_n, hz_m (.invokestatic 120) 3 [163, 3, 1] []],
  [hz_n, hz_n, hz_r (.goto 42) 3, hz_n, hz_n, hz_m (.iload_n 1) 1 [] [true, true, true, true, false, false, false], hz_r (.iconst 1) 1, hz_r (.if_icmp .ne 15) 3, hz_n, hz_n, hz_m (.iload_n 3) 1 [] [true, true, true, true, false, false, false], hz_r (.i2l) 1, hz_r (.lconst 0) 1, hz_m (.ldc2_w 267) 3 [0, 3] [], hz_n, hz_n],
  [hz_m (.invokestatic 120) 3 [163, 3, 1] [], hz_n, hz_n, hz_r (.goto 25) 3, hz_n, hz_n, hz_m (.iload_n 1) 1 [] [true, true, true, true, false, false, false], hz_r (.iconst 2) 1, hz_r (.if_icmp .ne 19) 3, hz_n, hz_n, hz_m (.iload_n 3) 1 [] [true, true, true, true, false, false, false], hz_r (.i2l) 1, hz_r (.lconst 0) 1, hz_m (.ldc2_w 269) 3 [0, 9] [], hz_n],
  [hz_n, hz_m (.invokestatic 120) 3 [163, 3, 1] [], hz_n, hz_n, hz_r (.ifCond .eq 7) 3, hz_n, hz_n, hz_m (.iconst 1) 1 [] [true, true, true, true, false, false, false], hz_r (.goto 4) 3, hz_n, hz_n, hz_m (.iconst 0) 1 [] [true, true, true, true, false, false, false], hz_m (.istore 4) 2 [] [true, true, true, true, false, false, false], hz_n, hz_r (.aload_n 0) 1, hz_r (.iload_n 2) 1],
  [hz_m (.invokevirtual 124) 3 [169, 2, 1] [], hz_n, hz_n, hz_r (.ifCond .eq 8) 3, hz_n, hz_n, hz_m (.iload 4) 2 [] [true, true, true, true, true, false, false], hz_n, hz_r (.ifCond .ne 5) 3, hz_n, hz_n, hz_m (.iconst (-1)) 1 [] [false, false, false, false, false, false, false], hz_r (.ireturn) 1, hz_m (.iload_n 1) 1 [] [true, true, true, true, false, false, false], hz_r (.ifCond .ne 10) 3, hz_n],
  [hz_n, hz_m (.aload_n 0) 1 [] [true, false, true, true, false, false, false], hz_m (.getfield 44) 3 [12, 10] [], hz_n, hz_n, hz_r (.goto 19) 3, hz_n, hz_n, hz_m (.iload_n 1) 1 [] [true, true, true, true, false, false, false], hz_r (.iconst 1) 1, hz_r (.if_icmp .ne 10) 3, hz_n, hz_n, hz_m (.aload_n 0) 1 [] [true, false, true, true, false, false, false], hz_m (.getfield 28) 3 [12, 4] [], hz_n],
  [hz_n, hz_r (.goto 7) 3, hz_n, hz_n, hz_m (.aload_n 0) 1 [] [true, false, true, true, false, false, false], hz_m (.getfield 32) 3 [12, 5] [], hz_n, hz_n, hz_m (.astore 5) 2 [] [false, false, true, true, false, false, false], hz_n, hz_r (.aload 5) 2, hz_n, hz_r (.iload_n 2) 1, hz_r (.iaload) 1, hz_r (.istore 6) 2, hz_n],
  [hz_r (.aload 5) 2, hz_n, hz_r (.iload_n 2) 1, hz_r (.iload_n 3) 1, hz_r (.iastore) 1, hz_r (.iload 6) 2, hz_n, hz_r (.ireturn) 1]]
end
section
/-! ===== the code rows of the methods, 4 ===== -/
/-- HeavierServesModel.scale(II)Z -/
def hs_k198 : hs_K := [
  [hz_r (.aload_n 0) 1, hz_r (.iconst 0) 1, hz_m (.putfield 3) 3 [12, 0] [], hz_n, hz_n, hz_r (.iload_n 1) 1, hz_r (.ifCond .ne 22) 3, hz_n, hz_n, hz_r (.iload_n 2) 1, hz_r (.i2l) 1, hz_r (.lconst 1) 1, hz_m (.ldc2_w 269) 3 [0, 9] [], hz_n, hz_n, hz_m (.invokestatic 120) 3 [163, 3, 1] []],
  [hz_n, hz_n, hz_r (.ifCond .eq 10) 3, hz_n, hz_n, hz_m (.aload_n 0) 1 [] [true, false, true], hz_r (.iload_n 2) 1, hz_m (.putfield 41) 3 [12, 8] [], hz_n, hz_n, hz_r (.iconst 1) 1, hz_r (.ireturn) 1, hz_r (.iload_n 1) 1, hz_r (.iconst 1) 1, hz_r (.if_icmp .ne 24) 3, hz_n],
  [hz_n, hz_m (.iload_n 2) 1 [] [true, false, true], hz_r (.i2l) 1, hz_m (.ldc2_w 271) 3 [1, 9] [], hz_n, hz_n, hz_m (.ldc2_w 269) 3 [0, 9] [], hz_n, hz_n, hz_m (.invokestatic 120) 3 [163, 3, 1] [], hz_n, hz_n, hz_r (.ifCond .eq 10) 3, hz_n, hz_n, hz_m (.aload_n 0) 1 [] [true, false, true]],
  [hz_r (.iload_n 2) 1, hz_m (.putfield 251) 3 [12, 9] [], hz_n, hz_n, hz_r (.iconst 1) 1, hz_r (.ireturn) 1, hz_m (.iconst 0) 1 [] [false, false, false], hz_r (.ireturn) 1]]
/-- HeavierServesModel.sheet(IIII)I -/
def hs_k199 : hs_K := [
  [hz_m (.aload_n 0) 1 [] [true, true, true, true, true, false, false, false, false], hz_r (.iconst 0) 1, hz_m (.putfield 3) 3 [12, 0] [], hz_n, hz_n, hz_r (.iload_n 1) 1, hz_r (.i2l) 1, hz_r (.lconst 0) 1, hz_m (.ldc2_w 267) 3 [0, 3] [], hz_n, hz_n, hz_m (.invokestatic 120) 3 [163, 3, 1] [], hz_n, hz_n, hz_r (.ifCond .eq 9) 3, hz_n],
  [hz_n, hz_m (.iload_n 2) 1 [] [true, true, true, true, true, false, false, false, false], hz_r (.bipush 8) 2, hz_n, hz_r (.if_icmp .le 5) 3, hz_n, hz_n, hz_m (.iconst (-1)) 1 [] [false, false, false, false, false, false, false, false, false], hz_r (.ireturn) 1, hz_m (.iload_n 1) 1 [] [true, true, true, true, true, false, false, false, false], hz_r (.iconst 3) 1, hz_r (.if_icmp .eq 10) 3, hz_n, hz_n, hz_m (.iload_n 2) 1 [] [true, true, true, true, true, false, false, false, false], hz_r (.ifCond .ge 6) 3],
  [hz_n, hz_n, hz_m (.bipush (-2)) 2 [] [false, false, false, false, false, false, false, false, false], hz_n, hz_r (.ireturn) 1, hz_m (.iconst 0) 1 [] [true, true, true, true, true, false, false, false, false], hz_r (.istore 5) 2, hz_n, hz_r (.iload_n 3) 1, hz_r (.istore 6) 2, hz_n, hz_r (.iconst 0) 1, hz_r (.istore 7) 2, hz_n, hz_m (.iload 7) 2 [] [true, true, true, false, true, true, true, true, false], hz_n],
  [hz_r (.aload_n 0) 1, hz_m (.getfield 117) 3 [12, 3] [], hz_n, hz_n, hz_r (.if_icmp .ge 87) 3, hz_n, hz_n, hz_m (.iload_n 1) 1 [] [true, true, true, false, true, true, true, true, false], hz_r (.ifCond .ne 9) 3, hz_n, hz_n, hz_m (.iload 6) 2 [] [true, true, true, false, true, true, true, true, false], hz_n, hz_r (.i2b) 1, hz_r (.goto 16) 3, hz_n],
  [hz_n, hz_m (.iload_n 1) 1 [] [true, true, true, false, true, true, true, true, false], hz_r (.iconst 1) 1, hz_r (.if_icmp .ne 9) 3, hz_n, hz_n, hz_m (.iload 6) 2 [] [true, true, true, false, true, true, true, true, false], hz_n, hz_r (.i2s) 1, hz_r (.goto 5) 3, hz_n, hz_n, hz_m (.iload 6) 2 [] [true, true, true, false, true, true, true, true, false], hz_n, hz_m (.istore 8) 2 [] [true, true, true, false, true, true, true, true, false], hz_n],
  [hz_r (.aload_n 0) 1, hz_m (.getfield 44) 3 [12, 10] [], hz_n, hz_n, hz_r (.iload 7) 2, hz_n, hz_r (.iload_n 1) 1, hz_r (.iconst 3) 1, hz_r (.if_icmp .eq 9) 3, hz_n, hz_n, hz_m (.iload 7) 2 [] [true, true, true, false, true, true, true, true, true], hz_n, hz_r (.iload_n 2) 1, hz_r (.if_icmp .lt 7) 3, hz_n],
  [hz_n, hz_m (.iconst 1) 1 [] [true, true, true, false, true, true, true, true, false], hz_r (.goto 15) 3, hz_n, hz_n, hz_m (.iconst 1) 1 [] [true, true, true, false, true, true, true, true, true], hz_r (.sipush 999) 3, hz_n, hz_n, hz_r (.iload 8) 2, hz_n, hz_m (.invokestatic 141) 3 [3, 2, 1] [], hz_n, hz_n, hz_m (.invokestatic 254) 3 [2, 2, 1] [], hz_n],
  [hz_n, hz_m (.iastore) 1 [] [true, true, true, false, true, true, true, true, false], hz_r (.iload 5) 2, hz_n, hz_r (.aload_n 0) 1, hz_m (.getfield 44) 3 [12, 10] [], hz_n, hz_n, hz_r (.iload 7) 2, hz_n, hz_r (.iaload) 1, hz_r (.iadd) 1, hz_r (.istore 5) 2, hz_n, hz_r (.iload 6) 2, hz_n],
  [hz_r (.iload 4) 2, hz_n, hz_r (.iadd) 1, hz_r (.istore 6) 2, hz_n, hz_r (.iinc 7 1) 3, hz_n, hz_n, hz_r (.goto (-90)) 3, hz_n, hz_n, hz_m (.iload_n 1) 1 [] [false, true, false, false, false, true, false, false, false], hz_r (.iconst 3) 1, hz_r (.if_icmp .ne 8) 3, hz_n, hz_n],
  [hz_m (.bipush (-3)) 2 [] [false, false, false, false, false, false, false, false, false], hz_n, hz_r (.goto 5) 3, hz_n, hz_n, hz_m (.iload 5) 2 [] [false, false, false, false, false, true, false, false, false], hz_n, hz_m (.ireturn) 1 [] [false, false, false, false, false, false, false, false, false]]]
/-- HeavierServesModel.goes([II)V -/
def hs_k200 : hs_K := [
  [hz_m (.iconst (-1)) 1 [] [true, true, true, false, false, false], hz_r (.istore_n 3) 1, hz_r (.iconst 0) 1, hz_r (.istore 4) 2, hz_n, hz_m (.iload 4) 2 [] [true, true, true, true, true, false], hz_n, hz_r (.aload_n 0) 1, hz_m (.getfield 117) 3 [12, 3] [], hz_n, hz_n, hz_r (.if_icmp .ge 80) 3, hz_n, hz_n, hz_m (.iload_n 2) 1 [] [true, true, true, true, true, false], hz_r (.iload 4) 2],
  [hz_n, hz_m (.invokestatic 128) 3 [164, 2, 1] [], hz_n, hz_n, hz_r (.ifCond .eq 28) 3, hz_n, hz_n, hz_m (.aload_n 1) 1 [] [true, true, true, true, true, false], hz_r (.bipush 16) 2, hz_n, hz_r (.iaload) 1, hz_r (.iload 4) 2, hz_n, hz_m (.invokestatic 128) 3 [164, 2, 1] [], hz_n, hz_n],
  [hz_r (.ifCond .eq 16) 3, hz_n, hz_n, hz_m (.iload 4) 2 [] [true, true, true, true, true, false], hz_n, hz_r (.aload_n 1) 1, hz_r (.bipush 17) 2, hz_n, hz_r (.iaload) 1, hz_r (.if_icmp .eq 7) 3, hz_n, hz_n, hz_m (.iconst 1) 1 [] [true, true, true, true, true, false], hz_r (.goto 4) 3, hz_n, hz_n],
  [hz_m (.iconst 0) 1 [] [true, true, true, true, true, false], hz_m (.istore 5) 2 [] [true, true, true, true, true, false], hz_n, hz_r (.iload 5) 2, hz_n, hz_r (.ifCond .eq 30) 3, hz_n, hz_n, hz_m (.iload_n 3) 1 [] [true, true, true, true, true, false], hz_r (.ifCond .lt 21) 3, hz_n, hz_n, hz_m (.aload_n 0) 1 [] [true, true, true, true, true, false], hz_r (.aload_n 1) 1, hz_r (.iload 4) 2, hz_n],
  [hz_r (.iaload) 1, hz_m (.invokevirtual 262) 3 [194, 2, 1] [], hz_n, hz_n, hz_r (.aload_n 0) 1, hz_r (.aload_n 1) 1, hz_r (.iload_n 3) 1, hz_r (.iaload) 1, hz_m (.invokevirtual 262) 3 [194, 2, 1] [], hz_n, hz_n, hz_r (.if_icmp .le 8) 3, hz_n, hz_n, hz_m (.iload 4) 2 [] [true, true, true, false, true, false], hz_n],
  [hz_r (.goto 4) 3, hz_n, hz_n, hz_m (.iload_n 3) 1 [] [true, true, true, true, true, false], hz_m (.istore_n 3) 1 [] [true, true, true, false, true, false], hz_r (.iinc 4 1) 3, hz_n, hz_n, hz_r (.goto (-83)) 3, hz_n, hz_n, hz_m (.iload_n 3) 1 [] [true, true, false, true, false, false], hz_r (.ifCond .lt 54) 3, hz_n, hz_n, hz_m (.aload_n 1) 1 [] [true, true, false, true, false, false]],
  [hz_r (.bipush 17) 2, hz_n, hz_r (.iaload) 1, hz_r (.ifCond .lt 23) 3, hz_n, hz_n, hz_m (.aload_n 0) 1 [] [true, true, false, true, false, false], hz_r (.aload_n 1) 1, hz_r (.iload_n 3) 1, hz_r (.iaload) 1, hz_m (.invokevirtual 262) 3 [194, 2, 1] [], hz_n, hz_n, hz_r (.aload_n 0) 1, hz_r (.aload_n 1) 1, hz_r (.aload_n 1) 1],
  [hz_r (.bipush 17) 2, hz_n, hz_r (.iaload) 1, hz_r (.iaload) 1, hz_m (.invokevirtual 262) 3 [194, 2, 1] [], hz_n, hz_n, hz_r (.if_icmp .le 27) 3, hz_n, hz_n, hz_m (.aload_n 0) 1 [] [true, true, false, true, false, false], hz_r (.dup) 1, hz_m (.getfield 273) 3 [12, 27] [], hz_n, hz_n, hz_r (.aload_n 0) 1],
  [hz_r (.aload_n 1) 1, hz_m (.invokevirtual 276) 3 [201, 2, 1] [], hz_n, hz_n, hz_r (.iadd) 1, hz_m (.putfield 273) 3 [12, 27] [], hz_n, hz_n, hz_r (.aload_n 1) 1, hz_r (.bipush 17) 2, hz_n, hz_r (.iload_n 3) 1, hz_r (.iastore) 1, hz_r (.aload_n 1) 1, hz_r (.bipush 18) 2, hz_n],
  [hz_r (.iconst 0) 1, hz_r (.iastore) 1, hz_m (.aload_n 1) 1 [] [true, true, false, false, false, false], hz_r (.bipush 17) 2, hz_n, hz_r (.iaload) 1, hz_r (.ifCond .lt 24) 3, hz_n, hz_n, hz_m (.aload_n 1) 1 [] [true, true, false, false, false, false], hz_r (.bipush 8) 2, hz_n, hz_r (.aload_n 1) 1, hz_r (.bipush 17) 2, hz_n, hz_r (.iaload) 1],
  [hz_r (.iadd) 1, hz_r (.dup2) 1, hz_r (.iaload) 1, hz_r (.iconst 1) 1, hz_r (.iadd) 1, hz_r (.iastore) 1, hz_r (.aload_n 1) 1, hz_r (.bipush 18) 2, hz_n, hz_r (.dup2) 1, hz_r (.iaload) 1, hz_r (.iconst 1) 1, hz_r (.iadd) 1, hz_r (.iastore) 1, hz_m (.aload_n 1) 1 [] [true, true, false, false, false, false], hz_r (.bipush 57) 2],
  [hz_n, hz_r (.aload_n 1) 1, hz_r (.bipush 19) 2, hz_n, hz_r (.iaload) 1, hz_r (.bipush 60) 2, hz_n, hz_r (.irem) 1, hz_r (.iadd) 1, hz_r (.aload_n 1) 1, hz_r (.bipush 17) 2, hz_n, hz_r (.iaload) 1, hz_r (.iastore) 1, hz_r (.iconst 0) 1, hz_r (.istore 4) 2],
  [hz_n, hz_m (.iload 4) 2 [] [true, true, false, false, true, false], hz_n, hz_r (.aload_n 0) 1, hz_m (.getfield 117) 3 [12, 3] [], hz_n, hz_n, hz_r (.if_icmp .ge 73) 3, hz_n, hz_n, hz_m (.aload_n 1) 1 [] [true, true, false, false, true, false], hz_r (.bipush 16) 2, hz_n, hz_r (.iaload) 1, hz_r (.iload 4) 2, hz_n],
  [hz_m (.invokestatic 128) 3 [164, 2, 1] [], hz_n, hz_n, hz_r (.ifCond .eq 55) 3, hz_n, hz_n, hz_m (.aload_n 0) 1 [] [true, true, false, false, true, false], hz_m (.getfield 38) 3 [12, 7] [], hz_n, hz_n, hz_r (.iload 4) 2, hz_n, hz_r (.iaload) 1, hz_r (.ifCond .le 45) 3, hz_n, hz_n],
  [hz_m (.aload_n 1) 1 [] [true, true, false, false, true, false], hz_r (.iload 4) 2, hz_n, hz_r (.iconst 1) 1, hz_r (.sipush 999) 3, hz_n, hz_n, hz_r (.aload_n 1) 1, hz_r (.iload 4) 2, hz_n, hz_r (.iaload) 1, hz_r (.aload_n 0) 1, hz_m (.getfield 35) 3 [12, 6] [], hz_n, hz_n, hz_r (.bipush 6) 2],
  [hz_n, hz_r (.iload 4) 2, hz_n, hz_r (.imul) 1, hz_r (.aload_n 1) 1, hz_r (.bipush 19) 2, hz_n, hz_r (.iaload) 1, hz_r (.aload_n 0) 1, hz_m (.getfield 38) 3 [12, 7] [], hz_n, hz_n, hz_r (.iload 4) 2, hz_n, hz_r (.iaload) 1, hz_r (.irem) 1],
  [hz_r (.iadd) 1, hz_r (.iaload) 1, hz_r (.iadd) 1, hz_m (.invokestatic 141) 3 [3, 2, 1] [], hz_n, hz_n, hz_m (.invokestatic 254) 3 [2, 2, 1] [], hz_n, hz_n, hz_r (.iastore) 1, hz_m (.iinc 4 1) 3 [] [true, true, false, false, true, false], hz_n, hz_n, hz_r (.goto (-76)) 3, hz_n, hz_n],
  [hz_m (.aload_n 1) 1 [] [false, true, false, false, false, false], hz_r (.bipush 19) 2, hz_n, hz_r (.dup2) 1, hz_r (.iaload) 1, hz_r (.iconst 1) 1, hz_r (.iadd) 1, hz_r (.iastore) 1, hz_r (.return_) 1]]
/-- HeavierServesModel.falls([I)I -/
def hs_k201 : hs_K := [
  [hz_m (.iconst 0) 1 [] [false, true, false, false], hz_r (.istore_n 2) 1, hz_r (.iconst 0) 1, hz_r (.istore_n 3) 1, hz_m (.iload_n 3) 1 [] [false, true, true, true], hz_r (.aload_n 1) 1, hz_r (.bipush 20) 2, hz_n, hz_r (.iaload) 1, hz_r (.if_icmp .ge 51) 3, hz_n, hz_n, hz_m (.aload_n 1) 1 [] [false, true, true, true], hz_r (.bipush 17) 2, hz_n, hz_r (.iaload) 1],
  [hz_r (.ifCond .lt 38) 3, hz_n, hz_n, hz_m (.aload_n 1) 1 [] [false, true, true, true], hz_r (.bipush 21) 2, hz_n, hz_r (.iload_n 3) 1, hz_r (.iadd) 1, hz_r (.iaload) 1, hz_r (.aload_n 1) 1, hz_r (.bipush 17) 2, hz_n, hz_r (.iaload) 1, hz_r (.if_icmp .ne 25) 3, hz_n, hz_n],
  [hz_m (.aload_n 1) 1 [] [false, true, true, true], hz_r (.bipush 45) 2, hz_n, hz_r (.iload_n 3) 1, hz_r (.iadd) 1, hz_r (.iaload) 1, hz_r (.ifCond .ge 16) 3, hz_n, hz_n, hz_m (.aload_n 1) 1 [] [false, true, true, true], hz_r (.bipush 45) 2, hz_n, hz_r (.iload_n 3) 1, hz_r (.iadd) 1, hz_r (.aload_n 1) 1, hz_r (.bipush 19) 2],
  [hz_n, hz_r (.iaload) 1, hz_r (.iastore) 1, hz_r (.iinc 2 1) 3, hz_n, hz_n, hz_m (.iinc 3 1) 3 [] [false, true, true, true], hz_n, hz_n, hz_r (.goto (-53)) 3, hz_n, hz_n, hz_m (.iload_n 2) 1 [] [false, false, true, false], hz_r (.ireturn) 1]]
/-- HeavierServesModel.puts([I[I)V -/
def hs_k202 : hs_K := [
  [hz_m (.iconst 0) 1 [] [true, true, false], hz_r (.istore_n 2) 1, hz_r (.iload_n 2) 1, hz_r (.bipush 117) 2, hz_n, hz_r (.if_icmp .ge 15) 3, hz_n, hz_n, hz_r (.aload_n 1) 1, hz_r (.iload_n 2) 1, hz_r (.aload_n 0) 1, hz_r (.iload_n 2) 1, hz_r (.iaload) 1, hz_r (.iastore) 1, hz_r (.iinc 2 1) 3, hz_n],
  [hz_n, hz_r (.goto (-15)) 3, hz_n, hz_n, hz_m (.return_) 1 [] [false, false, false]]]
/-- HeavierServesModel.putsBy()V -/
def hs_k203 : hs_K := [
  [hz_m (.aload_n 0) 1 [] [true, false], hz_m (.getfield 207) 3 [12, 28] [], hz_n, hz_n, hz_r (.bipush 20) 2, hz_n, hz_r (.if_icmp .ne 43) 3, hz_n, hz_n, hz_m (.iconst 0) 1 [] [true, false], hz_r (.istore_n 1) 1, hz_r (.iload_n 1) 1, hz_r (.sipush 2223) 3, hz_n, hz_n, hz_r (.if_icmp .ge 24) 3],
  [hz_n, hz_n, hz_r (.aload_n 0) 1, hz_m (.getfield 74) 3 [12, 29] [], hz_n, hz_n, hz_r (.iload_n 1) 1, hz_r (.aload_n 0) 1, hz_m (.getfield 74) 3 [12, 29] [], hz_n, hz_n, hz_r (.iload_n 1) 1, hz_r (.bipush 117) 2, hz_n, hz_r (.iadd) 1, hz_r (.iaload) 1],
  [hz_r (.iastore) 1, hz_r (.iinc 1 1) 3, hz_n, hz_n, hz_r (.goto (-25)) 3, hz_n, hz_n, hz_m (.aload_n 0) 1 [] [true, false], hz_r (.dup) 1, hz_m (.getfield 207) 3 [12, 28] [], hz_n, hz_n, hz_r (.iconst 1) 1, hz_r (.isub) 1, hz_m (.putfield 207) 3 [12, 28] [], hz_n],
  [hz_n, hz_m (.iconst 0) 1 [] [true, false], hz_r (.istore_n 1) 1, hz_r (.iload_n 1) 1, hz_r (.bipush 117) 2, hz_n, hz_r (.if_icmp .ge 29) 3, hz_n, hz_n, hz_r (.aload_n 0) 1, hz_m (.getfield 74) 3 [12, 29] [], hz_n, hz_n, hz_r (.bipush 117) 2, hz_n, hz_r (.aload_n 0) 1],
  [hz_m (.getfield 207) 3 [12, 28] [], hz_n, hz_n, hz_r (.imul) 1, hz_r (.iload_n 1) 1, hz_r (.iadd) 1, hz_r (.aload_n 0) 1, hz_m (.getfield 44) 3 [12, 10] [], hz_n, hz_n, hz_r (.iload_n 1) 1, hz_r (.iaload) 1, hz_r (.iastore) 1, hz_r (.iinc 1 1) 3, hz_n, hz_n],
  [hz_r (.goto (-29)) 3, hz_n, hz_n, hz_m (.aload_n 0) 1 [] [true, false], hz_r (.dup) 1, hz_m (.getfield 207) 3 [12, 28] [], hz_n, hz_n, hz_r (.iconst 1) 1, hz_r (.iadd) 1, hz_m (.putfield 207) 3 [12, 28] [], hz_n, hz_n, hz_r (.return_) 1]]
/-- HeavierServesModel.undo()I -/
def hs_k204 : hs_K := [
  [hz_m (.aload_n 0) 1 [] [true, false], hz_r (.iconst 0) 1, hz_m (.putfield 3) 3 [12, 0] [], hz_n, hz_n, hz_r (.aload_n 0) 1, hz_m (.getfield 207) 3 [12, 28] [], hz_n, hz_n, hz_r (.ifCond .ne 5) 3, hz_n, hz_n, hz_m (.iconst (-1)) 1 [] [false, false], hz_r (.ireturn) 1, hz_m (.aload_n 0) 1 [] [true, false], hz_r (.dup) 1],
  [hz_m (.getfield 207) 3 [12, 28] [], hz_n, hz_n, hz_r (.iconst 1) 1, hz_r (.isub) 1, hz_m (.putfield 207) 3 [12, 28] [], hz_n, hz_n, hz_r (.iconst 0) 1, hz_r (.istore_n 1) 1, hz_r (.iload_n 1) 1, hz_r (.bipush 117) 2, hz_n, hz_r (.if_icmp .ge 29) 3, hz_n, hz_n],
  [hz_r (.aload_n 0) 1, hz_m (.getfield 44) 3 [12, 10] [], hz_n, hz_n, hz_r (.iload_n 1) 1, hz_r (.aload_n 0) 1, hz_m (.getfield 74) 3 [12, 29] [], hz_n, hz_n, hz_r (.bipush 117) 2, hz_n, hz_r (.aload_n 0) 1, hz_m (.getfield 207) 3 [12, 28] [], hz_n, hz_n, hz_r (.imul) 1],
  [hz_r (.iload_n 1) 1, hz_r (.iadd) 1, hz_r (.iaload) 1, hz_r (.iastore) 1, hz_r (.iinc 1 1) 3, hz_n, hz_n, hz_r (.goto (-29)) 3, hz_n, hz_n, hz_m (.aload_n 0) 1 [] [true, false], hz_m (.getfield 207) 3 [12, 28] [], hz_n, hz_n, hz_r (.ireturn) 1]]
/-- HeavierServesModel.stand(I)I -/
def hs_k205 : hs_K := [
  [hz_m (.aload_n 0) 1 [] [true, true, false], hz_r (.iconst 0) 1, hz_m (.putfield 3) 3 [12, 0] [], hz_n, hz_n, hz_r (.iload_n 1) 1, hz_r (.i2l) 1, hz_r (.lconst 0) 1, hz_r (.iconst 1) 1, hz_r (.aload_n 0) 1, hz_m (.getfield 117) 3 [12, 3] [], hz_n, hz_n, hz_r (.ishl) 1, hz_r (.iconst 1) 1, hz_r (.isub) 1],
  [hz_r (.i2l) 1, hz_m (.invokestatic 120) 3 [163, 3, 1] [], hz_n, hz_n, hz_r (.ifCond .ne 6) 3, hz_n, hz_n, hz_m (.bipush (-2)) 2 [] [false, false, false], hz_n, hz_r (.ireturn) 1, hz_m (.aload_n 0) 1 [] [true, true, false], hz_m (.invokevirtual 279) 3 [203, 1, 0] [], hz_n, hz_n, hz_r (.aload_n 0) 1, hz_m (.getfield 44) 3 [12, 10] []],
  [hz_n, hz_n, hz_r (.bipush 17) 2, hz_n, hz_r (.iaload) 1, hz_r (.istore_n 2) 1, hz_r (.aload_n 0) 1, hz_r (.iconst 0) 1, hz_m (.putfield 273) 3 [12, 27] [], hz_n, hz_n, hz_r (.aload_n 0) 1, hz_r (.aload_n 0) 1, hz_m (.getfield 44) 3 [12, 10] [], hz_n, hz_n],
  [hz_r (.iload_n 1) 1, hz_m (.invokevirtual 282) 3 [200, 3, 0] [], hz_n, hz_n, hz_r (.aload_n 0) 1, hz_r (.iconst 0) 1, hz_m (.putfield 15) 3 [12, 1] [], hz_n, hz_n, hz_r (.aload_n 0) 1, hz_r (.aload_n 0) 1, hz_m (.getfield 44) 3 [12, 10] [], hz_n, hz_n, hz_r (.bipush 17) 2, hz_n],
  [hz_r (.iaload) 1, hz_r (.iload_n 2) 1, hz_r (.if_icmp .eq 7) 3, hz_n, hz_n, hz_m (.iconst 1) 1 [] [true, false, false], hz_r (.goto 4) 3, hz_n, hz_n, hz_m (.iconst 0) 1 [] [true, false, false], hz_m (.invokestatic 150) 3 [165, 1, 1] [true, false, false], hz_n, hz_n, hz_r (.i2l) 1, hz_m (.invokevirtual 18) 3 [167, 2, 0] [], hz_n],
  [hz_n, hz_r (.aload_n 0) 1, hz_r (.aload_n 0) 1, hz_m (.getfield 273) 3 [12, 27] [], hz_n, hz_n, hz_r (.i2l) 1, hz_m (.invokevirtual 18) 3 [167, 2, 0] [], hz_n, hz_n, hz_r (.aload_n 0) 1, hz_m (.getfield 44) 3 [12, 10] [], hz_n, hz_n, hz_r (.bipush 17) 2, hz_n],
  [hz_r (.iaload) 1, hz_r (.ireturn) 1]]
/-- HeavierServesModel.weeks(I)I -/
def hs_k206 : hs_K := [
  [hz_m (.aload_n 0) 1 [] [true, true, false, false, false], hz_r (.iconst 0) 1, hz_m (.putfield 3) 3 [12, 0] [], hz_n, hz_n, hz_r (.iload_n 1) 1, hz_r (.i2l) 1, hz_r (.lconst 0) 1, hz_m (.ldc2_w 286) 3 [0, 99] [], hz_n, hz_n, hz_m (.invokestatic 120) 3 [163, 3, 1] [], hz_n, hz_n, hz_r (.ifCond .ne 5) 3, hz_n],
  [hz_n, hz_m (.iconst (-1)) 1 [] [false, false, false, false, false], hz_r (.ireturn) 1, hz_m (.iload_n 1) 1 [] [true, true, false, false, false], hz_r (.ifCond .le 7) 3, hz_n, hz_n, hz_m (.aload_n 0) 1 [] [true, true, false, false, false], hz_m (.invokevirtual 279) 3 [203, 1, 0] [], hz_n, hz_n, hz_m (.iconst 0) 1 [] [true, true, false, false, false], hz_r (.istore_n 2) 1, hz_r (.aload_n 0) 1, hz_r (.iconst 0) 1, hz_m (.putfield 273) 3 [12, 27] []],
  [hz_n, hz_n, hz_r (.iconst 0) 1, hz_r (.istore_n 3) 1, hz_m (.iload_n 3) 1 [] [true, true, true, true, false], hz_r (.iload_n 1) 1, hz_r (.if_icmp .ge 57) 3, hz_n, hz_n, hz_m (.aload_n 0) 1 [] [true, true, true, true, false], hz_m (.getfield 44) 3 [12, 10] [], hz_n, hz_n, hz_r (.bipush 17) 2, hz_n, hz_r (.iaload) 1],
  [hz_r (.istore 4) 2, hz_n, hz_r (.aload_n 0) 1, hz_r (.aload_n 0) 1, hz_m (.getfield 44) 3 [12, 10] [], hz_n, hz_n, hz_r (.aload_n 0) 1, hz_r (.aload_n 0) 1, hz_m (.getfield 44) 3 [12, 10] [], hz_n, hz_n, hz_m (.invokevirtual 288) 3 [193, 2, 1] [], hz_n, hz_n, hz_m (.invokevirtual 282) 3 [200, 3, 0] []],
  [hz_n, hz_n, hz_r (.iload_n 2) 1, hz_r (.aload_n 0) 1, hz_m (.getfield 44) 3 [12, 10] [], hz_n, hz_n, hz_r (.bipush 17) 2, hz_n, hz_r (.iaload) 1, hz_r (.iload 4) 2, hz_n, hz_r (.if_icmp .eq 7) 3, hz_n, hz_n, hz_m (.iconst 1) 1 [] [true, true, false, true, false]],
  [hz_r (.goto 4) 3, hz_n, hz_n, hz_m (.iconst 0) 1 [] [true, true, false, true, false], hz_m (.invokestatic 150) 3 [165, 1, 1] [true, true, false, true, false], hz_n, hz_n, hz_r (.iadd) 1, hz_r (.istore_n 2) 1, hz_r (.iinc 3 1) 3, hz_n, hz_n, hz_r (.goto (-56)) 3, hz_n, hz_n, hz_m (.aload_n 0) 1 [] [true, false, true, false, false]],
  [hz_r (.iconst 0) 1, hz_m (.putfield 15) 3 [12, 1] [], hz_n, hz_n, hz_r (.aload_n 0) 1, hz_r (.aload_n 0) 1, hz_m (.getfield 44) 3 [12, 10] [], hz_n, hz_n, hz_r (.bipush 17) 2, hz_n, hz_r (.iaload) 1, hz_r (.i2l) 1, hz_m (.invokevirtual 18) 3 [167, 2, 0] [], hz_n, hz_n],
  [hz_r (.aload_n 0) 1, hz_r (.aload_n 0) 1, hz_m (.getfield 273) 3 [12, 27] [], hz_n, hz_n, hz_r (.i2l) 1, hz_m (.invokevirtual 18) 3 [167, 2, 0] [], hz_n, hz_n, hz_r (.iload_n 2) 1, hz_r (.ireturn) 1]]
/-- HeavierServesModel.readsWeek()V -/
def hs_k207 : hs_K := [
  [hz_m (.iconst (-1)) 1 [] [true, false, false], hz_r (.istore_n 1) 1, hz_r (.iconst 0) 1, hz_r (.istore_n 2) 1, hz_r (.aload_n 0) 1, hz_m (.getfield 135) 3 [12, 14] [], hz_n, hz_n, hz_r (.aload_n 0) 1, hz_m (.getfield 147) 3 [12, 15] [], hz_n, hz_n, hz_r (.if_icmp .ge 61) 3, hz_n, hz_n, hz_r (.aload_n 0) 1],
  [hz_m (.getfield 50) 3 [12, 12] [], hz_n, hz_n, hz_r (.aload_n 0) 1, hz_m (.getfield 135) 3 [12, 14] [], hz_n, hz_n, hz_r (.iaload) 1, hz_r (.bipush 97) 2, hz_n, hz_r (.isub) 1, hz_r (.i2l) 1, hz_r (.iload_n 1) 1, hz_r (.iconst 1) 1, hz_r (.iadd) 1, hz_r (.i2l) 1],
  [hz_m (.ldc2_w 257) 3 [0, 7] [], hz_n, hz_n, hz_m (.invokestatic 120) 3 [163, 3, 1] [], hz_n, hz_n, hz_r (.ifCond .eq 35) 3, hz_n, hz_n, hz_m (.aload_n 0) 1 [] [true, false, true], hz_m (.getfield 50) 3 [12, 12] [], hz_n, hz_n, hz_r (.aload_n 0) 1, hz_m (.getfield 135) 3 [12, 14] [], hz_n],
  [hz_n, hz_r (.iaload) 1, hz_r (.bipush 97) 2, hz_n, hz_r (.isub) 1, hz_r (.istore_n 1) 1, hz_r (.iload_n 2) 1, hz_r (.iconst 1) 1, hz_r (.iload_n 1) 1, hz_r (.ishl) 1, hz_r (.ior) 1, hz_r (.istore_n 2) 1, hz_r (.aload_n 0) 1, hz_r (.dup) 1, hz_m (.getfield 135) 3 [12, 14] [], hz_n],
  [hz_n, hz_r (.iconst 1) 1, hz_r (.iadd) 1, hz_m (.putfield 135) 3 [12, 14] [], hz_n, hz_n, hz_r (.goto (-66)) 3, hz_n, hz_n, hz_m (.aload_n 0) 1 [] [true, false, true], hz_m (.getfield 77) 3 [12, 30] [], hz_n, hz_n, hz_r (.aload_n 0) 1, hz_m (.getfield 291) 3 [12, 31] [], hz_n],
  [hz_n, hz_r (.iload_n 2) 1, hz_r (.iastore) 1, hz_r (.aload_n 0) 1, hz_r (.dup) 1, hz_m (.getfield 291) 3 [12, 31] [], hz_n, hz_n, hz_r (.iconst 1) 1, hz_r (.iadd) 1, hz_m (.putfield 291) 3 [12, 31] [], hz_n, hz_n, hz_r (.return_) 1]]
/-- HeavierServesModel.year()I -/
def hs_k208 : hs_K := [
  [hz_m (.aload_n 0) 1 [] [true, false, false, false, false], hz_r (.iconst 0) 1, hz_m (.putfield 3) 3 [12, 0] [], hz_n, hz_n, hz_r (.aload_n 0) 1, hz_r (.bipush 60) 2, hz_n, hz_m (.invokevirtual 193) 3 [173, 2, 1] [], hz_n, hz_n, hz_r (.istore_n 1) 1, hz_r (.aload_n 0) 1, hz_r (.iconst 0) 1, hz_m (.putfield 291) 3 [12, 31] [], hz_n],
  [hz_n, hz_r (.iload_n 1) 1, hz_r (.ifCond .le 7) 3, hz_n, hz_n, hz_m (.iconst 1) 1 [] [true, true, false, false, false], hz_r (.goto 4) 3, hz_n, hz_n, hz_m (.iconst 0) 1 [] [true, true, false, false, false], hz_m (.istore_n 2) 1 [] [true, true, false, false, false], hz_m (.iload_n 2) 1 [] [true, true, true, false, false], hz_r (.ifCond .eq 17) 3, hz_n, hz_n, hz_m (.aload_n 0) 1 [] [true, true, false, false, false]],
  [hz_m (.invokevirtual 294) 3 [207, 1, 0] [], hz_n, hz_n, hz_r (.aload_n 0) 1, hz_r (.bipush 59) 2, hz_n, hz_m (.invokevirtual 178) 3 [174, 2, 1] [], hz_n, hz_n, hz_r (.istore_n 2) 1, hz_r (.goto (-15)) 3, hz_n, hz_n, hz_m (.aload_n 0) 1 [] [true, true, false, false, false], hz_r (.iload_n 1) 1, hz_r (.bipush 60) 2],
  [hz_n, hz_r (.iconst 1) 1, hz_m (.invokevirtual 199) 3 [178, 4, 1] [], hz_n, hz_n, hz_r (.istore_n 3) 1, hz_r (.iload_n 3) 1, hz_r (.ifCond .ge 5) 3, hz_n, hz_n, hz_m (.iload_n 3) 1 [] [false, false, false, true, false], hz_r (.ireturn) 1, hz_m (.iconst 0) 1 [] [true, false, false, false, false], hz_r (.istore 4) 2, hz_n, hz_r (.aload_n 0) 1],
  [hz_r (.iconst 0) 1, hz_m (.putfield 273) 3 [12, 27] [], hz_n, hz_n, hz_m (.iload 4) 2 [] [true, false, false, false, true], hz_n, hz_r (.aload_n 0) 1, hz_m (.getfield 291) 3 [12, 31] [], hz_n, hz_n, hz_r (.if_icmp .ge 49) 3, hz_n, hz_n, hz_m (.aload_n 0) 1 [] [true, false, false, false, true], hz_m (.getfield 77) 3 [12, 30] [], hz_n],
  [hz_n, hz_r (.iload 4) 2, hz_n, hz_r (.iaload) 1, hz_r (.iconst 1) 1, hz_r (.aload_n 0) 1, hz_m (.getfield 117) 3 [12, 3] [], hz_n, hz_n, hz_r (.ishl) 1, hz_r (.if_icmp .ge 33) 3, hz_n, hz_n, hz_m (.iload 4) 2 [] [true, false, false, false, true], hz_n, hz_r (.ifCond .ne 7) 3],
  [hz_n, hz_n, hz_m (.aload_n 0) 1 [] [true, false, false, false, true], hz_m (.invokevirtual 279) 3 [203, 1, 0] [], hz_n, hz_n, hz_m (.aload_n 0) 1 [] [true, false, false, false, true], hz_r (.aload_n 0) 1, hz_m (.getfield 44) 3 [12, 10] [], hz_n, hz_n, hz_r (.aload_n 0) 1, hz_m (.getfield 77) 3 [12, 30] [], hz_n, hz_n, hz_r (.iload 4) 2],
  [hz_n, hz_r (.iaload) 1, hz_m (.invokevirtual 282) 3 [200, 3, 0] [], hz_n, hz_n, hz_r (.iinc 4 1) 3, hz_n, hz_n, hz_r (.goto (-52)) 3, hz_n, hz_n, hz_m (.aload_n 0) 1 [] [true, false, false, false, true], hz_r (.iconst 0) 1, hz_m (.putfield 15) 3 [12, 1] [], hz_n, hz_n],
  [hz_r (.aload_n 0) 1, hz_r (.aload_n 0) 1, hz_m (.getfield 44) 3 [12, 10] [], hz_n, hz_n, hz_r (.bipush 17) 2, hz_n, hz_r (.iaload) 1, hz_r (.i2l) 1, hz_m (.invokevirtual 18) 3 [167, 2, 0] [], hz_n, hz_n, hz_r (.aload_n 0) 1, hz_r (.iload 4) 2, hz_n, hz_r (.aload_n 0) 1],
  [hz_m (.getfield 291) 3 [12, 31] [], hz_n, hz_n, hz_r (.if_icmp .ge 7) 3, hz_n, hz_n, hz_m (.iconst 1) 1 [] [false, false, false, false, true], hz_r (.goto 4) 3, hz_n, hz_n, hz_m (.iconst 0) 1 [] [false, false, false, false, true], hz_m (.invokestatic 150) 3 [165, 1, 1] [false, false, false, false, true], hz_n, hz_n, hz_r (.i2l) 1, hz_m (.invokevirtual 18) 3 [167, 2, 0] []],
  [hz_n, hz_n, hz_r (.iload 4) 2, hz_n, hz_r (.ireturn) 1]]
/-- HeavierServesModel.law()I -/
def hs_k209 : hs_K := [
  [hz_m (.aload_n 0) 1 [] [true, false], hz_r (.iconst 0) 1, hz_m (.putfield 3) 3 [12, 0] [], hz_n, hz_n, hz_r (.aload_n 0) 1, hz_m (.getfield 44) 3 [12, 10] [], hz_n, hz_n, hz_r (.bipush 17) 2, hz_n, hz_r (.iaload) 1, hz_r (.ifCond .ge 6) 3, hz_n, hz_n, hz_m (.bipush (-2)) 2 [] [false, false]],
  [hz_n, hz_r (.ireturn) 1, hz_m (.aload_n 0) 1 [] [true, false], hz_m (.getfield 44) 3 [12, 10] [], hz_n, hz_n, hz_r (.bipush 20) 2, hz_n, hz_r (.iaload) 1, hz_r (.bipush 12) 2, hz_n, hz_r (.if_icmp .ne 6) 3, hz_n, hz_n, hz_m (.bipush (-3)) 2 [] [false, false], hz_n],
  [hz_r (.ireturn) 1, hz_m (.aload_n 0) 1 [] [true, false], hz_m (.invokevirtual 279) 3 [203, 1, 0] [], hz_n, hz_n, hz_r (.aload_n 0) 1, hz_m (.getfield 44) 3 [12, 10] [], hz_n, hz_n, hz_r (.bipush 20) 2, hz_n, hz_r (.iaload) 1, hz_r (.istore_n 1) 1, hz_r (.aload_n 0) 1, hz_m (.getfield 44) 3 [12, 10] [], hz_n],
  [hz_n, hz_r (.bipush 21) 2, hz_n, hz_r (.iload_n 1) 1, hz_r (.iadd) 1, hz_r (.aload_n 0) 1, hz_m (.getfield 44) 3 [12, 10] [], hz_n, hz_n, hz_r (.bipush 17) 2, hz_n, hz_r (.iaload) 1, hz_r (.iastore) 1, hz_r (.aload_n 0) 1, hz_m (.getfield 44) 3 [12, 10] [], hz_n],
  [hz_n, hz_r (.bipush 33) 2, hz_n, hz_r (.iload_n 1) 1, hz_r (.iadd) 1, hz_r (.aload_n 0) 1, hz_m (.getfield 44) 3 [12, 10] [], hz_n, hz_n, hz_r (.bipush 19) 2, hz_n, hz_r (.iaload) 1, hz_r (.iastore) 1, hz_r (.aload_n 0) 1, hz_m (.getfield 44) 3 [12, 10] [], hz_n],
  [hz_n, hz_r (.bipush 45) 2, hz_n, hz_r (.iload_n 1) 1, hz_r (.iadd) 1, hz_r (.iconst (-1)) 1, hz_r (.iastore) 1, hz_r (.aload_n 0) 1, hz_m (.getfield 44) 3 [12, 10] [], hz_n, hz_n, hz_r (.bipush 20) 2, hz_n, hz_r (.dup2) 1, hz_r (.iaload) 1, hz_r (.iconst 1) 1],
  [hz_r (.iadd) 1, hz_r (.iastore) 1, hz_r (.iload_n 1) 1, hz_r (.ireturn) 1]]
/-- HeavierServesModel.laws(II)I -/
def hs_k210 : hs_K := [
  [hz_r (.aload_n 0) 1, hz_r (.iconst 0) 1, hz_m (.putfield 3) 3 [12, 0] [], hz_n, hz_n, hz_r (.iload_n 1) 1, hz_r (.i2l) 1, hz_r (.lconst 0) 1, hz_r (.aload_n 0) 1, hz_m (.getfield 44) 3 [12, 10] [], hz_n, hz_n, hz_r (.bipush 20) 2, hz_n, hz_r (.iaload) 1, hz_r (.iconst 1) 1],
  [hz_r (.isub) 1, hz_r (.i2l) 1, hz_m (.invokestatic 120) 3 [163, 3, 1] [], hz_n, hz_n, hz_r (.ifCond .eq 15) 3, hz_n, hz_n, hz_r (.iload_n 2) 1, hz_r (.i2l) 1, hz_r (.lconst 0) 1, hz_m (.ldc2_w 267) 3 [0, 3] [], hz_n, hz_n, hz_m (.invokestatic 120) 3 [163, 3, 1] [], hz_n],
  [hz_n, hz_r (.ifCond .ne 8) 3, hz_n, hz_n, hz_m (.aload_n 0) 1 [] [true, false, false], hz_m (.invokevirtual 259) 3 [162, 1, 1] [], hz_n, hz_n, hz_r (.ireturn) 1, hz_r (.iload_n 2) 1, hz_r (.tableswitch 67 0 2 #[26, 36, 46]) 26, hz_n, hz_n, hz_n, hz_n, hz_n],
  [hz_n, hz_n, hz_n, hz_n, hz_n, hz_n, hz_n, hz_n, hz_n, hz_n, hz_n, hz_n, hz_n, hz_n, hz_n, hz_n],
  [hz_n, hz_n, hz_n, hz_n, hz_m (.aload_n 0) 1 [] [true, true, false], hz_m (.getfield 44) 3 [12, 10] [], hz_n, hz_n, hz_r (.bipush 21) 2, hz_n, hz_r (.iload_n 1) 1, hz_r (.iadd) 1, hz_r (.iaload) 1, hz_r (.ireturn) 1, hz_m (.aload_n 0) 1 [] [true, true, false], hz_m (.getfield 44) 3 [12, 10] []],
  [hz_n, hz_n, hz_r (.bipush 33) 2, hz_n, hz_r (.iload_n 1) 1, hz_r (.iadd) 1, hz_r (.iaload) 1, hz_r (.ireturn) 1, hz_m (.aload_n 0) 1 [] [true, true, false], hz_m (.getfield 44) 3 [12, 10] [], hz_n, hz_n, hz_r (.bipush 45) 2, hz_n, hz_r (.iload_n 1) 1, hz_r (.iadd) 1],
  [hz_r (.iaload) 1, hz_r (.ifCond .ge 7) 3, hz_n, hz_n, hz_m (.iconst 1) 1 [] [false, false, false], hz_r (.goto 4) 3, hz_n, hz_n, hz_m (.iconst 0) 1 [] [false, false, false], hz_m (.invokestatic 150) 3 [165, 1, 1] [false, false, false], hz_n, hz_n, hz_r (.ireturn) 1, hz_m (.aload_n 0) 1 [] [true, true, false], hz_m (.getfield 44) 3 [12, 10] [], hz_n],
  [hz_n, hz_r (.bipush 45) 2, hz_n, hz_r (.iload_n 1) 1, hz_r (.iadd) 1, hz_r (.iaload) 1, hz_r (.ireturn) 1]]
/-- HeavierServesModel.eats(II)I -/
def hs_k211 : hs_K := [
  [hz_r (.aload_n 0) 1, hz_m (.invokevirtual 279) 3 [203, 1, 0] [], hz_n, hz_n, hz_r (.aload_n 0) 1, hz_m (.getfield 44) 3 [12, 10] [], hz_n, hz_n, hz_r (.iload_n 1) 1, hz_r (.iconst 1) 1, hz_r (.sipush 999) 3, hz_n, hz_n, hz_r (.aload_n 0) 1, hz_m (.getfield 44) 3 [12, 10] [], hz_n],
  [hz_n, hz_r (.iload_n 1) 1, hz_r (.iaload) 1, hz_r (.iload_n 2) 1, hz_r (.iadd) 1, hz_m (.invokestatic 141) 3 [3, 2, 1] [], hz_n, hz_n, hz_m (.invokestatic 254) 3 [2, 2, 1] [], hz_n, hz_n, hz_r (.iastore) 1, hz_r (.aload_n 0) 1, hz_m (.getfield 44) 3 [12, 10] [], hz_n, hz_n],
  [hz_r (.iload_n 1) 1, hz_r (.iaload) 1, hz_r (.ireturn) 1]]
/-- HeavierServesModel.feed(II)I -/
def hs_k212 : hs_K := [
  [hz_r (.aload_n 0) 1, hz_r (.iconst 0) 1, hz_m (.putfield 3) 3 [12, 0] [], hz_n, hz_n, hz_r (.aload_n 0) 1, hz_r (.iload_n 1) 1, hz_m (.invokevirtual 297) 3 [170, 2, 1] [], hz_n, hz_n, hz_r (.ifCond .eq 24) 3, hz_n, hz_n, hz_r (.iload_n 2) 1, hz_r (.i2l) 1, hz_r (.lconst 1) 1],
  [hz_m (.ldc2_w 286) 3 [0, 99] [], hz_n, hz_n, hz_m (.invokestatic 120) 3 [163, 3, 1] [], hz_n, hz_n, hz_r (.ifCond .eq 12) 3, hz_n, hz_n, hz_r (.aload_n 0) 1, hz_r (.iload_n 1) 1, hz_r (.iload_n 2) 1, hz_m (.invokevirtual 300) 3 [211, 3, 1] [], hz_n, hz_n, hz_r (.goto 4) 3],
  [hz_n, hz_n, hz_m (.iconst (-1)) 1 [] [false, false, false], hz_m (.ireturn) 1 [] [false, false, false]]]
/-- HeavierServesModel.fast(II)I -/
def hs_k213 : hs_K := [
  [hz_r (.aload_n 0) 1, hz_r (.iconst 0) 1, hz_m (.putfield 3) 3 [12, 0] [], hz_n, hz_n, hz_r (.aload_n 0) 1, hz_r (.iload_n 1) 1, hz_m (.invokevirtual 297) 3 [170, 2, 1] [], hz_n, hz_n, hz_r (.ifCond .eq 25) 3, hz_n, hz_n, hz_r (.iload_n 2) 1, hz_r (.i2l) 1, hz_r (.lconst 1) 1],
  [hz_m (.ldc2_w 286) 3 [0, 99] [], hz_n, hz_n, hz_m (.invokestatic 120) 3 [163, 3, 1] [], hz_n, hz_n, hz_r (.ifCond .eq 13) 3, hz_n, hz_n, hz_r (.aload_n 0) 1, hz_r (.iload_n 1) 1, hz_r (.iload_n 2) 1, hz_r (.ineg) 1, hz_m (.invokevirtual 300) 3 [211, 3, 1] [], hz_n, hz_n],
  [hz_r (.goto 4) 3, hz_n, hz_n, hz_m (.iconst (-1)) 1 [] [false, false, false], hz_m (.ireturn) 1 [] [false, false, false]]]
/-- HeavierServesModel.dies(I)I -/
def hs_k214 : hs_K := [
  [hz_m (.aload_n 0) 1 [] [true, true, false], hz_r (.iconst 0) 1, hz_m (.putfield 3) 3 [12, 0] [], hz_n, hz_n, hz_r (.aload_n 0) 1, hz_r (.iload_n 1) 1, hz_m (.invokevirtual 297) 3 [170, 2, 1] [], hz_n, hz_n, hz_r (.ifCond .ne 5) 3, hz_n, hz_n, hz_m (.iconst (-1)) 1 [] [false, false, false], hz_r (.ireturn) 1, hz_m (.aload_n 0) 1 [] [true, true, false]],
  [hz_m (.invokevirtual 279) 3 [203, 1, 0] [], hz_n, hz_n, hz_r (.aload_n 0) 1, hz_m (.getfield 44) 3 [12, 10] [], hz_n, hz_n, hz_r (.bipush 16) 2, hz_n, hz_r (.dup2) 1, hz_r (.iaload) 1, hz_r (.iconst 1) 1, hz_r (.iload_n 1) 1, hz_r (.ishl) 1, hz_r (.iconst (-1)) 1, hz_r (.ixor) 1],
  [hz_r (.iand) 1, hz_r (.iastore) 1, hz_r (.aload_n 0) 1, hz_m (.getfield 44) 3 [12, 10] [], hz_n, hz_n, hz_r (.bipush 17) 2, hz_n, hz_r (.iaload) 1, hz_r (.iload_n 1) 1, hz_r (.if_icmp .eq 5) 3, hz_n, hz_n, hz_m (.iconst 0) 1 [] [false, false, false], hz_r (.ireturn) 1, hz_m (.aload_n 0) 1 [] [true, false, false]],
  [hz_r (.aload_n 0) 1, hz_m (.getfield 44) 3 [12, 10] [], hz_n, hz_n, hz_m (.invokevirtual 276) 3 [201, 2, 1] [], hz_n, hz_n, hz_r (.istore_n 2) 1, hz_r (.aload_n 0) 1, hz_m (.getfield 44) 3 [12, 10] [], hz_n, hz_n, hz_r (.bipush 17) 2, hz_n, hz_r (.iconst (-1)) 1, hz_r (.iastore) 1],
  [hz_r (.aload_n 0) 1, hz_m (.getfield 44) 3 [12, 10] [], hz_n, hz_n, hz_r (.bipush 18) 2, hz_n, hz_r (.iconst 0) 1, hz_r (.iastore) 1, hz_r (.iload_n 2) 1, hz_r (.ireturn) 1]]
/-- HeavierServesModel.served(I)I -/
def hs_k215 : hs_K := [
  [hz_r (.aload_n 0) 1, hz_r (.iconst 0) 1, hz_m (.putfield 3) 3 [12, 0] [], hz_n, hz_n, hz_r (.iload_n 1) 1, hz_r (.i2l) 1, hz_r (.iconst 0) 1, hz_r (.aload_n 0) 1, hz_m (.getfield 44) 3 [12, 10] [], hz_n, hz_n, hz_r (.bipush 19) 2, hz_n, hz_r (.iaload) 1, hz_r (.bipush 60) 2],
  [hz_n, hz_r (.isub) 1, hz_m (.invokestatic 254) 3 [2, 2, 1] [], hz_n, hz_n, hz_r (.i2l) 1, hz_r (.aload_n 0) 1, hz_m (.getfield 44) 3 [12, 10] [], hz_n, hz_n, hz_r (.bipush 19) 2, hz_n, hz_r (.iaload) 1, hz_r (.iconst 1) 1, hz_r (.isub) 1, hz_r (.i2l) 1],
  [hz_m (.invokestatic 120) 3 [163, 3, 1] [], hz_n, hz_n, hz_r (.ifCond .ne 6) 3, hz_n, hz_n, hz_m (.bipush (-2)) 2 [] [false, false], hz_n, hz_r (.ireturn) 1, hz_r (.aload_n 0) 1, hz_m (.getfield 44) 3 [12, 10] [], hz_n, hz_n, hz_r (.bipush 57) 2, hz_n, hz_r (.iload_n 1) 1],
  [hz_r (.bipush 60) 2, hz_n, hz_r (.irem) 1, hz_r (.iadd) 1, hz_r (.iaload) 1, hz_r (.ireturn) 1]]
/-- HeavierServesModel.starts()V -/
def hs_k216 : hs_K := [
  [hz_m (.aload_n 0) 1 [] [true, false], hz_m (.getfield 44) 3 [12, 10] [], hz_n, hz_n, hz_r (.aload_n 0) 1, hz_m (.getfield 47) 3 [12, 11] [], hz_n, hz_n, hz_m (.invokestatic 303) 3 [202, 2, 0] [], hz_n, hz_n, hz_r (.iconst 0) 1, hz_r (.istore_n 1) 1, hz_r (.iload_n 1) 1, hz_r (.bipush 8) 2, hz_n],
  [hz_r (.if_icmp .ge 16) 3, hz_n, hz_n, hz_r (.aload_n 0) 1, hz_m (.getfield 80) 3 [12, 32] [], hz_n, hz_n, hz_r (.iload_n 1) 1, hz_r (.iconst 0) 1, hz_r (.iastore) 1, hz_r (.iinc 1 1) 3, hz_n, hz_n, hz_r (.goto (-16)) 3, hz_n, hz_n],
  [hz_m (.return_) 1 [] [false, false]]]
/-- HeavierServesModel.goesNext(I)V -/
def hs_k217 : hs_K := [
  [hz_r (.aload_n 0) 1, hz_r (.aload_n 0) 1, hz_m (.getfield 47) 3 [12, 11] [], hz_n, hz_n, hz_r (.iload_n 1) 1, hz_m (.invokevirtual 282) 3 [200, 3, 0] [], hz_n, hz_n, hz_r (.aload_n 0) 1, hz_m (.getfield 47) 3 [12, 11] [], hz_n, hz_n, hz_r (.bipush 17) 2, hz_n, hz_r (.iaload) 1],
  [hz_r (.ifCond .lt 19) 3, hz_n, hz_n, hz_m (.aload_n 0) 1 [] [true, false], hz_m (.getfield 80) 3 [12, 32] [], hz_n, hz_n, hz_r (.aload_n 0) 1, hz_m (.getfield 47) 3 [12, 11] [], hz_n, hz_n, hz_r (.bipush 17) 2, hz_n, hz_r (.iaload) 1, hz_r (.dup2) 1, hz_r (.iaload) 1],
  [hz_r (.iconst 1) 1, hz_r (.iadd) 1, hz_r (.iastore) 1, hz_m (.return_) 1 [] [false, false]]]
/-- HeavierServesModel.goesBy(II)V -/
def hs_k218 : hs_K := [
  [hz_m (.iconst 0) 1 [] [true, true, true, false], hz_r (.istore_n 3) 1, hz_r (.iload_n 3) 1, hz_r (.iload_n 1) 1, hz_r (.if_icmp .ge 25) 3, hz_n, hz_n, hz_r (.aload_n 0) 1, hz_r (.aload_n 0) 1, hz_r (.aload_n 0) 1, hz_m (.getfield 47) 3 [12, 11] [], hz_n, hz_n, hz_m (.invokevirtual 288) 3 [193, 2, 1] [], hz_n, hz_n],
  [hz_r (.iload_n 2) 1, hz_r (.iconst (-1)) 1, hz_r (.ixor) 1, hz_r (.iand) 1, hz_m (.invokevirtual 307) 3 [217, 2, 0] [], hz_n, hz_n, hz_r (.iinc 3 1) 3, hz_n, hz_n, hz_r (.goto (-24)) 3, hz_n, hz_n, hz_m (.return_) 1 [] [false, false, false, false]]]
/-- HeavierServesModel.areWeeks(I)Z -/
def hs_k219 : hs_K := [
  [hz_r (.iload_n 0) 1, hz_r (.i2l) 1, hz_r (.lconst 0) 1, hz_m (.ldc2_w 286) 3 [0, 99] [], hz_n, hz_n, hz_m (.invokestatic 120) 3 [163, 3, 1] [], hz_n, hz_n, hz_r (.ireturn) 1]]
/-- HeavierServesModel.later(II)I -/
def hs_k220 : hs_K := [
  [hz_r (.aload_n 0) 1, hz_r (.iconst 0) 1, hz_m (.putfield 3) 3 [12, 0] [], hz_n, hz_n, hz_r (.aload_n 0) 1, hz_r (.iload_n 1) 1, hz_m (.invokevirtual 297) 3 [170, 2, 1] [], hz_n, hz_n, hz_r (.ifCond .eq 10) 3, hz_n, hz_n, hz_r (.iload_n 2) 1, hz_m (.invokestatic 310) 3 [219, 1, 1] [], hz_n],
  [hz_n, hz_r (.ifCond .ne 5) 3, hz_n, hz_n, hz_m (.iconst (-1)) 1 [] [false, false, false], hz_r (.ireturn) 1, hz_r (.aload_n 0) 1, hz_m (.invokevirtual 313) 3 [216, 1, 0] [], hz_n, hz_n, hz_r (.aload_n 0) 1, hz_r (.iload_n 2) 1, hz_r (.iconst 0) 1, hz_m (.invokevirtual 316) 3 [218, 3, 0] [], hz_n, hz_n],
  [hz_r (.aload_n 0) 1, hz_m (.getfield 47) 3 [12, 11] [], hz_n, hz_n, hz_r (.iload_n 1) 1, hz_r (.iaload) 1, hz_r (.ireturn) 1]]
/-- HeavierServesModel.then(I)I -/
def hs_k221 : hs_K := [
  [hz_m (.aload_n 0) 1 [] [true, true, false], hz_r (.iconst 0) 1, hz_m (.putfield 3) 3 [12, 0] [], hz_n, hz_n, hz_r (.iload_n 1) 1, hz_m (.invokestatic 310) 3 [219, 1, 1] [], hz_n, hz_n, hz_r (.ifCond .ne 6) 3, hz_n, hz_n, hz_m (.bipush (-2)) 2 [] [false, false, false], hz_n, hz_r (.ireturn) 1, hz_m (.aload_n 0) 1 [] [true, true, false]],
  [hz_m (.invokevirtual 313) 3 [216, 1, 0] [], hz_n, hz_n, hz_r (.aload_n 0) 1, hz_r (.iload_n 1) 1, hz_r (.iconst 0) 1, hz_m (.invokevirtual 316) 3 [218, 3, 0] [], hz_n, hz_n, hz_r (.aload_n 0) 1, hz_r (.iconst 0) 1, hz_m (.putfield 15) 3 [12, 1] [], hz_n, hz_n, hz_r (.iconst 0) 1, hz_r (.istore_n 2) 1],
  [hz_m (.iload_n 2) 1 [] [true, false, true], hz_r (.aload_n 0) 1, hz_m (.getfield 117) 3 [12, 3] [], hz_n, hz_n, hz_r (.if_icmp .ge 20) 3, hz_n, hz_n, hz_m (.aload_n 0) 1 [] [true, false, true], hz_r (.aload_n 0) 1, hz_m (.getfield 80) 3 [12, 32] [], hz_n, hz_n, hz_r (.iload_n 2) 1, hz_r (.iaload) 1, hz_r (.i2l) 1],
  [hz_m (.invokevirtual 18) 3 [167, 2, 0] [], hz_n, hz_n, hz_r (.iinc 2 1) 3, hz_n, hz_n, hz_r (.goto (-22)) 3, hz_n, hz_n, hz_m (.aload_n 0) 1 [] [true, false, false], hz_m (.getfield 47) 3 [12, 11] [], hz_n, hz_n, hz_r (.bipush 17) 2, hz_n, hz_r (.iaload) 1],
  [hz_r (.ireturn) 1]]
/-- HeavierServesModel.soonest(I)I -/
def hs_k222 : hs_K := [
  [hz_m (.aload_n 0) 1 [] [true, true, false], hz_r (.iconst 0) 1, hz_m (.putfield 3) 3 [12, 0] [], hz_n, hz_n, hz_r (.aload_n 0) 1, hz_r (.iload_n 1) 1, hz_m (.invokevirtual 124) 3 [169, 2, 1] [], hz_n, hz_n, hz_r (.ifCond .ne 5) 3, hz_n, hz_n, hz_m (.iconst (-1)) 1 [] [false, false, false], hz_r (.ireturn) 1, hz_m (.aload_n 0) 1 [] [true, true, false]],
  [hz_m (.getfield 44) 3 [12, 10] [], hz_n, hz_n, hz_r (.bipush 17) 2, hz_n, hz_r (.iaload) 1, hz_r (.iload_n 1) 1, hz_r (.if_icmp .ne 6) 3, hz_n, hz_n, hz_m (.bipush (-3)) 2 [] [false, false, false], hz_n, hz_r (.ireturn) 1, hz_m (.aload_n 0) 1 [] [true, true, false], hz_m (.invokevirtual 313) 3 [216, 1, 0] [], hz_n],
  [hz_n, hz_r (.iconst 1) 1, hz_r (.istore_n 2) 1, hz_r (.iload_n 2) 1, hz_r (.bipush 99) 2, hz_n, hz_r (.if_icmp .gt 28) 3, hz_n, hz_n, hz_r (.aload_n 0) 1, hz_r (.iconst 1) 1, hz_r (.iconst 0) 1, hz_m (.invokevirtual 316) 3 [218, 3, 0] [], hz_n, hz_n, hz_r (.aload_n 0) 1],
  [hz_m (.getfield 47) 3 [12, 11] [], hz_n, hz_n, hz_r (.bipush 17) 2, hz_n, hz_r (.iaload) 1, hz_r (.iload_n 1) 1, hz_r (.if_icmp .ne 5) 3, hz_n, hz_n, hz_m (.iload_n 2) 1 [] [false, false, true], hz_r (.ireturn) 1, hz_r (.iinc 2 1) 3, hz_n, hz_n, hz_r (.goto (-28)) 3],
  [hz_n, hz_n, hz_m (.bipush (-2)) 2 [] [false, false, false], hz_n, hz_r (.ireturn) 1]]
/-- HeavierServesModel.ever(I)I -/
def hs_k223 : hs_K := [
  [hz_m (.aload_n 0) 1 [] [true, true, false, false, false, false, false, false, false, false], hz_r (.iconst 0) 1, hz_m (.putfield 3) 3 [12, 0] [], hz_n, hz_n, hz_r (.iload_n 1) 1, hz_r (.i2l) 1, hz_r (.lconst 0) 1, hz_m (.ldc2_w 319) 3 [0, 12] [], hz_n, hz_n, hz_m (.invokestatic 120) 3 [163, 3, 1] [], hz_n, hz_n, hz_r (.ifCond .ne 5) 3, hz_n],
  [hz_n, hz_m (.iconst (-1)) 1 [] [false, false, false, false, false, false, false, false, false, false], hz_r (.ireturn) 1, hz_m (.aload_n 0) 1 [] [true, true, false, false, false, false, false, false, false, false], hz_m (.invokevirtual 313) 3 [216, 1, 0] [], hz_n, hz_n, hz_r (.sipush 256) 3, hz_n, hz_n, hz_r (.istore_n 2) 1, hz_r (.aload_n 0) 1, hz_m (.getfield 44) 3 [12, 10] [], hz_n, hz_n, hz_r (.bipush 17) 2],
  [hz_n, hz_r (.iaload) 1, hz_r (.ifCond .ge 7) 3, hz_n, hz_n, hz_m (.iload_n 2) 1 [] [true, true, true, false, false, false, false, false, false, false], hz_r (.goto 12) 3, hz_n, hz_n, hz_m (.iconst 1) 1 [] [true, true, true, false, false, false, false, false, false, false], hz_r (.aload_n 0) 1, hz_m (.getfield 44) 3 [12, 10] [], hz_n, hz_n, hz_r (.bipush 17) 2, hz_n],
  [hz_r (.iaload) 1, hz_r (.ishl) 1, hz_m (.istore_n 3) 1 [] [true, true, true, false, false, false, false, false, false, false], hz_r (.iconst 0) 1, hz_r (.istore 4) 2, hz_n, hz_r (.iconst 0) 1, hz_r (.istore 5) 2, hz_n, hz_m (.iload 5) 2 [] [true, true, true, true, true, true, false, false, false, false], hz_n, hz_r (.iload_n 1) 1, hz_r (.if_icmp .ge 164) 3, hz_n, hz_n, hz_m (.iload_n 3) 1 [] [true, true, true, true, true, true, false, false, false, false]],
  [hz_r (.istore 6) 2, hz_n, hz_r (.iconst 0) 1, hz_r (.istore 7) 2, hz_n, hz_m (.iload 7) 2 [] [true, true, true, true, true, true, true, true, false, false], hz_n, hz_r (.aload_n 0) 1, hz_m (.getfield 117) 3 [12, 3] [], hz_n, hz_n, hz_r (.if_icmp .ge 121) 3, hz_n, hz_n, hz_m (.iload_n 3) 1 [] [true, true, true, true, true, true, true, true, false, false], hz_r (.bipush 8) 2],
  [hz_n, hz_m (.invokestatic 128) 3 [164, 2, 1] [], hz_n, hz_n, hz_r (.istore 8) 2, hz_n, hz_r (.iconst 0) 1, hz_r (.istore 9) 2, hz_n, hz_r (.iload 9) 2, hz_n, hz_r (.aload_n 0) 1, hz_m (.getfield 117) 3 [12, 3] [], hz_n, hz_n, hz_r (.if_icmp .ge 62) 3],
  [hz_n, hz_n, hz_r (.iload 8) 2, hz_n, hz_r (.ifCond .ne 44) 3, hz_n, hz_n, hz_m (.iload 9) 2 [] [true, true, true, true, true, true, true, true, false, true], hz_n, hz_r (.iload 7) 2, hz_n, hz_r (.if_icmp .eq 41) 3, hz_n, hz_n, hz_m (.iload_n 3) 1 [] [true, true, true, true, true, true, true, true, false, true], hz_r (.iload 9) 2],
  [hz_n, hz_m (.invokestatic 128) 3 [164, 2, 1] [], hz_n, hz_n, hz_r (.ifCond .eq 32) 3, hz_n, hz_n, hz_m (.aload_n 0) 1 [] [true, true, true, true, true, true, true, true, false, true], hz_r (.aload_n 0) 1, hz_m (.getfield 47) 3 [12, 11] [], hz_n, hz_n, hz_r (.iload 7) 2, hz_n, hz_r (.iaload) 1, hz_m (.invokevirtual 262) 3 [194, 2, 1] []],
  [hz_n, hz_n, hz_r (.aload_n 0) 1, hz_r (.aload_n 0) 1, hz_m (.getfield 47) 3 [12, 11] [], hz_n, hz_n, hz_r (.iload 9) 2, hz_n, hz_r (.iaload) 1, hz_m (.invokevirtual 262) 3 [194, 2, 1] [], hz_n, hz_n, hz_r (.if_icmp .le 7) 3, hz_n, hz_n],
  [hz_m (.iconst 1) 1 [] [true, true, true, true, true, true, true, true, false, true], hz_r (.goto 4) 3, hz_n, hz_n, hz_m (.iconst 0) 1 [] [true, true, true, true, true, true, true, true, false, true], hz_m (.istore 8) 2 [] [true, true, true, true, true, true, true, true, false, true], hz_n, hz_r (.iinc 9 1) 3, hz_n, hz_n, hz_r (.goto (-65)) 3, hz_n, hz_n, hz_m (.iload 6) 2 [] [true, true, true, true, true, true, true, true, true, false], hz_n, hz_r (.aload_n 0) 1],
  [hz_m (.getfield 47) 3 [12, 11] [], hz_n, hz_n, hz_r (.bipush 16) 2, hz_n, hz_r (.iaload) 1, hz_r (.iload 7) 2, hz_n, hz_m (.invokestatic 128) 3 [164, 2, 1] [], hz_n, hz_n, hz_r (.ifCond .eq 15) 3, hz_n, hz_n, hz_m (.iload 8) 2 [] [true, true, true, true, true, true, false, true, true, false], hz_n],
  [hz_r (.ifCond .eq 10) 3, hz_n, hz_n, hz_m (.iconst 1) 1 [] [true, true, true, true, true, true, false, true, false, false], hz_r (.iload 7) 2, hz_n, hz_r (.ishl) 1, hz_r (.goto 4) 3, hz_n, hz_n, hz_m (.iconst 0) 1 [] [true, true, true, true, true, true, false, true, false, false], hz_m (.ior) 1 [] [true, true, true, true, true, true, false, true, false, false], hz_r (.istore 6) 2, hz_n, hz_r (.iinc 7 1) 3, hz_n],
  [hz_n, hz_r (.goto (-124)) 3, hz_n, hz_n, hz_m (.aload_n 0) 1 [] [true, true, true, false, true, true, true, false, false, false], hz_r (.aload_n 0) 1, hz_m (.getfield 47) 3 [12, 11] [], hz_n, hz_n, hz_r (.iconst 0) 1, hz_m (.invokevirtual 282) 3 [200, 3, 0] [], hz_n, hz_n, hz_r (.iload 6) 2, hz_n, hz_r (.istore_n 3) 1],
  [hz_r (.iload 4) 2, hz_n, hz_r (.iload_n 3) 1, hz_r (.iload_n 2) 1, hz_r (.iconst 1) 1, hz_r (.isub) 1, hz_r (.iand) 1, hz_r (.ior) 1, hz_r (.istore 4) 2, hz_n, hz_r (.iinc 5 1) 3, hz_n, hz_n, hz_r (.goto (-164)) 3, hz_n, hz_n],
  [hz_m (.aload_n 0) 1 [] [true, true, true, true, true, false, false, false, false, false], hz_r (.iconst 0) 1, hz_m (.putfield 15) 3 [12, 1] [], hz_n, hz_n, hz_r (.aload_n 0) 1, hz_r (.iload_n 1) 1, hz_r (.ifCond .ne 7) 3, hz_n, hz_n, hz_m (.lconst 0) 1 [] [false, false, false, false, true, false, false, false, false, false], hz_r (.goto 9) 3, hz_n, hz_n, hz_m (.iload_n 3) 1 [] [false, false, true, true, true, false, false, false, false, false], hz_r (.iload_n 2) 1],
  [hz_r (.iconst 1) 1, hz_r (.isub) 1, hz_r (.iand) 1, hz_r (.i2l) 1, hz_m (.invokevirtual 18) 3 [167, 2, 0] [false, false, false, false, true, false, false, false, false, false], hz_n, hz_n, hz_r (.iload 4) 2, hz_n, hz_r (.ireturn) 1]]
/-- HeavierServesModel.most(II)I -/
def hs_k224 : hs_K := [
  [hz_m (.aload_n 0) 1 [] [true, true, true, false, false, false, false], hz_r (.iconst 0) 1, hz_m (.putfield 3) 3 [12, 0] [], hz_n, hz_n, hz_r (.aload_n 0) 1, hz_r (.iload_n 1) 1, hz_m (.invokevirtual 297) 3 [170, 2, 1] [], hz_n, hz_n, hz_r (.ifCond .eq 15) 3, hz_n, hz_n, hz_m (.iload_n 2) 1 [] [true, true, true, false, false, false, false], hz_r (.i2l) 1, hz_r (.lconst 0) 1],
  [hz_m (.ldc2_w 321) 3 [0, 10] [], hz_n, hz_n, hz_m (.invokestatic 120) 3 [163, 3, 1] [], hz_n, hz_n, hz_r (.ifCond .ne 5) 3, hz_n, hz_n, hz_m (.iconst (-1)) 1 [] [false, false, false, false, false, false, false], hz_r (.ireturn) 1, hz_m (.iconst (-1)) 1 [] [true, true, true, false, false, false, false], hz_r (.istore_n 3) 1, hz_r (.iconst 0) 1, hz_r (.istore 4) 2, hz_n],
  [hz_r (.iconst 0) 1, hz_r (.istore 5) 2, hz_n, hz_m (.iload 5) 2 [] [true, true, true, true, true, true, false], hz_n, hz_r (.iconst 1) 1, hz_r (.iload_n 2) 1, hz_r (.ishl) 1, hz_r (.if_icmp .ge 120) 3, hz_n, hz_n, hz_m (.aload_n 0) 1 [] [true, true, true, true, true, true, false], hz_m (.invokevirtual 313) 3 [216, 1, 0] [], hz_n, hz_n, hz_r (.iconst 0) 1],
  [hz_r (.istore 6) 2, hz_n, hz_r (.iload 6) 2, hz_n, hz_r (.iload_n 2) 1, hz_r (.if_icmp .ge 45) 3, hz_n, hz_n, hz_r (.aload_n 0) 1, hz_r (.aload_n 0) 1, hz_r (.aload_n 0) 1, hz_m (.getfield 47) 3 [12, 11] [], hz_n, hz_n, hz_m (.invokevirtual 288) 3 [193, 2, 1] [], hz_n],
  [hz_n, hz_r (.iconst 1) 1, hz_r (.iload_n 1) 1, hz_r (.ishl) 1, hz_r (.iconst (-1)) 1, hz_r (.ixor) 1, hz_r (.iand) 1, hz_r (.iload 5) 2, hz_n, hz_r (.iload 6) 2, hz_n, hz_m (.invokestatic 128) 3 [164, 2, 1] [], hz_n, hz_n, hz_r (.ifCond .eq 9) 3, hz_n],
  [hz_n, hz_r (.iconst 1) 1, hz_r (.iload_n 1) 1, hz_r (.ishl) 1, hz_r (.goto 4) 3, hz_n, hz_n, hz_r (.iconst 0) 1, hz_r (.ior) 1, hz_m (.invokevirtual 307) 3 [217, 2, 0] [], hz_n, hz_n, hz_r (.iinc 6 1) 3, hz_n, hz_n, hz_r (.goto (-45)) 3],
  [hz_n, hz_n, hz_m (.aload_n 0) 1 [] [true, true, true, true, true, true, false], hz_m (.getfield 80) 3 [12, 32] [], hz_n, hz_n, hz_r (.iload_n 1) 1, hz_r (.iaload) 1, hz_r (.iload_n 3) 1, hz_r (.if_icmp .ne 20) 3, hz_n, hz_n, hz_m (.iload 5) 2 [] [true, true, true, true, true, true, false], hz_n, hz_m (.invokestatic 323) 3 [0, 1, 1] [], hz_n],
  [hz_n, hz_r (.iload 4) 2, hz_n, hz_m (.invokestatic 323) 3 [0, 1, 1] [], hz_n, hz_n, hz_r (.if_icmp .ge 7) 3, hz_n, hz_n, hz_m (.iconst 1) 1 [] [true, true, true, true, true, true, false], hz_r (.goto 4) 3, hz_n, hz_n, hz_m (.iconst 0) 1 [] [true, true, true, true, true, true, false], hz_m (.istore 6) 2 [] [true, true, true, true, true, true, false], hz_n],
  [hz_r (.aload_n 0) 1, hz_m (.getfield 80) 3 [12, 32] [], hz_n, hz_n, hz_r (.iload_n 1) 1, hz_r (.iaload) 1, hz_r (.iload_n 3) 1, hz_r (.if_icmp .gt 8) 3, hz_n, hz_n, hz_r (.iload 6) 2, hz_n, hz_r (.ifCond .eq 14) 3, hz_n, hz_n, hz_m (.aload_n 0) 1 [] [true, true, true, false, false, true, false]],
  [hz_m (.getfield 80) 3 [12, 32] [], hz_n, hz_n, hz_r (.iload_n 1) 1, hz_r (.iaload) 1, hz_r (.istore_n 3) 1, hz_r (.iload 5) 2, hz_n, hz_r (.istore 4) 2, hz_n, hz_m (.iinc 5 1) 3 [] [true, true, true, true, true, true, false], hz_n, hz_n, hz_r (.goto (-122)) 3, hz_n, hz_n],
  [hz_m (.aload_n 0) 1 [] [true, false, false, true, true, false, false], hz_r (.iconst 0) 1, hz_m (.putfield 15) 3 [12, 1] [], hz_n, hz_n, hz_r (.aload_n 0) 1, hz_r (.iload 4) 2, hz_n, hz_r (.i2l) 1, hz_m (.invokevirtual 18) 3 [167, 2, 0] [], hz_n, hz_n, hz_r (.iload_n 3) 1, hz_r (.ireturn) 1]]
/-- HeavierServesModel.byPlans(II)I -/
def hs_k225 : hs_K := [
  [hz_m (.aload_n 0) 1 [] [true, true, true, false, false, false], hz_m (.invokevirtual 313) 3 [216, 1, 0] [], hz_n, hz_n, hz_r (.iconst 0) 1, hz_r (.istore_n 3) 1, hz_m (.iload_n 3) 1 [] [true, true, true, true, false, false], hz_r (.iload_n 2) 1, hz_r (.if_icmp .ge 63) 3, hz_n, hz_n, hz_m (.iconst 0) 1 [] [true, true, true, true, false, false], hz_r (.istore 4) 2, hz_n, hz_r (.iconst 0) 1, hz_r (.istore 5) 2],
  [hz_n, hz_r (.iload 5) 2, hz_n, hz_r (.aload_n 0) 1, hz_m (.getfield 117) 3 [12, 3] [], hz_n, hz_n, hz_r (.if_icmp .ge 36) 3, hz_n, hz_n, hz_r (.iload 4) 2, hz_n, hz_r (.aload_n 0) 1, hz_m (.getfield 83) 3 [12, 33] [], hz_n, hz_n],
  [hz_r (.iload 5) 2, hz_n, hz_r (.iaload) 1, hz_r (.iload_n 3) 1, hz_m (.invokestatic 128) 3 [164, 2, 1] [], hz_n, hz_n, hz_r (.ifCond .eq 10) 3, hz_n, hz_n, hz_m (.iconst 1) 1 [] [true, true, true, true, false, true], hz_r (.iload 5) 2, hz_n, hz_r (.ishl) 1, hz_r (.goto 4) 3, hz_n],
  [hz_n, hz_m (.iconst 0) 1 [] [true, true, true, true, false, true], hz_m (.ior) 1 [] [true, true, true, true, false, true], hz_r (.istore 4) 2, hz_n, hz_r (.iinc 5 1) 3, hz_n, hz_n, hz_r (.goto (-39)) 3, hz_n, hz_n, hz_m (.aload_n 0) 1 [] [true, true, true, true, true, false], hz_r (.iload 4) 2, hz_n, hz_m (.invokevirtual 307) 3 [217, 2, 0] [], hz_n],
  [hz_n, hz_r (.iinc 3 1) 3, hz_n, hz_n, hz_r (.goto (-62)) 3, hz_n, hz_n, hz_m (.aload_n 0) 1 [] [true, true, false, false, false, false], hz_m (.getfield 80) 3 [12, 32] [], hz_n, hz_n, hz_r (.iload_n 1) 1, hz_r (.iaload) 1, hz_r (.ireturn) 1]]
/-- HeavierServesModel.plans(II)Z -/
def hs_k226 : hs_K := [
  [hz_m (.aload_n 0) 1 [] [true, true, true, false, false, false, false, false], hz_m (.getfield 83) 3 [12, 33] [], hz_n, hz_n, hz_r (.iload_n 1) 1, hz_r (.iaload) 1, hz_r (.istore_n 3) 1, hz_r (.iload_n 3) 1, hz_r (.istore 4) 2, hz_n, hz_r (.aload_n 0) 1, hz_r (.iload_n 1) 1, hz_r (.iload_n 2) 1, hz_m (.invokevirtual 328) 3 [225, 3, 1] [], hz_n, hz_n],
  [hz_r (.istore 5) 2, hz_n, hz_r (.iconst 0) 1, hz_r (.istore 6) 2, hz_n, hz_m (.iload 6) 2 [] [true, true, true, true, true, true, true, false], hz_n, hz_r (.iconst 1) 1, hz_r (.iload_n 2) 1, hz_r (.ishl) 1, hz_r (.if_icmp .ge 50) 3, hz_n, hz_n, hz_m (.aload_n 0) 1 [] [true, true, true, true, true, true, true, false], hz_m (.getfield 83) 3 [12, 33] [], hz_n],
  [hz_n, hz_r (.iload_n 1) 1, hz_r (.iload 6) 2, hz_n, hz_r (.iastore) 1, hz_r (.aload_n 0) 1, hz_r (.iload_n 1) 1, hz_r (.iload_n 2) 1, hz_m (.invokevirtual 328) 3 [225, 3, 1] [], hz_n, hz_n, hz_r (.istore 7) 2, hz_n, hz_r (.iload 7) 2, hz_n, hz_r (.iload 5) 2],
  [hz_n, hz_r (.if_icmp .le 8) 3, hz_n, hz_n, hz_m (.iload 6) 2 [] [true, true, true, true, false, true, true, true], hz_n, hz_r (.goto 5) 3, hz_n, hz_n, hz_r (.iload 4) 2, hz_n, hz_m (.istore 4) 2 [] [true, true, true, true, false, true, true, true], hz_n, hz_r (.iload 5) 2, hz_n, hz_r (.iload 7) 2],
  [hz_n, hz_m (.invokestatic 254) 3 [2, 2, 1] [], hz_n, hz_n, hz_r (.istore 5) 2, hz_n, hz_r (.iinc 6 1) 3, hz_n, hz_n, hz_r (.goto (-52)) 3, hz_n, hz_n, hz_m (.aload_n 0) 1 [] [true, true, false, true, true, false, false, false], hz_m (.getfield 83) 3 [12, 33] [], hz_n, hz_n],
  [hz_r (.iload_n 1) 1, hz_r (.iload 4) 2, hz_n, hz_r (.iastore) 1, hz_r (.iload 4) 2, hz_n, hz_r (.iload_n 3) 1, hz_r (.if_icmp .eq 7) 3, hz_n, hz_n, hz_m (.iconst 1) 1 [] [false, false, false, false, false, false, false, false], hz_r (.goto 4) 3, hz_n, hz_n, hz_m (.iconst 0) 1 [] [false, false, false, false, false, false, false, false], hz_m (.ireturn) 1 [] [false, false, false, false, false, false, false, false]]]
/-- HeavierServesModel.rests(II)I -/
def hs_k227 : hs_K := [
  [hz_m (.aload_n 0) 1 [] [true, true, true, false, false, false], hz_r (.iconst 0) 1, hz_m (.putfield 3) 3 [12, 0] [], hz_n, hz_n, hz_r (.iload_n 1) 1, hz_r (.i2l) 1, hz_r (.lconst 1) 1, hz_m (.ldc2_w 331) 3 [0, 4] [], hz_n, hz_n, hz_m (.invokestatic 120) 3 [163, 3, 1] [], hz_n, hz_n, hz_r (.ifCond .eq 15) 3, hz_n],
  [hz_n, hz_m (.iload_n 2) 1 [] [true, true, true, false, false, false], hz_r (.i2l) 1, hz_r (.lconst 0) 1, hz_m (.ldc2_w 333) 3 [0, 20] [], hz_n, hz_n, hz_m (.invokestatic 120) 3 [163, 3, 1] [], hz_n, hz_n, hz_r (.ifCond .ne 5) 3, hz_n, hz_n, hz_m (.iconst (-1)) 1 [] [false, false, false, false, false, false], hz_r (.ireturn) 1, hz_m (.iconst 0) 1 [] [true, true, true, false, false, false]],
  [hz_r (.istore_n 3) 1, hz_m (.iload_n 3) 1 [] [true, true, true, true, false, false], hz_r (.bipush 8) 2, hz_n, hz_r (.if_icmp .ge 20) 3, hz_n, hz_n, hz_m (.aload_n 0) 1 [] [true, true, true, true, false, false], hz_m (.getfield 83) 3 [12, 33] [], hz_n, hz_n, hz_r (.iload_n 3) 1, hz_r (.iconst 1) 1, hz_r (.iload_n 1) 1, hz_r (.ishl) 1, hz_r (.iconst 1) 1],
  [hz_r (.isub) 1, hz_r (.iastore) 1, hz_r (.iinc 3 1) 3, hz_n, hz_n, hz_r (.goto (-20)) 3, hz_n, hz_n, hz_m (.iconst 0) 1 [] [true, true, true, false, false, false], hz_r (.istore_n 3) 1, hz_r (.iconst 0) 1, hz_r (.istore 4) 2, hz_n, hz_m (.iload_n 3) 1 [] [true, true, true, true, true, false], hz_r (.iload_n 2) 1, hz_r (.if_icmp .ge 66) 3],
  [hz_n, hz_n, hz_m (.iload 4) 2 [] [true, true, true, true, true, false], hz_n, hz_r (.ifCond .ne 61) 3, hz_n, hz_n, hz_m (.iconst 1) 1 [] [true, true, true, true, false, false], hz_r (.istore 4) 2, hz_n, hz_r (.iconst 0) 1, hz_r (.istore 5) 2, hz_n, hz_r (.iload 5) 2, hz_n, hz_r (.aload_n 0) 1],
  [hz_m (.getfield 117) 3 [12, 3] [], hz_n, hz_n, hz_r (.if_icmp .ge 40) 3, hz_n, hz_n, hz_r (.aload_n 0) 1, hz_r (.iload 5) 2, hz_n, hz_m (.invokevirtual 297) 3 [170, 2, 1] [], hz_n, hz_n, hz_r (.ifCond .eq 13) 3, hz_n, hz_n, hz_r (.aload_n 0) 1],
  [hz_r (.iload 5) 2, hz_n, hz_r (.iload_n 1) 1, hz_m (.invokevirtual 335) 3 [226, 3, 1] [], hz_n, hz_n, hz_r (.ifCond .ne 12) 3, hz_n, hz_n, hz_r (.iload 4) 2, hz_n, hz_r (.ifCond .eq 7) 3, hz_n, hz_n, hz_m (.iconst 1) 1 [] [true, true, true, true, false, true], hz_r (.goto 4) 3],
  [hz_n, hz_n, hz_m (.iconst 0) 1 [] [true, true, true, true, false, true], hz_m (.istore 4) 2 [] [true, true, true, true, false, true], hz_n, hz_r (.iinc 5 1) 3, hz_n, hz_n, hz_r (.goto (-43)) 3, hz_n, hz_n, hz_m (.iinc 3 1) 3 [] [true, true, true, true, true, false], hz_n, hz_n, hz_r (.goto (-65)) 3, hz_n],
  [hz_n, hz_m (.aload_n 0) 1 [] [true, false, false, true, true, false], hz_r (.iconst 0) 1, hz_m (.putfield 15) 3 [12, 1] [], hz_n, hz_n, hz_r (.aload_n 0) 1, hz_r (.iload 4) 2, hz_n, hz_m (.invokestatic 150) 3 [165, 1, 1] [], hz_n, hz_n, hz_r (.i2l) 1, hz_m (.invokevirtual 18) 3 [167, 2, 0] [], hz_n, hz_n],
  [hz_r (.iconst 0) 1, hz_r (.istore 5) 2, hz_n, hz_m (.iload 5) 2 [] [true, false, false, true, false, true], hz_n, hz_r (.aload_n 0) 1, hz_m (.getfield 117) 3 [12, 3] [], hz_n, hz_n, hz_r (.if_icmp .ge 21) 3, hz_n, hz_n, hz_m (.aload_n 0) 1 [] [true, false, false, true, false, true], hz_r (.aload_n 0) 1, hz_m (.getfield 83) 3 [12, 33] [], hz_n],
  [hz_n, hz_r (.iload 5) 2, hz_n, hz_r (.iaload) 1, hz_r (.i2l) 1, hz_m (.invokevirtual 18) 3 [167, 2, 0] [], hz_n, hz_n, hz_r (.iinc 5 1) 3, hz_n, hz_n, hz_r (.goto (-24)) 3, hz_n, hz_n, hz_m (.iload_n 3) 1 [] [false, false, false, true, false, false], hz_r (.ireturn) 1]]
/-- HeavierServesModel.servedBy(I)I -/
def hs_k228 : hs_K := [
  [hz_m (.iconst 0) 1 [] [true, true, false, false], hz_r (.istore_n 2) 1, hz_r (.iconst 0) 1, hz_r (.istore_n 3) 1, hz_r (.iload_n 3) 1, hz_r (.aload_n 0) 1, hz_m (.getfield 117) 3 [12, 3] [], hz_n, hz_n, hz_r (.if_icmp .ge 32) 3, hz_n, hz_n, hz_r (.iload_n 2) 1, hz_r (.aload_n 0) 1, hz_m (.getfield 28) 3 [12, 4] [], hz_n],
  [hz_n, hz_r (.iload_n 3) 1, hz_r (.iaload) 1, hz_r (.iload_n 1) 1, hz_r (.if_icmp .ne 12) 3, hz_n, hz_n, hz_m (.aload_n 0) 1 [] [true, true, false, true], hz_m (.getfield 80) 3 [12, 32] [], hz_n, hz_n, hz_r (.iload_n 3) 1, hz_r (.iaload) 1, hz_r (.goto 4) 3, hz_n, hz_n],
  [hz_m (.iconst 0) 1 [] [true, true, false, true], hz_m (.iadd) 1 [] [true, true, false, true], hz_r (.istore_n 2) 1, hz_r (.iinc 3 1) 3, hz_n, hz_n, hz_r (.goto (-34)) 3, hz_n, hz_n, hz_m (.iload_n 2) 1 [] [false, false, true, false], hz_r (.ireturn) 1]]
/-- HeavierServesModel.party(I)I -/
def hs_k229 : hs_K := [
  [hz_m (.aload_n 0) 1 [] [true, true, false, false, false, false, false], hz_r (.iconst 0) 1, hz_m (.putfield 3) 3 [12, 0] [], hz_n, hz_n, hz_r (.iload_n 1) 1, hz_m (.invokestatic 310) 3 [219, 1, 1] [], hz_n, hz_n, hz_r (.ifCond .ne 6) 3, hz_n, hz_n, hz_m (.bipush (-2)) 2 [] [false, false, false, false, false, false, false], hz_n, hz_r (.ireturn) 1, hz_m (.aload_n 0) 1 [] [true, true, false, false, false, false, false]],
  [hz_m (.invokevirtual 313) 3 [216, 1, 0] [], hz_n, hz_n, hz_r (.aload_n 0) 1, hz_r (.iload_n 1) 1, hz_r (.iconst 0) 1, hz_m (.invokevirtual 316) 3 [218, 3, 0] [], hz_n, hz_n, hz_r (.iconst (-1)) 1, hz_r (.istore_n 2) 1, hz_r (.iconst 0) 1, hz_r (.istore_n 3) 1, hz_r (.iconst 0) 1, hz_r (.istore 4) 2, hz_n],
  [hz_r (.aload_n 0) 1, hz_r (.iconst 0) 1, hz_m (.putfield 15) 3 [12, 1] [], hz_n, hz_n, hz_r (.iconst 0) 1, hz_r (.istore 5) 2, hz_n, hz_m (.iload 5) 2 [] [true, false, true, true, true, true, false], hz_n, hz_r (.iconst 4) 1, hz_r (.if_icmp .ge 44) 3, hz_n, hz_n, hz_m (.aload_n 0) 1 [] [true, false, true, true, true, true, false], hz_r (.iload 5) 2],
  [hz_n, hz_m (.invokevirtual 338) 3 [228, 2, 1] [], hz_n, hz_n, hz_r (.istore 6) 2, hz_n, hz_r (.aload_n 0) 1, hz_r (.iload 6) 2, hz_n, hz_r (.i2l) 1, hz_m (.invokevirtual 18) 3 [167, 2, 0] [], hz_n, hz_n, hz_r (.iload 6) 2, hz_n, hz_r (.iload_n 3) 1],
  [hz_r (.if_icmp .le 8) 3, hz_n, hz_n, hz_m (.iload 5) 2 [] [true, false, false, true, true, true, true], hz_n, hz_r (.goto 4) 3, hz_n, hz_n, hz_m (.iload_n 2) 1 [] [true, false, true, true, true, true, true], hz_m (.istore_n 2) 1 [] [true, false, false, true, true, true, true], hz_r (.iload_n 3) 1, hz_r (.iload 6) 2, hz_n, hz_m (.invokestatic 254) 3 [2, 2, 1] [], hz_n, hz_n],
  [hz_r (.istore_n 3) 1, hz_r (.iinc 5 1) 3, hz_n, hz_n, hz_r (.goto (-44)) 3, hz_n, hz_n, hz_m (.iconst 0) 1 [] [true, false, true, false, true, false, false], hz_r (.istore 5) 2, hz_n, hz_m (.iload 5) 2 [] [true, false, true, false, true, true, false], hz_n, hz_r (.aload_n 0) 1, hz_m (.getfield 117) 3 [12, 3] [], hz_n, hz_n],
  [hz_r (.if_icmp .ge 32) 3, hz_n, hz_n, hz_m (.iload 4) 2 [] [true, false, true, false, true, true, false], hz_n, hz_r (.aload_n 0) 1, hz_m (.getfield 80) 3 [12, 32] [], hz_n, hz_n, hz_r (.iload 5) 2, hz_n, hz_r (.iaload) 1, hz_r (.ifCond .le 10) 3, hz_n, hz_n, hz_m (.iconst 1) 1 [] [true, false, true, false, false, true, false]],
  [hz_r (.iload 5) 2, hz_n, hz_r (.ishl) 1, hz_r (.goto 4) 3, hz_n, hz_n, hz_m (.iconst 0) 1 [] [true, false, true, false, false, true, false], hz_m (.ior) 1 [] [true, false, true, false, false, true, false], hz_r (.istore 4) 2, hz_n, hz_r (.iinc 5 1) 3, hz_n, hz_n, hz_r (.goto (-35)) 3, hz_n, hz_n],
  [hz_m (.aload_n 0) 1 [] [true, false, true, false, true, false, false], hz_r (.iload 4) 2, hz_n, hz_r (.i2l) 1, hz_m (.invokevirtual 18) 3 [167, 2, 0] [], hz_n, hz_n, hz_r (.iload_n 2) 1, hz_r (.ireturn) 1]]
/-- HeavierServesModel.byTurns(II)I -/
def hs_k230 : hs_K := [
  [hz_m (.aload_n 0) 1 [] [true, true, true, false, false, false, false, false], hz_r (.iconst 0) 1, hz_m (.putfield 3) 3 [12, 0] [], hz_n, hz_n, hz_r (.iload_n 1) 1, hz_r (.i2l) 1, hz_r (.lconst 0) 1, hz_m (.ldc2_w 267) 3 [0, 3] [], hz_n, hz_n, hz_m (.invokestatic 120) 3 [163, 3, 1] [], hz_n, hz_n, hz_r (.ifCond .eq 10) 3, hz_n],
  [hz_n, hz_m (.iload_n 2) 1 [] [true, true, true, false, false, false, false, false], hz_m (.invokestatic 310) 3 [219, 1, 1] [], hz_n, hz_n, hz_r (.ifCond .ne 5) 3, hz_n, hz_n, hz_m (.iconst (-1)) 1 [] [false, false, false, false, false, false, false, false], hz_r (.ireturn) 1, hz_m (.aload_n 0) 1 [] [true, true, true, false, false, false, false, false], hz_m (.invokevirtual 313) 3 [216, 1, 0] [], hz_n, hz_n, hz_r (.aload_n 0) 1, hz_r (.iload_n 2) 1],
  [hz_r (.iconst 0) 1, hz_m (.invokevirtual 316) 3 [218, 3, 0] [], hz_n, hz_n, hz_r (.aload_n 0) 1, hz_r (.iload_n 1) 1, hz_m (.invokevirtual 338) 3 [228, 2, 1] [], hz_n, hz_n, hz_r (.istore_n 3) 1, hz_r (.iconst 0) 1, hz_r (.istore 4) 2, hz_n, hz_r (.iconst 0) 1, hz_r (.istore 5) 2, hz_n],
  [hz_m (.iload 5) 2 [] [true, true, true, true, true, true, false, false], hz_n, hz_r (.aload_n 0) 1, hz_m (.getfield 117) 3 [12, 3] [], hz_n, hz_n, hz_r (.if_icmp .ge 48) 3, hz_n, hz_n, hz_m (.iload 4) 2 [] [true, true, true, true, true, true, false, false], hz_n, hz_r (.aload_n 0) 1, hz_m (.getfield 28) 3 [12, 4] [], hz_n, hz_n, hz_r (.iload 5) 2],
  [hz_n, hz_r (.iaload) 1, hz_r (.iload_n 1) 1, hz_r (.if_icmp .ne 25) 3, hz_n, hz_n, hz_m (.aload_n 0) 1 [] [true, true, true, true, false, true, false, false], hz_m (.getfield 44) 3 [12, 10] [], hz_n, hz_n, hz_r (.bipush 16) 2, hz_n, hz_r (.iaload) 1, hz_r (.iload 5) 2, hz_n, hz_m (.invokestatic 128) 3 [164, 2, 1] []],
  [hz_n, hz_n, hz_r (.ifCond .eq 10) 3, hz_n, hz_n, hz_m (.iconst 1) 1 [] [true, true, true, true, false, true, false, false], hz_r (.iload 5) 2, hz_n, hz_r (.ishl) 1, hz_r (.goto 4) 3, hz_n, hz_n, hz_m (.iconst 0) 1 [] [true, true, true, true, false, true, false, false], hz_m (.ior) 1 [] [true, true, true, true, false, true, false, false], hz_r (.istore 4) 2, hz_n],
  [hz_r (.iinc 5 1) 3, hz_n, hz_n, hz_r (.goto (-51)) 3, hz_n, hz_n, hz_m (.aload_n 0) 1 [] [true, true, true, true, true, false, false, false], hz_m (.invokevirtual 313) 3 [216, 1, 0] [], hz_n, hz_n, hz_r (.iconst (-1)) 1, hz_r (.istore 5) 2, hz_n, hz_r (.iconst 0) 1, hz_r (.istore 6) 2, hz_n],
  [hz_m (.iload 6) 2 [] [true, true, true, true, true, true, true, false], hz_n, hz_r (.iload_n 2) 1, hz_r (.if_icmp .ge 75) 3, hz_n, hz_n, hz_m (.aload_n 0) 1 [] [true, true, true, true, true, true, true, false], hz_r (.aload_n 0) 1, hz_m (.getfield 47) 3 [12, 11] [], hz_n, hz_n, hz_m (.invokevirtual 288) 3 [193, 2, 1] [], hz_n, hz_n, hz_r (.iload 4) 2, hz_n],
  [hz_r (.iconst (-1)) 1, hz_r (.ixor) 1, hz_r (.iand) 1, hz_r (.istore 7) 2, hz_n, hz_r (.iload 4) 2, hz_n, hz_r (.ifCond .eq 43) 3, hz_n, hz_n, hz_r (.iload 5) 2, hz_n, hz_r (.iconst 1) 1, hz_r (.iadd) 1, hz_r (.bipush 8) 2, hz_n],
  [hz_r (.irem) 1, hz_r (.istore 5) 2, hz_n, hz_r (.iload 4) 2, hz_n, hz_r (.iload 5) 2, hz_n, hz_m (.invokestatic 128) 3 [164, 2, 1] [], hz_n, hz_n, hz_r (.ifCond .ne 15) 3, hz_n, hz_n, hz_r (.iload 5) 2, hz_n, hz_r (.iconst 1) 1],
  [hz_r (.iadd) 1, hz_r (.bipush 8) 2, hz_n, hz_r (.irem) 1, hz_r (.istore 5) 2, hz_n, hz_r (.goto (-19)) 3, hz_n, hz_n, hz_r (.iload 7) 2, hz_n, hz_r (.iconst 1) 1, hz_r (.iload 5) 2, hz_n, hz_r (.ishl) 1, hz_r (.ior) 1],
  [hz_r (.istore 7) 2, hz_n, hz_r (.aload_n 0) 1, hz_r (.iload 7) 2, hz_n, hz_m (.invokevirtual 307) 3 [217, 2, 0] [], hz_n, hz_n, hz_r (.iinc 6 1) 3, hz_n, hz_n, hz_r (.goto (-75)) 3, hz_n, hz_n, hz_m (.aload_n 0) 1 [] [true, true, false, true, false, false, false, false], hz_r (.iconst 0) 1],
  [hz_m (.putfield 15) 3 [12, 1] [], hz_n, hz_n, hz_r (.aload_n 0) 1, hz_r (.aload_n 0) 1, hz_r (.iload_n 1) 1, hz_m (.invokevirtual 338) 3 [228, 2, 1] [], hz_n, hz_n, hz_r (.iload_n 3) 1, hz_r (.isub) 1, hz_r (.i2l) 1, hz_m (.invokevirtual 18) 3 [167, 2, 0] [], hz_n, hz_n, hz_r (.aload_n 0) 1],
  [hz_r (.iload_n 1) 1, hz_m (.invokevirtual 338) 3 [228, 2, 1] [], hz_n, hz_n, hz_r (.ireturn) 1]]
/-- HeavierServesModel.fool(II)I -/
def hs_k231 : hs_K := [
  [hz_m (.aload_n 0) 1 [] [true, true, true, false, false], hz_r (.iconst 0) 1, hz_m (.putfield 3) 3 [12, 0] [], hz_n, hz_n, hz_r (.aload_n 0) 1, hz_r (.iload_n 1) 1, hz_m (.invokevirtual 124) 3 [169, 2, 1] [], hz_n, hz_n, hz_r (.ifCond .eq 10) 3, hz_n, hz_n, hz_m (.iload_n 2) 1 [] [true, true, true, false, false], hz_m (.invokestatic 310) 3 [219, 1, 1] [], hz_n],
  [hz_n, hz_r (.ifCond .ne 8) 3, hz_n, hz_n, hz_m (.aload_n 0) 1 [] [true, false, false, false, false], hz_m (.invokevirtual 259) 3 [162, 1, 1] [], hz_n, hz_n, hz_r (.ireturn) 1, hz_m (.aload_n 0) 1 [] [true, true, true, false, false], hz_m (.invokevirtual 313) 3 [216, 1, 0] [], hz_n, hz_n, hz_r (.aload_n 0) 1, hz_r (.iload_n 2) 1, hz_r (.iconst 0) 1],
  [hz_m (.invokevirtual 316) 3 [218, 3, 0] [], hz_n, hz_n, hz_r (.aload_n 0) 1, hz_r (.aload_n 0) 1, hz_m (.getfield 28) 3 [12, 4] [], hz_n, hz_n, hz_r (.iload_n 1) 1, hz_r (.iaload) 1, hz_m (.invokevirtual 338) 3 [228, 2, 1] [], hz_n, hz_n, hz_r (.istore_n 3) 1, hz_r (.aload_n 0) 1, hz_m (.invokevirtual 313) 3 [216, 1, 0] []],
  [hz_n, hz_n, hz_r (.aload_n 0) 1, hz_r (.iload_n 2) 1, hz_r (.iconst 1) 1, hz_r (.iload_n 1) 1, hz_r (.ishl) 1, hz_m (.invokevirtual 316) 3 [218, 3, 0] [], hz_n, hz_n, hz_r (.aload_n 0) 1, hz_r (.aload_n 0) 1, hz_m (.getfield 28) 3 [12, 4] [], hz_n, hz_n, hz_r (.iload_n 1) 1],
  [hz_r (.iaload) 1, hz_m (.invokevirtual 338) 3 [228, 2, 1] [], hz_n, hz_n, hz_r (.istore 4) 2, hz_n, hz_r (.aload_n 0) 1, hz_r (.iconst 0) 1, hz_m (.putfield 15) 3 [12, 1] [], hz_n, hz_n, hz_r (.aload_n 0) 1, hz_r (.iload_n 3) 1, hz_r (.i2l) 1, hz_m (.invokevirtual 18) 3 [167, 2, 0] [], hz_n],
  [hz_n, hz_r (.aload_n 0) 1, hz_r (.iload 4) 2, hz_n, hz_r (.i2l) 1, hz_m (.invokevirtual 18) 3 [167, 2, 0] [], hz_n, hz_n, hz_r (.iload_n 3) 1, hz_r (.iload 4) 2, hz_n, hz_r (.isub) 1, hz_r (.ireturn) 1]]
/-- HeavierServesModel.areSixty(I)Z -/
def hs_k232 : hs_K := [
  [hz_r (.iload_n 0) 1, hz_r (.i2l) 1, hz_r (.lconst 0) 1, hz_m (.ldc2_w 341) 3 [0, 60] [], hz_n, hz_n, hz_m (.invokestatic 120) 3 [163, 3, 1] [], hz_n, hz_n, hz_r (.ireturn) 1]]
/-- HeavierServesModel.startsWith(II)V -/
def hs_k233 : hs_K := [
  [hz_r (.aload_n 0) 1, hz_m (.invokevirtual 313) 3 [216, 1, 0] [], hz_n, hz_n, hz_r (.aload_n 0) 1, hz_m (.getfield 47) 3 [12, 11] [], hz_n, hz_n, hz_r (.iload_n 1) 1, hz_r (.iconst 1) 1, hz_r (.sipush 999) 3, hz_n, hz_n, hz_r (.aload_n 0) 1, hz_m (.getfield 47) 3 [12, 11] [], hz_n],
  [hz_n, hz_r (.iload_n 1) 1, hz_r (.iaload) 1, hz_r (.iload_n 2) 1, hz_r (.iadd) 1, hz_m (.invokestatic 141) 3 [3, 2, 1] [], hz_n, hz_n, hz_m (.invokestatic 254) 3 [2, 2, 1] [], hz_n, hz_n, hz_r (.iastore) 1, hz_r (.return_) 1]]
/-- HeavierServesModel.hold(I)I -/
def hs_k234 : hs_K := [
  [hz_m (.aload_n 0) 1 [] [true, true, false, false], hz_r (.iconst 0) 1, hz_m (.putfield 3) 3 [12, 0] [], hz_n, hz_n, hz_r (.iload_n 1) 1, hz_m (.invokestatic 343) 3 [232, 1, 1] [], hz_n, hz_n, hz_r (.ifCond .ne 5) 3, hz_n, hz_n, hz_m (.iconst (-1)) 1 [] [false, false, false, false], hz_r (.ireturn) 1, hz_m (.aload_n 0) 1 [] [true, true, false, false], hz_m (.getfield 44) 3 [12, 10] []],
  [hz_n, hz_n, hz_r (.bipush 17) 2, hz_n, hz_r (.iaload) 1, hz_r (.istore_n 2) 1, hz_r (.iload_n 2) 1, hz_r (.ifCond .ge 6) 3, hz_n, hz_n, hz_m (.bipush (-3)) 2 [] [false, false, false, false], hz_n, hz_r (.ireturn) 1, hz_m (.iconst 0) 1 [] [true, true, true, false], hz_r (.istore_n 3) 1, hz_r (.iload_n 3) 1],
  [hz_r (.sipush 999) 3, hz_n, hz_n, hz_r (.if_icmp .gt 33) 3, hz_n, hz_n, hz_r (.aload_n 0) 1, hz_r (.iload_n 2) 1, hz_r (.iload_n 3) 1, hz_m (.invokevirtual 346) 3 [233, 3, 0] [], hz_n, hz_n, hz_r (.aload_n 0) 1, hz_r (.iload_n 1) 1, hz_r (.iconst 0) 1, hz_m (.invokevirtual 316) 3 [218, 3, 0] []],
  [hz_n, hz_n, hz_r (.aload_n 0) 1, hz_m (.getfield 80) 3 [12, 32] [], hz_n, hz_n, hz_r (.iload_n 2) 1, hz_r (.iaload) 1, hz_r (.iload_n 1) 1, hz_r (.if_icmp .ne 5) 3, hz_n, hz_n, hz_m (.iload_n 3) 1 [] [false, false, false, true], hz_r (.ireturn) 1, hz_r (.iinc 3 1) 3, hz_n],
  [hz_n, hz_r (.goto (-34)) 3, hz_n, hz_n, hz_m (.bipush (-2)) 2 [] [false, false, false, false], hz_n, hz_r (.ireturn) 1]]
/-- HeavierServesModel.bribe(II)I -/
def hs_k235 : hs_K := [
  [hz_m (.aload_n 0) 1 [] [true, true, true, false], hz_r (.iconst 0) 1, hz_m (.putfield 3) 3 [12, 0] [], hz_n, hz_n, hz_r (.aload_n 0) 1, hz_r (.iload_n 1) 1, hz_m (.invokevirtual 297) 3 [170, 2, 1] [], hz_n, hz_n, hz_r (.ifCond .eq 15) 3, hz_n, hz_n, hz_m (.iload_n 2) 1 [] [true, true, true, false], hz_r (.i2l) 1, hz_r (.lconst 1) 1],
  [hz_m (.ldc2_w 341) 3 [0, 60] [], hz_n, hz_n, hz_m (.invokestatic 120) 3 [163, 3, 1] [], hz_n, hz_n, hz_r (.ifCond .ne 5) 3, hz_n, hz_n, hz_m (.iconst (-1)) 1 [] [false, false, false, false], hz_r (.ireturn) 1, hz_m (.iconst 0) 1 [] [true, true, true, false], hz_r (.istore_n 3) 1, hz_r (.iload_n 3) 1, hz_r (.sipush 999) 3, hz_n],
  [hz_n, hz_r (.if_icmp .gt 50) 3, hz_n, hz_n, hz_r (.aload_n 0) 1, hz_r (.iload_n 1) 1, hz_r (.iload_n 3) 1, hz_m (.invokevirtual 346) 3 [233, 3, 0] [], hz_n, hz_n, hz_r (.aload_n 0) 1, hz_r (.iload_n 2) 1, hz_r (.iconst 0) 1, hz_m (.invokevirtual 316) 3 [218, 3, 0] [], hz_n, hz_n],
  [hz_r (.aload_n 0) 1, hz_m (.getfield 47) 3 [12, 11] [], hz_n, hz_n, hz_r (.bipush 17) 2, hz_n, hz_r (.iaload) 1, hz_r (.iload_n 1) 1, hz_r (.if_icmp .ne 21) 3, hz_n, hz_n, hz_m (.aload_n 0) 1 [] [true, true, false, true], hz_r (.iconst 0) 1, hz_m (.putfield 15) 3 [12, 1] [], hz_n, hz_n],
  [hz_r (.aload_n 0) 1, hz_r (.aload_n 0) 1, hz_m (.getfield 80) 3 [12, 32] [], hz_n, hz_n, hz_r (.iload_n 1) 1, hz_r (.iaload) 1, hz_r (.i2l) 1, hz_m (.invokevirtual 18) 3 [167, 2, 0] [], hz_n, hz_n, hz_r (.iload_n 3) 1, hz_r (.ireturn) 1, hz_r (.iinc 3 1) 3, hz_n, hz_n],
  [hz_r (.goto (-51)) 3, hz_n, hz_n, hz_m (.bipush (-2)) 2 [] [false, false, false, false], hz_n, hz_r (.ireturn) 1]]
/-- HeavierServesModel.starve(II)I -/
def hs_k236 : hs_K := [
  [hz_m (.aload_n 0) 1 [] [true, true, true, false], hz_r (.iconst 0) 1, hz_m (.putfield 3) 3 [12, 0] [], hz_n, hz_n, hz_r (.aload_n 0) 1, hz_r (.iload_n 1) 1, hz_m (.invokevirtual 297) 3 [170, 2, 1] [], hz_n, hz_n, hz_r (.ifCond .eq 10) 3, hz_n, hz_n, hz_m (.iload_n 2) 1 [] [true, true, true, false], hz_m (.invokestatic 343) 3 [232, 1, 1] [], hz_n],
  [hz_n, hz_r (.ifCond .ne 5) 3, hz_n, hz_n, hz_m (.iconst (-1)) 1 [] [false, false, false, false], hz_r (.ireturn) 1, hz_m (.iconst 0) 1 [] [true, true, true, false], hz_r (.istore_n 3) 1, hz_r (.iload_n 3) 1, hz_r (.sipush 999) 3, hz_n, hz_n, hz_r (.if_icmp .gt 33) 3, hz_n, hz_n, hz_r (.aload_n 0) 1],
  [hz_r (.iload_n 1) 1, hz_r (.iload_n 3) 1, hz_r (.ineg) 1, hz_m (.invokevirtual 346) 3 [233, 3, 0] [], hz_n, hz_n, hz_r (.aload_n 0) 1, hz_r (.iload_n 2) 1, hz_r (.iconst 0) 1, hz_m (.invokevirtual 316) 3 [218, 3, 0] [], hz_n, hz_n, hz_r (.aload_n 0) 1, hz_m (.getfield 80) 3 [12, 32] [], hz_n, hz_n],
  [hz_r (.iload_n 1) 1, hz_r (.iaload) 1, hz_r (.ifCond .ne 5) 3, hz_n, hz_n, hz_m (.iload_n 3) 1 [] [false, false, false, true], hz_r (.ireturn) 1, hz_r (.iinc 3 1) 3, hz_n, hz_n, hz_r (.goto (-34)) 3, hz_n, hz_n, hz_m (.bipush (-2)) 2 [] [false, false, false, false], hz_n, hz_r (.ireturn) 1]]
/-- HeavierServesModel.cheapest()I -/
def hs_k237 : hs_K := [
  [hz_m (.aload_n 0) 1 [] [true, false, false, false, false], hz_r (.iconst 0) 1, hz_m (.putfield 3) 3 [12, 0] [], hz_n, hz_n, hz_r (.bipush (-2)) 2, hz_n, hz_r (.istore_n 1) 1, hz_r (.sipush 1000) 3, hz_n, hz_n, hz_r (.istore_n 2) 1, hz_r (.iconst 0) 1, hz_r (.istore_n 3) 1, hz_m (.iload_n 3) 1 [] [true, true, true, true, false], hz_r (.aload_n 0) 1],
  [hz_m (.getfield 117) 3 [12, 3] [], hz_n, hz_n, hz_r (.if_icmp .ge 74) 3, hz_n, hz_n, hz_m (.aload_n 0) 1 [] [true, true, true, true, false], hz_r (.iload_n 3) 1, hz_m (.invokevirtual 297) 3 [170, 2, 1] [], hz_n, hz_n, hz_r (.ifCond .ne 6) 3, hz_n, hz_n, hz_m (.goto 57) 3 [] [true, true, true, true, false], hz_n],
  [hz_n, hz_m (.iconst 0) 1 [] [true, true, true, true, false], hz_r (.istore 4) 2, hz_n, hz_r (.iload 4) 2, hz_n, hz_r (.iload_n 2) 1, hz_r (.if_icmp .ge 48) 3, hz_n, hz_n, hz_r (.aload_n 0) 1, hz_r (.iload_n 3) 1, hz_r (.iload 4) 2, hz_n, hz_m (.invokevirtual 346) 3 [233, 3, 0] [], hz_n],
  [hz_n, hz_r (.aload_n 0) 1, hz_r (.aload_n 0) 1, hz_r (.aload_n 0) 1, hz_m (.getfield 47) 3 [12, 11] [], hz_n, hz_n, hz_m (.invokevirtual 288) 3 [193, 2, 1] [], hz_n, hz_n, hz_r (.iconst 1) 1, hz_r (.iload_n 3) 1, hz_r (.ishl) 1, hz_r (.ior) 1, hz_m (.invokevirtual 307) 3 [217, 2, 0] [], hz_n],
  [hz_n, hz_r (.aload_n 0) 1, hz_m (.getfield 47) 3 [12, 11] [], hz_n, hz_n, hz_r (.bipush 17) 2, hz_n, hz_r (.iaload) 1, hz_r (.iload_n 3) 1, hz_r (.if_icmp .ne 8) 3, hz_n, hz_n, hz_m (.iload_n 3) 1 [] [true, false, false, true, true], hz_r (.istore_n 1) 1, hz_r (.iload 4) 2, hz_n],
  [hz_r (.istore_n 2) 1, hz_r (.iinc 4 1) 3, hz_n, hz_n, hz_r (.goto (-48)) 3, hz_n, hz_n, hz_m (.iinc 3 1) 3 [] [true, true, true, true, false], hz_n, hz_n, hz_r (.goto (-76)) 3, hz_n, hz_n, hz_m (.iload_n 1) 1 [] [true, true, true, false, false], hz_r (.ifCond .ge 6) 3, hz_n],
  [hz_n, hz_m (.bipush (-2)) 2 [] [false, false, false, false, false], hz_n, hz_r (.ireturn) 1, hz_m (.aload_n 0) 1 [] [true, true, true, false, false], hz_r (.iconst 0) 1, hz_m (.putfield 15) 3 [12, 1] [], hz_n, hz_n, hz_r (.aload_n 0) 1, hz_r (.iload_n 2) 1, hz_r (.i2l) 1, hz_m (.invokevirtual 18) 3 [167, 2, 0] [], hz_n, hz_n, hz_r (.iload_n 1) 1],
  [hz_r (.ireturn) 1]]
/-- HeavierServesModel.weighed(II)I -/
def hs_k238 : hs_K := [
  [hz_r (.aload_n 0) 1, hz_r (.iconst 0) 1, hz_m (.putfield 3) 3 [12, 0] [], hz_n, hz_n, hz_r (.aload_n 0) 1, hz_r (.iload_n 1) 1, hz_m (.invokevirtual 124) 3 [169, 2, 1] [], hz_n, hz_n, hz_r (.ifCond .eq 24) 3, hz_n, hz_n, hz_r (.iload_n 2) 1, hz_r (.i2l) 1, hz_r (.lconst 0) 1],
  [hz_m (.ldc2_w 349) 3 [0, 1010] [], hz_n, hz_n, hz_m (.invokestatic 120) 3 [163, 3, 1] [], hz_n, hz_n, hz_r (.ifCond .eq 12) 3, hz_n, hz_n, hz_r (.aload_n 0) 1, hz_m (.getfield 351) 3 [12, 34] [], hz_n, hz_n, hz_r (.bipush 12) 2, hz_n, hz_r (.if_icmp .ne 5) 3],
  [hz_n, hz_n, hz_m (.iconst (-1)) 1 [] [false, false, false], hz_r (.ireturn) 1, hz_r (.aload_n 0) 1, hz_m (.getfield 86) 3 [12, 35] [], hz_n, hz_n, hz_r (.aload_n 0) 1, hz_m (.getfield 351) 3 [12, 34] [], hz_n, hz_n, hz_r (.iload_n 1) 1, hz_r (.iastore) 1, hz_r (.aload_n 0) 1, hz_m (.getfield 89) 3 [12, 36] []],
  [hz_n, hz_n, hz_r (.aload_n 0) 1, hz_m (.getfield 351) 3 [12, 34] [], hz_n, hz_n, hz_r (.iload_n 2) 1, hz_r (.iastore) 1, hz_r (.aload_n 0) 1, hz_r (.dup) 1, hz_m (.getfield 351) 3 [12, 34] [], hz_n, hz_n, hz_r (.iconst 1) 1, hz_r (.iadd) 1, hz_m (.putfield 351) 3 [12, 34] []],
  [hz_n, hz_n, hz_r (.aload_n 0) 1, hz_m (.getfield 351) 3 [12, 34] [], hz_n, hz_n, hz_r (.ireturn) 1]]
/-- HeavierServesModel.forget()I -/
def hs_k239 : hs_K := [
  [hz_r (.aload_n 0) 1, hz_r (.iconst 0) 1, hz_m (.putfield 3) 3 [12, 0] [], hz_n, hz_n, hz_r (.aload_n 0) 1, hz_m (.getfield 351) 3 [12, 34] [], hz_n, hz_n, hz_r (.ifCond .ne 5) 3, hz_n, hz_n, hz_m (.iconst (-1)) 1 [] [false], hz_r (.ireturn) 1, hz_r (.aload_n 0) 1, hz_r (.dup) 1],
  [hz_m (.getfield 351) 3 [12, 34] [], hz_n, hz_n, hz_r (.iconst 1) 1, hz_r (.isub) 1, hz_m (.putfield 351) 3 [12, 34] [], hz_n, hz_n, hz_r (.aload_n 0) 1, hz_m (.getfield 351) 3 [12, 34] [], hz_n, hz_n, hz_r (.ireturn) 1]]
/-- HeavierServesModel.canBe(II)Z -/
def hs_k240 : hs_K := [
  [hz_m (.iconst 1) 1 [] [true, true, true, false, false], hz_r (.istore_n 3) 1, hz_r (.iconst 0) 1, hz_r (.istore 4) 2, hz_n, hz_r (.iload 4) 2, hz_n, hz_r (.aload_n 0) 1, hz_m (.getfield 351) 3 [12, 34] [], hz_n, hz_n, hz_r (.if_icmp .ge 45) 3, hz_n, hz_n, hz_r (.iload_n 3) 1, hz_r (.ifCond .eq 33) 3],
  [hz_n, hz_n, hz_m (.aload_n 0) 1 [] [true, true, true, false, true], hz_m (.getfield 86) 3 [12, 35] [], hz_n, hz_n, hz_r (.iload 4) 2, hz_n, hz_r (.iaload) 1, hz_r (.iload_n 1) 1, hz_r (.if_icmp .ne 18) 3, hz_n, hz_n, hz_m (.aload_n 0) 1 [] [true, true, true, false, true], hz_m (.getfield 89) 3 [12, 36] [], hz_n],
  [hz_n, hz_r (.iload 4) 2, hz_n, hz_r (.iaload) 1, hz_r (.aload_n 0) 1, hz_r (.iload_n 2) 1, hz_m (.invokevirtual 262) 3 [194, 2, 1] [], hz_n, hz_n, hz_r (.if_icmp .ne 7) 3, hz_n, hz_n, hz_m (.iconst 1) 1 [] [true, true, true, false, true], hz_r (.goto 4) 3, hz_n, hz_n],
  [hz_m (.iconst 0) 1 [] [true, true, true, false, true], hz_m (.istore_n 3) 1 [] [true, true, true, false, true], hz_r (.iinc 4 1) 3, hz_n, hz_n, hz_r (.goto (-48)) 3, hz_n, hz_n, hz_m (.iload_n 3) 1 [] [false, false, false, true, false], hz_r (.ireturn) 1]]
/-- HeavierServesModel.weightsOf(IZ)I -/
def hs_k241 : hs_K := [
  [hz_m (.iconst 0) 1 [] [true, true, true, false, false, false, false], hz_r (.istore_n 3) 1, hz_r (.iconst 0) 1, hz_r (.istore 4) 2, hz_n, hz_r (.iconst 0) 1, hz_r (.istore 5) 2, hz_n, hz_r (.iconst 1) 1, hz_r (.istore 6) 2, hz_n, hz_r (.iload 6) 2, hz_n, hz_r (.sipush 999) 3, hz_n, hz_n],
  [hz_r (.if_icmp .gt 39) 3, hz_n, hz_n, hz_r (.aload_n 0) 1, hz_r (.iload_n 1) 1, hz_r (.iload 6) 2, hz_n, hz_m (.invokevirtual 354) 3 [240, 3, 1] [], hz_n, hz_n, hz_r (.ifCond .eq 23) 3, hz_n, hz_n, hz_m (.iload_n 3) 1 [] [true, true, true, true, true, false, true], hz_r (.ifCond .ne 8) 3, hz_n],
  [hz_n, hz_m (.iload 6) 2 [] [true, true, true, true, false, false, true], hz_n, hz_r (.goto 5) 3, hz_n, hz_n, hz_m (.iload 4) 2 [] [true, true, true, true, true, false, true], hz_n, hz_m (.istore 4) 2 [] [true, true, true, true, false, false, true], hz_n, hz_r (.iload 6) 2, hz_n, hz_r (.istore 5) 2, hz_n, hz_r (.iinc 3 1) 3, hz_n],
  [hz_n, hz_r (.iinc 6 1) 3, hz_n, hz_n, hz_r (.goto (-41)) 3, hz_n, hz_n, hz_m (.iload_n 2) 1 [] [true, false, true, true, true, true, false], hz_r (.ifCond .eq 12) 3, hz_n, hz_n, hz_m (.aload_n 0) 1 [] [true, false, false, true, true, true, false], hz_r (.iload_n 3) 1, hz_r (.iload 4) 2, hz_n, hz_r (.iload 5) 2],
  [hz_n, hz_m (.invokevirtual 357) 3 [242, 4, 0] [], hz_n, hz_n, hz_m (.iload_n 3) 1 [] [false, false, false, true, false, false, false], hz_r (.ireturn) 1]]
/-- HeavierServesModel.tellsSpan(III)V -/
def hs_k242 : hs_K := [
  [hz_r (.aload_n 0) 1, hz_r (.iconst 0) 1, hz_m (.putfield 15) 3 [12, 1] [], hz_n, hz_n, hz_r (.iload_n 1) 1, hz_r (.ifCond .le 15) 3, hz_n, hz_n, hz_m (.aload_n 0) 1 [] [true, false, true, true], hz_r (.iload_n 2) 1, hz_r (.i2l) 1, hz_m (.invokevirtual 18) 3 [167, 2, 0] [], hz_n, hz_n, hz_r (.aload_n 0) 1],
  [hz_r (.iload_n 3) 1, hz_r (.i2l) 1, hz_m (.invokevirtual 18) 3 [167, 2, 0] [], hz_n, hz_n, hz_m (.return_) 1 [] [false, false, false, false]]]
/-- HeavierServesModel.grains()I -/
def hs_k243 : hs_K := [
  [hz_m (.aload_n 0) 1 [] [true, false, false, false, false, false], hz_r (.iconst 0) 1, hz_m (.putfield 3) 3 [12, 0] [], hz_n, hz_n, hz_r (.aload_n 0) 1, hz_m (.getfield 41) 3 [12, 8] [], hz_n, hz_n, hz_r (.istore_n 1) 1, hz_r (.iconst 0) 1, hz_r (.istore_n 2) 1, hz_r (.iconst 1) 1, hz_r (.istore_n 3) 1, hz_m (.iload_n 3) 1 [] [true, true, true, true, false, false], hz_r (.bipush 9) 2],
  [hz_n, hz_r (.if_icmp .gt 72) 3, hz_n, hz_n, hz_m (.aload_n 0) 1 [] [true, true, true, true, false, false], hz_r (.iload_n 3) 1, hz_m (.putfield 41) 3 [12, 8] [], hz_n, hz_n, hz_r (.iconst 1) 1, hz_r (.istore 4) 2, hz_n, hz_r (.iconst 0) 1, hz_r (.istore 5) 2, hz_n, hz_r (.iload 5) 2],
  [hz_n, hz_r (.aload_n 0) 1, hz_m (.getfield 117) 3 [12, 3] [], hz_n, hz_n, hz_r (.if_icmp .ge 31) 3, hz_n, hz_n, hz_r (.iload 4) 2, hz_n, hz_r (.ifCond .eq 17) 3, hz_n, hz_n, hz_m (.aload_n 0) 1 [] [true, true, true, true, false, true], hz_r (.iload 5) 2, hz_n],
  [hz_r (.iconst 0) 1, hz_m (.invokevirtual 361) 3 [241, 3, 1] [], hz_n, hz_n, hz_r (.ifCond .le 7) 3, hz_n, hz_n, hz_m (.iconst 1) 1 [] [true, true, true, true, false, true], hz_r (.goto 4) 3, hz_n, hz_n, hz_m (.iconst 0) 1 [] [true, true, true, true, false, true], hz_m (.istore 4) 2 [] [true, true, true, true, false, true], hz_n, hz_r (.iinc 5 1) 3, hz_n],
  [hz_n, hz_r (.goto (-34)) 3, hz_n, hz_n, hz_m (.iload_n 2) 1 [] [true, true, true, true, true, false], hz_r (.iload 4) 2, hz_n, hz_r (.ifCond .eq 9) 3, hz_n, hz_n, hz_m (.iconst 1) 1 [] [true, true, false, true, false, false], hz_r (.iload_n 3) 1, hz_r (.ishl) 1, hz_r (.goto 4) 3, hz_n, hz_n],
  [hz_m (.iconst 0) 1 [] [true, true, false, true, false, false], hz_m (.ior) 1 [] [true, true, false, true, false, false], hz_r (.istore_n 2) 1, hz_r (.iinc 3 1) 3, hz_n, hz_n, hz_r (.goto (-72)) 3, hz_n, hz_n, hz_m (.aload_n 0) 1 [] [true, true, true, false, false, false], hz_r (.iload_n 1) 1, hz_m (.putfield 41) 3 [12, 8] [], hz_n, hz_n, hz_r (.iload_n 2) 1, hz_r (.ireturn) 1]]
/-- HeavierServesModel.span(I)I -/
def hs_k244 : hs_K := [
  [hz_r (.aload_n 0) 1, hz_r (.iconst 0) 1, hz_m (.putfield 3) 3 [12, 0] [], hz_n, hz_n, hz_r (.aload_n 0) 1, hz_r (.iload_n 1) 1, hz_m (.invokevirtual 124) 3 [169, 2, 1] [], hz_n, hz_n, hz_r (.ifCond .eq 12) 3, hz_n, hz_n, hz_r (.aload_n 0) 1, hz_r (.iload_n 1) 1, hz_r (.iconst 1) 1],
  [hz_m (.invokevirtual 361) 3 [241, 3, 1] [], hz_n, hz_n, hz_r (.goto 4) 3, hz_n, hz_n, hz_m (.iconst (-1)) 1 [] [false, false], hz_m (.ireturn) 1 [] [false, false]]]
/-- HeavierServesModel.wrong()I -/
def hs_k245 : hs_K := [
  [hz_m (.iconst 0) 1 [] [true, false, false], hz_r (.istore_n 1) 1, hz_r (.iconst 0) 1, hz_r (.istore_n 2) 1, hz_r (.iload_n 2) 1, hz_r (.aload_n 0) 1, hz_m (.getfield 117) 3 [12, 3] [], hz_n, hz_n, hz_r (.if_icmp .ge 33) 3, hz_n, hz_n, hz_r (.iload_n 1) 1, hz_r (.aload_n 0) 1, hz_r (.iload_n 2) 1, hz_r (.aload_n 0) 1],
  [hz_m (.getfield 44) 3 [12, 10] [], hz_n, hz_n, hz_r (.iload_n 2) 1, hz_r (.iaload) 1, hz_m (.invokevirtual 354) 3 [240, 3, 1] [], hz_n, hz_n, hz_r (.ifCond .eq 7) 3, hz_n, hz_n, hz_m (.iconst 0) 1 [] [true, false, true], hz_r (.goto 6) 3, hz_n, hz_n, hz_m (.iconst 1) 1 [] [true, false, true]],
  [hz_r (.iload_n 2) 1, hz_r (.ishl) 1, hz_m (.ior) 1 [] [true, false, true], hz_r (.istore_n 1) 1, hz_r (.iinc 2 1) 3, hz_n, hz_n, hz_r (.goto (-35)) 3, hz_n, hz_n, hz_m (.iload_n 1) 1 [] [false, true, false], hz_r (.ireturn) 1]]
/-- HeavierServesModel.offs()I -/
def hs_k246 : hs_K := [
  [hz_m (.aload_n 0) 1 [] [true, false, false, false, false], hz_r (.iconst 0) 1, hz_m (.putfield 3) 3 [12, 0] [], hz_n, hz_n, hz_r (.aload_n 0) 1, hz_m (.getfield 251) 3 [12, 9] [], hz_n, hz_n, hz_r (.istore_n 1) 1, hz_r (.iconst 0) 1, hz_r (.istore_n 2) 1, hz_r (.iconst 0) 1, hz_r (.istore_n 3) 1, hz_r (.iconst 0) 1, hz_r (.istore 4) 2],
  [hz_n, hz_r (.aload_n 0) 1, hz_r (.bipush (-9)) 2, hz_n, hz_m (.putfield 251) 3 [12, 9] [], hz_n, hz_n, hz_r (.aload_n 0) 1, hz_m (.getfield 251) 3 [12, 9] [], hz_n, hz_n, hz_r (.bipush 9) 2, hz_n, hz_r (.if_icmp .gt 45) 3, hz_n, hz_n],
  [hz_r (.aload_n 0) 1, hz_m (.invokevirtual 365) 3 [245, 1, 1] [], hz_n, hz_n, hz_r (.ifCond .ne 25) 3, hz_n, hz_n, hz_m (.iload_n 2) 1 [] [true, true, true, true, false], hz_r (.ifCond .ne 10) 3, hz_n, hz_n, hz_m (.aload_n 0) 1 [] [true, true, true, false, false], hz_m (.getfield 251) 3 [12, 9] [], hz_n, hz_n, hz_r (.goto 4) 3],
  [hz_n, hz_n, hz_m (.iload_n 3) 1 [] [true, true, true, true, false], hz_m (.istore_n 3) 1 [] [true, true, true, false, false], hz_r (.aload_n 0) 1, hz_m (.getfield 251) 3 [12, 9] [], hz_n, hz_n, hz_r (.istore 4) 2, hz_n, hz_r (.iinc 2 1) 3, hz_n, hz_n, hz_r (.aload_n 0) 1, hz_r (.dup) 1, hz_m (.getfield 251) 3 [12, 9] []],
  [hz_n, hz_n, hz_r (.iconst 1) 1, hz_r (.iadd) 1, hz_m (.putfield 251) 3 [12, 9] [], hz_n, hz_n, hz_r (.goto (-48)) 3, hz_n, hz_n, hz_r (.aload_n 0) 1, hz_r (.iload_n 1) 1, hz_m (.putfield 251) 3 [12, 9] [], hz_n, hz_n, hz_r (.aload_n 0) 1],
  [hz_r (.iload_n 2) 1, hz_r (.iload_n 3) 1, hz_r (.iload 4) 2, hz_n, hz_m (.invokevirtual 357) 3 [242, 4, 0] [], hz_n, hz_n, hz_r (.iload_n 2) 1, hz_r (.ireturn) 1]]
/-- HeavierServesModel.cheats()I -/
def hs_k247 : hs_K := [
  [hz_m (.aload_n 0) 1 [] [true, false, false, false, false, false], hz_r (.iconst 0) 1, hz_m (.putfield 3) 3 [12, 0] [], hz_n, hz_n, hz_r (.aload_n 0) 1, hz_m (.getfield 251) 3 [12, 9] [], hz_n, hz_n, hz_r (.istore_n 1) 1, hz_r (.bipush 9) 2, hz_n, hz_r (.istore_n 2) 1, hz_r (.iconst 0) 1, hz_r (.istore_n 3) 1, hz_r (.iconst 0) 1],
  [hz_r (.istore 4) 2, hz_n, hz_r (.aload_n 0) 1, hz_r (.bipush (-9)) 2, hz_n, hz_m (.putfield 251) 3 [12, 9] [], hz_n, hz_n, hz_m (.aload_n 0) 1 [] [true, true, true, true, true, false], hz_m (.getfield 251) 3 [12, 9] [], hz_n, hz_n, hz_r (.bipush 9) 2, hz_n, hz_r (.if_icmp .gt 46) 3, hz_n],
  [hz_n, hz_m (.aload_n 0) 1 [] [true, true, true, true, true, false], hz_m (.invokevirtual 365) 3 [245, 1, 1] [], hz_n, hz_n, hz_r (.istore 5) 2, hz_n, hz_r (.iload 5) 2, hz_n, hz_m (.invokestatic 323) 3 [0, 1, 1] [], hz_n, hz_n, hz_r (.iload_n 2) 1, hz_r (.if_icmp .ge 18) 3, hz_n, hz_n],
  [hz_m (.iload 5) 2 [] [true, true, false, false, false, true], hz_n, hz_m (.invokestatic 323) 3 [0, 1, 1] [], hz_n, hz_n, hz_r (.istore_n 2) 1, hz_r (.iload 5) 2, hz_n, hz_r (.istore_n 3) 1, hz_r (.aload_n 0) 1, hz_m (.getfield 251) 3 [12, 9] [], hz_n, hz_n, hz_r (.istore 4) 2, hz_n, hz_m (.aload_n 0) 1 [] [true, true, true, true, true, false]],
  [hz_r (.dup) 1, hz_m (.getfield 251) 3 [12, 9] [], hz_n, hz_n, hz_r (.iconst 1) 1, hz_r (.iadd) 1, hz_m (.putfield 251) 3 [12, 9] [], hz_n, hz_n, hz_r (.goto (-49)) 3, hz_n, hz_n, hz_m (.aload_n 0) 1 [] [true, true, true, true, true, false], hz_r (.iload_n 1) 1, hz_m (.putfield 251) 3 [12, 9] [], hz_n],
  [hz_n, hz_r (.aload_n 0) 1, hz_r (.iconst 0) 1, hz_m (.putfield 15) 3 [12, 1] [], hz_n, hz_n, hz_r (.aload_n 0) 1, hz_r (.iload_n 3) 1, hz_r (.i2l) 1, hz_m (.invokevirtual 18) 3 [167, 2, 0] [], hz_n, hz_n, hz_r (.aload_n 0) 1, hz_r (.iload 4) 2, hz_n, hz_r (.i2l) 1],
  [hz_m (.invokevirtual 18) 3 [167, 2, 0] [], hz_n, hz_n, hz_r (.iload_n 2) 1, hz_r (.ireturn) 1]]
/-- HeavierServesModel.told(II)I -/
def hs_k248 : hs_K := [
  [hz_r (.aload_n 0) 1, hz_r (.iconst 0) 1, hz_m (.putfield 3) 3 [12, 0] [], hz_n, hz_n, hz_r (.aload_n 0) 1, hz_r (.iload_n 1) 1, hz_m (.invokevirtual 124) 3 [169, 2, 1] [], hz_n, hz_n, hz_r (.ifCond .eq 24) 3, hz_n, hz_n, hz_r (.iload_n 2) 1, hz_r (.i2l) 1, hz_r (.lconst 1) 1],
  [hz_m (.ldc2_w 341) 3 [0, 60] [], hz_n, hz_n, hz_m (.invokestatic 120) 3 [163, 3, 1] [], hz_n, hz_n, hz_r (.ifCond .eq 12) 3, hz_n, hz_n, hz_r (.aload_n 0) 1, hz_m (.getfield 368) 3 [12, 37] [], hz_n, hz_n, hz_r (.bipush 10) 2, hz_n, hz_r (.if_icmp .ne 5) 3],
  [hz_n, hz_n, hz_m (.iconst (-1)) 1 [] [false, false, false], hz_r (.ireturn) 1, hz_r (.aload_n 0) 1, hz_m (.getfield 92) 3 [12, 38] [], hz_n, hz_n, hz_r (.aload_n 0) 1, hz_m (.getfield 368) 3 [12, 37] [], hz_n, hz_n, hz_r (.iload_n 1) 1, hz_r (.iastore) 1, hz_r (.aload_n 0) 1, hz_m (.getfield 95) 3 [12, 39] []],
  [hz_n, hz_n, hz_r (.aload_n 0) 1, hz_m (.getfield 368) 3 [12, 37] [], hz_n, hz_n, hz_r (.iload_n 2) 1, hz_r (.iastore) 1, hz_r (.aload_n 0) 1, hz_r (.dup) 1, hz_m (.getfield 368) 3 [12, 37] [], hz_n, hz_n, hz_r (.iconst 1) 1, hz_r (.iadd) 1, hz_m (.putfield 368) 3 [12, 37] []],
  [hz_n, hz_n, hz_r (.aload_n 0) 1, hz_m (.getfield 368) 3 [12, 37] [], hz_n, hz_n, hz_r (.ireturn) 1]]
/-- HeavierServesModel.wipe()I -/
def hs_k249 : hs_K := [
  [hz_m (.aload_n 0) 1 [] [true, false], hz_r (.iconst 0) 1, hz_m (.putfield 3) 3 [12, 0] [], hz_n, hz_n, hz_r (.aload_n 0) 1, hz_m (.getfield 368) 3 [12, 37] [], hz_n, hz_n, hz_r (.istore_n 1) 1, hz_r (.aload_n 0) 1, hz_r (.iconst 0) 1, hz_m (.putfield 368) 3 [12, 37] [], hz_n, hz_n, hz_r (.iload_n 1) 1],
  [hz_r (.ireturn) 1]]
/-- HeavierServesModel.isSo(I)Z -/
def hs_k250 : hs_K := [
  [hz_m (.iconst 0) 1 [] [true, true, false, false, false], hz_r (.istore_n 2) 1, hz_r (.iconst 0) 1, hz_r (.istore_n 3) 1, hz_m (.iload_n 3) 1 [] [true, true, true, true, false], hz_r (.aload_n 0) 1, hz_m (.getfield 368) 3 [12, 37] [], hz_n, hz_n, hz_r (.if_icmp .ge 20) 3, hz_n, hz_n, hz_m (.iload_n 2) 1 [] [true, true, true, true, false], hz_r (.aload_n 0) 1, hz_m (.getfield 95) 3 [12, 39] [], hz_n],
  [hz_n, hz_r (.iload_n 3) 1, hz_r (.iaload) 1, hz_m (.invokestatic 254) 3 [2, 2, 1] [], hz_n, hz_n, hz_r (.istore_n 2) 1, hz_r (.iinc 3 1) 3, hz_n, hz_n, hz_r (.goto (-22)) 3, hz_n, hz_n, hz_m (.iconst 1) 1 [] [true, true, true, false, false], hz_r (.istore_n 3) 1, hz_m (.iload_n 3) 1 [] [true, true, true, true, false]],
  [hz_r (.iload_n 2) 1, hz_r (.if_icmp .gt 63) 3, hz_n, hz_n, hz_m (.aload_n 0) 1 [] [true, true, true, true, false], hz_r (.iconst 1) 1, hz_r (.iload_n 1) 1, hz_m (.invokevirtual 316) 3 [218, 3, 0] [], hz_n, hz_n, hz_r (.iconst 0) 1, hz_r (.istore 4) 2, hz_n, hz_r (.iload 4) 2, hz_n, hz_r (.aload_n 0) 1],
  [hz_m (.getfield 368) 3 [12, 37] [], hz_n, hz_n, hz_r (.if_icmp .ge 39) 3, hz_n, hz_n, hz_r (.aload_n 0) 1, hz_m (.getfield 95) 3 [12, 39] [], hz_n, hz_n, hz_r (.iload 4) 2, hz_n, hz_r (.iaload) 1, hz_r (.iload_n 3) 1, hz_r (.if_icmp .ne 22) 3, hz_n],
  [hz_n, hz_r (.aload_n 0) 1, hz_m (.getfield 47) 3 [12, 11] [], hz_n, hz_n, hz_r (.bipush 17) 2, hz_n, hz_r (.iaload) 1, hz_r (.aload_n 0) 1, hz_m (.getfield 92) 3 [12, 38] [], hz_n, hz_n, hz_r (.iload 4) 2, hz_n, hz_r (.iaload) 1, hz_r (.if_icmp .eq 5) 3],
  [hz_n, hz_n, hz_m (.iconst 0) 1 [] [false, false, false, false, false], hz_r (.ireturn) 1, hz_r (.iinc 4 1) 3, hz_n, hz_n, hz_r (.goto (-42)) 3, hz_n, hz_n, hz_m (.iinc 3 1) 3 [] [true, true, true, true, false], hz_n, hz_n, hz_r (.goto (-62)) 3, hz_n, hz_n],
  [hz_m (.iconst 1) 1 [] [false, false, false, false, false], hz_r (.ireturn) 1]]
/-- HeavierServesModel.explains(I)I -/
def hs_k251 : hs_K := [
  [hz_m (.aload_n 0) 1 [] [true, true, false, false, false, false], hz_r (.iconst 0) 1, hz_m (.putfield 3) 3 [12, 0] [], hz_n, hz_n, hz_r (.aload_n 0) 1, hz_r (.iload_n 1) 1, hz_m (.invokevirtual 297) 3 [170, 2, 1] [], hz_n, hz_n, hz_r (.ifCond .ne 5) 3, hz_n, hz_n, hz_m (.iconst (-1)) 1 [] [false, false, false, false, false, false], hz_r (.ireturn) 1, hz_m (.iconst 0) 1 [] [true, true, false, false, false, false]],
  [hz_r (.istore_n 2) 1, hz_r (.iconst 0) 1, hz_r (.istore_n 3) 1, hz_r (.iconst 0) 1, hz_r (.istore 4) 2, hz_n, hz_r (.iconst 1) 1, hz_r (.istore 5) 2, hz_n, hz_r (.iload 5) 2, hz_n, hz_r (.sipush 999) 3, hz_n, hz_n, hz_r (.if_icmp .gt 47) 3, hz_n],
  [hz_n, hz_r (.aload_n 0) 1, hz_m (.invokevirtual 313) 3 [216, 1, 0] [], hz_n, hz_n, hz_r (.aload_n 0) 1, hz_m (.getfield 47) 3 [12, 11] [], hz_n, hz_n, hz_r (.iload_n 1) 1, hz_r (.iload 5) 2, hz_n, hz_r (.iastore) 1, hz_r (.aload_n 0) 1, hz_r (.iconst 0) 1, hz_m (.invokevirtual 371) 3 [250, 2, 1] []],
  [hz_n, hz_n, hz_r (.ifCond .eq 21) 3, hz_n, hz_n, hz_m (.iload_n 2) 1 [] [true, true, true, true, false, true], hz_r (.ifCond .ne 8) 3, hz_n, hz_n, hz_m (.iload 5) 2 [] [true, true, true, false, false, true], hz_n, hz_r (.goto 4) 3, hz_n, hz_n, hz_m (.iload_n 3) 1 [] [true, true, true, true, false, true], hz_m (.istore_n 3) 1 [] [true, true, true, false, false, true]],
  [hz_r (.iload 5) 2, hz_n, hz_r (.istore 4) 2, hz_n, hz_r (.iinc 2 1) 3, hz_n, hz_n, hz_r (.iinc 5 1) 3, hz_n, hz_n, hz_r (.goto (-49)) 3, hz_n, hz_n, hz_m (.aload_n 0) 1 [] [true, false, true, true, true, false], hz_r (.iload_n 2) 1, hz_r (.iload_n 3) 1],
  [hz_r (.iload 4) 2, hz_n, hz_m (.invokevirtual 357) 3 [242, 4, 0] [], hz_n, hz_n, hz_r (.iload_n 2) 1, hz_r (.ireturn) 1]]
/-- HeavierServesModel.absent()I -/
def hs_k252 : hs_K := [
  [hz_m (.aload_n 0) 1 [] [true, false, false], hz_r (.iconst 0) 1, hz_m (.putfield 3) 3 [12, 0] [], hz_n, hz_n, hz_r (.iconst 0) 1, hz_r (.istore_n 1) 1, hz_r (.iconst 0) 1, hz_r (.istore_n 2) 1, hz_r (.iload_n 2) 1, hz_r (.aload_n 0) 1, hz_m (.getfield 117) 3 [12, 3] [], hz_n, hz_n, hz_r (.if_icmp .ge 41) 3, hz_n],
  [hz_n, hz_r (.aload_n 0) 1, hz_m (.invokevirtual 313) 3 [216, 1, 0] [], hz_n, hz_n, hz_r (.iload_n 1) 1, hz_r (.aload_n 0) 1, hz_r (.iload_n 2) 1, hz_m (.invokevirtual 297) 3 [170, 2, 1] [], hz_n, hz_n, hz_r (.ifCond .eq 19) 3, hz_n, hz_n, hz_m (.aload_n 0) 1 [] [true, false, true], hz_r (.iconst 1) 1],
  [hz_r (.iload_n 2) 1, hz_r (.ishl) 1, hz_m (.invokevirtual 371) 3 [250, 2, 1] [], hz_n, hz_n, hz_r (.ifCond .eq 9) 3, hz_n, hz_n, hz_m (.iconst 1) 1 [] [true, false, true], hz_r (.iload_n 2) 1, hz_r (.ishl) 1, hz_r (.goto 4) 3, hz_n, hz_n, hz_m (.iconst 0) 1 [] [true, false, true], hz_m (.ior) 1 [] [true, false, true]],
  [hz_r (.istore_n 1) 1, hz_r (.iinc 2 1) 3, hz_n, hz_n, hz_r (.goto (-43)) 3, hz_n, hz_n, hz_m (.aload_n 0) 1 [] [true, true, false], hz_m (.invokevirtual 313) 3 [216, 1, 0] [], hz_n, hz_n, hz_r (.aload_n 0) 1, hz_r (.iconst 0) 1, hz_m (.putfield 15) 3 [12, 1] [], hz_n, hz_n],
  [hz_r (.aload_n 0) 1, hz_r (.aload_n 0) 1, hz_r (.iconst 0) 1, hz_m (.invokevirtual 371) 3 [250, 2, 1] [], hz_n, hz_n, hz_m (.invokestatic 150) 3 [165, 1, 1] [], hz_n, hz_n, hz_r (.i2l) 1, hz_m (.invokevirtual 18) 3 [167, 2, 0] [], hz_n, hz_n, hz_r (.iload_n 1) 1, hz_r (.ireturn) 1]]
/-- HeavierServesModel.twin(I)I -/
def hs_k253 : hs_K := [
  [hz_m (.aload_n 0) 1 [] [true, true, false, false], hz_r (.iconst 0) 1, hz_m (.putfield 3) 3 [12, 0] [], hz_n, hz_n, hz_r (.aload_n 0) 1, hz_r (.iload_n 1) 1, hz_m (.invokevirtual 297) 3 [170, 2, 1] [], hz_n, hz_n, hz_r (.ifCond .eq 12) 3, hz_n, hz_n, hz_m (.aload_n 0) 1 [] [true, true, false, false], hz_m (.getfield 117) 3 [12, 3] [], hz_n],
  [hz_n, hz_r (.bipush 8) 2, hz_n, hz_r (.if_icmp .ne 5) 3, hz_n, hz_n, hz_m (.iconst (-1)) 1 [] [false, false, false, false], hz_r (.ireturn) 1, hz_m (.aload_n 0) 1 [] [true, true, false, false], hz_m (.getfield 117) 3 [12, 3] [], hz_n, hz_n, hz_r (.istore_n 2) 1, hz_r (.aload_n 0) 1, hz_r (.dup) 1, hz_m (.getfield 117) 3 [12, 3] []],
  [hz_n, hz_n, hz_r (.iconst 1) 1, hz_r (.iadd) 1, hz_m (.putfield 117) 3 [12, 3] [], hz_n, hz_n, hz_r (.aload_n 0) 1, hz_m (.getfield 44) 3 [12, 10] [], hz_n, hz_n, hz_r (.iload_n 2) 1, hz_r (.aload_n 0) 1, hz_m (.getfield 44) 3 [12, 10] [], hz_n, hz_n],
  [hz_r (.iload_n 1) 1, hz_r (.iaload) 1, hz_r (.iastore) 1, hz_r (.aload_n 0) 1, hz_m (.getfield 28) 3 [12, 4] [], hz_n, hz_n, hz_r (.iload_n 2) 1, hz_r (.aload_n 0) 1, hz_m (.getfield 28) 3 [12, 4] [], hz_n, hz_n, hz_r (.iload_n 1) 1, hz_r (.iaload) 1, hz_r (.iastore) 1, hz_r (.iconst 0) 1],
  [hz_r (.istore_n 3) 1, hz_r (.iload_n 3) 1, hz_r (.bipush 6) 2, hz_n, hz_r (.if_icmp .ge 29) 3, hz_n, hz_n, hz_r (.aload_n 0) 1, hz_m (.getfield 59) 3 [12, 19] [], hz_n, hz_n, hz_r (.bipush 48) 2, hz_n, hz_r (.iload_n 3) 1, hz_r (.iadd) 1, hz_r (.aload_n 0) 1],
  [hz_m (.getfield 35) 3 [12, 6] [], hz_n, hz_n, hz_r (.bipush 6) 2, hz_n, hz_r (.iload_n 1) 1, hz_r (.imul) 1, hz_r (.iload_n 3) 1, hz_r (.iadd) 1, hz_r (.iaload) 1, hz_r (.iastore) 1, hz_r (.iinc 3 1) 3, hz_n, hz_n, hz_r (.goto (-29)) 3, hz_n],
  [hz_n, hz_m (.aload_n 0) 1 [] [true, true, true, false], hz_m (.getfield 62) 3 [12, 20] [], hz_n, hz_n, hz_r (.bipush 8) 2, hz_n, hz_r (.aload_n 0) 1, hz_m (.getfield 38) 3 [12, 7] [], hz_n, hz_n, hz_r (.iload_n 1) 1, hz_r (.iaload) 1, hz_r (.iastore) 1, hz_r (.aload_n 0) 1, hz_r (.iload_n 2) 1],
  [hz_r (.bipush 8) 2, hz_n, hz_m (.invokevirtual 203) 3 [182, 3, 0] [], hz_n, hz_n, hz_r (.aload_n 0) 1, hz_m (.getfield 32) 3 [12, 5] [], hz_n, hz_n, hz_r (.iload_n 2) 1, hz_r (.aload_n 0) 1, hz_m (.getfield 32) 3 [12, 5] [], hz_n, hz_n, hz_r (.iload_n 1) 1, hz_r (.iaload) 1],
  [hz_r (.iastore) 1, hz_r (.aload_n 0) 1, hz_r (.iconst 0) 1, hz_m (.putfield 207) 3 [12, 28] [], hz_n, hz_n, hz_r (.iload_n 2) 1, hz_r (.ireturn) 1]]
/-- HeavierServesModel.oddsOf([I[J)V -/
def hs_k254 : hs_K := [
  [hz_m (.iconst 0) 1 [] [true, true, true, false, false, false, false, false, false, false], hz_r (.istore_n 3) 1, hz_m (.iload_n 3) 1 [] [true, true, true, true, false, false, false, false, false, false], hz_r (.bipush 8) 2, hz_n, hz_r (.if_icmp .gt 13) 3, hz_n, hz_n, hz_m (.aload_n 2) 1 [] [true, true, true, true, false, false, false, false, false, false], hz_r (.iload_n 3) 1, hz_r (.lconst 0) 1, hz_r (.lastore) 1, hz_r (.iinc 3 1) 3, hz_n, hz_n, hz_r (.goto (-13)) 3],
  [hz_n, hz_n, hz_m (.aload_n 0) 1 [] [true, true, true, false, false, false, false, false, false, false], hz_r (.aload_n 1) 1, hz_m (.invokevirtual 288) 3 [193, 2, 1] [], hz_n, hz_n, hz_r (.istore_n 3) 1, hz_r (.aload_n 1) 1, hz_r (.bipush 17) 2, hz_n, hz_r (.iaload) 1, hz_r (.istore 4) 2, hz_n, hz_m (.ldc2_w 374) 3 [0, 100000000] [], hz_n],
  [hz_n, hz_r (.lstore 5) 2, hz_n, hz_r (.iconst 0) 1, hz_r (.istore 7) 2, hz_n, hz_r (.iconst 0) 1, hz_r (.istore 8) 2, hz_n, hz_m (.iload 8) 2 [] [true, true, true, true, true, true, false, true, true, false], hz_n, hz_r (.aload_n 0) 1, hz_m (.getfield 117) 3 [12, 3] [], hz_n, hz_n, hz_r (.if_icmp .ge 74) 3],
  [hz_n, hz_n, hz_m (.iload 4) 2 [] [true, true, true, true, true, true, false, true, true, false], hz_n, hz_r (.ifCond .lt 22) 3, hz_n, hz_n, hz_m (.aload_n 0) 1 [] [true, true, true, true, true, true, false, true, true, false], hz_r (.aload_n 1) 1, hz_r (.iload 8) 2, hz_n, hz_r (.iaload) 1, hz_m (.invokevirtual 262) 3 [194, 2, 1] [], hz_n, hz_n, hz_r (.aload_n 0) 1],
  [hz_r (.aload_n 1) 1, hz_r (.iload 4) 2, hz_n, hz_r (.iaload) 1, hz_m (.invokevirtual 262) 3 [194, 2, 1] [], hz_n, hz_n, hz_r (.if_icmp .le 7) 3, hz_n, hz_n, hz_m (.iconst 1) 1 [] [true, true, true, true, true, true, false, true, true, false], hz_r (.goto 4) 3, hz_n, hz_n, hz_m (.iconst 0) 1 [] [true, true, true, true, true, true, false, true, true, false], hz_m (.istore 9) 2 [] [true, true, true, true, true, true, false, true, true, false]],
  [hz_n, hz_r (.iload 7) 2, hz_n, hz_r (.iload_n 3) 1, hz_r (.iload 8) 2, hz_n, hz_m (.invokestatic 128) 3 [164, 2, 1] [], hz_n, hz_n, hz_r (.ifCond .eq 22) 3, hz_n, hz_n, hz_m (.iload 8) 2 [] [true, true, true, true, true, true, false, false, true, true], hz_n, hz_r (.iload 4) 2, hz_n],
  [hz_r (.if_icmp .eq 15) 3, hz_n, hz_n, hz_m (.iload 9) 2 [] [true, true, true, true, true, true, false, false, true, true], hz_n, hz_r (.ifCond .eq 10) 3, hz_n, hz_n, hz_m (.iconst 1) 1 [] [true, true, true, true, true, true, false, false, true, false], hz_r (.iload 8) 2, hz_n, hz_r (.ishl) 1, hz_r (.goto 4) 3, hz_n, hz_n, hz_m (.iconst 0) 1 [] [true, true, true, true, true, true, false, false, true, false]],
  [hz_m (.ior) 1 [] [true, true, true, true, true, true, false, false, true, false], hz_r (.istore 7) 2, hz_n, hz_r (.iinc 8 1) 3, hz_n, hz_n, hz_r (.goto (-77)) 3, hz_n, hz_n, hz_m (.iload 7) 2 [] [true, true, true, false, true, true, false, true, false, false], hz_n, hz_r (.ifCond .eq 120) 3, hz_n, hz_n, hz_m (.iconst (-1)) 1 [] [true, true, true, false, true, true, false, true, false, false], hz_r (.istore 8) 2],
  [hz_n, hz_r (.iconst 0) 1, hz_r (.istore 9) 2, hz_n, hz_m (.iload 9) 2 [] [true, true, true, false, true, true, false, true, true, true], hz_n, hz_r (.aload_n 0) 1, hz_m (.getfield 117) 3 [12, 3] [], hz_n, hz_n, hz_r (.if_icmp .ge 52) 3, hz_n, hz_n, hz_m (.iload 7) 2 [] [true, true, true, false, true, true, false, true, true, true], hz_n, hz_r (.iload 9) 2],
  [hz_n, hz_m (.invokestatic 128) 3 [164, 2, 1] [], hz_n, hz_n, hz_r (.ifCond .eq 32) 3, hz_n, hz_n, hz_m (.iload 8) 2 [] [true, true, true, false, true, true, false, true, true, true], hz_n, hz_r (.ifCond .lt 22) 3, hz_n, hz_n, hz_m (.aload_n 0) 1 [] [true, true, true, false, true, true, false, true, true, true], hz_r (.aload_n 1) 1, hz_r (.iload 9) 2, hz_n],
  [hz_r (.iaload) 1, hz_m (.invokevirtual 262) 3 [194, 2, 1] [], hz_n, hz_n, hz_r (.aload_n 0) 1, hz_r (.aload_n 1) 1, hz_r (.iload 8) 2, hz_n, hz_r (.iaload) 1, hz_m (.invokevirtual 262) 3 [194, 2, 1] [], hz_n, hz_n, hz_r (.if_icmp .le 8) 3, hz_n, hz_n, hz_m (.iload 9) 2 [] [true, true, true, false, true, true, false, true, false, true]],
  [hz_n, hz_r (.goto 5) 3, hz_n, hz_n, hz_m (.iload 8) 2 [] [true, true, true, false, true, true, false, true, true, true], hz_n, hz_m (.istore 8) 2 [] [true, true, true, false, true, true, false, true, false, true], hz_n, hz_r (.iinc 9 1) 3, hz_n, hz_n, hz_r (.goto (-55)) 3, hz_n, hz_n, hz_m (.aload_n 2) 1 [] [true, true, true, false, true, true, false, true, true, false], hz_r (.iload 8) 2],
  [hz_n, hz_r (.lload 5) 2, hz_n, hz_m (.ldc2_w 321) 3 [0, 10] [], hz_n, hz_n, hz_r (.ldiv) 1, hz_r (.bipush 10) 2, hz_n, hz_r (.aload_n 0) 1, hz_m (.getfield 32) 3 [12, 5] [], hz_n, hz_n, hz_r (.iload 8) 2, hz_n, hz_r (.iaload) 1],
  [hz_r (.isub) 1, hz_r (.i2l) 1, hz_r (.lmul) 1, hz_r (.lastore) 1, hz_r (.lload 5) 2, hz_n, hz_m (.ldc2_w 321) 3 [0, 10] [], hz_n, hz_n, hz_r (.ldiv) 1, hz_r (.aload_n 0) 1, hz_m (.getfield 32) 3 [12, 5] [], hz_n, hz_n, hz_r (.iload 8) 2, hz_n],
  [hz_r (.iaload) 1, hz_r (.i2l) 1, hz_r (.lmul) 1, hz_r (.lstore 5) 2, hz_n, hz_r (.iload 7) 2, hz_n, hz_r (.iconst 1) 1, hz_r (.iload 8) 2, hz_n, hz_r (.ishl) 1, hz_r (.iconst (-1)) 1, hz_r (.ixor) 1, hz_r (.iand) 1, hz_r (.istore 7) 2, hz_n],
  [hz_r (.goto (-119)) 3, hz_n, hz_n, hz_m (.aload_n 2) 1 [] [false, false, true, false, true, true, false, false, false, false], hz_r (.iload 4) 2, hz_n, hz_r (.ifCond .ge 8) 3, hz_n, hz_n, hz_m (.bipush 8) 2 [] [false, false, false, false, false, true, false, false, false, false], hz_n, hz_r (.goto 5) 3, hz_n, hz_n, hz_m (.iload 4) 2 [] [false, false, false, false, true, true, false, false, false, false], hz_n],
  [hz_m (.dup2) 1 [] [false, false, false, false, false, true, false, false, false, false], hz_r (.laload) 1, hz_r (.lload 5) 2, hz_n, hz_r (.ladd) 1, hz_r (.lastore) 1, hz_r (.return_) 1]]
/-- HeavierServesModel.odds(II)I -/
def hs_k255 : hs_K := [
  [hz_m (.aload_n 0) 1 [] [true, true, true, false, false, false], hz_r (.iconst 0) 1, hz_m (.putfield 3) 3 [12, 0] [], hz_n, hz_n, hz_r (.aload_n 0) 1, hz_r (.iload_n 1) 1, hz_m (.invokevirtual 124) 3 [169, 2, 1] [], hz_n, hz_n, hz_r (.ifCond .eq 15) 3, hz_n, hz_n, hz_m (.iload_n 2) 1 [] [true, true, true, false, false, false], hz_r (.i2l) 1, hz_r (.lconst 0) 1],
  [hz_m (.ldc2_w 376) 3 [0, 2] [], hz_n, hz_n, hz_m (.invokestatic 120) 3 [163, 3, 1] [], hz_n, hz_n, hz_r (.ifCond .ne 5) 3, hz_n, hz_n, hz_m (.iconst (-1)) 1 [] [false, false, false, false, false, false], hz_r (.ireturn) 1, hz_m (.aload_n 0) 1 [] [true, true, true, false, false, false], hz_r (.iconst 0) 1, hz_m (.putfield 15) 3 [12, 1] [], hz_n, hz_n],
  [hz_r (.iload_n 2) 1, hz_r (.ifCond .ne 30) 3, hz_n, hz_n, hz_m (.aload_n 0) 1 [] [true, true, false, false, false, false], hz_r (.aload_n 0) 1, hz_m (.getfield 44) 3 [12, 10] [], hz_n, hz_n, hz_r (.bipush 17) 2, hz_n, hz_r (.iaload) 1, hz_r (.iload_n 1) 1, hz_r (.if_icmp .ne 7) 3, hz_n, hz_n],
  [hz_m (.iconst 1) 1 [] [false, false, false, false, false, false], hz_r (.goto 4) 3, hz_n, hz_n, hz_m (.iconst 0) 1 [] [false, false, false, false, false, false], hz_m (.invokestatic 150) 3 [165, 1, 1] [false, false, false, false, false, false], hz_n, hz_n, hz_r (.i2l) 1, hz_r (.lconst 1) 1, hz_m (.invokevirtual 378) 3 [168, 3, 0] [], hz_n, hz_n, hz_r (.iconst 0) 1, hz_r (.ireturn) 1, hz_m (.aload_n 0) 1 [] [true, true, true, false, false, false]],
  [hz_r (.aload_n 0) 1, hz_m (.getfield 44) 3 [12, 10] [], hz_n, hz_n, hz_r (.aload_n 0) 1, hz_m (.getfield 98) 3 [12, 40] [], hz_n, hz_n, hz_m (.invokevirtual 382) 3 [254, 3, 0] [], hz_n, hz_n, hz_r (.iload_n 2) 1, hz_r (.iconst 1) 1, hz_r (.if_icmp .ne 18) 3, hz_n, hz_n],
  [hz_m (.aload_n 0) 1 [] [true, true, false, false, false, false], hz_r (.aload_n 0) 1, hz_m (.getfield 98) 3 [12, 40] [], hz_n, hz_n, hz_r (.iload_n 1) 1, hz_r (.laload) 1, hz_m (.ldc2_w 374) 3 [0, 100000000] [], hz_n, hz_n, hz_m (.invokevirtual 378) 3 [168, 3, 0] [], hz_n, hz_n, hz_r (.iconst 0) 1, hz_r (.ireturn) 1, hz_m (.lconst 0) 1 [] [true, true, false, false, false, false]],
  [hz_r (.lstore_n 3) 1, hz_r (.iconst 0) 1, hz_r (.istore 5) 2, hz_n, hz_m (.iload 5) 2 [] [true, true, false, true, false, true], hz_n, hz_r (.bipush 8) 2, hz_n, hz_r (.if_icmp .gt 84) 3, hz_n, hz_n, hz_m (.aload_n 0) 1 [] [true, true, false, true, false, true], hz_m (.getfield 98) 3 [12, 40] [], hz_n, hz_n, hz_r (.iload 5) 2],
  [hz_n, hz_r (.laload) 1, hz_r (.lconst 0) 1, hz_r (.lcmp) 1, hz_r (.ifCond .le 66) 3, hz_n, hz_n, hz_m (.aload_n 0) 1 [] [true, true, false, true, false, true], hz_m (.getfield 44) 3 [12, 10] [], hz_n, hz_n, hz_r (.aload_n 0) 1, hz_m (.getfield 104) 3 [12, 42] [], hz_n, hz_n, hz_m (.invokestatic 303) 3 [202, 2, 0] []],
  [hz_n, hz_n, hz_r (.aload_n 0) 1, hz_r (.aload_n 0) 1, hz_m (.getfield 104) 3 [12, 42] [], hz_n, hz_n, hz_r (.iload 5) 2, hz_n, hz_r (.bipush 8) 2, hz_n, hz_r (.if_icmp .ne 7) 3, hz_n, hz_n, hz_m (.iconst 0) 1 [] [true, true, false, true, false, true], hz_r (.goto 7) 3],
  [hz_n, hz_n, hz_m (.iconst 1) 1 [] [true, true, false, true, false, true], hz_r (.iload 5) 2, hz_n, hz_r (.ishl) 1, hz_m (.invokevirtual 282) 3 [200, 3, 0] [true, true, false, true, false, true], hz_n, hz_n, hz_r (.aload_n 0) 1, hz_r (.aload_n 0) 1, hz_m (.getfield 104) 3 [12, 42] [], hz_n, hz_n, hz_r (.aload_n 0) 1, hz_m (.getfield 101) 3 [12, 41] []],
  [hz_n, hz_n, hz_m (.invokevirtual 382) 3 [254, 3, 0] [], hz_n, hz_n, hz_r (.lload_n 3) 1, hz_r (.aload_n 0) 1, hz_m (.getfield 98) 3 [12, 40] [], hz_n, hz_n, hz_r (.iload 5) 2, hz_n, hz_r (.laload) 1, hz_r (.aload_n 0) 1, hz_m (.getfield 101) 3 [12, 41] [], hz_n],
  [hz_n, hz_r (.iload_n 1) 1, hz_r (.laload) 1, hz_r (.lmul) 1, hz_r (.ladd) 1, hz_r (.lstore_n 3) 1, hz_m (.iinc 5 1) 3 [] [true, true, false, true, false, true], hz_n, hz_n, hz_r (.goto (-85)) 3, hz_n, hz_n, hz_m (.aload_n 0) 1 [] [true, false, false, true, false, false], hz_r (.lload_n 3) 1, hz_m (.ldc2_w 386) 3 [0, 10000000000000000] [], hz_n],
  [hz_n, hz_m (.invokevirtual 378) 3 [168, 3, 0] [], hz_n, hz_n, hz_r (.iconst 0) 1, hz_r (.ireturn) 1]]
/-- HeavierServesModel.likely()I -/
def hs_k256 : hs_K := [
  [hz_m (.aload_n 0) 1 [] [true, false, false], hz_r (.iconst 0) 1, hz_m (.putfield 3) 3 [12, 0] [], hz_n, hz_n, hz_r (.aload_n 0) 1, hz_r (.aload_n 0) 1, hz_m (.getfield 44) 3 [12, 10] [], hz_n, hz_n, hz_r (.aload_n 0) 1, hz_m (.getfield 98) 3 [12, 40] [], hz_n, hz_n, hz_m (.invokevirtual 382) 3 [254, 3, 0] [], hz_n],
  [hz_n, hz_r (.bipush 8) 2, hz_n, hz_r (.istore_n 1) 1, hz_r (.iconst 0) 1, hz_r (.istore_n 2) 1, hz_r (.iload_n 2) 1, hz_r (.aload_n 0) 1, hz_m (.getfield 117) 3 [12, 3] [], hz_n, hz_n, hz_r (.if_icmp .ge 31) 3, hz_n, hz_n, hz_r (.aload_n 0) 1, hz_m (.getfield 98) 3 [12, 40] []],
  [hz_n, hz_n, hz_r (.iload_n 2) 1, hz_r (.laload) 1, hz_r (.aload_n 0) 1, hz_m (.getfield 98) 3 [12, 40] [], hz_n, hz_n, hz_r (.iload_n 1) 1, hz_r (.laload) 1, hz_r (.lcmp) 1, hz_r (.ifCond .le 7) 3, hz_n, hz_n, hz_m (.iload_n 2) 1 [] [true, false, true], hz_r (.goto 4) 3],
  [hz_n, hz_n, hz_r (.iload_n 1) 1, hz_m (.istore_n 1) 1 [] [true, false, true], hz_r (.iinc 2 1) 3, hz_n, hz_n, hz_r (.goto (-33)) 3, hz_n, hz_n, hz_m (.aload_n 0) 1 [] [true, true, false], hz_r (.iconst 0) 1, hz_m (.putfield 15) 3 [12, 1] [], hz_n, hz_n, hz_r (.aload_n 0) 1],
  [hz_r (.aload_n 0) 1, hz_m (.getfield 98) 3 [12, 40] [], hz_n, hz_n, hz_r (.iload_n 1) 1, hz_r (.laload) 1, hz_m (.ldc2_w 374) 3 [0, 100000000] [], hz_n, hz_n, hz_m (.invokevirtual 378) 3 [168, 3, 0] [], hz_n, hz_n, hz_r (.iload_n 1) 1, hz_r (.bipush 8) 2, hz_n, hz_r (.if_icmp .ne 7) 3],
  [hz_n, hz_n, hz_m (.iconst (-1)) 1 [] [false, false, false], hz_r (.goto 4) 3, hz_n, hz_n, hz_m (.iload_n 1) 1 [] [false, true, false], hz_m (.ireturn) 1 [] [false, false, false]]]
/-- HeavierServesModel.keep(I)Z -/
def hs_k257 : hs_K := [
  [hz_m (.aload_n 0) 1 [] [true, true, false], hz_r (.iconst 0) 1, hz_m (.putfield 3) 3 [12, 0] [], hz_n, hz_n, hz_r (.iload_n 1) 1, hz_r (.i2l) 1, hz_r (.lconst 0) 1, hz_m (.ldc2_w 376) 3 [0, 2] [], hz_n, hz_n, hz_m (.invokestatic 120) 3 [163, 3, 1] [], hz_n, hz_n, hz_r (.ifCond .ne 5) 3, hz_n],
  [hz_n, hz_m (.iconst 0) 1 [] [false, false, false], hz_r (.ireturn) 1, hz_m (.aload_n 0) 1 [] [true, true, false], hz_m (.getfield 107) 3 [12, 43] [], hz_n, hz_n, hz_r (.iload_n 1) 1, hz_r (.iconst 1) 1, hz_r (.bastore) 1, hz_r (.aload_n 0) 1, hz_m (.getfield 111) 3 [12, 44] [], hz_n, hz_n, hz_r (.iload_n 1) 1, hz_r (.aload_n 0) 1],
  [hz_m (.getfield 117) 3 [12, 3] [], hz_n, hz_n, hz_r (.iastore) 1, hz_r (.iconst 0) 1, hz_r (.istore_n 2) 1, hz_r (.iload_n 2) 1, hz_r (.bipush 117) 2, hz_n, hz_r (.if_icmp .ge 26) 3, hz_n, hz_n, hz_r (.aload_n 0) 1, hz_m (.getfield 114) 3 [12, 45] [], hz_n, hz_n],
  [hz_r (.bipush 117) 2, hz_n, hz_r (.iload_n 1) 1, hz_r (.imul) 1, hz_r (.iload_n 2) 1, hz_r (.iadd) 1, hz_r (.aload_n 0) 1, hz_m (.getfield 44) 3 [12, 10] [], hz_n, hz_n, hz_r (.iload_n 2) 1, hz_r (.iaload) 1, hz_r (.iastore) 1, hz_r (.iinc 2 1) 3, hz_n, hz_n],
  [hz_r (.goto (-26)) 3, hz_n, hz_n, hz_m (.iconst 1) 1 [] [false, false, false], hz_r (.ireturn) 1]]
/-- HeavierServesModel.again(I)Z -/
def hs_k258 : hs_K := [
  [hz_m (.aload_n 0) 1 [] [true, true, false], hz_r (.iconst 0) 1, hz_m (.putfield 3) 3 [12, 0] [], hz_n, hz_n, hz_r (.iload_n 1) 1, hz_r (.i2l) 1, hz_r (.lconst 0) 1, hz_m (.ldc2_w 376) 3 [0, 2] [], hz_n, hz_n, hz_m (.invokestatic 120) 3 [163, 3, 1] [], hz_n, hz_n, hz_r (.ifCond .eq 25) 3, hz_n],
  [hz_n, hz_m (.aload_n 0) 1 [] [true, true, false], hz_m (.getfield 107) 3 [12, 43] [], hz_n, hz_n, hz_r (.iload_n 1) 1, hz_r (.baload) 1, hz_r (.ifCond .eq 16) 3, hz_n, hz_n, hz_m (.aload_n 0) 1 [] [true, true, false], hz_m (.getfield 111) 3 [12, 44] [], hz_n, hz_n, hz_r (.iload_n 1) 1, hz_r (.iaload) 1],
  [hz_r (.aload_n 0) 1, hz_m (.getfield 117) 3 [12, 3] [], hz_n, hz_n, hz_r (.if_icmp .eq 5) 3, hz_n, hz_n, hz_m (.iconst 0) 1 [] [false, false, false], hz_r (.ireturn) 1, hz_m (.iconst 0) 1 [] [true, true, false], hz_r (.istore_n 2) 1, hz_r (.iload_n 2) 1, hz_r (.bipush 117) 2, hz_n, hz_r (.if_icmp .ge 26) 3, hz_n],
  [hz_n, hz_r (.aload_n 0) 1, hz_m (.getfield 44) 3 [12, 10] [], hz_n, hz_n, hz_r (.iload_n 2) 1, hz_r (.aload_n 0) 1, hz_m (.getfield 114) 3 [12, 45] [], hz_n, hz_n, hz_r (.bipush 117) 2, hz_n, hz_r (.iload_n 1) 1, hz_r (.imul) 1, hz_r (.iload_n 2) 1, hz_r (.iadd) 1],
  [hz_r (.iaload) 1, hz_r (.iastore) 1, hz_r (.iinc 2 1) 3, hz_n, hz_n, hz_r (.goto (-26)) 3, hz_n, hz_n, hz_m (.aload_n 0) 1 [] [true, false, false], hz_r (.iconst 0) 1, hz_m (.putfield 207) 3 [12, 28] [], hz_n, hz_n, hz_r (.iconst 1) 1, hz_r (.ireturn) 1]]
/-- HeavierServesModel.lawsThatHold()I -/
def hs_k259 : hs_K := [
  [hz_m (.iconst 0) 1 [] [true, false, false], hz_r (.istore_n 1) 1, hz_r (.iconst 0) 1, hz_r (.istore_n 2) 1, hz_r (.iload_n 2) 1, hz_r (.aload_n 0) 1, hz_m (.getfield 44) 3 [12, 10] [], hz_n, hz_n, hz_r (.bipush 20) 2, hz_n, hz_r (.iaload) 1, hz_r (.if_icmp .ge 31) 3, hz_n, hz_n, hz_r (.iload_n 1) 1],
  [hz_r (.aload_n 0) 1, hz_m (.getfield 44) 3 [12, 10] [], hz_n, hz_n, hz_r (.bipush 45) 2, hz_n, hz_r (.iload_n 2) 1, hz_r (.iadd) 1, hz_r (.iaload) 1, hz_r (.ifCond .ge 9) 3, hz_n, hz_n, hz_m (.iconst 1) 1 [] [true, false, true], hz_r (.iload_n 2) 1, hz_r (.ishl) 1, hz_r (.goto 4) 3],
  [hz_n, hz_n, hz_m (.iconst 0) 1 [] [true, false, true], hz_m (.ior) 1 [] [true, false, true], hz_r (.istore_n 1) 1, hz_r (.iinc 2 1) 3, hz_n, hz_n, hz_r (.goto (-36)) 3, hz_n, hz_n, hz_m (.iload_n 1) 1 [] [false, true, false], hz_r (.ireturn) 1]]
/-- HeavierServesModel.count(I)I -/
def hs_k260 : hs_K := [
  [hz_r (.aload_n 0) 1, hz_r (.iconst 0) 1, hz_m (.putfield 3) 3 [12, 0] [], hz_n, hz_n, hz_r (.iload_n 1) 1, hz_r (.tableswitch 169 0 13 #[70, 75, 83, 91, 113, 121, 126, 134, 139, 144, 149, 154, 159, 164]) 70, hz_n, hz_n, hz_n, hz_n, hz_n, hz_n, hz_n, hz_n, hz_n],
  [hz_n, hz_n, hz_n, hz_n, hz_n, hz_n, hz_n, hz_n, hz_n, hz_n, hz_n, hz_n, hz_n, hz_n, hz_n, hz_n],
  [hz_n, hz_n, hz_n, hz_n, hz_n, hz_n, hz_n, hz_n, hz_n, hz_n, hz_n, hz_n, hz_n, hz_n, hz_n, hz_n],
  [hz_n, hz_n, hz_n, hz_n, hz_n, hz_n, hz_n, hz_n, hz_n, hz_n, hz_n, hz_n, hz_n, hz_n, hz_n, hz_n],
  [hz_n, hz_n, hz_n, hz_n, hz_n, hz_n, hz_n, hz_n, hz_n, hz_n, hz_n, hz_n, hz_m (.aload_n 0) 1 [] [true, false], hz_m (.getfield 117) 3 [12, 3] [], hz_n, hz_n],
  [hz_r (.ireturn) 1, hz_m (.aload_n 0) 1 [] [true, false], hz_m (.getfield 44) 3 [12, 10] [], hz_n, hz_n, hz_r (.bipush 19) 2, hz_n, hz_r (.iaload) 1, hz_r (.ireturn) 1, hz_m (.aload_n 0) 1 [] [true, false], hz_m (.getfield 44) 3 [12, 10] [], hz_n, hz_n, hz_r (.bipush 17) 2, hz_n, hz_r (.iaload) 1],
  [hz_r (.ireturn) 1, hz_m (.aload_n 0) 1 [] [true, false], hz_m (.getfield 44) 3 [12, 10] [], hz_n, hz_n, hz_r (.bipush 17) 2, hz_n, hz_r (.iaload) 1, hz_r (.ifCond .ge 7) 3, hz_n, hz_n, hz_m (.iconst 0) 1 [] [false, false], hz_r (.goto 10) 3, hz_n, hz_n, hz_m (.aload_n 0) 1 [] [true, false]],
  [hz_m (.getfield 44) 3 [12, 10] [], hz_n, hz_n, hz_r (.bipush 18) 2, hz_n, hz_r (.iaload) 1, hz_m (.ireturn) 1 [] [false, false], hz_m (.aload_n 0) 1 [] [true, false], hz_m (.getfield 44) 3 [12, 10] [], hz_n, hz_n, hz_r (.bipush 20) 2, hz_n, hz_r (.iaload) 1, hz_r (.ireturn) 1, hz_m (.aload_n 0) 1 [] [true, false]],
  [hz_m (.invokevirtual 388) 3 [259, 1, 1] [], hz_n, hz_n, hz_r (.ireturn) 1, hz_m (.aload_n 0) 1 [] [true, false], hz_m (.getfield 44) 3 [12, 10] [], hz_n, hz_n, hz_r (.bipush 16) 2, hz_n, hz_r (.iaload) 1, hz_r (.ireturn) 1, hz_m (.aload_n 0) 1 [] [true, false], hz_m (.getfield 207) 3 [12, 28] [], hz_n, hz_n],
  [hz_r (.ireturn) 1, hz_m (.aload_n 0) 1 [] [true, false], hz_m (.getfield 351) 3 [12, 34] [], hz_n, hz_n, hz_r (.ireturn) 1, hz_m (.aload_n 0) 1 [] [true, false], hz_m (.getfield 368) 3 [12, 37] [], hz_n, hz_n, hz_r (.ireturn) 1, hz_m (.aload_n 0) 1 [] [true, false], hz_m (.getfield 15) 3 [12, 1] [], hz_n, hz_n, hz_r (.ireturn) 1],
  [hz_m (.aload_n 0) 1 [] [true, false], hz_m (.getfield 132) 3 [12, 13] [], hz_n, hz_n, hz_r (.ireturn) 1, hz_m (.aload_n 0) 1 [] [true, false], hz_m (.getfield 41) 3 [12, 8] [], hz_n, hz_n, hz_r (.ireturn) 1, hz_m (.aload_n 0) 1 [] [true, false], hz_m (.getfield 251) 3 [12, 9] [], hz_n, hz_n, hz_r (.ireturn) 1, hz_m (.bipush (-100)) 2 [] [false, false]],
  [hz_n, hz_r (.ireturn) 1]]
/-- HeavierServesModel.row(I)J -/
def hs_k261 : hs_K := [
  [hz_r (.aload_n 0) 1, hz_r (.iconst 0) 1, hz_m (.putfield 3) 3 [12, 0] [], hz_n, hz_n, hz_r (.iload_n 1) 1, hz_r (.i2l) 1, hz_r (.lconst 0) 1, hz_r (.aload_n 0) 1, hz_m (.getfield 15) 3 [12, 1] [], hz_n, hz_n, hz_r (.iconst 1) 1, hz_r (.isub) 1, hz_r (.i2l) 1, hz_m (.invokestatic 120) 3 [163, 3, 1] []],
  [hz_n, hz_n, hz_r (.ifCond .ne 10) 3, hz_n, hz_n, hz_m (.aload_n 0) 1 [] [true, false], hz_r (.iconst 1) 1, hz_m (.putfield 3) 3 [12, 0] [], hz_n, hz_n, hz_r (.lconst 0) 1, hz_r (.lreturn) 1, hz_r (.aload_n 0) 1, hz_m (.getfield 11) 3 [12, 2] [], hz_n, hz_n],
  [hz_r (.iload_n 1) 1, hz_r (.laload) 1, hz_r (.lreturn) 1]]
/-- HeavierServesLaw.law([I)Z -/
def hs_klaw : hs_K := [
  [hz_m (.new 8) 3 [] [true, false, false, false, false, false, false, false], hz_n, hz_n, hz_r (.dup) 1, hz_r (.invokespecial 28) 3, hz_n, hz_n, hz_r (.astore_n 1) 1, hz_r (.new 29) 3, hz_n, hz_n, hz_r (.dup) 1, hz_r (.invokespecial 31) 3, hz_n, hz_n, hz_r (.astore_n 2) 1],
  [hz_r (.iconst 1) 1, hz_r (.newarray .long) 2, hz_n, hz_r (.astore_n 3) 1, hz_r (.iconst 0) 1, hz_r (.istore 4) 2, hz_n, hz_m (.iload 4) 2 [] [true, true, true, true, true, false, false, false], hz_n, hz_r (.aload_n 0) 1, hz_r (.arraylength) 1, hz_r (.iconst 5) 1, hz_r (.isub) 1, hz_r (.if_icmp .gt 1729) 3, hz_n, hz_n],
  [hz_m (.aload_n 0) 1 [] [true, true, true, true, true, false, false, false], hz_r (.iload 4) 2, hz_n, hz_r (.iaload) 1, hz_r (.bipush 63) 2, hz_n, hz_r (.iand) 1, hz_r (.tableswitch 1713 0 49 #[213, 238, 263, 276, 289, 314, 382, 450, 499, 536, 597, 622, 647, 660, 673, 741, 778, 815, 840, 853, 878, 915, 940, 965, 990, 1027, 1064, 1089, 1126, 1194, 1219, 1256, 1293, 1306, 1343, 1356, 1369, 1394, 1407, 1420, 1457, 1470, 1495, 1508, 1533, 1570, 1583, 1608, 1633, 1658]) 213, hz_n, hz_n, hz_n, hz_n, hz_n, hz_n, hz_n, hz_n],
  [hz_n, hz_n, hz_n, hz_n, hz_n, hz_n, hz_n, hz_n, hz_n, hz_n, hz_n, hz_n, hz_n, hz_n, hz_n, hz_n],
  [hz_n, hz_n, hz_n, hz_n, hz_n, hz_n, hz_n, hz_n, hz_n, hz_n, hz_n, hz_n, hz_n, hz_n, hz_n, hz_n],
  [hz_n, hz_n, hz_n, hz_n, hz_n, hz_n, hz_n, hz_n, hz_n, hz_n, hz_n, hz_n, hz_n, hz_n, hz_n, hz_n],
  [hz_n, hz_n, hz_n, hz_n, hz_n, hz_n, hz_n, hz_n, hz_n, hz_n, hz_n, hz_n, hz_n, hz_n, hz_n, hz_n],
  [hz_n, hz_n, hz_n, hz_n, hz_n, hz_n, hz_n, hz_n, hz_n, hz_n, hz_n, hz_n, hz_n, hz_n, hz_n, hz_n],
  [hz_n, hz_n, hz_n, hz_n, hz_n, hz_n, hz_n, hz_n, hz_n, hz_n, hz_n, hz_n, hz_n, hz_n, hz_n, hz_n],
  [hz_n, hz_n, hz_n, hz_n, hz_n, hz_n, hz_n, hz_n, hz_n, hz_n, hz_n, hz_n, hz_n, hz_n, hz_n, hz_n],
  [hz_n, hz_n, hz_n, hz_n, hz_n, hz_n, hz_n, hz_n, hz_n, hz_n, hz_n, hz_n, hz_n, hz_n, hz_n, hz_n],
  [hz_n, hz_n, hz_n, hz_n, hz_n, hz_n, hz_n, hz_n, hz_n, hz_n, hz_n, hz_n, hz_n, hz_n, hz_n, hz_n],
  [hz_n, hz_n, hz_n, hz_n, hz_n, hz_n, hz_n, hz_n, hz_n, hz_n, hz_n, hz_n, hz_n, hz_n, hz_n, hz_n],
  [hz_n, hz_n, hz_n, hz_n, hz_n, hz_n, hz_n, hz_n, hz_n, hz_n, hz_n, hz_n, hz_n, hz_n, hz_n, hz_n],
  [hz_n, hz_n, hz_n, hz_n, hz_n, hz_n, hz_n, hz_n, hz_n, hz_n, hz_n, hz_n, hz_n, hz_n, hz_n, hz_n],
  [hz_n, hz_n, hz_n, hz_n, hz_n, hz_n, hz_n, hz_n, hz_n, hz_n, hz_n, hz_n, hz_m (.aload_n 1) 1 [] [true, true, true, true, true, false, false, false], hz_r (.aload_n 0) 1, hz_r (.iload 4) 2, hz_n],
  [hz_r (.iconst 1) 1, hz_r (.iadd) 1, hz_r (.iaload) 1, hz_m (.invokevirtual 32) 3 [103, 2, 1] [], hz_n, hz_n, hz_r (.aload_n 2) 1, hz_r (.aload_n 0) 1, hz_r (.iload 4) 2, hz_n, hz_r (.iconst 1) 1, hz_r (.iadd) 1, hz_r (.iaload) 1, hz_m (.invokevirtual 36) 3 [171, 2, 1] [], hz_n, hz_n],
  [hz_r (.if_icmp .eq 1480) 3, hz_n, hz_n, hz_m (.iconst 0) 1 [] [false, false, false, false, false, false, false, false], hz_r (.ireturn) 1, hz_m (.aload_n 1) 1 [] [true, true, true, true, true, false, false, false], hz_r (.aload_n 0) 1, hz_r (.iload 4) 2, hz_n, hz_r (.iconst 1) 1, hz_r (.iadd) 1, hz_r (.iaload) 1, hz_m (.invokevirtual 37) 3 [104, 2, 1] [], hz_n, hz_n, hz_r (.aload_n 2) 1],
  [hz_r (.aload_n 0) 1, hz_r (.iload 4) 2, hz_n, hz_r (.iconst 1) 1, hz_r (.iadd) 1, hz_r (.iaload) 1, hz_m (.invokevirtual 41) 3 [172, 2, 1] [], hz_n, hz_n, hz_r (.if_icmp .eq 1455) 3, hz_n, hz_n, hz_m (.iconst 0) 1 [] [false, false, false, false, false, false, false, false], hz_r (.ireturn) 1, hz_m (.aload_n 1) 1 [] [true, true, true, true, true, false, false, false], hz_m (.invokevirtual 42) 3 [105, 1, 1] []],
  [hz_n, hz_n, hz_r (.aload_n 2) 1, hz_m (.invokevirtual 46) 3 [181, 1, 1] [], hz_n, hz_n, hz_r (.if_icmp .eq 1442) 3, hz_n, hz_n, hz_m (.iconst 0) 1 [] [false, false, false, false, false, false, false, false], hz_r (.ireturn) 1, hz_m (.aload_n 1) 1 [] [true, true, true, true, true, false, false, false], hz_m (.invokevirtual 47) 3 [106, 1, 1] [], hz_n, hz_n, hz_r (.aload_n 2) 1],
  [hz_m (.invokevirtual 50) 3 [188, 1, 1] [], hz_n, hz_n, hz_r (.if_icmp .eq 1429) 3, hz_n, hz_n, hz_m (.iconst 0) 1 [] [false, false, false, false, false, false, false, false], hz_r (.ireturn) 1, hz_m (.aload_n 1) 1 [] [true, true, true, true, true, false, false, false], hz_r (.aload_n 0) 1, hz_r (.iload 4) 2, hz_n, hz_r (.iconst 1) 1, hz_r (.iadd) 1, hz_r (.iaload) 1, hz_m (.invokevirtual 51) 3 [107, 2, 1] []],
  [hz_n, hz_n, hz_r (.aload_n 2) 1, hz_r (.aload_n 0) 1, hz_r (.iload 4) 2, hz_n, hz_r (.iconst 1) 1, hz_r (.iadd) 1, hz_r (.iaload) 1, hz_m (.invokevirtual 54) 3 [184, 2, 1] [], hz_n, hz_n, hz_r (.if_icmp .eq 1404) 3, hz_n, hz_n, hz_m (.iconst 0) 1 [] [false, false, false, false, false, false, false, false]],
  [hz_r (.ireturn) 1, hz_m (.aload_n 1) 1 [] [true, true, true, true, true, false, false, false], hz_r (.aload_n 0) 1, hz_r (.iload 4) 2, hz_n, hz_r (.iconst 1) 1, hz_r (.iadd) 1, hz_r (.iaload) 1, hz_r (.aload_n 0) 1, hz_r (.iload 4) 2, hz_n, hz_r (.iconst 2) 1, hz_r (.iadd) 1, hz_r (.iaload) 1, hz_r (.aload_n 3) 1, hz_r (.invokestatic 55) 3],
  [hz_n, hz_n, hz_r (.istore 5) 2, hz_n, hz_r (.aload_n 2) 1, hz_r (.aload_n 0) 1, hz_r (.iload 4) 2, hz_n, hz_r (.iconst 1) 1, hz_r (.iadd) 1, hz_r (.iaload) 1, hz_r (.aload_n 0) 1, hz_r (.iload 4) 2, hz_n, hz_r (.iconst 2) 1, hz_r (.iadd) 1],
  [hz_r (.iaload) 1, hz_m (.invokevirtual 60) 3 [195, 3, 1] [], hz_n, hz_n, hz_r (.istore 6) 2, hz_n, hz_r (.aload_n 2) 1, hz_m (.invokevirtual 61) 3 [161, 1, 1] [], hz_n, hz_n, hz_r (.iload 5) 2, hz_n, hz_r (.if_icmp .eq 5) 3, hz_n, hz_n, hz_m (.iconst 0) 1 [] [false, false, false, false, false, false, false, false]],
  [hz_r (.ireturn) 1, hz_m (.iload 5) 2 [] [true, true, true, true, true, true, true, false], hz_n, hz_r (.ifCond .ne 15) 3, hz_n, hz_n, hz_m (.aload_n 3) 1 [] [true, true, true, true, true, false, true, false], hz_r (.iconst 0) 1, hz_r (.laload) 1, hz_r (.iload 6) 2, hz_n, hz_r (.i2l) 1, hz_r (.lcmp) 1, hz_r (.ifCond .eq 5) 3, hz_n, hz_n],
  [hz_m (.iconst 0) 1 [] [false, false, false, false, false, false, false, false], hz_r (.ireturn) 1, hz_m (.goto 1334) 3 [] [true, true, true, true, true, false, false, false], hz_n, hz_n, hz_m (.aload_n 1) 1 [] [true, true, true, true, true, false, false, false], hz_r (.aload_n 0) 1, hz_r (.iload 4) 2, hz_n, hz_r (.iconst 1) 1, hz_r (.iadd) 1, hz_r (.iaload) 1, hz_r (.aload_n 0) 1, hz_r (.iload 4) 2, hz_n, hz_r (.iconst 2) 1],
  [hz_r (.iadd) 1, hz_r (.iaload) 1, hz_r (.aload_n 3) 1, hz_r (.invokestatic 64) 3, hz_n, hz_n, hz_r (.istore 5) 2, hz_n, hz_r (.aload_n 2) 1, hz_r (.aload_n 0) 1, hz_r (.iload 4) 2, hz_n, hz_r (.iconst 1) 1, hz_r (.iadd) 1, hz_r (.iaload) 1, hz_r (.aload_n 0) 1],
  [hz_r (.iload 4) 2, hz_n, hz_r (.iconst 2) 1, hz_r (.iadd) 1, hz_r (.iaload) 1, hz_m (.invokevirtual 66) 3 [196, 3, 1] [], hz_n, hz_n, hz_r (.istore 6) 2, hz_n, hz_r (.aload_n 2) 1, hz_m (.invokevirtual 61) 3 [161, 1, 1] [], hz_n, hz_n, hz_r (.iload 5) 2, hz_n],
  [hz_r (.if_icmp .eq 5) 3, hz_n, hz_n, hz_m (.iconst 0) 1 [] [false, false, false, false, false, false, false, false], hz_r (.ireturn) 1, hz_m (.iload 5) 2 [] [true, true, true, true, true, true, true, false], hz_n, hz_r (.ifCond .ne 15) 3, hz_n, hz_n, hz_m (.aload_n 3) 1 [] [true, true, true, true, true, false, true, false], hz_r (.iconst 0) 1, hz_r (.laload) 1, hz_r (.iload 6) 2, hz_n, hz_r (.i2l) 1],
  [hz_r (.lcmp) 1, hz_r (.ifCond .eq 5) 3, hz_n, hz_n, hz_m (.iconst 0) 1 [] [false, false, false, false, false, false, false, false], hz_r (.ireturn) 1, hz_m (.goto 1266) 3 [] [true, true, true, true, true, false, false, false], hz_n, hz_n, hz_m (.aload_n 1) 1 [] [true, true, true, true, true, false, false, false], hz_r (.aload_n 0) 1, hz_r (.iload 4) 2, hz_n, hz_r (.iconst 1) 1, hz_r (.iadd) 1, hz_r (.iaload) 1],
  [hz_r (.aload_n 0) 1, hz_r (.iload 4) 2, hz_n, hz_r (.iconst 2) 1, hz_r (.iadd) 1, hz_r (.iaload) 1, hz_r (.aload_n 0) 1, hz_r (.iload 4) 2, hz_n, hz_r (.iconst 3) 1, hz_r (.iadd) 1, hz_r (.iaload) 1, hz_m (.invokevirtual 67) 3 [110, 4, 1] [], hz_n, hz_n, hz_r (.aload_n 2) 1],
  [hz_r (.aload_n 0) 1, hz_r (.iload 4) 2, hz_n, hz_r (.iconst 1) 1, hz_r (.iadd) 1, hz_r (.iaload) 1, hz_r (.aload_n 0) 1, hz_r (.iload 4) 2, hz_n, hz_r (.iconst 2) 1, hz_r (.iadd) 1, hz_r (.iaload) 1, hz_r (.aload_n 0) 1, hz_r (.iload 4) 2, hz_n, hz_r (.iconst 3) 1],
  [hz_r (.iadd) 1, hz_r (.iaload) 1, hz_m (.invokevirtual 71) 3 [197, 4, 1] [], hz_n, hz_n, hz_r (.if_icmp .eq 1219) 3, hz_n, hz_n, hz_m (.iconst 0) 1 [] [false, false, false, false, false, false, false, false], hz_r (.ireturn) 1, hz_m (.aload_n 1) 1 [] [true, true, true, true, true, false, false, false], hz_r (.aload_n 0) 1, hz_r (.iload 4) 2, hz_n, hz_r (.iconst 1) 1, hz_r (.iadd) 1],
  [hz_r (.iaload) 1, hz_r (.aload_n 0) 1, hz_r (.iload 4) 2, hz_n, hz_r (.iconst 2) 1, hz_r (.iadd) 1, hz_r (.iaload) 1, hz_m (.invokevirtual 72) 3 [111, 3, 1] [], hz_n, hz_n, hz_r (.aload_n 2) 1, hz_r (.aload_n 0) 1, hz_r (.iload 4) 2, hz_n, hz_r (.iconst 1) 1, hz_r (.iadd) 1],
  [hz_r (.iaload) 1, hz_r (.aload_n 0) 1, hz_r (.iload 4) 2, hz_n, hz_r (.iconst 2) 1, hz_r (.iadd) 1, hz_r (.iaload) 1, hz_m (.invokevirtual 76) 3 [198, 3, 1] [], hz_n, hz_n, hz_r (.if_icmp .eq 1182) 3, hz_n, hz_n, hz_m (.iconst 0) 1 [] [false, false, false, false, false, false, false, false], hz_r (.ireturn) 1, hz_m (.aload_n 1) 1 [] [true, true, true, true, true, false, false, false]],
  [hz_r (.aload_n 0) 1, hz_r (.iload 4) 2, hz_n, hz_r (.iconst 1) 1, hz_r (.iadd) 1, hz_r (.iaload) 1, hz_r (.aload_n 0) 1, hz_r (.iload 4) 2, hz_n, hz_r (.iconst 2) 1, hz_r (.iadd) 1, hz_r (.iaload) 1, hz_r (.aload_n 0) 1, hz_r (.iload 4) 2, hz_n, hz_r (.iconst 3) 1],
  [hz_r (.iadd) 1, hz_r (.iaload) 1, hz_r (.aload_n 0) 1, hz_r (.iload 4) 2, hz_n, hz_r (.iconst 4) 1, hz_r (.iadd) 1, hz_r (.iaload) 1, hz_m (.invokevirtual 77) 3 [112, 5, 1] [], hz_n, hz_n, hz_r (.aload_n 2) 1, hz_r (.aload_n 0) 1, hz_r (.iload 4) 2, hz_n, hz_r (.iconst 1) 1],
  [hz_r (.iadd) 1, hz_r (.iaload) 1, hz_r (.aload_n 0) 1, hz_r (.iload 4) 2, hz_n, hz_r (.iconst 2) 1, hz_r (.iadd) 1, hz_r (.iaload) 1, hz_r (.aload_n 0) 1, hz_r (.iload 4) 2, hz_n, hz_r (.iconst 3) 1, hz_r (.iadd) 1, hz_r (.iaload) 1, hz_r (.aload_n 0) 1, hz_r (.iload 4) 2],
  [hz_n, hz_r (.iconst 4) 1, hz_r (.iadd) 1, hz_r (.iaload) 1, hz_m (.invokevirtual 81) 3 [199, 5, 1] [], hz_n, hz_n, hz_r (.if_icmp .eq 1121) 3, hz_n, hz_n, hz_m (.iconst 0) 1 [] [false, false, false, false, false, false, false, false], hz_r (.ireturn) 1, hz_m (.aload_n 1) 1 [] [true, true, true, true, true, false, false, false], hz_r (.aload_n 0) 1, hz_r (.iload 4) 2, hz_n],
  [hz_r (.iconst 1) 1, hz_r (.iadd) 1, hz_r (.iaload) 1, hz_m (.invokevirtual 82) 3 [113, 2, 1] [], hz_n, hz_n, hz_r (.aload_n 2) 1, hz_r (.aload_n 0) 1, hz_r (.iload 4) 2, hz_n, hz_r (.iconst 1) 1, hz_r (.iadd) 1, hz_r (.iaload) 1, hz_m (.invokevirtual 85) 3 [205, 2, 1] [], hz_n, hz_n],
  [hz_r (.if_icmp .eq 1096) 3, hz_n, hz_n, hz_m (.iconst 0) 1 [] [false, false, false, false, false, false, false, false], hz_r (.ireturn) 1, hz_m (.aload_n 1) 1 [] [true, true, true, true, true, false, false, false], hz_r (.aload_n 0) 1, hz_r (.iload 4) 2, hz_n, hz_r (.iconst 1) 1, hz_r (.iadd) 1, hz_r (.iaload) 1, hz_m (.invokevirtual 86) 3 [114, 2, 1] [], hz_n, hz_n, hz_r (.aload_n 2) 1],
  [hz_r (.aload_n 0) 1, hz_r (.iload 4) 2, hz_n, hz_r (.iconst 1) 1, hz_r (.iadd) 1, hz_r (.iaload) 1, hz_m (.invokevirtual 89) 3 [206, 2, 1] [], hz_n, hz_n, hz_r (.if_icmp .eq 1071) 3, hz_n, hz_n, hz_m (.iconst 0) 1 [] [false, false, false, false, false, false, false, false], hz_r (.ireturn) 1, hz_m (.aload_n 1) 1 [] [true, true, true, true, true, false, false, false], hz_m (.invokevirtual 90) 3 [115, 1, 1] []],
  [hz_n, hz_n, hz_r (.aload_n 2) 1, hz_m (.invokevirtual 93) 3 [208, 1, 1] [], hz_n, hz_n, hz_r (.if_icmp .eq 1058) 3, hz_n, hz_n, hz_m (.iconst 0) 1 [] [false, false, false, false, false, false, false, false], hz_r (.ireturn) 1, hz_m (.aload_n 1) 1 [] [true, true, true, true, true, false, false, false], hz_m (.invokevirtual 94) 3 [116, 1, 1] [], hz_n, hz_n, hz_r (.aload_n 2) 1],
  [hz_m (.invokevirtual 97) 3 [209, 1, 1] [], hz_n, hz_n, hz_r (.if_icmp .eq 1045) 3, hz_n, hz_n, hz_m (.iconst 0) 1 [] [false, false, false, false, false, false, false, false], hz_r (.ireturn) 1, hz_m (.aload_n 1) 1 [] [true, true, true, true, true, false, false, false], hz_r (.aload_n 0) 1, hz_r (.iload 4) 2, hz_n, hz_r (.iconst 1) 1, hz_r (.iadd) 1, hz_r (.iaload) 1, hz_r (.aload_n 0) 1],
  [hz_r (.iload 4) 2, hz_n, hz_r (.iconst 2) 1, hz_r (.iadd) 1, hz_r (.iaload) 1, hz_r (.aload_n 3) 1, hz_r (.invokestatic 98) 3, hz_n, hz_n, hz_r (.istore 5) 2, hz_n, hz_r (.aload_n 2) 1, hz_r (.aload_n 0) 1, hz_r (.iload 4) 2, hz_n, hz_r (.iconst 1) 1],
  [hz_r (.iadd) 1, hz_r (.iaload) 1, hz_r (.aload_n 0) 1, hz_r (.iload 4) 2, hz_n, hz_r (.iconst 2) 1, hz_r (.iadd) 1, hz_r (.iaload) 1, hz_m (.invokevirtual 100) 3 [210, 3, 1] [], hz_n, hz_n, hz_r (.istore 6) 2, hz_n, hz_r (.aload_n 2) 1, hz_m (.invokevirtual 61) 3 [161, 1, 1] [], hz_n],
  [hz_n, hz_r (.iload 5) 2, hz_n, hz_r (.if_icmp .eq 5) 3, hz_n, hz_n, hz_m (.iconst 0) 1 [] [false, false, false, false, false, false, false, false], hz_r (.ireturn) 1, hz_m (.iload 5) 2 [] [true, true, true, true, true, true, true, false], hz_n, hz_r (.ifCond .ne 15) 3, hz_n, hz_n, hz_m (.aload_n 3) 1 [] [true, true, true, true, true, false, true, false], hz_r (.iconst 0) 1, hz_r (.laload) 1],
  [hz_r (.iload 6) 2, hz_n, hz_r (.i2l) 1, hz_r (.lcmp) 1, hz_r (.ifCond .eq 5) 3, hz_n, hz_n, hz_m (.iconst 0) 1 [] [false, false, false, false, false, false, false, false], hz_r (.ireturn) 1, hz_m (.goto 975) 3 [] [true, true, true, true, true, false, false, false], hz_n, hz_n, hz_m (.aload_n 1) 1 [] [true, true, true, true, true, false, false, false], hz_r (.aload_n 0) 1, hz_r (.iload 4) 2, hz_n],
  [hz_r (.iconst 1) 1, hz_r (.iadd) 1, hz_r (.iaload) 1, hz_r (.aload_n 0) 1, hz_r (.iload 4) 2, hz_n, hz_r (.iconst 2) 1, hz_r (.iadd) 1, hz_r (.iaload) 1, hz_m (.invokevirtual 101) 3 [118, 3, 1] [], hz_n, hz_n, hz_r (.aload_n 2) 1, hz_r (.aload_n 0) 1, hz_r (.iload 4) 2, hz_n],
  [hz_r (.iconst 1) 1, hz_r (.iadd) 1, hz_r (.iaload) 1, hz_r (.aload_n 0) 1, hz_r (.iload 4) 2, hz_n, hz_r (.iconst 2) 1, hz_r (.iadd) 1, hz_r (.iaload) 1, hz_m (.invokevirtual 104) 3 [212, 3, 1] [], hz_n, hz_n, hz_r (.if_icmp .eq 940) 3, hz_n, hz_n, hz_m (.iconst 0) 1 [] [false, false, false, false, false, false, false, false]],
  [hz_r (.ireturn) 1, hz_m (.aload_n 1) 1 [] [true, true, true, true, true, false, false, false], hz_r (.aload_n 0) 1, hz_r (.iload 4) 2, hz_n, hz_r (.iconst 1) 1, hz_r (.iadd) 1, hz_r (.iaload) 1, hz_r (.aload_n 0) 1, hz_r (.iload 4) 2, hz_n, hz_r (.iconst 2) 1, hz_r (.iadd) 1, hz_r (.iaload) 1, hz_m (.invokevirtual 105) 3 [119, 3, 1] [], hz_n],
  [hz_n, hz_r (.aload_n 2) 1, hz_r (.aload_n 0) 1, hz_r (.iload 4) 2, hz_n, hz_r (.iconst 1) 1, hz_r (.iadd) 1, hz_r (.iaload) 1, hz_r (.aload_n 0) 1, hz_r (.iload 4) 2, hz_n, hz_r (.iconst 2) 1, hz_r (.iadd) 1, hz_r (.iaload) 1, hz_m (.invokevirtual 108) 3 [213, 3, 1] [], hz_n],
  [hz_n, hz_r (.if_icmp .eq 903) 3, hz_n, hz_n, hz_m (.iconst 0) 1 [] [false, false, false, false, false, false, false, false], hz_r (.ireturn) 1, hz_m (.aload_n 1) 1 [] [true, true, true, true, true, false, false, false], hz_r (.aload_n 0) 1, hz_r (.iload 4) 2, hz_n, hz_r (.iconst 1) 1, hz_r (.iadd) 1, hz_r (.iaload) 1, hz_m (.invokevirtual 109) 3 [120, 2, 1] [], hz_n, hz_n],
  [hz_r (.aload_n 2) 1, hz_r (.aload_n 0) 1, hz_r (.iload 4) 2, hz_n, hz_r (.iconst 1) 1, hz_r (.iadd) 1, hz_r (.iaload) 1, hz_m (.invokevirtual 112) 3 [214, 2, 1] [], hz_n, hz_n, hz_r (.if_icmp .eq 878) 3, hz_n, hz_n, hz_m (.iconst 0) 1 [] [false, false, false, false, false, false, false, false], hz_r (.ireturn) 1, hz_m (.aload_n 1) 1 [] [true, true, true, true, true, false, false, false]],
  [hz_m (.invokevirtual 113) 3 [121, 1, 1] [], hz_n, hz_n, hz_r (.aload_n 2) 1, hz_m (.invokevirtual 116) 3 [204, 1, 1] [], hz_n, hz_n, hz_r (.if_icmp .eq 865) 3, hz_n, hz_n, hz_m (.iconst 0) 1 [] [false, false, false, false, false, false, false, false], hz_r (.ireturn) 1, hz_m (.aload_n 1) 1 [] [true, true, true, true, true, false, false, false], hz_r (.aload_n 0) 1, hz_r (.iload 4) 2, hz_n],
  [hz_r (.iconst 1) 1, hz_r (.iadd) 1, hz_r (.iaload) 1, hz_m (.invokevirtual 117) 3 [122, 2, 1] [], hz_n, hz_n, hz_r (.aload_n 2) 1, hz_r (.aload_n 0) 1, hz_r (.iload 4) 2, hz_n, hz_r (.iconst 1) 1, hz_r (.iadd) 1, hz_r (.iaload) 1, hz_m (.invokevirtual 120) 3 [215, 2, 1] [], hz_n, hz_n],
  [hz_r (.if_icmp .eq 840) 3, hz_n, hz_n, hz_m (.iconst 0) 1 [] [false, false, false, false, false, false, false, false], hz_r (.ireturn) 1, hz_m (.aload_n 1) 1 [] [true, true, true, true, true, false, false, false], hz_r (.aload_n 0) 1, hz_r (.iload 4) 2, hz_n, hz_r (.iconst 1) 1, hz_r (.iadd) 1, hz_r (.iaload) 1, hz_r (.aload_n 0) 1, hz_r (.iload 4) 2, hz_n, hz_r (.iconst 2) 1],
  [hz_r (.iadd) 1, hz_r (.iaload) 1, hz_m (.invokevirtual 121) 3 [123, 3, 1] [], hz_n, hz_n, hz_r (.aload_n 2) 1, hz_r (.aload_n 0) 1, hz_r (.iload 4) 2, hz_n, hz_r (.iconst 1) 1, hz_r (.iadd) 1, hz_r (.iaload) 1, hz_r (.aload_n 0) 1, hz_r (.iload 4) 2, hz_n, hz_r (.iconst 2) 1],
  [hz_r (.iadd) 1, hz_r (.iaload) 1, hz_m (.invokevirtual 124) 3 [220, 3, 1] [], hz_n, hz_n, hz_r (.if_icmp .eq 803) 3, hz_n, hz_n, hz_m (.iconst 0) 1 [] [false, false, false, false, false, false, false, false], hz_r (.ireturn) 1, hz_m (.aload_n 1) 1 [] [true, true, true, true, true, false, false, false], hz_r (.aload_n 0) 1, hz_r (.iload 4) 2, hz_n, hz_r (.iconst 1) 1, hz_r (.iadd) 1],
  [hz_r (.iaload) 1, hz_m (.invokevirtual 125) 3 [124, 2, 1] [], hz_n, hz_n, hz_r (.aload_n 2) 1, hz_r (.aload_n 0) 1, hz_r (.iload 4) 2, hz_n, hz_r (.iconst 1) 1, hz_r (.iadd) 1, hz_r (.iaload) 1, hz_m (.invokevirtual 128) 3 [221, 2, 1] [], hz_n, hz_n, hz_r (.if_icmp .eq 778) 3, hz_n],
  [hz_n, hz_m (.iconst 0) 1 [] [false, false, false, false, false, false, false, false], hz_r (.ireturn) 1, hz_m (.aload_n 1) 1 [] [true, true, true, true, true, false, false, false], hz_r (.aload_n 0) 1, hz_r (.iload 4) 2, hz_n, hz_r (.iconst 1) 1, hz_r (.iadd) 1, hz_r (.iaload) 1, hz_m (.invokevirtual 129) 3 [125, 2, 1] [], hz_n, hz_n, hz_r (.aload_n 2) 1, hz_r (.aload_n 0) 1, hz_r (.iload 4) 2],
  [hz_n, hz_r (.iconst 1) 1, hz_r (.iadd) 1, hz_r (.iaload) 1, hz_m (.invokevirtual 132) 3 [222, 2, 1] [], hz_n, hz_n, hz_r (.if_icmp .eq 753) 3, hz_n, hz_n, hz_m (.iconst 0) 1 [] [false, false, false, false, false, false, false, false], hz_r (.ireturn) 1, hz_m (.aload_n 1) 1 [] [true, true, true, true, true, false, false, false], hz_r (.aload_n 0) 1, hz_r (.iload 4) 2, hz_n],
  [hz_r (.iconst 1) 1, hz_r (.iadd) 1, hz_r (.iaload) 1, hz_m (.invokevirtual 133) 3 [126, 2, 1] [], hz_n, hz_n, hz_r (.aload_n 2) 1, hz_r (.aload_n 0) 1, hz_r (.iload 4) 2, hz_n, hz_r (.iconst 1) 1, hz_r (.iadd) 1, hz_r (.iaload) 1, hz_m (.invokevirtual 136) 3 [223, 2, 1] [], hz_n, hz_n],
  [hz_r (.if_icmp .eq 728) 3, hz_n, hz_n, hz_m (.iconst 0) 1 [] [false, false, false, false, false, false, false, false], hz_r (.ireturn) 1, hz_m (.aload_n 1) 1 [] [true, true, true, true, true, false, false, false], hz_r (.aload_n 0) 1, hz_r (.iload 4) 2, hz_n, hz_r (.iconst 1) 1, hz_r (.iadd) 1, hz_r (.iaload) 1, hz_r (.aload_n 0) 1, hz_r (.iload 4) 2, hz_n, hz_r (.iconst 2) 1],
  [hz_r (.iadd) 1, hz_r (.iaload) 1, hz_m (.invokevirtual 137) 3 [127, 3, 1] [], hz_n, hz_n, hz_r (.aload_n 2) 1, hz_r (.aload_n 0) 1, hz_r (.iload 4) 2, hz_n, hz_r (.iconst 1) 1, hz_r (.iadd) 1, hz_r (.iaload) 1, hz_r (.aload_n 0) 1, hz_r (.iload 4) 2, hz_n, hz_r (.iconst 2) 1],
  [hz_r (.iadd) 1, hz_r (.iaload) 1, hz_m (.invokevirtual 140) 3 [224, 3, 1] [], hz_n, hz_n, hz_r (.if_icmp .eq 691) 3, hz_n, hz_n, hz_m (.iconst 0) 1 [] [false, false, false, false, false, false, false, false], hz_r (.ireturn) 1, hz_m (.aload_n 1) 1 [] [true, true, true, true, true, false, false, false], hz_r (.aload_n 0) 1, hz_r (.iload 4) 2, hz_n, hz_r (.iconst 1) 1, hz_r (.iadd) 1],
  [hz_r (.iaload) 1, hz_r (.aload_n 0) 1, hz_r (.iload 4) 2, hz_n, hz_r (.iconst 2) 1, hz_r (.iadd) 1, hz_r (.iaload) 1, hz_m (.invokevirtual 141) 3 [128, 3, 1] [], hz_n, hz_n, hz_r (.aload_n 2) 1, hz_r (.aload_n 0) 1, hz_r (.iload 4) 2, hz_n, hz_r (.iconst 1) 1, hz_r (.iadd) 1],
  [hz_r (.iaload) 1, hz_r (.aload_n 0) 1, hz_r (.iload 4) 2, hz_n, hz_r (.iconst 2) 1, hz_r (.iadd) 1, hz_r (.iaload) 1, hz_m (.invokevirtual 144) 3 [227, 3, 1] [], hz_n, hz_n, hz_r (.if_icmp .eq 654) 3, hz_n, hz_n, hz_m (.iconst 0) 1 [] [false, false, false, false, false, false, false, false], hz_r (.ireturn) 1, hz_m (.aload_n 1) 1 [] [true, true, true, true, true, false, false, false]],
  [hz_r (.aload_n 0) 1, hz_r (.iload 4) 2, hz_n, hz_r (.iconst 1) 1, hz_r (.iadd) 1, hz_r (.iaload) 1, hz_m (.invokevirtual 145) 3 [129, 2, 1] [], hz_n, hz_n, hz_r (.aload_n 2) 1, hz_r (.aload_n 0) 1, hz_r (.iload 4) 2, hz_n, hz_r (.iconst 1) 1, hz_r (.iadd) 1, hz_r (.iaload) 1],
  [hz_m (.invokevirtual 148) 3 [229, 2, 1] [], hz_n, hz_n, hz_r (.if_icmp .eq 629) 3, hz_n, hz_n, hz_m (.iconst 0) 1 [] [false, false, false, false, false, false, false, false], hz_r (.ireturn) 1, hz_m (.aload_n 1) 1 [] [true, true, true, true, true, false, false, false], hz_r (.aload_n 0) 1, hz_r (.iload 4) 2, hz_n, hz_r (.iconst 1) 1, hz_r (.iadd) 1, hz_r (.iaload) 1, hz_r (.aload_n 0) 1],
  [hz_r (.iload 4) 2, hz_n, hz_r (.iconst 2) 1, hz_r (.iadd) 1, hz_r (.iaload) 1, hz_m (.invokevirtual 149) 3 [130, 3, 1] [], hz_n, hz_n, hz_r (.aload_n 2) 1, hz_r (.aload_n 0) 1, hz_r (.iload 4) 2, hz_n, hz_r (.iconst 1) 1, hz_r (.iadd) 1, hz_r (.iaload) 1, hz_r (.aload_n 0) 1],
  [hz_r (.iload 4) 2, hz_n, hz_r (.iconst 2) 1, hz_r (.iadd) 1, hz_r (.iaload) 1, hz_m (.invokevirtual 152) 3 [230, 3, 1] [], hz_n, hz_n, hz_r (.if_icmp .eq 592) 3, hz_n, hz_n, hz_m (.iconst 0) 1 [] [false, false, false, false, false, false, false, false], hz_r (.ireturn) 1, hz_m (.aload_n 1) 1 [] [true, true, true, true, true, false, false, false], hz_r (.aload_n 0) 1, hz_r (.iload 4) 2],
  [hz_n, hz_r (.iconst 1) 1, hz_r (.iadd) 1, hz_r (.iaload) 1, hz_r (.aload_n 0) 1, hz_r (.iload 4) 2, hz_n, hz_r (.iconst 2) 1, hz_r (.iadd) 1, hz_r (.iaload) 1, hz_r (.aload_n 3) 1, hz_r (.invokestatic 153) 3, hz_n, hz_n, hz_r (.istore 5) 2, hz_n],
  [hz_r (.aload_n 2) 1, hz_r (.aload_n 0) 1, hz_r (.iload 4) 2, hz_n, hz_r (.iconst 1) 1, hz_r (.iadd) 1, hz_r (.iaload) 1, hz_r (.aload_n 0) 1, hz_r (.iload 4) 2, hz_n, hz_r (.iconst 2) 1, hz_r (.iadd) 1, hz_r (.iaload) 1, hz_m (.invokevirtual 155) 3 [231, 3, 1] [], hz_n, hz_n],
  [hz_r (.istore 6) 2, hz_n, hz_r (.aload_n 2) 1, hz_m (.invokevirtual 61) 3 [161, 1, 1] [], hz_n, hz_n, hz_r (.iload 5) 2, hz_n, hz_r (.if_icmp .eq 5) 3, hz_n, hz_n, hz_m (.iconst 0) 1 [] [false, false, false, false, false, false, false, false], hz_r (.ireturn) 1, hz_m (.iload 5) 2 [] [true, true, true, true, true, true, true, false], hz_n, hz_r (.ifCond .ne 15) 3],
  [hz_n, hz_n, hz_m (.aload_n 3) 1 [] [true, true, true, true, true, false, true, false], hz_r (.iconst 0) 1, hz_r (.laload) 1, hz_r (.iload 6) 2, hz_n, hz_r (.i2l) 1, hz_r (.lcmp) 1, hz_r (.ifCond .eq 5) 3, hz_n, hz_n, hz_m (.iconst 0) 1 [] [false, false, false, false, false, false, false, false], hz_r (.ireturn) 1, hz_m (.goto 522) 3 [] [true, true, true, true, true, false, false, false], hz_n],
  [hz_n, hz_m (.aload_n 1) 1 [] [true, true, true, true, true, false, false, false], hz_r (.aload_n 0) 1, hz_r (.iload 4) 2, hz_n, hz_r (.iconst 1) 1, hz_r (.iadd) 1, hz_r (.iaload) 1, hz_m (.invokevirtual 156) 3 [132, 2, 1] [], hz_n, hz_n, hz_r (.aload_n 2) 1, hz_r (.aload_n 0) 1, hz_r (.iload 4) 2, hz_n, hz_r (.iconst 1) 1],
  [hz_r (.iadd) 1, hz_r (.iaload) 1, hz_m (.invokevirtual 159) 3 [234, 2, 1] [], hz_n, hz_n, hz_r (.if_icmp .eq 499) 3, hz_n, hz_n, hz_m (.iconst 0) 1 [] [false, false, false, false, false, false, false, false], hz_r (.ireturn) 1, hz_m (.aload_n 1) 1 [] [true, true, true, true, true, false, false, false], hz_r (.aload_n 0) 1, hz_r (.iload 4) 2, hz_n, hz_r (.iconst 1) 1, hz_r (.iadd) 1],
  [hz_r (.iaload) 1, hz_r (.aload_n 0) 1, hz_r (.iload 4) 2, hz_n, hz_r (.iconst 2) 1, hz_r (.iadd) 1, hz_r (.iaload) 1, hz_m (.invokevirtual 160) 3 [133, 3, 1] [], hz_n, hz_n, hz_r (.aload_n 2) 1, hz_r (.aload_n 0) 1, hz_r (.iload 4) 2, hz_n, hz_r (.iconst 1) 1, hz_r (.iadd) 1],
  [hz_r (.iaload) 1, hz_r (.aload_n 0) 1, hz_r (.iload 4) 2, hz_n, hz_r (.iconst 2) 1, hz_r (.iadd) 1, hz_r (.iaload) 1, hz_m (.invokevirtual 163) 3 [235, 3, 1] [], hz_n, hz_n, hz_r (.if_icmp .eq 462) 3, hz_n, hz_n, hz_m (.iconst 0) 1 [] [false, false, false, false, false, false, false, false], hz_r (.ireturn) 1, hz_m (.aload_n 1) 1 [] [true, true, true, true, true, false, false, false]],
  [hz_r (.aload_n 0) 1, hz_r (.iload 4) 2, hz_n, hz_r (.iconst 1) 1, hz_r (.iadd) 1, hz_r (.iaload) 1, hz_r (.aload_n 0) 1, hz_r (.iload 4) 2, hz_n, hz_r (.iconst 2) 1, hz_r (.iadd) 1, hz_r (.iaload) 1, hz_m (.invokevirtual 164) 3 [134, 3, 1] [], hz_n, hz_n, hz_r (.aload_n 2) 1],
  [hz_r (.aload_n 0) 1, hz_r (.iload 4) 2, hz_n, hz_r (.iconst 1) 1, hz_r (.iadd) 1, hz_r (.iaload) 1, hz_r (.aload_n 0) 1, hz_r (.iload 4) 2, hz_n, hz_r (.iconst 2) 1, hz_r (.iadd) 1, hz_r (.iaload) 1, hz_m (.invokevirtual 167) 3 [236, 3, 1] [], hz_n, hz_n, hz_r (.if_icmp .eq 425) 3],
  [hz_n, hz_n, hz_m (.iconst 0) 1 [] [false, false, false, false, false, false, false, false], hz_r (.ireturn) 1, hz_m (.aload_n 1) 1 [] [true, true, true, true, true, false, false, false], hz_m (.invokevirtual 168) 3 [135, 1, 1] [], hz_n, hz_n, hz_r (.aload_n 2) 1, hz_m (.invokevirtual 171) 3 [237, 1, 1] [], hz_n, hz_n, hz_r (.if_icmp .eq 412) 3, hz_n, hz_n, hz_m (.iconst 0) 1 [] [false, false, false, false, false, false, false, false]],
  [hz_r (.ireturn) 1, hz_m (.aload_n 1) 1 [] [true, true, true, true, true, false, false, false], hz_r (.aload_n 0) 1, hz_r (.iload 4) 2, hz_n, hz_r (.iconst 1) 1, hz_r (.iadd) 1, hz_r (.iaload) 1, hz_r (.aload_n 0) 1, hz_r (.iload 4) 2, hz_n, hz_r (.iconst 2) 1, hz_r (.iadd) 1, hz_r (.iaload) 1, hz_m (.invokevirtual 172) 3 [136, 3, 1] [], hz_n],
  [hz_n, hz_r (.aload_n 2) 1, hz_r (.aload_n 0) 1, hz_r (.iload 4) 2, hz_n, hz_r (.iconst 1) 1, hz_r (.iadd) 1, hz_r (.iaload) 1, hz_r (.aload_n 0) 1, hz_r (.iload 4) 2, hz_n, hz_r (.iconst 2) 1, hz_r (.iadd) 1, hz_r (.iaload) 1, hz_m (.invokevirtual 175) 3 [238, 3, 1] [], hz_n],
  [hz_n, hz_r (.if_icmp .eq 375) 3, hz_n, hz_n, hz_m (.iconst 0) 1 [] [false, false, false, false, false, false, false, false], hz_r (.ireturn) 1, hz_m (.aload_n 1) 1 [] [true, true, true, true, true, false, false, false], hz_m (.invokevirtual 176) 3 [137, 1, 1] [], hz_n, hz_n, hz_r (.aload_n 2) 1, hz_m (.invokevirtual 179) 3 [239, 1, 1] [], hz_n, hz_n, hz_r (.if_icmp .eq 362) 3, hz_n],
  [hz_n, hz_m (.iconst 0) 1 [] [false, false, false, false, false, false, false, false], hz_r (.ireturn) 1, hz_m (.aload_n 1) 1 [] [true, true, true, true, true, false, false, false], hz_m (.invokevirtual 180) 3 [138, 1, 1] [], hz_n, hz_n, hz_r (.aload_n 2) 1, hz_m (.invokevirtual 183) 3 [243, 1, 1] [], hz_n, hz_n, hz_r (.if_icmp .eq 349) 3, hz_n, hz_n, hz_m (.iconst 0) 1 [] [false, false, false, false, false, false, false, false], hz_r (.ireturn) 1],
  [hz_m (.aload_n 1) 1 [] [true, true, true, true, true, false, false, false], hz_r (.aload_n 0) 1, hz_r (.iload 4) 2, hz_n, hz_r (.iconst 1) 1, hz_r (.iadd) 1, hz_r (.iaload) 1, hz_m (.invokevirtual 184) 3 [139, 2, 1] [], hz_n, hz_n, hz_r (.aload_n 2) 1, hz_r (.aload_n 0) 1, hz_r (.iload 4) 2, hz_n, hz_r (.iconst 1) 1, hz_r (.iadd) 1],
  [hz_r (.iaload) 1, hz_m (.invokevirtual 187) 3 [244, 2, 1] [], hz_n, hz_n, hz_r (.if_icmp .eq 324) 3, hz_n, hz_n, hz_m (.iconst 0) 1 [] [false, false, false, false, false, false, false, false], hz_r (.ireturn) 1, hz_m (.aload_n 1) 1 [] [true, true, true, true, true, false, false, false], hz_m (.invokevirtual 188) 3 [140, 1, 1] [], hz_n, hz_n, hz_r (.aload_n 2) 1, hz_m (.invokevirtual 191) 3 [246, 1, 1] [], hz_n],
  [hz_n, hz_r (.if_icmp .eq 311) 3, hz_n, hz_n, hz_m (.iconst 0) 1 [] [false, false, false, false, false, false, false, false], hz_r (.ireturn) 1, hz_m (.aload_n 1) 1 [] [true, true, true, true, true, false, false, false], hz_m (.invokevirtual 192) 3 [141, 1, 1] [], hz_n, hz_n, hz_r (.aload_n 2) 1, hz_m (.invokevirtual 195) 3 [247, 1, 1] [], hz_n, hz_n, hz_r (.if_icmp .eq 298) 3, hz_n],
  [hz_n, hz_m (.iconst 0) 1 [] [false, false, false, false, false, false, false, false], hz_r (.ireturn) 1, hz_m (.aload_n 1) 1 [] [true, true, true, true, true, false, false, false], hz_r (.aload_n 0) 1, hz_r (.iload 4) 2, hz_n, hz_r (.iconst 1) 1, hz_r (.iadd) 1, hz_r (.iaload) 1, hz_r (.aload_n 0) 1, hz_r (.iload 4) 2, hz_n, hz_r (.iconst 2) 1, hz_r (.iadd) 1, hz_r (.iaload) 1],
  [hz_m (.invokevirtual 196) 3 [142, 3, 1] [], hz_n, hz_n, hz_r (.aload_n 2) 1, hz_r (.aload_n 0) 1, hz_r (.iload 4) 2, hz_n, hz_r (.iconst 1) 1, hz_r (.iadd) 1, hz_r (.iaload) 1, hz_r (.aload_n 0) 1, hz_r (.iload 4) 2, hz_n, hz_r (.iconst 2) 1, hz_r (.iadd) 1, hz_r (.iaload) 1],
  [hz_m (.invokevirtual 199) 3 [248, 3, 1] [], hz_n, hz_n, hz_r (.if_icmp .eq 261) 3, hz_n, hz_n, hz_m (.iconst 0) 1 [] [false, false, false, false, false, false, false, false], hz_r (.ireturn) 1, hz_m (.aload_n 1) 1 [] [true, true, true, true, true, false, false, false], hz_m (.invokevirtual 200) 3 [143, 1, 1] [], hz_n, hz_n, hz_r (.aload_n 2) 1, hz_m (.invokevirtual 203) 3 [249, 1, 1] [], hz_n, hz_n],
  [hz_r (.if_icmp .eq 248) 3, hz_n, hz_n, hz_m (.iconst 0) 1 [] [false, false, false, false, false, false, false, false], hz_r (.ireturn) 1, hz_m (.aload_n 1) 1 [] [true, true, true, true, true, false, false, false], hz_r (.aload_n 0) 1, hz_r (.iload 4) 2, hz_n, hz_r (.iconst 1) 1, hz_r (.iadd) 1, hz_r (.iaload) 1, hz_m (.invokevirtual 204) 3 [144, 2, 1] [], hz_n, hz_n, hz_r (.aload_n 2) 1],
  [hz_r (.aload_n 0) 1, hz_r (.iload 4) 2, hz_n, hz_r (.iconst 1) 1, hz_r (.iadd) 1, hz_r (.iaload) 1, hz_m (.invokevirtual 207) 3 [251, 2, 1] [], hz_n, hz_n, hz_r (.if_icmp .eq 223) 3, hz_n, hz_n, hz_m (.iconst 0) 1 [] [false, false, false, false, false, false, false, false], hz_r (.ireturn) 1, hz_m (.aload_n 1) 1 [] [true, true, true, true, true, false, false, false], hz_m (.invokevirtual 208) 3 [145, 1, 1] []],
  [hz_n, hz_n, hz_r (.aload_n 2) 1, hz_m (.invokevirtual 211) 3 [252, 1, 1] [], hz_n, hz_n, hz_r (.if_icmp .eq 210) 3, hz_n, hz_n, hz_m (.iconst 0) 1 [] [false, false, false, false, false, false, false, false], hz_r (.ireturn) 1, hz_m (.aload_n 1) 1 [] [true, true, true, true, true, false, false, false], hz_r (.aload_n 0) 1, hz_r (.iload 4) 2, hz_n, hz_r (.iconst 1) 1],
  [hz_r (.iadd) 1, hz_r (.iaload) 1, hz_m (.invokevirtual 212) 3 [146, 2, 1] [], hz_n, hz_n, hz_r (.aload_n 2) 1, hz_r (.aload_n 0) 1, hz_r (.iload 4) 2, hz_n, hz_r (.iconst 1) 1, hz_r (.iadd) 1, hz_r (.iaload) 1, hz_m (.invokevirtual 215) 3 [253, 2, 1] [], hz_n, hz_n, hz_r (.if_icmp .eq 185) 3],
  [hz_n, hz_n, hz_m (.iconst 0) 1 [] [false, false, false, false, false, false, false, false], hz_r (.ireturn) 1, hz_m (.aload_n 1) 1 [] [true, true, true, true, true, false, false, false], hz_r (.aload_n 0) 1, hz_r (.iload 4) 2, hz_n, hz_r (.iconst 1) 1, hz_r (.iadd) 1, hz_r (.iaload) 1, hz_r (.aload_n 0) 1, hz_r (.iload 4) 2, hz_n, hz_r (.iconst 2) 1, hz_r (.iadd) 1],
  [hz_r (.iaload) 1, hz_m (.invokevirtual 216) 3 [147, 3, 1] [], hz_n, hz_n, hz_r (.aload_n 2) 1, hz_r (.aload_n 0) 1, hz_r (.iload 4) 2, hz_n, hz_r (.iconst 1) 1, hz_r (.iadd) 1, hz_r (.iaload) 1, hz_r (.aload_n 0) 1, hz_r (.iload 4) 2, hz_n, hz_r (.iconst 2) 1, hz_r (.iadd) 1],
  [hz_r (.iaload) 1, hz_m (.invokevirtual 219) 3 [255, 3, 1] [], hz_n, hz_n, hz_r (.if_icmp .eq 148) 3, hz_n, hz_n, hz_m (.iconst 0) 1 [] [false, false, false, false, false, false, false, false], hz_r (.ireturn) 1, hz_m (.aload_n 1) 1 [] [true, true, true, true, true, false, false, false], hz_m (.invokevirtual 220) 3 [148, 1, 1] [], hz_n, hz_n, hz_r (.aload_n 2) 1, hz_m (.invokevirtual 223) 3 [256, 1, 1] [], hz_n],
  [hz_n, hz_r (.if_icmp .eq 135) 3, hz_n, hz_n, hz_m (.iconst 0) 1 [] [false, false, false, false, false, false, false, false], hz_r (.ireturn) 1, hz_m (.aload_n 1) 1 [] [true, true, true, true, true, false, false, false], hz_r (.aload_n 0) 1, hz_r (.iload 4) 2, hz_n, hz_r (.iconst 1) 1, hz_r (.iadd) 1, hz_r (.iaload) 1, hz_m (.invokevirtual 224) 3 [149, 2, 1] [], hz_n, hz_n],
  [hz_r (.aload_n 2) 1, hz_r (.aload_n 0) 1, hz_r (.iload 4) 2, hz_n, hz_r (.iconst 1) 1, hz_r (.iadd) 1, hz_r (.iaload) 1, hz_m (.invokevirtual 227) 3 [257, 2, 1] [], hz_n, hz_n, hz_r (.if_icmp .eq 110) 3, hz_n, hz_n, hz_m (.iconst 0) 1 [] [false, false, false, false, false, false, false, false], hz_r (.ireturn) 1, hz_m (.aload_n 1) 1 [] [true, true, true, true, true, false, false, false]],
  [hz_r (.aload_n 0) 1, hz_r (.iload 4) 2, hz_n, hz_r (.iconst 1) 1, hz_r (.iadd) 1, hz_r (.iaload) 1, hz_m (.invokevirtual 228) 3 [150, 2, 1] [], hz_n, hz_n, hz_r (.aload_n 2) 1, hz_r (.aload_n 0) 1, hz_r (.iload 4) 2, hz_n, hz_r (.iconst 1) 1, hz_r (.iadd) 1, hz_r (.iaload) 1],
  [hz_m (.invokevirtual 231) 3 [258, 2, 1] [], hz_n, hz_n, hz_r (.if_icmp .eq 85) 3, hz_n, hz_n, hz_m (.iconst 0) 1 [] [false, false, false, false, false, false, false, false], hz_r (.ireturn) 1, hz_m (.aload_n 1) 1 [] [true, true, true, true, true, false, false, false], hz_r (.aload_n 0) 1, hz_r (.iload 4) 2, hz_n, hz_r (.iconst 1) 1, hz_r (.iadd) 1, hz_r (.iaload) 1, hz_m (.invokevirtual 232) 3 [151, 2, 1] []],
  [hz_n, hz_n, hz_r (.aload_n 2) 1, hz_r (.aload_n 0) 1, hz_r (.iload 4) 2, hz_n, hz_r (.iconst 1) 1, hz_r (.iadd) 1, hz_r (.iaload) 1, hz_m (.invokevirtual 235) 3 [260, 2, 1] [], hz_n, hz_n, hz_r (.if_icmp .eq 60) 3, hz_n, hz_n, hz_m (.iconst 0) 1 [] [false, false, false, false, false, false, false, false]],
  [hz_r (.ireturn) 1, hz_m (.aload_n 1) 1 [] [true, true, true, true, true, false, false, false], hz_r (.aload_n 0) 1, hz_r (.iload 4) 2, hz_n, hz_r (.iconst 1) 1, hz_r (.iadd) 1, hz_r (.iaload) 1, hz_r (.aload_n 3) 1, hz_r (.invokestatic 236) 3, hz_n, hz_n, hz_r (.istore 5) 2, hz_n, hz_r (.aload_n 2) 1, hz_r (.aload_n 0) 1],
  [hz_r (.iload 4) 2, hz_n, hz_r (.iconst 1) 1, hz_r (.iadd) 1, hz_r (.iaload) 1, hz_m (.invokevirtual 239) 3 [261, 2, 2] [], hz_n, hz_n, hz_r (.lstore 6) 2, hz_n, hz_r (.aload_n 2) 1, hz_m (.invokevirtual 61) 3 [161, 1, 1] [], hz_n, hz_n, hz_r (.iload 5) 2, hz_n],
  [hz_r (.if_icmp .eq 5) 3, hz_n, hz_n, hz_m (.iconst 0) 1 [] [false, false, false, false, false, false, false, false], hz_r (.ireturn) 1, hz_m (.iload 5) 2 [] [true, true, true, true, true, true, true, false], hz_n, hz_r (.ifCond .ne 14) 3, hz_n, hz_n, hz_m (.aload_n 3) 1 [] [true, true, true, true, true, false, true, false], hz_r (.iconst 0) 1, hz_r (.laload) 1, hz_r (.lload 6) 2, hz_n, hz_r (.lcmp) 1],
  [hz_r (.ifCond .eq 5) 3, hz_n, hz_n, hz_m (.iconst 0) 1 [] [false, false, false, false, false, false, false, false], hz_r (.ireturn) 1, hz_m (.goto 3) 3 [] [true, true, true, true, true, false, false, false], hz_n, hz_n, hz_m (.iinc 4 5) 3 [] [true, true, true, true, true, false, false, false], hz_n, hz_n, hz_m (.goto (-1732)) 3 [1] [], hz_n, hz_n, hz_m (.iconst 1) 1 [] [false, false, false, false, false, false, false, false], hz_r (.ireturn) 1]]
end
section
/-! ===== running: with fuel, then without; calls by depth ===== -/
def hs_one {ρ : Type} (code : hs_K) (call : hs_C) (k done : hs_T ρ) (pc : Nat) (ls : hs_L) (st : List hs_V) (μ : hs_M) : Option ρ :=
  match hs_at code pc with
  | some r => hs_step call k done r pc (hs_mask r.2.2.2 ls) st μ
  | none => none
def hs_clean (code : hs_K) (pc : Nat) (ls : hs_L) : hs_L :=
  match hs_at code pc with
  | some r => hs_mask r.2.2.2 ls
  | none => ls
def hs_run {ρ : Type} (code : hs_K) (call : hs_C) (done : hs_T ρ) (n : Nat) : hs_T ρ :=
  Nat.rec (fun _ _ _ _ => none) (fun _ ih => hs_one code call ih done) n
def hs_mem (l : List Nat) (n : Nat) : Bool := match l with
  | [] => false
  | a :: l => Nat.beq a n || hs_mem l n
/-- as far as the next of some places -/
def hs_go {ρ : Type} (code : hs_K) (call : hs_C) (stops : List Nat) (K done : hs_T ρ) (n : Nat) : hs_T ρ :=
  Nat.rec K (fun _ ih => hs_one code call (fun pc ls st μ => match hs_mem stops pc with
    | true => K pc (hs_clean code pc ls) st μ
    | false => ih pc ls st μ) done) n
noncomputable def hs_lim {ρ : Type} (g : Nat → Option ρ) : Option ρ := by
  classical
  exact if h : ∃ n, (g n).isSome = true then g h.choose else none
noncomputable def hs_evW {ρ : Type} (code : hs_K) (call : hs_C) (done : hs_T ρ) : hs_T ρ := fun pc ls st μ => hs_lim (fun n => hs_run code call done n pc ls st μ)
def hs_rz (x : Int32) (μ : hs_M) : Option (Option hs_V × hs_M) := if x &&& 1 = x then some (some (vI x), μ) else none
/-- what comes back: 0 nothing, 1 an int, 2 a long, 3 a truth -/
def hs_fin (rk : Nat) : hs_T (Option hs_V × hs_M) := fun _ _ st μ =>
  match rk, st with
  | _, [] => some (none, μ)
  | 1, [.inl x] => some (some (vI x), μ)
  | 2, [.inr (.inl x)] => some (some (vL x), μ)
  | 3, [.inl x] => hs_rz x μ
  | _, _ => none
def hs_ent : List hs_V → Nat → hs_L
  | [], n => List.replicate n none
  | .inr (.inl x) :: l, n => some (vL x) :: none :: hs_ent l (n - 2)
  | v :: l, n => some v :: hs_ent l (n - 1)
abbrev hs_P : Type := hs_K × (Nat × Nat)
def hs_progs : List hs_P := [(hs_k0, 1, 1),
  (hs_k1, 3, 1),
  (hs_k2, 2, 1),
  (hs_k3, 2, 1),
  (hs_k4, 4, 0),
  (hs_k5, 2, 1),
  (hs_k6, 4, 1),
  (hs_k7, 3, 1),
  (hs_k8, 3, 1),
  (hs_k9, 6, 1),
  (hs_k10, 4, 1),
  (hs_k11, 4, 1),
  (hs_k12, 3, 1),
  (hs_k13, 7, 0),
  (hs_k14, 4, 0),
  (hs_k15, 6, 1),
  (hs_k16, 5, 3),
  (hs_k17, 7, 1),
  (hs_k18, 6, 1),
  (hs_k19, 6, 1),
  (hs_k20, 3, 1),
  (hs_k21, 7, 1),
  (hs_k22, 4, 1),
  (hs_k23, 6, 1),
  (hs_k24, 3, 0),
  (hs_k25, 5, 2),
  (hs_k26, 3, 1),
  (hs_k27, 4, 0),
  (hs_k28, 3, 0),
  (hs_k29, 8, 1),
  (hs_k30, 2, 1),
  (hs_k31, 9, 0),
  (hs_k32, 5, 1),
  (hs_k33, 6, 1),
  (hs_k34, 3, 1),
  (hs_k35, 2, 1),
  (hs_k36, 2, 1),
  (hs_k37, 2, 0),
  (hs_k38, 2, 3),
  (hs_k39, 1, 0),
  (hs_k40, 4, 3),
  (hs_k41, 4, 3),
  (hs_k42, 3, 0),
  (hs_k43, 3, 0),
  (hs_k44, 4, 0),
  (hs_k45, 7, 0),
  (hs_k46, 7, 2),
  (hs_k47, 3, 1),
  (hs_k48, 7, 1),
  (hs_k49, 7, 1),
  (hs_k50, 5, 1),
  (hs_k51, 3, 0),
  (hs_k52, 2, 0),
  (hs_k53, 2, 0),
  (hs_k54, 3, 0),
  (hs_k55, 2, 3),
  (hs_k56, 3, 0),
  (hs_k57, 2, 1),
  (hs_k58, 3, 1),
  (hs_k59, 2, 1),
  (hs_k60, 2, 0),
  (hs_k61, 3, 3),
  (hs_k62, 2, 0),
  (hs_k63, 2, 1),
  (hs_k64, 3, 1),
  (hs_k65, 2, 3),
  (hs_k66, 1, 1),
  (hs_k67, 4, 1),
  (hs_k68, 2, 1),
  (hs_k69, 4, 1),
  (hs_k70, 5, 0),
  (hs_k71, 7, 1),
  (hs_k72, 3, 0),
  (hs_k73, 3, 1),
  (hs_k74, 3, 1),
  (hs_k75, 3, 3),
  (hs_k76, 5, 3),
  (hs_k77, 4, 3),
  (hs_k78, 4, 3),
  (hs_k79, 1, 3),
  (hs_k80, 2, 0),
  (hs_k81, 3, 0),
  (hs_k82, 2, 1),
  (hs_k83, 6, 1),
  (hs_k84, 6, 1),
  (hs_k85, 5, 1),
  (hs_k86, 5, 1),
  (hs_k87, 6, 1),
  (hs_k88, 5, 3),
  (hs_k89, 3, 3),
  (hs_k90, 8, 1),
  (hs_k91, 5, 1),
  (hs_k92, 2, 1),
  (hs_k93, 8, 3),
  (hs_k94, 1, 1),
  (hs_k95, 6, 3),
  (hs_k96, 3, 3),
  (hs_k97, 4, 0),
  (hs_k98, 2, 0),
  (hs_k99, 1, 3),
  (hs_k100, 9, 1),
  (hs_k101, 3, 1),
  (hs_k102, 5, 1),
  (hs_k103, 2, 1),
  (hs_k104, 2, 3),
  (hs_k105, 4, 1),
  (hs_k106, 2, 1),
  (hs_k107, 3, 1),
  (hs_k108, 3, 1),
  (hs_k109, 3, 1),
  (hs_k110, 4, 1),
  (hs_k111, 3, 3),
  (hs_k112, 9, 1),
  (hs_k113, 3, 1),
  (hs_k114, 6, 1),
  (hs_k115, 3, 1),
  (hs_k116, 1, 1),
  (hs_k117, 3, 1),
  (hs_k118, 3, 1),
  (hs_k119, 3, 1),
  (hs_k120, 2, 1),
  (hs_k121, 1, 1),
  (hs_k122, 2, 1),
  (hs_k123, 3, 1),
  (hs_k124, 2, 1),
  (hs_k125, 2, 1),
  (hs_k126, 2, 1),
  (hs_k127, 3, 1),
  (hs_k128, 3, 1),
  (hs_k129, 2, 1),
  (hs_k130, 3, 1),
  (hs_k131, 3, 1),
  (hs_k132, 2, 1),
  (hs_k133, 3, 1),
  (hs_k134, 3, 1),
  (hs_k135, 1, 1),
  (hs_k136, 3, 1),
  (hs_k137, 1, 1),
  (hs_k138, 1, 1),
  (hs_k139, 3, 1),
  (hs_k140, 5, 1),
  (hs_k141, 6, 1),
  (hs_k142, 3, 1),
  (hs_k143, 2, 1),
  (hs_k144, 2, 1),
  (hs_k145, 1, 1),
  (hs_k146, 3, 1),
  (hs_k147, 3, 1),
  (hs_k148, 1, 1),
  (hs_k149, 2, 3),
  (hs_k150, 2, 3),
  (hs_k151, 2, 1),
  (hs_k152, 2, 2),
  (hs_k153, 2, 3),
  (hs_k154, 4, 1),
  (hs_k155, 1, 1),
  (hs_k156, 2, 1),
  (hs_k157, 4, 1),
  (hs_k158, 5, 1),
  (hs_k159, 4, 1),
  (hs_k160, 7, 1),
  (hs_k161, 1, 1),
  (hs_k162, 1, 1),
  (hs_k163, 6, 3),
  (hs_k164, 2, 3),
  (hs_k165, 1, 1),
  (hs_k166, 4, 2),
  (hs_k167, 3, 0),
  (hs_k168, 7, 0),
  (hs_k169, 2, 3),
  (hs_k170, 2, 3),
  (hs_k171, 3, 1),
  (hs_k172, 2, 3),
  (hs_k173, 3, 1),
  (hs_k174, 3, 3),
  (hs_k175, 1, 3),
  (hs_k176, 4, 1),
  (hs_k177, 3, 1),
  (hs_k178, 5, 1),
  (hs_k179, 4, 3),
  (hs_k180, 2, 3),
  (hs_k181, 7, 1),
  (hs_k182, 3, 0),
  (hs_k183, 4, 0),
  (hs_k184, 5, 1),
  (hs_k185, 2, 0),
  (hs_k186, 2, 3),
  (hs_k187, 4, 3),
  (hs_k188, 5, 1),
  (hs_k189, 4, 1),
  (hs_k190, 5, 1),
  (hs_k191, 3, 1),
  (hs_k192, 6, 1),
  (hs_k193, 4, 1),
  (hs_k194, 3, 1),
  (hs_k195, 3, 1),
  (hs_k196, 3, 1),
  (hs_k197, 7, 1),
  (hs_k198, 3, 3),
  (hs_k199, 9, 1),
  (hs_k200, 6, 0),
  (hs_k201, 4, 1),
  (hs_k202, 3, 0),
  (hs_k203, 2, 0),
  (hs_k204, 2, 1),
  (hs_k205, 3, 1),
  (hs_k206, 5, 1),
  (hs_k207, 3, 0),
  (hs_k208, 5, 1),
  (hs_k209, 2, 1),
  (hs_k210, 3, 1),
  (hs_k211, 3, 1),
  (hs_k212, 3, 1),
  (hs_k213, 3, 1),
  (hs_k214, 3, 1),
  (hs_k215, 2, 1),
  (hs_k216, 2, 0),
  (hs_k217, 2, 0),
  (hs_k218, 4, 0),
  (hs_k219, 1, 3),
  (hs_k220, 3, 1),
  (hs_k221, 3, 1),
  (hs_k222, 3, 1),
  (hs_k223, 10, 1),
  (hs_k224, 7, 1),
  (hs_k225, 6, 1),
  (hs_k226, 8, 3),
  (hs_k227, 6, 1),
  (hs_k228, 4, 1),
  (hs_k229, 7, 1),
  (hs_k230, 8, 1),
  (hs_k231, 5, 1),
  (hs_k232, 1, 3),
  (hs_k233, 3, 0),
  (hs_k234, 4, 1),
  (hs_k235, 4, 1),
  (hs_k236, 4, 1),
  (hs_k237, 5, 1),
  (hs_k238, 3, 1),
  (hs_k239, 1, 1),
  (hs_k240, 5, 3),
  (hs_k241, 7, 1),
  (hs_k242, 4, 0),
  (hs_k243, 6, 1),
  (hs_k244, 2, 1),
  (hs_k245, 3, 1),
  (hs_k246, 5, 1),
  (hs_k247, 6, 1),
  (hs_k248, 3, 1),
  (hs_k249, 2, 1),
  (hs_k250, 5, 3),
  (hs_k251, 6, 1),
  (hs_k252, 3, 1),
  (hs_k253, 4, 1),
  (hs_k254, 10, 0),
  (hs_k255, 6, 1),
  (hs_k256, 3, 1),
  (hs_k257, 3, 3),
  (hs_k258, 3, 3),
  (hs_k259, 3, 1),
  (hs_k260, 2, 1),
  (hs_k261, 2, 2)]
def hs_prog (y : Nat) : hs_P := (hs_nth hs_progs y).getD ([], 0, 0)
noncomputable def hs_call (d : Nat) : hs_C :=
  Nat.rec (fun _ _ _ => none) (fun _ ih y as μ => hs_evW (hs_prog y).1 ih (hs_fin (hs_prog y).2.2) 0 (hs_ent as (hs_prog y).2.1) [] μ) d
noncomputable def hs_ev (d y : Nat) : hs_T (Option hs_V × hs_M) := hs_evW (hs_prog y).1 (hs_call d) (hs_fin (hs_prog y).2.2)
theorem hs_call_s (d y : Nat) (as : List hs_V) (μ : hs_M) : hs_call (d + 1) y as μ = hs_ev d y 0 (hs_ent as (hs_prog y).2.1) [] μ := rfl
end
section
/-! ===== a step is natural in what comes behind it; the fuel-free run is a fixed point ===== -/
theorem hs_b_if {ρ ρ' : Type} (g : ρ → Option ρ') (b : Bool) (r : Option ρ) : (hs_if b r).bind g = hs_if b (r.bind g) := by cases b <;> rfl
theorem hs_b_go8 {ρ ρ' : Type} (g : ρ → Option ρ') (st : List hs_V) (r : Option ρ) : (hs_go8 st r).bind g = hs_go8 st (r.bind g) := by
  unfold hs_go8
  cases Nat.ble (hs_cats st) 8 <;> rfl
theorem hs_b_bI {ρ ρ' : Type} (g : ρ → Option ρ') (r : Option (Option hs_V × hs_M)) (k : Int32 → hs_M → Option ρ) : (hs_bI r k).bind g = hs_bI r (fun x μ => (k x μ).bind g) := by
  rcases r with _ | ⟨_ | a | a | a, μ⟩ <;> rfl
theorem hs_b_bL {ρ ρ' : Type} (g : ρ → Option ρ') (r : Option (Option hs_V × hs_M)) (k : Int64 → hs_M → Option ρ) : (hs_bL r k).bind g = hs_bL r (fun x μ => (k x μ).bind g) := by
  rcases r with _ | ⟨_ | a | a | a, μ⟩ <;> rfl
theorem hs_b_bV {ρ ρ' : Type} (g : ρ → Option ρ') (r : Option (Option hs_V × hs_M)) (k : hs_M → Option ρ) : (hs_bV r k).bind g = hs_bV r (fun μ => (k μ).bind g) := by
  rcases r with _ | ⟨_ | a | a | a, μ⟩ <;> rfl
theorem hs_b_gI {ρ ρ' : Type} (g : ρ → Option ρ') (r : Option (Option hs_V)) (k : Int32 → Option ρ) : (hs_gI r k).bind g = hs_gI r (fun x => (k x).bind g) := by
  rcases r with _ | _ | a | a | a <;> rfl
theorem hs_b_gL {ρ ρ' : Type} (g : ρ → Option ρ') (r : Option (Option hs_V)) (k : Int64 → Option ρ) : (hs_gL r k).bind g = hs_gL r (fun x => (k x).bind g) := by
  rcases r with _ | _ | a | a | a <;> rfl
theorem hs_b_gR {ρ ρ' : Type} (g : ρ → Option ρ') (r : Option (Option hs_V)) (k : Nat → Nat → Option ρ) : (hs_gR r k).bind g = hs_gR r (fun x y => (k x y).bind g) := by
  rcases r with _ | _ | a | a | a <;> rfl
theorem hs_b_set1 {ρ ρ' : Type} (g : ρ → Option ρ') (v : hs_V) : ∀ (ls : hs_L) (i : Nat) (K : hs_L → Option ρ), (hs_set1 ls i v K).bind g = hs_set1 ls i v (fun l => (K l).bind g)
  | [], _, _ => rfl
  | _ :: _, 0, _ => rfl
  | a :: l, n + 1, K => by
    unfold hs_set1
    rw [hs_b_set1 g v l n]
    cases n <;> rfl
theorem hs_b_set2 {ρ ρ' : Type} (g : ρ → Option ρ') (v : hs_V) : ∀ (ls : hs_L) (i : Nat) (K : hs_L → Option ρ), (hs_set2 ls i v K).bind g = hs_set2 ls i v (fun l => (K l).bind g)
  | [], _, _ => rfl
  | [_], _, _ => rfl
  | _ :: _ :: _, 0, _ => rfl
  | a :: b :: l, n + 1, K => by
    unfold hs_set2
    rw [hs_b_set2 g v (b :: l) n]
    cases n <;> rfl
theorem hs_b_pop {ρ ρ' : Type} (g : ρ → Option ρ') : ∀ (n : Nat) (st as : List hs_V) (K : List hs_V → List hs_V → Option ρ), (hs_pop n st as K).bind g = hs_pop n st as (fun a s => (K a s).bind g)
  | 0, _, _, _ => rfl
  | _ + 1, [], _, _ => rfl
  | n + 1, v :: st, as, K => by
    unfold hs_pop
    rw [hs_b_pop g n st (v :: as) K]
theorem hs_b_tsw {ρ ρ' : Type} (g : ρ → Option ρ') (x : Int32) (pc : Nat) (dflt : Int) (k : Nat → Option ρ) : ∀ (l : List Int) (v : Int), (hs_tsw x pc dflt k v l).bind g = hs_tsw x pc dflt (fun t => (k t).bind g) v l
  | [], _ => rfl
  | a :: l, v => by
    unfold hs_tsw
    by_cases h : x = hs_ic v
    · rw [if_pos h, if_pos h]
    · rw [if_neg h, if_neg h, hs_b_tsw g x pc dflt k l (v + 1)]
theorem hs_b_lsw {ρ ρ' : Type} (g : ρ → Option ρ') (x : Int32) (pc : Nat) (dflt : Int) (k : Nat → Option ρ) : ∀ (l : List (Int × Int)), (hs_lsw x pc dflt k l).bind g = hs_lsw x pc dflt (fun t => (k t).bind g) l
  | [] => rfl
  | a :: l => by
    unfold hs_lsw
    by_cases h : x = hs_ic a.1
    · rw [if_pos h, if_pos h]
    · rw [if_neg h, if_neg h, hs_b_lsw g x pc dflt k l]
theorem hs_b_ite {ρ ρ' : Type} (g : ρ → Option ρ') {c : Prop} [Decidable c] (a b : Option ρ) : (if c then a else b).bind g = if c then a.bind g else b.bind g := by
  by_cases h : c
  · rw [if_pos h, if_pos h]
  · rw [if_neg h, if_neg h]
theorem hs_b_none {ρ ρ' : Type} (g : ρ → Option ρ') : (none : Option ρ).bind g = none := rfl
theorem hs_b_inv {ρ ρ' : Type} (g : ρ → Option ρ') (call : hs_C) (k : hs_T ρ) (ops : List Nat) (pc : Nat) (ls : hs_L) (st : List hs_V) (μ : hs_M) : (hs_inv call k ops pc ls st μ).bind g = hs_inv call (fun pc ls st μ => (k pc ls st μ).bind g) ops pc ls st μ := by
  unfold hs_inv
  split
  · rw [hs_b_pop]; simp only [hs_b_go8, hs_b_bV]
  · rw [hs_b_pop]; simp only [hs_b_go8, hs_b_bI]
  · rw [hs_b_pop]; simp only [hs_b_go8, hs_b_bL]
  · split
    · rw [hs_b_if, hs_b_ite]; rfl
    · rfl
  · rfl
theorem hs_b_txt {ρ ρ' : Type} (g : ρ → Option ρ') (k : hs_T ρ) (ops : List Nat) (pc : Nat) (ls : hs_L) (st : List hs_V) (μ : hs_M) : (hs_txt k ops pc ls st μ).bind g = hs_txt (fun pc ls st μ => (k pc ls st μ).bind g) ops pc ls st μ := by
  unfold hs_txt
  split
  · rw [hs_b_if]; split <;> rfl
  · rw [hs_b_if]
    split
    · rw [hs_b_ite]; rfl
    · rfl
  · rfl
set_option maxHeartbeats 4000000 in
theorem hs_b_step {ρ ρ' : Type} (g : ρ → Option ρ') (call : hs_C) (k done : hs_T ρ) (r : hs_R) (pc : Nat) (ls : hs_L) (st : List hs_V) (μ : hs_M) : (hs_step call k done r pc ls st μ).bind g = hs_step call (fun pc ls st μ => (k pc ls st μ).bind g) (fun pc ls st μ => (done pc ls st μ).bind g) r pc ls st μ := by
  obtain ⟨i, n, ops, mk⟩ := r
  cases i <;> simp only [hs_step, hs_b_gI, hs_b_gL, hs_b_gR, hs_b_set1, hs_b_none, hs_b_inv] <;> (repeat' split) <;> first | rfl | simp only [hs_b_set1, hs_b_set2, hs_b_if, hs_b_ite, hs_b_none, hs_b_tsw, hs_b_lsw, hs_b_txt, hs_b_inv]
end
