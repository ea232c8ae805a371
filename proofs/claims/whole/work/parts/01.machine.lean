/-! ===== THE MACHINE: a pure interpreter of the bytecode over an abstract memory ===== -/
abbrev hs_V : Type := Int32 ⊕ (Int64 ⊕ (Nat × Nat))
abbrev hs_M : Type := (Nat → Nat → Nat → Int32) × (Nat → Nat → Nat → Int64)
abbrev hs_L : Type := List (Option hs_V)
abbrev hs_T (ρ : Type) : Type := Nat → hs_L → List hs_V → hs_M → Option ρ
/-- an instruction, its length, what its operands say, the mask of the locals that are used from here on -/
abbrev hs_R : Type := Instr × (Nat × (List Nat × List Bool))
abbrev hs_K : Type := List (List (Option hs_R))
abbrev hs_C : Type := Nat → List hs_V → hs_M → Option (Option hs_V × hs_M)
abbrev vI (x : Int32) : hs_V := .inl x
abbrev vL (x : Int64) : hs_V := .inr (.inl x)
abbrev vR (k j : Nat) : hs_V := .inr (.inr (k, j))
def hs_nth {α : Type} : List α → Nat → Option α
  | [], _ => none
  | a :: _, 0 => some a
  | _ :: l, n + 1 => hs_nth l n
def hs_at (code : hs_K) (pc : Nat) : Option hs_R :=
  match hs_nth code (pc / 16) with
  | some l => (match hs_nth l (pc % 16) with
    | some r => r
    | none => none)
  | none => none
def hs_wI (μ : hs_M) (κ j i : Nat) (v : Int32) : hs_M := (fun a b c => if a = κ ∧ c = i ∧ b = j then v else μ.1 a b c, μ.2)
def hs_wL (μ : hs_M) (κ j i : Nat) (v : Int64) : hs_M := (μ.1, fun a b c => if a = κ ∧ c = i ∧ b = j then v else μ.2 a b c)
/-- System.arraycopy of ints -/
def hs_cp (μ : hs_M) (κ j sp κ' j' dp n : Nat) : hs_M := (fun a b c => if a = κ' ∧ b = j' ∧ dp ≤ c ∧ c < dp + n then μ.1 κ j (sp + (c - dp)) else μ.1 a b c, μ.2)
def hs_in (i : Int32) (n : Nat) : Bool := decide (0 ≤ i) && decide (i.toNatClampNeg < n)
def hs_cok (sp dp n : Int32) (a b : Nat) : Bool := decide (0 ≤ sp) && (decide (0 ≤ dp) && (decide (0 ≤ n) && (decide (sp.toNatClampNeg + n.toNatClampNeg ≤ a) && decide (dp.toNatClampNeg + n.toNatClampNeg ≤ b))))
def hs_isL : Option hs_V → Bool
  | some (.inr (.inl _)) => true
  | _ => false
def hs_cl (b : Bool) (a : Option hs_V) : Option hs_V := match b with
  | true => none
  | false => a
/-- a local of one slot is written: a long that stands before it or at it is gone -/
def hs_set1 {ρ : Type} : hs_L → Nat → hs_V → (hs_L → Option ρ) → Option ρ
  | [], _, _, _ => none
  | _ :: l, 0, v, K => K (some v :: l)
  | a :: l, n + 1, v, K => hs_set1 l n v (fun l' => match n with
    | 0 => K (hs_cl (hs_isL a) a :: l')
    | _ + 1 => K (a :: l'))
/-- a long is written -/
def hs_set2 {ρ : Type} : hs_L → Nat → hs_V → (hs_L → Option ρ) → Option ρ
  | [], _, _, _ => none
  | [_], _, _, _ => none
  | _ :: _ :: l, 0, v, K => K (some v :: none :: l)
  | a :: b :: l, n + 1, v, K => hs_set2 (b :: l) n v (fun l' => match n with
    | 0 => K (hs_cl (hs_isL a) a :: l')
    | _ + 1 => K (a :: l'))
def hs_mask : List Bool → hs_L → hs_L
  | [], l => l
  | _ :: _, [] => []
  | true :: m, a :: l => a :: hs_mask m l
  | false :: m, _ :: l => none :: hs_mask m l
def hs_cat : hs_V → Nat
  | .inr (.inl _) => 2
  | _ => 1
def hs_cats : List hs_V → Nat
  | [] => 0
  | v :: l => hs_cat v + hs_cats l
def hs_tgt (pc : Nat) (off : Int) : Nat := ((pc : Int) + off).toNat
def hs_ic (n : Int) : Int32 := match n with
  | .ofNat n => Int32.ofNat n
  | .negSucc n => -(Int32.ofNat (n + 1))
def hs_tsw {ρ : Type} (x : Int32) (pc : Nat) (dflt : Int) (k : Nat → Option ρ) : Int → List Int → Option ρ
  | _, [] => k (hs_tgt pc dflt)
  | v, off :: l => if x = hs_ic v then k (hs_tgt pc off) else hs_tsw x pc dflt k (v + 1) l
def hs_lsw {ρ : Type} (x : Int32) (pc : Nat) (dflt : Int) (k : Nat → Option ρ) : List (Int × Int) → Option ρ
  | [] => k (hs_tgt pc dflt)
  | q :: l => if x = hs_ic q.1 then k (hs_tgt pc q.2) else hs_lsw x pc dflt k l
def hs_bI {ρ : Type} (r : Option (Option hs_V × hs_M)) (k : Int32 → hs_M → Option ρ) : Option ρ :=
  match r with
  | some (some (.inl v), μ) => k v μ
  | _ => none
def hs_bL {ρ : Type} (r : Option (Option hs_V × hs_M)) (k : Int64 → hs_M → Option ρ) : Option ρ :=
  match r with
  | some (some (.inr (.inl v)), μ) => k v μ
  | _ => none
def hs_bV {ρ : Type} (r : Option (Option hs_V × hs_M)) (k : hs_M → Option ρ) : Option ρ :=
  match r with
  | some (none, μ) => k μ
  | _ => none
def hs_gI {ρ : Type} (o : Option (Option hs_V)) (k : Int32 → Option ρ) : Option ρ :=
  match o with
  | some (some (.inl x)) => k x
  | _ => none
def hs_gL {ρ : Type} (o : Option (Option hs_V)) (k : Int64 → Option ρ) : Option ρ :=
  match o with
  | some (some (.inr (.inl x))) => k x
  | _ => none
def hs_gR {ρ : Type} (o : Option (Option hs_V)) (k : Nat → Nat → Option ρ) : Option ρ :=
  match o with
  | some (some (.inr (.inr q))) => k q.1 q.2
  | _ => none
/-- the arguments of a call, off the stack -/
def hs_pop {ρ : Type} : Nat → List hs_V → List hs_V → (List hs_V → List hs_V → Option ρ) → Option ρ
  | 0, st, as, K => K as st
  | _ + 1, [], _, _ => none
  | n + 1, v :: st, as, K => hs_pop n st (v :: as) K
def hs_go8 {ρ : Type} (st : List hs_V) (r : Option ρ) : Option ρ := match Nat.ble (hs_cats st) 8 with
  | true => r
  | false => none
def hs_if {ρ : Type} (b : Bool) (r : Option ρ) : Option ρ := match b with
  | true => r
  | false => none
def hs_akind (κ : Nat) : Nat := (hs_nth [9, 9, 9, 9, 9, 9, 9, 9, 9, 9, 9, 9, 9, 0, 1, 0, 0, 0, 0, 0, 0, 0, 0, 0, 0, 0, 0, 0, 0, 0, 3, 3, 0, 0, 0, 3, 0, 1, 1, 0, 1, 0, 0, 0, 0, 0, 0, 0, 0, 0, 0, 0, 0, 0, 0, 0, 0, 0, 0, 0, 0, 0, 0, 1, 1, 0, 2, 0, 0, 1, 0] κ).getD 9
def hs_len0 (κ : Nat) : Nat := (hs_nth [0, 0, 0, 0, 0, 0, 0, 0, 0, 0, 0, 0, 0, 80, 16, 8, 8, 8, 48, 8, 6, 40, 40, 40, 8, 8, 12, 12, 12, 60, 20, 3, 3, 12, 12, 11, 8, 9, 9, 61, 24, 8, 8, 48, 8, 117, 117, 80, 8, 8, 54, 9, 80, 80, 80, 2340, 61, 8, 8, 12, 12, 10, 10, 9, 9, 117, 3, 3, 351, 1, 0] κ).getD 0
/-- how long an array is; of the two pairs the second is shorter; the script says it itself -/
def hs_len (μ : hs_M) (κ j : Nat) : Nat := match Nat.beq κ 33 || Nat.beq κ 34 with
  | true => (match j with
    | 0 => 12
    | _ => 10)
  | false => (match Nat.beq κ 70 with
    | true => (μ.1 70 1 0).toNatClampNeg
    | false => hs_len0 κ)
def hs_wr (κ : Nat) : Bool := !(Nat.beq κ 70)
def hs_base (κ : Nat) : Nat := (hs_nth [0, 0, 0, 0, 0, 0, 0, 0, 0, 0, 0, 0, 0, 0, 0, 0, 0, 0, 0, 0, 0, 0, 0, 0, 0, 0, 0, 0, 0, 0, 1, 21, 0, 0, 0, 24] κ).getD 0
def hs_fld (κ : Nat) : List (Option (Nat × Nat × Nat)) := (hs_nth [[some (6, 0, 0), some (8, 0, 0), some (1, 0, 0), some (4, 0, 0), some (35, 0, 0), some (6, 0, 35), some (36, 0, 0), some (37, 0, 0), some (38, 0, 0), none, none, none, none],
  [some (8, 0, 0), some (10, 0, 0), some (5, 0, 0)],
  [some (33, 1, 0), some (34, 1, 0), none],
  [some (30, 0, 0), some (31, 0, 0), some (32, 0, 0), none, none],
  [some (14, 0, 0), none],
  [none, none, none, none],
  [none, none, none, none, none, none, none, some (24, 1, 0), some (25, 1, 0), some (26, 1, 0), some (27, 1, 0), some (28, 1, 0), some (29, 1, 0)],
  [some (13, 0, 0), none, none],
  [some (15, 0, 0), some (16, 0, 0), some (17, 0, 0), some (18, 0, 0), some (19, 0, 0), some (20, 0, 0), none, none, none, none],
  [some (6, 0, 0), some (8, 0, 0), some (1, 0, 0), some (4, 0, 0), some (6, 0, 36), some (39, 0, 0), none],
  [some (21, 0, 0), some (22, 0, 0), some (23, 0, 0), none, none, none],
  [some (7, 0, 0), some (4, 0, 0), some (8, 0, 0), some (10, 0, 0), some (5, 0, 0), some (6, 0, 0), some (3, 0, 0), some (2, 0, 0), some (2, 0, 1), some (1, 0, 0), some (0, 0, 0), some (9, 0, 0)],
  [none, none, some (40, 0, 0), none, some (41, 0, 0), some (42, 0, 0), some (43, 0, 0), some (44, 0, 0), none, none, some (45, 0, 0), some (46, 0, 0), some (47, 0, 0), none, none, none, none, some (48, 0, 0), some (49, 0, 0), some (50, 0, 0), some (51, 0, 0), none, some (52, 0, 0), some (53, 0, 0), none, none, some (54, 0, 0), none, none, some (55, 0, 0), some (56, 0, 0), none, some (57, 0, 0), some (58, 0, 0), none, some (59, 0, 0), some (60, 0, 0), none, some (61, 0, 0), some (62, 0, 0), some (63, 0, 0), some (64, 0, 0), some (65, 0, 0), some (66, 0, 0), some (67, 0, 0), some (68, 0, 0)]] κ).getD []
def hs_texts : List (List Nat) := [[43, 45], [48, 49, 50, 51], [105, 119, 112, 118, 113, 115, 116, 111, 110], [60, 62, 61], [42, 47]]
abbrev hz_n : Option hs_R := none
abbrev hz_r (i : Instr) (n : Nat) : Option hs_R := some (i, n, [], [])
abbrev hz_m (i : Instr) (n : Nat) (o : List Nat) (m : List Bool) : Option hs_R := some (i, n, o, m)
/-- the receiver is of the class -/
def hs_rcv {ρ : Type} (as : List hs_V) (ci : Nat) (r : Option ρ) : Option ρ := match as with
  | .inr (.inr (κ, _)) :: _ => hs_if (Nat.beq κ ci) r
  | _ => none
/-- a call: 0 nothing comes back, 1 an int, 2 a long; the fourth number: the receiver's class -/
def hs_inv {ρ : Type} (call : hs_C) (k : hs_T ρ) (ops : List Nat) (pc : Nat) (ls : hs_L) (st : List hs_V) (μ : hs_M) : Option ρ :=
  match ops with
  | [y, n, 0] => hs_pop n st [] (fun as st' => hs_go8 st' (hs_bV (call y as μ) (fun μ' => k (pc + 3) ls st' μ')))
  | [y, n, 1] => hs_pop n st [] (fun as st' => hs_go8 st' (hs_bI (call y as μ) (fun x μ' => k (pc + 3) ls (vI x :: st') μ')))
  | [y, n, 2] => hs_pop n st [] (fun as st' => hs_go8 st' (hs_bL (call y as μ) (fun x μ' => k (pc + 3) ls (vL x :: st') μ')))
  | [y, n, 0, ci] => hs_pop n st [] (fun as st' => hs_rcv as ci (hs_go8 st' (hs_bV (call y as μ) (fun μ' => k (pc + 3) ls st' μ'))))
  | [y, n, 1, ci] => hs_pop n st [] (fun as st' => hs_rcv as ci (hs_go8 st' (hs_bI (call y as μ) (fun x μ' => k (pc + 3) ls (vI x :: st') μ'))))
  | [y, n, 2, ci] => hs_pop n st [] (fun as st' => hs_rcv as ci (hs_go8 st' (hs_bL (call y as μ) (fun x μ' => k (pc + 3) ls (vL x :: st') μ'))))
  | [_] => (match st with
    | .inl n :: .inl dp :: .inr (.inr (κ', j')) :: .inl sp :: .inr (.inr (κ, j)) :: st' =>
      hs_if (Nat.beq (hs_akind κ) 0 && (Nat.beq (hs_akind κ') 0 && (hs_wr κ' && Nat.ble (hs_cats st') 8))) (if hs_cok sp dp n (hs_len μ κ j) (hs_len μ κ' j') then k (pc + 3) ls st' (hs_cp μ κ j sp.toNatClampNeg κ' j' dp.toNatClampNeg n.toNatClampNeg) else none)
    | _ => none)
  | _ => none
/-- a text constant's own calls: its length, its signs -/
def hs_txt {ρ : Type} (k : hs_T ρ) (ops : List Nat) (pc : Nat) (ls : hs_L) (st : List hs_V) (μ : hs_M) : Option ρ :=
  match ops, st with
  | [_, 0], .inr (.inr (κ, j)) :: st' => hs_if (Nat.beq κ 90 && Nat.ble (hs_cats st') 8) (match hs_nth hs_texts j with
    | some l => k (pc + 3) ls (vI (Int32.ofNat l.length) :: st') μ
    | none => none)
  | [_, 1], .inl i :: .inr (.inr (κ, j)) :: st' => hs_if (Nat.beq κ 90 && Nat.ble (hs_cats st') 8) (match hs_nth hs_texts j with
    | some l => if hs_in i l.length then k (pc + 3) ls (vI (Int32.ofNat (l.getD i.toNatClampNeg 0)) :: st') μ else none
    | none => none)
  | _, _ => none
def hs_step {ρ : Type} (call : hs_C) (k done : hs_T ρ) (r : hs_R) (pc : Nat) (ls : hs_L) (st : List hs_V) (μ : hs_M) : Option ρ :=
  match r.1 with
  | .iload i => hs_gI (hs_nth ls i) (fun x => k (pc + 2) ls (vI x :: st) μ)
  | .iload_n i => hs_gI (hs_nth ls i.val) (fun x => k (pc + 1) ls (vI x :: st) μ)
  | .lload i => hs_gL (hs_nth ls i) (fun x => k (pc + 2) ls (vL x :: st) μ)
  | .lload_n i => hs_gL (hs_nth ls i.val) (fun x => k (pc + 1) ls (vL x :: st) μ)
  | .aload i => hs_gR (hs_nth ls i) (fun κ j => k (pc + 2) ls (vR κ j :: st) μ)
  | .aload_n i => hs_gR (hs_nth ls i.val) (fun κ j => k (pc + 1) ls (vR κ j :: st) μ)
  | .istore i => (match st with
    | .inl x :: st' => hs_set1 ls i (vI x) (fun ls' => k (pc + 2) ls' st' μ)
    | _ => none)
  | .istore_n i => (match st with
    | .inl x :: st' => hs_set1 ls i.val (vI x) (fun ls' => k (pc + 1) ls' st' μ)
    | _ => none)
  | .lstore i => (match st with
    | .inr (.inl x) :: st' => hs_set2 ls i (vL x) (fun ls' => k (pc + 2) ls' st' μ)
    | _ => none)
  | .lstore_n i => (match st with
    | .inr (.inl x) :: st' => hs_set2 ls i.val (vL x) (fun ls' => k (pc + 1) ls' st' μ)
    | _ => none)
  | .astore i => (match st with
    | .inr (.inr (κ, j)) :: st' => hs_set1 ls i (vR κ j) (fun ls' => k (pc + 2) ls' st' μ)
    | _ => none)
  | .astore_n i => (match st with
    | .inr (.inr (κ, j)) :: st' => hs_set1 ls i.val (vR κ j) (fun ls' => k (pc + 1) ls' st' μ)
    | _ => none)
  | .iinc i n => hs_gI (hs_nth ls i) (fun x => hs_set1 ls i (vI (x + hs_ic n)) (fun ls' => k (pc + 3) ls' st μ))
  | .iconst n => k (pc + 1) ls (vI (hs_ic n) :: st) μ
  | .bipush n => k (pc + 2) ls (vI (hs_ic n) :: st) μ
  | .sipush n => k (pc + 3) ls (vI (hs_ic n) :: st) μ
  | .lconst n => k (pc + 1) ls (vL (Int64.ofNat n.val) :: st) μ
  | .ldc _ => (match r.2.2.1 with
    | [0, n] => k (pc + 2) ls (vI (Int32.ofNat n) :: st) μ
    | [1, n] => k (pc + 2) ls (vR 90 n :: st) μ
    | _ => none)
  | .ldc_w _ => (match r.2.2.1 with
    | [0, n] => k (pc + 3) ls (vI (Int32.ofNat n) :: st) μ
    | _ => none)
  | .ldc2_w _ => (match r.2.2.1 with
    | [0, n] => k (pc + 3) ls (vL (Int64.ofNat n) :: st) μ
    | [1, n] => k (pc + 3) ls (vL (-(Int64.ofNat n)) :: st) μ
    | _ => none)
  | .iadd => (match st with
    | .inl y :: .inl x :: st' => k (pc + 1) ls (vI (x + y) :: st') μ
    | _ => none)
  | .isub => (match st with
    | .inl y :: .inl x :: st' => k (pc + 1) ls (vI (x - y) :: st') μ
    | _ => none)
  | .imul => (match st with
    | .inl y :: .inl x :: st' => k (pc + 1) ls (vI (x * y) :: st') μ
    | _ => none)
  | .idiv => (match st with
    | .inl y :: .inl x :: st' => if y = 0 then none else k (pc + 1) ls (vI (x / y) :: st') μ
    | _ => none)
  | .irem => (match st with
    | .inl y :: .inl x :: st' => if y = 0 then none else k (pc + 1) ls (vI (x - x / y * y) :: st') μ
    | _ => none)
  | .ineg => (match st with
    | .inl x :: st' => k (pc + 1) ls (vI (-x) :: st') μ
    | _ => none)
  | .iand => (match st with
    | .inl y :: .inl x :: st' => k (pc + 1) ls (vI (x &&& y) :: st') μ
    | _ => none)
  | .ior => (match st with
    | .inl y :: .inl x :: st' => k (pc + 1) ls (vI (x ||| y) :: st') μ
    | _ => none)
  | .ixor => (match st with
    | .inl y :: .inl x :: st' => k (pc + 1) ls (vI (x ^^^ y) :: st') μ
    | _ => none)
  | .ishl => (match st with
    | .inl y :: .inl x :: st' => k (pc + 1) ls (vI (x <<< (y &&& 31)) :: st') μ
    | _ => none)
  | .ishr => (match st with
    | .inl y :: .inl x :: st' => k (pc + 1) ls (vI (x >>> (y &&& 31)) :: st') μ
    | _ => none)
  | .iushr => (match st with
    | .inl y :: .inl x :: st' => k (pc + 1) ls (vI ((x.toUInt32 >>> (y.toUInt32 &&& Int32.toUInt32 31)).toInt32) :: st') μ
    | _ => none)
  | .i2l => (match st with
    | .inl x :: st' => k (pc + 1) ls (vL x.toInt64 :: st') μ
    | _ => none)
  | .i2b => (match st with
    | .inl x :: st' => k (pc + 1) ls (vI x.toInt8.toInt32 :: st') μ
    | _ => none)
  | .i2s => (match st with
    | .inl x :: st' => k (pc + 1) ls (vI x.toInt16.toInt32 :: st') μ
    | _ => none)
  | .ladd => (match st with
    | .inr (.inl y) :: .inr (.inl x) :: st' => k (pc + 1) ls (vL (x + y) :: st') μ
    | _ => none)
  | .lmul => (match st with
    | .inr (.inl y) :: .inr (.inl x) :: st' => k (pc + 1) ls (vL (x * y) :: st') μ
    | _ => none)
  | .ldiv => (match st with
    | .inr (.inl y) :: .inr (.inl x) :: st' => if y = 0 then none else k (pc + 1) ls (vL (x / y) :: st') μ
    | _ => none)
  | .lrem => (match st with
    | .inr (.inl y) :: .inr (.inl x) :: st' => if y = 0 then none else k (pc + 1) ls (vL (x - x / y * y) :: st') μ
    | _ => none)
  | .lcmp => (match st with
    | .inr (.inl y) :: .inr (.inl x) :: st' => k (pc + 1) ls (vI (lg_cmp x y) :: st') μ
    | _ => none)
  | .dup => (match st with
    | .inl x :: st' => k (pc + 1) ls (vI x :: vI x :: st') μ
    | .inr (.inr (κ, j)) :: st' => k (pc + 1) ls (vR κ j :: vR κ j :: st') μ
    | _ => none)
  | .dup2 => (match st with
    | .inl x :: .inr (.inr (κ, j)) :: st' => k (pc + 1) ls (vI x :: vR κ j :: vI x :: vR κ j :: st') μ
    | _ => none)
  | .pop => (match st with
    | .inl _ :: st' => k (pc + 1) ls st' μ
    | _ => none)
  | .goto off => (match r.2.2.1 with
    | [] => k (hs_tgt pc off) ls st μ
    | _ => done pc ls st μ)
  | .ifCond c off => (match st with
    | .inl x :: st' => (match c with
      | .eq => if x = 0 then k (hs_tgt pc off) ls st' μ else k (pc + 3) ls st' μ
      | .ne => if x = 0 then k (pc + 3) ls st' μ else k (hs_tgt pc off) ls st' μ
      | .lt => if x < 0 then k (hs_tgt pc off) ls st' μ else k (pc + 3) ls st' μ
      | .ge => if x < 0 then k (pc + 3) ls st' μ else k (hs_tgt pc off) ls st' μ
      | .gt => if 0 < x then k (hs_tgt pc off) ls st' μ else k (pc + 3) ls st' μ
      | .le => if 0 < x then k (pc + 3) ls st' μ else k (hs_tgt pc off) ls st' μ)
    | _ => none)
  | .if_icmp c off => (match st with
    | .inl y :: .inl x :: st' => (match c with
      | .eq => if x = y then k (hs_tgt pc off) ls st' μ else k (pc + 3) ls st' μ
      | .ne => if x = y then k (pc + 3) ls st' μ else k (hs_tgt pc off) ls st' μ
      | .lt => if x < y then k (hs_tgt pc off) ls st' μ else k (pc + 3) ls st' μ
      | .ge => if x < y then k (pc + 3) ls st' μ else k (hs_tgt pc off) ls st' μ
      | .gt => if y < x then k (hs_tgt pc off) ls st' μ else k (pc + 3) ls st' μ
      | .le => if y < x then k (pc + 3) ls st' μ else k (hs_tgt pc off) ls st' μ)
    | _ => none)
  | .tableswitch dflt lo _ offs => (match st with
    | .inl x :: st' => hs_tsw x pc dflt (fun t => k t ls st' μ) lo offs.toList
    | _ => none)
  | .lookupswitch dflt ps => (match st with
    | .inl x :: st' => hs_lsw x pc dflt (fun t => k t ls st' μ) ps.toList
    | _ => none)
  | .getfield _ => (match r.2.2.1, st with
    | [ci, f], .inr (.inr (κ, j)) :: st' => hs_if (Nat.beq κ ci) (match hs_nth (hs_fld κ) f with
      | some none => k (pc + 3) ls (vI (μ.1 κ j f) :: st') μ
      | some (some (κ', 0, b)) => k (pc + 3) ls (vR κ' b :: st') μ
      | some (some (κ', _ + 1, b)) => k (pc + 3) ls (vR κ' (j + b) :: st') μ
      | none => none)
    | _, _ => none)
  | .putfield _ => (match r.2.2.1, st with
    | [ci, f], .inl v :: .inr (.inr (κ, j)) :: st' => hs_if (Nat.beq κ ci) (match hs_nth (hs_fld κ) f with
      | some none => k (pc + 3) ls st' (hs_wI μ κ j f v)
      | _ => none)
    | _, _ => none)
  | .iaload => (match st with
    | .inl i :: .inr (.inr (κ, j)) :: st' => hs_if (Nat.beq (hs_akind κ) 0) (if hs_in i (hs_len μ κ j) then k (pc + 1) ls (vI (μ.1 κ j i.toNatClampNeg) :: st') μ else none)
    | _ => none)
  | .iastore => (match st with
    | .inl v :: .inl i :: .inr (.inr (κ, j)) :: st' => hs_if (Nat.beq (hs_akind κ) 0 && hs_wr κ) (if hs_in i (hs_len μ κ j) then k (pc + 1) ls st' (hs_wI μ κ j i.toNatClampNeg v) else none)
    | _ => none)
  | .baload => (match st with
    | .inl i :: .inr (.inr (κ, j)) :: st' => hs_if (Nat.beq (hs_akind κ) 2) (if hs_in i (hs_len μ κ j) then k (pc + 1) ls (vI (μ.1 κ j i.toNatClampNeg) :: st') μ else none)
    | _ => none)
  | .bastore => (match st with
    | .inl v :: .inl i :: .inr (.inr (κ, j)) :: st' => hs_if (Nat.beq (hs_akind κ) 2) (if hs_in i (hs_len μ κ j) then k (pc + 1) ls st' (hs_wI μ κ j i.toNatClampNeg (v &&& 1)) else none)
    | _ => none)
  | .laload => (match st with
    | .inl i :: .inr (.inr (κ, j)) :: st' => hs_if (Nat.beq (hs_akind κ) 1) (if hs_in i (hs_len μ κ j) then k (pc + 1) ls (vL (μ.2 κ j i.toNatClampNeg) :: st') μ else none)
    | _ => none)
  | .lastore => (match st with
    | .inr (.inl v) :: .inl i :: .inr (.inr (κ, j)) :: st' => hs_if (Nat.beq (hs_akind κ) 1) (if hs_in i (hs_len μ κ j) then k (pc + 1) ls st' (hs_wL μ κ j i.toNatClampNeg v) else none)
    | _ => none)
  | .aaload => (match st with
    | .inl i :: .inr (.inr (κ, j)) :: st' => hs_if (Nat.beq (hs_akind κ) 3) (if hs_in i (hs_len μ κ j) then k (pc + 1) ls (vR 6 (hs_base κ + i.toNatClampNeg) :: st') μ else none)
    | _ => none)
  | .arraylength => (match st with
    | .inr (.inr (κ, j)) :: st' => hs_if (Nat.ble 13 κ && Nat.blt κ 90) (k (pc + 1) ls (vI (Int32.ofNat (hs_len μ κ j)) :: st') μ)
    | _ => none)
  | .invokevirtual _ => (match r.2.2.1 with
    | [a, b] => hs_txt k [a, b] pc ls st μ
    | ops => hs_inv call k ops pc ls st μ)
  | .invokestatic _ => (match r.2.2.1 with
    | [] => done pc ls st μ
    | ops => hs_inv call k ops pc ls st μ)
  | .ireturn => done pc ls st μ
  | .lreturn => done pc ls st μ
  | .return_ => done pc ls st μ
  | .new _ => (match st with
    | [] => done pc ls st μ
    | _ => none)
  | _ => none
