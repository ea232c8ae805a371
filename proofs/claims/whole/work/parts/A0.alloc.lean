/-! ===== a second machine, which makes cells: the constructors run on it, once, with numbers ===== -/
abbrev ha_V : Type := Int32 ⊕ Option Nat
/-- an object: its kind and fields; an array: 0 ints 1 longs 2 truths 3 States, its length, what was written -/
abbrev ha_E : Type := (Nat × List ha_V) ⊕ (Nat × (Nat × List (Nat × ha_V)))
abbrev ha_H : Type := List ha_E
abbrev ha_L : Type := List (Option ha_V)
abbrev ha_T (ρ : Type) : Type := Nat → ha_L → List ha_V → ha_H → Option ρ
abbrev ha_C : Type := Nat → List ha_V → ha_H → Option ha_H
def ha_set {ρ : Type} : ha_L → Nat → ha_V → (ha_L → Option ρ) → Option ρ
  | [], _, _, _ => none
  | _ :: l, 0, v, K => K (some v :: l)
  | a :: l, n + 1, v, K => ha_set l n v (fun l' => K (a :: l'))
def ha_pop {ρ : Type} : Nat → List ha_V → List ha_V → (List ha_V → List ha_V → Option ρ) → Option ρ
  | 0, st, as, K => K as st
  | _ + 1, [], _, _ => none
  | n + 1, v :: st, as, K => ha_pop n st (v :: as) K
def ha_new (κ : Nat) : ha_E := .inl (κ, (hs_fld κ).map (fun x => match x with
  | none => .inl 0
  | some _ => .inr none))
def ha_aty (t : ArrayType) : Option Nat := match t with
  | .int => some 0
  | .long => some 1
  | .boolean => some 2
  | _ => none
def ha_isI (x : Option (Nat × Nat × Nat)) (v : ha_V) : Bool := match x, v with
  | none, .inl _ => true
  | some _, .inr (some _) => true
  | _, _ => false
def ha_gI {ρ : Type} (o : Option (Option ha_V)) (k : Int32 → Option ρ) : Option ρ := match o with
  | some (some (.inl x)) => k x
  | _ => none
def ha_gR {ρ : Type} (o : Option (Option ha_V)) (k : Nat → Option ρ) : Option ρ := match o with
  | some (some (.inr (some x))) => k x
  | _ => none
def ha_co (x : ha_E) : Nat := match x with
  | .inl (κ, _) => hs_cN κ
  | .inr (_, n, _) => n
def ha_cost (h : ha_H) : Nat := (h.map ha_co).sum
/-- a call adds cells, and not too many -/
def ha_more (h h' : ha_H) : Bool := Nat.ble h.length h'.length && (Nat.ble h'.length 500 && Nat.ble (ha_cost h) (ha_cost h'))
/-- the receiver is a cell -/
def ha_rcv (as : List ha_V) : Bool := match as with
  | .inr (some _) :: _ => true
  | _ => false
def ha_step {ρ : Type} (call : ha_C) (k done : ha_T ρ) (r : hs_R) (pc : Nat) (ls : ha_L) (st : List ha_V) (h : ha_H) : Option ρ :=
  match r.1 with
  | .iload i => ha_gI (hs_nth ls i) (fun x => k (pc + 2) ls (.inl x :: st) h)
  | .iload_n i => ha_gI (hs_nth ls i.val) (fun x => k (pc + 1) ls (.inl x :: st) h)
  | .aload i => ha_gR (hs_nth ls i) (fun x => k (pc + 2) ls (.inr (some x) :: st) h)
  | .aload_n i => ha_gR (hs_nth ls i.val) (fun x => k (pc + 1) ls (.inr (some x) :: st) h)
  | .istore i => (match st with
    | .inl x :: st' => ha_set ls i (.inl x) (fun ls' => k (pc + 2) ls' st' h)
    | _ => none)
  | .istore_n i => (match st with
    | .inl x :: st' => ha_set ls i.val (.inl x) (fun ls' => k (pc + 1) ls' st' h)
    | _ => none)
  | .iinc i n => ha_gI (hs_nth ls i) (fun x => ha_set ls i (.inl (x + hs_ic n)) (fun ls' => k (pc + 3) ls' st h))
  | .iconst n => k (pc + 1) ls (.inl (hs_ic n) :: st) h
  | .bipush n => k (pc + 2) ls (.inl (hs_ic n) :: st) h
  | .sipush n => k (pc + 3) ls (.inl (hs_ic n) :: st) h
  | .dup => (match st with
    | v :: st' => k (pc + 1) ls (v :: v :: st') h
    | _ => none)
  | .goto off => k (hs_tgt pc off) ls st h
  | .if_icmp c off => (match st with
    | .inl y :: .inl x :: st' => (match c with
      | .ge => if x < y then k (pc + 3) ls st' h else k (hs_tgt pc off) ls st' h
      | .gt => if y < x then k (hs_tgt pc off) ls st' h else k (pc + 3) ls st' h
      | _ => none)
    | _ => none)
  | .new _ => (match r.2.2.1 with
    | [κ] => hs_if (Nat.blt h.length 500) (k (pc + 3) ls (.inr (some h.length) :: st) (h ++ [ha_new κ]))
    | _ => none)
  | .newarray t => (match st, ha_aty t with
    | .inl n :: st', some ty => hs_if (hs_in n 4000 && Nat.blt h.length 500) (k (pc + 2) ls (.inr (some h.length) :: st') (h ++ [.inr (ty, n.toNatClampNeg, [])]))
    | _, _ => none)
  | .anewarray _ => (match st with
    | .inl n :: st' => hs_if (hs_in n 4000 && Nat.blt h.length 500) (k (pc + 3) ls (.inr (some h.length) :: st') (h ++ [.inr (3, n.toNatClampNeg, [])]))
    | _ => none)
  | .putfield _ => (match r.2.2.1, st with
    | [ci, f], v :: .inr (some a) :: st' => (match hs_nth h a with
      | some (.inl (κ, fs)) => hs_if (Nat.beq κ ci && (Nat.blt f fs.length && (match hs_nth (hs_fld κ) f with
        | some x => ha_isI x v
        | none => false))) (k (pc + 3) ls st' (h.set a (.inl (κ, fs.set f v))))
      | _ => none)
    | _, _ => none)
  | .getfield _ => (match r.2.2.1, st with
    | [ci, f], .inr (some a) :: st' => (match hs_nth h a with
      | some (.inl (κ, fs)) => hs_if (Nat.beq κ ci) (match hs_nth fs f with
        | some v => k (pc + 3) ls (v :: st') h
        | none => none)
      | _ => none)
    | _, _ => none)
  | .iastore => (match st with
    | .inl v :: .inl i :: .inr (some a) :: st' => (match hs_nth h a with
      | some (.inr (0, n, ws)) => hs_if (hs_in i n) (k (pc + 1) ls st' (h.set a (.inr (0, n, (i.toNatClampNeg, .inl v) :: ws))))
      | _ => none)
    | _ => none)
  | .aastore => (match st with
    | .inr (some b) :: .inl i :: .inr (some a) :: st' => (match hs_nth h a, hs_nth h b with
      | some (.inr (3, n, ws)), some (.inl (6, _)) => hs_if (hs_in i n) (k (pc + 1) ls st' (h.set a (.inr (3, n, (i.toNatClampNeg, .inr (some b)) :: ws))))
      | _, _ => none)
    | _ => none)
  | .invokespecial _ => (match r.2.2.1 with
    | [] => (match st with
      | .inr (some _) :: st' => hs_if (Nat.ble st'.length 8) (k (pc + 3) ls st' h)
      | _ => none)
    | [y, n] => ha_pop n st [] (fun as st' => hs_if (Nat.ble st'.length 8 && ha_rcv as) (match call y as h with
      | some h' => hs_if (ha_more h h') (k (pc + 3) ls st' h')
      | none => none))
    | _ => none)
  | .invokestatic _ => (match st with
    | .inl y :: .inl x :: st' => hs_if (Nat.ble st'.length 8) (k (pc + 3) ls (.inl (if x < y then y else x) :: st') h)
    | _ => none)
  | .return_ => done pc ls st h
  | _ => none
def ha_one {ρ : Type} (code : hs_K) (call : ha_C) (k done : ha_T ρ) (pc : Nat) (ls : ha_L) (st : List ha_V) (h : ha_H) : Option ρ :=
  match hs_at code pc with
  | some r => ha_step call k done r pc ls st h
  | none => none
def ha_run {ρ : Type} (code : hs_K) (call : ha_C) (done : ha_T ρ) (n : Nat) : ha_T ρ :=
  Nat.rec (fun _ _ _ _ => none) (fun _ ih => ha_one code call ih done) n
def ha_ent (as : List ha_V) (n : Nat) : ha_L := as.map some ++ List.replicate (n - as.length) none
def ha_fin : ha_T ha_H := fun _ _ st h => match st with
  | [] => some h
  | _ => none
def ha_k0 : hs_K := [
  [hz_r (.aload_n 0) 1, hz_r (.invokespecial 3) 3, hz_n, hz_n, hz_r (.aload_n 0) 1, hz_r (.bipush 11) 2, hz_n, hz_r (.anewarray 11) 3, hz_n, hz_n, hz_m (.putfield 13) 3 [0, 4] [], hz_n, hz_n, hz_r (.aload_n 0) 1, hz_m (.new 11) 3 [6] [], hz_n],
  [hz_n, hz_r (.dup) 1, hz_m (.invokespecial 17) 3 [6, 1] [], hz_n, hz_n, hz_m (.putfield 18) 3 [0, 5] [], hz_n, hz_n, hz_r (.aload_n 0) 1, hz_r (.bipush 8) 2, hz_n, hz_r (.newarray .int) 2, hz_n, hz_m (.putfield 22) 3 [0, 6] [], hz_n, hz_n],
  [hz_r (.aload_n 0) 1, hz_r (.bipush 9) 2, hz_n, hz_r (.newarray .long) 2, hz_n, hz_m (.putfield 26) 3 [0, 7] [], hz_n, hz_n, hz_r (.aload_n 0) 1, hz_r (.bipush 9) 2, hz_n, hz_r (.newarray .long) 2, hz_n, hz_m (.putfield 30) 3 [0, 8] [], hz_n, hz_n],
  [hz_r (.aload_n 0) 1, hz_r (.aload_n 1) 1, hz_m (.putfield 33) 3 [0, 0] [], hz_n, hz_n, hz_r (.aload_n 0) 1, hz_r (.aload_n 2) 1, hz_m (.putfield 36) 3 [0, 1] [], hz_n, hz_n, hz_r (.aload_n 0) 1, hz_r (.aload_n 3) 1, hz_m (.putfield 40) 3 [0, 2] [], hz_n, hz_n, hz_r (.aload_n 0) 1],
  [hz_r (.aload 4) 2, hz_n, hz_m (.putfield 44) 3 [0, 3] [], hz_n, hz_n, hz_r (.iconst 0) 1, hz_r (.istore 5) 2, hz_n, hz_r (.iload 5) 2, hz_n, hz_r (.bipush 10) 2, hz_n, hz_r (.if_icmp .gt 23) 3, hz_n, hz_n, hz_r (.aload_n 0) 1],
  [hz_m (.getfield 13) 3 [0, 4] [], hz_n, hz_n, hz_r (.iload 5) 2, hz_n, hz_m (.new 11) 3 [6] [], hz_n, hz_n, hz_r (.dup) 1, hz_m (.invokespecial 17) 3 [6, 1] [], hz_n, hz_n, hz_r (.aastore) 1, hz_r (.iinc 5 1) 3, hz_n, hz_n],
  [hz_r (.goto (-24)) 3, hz_n, hz_n, hz_r (.return_) 1]]
def ha_k1 : hs_K := [
  [hz_r (.aload_n 0) 1, hz_r (.invokespecial 3) 3, hz_n, hz_n, hz_r (.aload_n 0) 1, hz_r (.aload_n 1) 1, hz_m (.putfield 9) 3 [1, 0] [], hz_n, hz_n, hz_r (.aload_n 0) 1, hz_r (.aload_n 2) 1, hz_m (.putfield 15) 3 [1, 1] [], hz_n, hz_n, hz_r (.aload_n 0) 1, hz_r (.aload_n 3) 1],
  [hz_m (.putfield 19) 3 [1, 2] [], hz_n, hz_n, hz_r (.return_) 1]]
def ha_k2 : hs_K := [
  [hz_r (.aload_n 0) 1, hz_r (.invokespecial 3) 3, hz_n, hz_n, hz_r (.iconst 0) 1, hz_r (.iload_n 1) 1, hz_m (.invokestatic 9) 3 [5] [], hz_n, hz_n, hz_r (.istore_n 2) 1, hz_r (.aload_n 0) 1, hz_r (.iload_n 2) 1, hz_r (.newarray .int) 2, hz_n, hz_m (.putfield 15) 3 [2, 0] [], hz_n],
  [hz_n, hz_r (.aload_n 0) 1, hz_r (.iload_n 2) 1, hz_r (.newarray .int) 2, hz_n, hz_m (.putfield 21) 3 [2, 1] [], hz_n, hz_n, hz_r (.return_) 1]]
def ha_k3 : hs_K := [
  [hz_r (.aload_n 0) 1, hz_r (.invokespecial 3) 3, hz_n, hz_n, hz_r (.aload_n 0) 1, hz_r (.bipush 20) 2, hz_n, hz_r (.anewarray 11) 3, hz_n, hz_n, hz_m (.putfield 13) 3 [3, 0] [], hz_n, hz_n, hz_r (.aload_n 0) 1, hz_r (.iconst 3) 1, hz_r (.anewarray 11) 3],
  [hz_n, hz_n, hz_m (.putfield 17) 3 [3, 1] [], hz_n, hz_n, hz_r (.aload_n 0) 1, hz_r (.iconst 3) 1, hz_r (.newarray .int) 2, hz_n, hz_m (.putfield 20) 3 [3, 2] [], hz_n, hz_n, hz_r (.iconst 0) 1, hz_r (.istore_n 1) 1, hz_r (.iload_n 1) 1, hz_r (.bipush 20) 2],
  [hz_n, hz_r (.if_icmp .ge 22) 3, hz_n, hz_n, hz_r (.aload_n 0) 1, hz_m (.getfield 13) 3 [3, 0] [], hz_n, hz_n, hz_r (.iload_n 1) 1, hz_m (.new 11) 3 [6] [], hz_n, hz_n, hz_r (.dup) 1, hz_m (.invokespecial 24) 3 [6, 1] [], hz_n, hz_n],
  [hz_r (.aastore) 1, hz_r (.iinc 1 1) 3, hz_n, hz_n, hz_r (.goto (-22)) 3, hz_n, hz_n, hz_r (.iconst 0) 1, hz_r (.istore_n 1) 1, hz_r (.iload_n 1) 1, hz_r (.iconst 3) 1, hz_r (.if_icmp .ge 29) 3, hz_n, hz_n, hz_r (.aload_n 0) 1, hz_m (.getfield 17) 3 [3, 1] []],
  [hz_n, hz_n, hz_r (.iload_n 1) 1, hz_m (.new 11) 3 [6] [], hz_n, hz_n, hz_r (.dup) 1, hz_m (.invokespecial 24) 3 [6, 1] [], hz_n, hz_n, hz_r (.aastore) 1, hz_r (.aload_n 0) 1, hz_m (.getfield 20) 3 [3, 2] [], hz_n, hz_n, hz_r (.iload_n 1) 1],
  [hz_r (.iconst (-1)) 1, hz_r (.iastore) 1, hz_r (.iinc 1 1) 3, hz_n, hz_n, hz_r (.goto (-28)) 3, hz_n, hz_n, hz_r (.return_) 1]]
def ha_k4 : hs_K := [
  [hz_r (.aload_n 0) 1, hz_r (.invokespecial 1) 3, hz_n, hz_n, hz_r (.aload_n 0) 1, hz_r (.bipush 16) 2, hz_n, hz_r (.newarray .long) 2, hz_n, hz_m (.putfield 9) 3 [4, 0] [], hz_n, hz_n, hz_r (.return_) 1]]
def ha_k5 : hs_K := [
  [hz_r (.aload_n 0) 1, hz_r (.invokespecial 3) 3, hz_n, hz_n, hz_r (.aload_n 0) 1, hz_r (.iconst 1) 1, hz_m (.putfield 9) 3 [5, 0] [], hz_n, hz_n, hz_r (.return_) 1]]
def ha_k6 : hs_K := [
  [hz_r (.aload_n 0) 1, hz_r (.invokespecial 3) 3, hz_n, hz_n, hz_r (.aload_n 0) 1, hz_r (.iconst (-1)) 1, hz_m (.putfield 9) 3 [6, 1] [], hz_n, hz_n, hz_r (.aload_n 0) 1, hz_r (.bipush 8) 2, hz_n, hz_r (.newarray .int) 2, hz_n, hz_m (.putfield 15) 3 [6, 7] [], hz_n],
  [hz_n, hz_r (.aload_n 0) 1, hz_r (.bipush 8) 2, hz_n, hz_r (.newarray .int) 2, hz_n, hz_m (.putfield 19) 3 [6, 8] [], hz_n, hz_n, hz_r (.aload_n 0) 1, hz_r (.bipush 12) 2, hz_n, hz_r (.newarray .int) 2, hz_n, hz_m (.putfield 22) 3 [6, 9] [], hz_n],
  [hz_n, hz_r (.aload_n 0) 1, hz_r (.bipush 12) 2, hz_n, hz_r (.newarray .int) 2, hz_n, hz_m (.putfield 25) 3 [6, 10] [], hz_n, hz_n, hz_r (.aload_n 0) 1, hz_r (.bipush 12) 2, hz_n, hz_r (.newarray .int) 2, hz_n, hz_m (.putfield 28) 3 [6, 11] [], hz_n],
  [hz_n, hz_r (.aload_n 0) 1, hz_r (.bipush 60) 2, hz_n, hz_r (.newarray .int) 2, hz_n, hz_m (.putfield 31) 3 [6, 12] [], hz_n, hz_n, hz_r (.return_) 1]]
def ha_k7 : hs_K := [
  [hz_r (.aload_n 0) 1, hz_r (.invokespecial 3) 3, hz_n, hz_n, hz_r (.aload_n 0) 1, hz_r (.bipush 80) 2, hz_n, hz_r (.newarray .int) 2, hz_n, hz_m (.putfield 11) 3 [7, 0] [], hz_n, hz_n, hz_r (.return_) 1]]
def ha_k8 : hs_K := [
  [hz_r (.aload_n 0) 1, hz_r (.invokespecial 3) 3, hz_n, hz_n, hz_r (.aload_n 0) 1, hz_r (.bipush 8) 2, hz_n, hz_r (.newarray .int) 2, hz_n, hz_m (.putfield 9) 3 [8, 0] [], hz_n, hz_n, hz_r (.aload_n 0) 1, hz_r (.bipush 8) 2, hz_n, hz_r (.newarray .int) 2],
  [hz_n, hz_m (.putfield 15) 3 [8, 1] [], hz_n, hz_n, hz_r (.aload_n 0) 1, hz_r (.bipush 8) 2, hz_n, hz_r (.newarray .int) 2, hz_n, hz_m (.putfield 18) 3 [8, 2] [], hz_n, hz_n, hz_r (.aload_n 0) 1, hz_r (.bipush 48) 2, hz_n, hz_r (.newarray .int) 2],
  [hz_n, hz_m (.putfield 21) 3 [8, 3] [], hz_n, hz_n, hz_r (.aload_n 0) 1, hz_r (.bipush 8) 2, hz_n, hz_r (.newarray .int) 2, hz_n, hz_m (.putfield 24) 3 [8, 4] [], hz_n, hz_n, hz_r (.aload_n 0) 1, hz_r (.bipush 6) 2, hz_n, hz_r (.newarray .int) 2],
  [hz_n, hz_m (.putfield 27) 3 [8, 5] [], hz_n, hz_n, hz_r (.return_) 1]]
def ha_k9 : hs_K := [
  [hz_r (.aload_n 0) 1, hz_r (.invokespecial 3) 3, hz_n, hz_n, hz_r (.aload_n 0) 1, hz_m (.new 9) 3 [6] [], hz_n, hz_n, hz_r (.dup) 1, hz_m (.invokespecial 11) 3 [6, 1] [], hz_n, hz_n, hz_m (.putfield 12) 3 [9, 4] [], hz_n, hz_n, hz_r (.aload_n 0) 1],
  [hz_r (.bipush 61) 2, hz_n, hz_r (.newarray .int) 2, hz_n, hz_m (.putfield 18) 3 [9, 5] [], hz_n, hz_n, hz_r (.aload_n 0) 1, hz_r (.aload_n 1) 1, hz_m (.putfield 22) 3 [9, 0] [], hz_n, hz_n, hz_r (.aload_n 0) 1, hz_r (.aload_n 2) 1, hz_m (.putfield 25) 3 [9, 1] [], hz_n],
  [hz_n, hz_r (.aload_n 0) 1, hz_r (.aload_n 3) 1, hz_m (.putfield 29) 3 [9, 2] [], hz_n, hz_n, hz_r (.aload_n 0) 1, hz_r (.aload 4) 2, hz_n, hz_m (.putfield 33) 3 [9, 3] [], hz_n, hz_n, hz_r (.return_) 1]]
def ha_k10 : hs_K := [
  [hz_r (.aload_n 0) 1, hz_r (.invokespecial 3) 3, hz_n, hz_n, hz_r (.aload_n 0) 1, hz_r (.bipush 40) 2, hz_n, hz_r (.newarray .int) 2, hz_n, hz_m (.putfield 11) 3 [10, 0] [], hz_n, hz_n, hz_r (.aload_n 0) 1, hz_r (.bipush 40) 2, hz_n, hz_r (.newarray .int) 2],
  [hz_n, hz_m (.putfield 15) 3 [10, 1] [], hz_n, hz_n, hz_r (.aload_n 0) 1, hz_r (.bipush 40) 2, hz_n, hz_r (.newarray .int) 2, hz_n, hz_m (.putfield 18) 3 [10, 2] [], hz_n, hz_n, hz_r (.return_) 1]]
def ha_k11 : hs_K := [
  [hz_r (.aload_n 0) 1, hz_r (.invokespecial 1) 3, hz_n, hz_n, hz_r (.aload_n 0) 1, hz_m (.new 7) 3 [7] [], hz_n, hz_n, hz_r (.dup) 1, hz_m (.invokespecial 9) 3 [7, 1] [], hz_n, hz_n, hz_m (.putfield 10) 3 [11, 0] [], hz_n, hz_n, hz_r (.aload_n 0) 1],
  [hz_m (.new 16) 3 [4] [], hz_n, hz_n, hz_r (.dup) 1, hz_m (.invokespecial 18) 3 [4, 1] [], hz_n, hz_n, hz_m (.putfield 19) 3 [11, 1] [], hz_n, hz_n, hz_r (.aload_n 0) 1, hz_m (.new 23) 3 [8] [], hz_n, hz_n, hz_r (.dup) 1, hz_m (.invokespecial 25) 3 [8, 1] []],
  [hz_n, hz_n, hz_m (.putfield 26) 3 [11, 2] [], hz_n, hz_n, hz_r (.aload_n 0) 1, hz_m (.new 30) 3 [10] [], hz_n, hz_n, hz_r (.dup) 1, hz_m (.invokespecial 32) 3 [10, 1] [], hz_n, hz_n, hz_m (.putfield 33) 3 [11, 3] [], hz_n, hz_n],
  [hz_r (.aload_n 0) 1, hz_m (.new 37) 3 [5] [], hz_n, hz_n, hz_r (.dup) 1, hz_m (.invokespecial 39) 3 [5, 1] [], hz_n, hz_n, hz_m (.putfield 40) 3 [11, 4] [], hz_n, hz_n, hz_r (.aload_n 0) 1, hz_m (.new 44) 3 [6] [], hz_n, hz_n, hz_r (.dup) 1],
  [hz_m (.invokespecial 46) 3 [6, 1] [], hz_n, hz_n, hz_m (.putfield 47) 3 [11, 5] [], hz_n, hz_n, hz_r (.aload_n 0) 1, hz_m (.new 51) 3 [3] [], hz_n, hz_n, hz_r (.dup) 1, hz_m (.invokespecial 53) 3 [3, 1] [], hz_n, hz_n, hz_m (.putfield 54) 3 [11, 6] [], hz_n],
  [hz_n, hz_r (.aload_n 0) 1, hz_m (.new 58) 3 [2] [], hz_n, hz_n, hz_r (.dup) 1, hz_r (.bipush 12) 2, hz_n, hz_m (.invokespecial 60) 3 [2, 2] [], hz_n, hz_n, hz_m (.putfield 63) 3 [11, 7] [], hz_n, hz_n, hz_r (.aload_n 0) 1, hz_m (.new 58) 3 [2] []],
  [hz_n, hz_n, hz_r (.dup) 1, hz_r (.bipush 10) 2, hz_n, hz_m (.invokespecial 60) 3 [2, 2] [], hz_n, hz_n, hz_m (.putfield 67) 3 [11, 8] [], hz_n, hz_n, hz_r (.aload_n 0) 1, hz_m (.new 70) 3 [1] [], hz_n, hz_n, hz_r (.dup) 1],
  [hz_r (.aload_n 0) 1, hz_m (.getfield 26) 3 [11, 2] [], hz_n, hz_n, hz_r (.aload_n 0) 1, hz_m (.getfield 33) 3 [11, 3] [], hz_n, hz_n, hz_r (.aload_n 0) 1, hz_m (.getfield 40) 3 [11, 4] [], hz_n, hz_n, hz_m (.invokespecial 72) 3 [1, 4] [], hz_n, hz_n, hz_m (.putfield 75) 3 [11, 9] []],
  [hz_n, hz_n, hz_r (.aload_n 0) 1, hz_m (.new 79) 3 [0] [], hz_n, hz_n, hz_r (.dup) 1, hz_r (.aload_n 0) 1, hz_m (.getfield 47) 3 [11, 5] [], hz_n, hz_n, hz_r (.aload_n 0) 1, hz_m (.getfield 26) 3 [11, 2] [], hz_n, hz_n, hz_r (.aload_n 0) 1],
  [hz_m (.getfield 75) 3 [11, 9] [], hz_n, hz_n, hz_r (.aload_n 0) 1, hz_m (.getfield 19) 3 [11, 1] [], hz_n, hz_n, hz_m (.invokespecial 81) 3 [0, 5] [], hz_n, hz_n, hz_m (.putfield 84) 3 [11, 10] [], hz_n, hz_n, hz_r (.aload_n 0) 1, hz_m (.new 88) 3 [9] [], hz_n],
  [hz_n, hz_r (.dup) 1, hz_r (.aload_n 0) 1, hz_m (.getfield 47) 3 [11, 5] [], hz_n, hz_n, hz_r (.aload_n 0) 1, hz_m (.getfield 26) 3 [11, 2] [], hz_n, hz_n, hz_r (.aload_n 0) 1, hz_m (.getfield 75) 3 [11, 9] [], hz_n, hz_n, hz_r (.aload_n 0) 1, hz_m (.getfield 19) 3 [11, 1] []],
  [hz_n, hz_n, hz_m (.invokespecial 90) 3 [9, 5] [], hz_n, hz_n, hz_m (.putfield 91) 3 [11, 11] [], hz_n, hz_n, hz_r (.return_) 1]]
def ha_k12 : hs_K := [
  [hz_r (.aload_n 0) 1, hz_r (.invokespecial 22) 3, hz_n, hz_n, hz_r (.aload_n 0) 1, hz_r (.bipush 24) 2, hz_n, hz_r (.newarray .long) 2, hz_n, hz_m (.putfield 11) 3 [12, 2] [], hz_n, hz_n, hz_r (.aload_n 0) 1, hz_r (.bipush 8) 2, hz_n, hz_r (.newarray .int) 2],
  [hz_n, hz_m (.putfield 28) 3 [12, 4] [], hz_n, hz_n, hz_r (.aload_n 0) 1, hz_r (.bipush 8) 2, hz_n, hz_r (.newarray .int) 2, hz_n, hz_m (.putfield 32) 3 [12, 5] [], hz_n, hz_n, hz_r (.aload_n 0) 1, hz_r (.bipush 48) 2, hz_n, hz_r (.newarray .int) 2],
  [hz_n, hz_m (.putfield 35) 3 [12, 6] [], hz_n, hz_n, hz_r (.aload_n 0) 1, hz_r (.bipush 8) 2, hz_n, hz_r (.newarray .int) 2, hz_n, hz_m (.putfield 38) 3 [12, 7] [], hz_n, hz_n, hz_r (.aload_n 0) 1, hz_r (.iconst 1) 1, hz_m (.putfield 41) 3 [12, 8] [], hz_n],
  [hz_n, hz_r (.aload_n 0) 1, hz_r (.bipush 117) 2, hz_n, hz_r (.newarray .int) 2, hz_n, hz_m (.putfield 44) 3 [12, 10] [], hz_n, hz_n, hz_r (.aload_n 0) 1, hz_r (.bipush 117) 2, hz_n, hz_r (.newarray .int) 2, hz_n, hz_m (.putfield 47) 3 [12, 11] [], hz_n],
  [hz_n, hz_r (.aload_n 0) 1, hz_r (.bipush 80) 2, hz_n, hz_r (.newarray .int) 2, hz_n, hz_m (.putfield 50) 3 [12, 12] [], hz_n, hz_n, hz_r (.aload_n 0) 1, hz_r (.bipush 8) 2, hz_n, hz_r (.newarray .int) 2, hz_n, hz_m (.putfield 53) 3 [12, 17] [], hz_n],
  [hz_n, hz_r (.aload_n 0) 1, hz_r (.bipush 8) 2, hz_n, hz_r (.newarray .int) 2, hz_n, hz_m (.putfield 56) 3 [12, 18] [], hz_n, hz_n, hz_r (.aload_n 0) 1, hz_r (.bipush 54) 2, hz_n, hz_r (.newarray .int) 2, hz_n, hz_m (.putfield 59) 3 [12, 19] [], hz_n],
  [hz_n, hz_r (.aload_n 0) 1, hz_r (.bipush 9) 2, hz_n, hz_r (.newarray .int) 2, hz_n, hz_m (.putfield 62) 3 [12, 20] [], hz_n, hz_n, hz_r (.aload_n 0) 1, hz_r (.bipush 80) 2, hz_n, hz_r (.newarray .int) 2, hz_n, hz_m (.putfield 65) 3 [12, 22] [], hz_n],
  [hz_n, hz_r (.aload_n 0) 1, hz_r (.bipush 80) 2, hz_n, hz_r (.newarray .int) 2, hz_n, hz_m (.putfield 68) 3 [12, 23] [], hz_n, hz_n, hz_r (.aload_n 0) 1, hz_r (.bipush 80) 2, hz_n, hz_r (.newarray .int) 2, hz_n, hz_m (.putfield 71) 3 [12, 26] [], hz_n],
  [hz_n, hz_r (.aload_n 0) 1, hz_r (.sipush 2340) 3, hz_n, hz_n, hz_r (.newarray .int) 2, hz_n, hz_m (.putfield 74) 3 [12, 29] [], hz_n, hz_n, hz_r (.aload_n 0) 1, hz_r (.bipush 61) 2, hz_n, hz_r (.newarray .int) 2, hz_n, hz_m (.putfield 77) 3 [12, 30] []],
  [hz_n, hz_n, hz_r (.aload_n 0) 1, hz_r (.bipush 8) 2, hz_n, hz_r (.newarray .int) 2, hz_n, hz_m (.putfield 80) 3 [12, 32] [], hz_n, hz_n, hz_r (.aload_n 0) 1, hz_r (.bipush 8) 2, hz_n, hz_r (.newarray .int) 2, hz_n, hz_m (.putfield 83) 3 [12, 33] []],
  [hz_n, hz_n, hz_r (.aload_n 0) 1, hz_r (.bipush 12) 2, hz_n, hz_r (.newarray .int) 2, hz_n, hz_m (.putfield 86) 3 [12, 35] [], hz_n, hz_n, hz_r (.aload_n 0) 1, hz_r (.bipush 12) 2, hz_n, hz_r (.newarray .int) 2, hz_n, hz_m (.putfield 89) 3 [12, 36] []],
  [hz_n, hz_n, hz_r (.aload_n 0) 1, hz_r (.bipush 10) 2, hz_n, hz_r (.newarray .int) 2, hz_n, hz_m (.putfield 92) 3 [12, 38] [], hz_n, hz_n, hz_r (.aload_n 0) 1, hz_r (.bipush 10) 2, hz_n, hz_r (.newarray .int) 2, hz_n, hz_m (.putfield 95) 3 [12, 39] []],
  [hz_n, hz_n, hz_r (.aload_n 0) 1, hz_r (.bipush 9) 2, hz_n, hz_r (.newarray .long) 2, hz_n, hz_m (.putfield 98) 3 [12, 40] [], hz_n, hz_n, hz_r (.aload_n 0) 1, hz_r (.bipush 9) 2, hz_n, hz_r (.newarray .long) 2, hz_n, hz_m (.putfield 101) 3 [12, 41] []],
  [hz_n, hz_n, hz_r (.aload_n 0) 1, hz_r (.bipush 117) 2, hz_n, hz_r (.newarray .int) 2, hz_n, hz_m (.putfield 104) 3 [12, 42] [], hz_n, hz_n, hz_r (.aload_n 0) 1, hz_r (.iconst 3) 1, hz_r (.newarray .boolean) 2, hz_n, hz_m (.putfield 107) 3 [12, 43] [], hz_n],
  [hz_n, hz_r (.aload_n 0) 1, hz_r (.iconst 3) 1, hz_r (.newarray .int) 2, hz_n, hz_m (.putfield 111) 3 [12, 44] [], hz_n, hz_n, hz_r (.aload_n 0) 1, hz_r (.sipush 351) 3, hz_n, hz_n, hz_r (.newarray .int) 2, hz_n, hz_m (.putfield 114) 3 [12, 45] [], hz_n],
  [hz_n, hz_r (.aload_n 0) 1, hz_m (.getfield 44) 3 [12, 10] [], hz_n, hz_n, hz_r (.bipush 17) 2, hz_n, hz_r (.iconst (-1)) 1, hz_r (.iastore) 1, hz_r (.return_) 1]]
def ha_prog (y : Nat) : hs_K × Nat := (hs_nth [(ha_k0, 6), (ha_k1, 4), (ha_k2, 3), (ha_k3, 2), (ha_k4, 1), (ha_k5, 1), (ha_k6, 1), (ha_k7, 1), (ha_k8, 1), (ha_k9, 5), (ha_k10, 1), (ha_k11, 1), (ha_k12, 1)] y).getD ([], 0)
def ha_call (d : Nat) : ha_C :=
  Nat.rec (fun _ _ _ => none) (fun _ ih y as h => hs_if (Nat.ble as.length (ha_prog y).2) (ha_run (ha_prog y).1 ih ha_fin 2000 0 (ha_ent as (ha_prog y).2) [] h)) d
/-- the law's prologue: the class's object, the reference's, the row for an answer -/
def ha_all : Option ha_H := match ha_call 4 11 [.inr (some 0)] [ha_new 11] with
  | some h1 => (match ha_call 4 12 [.inr (some h1.length)] (h1 ++ [ha_new 12]) with
    | some h2 => some (h2 ++ [.inr (1, 1, [])])
    | none => none)
  | none => none
set_option maxRecDepth 100000 in
theorem ha_all_some : ha_all.isSome = true := by decide +kernel
/-- where each thing lies: walked from the two objects -/
def ha_kf (j : Nat) : List (Option (Nat × Nat × Nat)) → List ha_V → List (Nat × Nat × Nat)
  | some (κ', 0, b) :: l, .inr (some x) :: fs => (κ', b, x) :: ha_kf j l fs
  | some (κ', _ + 1, b) :: l, .inr (some x) :: fs => (κ', j + b, x) :: ha_kf j l fs
  | _ :: l, _ :: fs => ha_kf j l fs
  | _, _ => []
def ha_kids (h : ha_H) (κ j a : Nat) : List (Nat × Nat × Nat) := match hs_nth h a with
  | some (.inl (_, fs)) => ha_kf j (hs_fld κ) fs
  | some (.inr (3, _, ws)) => ws.filterMap (fun q => match q.2 with
    | .inr (some x) => some (6, hs_base κ + q.1, x)
    | _ => none)
  | _ => []
def ha_look (κ j : Nat) : List (Nat × Nat × Nat) → Option Nat
  | [] => none
  | (κ', j', a) :: l => match Nat.beq κ κ' && Nat.beq j j' with
    | true => some a
    | false => ha_look κ j l
def ha_walk (h : ha_H) (n : Nat) : List (Nat × Nat × Nat) → List (Nat × Nat × Nat) → List (Nat × Nat × Nat) :=
  Nat.rec (fun _ seen => seen) (fun _ ih todo seen => match todo with
    | [] => seen
    | (κ, j, a) :: todo' => match ha_look κ j seen with
      | some _ => ih todo' seen
      | none => ih (ha_kids h κ j a ++ todo') ((κ, j, a) :: seen)) n
def ha_map (h : ha_H) (a12 aL : Nat) : List (Nat × Nat × Nat) := ha_walk h 2000 [(11, 0, 0), (12, 0, a12), (69, 0, aL)] []
def ha_fok (P : List (Nat × Nat × Nat)) (j : Nat) : List (Option (Nat × Nat × Nat)) → List ha_V → Bool
  | [], [] => true
  | none :: l, .inl _ :: fs => ha_fok P j l fs
  | some (κ', 0, b) :: l, .inr (some x) :: fs => (match ha_look κ' b P with
    | some y => Nat.beq x y
    | none => false) && ha_fok P j l fs
  | some (κ', _ + 1, b) :: l, .inr (some x) :: fs => (match ha_look κ' (j + b) P with
    | some y => Nat.beq x y
    | none => false) && ha_fok P j l fs
  | _, _ => false
def ha_asc (i : Nat) : List (Nat × ha_V) → Option ha_V
  | [] => none
  | (k, v) :: l => match Nat.beq i k with
    | true => some v
    | false => ha_asc i l
def ha_cok (h : ha_H) (P : List (Nat × Nat × Nat)) (κ j a : Nat) : Bool := match hs_nth h a with
  | some (.inl (κ', fs)) => Nat.beq κ κ' && (Nat.blt κ 13 && (Nat.beq (hs_akind κ) 9 && ha_fok P j (hs_fld κ) fs))
  | some (.inr (t, n, ws)) => Nat.beq t (hs_akind κ) && (Nat.blt t 4 && (Nat.beq n (hs_len (fun _ _ _ => 0, fun _ _ _ => 0) κ j) && (match t with
    | 3 => (List.range n).all (fun i => match ha_asc i ws, ha_look 6 (hs_base κ + i) P with
      | some (.inr (some x)), some y => Nat.beq x y
      | _, _ => false)
    | _ => ws.all (fun q => match q.2 with
      | .inl _ => true
      | _ => false))))
  | none => false
def ha_apart : List Nat → Bool
  | [] => true
  | a :: l => l.all (fun b => !Nat.beq a b) && ha_apart l
def ha_good (h : ha_H) (P : List (Nat × Nat × Nat)) : Bool :=
  hs_objs.all (fun q => match ha_look q.1 q.2 P with
    | some a => ha_cok h P q.1 q.2 a
    | none => false) && ha_apart (P.map (fun q => q.2.2))
def ha_all_ok : Bool := match ha_call 4 11 [.inr (some 0)] [ha_new 11] with
  | some h1 => (match ha_call 4 12 [.inr (some h1.length)] (h1 ++ [ha_new 12]) with
    | some h2 => ha_good (h2 ++ [.inr (1, 1, [])]) (ha_map (h2 ++ [.inr (1, 1, [])]) h1.length h2.length)
    | none => false)
  | none => false
set_option maxRecDepth 100000 in
theorem ha_all_good : ha_all_ok = true := by decide +kernel
