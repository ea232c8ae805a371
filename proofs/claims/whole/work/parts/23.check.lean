/-! ===== the code rows are what the bytes say ===== -/
def hs_any (l : List (Nat × (Nat × (Nat × (Nat × Nat))))) (a b c d : Nat) : Bool := l.any (fun q => Nat.beq q.1 a && (Nat.beq q.2.1 b && (Nat.beq q.2.2.1 c && Nat.beq q.2.2.2.1 d)))
def hs_tok (pc : Nat) (off : Int) : Bool := decide ((pc : Int) + off = (hs_tgt pc off : Int))
def hs_vok : Int → List Int → Bool
  | _, [] => true
  | v, _ :: l => decide (Int32.ofInt v = hs_ic v) && hs_vok (v + 1) l
/-- how many parameters -/
def hs_np (y : Nat) : Nat := (hs_nth [1, 2, 2, 2, 2, 1, 1, 1, 1, 1, 1, 1, 2, 2, 4, 4, 0, 2, 2, 1, 2, 2, 1, 0, 2, 2, 2, 2, 1, 0, 3, 2, 3, 1, 2, 1, 2, 2, 1, 1, 1, 1, 0, 3, 3, 1, 1, 3, 2, 2, 1, 3, 2, 3, 2, 1, 1, 2, 1, 2, 0, 0, 1, 1, 1, 1, 1, 1, 1, 0, 0, 1, 1, 2, 1, 3, 2, 1, 2, 2, 2, 2, 1, 1, 1, 2, 1, 2, 2, 2, 0, 2, 1, 1, 2, 1, 1, 2, 2, 2, 2, 2, 1, 1, 1, 3, 3, 4, 1, 1, 0, 0, 1, 2, 2, 3, 2, 4, 1, 1, 0, 0, 2, 2, 2, 1, 0, 1, 2, 1, 1, 1, 2, 2, 1, 2, 2, 1, 2, 2, 0, 2, 0, 0, 1, 0, 0, 2, 0, 1, 0, 1, 2, 0, 1, 1, 1, 1, 1, 3, 1, 2, 3, 2, 0, 0, 0, 0, 3, 2, 1, 2, 1, 2, 1, 1, 1, 1, 1, 1, 0, 1, 1, 3, 1, 0, 0, 2, 2, 1, 1, 0, 1, 0, 1, 3, 3, 2, 1, 1, 2, 2, 3, 2, 4, 2, 1, 2, 0, 0, 1, 1, 0, 0, 0, 2, 2, 2, 2, 1, 1, 0, 1, 2, 1, 2, 1, 1, 1, 2, 2, 2, 2, 1, 1, 2, 2, 1, 2, 1, 2, 2, 0, 2, 0, 2, 2, 3, 0, 1, 0, 0, 0, 2, 0, 1, 1, 0, 1, 2, 2, 0, 1, 1, 0, 1, 1] y).getD 0
def hs_stx : List (Nat × Nat) := [(172, 0), (188, 1), (223, 2), (228, 3), (230, 4)]
set_option maxRecDepth 100000 in
theorem hs_np_ok : (List.range 267).all (fun y => decide ((parseMethodDescriptor (hs_nm y).1.desc).map (fun d => d.parameters.length) = some (hs_np y))) = true := by decide +kernel
def hs_okk (y k : Nat) : Bool := match (hs_prog y).2.2 with
  | 0 => Nat.beq k 0
  | 1 => Nat.beq k 1
  | 2 => Nat.beq k 2
  | _ => Nat.beq k 1
def hs_okI (own pc : Nat) (r : hs_R) (idx : Nat) (v : Bool) : Bool := Nat.beq r.2.1 3 && (match v, r.2.2.1 with
  | true, [y, n, k, ci] => hs_any hs_ml own idx y 0 && (Nat.beq n (hs_np y + 1) && (Nat.beq (hs_mw y).2.2.2.1 0 && (Nat.blt y 267 && (Nat.beq ci (hs_mw y).1 && (Nat.blt ci 13 && hs_okk y k)))))
  | false, [y, n, k] => (hs_any hs_ml own idx y 1 || hs_any hs_ml own idx y 2) && (Nat.beq n (hs_np y) && (Nat.beq (hs_mw y).2.2.2.1 1 && (Nat.blt y 267 && hs_okk y k)))
  | false, [_] => hs_al.any (fun q => Nat.beq q.1 own && Nat.beq q.2.1 idx)
  | true, [_, b] => hs_sl.any (fun q => Nat.beq q.1 own && (Nat.beq q.2.1 idx && Nat.beq q.2.2.1 b))
  | _, [] => true
  | _, _ => false)
def hs_okr (own pc : Nat) (r : hs_R) : Bool :=
  match r.1 with
  | .iload _ => Nat.beq r.2.1 2
  | .lload _ => Nat.beq r.2.1 2
  | .aload _ => Nat.beq r.2.1 2
  | .istore _ => Nat.beq r.2.1 2
  | .lstore _ => Nat.beq r.2.1 2
  | .astore _ => Nat.beq r.2.1 2
  | .iinc _ n => Nat.beq r.2.1 3 && decide (Int32.ofInt n = hs_ic n)
  | .iconst n => Nat.beq r.2.1 1 && decide (Int32.ofInt n = hs_ic n)
  | .bipush n => Nat.beq r.2.1 2 && decide ((Int8.ofInt n).toInt32 = hs_ic n)
  | .sipush n => Nat.beq r.2.1 3 && decide ((Int16.ofInt n).toInt32 = hs_ic n)
  | .ldc idx => Nat.beq r.2.1 2 && (match r.2.2.1 with
    | [0, n] => hs_any hs_kl own idx 0 n
    | [1, n] => Nat.beq own 12 && hs_stx.any (fun q => Nat.beq q.1 idx && Nat.beq q.2 n)
    | _ => true)
  | .ldc_w idx => Nat.beq r.2.1 3 && (match r.2.2.1 with
    | [0, n] => hs_any hs_kl own idx 0 n
    | _ => true)
  | .ldc2_w idx => Nat.beq r.2.1 3 && (match r.2.2.1 with
    | [0, n] => hs_any hs_kl own idx 1 n
    | [1, n] => hs_any hs_kl own idx 2 n
    | _ => true)
  | .goto off => Nat.beq r.2.1 3 && hs_tok pc off
  | .ifCond _ off => Nat.beq r.2.1 3 && hs_tok pc off
  | .if_icmp _ off => Nat.beq r.2.1 3 && hs_tok pc off
  | .tableswitch dflt lo hi offs => hs_tok pc dflt && (offs.toList.all (hs_tok pc) && (hs_vok lo offs.toList && decide (hi + 1 = lo + offs.toList.length ∧ -1000 ≤ lo ∧ hi ≤ 1000)))
  | .lookupswitch dflt ps => hs_tok pc dflt && (ps.toList.all (fun q => hs_tok pc q.2 && (decide (Int32.ofInt q.1 = hs_ic q.1) && decide (-1000 ≤ q.1 ∧ q.1 ≤ 1000))) && (ps.toList.zip (ps.toList.drop 1)).all (fun (a, next) => a.1 < next.1))
  | .getfield idx => Nat.beq r.2.1 3 && (match r.2.2.1 with
    | [ci, f] => hs_any hs_fl own idx ci f && (Nat.blt f (hs_cN ci) && Nat.blt ci 13)
    | _ => true)
  | .putfield idx => Nat.beq r.2.1 3 && (match r.2.2.1 with
    | [ci, f] => hs_any hs_fl own idx ci f && (Nat.blt f (hs_cN ci) && (Nat.blt ci 13 && (!(hs_cT ci f).2.2.2 && decide (hs_cty ci f = .int))))
    | _ => true)
  | .invokevirtual idx => hs_okI own pc r idx true
  | .invokestatic idx => hs_okI own pc r idx false
  | _ => Nat.beq r.2.1 1 || (match r.1 with
    | .new _ => true
    | .invokespecial _ => true
    | .newarray _ => true
    | _ => false)
def hs_ckl (own : Nat) (bytes : ByteArray) : Nat → List (Option hs_R) → Bool
  | _, [] => true
  | pc, none :: l => hs_ckl own bytes (pc + 1) l
  | pc, some r :: l => decide (decode bytes pc = .ok (r.1, r.2.1)) && (hs_okr own pc r && hs_ckl own bytes (pc + 1) l)
def hs_ckk (own : Nat) (bytes : ByteArray) : Nat → hs_K → Bool
  | _, [] => true
  | pc, l :: k => Nat.ble l.length 16 && (hs_ckl own bytes pc l && hs_ckk own bytes (pc + 16) k)
theorem hs_ckl_at {own : Nat} {bytes : ByteArray} : ∀ (l : List (Option hs_R)) (pc i : Nat) (r : hs_R), hs_ckl own bytes pc l = true → hs_nth l i = some (some r) → decode bytes (pc + i) = .ok (r.1, r.2.1) ∧ hs_okr own (pc + i) r = true
  | [], _, _, _, _, h => by cases h
  | none :: l, pc, 0, r, _, h => by cases h
  | none :: l, pc, i + 1, r, hc, h => by
    have := hs_ckl_at l (pc + 1) i r hc h
    rw [show pc + (i + 1) = pc + 1 + i by omega]
    exact this
  | some q :: l, pc, 0, r, hc, h => by
    cases h
    simp only [hs_ckl, Bool.and_eq_true, decide_eq_true_eq] at hc
    exact ⟨hc.1, hc.2.1⟩
  | some q :: l, pc, i + 1, r, hc, h => by
    simp only [hs_ckl, Bool.and_eq_true, decide_eq_true_eq] at hc
    have := hs_ckl_at l (pc + 1) i r hc.2.2 h
    rw [show pc + (i + 1) = pc + 1 + i by omega]
    exact this
theorem hs_ckk_at {own : Nat} {bytes : ByteArray} : ∀ (k : hs_K) (pc a : Nat) (l : List (Option hs_R)), hs_ckk own bytes pc k = true → hs_nth k a = some l → hs_ckl own bytes (pc + 16 * a) l = true
  | [], _, _, _, _, h => by cases h
  | l :: k, pc, 0, l', hc, h => by
    cases h
    simp only [hs_ckk, Bool.and_eq_true] at hc
    exact hc.2.1
  | l :: k, pc, a + 1, l', hc, h => by
    simp only [hs_ckk, Bool.and_eq_true] at hc
    have := hs_ckk_at k (pc + 16) a l' hc.2.2 h
    rw [show pc + 16 * (a + 1) = pc + 16 + 16 * a by omega]
    exact this
theorem hs_at_ok {own : Nat} {bytes : ByteArray} {code : hs_K} (hc : hs_ckk own bytes 0 code = true) {pc : Nat} {r : hs_R} (h : hs_at code pc = some r) : decode bytes pc = .ok (r.1, r.2.1) ∧ hs_okr own pc r = true := by
  unfold hs_at at h
  cases h1 : hs_nth code (pc / 16) with
  | none => rw [h1] at h; cases h
  | some l =>
    rw [h1] at h
    dsimp only at h
    cases h2 : hs_nth l (pc % 16) with
    | none => rw [h2] at h; cases h
    | some o =>
      rw [h2] at h
      dsimp only at h
      subst h
      have := hs_ckl_at l _ _ r (hs_ckk_at code 0 _ l hc h1) h2
      rw [show 0 + 16 * (pc / 16) + pc % 16 = pc by omega] at this
      exact this
def hs_ckp (y : Nat) : Bool := hs_ckk (hs_mw y).1 (hs_nm y).2.1 0 (hs_prog y).1
/-- a row's end fits what comes back -/
def hs_ckr (rk : Nat) (r : hs_R) : Bool := match r.1 with
  | .ireturn => Nat.beq rk 1 || Nat.beq rk 3
  | .lreturn => Nat.beq rk 2
  | .return_ => Nat.beq rk 0
  | .new _ => !(Nat.beq rk 0)
  | .goto _ => r.2.2.1.isEmpty
  | .invokestatic _ => !r.2.2.1.isEmpty
  | _ => true
def hs_ckrs (y : Nat) : Bool := (hs_prog y).1.all (fun l => l.all (fun o => match o with
  | some r => hs_ckr (hs_prog y).2.2 r
  | none => true)) && decide ((hs_nm y).2.2.2 = (match (hs_prog y).2.2 with
    | 0 => none
    | 1 => some .int
    | 2 => some .long
    | _ => some .boolean) ∧ (hs_prog y).2.2 ≤ 3)
set_option maxRecDepth 100000 in
theorem hs_ckrs_all : (List.range 267).all hs_ckrs = true := by decide +kernel
