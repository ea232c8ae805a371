/-! ===== constructors: their words, their rows ===== -/
/-- name; the places of its words: code, instance, initialised, instantiable -/
def ha_nms : List (MethodName × (Nat × (Nat × (Nat × Nat)))) := [(⟨"HeavierServes$Future", "<init>", "(LHeavierServes$State;LHeavierServes$Town;LHeavierServes$Office;LHeavierServes$Row;)V"⟩, 398, 397, 97, 395),
  (⟨"HeavierServes$Office", "<init>", "(LHeavierServes$Town;LHeavierServes$Will;LHeavierServes$Scale;)V"⟩, 381, 380, 96, 378),
  (⟨"HeavierServes$Pairs", "<init>", "(I)V"⟩, 359, 358, 94, 356),
  (⟨"HeavierServes$Past", "<init>", "()V"⟩, 333, 332, 93, 330),
  (⟨"HeavierServes$Row", "<init>", "()V"⟩, 143, 142, 88, 140),
  (⟨"HeavierServes$Scale", "<init>", "()V"⟩, 233, 232, 91, 230),
  (⟨"HeavierServes$State", "<init>", "()V"⟩, 256, 255, 92, 253),
  (⟨"HeavierServes$Text", "<init>", "()V"⟩, 122, 121, 87, 119),
  (⟨"HeavierServes$Town", "<init>", "()V"⟩, 160, 159, 89, 157),
  (⟨"HeavierServes$Trials", "<init>", "(LHeavierServes$State;LHeavierServes$Town;LHeavierServes$Office;LHeavierServes$Row;)V"⟩, 446, 445, 98, 443),
  (⟨"HeavierServes$Will", "<init>", "()V"⟩, 208, 207, 90, 205),
  (⟨"HeavierServes", "<init>", "()V"⟩, 114, 113, 86, 111),
  (⟨"HeavierServesModel", "<init>", "()V"⟩, 1297, 1296, 99, 1294)]
def ha_nq (y : Nat) : MethodName × (Nat × (Nat × (Nat × Nat))) := (hs_nth ha_nms y).getD (⟨"", "", ""⟩, 0, 0, 0, 0)
def ha_nm (y : Nat) : MethodName := (ha_nq y).1
def ha_by (y : Nat) : ByteArray := hs_code (ha_nq y).2.1
def ha_ckm (y : Nat) : Bool := hs_isC (ha_nq y).2.1 (ha_nm y) (ha_prog y).2 none && (hs_is (ha_nq y).2.2.1 (.instanceMethod (ha_nm y)) && (hs_is (ha_nq y).2.2.2.1 (.initialized (ha_nm y).cls) && (hs_is (ha_nq y).2.2.2.2 (.instantiable (hs_cR y) (hs_cN y)) && (plainFor (ha_nm y) && decide ((ha_nm y).cls ≠ "java/lang/invoke/MethodHandle" ∧ (ha_nm y).cls ≠ "java/lang/invoke/VarHandle" ∧ (ha_nm y).name = "<init>" ∧ (ha_nm y).cls = hs_own y ∧ (ha_nm y).cls = hs_cR y ∧ (ha_prog y).2 ≤ 29)))))
set_option maxRecDepth 100000 in
theorem ha_ckm_all : (List.range 13).all ha_ckm = true := by decide +kernel
theorem ha_ckm_at {y : Nat} (h : y < 13) : hs_isC (ha_nq y).2.1 (ha_nm y) (ha_prog y).2 none = true ∧ Cond.instanceMethod (ha_nm y) ∈ hs_GW ∧ Cond.initialized (ha_nm y).cls ∈ hs_GW ∧ Cond.instantiable (hs_cR y) (hs_cN y) ∈ hs_GW ∧ plainFor (ha_nm y) = true ∧ ((ha_nm y).cls ≠ "java/lang/invoke/MethodHandle" ∧ (ha_nm y).cls ≠ "java/lang/invoke/VarHandle" ∧ (ha_nm y).name = "<init>" ∧ (ha_nm y).cls = hs_own y ∧ (ha_nm y).cls = hs_cR y ∧ (ha_prog y).2 ≤ 29) := by
  have hc := List.all_eq_true.mp ha_ckm_all y (List.mem_range.mpr h)
  simp only [ha_ckm, Bool.and_eq_true, decide_eq_true_eq] at hc
  obtain ⟨h1, h2, h3, h4, h5, h6⟩ := hc
  exact ⟨h1, hs_is_in h2, hs_is_in h3, hs_is_in h4, h5, h6⟩
/-- own class, index, class, place of the word -/
def ha_cl : List (Nat × (Nat × (Nat × Nat))) := [(0, 11, 6, 400), (3, 11, 6, 335), (9, 9, 6, 448), (11, 7, 7, 118), (11, 16, 4, 139), (11, 23, 8, 156), (11, 30, 10, 204), (11, 37, 5, 229), (11, 44, 6, 252), (11, 51, 3, 329), (11, 58, 2, 355), (11, 70, 1, 377), (11, 79, 0, 394), (11, 88, 9, 442), (13, 8, 11, 110), (13, 29, 12, 1293)]
def ha_il : List (Nat × (Nat × (Nat × Nat))) := [(0, 17, 6, 401), (3, 24, 6, 337), (9, 11, 6, 449), (11, 9, 7, 120), (11, 18, 4, 141), (11, 25, 8, 158), (11, 32, 10, 206), (11, 39, 5, 231), (11, 46, 6, 254), (11, 53, 3, 331), (11, 60, 2, 357), (11, 72, 1, 379), (11, 81, 0, 396), (11, 90, 9, 444), (13, 28, 11, 112), (13, 31, 12, 1295)]
def ha_ol : List (Nat × (Nat × (Nat × Nat))) := [(0, 3, 0, 399), (1, 3, 0, 382), (2, 3, 0, 360), (3, 3, 0, 334), (4, 1, 0, 144), (5, 3, 0, 234), (6, 3, 0, 257), (7, 3, 0, 123), (8, 3, 0, 161), (9, 3, 0, 447), (10, 3, 0, 209), (11, 1, 0, 115), (12, 22, 0, 1298)]
def ha_xl : List (Nat × (Nat × (Nat × Nat))) := [(2, 9, 0, 361)]
def ha_any (l : List (Nat × (Nat × (Nat × Nat)))) (a b c : Nat) : Bool := l.any (fun q => Nat.beq q.1 a && (Nat.beq q.2.1 b && Nat.beq q.2.2.1 c))
theorem ha_any_mem {l : List (Nat × (Nat × (Nat × Nat)))} {a b c : Nat} (h : ha_any l a b c = true) : ∃ w, (a, b, c, w) ∈ l := by
  unfold ha_any at h
  obtain ⟨⟨x, y, z, w⟩, h1, h2⟩ := List.any_eq_true.mp h
  simp only [Bool.and_eq_true] at h2
  have e1 : x = a := Nat.eq_of_beq_eq_true h2.1
  have e2 : y = b := Nat.eq_of_beq_eq_true h2.2.1
  have e3 : z = c := Nat.eq_of_beq_eq_true h2.2.2
  exact ⟨w, by rw [← e1, ← e2, ← e3]; exact h1⟩
theorem ha_cl_ok : ha_cl.all (fun q => hs_is q.2.2.2 (.classLink (hs_own q.1) q.2.1 (hs_cR q.2.2.1))) = true := by decide +kernel
theorem ha_il_ok : ha_il.all (fun q => hs_is q.2.2.2 (.methodLink (hs_own q.1) q.2.1 (ha_nm q.2.2.1))) = true := by decide +kernel
theorem ha_ol_ok : ha_ol.all (fun q => hs_is q.2.2.2 (.methodLink (hs_own q.1) q.2.1 Lib.objectInit)) = true := by decide +kernel
theorem ha_xl_ok : ha_xl.all (fun q => hs_is q.2.2.2 (.methodLink (hs_own q.1) q.2.1 Lib.Math.max.name)) = true := by decide +kernel
theorem ha_w_cl {own idx κ : Nat} (h : ha_any ha_cl own idx κ = true) : Cond.classLink (hs_own own) idx (hs_cR κ) ∈ hs_GW := by
  obtain ⟨w, hw⟩ := ha_any_mem h
  exact hs_is_in (List.all_eq_true.mp ha_cl_ok _ hw)
theorem ha_w_il {own idx y : Nat} (h : ha_any ha_il own idx y = true) : Cond.methodLink (hs_own own) idx (ha_nm y) ∈ hs_GW := by
  obtain ⟨w, hw⟩ := ha_any_mem h
  exact hs_is_in (List.all_eq_true.mp ha_il_ok _ hw)
theorem ha_w_ol {own idx : Nat} (h : ha_any ha_ol own idx 0 = true) : Cond.methodLink (hs_own own) idx Lib.objectInit ∈ hs_GW := by
  obtain ⟨w, hw⟩ := ha_any_mem h
  exact hs_is_in (List.all_eq_true.mp ha_ol_ok _ hw)
theorem ha_w_xl {own idx : Nat} (h : ha_any ha_xl own idx 0 = true) : Cond.methodLink (hs_own own) idx Lib.Math.max.name ∈ hs_GW := by
  obtain ⟨w, hw⟩ := ha_any_mem h
  exact hs_is_in (List.all_eq_true.mp ha_xl_ok _ hw)
theorem ha_w_int : Cond.arrayClass .int ∈ hs_GW := hs_is_in (i := 138) (by decide +kernel)
theorem ha_w_long : Cond.arrayClass .long ∈ hs_GW := hs_is_in (i := 155) (by decide +kernel)
theorem ha_w_bool : Cond.arrayClass .boolean ∈ hs_GW := hs_is_in (i := 1438) (by decide +kernel)
theorem ha_w_oi : Cond.instanceMethod Lib.objectInit ∈ hs_GW := hs_is_in (i := 116) (by decide +kernel)
theorem ha_w_oc : Cond.code Lib.objectInit ⟨#[0xb1]⟩ 1 none ∈ hs_GW := hs_is_in (i := 117) (by decide +kernel)
theorem ha_w_xs : Cond.static Lib.Math.max.name ∈ hs_GW := hs_is_in (i := 362) (by decide +kernel)
theorem ha_w_xi : Cond.initialized "java/lang/Math" ∈ hs_GW := hs_is_in (i := 95) (by decide +kernel)
theorem ha_w_xc : Cond.code Lib.Math.max.name Lib.Math.max.code 2 (some .int) ∈ hs_GW := hs_is_in (i := 363) (by decide +kernel)
/-- what is asked of a constructor's row -/
def ha_ckw (own pc : Nat) (r : hs_R) : Bool := match r.1 with
  | .new idx => Nat.beq r.2.1 3 && (match r.2.2.1 with
    | [κ] => Nat.blt κ 13 && ha_any ha_cl own idx κ
    | _ => false)
  | .anewarray idx => Nat.beq r.2.1 3 && ha_any ha_cl own idx 6
  | .newarray t => Nat.beq r.2.1 2 && (ha_aty t).isSome
  | .putfield idx => Nat.beq r.2.1 3 && (match r.2.2.1 with
    | [ci, f] => Nat.blt ci 13 && (Nat.blt f (hs_cN ci) && (hs_any hs_fl own idx ci f && ((match hs_nth (hs_fld ci) f with
      | some ty => ha_tyok ty (hs_cty ci f)
      | none => false) && (!(hs_cT ci f).2.2.2 || decide ((hs_cT ci f).1 = hs_own own)))))
    | _ => false)
  | .invokespecial idx => Nat.beq r.2.1 3 && (match r.2.2.1 with
    | [] => ha_any ha_ol own idx 0
    | [y, k] => Nat.blt y 13 && (ha_any ha_il own idx y && decide ((parseMethodDescriptor (ha_nm y).desc).map (fun d => d.parameters.length + 1) = some k))
    | _ => false)
  | .invokestatic idx => Nat.beq r.2.1 3 && ha_any ha_xl own idx 0
  | .return_ => Nat.beq r.2.1 1
  | _ => ha_okr own pc r
def ha_ckl (own : Nat) (bytes : ByteArray) : Nat → List (Option hs_R) → Bool
  | _, [] => true
  | pc, none :: l => ha_ckl own bytes (pc + 1) l
  | pc, some r :: l => decide (decode bytes pc = .ok (r.1, r.2.1)) && (ha_ckw own pc r && ha_ckl own bytes (pc + 1) l)
def ha_ckk (own : Nat) (bytes : ByteArray) : Nat → hs_K → Bool
  | _, [] => true
  | pc, l :: k => Nat.ble l.length 16 && (ha_ckl own bytes pc l && ha_ckk own bytes (pc + 16) k)
theorem ha_ckl_at {own : Nat} {bytes : ByteArray} : ∀ (l : List (Option hs_R)) (pc i : Nat) (r : hs_R), ha_ckl own bytes pc l = true → hs_nth l i = some (some r) → decode bytes (pc + i) = .ok (r.1, r.2.1) ∧ ha_ckw own (pc + i) r = true
  | [], _, _, _, _, h => by cases h
  | none :: l, pc, 0, r, _, h => by cases h
  | none :: l, pc, i + 1, r, hc, h => by
    have := ha_ckl_at l (pc + 1) i r hc h
    rw [show pc + (i + 1) = pc + 1 + i by omega]
    exact this
  | some q :: l, pc, 0, r, hc, h => by
    cases h
    simp only [ha_ckl, Bool.and_eq_true, decide_eq_true_eq] at hc
    exact ⟨hc.1, hc.2.1⟩
  | some q :: l, pc, i + 1, r, hc, h => by
    simp only [ha_ckl, Bool.and_eq_true, decide_eq_true_eq] at hc
    have := ha_ckl_at l (pc + 1) i r hc.2.2 h
    rw [show pc + (i + 1) = pc + 1 + i by omega]
    exact this
theorem ha_ckk_at {own : Nat} {bytes : ByteArray} : ∀ (k : hs_K) (pc a : Nat) (l : List (Option hs_R)), ha_ckk own bytes pc k = true → hs_nth k a = some l → ha_ckl own bytes (pc + 16 * a) l = true
  | [], _, _, _, _, h => by cases h
  | l :: k, pc, 0, l', hc, h => by
    cases h
    simp only [ha_ckk, Bool.and_eq_true] at hc
    exact hc.2.1
  | l :: k, pc, a + 1, l', hc, h => by
    simp only [ha_ckk, Bool.and_eq_true] at hc
    have := ha_ckk_at k (pc + 16) a l' hc.2.2 h
    rw [show pc + 16 * (a + 1) = pc + 16 + 16 * a by omega]
    exact this
theorem ha_at_ok {own : Nat} {bytes : ByteArray} {code : hs_K} (hc : ha_ckk own bytes 0 code = true) {pc : Nat} {r : hs_R} (h : hs_at code pc = some r) : decode bytes pc = .ok (r.1, r.2.1) ∧ ha_ckw own pc r = true := by
  unfold hs_at at h
  cases h1 : hs_nth code (pc / 16) with
  | none => rw [h1] at h; cases h
  | some l =>
    rw [h1] at h
    dsimp only at h
    cases h2 : hs_nth l (pc % 16) with
    | none => rw [h2] at h; cases h
    | some o =>
      rw [h2] at h
      dsimp only at h
      subst h
      have := ha_ckl_at l _ _ r (ha_ckk_at code 0 _ l hc h1) h2
      rw [show 0 + 16 * (pc / 16) + pc % 16 = pc by omega] at this
      exact this
set_option maxRecDepth 100000 in
theorem ha_ck_0 : ha_ckk 0 (ha_by 0) 0 (ha_prog 0).1 = true := by decide +kernel
set_option maxRecDepth 100000 in
theorem ha_ck_1 : ha_ckk 1 (ha_by 1) 0 (ha_prog 1).1 = true := by decide +kernel
set_option maxRecDepth 100000 in
theorem ha_ck_2 : ha_ckk 2 (ha_by 2) 0 (ha_prog 2).1 = true := by decide +kernel
set_option maxRecDepth 100000 in
theorem ha_ck_3 : ha_ckk 3 (ha_by 3) 0 (ha_prog 3).1 = true := by decide +kernel
set_option maxRecDepth 100000 in
theorem ha_ck_4 : ha_ckk 4 (ha_by 4) 0 (ha_prog 4).1 = true := by decide +kernel
set_option maxRecDepth 100000 in
theorem ha_ck_5 : ha_ckk 5 (ha_by 5) 0 (ha_prog 5).1 = true := by decide +kernel
set_option maxRecDepth 100000 in
theorem ha_ck_6 : ha_ckk 6 (ha_by 6) 0 (ha_prog 6).1 = true := by decide +kernel
set_option maxRecDepth 100000 in
theorem ha_ck_7 : ha_ckk 7 (ha_by 7) 0 (ha_prog 7).1 = true := by decide +kernel
set_option maxRecDepth 100000 in
theorem ha_ck_8 : ha_ckk 8 (ha_by 8) 0 (ha_prog 8).1 = true := by decide +kernel
set_option maxRecDepth 100000 in
theorem ha_ck_9 : ha_ckk 9 (ha_by 9) 0 (ha_prog 9).1 = true := by decide +kernel
set_option maxRecDepth 100000 in
theorem ha_ck_10 : ha_ckk 10 (ha_by 10) 0 (ha_prog 10).1 = true := by decide +kernel
set_option maxRecDepth 100000 in
theorem ha_ck_11 : ha_ckk 11 (ha_by 11) 0 (ha_prog 11).1 = true := by decide +kernel
set_option maxRecDepth 100000 in
theorem ha_ck_12 : ha_ckk 12 (ha_by 12) 0 (ha_prog 12).1 = true := by decide +kernel
theorem ha_ck {y : Nat} (h : y < 13) : ha_ckk y (ha_by y) 0 (ha_prog y).1 = true := by
  rcases (show y = 0 ∨ y = 1 ∨ y = 2 ∨ y = 3 ∨ y = 4 ∨ y = 5 ∨ y = 6 ∨ y = 7 ∨ y = 8 ∨ y = 9 ∨ y = 10 ∨ y = 11 ∨ y = 12 by omega) with e | e | e | e | e | e | e | e | e | e | e | e | e
  · rw [e]; exact ha_ck_0
  · rw [e]; exact ha_ck_1
  · rw [e]; exact ha_ck_2
  · rw [e]; exact ha_ck_3
  · rw [e]; exact ha_ck_4
  · rw [e]; exact ha_ck_5
  · rw [e]; exact ha_ck_6
  · rw [e]; exact ha_ck_7
  · rw [e]; exact ha_ck_8
  · rw [e]; exact ha_ck_9
  · rw [e]; exact ha_ck_10
  · rw [e]; exact ha_ck_11
  · rw [e]; exact ha_ck_12
