/-! ===== the whole walk: the machine's run is the kit's ===== -/
set_option maxHeartbeats 4000000 in
theorem hs_sstep {g : hs_G} {p : Program} {l : Launch} {e : Env} {R : Room} {s : State} {m : MethodId} {args : Array Value} {below : List Frame} {meth : Method} {c : Code} {cells slots own : Nat} {cc : ByteArray} {nL : Nat} {call : hs_C} {Q : State → Prop} (C : hs_Ctx g p l R s m args c cells slots own cc nL call) {pc : Nat} {r : hs_R} {L : hs_L} {st : List hs_V} {μ : hs_M} {pc' : Nat} {L' : hs_L} {st' : List hs_V} {μ' : hs_M} (hd : decode cc pc = .ok (r.1, r.2.1)) (hok : hs_okr own pc r = true) (ex : hs_nx call r pc L st μ = some (.inl (pc', L', st', μ'))) (hk : hs_WS g p l e R s m args below meth c cells slots nL Q pc' L' st' μ') : hs_WS g p l e R s m args below meth c cells slots nL Q pc L st μ := by
  obtain ⟨i, n, ops, mk⟩ := r
  cases i
  case iload => exact hs_s_iload C hd hok ex hk
  case iload_n => exact hs_s_iload_n C hd hok ex hk
  case lload => exact hs_s_lload C hd hok ex hk
  case lload_n => exact hs_s_lload_n C hd hok ex hk
  case aload => exact hs_s_aload C hd hok ex hk
  case aload_n => exact hs_s_aload_n C hd hok ex hk
  case istore => exact hs_s_istore C hd hok ex hk
  case istore_n => exact hs_s_istore_n C hd hok ex hk
  case lstore => exact hs_s_lstore C hd hok ex hk
  case lstore_n => exact hs_s_lstore_n C hd hok ex hk
  case astore => exact hs_s_astore C hd hok ex hk
  case astore_n => exact hs_s_astore_n C hd hok ex hk
  case iinc => exact hs_s_iinc C hd hok ex hk
  case iconst => exact hs_s_iconst C hd hok ex hk
  case bipush => exact hs_s_bipush C hd hok ex hk
  case sipush => exact hs_s_sipush C hd hok ex hk
  case lconst => exact hs_s_lconst C hd hok ex hk
  case iadd => exact hs_s_iadd C hd hok ex hk
  case isub => exact hs_s_isub C hd hok ex hk
  case imul => exact hs_s_imul C hd hok ex hk
  case iand => exact hs_s_iand C hd hok ex hk
  case ior => exact hs_s_ior C hd hok ex hk
  case ixor => exact hs_s_ixor C hd hok ex hk
  case ishl => exact hs_s_ishl C hd hok ex hk
  case ishr => exact hs_s_ishr C hd hok ex hk
  case iushr => exact hs_s_iushr C hd hok ex hk
  case idiv => exact hs_s_idiv C hd hok ex hk
  case irem => exact hs_s_irem C hd hok ex hk
  case ldiv => exact hs_s_ldiv C hd hok ex hk
  case lrem => exact hs_s_lrem C hd hok ex hk
  case ineg => exact hs_s_ineg C hd hok ex hk
  case i2l => exact hs_s_i2l C hd hok ex hk
  case i2b => exact hs_s_i2b C hd hok ex hk
  case i2s => exact hs_s_i2s C hd hok ex hk
  case ladd => exact hs_s_ladd C hd hok ex hk
  case lmul => exact hs_s_lmul C hd hok ex hk
  case lcmp => exact hs_s_lcmp C hd hok ex hk
  case dup => exact hs_s_dup C hd hok ex hk
  case dup2 => exact hs_s_dup2 C hd hok ex hk
  case pop => exact hs_s_pop C hd hok ex hk
  case goto => exact hs_s_goto C hd hok ex hk
  case ldc => exact hs_s_ldc C hd hok ex hk
  case ldc_w => exact hs_s_ldc_w C hd hok ex hk
  case ldc2_w => exact hs_s_ldc2_w C hd hok ex hk
  case getfield => exact hs_s_getfield C hd hok ex hk
  case putfield => exact hs_s_putfield C hd hok ex hk
  case iaload => exact hs_s_iaload C hd hok ex hk
  case baload => exact hs_s_baload C hd hok ex hk
  case laload => exact hs_s_laload C hd hok ex hk
  case iastore => exact hs_s_iastore C hd hok ex hk
  case bastore => exact hs_s_bastore C hd hok ex hk
  case lastore => exact hs_s_lastore C hd hok ex hk
  case aaload => exact hs_s_aaload C hd hok ex hk
  case arraylength => exact hs_s_arraylength C hd hok ex hk
  case tableswitch => exact hs_s_tableswitch C hd hok ex hk
  case lookupswitch => exact hs_s_lookupswitch C hd hok ex hk
  case invokestatic => exact hs_s_invokestatic C hd hok ex hk
  case invokevirtual => exact hs_s_invokevirtual C hd hok ex hk
  case ifCond cd off => cases cd
                        · exact hs_s_ifCond_eq C hd hok ex hk
                        · exact hs_s_ifCond_ne C hd hok ex hk
                        · exact hs_s_ifCond_lt C hd hok ex hk
                        · exact hs_s_ifCond_ge C hd hok ex hk
                        · exact hs_s_ifCond_gt C hd hok ex hk
                        · exact hs_s_ifCond_le C hd hok ex hk
  case if_icmp cd off => cases cd
                         · exact hs_s_if_icmp_eq C hd hok ex hk
                         · exact hs_s_if_icmp_ne C hd hok ex hk
                         · exact hs_s_if_icmp_lt C hd hok ex hk
                         · exact hs_s_if_icmp_ge C hd hok ex hk
                         · exact hs_s_if_icmp_gt C hd hok ex hk
                         · exact hs_s_if_icmp_le C hd hok ex hk
  case new idx => unfold hs_nx hs_step at ex
                  dsimp only at ex
                  split at ex <;> cases ex
  all_goals cases ex
theorem hs_z_gI {ρ : Type} (r : Option (Option hs_V)) : hs_gI r (fun _ => (none : Option ρ)) = none := by
  rcases r with _ | _ | a | a | a <;> rfl
theorem hs_z_gL {ρ : Type} (r : Option (Option hs_V)) : hs_gL r (fun _ => (none : Option ρ)) = none := by
  rcases r with _ | _ | a | a | a <;> rfl
theorem hs_z_gR {ρ : Type} (r : Option (Option hs_V)) : hs_gR r (fun _ _ => (none : Option ρ)) = none := by
  rcases r with _ | _ | a | a | a <;> rfl
theorem hs_z_bI {ρ : Type} (r : Option (Option hs_V × hs_M)) : hs_bI r (fun _ _ => (none : Option ρ)) = none := by
  rcases r with _ | ⟨_ | a | a | a, μ⟩ <;> rfl
theorem hs_z_bL {ρ : Type} (r : Option (Option hs_V × hs_M)) : hs_bL r (fun _ _ => (none : Option ρ)) = none := by
  rcases r with _ | ⟨_ | a | a | a, μ⟩ <;> rfl
theorem hs_z_bV {ρ : Type} (r : Option (Option hs_V × hs_M)) : hs_bV r (fun _ => (none : Option ρ)) = none := by
  rcases r with _ | ⟨_ | a | a | a, μ⟩ <;> rfl
theorem hs_z_if {ρ : Type} (b : Bool) : hs_if b (none : Option ρ) = none := by cases b <;> rfl
theorem hs_z_go8 {ρ : Type} (st : List hs_V) : hs_go8 st (none : Option ρ) = none := by
  unfold hs_go8
  cases Nat.ble (hs_cats st) 8 <;> rfl
theorem hs_z_rcv {ρ : Type} (as : List hs_V) (ci : Nat) : hs_rcv as ci (none : Option ρ) = none := by
  unfold hs_rcv
  split
  · exact hs_z_if _
  · rfl
theorem hs_z_set1 {ρ : Type} (v : hs_V) : ∀ (ls : hs_L) (i : Nat), hs_set1 ls i v (fun _ => (none : Option ρ)) = none
  | [], _ => rfl
  | _ :: _, 0 => rfl
  | a :: l, n + 1 => by
    have h := hs_z_set1 (ρ := ρ) v l n
    cases n <;> exact h
theorem hs_z_set2 {ρ : Type} (v : hs_V) : ∀ (ls : hs_L) (i : Nat), hs_set2 ls i v (fun _ => (none : Option ρ)) = none
  | [], _ => rfl
  | [_], _ => rfl
  | _ :: _ :: _, 0 => rfl
  | a :: b :: l, n + 1 => by
    have h := hs_z_set2 (ρ := ρ) v (b :: l) n
    cases n <;> exact h
theorem hs_z_pop {ρ : Type} : ∀ (n : Nat) (st as : List hs_V), hs_pop n st as (fun _ _ => (none : Option ρ)) = none
  | 0, _, _ => rfl
  | _ + 1, [], _ => rfl
  | n + 1, v :: st, as => by
    unfold hs_pop
    exact hs_z_pop n st (v :: as)
theorem hs_z_tsw {ρ : Type} (x : Int32) (pc : Nat) (dflt : Int) : ∀ (l : List Int) (v : Int), hs_tsw x pc dflt (fun _ => (none : Option ρ)) v l = none
  | [], _ => rfl
  | a :: l, v => by
    unfold hs_tsw
    rw [hs_z_tsw x pc dflt l (v + 1), ite_self]
theorem hs_z_lsw {ρ : Type} (x : Int32) (pc : Nat) (dflt : Int) : ∀ (l : List (Int × Int)), hs_lsw x pc dflt (fun _ => (none : Option ρ)) l = none
  | [] => rfl
  | a :: l => by
    unfold hs_lsw
    rw [hs_z_lsw x pc dflt l, ite_self]
theorem hs_z_inv {ρ : Type} (call : hs_C) (ops : List Nat) (pc : Nat) (ls : hs_L) (st : List hs_V) (μ : hs_M) : hs_inv call (fun _ _ _ _ => (none : Option ρ)) ops pc ls st μ = none := by
  unfold hs_inv
  split
  · simp only [hs_z_bV, hs_z_go8, hs_z_pop]
  · simp only [hs_z_bI, hs_z_go8, hs_z_pop]
  · simp only [hs_z_bL, hs_z_go8, hs_z_pop]
  · simp only [hs_z_bV, hs_z_go8, hs_z_rcv, hs_z_pop]
  · simp only [hs_z_bI, hs_z_go8, hs_z_rcv, hs_z_pop]
  · simp only [hs_z_bL, hs_z_go8, hs_z_rcv, hs_z_pop]
  · split
    · simp only [ite_self, hs_z_if]
    · rfl
  · rfl
theorem hs_z_txt {ρ : Type} (ops : List Nat) (pc : Nat) (ls : hs_L) (st : List hs_V) (μ : hs_M) : hs_txt (fun _ _ _ _ => (none : Option ρ)) ops pc ls st μ = none := by
  unfold hs_txt
  split
  · split <;> exact hs_z_if _
  · split
    · simp only [ite_self, hs_z_if]
    · exact hs_z_if _
  · rfl
set_option maxHeartbeats 4000000 in
theorem hs_stop {ρ : Type} (call : hs_C) (done : hs_T ρ) (r : hs_R) (pc : Nat) (ls : hs_L) (st : List hs_V) (μ : hs_M) : hs_step call (fun _ _ _ _ => none) done r pc ls st μ = none ∨ hs_step call (fun _ _ _ _ => none) done r pc ls st μ = done pc ls st μ := by
  obtain ⟨i, n, ops, mk⟩ := r
  cases i <;> simp only [hs_step, hs_z_gI, hs_z_gL, hs_z_gR, hs_z_set1, hs_z_set2, hs_z_inv, hs_z_txt, hs_z_tsw, hs_z_lsw, ite_self, hs_z_if, true_or, or_true] <;> (repeat' split) <;> simp only [true_or, or_true, hs_z_if, hs_z_txt, hs_z_inv]
theorem hs_nx_inr {call : hs_C} {r : hs_R} {pc : Nat} {ls : hs_L} {st : List hs_V} {μ : hs_M} {c : hs_Cf} (h : hs_nx call r pc ls st μ = some (.inr c)) : c = (pc, ls, st, μ) := by
  have h1 := hs_step_nx call (fun _ _ _ _ => (none : Option hs_Cf)) (fun pc ls st μ => some (pc, ls, st, μ)) r pc ls st μ
  rw [h] at h1
  rcases hs_stop call (fun pc ls st μ => some ((pc, ls, st, μ) : hs_Cf)) r pc ls st μ with e | e
  · rw [e] at h1; cases h1
  · rw [e] at h1
    exact (Option.some.inj h1).symm
set_option maxHeartbeats 4000000 in
theorem hs_stops {call : hs_C} {r : hs_R} {pc : Nat} {ls : hs_L} {st : List hs_V} {μ : hs_M} {c : hs_Cf} (h : hs_nx call r pc ls st μ = some (.inr c)) : r.1 = .ireturn ∨ r.1 = .lreturn ∨ r.1 = .return_ ∨ (∃ i, r.1 = .new i ∧ st = []) ∨ (∃ off, r.1 = .goto off ∧ r.2.2.1 ≠ []) ∨ ∃ i, r.1 = .invokestatic i ∧ r.2.2.1 = [] := by
  have h3 := hs_step_nx call (fun _ _ _ _ => (none : Option hs_Cf)) (fun pc ls st μ => some ((pc, ls, st, μ) : hs_Cf)) r pc ls st μ
  rw [h] at h3
  obtain ⟨i, n, ops, mk⟩ := r
  cases i
  case ireturn => exact Or.inl rfl
  case lreturn => exact Or.inr (Or.inl rfl)
  case return_ => exact Or.inr (Or.inr (Or.inl rfl))
  case new i =>
    rcases st with _ | ⟨x, st⟩
    · exact Or.inr (Or.inr (Or.inr (Or.inl ⟨i, rfl, rfl⟩)))
    · cases h3
  case goto off =>
    rcases ops with _ | ⟨x, ops⟩
    · cases h3
    · exact Or.inr (Or.inr (Or.inr (Or.inr (Or.inl ⟨off, rfl, by intro z; cases z⟩))))
  case invokestatic i =>
    rcases ops with _ | ⟨x, ops⟩
    · exact Or.inr (Or.inr (Or.inr (Or.inr (Or.inr ⟨i, rfl, rfl⟩))))
    · rw [show hs_step call (fun _ _ _ _ => (none : Option hs_Cf)) (fun pc ls st μ => some (pc, ls, st, μ)) (.invokestatic i, n, x :: ops, mk) pc ls st μ = hs_inv call (fun _ _ _ _ => (none : Option hs_Cf)) (x :: ops) pc ls st μ from rfl, hs_z_inv] at h3
      cases h3
  all_goals
    exfalso
    revert h3
    simp only [hs_step, hs_z_gI, hs_z_gL, hs_z_gR, hs_z_set1, hs_z_set2, hs_z_inv, hs_z_txt, hs_z_tsw, hs_z_lsw, ite_self, hs_z_if]
    (repeat' split) <;> (try simp only [hs_z_if]) <;> (intro h3; cases h3)
theorem hs_rel.mask {g : hs_G} {nL : Nat} {s : State} {L : hs_L} {st : List hs_V} {μ : hs_M} {ls : Array Slot} {H : Heap} {locs : List Loc} (h : hs_rel g nL s L st μ ls H locs) (mk : List Bool) : hs_rel g nL s (hs_mask mk L) st μ ls H locs := by
  refine ⟨lv_less h.1 ?_, (hs_mask_length mk L).trans h.2.1, fun k v hv => h.2.2.1 k v (hs_mask_nth mk L k v hv), h.2.2.2⟩
  intro q hq
  obtain ⟨k, v, hk, e⟩ := (hs_el_mem _ 0 q).mp hq
  exact (hs_el_mem _ 0 q).mpr ⟨k, v, hs_mask_nth mk L k v hk, e⟩
theorem hs_core {g : hs_G} {p : Program} {l : Launch} {e : Env} {R : Room} {s : State} {m : MethodId} {args : Array Value} {below : List Frame} {meth : Method} {c : Code} {cells slots own : Nat} {cc : ByteArray} {nL : Nat} {call : hs_C} {Q : State → Prop} (C : hs_Ctx g p l R s m args c cells slots own cc nL call) {code : hs_K} (hck : hs_ckk own cc 0 code = true) {ρ : Type} {done : hs_T ρ} {r : ρ} (hdone : ∀ (pc : Nat) (L : hs_L) (st : List hs_V) (μ : hs_M) (row : hs_R), hs_at code pc = some row → hs_nx call row pc L st μ = some (.inr (pc, L, st, μ)) → done pc L st μ = some r → hs_WS g p l e R s m args below meth c cells slots nL Q pc L st μ) : ∀ (n pc : Nat) (L : hs_L) (st : List hs_V) (μ : hs_M), hs_run code call done n pc L st μ = some r → hs_WS g p l e R s m args below meth c cells slots nL Q pc L st μ
  | 0, pc, L, st, μ, h => by cases h
  | n + 1, pc, L, st, μ, h => by
    rw [hs_run_s] at h
    unfold hs_one at h
    cases ha : hs_at code pc with
    | none => rw [ha] at h; cases h
    | some row =>
      rw [ha] at h
      dsimp only at h
      rw [hs_step_nx] at h
      obtain ⟨hd, hok⟩ := hs_at_ok hck ha
      cases hx : hs_nx call row pc (hs_mask row.2.2.2 L) st μ with
      | none => rw [hx] at h; cases h
      | some x =>
        rw [hx] at h
        have key : hs_WS g p l e R s m args below meth c cells slots nL Q pc (hs_mask row.2.2.2 L) st μ := by
          rcases x with ⟨pc', L', st', μ'⟩ | x
          · exact hs_sstep C hd hok hx (hs_core C hck hdone n pc' L' st' μ' h)
          · have e := hs_nx_inr hx
            subst e
            exact hdone pc _ st μ row ha hx h
        intro ls H locs hr
        exact key ls H locs (hr.mask _)
/-- a method's contract out of its body's walk, its class of any name -/
theorem hs_ofW {l : Launch} {y : MethodName} {ws ws' : List Cond} {rm : Room} {Pc : Array Value → State → Prop} {Qc : Array Value → State → Outcome → State → Prop} {mc ms : Nat} {free : Addr → Prop} {cc : ByteArray} {maxL : Nat} {ret : Option FieldType}
    (hy : plainFor y = true) (hw : ws = Cond.code y cc maxL ret :: ws')
    (body : ∀ p e s m args below meth c s₁, BodyLoose p l y (headSpec ws rm) cc maxL ret e s m args below meth c s₁ → c.maxLocals = maxL → Pc args s →
      W p l e (headSpec ws rm).room s m args below meth c s.heap [] 0 0 (MQ below Qc args s mc ms free) (entryFrame m args maxL)) : Met l y ws rm Pc Qc mc ms free := by
  refine MetFree.of_bodySF (code := cc) (maxLocals := maxL) (ret := ret) hy ?_ ?_
  · intro args s m h hn
    obtain ⟨meth, c, h1, h2, h3, h4, h5, h6, -, -⟩ := Cond.code_spec hn (atoms_spec (ws := ws) h _ (by rw [hw]; exact List.mem_cons_self))
    exact ⟨meth, c, h1, h2, h3, h4, h5, h6⟩
  · intro p e s m args below meth c s₁ B hml hP _
    have hh0 : s₁.heap = s.heap := by rw [B.state]; rfl
    obtain ⟨t, a1, o, b1, b2, b3⟩ := body p e s m args below meth c s₁ B hml hP s₁ hh0 (Stand.of_body B)
    exact ⟨t, o, a1, b1, b2, ⟨b3.1, b3.2⟩⟩
theorem hs_ent_len : ∀ (as : List hs_V) (n : Nat), hs_cats as ≤ n → (hs_ent as n).length = n
  | [], n, _ => by simp [hs_ent]
  | .inl x :: as, n, h => by
    simp only [hs_cats, hs_cat] at h
    have := hs_ent_len as (n - 1) (by omega)
    simp only [hs_ent, List.length_cons, this]
    omega
  | .inr (.inl x) :: as, n, h => by
    simp only [hs_cats, hs_cat] at h
    have := hs_ent_len as (n - 2) (by omega)
    simp only [hs_ent, List.length_cons, this]
    omega
  | .inr (.inr x) :: as, n, h => by
    simp only [hs_cats, hs_cat] at h
    have := hs_ent_len as (n - 1) (by omega)
    simp only [hs_ent, List.length_cons, this]
    omega
theorem hs_rep_none : ∀ (n k : Nat) (v : hs_V), hs_nth (List.replicate n (none : Option hs_V)) k ≠ some (some v)
  | 0, _, _, h => by cases h
  | n + 1, 0, _, h => by cases h
  | n + 1, k + 1, v, h => hs_rep_none n k v h
theorem hs_el_rep (g : hs_G) : ∀ (n i : Nat), hs_el g i (List.replicate n none) = []
  | 0, _ => rfl
  | n + 1, i => hs_el_rep g n (i + 1)
theorem hs_ent_el (g : hs_G) : ∀ (as : List hs_V) (i n : Nat) (q : Nat × Value), q ∈ hs_el g i (hs_ent as n) → q ∈ lv_args i (as.map (hs_enc g))
  | [], i, n, q, h => by
    rw [show hs_ent [] n = List.replicate n none from rfl, hs_el_rep] at h
    cases h
  | .inl x :: as, i, n, q, h => by
    rcases List.mem_cons.mp (show q ∈ (i, hs_enc g (.inl x)) :: hs_el g (i + 1) (hs_ent as (n - 1)) from h) with e | h
    · rw [e]; exact List.mem_cons_self
    · exact List.mem_cons_of_mem _ (hs_ent_el g as (i + 1) (n - 1) q h)
  | .inr (.inl x) :: as, i, n, q, h => by
    rcases List.mem_cons.mp (show q ∈ (i, hs_enc g (.inr (.inl x))) :: hs_el g (i + 2) (hs_ent as (n - 2)) from h) with e | h
    · rw [e]; exact List.mem_cons_self
    · exact List.mem_cons_of_mem _ (hs_ent_el g as (i + 2) (n - 2) q h)
  | .inr (.inr x) :: as, i, n, q, h => by
    rcases List.mem_cons.mp (show q ∈ (i, hs_enc g (.inr (.inr x))) :: hs_el g (i + 1) (hs_ent as (n - 1)) from h) with e | h
    · rw [e]; exact List.mem_cons_self
    · exact List.mem_cons_of_mem _ (hs_ent_el g as (i + 1) (n - 1) q h)
theorem hs_ent_mem : ∀ (as : List hs_V) (n k : Nat) (v : hs_V), hs_nth (hs_ent as n) k = some (some v) → v ∈ as
  | [], n, k, v, h => absurd h (hs_rep_none n k v)
  | .inl x :: as, n, 0, v, h => by cases h; exact List.mem_cons_self
  | .inl x :: as, n, k + 1, v, h => List.mem_cons_of_mem _ (hs_ent_mem as (n - 1) k v h)
  | .inr (.inl x) :: as, n, 0, v, h => by cases h; exact List.mem_cons_self
  | .inr (.inl x) :: as, n, 1, v, h => by cases h
  | .inr (.inl x) :: as, n, k + 2, v, h => List.mem_cons_of_mem _ (hs_ent_mem as (n - 2) k v h)
  | .inr (.inr x) :: as, n, 0, v, h => by cases h; exact List.mem_cons_self
  | .inr (.inr x) :: as, n, k + 1, v, h => List.mem_cons_of_mem _ (hs_ent_mem as (n - 1) k v h)
theorem hs_sl_len (g : hs_G) : ∀ (as : List hs_V), (lg_sl (as.map (hs_enc g))).length = hs_cats as
  | [] => rfl
  | .inl x :: as => by
    have := hs_sl_len g as
    simp only [lg_sl, List.map_cons, List.flatMap_cons, List.length_append] at this ⊢
    rw [this]
    rfl
  | .inr (.inl x) :: as => by
    have := hs_sl_len g as
    simp only [lg_sl, List.map_cons, List.flatMap_cons, List.length_append] at this ⊢
    rw [this]
    rfl
  | .inr (.inr x) :: as => by
    have := hs_sl_len g as
    simp only [lg_sl, List.map_cons, List.flatMap_cons, List.length_append] at this ⊢
    rw [this]
    rfl
theorem hs_ckr_at {y pc : Nat} {r : hs_R} (hc : hs_ckrs y = true) (h : hs_at (hs_prog y).1 pc = some r) : hs_ckr (hs_prog y).2.2 r = true := by
  unfold hs_ckrs at hc
  rw [Bool.and_eq_true] at hc
  unfold hs_at at h
  cases h1 : hs_nth (hs_prog y).1 (pc / 16) with
  | none => rw [h1] at h; cases h
  | some l =>
    rw [h1] at h
    dsimp only at h
    cases h2 : hs_nth l (pc % 16) with
    | none => rw [h2] at h; cases h
    | some o =>
      rw [h2] at h
      dsimp only at h
      subst h
      exact List.all_eq_true.mp (List.all_eq_true.mp hc.1 l (hs_nth_mem _ _ _ h1)) _ (hs_nth_mem _ _ _ h2)
def hs_rm (d : Nat) : Room := { frames := d + 4, cells := 0, slots := 0, locals := 48 * d + 200 }
set_option maxHeartbeats 4000000 in
/-- ALL METHODS, by the depth of their calls -/
theorem hs_sound (g : hs_G) (l : Launch) (htx : hs_txok g l (hs_rm 0)) (hckp : ∀ y, y < 267 → hs_ckp y = true) : ∀ d, hs_callok g l (hs_rm d) (hs_call d)
  | 0 => by
    intro y as μ r μ' hy hc
    cases hc
  | d + 1 => by
    have ih := hs_sound g l htx hckp d
    intro y as μ r μ' hy hc hr0 hoks
    rw [hs_call_s] at hc
    obtain ⟨hcat, hc⟩ := hs_if_spec hc
    have hcat := Nat.le_of_ble_eq_true hcat
    obtain ⟨n, hn⟩ := hs_lim_ex hc
    have hm := hs_meth hy
    have hrs := List.all_eq_true.mp hs_ckrs_all y (List.mem_range.mpr hy)
    have hret := hrs
    unfold hs_ckrs at hret
    rw [Bool.and_eq_true, decide_eq_true_eq] at hret
    replace hret := hret.2
    refine hs_ofW (cc := (hs_nm y).2.1) (maxL := (hs_nm y).2.2.1) (ret := (hs_nm y).2.2.2) hm.2.2.2.2.2.1 rfl ?_
    intro p e s m args below meth c s₁ B hml hv
    obtain ⟨rfl, hSf, hWd⟩ := hv
    have hexec := B.exec
    have hb := B.bytes
    have hrt := B.returns
    have hts0 := atoms_spec (ws := hs_wsl y) B.pre
    have hts : ∀ w ∈ hs_GW, w.before (as.map (hs_enc g)).toArray s = true := fun w hw => hts0 w (List.mem_cons_of_mem _ hw)
    have hown : s.vm.findClass (hs_own (hs_mw y).1) = some m.cls := by
      rw [← hm.2.1]
      exact findClass_of_methodNamed B.named
    have hlocks := B.notSynchronized
    rw [← hm.2.2.2.2.2.2.2.1] at hcat hn
    have C : hs_Ctx g p l (hs_rm (d + 1)) s m (as.map (hs_enc g)).toArray c 0 0 (hs_mw y).1 (hs_nm y).2.1 (hs_nm y).2.2.1 (hs_call d) := by
      refine ⟨hexec, hb, hml, hown, hts, hSf, ⟨Nat.le_refl _, Nat.le_refl _⟩, ⟨by show 1 ≤ d + 1 + 4; omega, by show 48 ≤ 48 * (d + 1) + 200; omega, hs_rm 0, rfl, rfl, by show 0 + 4 + 1 ≤ d + 1 + 4; omega, by show 48 + (48 * 0 + 200) ≤ 48 * (d + 1) + 200; omega, htx⟩, hs_rm d, rfl, rfl, by show d + 4 + 1 ≤ d + 1 + 4; omega, by show 48 + (48 * d + 200) ≤ 48 * (d + 1) + 200; omega, ih⟩
    have hl := lv_entry (as.map (hs_enc g)) (n := (hs_nm y).2.2.1) (by rw [hs_sl_len]; exact hcat)
    rw [lg_entry_eq]
    generalize (lg_sl (as.map (hs_enc g)) ++ List.replicate ((hs_nm y).2.2.1 - (lg_sl (as.map (hs_enc g))).length) Slot.unset).toArray = ls at hl ⊢
    have hrel : hs_rel g (hs_nm y).2.2.1 s (hs_ent as (hs_nm y).2.2.1) [] μ ls s.heap [] := ⟨lv_less hl (hs_ent_el g as 0 _), hs_ent_len as _ hcat, fun k v hv => hoks v (hs_ent_mem as _ k v hv), (fun v hv => by cases hv), hWd, va_S.rf⟩
    refine hs_core (Q := MQ below (hs_Qc g r μ') (as.map (hs_enc g)).toArray s 0 0 (hs_gP g)) C (hckp y hy) ?_ n 0 _ _ _ hn ls s.heap [] hrel
    intro pc L st μ1 row hat hst hdn ls H locs hr
    obtain ⟨hdec, hokr⟩ := hs_at_ok (hckp y hy) hat
    have hck := hs_ckr_at hrs hat
    have hq : ∀ (v : Option hs_V), r = v → μ' = μ1 → ∀ t : State, t.heap = H → s.WarmedH t.vm → hs_Qc g r μ' (as.map (hs_enc g)).toArray s (.returned (v.map (hs_enc g))) t := by
      intro v e1 e2 t ht _
      subst e1; subst e2
      exact ⟨rfl, by rw [ht]; exact hr.2.2.2.2.1, va_S.F hr.2.2.2.2.2 ht⟩
    have hf : ∀ q ∈ locs, hs_gP g q.base := hr.2.2.2.2.2.2.2
    obtain ⟨i, nn, ops, mk⟩ := row
    cases i
    case ireturn =>
      have h1 : nn = 1 := by simpa [hs_okr] using hokr
      subst h1
      have hk : (hs_prog y).2.2 = 1 ∨ (hs_prog y).2.2 = 3 := by
        simp only [hs_ckr, Bool.or_eq_true] at hck
        rcases hck with h | h
        · exact Or.inl (Nat.eq_of_beq_eq_true h)
        · exact Or.inr (Nat.eq_of_beq_eq_true h)
      rcases hk with hk | hk
      · rw [hk] at hdn hret
        rcases st with _ | ⟨x | x | x, _ | ⟨z, st⟩⟩
        · cases hdn
          have := hr0 rfl
          omega
        · cases hdn
          exact W.iret hexec hb (hrt.trans hret.1) (hq _ rfl rfl) hf hdec hlocks
        all_goals cases hdn
      · rw [hk] at hdn hret
        rcases st with _ | ⟨x | x | x, _ | ⟨z, st⟩⟩
        · cases hdn
          have := hr0 rfl
          omega
        · have hdn : (if x &&& 1 = x then some (some (vI x), μ1) else none) = some (r, μ') := hdn
          by_cases hx : x &&& 1 = x
          · rw [if_pos hx] at hdn
            cases hdn
            exact W.zret hexec hb (hrt.trans hret.1) (by show Value.int (x &&& 1) = _; rw [hx]) (hq _ rfl rfl) hf hdec hlocks
          · rw [if_neg hx] at hdn
            cases hdn
        all_goals cases hdn
    case lreturn =>
      have h1 : nn = 1 := by simpa [hs_okr] using hokr
      subst h1
      have hk : (hs_prog y).2.2 = 2 := Nat.eq_of_beq_eq_true hck
      rw [hk] at hdn hret
      rcases st with _ | ⟨x | x | x, _ | ⟨z, st⟩⟩
      · cases hdn
        have := hr0 rfl
        omega
      · cases hdn
      · cases hdn
      · cases hdn
        exact W.lret hexec hb (hrt.trans hret.1) (hq _ rfl rfl) hf hdec hlocks
      all_goals cases hdn
    case return_ =>
      have h1 : nn = 1 := by simpa [hs_okr] using hokr
      subst h1
      have hk : (hs_prog y).2.2 = 0 := Nat.eq_of_beq_eq_true hck
      rw [hk] at hdn hret
      rcases st with _ | ⟨x | x | x, _ | ⟨z, st⟩⟩
      · cases hdn
        exact W.vret hexec hb (hrt.trans hret.1) (hq none rfl rfl) hf hdec hlocks
      all_goals cases hdn
    case new idx =>
      rcases st with _ | ⟨x, st⟩
      · have hk : ¬ (hs_prog y).2.2 = 0 := by
          intro z
          simp only [hs_ckr, z] at hck
          cases hck
        have : (hs_fin (hs_prog y).2.2 pc L [] μ1) = some (none, μ1) := by
          unfold hs_fin
          generalize (hs_prog y).2.2 = k
          rcases k with _ | _ | _ | _ | k <;> rfl
        rw [this] at hdn
        cases hdn
        exact absurd (hr0 rfl) hk
      · cases hst
    case goto off =>
      have : ops = [] := by simpa [hs_ckr] using hck
      subst this
      cases hst
    case invokestatic idx =>
      exfalso
      rcases ops with _ | ⟨a, ops⟩
      · simp [hs_ckr] at hck
      · rcases hs_stops hst with h | h | h | ⟨_, h, -⟩ | ⟨_, h, -⟩ | ⟨_, -, h⟩ <;> cases h
    all_goals
      exfalso
      rcases hs_stops hst with h | h | h | ⟨_, h, -⟩ | ⟨_, h, -⟩ | ⟨_, h, -⟩ <;> cases h
