/-! ===== constructors: their walk, their contracts ===== -/
def ha_rm (d c s : Nat) : Room := { frames := d + 4, cells := c, slots := s, locals := 48 * d + 200 }
def ha_met (D : va_G) (cA : Nat → ClassId) (A : Nat → Prop) (l : Launch) (d : Nat) (call : ha_C) : Prop := ∀ (y : Nat) (h : ha_H) (as : List ha_V) (h' : ha_H) (ad : List Nat) (ws : va_W) (xs : List Value), y < 13 → call y as h = some h' → ha_more h h' = true → ha_all2 (ha_vr ad) as xs → ws.map Prod.fst = ad → ha_all2 (fun (x : ha_E) (q : Nat × va_E) => ha_er cA ad x q.2) h ws → va_D A ws → ha_cost h ≤ 4000 * h.length → Met l (ha_nm y) (Cond.code (ha_nm y) (ha_by y) (ha_prog y).2 none :: hs_GW) (ha_rm d (h'.length - h.length) (ha_cost h' - ha_cost h)) (ha_Pc D cA A xs ws) (ha_Qc D cA A ad h') (h'.length - h.length) (ha_cost h' - ha_cost h) A
set_option maxHeartbeats 4000000 in
theorem ha_sstep {D : va_G} {cA : Nat → ClassId} {A : Nat → Prop} {p : Program} {l : Launch} {e : Env} {R : Room} {s : State} {m : MethodId} {args : Array Value} {below : List Frame} {meth : Method} {c : Code} {own : Nat} {cc : ByteArray} {nL c0 s0 : Nat} {aP : List Nat} {Q : State → Prop} (C : ha_Ctx D cA A p R s m args c own cc nL) (hin2 : meth.name = "<init>") {d : Nat} (hRf : d + 5 ≤ R.frames) (hRl : 48 * d + 248 ≤ R.locals) {ρ : Type} {call : ha_C} (hM : ha_met D cA A l d call) {k done : ha_T ρ} {res : ρ} {pc : Nat} {r : hs_R} {L : ha_L} {st : List ha_V} {h : ha_H} (hm : ∀ pc' L' st' h', k pc' L' st' h' = some res → h'.length ≤ R.cells + c0 ∧ ha_cost h' ≤ R.slots + s0) (hd : decode cc pc = .ok (r.1, r.2.1)) (hok : ha_ckw own pc r = true) (ex : ha_step call k done r pc L st h = some res) (hk : ∀ pc' L' st' h', k pc' L' st' h' = some res → ha_WS D cA A p l e R s m args below meth c nL c0 s0 aP Q pc' L' st' h') (hdn : r.1 = .return_ → done pc L st h = some res → ha_WS D cA A p l e R s m args below meth c nL c0 s0 aP Q pc L st h) : ha_WS D cA A p l e R s m args below meth c nL c0 s0 aP Q pc L st h := by
  have hts := C.2.2.2.2.1
  obtain ⟨i, n, ops, mk⟩ := r
  cases i
  case iload => exact ha_s_iload C hd hok ex hk
  case iload_n => exact ha_s_iload_n C hd hok ex hk
  case aload => exact ha_s_aload C hd hok ex hk
  case aload_n => exact ha_s_aload_n C hd hok ex hk
  case istore => exact ha_s_istore C hd hok ex hk
  case istore_n => exact ha_s_istore_n C hd hok ex hk
  case iinc => exact ha_s_iinc C hd hok ex hk
  case iconst => exact ha_s_iconst C hd hok ex hk
  case bipush => exact ha_s_bipush C hd hok ex hk
  case sipush => exact ha_s_sipush C hd hok ex hk
  case dup => exact ha_s_dup C hd hok ex hk
  case goto => exact ha_s_goto C hd hok ex hk
  case getfield => exact ha_s_getfield C hd hok ex hk
  case iastore => exact ha_s_iastore C hd hok ex hk
  case aastore => exact ha_s_aastore C hd hok ex hk
  case return_ => exact hdn rfl ex
  case if_icmp cd off =>
    cases cd
    case ge => exact ha_s_if_icmp_ge C hd hok ex hk
    case gt => exact ha_s_if_icmp_gt C hd hok ex hk
    all_goals (unfold ha_step at ex; dsimp only at ex; split at ex <;> cases ex)
  case newarray t =>
    have hok : (Nat.beq n 2 && (ha_aty t).isSome) = true := hok
    rw [Bool.and_eq_true] at hok
    cases t
    case int => exact ha_s_newarray_int C (hts _ ha_w_int) hm hd hok.1 ex hk
    case long => exact ha_s_newarray_long C (hts _ ha_w_long) hm hd hok.1 ex hk
    case boolean => exact ha_s_newarray_boolean C (hts _ ha_w_bool) hm hd hok.1 ex hk
    all_goals exact absurd hok.2 (by decide)
  case anewarray idx =>
    have hok : (Nat.beq n 3 && ha_any ha_cl own idx 6) = true := hok
    rw [Bool.and_eq_true] at hok
    have h3 : n = 3 := Nat.eq_of_beq_eq_true hok.1
    subst h3
    exact ha_s_anewarray C (hts _ (ha_w_cl hok.2)) hm hd ex hk
  case new idx =>
    rcases ops with _ | ⟨κ, _ | ⟨b, t⟩⟩
    · have hok : (Nat.beq n 3 && false) = true := hok
      rw [Bool.and_false] at hok
      cases hok
    · have hok : (Nat.beq n 3 && (Nat.blt κ 13 && ha_any ha_cl own idx κ)) = true := hok
      rw [Bool.and_eq_true, Bool.and_eq_true] at hok
      have h3 : n = 3 := Nat.eq_of_beq_eq_true hok.1
      subst h3
      have h13 : κ < 13 := Nat.le_of_ble_eq_true hok.2.1
      have q := ha_ckm_at h13
      exact ha_s_new C h13 (hts _ (ha_w_cl hok.2.2)) (hts _ q.2.2.2.1) (hts _ (by rw [← q.2.2.2.2.2.2.2.2.2.1]; exact q.2.2.1)) hm hd ex hk
    · have hok : (Nat.beq n 3 && false) = true := hok
      rw [Bool.and_false] at hok
      cases hok
  case putfield idx =>
    rcases ops with _ | ⟨ci, _ | ⟨f, _ | ⟨b, t⟩⟩⟩
    · have hok : (Nat.beq n 3 && false) = true := hok
      rw [Bool.and_false] at hok
      cases hok
    · have hok : (Nat.beq n 3 && false) = true := hok
      rw [Bool.and_false] at hok
      cases hok
    · have hok : (Nat.beq n 3 && (Nat.blt ci 13 && (Nat.blt f (hs_cN ci) && (hs_any hs_fl own idx ci f && ((match hs_nth (hs_fld ci) f with
        | some ty => ha_tyok ty (hs_cty ci f)
        | none => false) && (!(hs_cT ci f).2.2.2 || decide ((hs_cT ci f).1 = hs_own own))))))) = true := hok
      simp only [Bool.and_eq_true] at hok
      obtain ⟨a1, a2, a3, a4, a5, a6⟩ := hok
      have h3 : n = 3 := Nat.eq_of_beq_eq_true a1
      subst h3
      cases hx : hs_nth (hs_fld ci) f with
      | none => rw [hx] at a5; cases a5
      | some ty =>
        rw [hx] at a5
        refine ha_s_putfield C hin2 (Nat.le_of_ble_eq_true a2) (Nat.le_of_ble_eq_true a3) a4 hx a5 (fun z => ?_) hd ex hk
        rw [z] at a6
        exact of_decide_eq_true a6
    · have hok : (Nat.beq n 3 && false) = true := hok
      rw [Bool.and_false] at hok
      cases hok
  case invokestatic idx =>
    have hok : (Nat.beq n 3 && ha_any ha_xl own idx 0) = true := hok
    rw [Bool.and_eq_true] at hok
    have h3 : n = 3 := Nat.eq_of_beq_eq_true hok.1
    subst h3
    exact ha_s_max C (hts _ (ha_w_xl hok.2)) (hts _ ha_w_xs) (hts _ ha_w_xi) (hts _ ha_w_xc) hm (by omega) (by omega) hd ex hk
  case invokespecial idx =>
    rcases ops with _ | ⟨y, _ | ⟨n', _ | ⟨b, t⟩⟩⟩
    · have hok : (Nat.beq n 3 && ha_any ha_ol own idx 0) = true := hok
      rw [Bool.and_eq_true] at hok
      have h3 : n = 3 := Nat.eq_of_beq_eq_true hok.1
      subst h3
      exact ha_s_objInit C (hts _ (ha_w_ol hok.2)) (hts _ ha_w_oi) (hts _ ha_w_oc) (by omega) (by omega) hd ex hk
    · have hok : (Nat.beq n 3 && false) = true := hok
      rw [Bool.and_false] at hok
      cases hok
    · have hok : (Nat.beq n 3 && (Nat.blt y 13 && (ha_any ha_il own idx y && decide ((parseMethodDescriptor (ha_nm y).desc).map (fun d => d.parameters.length + 1) = some n')))) = true := hok
      simp only [Bool.and_eq_true, decide_eq_true_eq] at hok
      obtain ⟨a1, a2, a3, a4⟩ := hok
      have h3 : n = 3 := Nat.eq_of_beq_eq_true a1
      subst h3
      have h13 : y < 13 := Nat.le_of_ble_eq_true a2
      have q := ha_ckm_at h13
      cases hp : parseMethodDescriptor (ha_nm y).desc with
      | none => rw [hp] at a4; cases a4
      | some dd =>
        rw [hp] at a4
        have a4 : dd.parameters.length + 1 = n' := Option.some.inj a4
        subst a4
        refine ha_s_ctor C (nm := ha_nm y) (bytes := ha_by y) (maxL := (ha_prog y).2) (fun as h' ad ws xs e1 e2 e3 e4 e5 e6 e7 => ⟨ha_rm d (h'.length - h.length) (ha_cost h' - ha_cost h), rfl, rfl, by show d + 4 + 1 ≤ R.frames; omega, by show 8 + ((ha_prog y).2 + 11) + (48 * d + 200) ≤ R.locals; have := q.2.2.2.2.2.2.2.2.2.2; omega, hM y h as h' ad ws xs h13 e1 e2 e3 e4 e5 e6 e7⟩) (hs_goodC q.1) (hts _ q.2.2.1) (hts _ (ha_w_il a3)) (hts _ q.2.1) q.2.2.2.2.2.2.2.1 ⟨q.2.2.2.2.2.1, q.2.2.2.2.2.2.1, by rw [hp]; rfl⟩ hm hd ex hk
    · have hok : (Nat.beq n 3 && false) = true := hok
      rw [Bool.and_false] at hok
      cases hok
  all_goals cases ex
theorem ha_core {D : va_G} {cA : Nat → ClassId} {A : Nat → Prop} {p : Program} {l : Launch} {e : Env} {R : Room} {s : State} {m : MethodId} {args : Array Value} {below : List Frame} {meth : Method} {c : Code} {own : Nat} {cc : ByteArray} {nL c0 s0 : Nat} {aP : List Nat} {Q : State → Prop} (C : ha_Ctx D cA A p R s m args c own cc nL) (hin2 : meth.name = "<init>") {d : Nat} (hRf : d + 5 ≤ R.frames) (hRl : 48 * d + 248 ≤ R.locals) {call : ha_C} (hM : ha_met D cA A l d call) {code : hs_K} (hck : ha_ckk own cc 0 code = true) {hF : ha_H} (hRc : hF.length ≤ R.cells + c0) (hRs : ha_cost hF ≤ R.slots + s0) (hdn : ∀ (pc : Nat) (L : ha_L), decode cc pc = .ok (.return_, 1) → ha_WS D cA A p l e R s m args below meth c nL c0 s0 aP Q pc L [] hF) : ∀ (n pc : Nat) (L : ha_L) (st : List ha_V) (h : ha_H), ha_run code call ha_fin n pc L st h = some hF → ha_WS D cA A p l e R s m args below meth c nL c0 s0 aP Q pc L st h
  | 0, _, _, _, _, e => by cases e
  | n + 1, pc, L, st, h, e => by
    have e : ha_one code call (ha_run code call ha_fin n) ha_fin pc L st h = some hF := e
    unfold ha_one at e
    split at e
    · rename_i r hat
      obtain ⟨hdec, hokr⟩ := ha_at_ok hck hat
      refine ha_sstep C hin2 hRf hRl hM (fun pc' L' st' h' hh => ?_) hdec hokr e (fun pc' L' st' h' hh => ha_core C hin2 hRf hRl hM hck hRc hRs hdn n pc' L' st' h' hh) (fun hr hh => ?_)
      · have := ha_run_le n pc' L' st' h' hh
        exact ⟨Nat.le_trans this.1 hRc, Nat.le_trans this.2 hRs⟩
      · obtain ⟨i, nn, ops, mk⟩ := r
        have hr : i = .return_ := hr
        subst hr
        have h1 : nn = 1 := Nat.eq_of_beq_eq_true hokr
        subst h1
        unfold ha_fin at hh
        split at hh
        · cases hh
          exact hdn pc L hdec
        · cases hh
    · cases e
theorem ha_rep_none : ∀ (n k : Nat) (v : ha_V), hs_nth (List.replicate n (none : Option ha_V)) k ≠ some (some v)
  | 0, _, _, h => by cases h
  | n + 1, 0, _, h => by cases h
  | n + 1, k + 1, v, h => ha_rep_none n k v h
theorem ha_ent_el {ad : List Nat} {n : Nat} : ∀ (as : List ha_V) (xs : List Value) (i k : Nat) (v : ha_V), ha_all2 (ha_vr ad) as xs → hs_nth (as.map some ++ List.replicate n none) k = some (some v) → ∃ x, (i + k, x) ∈ lv_args i xs ∧ ha_vr ad v x
  | [], [], i, k, v, _, e => absurd e (ha_rep_none n k v)
  | a :: as, x :: xs, i, 0, v, h, e => by
    cases e
    exact ⟨x, List.mem_cons_self, h.1⟩
  | a :: as, x :: xs, i, k + 1, v, h, e => by
    obtain ⟨z, h1, h2⟩ := ha_ent_el as xs (i + 1) k v h.2 e
    refine ⟨z, List.mem_cons_of_mem _ ?_, h2⟩
    rw [h.1.cat, if_neg (by decide), show i + (k + 1) = i + 1 + k by omega]
    exact h1
  | [], _ :: _, _, _, _, h, _ => h.elim
  | _ :: _, [], _, _, _, h, _ => h.elim
theorem ha_sl_len {ad : List Nat} : ∀ (as : List ha_V) (xs : List Value), ha_all2 (ha_vr ad) as xs → (lg_sl xs).length = as.length
  | [], [], _ => rfl
  | .inl a :: as, x :: xs, h => by
    have := ha_sl_len as xs h.2
    cases h.1
    simp only [lg_sl, List.flatMap_cons, List.length_append, List.length_cons] at this ⊢
    rw [this, Nat.add_comm]
    rfl
  | .inr none :: as, x :: xs, h => by
    have := ha_sl_len as xs h.2
    cases h.1
    simp only [lg_sl, List.flatMap_cons, List.length_append, List.length_cons] at this ⊢
    rw [this, Nat.add_comm]
    rfl
  | .inr (some a) :: as, x :: xs, h => by
    have := ha_sl_len as xs h.2
    obtain ⟨b, _, e⟩ := h.1
    cases e
    simp only [lg_sl, List.flatMap_cons, List.length_append, List.length_cons] at this ⊢
    rw [this, Nat.add_comm]
    rfl
  | [], _ :: _, h => h.elim
  | _ :: _, [], h => h.elim
set_option maxHeartbeats 4000000 in
/-- ALL CONSTRUCTORS, by the depth of their calls -/
theorem ha_sound (D : va_G) (cA : Nat → ClassId) (A : Nat → Prop) (l : Launch) : ∀ d, ha_met D cA A l d (ha_call d)
  | 0 => by
    intro y h as h' ad ws xs hy hc
    cases hc
  | d + 1 => by
    have ih := ha_sound D cA A l d
    intro y h as h' ad ws xs hy hc hmo has hfst hcells hD hcost
    have hc : hs_if (Nat.ble as.length (ha_prog y).2) (ha_run (ha_prog y).1 (ha_call d) ha_fin 2000 0 (ha_ent as (ha_prog y).2) [] h) = some h' := hc
    obtain ⟨hlen, hc⟩ := ha_if_spec hc
    have hlen := Nat.le_of_ble_eq_true hlen
    obtain ⟨m1, m2, m3⟩ := ha_more_spec hmo
    have q := ha_ckm_at hy
    refine hs_ofW (cc := ha_by y) (maxL := (ha_prog y).2) (ret := none) q.2.2.2.2.1 rfl ?_
    intro p e s m args below meth c s₁ B hml hv
    obtain ⟨rfl, hSf, hP, hA⟩ := hv
    have hexec := B.exec
    have hb := B.bytes
    have hrt := B.returns
    have hts0 := atoms_spec (ws := Cond.code (ha_nm y) (ha_by y) (ha_prog y).2 none :: hs_GW) B.pre
    have hts : ∀ w ∈ hs_GW, w.before xs.toArray s = true := fun w hw => hts0 w (List.mem_cons_of_mem _ hw)
    have hown : s.vm.findClass (hs_own y) = some m.cls := by
      rw [← q.2.2.2.2.2.2.2.2.1]
      exact findClass_of_methodNamed B.named
    have hin2 : meth.name = "<init>" := (name_of_methodNamed B.named B.method).1.trans q.2.2.2.2.2.2.2.1
    have hlocks := B.notSynchronized
    have C : ha_Ctx D cA A p (ha_rm (d + 1) (h'.length - h.length) (ha_cost h' - ha_cost h)) s m xs.toArray c y (ha_by y) (ha_prog y).2 := ⟨hexec, hb, hml, hown, hts, hSf.1, hA, hSf.2⟩
    have hl := lv_entry xs (n := (ha_prog y).2) (by rw [ha_sl_len as xs has]; exact hlen)
    rw [lg_entry_eq]
    generalize (lg_sl xs ++ List.replicate ((ha_prog y).2 - (lg_sl xs).length) Slot.unset).toArray = ls at hl ⊢
    have hrel : ha_rel D cA A (ha_prog y).2 h.length (ha_cost h) ad s (ha_ent as (ha_prog y).2) [] h ls [] s.heap [] 0 0 ad ws := by
      refine ⟨⟨_, hl, fun k v hv => ?_⟩, ?_, trivial, hfst, hcells, hP, hD, va_S.rf, Nat.zero_add _, Nat.zero_add _, hcost, by omega, [], by rw [List.append_nil]⟩
      · obtain ⟨x, h1, h2⟩ := ha_ent_el as xs 0 k v has hv
        rw [Nat.zero_add] at h1
        exact ⟨x, h1, h2⟩
      · unfold ha_ent
        rw [List.length_append, List.length_map, List.length_replicate]
        omega
    refine ha_core (Q := MQ below (ha_Qc D cA A ad h') xs.toArray s (h'.length - h.length) (ha_cost h' - ha_cost h) A) C hin2 (d := d) (by show d + 5 ≤ d + 1 + 4; omega) (by show 48 * d + 248 ≤ 48 * (d + 1) + 200; omega) ih (ha_ck hy) (c0 := h.length) (s0 := ha_cost h) (aP := ad) (by show h'.length ≤ h'.length - h.length + h.length; omega) (by show ha_cost h' ≤ ha_cost h' - ha_cost h + ha_cost h; omega) ?_ 2000 0 _ _ h hc ls [] s.heap [] 0 0 ad ws hrel
    intro pc L hdec ls xs' H locs cells slots ad' ws' hr
    obtain ⟨-, -, hst, r4, r5, r6, r7, r8, r9, r10, r11, r12, ex, r13⟩ := hr
    have hxs : xs' = [] := by
      cases xs' with
      | nil => rfl
      | cons a b => exact hst.elim
    subst hxs
    have ec : cells = h'.length - h.length := by omega
    have es : slots = ha_cost h' - ha_cost h := by omega
    subst ec
    subst es
    subst r13
    exact W.vret hexec hb hrt (fun t ht _ => ⟨rfl, ⟨ex, ws', r4, r5, by rw [ht]; exact r6, r7, r11⟩, va_S.F r8 ht⟩) r8.2.2 hdec hlocks
