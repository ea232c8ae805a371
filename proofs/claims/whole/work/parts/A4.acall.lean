/-! ===== the allocating machine: max, Object's constructor ===== -/
theorem ha_cats {ad : List Nat} : ∀ {st : List ha_V} {xs : List Value}, ha_all2 (ha_vr ad) st xs → (xs.map fun v => v.category).sum = st.length
  | [], [], _ => rfl
  | _ :: _, _ :: _, h => by
    rw [List.map_cons, List.sum_cons, ha_cats h.2, h.1.cat, List.length_cons]
    omega
  | [], _ :: _, h => h.elim
  | _ :: _, [], h => h.elim
theorem ha_s_max {D : va_G} {cA : Nat → ClassId} {A : Nat → Prop} {p : Program} {l : Launch} {e : Env} {R : Room} {s : State} {m : MethodId} {args : Array Value} {below : List Frame} {meth : Method} {c : Code} {own : Nat} {cc : ByteArray} {nL c0 s0 : Nat} {aP : List Nat} {Q : State → Prop} (C : ha_Ctx D cA A p R s m args c own cc nL) {ρ : Type} {call : ha_C} {k done : ha_T ρ} {res : ρ} {pc : Nat} {mk : List Bool} {L : ha_L} {st : List ha_V} {h : ha_H} {idx : Nat} {ops : List Nat} (hlink : (Cond.methodLink (hs_own own) idx Lib.Math.max.name).before args s = true) (hstat : (Cond.static Lib.Math.max.name).before args s = true) (hini : (Cond.initialized "java/lang/Math").before args s = true) (hcode : (Cond.code Lib.Math.max.name Lib.Math.max.code 2 (some .int)).before args s = true) (hm : ∀ pc' L' st' h', k pc' L' st' h' = some res → h'.length ≤ R.cells + c0 ∧ ha_cost h' ≤ R.slots + s0) (hRf : 1 ≤ R.frames) (hRl : 48 ≤ R.locals) (hd : decode cc pc = .ok (.invokestatic idx, 3)) (ex : ha_step call k done (.invokestatic idx, 3, ops, mk) pc L st h = some res) (hk : ∀ pc' L' st' h', k pc' L' st' h' = some res → ha_WS D cA A p l e R s m args below meth c nL c0 s0 aP Q pc' L' st' h') : ha_WS D cA A p l e R s m args below meth c nL c0 s0 aP Q pc L st h := by
  obtain ⟨hexec, hb, hml, hown, hts, hK, hA, hAO⟩ := C
  unfold ha_step at ex
  dsimp only at ex
  split at ex
  · rename_i y x st0
    unfold hs_if at ex
    cases hi : Nat.ble st0.length 8 with
    | false => rw [hi] at ex; cases ex
    | true =>
      rw [hi] at ex
      dsimp only at ex
      have h8 := Nat.le_of_ble_eq_true hi
      intro ls xs H locs cells slots ad ws hr
      obtain ⟨y1, xs', rfl, hv, hst⟩ := hr.2.2.1.cons
      cases hv
      obtain ⟨x1, xs2, rfl, hv, hst2⟩ := hst.cons
      cases hv
      have hcs := hr.2.2.2.2.2.2.2.2
      have hct := ha_cats hst2
      obtain ⟨el, he1, he2⟩ := hr.1
      have hm1 := hm _ _ _ _ ex
      have hl1 : (xs2.map fun v => v.category).sum + 13 ≤ R.locals := by omega
      have hc1 : cells ≤ R.cells := by omega
      have hs1 : slots ≤ R.slots := by omega
      exact va_mmax hexec hb (hml.trans he1.1.symm) hown hlink hstat hini hcode hRf hl1 hc1 hs1 hd (hk _ _ _ _ ex ls _ H locs cells slots ad ws (hr.st ⟨rfl, hst2⟩))
  · cases ex
theorem ha_s_objInit {D : va_G} {cA : Nat → ClassId} {A : Nat → Prop} {p : Program} {l : Launch} {e : Env} {R : Room} {s : State} {m : MethodId} {args : Array Value} {below : List Frame} {meth : Method} {c : Code} {own : Nat} {cc : ByteArray} {nL c0 s0 : Nat} {aP : List Nat} {Q : State → Prop} (C : ha_Ctx D cA A p R s m args c own cc nL) {ρ : Type} {call : ha_C} {k done : ha_T ρ} {res : ρ} {pc : Nat} {mk : List Bool} {L : ha_L} {st : List ha_V} {h : ha_H} {idx : Nat} (hlink : (Cond.methodLink (hs_own own) idx Lib.objectInit).before args s = true) (hinst : (Cond.instanceMethod Lib.objectInit).before args s = true) (hcode : (Cond.code Lib.objectInit ⟨#[0xb1]⟩ 1 none).before args s = true) (hRf : 1 ≤ R.frames) (hRl : 48 ≤ R.locals) (hd : decode cc pc = .ok (.invokespecial idx, 3)) (ex : ha_step call k done (.invokespecial idx, 3, [], mk) pc L st h = some res) (hk : ∀ pc' L' st' h', k pc' L' st' h' = some res → ha_WS D cA A p l e R s m args below meth c nL c0 s0 aP Q pc' L' st' h') : ha_WS D cA A p l e R s m args below meth c nL c0 s0 aP Q pc L st h := by
  obtain ⟨hexec, hb, hml, hown, hts, hK, hA, hAO⟩ := C
  unfold ha_step at ex
  dsimp only at ex
  split at ex
  · rename_i a st0
    unfold hs_if at ex
    cases hi : Nat.ble st0.length 8 with
    | false => rw [hi] at ex; cases ex
    | true =>
      rw [hi] at ex
      dsimp only at ex
      have h8 := Nat.le_of_ble_eq_true hi
      intro ls xs H locs cells slots ad ws hr
      obtain ⟨y1, xs', rfl, hv, hst⟩ := hr.2.2.1.cons
      obtain ⟨b, hb1, rfl⟩ := hv
      have hct := ha_cats hst
      obtain ⟨el, he1, he2⟩ := hr.1
      have hl0 : 2 * (F0 m pc ls (.ref b :: xs')).monitorRoom + (xs'.map fun v => v.category).sum ≤ 8 := lv_room (by rw [hct]; exact h8)
      have hl1 : 2 * (F0 m pc ls (.ref b :: xs')).monitorRoom + (xs'.map fun v => v.category).sum + 12 ≤ R.locals := by omega
      exact W.objInit hexec hb hown hlink hinst hcode (g := F0 m pc ls (.ref b :: xs')) rfl (he1.1.trans hml.symm) rfl hd hRf hl1 (hk _ _ _ _ ex ls _ H locs cells slots ad ws (hr.st hst))
  · cases ex
