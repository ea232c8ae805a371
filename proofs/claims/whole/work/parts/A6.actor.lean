/-! ===== a constructor calls a constructor ===== -/
theorem ha_all2.split {α β : Type} {P : α → β → Prop} : ∀ {l1 l2 : List α} {r : List β}, ha_all2 P (l1 ++ l2) r → ∃ r1 r2, r = r1 ++ r2 ∧ ha_all2 P l1 r1 ∧ ha_all2 P l2 r2
  | [], _, r, h => ⟨[], r, rfl, trivial, h⟩
  | _ :: _, _, [], h => h.elim
  | _ :: _, _, b :: _, h => by
    obtain ⟨r1, r2, e, h1, h2⟩ := ha_all2.split h.2
    exact ⟨b :: r1, r2, by rw [e]; rfl, ⟨h.1, h1⟩, h2⟩
theorem ha_all2.rev {α β : Type} {P : α → β → Prop} : ∀ {l : List α} {r : List β}, ha_all2 P l r → ha_all2 P l.reverse r.reverse
  | [], [], _ => trivial
  | _ :: _, _ :: _, h => by
    rw [List.reverse_cons, List.reverse_cons]
    exact ha_all2.push h.1 (ha_all2.rev h.2)
  | [], _ :: _, h => h.elim
  | _ :: _, [], h => h.elim
theorem ha_s_ctor {D : va_G} {cA : Nat → ClassId} {A : Nat → Prop} {p : Program} {l : Launch} {e : Env} {R : Room} {s : State} {m : MethodId} {args : Array Value} {below : List Frame} {meth : Method} {c : Code} {own : Nat} {cc : ByteArray} {nL c0 s0 : Nat} {aP : List Nat} {Q : State → Prop} (C : ha_Ctx D cA A p R s m args c own cc nL) {ρ : Type} {call : ha_C} {k done : ha_T ρ} {res : ρ} {pc : Nat} {mk : List Bool} {L : ha_L} {st : List ha_V} {h : ha_H} {idx y n maxL : Nat} {nm : MethodName} {bytes : ByteArray}
    (hM : ∀ (as : List ha_V) (h' : ha_H) (ad : List Nat) (ws : va_W) (xs : List Value), call y as h = some h' → ha_more h h' = true → ha_all2 (ha_vr ad) as xs → ws.map Prod.fst = ad → ha_all2 (fun (x : ha_E) (q : Nat × va_E) => ha_er cA ad x q.2) h ws → va_D A ws → ha_cost h ≤ 4000 * h.length → ∃ rm : Room, rm.cells = h'.length - h.length ∧ rm.slots = ha_cost h' - ha_cost h ∧ rm.frames + 1 ≤ R.frames ∧ 8 + (maxL + 11) + rm.locals ≤ R.locals ∧ Met l nm (Cond.code nm bytes maxL none :: hs_GW) rm (ha_Pc D cA A xs ws) (ha_Qc D cA A ad h') (h'.length - h.length) (ha_cost h' - ha_cost h) A)
    (hG : GoodIn hs_GW (Cond.code nm bytes maxL none :: hs_GW)) (hini : (Cond.initialized nm.cls).before args s = true) (hlink : (Cond.methodLink (hs_own own) idx nm).before args s = true) (hin : (Cond.instanceMethod nm).before args s = true) (hy1 : nm.name = "<init>") (hdd : nm.cls ≠ "java/lang/invoke/MethodHandle" ∧ nm.cls ≠ "java/lang/invoke/VarHandle" ∧ (parseMethodDescriptor nm.desc).map (fun d => d.parameters.length) = some n)
    (hm : ∀ pc' L' st' h', k pc' L' st' h' = some res → h'.length ≤ R.cells + c0 ∧ ha_cost h' ≤ R.slots + s0) (hd : decode cc pc = .ok (.invokespecial idx, 3)) (ex : ha_step call k done (.invokespecial idx, 3, [y, n + 1], mk) pc L st h = some res) (hk : ∀ pc' L' st' h', k pc' L' st' h' = some res → ha_WS D cA A p l e R s m args below meth c nL c0 s0 aP Q pc' L' st' h') : ha_WS D cA A p l e R s m args below meth c nL c0 s0 aP Q pc L st h := by
  obtain ⟨hexec, hb, hml, hown, hts, hK, hA, hAO⟩ := C
  unfold ha_step at ex
  dsimp only at ex
  obtain ⟨pp, st', rfl, hn, ex⟩ := ha_pop_spec _ _ _ _ ex
  rw [List.append_nil] at ex
  unfold hs_if at ex
  split at ex
  · rename_i hi
    simp only [Bool.and_eq_true] at hi
    have h8 := Nat.le_of_ble_eq_true hi.1
    split at ex
    · rename_i h' hcall
      split at ex
      · rename_i hmo
        obtain ⟨m1, m2, m3⟩ := ha_more_spec hmo
        have hm1 := hm _ _ _ _ ex
        intro ls xs H locs cells slots ad ws hr
        obtain ⟨x1, x2, rfl, hp1, hp2⟩ := hr.2.2.1.split
        have hrev := hp1.rev
        obtain ⟨rm, q1, q2, q3, q4, hMet⟩ := hM pp.reverse h' ad ws x1.reverse hcall hmo hrev hr.2.2.2.1 hr.2.2.2.2.1 hr.2.2.2.2.2.2.1 hr.2.2.2.2.2.2.2.2.2.2.1
        have hlen : x1.reverse.length = n + 1 := by rw [← hrev.length, List.length_reverse, hn]
        have hrc : ∃ (b : Nat) (As : List Value), x1.reverse = .ref b :: As := by
          cases hpr : pp.reverse with
          | nil => rw [hpr] at hi; cases hi.2
          | cons v vs =>
            rw [hpr] at hi hrev
            obtain ⟨z, As, e, hz, -⟩ := hrev.cons
            rcases v with _ | _ | i
            · cases hi.2
            · cases hi.2
            · obtain ⟨b, -, rfl⟩ := hz
              exact ⟨b, As, e⟩
        obtain ⟨b, As, hxe⟩ := hrc
        have hx1 : x1 = As.reverse ++ [.ref b] := by
          have := congrArg List.reverse hxe
          rw [List.reverse_reverse, List.reverse_cons] at this
          exact this
        rw [hxe] at hMet hlen
        have hct := ha_cats hp2
        have hl0 : 2 * (F0 m pc ls (x1 ++ x2)).monitorRoom + (x2.map fun v => v.category).sum ≤ 8 := lv_room (by rw [hct]; exact h8)
        have hcs := hr.2.2.2.2.2.2.2.2
        obtain ⟨el, he1, he2⟩ := hr.1
        have hS := hr.2.2.2.2.2.2.2.1
        have hpre : PreS s H (ha_Pc D cA A (.ref b :: As) ws) (.ref b :: As) := ⟨ha_blind, fun U hU hW => ⟨rfl, ha_Sf.warm ⟨hK, hAO⟩ hW, by rw [hU]; exact hr.2.2.2.2.2.1, fun q hq => hA q (Nat.le_trans hS.1 (by rw [← hU]; exact hq))⟩⟩
        have hf : cells + (h'.length - h.length) ≤ R.cells ∧ slots + (ha_cost h' - ha_cost h) ≤ R.slots := by omega
        have hAl : As.length = n := by rw [List.length_cons] at hlen; omega
        refine ha_back (a := (Value.ref b :: As).toArray) hr hp2 (by omega) (by omega) m2 (va_runI (Ts := hs_GW) ⟨hexec, hb, hml, hown, hts⟩ hMet (cwI n hts hG rfl q1 q2 hini hlink hin hy1 hdd ⟨q3, q4⟩) hpre rfl hAl he1.1 ?_ hl0 hd hf) (hk _ _ _ _ ex)
        show x1 ++ x2 = _
        rw [hx1, List.append_assoc]
        rfl
      · cases ex
    · cases ex
  · cases ex
