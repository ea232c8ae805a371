/-! ===== constructors' contracts ===== -/
def ha_Sf (D : va_G) (cA : Nat → ClassId) (U : State) : Prop := va_K D hs_clas [(cA 0, .int), (cA 1, .long), (cA 2, .boolean), (cA 3, .object "HeavierServes$State")] U ∧ va_AO "HeavierServes$State" U
def ha_Pc (D : va_G) (cA : Nat → ClassId) (A : Nat → Prop) (xs : List Value) (ws : va_W) : Array Value → State → Prop := va_Pc xs (fun U => ha_Sf D cA U ∧ va_P D hs_clas ws U.heap ∧ ∀ q, U.heap.size ≤ q → A q)
def ha_Qc (D : va_G) (cA : Nat → ClassId) (A : Nat → Prop) (ad : List Nat) (h' : ha_H) : Array Value → State → Outcome → State → Prop := fun _ st oc t => oc = .returned none ∧ (∃ (ex : List Nat) (ws' : va_W), ws'.map Prod.fst = ad ++ ex ∧ ha_all2 (fun (x : ha_E) (q : Nat × va_E) => ha_er cA (ad ++ ex) x q.2) h' ws' ∧ va_P D hs_clas ws' t.heap ∧ va_D A ws' ∧ ha_cost h' ≤ 4000 * h'.length) ∧ va_F A st t
theorem ha_Sf.warm {D : va_G} {cA : Nat → ClassId} {s U : State} (h : ha_Sf D cA s) (hW : s.WarmedH U.vm) : ha_Sf D cA U := ⟨va_K.moved hW.alike h.1, va_AO.moved hW.alike h.2⟩
theorem ha_back {D : va_G} {cA : Nat → ClassId} {A : Nat → Prop} {p : Program} {l : Launch} {e : Env} {R : Room} {s : State} {m : MethodId} {args : Array Value} {below : List Frame} {meth : Method} {c : Code} {nL c0 s0 : Nat} {aP : List Nat} {Q : State → Prop} {pc : Nat} {L : ha_L} {st0 st : List ha_V} {stv xs xs' : List Value} {h h' : ha_H} {ls : Array Slot} {H : Heap} {locs : List Loc} {cells slots mc ms : Nat} {ad : List Nat} {ws : va_W} {a : Array Value}
    (hr : ha_rel D cA A nL c0 s0 aP s L st0 h ls xs H locs cells slots ad ws) (hst : ha_all2 (ha_vr ad) st xs') (hmc : mc + h.length = h'.length) (hms : ms + ha_cost h = ha_cost h') (h500 : h'.length ≤ 500) (run : va_Run p l e R s m args below meth c H locs cells slots mc ms (F0 m pc ls stv) xs' (ha_Qc D cA A ad h' a) A)
    (hk : ha_WS D cA A p l e R s m args below meth c nL c0 s0 aP Q (pc + 3) L st h') : W p l e R s m args below meth c H locs cells slots Q (F0 m pc ls stv) := by
  intro T hT X
  obtain ⟨v, st₀, t, T', Lc, g0, X', hL, e1, e2, ⟨hv, ⟨ex, ws', w1, w2, w3, w4, w5⟩, hz, hk1⟩, stp⟩ := run T hT X
  cases hv
  rw [g0] at hz hk1
  obtain ⟨⟨el, l1, l2⟩, h2, -, h4, h5, h6, h7, h8, h9, h10, h11, h12⟩ := hr
  have hrel : ha_rel D cA A nL c0 s0 aP s L st h' ls xs' T'.heap (locs ++ Lc) (cells + mc) (slots + ms) (ad ++ ex) ws' := by
    refine ⟨⟨el, l1, fun k v hv => ?_⟩, h2, hst.mono (fun _ _ h => h.app _), w1, w2, by rw [e1]; exact w3, w4, ⟨Nat.le_trans h8.1 (by rw [e1]; exact hz), ?_, ?_⟩, by omega, by omega, w5, h500, h12.2.choose ++ ex, by rw [← List.append_assoc, ← h12.2.choose_spec]⟩
    · obtain ⟨y, hy, hz⟩ := l2 k v hv
      exact ⟨y, hy, hz.app _⟩
    · intro q q1 q2
      rw [e1, hk1 q (Nat.lt_of_lt_of_le q1 h8.1) q2]
      exact h8.2.1 q q1 q2
    · intro q hq
      rcases List.mem_append.mp hq with h | h
      · exact h8.2.2 q h
      · exact hL q h
  obtain ⟨t2, a1, b1⟩ := hk ls xs' T'.heap (locs ++ Lc) _ _ _ _ hrel T' rfl X'
  exact ⟨t2, stp t2 a1, b1⟩
theorem ha_more_spec {h h' : ha_H} (hm : ha_more h h' = true) : h.length ≤ h'.length ∧ h'.length ≤ 500 ∧ ha_cost h ≤ ha_cost h' := by
  simp only [ha_more, Bool.and_eq_true] at hm
  exact ⟨Nat.le_of_ble_eq_true hm.1, Nat.le_of_ble_eq_true hm.2.1, Nat.le_of_ble_eq_true hm.2.2⟩
theorem ha_blind {D : va_G} {cA : Nat → ClassId} {A : Nat → Prop} {xs : List Value} {ws : va_W} : FrameBlind (ha_Pc D cA A xs ws) := by
  intro a U f mk h
  obtain ⟨h1, ⟨h2, h3⟩, h4⟩ := h
  have hv : U.vm.Alike (U.calling f mk a).vm := Vm.Alike.refl U.vm
  exact ⟨h1, ⟨va_K.moved hv h2, va_AO.moved hv h3⟩, h4⟩
theorem ha_pop_spec {ρ : Type} {r : ρ} : ∀ (n : Nat) (st as : List ha_V) (K : List ha_V → List ha_V → Option ρ), ha_pop n st as K = some r → ∃ p st', st = p ++ st' ∧ p.length = n ∧ K (p.reverse ++ as) st' = some r
  | 0, st, as, K, h => ⟨[], st, rfl, rfl, h⟩
  | n + 1, [], as, K, h => by cases h
  | n + 1, v :: st, as, K, h => by
    obtain ⟨p, st', h1, h2, h3⟩ := ha_pop_spec n st (v :: as) K h
    refine ⟨v :: p, st', by rw [h1]; rfl, by simp [h2], ?_⟩
    rw [List.reverse_cons, List.append_assoc]
    exact h3
