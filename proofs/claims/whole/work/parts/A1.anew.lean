/-! ===== the allocating machine and the kit: what a value, a cell, a frame is ===== -/
def ha_vr (ad : List Nat) (v : ha_V) (x : Value) : Prop := match v with
  | .inl n => x = .int n
  | .inr none => x = .null
  | .inr (some i) => ∃ a : Nat, ad[i]? = some a ∧ x = .ref a
theorem ha_vr.app {ad : List Nat} {v : ha_V} {x : Value} (h : ha_vr ad v x) (q : List Nat) : ha_vr (ad ++ q) v x := by
  rcases v with n | _ | i
  · exact h
  · exact h
  · obtain ⟨a, h1, h2⟩ := h
    exact ⟨a, by rw [List.getElem?_append_left (List.getElem?_eq_some_iff.mp h1).1]; exact h1, h2⟩
theorem ha_vr.cat {ad : List Nat} {v : ha_V} {x : Value} (h : ha_vr ad v x) : x.category = 1 := by
  rcases v with n | _ | i
  · cases h; rfl
  · cases h; rfl
  · obtain ⟨a, h1, h2⟩ := h
    cases h2; rfl
def ha_all2 {α β : Type} (P : α → β → Prop) : List α → List β → Prop
  | [], [] => True
  | a :: l, b :: r => P a b ∧ ha_all2 P l r
  | _, _ => False
theorem ha_all2.cons {α β : Type} {P : α → β → Prop} {a : α} {l : List α} {r : List β} (h : ha_all2 P (a :: l) r) : ∃ b r', r = b :: r' ∧ P a b ∧ ha_all2 P l r' := by
  cases r with
  | nil => exact h.elim
  | cons b r' => exact ⟨b, r', rfl, h.1, h.2⟩
theorem ha_all2.mono {α β : Type} {P P' : α → β → Prop} (hP : ∀ a b, P a b → P' a b) : ∀ {l : List α} {r : List β}, ha_all2 P l r → ha_all2 P' l r
  | [], [], _ => trivial
  | _ :: _, _ :: _, h => ⟨hP _ _ h.1, ha_all2.mono hP h.2⟩
  | [], _ :: _, h => h.elim
  | _ :: _, [], h => h.elim
theorem ha_all2.length {α β : Type} {P : α → β → Prop} : ∀ {l : List α} {r : List β}, ha_all2 P l r → l.length = r.length
  | [], [], _ => rfl
  | _ :: _, _ :: _, h => by rw [List.length_cons, List.length_cons, ha_all2.length h.2]
  | [], _ :: _, h => h.elim
  | _ :: _, [], h => h.elim
theorem ha_all2.push {α β : Type} {P : α → β → Prop} {a : α} {b : β} (hab : P a b) : ∀ {l : List α} {r : List β}, ha_all2 P l r → ha_all2 P (l ++ [a]) (r ++ [b])
  | [], [], _ => ⟨hab, trivial⟩
  | _ :: _, _ :: _, h => ⟨h.1, ha_all2.push hab h.2⟩
  | [], _ :: _, h => h.elim
  | _ :: _, [], h => h.elim
theorem ha_all2.at {α β : Type} {P : α → β → Prop} : ∀ {l : List α} {r : List β} {i : Nat} {a : α}, ha_all2 P l r → hs_nth l i = some a → ∃ b, r[i]? = some b ∧ P a b
  | [], [], _, _, _, h => by cases h
  | _ :: _, b :: _, 0, _, h, e => by cases e; exact ⟨b, rfl, h.1⟩
  | _ :: _, _ :: _, _ + 1, _, h, e => by
    obtain ⟨b, h1, h2⟩ := ha_all2.at h.2 e
    exact ⟨b, by rw [List.getElem?_cons_succ]; exact h1, h2⟩
  | [], _ :: _, _, _, h, _ => h.elim
  | _ :: _, [], _, _, h, _ => h.elim
theorem ha_all2.set {α β : Type} {P : α → β → Prop} {a : α} {b : β} (hab : P a b) : ∀ {l : List α} {r : List β} {i : Nat}, ha_all2 P l r → ha_all2 P (l.set i a) (r.set i b)
  | [], [], _, _ => trivial
  | _ :: _, _ :: _, 0, h => ⟨hab, h.2⟩
  | _ :: _, _ :: _, _ + 1, h => ⟨h.1, ha_all2.set hab h.2⟩
  | [], _ :: _, _, h => h.elim
  | _ :: _, [], _, h => h.elim
def ha_ai (ws : List (Nat × ha_V)) (i : Nat) : Int32 := match ha_asc i ws with
  | some (.inl x) => x
  | _ => 0
def ha_fr (ad : List Nat) (ws : List (Nat × ha_V)) (f : Nat → Option Nat) (i : Nat) : Prop := match ha_asc i ws with
  | none => f i = none
  | some (.inr (some x)) => ∃ a : Nat, ad[x]? = some a ∧ f i = some a
  | _ => False
/-- a cell of the allocating machine is one of the kit's -/
def ha_er (cA : Nat → ClassId) (ad : List Nat) (x : ha_E) (E : va_E) : Prop := match x with
  | .inl (κ, fs) => ∃ vs : List Value, E = .inr (κ, vs) ∧ ha_all2 (ha_vr ad) fs vs
  | .inr (0, n, ws) => ∃ f : Nat → Int32, E = .inl (cA 0, n, .inl f) ∧ ∀ i, f i = ha_ai ws i
  | .inr (1, n, _) => E = .inl (cA 1, n, .inr (.inl (fun _ => 0)))
  | .inr (2, n, _) => E = .inl (cA 2, n, .inl (fun _ => 0))
  | .inr (_, n, ws) => ∃ f : Nat → Option Nat, E = .inl (cA 3, n, .inr (.inr (.inr (.inr f)))) ∧ ∀ i, ha_fr ad ws f i
theorem ha_fr.app {ad : List Nat} {ws : List (Nat × ha_V)} {f : Nat → Option Nat} {i : Nat} (h : ha_fr ad ws f i) (q : List Nat) : ha_fr (ad ++ q) ws f i := by
  unfold ha_fr at h ⊢
  split at h
  · exact h
  · obtain ⟨a, h1, h2⟩ := h
    exact ⟨a, by rw [List.getElem?_append_left (List.getElem?_eq_some_iff.mp h1).1]; exact h1, h2⟩
  · exact h.elim
theorem ha_er.app {cA : Nat → ClassId} {ad : List Nat} {x : ha_E} {E : va_E} (h : ha_er cA ad x E) (q : List Nat) : ha_er cA (ad ++ q) x E := by
  rcases x with ⟨κ, fs⟩ | ⟨t, n, ws⟩
  · obtain ⟨vs, h1, h2⟩ := h
    exact ⟨vs, h1, h2.mono (fun _ _ h => h.app q)⟩
  · rcases t with _ | _ | _ | t
    · exact h
    · exact h
    · exact h
    · obtain ⟨f, h1, h2⟩ := h
      exact ⟨f, h1, fun i => (h2 i).app q⟩
def ha_rel (D : va_G) (cA : Nat → ClassId) (A : Nat → Prop) (nL c0 s0 : Nat) (aP : List Nat) (s : State) (L : ha_L) (st : List ha_V) (h : ha_H) (ls : Array Slot) (xs : List Value) (H : Heap) (locs : List Loc) (cells slots : Nat) (ad : List Nat) (ws : va_W) : Prop :=
  (∃ el : List (Nat × Value), lv_has ls nL el ∧ ∀ k v, hs_nth L k = some (some v) → ∃ x, (k, x) ∈ el ∧ ha_vr ad v x) ∧ L.length = nL ∧ ha_all2 (ha_vr ad) st xs ∧ ws.map Prod.fst = ad ∧ ha_all2 (fun x q => ha_er cA ad x q.2) h ws ∧ va_P D hs_clas ws H ∧ va_D A ws ∧ va_S A s.heap H locs ∧ cells + c0 = h.length ∧ slots + s0 = ha_cost h ∧ ha_cost h ≤ 4000 * h.length ∧ h.length ≤ 500 ∧ ∃ ex : List Nat, ad = aP ++ ex
def ha_WS (D : va_G) (cA : Nat → ClassId) (A : Nat → Prop) (p : Program) (l : Launch) (e : Env) (R : Room) (s : State) (m : MethodId) (args : Array Value) (below : List Frame) (meth : Method) (c : Code) (nL c0 s0 : Nat) (aP : List Nat) (Q : State → Prop) (pc : Nat) (L : ha_L) (st : List ha_V) (h : ha_H) : Prop :=
  ∀ (ls : Array Slot) (xs : List Value) (H : Heap) (locs : List Loc) (cells slots : Nat) (ad : List Nat) (ws : va_W), ha_rel D cA A nL c0 s0 aP s L st h ls xs H locs cells slots ad ws → W p l e R s m args below meth c H locs cells slots Q (F0 m pc ls xs)
theorem ha_rel.st {D : va_G} {cA : Nat → ClassId} {A : Nat → Prop} {nL c0 s0 : Nat} {aP : List Nat} {s : State} {L : ha_L} {st st' : List ha_V} {h : ha_H} {ls : Array Slot} {xs xs' : List Value} {H : Heap} {locs : List Loc} {cells slots : Nat} {ad : List Nat} {ws : va_W} (hr : ha_rel D cA A nL c0 s0 aP s L st h ls xs H locs cells slots ad ws) (h' : ha_all2 (ha_vr ad) st' xs') : ha_rel D cA A nL c0 s0 aP s L st' h ls xs' H locs cells slots ad ws := ⟨hr.1, hr.2.1, h', hr.2.2.2⟩
theorem ha_ld {D : va_G} {cA : Nat → ClassId} {A : Nat → Prop} {nL c0 s0 : Nat} {aP : List Nat} {s : State} {L : ha_L} {st : List ha_V} {h : ha_H} {ls : Array Slot} {xs : List Value} {H : Heap} {locs : List Loc} {cells slots : Nat} {ad : List Nat} {ws : va_W} (hr : ha_rel D cA A nL c0 s0 aP s L st h ls xs H locs cells slots ad ws) {i : Nat} {v : ha_V} (hv : hs_nth L i = some (some v)) : ∃ x, ls[i]? = some (.val x) ∧ ha_vr ad v x := by
  obtain ⟨el, h1, h2⟩ := hr.1
  obtain ⟨x, hx, hy⟩ := h2 i v hv
  exact ⟨x, h1.2.2 _ hx, hy⟩
theorem ha_set_spec {ρ : Type} : ∀ (ls : ha_L) (i : Nat) (v : ha_V) (K : ha_L → Option ρ) (r : ρ), ha_set ls i v K = some r → ∃ ls', K ls' = some r ∧ ls'.length = ls.length ∧ i < ls.length ∧ ∀ k w, hs_nth ls' k = some (some w) → (k = i ∧ w = v) ∨ (k ≠ i ∧ hs_nth ls k = some (some w))
  | [], _, _, _, _, h => by cases h
  | a :: l, 0, v, K, r, h => by
    refine ⟨some v :: l, h, rfl, Nat.succ_pos _, ?_⟩
    intro k w hk
    cases k with
    | zero => cases hk; exact Or.inl ⟨rfl, rfl⟩
    | succ k => exact Or.inr ⟨by omega, hk⟩
  | a :: l, n + 1, v, K, r, h => by
    obtain ⟨l', h1, h2, h3, h4⟩ := ha_set_spec l n v _ r h
    refine ⟨_, h1, by simp only [List.length_cons, h2], by simp only [List.length_cons]; omega, ?_⟩
    intro k w hk
    cases k with
    | zero => exact Or.inr ⟨by omega, hk⟩
    | succ k =>
      rcases h4 k w hk with ⟨a1, a2⟩ | ⟨a1, a2⟩
      · exact Or.inl ⟨by omega, a2⟩
      · exact Or.inr ⟨by omega, a2⟩
theorem ha_stored {ad : List Nat} {L L' : ha_L} {el : List (Nat × Value)} {i : Nat} {v : ha_V} {y : Value} (hv : ha_vr ad v y) (h : ∀ k v, hs_nth L k = some (some v) → ∃ x, (k, x) ∈ el ∧ ha_vr ad v x) (hx : ∀ k w, hs_nth L' k = some (some w) → (k = i ∧ w = v) ∨ (k ≠ i ∧ hs_nth L k = some (some w))) : ∀ k v, hs_nth L' k = some (some v) → ∃ x, (k, x) ∈ ((i, y) :: el.filter (fun q => !(q.1 == i) && !(q.1 + 1 == i && q.2.category == 2))) ∧ ha_vr ad v x := by
  intro k w hk
  rcases hx k w hk with ⟨a, b⟩ | ⟨a, b⟩
  · rw [a, b]; exact ⟨y, List.mem_cons_self, hv⟩
  · obtain ⟨x, h1, h2⟩ := h k w b
    refine ⟨x, List.mem_cons_of_mem _ (List.mem_filter.mpr ⟨h1, ?_⟩), h2⟩
    simp [h2.cat, a]
/-- what a constructor's frame stands on -/
def ha_Ctx (D : va_G) (cA : Nat → ClassId) (A : Nat → Prop) (p : Program) (R : Room) (s : State) (m : MethodId) (args : Array Value) (c : Code) (own : Nat) (cc : ByteArray) (nL : Nat) : Prop :=
  p.tables.exec = Jvm.exec ∧ c.code = cc ∧ c.maxLocals = nL ∧ s.vm.findClass (hs_own own) = some m.cls ∧ (∀ w ∈ hs_GW, w.before args s = true) ∧ va_K D hs_clas [(cA 0, .int), (cA 1, .long), (cA 2, .boolean), (cA 3, .object "HeavierServes$State")] s ∧ (∀ q, s.heap.size ≤ q → A q) ∧ va_AO "HeavierServes$State" s
theorem ha_s_iload {D : va_G} {cA : Nat → ClassId} {A : Nat → Prop} {p : Program} {l : Launch} {e : Env} {R : Room} {s : State} {m : MethodId} {args : Array Value} {below : List Frame} {meth : Method} {c : Code} {own : Nat} {cc : ByteArray} {nL c0 s0 : Nat} {aP : List Nat} {Q : State → Prop} (C : ha_Ctx D cA A p R s m args c own cc nL) {i : Nat} {ρ : Type} {call : ha_C} {k done : ha_T ρ} {res : ρ} {pc n : Nat} {ops : List Nat} {mk : List Bool} {L : ha_L} {st : List ha_V} {h : ha_H} (hd : decode cc pc = .ok (.iload i, n)) (hok : hs_okr own pc (.iload i, n, ops, mk) = true) (ex : ha_step call k done (.iload i, n, ops, mk) pc L st h = some res) (hk : ∀ pc' L' st' h', k pc' L' st' h' = some res → ha_WS D cA A p l e R s m args below meth c nL c0 s0 aP Q pc' L' st' h') : ha_WS D cA A p l e R s m args below meth c nL c0 s0 aP Q pc L st h := by
  obtain ⟨hexec, hb, -⟩ := C
  have hn : n = 2 := by simpa [hs_okr] using hok
  subst hn
  unfold ha_step at ex
  dsimp only at ex
  cases hx : hs_nth L i with
  | none => rw [hx] at ex; cases ex
  | some o =>
    rw [hx] at ex
    rcases o with _ | x | _ | x
    · cases ex
    · intro ls xs H locs cells slots ad ws hr
      obtain ⟨y, hy, hv⟩ := ha_ld hr hx
      cases hv
      exact lv_iload hexec hb hd hy (hk _ _ _ _ ex ls _ H locs cells slots ad ws (hr.st ⟨rfl, hr.2.2.1⟩))
    · cases ex
    · cases ex
theorem ha_s_iload_n {D : va_G} {cA : Nat → ClassId} {A : Nat → Prop} {p : Program} {l : Launch} {e : Env} {R : Room} {s : State} {m : MethodId} {args : Array Value} {below : List Frame} {meth : Method} {c : Code} {own : Nat} {cc : ByteArray} {nL c0 s0 : Nat} {aP : List Nat} {Q : State → Prop} (C : ha_Ctx D cA A p R s m args c own cc nL) {i : Fin 4} {ρ : Type} {call : ha_C} {k done : ha_T ρ} {res : ρ} {pc n : Nat} {ops : List Nat} {mk : List Bool} {L : ha_L} {st : List ha_V} {h : ha_H} (hd : decode cc pc = .ok (.iload_n i, n)) (hok : hs_okr own pc (.iload_n i, n, ops, mk) = true) (ex : ha_step call k done (.iload_n i, n, ops, mk) pc L st h = some res) (hk : ∀ pc' L' st' h', k pc' L' st' h' = some res → ha_WS D cA A p l e R s m args below meth c nL c0 s0 aP Q pc' L' st' h') : ha_WS D cA A p l e R s m args below meth c nL c0 s0 aP Q pc L st h := by
  obtain ⟨hexec, hb, -⟩ := C
  have hn : n = 1 := by simpa [hs_okr] using hok
  subst hn
  unfold ha_step at ex
  dsimp only at ex
  cases hx : hs_nth L i.val with
  | none => rw [hx] at ex; cases ex
  | some o =>
    rw [hx] at ex
    rcases o with _ | x | _ | x
    · cases ex
    · intro ls xs H locs cells slots ad ws hr
      obtain ⟨y, hy, hv⟩ := ha_ld hr hx
      cases hv
      exact lv_iload_n hexec hb hd rfl hy (hk _ _ _ _ ex ls _ H locs cells slots ad ws (hr.st ⟨rfl, hr.2.2.1⟩))
    · cases ex
    · cases ex
theorem ha_s_aload {D : va_G} {cA : Nat → ClassId} {A : Nat → Prop} {p : Program} {l : Launch} {e : Env} {R : Room} {s : State} {m : MethodId} {args : Array Value} {below : List Frame} {meth : Method} {c : Code} {own : Nat} {cc : ByteArray} {nL c0 s0 : Nat} {aP : List Nat} {Q : State → Prop} (C : ha_Ctx D cA A p R s m args c own cc nL) {i : Nat} {ρ : Type} {call : ha_C} {k done : ha_T ρ} {res : ρ} {pc n : Nat} {ops : List Nat} {mk : List Bool} {L : ha_L} {st : List ha_V} {h : ha_H} (hd : decode cc pc = .ok (.aload i, n)) (hok : hs_okr own pc (.aload i, n, ops, mk) = true) (ex : ha_step call k done (.aload i, n, ops, mk) pc L st h = some res) (hk : ∀ pc' L' st' h', k pc' L' st' h' = some res → ha_WS D cA A p l e R s m args below meth c nL c0 s0 aP Q pc' L' st' h') : ha_WS D cA A p l e R s m args below meth c nL c0 s0 aP Q pc L st h := by
  obtain ⟨hexec, hb, -⟩ := C
  have hn : n = 2 := by simpa [hs_okr] using hok
  subst hn
  unfold ha_step at ex
  dsimp only at ex
  cases hx : hs_nth L i with
  | none => rw [hx] at ex; cases ex
  | some o =>
    rw [hx] at ex
    rcases o with _ | x | _ | x
    · cases ex
    · cases ex
    · cases ex
    · intro ls xs H locs cells slots ad ws hr
      obtain ⟨y, hy, hv⟩ := ha_ld hr hx
      obtain ⟨a, ha, rfl⟩ := hv
      exact lv_aload hexec hb hd hy (hk _ _ _ _ ex ls _ H locs cells slots ad ws (hr.st ⟨⟨a, ha, rfl⟩, hr.2.2.1⟩))
theorem ha_s_aload_n {D : va_G} {cA : Nat → ClassId} {A : Nat → Prop} {p : Program} {l : Launch} {e : Env} {R : Room} {s : State} {m : MethodId} {args : Array Value} {below : List Frame} {meth : Method} {c : Code} {own : Nat} {cc : ByteArray} {nL c0 s0 : Nat} {aP : List Nat} {Q : State → Prop} (C : ha_Ctx D cA A p R s m args c own cc nL) {i : Fin 4} {ρ : Type} {call : ha_C} {k done : ha_T ρ} {res : ρ} {pc n : Nat} {ops : List Nat} {mk : List Bool} {L : ha_L} {st : List ha_V} {h : ha_H} (hd : decode cc pc = .ok (.aload_n i, n)) (hok : hs_okr own pc (.aload_n i, n, ops, mk) = true) (ex : ha_step call k done (.aload_n i, n, ops, mk) pc L st h = some res) (hk : ∀ pc' L' st' h', k pc' L' st' h' = some res → ha_WS D cA A p l e R s m args below meth c nL c0 s0 aP Q pc' L' st' h') : ha_WS D cA A p l e R s m args below meth c nL c0 s0 aP Q pc L st h := by
  obtain ⟨hexec, hb, -⟩ := C
  have hn : n = 1 := by simpa [hs_okr] using hok
  subst hn
  unfold ha_step at ex
  dsimp only at ex
  cases hx : hs_nth L i.val with
  | none => rw [hx] at ex; cases ex
  | some o =>
    rw [hx] at ex
    rcases o with _ | x | _ | x
    · cases ex
    · cases ex
    · cases ex
    · intro ls xs H locs cells slots ad ws hr
      obtain ⟨y, hy, hv⟩ := ha_ld hr hx
      obtain ⟨a, ha, rfl⟩ := hv
      exact lv_aload_n hexec hb hd rfl hy (hk _ _ _ _ ex ls _ H locs cells slots ad ws (hr.st ⟨⟨a, ha, rfl⟩, hr.2.2.1⟩))
theorem ha_s_istore {D : va_G} {cA : Nat → ClassId} {A : Nat → Prop} {p : Program} {l : Launch} {e : Env} {R : Room} {s : State} {m : MethodId} {args : Array Value} {below : List Frame} {meth : Method} {c : Code} {own : Nat} {cc : ByteArray} {nL c0 s0 : Nat} {aP : List Nat} {Q : State → Prop} (C : ha_Ctx D cA A p R s m args c own cc nL) {i : Nat} {ρ : Type} {call : ha_C} {k done : ha_T ρ} {res : ρ} {pc n : Nat} {ops : List Nat} {mk : List Bool} {L : ha_L} {st : List ha_V} {h : ha_H} (hd : decode cc pc = .ok (.istore i, n)) (hok : hs_okr own pc (.istore i, n, ops, mk) = true) (ex : ha_step call k done (.istore i, n, ops, mk) pc L st h = some res) (hk : ∀ pc' L' st' h', k pc' L' st' h' = some res → ha_WS D cA A p l e R s m args below meth c nL c0 s0 aP Q pc' L' st' h') : ha_WS D cA A p l e R s m args below meth c nL c0 s0 aP Q pc L st h := by
  obtain ⟨hexec, hb, -⟩ := C
  have hn : n = 2 := by simpa [hs_okr] using hok
  subst hn
  unfold ha_step at ex
  dsimp only at ex
  split at ex
  · rename_i x st0
    obtain ⟨L1, h1, h2, h3, h4⟩ := ha_set_spec L i (.inl x) _ _ ex
    intro ls xs H locs cells slots ad ws hr
    obtain ⟨y, xs', rfl, hv, hst⟩ := hr.2.2.1.cons
    cases hv
    obtain ⟨el, he1, he2⟩ := hr.1
    refine lv_istore hexec hb hd he1 (by rw [← hr.2.1]; exact h3) rfl (fun ls' hl => hk _ _ _ _ h1 ls' _ H locs cells slots ad ws ?_)
    exact ⟨⟨_, hl, ha_stored (v := .inl x) rfl he2 h4⟩, h2.trans hr.2.1, hst, hr.2.2.2⟩
  · cases ex
theorem ha_s_istore_n {D : va_G} {cA : Nat → ClassId} {A : Nat → Prop} {p : Program} {l : Launch} {e : Env} {R : Room} {s : State} {m : MethodId} {args : Array Value} {below : List Frame} {meth : Method} {c : Code} {own : Nat} {cc : ByteArray} {nL c0 s0 : Nat} {aP : List Nat} {Q : State → Prop} (C : ha_Ctx D cA A p R s m args c own cc nL) {i : Fin 4} {ρ : Type} {call : ha_C} {k done : ha_T ρ} {res : ρ} {pc n : Nat} {ops : List Nat} {mk : List Bool} {L : ha_L} {st : List ha_V} {h : ha_H} (hd : decode cc pc = .ok (.istore_n i, n)) (hok : hs_okr own pc (.istore_n i, n, ops, mk) = true) (ex : ha_step call k done (.istore_n i, n, ops, mk) pc L st h = some res) (hk : ∀ pc' L' st' h', k pc' L' st' h' = some res → ha_WS D cA A p l e R s m args below meth c nL c0 s0 aP Q pc' L' st' h') : ha_WS D cA A p l e R s m args below meth c nL c0 s0 aP Q pc L st h := by
  obtain ⟨hexec, hb, -⟩ := C
  have hn : n = 1 := by simpa [hs_okr] using hok
  subst hn
  unfold ha_step at ex
  dsimp only at ex
  split at ex
  · rename_i x st0
    obtain ⟨L1, h1, h2, h3, h4⟩ := ha_set_spec L i.val (.inl x) _ _ ex
    intro ls xs H locs cells slots ad ws hr
    obtain ⟨y, xs', rfl, hv, hst⟩ := hr.2.2.1.cons
    cases hv
    obtain ⟨el, he1, he2⟩ := hr.1
    refine lv_istore_n hexec hb hd rfl he1 (by rw [← hr.2.1]; exact h3) rfl (fun ls' hl => hk _ _ _ _ h1 ls' _ H locs cells slots ad ws ?_)
    exact ⟨⟨_, hl, ha_stored (v := .inl x) rfl he2 h4⟩, h2.trans hr.2.1, hst, hr.2.2.2⟩
  · cases ex
theorem ha_s_iinc {D : va_G} {cA : Nat → ClassId} {A : Nat → Prop} {p : Program} {l : Launch} {e : Env} {R : Room} {s : State} {m : MethodId} {args : Array Value} {below : List Frame} {meth : Method} {c : Code} {own : Nat} {cc : ByteArray} {nL c0 s0 : Nat} {aP : List Nat} {Q : State → Prop} (C : ha_Ctx D cA A p R s m args c own cc nL) {i : Nat} {z : Int} {ρ : Type} {call : ha_C} {k done : ha_T ρ} {res : ρ} {pc n : Nat} {ops : List Nat} {mk : List Bool} {L : ha_L} {st : List ha_V} {h : ha_H} (hd : decode cc pc = .ok (.iinc i z, n)) (hok : hs_okr own pc (.iinc i z, n, ops, mk) = true) (ex : ha_step call k done (.iinc i z, n, ops, mk) pc L st h = some res) (hk : ∀ pc' L' st' h', k pc' L' st' h' = some res → ha_WS D cA A p l e R s m args below meth c nL c0 s0 aP Q pc' L' st' h') : ha_WS D cA A p l e R s m args below meth c nL c0 s0 aP Q pc L st h := by
  obtain ⟨hexec, hb, -⟩ := C
  simp only [hs_okr, Bool.and_eq_true, decide_eq_true_eq] at hok
  have hn : n = 3 := Nat.eq_of_beq_eq_true hok.1
  subst hn
  unfold ha_step at ex
  dsimp only at ex
  cases hx : hs_nth L i with
  | none => rw [hx] at ex; cases ex
  | some o =>
    rw [hx] at ex
    rcases o with _ | x | _ | x
    · cases ex
    · obtain ⟨L1, h1, h2, h3, h4⟩ := ha_set_spec L i (.inl (x + hs_ic z)) _ _ ex
      intro ls xs H locs cells slots ad ws hr
      obtain ⟨el, he1, he2⟩ := hr.1
      obtain ⟨y, hy, hv⟩ := he2 i _ hx
      cases hv
      obtain ⟨k1, hk1⟩ := List.getElem?_of_mem hy
      refine lv_iinc hexec hb hd he1 hk1 (by rw [hok.2]) (by rw [← hr.2.1]; exact h3) rfl (fun ls' hl => hk _ _ _ _ h1 ls' _ H locs cells slots ad ws ?_)
      exact ⟨⟨_, hl, ha_stored (v := .inl (x + hs_ic z)) rfl he2 h4⟩, h2.trans hr.2.1, hr.2.2⟩
    · cases ex
    · cases ex
theorem ha_s_iconst {D : va_G} {cA : Nat → ClassId} {A : Nat → Prop} {p : Program} {l : Launch} {e : Env} {R : Room} {s : State} {m : MethodId} {args : Array Value} {below : List Frame} {meth : Method} {c : Code} {own : Nat} {cc : ByteArray} {nL c0 s0 : Nat} {aP : List Nat} {Q : State → Prop} (C : ha_Ctx D cA A p R s m args c own cc nL) {z : Int} {ρ : Type} {call : ha_C} {k done : ha_T ρ} {res : ρ} {pc n : Nat} {ops : List Nat} {mk : List Bool} {L : ha_L} {st : List ha_V} {h : ha_H} (hd : decode cc pc = .ok (.iconst z, n)) (hok : hs_okr own pc (.iconst z, n, ops, mk) = true) (ex : ha_step call k done (.iconst z, n, ops, mk) pc L st h = some res) (hk : ∀ pc' L' st' h', k pc' L' st' h' = some res → ha_WS D cA A p l e R s m args below meth c nL c0 s0 aP Q pc' L' st' h') : ha_WS D cA A p l e R s m args below meth c nL c0 s0 aP Q pc L st h := by
  obtain ⟨hexec, hb, -⟩ := C
  simp only [hs_okr, Bool.and_eq_true, decide_eq_true_eq] at hok
  have hn : n = 1 := Nat.eq_of_beq_eq_true hok.1
  subst hn
  intro ls xs H locs cells slots ad ws hr
  exact lv_iconst hexec hb hd hok.2 (hk _ _ _ _ ex ls _ H locs cells slots ad ws (hr.st ⟨rfl, hr.2.2.1⟩))
theorem ha_s_bipush {D : va_G} {cA : Nat → ClassId} {A : Nat → Prop} {p : Program} {l : Launch} {e : Env} {R : Room} {s : State} {m : MethodId} {args : Array Value} {below : List Frame} {meth : Method} {c : Code} {own : Nat} {cc : ByteArray} {nL c0 s0 : Nat} {aP : List Nat} {Q : State → Prop} (C : ha_Ctx D cA A p R s m args c own cc nL) {z : Int} {ρ : Type} {call : ha_C} {k done : ha_T ρ} {res : ρ} {pc n : Nat} {ops : List Nat} {mk : List Bool} {L : ha_L} {st : List ha_V} {h : ha_H} (hd : decode cc pc = .ok (.bipush z, n)) (hok : hs_okr own pc (.bipush z, n, ops, mk) = true) (ex : ha_step call k done (.bipush z, n, ops, mk) pc L st h = some res) (hk : ∀ pc' L' st' h', k pc' L' st' h' = some res → ha_WS D cA A p l e R s m args below meth c nL c0 s0 aP Q pc' L' st' h') : ha_WS D cA A p l e R s m args below meth c nL c0 s0 aP Q pc L st h := by
  obtain ⟨hexec, hb, -⟩ := C
  simp only [hs_okr, Bool.and_eq_true, decide_eq_true_eq] at hok
  have hn : n = 2 := Nat.eq_of_beq_eq_true hok.1
  subst hn
  intro ls xs H locs cells slots ad ws hr
  exact lv_bipush hexec hb hd hok.2 (hk _ _ _ _ ex ls _ H locs cells slots ad ws (hr.st ⟨rfl, hr.2.2.1⟩))
theorem ha_s_sipush {D : va_G} {cA : Nat → ClassId} {A : Nat → Prop} {p : Program} {l : Launch} {e : Env} {R : Room} {s : State} {m : MethodId} {args : Array Value} {below : List Frame} {meth : Method} {c : Code} {own : Nat} {cc : ByteArray} {nL c0 s0 : Nat} {aP : List Nat} {Q : State → Prop} (C : ha_Ctx D cA A p R s m args c own cc nL) {z : Int} {ρ : Type} {call : ha_C} {k done : ha_T ρ} {res : ρ} {pc n : Nat} {ops : List Nat} {mk : List Bool} {L : ha_L} {st : List ha_V} {h : ha_H} (hd : decode cc pc = .ok (.sipush z, n)) (hok : hs_okr own pc (.sipush z, n, ops, mk) = true) (ex : ha_step call k done (.sipush z, n, ops, mk) pc L st h = some res) (hk : ∀ pc' L' st' h', k pc' L' st' h' = some res → ha_WS D cA A p l e R s m args below meth c nL c0 s0 aP Q pc' L' st' h') : ha_WS D cA A p l e R s m args below meth c nL c0 s0 aP Q pc L st h := by
  obtain ⟨hexec, hb, -⟩ := C
  simp only [hs_okr, Bool.and_eq_true, decide_eq_true_eq] at hok
  have hn : n = 3 := Nat.eq_of_beq_eq_true hok.1
  subst hn
  intro ls xs H locs cells slots ad ws hr
  exact lv_sipush hexec hb hd hok.2 (hk _ _ _ _ ex ls _ H locs cells slots ad ws (hr.st ⟨rfl, hr.2.2.1⟩))
theorem ha_s_dup {D : va_G} {cA : Nat → ClassId} {A : Nat → Prop} {p : Program} {l : Launch} {e : Env} {R : Room} {s : State} {m : MethodId} {args : Array Value} {below : List Frame} {meth : Method} {c : Code} {own : Nat} {cc : ByteArray} {nL c0 s0 : Nat} {aP : List Nat} {Q : State → Prop} (C : ha_Ctx D cA A p R s m args c own cc nL)  {ρ : Type} {call : ha_C} {k done : ha_T ρ} {res : ρ} {pc n : Nat} {ops : List Nat} {mk : List Bool} {L : ha_L} {st : List ha_V} {h : ha_H} (hd : decode cc pc = .ok (.dup, n)) (hok : hs_okr own pc (.dup, n, ops, mk) = true) (ex : ha_step call k done (.dup, n, ops, mk) pc L st h = some res) (hk : ∀ pc' L' st' h', k pc' L' st' h' = some res → ha_WS D cA A p l e R s m args below meth c nL c0 s0 aP Q pc' L' st' h') : ha_WS D cA A p l e R s m args below meth c nL c0 s0 aP Q pc L st h := by
  obtain ⟨hexec, hb, -⟩ := C
  have hn : n = 1 := by simpa [hs_okr] using hok
  subst hn
  unfold ha_step at ex
  dsimp only at ex
  split at ex
  · rename_i v st0
    intro ls xs H locs cells slots ad ws hr
    obtain ⟨y, xs', rfl, hv, hst⟩ := hr.2.2.1.cons
    exact lv_dup hexec hb hd hv.cat (hk _ _ _ _ ex ls _ H locs cells slots ad ws (hr.st ⟨hv, hv, hst⟩))
  · cases ex
theorem ha_s_goto {D : va_G} {cA : Nat → ClassId} {A : Nat → Prop} {p : Program} {l : Launch} {e : Env} {R : Room} {s : State} {m : MethodId} {args : Array Value} {below : List Frame} {meth : Method} {c : Code} {own : Nat} {cc : ByteArray} {nL c0 s0 : Nat} {aP : List Nat} {Q : State → Prop} (C : ha_Ctx D cA A p R s m args c own cc nL) {off : Int} {ρ : Type} {call : ha_C} {k done : ha_T ρ} {res : ρ} {pc n : Nat} {ops : List Nat} {mk : List Bool} {L : ha_L} {st : List ha_V} {h : ha_H} (hd : decode cc pc = .ok (.goto off, n)) (hok : hs_okr own pc (.goto off, n, ops, mk) = true) (ex : ha_step call k done (.goto off, n, ops, mk) pc L st h = some res) (hk : ∀ pc' L' st' h', k pc' L' st' h' = some res → ha_WS D cA A p l e R s m args below meth c nL c0 s0 aP Q pc' L' st' h') : ha_WS D cA A p l e R s m args below meth c nL c0 s0 aP Q pc L st h := by
  obtain ⟨hexec, hb, -⟩ := C
  simp only [hs_okr, Bool.and_eq_true] at hok
  have hn : n = 3 := Nat.eq_of_beq_eq_true hok.1
  subst hn
  have ht : (pc : Int) + off = (hs_tgt pc off : Int) := by simpa [hs_tok] using hok.2
  unfold ha_step at ex
  dsimp only at ex
  intro ls xs H locs cells slots ad ws hr
  exact lv_goto hexec hb hd ht (hk _ _ _ _ ex ls _ H locs cells slots ad ws hr)
theorem ha_s_if_icmp_ge {D : va_G} {cA : Nat → ClassId} {A : Nat → Prop} {p : Program} {l : Launch} {e : Env} {R : Room} {s : State} {m : MethodId} {args : Array Value} {below : List Frame} {meth : Method} {c : Code} {own : Nat} {cc : ByteArray} {nL c0 s0 : Nat} {aP : List Nat} {Q : State → Prop} (C : ha_Ctx D cA A p R s m args c own cc nL) {off : Int} {ρ : Type} {call : ha_C} {k done : ha_T ρ} {res : ρ} {pc n : Nat} {ops : List Nat} {mk : List Bool} {L : ha_L} {st : List ha_V} {h : ha_H} (hd : decode cc pc = .ok (.if_icmp .ge off, n)) (hok : hs_okr own pc (.if_icmp .ge off, n, ops, mk) = true) (ex : ha_step call k done (.if_icmp .ge off, n, ops, mk) pc L st h = some res) (hk : ∀ pc' L' st' h', k pc' L' st' h' = some res → ha_WS D cA A p l e R s m args below meth c nL c0 s0 aP Q pc' L' st' h') : ha_WS D cA A p l e R s m args below meth c nL c0 s0 aP Q pc L st h := by
  obtain ⟨hexec, hb, -⟩ := C
  simp only [hs_okr, Bool.and_eq_true] at hok
  have hn : n = 3 := Nat.eq_of_beq_eq_true hok.1
  subst hn
  have ht : (pc : Int) + off = (hs_tgt pc off : Int) := by simpa [hs_tok] using hok.2
  unfold ha_step at ex
  dsimp only at ex
  split at ex
  · rename_i y x st0
    intro ls xs H locs cells slots ad ws hr
    obtain ⟨y1, xs', rfl, hv, hst⟩ := hr.2.2.1.cons
    cases hv
    obtain ⟨x1, xs2, rfl, hv, hst2⟩ := hst.cons
    cases hv
    by_cases hc : x < y
    · rw [if_pos hc] at ex
      exact lv_icmp_ge hexec hb hd ht (fun q => absurd hc (Int32.not_lt.mpr q)) (fun _ => hk _ _ _ _ ex ls _ H locs cells slots ad ws (hr.st hst2))
    · rw [if_neg hc] at ex
      exact lv_icmp_ge hexec hb hd ht (fun _ => hk _ _ _ _ ex ls _ H locs cells slots ad ws (hr.st hst2)) (fun q => absurd (Int32.not_lt.mp hc) q)
  · cases ex
theorem ha_s_if_icmp_gt {D : va_G} {cA : Nat → ClassId} {A : Nat → Prop} {p : Program} {l : Launch} {e : Env} {R : Room} {s : State} {m : MethodId} {args : Array Value} {below : List Frame} {meth : Method} {c : Code} {own : Nat} {cc : ByteArray} {nL c0 s0 : Nat} {aP : List Nat} {Q : State → Prop} (C : ha_Ctx D cA A p R s m args c own cc nL) {off : Int} {ρ : Type} {call : ha_C} {k done : ha_T ρ} {res : ρ} {pc n : Nat} {ops : List Nat} {mk : List Bool} {L : ha_L} {st : List ha_V} {h : ha_H} (hd : decode cc pc = .ok (.if_icmp .gt off, n)) (hok : hs_okr own pc (.if_icmp .gt off, n, ops, mk) = true) (ex : ha_step call k done (.if_icmp .gt off, n, ops, mk) pc L st h = some res) (hk : ∀ pc' L' st' h', k pc' L' st' h' = some res → ha_WS D cA A p l e R s m args below meth c nL c0 s0 aP Q pc' L' st' h') : ha_WS D cA A p l e R s m args below meth c nL c0 s0 aP Q pc L st h := by
  obtain ⟨hexec, hb, -⟩ := C
  simp only [hs_okr, Bool.and_eq_true] at hok
  have hn : n = 3 := Nat.eq_of_beq_eq_true hok.1
  subst hn
  have ht : (pc : Int) + off = (hs_tgt pc off : Int) := by simpa [hs_tok] using hok.2
  unfold ha_step at ex
  dsimp only at ex
  split at ex
  · rename_i y x st0
    intro ls xs H locs cells slots ad ws hr
    obtain ⟨y1, xs', rfl, hv, hst⟩ := hr.2.2.1.cons
    cases hv
    obtain ⟨x1, xs2, rfl, hv, hst2⟩ := hst.cons
    cases hv
    by_cases hc : y < x
    · rw [if_pos hc] at ex
      exact lv_icmp_gt hexec hb hd ht (fun _ => hk _ _ _ _ ex ls _ H locs cells slots ad ws (hr.st hst2)) (fun q => absurd hc q)
    · rw [if_neg hc] at ex
      exact lv_icmp_gt hexec hb hd ht (fun q => absurd q hc) (fun _ => hk _ _ _ _ ex ls _ H locs cells slots ad ws (hr.st hst2))
  · cases ex
