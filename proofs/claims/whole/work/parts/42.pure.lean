/-! ===== each instruction of the machine is the kit's ===== -/
/-- whatever frame and heap hold these locals, this stack, this memory: the machine comes to Q -/
def hs_WS (g : hs_G) (p : Program) (l : Launch) (e : Env) (R : Room) (s : State) (m : MethodId) (args : Array Value) (below : List Frame) (meth : Method) (c : Code) (cells slots nL : Nat) (Q : State → Prop) (pc : Nat) (L : hs_L) (st : List hs_V) (μ : hs_M) : Prop :=
  ∀ (ls : Array Slot) (H : Heap) (locs : List Loc), hs_rel g nL s L st μ ls H locs → W p l e R s m args below meth c H locs cells slots Q (F0 m pc ls (st.map (hs_enc g)))
theorem hs_rel.st {g : hs_G} {nL : Nat} {s : State} {L : hs_L} {st st' : List hs_V} {μ : hs_M} {ls : Array Slot} {H : Heap} {locs : List Loc} (h : hs_rel g nL s L st μ ls H locs) (hs : ∀ v ∈ st', hs_ok v) : hs_rel g nL s L st' μ ls H locs := ⟨h.1, h.2.1, h.2.2.1, hs, h.2.2.2.2⟩
theorem hs_rel.tail {g : hs_G} {nL : Nat} {s : State} {L : hs_L} {st st' : List hs_V} {μ : hs_M} {ls : Array Slot} {H : Heap} {locs : List Loc} (h : hs_rel g nL s L st μ ls H locs) (hs : ∀ v ∈ st', v ∈ st ∨ hs_ok v) : hs_rel g nL s L st' μ ls H locs := h.st (fun v hv => (hs v hv).elim (h.2.2.2.1 v) id)
theorem hs_okv_i (x : Int32) : hs_ok (vI x) := trivial
theorem hs_okv_l (x : Int64) : hs_ok (vL x) := trivial
theorem hs_ld {g : hs_G} {nL : Nat} {s : State} {L : hs_L} {st : List hs_V} {μ : hs_M} {ls : Array Slot} {H : Heap} {locs : List Loc} (h : hs_rel g nL s L st μ ls H locs) {i : Nat} {v : hs_V} (hv : hs_nth L i = some (some v)) : ls[i]? = some (.val (hs_enc g v)) := by
  have := h.1.2.2 (i, hs_enc g v) ((hs_el_mem L 0 _).mpr ⟨i, v, hv, by rw [Nat.zero_add]⟩)
  exact this
theorem hs_rel.stored1 {g : hs_G} {nL : Nat} {s : State} {L L' : hs_L} {st st' : List hs_V} {μ : hs_M} {ls ls' : Array Slot} {H : Heap} {locs : List Loc} (h : hs_rel g nL s L st μ ls H locs) {i : Nat} {v : hs_V} (hl : L'.length = L.length) (hv : hs_ok v) (hs : ∀ w ∈ st', w ∈ st)
    (hx : ∀ k w, hs_nth L' k = some (some w) → (k = i ∧ w = v) ∨ (k ≠ i ∧ hs_nth L k = some (some w) ∧ ¬ (k + 1 = i ∧ hs_cat w = 2)))
    (h' : lv_has ls' nL ((i, hs_enc g v) :: (hs_el g 0 L).filter (fun q => !(q.1 == i) && !(q.1 + 1 == i && q.2.category == 2)))) : hs_rel g nL s L' st' μ ls' H locs := by
  refine ⟨lv_less h' ?_, hl.trans h.2.1, ?_, fun w hw => h.2.2.2.1 w (hs w hw), h.2.2.2.2⟩
  · intro q hq
    obtain ⟨k, w, hk, e⟩ := (hs_el_mem L' 0 q).mp hq
    rw [Nat.zero_add] at e
    rcases hx k w hk with ⟨a, b⟩ | ⟨a, b, d⟩
    · rw [e, a, b]; exact List.mem_cons_self
    · refine List.mem_cons_of_mem _ (List.mem_filter.mpr ⟨(hs_el_mem L 0 q).mpr ⟨k, w, b, by rw [Nat.zero_add]; exact e⟩, ?_⟩)
      rw [e]
      simp only [hs_enc_cat, Bool.and_eq_true, Bool.not_eq_true', beq_eq_false_iff_ne, ne_eq, Bool.and_eq_false_iff]
      refine ⟨a, ?_⟩
      by_cases z : k + 1 = i
      · exact Or.inr (fun y => d ⟨z, y⟩)
      · exact Or.inl z
  · intro k w hk
    rcases hx k w hk with ⟨-, b⟩ | ⟨-, b, -⟩
    · rw [b]; exact hv
    · exact h.2.2.1 k w b
theorem hs_rel.stored2 {g : hs_G} {nL : Nat} {s : State} {L L' : hs_L} {st st' : List hs_V} {μ : hs_M} {ls ls' : Array Slot} {H : Heap} {locs : List Loc} (h : hs_rel g nL s L st μ ls H locs) {i : Nat} {v : hs_V} (hl : L'.length = L.length) (hv : hs_ok v) (hs : ∀ w ∈ st', w ∈ st)
    (hx : ∀ k w, hs_nth L' k = some (some w) → (k = i ∧ w = v) ∨ (k ≠ i ∧ k ≠ i + 1 ∧ hs_nth L k = some (some w) ∧ ¬ (k + 1 = i ∧ hs_cat w = 2)))
    (h' : lv_has ls' nL ((i, hs_enc g v) :: (hs_el g 0 L).filter (fun q => !(q.1 == i) && (!(q.1 == i + 1) && !(q.1 + 1 == i && q.2.category == 2))))) : hs_rel g nL s L' st' μ ls' H locs := by
  refine ⟨lv_less h' ?_, hl.trans h.2.1, ?_, fun w hw => h.2.2.2.1 w (hs w hw), h.2.2.2.2⟩
  · intro q hq
    obtain ⟨k, w, hk, e⟩ := (hs_el_mem L' 0 q).mp hq
    rw [Nat.zero_add] at e
    rcases hx k w hk with ⟨a, b⟩ | ⟨a, a2, b, d⟩
    · rw [e, a, b]; exact List.mem_cons_self
    · refine List.mem_cons_of_mem _ (List.mem_filter.mpr ⟨(hs_el_mem L 0 q).mpr ⟨k, w, b, by rw [Nat.zero_add]; exact e⟩, ?_⟩)
      rw [e]
      simp only [hs_enc_cat, Bool.and_eq_true, Bool.not_eq_true', beq_eq_false_iff_ne, ne_eq, Bool.and_eq_false_iff]
      refine ⟨a, a2, ?_⟩
      by_cases z : k + 1 = i
      · exact Or.inr (fun y => d ⟨z, y⟩)
      · exact Or.inl z
  · intro k w hk
    rcases hx k w hk with ⟨-, b⟩ | ⟨-, -, b, -⟩
    · rw [b]; exact hv
    · exact h.2.2.1 k w b
theorem hs_s_iload {g : hs_G} {p : Program} {l : Launch} {e : Env} {R : Room} {s : State} {m : MethodId} {args : Array Value} {below : List Frame} {meth : Method} {c : Code} {cells slots own : Nat} {cc : ByteArray} {nL : Nat} {call : hs_C} {Q : State → Prop} (C : hs_Ctx g p l R s m args c cells slots own cc nL call) {i : Nat} {pc n : Nat} {ops : List Nat} {mk : List Bool} {L : hs_L} {st : List hs_V} {μ : hs_M} {pc' : Nat} {L' : hs_L} {st' : List hs_V} {μ' : hs_M} (hd : decode cc pc = .ok (.iload i, n)) (hok : hs_okr own pc (.iload i, n, ops, mk) = true) (ex : hs_nx call (.iload i, n, ops, mk) pc L st μ = some (.inl (pc', L', st', μ'))) (hk : hs_WS g p l e R s m args below meth c cells slots nL Q pc' L' st' μ') : hs_WS g p l e R s m args below meth c cells slots nL Q pc L st μ := by
  obtain ⟨hexec, hb, -⟩ := C
  have hn : n = 2 := by simpa [hs_okr] using hok
  subst hn
  unfold hs_nx hs_step at ex
  dsimp only at ex
  cases hx : hs_nth L i with
  | none => rw [hx] at ex; cases ex
  | some o =>
    rw [hx] at ex
    rcases o with _ | x | x | x
    · cases ex
    · cases ex
      intro ls H locs hr
      exact lv_iload hexec hb hd (hs_ld hr hx) (hk ls H locs (hr.tail (fun w hw => (List.mem_cons.mp hw).elim (fun q => by rw [q]; exact Or.inr (hs_okv_i x)) Or.inl)))
    · cases ex
    · cases ex
theorem hs_s_iload_n {g : hs_G} {p : Program} {l : Launch} {e : Env} {R : Room} {s : State} {m : MethodId} {args : Array Value} {below : List Frame} {meth : Method} {c : Code} {cells slots own : Nat} {cc : ByteArray} {nL : Nat} {call : hs_C} {Q : State → Prop} (C : hs_Ctx g p l R s m args c cells slots own cc nL call) {i : Fin 4} {pc n : Nat} {ops : List Nat} {mk : List Bool} {L : hs_L} {st : List hs_V} {μ : hs_M} {pc' : Nat} {L' : hs_L} {st' : List hs_V} {μ' : hs_M} (hd : decode cc pc = .ok (.iload_n i, n)) (hok : hs_okr own pc (.iload_n i, n, ops, mk) = true) (ex : hs_nx call (.iload_n i, n, ops, mk) pc L st μ = some (.inl (pc', L', st', μ'))) (hk : hs_WS g p l e R s m args below meth c cells slots nL Q pc' L' st' μ') : hs_WS g p l e R s m args below meth c cells slots nL Q pc L st μ := by
  obtain ⟨hexec, hb, -⟩ := C
  have hn : n = 1 := by simpa [hs_okr] using hok
  subst hn
  unfold hs_nx hs_step at ex
  dsimp only at ex
  cases hx : hs_nth L i.val with
  | none => rw [hx] at ex; cases ex
  | some o =>
    rw [hx] at ex
    rcases o with _ | x | x | x
    · cases ex
    · cases ex
      intro ls H locs hr
      exact lv_iload_n hexec hb hd rfl (hs_ld hr hx) (hk ls H locs (hr.tail (fun w hw => (List.mem_cons.mp hw).elim (fun q => by rw [q]; exact Or.inr (hs_okv_i x)) Or.inl)))
    · cases ex
    · cases ex
theorem hs_s_lload {g : hs_G} {p : Program} {l : Launch} {e : Env} {R : Room} {s : State} {m : MethodId} {args : Array Value} {below : List Frame} {meth : Method} {c : Code} {cells slots own : Nat} {cc : ByteArray} {nL : Nat} {call : hs_C} {Q : State → Prop} (C : hs_Ctx g p l R s m args c cells slots own cc nL call) {i : Nat} {pc n : Nat} {ops : List Nat} {mk : List Bool} {L : hs_L} {st : List hs_V} {μ : hs_M} {pc' : Nat} {L' : hs_L} {st' : List hs_V} {μ' : hs_M} (hd : decode cc pc = .ok (.lload i, n)) (hok : hs_okr own pc (.lload i, n, ops, mk) = true) (ex : hs_nx call (.lload i, n, ops, mk) pc L st μ = some (.inl (pc', L', st', μ'))) (hk : hs_WS g p l e R s m args below meth c cells slots nL Q pc' L' st' μ') : hs_WS g p l e R s m args below meth c cells slots nL Q pc L st μ := by
  obtain ⟨hexec, hb, -⟩ := C
  have hn : n = 2 := by simpa [hs_okr] using hok
  subst hn
  unfold hs_nx hs_step at ex
  dsimp only at ex
  cases hx : hs_nth L i with
  | none => rw [hx] at ex; cases ex
  | some o =>
    rw [hx] at ex
    rcases o with _ | x | x | x
    · cases ex
    · cases ex
    · cases ex
      intro ls H locs hr
      exact lv_lload hexec hb hd (hs_ld hr hx) (hk ls H locs (hr.tail (fun w hw => (List.mem_cons.mp hw).elim (fun q => by rw [q]; exact Or.inr (hs_okv_l x)) Or.inl)))
    · cases ex
theorem hs_s_lload_n {g : hs_G} {p : Program} {l : Launch} {e : Env} {R : Room} {s : State} {m : MethodId} {args : Array Value} {below : List Frame} {meth : Method} {c : Code} {cells slots own : Nat} {cc : ByteArray} {nL : Nat} {call : hs_C} {Q : State → Prop} (C : hs_Ctx g p l R s m args c cells slots own cc nL call) {i : Fin 4} {pc n : Nat} {ops : List Nat} {mk : List Bool} {L : hs_L} {st : List hs_V} {μ : hs_M} {pc' : Nat} {L' : hs_L} {st' : List hs_V} {μ' : hs_M} (hd : decode cc pc = .ok (.lload_n i, n)) (hok : hs_okr own pc (.lload_n i, n, ops, mk) = true) (ex : hs_nx call (.lload_n i, n, ops, mk) pc L st μ = some (.inl (pc', L', st', μ'))) (hk : hs_WS g p l e R s m args below meth c cells slots nL Q pc' L' st' μ') : hs_WS g p l e R s m args below meth c cells slots nL Q pc L st μ := by
  obtain ⟨hexec, hb, -⟩ := C
  have hn : n = 1 := by simpa [hs_okr] using hok
  subst hn
  unfold hs_nx hs_step at ex
  dsimp only at ex
  cases hx : hs_nth L i.val with
  | none => rw [hx] at ex; cases ex
  | some o =>
    rw [hx] at ex
    rcases o with _ | x | x | x
    · cases ex
    · cases ex
    · cases ex
      intro ls H locs hr
      exact lv_lload_n hexec hb hd rfl (hs_ld hr hx) (hk ls H locs (hr.tail (fun w hw => (List.mem_cons.mp hw).elim (fun q => by rw [q]; exact Or.inr (hs_okv_l x)) Or.inl)))
    · cases ex
theorem hs_s_aload {g : hs_G} {p : Program} {l : Launch} {e : Env} {R : Room} {s : State} {m : MethodId} {args : Array Value} {below : List Frame} {meth : Method} {c : Code} {cells slots own : Nat} {cc : ByteArray} {nL : Nat} {call : hs_C} {Q : State → Prop} (C : hs_Ctx g p l R s m args c cells slots own cc nL call) {i : Nat} {pc n : Nat} {ops : List Nat} {mk : List Bool} {L : hs_L} {st : List hs_V} {μ : hs_M} {pc' : Nat} {L' : hs_L} {st' : List hs_V} {μ' : hs_M} (hd : decode cc pc = .ok (.aload i, n)) (hok : hs_okr own pc (.aload i, n, ops, mk) = true) (ex : hs_nx call (.aload i, n, ops, mk) pc L st μ = some (.inl (pc', L', st', μ'))) (hk : hs_WS g p l e R s m args below meth c cells slots nL Q pc' L' st' μ') : hs_WS g p l e R s m args below meth c cells slots nL Q pc L st μ := by
  obtain ⟨hexec, hb, -⟩ := C
  have hn : n = 2 := by simpa [hs_okr] using hok
  subst hn
  unfold hs_nx hs_step at ex
  dsimp only at ex
  cases hx : hs_nth L i with
  | none => rw [hx] at ex; cases ex
  | some o =>
    rw [hx] at ex
    rcases o with _ | x | x | x
    · cases ex
    · cases ex
    · cases ex
    · cases ex
      intro ls H locs hr
      exact lv_aload hexec hb hd (hs_ld hr hx) (hk ls H locs (hr.tail (fun w hw => (List.mem_cons.mp hw).elim (fun q => by rw [q]; exact Or.inr (hr.2.2.1 _ _ hx)) Or.inl)))
theorem hs_s_aload_n {g : hs_G} {p : Program} {l : Launch} {e : Env} {R : Room} {s : State} {m : MethodId} {args : Array Value} {below : List Frame} {meth : Method} {c : Code} {cells slots own : Nat} {cc : ByteArray} {nL : Nat} {call : hs_C} {Q : State → Prop} (C : hs_Ctx g p l R s m args c cells slots own cc nL call) {i : Fin 4} {pc n : Nat} {ops : List Nat} {mk : List Bool} {L : hs_L} {st : List hs_V} {μ : hs_M} {pc' : Nat} {L' : hs_L} {st' : List hs_V} {μ' : hs_M} (hd : decode cc pc = .ok (.aload_n i, n)) (hok : hs_okr own pc (.aload_n i, n, ops, mk) = true) (ex : hs_nx call (.aload_n i, n, ops, mk) pc L st μ = some (.inl (pc', L', st', μ'))) (hk : hs_WS g p l e R s m args below meth c cells slots nL Q pc' L' st' μ') : hs_WS g p l e R s m args below meth c cells slots nL Q pc L st μ := by
  obtain ⟨hexec, hb, -⟩ := C
  have hn : n = 1 := by simpa [hs_okr] using hok
  subst hn
  unfold hs_nx hs_step at ex
  dsimp only at ex
  cases hx : hs_nth L i.val with
  | none => rw [hx] at ex; cases ex
  | some o =>
    rw [hx] at ex
    rcases o with _ | x | x | x
    · cases ex
    · cases ex
    · cases ex
    · cases ex
      intro ls H locs hr
      exact lv_aload_n hexec hb hd rfl (hs_ld hr hx) (hk ls H locs (hr.tail (fun w hw => (List.mem_cons.mp hw).elim (fun q => by rw [q]; exact Or.inr (hr.2.2.1 _ _ hx)) Or.inl)))
theorem hs_s_istore {g : hs_G} {p : Program} {l : Launch} {e : Env} {R : Room} {s : State} {m : MethodId} {args : Array Value} {below : List Frame} {meth : Method} {c : Code} {cells slots own : Nat} {cc : ByteArray} {nL : Nat} {call : hs_C} {Q : State → Prop} (C : hs_Ctx g p l R s m args c cells slots own cc nL call) {i : Nat} {pc n : Nat} {ops : List Nat} {mk : List Bool} {L : hs_L} {st : List hs_V} {μ : hs_M} {pc' : Nat} {L' : hs_L} {st' : List hs_V} {μ' : hs_M} (hd : decode cc pc = .ok (.istore i, n)) (hok : hs_okr own pc (.istore i, n, ops, mk) = true) (ex : hs_nx call (.istore i, n, ops, mk) pc L st μ = some (.inl (pc', L', st', μ'))) (hk : hs_WS g p l e R s m args below meth c cells slots nL Q pc' L' st' μ') : hs_WS g p l e R s m args below meth c cells slots nL Q pc L st μ := by
  obtain ⟨hexec, hb, -⟩ := C
  have hn : n = 2 := by simpa [hs_okr] using hok
  subst hn
  unfold hs_nx hs_step at ex
  dsimp only at ex
  split at ex
  · rename_i x st0
    obtain ⟨L1, h1, h2, h3, h4⟩ := hs_set1_spec L i (vI x) _ _ ex
    cases h1
    intro ls H locs hr
    refine lv_istore hexec hb hd hr.1 (by rw [← hr.2.1]; exact h3) rfl (fun ls' hl => hk ls' H locs ?_)
    exact hr.stored1 (v := vI x) h2 (hs_okv_i x) (fun w hw => List.mem_cons_of_mem _ hw) h4 hl
  · cases ex
theorem hs_s_istore_n {g : hs_G} {p : Program} {l : Launch} {e : Env} {R : Room} {s : State} {m : MethodId} {args : Array Value} {below : List Frame} {meth : Method} {c : Code} {cells slots own : Nat} {cc : ByteArray} {nL : Nat} {call : hs_C} {Q : State → Prop} (C : hs_Ctx g p l R s m args c cells slots own cc nL call) {i : Fin 4} {pc n : Nat} {ops : List Nat} {mk : List Bool} {L : hs_L} {st : List hs_V} {μ : hs_M} {pc' : Nat} {L' : hs_L} {st' : List hs_V} {μ' : hs_M} (hd : decode cc pc = .ok (.istore_n i, n)) (hok : hs_okr own pc (.istore_n i, n, ops, mk) = true) (ex : hs_nx call (.istore_n i, n, ops, mk) pc L st μ = some (.inl (pc', L', st', μ'))) (hk : hs_WS g p l e R s m args below meth c cells slots nL Q pc' L' st' μ') : hs_WS g p l e R s m args below meth c cells slots nL Q pc L st μ := by
  obtain ⟨hexec, hb, -⟩ := C
  have hn : n = 1 := by simpa [hs_okr] using hok
  subst hn
  unfold hs_nx hs_step at ex
  dsimp only at ex
  split at ex
  · rename_i x st0
    obtain ⟨L1, h1, h2, h3, h4⟩ := hs_set1_spec L i.val (vI x) _ _ ex
    cases h1
    intro ls H locs hr
    refine lv_istore_n hexec hb hd rfl hr.1 (by rw [← hr.2.1]; exact h3) rfl (fun ls' hl => hk ls' H locs ?_)
    exact hr.stored1 (v := vI x) h2 (hs_okv_i x) (fun w hw => List.mem_cons_of_mem _ hw) h4 hl
  · cases ex
theorem hs_s_lstore {g : hs_G} {p : Program} {l : Launch} {e : Env} {R : Room} {s : State} {m : MethodId} {args : Array Value} {below : List Frame} {meth : Method} {c : Code} {cells slots own : Nat} {cc : ByteArray} {nL : Nat} {call : hs_C} {Q : State → Prop} (C : hs_Ctx g p l R s m args c cells slots own cc nL call) {i : Nat} {pc n : Nat} {ops : List Nat} {mk : List Bool} {L : hs_L} {st : List hs_V} {μ : hs_M} {pc' : Nat} {L' : hs_L} {st' : List hs_V} {μ' : hs_M} (hd : decode cc pc = .ok (.lstore i, n)) (hok : hs_okr own pc (.lstore i, n, ops, mk) = true) (ex : hs_nx call (.lstore i, n, ops, mk) pc L st μ = some (.inl (pc', L', st', μ'))) (hk : hs_WS g p l e R s m args below meth c cells slots nL Q pc' L' st' μ') : hs_WS g p l e R s m args below meth c cells slots nL Q pc L st μ := by
  obtain ⟨hexec, hb, -⟩ := C
  have hn : n = 2 := by simpa [hs_okr] using hok
  subst hn
  unfold hs_nx hs_step at ex
  dsimp only at ex
  split at ex
  · rename_i x st0
    obtain ⟨L1, h1, h2, h3, h4⟩ := hs_set2_spec L i (vL x) _ _ ex
    cases h1
    intro ls H locs hr
    refine lv_lstore hexec hb hd hr.1 (by rw [← hr.2.1]; exact h3) rfl (fun ls' hl => hk ls' H locs ?_)
    exact hr.stored2 (v := vL x) h2 (hs_okv_l x) (fun w hw => List.mem_cons_of_mem _ hw) h4 hl
  · cases ex
theorem hs_s_lstore_n {g : hs_G} {p : Program} {l : Launch} {e : Env} {R : Room} {s : State} {m : MethodId} {args : Array Value} {below : List Frame} {meth : Method} {c : Code} {cells slots own : Nat} {cc : ByteArray} {nL : Nat} {call : hs_C} {Q : State → Prop} (C : hs_Ctx g p l R s m args c cells slots own cc nL call) {i : Fin 4} {pc n : Nat} {ops : List Nat} {mk : List Bool} {L : hs_L} {st : List hs_V} {μ : hs_M} {pc' : Nat} {L' : hs_L} {st' : List hs_V} {μ' : hs_M} (hd : decode cc pc = .ok (.lstore_n i, n)) (hok : hs_okr own pc (.lstore_n i, n, ops, mk) = true) (ex : hs_nx call (.lstore_n i, n, ops, mk) pc L st μ = some (.inl (pc', L', st', μ'))) (hk : hs_WS g p l e R s m args below meth c cells slots nL Q pc' L' st' μ') : hs_WS g p l e R s m args below meth c cells slots nL Q pc L st μ := by
  obtain ⟨hexec, hb, -⟩ := C
  have hn : n = 1 := by simpa [hs_okr] using hok
  subst hn
  unfold hs_nx hs_step at ex
  dsimp only at ex
  split at ex
  · rename_i x st0
    obtain ⟨L1, h1, h2, h3, h4⟩ := hs_set2_spec L i.val (vL x) _ _ ex
    cases h1
    intro ls H locs hr
    refine lv_lstore_n hexec hb hd rfl hr.1 (by rw [← hr.2.1]; exact h3) rfl (fun ls' hl => hk ls' H locs ?_)
    exact hr.stored2 (v := vL x) h2 (hs_okv_l x) (fun w hw => List.mem_cons_of_mem _ hw) h4 hl
  · cases ex
theorem hs_s_astore {g : hs_G} {p : Program} {l : Launch} {e : Env} {R : Room} {s : State} {m : MethodId} {args : Array Value} {below : List Frame} {meth : Method} {c : Code} {cells slots own : Nat} {cc : ByteArray} {nL : Nat} {call : hs_C} {Q : State → Prop} (C : hs_Ctx g p l R s m args c cells slots own cc nL call) {i : Nat} {pc n : Nat} {ops : List Nat} {mk : List Bool} {L : hs_L} {st : List hs_V} {μ : hs_M} {pc' : Nat} {L' : hs_L} {st' : List hs_V} {μ' : hs_M} (hd : decode cc pc = .ok (.astore i, n)) (hok : hs_okr own pc (.astore i, n, ops, mk) = true) (ex : hs_nx call (.astore i, n, ops, mk) pc L st μ = some (.inl (pc', L', st', μ'))) (hk : hs_WS g p l e R s m args below meth c cells slots nL Q pc' L' st' μ') : hs_WS g p l e R s m args below meth c cells slots nL Q pc L st μ := by
  obtain ⟨hexec, hb, -⟩ := C
  have hn : n = 2 := by simpa [hs_okr] using hok
  subst hn
  unfold hs_nx hs_step at ex
  dsimp only at ex
  split at ex
  · rename_i κ j st0
    obtain ⟨L1, h1, h2, h3, h4⟩ := hs_set1_spec L i (vR κ j) _ _ ex
    cases h1
    intro ls H locs hr
    refine lv_astore hexec hb hd hr.1 (by rw [← hr.2.1]; exact h3) rfl (fun ls' hl => hk ls' H locs ?_)
    exact hr.stored1 (v := vR κ j) h2 (hr.2.2.2.1 _ List.mem_cons_self) (fun w hw => List.mem_cons_of_mem _ hw) h4 hl
  · cases ex
theorem hs_s_astore_n {g : hs_G} {p : Program} {l : Launch} {e : Env} {R : Room} {s : State} {m : MethodId} {args : Array Value} {below : List Frame} {meth : Method} {c : Code} {cells slots own : Nat} {cc : ByteArray} {nL : Nat} {call : hs_C} {Q : State → Prop} (C : hs_Ctx g p l R s m args c cells slots own cc nL call) {i : Fin 4} {pc n : Nat} {ops : List Nat} {mk : List Bool} {L : hs_L} {st : List hs_V} {μ : hs_M} {pc' : Nat} {L' : hs_L} {st' : List hs_V} {μ' : hs_M} (hd : decode cc pc = .ok (.astore_n i, n)) (hok : hs_okr own pc (.astore_n i, n, ops, mk) = true) (ex : hs_nx call (.astore_n i, n, ops, mk) pc L st μ = some (.inl (pc', L', st', μ'))) (hk : hs_WS g p l e R s m args below meth c cells slots nL Q pc' L' st' μ') : hs_WS g p l e R s m args below meth c cells slots nL Q pc L st μ := by
  obtain ⟨hexec, hb, -⟩ := C
  have hn : n = 1 := by simpa [hs_okr] using hok
  subst hn
  unfold hs_nx hs_step at ex
  dsimp only at ex
  split at ex
  · rename_i κ j st0
    obtain ⟨L1, h1, h2, h3, h4⟩ := hs_set1_spec L i.val (vR κ j) _ _ ex
    cases h1
    intro ls H locs hr
    refine lv_astore_n hexec hb hd rfl hr.1 (by rw [← hr.2.1]; exact h3) rfl (fun ls' hl => hk ls' H locs ?_)
    exact hr.stored1 (v := vR κ j) h2 (hr.2.2.2.1 _ List.mem_cons_self) (fun w hw => List.mem_cons_of_mem _ hw) h4 hl
  · cases ex
theorem hs_s_iinc {g : hs_G} {p : Program} {l : Launch} {e : Env} {R : Room} {s : State} {m : MethodId} {args : Array Value} {below : List Frame} {meth : Method} {c : Code} {cells slots own : Nat} {cc : ByteArray} {nL : Nat} {call : hs_C} {Q : State → Prop} (C : hs_Ctx g p l R s m args c cells slots own cc nL call) {i : Nat} {z : Int} {pc n : Nat} {ops : List Nat} {mk : List Bool} {L : hs_L} {st : List hs_V} {μ : hs_M} {pc' : Nat} {L' : hs_L} {st' : List hs_V} {μ' : hs_M} (hd : decode cc pc = .ok (.iinc i z, n)) (hok : hs_okr own pc (.iinc i z, n, ops, mk) = true) (ex : hs_nx call (.iinc i z, n, ops, mk) pc L st μ = some (.inl (pc', L', st', μ'))) (hk : hs_WS g p l e R s m args below meth c cells slots nL Q pc' L' st' μ') : hs_WS g p l e R s m args below meth c cells slots nL Q pc L st μ := by
  obtain ⟨hexec, hb, -⟩ := C
  simp only [hs_okr, Bool.and_eq_true, decide_eq_true_eq] at hok
  have hn : n = 3 := Nat.eq_of_beq_eq_true hok.1
  subst hn
  unfold hs_nx hs_step at ex
  dsimp only at ex
  cases hx : hs_nth L i with
  | none => rw [hx] at ex; cases ex
  | some o =>
    rw [hx] at ex
    rcases o with _ | x | x | x
    · cases ex
    · obtain ⟨L1, h1, h2, h3, h4⟩ := hs_set1_spec L i (vI (x + hs_ic z)) _ _ ex
      cases h1
      intro ls H locs hr
      obtain ⟨k, hk1⟩ := List.getElem?_of_mem ((hs_el_mem (g := g) L 0 (i, .int x)).mpr ⟨i, vI x, hx, by rw [Nat.zero_add]; rfl⟩)
      refine lv_iinc hexec hb hd hr.1 hk1 (by rw [hok.2]) (by rw [← hr.2.1]; exact h3) rfl (fun ls' hl => hk ls' H locs ?_)
      exact hr.stored1 (v := vI (x + hs_ic z)) h2 (hs_okv_i _) (fun w hw => hw) h4 hl
    · cases ex
    · cases ex
theorem hs_s_iconst {g : hs_G} {p : Program} {l : Launch} {e : Env} {R : Room} {s : State} {m : MethodId} {args : Array Value} {below : List Frame} {meth : Method} {c : Code} {cells slots own : Nat} {cc : ByteArray} {nL : Nat} {call : hs_C} {Q : State → Prop} (C : hs_Ctx g p l R s m args c cells slots own cc nL call) {z : Int} {pc n : Nat} {ops : List Nat} {mk : List Bool} {L : hs_L} {st : List hs_V} {μ : hs_M} {pc' : Nat} {L' : hs_L} {st' : List hs_V} {μ' : hs_M} (hd : decode cc pc = .ok (.iconst z, n)) (hok : hs_okr own pc (.iconst z, n, ops, mk) = true) (ex : hs_nx call (.iconst z, n, ops, mk) pc L st μ = some (.inl (pc', L', st', μ'))) (hk : hs_WS g p l e R s m args below meth c cells slots nL Q pc' L' st' μ') : hs_WS g p l e R s m args below meth c cells slots nL Q pc L st μ := by
  obtain ⟨hexec, hb, -⟩ := C
  simp only [hs_okr, Bool.and_eq_true, decide_eq_true_eq] at hok
  have hn : n = 1 := Nat.eq_of_beq_eq_true hok.1
  subst hn
  cases ex
  intro ls H locs hr
  exact lv_iconst hexec hb hd hok.2 (hk ls H locs (hr.tail (fun w hw => (List.mem_cons.mp hw).elim (fun q => by rw [q]; exact Or.inr (hs_okv_i _)) Or.inl)))
theorem hs_s_bipush {g : hs_G} {p : Program} {l : Launch} {e : Env} {R : Room} {s : State} {m : MethodId} {args : Array Value} {below : List Frame} {meth : Method} {c : Code} {cells slots own : Nat} {cc : ByteArray} {nL : Nat} {call : hs_C} {Q : State → Prop} (C : hs_Ctx g p l R s m args c cells slots own cc nL call) {z : Int} {pc n : Nat} {ops : List Nat} {mk : List Bool} {L : hs_L} {st : List hs_V} {μ : hs_M} {pc' : Nat} {L' : hs_L} {st' : List hs_V} {μ' : hs_M} (hd : decode cc pc = .ok (.bipush z, n)) (hok : hs_okr own pc (.bipush z, n, ops, mk) = true) (ex : hs_nx call (.bipush z, n, ops, mk) pc L st μ = some (.inl (pc', L', st', μ'))) (hk : hs_WS g p l e R s m args below meth c cells slots nL Q pc' L' st' μ') : hs_WS g p l e R s m args below meth c cells slots nL Q pc L st μ := by
  obtain ⟨hexec, hb, -⟩ := C
  simp only [hs_okr, Bool.and_eq_true, decide_eq_true_eq] at hok
  have hn : n = 2 := Nat.eq_of_beq_eq_true hok.1
  subst hn
  cases ex
  intro ls H locs hr
  exact lv_bipush hexec hb hd hok.2 (hk ls H locs (hr.tail (fun w hw => (List.mem_cons.mp hw).elim (fun q => by rw [q]; exact Or.inr (hs_okv_i _)) Or.inl)))
theorem hs_s_sipush {g : hs_G} {p : Program} {l : Launch} {e : Env} {R : Room} {s : State} {m : MethodId} {args : Array Value} {below : List Frame} {meth : Method} {c : Code} {cells slots own : Nat} {cc : ByteArray} {nL : Nat} {call : hs_C} {Q : State → Prop} (C : hs_Ctx g p l R s m args c cells slots own cc nL call) {z : Int} {pc n : Nat} {ops : List Nat} {mk : List Bool} {L : hs_L} {st : List hs_V} {μ : hs_M} {pc' : Nat} {L' : hs_L} {st' : List hs_V} {μ' : hs_M} (hd : decode cc pc = .ok (.sipush z, n)) (hok : hs_okr own pc (.sipush z, n, ops, mk) = true) (ex : hs_nx call (.sipush z, n, ops, mk) pc L st μ = some (.inl (pc', L', st', μ'))) (hk : hs_WS g p l e R s m args below meth c cells slots nL Q pc' L' st' μ') : hs_WS g p l e R s m args below meth c cells slots nL Q pc L st μ := by
  obtain ⟨hexec, hb, -⟩ := C
  simp only [hs_okr, Bool.and_eq_true, decide_eq_true_eq] at hok
  have hn : n = 3 := Nat.eq_of_beq_eq_true hok.1
  subst hn
  cases ex
  intro ls H locs hr
  exact lv_sipush hexec hb hd hok.2 (hk ls H locs (hr.tail (fun w hw => (List.mem_cons.mp hw).elim (fun q => by rw [q]; exact Or.inr (hs_okv_i _)) Or.inl)))
theorem hs_s_lconst {g : hs_G} {p : Program} {l : Launch} {e : Env} {R : Room} {s : State} {m : MethodId} {args : Array Value} {below : List Frame} {meth : Method} {c : Code} {cells slots own : Nat} {cc : ByteArray} {nL : Nat} {call : hs_C} {Q : State → Prop} (C : hs_Ctx g p l R s m args c cells slots own cc nL call) {z : Fin 2} {pc n : Nat} {ops : List Nat} {mk : List Bool} {L : hs_L} {st : List hs_V} {μ : hs_M} {pc' : Nat} {L' : hs_L} {st' : List hs_V} {μ' : hs_M} (hd : decode cc pc = .ok (.lconst z, n)) (hok : hs_okr own pc (.lconst z, n, ops, mk) = true) (ex : hs_nx call (.lconst z, n, ops, mk) pc L st μ = some (.inl (pc', L', st', μ'))) (hk : hs_WS g p l e R s m args below meth c cells slots nL Q pc' L' st' μ') : hs_WS g p l e R s m args below meth c cells slots nL Q pc L st μ := by
  obtain ⟨hexec, hb, -⟩ := C
  have hn : n = 1 := by simpa [hs_okr] using hok
  subst hn
  unfold hs_nx hs_step at ex
  dsimp only at ex
  cases ex
  intro ls H locs hr
  exact lv_lconst hexec hb hd rfl (hk ls H locs (hr.tail (fun w hw => (List.mem_cons.mp hw).elim (fun q => by rw [q]; exact Or.inr (hs_okv_l _)) Or.inl)))
theorem hs_s_iadd {g : hs_G} {p : Program} {l : Launch} {e : Env} {R : Room} {s : State} {m : MethodId} {args : Array Value} {below : List Frame} {meth : Method} {c : Code} {cells slots own : Nat} {cc : ByteArray} {nL : Nat} {call : hs_C} {Q : State → Prop} (C : hs_Ctx g p l R s m args c cells slots own cc nL call)  {pc n : Nat} {ops : List Nat} {mk : List Bool} {L : hs_L} {st : List hs_V} {μ : hs_M} {pc' : Nat} {L' : hs_L} {st' : List hs_V} {μ' : hs_M} (hd : decode cc pc = .ok (.iadd, n)) (hok : hs_okr own pc (.iadd, n, ops, mk) = true) (ex : hs_nx call (.iadd, n, ops, mk) pc L st μ = some (.inl (pc', L', st', μ'))) (hk : hs_WS g p l e R s m args below meth c cells slots nL Q pc' L' st' μ') : hs_WS g p l e R s m args below meth c cells slots nL Q pc L st μ := by
  obtain ⟨hexec, hb, -⟩ := C
  have hn : n = 1 := by simpa [hs_okr] using hok
  subst hn
  unfold hs_nx hs_step at ex
  dsimp only at ex
  split at ex
  · cases ex
    intro ls H locs hr
    exact lv_iadd hexec hb hd (hk ls H locs (hr.tail (fun w hw => (List.mem_cons.mp hw).elim (fun q => by rw [q]; exact Or.inr (hs_okv_i _)) (fun q => Or.inl ((fun q => List.mem_cons_of_mem _ (List.mem_cons_of_mem _ (q))) q)))))
  · cases ex
theorem hs_s_isub {g : hs_G} {p : Program} {l : Launch} {e : Env} {R : Room} {s : State} {m : MethodId} {args : Array Value} {below : List Frame} {meth : Method} {c : Code} {cells slots own : Nat} {cc : ByteArray} {nL : Nat} {call : hs_C} {Q : State → Prop} (C : hs_Ctx g p l R s m args c cells slots own cc nL call)  {pc n : Nat} {ops : List Nat} {mk : List Bool} {L : hs_L} {st : List hs_V} {μ : hs_M} {pc' : Nat} {L' : hs_L} {st' : List hs_V} {μ' : hs_M} (hd : decode cc pc = .ok (.isub, n)) (hok : hs_okr own pc (.isub, n, ops, mk) = true) (ex : hs_nx call (.isub, n, ops, mk) pc L st μ = some (.inl (pc', L', st', μ'))) (hk : hs_WS g p l e R s m args below meth c cells slots nL Q pc' L' st' μ') : hs_WS g p l e R s m args below meth c cells slots nL Q pc L st μ := by
  obtain ⟨hexec, hb, -⟩ := C
  have hn : n = 1 := by simpa [hs_okr] using hok
  subst hn
  unfold hs_nx hs_step at ex
  dsimp only at ex
  split at ex
  · cases ex
    intro ls H locs hr
    exact lv_isub hexec hb hd (hk ls H locs (hr.tail (fun w hw => (List.mem_cons.mp hw).elim (fun q => by rw [q]; exact Or.inr (hs_okv_i _)) (fun q => Or.inl ((fun q => List.mem_cons_of_mem _ (List.mem_cons_of_mem _ (q))) q)))))
  · cases ex
theorem hs_s_imul {g : hs_G} {p : Program} {l : Launch} {e : Env} {R : Room} {s : State} {m : MethodId} {args : Array Value} {below : List Frame} {meth : Method} {c : Code} {cells slots own : Nat} {cc : ByteArray} {nL : Nat} {call : hs_C} {Q : State → Prop} (C : hs_Ctx g p l R s m args c cells slots own cc nL call)  {pc n : Nat} {ops : List Nat} {mk : List Bool} {L : hs_L} {st : List hs_V} {μ : hs_M} {pc' : Nat} {L' : hs_L} {st' : List hs_V} {μ' : hs_M} (hd : decode cc pc = .ok (.imul, n)) (hok : hs_okr own pc (.imul, n, ops, mk) = true) (ex : hs_nx call (.imul, n, ops, mk) pc L st μ = some (.inl (pc', L', st', μ'))) (hk : hs_WS g p l e R s m args below meth c cells slots nL Q pc' L' st' μ') : hs_WS g p l e R s m args below meth c cells slots nL Q pc L st μ := by
  obtain ⟨hexec, hb, -⟩ := C
  have hn : n = 1 := by simpa [hs_okr] using hok
  subst hn
  unfold hs_nx hs_step at ex
  dsimp only at ex
  split at ex
  · cases ex
    intro ls H locs hr
    exact lv_imul hexec hb hd (hk ls H locs (hr.tail (fun w hw => (List.mem_cons.mp hw).elim (fun q => by rw [q]; exact Or.inr (hs_okv_i _)) (fun q => Or.inl ((fun q => List.mem_cons_of_mem _ (List.mem_cons_of_mem _ (q))) q)))))
  · cases ex
theorem hs_s_iand {g : hs_G} {p : Program} {l : Launch} {e : Env} {R : Room} {s : State} {m : MethodId} {args : Array Value} {below : List Frame} {meth : Method} {c : Code} {cells slots own : Nat} {cc : ByteArray} {nL : Nat} {call : hs_C} {Q : State → Prop} (C : hs_Ctx g p l R s m args c cells slots own cc nL call)  {pc n : Nat} {ops : List Nat} {mk : List Bool} {L : hs_L} {st : List hs_V} {μ : hs_M} {pc' : Nat} {L' : hs_L} {st' : List hs_V} {μ' : hs_M} (hd : decode cc pc = .ok (.iand, n)) (hok : hs_okr own pc (.iand, n, ops, mk) = true) (ex : hs_nx call (.iand, n, ops, mk) pc L st μ = some (.inl (pc', L', st', μ'))) (hk : hs_WS g p l e R s m args below meth c cells slots nL Q pc' L' st' μ') : hs_WS g p l e R s m args below meth c cells slots nL Q pc L st μ := by
  obtain ⟨hexec, hb, -⟩ := C
  have hn : n = 1 := by simpa [hs_okr] using hok
  subst hn
  unfold hs_nx hs_step at ex
  dsimp only at ex
  split at ex
  · cases ex
    intro ls H locs hr
    exact lv_iand hexec hb hd (hk ls H locs (hr.tail (fun w hw => (List.mem_cons.mp hw).elim (fun q => by rw [q]; exact Or.inr (hs_okv_i _)) (fun q => Or.inl ((fun q => List.mem_cons_of_mem _ (List.mem_cons_of_mem _ (q))) q)))))
  · cases ex
theorem hs_s_ior {g : hs_G} {p : Program} {l : Launch} {e : Env} {R : Room} {s : State} {m : MethodId} {args : Array Value} {below : List Frame} {meth : Method} {c : Code} {cells slots own : Nat} {cc : ByteArray} {nL : Nat} {call : hs_C} {Q : State → Prop} (C : hs_Ctx g p l R s m args c cells slots own cc nL call)  {pc n : Nat} {ops : List Nat} {mk : List Bool} {L : hs_L} {st : List hs_V} {μ : hs_M} {pc' : Nat} {L' : hs_L} {st' : List hs_V} {μ' : hs_M} (hd : decode cc pc = .ok (.ior, n)) (hok : hs_okr own pc (.ior, n, ops, mk) = true) (ex : hs_nx call (.ior, n, ops, mk) pc L st μ = some (.inl (pc', L', st', μ'))) (hk : hs_WS g p l e R s m args below meth c cells slots nL Q pc' L' st' μ') : hs_WS g p l e R s m args below meth c cells slots nL Q pc L st μ := by
  obtain ⟨hexec, hb, -⟩ := C
  have hn : n = 1 := by simpa [hs_okr] using hok
  subst hn
  unfold hs_nx hs_step at ex
  dsimp only at ex
  split at ex
  · cases ex
    intro ls H locs hr
    exact lv_ior hexec hb hd (hk ls H locs (hr.tail (fun w hw => (List.mem_cons.mp hw).elim (fun q => by rw [q]; exact Or.inr (hs_okv_i _)) (fun q => Or.inl ((fun q => List.mem_cons_of_mem _ (List.mem_cons_of_mem _ (q))) q)))))
  · cases ex
theorem hs_s_ixor {g : hs_G} {p : Program} {l : Launch} {e : Env} {R : Room} {s : State} {m : MethodId} {args : Array Value} {below : List Frame} {meth : Method} {c : Code} {cells slots own : Nat} {cc : ByteArray} {nL : Nat} {call : hs_C} {Q : State → Prop} (C : hs_Ctx g p l R s m args c cells slots own cc nL call)  {pc n : Nat} {ops : List Nat} {mk : List Bool} {L : hs_L} {st : List hs_V} {μ : hs_M} {pc' : Nat} {L' : hs_L} {st' : List hs_V} {μ' : hs_M} (hd : decode cc pc = .ok (.ixor, n)) (hok : hs_okr own pc (.ixor, n, ops, mk) = true) (ex : hs_nx call (.ixor, n, ops, mk) pc L st μ = some (.inl (pc', L', st', μ'))) (hk : hs_WS g p l e R s m args below meth c cells slots nL Q pc' L' st' μ') : hs_WS g p l e R s m args below meth c cells slots nL Q pc L st μ := by
  obtain ⟨hexec, hb, -⟩ := C
  have hn : n = 1 := by simpa [hs_okr] using hok
  subst hn
  unfold hs_nx hs_step at ex
  dsimp only at ex
  split at ex
  · cases ex
    intro ls H locs hr
    exact lv_ixor hexec hb hd (hk ls H locs (hr.tail (fun w hw => (List.mem_cons.mp hw).elim (fun q => by rw [q]; exact Or.inr (hs_okv_i _)) (fun q => Or.inl ((fun q => List.mem_cons_of_mem _ (List.mem_cons_of_mem _ (q))) q)))))
  · cases ex
theorem hs_s_ishl {g : hs_G} {p : Program} {l : Launch} {e : Env} {R : Room} {s : State} {m : MethodId} {args : Array Value} {below : List Frame} {meth : Method} {c : Code} {cells slots own : Nat} {cc : ByteArray} {nL : Nat} {call : hs_C} {Q : State → Prop} (C : hs_Ctx g p l R s m args c cells slots own cc nL call)  {pc n : Nat} {ops : List Nat} {mk : List Bool} {L : hs_L} {st : List hs_V} {μ : hs_M} {pc' : Nat} {L' : hs_L} {st' : List hs_V} {μ' : hs_M} (hd : decode cc pc = .ok (.ishl, n)) (hok : hs_okr own pc (.ishl, n, ops, mk) = true) (ex : hs_nx call (.ishl, n, ops, mk) pc L st μ = some (.inl (pc', L', st', μ'))) (hk : hs_WS g p l e R s m args below meth c cells slots nL Q pc' L' st' μ') : hs_WS g p l e R s m args below meth c cells slots nL Q pc L st μ := by
  obtain ⟨hexec, hb, -⟩ := C
  have hn : n = 1 := by simpa [hs_okr] using hok
  subst hn
  unfold hs_nx hs_step at ex
  dsimp only at ex
  split at ex
  · cases ex
    intro ls H locs hr
    exact lv_ishl hexec hb hd (hk ls H locs (hr.tail (fun w hw => (List.mem_cons.mp hw).elim (fun q => by rw [q]; exact Or.inr (hs_okv_i _)) (fun q => Or.inl ((fun q => List.mem_cons_of_mem _ (List.mem_cons_of_mem _ (q))) q)))))
  · cases ex
theorem hs_s_ishr {g : hs_G} {p : Program} {l : Launch} {e : Env} {R : Room} {s : State} {m : MethodId} {args : Array Value} {below : List Frame} {meth : Method} {c : Code} {cells slots own : Nat} {cc : ByteArray} {nL : Nat} {call : hs_C} {Q : State → Prop} (C : hs_Ctx g p l R s m args c cells slots own cc nL call)  {pc n : Nat} {ops : List Nat} {mk : List Bool} {L : hs_L} {st : List hs_V} {μ : hs_M} {pc' : Nat} {L' : hs_L} {st' : List hs_V} {μ' : hs_M} (hd : decode cc pc = .ok (.ishr, n)) (hok : hs_okr own pc (.ishr, n, ops, mk) = true) (ex : hs_nx call (.ishr, n, ops, mk) pc L st μ = some (.inl (pc', L', st', μ'))) (hk : hs_WS g p l e R s m args below meth c cells slots nL Q pc' L' st' μ') : hs_WS g p l e R s m args below meth c cells slots nL Q pc L st μ := by
  obtain ⟨hexec, hb, -⟩ := C
  have hn : n = 1 := by simpa [hs_okr] using hok
  subst hn
  unfold hs_nx hs_step at ex
  dsimp only at ex
  split at ex
  · cases ex
    intro ls H locs hr
    exact lv_ishr hexec hb hd (hk ls H locs (hr.tail (fun w hw => (List.mem_cons.mp hw).elim (fun q => by rw [q]; exact Or.inr (hs_okv_i _)) (fun q => Or.inl ((fun q => List.mem_cons_of_mem _ (List.mem_cons_of_mem _ (q))) q)))))
  · cases ex
theorem hs_s_iushr {g : hs_G} {p : Program} {l : Launch} {e : Env} {R : Room} {s : State} {m : MethodId} {args : Array Value} {below : List Frame} {meth : Method} {c : Code} {cells slots own : Nat} {cc : ByteArray} {nL : Nat} {call : hs_C} {Q : State → Prop} (C : hs_Ctx g p l R s m args c cells slots own cc nL call)  {pc n : Nat} {ops : List Nat} {mk : List Bool} {L : hs_L} {st : List hs_V} {μ : hs_M} {pc' : Nat} {L' : hs_L} {st' : List hs_V} {μ' : hs_M} (hd : decode cc pc = .ok (.iushr, n)) (hok : hs_okr own pc (.iushr, n, ops, mk) = true) (ex : hs_nx call (.iushr, n, ops, mk) pc L st μ = some (.inl (pc', L', st', μ'))) (hk : hs_WS g p l e R s m args below meth c cells slots nL Q pc' L' st' μ') : hs_WS g p l e R s m args below meth c cells slots nL Q pc L st μ := by
  obtain ⟨hexec, hb, -⟩ := C
  have hn : n = 1 := by simpa [hs_okr] using hok
  subst hn
  unfold hs_nx hs_step at ex
  dsimp only at ex
  split at ex
  · cases ex
    intro ls H locs hr
    exact lv_iushr hexec hb hd rfl (hk ls H locs (hr.tail (fun w hw => (List.mem_cons.mp hw).elim (fun q => by rw [q]; exact Or.inr (hs_okv_i _)) (fun q => Or.inl ((fun q => List.mem_cons_of_mem _ (List.mem_cons_of_mem _ (q))) q)))))
  · cases ex
theorem hs_s_idiv {g : hs_G} {p : Program} {l : Launch} {e : Env} {R : Room} {s : State} {m : MethodId} {args : Array Value} {below : List Frame} {meth : Method} {c : Code} {cells slots own : Nat} {cc : ByteArray} {nL : Nat} {call : hs_C} {Q : State → Prop} (C : hs_Ctx g p l R s m args c cells slots own cc nL call)  {pc n : Nat} {ops : List Nat} {mk : List Bool} {L : hs_L} {st : List hs_V} {μ : hs_M} {pc' : Nat} {L' : hs_L} {st' : List hs_V} {μ' : hs_M} (hd : decode cc pc = .ok (.idiv, n)) (hok : hs_okr own pc (.idiv, n, ops, mk) = true) (ex : hs_nx call (.idiv, n, ops, mk) pc L st μ = some (.inl (pc', L', st', μ'))) (hk : hs_WS g p l e R s m args below meth c cells slots nL Q pc' L' st' μ') : hs_WS g p l e R s m args below meth c cells slots nL Q pc L st μ := by
  obtain ⟨hexec, hb, -⟩ := C
  have hn : n = 1 := by simpa [hs_okr] using hok
  subst hn
  unfold hs_nx hs_step at ex
  dsimp only at ex
  split at ex
  · rename_i y x st0
    by_cases hy : y = 0
    · rw [if_pos hy] at ex; cases ex
    · rw [if_neg hy] at ex
      cases ex
      intro ls H locs hr
      exact lv_idiv hexec hb hd hy (hk ls H locs (hr.tail (fun w hw => (List.mem_cons.mp hw).elim (fun q => by rw [q]; exact Or.inr (hs_okv_i _)) (fun q => Or.inl ((fun q => List.mem_cons_of_mem _ (List.mem_cons_of_mem _ (q))) q)))))
  · cases ex
theorem hs_s_irem {g : hs_G} {p : Program} {l : Launch} {e : Env} {R : Room} {s : State} {m : MethodId} {args : Array Value} {below : List Frame} {meth : Method} {c : Code} {cells slots own : Nat} {cc : ByteArray} {nL : Nat} {call : hs_C} {Q : State → Prop} (C : hs_Ctx g p l R s m args c cells slots own cc nL call)  {pc n : Nat} {ops : List Nat} {mk : List Bool} {L : hs_L} {st : List hs_V} {μ : hs_M} {pc' : Nat} {L' : hs_L} {st' : List hs_V} {μ' : hs_M} (hd : decode cc pc = .ok (.irem, n)) (hok : hs_okr own pc (.irem, n, ops, mk) = true) (ex : hs_nx call (.irem, n, ops, mk) pc L st μ = some (.inl (pc', L', st', μ'))) (hk : hs_WS g p l e R s m args below meth c cells slots nL Q pc' L' st' μ') : hs_WS g p l e R s m args below meth c cells slots nL Q pc L st μ := by
  obtain ⟨hexec, hb, -⟩ := C
  have hn : n = 1 := by simpa [hs_okr] using hok
  subst hn
  unfold hs_nx hs_step at ex
  dsimp only at ex
  split at ex
  · rename_i y x st0
    by_cases hy : y = 0
    · rw [if_pos hy] at ex; cases ex
    · rw [if_neg hy] at ex
      cases ex
      intro ls H locs hr
      exact lv_irem hexec hb hd hy (hk ls H locs (hr.tail (fun w hw => (List.mem_cons.mp hw).elim (fun q => by rw [q]; exact Or.inr (hs_okv_i _)) (fun q => Or.inl ((fun q => List.mem_cons_of_mem _ (List.mem_cons_of_mem _ (q))) q)))))
  · cases ex
theorem hs_s_ldiv {g : hs_G} {p : Program} {l : Launch} {e : Env} {R : Room} {s : State} {m : MethodId} {args : Array Value} {below : List Frame} {meth : Method} {c : Code} {cells slots own : Nat} {cc : ByteArray} {nL : Nat} {call : hs_C} {Q : State → Prop} (C : hs_Ctx g p l R s m args c cells slots own cc nL call)  {pc n : Nat} {ops : List Nat} {mk : List Bool} {L : hs_L} {st : List hs_V} {μ : hs_M} {pc' : Nat} {L' : hs_L} {st' : List hs_V} {μ' : hs_M} (hd : decode cc pc = .ok (.ldiv, n)) (hok : hs_okr own pc (.ldiv, n, ops, mk) = true) (ex : hs_nx call (.ldiv, n, ops, mk) pc L st μ = some (.inl (pc', L', st', μ'))) (hk : hs_WS g p l e R s m args below meth c cells slots nL Q pc' L' st' μ') : hs_WS g p l e R s m args below meth c cells slots nL Q pc L st μ := by
  obtain ⟨hexec, hb, -⟩ := C
  have hn : n = 1 := by simpa [hs_okr] using hok
  subst hn
  unfold hs_nx hs_step at ex
  dsimp only at ex
  split at ex
  · rename_i y x st0
    by_cases hy : y = 0
    · rw [if_pos hy] at ex; cases ex
    · rw [if_neg hy] at ex
      cases ex
      intro ls H locs hr
      exact lv_ldiv hexec hb hd hy (hk ls H locs (hr.tail (fun w hw => (List.mem_cons.mp hw).elim (fun q => by rw [q]; exact Or.inr (hs_okv_l _)) (fun q => Or.inl ((fun q => List.mem_cons_of_mem _ (List.mem_cons_of_mem _ (q))) q)))))
  · cases ex
theorem hs_s_lrem {g : hs_G} {p : Program} {l : Launch} {e : Env} {R : Room} {s : State} {m : MethodId} {args : Array Value} {below : List Frame} {meth : Method} {c : Code} {cells slots own : Nat} {cc : ByteArray} {nL : Nat} {call : hs_C} {Q : State → Prop} (C : hs_Ctx g p l R s m args c cells slots own cc nL call)  {pc n : Nat} {ops : List Nat} {mk : List Bool} {L : hs_L} {st : List hs_V} {μ : hs_M} {pc' : Nat} {L' : hs_L} {st' : List hs_V} {μ' : hs_M} (hd : decode cc pc = .ok (.lrem, n)) (hok : hs_okr own pc (.lrem, n, ops, mk) = true) (ex : hs_nx call (.lrem, n, ops, mk) pc L st μ = some (.inl (pc', L', st', μ'))) (hk : hs_WS g p l e R s m args below meth c cells slots nL Q pc' L' st' μ') : hs_WS g p l e R s m args below meth c cells slots nL Q pc L st μ := by
  obtain ⟨hexec, hb, -⟩ := C
  have hn : n = 1 := by simpa [hs_okr] using hok
  subst hn
  unfold hs_nx hs_step at ex
  dsimp only at ex
  split at ex
  · rename_i y x st0
    by_cases hy : y = 0
    · rw [if_pos hy] at ex; cases ex
    · rw [if_neg hy] at ex
      cases ex
      intro ls H locs hr
      exact lv_lrem hexec hb hd hy (hk ls H locs (hr.tail (fun w hw => (List.mem_cons.mp hw).elim (fun q => by rw [q]; exact Or.inr (hs_okv_l _)) (fun q => Or.inl ((fun q => List.mem_cons_of_mem _ (List.mem_cons_of_mem _ (q))) q)))))
  · cases ex
theorem hs_s_ineg {g : hs_G} {p : Program} {l : Launch} {e : Env} {R : Room} {s : State} {m : MethodId} {args : Array Value} {below : List Frame} {meth : Method} {c : Code} {cells slots own : Nat} {cc : ByteArray} {nL : Nat} {call : hs_C} {Q : State → Prop} (C : hs_Ctx g p l R s m args c cells slots own cc nL call)  {pc n : Nat} {ops : List Nat} {mk : List Bool} {L : hs_L} {st : List hs_V} {μ : hs_M} {pc' : Nat} {L' : hs_L} {st' : List hs_V} {μ' : hs_M} (hd : decode cc pc = .ok (.ineg, n)) (hok : hs_okr own pc (.ineg, n, ops, mk) = true) (ex : hs_nx call (.ineg, n, ops, mk) pc L st μ = some (.inl (pc', L', st', μ'))) (hk : hs_WS g p l e R s m args below meth c cells slots nL Q pc' L' st' μ') : hs_WS g p l e R s m args below meth c cells slots nL Q pc L st μ := by
  obtain ⟨hexec, hb, -⟩ := C
  have hn : n = 1 := by simpa [hs_okr] using hok
  subst hn
  unfold hs_nx hs_step at ex
  dsimp only at ex
  split at ex
  · cases ex
    intro ls H locs hr
    exact lv_ineg hexec hb hd (hk ls H locs (hr.tail (fun w hw => (List.mem_cons.mp hw).elim (fun q => by rw [q]; exact Or.inr (hs_okv_i _)) (fun q => Or.inl ((fun q => List.mem_cons_of_mem _ (q)) q)))))
  · cases ex
theorem hs_s_i2l {g : hs_G} {p : Program} {l : Launch} {e : Env} {R : Room} {s : State} {m : MethodId} {args : Array Value} {below : List Frame} {meth : Method} {c : Code} {cells slots own : Nat} {cc : ByteArray} {nL : Nat} {call : hs_C} {Q : State → Prop} (C : hs_Ctx g p l R s m args c cells slots own cc nL call)  {pc n : Nat} {ops : List Nat} {mk : List Bool} {L : hs_L} {st : List hs_V} {μ : hs_M} {pc' : Nat} {L' : hs_L} {st' : List hs_V} {μ' : hs_M} (hd : decode cc pc = .ok (.i2l, n)) (hok : hs_okr own pc (.i2l, n, ops, mk) = true) (ex : hs_nx call (.i2l, n, ops, mk) pc L st μ = some (.inl (pc', L', st', μ'))) (hk : hs_WS g p l e R s m args below meth c cells slots nL Q pc' L' st' μ') : hs_WS g p l e R s m args below meth c cells slots nL Q pc L st μ := by
  obtain ⟨hexec, hb, -⟩ := C
  have hn : n = 1 := by simpa [hs_okr] using hok
  subst hn
  unfold hs_nx hs_step at ex
  dsimp only at ex
  split at ex
  · cases ex
    intro ls H locs hr
    exact lv_i2l hexec hb hd rfl (hk ls H locs (hr.tail (fun w hw => (List.mem_cons.mp hw).elim (fun q => by rw [q]; exact Or.inr (hs_okv_l _)) (fun q => Or.inl ((fun q => List.mem_cons_of_mem _ (q)) q)))))
  · cases ex
theorem hs_s_i2b {g : hs_G} {p : Program} {l : Launch} {e : Env} {R : Room} {s : State} {m : MethodId} {args : Array Value} {below : List Frame} {meth : Method} {c : Code} {cells slots own : Nat} {cc : ByteArray} {nL : Nat} {call : hs_C} {Q : State → Prop} (C : hs_Ctx g p l R s m args c cells slots own cc nL call)  {pc n : Nat} {ops : List Nat} {mk : List Bool} {L : hs_L} {st : List hs_V} {μ : hs_M} {pc' : Nat} {L' : hs_L} {st' : List hs_V} {μ' : hs_M} (hd : decode cc pc = .ok (.i2b, n)) (hok : hs_okr own pc (.i2b, n, ops, mk) = true) (ex : hs_nx call (.i2b, n, ops, mk) pc L st μ = some (.inl (pc', L', st', μ'))) (hk : hs_WS g p l e R s m args below meth c cells slots nL Q pc' L' st' μ') : hs_WS g p l e R s m args below meth c cells slots nL Q pc L st μ := by
  obtain ⟨hexec, hb, -⟩ := C
  have hn : n = 1 := by simpa [hs_okr] using hok
  subst hn
  unfold hs_nx hs_step at ex
  dsimp only at ex
  split at ex
  · cases ex
    intro ls H locs hr
    exact lv_i2b hexec hb hd rfl (hk ls H locs (hr.tail (fun w hw => (List.mem_cons.mp hw).elim (fun q => by rw [q]; exact Or.inr (hs_okv_i _)) (fun q => Or.inl ((fun q => List.mem_cons_of_mem _ (q)) q)))))
  · cases ex
theorem hs_s_i2s {g : hs_G} {p : Program} {l : Launch} {e : Env} {R : Room} {s : State} {m : MethodId} {args : Array Value} {below : List Frame} {meth : Method} {c : Code} {cells slots own : Nat} {cc : ByteArray} {nL : Nat} {call : hs_C} {Q : State → Prop} (C : hs_Ctx g p l R s m args c cells slots own cc nL call)  {pc n : Nat} {ops : List Nat} {mk : List Bool} {L : hs_L} {st : List hs_V} {μ : hs_M} {pc' : Nat} {L' : hs_L} {st' : List hs_V} {μ' : hs_M} (hd : decode cc pc = .ok (.i2s, n)) (hok : hs_okr own pc (.i2s, n, ops, mk) = true) (ex : hs_nx call (.i2s, n, ops, mk) pc L st μ = some (.inl (pc', L', st', μ'))) (hk : hs_WS g p l e R s m args below meth c cells slots nL Q pc' L' st' μ') : hs_WS g p l e R s m args below meth c cells slots nL Q pc L st μ := by
  obtain ⟨hexec, hb, -⟩ := C
  have hn : n = 1 := by simpa [hs_okr] using hok
  subst hn
  unfold hs_nx hs_step at ex
  dsimp only at ex
  split at ex
  · cases ex
    intro ls H locs hr
    exact lv_i2s hexec hb hd rfl (hk ls H locs (hr.tail (fun w hw => (List.mem_cons.mp hw).elim (fun q => by rw [q]; exact Or.inr (hs_okv_i _)) (fun q => Or.inl ((fun q => List.mem_cons_of_mem _ (q)) q)))))
  · cases ex
theorem hs_s_ladd {g : hs_G} {p : Program} {l : Launch} {e : Env} {R : Room} {s : State} {m : MethodId} {args : Array Value} {below : List Frame} {meth : Method} {c : Code} {cells slots own : Nat} {cc : ByteArray} {nL : Nat} {call : hs_C} {Q : State → Prop} (C : hs_Ctx g p l R s m args c cells slots own cc nL call)  {pc n : Nat} {ops : List Nat} {mk : List Bool} {L : hs_L} {st : List hs_V} {μ : hs_M} {pc' : Nat} {L' : hs_L} {st' : List hs_V} {μ' : hs_M} (hd : decode cc pc = .ok (.ladd, n)) (hok : hs_okr own pc (.ladd, n, ops, mk) = true) (ex : hs_nx call (.ladd, n, ops, mk) pc L st μ = some (.inl (pc', L', st', μ'))) (hk : hs_WS g p l e R s m args below meth c cells slots nL Q pc' L' st' μ') : hs_WS g p l e R s m args below meth c cells slots nL Q pc L st μ := by
  obtain ⟨hexec, hb, -⟩ := C
  have hn : n = 1 := by simpa [hs_okr] using hok
  subst hn
  unfold hs_nx hs_step at ex
  dsimp only at ex
  split at ex
  · cases ex
    intro ls H locs hr
    exact lv_ladd hexec hb hd (hk ls H locs (hr.tail (fun w hw => (List.mem_cons.mp hw).elim (fun q => by rw [q]; exact Or.inr (hs_okv_l _)) (fun q => Or.inl ((fun q => List.mem_cons_of_mem _ (List.mem_cons_of_mem _ (q))) q)))))
  · cases ex
theorem hs_s_lmul {g : hs_G} {p : Program} {l : Launch} {e : Env} {R : Room} {s : State} {m : MethodId} {args : Array Value} {below : List Frame} {meth : Method} {c : Code} {cells slots own : Nat} {cc : ByteArray} {nL : Nat} {call : hs_C} {Q : State → Prop} (C : hs_Ctx g p l R s m args c cells slots own cc nL call)  {pc n : Nat} {ops : List Nat} {mk : List Bool} {L : hs_L} {st : List hs_V} {μ : hs_M} {pc' : Nat} {L' : hs_L} {st' : List hs_V} {μ' : hs_M} (hd : decode cc pc = .ok (.lmul, n)) (hok : hs_okr own pc (.lmul, n, ops, mk) = true) (ex : hs_nx call (.lmul, n, ops, mk) pc L st μ = some (.inl (pc', L', st', μ'))) (hk : hs_WS g p l e R s m args below meth c cells slots nL Q pc' L' st' μ') : hs_WS g p l e R s m args below meth c cells slots nL Q pc L st μ := by
  obtain ⟨hexec, hb, -⟩ := C
  have hn : n = 1 := by simpa [hs_okr] using hok
  subst hn
  unfold hs_nx hs_step at ex
  dsimp only at ex
  split at ex
  · cases ex
    intro ls H locs hr
    exact lv_lmul hexec hb hd (hk ls H locs (hr.tail (fun w hw => (List.mem_cons.mp hw).elim (fun q => by rw [q]; exact Or.inr (hs_okv_l _)) (fun q => Or.inl ((fun q => List.mem_cons_of_mem _ (List.mem_cons_of_mem _ (q))) q)))))
  · cases ex
theorem hs_s_lcmp {g : hs_G} {p : Program} {l : Launch} {e : Env} {R : Room} {s : State} {m : MethodId} {args : Array Value} {below : List Frame} {meth : Method} {c : Code} {cells slots own : Nat} {cc : ByteArray} {nL : Nat} {call : hs_C} {Q : State → Prop} (C : hs_Ctx g p l R s m args c cells slots own cc nL call)  {pc n : Nat} {ops : List Nat} {mk : List Bool} {L : hs_L} {st : List hs_V} {μ : hs_M} {pc' : Nat} {L' : hs_L} {st' : List hs_V} {μ' : hs_M} (hd : decode cc pc = .ok (.lcmp, n)) (hok : hs_okr own pc (.lcmp, n, ops, mk) = true) (ex : hs_nx call (.lcmp, n, ops, mk) pc L st μ = some (.inl (pc', L', st', μ'))) (hk : hs_WS g p l e R s m args below meth c cells slots nL Q pc' L' st' μ') : hs_WS g p l e R s m args below meth c cells slots nL Q pc L st μ := by
  obtain ⟨hexec, hb, -⟩ := C
  have hn : n = 1 := by simpa [hs_okr] using hok
  subst hn
  unfold hs_nx hs_step at ex
  dsimp only at ex
  split at ex
  · cases ex
    intro ls H locs hr
    exact W.lcmp hexec hb hd (hk ls H locs (hr.tail (fun w hw => (List.mem_cons.mp hw).elim (fun q => by rw [q]; exact Or.inr (hs_okv_i _)) (fun q => Or.inl ((fun q => List.mem_cons_of_mem _ (List.mem_cons_of_mem _ (q))) q)))))
  · cases ex
theorem hs_s_dup {g : hs_G} {p : Program} {l : Launch} {e : Env} {R : Room} {s : State} {m : MethodId} {args : Array Value} {below : List Frame} {meth : Method} {c : Code} {cells slots own : Nat} {cc : ByteArray} {nL : Nat} {call : hs_C} {Q : State → Prop} (C : hs_Ctx g p l R s m args c cells slots own cc nL call)  {pc n : Nat} {ops : List Nat} {mk : List Bool} {L : hs_L} {st : List hs_V} {μ : hs_M} {pc' : Nat} {L' : hs_L} {st' : List hs_V} {μ' : hs_M} (hd : decode cc pc = .ok (.dup, n)) (hok : hs_okr own pc (.dup, n, ops, mk) = true) (ex : hs_nx call (.dup, n, ops, mk) pc L st μ = some (.inl (pc', L', st', μ'))) (hk : hs_WS g p l e R s m args below meth c cells slots nL Q pc' L' st' μ') : hs_WS g p l e R s m args below meth c cells slots nL Q pc L st μ := by
  obtain ⟨hexec, hb, -⟩ := C
  have hn : n = 1 := by simpa [hs_okr] using hok
  subst hn
  unfold hs_nx hs_step at ex
  dsimp only at ex
  split at ex
  · cases ex
    intro ls H locs hr
    exact lv_dup hexec hb hd rfl (hk ls H locs (hr.tail (fun w hw => (List.mem_cons.mp hw).elim (fun q => by rw [q]; exact Or.inr (hs_okv_i _)) (fun q => Or.inl q))))
  · cases ex
    intro ls H locs hr
    exact lv_dup hexec hb hd rfl (hk ls H locs (hr.tail (fun w hw => (List.mem_cons.mp hw).elim (fun q => by rw [q]; exact Or.inl List.mem_cons_self) (fun q => Or.inl q))))
  · cases ex
theorem hs_s_dup2 {g : hs_G} {p : Program} {l : Launch} {e : Env} {R : Room} {s : State} {m : MethodId} {args : Array Value} {below : List Frame} {meth : Method} {c : Code} {cells slots own : Nat} {cc : ByteArray} {nL : Nat} {call : hs_C} {Q : State → Prop} (C : hs_Ctx g p l R s m args c cells slots own cc nL call)  {pc n : Nat} {ops : List Nat} {mk : List Bool} {L : hs_L} {st : List hs_V} {μ : hs_M} {pc' : Nat} {L' : hs_L} {st' : List hs_V} {μ' : hs_M} (hd : decode cc pc = .ok (.dup2, n)) (hok : hs_okr own pc (.dup2, n, ops, mk) = true) (ex : hs_nx call (.dup2, n, ops, mk) pc L st μ = some (.inl (pc', L', st', μ'))) (hk : hs_WS g p l e R s m args below meth c cells slots nL Q pc' L' st' μ') : hs_WS g p l e R s m args below meth c cells slots nL Q pc L st μ := by
  obtain ⟨hexec, hb, -⟩ := C
  have hn : n = 1 := by simpa [hs_okr] using hok
  subst hn
  unfold hs_nx hs_step at ex
  dsimp only at ex
  split at ex
  · cases ex
    intro ls H locs hr
    refine lv_dup2_11 hexec hb hd rfl rfl (hk ls H locs (hr.tail (fun w hw => Or.inl ?_)))
    rcases List.mem_cons.mp hw with q | hw
    · rw [q]; exact List.mem_cons_self
    · rcases List.mem_cons.mp hw with q | hw
      · rw [q]; exact List.mem_cons_of_mem _ List.mem_cons_self
      · exact hw
  · cases ex
theorem hs_s_pop {g : hs_G} {p : Program} {l : Launch} {e : Env} {R : Room} {s : State} {m : MethodId} {args : Array Value} {below : List Frame} {meth : Method} {c : Code} {cells slots own : Nat} {cc : ByteArray} {nL : Nat} {call : hs_C} {Q : State → Prop} (C : hs_Ctx g p l R s m args c cells slots own cc nL call)  {pc n : Nat} {ops : List Nat} {mk : List Bool} {L : hs_L} {st : List hs_V} {μ : hs_M} {pc' : Nat} {L' : hs_L} {st' : List hs_V} {μ' : hs_M} (hd : decode cc pc = .ok (.pop, n)) (hok : hs_okr own pc (.pop, n, ops, mk) = true) (ex : hs_nx call (.pop, n, ops, mk) pc L st μ = some (.inl (pc', L', st', μ'))) (hk : hs_WS g p l e R s m args below meth c cells slots nL Q pc' L' st' μ') : hs_WS g p l e R s m args below meth c cells slots nL Q pc L st μ := by
  obtain ⟨hexec, hb, -⟩ := C
  have hn : n = 1 := by simpa [hs_okr] using hok
  subst hn
  unfold hs_nx hs_step at ex
  dsimp only at ex
  split at ex
  · cases ex
    intro ls H locs hr
    exact lv_pop hexec hb hd rfl (hk ls H locs (hr.tail (fun w hw => Or.inl (List.mem_cons_of_mem _ hw))))
  · cases ex
theorem hs_s_goto {g : hs_G} {p : Program} {l : Launch} {e : Env} {R : Room} {s : State} {m : MethodId} {args : Array Value} {below : List Frame} {meth : Method} {c : Code} {cells slots own : Nat} {cc : ByteArray} {nL : Nat} {call : hs_C} {Q : State → Prop} (C : hs_Ctx g p l R s m args c cells slots own cc nL call) {off : Int} {pc n : Nat} {ops : List Nat} {mk : List Bool} {L : hs_L} {st : List hs_V} {μ : hs_M} {pc' : Nat} {L' : hs_L} {st' : List hs_V} {μ' : hs_M} (hd : decode cc pc = .ok (.goto off, n)) (hok : hs_okr own pc (.goto off, n, ops, mk) = true) (ex : hs_nx call (.goto off, n, ops, mk) pc L st μ = some (.inl (pc', L', st', μ'))) (hk : hs_WS g p l e R s m args below meth c cells slots nL Q pc' L' st' μ') : hs_WS g p l e R s m args below meth c cells slots nL Q pc L st μ := by
  obtain ⟨hexec, hb, -⟩ := C
  simp only [hs_okr, Bool.and_eq_true] at hok
  have hn : n = 3 := Nat.eq_of_beq_eq_true hok.1
  subst hn
  have ht : (pc : Int) + off = (hs_tgt pc off : Int) := by simpa [hs_tok] using hok.2
  unfold hs_nx hs_step at ex
  dsimp only at ex
  split at ex
  · cases ex
    intro ls H locs hr
    exact lv_goto hexec hb hd ht (hk ls H locs hr)
  · cases ex
theorem hs_s_ifCond_eq {g : hs_G} {p : Program} {l : Launch} {e : Env} {R : Room} {s : State} {m : MethodId} {args : Array Value} {below : List Frame} {meth : Method} {c : Code} {cells slots own : Nat} {cc : ByteArray} {nL : Nat} {call : hs_C} {Q : State → Prop} (C : hs_Ctx g p l R s m args c cells slots own cc nL call) {off : Int} {pc n : Nat} {ops : List Nat} {mk : List Bool} {L : hs_L} {st : List hs_V} {μ : hs_M} {pc' : Nat} {L' : hs_L} {st' : List hs_V} {μ' : hs_M} (hd : decode cc pc = .ok (.ifCond .eq off, n)) (hok : hs_okr own pc (.ifCond .eq off, n, ops, mk) = true) (ex : hs_nx call (.ifCond .eq off, n, ops, mk) pc L st μ = some (.inl (pc', L', st', μ'))) (hk : hs_WS g p l e R s m args below meth c cells slots nL Q pc' L' st' μ') : hs_WS g p l e R s m args below meth c cells slots nL Q pc L st μ := by
  obtain ⟨hexec, hb, -⟩ := C
  simp only [hs_okr, Bool.and_eq_true] at hok
  have hn : n = 3 := Nat.eq_of_beq_eq_true hok.1
  subst hn
  have ht : (pc : Int) + off = (hs_tgt pc off : Int) := by simpa [hs_tok] using hok.2
  unfold hs_nx hs_step at ex
  dsimp only at ex
  split at ex
  · rename_i x st0
    by_cases hc : x = 0
    · rw [if_pos hc] at ex
      cases ex
      intro ls H locs hr
      exact lv_if_eq hexec hb hd ht (fun _ => hk ls H locs (hr.tail (fun w hw => Or.inl (List.mem_cons_of_mem _ (hw))))) (fun q => absurd hc q)
    · rw [if_neg hc] at ex
      cases ex
      intro ls H locs hr
      exact lv_if_eq hexec hb hd ht (fun q => absurd q hc) (fun _ => hk ls H locs (hr.tail (fun w hw => Or.inl (List.mem_cons_of_mem _ (hw)))))
  · cases ex
theorem hs_s_ifCond_ne {g : hs_G} {p : Program} {l : Launch} {e : Env} {R : Room} {s : State} {m : MethodId} {args : Array Value} {below : List Frame} {meth : Method} {c : Code} {cells slots own : Nat} {cc : ByteArray} {nL : Nat} {call : hs_C} {Q : State → Prop} (C : hs_Ctx g p l R s m args c cells slots own cc nL call) {off : Int} {pc n : Nat} {ops : List Nat} {mk : List Bool} {L : hs_L} {st : List hs_V} {μ : hs_M} {pc' : Nat} {L' : hs_L} {st' : List hs_V} {μ' : hs_M} (hd : decode cc pc = .ok (.ifCond .ne off, n)) (hok : hs_okr own pc (.ifCond .ne off, n, ops, mk) = true) (ex : hs_nx call (.ifCond .ne off, n, ops, mk) pc L st μ = some (.inl (pc', L', st', μ'))) (hk : hs_WS g p l e R s m args below meth c cells slots nL Q pc' L' st' μ') : hs_WS g p l e R s m args below meth c cells slots nL Q pc L st μ := by
  obtain ⟨hexec, hb, -⟩ := C
  simp only [hs_okr, Bool.and_eq_true] at hok
  have hn : n = 3 := Nat.eq_of_beq_eq_true hok.1
  subst hn
  have ht : (pc : Int) + off = (hs_tgt pc off : Int) := by simpa [hs_tok] using hok.2
  unfold hs_nx hs_step at ex
  dsimp only at ex
  split at ex
  · rename_i x st0
    by_cases hc : x = 0
    · rw [if_pos hc] at ex
      cases ex
      intro ls H locs hr
      exact lv_if_ne hexec hb hd ht (fun q => absurd hc q) (fun _ => hk ls H locs (hr.tail (fun w hw => Or.inl (List.mem_cons_of_mem _ (hw)))))
    · rw [if_neg hc] at ex
      cases ex
      intro ls H locs hr
      exact lv_if_ne hexec hb hd ht (fun _ => hk ls H locs (hr.tail (fun w hw => Or.inl (List.mem_cons_of_mem _ (hw))))) (fun q => absurd q hc)
  · cases ex
theorem hs_s_ifCond_lt {g : hs_G} {p : Program} {l : Launch} {e : Env} {R : Room} {s : State} {m : MethodId} {args : Array Value} {below : List Frame} {meth : Method} {c : Code} {cells slots own : Nat} {cc : ByteArray} {nL : Nat} {call : hs_C} {Q : State → Prop} (C : hs_Ctx g p l R s m args c cells slots own cc nL call) {off : Int} {pc n : Nat} {ops : List Nat} {mk : List Bool} {L : hs_L} {st : List hs_V} {μ : hs_M} {pc' : Nat} {L' : hs_L} {st' : List hs_V} {μ' : hs_M} (hd : decode cc pc = .ok (.ifCond .lt off, n)) (hok : hs_okr own pc (.ifCond .lt off, n, ops, mk) = true) (ex : hs_nx call (.ifCond .lt off, n, ops, mk) pc L st μ = some (.inl (pc', L', st', μ'))) (hk : hs_WS g p l e R s m args below meth c cells slots nL Q pc' L' st' μ') : hs_WS g p l e R s m args below meth c cells slots nL Q pc L st μ := by
  obtain ⟨hexec, hb, -⟩ := C
  simp only [hs_okr, Bool.and_eq_true] at hok
  have hn : n = 3 := Nat.eq_of_beq_eq_true hok.1
  subst hn
  have ht : (pc : Int) + off = (hs_tgt pc off : Int) := by simpa [hs_tok] using hok.2
  unfold hs_nx hs_step at ex
  dsimp only at ex
  split at ex
  · rename_i x st0
    by_cases hc : x < 0
    · rw [if_pos hc] at ex
      cases ex
      intro ls H locs hr
      exact lv_if_lt hexec hb hd ht (fun _ => hk ls H locs (hr.tail (fun w hw => Or.inl (List.mem_cons_of_mem _ (hw))))) (fun q => absurd hc q)
    · rw [if_neg hc] at ex
      cases ex
      intro ls H locs hr
      exact lv_if_lt hexec hb hd ht (fun q => absurd q hc) (fun _ => hk ls H locs (hr.tail (fun w hw => Or.inl (List.mem_cons_of_mem _ (hw)))))
  · cases ex
theorem hs_s_ifCond_ge {g : hs_G} {p : Program} {l : Launch} {e : Env} {R : Room} {s : State} {m : MethodId} {args : Array Value} {below : List Frame} {meth : Method} {c : Code} {cells slots own : Nat} {cc : ByteArray} {nL : Nat} {call : hs_C} {Q : State → Prop} (C : hs_Ctx g p l R s m args c cells slots own cc nL call) {off : Int} {pc n : Nat} {ops : List Nat} {mk : List Bool} {L : hs_L} {st : List hs_V} {μ : hs_M} {pc' : Nat} {L' : hs_L} {st' : List hs_V} {μ' : hs_M} (hd : decode cc pc = .ok (.ifCond .ge off, n)) (hok : hs_okr own pc (.ifCond .ge off, n, ops, mk) = true) (ex : hs_nx call (.ifCond .ge off, n, ops, mk) pc L st μ = some (.inl (pc', L', st', μ'))) (hk : hs_WS g p l e R s m args below meth c cells slots nL Q pc' L' st' μ') : hs_WS g p l e R s m args below meth c cells slots nL Q pc L st μ := by
  obtain ⟨hexec, hb, -⟩ := C
  simp only [hs_okr, Bool.and_eq_true] at hok
  have hn : n = 3 := Nat.eq_of_beq_eq_true hok.1
  subst hn
  have ht : (pc : Int) + off = (hs_tgt pc off : Int) := by simpa [hs_tok] using hok.2
  unfold hs_nx hs_step at ex
  dsimp only at ex
  split at ex
  · rename_i x st0
    by_cases hc : x < 0
    · rw [if_pos hc] at ex
      cases ex
      intro ls H locs hr
      exact lv_if_ge hexec hb hd ht (fun q => absurd hc (Int32.not_lt.mpr q)) (fun _ => hk ls H locs (hr.tail (fun w hw => Or.inl (List.mem_cons_of_mem _ (hw)))))
    · rw [if_neg hc] at ex
      cases ex
      intro ls H locs hr
      exact lv_if_ge hexec hb hd ht (fun _ => hk ls H locs (hr.tail (fun w hw => Or.inl (List.mem_cons_of_mem _ (hw))))) (fun q => absurd (Int32.not_lt.mp hc) q)
  · cases ex
theorem hs_s_ifCond_gt {g : hs_G} {p : Program} {l : Launch} {e : Env} {R : Room} {s : State} {m : MethodId} {args : Array Value} {below : List Frame} {meth : Method} {c : Code} {cells slots own : Nat} {cc : ByteArray} {nL : Nat} {call : hs_C} {Q : State → Prop} (C : hs_Ctx g p l R s m args c cells slots own cc nL call) {off : Int} {pc n : Nat} {ops : List Nat} {mk : List Bool} {L : hs_L} {st : List hs_V} {μ : hs_M} {pc' : Nat} {L' : hs_L} {st' : List hs_V} {μ' : hs_M} (hd : decode cc pc = .ok (.ifCond .gt off, n)) (hok : hs_okr own pc (.ifCond .gt off, n, ops, mk) = true) (ex : hs_nx call (.ifCond .gt off, n, ops, mk) pc L st μ = some (.inl (pc', L', st', μ'))) (hk : hs_WS g p l e R s m args below meth c cells slots nL Q pc' L' st' μ') : hs_WS g p l e R s m args below meth c cells slots nL Q pc L st μ := by
  obtain ⟨hexec, hb, -⟩ := C
  simp only [hs_okr, Bool.and_eq_true] at hok
  have hn : n = 3 := Nat.eq_of_beq_eq_true hok.1
  subst hn
  have ht : (pc : Int) + off = (hs_tgt pc off : Int) := by simpa [hs_tok] using hok.2
  unfold hs_nx hs_step at ex
  dsimp only at ex
  split at ex
  · rename_i x st0
    by_cases hc : 0 < x
    · rw [if_pos hc] at ex
      cases ex
      intro ls H locs hr
      exact lv_if_gt hexec hb hd ht (fun _ => hk ls H locs (hr.tail (fun w hw => Or.inl (List.mem_cons_of_mem _ (hw))))) (fun q => absurd hc q)
    · rw [if_neg hc] at ex
      cases ex
      intro ls H locs hr
      exact lv_if_gt hexec hb hd ht (fun q => absurd q hc) (fun _ => hk ls H locs (hr.tail (fun w hw => Or.inl (List.mem_cons_of_mem _ (hw)))))
  · cases ex
theorem hs_s_ifCond_le {g : hs_G} {p : Program} {l : Launch} {e : Env} {R : Room} {s : State} {m : MethodId} {args : Array Value} {below : List Frame} {meth : Method} {c : Code} {cells slots own : Nat} {cc : ByteArray} {nL : Nat} {call : hs_C} {Q : State → Prop} (C : hs_Ctx g p l R s m args c cells slots own cc nL call) {off : Int} {pc n : Nat} {ops : List Nat} {mk : List Bool} {L : hs_L} {st : List hs_V} {μ : hs_M} {pc' : Nat} {L' : hs_L} {st' : List hs_V} {μ' : hs_M} (hd : decode cc pc = .ok (.ifCond .le off, n)) (hok : hs_okr own pc (.ifCond .le off, n, ops, mk) = true) (ex : hs_nx call (.ifCond .le off, n, ops, mk) pc L st μ = some (.inl (pc', L', st', μ'))) (hk : hs_WS g p l e R s m args below meth c cells slots nL Q pc' L' st' μ') : hs_WS g p l e R s m args below meth c cells slots nL Q pc L st μ := by
  obtain ⟨hexec, hb, -⟩ := C
  simp only [hs_okr, Bool.and_eq_true] at hok
  have hn : n = 3 := Nat.eq_of_beq_eq_true hok.1
  subst hn
  have ht : (pc : Int) + off = (hs_tgt pc off : Int) := by simpa [hs_tok] using hok.2
  unfold hs_nx hs_step at ex
  dsimp only at ex
  split at ex
  · rename_i x st0
    by_cases hc : 0 < x
    · rw [if_pos hc] at ex
      cases ex
      intro ls H locs hr
      exact lv_if_le hexec hb hd ht (fun q => absurd hc (Int32.not_lt.mpr q)) (fun _ => hk ls H locs (hr.tail (fun w hw => Or.inl (List.mem_cons_of_mem _ (hw)))))
    · rw [if_neg hc] at ex
      cases ex
      intro ls H locs hr
      exact lv_if_le hexec hb hd ht (fun _ => hk ls H locs (hr.tail (fun w hw => Or.inl (List.mem_cons_of_mem _ (hw))))) (fun q => absurd (Int32.not_lt.mp hc) q)
  · cases ex
theorem hs_s_if_icmp_eq {g : hs_G} {p : Program} {l : Launch} {e : Env} {R : Room} {s : State} {m : MethodId} {args : Array Value} {below : List Frame} {meth : Method} {c : Code} {cells slots own : Nat} {cc : ByteArray} {nL : Nat} {call : hs_C} {Q : State → Prop} (C : hs_Ctx g p l R s m args c cells slots own cc nL call) {off : Int} {pc n : Nat} {ops : List Nat} {mk : List Bool} {L : hs_L} {st : List hs_V} {μ : hs_M} {pc' : Nat} {L' : hs_L} {st' : List hs_V} {μ' : hs_M} (hd : decode cc pc = .ok (.if_icmp .eq off, n)) (hok : hs_okr own pc (.if_icmp .eq off, n, ops, mk) = true) (ex : hs_nx call (.if_icmp .eq off, n, ops, mk) pc L st μ = some (.inl (pc', L', st', μ'))) (hk : hs_WS g p l e R s m args below meth c cells slots nL Q pc' L' st' μ') : hs_WS g p l e R s m args below meth c cells slots nL Q pc L st μ := by
  obtain ⟨hexec, hb, -⟩ := C
  simp only [hs_okr, Bool.and_eq_true] at hok
  have hn : n = 3 := Nat.eq_of_beq_eq_true hok.1
  subst hn
  have ht : (pc : Int) + off = (hs_tgt pc off : Int) := by simpa [hs_tok] using hok.2
  unfold hs_nx hs_step at ex
  dsimp only at ex
  split at ex
  · rename_i y x st0
    by_cases hc : x = y
    · rw [if_pos hc] at ex
      cases ex
      intro ls H locs hr
      exact lv_icmp_eq hexec hb hd ht (fun _ => hk ls H locs (hr.tail (fun w hw => Or.inl (List.mem_cons_of_mem _ (List.mem_cons_of_mem _ (hw)))))) (fun q => absurd hc q)
    · rw [if_neg hc] at ex
      cases ex
      intro ls H locs hr
      exact lv_icmp_eq hexec hb hd ht (fun q => absurd q hc) (fun _ => hk ls H locs (hr.tail (fun w hw => Or.inl (List.mem_cons_of_mem _ (List.mem_cons_of_mem _ (hw))))))
  · cases ex
theorem hs_s_if_icmp_ne {g : hs_G} {p : Program} {l : Launch} {e : Env} {R : Room} {s : State} {m : MethodId} {args : Array Value} {below : List Frame} {meth : Method} {c : Code} {cells slots own : Nat} {cc : ByteArray} {nL : Nat} {call : hs_C} {Q : State → Prop} (C : hs_Ctx g p l R s m args c cells slots own cc nL call) {off : Int} {pc n : Nat} {ops : List Nat} {mk : List Bool} {L : hs_L} {st : List hs_V} {μ : hs_M} {pc' : Nat} {L' : hs_L} {st' : List hs_V} {μ' : hs_M} (hd : decode cc pc = .ok (.if_icmp .ne off, n)) (hok : hs_okr own pc (.if_icmp .ne off, n, ops, mk) = true) (ex : hs_nx call (.if_icmp .ne off, n, ops, mk) pc L st μ = some (.inl (pc', L', st', μ'))) (hk : hs_WS g p l e R s m args below meth c cells slots nL Q pc' L' st' μ') : hs_WS g p l e R s m args below meth c cells slots nL Q pc L st μ := by
  obtain ⟨hexec, hb, -⟩ := C
  simp only [hs_okr, Bool.and_eq_true] at hok
  have hn : n = 3 := Nat.eq_of_beq_eq_true hok.1
  subst hn
  have ht : (pc : Int) + off = (hs_tgt pc off : Int) := by simpa [hs_tok] using hok.2
  unfold hs_nx hs_step at ex
  dsimp only at ex
  split at ex
  · rename_i y x st0
    by_cases hc : x = y
    · rw [if_pos hc] at ex
      cases ex
      intro ls H locs hr
      exact lv_icmp_ne hexec hb hd ht (fun q => absurd hc q) (fun _ => hk ls H locs (hr.tail (fun w hw => Or.inl (List.mem_cons_of_mem _ (List.mem_cons_of_mem _ (hw))))))
    · rw [if_neg hc] at ex
      cases ex
      intro ls H locs hr
      exact lv_icmp_ne hexec hb hd ht (fun _ => hk ls H locs (hr.tail (fun w hw => Or.inl (List.mem_cons_of_mem _ (List.mem_cons_of_mem _ (hw)))))) (fun q => absurd q hc)
  · cases ex
theorem hs_s_if_icmp_lt {g : hs_G} {p : Program} {l : Launch} {e : Env} {R : Room} {s : State} {m : MethodId} {args : Array Value} {below : List Frame} {meth : Method} {c : Code} {cells slots own : Nat} {cc : ByteArray} {nL : Nat} {call : hs_C} {Q : State → Prop} (C : hs_Ctx g p l R s m args c cells slots own cc nL call) {off : Int} {pc n : Nat} {ops : List Nat} {mk : List Bool} {L : hs_L} {st : List hs_V} {μ : hs_M} {pc' : Nat} {L' : hs_L} {st' : List hs_V} {μ' : hs_M} (hd : decode cc pc = .ok (.if_icmp .lt off, n)) (hok : hs_okr own pc (.if_icmp .lt off, n, ops, mk) = true) (ex : hs_nx call (.if_icmp .lt off, n, ops, mk) pc L st μ = some (.inl (pc', L', st', μ'))) (hk : hs_WS g p l e R s m args below meth c cells slots nL Q pc' L' st' μ') : hs_WS g p l e R s m args below meth c cells slots nL Q pc L st μ := by
  obtain ⟨hexec, hb, -⟩ := C
  simp only [hs_okr, Bool.and_eq_true] at hok
  have hn : n = 3 := Nat.eq_of_beq_eq_true hok.1
  subst hn
  have ht : (pc : Int) + off = (hs_tgt pc off : Int) := by simpa [hs_tok] using hok.2
  unfold hs_nx hs_step at ex
  dsimp only at ex
  split at ex
  · rename_i y x st0
    by_cases hc : x < y
    · rw [if_pos hc] at ex
      cases ex
      intro ls H locs hr
      exact lv_icmp_lt hexec hb hd ht (fun _ => hk ls H locs (hr.tail (fun w hw => Or.inl (List.mem_cons_of_mem _ (List.mem_cons_of_mem _ (hw)))))) (fun q => absurd hc q)
    · rw [if_neg hc] at ex
      cases ex
      intro ls H locs hr
      exact lv_icmp_lt hexec hb hd ht (fun q => absurd q hc) (fun _ => hk ls H locs (hr.tail (fun w hw => Or.inl (List.mem_cons_of_mem _ (List.mem_cons_of_mem _ (hw))))))
  · cases ex
theorem hs_s_if_icmp_ge {g : hs_G} {p : Program} {l : Launch} {e : Env} {R : Room} {s : State} {m : MethodId} {args : Array Value} {below : List Frame} {meth : Method} {c : Code} {cells slots own : Nat} {cc : ByteArray} {nL : Nat} {call : hs_C} {Q : State → Prop} (C : hs_Ctx g p l R s m args c cells slots own cc nL call) {off : Int} {pc n : Nat} {ops : List Nat} {mk : List Bool} {L : hs_L} {st : List hs_V} {μ : hs_M} {pc' : Nat} {L' : hs_L} {st' : List hs_V} {μ' : hs_M} (hd : decode cc pc = .ok (.if_icmp .ge off, n)) (hok : hs_okr own pc (.if_icmp .ge off, n, ops, mk) = true) (ex : hs_nx call (.if_icmp .ge off, n, ops, mk) pc L st μ = some (.inl (pc', L', st', μ'))) (hk : hs_WS g p l e R s m args below meth c cells slots nL Q pc' L' st' μ') : hs_WS g p l e R s m args below meth c cells slots nL Q pc L st μ := by
  obtain ⟨hexec, hb, -⟩ := C
  simp only [hs_okr, Bool.and_eq_true] at hok
  have hn : n = 3 := Nat.eq_of_beq_eq_true hok.1
  subst hn
  have ht : (pc : Int) + off = (hs_tgt pc off : Int) := by simpa [hs_tok] using hok.2
  unfold hs_nx hs_step at ex
  dsimp only at ex
  split at ex
  · rename_i y x st0
    by_cases hc : x < y
    · rw [if_pos hc] at ex
      cases ex
      intro ls H locs hr
      exact lv_icmp_ge hexec hb hd ht (fun q => absurd hc (Int32.not_lt.mpr q)) (fun _ => hk ls H locs (hr.tail (fun w hw => Or.inl (List.mem_cons_of_mem _ (List.mem_cons_of_mem _ (hw))))))
    · rw [if_neg hc] at ex
      cases ex
      intro ls H locs hr
      exact lv_icmp_ge hexec hb hd ht (fun _ => hk ls H locs (hr.tail (fun w hw => Or.inl (List.mem_cons_of_mem _ (List.mem_cons_of_mem _ (hw)))))) (fun q => absurd (Int32.not_lt.mp hc) q)
  · cases ex
theorem hs_s_if_icmp_gt {g : hs_G} {p : Program} {l : Launch} {e : Env} {R : Room} {s : State} {m : MethodId} {args : Array Value} {below : List Frame} {meth : Method} {c : Code} {cells slots own : Nat} {cc : ByteArray} {nL : Nat} {call : hs_C} {Q : State → Prop} (C : hs_Ctx g p l R s m args c cells slots own cc nL call) {off : Int} {pc n : Nat} {ops : List Nat} {mk : List Bool} {L : hs_L} {st : List hs_V} {μ : hs_M} {pc' : Nat} {L' : hs_L} {st' : List hs_V} {μ' : hs_M} (hd : decode cc pc = .ok (.if_icmp .gt off, n)) (hok : hs_okr own pc (.if_icmp .gt off, n, ops, mk) = true) (ex : hs_nx call (.if_icmp .gt off, n, ops, mk) pc L st μ = some (.inl (pc', L', st', μ'))) (hk : hs_WS g p l e R s m args below meth c cells slots nL Q pc' L' st' μ') : hs_WS g p l e R s m args below meth c cells slots nL Q pc L st μ := by
  obtain ⟨hexec, hb, -⟩ := C
  simp only [hs_okr, Bool.and_eq_true] at hok
  have hn : n = 3 := Nat.eq_of_beq_eq_true hok.1
  subst hn
  have ht : (pc : Int) + off = (hs_tgt pc off : Int) := by simpa [hs_tok] using hok.2
  unfold hs_nx hs_step at ex
  dsimp only at ex
  split at ex
  · rename_i y x st0
    by_cases hc : y < x
    · rw [if_pos hc] at ex
      cases ex
      intro ls H locs hr
      exact lv_icmp_gt hexec hb hd ht (fun _ => hk ls H locs (hr.tail (fun w hw => Or.inl (List.mem_cons_of_mem _ (List.mem_cons_of_mem _ (hw)))))) (fun q => absurd hc q)
    · rw [if_neg hc] at ex
      cases ex
      intro ls H locs hr
      exact lv_icmp_gt hexec hb hd ht (fun q => absurd q hc) (fun _ => hk ls H locs (hr.tail (fun w hw => Or.inl (List.mem_cons_of_mem _ (List.mem_cons_of_mem _ (hw))))))
  · cases ex
theorem hs_s_if_icmp_le {g : hs_G} {p : Program} {l : Launch} {e : Env} {R : Room} {s : State} {m : MethodId} {args : Array Value} {below : List Frame} {meth : Method} {c : Code} {cells slots own : Nat} {cc : ByteArray} {nL : Nat} {call : hs_C} {Q : State → Prop} (C : hs_Ctx g p l R s m args c cells slots own cc nL call) {off : Int} {pc n : Nat} {ops : List Nat} {mk : List Bool} {L : hs_L} {st : List hs_V} {μ : hs_M} {pc' : Nat} {L' : hs_L} {st' : List hs_V} {μ' : hs_M} (hd : decode cc pc = .ok (.if_icmp .le off, n)) (hok : hs_okr own pc (.if_icmp .le off, n, ops, mk) = true) (ex : hs_nx call (.if_icmp .le off, n, ops, mk) pc L st μ = some (.inl (pc', L', st', μ'))) (hk : hs_WS g p l e R s m args below meth c cells slots nL Q pc' L' st' μ') : hs_WS g p l e R s m args below meth c cells slots nL Q pc L st μ := by
  obtain ⟨hexec, hb, -⟩ := C
  simp only [hs_okr, Bool.and_eq_true] at hok
  have hn : n = 3 := Nat.eq_of_beq_eq_true hok.1
  subst hn
  have ht : (pc : Int) + off = (hs_tgt pc off : Int) := by simpa [hs_tok] using hok.2
  unfold hs_nx hs_step at ex
  dsimp only at ex
  split at ex
  · rename_i y x st0
    by_cases hc : y < x
    · rw [if_pos hc] at ex
      cases ex
      intro ls H locs hr
      exact lv_icmp_le hexec hb hd ht (fun q => absurd hc (Int32.not_lt.mpr q)) (fun _ => hk ls H locs (hr.tail (fun w hw => Or.inl (List.mem_cons_of_mem _ (List.mem_cons_of_mem _ (hw))))))
    · rw [if_neg hc] at ex
      cases ex
      intro ls H locs hr
      exact lv_icmp_le hexec hb hd ht (fun _ => hk ls H locs (hr.tail (fun w hw => Or.inl (List.mem_cons_of_mem _ (List.mem_cons_of_mem _ (hw)))))) (fun q => absurd (Int32.not_lt.mp hc) q)
  · cases ex
