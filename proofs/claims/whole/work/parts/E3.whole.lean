/-! ===== the law from its entry ===== -/
def ha_cst : Bool := match ha_call 4 11 [.inr (some 0)] [ha_new 11] with
  | some h1 => (match ha_call 4 12 [.inr (some h1.length)] (h1 ++ [ha_new 12]) with
    | some h2 => Nat.ble (ha_cost h1) 1000000 && Nat.ble (ha_cost h2) 1000000
    | none => false)
  | none => false
set_option maxRecDepth 100000 in
theorem ha_cst_ok : ha_cst = true := by decide +kernel
theorem ha_cst_at {h1 h2 : ha_H} (c1 : ha_call 4 11 [.inr (some 0)] [ha_new 11] = some h1) (c2 : ha_call 4 12 [.inr (some h1.length)] (h1 ++ [ha_new 12]) = some h2) : ha_cost h1 ≤ 1000000 ∧ ha_cost h2 ≤ 1000000 := by
  have h := ha_cst_ok
  unfold ha_cst at h
  rw [c1] at h
  dsimp only at h
  rw [c2] at h
  dsimp only at h
  rw [Bool.and_eq_true] at h
  exact ⟨Nat.le_of_ble_eq_true h.1, Nat.le_of_ble_eq_true h.2⟩
theorem hl_dc {pc : Nat} {r : hs_R} (h : hs_at hs_klaw pc = some r) : decode code pc = .ok (r.1, r.2.1) := (hs_at_ok hl_ck h).1
set_option maxHeartbeats 4000000 in
theorem whole_start {p : Program} {e : Env} {s : State} {m : MethodId} {below : List Frame} {meth : Method} {c : Code} (l : Launch) (hlt : l.stackTraces = false) {b L : Nat} {xs : Nat → Int32} (hL : L ≤ 2560) (C0 : lw_At p s m meth c b L xs) : W p l e room_1 s m #[Value.ref b] below meth c s.heap [] 0 0 (lw_Z below #[Value.ref b] s) (entryFrame m ([Value.ref b] : List Value).toArray 8) := by
  obtain ⟨hexec, hb, hret, hml, hown, hts, hX, hbl, hlocks, hgv⟩ := C0
  have hown : s.vm.findClass (hs_own 13) = some m.cls := hown
  have hts' : ∀ w ∈ hs_GW, w.before #[Value.ref b] s = true := fun w hw => hts w (hs_in_tbl hw)
  obtain ⟨D, cA, hK, hAO⟩ := hl_K hts
  obtain ⟨h1, h2, P, c1, c2, hgood, mo1, mo2, l1, l2, h70, hini, lk11, lk12, lk69⟩ := ha_pro_ex
  obtain ⟨cs1, cs2⟩ := ha_cst_at c1 c2
  obtain ⟨m11, m12, m13⟩ := ha_more_spec mo2
  rw [List.length_append, List.length_singleton] at m11
  rw [ha_cost_app] at m13
  obtain ⟨A, hAd⟩ : ∃ A : Nat → Prop, A = fun q => s.heap.size ≤ q := ⟨_, rfl⟩
  have hA : ∀ q, s.heap.size ≤ q → A q := by rw [hAd]; exact fun q h => h
  have hA0 : ∀ a : Nat, a < s.heap.size → ¬ A a := by
    rw [hAd]
    intro a z1 z2
    exact absurd z1 (Nat.not_lt.mpr z2)
  have hA1 : ∀ q, A q → s.heap.size ≤ q := by rw [hAd]; exact fun q h => h
  obtain ⟨adK, adV, t1, t2, t3, t4, t5, t6⟩ := hl_Tx (A := A) hts hgv hA0
  have Ca : ha_Ctx D cA A p room_1 s m #[Value.ref b] c 13 code 8 := ⟨hexec, hb, hml, hown, hts', hK, hA, hAO⟩
  have hl := lv_entry [Value.ref b] (n := 8) (show 1 ≤ 8 by decide)
  rw [lg_entry_eq]
  generalize (lg_sl [Value.ref b] ++ List.replicate (8 - (lg_sl [Value.ref b]).length) Slot.unset).toArray = ls at hl ⊢
  have hl : lv_has ls 8 [(0, Value.ref b)] := hl
  have hP0 : va_P D hs_clas [] s.heap := by
    intro k q z
    rw [List.getElem?_nil] at z
    cases z
  have hD0 : va_D A [] := by
    constructor
    · intro i j p q z
      rw [List.getElem?_nil] at z
      cases z
    · intro k q z
      rw [List.getElem?_nil] at z
      cases z
  refine hl_make Ca (κ := 11) (ik := 8) (ic := 28) (pc := 0) (by decide) (by decide +kernel) (by decide +kernel) (by decide +kernel) (hl_dc (show hs_at hs_klaw 0 = some _ from rfl)) (hl_dc (show hs_at hs_klaw 3 = some _ from rfl)) (hl_dc (show hs_at hs_klaw 4 = some _ from rfl)) (h := []) (h' := h1) (ad := []) (ws := []) c1 mo1 rfl trivial hP0 hD0 va_S.rf (by decide) hl.1 (by show 30 ≤ 2048; omega) (by show 1000 ≤ 84000; omega) (by show 0 + (h1.length - 0) ≤ 601024; omega) (by show 0 + (ha_cost h1 - 0) ≤ 7293034; omega) ?_
  intro q1 ex1 ws1 H1 locs1 f1 a1 p1 d1 s1 k1
  have n1 : (([] ++ [q1]) ++ ex1).length = h1.length := by rw [← f1, List.length_map, a1.length]
  refine lv_astore_n hexec hb (k := 1) (i := 1) (nL := 8) (hl_dc (show hs_at hs_klaw 7 = some _ from rfl)) rfl hl (by decide) (lv' := [(1, Value.ref q1), (0, Value.ref b)]) rfl (fun ls1 hl1 => ?_)
  refine hl_make Ca (κ := 12) (ik := 29) (ic := 31) (pc := 8) (by decide) (by decide +kernel) (by decide +kernel) (by decide +kernel) (hl_dc (show hs_at hs_klaw 8 = some _ from rfl)) (hl_dc (show hs_at hs_klaw 11 = some _ from rfl)) (hl_dc (show hs_at hs_klaw 12 = some _ from rfl)) (h := h1) (h' := h2) (ad := ([] ++ [q1]) ++ ex1) (ws := ws1) c2 mo2 f1 a1 p1 d1 s1 k1 hl1.1 (by show 30 ≤ 2048; omega) (by show 1000 ≤ 84000; omega) (by show 0 + (h1.length - 0) + (h2.length - h1.length) ≤ 601024; omega) (by show 0 + (ha_cost h1 - 0) + (ha_cost h2 - ha_cost h1) ≤ 7293034; omega) ?_
  intro q2 ex2 ws2 H2 locs2 f2 a2 p2 d2 s2 k2
  have n2 : (((([] ++ [q1]) ++ ex1) ++ [q2]) ++ ex2).length = h2.length := by rw [← f2, List.length_map, a2.length]
  refine lv_astore_n hexec hb (k := 2) (i := 2) (nL := 8) (hl_dc (show hs_at hs_klaw 15 = some _ from rfl)) rfl hl1 (by decide) (lv' := [(2, Value.ref q2), (1, Value.ref q1), (0, Value.ref b)]) rfl (fun ls2 hl2 => ?_)
  refine lv_iconst hexec hb (hl_dc (show hs_at hs_klaw 16 = some _ from rfl)) (v := 1) rfl ?_
  refine va_newa (atype := .long) (ty := .long) (N' := 1) hexec hb (hts' _ ha_w_long) rfl hK p2 d2 s2 hA (a0 := (1, .inr (.inl (fun _ => 0)))) (fun _ => rfl) (by decide) rfl (by decide) (by show 0 + (h1.length - 0) + (h2.length - h1.length) + 1 ≤ 601024; omega) (by show 0 + (ha_cost h1 - 0) + (ha_cost h2 - ha_cost h1) + 1 ≤ 7293034; omega) (hl_dc (show hs_at hs_klaw 17 = some _ from rfl)) (fun q3 cA' H3 hK' p3 d3 s3 => ?_)
  have e1 : va_RA s cA' .long := (hK'.2 4 (cA', .long) rfl).2
  have e2 : va_RA s (cA 1) .long := (hK.2 1 (cA 1, .long) rfl).2
  have e3 : cA' = cA 1 := Option.some.inj (e1.symm.trans e2)
  subst e3
  refine lv_astore_n hexec hb (k := 3) (i := 3) (nL := 8) (hl_dc (show hs_at hs_klaw 19 = some _ from rfl)) rfl hl2 (by decide) (lv' := [(3, Value.ref q3), (2, Value.ref q2), (1, Value.ref q1), (0, Value.ref b)]) rfl (fun ls3 hl3 => ?_)
  refine lv_iconst hexec hb (hl_dc (show hs_at hs_klaw 20 = some _ from rfl)) (v := 0) rfl ?_
  refine lv_istore hexec hb (i := 4) (nL := 8) (hl_dc (show hs_at hs_klaw 21 = some _ from rfl)) hl3 (by decide) (lv' := [(4, Value.int 0), (3, Value.ref q3), (2, Value.ref q2), (1, Value.ref q1), (0, Value.ref b)]) rfl (fun ls4 hl4 => ?_)
  obtain ⟨ad, had⟩ : ∃ ad : List Nat, ad = (((([] ++ [q1]) ++ ex1) ++ [q2]) ++ ex2) ++ [q3] := ⟨_, rfl⟩
  have hfst : ((ws2 ++ [(q3, Sum.inl (cA 1, 1, Sum.inr (Sum.inl (fun _ => 0))))] : va_W)).map Prod.fst = ad := by
    rw [List.map_append, f2, had]
    rfl
  have her : ha_er cA ad (.inr (1, 1, [])) (.inl (cA 1, 1, .inr (.inl (fun _ => 0)))) := rfl
  have hall : ha_all2 (fun (x : ha_E) (q : Nat × va_E) => ha_er cA ad x q.2) (h2 ++ [.inr (1, 1, [])]) (ws2 ++ [(q3, .inl (cA 1, 1, .inr (.inl (fun _ => 0))))]) := ha_all2.push (P := fun (x : ha_E) (q : Nat × va_E) => ha_er cA ad x q.2) (a := .inr (1, 1, [])) (b := (q3, .inl (cA 1, 1, .inr (.inl (fun _ => 0))))) her (a2.mono (fun _ _ h => by rw [had]; exact ha_er.app h _))
  have hWd := ha_world (D := D) (cA := cA) (A := A) (b := b) (tx := adK) (gV := adV) (X := xs) (N := L) h70 hall hfst p3 d3 hgood (by omega)
  have hI := hx_I0s (μ := ha_mu (h2 ++ [.inr (1, 1, [])]) P xs L) (fun κ j i h => ha_mu_ne h j i) hini
  have g70 : ∀ j, ha_gA ad P b adK 70 j = b := fun j => if_pos rfl
  have g90 : ha_gA ad P b adK 90 = adK := funext fun j => (if_neg (by decide)).trans (if_pos rfl)
  have i0 : ad[0]? = some q1 := by rw [had]; rfl
  have i1 : ad[h1.length]? = some q2 := by
    rw [had, List.append_assoc, List.append_assoc, List.getElem?_append_right (by omega), n1, Nat.sub_self]
    rfl
  have i2 : ad[h2.length]? = some q3 := by
    rw [had, List.getElem?_append_right (by omega), n2, Nat.sub_self]
    rfl
  have g11 : ha_gA ad P b adK 11 0 = q1 := ha_gA_at h70 lk11 i0
  have g12 : ha_gA ad P b adK 12 0 = q2 := ha_gA_at h70 lk12 i1
  have g69 : ha_gA ad P b adK 69 0 = q3 := ha_gA_at h70 lk69 i2
  obtain ⟨g, hg⟩ : ∃ g : hs_G, g = (D.1, D.2, cA, ha_gA ad P b adK, adV, A, xs, L) := ⟨_, rfl⟩
  have gA : hs_gA g = ha_gA ad P b adK := by rw [hg]
  have gP : hs_gP g = A := by rw [hg]
  have gN : hs_gN g = L := by rw [hg]
  rw [← hg] at hWd
  have hSf : hs_Sf g s := by
    rw [hg]
    refine ⟨hK, va_Nw.of rfl (hts _ (hl_mem2 664 (by decide +kernel))), va_Nw.of rfl (hts _ (hl_mem2 744 (by decide +kernel))), ⟨fun q hq => ?_, ?_, t3, t4⟩, ?_, ?_, ?_⟩
    · show vk_R "HeavierServesModel" q.1 (hs_stt q.2) (ha_gA ad P b adK 90 q.2) s
      rw [g90]
      exact t1 q hq
    · show vk_S 5 _ _ (ha_gA ad P b adK 90) adV A s s.heap
      rw [g90]
      exact t2
    · show va_X (ha_gA ad P b adK 70 0) L xs s s.heap
      rw [g70]
      exact hX
    · show ha_gA ad P b adK 70 0 < s.heap.size
      rw [g70]
      exact hbl
    · show ¬ A (ha_gA ad P b adK 70 0)
      rw [g70]
      exact hA0 b hbl
  have hSx : hl_Sx g s := by
    refine ⟨fun w hw => va_Nw.of (hl_nw_ot w hw) (hts w (hl_nw_in w hw)), ?_, ?_⟩
    · rw [gP]
      exact t5
    · rw [gP]
      exact t6
  have C : hs_Ctx g p l room_1 s m #[Value.ref b] c 0 0 13 code 8 (hs_call 200) := ⟨hexec, hb, hml, hown, hts', hSf, ⟨by show 0 ≤ 601024; omega, by show 0 ≤ 7293034; omega⟩, ⟨by show 1 ≤ 2048; omega, by show 48 ≤ 84000; omega, hs_rm 0, rfl, rfl, by show 0 + 4 + 1 ≤ 2048; omega, by show 48 + (48 * 0 + 200) ≤ 84000; omega, hs_txt_ok g l⟩, hs_rm 200, rfl, rfl, by show 200 + 4 + 1 ≤ 2048; omega, by show 48 + (48 * 200 + 200) ≤ 84000; omega, hs_sound g l (hs_txt_ok g l) hs_ckp_all 200⟩
  have hrel : hs_rel g 8 s (hl_L (nI (5 * 0))) [] (ha_mu (h2 ++ [.inr (1, 1, [])]) P xs L) ls4 H3 locs2 := by
    refine ⟨lv_less hl4 ?_, rfl, ?_, (fun v hv => by cases hv), hWd, ?_⟩
    · intro q hq
      have hq : q ∈ [(0, Value.ref (hs_gA g 70 0)), (1, Value.ref (hs_gA g 11 0)), (2, Value.ref (hs_gA g 12 0)), (3, Value.ref (hs_gA g 69 0)), (4, Value.int 0)] := hq
      rw [gA, g70, g11, g12, g69] at hq
      simp only [List.mem_cons, List.not_mem_nil, or_false] at hq ⊢
      rcases hq with rfl | rfl | rfl | rfl | rfl <;> simp
    · intro k v hv
      have hv := hs_nth_mem _ _ _ hv
      simp only [hl_L, List.mem_cons, List.not_mem_nil, or_false, Option.some.injEq, reduceCtorEq] at hv
      rcases hv with rfl | rfl | rfl | rfl | rfl
      · exact Or.inr (Or.inr rfl)
      · exact Or.inl ⟨by decide, by decide⟩
      · exact Or.inl ⟨by decide, by decide⟩
      · exact Or.inl ⟨by decide, by decide⟩
      · exact trivial
    · rw [gP]
      exact s3
  have hend : ∀ cells slots μ, cells ≤ 2000 → slots ≤ 3000000 → hs_WS g p l e room_1 s m #[Value.ref b] below meth c cells slots 8 (lw_Z below #[Value.ref b] s) 1759 [none, none, none, none, none, none, none, none] [vI (1 : Int32)] μ := by
    intro cells slots μ hc hs ls H locs hr
    refine va_forget (fun q hq => hA1 _ (by rw [← gP]; exact hr.2.2.2.2.2.2.2 q hq)) (W.widen (k := 601024) (n := 7293034) (by omega) (by omega) ?_)
    exact lw_ret hexec hb hret hlocks (hl_dc (show hs_at hs_klaw 1759 = some _ from rfl))
  exact hl_loop C hSx hlt (by show 300 ≤ 2048; omega) (by show 20000 ≤ 84000; omega) (by rw [gN]; exact hL) (c1 := 2000) (s1 := 3000000) (by show 2000 ≤ 601024; omega) (by show 3000000 ≤ 7293034; omega) hend 512 0 _ _ hx_E0 _ _ (by rw [gN]; omega) (by omega) (by show 0 + (h1.length - 0) + (h2.length - h1.length) + 1 + 512 ≤ 2000; omega) (by show 0 + (ha_cost h1 - 0) + (ha_cost h2 - ha_cost h1) + 1 + 6 * 512 ≤ 3000000; omega) hI ls4 H3 locs2 hrel
