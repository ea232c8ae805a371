/-! ===== memory, constants, switches ===== -/
def hs_cR (κ : Nat) : String := (hs_nth [RX0, RX1, RX2, RX3, RX4, RX5, RX6, RX7, RX8, RX9, RX10, RX11, RX12] κ).getD ""
def hs_lwx : List (List Nat) := [[415, 417, 419, 421, 423, 425, 427, 429, 431, 433, 435, 437, 439], [387, 389, 391], [370, 372, 374], [344, 346, 348, 350, 352], [150, 152], [243, 245, 247, 249], [302, 304, 306, 308, 310, 312, 314, 316, 318, 320, 322, 324, 326], [131, 133, 135], [183, 185, 187, 189, 191, 193, 195, 197, 199, 201], [457, 459, 461, 463, 465, 467, 469], [216, 218, 220, 222, 224, 226], [484, 486, 488, 490, 492, 494, 496, 498, 500, 502, 504, 506], [1345, 1347, 1349, 1351, 1353, 1355, 1357, 1359, 1361, 1363, 1365, 1367, 1369, 1371, 1373, 1375, 1377, 1379, 1381, 1383, 1385, 1387, 1389, 1391, 1393, 1395, 1397, 1399, 1401, 1403, 1405, 1407, 1409, 1411, 1413, 1415, 1417, 1419, 1421, 1423, 1425, 1427, 1429, 1431, 1433, 1435]]
set_option maxRecDepth 100000 in
theorem hs_lwx_ok : (List.range 13).all (fun κ => (List.range (hs_cN κ)).all (fun k => hs_is (((hs_nth hs_lwx κ).getD []).getD k 0) (u_lay (hs_cR κ) (hs_cT κ) k))) = true := by decide +kernel
theorem hs_lays {κ : Nat} (h : κ < 13) : ∀ w ∈ u_ws (hs_cR κ) (hs_cT κ) (hs_cN κ), w ∈ hs_GW := by
  intro w hw
  obtain ⟨k, hk, e⟩ := List.mem_map.mp hw
  have h1 := List.all_eq_true.mp hs_lwx_ok κ (List.mem_range.mpr h)
  have h2 := List.all_eq_true.mp h1 k hk
  rw [← e]
  exact hs_is_in h2
theorem hs_blt {a b : Nat} (h : Nat.blt a b = true) : a < b := Nat.lt_of_succ_le (Nat.le_of_ble_eq_true h)
theorem hs_c13 {P : Nat → Prop} (h0 : P 0) (h1 : P 1) (h2 : P 2) (h3 : P 3) (h4 : P 4) (h5 : P 5) (h6 : P 6) (h7 : P 7) (h8 : P 8) (h9 : P 9) (h10 : P 10) (h11 : P 11) (h12 : P 12) {κ : Nat} (h : κ < 13) : P κ := by
  rcases (show κ = 0 ∨ κ = 1 ∨ κ = 2 ∨ κ = 3 ∨ κ = 4 ∨ κ = 5 ∨ κ = 6 ∨ κ = 7 ∨ κ = 8 ∨ κ = 9 ∨ κ = 10 ∨ κ = 11 ∨ κ = 12 by omega) with rfl | rfl | rfl | rfl | rfl | rfl | rfl | rfl | rfl | rfl | rfl | rfl | rfl
  · exact h0
  · exact h1
  · exact h2
  · exact h3
  · exact h4
  · exact h5
  · exact h6
  · exact h7
  · exact h8
  · exact h9
  · exact h10
  · exact h11
  · exact h12
theorem hs_clas_at {κ : Nat} (h : κ < 13) : hs_clas[κ]? = some (hs_cR κ, hs_cT κ, hs_cN κ) := hs_c13 (P := fun κ => hs_clas[κ]? = some (hs_cR κ, hs_cT κ, hs_cN κ)) rfl rfl rfl rfl rfl rfl rfl rfl rfl rfl rfl rfl rfl h
theorem hs_cty_ok {κ : Nat} (h : κ < 13) : ∀ k, k < hs_cN κ → parseFieldDescriptor (hs_cT κ k).2.2.1 = some (hs_cty κ k) := hs_c13 (P := fun κ => ∀ k, k < hs_cN κ → parseFieldDescriptor (hs_cT κ k).2.2.1 = some (hs_cty κ k)) tyX0_ok tyX1_ok tyX2_ok tyX3_ok tyX4_ok tyX5_ok tyX6_ok tyX7_ok tyX8_ok tyX9_ok tyX10_ok tyX11_ok tyX12_ok h
theorem hs_cnm_ok {κ : Nat} (h : κ < 13) : ∀ a, a < hs_cN κ → ∀ b, b < hs_cN κ → a ≠ b → (hs_cT κ a).2.1 ≠ (hs_cT κ b).2.1 := hs_c13 (P := fun κ => ∀ a, a < hs_cN κ → ∀ b, b < hs_cN κ → a ≠ b → (hs_cT κ a).2.1 ≠ (hs_cT κ b).2.1) nmX0 nmX1 nmX2 nmX3 nmX4 nmX5 nmX6 nmX7 nmX8 nmX9 nmX10 nmX11 nmX12 h
theorem hs_any_mem {l : List (Nat × (Nat × (Nat × (Nat × Nat))))} {a b c d : Nat} (h : hs_any l a b c d = true) : ∃ i, (a, b, c, d, i) ∈ l := by
  simp only [hs_any, List.any_eq_true, Bool.and_eq_true] at h
  obtain ⟨⟨a', b', c', d', i⟩, hm, h1, h2, h3, h4⟩ := h
  have e1 := Nat.eq_of_beq_eq_true h1
  have e2 := Nat.eq_of_beq_eq_true h2
  have e3 := Nat.eq_of_beq_eq_true h3
  have e4 := Nat.eq_of_beq_eq_true h4
  dsimp only at e1 e2 e3 e4
  subst e1; subst e2; subst e3; subst e4
  exact ⟨i, hm⟩
theorem hs_w_fl {own idx ci f : Nat} (h : hs_any hs_fl own idx ci f = true) : Cond.fieldLink (hs_own own) idx (hs_cT ci f).1 (hs_cT ci f).2.1 (hs_cT ci f).2.2.1 ∈ hs_GW := by
  obtain ⟨i, hi⟩ := hs_any_mem h
  exact hs_is_in (List.all_eq_true.mp hs_fl_ok _ hi)
theorem hs_w_k0 {own idx n : Nat} (h : hs_any hs_kl own idx 0 n = true) : Cond.constant (hs_own own) idx (Int32.ofNat n) ∈ hs_GW := by
  obtain ⟨i, hi⟩ := hs_any_mem h
  exact hs_is_in (List.all_eq_true.mp hs_kl_ok _ hi)
theorem hs_w_k1 {own idx n : Nat} (h : hs_any hs_kl own idx 1 n = true) : Cond.constantLong (hs_own own) idx (Int64.ofNat n) ∈ hs_GW := by
  obtain ⟨i, hi⟩ := hs_any_mem h
  exact hs_is_in (List.all_eq_true.mp hs_kl_ok _ hi)
theorem hs_w_k2 {own idx n : Nat} (h : hs_any hs_kl own idx 2 n = true) : Cond.constantLong (hs_own own) idx (-(Int64.ofNat n)) ∈ hs_GW := by
  obtain ⟨i, hi⟩ := hs_any_mem h
  exact hs_is_in (List.all_eq_true.mp hs_kl_ok _ hi)
theorem hs_fld_chk : (List.range 13).all (fun κ => (hs_fld κ).all (fun x => match x with
  | none => true
  | some (κ', 0, b) => Nat.blt κ' 70 && Nat.blt b (hs_num κ')
  | some (κ', _ + 1, b) => Nat.blt κ' 70 && Nat.ble (hs_num κ + b) (hs_num κ'))) = true := by decide +kernel
theorem hs_fld_ok0 {κ f κ' b : Nat} (h : κ < 13) (hf : hs_nth (hs_fld κ) f = some (some (κ', 0, b))) : κ' < 70 ∧ b < hs_num κ' := by
  have h2 := List.all_eq_true.mp (List.all_eq_true.mp hs_fld_chk κ (List.mem_range.mpr h)) _ (hs_nth_mem _ _ _ hf)
  simp only [Bool.and_eq_true] at h2
  exact ⟨hs_blt h2.1, hs_blt h2.2⟩
theorem hs_fld_ok1 {κ f κ' n b j : Nat} (h : κ < 13) (hj : j < hs_num κ) (hf : hs_nth (hs_fld κ) f = some (some (κ', n + 1, b))) : κ' < 70 ∧ j + b < hs_num κ' := by
  have h2 := List.all_eq_true.mp (List.all_eq_true.mp hs_fld_chk κ (List.mem_range.mpr h)) _ (hs_nth_mem _ _ _ hf)
  simp only [Bool.and_eq_true] at h2
  exact ⟨hs_blt h2.1, by have := Nat.le_of_ble_eq_true h2.2; omega⟩
theorem hs_akind_obj {κ : Nat} (h : κ < 13) : hs_akind κ = 9 := hs_c13 (P := fun κ => hs_akind κ = 9) rfl rfl rfl rfl rfl rfl rfl rfl rfl rfl rfl rfl rfl h
theorem hs_cell_obj {g : hs_G} {μ : hs_M} {κ j : Nat} (h : κ < 13) : hs_cell g μ κ j = .inr (κ, hs_fv g μ κ j 0 (hs_fld κ)) := by
  unfold hs_cell
  rw [hs_akind_obj h]
  rfl
theorem hs_cell_0 {g : hs_G} {μ : hs_M} {κ j : Nat} (h : hs_akind κ = 0) : hs_cell g μ κ j = .inl (hs_gC g 0, hs_len μ κ j, .inl (μ.1 κ j)) := by unfold hs_cell; rw [h]; rfl
theorem hs_cell_1 {g : hs_G} {μ : hs_M} {κ j : Nat} (h : hs_akind κ = 1) : hs_cell g μ κ j = .inl (hs_gC g 1, hs_len μ κ j, .inr (.inl (μ.2 κ j))) := by unfold hs_cell; rw [h]; rfl
theorem hs_cell_2 {g : hs_G} {μ : hs_M} {κ j : Nat} (h : hs_akind κ = 2) : hs_cell g μ κ j = .inl (hs_gC g 2, hs_len μ κ j, .inl (μ.1 κ j)) := by unfold hs_cell; rw [h]; rfl
theorem hs_cell_3 {g : hs_G} {μ : hs_M} {κ j : Nat} (h : hs_akind κ = 3) : hs_cell g μ κ j = .inl (hs_gC g 3, hs_len μ κ j, .inr (.inr (.inr (.inr (fun i => some (hs_gA g 6 (hs_base κ + i))))))) := by unfold hs_cell; rw [h]; rfl
theorem hs_in_vp {i : Int32} {n : Nat} (h : hs_in i n = true) : vp_in i n := by
  simp only [hs_in, Bool.and_eq_true, decide_eq_true_eq] at h
  rintro (q | q)
  · exact absurd h.1 (Int32.not_le.mpr q)
  · omega
theorem hs_in_lt {i : Int32} {n : Nat} (h : hs_in i n = true) : i.toNatClampNeg < n := by
  simp only [hs_in, Bool.and_eq_true, decide_eq_true_eq] at h
  exact h.2
theorem hs_ok_obj {κ j : Nat} (h : hs_ok (.inr (.inr (κ, j)))) (hκ : κ < 70) : j < hs_num κ := by
  rcases h with h | ⟨h, -⟩ | h
  · exact h.2
  · dsimp only at h; omega
  · cases h; omega
theorem hs_ok_kind {κ j a : Nat} (h : hs_ok (.inr (.inr (κ, j)))) (hκ : hs_akind κ = a) (ha : a < 9) : (κ < 70 ∧ j < hs_num κ) ∨ (κ = 70 ∧ j = 0) := by
  rcases h with h | ⟨h, -⟩ | h
  · exact Or.inl h
  · dsimp only at h
    subst h
    rw [show hs_akind 90 = 9 from rfl] at hκ
    omega
  · cases h
    exact Or.inr ⟨rfl, rfl⟩
theorem hs_Sc_ne {g : hs_G} {μ μ' : hs_M} (h : hs_Sc g μ) (e : ∀ j i, μ'.1 70 j i = μ.1 70 j i) : hs_Sc g μ' := ⟨fun i hi => (e 0 i).trans (h.1 i hi), by rw [e]; exact h.2⟩
/-- a cell is written: the world behind it -/
theorem hs_Wd_set {g : hs_G} {μ μ' : hs_M} {q κ j : Nat} {E : va_E} {H H1 : Heap} (hw : hs_Wd g μ H) (hκ : κ < 70) (hq : hs_objs[q]? = some (κ, j)) (hE : hs_cell g μ' κ j = E) (ho : ∀ κ' j', (κ', j') ≠ (κ, j) → μ'.1 κ' j' = μ.1 κ' j' ∧ μ'.2 κ' j' = μ.2 κ' j') (hP : va_P (hs_gD g) hs_clas ((hs_ws g μ).set q (hs_gA g κ j, E)) H1) (hD : va_D (hs_gP g) ((hs_ws g μ).set q (hs_gA g κ j, E))) : hs_Wd g μ' H1 := by
  subst hE
  have e := hs_ws_set (μ' := μ') hw.2.1 hq (fun κ' j' h1 h2 => hs_cell_congr h1 (ho κ' j' h2).1 (ho κ' j' h2).2)
  rw [e] at hP hD
  exact ⟨hP, hD, hs_Sc_ne hw.2.2 (fun j' i => by rw [(ho 70 j' (by intro z; cases z; omega)).1])⟩
theorem hs_s_ldc {g : hs_G} {p : Program} {l : Launch} {e : Env} {R : Room} {s : State} {m : MethodId} {args : Array Value} {below : List Frame} {meth : Method} {c : Code} {cells slots own : Nat} {cc : ByteArray} {nL : Nat} {call : hs_C} {Q : State → Prop} (C : hs_Ctx g p l R s m args c cells slots own cc nL call) {idx : Nat} {pc n : Nat} {ops : List Nat} {mk : List Bool} {L : hs_L} {st : List hs_V} {μ : hs_M} {pc' : Nat} {L' : hs_L} {st' : List hs_V} {μ' : hs_M} (hd : decode cc pc = .ok (.ldc idx, n)) (hok : hs_okr own pc (.ldc idx, n, ops, mk) = true) (ex : hs_nx call (.ldc idx, n, ops, mk) pc L st μ = some (.inl (pc', L', st', μ'))) (hk : hs_WS g p l e R s m args below meth c cells slots nL Q pc' L' st' μ') : hs_WS g p l e R s m args below meth c cells slots nL Q pc L st μ := by
  obtain ⟨hexec, hb, -, hown, hts, hSf, -⟩ := C
  unfold hs_nx hs_step at ex
  dsimp only at ex
  split at ex
  · simp only [hs_okr, Bool.and_eq_true] at hok
    have hn : n = 2 := Nat.eq_of_beq_eq_true hok.1
    subst hn
    cases ex
    intro ls H locs hr
    exact lv_ldc hexec hb hown (hts _ (hs_w_k0 hok.2)) hd (hk ls H locs (hr.tail (fun w hw => (List.mem_cons.mp hw).elim (fun q => by rw [q]; exact Or.inr (hs_okv_i _)) Or.inl)))
  · rename_i z
    simp only [hs_okr, Bool.and_eq_true] at hok
    have hn : n = 2 := Nat.eq_of_beq_eq_true hok.1
    subst hn
    obtain ⟨h12, hx⟩ := hok.2
    have h12 := Nat.eq_of_beq_eq_true h12
    subst h12
    simp only [List.any_eq_true, Bool.and_eq_true] at hx
    obtain ⟨⟨a, b⟩, hm, e1, e2⟩ := hx
    have e1 := Nat.eq_of_beq_eq_true e1
    have e2 := Nat.eq_of_beq_eq_true e2
    dsimp only at e1 e2
    subst e1; subst e2
    cases ex
    intro ls H locs hr
    have h5 : b < 5 := (show ∀ q ∈ hs_stx, q.2 < 5 by decide) _ hm
    exact va_ldcS hexec hb hown (hSf.2.2.2.1.1 _ hm) hd (hk ls H locs (hr.tail (fun w hw => (List.mem_cons.mp hw).elim (fun q => by rw [q]; exact Or.inr (Or.inr (Or.inl ⟨rfl, h5⟩))) Or.inl)))
  · cases ex
theorem hs_s_ldc_w {g : hs_G} {p : Program} {l : Launch} {e : Env} {R : Room} {s : State} {m : MethodId} {args : Array Value} {below : List Frame} {meth : Method} {c : Code} {cells slots own : Nat} {cc : ByteArray} {nL : Nat} {call : hs_C} {Q : State → Prop} (C : hs_Ctx g p l R s m args c cells slots own cc nL call) {idx : Nat} {pc n : Nat} {ops : List Nat} {mk : List Bool} {L : hs_L} {st : List hs_V} {μ : hs_M} {pc' : Nat} {L' : hs_L} {st' : List hs_V} {μ' : hs_M} (hd : decode cc pc = .ok (.ldc_w idx, n)) (hok : hs_okr own pc (.ldc_w idx, n, ops, mk) = true) (ex : hs_nx call (.ldc_w idx, n, ops, mk) pc L st μ = some (.inl (pc', L', st', μ'))) (hk : hs_WS g p l e R s m args below meth c cells slots nL Q pc' L' st' μ') : hs_WS g p l e R s m args below meth c cells slots nL Q pc L st μ := by
  obtain ⟨hexec, hb, -, hown, hts, hSf, -⟩ := C
  unfold hs_nx hs_step at ex
  dsimp only at ex
  split at ex
  · simp only [hs_okr, Bool.and_eq_true] at hok
    have hn : n = 3 := Nat.eq_of_beq_eq_true hok.1
    subst hn
    cases ex
    intro ls H locs hr
    exact lv_ldcw hexec hb hown (hts _ (hs_w_k0 hok.2)) hd (hk ls H locs (hr.tail (fun w hw => (List.mem_cons.mp hw).elim (fun q => by rw [q]; exact Or.inr (hs_okv_i _)) Or.inl)))
  · cases ex
theorem hs_s_ldc2_w {g : hs_G} {p : Program} {l : Launch} {e : Env} {R : Room} {s : State} {m : MethodId} {args : Array Value} {below : List Frame} {meth : Method} {c : Code} {cells slots own : Nat} {cc : ByteArray} {nL : Nat} {call : hs_C} {Q : State → Prop} (C : hs_Ctx g p l R s m args c cells slots own cc nL call) {idx : Nat} {pc n : Nat} {ops : List Nat} {mk : List Bool} {L : hs_L} {st : List hs_V} {μ : hs_M} {pc' : Nat} {L' : hs_L} {st' : List hs_V} {μ' : hs_M} (hd : decode cc pc = .ok (.ldc2_w idx, n)) (hok : hs_okr own pc (.ldc2_w idx, n, ops, mk) = true) (ex : hs_nx call (.ldc2_w idx, n, ops, mk) pc L st μ = some (.inl (pc', L', st', μ'))) (hk : hs_WS g p l e R s m args below meth c cells slots nL Q pc' L' st' μ') : hs_WS g p l e R s m args below meth c cells slots nL Q pc L st μ := by
  obtain ⟨hexec, hb, -, hown, hts, hSf, -⟩ := C
  unfold hs_nx hs_step at ex
  dsimp only at ex
  split at ex
  · simp only [hs_okr, Bool.and_eq_true] at hok
    have hn : n = 3 := Nat.eq_of_beq_eq_true hok.1
    subst hn
    cases ex
    intro ls H locs hr
    exact lv_ldc2 hexec hb hown (hts _ (hs_w_k1 hok.2)) hd (hk ls H locs (hr.tail (fun w hw => (List.mem_cons.mp hw).elim (fun q => by rw [q]; exact Or.inr (hs_okv_l _)) Or.inl)))
  · simp only [hs_okr, Bool.and_eq_true] at hok
    have hn : n = 3 := Nat.eq_of_beq_eq_true hok.1
    subst hn
    cases ex
    intro ls H locs hr
    exact lv_ldc2 hexec hb hown (hts _ (hs_w_k2 hok.2)) hd (hk ls H locs (hr.tail (fun w hw => (List.mem_cons.mp hw).elim (fun q => by rw [q]; exact Or.inr (hs_okv_l _)) Or.inl)))
  · cases ex
theorem hs_s_getfield {g : hs_G} {p : Program} {l : Launch} {e : Env} {R : Room} {s : State} {m : MethodId} {args : Array Value} {below : List Frame} {meth : Method} {c : Code} {cells slots own : Nat} {cc : ByteArray} {nL : Nat} {call : hs_C} {Q : State → Prop} (C : hs_Ctx g p l R s m args c cells slots own cc nL call) {idx : Nat} {pc n : Nat} {ops : List Nat} {mk : List Bool} {L : hs_L} {st : List hs_V} {μ : hs_M} {pc' : Nat} {L' : hs_L} {st' : List hs_V} {μ' : hs_M} (hd : decode cc pc = .ok (.getfield idx, n)) (hok : hs_okr own pc (.getfield idx, n, ops, mk) = true) (ex : hs_nx call (.getfield idx, n, ops, mk) pc L st μ = some (.inl (pc', L', st', μ'))) (hk : hs_WS g p l e R s m args below meth c cells slots nL Q pc' L' st' μ') : hs_WS g p l e R s m args below meth c cells slots nL Q pc L st μ := by
  obtain ⟨hexec, hb, -, hown, hts, hSf, -⟩ := C
  unfold hs_nx hs_step at ex
  dsimp only at ex
  split at ex
  · rename_i ci f κ j st0
    unfold hs_if at ex
    cases hκ : Nat.beq κ ci with
    | false => rw [hκ] at ex; cases ex
    | true =>
      rw [hκ] at ex
      dsimp only at ex
      have hκ := Nat.eq_of_beq_eq_true hκ
      subst hκ
      simp only [hs_okr, Bool.and_eq_true] at hok
      have hn : n = 3 := Nat.eq_of_beq_eq_true hok.1
      subst hn
      have hf1 := hok.2.1
      have hfN : f < hs_cN κ := hs_blt hok.2.2.1
      have h13 : κ < 13 := hs_blt hok.2.2.2
      intro ls H locs hr
      have hj : j < hs_num κ := hs_ok_obj (hr.2.2.2.1 _ List.mem_cons_self) (by omega)
      obtain ⟨q, hq, hw⟩ := hs_ws_get g μ (show κ < 70 by omega) hj
      rw [hs_cell_obj h13] at hw
      cases hfl : hs_nth (hs_fld κ) f with
      | none => rw [hfl] at ex; cases ex
      | some x =>
        rw [hfl] at ex
        rcases x with _ | ⟨κ', n', b⟩
        · cases ex
          exact va_get hexec hb hts (hs_lays h13) hown hSf.1 hr.2.2.2.2.1.1 q hw (hs_clas_at h13) f hfN (hts _ (hs_w_fl hf1)) (fun x h => h) (v := .int (μ.1 κ j f)) (by rw [hs_fv_at, hfl]; simp) hd (hk ls H locs (hr.tail (fun w hw => (List.mem_cons.mp hw).elim (fun q => by rw [q]; exact Or.inr (hs_okv_i _)) (fun q => Or.inl ((fun q => List.mem_cons_of_mem _ (q)) q)))))
        · cases n' with
          | zero =>
            cases ex
            exact va_get hexec hb hts (hs_lays h13) hown hSf.1 hr.2.2.2.2.1.1 q hw (hs_clas_at h13) f hfN (hts _ (hs_w_fl hf1)) (fun x h => h) (v := .ref (hs_gA g κ' b)) (by rw [hs_fv_at, hfl]; simp) hd (hk ls H locs (hr.tail (fun w hw => (List.mem_cons.mp hw).elim (fun q => by rw [q]; exact Or.inr (Or.inl (hs_fld_ok0 h13 hfl))) (fun q => Or.inl (List.mem_cons_of_mem _ q)))))
          | succ n' =>
            cases ex
            exact va_get hexec hb hts (hs_lays h13) hown hSf.1 hr.2.2.2.2.1.1 q hw (hs_clas_at h13) f hfN (hts _ (hs_w_fl hf1)) (fun x h => h) (v := .ref (hs_gA g κ' (j + b))) (by rw [hs_fv_at, hfl]; simp) hd (hk ls H locs (hr.tail (fun w hw => (List.mem_cons.mp hw).elim (fun q => by rw [q]; exact Or.inr (Or.inl (hs_fld_ok1 h13 hj hfl))) (fun q => Or.inl (List.mem_cons_of_mem _ q)))))
  · cases ex
theorem hs_s_putfield {g : hs_G} {p : Program} {l : Launch} {e : Env} {R : Room} {s : State} {m : MethodId} {args : Array Value} {below : List Frame} {meth : Method} {c : Code} {cells slots own : Nat} {cc : ByteArray} {nL : Nat} {call : hs_C} {Q : State → Prop} (C : hs_Ctx g p l R s m args c cells slots own cc nL call) {idx : Nat} {pc n : Nat} {ops : List Nat} {mk : List Bool} {L : hs_L} {st : List hs_V} {μ : hs_M} {pc' : Nat} {L' : hs_L} {st' : List hs_V} {μ' : hs_M} (hd : decode cc pc = .ok (.putfield idx, n)) (hok : hs_okr own pc (.putfield idx, n, ops, mk) = true) (ex : hs_nx call (.putfield idx, n, ops, mk) pc L st μ = some (.inl (pc', L', st', μ'))) (hk : hs_WS g p l e R s m args below meth c cells slots nL Q pc' L' st' μ') : hs_WS g p l e R s m args below meth c cells slots nL Q pc L st μ := by
  obtain ⟨hexec, hb, -, hown, hts, hSf, -⟩ := C
  unfold hs_nx hs_step at ex
  dsimp only at ex
  split at ex
  · rename_i ci f v κ j st0
    unfold hs_if at ex
    cases hκ : Nat.beq κ ci with
    | false => rw [hκ] at ex; cases ex
    | true =>
      rw [hκ] at ex
      dsimp only at ex
      have hκ := Nat.eq_of_beq_eq_true hκ
      subst hκ
      simp only [hs_okr, Bool.and_eq_true] at hok
      have hn : n = 3 := Nat.eq_of_beq_eq_true hok.1
      subst hn
      have hf1 := hok.2.1
      have hfN : f < hs_cN κ := hs_blt hok.2.2.1
      have h13 : κ < 13 := hs_blt hok.2.2.2.1
      have hfin : (hs_cT κ f).2.2.2 = false := by simpa using hok.2.2.2.2.1
      have hty : hs_cty κ f = .int := by simpa using hok.2.2.2.2.2
      cases hfl : hs_nth (hs_fld κ) f with
      | none => rw [hfl] at ex; cases ex
      | some x =>
        rw [hfl] at ex
        rcases x with _ | ⟨κ', n', b⟩
        · cases ex
          intro ls H locs hr
          have hj : j < hs_num κ := hs_ok_obj (hr.2.2.2.1 _ (List.mem_cons_of_mem _ List.mem_cons_self)) (by omega)
          obtain ⟨q, hq, hw⟩ := hs_ws_get g μ (show κ < 70 by omega) hj
          rw [hs_cell_obj h13] at hw
          have hlen : f < (hs_fv g μ κ j 0 (hs_fld κ)).length := by
            have h1 := hs_fv_at (g := g) (μ := μ) (κ := κ) (j := j) (hs_fld κ) 0 f
            rw [hfl] at h1
            exact (List.getElem?_eq_some_iff.mp h1).1
          refine va_put hexec hb hts (hs_lays h13) (hs_cty κ) (hs_cty_ok h13) (hs_cnm_ok h13) hown hSf.1 hr.2.2.2.2.1.1 hr.2.2.2.2.1.2.1 hr.2.2.2.2.2 q hw (hs_clas_at h13) f hfN (hts _ (hs_w_fl hf1)) (fun x h => h) hfin (ty := .int) (v := .int v) (by rw [hs_cty_ok h13 f hfN, hty]) rfl rfl hlen hd (fun H1 locs1 hP hD hS => hk ls H1 locs1 ?_)
          refine ⟨hr.1, hr.2.1, hr.2.2.1, fun w hw => hr.2.2.2.1 w (List.mem_cons_of_mem _ (List.mem_cons_of_mem _ hw)), hs_Wd_set hr.2.2.2.2.1 (by omega) hq ?_ (fun κ' j' h => ⟨hs_wI_ne h, rfl⟩) hP hD, hS⟩
          rw [hs_cell_obj h13]
          have h2 := hs_fv_set (g := g) (μ := μ) (κ := κ) (j := j) (f := f) (v := v) (hs_fld κ) 0 (Nat.zero_le _) (by rw [Nat.sub_zero]; exact hfl)
          rw [Nat.sub_zero] at h2
          rw [h2]
        · cases ex
  · cases ex
theorem hs_s_iaload {g : hs_G} {p : Program} {l : Launch} {e : Env} {R : Room} {s : State} {m : MethodId} {args : Array Value} {below : List Frame} {meth : Method} {c : Code} {cells slots own : Nat} {cc : ByteArray} {nL : Nat} {call : hs_C} {Q : State → Prop} (C : hs_Ctx g p l R s m args c cells slots own cc nL call)  {pc n : Nat} {ops : List Nat} {mk : List Bool} {L : hs_L} {st : List hs_V} {μ : hs_M} {pc' : Nat} {L' : hs_L} {st' : List hs_V} {μ' : hs_M} (hd : decode cc pc = .ok (.iaload, n)) (hok : hs_okr own pc (.iaload, n, ops, mk) = true) (ex : hs_nx call (.iaload, n, ops, mk) pc L st μ = some (.inl (pc', L', st', μ'))) (hk : hs_WS g p l e R s m args below meth c cells slots nL Q pc' L' st' μ') : hs_WS g p l e R s m args below meth c cells slots nL Q pc L st μ := by
  obtain ⟨hexec, hb, -, hown, hts, hSf, -⟩ := C
  have hn : n = 1 := by simpa [hs_okr] using hok
  subst hn
  unfold hs_nx hs_step at ex
  dsimp only at ex
  split at ex
  · rename_i i κ j st0
    unfold hs_if at ex
    cases hκ : Nat.beq (hs_akind κ) 0 with
    | false => rw [hκ] at ex; cases ex
    | true =>
      rw [hκ] at ex
      dsimp only at ex
      have hκ := Nat.eq_of_beq_eq_true hκ
      by_cases hi : hs_in i (hs_len μ κ j) = true
      rotate_left
      · rw [if_neg hi] at ex; cases ex
      rw [if_pos hi] at ex
      cases ex
      intro ls H locs hr
      rcases hs_ok_kind (hr.2.2.2.1 _ (List.mem_cons_of_mem _ List.mem_cons_self)) hκ (by omega) with ⟨h7, hj⟩ | h7
      · obtain ⟨q, hq, hw⟩ := hs_ws_get g μ h7 hj
        rw [hs_cell_0 hκ] at hw
        exact va_iald hexec hb hSf.1 hr.2.2.2.2.1.1 q 0 hw rfl (hs_in_vp hi) hd (hk ls H locs (hr.tail (fun w hw => (List.mem_cons.mp hw).elim (fun q => by rw [q]; exact Or.inr (hs_okv_i _)) (fun q => Or.inl ((fun q => List.mem_cons_of_mem _ (List.mem_cons_of_mem _ (q))) q)))))
      · obtain ⟨h7, h8⟩ := h7
        subst h7; subst h8
        obtain ⟨hX, hbl, hbA⟩ := hSf.2.2.2.2
        have hl : hs_len μ 70 0 = hs_gN g := hr.2.2.2.2.1.2.2.2
        rw [hl] at hi
        have := hk ls H locs (hr.tail (fun w hw => (List.mem_cons.mp hw).elim (fun q => by rw [q]; exact Or.inr (hs_okv_i _)) (fun q => Or.inl ((fun q => List.mem_cons_of_mem _ (List.mem_cons_of_mem _ (q))) q))))
        rw [hr.2.2.2.2.1.2.2.1 _ (hs_in_lt hi)] at this
        exact va_sld hexec hb hX hbl hbA hr.2.2.2.2.2 (hs_in_vp hi) hd this
  · cases ex
theorem hs_s_baload {g : hs_G} {p : Program} {l : Launch} {e : Env} {R : Room} {s : State} {m : MethodId} {args : Array Value} {below : List Frame} {meth : Method} {c : Code} {cells slots own : Nat} {cc : ByteArray} {nL : Nat} {call : hs_C} {Q : State → Prop} (C : hs_Ctx g p l R s m args c cells slots own cc nL call)  {pc n : Nat} {ops : List Nat} {mk : List Bool} {L : hs_L} {st : List hs_V} {μ : hs_M} {pc' : Nat} {L' : hs_L} {st' : List hs_V} {μ' : hs_M} (hd : decode cc pc = .ok (.baload, n)) (hok : hs_okr own pc (.baload, n, ops, mk) = true) (ex : hs_nx call (.baload, n, ops, mk) pc L st μ = some (.inl (pc', L', st', μ'))) (hk : hs_WS g p l e R s m args below meth c cells slots nL Q pc' L' st' μ') : hs_WS g p l e R s m args below meth c cells slots nL Q pc L st μ := by
  obtain ⟨hexec, hb, -, hown, hts, hSf, -⟩ := C
  have hn : n = 1 := by simpa [hs_okr] using hok
  subst hn
  unfold hs_nx hs_step at ex
  dsimp only at ex
  split at ex
  · rename_i i κ j st0
    unfold hs_if at ex
    cases hκ : Nat.beq (hs_akind κ) 2 with
    | false => rw [hκ] at ex; cases ex
    | true =>
      rw [hκ] at ex
      dsimp only at ex
      have hκ := Nat.eq_of_beq_eq_true hκ
      by_cases hi : hs_in i (hs_len μ κ j) = true
      rotate_left
      · rw [if_neg hi] at ex; cases ex
      rw [if_pos hi] at ex
      cases ex
      intro ls H locs hr
      rcases hs_ok_kind (hr.2.2.2.1 _ (List.mem_cons_of_mem _ List.mem_cons_self)) hκ (by omega) with ⟨h7, hj⟩ | h7
      · obtain ⟨q, hq, hw⟩ := hs_ws_get g μ h7 hj
        rw [hs_cell_2 hκ] at hw
        exact va_zald hexec hb hSf.1 hr.2.2.2.2.1.1 q 2 hw rfl (hs_in_vp hi) hd (hk ls H locs (hr.tail (fun w hw => (List.mem_cons.mp hw).elim (fun q => by rw [q]; exact Or.inr (hs_okv_i _)) (fun q => Or.inl ((fun q => List.mem_cons_of_mem _ (List.mem_cons_of_mem _ (q))) q)))))
      · obtain ⟨h7, h8⟩ := h7
        subst h7; subst h8
        cases hκ
  · cases ex
theorem hs_s_laload {g : hs_G} {p : Program} {l : Launch} {e : Env} {R : Room} {s : State} {m : MethodId} {args : Array Value} {below : List Frame} {meth : Method} {c : Code} {cells slots own : Nat} {cc : ByteArray} {nL : Nat} {call : hs_C} {Q : State → Prop} (C : hs_Ctx g p l R s m args c cells slots own cc nL call)  {pc n : Nat} {ops : List Nat} {mk : List Bool} {L : hs_L} {st : List hs_V} {μ : hs_M} {pc' : Nat} {L' : hs_L} {st' : List hs_V} {μ' : hs_M} (hd : decode cc pc = .ok (.laload, n)) (hok : hs_okr own pc (.laload, n, ops, mk) = true) (ex : hs_nx call (.laload, n, ops, mk) pc L st μ = some (.inl (pc', L', st', μ'))) (hk : hs_WS g p l e R s m args below meth c cells slots nL Q pc' L' st' μ') : hs_WS g p l e R s m args below meth c cells slots nL Q pc L st μ := by
  obtain ⟨hexec, hb, -, hown, hts, hSf, -⟩ := C
  have hn : n = 1 := by simpa [hs_okr] using hok
  subst hn
  unfold hs_nx hs_step at ex
  dsimp only at ex
  split at ex
  · rename_i i κ j st0
    unfold hs_if at ex
    cases hκ : Nat.beq (hs_akind κ) 1 with
    | false => rw [hκ] at ex; cases ex
    | true =>
      rw [hκ] at ex
      dsimp only at ex
      have hκ := Nat.eq_of_beq_eq_true hκ
      by_cases hi : hs_in i (hs_len μ κ j) = true
      rotate_left
      · rw [if_neg hi] at ex; cases ex
      rw [if_pos hi] at ex
      cases ex
      intro ls H locs hr
      rcases hs_ok_kind (hr.2.2.2.1 _ (List.mem_cons_of_mem _ List.mem_cons_self)) hκ (by omega) with ⟨h7, hj⟩ | h7
      · obtain ⟨q, hq, hw⟩ := hs_ws_get g μ h7 hj
        rw [hs_cell_1 hκ] at hw
        exact va_lald hexec hb hSf.1 hr.2.2.2.2.1.1 q 1 hw rfl (hs_in_vp hi) hd (hk ls H locs (hr.tail (fun w hw => (List.mem_cons.mp hw).elim (fun q => by rw [q]; exact Or.inr (hs_okv_l _)) (fun q => Or.inl ((fun q => List.mem_cons_of_mem _ (List.mem_cons_of_mem _ (q))) q)))))
      · obtain ⟨h7, h8⟩ := h7
        subst h7; subst h8
        cases hκ
  · cases ex
theorem hs_s_iastore {g : hs_G} {p : Program} {l : Launch} {e : Env} {R : Room} {s : State} {m : MethodId} {args : Array Value} {below : List Frame} {meth : Method} {c : Code} {cells slots own : Nat} {cc : ByteArray} {nL : Nat} {call : hs_C} {Q : State → Prop} (C : hs_Ctx g p l R s m args c cells slots own cc nL call)  {pc n : Nat} {ops : List Nat} {mk : List Bool} {L : hs_L} {st : List hs_V} {μ : hs_M} {pc' : Nat} {L' : hs_L} {st' : List hs_V} {μ' : hs_M} (hd : decode cc pc = .ok (.iastore, n)) (hok : hs_okr own pc (.iastore, n, ops, mk) = true) (ex : hs_nx call (.iastore, n, ops, mk) pc L st μ = some (.inl (pc', L', st', μ'))) (hk : hs_WS g p l e R s m args below meth c cells slots nL Q pc' L' st' μ') : hs_WS g p l e R s m args below meth c cells slots nL Q pc L st μ := by
  obtain ⟨hexec, hb, -, hown, hts, hSf, -⟩ := C
  have hn : n = 1 := by simpa [hs_okr] using hok
  subst hn
  unfold hs_nx hs_step at ex
  dsimp only at ex
  split at ex
  · rename_i v i κ j st0
    unfold hs_if at ex
    cases hκ : (Nat.beq (hs_akind κ) 0 && hs_wr κ) with
    | false => rw [hκ] at ex; cases ex
    | true =>
      rw [hκ] at ex
      dsimp only at ex
      simp only [Bool.and_eq_true] at hκ
      have hwr := hκ.2
      have hκ := Nat.eq_of_beq_eq_true hκ.1
      by_cases hi : hs_in i (hs_len μ κ j) = true
      rotate_left
      · rw [if_neg hi] at ex; cases ex
      rw [if_pos hi] at ex
      cases ex
      intro ls H locs hr
      rcases hs_ok_kind (hr.2.2.2.1 _ (List.mem_cons_of_mem _ (List.mem_cons_of_mem _ List.mem_cons_self))) hκ (by omega) with ⟨h7, hj⟩ | ⟨h7, h8⟩
      · obtain ⟨q, hq, hw⟩ := hs_ws_get g μ h7 hj
        rw [hs_cell_0 hκ] at hw
        refine va_iast hexec hb hSf.1 hr.2.2.2.2.1.1 hr.2.2.2.2.1.2.1 hr.2.2.2.2.2 q 0 hw rfl (hs_in_vp hi) hd (fun H1 locs1 hP hD hS => hk ls H1 locs1 ?_)
        refine ⟨hr.1, hr.2.1, hr.2.2.1, fun w hw => hr.2.2.2.1 w (List.mem_cons_of_mem _ (List.mem_cons_of_mem _ (List.mem_cons_of_mem _ hw))), hs_Wd_set hr.2.2.2.2.1 h7 hq ?_ (fun κ' j' h => ⟨hs_wI_ne h, rfl⟩) hP hD, hS⟩
        rw [hs_cell_0 hκ, hs_wI_eq, hs_len_free (μ := hs_wI μ κ j i.toNatClampNeg v) (μ' := μ) h7]
      · subst h7; subst h8
        cases hwr
  · cases ex
theorem hs_s_bastore {g : hs_G} {p : Program} {l : Launch} {e : Env} {R : Room} {s : State} {m : MethodId} {args : Array Value} {below : List Frame} {meth : Method} {c : Code} {cells slots own : Nat} {cc : ByteArray} {nL : Nat} {call : hs_C} {Q : State → Prop} (C : hs_Ctx g p l R s m args c cells slots own cc nL call)  {pc n : Nat} {ops : List Nat} {mk : List Bool} {L : hs_L} {st : List hs_V} {μ : hs_M} {pc' : Nat} {L' : hs_L} {st' : List hs_V} {μ' : hs_M} (hd : decode cc pc = .ok (.bastore, n)) (hok : hs_okr own pc (.bastore, n, ops, mk) = true) (ex : hs_nx call (.bastore, n, ops, mk) pc L st μ = some (.inl (pc', L', st', μ'))) (hk : hs_WS g p l e R s m args below meth c cells slots nL Q pc' L' st' μ') : hs_WS g p l e R s m args below meth c cells slots nL Q pc L st μ := by
  obtain ⟨hexec, hb, -, hown, hts, hSf, -⟩ := C
  have hn : n = 1 := by simpa [hs_okr] using hok
  subst hn
  unfold hs_nx hs_step at ex
  dsimp only at ex
  split at ex
  · rename_i v i κ j st0
    unfold hs_if at ex
    cases hκ : (Nat.beq (hs_akind κ) 2) with
    | false => rw [hκ] at ex; cases ex
    | true =>
      rw [hκ] at ex
      dsimp only at ex
      have hκ := Nat.eq_of_beq_eq_true hκ
      by_cases hi : hs_in i (hs_len μ κ j) = true
      rotate_left
      · rw [if_neg hi] at ex; cases ex
      rw [if_pos hi] at ex
      cases ex
      intro ls H locs hr
      rcases hs_ok_kind (hr.2.2.2.1 _ (List.mem_cons_of_mem _ (List.mem_cons_of_mem _ List.mem_cons_self))) hκ (by omega) with ⟨h7, hj⟩ | ⟨h7, h8⟩
      · obtain ⟨q, hq, hw⟩ := hs_ws_get g μ h7 hj
        rw [hs_cell_2 hκ] at hw
        refine va_zast hexec hb hSf.1 hr.2.2.2.2.1.1 hr.2.2.2.2.1.2.1 hr.2.2.2.2.2 q 2 hw rfl (hs_in_vp hi) hd (fun H1 locs1 hP hD hS => hk ls H1 locs1 ?_)
        refine ⟨hr.1, hr.2.1, hr.2.2.1, fun w hw => hr.2.2.2.1 w (List.mem_cons_of_mem _ (List.mem_cons_of_mem _ (List.mem_cons_of_mem _ hw))), hs_Wd_set hr.2.2.2.2.1 h7 hq ?_ (fun κ' j' h => ⟨hs_wI_ne h, rfl⟩) hP hD, hS⟩
        rw [hs_cell_2 hκ, hs_wI_eq, hs_len_free (μ := hs_wI μ κ j i.toNatClampNeg (v &&& 1)) (μ' := μ) h7]; rfl
      · subst h7; subst h8
        cases hκ
  · cases ex
theorem hs_s_lastore {g : hs_G} {p : Program} {l : Launch} {e : Env} {R : Room} {s : State} {m : MethodId} {args : Array Value} {below : List Frame} {meth : Method} {c : Code} {cells slots own : Nat} {cc : ByteArray} {nL : Nat} {call : hs_C} {Q : State → Prop} (C : hs_Ctx g p l R s m args c cells slots own cc nL call)  {pc n : Nat} {ops : List Nat} {mk : List Bool} {L : hs_L} {st : List hs_V} {μ : hs_M} {pc' : Nat} {L' : hs_L} {st' : List hs_V} {μ' : hs_M} (hd : decode cc pc = .ok (.lastore, n)) (hok : hs_okr own pc (.lastore, n, ops, mk) = true) (ex : hs_nx call (.lastore, n, ops, mk) pc L st μ = some (.inl (pc', L', st', μ'))) (hk : hs_WS g p l e R s m args below meth c cells slots nL Q pc' L' st' μ') : hs_WS g p l e R s m args below meth c cells slots nL Q pc L st μ := by
  obtain ⟨hexec, hb, -, hown, hts, hSf, -⟩ := C
  have hn : n = 1 := by simpa [hs_okr] using hok
  subst hn
  unfold hs_nx hs_step at ex
  dsimp only at ex
  split at ex
  · rename_i v i κ j st0
    unfold hs_if at ex
    cases hκ : (Nat.beq (hs_akind κ) 1) with
    | false => rw [hκ] at ex; cases ex
    | true =>
      rw [hκ] at ex
      dsimp only at ex
      have hκ := Nat.eq_of_beq_eq_true hκ
      by_cases hi : hs_in i (hs_len μ κ j) = true
      rotate_left
      · rw [if_neg hi] at ex; cases ex
      rw [if_pos hi] at ex
      cases ex
      intro ls H locs hr
      rcases hs_ok_kind (hr.2.2.2.1 _ (List.mem_cons_of_mem _ (List.mem_cons_of_mem _ List.mem_cons_self))) hκ (by omega) with ⟨h7, hj⟩ | ⟨h7, h8⟩
      · obtain ⟨q, hq, hw⟩ := hs_ws_get g μ h7 hj
        rw [hs_cell_1 hκ] at hw
        refine va_last hexec hb hSf.1 hr.2.2.2.2.1.1 hr.2.2.2.2.1.2.1 hr.2.2.2.2.2 q 1 hw rfl (hs_in_vp hi) hd (fun H1 locs1 hP hD hS => hk ls H1 locs1 ?_)
        refine ⟨hr.1, hr.2.1, hr.2.2.1, fun w hw => hr.2.2.2.1 w (List.mem_cons_of_mem _ (List.mem_cons_of_mem _ (List.mem_cons_of_mem _ hw))), hs_Wd_set hr.2.2.2.2.1 h7 hq ?_ (fun κ' j' h => ⟨rfl, hs_wL_ne h⟩) hP hD, hS⟩
        rw [hs_cell_1 hκ, hs_wL_eq, hs_len_free (μ := hs_wL μ κ j i.toNatClampNeg v) (μ' := μ) h7]
      · subst h7; subst h8
        cases hκ
  · cases ex
theorem hs_kd3 : ∀ κ, κ < 70 → hs_akind κ = 3 → κ = 30 ∨ κ = 31 ∨ κ = 35 := by decide +kernel
theorem hs_kd0123 : ∀ κ, κ < 70 → 13 ≤ κ → hs_akind κ = 0 ∨ hs_akind κ = 1 ∨ hs_akind κ = 2 ∨ hs_akind κ = 3 := by decide +kernel
theorem hs_s_aaload {g : hs_G} {p : Program} {l : Launch} {e : Env} {R : Room} {s : State} {m : MethodId} {args : Array Value} {below : List Frame} {meth : Method} {c : Code} {cells slots own : Nat} {cc : ByteArray} {nL : Nat} {call : hs_C} {Q : State → Prop} (C : hs_Ctx g p l R s m args c cells slots own cc nL call)  {pc n : Nat} {ops : List Nat} {mk : List Bool} {L : hs_L} {st : List hs_V} {μ : hs_M} {pc' : Nat} {L' : hs_L} {st' : List hs_V} {μ' : hs_M} (hd : decode cc pc = .ok (.aaload, n)) (hok : hs_okr own pc (.aaload, n, ops, mk) = true) (ex : hs_nx call (.aaload, n, ops, mk) pc L st μ = some (.inl (pc', L', st', μ'))) (hk : hs_WS g p l e R s m args below meth c cells slots nL Q pc' L' st' μ') : hs_WS g p l e R s m args below meth c cells slots nL Q pc L st μ := by
  obtain ⟨hexec, hb, -, hown, hts, hSf, -⟩ := C
  have hn : n = 1 := by simpa [hs_okr] using hok
  subst hn
  unfold hs_nx hs_step at ex
  dsimp only at ex
  split at ex
  · rename_i i κ j st0
    unfold hs_if at ex
    cases hκ : Nat.beq (hs_akind κ) 3 with
    | false => rw [hκ] at ex; cases ex
    | true =>
      rw [hκ] at ex
      dsimp only at ex
      have hκ := Nat.eq_of_beq_eq_true hκ
      by_cases hi : hs_in i (hs_len μ κ j) = true
      rotate_left
      · rw [if_neg hi] at ex; cases ex
      rw [if_pos hi] at ex
      cases ex
      intro ls H locs hr
      rcases hs_ok_kind (hr.2.2.2.1 _ (List.mem_cons_of_mem _ List.mem_cons_self)) hκ (by omega) with ⟨h7, hj⟩ | ⟨h7, h8⟩
      · obtain ⟨q, hq, hw⟩ := hs_ws_get g μ h7 hj
        rw [hs_cell_3 hκ] at hw
        have h37 : hs_base κ + i.toNatClampNeg < hs_num 6 := by
          have hl := hs_in_lt hi
          show _ < 37
          rcases hs_kd3 κ h7 hκ with e | e | e <;> subst e
          · have : hs_len μ 30 j = 20 := rfl
            have : hs_base 30 = 1 := rfl
            omega
          · have : hs_len μ 31 j = 3 := rfl
            have : hs_base 31 = 21 := rfl
            omega
          · have : hs_len μ 35 j = 11 := rfl
            have : hs_base 35 = 24 := rfl
            omega
        exact va_aldq hexec hb hSf.1 hr.2.2.2.2.1.1 q 3 hw rfl (hs_in_vp hi) hd (hk ls H locs (hr.tail (fun w hw => (List.mem_cons.mp hw).elim (fun q => by rw [q]; exact Or.inr (Or.inl ⟨show 6 < 70 by decide, h37⟩)) (fun q => Or.inl (List.mem_cons_of_mem _ (List.mem_cons_of_mem _ q))))))
      · subst h7; subst h8
        cases hκ
  · cases ex
theorem hs_s_arraylength {g : hs_G} {p : Program} {l : Launch} {e : Env} {R : Room} {s : State} {m : MethodId} {args : Array Value} {below : List Frame} {meth : Method} {c : Code} {cells slots own : Nat} {cc : ByteArray} {nL : Nat} {call : hs_C} {Q : State → Prop} (C : hs_Ctx g p l R s m args c cells slots own cc nL call)  {pc n : Nat} {ops : List Nat} {mk : List Bool} {L : hs_L} {st : List hs_V} {μ : hs_M} {pc' : Nat} {L' : hs_L} {st' : List hs_V} {μ' : hs_M} (hd : decode cc pc = .ok (.arraylength, n)) (hok : hs_okr own pc (.arraylength, n, ops, mk) = true) (ex : hs_nx call (.arraylength, n, ops, mk) pc L st μ = some (.inl (pc', L', st', μ'))) (hk : hs_WS g p l e R s m args below meth c cells slots nL Q pc' L' st' μ') : hs_WS g p l e R s m args below meth c cells slots nL Q pc L st μ := by
  obtain ⟨hexec, hb, -, hown, hts, hSf, -⟩ := C
  have hn : n = 1 := by simpa [hs_okr] using hok
  subst hn
  unfold hs_nx hs_step at ex
  dsimp only at ex
  split at ex
  · rename_i κ j st0
    unfold hs_if at ex
    cases hκ : (Nat.ble 13 κ && Nat.blt κ 90) with
    | false => rw [hκ] at ex; cases ex
    | true =>
      rw [hκ] at ex
      dsimp only at ex
      simp only [Bool.and_eq_true] at hκ
      have h13 := Nat.le_of_ble_eq_true hκ.1
      have h90 : κ < 90 := hs_blt hκ.2
      cases ex
      intro ls H locs hr
      rcases (show hs_ok (.inr (.inr (κ, j))) from hr.2.2.2.1 _ List.mem_cons_self) with ⟨h7, hj⟩ | ⟨h7, -⟩ | h7
      · obtain ⟨q, hq, hw⟩ := hs_ws_get g μ h7 hj
        have h3 := hk ls H locs (hr.tail (fun w hw => (List.mem_cons.mp hw).elim (fun q => by rw [q]; exact Or.inr (hs_okv_i _)) (fun q => Or.inl ((fun q => List.mem_cons_of_mem _ (q)) q))))
        rcases hs_kd0123 κ h7 h13 with e | e | e | e
        · rw [hs_cell_0 e] at hw
          exact va_alen hexec hb hSf.1 hr.2.2.2.2.1.1 q 0 hw (ty := .int) rfl rfl hd h3
        · rw [hs_cell_1 e] at hw
          exact va_alen hexec hb hSf.1 hr.2.2.2.2.1.1 q 1 hw (ty := .long) rfl rfl hd h3
        · rw [hs_cell_2 e] at hw
          exact va_alen hexec hb hSf.1 hr.2.2.2.2.1.1 q 2 hw (ty := .boolean) rfl rfl hd h3
        · rw [hs_cell_3 e] at hw
          exact va_alen hexec hb hSf.1 hr.2.2.2.2.1.1 q 3 hw (ty := .object "HeavierServes$State") rfl rfl hd h3
      · dsimp only at h7; omega
      · cases h7
        obtain ⟨hX, hbl, hbA⟩ := hSf.2.2.2.2
        have hl : hs_len μ 70 0 = hs_gN g := hr.2.2.2.2.1.2.2.2
        have := hk ls H locs (hr.tail (fun w hw => (List.mem_cons.mp hw).elim (fun q => by rw [q]; exact Or.inr (hs_okv_i _)) (fun q => Or.inl ((fun q => List.mem_cons_of_mem _ (q)) q))))
        rw [hl] at this
        exact va_slen hexec hb hX hbl hbA hr.2.2.2.2.2 hd this
  · cases ex
theorem hs_tsw_spec {ρ : Type} {x : Int32} {pc : Nat} {dflt : Int} {k : Nat → Option ρ} {r : ρ} : ∀ (l : List Int) (v : Int), hs_tsw x pc dflt k v l = some r → (∃ (i : Nat) (off : Int), l[i]? = some off ∧ x = hs_ic (v + i) ∧ k (hs_tgt pc off) = some r) ∨ ((∀ i : Nat, i < l.length → x ≠ hs_ic (v + i)) ∧ k (hs_tgt pc dflt) = some r)
  | [], v, h => Or.inr ⟨fun i hi => absurd hi (Nat.not_lt_zero _), h⟩
  | a :: l, v, h => by
    unfold hs_tsw at h
    by_cases hx : x = hs_ic v
    · rw [if_pos hx] at h
      exact Or.inl ⟨0, a, rfl, by simpa using hx, h⟩
    · rw [if_neg hx] at h
      rcases hs_tsw_spec l (v + 1) h with ⟨i, off, h1, h2, h3⟩ | ⟨h1, h2⟩
      · exact Or.inl ⟨i + 1, off, h1, by rw [h2]; congr 1; omega, h3⟩
      · refine Or.inr ⟨fun i hi => ?_, h2⟩
        cases i with
        | zero => simpa using hx
        | succ i =>
          have := h1 i (by simpa using hi)
          rw [show v + ((i + 1 : Nat) : Int) = v + 1 + (i : Int) by omega]
          exact this
theorem hs_vok_at : ∀ (l : List Int) (v : Int), hs_vok v l = true → ∀ i : Nat, i < l.length → Int32.ofInt (v + i) = hs_ic (v + i)
  | [], _, _, i, hi => absurd hi (Nat.not_lt_zero _)
  | a :: l, v, h, i, hi => by
    simp only [hs_vok, Bool.and_eq_true, decide_eq_true_eq] at h
    cases i with
    | zero => simpa using h.1
    | succ i =>
      have := hs_vok_at l (v + 1) h.2 i (by simpa using hi)
      rw [show v + ((i + 1 : Nat) : Int) = v + 1 + (i : Int) by omega]
      exact this
theorem hs_lsw_spec {ρ : Type} {x : Int32} {pc : Nat} {dflt : Int} {k : Nat → Option ρ} {r : ρ} : ∀ (l : List (Int × Int)), (∀ q ∈ l, Int32.ofInt q.1 = hs_ic q.1 ∧ -1000 ≤ q.1 ∧ q.1 ≤ 1000) → hs_lsw x pc dflt k l = some r → k (hs_tgt pc (Op.lookupswitch.offset l dflt x.toInt)) = some r
  | [], _, h => h
  | q :: l, hq, h => by
    unfold hs_lsw at h
    obtain ⟨h1, h2, h3⟩ := hq q List.mem_cons_self
    have hx : x = hs_ic q.1 ↔ q.1 = x.toInt := by
      rw [← h1]
      constructor
      · intro e
        rw [e, Int32.toInt_ofInt_of_le (by omega) (by omega)]
      · intro e
        rw [e, Int32.ofInt_toInt]
    obtain ⟨a, b⟩ := q
    rw [Op.lookupswitch.offset_cons]
    by_cases hc : x = hs_ic a
    · rw [if_pos hc] at h
      rw [if_pos (hx.mp hc)]
      exact h
    · rw [if_neg hc] at h
      rw [if_neg (fun z => hc (hx.mpr z))]
      exact hs_lsw_spec l (fun q hm => hq q (List.mem_cons_of_mem _ hm)) h
theorem hs_s_tableswitch {g : hs_G} {p : Program} {l : Launch} {e : Env} {R : Room} {s : State} {m : MethodId} {args : Array Value} {below : List Frame} {meth : Method} {c : Code} {cells slots own : Nat} {cc : ByteArray} {nL : Nat} {call : hs_C} {Q : State → Prop} (C : hs_Ctx g p l R s m args c cells slots own cc nL call) {dflt lo hi : Int} {offs : Array Int} {pc n : Nat} {ops : List Nat} {mk : List Bool} {L : hs_L} {st : List hs_V} {μ : hs_M} {pc' : Nat} {L' : hs_L} {st' : List hs_V} {μ' : hs_M} (hd : decode cc pc = .ok (.tableswitch dflt lo hi offs, n)) (hok : hs_okr own pc (.tableswitch dflt lo hi offs, n, ops, mk) = true) (ex : hs_nx call (.tableswitch dflt lo hi offs, n, ops, mk) pc L st μ = some (.inl (pc', L', st', μ'))) (hk : hs_WS g p l e R s m args below meth c cells slots nL Q pc' L' st' μ') : hs_WS g p l e R s m args below meth c cells slots nL Q pc L st μ := by
  obtain ⟨hexec, hb, -, hown, hts, hSf, -⟩ := C
  simp only [hs_okr, Bool.and_eq_true, decide_eq_true_eq] at hok
  obtain ⟨hdf, hoffs, hv, h1, h2, h3⟩ := hok
  unfold hs_nx hs_step at ex
  dsimp only at ex
  split at ex
  · rename_i x st0
    rcases hs_tsw_spec offs.toList lo ex with ⟨i, off, g1, g2, g3⟩ | ⟨g1, g2⟩
    · cases g3
      intro ls H locs hr
      have hil : i < offs.toList.length := (List.getElem?_eq_some_iff.mp g1).1
      have hxi : x.toInt = lo + i := by
        rw [g2, ← hs_vok_at _ _ hv i hil, Int32.toInt_ofInt_of_le (by omega) (by omega)]
      refine lv_tableIn hexec hb hd (off := off) (tgt := hs_tgt pc off) (by omega) (by omega) ?_ ?_ (hk ls H locs (hr.tail (fun w hw => Or.inl (List.mem_cons_of_mem _ hw))))
      · rw [hxi, show (lo + (i : Int) - lo).toNat = i by omega, ← Array.getElem?_toList]
        exact g1
      · have := List.all_eq_true.mp hoffs off (List.mem_of_getElem? g1)
        simpa [hs_tok] using this
    · cases g2
      intro ls H locs hr
      refine lv_tableOut hexec hb hd (tgt := hs_tgt pc dflt) ?_ (by simpa [hs_tok] using hdf) (hk ls H locs (hr.tail (fun w hw => Or.inl (List.mem_cons_of_mem _ hw))))
      rcases Int.lt_or_le x.toInt lo with q | q
      · exact Or.inl q
      · rcases Int.lt_or_le hi x.toInt with q2 | q2
        · exact Or.inr q2
        · refine absurd ?_ (g1 (x.toInt - lo).toNat (by omega))
          rw [← hs_vok_at _ _ hv (x.toInt - lo).toNat (by omega), show lo + ((x.toInt - lo).toNat : Int) = x.toInt by omega, Int32.ofInt_toInt]
  · cases ex
theorem hs_s_lookupswitch {g : hs_G} {p : Program} {l : Launch} {e : Env} {R : Room} {s : State} {m : MethodId} {args : Array Value} {below : List Frame} {meth : Method} {c : Code} {cells slots own : Nat} {cc : ByteArray} {nL : Nat} {call : hs_C} {Q : State → Prop} (C : hs_Ctx g p l R s m args c cells slots own cc nL call) {dflt : Int} {ps : Array (Int × Int)} {pc n : Nat} {ops : List Nat} {mk : List Bool} {L : hs_L} {st : List hs_V} {μ : hs_M} {pc' : Nat} {L' : hs_L} {st' : List hs_V} {μ' : hs_M} (hd : decode cc pc = .ok (.lookupswitch dflt ps, n)) (hok : hs_okr own pc (.lookupswitch dflt ps, n, ops, mk) = true) (ex : hs_nx call (.lookupswitch dflt ps, n, ops, mk) pc L st μ = some (.inl (pc', L', st', μ'))) (hk : hs_WS g p l e R s m args below meth c cells slots nL Q pc' L' st' μ') : hs_WS g p l e R s m args below meth c cells slots nL Q pc L st μ := by
  obtain ⟨hexec, hb, -, hown, hts, hSf, -⟩ := C
  simp only [hs_okr, Bool.and_eq_true] at hok
  obtain ⟨hdf, hps, hsorted⟩ := hok
  unfold hs_nx hs_step at ex
  dsimp only at ex
  split at ex
  · rename_i x st0
    have hq : ∀ q ∈ ps.toList, hs_tok pc q.2 = true ∧ Int32.ofInt q.1 = hs_ic q.1 ∧ -1000 ≤ q.1 ∧ q.1 ≤ 1000 := by
      intro q hm
      have := List.all_eq_true.mp hps q hm
      simp only [Bool.and_eq_true, decide_eq_true_eq] at this
      exact this
    have h1 := hs_lsw_spec ps.toList (fun q hm => (hq q hm).2) ex
    cases h1
    intro ls H locs hr
    refine lv_lookup hexec hb hd hsorted rfl (tgt := hs_tgt pc (Op.lookupswitch.offset ps.toList dflt x.toInt)) ?_ (hk ls H locs (hr.tail (fun w hw => Or.inl (List.mem_cons_of_mem _ hw))))
    have hall : ∀ (l : List (Int × Int)), (∀ q ∈ l, hs_tok pc q.2 = true) → hs_tok pc (Op.lookupswitch.offset l dflt x.toInt) = true := by
      intro l
      induction l with
      | nil => intro _; exact hdf
      | cons q l ih =>
        intro hl
        obtain ⟨a, b⟩ := q
        rw [Op.lookupswitch.offset_cons]
        by_cases hc : a = x.toInt
        · rw [if_pos hc]; exact hl _ List.mem_cons_self
        · rw [if_neg hc]; exact ih (fun q hm => hl q (List.mem_cons_of_mem _ hm))
    have := hall ps.toList (fun q hm => (hq q hm).1)
    simpa [hs_tok] using this
  · cases ex
