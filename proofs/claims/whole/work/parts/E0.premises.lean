/-! ===== the law's start: what the statement gives ===== -/
theorem hl_mem {i : Nat} {w : Cond} (h : decide (lw_tbl[i]? = some w) = true) : w ∈ lw_tbl := List.mem_of_getElem? (of_decide_eq_true h)
theorem hl_mem2 (i : Nat) {w : Cond} (h : lw_tbl[i]? = some w) : w ∈ lw_tbl := List.mem_of_getElem? h
theorem hl_K {s : State} {args : Array Value} (hts : ∀ w ∈ lw_tbl, w.before args s = true) : ∃ (D : va_G) (cA : Nat → ClassId), va_K D hs_clas [(cA 0, .int), (cA 1, .long), (cA 2, .boolean), (cA 3, .object "HeavierServes$State")] s ∧ va_AO "HeavierServes$State" s := by
  have hts' : ∀ w ∈ hs_GW, w.before args s = true := fun w hw => hts w (hs_in_tbl hw)
  have h : ∀ κ : Nat, ∃ q : ClassId × (Nat → Nat), κ < 13 → u_Kn s (hs_cR κ) (hs_cT κ) (hs_cN κ) q.1 q.2 := by
    intro κ
    by_cases h13 : κ < 13
    · obtain ⟨cC, iS, hk⟩ := u_known hts' (hs_lays h13) (hts' _ (ha_ckm_at h13).2.2.2.1)
      exact ⟨(cC, iS), fun _ => hk⟩
    · exact ⟨(0, fun _ => 0), fun z => absurd z h13⟩
  have hAO : (Cond.arrayOver (.object "HeavierServes$State")).before args s = true := hts _ (hl_mem2 336 (by decide +kernel))
  obtain ⟨cI, kI, mI, i1, i2, i3⟩ := Cond.arrayClass_spec (hts' _ ha_w_int)
  obtain ⟨cL, kL, mL, l1, l2, l3⟩ := Cond.arrayClass_spec (hts' _ ha_w_long)
  obtain ⟨cZ, kZ, mZ, z1, z2, z3⟩ := Cond.arrayClass_spec (hts' _ ha_w_bool)
  obtain ⟨mS, cS, kS, s1, s2, s3, s4, s5⟩ := Cond.arrayOver_spec hAO
  refine ⟨(fun κ => (h κ).choose.1, fun κ => (h κ).choose.2), fun i => if i = 0 then cI else if i = 1 then cL else if i = 2 then cZ else cS, ⟨fun κ q hq => ?_, fun k q hk => ?_⟩, va_AO.of hAO⟩
  · have h13 : κ < 13 := (List.getElem?_eq_some_iff.mp hq).1
    have e := Option.some.inj (hq.symm.trans (hs_clas_at h13))
    rw [e]
    exact (h κ).choose_spec h13
  · have h4 : k < 4 := (List.getElem?_eq_some_iff.mp hk).1
    rcases (show k = 0 ∨ k = 1 ∨ k = 2 ∨ k = 3 by omega) with rfl | rfl | rfl | rfl
    · cases hk
      exact ⟨fun n z => ⟨fun k h => (by cases h), kI, i2, mI, i3⟩, i1⟩
    · cases hk
      exact ⟨fun n z => ⟨fun k h => (by cases h), kL, l2, mL, l3⟩, l1⟩
    · cases hk
      exact ⟨fun n z => ⟨fun k h => (by cases h), kZ, z2, mZ, z3⟩, z1⟩
    · cases hk
      exact ⟨fun n z => ⟨fun k h => (by cases h), kS, s3, mS, s4⟩, kS, mS, s3, s4, s1, s5⟩
def hl_tm (i : Nat) : Term := .string "HeavierServesModel" ((hs_nth [172, 188, 223, 228, 230] i).getD 0)
abbrev hl_flat : List Cond := flatC (Jvm.Cond.and given_1 narrow_1)
theorem hl_f1 : ∀ i, i < 5 → Cond.exactly (hl_tm i) "java/lang/String" ∈ hl_flat := by decide +kernel
theorem hl_f2 : ∀ i, i < 5 → Cond.eq (.field (hl_tm i) "java/lang/String" "coder" "B") (.int 0) ∈ hl_flat := by decide +kernel
theorem hl_f3 : ∀ i, i < 5 → Cond.arrayOf (.field (hl_tm i) "java/lang/String" "value" "[B") .byte ∈ hl_flat := by decide +kernel
theorem hl_f4 : ∀ i, i < 5 → Cond.eq (.length (.field (hl_tm i) "java/lang/String" "value" "[B")) (.int (Int32.ofNat ((hs_texts.map List.length).getD i 0))) ∈ hl_flat := by decide +kernel
theorem hl_f5 : ∀ i, i < 5 → ∀ j, j < (hs_texts.map List.length).getD i 0 → Cond.eq (.elem (.field (hl_tm i) "java/lang/String" "value" "[B") (.int (Int32.ofNat j))) (.int (((hs_texts.map (fun l => l.map (fun n => Int32.ofNat n))).getD i []).getD j 0)) ∈ hl_flat := by decide +kernel
theorem hl_f6 : ∀ i, i < 5 → ∀ j, j < 5 → i ≠ j → Cond.not (Cond.eq (hl_tm i) (hl_tm j)) ∈ hl_flat ∨ Cond.not (Cond.eq (hl_tm j) (hl_tm i)) ∈ hl_flat := by decide +kernel
theorem hl_Tx {s : State} {args : Array Value} {A : Nat → Prop} (hts : ∀ w ∈ lw_tbl, w.before args s = true) (hgv : (Jvm.Cond.and given_1 narrow_1).before args s = true) (hA : ∀ a : Nat, a < s.heap.size → ¬ A a) : ∃ adK adV : Nat → Nat, (∀ q ∈ hs_stx, vk_R "HeavierServesModel" q.1 (hs_stt q.2) (adK q.2) s) ∧ vk_S 5 (hs_texts.map List.length) (hs_texts.map (fun l => l.map (fun n => Int32.ofNat n))) adK adV A s s.heap ∧ va_Z "java/lang/String" "COMPACT_STRINGS" "Z" (.int 1) A s s.heap ∧ va_Zq "jdk/internal/util/Preconditions" "SIOOBE_FORMATTER" "Ljava/util/function/BiFunction;" A s s.heap ∧ vx_Zq Bundle.tN "UNASSIGNED_STACK" Bundle.steD A s s.heap ∧ vx_Zq Bundle.tN "SUPPRESSED_SENTINEL" Bundle.listD A s s.heap := by
  have hf := flat_of_before _ hgv
  obtain ⟨adK, adV, k1, k2⟩ := vk_Sof (args := args) (s := s) (N := 5) (tm := hl_tm) (len := hs_texts.map List.length) (byt := hs_texts.map (fun l => l.map (fun n => Int32.ofNat n))) (A := A) (by decide +kernel) (fun i hi => hf _ (hl_f1 i hi)) (fun i hi => hf _ (hl_f2 i hi)) (fun i hi => hf _ (hl_f3 i hi)) (fun i hi => hf _ (hl_f4 i hi)) (fun i hi j hj => hf _ (hl_f5 i hi j hj)) (fun i j hi hj hne => (hl_f6 i hi j hj hne).elim (fun z => Or.inl (hf _ z)) (fun z => Or.inr (hf _ z))) hA
  have e1 : (Term.static "java/lang/String" "COMPACT_STRINGS" "Z").eval args s none [] s = some (.int 1) := by
    have hw : (Cond.eq (.static "java/lang/String" "COMPACT_STRINGS" "Z") (.int 1)).before args s = true := hf _ (by decide +kernel)
    obtain ⟨y, y1, y2⟩ := Cond.eq_one (show (Cond.eq (.static "java/lang/String" "COMPACT_STRINGS" "Z") (.int 1)).holds args s none s [] = true from hw)
    have y2 : some (Value.int 1) = some y := y2
    rw [y1, y2]
  refine ⟨adK, adV, fun q hq => ?_, k1, va_Zof (hts _ (hl_mem2 1494 (by decide +kernel))) (hts _ (hl_mem2 101 (by decide +kernel))) e1 hA, va_Zqof (hts _ (hl_mem2 1510 (by decide +kernel))) (hts _ (hl_mem2 103 (by decide +kernel))) (hf _ (by decide +kernel)) hA, vx_Zqof (hts _ (hl_mem2 1220 (by decide +kernel))) (hts _ (hl_mem2 105 (by decide +kernel))) (hf _ (by decide +kernel)) hA, vx_Zqof (hts _ (hl_mem2 1222 (by decide +kernel))) (hts _ (hl_mem2 105 (by decide +kernel))) (hf _ (by decide +kernel)) hA⟩
  simp only [hs_stx, List.mem_cons, List.not_mem_nil, or_false] at hq
  rcases hq with rfl | rfl | rfl | rfl | rfl
  · exact vk_R.of (A := args) (hts _ (hl_mem2 1537 (by decide +kernel))) (k2 0 (by omega))
  · exact vk_R.of (A := args) (hts _ (hl_mem2 1480 (by decide +kernel))) (k2 1 (by omega))
  · exact vk_R.of (A := args) (hts _ (hl_mem2 1575 (by decide +kernel))) (k2 2 (by omega))
  · exact vk_R.of (A := args) (hts _ (hl_mem2 1576 (by decide +kernel))) (k2 3 (by omega))
  · exact vk_R.of (A := args) (hts _ (hl_mem2 1577 (by decide +kernel))) (k2 4 (by omega))
