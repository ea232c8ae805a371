/-! ===== the words stand in the tables ===== -/
def hs_GW : List Cond := lw_tbl.filter goodWord
def hs_is (i : Nat) (w : Cond) : Bool := decide (lw_tbl[i]? = some w) && goodWord w
theorem hs_is_in {i : Nat} {w : Cond} (h : hs_is i w = true) : w ∈ hs_GW := by
  simp only [hs_is, Bool.and_eq_true, decide_eq_true_eq] at h
  exact List.mem_filter.mpr ⟨List.mem_of_getElem? h.1, h.2⟩
theorem hs_in_tbl {w : Cond} (h : w ∈ hs_GW) : w ∈ lw_tbl := (List.mem_filter.mp h).1
theorem hs_in_good {w : Cond} (h : w ∈ hs_GW) : goodWord w = true := (List.mem_filter.mp h).2
set_option maxRecDepth 100000 in
theorem hs_fl_ok : hs_fl.all (fun q => hs_is q.2.2.2.2 (.fieldLink (hs_own q.1) q.2.1 (hs_cT q.2.2.1 q.2.2.2.1).1 (hs_cT q.2.2.1 q.2.2.2.1).2.1 (hs_cT q.2.2.1 q.2.2.2.1).2.2.1)) = true := by decide +kernel
set_option maxRecDepth 100000 in
theorem hs_ml_ok : hs_ml.all (fun q => match q.2.2.2.1 with
  | 2 => decide (lw_tbl[q.2.2.2.2]? = some (.methodLinkNest (hs_own q.1) q.2.1 (hs_nm q.2.2.1).1 "HeavierServes"))
  | _ => hs_is q.2.2.2.2 (.methodLink (hs_own q.1) q.2.1 (hs_nm q.2.2.1).1)) = true := by decide +kernel
set_option maxRecDepth 100000 in
theorem hs_kl_ok : hs_kl.all (fun q => match q.2.2.1 with
  | 0 => hs_is q.2.2.2.2 (.constant (hs_own q.1) q.2.1 (Int32.ofNat q.2.2.2.1))
  | 1 => hs_is q.2.2.2.2 (.constantLong (hs_own q.1) q.2.1 (Int64.ofNat q.2.2.2.1))
  | _ => hs_is q.2.2.2.2 (.constantLong (hs_own q.1) q.2.1 (-(Int64.ofNat q.2.2.2.1)))) = true := by decide +kernel
theorem hs_al_ok : hs_al.all (fun q => hs_is q.2.2 (.methodLink (hs_own q.1) q.2.1 arraycopyName)) = true := by decide +kernel
def hs_ckm (y : Nat) : Bool :=
  let n := hs_nm y
  let q := hs_mw y
  hs_isC q.2.1 n.1 n.2.2.1 n.2.2.2 && (decide (n.1.cls = hs_own q.1) && ((match q.2.2.2.1 with
    | 1 => hs_is q.2.2.1 (.static n.1)
    | _ => hs_is q.2.2.1 (.instanceMethod n.1) && hs_is q.2.2.2.2.2 (.selects n.1.cls n.1 n.1)) && (hs_is q.2.2.2.2.1 (.initialized n.1.cls) && (plainFor n.1 && (decide (n.1.cls ≠ "java/lang/invoke/MethodHandle" ∧ n.1.cls ≠ "java/lang/invoke/VarHandle") && decide (n.2.2.1 = (hs_prog y).2.1 ∧ n.2.2.1 ≤ 29))))))
set_option maxRecDepth 100000 in
theorem hs_ckm_0 : (List.range 20).all (fun k => hs_ckm (0 + k) || decide (267 ≤ 0 + k)) = true := by decide +kernel
set_option maxRecDepth 100000 in
theorem hs_ckm_1 : (List.range 20).all (fun k => hs_ckm (20 + k) || decide (267 ≤ 20 + k)) = true := by decide +kernel
set_option maxRecDepth 100000 in
theorem hs_ckm_2 : (List.range 20).all (fun k => hs_ckm (40 + k) || decide (267 ≤ 40 + k)) = true := by decide +kernel
set_option maxRecDepth 100000 in
theorem hs_ckm_3 : (List.range 20).all (fun k => hs_ckm (60 + k) || decide (267 ≤ 60 + k)) = true := by decide +kernel
set_option maxRecDepth 100000 in
theorem hs_ckm_4 : (List.range 20).all (fun k => hs_ckm (80 + k) || decide (267 ≤ 80 + k)) = true := by decide +kernel
set_option maxRecDepth 100000 in
theorem hs_ckm_5 : (List.range 20).all (fun k => hs_ckm (100 + k) || decide (267 ≤ 100 + k)) = true := by decide +kernel
set_option maxRecDepth 100000 in
theorem hs_ckm_6 : (List.range 20).all (fun k => hs_ckm (120 + k) || decide (267 ≤ 120 + k)) = true := by decide +kernel
set_option maxRecDepth 100000 in
theorem hs_ckm_7 : (List.range 20).all (fun k => hs_ckm (140 + k) || decide (267 ≤ 140 + k)) = true := by decide +kernel
set_option maxRecDepth 100000 in
theorem hs_ckm_8 : (List.range 20).all (fun k => hs_ckm (160 + k) || decide (267 ≤ 160 + k)) = true := by decide +kernel
set_option maxRecDepth 100000 in
theorem hs_ckm_9 : (List.range 20).all (fun k => hs_ckm (180 + k) || decide (267 ≤ 180 + k)) = true := by decide +kernel
set_option maxRecDepth 100000 in
theorem hs_ckm_10 : (List.range 20).all (fun k => hs_ckm (200 + k) || decide (267 ≤ 200 + k)) = true := by decide +kernel
set_option maxRecDepth 100000 in
theorem hs_ckm_11 : (List.range 20).all (fun k => hs_ckm (220 + k) || decide (267 ≤ 220 + k)) = true := by decide +kernel
set_option maxRecDepth 100000 in
theorem hs_ckm_12 : (List.range 20).all (fun k => hs_ckm (240 + k) || decide (267 ≤ 240 + k)) = true := by decide +kernel
set_option maxRecDepth 100000 in
theorem hs_ckm_13 : (List.range 20).all (fun k => hs_ckm (260 + k) || decide (267 ≤ 260 + k)) = true := by decide +kernel
