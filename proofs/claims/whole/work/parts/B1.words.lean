/-! ===== words of a throw ===== -/
abbrev hl_NS : String := "java/util/NoSuchElementException"
abbrev hl_i0 (n : String) : MethodName := ⟨n, "<init>", "()V"⟩
abbrev hl_at : List Cond := vx_at0 "HeavierServes" 143 "java/util/NoSuchElementException" ["java/lang/RuntimeException", "java/lang/Exception"]
/-- the four that a call doesn't carry by itself -/
abbrev hl_nw : List Cond := [.castable hl_NS hl_NS, .declares (hl_i0 "java/lang/RuntimeException"), .declares (hl_i0 "java/lang/Exception"), .declares (hl_i0 "java/lang/Throwable")]
theorem hl_at_in : ∀ w ∈ hl_at.filter goodWord, w ∈ hs_GW := fun w h => List.mem_filter.mpr ⟨(by decide +kernel : ∀ w ∈ hl_at.filter goodWord, w ∈ lw_tbl) w h, (List.mem_filter.mp h).2⟩
theorem hl_at_rest : ∀ w ∈ hl_at.filter (fun w => !goodWord w), w ∈ hl_nw := by decide +kernel
theorem hl_at_ot : ∀ w ∈ Cond.classLink "HeavierServes" 141 hl_NS :: Cond.initialized hl_NS :: hl_at, vx_ot w = true := by decide +kernel
theorem hl_nw_in : ∀ w ∈ hl_nw, w ∈ lw_tbl := by decide +kernel
