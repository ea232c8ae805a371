/-! ===== words of a throw ===== -/
abbrev hl_NS : String := "java/util/NoSuchElementException"
abbrev hl_at : List Cond := vx_at0 "HeavierServes" 140 "java/util/NoSuchElementException" ["java/lang/RuntimeException", "java/lang/Exception"]
theorem hl_at_good : hl_at.all goodWord = true := by decide +kernel
theorem hl_at_in : ∀ w ∈ hl_at.filter goodWord, w ∈ lw_tbl := by decide +kernel
