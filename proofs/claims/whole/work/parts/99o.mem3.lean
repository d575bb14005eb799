set_option maxRecDepth 100000 in
theorem e_m15 : ∀ w ∈ ([Cond.arrayOf (.static "ShareMonitor$1" "$SwitchMap$ShareMonitor$Op" "[I") .int, Cond.eq (.length (.static "ShareMonitor$1" "$SwitchMap$ShareMonitor$Op" "[I")) (.int (Int32.ofNat 43)), Cond.arrayOf (.static "ShareMonitor$Op" "ALL" "[LShareMonitor$Op;") (.object "ShareMonitor$Op"), Cond.eq (.length (.static "ShareMonitor$Op" "ALL" "[LShareMonitor$Op;")) (.int (Int32.ofNat 43)), Cond.eq (.static "java/lang/String" "COMPACT_STRINGS" "Z") (.int 1), Cond.isRef (.static "jdk/internal/util/Preconditions" "SIOOBE_FORMATTER" "Ljava/util/function/BiFunction;"), Cond.isRef (.static Bundle.tN "UNASSIGNED_STACK" Bundle.steD), Cond.isRef (.static Bundle.tN "SUPPRESSED_SENTINEL" Bundle.listD)] : List Cond), w ∈ e_fl := by decide +kernel
set_option maxRecDepth 100000 in
theorem e_m16 : ∀ w ∈ ([Cond.laysStatic "ShareMonitor$1" "$SwitchMap$ShareMonitor$Op" "[I", Cond.laysStatic "ShareMonitor$Op" "ALL" "[LShareMonitor$Op;", Cond.laysStatic "java/lang/String" "COMPACT_STRINGS" "Z", Cond.laysStatic "jdk/internal/util/Preconditions" "SIOOBE_FORMATTER" "Ljava/util/function/BiFunction;", Cond.laysStatic Bundle.tN "UNASSIGNED_STACK" Bundle.steD, Cond.laysStatic Bundle.tN "SUPPRESSED_SENTINEL" Bundle.listD, Cond.initialized "ShareMonitor$1", Cond.initialized "ShareMonitor$Op", Cond.initialized "java/lang/String", Cond.initialized "jdk/internal/util/Preconditions", Cond.initialized Bundle.tN] : List Cond), w ∈ tables_1 := by decide +kernel
set_option maxRecDepth 100000 in
theorem e_m17 : ∀ w ∈ k_cw, w ∈ tables_1 := by decide +kernel
set_option maxRecDepth 100000 in
theorem e_m18 : ∀ q ∈ k_tx, Cond.stringRef "ShareMonitor" q.1 q.2 ∈ tables_1 := by decide +kernel
set_option maxRecDepth 100000 in
theorem e_m19 : ∀ E ∈ h_ex, Cond.castable E E ∈ tables_1 := by decide +kernel
set_option maxRecDepth 100000 in
theorem e_m20 : ∀ E ∈ h_ex, ∀ F ∈ h_ex, E ≠ F → Cond.not (.castable E F) ∈ e_fl := by decide +kernel
set_option maxRecDepth 100000 in
theorem e_m21 : ∀ q ∈ a_nest, Cond.methodLinkNest q.1 q.2.1 q.2.2 "ShareMonitor" ∈ tables_1 := by decide +kernel
set_option maxRecDepth 100000 in
theorem e_m22 : ∀ C ∈ a_ovr, Cond.arrayOver (.object C) ∈ tables_1 := by decide +kernel
