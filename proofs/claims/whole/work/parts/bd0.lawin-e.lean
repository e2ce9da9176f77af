set_option maxRecDepth 100000 in
theorem lin41 : ∀ w ∈ wsL_law0_r41, w ∈ lw_tbl := by decide +kernel
set_option maxRecDepth 100000 in
theorem lin42 : ∀ w ∈ wsL_law0_r42, w ∈ lw_tbl := by decide +kernel
set_option maxRecDepth 100000 in
theorem lin43 : ∀ w ∈ wsL_law0_r43, w ∈ lw_tbl := by decide +kernel
set_option maxRecDepth 100000 in
theorem lin44 : ∀ w ∈ wsL_law0_r44, w ∈ lw_tbl := by decide +kernel
set_option maxRecDepth 100000 in
theorem lin45 : ∀ w ∈ wsL_law0_r45, w ∈ lw_tbl := by decide +kernel
set_option maxRecDepth 100000 in
theorem inX6 : ∀ w ∈ wsX60, w ∈ lw_tbl := by decide +kernel
set_option maxRecDepth 100000 in
theorem inX7 : ∀ w ∈ wsX70, w ∈ lw_tbl := by decide +kernel
set_option maxRecDepth 100000 in
theorem inX5 : ∀ w ∈ wsX50, w ∈ lw_tbl := by decide +kernel
set_option maxRecDepth 100000 in
theorem inX1 : ∀ w ∈ wsX10, w ∈ lw_tbl := by decide +kernel
set_option maxRecDepth 100000 in
theorem inX0 : ∀ w ∈ wsX00, w ∈ lw_tbl := by decide +kernel
set_option maxRecDepth 100000 in
theorem inX3 : ∀ w ∈ wsX30, w ∈ lw_tbl := by decide +kernel
set_option maxRecDepth 100000 in
theorem inX4 : ∀ w ∈ wsX40, w ∈ lw_tbl := by decide +kernel
set_option maxRecDepth 100000 in
theorem inX2 : ∀ w ∈ wsX20, w ∈ lw_tbl := by decide +kernel
set_option maxRecDepth 100000 in
theorem wsL_law_x0 : ∀ w ∈ (vx_atS RX6 204 "java/util/NoSuchElementException" ["java/lang/RuntimeException", "java/lang/Exception"]).filter goodWord, w ∈ lw_tbl := by decide +kernel
theorem wsL_law_in0 : ∀ w ∈ wsL_law0, w ∈ lw_tbl := by
  unfold wsL_law0
  exact List.forall_mem_append.mpr ⟨List.forall_mem_append.mpr ⟨List.forall_mem_append.mpr ⟨List.forall_mem_append.mpr ⟨List.forall_mem_append.mpr ⟨List.forall_mem_append.mpr ⟨List.forall_mem_append.mpr ⟨List.forall_mem_append.mpr ⟨List.forall_mem_append.mpr ⟨List.forall_mem_append.mpr ⟨lin1, List.forall_mem_append.mpr ⟨lin2, List.forall_mem_append.mpr ⟨lin3, List.forall_mem_append.mpr ⟨lin4, List.forall_mem_append.mpr ⟨lin5, List.forall_mem_append.mpr ⟨lin6, List.forall_mem_append.mpr ⟨lin7, List.forall_mem_append.mpr ⟨lin8, List.forall_mem_append.mpr ⟨lin9, List.forall_mem_append.mpr ⟨lin10, List.forall_mem_append.mpr ⟨lin11, List.forall_mem_append.mpr ⟨lin12, List.forall_mem_append.mpr ⟨lin13, List.forall_mem_append.mpr ⟨lin14, List.forall_mem_append.mpr ⟨lin15, List.forall_mem_append.mpr ⟨lin16, List.forall_mem_append.mpr ⟨lin17, List.forall_mem_append.mpr ⟨lin18, List.forall_mem_append.mpr ⟨lin19, List.forall_mem_append.mpr ⟨lin20, List.forall_mem_append.mpr ⟨lin21, List.forall_mem_append.mpr ⟨lin22, List.forall_mem_append.mpr ⟨lin23, List.forall_mem_append.mpr ⟨lin24, List.forall_mem_append.mpr ⟨lin25, List.forall_mem_append.mpr ⟨lin26, List.forall_mem_append.mpr ⟨lin27, List.forall_mem_append.mpr ⟨lin28, List.forall_mem_append.mpr ⟨lin29, List.forall_mem_append.mpr ⟨lin30, List.forall_mem_append.mpr ⟨lin31, List.forall_mem_append.mpr ⟨lin32, List.forall_mem_append.mpr ⟨lin33, List.forall_mem_append.mpr ⟨lin34, List.forall_mem_append.mpr ⟨lin35, List.forall_mem_append.mpr ⟨lin36, List.forall_mem_append.mpr ⟨lin37, List.forall_mem_append.mpr ⟨lin38, List.forall_mem_append.mpr ⟨lin39, List.forall_mem_append.mpr ⟨lin40, List.forall_mem_append.mpr ⟨lin41, List.forall_mem_append.mpr ⟨lin42, List.forall_mem_append.mpr ⟨lin43, List.forall_mem_append.mpr ⟨lin44, lin45⟩⟩⟩⟩⟩⟩⟩⟩⟩⟩⟩⟩⟩⟩⟩⟩⟩⟩⟩⟩⟩⟩⟩⟩⟩⟩⟩⟩⟩⟩⟩⟩⟩⟩⟩⟩⟩⟩⟩⟩⟩⟩⟩⟩, inX6⟩, inX7⟩, inX5⟩, inX1⟩, inX0⟩, inX3⟩, inX4⟩, inX2⟩, fun _ h => nomatch h⟩
theorem wsL_law_in : ∀ w ∈ wsL_law, w ∈ lw_tbl := fun w h => (List.mem_append.mp h).elim (fun h => wsL_law_in0 w h) (fun h => wsL_law_x0 w h)
