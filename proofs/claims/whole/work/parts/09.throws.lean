/-! the throws of the system: class, text, constructor, by their places -/
theorem zi_x_IllegalArgumentException : Cond.initialized "java/lang/IllegalArgumentException" ∈ lwG := lwG_in (List.mem_of_getElem? (i := 50) (by decide +kernel)) rfl
theorem zi_x_IllegalStateException : Cond.initialized "java/lang/IllegalStateException" ∈ lwG := lwG_in (List.mem_of_getElem? (i := 51) (by decide +kernel)) rfl
theorem zi_x_NoSuchElementException : Cond.initialized "java/util/NoSuchElementException" ∈ lwG := lwG_in (List.mem_of_getElem? (i := 59) (by decide +kernel)) rfl
theorem zt_73_71 : zTS RX2 71 73 75 "java/lang/IllegalStateException" "30 workers are signed on" := ⟨by decide +kernel, zk_X2_71, zi_x_IllegalStateException, by decide +kernel, by
  have h : ((vx_atS RX2 75 "java/lang/IllegalStateException" zEN).filter goodWord).all (fun w => decide (w ∈ lw_tbl) && goodWord w) = true := by decide +kernel
  intro w hw
  have h1 := List.all_eq_true.mp h w hw
  simp only [Bool.and_eq_true, decide_eq_true_eq] at h1
  exact lwG_in h1.1 h1.2, by decide +kernel, by decide +kernel, by decide +kernel⟩
theorem zt_117_115 : zTS RX2 115 117 119 "java/lang/IllegalArgumentException" "guaranteed hours are 0 to 400" := ⟨by decide +kernel, zk_X2_115, zi_x_IllegalArgumentException, by decide +kernel, by
  have h : ((vx_atS RX2 119 "java/lang/IllegalArgumentException" zEN).filter goodWord).all (fun w => decide (w ∈ lw_tbl) && goodWord w) = true := by decide +kernel
  intro w hw
  have h1 := List.all_eq_true.mp h w hw
  simp only [Bool.and_eq_true, decide_eq_true_eq] at h1
  exact lwG_in h1.1 h1.2, by decide +kernel, by decide +kernel, by decide +kernel⟩
theorem zt_133_115 : zTS RX2 115 133 119 "java/lang/IllegalArgumentException" "skills are 0 to 4" := ⟨by decide +kernel, zk_X2_115, zi_x_IllegalArgumentException, by decide +kernel, by
  have h : ((vx_atS RX2 119 "java/lang/IllegalArgumentException" zEN).filter goodWord).all (fun w => decide (w ∈ lw_tbl) && goodWord w) = true := by decide +kernel
  intro w hw
  have h1 := List.all_eq_true.mp h w hw
  simp only [Bool.and_eq_true, decide_eq_true_eq] at h1
  exact lwG_in h1.1 h1.2, by decide +kernel, by decide +kernel, by decide +kernel⟩
theorem zt_135_71 : zTS RX2 71 135 75 "java/lang/IllegalStateException" "there are 16 places" := ⟨by decide +kernel, zk_X2_71, zi_x_IllegalStateException, by decide +kernel, by
  have h : ((vx_atS RX2 75 "java/lang/IllegalStateException" zEN).filter goodWord).all (fun w => decide (w ∈ lw_tbl) && goodWord w) = true := by decide +kernel
  intro w hw
  have h1 := List.all_eq_true.mp h w hw
  simp only [Bool.and_eq_true, decide_eq_true_eq] at h1
  exact lwG_in h1.1 h1.2, by decide +kernel, by decide +kernel, by decide +kernel⟩
theorem zt_149_115 : zTS RX2 115 149 119 "java/lang/IllegalArgumentException" "a shift has 1 to 12 hours" := ⟨by decide +kernel, zk_X2_115, zi_x_IllegalArgumentException, by decide +kernel, by
  have h : ((vx_atS RX2 119 "java/lang/IllegalArgumentException" zEN).filter goodWord).all (fun w => decide (w ∈ lw_tbl) && goodWord w) = true := by decide +kernel
  intro w hw
  have h1 := List.all_eq_true.mp h w hw
  simp only [Bool.and_eq_true, decide_eq_true_eq] at h1
  exact lwG_in h1.1 h1.2, by decide +kernel, by decide +kernel, by decide +kernel⟩
theorem zt_154_115 : zTS RX2 115 154 119 "java/lang/IllegalArgumentException" "the shift has no such hour" := ⟨by decide +kernel, zk_X2_115, zi_x_IllegalArgumentException, by decide +kernel, by
  have h : ((vx_atS RX2 119 "java/lang/IllegalArgumentException" zEN).filter goodWord).all (fun w => decide (w ∈ lw_tbl) && goodWord w) = true := by decide +kernel
  intro w hw
  have h1 := List.all_eq_true.mp h w hw
  simp only [Bool.and_eq_true, decide_eq_true_eq] at h1
  exact lwG_in h1.1 h1.2, by decide +kernel, by decide +kernel, by decide +kernel⟩
theorem zt_160_71 : zTS RX2 71 160 75 "java/lang/IllegalStateException" "the worker is not at work, or the hour is past" := ⟨by decide +kernel, zk_X2_71, zi_x_IllegalStateException, by decide +kernel, by
  have h : ((vx_atS RX2 75 "java/lang/IllegalStateException" zEN).filter goodWord).all (fun w => decide (w ∈ lw_tbl) && goodWord w) = true := by decide +kernel
  intro w hw
  have h1 := List.all_eq_true.mp h w hw
  simp only [Bool.and_eq_true, decide_eq_true_eq] at h1
  exact lwG_in h1.1 h1.2, by decide +kernel, by decide +kernel, by decide +kernel⟩
theorem zt_176_71 : zTS RX2 71 176 75 "java/lang/IllegalStateException" "the place is filled" := ⟨by decide +kernel, zk_X2_71, zi_x_IllegalStateException, by decide +kernel, by
  have h : ((vx_atS RX2 75 "java/lang/IllegalStateException" zEN).filter goodWord).all (fun w => decide (w ∈ lw_tbl) && goodWord w) = true := by decide +kernel
  intro w hw
  have h1 := List.all_eq_true.mp h w hw
  simp only [Bool.and_eq_true, decide_eq_true_eq] at h1
  exact lwG_in h1.1 h1.2, by decide +kernel, by decide +kernel, by decide +kernel⟩
theorem zt_217_115 : zTS RX2 115 217 119 "java/lang/IllegalArgumentException" "boards are 0 to 3" := ⟨by decide +kernel, zk_X2_115, zi_x_IllegalArgumentException, by decide +kernel, by
  have h : ((vx_atS RX2 119 "java/lang/IllegalArgumentException" zEN).filter goodWord).all (fun w => decide (w ∈ lw_tbl) && goodWord w) = true := by decide +kernel
  intro w hw
  have h1 := List.all_eq_true.mp h w hw
  simp only [Bool.and_eq_true, decide_eq_true_eq] at h1
  exact lwG_in h1.1 h1.2, by decide +kernel, by decide +kernel, by decide +kernel⟩
theorem zt_219_115 : zTS RX2 115 219 119 "java/lang/IllegalArgumentException" "a set of skills is 0 to 31" := ⟨by decide +kernel, zk_X2_115, zi_x_IllegalArgumentException, by decide +kernel, by
  have h : ((vx_atS RX2 119 "java/lang/IllegalArgumentException" zEN).filter goodWord).all (fun w => decide (w ∈ lw_tbl) && goodWord w) = true := by decide +kernel
  intro w hw
  have h1 := List.all_eq_true.mp h w hw
  simp only [Bool.and_eq_true, decide_eq_true_eq] at h1
  exact lwG_in h1.1 h1.2, by decide +kernel, by decide +kernel, by decide +kernel⟩
theorem zt_221_71 : zTS RX2 71 221 75 "java/lang/IllegalStateException" "the worker is at work" := ⟨by decide +kernel, zk_X2_71, zi_x_IllegalStateException, by decide +kernel, by
  have h : ((vx_atS RX2 75 "java/lang/IllegalStateException" zEN).filter goodWord).all (fun w => decide (w ∈ lw_tbl) && goodWord w) = true := by decide +kernel
  intro w hw
  have h1 := List.all_eq_true.mp h w hw
  simp only [Bool.and_eq_true, decide_eq_true_eq] at h1
  exact lwG_in h1.1 h1.2, by decide +kernel, by decide +kernel, by decide +kernel⟩
theorem zt_223_71 : zTS RX2 71 223 75 "java/lang/IllegalStateException" "somebody is or has been at work in this shift" := ⟨by decide +kernel, zk_X2_71, zi_x_IllegalStateException, by decide +kernel, by
  have h : ((vx_atS RX2 75 "java/lang/IllegalStateException" zEN).filter goodWord).all (fun w => decide (w ∈ lw_tbl) && goodWord w) = true := by decide +kernel
  intro w hw
  have h1 := List.all_eq_true.mp h w hw
  simp only [Bool.and_eq_true, decide_eq_true_eq] at h1
  exact lwG_in h1.1 h1.2, by decide +kernel, by decide +kernel, by decide +kernel⟩
