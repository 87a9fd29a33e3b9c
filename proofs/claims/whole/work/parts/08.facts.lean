/-! what the tables say, by places (laid by program out of the Statement and the printed names) -/
abbrev mX2_init : zMI := (yX2_init, cX2_init, 1, none)
theorem zc_X2_init : Cond.code yX2_init cX2_init 1 none ∈ lwG := lwG_in (List.mem_of_getElem? (i := 64) (by decide +kernel)) rfl
theorem zi_RX2 : Cond.initialized RX2 ∈ lwG := lwG_in (List.mem_of_getElem? (i := 41) (by decide +kernel)) rfl
theorem zmf_X2_init : zMF mX2_init 0 := ⟨zc_X2_init, zi_RX2, by decide +kernel, by decide +kernel, by decide +kernel⟩
theorem zn_X2_init : Cond.instanceMethod yX2_init ∈ lwG := lwG_in (List.mem_of_getElem? (i := 63) (by decide +kernel)) rfl
theorem zm_X2_init : zMC mX2_init 0 := ⟨zmf_X2_init, zn_X2_init, rfl, rfl⟩
abbrev mJx4a65c_init_da8c8 : zMI := (yJx4a65c_init_da8c8, cJx4a65c_init_da8c8, 1, none)
theorem zc_Jx4a65c_init_da8c8 : Cond.code yJx4a65c_init_da8c8 cJx4a65c_init_da8c8 1 none ∈ lwG := lwG_in (List.mem_of_getElem? (i := 72) (by decide +kernel)) rfl
theorem zi_RJx4a65c : Cond.initialized RJx4a65c ∈ lwG := lwG_in (List.mem_of_getElem? (i := 44) (by decide +kernel)) rfl
theorem zmf_Jx4a65c_init_da8c8 : zMF mJx4a65c_init_da8c8 0 := ⟨zc_Jx4a65c_init_da8c8, zi_RJx4a65c, by decide +kernel, by decide +kernel, by decide +kernel⟩
theorem zn_Jx4a65c_init_da8c8 : Cond.instanceMethod yJx4a65c_init_da8c8 ∈ lwG := lwG_in (List.mem_of_getElem? (i := 71) (by decide +kernel)) rfl
theorem zm_Jx4a65c_init_da8c8 : zMC mJx4a65c_init_da8c8 0 := ⟨zmf_Jx4a65c_init_da8c8, zn_Jx4a65c_init_da8c8, rfl, rfl⟩
abbrev mJxc12de_init_da8c8 : zMI := (yJxc12de_init_da8c8, cJxc12de_init_da8c8, 1, none)
theorem zc_Jxc12de_init_da8c8 : Cond.code yJxc12de_init_da8c8 cJxc12de_init_da8c8 1 none ∈ lwG := lwG_in (List.mem_of_getElem? (i := 75) (by decide +kernel)) rfl
theorem zi_RJxc12de : Cond.initialized RJxc12de ∈ lwG := lwG_in (List.mem_of_getElem? (i := 43) (by decide +kernel)) rfl
theorem zmf_Jxc12de_init_da8c8 : zMF mJxc12de_init_da8c8 0 := ⟨zc_Jxc12de_init_da8c8, zi_RJxc12de, by decide +kernel, by decide +kernel, by decide +kernel⟩
theorem zn_Jxc12de_init_da8c8 : Cond.instanceMethod yJxc12de_init_da8c8 ∈ lwG := lwG_in (List.mem_of_getElem? (i := 74) (by decide +kernel)) rfl
theorem zm_Jxc12de_init_da8c8 : zMC mJxc12de_init_da8c8 0 := ⟨zmf_Jxc12de_init_da8c8, zn_Jxc12de_init_da8c8, rfl, rfl⟩
abbrev mJxa1e45_init_da8c8 : zMI := (yJxa1e45_init_da8c8, cJxa1e45_init_da8c8, 1, none)
theorem zc_Jxa1e45_init_da8c8 : Cond.code yJxa1e45_init_da8c8 cJxa1e45_init_da8c8 1 none ∈ lwG := lwG_in (List.mem_of_getElem? (i := 78) (by decide +kernel)) rfl
theorem zi_RJxa1e45 : Cond.initialized RJxa1e45 ∈ lwG := lwG_in (List.mem_of_getElem? (i := 42) (by decide +kernel)) rfl
theorem zmf_Jxa1e45_init_da8c8 : zMF mJxa1e45_init_da8c8 0 := ⟨zc_Jxa1e45_init_da8c8, zi_RJxa1e45, by decide +kernel, by decide +kernel, by decide +kernel⟩
theorem zn_Jxa1e45_init_da8c8 : Cond.instanceMethod yJxa1e45_init_da8c8 ∈ lwG := lwG_in (List.mem_of_getElem? (i := 77) (by decide +kernel)) rfl
theorem zm_Jxa1e45_init_da8c8 : zMC mJxa1e45_init_da8c8 0 := ⟨zmf_Jxa1e45_init_da8c8, zn_Jxa1e45_init_da8c8, rfl, rfl⟩
abbrev mX0_init : zMI := (yX0_init, cX0_init, 1, none)
theorem zc_X0_init : Cond.code yX0_init cX0_init 1 none ∈ lwG := lwG_in (List.mem_of_getElem? (i := 98) (by decide +kernel)) rfl
theorem zi_RX0 : Cond.initialized RX0 ∈ lwG := lwG_in (List.mem_of_getElem? (i := 45) (by decide +kernel)) rfl
theorem zmf_X0_init : zMF mX0_init 0 := ⟨zc_X0_init, zi_RX0, by decide +kernel, by decide +kernel, by decide +kernel⟩
theorem zn_X0_init : Cond.instanceMethod yX0_init ∈ lwG := lwG_in (List.mem_of_getElem? (i := 97) (by decide +kernel)) rfl
theorem zm_X0_init : zMC mX0_init 0 := ⟨zmf_X0_init, zn_X0_init, rfl, rfl⟩
abbrev mX2_dispatch : zMI := (yX2_dispatch, cX2_dispatch, 1, (some .int))
theorem zc_X2_dispatch : Cond.code yX2_dispatch cX2_dispatch 1 (some .int) ∈ lwG := lwG_in (List.mem_of_getElem? (i := 152) (by decide +kernel)) rfl
theorem zmf_X2_dispatch : zMF mX2_dispatch 0 := ⟨zc_X2_dispatch, zi_RX2, by decide +kernel, by decide +kernel, by decide +kernel⟩
theorem zn_X2_dispatch : Cond.instanceMethod yX2_dispatch ∈ lwG := lwG_in (List.mem_of_getElem? (i := 150) (by decide +kernel)) rfl
theorem ze_X2_dispatch : Cond.selects RX2 yX2_dispatch yX2_dispatch ∈ lwG := lwG_in (List.mem_of_getElem? (i := 151) (by decide +kernel)) rfl
theorem zm_X2_dispatch : zMV mX2_dispatch 0 := ⟨zmf_X2_dispatch, zn_X2_dispatch, ze_X2_dispatch⟩
abbrev mX0_clear : zMI := (yX0_clear, cX0_clear, 2, none)
theorem zc_X0_clear : Cond.code yX0_clear cX0_clear 2 none ∈ lwG := lwG_in (List.mem_of_getElem? (i := 156) (by decide +kernel)) rfl
theorem zmf_X0_clear : zMF mX0_clear 0 := ⟨zc_X0_clear, zi_RX0, by decide +kernel, by decide +kernel, by decide +kernel⟩
theorem zn_X0_clear : Cond.instanceMethod yX0_clear ∈ lwG := lwG_in (List.mem_of_getElem? (i := 154) (by decide +kernel)) rfl
theorem ze_X0_clear : Cond.selects RX0 yX0_clear yX0_clear ∈ lwG := lwG_in (List.mem_of_getElem? (i := 155) (by decide +kernel)) rfl
theorem zm_X0_clear : zMV mX0_clear 0 := ⟨zmf_X0_clear, zn_X0_clear, ze_X0_clear⟩
abbrev mX2_matchOpenPlaces : zMI := (yX2_matchOpenPlaces, cX2_matchOpenPlaces, 2, none)
theorem zc_X2_matchOpenPlaces : Cond.code yX2_matchOpenPlaces cX2_matchOpenPlaces 2 none ∈ lwG := lwG_in (List.mem_of_getElem? (i := 160) (by decide +kernel)) rfl
theorem zmf_X2_matchOpenPlaces : zMF mX2_matchOpenPlaces 0 := ⟨zc_X2_matchOpenPlaces, zi_RX2, by decide +kernel, by decide +kernel, by decide +kernel⟩
theorem zn_X2_matchOpenPlaces : Cond.instanceMethod yX2_matchOpenPlaces ∈ lwG := lwG_in (List.mem_of_getElem? (i := 159) (by decide +kernel)) rfl
theorem ze_X2_matchOpenPlaces : Cond.selects RX2 yX2_matchOpenPlaces yX2_matchOpenPlaces ∈ lwG := lwG_in (List.mem_of_getElem? (i := 0) (by decide +kernel)) rfl
theorem zm_X2_matchOpenPlaces : zMV mX2_matchOpenPlaces 0 := ⟨zmf_X2_matchOpenPlaces, zn_X2_matchOpenPlaces, ze_X2_matchOpenPlaces⟩
abbrev mX2_isOpen : zMI := (yX2_isOpen, cX2_isOpen, 2, (some .boolean))
theorem zc_X2_isOpen : Cond.code yX2_isOpen cX2_isOpen 2 (some .boolean) ∈ lwG := lwG_in (List.mem_of_getElem? (i := 164) (by decide +kernel)) rfl
theorem zmf_X2_isOpen : zMF mX2_isOpen 1 := ⟨zc_X2_isOpen, zi_RX2, by decide +kernel, by decide +kernel, by decide +kernel⟩
theorem zn_X2_isOpen : Cond.instanceMethod yX2_isOpen ∈ lwG := lwG_in (List.mem_of_getElem? (i := 163) (by decide +kernel)) rfl
theorem ze_X2_isOpen : Cond.selects RX2 yX2_isOpen yX2_isOpen ∈ lwG := lwG_in (List.mem_of_getElem? (i := 1) (by decide +kernel)) rfl
theorem zm_X2_isOpen : zMV mX2_isOpen 1 := ⟨zmf_X2_isOpen, zn_X2_isOpen, ze_X2_isOpen⟩
abbrev mX2_holderOf : zMI := (yX2_holderOf, cX2_holderOf, 3, (some .int))
theorem zc_X2_holderOf : Cond.code yX2_holderOf cX2_holderOf 3 (some .int) ∈ lwG := lwG_in (List.mem_of_getElem? (i := 168) (by decide +kernel)) rfl
theorem zmf_X2_holderOf : zMF mX2_holderOf 1 := ⟨zc_X2_holderOf, zi_RX2, by decide +kernel, by decide +kernel, by decide +kernel⟩
theorem zn_X2_holderOf : Cond.instanceMethod yX2_holderOf ∈ lwG := lwG_in (List.mem_of_getElem? (i := 167) (by decide +kernel)) rfl
theorem ze_X2_holderOf : Cond.selects RX2 yX2_holderOf yX2_holderOf ∈ lwG := lwG_in (List.mem_of_getElem? (i := 2) (by decide +kernel)) rfl
theorem zm_X2_holderOf : zMV mX2_holderOf 1 := ⟨zmf_X2_holderOf, zn_X2_holderOf, ze_X2_holderOf⟩
abbrev mJx4a65c_size_8abf5 : zMI := (yJx4a65c_size_8abf5, cJx4a65c_size_8abf5, 1, (some .int))
theorem zc_Jx4a65c_size_8abf5 : Cond.code yJx4a65c_size_8abf5 cJx4a65c_size_8abf5 1 (some .int) ∈ lwG := lwG_in (List.mem_of_getElem? (i := 172) (by decide +kernel)) rfl
theorem zmf_Jx4a65c_size_8abf5 : zMF mJx4a65c_size_8abf5 0 := ⟨zc_Jx4a65c_size_8abf5, zi_RJx4a65c, by decide +kernel, by decide +kernel, by decide +kernel⟩
theorem zn_Jx4a65c_size_8abf5 : Cond.instanceMethod yJx4a65c_size_8abf5 ∈ lwG := lwG_in (List.mem_of_getElem? (i := 170) (by decide +kernel)) rfl
theorem ze_Jx4a65c_size_8abf5 : Cond.selects RJx4a65c yJx4a65c_size_8abf5 yJx4a65c_size_8abf5 ∈ lwG := lwG_in (List.mem_of_getElem? (i := 171) (by decide +kernel)) rfl
theorem zm_Jx4a65c_size_8abf5 : zMV mJx4a65c_size_8abf5 0 := ⟨zmf_Jx4a65c_size_8abf5, zn_Jx4a65c_size_8abf5, ze_Jx4a65c_size_8abf5⟩
abbrev mJx4a65c_get_915e3 : zMI := (yJx4a65c_get_915e3, cJx4a65c_get_915e3, 2, (some (.object "java/lang/Object")))
theorem zc_Jx4a65c_get_915e3 : Cond.code yJx4a65c_get_915e3 cJx4a65c_get_915e3 2 (some (.object "java/lang/Object")) ∈ lwG := lwG_in (List.mem_of_getElem? (i := 176) (by decide +kernel)) rfl
theorem zmf_Jx4a65c_get_915e3 : zMF mJx4a65c_get_915e3 1 := ⟨zc_Jx4a65c_get_915e3, zi_RJx4a65c, by decide +kernel, by decide +kernel, by decide +kernel⟩
theorem zn_Jx4a65c_get_915e3 : Cond.instanceMethod yJx4a65c_get_915e3 ∈ lwG := lwG_in (List.mem_of_getElem? (i := 174) (by decide +kernel)) rfl
theorem ze_Jx4a65c_get_915e3 : Cond.selects RJx4a65c yJx4a65c_get_915e3 yJx4a65c_get_915e3 ∈ lwG := lwG_in (List.mem_of_getElem? (i := 175) (by decide +kernel)) rfl
theorem zm_Jx4a65c_get_915e3 : zMV mJx4a65c_get_915e3 1 := ⟨zmf_Jx4a65c_get_915e3, zn_Jx4a65c_get_915e3, ze_Jx4a65c_get_915e3⟩
abbrev mJ15_checkIndex_7cf53 : zMI := (yJ15_checkIndex_7cf53, cJ15_checkIndex_7cf53, 2, (some .int))
theorem zc_J15_checkIndex_7cf53 : Cond.code yJ15_checkIndex_7cf53 cJ15_checkIndex_7cf53 2 (some .int) ∈ lwG := lwG_in (List.mem_of_getElem? (i := 179) (by decide +kernel)) rfl
theorem zi_RJ15 : Cond.initialized RJ15 ∈ lwG := lwG_in (List.mem_of_getElem? (i := 53) (by decide +kernel)) rfl
theorem zmf_J15_checkIndex_7cf53 : zMF mJ15_checkIndex_7cf53 2 := ⟨zc_J15_checkIndex_7cf53, zi_RJ15, by decide +kernel, by decide +kernel, by decide +kernel⟩
theorem zs_J15_checkIndex_7cf53 : Cond.static yJ15_checkIndex_7cf53 ∈ lwG := lwG_in (List.mem_of_getElem? (i := 178) (by decide +kernel)) rfl
theorem zm_J15_checkIndex_7cf53 : zMS mJ15_checkIndex_7cf53 2 := ⟨zmf_J15_checkIndex_7cf53, zs_J15_checkIndex_7cf53⟩
abbrev mJ3_checkIndex_8e157 : zMI := (yJ3_checkIndex_8e157, cJ3_checkIndex_8e157, 3, (some .int))
theorem zc_J3_checkIndex_8e157 : Cond.code yJ3_checkIndex_8e157 cJ3_checkIndex_8e157 3 (some .int) ∈ lwG := lwG_in (List.mem_of_getElem? (i := 182) (by decide +kernel)) rfl
theorem zi_RJ3 : Cond.initialized RJ3 ∈ lwG := lwG_in (List.mem_of_getElem? (i := 54) (by decide +kernel)) rfl
theorem zmf_J3_checkIndex_8e157 : zMF mJ3_checkIndex_8e157 3 := ⟨zc_J3_checkIndex_8e157, zi_RJ3, by decide +kernel, by decide +kernel, by decide +kernel⟩
theorem zs_J3_checkIndex_8e157 : Cond.static yJ3_checkIndex_8e157 ∈ lwG := lwG_in (List.mem_of_getElem? (i := 181) (by decide +kernel)) rfl
theorem zm_J3_checkIndex_8e157 : zMS mJ3_checkIndex_8e157 3 := ⟨zmf_J3_checkIndex_8e157, zs_J3_checkIndex_8e157⟩
abbrev mJx4a65c_elementData_915e3 : zMI := (yJx4a65c_elementData_915e3, cJx4a65c_elementData_915e3, 2, (some (.object "java/lang/Object")))
theorem zc_Jx4a65c_elementData_915e3 : Cond.code yJx4a65c_elementData_915e3 cJx4a65c_elementData_915e3 2 (some (.object "java/lang/Object")) ∈ lwG := lwG_in (List.mem_of_getElem? (i := 186) (by decide +kernel)) rfl
theorem zmf_Jx4a65c_elementData_915e3 : zMF mJx4a65c_elementData_915e3 1 := ⟨zc_Jx4a65c_elementData_915e3, zi_RJx4a65c, by decide +kernel, by decide +kernel, by decide +kernel⟩
theorem zn_Jx4a65c_elementData_915e3 : Cond.instanceMethod yJx4a65c_elementData_915e3 ∈ lwG := lwG_in (List.mem_of_getElem? (i := 184) (by decide +kernel)) rfl
theorem ze_Jx4a65c_elementData_915e3 : Cond.selects RJx4a65c yJx4a65c_elementData_915e3 yJx4a65c_elementData_915e3 ∈ lwG := lwG_in (List.mem_of_getElem? (i := 185) (by decide +kernel)) rfl
theorem zm_Jx4a65c_elementData_915e3 : zMV mJx4a65c_elementData_915e3 1 := ⟨zmf_Jx4a65c_elementData_915e3, zn_Jx4a65c_elementData_915e3, ze_Jx4a65c_elementData_915e3⟩
abbrev mX0_addPlace : zMI := (yX0_addPlace, cX0_addPlace, 3, none)
theorem zc_X0_addPlace : Cond.code yX0_addPlace cX0_addPlace 3 none ∈ lwG := lwG_in (List.mem_of_getElem? (i := 191) (by decide +kernel)) rfl
theorem zmf_X0_addPlace : zMF mX0_addPlace 1 := ⟨zc_X0_addPlace, zi_RX0, by decide +kernel, by decide +kernel, by decide +kernel⟩
theorem zn_X0_addPlace : Cond.instanceMethod yX0_addPlace ∈ lwG := lwG_in (List.mem_of_getElem? (i := 189) (by decide +kernel)) rfl
theorem ze_X0_addPlace : Cond.selects RX0 yX0_addPlace yX0_addPlace ∈ lwG := lwG_in (List.mem_of_getElem? (i := 190) (by decide +kernel)) rfl
theorem zm_X0_addPlace : zMV mX0_addPlace 1 := ⟨zmf_X0_addPlace, zn_X0_addPlace, ze_X0_addPlace⟩
abbrev mX0_oneIfWithin : zMI := (yX0_oneIfWithin, cX0_oneIfWithin, 2, (some .int))
theorem zc_X0_oneIfWithin : Cond.code yX0_oneIfWithin cX0_oneIfWithin 2 (some .int) ∈ lwG := lwG_in (List.mem_of_getElem? (i := 194) (by decide +kernel)) rfl
theorem zmf_X0_oneIfWithin : zMF mX0_oneIfWithin 2 := ⟨zc_X0_oneIfWithin, zi_RX0, by decide +kernel, by decide +kernel, by decide +kernel⟩
theorem zs_X0_oneIfWithin : Cond.static yX0_oneIfWithin ∈ lwG := lwG_in (List.mem_of_getElem? (i := 193) (by decide +kernel)) rfl
theorem zm_X0_oneIfWithin : zMS mX0_oneIfWithin 2 := ⟨zmf_X0_oneIfWithin, zs_X0_oneIfWithin⟩
abbrev mX2_takeInTurn : zMI := (yX2_takeInTurn, cX2_takeInTurn, 3, none)
theorem zc_X2_takeInTurn : Cond.code yX2_takeInTurn cX2_takeInTurn 3 none ∈ lwG := lwG_in (List.mem_of_getElem? (i := 198) (by decide +kernel)) rfl
theorem zmf_X2_takeInTurn : zMF mX2_takeInTurn 0 := ⟨zc_X2_takeInTurn, zi_RX2, by decide +kernel, by decide +kernel, by decide +kernel⟩
theorem zn_X2_takeInTurn : Cond.instanceMethod yX2_takeInTurn ∈ lwG := lwG_in (List.mem_of_getElem? (i := 197) (by decide +kernel)) rfl
theorem ze_X2_takeInTurn : Cond.selects RX2 yX2_takeInTurn yX2_takeInTurn ∈ lwG := lwG_in (List.mem_of_getElem? (i := 3) (by decide +kernel)) rfl
theorem zm_X2_takeInTurn : zMV mX2_takeInTurn 0 := ⟨zmf_X2_takeInTurn, zn_X2_takeInTurn, ze_X2_takeInTurn⟩
abbrev mJx4a65c_clear_da8c8 : zMI := (yJx4a65c_clear_da8c8, cJx4a65c_clear_da8c8, 4, none)
theorem zc_Jx4a65c_clear_da8c8 : Cond.code yJx4a65c_clear_da8c8 cJx4a65c_clear_da8c8 4 none ∈ lwG := lwG_in (List.mem_of_getElem? (i := 202) (by decide +kernel)) rfl
theorem zmf_Jx4a65c_clear_da8c8 : zMF mJx4a65c_clear_da8c8 0 := ⟨zc_Jx4a65c_clear_da8c8, zi_RJx4a65c, by decide +kernel, by decide +kernel, by decide +kernel⟩
theorem zn_Jx4a65c_clear_da8c8 : Cond.instanceMethod yJx4a65c_clear_da8c8 ∈ lwG := lwG_in (List.mem_of_getElem? (i := 200) (by decide +kernel)) rfl
theorem ze_Jx4a65c_clear_da8c8 : Cond.selects RJx4a65c yJx4a65c_clear_da8c8 yJx4a65c_clear_da8c8 ∈ lwG := lwG_in (List.mem_of_getElem? (i := 201) (by decide +kernel)) rfl
theorem zm_Jx4a65c_clear_da8c8 : zMV mJx4a65c_clear_da8c8 0 := ⟨zmf_Jx4a65c_clear_da8c8, zn_Jx4a65c_clear_da8c8, ze_Jx4a65c_clear_da8c8⟩
abbrev mX2_rememberTurn : zMI := (yX2_rememberTurn, cX2_rememberTurn, 2, none)
theorem zc_X2_rememberTurn : Cond.code yX2_rememberTurn cX2_rememberTurn 2 none ∈ lwG := lwG_in (List.mem_of_getElem? (i := 206) (by decide +kernel)) rfl
theorem zmf_X2_rememberTurn : zMF mX2_rememberTurn 0 := ⟨zc_X2_rememberTurn, zi_RX2, by decide +kernel, by decide +kernel, by decide +kernel⟩
theorem zn_X2_rememberTurn : Cond.instanceMethod yX2_rememberTurn ∈ lwG := lwG_in (List.mem_of_getElem? (i := 205) (by decide +kernel)) rfl
theorem ze_X2_rememberTurn : Cond.selects RX2 yX2_rememberTurn yX2_rememberTurn ∈ lwG := lwG_in (List.mem_of_getElem? (i := 4) (by decide +kernel)) rfl
theorem zm_X2_rememberTurn : zMV mX2_rememberTurn 0 := ⟨zmf_X2_rememberTurn, zn_X2_rememberTurn, ze_X2_rememberTurn⟩
abbrev mJx4a65c_add_9ea2d : zMI := (yJx4a65c_add_9ea2d, cJx4a65c_add_9ea2d, 2, (some .boolean))
theorem zc_Jx4a65c_add_9ea2d : Cond.code yJx4a65c_add_9ea2d cJx4a65c_add_9ea2d 2 (some .boolean) ∈ lwG := lwG_in (List.mem_of_getElem? (i := 210) (by decide +kernel)) rfl
theorem zmf_Jx4a65c_add_9ea2d : zMF mJx4a65c_add_9ea2d 1 := ⟨zc_Jx4a65c_add_9ea2d, zi_RJx4a65c, by decide +kernel, by decide +kernel, by decide +kernel⟩
theorem zn_Jx4a65c_add_9ea2d : Cond.instanceMethod yJx4a65c_add_9ea2d ∈ lwG := lwG_in (List.mem_of_getElem? (i := 208) (by decide +kernel)) rfl
theorem ze_Jx4a65c_add_9ea2d : Cond.selects RJx4a65c yJx4a65c_add_9ea2d yJx4a65c_add_9ea2d ∈ lwG := lwG_in (List.mem_of_getElem? (i := 209) (by decide +kernel)) rfl
theorem zm_Jx4a65c_add_9ea2d : zMV mJx4a65c_add_9ea2d 1 := ⟨zmf_Jx4a65c_add_9ea2d, zn_Jx4a65c_add_9ea2d, ze_Jx4a65c_add_9ea2d⟩
abbrev mJx4a65c_add_72be8 : zMI := (yJx4a65c_add_72be8, cJx4a65c_add_72be8, 4, none)
theorem zc_Jx4a65c_add_72be8 : Cond.code yJx4a65c_add_72be8 cJx4a65c_add_72be8 4 none ∈ lwG := lwG_in (List.mem_of_getElem? (i := 214) (by decide +kernel)) rfl
theorem zmf_Jx4a65c_add_72be8 : zMF mJx4a65c_add_72be8 3 := ⟨zc_Jx4a65c_add_72be8, zi_RJx4a65c, by decide +kernel, by decide +kernel, by decide +kernel⟩
theorem zn_Jx4a65c_add_72be8 : Cond.instanceMethod yJx4a65c_add_72be8 ∈ lwG := lwG_in (List.mem_of_getElem? (i := 213) (by decide +kernel)) rfl
theorem ze_Jx4a65c_add_72be8 : Cond.selects RJx4a65c yJx4a65c_add_72be8 yJx4a65c_add_72be8 ∈ lwG := lwG_in (List.mem_of_getElem? (i := 5) (by decide +kernel)) rfl
theorem zm_Jx4a65c_add_72be8 : zMV mJx4a65c_add_72be8 3 := ⟨zmf_Jx4a65c_add_72be8, zn_Jx4a65c_add_72be8, ze_Jx4a65c_add_72be8⟩
abbrev mJx4a65c_grow_d5877 : zMI := (yJx4a65c_grow_d5877, cJx4a65c_grow_d5877, 1, (some (.array (.object "java/lang/Object"))))
theorem zc_Jx4a65c_grow_d5877 : Cond.code yJx4a65c_grow_d5877 cJx4a65c_grow_d5877 1 (some (.array (.object "java/lang/Object"))) ∈ lwG := lwG_in (List.mem_of_getElem? (i := 218) (by decide +kernel)) rfl
theorem zmf_Jx4a65c_grow_d5877 : zMF mJx4a65c_grow_d5877 0 := ⟨zc_Jx4a65c_grow_d5877, zi_RJx4a65c, by decide +kernel, by decide +kernel, by decide +kernel⟩
theorem zn_Jx4a65c_grow_d5877 : Cond.instanceMethod yJx4a65c_grow_d5877 ∈ lwG := lwG_in (List.mem_of_getElem? (i := 217) (by decide +kernel)) rfl
theorem ze_Jx4a65c_grow_d5877 : Cond.selects RJx4a65c yJx4a65c_grow_d5877 yJx4a65c_grow_d5877 ∈ lwG := lwG_in (List.mem_of_getElem? (i := 6) (by decide +kernel)) rfl
theorem zm_Jx4a65c_grow_d5877 : zMV mJx4a65c_grow_d5877 0 := ⟨zmf_Jx4a65c_grow_d5877, zn_Jx4a65c_grow_d5877, ze_Jx4a65c_grow_d5877⟩
abbrev mJx4a65c_grow_92f84 : zMI := (yJx4a65c_grow_92f84, cJx4a65c_grow_92f84, 4, (some (.array (.object "java/lang/Object"))))
theorem zc_Jx4a65c_grow_92f84 : Cond.code yJx4a65c_grow_92f84 cJx4a65c_grow_92f84 4 (some (.array (.object "java/lang/Object"))) ∈ lwG := lwG_in (List.mem_of_getElem? (i := 222) (by decide +kernel)) rfl
theorem zmf_Jx4a65c_grow_92f84 : zMF mJx4a65c_grow_92f84 1 := ⟨zc_Jx4a65c_grow_92f84, zi_RJx4a65c, by decide +kernel, by decide +kernel, by decide +kernel⟩
theorem zn_Jx4a65c_grow_92f84 : Cond.instanceMethod yJx4a65c_grow_92f84 ∈ lwG := lwG_in (List.mem_of_getElem? (i := 221) (by decide +kernel)) rfl
theorem ze_Jx4a65c_grow_92f84 : Cond.selects RJx4a65c yJx4a65c_grow_92f84 yJx4a65c_grow_92f84 ∈ lwG := lwG_in (List.mem_of_getElem? (i := 7) (by decide +kernel)) rfl
theorem zm_Jx4a65c_grow_92f84 : zMV mJx4a65c_grow_92f84 1 := ⟨zmf_Jx4a65c_grow_92f84, zn_Jx4a65c_grow_92f84, ze_Jx4a65c_grow_92f84⟩
abbrev mJ8_newLength_cabcc : zMI := (yJ8_newLength_cabcc, cJ8_newLength_cabcc, 4, (some .int))
theorem zc_J8_newLength_cabcc : Cond.code yJ8_newLength_cabcc cJ8_newLength_cabcc 4 (some .int) ∈ lwG := lwG_in (List.mem_of_getElem? (i := 225) (by decide +kernel)) rfl
theorem zi_RJ8 : Cond.initialized RJ8 ∈ lwG := lwG_in (List.mem_of_getElem? (i := 55) (by decide +kernel)) rfl
theorem zmf_J8_newLength_cabcc : zMF mJ8_newLength_cabcc 3 := ⟨zc_J8_newLength_cabcc, zi_RJ8, by decide +kernel, by decide +kernel, by decide +kernel⟩
theorem zs_J8_newLength_cabcc : Cond.static yJ8_newLength_cabcc ∈ lwG := lwG_in (List.mem_of_getElem? (i := 224) (by decide +kernel)) rfl
theorem zm_J8_newLength_cabcc : zMS mJ8_newLength_cabcc 3 := ⟨zmf_J8_newLength_cabcc, zs_J8_newLength_cabcc⟩
abbrev mJ9_max_7cf53 : zMI := (yJ9_max_7cf53, cJ9_max_7cf53, 2, (some .int))
theorem zc_J9_max_7cf53 : Cond.code yJ9_max_7cf53 cJ9_max_7cf53 2 (some .int) ∈ lwG := lwG_in (List.mem_of_getElem? (i := 228) (by decide +kernel)) rfl
theorem zi_RJ9 : Cond.initialized RJ9 ∈ lwG := lwG_in (List.mem_of_getElem? (i := 56) (by decide +kernel)) rfl
theorem zmf_J9_max_7cf53 : zMF mJ9_max_7cf53 2 := ⟨zc_J9_max_7cf53, zi_RJ9, by decide +kernel, by decide +kernel, by decide +kernel⟩
theorem zs_J9_max_7cf53 : Cond.static yJ9_max_7cf53 ∈ lwG := lwG_in (List.mem_of_getElem? (i := 227) (by decide +kernel)) rfl
theorem zm_J9_max_7cf53 : zMS mJ9_max_7cf53 2 := ⟨zmf_J9_max_7cf53, zs_J9_max_7cf53⟩
abbrev mJ8_hugeLength_7cf53 : zMI := (yJ8_hugeLength_7cf53, cJ8_hugeLength_7cf53, 3, (some .int))
theorem zc_J8_hugeLength_7cf53 : Cond.code yJ8_hugeLength_7cf53 cJ8_hugeLength_7cf53 3 (some .int) ∈ lwG := lwG_in (List.mem_of_getElem? (i := 232) (by decide +kernel)) rfl
theorem zmf_J8_hugeLength_7cf53 : zMF mJ8_hugeLength_7cf53 2 := ⟨zc_J8_hugeLength_7cf53, zi_RJ8, by decide +kernel, by decide +kernel, by decide +kernel⟩
theorem zs_J8_hugeLength_7cf53 : Cond.static yJ8_hugeLength_7cf53 ∈ lwG := lwG_in (List.mem_of_getElem? (i := 231) (by decide +kernel)) rfl
theorem zm_J8_hugeLength_7cf53 : zMS mJ8_hugeLength_7cf53 2 := ⟨zmf_J8_hugeLength_7cf53, zs_J8_hugeLength_7cf53⟩
abbrev mJ7_copyOf_1904c : zMI := (yJ7_copyOf_1904c, cJ7_copyOf_1904c, 2, (some (.array (.object "java/lang/Object"))))
theorem zc_J7_copyOf_1904c : Cond.code yJ7_copyOf_1904c cJ7_copyOf_1904c 2 (some (.array (.object "java/lang/Object"))) ∈ lwG := lwG_in (List.mem_of_getElem? (i := 235) (by decide +kernel)) rfl
theorem zi_RJ7 : Cond.initialized RJ7 ∈ lwG := lwG_in (List.mem_of_getElem? (i := 57) (by decide +kernel)) rfl
theorem zmf_J7_copyOf_1904c : zMF mJ7_copyOf_1904c 2 := ⟨zc_J7_copyOf_1904c, zi_RJ7, by decide +kernel, by decide +kernel, by decide +kernel⟩
theorem zs_J7_copyOf_1904c : Cond.static yJ7_copyOf_1904c ∈ lwG := lwG_in (List.mem_of_getElem? (i := 234) (by decide +kernel)) rfl
theorem zm_J7_copyOf_1904c : zMS mJ7_copyOf_1904c 2 := ⟨zmf_J7_copyOf_1904c, zs_J7_copyOf_1904c⟩
abbrev mJ7_copyOf_6403c : zMI := (yJ7_copyOf_6403c, cJ7_copyOf_6403c, 4, (some (.array (.object "java/lang/Object"))))
theorem zc_J7_copyOf_6403c : Cond.code yJ7_copyOf_6403c cJ7_copyOf_6403c 4 (some (.array (.object "java/lang/Object"))) ∈ lwG := lwG_in (List.mem_of_getElem? (i := 250) (by decide +kernel)) rfl
theorem zmf_J7_copyOf_6403c : zMF mJ7_copyOf_6403c 3 := ⟨zc_J7_copyOf_6403c, zi_RJ7, by decide +kernel, by decide +kernel, by decide +kernel⟩
theorem zs_J7_copyOf_6403c : Cond.static yJ7_copyOf_6403c ∈ lwG := lwG_in (List.mem_of_getElem? (i := 249) (by decide +kernel)) rfl
theorem zm_J7_copyOf_6403c : zMS mJ7_copyOf_6403c 3 := ⟨zmf_J7_copyOf_6403c, zs_J7_copyOf_6403c⟩
abbrev mJ9_min_7cf53 : zMI := (yJ9_min_7cf53, cJ9_min_7cf53, 2, (some .int))
theorem zc_J9_min_7cf53 : Cond.code yJ9_min_7cf53 cJ9_min_7cf53 2 (some .int) ∈ lwG := lwG_in (List.mem_of_getElem? (i := 256) (by decide +kernel)) rfl
theorem zmf_J9_min_7cf53 : zMF mJ9_min_7cf53 2 := ⟨zc_J9_min_7cf53, zi_RJ9, by decide +kernel, by decide +kernel, by decide +kernel⟩
theorem zs_J9_min_7cf53 : Cond.static yJ9_min_7cf53 ∈ lwG := lwG_in (List.mem_of_getElem? (i := 255) (by decide +kernel)) rfl
theorem zm_J9_min_7cf53 : zMS mJ9_min_7cf53 2 := ⟨zmf_J9_min_7cf53, zs_J9_min_7cf53⟩
abbrev mX1_isReady : zMI := (yX1_isReady, cX1_isReady, 1, (some .boolean))
theorem zc_X1_isReady : Cond.code yX1_isReady cX1_isReady 1 (some .boolean) ∈ lwG := lwG_in (List.mem_of_getElem? (i := 265) (by decide +kernel)) rfl
theorem zi_RX1 : Cond.initialized RX1 ∈ lwG := lwG_in (List.mem_of_getElem? (i := 52) (by decide +kernel)) rfl
theorem zmf_X1_isReady : zMF mX1_isReady 0 := ⟨zc_X1_isReady, zi_RX1, by decide +kernel, by decide +kernel, by decide +kernel⟩
theorem zn_X1_isReady : Cond.instanceMethod yX1_isReady ∈ lwG := lwG_in (List.mem_of_getElem? (i := 263) (by decide +kernel)) rfl
theorem ze_X1_isReady : Cond.selects RX1 yX1_isReady yX1_isReady ∈ lwG := lwG_in (List.mem_of_getElem? (i := 264) (by decide +kernel)) rfl
theorem zm_X1_isReady : zMV mX1_isReady 0 := ⟨zmf_X1_isReady, zn_X1_isReady, ze_X1_isReady⟩
abbrev mX0_canPlaceAlso : zMI := (yX0_canPlaceAlso, cX0_canPlaceAlso, 3, (some .boolean))
theorem zc_X0_canPlaceAlso : Cond.code yX0_canPlaceAlso cX0_canPlaceAlso 3 (some .boolean) ∈ lwG := lwG_in (List.mem_of_getElem? (i := 269) (by decide +kernel)) rfl
theorem zmf_X0_canPlaceAlso : zMF mX0_canPlaceAlso 1 := ⟨zc_X0_canPlaceAlso, zi_RX0, by decide +kernel, by decide +kernel, by decide +kernel⟩
theorem zn_X0_canPlaceAlso : Cond.instanceMethod yX0_canPlaceAlso ∈ lwG := lwG_in (List.mem_of_getElem? (i := 267) (by decide +kernel)) rfl
theorem ze_X0_canPlaceAlso : Cond.selects RX0 yX0_canPlaceAlso yX0_canPlaceAlso ∈ lwG := lwG_in (List.mem_of_getElem? (i := 268) (by decide +kernel)) rfl
theorem zm_X0_canPlaceAlso : zMV mX0_canPlaceAlso 1 := ⟨zmf_X0_canPlaceAlso, zn_X0_canPlaceAlso, ze_X0_canPlaceAlso⟩
abbrev mX2_countRefusal : zMI := (yX2_countRefusal, cX2_countRefusal, 2, none)
theorem zc_X2_countRefusal : Cond.code yX2_countRefusal cX2_countRefusal 2 none ∈ lwG := lwG_in (List.mem_of_getElem? (i := 273) (by decide +kernel)) rfl
theorem zmf_X2_countRefusal : zMF mX2_countRefusal 1 := ⟨zc_X2_countRefusal, zi_RX2, by decide +kernel, by decide +kernel, by decide +kernel⟩
theorem zn_X2_countRefusal : Cond.instanceMethod yX2_countRefusal ∈ lwG := lwG_in (List.mem_of_getElem? (i := 272) (by decide +kernel)) rfl
theorem ze_X2_countRefusal : Cond.selects RX2 yX2_countRefusal yX2_countRefusal ∈ lwG := lwG_in (List.mem_of_getElem? (i := 8) (by decide +kernel)) rfl
theorem zm_X2_countRefusal : zMV mX2_countRefusal 1 := ⟨zmf_X2_countRefusal, zn_X2_countRefusal, ze_X2_countRefusal⟩
abbrev mX2_sendToBottom : zMI := (yX2_sendToBottom, cX2_sendToBottom, 2, none)
theorem zc_X2_sendToBottom : Cond.code yX2_sendToBottom cX2_sendToBottom 2 none ∈ lwG := lwG_in (List.mem_of_getElem? (i := 277) (by decide +kernel)) rfl
theorem zmf_X2_sendToBottom : zMF mX2_sendToBottom 1 := ⟨zc_X2_sendToBottom, zi_RX2, by decide +kernel, by decide +kernel, by decide +kernel⟩
theorem zn_X2_sendToBottom : Cond.instanceMethod yX2_sendToBottom ∈ lwG := lwG_in (List.mem_of_getElem? (i := 276) (by decide +kernel)) rfl
theorem ze_X2_sendToBottom : Cond.selects RX2 yX2_sendToBottom yX2_sendToBottom ∈ lwG := lwG_in (List.mem_of_getElem? (i := 9) (by decide +kernel)) rfl
theorem zm_X2_sendToBottom : zMV mX2_sendToBottom 1 := ⟨zmf_X2_sendToBottom, zn_X2_sendToBottom, ze_X2_sendToBottom⟩
abbrev mX2_takeOffBoard : zMI := (yX2_takeOffBoard, cX2_takeOffBoard, 3, none)
theorem zc_X2_takeOffBoard : Cond.code yX2_takeOffBoard cX2_takeOffBoard 3 none ∈ lwG := lwG_in (List.mem_of_getElem? (i := 281) (by decide +kernel)) rfl
theorem zmf_X2_takeOffBoard : zMF mX2_takeOffBoard 1 := ⟨zc_X2_takeOffBoard, zi_RX2, by decide +kernel, by decide +kernel, by decide +kernel⟩
theorem zn_X2_takeOffBoard : Cond.instanceMethod yX2_takeOffBoard ∈ lwG := lwG_in (List.mem_of_getElem? (i := 280) (by decide +kernel)) rfl
theorem ze_X2_takeOffBoard : Cond.selects RX2 yX2_takeOffBoard yX2_takeOffBoard ∈ lwG := lwG_in (List.mem_of_getElem? (i := 10) (by decide +kernel)) rfl
theorem zm_X2_takeOffBoard : zMV mX2_takeOffBoard 1 := ⟨zmf_X2_takeOffBoard, zn_X2_takeOffBoard, ze_X2_takeOffBoard⟩
abbrev mJx4a65c_remove_915e3 : zMI := (yJx4a65c_remove_915e3, cJx4a65c_remove_915e3, 4, (some (.object "java/lang/Object")))
theorem zc_Jx4a65c_remove_915e3 : Cond.code yJx4a65c_remove_915e3 cJx4a65c_remove_915e3 4 (some (.object "java/lang/Object")) ∈ lwG := lwG_in (List.mem_of_getElem? (i := 285) (by decide +kernel)) rfl
theorem zmf_Jx4a65c_remove_915e3 : zMF mJx4a65c_remove_915e3 1 := ⟨zc_Jx4a65c_remove_915e3, zi_RJx4a65c, by decide +kernel, by decide +kernel, by decide +kernel⟩
theorem zn_Jx4a65c_remove_915e3 : Cond.instanceMethod yJx4a65c_remove_915e3 ∈ lwG := lwG_in (List.mem_of_getElem? (i := 283) (by decide +kernel)) rfl
theorem ze_Jx4a65c_remove_915e3 : Cond.selects RJx4a65c yJx4a65c_remove_915e3 yJx4a65c_remove_915e3 ∈ lwG := lwG_in (List.mem_of_getElem? (i := 284) (by decide +kernel)) rfl
theorem zm_Jx4a65c_remove_915e3 : zMV mJx4a65c_remove_915e3 1 := ⟨zmf_Jx4a65c_remove_915e3, zn_Jx4a65c_remove_915e3, ze_Jx4a65c_remove_915e3⟩
abbrev mJx4a65c_fastRemove_b59b0 : zMI := (yJx4a65c_fastRemove_b59b0, cJx4a65c_fastRemove_b59b0, 4, none)
theorem zc_Jx4a65c_fastRemove_b59b0 : Cond.code yJx4a65c_fastRemove_b59b0 cJx4a65c_fastRemove_b59b0 4 none ∈ lwG := lwG_in (List.mem_of_getElem? (i := 289) (by decide +kernel)) rfl
theorem zmf_Jx4a65c_fastRemove_b59b0 : zMF mJx4a65c_fastRemove_b59b0 2 := ⟨zc_Jx4a65c_fastRemove_b59b0, zi_RJx4a65c, by decide +kernel, by decide +kernel, by decide +kernel⟩
theorem zn_Jx4a65c_fastRemove_b59b0 : Cond.instanceMethod yJx4a65c_fastRemove_b59b0 ∈ lwG := lwG_in (List.mem_of_getElem? (i := 288) (by decide +kernel)) rfl
theorem ze_Jx4a65c_fastRemove_b59b0 : Cond.selects RJx4a65c yJx4a65c_fastRemove_b59b0 yJx4a65c_fastRemove_b59b0 ∈ lwG := lwG_in (List.mem_of_getElem? (i := 11) (by decide +kernel)) rfl
theorem zm_Jx4a65c_fastRemove_b59b0 : zMV mJx4a65c_fastRemove_b59b0 2 := ⟨zmf_Jx4a65c_fastRemove_b59b0, zn_Jx4a65c_fastRemove_b59b0, ze_Jx4a65c_fastRemove_b59b0⟩
abbrev mX2_putAtBottom : zMI := (yX2_putAtBottom, cX2_putAtBottom, 3, none)
theorem zc_X2_putAtBottom : Cond.code yX2_putAtBottom cX2_putAtBottom 3 none ∈ lwG := lwG_in (List.mem_of_getElem? (i := 294) (by decide +kernel)) rfl
theorem zmf_X2_putAtBottom : zMF mX2_putAtBottom 1 := ⟨zc_X2_putAtBottom, zi_RX2, by decide +kernel, by decide +kernel, by decide +kernel⟩
theorem zn_X2_putAtBottom : Cond.instanceMethod yX2_putAtBottom ∈ lwG := lwG_in (List.mem_of_getElem? (i := 293) (by decide +kernel)) rfl
theorem ze_X2_putAtBottom : Cond.selects RX2 yX2_putAtBottom yX2_putAtBottom ∈ lwG := lwG_in (List.mem_of_getElem? (i := 12) (by decide +kernel)) rfl
theorem zm_X2_putAtBottom : zMV mX2_putAtBottom 1 := ⟨zmf_X2_putAtBottom, zn_X2_putAtBottom, ze_X2_putAtBottom⟩
abbrev mJx4a65c_add_7a177 : zMI := (yJx4a65c_add_7a177, cJx4a65c_add_7a177, 5, none)
theorem zc_Jx4a65c_add_7a177 : Cond.code yJx4a65c_add_7a177 cJx4a65c_add_7a177 5 none ∈ lwG := lwG_in (List.mem_of_getElem? (i := 298) (by decide +kernel)) rfl
theorem zmf_Jx4a65c_add_7a177 : zMF mJx4a65c_add_7a177 2 := ⟨zc_Jx4a65c_add_7a177, zi_RJx4a65c, by decide +kernel, by decide +kernel, by decide +kernel⟩
theorem zn_Jx4a65c_add_7a177 : Cond.instanceMethod yJx4a65c_add_7a177 ∈ lwG := lwG_in (List.mem_of_getElem? (i := 296) (by decide +kernel)) rfl
theorem ze_Jx4a65c_add_7a177 : Cond.selects RJx4a65c yJx4a65c_add_7a177 yJx4a65c_add_7a177 ∈ lwG := lwG_in (List.mem_of_getElem? (i := 297) (by decide +kernel)) rfl
theorem zm_Jx4a65c_add_7a177 : zMV mJx4a65c_add_7a177 2 := ⟨zmf_Jx4a65c_add_7a177, zn_Jx4a65c_add_7a177, ze_Jx4a65c_add_7a177⟩
abbrev mJx4a65c_rangeCheckForAdd_d00df : zMI := (yJx4a65c_rangeCheckForAdd_d00df, cJx4a65c_rangeCheckForAdd_d00df, 2, none)
theorem zc_Jx4a65c_rangeCheckForAdd_d00df : Cond.code yJx4a65c_rangeCheckForAdd_d00df cJx4a65c_rangeCheckForAdd_d00df 2 none ∈ lwG := lwG_in (List.mem_of_getElem? (i := 302) (by decide +kernel)) rfl
theorem zmf_Jx4a65c_rangeCheckForAdd_d00df : zMF mJx4a65c_rangeCheckForAdd_d00df 1 := ⟨zc_Jx4a65c_rangeCheckForAdd_d00df, zi_RJx4a65c, by decide +kernel, by decide +kernel, by decide +kernel⟩
theorem zn_Jx4a65c_rangeCheckForAdd_d00df : Cond.instanceMethod yJx4a65c_rangeCheckForAdd_d00df ∈ lwG := lwG_in (List.mem_of_getElem? (i := 301) (by decide +kernel)) rfl
theorem ze_Jx4a65c_rangeCheckForAdd_d00df : Cond.selects RJx4a65c yJx4a65c_rangeCheckForAdd_d00df yJx4a65c_rangeCheckForAdd_d00df ∈ lwG := lwG_in (List.mem_of_getElem? (i := 13) (by decide +kernel)) rfl
theorem zm_Jx4a65c_rangeCheckForAdd_d00df : zMV mJx4a65c_rangeCheckForAdd_d00df 1 := ⟨zmf_Jx4a65c_rangeCheckForAdd_d00df, zn_Jx4a65c_rangeCheckForAdd_d00df, ze_Jx4a65c_rangeCheckForAdd_d00df⟩
abbrev mX0_addWorker : zMI := (yX0_addWorker, cX0_addWorker, 3, none)
theorem zc_X0_addWorker : Cond.code yX0_addWorker cX0_addWorker 3 none ∈ lwG := lwG_in (List.mem_of_getElem? (i := 306) (by decide +kernel)) rfl
theorem zmf_X0_addWorker : zMF mX0_addWorker 1 := ⟨zc_X0_addWorker, zi_RX0, by decide +kernel, by decide +kernel, by decide +kernel⟩
theorem zn_X0_addWorker : Cond.instanceMethod yX0_addWorker ∈ lwG := lwG_in (List.mem_of_getElem? (i := 304) (by decide +kernel)) rfl
theorem ze_X0_addWorker : Cond.selects RX0 yX0_addWorker yX0_addWorker ∈ lwG := lwG_in (List.mem_of_getElem? (i := 305) (by decide +kernel)) rfl
theorem zm_X0_addWorker : zMV mX0_addWorker 1 := ⟨zmf_X0_addWorker, zn_X0_addWorker, ze_X0_addWorker⟩
abbrev mX2_placeTaken : zMI := (yX2_placeTaken, cX2_placeTaken, 4, none)
theorem zc_X2_placeTaken : Cond.code yX2_placeTaken cX2_placeTaken 4 none ∈ lwG := lwG_in (List.mem_of_getElem? (i := 310) (by decide +kernel)) rfl
theorem zmf_X2_placeTaken : zMF mX2_placeTaken 0 := ⟨zc_X2_placeTaken, zi_RX2, by decide +kernel, by decide +kernel, by decide +kernel⟩
theorem zn_X2_placeTaken : Cond.instanceMethod yX2_placeTaken ∈ lwG := lwG_in (List.mem_of_getElem? (i := 309) (by decide +kernel)) rfl
theorem ze_X2_placeTaken : Cond.selects RX2 yX2_placeTaken yX2_placeTaken ∈ lwG := lwG_in (List.mem_of_getElem? (i := 14) (by decide +kernel)) rfl
theorem zm_X2_placeTaken : zMV mX2_placeTaken 0 := ⟨zmf_X2_placeTaken, zn_X2_placeTaken, ze_X2_placeTaken⟩
abbrev mX0_removeWorker : zMI := (yX0_removeWorker, cX0_removeWorker, 3, none)
theorem zc_X0_removeWorker : Cond.code yX0_removeWorker cX0_removeWorker 3 none ∈ lwG := lwG_in (List.mem_of_getElem? (i := 314) (by decide +kernel)) rfl
theorem zmf_X0_removeWorker : zMF mX0_removeWorker 1 := ⟨zc_X0_removeWorker, zi_RX0, by decide +kernel, by decide +kernel, by decide +kernel⟩
theorem zn_X0_removeWorker : Cond.instanceMethod yX0_removeWorker ∈ lwG := lwG_in (List.mem_of_getElem? (i := 312) (by decide +kernel)) rfl
theorem ze_X0_removeWorker : Cond.selects RX0 yX0_removeWorker yX0_removeWorker ∈ lwG := lwG_in (List.mem_of_getElem? (i := 313) (by decide +kernel)) rfl
theorem zm_X0_removeWorker : zMV mX0_removeWorker 1 := ⟨zmf_X0_removeWorker, zn_X0_removeWorker, ze_X0_removeWorker⟩
abbrev mX2_lowestPlaceFor : zMI := (yX2_lowestPlaceFor, cX2_lowestPlaceFor, 4, (some .int))
theorem zc_X2_lowestPlaceFor : Cond.code yX2_lowestPlaceFor cX2_lowestPlaceFor 4 (some .int) ∈ lwG := lwG_in (List.mem_of_getElem? (i := 318) (by decide +kernel)) rfl
theorem zmf_X2_lowestPlaceFor : zMF mX2_lowestPlaceFor 1 := ⟨zc_X2_lowestPlaceFor, zi_RX2, by decide +kernel, by decide +kernel, by decide +kernel⟩
theorem zn_X2_lowestPlaceFor : Cond.instanceMethod yX2_lowestPlaceFor ∈ lwG := lwG_in (List.mem_of_getElem? (i := 317) (by decide +kernel)) rfl
theorem ze_X2_lowestPlaceFor : Cond.selects RX2 yX2_lowestPlaceFor yX2_lowestPlaceFor ∈ lwG := lwG_in (List.mem_of_getElem? (i := 15) (by decide +kernel)) rfl
theorem zm_X2_lowestPlaceFor : zMV mX2_lowestPlaceFor 1 := ⟨zmf_X2_lowestPlaceFor, zn_X2_lowestPlaceFor, ze_X2_lowestPlaceFor⟩
abbrev mX1_hasSkill : zMI := (yX1_hasSkill, cX1_hasSkill, 2, (some .boolean))
theorem zc_X1_hasSkill : Cond.code yX1_hasSkill cX1_hasSkill 2 (some .boolean) ∈ lwG := lwG_in (List.mem_of_getElem? (i := 322) (by decide +kernel)) rfl
theorem zmf_X1_hasSkill : zMF mX1_hasSkill 1 := ⟨zc_X1_hasSkill, zi_RX1, by decide +kernel, by decide +kernel, by decide +kernel⟩
theorem zn_X1_hasSkill : Cond.instanceMethod yX1_hasSkill ∈ lwG := lwG_in (List.mem_of_getElem? (i := 320) (by decide +kernel)) rfl
theorem ze_X1_hasSkill : Cond.selects RX1 yX1_hasSkill yX1_hasSkill ∈ lwG := lwG_in (List.mem_of_getElem? (i := 321) (by decide +kernel)) rfl
theorem zm_X1_hasSkill : zMV mX1_hasSkill 1 := ⟨zmf_X1_hasSkill, zn_X1_hasSkill, ze_X1_hasSkill⟩
abbrev mX0_canSpare : zMI := (yX0_canSpare, cX0_canSpare, 3, (some .boolean))
theorem zc_X0_canSpare : Cond.code yX0_canSpare cX0_canSpare 3 (some .boolean) ∈ lwG := lwG_in (List.mem_of_getElem? (i := 326) (by decide +kernel)) rfl
theorem zmf_X0_canSpare : zMF mX0_canSpare 1 := ⟨zc_X0_canSpare, zi_RX0, by decide +kernel, by decide +kernel, by decide +kernel⟩
theorem zn_X0_canSpare : Cond.instanceMethod yX0_canSpare ∈ lwG := lwG_in (List.mem_of_getElem? (i := 324) (by decide +kernel)) rfl
theorem ze_X0_canSpare : Cond.selects RX0 yX0_canSpare yX0_canSpare ∈ lwG := lwG_in (List.mem_of_getElem? (i := 325) (by decide +kernel)) rfl
theorem zm_X0_canSpare : zMV mX0_canSpare 1 := ⟨zmf_X0_canSpare, zn_X0_canSpare, ze_X0_canSpare⟩
abbrev mX0_removePlace : zMI := (yX0_removePlace, cX0_removePlace, 3, none)
theorem zc_X0_removePlace : Cond.code yX0_removePlace cX0_removePlace 3 none ∈ lwG := lwG_in (List.mem_of_getElem? (i := 330) (by decide +kernel)) rfl
theorem zmf_X0_removePlace : zMF mX0_removePlace 1 := ⟨zc_X0_removePlace, zi_RX0, by decide +kernel, by decide +kernel, by decide +kernel⟩
theorem zn_X0_removePlace : Cond.instanceMethod yX0_removePlace ∈ lwG := lwG_in (List.mem_of_getElem? (i := 328) (by decide +kernel)) rfl
theorem ze_X0_removePlace : Cond.selects RX0 yX0_removePlace yX0_removePlace ∈ lwG := lwG_in (List.mem_of_getElem? (i := 329) (by decide +kernel)) rfl
theorem zm_X0_removePlace : zMV mX0_removePlace 1 := ⟨zmf_X0_removePlace, zn_X0_removePlace, ze_X0_removePlace⟩
abbrev mX2_startWork : zMI := (yX2_startWork, cX2_startWork, 3, none)
theorem zc_X2_startWork : Cond.code yX2_startWork cX2_startWork 3 none ∈ lwG := lwG_in (List.mem_of_getElem? (i := 334) (by decide +kernel)) rfl
theorem zmf_X2_startWork : zMF mX2_startWork 2 := ⟨zc_X2_startWork, zi_RX2, by decide +kernel, by decide +kernel, by decide +kernel⟩
theorem zn_X2_startWork : Cond.instanceMethod yX2_startWork ∈ lwG := lwG_in (List.mem_of_getElem? (i := 333) (by decide +kernel)) rfl
theorem ze_X2_startWork : Cond.selects RX2 yX2_startWork yX2_startWork ∈ lwG := lwG_in (List.mem_of_getElem? (i := 16) (by decide +kernel)) rfl
theorem zm_X2_startWork : zMV mX2_startWork 2 := ⟨zmf_X2_startWork, zn_X2_startWork, ze_X2_startWork⟩
abbrev mX2_endShift : zMI := (yX2_endShift, cX2_endShift, 4, (some .int))
theorem zc_X2_endShift : Cond.code yX2_endShift cX2_endShift 4 (some .int) ∈ lwG := lwG_in (List.mem_of_getElem? (i := 338) (by decide +kernel)) rfl
theorem zmf_X2_endShift : zMF mX2_endShift 0 := ⟨zc_X2_endShift, zi_RX2, by decide +kernel, by decide +kernel, by decide +kernel⟩
theorem zn_X2_endShift : Cond.instanceMethod yX2_endShift ∈ lwG := lwG_in (List.mem_of_getElem? (i := 336) (by decide +kernel)) rfl
theorem ze_X2_endShift : Cond.selects RX2 yX2_endShift yX2_endShift ∈ lwG := lwG_in (List.mem_of_getElem? (i := 337) (by decide +kernel)) rfl
theorem zm_X2_endShift : zMV mX2_endShift 0 := ⟨zmf_X2_endShift, zn_X2_endShift, ze_X2_endShift⟩
abbrev mX1_isAtWork : zMI := (yX1_isAtWork, cX1_isAtWork, 1, (some .boolean))
theorem zc_X1_isAtWork : Cond.code yX1_isAtWork cX1_isAtWork 1 (some .boolean) ∈ lwG := lwG_in (List.mem_of_getElem? (i := 342) (by decide +kernel)) rfl
theorem zmf_X1_isAtWork : zMF mX1_isAtWork 0 := ⟨zc_X1_isAtWork, zi_RX1, by decide +kernel, by decide +kernel, by decide +kernel⟩
theorem zn_X1_isAtWork : Cond.instanceMethod yX1_isAtWork ∈ lwG := lwG_in (List.mem_of_getElem? (i := 340) (by decide +kernel)) rfl
theorem ze_X1_isAtWork : Cond.selects RX1 yX1_isAtWork yX1_isAtWork ∈ lwG := lwG_in (List.mem_of_getElem? (i := 341) (by decide +kernel)) rfl
theorem zm_X1_isAtWork : zMV mX1_isAtWork 0 := ⟨zmf_X1_isAtWork, zn_X1_isAtWork, ze_X1_isAtWork⟩
abbrev mX1_stopWork : zMI := (yX1_stopWork, cX1_stopWork, 3, (some .int))
theorem zc_X1_stopWork : Cond.code yX1_stopWork cX1_stopWork 3 (some .int) ∈ lwG := lwG_in (List.mem_of_getElem? (i := 346) (by decide +kernel)) rfl
theorem zmf_X1_stopWork : zMF mX1_stopWork 1 := ⟨zc_X1_stopWork, zi_RX1, by decide +kernel, by decide +kernel, by decide +kernel⟩
theorem zn_X1_stopWork : Cond.instanceMethod yX1_stopWork ∈ lwG := lwG_in (List.mem_of_getElem? (i := 344) (by decide +kernel)) rfl
theorem ze_X1_stopWork : Cond.selects RX1 yX1_stopWork yX1_stopWork ∈ lwG := lwG_in (List.mem_of_getElem? (i := 345) (by decide +kernel)) rfl
theorem zm_X1_stopWork : zMV mX1_stopWork 1 := ⟨zmf_X1_stopWork, zn_X1_stopWork, ze_X1_stopWork⟩
abbrev mX2_workers : zMI := (yX2_workers, cX2_workers, 1, (some .int))
theorem zc_X2_workers : Cond.code yX2_workers cX2_workers 1 (some .int) ∈ lwG := lwG_in (List.mem_of_getElem? (i := 350) (by decide +kernel)) rfl
theorem zmf_X2_workers : zMF mX2_workers 0 := ⟨zc_X2_workers, zi_RX2, by decide +kernel, by decide +kernel, by decide +kernel⟩
theorem zn_X2_workers : Cond.instanceMethod yX2_workers ∈ lwG := lwG_in (List.mem_of_getElem? (i := 348) (by decide +kernel)) rfl
theorem ze_X2_workers : Cond.selects RX2 yX2_workers yX2_workers ∈ lwG := lwG_in (List.mem_of_getElem? (i := 349) (by decide +kernel)) rfl
theorem zm_X2_workers : zMV mX2_workers 0 := ⟨zmf_X2_workers, zn_X2_workers, ze_X2_workers⟩
abbrev mX2_places : zMI := (yX2_places, cX2_places, 1, (some .int))
theorem zc_X2_places : Cond.code yX2_places cX2_places 1 (some .int) ∈ lwG := lwG_in (List.mem_of_getElem? (i := 354) (by decide +kernel)) rfl
theorem zmf_X2_places : zMF mX2_places 0 := ⟨zc_X2_places, zi_RX2, by decide +kernel, by decide +kernel, by decide +kernel⟩
theorem zn_X2_places : Cond.instanceMethod yX2_places ∈ lwG := lwG_in (List.mem_of_getElem? (i := 352) (by decide +kernel)) rfl
theorem ze_X2_places : Cond.selects RX2 yX2_places yX2_places ∈ lwG := lwG_in (List.mem_of_getElem? (i := 353) (by decide +kernel)) rfl
theorem zm_X2_places : zMV mX2_places 0 := ⟨zmf_X2_places, zn_X2_places, ze_X2_places⟩
abbrev mX2_fillable : zMI := (yX2_fillable, cX2_fillable, 3, (some .int))
theorem zc_X2_fillable : Cond.code yX2_fillable cX2_fillable 3 (some .int) ∈ lwG := lwG_in (List.mem_of_getElem? (i := 358) (by decide +kernel)) rfl
theorem zmf_X2_fillable : zMF mX2_fillable 0 := ⟨zc_X2_fillable, zi_RX2, by decide +kernel, by decide +kernel, by decide +kernel⟩
theorem zn_X2_fillable : Cond.instanceMethod yX2_fillable ∈ lwG := lwG_in (List.mem_of_getElem? (i := 356) (by decide +kernel)) rfl
theorem ze_X2_fillable : Cond.selects RX2 yX2_fillable yX2_fillable ∈ lwG := lwG_in (List.mem_of_getElem? (i := 357) (by decide +kernel)) rfl
theorem zm_X2_fillable : zMV mX2_fillable 0 := ⟨zmf_X2_fillable, zn_X2_fillable, ze_X2_fillable⟩
abbrev mX0_mostPlaced : zMI := (yX0_mostPlaced, cX0_mostPlaced, 4, (some .int))
theorem zc_X0_mostPlaced : Cond.code yX0_mostPlaced cX0_mostPlaced 4 (some .int) ∈ lwG := lwG_in (List.mem_of_getElem? (i := 362) (by decide +kernel)) rfl
theorem zmf_X0_mostPlaced : zMF mX0_mostPlaced 0 := ⟨zc_X0_mostPlaced, zi_RX0, by decide +kernel, by decide +kernel, by decide +kernel⟩
theorem zn_X0_mostPlaced : Cond.instanceMethod yX0_mostPlaced ∈ lwG := lwG_in (List.mem_of_getElem? (i := 360) (by decide +kernel)) rfl
theorem ze_X0_mostPlaced : Cond.selects RX0 yX0_mostPlaced yX0_mostPlaced ∈ lwG := lwG_in (List.mem_of_getElem? (i := 361) (by decide +kernel)) rfl
theorem zm_X0_mostPlaced : zMV mX0_mostPlaced 0 := ⟨zmf_X0_mostPlaced, zn_X0_mostPlaced, ze_X0_mostPlaced⟩
abbrev mL_signOn : zMI := (yL_signOn, cL_signOn, 5, (some .int))
abbrev mX2_signOn : zMI := (yX2_signOn, cX2_signOn, 4, (some .int))
theorem zc_X2_signOn : Cond.code yX2_signOn cX2_signOn 4 (some .int) ∈ lwG := lwG_in (List.mem_of_getElem? (i := 372) (by decide +kernel)) rfl
theorem zmf_X2_signOn : zMF mX2_signOn 2 := ⟨zc_X2_signOn, zi_RX2, by decide +kernel, by decide +kernel, by decide +kernel⟩
theorem zn_X2_signOn : Cond.instanceMethod yX2_signOn ∈ lwG := lwG_in (List.mem_of_getElem? (i := 370) (by decide +kernel)) rfl
theorem ze_X2_signOn : Cond.selects RX2 yX2_signOn yX2_signOn ∈ lwG := lwG_in (List.mem_of_getElem? (i := 371) (by decide +kernel)) rfl
theorem zm_X2_signOn : zMV mX2_signOn 2 := ⟨zmf_X2_signOn, zn_X2_signOn, ze_X2_signOn⟩
abbrev mX2_checkBoard : zMI := (yX2_checkBoard, cX2_checkBoard, 1, none)
theorem zc_X2_checkBoard : Cond.code yX2_checkBoard cX2_checkBoard 1 none ∈ lwG := lwG_in (List.mem_of_getElem? (i := 375) (by decide +kernel)) rfl
theorem zmf_X2_checkBoard : zMF mX2_checkBoard 1 := ⟨zc_X2_checkBoard, zi_RX2, by decide +kernel, by decide +kernel, by decide +kernel⟩
theorem zs_X2_checkBoard : Cond.static yX2_checkBoard ∈ lwG := lwG_in (List.mem_of_getElem? (i := 374) (by decide +kernel)) rfl
theorem zm_X2_checkBoard : zMS mX2_checkBoard 1 := ⟨zmf_X2_checkBoard, zs_X2_checkBoard⟩
abbrev mX2_checkSkills : zMI := (yX2_checkSkills, cX2_checkSkills, 1, none)
theorem zc_X2_checkSkills : Cond.code yX2_checkSkills cX2_checkSkills 1 none ∈ lwG := lwG_in (List.mem_of_getElem? (i := 446) (by decide +kernel)) rfl
theorem zmf_X2_checkSkills : zMF mX2_checkSkills 1 := ⟨zc_X2_checkSkills, zi_RX2, by decide +kernel, by decide +kernel, by decide +kernel⟩
theorem zs_X2_checkSkills : Cond.static yX2_checkSkills ∈ lwG := lwG_in (List.mem_of_getElem? (i := 445) (by decide +kernel)) rfl
theorem zm_X2_checkSkills : zMS mX2_checkSkills 1 := ⟨zmf_X2_checkSkills, zs_X2_checkSkills⟩
abbrev mX1_init : zMI := (yX1_init, cX1_init, 4, none)
theorem zc_X1_init : Cond.code yX1_init cX1_init 4 none ∈ lwG := lwG_in (List.mem_of_getElem? (i := 467) (by decide +kernel)) rfl
theorem zmf_X1_init : zMF mX1_init 3 := ⟨zc_X1_init, zi_RX1, by decide +kernel, by decide +kernel, by decide +kernel⟩
theorem zn_X1_init : Cond.instanceMethod yX1_init ∈ lwG := lwG_in (List.mem_of_getElem? (i := 466) (by decide +kernel)) rfl
theorem zm_X1_init : zMC mX1_init 3 := ⟨zmf_X1_init, zn_X1_init, rfl, rfl⟩
abbrev mL_signOff : zMI := (yL_signOff, cL_signOff, 4, (some .int))
abbrev mX2_signOff : zMI := (yX2_signOff, cX2_signOff, 3, (some .int))
theorem zc_X2_signOff : Cond.code yX2_signOff cX2_signOff 3 (some .int) ∈ lwG := lwG_in (List.mem_of_getElem? (i := 517) (by decide +kernel)) rfl
theorem zmf_X2_signOff : zMF mX2_signOff 1 := ⟨zc_X2_signOff, zi_RX2, by decide +kernel, by decide +kernel, by decide +kernel⟩
theorem zn_X2_signOff : Cond.instanceMethod yX2_signOff ∈ lwG := lwG_in (List.mem_of_getElem? (i := 515) (by decide +kernel)) rfl
theorem ze_X2_signOff : Cond.selects RX2 yX2_signOff yX2_signOff ∈ lwG := lwG_in (List.mem_of_getElem? (i := 516) (by decide +kernel)) rfl
theorem zm_X2_signOff : zMV mX2_signOff 1 := ⟨zmf_X2_signOff, zn_X2_signOff, ze_X2_signOff⟩
abbrev mX2_find : zMI := (yX2_find, cX2_find, 4, (some (.object "HiringHall$Worker")))
theorem zc_X2_find : Cond.code yX2_find cX2_find 4 (some (.object "HiringHall$Worker")) ∈ lwG := lwG_in (List.mem_of_getElem? (i := 521) (by decide +kernel)) rfl
theorem zmf_X2_find : zMF mX2_find 1 := ⟨zc_X2_find, zi_RX2, by decide +kernel, by decide +kernel, by decide +kernel⟩
theorem zn_X2_find : Cond.instanceMethod yX2_find ∈ lwG := lwG_in (List.mem_of_getElem? (i := 520) (by decide +kernel)) rfl
theorem ze_X2_find : Cond.selects RX2 yX2_find yX2_find ∈ lwG := lwG_in (List.mem_of_getElem? (i := 18) (by decide +kernel)) rfl
theorem zm_X2_find : zMV mX2_find 1 := ⟨zmf_X2_find, zn_X2_find, ze_X2_find⟩
abbrev mX2_checkNotAtWork : zMI := (yX2_checkNotAtWork, cX2_checkNotAtWork, 1, none)
theorem zc_X2_checkNotAtWork : Cond.code yX2_checkNotAtWork cX2_checkNotAtWork 1 none ∈ lwG := lwG_in (List.mem_of_getElem? (i := 540) (by decide +kernel)) rfl
theorem zmf_X2_checkNotAtWork : zMF mX2_checkNotAtWork 1 := ⟨zc_X2_checkNotAtWork, zi_RX2, by decide +kernel, by decide +kernel, by decide +kernel⟩
theorem zs_X2_checkNotAtWork : Cond.static yX2_checkNotAtWork ∈ lwG := lwG_in (List.mem_of_getElem? (i := 539) (by decide +kernel)) rfl
theorem zm_X2_checkNotAtWork : zMS mX2_checkNotAtWork 1 := ⟨zmf_X2_checkNotAtWork, zs_X2_checkNotAtWork⟩
abbrev mL_setSkills : zMI := (yL_setSkills, cL_setSkills, 5, (some .int))
abbrev mX2_setSkills : zMI := (yX2_setSkills, cX2_setSkills, 5, (some .int))
theorem zc_X2_setSkills : Cond.code yX2_setSkills cX2_setSkills 5 (some .int) ∈ lwG := lwG_in (List.mem_of_getElem? (i := 548) (by decide +kernel)) rfl
theorem zmf_X2_setSkills : zMF mX2_setSkills 2 := ⟨zc_X2_setSkills, zi_RX2, by decide +kernel, by decide +kernel, by decide +kernel⟩
theorem zn_X2_setSkills : Cond.instanceMethod yX2_setSkills ∈ lwG := lwG_in (List.mem_of_getElem? (i := 546) (by decide +kernel)) rfl
theorem ze_X2_setSkills : Cond.selects RX2 yX2_setSkills yX2_setSkills ∈ lwG := lwG_in (List.mem_of_getElem? (i := 547) (by decide +kernel)) rfl
theorem zm_X2_setSkills : zMV mX2_setSkills 2 := ⟨zmf_X2_setSkills, zn_X2_setSkills, ze_X2_setSkills⟩
abbrev mL_move : zMI := (yL_move, cL_move, 5, (some .int))
abbrev mX2_move : zMI := (yX2_move, cX2_move, 5, (some .int))
theorem zc_X2_move : Cond.code yX2_move cX2_move 5 (some .int) ∈ lwG := lwG_in (List.mem_of_getElem? (i := 555) (by decide +kernel)) rfl
theorem zmf_X2_move : zMF mX2_move 2 := ⟨zc_X2_move, zi_RX2, by decide +kernel, by decide +kernel, by decide +kernel⟩
theorem zn_X2_move : Cond.instanceMethod yX2_move ∈ lwG := lwG_in (List.mem_of_getElem? (i := 553) (by decide +kernel)) rfl
theorem ze_X2_move : Cond.selects RX2 yX2_move yX2_move ∈ lwG := lwG_in (List.mem_of_getElem? (i := 554) (by decide +kernel)) rfl
theorem zm_X2_move : zMV mX2_move 2 := ⟨zmf_X2_move, zn_X2_move, ze_X2_move⟩
abbrev mL_setAway : zMI := (yL_setAway, cL_setAway, 5, (some .int))
abbrev mX2_setAway : zMI := (yX2_setAway, cX2_setAway, 5, (some .boolean))
theorem zc_X2_setAway : Cond.code yX2_setAway cX2_setAway 5 (some .boolean) ∈ lwG := lwG_in (List.mem_of_getElem? (i := 562) (by decide +kernel)) rfl
theorem zmf_X2_setAway : zMF mX2_setAway 2 := ⟨zc_X2_setAway, zi_RX2, by decide +kernel, by decide +kernel, by decide +kernel⟩
theorem zn_X2_setAway : Cond.instanceMethod yX2_setAway ∈ lwG := lwG_in (List.mem_of_getElem? (i := 560) (by decide +kernel)) rfl
theorem ze_X2_setAway : Cond.selects RX2 yX2_setAway yX2_setAway ∈ lwG := lwG_in (List.mem_of_getElem? (i := 561) (by decide +kernel)) rfl
theorem zm_X2_setAway : zMV mX2_setAway 2 := ⟨zmf_X2_setAway, zn_X2_setAway, ze_X2_setAway⟩
abbrev mL_setRefusing : zMI := (yL_setRefusing, cL_setRefusing, 5, (some .int))
abbrev mX2_setRefusing : zMI := (yX2_setRefusing, cX2_setRefusing, 5, (some .boolean))
theorem zc_X2_setRefusing : Cond.code yX2_setRefusing cX2_setRefusing 5 (some .boolean) ∈ lwG := lwG_in (List.mem_of_getElem? (i := 569) (by decide +kernel)) rfl
theorem zmf_X2_setRefusing : zMF mX2_setRefusing 2 := ⟨zc_X2_setRefusing, zi_RX2, by decide +kernel, by decide +kernel, by decide +kernel⟩
theorem zn_X2_setRefusing : Cond.instanceMethod yX2_setRefusing ∈ lwG := lwG_in (List.mem_of_getElem? (i := 567) (by decide +kernel)) rfl
theorem ze_X2_setRefusing : Cond.selects RX2 yX2_setRefusing yX2_setRefusing ∈ lwG := lwG_in (List.mem_of_getElem? (i := 568) (by decide +kernel)) rfl
theorem zm_X2_setRefusing : zMV mX2_setRefusing 2 := ⟨zmf_X2_setRefusing, zn_X2_setRefusing, ze_X2_setRefusing⟩
abbrev mL_setRule : zMI := (yL_setRule, cL_setRule, 6, (some .int))
abbrev mX2_setRule : zMI := (yX2_setRule, cX2_setRule, 5, (some .int))
theorem zc_X2_setRule : Cond.code yX2_setRule cX2_setRule 5 (some .int) ∈ lwG := lwG_in (List.mem_of_getElem? (i := 576) (by decide +kernel)) rfl
theorem zmf_X2_setRule : zMF mX2_setRule 3 := ⟨zc_X2_setRule, zi_RX2, by decide +kernel, by decide +kernel, by decide +kernel⟩
theorem zn_X2_setRule : Cond.instanceMethod yX2_setRule ∈ lwG := lwG_in (List.mem_of_getElem? (i := 574) (by decide +kernel)) rfl
theorem ze_X2_setRule : Cond.selects RX2 yX2_setRule yX2_setRule ∈ lwG := lwG_in (List.mem_of_getElem? (i := 575) (by decide +kernel)) rfl
theorem zm_X2_setRule : zMV mX2_setRule 3 := ⟨zmf_X2_setRule, zn_X2_setRule, ze_X2_setRule⟩
abbrev mL_equalise : zMI := (yL_equalise, cL_equalise, 4, (some .int))
abbrev mX2_equalise : zMI := (yX2_equalise, cX2_equalise, 3, (some .int))
theorem zc_X2_equalise : Cond.code yX2_equalise cX2_equalise 3 (some .int) ∈ lwG := lwG_in (List.mem_of_getElem? (i := 584) (by decide +kernel)) rfl
theorem zmf_X2_equalise : zMF mX2_equalise 1 := ⟨zc_X2_equalise, zi_RX2, by decide +kernel, by decide +kernel, by decide +kernel⟩
theorem zn_X2_equalise : Cond.instanceMethod yX2_equalise ∈ lwG := lwG_in (List.mem_of_getElem? (i := 582) (by decide +kernel)) rfl
theorem ze_X2_equalise : Cond.selects RX2 yX2_equalise yX2_equalise ∈ lwG := lwG_in (List.mem_of_getElem? (i := 583) (by decide +kernel)) rfl
theorem zm_X2_equalise : zMV mX2_equalise 1 := ⟨zmf_X2_equalise, zn_X2_equalise, ze_X2_equalise⟩
abbrev mX2_riseByHours : zMI := (yX2_riseByHours, cX2_riseByHours, 5, none)
theorem zc_X2_riseByHours : Cond.code yX2_riseByHours cX2_riseByHours 5 none ∈ lwG := lwG_in (List.mem_of_getElem? (i := 588) (by decide +kernel)) rfl
theorem zmf_X2_riseByHours : zMF mX2_riseByHours 1 := ⟨zc_X2_riseByHours, zi_RX2, by decide +kernel, by decide +kernel, by decide +kernel⟩
theorem zn_X2_riseByHours : Cond.instanceMethod yX2_riseByHours ∈ lwG := lwG_in (List.mem_of_getElem? (i := 587) (by decide +kernel)) rfl
theorem ze_X2_riseByHours : Cond.selects RX2 yX2_riseByHours yX2_riseByHours ∈ lwG := lwG_in (List.mem_of_getElem? (i := 19) (by decide +kernel)) rfl
theorem zm_X2_riseByHours : zMV mX2_riseByHours 1 := ⟨zmf_X2_riseByHours, zn_X2_riseByHours, ze_X2_riseByHours⟩
abbrev mJx4a65c_set_bcc79 : zMI := (yJx4a65c_set_bcc79, cJx4a65c_set_bcc79, 4, (some (.object "java/lang/Object")))
theorem zc_Jx4a65c_set_bcc79 : Cond.code yJx4a65c_set_bcc79 cJx4a65c_set_bcc79 4 (some (.object "java/lang/Object")) ∈ lwG := lwG_in (List.mem_of_getElem? (i := 592) (by decide +kernel)) rfl
theorem zmf_Jx4a65c_set_bcc79 : zMF mJx4a65c_set_bcc79 2 := ⟨zc_Jx4a65c_set_bcc79, zi_RJx4a65c, by decide +kernel, by decide +kernel, by decide +kernel⟩
theorem zn_Jx4a65c_set_bcc79 : Cond.instanceMethod yJx4a65c_set_bcc79 ∈ lwG := lwG_in (List.mem_of_getElem? (i := 590) (by decide +kernel)) rfl
theorem ze_Jx4a65c_set_bcc79 : Cond.selects RJx4a65c yJx4a65c_set_bcc79 yJx4a65c_set_bcc79 ∈ lwG := lwG_in (List.mem_of_getElem? (i := 591) (by decide +kernel)) rfl
theorem zm_Jx4a65c_set_bcc79 : zMV mJx4a65c_set_bcc79 2 := ⟨zmf_Jx4a65c_set_bcc79, zn_Jx4a65c_set_bcc79, ze_Jx4a65c_set_bcc79⟩
abbrev mX2_countDisplaced : zMI := (yX2_countDisplaced, cX2_countDisplaced, 3, (some .int))
theorem zc_X2_countDisplaced : Cond.code yX2_countDisplaced cX2_countDisplaced 3 (some .int) ∈ lwG := lwG_in (List.mem_of_getElem? (i := 596) (by decide +kernel)) rfl
theorem zmf_X2_countDisplaced : zMF mX2_countDisplaced 0 := ⟨zc_X2_countDisplaced, zi_RX2, by decide +kernel, by decide +kernel, by decide +kernel⟩
theorem zn_X2_countDisplaced : Cond.instanceMethod yX2_countDisplaced ∈ lwG := lwG_in (List.mem_of_getElem? (i := 595) (by decide +kernel)) rfl
theorem ze_X2_countDisplaced : Cond.selects RX2 yX2_countDisplaced yX2_countDisplaced ∈ lwG := lwG_in (List.mem_of_getElem? (i := 20) (by decide +kernel)) rfl
theorem zm_X2_countDisplaced : zMV mX2_countDisplaced 0 := ⟨zmf_X2_countDisplaced, zn_X2_countDisplaced, ze_X2_countDisplaced⟩
abbrev mL_order : zMI := (yL_order, cL_order, 4, (some .int))
abbrev mX2_order : zMI := (yX2_order, cX2_order, 3, (some .int))
theorem zc_X2_order : Cond.code yX2_order cX2_order 3 (some .int) ∈ lwG := lwG_in (List.mem_of_getElem? (i := 603) (by decide +kernel)) rfl
theorem zmf_X2_order : zMF mX2_order 1 := ⟨zc_X2_order, zi_RX2, by decide +kernel, by decide +kernel, by decide +kernel⟩
theorem zn_X2_order : Cond.instanceMethod yX2_order ∈ lwG := lwG_in (List.mem_of_getElem? (i := 601) (by decide +kernel)) rfl
theorem ze_X2_order : Cond.selects RX2 yX2_order yX2_order ∈ lwG := lwG_in (List.mem_of_getElem? (i := 602) (by decide +kernel)) rfl
theorem zm_X2_order : zMV mX2_order 1 := ⟨zmf_X2_order, zn_X2_order, ze_X2_order⟩
abbrev mL_setHours : zMI := (yL_setHours, cL_setHours, 4, (some .int))
abbrev mX2_setHours : zMI := (yX2_setHours, cX2_setHours, 3, (some .int))
theorem zc_X2_setHours : Cond.code yX2_setHours cX2_setHours 3 (some .int) ∈ lwG := lwG_in (List.mem_of_getElem? (i := 612) (by decide +kernel)) rfl
theorem zmf_X2_setHours : zMF mX2_setHours 1 := ⟨zc_X2_setHours, zi_RX2, by decide +kernel, by decide +kernel, by decide +kernel⟩
theorem zn_X2_setHours : Cond.instanceMethod yX2_setHours ∈ lwG := lwG_in (List.mem_of_getElem? (i := 610) (by decide +kernel)) rfl
theorem ze_X2_setHours : Cond.selects RX2 yX2_setHours yX2_setHours ∈ lwG := lwG_in (List.mem_of_getElem? (i := 611) (by decide +kernel)) rfl
theorem zm_X2_setHours : zMV mX2_setHours 1 := ⟨zmf_X2_setHours, zn_X2_setHours, ze_X2_setHours⟩
abbrev mX2_checkWorkHasNotBegun : zMI := (yX2_checkWorkHasNotBegun, cX2_checkWorkHasNotBegun, 1, none)
theorem zc_X2_checkWorkHasNotBegun : Cond.code yX2_checkWorkHasNotBegun cX2_checkWorkHasNotBegun 1 none ∈ lwG := lwG_in (List.mem_of_getElem? (i := 617) (by decide +kernel)) rfl
theorem zmf_X2_checkWorkHasNotBegun : zMF mX2_checkWorkHasNotBegun 0 := ⟨zc_X2_checkWorkHasNotBegun, zi_RX2, by decide +kernel, by decide +kernel, by decide +kernel⟩
theorem zn_X2_checkWorkHasNotBegun : Cond.instanceMethod yX2_checkWorkHasNotBegun ∈ lwG := lwG_in (List.mem_of_getElem? (i := 616) (by decide +kernel)) rfl
theorem ze_X2_checkWorkHasNotBegun : Cond.selects RX2 yX2_checkWorkHasNotBegun yX2_checkWorkHasNotBegun ∈ lwG := lwG_in (List.mem_of_getElem? (i := 21) (by decide +kernel)) rfl
theorem zm_X2_checkWorkHasNotBegun : zMV mX2_checkWorkHasNotBegun 0 := ⟨zmf_X2_checkWorkHasNotBegun, zn_X2_checkWorkHasNotBegun, ze_X2_checkWorkHasNotBegun⟩
abbrev mL_leave : zMI := (yL_leave, cL_leave, 5, (some .int))
abbrev mX2_leave : zMI := (yX2_leave, cX2_leave, 5, (some .int))
theorem zc_X2_leave : Cond.code yX2_leave cX2_leave 5 (some .int) ∈ lwG := lwG_in (List.mem_of_getElem? (i := 625) (by decide +kernel)) rfl
theorem zmf_X2_leave : zMF mX2_leave 2 := ⟨zc_X2_leave, zi_RX2, by decide +kernel, by decide +kernel, by decide +kernel⟩
theorem zn_X2_leave : Cond.instanceMethod yX2_leave ∈ lwG := lwG_in (List.mem_of_getElem? (i := 623) (by decide +kernel)) rfl
theorem ze_X2_leave : Cond.selects RX2 yX2_leave yX2_leave ∈ lwG := lwG_in (List.mem_of_getElem? (i := 624) (by decide +kernel)) rfl
theorem zm_X2_leave : zMV mX2_leave 2 := ⟨zmf_X2_leave, zn_X2_leave, ze_X2_leave⟩
abbrev mL_replace : zMI := (yL_replace, cL_replace, 4, (some .int))
abbrev mX2_replace : zMI := (yX2_replace, cX2_replace, 5, (some .int))
theorem zc_X2_replace : Cond.code yX2_replace cX2_replace 5 (some .int) ∈ lwG := lwG_in (List.mem_of_getElem? (i := 634) (by decide +kernel)) rfl
theorem zmf_X2_replace : zMF mX2_replace 1 := ⟨zc_X2_replace, zi_RX2, by decide +kernel, by decide +kernel, by decide +kernel⟩
theorem zn_X2_replace : Cond.instanceMethod yX2_replace ∈ lwG := lwG_in (List.mem_of_getElem? (i := 632) (by decide +kernel)) rfl
theorem ze_X2_replace : Cond.selects RX2 yX2_replace yX2_replace ∈ lwG := lwG_in (List.mem_of_getElem? (i := 633) (by decide +kernel)) rfl
theorem zm_X2_replace : zMV mX2_replace 1 := ⟨zmf_X2_replace, zn_X2_replace, ze_X2_replace⟩
abbrev mX2_checkPlace : zMI := (yX2_checkPlace, cX2_checkPlace, 2, none)
theorem zc_X2_checkPlace : Cond.code yX2_checkPlace cX2_checkPlace 2 none ∈ lwG := lwG_in (List.mem_of_getElem? (i := 638) (by decide +kernel)) rfl
theorem zmf_X2_checkPlace : zMF mX2_checkPlace 1 := ⟨zc_X2_checkPlace, zi_RX2, by decide +kernel, by decide +kernel, by decide +kernel⟩
theorem zn_X2_checkPlace : Cond.instanceMethod yX2_checkPlace ∈ lwG := lwG_in (List.mem_of_getElem? (i := 637) (by decide +kernel)) rfl
theorem ze_X2_checkPlace : Cond.selects RX2 yX2_checkPlace yX2_checkPlace ∈ lwG := lwG_in (List.mem_of_getElem? (i := 22) (by decide +kernel)) rfl
theorem zm_X2_checkPlace : zMV mX2_checkPlace 1 := ⟨zmf_X2_checkPlace, zn_X2_checkPlace, ze_X2_checkPlace⟩
abbrev mL_endPeriod : zMI := (yL_endPeriod, cL_endPeriod, 3, (some .int))
abbrev mX2_endPeriod : zMI := (yX2_endPeriod, cX2_endPeriod, 4, (some .int))
theorem zc_X2_endPeriod : Cond.code yX2_endPeriod cX2_endPeriod 4 (some .int) ∈ lwG := lwG_in (List.mem_of_getElem? (i := 647) (by decide +kernel)) rfl
theorem zmf_X2_endPeriod : zMF mX2_endPeriod 0 := ⟨zc_X2_endPeriod, zi_RX2, by decide +kernel, by decide +kernel, by decide +kernel⟩
theorem zn_X2_endPeriod : Cond.instanceMethod yX2_endPeriod ∈ lwG := lwG_in (List.mem_of_getElem? (i := 645) (by decide +kernel)) rfl
theorem ze_X2_endPeriod : Cond.selects RX2 yX2_endPeriod yX2_endPeriod ∈ lwG := lwG_in (List.mem_of_getElem? (i := 646) (by decide +kernel)) rfl
theorem zm_X2_endPeriod : zMV mX2_endPeriod 0 := ⟨zmf_X2_endPeriod, zn_X2_endPeriod, ze_X2_endPeriod⟩
abbrev mX2_hoursOwed : zMI := (yX2_hoursOwed, cX2_hoursOwed, 4, (some .int))
theorem zc_X2_hoursOwed : Cond.code yX2_hoursOwed cX2_hoursOwed 4 (some .int) ∈ lwG := lwG_in (List.mem_of_getElem? (i := 651) (by decide +kernel)) rfl
theorem zmf_X2_hoursOwed : zMF mX2_hoursOwed 1 := ⟨zc_X2_hoursOwed, zi_RX2, by decide +kernel, by decide +kernel, by decide +kernel⟩
theorem zn_X2_hoursOwed : Cond.instanceMethod yX2_hoursOwed ∈ lwG := lwG_in (List.mem_of_getElem? (i := 650) (by decide +kernel)) rfl
theorem ze_X2_hoursOwed : Cond.selects RX2 yX2_hoursOwed yX2_hoursOwed ∈ lwG := lwG_in (List.mem_of_getElem? (i := 23) (by decide +kernel)) rfl
theorem zm_X2_hoursOwed : zMV mX2_hoursOwed 1 := ⟨zmf_X2_hoursOwed, zn_X2_hoursOwed, ze_X2_hoursOwed⟩
abbrev mL_boardOf : zMI := (yL_boardOf, cL_boardOf, 4, (some .int))
abbrev mX2_boardOf : zMI := (yX2_boardOf, cX2_boardOf, 2, (some .int))
theorem zc_X2_boardOf : Cond.code yX2_boardOf cX2_boardOf 2 (some .int) ∈ lwG := lwG_in (List.mem_of_getElem? (i := 658) (by decide +kernel)) rfl
theorem zmf_X2_boardOf : zMF mX2_boardOf 1 := ⟨zc_X2_boardOf, zi_RX2, by decide +kernel, by decide +kernel, by decide +kernel⟩
theorem zn_X2_boardOf : Cond.instanceMethod yX2_boardOf ∈ lwG := lwG_in (List.mem_of_getElem? (i := 656) (by decide +kernel)) rfl
theorem ze_X2_boardOf : Cond.selects RX2 yX2_boardOf yX2_boardOf ∈ lwG := lwG_in (List.mem_of_getElem? (i := 657) (by decide +kernel)) rfl
theorem zm_X2_boardOf : zMV mX2_boardOf 1 := ⟨zmf_X2_boardOf, zn_X2_boardOf, ze_X2_boardOf⟩
abbrev mL_rankOf : zMI := (yL_rankOf, cL_rankOf, 4, (some .int))
abbrev mX2_rankOf : zMI := (yX2_rankOf, cX2_rankOf, 5, (some .int))
theorem zc_X2_rankOf : Cond.code yX2_rankOf cX2_rankOf 5 (some .int) ∈ lwG := lwG_in (List.mem_of_getElem? (i := 665) (by decide +kernel)) rfl
theorem zmf_X2_rankOf : zMF mX2_rankOf 1 := ⟨zc_X2_rankOf, zi_RX2, by decide +kernel, by decide +kernel, by decide +kernel⟩
theorem zn_X2_rankOf : Cond.instanceMethod yX2_rankOf ∈ lwG := lwG_in (List.mem_of_getElem? (i := 663) (by decide +kernel)) rfl
theorem ze_X2_rankOf : Cond.selects RX2 yX2_rankOf yX2_rankOf ∈ lwG := lwG_in (List.mem_of_getElem? (i := 664) (by decide +kernel)) rfl
theorem zm_X2_rankOf : zMV mX2_rankOf 1 := ⟨zmf_X2_rankOf, zn_X2_rankOf, ze_X2_rankOf⟩
abbrev mL_hoursOf : zMI := (yL_hoursOf, cL_hoursOf, 4, (some .int))
abbrev mX2_hoursOf : zMI := (yX2_hoursOf, cX2_hoursOf, 2, (some .int))
theorem zc_X2_hoursOf : Cond.code yX2_hoursOf cX2_hoursOf 2 (some .int) ∈ lwG := lwG_in (List.mem_of_getElem? (i := 672) (by decide +kernel)) rfl
theorem zmf_X2_hoursOf : zMF mX2_hoursOf 1 := ⟨zc_X2_hoursOf, zi_RX2, by decide +kernel, by decide +kernel, by decide +kernel⟩
theorem zn_X2_hoursOf : Cond.instanceMethod yX2_hoursOf ∈ lwG := lwG_in (List.mem_of_getElem? (i := 670) (by decide +kernel)) rfl
theorem ze_X2_hoursOf : Cond.selects RX2 yX2_hoursOf yX2_hoursOf ∈ lwG := lwG_in (List.mem_of_getElem? (i := 671) (by decide +kernel)) rfl
theorem zm_X2_hoursOf : zMV mX2_hoursOf 1 := ⟨zmf_X2_hoursOf, zn_X2_hoursOf, ze_X2_hoursOf⟩
abbrev mL_refusalsOf : zMI := (yL_refusalsOf, cL_refusalsOf, 4, (some .int))
abbrev mX2_refusalsOf : zMI := (yX2_refusalsOf, cX2_refusalsOf, 2, (some .int))
theorem zc_X2_refusalsOf : Cond.code yX2_refusalsOf cX2_refusalsOf 2 (some .int) ∈ lwG := lwG_in (List.mem_of_getElem? (i := 679) (by decide +kernel)) rfl
theorem zmf_X2_refusalsOf : zMF mX2_refusalsOf 1 := ⟨zc_X2_refusalsOf, zi_RX2, by decide +kernel, by decide +kernel, by decide +kernel⟩
theorem zn_X2_refusalsOf : Cond.instanceMethod yX2_refusalsOf ∈ lwG := lwG_in (List.mem_of_getElem? (i := 677) (by decide +kernel)) rfl
theorem ze_X2_refusalsOf : Cond.selects RX2 yX2_refusalsOf yX2_refusalsOf ∈ lwG := lwG_in (List.mem_of_getElem? (i := 678) (by decide +kernel)) rfl
theorem zm_X2_refusalsOf : zMV mX2_refusalsOf 1 := ⟨zmf_X2_refusalsOf, zn_X2_refusalsOf, ze_X2_refusalsOf⟩
abbrev mL_placeOf : zMI := (yL_placeOf, cL_placeOf, 4, (some .int))
abbrev mX2_placeOf : zMI := (yX2_placeOf, cX2_placeOf, 2, (some .int))
theorem zc_X2_placeOf : Cond.code yX2_placeOf cX2_placeOf 2 (some .int) ∈ lwG := lwG_in (List.mem_of_getElem? (i := 686) (by decide +kernel)) rfl
theorem zmf_X2_placeOf : zMF mX2_placeOf 1 := ⟨zc_X2_placeOf, zi_RX2, by decide +kernel, by decide +kernel, by decide +kernel⟩
theorem zn_X2_placeOf : Cond.instanceMethod yX2_placeOf ∈ lwG := lwG_in (List.mem_of_getElem? (i := 684) (by decide +kernel)) rfl
theorem ze_X2_placeOf : Cond.selects RX2 yX2_placeOf yX2_placeOf ∈ lwG := lwG_in (List.mem_of_getElem? (i := 685) (by decide +kernel)) rfl
theorem zm_X2_placeOf : zMV mX2_placeOf 1 := ⟨zmf_X2_placeOf, zn_X2_placeOf, ze_X2_placeOf⟩
abbrev mL_owedTo : zMI := (yL_owedTo, cL_owedTo, 4, (some .int))
abbrev mX2_owedTo : zMI := (yX2_owedTo, cX2_owedTo, 2, (some .int))
theorem zc_X2_owedTo : Cond.code yX2_owedTo cX2_owedTo 2 (some .int) ∈ lwG := lwG_in (List.mem_of_getElem? (i := 693) (by decide +kernel)) rfl
theorem zmf_X2_owedTo : zMF mX2_owedTo 1 := ⟨zc_X2_owedTo, zi_RX2, by decide +kernel, by decide +kernel, by decide +kernel⟩
theorem zn_X2_owedTo : Cond.instanceMethod yX2_owedTo ∈ lwG := lwG_in (List.mem_of_getElem? (i := 691) (by decide +kernel)) rfl
theorem ze_X2_owedTo : Cond.selects RX2 yX2_owedTo yX2_owedTo ∈ lwG := lwG_in (List.mem_of_getElem? (i := 692) (by decide +kernel)) rfl
theorem zm_X2_owedTo : zMV mX2_owedTo 1 := ⟨zmf_X2_owedTo, zn_X2_owedTo, ze_X2_owedTo⟩
abbrev mL_workerAt : zMI := (yL_workerAt, cL_workerAt, 4, (some .int))
abbrev mX2_workerAt : zMI := (yX2_workerAt, cX2_workerAt, 2, (some .int))
theorem zc_X2_workerAt : Cond.code yX2_workerAt cX2_workerAt 2 (some .int) ∈ lwG := lwG_in (List.mem_of_getElem? (i := 700) (by decide +kernel)) rfl
theorem zmf_X2_workerAt : zMF mX2_workerAt 1 := ⟨zc_X2_workerAt, zi_RX2, by decide +kernel, by decide +kernel, by decide +kernel⟩
theorem zn_X2_workerAt : Cond.instanceMethod yX2_workerAt ∈ lwG := lwG_in (List.mem_of_getElem? (i := 698) (by decide +kernel)) rfl
theorem ze_X2_workerAt : Cond.selects RX2 yX2_workerAt yX2_workerAt ∈ lwG := lwG_in (List.mem_of_getElem? (i := 699) (by decide +kernel)) rfl
theorem zm_X2_workerAt : zMV mX2_workerAt 1 := ⟨zmf_X2_workerAt, zn_X2_workerAt, ze_X2_workerAt⟩
abbrev mL_nextUp : zMI := (yL_nextUp, cL_nextUp, 4, (some .int))
abbrev mX2_nextUp : zMI := (yX2_nextUp, cX2_nextUp, 4, (some .int))
theorem zc_X2_nextUp : Cond.code yX2_nextUp cX2_nextUp 4 (some .int) ∈ lwG := lwG_in (List.mem_of_getElem? (i := 707) (by decide +kernel)) rfl
theorem zmf_X2_nextUp : zMF mX2_nextUp 1 := ⟨zc_X2_nextUp, zi_RX2, by decide +kernel, by decide +kernel, by decide +kernel⟩
theorem zn_X2_nextUp : Cond.instanceMethod yX2_nextUp ∈ lwG := lwG_in (List.mem_of_getElem? (i := 705) (by decide +kernel)) rfl
theorem ze_X2_nextUp : Cond.selects RX2 yX2_nextUp yX2_nextUp ∈ lwG := lwG_in (List.mem_of_getElem? (i := 706) (by decide +kernel)) rfl
theorem zm_X2_nextUp : zMV mX2_nextUp 1 := ⟨zmf_X2_nextUp, zn_X2_nextUp, ze_X2_nextUp⟩
abbrev mX3_init : zMI := (yX3_init, cX3_init, 2, none)
theorem zc_X3_init : Cond.code yX3_init cX3_init 2 none ∈ lwG := lwG_in (List.mem_of_getElem? (i := 712) (by decide +kernel)) rfl
theorem zi_RX3 : Cond.initialized RX3 ∈ lwG := lwG_in (List.mem_of_getElem? (i := 46) (by decide +kernel)) rfl
theorem zmf_X3_init : zMF mX3_init 0 := ⟨zc_X3_init, zi_RX3, by decide +kernel, by decide +kernel, by decide +kernel⟩
theorem zn_X3_init : Cond.instanceMethod yX3_init ∈ lwG := lwG_in (List.mem_of_getElem? (i := 711) (by decide +kernel)) rfl
theorem zm_X3_init : zMC mX3_init 0 := ⟨zmf_X3_init, zn_X3_init, rfl, rfl⟩
abbrev mX3_thrown : zMI := (yX3_thrown, cX3_thrown, 1, (some .int))
theorem zc_X3_thrown : Cond.code yX3_thrown cX3_thrown 1 (some .int) ∈ lwG := lwG_in (List.mem_of_getElem? (i := 796) (by decide +kernel)) rfl
theorem zmf_X3_thrown : zMF mX3_thrown 0 := ⟨zc_X3_thrown, zi_RX3, by decide +kernel, by decide +kernel, by decide +kernel⟩
theorem zn_X3_thrown : Cond.instanceMethod yX3_thrown ∈ lwG := lwG_in (List.mem_of_getElem? (i := 794) (by decide +kernel)) rfl
theorem ze_X3_thrown : Cond.selects RX3 yX3_thrown yX3_thrown ∈ lwG := lwG_in (List.mem_of_getElem? (i := 795) (by decide +kernel)) rfl
theorem zm_X3_thrown : zMV mX3_thrown 0 := ⟨zmf_X3_thrown, zn_X3_thrown, ze_X3_thrown⟩
abbrev mX3_signOn : zMI := (yX3_signOn, cX3_signOn, 4, (some .int))
theorem zc_X3_signOn : Cond.code yX3_signOn cX3_signOn 4 (some .int) ∈ lwG := lwG_in (List.mem_of_getElem? (i := 800) (by decide +kernel)) rfl
theorem zmf_X3_signOn : zMF mX3_signOn 2 := ⟨zc_X3_signOn, zi_RX3, by decide +kernel, by decide +kernel, by decide +kernel⟩
theorem zn_X3_signOn : Cond.instanceMethod yX3_signOn ∈ lwG := lwG_in (List.mem_of_getElem? (i := 798) (by decide +kernel)) rfl
theorem ze_X3_signOn : Cond.selects RX3 yX3_signOn yX3_signOn ∈ lwG := lwG_in (List.mem_of_getElem? (i := 799) (by decide +kernel)) rfl
theorem zm_X3_signOn : zMV mX3_signOn 2 := ⟨zmf_X3_signOn, zn_X3_signOn, ze_X3_signOn⟩
abbrev mX3_isBoard : zMI := (yX3_isBoard, cX3_isBoard, 1, (some .boolean))
theorem zc_X3_isBoard : Cond.code yX3_isBoard cX3_isBoard 1 (some .boolean) ∈ lwG := lwG_in (List.mem_of_getElem? (i := 803) (by decide +kernel)) rfl
theorem zmf_X3_isBoard : zMF mX3_isBoard 1 := ⟨zc_X3_isBoard, zi_RX3, by decide +kernel, by decide +kernel, by decide +kernel⟩
theorem zs_X3_isBoard : Cond.static yX3_isBoard ∈ lwG := lwG_in (List.mem_of_getElem? (i := 802) (by decide +kernel)) rfl
theorem zm_X3_isBoard : zMS mX3_isBoard 1 := ⟨zmf_X3_isBoard, zs_X3_isBoard⟩
abbrev mX3_in : zMI := (yX3_in, cX3_in, 3, (some .boolean))
theorem zc_X3_in : Cond.code yX3_in cX3_in 3 (some .boolean) ∈ lwG := lwG_in (List.mem_of_getElem? (i := 806) (by decide +kernel)) rfl
theorem zmf_X3_in : zMF mX3_in 3 := ⟨zc_X3_in, zi_RX3, by decide +kernel, by decide +kernel, by decide +kernel⟩
theorem zs_X3_in : Cond.static yX3_in ∈ lwG := lwG_in (List.mem_of_getElem? (i := 805) (by decide +kernel)) rfl
theorem zm_X3_in : zMS mX3_in 3 := ⟨zmf_X3_in, zs_X3_in⟩
abbrev mX3_count : zMI := (yX3_count, cX3_count, 3, (some .int))
theorem zc_X3_count : Cond.code yX3_count cX3_count 3 (some .int) ∈ lwG := lwG_in (List.mem_of_getElem? (i := 810) (by decide +kernel)) rfl
theorem zmf_X3_count : zMF mX3_count 0 := ⟨zc_X3_count, zi_RX3, by decide +kernel, by decide +kernel, by decide +kernel⟩
theorem zn_X3_count : Cond.instanceMethod yX3_count ∈ lwG := lwG_in (List.mem_of_getElem? (i := 809) (by decide +kernel)) rfl
theorem ze_X3_count : Cond.selects RX3 yX3_count yX3_count ∈ lwG := lwG_in (List.mem_of_getElem? (i := 24) (by decide +kernel)) rfl
theorem zm_X3_count : zMV mX3_count 0 := ⟨zmf_X3_count, zn_X3_count, ze_X3_count⟩
abbrev mX3_goes : zMI := (yX3_goes, cX3_goes, 4, (some .boolean))
theorem zc_X3_goes : Cond.code yX3_goes cX3_goes 4 (some .boolean) ∈ lwG := lwG_in (List.mem_of_getElem? (i := 814) (by decide +kernel)) rfl
theorem zmf_X3_goes : zMF mX3_goes 3 := ⟨zc_X3_goes, zi_RX3, by decide +kernel, by decide +kernel, by decide +kernel⟩
theorem zn_X3_goes : Cond.instanceMethod yX3_goes ∈ lwG := lwG_in (List.mem_of_getElem? (i := 813) (by decide +kernel)) rfl
theorem ze_X3_goes : Cond.selects RX3 yX3_goes yX3_goes ∈ lwG := lwG_in (List.mem_of_getElem? (i := 25) (by decide +kernel)) rfl
theorem zm_X3_goes : zMV mX3_goes 3 := ⟨zmf_X3_goes, zn_X3_goes, ze_X3_goes⟩
abbrev mX3_lowers : zMI := (yX3_lowers, cX3_lowers, 2, none)
theorem zc_X3_lowers : Cond.code yX3_lowers cX3_lowers 2 none ∈ lwG := lwG_in (List.mem_of_getElem? (i := 818) (by decide +kernel)) rfl
theorem zmf_X3_lowers : zMF mX3_lowers 1 := ⟨zc_X3_lowers, zi_RX3, by decide +kernel, by decide +kernel, by decide +kernel⟩
theorem zn_X3_lowers : Cond.instanceMethod yX3_lowers ∈ lwG := lwG_in (List.mem_of_getElem? (i := 817) (by decide +kernel)) rfl
theorem ze_X3_lowers : Cond.selects RX3 yX3_lowers yX3_lowers ∈ lwG := lwG_in (List.mem_of_getElem? (i := 26) (by decide +kernel)) rfl
theorem zm_X3_lowers : zMV mX3_lowers 1 := ⟨zmf_X3_lowers, zn_X3_lowers, ze_X3_lowers⟩
abbrev mX3_signOff : zMI := (yX3_signOff, cX3_signOff, 3, (some .int))
theorem zc_X3_signOff : Cond.code yX3_signOff cX3_signOff 3 (some .int) ∈ lwG := lwG_in (List.mem_of_getElem? (i := 822) (by decide +kernel)) rfl
theorem zmf_X3_signOff : zMF mX3_signOff 1 := ⟨zc_X3_signOff, zi_RX3, by decide +kernel, by decide +kernel, by decide +kernel⟩
theorem zn_X3_signOff : Cond.instanceMethod yX3_signOff ∈ lwG := lwG_in (List.mem_of_getElem? (i := 820) (by decide +kernel)) rfl
theorem ze_X3_signOff : Cond.selects RX3 yX3_signOff yX3_signOff ∈ lwG := lwG_in (List.mem_of_getElem? (i := 821) (by decide +kernel)) rfl
theorem zm_X3_signOff : zMV mX3_signOff 1 := ⟨zmf_X3_signOff, zn_X3_signOff, ze_X3_signOff⟩
abbrev mX3_kept : zMI := (yX3_kept, cX3_kept, 3, (some .int))
theorem zc_X3_kept : Cond.code yX3_kept cX3_kept 3 (some .int) ∈ lwG := lwG_in (List.mem_of_getElem? (i := 826) (by decide +kernel)) rfl
theorem zmf_X3_kept : zMF mX3_kept 1 := ⟨zc_X3_kept, zi_RX3, by decide +kernel, by decide +kernel, by decide +kernel⟩
theorem zn_X3_kept : Cond.instanceMethod yX3_kept ∈ lwG := lwG_in (List.mem_of_getElem? (i := 825) (by decide +kernel)) rfl
theorem ze_X3_kept : Cond.selects RX3 yX3_kept yX3_kept ∈ lwG := lwG_in (List.mem_of_getElem? (i := 27) (by decide +kernel)) rfl
theorem zm_X3_kept : zMV mX3_kept 1 := ⟨zmf_X3_kept, zn_X3_kept, ze_X3_kept⟩
abbrev mX3_setSkills : zMI := (yX3_setSkills, cX3_setSkills, 5, (some .int))
theorem zc_X3_setSkills : Cond.code yX3_setSkills cX3_setSkills 5 (some .int) ∈ lwG := lwG_in (List.mem_of_getElem? (i := 830) (by decide +kernel)) rfl
theorem zmf_X3_setSkills : zMF mX3_setSkills 2 := ⟨zc_X3_setSkills, zi_RX3, by decide +kernel, by decide +kernel, by decide +kernel⟩
theorem zn_X3_setSkills : Cond.instanceMethod yX3_setSkills ∈ lwG := lwG_in (List.mem_of_getElem? (i := 828) (by decide +kernel)) rfl
theorem ze_X3_setSkills : Cond.selects RX3 yX3_setSkills yX3_setSkills ∈ lwG := lwG_in (List.mem_of_getElem? (i := 829) (by decide +kernel)) rfl
theorem zm_X3_setSkills : zMV mX3_setSkills 2 := ⟨zmf_X3_setSkills, zn_X3_setSkills, ze_X3_setSkills⟩
abbrev mX3_move : zMI := (yX3_move, cX3_move, 5, (some .int))
theorem zc_X3_move : Cond.code yX3_move cX3_move 5 (some .int) ∈ lwG := lwG_in (List.mem_of_getElem? (i := 834) (by decide +kernel)) rfl
theorem zmf_X3_move : zMF mX3_move 2 := ⟨zc_X3_move, zi_RX3, by decide +kernel, by decide +kernel, by decide +kernel⟩
theorem zn_X3_move : Cond.instanceMethod yX3_move ∈ lwG := lwG_in (List.mem_of_getElem? (i := 832) (by decide +kernel)) rfl
theorem ze_X3_move : Cond.selects RX3 yX3_move yX3_move ∈ lwG := lwG_in (List.mem_of_getElem? (i := 833) (by decide +kernel)) rfl
theorem zm_X3_move : zMV mX3_move 2 := ⟨zmf_X3_move, zn_X3_move, ze_X3_move⟩
abbrev mX3_setAway : zMI := (yX3_setAway, cX3_setAway, 5, (some .boolean))
theorem zc_X3_setAway : Cond.code yX3_setAway cX3_setAway 5 (some .boolean) ∈ lwG := lwG_in (List.mem_of_getElem? (i := 838) (by decide +kernel)) rfl
theorem zmf_X3_setAway : zMF mX3_setAway 2 := ⟨zc_X3_setAway, zi_RX3, by decide +kernel, by decide +kernel, by decide +kernel⟩
theorem zn_X3_setAway : Cond.instanceMethod yX3_setAway ∈ lwG := lwG_in (List.mem_of_getElem? (i := 836) (by decide +kernel)) rfl
theorem ze_X3_setAway : Cond.selects RX3 yX3_setAway yX3_setAway ∈ lwG := lwG_in (List.mem_of_getElem? (i := 837) (by decide +kernel)) rfl
theorem zm_X3_setAway : zMV mX3_setAway 2 := ⟨zmf_X3_setAway, zn_X3_setAway, ze_X3_setAway⟩
abbrev mX3_setRefusing : zMI := (yX3_setRefusing, cX3_setRefusing, 5, (some .boolean))
theorem zc_X3_setRefusing : Cond.code yX3_setRefusing cX3_setRefusing 5 (some .boolean) ∈ lwG := lwG_in (List.mem_of_getElem? (i := 842) (by decide +kernel)) rfl
theorem zmf_X3_setRefusing : zMF mX3_setRefusing 2 := ⟨zc_X3_setRefusing, zi_RX3, by decide +kernel, by decide +kernel, by decide +kernel⟩
theorem zn_X3_setRefusing : Cond.instanceMethod yX3_setRefusing ∈ lwG := lwG_in (List.mem_of_getElem? (i := 840) (by decide +kernel)) rfl
theorem ze_X3_setRefusing : Cond.selects RX3 yX3_setRefusing yX3_setRefusing ∈ lwG := lwG_in (List.mem_of_getElem? (i := 841) (by decide +kernel)) rfl
theorem zm_X3_setRefusing : zMV mX3_setRefusing 2 := ⟨zmf_X3_setRefusing, zn_X3_setRefusing, ze_X3_setRefusing⟩
abbrev mX3_setRule : zMI := (yX3_setRule, cX3_setRule, 5, (some .int))
theorem zc_X3_setRule : Cond.code yX3_setRule cX3_setRule 5 (some .int) ∈ lwG := lwG_in (List.mem_of_getElem? (i := 846) (by decide +kernel)) rfl
theorem zmf_X3_setRule : zMF mX3_setRule 3 := ⟨zc_X3_setRule, zi_RX3, by decide +kernel, by decide +kernel, by decide +kernel⟩
theorem zn_X3_setRule : Cond.instanceMethod yX3_setRule ∈ lwG := lwG_in (List.mem_of_getElem? (i := 844) (by decide +kernel)) rfl
theorem ze_X3_setRule : Cond.selects RX3 yX3_setRule yX3_setRule ∈ lwG := lwG_in (List.mem_of_getElem? (i := 845) (by decide +kernel)) rfl
theorem zm_X3_setRule : zMV mX3_setRule 3 := ⟨zmf_X3_setRule, zn_X3_setRule, ze_X3_setRule⟩
abbrev mX3_equalise : zMI := (yX3_equalise, cX3_equalise, 7, (some .int))
theorem zc_X3_equalise : Cond.code yX3_equalise cX3_equalise 7 (some .int) ∈ lwG := lwG_in (List.mem_of_getElem? (i := 850) (by decide +kernel)) rfl
theorem zmf_X3_equalise : zMF mX3_equalise 1 := ⟨zc_X3_equalise, zi_RX3, by decide +kernel, by decide +kernel, by decide +kernel⟩
theorem zn_X3_equalise : Cond.instanceMethod yX3_equalise ∈ lwG := lwG_in (List.mem_of_getElem? (i := 848) (by decide +kernel)) rfl
theorem ze_X3_equalise : Cond.selects RX3 yX3_equalise yX3_equalise ∈ lwG := lwG_in (List.mem_of_getElem? (i := 849) (by decide +kernel)) rfl
theorem zm_X3_equalise : zMV mX3_equalise 1 := ⟨zmf_X3_equalise, zn_X3_equalise, ze_X3_equalise⟩
abbrev mX3_lineUp : zMI := (yX3_lineUp, cX3_lineUp, 4, (some .int))
theorem zc_X3_lineUp : Cond.code yX3_lineUp cX3_lineUp 4 (some .int) ∈ lwG := lwG_in (List.mem_of_getElem? (i := 854) (by decide +kernel)) rfl
theorem zmf_X3_lineUp : zMF mX3_lineUp 0 := ⟨zc_X3_lineUp, zi_RX3, by decide +kernel, by decide +kernel, by decide +kernel⟩
theorem zn_X3_lineUp : Cond.instanceMethod yX3_lineUp ∈ lwG := lwG_in (List.mem_of_getElem? (i := 853) (by decide +kernel)) rfl
theorem ze_X3_lineUp : Cond.selects RX3 yX3_lineUp yX3_lineUp ∈ lwG := lwG_in (List.mem_of_getElem? (i := 28) (by decide +kernel)) rfl
theorem zm_X3_lineUp : zMV mX3_lineUp 0 := ⟨zmf_X3_lineUp, zn_X3_lineUp, ze_X3_lineUp⟩
abbrev mX3_isBefore : zMI := (yX3_isBefore, cX3_isBefore, 3, (some .boolean))
theorem zc_X3_isBefore : Cond.code yX3_isBefore cX3_isBefore 3 (some .boolean) ∈ lwG := lwG_in (List.mem_of_getElem? (i := 858) (by decide +kernel)) rfl
theorem zmf_X3_isBefore : zMF mX3_isBefore 2 := ⟨zc_X3_isBefore, zi_RX3, by decide +kernel, by decide +kernel, by decide +kernel⟩
theorem zn_X3_isBefore : Cond.instanceMethod yX3_isBefore ∈ lwG := lwG_in (List.mem_of_getElem? (i := 857) (by decide +kernel)) rfl
theorem ze_X3_isBefore : Cond.selects RX3 yX3_isBefore yX3_isBefore ∈ lwG := lwG_in (List.mem_of_getElem? (i := 29) (by decide +kernel)) rfl
theorem zm_X3_isBefore : zMV mX3_isBefore 2 := ⟨zmf_X3_isBefore, zn_X3_isBefore, ze_X3_isBefore⟩
abbrev mX3_rank : zMI := (yX3_rank, cX3_rank, 4, (some .int))
theorem zc_X3_rank : Cond.code yX3_rank cX3_rank 4 (some .int) ∈ lwG := lwG_in (List.mem_of_getElem? (i := 862) (by decide +kernel)) rfl
theorem zmf_X3_rank : zMF mX3_rank 1 := ⟨zc_X3_rank, zi_RX3, by decide +kernel, by decide +kernel, by decide +kernel⟩
theorem zn_X3_rank : Cond.instanceMethod yX3_rank ∈ lwG := lwG_in (List.mem_of_getElem? (i := 861) (by decide +kernel)) rfl
theorem ze_X3_rank : Cond.selects RX3 yX3_rank yX3_rank ∈ lwG := lwG_in (List.mem_of_getElem? (i := 30) (by decide +kernel)) rfl
theorem zm_X3_rank : zMV mX3_rank 1 := ⟨zmf_X3_rank, zn_X3_rank, ze_X3_rank⟩
abbrev mX3_order : zMI := (yX3_order, cX3_order, 2, (some .int))
theorem zc_X3_order : Cond.code yX3_order cX3_order 2 (some .int) ∈ lwG := lwG_in (List.mem_of_getElem? (i := 866) (by decide +kernel)) rfl
theorem zmf_X3_order : zMF mX3_order 1 := ⟨zc_X3_order, zi_RX3, by decide +kernel, by decide +kernel, by decide +kernel⟩
theorem zn_X3_order : Cond.instanceMethod yX3_order ∈ lwG := lwG_in (List.mem_of_getElem? (i := 864) (by decide +kernel)) rfl
theorem ze_X3_order : Cond.selects RX3 yX3_order yX3_order ∈ lwG := lwG_in (List.mem_of_getElem? (i := 865) (by decide +kernel)) rfl
theorem zm_X3_order : zMV mX3_order 1 := ⟨zmf_X3_order, zn_X3_order, ze_X3_order⟩
abbrev mX3_dispatch : zMI := (yX3_dispatch, cX3_dispatch, 5, (some .int))
theorem zc_X3_dispatch : Cond.code yX3_dispatch cX3_dispatch 5 (some .int) ∈ lwG := lwG_in (List.mem_of_getElem? (i := 870) (by decide +kernel)) rfl
theorem zmf_X3_dispatch : zMF mX3_dispatch 0 := ⟨zc_X3_dispatch, zi_RX3, by decide +kernel, by decide +kernel, by decide +kernel⟩
theorem zn_X3_dispatch : Cond.instanceMethod yX3_dispatch ∈ lwG := lwG_in (List.mem_of_getElem? (i := 868) (by decide +kernel)) rfl
theorem ze_X3_dispatch : Cond.selects RX3 yX3_dispatch yX3_dispatch ∈ lwG := lwG_in (List.mem_of_getElem? (i := 869) (by decide +kernel)) rfl
theorem zm_X3_dispatch : zMV mX3_dispatch 0 := ⟨zmf_X3_dispatch, zn_X3_dispatch, ze_X3_dispatch⟩
abbrev mX3_countOpen : zMI := (yX3_countOpen, cX3_countOpen, 2, none)
theorem zc_X3_countOpen : Cond.code yX3_countOpen cX3_countOpen 2 none ∈ lwG := lwG_in (List.mem_of_getElem? (i := 874) (by decide +kernel)) rfl
theorem zmf_X3_countOpen : zMF mX3_countOpen 0 := ⟨zc_X3_countOpen, zi_RX3, by decide +kernel, by decide +kernel, by decide +kernel⟩
theorem zn_X3_countOpen : Cond.instanceMethod yX3_countOpen ∈ lwG := lwG_in (List.mem_of_getElem? (i := 873) (by decide +kernel)) rfl
theorem ze_X3_countOpen : Cond.selects RX3 yX3_countOpen yX3_countOpen ∈ lwG := lwG_in (List.mem_of_getElem? (i := 31) (by decide +kernel)) rfl
theorem zm_X3_countOpen : zMV mX3_countOpen 0 := ⟨zmf_X3_countOpen, zn_X3_countOpen, ze_X3_countOpen⟩
abbrev mX3_isReady : zMI := (yX3_isReady, cX3_isReady, 2, (some .boolean))
theorem zc_X3_isReady : Cond.code yX3_isReady cX3_isReady 2 (some .boolean) ∈ lwG := lwG_in (List.mem_of_getElem? (i := 878) (by decide +kernel)) rfl
theorem zmf_X3_isReady : zMF mX3_isReady 1 := ⟨zc_X3_isReady, zi_RX3, by decide +kernel, by decide +kernel, by decide +kernel⟩
theorem zn_X3_isReady : Cond.instanceMethod yX3_isReady ∈ lwG := lwG_in (List.mem_of_getElem? (i := 877) (by decide +kernel)) rfl
theorem ze_X3_isReady : Cond.selects RX3 yX3_isReady yX3_isReady ∈ lwG := lwG_in (List.mem_of_getElem? (i := 32) (by decide +kernel)) rfl
theorem zm_X3_isReady : zMV mX3_isReady 1 := ⟨zmf_X3_isReady, zn_X3_isReady, ze_X3_isReady⟩
abbrev mX3_canAll : zMI := (yX3_canAll, cX3_canAll, 7, (some .boolean))
theorem zc_X3_canAll : Cond.code yX3_canAll cX3_canAll 7 (some .boolean) ∈ lwG := lwG_in (List.mem_of_getElem? (i := 882) (by decide +kernel)) rfl
theorem zmf_X3_canAll : zMF mX3_canAll 2 := ⟨zc_X3_canAll, zi_RX3, by decide +kernel, by decide +kernel, by decide +kernel⟩
theorem zn_X3_canAll : Cond.instanceMethod yX3_canAll ∈ lwG := lwG_in (List.mem_of_getElem? (i := 881) (by decide +kernel)) rfl
theorem ze_X3_canAll : Cond.selects RX3 yX3_canAll yX3_canAll ∈ lwG := lwG_in (List.mem_of_getElem? (i := 33) (by decide +kernel)) rfl
theorem zm_X3_canAll : zMV mX3_canAll 2 := ⟨zmf_X3_canAll, zn_X3_canAll, ze_X3_canAll⟩
abbrev mX3_refuses : zMI := (yX3_refuses, cX3_refuses, 2, none)
theorem zc_X3_refuses : Cond.code yX3_refuses cX3_refuses 2 none ∈ lwG := lwG_in (List.mem_of_getElem? (i := 886) (by decide +kernel)) rfl
theorem zmf_X3_refuses : zMF mX3_refuses 1 := ⟨zc_X3_refuses, zi_RX3, by decide +kernel, by decide +kernel, by decide +kernel⟩
theorem zn_X3_refuses : Cond.instanceMethod yX3_refuses ∈ lwG := lwG_in (List.mem_of_getElem? (i := 885) (by decide +kernel)) rfl
theorem ze_X3_refuses : Cond.selects RX3 yX3_refuses yX3_refuses ∈ lwG := lwG_in (List.mem_of_getElem? (i := 34) (by decide +kernel)) rfl
theorem zm_X3_refuses : zMV mX3_refuses 1 := ⟨zmf_X3_refuses, zn_X3_refuses, ze_X3_refuses⟩
abbrev mX3_gives : zMI := (yX3_gives, cX3_gives, 5, none)
theorem zc_X3_gives : Cond.code yX3_gives cX3_gives 5 none ∈ lwG := lwG_in (List.mem_of_getElem? (i := 890) (by decide +kernel)) rfl
theorem zmf_X3_gives : zMF mX3_gives 1 := ⟨zc_X3_gives, zi_RX3, by decide +kernel, by decide +kernel, by decide +kernel⟩
theorem zn_X3_gives : Cond.instanceMethod yX3_gives ∈ lwG := lwG_in (List.mem_of_getElem? (i := 889) (by decide +kernel)) rfl
theorem ze_X3_gives : Cond.selects RX3 yX3_gives yX3_gives ∈ lwG := lwG_in (List.mem_of_getElem? (i := 35) (by decide +kernel)) rfl
theorem zm_X3_gives : zMV mX3_gives 1 := ⟨zmf_X3_gives, zn_X3_gives, ze_X3_gives⟩
abbrev mX3_fills : zMI := (yX3_fills, cX3_fills, 3, none)
theorem zc_X3_fills : Cond.code yX3_fills cX3_fills 3 none ∈ lwG := lwG_in (List.mem_of_getElem? (i := 894) (by decide +kernel)) rfl
theorem zmf_X3_fills : zMF mX3_fills 2 := ⟨zc_X3_fills, zi_RX3, by decide +kernel, by decide +kernel, by decide +kernel⟩
theorem zn_X3_fills : Cond.instanceMethod yX3_fills ∈ lwG := lwG_in (List.mem_of_getElem? (i := 893) (by decide +kernel)) rfl
theorem ze_X3_fills : Cond.selects RX3 yX3_fills yX3_fills ∈ lwG := lwG_in (List.mem_of_getElem? (i := 36) (by decide +kernel)) rfl
theorem zm_X3_fills : zMV mX3_fills 2 := ⟨zmf_X3_fills, zn_X3_fills, ze_X3_fills⟩
abbrev mX3_setHours : zMI := (yX3_setHours, cX3_setHours, 3, (some .int))
theorem zc_X3_setHours : Cond.code yX3_setHours cX3_setHours 3 (some .int) ∈ lwG := lwG_in (List.mem_of_getElem? (i := 898) (by decide +kernel)) rfl
theorem zmf_X3_setHours : zMF mX3_setHours 1 := ⟨zc_X3_setHours, zi_RX3, by decide +kernel, by decide +kernel, by decide +kernel⟩
theorem zn_X3_setHours : Cond.instanceMethod yX3_setHours ∈ lwG := lwG_in (List.mem_of_getElem? (i := 896) (by decide +kernel)) rfl
theorem ze_X3_setHours : Cond.selects RX3 yX3_setHours yX3_setHours ∈ lwG := lwG_in (List.mem_of_getElem? (i := 897) (by decide +kernel)) rfl
theorem zm_X3_setHours : zMV mX3_setHours 1 := ⟨zmf_X3_setHours, zn_X3_setHours, ze_X3_setHours⟩
abbrev mX3_leave : zMI := (yX3_leave, cX3_leave, 5, (some .int))
theorem zc_X3_leave : Cond.code yX3_leave cX3_leave 5 (some .int) ∈ lwG := lwG_in (List.mem_of_getElem? (i := 902) (by decide +kernel)) rfl
theorem zmf_X3_leave : zMF mX3_leave 2 := ⟨zc_X3_leave, zi_RX3, by decide +kernel, by decide +kernel, by decide +kernel⟩
theorem zn_X3_leave : Cond.instanceMethod yX3_leave ∈ lwG := lwG_in (List.mem_of_getElem? (i := 900) (by decide +kernel)) rfl
theorem ze_X3_leave : Cond.selects RX3 yX3_leave yX3_leave ∈ lwG := lwG_in (List.mem_of_getElem? (i := 901) (by decide +kernel)) rfl
theorem zm_X3_leave : zMV mX3_leave 2 := ⟨zmf_X3_leave, zn_X3_leave, ze_X3_leave⟩
abbrev mX3_works : zMI := (yX3_works, cX3_works, 3, none)
theorem zc_X3_works : Cond.code yX3_works cX3_works 3 none ∈ lwG := lwG_in (List.mem_of_getElem? (i := 906) (by decide +kernel)) rfl
theorem zmf_X3_works : zMF mX3_works 2 := ⟨zc_X3_works, zi_RX3, by decide +kernel, by decide +kernel, by decide +kernel⟩
theorem zn_X3_works : Cond.instanceMethod yX3_works ∈ lwG := lwG_in (List.mem_of_getElem? (i := 905) (by decide +kernel)) rfl
theorem ze_X3_works : Cond.selects RX3 yX3_works yX3_works ∈ lwG := lwG_in (List.mem_of_getElem? (i := 37) (by decide +kernel)) rfl
theorem zm_X3_works : zMV mX3_works 2 := ⟨zmf_X3_works, zn_X3_works, ze_X3_works⟩
abbrev mX3_replace : zMI := (yX3_replace, cX3_replace, 6, (some .int))
theorem zc_X3_replace : Cond.code yX3_replace cX3_replace 6 (some .int) ∈ lwG := lwG_in (List.mem_of_getElem? (i := 910) (by decide +kernel)) rfl
theorem zmf_X3_replace : zMF mX3_replace 1 := ⟨zc_X3_replace, zi_RX3, by decide +kernel, by decide +kernel, by decide +kernel⟩
theorem zn_X3_replace : Cond.instanceMethod yX3_replace ∈ lwG := lwG_in (List.mem_of_getElem? (i := 908) (by decide +kernel)) rfl
theorem ze_X3_replace : Cond.selects RX3 yX3_replace yX3_replace ∈ lwG := lwG_in (List.mem_of_getElem? (i := 909) (by decide +kernel)) rfl
theorem zm_X3_replace : zMV mX3_replace 1 := ⟨zmf_X3_replace, zn_X3_replace, ze_X3_replace⟩
abbrev mX3_isPlace : zMI := (yX3_isPlace, cX3_isPlace, 2, (some .boolean))
theorem zc_X3_isPlace : Cond.code yX3_isPlace cX3_isPlace 2 (some .boolean) ∈ lwG := lwG_in (List.mem_of_getElem? (i := 914) (by decide +kernel)) rfl
theorem zmf_X3_isPlace : zMF mX3_isPlace 1 := ⟨zc_X3_isPlace, zi_RX3, by decide +kernel, by decide +kernel, by decide +kernel⟩
theorem zn_X3_isPlace : Cond.instanceMethod yX3_isPlace ∈ lwG := lwG_in (List.mem_of_getElem? (i := 913) (by decide +kernel)) rfl
theorem ze_X3_isPlace : Cond.selects RX3 yX3_isPlace yX3_isPlace ∈ lwG := lwG_in (List.mem_of_getElem? (i := 38) (by decide +kernel)) rfl
theorem zm_X3_isPlace : zMV mX3_isPlace 1 := ⟨zmf_X3_isPlace, zn_X3_isPlace, ze_X3_isPlace⟩
abbrev mX3_endShift : zMI := (yX3_endShift, cX3_endShift, 2, (some .int))
theorem zc_X3_endShift : Cond.code yX3_endShift cX3_endShift 2 (some .int) ∈ lwG := lwG_in (List.mem_of_getElem? (i := 918) (by decide +kernel)) rfl
theorem zmf_X3_endShift : zMF mX3_endShift 0 := ⟨zc_X3_endShift, zi_RX3, by decide +kernel, by decide +kernel, by decide +kernel⟩
theorem zn_X3_endShift : Cond.instanceMethod yX3_endShift ∈ lwG := lwG_in (List.mem_of_getElem? (i := 916) (by decide +kernel)) rfl
theorem ze_X3_endShift : Cond.selects RX3 yX3_endShift yX3_endShift ∈ lwG := lwG_in (List.mem_of_getElem? (i := 917) (by decide +kernel)) rfl
theorem zm_X3_endShift : zMV mX3_endShift 0 := ⟨zmf_X3_endShift, zn_X3_endShift, ze_X3_endShift⟩
abbrev mX3_endPeriod : zMI := (yX3_endPeriod, cX3_endPeriod, 3, (some .int))
theorem zc_X3_endPeriod : Cond.code yX3_endPeriod cX3_endPeriod 3 (some .int) ∈ lwG := lwG_in (List.mem_of_getElem? (i := 922) (by decide +kernel)) rfl
theorem zmf_X3_endPeriod : zMF mX3_endPeriod 0 := ⟨zc_X3_endPeriod, zi_RX3, by decide +kernel, by decide +kernel, by decide +kernel⟩
theorem zn_X3_endPeriod : Cond.instanceMethod yX3_endPeriod ∈ lwG := lwG_in (List.mem_of_getElem? (i := 920) (by decide +kernel)) rfl
theorem ze_X3_endPeriod : Cond.selects RX3 yX3_endPeriod yX3_endPeriod ∈ lwG := lwG_in (List.mem_of_getElem? (i := 921) (by decide +kernel)) rfl
theorem zm_X3_endPeriod : zMV mX3_endPeriod 0 := ⟨zmf_X3_endPeriod, zn_X3_endPeriod, ze_X3_endPeriod⟩
abbrev mX3_owes : zMI := (yX3_owes, cX3_owes, 3, (some .int))
theorem zc_X3_owes : Cond.code yX3_owes cX3_owes 3 (some .int) ∈ lwG := lwG_in (List.mem_of_getElem? (i := 926) (by decide +kernel)) rfl
theorem zmf_X3_owes : zMF mX3_owes 1 := ⟨zc_X3_owes, zi_RX3, by decide +kernel, by decide +kernel, by decide +kernel⟩
theorem zn_X3_owes : Cond.instanceMethod yX3_owes ∈ lwG := lwG_in (List.mem_of_getElem? (i := 925) (by decide +kernel)) rfl
theorem ze_X3_owes : Cond.selects RX3 yX3_owes yX3_owes ∈ lwG := lwG_in (List.mem_of_getElem? (i := 39) (by decide +kernel)) rfl
theorem zm_X3_owes : zMV mX3_owes 1 := ⟨zmf_X3_owes, zn_X3_owes, ze_X3_owes⟩
abbrev mX3_workers : zMI := (yX3_workers, cX3_workers, 1, (some .int))
theorem zc_X3_workers : Cond.code yX3_workers cX3_workers 1 (some .int) ∈ lwG := lwG_in (List.mem_of_getElem? (i := 930) (by decide +kernel)) rfl
theorem zmf_X3_workers : zMF mX3_workers 0 := ⟨zc_X3_workers, zi_RX3, by decide +kernel, by decide +kernel, by decide +kernel⟩
theorem zn_X3_workers : Cond.instanceMethod yX3_workers ∈ lwG := lwG_in (List.mem_of_getElem? (i := 928) (by decide +kernel)) rfl
theorem ze_X3_workers : Cond.selects RX3 yX3_workers yX3_workers ∈ lwG := lwG_in (List.mem_of_getElem? (i := 929) (by decide +kernel)) rfl
theorem zm_X3_workers : zMV mX3_workers 0 := ⟨zmf_X3_workers, zn_X3_workers, ze_X3_workers⟩
abbrev mX3_boardOf : zMI := (yX3_boardOf, cX3_boardOf, 3, (some .int))
theorem zc_X3_boardOf : Cond.code yX3_boardOf cX3_boardOf 3 (some .int) ∈ lwG := lwG_in (List.mem_of_getElem? (i := 934) (by decide +kernel)) rfl
theorem zmf_X3_boardOf : zMF mX3_boardOf 1 := ⟨zc_X3_boardOf, zi_RX3, by decide +kernel, by decide +kernel, by decide +kernel⟩
theorem zn_X3_boardOf : Cond.instanceMethod yX3_boardOf ∈ lwG := lwG_in (List.mem_of_getElem? (i := 932) (by decide +kernel)) rfl
theorem ze_X3_boardOf : Cond.selects RX3 yX3_boardOf yX3_boardOf ∈ lwG := lwG_in (List.mem_of_getElem? (i := 933) (by decide +kernel)) rfl
theorem zm_X3_boardOf : zMV mX3_boardOf 1 := ⟨zmf_X3_boardOf, zn_X3_boardOf, ze_X3_boardOf⟩
abbrev mX3_rankOf : zMI := (yX3_rankOf, cX3_rankOf, 3, (some .int))
theorem zc_X3_rankOf : Cond.code yX3_rankOf cX3_rankOf 3 (some .int) ∈ lwG := lwG_in (List.mem_of_getElem? (i := 938) (by decide +kernel)) rfl
theorem zmf_X3_rankOf : zMF mX3_rankOf 1 := ⟨zc_X3_rankOf, zi_RX3, by decide +kernel, by decide +kernel, by decide +kernel⟩
theorem zn_X3_rankOf : Cond.instanceMethod yX3_rankOf ∈ lwG := lwG_in (List.mem_of_getElem? (i := 936) (by decide +kernel)) rfl
theorem ze_X3_rankOf : Cond.selects RX3 yX3_rankOf yX3_rankOf ∈ lwG := lwG_in (List.mem_of_getElem? (i := 937) (by decide +kernel)) rfl
theorem zm_X3_rankOf : zMV mX3_rankOf 1 := ⟨zmf_X3_rankOf, zn_X3_rankOf, ze_X3_rankOf⟩
abbrev mX3_hoursOf : zMI := (yX3_hoursOf, cX3_hoursOf, 3, (some .int))
theorem zc_X3_hoursOf : Cond.code yX3_hoursOf cX3_hoursOf 3 (some .int) ∈ lwG := lwG_in (List.mem_of_getElem? (i := 942) (by decide +kernel)) rfl
theorem zmf_X3_hoursOf : zMF mX3_hoursOf 1 := ⟨zc_X3_hoursOf, zi_RX3, by decide +kernel, by decide +kernel, by decide +kernel⟩
theorem zn_X3_hoursOf : Cond.instanceMethod yX3_hoursOf ∈ lwG := lwG_in (List.mem_of_getElem? (i := 940) (by decide +kernel)) rfl
theorem ze_X3_hoursOf : Cond.selects RX3 yX3_hoursOf yX3_hoursOf ∈ lwG := lwG_in (List.mem_of_getElem? (i := 941) (by decide +kernel)) rfl
theorem zm_X3_hoursOf : zMV mX3_hoursOf 1 := ⟨zmf_X3_hoursOf, zn_X3_hoursOf, ze_X3_hoursOf⟩
abbrev mX3_refusalsOf : zMI := (yX3_refusalsOf, cX3_refusalsOf, 3, (some .int))
theorem zc_X3_refusalsOf : Cond.code yX3_refusalsOf cX3_refusalsOf 3 (some .int) ∈ lwG := lwG_in (List.mem_of_getElem? (i := 946) (by decide +kernel)) rfl
theorem zmf_X3_refusalsOf : zMF mX3_refusalsOf 1 := ⟨zc_X3_refusalsOf, zi_RX3, by decide +kernel, by decide +kernel, by decide +kernel⟩
theorem zn_X3_refusalsOf : Cond.instanceMethod yX3_refusalsOf ∈ lwG := lwG_in (List.mem_of_getElem? (i := 944) (by decide +kernel)) rfl
theorem ze_X3_refusalsOf : Cond.selects RX3 yX3_refusalsOf yX3_refusalsOf ∈ lwG := lwG_in (List.mem_of_getElem? (i := 945) (by decide +kernel)) rfl
theorem zm_X3_refusalsOf : zMV mX3_refusalsOf 1 := ⟨zmf_X3_refusalsOf, zn_X3_refusalsOf, ze_X3_refusalsOf⟩
abbrev mX3_placeOf : zMI := (yX3_placeOf, cX3_placeOf, 3, (some .int))
theorem zc_X3_placeOf : Cond.code yX3_placeOf cX3_placeOf 3 (some .int) ∈ lwG := lwG_in (List.mem_of_getElem? (i := 950) (by decide +kernel)) rfl
theorem zmf_X3_placeOf : zMF mX3_placeOf 1 := ⟨zc_X3_placeOf, zi_RX3, by decide +kernel, by decide +kernel, by decide +kernel⟩
theorem zn_X3_placeOf : Cond.instanceMethod yX3_placeOf ∈ lwG := lwG_in (List.mem_of_getElem? (i := 948) (by decide +kernel)) rfl
theorem ze_X3_placeOf : Cond.selects RX3 yX3_placeOf yX3_placeOf ∈ lwG := lwG_in (List.mem_of_getElem? (i := 949) (by decide +kernel)) rfl
theorem zm_X3_placeOf : zMV mX3_placeOf 1 := ⟨zmf_X3_placeOf, zn_X3_placeOf, ze_X3_placeOf⟩
abbrev mX3_owedTo : zMI := (yX3_owedTo, cX3_owedTo, 3, (some .int))
theorem zc_X3_owedTo : Cond.code yX3_owedTo cX3_owedTo 3 (some .int) ∈ lwG := lwG_in (List.mem_of_getElem? (i := 954) (by decide +kernel)) rfl
theorem zmf_X3_owedTo : zMF mX3_owedTo 1 := ⟨zc_X3_owedTo, zi_RX3, by decide +kernel, by decide +kernel, by decide +kernel⟩
theorem zn_X3_owedTo : Cond.instanceMethod yX3_owedTo ∈ lwG := lwG_in (List.mem_of_getElem? (i := 952) (by decide +kernel)) rfl
theorem ze_X3_owedTo : Cond.selects RX3 yX3_owedTo yX3_owedTo ∈ lwG := lwG_in (List.mem_of_getElem? (i := 953) (by decide +kernel)) rfl
theorem zm_X3_owedTo : zMV mX3_owedTo 1 := ⟨zmf_X3_owedTo, zn_X3_owedTo, ze_X3_owedTo⟩
abbrev mX3_places : zMI := (yX3_places, cX3_places, 1, (some .int))
theorem zc_X3_places : Cond.code yX3_places cX3_places 1 (some .int) ∈ lwG := lwG_in (List.mem_of_getElem? (i := 958) (by decide +kernel)) rfl
theorem zmf_X3_places : zMF mX3_places 0 := ⟨zc_X3_places, zi_RX3, by decide +kernel, by decide +kernel, by decide +kernel⟩
theorem zn_X3_places : Cond.instanceMethod yX3_places ∈ lwG := lwG_in (List.mem_of_getElem? (i := 956) (by decide +kernel)) rfl
theorem ze_X3_places : Cond.selects RX3 yX3_places yX3_places ∈ lwG := lwG_in (List.mem_of_getElem? (i := 957) (by decide +kernel)) rfl
theorem zm_X3_places : zMV mX3_places 0 := ⟨zmf_X3_places, zn_X3_places, ze_X3_places⟩
abbrev mX3_workerAt : zMI := (yX3_workerAt, cX3_workerAt, 2, (some .int))
theorem zc_X3_workerAt : Cond.code yX3_workerAt cX3_workerAt 2 (some .int) ∈ lwG := lwG_in (List.mem_of_getElem? (i := 962) (by decide +kernel)) rfl
theorem zmf_X3_workerAt : zMF mX3_workerAt 1 := ⟨zc_X3_workerAt, zi_RX3, by decide +kernel, by decide +kernel, by decide +kernel⟩
theorem zn_X3_workerAt : Cond.instanceMethod yX3_workerAt ∈ lwG := lwG_in (List.mem_of_getElem? (i := 960) (by decide +kernel)) rfl
theorem ze_X3_workerAt : Cond.selects RX3 yX3_workerAt yX3_workerAt ∈ lwG := lwG_in (List.mem_of_getElem? (i := 961) (by decide +kernel)) rfl
theorem zm_X3_workerAt : zMV mX3_workerAt 1 := ⟨zmf_X3_workerAt, zn_X3_workerAt, ze_X3_workerAt⟩
abbrev mX3_nextUp : zMI := (yX3_nextUp, cX3_nextUp, 4, (some .int))
theorem zc_X3_nextUp : Cond.code yX3_nextUp cX3_nextUp 4 (some .int) ∈ lwG := lwG_in (List.mem_of_getElem? (i := 966) (by decide +kernel)) rfl
theorem zmf_X3_nextUp : zMF mX3_nextUp 1 := ⟨zc_X3_nextUp, zi_RX3, by decide +kernel, by decide +kernel, by decide +kernel⟩
theorem zn_X3_nextUp : Cond.instanceMethod yX3_nextUp ∈ lwG := lwG_in (List.mem_of_getElem? (i := 964) (by decide +kernel)) rfl
theorem ze_X3_nextUp : Cond.selects RX3 yX3_nextUp yX3_nextUp ∈ lwG := lwG_in (List.mem_of_getElem? (i := 965) (by decide +kernel)) rfl
theorem zm_X3_nextUp : zMV mX3_nextUp 1 := ⟨zmf_X3_nextUp, zn_X3_nextUp, ze_X3_nextUp⟩
abbrev mX3_fillable : zMI := (yX3_fillable, cX3_fillable, 4, (some .int))
theorem zc_X3_fillable : Cond.code yX3_fillable cX3_fillable 4 (some .int) ∈ lwG := lwG_in (List.mem_of_getElem? (i := 970) (by decide +kernel)) rfl
theorem zmf_X3_fillable : zMF mX3_fillable 0 := ⟨zc_X3_fillable, zi_RX3, by decide +kernel, by decide +kernel, by decide +kernel⟩
theorem zn_X3_fillable : Cond.instanceMethod yX3_fillable ∈ lwG := lwG_in (List.mem_of_getElem? (i := 968) (by decide +kernel)) rfl
theorem ze_X3_fillable : Cond.selects RX3 yX3_fillable yX3_fillable ∈ lwG := lwG_in (List.mem_of_getElem? (i := 969) (by decide +kernel)) rfl
theorem zm_X3_fillable : zMV mX3_fillable 0 := ⟨zmf_X3_fillable, zn_X3_fillable, ze_X3_fillable⟩
theorem zl_X2_1 : Cond.methodLink RX2 1 objectInit ∈ lwG := lwG_in (List.mem_of_getElem? (i := 65) (by decide +kernel)) rfl
theorem zl_X2_9 : Cond.methodLink RX2 9 yJx4a65c_init_da8c8 ∈ lwG := lwG_in (List.mem_of_getElem? (i := 70) (by decide +kernel)) rfl
theorem zl_X2_60 : Cond.methodLink RX2 60 yX2_checkBoard ∈ lwG := lwG_in (List.mem_of_getElem? (i := 373) (by decide +kernel)) rfl
theorem zl_X2_64 : Cond.methodLink RX2 64 yX2_checkSkills ∈ lwG := lwG_in (List.mem_of_getElem? (i := 444) (by decide +kernel)) rfl
theorem zl_X2_67 : Cond.methodLink RX2 67 yJx4a65c_size_8abf5 ∈ lwG := lwG_in (List.mem_of_getElem? (i := 169) (by decide +kernel)) rfl
theorem zl_X2_75 : Cond.methodLink RX2 75 ⟨"java/lang/IllegalStateException", "<init>", "(Ljava/lang/String;)V"⟩ ∈ lwG := lwG_in (List.mem_of_getElem? (i := 458) (by decide +kernel)) rfl
theorem zl_X2_80 : Cond.methodLink RX2 80 yX1_init ∈ lwG := lwG_in (List.mem_of_getElem? (i := 465) (by decide +kernel)) rfl
theorem zl_X2_83 : Cond.methodLink RX2 83 yX2_putAtBottom ∈ lwG := lwG_in (List.mem_of_getElem? (i := 291) (by decide +kernel)) rfl
theorem zl_X2_90 : Cond.methodLink RX2 90 yX2_find ∈ lwG := lwG_in (List.mem_of_getElem? (i := 518) (by decide +kernel)) rfl
theorem zl_X2_94 : Cond.methodLink RX2 94 yX2_checkNotAtWork ∈ lwG := lwG_in (List.mem_of_getElem? (i := 538) (by decide +kernel)) rfl
theorem zl_X2_97 : Cond.methodLink RX2 97 yX2_takeOffBoard ∈ lwG := lwG_in (List.mem_of_getElem? (i := 278) (by decide +kernel)) rfl
theorem zl_X2_119 : Cond.methodLink RX2 119 ⟨"java/lang/IllegalArgumentException", "<init>", "(Ljava/lang/String;)V"⟩ ∈ lwG := lwG_in (List.mem_of_getElem? (i := 418) (by decide +kernel)) rfl
theorem zl_X2_120 : Cond.methodLink RX2 120 yX2_rememberTurn ∈ lwG := lwG_in (List.mem_of_getElem? (i := 203) (by decide +kernel)) rfl
theorem zl_X2_123 : Cond.methodLink RX2 123 yJx4a65c_get_915e3 ∈ lwG := lwG_in (List.mem_of_getElem? (i := 173) (by decide +kernel)) rfl
theorem zl_X2_127 : Cond.methodLink RX2 127 yX2_riseByHours ∈ lwG := lwG_in (List.mem_of_getElem? (i := 585) (by decide +kernel)) rfl
theorem zl_X2_130 : Cond.methodLink RX2 130 yX2_countDisplaced ∈ lwG := lwG_in (List.mem_of_getElem? (i := 593) (by decide +kernel)) rfl
theorem zl_X2_137 : Cond.methodLink RX2 137 yX0_clear ∈ lwG := lwG_in (List.mem_of_getElem? (i := 153) (by decide +kernel)) rfl
theorem zl_X2_140 : Cond.methodLink RX2 140 yX2_matchOpenPlaces ∈ lwG := lwG_in (List.mem_of_getElem? (i := 157) (by decide +kernel)) rfl
theorem zl_X2_143 : Cond.methodLink RX2 143 yX2_takeInTurn ∈ lwG := lwG_in (List.mem_of_getElem? (i := 195) (by decide +kernel)) rfl
theorem zl_X2_146 : Cond.methodLink RX2 146 yX2_placeTaken ∈ lwG := lwG_in (List.mem_of_getElem? (i := 307) (by decide +kernel)) rfl
theorem zl_X2_151 : Cond.methodLink RX2 151 yX2_checkWorkHasNotBegun ∈ lwG := lwG_in (List.mem_of_getElem? (i := 614) (by decide +kernel)) rfl
theorem zl_X2_156 : Cond.methodLink RX2 156 yX1_isAtWork ∈ lwG := lwG_in (List.mem_of_getElem? (i := 339) (by decide +kernel)) rfl
theorem zl_X2_165 : Cond.methodLink RX2 165 yX1_stopWork ∈ lwG := lwG_in (List.mem_of_getElem? (i := 343) (by decide +kernel)) rfl
theorem zl_X2_169 : Cond.methodLink RX2 169 yX2_checkPlace ∈ lwG := lwG_in (List.mem_of_getElem? (i := 635) (by decide +kernel)) rfl
theorem zl_X2_172 : Cond.methodLink RX2 172 yX2_isOpen ∈ lwG := lwG_in (List.mem_of_getElem? (i := 161) (by decide +kernel)) rfl
theorem zl_X2_178 : Cond.methodLink RX2 178 yX1_isReady ∈ lwG := lwG_in (List.mem_of_getElem? (i := 262) (by decide +kernel)) rfl
theorem zl_X2_181 : Cond.methodLink RX2 181 yX1_hasSkill ∈ lwG := lwG_in (List.mem_of_getElem? (i := 319) (by decide +kernel)) rfl
theorem zl_X2_184 : Cond.methodLink RX2 184 yX2_startWork ∈ lwG := lwG_in (List.mem_of_getElem? (i := 331) (by decide +kernel)) rfl
theorem zl_X2_188 : Cond.methodLink RX2 188 yX2_countRefusal ∈ lwG := lwG_in (List.mem_of_getElem? (i := 270) (by decide +kernel)) rfl
theorem zl_X2_194 : Cond.methodLink RX2 194 yX2_hoursOwed ∈ lwG := lwG_in (List.mem_of_getElem? (i := 648) (by decide +kernel)) rfl
theorem zl_X2_201 : Cond.methodLink RX2 201 yX2_holderOf ∈ lwG := lwG_in (List.mem_of_getElem? (i := 165) (by decide +kernel)) rfl
theorem zl_X2_204 : Cond.methodLink RX2 204 yX0_addWorker ∈ lwG := lwG_in (List.mem_of_getElem? (i := 303) (by decide +kernel)) rfl
theorem zl_X2_207 : Cond.methodLink RX2 207 yX0_mostPlaced ∈ lwG := lwG_in (List.mem_of_getElem? (i := 359) (by decide +kernel)) rfl
theorem zl_X2_214 : Cond.methodLink RX2 214 ⟨"java/util/NoSuchElementException", "<init>", "(Ljava/lang/String;)V"⟩ ∈ lwG := lwG_in (List.mem_of_getElem? (i := 532) (by decide +kernel)) rfl
theorem zl_X2_225 : Cond.methodLink RX2 225 yJx4a65c_remove_915e3 ∈ lwG := lwG_in (List.mem_of_getElem? (i := 282) (by decide +kernel)) rfl
theorem zl_X2_228 : Cond.methodLink RX2 228 yJx4a65c_add_7a177 ∈ lwG := lwG_in (List.mem_of_getElem? (i := 295) (by decide +kernel)) rfl
theorem zl_X2_232 : Cond.methodLink RX2 232 yJx4a65c_clear_da8c8 ∈ lwG := lwG_in (List.mem_of_getElem? (i := 199) (by decide +kernel)) rfl
theorem zl_X2_233 : Cond.methodLink RX2 233 yJx4a65c_add_9ea2d ∈ lwG := lwG_in (List.mem_of_getElem? (i := 207) (by decide +kernel)) rfl
theorem zl_X2_236 : Cond.methodLink RX2 236 yJx4a65c_set_bcc79 ∈ lwG := lwG_in (List.mem_of_getElem? (i := 589) (by decide +kernel)) rfl
theorem zl_X2_240 : Cond.methodLink RX2 240 yX0_addPlace ∈ lwG := lwG_in (List.mem_of_getElem? (i := 188) (by decide +kernel)) rfl
theorem zl_X2_243 : Cond.methodLink RX2 243 yX0_canPlaceAlso ∈ lwG := lwG_in (List.mem_of_getElem? (i := 266) (by decide +kernel)) rfl
theorem zl_X2_246 : Cond.methodLink RX2 246 yX0_removeWorker ∈ lwG := lwG_in (List.mem_of_getElem? (i := 311) (by decide +kernel)) rfl
theorem zl_X2_249 : Cond.methodLink RX2 249 yX2_lowestPlaceFor ∈ lwG := lwG_in (List.mem_of_getElem? (i := 315) (by decide +kernel)) rfl
theorem zl_X2_252 : Cond.methodLink RX2 252 yX0_removePlace ∈ lwG := lwG_in (List.mem_of_getElem? (i := 327) (by decide +kernel)) rfl
theorem zl_X2_255 : Cond.methodLink RX2 255 yX0_canSpare ∈ lwG := lwG_in (List.mem_of_getElem? (i := 323) (by decide +kernel)) rfl
theorem zl_X2_261 : Cond.methodLink RX2 261 yX2_sendToBottom ∈ lwG := lwG_in (List.mem_of_getElem? (i := 274) (by decide +kernel)) rfl
theorem zl_X0_3 : Cond.methodLink RX0 3 objectInit ∈ lwG := lwG_in (List.mem_of_getElem? (i := 99) (by decide +kernel)) rfl
theorem zl_X0_18 : Cond.methodLink RX0 18 yX0_oneIfWithin ∈ lwG := lwG_in (List.mem_of_getElem? (i := 192) (by decide +kernel)) rfl
theorem zl_X0_22 : Cond.methodLink RX0 22 yJ9_max_7cf53 ∈ lwG := lwG_in (List.mem_of_getElem? (i := 363) (by decide +kernel)) rfl
theorem zl_X1_3 : Cond.methodLink RX1 3 objectInit ∈ lwG := lwG_in (List.mem_of_getElem? (i := 468) (by decide +kernel)) rfl
theorem zl_L_7 : Cond.methodLink RL 7 yX2_signOn ∈ lwG := lwG_in (List.mem_of_getElem? (i := 369) (by decide +kernel)) rfl
theorem zl_L_17 : Cond.methodLink RL 17 yX2_signOff ∈ lwG := lwG_in (List.mem_of_getElem? (i := 514) (by decide +kernel)) rfl
theorem zl_L_23 : Cond.methodLink RL 23 yX2_setSkills ∈ lwG := lwG_in (List.mem_of_getElem? (i := 545) (by decide +kernel)) rfl
theorem zl_L_26 : Cond.methodLink RL 26 yX2_move ∈ lwG := lwG_in (List.mem_of_getElem? (i := 552) (by decide +kernel)) rfl
theorem zl_L_29 : Cond.methodLink RL 29 yX2_setAway ∈ lwG := lwG_in (List.mem_of_getElem? (i := 559) (by decide +kernel)) rfl
theorem zl_L_33 : Cond.methodLink RL 33 yX2_setRefusing ∈ lwG := lwG_in (List.mem_of_getElem? (i := 566) (by decide +kernel)) rfl
theorem zl_L_36 : Cond.methodLink RL 36 yX2_setRule ∈ lwG := lwG_in (List.mem_of_getElem? (i := 573) (by decide +kernel)) rfl
theorem zl_L_40 : Cond.methodLink RL 40 yX2_equalise ∈ lwG := lwG_in (List.mem_of_getElem? (i := 581) (by decide +kernel)) rfl
theorem zl_L_43 : Cond.methodLink RL 43 yX2_order ∈ lwG := lwG_in (List.mem_of_getElem? (i := 600) (by decide +kernel)) rfl
theorem zl_L_46 : Cond.methodLink RL 46 yX2_setHours ∈ lwG := lwG_in (List.mem_of_getElem? (i := 609) (by decide +kernel)) rfl
theorem zl_L_49 : Cond.methodLink RL 49 yX2_leave ∈ lwG := lwG_in (List.mem_of_getElem? (i := 622) (by decide +kernel)) rfl
theorem zl_L_52 : Cond.methodLink RL 52 yX2_replace ∈ lwG := lwG_in (List.mem_of_getElem? (i := 631) (by decide +kernel)) rfl
theorem zl_L_55 : Cond.methodLink RL 55 yX2_endPeriod ∈ lwG := lwG_in (List.mem_of_getElem? (i := 644) (by decide +kernel)) rfl
theorem zl_L_59 : Cond.methodLink RL 59 yX2_boardOf ∈ lwG := lwG_in (List.mem_of_getElem? (i := 655) (by decide +kernel)) rfl
theorem zl_L_62 : Cond.methodLink RL 62 yX2_rankOf ∈ lwG := lwG_in (List.mem_of_getElem? (i := 662) (by decide +kernel)) rfl
theorem zl_L_65 : Cond.methodLink RL 65 yX2_hoursOf ∈ lwG := lwG_in (List.mem_of_getElem? (i := 669) (by decide +kernel)) rfl
theorem zl_L_68 : Cond.methodLink RL 68 yX2_refusalsOf ∈ lwG := lwG_in (List.mem_of_getElem? (i := 676) (by decide +kernel)) rfl
theorem zl_L_71 : Cond.methodLink RL 71 yX2_placeOf ∈ lwG := lwG_in (List.mem_of_getElem? (i := 683) (by decide +kernel)) rfl
theorem zl_L_74 : Cond.methodLink RL 74 yX2_owedTo ∈ lwG := lwG_in (List.mem_of_getElem? (i := 690) (by decide +kernel)) rfl
theorem zl_L_77 : Cond.methodLink RL 77 yX2_workerAt ∈ lwG := lwG_in (List.mem_of_getElem? (i := 697) (by decide +kernel)) rfl
theorem zl_L_80 : Cond.methodLink RL 80 yX2_nextUp ∈ lwG := lwG_in (List.mem_of_getElem? (i := 704) (by decide +kernel)) rfl
theorem zl_L_83 : Cond.methodLink RL 83 yX2_init ∈ lwG := lwG_in (List.mem_of_getElem? (i := 62) (by decide +kernel)) rfl
theorem zl_L_86 : Cond.methodLink RL 86 yX3_init ∈ lwG := lwG_in (List.mem_of_getElem? (i := 710) (by decide +kernel)) rfl
theorem zl_L_87 : Cond.methodLink RL 87 yL_signOn ∈ lwG := lwG_in (List.mem_of_getElem? (i := 364) (by decide +kernel)) rfl
theorem zl_L_92 : Cond.methodLink RL 92 yX3_signOn ∈ lwG := lwG_in (List.mem_of_getElem? (i := 797) (by decide +kernel)) rfl
theorem zl_L_93 : Cond.methodLink RL 93 yX3_thrown ∈ lwG := lwG_in (List.mem_of_getElem? (i := 793) (by decide +kernel)) rfl
theorem zl_L_96 : Cond.methodLink RL 96 yL_signOff ∈ lwG := lwG_in (List.mem_of_getElem? (i := 510) (by decide +kernel)) rfl
theorem zl_L_99 : Cond.methodLink RL 99 yX3_signOff ∈ lwG := lwG_in (List.mem_of_getElem? (i := 819) (by decide +kernel)) rfl
theorem zl_L_100 : Cond.methodLink RL 100 yL_setSkills ∈ lwG := lwG_in (List.mem_of_getElem? (i := 542) (by decide +kernel)) rfl
theorem zl_L_102 : Cond.methodLink RL 102 yX3_setSkills ∈ lwG := lwG_in (List.mem_of_getElem? (i := 827) (by decide +kernel)) rfl
theorem zl_L_103 : Cond.methodLink RL 103 yL_move ∈ lwG := lwG_in (List.mem_of_getElem? (i := 549) (by decide +kernel)) rfl
theorem zl_L_105 : Cond.methodLink RL 105 yX3_move ∈ lwG := lwG_in (List.mem_of_getElem? (i := 831) (by decide +kernel)) rfl
theorem zl_L_106 : Cond.methodLink RL 106 yL_setAway ∈ lwG := lwG_in (List.mem_of_getElem? (i := 556) (by decide +kernel)) rfl
theorem zl_L_109 : Cond.methodLink RL 109 yX3_setAway ∈ lwG := lwG_in (List.mem_of_getElem? (i := 835) (by decide +kernel)) rfl
theorem zl_L_110 : Cond.methodLink RL 110 yL_setRefusing ∈ lwG := lwG_in (List.mem_of_getElem? (i := 563) (by decide +kernel)) rfl
theorem zl_L_112 : Cond.methodLink RL 112 yX3_setRefusing ∈ lwG := lwG_in (List.mem_of_getElem? (i := 839) (by decide +kernel)) rfl
theorem zl_L_113 : Cond.methodLink RL 113 yL_setRule ∈ lwG := lwG_in (List.mem_of_getElem? (i := 570) (by decide +kernel)) rfl
theorem zl_L_116 : Cond.methodLink RL 116 yX3_setRule ∈ lwG := lwG_in (List.mem_of_getElem? (i := 843) (by decide +kernel)) rfl
theorem zl_L_117 : Cond.methodLink RL 117 yL_equalise ∈ lwG := lwG_in (List.mem_of_getElem? (i := 578) (by decide +kernel)) rfl
theorem zl_L_119 : Cond.methodLink RL 119 yX3_equalise ∈ lwG := lwG_in (List.mem_of_getElem? (i := 847) (by decide +kernel)) rfl
theorem zl_L_120 : Cond.methodLink RL 120 yL_order ∈ lwG := lwG_in (List.mem_of_getElem? (i := 597) (by decide +kernel)) rfl
theorem zl_L_122 : Cond.methodLink RL 122 yX3_order ∈ lwG := lwG_in (List.mem_of_getElem? (i := 863) (by decide +kernel)) rfl
theorem zl_L_123 : Cond.methodLink RL 123 yX2_dispatch ∈ lwG := lwG_in (List.mem_of_getElem? (i := 149) (by decide +kernel)) rfl
theorem zl_L_126 : Cond.methodLink RL 126 yX3_dispatch ∈ lwG := lwG_in (List.mem_of_getElem? (i := 867) (by decide +kernel)) rfl
theorem zl_L_127 : Cond.methodLink RL 127 yL_setHours ∈ lwG := lwG_in (List.mem_of_getElem? (i := 606) (by decide +kernel)) rfl
theorem zl_L_129 : Cond.methodLink RL 129 yX3_setHours ∈ lwG := lwG_in (List.mem_of_getElem? (i := 895) (by decide +kernel)) rfl
theorem zl_L_130 : Cond.methodLink RL 130 yL_leave ∈ lwG := lwG_in (List.mem_of_getElem? (i := 619) (by decide +kernel)) rfl
theorem zl_L_132 : Cond.methodLink RL 132 yX3_leave ∈ lwG := lwG_in (List.mem_of_getElem? (i := 899) (by decide +kernel)) rfl
theorem zl_L_133 : Cond.methodLink RL 133 yL_replace ∈ lwG := lwG_in (List.mem_of_getElem? (i := 628) (by decide +kernel)) rfl
theorem zl_L_135 : Cond.methodLink RL 135 yX3_replace ∈ lwG := lwG_in (List.mem_of_getElem? (i := 907) (by decide +kernel)) rfl
theorem zl_L_136 : Cond.methodLink RL 136 yX2_endShift ∈ lwG := lwG_in (List.mem_of_getElem? (i := 335) (by decide +kernel)) rfl
theorem zl_L_139 : Cond.methodLink RL 139 yX3_endShift ∈ lwG := lwG_in (List.mem_of_getElem? (i := 915) (by decide +kernel)) rfl
theorem zl_L_140 : Cond.methodLink RL 140 yL_endPeriod ∈ lwG := lwG_in (List.mem_of_getElem? (i := 641) (by decide +kernel)) rfl
theorem zl_L_143 : Cond.methodLink RL 143 yX3_endPeriod ∈ lwG := lwG_in (List.mem_of_getElem? (i := 919) (by decide +kernel)) rfl
theorem zl_L_144 : Cond.methodLink RL 144 yX2_workers ∈ lwG := lwG_in (List.mem_of_getElem? (i := 347) (by decide +kernel)) rfl
theorem zl_L_147 : Cond.methodLink RL 147 yX3_workers ∈ lwG := lwG_in (List.mem_of_getElem? (i := 927) (by decide +kernel)) rfl
theorem zl_L_148 : Cond.methodLink RL 148 yL_boardOf ∈ lwG := lwG_in (List.mem_of_getElem? (i := 652) (by decide +kernel)) rfl
theorem zl_L_150 : Cond.methodLink RL 150 yX3_boardOf ∈ lwG := lwG_in (List.mem_of_getElem? (i := 931) (by decide +kernel)) rfl
theorem zl_L_151 : Cond.methodLink RL 151 yL_rankOf ∈ lwG := lwG_in (List.mem_of_getElem? (i := 659) (by decide +kernel)) rfl
theorem zl_L_153 : Cond.methodLink RL 153 yX3_rankOf ∈ lwG := lwG_in (List.mem_of_getElem? (i := 935) (by decide +kernel)) rfl
theorem zl_L_154 : Cond.methodLink RL 154 yL_hoursOf ∈ lwG := lwG_in (List.mem_of_getElem? (i := 666) (by decide +kernel)) rfl
theorem zl_L_156 : Cond.methodLink RL 156 yX3_hoursOf ∈ lwG := lwG_in (List.mem_of_getElem? (i := 939) (by decide +kernel)) rfl
theorem zl_L_157 : Cond.methodLink RL 157 yL_refusalsOf ∈ lwG := lwG_in (List.mem_of_getElem? (i := 673) (by decide +kernel)) rfl
theorem zl_L_159 : Cond.methodLink RL 159 yX3_refusalsOf ∈ lwG := lwG_in (List.mem_of_getElem? (i := 943) (by decide +kernel)) rfl
theorem zl_L_160 : Cond.methodLink RL 160 yL_placeOf ∈ lwG := lwG_in (List.mem_of_getElem? (i := 680) (by decide +kernel)) rfl
theorem zl_L_162 : Cond.methodLink RL 162 yX3_placeOf ∈ lwG := lwG_in (List.mem_of_getElem? (i := 947) (by decide +kernel)) rfl
theorem zl_L_163 : Cond.methodLink RL 163 yL_owedTo ∈ lwG := lwG_in (List.mem_of_getElem? (i := 687) (by decide +kernel)) rfl
theorem zl_L_165 : Cond.methodLink RL 165 yX3_owedTo ∈ lwG := lwG_in (List.mem_of_getElem? (i := 951) (by decide +kernel)) rfl
theorem zl_L_166 : Cond.methodLink RL 166 yX2_places ∈ lwG := lwG_in (List.mem_of_getElem? (i := 351) (by decide +kernel)) rfl
theorem zl_L_169 : Cond.methodLink RL 169 yX3_places ∈ lwG := lwG_in (List.mem_of_getElem? (i := 955) (by decide +kernel)) rfl
theorem zl_L_170 : Cond.methodLink RL 170 yL_workerAt ∈ lwG := lwG_in (List.mem_of_getElem? (i := 694) (by decide +kernel)) rfl
theorem zl_L_172 : Cond.methodLink RL 172 yX3_workerAt ∈ lwG := lwG_in (List.mem_of_getElem? (i := 959) (by decide +kernel)) rfl
theorem zl_L_173 : Cond.methodLink RL 173 yL_nextUp ∈ lwG := lwG_in (List.mem_of_getElem? (i := 701) (by decide +kernel)) rfl
theorem zl_L_175 : Cond.methodLink RL 175 yX3_nextUp ∈ lwG := lwG_in (List.mem_of_getElem? (i := 963) (by decide +kernel)) rfl
theorem zl_L_176 : Cond.methodLink RL 176 yX2_fillable ∈ lwG := lwG_in (List.mem_of_getElem? (i := 355) (by decide +kernel)) rfl
theorem zl_L_179 : Cond.methodLink RL 179 yX3_fillable ∈ lwG := lwG_in (List.mem_of_getElem? (i := 967) (by decide +kernel)) rfl
theorem zl_X3_1 : Cond.methodLink RX3 1 objectInit ∈ lwG := lwG_in (List.mem_of_getElem? (i := 713) (by decide +kernel)) rfl
theorem zl_X3_72 : Cond.methodLink RX3 72 yX3_in ∈ lwG := lwG_in (List.mem_of_getElem? (i := 804) (by decide +kernel)) rfl
theorem zl_X3_79 : Cond.methodLink RX3 79 yX3_isBefore ∈ lwG := lwG_in (List.mem_of_getElem? (i := 855) (by decide +kernel)) rfl
theorem zl_X3_83 : Cond.methodLink RX3 83 yX3_isBoard ∈ lwG := lwG_in (List.mem_of_getElem? (i := 801) (by decide +kernel)) rfl
theorem zl_X3_87 : Cond.methodLink RX3 87 yX3_count ∈ lwG := lwG_in (List.mem_of_getElem? (i := 807) (by decide +kernel)) rfl
theorem zl_X3_91 : Cond.methodLink RX3 91 yX3_goes ∈ lwG := lwG_in (List.mem_of_getElem? (i := 811) (by decide +kernel)) rfl
theorem zl_X3_98 : Cond.methodLink RX3 98 yX3_lowers ∈ lwG := lwG_in (List.mem_of_getElem? (i := 815) (by decide +kernel)) rfl
theorem zl_X3_102 : Cond.methodLink RX3 102 yX3_kept ∈ lwG := lwG_in (List.mem_of_getElem? (i := 823) (by decide +kernel)) rfl
theorem zl_X3_106 : Cond.methodLink RX3 106 yX3_lineUp ∈ lwG := lwG_in (List.mem_of_getElem? (i := 851) (by decide +kernel)) rfl
theorem zl_X3_109 : Cond.methodLink RX3 109 yX3_rank ∈ lwG := lwG_in (List.mem_of_getElem? (i := 859) (by decide +kernel)) rfl
theorem zl_X3_122 : Cond.methodLink RX3 122 yX3_canAll ∈ lwG := lwG_in (List.mem_of_getElem? (i := 879) (by decide +kernel)) rfl
theorem zl_X3_125 : Cond.methodLink RX3 125 yX3_fills ∈ lwG := lwG_in (List.mem_of_getElem? (i := 891) (by decide +kernel)) rfl
theorem zl_X3_129 : Cond.methodLink RX3 129 yX3_countOpen ∈ lwG := lwG_in (List.mem_of_getElem? (i := 871) (by decide +kernel)) rfl
theorem zl_X3_132 : Cond.methodLink RX3 132 yX3_isReady ∈ lwG := lwG_in (List.mem_of_getElem? (i := 875) (by decide +kernel)) rfl
theorem zl_X3_135 : Cond.methodLink RX3 135 yX3_refuses ∈ lwG := lwG_in (List.mem_of_getElem? (i := 883) (by decide +kernel)) rfl
theorem zl_X3_138 : Cond.methodLink RX3 138 yX3_gives ∈ lwG := lwG_in (List.mem_of_getElem? (i := 887) (by decide +kernel)) rfl
theorem zl_X3_144 : Cond.methodLink RX3 144 yX3_works ∈ lwG := lwG_in (List.mem_of_getElem? (i := 903) (by decide +kernel)) rfl
theorem zl_X3_147 : Cond.methodLink RX3 147 yX3_isPlace ∈ lwG := lwG_in (List.mem_of_getElem? (i := 911) (by decide +kernel)) rfl
theorem zl_X3_150 : Cond.methodLink RX3 150 yX3_owes ∈ lwG := lwG_in (List.mem_of_getElem? (i := 923) (by decide +kernel)) rfl
theorem zl_Jxa1e45_1 : Cond.methodLink RJxa1e45 1 objectInit ∈ lwG := lwG_in (List.mem_of_getElem? (i := 79) (by decide +kernel)) rfl
theorem zl_Jxc12de_1 : Cond.methodLink RJxc12de 1 yJxa1e45_init_da8c8 ∈ lwG := lwG_in (List.mem_of_getElem? (i := 76) (by decide +kernel)) rfl
theorem zl_Jx4a65c_1 : Cond.methodLink RJx4a65c 1 yJxc12de_init_da8c8 ∈ lwG := lwG_in (List.mem_of_getElem? (i := 73) (by decide +kernel)) rfl
theorem zl_Jx4a65c_66 : Cond.methodLink RJx4a65c 66 yJ7_copyOf_1904c ∈ lwG := lwG_in (List.mem_of_getElem? (i := 233) (by decide +kernel)) rfl
theorem zl_Jx4a65c_69 : Cond.methodLink RJx4a65c 69 yJx4a65c_grow_92f84 ∈ lwG := lwG_in (List.mem_of_getElem? (i := 219) (by decide +kernel)) rfl
theorem zl_Jx4a65c_73 : Cond.methodLink RJx4a65c 73 yJ8_newLength_cabcc ∈ lwG := lwG_in (List.mem_of_getElem? (i := 223) (by decide +kernel)) rfl
theorem zl_Jx4a65c_79 : Cond.methodLink RJx4a65c 79 yJ9_max_7cf53 ∈ lwG := lwG_in (List.mem_of_getElem? (i := 260) (by decide +kernel)) rfl
theorem zl_Jx4a65c_112 : Cond.methodLink RJx4a65c 112 arraycopyName ∈ lwG := lwG_in (List.mem_of_getElem? (i := 290) (by decide +kernel)) rfl
theorem zl_Jx4a65c_118 : Cond.methodLink RJx4a65c 118 yJ15_checkIndex_7cf53 ∈ lwG := lwG_in (List.mem_of_getElem? (i := 177) (by decide +kernel)) rfl
theorem zl_Jx4a65c_123 : Cond.methodLink RJx4a65c 123 yJx4a65c_elementData_915e3 ∈ lwG := lwG_in (List.mem_of_getElem? (i := 183) (by decide +kernel)) rfl
theorem zl_Jx4a65c_129 : Cond.methodLink RJx4a65c 129 yJx4a65c_grow_d5877 ∈ lwG := lwG_in (List.mem_of_getElem? (i := 215) (by decide +kernel)) rfl
theorem zl_Jx4a65c_131 : Cond.methodLink RJx4a65c 131 yJx4a65c_add_72be8 ∈ lwG := lwG_in (List.mem_of_getElem? (i := 211) (by decide +kernel)) rfl
theorem zl_Jx4a65c_135 : Cond.methodLink RJx4a65c 135 yJx4a65c_rangeCheckForAdd_d00df ∈ lwG := lwG_in (List.mem_of_getElem? (i := 299) (by decide +kernel)) rfl
theorem zl_Jx4a65c_144 : Cond.methodLink RJx4a65c 144 yJx4a65c_fastRemove_b59b0 ∈ lwG := lwG_in (List.mem_of_getElem? (i := 286) (by decide +kernel)) rfl
theorem zl_J7_86 : Cond.methodLink RJ7 86 ⟨"java/lang/Object", "getClass", "()Ljava/lang/Class;"⟩ ∈ lwG := lwG_in (List.mem_of_getElem? (i := 236) (by decide +kernel)) rfl
theorem zl_J7_150 : Cond.methodLink RJ7 150 arraycopyName ∈ lwG := lwG_in (List.mem_of_getElem? (i := 257) (by decide +kernel)) rfl
theorem zl_J7_300 : Cond.methodLink RJ7 300 yJ7_copyOf_6403c ∈ lwG := lwG_in (List.mem_of_getElem? (i := 248) (by decide +kernel)) rfl
theorem zl_J7_304 : Cond.methodLink RJ7 304 yJ9_min_7cf53 ∈ lwG := lwG_in (List.mem_of_getElem? (i := 254) (by decide +kernel)) rfl
theorem zl_J15_105 : Cond.methodLink RJ15 105 yJ3_checkIndex_8e157 ∈ lwG := lwG_in (List.mem_of_getElem? (i := 180) (by decide +kernel)) rfl
theorem zl_J8_194 : Cond.methodLink RJ8 194 yJ9_max_7cf53 ∈ lwG := lwG_in (List.mem_of_getElem? (i := 226) (by decide +kernel)) rfl
theorem zl_J8_201 : Cond.methodLink RJ8 201 yJ8_hugeLength_7cf53 ∈ lwG := lwG_in (List.mem_of_getElem? (i := 230) (by decide +kernel)) rfl
theorem zu_Jx4a65c : ∀ w ∈ u_ws RJx4a65c TJx4a65c 3, w ∈ lwG := by
  have h : (u_ws RJx4a65c TJx4a65c 3).all (fun w => decide (w ∈ lw_tbl) && goodWord w) = true := by decide +kernel
  intro w hw
  have h1 := List.all_eq_true.mp h w hw
  simp only [Bool.and_eq_true, decide_eq_true_eq] at h1
  exact lwG_in h1.1 h1.2
theorem zu_X0 : ∀ w ∈ u_ws RX0 TX0 2, w ∈ lwG := by
  have h : (u_ws RX0 TX0 2).all (fun w => decide (w ∈ lw_tbl) && goodWord w) = true := by decide +kernel
  intro w hw
  have h1 := List.all_eq_true.mp h w hw
  simp only [Bool.and_eq_true, decide_eq_true_eq] at h1
  exact lwG_in h1.1 h1.2
theorem zu_X1 : ∀ w ∈ u_ws RX1 TX1 10, w ∈ lwG := by
  have h : (u_ws RX1 TX1 10).all (fun w => decide (w ∈ lw_tbl) && goodWord w) = true := by decide +kernel
  intro w hw
  have h1 := List.all_eq_true.mp h w hw
  simp only [Bool.and_eq_true, decide_eq_true_eq] at h1
  exact lwG_in h1.1 h1.2
theorem zu_X2 : ∀ w ∈ u_ws RX2 TX2 13, w ∈ lwG := by
  have h : (u_ws RX2 TX2 13).all (fun w => decide (w ∈ lw_tbl) && goodWord w) = true := by decide +kernel
  intro w hw
  have h1 := List.all_eq_true.mp h w hw
  simp only [Bool.and_eq_true, decide_eq_true_eq] at h1
  exact lwG_in h1.1 h1.2
theorem zu_X3 : ∀ w ∈ u_ws RX3 TX3 26, w ∈ lwG := by
  have h : (u_ws RX3 TX3 26).all (fun w => decide (w ∈ lw_tbl) && goodWord w) = true := by decide +kernel
  intro w hw
  have h1 := List.all_eq_true.mp h w hw
  simp only [Bool.and_eq_true, decide_eq_true_eq] at h1
  exact lwG_in h1.1 h1.2
theorem zw_X2_10 : Cond.fieldLink RX2 10 "HiringHall" "turn" "Ljava/util/ArrayList;" ∈ lwG := lwG_in (List.mem_of_getElem? (i := 108) (by decide +kernel)) rfl
theorem zf_X2_10 : zFL RX2 10 "HiringHall" 3 0 RX2 TX2 13 := ⟨rfl, by decide, zu_X2, zw_X2_10, Or.inl rfl⟩
theorem zp_X2_10 : zFP RX2 10 "HiringHall" 3 0 RX2 TX2 13 (.object "java/util/ArrayList") true := ⟨zf_X2_10, ⟨tyX2, tyX2_ok⟩, nmX2, rfl, by decide +kernel⟩
theorem zw_X2_16 : Cond.fieldLink RX2 16 "HiringHall" "turnBefore" "Ljava/util/ArrayList;" ∈ lwG := lwG_in (List.mem_of_getElem? (i := 109) (by decide +kernel)) rfl
theorem zf_X2_16 : zFL RX2 16 "HiringHall" 3 1 RX2 TX2 13 := ⟨rfl, by decide, zu_X2, zw_X2_16, Or.inl rfl⟩
theorem zp_X2_16 : zFP RX2 16 "HiringHall" 3 1 RX2 TX2 13 (.object "java/util/ArrayList") true := ⟨zf_X2_16, ⟨tyX2, tyX2_ok⟩, nmX2, rfl, by decide +kernel⟩
theorem zw_X2_19 : Cond.fieldLink RX2 19 "HiringHall" "taken" "Ljava/util/ArrayList;" ∈ lwG := lwG_in (List.mem_of_getElem? (i := 110) (by decide +kernel)) rfl
theorem zf_X2_19 : zFL RX2 19 "HiringHall" 3 2 RX2 TX2 13 := ⟨rfl, by decide, zu_X2, zw_X2_19, Or.inl rfl⟩
theorem zp_X2_19 : zFP RX2 19 "HiringHall" 3 2 RX2 TX2 13 (.object "java/util/ArrayList") true := ⟨zf_X2_19, ⟨tyX2, tyX2_ok⟩, nmX2, rfl, by decide +kernel⟩
theorem zw_X2_25 : Cond.fieldLink RX2 25 "HiringHall" "matching" "LHiringHall$Matching;" ∈ lwG := lwG_in (List.mem_of_getElem? (i := 111) (by decide +kernel)) rfl
theorem zf_X2_25 : zFL RX2 25 "HiringHall" 3 3 RX2 TX2 13 := ⟨rfl, by decide, zu_X2, zw_X2_25, Or.inl rfl⟩
theorem zp_X2_25 : zFP RX2 25 "HiringHall" 3 3 RX2 TX2 13 (.object "HiringHall$Matching") true := ⟨zf_X2_25, ⟨tyX2, tyX2_ok⟩, nmX2, rfl, by decide +kernel⟩
theorem zw_X2_29 : Cond.fieldLink RX2 29 "HiringHall" "refusalCosts" "[Z" ∈ lwG := lwG_in (List.mem_of_getElem? (i := 112) (by decide +kernel)) rfl
theorem zf_X2_29 : zFL RX2 29 "HiringHall" 3 4 RX2 TX2 13 := ⟨rfl, by decide, zu_X2, zw_X2_29, Or.inl rfl⟩
theorem zp_X2_29 : zFP RX2 29 "HiringHall" 3 4 RX2 TX2 13 (.array .boolean) true := ⟨zf_X2_29, ⟨tyX2, tyX2_ok⟩, nmX2, rfl, by decide +kernel⟩
theorem zw_X2_33 : Cond.fieldLink RX2 33 "HiringHall" "guaranteedHours" "[I" ∈ lwG := lwG_in (List.mem_of_getElem? (i := 113) (by decide +kernel)) rfl
theorem zf_X2_33 : zFL RX2 33 "HiringHall" 3 5 RX2 TX2 13 := ⟨rfl, by decide, zu_X2, zw_X2_33, Or.inl rfl⟩
theorem zp_X2_33 : zFP RX2 33 "HiringHall" 3 5 RX2 TX2 13 (.array .int) true := ⟨zf_X2_33, ⟨tyX2, tyX2_ok⟩, nmX2, rfl, by decide +kernel⟩
theorem zw_X2_37 : Cond.fieldLink RX2 37 "HiringHall" "skillNeeded" "[I" ∈ lwG := lwG_in (List.mem_of_getElem? (i := 114) (by decide +kernel)) rfl
theorem zf_X2_37 : zFL RX2 37 "HiringHall" 3 6 RX2 TX2 13 := ⟨rfl, by decide, zu_X2, zw_X2_37, Or.inl rfl⟩
theorem zp_X2_37 : zFP RX2 37 "HiringHall" 3 6 RX2 TX2 13 (.array .int) true := ⟨zf_X2_37, ⟨tyX2, tyX2_ok⟩, nmX2, rfl, by decide +kernel⟩
theorem zw_X2_40 : Cond.fieldLink RX2 40 "HiringHall" "nextNumber" "I" ∈ lwG := lwG_in (List.mem_of_getElem? (i := 115) (by decide +kernel)) rfl
theorem zf_X2_40 : zFL RX2 40 "HiringHall" 3 7 RX2 TX2 13 := ⟨rfl, by decide, zu_X2, zw_X2_40, Or.inl rfl⟩
theorem zp_X2_40 : zFP RX2 40 "HiringHall" 3 7 RX2 TX2 13 .int false := ⟨zf_X2_40, ⟨tyX2, tyX2_ok⟩, nmX2, rfl, by decide +kernel⟩
theorem zw_X2_44 : Cond.fieldLink RX2 44 "HiringHall" "placeCount" "I" ∈ lwG := lwG_in (List.mem_of_getElem? (i := 116) (by decide +kernel)) rfl
theorem zf_X2_44 : zFL RX2 44 "HiringHall" 3 8 RX2 TX2 13 := ⟨rfl, by decide, zu_X2, zw_X2_44, Or.inl rfl⟩
theorem zp_X2_44 : zFP RX2 44 "HiringHall" 3 8 RX2 TX2 13 .int false := ⟨zf_X2_44, ⟨tyX2, tyX2_ok⟩, nmX2, rfl, by decide +kernel⟩
theorem zw_X2_47 : Cond.fieldLink RX2 47 "HiringHall" "shiftHours" "I" ∈ lwG := lwG_in (List.mem_of_getElem? (i := 117) (by decide +kernel)) rfl
theorem zf_X2_47 : zFL RX2 47 "HiringHall" 3 9 RX2 TX2 13 := ⟨rfl, by decide, zu_X2, zw_X2_47, Or.inl rfl⟩
theorem zp_X2_47 : zFP RX2 47 "HiringHall" 3 9 RX2 TX2 13 .int false := ⟨zf_X2_47, ⟨tyX2, tyX2_ok⟩, nmX2, rfl, by decide +kernel⟩
theorem zw_X2_50 : Cond.fieldLink RX2 50 "HiringHall" "shiftHour" "I" ∈ lwG := lwG_in (List.mem_of_getElem? (i := 118) (by decide +kernel)) rfl
theorem zf_X2_50 : zFL RX2 50 "HiringHall" 3 10 RX2 TX2 13 := ⟨rfl, by decide, zu_X2, zw_X2_50, Or.inl rfl⟩
theorem zp_X2_50 : zFP RX2 50 "HiringHall" 3 10 RX2 TX2 13 .int false := ⟨zf_X2_50, ⟨tyX2, tyX2_ok⟩, nmX2, rfl, by decide +kernel⟩
theorem zw_X2_53 : Cond.fieldLink RX2 53 "HiringHall" "hoursOfLeavers" "I" ∈ lwG := lwG_in (List.mem_of_getElem? (i := 119) (by decide +kernel)) rfl
theorem zf_X2_53 : zFL RX2 53 "HiringHall" 3 11 RX2 TX2 13 := ⟨rfl, by decide, zu_X2, zw_X2_53, Or.inl rfl⟩
theorem zp_X2_53 : zFP RX2 53 "HiringHall" 3 11 RX2 TX2 13 .int false := ⟨zf_X2_53, ⟨tyX2, tyX2_ok⟩, nmX2, rfl, by decide +kernel⟩
theorem zw_X2_56 : Cond.fieldLink RX2 56 "HiringHall" "workHasBegun" "Z" ∈ lwG := lwG_in (List.mem_of_getElem? (i := 120) (by decide +kernel)) rfl
theorem zf_X2_56 : zFL RX2 56 "HiringHall" 3 12 RX2 TX2 13 := ⟨rfl, by decide, zu_X2, zw_X2_56, Or.inl rfl⟩
theorem zp_X2_56 : zFP RX2 56 "HiringHall" 3 12 RX2 TX2 13 .boolean false := ⟨zf_X2_56, ⟨tyX2, tyX2_ok⟩, nmX2, rfl, by decide +kernel⟩
theorem zw_X2_87 : Cond.fieldLink RX2 87 "HiringHall$Worker" "number" "I" ∈ lwG := lwG_in (List.mem_of_getElem? (i := 470) (by decide +kernel)) rfl
theorem zf_X2_87 : zFL RX2 87 "HiringHall$Worker" 2 0 RX1 TX1 10 := ⟨rfl, by decide, zu_X1, zw_X2_87, Or.inl rfl⟩
theorem zp_X2_87 : zFP RX2 87 "HiringHall$Worker" 2 0 RX1 TX1 10 .int true := ⟨zf_X2_87, ⟨tyX1, tyX1_ok⟩, nmX1, rfl, by decide +kernel⟩
theorem zw_X2_100 : Cond.fieldLink RX2 100 "HiringHall$Worker" "hours" "I" ∈ lwG := lwG_in (List.mem_of_getElem? (i := 480) (by decide +kernel)) rfl
theorem zf_X2_100 : zFL RX2 100 "HiringHall$Worker" 2 5 RX1 TX1 10 := ⟨rfl, by decide, zu_X1, zw_X2_100, Or.inl rfl⟩
theorem zp_X2_100 : zFP RX2 100 "HiringHall$Worker" 2 5 RX1 TX1 10 .int false := ⟨zf_X2_100, ⟨tyX1, tyX1_ok⟩, nmX1, rfl, by decide +kernel⟩
theorem zw_X2_103 : Cond.fieldLink RX2 103 "HiringHall$Worker" "skills" "I" ∈ lwG := lwG_in (List.mem_of_getElem? (i := 474) (by decide +kernel)) rfl
theorem zf_X2_103 : zFL RX2 103 "HiringHall$Worker" 2 2 RX1 TX1 10 := ⟨rfl, by decide, zu_X1, zw_X2_103, Or.inl rfl⟩
theorem zp_X2_103 : zFP RX2 103 "HiringHall$Worker" 2 2 RX1 TX1 10 .int false := ⟨zf_X2_103, ⟨tyX1, tyX1_ok⟩, nmX1, rfl, by decide +kernel⟩
theorem zw_X2_106 : Cond.fieldLink RX2 106 "HiringHall$Worker" "board" "I" ∈ lwG := lwG_in (List.mem_of_getElem? (i := 472) (by decide +kernel)) rfl
theorem zf_X2_106 : zFL RX2 106 "HiringHall$Worker" 2 1 RX1 TX1 10 := ⟨rfl, by decide, zu_X1, zw_X2_106, Or.inl rfl⟩
theorem zp_X2_106 : zFP RX2 106 "HiringHall$Worker" 2 1 RX1 TX1 10 .int false := ⟨zf_X2_106, ⟨tyX1, tyX1_ok⟩, nmX1, rfl, by decide +kernel⟩
theorem zw_X2_109 : Cond.fieldLink RX2 109 "HiringHall$Worker" "away" "Z" ∈ lwG := lwG_in (List.mem_of_getElem? (i := 476) (by decide +kernel)) rfl
theorem zf_X2_109 : zFL RX2 109 "HiringHall$Worker" 2 3 RX1 TX1 10 := ⟨rfl, by decide, zu_X1, zw_X2_109, Or.inl rfl⟩
theorem zp_X2_109 : zFP RX2 109 "HiringHall$Worker" 2 3 RX1 TX1 10 .boolean false := ⟨zf_X2_109, ⟨tyX1, tyX1_ok⟩, nmX1, rfl, by decide +kernel⟩
theorem zw_X2_112 : Cond.fieldLink RX2 112 "HiringHall$Worker" "refusing" "Z" ∈ lwG := lwG_in (List.mem_of_getElem? (i := 478) (by decide +kernel)) rfl
theorem zf_X2_112 : zFL RX2 112 "HiringHall$Worker" 2 4 RX1 TX1 10 := ⟨rfl, by decide, zu_X1, zw_X2_112, Or.inl rfl⟩
theorem zp_X2_112 : zFP RX2 112 "HiringHall$Worker" 2 4 RX1 TX1 10 .boolean false := ⟨zf_X2_112, ⟨tyX1, tyX1_ok⟩, nmX1, rfl, by decide +kernel⟩
theorem zw_X2_162 : Cond.fieldLink RX2 162 "HiringHall$Worker" "place" "I" ∈ lwG := lwG_in (List.mem_of_getElem? (i := 484) (by decide +kernel)) rfl
theorem zf_X2_162 : zFL RX2 162 "HiringHall$Worker" 2 7 RX1 TX1 10 := ⟨rfl, by decide, zu_X1, zw_X2_162, Or.inl rfl⟩
theorem zp_X2_162 : zFP RX2 162 "HiringHall$Worker" 2 7 RX1 TX1 10 .int false := ⟨zf_X2_162, ⟨tyX1, tyX1_ok⟩, nmX1, rfl, by decide +kernel⟩
theorem zw_X2_191 : Cond.fieldLink RX2 191 "HiringHall$Worker" "wasAtWork" "Z" ∈ lwG := lwG_in (List.mem_of_getElem? (i := 488) (by decide +kernel)) rfl
theorem zf_X2_191 : zFL RX2 191 "HiringHall$Worker" 2 9 RX1 TX1 10 := ⟨rfl, by decide, zu_X1, zw_X2_191, Or.inl rfl⟩
theorem zp_X2_191 : zFP RX2 191 "HiringHall$Worker" 2 9 RX1 TX1 10 .boolean false := ⟨zf_X2_191, ⟨tyX1, tyX1_ok⟩, nmX1, rfl, by decide +kernel⟩
theorem zw_X2_198 : Cond.fieldLink RX2 198 "HiringHall$Worker" "refusals" "I" ∈ lwG := lwG_in (List.mem_of_getElem? (i := 482) (by decide +kernel)) rfl
theorem zf_X2_198 : zFL RX2 198 "HiringHall$Worker" 2 6 RX1 TX1 10 := ⟨rfl, by decide, zu_X1, zw_X2_198, Or.inl rfl⟩
theorem zp_X2_198 : zFP RX2 198 "HiringHall$Worker" 2 6 RX1 TX1 10 .int false := ⟨zf_X2_198, ⟨tyX1, tyX1_ok⟩, nmX1, rfl, by decide +kernel⟩
theorem zw_X2_258 : Cond.fieldLink RX2 258 "HiringHall$Worker" "cameInAt" "I" ∈ lwG := lwG_in (List.mem_of_getElem? (i := 486) (by decide +kernel)) rfl
theorem zf_X2_258 : zFL RX2 258 "HiringHall$Worker" 2 8 RX1 TX1 10 := ⟨rfl, by decide, zu_X1, zw_X2_258, Or.inl rfl⟩
theorem zp_X2_258 : zFP RX2 258 "HiringHall$Worker" 2 8 RX1 TX1 10 .int false := ⟨zf_X2_258, ⟨tyX1, tyX1_ok⟩, nmX1, rfl, by decide +kernel⟩
theorem zw_X0_9 : Cond.fieldLink RX0 9 "HiringHall$Matching" "workersWithin" "[I" ∈ lwG := lwG_in (List.mem_of_getElem? (i := 100) (by decide +kernel)) rfl
theorem zf_X0_9 : zFL RX0 9 "HiringHall$Matching" 1 0 RX0 TX0 2 := ⟨rfl, by decide, zu_X0, zw_X0_9, Or.inl rfl⟩
theorem zp_X0_9 : zFP RX0 9 "HiringHall$Matching" 1 0 RX0 TX0 2 (.array .int) true := ⟨zf_X0_9, ⟨tyX0, tyX0_ok⟩, nmX0, rfl, by decide +kernel⟩
theorem zw_X0_15 : Cond.fieldLink RX0 15 "HiringHall$Matching" "placesWithin" "[I" ∈ lwG := lwG_in (List.mem_of_getElem? (i := 101) (by decide +kernel)) rfl
theorem zf_X0_15 : zFL RX0 15 "HiringHall$Matching" 1 1 RX0 TX0 2 := ⟨rfl, by decide, zu_X0, zw_X0_15, Or.inl rfl⟩
theorem zp_X0_15 : zFP RX0 15 "HiringHall$Matching" 1 1 RX0 TX0 2 (.array .int) true := ⟨zf_X0_15, ⟨tyX0, tyX0_ok⟩, nmX0, rfl, by decide +kernel⟩
theorem zw_X1_9 : Cond.fieldLink RX1 9 "HiringHall$Worker" "away" "Z" ∈ lwG := lwG_in (List.mem_of_getElem? (i := 475) (by decide +kernel)) rfl
theorem zf_X1_9 : zFL RX1 9 "HiringHall$Worker" 2 3 RX1 TX1 10 := ⟨rfl, by decide, zu_X1, zw_X1_9, Or.inl rfl⟩
theorem zp_X1_9 : zFP RX1 9 "HiringHall$Worker" 2 3 RX1 TX1 10 .boolean false := ⟨zf_X1_9, ⟨tyX1, tyX1_ok⟩, nmX1, rfl, by decide +kernel⟩
theorem zw_X1_15 : Cond.fieldLink RX1 15 "HiringHall$Worker" "refusing" "Z" ∈ lwG := lwG_in (List.mem_of_getElem? (i := 477) (by decide +kernel)) rfl
theorem zf_X1_15 : zFL RX1 15 "HiringHall$Worker" 2 4 RX1 TX1 10 := ⟨rfl, by decide, zu_X1, zw_X1_15, Or.inl rfl⟩
theorem zp_X1_15 : zFP RX1 15 "HiringHall$Worker" 2 4 RX1 TX1 10 .boolean false := ⟨zf_X1_15, ⟨tyX1, tyX1_ok⟩, nmX1, rfl, by decide +kernel⟩
theorem zw_X1_18 : Cond.fieldLink RX1 18 "HiringHall$Worker" "hours" "I" ∈ lwG := lwG_in (List.mem_of_getElem? (i := 479) (by decide +kernel)) rfl
theorem zf_X1_18 : zFL RX1 18 "HiringHall$Worker" 2 5 RX1 TX1 10 := ⟨rfl, by decide, zu_X1, zw_X1_18, Or.inl rfl⟩
theorem zp_X1_18 : zFP RX1 18 "HiringHall$Worker" 2 5 RX1 TX1 10 .int false := ⟨zf_X1_18, ⟨tyX1, tyX1_ok⟩, nmX1, rfl, by decide +kernel⟩
theorem zw_X1_22 : Cond.fieldLink RX1 22 "HiringHall$Worker" "refusals" "I" ∈ lwG := lwG_in (List.mem_of_getElem? (i := 481) (by decide +kernel)) rfl
theorem zf_X1_22 : zFL RX1 22 "HiringHall$Worker" 2 6 RX1 TX1 10 := ⟨rfl, by decide, zu_X1, zw_X1_22, Or.inl rfl⟩
theorem zp_X1_22 : zFP RX1 22 "HiringHall$Worker" 2 6 RX1 TX1 10 .int false := ⟨zf_X1_22, ⟨tyX1, tyX1_ok⟩, nmX1, rfl, by decide +kernel⟩
theorem zw_X1_25 : Cond.fieldLink RX1 25 "HiringHall$Worker" "place" "I" ∈ lwG := lwG_in (List.mem_of_getElem? (i := 483) (by decide +kernel)) rfl
theorem zf_X1_25 : zFL RX1 25 "HiringHall$Worker" 2 7 RX1 TX1 10 := ⟨rfl, by decide, zu_X1, zw_X1_25, Or.inl rfl⟩
theorem zp_X1_25 : zFP RX1 25 "HiringHall$Worker" 2 7 RX1 TX1 10 .int false := ⟨zf_X1_25, ⟨tyX1, tyX1_ok⟩, nmX1, rfl, by decide +kernel⟩
theorem zw_X1_28 : Cond.fieldLink RX1 28 "HiringHall$Worker" "cameInAt" "I" ∈ lwG := lwG_in (List.mem_of_getElem? (i := 485) (by decide +kernel)) rfl
theorem zf_X1_28 : zFL RX1 28 "HiringHall$Worker" 2 8 RX1 TX1 10 := ⟨rfl, by decide, zu_X1, zw_X1_28, Or.inl rfl⟩
theorem zp_X1_28 : zFP RX1 28 "HiringHall$Worker" 2 8 RX1 TX1 10 .int false := ⟨zf_X1_28, ⟨tyX1, tyX1_ok⟩, nmX1, rfl, by decide +kernel⟩
theorem zw_X1_31 : Cond.fieldLink RX1 31 "HiringHall$Worker" "wasAtWork" "Z" ∈ lwG := lwG_in (List.mem_of_getElem? (i := 487) (by decide +kernel)) rfl
theorem zf_X1_31 : zFL RX1 31 "HiringHall$Worker" 2 9 RX1 TX1 10 := ⟨rfl, by decide, zu_X1, zw_X1_31, Or.inl rfl⟩
theorem zp_X1_31 : zFP RX1 31 "HiringHall$Worker" 2 9 RX1 TX1 10 .boolean false := ⟨zf_X1_31, ⟨tyX1, tyX1_ok⟩, nmX1, rfl, by decide +kernel⟩
theorem zw_X1_34 : Cond.fieldLink RX1 34 "HiringHall$Worker" "number" "I" ∈ lwG := lwG_in (List.mem_of_getElem? (i := 469) (by decide +kernel)) rfl
theorem zf_X1_34 : zFL RX1 34 "HiringHall$Worker" 2 0 RX1 TX1 10 := ⟨rfl, by decide, zu_X1, zw_X1_34, Or.inl rfl⟩
theorem zp_X1_34 : zFP RX1 34 "HiringHall$Worker" 2 0 RX1 TX1 10 .int true := ⟨zf_X1_34, ⟨tyX1, tyX1_ok⟩, nmX1, rfl, by decide +kernel⟩
theorem zw_X1_37 : Cond.fieldLink RX1 37 "HiringHall$Worker" "board" "I" ∈ lwG := lwG_in (List.mem_of_getElem? (i := 471) (by decide +kernel)) rfl
theorem zf_X1_37 : zFL RX1 37 "HiringHall$Worker" 2 1 RX1 TX1 10 := ⟨rfl, by decide, zu_X1, zw_X1_37, Or.inl rfl⟩
theorem zp_X1_37 : zFP RX1 37 "HiringHall$Worker" 2 1 RX1 TX1 10 .int false := ⟨zf_X1_37, ⟨tyX1, tyX1_ok⟩, nmX1, rfl, by decide +kernel⟩
theorem zw_X1_40 : Cond.fieldLink RX1 40 "HiringHall$Worker" "skills" "I" ∈ lwG := lwG_in (List.mem_of_getElem? (i := 473) (by decide +kernel)) rfl
theorem zf_X1_40 : zFL RX1 40 "HiringHall$Worker" 2 2 RX1 TX1 10 := ⟨rfl, by decide, zu_X1, zw_X1_40, Or.inl rfl⟩
theorem zp_X1_40 : zFP RX1 40 "HiringHall$Worker" 2 2 RX1 TX1 10 .int false := ⟨zf_X1_40, ⟨tyX1, tyX1_ok⟩, nmX1, rfl, by decide +kernel⟩
theorem zw_X3_7 : Cond.fieldLink RX3 7 "HiringHallModel" "numbers" "[I" ∈ lwG := lwG_in (List.mem_of_getElem? (i := 714) (by decide +kernel)) rfl
theorem zf_X3_7 : zFL RX3 7 "HiringHallModel" 4 0 RX3 TX3 26 := ⟨rfl, by decide, zu_X3, zw_X3_7, Or.inl rfl⟩
theorem zp_X3_7 : zFP RX3 7 "HiringHallModel" 4 0 RX3 TX3 26 (.array .int) true := ⟨zf_X3_7, ⟨tyX3, tyX3_ok⟩, nmX3, rfl, by decide +kernel⟩
theorem zw_X3_13 : Cond.fieldLink RX3 13 "HiringHallModel" "boards" "[I" ∈ lwG := lwG_in (List.mem_of_getElem? (i := 715) (by decide +kernel)) rfl
theorem zf_X3_13 : zFL RX3 13 "HiringHallModel" 4 1 RX3 TX3 26 := ⟨rfl, by decide, zu_X3, zw_X3_13, Or.inl rfl⟩
theorem zp_X3_13 : zFP RX3 13 "HiringHallModel" 4 1 RX3 TX3 26 (.array .int) true := ⟨zf_X3_13, ⟨tyX3, tyX3_ok⟩, nmX3, rfl, by decide +kernel⟩
theorem zw_X3_16 : Cond.fieldLink RX3 16 "HiringHallModel" "marks" "[I" ∈ lwG := lwG_in (List.mem_of_getElem? (i := 716) (by decide +kernel)) rfl
theorem zf_X3_16 : zFL RX3 16 "HiringHallModel" 4 2 RX3 TX3 26 := ⟨rfl, by decide, zu_X3, zw_X3_16, Or.inl rfl⟩
theorem zp_X3_16 : zFP RX3 16 "HiringHallModel" 4 2 RX3 TX3 26 (.array .int) true := ⟨zf_X3_16, ⟨tyX3, tyX3_ok⟩, nmX3, rfl, by decide +kernel⟩
theorem zw_X3_19 : Cond.fieldLink RX3 19 "HiringHallModel" "skills" "[I" ∈ lwG := lwG_in (List.mem_of_getElem? (i := 717) (by decide +kernel)) rfl
theorem zf_X3_19 : zFL RX3 19 "HiringHallModel" 4 3 RX3 TX3 26 := ⟨rfl, by decide, zu_X3, zw_X3_19, Or.inl rfl⟩
theorem zp_X3_19 : zFP RX3 19 "HiringHallModel" 4 3 RX3 TX3 26 (.array .int) true := ⟨zf_X3_19, ⟨tyX3, tyX3_ok⟩, nmX3, rfl, by decide +kernel⟩
theorem zw_X3_22 : Cond.fieldLink RX3 22 "HiringHallModel" "aways" "[Z" ∈ lwG := lwG_in (List.mem_of_getElem? (i := 718) (by decide +kernel)) rfl
theorem zf_X3_22 : zFL RX3 22 "HiringHallModel" 4 4 RX3 TX3 26 := ⟨rfl, by decide, zu_X3, zw_X3_22, Or.inl rfl⟩
theorem zp_X3_22 : zFP RX3 22 "HiringHallModel" 4 4 RX3 TX3 26 (.array .boolean) true := ⟨zf_X3_22, ⟨tyX3, tyX3_ok⟩, nmX3, rfl, by decide +kernel⟩
theorem zw_X3_26 : Cond.fieldLink RX3 26 "HiringHallModel" "refusing" "[Z" ∈ lwG := lwG_in (List.mem_of_getElem? (i := 719) (by decide +kernel)) rfl
theorem zf_X3_26 : zFL RX3 26 "HiringHallModel" 4 5 RX3 TX3 26 := ⟨rfl, by decide, zu_X3, zw_X3_26, Or.inl rfl⟩
theorem zp_X3_26 : zFP RX3 26 "HiringHallModel" 4 5 RX3 TX3 26 (.array .boolean) true := ⟨zf_X3_26, ⟨tyX3, tyX3_ok⟩, nmX3, rfl, by decide +kernel⟩
theorem zw_X3_29 : Cond.fieldLink RX3 29 "HiringHallModel" "been" "[Z" ∈ lwG := lwG_in (List.mem_of_getElem? (i := 720) (by decide +kernel)) rfl
theorem zf_X3_29 : zFL RX3 29 "HiringHallModel" 4 6 RX3 TX3 26 := ⟨rfl, by decide, zu_X3, zw_X3_29, Or.inl rfl⟩
theorem zp_X3_29 : zFP RX3 29 "HiringHallModel" 4 6 RX3 TX3 26 (.array .boolean) true := ⟨zf_X3_29, ⟨tyX3, tyX3_ok⟩, nmX3, rfl, by decide +kernel⟩
theorem zw_X3_32 : Cond.fieldLink RX3 32 "HiringHallModel" "at" "[I" ∈ lwG := lwG_in (List.mem_of_getElem? (i := 721) (by decide +kernel)) rfl
theorem zf_X3_32 : zFL RX3 32 "HiringHallModel" 4 7 RX3 TX3 26 := ⟨rfl, by decide, zu_X3, zw_X3_32, Or.inl rfl⟩
theorem zp_X3_32 : zFP RX3 32 "HiringHallModel" 4 7 RX3 TX3 26 (.array .int) true := ⟨zf_X3_32, ⟨tyX3, tyX3_ok⟩, nmX3, rfl, by decide +kernel⟩
theorem zw_X3_35 : Cond.fieldLink RX3 35 "HiringHallModel" "since" "[I" ∈ lwG := lwG_in (List.mem_of_getElem? (i := 722) (by decide +kernel)) rfl
theorem zf_X3_35 : zFL RX3 35 "HiringHallModel" 4 8 RX3 TX3 26 := ⟨rfl, by decide, zu_X3, zw_X3_35, Or.inl rfl⟩
theorem zp_X3_35 : zFP RX3 35 "HiringHallModel" 4 8 RX3 TX3 26 (.array .int) true := ⟨zf_X3_35, ⟨tyX3, tyX3_ok⟩, nmX3, rfl, by decide +kernel⟩
theorem zw_X3_38 : Cond.fieldLink RX3 38 "HiringHallModel" "hours" "[I" ∈ lwG := lwG_in (List.mem_of_getElem? (i := 723) (by decide +kernel)) rfl
theorem zf_X3_38 : zFL RX3 38 "HiringHallModel" 4 9 RX3 TX3 26 := ⟨rfl, by decide, zu_X3, zw_X3_38, Or.inl rfl⟩
theorem zp_X3_38 : zFP RX3 38 "HiringHallModel" 4 9 RX3 TX3 26 (.array .int) true := ⟨zf_X3_38, ⟨tyX3, tyX3_ok⟩, nmX3, rfl, by decide +kernel⟩
theorem zw_X3_41 : Cond.fieldLink RX3 41 "HiringHallModel" "refusals" "[I" ∈ lwG := lwG_in (List.mem_of_getElem? (i := 724) (by decide +kernel)) rfl
theorem zf_X3_41 : zFL RX3 41 "HiringHallModel" 4 10 RX3 TX3 26 := ⟨rfl, by decide, zu_X3, zw_X3_41, Or.inl rfl⟩
theorem zp_X3_41 : zFP RX3 41 "HiringHallModel" 4 10 RX3 TX3 26 (.array .int) true := ⟨zf_X3_41, ⟨tyX3, tyX3_ok⟩, nmX3, rfl, by decide +kernel⟩
theorem zw_X3_44 : Cond.fieldLink RX3 44 "HiringHallModel" "costs" "[Z" ∈ lwG := lwG_in (List.mem_of_getElem? (i := 727) (by decide +kernel)) rfl
theorem zf_X3_44 : zFL RX3 44 "HiringHallModel" 4 13 RX3 TX3 26 := ⟨rfl, by decide, zu_X3, zw_X3_44, Or.inl rfl⟩
theorem zp_X3_44 : zFP RX3 44 "HiringHallModel" 4 13 RX3 TX3 26 (.array .boolean) true := ⟨zf_X3_44, ⟨tyX3, tyX3_ok⟩, nmX3, rfl, by decide +kernel⟩
theorem zw_X3_47 : Cond.fieldLink RX3 47 "HiringHallModel" "guaranteed" "[I" ∈ lwG := lwG_in (List.mem_of_getElem? (i := 728) (by decide +kernel)) rfl
theorem zf_X3_47 : zFL RX3 47 "HiringHallModel" 4 14 RX3 TX3 26 := ⟨rfl, by decide, zu_X3, zw_X3_47, Or.inl rfl⟩
theorem zp_X3_47 : zFP RX3 47 "HiringHallModel" 4 14 RX3 TX3 26 (.array .int) true := ⟨zf_X3_47, ⟨tyX3, tyX3_ok⟩, nmX3, rfl, by decide +kernel⟩
theorem zw_X3_50 : Cond.fieldLink RX3 50 "HiringHallModel" "needs" "[I" ∈ lwG := lwG_in (List.mem_of_getElem? (i := 729) (by decide +kernel)) rfl
theorem zf_X3_50 : zFL RX3 50 "HiringHallModel" 4 15 RX3 TX3 26 := ⟨rfl, by decide, zu_X3, zw_X3_50, Or.inl rfl⟩
theorem zp_X3_50 : zFP RX3 50 "HiringHallModel" 4 15 RX3 TX3 26 (.array .int) true := ⟨zf_X3_50, ⟨tyX3, tyX3_ok⟩, nmX3, rfl, by decide +kernel⟩
theorem zw_X3_53 : Cond.fieldLink RX3 53 "HiringHallModel" "fillers" "[I" ∈ lwG := lwG_in (List.mem_of_getElem? (i := 730) (by decide +kernel)) rfl
theorem zf_X3_53 : zFL RX3 53 "HiringHallModel" 4 16 RX3 TX3 26 := ⟨rfl, by decide, zu_X3, zw_X3_53, Or.inl rfl⟩
theorem zp_X3_53 : zFP RX3 53 "HiringHallModel" 4 16 RX3 TX3 26 (.array .int) true := ⟨zf_X3_53, ⟨tyX3, tyX3_ok⟩, nmX3, rfl, by decide +kernel⟩
theorem zw_X3_56 : Cond.fieldLink RX3 56 "HiringHallModel" "length" "I" ∈ lwG := lwG_in (List.mem_of_getElem? (i := 732) (by decide +kernel)) rfl
theorem zf_X3_56 : zFL RX3 56 "HiringHallModel" 4 18 RX3 TX3 26 := ⟨rfl, by decide, zu_X3, zw_X3_56, Or.inl rfl⟩
theorem zp_X3_56 : zFP RX3 56 "HiringHallModel" 4 18 RX3 TX3 26 .int false := ⟨zf_X3_56, ⟨tyX3, tyX3_ok⟩, nmX3, rfl, by decide +kernel⟩
theorem zw_X3_60 : Cond.fieldLink RX3 60 "HiringHallModel" "turn" "[I" ∈ lwG := lwG_in (List.mem_of_getElem? (i := 736) (by decide +kernel)) rfl
theorem zf_X3_60 : zFL RX3 60 "HiringHallModel" 4 22 RX3 TX3 26 := ⟨rfl, by decide, zu_X3, zw_X3_60, Or.inl rfl⟩
theorem zp_X3_60 : zFP RX3 60 "HiringHallModel" 4 22 RX3 TX3 26 (.array .int) true := ⟨zf_X3_60, ⟨tyX3, tyX3_ok⟩, nmX3, rfl, by decide +kernel⟩
theorem zw_X3_63 : Cond.fieldLink RX3 63 "HiringHallModel" "taken" "[I" ∈ lwG := lwG_in (List.mem_of_getElem? (i := 737) (by decide +kernel)) rfl
theorem zf_X3_63 : zFL RX3 63 "HiringHallModel" 4 23 RX3 TX3 26 := ⟨rfl, by decide, zu_X3, zw_X3_63, Or.inl rfl⟩
theorem zp_X3_63 : zFP RX3 63 "HiringHallModel" 4 23 RX3 TX3 26 (.array .int) true := ⟨zf_X3_63, ⟨tyX3, tyX3_ok⟩, nmX3, rfl, by decide +kernel⟩
theorem zw_X3_66 : Cond.fieldLink RX3 66 "HiringHallModel" "open" "[I" ∈ lwG := lwG_in (List.mem_of_getElem? (i := 738) (by decide +kernel)) rfl
theorem zf_X3_66 : zFL RX3 66 "HiringHallModel" 4 24 RX3 TX3 26 := ⟨rfl, by decide, zu_X3, zw_X3_66, Or.inl rfl⟩
theorem zp_X3_66 : zFP RX3 66 "HiringHallModel" 4 24 RX3 TX3 26 (.array .int) true := ⟨zf_X3_66, ⟨tyX3, tyX3_ok⟩, nmX3, rfl, by decide +kernel⟩
theorem zw_X3_69 : Cond.fieldLink RX3 69 "HiringHallModel" "last" "I" ∈ lwG := lwG_in (List.mem_of_getElem? (i := 739) (by decide +kernel)) rfl
theorem zf_X3_69 : zFL RX3 69 "HiringHallModel" 4 25 RX3 TX3 26 := ⟨rfl, by decide, zu_X3, zw_X3_69, Or.inl rfl⟩
theorem zp_X3_69 : zFP RX3 69 "HiringHallModel" 4 25 RX3 TX3 26 .int false := ⟨zf_X3_69, ⟨tyX3, tyX3_ok⟩, nmX3, rfl, by decide +kernel⟩
theorem zw_X3_76 : Cond.fieldLink RX3 76 "HiringHallModel" "mark" "I" ∈ lwG := lwG_in (List.mem_of_getElem? (i := 726) (by decide +kernel)) rfl
theorem zf_X3_76 : zFL RX3 76 "HiringHallModel" 4 12 RX3 TX3 26 := ⟨rfl, by decide, zu_X3, zw_X3_76, Or.inl rfl⟩
theorem zp_X3_76 : zFP RX3 76 "HiringHallModel" 4 12 RX3 TX3 26 .int false := ⟨zf_X3_76, ⟨tyX3, tyX3_ok⟩, nmX3, rfl, by decide +kernel⟩
theorem zw_X3_95 : Cond.fieldLink RX3 95 "HiringHallModel" "given" "I" ∈ lwG := lwG_in (List.mem_of_getElem? (i := 725) (by decide +kernel)) rfl
theorem zf_X3_95 : zFL RX3 95 "HiringHallModel" 4 11 RX3 TX3 26 := ⟨rfl, by decide, zu_X3, zw_X3_95, Or.inl rfl⟩
theorem zp_X3_95 : zFP RX3 95 "HiringHallModel" 4 11 RX3 TX3 26 .int false := ⟨zf_X3_95, ⟨tyX3, tyX3_ok⟩, nmX3, rfl, by decide +kernel⟩
theorem zw_X3_112 : Cond.fieldLink RX3 112 "HiringHallModel" "places" "I" ∈ lwG := lwG_in (List.mem_of_getElem? (i := 731) (by decide +kernel)) rfl
theorem zf_X3_112 : zFL RX3 112 "HiringHallModel" 4 17 RX3 TX3 26 := ⟨rfl, by decide, zu_X3, zw_X3_112, Or.inl rfl⟩
theorem zp_X3_112 : zFP RX3 112 "HiringHallModel" 4 17 RX3 TX3 26 .int false := ⟨zf_X3_112, ⟨tyX3, tyX3_ok⟩, nmX3, rfl, by decide +kernel⟩
theorem zw_X3_115 : Cond.fieldLink RX3 115 "HiringHallModel" "hour" "I" ∈ lwG := lwG_in (List.mem_of_getElem? (i := 733) (by decide +kernel)) rfl
theorem zf_X3_115 : zFL RX3 115 "HiringHallModel" 4 19 RX3 TX3 26 := ⟨rfl, by decide, zu_X3, zw_X3_115, Or.inl rfl⟩
theorem zp_X3_115 : zFP RX3 115 "HiringHallModel" 4 19 RX3 TX3 26 .int false := ⟨zf_X3_115, ⟨tyX3, tyX3_ok⟩, nmX3, rfl, by decide +kernel⟩
theorem zw_X3_118 : Cond.fieldLink RX3 118 "HiringHallModel" "begun" "Z" ∈ lwG := lwG_in (List.mem_of_getElem? (i := 735) (by decide +kernel)) rfl
theorem zf_X3_118 : zFL RX3 118 "HiringHallModel" 4 21 RX3 TX3 26 := ⟨rfl, by decide, zu_X3, zw_X3_118, Or.inl rfl⟩
theorem zp_X3_118 : zFP RX3 118 "HiringHallModel" 4 21 RX3 TX3 26 .boolean false := ⟨zf_X3_118, ⟨tyX3, tyX3_ok⟩, nmX3, rfl, by decide +kernel⟩
theorem zw_X3_141 : Cond.fieldLink RX3 141 "HiringHallModel" "worked" "I" ∈ lwG := lwG_in (List.mem_of_getElem? (i := 734) (by decide +kernel)) rfl
theorem zf_X3_141 : zFL RX3 141 "HiringHallModel" 4 20 RX3 TX3 26 := ⟨rfl, by decide, zu_X3, zw_X3_141, Or.inl rfl⟩
theorem zp_X3_141 : zFP RX3 141 "HiringHallModel" 4 20 RX3 TX3 26 .int false := ⟨zf_X3_141, ⟨tyX3, tyX3_ok⟩, nmX3, rfl, by decide +kernel⟩
theorem zw_Jxc12de_7 : Cond.fieldLink RJxc12de 7 "java/util/AbstractList" "modCount" "I" ∈ lwG := lwG_in (List.mem_of_getElem? (i := 84) (by decide +kernel)) rfl
theorem zf_Jxc12de_7 : zFL RJxc12de 7 "java/util/AbstractList" 0 0 RJx4a65c TJx4a65c 3 := ⟨rfl, by decide, zu_Jx4a65c, zw_Jxc12de_7, Or.inl rfl⟩
theorem zp_Jxc12de_7 : zFP RJxc12de 7 "java/util/AbstractList" 0 0 RJx4a65c TJx4a65c 3 .int false := ⟨zf_Jxc12de_7, ⟨tyJx4a65c, tyJx4a65c_ok⟩, nmJx4a65c, rfl, by decide +kernel⟩
theorem zw_Jx4a65c_9 : Cond.fieldLink RJx4a65c 9 "java/util/ArrayList" "elementData" "[Ljava/lang/Object;" ∈ lwG := lwG_in (List.mem_of_getElem? (i := 82) (by decide +kernel)) rfl
theorem zf_Jx4a65c_9 : zFL RJx4a65c 9 "java/util/ArrayList" 0 1 RJx4a65c TJx4a65c 3 := ⟨rfl, by decide, zu_Jx4a65c, zw_Jx4a65c_9, Or.inl rfl⟩
theorem zp_Jx4a65c_9 : zFP RJx4a65c 9 "java/util/ArrayList" 0 1 RJx4a65c TJx4a65c 3 (.array (.object "java/lang/Object")) false := ⟨zf_Jx4a65c_9, ⟨tyJx4a65c, tyJx4a65c_ok⟩, nmJx4a65c, rfl, by decide +kernel⟩
theorem zw_Jx4a65c_39 : Cond.fieldLink RJx4a65c 39 "java/util/ArrayList" "DEFAULTCAPACITY_EMPTY_ELEMENTDATA" "[Ljava/lang/Object;" ∈ lwG := lwG_in (List.mem_of_getElem? (i := 80) (by decide +kernel)) rfl
theorem zw_Jx4a65c_48 : Cond.fieldLink RJx4a65c 48 "java/util/ArrayList" "size" "I" ∈ lwG := lwG_in (List.mem_of_getElem? (i := 83) (by decide +kernel)) rfl
theorem zf_Jx4a65c_48 : zFL RJx4a65c 48 "java/util/ArrayList" 0 2 RJx4a65c TJx4a65c 3 := ⟨rfl, by decide, zu_Jx4a65c, zw_Jx4a65c_48, Or.inl rfl⟩
theorem zp_Jx4a65c_48 : zFP RJx4a65c 48 "java/util/ArrayList" 0 2 RJx4a65c TJx4a65c 3 .int false := ⟨zf_Jx4a65c_48, ⟨tyJx4a65c, tyJx4a65c_ok⟩, nmJx4a65c, rfl, by decide +kernel⟩
theorem zw_Jx4a65c_63 : Cond.fieldLink RJx4a65c 63 "java/util/ArrayList" "modCount" "I" ∈ lwG := lwG_in (List.mem_of_getElem? (i := 85) (by decide +kernel)) rfl
theorem zsf_Jx4a65c_63 : Cond.sameField "java/util/ArrayList" "java/util/AbstractList" "modCount" "I" ∈ lwG := lwG_in (List.mem_of_getElem? (i := 86) (by decide +kernel)) rfl
theorem zf_Jx4a65c_63 : zFL RJx4a65c 63 "java/util/ArrayList" 0 0 RJx4a65c TJx4a65c 3 := ⟨rfl, by decide, zu_Jx4a65c, zw_Jx4a65c_63, Or.inr zsf_Jx4a65c_63⟩
theorem zp_Jx4a65c_63 : zFP RJx4a65c 63 "java/util/ArrayList" 0 0 RJx4a65c TJx4a65c 3 .int false := ⟨zf_Jx4a65c_63, ⟨tyJx4a65c, tyJx4a65c_ok⟩, nmJx4a65c, rfl, by decide +kernel⟩
theorem zk_X2_7 : Cond.classLink RX2 7 "java/util/ArrayList" ∈ lwG := lwG_in (List.mem_of_getElem? (i := 68) (by decide +kernel)) rfl
theorem zin_Jx4a65c : Cond.instantiable RJx4a65c 3 ∈ lwG := lwG_in (List.mem_of_getElem? (i := 69) (by decide +kernel)) rfl
theorem zw2_X2_7 : zNW RX2 7 0 RJx4a65c TJx4a65c 3 tyJx4a65c := ⟨rfl, zu_Jx4a65c, tyJx4a65c_ok, zk_X2_7, zin_Jx4a65c, zi_RJx4a65c⟩
theorem zk_X2_22 : Cond.classLink RX2 22 "HiringHall$Matching" ∈ lwG := lwG_in (List.mem_of_getElem? (i := 94) (by decide +kernel)) rfl
theorem zin_X0 : Cond.instantiable RX0 2 ∈ lwG := lwG_in (List.mem_of_getElem? (i := 95) (by decide +kernel)) rfl
theorem zw2_X2_22 : zNW RX2 22 1 RX0 TX0 2 tyX0 := ⟨rfl, zu_X0, tyX0_ok, zk_X2_22, zin_X0, zi_RX0⟩
theorem zk_X2_71 : Cond.classLink RX2 71 "java/lang/IllegalStateException" ∈ lwG := lwG_in (List.mem_of_getElem? (i := 448) (by decide +kernel)) rfl
theorem zk_X2_78 : Cond.classLink RX2 78 "HiringHall$Worker" ∈ lwG := lwG_in (List.mem_of_getElem? (i := 187) (by decide +kernel)) rfl
theorem zin_X1 : Cond.instantiable RX1 10 ∈ lwG := lwG_in (List.mem_of_getElem? (i := 464) (by decide +kernel)) rfl
theorem zw2_X2_78 : zNW RX2 78 2 RX1 TX1 10 tyX1 := ⟨rfl, zu_X1, tyX1_ok, zk_X2_78, zin_X1, zi_RX1⟩
theorem zk_X2_115 : Cond.classLink RX2 115 "java/lang/IllegalArgumentException" ∈ lwG := lwG_in (List.mem_of_getElem? (i := 376) (by decide +kernel)) rfl
theorem zk_X2_210 : Cond.classLink RX2 210 "java/util/NoSuchElementException" ∈ lwG := lwG_in (List.mem_of_getElem? (i := 522) (by decide +kernel)) rfl
theorem zk_L_8 : Cond.classLink RL 8 "HiringHall" ∈ lwG := lwG_in (List.mem_of_getElem? (i := 60) (by decide +kernel)) rfl
theorem zin_X2 : Cond.instantiable RX2 13 ∈ lwG := lwG_in (List.mem_of_getElem? (i := 61) (by decide +kernel)) rfl
theorem zw2_L_8 : zNW RL 8 3 RX2 TX2 13 tyX2 := ⟨rfl, zu_X2, tyX2_ok, zk_L_8, zin_X2, zi_RX2⟩
theorem zk_L_13 : Cond.classLink RL 13 "java/lang/IllegalArgumentException" ∈ lwG := lwG_in (List.mem_of_getElem? (i := 367) (by decide +kernel)) rfl
theorem zk_L_15 : Cond.classLink RL 15 "java/lang/IllegalStateException" ∈ lwG := lwG_in (List.mem_of_getElem? (i := 368) (by decide +kernel)) rfl
theorem zk_L_21 : Cond.classLink RL 21 "java/util/NoSuchElementException" ∈ lwG := lwG_in (List.mem_of_getElem? (i := 513) (by decide +kernel)) rfl
theorem zk_L_84 : Cond.classLink RL 84 "HiringHallModel" ∈ lwG := lwG_in (List.mem_of_getElem? (i := 708) (by decide +kernel)) rfl
theorem zin_X3 : Cond.instantiable RX3 26 ∈ lwG := lwG_in (List.mem_of_getElem? (i := 709) (by decide +kernel)) rfl
theorem zw2_L_84 : zNW RL 84 4 RX3 TX3 26 tyX3 := ⟨rfl, zu_X3, tyX3_ok, zk_L_84, zin_X3, zi_RX3⟩
theorem zk_Jx4a65c_7 : Cond.classLink RJx4a65c 7 "java/lang/Object" ∈ lwG := lwG_in (List.mem_of_getElem? (i := 261) (by decide +kernel)) rfl
theorem zk_J7_2 : Cond.classLink RJ7 2 "java/lang/Object" ∈ lwG := lwG_in (List.mem_of_getElem? (i := 253) (by decide +kernel)) rfl
theorem zk_J7_110 : Cond.classLink RJ7 110 "[Ljava/lang/Object;" ∈ lwG := lwG_in (List.mem_of_getElem? (i := 251) (by decide +kernel)) rfl
theorem za_I : Cond.arrayClass .int ∈ lwG := lwG_in (List.mem_of_getElem? (i := 107) (by decide +kernel)) rfl
theorem za_Z : Cond.arrayClass .boolean ∈ lwG := lwG_in (List.mem_of_getElem? (i := 148) (by decide +kernel)) rfl
theorem za_J : Cond.arrayClass .long ∈ lwG := lwG_in (List.mem_of_getElem? (i := 971) (by decide +kernel)) rfl
theorem zco : Cond.constant RJ8 200 2147483639 ∈ lwG := lwG_in (List.mem_of_getElem? (i := 229) (by decide +kernel)) rfl
theorem zoi : Cond.instanceMethod objectInit ∈ lwG := lwG_in (List.mem_of_getElem? (i := 66) (by decide +kernel)) rfl
theorem zoc : Cond.code objectInit ⟨#[0xb1]⟩ 1 none ∈ lwG := lwG_in (List.mem_of_getElem? (i := 67) (by decide +kernel)) rfl
theorem zmath_s_max : Cond.static Lib.Math.max.name ∈ lwG := lwG_in (List.mem_of_getElem? (i := 227) (by decide +kernel)) rfl
theorem zmath_c_max : Cond.code Lib.Math.max.name Lib.Math.max.code 2 (some .int) ∈ lwG := lwG_in (List.mem_of_getElem? (i := 228) (by decide +kernel)) rfl
theorem zmath_s_min : Cond.static Lib.Math.min.name ∈ lwG := lwG_in (List.mem_of_getElem? (i := 255) (by decide +kernel)) rfl
theorem zmath_c_min : Cond.code Lib.Math.min.name Lib.Math.min.code 2 (some .int) ∈ lwG := lwG_in (List.mem_of_getElem? (i := 256) (by decide +kernel)) rfl
theorem zmath_i : Cond.initialized "java/lang/Math" ∈ lwG := lwG_in (List.mem_of_getElem? (i := 56) (by decide +kernel)) rfl
theorem zac_n : Cond.native arraycopyName ∈ lwG := lwG_in (List.mem_of_getElem? (i := 259) (by decide +kernel)) rfl
theorem zac_s : Cond.static arraycopyName ∈ lwG := lwG_in (List.mem_of_getElem? (i := 258) (by decide +kernel)) rfl
theorem zac_i : Cond.initialized "java/lang/System" ∈ lwG := lwG_in (List.mem_of_getElem? (i := 58) (by decide +kernel)) rfl
theorem zgc_s : Cond.selects "[Ljava/lang/Object;" ⟨"java/lang/Object", "getClass", "()Ljava/lang/Class;"⟩ ⟨"java/lang/Object", "getClass", "()Ljava/lang/Class;"⟩ ∈ lwG := lwG_in (List.mem_of_getElem? (i := 984) (by decide +kernel)) rfl
theorem zgc_i : Cond.instanceMethod ⟨"java/lang/Object", "getClass", "()Ljava/lang/Class;"⟩ ∈ lwG := lwG_in (List.mem_of_getElem? (i := 237) (by decide +kernel)) rfl
theorem zgc_n : Cond.native ⟨"java/lang/Object", "getClass", "()Ljava/lang/Class;"⟩ ∈ lwG := lwG_in (List.mem_of_getElem? (i := 247) (by decide +kernel)) rfl
