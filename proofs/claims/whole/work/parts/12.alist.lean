/-! java.util.ArrayList over Worker objects: the list k lies at the handles k (the list) and k + 1 (its row); 99 is a handle for a moment -/
/-- a list object, its row -/
abbrev zLo (md : Int32) (b n : Nat) : va_E := .inr (0, [.int md, .ref b, .int (nI n)])
abbrev zRo (z : zT) (n : Nat) (f : Nat → Option Nat) : va_E := .inl (z.2.2.1 2, n, .inr (.inr (.inr (.inr f))))
def zLs (z : zT) (w : zW) (k a : Nat) (xs : List Nat) : Prop := ∃ (md : Int32) (b : Nat), w k = some (a, zLo md b xs.length) ∧ ((xs = [] ∧ b = z.2.2.2.1) ∨ ∃ (n : Nat) (f : Nat → Option Nat), w (k + 1) = some (b, zRo z n f) ∧ xs.length ≤ n ∧ 10 ≤ n ∧ n ≤ 64 ∧ ∀ i : Nat, i < xs.length → f i = xs[i]?)
/-- what a list's method leaves as it was -/
def zFk (k : Nat) (w w1 : zW) : Prop := ∀ j : Nat, j ≠ k → j ≠ k + 1 → j ≠ 99 → w1 j = w j
/-- the elements are workers of the world -/
def zWk (w : zW) (y : Nat) : Prop := ∃ (j : Nat) (vs : List Value), 100 ≤ j ∧ w j = some (y, .inr (2, vs))
theorem zLs.len {z : zT} {w : zW} {k a : Nat} {xs : List Nat} (h : zLs z w k a xs) : xs.length ≤ 64 := by
  obtain ⟨md, b, h1, ⟨rfl, -⟩ | ⟨n, f, -, h2, -, h3, -⟩⟩ := h
  · decide
  · omega
section ZAL
variable {l : Launch} {z : zT} {w : zW}
theorem c_size (hl : l.stackTraces = false) {k a b : Nat} {md : Int32} {n : Int32} (h : w k = some (a, .inr (0, [.int md, .ref b, .int n]))) : ZM l z mJx4a65c_size_8abf5 0 0 0 [.ref a] w (fun r w1 => r = some (.int n) ∧ w1 = w) zNo := by
  refine zbody (M := mJx4a65c_size_8abf5) (L0 := [_]) hl (by simp [Value.category]) (Nat.le_of_ble_eq_true rfl) (by decide +kernel) rfl ?_
  intro p e s m args below meth c C hX hnm hret
  replace C : zC z p l s m args meth c cJx4a65c_size_8abf5 RJx4a65c 1 := C
  replace hret : meth.sig.returnType = (some .int) := hret
  refine z_aload_n C dJx4a65c_size_8abf5_0 rfl ?_
  refine z_getf C zf_Jx4a65c_48 dJx4a65c_size_8abf5_1 (by first | assumption | exact zk_eq | exact zk_ne (by first | assumption | exact zk_eq | exact zk_ne (by first | assumption | exact zk_eq | exact zk_ne (by first | assumption | exact zk_eq | exact zk_ne (by first | assumption | exact zk_eq | exact zk_ne (by first | assumption | exact zk_eq) (by first | decide | omega)) (by first | decide | omega)) (by first | decide | omega)) (by first | decide | omega)) (by first | decide | omega)) (by rfl) ?_
  refine z_iret C hret dJx4a65c_size_8abf5_4 (by first | exact Nat.le_of_ble_eq_true rfl | omega) (by first | exact Nat.le_of_ble_eq_true rfl | omega) ?_
  exact ⟨rfl, rfl⟩
theorem c_checkIndex3 (hl : l.stackTraces = false) {i n : Nat} (hi : i < n) (hn : n < 2 ^ 31) : ZM l z mJ3_checkIndex_8e157 0 0 0 [.int (nI i), .int (nI n), .null] w (fun r w1 => r = some (.int (nI i)) ∧ w1 = w) zNo := by
  refine zbody (M := mJ3_checkIndex_8e157) (L0 := [_, _, _]) hl (by simp [Value.category]) (Nat.le_of_ble_eq_true rfl) (by decide +kernel) rfl ?_
  intro p e s m args below meth c C hX hnm hret
  replace C : zC z p l s m args meth c cJ3_checkIndex_8e157 RJ3 3 := C
  replace hret : meth.sig.returnType = (some .int) := hret
  refine z_iload_n C dJ3_checkIndex_8e157_0 rfl ?_
  refine z_if_lt C 9 dJ3_checkIndex_8e157_1 (by decide) (fun h1 => ?_) (fun h1 => ?_)
  · exact absurd h1 (nI_pos (by omega))
  refine z_iload_n C dJ3_checkIndex_8e157_4 rfl ?_
  refine z_iload_n C dJ3_checkIndex_8e157_5 rfl ?_
  refine z_icmp_lt C 16 dJ3_checkIndex_8e157_6 (by decide) (fun h2 => ?_) (fun h2 => ?_)
  · refine z_iload_n C dJ3_checkIndex_8e157_16 rfl ?_
    refine z_iret C hret dJ3_checkIndex_8e157_17 (by first | exact Nat.le_of_ble_eq_true rfl | omega) (by first | exact Nat.le_of_ble_eq_true rfl | omega) ?_
    exact ⟨rfl, rfl⟩
  · exact absurd (nI_lt hi hn) h2
theorem c_checkIndex (hl : l.stackTraces = false) {i n : Nat} (hi : i < n) (hn : n < 2 ^ 31) : ZM l z mJ15_checkIndex_7cf53 1 0 0 [.int (nI i), .int (nI n)] w (fun r w1 => r = some (.int (nI i)) ∧ w1 = w) zNo := by
  refine zbody (M := mJ15_checkIndex_7cf53) (L0 := [_, _]) hl (by simp [Value.category]) (Nat.le_of_ble_eq_true rfl) (by decide +kernel) rfl ?_
  intro p e s m args below meth c C hX hnm hret
  replace C : zC z p l s m args meth c cJ15_checkIndex_7cf53 RJ15 2 := C
  replace hret : meth.sig.returnType = (some .int) := hret
  refine z_iload_n C dJ15_checkIndex_7cf53_0 rfl ?_
  refine z_iload_n C dJ15_checkIndex_7cf53_1 rfl ?_
  refine z_null C dJ15_checkIndex_7cf53_2 ?_
  refine z_callS C zm_J3_checkIndex_8e157 zl_J15_105 (c_checkIndex3 hl hi hn) dJ15_checkIndex_7cf53_3 (by rfl) (by rfl) (by exact Nat.le_of_ble_eq_true rfl) rfl (by exact ⟨Nat.le_of_ble_eq_true rfl, Nat.le_of_ble_eq_true rfl⟩) (by first | exact ⟨Nat.le_of_ble_eq_true rfl, Nat.le_of_ble_eq_true rfl⟩ | (simp only [zrm]; omega)) (fun _ _ h => z_xno h) (fun r w1 hq => ?_)
  obtain ⟨rfl, rfl⟩ := hq
  refine z_iret C hret dJ15_checkIndex_7cf53_6 (by first | exact Nat.le_of_ble_eq_true rfl | omega) (by first | exact Nat.le_of_ble_eq_true rfl | omega) ?_
  exact ⟨rfl, rfl⟩
theorem c_elementData (hl : l.stackTraces = false) {k a b n i : Nat} {md sz : Int32} {f : Nat → Option Nat} (h : w k = some (a, .inr (0, [.int md, .ref b, .int sz]))) (h2 : w (k + 1) = some (b, zRo z n f)) (hi : i < n) (hn : n ≤ 64) : ZM l z mJx4a65c_elementData_915e3 0 0 0 [.ref a, .int (nI i)] w (fun r w1 => r = some (va_rf (f i)) ∧ w1 = w) zNo := by
  refine zbody (M := mJx4a65c_elementData_915e3) (L0 := [_, _]) hl (by simp [Value.category]) (Nat.le_of_ble_eq_true rfl) (by decide +kernel) rfl ?_
  intro p e s m args below meth c C hX hnm hret
  replace C : zC z p l s m args meth c cJx4a65c_elementData_915e3 RJx4a65c 2 := C
  replace hret : meth.sig.returnType = (some (.object "java/lang/Object")) := hret
  refine z_aload_n C dJx4a65c_elementData_915e3_0 rfl ?_
  refine z_getf C zf_Jx4a65c_9 dJx4a65c_elementData_915e3_1 (by first | assumption | exact zk_eq | exact zk_ne (by first | assumption | exact zk_eq | exact zk_ne (by first | assumption | exact zk_eq | exact zk_ne (by first | assumption | exact zk_eq | exact zk_ne (by first | assumption | exact zk_eq | exact zk_ne (by first | assumption | exact zk_eq) (by first | decide | omega)) (by first | decide | omega)) (by first | decide | omega)) (by first | decide | omega)) (by first | decide | omega)) (by rfl) ?_
  refine z_iload_n C dJx4a65c_elementData_915e3_4 rfl ?_
  refine z_aald C dJx4a65c_elementData_915e3_5 (by first | assumption | exact zk_eq | exact zk_ne (by first | assumption | exact zk_eq | exact zk_ne (by first | assumption | exact zk_eq | exact zk_ne (by first | assumption | exact zk_eq | exact zk_ne (by first | assumption | exact zk_eq | exact zk_ne (by first | assumption | exact zk_eq) (by first | decide | omega)) (by first | decide | omega)) (by first | decide | omega)) (by first | decide | omega)) (by first | decide | omega)) (by first | rfl | assumption) (by first | assumption | omega | decide) (by first | decide | omega) ?_
  refine z_aret C hret (Or.inl ⟨_, rfl⟩) (by first | exact Or.inr ⟨_, rfl⟩ | exact va_rf_or _ | exact Or.inl rfl) dJx4a65c_elementData_915e3_6 (by first | exact Nat.le_of_ble_eq_true rfl | omega) (by first | exact Nat.le_of_ble_eq_true rfl | omega) ?_
  exact ⟨rfl, rfl⟩
theorem c_get (hl : l.stackTraces = false) {k a i : Nat} {xs : List Nat} (h : zLs z w k a xs) (hi : i < xs.length) : ZM l z mJx4a65c_get_915e3 2 0 0 [.ref a, .int (nI i)] w (fun r w1 => r = some (.ref xs[i]) ∧ w1 = w) zNo := by
  obtain ⟨md, b, h1, ⟨rfl, -⟩ | ⟨n, f, h2, h3, h4, h5, h6⟩⟩ := h
  · exact absurd hi (Nat.not_lt_zero _)
  refine zbody (M := mJx4a65c_get_915e3) (L0 := [_, _]) hl (by simp [Value.category]) (Nat.le_of_ble_eq_true rfl) (by decide +kernel) rfl ?_
  intro p e s m args below meth c C hX hnm hret
  replace C : zC z p l s m args meth c cJx4a65c_get_915e3 RJx4a65c 2 := C
  replace hret : meth.sig.returnType = (some (.object "java/lang/Object")) := hret
  refine z_iload_n C dJx4a65c_get_915e3_0 rfl ?_
  refine z_aload_n C dJx4a65c_get_915e3_1 rfl ?_
  refine z_getf C zf_Jx4a65c_48 dJx4a65c_get_915e3_2 (by first | assumption | exact zk_eq | exact zk_ne (by first | assumption | exact zk_eq | exact zk_ne (by first | assumption | exact zk_eq | exact zk_ne (by first | assumption | exact zk_eq | exact zk_ne (by first | assumption | exact zk_eq | exact zk_ne (by first | assumption | exact zk_eq) (by first | decide | omega)) (by first | decide | omega)) (by first | decide | omega)) (by first | decide | omega)) (by first | decide | omega)) (by rfl) ?_
  refine z_callS C zm_J15_checkIndex_7cf53 zl_Jx4a65c_118 (c_checkIndex hl hi (by omega)) dJx4a65c_get_915e3_5 (by rfl) (by rfl) (by exact Nat.le_of_ble_eq_true rfl) rfl (by exact ⟨Nat.le_of_ble_eq_true rfl, Nat.le_of_ble_eq_true rfl⟩) (by first | exact ⟨Nat.le_of_ble_eq_true rfl, Nat.le_of_ble_eq_true rfl⟩ | (simp only [zrm]; omega)) (fun _ _ h => z_xno h) (fun r w1 hq => ?_)
  obtain ⟨rfl, rfl⟩ := hq
  refine z_pop C dJx4a65c_get_915e3_8 rfl ?_
  refine z_aload_n C dJx4a65c_get_915e3_9 rfl ?_
  refine z_iload_n C dJx4a65c_get_915e3_10 rfl ?_
  refine z_callV C zm_Jx4a65c_elementData_915e3 zl_Jx4a65c_123 (c_elementData (i := i) hl h1 h2 (by omega) h5) dJx4a65c_get_915e3_11 (by first | assumption | exact zk_eq | exact zk_ne (by first | assumption | exact zk_eq | exact zk_ne (by first | assumption | exact zk_eq | exact zk_ne (by first | assumption | exact zk_eq | exact zk_ne (by first | assumption | exact zk_eq | exact zk_ne (by first | assumption | exact zk_eq) (by first | decide | omega)) (by first | decide | omega)) (by first | decide | omega)) (by first | decide | omega)) (by first | decide | omega)) (by rfl) (by rfl) (by rfl) (by exact Nat.le_of_ble_eq_true rfl) rfl (by exact ⟨Nat.le_of_ble_eq_true rfl, Nat.le_of_ble_eq_true rfl⟩) (by first | exact ⟨Nat.le_of_ble_eq_true rfl, Nat.le_of_ble_eq_true rfl⟩ | (simp only [zrm]; omega)) (fun _ _ h => z_xno h) (fun r w1 hq => ?_)
  obtain ⟨rfl, rfl⟩ := hq
  rw [h6 i hi, List.getElem?_eq_getElem hi]
  refine z_aret C hret (Or.inl ⟨_, rfl⟩) (by first | exact Or.inr ⟨_, rfl⟩ | exact va_rf_or _ | exact Or.inl rfl) dJx4a65c_get_915e3_14 (by first | exact Nat.le_of_ble_eq_true rfl | omega) (by first | exact Nat.le_of_ble_eq_true rfl | omega) ?_
  exact ⟨rfl, rfl⟩
theorem c_rangeCheckForAdd (hl : l.stackTraces = false) {k a b i n : Nat} {md : Int32} (h : w k = some (a, zLo md b n)) (hi : i ≤ n) (hn : n < 2 ^ 31) : ZM l z mJx4a65c_rangeCheckForAdd_d00df 0 0 0 [.ref a, .int (nI i)] w (fun r w1 => r = none ∧ w1 = w) zNo := by
  refine zbody (M := mJx4a65c_rangeCheckForAdd_d00df) (L0 := [_, _]) hl (by simp [Value.category]) (Nat.le_of_ble_eq_true rfl) (by decide +kernel) rfl ?_
  intro p e s m args below meth c C hX hnm hret
  replace C : zC z p l s m args meth c cJx4a65c_rangeCheckForAdd_d00df RJx4a65c 2 := C
  replace hret : meth.sig.returnType = none := hret
  refine z_iload_n C dJx4a65c_rangeCheckForAdd_d00df_0 rfl ?_
  refine z_aload_n C dJx4a65c_rangeCheckForAdd_d00df_1 rfl ?_
  refine z_getf C zf_Jx4a65c_48 dJx4a65c_rangeCheckForAdd_d00df_2 (by first | assumption | exact zk_eq | exact zk_ne (by first | assumption | exact zk_eq | exact zk_ne (by first | assumption | exact zk_eq | exact zk_ne (by first | assumption | exact zk_eq | exact zk_ne (by first | assumption | exact zk_eq | exact zk_ne (by first | assumption | exact zk_eq) (by first | decide | omega)) (by first | decide | omega)) (by first | decide | omega)) (by first | decide | omega)) (by first | decide | omega)) (by rfl) ?_
  refine z_icmp_gt C 12 dJx4a65c_rangeCheckForAdd_d00df_5 (by decide) (fun h1 => ?_) (fun h1 => ?_)
  · exact absurd h1 (nI_nlt hi hn)
  refine z_iload_n C dJx4a65c_rangeCheckForAdd_d00df_8 rfl ?_
  refine z_if_ge C 25 dJx4a65c_rangeCheckForAdd_d00df_9 (by decide) (fun h2 => ?_) (fun h2 => ?_)
  · refine z_vret C hret dJx4a65c_rangeCheckForAdd_d00df_25 (by first | exact Nat.le_of_ble_eq_true rfl | omega) (by first | exact Nat.le_of_ble_eq_true rfl | omega) ?_
    exact ⟨rfl, rfl⟩
  · exact absurd (nI_pos' (by omega)) h2
theorem zWk.fk {k : Nat} {w1 : zW} {y : Nat} (h : zWk w y) (hf : zFk k w w1) (hk : k + 1 < 99) : zWk w1 y := by
  obtain ⟨j, vs, h1, h2⟩ := h
  exact ⟨j, vs, h1, (hf j (by omega) (by omega) (by omega)).trans h2⟩
theorem c_set (hl : l.stackTraces = false) {k a i v : Nat} {xs : List Nat} (h : zLs z w k a xs) (hi : i < xs.length) (hv : zWk w v) (hk : k + 1 < 99) : ZM l z mJx4a65c_set_bcc79 2 0 0 [.ref a, .int (nI i), .ref v] w (fun r w1 => r = some (.ref xs[i]) ∧ zLs z w1 k a (xs.set i v) ∧ zFk k w w1) zNo := by
  obtain ⟨md, b, h1, ⟨rfl, -⟩ | ⟨n, f, h2, h3, h4, h5, h6⟩⟩ := h
  · exact absurd hi (Nat.not_lt_zero _)
  obtain ⟨j, vs, hj, hjv⟩ := hv
  refine zbody (M := mJx4a65c_set_bcc79) (L0 := [_, _, _, _]) hl (by simp [Value.category]) (Nat.le_of_ble_eq_true rfl) (by decide +kernel) rfl ?_
  intro p e s m args below meth c C hX hnm hret
  replace C : zC z p l s m args meth c cJx4a65c_set_bcc79 RJx4a65c 4 := C
  replace hret : meth.sig.returnType = (some (.object "java/lang/Object")) := hret
  refine z_iload_n C dJx4a65c_set_bcc79_0 rfl ?_
  refine z_aload_n C dJx4a65c_set_bcc79_1 rfl ?_
  refine z_getf C zf_Jx4a65c_48 dJx4a65c_set_bcc79_2 (by first | assumption | exact zk_eq | exact zk_ne (by first | assumption | exact zk_eq | exact zk_ne (by first | assumption | exact zk_eq | exact zk_ne (by first | assumption | exact zk_eq | exact zk_ne (by first | assumption | exact zk_eq | exact zk_ne (by first | assumption | exact zk_eq) (by first | decide | omega)) (by first | decide | omega)) (by first | decide | omega)) (by first | decide | omega)) (by first | decide | omega)) (by rfl) ?_
  refine z_callS C zm_J15_checkIndex_7cf53 zl_Jx4a65c_118 (c_checkIndex hl hi (by omega)) dJx4a65c_set_bcc79_5 (by rfl) (by rfl) (by exact Nat.le_of_ble_eq_true rfl) rfl (by exact ⟨Nat.le_of_ble_eq_true rfl, Nat.le_of_ble_eq_true rfl⟩) (by first | exact ⟨Nat.le_of_ble_eq_true rfl, Nat.le_of_ble_eq_true rfl⟩ | (simp only [zrm]; omega)) (fun _ _ h => z_xno h) (fun r w1 hq => ?_)
  obtain ⟨rfl, rfl⟩ := hq
  refine z_pop C dJx4a65c_set_bcc79_8 rfl ?_
  refine z_aload_n C dJx4a65c_set_bcc79_9 rfl ?_
  refine z_iload_n C dJx4a65c_set_bcc79_10 rfl ?_
  refine z_callV C zm_Jx4a65c_elementData_915e3 zl_Jx4a65c_123 (c_elementData (i := i) hl h1 h2 (by omega) h5) dJx4a65c_set_bcc79_11 (by first | assumption | exact zk_eq | exact zk_ne (by first | assumption | exact zk_eq | exact zk_ne (by first | assumption | exact zk_eq | exact zk_ne (by first | assumption | exact zk_eq | exact zk_ne (by first | assumption | exact zk_eq | exact zk_ne (by first | assumption | exact zk_eq) (by first | decide | omega)) (by first | decide | omega)) (by first | decide | omega)) (by first | decide | omega)) (by first | decide | omega)) (by rfl) (by rfl) (by rfl) (by exact Nat.le_of_ble_eq_true rfl) rfl (by exact ⟨Nat.le_of_ble_eq_true rfl, Nat.le_of_ble_eq_true rfl⟩) (by first | exact ⟨Nat.le_of_ble_eq_true rfl, Nat.le_of_ble_eq_true rfl⟩ | (simp only [zrm]; omega)) (fun _ _ h => z_xno h) (fun r w1 hq => ?_)
  obtain ⟨rfl, rfl⟩ := hq
  rw [h6 i hi, List.getElem?_eq_getElem hi]
  refine z_astore_n C (L1 := [_, _, _, _]) dJx4a65c_set_bcc79_14 (Nat.le_of_ble_eq_true rfl) rfl ?_
  refine z_aload_n C dJx4a65c_set_bcc79_15 rfl ?_
  refine z_getf C zf_Jx4a65c_9 dJx4a65c_set_bcc79_16 (by first | assumption | exact zk_eq | exact zk_ne (by first | assumption | exact zk_eq | exact zk_ne (by first | assumption | exact zk_eq | exact zk_ne (by first | assumption | exact zk_eq | exact zk_ne (by first | assumption | exact zk_eq | exact zk_ne (by first | assumption | exact zk_eq) (by first | decide | omega)) (by first | decide | omega)) (by first | decide | omega)) (by first | decide | omega)) (by first | decide | omega)) (by rfl) ?_
  refine z_iload_n C dJx4a65c_set_bcc79_19 rfl ?_
  refine z_aload_n C dJx4a65c_set_bcc79_20 rfl ?_
  refine z_aast C dJx4a65c_set_bcc79_21 (by first | assumption | exact zk_eq | exact zk_ne (by first | assumption | exact zk_eq | exact zk_ne (by first | assumption | exact zk_eq | exact zk_ne (by first | assumption | exact zk_eq | exact zk_ne (by first | assumption | exact zk_eq | exact zk_ne (by first | assumption | exact zk_eq) (by first | decide | omega)) (by first | decide | omega)) (by first | decide | omega)) (by first | decide | omega)) (by first | decide | omega)) (by first | assumption | exact zk_eq | exact zk_ne (by first | assumption | exact zk_eq | exact zk_ne (by first | assumption | exact zk_eq | exact zk_ne (by first | assumption | exact zk_eq | exact zk_ne (by first | assumption | exact zk_eq | exact zk_ne (by first | assumption | exact zk_eq) (by first | decide | omega)) (by first | decide | omega)) (by first | decide | omega)) (by first | decide | omega)) (by first | decide | omega)) (by first | rfl | assumption) (by first | assumption | omega | decide) (by first | decide | omega) ?_
  refine z_aload_n C dJx4a65c_set_bcc79_22 rfl ?_
  refine z_aret C hret (Or.inl ⟨_, rfl⟩) (by first | exact Or.inr ⟨_, rfl⟩ | exact va_rf_or _ | exact Or.inl rfl) dJx4a65c_set_bcc79_23 (by first | exact Nat.le_of_ble_eq_true rfl | omega) (by first | exact Nat.le_of_ble_eq_true rfl | omega) ?_
  refine ⟨rfl, ⟨md, b, by rw [List.length_set]; exact (by first | assumption | exact zk_eq | exact zk_ne (by first | assumption | exact zk_eq | exact zk_ne (by first | assumption | exact zk_eq | exact zk_ne (by first | assumption | exact zk_eq | exact zk_ne (by first | assumption | exact zk_eq | exact zk_ne (by first | assumption | exact zk_eq) (by first | decide | omega)) (by first | decide | omega)) (by first | decide | omega)) (by first | decide | omega)) (by first | decide | omega)), Or.inr ⟨n, va_up f i (some v), (by first | assumption | exact zk_eq | exact zk_ne (by first | assumption | exact zk_eq | exact zk_ne (by first | assumption | exact zk_eq | exact zk_ne (by first | assumption | exact zk_eq | exact zk_ne (by first | assumption | exact zk_eq | exact zk_ne (by first | assumption | exact zk_eq) (by first | decide | omega)) (by first | decide | omega)) (by first | decide | omega)) (by first | decide | omega)) (by first | decide | omega)), by simpa using h3, h4, h5, fun q hq => ?_⟩⟩, fun q q1 q2 q3 => by (repeat (refine (va_up_ne _ _ (by first | assumption | omega)).trans ?_)); rfl⟩
  · rw [List.length_set] at hq
    by_cases e : q = i
    · subst e
      rw [va_up_self, List.getElem?_set_self hq]
    · rw [va_up_ne _ _ e, List.getElem?_set_ne (Ne.symm e)]
      exact h6 q hq
theorem c_clear (hl : l.stackTraces = false) {k a : Nat} {xs : List Nat} (h : zLs z w k a xs) : ZM l z mJx4a65c_clear_da8c8 0 0 0 [.ref a] w (fun r w1 => r = none ∧ zLs z w1 k a [] ∧ zFk k w w1) zNo := by
  obtain ⟨md, b, h1, h2⟩ := h
  refine zbody (M := mJx4a65c_clear_da8c8) (L0 := [_, _, _, _]) hl (by simp [Value.category]) (Nat.le_of_ble_eq_true rfl) (by decide +kernel) rfl ?_
  intro p e s m args below meth c C hX hnm hret
  replace C : zC z p l s m args meth c cJx4a65c_clear_da8c8 RJx4a65c 4 := C
  replace hret : meth.sig.returnType = none := hret
  refine z_aload_n C dJx4a65c_clear_da8c8_0 rfl ?_
  refine z_dup C dJx4a65c_clear_da8c8_1 rfl ?_
  refine z_getf C zf_Jx4a65c_63 dJx4a65c_clear_da8c8_2 (by first | assumption | exact zk_eq | exact zk_ne (by first | assumption | exact zk_eq | exact zk_ne (by first | assumption | exact zk_eq | exact zk_ne (by first | assumption | exact zk_eq | exact zk_ne (by first | assumption | exact zk_eq | exact zk_ne (by first | assumption | exact zk_eq) (by first | decide | omega)) (by first | decide | omega)) (by first | decide | omega)) (by first | decide | omega)) (by first | decide | omega)) (by rfl) ?_
  refine z_iconst C (1) dJx4a65c_clear_da8c8_5 (by decide) ?_
  refine z_iadd C dJx4a65c_clear_da8c8_6 ?_
  refine z_putf C (fs1 := [_, _, _]) zp_Jx4a65c_63 dJx4a65c_clear_da8c8_7 (by first | assumption | exact zk_eq | exact zk_ne (by first | assumption | exact zk_eq | exact zk_ne (by first | assumption | exact zk_eq | exact zk_ne (by first | assumption | exact zk_eq | exact zk_ne (by first | assumption | exact zk_eq | exact zk_ne (by first | assumption | exact zk_eq) (by first | decide | omega)) (by first | decide | omega)) (by first | decide | omega)) (by first | decide | omega)) (by first | decide | omega)) (by first | rfl | exact zb_nar _ | assumption) (by first | rfl | exact zb_fit _ | assumption) (by exact Nat.le_of_ble_eq_true rfl) (by rfl) ?_
  refine z_aload_n C dJx4a65c_clear_da8c8_10 rfl ?_
  refine z_getf C zf_Jx4a65c_9 dJx4a65c_clear_da8c8_11 (by first | assumption | exact zk_eq | exact zk_ne (by first | assumption | exact zk_eq | exact zk_ne (by first | assumption | exact zk_eq | exact zk_ne (by first | assumption | exact zk_eq | exact zk_ne (by first | assumption | exact zk_eq | exact zk_ne (by first | assumption | exact zk_eq) (by first | decide | omega)) (by first | decide | omega)) (by first | decide | omega)) (by first | decide | omega)) (by first | decide | omega)) (by rfl) ?_
  refine z_astore_n C (L1 := [_, _, _, _]) dJx4a65c_clear_da8c8_14 (Nat.le_of_ble_eq_true rfl) rfl ?_
  refine z_aload_n C dJx4a65c_clear_da8c8_15 rfl ?_
  refine z_getf C zf_Jx4a65c_48 dJx4a65c_clear_da8c8_16 (by first | assumption | exact zk_eq | exact zk_ne (by first | assumption | exact zk_eq | exact zk_ne (by first | assumption | exact zk_eq | exact zk_ne (by first | assumption | exact zk_eq | exact zk_ne (by first | assumption | exact zk_eq | exact zk_ne (by first | assumption | exact zk_eq) (by first | decide | omega)) (by first | decide | omega)) (by first | decide | omega)) (by first | decide | omega)) (by first | decide | omega)) (by rfl) ?_
  refine z_istore_n C (L1 := [_, _, _, _]) dJx4a65c_clear_da8c8_19 (Nat.le_of_ble_eq_true rfl) rfl ?_
  refine z_aload_n C dJx4a65c_clear_da8c8_20 rfl ?_
  refine z_iconst C (0) dJx4a65c_clear_da8c8_21 (by decide) ?_
  refine z_dup_x1 C dJx4a65c_clear_da8c8_22 rfl rfl ?_
  refine z_putf C (fs1 := [_, _, _]) zp_Jx4a65c_48 dJx4a65c_clear_da8c8_23 (by first | assumption | exact zk_eq | exact zk_ne (by first | assumption | exact zk_eq | exact zk_ne (by first | assumption | exact zk_eq | exact zk_ne (by first | assumption | exact zk_eq | exact zk_ne (by first | assumption | exact zk_eq | exact zk_ne (by first | assumption | exact zk_eq) (by first | decide | omega)) (by first | decide | omega)) (by first | decide | omega)) (by first | decide | omega)) (by first | decide | omega)) (by first | rfl | exact zb_nar _ | assumption) (by first | rfl | exact zb_fit _ | assumption) (by exact Nat.le_of_ble_eq_true rfl) (by rfl) ?_
  refine z_istore_n C (L1 := [_, _, _, _]) dJx4a65c_clear_da8c8_26 (Nat.le_of_ble_eq_true rfl) rfl ?_
  rcases h2 with ⟨rfl, rfl⟩ | ⟨n, f, h2, h3, h4, h5, h6⟩
  · refine z_iload_n C dJx4a65c_clear_da8c8_27 rfl ?_
    refine z_iload_n C dJx4a65c_clear_da8c8_28 rfl ?_
    refine z_icmp_ge C 42 dJx4a65c_clear_da8c8_29 (by decide) (fun h3 => ?_) (fun h3 => ?_)
    · refine z_vret C hret dJx4a65c_clear_da8c8_42 (by first | exact Nat.le_of_ble_eq_true rfl | omega) (by first | exact Nat.le_of_ble_eq_true rfl | omega) ?_
      exact ⟨rfl, ⟨md + 1, _, (by first | assumption | exact zk_eq | exact zk_ne (by first | assumption | exact zk_eq | exact zk_ne (by first | assumption | exact zk_eq | exact zk_ne (by first | assumption | exact zk_eq | exact zk_ne (by first | assumption | exact zk_eq | exact zk_ne (by first | assumption | exact zk_eq) (by first | decide | omega)) (by first | decide | omega)) (by first | decide | omega)) (by first | decide | omega)) (by first | decide | omega)), Or.inl ⟨rfl, rfl⟩⟩, fun q q1 q2 q3 => by (repeat (refine (va_up_ne _ _ (by first | assumption | omega)).trans ?_)); rfl⟩
    · exact absurd (Int32.le_refl 0) h3
  · refine z_ind (σ := Nat × zW × (Nat → Option Nat)) (fun x => x.1 ≤ xs.length ∧ x.2.1 k = some (a, zLo (md + 1) b 0) ∧ x.2.1 (k + 1) = some (b, zRo z n x.2.2) ∧ zFk k w x.2.1) (fun x => xs.length - x.1) (fun _ => 0) (fun _ => 0)
      (fun x => [some (.ref a), some (.ref b), some (.int (nI xs.length)), some (.int (nI x.1))]) (fun x => x.2.1) (0, _, f) ⟨Nat.zero_le _, (by first | assumption | exact zk_eq | exact zk_ne (by first | assumption | exact zk_eq | exact zk_ne (by first | assumption | exact zk_eq | exact zk_ne (by first | assumption | exact zk_eq | exact zk_ne (by first | assumption | exact zk_eq | exact zk_ne (by first | assumption | exact zk_eq) (by first | decide | omega)) (by first | decide | omega)) (by first | decide | omega)) (by first | decide | omega)) (by first | decide | omega)), (by first | assumption | exact zk_eq | exact zk_ne (by first | assumption | exact zk_eq | exact zk_ne (by first | assumption | exact zk_eq | exact zk_ne (by first | assumption | exact zk_eq | exact zk_ne (by first | assumption | exact zk_eq | exact zk_ne (by first | assumption | exact zk_eq) (by first | decide | omega)) (by first | decide | omega)) (by first | decide | omega)) (by first | decide | omega)) (by first | decide | omega)), fun q q1 q2 q3 => by (repeat (refine (va_up_ne _ _ (by first | assumption | omega)).trans ?_)); rfl⟩ ?_
    rintro ⟨i, w2, f2⟩ ⟨g1, g2, g3, g4⟩ ih
    dsimp only at g1 g2 g3 g4 ih ⊢
    refine z_iload_n C dJx4a65c_clear_da8c8_27 rfl ?_
    refine z_iload_n C dJx4a65c_clear_da8c8_28 rfl ?_
    refine z_icmp_ge C 42 dJx4a65c_clear_da8c8_29 (by decide) (fun q3 => ?_) (fun q3 => ?_)
    · refine z_vret C hret dJx4a65c_clear_da8c8_42 (by first | exact Nat.le_of_ble_eq_true rfl | omega) (by first | exact Nat.le_of_ble_eq_true rfl | omega) ?_
      exact ⟨rfl, ⟨md + 1, b, g2, Or.inr ⟨n, f2, g3, Nat.zero_le _, h4, h5, fun q hq => absurd hq (Nat.not_lt_zero _)⟩⟩, g4⟩
    · have hi : i < xs.length := by
        rcases Nat.lt_or_ge i xs.length with q | q
        · exact q
        · exact absurd (nI_le q (by omega)) q3
      refine z_aload_n C dJx4a65c_clear_da8c8_32 rfl ?_
      refine z_iload_n C dJx4a65c_clear_da8c8_33 rfl ?_
      refine z_null C dJx4a65c_clear_da8c8_34 ?_
      refine z_aastN C dJx4a65c_clear_da8c8_35 (by first | assumption | exact zk_eq | exact zk_ne (by first | assumption | exact zk_eq | exact zk_ne (by first | assumption | exact zk_eq | exact zk_ne (by first | assumption | exact zk_eq | exact zk_ne (by first | assumption | exact zk_eq | exact zk_ne (by first | assumption | exact zk_eq) (by first | decide | omega)) (by first | decide | omega)) (by first | decide | omega)) (by first | decide | omega)) (by first | decide | omega)) rfl (show i < n by omega) (by omega) ?_
      refine z_iinc C (L1 := [_, _, _, _]) _ dJx4a65c_clear_da8c8_36 rfl (by first | exact zinc | rfl) rfl ?_
      refine z_goto C 27 dJx4a65c_clear_da8c8_39 (by decide) ?_
      exact ih (i + 1, _, _) ⟨hi, (by first | assumption | exact zk_eq | exact zk_ne (by first | assumption | exact zk_eq | exact zk_ne (by first | assumption | exact zk_eq | exact zk_ne (by first | assumption | exact zk_eq | exact zk_ne (by first | assumption | exact zk_eq | exact zk_ne (by first | assumption | exact zk_eq) (by first | decide | omega)) (by first | decide | omega)) (by first | decide | omega)) (by first | decide | omega)) (by first | decide | omega)), (by first | assumption | exact zk_eq | exact zk_ne (by first | assumption | exact zk_eq | exact zk_ne (by first | assumption | exact zk_eq | exact zk_ne (by first | assumption | exact zk_eq | exact zk_ne (by first | assumption | exact zk_eq | exact zk_ne (by first | assumption | exact zk_eq) (by first | decide | omega)) (by first | decide | omega)) (by first | decide | omega)) (by first | decide | omega)) (by first | decide | omega)), fun q q1 q2 q3 => by (repeat (refine (va_up_ne _ _ (by first | assumption | omega)).trans ?_)); exact g4 q q1 q2 q3⟩ (by show _ - _ < _ - _; omega)
theorem c_newLength (hl : l.stackTraces = false) {n h : Nat} (hn : n + max 1 h ≤ 1000) : ZM l z mJ8_newLength_cabcc 1 0 0 [.int (nI n), .int (nI 1), .int (nI h)] w (fun r w1 => r = some (.int (nI (n + max 1 h))) ∧ w1 = w) zNo := by
  refine zbody (M := mJ8_newLength_cabcc) (L0 := [_, _, _, _]) hl (by simp [Value.category]) (Nat.le_of_ble_eq_true rfl) (by decide +kernel) rfl ?_
  intro p e s m args below meth c C hX hnm hret
  replace C : zC z p l s m args meth c cJ8_newLength_cabcc RJ8 4 := C
  replace hret : meth.sig.returnType = (some .int) := hret
  refine z_iload_n C dJ8_newLength_cabcc_0 rfl ?_
  refine z_iload_n C dJ8_newLength_cabcc_1 rfl ?_
  refine z_iload_n C dJ8_newLength_cabcc_2 rfl ?_
  refine z_max C zl_J8_194 dJ8_newLength_cabcc_3 rfl (by exact Nat.le_of_ble_eq_true rfl) (by exact Nat.le_of_ble_eq_true rfl) (by first | exact ⟨Nat.le_of_ble_eq_true rfl, Nat.le_of_ble_eq_true rfl⟩ | (simp only [zrm]; omega)) ?_
  rw [zmaxI (by decide) (by omega)]
  refine z_iadd C dJ8_newLength_cabcc_6 ?_
  rw [nI_add]
  refine z_istore_n C (L1 := [_, _, _, _]) dJ8_newLength_cabcc_7 (Nat.le_of_ble_eq_true rfl) rfl ?_
  refine z_iconst C (0) dJ8_newLength_cabcc_8 (by decide) ?_
  refine z_iload_n C dJ8_newLength_cabcc_9 rfl ?_
  refine z_icmp_ge C 21 dJ8_newLength_cabcc_10 (by decide) (fun h1 => ?_) (fun h1 => ?_)
  · exact absurd h1 (nI_nle (by omega) (by omega))
  refine z_iload_n C dJ8_newLength_cabcc_13 rfl ?_
  refine z_ldc C (2147483639) dJ8_newLength_cabcc_14 zco ?_
  refine z_icmp_gt C 21 dJ8_newLength_cabcc_16 (by decide) (fun h2 => ?_) (fun h2 => ?_)
  · exact absurd h2 (show ¬ nI 2147483639 < nI _ from nI_nlt (by omega) (by decide))
  refine z_iload_n C dJ8_newLength_cabcc_19 rfl ?_
  refine z_iret C hret dJ8_newLength_cabcc_20 (by first | exact Nat.le_of_ble_eq_true rfl | omega) (by first | exact Nat.le_of_ble_eq_true rfl | omega) ?_
  exact ⟨rfl, rfl⟩
theorem c_copyOf3 (hl : l.stackTraces = false) {k b n n2 : Nat} {f : Nat → Option Nat} (h : w k = some (b, zRo z n f)) (hn : n ≤ n2) (h2 : n2 ≤ 64) (hk : k < 99) (hel : ∀ i : Nat, i < n → ∀ y : Nat, f i = some y → zWk w y) : ZM l z mJ7_copyOf_6403c 2 1 64 [.ref b, .int (nI n2), .ref z.2.2.2.2] w (fun r w1 => ∃ (q : Nat) (g : Nat → Option Nat), r = some (.ref q) ∧ w1 = va_up w 99 (some (q, zRo z n2 g)) ∧ ∀ i : Nat, i < n → g i = f i) zNo := by
  refine zbody (M := mJ7_copyOf_6403c) (L0 := [_, _, _, _]) hl (by simp [Value.category]) (Nat.le_of_ble_eq_true rfl) (by decide +kernel) rfl ?_
  intro p e s m args below meth c C hX hnm hret
  replace C : zC z p l s m args meth c cJ7_copyOf_6403c RJ7 4 := C
  replace hret : meth.sig.returnType = (some (.array (.object "java/lang/Object"))) := hret
  refine z_aload_n C dJ7_copyOf_6403c_0 rfl ?_
  refine z_ldcM C dJ7_copyOf_6403c_1 zk_J7_110 ?_
  refine z_acmp_ne C 13 dJ7_copyOf_6403c_3 (by decide) (fun h1 => ?_) (fun h1 => ?_)
  · exact absurd rfl h1
  refine z_iload_n C dJ7_copyOf_6403c_6 rfl ?_
  refine z_newq C 99 (n := n2) rfl (by omega) zk_J7_2 dJ7_copyOf_6403c_7 (by exact Nat.le_of_ble_eq_true rfl) (by simp only [zrm]; omega) (fun q hq => ?_)
  refine z_goto C 24 dJ7_copyOf_6403c_10 (by decide) ?_
  refine z_astore_n C (L1 := [_, _, _, _]) dJ7_copyOf_6403c_24 (Nat.le_of_ble_eq_true rfl) rfl ?_
  refine z_aload_n C dJ7_copyOf_6403c_25 rfl ?_
  refine z_iconst C (0) dJ7_copyOf_6403c_26 (by decide) ?_
  refine z_aload_n C dJ7_copyOf_6403c_27 rfl ?_
  refine z_iconst C (0) dJ7_copyOf_6403c_28 (by decide) ?_
  refine z_aload_n C dJ7_copyOf_6403c_29 rfl ?_
  refine z_alen C dJ7_copyOf_6403c_30 (by first | assumption | exact zk_eq | exact zk_ne (by first | assumption | exact zk_eq | exact zk_ne (by first | assumption | exact zk_eq | exact zk_ne (by first | assumption | exact zk_eq | exact zk_ne (by first | assumption | exact zk_eq | exact zk_ne (by first | assumption | exact zk_eq) (by first | decide | omega)) (by first | decide | omega)) (by first | decide | omega)) (by first | decide | omega)) (by first | decide | omega)) (by decide) ?_
  refine z_iload_n C dJ7_copyOf_6403c_31 rfl ?_
  refine z_min C zl_J7_304 dJ7_copyOf_6403c_32 rfl (by exact Nat.le_of_ble_eq_true rfl) (by exact Nat.le_of_ble_eq_true rfl) (by simp only [zrm]; omega) ?_
  rw [zminI (by show n < _; omega) (by omega), Nat.min_eq_left hn]
  refine z_copy C (k0 := k) (k1 := 99) (sp := 0) (dp := 0) (n := n) zl_J7_150 dJ7_copyOf_6403c_35 (by first | assumption | exact zk_eq | exact zk_ne (by first | assumption | exact zk_eq | exact zk_ne (by first | assumption | exact zk_eq | exact zk_ne (by first | assumption | exact zk_eq | exact zk_ne (by first | assumption | exact zk_eq | exact zk_ne (by first | assumption | exact zk_eq) (by first | decide | omega)) (by first | decide | omega)) (by first | decide | omega)) (by first | decide | omega)) (by first | decide | omega)) (by first | assumption | exact zk_eq | exact zk_ne (by first | assumption | exact zk_eq | exact zk_ne (by first | assumption | exact zk_eq | exact zk_ne (by first | assumption | exact zk_eq | exact zk_ne (by first | assumption | exact zk_eq | exact zk_ne (by first | assumption | exact zk_eq) (by first | decide | omega)) (by first | decide | omega)) (by first | decide | omega)) (by first | decide | omega)) (by first | decide | omega)) rfl rfl rfl (by omega) (by omega) (by omega) (by omega) (fun i hi y hy => ?_) rfl (by exact Nat.le_of_ble_eq_true rfl) (by exact Nat.le_of_ble_eq_true rfl) ?_
  · rw [Nat.zero_add] at hy
    obtain ⟨j, vs, hj, hjv⟩ := hel i hi y hy
    exact ⟨j, vs, (by first | assumption | exact zk_eq | exact zk_ne (by first | assumption | exact zk_eq | exact zk_ne (by first | assumption | exact zk_eq | exact zk_ne (by first | assumption | exact zk_eq | exact zk_ne (by first | assumption | exact zk_eq | exact zk_ne (by first | assumption | exact zk_eq) (by first | decide | omega)) (by first | decide | omega)) (by first | decide | omega)) (by first | decide | omega)) (by first | decide | omega))⟩
  refine z_aload_n C dJ7_copyOf_6403c_38 rfl ?_
  refine z_widen (c2 := 1) (s2 := 64) (by omega) (by omega) ?_
  refine z_aret C hret (Or.inr ⟨_, rfl⟩) (by first | exact Or.inr ⟨_, rfl⟩ | exact va_rf_or _ | exact Or.inl rfl) dJ7_copyOf_6403c_39 (by first | exact Nat.le_of_ble_eq_true rfl | omega) (by first | exact Nat.le_of_ble_eq_true rfl | omega) ?_
  refine ⟨q, _, rfl, bx_uu _ _ _ _, fun i hi => ?_⟩
  rw [pk_cpy_in (Nat.zero_le _) (by omega)]
  simp
theorem c_copyOf2 (hl : l.stackTraces = false) {k b n n2 : Nat} {f : Nat → Option Nat} (h : w k = some (b, zRo z n f)) (hn : n ≤ n2) (h2 : n2 ≤ 64) (hk : k < 99) (hel : ∀ i : Nat, i < n → ∀ y : Nat, f i = some y → zWk w y) : ZM l z mJ7_copyOf_1904c 3 1 64 [.ref b, .int (nI n2)] w (fun r w1 => ∃ (q : Nat) (g : Nat → Option Nat), r = some (.ref q) ∧ w1 = va_up w 99 (some (q, zRo z n2 g)) ∧ ∀ i : Nat, i < n → g i = f i) zNo := by
  refine zbody (M := mJ7_copyOf_1904c) (L0 := [_, _]) hl (by simp [Value.category]) (Nat.le_of_ble_eq_true rfl) (by decide +kernel) rfl ?_
  intro p e s m args below meth c C hX hnm hret
  replace C : zC z p l s m args meth c cJ7_copyOf_1904c RJ7 2 := C
  replace hret : meth.sig.returnType = (some (.array (.object "java/lang/Object"))) := hret
  refine z_aload_n C dJ7_copyOf_1904c_0 rfl ?_
  refine z_iload_n C dJ7_copyOf_1904c_1 rfl ?_
  refine z_aload_n C dJ7_copyOf_1904c_2 rfl ?_
  refine z_getC C zl_J7_86 zgc_s zgc_i zgc_n dJ7_copyOf_1904c_3 (by first | assumption | exact zk_eq | exact zk_ne (by first | assumption | exact zk_eq | exact zk_ne (by first | assumption | exact zk_eq | exact zk_ne (by first | assumption | exact zk_eq | exact zk_ne (by first | assumption | exact zk_eq | exact zk_ne (by first | assumption | exact zk_eq) (by first | decide | omega)) (by first | decide | omega)) (by first | decide | omega)) (by first | decide | omega)) (by first | decide | omega)) rfl (by exact Nat.le_of_ble_eq_true rfl) (by exact Nat.le_of_ble_eq_true rfl) ?_
  refine z_callS C zm_J7_copyOf_6403c zl_J7_300 (c_copyOf3 hl h hn h2 hk hel) dJ7_copyOf_1904c_6 (by rfl) (by rfl) (by exact Nat.le_of_ble_eq_true rfl) rfl (by exact ⟨Nat.le_of_ble_eq_true rfl, Nat.le_of_ble_eq_true rfl⟩) (by first | exact ⟨Nat.le_of_ble_eq_true rfl, Nat.le_of_ble_eq_true rfl⟩ | (simp only [zrm]; omega)) (fun _ _ h => z_xno h) (fun r w1 hq => ?_)
  obtain ⟨q, g, rfl, rfl, hg⟩ := hq
  refine z_aret C hret (Or.inr ⟨_, rfl⟩) (by first | exact Or.inr ⟨_, rfl⟩ | exact va_rf_or _ | exact Or.inl rfl) dJ7_copyOf_1904c_9 (by first | exact Nat.le_of_ble_eq_true rfl | omega) (by first | exact Nat.le_of_ble_eq_true rfl | omega) ?_
  exact ⟨q, g, rfl, rfl, hg⟩
/-- a list before it grows: full, or the shared row -/
def zFull (z : zT) (w : zW) (k a : Nat) (md : Int32) (b sz : Nat) (f : Nat → Option Nat) : Prop := w k = some (a, zLo md b sz) ∧ ((sz = 0 ∧ b = z.2.2.2.1) ∨ (w (k + 1) = some (b, zRo z sz f) ∧ 10 ≤ sz ∧ sz ≤ 40 ∧ ∀ i : Nat, i < sz → ∀ y : Nat, f i = some y → zWk w y))
theorem c_grow1 (hl : l.stackTraces = false) {k a b sz : Nat} {md : Int32} {f : Nat → Option Nat} (h : zFull z w k a md b sz f) (hk : k + 1 < 99) : ZM l z mJx4a65c_grow_92f84 4 1 64 [.ref a, .int (nI (sz + 1))] w (fun r w1 => ∃ (q n : Nat) (g : Nat → Option Nat), r = some (.ref q) ∧ w1 k = some (a, zLo md q sz) ∧ w1 (k + 1) = some (q, zRo z n g) ∧ sz < n ∧ 10 ≤ n ∧ n ≤ 64 ∧ (∀ i : Nat, i < sz → g i = f i) ∧ zFk k w w1) zNo := by
  obtain ⟨h1, ⟨rfl, rfl⟩ | ⟨h2, h3, h4, h5⟩⟩ := h
  · refine zbody (M := mJx4a65c_grow_92f84) (L0 := [_, _, _, _]) hl (by simp [Value.category]) (Nat.le_of_ble_eq_true rfl) (by decide +kernel) rfl ?_
    intro p e s m args below meth c C hX hnm hret
    replace C : zC z p l s m args meth c cJx4a65c_grow_92f84 RJx4a65c 4 := C
    replace hret : meth.sig.returnType = (some (.array (.object "java/lang/Object"))) := hret
    refine z_aload_n C dJx4a65c_grow_92f84_0 rfl ?_
    refine z_getf C zf_Jx4a65c_9 dJx4a65c_grow_92f84_1 (by first | assumption | exact zk_eq | exact zk_ne (by first | assumption | exact zk_eq | exact zk_ne (by first | assumption | exact zk_eq | exact zk_ne (by first | assumption | exact zk_eq | exact zk_ne (by first | assumption | exact zk_eq | exact zk_ne (by first | assumption | exact zk_eq) (by first | decide | omega)) (by first | decide | omega)) (by first | decide | omega)) (by first | decide | omega)) (by first | decide | omega)) (by rfl) ?_
    refine z_alen0 C dJx4a65c_grow_92f84_4 ?_
    refine z_istore_n C (L1 := [_, _, _, _]) dJx4a65c_grow_92f84_5 (Nat.le_of_ble_eq_true rfl) rfl ?_
    refine z_iload_n C dJx4a65c_grow_92f84_6 rfl ?_
    refine z_if_gt C 20 dJx4a65c_grow_92f84_7 (by decide) (fun q1 => ?_) (fun q1 => ?_)
    · exact absurd q1 (by decide)
    refine z_aload_n C dJx4a65c_grow_92f84_10 rfl ?_
    refine z_getf C zf_Jx4a65c_9 dJx4a65c_grow_92f84_11 (by first | assumption | exact zk_eq | exact zk_ne (by first | assumption | exact zk_eq | exact zk_ne (by first | assumption | exact zk_eq | exact zk_ne (by first | assumption | exact zk_eq | exact zk_ne (by first | assumption | exact zk_eq | exact zk_ne (by first | assumption | exact zk_eq) (by first | decide | omega)) (by first | decide | omega)) (by first | decide | omega)) (by first | decide | omega)) (by first | decide | omega)) (by rfl) ?_
    refine z_gets C zw_Jx4a65c_39 dJx4a65c_grow_92f84_14 ?_
    refine z_acmp_eq C 45 dJx4a65c_grow_92f84_17 (by decide) (fun q2 => ?_) (fun q2 => ?_)
    · refine z_aload_n C dJx4a65c_grow_92f84_45 rfl ?_
      refine z_bipush C (10) dJx4a65c_grow_92f84_46 (by decide) ?_
      refine z_iload_n C dJx4a65c_grow_92f84_48 rfl ?_
      refine z_max C zl_Jx4a65c_79 dJx4a65c_grow_92f84_49 rfl (by exact Nat.le_of_ble_eq_true rfl) (by exact Nat.le_of_ble_eq_true rfl) (by first | exact ⟨Nat.le_of_ble_eq_true rfl, Nat.le_of_ble_eq_true rfl⟩ | (simp only [zrm]; omega)) ?_
      refine z_newq C (k + 1) (n := 10) (by decide) (by omega) zk_Jx4a65c_7 dJx4a65c_grow_92f84_52 (by exact Nat.le_of_ble_eq_true rfl) (by exact Nat.le_of_ble_eq_true rfl) (fun q hq => ?_)
      refine z_dup_x1 C dJx4a65c_grow_92f84_55 rfl rfl ?_
      refine z_putf C (fs1 := [_, _, _]) zp_Jx4a65c_9 dJx4a65c_grow_92f84_56 (by first | assumption | exact zk_eq | exact zk_ne (by first | assumption | exact zk_eq | exact zk_ne (by first | assumption | exact zk_eq | exact zk_ne (by first | assumption | exact zk_eq | exact zk_ne (by first | assumption | exact zk_eq | exact zk_ne (by first | assumption | exact zk_eq) (by first | decide | omega)) (by first | decide | omega)) (by first | decide | omega)) (by first | decide | omega)) (by first | decide | omega)) (by first | rfl | exact zb_nar _ | assumption) (by first | rfl | exact zb_fit _ | assumption) (by exact Nat.le_of_ble_eq_true rfl) (by rfl) ?_
      refine z_widen (c2 := 1) (s2 := 64) (by omega) (by omega) ?_
      refine z_aret C hret (Or.inr ⟨_, rfl⟩) (by first | exact Or.inr ⟨_, rfl⟩ | exact va_rf_or _ | exact Or.inl rfl) dJx4a65c_grow_92f84_59 (by first | exact Nat.le_of_ble_eq_true rfl | omega) (by first | exact Nat.le_of_ble_eq_true rfl | omega) ?_
      exact ⟨q, 10, _, rfl, (by first | assumption | exact zk_eq | exact zk_ne (by first | assumption | exact zk_eq | exact zk_ne (by first | assumption | exact zk_eq | exact zk_ne (by first | assumption | exact zk_eq | exact zk_ne (by first | assumption | exact zk_eq | exact zk_ne (by first | assumption | exact zk_eq) (by first | decide | omega)) (by first | decide | omega)) (by first | decide | omega)) (by first | decide | omega)) (by first | decide | omega)), (by first | assumption | exact zk_eq | exact zk_ne (by first | assumption | exact zk_eq | exact zk_ne (by first | assumption | exact zk_eq | exact zk_ne (by first | assumption | exact zk_eq | exact zk_ne (by first | assumption | exact zk_eq | exact zk_ne (by first | assumption | exact zk_eq) (by first | decide | omega)) (by first | decide | omega)) (by first | decide | omega)) (by first | decide | omega)) (by first | decide | omega)), by omega, by omega, by omega, fun i hi => absurd hi (Nat.not_lt_zero _), fun q q1 q2 q3 => by (repeat (refine (va_up_ne _ _ (by first | assumption | omega)).trans ?_)); rfl⟩
    · exact absurd rfl q2
  · refine zbody (M := mJx4a65c_grow_92f84) (L0 := [_, _, _, _]) hl (by simp [Value.category]) (Nat.le_of_ble_eq_true rfl) (by decide +kernel) rfl ?_
    intro p e s m args below meth c C hX hnm hret
    replace C : zC z p l s m args meth c cJx4a65c_grow_92f84 RJx4a65c 4 := C
    replace hret : meth.sig.returnType = (some (.array (.object "java/lang/Object"))) := hret
    refine z_aload_n C dJx4a65c_grow_92f84_0 rfl ?_
    refine z_getf C zf_Jx4a65c_9 dJx4a65c_grow_92f84_1 (by first | assumption | exact zk_eq | exact zk_ne (by first | assumption | exact zk_eq | exact zk_ne (by first | assumption | exact zk_eq | exact zk_ne (by first | assumption | exact zk_eq | exact zk_ne (by first | assumption | exact zk_eq | exact zk_ne (by first | assumption | exact zk_eq) (by first | decide | omega)) (by first | decide | omega)) (by first | decide | omega)) (by first | decide | omega)) (by first | decide | omega)) (by rfl) ?_
    refine z_alen C dJx4a65c_grow_92f84_4 (by first | assumption | exact zk_eq | exact zk_ne (by first | assumption | exact zk_eq | exact zk_ne (by first | assumption | exact zk_eq | exact zk_ne (by first | assumption | exact zk_eq | exact zk_ne (by first | assumption | exact zk_eq | exact zk_ne (by first | assumption | exact zk_eq) (by first | decide | omega)) (by first | decide | omega)) (by first | decide | omega)) (by first | decide | omega)) (by first | decide | omega)) (by decide) ?_
    refine z_istore_n C (L1 := [_, _, _, _]) dJx4a65c_grow_92f84_5 (Nat.le_of_ble_eq_true rfl) rfl ?_
    refine z_iload_n C dJx4a65c_grow_92f84_6 rfl ?_
    refine z_if_gt C 20 dJx4a65c_grow_92f84_7 (by decide) (fun q1 => ?_) (fun q1 => ?_)
    · refine z_iload_n C dJx4a65c_grow_92f84_20 rfl ?_
      refine z_iload_n C dJx4a65c_grow_92f84_21 rfl ?_
      refine z_iload_n C dJx4a65c_grow_92f84_22 rfl ?_
      refine z_isub C dJx4a65c_grow_92f84_23 ?_
      rw [show nI (sz + 1) - nI sz = nI 1 by rw [pk_sub (by omega), Nat.add_sub_cancel_left]]
      refine z_iload_n C dJx4a65c_grow_92f84_24 rfl ?_
      refine z_iconst C (1) dJx4a65c_grow_92f84_25 (by decide) ?_
      refine z_ishr C dJx4a65c_grow_92f84_26 ?_
      rw [zhalf (by omega)]
      refine z_callS C zm_J8_newLength_cabcc zl_Jx4a65c_73 (c_newLength (n := sz) (h := sz / 2) hl (by omega)) dJx4a65c_grow_92f84_27 (by rfl) (by rfl) (by exact Nat.le_of_ble_eq_true rfl) rfl (by exact ⟨Nat.le_of_ble_eq_true rfl, Nat.le_of_ble_eq_true rfl⟩) (by first | exact ⟨Nat.le_of_ble_eq_true rfl, Nat.le_of_ble_eq_true rfl⟩ | (simp only [zrm]; omega)) (fun _ _ h => z_xno h) (fun r w1 hq => ?_)
      obtain ⟨rfl, rfl⟩ := hq
      refine z_istore_n C (L1 := [_, _, _, _]) dJx4a65c_grow_92f84_30 (Nat.le_of_ble_eq_true rfl) rfl ?_
      refine z_aload_n C dJx4a65c_grow_92f84_31 rfl ?_
      refine z_aload_n C dJx4a65c_grow_92f84_32 rfl ?_
      refine z_getf C zf_Jx4a65c_9 dJx4a65c_grow_92f84_33 (by first | assumption | exact zk_eq | exact zk_ne (by first | assumption | exact zk_eq | exact zk_ne (by first | assumption | exact zk_eq | exact zk_ne (by first | assumption | exact zk_eq | exact zk_ne (by first | assumption | exact zk_eq | exact zk_ne (by first | assumption | exact zk_eq) (by first | decide | omega)) (by first | decide | omega)) (by first | decide | omega)) (by first | decide | omega)) (by first | decide | omega)) (by rfl) ?_
      refine z_iload_n C dJx4a65c_grow_92f84_36 rfl ?_
      refine z_callS C zm_J7_copyOf_1904c zl_Jx4a65c_66 (c_copyOf2 (n2 := sz + max 1 (sz / 2)) hl h2 (by omega) (by omega) hk h5) dJx4a65c_grow_92f84_37 (by rfl) (by rfl) (by exact Nat.le_of_ble_eq_true rfl) rfl (by exact ⟨Nat.le_of_ble_eq_true rfl, Nat.le_of_ble_eq_true rfl⟩) (by first | exact ⟨Nat.le_of_ble_eq_true rfl, Nat.le_of_ble_eq_true rfl⟩ | (simp only [zrm]; omega)) (fun _ _ h => z_xno h) (fun r w1 hq => ?_)
      obtain ⟨q, g, rfl, rfl, hg⟩ := hq
      refine z_dup_x1 C dJx4a65c_grow_92f84_40 rfl rfl ?_
      refine z_putf C (fs1 := [_, _, _]) zp_Jx4a65c_9 dJx4a65c_grow_92f84_41 (by first | assumption | exact zk_eq | exact zk_ne (by first | assumption | exact zk_eq | exact zk_ne (by first | assumption | exact zk_eq | exact zk_ne (by first | assumption | exact zk_eq | exact zk_ne (by first | assumption | exact zk_eq | exact zk_ne (by first | assumption | exact zk_eq) (by first | decide | omega)) (by first | decide | omega)) (by first | decide | omega)) (by first | decide | omega)) (by first | decide | omega)) (by first | rfl | exact zb_nar _ | assumption) (by first | rfl | exact zb_fit _ | assumption) (by exact Nat.le_of_ble_eq_true rfl) (by rfl) ?_
      refine z_ren 99 (k + 1) ?_
      refine z_aret C hret (Or.inr ⟨_, rfl⟩) (by first | exact Or.inr ⟨_, rfl⟩ | exact va_rf_or _ | exact Or.inl rfl) dJx4a65c_grow_92f84_44 (by first | exact Nat.le_of_ble_eq_true rfl | omega) (by first | exact Nat.le_of_ble_eq_true rfl | omega) ?_
      refine ⟨q, sz + max 1 (sz / 2), g, rfl, ?_, ?_, by omega, by omega, by omega, hg, fun j j1 j2 j3 => ?_⟩
      · dsimp only
        rw [if_neg (by omega), if_neg (by omega)]
        exact (by first | assumption | exact zk_eq | exact zk_ne (by first | assumption | exact zk_eq | exact zk_ne (by first | assumption | exact zk_eq | exact zk_ne (by first | assumption | exact zk_eq | exact zk_ne (by first | assumption | exact zk_eq | exact zk_ne (by first | assumption | exact zk_eq) (by first | decide | omega)) (by first | decide | omega)) (by first | decide | omega)) (by first | decide | omega)) (by first | decide | omega))
      · dsimp only
        rw [if_pos rfl]
        exact (by first | assumption | exact zk_eq | exact zk_ne (by first | assumption | exact zk_eq | exact zk_ne (by first | assumption | exact zk_eq | exact zk_ne (by first | assumption | exact zk_eq | exact zk_ne (by first | assumption | exact zk_eq | exact zk_ne (by first | assumption | exact zk_eq) (by first | decide | omega)) (by first | decide | omega)) (by first | decide | omega)) (by first | decide | omega)) (by first | decide | omega))
      · dsimp only
        rw [if_neg j2, if_neg j3]
        (repeat (refine (va_up_ne _ _ (by first | assumption | omega)).trans ?_))
        rfl
    · exact absurd (show 0 < nI sz from nI_lt (a := 0) (by omega) (by omega)) q1
theorem c_grow (hl : l.stackTraces = false) {k a b sz : Nat} {md : Int32} {f : Nat → Option Nat} (h : zFull z w k a md b sz f) (hk : k + 1 < 99) : ZM l z mJx4a65c_grow_d5877 5 1 64 [.ref a] w (fun r w1 => ∃ (q n : Nat) (g : Nat → Option Nat), r = some (.ref q) ∧ w1 k = some (a, zLo md q sz) ∧ w1 (k + 1) = some (q, zRo z n g) ∧ sz < n ∧ 10 ≤ n ∧ n ≤ 64 ∧ (∀ i : Nat, i < sz → g i = f i) ∧ zFk k w w1) zNo := by
  have h1 := h.1
  refine zbody (M := mJx4a65c_grow_d5877) (L0 := [_]) hl (by simp [Value.category]) (Nat.le_of_ble_eq_true rfl) (by decide +kernel) rfl ?_
  intro p e s m args below meth c C hX hnm hret
  replace C : zC z p l s m args meth c cJx4a65c_grow_d5877 RJx4a65c 1 := C
  replace hret : meth.sig.returnType = (some (.array (.object "java/lang/Object"))) := hret
  refine z_aload_n C dJx4a65c_grow_d5877_0 rfl ?_
  refine z_aload_n C dJx4a65c_grow_d5877_1 rfl ?_
  refine z_getf C zf_Jx4a65c_48 dJx4a65c_grow_d5877_2 (by first | assumption | exact zk_eq | exact zk_ne (by first | assumption | exact zk_eq | exact zk_ne (by first | assumption | exact zk_eq | exact zk_ne (by first | assumption | exact zk_eq | exact zk_ne (by first | assumption | exact zk_eq | exact zk_ne (by first | assumption | exact zk_eq) (by first | decide | omega)) (by first | decide | omega)) (by first | decide | omega)) (by first | decide | omega)) (by first | decide | omega)) (by rfl) ?_
  refine z_iconst C (1) dJx4a65c_grow_d5877_5 (by decide) ?_
  refine z_iadd C dJx4a65c_grow_d5877_6 ?_
  rw [show nI sz + 1 = nI (sz + 1) from nI_1 sz]
  refine z_callV C zm_Jx4a65c_grow_92f84 zl_Jx4a65c_69 (c_grow1 hl h hk) dJx4a65c_grow_d5877_7 (by first | assumption | exact zk_eq | exact zk_ne (by first | assumption | exact zk_eq | exact zk_ne (by first | assumption | exact zk_eq | exact zk_ne (by first | assumption | exact zk_eq | exact zk_ne (by first | assumption | exact zk_eq | exact zk_ne (by first | assumption | exact zk_eq) (by first | decide | omega)) (by first | decide | omega)) (by first | decide | omega)) (by first | decide | omega)) (by first | decide | omega)) (by rfl) (by rfl) (by rfl) (by exact Nat.le_of_ble_eq_true rfl) rfl (by exact ⟨Nat.le_of_ble_eq_true rfl, Nat.le_of_ble_eq_true rfl⟩) (by first | exact ⟨Nat.le_of_ble_eq_true rfl, Nat.le_of_ble_eq_true rfl⟩ | (simp only [zrm]; omega)) (fun _ _ h => z_xno h) (fun r w1 hq => ?_)
  obtain ⟨q, n, g, rfl, g1, g2, g3, g4, g5, g6, g7⟩ := hq
  refine z_aret C hret (Or.inr ⟨_, rfl⟩) (by first | exact Or.inr ⟨_, rfl⟩ | exact va_rf_or _ | exact Or.inl rfl) dJx4a65c_grow_d5877_10 (by first | exact Nat.le_of_ble_eq_true rfl | omega) (by first | exact Nat.le_of_ble_eq_true rfl | omega) ?_
  exact ⟨q, n, g, rfl, g1, g2, g3, g4, g5, g6, g7⟩
/-- a list of xs, told by its parts -/
theorem zLs.mk {k a b n : Nat} {md : Int32} {f : Nat → Option Nat} {xs : List Nat} (h1 : w k = some (a, zLo md b xs.length)) (h2 : w (k + 1) = some (b, zRo z n f)) (h3 : xs.length ≤ n) (h4 : 10 ≤ n) (h5 : n ≤ 64) (h6 : ∀ i : Nat, i < xs.length → f i = xs[i]?) : zLs z w k a xs := ⟨md, b, h1, Or.inr ⟨n, f, h2, h3, h4, h5, h6⟩⟩
theorem zLs.elem {k a : Nat} {xs : List Nat} {n : Nat} {f : Nat → Option Nat} (h6 : ∀ i : Nat, i < xs.length → f i = xs[i]?) (hel : ∀ y ∈ xs, zWk w y) : ∀ i : Nat, i < xs.length → ∀ y : Nat, f i = some y → zWk w y := fun i hi y hy => hel y (List.mem_of_getElem? ((h6 i hi).symm.trans hy))
theorem c_add3 (hl : l.stackTraces = false) {k a b x : Nat} {md : Int32} {xs : List Nat} (h1 : w k = some (a, zLo md b xs.length)) (h2 : (xs = [] ∧ b = z.2.2.2.1) ∨ ∃ (n : Nat) (f : Nat → Option Nat), w (k + 1) = some (b, zRo z n f) ∧ xs.length ≤ n ∧ 10 ≤ n ∧ n ≤ 64 ∧ ∀ i : Nat, i < xs.length → f i = xs[i]?) (hlen : xs.length ≤ 40) (hel : ∀ y ∈ xs, zWk w y) (hx : zWk w x) (hk : k + 1 < 99) : ZM l z mJx4a65c_add_72be8 6 1 64 [.ref a, .ref x, .ref b, .int (nI xs.length)] w (fun r w1 => r = none ∧ zLs z w1 k a (xs ++ [x]) ∧ zFk k w w1) zNo := by
  have hlen2 : (xs ++ [x]).length = xs.length + 1 := by simp
  have key : ∀ (n q : Nat) (md : Int32) (f : Nat → Option Nat) (w1 : zW), w1 k = some (a, zLo md q (xs.length + 1)) → w1 (k + 1) = some (q, zRo z n (va_up f xs.length (some x))) → xs.length < n → 10 ≤ n → n ≤ 64 → (∀ i : Nat, i < xs.length → f i = xs[i]?) → zLs z w1 k a (xs ++ [x]) := by
    intro n q md f w1 g1 g2 g3 g4 g5 g6
    refine zLs.mk (by rw [hlen2]; exact g1) g2 (by omega) g4 g5 (fun i hi => ?_)
    by_cases e : i = xs.length
    · subst e
      rw [va_up_self]
      simp
    · rw [va_up_ne _ _ e, List.getElem?_append_left (by omega)]
      exact g6 i (by omega)
  refine zbody (M := mJx4a65c_add_72be8) (L0 := [_, _, _, _]) hl (by simp [Value.category]) (Nat.le_of_ble_eq_true rfl) (by decide +kernel) rfl ?_
  intro p e s m args below meth c C hX hnm hret
  replace C : zC z p l s m args meth c cJx4a65c_add_72be8 RJx4a65c 4 := C
  replace hret : meth.sig.returnType = none := hret
  rcases h2 with ⟨rfl, rfl⟩ | ⟨n, f, h2, h3, h4, h5, h6⟩
  · refine z_iload_n C dJx4a65c_add_72be8_0 rfl ?_
    refine z_aload_n C dJx4a65c_add_72be8_1 rfl ?_
    refine z_alen0 C dJx4a65c_add_72be8_2 ?_
    refine z_icmp_ne C 11 dJx4a65c_add_72be8_3 (by decide) (fun q1 => ?_) (fun q1 => ?_)
    · exact absurd rfl q1
    refine z_aload_n C dJx4a65c_add_72be8_6 rfl ?_
    refine z_callV C zm_Jx4a65c_grow_d5877 zl_Jx4a65c_129 (c_grow (f := fun _ => none) hl ⟨h1, Or.inl ⟨rfl, rfl⟩⟩ hk) dJx4a65c_add_72be8_7 (by first | assumption | exact zk_eq | exact zk_ne (by first | assumption | exact zk_eq | exact zk_ne (by first | assumption | exact zk_eq | exact zk_ne (by first | assumption | exact zk_eq | exact zk_ne (by first | assumption | exact zk_eq | exact zk_ne (by first | assumption | exact zk_eq) (by first | decide | omega)) (by first | decide | omega)) (by first | decide | omega)) (by first | decide | omega)) (by first | decide | omega)) (by rfl) (by rfl) (by rfl) (by exact Nat.le_of_ble_eq_true rfl) rfl (by exact ⟨Nat.le_of_ble_eq_true rfl, Nat.le_of_ble_eq_true rfl⟩) (by first | exact ⟨Nat.le_of_ble_eq_true rfl, Nat.le_of_ble_eq_true rfl⟩ | (simp only [zrm]; omega)) (fun _ _ h => z_xno h) (fun r w1 hq => ?_)
    obtain ⟨q, n, g, rfl, g1, g2, g3, g4, g5, g6, g7⟩ := hq
    obtain ⟨j, vs, hj, hjv⟩ := hx.fk g7 hk
    refine z_astore_n C (L1 := [_, _, _, _]) dJx4a65c_add_72be8_10 (Nat.le_of_ble_eq_true rfl) rfl ?_
    refine z_aload_n C dJx4a65c_add_72be8_11 rfl ?_
    refine z_iload_n C dJx4a65c_add_72be8_12 rfl ?_
    refine z_aload_n C dJx4a65c_add_72be8_13 rfl ?_
    refine z_aast C (j := 0) dJx4a65c_add_72be8_14 (by first | assumption | exact zk_eq | exact zk_ne (by first | assumption | exact zk_eq | exact zk_ne (by first | assumption | exact zk_eq | exact zk_ne (by first | assumption | exact zk_eq | exact zk_ne (by first | assumption | exact zk_eq | exact zk_ne (by first | assumption | exact zk_eq) (by first | decide | omega)) (by first | decide | omega)) (by first | decide | omega)) (by first | decide | omega)) (by first | decide | omega)) (by first | assumption | exact zk_eq | exact zk_ne (by first | assumption | exact zk_eq | exact zk_ne (by first | assumption | exact zk_eq | exact zk_ne (by first | assumption | exact zk_eq | exact zk_ne (by first | assumption | exact zk_eq | exact zk_ne (by first | assumption | exact zk_eq) (by first | decide | omega)) (by first | decide | omega)) (by first | decide | omega)) (by first | decide | omega)) (by first | decide | omega)) rfl (show 0 < n by omega) (by omega) ?_
    refine z_aload_n C dJx4a65c_add_72be8_15 rfl ?_
    refine z_iload_n C dJx4a65c_add_72be8_16 rfl ?_
    refine z_iconst C (1) dJx4a65c_add_72be8_17 (by decide) ?_
    refine z_iadd C dJx4a65c_add_72be8_18 ?_
    refine z_putf C (fs1 := [_, _, _]) zp_Jx4a65c_48 dJx4a65c_add_72be8_19 (by first | assumption | exact zk_eq | exact zk_ne (by first | assumption | exact zk_eq | exact zk_ne (by first | assumption | exact zk_eq | exact zk_ne (by first | assumption | exact zk_eq | exact zk_ne (by first | assumption | exact zk_eq | exact zk_ne (by first | assumption | exact zk_eq) (by first | decide | omega)) (by first | decide | omega)) (by first | decide | omega)) (by first | decide | omega)) (by first | decide | omega)) (by first | rfl | exact zb_nar _ | assumption) (by first | rfl | exact zb_fit _ | assumption) (by exact Nat.le_of_ble_eq_true rfl) (by rfl) ?_
    refine z_vret C hret dJx4a65c_add_72be8_22 (by first | exact Nat.le_of_ble_eq_true rfl | omega) (by first | exact Nat.le_of_ble_eq_true rfl | omega) ?_
    exact ⟨rfl, key n q md g _ (by first | assumption | exact zk_eq | exact zk_ne (by first | assumption | exact zk_eq | exact zk_ne (by first | assumption | exact zk_eq | exact zk_ne (by first | assumption | exact zk_eq | exact zk_ne (by first | assumption | exact zk_eq | exact zk_ne (by first | assumption | exact zk_eq) (by first | decide | omega)) (by first | decide | omega)) (by first | decide | omega)) (by first | decide | omega)) (by first | decide | omega)) (by first | assumption | exact zk_eq | exact zk_ne (by first | assumption | exact zk_eq | exact zk_ne (by first | assumption | exact zk_eq | exact zk_ne (by first | assumption | exact zk_eq | exact zk_ne (by first | assumption | exact zk_eq | exact zk_ne (by first | assumption | exact zk_eq) (by first | decide | omega)) (by first | decide | omega)) (by first | decide | omega)) (by first | decide | omega)) (by first | decide | omega)) (by simp; omega) g4 g5 (fun i hi => absurd hi (Nat.not_lt_zero _)), fun j j1 j2 j3 => by (repeat (refine (va_up_ne _ _ (by first | assumption | omega)).trans ?_)); exact g7 j j1 j2 j3⟩
  · refine z_iload_n C dJx4a65c_add_72be8_0 rfl ?_
    refine z_aload_n C dJx4a65c_add_72be8_1 rfl ?_
    refine z_alen C dJx4a65c_add_72be8_2 (by first | assumption | exact zk_eq | exact zk_ne (by first | assumption | exact zk_eq | exact zk_ne (by first | assumption | exact zk_eq | exact zk_ne (by first | assumption | exact zk_eq | exact zk_ne (by first | assumption | exact zk_eq | exact zk_ne (by first | assumption | exact zk_eq) (by first | decide | omega)) (by first | decide | omega)) (by first | decide | omega)) (by first | decide | omega)) (by first | decide | omega)) (by decide) ?_
    refine z_icmp_ne C 11 dJx4a65c_add_72be8_3 (by decide) (fun q1 => ?_) (fun q1 => ?_)
    · have hlt : xs.length < n := by
        rcases Nat.lt_or_ge xs.length n with q | q
        · exact q
        · exact absurd (congrArg nI (show xs.length = n by omega)) q1
      obtain ⟨j, vs, hj, hjv⟩ := hx
      refine z_aload_n C dJx4a65c_add_72be8_11 rfl ?_
      refine z_iload_n C dJx4a65c_add_72be8_12 rfl ?_
      refine z_aload_n C dJx4a65c_add_72be8_13 rfl ?_
      refine z_aast C (j := xs.length) dJx4a65c_add_72be8_14 (by first | assumption | exact zk_eq | exact zk_ne (by first | assumption | exact zk_eq | exact zk_ne (by first | assumption | exact zk_eq | exact zk_ne (by first | assumption | exact zk_eq | exact zk_ne (by first | assumption | exact zk_eq | exact zk_ne (by first | assumption | exact zk_eq) (by first | decide | omega)) (by first | decide | omega)) (by first | decide | omega)) (by first | decide | omega)) (by first | decide | omega)) (by first | assumption | exact zk_eq | exact zk_ne (by first | assumption | exact zk_eq | exact zk_ne (by first | assumption | exact zk_eq | exact zk_ne (by first | assumption | exact zk_eq | exact zk_ne (by first | assumption | exact zk_eq | exact zk_ne (by first | assumption | exact zk_eq) (by first | decide | omega)) (by first | decide | omega)) (by first | decide | omega)) (by first | decide | omega)) (by first | decide | omega)) rfl hlt (by omega) ?_
      refine z_aload_n C dJx4a65c_add_72be8_15 rfl ?_
      refine z_iload_n C dJx4a65c_add_72be8_16 rfl ?_
      refine z_iconst C (1) dJx4a65c_add_72be8_17 (by decide) ?_
      refine z_iadd C dJx4a65c_add_72be8_18 ?_
      rw [nI_1]
      refine z_putf C (fs1 := [_, _, _]) zp_Jx4a65c_48 dJx4a65c_add_72be8_19 (by first | assumption | exact zk_eq | exact zk_ne (by first | assumption | exact zk_eq | exact zk_ne (by first | assumption | exact zk_eq | exact zk_ne (by first | assumption | exact zk_eq | exact zk_ne (by first | assumption | exact zk_eq | exact zk_ne (by first | assumption | exact zk_eq) (by first | decide | omega)) (by first | decide | omega)) (by first | decide | omega)) (by first | decide | omega)) (by first | decide | omega)) (by first | rfl | exact zb_nar _ | assumption) (by first | rfl | exact zb_fit _ | assumption) (by exact Nat.le_of_ble_eq_true rfl) (by rfl) ?_
      refine z_widen (c2 := 1) (s2 := 64) (by omega) (by omega) ?_
      refine z_vret C hret dJx4a65c_add_72be8_22 (by first | exact Nat.le_of_ble_eq_true rfl | omega) (by first | exact Nat.le_of_ble_eq_true rfl | omega) ?_
      exact ⟨rfl, key n b md f _ (by first | assumption | exact zk_eq | exact zk_ne (by first | assumption | exact zk_eq | exact zk_ne (by first | assumption | exact zk_eq | exact zk_ne (by first | assumption | exact zk_eq | exact zk_ne (by first | assumption | exact zk_eq | exact zk_ne (by first | assumption | exact zk_eq) (by first | decide | omega)) (by first | decide | omega)) (by first | decide | omega)) (by first | decide | omega)) (by first | decide | omega)) (by first | assumption | exact zk_eq | exact zk_ne (by first | assumption | exact zk_eq | exact zk_ne (by first | assumption | exact zk_eq | exact zk_ne (by first | assumption | exact zk_eq | exact zk_ne (by first | assumption | exact zk_eq | exact zk_ne (by first | assumption | exact zk_eq) (by first | decide | omega)) (by first | decide | omega)) (by first | decide | omega)) (by first | decide | omega)) (by first | decide | omega)) hlt h4 h5 h6, fun j j1 j2 j3 => by (repeat (refine (va_up_ne _ _ (by first | assumption | omega)).trans ?_)); rfl⟩
    · have hn : xs.length = n := (nI_eq (by omega) (by omega)).mp q1
      subst hn
      refine z_aload_n C dJx4a65c_add_72be8_6 rfl ?_
      refine z_callV C zm_Jx4a65c_grow_d5877 zl_Jx4a65c_129 (c_grow hl ⟨h1, Or.inr ⟨h2, h4, hlen, zLs.elem (k := k) (a := a) (n := 0) h6 hel⟩⟩ hk) dJx4a65c_add_72be8_7 (by first | assumption | exact zk_eq | exact zk_ne (by first | assumption | exact zk_eq | exact zk_ne (by first | assumption | exact zk_eq | exact zk_ne (by first | assumption | exact zk_eq | exact zk_ne (by first | assumption | exact zk_eq | exact zk_ne (by first | assumption | exact zk_eq) (by first | decide | omega)) (by first | decide | omega)) (by first | decide | omega)) (by first | decide | omega)) (by first | decide | omega)) (by rfl) (by rfl) (by rfl) (by exact Nat.le_of_ble_eq_true rfl) rfl (by exact ⟨Nat.le_of_ble_eq_true rfl, Nat.le_of_ble_eq_true rfl⟩) (by first | exact ⟨Nat.le_of_ble_eq_true rfl, Nat.le_of_ble_eq_true rfl⟩ | (simp only [zrm]; omega)) (fun _ _ h => z_xno h) (fun r w1 hq => ?_)
      obtain ⟨q, n, g, rfl, g1, g2, g3, g4, g5, g6, g7⟩ := hq
      obtain ⟨j, vs, hj, hjv⟩ := hx.fk g7 hk
      refine z_astore_n C (L1 := [_, _, _, _]) dJx4a65c_add_72be8_10 (Nat.le_of_ble_eq_true rfl) rfl ?_
      refine z_aload_n C dJx4a65c_add_72be8_11 rfl ?_
      refine z_iload_n C dJx4a65c_add_72be8_12 rfl ?_
      refine z_aload_n C dJx4a65c_add_72be8_13 rfl ?_
      refine z_aast C (j := xs.length) dJx4a65c_add_72be8_14 (by first | assumption | exact zk_eq | exact zk_ne (by first | assumption | exact zk_eq | exact zk_ne (by first | assumption | exact zk_eq | exact zk_ne (by first | assumption | exact zk_eq | exact zk_ne (by first | assumption | exact zk_eq | exact zk_ne (by first | assumption | exact zk_eq) (by first | decide | omega)) (by first | decide | omega)) (by first | decide | omega)) (by first | decide | omega)) (by first | decide | omega)) (by first | assumption | exact zk_eq | exact zk_ne (by first | assumption | exact zk_eq | exact zk_ne (by first | assumption | exact zk_eq | exact zk_ne (by first | assumption | exact zk_eq | exact zk_ne (by first | assumption | exact zk_eq | exact zk_ne (by first | assumption | exact zk_eq) (by first | decide | omega)) (by first | decide | omega)) (by first | decide | omega)) (by first | decide | omega)) (by first | decide | omega)) rfl g3 (by omega) ?_
      refine z_aload_n C dJx4a65c_add_72be8_15 rfl ?_
      refine z_iload_n C dJx4a65c_add_72be8_16 rfl ?_
      refine z_iconst C (1) dJx4a65c_add_72be8_17 (by decide) ?_
      refine z_iadd C dJx4a65c_add_72be8_18 ?_
      rw [nI_1]
      refine z_putf C (fs1 := [_, _, _]) zp_Jx4a65c_48 dJx4a65c_add_72be8_19 (by first | assumption | exact zk_eq | exact zk_ne (by first | assumption | exact zk_eq | exact zk_ne (by first | assumption | exact zk_eq | exact zk_ne (by first | assumption | exact zk_eq | exact zk_ne (by first | assumption | exact zk_eq | exact zk_ne (by first | assumption | exact zk_eq) (by first | decide | omega)) (by first | decide | omega)) (by first | decide | omega)) (by first | decide | omega)) (by first | decide | omega)) (by first | rfl | exact zb_nar _ | assumption) (by first | rfl | exact zb_fit _ | assumption) (by exact Nat.le_of_ble_eq_true rfl) (by rfl) ?_
      refine z_vret C hret dJx4a65c_add_72be8_22 (by first | exact Nat.le_of_ble_eq_true rfl | omega) (by first | exact Nat.le_of_ble_eq_true rfl | omega) ?_
      exact ⟨rfl, key n q md g _ (by first | assumption | exact zk_eq | exact zk_ne (by first | assumption | exact zk_eq | exact zk_ne (by first | assumption | exact zk_eq | exact zk_ne (by first | assumption | exact zk_eq | exact zk_ne (by first | assumption | exact zk_eq | exact zk_ne (by first | assumption | exact zk_eq) (by first | decide | omega)) (by first | decide | omega)) (by first | decide | omega)) (by first | decide | omega)) (by first | decide | omega)) (by first | assumption | exact zk_eq | exact zk_ne (by first | assumption | exact zk_eq | exact zk_ne (by first | assumption | exact zk_eq | exact zk_ne (by first | assumption | exact zk_eq | exact zk_ne (by first | assumption | exact zk_eq | exact zk_ne (by first | assumption | exact zk_eq) (by first | decide | omega)) (by first | decide | omega)) (by first | decide | omega)) (by first | decide | omega)) (by first | decide | omega)) g3 g4 g5 (fun i hi => (g6 i hi).trans (h6 i hi)), fun j j1 j2 j3 => by (repeat (refine (va_up_ne _ _ (by first | assumption | omega)).trans ?_)); exact g7 j j1 j2 j3⟩
theorem c_addE (hl : l.stackTraces = false) {k a x : Nat} {xs : List Nat} (h : zLs z w k a xs) (hlen : xs.length ≤ 40) (hel : ∀ y ∈ xs, zWk w y) (hx : zWk w x) (hk : k + 1 < 99) : ZM l z mJx4a65c_add_9ea2d 7 1 64 [.ref a, .ref x] w (fun r w1 => r = some (.int 1) ∧ zLs z w1 k a (xs ++ [x]) ∧ zFk k w w1) zNo := by
  obtain ⟨md, b, h1, h2⟩ := h
  refine zbody (M := mJx4a65c_add_9ea2d) (L0 := [_, _]) hl (by simp [Value.category]) (Nat.le_of_ble_eq_true rfl) (by decide +kernel) rfl ?_
  intro p e s m args below meth c C hX hnm hret
  replace C : zC z p l s m args meth c cJx4a65c_add_9ea2d RJx4a65c 2 := C
  replace hret : meth.sig.returnType = (some .boolean) := hret
  refine z_aload_n C dJx4a65c_add_9ea2d_0 rfl ?_
  refine z_dup C dJx4a65c_add_9ea2d_1 rfl ?_
  refine z_getf C zf_Jx4a65c_63 dJx4a65c_add_9ea2d_2 (by first | assumption | exact zk_eq | exact zk_ne (by first | assumption | exact zk_eq | exact zk_ne (by first | assumption | exact zk_eq | exact zk_ne (by first | assumption | exact zk_eq | exact zk_ne (by first | assumption | exact zk_eq | exact zk_ne (by first | assumption | exact zk_eq) (by first | decide | omega)) (by first | decide | omega)) (by first | decide | omega)) (by first | decide | omega)) (by first | decide | omega)) (by rfl) ?_
  refine z_iconst C (1) dJx4a65c_add_9ea2d_5 (by decide) ?_
  refine z_iadd C dJx4a65c_add_9ea2d_6 ?_
  refine z_putf C (fs1 := [_, _, _]) zp_Jx4a65c_63 dJx4a65c_add_9ea2d_7 (by first | assumption | exact zk_eq | exact zk_ne (by first | assumption | exact zk_eq | exact zk_ne (by first | assumption | exact zk_eq | exact zk_ne (by first | assumption | exact zk_eq | exact zk_ne (by first | assumption | exact zk_eq | exact zk_ne (by first | assumption | exact zk_eq) (by first | decide | omega)) (by first | decide | omega)) (by first | decide | omega)) (by first | decide | omega)) (by first | decide | omega)) (by first | rfl | exact zb_nar _ | assumption) (by first | rfl | exact zb_fit _ | assumption) (by exact Nat.le_of_ble_eq_true rfl) (by rfl) ?_
  refine z_aload_n C dJx4a65c_add_9ea2d_10 rfl ?_
  refine z_aload_n C dJx4a65c_add_9ea2d_11 rfl ?_
  refine z_aload_n C dJx4a65c_add_9ea2d_12 rfl ?_
  refine z_getf C zf_Jx4a65c_9 dJx4a65c_add_9ea2d_13 (by first | assumption | exact zk_eq | exact zk_ne (by first | assumption | exact zk_eq | exact zk_ne (by first | assumption | exact zk_eq | exact zk_ne (by first | assumption | exact zk_eq | exact zk_ne (by first | assumption | exact zk_eq | exact zk_ne (by first | assumption | exact zk_eq) (by first | decide | omega)) (by first | decide | omega)) (by first | decide | omega)) (by first | decide | omega)) (by first | decide | omega)) (by rfl) ?_
  refine z_aload_n C dJx4a65c_add_9ea2d_16 rfl ?_
  refine z_getf C zf_Jx4a65c_48 dJx4a65c_add_9ea2d_17 (by first | assumption | exact zk_eq | exact zk_ne (by first | assumption | exact zk_eq | exact zk_ne (by first | assumption | exact zk_eq | exact zk_ne (by first | assumption | exact zk_eq | exact zk_ne (by first | assumption | exact zk_eq | exact zk_ne (by first | assumption | exact zk_eq) (by first | decide | omega)) (by first | decide | omega)) (by first | decide | omega)) (by first | decide | omega)) (by first | decide | omega)) (by rfl) ?_
  have hk2 : ∀ y, zWk w y → zWk (va_up w k (some (a, zLo (md + 1) b xs.length))) y := fun y ⟨j, vs, g1, g2⟩ => ⟨j, vs, g1, zk_ne g2 (by omega)⟩
  have h3 : (xs = [] ∧ b = z.2.2.2.1) ∨ ∃ (n : Nat) (f : Nat → Option Nat), va_up w k (some (a, zLo (md + 1) b xs.length)) (k + 1) = some (b, zRo z n f) ∧ xs.length ≤ n ∧ 10 ≤ n ∧ n ≤ 64 ∧ ∀ i : Nat, i < xs.length → f i = xs[i]? := by
    rcases h2 with h2 | ⟨n, f, h2, h3⟩
    · exact Or.inl h2
    · exact Or.inr ⟨n, f, zk_ne h2 (by omega), h3⟩
  refine z_callV C zm_Jx4a65c_add_72be8 zl_Jx4a65c_131 (c_add3 hl (md := md + 1) zk_eq h3 hlen (fun y hy => hk2 y (hel y hy)) (hk2 x hx) hk) dJx4a65c_add_9ea2d_20 (by first | assumption | exact zk_eq | exact zk_ne (by first | assumption | exact zk_eq | exact zk_ne (by first | assumption | exact zk_eq | exact zk_ne (by first | assumption | exact zk_eq | exact zk_ne (by first | assumption | exact zk_eq | exact zk_ne (by first | assumption | exact zk_eq) (by first | decide | omega)) (by first | decide | omega)) (by first | decide | omega)) (by first | decide | omega)) (by first | decide | omega)) (by rfl) (by rfl) (by rfl) (by exact Nat.le_of_ble_eq_true rfl) rfl (by exact ⟨Nat.le_of_ble_eq_true rfl, Nat.le_of_ble_eq_true rfl⟩) (by first | exact ⟨Nat.le_of_ble_eq_true rfl, Nat.le_of_ble_eq_true rfl⟩ | (simp only [zrm]; omega)) (fun _ _ h => z_xno h) (fun r w1 hq => ?_)
  obtain ⟨rfl, g1, g2⟩ := hq
  refine z_iconst C (1) dJx4a65c_add_9ea2d_23 (by decide) ?_
  refine z_zret C hret dJx4a65c_add_9ea2d_24 (by first | rfl | exact zb_nar _ | assumption) (by first | exact Nat.le_of_ble_eq_true rfl | omega) (by first | exact Nat.le_of_ble_eq_true rfl | omega) ?_
  exact ⟨rfl, g1, fun j j1 j2 j3 => (g2 j j1 j2 j3).trans (va_up_ne _ _ j1)⟩
theorem c_addI (hl : l.stackTraces = false) {k a x i : Nat} {xs : List Nat} (h : zLs z w k a xs) (hi : i ≤ xs.length) (hlen : xs.length ≤ 40) (hel : ∀ y ∈ xs, zWk w y) (hx : zWk w x) (hk : k + 1 < 99) : ZM l z mJx4a65c_add_7a177 6 1 64 [.ref a, .int (nI i), .ref x] w (fun r w1 => r = none ∧ zLs z w1 k a (xs.take i ++ x :: xs.drop i) ∧ zFk k w w1) zNo := by
  have hlen2 : (xs.take i ++ x :: xs.drop i).length = xs.length + 1 := by simp; omega
  have key : ∀ (n q : Nat) (md : Int32) (f : Nat → Option Nat) (w1 : zW), w1 k = some (a, zLo md q (xs.length + 1)) → w1 (k + 1) = some (q, zRo z n (va_up (va_cpy f f i (i + 1) (xs.length - i)) i (some x))) → xs.length < n → 10 ≤ n → n ≤ 64 → (∀ i : Nat, i < xs.length → f i = xs[i]?) → zLs z w1 k a (xs.take i ++ x :: xs.drop i) := by
    intro n q md f w1 g1 g2 g3 g4 g5 g6
    refine zLs.mk (by rw [hlen2]; exact g1) g2 (by omega) g4 g5 (fun t ht => ?_)
    rw [hlen2] at ht
    have htk : (xs.take i).length = i := by rw [List.length_take]; omega
    by_cases e : t = i
    · subst e
      rw [va_up_self, List.getElem?_append_right (by omega), htk, Nat.sub_self]
      rfl
    · rw [va_up_ne _ _ e]
      by_cases e2 : t < i
      · rw [pk_cpy_out (Or.inl (by omega)), List.getElem?_append_left (by omega), List.getElem?_take, if_pos e2]
        exact g6 t (by omega)
      · rw [pk_cpy_in (by omega) (by omega), List.getElem?_append_right (by omega), htk, show t - i = (t - (i + 1)) + 1 by omega, List.getElem?_cons_succ, List.getElem?_drop]
        exact g6 _ (by omega)
  obtain ⟨md, b, h1, h2⟩ := h
  refine zbody (M := mJx4a65c_add_7a177) (L0 := [_, _, _, _, _]) hl (by simp [Value.category]) (Nat.le_of_ble_eq_true rfl) (by decide +kernel) rfl ?_
  intro p e s m args below meth c C hX hnm hret
  replace C : zC z p l s m args meth c cJx4a65c_add_7a177 RJx4a65c 5 := C
  replace hret : meth.sig.returnType = none := hret
  refine z_aload_n C dJx4a65c_add_7a177_0 rfl ?_
  refine z_iload_n C dJx4a65c_add_7a177_1 rfl ?_
  refine z_callV C zm_Jx4a65c_rangeCheckForAdd_d00df zl_Jx4a65c_135 (c_rangeCheckForAdd hl h1 hi (by omega)) dJx4a65c_add_7a177_2 (by first | assumption | exact zk_eq | exact zk_ne (by first | assumption | exact zk_eq | exact zk_ne (by first | assumption | exact zk_eq | exact zk_ne (by first | assumption | exact zk_eq | exact zk_ne (by first | assumption | exact zk_eq | exact zk_ne (by first | assumption | exact zk_eq) (by first | decide | omega)) (by first | decide | omega)) (by first | decide | omega)) (by first | decide | omega)) (by first | decide | omega)) (by rfl) (by rfl) (by rfl) (by exact Nat.le_of_ble_eq_true rfl) rfl (by exact ⟨Nat.le_of_ble_eq_true rfl, Nat.le_of_ble_eq_true rfl⟩) (by first | exact ⟨Nat.le_of_ble_eq_true rfl, Nat.le_of_ble_eq_true rfl⟩ | (simp only [zrm]; omega)) (fun _ _ h => z_xno h) (fun r w1 hq => ?_)
  obtain ⟨rfl, rfl⟩ := hq
  refine z_aload_n C dJx4a65c_add_7a177_5 rfl ?_
  refine z_dup C dJx4a65c_add_7a177_6 rfl ?_
  refine z_getf C zf_Jx4a65c_63 dJx4a65c_add_7a177_7 (by first | assumption | exact zk_eq | exact zk_ne (by first | assumption | exact zk_eq | exact zk_ne (by first | assumption | exact zk_eq | exact zk_ne (by first | assumption | exact zk_eq | exact zk_ne (by first | assumption | exact zk_eq | exact zk_ne (by first | assumption | exact zk_eq) (by first | decide | omega)) (by first | decide | omega)) (by first | decide | omega)) (by first | decide | omega)) (by first | decide | omega)) (by rfl) ?_
  refine z_iconst C (1) dJx4a65c_add_7a177_10 (by decide) ?_
  refine z_iadd C dJx4a65c_add_7a177_11 ?_
  refine z_putf C (fs1 := [_, _, _]) zp_Jx4a65c_63 dJx4a65c_add_7a177_12 (by first | assumption | exact zk_eq | exact zk_ne (by first | assumption | exact zk_eq | exact zk_ne (by first | assumption | exact zk_eq | exact zk_ne (by first | assumption | exact zk_eq | exact zk_ne (by first | assumption | exact zk_eq | exact zk_ne (by first | assumption | exact zk_eq) (by first | decide | omega)) (by first | decide | omega)) (by first | decide | omega)) (by first | decide | omega)) (by first | decide | omega)) (by first | rfl | exact zb_nar _ | assumption) (by first | rfl | exact zb_fit _ | assumption) (by exact Nat.le_of_ble_eq_true rfl) (by rfl) ?_
  refine z_aload_n C dJx4a65c_add_7a177_15 rfl ?_
  refine z_getf C zf_Jx4a65c_48 dJx4a65c_add_7a177_16 (by first | assumption | exact zk_eq | exact zk_ne (by first | assumption | exact zk_eq | exact zk_ne (by first | assumption | exact zk_eq | exact zk_ne (by first | assumption | exact zk_eq | exact zk_ne (by first | assumption | exact zk_eq | exact zk_ne (by first | assumption | exact zk_eq) (by first | decide | omega)) (by first | decide | omega)) (by first | decide | omega)) (by first | decide | omega)) (by first | decide | omega)) (by rfl) ?_
  refine z_dup C dJx4a65c_add_7a177_19 rfl ?_
  refine z_istore_n C (L1 := [_, _, _, _, _]) dJx4a65c_add_7a177_20 (Nat.le_of_ble_eq_true rfl) rfl ?_
  refine z_aload_n C dJx4a65c_add_7a177_21 rfl ?_
  refine z_getf C zf_Jx4a65c_9 dJx4a65c_add_7a177_22 (by first | assumption | exact zk_eq | exact zk_ne (by first | assumption | exact zk_eq | exact zk_ne (by first | assumption | exact zk_eq | exact zk_ne (by first | assumption | exact zk_eq | exact zk_ne (by first | assumption | exact zk_eq | exact zk_ne (by first | assumption | exact zk_eq) (by first | decide | omega)) (by first | decide | omega)) (by first | decide | omega)) (by first | decide | omega)) (by first | decide | omega)) (by rfl) ?_
  refine z_dup C dJx4a65c_add_7a177_25 rfl ?_
  refine z_astore C (L1 := [_, _, _, _, _]) dJx4a65c_add_7a177_26 (Nat.le_of_ble_eq_true rfl) rfl ?_
  have tail : ∀ (w : zW) (n q : Nat) (f : Nat → Option Nat) (w0 : zW), w k = some (a, zLo (md + 1) q xs.length) → w (k + 1) = some (q, zRo z n f) → xs.length < n → 10 ≤ n → n ≤ 64 → (∀ i : Nat, i < xs.length → f i = xs[i]?) → (∀ y ∈ xs, zWk w y) → zWk w x → zFk k w1 w →
      ZJ z p l e (zrm 6 1 64) s m args below meth c (vx_MQ below (zQc z (fun r w2 => r = none ∧ zLs z w2 k a (xs.take i ++ x :: xs.drop i) ∧ zFk k w1 w2)) (zXC z zNo) args s 1 64 (zA z)) 1 64 38 [some (.ref a), some (.int (nI i)), some (.ref x), some (.int (nI xs.length)), some (.ref q)] [] w := by
    intro w n q f w0 g1 g2 g3 g4 g5 g6 hel hx g7
    obtain ⟨j, vs, hj, hjv⟩ := hx
    refine z_aload C dJx4a65c_add_7a177_38 rfl ?_
    refine z_iload_n C dJx4a65c_add_7a177_40 rfl ?_
    refine z_aload C dJx4a65c_add_7a177_41 rfl ?_
    refine z_iload_n C dJx4a65c_add_7a177_43 rfl ?_
    refine z_iconst C (1) dJx4a65c_add_7a177_44 (by decide) ?_
    refine z_iadd C dJx4a65c_add_7a177_45 ?_
    rw [nI_1]
    refine z_iload_n C dJx4a65c_add_7a177_46 rfl ?_
    refine z_iload_n C dJx4a65c_add_7a177_47 rfl ?_
    refine z_isub C dJx4a65c_add_7a177_48 ?_
    rw [pk_sub hi]
    refine z_copy C (k0 := k + 1) (k1 := k + 1) (sp := i) (dp := i + 1) (n := xs.length - i) zl_Jx4a65c_112 dJx4a65c_add_7a177_49 (by first | assumption | exact zk_eq | exact zk_ne (by first | assumption | exact zk_eq | exact zk_ne (by first | assumption | exact zk_eq | exact zk_ne (by first | assumption | exact zk_eq | exact zk_ne (by first | assumption | exact zk_eq | exact zk_ne (by first | assumption | exact zk_eq) (by first | decide | omega)) (by first | decide | omega)) (by first | decide | omega)) (by first | decide | omega)) (by first | decide | omega)) (by first | assumption | exact zk_eq | exact zk_ne (by first | assumption | exact zk_eq | exact zk_ne (by first | assumption | exact zk_eq | exact zk_ne (by first | assumption | exact zk_eq | exact zk_ne (by first | assumption | exact zk_eq | exact zk_ne (by first | assumption | exact zk_eq) (by first | decide | omega)) (by first | decide | omega)) (by first | decide | omega)) (by first | decide | omega)) (by first | decide | omega)) rfl rfl rfl (by omega) (by omega) (by omega) (by omega) (fun t ht y hy => ?_) rfl (by exact Nat.le_of_ble_eq_true rfl) (by exact Nat.le_of_ble_eq_true rfl) ?_
    · obtain ⟨j2, vs2, -, hjv2⟩ := hel y (List.mem_of_getElem? ((g6 (i + t) (by omega)).symm.trans hy))
      exact ⟨j2, vs2, hjv2⟩
    refine z_aload C dJx4a65c_add_7a177_52 rfl ?_
    refine z_iload_n C dJx4a65c_add_7a177_54 rfl ?_
    refine z_aload_n C dJx4a65c_add_7a177_55 rfl ?_
    refine z_aast C (j := i) dJx4a65c_add_7a177_56 (by first | assumption | exact zk_eq | exact zk_ne (by first | assumption | exact zk_eq | exact zk_ne (by first | assumption | exact zk_eq | exact zk_ne (by first | assumption | exact zk_eq | exact zk_ne (by first | assumption | exact zk_eq | exact zk_ne (by first | assumption | exact zk_eq) (by first | decide | omega)) (by first | decide | omega)) (by first | decide | omega)) (by first | decide | omega)) (by first | decide | omega)) (by first | assumption | exact zk_eq | exact zk_ne (by first | assumption | exact zk_eq | exact zk_ne (by first | assumption | exact zk_eq | exact zk_ne (by first | assumption | exact zk_eq | exact zk_ne (by first | assumption | exact zk_eq | exact zk_ne (by first | assumption | exact zk_eq) (by first | decide | omega)) (by first | decide | omega)) (by first | decide | omega)) (by first | decide | omega)) (by first | decide | omega)) rfl (show i < n by omega) (by omega) ?_
    refine z_aload_n C dJx4a65c_add_7a177_57 rfl ?_
    refine z_iload_n C dJx4a65c_add_7a177_58 rfl ?_
    refine z_iconst C (1) dJx4a65c_add_7a177_59 (by decide) ?_
    refine z_iadd C dJx4a65c_add_7a177_60 ?_
    rw [nI_1]
    refine z_putf C (fs1 := [_, _, _]) zp_Jx4a65c_48 dJx4a65c_add_7a177_61 (by first | assumption | exact zk_eq | exact zk_ne (by first | assumption | exact zk_eq | exact zk_ne (by first | assumption | exact zk_eq | exact zk_ne (by first | assumption | exact zk_eq | exact zk_ne (by first | assumption | exact zk_eq | exact zk_ne (by first | assumption | exact zk_eq) (by first | decide | omega)) (by first | decide | omega)) (by first | decide | omega)) (by first | decide | omega)) (by first | decide | omega)) (by first | rfl | exact zb_nar _ | assumption) (by first | rfl | exact zb_fit _ | assumption) (by exact Nat.le_of_ble_eq_true rfl) (by rfl) ?_
    refine z_vret C hret dJx4a65c_add_7a177_64 (by first | exact Nat.le_of_ble_eq_true rfl | omega) (by first | exact Nat.le_of_ble_eq_true rfl | omega) ?_
    exact ⟨rfl, key n q _ f _ (by first | assumption | exact zk_eq | exact zk_ne (by first | assumption | exact zk_eq | exact zk_ne (by first | assumption | exact zk_eq | exact zk_ne (by first | assumption | exact zk_eq | exact zk_ne (by first | assumption | exact zk_eq | exact zk_ne (by first | assumption | exact zk_eq) (by first | decide | omega)) (by first | decide | omega)) (by first | decide | omega)) (by first | decide | omega)) (by first | decide | omega)) (by first | assumption | exact zk_eq | exact zk_ne (by first | assumption | exact zk_eq | exact zk_ne (by first | assumption | exact zk_eq | exact zk_ne (by first | assumption | exact zk_eq | exact zk_ne (by first | assumption | exact zk_eq | exact zk_ne (by first | assumption | exact zk_eq) (by first | decide | omega)) (by first | decide | omega)) (by first | decide | omega)) (by first | decide | omega)) (by first | decide | omega)) g3 g4 g5 g6, fun j j1 j2 j3 => by (repeat (refine (va_up_ne _ _ (by first | assumption | omega)).trans ?_)); exact g7 j j1 j2 j3⟩
  have hk2 : ∀ y, zWk w1 y → zWk (va_up w1 k (some (a, zLo (md + 1) b xs.length))) y := fun y ⟨j, vs, g1, g2⟩ => ⟨j, vs, g1, zk_ne g2 (by omega)⟩
  rcases h2 with ⟨rfl, rfl⟩ | ⟨n, f, h2, h3, h4, h5, h6⟩
  · refine z_alen0 C dJx4a65c_add_7a177_28 ?_
    refine z_icmp_ne C 38 dJx4a65c_add_7a177_29 (by decide) (fun q1 => ?_) (fun q1 => ?_)
    · exact absurd rfl q1
    refine z_aload_n C dJx4a65c_add_7a177_32 rfl ?_
    refine z_callV C zm_Jx4a65c_grow_d5877 zl_Jx4a65c_129 (c_grow (f := fun _ => none) hl ⟨zk_eq, Or.inl ⟨rfl, rfl⟩⟩ hk) dJx4a65c_add_7a177_33 (by first | assumption | exact zk_eq | exact zk_ne (by first | assumption | exact zk_eq | exact zk_ne (by first | assumption | exact zk_eq | exact zk_ne (by first | assumption | exact zk_eq | exact zk_ne (by first | assumption | exact zk_eq | exact zk_ne (by first | assumption | exact zk_eq) (by first | decide | omega)) (by first | decide | omega)) (by first | decide | omega)) (by first | decide | omega)) (by first | decide | omega)) (by rfl) (by rfl) (by rfl) (by exact Nat.le_of_ble_eq_true rfl) rfl (by exact ⟨Nat.le_of_ble_eq_true rfl, Nat.le_of_ble_eq_true rfl⟩) (by first | exact ⟨Nat.le_of_ble_eq_true rfl, Nat.le_of_ble_eq_true rfl⟩ | (simp only [zrm]; omega)) (fun _ _ h => z_xno h) (fun r w1 hq => ?_)
    obtain ⟨q, n, g, rfl, g1, g2, g3, g4, g5, g6, g7⟩ := hq
    refine z_astore C (L1 := [_, _, _, _, _]) dJx4a65c_add_7a177_36 (Nat.le_of_ble_eq_true rfl) rfl ?_
    exact tail _ n q g w1 g1 g2 g3 g4 g5 (fun i hi => absurd hi (Nat.not_lt_zero _)) (fun y hy => absurd hy List.not_mem_nil) ((hk2 x hx).fk g7 hk) (fun j j1 j2 j3 => (g7 j j1 j2 j3).trans (va_up_ne _ _ j1))
  · refine z_alen C dJx4a65c_add_7a177_28 (by first | assumption | exact zk_eq | exact zk_ne (by first | assumption | exact zk_eq | exact zk_ne (by first | assumption | exact zk_eq | exact zk_ne (by first | assumption | exact zk_eq | exact zk_ne (by first | assumption | exact zk_eq | exact zk_ne (by first | assumption | exact zk_eq) (by first | decide | omega)) (by first | decide | omega)) (by first | decide | omega)) (by first | decide | omega)) (by first | decide | omega)) (by decide) ?_
    refine z_icmp_ne C 38 dJx4a65c_add_7a177_29 (by decide) (fun q1 => ?_) (fun q1 => ?_)
    · have hlt : xs.length < n := by
        rcases Nat.lt_or_ge xs.length n with q | q
        · exact q
        · exact absurd (congrArg nI (show xs.length = n by omega)) q1
      refine z_widen (c2 := 1) (s2 := 64) (by omega) (by omega) ?_
      exact tail _ n b f w1 zk_eq (zk_ne h2 (by omega)) hlt h4 h5 h6 (fun y hy => hk2 y (hel y hy)) (hk2 x hx) (fun j j1 j2 j3 => va_up_ne _ _ j1)
    · have hn : xs.length = n := (nI_eq (by omega) (by omega)).mp q1
      subst hn
      refine z_aload_n C dJx4a65c_add_7a177_32 rfl ?_
      refine z_callV C zm_Jx4a65c_grow_d5877 zl_Jx4a65c_129 (c_grow (f := f) hl ⟨zk_eq, Or.inr ⟨zk_ne h2 (by omega), h4, hlen, zLs.elem (k := k) (a := a) (n := 0) h6 (fun y hy => hk2 y (hel y hy))⟩⟩ hk) dJx4a65c_add_7a177_33 (by first | assumption | exact zk_eq | exact zk_ne (by first | assumption | exact zk_eq | exact zk_ne (by first | assumption | exact zk_eq | exact zk_ne (by first | assumption | exact zk_eq | exact zk_ne (by first | assumption | exact zk_eq | exact zk_ne (by first | assumption | exact zk_eq) (by first | decide | omega)) (by first | decide | omega)) (by first | decide | omega)) (by first | decide | omega)) (by first | decide | omega)) (by rfl) (by rfl) (by rfl) (by exact Nat.le_of_ble_eq_true rfl) rfl (by exact ⟨Nat.le_of_ble_eq_true rfl, Nat.le_of_ble_eq_true rfl⟩) (by first | exact ⟨Nat.le_of_ble_eq_true rfl, Nat.le_of_ble_eq_true rfl⟩ | (simp only [zrm]; omega)) (fun _ _ h => z_xno h) (fun r w1 hq => ?_)
      obtain ⟨q, n, g, rfl, g1, g2, g3, g4, g5, g6, g7⟩ := hq
      refine z_astore C (L1 := [_, _, _, _, _]) dJx4a65c_add_7a177_36 (Nat.le_of_ble_eq_true rfl) rfl ?_
      exact tail _ n q g w1 g1 g2 g3 g4 g5 (fun i hi => (g6 i hi).trans (h6 i hi)) (fun y hy => (hk2 y (hel y hy)).fk g7 hk) ((hk2 x hx).fk g7 hk) (fun j j1 j2 j3 => (g7 j j1 j2 j3).trans (va_up_ne _ _ j1))
theorem c_fastRemove (hl : l.stackTraces = false) {k a b n i : Nat} {md : Int32} {xs : List Nat} {f : Nat → Option Nat} (h1 : w k = some (a, zLo md b xs.length)) (h2 : w (k + 1) = some (b, zRo z n f)) (h3 : xs.length ≤ n) (h4 : 10 ≤ n) (h5 : n ≤ 64) (h6 : ∀ i : Nat, i < xs.length → f i = xs[i]?) (hi : i < xs.length) (hel : ∀ y ∈ xs, zWk w y) (hk : k + 1 < 99) : ZM l z mJx4a65c_fastRemove_b59b0 2 0 0 [.ref a, .ref b, .int (nI i)] w (fun r w1 => r = none ∧ zLs z w1 k a (xs.eraseIdx i) ∧ zFk k w w1) zNo := by
  have hlen2 : (xs.eraseIdx i).length = xs.length - 1 := List.length_eraseIdx_of_lt hi
  have key : ∀ (w1 : zW) (g : Nat → Option Nat), w1 k = some (a, zLo (md + 1) b (xs.length - 1)) → w1 (k + 1) = some (b, zRo z n (va_up g (xs.length - 1) none)) → (∀ t : Nat, t < i → g t = f t) → (∀ t : Nat, i ≤ t → t < xs.length - 1 → g t = f (t + 1)) → zLs z w1 k a (xs.eraseIdx i) := by
    intro w1 g g1 g2 g3 g4
    refine zLs.mk (by rw [hlen2]; exact g1) g2 (by omega) h4 h5 (fun t ht => ?_)
    rw [hlen2] at ht
    rw [va_up_ne _ _ (by omega)]
    by_cases e : t < i
    · rw [g3 t e, List.getElem?_eraseIdx_of_lt e]
      exact h6 t (by omega)
    · rw [g4 t (by omega) ht, List.getElem?_eraseIdx_of_ge (by omega)]
      exact h6 _ (by omega)
  refine zbody (M := mJx4a65c_fastRemove_b59b0) (L0 := [_, _, _, _]) hl (by simp [Value.category]) (Nat.le_of_ble_eq_true rfl) (by decide +kernel) rfl ?_
  intro p e s m args below meth c C hX hnm hret
  replace C : zC z p l s m args meth c cJx4a65c_fastRemove_b59b0 RJx4a65c 4 := C
  replace hret : meth.sig.returnType = none := hret
  refine z_aload_n C dJx4a65c_fastRemove_b59b0_0 rfl ?_
  refine z_dup C dJx4a65c_fastRemove_b59b0_1 rfl ?_
  refine z_getf C zf_Jx4a65c_63 dJx4a65c_fastRemove_b59b0_2 (by first | assumption | exact zk_eq | exact zk_ne (by first | assumption | exact zk_eq | exact zk_ne (by first | assumption | exact zk_eq | exact zk_ne (by first | assumption | exact zk_eq | exact zk_ne (by first | assumption | exact zk_eq | exact zk_ne (by first | assumption | exact zk_eq) (by first | decide | omega)) (by first | decide | omega)) (by first | decide | omega)) (by first | decide | omega)) (by first | decide | omega)) (by rfl) ?_
  refine z_iconst C (1) dJx4a65c_fastRemove_b59b0_5 (by decide) ?_
  refine z_iadd C dJx4a65c_fastRemove_b59b0_6 ?_
  refine z_putf C (fs1 := [_, _, _]) zp_Jx4a65c_63 dJx4a65c_fastRemove_b59b0_7 (by first | assumption | exact zk_eq | exact zk_ne (by first | assumption | exact zk_eq | exact zk_ne (by first | assumption | exact zk_eq | exact zk_ne (by first | assumption | exact zk_eq | exact zk_ne (by first | assumption | exact zk_eq | exact zk_ne (by first | assumption | exact zk_eq) (by first | decide | omega)) (by first | decide | omega)) (by first | decide | omega)) (by first | decide | omega)) (by first | decide | omega)) (by first | rfl | exact zb_nar _ | assumption) (by first | rfl | exact zb_fit _ | assumption) (by exact Nat.le_of_ble_eq_true rfl) (by rfl) ?_
  refine z_aload_n C dJx4a65c_fastRemove_b59b0_10 rfl ?_
  refine z_getf C zf_Jx4a65c_48 dJx4a65c_fastRemove_b59b0_11 (by first | assumption | exact zk_eq | exact zk_ne (by first | assumption | exact zk_eq | exact zk_ne (by first | assumption | exact zk_eq | exact zk_ne (by first | assumption | exact zk_eq | exact zk_ne (by first | assumption | exact zk_eq | exact zk_ne (by first | assumption | exact zk_eq) (by first | decide | omega)) (by first | decide | omega)) (by first | decide | omega)) (by first | decide | omega)) (by first | decide | omega)) (by rfl) ?_
  refine z_iconst C (1) dJx4a65c_fastRemove_b59b0_14 (by decide) ?_
  refine z_isub C dJx4a65c_fastRemove_b59b0_15 ?_
  rw [show nI xs.length - 1 = nI (xs.length - 1) from pk_sub (b := 1) (by omega)]
  refine z_dup C dJx4a65c_fastRemove_b59b0_16 rfl ?_
  refine z_istore_n C (L1 := [_, _, _, _]) dJx4a65c_fastRemove_b59b0_17 (Nat.le_of_ble_eq_true rfl) rfl ?_
  refine z_iload_n C dJx4a65c_fastRemove_b59b0_18 rfl ?_
  refine z_icmp_le C 34 dJx4a65c_fastRemove_b59b0_19 (by decide) (fun q1 => ?_) (fun q1 => ?_)
  · have he : xs.length - 1 ≤ i := (nI_leI (by omega) (by omega)).mp q1
    refine z_aload_n C dJx4a65c_fastRemove_b59b0_34 rfl ?_
    refine z_aload_n C dJx4a65c_fastRemove_b59b0_35 rfl ?_
    refine z_iload_n C dJx4a65c_fastRemove_b59b0_36 rfl ?_
    refine z_dup_x1 C dJx4a65c_fastRemove_b59b0_37 rfl rfl ?_
    refine z_putf C (fs1 := [_, _, _]) zp_Jx4a65c_48 dJx4a65c_fastRemove_b59b0_38 (by first | assumption | exact zk_eq | exact zk_ne (by first | assumption | exact zk_eq | exact zk_ne (by first | assumption | exact zk_eq | exact zk_ne (by first | assumption | exact zk_eq | exact zk_ne (by first | assumption | exact zk_eq | exact zk_ne (by first | assumption | exact zk_eq) (by first | decide | omega)) (by first | decide | omega)) (by first | decide | omega)) (by first | decide | omega)) (by first | decide | omega)) (by first | rfl | exact zb_nar _ | assumption) (by first | rfl | exact zb_fit _ | assumption) (by exact Nat.le_of_ble_eq_true rfl) (by rfl) ?_
    refine z_null C dJx4a65c_fastRemove_b59b0_41 ?_
    refine z_aastN C (j := xs.length - 1) dJx4a65c_fastRemove_b59b0_42 (by first | assumption | exact zk_eq | exact zk_ne (by first | assumption | exact zk_eq | exact zk_ne (by first | assumption | exact zk_eq | exact zk_ne (by first | assumption | exact zk_eq | exact zk_ne (by first | assumption | exact zk_eq | exact zk_ne (by first | assumption | exact zk_eq) (by first | decide | omega)) (by first | decide | omega)) (by first | decide | omega)) (by first | decide | omega)) (by first | decide | omega)) rfl (show _ < n by omega) (by omega) ?_
    refine z_vret C hret dJx4a65c_fastRemove_b59b0_43 (by first | exact Nat.le_of_ble_eq_true rfl | omega) (by first | exact Nat.le_of_ble_eq_true rfl | omega) ?_
    exact ⟨rfl, key _ f (by first | assumption | exact zk_eq | exact zk_ne (by first | assumption | exact zk_eq | exact zk_ne (by first | assumption | exact zk_eq | exact zk_ne (by first | assumption | exact zk_eq | exact zk_ne (by first | assumption | exact zk_eq | exact zk_ne (by first | assumption | exact zk_eq) (by first | decide | omega)) (by first | decide | omega)) (by first | decide | omega)) (by first | decide | omega)) (by first | decide | omega)) (by first | assumption | exact zk_eq | exact zk_ne (by first | assumption | exact zk_eq | exact zk_ne (by first | assumption | exact zk_eq | exact zk_ne (by first | assumption | exact zk_eq | exact zk_ne (by first | assumption | exact zk_eq | exact zk_ne (by first | assumption | exact zk_eq) (by first | decide | omega)) (by first | decide | omega)) (by first | decide | omega)) (by first | decide | omega)) (by first | decide | omega)) (fun _ _ => rfl) (fun t t1 t2 => absurd t2 (by omega)), fun j j1 j2 j3 => by (repeat (refine (va_up_ne _ _ (by first | assumption | omega)).trans ?_)); rfl⟩
  · have he : i < xs.length - 1 := by
      rcases Nat.lt_or_ge i (xs.length - 1) with q | q
      · exact q
      · exact absurd ((nI_leI (by omega) (by omega)).mpr q) q1
    refine z_aload_n C dJx4a65c_fastRemove_b59b0_22 rfl ?_
    refine z_iload_n C dJx4a65c_fastRemove_b59b0_23 rfl ?_
    refine z_iconst C (1) dJx4a65c_fastRemove_b59b0_24 (by decide) ?_
    refine z_iadd C dJx4a65c_fastRemove_b59b0_25 ?_
    rw [show nI i + 1 = nI (i + 1) from nI_1 i]
    refine z_aload_n C dJx4a65c_fastRemove_b59b0_26 rfl ?_
    refine z_iload_n C dJx4a65c_fastRemove_b59b0_27 rfl ?_
    refine z_iload_n C dJx4a65c_fastRemove_b59b0_28 rfl ?_
    refine z_iload_n C dJx4a65c_fastRemove_b59b0_29 rfl ?_
    refine z_isub C dJx4a65c_fastRemove_b59b0_30 ?_
    rw [pk_sub (Nat.le_of_lt he)]
    refine z_copy C (k0 := k + 1) (k1 := k + 1) (sp := i + 1) (dp := i) (n := xs.length - 1 - i) zl_Jx4a65c_112 dJx4a65c_fastRemove_b59b0_31 (by first | assumption | exact zk_eq | exact zk_ne (by first | assumption | exact zk_eq | exact zk_ne (by first | assumption | exact zk_eq | exact zk_ne (by first | assumption | exact zk_eq | exact zk_ne (by first | assumption | exact zk_eq | exact zk_ne (by first | assumption | exact zk_eq) (by first | decide | omega)) (by first | decide | omega)) (by first | decide | omega)) (by first | decide | omega)) (by first | decide | omega)) (by first | assumption | exact zk_eq | exact zk_ne (by first | assumption | exact zk_eq | exact zk_ne (by first | assumption | exact zk_eq | exact zk_ne (by first | assumption | exact zk_eq | exact zk_ne (by first | assumption | exact zk_eq | exact zk_ne (by first | assumption | exact zk_eq) (by first | decide | omega)) (by first | decide | omega)) (by first | decide | omega)) (by first | decide | omega)) (by first | decide | omega)) rfl rfl rfl (by omega) (by omega) (by omega) (by omega) (fun t ht y hy => ?_) rfl (by exact Nat.le_of_ble_eq_true rfl) (by exact Nat.le_of_ble_eq_true rfl) ?_
    · obtain ⟨j2, vs2, j3, hjv2⟩ := hel y (List.mem_of_getElem? ((h6 (i + 1 + t) (by omega)).symm.trans hy))
      exact ⟨j2, vs2, (by first | assumption | exact zk_eq | exact zk_ne (by first | assumption | exact zk_eq | exact zk_ne (by first | assumption | exact zk_eq | exact zk_ne (by first | assumption | exact zk_eq | exact zk_ne (by first | assumption | exact zk_eq | exact zk_ne (by first | assumption | exact zk_eq) (by first | decide | omega)) (by first | decide | omega)) (by first | decide | omega)) (by first | decide | omega)) (by first | decide | omega))⟩
    refine z_aload_n C dJx4a65c_fastRemove_b59b0_34 rfl ?_
    refine z_aload_n C dJx4a65c_fastRemove_b59b0_35 rfl ?_
    refine z_iload_n C dJx4a65c_fastRemove_b59b0_36 rfl ?_
    refine z_dup_x1 C dJx4a65c_fastRemove_b59b0_37 rfl rfl ?_
    refine z_putf C (fs1 := [_, _, _]) zp_Jx4a65c_48 dJx4a65c_fastRemove_b59b0_38 (by first | assumption | exact zk_eq | exact zk_ne (by first | assumption | exact zk_eq | exact zk_ne (by first | assumption | exact zk_eq | exact zk_ne (by first | assumption | exact zk_eq | exact zk_ne (by first | assumption | exact zk_eq | exact zk_ne (by first | assumption | exact zk_eq) (by first | decide | omega)) (by first | decide | omega)) (by first | decide | omega)) (by first | decide | omega)) (by first | decide | omega)) (by first | rfl | exact zb_nar _ | assumption) (by first | rfl | exact zb_fit _ | assumption) (by exact Nat.le_of_ble_eq_true rfl) (by rfl) ?_
    refine z_null C dJx4a65c_fastRemove_b59b0_41 ?_
    refine z_aastN C (j := xs.length - 1) dJx4a65c_fastRemove_b59b0_42 (by first | assumption | exact zk_eq | exact zk_ne (by first | assumption | exact zk_eq | exact zk_ne (by first | assumption | exact zk_eq | exact zk_ne (by first | assumption | exact zk_eq | exact zk_ne (by first | assumption | exact zk_eq | exact zk_ne (by first | assumption | exact zk_eq) (by first | decide | omega)) (by first | decide | omega)) (by first | decide | omega)) (by first | decide | omega)) (by first | decide | omega)) rfl (show _ < n by omega) (by omega) ?_
    refine z_vret C hret dJx4a65c_fastRemove_b59b0_43 (by first | exact Nat.le_of_ble_eq_true rfl | omega) (by first | exact Nat.le_of_ble_eq_true rfl | omega) ?_
    refine ⟨rfl, key _ _ (by first | assumption | exact zk_eq | exact zk_ne (by first | assumption | exact zk_eq | exact zk_ne (by first | assumption | exact zk_eq | exact zk_ne (by first | assumption | exact zk_eq | exact zk_ne (by first | assumption | exact zk_eq | exact zk_ne (by first | assumption | exact zk_eq) (by first | decide | omega)) (by first | decide | omega)) (by first | decide | omega)) (by first | decide | omega)) (by first | decide | omega)) (by first | assumption | exact zk_eq | exact zk_ne (by first | assumption | exact zk_eq | exact zk_ne (by first | assumption | exact zk_eq | exact zk_ne (by first | assumption | exact zk_eq | exact zk_ne (by first | assumption | exact zk_eq | exact zk_ne (by first | assumption | exact zk_eq) (by first | decide | omega)) (by first | decide | omega)) (by first | decide | omega)) (by first | decide | omega)) (by first | decide | omega)) (fun t t1 => pk_cpy_out (Or.inl t1)) (fun t t1 t2 => ?_), fun j j1 j2 j3 => by (repeat (refine (va_up_ne _ _ (by first | assumption | omega)).trans ?_)); rfl⟩
    rw [pk_cpy_in t1 (by omega)]
    congr 1
    omega
theorem c_remove (hl : l.stackTraces = false) {k a i : Nat} {xs : List Nat} (h : zLs z w k a xs) (hi : i < xs.length) (hel : ∀ y ∈ xs, zWk w y) (hk : k + 1 < 99) : ZM l z mJx4a65c_remove_915e3 3 0 0 [.ref a, .int (nI i)] w (fun r w1 => r = some (.ref xs[i]) ∧ zLs z w1 k a (xs.eraseIdx i) ∧ zFk k w w1) zNo := by
  obtain ⟨md, b, h1, ⟨rfl, -⟩ | ⟨n, f, h2, h3, h4, h5, h6⟩⟩ := h
  · exact absurd hi (Nat.not_lt_zero _)
  refine zbody (M := mJx4a65c_remove_915e3) (L0 := [_, _, _, _]) hl (by simp [Value.category]) (Nat.le_of_ble_eq_true rfl) (by decide +kernel) rfl ?_
  intro p e s m args below meth c C hX hnm hret
  replace C : zC z p l s m args meth c cJx4a65c_remove_915e3 RJx4a65c 4 := C
  replace hret : meth.sig.returnType = (some (.object "java/lang/Object")) := hret
  refine z_iload_n C dJx4a65c_remove_915e3_0 rfl ?_
  refine z_aload_n C dJx4a65c_remove_915e3_1 rfl ?_
  refine z_getf C zf_Jx4a65c_48 dJx4a65c_remove_915e3_2 (by first | assumption | exact zk_eq | exact zk_ne (by first | assumption | exact zk_eq | exact zk_ne (by first | assumption | exact zk_eq | exact zk_ne (by first | assumption | exact zk_eq | exact zk_ne (by first | assumption | exact zk_eq | exact zk_ne (by first | assumption | exact zk_eq) (by first | decide | omega)) (by first | decide | omega)) (by first | decide | omega)) (by first | decide | omega)) (by first | decide | omega)) (by rfl) ?_
  refine z_callS C zm_J15_checkIndex_7cf53 zl_Jx4a65c_118 (c_checkIndex hl hi (by omega)) dJx4a65c_remove_915e3_5 (by rfl) (by rfl) (by exact Nat.le_of_ble_eq_true rfl) rfl (by exact ⟨Nat.le_of_ble_eq_true rfl, Nat.le_of_ble_eq_true rfl⟩) (by first | exact ⟨Nat.le_of_ble_eq_true rfl, Nat.le_of_ble_eq_true rfl⟩ | (simp only [zrm]; omega)) (fun _ _ h => z_xno h) (fun r w1 hq => ?_)
  obtain ⟨rfl, rfl⟩ := hq
  refine z_pop C dJx4a65c_remove_915e3_8 rfl ?_
  refine z_aload_n C dJx4a65c_remove_915e3_9 rfl ?_
  refine z_getf C zf_Jx4a65c_9 dJx4a65c_remove_915e3_10 (by first | assumption | exact zk_eq | exact zk_ne (by first | assumption | exact zk_eq | exact zk_ne (by first | assumption | exact zk_eq | exact zk_ne (by first | assumption | exact zk_eq | exact zk_ne (by first | assumption | exact zk_eq | exact zk_ne (by first | assumption | exact zk_eq) (by first | decide | omega)) (by first | decide | omega)) (by first | decide | omega)) (by first | decide | omega)) (by first | decide | omega)) (by rfl) ?_
  refine z_astore_n C (L1 := [_, _, _, _]) dJx4a65c_remove_915e3_13 (Nat.le_of_ble_eq_true rfl) rfl ?_
  refine z_aload_n C dJx4a65c_remove_915e3_14 rfl ?_
  refine z_iload_n C dJx4a65c_remove_915e3_15 rfl ?_
  refine z_aald C (j := i) dJx4a65c_remove_915e3_16 (by first | assumption | exact zk_eq | exact zk_ne (by first | assumption | exact zk_eq | exact zk_ne (by first | assumption | exact zk_eq | exact zk_ne (by first | assumption | exact zk_eq | exact zk_ne (by first | assumption | exact zk_eq | exact zk_ne (by first | assumption | exact zk_eq) (by first | decide | omega)) (by first | decide | omega)) (by first | decide | omega)) (by first | decide | omega)) (by first | decide | omega)) rfl (show i < n by omega) (by omega) ?_
  rw [h6 i hi, List.getElem?_eq_getElem hi]
  refine z_astore_n C (L1 := [_, _, _, _]) dJx4a65c_remove_915e3_17 (Nat.le_of_ble_eq_true rfl) rfl ?_
  refine z_aload_n C dJx4a65c_remove_915e3_18 rfl ?_
  refine z_aload_n C dJx4a65c_remove_915e3_19 rfl ?_
  refine z_iload_n C dJx4a65c_remove_915e3_20 rfl ?_
  refine z_callV C zm_Jx4a65c_fastRemove_b59b0 zl_Jx4a65c_144 (c_fastRemove hl h1 h2 h3 h4 h5 h6 hi hel hk) dJx4a65c_remove_915e3_21 (by first | assumption | exact zk_eq | exact zk_ne (by first | assumption | exact zk_eq | exact zk_ne (by first | assumption | exact zk_eq | exact zk_ne (by first | assumption | exact zk_eq | exact zk_ne (by first | assumption | exact zk_eq | exact zk_ne (by first | assumption | exact zk_eq) (by first | decide | omega)) (by first | decide | omega)) (by first | decide | omega)) (by first | decide | omega)) (by first | decide | omega)) (by rfl) (by rfl) (by rfl) (by exact Nat.le_of_ble_eq_true rfl) rfl (by exact ⟨Nat.le_of_ble_eq_true rfl, Nat.le_of_ble_eq_true rfl⟩) (by first | exact ⟨Nat.le_of_ble_eq_true rfl, Nat.le_of_ble_eq_true rfl⟩ | (simp only [zrm]; omega)) (fun _ _ h => z_xno h) (fun r w1 hq => ?_)
  obtain ⟨rfl, g1, g2⟩ := hq
  refine z_aload_n C dJx4a65c_remove_915e3_24 rfl ?_
  refine z_aret C hret (Or.inl ⟨_, rfl⟩) (by first | exact Or.inr ⟨_, rfl⟩ | exact va_rf_or _ | exact Or.inl rfl) dJx4a65c_remove_915e3_25 (by first | exact Nat.le_of_ble_eq_true rfl | omega) (by first | exact Nat.le_of_ble_eq_true rfl | omega) ?_
  exact ⟨rfl, g1, g2⟩
theorem c_ACinit (hl : l.stackTraces = false) {a : Nat} : ZM l z mJxa1e45_init_da8c8 1 0 0 [.ref a] w (fun r w1 => r = none ∧ w1 = w) zNo := by
  refine zbody (M := mJxa1e45_init_da8c8) (L0 := [_]) hl (by simp [Value.category]) (Nat.le_of_ble_eq_true rfl) (by decide +kernel) rfl ?_
  intro p e s m args below meth c C hX hnm hret
  replace C : zC z p l s m args meth c cJxa1e45_init_da8c8 RJxa1e45 1 := C
  replace hret : meth.sig.returnType = none := hret
  refine z_aload_n C dJxa1e45_init_da8c8_0 rfl ?_
  refine z_obj C zl_Jxa1e45_1 zoi zoc dJxa1e45_init_da8c8_1 rfl (by exact Nat.le_of_ble_eq_true rfl) (by exact Nat.le_of_ble_eq_true rfl) ?_
  refine z_vret C hret dJxa1e45_init_da8c8_4 (by first | exact Nat.le_of_ble_eq_true rfl | omega) (by first | exact Nat.le_of_ble_eq_true rfl | omega) ?_
  exact ⟨rfl, rfl⟩
theorem c_ABinit (hl : l.stackTraces = false) {k a : Nat} {v1 v2 v3 : Value} (h : w k = some (a, .inr (0, [v1, v2, v3]))) : ZM l z mJxc12de_init_da8c8 2 0 0 [.ref a] w (fun r w1 => r = none ∧ w1 = va_up w k (some (a, .inr (0, [.int 0, v2, v3])))) zNo := by
  refine zbody (M := mJxc12de_init_da8c8) (L0 := [_]) hl (by simp [Value.category]) (Nat.le_of_ble_eq_true rfl) (by decide +kernel) rfl ?_
  intro p e s m args below meth c C hX hnm hret
  replace C : zC z p l s m args meth c cJxc12de_init_da8c8 RJxc12de 1 := C
  replace hret : meth.sig.returnType = none := hret
  refine z_aload_n C dJxc12de_init_da8c8_0 rfl ?_
  refine z_callI C zm_Jxa1e45_init_da8c8 zl_Jxc12de_1 (c_ACinit hl) dJxc12de_init_da8c8_1 (by rfl) (by rfl) (by exact Nat.le_of_ble_eq_true rfl) rfl (by exact ⟨Nat.le_of_ble_eq_true rfl, Nat.le_of_ble_eq_true rfl⟩) (by first | exact ⟨Nat.le_of_ble_eq_true rfl, Nat.le_of_ble_eq_true rfl⟩ | (simp only [zrm]; omega)) (fun _ _ h => z_xno h) (fun r w1 hq => ?_)
  obtain ⟨rfl, rfl⟩ := hq
  refine z_aload_n C dJxc12de_init_da8c8_4 rfl ?_
  refine z_iconst C (0) dJxc12de_init_da8c8_5 (by decide) ?_
  refine z_putf C (fs1 := [_, _, _]) zp_Jxc12de_7 dJxc12de_init_da8c8_6 (by first | assumption | exact zk_eq | exact zk_ne (by first | assumption | exact zk_eq | exact zk_ne (by first | assumption | exact zk_eq | exact zk_ne (by first | assumption | exact zk_eq | exact zk_ne (by first | assumption | exact zk_eq | exact zk_ne (by first | assumption | exact zk_eq) (by first | decide | omega)) (by first | decide | omega)) (by first | decide | omega)) (by first | decide | omega)) (by first | decide | omega)) (by first | rfl | exact zb_nar _ | assumption) (by first | rfl | exact zb_fit _ | assumption) (by exact Nat.le_of_ble_eq_true rfl) (by rfl) ?_
  refine z_vret C hret dJxc12de_init_da8c8_9 (by first | exact Nat.le_of_ble_eq_true rfl | omega) (by first | exact Nat.le_of_ble_eq_true rfl | omega) ?_
  exact ⟨rfl, rfl⟩
theorem c_ALinit (hl : l.stackTraces = false) {k a : Nat} {v1 v2 : Value} (h : w k = some (a, .inr (0, [v1, v2, .int 0]))) : ZM l z mJx4a65c_init_da8c8 3 0 0 [.ref a] w (fun r w1 => r = none ∧ zLs z w1 k a [] ∧ ∀ j : Nat, j ≠ k → w1 j = w j) zNo := by
  refine zbody (M := mJx4a65c_init_da8c8) (L0 := [_]) hl (by simp [Value.category]) (Nat.le_of_ble_eq_true rfl) (by decide +kernel) rfl ?_
  intro p e s m args below meth c C hX hnm hret
  replace C : zC z p l s m args meth c cJx4a65c_init_da8c8 RJx4a65c 1 := C
  replace hret : meth.sig.returnType = none := hret
  refine z_aload_n C dJx4a65c_init_da8c8_0 rfl ?_
  refine z_callI C zm_Jxc12de_init_da8c8 zl_Jx4a65c_1 (c_ABinit hl h) dJx4a65c_init_da8c8_1 (by rfl) (by rfl) (by exact Nat.le_of_ble_eq_true rfl) rfl (by exact ⟨Nat.le_of_ble_eq_true rfl, Nat.le_of_ble_eq_true rfl⟩) (by first | exact ⟨Nat.le_of_ble_eq_true rfl, Nat.le_of_ble_eq_true rfl⟩ | (simp only [zrm]; omega)) (fun _ _ h => z_xno h) (fun r w1 hq => ?_)
  obtain ⟨rfl, rfl⟩ := hq
  refine z_aload_n C dJx4a65c_init_da8c8_4 rfl ?_
  refine z_gets C zw_Jx4a65c_39 dJx4a65c_init_da8c8_5 ?_
  refine z_putf C (fs1 := [_, _, _]) zp_Jx4a65c_9 dJx4a65c_init_da8c8_8 (by first | assumption | exact zk_eq | exact zk_ne (by first | assumption | exact zk_eq | exact zk_ne (by first | assumption | exact zk_eq | exact zk_ne (by first | assumption | exact zk_eq | exact zk_ne (by first | assumption | exact zk_eq | exact zk_ne (by first | assumption | exact zk_eq) (by first | decide | omega)) (by first | decide | omega)) (by first | decide | omega)) (by first | decide | omega)) (by first | decide | omega)) (by first | rfl | exact zb_nar _ | assumption) (by first | rfl | exact zb_fit _ | assumption) (by exact Nat.le_of_ble_eq_true rfl) (by rfl) ?_
  refine z_vret C hret dJx4a65c_init_da8c8_11 (by first | exact Nat.le_of_ble_eq_true rfl | omega) (by first | exact Nat.le_of_ble_eq_true rfl | omega) ?_
  exact ⟨rfl, ⟨0, _, (by first | assumption | exact zk_eq | exact zk_ne (by first | assumption | exact zk_eq | exact zk_ne (by first | assumption | exact zk_eq | exact zk_ne (by first | assumption | exact zk_eq | exact zk_ne (by first | assumption | exact zk_eq | exact zk_ne (by first | assumption | exact zk_eq) (by first | decide | omega)) (by first | decide | omega)) (by first | decide | omega)) (by first | decide | omega)) (by first | decide | omega)), Or.inl ⟨rfl, rfl⟩⟩, fun j j1 => by (repeat (refine (va_up_ne _ _ (by first | assumption | omega)).trans ?_)); rfl⟩
end ZAL
