/-! HiringHall: endShift, endPeriod, replace, fillable, equalise, dispatch -/
theorem pab_lt {m7 : Nat} {ts ts2 : List Nat} (hp : ts2.Perm ts) (h : ∀ k ∈ ts, k < m7) : ∀ k ∈ ts2, k < m7 := fun k hk => h k (hp.mem_iff.mp hk)
section ZH10
variable {l : Launch} {z : zT} {w : zW} {a0 nn : Nat} {S : zHS}
theorem o_endPeriod (hl : l.stackTraces = false) (h : HH z a0 nn w S) : ZO l z mX2_endPeriod a0 nn nn [] w S (hEndPeriod S) := by
  have hHH := h
  obtain ⟨ts, wk, hi, co, gu, nd⟩ := S
  obtain ⟨ad, tb, tk, W, P, rfl, h, m7, hm7, hm8, hlt⟩ := h
  dsimp only at h hm8 hlt
  have hH := h
  obtain ⟨b0, b1, b3, b5, bM, b10, b11, b12, am, al, an, hc8⟩ := h
  refine zbody (M := mX2_endPeriod) (L0 := [_, _, _, _]) hl (by simp [Value.category]) (Nat.le_of_ble_eq_true rfl) (by decide +kernel) rfl ?_
  intro p e s m args below meth c C hX hnm hret
  replace C : zC z p l s m args meth c cX2_endPeriod RX2 4 := C
  replace hret : meth.sig.returnType = (some .int) := hret
  refine z_aload_n C dX2_endPeriod_0 rfl ?_
  refine z_callV C zm_X2_checkWorkHasNotBegun zl_X2_151 (c_checkWorkHasNotBegun hl hH) dX2_endPeriod_1 (by first | assumption | exact zk_eq | exact zk_ne (by first | assumption | exact zk_eq | exact zk_ne (by first | assumption | exact zk_eq | exact zk_ne (by first | assumption | exact zk_eq | exact zk_ne (by first | assumption | exact zk_eq | exact zk_ne (by first | assumption | exact zk_eq) (by first | decide | omega)) (by first | decide | omega)) (by first | decide | omega)) (by first | decide | omega)) (by first | decide | omega)) (by rfl) (by rfl) (by rfl) (by exact Nat.le_of_ble_eq_true rfl) rfl (by exact ⟨Nat.le_of_ble_eq_true rfl, Nat.le_of_ble_eq_true rfl⟩) (by first | exact ⟨Nat.le_of_ble_eq_true rfl, Nat.le_of_ble_eq_true rfl⟩ | (simp only [zrm]; omega)) (fun E w1 h => z_xout C hX (by obtain ⟨rfl, q, rfl⟩ := h; exact ⟨by simp only [hEndPeriod, if_neg q], hHH, zFh.refl _⟩) (by first | exact Nat.le_of_ble_eq_true rfl | omega) (by first | exact Nat.le_of_ble_eq_true rfl | omega)) (fun r w1 hq => ?_)
  obtain ⟨q0, rfl, rfl⟩ := hq
  refine z_iconst C (0) dX2_endPeriod_4 (by decide) ?_
  refine z_istore_n C (L1 := [_, _, _, _]) dX2_endPeriod_5 (Nat.le_of_ble_eq_true rfl) rfl ?_
  refine z_iconst C (0) dX2_endPeriod_6 (by decide) ?_
  refine z_istore_n C (L1 := [_, _, _, _]) dX2_endPeriod_7 (Nat.le_of_ble_eq_true rfl) rfl ?_
  refine z_loop (fun n cs ss L w2 => ∃ (i : Nat) (v : Int32) (wk2 : Nat → Nat → Int32), n = ts.length - i ∧ cs = 0 + 1 ∧ ss = 0 + 6 ∧ L = [some (.ref (ad 0)), some (.int v), some (.int (nI i)), none] ∧ i ≤ ts.length ∧ epe gu (ts.drop i) wk2 v = epe gu ts wk 0 ∧ HP z ad co gu nd w2 ts wk2 hi tb tk W P ∧ zFh w1 w2)
    ⟨0, 0, wk, rfl, rfl, rfl, rfl, Nat.zero_le _, rfl, hH, zFh.refl _⟩ ?_
  rintro n cs ss L w2 ⟨i, v, wk2, rfl, rfl, rfl, rfl, q1, q2, q3, q4⟩ ih
  have hX := q3
  obtain ⟨b0, b1, -, -, -, -, -, -, am, -, -, -⟩ := q3
  obtain ⟨md1, rb1, e1, -⟩ := id b1
  rw [List.length_map] at e1
  refine z_iload_n C dX2_endPeriod_8 rfl ?_
  refine z_aload_n C dX2_endPeriod_9 rfl ?_
  refine z_getf C zf_X2_10 dX2_endPeriod_10 (by first | assumption | exact zk_eq | exact zk_ne (by first | assumption | exact zk_eq | exact zk_ne (by first | assumption | exact zk_eq | exact zk_ne (by first | assumption | exact zk_eq | exact zk_ne (by first | assumption | exact zk_eq | exact zk_ne (by first | assumption | exact zk_eq) (by first | decide | omega)) (by first | decide | omega)) (by first | decide | omega)) (by first | decide | omega)) (by first | decide | omega)) (by rfl) ?_
  refine z_callV C zm_Jx4a65c_size_8abf5 zl_X2_67 (c_size hl e1) dX2_endPeriod_13 (by first | assumption | exact zk_eq | exact zk_ne (by first | assumption | exact zk_eq | exact zk_ne (by first | assumption | exact zk_eq | exact zk_ne (by first | assumption | exact zk_eq | exact zk_ne (by first | assumption | exact zk_eq | exact zk_ne (by first | assumption | exact zk_eq) (by first | decide | omega)) (by first | decide | omega)) (by first | decide | omega)) (by first | decide | omega)) (by first | decide | omega)) (by rfl) (by rfl) (by rfl) (by exact Nat.le_of_ble_eq_true rfl) rfl (by exact ⟨Nat.le_of_ble_eq_true rfl, Nat.le_of_ble_eq_true rfl⟩) (by first | exact ⟨Nat.le_of_ble_eq_true rfl, Nat.le_of_ble_eq_true rfl⟩ | (simp only [zrm]; omega)) (fun _ _ h => z_xno h) (fun r w1 hq => ?_)
  obtain ⟨rfl, rfl⟩ := hq
  refine z_icmp_ge C 55 dX2_endPeriod_16 (by decide) (fun c1 => ?_) (fun c1 => ?_)
  · have hi2 := ge_of_ge (by omega) (by omega) c1
    refine z_iload_n C dX2_endPeriod_55 rfl ?_
    refine z_iret C hret dX2_endPeriod_56 (by first | exact Nat.le_of_ble_eq_true rfl | omega) (by first | exact Nat.le_of_ble_eq_true rfl | omega) ?_
    rw [List.drop_eq_nil_of_le hi2] at q2
    refine ZO.fin (S1 := (ts, wk2, hi, co, gu, nd)) ?_ ⟨ad, tb, tk, W, P, rfl, hX, m7, hm7, hm8, hlt⟩ q4
    simp only [hEndPeriod, if_pos q0]
    rw [← q2]
    rfl
  have hi2 : i < ts.length := lt_of_nge (by omega) (by omega) c1
  rw [List.drop_eq_getElem_cons hi2] at q2
  have ex := hX.wk1 hi2
  have hmem := List.getElem_mem hi2
  refine z_aload_n C dX2_endPeriod_19 rfl ?_
  refine z_getf C zf_X2_10 dX2_endPeriod_20 (by first | assumption | exact zk_eq | exact zk_ne (by first | assumption | exact zk_eq | exact zk_ne (by first | assumption | exact zk_eq | exact zk_ne (by first | assumption | exact zk_eq | exact zk_ne (by first | assumption | exact zk_eq | exact zk_ne (by first | assumption | exact zk_eq) (by first | decide | omega)) (by first | decide | omega)) (by first | decide | omega)) (by first | decide | omega)) (by first | decide | omega)) (by rfl) ?_
  refine z_iload_n C dX2_endPeriod_23 rfl ?_
  refine z_callV C zm_Jx4a65c_get_915e3 zl_X2_123 (c_get (i := i) hl b1 (by simpa using hi2)) dX2_endPeriod_24 (by first | assumption | exact zk_eq | exact zk_ne (by first | assumption | exact zk_eq | exact zk_ne (by first | assumption | exact zk_eq | exact zk_ne (by first | assumption | exact zk_eq | exact zk_ne (by first | assumption | exact zk_eq | exact zk_ne (by first | assumption | exact zk_eq) (by first | decide | omega)) (by first | decide | omega)) (by first | decide | omega)) (by first | decide | omega)) (by first | decide | omega)) (by rfl) (by rfl) (by rfl) (by exact Nat.le_of_ble_eq_true rfl) rfl (by exact ⟨Nat.le_of_ble_eq_true rfl, Nat.le_of_ble_eq_true rfl⟩) (by first | exact ⟨Nat.le_of_ble_eq_true rfl, Nat.le_of_ble_eq_true rfl⟩ | (simp only [zrm]; omega)) (fun _ _ h => z_xno h) (fun r w1 hq => ?_)
  obtain ⟨rfl, rfl⟩ := hq
  rw [List.getElem_map]
  refine z_castW C zk_X2_78 dX2_endPeriod_27 (by first | assumption | exact zk_eq | exact zk_ne (by first | assumption | exact zk_eq | exact zk_ne (by first | assumption | exact zk_eq | exact zk_ne (by first | assumption | exact zk_eq | exact zk_ne (by first | assumption | exact zk_eq | exact zk_ne (by first | assumption | exact zk_eq) (by first | decide | omega)) (by first | decide | omega)) (by first | decide | omega)) (by first | decide | omega)) (by first | decide | omega)) ?_
  refine z_astore_n C (L1 := [_, _, _, _]) dX2_endPeriod_30 (Nat.le_of_ble_eq_true rfl) rfl ?_
  refine z_iload_n C dX2_endPeriod_31 rfl ?_
  refine z_aload_n C dX2_endPeriod_32 rfl ?_
  refine z_aload_n C dX2_endPeriod_33 rfl ?_
  refine z_callV C zm_X2_hoursOwed zl_X2_194 (c_hoursOwed hl hX hmem) dX2_endPeriod_34 (by first | assumption | exact zk_eq | exact zk_ne (by first | assumption | exact zk_eq | exact zk_ne (by first | assumption | exact zk_eq | exact zk_ne (by first | assumption | exact zk_eq | exact zk_ne (by first | assumption | exact zk_eq | exact zk_ne (by first | assumption | exact zk_eq) (by first | decide | omega)) (by first | decide | omega)) (by first | decide | omega)) (by first | decide | omega)) (by first | decide | omega)) (by rfl) (by rfl) (by rfl) (by exact Nat.le_of_ble_eq_true rfl) rfl (by exact ⟨Nat.le_of_ble_eq_true rfl, Nat.le_of_ble_eq_true rfl⟩) (by first | exact ⟨Nat.le_of_ble_eq_true rfl, Nat.le_of_ble_eq_true rfl⟩ | (simp only [zrm]; omega)) (fun _ _ h => z_xno h) (fun r w1 hq => ?_)
  obtain ⟨rfl, rfl⟩ := hq
  refine z_iadd C dX2_endPeriod_37 ?_
  refine z_istore_n C (L1 := [_, _, _, _]) dX2_endPeriod_38 (Nat.le_of_ble_eq_true rfl) rfl ?_
  refine z_aload_n C dX2_endPeriod_39 rfl ?_
  refine z_iconst C (0) dX2_endPeriod_40 (by decide) ?_
  refine z_putf C (fs1 := [_, _, _, _, _, _, _, _, _, _]) zp_X2_100 dX2_endPeriod_41 (by first | assumption | exact zk_eq | exact zk_ne (by first | assumption | exact zk_eq | exact zk_ne (by first | assumption | exact zk_eq | exact zk_ne (by first | assumption | exact zk_eq | exact zk_ne (by first | assumption | exact zk_eq | exact zk_ne (by first | assumption | exact zk_eq) (by first | decide | omega)) (by first | decide | omega)) (by first | decide | omega)) (by first | decide | omega)) (by first | decide | omega)) (by first | rfl | exact zb_nar _ | assumption) (by first | rfl | exact zb_fit _ | assumption) (by exact Nat.le_of_ble_eq_true rfl) (by rfl) ?_
  refine z_aload_n C dX2_endPeriod_44 rfl ?_
  refine z_iconst C (0) dX2_endPeriod_45 (by decide) ?_
  refine z_putf C (fs1 := [_, _, _, _, _, _, _, _, _, _]) zp_X2_198 dX2_endPeriod_46 (by first | assumption | exact zk_eq | exact zk_ne (by first | assumption | exact zk_eq | exact zk_ne (by first | assumption | exact zk_eq | exact zk_ne (by first | assumption | exact zk_eq | exact zk_ne (by first | assumption | exact zk_eq | exact zk_ne (by first | assumption | exact zk_eq) (by first | decide | omega)) (by first | decide | omega)) (by first | decide | omega)) (by first | decide | omega)) (by first | decide | omega)) (by first | rfl | exact zb_nar _ | assumption) (by first | rfl | exact zb_fit _ | assumption) (by exact Nat.le_of_ble_eq_true rfl) (by rfl) ?_
  rw [bx_uu]
  refine z_iinc C (L1 := [_, _, _, _]) _ dX2_endPeriod_49 rfl (by first | exact zinc | rfl) rfl ?_
  refine z_goto C 8 dX2_endPeriod_52 (by decide) ?_
  refine z_fgt (ih (ts.length - (i + 1)) _ _ _ _ (by omega) ⟨i + 1, v + owe gu (wk2 ts[i]), va_up wk2 ts[i] (va_up (va_up (wk2 ts[i]) 5 0) 6 0), rfl, rfl, rfl, rfl, hi2, q2, hX.wrk zk_eq (fun j hj => va_up_ne _ _ hj) (am _ hmem).2, fun j j1 j2 => (va_up_ne _ _ (by omega)).trans (q4 j j1 j2)⟩) (by simp [zle])
theorem o_endShift (hl : l.stackTraces = false) (h : HH z a0 nn w S) : ZO l z mX2_endShift a0 nn nn [] w S (hEndShift S) := by
  have hHH := h
  obtain ⟨ts, wk, hi, co, gu, nd⟩ := S
  obtain ⟨ad, tb, tk, W, P, rfl, h, m7, hm7, hm8, hlt⟩ := h
  dsimp only at h hm8 hlt
  have hH := h
  obtain ⟨b0, b1, b3, b5, bM, b10, b11, b12, am, al, an, hc8⟩ := h
  refine zbody (M := mX2_endShift) (L0 := [_, _, _, _]) hl (by simp [Value.category]) (Nat.le_of_ble_eq_true rfl) (by decide +kernel) rfl ?_
  intro p e s m args below meth c C hX hnm hret
  replace C : zC z p l s m args meth c cX2_endShift RX2 4 := C
  replace hret : meth.sig.returnType = (some .int) := hret
  refine z_aload_n C dX2_endShift_0 rfl ?_
  refine z_getf C zf_X2_53 dX2_endShift_1 (by first | assumption | exact zk_eq | exact zk_ne (by first | assumption | exact zk_eq | exact zk_ne (by first | assumption | exact zk_eq | exact zk_ne (by first | assumption | exact zk_eq | exact zk_ne (by first | assumption | exact zk_eq | exact zk_ne (by first | assumption | exact zk_eq) (by first | decide | omega)) (by first | decide | omega)) (by first | decide | omega)) (by first | decide | omega)) (by first | decide | omega)) (by rfl) ?_
  refine z_istore_n C (L1 := [_, _, _, _]) dX2_endShift_4 (Nat.le_of_ble_eq_true rfl) rfl ?_
  refine z_iconst C (0) dX2_endShift_5 (by decide) ?_
  refine z_istore_n C (L1 := [_, _, _, _]) dX2_endShift_6 (Nat.le_of_ble_eq_true rfl) rfl ?_
  refine z_loop (fun n cs ss L w2 => ∃ (i : Nat) (v : Int32) (wk2 : Nat → Nat → Int32), n = ts.length - i ∧ cs = 0 ∧ ss = 0 ∧ L = [some (.ref (ad 0)), some (.int v), some (.int (nI i)), none] ∧ i ≤ ts.length ∧ esh (hi 9) (ts.drop i) wk2 v = esh (hi 9) ts wk (hi 11) ∧ HP z ad co gu nd w2 ts wk2 hi tb tk W P ∧ zFh w w2)
    ⟨0, hi 11, wk, rfl, rfl, rfl, rfl, Nat.zero_le _, rfl, hH, zFh.refl _⟩ ?_
  rintro n cs ss L w2 ⟨i, v, wk2, rfl, rfl, rfl, rfl, q1, q2, q3, q4⟩ ih
  have hX := q3
  obtain ⟨b0, b1, -, -, -, -, -, -, am, -, -, -⟩ := q3
  obtain ⟨md1, rb1, e1, -⟩ := id b1
  rw [List.length_map] at e1
  refine z_iload_n C dX2_endShift_7 rfl ?_
  refine z_aload_n C dX2_endShift_8 rfl ?_
  refine z_getf C zf_X2_10 dX2_endShift_9 (by first | assumption | exact zk_eq | exact zk_ne (by first | assumption | exact zk_eq | exact zk_ne (by first | assumption | exact zk_eq | exact zk_ne (by first | assumption | exact zk_eq | exact zk_ne (by first | assumption | exact zk_eq | exact zk_ne (by first | assumption | exact zk_eq) (by first | decide | omega)) (by first | decide | omega)) (by first | decide | omega)) (by first | decide | omega)) (by first | decide | omega)) (by rfl) ?_
  refine z_callV C zm_Jx4a65c_size_8abf5 zl_X2_67 (c_size hl e1) dX2_endShift_12 (by first | assumption | exact zk_eq | exact zk_ne (by first | assumption | exact zk_eq | exact zk_ne (by first | assumption | exact zk_eq | exact zk_ne (by first | assumption | exact zk_eq | exact zk_ne (by first | assumption | exact zk_eq | exact zk_ne (by first | assumption | exact zk_eq) (by first | decide | omega)) (by first | decide | omega)) (by first | decide | omega)) (by first | decide | omega)) (by first | decide | omega)) (by rfl) (by rfl) (by rfl) (by exact Nat.le_of_ble_eq_true rfl) rfl (by exact ⟨Nat.le_of_ble_eq_true rfl, Nat.le_of_ble_eq_true rfl⟩) (by first | exact ⟨Nat.le_of_ble_eq_true rfl, Nat.le_of_ble_eq_true rfl⟩ | (simp only [zrm]; omega)) (fun _ _ h => z_xno h) (fun r w1 hq => ?_)
  obtain ⟨rfl, rfl⟩ := hq
  refine z_icmp_ge C 64 dX2_endShift_15 (by decide) (fun c1 => ?_) (fun c1 => ?_)
  · have hi2 := ge_of_ge (by omega) (by omega) c1
    refine z_aload_n C dX2_endShift_64 rfl ?_
    refine z_iconst C (0) dX2_endShift_65 (by decide) ?_
    refine z_putf C (fs1 := [_, _, _, _, _, _, _, _, _, _, _, _, _]) zp_X2_44 dX2_endShift_66 (by first | assumption | exact zk_eq | exact zk_ne (by first | assumption | exact zk_eq | exact zk_ne (by first | assumption | exact zk_eq | exact zk_ne (by first | assumption | exact zk_eq | exact zk_ne (by first | assumption | exact zk_eq | exact zk_ne (by first | assumption | exact zk_eq) (by first | decide | omega)) (by first | decide | omega)) (by first | decide | omega)) (by first | decide | omega)) (by first | decide | omega)) (by first | rfl | exact zb_nar _ | assumption) (by first | rfl | exact zb_fit _ | assumption) (by exact Nat.le_of_ble_eq_true rfl) (by rfl) ?_
    refine z_aload_n C dX2_endShift_69 rfl ?_
    refine z_iconst C (0) dX2_endShift_70 (by decide) ?_
    refine z_putf C (fs1 := [_, _, _, _, _, _, _, _, _, _, _, _, _]) zp_X2_50 dX2_endShift_71 (by first | assumption | exact zk_eq | exact zk_ne (by first | assumption | exact zk_eq | exact zk_ne (by first | assumption | exact zk_eq | exact zk_ne (by first | assumption | exact zk_eq | exact zk_ne (by first | assumption | exact zk_eq | exact zk_ne (by first | assumption | exact zk_eq) (by first | decide | omega)) (by first | decide | omega)) (by first | decide | omega)) (by first | decide | omega)) (by first | decide | omega)) (by first | rfl | exact zb_nar _ | assumption) (by first | rfl | exact zb_fit _ | assumption) (by exact Nat.le_of_ble_eq_true rfl) (by rfl) ?_
    refine z_aload_n C dX2_endShift_74 rfl ?_
    refine z_iconst C (0) dX2_endShift_75 (by decide) ?_
    refine z_putf C (fs1 := [_, _, _, _, _, _, _, _, _, _, _, _, _]) zp_X2_53 dX2_endShift_76 (by first | assumption | exact zk_eq | exact zk_ne (by first | assumption | exact zk_eq | exact zk_ne (by first | assumption | exact zk_eq | exact zk_ne (by first | assumption | exact zk_eq | exact zk_ne (by first | assumption | exact zk_eq | exact zk_ne (by first | assumption | exact zk_eq) (by first | decide | omega)) (by first | decide | omega)) (by first | decide | omega)) (by first | decide | omega)) (by first | decide | omega)) (by first | rfl | exact zb_nar _ | assumption) (by first | rfl | exact zb_fit _ | assumption) (by exact Nat.le_of_ble_eq_true rfl) (by rfl) ?_
    refine z_aload_n C dX2_endShift_79 rfl ?_
    refine z_iconst C (0) dX2_endShift_80 (by decide) ?_
    refine z_putf C (fs1 := [_, _, _, _, _, _, _, _, _, _, _, _, _]) zp_X2_56 dX2_endShift_81 (by first | assumption | exact zk_eq | exact zk_ne (by first | assumption | exact zk_eq | exact zk_ne (by first | assumption | exact zk_eq | exact zk_ne (by first | assumption | exact zk_eq | exact zk_ne (by first | assumption | exact zk_eq | exact zk_ne (by first | assumption | exact zk_eq) (by first | decide | omega)) (by first | decide | omega)) (by first | decide | omega)) (by first | decide | omega)) (by first | decide | omega)) (by first | rfl | exact zb_nar _ | assumption) (by first | rfl | exact zb_fit _ | assumption) (by exact Nat.le_of_ble_eq_true rfl) (by rfl) ?_
    rw [bx_uu, bx_uu, bx_uu]
    refine z_iload_n C dX2_endShift_84 rfl ?_
    refine z_iret C hret dX2_endShift_85 (by first | exact Nat.le_of_ble_eq_true rfl | omega) (by first | exact Nat.le_of_ble_eq_true rfl | omega) ?_
    rw [List.drop_eq_nil_of_le hi2] at q2
    refine ZO.fin (S1 := (ts, wk2, va_up (va_up (va_up (va_up hi 8 0) 10 0) 11 0) 12 0, co, gu, nd)) ?_ ⟨ad, tb, tk, W, P, rfl, hX.hal zk_eq (fun j hj => va_up_ne _ _ hj) ⟨0, by decide, rfl⟩, m7, hm7, hm8, hlt⟩ (fun j j1 j2 => (va_up_ne _ _ (by omega)).trans (q4 j j1 j2))
    simp only [hEndShift]
    rw [← q2]
    rfl
  have hi2 : i < ts.length := lt_of_nge (by omega) (by omega) c1
  rw [List.drop_eq_getElem_cons hi2] at q2
  simp only [esh] at q2
  have ex := hX.wk1 hi2
  have hmem := List.getElem_mem hi2
  refine z_aload_n C dX2_endShift_18 rfl ?_
  refine z_getf C zf_X2_10 dX2_endShift_19 (by first | assumption | exact zk_eq | exact zk_ne (by first | assumption | exact zk_eq | exact zk_ne (by first | assumption | exact zk_eq | exact zk_ne (by first | assumption | exact zk_eq | exact zk_ne (by first | assumption | exact zk_eq | exact zk_ne (by first | assumption | exact zk_eq) (by first | decide | omega)) (by first | decide | omega)) (by first | decide | omega)) (by first | decide | omega)) (by first | decide | omega)) (by rfl) ?_
  refine z_iload_n C dX2_endShift_22 rfl ?_
  refine z_callV C zm_Jx4a65c_get_915e3 zl_X2_123 (c_get (i := i) hl b1 (by simpa using hi2)) dX2_endShift_23 (by first | assumption | exact zk_eq | exact zk_ne (by first | assumption | exact zk_eq | exact zk_ne (by first | assumption | exact zk_eq | exact zk_ne (by first | assumption | exact zk_eq | exact zk_ne (by first | assumption | exact zk_eq | exact zk_ne (by first | assumption | exact zk_eq) (by first | decide | omega)) (by first | decide | omega)) (by first | decide | omega)) (by first | decide | omega)) (by first | decide | omega)) (by rfl) (by rfl) (by rfl) (by exact Nat.le_of_ble_eq_true rfl) rfl (by exact ⟨Nat.le_of_ble_eq_true rfl, Nat.le_of_ble_eq_true rfl⟩) (by first | exact ⟨Nat.le_of_ble_eq_true rfl, Nat.le_of_ble_eq_true rfl⟩ | (simp only [zrm]; omega)) (fun _ _ h => z_xno h) (fun r w1 hq => ?_)
  obtain ⟨rfl, rfl⟩ := hq
  rw [List.getElem_map]
  refine z_castW C zk_X2_78 dX2_endShift_26 (by first | assumption | exact zk_eq | exact zk_ne (by first | assumption | exact zk_eq | exact zk_ne (by first | assumption | exact zk_eq | exact zk_ne (by first | assumption | exact zk_eq | exact zk_ne (by first | assumption | exact zk_eq | exact zk_ne (by first | assumption | exact zk_eq) (by first | decide | omega)) (by first | decide | omega)) (by first | decide | omega)) (by first | decide | omega)) (by first | decide | omega)) ?_
  refine z_astore_n C (L1 := [_, _, _, _]) dX2_endShift_29 (Nat.le_of_ble_eq_true rfl) rfl ?_
  refine z_aload_n C dX2_endShift_30 rfl ?_
  refine z_callV C zm_X1_isAtWork zl_X2_156 (c_isAtWork hl ex) dX2_endShift_31 (by first | assumption | exact zk_eq | exact zk_ne (by first | assumption | exact zk_eq | exact zk_ne (by first | assumption | exact zk_eq | exact zk_ne (by first | assumption | exact zk_eq | exact zk_ne (by first | assumption | exact zk_eq | exact zk_ne (by first | assumption | exact zk_eq) (by first | decide | omega)) (by first | decide | omega)) (by first | decide | omega)) (by first | decide | omega)) (by first | decide | omega)) (by rfl) (by rfl) (by rfl) (by exact Nat.le_of_ble_eq_true rfl) rfl (by exact ⟨Nat.le_of_ble_eq_true rfl, Nat.le_of_ble_eq_true rfl⟩) (by first | exact ⟨Nat.le_of_ble_eq_true rfl, Nat.le_of_ble_eq_true rfl⟩ | (simp only [zrm]; omega)) (fun _ _ h => z_xno h) (fun r w1 hq => ?_)
  obtain ⟨rfl, rfl⟩ := hq
  refine z_if_eq C 48 dX2_endShift_34 (by decide) (fun c2 => ?_) (fun c2 => ?_)
  · have c3 : wk2 ts[i] 7 = -1 := by simpa using zb_eq0.mp c2
    rw [if_pos c3] at q2
    refine z_aload_n C dX2_endShift_48 rfl ?_
    refine z_iconst C (0) dX2_endShift_49 (by decide) ?_
    refine z_putf C (fs1 := [_, _, _, _, _, _, _, _, _, _]) zp_X2_191 dX2_endShift_50 (by first | assumption | exact zk_eq | exact zk_ne (by first | assumption | exact zk_eq | exact zk_ne (by first | assumption | exact zk_eq | exact zk_ne (by first | assumption | exact zk_eq | exact zk_ne (by first | assumption | exact zk_eq | exact zk_ne (by first | assumption | exact zk_eq) (by first | decide | omega)) (by first | decide | omega)) (by first | decide | omega)) (by first | decide | omega)) (by first | decide | omega)) (by first | rfl | exact zb_nar _ | assumption) (by first | rfl | exact zb_fit _ | assumption) (by exact Nat.le_of_ble_eq_true rfl) (by rfl) ?_
    refine z_aload_n C dX2_endShift_53 rfl ?_
    refine z_iconst C (0) dX2_endShift_54 (by decide) ?_
    refine z_putf C (fs1 := [_, _, _, _, _, _, _, _, _, _]) zp_X2_112 dX2_endShift_55 (by first | assumption | exact zk_eq | exact zk_ne (by first | assumption | exact zk_eq | exact zk_ne (by first | assumption | exact zk_eq | exact zk_ne (by first | assumption | exact zk_eq | exact zk_ne (by first | assumption | exact zk_eq | exact zk_ne (by first | assumption | exact zk_eq) (by first | decide | omega)) (by first | decide | omega)) (by first | decide | omega)) (by first | decide | omega)) (by first | decide | omega)) (by first | rfl | exact zb_nar _ | assumption) (by first | rfl | exact zb_fit _ | assumption) (by exact Nat.le_of_ble_eq_true rfl) (by rfl) ?_
    rw [bx_uu]
    refine z_iinc C (L1 := [_, _, _, _]) _ dX2_endShift_58 rfl (by first | exact zinc | rfl) rfl ?_
    refine z_goto C 7 dX2_endShift_61 (by decide) ?_
    have hX2 := hX.wrk (n := ts[i]) (r1 := va_up (va_up (wk2 ts[i]) 9 0) 4 0) (w1 := va_up w1 (100 + ts[i]) (some (zWa ad ts[i], zWc (va_up (va_up (wk2 ts[i]) 9 0) 4 0)))) zk_eq (fun j hj => va_up_ne _ _ hj) (am _ hmem).2
    have ee : va_up wk2 ts[i] (va_up (va_up (wk2 ts[i]) 9 0) 4 0) = eshW (hi 9) wk2 ts[i] := by unfold eshW; rw [if_pos c3]
    rw [ee] at hX2
    exact z_fgt (ih (ts.length - (i + 1)) _ _ _ _ (by omega) ⟨i + 1, v, eshW (hi 9) wk2 ts[i], rfl, rfl, rfl, rfl, hi2, q2, hX2, fun j j1 j2 => (va_up_ne _ _ (by omega)).trans (q4 j j1 j2)⟩) (by simp [zle])
  · have c3 : ¬ wk2 ts[i] 7 = -1 := by simpa using zb_tt c2
    rw [if_neg c3] at q2
    refine z_iload_n C dX2_endShift_37 rfl ?_
    refine z_aload_n C dX2_endShift_38 rfl ?_
    refine z_aload_n C dX2_endShift_39 rfl ?_
    refine z_getf C zf_X2_47 dX2_endShift_40 (by first | assumption | exact zk_eq | exact zk_ne (by first | assumption | exact zk_eq | exact zk_ne (by first | assumption | exact zk_eq | exact zk_ne (by first | assumption | exact zk_eq | exact zk_ne (by first | assumption | exact zk_eq | exact zk_ne (by first | assumption | exact zk_eq) (by first | decide | omega)) (by first | decide | omega)) (by first | decide | omega)) (by first | decide | omega)) (by first | decide | omega)) (by rfl) ?_
    refine z_callV C zm_X1_stopWork zl_X2_165 (c_stopWork hl ex (hi 9)) dX2_endShift_43 (by first | assumption | exact zk_eq | exact zk_ne (by first | assumption | exact zk_eq | exact zk_ne (by first | assumption | exact zk_eq | exact zk_ne (by first | assumption | exact zk_eq | exact zk_ne (by first | assumption | exact zk_eq | exact zk_ne (by first | assumption | exact zk_eq) (by first | decide | omega)) (by first | decide | omega)) (by first | decide | omega)) (by first | decide | omega)) (by first | decide | omega)) (by rfl) (by rfl) (by rfl) (by exact Nat.le_of_ble_eq_true rfl) rfl (by exact ⟨Nat.le_of_ble_eq_true rfl, Nat.le_of_ble_eq_true rfl⟩) (by first | exact ⟨Nat.le_of_ble_eq_true rfl, Nat.le_of_ble_eq_true rfl⟩ | (simp only [zrm]; omega)) (fun _ _ h => z_xno h) (fun r w3 hq => ?_)
    obtain ⟨rfl, rfl⟩ := hq
    refine z_iadd C dX2_endShift_46 ?_
    refine z_istore_n C (L1 := [_, _, _, _]) dX2_endShift_47 (Nat.le_of_ble_eq_true rfl) rfl ?_
    refine z_aload_n C dX2_endShift_48 rfl ?_
    refine z_iconst C (0) dX2_endShift_49 (by decide) ?_
    refine z_putf C (fs1 := [_, _, _, _, _, _, _, _, _, _]) zp_X2_191 dX2_endShift_50 (by first | assumption | exact zk_eq | exact zk_ne (by first | assumption | exact zk_eq | exact zk_ne (by first | assumption | exact zk_eq | exact zk_ne (by first | assumption | exact zk_eq | exact zk_ne (by first | assumption | exact zk_eq | exact zk_ne (by first | assumption | exact zk_eq) (by first | decide | omega)) (by first | decide | omega)) (by first | decide | omega)) (by first | decide | omega)) (by first | decide | omega)) (by first | rfl | exact zb_nar _ | assumption) (by first | rfl | exact zb_fit _ | assumption) (by exact Nat.le_of_ble_eq_true rfl) (by rfl) ?_
    refine z_aload_n C dX2_endShift_53 rfl ?_
    refine z_iconst C (0) dX2_endShift_54 (by decide) ?_
    refine z_putf C (fs1 := [_, _, _, _, _, _, _, _, _, _]) zp_X2_112 dX2_endShift_55 (by first | assumption | exact zk_eq | exact zk_ne (by first | assumption | exact zk_eq | exact zk_ne (by first | assumption | exact zk_eq | exact zk_ne (by first | assumption | exact zk_eq | exact zk_ne (by first | assumption | exact zk_eq | exact zk_ne (by first | assumption | exact zk_eq) (by first | decide | omega)) (by first | decide | omega)) (by first | decide | omega)) (by first | decide | omega)) (by first | decide | omega)) (by first | rfl | exact zb_nar _ | assumption) (by first | rfl | exact zb_fit _ | assumption) (by exact Nat.le_of_ble_eq_true rfl) (by rfl) ?_
    rw [bx_uu, bx_uu]
    refine z_iinc C (L1 := [_, _, _, _]) _ dX2_endShift_58 rfl (by first | exact zinc | rfl) rfl ?_
    refine z_goto C 7 dX2_endShift_61 (by decide) ?_
    have hX2 := hX.wrk (n := ts[i]) (r1 := va_up (va_up (zend wk2 ts[i] (hi 9) ts[i]) 9 0) 4 0) (w1 := va_up w1 (100 + ts[i]) (some (zWa ad ts[i], zWc (va_up (va_up (zend wk2 ts[i] (hi 9) ts[i]) 9 0) 4 0)))) zk_eq (fun j hj => va_up_ne _ _ hj) (by unfold zend; rw [va_up_self]; exact (am _ hmem).2)
    have ee : va_up wk2 ts[i] (va_up (va_up (zend wk2 ts[i] (hi 9) ts[i]) 9 0) 4 0) = eshW (hi 9) wk2 ts[i] := by
      unfold eshW
      rw [if_neg c3]
      unfold zend
      rw [bx_uu]
    have ee2 : zend wk2 ts[i] (hi 9) ts[i] = va_up (va_up (wk2 ts[i]) 5 (wk2 ts[i] 5 + (hi 9 - wk2 ts[i] 8))) 7 (-1) := va_up_self _ _ _
    rw [ee, ee2] at hX2
    exact z_fgt (ih (ts.length - (i + 1)) _ _ _ _ (by omega) ⟨i + 1, v + (hi 9 - wk2 ts[i] 8), eshW (hi 9) wk2 ts[i], rfl, rfl, rfl, rfl, hi2, q2, hX2, fun j j1 j2 => (va_up_ne _ _ (by omega)).trans (q4 j j1 j2)⟩) (by simp [zle])
end ZH10
