/-! HiringHall: signOff .. order, questions about one worker -/
section
variable {z : zT} {w : zW} {ad : Nat → Nat} {co gu nd : Nat → Int32} {ts : List Nat} {wk : Nat → Nat → Int32} {hi : Nat → Int32} {tb tk : List Nat} {W P : List Int32}
/-- the hall's rows -/
theorem HP.rows {w1 : zW} {co1 gu1 nd1 : Nat → Int32} (h : HP z ad co gu nd w ts wk hi tb tk W P) (h10 : w1 10 = some (ad 10, .inl (z.2.2.1 1, 4, .inl co1))) (h11 : w1 11 = some (ad 11, .inl (z.2.2.1 0, 4, .inl gu1))) (h12 : w1 12 = some (ad 12, .inl (z.2.2.1 0, 16, .inl nd1))) (q : ∀ j : Nat, j ≠ 10 → j ≠ 11 → j ≠ 12 → w1 j = w j) : HP z ad co1 gu1 nd1 w1 ts wk hi tb tk W P := by
  obtain ⟨a0, a1, a3, a5, a7, a10, a11, a12, am, al, an, hc⟩ := h
  exact ⟨(q 0 (by decide) (by decide) (by decide)).trans a0, a1.kept (q 1 (by decide) (by decide) (by decide)) (q 2 (by decide) (by decide) (by decide)), a3.kept (q 3 (by decide) (by decide) (by decide)) (q 4 (by decide) (by decide) (by decide)), a5.kept (q 5 (by decide) (by decide) (by decide)) (q 6 (by decide) (by decide) (by decide)), a7.kept (q 7 (by decide) (by decide) (by decide)) (q 8 (by decide) (by decide) (by decide)) (q 9 (by decide) (by decide) (by decide)), h10, h11, h12, fun n h => ⟨(q _ (by omega) (by omega) (by omega)).trans (am n h).1, (am n h).2⟩, al, an, hc⟩
end
section ZH8
variable {l : Launch} {z : zT} {w : zW} {a0 nn : Nat} {S : zHS}
theorem zFh.of1 {w w1 : zW} {k : Nat} (h : zFk k w w1) (hk : k + 1 < 13) : zFh w w1 := fun j j1 j2 => h j (by omega) (by omega) (by omega)
theorem o_signOff (hl : l.stackTraces = false) (h : HH z a0 nn w S) (x : Int32) : ZO l z mX2_signOff a0 nn nn [.int x] w S (hSignOff S x) := by
  have hHH := h
  obtain ⟨ts, wk, hi, co, gu, nd⟩ := S
  obtain ⟨ad, tb, tk, W, P, rfl, h, m7, hm7, hm8, hlt⟩ := h
  dsimp only at h hm8 hlt
  have hH := h
  obtain ⟨b0, b1, b3, b5, bM, b10, b11, b12, am, al, an, hc8⟩ := h
  refine zbody (M := mX2_signOff) (L0 := [_, _, _]) hl (by simp [Value.category]) (Nat.le_of_ble_eq_true rfl) (by decide +kernel) rfl ?_
  intro p e s m args below meth c C hX hnm hret
  replace C : zC z p l s m args meth c cX2_signOff RX2 3 := C
  replace hret : meth.sig.returnType = (some .int) := hret
  refine z_aload_n C dX2_signOff_0 rfl ?_
  refine z_iload_n C dX2_signOff_1 rfl ?_
  refine z_callV C zm_X2_find zl_X2_90 (c_find hl hH x) dX2_signOff_2 (by first | assumption | exact zk_eq | exact zk_ne (by first | assumption | exact zk_eq | exact zk_ne (by first | assumption | exact zk_eq | exact zk_ne (by first | assumption | exact zk_eq | exact zk_ne (by first | assumption | exact zk_eq | exact zk_ne (by first | assumption | exact zk_eq) (by first | decide | omega)) (by first | decide | omega)) (by first | decide | omega)) (by first | decide | omega)) (by first | decide | omega)) (by rfl) (by rfl) (by rfl) (by exact Nat.le_of_ble_eq_true rfl) rfl (by exact ⟨Nat.le_of_ble_eq_true rfl, Nat.le_of_ble_eq_true rfl⟩) (by first | exact ⟨Nat.le_of_ble_eq_true rfl, Nat.le_of_ble_eq_true rfl⟩ | (simp only [zrm]; omega)) (fun E w1 h => z_xout C hX (by obtain ⟨rfl, q, rfl⟩ := h; exact ⟨by simp only [hSignOff, q], hHH, zFh.refl _⟩) (by first | exact Nat.le_of_ble_eq_true rfl | omega) (by first | exact Nat.le_of_ble_eq_true rfl | omega)) (fun r w1 hq => ?_)
  obtain ⟨n, hn, -, hf, rfl, rfl⟩ := hq
  have en := (am n hn).1
  refine z_astore_n C (L1 := [_, _, _]) dX2_signOff_5 (Nat.le_of_ble_eq_true rfl) rfl ?_
  refine z_aload_n C dX2_signOff_6 rfl ?_
  refine z_callS C zm_X2_checkNotAtWork zl_X2_94 (c_checkNotAtWork hl en) dX2_signOff_7 (by rfl) (by rfl) (by exact Nat.le_of_ble_eq_true rfl) rfl (by exact ⟨Nat.le_of_ble_eq_true rfl, Nat.le_of_ble_eq_true rfl⟩) (by first | exact ⟨Nat.le_of_ble_eq_true rfl, Nat.le_of_ble_eq_true rfl⟩ | (simp only [zrm]; omega)) (fun E w1 h => z_xout C hX (by obtain ⟨rfl, q, rfl⟩ := h; exact ⟨by simp only [hSignOff, hf, if_neg q], hHH, zFh.refl _⟩) (by first | exact Nat.le_of_ble_eq_true rfl | omega) (by first | exact Nat.le_of_ble_eq_true rfl | omega)) (fun r w1 hq => ?_)
  obtain ⟨q7, rfl, rfl⟩ := hq
  refine z_aload_n C dX2_signOff_10 rfl ?_
  refine z_aload_n C dX2_signOff_11 rfl ?_
  refine z_callV C zm_X2_takeOffBoard zl_X2_97 (c_takeOffBoard hl hH hn) dX2_signOff_12 (by first | assumption | exact zk_eq | exact zk_ne (by first | assumption | exact zk_eq | exact zk_ne (by first | assumption | exact zk_eq | exact zk_ne (by first | assumption | exact zk_eq | exact zk_ne (by first | assumption | exact zk_eq | exact zk_ne (by first | assumption | exact zk_eq) (by first | decide | omega)) (by first | decide | omega)) (by first | decide | omega)) (by first | decide | omega)) (by first | decide | omega)) (by rfl) (by rfl) (by rfl) (by exact Nat.le_of_ble_eq_true rfl) rfl (by exact ⟨Nat.le_of_ble_eq_true rfl, Nat.le_of_ble_eq_true rfl⟩) (by first | exact ⟨Nat.le_of_ble_eq_true rfl, Nat.le_of_ble_eq_true rfl⟩ | (simp only [zrm]; omega)) (fun _ _ h => z_xno h) (fun r w2 hq => ?_)
  obtain ⟨rfl, g1, g2⟩ := hq
  have en2 := (g2 (100 + n) (by omega) (by omega) (by omega)).trans en
  refine z_aload_n C dX2_signOff_15 rfl ?_
  refine z_getf C zf_X2_100 dX2_signOff_16 (by first | assumption | exact zk_eq | exact zk_ne (by first | assumption | exact zk_eq | exact zk_ne (by first | assumption | exact zk_eq | exact zk_ne (by first | assumption | exact zk_eq | exact zk_ne (by first | assumption | exact zk_eq | exact zk_ne (by first | assumption | exact zk_eq) (by first | decide | omega)) (by first | decide | omega)) (by first | decide | omega)) (by first | decide | omega)) (by first | decide | omega)) (by rfl) ?_
  refine z_iret C hret dX2_signOff_19 (by first | exact Nat.le_of_ble_eq_true rfl | omega) (by first | exact Nat.le_of_ble_eq_true rfl | omega) ?_
  exact ZO.fin (S1 := (ts.erase n, wk, hi, co, gu, nd)) (by simp only [hSignOff, hf, if_pos q7]) ⟨ad, tb, tk, W, P, rfl, hH.turn g1 g2 (fun m hm => am m (List.mem_of_mem_erase hm)) (Nat.le_trans List.length_erase_le al) (an.erase n), m7, hm7, hm8, fun k hk => hlt k (List.mem_of_mem_erase hk)⟩ (zFh.of1 g2 (by decide))
theorem o_setSkills (hl : l.stackTraces = false) (h : HH z a0 nn w S) (x y : Int32) : ZO l z mX2_setSkills a0 nn nn [.int x, .int y] w S (hSetSkills S x y) := by
  have hHH := h
  obtain ⟨ts, wk, hi, co, gu, nd⟩ := S
  obtain ⟨ad, tb, tk, W, P, rfl, h, m7, hm7, hm8, hlt⟩ := h
  dsimp only at h hm8 hlt
  have hH := h
  obtain ⟨b0, b1, b3, b5, bM, b10, b11, b12, am, al, an, hc8⟩ := h
  refine zbody (M := mX2_setSkills) (L0 := [_, _, _, _, _]) hl (by simp [Value.category]) (Nat.le_of_ble_eq_true rfl) (by decide +kernel) rfl ?_
  intro p e s m args below meth c C hX hnm hret
  replace C : zC z p l s m args meth c cX2_setSkills RX2 5 := C
  replace hret : meth.sig.returnType = (some .int) := hret
  refine z_aload_n C dX2_setSkills_0 rfl ?_
  refine z_iload_n C dX2_setSkills_1 rfl ?_
  refine z_callV C zm_X2_find zl_X2_90 (c_find hl hH x) dX2_setSkills_2 (by first | assumption | exact zk_eq | exact zk_ne (by first | assumption | exact zk_eq | exact zk_ne (by first | assumption | exact zk_eq | exact zk_ne (by first | assumption | exact zk_eq | exact zk_ne (by first | assumption | exact zk_eq | exact zk_ne (by first | assumption | exact zk_eq) (by first | decide | omega)) (by first | decide | omega)) (by first | decide | omega)) (by first | decide | omega)) (by first | decide | omega)) (by rfl) (by rfl) (by rfl) (by exact Nat.le_of_ble_eq_true rfl) rfl (by exact ⟨Nat.le_of_ble_eq_true rfl, Nat.le_of_ble_eq_true rfl⟩) (by first | exact ⟨Nat.le_of_ble_eq_true rfl, Nat.le_of_ble_eq_true rfl⟩ | (simp only [zrm]; omega)) (fun E w1 h => z_xout C hX (by obtain ⟨rfl, q, rfl⟩ := h; exact ⟨by simp only [hSetSkills, q], hHH, zFh.refl _⟩) (by first | exact Nat.le_of_ble_eq_true rfl | omega) (by first | exact Nat.le_of_ble_eq_true rfl | omega)) (fun r w1 hq => ?_)
  obtain ⟨n, hn, -, hf, rfl, rfl⟩ := hq
  have en := (am n hn).1
  refine z_astore_n C (L1 := [_, _, _, _, _]) dX2_setSkills_5 (Nat.le_of_ble_eq_true rfl) rfl ?_
  refine z_iload_n C dX2_setSkills_6 rfl ?_
  refine z_callS C zm_X2_checkSkills zl_X2_64 (c_checkSkills hl y) dX2_setSkills_7 (by rfl) (by rfl) (by exact Nat.le_of_ble_eq_true rfl) rfl (by exact ⟨Nat.le_of_ble_eq_true rfl, Nat.le_of_ble_eq_true rfl⟩) (by first | exact ⟨Nat.le_of_ble_eq_true rfl, Nat.le_of_ble_eq_true rfl⟩ | (simp only [zrm]; omega)) (fun E w1 h => z_xout C hX (by obtain ⟨rfl, q, rfl⟩ := h; exact ⟨by simp only [hSetSkills, hf, if_pos q], hHH, zFh.refl _⟩) (by first | exact Nat.le_of_ble_eq_true rfl | omega) (by first | exact Nat.le_of_ble_eq_true rfl | omega)) (fun r w1 hq => ?_)
  obtain ⟨c3, c4, rfl, rfl⟩ := hq
  have q2 : ¬ (y < 0 ∨ ¬ y < 32) := fun h => h.elim c3 (fun h => h c4)
  refine z_aload_n C dX2_setSkills_10 rfl ?_
  refine z_callS C zm_X2_checkNotAtWork zl_X2_94 (c_checkNotAtWork hl en) dX2_setSkills_11 (by rfl) (by rfl) (by exact Nat.le_of_ble_eq_true rfl) rfl (by exact ⟨Nat.le_of_ble_eq_true rfl, Nat.le_of_ble_eq_true rfl⟩) (by first | exact ⟨Nat.le_of_ble_eq_true rfl, Nat.le_of_ble_eq_true rfl⟩ | (simp only [zrm]; omega)) (fun E w1 h => z_xout C hX (by obtain ⟨rfl, q, rfl⟩ := h; exact ⟨by simp only [hSetSkills, hf, if_neg q2, if_neg q], hHH, zFh.refl _⟩) (by first | exact Nat.le_of_ble_eq_true rfl | omega) (by first | exact Nat.le_of_ble_eq_true rfl | omega)) (fun r w1 hq => ?_)
  obtain ⟨q7, rfl, rfl⟩ := hq
  refine z_aload_n C dX2_setSkills_14 rfl ?_
  refine z_getf C zf_X2_103 dX2_setSkills_15 (by first | assumption | exact zk_eq | exact zk_ne (by first | assumption | exact zk_eq | exact zk_ne (by first | assumption | exact zk_eq | exact zk_ne (by first | assumption | exact zk_eq | exact zk_ne (by first | assumption | exact zk_eq | exact zk_ne (by first | assumption | exact zk_eq) (by first | decide | omega)) (by first | decide | omega)) (by first | decide | omega)) (by first | decide | omega)) (by first | decide | omega)) (by rfl) ?_
  refine z_istore C (L1 := [_, _, _, _, _]) dX2_setSkills_18 (Nat.le_of_ble_eq_true rfl) rfl ?_
  refine z_aload_n C dX2_setSkills_20 rfl ?_
  refine z_iload_n C dX2_setSkills_21 rfl ?_
  refine z_putf C (fs1 := [_, _, _, _, _, _, _, _, _, _]) zp_X2_103 dX2_setSkills_22 (by first | assumption | exact zk_eq | exact zk_ne (by first | assumption | exact zk_eq | exact zk_ne (by first | assumption | exact zk_eq | exact zk_ne (by first | assumption | exact zk_eq | exact zk_ne (by first | assumption | exact zk_eq | exact zk_ne (by first | assumption | exact zk_eq) (by first | decide | omega)) (by first | decide | omega)) (by first | decide | omega)) (by first | decide | omega)) (by first | decide | omega)) (by first | rfl | exact zb_nar _ | assumption) (by first | rfl | exact zb_fit _ | assumption) (by exact Nat.le_of_ble_eq_true rfl) (by rfl) ?_
  refine z_iload C dX2_setSkills_25 rfl ?_
  refine z_iret C hret dX2_setSkills_27 (by first | exact Nat.le_of_ble_eq_true rfl | omega) (by first | exact Nat.le_of_ble_eq_true rfl | omega) ?_
  exact ZO.fin (S1 := (ts, va_up wk n (va_up (wk n) 2 y), hi, co, gu, nd)) (by simp only [hSetSkills, hf, if_neg q2, if_pos q7]) ⟨ad, tb, tk, W, P, rfl, hH.wrk (r1 := va_up (wk n) 2 y) zk_eq (fun j hj => va_up_ne _ _ hj) (am n hn).2, m7, hm7, hm8, hlt⟩ (fun j j1 j2 => va_up_ne _ _ (by omega))
theorem o_move (hl : l.stackTraces = false) (h : HH z a0 nn w S) (x y : Int32) : ZO l z mX2_move a0 nn nn [.int x, .int y] w S (hMove S x y) := by
  have hHH := h
  obtain ⟨ts, wk, hi, co, gu, nd⟩ := S
  obtain ⟨ad, tb, tk, W, P, rfl, h, m7, hm7, hm8, hlt⟩ := h
  dsimp only at h hm8 hlt
  have hH := h
  obtain ⟨b0, b1, b3, b5, bM, b10, b11, b12, am, al, an, hc8⟩ := h
  refine zbody (M := mX2_move) (L0 := [_, _, _, _, _]) hl (by simp [Value.category]) (Nat.le_of_ble_eq_true rfl) (by decide +kernel) rfl ?_
  intro p e s m args below meth c C hX hnm hret
  replace C : zC z p l s m args meth c cX2_move RX2 5 := C
  replace hret : meth.sig.returnType = (some .int) := hret
  refine z_aload_n C dX2_move_0 rfl ?_
  refine z_iload_n C dX2_move_1 rfl ?_
  refine z_callV C zm_X2_find zl_X2_90 (c_find hl hH x) dX2_move_2 (by first | assumption | exact zk_eq | exact zk_ne (by first | assumption | exact zk_eq | exact zk_ne (by first | assumption | exact zk_eq | exact zk_ne (by first | assumption | exact zk_eq | exact zk_ne (by first | assumption | exact zk_eq | exact zk_ne (by first | assumption | exact zk_eq) (by first | decide | omega)) (by first | decide | omega)) (by first | decide | omega)) (by first | decide | omega)) (by first | decide | omega)) (by rfl) (by rfl) (by rfl) (by exact Nat.le_of_ble_eq_true rfl) rfl (by exact ⟨Nat.le_of_ble_eq_true rfl, Nat.le_of_ble_eq_true rfl⟩) (by first | exact ⟨Nat.le_of_ble_eq_true rfl, Nat.le_of_ble_eq_true rfl⟩ | (simp only [zrm]; omega)) (fun E w1 h => z_xout C hX (by obtain ⟨rfl, q, rfl⟩ := h; exact ⟨by simp only [hMove, q], hHH, zFh.refl _⟩) (by first | exact Nat.le_of_ble_eq_true rfl | omega) (by first | exact Nat.le_of_ble_eq_true rfl | omega)) (fun r w1 hq => ?_)
  obtain ⟨n, hn, -, hf, rfl, rfl⟩ := hq
  have en := (am n hn).1
  refine z_astore_n C (L1 := [_, _, _, _, _]) dX2_move_5 (Nat.le_of_ble_eq_true rfl) rfl ?_
  refine z_iload_n C dX2_move_6 rfl ?_
  refine z_callS C zm_X2_checkBoard zl_X2_60 (c_checkBoard hl y) dX2_move_7 (by rfl) (by rfl) (by exact Nat.le_of_ble_eq_true rfl) rfl (by exact ⟨Nat.le_of_ble_eq_true rfl, Nat.le_of_ble_eq_true rfl⟩) (by first | exact ⟨Nat.le_of_ble_eq_true rfl, Nat.le_of_ble_eq_true rfl⟩ | (simp only [zrm]; omega)) (fun E w1 h => z_xout C hX (by obtain ⟨rfl, q, rfl⟩ := h; exact ⟨by simp only [hMove, hf, if_pos q], hHH, zFh.refl _⟩) (by first | exact Nat.le_of_ble_eq_true rfl | omega) (by first | exact Nat.le_of_ble_eq_true rfl | omega)) (fun r w1 hq => ?_)
  obtain ⟨c3, c4, rfl, rfl⟩ := hq
  have q2 : ¬ (y < 0 ∨ ¬ y < 4) := fun h => h.elim c3 (fun h => h c4)
  refine z_aload_n C dX2_move_10 rfl ?_
  refine z_getf C zf_X2_106 dX2_move_11 (by first | assumption | exact zk_eq | exact zk_ne (by first | assumption | exact zk_eq | exact zk_ne (by first | assumption | exact zk_eq | exact zk_ne (by first | assumption | exact zk_eq | exact zk_ne (by first | assumption | exact zk_eq | exact zk_ne (by first | assumption | exact zk_eq) (by first | decide | omega)) (by first | decide | omega)) (by first | decide | omega)) (by first | decide | omega)) (by first | decide | omega)) (by rfl) ?_
  refine z_istore C (L1 := [_, _, _, _, _]) dX2_move_14 (Nat.le_of_ble_eq_true rfl) rfl ?_
  refine z_aload_n C dX2_move_16 rfl ?_
  refine z_aload_n C dX2_move_17 rfl ?_
  refine z_callV C zm_X2_takeOffBoard zl_X2_97 (c_takeOffBoard hl hH hn) dX2_move_18 (by first | assumption | exact zk_eq | exact zk_ne (by first | assumption | exact zk_eq | exact zk_ne (by first | assumption | exact zk_eq | exact zk_ne (by first | assumption | exact zk_eq | exact zk_ne (by first | assumption | exact zk_eq | exact zk_ne (by first | assumption | exact zk_eq) (by first | decide | omega)) (by first | decide | omega)) (by first | decide | omega)) (by first | decide | omega)) (by first | decide | omega)) (by rfl) (by rfl) (by rfl) (by exact Nat.le_of_ble_eq_true rfl) rfl (by exact ⟨Nat.le_of_ble_eq_true rfl, Nat.le_of_ble_eq_true rfl⟩) (by first | exact ⟨Nat.le_of_ble_eq_true rfl, Nat.le_of_ble_eq_true rfl⟩ | (simp only [zrm]; omega)) (fun _ _ h => z_xno h) (fun r w2 hq => ?_)
  obtain ⟨rfl, g1, g2⟩ := hq
  have en2 := (g2 (100 + n) (by omega) (by omega) (by omega)).trans en
  have hle : (ts.erase n).length ≤ 29 := by rw [List.length_erase_of_mem hn]; omega
  have hX2 := hH.turn g1 g2 (fun m hm => am m (List.mem_of_mem_erase hm)) (Nat.le_trans List.length_erase_le al) (an.erase n)
  have h02 := hX2.1
  refine z_aload_n C dX2_move_21 rfl ?_
  refine z_iload_n C dX2_move_22 rfl ?_
  refine z_putf C (fs1 := [_, _, _, _, _, _, _, _, _, _]) zp_X2_106 dX2_move_23 (by first | assumption | exact zk_eq | exact zk_ne (by first | assumption | exact zk_eq | exact zk_ne (by first | assumption | exact zk_eq | exact zk_ne (by first | assumption | exact zk_eq | exact zk_ne (by first | assumption | exact zk_eq | exact zk_ne (by first | assumption | exact zk_eq) (by first | decide | omega)) (by first | decide | omega)) (by first | decide | omega)) (by first | decide | omega)) (by first | decide | omega)) (by first | rfl | exact zb_nar _ | assumption) (by first | rfl | exact zb_fit _ | assumption) (by exact Nat.le_of_ble_eq_true rfl) (by rfl) ?_
  refine z_aload_n C dX2_move_26 rfl ?_
  refine z_aload_n C dX2_move_27 rfl ?_
  have hok : zWok n (va_up (wk n) 1 y) := ⟨nI_below c3 c4 (by decide), (am n hn).2.2⟩
  have hX3 := hX2.wrk (w1 := va_up w2 (100 + n) (some (zWa ad n, zWc (va_up (wk n) 1 y)))) (n := n) (r1 := va_up (wk n) 1 y) zk_eq (fun j hj => va_up_ne _ _ hj) hok
  have ct := c_putAtBottom hl hX3 (n := n) (List.Nodup.not_mem_erase an) (by rw [va_up_self, va_up_self]) (by rw [va_up_self]; exact hok) hle
  refine z_callV C zm_X2_putAtBottom zl_X2_83 ct dX2_move_28 (by first | assumption | exact zk_eq | exact zk_ne (by first | assumption | exact zk_eq | exact zk_ne (by first | assumption | exact zk_eq | exact zk_ne (by first | assumption | exact zk_eq | exact zk_ne (by first | assumption | exact zk_eq | exact zk_ne (by first | assumption | exact zk_eq) (by first | decide | omega)) (by first | decide | omega)) (by first | decide | omega)) (by first | decide | omega)) (by first | decide | omega)) (by rfl) (by rfl) (by rfl) (by exact Nat.le_of_ble_eq_true rfl) rfl (by exact ⟨Nat.le_of_ble_eq_true rfl, Nat.le_of_ble_eq_true rfl⟩) (by first | exact ⟨Nat.le_of_ble_eq_true rfl, Nat.le_of_ble_eq_true rfl⟩ | (simp only [zrm]; omega)) (fun _ _ h => z_xno h) (fun r w3 hq => ?_)
  obtain ⟨rfl, g3, g4⟩ := hq
  refine z_iload C dX2_move_31 rfl ?_
  refine z_iret C hret dX2_move_33 (by first | exact Nat.le_of_ble_eq_true rfl | omega) (by first | exact Nat.le_of_ble_eq_true rfl | omega) ?_
  refine ZO.fin (by simp only [hMove, hf, if_neg q2]; rfl) ⟨ad, tb, tk, W, P, rfl, g3, m7, hm7, hm8, fun k hk => ?_⟩ (fun j j1 j2 => (g4 j (by omega) (by omega) (by omega)).trans ((va_up_ne _ _ (by omega)).trans (g2 j (by omega) (by omega) (by omega))))
  rcases List.mem_cons.mp ((pab_perm _).mem_iff.mp hk) with rfl | h9
  · exact hlt _ hn
  · exact hlt k (List.mem_of_mem_erase h9)
theorem o_setAway (hl : l.stackTraces = false) (h : HH z a0 nn w S) (x : Int32) (v : Bool) (hb : ∀ n ∈ S.1, narrow .boolean (.int (S.2.1 n 3)) = .int (S.2.1 n 3)) : ZO l z mX2_setAway a0 nn nn [.int x, .int (zb v)] w S (hSet S x 3 (zb v)) := by
  have hHH := h
  obtain ⟨ts, wk, hi, co, gu, nd⟩ := S
  obtain ⟨ad, tb, tk, W, P, rfl, h, m7, hm7, hm8, hlt⟩ := h
  dsimp only at h hm8 hlt
  have hH := h
  obtain ⟨b0, b1, b3, b5, bM, b10, b11, b12, am, al, an, hc8⟩ := h
  refine zbody (M := mX2_setAway) (L0 := [_, _, _, _, _]) hl (by simp [Value.category]) (Nat.le_of_ble_eq_true rfl) (by decide +kernel) rfl ?_
  intro p e s m args below meth c C hX hnm hret
  replace C : zC z p l s m args meth c cX2_setAway RX2 5 := C
  replace hret : meth.sig.returnType = (some .boolean) := hret
  refine z_aload_n C dX2_setAway_0 rfl ?_
  refine z_iload_n C dX2_setAway_1 rfl ?_
  refine z_callV C zm_X2_find zl_X2_90 (c_find hl hH x) dX2_setAway_2 (by first | assumption | exact zk_eq | exact zk_ne (by first | assumption | exact zk_eq | exact zk_ne (by first | assumption | exact zk_eq | exact zk_ne (by first | assumption | exact zk_eq | exact zk_ne (by first | assumption | exact zk_eq | exact zk_ne (by first | assumption | exact zk_eq) (by first | decide | omega)) (by first | decide | omega)) (by first | decide | omega)) (by first | decide | omega)) (by first | decide | omega)) (by rfl) (by rfl) (by rfl) (by exact Nat.le_of_ble_eq_true rfl) rfl (by exact ⟨Nat.le_of_ble_eq_true rfl, Nat.le_of_ble_eq_true rfl⟩) (by first | exact ⟨Nat.le_of_ble_eq_true rfl, Nat.le_of_ble_eq_true rfl⟩ | (simp only [zrm]; omega)) (fun E w1 h => z_xout C hX (by obtain ⟨rfl, q, rfl⟩ := h; exact ⟨by simp only [hSet, q], hHH, zFh.refl _⟩) (by first | exact Nat.le_of_ble_eq_true rfl | omega) (by first | exact Nat.le_of_ble_eq_true rfl | omega)) (fun r w1 hq => ?_)
  obtain ⟨n, hn, -, hf, rfl, rfl⟩ := hq
  have en := (am n hn).1
  have hbn : narrow .boolean (.int (wk n 3)) = .int (wk n 3) := hb n hn
  refine z_astore_n C (L1 := [_, _, _, _, _]) dX2_setAway_5 (Nat.le_of_ble_eq_true rfl) rfl ?_
  refine z_aload_n C dX2_setAway_6 rfl ?_
  refine z_getf C zf_X2_109 dX2_setAway_7 (by first | assumption | exact zk_eq | exact zk_ne (by first | assumption | exact zk_eq | exact zk_ne (by first | assumption | exact zk_eq | exact zk_ne (by first | assumption | exact zk_eq | exact zk_ne (by first | assumption | exact zk_eq | exact zk_ne (by first | assumption | exact zk_eq) (by first | decide | omega)) (by first | decide | omega)) (by first | decide | omega)) (by first | decide | omega)) (by first | decide | omega)) (by rfl) ?_
  refine z_istore C (L1 := [_, _, _, _, _]) dX2_setAway_10 (Nat.le_of_ble_eq_true rfl) rfl ?_
  refine z_aload_n C dX2_setAway_12 rfl ?_
  refine z_iload_n C dX2_setAway_13 rfl ?_
  refine z_putf C (fs1 := [_, _, _, _, _, _, _, _, _, _]) zp_X2_109 dX2_setAway_14 (by first | assumption | exact zk_eq | exact zk_ne (by first | assumption | exact zk_eq | exact zk_ne (by first | assumption | exact zk_eq | exact zk_ne (by first | assumption | exact zk_eq | exact zk_ne (by first | assumption | exact zk_eq | exact zk_ne (by first | assumption | exact zk_eq) (by first | decide | omega)) (by first | decide | omega)) (by first | decide | omega)) (by first | decide | omega)) (by first | decide | omega)) (by first | rfl | exact zb_nar _ | assumption) (by first | rfl | exact zb_fit _ | assumption) (by exact Nat.le_of_ble_eq_true rfl) (by rfl) ?_
  refine z_iload C dX2_setAway_17 rfl ?_
  refine z_zret C hret dX2_setAway_19 (by first | rfl | exact zb_nar _ | assumption) (by first | exact Nat.le_of_ble_eq_true rfl | omega) (by first | exact Nat.le_of_ble_eq_true rfl | omega) ?_
  exact ZO.fin (S1 := (ts, va_up wk n (va_up (wk n) 3 (zb v)), hi, co, gu, nd)) (by simp only [hSet, hf]) ⟨ad, tb, tk, W, P, rfl, hH.wrk (r1 := va_up (wk n) 3 (zb v)) zk_eq (fun j hj => va_up_ne _ _ hj) (am n hn).2, m7, hm7, hm8, hlt⟩ (fun j j1 j2 => va_up_ne _ _ (by omega))
theorem o_setRefusing (hl : l.stackTraces = false) (h : HH z a0 nn w S) (x : Int32) (v : Bool) (hb : ∀ n ∈ S.1, narrow .boolean (.int (S.2.1 n 4)) = .int (S.2.1 n 4)) : ZO l z mX2_setRefusing a0 nn nn [.int x, .int (zb v)] w S (hSet S x 4 (zb v)) := by
  have hHH := h
  obtain ⟨ts, wk, hi, co, gu, nd⟩ := S
  obtain ⟨ad, tb, tk, W, P, rfl, h, m7, hm7, hm8, hlt⟩ := h
  dsimp only at h hm8 hlt
  have hH := h
  obtain ⟨b0, b1, b3, b5, bM, b10, b11, b12, am, al, an, hc8⟩ := h
  refine zbody (M := mX2_setRefusing) (L0 := [_, _, _, _, _]) hl (by simp [Value.category]) (Nat.le_of_ble_eq_true rfl) (by decide +kernel) rfl ?_
  intro p e s m args below meth c C hX hnm hret
  replace C : zC z p l s m args meth c cX2_setRefusing RX2 5 := C
  replace hret : meth.sig.returnType = (some .boolean) := hret
  refine z_aload_n C dX2_setRefusing_0 rfl ?_
  refine z_iload_n C dX2_setRefusing_1 rfl ?_
  refine z_callV C zm_X2_find zl_X2_90 (c_find hl hH x) dX2_setRefusing_2 (by first | assumption | exact zk_eq | exact zk_ne (by first | assumption | exact zk_eq | exact zk_ne (by first | assumption | exact zk_eq | exact zk_ne (by first | assumption | exact zk_eq | exact zk_ne (by first | assumption | exact zk_eq | exact zk_ne (by first | assumption | exact zk_eq) (by first | decide | omega)) (by first | decide | omega)) (by first | decide | omega)) (by first | decide | omega)) (by first | decide | omega)) (by rfl) (by rfl) (by rfl) (by exact Nat.le_of_ble_eq_true rfl) rfl (by exact ⟨Nat.le_of_ble_eq_true rfl, Nat.le_of_ble_eq_true rfl⟩) (by first | exact ⟨Nat.le_of_ble_eq_true rfl, Nat.le_of_ble_eq_true rfl⟩ | (simp only [zrm]; omega)) (fun E w1 h => z_xout C hX (by obtain ⟨rfl, q, rfl⟩ := h; exact ⟨by simp only [hSet, q], hHH, zFh.refl _⟩) (by first | exact Nat.le_of_ble_eq_true rfl | omega) (by first | exact Nat.le_of_ble_eq_true rfl | omega)) (fun r w1 hq => ?_)
  obtain ⟨n, hn, -, hf, rfl, rfl⟩ := hq
  have en := (am n hn).1
  have hbn : narrow .boolean (.int (wk n 4)) = .int (wk n 4) := hb n hn
  refine z_astore_n C (L1 := [_, _, _, _, _]) dX2_setRefusing_5 (Nat.le_of_ble_eq_true rfl) rfl ?_
  refine z_aload_n C dX2_setRefusing_6 rfl ?_
  refine z_getf C zf_X2_112 dX2_setRefusing_7 (by first | assumption | exact zk_eq | exact zk_ne (by first | assumption | exact zk_eq | exact zk_ne (by first | assumption | exact zk_eq | exact zk_ne (by first | assumption | exact zk_eq | exact zk_ne (by first | assumption | exact zk_eq | exact zk_ne (by first | assumption | exact zk_eq) (by first | decide | omega)) (by first | decide | omega)) (by first | decide | omega)) (by first | decide | omega)) (by first | decide | omega)) (by rfl) ?_
  refine z_istore C (L1 := [_, _, _, _, _]) dX2_setRefusing_10 (Nat.le_of_ble_eq_true rfl) rfl ?_
  refine z_aload_n C dX2_setRefusing_12 rfl ?_
  refine z_iload_n C dX2_setRefusing_13 rfl ?_
  refine z_putf C (fs1 := [_, _, _, _, _, _, _, _, _, _]) zp_X2_112 dX2_setRefusing_14 (by first | assumption | exact zk_eq | exact zk_ne (by first | assumption | exact zk_eq | exact zk_ne (by first | assumption | exact zk_eq | exact zk_ne (by first | assumption | exact zk_eq | exact zk_ne (by first | assumption | exact zk_eq | exact zk_ne (by first | assumption | exact zk_eq) (by first | decide | omega)) (by first | decide | omega)) (by first | decide | omega)) (by first | decide | omega)) (by first | decide | omega)) (by first | rfl | exact zb_nar _ | assumption) (by first | rfl | exact zb_fit _ | assumption) (by exact Nat.le_of_ble_eq_true rfl) (by rfl) ?_
  refine z_iload C dX2_setRefusing_17 rfl ?_
  refine z_zret C hret dX2_setRefusing_19 (by first | rfl | exact zb_nar _ | assumption) (by first | exact Nat.le_of_ble_eq_true rfl | omega) (by first | exact Nat.le_of_ble_eq_true rfl | omega) ?_
  exact ZO.fin (S1 := (ts, va_up wk n (va_up (wk n) 4 (zb v)), hi, co, gu, nd)) (by simp only [hSet, hf]) ⟨ad, tb, tk, W, P, rfl, hH.wrk (r1 := va_up (wk n) 4 (zb v)) zk_eq (fun j hj => va_up_ne _ _ hj) (am n hn).2, m7, hm7, hm8, hlt⟩ (fun j j1 j2 => va_up_ne _ _ (by omega))
theorem o_boardOf (hl : l.stackTraces = false) (h : HH z a0 nn w S) (x : Int32) : ZO l z mX2_boardOf a0 nn nn [.int x] w S (hGet S x (fun r => r 1)) := by
  have hHH := h
  obtain ⟨ts, wk, hi, co, gu, nd⟩ := S
  obtain ⟨ad, tb, tk, W, P, rfl, h, m7, hm7, hm8, hlt⟩ := h
  dsimp only at h hm8 hlt
  have hH := h
  obtain ⟨b0, b1, b3, b5, bM, b10, b11, b12, am, al, an, hc8⟩ := h
  refine zbody (M := mX2_boardOf) (L0 := [_, _]) hl (by simp [Value.category]) (Nat.le_of_ble_eq_true rfl) (by decide +kernel) rfl ?_
  intro p e s m args below meth c C hX hnm hret
  replace C : zC z p l s m args meth c cX2_boardOf RX2 2 := C
  replace hret : meth.sig.returnType = (some .int) := hret
  refine z_aload_n C dX2_boardOf_0 rfl ?_
  refine z_iload_n C dX2_boardOf_1 rfl ?_
  refine z_callV C zm_X2_find zl_X2_90 (c_find hl hH x) dX2_boardOf_2 (by first | assumption | exact zk_eq | exact zk_ne (by first | assumption | exact zk_eq | exact zk_ne (by first | assumption | exact zk_eq | exact zk_ne (by first | assumption | exact zk_eq | exact zk_ne (by first | assumption | exact zk_eq | exact zk_ne (by first | assumption | exact zk_eq) (by first | decide | omega)) (by first | decide | omega)) (by first | decide | omega)) (by first | decide | omega)) (by first | decide | omega)) (by rfl) (by rfl) (by rfl) (by exact Nat.le_of_ble_eq_true rfl) rfl (by exact ⟨Nat.le_of_ble_eq_true rfl, Nat.le_of_ble_eq_true rfl⟩) (by first | exact ⟨Nat.le_of_ble_eq_true rfl, Nat.le_of_ble_eq_true rfl⟩ | (simp only [zrm]; omega)) (fun E w1 h => z_xout C hX (by obtain ⟨rfl, q, rfl⟩ := h; exact ⟨by simp only [hGet, q], hHH, zFh.refl _⟩) (by first | exact Nat.le_of_ble_eq_true rfl | omega) (by first | exact Nat.le_of_ble_eq_true rfl | omega)) (fun r w1 hq => ?_)
  obtain ⟨n, hn, -, hf, rfl, rfl⟩ := hq
  have en := (am n hn).1
  refine z_getf C zf_X2_106 dX2_boardOf_5 (by first | assumption | exact zk_eq | exact zk_ne (by first | assumption | exact zk_eq | exact zk_ne (by first | assumption | exact zk_eq | exact zk_ne (by first | assumption | exact zk_eq | exact zk_ne (by first | assumption | exact zk_eq | exact zk_ne (by first | assumption | exact zk_eq) (by first | decide | omega)) (by first | decide | omega)) (by first | decide | omega)) (by first | decide | omega)) (by first | decide | omega)) (by rfl) ?_
  refine z_iret C hret dX2_boardOf_8 (by first | exact Nat.le_of_ble_eq_true rfl | omega) (by first | exact Nat.le_of_ble_eq_true rfl | omega) ?_
  exact ZO.fin (by simp only [hGet, hf]) hHH (zFh.refl _)
theorem o_hoursOf (hl : l.stackTraces = false) (h : HH z a0 nn w S) (x : Int32) : ZO l z mX2_hoursOf a0 nn nn [.int x] w S (hGet S x (fun r => r 5)) := by
  have hHH := h
  obtain ⟨ts, wk, hi, co, gu, nd⟩ := S
  obtain ⟨ad, tb, tk, W, P, rfl, h, m7, hm7, hm8, hlt⟩ := h
  dsimp only at h hm8 hlt
  have hH := h
  obtain ⟨b0, b1, b3, b5, bM, b10, b11, b12, am, al, an, hc8⟩ := h
  refine zbody (M := mX2_hoursOf) (L0 := [_, _]) hl (by simp [Value.category]) (Nat.le_of_ble_eq_true rfl) (by decide +kernel) rfl ?_
  intro p e s m args below meth c C hX hnm hret
  replace C : zC z p l s m args meth c cX2_hoursOf RX2 2 := C
  replace hret : meth.sig.returnType = (some .int) := hret
  refine z_aload_n C dX2_hoursOf_0 rfl ?_
  refine z_iload_n C dX2_hoursOf_1 rfl ?_
  refine z_callV C zm_X2_find zl_X2_90 (c_find hl hH x) dX2_hoursOf_2 (by first | assumption | exact zk_eq | exact zk_ne (by first | assumption | exact zk_eq | exact zk_ne (by first | assumption | exact zk_eq | exact zk_ne (by first | assumption | exact zk_eq | exact zk_ne (by first | assumption | exact zk_eq | exact zk_ne (by first | assumption | exact zk_eq) (by first | decide | omega)) (by first | decide | omega)) (by first | decide | omega)) (by first | decide | omega)) (by first | decide | omega)) (by rfl) (by rfl) (by rfl) (by exact Nat.le_of_ble_eq_true rfl) rfl (by exact ⟨Nat.le_of_ble_eq_true rfl, Nat.le_of_ble_eq_true rfl⟩) (by first | exact ⟨Nat.le_of_ble_eq_true rfl, Nat.le_of_ble_eq_true rfl⟩ | (simp only [zrm]; omega)) (fun E w1 h => z_xout C hX (by obtain ⟨rfl, q, rfl⟩ := h; exact ⟨by simp only [hGet, q], hHH, zFh.refl _⟩) (by first | exact Nat.le_of_ble_eq_true rfl | omega) (by first | exact Nat.le_of_ble_eq_true rfl | omega)) (fun r w1 hq => ?_)
  obtain ⟨n, hn, -, hf, rfl, rfl⟩ := hq
  have en := (am n hn).1
  refine z_getf C zf_X2_100 dX2_hoursOf_5 (by first | assumption | exact zk_eq | exact zk_ne (by first | assumption | exact zk_eq | exact zk_ne (by first | assumption | exact zk_eq | exact zk_ne (by first | assumption | exact zk_eq | exact zk_ne (by first | assumption | exact zk_eq | exact zk_ne (by first | assumption | exact zk_eq) (by first | decide | omega)) (by first | decide | omega)) (by first | decide | omega)) (by first | decide | omega)) (by first | decide | omega)) (by rfl) ?_
  refine z_iret C hret dX2_hoursOf_8 (by first | exact Nat.le_of_ble_eq_true rfl | omega) (by first | exact Nat.le_of_ble_eq_true rfl | omega) ?_
  exact ZO.fin (by simp only [hGet, hf]) hHH (zFh.refl _)
theorem o_refusalsOf (hl : l.stackTraces = false) (h : HH z a0 nn w S) (x : Int32) : ZO l z mX2_refusalsOf a0 nn nn [.int x] w S (hGet S x (fun r => r 6)) := by
  have hHH := h
  obtain ⟨ts, wk, hi, co, gu, nd⟩ := S
  obtain ⟨ad, tb, tk, W, P, rfl, h, m7, hm7, hm8, hlt⟩ := h
  dsimp only at h hm8 hlt
  have hH := h
  obtain ⟨b0, b1, b3, b5, bM, b10, b11, b12, am, al, an, hc8⟩ := h
  refine zbody (M := mX2_refusalsOf) (L0 := [_, _]) hl (by simp [Value.category]) (Nat.le_of_ble_eq_true rfl) (by decide +kernel) rfl ?_
  intro p e s m args below meth c C hX hnm hret
  replace C : zC z p l s m args meth c cX2_refusalsOf RX2 2 := C
  replace hret : meth.sig.returnType = (some .int) := hret
  refine z_aload_n C dX2_refusalsOf_0 rfl ?_
  refine z_iload_n C dX2_refusalsOf_1 rfl ?_
  refine z_callV C zm_X2_find zl_X2_90 (c_find hl hH x) dX2_refusalsOf_2 (by first | assumption | exact zk_eq | exact zk_ne (by first | assumption | exact zk_eq | exact zk_ne (by first | assumption | exact zk_eq | exact zk_ne (by first | assumption | exact zk_eq | exact zk_ne (by first | assumption | exact zk_eq | exact zk_ne (by first | assumption | exact zk_eq) (by first | decide | omega)) (by first | decide | omega)) (by first | decide | omega)) (by first | decide | omega)) (by first | decide | omega)) (by rfl) (by rfl) (by rfl) (by exact Nat.le_of_ble_eq_true rfl) rfl (by exact ⟨Nat.le_of_ble_eq_true rfl, Nat.le_of_ble_eq_true rfl⟩) (by first | exact ⟨Nat.le_of_ble_eq_true rfl, Nat.le_of_ble_eq_true rfl⟩ | (simp only [zrm]; omega)) (fun E w1 h => z_xout C hX (by obtain ⟨rfl, q, rfl⟩ := h; exact ⟨by simp only [hGet, q], hHH, zFh.refl _⟩) (by first | exact Nat.le_of_ble_eq_true rfl | omega) (by first | exact Nat.le_of_ble_eq_true rfl | omega)) (fun r w1 hq => ?_)
  obtain ⟨n, hn, -, hf, rfl, rfl⟩ := hq
  have en := (am n hn).1
  refine z_getf C zf_X2_198 dX2_refusalsOf_5 (by first | assumption | exact zk_eq | exact zk_ne (by first | assumption | exact zk_eq | exact zk_ne (by first | assumption | exact zk_eq | exact zk_ne (by first | assumption | exact zk_eq | exact zk_ne (by first | assumption | exact zk_eq | exact zk_ne (by first | assumption | exact zk_eq) (by first | decide | omega)) (by first | decide | omega)) (by first | decide | omega)) (by first | decide | omega)) (by first | decide | omega)) (by rfl) ?_
  refine z_iret C hret dX2_refusalsOf_8 (by first | exact Nat.le_of_ble_eq_true rfl | omega) (by first | exact Nat.le_of_ble_eq_true rfl | omega) ?_
  exact ZO.fin (by simp only [hGet, hf]) hHH (zFh.refl _)
theorem o_placeOf (hl : l.stackTraces = false) (h : HH z a0 nn w S) (x : Int32) : ZO l z mX2_placeOf a0 nn nn [.int x] w S (hGet S x (fun r => r 7)) := by
  have hHH := h
  obtain ⟨ts, wk, hi, co, gu, nd⟩ := S
  obtain ⟨ad, tb, tk, W, P, rfl, h, m7, hm7, hm8, hlt⟩ := h
  dsimp only at h hm8 hlt
  have hH := h
  obtain ⟨b0, b1, b3, b5, bM, b10, b11, b12, am, al, an, hc8⟩ := h
  refine zbody (M := mX2_placeOf) (L0 := [_, _]) hl (by simp [Value.category]) (Nat.le_of_ble_eq_true rfl) (by decide +kernel) rfl ?_
  intro p e s m args below meth c C hX hnm hret
  replace C : zC z p l s m args meth c cX2_placeOf RX2 2 := C
  replace hret : meth.sig.returnType = (some .int) := hret
  refine z_aload_n C dX2_placeOf_0 rfl ?_
  refine z_iload_n C dX2_placeOf_1 rfl ?_
  refine z_callV C zm_X2_find zl_X2_90 (c_find hl hH x) dX2_placeOf_2 (by first | assumption | exact zk_eq | exact zk_ne (by first | assumption | exact zk_eq | exact zk_ne (by first | assumption | exact zk_eq | exact zk_ne (by first | assumption | exact zk_eq | exact zk_ne (by first | assumption | exact zk_eq | exact zk_ne (by first | assumption | exact zk_eq) (by first | decide | omega)) (by first | decide | omega)) (by first | decide | omega)) (by first | decide | omega)) (by first | decide | omega)) (by rfl) (by rfl) (by rfl) (by exact Nat.le_of_ble_eq_true rfl) rfl (by exact ⟨Nat.le_of_ble_eq_true rfl, Nat.le_of_ble_eq_true rfl⟩) (by first | exact ⟨Nat.le_of_ble_eq_true rfl, Nat.le_of_ble_eq_true rfl⟩ | (simp only [zrm]; omega)) (fun E w1 h => z_xout C hX (by obtain ⟨rfl, q, rfl⟩ := h; exact ⟨by simp only [hGet, q], hHH, zFh.refl _⟩) (by first | exact Nat.le_of_ble_eq_true rfl | omega) (by first | exact Nat.le_of_ble_eq_true rfl | omega)) (fun r w1 hq => ?_)
  obtain ⟨n, hn, -, hf, rfl, rfl⟩ := hq
  have en := (am n hn).1
  refine z_getf C zf_X2_162 dX2_placeOf_5 (by first | assumption | exact zk_eq | exact zk_ne (by first | assumption | exact zk_eq | exact zk_ne (by first | assumption | exact zk_eq | exact zk_ne (by first | assumption | exact zk_eq | exact zk_ne (by first | assumption | exact zk_eq | exact zk_ne (by first | assumption | exact zk_eq) (by first | decide | omega)) (by first | decide | omega)) (by first | decide | omega)) (by first | decide | omega)) (by first | decide | omega)) (by rfl) ?_
  refine z_iret C hret dX2_placeOf_8 (by first | exact Nat.le_of_ble_eq_true rfl | omega) (by first | exact Nat.le_of_ble_eq_true rfl | omega) ?_
  exact ZO.fin (by simp only [hGet, hf]) hHH (zFh.refl _)
theorem o_owedTo (hl : l.stackTraces = false) (h : HH z a0 nn w S) (x : Int32) : ZO l z mX2_owedTo a0 nn nn [.int x] w S (hGet S x (owe S.2.2.2.2.1)) := by
  have hHH := h
  obtain ⟨ts, wk, hi, co, gu, nd⟩ := S
  obtain ⟨ad, tb, tk, W, P, rfl, h, m7, hm7, hm8, hlt⟩ := h
  dsimp only at h hm8 hlt
  have hH := h
  obtain ⟨b0, b1, b3, b5, bM, b10, b11, b12, am, al, an, hc8⟩ := h
  refine zbody (M := mX2_owedTo) (L0 := [_, _]) hl (by simp [Value.category]) (Nat.le_of_ble_eq_true rfl) (by decide +kernel) rfl ?_
  intro p e s m args below meth c C hX hnm hret
  replace C : zC z p l s m args meth c cX2_owedTo RX2 2 := C
  replace hret : meth.sig.returnType = (some .int) := hret
  refine z_aload_n C dX2_owedTo_0 rfl ?_
  refine z_aload_n C dX2_owedTo_1 rfl ?_
  refine z_iload_n C dX2_owedTo_2 rfl ?_
  refine z_callV C zm_X2_find zl_X2_90 (c_find hl hH x) dX2_owedTo_3 (by first | assumption | exact zk_eq | exact zk_ne (by first | assumption | exact zk_eq | exact zk_ne (by first | assumption | exact zk_eq | exact zk_ne (by first | assumption | exact zk_eq | exact zk_ne (by first | assumption | exact zk_eq | exact zk_ne (by first | assumption | exact zk_eq) (by first | decide | omega)) (by first | decide | omega)) (by first | decide | omega)) (by first | decide | omega)) (by first | decide | omega)) (by rfl) (by rfl) (by rfl) (by exact Nat.le_of_ble_eq_true rfl) rfl (by exact ⟨Nat.le_of_ble_eq_true rfl, Nat.le_of_ble_eq_true rfl⟩) (by first | exact ⟨Nat.le_of_ble_eq_true rfl, Nat.le_of_ble_eq_true rfl⟩ | (simp only [zrm]; omega)) (fun E w1 h => z_xout C hX (by obtain ⟨rfl, q, rfl⟩ := h; exact ⟨by simp only [hGet, q], hHH, zFh.refl _⟩) (by first | exact Nat.le_of_ble_eq_true rfl | omega) (by first | exact Nat.le_of_ble_eq_true rfl | omega)) (fun r w1 hq => ?_)
  obtain ⟨n, hn, -, hf, rfl, rfl⟩ := hq
  refine z_callV C zm_X2_hoursOwed zl_X2_194 (c_hoursOwed hl hH hn) dX2_owedTo_6 (by first | assumption | exact zk_eq | exact zk_ne (by first | assumption | exact zk_eq | exact zk_ne (by first | assumption | exact zk_eq | exact zk_ne (by first | assumption | exact zk_eq | exact zk_ne (by first | assumption | exact zk_eq | exact zk_ne (by first | assumption | exact zk_eq) (by first | decide | omega)) (by first | decide | omega)) (by first | decide | omega)) (by first | decide | omega)) (by first | decide | omega)) (by rfl) (by rfl) (by rfl) (by exact Nat.le_of_ble_eq_true rfl) rfl (by exact ⟨Nat.le_of_ble_eq_true rfl, Nat.le_of_ble_eq_true rfl⟩) (by first | exact ⟨Nat.le_of_ble_eq_true rfl, Nat.le_of_ble_eq_true rfl⟩ | (simp only [zrm]; omega)) (fun _ _ h => z_xno h) (fun r w1 hq => ?_)
  obtain ⟨rfl, rfl⟩ := hq
  refine z_iret C hret dX2_owedTo_9 (by first | exact Nat.le_of_ble_eq_true rfl | omega) (by first | exact Nat.le_of_ble_eq_true rfl | omega) ?_
  exact ZO.fin (by simp only [hGet, hf]) hHH (zFh.refl _)
theorem o_setRule (hl : l.stackTraces = false) (h : HH z a0 nn w S) (x : Int32) (v : Bool) (g : Int32) : ZO l z mX2_setRule a0 nn nn [.int x, .int (zb v), .int g] w S (hSetRule S x (zb v) g) := by
  have hHH := h
  obtain ⟨ts, wk, hi, co, gu, nd⟩ := S
  obtain ⟨ad, tb, tk, W, P, rfl, h, m7, hm7, hm8, hlt⟩ := h
  dsimp only at h hm8 hlt
  have hH := h
  obtain ⟨b0, b1, b3, b5, bM, b10, b11, b12, am, al, an, hc8⟩ := h
  refine zbody (M := mX2_setRule) (L0 := [_, _, _, _, _]) hl (by simp [Value.category]) (Nat.le_of_ble_eq_true rfl) (by decide +kernel) rfl ?_
  intro p e s m args below meth c C hX hnm hret
  replace C : zC z p l s m args meth c cX2_setRule RX2 5 := C
  replace hret : meth.sig.returnType = (some .int) := hret
  refine z_iload_n C dX2_setRule_0 rfl ?_
  refine z_callS C zm_X2_checkBoard zl_X2_60 (c_checkBoard hl x) dX2_setRule_1 (by rfl) (by rfl) (by exact Nat.le_of_ble_eq_true rfl) rfl (by exact ⟨Nat.le_of_ble_eq_true rfl, Nat.le_of_ble_eq_true rfl⟩) (by first | exact ⟨Nat.le_of_ble_eq_true rfl, Nat.le_of_ble_eq_true rfl⟩ | (simp only [zrm]; omega)) (fun E w1 h => z_xout C hX (by obtain ⟨rfl, q, rfl⟩ := h; exact ⟨by simp only [hSetRule, if_pos q], hHH, zFh.refl _⟩) (by first | exact Nat.le_of_ble_eq_true rfl | omega) (by first | exact Nat.le_of_ble_eq_true rfl | omega)) (fun r w1 hq => ?_)
  obtain ⟨c1, c2, rfl, rfl⟩ := hq
  have q1 : ¬ (x < 0 ∨ ¬ x < 4) := fun h => h.elim c1 (fun h => h c2)
  obtain ⟨j, hj, rfl⟩ := nI_below (k := 4) c1 c2 (by decide)
  have hjc : (nI j).toNatClampNeg = j := nI_clamp (by omega)
  refine z_iload_n C dX2_setRule_4 rfl ?_
  refine z_if_lt C 15 dX2_setRule_5 (by decide) (fun c3 => ?_) (fun c3 => ?_)
  · refine z_throw C zt_117_115 hX dX2_setRule_15 dX2_setRule_18 dX2_setRule_19 dX2_setRule_21 dX2_setRule_24 rfl (by exact Nat.le_of_ble_eq_true rfl) (by exact Nat.le_of_ble_eq_true rfl) (by first | exact Nat.le_of_ble_eq_true rfl | (simp only [zrm]; omega)) (by first | exact Nat.le_of_ble_eq_true rfl | (simp only [zrm]; omega)) (by first | exact Nat.le_of_ble_eq_true rfl | omega) (by first | exact Nat.le_of_ble_eq_true rfl | omega) ?_
    exact ⟨by simp only [hSetRule, if_neg q1, if_pos (show g < 0 ∨ 400 < g from Or.inl c3)], hHH, zFh.refl _⟩
  refine z_iload_n C dX2_setRule_8 rfl ?_
  refine z_sipush C (400) dX2_setRule_9 (by decide) ?_
  refine z_icmp_le C 25 dX2_setRule_12 (by decide) (fun c4 => ?_) (fun c4 => ?_)
  · have q2 : ¬ (g < 0 ∨ 400 < g) := fun h => h.elim c3 (fun h => absurd c4 (Int32.not_le.mpr h))
    refine z_aload_n C dX2_setRule_25 rfl ?_
    refine z_getf C zf_X2_33 dX2_setRule_26 (by first | assumption | exact zk_eq | exact zk_ne (by first | assumption | exact zk_eq | exact zk_ne (by first | assumption | exact zk_eq | exact zk_ne (by first | assumption | exact zk_eq | exact zk_ne (by first | assumption | exact zk_eq | exact zk_ne (by first | assumption | exact zk_eq) (by first | decide | omega)) (by first | decide | omega)) (by first | decide | omega)) (by first | decide | omega)) (by first | decide | omega)) (by rfl) ?_
    refine z_iload_n C dX2_setRule_29 rfl ?_
    refine z_iald C dX2_setRule_30 (by first | assumption | exact zk_eq | exact zk_ne (by first | assumption | exact zk_eq | exact zk_ne (by first | assumption | exact zk_eq | exact zk_ne (by first | assumption | exact zk_eq | exact zk_ne (by first | assumption | exact zk_eq | exact zk_ne (by first | assumption | exact zk_eq) (by first | decide | omega)) (by first | decide | omega)) (by first | decide | omega)) (by first | decide | omega)) (by first | decide | omega)) (by first | rfl | assumption) (by first | assumption | omega | decide) (by first | decide | omega) ?_
    refine z_istore C (L1 := [_, _, _, _, _]) dX2_setRule_31 (Nat.le_of_ble_eq_true rfl) rfl ?_
    refine z_aload_n C dX2_setRule_33 rfl ?_
    refine z_getf C zf_X2_29 dX2_setRule_34 (by first | assumption | exact zk_eq | exact zk_ne (by first | assumption | exact zk_eq | exact zk_ne (by first | assumption | exact zk_eq | exact zk_ne (by first | assumption | exact zk_eq | exact zk_ne (by first | assumption | exact zk_eq | exact zk_ne (by first | assumption | exact zk_eq) (by first | decide | omega)) (by first | decide | omega)) (by first | decide | omega)) (by first | decide | omega)) (by first | decide | omega)) (by rfl) ?_
    refine z_iload_n C dX2_setRule_37 rfl ?_
    refine z_iload_n C dX2_setRule_38 rfl ?_
    refine z_zast C dX2_setRule_39 (by first | assumption | exact zk_eq | exact zk_ne (by first | assumption | exact zk_eq | exact zk_ne (by first | assumption | exact zk_eq | exact zk_ne (by first | assumption | exact zk_eq | exact zk_ne (by first | assumption | exact zk_eq | exact zk_ne (by first | assumption | exact zk_eq) (by first | decide | omega)) (by first | decide | omega)) (by first | decide | omega)) (by first | decide | omega)) (by first | decide | omega)) (by first | rfl | assumption) (by first | assumption | omega | decide) (by first | decide | omega) (by first | rfl | exact zb_vp _ | assumption) ?_
    refine z_aload_n C dX2_setRule_40 rfl ?_
    refine z_getf C zf_X2_33 dX2_setRule_41 (by first | assumption | exact zk_eq | exact zk_ne (by first | assumption | exact zk_eq | exact zk_ne (by first | assumption | exact zk_eq | exact zk_ne (by first | assumption | exact zk_eq | exact zk_ne (by first | assumption | exact zk_eq | exact zk_ne (by first | assumption | exact zk_eq) (by first | decide | omega)) (by first | decide | omega)) (by first | decide | omega)) (by first | decide | omega)) (by first | decide | omega)) (by rfl) ?_
    refine z_iload_n C dX2_setRule_44 rfl ?_
    refine z_iload_n C dX2_setRule_45 rfl ?_
    refine z_iast C dX2_setRule_46 (by first | assumption | exact zk_eq | exact zk_ne (by first | assumption | exact zk_eq | exact zk_ne (by first | assumption | exact zk_eq | exact zk_ne (by first | assumption | exact zk_eq | exact zk_ne (by first | assumption | exact zk_eq | exact zk_ne (by first | assumption | exact zk_eq) (by first | decide | omega)) (by first | decide | omega)) (by first | decide | omega)) (by first | decide | omega)) (by first | decide | omega)) (by first | rfl | assumption) (by first | assumption | omega | decide) (by first | decide | omega) ?_
    refine z_iload C dX2_setRule_47 rfl ?_
    refine z_iret C hret dX2_setRule_49 (by first | exact Nat.le_of_ble_eq_true rfl | omega) (by first | exact Nat.le_of_ble_eq_true rfl | omega) ?_
    refine ZO.fin (by simp only [hSetRule, if_neg q1, if_neg q2, hjc]; rfl) ⟨ad, tb, tk, W, P, rfl, hH.rows (co1 := va_up co j (zb v)) (gu1 := va_up gu j g) (nd1 := nd) (by first | assumption | exact zk_eq | exact zk_ne (by first | assumption | exact zk_eq | exact zk_ne (by first | assumption | exact zk_eq | exact zk_ne (by first | assumption | exact zk_eq | exact zk_ne (by first | assumption | exact zk_eq | exact zk_ne (by first | assumption | exact zk_eq) (by first | decide | omega)) (by first | decide | omega)) (by first | decide | omega)) (by first | decide | omega)) (by first | decide | omega)) (by first | assumption | exact zk_eq | exact zk_ne (by first | assumption | exact zk_eq | exact zk_ne (by first | assumption | exact zk_eq | exact zk_ne (by first | assumption | exact zk_eq | exact zk_ne (by first | assumption | exact zk_eq | exact zk_ne (by first | assumption | exact zk_eq) (by first | decide | omega)) (by first | decide | omega)) (by first | decide | omega)) (by first | decide | omega)) (by first | decide | omega)) ?_ (fun j j1 j2 j3 => (va_up_ne _ _ j2).trans (va_up_ne _ _ j1)), m7, hm7, hm8, hlt⟩ (fun j j1 j2 => (va_up_ne _ _ (by omega)).trans (va_up_ne _ _ (by omega)))
    exact (va_up_ne _ _ (by decide)).trans ((va_up_ne _ _ (by decide)).trans b12)
  · refine z_throw C zt_117_115 hX dX2_setRule_15 dX2_setRule_18 dX2_setRule_19 dX2_setRule_21 dX2_setRule_24 rfl (by exact Nat.le_of_ble_eq_true rfl) (by exact Nat.le_of_ble_eq_true rfl) (by first | exact Nat.le_of_ble_eq_true rfl | (simp only [zrm]; omega)) (by first | exact Nat.le_of_ble_eq_true rfl | (simp only [zrm]; omega)) (by first | exact Nat.le_of_ble_eq_true rfl | omega) (by first | exact Nat.le_of_ble_eq_true rfl | omega) ?_
    exact ⟨by simp only [hSetRule, if_neg q1, if_pos (show g < 0 ∨ 400 < g from Or.inr (Int32.not_le.mp c4))], hHH, zFh.refl _⟩
theorem o_order (hl : l.stackTraces = false) (h : HH z a0 nn w S) (x : Int32) : ZO l z mX2_order a0 nn nn [.int x] w S (hOrder S x) := by
  have hHH := h
  obtain ⟨ts, wk, hi, co, gu, nd⟩ := S
  obtain ⟨ad, tb, tk, W, P, rfl, h, m7, hm7, hm8, hlt⟩ := h
  dsimp only at h hm8 hlt
  have hH := h
  obtain ⟨b0, b1, b3, b5, bM, b10, b11, b12, am, al, an, hc8⟩ := h
  refine zbody (M := mX2_order) (L0 := [_, _, _]) hl (by simp [Value.category]) (Nat.le_of_ble_eq_true rfl) (by decide +kernel) rfl ?_
  intro p e s m args below meth c C hX hnm hret
  replace C : zC z p l s m args meth c cX2_order RX2 3 := C
  replace hret : meth.sig.returnType = (some .int) := hret
  obtain ⟨c8, hc8, he8⟩ := hc8
  refine z_iload_n C dX2_order_0 rfl ?_
  refine z_if_lt C 9 dX2_order_1 (by decide) (fun c1 => ?_) (fun c1 => ?_)
  · refine z_throw C zt_133_115 hX dX2_order_9 dX2_order_12 dX2_order_13 dX2_order_15 dX2_order_18 rfl (by exact Nat.le_of_ble_eq_true rfl) (by exact Nat.le_of_ble_eq_true rfl) (by first | exact Nat.le_of_ble_eq_true rfl | (simp only [zrm]; omega)) (by first | exact Nat.le_of_ble_eq_true rfl | (simp only [zrm]; omega)) (by first | exact Nat.le_of_ble_eq_true rfl | omega) (by first | exact Nat.le_of_ble_eq_true rfl | omega) ?_
    exact ⟨by simp only [hOrder, if_pos (show x < 0 ∨ ¬ x < 5 from Or.inl c1)], hHH, zFh.refl _⟩
  refine z_iload_n C dX2_order_4 rfl ?_
  refine z_iconst C (5) dX2_order_5 (by decide) ?_
  refine z_icmp_lt C 19 dX2_order_6 (by decide) (fun c2 => ?_) (fun c2 => ?_)
  · have q1 : ¬ (x < 0 ∨ ¬ x < 5) := fun h => h.elim c1 (fun h => h c2)
    refine z_aload_n C dX2_order_19 rfl ?_
    refine z_getf C zf_X2_44 dX2_order_20 (by first | assumption | exact zk_eq | exact zk_ne (by first | assumption | exact zk_eq | exact zk_ne (by first | assumption | exact zk_eq | exact zk_ne (by first | assumption | exact zk_eq | exact zk_ne (by first | assumption | exact zk_eq | exact zk_ne (by first | assumption | exact zk_eq) (by first | decide | omega)) (by first | decide | omega)) (by first | decide | omega)) (by first | decide | omega)) (by first | decide | omega)) (by rfl) ?_
    refine z_bipush C (16) dX2_order_23 (by decide) ?_
    refine z_icmp_lt C 38 dX2_order_25 (by decide) (fun c3 => ?_) (fun c3 => ?_)
    · have q2 : ¬ 16 ≤ hi 8 := Int32.not_le.mpr c3
      have h8 : c8 < 16 := by
        rw [he8] at c3
        exact (nI_ltI (b := 16) (by omega) (by decide)).mp c3
      refine z_aload_n C dX2_order_38 rfl ?_
      refine z_getf C zf_X2_44 dX2_order_39 (by first | assumption | exact zk_eq | exact zk_ne (by first | assumption | exact zk_eq | exact zk_ne (by first | assumption | exact zk_eq | exact zk_ne (by first | assumption | exact zk_eq | exact zk_ne (by first | assumption | exact zk_eq | exact zk_ne (by first | assumption | exact zk_eq) (by first | decide | omega)) (by first | decide | omega)) (by first | decide | omega)) (by first | decide | omega)) (by first | decide | omega)) (by rfl) ?_
      refine z_istore_n C (L1 := [_, _, _]) dX2_order_42 (Nat.le_of_ble_eq_true rfl) rfl ?_
      refine z_aload_n C dX2_order_43 rfl ?_
      refine z_getf C zf_X2_37 dX2_order_44 (by first | assumption | exact zk_eq | exact zk_ne (by first | assumption | exact zk_eq | exact zk_ne (by first | assumption | exact zk_eq | exact zk_ne (by first | assumption | exact zk_eq | exact zk_ne (by first | assumption | exact zk_eq | exact zk_ne (by first | assumption | exact zk_eq) (by first | decide | omega)) (by first | decide | omega)) (by first | decide | omega)) (by first | decide | omega)) (by first | decide | omega)) (by rfl) ?_
      refine z_iload_n C dX2_order_47 rfl ?_
      refine z_iload_n C dX2_order_48 rfl ?_
      refine z_iast C dX2_order_49 (by first | assumption | exact zk_eq | exact zk_ne (by first | assumption | exact zk_eq | exact zk_ne (by first | assumption | exact zk_eq | exact zk_ne (by first | assumption | exact zk_eq | exact zk_ne (by first | assumption | exact zk_eq | exact zk_ne (by first | assumption | exact zk_eq) (by first | decide | omega)) (by first | decide | omega)) (by first | decide | omega)) (by first | decide | omega)) (by first | decide | omega)) (by first | rfl | assumption) (by first | assumption | omega | decide) (by first | decide | omega) ?_
      refine z_aload_n C dX2_order_50 rfl ?_
      refine z_dup C dX2_order_51 rfl ?_
      refine z_getf C zf_X2_44 dX2_order_52 (by first | assumption | exact zk_eq | exact zk_ne (by first | assumption | exact zk_eq | exact zk_ne (by first | assumption | exact zk_eq | exact zk_ne (by first | assumption | exact zk_eq | exact zk_ne (by first | assumption | exact zk_eq | exact zk_ne (by first | assumption | exact zk_eq) (by first | decide | omega)) (by first | decide | omega)) (by first | decide | omega)) (by first | decide | omega)) (by first | decide | omega)) (by rfl) ?_
      refine z_iconst C (1) dX2_order_55 (by decide) ?_
      refine z_iadd C dX2_order_56 ?_
      refine z_putf C (fs1 := [_, _, _, _, _, _, _, _, _, _, _, _, _]) zp_X2_44 dX2_order_57 (by first | assumption | exact zk_eq | exact zk_ne (by first | assumption | exact zk_eq | exact zk_ne (by first | assumption | exact zk_eq | exact zk_ne (by first | assumption | exact zk_eq | exact zk_ne (by first | assumption | exact zk_eq | exact zk_ne (by first | assumption | exact zk_eq) (by first | decide | omega)) (by first | decide | omega)) (by first | decide | omega)) (by first | decide | omega)) (by first | decide | omega)) (by first | rfl | exact zb_nar _ | assumption) (by first | rfl | exact zb_fit _ | assumption) (by exact Nat.le_of_ble_eq_true rfl) (by rfl) ?_
      refine z_iload_n C dX2_order_60 rfl ?_
      refine z_iret C hret dX2_order_61 (by first | exact Nat.le_of_ble_eq_true rfl | omega) (by first | exact Nat.le_of_ble_eq_true rfl | omega) ?_
      have hX2 := (hH.rows (w1 := va_up w 12 (some (ad 12, .inl (z.2.2.1 0, 16, .inl (va_up nd c8 x))))) (co1 := co) (gu1 := gu) (nd1 := va_up nd c8 x) ((va_up_ne _ _ (by decide)).trans b10) ((va_up_ne _ _ (by decide)).trans b11) zk_eq (fun j j1 j2 j3 => va_up_ne _ _ j3)).hal (hi1 := va_up hi 8 (hi 8 + 1)) (w1 := va_up (va_up w 12 (some (ad 12, .inl (z.2.2.1 0, 16, .inl (va_up nd c8 x))))) 0 (some (ad 0, zHc ad (va_up hi 8 (hi 8 + 1))))) zk_eq (fun j hj => va_up_ne _ _ hj) ⟨c8 + 1, h8, by rw [va_up_self, he8]; exact (nI_succ _).symm⟩
      exact ZO.fin (v := hi 8) (S1 := (ts, wk, va_up hi 8 (hi 8 + 1), co, gu, va_up nd c8 x)) (by simp only [hOrder, if_neg q1, if_neg q2]; rw [show (hi 8).toNatClampNeg = c8 by rw [he8, nI_clamp (by omega)]]) ⟨ad, tb, tk, W, P, rfl, hX2, m7, hm7, hm8, hlt⟩ (fun j j1 j2 => (va_up_ne _ _ (by omega)).trans (va_up_ne _ _ (by omega)))
    · refine z_throw C zt_135_71 hX dX2_order_28 dX2_order_31 dX2_order_32 dX2_order_34 dX2_order_37 rfl (by exact Nat.le_of_ble_eq_true rfl) (by exact Nat.le_of_ble_eq_true rfl) (by first | exact Nat.le_of_ble_eq_true rfl | (simp only [zrm]; omega)) (by first | exact Nat.le_of_ble_eq_true rfl | (simp only [zrm]; omega)) (by first | exact Nat.le_of_ble_eq_true rfl | omega) (by first | exact Nat.le_of_ble_eq_true rfl | omega) ?_
      exact ⟨by simp only [hOrder, if_neg q1, if_pos (show 16 ≤ hi 8 from Int32.not_lt.mp c3)], hHH, zFh.refl _⟩
  · refine z_throw C zt_133_115 hX dX2_order_9 dX2_order_12 dX2_order_13 dX2_order_15 dX2_order_18 rfl (by exact Nat.le_of_ble_eq_true rfl) (by exact Nat.le_of_ble_eq_true rfl) (by first | exact Nat.le_of_ble_eq_true rfl | (simp only [zrm]; omega)) (by first | exact Nat.le_of_ble_eq_true rfl | (simp only [zrm]; omega)) (by first | exact Nat.le_of_ble_eq_true rfl | omega) (by first | exact Nat.le_of_ble_eq_true rfl | omega) ?_
    exact ⟨by simp only [hOrder, if_pos (show x < 0 ∨ ¬ x < 5 from Or.inr c2)], hHH, zFh.refl _⟩
end ZH8
