/-! HiringHall: replace, fillable, equalise, dispatch -/
theorem zFh.tr {w w1 w2 : zW} (h : zFh w w1) (h2 : zFh w1 w2) : zFh w w2 := fun j j1 j2 => (h2 j j1 j2).trans (h j j1 j2)
theorem zMt.kp {z : zT} {w w1 : zW} (h : ∀ j : Nat, j ≠ 8 → j ≠ 9 → w1 j = w j) : zFh w w1 := fun j j1 j2 => h j (by omega) (by omega)
theorem fiW_len {wk : Nat → Nat → Int32} : ∀ (r : List Nat) (W : List Int32), (fiW wk r W).length ≤ W.length + r.length
  | [], W => by simp [fiW]
  | n :: r, W => by
    simp only [fiW]
    split
    · have := fiW_len (wk := wk) r (wk n 2 :: W)
      simp only [List.length_cons] at this ⊢
      omega
    · have := fiW_len (wk := wk) r W
      simp only [List.length_cons]
      omega
theorem eqR_perm {wk : Nat → Nat → Int32} {b : Int32} : ∀ (B A : List Nat), (eqR wk b A B).Perm (A.reverse ++ B)
  | [], A => by simp [eqR]
  | x :: B, A => by
    have hr : ∀ A : List Nat, (riseR wk x A).Perm (x :: A) := by
      intro A
      induction A with
      | nil => exact List.Perm.refl _
      | cons y r ih =>
        simp only [riseR]
        split
        · exact (ih.cons y).trans (List.Perm.swap x y r)
        · exact List.Perm.refl _
    have h1 : ∀ A2 : List Nat, A2.Perm (x :: A) → (A2.reverse ++ B).Perm (A.reverse ++ x :: B) := fun A2 h => by
      have h2 : A2.reverse.Perm (A.reverse ++ [x]) := (List.reverse_perm _).trans (h.trans ((List.perm_append_comm (l₁ := [x]) (l₂ := A)).trans ((List.reverse_perm A).symm.append_right [x])))
      have h3 := h2.append_right B
      rw [List.append_assoc] at h3
      exact h3
    simp only [eqR]
    split
    · exact (eqR_perm B _).trans (h1 _ (hr A))
    · exact (eqR_perm B _).trans (h1 _ (List.Perm.refl _))
section ZH11
variable {l : Launch} {z : zT} {w : zW} {a0 nn : Nat} {S : zHS}
theorem o_equalise (hl : l.stackTraces = false) (h : HH z a0 nn w S) (x : Int32) : ZO l z mX2_equalise a0 nn nn [.int x] w S (hEqualise S x) := by
  have hHH := h
  obtain ⟨ts, wk, hi, co, gu, nd⟩ := S
  obtain ⟨ad, tb, tk, W, P, rfl, h, m7, hm7, hm8, hlt⟩ := h
  dsimp only at h hm8 hlt
  have hH := h
  obtain ⟨b0, b1, b3, b5, bM, b10, b11, b12, am, al, an, hc8⟩ := h
  refine zbody (M := mX2_equalise) (L0 := [_, _, _]) hl (by simp [Value.category]) (Nat.le_of_ble_eq_true rfl) (by decide +kernel) rfl ?_
  intro p e s m args below meth c C hX hnm hret
  replace C : zC z p l s m args meth c cX2_equalise RX2 3 := C
  replace hret : meth.sig.returnType = (some .int) := hret
  refine z_iload_n C dX2_equalise_0 rfl ?_
  refine z_callS C zm_X2_checkBoard zl_X2_60 (c_checkBoard hl x) dX2_equalise_1 (by rfl) (by rfl) (by exact Nat.le_of_ble_eq_true rfl) rfl (by exact ⟨Nat.le_of_ble_eq_true rfl, Nat.le_of_ble_eq_true rfl⟩) (by first | exact ⟨Nat.le_of_ble_eq_true rfl, Nat.le_of_ble_eq_true rfl⟩ | (simp only [zrm]; omega)) (fun E w1 h => z_xout C hX (by obtain ⟨rfl, q, rfl⟩ := h; exact ⟨by simp only [hEqualise, if_pos q], hHH, zFh.refl _⟩) (by first | exact Nat.le_of_ble_eq_true rfl | omega) (by first | exact Nat.le_of_ble_eq_true rfl | omega)) (fun r w1 hq => ?_)
  obtain ⟨c1, c2, rfl, rfl⟩ := hq
  have q0 : ¬ (x < 0 ∨ ¬ x < 4) := fun h => h.elim c1 (fun h => h c2)
  refine z_aload_n C dX2_equalise_4 rfl ?_
  refine z_callV C zm_X2_rememberTurn zl_X2_120 (c_rememberTurn hl hH) dX2_equalise_5 (by first | assumption | exact zk_eq | exact zk_ne (by first | assumption | exact zk_eq | exact zk_ne (by first | assumption | exact zk_eq | exact zk_ne (by first | assumption | exact zk_eq | exact zk_ne (by first | assumption | exact zk_eq | exact zk_ne (by first | assumption | exact zk_eq) (by first | decide | omega)) (by first | decide | omega)) (by first | decide | omega)) (by first | decide | omega)) (by first | decide | omega)) (by rfl) (by rfl) (by rfl) (by exact Nat.le_of_ble_eq_true rfl) rfl (by exact ⟨Nat.le_of_ble_eq_true rfl, Nat.le_of_ble_eq_true rfl⟩) (by first | exact ⟨Nat.le_of_ble_eq_true rfl, Nat.le_of_ble_eq_true rfl⟩ | (simp only [zrm]; omega)) (fun _ _ h => z_xno h) (fun r w3 hq => ?_)
  obtain ⟨rfl, g1, g2⟩ := hq
  refine z_iconst C (0) dX2_equalise_8 (by decide) ?_
  refine z_istore_n C (L1 := [_, _, _]) dX2_equalise_9 (Nat.le_of_ble_eq_true rfl) rfl ?_
  refine z_loop (fun n cs ss L w2 => ∃ (A B : List Nat), n = B.length ∧ cs = 0 + 1 + 30 ∧ ss = 0 + 6 + 1920 ∧ L = [some (.ref (ad 0)), some (.int x), some (.int (nI A.length))] ∧ eqR wk x A B = eqR wk x [] ts ∧ (A.reverse ++ B).Perm ts ∧ HP z ad co gu nd w2 (A.reverse ++ B) wk hi (ts.map (zWa ad)) tk W P ∧ zFh w1 w2)
    ⟨[], ts, rfl, rfl, rfl, rfl, rfl, List.Perm.refl _, g1, fun j j1 j2 => g2 j (by omega) (by omega) (by omega)⟩ ?_
  rintro n cs ss L w2 ⟨A, B, rfl, rfl, rfl, rfl, q1, q2, q3, q4⟩ ih
  have hX := q3
  obtain ⟨b0, b1, -, -, -, -, -, -, am2, al2, -, -⟩ := q3
  obtain ⟨md1, rb1, e1, -⟩ := id b1
  rw [List.length_map] at e1
  have hlen : (A.reverse ++ B).length = A.length + B.length := by simp
  refine z_iload_n C dX2_equalise_10 rfl ?_
  refine z_aload_n C dX2_equalise_11 rfl ?_
  refine z_getf C zf_X2_10 dX2_equalise_12 (by first | assumption | exact zk_eq | exact zk_ne (by first | assumption | exact zk_eq | exact zk_ne (by first | assumption | exact zk_eq | exact zk_ne (by first | assumption | exact zk_eq | exact zk_ne (by first | assumption | exact zk_eq | exact zk_ne (by first | assumption | exact zk_eq) (by first | decide | omega)) (by first | decide | omega)) (by first | decide | omega)) (by first | decide | omega)) (by first | decide | omega)) (by rfl) ?_
  refine z_callV C zm_Jx4a65c_size_8abf5 zl_X2_67 (c_size hl e1) dX2_equalise_15 (by first | assumption | exact zk_eq | exact zk_ne (by first | assumption | exact zk_eq | exact zk_ne (by first | assumption | exact zk_eq | exact zk_ne (by first | assumption | exact zk_eq | exact zk_ne (by first | assumption | exact zk_eq | exact zk_ne (by first | assumption | exact zk_eq) (by first | decide | omega)) (by first | decide | omega)) (by first | decide | omega)) (by first | decide | omega)) (by first | decide | omega)) (by rfl) (by rfl) (by rfl) (by exact Nat.le_of_ble_eq_true rfl) rfl (by exact ⟨Nat.le_of_ble_eq_true rfl, Nat.le_of_ble_eq_true rfl⟩) (by first | exact ⟨Nat.le_of_ble_eq_true rfl, Nat.le_of_ble_eq_true rfl⟩ | (simp only [zrm]; omega)) (fun _ _ h => z_xno h) (fun r w1 hq => ?_)
  obtain ⟨rfl, rfl⟩ := hq
  refine z_icmp_ge C 50 dX2_equalise_18 (by decide) (fun c3 => ?_) (fun c3 => ?_)
  · have hi2 := ge_of_ge (by omega) (by omega) c3
    cases B with
    | cons y B => simp at hi2; omega
    | nil =>
      simp only [eqR] at q1
      refine z_aload_n C dX2_equalise_50 rfl ?_
      refine z_callV C zm_X2_countDisplaced zl_X2_130 (c_countDisplaced (t0 := ts) hl hX (fun n hn => q2.mem_iff.mpr hn) al) dX2_equalise_51 (by first | assumption | exact zk_eq | exact zk_ne (by first | assumption | exact zk_eq | exact zk_ne (by first | assumption | exact zk_eq | exact zk_ne (by first | assumption | exact zk_eq | exact zk_ne (by first | assumption | exact zk_eq | exact zk_ne (by first | assumption | exact zk_eq) (by first | decide | omega)) (by first | decide | omega)) (by first | decide | omega)) (by first | decide | omega)) (by first | decide | omega)) (by rfl) (by rfl) (by rfl) (by exact Nat.le_of_ble_eq_true rfl) rfl (by exact ⟨Nat.le_of_ble_eq_true rfl, Nat.le_of_ble_eq_true rfl⟩) (by first | exact ⟨Nat.le_of_ble_eq_true rfl, Nat.le_of_ble_eq_true rfl⟩ | (simp only [zrm]; omega)) (fun _ _ h => z_xno h) (fun r w1 hq => ?_)
      obtain ⟨rfl, rfl⟩ := hq
      refine z_iret C hret dX2_equalise_54 (by first | exact Nat.le_of_ble_eq_true rfl | omega) (by first | exact Nat.le_of_ble_eq_true rfl | omega) ?_
      rw [List.append_nil] at q2 hX ⊢
      rw [q1] at q2 hX ⊢
      exact ZO.fin (S1 := (eqR wk x [] ts, wk, hi, co, gu, nd)) (by simp only [hEqualise, if_neg q0]) ⟨ad, ts.map (zWa ad), tk, W, P, rfl, hX, m7, hm7, hm8, pab_lt q2 hlt⟩ q4
  have hi2 : A.length < (A.reverse ++ B).length := lt_of_nge (by omega) (by omega) c3
  cases B with
  | nil => simp at hi2
  | cons y B =>
    have ix : (A.reverse ++ y :: B)[A.length]? = some y := by
      rw [List.getElem?_append_right (by simp)]
      simp
    obtain ⟨hx1, hx2⟩ := List.getElem?_eq_some_iff.mp ix
    have ex := hX.wk1 hx1
    rw [hx2] at ex
    refine z_aload_n C dX2_equalise_21 rfl ?_
    refine z_getf C zf_X2_10 dX2_equalise_22 (by first | assumption | exact zk_eq | exact zk_ne (by first | assumption | exact zk_eq | exact zk_ne (by first | assumption | exact zk_eq | exact zk_ne (by first | assumption | exact zk_eq | exact zk_ne (by first | assumption | exact zk_eq | exact zk_ne (by first | assumption | exact zk_eq) (by first | decide | omega)) (by first | decide | omega)) (by first | decide | omega)) (by first | decide | omega)) (by first | decide | omega)) (by rfl) ?_
    refine z_iload_n C dX2_equalise_25 rfl ?_
    refine z_callV C zm_Jx4a65c_get_915e3 zl_X2_123 (c_get (i := A.length) hl b1 (by simpa using hi2)) dX2_equalise_26 (by first | assumption | exact zk_eq | exact zk_ne (by first | assumption | exact zk_eq | exact zk_ne (by first | assumption | exact zk_eq | exact zk_ne (by first | assumption | exact zk_eq | exact zk_ne (by first | assumption | exact zk_eq | exact zk_ne (by first | assumption | exact zk_eq) (by first | decide | omega)) (by first | decide | omega)) (by first | decide | omega)) (by first | decide | omega)) (by first | decide | omega)) (by rfl) (by rfl) (by rfl) (by exact Nat.le_of_ble_eq_true rfl) rfl (by exact ⟨Nat.le_of_ble_eq_true rfl, Nat.le_of_ble_eq_true rfl⟩) (by first | exact ⟨Nat.le_of_ble_eq_true rfl, Nat.le_of_ble_eq_true rfl⟩ | (simp only [zrm]; omega)) (fun _ _ h => z_xno h) (fun r w1 hq => ?_)
    obtain ⟨rfl, rfl⟩ := hq
    rw [List.getElem_map, hx2]
    simp only [eqR] at q1
    refine z_castW C zk_X2_78 dX2_equalise_29 (by first | assumption | exact zk_eq | exact zk_ne (by first | assumption | exact zk_eq | exact zk_ne (by first | assumption | exact zk_eq | exact zk_ne (by first | assumption | exact zk_eq | exact zk_ne (by first | assumption | exact zk_eq | exact zk_ne (by first | assumption | exact zk_eq) (by first | decide | omega)) (by first | decide | omega)) (by first | decide | omega)) (by first | decide | omega)) (by first | decide | omega)) ?_
    refine z_getf C zf_X2_106 dX2_equalise_32 (by first | assumption | exact zk_eq | exact zk_ne (by first | assumption | exact zk_eq | exact zk_ne (by first | assumption | exact zk_eq | exact zk_ne (by first | assumption | exact zk_eq | exact zk_ne (by first | assumption | exact zk_eq | exact zk_ne (by first | assumption | exact zk_eq) (by first | decide | omega)) (by first | decide | omega)) (by first | decide | omega)) (by first | decide | omega)) (by first | decide | omega)) (by rfl) ?_
    refine z_iload_n C dX2_equalise_35 rfl ?_
    refine z_icmp_ne C 44 dX2_equalise_36 (by decide) (fun c4 => ?_) (fun c4 => ?_)
    · rw [if_neg c4] at q1
      refine z_iinc C (L1 := [_, _, _]) _ dX2_equalise_44 rfl (by first | exact zinc | rfl) rfl ?_
      refine z_goto C 10 dX2_equalise_47 (by decide) ?_
      have e9 : A.reverse ++ y :: B = (y :: A).reverse ++ B := by simp
      rw [e9] at q2 hX
      exact ih B.length _ _ _ _ (by simp) ⟨y :: A, B, rfl, rfl, rfl, rfl, q1, q2, hX, q4⟩
    · rw [if_pos c4] at q1
      refine z_aload_n C dX2_equalise_39 rfl ?_
      refine z_iload_n C dX2_equalise_40 rfl ?_
      refine z_callV C zm_X2_riseByHours zl_X2_127 (c_riseByHours (A := A) (x := y) (B := B) hl hX rfl) dX2_equalise_41 (by first | assumption | exact zk_eq | exact zk_ne (by first | assumption | exact zk_eq | exact zk_ne (by first | assumption | exact zk_eq | exact zk_ne (by first | assumption | exact zk_eq | exact zk_ne (by first | assumption | exact zk_eq | exact zk_ne (by first | assumption | exact zk_eq) (by first | decide | omega)) (by first | decide | omega)) (by first | decide | omega)) (by first | decide | omega)) (by first | decide | omega)) (by rfl) (by rfl) (by rfl) (by exact Nat.le_of_ble_eq_true rfl) rfl (by exact ⟨Nat.le_of_ble_eq_true rfl, Nat.le_of_ble_eq_true rfl⟩) (by first | exact ⟨Nat.le_of_ble_eq_true rfl, Nat.le_of_ble_eq_true rfl⟩ | (simp only [zrm]; omega)) (fun _ _ h => z_xno h) (fun r w6 hq => ?_)
      obtain ⟨rfl, g3, g4⟩ := hq
      refine z_iinc C (L1 := [_, _, _]) _ dX2_equalise_44 rfl (by first | exact zinc | rfl) rfl ?_
      refine z_goto C 10 dX2_equalise_47 (by decide) ?_
      have hp := eqR_perm (wk := wk) (b := x) [y] A
      simp only [eqR, if_pos c4] at hp
      have hp2 : ((riseR wk y A).reverse ++ B).Perm ts := by
        have := hp.append_right B
        rw [List.append_assoc] at this
        exact this.trans q2
      refine ih B.length _ _ _ _ (by simp) ⟨riseR wk y A, B, rfl, rfl, rfl, ?_, q1, hp2, g3, fun j j1 j2 => (g4 j (by omega) (by omega) (by omega)).trans (q4 j j1 j2)⟩
      rw [riseR_len]
theorem o_fillable (hl : l.stackTraces = false) (h : HH z a0 nn w S) : ZO l z mX2_fillable a0 nn nn [] w S (hFillable S) := by
  have hHH := h
  obtain ⟨ts, wk, hi, co, gu, nd⟩ := S
  obtain ⟨ad, tb, tk, W, P, rfl, h, m7, hm7, hm8, hlt⟩ := h
  dsimp only at h hm8 hlt
  have hH := h
  obtain ⟨b0, b1, b3, b5, bM, b10, b11, b12, am, al, an, hc8⟩ := h
  refine zbody (M := mX2_fillable) (L0 := [_, _, _]) hl (by simp [Value.category]) (Nat.le_of_ble_eq_true rfl) (by decide +kernel) rfl ?_
  intro p e s m args below meth c C hX hnm hret
  replace C : zC z p l s m args meth c cX2_fillable RX2 3 := C
  replace hret : meth.sig.returnType = (some .int) := hret
  obtain ⟨c8, hc8, he8⟩ := hc8
  have hcl : (hi 8).toNatClampNeg = c8 := by rw [he8, nI_clamp (by omega)]
  have b7 := bM.1
  refine z_aload_n C dX2_fillable_0 rfl ?_
  refine z_getf C zf_X2_25 dX2_fillable_1 (by first | assumption | exact zk_eq | exact zk_ne (by first | assumption | exact zk_eq | exact zk_ne (by first | assumption | exact zk_eq | exact zk_ne (by first | assumption | exact zk_eq | exact zk_ne (by first | assumption | exact zk_eq | exact zk_ne (by first | assumption | exact zk_eq) (by first | decide | omega)) (by first | decide | omega)) (by first | decide | omega)) (by first | decide | omega)) (by first | decide | omega)) (by rfl) ?_
  refine z_callV C zm_X0_clear zl_X2_137 (c_Mclear hl bM) dX2_fillable_4 (by first | assumption | exact zk_eq | exact zk_ne (by first | assumption | exact zk_eq | exact zk_ne (by first | assumption | exact zk_eq | exact zk_ne (by first | assumption | exact zk_eq | exact zk_ne (by first | assumption | exact zk_eq | exact zk_ne (by first | assumption | exact zk_eq) (by first | decide | omega)) (by first | decide | omega)) (by first | decide | omega)) (by first | decide | omega)) (by first | decide | omega)) (by rfl) (by rfl) (by rfl) (by exact Nat.le_of_ble_eq_true rfl) rfl (by exact ⟨Nat.le_of_ble_eq_true rfl, Nat.le_of_ble_eq_true rfl⟩) (by first | exact ⟨Nat.le_of_ble_eq_true rfl, Nat.le_of_ble_eq_true rfl⟩ | (simp only [zrm]; omega)) (fun _ _ h => z_xno h) (fun r w3 hq => ?_)
  obtain ⟨rfl, g1, g2⟩ := hq
  have hX2 := hH.mt g1 g2
  have b0' := hX2.1
  refine z_aload_n C dX2_fillable_7 rfl ?_
  refine z_callV C zm_X2_matchOpenPlaces zl_X2_140 (c_matchOpenPlaces hl hX2 he8 hc8) dX2_fillable_8 (by first | assumption | exact zk_eq | exact zk_ne (by first | assumption | exact zk_eq | exact zk_ne (by first | assumption | exact zk_eq | exact zk_ne (by first | assumption | exact zk_eq | exact zk_ne (by first | assumption | exact zk_eq | exact zk_ne (by first | assumption | exact zk_eq) (by first | decide | omega)) (by first | decide | omega)) (by first | decide | omega)) (by first | decide | omega)) (by first | decide | omega)) (by rfl) (by rfl) (by rfl) (by exact Nat.le_of_ble_eq_true rfl) rfl (by exact ⟨Nat.le_of_ble_eq_true rfl, Nat.le_of_ble_eq_true rfl⟩) (by first | exact ⟨Nat.le_of_ble_eq_true rfl, Nat.le_of_ble_eq_true rfl⟩ | (simp only [zrm]; omega)) (fun _ _ h => z_xno h) (fun r w4 hq => ?_)
  obtain ⟨rfl, g3, g4⟩ := hq
  refine z_iconst C (0) dX2_fillable_11 (by decide) ?_
  refine z_istore_n C (L1 := [_, _, _]) dX2_fillable_12 (Nat.le_of_ble_eq_true rfl) rfl ?_
  refine z_loop (fun n cs ss L w2 => ∃ (i : Nat) (W2 : List Int32), n = ts.length - i ∧ cs = 0 ∧ ss = 0 ∧ L = [some (.ref (ad 0)), some (.int (nI i)), none] ∧ i ≤ ts.length ∧ fiW wk (ts.drop i) W2 = fiW wk ts [] ∧ W2.length ≤ i ∧ HP z ad co gu nd w2 ts wk hi tb tk W2 (opl wk nd ts c8) ∧ zFh w w2)
    ⟨0, [], rfl, rfl, rfl, rfl, Nat.zero_le _, rfl, Nat.le_refl _, g3, zFh.tr (zMt.kp (z := z) g2) g4⟩ ?_
  rintro n cs ss L w2 ⟨i, W2, rfl, rfl, rfl, rfl, q1, q2, q5, q3, q4⟩ ih
  have hX := q3
  obtain ⟨b0, b1, -, -, bM, -, -, -, am, -, -, -⟩ := q3
  obtain ⟨md1, rb1, e1, -⟩ := id b1
  rw [List.length_map] at e1
  have bM7 := bM.1
  refine z_iload_n C dX2_fillable_13 rfl ?_
  refine z_aload_n C dX2_fillable_14 rfl ?_
  refine z_getf C zf_X2_10 dX2_fillable_15 (by first | assumption | exact zk_eq | exact zk_ne (by first | assumption | exact zk_eq | exact zk_ne (by first | assumption | exact zk_eq | exact zk_ne (by first | assumption | exact zk_eq | exact zk_ne (by first | assumption | exact zk_eq | exact zk_ne (by first | assumption | exact zk_eq) (by first | decide | omega)) (by first | decide | omega)) (by first | decide | omega)) (by first | decide | omega)) (by first | decide | omega)) (by rfl) ?_
  refine z_callV C zm_Jx4a65c_size_8abf5 zl_X2_67 (c_size hl e1) dX2_fillable_18 (by first | assumption | exact zk_eq | exact zk_ne (by first | assumption | exact zk_eq | exact zk_ne (by first | assumption | exact zk_eq | exact zk_ne (by first | assumption | exact zk_eq | exact zk_ne (by first | assumption | exact zk_eq | exact zk_ne (by first | assumption | exact zk_eq) (by first | decide | omega)) (by first | decide | omega)) (by first | decide | omega)) (by first | decide | omega)) (by first | decide | omega)) (by rfl) (by rfl) (by rfl) (by exact Nat.le_of_ble_eq_true rfl) rfl (by exact ⟨Nat.le_of_ble_eq_true rfl, Nat.le_of_ble_eq_true rfl⟩) (by first | exact ⟨Nat.le_of_ble_eq_true rfl, Nat.le_of_ble_eq_true rfl⟩ | (simp only [zrm]; omega)) (fun _ _ h => z_xno h) (fun r w1 hq => ?_)
  obtain ⟨rfl, rfl⟩ := hq
  refine z_icmp_ge C 67 dX2_fillable_21 (by decide) (fun c1 => ?_) (fun c1 => ?_)
  · have hi2 := ge_of_ge (by omega) (by omega) c1
    refine z_aload_n C dX2_fillable_67 rfl ?_
    refine z_getf C zf_X2_25 dX2_fillable_68 (by first | assumption | exact zk_eq | exact zk_ne (by first | assumption | exact zk_eq | exact zk_ne (by first | assumption | exact zk_eq | exact zk_ne (by first | assumption | exact zk_eq | exact zk_ne (by first | assumption | exact zk_eq | exact zk_ne (by first | assumption | exact zk_eq) (by first | decide | omega)) (by first | decide | omega)) (by first | decide | omega)) (by first | decide | omega)) (by first | decide | omega)) (by rfl) ?_
    refine z_callV C zm_X0_mostPlaced zl_X2_207 (c_mostPlaced hl bM) dX2_fillable_71 (by first | assumption | exact zk_eq | exact zk_ne (by first | assumption | exact zk_eq | exact zk_ne (by first | assumption | exact zk_eq | exact zk_ne (by first | assumption | exact zk_eq | exact zk_ne (by first | assumption | exact zk_eq | exact zk_ne (by first | assumption | exact zk_eq) (by first | decide | omega)) (by first | decide | omega)) (by first | decide | omega)) (by first | decide | omega)) (by first | decide | omega)) (by rfl) (by rfl) (by rfl) (by exact Nat.le_of_ble_eq_true rfl) rfl (by exact ⟨Nat.le_of_ble_eq_true rfl, Nat.le_of_ble_eq_true rfl⟩) (by first | exact ⟨Nat.le_of_ble_eq_true rfl, Nat.le_of_ble_eq_true rfl⟩ | (simp only [zrm]; omega)) (fun _ _ h => z_xno h) (fun r w1 hq => ?_)
    obtain ⟨rfl, rfl⟩ := hq
    refine z_iret C hret dX2_fillable_74 (by first | exact Nat.le_of_ble_eq_true rfl | omega) (by first | exact Nat.le_of_ble_eq_true rfl | omega) ?_
    rw [List.drop_eq_nil_of_le hi2] at q2
    refine ZO.fin (S1 := (ts, wk, hi, co, gu, nd)) ?_ ⟨ad, tb, tk, _, _, rfl, hX, m7, hm7, hm8, hlt⟩ q4
    simp only [hFillable, hPl, hcl]
    rw [← q2]
    rfl
  have hi2 : i < ts.length := lt_of_nge (by omega) (by omega) c1
  rw [List.drop_eq_getElem_cons hi2] at q2
  simp only [fiW] at q2
  have ex := hX.wk1 hi2
  refine z_aload_n C dX2_fillable_24 rfl ?_
  refine z_getf C zf_X2_10 dX2_fillable_25 (by first | assumption | exact zk_eq | exact zk_ne (by first | assumption | exact zk_eq | exact zk_ne (by first | assumption | exact zk_eq | exact zk_ne (by first | assumption | exact zk_eq | exact zk_ne (by first | assumption | exact zk_eq | exact zk_ne (by first | assumption | exact zk_eq) (by first | decide | omega)) (by first | decide | omega)) (by first | decide | omega)) (by first | decide | omega)) (by first | decide | omega)) (by rfl) ?_
  refine z_iload_n C dX2_fillable_28 rfl ?_
  refine z_callV C zm_Jx4a65c_get_915e3 zl_X2_123 (c_get (i := i) hl b1 (by simpa using hi2)) dX2_fillable_29 (by first | assumption | exact zk_eq | exact zk_ne (by first | assumption | exact zk_eq | exact zk_ne (by first | assumption | exact zk_eq | exact zk_ne (by first | assumption | exact zk_eq | exact zk_ne (by first | assumption | exact zk_eq | exact zk_ne (by first | assumption | exact zk_eq) (by first | decide | omega)) (by first | decide | omega)) (by first | decide | omega)) (by first | decide | omega)) (by first | decide | omega)) (by rfl) (by rfl) (by rfl) (by exact Nat.le_of_ble_eq_true rfl) rfl (by exact ⟨Nat.le_of_ble_eq_true rfl, Nat.le_of_ble_eq_true rfl⟩) (by first | exact ⟨Nat.le_of_ble_eq_true rfl, Nat.le_of_ble_eq_true rfl⟩ | (simp only [zrm]; omega)) (fun _ _ h => z_xno h) (fun r w1 hq => ?_)
  obtain ⟨rfl, rfl⟩ := hq
  rw [List.getElem_map]
  refine z_castW C zk_X2_78 dX2_fillable_32 (by first | assumption | exact zk_eq | exact zk_ne (by first | assumption | exact zk_eq | exact zk_ne (by first | assumption | exact zk_eq | exact zk_ne (by first | assumption | exact zk_eq | exact zk_ne (by first | assumption | exact zk_eq | exact zk_ne (by first | assumption | exact zk_eq) (by first | decide | omega)) (by first | decide | omega)) (by first | decide | omega)) (by first | decide | omega)) (by first | decide | omega)) ?_
  refine z_astore_n C (L1 := [_, _, _]) dX2_fillable_35 (Nat.le_of_ble_eq_true rfl) rfl ?_
  refine z_aload_n C dX2_fillable_36 rfl ?_
  refine z_callV C zm_X1_isReady zl_X2_178 (c_isReady hl ex) dX2_fillable_37 (by first | assumption | exact zk_eq | exact zk_ne (by first | assumption | exact zk_eq | exact zk_ne (by first | assumption | exact zk_eq | exact zk_ne (by first | assumption | exact zk_eq | exact zk_ne (by first | assumption | exact zk_eq | exact zk_ne (by first | assumption | exact zk_eq) (by first | decide | omega)) (by first | decide | omega)) (by first | decide | omega)) (by first | decide | omega)) (by first | decide | omega)) (by rfl) (by rfl) (by rfl) (by exact Nat.le_of_ble_eq_true rfl) rfl (by exact ⟨Nat.le_of_ble_eq_true rfl, Nat.le_of_ble_eq_true rfl⟩) (by first | exact ⟨Nat.le_of_ble_eq_true rfl, Nat.le_of_ble_eq_true rfl⟩ | (simp only [zrm]; omega)) (fun _ _ h => z_xno h) (fun r w1 hq => ?_)
  obtain ⟨rfl, rfl⟩ := hq
  refine z_if_eq C 61 dX2_fillable_40 (by decide) (fun c2 => ?_) (fun c2 => ?_)
  · have c3 := zb_eq0.mp c2
    rw [if_neg (by simp [c3])] at q2
    refine z_iinc C (L1 := [_, _, _]) _ dX2_fillable_61 rfl (by first | exact zinc | rfl) rfl ?_
    refine z_goto C 13 dX2_fillable_64 (by decide) ?_
    exact z_fgt (ih (ts.length - (i + 1)) _ _ _ _ (by omega) ⟨i + 1, W2, rfl, rfl, rfl, rfl, hi2, q2, by omega, hX, q4⟩) (by simp [zle])
  have c3 := zb_tt c2
  refine z_aload_n C dX2_fillable_43 rfl ?_
  refine z_getf C zf_X2_112 dX2_fillable_44 (by first | assumption | exact zk_eq | exact zk_ne (by first | assumption | exact zk_eq | exact zk_ne (by first | assumption | exact zk_eq | exact zk_ne (by first | assumption | exact zk_eq | exact zk_ne (by first | assumption | exact zk_eq | exact zk_ne (by first | assumption | exact zk_eq) (by first | decide | omega)) (by first | decide | omega)) (by first | decide | omega)) (by first | decide | omega)) (by first | decide | omega)) (by rfl) ?_
  refine z_if_ne C 61 dX2_fillable_47 (by decide) (fun c4 => ?_) (fun c4 => ?_)
  · rw [if_neg (by simp [c4])] at q2
    refine z_iinc C (L1 := [_, _, _]) _ dX2_fillable_61 rfl (by first | exact zinc | rfl) rfl ?_
    refine z_goto C 13 dX2_fillable_64 (by decide) ?_
    exact z_fgt (ih (ts.length - (i + 1)) _ _ _ _ (by omega) ⟨i + 1, W2, rfl, rfl, rfl, rfl, hi2, q2, by omega, hX, q4⟩) (by simp [zle])
  · rw [if_pos (by simp [c3, c4])] at q2
    refine z_aload_n C dX2_fillable_50 rfl ?_
    refine z_getf C zf_X2_25 dX2_fillable_51 (by first | assumption | exact zk_eq | exact zk_ne (by first | assumption | exact zk_eq | exact zk_ne (by first | assumption | exact zk_eq | exact zk_ne (by first | assumption | exact zk_eq | exact zk_ne (by first | assumption | exact zk_eq | exact zk_ne (by first | assumption | exact zk_eq) (by first | decide | omega)) (by first | decide | omega)) (by first | decide | omega)) (by first | decide | omega)) (by first | decide | omega)) (by rfl) ?_
    refine z_aload_n C dX2_fillable_54 rfl ?_
    refine z_getf C zf_X2_103 dX2_fillable_55 (by first | assumption | exact zk_eq | exact zk_ne (by first | assumption | exact zk_eq | exact zk_ne (by first | assumption | exact zk_eq | exact zk_ne (by first | assumption | exact zk_eq | exact zk_ne (by first | assumption | exact zk_eq | exact zk_ne (by first | assumption | exact zk_eq) (by first | decide | omega)) (by first | decide | omega)) (by first | decide | omega)) (by first | decide | omega)) (by first | decide | omega)) (by rfl) ?_
    refine z_callV C zm_X0_addWorker zl_X2_204 (c_addWorker hl bM (wk ts[i] 2) (by omega)) dX2_fillable_58 (by first | assumption | exact zk_eq | exact zk_ne (by first | assumption | exact zk_eq | exact zk_ne (by first | assumption | exact zk_eq | exact zk_ne (by first | assumption | exact zk_eq | exact zk_ne (by first | assumption | exact zk_eq | exact zk_ne (by first | assumption | exact zk_eq) (by first | decide | omega)) (by first | decide | omega)) (by first | decide | omega)) (by first | decide | omega)) (by first | decide | omega)) (by rfl) (by rfl) (by rfl) (by exact Nat.le_of_ble_eq_true rfl) rfl (by exact ⟨Nat.le_of_ble_eq_true rfl, Nat.le_of_ble_eq_true rfl⟩) (by first | exact ⟨Nat.le_of_ble_eq_true rfl, Nat.le_of_ble_eq_true rfl⟩ | (simp only [zrm]; omega)) (fun _ _ h => z_xno h) (fun r w6 hq => ?_)
    obtain ⟨rfl, g5, g6⟩ := hq
    refine z_iinc C (L1 := [_, _, _]) _ dX2_fillable_61 rfl (by first | exact zinc | rfl) rfl ?_
    refine z_goto C 13 dX2_fillable_64 (by decide) ?_
    exact z_fgt (ih (ts.length - (i + 1)) _ _ _ _ (by omega) ⟨i + 1, wk ts[i] 2 :: W2, rfl, rfl, rfl, rfl, hi2, q2, by simp; omega, hX.mt g5 g6, zFh.tr q4 (zMt.kp (z := z) g6)⟩) (by simp [zle])
theorem o_replace (hl : l.stackTraces = false) (h : HH z a0 nn w S) (x : Int32) : ZO l z mX2_replace a0 nn nn [.int x] w S (hReplace S x) := by
  have hHH := h
  obtain ⟨ts, wk, hi, co, gu, nd⟩ := S
  obtain ⟨ad, tb, tk, W, P, rfl, h, m7, hm7, hm8, hlt⟩ := h
  dsimp only at h hm8 hlt
  have hH := h
  obtain ⟨b0, b1, b3, b5, bM, b10, b11, b12, am, al, an, hc8⟩ := h
  refine zbody (M := mX2_replace) (L0 := [_, _, _, _, _]) hl (by simp [Value.category]) (Nat.le_of_ble_eq_true rfl) (by decide +kernel) rfl ?_
  intro p e s m args below meth c C hX hnm hret
  replace C : zC z p l s m args meth c cX2_replace RX2 5 := C
  replace hret : meth.sig.returnType = (some .int) := hret
  obtain ⟨c8, hc8, he8⟩ := hc8
  refine z_aload_n C dX2_replace_0 rfl ?_
  refine z_iload_n C dX2_replace_1 rfl ?_
  refine z_callV C zm_X2_checkPlace zl_X2_169 (c_checkPlace hl hH x) dX2_replace_2 (by first | assumption | exact zk_eq | exact zk_ne (by first | assumption | exact zk_eq | exact zk_ne (by first | assumption | exact zk_eq | exact zk_ne (by first | assumption | exact zk_eq | exact zk_ne (by first | assumption | exact zk_eq | exact zk_ne (by first | assumption | exact zk_eq) (by first | decide | omega)) (by first | decide | omega)) (by first | decide | omega)) (by first | decide | omega)) (by first | decide | omega)) (by rfl) (by rfl) (by rfl) (by exact Nat.le_of_ble_eq_true rfl) rfl (by exact ⟨Nat.le_of_ble_eq_true rfl, Nat.le_of_ble_eq_true rfl⟩) (by first | exact ⟨Nat.le_of_ble_eq_true rfl, Nat.le_of_ble_eq_true rfl⟩ | (simp only [zrm]; omega)) (fun E w1 h => z_xout C hX (by obtain ⟨rfl, q, rfl⟩ := h; exact ⟨by simp only [hReplace, if_pos q], hHH, zFh.refl _⟩) (by first | exact Nat.le_of_ble_eq_true rfl | omega) (by first | exact Nat.le_of_ble_eq_true rfl | omega)) (fun r w1 hq => ?_)
  obtain ⟨c1, c2, rfl, rfl⟩ := hq
  have q0 : ¬ (x < 0 ∨ ¬ x < hi 8) := fun h => h.elim c1 (fun h => h c2)
  rw [he8] at c2
  obtain ⟨j, hj, rfl⟩ := nI_below c1 c2 (by omega)
  have hjc : (nI j).toNatClampNeg = j := nI_clamp (by omega)
  refine z_aload_n C dX2_replace_5 rfl ?_
  refine z_iload_n C dX2_replace_6 rfl ?_
  refine z_callV C zm_X2_isOpen zl_X2_172 (c_isOpen hl hH (nI j)) dX2_replace_7 (by first | assumption | exact zk_eq | exact zk_ne (by first | assumption | exact zk_eq | exact zk_ne (by first | assumption | exact zk_eq | exact zk_ne (by first | assumption | exact zk_eq | exact zk_ne (by first | assumption | exact zk_eq | exact zk_ne (by first | assumption | exact zk_eq) (by first | decide | omega)) (by first | decide | omega)) (by first | decide | omega)) (by first | decide | omega)) (by first | decide | omega)) (by rfl) (by rfl) (by rfl) (by exact Nat.le_of_ble_eq_true rfl) rfl (by exact ⟨Nat.le_of_ble_eq_true rfl, Nat.le_of_ble_eq_true rfl⟩) (by first | exact ⟨Nat.le_of_ble_eq_true rfl, Nat.le_of_ble_eq_true rfl⟩ | (simp only [zrm]; omega)) (fun _ _ h => z_xno h) (fun r w1 hq => ?_)
  obtain ⟨rfl, rfl⟩ := hq
  refine z_if_ne C 23 dX2_replace_10 (by decide) (fun c3 => ?_) (fun c3 => ?_)
  · have c4 : hold wk (nI j) ts = -1 := by simpa using zb_tt c3
    refine z_aload_n C dX2_replace_23 rfl ?_
    refine z_getf C zf_X2_37 dX2_replace_24 (by first | assumption | exact zk_eq | exact zk_ne (by first | assumption | exact zk_eq | exact zk_ne (by first | assumption | exact zk_eq | exact zk_ne (by first | assumption | exact zk_eq | exact zk_ne (by first | assumption | exact zk_eq | exact zk_ne (by first | assumption | exact zk_eq) (by first | decide | omega)) (by first | decide | omega)) (by first | decide | omega)) (by first | decide | omega)) (by first | decide | omega)) (by rfl) ?_
    refine z_iload_n C dX2_replace_27 rfl ?_
    refine z_iald C dX2_replace_28 (by first | assumption | exact zk_eq | exact zk_ne (by first | assumption | exact zk_eq | exact zk_ne (by first | assumption | exact zk_eq | exact zk_ne (by first | assumption | exact zk_eq | exact zk_ne (by first | assumption | exact zk_eq | exact zk_ne (by first | assumption | exact zk_eq) (by first | decide | omega)) (by first | decide | omega)) (by first | decide | omega)) (by first | decide | omega)) (by first | decide | omega)) (by first | rfl | assumption) (by first | assumption | omega | decide) (by first | decide | omega) ?_
    refine z_istore_n C (L1 := [_, _, _, _, _]) dX2_replace_29 (Nat.le_of_ble_eq_true rfl) rfl ?_
    refine z_aload_n C dX2_replace_30 rfl ?_
    refine z_callV C zm_X2_rememberTurn zl_X2_120 (c_rememberTurn hl hH) dX2_replace_31 (by first | assumption | exact zk_eq | exact zk_ne (by first | assumption | exact zk_eq | exact zk_ne (by first | assumption | exact zk_eq | exact zk_ne (by first | assumption | exact zk_eq | exact zk_ne (by first | assumption | exact zk_eq | exact zk_ne (by first | assumption | exact zk_eq) (by first | decide | omega)) (by first | decide | omega)) (by first | decide | omega)) (by first | decide | omega)) (by first | decide | omega)) (by rfl) (by rfl) (by rfl) (by exact Nat.le_of_ble_eq_true rfl) rfl (by exact ⟨Nat.le_of_ble_eq_true rfl, Nat.le_of_ble_eq_true rfl⟩) (by first | exact ⟨Nat.le_of_ble_eq_true rfl, Nat.le_of_ble_eq_true rfl⟩ | (simp only [zrm]; omega)) (fun _ _ h => z_xno h) (fun r w3 hq => ?_)
    obtain ⟨rfl, g1, g2⟩ := hq
    refine z_iconst C (0) dX2_replace_34 (by decide) ?_
    refine z_istore_n C (L1 := [_, _, _, _, _]) dX2_replace_35 (Nat.le_of_ble_eq_true rfl) rfl ?_
    have hsp : hReplace (ts, wk, hi, co, gu, nd) (nI j) = (.inr (rpl co (nI j) (nd j) ts ts wk hi).1, ((rpl co (nI j) (nd j) ts ts wk hi).2.1, (rpl co (nI j) (nd j) ts ts wk hi).2.2.1, (rpl co (nI j) (nd j) ts ts wk hi).2.2.2, co, gu, nd)) := by
      simp only [hReplace, hRpl, if_neg q0, if_pos c4, hjc]
    refine z_loop (fun n cs ss L w2 => ∃ (i : Nat) (ts2 : List Nat) (wk2 : Nat → Nat → Int32), n = ts.length - i ∧ cs = 0 + 1 + 30 + i ∧ ss = 0 + 6 + 1920 + 64 * i ∧ L = [some (.ref (ad 0)), some (.int (nI j)), some (.int (nd j)), some (.int (nI i)), none] ∧ i ≤ ts.length ∧ rpl co (nI j) (nd j) (ts.drop i) ts2 wk2 hi = rpl co (nI j) (nd j) ts ts wk hi ∧ HP z ad co gu nd w2 ts2 wk2 hi (ts.map (zWa ad)) tk W P ∧ ts2.Perm ts ∧ zFh w1 w2)
      ⟨0, ts, wk, rfl, by omega, by omega, rfl, Nat.zero_le _, rfl, g1, List.Perm.refl _, fun j j1 j2 => g2 j (by omega) (by omega) (by omega)⟩ ?_
    rintro n cs ss L w2 ⟨i, ts2, wk2, rfl, hcs, hss, rfl, q1, q2, q3, q4, q5⟩ ih
    have hX := q3
    obtain ⟨b0, -, b3, -, -, -, -, -, am, al2, -, -⟩ := q3
    obtain ⟨md3, rb3, e3, -⟩ := id b3
    rw [List.length_map] at e3
    refine z_iload_n C dX2_replace_36 rfl ?_
    refine z_aload_n C dX2_replace_37 rfl ?_
    refine z_getf C zf_X2_16 dX2_replace_38 (by first | assumption | exact zk_eq | exact zk_ne (by first | assumption | exact zk_eq | exact zk_ne (by first | assumption | exact zk_eq | exact zk_ne (by first | assumption | exact zk_eq | exact zk_ne (by first | assumption | exact zk_eq | exact zk_ne (by first | assumption | exact zk_eq) (by first | decide | omega)) (by first | decide | omega)) (by first | decide | omega)) (by first | decide | omega)) (by first | decide | omega)) (by rfl) ?_
    refine z_callV C zm_Jx4a65c_size_8abf5 zl_X2_67 (c_size hl e3) dX2_replace_41 (by first | assumption | exact zk_eq | exact zk_ne (by first | assumption | exact zk_eq | exact zk_ne (by first | assumption | exact zk_eq | exact zk_ne (by first | assumption | exact zk_eq | exact zk_ne (by first | assumption | exact zk_eq | exact zk_ne (by first | assumption | exact zk_eq) (by first | decide | omega)) (by first | decide | omega)) (by first | decide | omega)) (by first | decide | omega)) (by first | decide | omega)) (by rfl) (by rfl) (by rfl) (by exact Nat.le_of_ble_eq_true rfl) rfl (by exact ⟨Nat.le_of_ble_eq_true rfl, Nat.le_of_ble_eq_true rfl⟩) (by first | exact ⟨Nat.le_of_ble_eq_true rfl, Nat.le_of_ble_eq_true rfl⟩ | (simp only [zrm]; omega)) (fun _ _ h => z_xno h) (fun r w1 hq => ?_)
    obtain ⟨rfl, rfl⟩ := hq
    refine z_icmp_ge C 110 dX2_replace_44 (by decide) (fun c5 => ?_) (fun c5 => ?_)
    · have hi2 := ge_of_ge (by omega) (by omega) c5
      refine z_iconst C (-1) dX2_replace_110 (by decide) ?_
      refine z_iret C hret dX2_replace_111 (by first | exact Nat.le_of_ble_eq_true rfl | omega) (by first | exact Nat.le_of_ble_eq_true rfl | omega) ?_
      rw [List.drop_eq_nil_of_le hi2] at q2
      rw [← q2] at hsp
      exact ZO.fin hsp ⟨ad, _, tk, W, P, rfl, hX, m7, hm7, hm8, pab_lt q4 hlt⟩ q5
    have hi2 : i < ts.length := lt_of_nge (by omega) (by omega) c5
    have hmem : ts[i] ∈ ts2 := q4.mem_iff.mpr (List.getElem_mem hi2)
    have en := (am _ hmem).1
    rw [List.drop_eq_getElem_cons hi2] at q2
    simp only [rpl] at q2
    refine z_aload_n C dX2_replace_47 rfl ?_
    refine z_getf C zf_X2_16 dX2_replace_48 (by first | assumption | exact zk_eq | exact zk_ne (by first | assumption | exact zk_eq | exact zk_ne (by first | assumption | exact zk_eq | exact zk_ne (by first | assumption | exact zk_eq | exact zk_ne (by first | assumption | exact zk_eq | exact zk_ne (by first | assumption | exact zk_eq) (by first | decide | omega)) (by first | decide | omega)) (by first | decide | omega)) (by first | decide | omega)) (by first | decide | omega)) (by rfl) ?_
    refine z_iload_n C dX2_replace_51 rfl ?_
    refine z_callV C zm_Jx4a65c_get_915e3 zl_X2_123 (c_get (i := i) hl b3 (by simpa using hi2)) dX2_replace_52 (by first | assumption | exact zk_eq | exact zk_ne (by first | assumption | exact zk_eq | exact zk_ne (by first | assumption | exact zk_eq | exact zk_ne (by first | assumption | exact zk_eq | exact zk_ne (by first | assumption | exact zk_eq | exact zk_ne (by first | assumption | exact zk_eq) (by first | decide | omega)) (by first | decide | omega)) (by first | decide | omega)) (by first | decide | omega)) (by first | decide | omega)) (by rfl) (by rfl) (by rfl) (by exact Nat.le_of_ble_eq_true rfl) rfl (by exact ⟨Nat.le_of_ble_eq_true rfl, Nat.le_of_ble_eq_true rfl⟩) (by first | exact ⟨Nat.le_of_ble_eq_true rfl, Nat.le_of_ble_eq_true rfl⟩ | (simp only [zrm]; omega)) (fun _ _ h => z_xno h) (fun r w1 hq => ?_)
    obtain ⟨rfl, rfl⟩ := hq
    rw [List.getElem_map]
    refine z_castW C zk_X2_78 dX2_replace_55 (by first | assumption | exact zk_eq | exact zk_ne (by first | assumption | exact zk_eq | exact zk_ne (by first | assumption | exact zk_eq | exact zk_ne (by first | assumption | exact zk_eq | exact zk_ne (by first | assumption | exact zk_eq | exact zk_ne (by first | assumption | exact zk_eq) (by first | decide | omega)) (by first | decide | omega)) (by first | decide | omega)) (by first | decide | omega)) (by first | decide | omega)) ?_
    refine z_astore C (L1 := [_, _, _, _, _]) dX2_replace_58 (Nat.le_of_ble_eq_true rfl) rfl ?_
    refine z_aload C dX2_replace_60 rfl ?_
    refine z_callV C zm_X1_isReady zl_X2_178 (c_isReady hl en) dX2_replace_62 (by first | assumption | exact zk_eq | exact zk_ne (by first | assumption | exact zk_eq | exact zk_ne (by first | assumption | exact zk_eq | exact zk_ne (by first | assumption | exact zk_eq | exact zk_ne (by first | assumption | exact zk_eq | exact zk_ne (by first | assumption | exact zk_eq) (by first | decide | omega)) (by first | decide | omega)) (by first | decide | omega)) (by first | decide | omega)) (by first | decide | omega)) (by rfl) (by rfl) (by rfl) (by exact Nat.le_of_ble_eq_true rfl) rfl (by exact ⟨Nat.le_of_ble_eq_true rfl, Nat.le_of_ble_eq_true rfl⟩) (by first | exact ⟨Nat.le_of_ble_eq_true rfl, Nat.le_of_ble_eq_true rfl⟩ | (simp only [zrm]; omega)) (fun _ _ h => z_xno h) (fun r w1 hq => ?_)
    obtain ⟨rfl, rfl⟩ := hq
    refine z_if_eq C 104 dX2_replace_65 (by decide) (fun c6 => ?_) (fun c6 => ?_)
    · have c7 := zb_eq0.mp c6
      rw [if_neg (by simp [c7])] at q2
      refine z_iinc C (L1 := [_, _, _, _, _]) _ dX2_replace_104 rfl (by first | exact zinc | rfl) rfl ?_
      refine z_goto C 36 dX2_replace_107 (by decide) ?_
      refine z_widen (c2 := 0 + 1 + 30 + (i + 1)) (s2 := 0 + 6 + 1920 + 64 * (i + 1)) (by omega) (by omega) ?_
      exact z_fgt (ih (ts.length - (i + 1)) _ _ _ _ (by omega) ⟨i + 1, ts2, wk2, rfl, rfl, rfl, rfl, hi2, q2, hX, q4, q5⟩) (by simp [zle])
    have c7 := zb_tt c6
    refine z_aload C dX2_replace_68 rfl ?_
    refine z_iload_n C dX2_replace_70 rfl ?_
    refine z_callV C zm_X1_hasSkill zl_X2_181 (c_hasSkill hl en (nd j)) dX2_replace_71 (by first | assumption | exact zk_eq | exact zk_ne (by first | assumption | exact zk_eq | exact zk_ne (by first | assumption | exact zk_eq | exact zk_ne (by first | assumption | exact zk_eq | exact zk_ne (by first | assumption | exact zk_eq | exact zk_ne (by first | assumption | exact zk_eq) (by first | decide | omega)) (by first | decide | omega)) (by first | decide | omega)) (by first | decide | omega)) (by first | decide | omega)) (by rfl) (by rfl) (by rfl) (by exact Nat.le_of_ble_eq_true rfl) rfl (by exact ⟨Nat.le_of_ble_eq_true rfl, Nat.le_of_ble_eq_true rfl⟩) (by first | exact ⟨Nat.le_of_ble_eq_true rfl, Nat.le_of_ble_eq_true rfl⟩ | (simp only [zrm]; omega)) (fun _ _ h => z_xno h) (fun r w1 hq => ?_)
    obtain ⟨rfl, rfl⟩ := hq
    refine z_if_eq C 104 dX2_replace_74 (by decide) (fun c8 => ?_) (fun c8 => ?_)
    · have c9 := zb_eq0.mp c8
      rw [if_neg (by simp [c9])] at q2
      refine z_iinc C (L1 := [_, _, _, _, _]) _ dX2_replace_104 rfl (by first | exact zinc | rfl) rfl ?_
      refine z_goto C 36 dX2_replace_107 (by decide) ?_
      refine z_widen (c2 := 0 + 1 + 30 + (i + 1)) (s2 := 0 + 6 + 1920 + 64 * (i + 1)) (by omega) (by omega) ?_
      exact z_fgt (ih (ts.length - (i + 1)) _ _ _ _ (by omega) ⟨i + 1, ts2, wk2, rfl, rfl, rfl, rfl, hi2, q2, hX, q4, q5⟩) (by simp [zle])
    have c9 := zb_tt c8
    rw [if_pos (by simp [c7, c9])] at q2
    refine z_aload C dX2_replace_77 rfl ?_
    refine z_getf C zf_X2_112 dX2_replace_79 (by first | assumption | exact zk_eq | exact zk_ne (by first | assumption | exact zk_eq | exact zk_ne (by first | assumption | exact zk_eq | exact zk_ne (by first | assumption | exact zk_eq | exact zk_ne (by first | assumption | exact zk_eq | exact zk_ne (by first | assumption | exact zk_eq) (by first | decide | omega)) (by first | decide | omega)) (by first | decide | omega)) (by first | decide | omega)) (by first | decide | omega)) (by rfl) ?_
    refine z_if_ne C 98 dX2_replace_82 (by decide) (fun c10 => ?_) (fun c10 => ?_)
    · rw [if_neg c10] at q2
      refine z_aload_n C dX2_replace_98 rfl ?_
      refine z_aload C dX2_replace_99 rfl ?_
      refine z_callV C zm_X2_countRefusal zl_X2_188 (c_countRefusal hl hX hmem) dX2_replace_101 (by first | assumption | exact zk_eq | exact zk_ne (by first | assumption | exact zk_eq | exact zk_ne (by first | assumption | exact zk_eq | exact zk_ne (by first | assumption | exact zk_eq | exact zk_ne (by first | assumption | exact zk_eq | exact zk_ne (by first | assumption | exact zk_eq) (by first | decide | omega)) (by first | decide | omega)) (by first | decide | omega)) (by first | decide | omega)) (by first | decide | omega)) (by rfl) (by rfl) (by rfl) (by exact Nat.le_of_ble_eq_true rfl) rfl (by exact ⟨Nat.le_of_ble_eq_true rfl, Nat.le_of_ble_eq_true rfl⟩) (by first | exact ⟨Nat.le_of_ble_eq_true rfl, Nat.le_of_ble_eq_true rfl⟩ | (simp only [zrm]; omega)) (fun _ _ h => z_xno h) (fun r w6 hq => ?_)
      obtain ⟨rfl, g5, g6⟩ := hq
      refine z_iinc C (L1 := [_, _, _, _, _]) _ dX2_replace_104 rfl (by first | exact zinc | rfl) rfl ?_
      refine z_goto C 36 dX2_replace_107 (by decide) ?_
      exact z_fgt (ih (ts.length - (i + 1)) _ _ _ _ (by omega) ⟨i + 1, _, _, rfl, by omega, by omega, rfl, hi2, q2, g5, (zrefT_perm hmem).trans q4, zFh.tr q5 g6⟩) (by simp [zle])
    · rw [if_pos c10] at q2
      refine z_aload_n C dX2_replace_85 rfl ?_
      refine z_aload C dX2_replace_86 rfl ?_
      refine z_iload_n C dX2_replace_88 rfl ?_
      refine z_callV C zm_X2_startWork zl_X2_184 (c_startWork hl hX hmem (nI j)) dX2_replace_89 (by first | assumption | exact zk_eq | exact zk_ne (by first | assumption | exact zk_eq | exact zk_ne (by first | assumption | exact zk_eq | exact zk_ne (by first | assumption | exact zk_eq | exact zk_ne (by first | assumption | exact zk_eq | exact zk_ne (by first | assumption | exact zk_eq) (by first | decide | omega)) (by first | decide | omega)) (by first | decide | omega)) (by first | decide | omega)) (by first | decide | omega)) (by rfl) (by rfl) (by rfl) (by exact Nat.le_of_ble_eq_true rfl) rfl (by exact ⟨Nat.le_of_ble_eq_true rfl, Nat.le_of_ble_eq_true rfl⟩) (by first | exact ⟨Nat.le_of_ble_eq_true rfl, Nat.le_of_ble_eq_true rfl⟩ | (simp only [zrm]; omega)) (fun _ _ h => z_xno h) (fun r w6 hq => ?_)
      obtain ⟨rfl, g5, g6⟩ := hq
      have hperm := pab_erase_perm (wk := zstaW hi wk2 ts[i] (nI j)) hmem
      have en6 := (g5.2.2.2.2.2.2.2.2.1 _ (hperm.mem_iff.mpr hmem)).1
      refine z_aload C dX2_replace_92 rfl ?_
      refine z_getf C zf_X2_87 dX2_replace_94 (by first | assumption | exact zk_eq | exact zk_ne (by first | assumption | exact zk_eq | exact zk_ne (by first | assumption | exact zk_eq | exact zk_ne (by first | assumption | exact zk_eq | exact zk_ne (by first | assumption | exact zk_eq | exact zk_ne (by first | assumption | exact zk_eq) (by first | decide | omega)) (by first | decide | omega)) (by first | decide | omega)) (by first | decide | omega)) (by first | decide | omega)) (by rfl) ?_
      refine z_iret C hret dX2_replace_97 (by first | exact Nat.le_of_ble_eq_true rfl | omega) (by first | exact Nat.le_of_ble_eq_true rfl | omega) ?_
      rw [← q2] at hsp
      have e0 : zstaW hi wk2 ts[i] (nI j) ts[i] 0 = wk2 ts[i] 0 := by
        unfold zstaW
        rw [va_up_self, va_up_ne _ _ (by decide), va_up_ne _ _ (by decide), va_up_ne _ _ (by decide)]
      rw [e0]
      refine ZO.fin hsp ⟨ad, _, tk, W, P, rfl, g5, m7, hm7, ?_, pab_lt (hperm.trans q4) hlt⟩ (zFh.tr q5 g6)
      exact (va_up_ne hi 1 (show 7 ≠ 12 by decide)).trans hm8
  · refine z_throw C zt_176_71 hX dX2_replace_13 dX2_replace_16 dX2_replace_17 dX2_replace_19 dX2_replace_22 rfl (by exact Nat.le_of_ble_eq_true rfl) (by exact Nat.le_of_ble_eq_true rfl) (by first | exact Nat.le_of_ble_eq_true rfl | (simp only [zrm]; omega)) (by first | exact Nat.le_of_ble_eq_true rfl | (simp only [zrm]; omega)) (by first | exact Nat.le_of_ble_eq_true rfl | omega) (by first | exact Nat.le_of_ble_eq_true rfl | omega) ?_
    exact ⟨by simp only [hReplace, if_neg q0, if_neg (show ¬ hold wk (nI j) ts = -1 by simpa using zb_eq0.mp c3)], hHH, zFh.refl _⟩
end ZH11
