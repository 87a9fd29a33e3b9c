/-! HiringHall: lists of the turn, matching of places, dispatching's parts -/
/-- past those of the board who have more hours; what stands above, from below -/
def riseR (wk : Nat → Nat → Int32) (x : Nat) : List Nat → List Nat
  | [] => [x]
  | y :: r => if wk y 1 = wk x 1 ∧ wk x 5 < wk y 5 then y :: riseR wk x r else x :: y :: r
/-- how many places of two lists hold others -/
def disp : List Nat → List Nat → Nat
  | a :: l, b :: m => disp l m + (if a = b then 0 else 1)
  | _, _ => 0
theorem disp_le : ∀ l m : List Nat, disp l m ≤ l.length
  | a :: l, b :: m => by
    have := disp_le l m
    simp only [disp, List.length_cons]
    split <;> omega
  | [], m => by simp [disp]
  | a :: l, [] => by simp [disp]
/-- the skills of the places below c that are open, the last first -/
def opl (wk : Nat → Nat → Int32) (nd : Nat → Int32) (ts : List Nat) : Nat → List Int32
  | 0 => []
  | c + 1 => if hold wk (nI c) ts = -1 then nd c :: opl wk nd ts c else opl wk nd ts c
theorem opl_le {wk : Nat → Nat → Int32} {nd : Nat → Int32} {ts : List Nat} : ∀ c : Nat, (opl wk nd ts c).length ≤ c
  | 0 => Nat.le_refl _
  | c + 1 => by
    have := opl_le (wk := wk) (nd := nd) (ts := ts) c
    simp only [opl]
    split <;> simp <;> omega
theorem opl_mem {wk : Nat → Nat → Int32} {nd : Nat → Int32} {ts : List Nat} {p : Nat} (h : hold wk (nI p) ts = -1) : ∀ c : Nat, p < c → nd p ∈ opl wk nd ts c
  | 0, hp => absurd hp (Nat.not_lt_zero _)
  | c + 1, hp => by
    by_cases e : p = c
    · subst e
      simp [opl, h]
    · have := opl_mem (nd := nd) h c (by omega)
      simp only [opl]
      split
      · exact List.mem_cons_of_mem _ this
      · exact this
/-- the lowest open place that the worker n can fill so that those after can be placed -/
def lowp (wk : Nat → Nat → Int32) (nd : Nat → Int32) (ts : List Nat) (n : Nat) (W P : List Int32) (c : Nat) : Option Nat := (List.range c).find? (fun p => decide (hold wk (nI p) ts = -1) && (skl (wk n 2) (nd p) && zHall W (P.erase (nd p))))
theorem set_at (L : List Nat) (a c : Nat) (R : List Nat) : (L ++ a :: R).set L.length c = L ++ c :: R := by
  induction L with
  | nil => rfl
  | cons h t ih => simp [ih]
section ZH3
variable {l : Launch} {z : zT} {w : zW} {ad : Nat → Nat} {co gu nd : Nat → Int32} {ts : List Nat} {wk : Nat → Nat → Int32} {hi : Nat → Int32} {tb tk : List Nat} {W P : List Int32}
theorem c_rememberTurn (hl : l.stackTraces = false) (h : HP z ad co gu nd w ts wk hi tb tk W P) : ZM l z mX2_rememberTurn 8 30 1920 [.ref (ad 0)] w (fun r w1 => r = none ∧ HP z ad co gu nd w1 ts wk hi (ts.map (zWa ad)) tk W P ∧ zFk 3 w w1) zNo := by
  have hH := h
  obtain ⟨a0, a1, a3, -, -, -, -, -, -, al, -, -⟩ := h
  obtain ⟨md3, b3, e3, -⟩ := id a3
  refine zbody (M := mX2_rememberTurn) (L0 := [_, _]) hl (by simp [Value.category]) (Nat.le_of_ble_eq_true rfl) (by decide +kernel) rfl ?_
  intro p e s m args below meth c C hX hnm hret
  replace C : zC z p l s m args meth c cX2_rememberTurn RX2 2 := C
  replace hret : meth.sig.returnType = none := hret
  refine z_aload_n C dX2_rememberTurn_0 rfl ?_
  refine z_getf C zf_X2_16 dX2_rememberTurn_1 (by first | assumption | exact zk_eq | exact zk_ne (by first | assumption | exact zk_eq | exact zk_ne (by first | assumption | exact zk_eq | exact zk_ne (by first | assumption | exact zk_eq | exact zk_ne (by first | assumption | exact zk_eq | exact zk_ne (by first | assumption | exact zk_eq) (by first | decide | omega)) (by first | decide | omega)) (by first | decide | omega)) (by first | decide | omega)) (by first | decide | omega)) (by rfl) ?_
  refine z_callV C zm_Jx4a65c_clear_da8c8 zl_X2_232 (c_clear hl a3) dX2_rememberTurn_4 (by first | assumption | exact zk_eq | exact zk_ne (by first | assumption | exact zk_eq | exact zk_ne (by first | assumption | exact zk_eq | exact zk_ne (by first | assumption | exact zk_eq | exact zk_ne (by first | assumption | exact zk_eq | exact zk_ne (by first | assumption | exact zk_eq) (by first | decide | omega)) (by first | decide | omega)) (by first | decide | omega)) (by first | decide | omega)) (by first | decide | omega)) (by rfl) (by rfl) (by rfl) (by exact Nat.le_of_ble_eq_true rfl) rfl (by exact ⟨Nat.le_of_ble_eq_true rfl, Nat.le_of_ble_eq_true rfl⟩) (by first | exact ⟨Nat.le_of_ble_eq_true rfl, Nat.le_of_ble_eq_true rfl⟩ | (simp only [zrm]; omega)) (fun _ _ h => z_xno h) (fun r w1 hq => ?_)
  obtain ⟨rfl, g1, g2⟩ := hq
  refine z_iconst C (0) dX2_rememberTurn_7 (by decide) ?_
  refine z_istore_n C (L1 := [_, _]) dX2_rememberTurn_8 (Nat.le_of_ble_eq_true rfl) rfl ?_
  refine z_loop (fun n cs ss L w2 => ∃ i : Nat, n = ts.length - i ∧ cs = 1 * i ∧ ss = 64 * i ∧ L = [some (.ref (ad 0)), some (.int (nI i))] ∧ i ≤ ts.length ∧ HP z ad co gu nd w2 ts wk hi ((ts.map (zWa ad)).take i) tk W P ∧ zFk 3 w w2)
    ⟨0, rfl, rfl, rfl, rfl, Nat.zero_le _, hH.stb g1 g2, g2⟩ ?_
  rintro n cs ss L w2 ⟨i, rfl, rfl, rfl, rfl, q1, q2, q3⟩ ih
  have hH2 := q2
  obtain ⟨a0, a1, a3, -, -, -, -, -, -, -, -, -⟩ := q2
  obtain ⟨md1, b1, e1, -⟩ := id a1
  obtain ⟨md3, b3, e3, -⟩ := id a3
  rw [List.length_map] at e1
  refine z_iload_n C dX2_rememberTurn_9 rfl ?_
  refine z_aload_n C dX2_rememberTurn_10 rfl ?_
  refine z_getf C zf_X2_10 dX2_rememberTurn_11 (by first | assumption | exact zk_eq | exact zk_ne (by first | assumption | exact zk_eq | exact zk_ne (by first | assumption | exact zk_eq | exact zk_ne (by first | assumption | exact zk_eq | exact zk_ne (by first | assumption | exact zk_eq | exact zk_ne (by first | assumption | exact zk_eq) (by first | decide | omega)) (by first | decide | omega)) (by first | decide | omega)) (by first | decide | omega)) (by first | decide | omega)) (by rfl) ?_
  refine z_callV C zm_Jx4a65c_size_8abf5 zl_X2_67 (c_size hl e1) dX2_rememberTurn_14 (by first | assumption | exact zk_eq | exact zk_ne (by first | assumption | exact zk_eq | exact zk_ne (by first | assumption | exact zk_eq | exact zk_ne (by first | assumption | exact zk_eq | exact zk_ne (by first | assumption | exact zk_eq | exact zk_ne (by first | assumption | exact zk_eq) (by first | decide | omega)) (by first | decide | omega)) (by first | decide | omega)) (by first | decide | omega)) (by first | decide | omega)) (by rfl) (by rfl) (by rfl) (by exact Nat.le_of_ble_eq_true rfl) rfl (by exact ⟨Nat.le_of_ble_eq_true rfl, Nat.le_of_ble_eq_true rfl⟩) (by first | exact ⟨Nat.le_of_ble_eq_true rfl, Nat.le_of_ble_eq_true rfl⟩ | (simp only [zrm]; omega)) (fun _ _ h => z_xno h) (fun r w1 hq => ?_)
  obtain ⟨rfl, rfl⟩ := hq
  refine z_icmp_ge C 45 dX2_rememberTurn_17 (by decide) (fun c1 => ?_) (fun c1 => ?_)
  · have hi2 := ge_of_ge (by omega) (by omega) c1
    refine z_widen (c2 := 30) (s2 := 1920) (by omega) (by omega) ?_
    refine z_vret C hret dX2_rememberTurn_45 (by first | exact Nat.le_of_ble_eq_true rfl | omega) (by first | exact Nat.le_of_ble_eq_true rfl | omega) ?_
    rw [List.take_of_length_le (by simpa using hi2)] at hH2
    exact ⟨rfl, hH2, q3⟩
  · have hi2 : i < ts.length := lt_of_nge (by omega) (by omega) c1
    refine z_aload_n C dX2_rememberTurn_20 rfl ?_
    refine z_getf C zf_X2_16 dX2_rememberTurn_21 (by first | assumption | exact zk_eq | exact zk_ne (by first | assumption | exact zk_eq | exact zk_ne (by first | assumption | exact zk_eq | exact zk_ne (by first | assumption | exact zk_eq | exact zk_ne (by first | assumption | exact zk_eq | exact zk_ne (by first | assumption | exact zk_eq) (by first | decide | omega)) (by first | decide | omega)) (by first | decide | omega)) (by first | decide | omega)) (by first | decide | omega)) (by rfl) ?_
    refine z_aload_n C dX2_rememberTurn_24 rfl ?_
    refine z_getf C zf_X2_10 dX2_rememberTurn_25 (by first | assumption | exact zk_eq | exact zk_ne (by first | assumption | exact zk_eq | exact zk_ne (by first | assumption | exact zk_eq | exact zk_ne (by first | assumption | exact zk_eq | exact zk_ne (by first | assumption | exact zk_eq | exact zk_ne (by first | assumption | exact zk_eq) (by first | decide | omega)) (by first | decide | omega)) (by first | decide | omega)) (by first | decide | omega)) (by first | decide | omega)) (by rfl) ?_
    refine z_iload_n C dX2_rememberTurn_28 rfl ?_
    refine z_callV C zm_Jx4a65c_get_915e3 zl_X2_123 (c_get (i := i) hl a1 (by simpa using hi2)) dX2_rememberTurn_29 (by first | assumption | exact zk_eq | exact zk_ne (by first | assumption | exact zk_eq | exact zk_ne (by first | assumption | exact zk_eq | exact zk_ne (by first | assumption | exact zk_eq | exact zk_ne (by first | assumption | exact zk_eq | exact zk_ne (by first | assumption | exact zk_eq) (by first | decide | omega)) (by first | decide | omega)) (by first | decide | omega)) (by first | decide | omega)) (by first | decide | omega)) (by rfl) (by rfl) (by rfl) (by exact Nat.le_of_ble_eq_true rfl) rfl (by exact ⟨Nat.le_of_ble_eq_true rfl, Nat.le_of_ble_eq_true rfl⟩) (by first | exact ⟨Nat.le_of_ble_eq_true rfl, Nat.le_of_ble_eq_true rfl⟩ | (simp only [zrm]; omega)) (fun _ _ h => z_xno h) (fun r w1 hq => ?_)
    obtain ⟨rfl, rfl⟩ := hq
    have e2 := hH2.wk1 hi2
    rw [List.getElem_map]
    refine z_castW C zk_X2_78 dX2_rememberTurn_32 (by first | assumption | exact zk_eq | exact zk_ne (by first | assumption | exact zk_eq | exact zk_ne (by first | assumption | exact zk_eq | exact zk_ne (by first | assumption | exact zk_eq | exact zk_ne (by first | assumption | exact zk_eq | exact zk_ne (by first | assumption | exact zk_eq) (by first | decide | omega)) (by first | decide | omega)) (by first | decide | omega)) (by first | decide | omega)) (by first | decide | omega)) ?_
    have hz := hH2.zwk
    refine z_callV C zm_Jx4a65c_add_9ea2d zl_X2_233 (c_addE hl a3 (by simp; omega) (fun y hy => hz y (List.mem_of_mem_take hy)) ⟨100 + ts[i], _, by omega, e2⟩ (by decide)) dX2_rememberTurn_35 (by first | assumption | exact zk_eq | exact zk_ne (by first | assumption | exact zk_eq | exact zk_ne (by first | assumption | exact zk_eq | exact zk_ne (by first | assumption | exact zk_eq | exact zk_ne (by first | assumption | exact zk_eq | exact zk_ne (by first | assumption | exact zk_eq) (by first | decide | omega)) (by first | decide | omega)) (by first | decide | omega)) (by first | decide | omega)) (by first | decide | omega)) (by rfl) (by rfl) (by rfl) (by exact Nat.le_of_ble_eq_true rfl) rfl (by exact ⟨Nat.le_of_ble_eq_true rfl, Nat.le_of_ble_eq_true rfl⟩) (by first | exact ⟨Nat.le_of_ble_eq_true rfl, Nat.le_of_ble_eq_true rfl⟩ | (simp only [zrm]; omega)) (fun _ _ h => z_xno h) (fun r w1 hq => ?_)
    obtain ⟨rfl, g3, g4⟩ := hq
    refine z_pop C dX2_rememberTurn_38 rfl ?_
    refine z_iinc C (L1 := [_, _]) _ dX2_rememberTurn_39 rfl (by first | exact zinc | rfl) rfl ?_
    refine z_goto C 9 dX2_rememberTurn_42 (by decide) ?_
    refine ih (ts.length - (i + 1)) _ _ _ _ (by omega) ⟨i + 1, rfl, by omega, by omega, rfl, hi2, ?_, fun j j1 j2 j3 => (g4 j j1 j2 j3).trans (q3 j j1 j2 j3)⟩
    refine hH2.stb ?_ g4
    rw [List.take_succ_eq_append_getElem (by simpa using hi2), List.getElem_map]
    exact g3
theorem c_riseByHours (hl : l.stackTraces = false) (h : HP z ad co gu nd w ts wk hi tb tk W P) {A B : List Nat} {x : Nat} (hts : ts = A.reverse ++ x :: B) : ZM l z mX2_riseByHours 3 0 0 [.ref (ad 0), .int (nI A.length)] w (fun r w1 => r = none ∧ HP z ad co gu nd w1 ((riseR wk x A).reverse ++ B) wk hi tb tk W P ∧ zFk 1 w w1) zNo := by
  subst hts
  refine zbody (M := mX2_riseByHours) (L0 := [_, _, _, _, _]) hl (by simp [Value.category]) (Nat.le_of_ble_eq_true rfl) (by decide +kernel) rfl ?_
  intro p e s m args below meth c C hX hnm hret
  replace C : zC z p l s m args meth c cX2_riseByHours RX2 5 := C
  replace hret : meth.sig.returnType = none := hret
  refine z_iload_n C dX2_riseByHours_0 rfl ?_
  refine z_istore_n C (L1 := [_, _, _, _, _]) dX2_riseByHours_1 (Nat.le_of_ble_eq_true rfl) rfl ?_
  refine z_fgt (L2 := [some (.ref (ad 0)), some (.int (nI A.length)), some (.int (nI A.length)), none, none]) ?_ (by simp [zle])
  refine z_loop (fun n cs ss L w2 => ∃ A2 B2 : List Nat, n = A2.length ∧ cs = 0 ∧ ss = 0 ∧ L = [some (.ref (ad 0)), some (.int (nI A.length)), some (.int (nI A2.length)), none, none] ∧ (riseR wk x A2).reverse ++ B2 = (riseR wk x A).reverse ++ B ∧ HP z ad co gu nd w2 (A2.reverse ++ x :: B2) wk hi tb tk W P ∧ zFk 1 w w2)
    ⟨A, B, rfl, rfl, rfl, rfl, rfl, h, fun _ _ _ _ => rfl⟩ ?_
  rintro n cs ss L w2 ⟨A2, B2, rfl, rfl, rfl, rfl, q1, q2, q3⟩ ih
  have hH2 := q2
  obtain ⟨a0, a1, -, -, -, -, -, -, am, al, an, -⟩ := q2
  obtain ⟨md1, b1, e1, -⟩ := id a1
  have hlen : (A2.reverse ++ x :: B2).length = A2.length + (B2.length + 1) := by simp
  rw [List.length_map, hlen] at e1
  refine z_iload_n C dX2_riseByHours_2 rfl ?_
  refine z_if_le C 98 dX2_riseByHours_3 (by decide) (fun c0 => ?_) (fun c0 => ?_)
  · have hA : A2 = [] := by
      cases A2 with
      | nil => rfl
      | cons y r => exact absurd c0 (nI_nle (by simp) (by simp at hlen al; simp; omega))
    subst hA
    refine z_vret C hret dX2_riseByHours_98 (by first | exact Nat.le_of_ble_eq_true rfl | omega) (by first | exact Nat.le_of_ble_eq_true rfl | omega) ?_
    refine ⟨rfl, ?_, q3⟩
    rw [← q1]
    exact hH2
  cases A2 with
  | nil => exact absurd (Int32.le_refl 0) c0
  | cons y A3 =>
    have el : (y :: A3).length = A3.length + 1 := rfl
    rw [hlen, el] at al
    rw [el]
    refine z_iload_n C dX2_riseByHours_6 rfl ?_
    refine z_aload_n C dX2_riseByHours_7 rfl ?_
    refine z_getf C zf_X2_10 dX2_riseByHours_8 (by first | assumption | exact zk_eq | exact zk_ne (by first | assumption | exact zk_eq | exact zk_ne (by first | assumption | exact zk_eq | exact zk_ne (by first | assumption | exact zk_eq | exact zk_ne (by first | assumption | exact zk_eq | exact zk_ne (by first | assumption | exact zk_eq) (by first | decide | omega)) (by first | decide | omega)) (by first | decide | omega)) (by first | decide | omega)) (by first | decide | omega)) (by rfl) ?_
    refine z_callV C zm_Jx4a65c_size_8abf5 zl_X2_67 (c_size hl e1) dX2_riseByHours_11 (by first | assumption | exact zk_eq | exact zk_ne (by first | assumption | exact zk_eq | exact zk_ne (by first | assumption | exact zk_eq | exact zk_ne (by first | assumption | exact zk_eq | exact zk_ne (by first | assumption | exact zk_eq | exact zk_ne (by first | assumption | exact zk_eq) (by first | decide | omega)) (by first | decide | omega)) (by first | decide | omega)) (by first | decide | omega)) (by first | decide | omega)) (by rfl) (by rfl) (by rfl) (by exact Nat.le_of_ble_eq_true rfl) rfl (by exact ⟨Nat.le_of_ble_eq_true rfl, Nat.le_of_ble_eq_true rfl⟩) (by first | exact ⟨Nat.le_of_ble_eq_true rfl, Nat.le_of_ble_eq_true rfl⟩ | (simp only [zrm]; omega)) (fun _ _ h => z_xno h) (fun r w1 hq => ?_)
    obtain ⟨rfl, rfl⟩ := hq
    refine z_icmp_ge C 98 dX2_riseByHours_14 (by decide) (fun c1 => ?_) (fun c1 => ?_)
    · exact absurd (ge_of_ge (by omega) (by omega) c1) (by omega)
    have ix : ((y :: A3).reverse ++ x :: B2)[A3.length + 1]? = some x := by
      rw [List.getElem?_append_right (by simp)]
      simp
    have iy : ((y :: A3).reverse ++ x :: B2)[A3.length]? = some y := by
      rw [List.getElem?_append_left (by simp)]
      simp
    obtain ⟨hx1, hx2⟩ := List.getElem?_eq_some_iff.mp ix
    obtain ⟨hy1, hy2⟩ := List.getElem?_eq_some_iff.mp iy
    have ex := hH2.wk1 hx1
    have ey := hH2.wk1 hy1
    rw [hx2] at ex
    rw [hy2] at ey
    refine z_aload_n C dX2_riseByHours_17 rfl ?_
    refine z_getf C zf_X2_10 dX2_riseByHours_18 (by first | assumption | exact zk_eq | exact zk_ne (by first | assumption | exact zk_eq | exact zk_ne (by first | assumption | exact zk_eq | exact zk_ne (by first | assumption | exact zk_eq | exact zk_ne (by first | assumption | exact zk_eq | exact zk_ne (by first | assumption | exact zk_eq) (by first | decide | omega)) (by first | decide | omega)) (by first | decide | omega)) (by first | decide | omega)) (by first | decide | omega)) (by rfl) ?_
    refine z_iload_n C dX2_riseByHours_21 rfl ?_
    refine z_callV C zm_Jx4a65c_get_915e3 zl_X2_123 (c_get (i := A3.length + 1) hl a1 (by simpa using hx1)) dX2_riseByHours_22 (by first | assumption | exact zk_eq | exact zk_ne (by first | assumption | exact zk_eq | exact zk_ne (by first | assumption | exact zk_eq | exact zk_ne (by first | assumption | exact zk_eq | exact zk_ne (by first | assumption | exact zk_eq | exact zk_ne (by first | assumption | exact zk_eq) (by first | decide | omega)) (by first | decide | omega)) (by first | decide | omega)) (by first | decide | omega)) (by first | decide | omega)) (by rfl) (by rfl) (by rfl) (by exact Nat.le_of_ble_eq_true rfl) rfl (by exact ⟨Nat.le_of_ble_eq_true rfl, Nat.le_of_ble_eq_true rfl⟩) (by first | exact ⟨Nat.le_of_ble_eq_true rfl, Nat.le_of_ble_eq_true rfl⟩ | (simp only [zrm]; omega)) (fun _ _ h => z_xno h) (fun r w1 hq => ?_)
    obtain ⟨rfl, rfl⟩ := hq
    rw [List.getElem_map, hx2]
    refine z_castW C zk_X2_78 dX2_riseByHours_25 (by first | assumption | exact zk_eq | exact zk_ne (by first | assumption | exact zk_eq | exact zk_ne (by first | assumption | exact zk_eq | exact zk_ne (by first | assumption | exact zk_eq | exact zk_ne (by first | assumption | exact zk_eq | exact zk_ne (by first | assumption | exact zk_eq) (by first | decide | omega)) (by first | decide | omega)) (by first | decide | omega)) (by first | decide | omega)) (by first | decide | omega)) ?_
    refine z_astore_n C (L1 := [_, _, _, _, _]) dX2_riseByHours_28 (Nat.le_of_ble_eq_true rfl) rfl ?_
    refine z_aload_n C dX2_riseByHours_29 rfl ?_
    refine z_getf C zf_X2_10 dX2_riseByHours_30 (by first | assumption | exact zk_eq | exact zk_ne (by first | assumption | exact zk_eq | exact zk_ne (by first | assumption | exact zk_eq | exact zk_ne (by first | assumption | exact zk_eq | exact zk_ne (by first | assumption | exact zk_eq | exact zk_ne (by first | assumption | exact zk_eq) (by first | decide | omega)) (by first | decide | omega)) (by first | decide | omega)) (by first | decide | omega)) (by first | decide | omega)) (by rfl) ?_
    refine z_iload_n C dX2_riseByHours_33 rfl ?_
    refine z_iconst C (1) dX2_riseByHours_34 (by decide) ?_
    refine z_isub C dX2_riseByHours_35 ?_
    rw [show nI (A3.length + 1) - 1 = nI A3.length from nI_pred _]
    refine z_callV C zm_Jx4a65c_get_915e3 zl_X2_123 (c_get (i := A3.length) hl a1 (by simpa using hy1)) dX2_riseByHours_36 (by first | assumption | exact zk_eq | exact zk_ne (by first | assumption | exact zk_eq | exact zk_ne (by first | assumption | exact zk_eq | exact zk_ne (by first | assumption | exact zk_eq | exact zk_ne (by first | assumption | exact zk_eq | exact zk_ne (by first | assumption | exact zk_eq) (by first | decide | omega)) (by first | decide | omega)) (by first | decide | omega)) (by first | decide | omega)) (by first | decide | omega)) (by rfl) (by rfl) (by rfl) (by exact Nat.le_of_ble_eq_true rfl) rfl (by exact ⟨Nat.le_of_ble_eq_true rfl, Nat.le_of_ble_eq_true rfl⟩) (by first | exact ⟨Nat.le_of_ble_eq_true rfl, Nat.le_of_ble_eq_true rfl⟩ | (simp only [zrm]; omega)) (fun _ _ h => z_xno h) (fun r w1 hq => ?_)
    obtain ⟨rfl, rfl⟩ := hq
    rw [List.getElem_map, hy2]
    refine z_castW C zk_X2_78 dX2_riseByHours_39 (by first | assumption | exact zk_eq | exact zk_ne (by first | assumption | exact zk_eq | exact zk_ne (by first | assumption | exact zk_eq | exact zk_ne (by first | assumption | exact zk_eq | exact zk_ne (by first | assumption | exact zk_eq | exact zk_ne (by first | assumption | exact zk_eq) (by first | decide | omega)) (by first | decide | omega)) (by first | decide | omega)) (by first | decide | omega)) (by first | decide | omega)) ?_
    refine z_astore C (L1 := [_, _, _, _, _]) dX2_riseByHours_42 (Nat.le_of_ble_eq_true rfl) rfl ?_
    refine z_aload C dX2_riseByHours_44 rfl ?_
    refine z_getf C zf_X2_106 dX2_riseByHours_46 (by first | assumption | exact zk_eq | exact zk_ne (by first | assumption | exact zk_eq | exact zk_ne (by first | assumption | exact zk_eq | exact zk_ne (by first | assumption | exact zk_eq | exact zk_ne (by first | assumption | exact zk_eq | exact zk_ne (by first | assumption | exact zk_eq) (by first | decide | omega)) (by first | decide | omega)) (by first | decide | omega)) (by first | decide | omega)) (by first | decide | omega)) (by rfl) ?_
    refine z_aload_n C dX2_riseByHours_49 rfl ?_
    refine z_getf C zf_X2_106 dX2_riseByHours_50 (by first | assumption | exact zk_eq | exact zk_ne (by first | assumption | exact zk_eq | exact zk_ne (by first | assumption | exact zk_eq | exact zk_ne (by first | assumption | exact zk_eq | exact zk_ne (by first | assumption | exact zk_eq | exact zk_ne (by first | assumption | exact zk_eq) (by first | decide | omega)) (by first | decide | omega)) (by first | decide | omega)) (by first | decide | omega)) (by first | decide | omega)) (by rfl) ?_
    have stay : ¬ (wk y 1 = wk x 1 ∧ wk x 5 < wk y 5) → ZJ z p l e (zrm 3 0 0) s m args below meth c (vx_MQ below (zQc z (fun r w1 => r = none ∧ HP z ad co gu nd w1 ((riseR wk x A).reverse ++ B) wk hi tb tk W P ∧ zFk 1 w w1)) (zXC z zNo) args s 0 0 (zA z)) (0 + 0 + 0 + 0) (0 + 0 + 0 + 0) 68 [some (.ref (ad 0)), some (.int (nI A.length)), some (.int (nI (A3.length + 1))), some (.ref (zWa ad x)), some (.ref (zWa ad y))] [] w1 := by
      intro hs
      refine z_vret C hret dX2_riseByHours_68 (by first | exact Nat.le_of_ble_eq_true rfl | omega) (by first | exact Nat.le_of_ble_eq_true rfl | omega) ?_
      refine ⟨rfl, ?_, q3⟩
      rw [← q1, riseR, if_neg hs, List.reverse_cons, List.append_assoc]
      exact hH2
    refine z_icmp_ne C 68 dX2_riseByHours_53 (by decide) (fun c2 => ?_) (fun c2 => ?_)
    · exact stay (fun q => c2 q.1)
    refine z_aload C dX2_riseByHours_56 rfl ?_
    refine z_getf C zf_X2_100 dX2_riseByHours_58 (by first | assumption | exact zk_eq | exact zk_ne (by first | assumption | exact zk_eq | exact zk_ne (by first | assumption | exact zk_eq | exact zk_ne (by first | assumption | exact zk_eq | exact zk_ne (by first | assumption | exact zk_eq | exact zk_ne (by first | assumption | exact zk_eq) (by first | decide | omega)) (by first | decide | omega)) (by first | decide | omega)) (by first | decide | omega)) (by first | decide | omega)) (by rfl) ?_
    refine z_aload_n C dX2_riseByHours_61 rfl ?_
    refine z_getf C zf_X2_100 dX2_riseByHours_62 (by first | assumption | exact zk_eq | exact zk_ne (by first | assumption | exact zk_eq | exact zk_ne (by first | assumption | exact zk_eq | exact zk_ne (by first | assumption | exact zk_eq | exact zk_ne (by first | assumption | exact zk_eq | exact zk_ne (by first | assumption | exact zk_eq) (by first | decide | omega)) (by first | decide | omega)) (by first | decide | omega)) (by first | decide | omega)) (by first | decide | omega)) (by rfl) ?_
    refine z_icmp_gt C 69 dX2_riseByHours_65 (by decide) (fun c3 => ?_) (fun c3 => ?_)
    · refine z_aload_n C dX2_riseByHours_69 rfl ?_
      refine z_getf C zf_X2_10 dX2_riseByHours_70 (by first | assumption | exact zk_eq | exact zk_ne (by first | assumption | exact zk_eq | exact zk_ne (by first | assumption | exact zk_eq | exact zk_ne (by first | assumption | exact zk_eq | exact zk_ne (by first | assumption | exact zk_eq | exact zk_ne (by first | assumption | exact zk_eq) (by first | decide | omega)) (by first | decide | omega)) (by first | decide | omega)) (by first | decide | omega)) (by first | decide | omega)) (by rfl) ?_
      refine z_iload_n C dX2_riseByHours_73 rfl ?_
      refine z_iconst C (1) dX2_riseByHours_74 (by decide) ?_
      refine z_isub C dX2_riseByHours_75 ?_
      rw [show nI (A3.length + 1) - 1 = nI A3.length from nI_pred _]
      refine z_aload_n C dX2_riseByHours_76 rfl ?_
      refine z_callV C zm_Jx4a65c_set_bcc79 zl_X2_236 (c_set (i := A3.length) hl a1 (by simpa using hy1) ⟨100 + x, _, by omega, ex⟩ (by decide)) dX2_riseByHours_77 (by first | assumption | exact zk_eq | exact zk_ne (by first | assumption | exact zk_eq | exact zk_ne (by first | assumption | exact zk_eq | exact zk_ne (by first | assumption | exact zk_eq | exact zk_ne (by first | assumption | exact zk_eq | exact zk_ne (by first | assumption | exact zk_eq) (by first | decide | omega)) (by first | decide | omega)) (by first | decide | omega)) (by first | decide | omega)) (by first | decide | omega)) (by rfl) (by rfl) (by rfl) (by exact Nat.le_of_ble_eq_true rfl) rfl (by exact ⟨Nat.le_of_ble_eq_true rfl, Nat.le_of_ble_eq_true rfl⟩) (by first | exact ⟨Nat.le_of_ble_eq_true rfl, Nat.le_of_ble_eq_true rfl⟩ | (simp only [zrm]; omega)) (fun _ _ h => z_xno h) (fun r w5 hq => ?_)
      obtain ⟨rfl, g1, g2⟩ := hq
      have a0' := (g2 0 (by decide) (by decide) (by decide)).trans a0
      obtain ⟨md1', b1', e1', -⟩ := id g1
      have ey' := (g2 (100 + y) (by omega) (by omega) (by omega)).trans ey
      refine z_pop C dX2_riseByHours_80 rfl ?_
      refine z_aload_n C dX2_riseByHours_81 rfl ?_
      refine z_getf C zf_X2_10 dX2_riseByHours_82 (by first | assumption | exact zk_eq | exact zk_ne (by first | assumption | exact zk_eq | exact zk_ne (by first | assumption | exact zk_eq | exact zk_ne (by first | assumption | exact zk_eq | exact zk_ne (by first | assumption | exact zk_eq | exact zk_ne (by first | assumption | exact zk_eq) (by first | decide | omega)) (by first | decide | omega)) (by first | decide | omega)) (by first | decide | omega)) (by first | decide | omega)) (by rfl) ?_
      refine z_iload_n C dX2_riseByHours_85 rfl ?_
      refine z_aload C dX2_riseByHours_86 rfl ?_
      refine z_callV C zm_Jx4a65c_set_bcc79 zl_X2_236 (c_set (i := A3.length + 1) hl g1 (by simp) ⟨100 + y, _, by omega, ey'⟩ (by decide)) dX2_riseByHours_88 (by first | assumption | exact zk_eq | exact zk_ne (by first | assumption | exact zk_eq | exact zk_ne (by first | assumption | exact zk_eq | exact zk_ne (by first | assumption | exact zk_eq | exact zk_ne (by first | assumption | exact zk_eq | exact zk_ne (by first | assumption | exact zk_eq) (by first | decide | omega)) (by first | decide | omega)) (by first | decide | omega)) (by first | decide | omega)) (by first | decide | omega)) (by rfl) (by rfl) (by rfl) (by exact Nat.le_of_ble_eq_true rfl) rfl (by exact ⟨Nat.le_of_ble_eq_true rfl, Nat.le_of_ble_eq_true rfl⟩) (by first | exact ⟨Nat.le_of_ble_eq_true rfl, Nat.le_of_ble_eq_true rfl⟩ | (simp only [zrm]; omega)) (fun _ _ h => z_xno h) (fun r w6 hq => ?_)
      obtain ⟨rfl, g3, g4⟩ := hq
      refine z_pop C dX2_riseByHours_91 rfl ?_
      refine z_iinc C (L1 := [_, _, _, _, _]) _ dX2_riseByHours_92 rfl (by first | exact zdec | rfl) rfl ?_
      refine z_goto C 2 dX2_riseByHours_95 (by decide) ?_
      have hf : zFk 1 w1 w6 := fun j j1 j2 j3 => (g4 j j1 j2 j3).trans (g2 j j1 j2 j3)
      have e9 : (y :: A3).reverse ++ x :: B2 = A3.reverse ++ y :: x :: B2 := by simp
      have hp : (A3.reverse ++ x :: y :: B2).Perm ((y :: A3).reverse ++ x :: B2) := by
        rw [e9]
        exact List.Perm.append_left _ (List.Perm.swap y x B2)
      have h9 : HP z ad co gu nd w6 (A3.reverse ++ x :: y :: B2) wk hi tb tk W P := by
        refine hH2.turn ?_ hf (fun m hm => am m (hp.mem_iff.mp hm)) (by rw [hp.length_eq, hlen, el]; exact al) (hp.nodup_iff.mpr an)
        have e10 : (((((y :: A3).reverse ++ x :: B2).map (zWa ad)).set A3.length (zWa ad x)).set (A3.length + 1) (zWa ad y)) = (A3.reverse ++ x :: y :: B2).map (zWa ad) := by
          rw [e9, List.map_append, List.map_cons, List.map_cons, List.map_append, List.map_cons, List.map_cons]
          have k1 := set_at (A3.reverse.map (zWa ad)) (zWa ad y) (zWa ad x) (zWa ad x :: B2.map (zWa ad))
          have k2 := set_at (A3.reverse.map (zWa ad) ++ [zWa ad x]) (zWa ad x) (zWa ad y) (B2.map (zWa ad))
          simp only [List.length_map, List.length_reverse, List.length_append, List.length_cons, List.length_nil, List.append_assoc, List.cons_append, List.nil_append, Nat.zero_add] at k1 k2
          rw [k1, k2]
        rw [← e10]
        exact g3
      refine z_fgt (ih A3.length 0 0 _ _ (by rw [el]; omega) ⟨A3, y :: B2, rfl, rfl, rfl, rfl, ?_, h9, fun j j1 j2 j3 => (hf j j1 j2 j3).trans (q3 j j1 j2 j3)⟩) (by simp [zle])
      rw [← q1, riseR, if_pos ⟨c2, c3⟩, List.reverse_cons, List.append_assoc]
      rfl
    · exact stay (fun q => c3 q.2)
end ZH3
