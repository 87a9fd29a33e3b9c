/-! HiringHall: countDisplaced, matchOpenPlaces, lowestPlaceFor -/
theorem opl_append {wk : Nat → Nat → Int32} {nd : Nat → Int32} {ts : List Nat} (c : Nat) : opl wk nd ts (c + 1) = if hold wk (nI c) ts = -1 then nd c :: opl wk nd ts c else opl wk nd ts c := rfl
section ZH4
variable {l : Launch} {z : zT} {w : zW} {ad : Nat → Nat} {co gu nd : Nat → Int32} {ts : List Nat} {wk : Nat → Nat → Int32} {hi : Nat → Int32} {tb tk : List Nat} {W P : List Int32}
theorem c_countDisplaced (hl : l.stackTraces = false) {t0 : List Nat} (h : HP z ad co gu nd w ts wk hi (t0.map (zWa ad)) tk W P) (hsub : ∀ n ∈ t0, n ∈ ts) (hlen0 : t0.length ≤ 30) : ZM l z mX2_countDisplaced 3 0 0 [.ref (ad 0)] w (fun r w1 => r = some (.int (nI (disp ts t0))) ∧ w1 = w) zNo := by
  have hH := h
  obtain ⟨a0, a1, a3, -, -, -, -, -, am, al, -, -⟩ := h
  obtain ⟨md1, b1, e1, -⟩ := id a1
  obtain ⟨md3, b3, e3, -⟩ := id a3
  rw [List.length_map] at e1 e3
  have hdl := disp_le ts t0
  refine zbody (M := mX2_countDisplaced) (L0 := [_, _, _]) hl (by simp [Value.category]) (Nat.le_of_ble_eq_true rfl) (by decide +kernel) rfl ?_
  intro p e s m args below meth c C hX hnm hret
  replace C : zC z p l s m args meth c cX2_countDisplaced RX2 3 := C
  replace hret : meth.sig.returnType = (some .int) := hret
  refine z_inj (fun hinj => ?_)
  refine z_iconst C (0) dX2_countDisplaced_0 (by decide) ?_
  refine z_istore_n C (L1 := [_, _, _]) dX2_countDisplaced_1 (Nat.le_of_ble_eq_true rfl) rfl ?_
  refine z_iconst C (0) dX2_countDisplaced_2 (by decide) ?_
  refine z_istore_n C (L1 := [_, _, _]) dX2_countDisplaced_3 (Nat.le_of_ble_eq_true rfl) rfl ?_
  refine z_ind (σ := Nat × Nat) (fun x => x.1 ≤ ts.length ∧ x.2 + disp (ts.drop x.1) (t0.drop x.1) = disp ts t0) (fun x => ts.length - x.1) (fun _ => 0) (fun _ => 0)
    (fun x => [some (.ref (ad 0)), some (.int (nI x.2)), some (.int (nI x.1))]) (fun _ => w) (0, 0) ⟨Nat.zero_le _, Nat.zero_add _⟩ ?_
  rintro ⟨i, d⟩ ⟨q1, q2⟩ ih
  dsimp only at q1 q2 ih ⊢
  refine z_iload_n C dX2_countDisplaced_4 rfl ?_
  refine z_aload_n C dX2_countDisplaced_5 rfl ?_
  refine z_getf C zf_X2_10 dX2_countDisplaced_6 (by first | assumption | exact zk_eq | exact zk_ne (by first | assumption | exact zk_eq | exact zk_ne (by first | assumption | exact zk_eq | exact zk_ne (by first | assumption | exact zk_eq | exact zk_ne (by first | assumption | exact zk_eq | exact zk_ne (by first | assumption | exact zk_eq) (by first | decide | omega)) (by first | decide | omega)) (by first | decide | omega)) (by first | decide | omega)) (by first | decide | omega)) (by rfl) ?_
  refine z_callV C zm_Jx4a65c_size_8abf5 zl_X2_67 (c_size hl e1) dX2_countDisplaced_9 (by first | assumption | exact zk_eq | exact zk_ne (by first | assumption | exact zk_eq | exact zk_ne (by first | assumption | exact zk_eq | exact zk_ne (by first | assumption | exact zk_eq | exact zk_ne (by first | assumption | exact zk_eq | exact zk_ne (by first | assumption | exact zk_eq) (by first | decide | omega)) (by first | decide | omega)) (by first | decide | omega)) (by first | decide | omega)) (by first | decide | omega)) (by rfl) (by rfl) (by rfl) (by exact Nat.le_of_ble_eq_true rfl) rfl (by exact ⟨Nat.le_of_ble_eq_true rfl, Nat.le_of_ble_eq_true rfl⟩) (by first | exact ⟨Nat.le_of_ble_eq_true rfl, Nat.le_of_ble_eq_true rfl⟩ | (simp only [zrm]; omega)) (fun _ _ h => z_xno h) (fun r w1 hq => ?_)
  obtain ⟨rfl, rfl⟩ := hq
  refine z_icmp_ge C 54 dX2_countDisplaced_12 (by decide) (fun c1 => ?_) (fun c1 => ?_)
  · have hi2 := ge_of_ge (by omega) (by omega) c1
    refine z_iload_n C dX2_countDisplaced_54 rfl ?_
    refine z_iret C hret dX2_countDisplaced_55 (by first | exact Nat.le_of_ble_eq_true rfl | omega) (by first | exact Nat.le_of_ble_eq_true rfl | omega) ?_
    rw [List.drop_eq_nil_of_le hi2] at q2
    refine ⟨?_, rfl⟩
    rw [← q2]
    rfl
  have hi2 : i < ts.length := lt_of_nge (by omega) (by omega) c1
  refine z_iload_n C dX2_countDisplaced_15 rfl ?_
  refine z_aload_n C dX2_countDisplaced_16 rfl ?_
  refine z_getf C zf_X2_16 dX2_countDisplaced_17 (by first | assumption | exact zk_eq | exact zk_ne (by first | assumption | exact zk_eq | exact zk_ne (by first | assumption | exact zk_eq | exact zk_ne (by first | assumption | exact zk_eq | exact zk_ne (by first | assumption | exact zk_eq | exact zk_ne (by first | assumption | exact zk_eq) (by first | decide | omega)) (by first | decide | omega)) (by first | decide | omega)) (by first | decide | omega)) (by first | decide | omega)) (by rfl) ?_
  refine z_callV C zm_Jx4a65c_size_8abf5 zl_X2_67 (c_size hl e3) dX2_countDisplaced_20 (by first | assumption | exact zk_eq | exact zk_ne (by first | assumption | exact zk_eq | exact zk_ne (by first | assumption | exact zk_eq | exact zk_ne (by first | assumption | exact zk_eq | exact zk_ne (by first | assumption | exact zk_eq | exact zk_ne (by first | assumption | exact zk_eq) (by first | decide | omega)) (by first | decide | omega)) (by first | decide | omega)) (by first | decide | omega)) (by first | decide | omega)) (by rfl) (by rfl) (by rfl) (by exact Nat.le_of_ble_eq_true rfl) rfl (by exact ⟨Nat.le_of_ble_eq_true rfl, Nat.le_of_ble_eq_true rfl⟩) (by first | exact ⟨Nat.le_of_ble_eq_true rfl, Nat.le_of_ble_eq_true rfl⟩ | (simp only [zrm]; omega)) (fun _ _ h => z_xno h) (fun r w1 hq => ?_)
  obtain ⟨rfl, rfl⟩ := hq
  refine z_icmp_ge C 54 dX2_countDisplaced_23 (by decide) (fun c2 => ?_) (fun c2 => ?_)
  · have hi3 := ge_of_ge (by omega) (by omega) c2
    refine z_iload_n C dX2_countDisplaced_54 rfl ?_
    refine z_iret C hret dX2_countDisplaced_55 (by first | exact Nat.le_of_ble_eq_true rfl | omega) (by first | exact Nat.le_of_ble_eq_true rfl | omega) ?_
    rw [List.drop_eq_nil_of_le hi3, List.drop_eq_getElem_cons hi2] at q2
    refine ⟨?_, rfl⟩
    rw [← q2]
    rfl
  have hi3 : i < t0.length := lt_of_nge (by omega) (by omega) c2
  have ex := hH.wk1 hi2
  have ey := (am _ (hsub _ (List.getElem_mem hi3))).1
  rw [List.drop_eq_getElem_cons hi3, List.drop_eq_getElem_cons hi2] at q2
  simp only [disp] at q2
  have hd2 : d < 1000 := by omega
  refine z_aload_n C dX2_countDisplaced_26 rfl ?_
  refine z_getf C zf_X2_10 dX2_countDisplaced_27 (by first | assumption | exact zk_eq | exact zk_ne (by first | assumption | exact zk_eq | exact zk_ne (by first | assumption | exact zk_eq | exact zk_ne (by first | assumption | exact zk_eq | exact zk_ne (by first | assumption | exact zk_eq | exact zk_ne (by first | assumption | exact zk_eq) (by first | decide | omega)) (by first | decide | omega)) (by first | decide | omega)) (by first | decide | omega)) (by first | decide | omega)) (by rfl) ?_
  refine z_iload_n C dX2_countDisplaced_30 rfl ?_
  refine z_callV C zm_Jx4a65c_get_915e3 zl_X2_123 (c_get (i := i) hl a1 (by simpa using hi2)) dX2_countDisplaced_31 (by first | assumption | exact zk_eq | exact zk_ne (by first | assumption | exact zk_eq | exact zk_ne (by first | assumption | exact zk_eq | exact zk_ne (by first | assumption | exact zk_eq | exact zk_ne (by first | assumption | exact zk_eq | exact zk_ne (by first | assumption | exact zk_eq) (by first | decide | omega)) (by first | decide | omega)) (by first | decide | omega)) (by first | decide | omega)) (by first | decide | omega)) (by rfl) (by rfl) (by rfl) (by exact Nat.le_of_ble_eq_true rfl) rfl (by exact ⟨Nat.le_of_ble_eq_true rfl, Nat.le_of_ble_eq_true rfl⟩) (by first | exact ⟨Nat.le_of_ble_eq_true rfl, Nat.le_of_ble_eq_true rfl⟩ | (simp only [zrm]; omega)) (fun _ _ h => z_xno h) (fun r w1 hq => ?_)
  obtain ⟨rfl, rfl⟩ := hq
  rw [List.getElem_map]
  refine z_aload_n C dX2_countDisplaced_34 rfl ?_
  refine z_getf C zf_X2_16 dX2_countDisplaced_35 (by first | assumption | exact zk_eq | exact zk_ne (by first | assumption | exact zk_eq | exact zk_ne (by first | assumption | exact zk_eq | exact zk_ne (by first | assumption | exact zk_eq | exact zk_ne (by first | assumption | exact zk_eq | exact zk_ne (by first | assumption | exact zk_eq) (by first | decide | omega)) (by first | decide | omega)) (by first | decide | omega)) (by first | decide | omega)) (by first | decide | omega)) (by rfl) ?_
  refine z_iload_n C dX2_countDisplaced_38 rfl ?_
  refine z_callV C zm_Jx4a65c_get_915e3 zl_X2_123 (c_get (i := i) hl a3 (by simpa using hi3)) dX2_countDisplaced_39 (by first | assumption | exact zk_eq | exact zk_ne (by first | assumption | exact zk_eq | exact zk_ne (by first | assumption | exact zk_eq | exact zk_ne (by first | assumption | exact zk_eq | exact zk_ne (by first | assumption | exact zk_eq | exact zk_ne (by first | assumption | exact zk_eq) (by first | decide | omega)) (by first | decide | omega)) (by first | decide | omega)) (by first | decide | omega)) (by first | decide | omega)) (by rfl) (by rfl) (by rfl) (by exact Nat.le_of_ble_eq_true rfl) rfl (by exact ⟨Nat.le_of_ble_eq_true rfl, Nat.le_of_ble_eq_true rfl⟩) (by first | exact ⟨Nat.le_of_ble_eq_true rfl, Nat.le_of_ble_eq_true rfl⟩ | (simp only [zrm]; omega)) (fun _ _ h => z_xno h) (fun r w1 hq => ?_)
  obtain ⟨rfl, rfl⟩ := hq
  rw [List.getElem_map]
  refine z_acmp_eq C 48 dX2_countDisplaced_42 (by decide) (fun c3 => ?_) (fun c3 => ?_)
  · have he : ts[i] = t0[i] := by
      have := hinj _ _ _ _ ex ey c3
      omega
    rw [if_pos he] at q2
    refine z_iinc C (L1 := [_, _, _]) _ dX2_countDisplaced_48 rfl (by first | exact zinc | rfl) rfl ?_
    refine z_goto C 4 dX2_countDisplaced_51 (by decide) ?_
    exact ih (i + 1, d) ⟨hi2, q2⟩ (by show ts.length - (i + 1) < ts.length - i; omega)
  · have he : ¬ ts[i] = t0[i] := fun q => c3 (by rw [q])
    rw [if_neg he] at q2
    refine z_iinc C (L1 := [_, _, _]) _ dX2_countDisplaced_45 rfl (by first | exact zinc | rfl) rfl ?_
    refine z_iinc C (L1 := [_, _, _]) _ dX2_countDisplaced_48 rfl (by first | exact zinc | rfl) rfl ?_
    refine z_goto C 4 dX2_countDisplaced_51 (by decide) ?_
    exact ih (i + 1, d + 1) ⟨hi2, by dsimp only; omega⟩ (by show ts.length - (i + 1) < ts.length - i; omega)
theorem c_matchOpenPlaces (hl : l.stackTraces = false) (h : HP z ad co gu nd w ts wk hi tb tk W []) {n : Nat} (hn : hi 8 = nI n) (hn16 : n ≤ 16) : ZM l z mX2_matchOpenPlaces 5 0 0 [.ref (ad 0)] w (fun r w1 => r = none ∧ HP z ad co gu nd w1 ts wk hi tb tk W (opl wk nd ts n) ∧ zFh w w1) zNo := by
  refine zbody (M := mX2_matchOpenPlaces) (L0 := [_, _]) hl (by simp [Value.category]) (Nat.le_of_ble_eq_true rfl) (by decide +kernel) rfl ?_
  intro p e s m args below meth c C hX hnm hret
  replace C : zC z p l s m args meth c cX2_matchOpenPlaces RX2 2 := C
  replace hret : meth.sig.returnType = none := hret
  refine z_iconst C (0) dX2_matchOpenPlaces_0 (by decide) ?_
  refine z_istore_n C (L1 := [_, _]) dX2_matchOpenPlaces_1 (Nat.le_of_ble_eq_true rfl) rfl ?_
  refine z_loop (fun m cs ss L w2 => ∃ i : Nat, m = n - i ∧ cs = 0 ∧ ss = 0 ∧ L = [some (.ref (ad 0)), some (.int (nI i))] ∧ i ≤ n ∧ HP z ad co gu nd w2 ts wk hi tb tk W (opl wk nd ts i) ∧ zFh w w2)
    ⟨0, rfl, rfl, rfl, rfl, Nat.zero_le _, h, fun _ _ _ => rfl⟩ ?_
  rintro m cs ss L w2 ⟨i, rfl, rfl, rfl, rfl, q1, q2, q3⟩ ih
  have hH := q2
  obtain ⟨a0, -, -, -, aM, -, -, a12, -, -, -, -⟩ := q2
  obtain ⟨a7, -, -, hWl, hPl⟩ := id aM
  have hol := opl_le (wk := wk) (nd := nd) (ts := ts) i
  refine z_iload_n C dX2_matchOpenPlaces_2 rfl ?_
  refine z_aload_n C dX2_matchOpenPlaces_3 rfl ?_
  refine z_getf C zf_X2_44 dX2_matchOpenPlaces_4 (by first | assumption | exact zk_eq | exact zk_ne (by first | assumption | exact zk_eq | exact zk_ne (by first | assumption | exact zk_eq | exact zk_ne (by first | assumption | exact zk_eq | exact zk_ne (by first | assumption | exact zk_eq | exact zk_ne (by first | assumption | exact zk_eq) (by first | decide | omega)) (by first | decide | omega)) (by first | decide | omega)) (by first | decide | omega)) (by first | decide | omega)) (by rfl) ?_
  rw [hn]
  refine z_icmp_ge C 37 dX2_matchOpenPlaces_7 (by decide) (fun c1 => ?_) (fun c1 => ?_)
  · have hi2 : i = n := Nat.le_antisymm q1 (ge_of_ge (by omega) (by omega) c1)
    subst hi2
    refine z_vret C hret dX2_matchOpenPlaces_37 (by first | exact Nat.le_of_ble_eq_true rfl | omega) (by first | exact Nat.le_of_ble_eq_true rfl | omega) ?_
    exact ⟨rfl, hH, q3⟩
  have hi2 : i < n := lt_of_nge (by omega) (by omega) c1
  refine z_aload_n C dX2_matchOpenPlaces_10 rfl ?_
  refine z_iload_n C dX2_matchOpenPlaces_11 rfl ?_
  refine z_callV C zm_X2_isOpen zl_X2_172 (c_isOpen hl hH (nI i)) dX2_matchOpenPlaces_12 (by first | assumption | exact zk_eq | exact zk_ne (by first | assumption | exact zk_eq | exact zk_ne (by first | assumption | exact zk_eq | exact zk_ne (by first | assumption | exact zk_eq | exact zk_ne (by first | assumption | exact zk_eq | exact zk_ne (by first | assumption | exact zk_eq) (by first | decide | omega)) (by first | decide | omega)) (by first | decide | omega)) (by first | decide | omega)) (by first | decide | omega)) (by rfl) (by rfl) (by rfl) (by exact Nat.le_of_ble_eq_true rfl) rfl (by exact ⟨Nat.le_of_ble_eq_true rfl, Nat.le_of_ble_eq_true rfl⟩) (by first | exact ⟨Nat.le_of_ble_eq_true rfl, Nat.le_of_ble_eq_true rfl⟩ | (simp only [zrm]; omega)) (fun _ _ h => z_xno h) (fun r w1 hq => ?_)
  obtain ⟨rfl, rfl⟩ := hq
  refine z_if_eq C 31 dX2_matchOpenPlaces_15 (by decide) (fun c2 => ?_) (fun c2 => ?_)
  · have c3 : ¬ hold wk (nI i) ts = -1 := by simpa using zb_eq0.mp c2
    refine z_iinc C (L1 := [_, _]) _ dX2_matchOpenPlaces_31 rfl (by first | exact zinc | rfl) rfl ?_
    refine z_goto C 2 dX2_matchOpenPlaces_34 (by decide) ?_
    refine ih (n - (i + 1)) 0 0 _ _ (by omega) ⟨i + 1, rfl, rfl, rfl, rfl, hi2, ?_, q3⟩
    rw [opl_append, if_neg c3]
    exact hH
  · have c3 : hold wk (nI i) ts = -1 := by
      by_cases q : hold wk (nI i) ts = -1
      · exact q
      · exact absurd (by simp [zb, q]) c2
    refine z_aload_n C dX2_matchOpenPlaces_18 rfl ?_
    refine z_getf C zf_X2_25 dX2_matchOpenPlaces_19 (by first | assumption | exact zk_eq | exact zk_ne (by first | assumption | exact zk_eq | exact zk_ne (by first | assumption | exact zk_eq | exact zk_ne (by first | assumption | exact zk_eq | exact zk_ne (by first | assumption | exact zk_eq | exact zk_ne (by first | assumption | exact zk_eq) (by first | decide | omega)) (by first | decide | omega)) (by first | decide | omega)) (by first | decide | omega)) (by first | decide | omega)) (by rfl) ?_
    refine z_aload_n C dX2_matchOpenPlaces_22 rfl ?_
    refine z_getf C zf_X2_37 dX2_matchOpenPlaces_23 (by first | assumption | exact zk_eq | exact zk_ne (by first | assumption | exact zk_eq | exact zk_ne (by first | assumption | exact zk_eq | exact zk_ne (by first | assumption | exact zk_eq | exact zk_ne (by first | assumption | exact zk_eq | exact zk_ne (by first | assumption | exact zk_eq) (by first | decide | omega)) (by first | decide | omega)) (by first | decide | omega)) (by first | decide | omega)) (by first | decide | omega)) (by rfl) ?_
    refine z_iload_n C dX2_matchOpenPlaces_26 rfl ?_
    refine z_iald C dX2_matchOpenPlaces_27 (by first | assumption | exact zk_eq | exact zk_ne (by first | assumption | exact zk_eq | exact zk_ne (by first | assumption | exact zk_eq | exact zk_ne (by first | assumption | exact zk_eq | exact zk_ne (by first | assumption | exact zk_eq | exact zk_ne (by first | assumption | exact zk_eq) (by first | decide | omega)) (by first | decide | omega)) (by first | decide | omega)) (by first | decide | omega)) (by first | decide | omega)) (by first | rfl | assumption) (by first | assumption | omega | decide) (by first | decide | omega) ?_
    refine z_callV C zm_X0_addPlace zl_X2_240 (c_addPlace hl aM (nd i) (by omega)) dX2_matchOpenPlaces_28 (by first | assumption | exact zk_eq | exact zk_ne (by first | assumption | exact zk_eq | exact zk_ne (by first | assumption | exact zk_eq | exact zk_ne (by first | assumption | exact zk_eq | exact zk_ne (by first | assumption | exact zk_eq | exact zk_ne (by first | assumption | exact zk_eq) (by first | decide | omega)) (by first | decide | omega)) (by first | decide | omega)) (by first | decide | omega)) (by first | decide | omega)) (by rfl) (by rfl) (by rfl) (by exact Nat.le_of_ble_eq_true rfl) rfl (by exact ⟨Nat.le_of_ble_eq_true rfl, Nat.le_of_ble_eq_true rfl⟩) (by first | exact ⟨Nat.le_of_ble_eq_true rfl, Nat.le_of_ble_eq_true rfl⟩ | (simp only [zrm]; omega)) (fun _ _ h => z_xno h) (fun r w5 hq => ?_)
    obtain ⟨rfl, g1, g2⟩ := hq
    refine z_iinc C (L1 := [_, _]) _ dX2_matchOpenPlaces_31 rfl (by first | exact zinc | rfl) rfl ?_
    refine z_goto C 2 dX2_matchOpenPlaces_34 (by decide) ?_
    refine ih (n - (i + 1)) 0 0 _ _ (by omega) ⟨i + 1, rfl, rfl, rfl, rfl, hi2, ?_, fun j j1 j2 => (g2 j (by omega) (by omega)).trans (q3 j j1 j2)⟩
    rw [opl_append, if_pos c3]
    exact hH.mt g1 g2
theorem c_lowestPlaceFor (hl : l.stackTraces = false) (h : HP z ad co gu nd w ts wk hi tb tk W P) {n mx : Nat} (hn : n ∈ ts) (hm : hi 8 = nI mx) (hm16 : mx ≤ 16) (hP : ∀ p : Nat, p < mx → hold wk (nI p) ts = -1 → nd p ∈ P) : ZM l z mX2_lowestPlaceFor 5 0 0 [.ref (ad 0), .ref (zWa ad n)] w (fun r w1 => r = some (.int (match lowp wk nd ts n W P mx with | some p => nI p | none => -1)) ∧ w1 = w) zNo := by
  have hH := h
  obtain ⟨a0, -, -, -, aM, -, -, a12, am, -, -, -⟩ := h
  obtain ⟨a7, -, -, hWl, hPl⟩ := id aM
  have en := (am n hn).1
  refine zbody (M := mX2_lowestPlaceFor) (L0 := [_, _, _, _]) hl (by simp [Value.category]) (Nat.le_of_ble_eq_true rfl) (by decide +kernel) rfl ?_
  intro p e s m args below meth c C hX hnm hret
  replace C : zC z p l s m args meth c cX2_lowestPlaceFor RX2 4 := C
  replace hret : meth.sig.returnType = (some .int) := hret
  refine z_iconst C (0) dX2_lowestPlaceFor_0 (by decide) ?_
  refine z_istore_n C (L1 := [_, _, _, _]) dX2_lowestPlaceFor_1 (Nat.le_of_ble_eq_true rfl) rfl ?_
  refine z_ind (σ := Nat) (fun i => i ≤ mx ∧ lowp wk nd ts n W P mx = ((List.range mx).drop i).find? (fun p => decide (hold wk (nI p) ts = -1) && (skl (wk n 2) (nd p) && zHall W (P.erase (nd p))))) (fun i => mx - i) (fun _ => 0) (fun _ => 0)
    (fun i => [some (.ref (ad 0)), some (.ref (zWa ad n)), some (.int (nI i)), none]) (fun _ => w) 0 ⟨Nat.zero_le _, rfl⟩ ?_
  rintro i ⟨q1, q2⟩ ih
  refine z_iload_n C dX2_lowestPlaceFor_2 rfl ?_
  refine z_aload_n C dX2_lowestPlaceFor_3 rfl ?_
  refine z_getf C zf_X2_44 dX2_lowestPlaceFor_4 (by first | assumption | exact zk_eq | exact zk_ne (by first | assumption | exact zk_eq | exact zk_ne (by first | assumption | exact zk_eq | exact zk_ne (by first | assumption | exact zk_eq | exact zk_ne (by first | assumption | exact zk_eq | exact zk_ne (by first | assumption | exact zk_eq) (by first | decide | omega)) (by first | decide | omega)) (by first | decide | omega)) (by first | decide | omega)) (by first | decide | omega)) (by rfl) ?_
  rw [hm]
  refine z_icmp_ge C 52 dX2_lowestPlaceFor_7 (by decide) (fun c1 => ?_) (fun c1 => ?_)
  · have hi2 := ge_of_ge (by omega) (by omega) c1
    refine z_iconst C (-1) dX2_lowestPlaceFor_52 (by decide) ?_
    refine z_iret C hret dX2_lowestPlaceFor_53 (by first | exact Nat.le_of_ble_eq_true rfl | omega) (by first | exact Nat.le_of_ble_eq_true rfl | omega) ?_
    rw [q2, List.drop_eq_nil_of_le (by simpa using hi2)]
    exact ⟨rfl, rfl⟩
  have hi2 : i < mx := lt_of_nge (by omega) (by omega) c1
  have hr : i < (List.range mx).length := by simpa using hi2
  rw [find_drop _ _ _ hr, List.getElem_range] at q2
  refine z_aload_n C dX2_lowestPlaceFor_10 rfl ?_
  refine z_getf C zf_X2_37 dX2_lowestPlaceFor_11 (by first | assumption | exact zk_eq | exact zk_ne (by first | assumption | exact zk_eq | exact zk_ne (by first | assumption | exact zk_eq | exact zk_ne (by first | assumption | exact zk_eq | exact zk_ne (by first | assumption | exact zk_eq | exact zk_ne (by first | assumption | exact zk_eq) (by first | decide | omega)) (by first | decide | omega)) (by first | decide | omega)) (by first | decide | omega)) (by first | decide | omega)) (by rfl) ?_
  refine z_iload_n C dX2_lowestPlaceFor_14 rfl ?_
  refine z_iald C dX2_lowestPlaceFor_15 (by first | assumption | exact zk_eq | exact zk_ne (by first | assumption | exact zk_eq | exact zk_ne (by first | assumption | exact zk_eq | exact zk_ne (by first | assumption | exact zk_eq | exact zk_ne (by first | assumption | exact zk_eq | exact zk_ne (by first | assumption | exact zk_eq) (by first | decide | omega)) (by first | decide | omega)) (by first | decide | omega)) (by first | decide | omega)) (by first | decide | omega)) (by first | rfl | assumption) (by first | assumption | omega | decide) (by first | decide | omega) ?_
  refine z_istore_n C (L1 := [_, _, _, _]) dX2_lowestPlaceFor_16 (Nat.le_of_ble_eq_true rfl) rfl ?_
  refine z_aload_n C dX2_lowestPlaceFor_17 rfl ?_
  refine z_iload_n C dX2_lowestPlaceFor_18 rfl ?_
  refine z_callV C zm_X2_isOpen zl_X2_172 (c_isOpen hl hH (nI i)) dX2_lowestPlaceFor_19 (by first | assumption | exact zk_eq | exact zk_ne (by first | assumption | exact zk_eq | exact zk_ne (by first | assumption | exact zk_eq | exact zk_ne (by first | assumption | exact zk_eq | exact zk_ne (by first | assumption | exact zk_eq | exact zk_ne (by first | assumption | exact zk_eq) (by first | decide | omega)) (by first | decide | omega)) (by first | decide | omega)) (by first | decide | omega)) (by first | decide | omega)) (by rfl) (by rfl) (by rfl) (by exact Nat.le_of_ble_eq_true rfl) rfl (by exact ⟨Nat.le_of_ble_eq_true rfl, Nat.le_of_ble_eq_true rfl⟩) (by first | exact ⟨Nat.le_of_ble_eq_true rfl, Nat.le_of_ble_eq_true rfl⟩ | (simp only [zrm]; omega)) (fun _ _ h => z_xno h) (fun r w1 hq => ?_)
  obtain ⟨rfl, rfl⟩ := hq
  refine z_if_eq C 46 dX2_lowestPlaceFor_22 (by decide) (fun c2 => ?_) (fun c2 => ?_)
  · have c3 : ¬ hold wk (nI i) ts = -1 := by simpa using zb_eq0.mp c2
    refine z_iinc C (L1 := [_, _, _, _]) _ dX2_lowestPlaceFor_46 rfl (by first | exact zinc | rfl) rfl ?_
    refine z_goto C 2 dX2_lowestPlaceFor_49 (by decide) ?_
    refine z_fgt (ih (i + 1) ⟨hi2, ?_⟩ (by show mx - (i + 1) < mx - i; omega)) (by simp [zle])
    rw [q2, if_neg (by simp [c3])]
  have c3 : hold wk (nI i) ts = -1 := by
    by_cases q : hold wk (nI i) ts = -1
    · exact q
    · exact absurd (by simp [zb, q]) c2
  refine z_aload_n C dX2_lowestPlaceFor_25 rfl ?_
  refine z_iload_n C dX2_lowestPlaceFor_26 rfl ?_
  refine z_callV C zm_X1_hasSkill zl_X2_181 (c_hasSkill hl en (nd i)) dX2_lowestPlaceFor_27 (by first | assumption | exact zk_eq | exact zk_ne (by first | assumption | exact zk_eq | exact zk_ne (by first | assumption | exact zk_eq | exact zk_ne (by first | assumption | exact zk_eq | exact zk_ne (by first | assumption | exact zk_eq | exact zk_ne (by first | assumption | exact zk_eq) (by first | decide | omega)) (by first | decide | omega)) (by first | decide | omega)) (by first | decide | omega)) (by first | decide | omega)) (by rfl) (by rfl) (by rfl) (by exact Nat.le_of_ble_eq_true rfl) rfl (by exact ⟨Nat.le_of_ble_eq_true rfl, Nat.le_of_ble_eq_true rfl⟩) (by first | exact ⟨Nat.le_of_ble_eq_true rfl, Nat.le_of_ble_eq_true rfl⟩ | (simp only [zrm]; omega)) (fun _ _ h => z_xno h) (fun r w1 hq => ?_)
  obtain ⟨rfl, rfl⟩ := hq
  refine z_if_eq C 46 dX2_lowestPlaceFor_30 (by decide) (fun c4 => ?_) (fun c4 => ?_)
  · have c5 := zb_eq0.mp c4
    refine z_iinc C (L1 := [_, _, _, _]) _ dX2_lowestPlaceFor_46 rfl (by first | exact zinc | rfl) rfl ?_
    refine z_goto C 2 dX2_lowestPlaceFor_49 (by decide) ?_
    refine z_fgt (ih (i + 1) ⟨hi2, ?_⟩ (by show mx - (i + 1) < mx - i; omega)) (by simp [zle])
    rw [q2, if_neg (by simp [c5])]
  have c5 : skl (wk n 2) (nd i) = true := by
    cases q : skl (wk n 2) (nd i) with
    | true => rfl
    | false => exact absurd (by rw [q]; rfl) c4
  refine z_aload_n C dX2_lowestPlaceFor_33 rfl ?_
  refine z_getf C zf_X2_25 dX2_lowestPlaceFor_34 (by first | assumption | exact zk_eq | exact zk_ne (by first | assumption | exact zk_eq | exact zk_ne (by first | assumption | exact zk_eq | exact zk_ne (by first | assumption | exact zk_eq | exact zk_ne (by first | assumption | exact zk_eq | exact zk_ne (by first | assumption | exact zk_eq) (by first | decide | omega)) (by first | decide | omega)) (by first | decide | omega)) (by first | decide | omega)) (by first | decide | omega)) (by rfl) ?_
  refine z_iload_n C dX2_lowestPlaceFor_37 rfl ?_
  refine z_callV C zm_X0_canSpare zl_X2_255 (c_canSpare hl aM (nd i) (hP i hi2 c3)) dX2_lowestPlaceFor_38 (by first | assumption | exact zk_eq | exact zk_ne (by first | assumption | exact zk_eq | exact zk_ne (by first | assumption | exact zk_eq | exact zk_ne (by first | assumption | exact zk_eq | exact zk_ne (by first | assumption | exact zk_eq | exact zk_ne (by first | assumption | exact zk_eq) (by first | decide | omega)) (by first | decide | omega)) (by first | decide | omega)) (by first | decide | omega)) (by first | decide | omega)) (by rfl) (by rfl) (by rfl) (by exact Nat.le_of_ble_eq_true rfl) rfl (by exact ⟨Nat.le_of_ble_eq_true rfl, Nat.le_of_ble_eq_true rfl⟩) (by first | exact ⟨Nat.le_of_ble_eq_true rfl, Nat.le_of_ble_eq_true rfl⟩ | (simp only [zrm]; omega)) (fun _ _ h => z_xno h) (fun r w1 hq => ?_)
  obtain ⟨rfl, rfl⟩ := hq
  refine z_if_eq C 46 dX2_lowestPlaceFor_41 (by decide) (fun c6 => ?_) (fun c6 => ?_)
  · have c7 := zb_eq0.mp c6
    refine z_iinc C (L1 := [_, _, _, _]) _ dX2_lowestPlaceFor_46 rfl (by first | exact zinc | rfl) rfl ?_
    refine z_goto C 2 dX2_lowestPlaceFor_49 (by decide) ?_
    refine z_fgt (ih (i + 1) ⟨hi2, ?_⟩ (by show mx - (i + 1) < mx - i; omega)) (by simp [zle])
    rw [q2, if_neg (by simp [c7])]
  have c7 : zHall W (P.erase (nd i)) = true := by
    cases q : zHall W (P.erase (nd i)) with
    | true => rfl
    | false => exact absurd (by rw [q]; rfl) c6
  refine z_iload_n C dX2_lowestPlaceFor_44 rfl ?_
  refine z_iret C hret dX2_lowestPlaceFor_45 (by first | exact Nat.le_of_ble_eq_true rfl | omega) (by first | exact Nat.le_of_ble_eq_true rfl | omega) ?_
  rw [q2, if_pos (by simp [c3, c5, c7])]
  exact ⟨rfl, rfl⟩
end ZH4
