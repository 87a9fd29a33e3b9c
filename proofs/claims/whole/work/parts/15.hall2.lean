/-! HiringHall: the boards, the places -/
theorem pab_perm {wk : Nat → Nat → Int32} {n : Nat} : ∀ ts : List Nat, (pab wk n ts).Perm (n :: ts)
  | [] => List.Perm.refl _
  | m :: r => by
    simp only [pab]
    split
    · exact ((pab_perm r).cons m).trans (List.Perm.swap n m r)
    · exact List.Perm.refl _
/-- one who refuses: counted, and to the bottom where that costs the place -/
def zcost (co : Nat → Int32) (r : Nat → Int32) : Int32 := co (r 1).toNatClampNeg
def zrefW (wk : Nat → Nat → Int32) (n : Nat) : Nat → Nat → Int32 := va_up wk n (va_up (wk n) 6 (wk n 6 + 1))
def zrefT (co : Nat → Int32) (wk : Nat → Nat → Int32) (n : Nat) (ts : List Nat) : List Nat := if zcost co (wk n) = 0 then ts else pab (zrefW wk n) n (ts.erase n)
/-- one who begins work at the place p -/
def zstaW (hi : Nat → Int32) (wk : Nat → Nat → Int32) (n : Nat) (p : Int32) : Nat → Nat → Int32 := va_up wk n (va_up (va_up (va_up (wk n) 7 p) 8 (hi 10)) 9 1)
def hold (wk : Nat → Nat → Int32) (p : Int32) (ts : List Nat) : Int32 := match ts.find? (fun n => decide (wk n 7 = p)) with
  | some n => wk n 0
  | none => -1
def owe (gu : Nat → Int32) (r : Nat → Int32) : Int32 := if (r 3 = 0 ∧ r 6 < 3) ∧ 0 < gu (r 1).toNatClampNeg - r 5 then gu (r 1).toNatClampNeg - r 5 else 0
section ZH2
variable {l : Launch} {z : zT} {w : zW} {ad : Nat → Nat} {co gu nd : Nat → Int32} {ts : List Nat} {wk : Nat → Nat → Int32} {hi : Nat → Int32} {tb tk : List Nat} {W P : List Int32}
theorem c_putAtBottom (hl : l.stackTraces = false) (h : HP z ad co gu nd w ts wk hi tb tk W P) {n : Nat} (hn : n ∉ ts) (en : w (100 + n) = some (zWa ad n, zWc (wk n))) (hok : zWok n (wk n)) (hl29 : ts.length ≤ 29) : ZM l z mX2_putAtBottom 7 1 64 [.ref (ad 0), .ref (zWa ad n)] w (fun r w1 => r = none ∧ HP z ad co gu nd w1 (pab wk n ts) wk hi tb tk W P ∧ zFk 1 w w1) zNo := by
  have hH := h
  obtain ⟨a0, a1, -, -, -, -, -, -, am, al, an, -⟩ := h
  obtain ⟨md1, b1, e1, -⟩ := id a1
  rw [List.length_map] at e1
  refine zbody (M := mX2_putAtBottom) (L0 := [_, _, _]) hl (by simp [Value.category]) (Nat.le_of_ble_eq_true rfl) (by decide +kernel) rfl ?_
  intro p e s m args below meth c C hX hnm hret
  replace C : zC z p l s m args meth c cX2_putAtBottom RX2 3 := C
  replace hret : meth.sig.returnType = none := hret
  refine z_iconst C (0) dX2_putAtBottom_0 (by decide) ?_
  refine z_istore_n C (L1 := [_, _, _]) dX2_putAtBottom_1 (Nat.le_of_ble_eq_true rfl) rfl ?_
  refine z_ind (σ := Nat) (fun i => i ≤ ts.length ∧ ∀ j (h : j < ts.length), j < i → wk ts[j] 1 ≤ wk n 1) (fun i => ts.length - i) (fun _ => 0) (fun _ => 0)
    (fun i => [some (.ref (ad 0)), some (.ref (zWa ad n)), some (.int (nI i))]) (fun _ => w) 0 ⟨Nat.zero_le _, fun j _ hj => absurd hj (Nat.not_lt_zero _)⟩ ?_
  rintro i ⟨q1, q2⟩ ih
  have fin : (∀ h : i < ts.length, ¬ wk ts[i] 1 ≤ wk n 1) → ZJ z p l e (zrm 7 1 64) s m args below meth c (vx_MQ below (zQc z (fun r w1 => r = none ∧ HP z ad co gu nd w1 (pab wk n ts) wk hi tb tk W P ∧ zFk 1 w w1)) (zXC z zNo) args s 1 64 (zA z)) 0 0 40 [some (.ref (ad 0)), some (.ref (zWa ad n)), some (.int (nI i))] [] w := by
    intro q3
    refine z_aload_n C dX2_putAtBottom_40 rfl ?_
    refine z_getf C zf_X2_10 dX2_putAtBottom_41 (by first | assumption | exact zk_eq | exact zk_ne (by first | assumption | exact zk_eq | exact zk_ne (by first | assumption | exact zk_eq | exact zk_ne (by first | assumption | exact zk_eq | exact zk_ne (by first | assumption | exact zk_eq | exact zk_ne (by first | assumption | exact zk_eq) (by first | decide | omega)) (by first | decide | omega)) (by first | decide | omega)) (by first | decide | omega)) (by first | decide | omega)) (by rfl) ?_
    refine z_iload_n C dX2_putAtBottom_44 rfl ?_
    refine z_aload_n C dX2_putAtBottom_45 rfl ?_
    refine z_callV C zm_Jx4a65c_add_7a177 zl_X2_228 (c_addI (i := i) hl a1 (by simpa using q1) (by simp; omega) hH.zwk ⟨100 + n, _, by omega, en⟩ (by decide)) dX2_putAtBottom_46 (by first | assumption | exact zk_eq | exact zk_ne (by first | assumption | exact zk_eq | exact zk_ne (by first | assumption | exact zk_eq | exact zk_ne (by first | assumption | exact zk_eq | exact zk_ne (by first | assumption | exact zk_eq | exact zk_ne (by first | assumption | exact zk_eq) (by first | decide | omega)) (by first | decide | omega)) (by first | decide | omega)) (by first | decide | omega)) (by first | decide | omega)) (by rfl) (by rfl) (by rfl) (by exact Nat.le_of_ble_eq_true rfl) rfl (by exact ⟨Nat.le_of_ble_eq_true rfl, Nat.le_of_ble_eq_true rfl⟩) (by first | exact ⟨Nat.le_of_ble_eq_true rfl, Nat.le_of_ble_eq_true rfl⟩ | (simp only [zrm]; omega)) (fun _ _ h => z_xno h) (fun r w1 hq => ?_)
    obtain ⟨rfl, g1, g2⟩ := hq
    refine z_vret C hret dX2_putAtBottom_49 (by first | exact Nat.le_of_ble_eq_true rfl | omega) (by first | exact Nat.le_of_ble_eq_true rfl | omega) ?_
    have hp := pab_perm (wk := wk) (n := n) ts
    refine ⟨rfl, hH.turn ?_ g2 (fun m hm => ?_) (by rw [hp.length_eq]; simpa using hl29) (hp.nodup_iff.mpr (List.nodup_cons.mpr ⟨hn, an⟩)), g2⟩
    · rw [pab_at ts i q1 q2 q3, List.map_append, List.map_cons, List.map_take, List.map_drop]
      exact g1
    · rcases List.mem_cons.mp (hp.mem_iff.mp hm) with rfl | h3
      · exact ⟨en, hok⟩
      · exact am m h3
  refine z_iload_n C dX2_putAtBottom_2 rfl ?_
  refine z_aload_n C dX2_putAtBottom_3 rfl ?_
  refine z_getf C zf_X2_10 dX2_putAtBottom_4 (by first | assumption | exact zk_eq | exact zk_ne (by first | assumption | exact zk_eq | exact zk_ne (by first | assumption | exact zk_eq | exact zk_ne (by first | assumption | exact zk_eq | exact zk_ne (by first | assumption | exact zk_eq | exact zk_ne (by first | assumption | exact zk_eq) (by first | decide | omega)) (by first | decide | omega)) (by first | decide | omega)) (by first | decide | omega)) (by first | decide | omega)) (by rfl) ?_
  refine z_callV C zm_Jx4a65c_size_8abf5 zl_X2_67 (c_size hl e1) dX2_putAtBottom_7 (by first | assumption | exact zk_eq | exact zk_ne (by first | assumption | exact zk_eq | exact zk_ne (by first | assumption | exact zk_eq | exact zk_ne (by first | assumption | exact zk_eq | exact zk_ne (by first | assumption | exact zk_eq | exact zk_ne (by first | assumption | exact zk_eq) (by first | decide | omega)) (by first | decide | omega)) (by first | decide | omega)) (by first | decide | omega)) (by first | decide | omega)) (by rfl) (by rfl) (by rfl) (by exact Nat.le_of_ble_eq_true rfl) rfl (by exact ⟨Nat.le_of_ble_eq_true rfl, Nat.le_of_ble_eq_true rfl⟩) (by first | exact ⟨Nat.le_of_ble_eq_true rfl, Nat.le_of_ble_eq_true rfl⟩ | (simp only [zrm]; omega)) (fun _ _ h => z_xno h) (fun r w1 hq => ?_)
  obtain ⟨rfl, rfl⟩ := hq
  refine z_icmp_ge C 40 dX2_putAtBottom_10 (by decide) (fun c1 => ?_) (fun c1 => ?_)
  · have hi2 := ge_of_ge (by omega) (by omega) c1
    exact fin (fun h => absurd h (by omega))
  · have hi2 : i < ts.length := lt_of_nge (by omega) (by omega) c1
    refine z_aload_n C dX2_putAtBottom_13 rfl ?_
    refine z_getf C zf_X2_10 dX2_putAtBottom_14 (by first | assumption | exact zk_eq | exact zk_ne (by first | assumption | exact zk_eq | exact zk_ne (by first | assumption | exact zk_eq | exact zk_ne (by first | assumption | exact zk_eq | exact zk_ne (by first | assumption | exact zk_eq | exact zk_ne (by first | assumption | exact zk_eq) (by first | decide | omega)) (by first | decide | omega)) (by first | decide | omega)) (by first | decide | omega)) (by first | decide | omega)) (by rfl) ?_
    refine z_iload_n C dX2_putAtBottom_17 rfl ?_
    refine z_callV C zm_Jx4a65c_get_915e3 zl_X2_123 (c_get (i := i) hl a1 (by simpa using hi2)) dX2_putAtBottom_18 (by first | assumption | exact zk_eq | exact zk_ne (by first | assumption | exact zk_eq | exact zk_ne (by first | assumption | exact zk_eq | exact zk_ne (by first | assumption | exact zk_eq | exact zk_ne (by first | assumption | exact zk_eq | exact zk_ne (by first | assumption | exact zk_eq) (by first | decide | omega)) (by first | decide | omega)) (by first | decide | omega)) (by first | decide | omega)) (by first | decide | omega)) (by rfl) (by rfl) (by rfl) (by exact Nat.le_of_ble_eq_true rfl) rfl (by exact ⟨Nat.le_of_ble_eq_true rfl, Nat.le_of_ble_eq_true rfl⟩) (by first | exact ⟨Nat.le_of_ble_eq_true rfl, Nat.le_of_ble_eq_true rfl⟩ | (simp only [zrm]; omega)) (fun _ _ h => z_xno h) (fun r w1 hq => ?_)
    obtain ⟨rfl, rfl⟩ := hq
    have e2 := hH.wk1 hi2
    rw [List.getElem_map]
    refine z_castW C zk_X2_78 dX2_putAtBottom_21 (by first | assumption | exact zk_eq | exact zk_ne (by first | assumption | exact zk_eq | exact zk_ne (by first | assumption | exact zk_eq | exact zk_ne (by first | assumption | exact zk_eq | exact zk_ne (by first | assumption | exact zk_eq | exact zk_ne (by first | assumption | exact zk_eq) (by first | decide | omega)) (by first | decide | omega)) (by first | decide | omega)) (by first | decide | omega)) (by first | decide | omega)) ?_
    refine z_getf C zf_X2_106 dX2_putAtBottom_24 (by first | assumption | exact zk_eq | exact zk_ne (by first | assumption | exact zk_eq | exact zk_ne (by first | assumption | exact zk_eq | exact zk_ne (by first | assumption | exact zk_eq | exact zk_ne (by first | assumption | exact zk_eq | exact zk_ne (by first | assumption | exact zk_eq) (by first | decide | omega)) (by first | decide | omega)) (by first | decide | omega)) (by first | decide | omega)) (by first | decide | omega)) (by rfl) ?_
    refine z_aload_n C dX2_putAtBottom_27 rfl ?_
    refine z_getf C zf_X2_106 dX2_putAtBottom_28 (by first | assumption | exact zk_eq | exact zk_ne (by first | assumption | exact zk_eq | exact zk_ne (by first | assumption | exact zk_eq | exact zk_ne (by first | assumption | exact zk_eq | exact zk_ne (by first | assumption | exact zk_eq | exact zk_ne (by first | assumption | exact zk_eq) (by first | decide | omega)) (by first | decide | omega)) (by first | decide | omega)) (by first | decide | omega)) (by first | decide | omega)) (by rfl) ?_
    refine z_icmp_gt C 40 dX2_putAtBottom_31 (by decide) (fun c2 => ?_) (fun c2 => ?_)
    · exact fin (fun _ h => absurd c2 (Int32.not_lt.mpr h))
    · refine z_iinc C (L1 := [_, _, _]) _ dX2_putAtBottom_34 rfl (by first | exact zinc | rfl) rfl ?_
      refine z_goto C 2 dX2_putAtBottom_37 (by decide) ?_
      refine ih (i + 1) ⟨hi2, fun j hj hji => ?_⟩ (by show ts.length - (i + 1) < ts.length - i; omega)
      by_cases e3 : j = i
      · subst e3
        exact Int32.not_lt.mp c2
      · exact q2 j hj (by omega)
theorem c_sendToBottom (hl : l.stackTraces = false) (h : HP z ad co gu nd w ts wk hi tb tk W P) {n : Nat} (hn : n ∈ ts) : ZM l z mX2_sendToBottom 8 1 64 [.ref (ad 0), .ref (zWa ad n)] w (fun r w1 => r = none ∧ HP z ad co gu nd w1 (pab wk n (ts.erase n)) wk hi tb tk W P ∧ zFk 1 w w1) zNo := by
  have hH := h
  obtain ⟨a0, -, -, -, -, -, -, -, am, al, an, -⟩ := h
  refine zbody (M := mX2_sendToBottom) (L0 := [_, _]) hl (by simp [Value.category]) (Nat.le_of_ble_eq_true rfl) (by decide +kernel) rfl ?_
  intro p e s m args below meth c C hX hnm hret
  replace C : zC z p l s m args meth c cX2_sendToBottom RX2 2 := C
  replace hret : meth.sig.returnType = none := hret
  refine z_aload_n C dX2_sendToBottom_0 rfl ?_
  refine z_aload_n C dX2_sendToBottom_1 rfl ?_
  refine z_callV C zm_X2_takeOffBoard zl_X2_97 (c_takeOffBoard hl hH hn) dX2_sendToBottom_2 (by first | assumption | exact zk_eq | exact zk_ne (by first | assumption | exact zk_eq | exact zk_ne (by first | assumption | exact zk_eq | exact zk_ne (by first | assumption | exact zk_eq | exact zk_ne (by first | assumption | exact zk_eq | exact zk_ne (by first | assumption | exact zk_eq) (by first | decide | omega)) (by first | decide | omega)) (by first | decide | omega)) (by first | decide | omega)) (by first | decide | omega)) (by rfl) (by rfl) (by rfl) (by exact Nat.le_of_ble_eq_true rfl) rfl (by exact ⟨Nat.le_of_ble_eq_true rfl, Nat.le_of_ble_eq_true rfl⟩) (by first | exact ⟨Nat.le_of_ble_eq_true rfl, Nat.le_of_ble_eq_true rfl⟩ | (simp only [zrm]; omega)) (fun _ _ h => z_xno h) (fun r w1 hq => ?_)
  obtain ⟨rfl, g1, g2⟩ := hq
  have hle : (ts.erase n).length ≤ 29 := by rw [List.length_erase_of_mem hn]; omega
  have h2 : HP z ad co gu nd w1 (ts.erase n) wk hi tb tk W P := hH.turn g1 g2 (fun m hm => am m (List.mem_of_mem_erase hm)) (by omega) (an.erase n)
  have a02 := h2.1
  refine z_aload_n C dX2_sendToBottom_5 rfl ?_
  refine z_aload_n C dX2_sendToBottom_6 rfl ?_
  refine z_callV C zm_X2_putAtBottom zl_X2_83 (c_putAtBottom hl h2 (fun q => (List.Nodup.not_mem_erase an) q) ((g2 _ (by omega) (by omega) (by omega)).trans (am n hn).1) (am n hn).2 hle) dX2_sendToBottom_7 (by first | assumption | exact zk_eq | exact zk_ne (by first | assumption | exact zk_eq | exact zk_ne (by first | assumption | exact zk_eq | exact zk_ne (by first | assumption | exact zk_eq | exact zk_ne (by first | assumption | exact zk_eq | exact zk_ne (by first | assumption | exact zk_eq) (by first | decide | omega)) (by first | decide | omega)) (by first | decide | omega)) (by first | decide | omega)) (by first | decide | omega)) (by rfl) (by rfl) (by rfl) (by exact Nat.le_of_ble_eq_true rfl) rfl (by exact ⟨Nat.le_of_ble_eq_true rfl, Nat.le_of_ble_eq_true rfl⟩) (by first | exact ⟨Nat.le_of_ble_eq_true rfl, Nat.le_of_ble_eq_true rfl⟩ | (simp only [zrm]; omega)) (fun _ _ h => z_xno h) (fun r w1 hq => ?_)
  obtain ⟨rfl, g3, g4⟩ := hq
  refine z_vret C hret dX2_sendToBottom_10 (by first | exact Nat.le_of_ble_eq_true rfl | omega) (by first | exact Nat.le_of_ble_eq_true rfl | omega) ?_
  exact ⟨rfl, g3, fun j j1 j2 j3 => (g4 j j1 j2 j3).trans (g2 j j1 j2 j3)⟩
theorem c_startWork (hl : l.stackTraces = false) (h : HP z ad co gu nd w ts wk hi tb tk W P) {n : Nat} (hn : n ∈ ts) (x : Int32) : ZM l z mX2_startWork 9 1 64 [.ref (ad 0), .ref (zWa ad n), .int x] w (fun r w1 => r = none ∧ HP z ad co gu nd w1 (pab (zstaW hi wk n x) n (ts.erase n)) (zstaW hi wk n x) (va_up hi 12 1) tb tk W P ∧ zFh w w1) zNo := by
  have hH := h
  obtain ⟨a0, -, -, -, -, -, -, -, am, al, an, hc⟩ := h
  have en := (am n hn).1
  have hok := (am n hn).2
  refine zbody (M := mX2_startWork) (L0 := [_, _, _]) hl (by simp [Value.category]) (Nat.le_of_ble_eq_true rfl) (by decide +kernel) rfl ?_
  intro p e s m args below meth c C hX hnm hret
  replace C : zC z p l s m args meth c cX2_startWork RX2 3 := C
  replace hret : meth.sig.returnType = none := hret
  refine z_aload_n C dX2_startWork_0 rfl ?_
  refine z_iload_n C dX2_startWork_1 rfl ?_
  refine z_putf C (fs1 := [_, _, _, _, _, _, _, _, _, _]) zp_X2_162 dX2_startWork_2 (by first | assumption | exact zk_eq | exact zk_ne (by first | assumption | exact zk_eq | exact zk_ne (by first | assumption | exact zk_eq | exact zk_ne (by first | assumption | exact zk_eq | exact zk_ne (by first | assumption | exact zk_eq | exact zk_ne (by first | assumption | exact zk_eq) (by first | decide | omega)) (by first | decide | omega)) (by first | decide | omega)) (by first | decide | omega)) (by first | decide | omega)) (by first | rfl | exact zb_nar _ | assumption) (by first | rfl | exact zb_fit _ | assumption) (by exact Nat.le_of_ble_eq_true rfl) (by rfl) ?_
  refine z_aload_n C dX2_startWork_5 rfl ?_
  refine z_aload_n C dX2_startWork_6 rfl ?_
  refine z_getf C zf_X2_50 dX2_startWork_7 (by first | assumption | exact zk_eq | exact zk_ne (by first | assumption | exact zk_eq | exact zk_ne (by first | assumption | exact zk_eq | exact zk_ne (by first | assumption | exact zk_eq | exact zk_ne (by first | assumption | exact zk_eq | exact zk_ne (by first | assumption | exact zk_eq) (by first | decide | omega)) (by first | decide | omega)) (by first | decide | omega)) (by first | decide | omega)) (by first | decide | omega)) (by rfl) ?_
  refine z_putf C (fs1 := [_, _, _, _, _, _, _, _, _, _]) zp_X2_258 dX2_startWork_10 (by first | assumption | exact zk_eq | exact zk_ne (by first | assumption | exact zk_eq | exact zk_ne (by first | assumption | exact zk_eq | exact zk_ne (by first | assumption | exact zk_eq | exact zk_ne (by first | assumption | exact zk_eq | exact zk_ne (by first | assumption | exact zk_eq) (by first | decide | omega)) (by first | decide | omega)) (by first | decide | omega)) (by first | decide | omega)) (by first | decide | omega)) (by first | rfl | exact zb_nar _ | assumption) (by first | rfl | exact zb_fit _ | assumption) (by exact Nat.le_of_ble_eq_true rfl) (by rfl) ?_
  refine z_aload_n C dX2_startWork_13 rfl ?_
  refine z_iconst C (1) dX2_startWork_14 (by decide) ?_
  refine z_putf C (fs1 := [_, _, _, _, _, _, _, _, _, _]) zp_X2_191 dX2_startWork_15 (by first | assumption | exact zk_eq | exact zk_ne (by first | assumption | exact zk_eq | exact zk_ne (by first | assumption | exact zk_eq | exact zk_ne (by first | assumption | exact zk_eq | exact zk_ne (by first | assumption | exact zk_eq | exact zk_ne (by first | assumption | exact zk_eq) (by first | decide | omega)) (by first | decide | omega)) (by first | decide | omega)) (by first | decide | omega)) (by first | decide | omega)) (by first | rfl | exact zb_nar _ | assumption) (by first | rfl | exact zb_fit _ | assumption) (by exact Nat.le_of_ble_eq_true rfl) (by rfl) ?_
  refine z_aload_n C dX2_startWork_18 rfl ?_
  refine z_iconst C (1) dX2_startWork_19 (by decide) ?_
  refine z_putf C (fs1 := [_, _, _, _, _, _, _, _, _, _, _, _, _]) zp_X2_56 dX2_startWork_20 (by first | assumption | exact zk_eq | exact zk_ne (by first | assumption | exact zk_eq | exact zk_ne (by first | assumption | exact zk_eq | exact zk_ne (by first | assumption | exact zk_eq | exact zk_ne (by first | assumption | exact zk_eq | exact zk_ne (by first | assumption | exact zk_eq) (by first | decide | omega)) (by first | decide | omega)) (by first | decide | omega)) (by first | decide | omega)) (by first | decide | omega)) (by first | rfl | exact zb_nar _ | assumption) (by first | rfl | exact zb_fit _ | assumption) (by exact Nat.le_of_ble_eq_true rfl) (by rfl) ?_
  have h2 : HP z ad co gu nd (va_up w (100 + n) (some (zWa ad n, zWc (va_up (va_up (va_up (wk n) 7 x) 8 (hi 10)) 9 1)))) ts (zstaW hi wk n x) hi tb tk W P := hH.wrk zk_eq (fun j hj => va_up_ne _ _ hj) hok
  have h3 : HP z ad co gu nd (va_up (va_up w (100 + n) (some (zWa ad n, zWc (va_up (va_up (va_up (wk n) 7 x) 8 (hi 10)) 9 1)))) 0 (some (ad 0, zHc ad (va_up hi 12 1)))) ts (zstaW hi wk n x) (va_up hi 12 1) tb tk W P := h2.hal zk_eq (fun j hj => va_up_ne _ _ hj) hc
  rw [bx_uu, bx_uu]
  refine z_aload_n C dX2_startWork_23 rfl ?_
  refine z_aload_n C dX2_startWork_24 rfl ?_
  refine z_callV C zm_X2_sendToBottom zl_X2_261 (c_sendToBottom hl h3 hn) dX2_startWork_25 (by first | assumption | exact zk_eq | exact zk_ne (by first | assumption | exact zk_eq | exact zk_ne (by first | assumption | exact zk_eq | exact zk_ne (by first | assumption | exact zk_eq | exact zk_ne (by first | assumption | exact zk_eq | exact zk_ne (by first | assumption | exact zk_eq) (by first | decide | omega)) (by first | decide | omega)) (by first | decide | omega)) (by first | decide | omega)) (by first | decide | omega)) (by rfl) (by rfl) (by rfl) (by exact Nat.le_of_ble_eq_true rfl) rfl (by exact ⟨Nat.le_of_ble_eq_true rfl, Nat.le_of_ble_eq_true rfl⟩) (by first | exact ⟨Nat.le_of_ble_eq_true rfl, Nat.le_of_ble_eq_true rfl⟩ | (simp only [zrm]; omega)) (fun _ _ h => z_xno h) (fun r w1 hq => ?_)
  obtain ⟨rfl, g1, g2⟩ := hq
  refine z_vret C hret dX2_startWork_28 (by first | exact Nat.le_of_ble_eq_true rfl | omega) (by first | exact Nat.le_of_ble_eq_true rfl | omega) ?_
  exact ⟨rfl, g1, fun j j1 j2 => (g2 j (by omega) (by omega) (by omega)).trans ((va_up_ne _ _ (by omega)).trans (va_up_ne _ _ (by omega)))⟩
theorem c_countRefusal (hl : l.stackTraces = false) (h : HP z ad co gu nd w ts wk hi tb tk W P) {n : Nat} (hn : n ∈ ts) : ZM l z mX2_countRefusal 9 1 64 [.ref (ad 0), .ref (zWa ad n)] w (fun r w1 => r = none ∧ HP z ad co gu nd w1 (zrefT co wk n ts) (zrefW wk n) hi tb tk W P ∧ zFh w w1) zNo := by
  have hH := h
  obtain ⟨a0, -, -, -, -, a10, -, -, am, al, an, hc⟩ := h
  have en := (am n hn).1
  have hok := (am n hn).2
  obtain ⟨b, hb, hb2⟩ := hok.1
  have hcost : zcost co (wk n) = co b := by unfold zcost; rw [hb2, nI_clamp (by omega)]
  refine zbody (M := mX2_countRefusal) (L0 := [_, _]) hl (by simp [Value.category]) (Nat.le_of_ble_eq_true rfl) (by decide +kernel) rfl ?_
  intro p e s m args below meth c C hX hnm hret
  replace C : zC z p l s m args meth c cX2_countRefusal RX2 2 := C
  replace hret : meth.sig.returnType = none := hret
  refine z_aload_n C dX2_countRefusal_0 rfl ?_
  refine z_dup C dX2_countRefusal_1 rfl ?_
  refine z_getf C zf_X2_198 dX2_countRefusal_2 (by first | assumption | exact zk_eq | exact zk_ne (by first | assumption | exact zk_eq | exact zk_ne (by first | assumption | exact zk_eq | exact zk_ne (by first | assumption | exact zk_eq | exact zk_ne (by first | assumption | exact zk_eq | exact zk_ne (by first | assumption | exact zk_eq) (by first | decide | omega)) (by first | decide | omega)) (by first | decide | omega)) (by first | decide | omega)) (by first | decide | omega)) (by rfl) ?_
  refine z_iconst C (1) dX2_countRefusal_5 (by decide) ?_
  refine z_iadd C dX2_countRefusal_6 ?_
  refine z_putf C (fs1 := [_, _, _, _, _, _, _, _, _, _]) zp_X2_198 dX2_countRefusal_7 (by first | assumption | exact zk_eq | exact zk_ne (by first | assumption | exact zk_eq | exact zk_ne (by first | assumption | exact zk_eq | exact zk_ne (by first | assumption | exact zk_eq | exact zk_ne (by first | assumption | exact zk_eq | exact zk_ne (by first | assumption | exact zk_eq) (by first | decide | omega)) (by first | decide | omega)) (by first | decide | omega)) (by first | decide | omega)) (by first | decide | omega)) (by first | rfl | exact zb_nar _ | assumption) (by first | rfl | exact zb_fit _ | assumption) (by exact Nat.le_of_ble_eq_true rfl) (by rfl) ?_
  have h2 : HP z ad co gu nd (va_up w (100 + n) (some (zWa ad n, zWc (va_up (wk n) 6 (wk n 6 + 1))))) ts (zrefW wk n) hi tb tk W P := hH.wrk zk_eq (fun j hj => va_up_ne _ _ hj) hok
  refine z_aload_n C dX2_countRefusal_10 rfl ?_
  refine z_getf C zf_X2_29 dX2_countRefusal_11 (by first | assumption | exact zk_eq | exact zk_ne (by first | assumption | exact zk_eq | exact zk_ne (by first | assumption | exact zk_eq | exact zk_ne (by first | assumption | exact zk_eq | exact zk_ne (by first | assumption | exact zk_eq | exact zk_ne (by first | assumption | exact zk_eq) (by first | decide | omega)) (by first | decide | omega)) (by first | decide | omega)) (by first | decide | omega)) (by first | decide | omega)) (by rfl) ?_
  refine z_aload_n C dX2_countRefusal_14 rfl ?_
  refine z_getf C zf_X2_106 dX2_countRefusal_15 (by first | assumption | exact zk_eq | exact zk_ne (by first | assumption | exact zk_eq | exact zk_ne (by first | assumption | exact zk_eq | exact zk_ne (by first | assumption | exact zk_eq | exact zk_ne (by first | assumption | exact zk_eq | exact zk_ne (by first | assumption | exact zk_eq) (by first | decide | omega)) (by first | decide | omega)) (by first | decide | omega)) (by first | decide | omega)) (by first | decide | omega)) (by rfl) ?_
  refine z_zald C dX2_countRefusal_18 (by first | assumption | exact zk_eq | exact zk_ne (by first | assumption | exact zk_eq | exact zk_ne (by first | assumption | exact zk_eq | exact zk_ne (by first | assumption | exact zk_eq | exact zk_ne (by first | assumption | exact zk_eq | exact zk_ne (by first | assumption | exact zk_eq) (by first | decide | omega)) (by first | decide | omega)) (by first | decide | omega)) (by first | decide | omega)) (by first | decide | omega)) (by first | rfl | assumption) (by first | assumption | omega | decide) (by first | decide | omega) ?_
  refine z_if_eq C 27 dX2_countRefusal_19 (by decide) (fun c1 => ?_) (fun c1 => ?_)
  · refine z_widen (c2 := 1) (s2 := 64) (by omega) (by omega) ?_
    refine z_vret C hret dX2_countRefusal_27 (by first | exact Nat.le_of_ble_eq_true rfl | omega) (by first | exact Nat.le_of_ble_eq_true rfl | omega) ?_
    refine ⟨rfl, ?_, fun j j1 j2 => va_up_ne _ _ (by omega)⟩
    rw [zrefT, hcost, if_pos c1]
    exact h2
  · refine z_aload_n C dX2_countRefusal_22 rfl ?_
    refine z_aload_n C dX2_countRefusal_23 rfl ?_
    refine z_callV C zm_X2_sendToBottom zl_X2_261 (c_sendToBottom hl h2 hn) dX2_countRefusal_24 (by first | assumption | exact zk_eq | exact zk_ne (by first | assumption | exact zk_eq | exact zk_ne (by first | assumption | exact zk_eq | exact zk_ne (by first | assumption | exact zk_eq | exact zk_ne (by first | assumption | exact zk_eq | exact zk_ne (by first | assumption | exact zk_eq) (by first | decide | omega)) (by first | decide | omega)) (by first | decide | omega)) (by first | decide | omega)) (by first | decide | omega)) (by rfl) (by rfl) (by rfl) (by exact Nat.le_of_ble_eq_true rfl) rfl (by exact ⟨Nat.le_of_ble_eq_true rfl, Nat.le_of_ble_eq_true rfl⟩) (by first | exact ⟨Nat.le_of_ble_eq_true rfl, Nat.le_of_ble_eq_true rfl⟩ | (simp only [zrm]; omega)) (fun _ _ h => z_xno h) (fun r w1 hq => ?_)
    obtain ⟨rfl, g1, g2⟩ := hq
    refine z_vret C hret dX2_countRefusal_27 (by first | exact Nat.le_of_ble_eq_true rfl | omega) (by first | exact Nat.le_of_ble_eq_true rfl | omega) ?_
    refine ⟨rfl, ?_, fun j j1 j2 => (g2 j (by omega) (by omega) (by omega)).trans (va_up_ne _ _ (by omega))⟩
    rw [zrefT, hcost, if_neg c1]
    exact g1
theorem c_holderOf (hl : l.stackTraces = false) (h : HP z ad co gu nd w ts wk hi tb tk W P) (x : Int32) : ZM l z mX2_holderOf 3 0 0 [.ref (ad 0), .int x] w (fun r w1 => r = some (.int (hold wk x ts)) ∧ w1 = w) zNo := by
  have hH := h
  obtain ⟨a0, a1, -, -, -, -, -, -, -, al, -, -⟩ := h
  obtain ⟨md1, b1, e1, -⟩ := id a1
  rw [List.length_map] at e1
  refine zbody (M := mX2_holderOf) (L0 := [_, _, _]) hl (by simp [Value.category]) (Nat.le_of_ble_eq_true rfl) (by decide +kernel) rfl ?_
  intro p e s m args below meth c C hX hnm hret
  replace C : zC z p l s m args meth c cX2_holderOf RX2 3 := C
  replace hret : meth.sig.returnType = (some .int) := hret
  refine z_iconst C (0) dX2_holderOf_0 (by decide) ?_
  refine z_istore_n C (L1 := [_, _, _]) dX2_holderOf_1 (Nat.le_of_ble_eq_true rfl) rfl ?_
  refine z_ind (σ := Nat) (fun i => i ≤ ts.length ∧ hold wk x ts = hold wk x (ts.drop i)) (fun i => ts.length - i) (fun _ => 0) (fun _ => 0)
    (fun i => [some (.ref (ad 0)), some (.int x), some (.int (nI i))]) (fun _ => w) 0 ⟨Nat.zero_le _, rfl⟩ ?_
  rintro i ⟨q1, q2⟩ ih
  refine z_iload_n C dX2_holderOf_2 rfl ?_
  refine z_aload_n C dX2_holderOf_3 rfl ?_
  refine z_getf C zf_X2_10 dX2_holderOf_4 (by first | assumption | exact zk_eq | exact zk_ne (by first | assumption | exact zk_eq | exact zk_ne (by first | assumption | exact zk_eq | exact zk_ne (by first | assumption | exact zk_eq | exact zk_ne (by first | assumption | exact zk_eq | exact zk_ne (by first | assumption | exact zk_eq) (by first | decide | omega)) (by first | decide | omega)) (by first | decide | omega)) (by first | decide | omega)) (by first | decide | omega)) (by rfl) ?_
  refine z_callV C zm_Jx4a65c_size_8abf5 zl_X2_67 (c_size hl e1) dX2_holderOf_7 (by first | assumption | exact zk_eq | exact zk_ne (by first | assumption | exact zk_eq | exact zk_ne (by first | assumption | exact zk_eq | exact zk_ne (by first | assumption | exact zk_eq | exact zk_ne (by first | assumption | exact zk_eq | exact zk_ne (by first | assumption | exact zk_eq) (by first | decide | omega)) (by first | decide | omega)) (by first | decide | omega)) (by first | decide | omega)) (by first | decide | omega)) (by rfl) (by rfl) (by rfl) (by exact Nat.le_of_ble_eq_true rfl) rfl (by exact ⟨Nat.le_of_ble_eq_true rfl, Nat.le_of_ble_eq_true rfl⟩) (by first | exact ⟨Nat.le_of_ble_eq_true rfl, Nat.le_of_ble_eq_true rfl⟩ | (simp only [zrm]; omega)) (fun _ _ h => z_xno h) (fun r w1 hq => ?_)
  obtain ⟨rfl, rfl⟩ := hq
  refine z_icmp_ge C 52 dX2_holderOf_10 (by decide) (fun c1 => ?_) (fun c1 => ?_)
  · have hi2 := ge_of_ge (by omega) (by omega) c1
    refine z_iconst C (-1) dX2_holderOf_52 (by decide) ?_
    refine z_iret C hret dX2_holderOf_53 (by first | exact Nat.le_of_ble_eq_true rfl | omega) (by first | exact Nat.le_of_ble_eq_true rfl | omega) ?_
    refine ⟨?_, rfl⟩
    rw [q2, List.drop_eq_nil_of_le hi2]
    rfl
  · have hi2 : i < ts.length := lt_of_nge (by omega) (by omega) c1
    refine z_aload_n C dX2_holderOf_13 rfl ?_
    refine z_getf C zf_X2_10 dX2_holderOf_14 (by first | assumption | exact zk_eq | exact zk_ne (by first | assumption | exact zk_eq | exact zk_ne (by first | assumption | exact zk_eq | exact zk_ne (by first | assumption | exact zk_eq | exact zk_ne (by first | assumption | exact zk_eq | exact zk_ne (by first | assumption | exact zk_eq) (by first | decide | omega)) (by first | decide | omega)) (by first | decide | omega)) (by first | decide | omega)) (by first | decide | omega)) (by rfl) ?_
    refine z_iload_n C dX2_holderOf_17 rfl ?_
    refine z_callV C zm_Jx4a65c_get_915e3 zl_X2_123 (c_get (i := i) hl a1 (by simpa using hi2)) dX2_holderOf_18 (by first | assumption | exact zk_eq | exact zk_ne (by first | assumption | exact zk_eq | exact zk_ne (by first | assumption | exact zk_eq | exact zk_ne (by first | assumption | exact zk_eq | exact zk_ne (by first | assumption | exact zk_eq | exact zk_ne (by first | assumption | exact zk_eq) (by first | decide | omega)) (by first | decide | omega)) (by first | decide | omega)) (by first | decide | omega)) (by first | decide | omega)) (by rfl) (by rfl) (by rfl) (by exact Nat.le_of_ble_eq_true rfl) rfl (by exact ⟨Nat.le_of_ble_eq_true rfl, Nat.le_of_ble_eq_true rfl⟩) (by first | exact ⟨Nat.le_of_ble_eq_true rfl, Nat.le_of_ble_eq_true rfl⟩ | (simp only [zrm]; omega)) (fun _ _ h => z_xno h) (fun r w1 hq => ?_)
    obtain ⟨rfl, rfl⟩ := hq
    have e2 := hH.wk1 hi2
    rw [List.getElem_map]
    refine z_castW C zk_X2_78 dX2_holderOf_21 (by first | assumption | exact zk_eq | exact zk_ne (by first | assumption | exact zk_eq | exact zk_ne (by first | assumption | exact zk_eq | exact zk_ne (by first | assumption | exact zk_eq | exact zk_ne (by first | assumption | exact zk_eq | exact zk_ne (by first | assumption | exact zk_eq) (by first | decide | omega)) (by first | decide | omega)) (by first | decide | omega)) (by first | decide | omega)) (by first | decide | omega)) ?_
    refine z_getf C zf_X2_162 dX2_holderOf_24 (by first | assumption | exact zk_eq | exact zk_ne (by first | assumption | exact zk_eq | exact zk_ne (by first | assumption | exact zk_eq | exact zk_ne (by first | assumption | exact zk_eq | exact zk_ne (by first | assumption | exact zk_eq | exact zk_ne (by first | assumption | exact zk_eq) (by first | decide | omega)) (by first | decide | omega)) (by first | decide | omega)) (by first | decide | omega)) (by first | decide | omega)) (by rfl) ?_
    refine z_iload_n C dX2_holderOf_27 rfl ?_
    refine z_icmp_ne C 46 dX2_holderOf_28 (by decide) (fun c2 => ?_) (fun c2 => ?_)
    · refine z_iinc C (L1 := [_, _, _]) _ dX2_holderOf_46 rfl (by first | exact zinc | rfl) rfl ?_
      refine z_goto C 2 dX2_holderOf_49 (by decide) ?_
      refine ih (i + 1) ⟨hi2, ?_⟩ (by show ts.length - (i + 1) < ts.length - i; omega)
      rw [q2]
      unfold hold
      rw [find_drop _ _ _ hi2, if_neg (by simpa using c2)]
    · refine z_aload_n C dX2_holderOf_31 rfl ?_
      refine z_getf C zf_X2_10 dX2_holderOf_32 (by first | assumption | exact zk_eq | exact zk_ne (by first | assumption | exact zk_eq | exact zk_ne (by first | assumption | exact zk_eq | exact zk_ne (by first | assumption | exact zk_eq | exact zk_ne (by first | assumption | exact zk_eq | exact zk_ne (by first | assumption | exact zk_eq) (by first | decide | omega)) (by first | decide | omega)) (by first | decide | omega)) (by first | decide | omega)) (by first | decide | omega)) (by rfl) ?_
      refine z_iload_n C dX2_holderOf_35 rfl ?_
      refine z_callV C zm_Jx4a65c_get_915e3 zl_X2_123 (c_get (i := i) hl a1 (by simpa using hi2)) dX2_holderOf_36 (by first | assumption | exact zk_eq | exact zk_ne (by first | assumption | exact zk_eq | exact zk_ne (by first | assumption | exact zk_eq | exact zk_ne (by first | assumption | exact zk_eq | exact zk_ne (by first | assumption | exact zk_eq | exact zk_ne (by first | assumption | exact zk_eq) (by first | decide | omega)) (by first | decide | omega)) (by first | decide | omega)) (by first | decide | omega)) (by first | decide | omega)) (by rfl) (by rfl) (by rfl) (by exact Nat.le_of_ble_eq_true rfl) rfl (by exact ⟨Nat.le_of_ble_eq_true rfl, Nat.le_of_ble_eq_true rfl⟩) (by first | exact ⟨Nat.le_of_ble_eq_true rfl, Nat.le_of_ble_eq_true rfl⟩ | (simp only [zrm]; omega)) (fun _ _ h => z_xno h) (fun r w1 hq => ?_)
      obtain ⟨rfl, rfl⟩ := hq
      have e2 := hH.wk1 hi2
      rw [List.getElem_map]
      refine z_castW C zk_X2_78 dX2_holderOf_39 (by first | assumption | exact zk_eq | exact zk_ne (by first | assumption | exact zk_eq | exact zk_ne (by first | assumption | exact zk_eq | exact zk_ne (by first | assumption | exact zk_eq | exact zk_ne (by first | assumption | exact zk_eq | exact zk_ne (by first | assumption | exact zk_eq) (by first | decide | omega)) (by first | decide | omega)) (by first | decide | omega)) (by first | decide | omega)) (by first | decide | omega)) ?_
      refine z_getf C zf_X2_87 dX2_holderOf_42 (by first | assumption | exact zk_eq | exact zk_ne (by first | assumption | exact zk_eq | exact zk_ne (by first | assumption | exact zk_eq | exact zk_ne (by first | assumption | exact zk_eq | exact zk_ne (by first | assumption | exact zk_eq | exact zk_ne (by first | assumption | exact zk_eq) (by first | decide | omega)) (by first | decide | omega)) (by first | decide | omega)) (by first | decide | omega)) (by first | decide | omega)) (by rfl) ?_
      refine z_iret C hret dX2_holderOf_45 (by first | exact Nat.le_of_ble_eq_true rfl | omega) (by first | exact Nat.le_of_ble_eq_true rfl | omega) ?_
      refine ⟨?_, rfl⟩
      rw [q2]
      unfold hold
      rw [find_drop _ _ _ hi2, if_pos (by simpa using c2)]
theorem c_isOpen (hl : l.stackTraces = false) (h : HP z ad co gu nd w ts wk hi tb tk W P) (x : Int32) : ZM l z mX2_isOpen 4 0 0 [.ref (ad 0), .int x] w (fun r w1 => r = some (.int (zb (decide (hold wk x ts = -1)))) ∧ w1 = w) zNo := by
  have hH := h
  obtain ⟨a0, -⟩ := h
  refine zbody (M := mX2_isOpen) (L0 := [_, _]) hl (by simp [Value.category]) (Nat.le_of_ble_eq_true rfl) (by decide +kernel) rfl ?_
  intro p e s m args below meth c C hX hnm hret
  replace C : zC z p l s m args meth c cX2_isOpen RX2 2 := C
  replace hret : meth.sig.returnType = (some .boolean) := hret
  refine z_aload_n C dX2_isOpen_0 rfl ?_
  refine z_iload_n C dX2_isOpen_1 rfl ?_
  refine z_callV C zm_X2_holderOf zl_X2_201 (c_holderOf hl hH x) dX2_isOpen_2 (by first | assumption | exact zk_eq | exact zk_ne (by first | assumption | exact zk_eq | exact zk_ne (by first | assumption | exact zk_eq | exact zk_ne (by first | assumption | exact zk_eq | exact zk_ne (by first | assumption | exact zk_eq | exact zk_ne (by first | assumption | exact zk_eq) (by first | decide | omega)) (by first | decide | omega)) (by first | decide | omega)) (by first | decide | omega)) (by first | decide | omega)) (by rfl) (by rfl) (by rfl) (by exact Nat.le_of_ble_eq_true rfl) rfl (by exact ⟨Nat.le_of_ble_eq_true rfl, Nat.le_of_ble_eq_true rfl⟩) (by first | exact ⟨Nat.le_of_ble_eq_true rfl, Nat.le_of_ble_eq_true rfl⟩ | (simp only [zrm]; omega)) (fun _ _ h => z_xno h) (fun r w1 hq => ?_)
  obtain ⟨rfl, rfl⟩ := hq
  refine z_iconst C (-1) dX2_isOpen_5 (by decide) ?_
  refine z_icmp_ne C 13 dX2_isOpen_6 (by decide) (fun c1 => ?_) (fun c1 => ?_)
  · refine z_iconst C (0) dX2_isOpen_13 (by decide) ?_
    refine z_zret C hret dX2_isOpen_14 (by first | rfl | exact zb_nar _ | assumption) (by first | exact Nat.le_of_ble_eq_true rfl | omega) (by first | exact Nat.le_of_ble_eq_true rfl | omega) ?_
    exact ⟨by simp [zb, c1], rfl⟩
  · refine z_iconst C (1) dX2_isOpen_9 (by decide) ?_
    refine z_goto C 14 dX2_isOpen_10 (by decide) ?_
    refine z_zret C hret dX2_isOpen_14 (by first | rfl | exact zb_nar _ | assumption) (by first | exact Nat.le_of_ble_eq_true rfl | omega) (by first | exact Nat.le_of_ble_eq_true rfl | omega) ?_
    exact ⟨by simp [zb, c1], rfl⟩
theorem c_hoursOwed (hl : l.stackTraces = false) (h : HP z ad co gu nd w ts wk hi tb tk W P) {n : Nat} (hn : n ∈ ts) : ZM l z mX2_hoursOwed 0 0 0 [.ref (ad 0), .ref (zWa ad n)] w (fun r w1 => r = some (.int (owe gu (wk n))) ∧ w1 = w) zNo := by
  obtain ⟨a0, -, -, -, -, -, a11, -, am, al, an, hc⟩ := h
  have en := (am n hn).1
  obtain ⟨b, hb, hb2⟩ := (am n hn).2.1
  have ho : owe gu (wk n) = if (wk n 3 = 0 ∧ wk n 6 < 3) ∧ 0 < gu b - wk n 5 then gu b - wk n 5 else 0 := by unfold owe; rw [hb2, nI_clamp (by omega)]
  refine zbody (M := mX2_hoursOwed) (L0 := [_, _, _, _]) hl (by simp [Value.category]) (Nat.le_of_ble_eq_true rfl) (by decide +kernel) rfl ?_
  intro p e s m args below meth c C hX hnm hret
  replace C : zC z p l s m args meth c cX2_hoursOwed RX2 4 := C
  replace hret : meth.sig.returnType = (some .int) := hret
  refine z_aload_n C dX2_hoursOwed_0 rfl ?_
  refine z_getf C zf_X2_33 dX2_hoursOwed_1 (by first | assumption | exact zk_eq | exact zk_ne (by first | assumption | exact zk_eq | exact zk_ne (by first | assumption | exact zk_eq | exact zk_ne (by first | assumption | exact zk_eq | exact zk_ne (by first | assumption | exact zk_eq | exact zk_ne (by first | assumption | exact zk_eq) (by first | decide | omega)) (by first | decide | omega)) (by first | decide | omega)) (by first | decide | omega)) (by first | decide | omega)) (by rfl) ?_
  refine z_aload_n C dX2_hoursOwed_4 rfl ?_
  refine z_getf C zf_X2_106 dX2_hoursOwed_5 (by first | assumption | exact zk_eq | exact zk_ne (by first | assumption | exact zk_eq | exact zk_ne (by first | assumption | exact zk_eq | exact zk_ne (by first | assumption | exact zk_eq | exact zk_ne (by first | assumption | exact zk_eq | exact zk_ne (by first | assumption | exact zk_eq) (by first | decide | omega)) (by first | decide | omega)) (by first | decide | omega)) (by first | decide | omega)) (by first | decide | omega)) (by rfl) ?_
  refine z_iald C dX2_hoursOwed_8 (by first | assumption | exact zk_eq | exact zk_ne (by first | assumption | exact zk_eq | exact zk_ne (by first | assumption | exact zk_eq | exact zk_ne (by first | assumption | exact zk_eq | exact zk_ne (by first | assumption | exact zk_eq | exact zk_ne (by first | assumption | exact zk_eq) (by first | decide | omega)) (by first | decide | omega)) (by first | decide | omega)) (by first | decide | omega)) (by first | decide | omega)) (by first | rfl | assumption) (by first | assumption | omega | decide) (by first | decide | omega) ?_
  refine z_aload_n C dX2_hoursOwed_9 rfl ?_
  refine z_getf C zf_X2_100 dX2_hoursOwed_10 (by first | assumption | exact zk_eq | exact zk_ne (by first | assumption | exact zk_eq | exact zk_ne (by first | assumption | exact zk_eq | exact zk_ne (by first | assumption | exact zk_eq | exact zk_ne (by first | assumption | exact zk_eq | exact zk_ne (by first | assumption | exact zk_eq) (by first | decide | omega)) (by first | decide | omega)) (by first | decide | omega)) (by first | decide | omega)) (by first | decide | omega)) (by rfl) ?_
  refine z_isub C dX2_hoursOwed_13 ?_
  refine z_istore_n C (L1 := [_, _, _, _]) dX2_hoursOwed_14 (Nat.le_of_ble_eq_true rfl) rfl ?_
  refine z_aload_n C dX2_hoursOwed_15 rfl ?_
  refine z_getf C zf_X2_109 dX2_hoursOwed_16 (by first | assumption | exact zk_eq | exact zk_ne (by first | assumption | exact zk_eq | exact zk_ne (by first | assumption | exact zk_eq | exact zk_ne (by first | assumption | exact zk_eq | exact zk_ne (by first | assumption | exact zk_eq | exact zk_ne (by first | assumption | exact zk_eq) (by first | decide | omega)) (by first | decide | omega)) (by first | decide | omega)) (by first | decide | omega)) (by first | decide | omega)) (by rfl) ?_
  have tail : ∀ (v : Bool), (v = true ↔ (wk n 3 = 0 ∧ wk n 6 < 3)) → ZJ z p l e (zrm 0 0 0) s m args below meth c (vx_MQ below (zQc z (fun r w1 => r = some (.int (owe gu (wk n))) ∧ w1 = w)) (zXC z zNo) args s 0 0 (zA z)) 0 0 35 [some (.ref (ad 0)), some (.ref (zWa ad n)), some (.int (gu b - wk n 5)), none] [.int (zb v)] w := by
    intro v hv
    refine z_istore_n C (L1 := [_, _, _, _]) dX2_hoursOwed_35 (Nat.le_of_ble_eq_true rfl) rfl ?_
    refine z_iload_n C dX2_hoursOwed_36 rfl ?_
    refine z_if_eq C 48 dX2_hoursOwed_37 (by decide) (fun c2 => ?_) (fun c2 => ?_)
    · refine z_iconst C (0) dX2_hoursOwed_48 (by decide) ?_
      refine z_iret C hret dX2_hoursOwed_49 (by first | exact Nat.le_of_ble_eq_true rfl | omega) (by first | exact Nat.le_of_ble_eq_true rfl | omega) ?_
      rw [ho, if_neg (fun q => by rw [hv.mpr q.1] at c2; exact absurd c2 (by decide))]
      exact ⟨rfl, rfl⟩
    · have hv2 : v = true := by cases v <;> first | rfl | exact absurd rfl c2
      refine z_iload_n C dX2_hoursOwed_40 rfl ?_
      refine z_if_le C 48 dX2_hoursOwed_41 (by decide) (fun c3 => ?_) (fun c3 => ?_)
      · refine z_iconst C (0) dX2_hoursOwed_48 (by decide) ?_
        refine z_iret C hret dX2_hoursOwed_49 (by first | exact Nat.le_of_ble_eq_true rfl | omega) (by first | exact Nat.le_of_ble_eq_true rfl | omega) ?_
        rw [ho, if_neg (fun q => absurd c3 (Int32.not_le.mpr q.2))]
        exact ⟨rfl, rfl⟩
      · refine z_iload_n C dX2_hoursOwed_44 rfl ?_
        refine z_goto C 49 dX2_hoursOwed_45 (by decide) ?_
        refine z_iret C hret dX2_hoursOwed_49 (by first | exact Nat.le_of_ble_eq_true rfl | omega) (by first | exact Nat.le_of_ble_eq_true rfl | omega) ?_
        rw [ho, if_pos ⟨hv.mp hv2, Int32.not_le.mp c3⟩]
        exact ⟨rfl, rfl⟩
  refine z_if_ne C 34 dX2_hoursOwed_19 (by decide) (fun c1 => ?_) (fun c1 => ?_)
  · refine z_iconst C (0) dX2_hoursOwed_34 (by decide) ?_
    exact tail false ⟨fun q => (by cases q), fun q => absurd q.1 c1⟩
  refine z_aload_n C dX2_hoursOwed_22 rfl ?_
  refine z_getf C zf_X2_198 dX2_hoursOwed_23 (by first | assumption | exact zk_eq | exact zk_ne (by first | assumption | exact zk_eq | exact zk_ne (by first | assumption | exact zk_eq | exact zk_ne (by first | assumption | exact zk_eq | exact zk_ne (by first | assumption | exact zk_eq | exact zk_ne (by first | assumption | exact zk_eq) (by first | decide | omega)) (by first | decide | omega)) (by first | decide | omega)) (by first | decide | omega)) (by first | decide | omega)) (by rfl) ?_
  refine z_iconst C (3) dX2_hoursOwed_26 (by decide) ?_
  refine z_icmp_ge C 34 dX2_hoursOwed_27 (by decide) (fun c2 => ?_) (fun c2 => ?_)
  · refine z_iconst C (0) dX2_hoursOwed_34 (by decide) ?_
    exact tail false ⟨fun q => (by cases q), fun q => absurd c2 (Int32.not_le.mpr q.2)⟩
  · refine z_iconst C (1) dX2_hoursOwed_30 (by decide) ?_
    refine z_goto C 35 dX2_hoursOwed_31 (by decide) ?_
    exact tail true ⟨fun _ => ⟨c1, Int32.not_le.mp c2⟩, fun _ => rfl⟩
end ZH2
