/-! HiringHallModel: the public methods that ask of one worker, and the like -/
abbrev zMO : Type := (Nat → Nat → Int32) × (Nat → Int32)
def MM (z : zT) (b0 : Nat) (w : zW) (M : zMO) : Prop := ∃ (bd : Nat → Nat) (g1 : Nat → Nat → Int32), bd 20 = b0 ∧ MP z bd g1 M.2 w ∧ mAg g1 M.1
/-- a public method of the model at the address b0 -/
abbrev ZQ (l : Launch) (z : zT) (Y : zMI) (b0 : Nat) (As : List Value) (w : zW) (o : Int32 × zMO) : Prop :=
  ZM l z Y 3 0 0 (.ref b0 :: As) w (fun r w1 => r = some (.int o.1) ∧ MM z b0 w1 o.2 ∧ zFm w w1) zNo
theorem ZQ.fin {z : zT} {w w1 : zW} {b0 : Nat} {o : Int32 × zMO} {v : Int32} {M1 : zMO} (ho : o = (v, M1)) (hh : MM z b0 w1 M1) (hf : zFm w w1) : some (Value.int v) = some (.int o.1) ∧ MM z b0 w1 o.2 ∧ zFm w w1 := by
  subst ho
  exact ⟨rfl, hh, hf⟩
def mIn (x a b : Int32) : Bool := !decide (x < a) && !decide (b < x)
theorem zb_ff {v : Bool} (h : zb v = 0) : v = false := zb_eq0.mp h
theorem mKept_lt {g : Nat → Nat → Int32} {x : Int32} {k : Nat} (h : mKept g x = some k) : k < 30 ∧ ¬ x < 0 ∧ g 0 k = x := by
  have h1 := List.find?_some h
  have h2 := List.mem_of_find?_eq_some h
  simp at h1 h2
  exact ⟨h2, Int32.not_lt.mpr h1.1, h1.2⟩
def mGet (M : zMO) (x : Int32) (v : Nat → Int32) : Int32 × zMO := match mKept M.1 x with
  | none => (0, (M.1, va_up M.2 25 1))
  | some k => (v k, (M.1, va_up M.2 25 0))
def mSet (M : zMO) (x : Int32) (r : Nat) (v : Int32) : Int32 × zMO := match mKept M.1 x with
  | none => (0, (M.1, va_up M.2 25 1))
  | some k => (M.1 r k, (va_up M.1 r (va_up (M.1 r) k v), va_up M.2 25 0))
def mSignOff (M : zMO) (x : Int32) : Int32 × zMO := match mKept M.1 x with
  | none => (0, (M.1, va_up M.2 25 1))
  | some k => if M.1 7 k = -1 then (M.1 9 k, (va_up M.1 0 (va_up (M.1 0) k (-1)), va_up M.2 25 0)) else (0, (M.1, va_up M.2 25 2))
def mSetSkills (M : zMO) (x y : Int32) : Int32 × zMO := match mKept M.1 x with
  | none => (0, (M.1, va_up M.2 25 1))
  | some k => if mIn y 0 31 = true then if M.1 7 k = -1 then (M.1 3 k, (va_up M.1 3 (va_up (M.1 3) k y), va_up M.2 25 0)) else (0, (M.1, va_up M.2 25 3)) else (0, (M.1, va_up M.2 25 2))
def mMove (M : zMO) (x y : Int32) : Int32 × zMO := match mKept M.1 x with
  | none => (0, (M.1, va_up M.2 25 1))
  | some k => if mIn y 0 3 = true then (M.1 1 k, (mLow (va_up M.1 1 (va_up (M.1 1) k y)) (va_up M.2 25 0) k, mLoF (va_up M.2 25 0))) else (0, (M.1, va_up M.2 25 2))
def mLeave (M : zMO) (x y : Int32) : Int32 × zMO := match mKept M.1 x with
  | none => (0, (M.1, va_up M.2 25 1))
  | some k => if mIn y 0 (M.2 18) = true then if M.1 7 k = -1 ∨ y < M.2 19 then (0, (M.1, va_up M.2 25 3)) else (M.1 7 k, (va_up (mWoG M.1 k y) 14 (va_up (M.1 14) (M.1 7 k).toNatClampNeg (-1)), va_up (mWoF M.1 (va_up M.2 25 0) k y) 19 y)) else (0, (M.1, va_up M.2 25 2))
def mSetRule (M : zMO) (x v y : Int32) : Int32 × zMO :=
  if mIn x 0 3 = true ∧ mIn y 0 400 = true then (M.1 12 x.toNatClampNeg, (va_up (va_up M.1 11 (va_up (M.1 11) x.toNatClampNeg v)) 12 (va_up (M.1 12) x.toNatClampNeg y), va_up M.2 25 0)) else (0, (M.1, va_up M.2 25 1))
def mOrder (M : zMO) (x : Int32) : Int32 × zMO :=
  if mIn x 0 4 = true then if M.2 17 < 16 then (M.2 17, (va_up (va_up M.1 13 (va_up (M.1 13) (M.2 17).toNatClampNeg x)) 14 (va_up (M.1 14) (M.2 17).toNatClampNeg (-1)), va_up (va_up M.2 25 0) 17 (M.2 17 + 1))) else (0, (M.1, va_up M.2 25 2)) else (0, (M.1, va_up M.2 25 1))
def mSetHours (M : zMO) (x : Int32) : Int32 × zMO :=
  if mIn x 1 12 = true then if M.2 21 = 0 then (M.2 18, (M.1, va_up (va_up M.2 25 0) 18 x)) else (0, (M.1, va_up M.2 25 2)) else (0, (M.1, va_up M.2 25 1))
def mWorkerAt (M : zMO) (x : Int32) : Int32 × zMO :=
  if mIn x 0 (M.2 17 - 1) = true then (if M.1 14 x.toNatClampNeg = -1 then -1 else M.1 0 (M.1 14 x.toNatClampNeg).toNatClampNeg, (M.1, va_up M.2 25 0)) else (0, (M.1, va_up M.2 25 1))
section ZM5
variable {l : Launch} {z : zT} {w : zW} {b0 : Nat} {M : zMO}
theorem q_boardOf (hl : l.stackTraces = false) (h : MM z b0 w M) (x : Int32) : ZQ l z mX3_boardOf b0 [.int x] w (mGet M x (M.1 1)) := by
  obtain ⟨g, f⟩ := M
  obtain ⟨bd, g1, rfl, h, hA⟩ := h
  dsimp only at h hA
  have hH := h
  obtain ⟨m20, m21, m22, m23, m24, m25, m26, m27, m28, m29, m30, m31, m32, m33, m34, m35, m36, m37, m38⟩ := h.all
  refine zbody (M := mX3_boardOf) (L0 := [_, _, _]) hl (by simp [Value.category]) (Nat.le_of_ble_eq_true rfl) (by decide +kernel) rfl ?_
  intro p e s m args below meth c C hX hnm hret
  replace C : zC z p l s m args meth c cX3_boardOf RX3 3 := C
  replace hret : meth.sig.returnType = (some .int) := hret
  refine z_aload_n C dX3_boardOf_0 rfl ?_
  refine z_iload_n C dX3_boardOf_1 rfl ?_
  refine z_callV C zm_X3_kept zl_X3_102 (m_kept hl hH x) dX3_boardOf_2 (by first | assumption | exact zk_eq | exact zk_ne (by first | assumption | exact zk_eq | exact zk_ne (by first | assumption | exact zk_eq | exact zk_ne (by first | assumption | exact zk_eq | exact zk_ne (by first | assumption | exact zk_eq | exact zk_ne (by first | assumption | exact zk_eq) (by first | decide | omega)) (by first | decide | omega)) (by first | decide | omega)) (by first | decide | omega)) (by first | decide | omega)) (by rfl) (by rfl) (by rfl) (by exact Nat.le_of_ble_eq_true rfl) rfl (by exact ⟨Nat.le_of_ble_eq_true rfl, Nat.le_of_ble_eq_true rfl⟩) (by first | exact ⟨Nat.le_of_ble_eq_true rfl, Nat.le_of_ble_eq_true rfl⟩ | (simp only [zrm]; omega)) (fun _ _ h => z_xno h) (fun r w1 hq => ?_)
  obtain ⟨rfl, rfl⟩ := hq
  rw [hA.kept x]
  cases hk : mKept g x with
  | none =>
    dsimp only
    refine z_istore_n C (L1 := [_, _, _]) dX3_boardOf_5 (Nat.le_of_ble_eq_true rfl) rfl ?_
    refine z_aload_n C dX3_boardOf_6 rfl ?_
    refine z_iload_n C dX3_boardOf_7 rfl ?_
    refine z_if_lt C 15 dX3_boardOf_8 (by decide) (fun c1 => ?_) (fun c1 => ?_)
    · refine z_iconst C (0) dX3_boardOf_15 (by decide) ?_
      refine z_iconst C (1) dX3_boardOf_16 (by decide) ?_
      refine z_iconst C (1) dX3_boardOf_17 (by decide) ?_
      refine z_callV C zm_X3_goes zl_X3_91 (m_goes (a := false) (b := true) (v := true) hl hH) dX3_boardOf_18 (by first | assumption | exact zk_eq | exact zk_ne (by first | assumption | exact zk_eq | exact zk_ne (by first | assumption | exact zk_eq | exact zk_ne (by first | assumption | exact zk_eq | exact zk_ne (by first | assumption | exact zk_eq | exact zk_ne (by first | assumption | exact zk_eq) (by first | decide | omega)) (by first | decide | omega)) (by first | decide | omega)) (by first | decide | omega)) (by first | decide | omega)) (by rfl) (by rfl) (by rfl) (by exact Nat.le_of_ble_eq_true rfl) rfl (by exact ⟨Nat.le_of_ble_eq_true rfl, Nat.le_of_ble_eq_true rfl⟩) (by first | exact ⟨Nat.le_of_ble_eq_true rfl, Nat.le_of_ble_eq_true rfl⟩ | (simp only [zrm]; omega)) (fun _ _ h => z_xno h) (fun r w2 hq => ?_)
      obtain ⟨rfl, g2, g3⟩ := hq
      refine z_if_eq C 33 dX3_boardOf_21 (by decide) (fun c2 => ?_) (fun c2 => ?_)
      · refine z_iconst C (0) dX3_boardOf_33 (by decide) ?_
        refine z_iret C hret dX3_boardOf_34 (by first | exact Nat.le_of_ble_eq_true rfl | omega) (by first | exact Nat.le_of_ble_eq_true rfl | omega) ?_
        exact ZQ.fin (M1 := (g, va_up f 25 1)) (by simp only [mGet, hk]) ⟨bd, g1, rfl, g2, hA⟩ g3
      · exact absurd (by decide) c2
    · exact absurd (by decide) c1
  | some k =>
    dsimp only
    obtain ⟨hk30, -, -⟩ := mKept_lt hk
    refine z_istore_n C (L1 := [_, _, _]) dX3_boardOf_5 (Nat.le_of_ble_eq_true rfl) rfl ?_
    refine z_aload_n C dX3_boardOf_6 rfl ?_
    refine z_iload_n C dX3_boardOf_7 rfl ?_
    refine z_if_lt C 15 dX3_boardOf_8 (by decide) (fun c1 => ?_) (fun c1 => ?_)
    · exact absurd c1 (nI_pos (by omega))
    · refine z_iconst C (1) dX3_boardOf_11 (by decide) ?_
      refine z_goto C 16 dX3_boardOf_12 (by decide) ?_
      refine z_iconst C (1) dX3_boardOf_16 (by decide) ?_
      refine z_iconst C (1) dX3_boardOf_17 (by decide) ?_
      refine z_callV C zm_X3_goes zl_X3_91 (m_goes (a := true) (b := true) (v := true) hl hH) dX3_boardOf_18 (by first | assumption | exact zk_eq | exact zk_ne (by first | assumption | exact zk_eq | exact zk_ne (by first | assumption | exact zk_eq | exact zk_ne (by first | assumption | exact zk_eq | exact zk_ne (by first | assumption | exact zk_eq | exact zk_ne (by first | assumption | exact zk_eq) (by first | decide | omega)) (by first | decide | omega)) (by first | decide | omega)) (by first | decide | omega)) (by first | decide | omega)) (by rfl) (by rfl) (by rfl) (by exact Nat.le_of_ble_eq_true rfl) rfl (by exact ⟨Nat.le_of_ble_eq_true rfl, Nat.le_of_ble_eq_true rfl⟩) (by first | exact ⟨Nat.le_of_ble_eq_true rfl, Nat.le_of_ble_eq_true rfl⟩ | (simp only [zrm]; omega)) (fun _ _ h => z_xno h) (fun r w2 hq => ?_)
      obtain ⟨rfl, g2, g3⟩ := hq
      have hX := g2
      obtain ⟨m20, m21, m22, m23, m24, m25, m26, m27, m28, m29, m30, m31, m32, m33, m34, m35, m36, m37, m38⟩ := g2.all
      refine z_if_eq C 33 dX3_boardOf_21 (by decide) (fun c2 => ?_) (fun c2 => ?_)
      · exact absurd c2 (by decide)
      · refine z_aload_n C dX3_boardOf_24 rfl ?_
        refine z_getf C zf_X3_13 dX3_boardOf_25 (by first | assumption | exact zk_eq | exact zk_ne (by first | assumption | exact zk_eq | exact zk_ne (by first | assumption | exact zk_eq | exact zk_ne (by first | assumption | exact zk_eq | exact zk_ne (by first | assumption | exact zk_eq | exact zk_ne (by first | assumption | exact zk_eq) (by first | decide | omega)) (by first | decide | omega)) (by first | decide | omega)) (by first | decide | omega)) (by first | decide | omega)) (by rfl) ?_
        refine z_iload_n C dX3_boardOf_28 rfl ?_
        refine z_iald C dX3_boardOf_29 (by first | assumption | exact zk_eq | exact zk_ne (by first | assumption | exact zk_eq | exact zk_ne (by first | assumption | exact zk_eq | exact zk_ne (by first | assumption | exact zk_eq | exact zk_ne (by first | assumption | exact zk_eq | exact zk_ne (by first | assumption | exact zk_eq) (by first | decide | omega)) (by first | decide | omega)) (by first | decide | omega)) (by first | decide | omega)) (by first | decide | omega)) (by first | rfl | assumption) (by first | assumption | omega | decide) (by first | decide | omega) ?_
        refine z_goto C 34 dX3_boardOf_30 (by decide) ?_
        refine z_iret C hret dX3_boardOf_34 (by first | exact Nat.le_of_ble_eq_true rfl | omega) (by first | exact Nat.le_of_ble_eq_true rfl | omega) ?_
        exact ZQ.fin (M1 := (g, va_up f 25 0)) (by simp only [mGet, hk]; rw [hA 1 (by decide)]) ⟨bd, g1, rfl, hX, hA⟩ g3
theorem q_hoursOf (hl : l.stackTraces = false) (h : MM z b0 w M) (x : Int32) : ZQ l z mX3_hoursOf b0 [.int x] w (mGet M x (M.1 9)) := by
  obtain ⟨g, f⟩ := M
  obtain ⟨bd, g1, rfl, h, hA⟩ := h
  dsimp only at h hA
  have hH := h
  obtain ⟨m20, m21, m22, m23, m24, m25, m26, m27, m28, m29, m30, m31, m32, m33, m34, m35, m36, m37, m38⟩ := h.all
  refine zbody (M := mX3_hoursOf) (L0 := [_, _, _]) hl (by simp [Value.category]) (Nat.le_of_ble_eq_true rfl) (by decide +kernel) rfl ?_
  intro p e s m args below meth c C hX hnm hret
  replace C : zC z p l s m args meth c cX3_hoursOf RX3 3 := C
  replace hret : meth.sig.returnType = (some .int) := hret
  refine z_aload_n C dX3_hoursOf_0 rfl ?_
  refine z_iload_n C dX3_hoursOf_1 rfl ?_
  refine z_callV C zm_X3_kept zl_X3_102 (m_kept hl hH x) dX3_hoursOf_2 (by first | assumption | exact zk_eq | exact zk_ne (by first | assumption | exact zk_eq | exact zk_ne (by first | assumption | exact zk_eq | exact zk_ne (by first | assumption | exact zk_eq | exact zk_ne (by first | assumption | exact zk_eq | exact zk_ne (by first | assumption | exact zk_eq) (by first | decide | omega)) (by first | decide | omega)) (by first | decide | omega)) (by first | decide | omega)) (by first | decide | omega)) (by rfl) (by rfl) (by rfl) (by exact Nat.le_of_ble_eq_true rfl) rfl (by exact ⟨Nat.le_of_ble_eq_true rfl, Nat.le_of_ble_eq_true rfl⟩) (by first | exact ⟨Nat.le_of_ble_eq_true rfl, Nat.le_of_ble_eq_true rfl⟩ | (simp only [zrm]; omega)) (fun _ _ h => z_xno h) (fun r w1 hq => ?_)
  obtain ⟨rfl, rfl⟩ := hq
  rw [hA.kept x]
  cases hk : mKept g x with
  | none =>
    dsimp only
    refine z_istore_n C (L1 := [_, _, _]) dX3_hoursOf_5 (Nat.le_of_ble_eq_true rfl) rfl ?_
    refine z_aload_n C dX3_hoursOf_6 rfl ?_
    refine z_iload_n C dX3_hoursOf_7 rfl ?_
    refine z_if_lt C 15 dX3_hoursOf_8 (by decide) (fun c1 => ?_) (fun c1 => ?_)
    · refine z_iconst C (0) dX3_hoursOf_15 (by decide) ?_
      refine z_iconst C (1) dX3_hoursOf_16 (by decide) ?_
      refine z_iconst C (1) dX3_hoursOf_17 (by decide) ?_
      refine z_callV C zm_X3_goes zl_X3_91 (m_goes (a := false) (b := true) (v := true) hl hH) dX3_hoursOf_18 (by first | assumption | exact zk_eq | exact zk_ne (by first | assumption | exact zk_eq | exact zk_ne (by first | assumption | exact zk_eq | exact zk_ne (by first | assumption | exact zk_eq | exact zk_ne (by first | assumption | exact zk_eq | exact zk_ne (by first | assumption | exact zk_eq) (by first | decide | omega)) (by first | decide | omega)) (by first | decide | omega)) (by first | decide | omega)) (by first | decide | omega)) (by rfl) (by rfl) (by rfl) (by exact Nat.le_of_ble_eq_true rfl) rfl (by exact ⟨Nat.le_of_ble_eq_true rfl, Nat.le_of_ble_eq_true rfl⟩) (by first | exact ⟨Nat.le_of_ble_eq_true rfl, Nat.le_of_ble_eq_true rfl⟩ | (simp only [zrm]; omega)) (fun _ _ h => z_xno h) (fun r w2 hq => ?_)
      obtain ⟨rfl, g2, g3⟩ := hq
      refine z_if_eq C 33 dX3_hoursOf_21 (by decide) (fun c2 => ?_) (fun c2 => ?_)
      · refine z_iconst C (0) dX3_hoursOf_33 (by decide) ?_
        refine z_iret C hret dX3_hoursOf_34 (by first | exact Nat.le_of_ble_eq_true rfl | omega) (by first | exact Nat.le_of_ble_eq_true rfl | omega) ?_
        exact ZQ.fin (M1 := (g, va_up f 25 1)) (by simp only [mGet, hk]) ⟨bd, g1, rfl, g2, hA⟩ g3
      · exact absurd (by decide) c2
    · exact absurd (by decide) c1
  | some k =>
    dsimp only
    obtain ⟨hk30, -, -⟩ := mKept_lt hk
    refine z_istore_n C (L1 := [_, _, _]) dX3_hoursOf_5 (Nat.le_of_ble_eq_true rfl) rfl ?_
    refine z_aload_n C dX3_hoursOf_6 rfl ?_
    refine z_iload_n C dX3_hoursOf_7 rfl ?_
    refine z_if_lt C 15 dX3_hoursOf_8 (by decide) (fun c1 => ?_) (fun c1 => ?_)
    · exact absurd c1 (nI_pos (by omega))
    · refine z_iconst C (1) dX3_hoursOf_11 (by decide) ?_
      refine z_goto C 16 dX3_hoursOf_12 (by decide) ?_
      refine z_iconst C (1) dX3_hoursOf_16 (by decide) ?_
      refine z_iconst C (1) dX3_hoursOf_17 (by decide) ?_
      refine z_callV C zm_X3_goes zl_X3_91 (m_goes (a := true) (b := true) (v := true) hl hH) dX3_hoursOf_18 (by first | assumption | exact zk_eq | exact zk_ne (by first | assumption | exact zk_eq | exact zk_ne (by first | assumption | exact zk_eq | exact zk_ne (by first | assumption | exact zk_eq | exact zk_ne (by first | assumption | exact zk_eq | exact zk_ne (by first | assumption | exact zk_eq) (by first | decide | omega)) (by first | decide | omega)) (by first | decide | omega)) (by first | decide | omega)) (by first | decide | omega)) (by rfl) (by rfl) (by rfl) (by exact Nat.le_of_ble_eq_true rfl) rfl (by exact ⟨Nat.le_of_ble_eq_true rfl, Nat.le_of_ble_eq_true rfl⟩) (by first | exact ⟨Nat.le_of_ble_eq_true rfl, Nat.le_of_ble_eq_true rfl⟩ | (simp only [zrm]; omega)) (fun _ _ h => z_xno h) (fun r w2 hq => ?_)
      obtain ⟨rfl, g2, g3⟩ := hq
      have hX := g2
      obtain ⟨m20, m21, m22, m23, m24, m25, m26, m27, m28, m29, m30, m31, m32, m33, m34, m35, m36, m37, m38⟩ := g2.all
      refine z_if_eq C 33 dX3_hoursOf_21 (by decide) (fun c2 => ?_) (fun c2 => ?_)
      · exact absurd c2 (by decide)
      · refine z_aload_n C dX3_hoursOf_24 rfl ?_
        refine z_getf C zf_X3_38 dX3_hoursOf_25 (by first | assumption | exact zk_eq | exact zk_ne (by first | assumption | exact zk_eq | exact zk_ne (by first | assumption | exact zk_eq | exact zk_ne (by first | assumption | exact zk_eq | exact zk_ne (by first | assumption | exact zk_eq | exact zk_ne (by first | assumption | exact zk_eq) (by first | decide | omega)) (by first | decide | omega)) (by first | decide | omega)) (by first | decide | omega)) (by first | decide | omega)) (by rfl) ?_
        refine z_iload_n C dX3_hoursOf_28 rfl ?_
        refine z_iald C dX3_hoursOf_29 (by first | assumption | exact zk_eq | exact zk_ne (by first | assumption | exact zk_eq | exact zk_ne (by first | assumption | exact zk_eq | exact zk_ne (by first | assumption | exact zk_eq | exact zk_ne (by first | assumption | exact zk_eq | exact zk_ne (by first | assumption | exact zk_eq) (by first | decide | omega)) (by first | decide | omega)) (by first | decide | omega)) (by first | decide | omega)) (by first | decide | omega)) (by first | rfl | assumption) (by first | assumption | omega | decide) (by first | decide | omega) ?_
        refine z_goto C 34 dX3_hoursOf_30 (by decide) ?_
        refine z_iret C hret dX3_hoursOf_34 (by first | exact Nat.le_of_ble_eq_true rfl | omega) (by first | exact Nat.le_of_ble_eq_true rfl | omega) ?_
        exact ZQ.fin (M1 := (g, va_up f 25 0)) (by simp only [mGet, hk]; rw [hA 9 (by decide)]) ⟨bd, g1, rfl, hX, hA⟩ g3
theorem q_refusalsOf (hl : l.stackTraces = false) (h : MM z b0 w M) (x : Int32) : ZQ l z mX3_refusalsOf b0 [.int x] w (mGet M x (M.1 10)) := by
  obtain ⟨g, f⟩ := M
  obtain ⟨bd, g1, rfl, h, hA⟩ := h
  dsimp only at h hA
  have hH := h
  obtain ⟨m20, m21, m22, m23, m24, m25, m26, m27, m28, m29, m30, m31, m32, m33, m34, m35, m36, m37, m38⟩ := h.all
  refine zbody (M := mX3_refusalsOf) (L0 := [_, _, _]) hl (by simp [Value.category]) (Nat.le_of_ble_eq_true rfl) (by decide +kernel) rfl ?_
  intro p e s m args below meth c C hX hnm hret
  replace C : zC z p l s m args meth c cX3_refusalsOf RX3 3 := C
  replace hret : meth.sig.returnType = (some .int) := hret
  refine z_aload_n C dX3_refusalsOf_0 rfl ?_
  refine z_iload_n C dX3_refusalsOf_1 rfl ?_
  refine z_callV C zm_X3_kept zl_X3_102 (m_kept hl hH x) dX3_refusalsOf_2 (by first | assumption | exact zk_eq | exact zk_ne (by first | assumption | exact zk_eq | exact zk_ne (by first | assumption | exact zk_eq | exact zk_ne (by first | assumption | exact zk_eq | exact zk_ne (by first | assumption | exact zk_eq | exact zk_ne (by first | assumption | exact zk_eq) (by first | decide | omega)) (by first | decide | omega)) (by first | decide | omega)) (by first | decide | omega)) (by first | decide | omega)) (by rfl) (by rfl) (by rfl) (by exact Nat.le_of_ble_eq_true rfl) rfl (by exact ⟨Nat.le_of_ble_eq_true rfl, Nat.le_of_ble_eq_true rfl⟩) (by first | exact ⟨Nat.le_of_ble_eq_true rfl, Nat.le_of_ble_eq_true rfl⟩ | (simp only [zrm]; omega)) (fun _ _ h => z_xno h) (fun r w1 hq => ?_)
  obtain ⟨rfl, rfl⟩ := hq
  rw [hA.kept x]
  cases hk : mKept g x with
  | none =>
    dsimp only
    refine z_istore_n C (L1 := [_, _, _]) dX3_refusalsOf_5 (Nat.le_of_ble_eq_true rfl) rfl ?_
    refine z_aload_n C dX3_refusalsOf_6 rfl ?_
    refine z_iload_n C dX3_refusalsOf_7 rfl ?_
    refine z_if_lt C 15 dX3_refusalsOf_8 (by decide) (fun c1 => ?_) (fun c1 => ?_)
    · refine z_iconst C (0) dX3_refusalsOf_15 (by decide) ?_
      refine z_iconst C (1) dX3_refusalsOf_16 (by decide) ?_
      refine z_iconst C (1) dX3_refusalsOf_17 (by decide) ?_
      refine z_callV C zm_X3_goes zl_X3_91 (m_goes (a := false) (b := true) (v := true) hl hH) dX3_refusalsOf_18 (by first | assumption | exact zk_eq | exact zk_ne (by first | assumption | exact zk_eq | exact zk_ne (by first | assumption | exact zk_eq | exact zk_ne (by first | assumption | exact zk_eq | exact zk_ne (by first | assumption | exact zk_eq | exact zk_ne (by first | assumption | exact zk_eq) (by first | decide | omega)) (by first | decide | omega)) (by first | decide | omega)) (by first | decide | omega)) (by first | decide | omega)) (by rfl) (by rfl) (by rfl) (by exact Nat.le_of_ble_eq_true rfl) rfl (by exact ⟨Nat.le_of_ble_eq_true rfl, Nat.le_of_ble_eq_true rfl⟩) (by first | exact ⟨Nat.le_of_ble_eq_true rfl, Nat.le_of_ble_eq_true rfl⟩ | (simp only [zrm]; omega)) (fun _ _ h => z_xno h) (fun r w2 hq => ?_)
      obtain ⟨rfl, g2, g3⟩ := hq
      refine z_if_eq C 33 dX3_refusalsOf_21 (by decide) (fun c2 => ?_) (fun c2 => ?_)
      · refine z_iconst C (0) dX3_refusalsOf_33 (by decide) ?_
        refine z_iret C hret dX3_refusalsOf_34 (by first | exact Nat.le_of_ble_eq_true rfl | omega) (by first | exact Nat.le_of_ble_eq_true rfl | omega) ?_
        exact ZQ.fin (M1 := (g, va_up f 25 1)) (by simp only [mGet, hk]) ⟨bd, g1, rfl, g2, hA⟩ g3
      · exact absurd (by decide) c2
    · exact absurd (by decide) c1
  | some k =>
    dsimp only
    obtain ⟨hk30, -, -⟩ := mKept_lt hk
    refine z_istore_n C (L1 := [_, _, _]) dX3_refusalsOf_5 (Nat.le_of_ble_eq_true rfl) rfl ?_
    refine z_aload_n C dX3_refusalsOf_6 rfl ?_
    refine z_iload_n C dX3_refusalsOf_7 rfl ?_
    refine z_if_lt C 15 dX3_refusalsOf_8 (by decide) (fun c1 => ?_) (fun c1 => ?_)
    · exact absurd c1 (nI_pos (by omega))
    · refine z_iconst C (1) dX3_refusalsOf_11 (by decide) ?_
      refine z_goto C 16 dX3_refusalsOf_12 (by decide) ?_
      refine z_iconst C (1) dX3_refusalsOf_16 (by decide) ?_
      refine z_iconst C (1) dX3_refusalsOf_17 (by decide) ?_
      refine z_callV C zm_X3_goes zl_X3_91 (m_goes (a := true) (b := true) (v := true) hl hH) dX3_refusalsOf_18 (by first | assumption | exact zk_eq | exact zk_ne (by first | assumption | exact zk_eq | exact zk_ne (by first | assumption | exact zk_eq | exact zk_ne (by first | assumption | exact zk_eq | exact zk_ne (by first | assumption | exact zk_eq | exact zk_ne (by first | assumption | exact zk_eq) (by first | decide | omega)) (by first | decide | omega)) (by first | decide | omega)) (by first | decide | omega)) (by first | decide | omega)) (by rfl) (by rfl) (by rfl) (by exact Nat.le_of_ble_eq_true rfl) rfl (by exact ⟨Nat.le_of_ble_eq_true rfl, Nat.le_of_ble_eq_true rfl⟩) (by first | exact ⟨Nat.le_of_ble_eq_true rfl, Nat.le_of_ble_eq_true rfl⟩ | (simp only [zrm]; omega)) (fun _ _ h => z_xno h) (fun r w2 hq => ?_)
      obtain ⟨rfl, g2, g3⟩ := hq
      have hX := g2
      obtain ⟨m20, m21, m22, m23, m24, m25, m26, m27, m28, m29, m30, m31, m32, m33, m34, m35, m36, m37, m38⟩ := g2.all
      refine z_if_eq C 33 dX3_refusalsOf_21 (by decide) (fun c2 => ?_) (fun c2 => ?_)
      · exact absurd c2 (by decide)
      · refine z_aload_n C dX3_refusalsOf_24 rfl ?_
        refine z_getf C zf_X3_41 dX3_refusalsOf_25 (by first | assumption | exact zk_eq | exact zk_ne (by first | assumption | exact zk_eq | exact zk_ne (by first | assumption | exact zk_eq | exact zk_ne (by first | assumption | exact zk_eq | exact zk_ne (by first | assumption | exact zk_eq | exact zk_ne (by first | assumption | exact zk_eq) (by first | decide | omega)) (by first | decide | omega)) (by first | decide | omega)) (by first | decide | omega)) (by first | decide | omega)) (by rfl) ?_
        refine z_iload_n C dX3_refusalsOf_28 rfl ?_
        refine z_iald C dX3_refusalsOf_29 (by first | assumption | exact zk_eq | exact zk_ne (by first | assumption | exact zk_eq | exact zk_ne (by first | assumption | exact zk_eq | exact zk_ne (by first | assumption | exact zk_eq | exact zk_ne (by first | assumption | exact zk_eq | exact zk_ne (by first | assumption | exact zk_eq) (by first | decide | omega)) (by first | decide | omega)) (by first | decide | omega)) (by first | decide | omega)) (by first | decide | omega)) (by first | rfl | assumption) (by first | assumption | omega | decide) (by first | decide | omega) ?_
        refine z_goto C 34 dX3_refusalsOf_30 (by decide) ?_
        refine z_iret C hret dX3_refusalsOf_34 (by first | exact Nat.le_of_ble_eq_true rfl | omega) (by first | exact Nat.le_of_ble_eq_true rfl | omega) ?_
        exact ZQ.fin (M1 := (g, va_up f 25 0)) (by simp only [mGet, hk]; rw [hA 10 (by decide)]) ⟨bd, g1, rfl, hX, hA⟩ g3
theorem q_placeOf (hl : l.stackTraces = false) (h : MM z b0 w M) (x : Int32) : ZQ l z mX3_placeOf b0 [.int x] w (mGet M x (M.1 7)) := by
  obtain ⟨g, f⟩ := M
  obtain ⟨bd, g1, rfl, h, hA⟩ := h
  dsimp only at h hA
  have hH := h
  obtain ⟨m20, m21, m22, m23, m24, m25, m26, m27, m28, m29, m30, m31, m32, m33, m34, m35, m36, m37, m38⟩ := h.all
  refine zbody (M := mX3_placeOf) (L0 := [_, _, _]) hl (by simp [Value.category]) (Nat.le_of_ble_eq_true rfl) (by decide +kernel) rfl ?_
  intro p e s m args below meth c C hX hnm hret
  replace C : zC z p l s m args meth c cX3_placeOf RX3 3 := C
  replace hret : meth.sig.returnType = (some .int) := hret
  refine z_aload_n C dX3_placeOf_0 rfl ?_
  refine z_iload_n C dX3_placeOf_1 rfl ?_
  refine z_callV C zm_X3_kept zl_X3_102 (m_kept hl hH x) dX3_placeOf_2 (by first | assumption | exact zk_eq | exact zk_ne (by first | assumption | exact zk_eq | exact zk_ne (by first | assumption | exact zk_eq | exact zk_ne (by first | assumption | exact zk_eq | exact zk_ne (by first | assumption | exact zk_eq | exact zk_ne (by first | assumption | exact zk_eq) (by first | decide | omega)) (by first | decide | omega)) (by first | decide | omega)) (by first | decide | omega)) (by first | decide | omega)) (by rfl) (by rfl) (by rfl) (by exact Nat.le_of_ble_eq_true rfl) rfl (by exact ⟨Nat.le_of_ble_eq_true rfl, Nat.le_of_ble_eq_true rfl⟩) (by first | exact ⟨Nat.le_of_ble_eq_true rfl, Nat.le_of_ble_eq_true rfl⟩ | (simp only [zrm]; omega)) (fun _ _ h => z_xno h) (fun r w1 hq => ?_)
  obtain ⟨rfl, rfl⟩ := hq
  rw [hA.kept x]
  cases hk : mKept g x with
  | none =>
    dsimp only
    refine z_istore_n C (L1 := [_, _, _]) dX3_placeOf_5 (Nat.le_of_ble_eq_true rfl) rfl ?_
    refine z_aload_n C dX3_placeOf_6 rfl ?_
    refine z_iload_n C dX3_placeOf_7 rfl ?_
    refine z_if_lt C 15 dX3_placeOf_8 (by decide) (fun c1 => ?_) (fun c1 => ?_)
    · refine z_iconst C (0) dX3_placeOf_15 (by decide) ?_
      refine z_iconst C (1) dX3_placeOf_16 (by decide) ?_
      refine z_iconst C (1) dX3_placeOf_17 (by decide) ?_
      refine z_callV C zm_X3_goes zl_X3_91 (m_goes (a := false) (b := true) (v := true) hl hH) dX3_placeOf_18 (by first | assumption | exact zk_eq | exact zk_ne (by first | assumption | exact zk_eq | exact zk_ne (by first | assumption | exact zk_eq | exact zk_ne (by first | assumption | exact zk_eq | exact zk_ne (by first | assumption | exact zk_eq | exact zk_ne (by first | assumption | exact zk_eq) (by first | decide | omega)) (by first | decide | omega)) (by first | decide | omega)) (by first | decide | omega)) (by first | decide | omega)) (by rfl) (by rfl) (by rfl) (by exact Nat.le_of_ble_eq_true rfl) rfl (by exact ⟨Nat.le_of_ble_eq_true rfl, Nat.le_of_ble_eq_true rfl⟩) (by first | exact ⟨Nat.le_of_ble_eq_true rfl, Nat.le_of_ble_eq_true rfl⟩ | (simp only [zrm]; omega)) (fun _ _ h => z_xno h) (fun r w2 hq => ?_)
      obtain ⟨rfl, g2, g3⟩ := hq
      refine z_if_eq C 33 dX3_placeOf_21 (by decide) (fun c2 => ?_) (fun c2 => ?_)
      · refine z_iconst C (0) dX3_placeOf_33 (by decide) ?_
        refine z_iret C hret dX3_placeOf_34 (by first | exact Nat.le_of_ble_eq_true rfl | omega) (by first | exact Nat.le_of_ble_eq_true rfl | omega) ?_
        exact ZQ.fin (M1 := (g, va_up f 25 1)) (by simp only [mGet, hk]) ⟨bd, g1, rfl, g2, hA⟩ g3
      · exact absurd (by decide) c2
    · exact absurd (by decide) c1
  | some k =>
    dsimp only
    obtain ⟨hk30, -, -⟩ := mKept_lt hk
    refine z_istore_n C (L1 := [_, _, _]) dX3_placeOf_5 (Nat.le_of_ble_eq_true rfl) rfl ?_
    refine z_aload_n C dX3_placeOf_6 rfl ?_
    refine z_iload_n C dX3_placeOf_7 rfl ?_
    refine z_if_lt C 15 dX3_placeOf_8 (by decide) (fun c1 => ?_) (fun c1 => ?_)
    · exact absurd c1 (nI_pos (by omega))
    · refine z_iconst C (1) dX3_placeOf_11 (by decide) ?_
      refine z_goto C 16 dX3_placeOf_12 (by decide) ?_
      refine z_iconst C (1) dX3_placeOf_16 (by decide) ?_
      refine z_iconst C (1) dX3_placeOf_17 (by decide) ?_
      refine z_callV C zm_X3_goes zl_X3_91 (m_goes (a := true) (b := true) (v := true) hl hH) dX3_placeOf_18 (by first | assumption | exact zk_eq | exact zk_ne (by first | assumption | exact zk_eq | exact zk_ne (by first | assumption | exact zk_eq | exact zk_ne (by first | assumption | exact zk_eq | exact zk_ne (by first | assumption | exact zk_eq | exact zk_ne (by first | assumption | exact zk_eq) (by first | decide | omega)) (by first | decide | omega)) (by first | decide | omega)) (by first | decide | omega)) (by first | decide | omega)) (by rfl) (by rfl) (by rfl) (by exact Nat.le_of_ble_eq_true rfl) rfl (by exact ⟨Nat.le_of_ble_eq_true rfl, Nat.le_of_ble_eq_true rfl⟩) (by first | exact ⟨Nat.le_of_ble_eq_true rfl, Nat.le_of_ble_eq_true rfl⟩ | (simp only [zrm]; omega)) (fun _ _ h => z_xno h) (fun r w2 hq => ?_)
      obtain ⟨rfl, g2, g3⟩ := hq
      have hX := g2
      obtain ⟨m20, m21, m22, m23, m24, m25, m26, m27, m28, m29, m30, m31, m32, m33, m34, m35, m36, m37, m38⟩ := g2.all
      refine z_if_eq C 33 dX3_placeOf_21 (by decide) (fun c2 => ?_) (fun c2 => ?_)
      · exact absurd c2 (by decide)
      · refine z_aload_n C dX3_placeOf_24 rfl ?_
        refine z_getf C zf_X3_32 dX3_placeOf_25 (by first | assumption | exact zk_eq | exact zk_ne (by first | assumption | exact zk_eq | exact zk_ne (by first | assumption | exact zk_eq | exact zk_ne (by first | assumption | exact zk_eq | exact zk_ne (by first | assumption | exact zk_eq | exact zk_ne (by first | assumption | exact zk_eq) (by first | decide | omega)) (by first | decide | omega)) (by first | decide | omega)) (by first | decide | omega)) (by first | decide | omega)) (by rfl) ?_
        refine z_iload_n C dX3_placeOf_28 rfl ?_
        refine z_iald C dX3_placeOf_29 (by first | assumption | exact zk_eq | exact zk_ne (by first | assumption | exact zk_eq | exact zk_ne (by first | assumption | exact zk_eq | exact zk_ne (by first | assumption | exact zk_eq | exact zk_ne (by first | assumption | exact zk_eq | exact zk_ne (by first | assumption | exact zk_eq) (by first | decide | omega)) (by first | decide | omega)) (by first | decide | omega)) (by first | decide | omega)) (by first | decide | omega)) (by first | rfl | assumption) (by first | assumption | omega | decide) (by first | decide | omega) ?_
        refine z_goto C 34 dX3_placeOf_30 (by decide) ?_
        refine z_iret C hret dX3_placeOf_34 (by first | exact Nat.le_of_ble_eq_true rfl | omega) (by first | exact Nat.le_of_ble_eq_true rfl | omega) ?_
        exact ZQ.fin (M1 := (g, va_up f 25 0)) (by simp only [mGet, hk]; rw [hA 7 (by decide)]) ⟨bd, g1, rfl, hX, hA⟩ g3
theorem q_rankOf (hl : l.stackTraces = false) (h : MM z b0 w M) (x : Int32) : ZQ l z mX3_rankOf b0 [.int x] w (mGet M x (fun k => nI (mRnk M.1 k 30))) := by
  obtain ⟨g, f⟩ := M
  obtain ⟨bd, g1, rfl, h, hA⟩ := h
  dsimp only at h hA
  have hH := h
  obtain ⟨m20, m21, m22, m23, m24, m25, m26, m27, m28, m29, m30, m31, m32, m33, m34, m35, m36, m37, m38⟩ := h.all
  refine zbody (M := mX3_rankOf) (L0 := [_, _, _]) hl (by simp [Value.category]) (Nat.le_of_ble_eq_true rfl) (by decide +kernel) rfl ?_
  intro p e s m args below meth c C hX hnm hret
  replace C : zC z p l s m args meth c cX3_rankOf RX3 3 := C
  replace hret : meth.sig.returnType = (some .int) := hret
  refine z_aload_n C dX3_rankOf_0 rfl ?_
  refine z_iload_n C dX3_rankOf_1 rfl ?_
  refine z_callV C zm_X3_kept zl_X3_102 (m_kept hl hH x) dX3_rankOf_2 (by first | assumption | exact zk_eq | exact zk_ne (by first | assumption | exact zk_eq | exact zk_ne (by first | assumption | exact zk_eq | exact zk_ne (by first | assumption | exact zk_eq | exact zk_ne (by first | assumption | exact zk_eq | exact zk_ne (by first | assumption | exact zk_eq) (by first | decide | omega)) (by first | decide | omega)) (by first | decide | omega)) (by first | decide | omega)) (by first | decide | omega)) (by rfl) (by rfl) (by rfl) (by exact Nat.le_of_ble_eq_true rfl) rfl (by exact ⟨Nat.le_of_ble_eq_true rfl, Nat.le_of_ble_eq_true rfl⟩) (by first | exact ⟨Nat.le_of_ble_eq_true rfl, Nat.le_of_ble_eq_true rfl⟩ | (simp only [zrm]; omega)) (fun _ _ h => z_xno h) (fun r w1 hq => ?_)
  obtain ⟨rfl, rfl⟩ := hq
  rw [hA.kept x]
  cases hk : mKept g x with
  | none =>
    dsimp only
    refine z_istore_n C (L1 := [_, _, _]) dX3_rankOf_5 (Nat.le_of_ble_eq_true rfl) rfl ?_
    refine z_aload_n C dX3_rankOf_6 rfl ?_
    refine z_iload_n C dX3_rankOf_7 rfl ?_
    refine z_if_lt C 15 dX3_rankOf_8 (by decide) (fun c1 => ?_) (fun c1 => ?_)
    · refine z_iconst C (0) dX3_rankOf_15 (by decide) ?_
      refine z_iconst C (1) dX3_rankOf_16 (by decide) ?_
      refine z_iconst C (1) dX3_rankOf_17 (by decide) ?_
      refine z_callV C zm_X3_goes zl_X3_91 (m_goes (a := false) (b := true) (v := true) hl hH) dX3_rankOf_18 (by first | assumption | exact zk_eq | exact zk_ne (by first | assumption | exact zk_eq | exact zk_ne (by first | assumption | exact zk_eq | exact zk_ne (by first | assumption | exact zk_eq | exact zk_ne (by first | assumption | exact zk_eq | exact zk_ne (by first | assumption | exact zk_eq) (by first | decide | omega)) (by first | decide | omega)) (by first | decide | omega)) (by first | decide | omega)) (by first | decide | omega)) (by rfl) (by rfl) (by rfl) (by exact Nat.le_of_ble_eq_true rfl) rfl (by exact ⟨Nat.le_of_ble_eq_true rfl, Nat.le_of_ble_eq_true rfl⟩) (by first | exact ⟨Nat.le_of_ble_eq_true rfl, Nat.le_of_ble_eq_true rfl⟩ | (simp only [zrm]; omega)) (fun _ _ h => z_xno h) (fun r w2 hq => ?_)
      obtain ⟨rfl, g2, g3⟩ := hq
      refine z_if_eq C 32 dX3_rankOf_21 (by decide) (fun c2 => ?_) (fun c2 => ?_)
      · refine z_iconst C (0) dX3_rankOf_32 (by decide) ?_
        refine z_iret C hret dX3_rankOf_33 (by first | exact Nat.le_of_ble_eq_true rfl | omega) (by first | exact Nat.le_of_ble_eq_true rfl | omega) ?_
        exact ZQ.fin (M1 := (g, va_up f 25 1)) (by simp only [mGet, hk]) ⟨bd, g1, rfl, g2, hA⟩ g3
      · exact absurd (by decide) c2
    · exact absurd (by decide) c1
  | some k =>
    dsimp only
    obtain ⟨hk30, -, -⟩ := mKept_lt hk
    refine z_istore_n C (L1 := [_, _, _]) dX3_rankOf_5 (Nat.le_of_ble_eq_true rfl) rfl ?_
    refine z_aload_n C dX3_rankOf_6 rfl ?_
    refine z_iload_n C dX3_rankOf_7 rfl ?_
    refine z_if_lt C 15 dX3_rankOf_8 (by decide) (fun c1 => ?_) (fun c1 => ?_)
    · exact absurd c1 (nI_pos (by omega))
    · refine z_iconst C (1) dX3_rankOf_11 (by decide) ?_
      refine z_goto C 16 dX3_rankOf_12 (by decide) ?_
      refine z_iconst C (1) dX3_rankOf_16 (by decide) ?_
      refine z_iconst C (1) dX3_rankOf_17 (by decide) ?_
      refine z_callV C zm_X3_goes zl_X3_91 (m_goes (a := true) (b := true) (v := true) hl hH) dX3_rankOf_18 (by first | assumption | exact zk_eq | exact zk_ne (by first | assumption | exact zk_eq | exact zk_ne (by first | assumption | exact zk_eq | exact zk_ne (by first | assumption | exact zk_eq | exact zk_ne (by first | assumption | exact zk_eq | exact zk_ne (by first | assumption | exact zk_eq) (by first | decide | omega)) (by first | decide | omega)) (by first | decide | omega)) (by first | decide | omega)) (by first | decide | omega)) (by rfl) (by rfl) (by rfl) (by exact Nat.le_of_ble_eq_true rfl) rfl (by exact ⟨Nat.le_of_ble_eq_true rfl, Nat.le_of_ble_eq_true rfl⟩) (by first | exact ⟨Nat.le_of_ble_eq_true rfl, Nat.le_of_ble_eq_true rfl⟩ | (simp only [zrm]; omega)) (fun _ _ h => z_xno h) (fun r w2 hq => ?_)
      obtain ⟨rfl, g2, g3⟩ := hq
      have hX := g2
      obtain ⟨m20, m21, m22, m23, m24, m25, m26, m27, m28, m29, m30, m31, m32, m33, m34, m35, m36, m37, m38⟩ := g2.all
      refine z_if_eq C 32 dX3_rankOf_21 (by decide) (fun c2 => ?_) (fun c2 => ?_)
      · exact absurd c2 (by decide)
      · refine z_aload_n C dX3_rankOf_24 rfl ?_
        refine z_iload_n C dX3_rankOf_25 rfl ?_
        refine z_callV C zm_X3_rank zl_X3_109 (m_rank hl hX hk30) dX3_rankOf_26 (by first | assumption | exact zk_eq | exact zk_ne (by first | assumption | exact zk_eq | exact zk_ne (by first | assumption | exact zk_eq | exact zk_ne (by first | assumption | exact zk_eq | exact zk_ne (by first | assumption | exact zk_eq | exact zk_ne (by first | assumption | exact zk_eq) (by first | decide | omega)) (by first | decide | omega)) (by first | decide | omega)) (by first | decide | omega)) (by first | decide | omega)) (by rfl) (by rfl) (by rfl) (by exact Nat.le_of_ble_eq_true rfl) rfl (by exact ⟨Nat.le_of_ble_eq_true rfl, Nat.le_of_ble_eq_true rfl⟩) (by first | exact ⟨Nat.le_of_ble_eq_true rfl, Nat.le_of_ble_eq_true rfl⟩ | (simp only [zrm]; omega)) (fun _ _ h => z_xno h) (fun r w1 hq => ?_)
        obtain ⟨rfl, rfl⟩ := hq
        refine z_goto C 33 dX3_rankOf_29 (by decide) ?_
        refine z_iret C hret dX3_rankOf_33 (by first | exact Nat.le_of_ble_eq_true rfl | omega) (by first | exact Nat.le_of_ble_eq_true rfl | omega) ?_
        exact ZQ.fin (M1 := (g, va_up f 25 0)) (by simp only [mGet, hk, hA.rnk]) ⟨bd, g1, rfl, hX, hA⟩ g3
theorem q_owedTo (hl : l.stackTraces = false) (h : MM z b0 w M) (x : Int32) (hbo : ∀ k, mKept M.1 x = some k → ∃ b : Nat, b < 4 ∧ M.1 1 k = nI b) : ZQ l z mX3_owedTo b0 [.int x] w (mGet M x (mOwe M.1)) := by
  obtain ⟨g, f⟩ := M
  obtain ⟨bd, g1, rfl, h, hA⟩ := h
  dsimp only at h hA
  have hH := h
  obtain ⟨m20, m21, m22, m23, m24, m25, m26, m27, m28, m29, m30, m31, m32, m33, m34, m35, m36, m37, m38⟩ := h.all
  refine zbody (M := mX3_owedTo) (L0 := [_, _, _]) hl (by simp [Value.category]) (Nat.le_of_ble_eq_true rfl) (by decide +kernel) rfl ?_
  intro p e s m args below meth c C hX hnm hret
  replace C : zC z p l s m args meth c cX3_owedTo RX3 3 := C
  replace hret : meth.sig.returnType = (some .int) := hret
  refine z_aload_n C dX3_owedTo_0 rfl ?_
  refine z_iload_n C dX3_owedTo_1 rfl ?_
  refine z_callV C zm_X3_kept zl_X3_102 (m_kept hl hH x) dX3_owedTo_2 (by first | assumption | exact zk_eq | exact zk_ne (by first | assumption | exact zk_eq | exact zk_ne (by first | assumption | exact zk_eq | exact zk_ne (by first | assumption | exact zk_eq | exact zk_ne (by first | assumption | exact zk_eq | exact zk_ne (by first | assumption | exact zk_eq) (by first | decide | omega)) (by first | decide | omega)) (by first | decide | omega)) (by first | decide | omega)) (by first | decide | omega)) (by rfl) (by rfl) (by rfl) (by exact Nat.le_of_ble_eq_true rfl) rfl (by exact ⟨Nat.le_of_ble_eq_true rfl, Nat.le_of_ble_eq_true rfl⟩) (by first | exact ⟨Nat.le_of_ble_eq_true rfl, Nat.le_of_ble_eq_true rfl⟩ | (simp only [zrm]; omega)) (fun _ _ h => z_xno h) (fun r w1 hq => ?_)
  obtain ⟨rfl, rfl⟩ := hq
  rw [hA.kept x]
  cases hk : mKept g x with
  | none =>
    dsimp only
    refine z_istore_n C (L1 := [_, _, _]) dX3_owedTo_5 (Nat.le_of_ble_eq_true rfl) rfl ?_
    refine z_aload_n C dX3_owedTo_6 rfl ?_
    refine z_iload_n C dX3_owedTo_7 rfl ?_
    refine z_if_lt C 15 dX3_owedTo_8 (by decide) (fun c1 => ?_) (fun c1 => ?_)
    · refine z_iconst C (0) dX3_owedTo_15 (by decide) ?_
      refine z_iconst C (1) dX3_owedTo_16 (by decide) ?_
      refine z_iconst C (1) dX3_owedTo_17 (by decide) ?_
      refine z_callV C zm_X3_goes zl_X3_91 (m_goes (a := false) (b := true) (v := true) hl hH) dX3_owedTo_18 (by first | assumption | exact zk_eq | exact zk_ne (by first | assumption | exact zk_eq | exact zk_ne (by first | assumption | exact zk_eq | exact zk_ne (by first | assumption | exact zk_eq | exact zk_ne (by first | assumption | exact zk_eq | exact zk_ne (by first | assumption | exact zk_eq) (by first | decide | omega)) (by first | decide | omega)) (by first | decide | omega)) (by first | decide | omega)) (by first | decide | omega)) (by rfl) (by rfl) (by rfl) (by exact Nat.le_of_ble_eq_true rfl) rfl (by exact ⟨Nat.le_of_ble_eq_true rfl, Nat.le_of_ble_eq_true rfl⟩) (by first | exact ⟨Nat.le_of_ble_eq_true rfl, Nat.le_of_ble_eq_true rfl⟩ | (simp only [zrm]; omega)) (fun _ _ h => z_xno h) (fun r w2 hq => ?_)
      obtain ⟨rfl, g2, g3⟩ := hq
      refine z_if_eq C 32 dX3_owedTo_21 (by decide) (fun c2 => ?_) (fun c2 => ?_)
      · refine z_iconst C (0) dX3_owedTo_32 (by decide) ?_
        refine z_iret C hret dX3_owedTo_33 (by first | exact Nat.le_of_ble_eq_true rfl | omega) (by first | exact Nat.le_of_ble_eq_true rfl | omega) ?_
        exact ZQ.fin (M1 := (g, va_up f 25 1)) (by simp only [mGet, hk]) ⟨bd, g1, rfl, g2, hA⟩ g3
      · exact absurd (by decide) c2
    · exact absurd (by decide) c1
  | some k =>
    dsimp only
    obtain ⟨hk30, -, -⟩ := mKept_lt hk
    refine z_istore_n C (L1 := [_, _, _]) dX3_owedTo_5 (Nat.le_of_ble_eq_true rfl) rfl ?_
    refine z_aload_n C dX3_owedTo_6 rfl ?_
    refine z_iload_n C dX3_owedTo_7 rfl ?_
    refine z_if_lt C 15 dX3_owedTo_8 (by decide) (fun c1 => ?_) (fun c1 => ?_)
    · exact absurd c1 (nI_pos (by omega))
    · refine z_iconst C (1) dX3_owedTo_11 (by decide) ?_
      refine z_goto C 16 dX3_owedTo_12 (by decide) ?_
      refine z_iconst C (1) dX3_owedTo_16 (by decide) ?_
      refine z_iconst C (1) dX3_owedTo_17 (by decide) ?_
      obtain ⟨b, hb4, hgb0⟩ := hbo k hk
      have hgb : g1 1 k = nI b := by
        rw [hA 1 (by decide)]
        exact hgb0
      refine z_callV C zm_X3_goes zl_X3_91 (m_goes (a := true) (b := true) (v := true) hl hH) dX3_owedTo_18 (by first | assumption | exact zk_eq | exact zk_ne (by first | assumption | exact zk_eq | exact zk_ne (by first | assumption | exact zk_eq | exact zk_ne (by first | assumption | exact zk_eq | exact zk_ne (by first | assumption | exact zk_eq | exact zk_ne (by first | assumption | exact zk_eq) (by first | decide | omega)) (by first | decide | omega)) (by first | decide | omega)) (by first | decide | omega)) (by first | decide | omega)) (by rfl) (by rfl) (by rfl) (by exact Nat.le_of_ble_eq_true rfl) rfl (by exact ⟨Nat.le_of_ble_eq_true rfl, Nat.le_of_ble_eq_true rfl⟩) (by first | exact ⟨Nat.le_of_ble_eq_true rfl, Nat.le_of_ble_eq_true rfl⟩ | (simp only [zrm]; omega)) (fun _ _ h => z_xno h) (fun r w2 hq => ?_)
      obtain ⟨rfl, g2, g3⟩ := hq
      have hX := g2
      obtain ⟨m20, m21, m22, m23, m24, m25, m26, m27, m28, m29, m30, m31, m32, m33, m34, m35, m36, m37, m38⟩ := g2.all
      refine z_if_eq C 32 dX3_owedTo_21 (by decide) (fun c2 => ?_) (fun c2 => ?_)
      · exact absurd c2 (by decide)
      · refine z_aload_n C dX3_owedTo_24 rfl ?_
        refine z_iload_n C dX3_owedTo_25 rfl ?_
        refine z_callV C zm_X3_owes zl_X3_150 (m_owes hl hX hk30 hgb hb4) dX3_owedTo_26 (by first | assumption | exact zk_eq | exact zk_ne (by first | assumption | exact zk_eq | exact zk_ne (by first | assumption | exact zk_eq | exact zk_ne (by first | assumption | exact zk_eq | exact zk_ne (by first | assumption | exact zk_eq | exact zk_ne (by first | assumption | exact zk_eq) (by first | decide | omega)) (by first | decide | omega)) (by first | decide | omega)) (by first | decide | omega)) (by first | decide | omega)) (by rfl) (by rfl) (by rfl) (by exact Nat.le_of_ble_eq_true rfl) rfl (by exact ⟨Nat.le_of_ble_eq_true rfl, Nat.le_of_ble_eq_true rfl⟩) (by first | exact ⟨Nat.le_of_ble_eq_true rfl, Nat.le_of_ble_eq_true rfl⟩ | (simp only [zrm]; omega)) (fun _ _ h => z_xno h) (fun r w1 hq => ?_)
        obtain ⟨rfl, rfl⟩ := hq
        refine z_goto C 33 dX3_owedTo_29 (by decide) ?_
        refine z_iret C hret dX3_owedTo_33 (by first | exact Nat.le_of_ble_eq_true rfl | omega) (by first | exact Nat.le_of_ble_eq_true rfl | omega) ?_
        exact ZQ.fin (M1 := (g, va_up f 25 0)) (by simp only [mGet, hk, hA.owe]) ⟨bd, g1, rfl, hX, hA⟩ g3
theorem q_setAway (hl : l.stackTraces = false) (h : MM z b0 w M) (x : Int32) (v : Bool) (hb : ∀ k, mKept M.1 x = some k → narrow .boolean (.int (M.1 4 k)) = .int (M.1 4 k)) : ZQ l z mX3_setAway b0 [.int x, .int (zb v)] w (mSet M x 4 (zb v)) := by
  obtain ⟨g, f⟩ := M
  obtain ⟨bd, g1, rfl, h, hA⟩ := h
  dsimp only at h hA
  have hH := h
  obtain ⟨m20, m21, m22, m23, m24, m25, m26, m27, m28, m29, m30, m31, m32, m33, m34, m35, m36, m37, m38⟩ := h.all
  refine zbody (M := mX3_setAway) (L0 := [_, _, _, _, _]) hl (by simp [Value.category]) (Nat.le_of_ble_eq_true rfl) (by decide +kernel) rfl ?_
  intro p e s m args below meth c C hX hnm hret
  replace C : zC z p l s m args meth c cX3_setAway RX3 5 := C
  replace hret : meth.sig.returnType = (some .boolean) := hret
  refine z_aload_n C dX3_setAway_0 rfl ?_
  refine z_iload_n C dX3_setAway_1 rfl ?_
  refine z_callV C zm_X3_kept zl_X3_102 (m_kept hl hH x) dX3_setAway_2 (by first | assumption | exact zk_eq | exact zk_ne (by first | assumption | exact zk_eq | exact zk_ne (by first | assumption | exact zk_eq | exact zk_ne (by first | assumption | exact zk_eq | exact zk_ne (by first | assumption | exact zk_eq | exact zk_ne (by first | assumption | exact zk_eq) (by first | decide | omega)) (by first | decide | omega)) (by first | decide | omega)) (by first | decide | omega)) (by first | decide | omega)) (by rfl) (by rfl) (by rfl) (by exact Nat.le_of_ble_eq_true rfl) rfl (by exact ⟨Nat.le_of_ble_eq_true rfl, Nat.le_of_ble_eq_true rfl⟩) (by first | exact ⟨Nat.le_of_ble_eq_true rfl, Nat.le_of_ble_eq_true rfl⟩ | (simp only [zrm]; omega)) (fun _ _ h => z_xno h) (fun r w1 hq => ?_)
  obtain ⟨rfl, rfl⟩ := hq
  rw [hA.kept x]
  cases hk : mKept g x with
  | none =>
    dsimp only
    refine z_istore_n C (L1 := [_, _, _, _, _]) dX3_setAway_5 (Nat.le_of_ble_eq_true rfl) rfl ?_
    refine z_aload_n C dX3_setAway_6 rfl ?_
    refine z_iload_n C dX3_setAway_7 rfl ?_
    refine z_if_lt C 15 dX3_setAway_8 (by decide) (fun c1 => ?_) (fun c1 => ?_)
    · refine z_iconst C (0) dX3_setAway_15 (by decide) ?_
      refine z_iconst C (1) dX3_setAway_16 (by decide) ?_
      refine z_iconst C (1) dX3_setAway_17 (by decide) ?_
      refine z_callV C zm_X3_goes zl_X3_91 (m_goes (a := false) (b := true) (v := true) hl hH) dX3_setAway_18 (by first | assumption | exact zk_eq | exact zk_ne (by first | assumption | exact zk_eq | exact zk_ne (by first | assumption | exact zk_eq | exact zk_ne (by first | assumption | exact zk_eq | exact zk_ne (by first | assumption | exact zk_eq | exact zk_ne (by first | assumption | exact zk_eq) (by first | decide | omega)) (by first | decide | omega)) (by first | decide | omega)) (by first | decide | omega)) (by first | decide | omega)) (by rfl) (by rfl) (by rfl) (by exact Nat.le_of_ble_eq_true rfl) rfl (by exact ⟨Nat.le_of_ble_eq_true rfl, Nat.le_of_ble_eq_true rfl⟩) (by first | exact ⟨Nat.le_of_ble_eq_true rfl, Nat.le_of_ble_eq_true rfl⟩ | (simp only [zrm]; omega)) (fun _ _ h => z_xno h) (fun r w2 hq => ?_)
      obtain ⟨rfl, g2, g3⟩ := hq
      refine z_if_ne C 26 dX3_setAway_21 (by decide) (fun c2 => ?_) (fun c2 => ?_)
      · exact absurd rfl c2
      · refine z_iconst C (0) dX3_setAway_24 (by decide) ?_
        refine z_zret C hret dX3_setAway_25 (by first | rfl | exact zb_nar _ | assumption) (by first | exact Nat.le_of_ble_eq_true rfl | omega) (by first | exact Nat.le_of_ble_eq_true rfl | omega) ?_
        exact ZQ.fin (M1 := (g, va_up f 25 1)) (by simp only [mSet, hk]) ⟨bd, g1, rfl, g2, hA⟩ g3
    · exact absurd (by decide) c1
  | some k =>
    dsimp only
    obtain ⟨hk30, -, -⟩ := mKept_lt hk
    refine z_istore_n C (L1 := [_, _, _, _, _]) dX3_setAway_5 (Nat.le_of_ble_eq_true rfl) rfl ?_
    refine z_aload_n C dX3_setAway_6 rfl ?_
    refine z_iload_n C dX3_setAway_7 rfl ?_
    refine z_if_lt C 15 dX3_setAway_8 (by decide) (fun c1 => ?_) (fun c1 => ?_)
    · exact absurd c1 (nI_pos (by omega))
    · refine z_iconst C (1) dX3_setAway_11 (by decide) ?_
      refine z_goto C 16 dX3_setAway_12 (by decide) ?_
      refine z_iconst C (1) dX3_setAway_16 (by decide) ?_
      refine z_iconst C (1) dX3_setAway_17 (by decide) ?_
      have hbn : narrow .boolean (.int (g1 4 k)) = .int (g1 4 k) := by rw [hA 4 (by decide)]; exact hb k hk
      refine z_callV C zm_X3_goes zl_X3_91 (m_goes (a := true) (b := true) (v := true) hl hH) dX3_setAway_18 (by first | assumption | exact zk_eq | exact zk_ne (by first | assumption | exact zk_eq | exact zk_ne (by first | assumption | exact zk_eq | exact zk_ne (by first | assumption | exact zk_eq | exact zk_ne (by first | assumption | exact zk_eq | exact zk_ne (by first | assumption | exact zk_eq) (by first | decide | omega)) (by first | decide | omega)) (by first | decide | omega)) (by first | decide | omega)) (by first | decide | omega)) (by rfl) (by rfl) (by rfl) (by exact Nat.le_of_ble_eq_true rfl) rfl (by exact ⟨Nat.le_of_ble_eq_true rfl, Nat.le_of_ble_eq_true rfl⟩) (by first | exact ⟨Nat.le_of_ble_eq_true rfl, Nat.le_of_ble_eq_true rfl⟩ | (simp only [zrm]; omega)) (fun _ _ h => z_xno h) (fun r w2 hq => ?_)
      obtain ⟨rfl, g2, g3⟩ := hq
      have hX := g2
      obtain ⟨m20, m21, m22, m23, m24, m25, m26, m27, m28, m29, m30, m31, m32, m33, m34, m35, m36, m37, m38⟩ := g2.all
      refine z_if_ne C 26 dX3_setAway_21 (by decide) (fun c2 => ?_) (fun c2 => ?_)
      · refine z_aload_n C dX3_setAway_26 rfl ?_
        refine z_getf C zf_X3_22 dX3_setAway_27 (by first | assumption | exact zk_eq | exact zk_ne (by first | assumption | exact zk_eq | exact zk_ne (by first | assumption | exact zk_eq | exact zk_ne (by first | assumption | exact zk_eq | exact zk_ne (by first | assumption | exact zk_eq | exact zk_ne (by first | assumption | exact zk_eq) (by first | decide | omega)) (by first | decide | omega)) (by first | decide | omega)) (by first | decide | omega)) (by first | decide | omega)) (by rfl) ?_
        refine z_iload_n C dX3_setAway_30 rfl ?_
        refine z_zald C dX3_setAway_31 (by first | assumption | exact zk_eq | exact zk_ne (by first | assumption | exact zk_eq | exact zk_ne (by first | assumption | exact zk_eq | exact zk_ne (by first | assumption | exact zk_eq | exact zk_ne (by first | assumption | exact zk_eq | exact zk_ne (by first | assumption | exact zk_eq) (by first | decide | omega)) (by first | decide | omega)) (by first | decide | omega)) (by first | decide | omega)) (by first | decide | omega)) (by first | rfl | assumption) (by first | assumption | omega | decide) (by first | decide | omega) ?_
        refine z_istore C (L1 := [_, _, _, _, _]) dX3_setAway_32 (Nat.le_of_ble_eq_true rfl) rfl ?_
        refine z_aload_n C dX3_setAway_34 rfl ?_
        refine z_getf C zf_X3_22 dX3_setAway_35 (by first | assumption | exact zk_eq | exact zk_ne (by first | assumption | exact zk_eq | exact zk_ne (by first | assumption | exact zk_eq | exact zk_ne (by first | assumption | exact zk_eq | exact zk_ne (by first | assumption | exact zk_eq | exact zk_ne (by first | assumption | exact zk_eq) (by first | decide | omega)) (by first | decide | omega)) (by first | decide | omega)) (by first | decide | omega)) (by first | decide | omega)) (by rfl) ?_
        refine z_iload_n C dX3_setAway_38 rfl ?_
        refine z_iload_n C dX3_setAway_39 rfl ?_
        refine z_zast C dX3_setAway_40 (by first | assumption | exact zk_eq | exact zk_ne (by first | assumption | exact zk_eq | exact zk_ne (by first | assumption | exact zk_eq | exact zk_ne (by first | assumption | exact zk_eq | exact zk_ne (by first | assumption | exact zk_eq | exact zk_ne (by first | assumption | exact zk_eq) (by first | decide | omega)) (by first | decide | omega)) (by first | decide | omega)) (by first | decide | omega)) (by first | decide | omega)) (by first | rfl | assumption) (by first | assumption | omega | decide) (by first | decide | omega) (by first | rfl | exact zb_vp _ | assumption) ?_
        refine z_iload C dX3_setAway_41 rfl ?_
        refine z_zret C hret dX3_setAway_43 (by first | rfl | exact zb_nar _ | assumption) (by first | exact Nat.le_of_ble_eq_true rfl | omega) (by first | exact Nat.le_of_ble_eq_true rfl | omega) ?_
        exact ZQ.fin (M1 := (va_up g 4 (va_up (g 4) k (zb v)), va_up f 25 0)) (by simp only [mSet, hk]; rw [hA 4 (by decide)]) ⟨bd, _, rfl, hX.arr 4 (va_up (g1 4) k (zb v)), hA.up (by rw [hA 4 (by decide)])⟩ (g3.up (by decide) (by decide))
      · exact absurd c2 (by decide)
theorem q_setRefusing (hl : l.stackTraces = false) (h : MM z b0 w M) (x : Int32) (v : Bool) (hb : ∀ k, mKept M.1 x = some k → narrow .boolean (.int (M.1 5 k)) = .int (M.1 5 k)) : ZQ l z mX3_setRefusing b0 [.int x, .int (zb v)] w (mSet M x 5 (zb v)) := by
  obtain ⟨g, f⟩ := M
  obtain ⟨bd, g1, rfl, h, hA⟩ := h
  dsimp only at h hA
  have hH := h
  obtain ⟨m20, m21, m22, m23, m24, m25, m26, m27, m28, m29, m30, m31, m32, m33, m34, m35, m36, m37, m38⟩ := h.all
  refine zbody (M := mX3_setRefusing) (L0 := [_, _, _, _, _]) hl (by simp [Value.category]) (Nat.le_of_ble_eq_true rfl) (by decide +kernel) rfl ?_
  intro p e s m args below meth c C hX hnm hret
  replace C : zC z p l s m args meth c cX3_setRefusing RX3 5 := C
  replace hret : meth.sig.returnType = (some .boolean) := hret
  refine z_aload_n C dX3_setRefusing_0 rfl ?_
  refine z_iload_n C dX3_setRefusing_1 rfl ?_
  refine z_callV C zm_X3_kept zl_X3_102 (m_kept hl hH x) dX3_setRefusing_2 (by first | assumption | exact zk_eq | exact zk_ne (by first | assumption | exact zk_eq | exact zk_ne (by first | assumption | exact zk_eq | exact zk_ne (by first | assumption | exact zk_eq | exact zk_ne (by first | assumption | exact zk_eq | exact zk_ne (by first | assumption | exact zk_eq) (by first | decide | omega)) (by first | decide | omega)) (by first | decide | omega)) (by first | decide | omega)) (by first | decide | omega)) (by rfl) (by rfl) (by rfl) (by exact Nat.le_of_ble_eq_true rfl) rfl (by exact ⟨Nat.le_of_ble_eq_true rfl, Nat.le_of_ble_eq_true rfl⟩) (by first | exact ⟨Nat.le_of_ble_eq_true rfl, Nat.le_of_ble_eq_true rfl⟩ | (simp only [zrm]; omega)) (fun _ _ h => z_xno h) (fun r w1 hq => ?_)
  obtain ⟨rfl, rfl⟩ := hq
  rw [hA.kept x]
  cases hk : mKept g x with
  | none =>
    dsimp only
    refine z_istore_n C (L1 := [_, _, _, _, _]) dX3_setRefusing_5 (Nat.le_of_ble_eq_true rfl) rfl ?_
    refine z_aload_n C dX3_setRefusing_6 rfl ?_
    refine z_iload_n C dX3_setRefusing_7 rfl ?_
    refine z_if_lt C 15 dX3_setRefusing_8 (by decide) (fun c1 => ?_) (fun c1 => ?_)
    · refine z_iconst C (0) dX3_setRefusing_15 (by decide) ?_
      refine z_iconst C (1) dX3_setRefusing_16 (by decide) ?_
      refine z_iconst C (1) dX3_setRefusing_17 (by decide) ?_
      refine z_callV C zm_X3_goes zl_X3_91 (m_goes (a := false) (b := true) (v := true) hl hH) dX3_setRefusing_18 (by first | assumption | exact zk_eq | exact zk_ne (by first | assumption | exact zk_eq | exact zk_ne (by first | assumption | exact zk_eq | exact zk_ne (by first | assumption | exact zk_eq | exact zk_ne (by first | assumption | exact zk_eq | exact zk_ne (by first | assumption | exact zk_eq) (by first | decide | omega)) (by first | decide | omega)) (by first | decide | omega)) (by first | decide | omega)) (by first | decide | omega)) (by rfl) (by rfl) (by rfl) (by exact Nat.le_of_ble_eq_true rfl) rfl (by exact ⟨Nat.le_of_ble_eq_true rfl, Nat.le_of_ble_eq_true rfl⟩) (by first | exact ⟨Nat.le_of_ble_eq_true rfl, Nat.le_of_ble_eq_true rfl⟩ | (simp only [zrm]; omega)) (fun _ _ h => z_xno h) (fun r w2 hq => ?_)
      obtain ⟨rfl, g2, g3⟩ := hq
      refine z_if_ne C 26 dX3_setRefusing_21 (by decide) (fun c2 => ?_) (fun c2 => ?_)
      · exact absurd rfl c2
      · refine z_iconst C (0) dX3_setRefusing_24 (by decide) ?_
        refine z_zret C hret dX3_setRefusing_25 (by first | rfl | exact zb_nar _ | assumption) (by first | exact Nat.le_of_ble_eq_true rfl | omega) (by first | exact Nat.le_of_ble_eq_true rfl | omega) ?_
        exact ZQ.fin (M1 := (g, va_up f 25 1)) (by simp only [mSet, hk]) ⟨bd, g1, rfl, g2, hA⟩ g3
    · exact absurd (by decide) c1
  | some k =>
    dsimp only
    obtain ⟨hk30, -, -⟩ := mKept_lt hk
    refine z_istore_n C (L1 := [_, _, _, _, _]) dX3_setRefusing_5 (Nat.le_of_ble_eq_true rfl) rfl ?_
    refine z_aload_n C dX3_setRefusing_6 rfl ?_
    refine z_iload_n C dX3_setRefusing_7 rfl ?_
    refine z_if_lt C 15 dX3_setRefusing_8 (by decide) (fun c1 => ?_) (fun c1 => ?_)
    · exact absurd c1 (nI_pos (by omega))
    · refine z_iconst C (1) dX3_setRefusing_11 (by decide) ?_
      refine z_goto C 16 dX3_setRefusing_12 (by decide) ?_
      refine z_iconst C (1) dX3_setRefusing_16 (by decide) ?_
      refine z_iconst C (1) dX3_setRefusing_17 (by decide) ?_
      have hbn : narrow .boolean (.int (g1 5 k)) = .int (g1 5 k) := by rw [hA 5 (by decide)]; exact hb k hk
      refine z_callV C zm_X3_goes zl_X3_91 (m_goes (a := true) (b := true) (v := true) hl hH) dX3_setRefusing_18 (by first | assumption | exact zk_eq | exact zk_ne (by first | assumption | exact zk_eq | exact zk_ne (by first | assumption | exact zk_eq | exact zk_ne (by first | assumption | exact zk_eq | exact zk_ne (by first | assumption | exact zk_eq | exact zk_ne (by first | assumption | exact zk_eq) (by first | decide | omega)) (by first | decide | omega)) (by first | decide | omega)) (by first | decide | omega)) (by first | decide | omega)) (by rfl) (by rfl) (by rfl) (by exact Nat.le_of_ble_eq_true rfl) rfl (by exact ⟨Nat.le_of_ble_eq_true rfl, Nat.le_of_ble_eq_true rfl⟩) (by first | exact ⟨Nat.le_of_ble_eq_true rfl, Nat.le_of_ble_eq_true rfl⟩ | (simp only [zrm]; omega)) (fun _ _ h => z_xno h) (fun r w2 hq => ?_)
      obtain ⟨rfl, g2, g3⟩ := hq
      have hX := g2
      obtain ⟨m20, m21, m22, m23, m24, m25, m26, m27, m28, m29, m30, m31, m32, m33, m34, m35, m36, m37, m38⟩ := g2.all
      refine z_if_ne C 26 dX3_setRefusing_21 (by decide) (fun c2 => ?_) (fun c2 => ?_)
      · refine z_aload_n C dX3_setRefusing_26 rfl ?_
        refine z_getf C zf_X3_26 dX3_setRefusing_27 (by first | assumption | exact zk_eq | exact zk_ne (by first | assumption | exact zk_eq | exact zk_ne (by first | assumption | exact zk_eq | exact zk_ne (by first | assumption | exact zk_eq | exact zk_ne (by first | assumption | exact zk_eq | exact zk_ne (by first | assumption | exact zk_eq) (by first | decide | omega)) (by first | decide | omega)) (by first | decide | omega)) (by first | decide | omega)) (by first | decide | omega)) (by rfl) ?_
        refine z_iload_n C dX3_setRefusing_30 rfl ?_
        refine z_zald C dX3_setRefusing_31 (by first | assumption | exact zk_eq | exact zk_ne (by first | assumption | exact zk_eq | exact zk_ne (by first | assumption | exact zk_eq | exact zk_ne (by first | assumption | exact zk_eq | exact zk_ne (by first | assumption | exact zk_eq | exact zk_ne (by first | assumption | exact zk_eq) (by first | decide | omega)) (by first | decide | omega)) (by first | decide | omega)) (by first | decide | omega)) (by first | decide | omega)) (by first | rfl | assumption) (by first | assumption | omega | decide) (by first | decide | omega) ?_
        refine z_istore C (L1 := [_, _, _, _, _]) dX3_setRefusing_32 (Nat.le_of_ble_eq_true rfl) rfl ?_
        refine z_aload_n C dX3_setRefusing_34 rfl ?_
        refine z_getf C zf_X3_26 dX3_setRefusing_35 (by first | assumption | exact zk_eq | exact zk_ne (by first | assumption | exact zk_eq | exact zk_ne (by first | assumption | exact zk_eq | exact zk_ne (by first | assumption | exact zk_eq | exact zk_ne (by first | assumption | exact zk_eq | exact zk_ne (by first | assumption | exact zk_eq) (by first | decide | omega)) (by first | decide | omega)) (by first | decide | omega)) (by first | decide | omega)) (by first | decide | omega)) (by rfl) ?_
        refine z_iload_n C dX3_setRefusing_38 rfl ?_
        refine z_iload_n C dX3_setRefusing_39 rfl ?_
        refine z_zast C dX3_setRefusing_40 (by first | assumption | exact zk_eq | exact zk_ne (by first | assumption | exact zk_eq | exact zk_ne (by first | assumption | exact zk_eq | exact zk_ne (by first | assumption | exact zk_eq | exact zk_ne (by first | assumption | exact zk_eq | exact zk_ne (by first | assumption | exact zk_eq) (by first | decide | omega)) (by first | decide | omega)) (by first | decide | omega)) (by first | decide | omega)) (by first | decide | omega)) (by first | rfl | assumption) (by first | assumption | omega | decide) (by first | decide | omega) (by first | rfl | exact zb_vp _ | assumption) ?_
        refine z_iload C dX3_setRefusing_41 rfl ?_
        refine z_zret C hret dX3_setRefusing_43 (by first | rfl | exact zb_nar _ | assumption) (by first | exact Nat.le_of_ble_eq_true rfl | omega) (by first | exact Nat.le_of_ble_eq_true rfl | omega) ?_
        exact ZQ.fin (M1 := (va_up g 5 (va_up (g 5) k (zb v)), va_up f 25 0)) (by simp only [mSet, hk]; rw [hA 5 (by decide)]) ⟨bd, _, rfl, hX.arr 5 (va_up (g1 5) k (zb v)), hA.up (by rw [hA 5 (by decide)])⟩ (g3.up (by decide) (by decide))
      · exact absurd c2 (by decide)
theorem q_signOff (hl : l.stackTraces = false) (h : MM z b0 w M) (x : Int32) : ZQ l z mX3_signOff b0 [.int x] w (mSignOff M x) := by
  obtain ⟨g, f⟩ := M
  obtain ⟨bd, g1, rfl, h, hA⟩ := h
  dsimp only at h hA
  have hH := h
  obtain ⟨m20, m21, m22, m23, m24, m25, m26, m27, m28, m29, m30, m31, m32, m33, m34, m35, m36, m37, m38⟩ := h.all
  refine zbody (M := mX3_signOff) (L0 := [_, _, _]) hl (by simp [Value.category]) (Nat.le_of_ble_eq_true rfl) (by decide +kernel) rfl ?_
  intro p e s m args below meth c C hX hnm hret
  replace C : zC z p l s m args meth c cX3_signOff RX3 3 := C
  replace hret : meth.sig.returnType = (some .int) := hret
  refine z_aload_n C dX3_signOff_0 rfl ?_
  refine z_iload_n C dX3_signOff_1 rfl ?_
  refine z_callV C zm_X3_kept zl_X3_102 (m_kept hl hH x) dX3_signOff_2 (by first | assumption | exact zk_eq | exact zk_ne (by first | assumption | exact zk_eq | exact zk_ne (by first | assumption | exact zk_eq | exact zk_ne (by first | assumption | exact zk_eq | exact zk_ne (by first | assumption | exact zk_eq | exact zk_ne (by first | assumption | exact zk_eq) (by first | decide | omega)) (by first | decide | omega)) (by first | decide | omega)) (by first | decide | omega)) (by first | decide | omega)) (by rfl) (by rfl) (by rfl) (by exact Nat.le_of_ble_eq_true rfl) rfl (by exact ⟨Nat.le_of_ble_eq_true rfl, Nat.le_of_ble_eq_true rfl⟩) (by first | exact ⟨Nat.le_of_ble_eq_true rfl, Nat.le_of_ble_eq_true rfl⟩ | (simp only [zrm]; omega)) (fun _ _ h => z_xno h) (fun r w1 hq => ?_)
  obtain ⟨rfl, rfl⟩ := hq
  rw [hA.kept x]
  cases hk : mKept g x with
  | none =>
    dsimp only
    refine z_istore_n C (L1 := [_, _, _]) dX3_signOff_5 (Nat.le_of_ble_eq_true rfl) rfl ?_
    refine z_aload_n C dX3_signOff_6 rfl ?_
    refine z_iload_n C dX3_signOff_7 rfl ?_
    refine z_if_lt C 15 dX3_signOff_8 (by decide) (fun c1 => ?_) (fun c1 => ?_)
    · refine z_iconst C (0) dX3_signOff_15 (by decide) ?_
      refine z_iload_n C dX3_signOff_16 rfl ?_
      refine z_if_lt C 34 dX3_signOff_17 (by decide) (fun c3 => ?_) (fun c3 => ?_)
      · refine z_iconst C (0) dX3_signOff_34 (by decide) ?_
        refine z_iconst C (1) dX3_signOff_35 (by decide) ?_
        refine z_callV C zm_X3_goes zl_X3_91 (m_goes (a := false) (b := false) (v := true) hl hH) dX3_signOff_36 (by first | assumption | exact zk_eq | exact zk_ne (by first | assumption | exact zk_eq | exact zk_ne (by first | assumption | exact zk_eq | exact zk_ne (by first | assumption | exact zk_eq | exact zk_ne (by first | assumption | exact zk_eq | exact zk_ne (by first | assumption | exact zk_eq) (by first | decide | omega)) (by first | decide | omega)) (by first | decide | omega)) (by first | decide | omega)) (by first | decide | omega)) (by rfl) (by rfl) (by rfl) (by exact Nat.le_of_ble_eq_true rfl) rfl (by exact ⟨Nat.le_of_ble_eq_true rfl, Nat.le_of_ble_eq_true rfl⟩) (by first | exact ⟨Nat.le_of_ble_eq_true rfl, Nat.le_of_ble_eq_true rfl⟩ | (simp only [zrm]; omega)) (fun _ _ h => z_xno h) (fun r w2 hq => ?_)
        obtain ⟨rfl, g2, g3⟩ := hq
        refine z_if_ne C 44 dX3_signOff_39 (by decide) (fun c2 => ?_) (fun c2 => ?_)
        · exact absurd rfl c2
        · refine z_iconst C (0) dX3_signOff_42 (by decide) ?_
          refine z_iret C hret dX3_signOff_43 (by first | exact Nat.le_of_ble_eq_true rfl | omega) (by first | exact Nat.le_of_ble_eq_true rfl | omega) ?_
          exact ZQ.fin (M1 := (g, va_up f 25 1)) (by simp only [mSignOff, hk]) ⟨bd, g1, rfl, g2, hA⟩ g3
      · exact absurd (by decide) c3
    · exact absurd (by decide) c1
  | some k =>
    dsimp only
    obtain ⟨hk30, -, -⟩ := mKept_lt hk
    refine z_istore_n C (L1 := [_, _, _]) dX3_signOff_5 (Nat.le_of_ble_eq_true rfl) rfl ?_
    refine z_aload_n C dX3_signOff_6 rfl ?_
    refine z_iload_n C dX3_signOff_7 rfl ?_
    refine z_if_lt C 15 dX3_signOff_8 (by decide) (fun c1 => ?_) (fun c1 => ?_)
    · exact absurd c1 (nI_pos (by omega))
    · refine z_iconst C (1) dX3_signOff_11 (by decide) ?_
      refine z_goto C 16 dX3_signOff_12 (by decide) ?_
      refine z_iload_n C dX3_signOff_16 rfl ?_
      refine z_if_lt C 34 dX3_signOff_17 (by decide) (fun c3 => ?_) (fun c3 => ?_)
      · exact absurd c3 (nI_pos (by omega))
      · have e7 := hA 7 (by decide)
        refine z_aload_n C dX3_signOff_20 rfl ?_
        refine z_getf C zf_X3_32 dX3_signOff_21 (by first | assumption | exact zk_eq | exact zk_ne (by first | assumption | exact zk_eq | exact zk_ne (by first | assumption | exact zk_eq | exact zk_ne (by first | assumption | exact zk_eq | exact zk_ne (by first | assumption | exact zk_eq | exact zk_ne (by first | assumption | exact zk_eq) (by first | decide | omega)) (by first | decide | omega)) (by first | decide | omega)) (by first | decide | omega)) (by first | decide | omega)) (by rfl) ?_
        refine z_iload_n C dX3_signOff_24 rfl ?_
        refine z_iald C dX3_signOff_25 (by first | assumption | exact zk_eq | exact zk_ne (by first | assumption | exact zk_eq | exact zk_ne (by first | assumption | exact zk_eq | exact zk_ne (by first | assumption | exact zk_eq | exact zk_ne (by first | assumption | exact zk_eq | exact zk_ne (by first | assumption | exact zk_eq) (by first | decide | omega)) (by first | decide | omega)) (by first | decide | omega)) (by first | decide | omega)) (by first | decide | omega)) (by first | rfl | assumption) (by first | assumption | omega | decide) (by first | decide | omega) ?_
        refine z_iconst C (-1) dX3_signOff_26 (by decide) ?_
        rw [e7]
        refine z_icmp_ne C 34 dX3_signOff_27 (by decide) (fun c4 => ?_) (fun c4 => ?_)
        · refine z_iconst C (0) dX3_signOff_34 (by decide) ?_
          refine z_iconst C (1) dX3_signOff_35 (by decide) ?_
          refine z_callV C zm_X3_goes zl_X3_91 (m_goes (a := true) (b := false) (v := true) hl hH) dX3_signOff_36 (by first | assumption | exact zk_eq | exact zk_ne (by first | assumption | exact zk_eq | exact zk_ne (by first | assumption | exact zk_eq | exact zk_ne (by first | assumption | exact zk_eq | exact zk_ne (by first | assumption | exact zk_eq | exact zk_ne (by first | assumption | exact zk_eq) (by first | decide | omega)) (by first | decide | omega)) (by first | decide | omega)) (by first | decide | omega)) (by first | decide | omega)) (by rfl) (by rfl) (by rfl) (by exact Nat.le_of_ble_eq_true rfl) rfl (by exact ⟨Nat.le_of_ble_eq_true rfl, Nat.le_of_ble_eq_true rfl⟩) (by first | exact ⟨Nat.le_of_ble_eq_true rfl, Nat.le_of_ble_eq_true rfl⟩ | (simp only [zrm]; omega)) (fun _ _ h => z_xno h) (fun r w2 hq => ?_)
          obtain ⟨rfl, g2, g3⟩ := hq
          refine z_if_ne C 44 dX3_signOff_39 (by decide) (fun c2 => ?_) (fun c2 => ?_)
          · exact absurd rfl c2
          · refine z_iconst C (0) dX3_signOff_42 (by decide) ?_
            refine z_iret C hret dX3_signOff_43 (by first | exact Nat.le_of_ble_eq_true rfl | omega) (by first | exact Nat.le_of_ble_eq_true rfl | omega) ?_
            exact ZQ.fin (M1 := (g, va_up f 25 2)) (by simp only [mSignOff, hk, if_neg c4]) ⟨bd, g1, rfl, g2, hA⟩ g3
        · refine z_iconst C (1) dX3_signOff_30 (by decide) ?_
          refine z_goto C 35 dX3_signOff_31 (by decide) ?_
          refine z_iconst C (1) dX3_signOff_35 (by decide) ?_
          refine z_callV C zm_X3_goes zl_X3_91 (m_goes (a := true) (b := true) (v := true) hl hH) dX3_signOff_36 (by first | assumption | exact zk_eq | exact zk_ne (by first | assumption | exact zk_eq | exact zk_ne (by first | assumption | exact zk_eq | exact zk_ne (by first | assumption | exact zk_eq | exact zk_ne (by first | assumption | exact zk_eq | exact zk_ne (by first | assumption | exact zk_eq) (by first | decide | omega)) (by first | decide | omega)) (by first | decide | omega)) (by first | decide | omega)) (by first | decide | omega)) (by rfl) (by rfl) (by rfl) (by exact Nat.le_of_ble_eq_true rfl) rfl (by exact ⟨Nat.le_of_ble_eq_true rfl, Nat.le_of_ble_eq_true rfl⟩) (by first | exact ⟨Nat.le_of_ble_eq_true rfl, Nat.le_of_ble_eq_true rfl⟩ | (simp only [zrm]; omega)) (fun _ _ h => z_xno h) (fun r w2 hq => ?_)
          obtain ⟨rfl, g2, g3⟩ := hq
          have hX := g2
          obtain ⟨m20, m21, m22, m23, m24, m25, m26, m27, m28, m29, m30, m31, m32, m33, m34, m35, m36, m37, m38⟩ := g2.all
          refine z_if_ne C 44 dX3_signOff_39 (by decide) (fun c2 => ?_) (fun c2 => ?_)
          · refine z_aload_n C dX3_signOff_44 rfl ?_
            refine z_getf C zf_X3_7 dX3_signOff_45 (by first | assumption | exact zk_eq | exact zk_ne (by first | assumption | exact zk_eq | exact zk_ne (by first | assumption | exact zk_eq | exact zk_ne (by first | assumption | exact zk_eq | exact zk_ne (by first | assumption | exact zk_eq | exact zk_ne (by first | assumption | exact zk_eq) (by first | decide | omega)) (by first | decide | omega)) (by first | decide | omega)) (by first | decide | omega)) (by first | decide | omega)) (by rfl) ?_
            refine z_iload_n C dX3_signOff_48 rfl ?_
            refine z_iconst C (-1) dX3_signOff_49 (by decide) ?_
            refine z_iast C dX3_signOff_50 (by first | assumption | exact zk_eq | exact zk_ne (by first | assumption | exact zk_eq | exact zk_ne (by first | assumption | exact zk_eq | exact zk_ne (by first | assumption | exact zk_eq | exact zk_ne (by first | assumption | exact zk_eq | exact zk_ne (by first | assumption | exact zk_eq) (by first | decide | omega)) (by first | decide | omega)) (by first | decide | omega)) (by first | decide | omega)) (by first | decide | omega)) (by first | rfl | assumption) (by first | assumption | omega | decide) (by first | decide | omega) ?_
            refine z_aload_n C dX3_signOff_51 rfl ?_
            refine z_getf C zf_X3_38 dX3_signOff_52 (by first | assumption | exact zk_eq | exact zk_ne (by first | assumption | exact zk_eq | exact zk_ne (by first | assumption | exact zk_eq | exact zk_ne (by first | assumption | exact zk_eq | exact zk_ne (by first | assumption | exact zk_eq | exact zk_ne (by first | assumption | exact zk_eq) (by first | decide | omega)) (by first | decide | omega)) (by first | decide | omega)) (by first | decide | omega)) (by first | decide | omega)) (by rfl) ?_
            refine z_iload_n C dX3_signOff_55 rfl ?_
            refine z_iald C dX3_signOff_56 (by first | assumption | exact zk_eq | exact zk_ne (by first | assumption | exact zk_eq | exact zk_ne (by first | assumption | exact zk_eq | exact zk_ne (by first | assumption | exact zk_eq | exact zk_ne (by first | assumption | exact zk_eq | exact zk_ne (by first | assumption | exact zk_eq) (by first | decide | omega)) (by first | decide | omega)) (by first | decide | omega)) (by first | decide | omega)) (by first | decide | omega)) (by first | rfl | assumption) (by first | assumption | omega | decide) (by first | decide | omega) ?_
            refine z_iret C hret dX3_signOff_57 (by first | exact Nat.le_of_ble_eq_true rfl | omega) (by first | exact Nat.le_of_ble_eq_true rfl | omega) ?_
            exact ZQ.fin (M1 := (va_up g 0 (va_up (g 0) k (-1)), va_up f 25 0)) (by simp only [mSignOff, hk, if_pos c4]; rw [hA 9 (by decide)]) ⟨bd, _, rfl, hX.arr 0 (va_up (g1 0) k (-1)), hA.up (by rw [hA 0 (by decide)])⟩ (g3.up (by decide) (by decide))
          · exact absurd c2 (by decide)
theorem q_setSkills (hl : l.stackTraces = false) (h : MM z b0 w M) (x y : Int32) : ZQ l z mX3_setSkills b0 [.int x, .int y] w (mSetSkills M x y) := by
  obtain ⟨g, f⟩ := M
  obtain ⟨bd, g1, rfl, h, hA⟩ := h
  dsimp only at h hA
  have hH := h
  obtain ⟨m20, m21, m22, m23, m24, m25, m26, m27, m28, m29, m30, m31, m32, m33, m34, m35, m36, m37, m38⟩ := h.all
  refine zbody (M := mX3_setSkills) (L0 := [_, _, _, _, _]) hl (by simp [Value.category]) (Nat.le_of_ble_eq_true rfl) (by decide +kernel) rfl ?_
  intro p e s m args below meth c C hX hnm hret
  replace C : zC z p l s m args meth c cX3_setSkills RX3 5 := C
  replace hret : meth.sig.returnType = (some .int) := hret
  refine z_aload_n C dX3_setSkills_0 rfl ?_
  refine z_iload_n C dX3_setSkills_1 rfl ?_
  refine z_callV C zm_X3_kept zl_X3_102 (m_kept hl hH x) dX3_setSkills_2 (by first | assumption | exact zk_eq | exact zk_ne (by first | assumption | exact zk_eq | exact zk_ne (by first | assumption | exact zk_eq | exact zk_ne (by first | assumption | exact zk_eq | exact zk_ne (by first | assumption | exact zk_eq | exact zk_ne (by first | assumption | exact zk_eq) (by first | decide | omega)) (by first | decide | omega)) (by first | decide | omega)) (by first | decide | omega)) (by first | decide | omega)) (by rfl) (by rfl) (by rfl) (by exact Nat.le_of_ble_eq_true rfl) rfl (by exact ⟨Nat.le_of_ble_eq_true rfl, Nat.le_of_ble_eq_true rfl⟩) (by first | exact ⟨Nat.le_of_ble_eq_true rfl, Nat.le_of_ble_eq_true rfl⟩ | (simp only [zrm]; omega)) (fun _ _ h => z_xno h) (fun r w1 hq => ?_)
  obtain ⟨rfl, rfl⟩ := hq
  rw [hA.kept x]
  cases hk : mKept g x with
  | none =>
    dsimp only
    refine z_istore_n C (L1 := [_, _, _, _, _]) dX3_setSkills_5 (Nat.le_of_ble_eq_true rfl) rfl ?_
    refine z_aload_n C dX3_setSkills_6 rfl ?_
    refine z_iload_n C dX3_setSkills_7 rfl ?_
    refine z_if_lt C 15 dX3_setSkills_8 (by decide) (fun c1 => ?_) (fun c1 => ?_)
    · refine z_iconst C (0) dX3_setSkills_15 (by decide) ?_
      refine z_iload_n C dX3_setSkills_16 rfl ?_
      refine z_iconst C (0) dX3_setSkills_17 (by decide) ?_
      refine z_bipush C (31) dX3_setSkills_18 (by decide) ?_
      refine z_callS C zm_X3_in zl_X3_72 (m_in hl y 0 31) dX3_setSkills_20 (by rfl) (by rfl) (by exact Nat.le_of_ble_eq_true rfl) rfl (by exact ⟨Nat.le_of_ble_eq_true rfl, Nat.le_of_ble_eq_true rfl⟩) (by first | exact ⟨Nat.le_of_ble_eq_true rfl, Nat.le_of_ble_eq_true rfl⟩ | (simp only [zrm]; omega)) (fun _ _ h => z_xno h) (fun r w1 hq => ?_)
      obtain ⟨rfl, rfl⟩ := hq
      refine z_iload_n C dX3_setSkills_23 rfl ?_
      refine z_if_lt C 41 dX3_setSkills_24 (by decide) (fun c3 => ?_) (fun c3 => ?_)
      · refine z_iconst C (0) dX3_setSkills_41 (by decide) ?_
        refine z_callV C zm_X3_goes zl_X3_91 (m_goes (a := false) (b := mIn y 0 31) (v := false) hl hH) dX3_setSkills_42 (by first | assumption | exact zk_eq | exact zk_ne (by first | assumption | exact zk_eq | exact zk_ne (by first | assumption | exact zk_eq | exact zk_ne (by first | assumption | exact zk_eq | exact zk_ne (by first | assumption | exact zk_eq | exact zk_ne (by first | assumption | exact zk_eq) (by first | decide | omega)) (by first | decide | omega)) (by first | decide | omega)) (by first | decide | omega)) (by first | decide | omega)) (by rfl) (by rfl) (by rfl) (by exact Nat.le_of_ble_eq_true rfl) rfl (by exact ⟨Nat.le_of_ble_eq_true rfl, Nat.le_of_ble_eq_true rfl⟩) (by first | exact ⟨Nat.le_of_ble_eq_true rfl, Nat.le_of_ble_eq_true rfl⟩ | (simp only [zrm]; omega)) (fun _ _ h => z_xno h) (fun r w2 hq => ?_)
        obtain ⟨rfl, g2, g3⟩ := hq
        refine z_if_ne C 50 dX3_setSkills_45 (by decide) (fun c2 => ?_) (fun c2 => ?_)
        · exact absurd rfl c2
        · refine z_iconst C (0) dX3_setSkills_48 (by decide) ?_
          refine z_iret C hret dX3_setSkills_49 (by first | exact Nat.le_of_ble_eq_true rfl | omega) (by first | exact Nat.le_of_ble_eq_true rfl | omega) ?_
          exact ZQ.fin (M1 := (g, va_up f 25 1)) (by simp only [mSetSkills, hk]) ⟨bd, g1, rfl, g2, hA⟩ g3
      · exact absurd (by decide) c3
    · exact absurd (by decide) c1
  | some k =>
    dsimp only
    obtain ⟨hk30, -, -⟩ := mKept_lt hk
    refine z_istore_n C (L1 := [_, _, _, _, _]) dX3_setSkills_5 (Nat.le_of_ble_eq_true rfl) rfl ?_
    refine z_aload_n C dX3_setSkills_6 rfl ?_
    refine z_iload_n C dX3_setSkills_7 rfl ?_
    refine z_if_lt C 15 dX3_setSkills_8 (by decide) (fun c1 => ?_) (fun c1 => ?_)
    · exact absurd c1 (nI_pos (by omega))
    · refine z_iconst C (1) dX3_setSkills_11 (by decide) ?_
      refine z_goto C 16 dX3_setSkills_12 (by decide) ?_
      refine z_iload_n C dX3_setSkills_16 rfl ?_
      refine z_iconst C (0) dX3_setSkills_17 (by decide) ?_
      refine z_bipush C (31) dX3_setSkills_18 (by decide) ?_
      refine z_callS C zm_X3_in zl_X3_72 (m_in hl y 0 31) dX3_setSkills_20 (by rfl) (by rfl) (by exact Nat.le_of_ble_eq_true rfl) rfl (by exact ⟨Nat.le_of_ble_eq_true rfl, Nat.le_of_ble_eq_true rfl⟩) (by first | exact ⟨Nat.le_of_ble_eq_true rfl, Nat.le_of_ble_eq_true rfl⟩ | (simp only [zrm]; omega)) (fun _ _ h => z_xno h) (fun r w1 hq => ?_)
      obtain ⟨rfl, rfl⟩ := hq
      refine z_iload_n C dX3_setSkills_23 rfl ?_
      refine z_if_lt C 41 dX3_setSkills_24 (by decide) (fun c3 => ?_) (fun c3 => ?_)
      · exact absurd c3 (nI_pos (by omega))
      have e7 := hA 7 (by decide)
      refine z_aload_n C dX3_setSkills_27 rfl ?_
      refine z_getf C zf_X3_32 dX3_setSkills_28 (by first | assumption | exact zk_eq | exact zk_ne (by first | assumption | exact zk_eq | exact zk_ne (by first | assumption | exact zk_eq | exact zk_ne (by first | assumption | exact zk_eq | exact zk_ne (by first | assumption | exact zk_eq | exact zk_ne (by first | assumption | exact zk_eq) (by first | decide | omega)) (by first | decide | omega)) (by first | decide | omega)) (by first | decide | omega)) (by first | decide | omega)) (by rfl) ?_
      refine z_iload_n C dX3_setSkills_31 rfl ?_
      refine z_iald C dX3_setSkills_32 (by first | assumption | exact zk_eq | exact zk_ne (by first | assumption | exact zk_eq | exact zk_ne (by first | assumption | exact zk_eq | exact zk_ne (by first | assumption | exact zk_eq | exact zk_ne (by first | assumption | exact zk_eq | exact zk_ne (by first | assumption | exact zk_eq) (by first | decide | omega)) (by first | decide | omega)) (by first | decide | omega)) (by first | decide | omega)) (by first | decide | omega)) (by first | rfl | assumption) (by first | assumption | omega | decide) (by first | decide | omega) ?_
      refine z_iconst C (-1) dX3_setSkills_33 (by decide) ?_
      rw [e7]
      refine z_icmp_ne C 41 dX3_setSkills_34 (by decide) (fun c4 => ?_) (fun c4 => ?_)
      · refine z_iconst C (0) dX3_setSkills_41 (by decide) ?_
        refine z_callV C zm_X3_goes zl_X3_91 (m_goes (a := true) (b := mIn y 0 31) (v := false) hl hH) dX3_setSkills_42 (by first | assumption | exact zk_eq | exact zk_ne (by first | assumption | exact zk_eq | exact zk_ne (by first | assumption | exact zk_eq | exact zk_ne (by first | assumption | exact zk_eq | exact zk_ne (by first | assumption | exact zk_eq | exact zk_ne (by first | assumption | exact zk_eq) (by first | decide | omega)) (by first | decide | omega)) (by first | decide | omega)) (by first | decide | omega)) (by first | decide | omega)) (by rfl) (by rfl) (by rfl) (by exact Nat.le_of_ble_eq_true rfl) rfl (by exact ⟨Nat.le_of_ble_eq_true rfl, Nat.le_of_ble_eq_true rfl⟩) (by first | exact ⟨Nat.le_of_ble_eq_true rfl, Nat.le_of_ble_eq_true rfl⟩ | (simp only [zrm]; omega)) (fun _ _ h => z_xno h) (fun r w2 hq => ?_)
        obtain ⟨rfl, g2, g3⟩ := hq
        refine z_if_ne C 50 dX3_setSkills_45 (by decide) (fun c2 => ?_) (fun c2 => ?_)
        · exact absurd (by simp [zb]) c2
        · refine z_iconst C (0) dX3_setSkills_48 (by decide) ?_
          refine z_iret C hret dX3_setSkills_49 (by first | exact Nat.le_of_ble_eq_true rfl | omega) (by first | exact Nat.le_of_ble_eq_true rfl | omega) ?_
          cases hi : mIn y 0 31 with
          | true =>
            rw [hi] at g2
            exact ZQ.fin (M1 := (g, va_up f 25 3)) (by simp only [mSetSkills, hk, hi, if_true, if_neg c4]) ⟨bd, g1, rfl, g2, hA⟩ g3
          | false =>
            rw [hi] at g2
            exact ZQ.fin (M1 := (g, va_up f 25 2)) (by simp only [mSetSkills, hk, hi, Bool.false_eq_true, if_false]) ⟨bd, g1, rfl, g2, hA⟩ g3
      · refine z_iconst C (1) dX3_setSkills_37 (by decide) ?_
        refine z_goto C 42 dX3_setSkills_38 (by decide) ?_
        refine z_callV C zm_X3_goes zl_X3_91 (m_goes (a := true) (b := mIn y 0 31) (v := true) hl hH) dX3_setSkills_42 (by first | assumption | exact zk_eq | exact zk_ne (by first | assumption | exact zk_eq | exact zk_ne (by first | assumption | exact zk_eq | exact zk_ne (by first | assumption | exact zk_eq | exact zk_ne (by first | assumption | exact zk_eq | exact zk_ne (by first | assumption | exact zk_eq) (by first | decide | omega)) (by first | decide | omega)) (by first | decide | omega)) (by first | decide | omega)) (by first | decide | omega)) (by rfl) (by rfl) (by rfl) (by exact Nat.le_of_ble_eq_true rfl) rfl (by exact ⟨Nat.le_of_ble_eq_true rfl, Nat.le_of_ble_eq_true rfl⟩) (by first | exact ⟨Nat.le_of_ble_eq_true rfl, Nat.le_of_ble_eq_true rfl⟩ | (simp only [zrm]; omega)) (fun _ _ h => z_xno h) (fun r w2 hq => ?_)
        obtain ⟨rfl, g2, g3⟩ := hq
        have hX := g2
        obtain ⟨m20, m21, m22, m23, m24, m25, m26, m27, m28, m29, m30, m31, m32, m33, m34, m35, m36, m37, m38⟩ := g2.all
        cases hi : mIn y 0 31 with
        | true =>
          rw [hi] at hX m20
          refine z_if_ne C 50 dX3_setSkills_45 (by decide) (fun c2 => ?_) (fun c2 => ?_)
          · refine z_aload_n C dX3_setSkills_50 rfl ?_
            refine z_getf C zf_X3_19 dX3_setSkills_51 (by first | assumption | exact zk_eq | exact zk_ne (by first | assumption | exact zk_eq | exact zk_ne (by first | assumption | exact zk_eq | exact zk_ne (by first | assumption | exact zk_eq | exact zk_ne (by first | assumption | exact zk_eq | exact zk_ne (by first | assumption | exact zk_eq) (by first | decide | omega)) (by first | decide | omega)) (by first | decide | omega)) (by first | decide | omega)) (by first | decide | omega)) (by rfl) ?_
            refine z_iload_n C dX3_setSkills_54 rfl ?_
            refine z_iald C dX3_setSkills_55 (by first | assumption | exact zk_eq | exact zk_ne (by first | assumption | exact zk_eq | exact zk_ne (by first | assumption | exact zk_eq | exact zk_ne (by first | assumption | exact zk_eq | exact zk_ne (by first | assumption | exact zk_eq | exact zk_ne (by first | assumption | exact zk_eq) (by first | decide | omega)) (by first | decide | omega)) (by first | decide | omega)) (by first | decide | omega)) (by first | decide | omega)) (by first | rfl | assumption) (by first | assumption | omega | decide) (by first | decide | omega) ?_
            refine z_istore C (L1 := [_, _, _, _, _]) dX3_setSkills_56 (Nat.le_of_ble_eq_true rfl) rfl ?_
            refine z_aload_n C dX3_setSkills_58 rfl ?_
            refine z_getf C zf_X3_19 dX3_setSkills_59 (by first | assumption | exact zk_eq | exact zk_ne (by first | assumption | exact zk_eq | exact zk_ne (by first | assumption | exact zk_eq | exact zk_ne (by first | assumption | exact zk_eq | exact zk_ne (by first | assumption | exact zk_eq | exact zk_ne (by first | assumption | exact zk_eq) (by first | decide | omega)) (by first | decide | omega)) (by first | decide | omega)) (by first | decide | omega)) (by first | decide | omega)) (by rfl) ?_
            refine z_iload_n C dX3_setSkills_62 rfl ?_
            refine z_iload_n C dX3_setSkills_63 rfl ?_
            refine z_iast C dX3_setSkills_64 (by first | assumption | exact zk_eq | exact zk_ne (by first | assumption | exact zk_eq | exact zk_ne (by first | assumption | exact zk_eq | exact zk_ne (by first | assumption | exact zk_eq | exact zk_ne (by first | assumption | exact zk_eq | exact zk_ne (by first | assumption | exact zk_eq) (by first | decide | omega)) (by first | decide | omega)) (by first | decide | omega)) (by first | decide | omega)) (by first | decide | omega)) (by first | rfl | assumption) (by first | assumption | omega | decide) (by first | decide | omega) ?_
            refine z_iload C dX3_setSkills_65 rfl ?_
            refine z_iret C hret dX3_setSkills_67 (by first | exact Nat.le_of_ble_eq_true rfl | omega) (by first | exact Nat.le_of_ble_eq_true rfl | omega) ?_
            exact ZQ.fin (M1 := (va_up g 3 (va_up (g 3) k y), va_up f 25 0)) (by simp only [mSetSkills, hk, hi, if_true, if_pos c4]; rw [hA 3 (by decide)]) ⟨bd, _, rfl, hX.arr 3 (va_up (g1 3) k y), hA.up (by rw [hA 3 (by decide)])⟩ (g3.up (by decide) (by decide))
          · exact absurd c2 (by decide)
        | false =>
          rw [hi] at hX
          refine z_if_ne C 50 dX3_setSkills_45 (by decide) (fun c2 => ?_) (fun c2 => ?_)
          · exact absurd rfl c2
          · refine z_iconst C (0) dX3_setSkills_48 (by decide) ?_
            refine z_iret C hret dX3_setSkills_49 (by first | exact Nat.le_of_ble_eq_true rfl | omega) (by first | exact Nat.le_of_ble_eq_true rfl | omega) ?_
            exact ZQ.fin (M1 := (g, va_up f 25 2)) (by simp only [mSetSkills, hk, hi, Bool.false_eq_true, if_false]) ⟨bd, g1, rfl, hX, hA⟩ g3
theorem q_move (hl : l.stackTraces = false) (h : MM z b0 w M) (x y : Int32) : ZQ l z mX3_move b0 [.int x, .int y] w (mMove M x y) := by
  obtain ⟨g, f⟩ := M
  obtain ⟨bd, g1, rfl, h, hA⟩ := h
  dsimp only at h hA
  have hH := h
  obtain ⟨m20, m21, m22, m23, m24, m25, m26, m27, m28, m29, m30, m31, m32, m33, m34, m35, m36, m37, m38⟩ := h.all
  refine zbody (M := mX3_move) (L0 := [_, _, _, _, _]) hl (by simp [Value.category]) (Nat.le_of_ble_eq_true rfl) (by decide +kernel) rfl ?_
  intro p e s m args below meth c C hX hnm hret
  replace C : zC z p l s m args meth c cX3_move RX3 5 := C
  replace hret : meth.sig.returnType = (some .int) := hret
  refine z_aload_n C dX3_move_0 rfl ?_
  refine z_iload_n C dX3_move_1 rfl ?_
  refine z_callV C zm_X3_kept zl_X3_102 (m_kept hl hH x) dX3_move_2 (by first | assumption | exact zk_eq | exact zk_ne (by first | assumption | exact zk_eq | exact zk_ne (by first | assumption | exact zk_eq | exact zk_ne (by first | assumption | exact zk_eq | exact zk_ne (by first | assumption | exact zk_eq | exact zk_ne (by first | assumption | exact zk_eq) (by first | decide | omega)) (by first | decide | omega)) (by first | decide | omega)) (by first | decide | omega)) (by first | decide | omega)) (by rfl) (by rfl) (by rfl) (by exact Nat.le_of_ble_eq_true rfl) rfl (by exact ⟨Nat.le_of_ble_eq_true rfl, Nat.le_of_ble_eq_true rfl⟩) (by first | exact ⟨Nat.le_of_ble_eq_true rfl, Nat.le_of_ble_eq_true rfl⟩ | (simp only [zrm]; omega)) (fun _ _ h => z_xno h) (fun r w1 hq => ?_)
  obtain ⟨rfl, rfl⟩ := hq
  rw [hA.kept x]
  cases hk : mKept g x with
  | none =>
    dsimp only
    refine z_istore_n C (L1 := [_, _, _, _, _]) dX3_move_5 (Nat.le_of_ble_eq_true rfl) rfl ?_
    refine z_aload_n C dX3_move_6 rfl ?_
    refine z_iload_n C dX3_move_7 rfl ?_
    refine z_if_lt C 15 dX3_move_8 (by decide) (fun c1 => ?_) (fun c1 => ?_)
    · refine z_iconst C (0) dX3_move_15 (by decide) ?_
      refine z_iload_n C dX3_move_16 rfl ?_
      refine z_callS C zm_X3_isBoard zl_X3_83 (m_isBoard hl y) dX3_move_17 (by rfl) (by rfl) (by exact Nat.le_of_ble_eq_true rfl) rfl (by exact ⟨Nat.le_of_ble_eq_true rfl, Nat.le_of_ble_eq_true rfl⟩) (by first | exact ⟨Nat.le_of_ble_eq_true rfl, Nat.le_of_ble_eq_true rfl⟩ | (simp only [zrm]; omega)) (fun _ _ h => z_xno h) (fun r w1 hq => ?_)
      obtain ⟨rfl, rfl⟩ := hq
      refine z_iconst C (1) dX3_move_20 (by decide) ?_
      refine z_callV C zm_X3_goes zl_X3_91 (m_goes (a := false) (b := mIn y 0 3) (v := true) hl hH) dX3_move_21 (by first | assumption | exact zk_eq | exact zk_ne (by first | assumption | exact zk_eq | exact zk_ne (by first | assumption | exact zk_eq | exact zk_ne (by first | assumption | exact zk_eq | exact zk_ne (by first | assumption | exact zk_eq | exact zk_ne (by first | assumption | exact zk_eq) (by first | decide | omega)) (by first | decide | omega)) (by first | decide | omega)) (by first | decide | omega)) (by first | decide | omega)) (by rfl) (by rfl) (by rfl) (by exact Nat.le_of_ble_eq_true rfl) rfl (by exact ⟨Nat.le_of_ble_eq_true rfl, Nat.le_of_ble_eq_true rfl⟩) (by first | exact ⟨Nat.le_of_ble_eq_true rfl, Nat.le_of_ble_eq_true rfl⟩ | (simp only [zrm]; omega)) (fun _ _ h => z_xno h) (fun r w2 hq => ?_)
      obtain ⟨rfl, g2, g3⟩ := hq
      refine z_if_ne C 29 dX3_move_24 (by decide) (fun c2 => ?_) (fun c2 => ?_)
      · exact absurd rfl c2
      · refine z_iconst C (0) dX3_move_27 (by decide) ?_
        refine z_iret C hret dX3_move_28 (by first | exact Nat.le_of_ble_eq_true rfl | omega) (by first | exact Nat.le_of_ble_eq_true rfl | omega) ?_
        exact ZQ.fin (M1 := (g, va_up f 25 1)) (by simp only [mMove, hk]) ⟨bd, g1, rfl, g2, hA⟩ g3
    · exact absurd (by decide) c1
  | some k =>
    dsimp only
    obtain ⟨hk30, -, -⟩ := mKept_lt hk
    refine z_istore_n C (L1 := [_, _, _, _, _]) dX3_move_5 (Nat.le_of_ble_eq_true rfl) rfl ?_
    refine z_aload_n C dX3_move_6 rfl ?_
    refine z_iload_n C dX3_move_7 rfl ?_
    refine z_if_lt C 15 dX3_move_8 (by decide) (fun c1 => ?_) (fun c1 => ?_)
    · exact absurd c1 (nI_pos (by omega))
    · refine z_iconst C (1) dX3_move_11 (by decide) ?_
      refine z_goto C 16 dX3_move_12 (by decide) ?_
      refine z_iload_n C dX3_move_16 rfl ?_
      refine z_callS C zm_X3_isBoard zl_X3_83 (m_isBoard hl y) dX3_move_17 (by rfl) (by rfl) (by exact Nat.le_of_ble_eq_true rfl) rfl (by exact ⟨Nat.le_of_ble_eq_true rfl, Nat.le_of_ble_eq_true rfl⟩) (by first | exact ⟨Nat.le_of_ble_eq_true rfl, Nat.le_of_ble_eq_true rfl⟩ | (simp only [zrm]; omega)) (fun _ _ h => z_xno h) (fun r w1 hq => ?_)
      obtain ⟨rfl, rfl⟩ := hq
      refine z_iconst C (1) dX3_move_20 (by decide) ?_
      refine z_callV C zm_X3_goes zl_X3_91 (m_goes (a := true) (b := mIn y 0 3) (v := true) hl hH) dX3_move_21 (by first | assumption | exact zk_eq | exact zk_ne (by first | assumption | exact zk_eq | exact zk_ne (by first | assumption | exact zk_eq | exact zk_ne (by first | assumption | exact zk_eq | exact zk_ne (by first | assumption | exact zk_eq | exact zk_ne (by first | assumption | exact zk_eq) (by first | decide | omega)) (by first | decide | omega)) (by first | decide | omega)) (by first | decide | omega)) (by first | decide | omega)) (by rfl) (by rfl) (by rfl) (by exact Nat.le_of_ble_eq_true rfl) rfl (by exact ⟨Nat.le_of_ble_eq_true rfl, Nat.le_of_ble_eq_true rfl⟩) (by first | exact ⟨Nat.le_of_ble_eq_true rfl, Nat.le_of_ble_eq_true rfl⟩ | (simp only [zrm]; omega)) (fun _ _ h => z_xno h) (fun r w2 hq => ?_)
      obtain ⟨rfl, g2, g3⟩ := hq
      have hX := g2
      obtain ⟨m20, m21, m22, m23, m24, m25, m26, m27, m28, m29, m30, m31, m32, m33, m34, m35, m36, m37, m38⟩ := g2.all
      cases hi : mIn y 0 3 with
      | true =>
        rw [hi] at hX m20
        refine z_if_ne C 29 dX3_move_24 (by decide) (fun c2 => ?_) (fun c2 => ?_)
        · refine z_aload_n C dX3_move_29 rfl ?_
          refine z_getf C zf_X3_13 dX3_move_30 (by first | assumption | exact zk_eq | exact zk_ne (by first | assumption | exact zk_eq | exact zk_ne (by first | assumption | exact zk_eq | exact zk_ne (by first | assumption | exact zk_eq | exact zk_ne (by first | assumption | exact zk_eq | exact zk_ne (by first | assumption | exact zk_eq) (by first | decide | omega)) (by first | decide | omega)) (by first | decide | omega)) (by first | decide | omega)) (by first | decide | omega)) (by rfl) ?_
          refine z_iload_n C dX3_move_33 rfl ?_
          refine z_iald C dX3_move_34 (by first | assumption | exact zk_eq | exact zk_ne (by first | assumption | exact zk_eq | exact zk_ne (by first | assumption | exact zk_eq | exact zk_ne (by first | assumption | exact zk_eq | exact zk_ne (by first | assumption | exact zk_eq | exact zk_ne (by first | assumption | exact zk_eq) (by first | decide | omega)) (by first | decide | omega)) (by first | decide | omega)) (by first | decide | omega)) (by first | decide | omega)) (by first | rfl | assumption) (by first | assumption | omega | decide) (by first | decide | omega) ?_
          refine z_istore C (L1 := [_, _, _, _, _]) dX3_move_35 (Nat.le_of_ble_eq_true rfl) rfl ?_
          refine z_aload_n C dX3_move_37 rfl ?_
          refine z_getf C zf_X3_13 dX3_move_38 (by first | assumption | exact zk_eq | exact zk_ne (by first | assumption | exact zk_eq | exact zk_ne (by first | assumption | exact zk_eq | exact zk_ne (by first | assumption | exact zk_eq | exact zk_ne (by first | assumption | exact zk_eq | exact zk_ne (by first | assumption | exact zk_eq) (by first | decide | omega)) (by first | decide | omega)) (by first | decide | omega)) (by first | decide | omega)) (by first | decide | omega)) (by rfl) ?_
          refine z_iload_n C dX3_move_41 rfl ?_
          refine z_iload_n C dX3_move_42 rfl ?_
          refine z_iast C dX3_move_43 (by first | assumption | exact zk_eq | exact zk_ne (by first | assumption | exact zk_eq | exact zk_ne (by first | assumption | exact zk_eq | exact zk_ne (by first | assumption | exact zk_eq | exact zk_ne (by first | assumption | exact zk_eq | exact zk_ne (by first | assumption | exact zk_eq) (by first | decide | omega)) (by first | decide | omega)) (by first | decide | omega)) (by first | decide | omega)) (by first | decide | omega)) (by first | rfl | assumption) (by first | assumption | omega | decide) (by first | decide | omega) ?_
          refine z_aload_n C dX3_move_44 rfl ?_
          refine z_iload_n C dX3_move_45 rfl ?_
          have hX2 := hX.arr 1 (va_up (g1 1) k y)
          have m20' := hX2.1
          refine z_callV C zm_X3_lowers zl_X3_98 (m_lowers hl hX2 hk30) dX3_move_46 (by first | assumption | exact zk_eq | exact zk_ne (by first | assumption | exact zk_eq | exact zk_ne (by first | assumption | exact zk_eq | exact zk_ne (by first | assumption | exact zk_eq | exact zk_ne (by first | assumption | exact zk_eq | exact zk_ne (by first | assumption | exact zk_eq) (by first | decide | omega)) (by first | decide | omega)) (by first | decide | omega)) (by first | decide | omega)) (by first | decide | omega)) (by rfl) (by rfl) (by rfl) (by exact Nat.le_of_ble_eq_true rfl) rfl (by exact ⟨Nat.le_of_ble_eq_true rfl, Nat.le_of_ble_eq_true rfl⟩) (by first | exact ⟨Nat.le_of_ble_eq_true rfl, Nat.le_of_ble_eq_true rfl⟩ | (simp only [zrm]; omega)) (fun _ _ h => z_xno h) (fun r w4 hq => ?_)
          obtain ⟨rfl, g4, g5⟩ := hq
          refine z_iload C dX3_move_49 rfl ?_
          refine z_iret C hret dX3_move_51 (by first | exact Nat.le_of_ble_eq_true rfl | omega) (by first | exact Nat.le_of_ble_eq_true rfl | omega) ?_
          exact ZQ.fin (M1 := (mLow (va_up g 1 (va_up (g 1) k y)) (va_up f 25 0) k, mLoF (va_up f 25 0))) (by simp only [mMove, hk, hi, if_true]; rw [hA 1 (by decide)]) ⟨bd, _, rfl, g4, (hA.up (by rw [hA 1 (by decide)])).low⟩ ((g3.up (by decide) (by decide)).tr g5)
        · exact absurd c2 (by decide)
      | false =>
        rw [hi] at hX
        refine z_if_ne C 29 dX3_move_24 (by decide) (fun c2 => ?_) (fun c2 => ?_)
        · exact absurd rfl c2
        · refine z_iconst C (0) dX3_move_27 (by decide) ?_
          refine z_iret C hret dX3_move_28 (by first | exact Nat.le_of_ble_eq_true rfl | omega) (by first | exact Nat.le_of_ble_eq_true rfl | omega) ?_
          exact ZQ.fin (M1 := (g, va_up f 25 2)) (by simp only [mMove, hk, hi, Bool.false_eq_true, if_false]) ⟨bd, g1, rfl, hX, hA⟩ g3
theorem q_leave (hl : l.stackTraces = false) (h : MM z b0 w M) (x y : Int32) (hat : ∀ k, mKept M.1 x = some k → M.1 7 k = -1 ∨ ∃ q : Nat, q < 16 ∧ M.1 7 k = nI q) : ZQ l z mX3_leave b0 [.int x, .int y] w (mLeave M x y) := by
  obtain ⟨g, f⟩ := M
  obtain ⟨bd, g1, rfl, h, hA⟩ := h
  dsimp only at h hA
  have hH := h
  obtain ⟨m20, m21, m22, m23, m24, m25, m26, m27, m28, m29, m30, m31, m32, m33, m34, m35, m36, m37, m38⟩ := h.all
  refine zbody (M := mX3_leave) (L0 := [_, _, _, _, _]) hl (by simp [Value.category]) (Nat.le_of_ble_eq_true rfl) (by decide +kernel) rfl ?_
  intro p e s m args below meth c C hX hnm hret
  replace C : zC z p l s m args meth c cX3_leave RX3 5 := C
  replace hret : meth.sig.returnType = (some .int) := hret
  refine z_aload_n C dX3_leave_0 rfl ?_
  refine z_iload_n C dX3_leave_1 rfl ?_
  refine z_callV C zm_X3_kept zl_X3_102 (m_kept hl hH x) dX3_leave_2 (by first | assumption | exact zk_eq | exact zk_ne (by first | assumption | exact zk_eq | exact zk_ne (by first | assumption | exact zk_eq | exact zk_ne (by first | assumption | exact zk_eq | exact zk_ne (by first | assumption | exact zk_eq | exact zk_ne (by first | assumption | exact zk_eq) (by first | decide | omega)) (by first | decide | omega)) (by first | decide | omega)) (by first | decide | omega)) (by first | decide | omega)) (by rfl) (by rfl) (by rfl) (by exact Nat.le_of_ble_eq_true rfl) rfl (by exact ⟨Nat.le_of_ble_eq_true rfl, Nat.le_of_ble_eq_true rfl⟩) (by first | exact ⟨Nat.le_of_ble_eq_true rfl, Nat.le_of_ble_eq_true rfl⟩ | (simp only [zrm]; omega)) (fun _ _ h => z_xno h) (fun r w1 hq => ?_)
  obtain ⟨rfl, rfl⟩ := hq
  rw [hA.kept x]
  cases hk : mKept g x with
  | none =>
    dsimp only
    refine z_istore_n C (L1 := [_, _, _, _, _]) dX3_leave_5 (Nat.le_of_ble_eq_true rfl) rfl ?_
    refine z_aload_n C dX3_leave_6 rfl ?_
    refine z_iload_n C dX3_leave_7 rfl ?_
    refine z_if_lt C 15 dX3_leave_8 (by decide) (fun c1 => ?_) (fun c1 => ?_)
    · refine z_iconst C (0) dX3_leave_15 (by decide) ?_
      refine z_iload_n C dX3_leave_16 rfl ?_
      refine z_iconst C (0) dX3_leave_17 (by decide) ?_
      refine z_aload_n C dX3_leave_18 rfl ?_
      refine z_getf C zf_X3_56 dX3_leave_19 (by first | assumption | exact zk_eq | exact zk_ne (by first | assumption | exact zk_eq | exact zk_ne (by first | assumption | exact zk_eq | exact zk_ne (by first | assumption | exact zk_eq | exact zk_ne (by first | assumption | exact zk_eq | exact zk_ne (by first | assumption | exact zk_eq) (by first | decide | omega)) (by first | decide | omega)) (by first | decide | omega)) (by first | decide | omega)) (by first | decide | omega)) (by rfl) ?_
      refine z_callS C zm_X3_in zl_X3_72 (m_in hl y 0 (f 18)) dX3_leave_22 (by rfl) (by rfl) (by exact Nat.le_of_ble_eq_true rfl) rfl (by exact ⟨Nat.le_of_ble_eq_true rfl, Nat.le_of_ble_eq_true rfl⟩) (by first | exact ⟨Nat.le_of_ble_eq_true rfl, Nat.le_of_ble_eq_true rfl⟩ | (simp only [zrm]; omega)) (fun _ _ h => z_xno h) (fun r w1 hq => ?_)
      obtain ⟨rfl, rfl⟩ := hq
      refine z_iload_n C dX3_leave_25 rfl ?_
      refine z_if_lt C 51 dX3_leave_26 (by decide) (fun c3 => ?_) (fun c3 => ?_)
      · refine z_iconst C (0) dX3_leave_51 (by decide) ?_
        refine z_callV C zm_X3_goes zl_X3_91 (m_goes (a := false) (b := mIn y 0 (f 18)) (v := false) hl hH) dX3_leave_52 (by first | assumption | exact zk_eq | exact zk_ne (by first | assumption | exact zk_eq | exact zk_ne (by first | assumption | exact zk_eq | exact zk_ne (by first | assumption | exact zk_eq | exact zk_ne (by first | assumption | exact zk_eq | exact zk_ne (by first | assumption | exact zk_eq) (by first | decide | omega)) (by first | decide | omega)) (by first | decide | omega)) (by first | decide | omega)) (by first | decide | omega)) (by rfl) (by rfl) (by rfl) (by exact Nat.le_of_ble_eq_true rfl) rfl (by exact ⟨Nat.le_of_ble_eq_true rfl, Nat.le_of_ble_eq_true rfl⟩) (by first | exact ⟨Nat.le_of_ble_eq_true rfl, Nat.le_of_ble_eq_true rfl⟩ | (simp only [zrm]; omega)) (fun _ _ h => z_xno h) (fun r w2 hq => ?_)
        obtain ⟨rfl, g2, g3⟩ := hq
        refine z_if_ne C 60 dX3_leave_55 (by decide) (fun c2 => ?_) (fun c2 => ?_)
        · exact absurd rfl c2
        · refine z_iconst C (0) dX3_leave_58 (by decide) ?_
          refine z_iret C hret dX3_leave_59 (by first | exact Nat.le_of_ble_eq_true rfl | omega) (by first | exact Nat.le_of_ble_eq_true rfl | omega) ?_
          exact ZQ.fin (M1 := (g, va_up f 25 1)) (by simp only [mLeave, hk]) ⟨bd, g1, rfl, g2, hA⟩ g3
      · exact absurd (by decide) c3
    · exact absurd (by decide) c1
  | some k =>
    dsimp only
    obtain ⟨hk30, -, -⟩ := mKept_lt hk
    refine z_istore_n C (L1 := [_, _, _, _, _]) dX3_leave_5 (Nat.le_of_ble_eq_true rfl) rfl ?_
    refine z_aload_n C dX3_leave_6 rfl ?_
    refine z_iload_n C dX3_leave_7 rfl ?_
    refine z_if_lt C 15 dX3_leave_8 (by decide) (fun c1 => ?_) (fun c1 => ?_)
    · exact absurd c1 (nI_pos (by omega))
    · refine z_iconst C (1) dX3_leave_11 (by decide) ?_
      refine z_goto C 16 dX3_leave_12 (by decide) ?_
      refine z_iload_n C dX3_leave_16 rfl ?_
      refine z_iconst C (0) dX3_leave_17 (by decide) ?_
      refine z_aload_n C dX3_leave_18 rfl ?_
      refine z_getf C zf_X3_56 dX3_leave_19 (by first | assumption | exact zk_eq | exact zk_ne (by first | assumption | exact zk_eq | exact zk_ne (by first | assumption | exact zk_eq | exact zk_ne (by first | assumption | exact zk_eq | exact zk_ne (by first | assumption | exact zk_eq | exact zk_ne (by first | assumption | exact zk_eq) (by first | decide | omega)) (by first | decide | omega)) (by first | decide | omega)) (by first | decide | omega)) (by first | decide | omega)) (by rfl) ?_
      refine z_callS C zm_X3_in zl_X3_72 (m_in hl y 0 (f 18)) dX3_leave_22 (by rfl) (by rfl) (by exact Nat.le_of_ble_eq_true rfl) rfl (by exact ⟨Nat.le_of_ble_eq_true rfl, Nat.le_of_ble_eq_true rfl⟩) (by first | exact ⟨Nat.le_of_ble_eq_true rfl, Nat.le_of_ble_eq_true rfl⟩ | (simp only [zrm]; omega)) (fun _ _ h => z_xno h) (fun r w1 hq => ?_)
      obtain ⟨rfl, rfl⟩ := hq
      refine z_iload_n C dX3_leave_25 rfl ?_
      refine z_if_lt C 51 dX3_leave_26 (by decide) (fun c3 => ?_) (fun c3 => ?_)
      · exact absurd c3 (nI_pos (by omega))
      have e7 := hA 7 (by decide)
      have bad : (g 7 k = -1 ∨ y < f 19) → ZJ z p l e (zrm 3 0 0) s m args below meth c (vx_MQ below (zQc z (fun r w2 => r = some (.int (mLeave (g, f) x y).1) ∧ MM z (bd 20) w2 (mLeave (g, f) x y).2 ∧ zFm w1 w2)) (zXC z zNo) args s 0 0 (zA z)) 0 0 51 [some (.ref (bd 20)), some (.int x), some (.int y), some (.int (nI k)), none] [.int (zb (mIn y 0 (f 18))), .int 1, .ref (bd 20)] w1 := by
        intro hbad
        refine z_iconst C (0) dX3_leave_51 (by decide) ?_
        refine z_callV C zm_X3_goes zl_X3_91 (m_goes (a := true) (b := mIn y 0 (f 18)) (v := false) hl hH) dX3_leave_52 (by first | assumption | exact zk_eq | exact zk_ne (by first | assumption | exact zk_eq | exact zk_ne (by first | assumption | exact zk_eq | exact zk_ne (by first | assumption | exact zk_eq | exact zk_ne (by first | assumption | exact zk_eq | exact zk_ne (by first | assumption | exact zk_eq) (by first | decide | omega)) (by first | decide | omega)) (by first | decide | omega)) (by first | decide | omega)) (by first | decide | omega)) (by rfl) (by rfl) (by rfl) (by exact Nat.le_of_ble_eq_true rfl) rfl (by exact ⟨Nat.le_of_ble_eq_true rfl, Nat.le_of_ble_eq_true rfl⟩) (by first | exact ⟨Nat.le_of_ble_eq_true rfl, Nat.le_of_ble_eq_true rfl⟩ | (simp only [zrm]; omega)) (fun _ _ h => z_xno h) (fun r w2 hq => ?_)
        obtain ⟨rfl, g2, g3⟩ := hq
        refine z_if_ne C 60 dX3_leave_55 (by decide) (fun c2 => ?_) (fun c2 => ?_)
        · exact absurd (by simp [zb]) c2
        · refine z_iconst C (0) dX3_leave_58 (by decide) ?_
          refine z_iret C hret dX3_leave_59 (by first | exact Nat.le_of_ble_eq_true rfl | omega) (by first | exact Nat.le_of_ble_eq_true rfl | omega) ?_
          cases hi : mIn y 0 (f 18) with
          | true =>
            rw [hi] at g2
            exact ZQ.fin (M1 := (g, va_up f 25 3)) (by simp only [mLeave, hk, hi, if_true, if_pos hbad]) ⟨bd, g1, rfl, g2, hA⟩ g3
          | false =>
            rw [hi] at g2
            exact ZQ.fin (M1 := (g, va_up f 25 2)) (by simp only [mLeave, hk, hi, Bool.false_eq_true, if_false]) ⟨bd, g1, rfl, g2, hA⟩ g3
      refine z_aload_n C dX3_leave_29 rfl ?_
      refine z_getf C zf_X3_32 dX3_leave_30 (by first | assumption | exact zk_eq | exact zk_ne (by first | assumption | exact zk_eq | exact zk_ne (by first | assumption | exact zk_eq | exact zk_ne (by first | assumption | exact zk_eq | exact zk_ne (by first | assumption | exact zk_eq | exact zk_ne (by first | assumption | exact zk_eq) (by first | decide | omega)) (by first | decide | omega)) (by first | decide | omega)) (by first | decide | omega)) (by first | decide | omega)) (by rfl) ?_
      refine z_iload_n C dX3_leave_33 rfl ?_
      refine z_iald C dX3_leave_34 (by first | assumption | exact zk_eq | exact zk_ne (by first | assumption | exact zk_eq | exact zk_ne (by first | assumption | exact zk_eq | exact zk_ne (by first | assumption | exact zk_eq | exact zk_ne (by first | assumption | exact zk_eq | exact zk_ne (by first | assumption | exact zk_eq) (by first | decide | omega)) (by first | decide | omega)) (by first | decide | omega)) (by first | decide | omega)) (by first | decide | omega)) (by first | rfl | assumption) (by first | assumption | omega | decide) (by first | decide | omega) ?_
      refine z_iconst C (-1) dX3_leave_35 (by decide) ?_
      rw [e7]
      refine z_icmp_eq C 51 dX3_leave_36 (by decide) (fun c4 => ?_) (fun c4 => ?_)
      · exact bad (Or.inl c4)
      refine z_iload_n C dX3_leave_39 rfl ?_
      refine z_aload_n C dX3_leave_40 rfl ?_
      refine z_getf C zf_X3_115 dX3_leave_41 (by first | assumption | exact zk_eq | exact zk_ne (by first | assumption | exact zk_eq | exact zk_ne (by first | assumption | exact zk_eq | exact zk_ne (by first | assumption | exact zk_eq | exact zk_ne (by first | assumption | exact zk_eq | exact zk_ne (by first | assumption | exact zk_eq) (by first | decide | omega)) (by first | decide | omega)) (by first | decide | omega)) (by first | decide | omega)) (by first | decide | omega)) (by rfl) ?_
      refine z_icmp_lt C 51 dX3_leave_44 (by decide) (fun c5 => ?_) (fun c5 => ?_)
      · exact bad (Or.inr c5)
      have hgood : ¬ (g 7 k = -1 ∨ y < f 19) := fun h => h.elim c4 c5
      refine z_iconst C (1) dX3_leave_47 (by decide) ?_
      refine z_goto C 52 dX3_leave_48 (by decide) ?_
      refine z_callV C zm_X3_goes zl_X3_91 (m_goes (a := true) (b := mIn y 0 (f 18)) (v := true) hl hH) dX3_leave_52 (by first | assumption | exact zk_eq | exact zk_ne (by first | assumption | exact zk_eq | exact zk_ne (by first | assumption | exact zk_eq | exact zk_ne (by first | assumption | exact zk_eq | exact zk_ne (by first | assumption | exact zk_eq | exact zk_ne (by first | assumption | exact zk_eq) (by first | decide | omega)) (by first | decide | omega)) (by first | decide | omega)) (by first | decide | omega)) (by first | decide | omega)) (by rfl) (by rfl) (by rfl) (by exact Nat.le_of_ble_eq_true rfl) rfl (by exact ⟨Nat.le_of_ble_eq_true rfl, Nat.le_of_ble_eq_true rfl⟩) (by first | exact ⟨Nat.le_of_ble_eq_true rfl, Nat.le_of_ble_eq_true rfl⟩ | (simp only [zrm]; omega)) (fun _ _ h => z_xno h) (fun r w2 hq => ?_)
      obtain ⟨rfl, g2, g3⟩ := hq
      have hX := g2
      obtain ⟨m20, m21, m22, m23, m24, m25, m26, m27, m28, m29, m30, m31, m32, m33, m34, m35, m36, m37, m38⟩ := g2.all
      cases hi : mIn y 0 (f 18) with
      | true =>
        rw [hi] at hX m20
        obtain ⟨q, hq16, hgq⟩ : ∃ q : Nat, q < 16 ∧ g 7 k = nI q := (hat k hk).resolve_left c4
        have hcl : (g 7 k).toNatClampNeg = q := by rw [hgq, nI_clamp (by omega)]
        refine z_if_ne C 60 dX3_leave_55 (by decide) (fun c2 => ?_) (fun c2 => ?_)
        · refine z_aload_n C dX3_leave_60 rfl ?_
          refine z_getf C zf_X3_32 dX3_leave_61 (by first | assumption | exact zk_eq | exact zk_ne (by first | assumption | exact zk_eq | exact zk_ne (by first | assumption | exact zk_eq | exact zk_ne (by first | assumption | exact zk_eq | exact zk_ne (by first | assumption | exact zk_eq | exact zk_ne (by first | assumption | exact zk_eq) (by first | decide | omega)) (by first | decide | omega)) (by first | decide | omega)) (by first | decide | omega)) (by first | decide | omega)) (by rfl) ?_
          refine z_iload_n C dX3_leave_64 rfl ?_
          refine z_iald C dX3_leave_65 (by first | assumption | exact zk_eq | exact zk_ne (by first | assumption | exact zk_eq | exact zk_ne (by first | assumption | exact zk_eq | exact zk_ne (by first | assumption | exact zk_eq | exact zk_ne (by first | assumption | exact zk_eq | exact zk_ne (by first | assumption | exact zk_eq) (by first | decide | omega)) (by first | decide | omega)) (by first | decide | omega)) (by first | decide | omega)) (by first | decide | omega)) (by first | rfl | assumption) (by first | assumption | omega | decide) (by first | decide | omega) ?_
          refine z_istore C (L1 := [_, _, _, _, _]) dX3_leave_66 (Nat.le_of_ble_eq_true rfl) rfl ?_
          refine z_aload_n C dX3_leave_68 rfl ?_
          refine z_iload_n C dX3_leave_69 rfl ?_
          refine z_iload_n C dX3_leave_70 rfl ?_
          refine z_callV C zm_X3_works zl_X3_144 (m_works hl hX hk30 y) dX3_leave_71 (by first | assumption | exact zk_eq | exact zk_ne (by first | assumption | exact zk_eq | exact zk_ne (by first | assumption | exact zk_eq | exact zk_ne (by first | assumption | exact zk_eq | exact zk_ne (by first | assumption | exact zk_eq | exact zk_ne (by first | assumption | exact zk_eq) (by first | decide | omega)) (by first | decide | omega)) (by first | decide | omega)) (by first | decide | omega)) (by first | decide | omega)) (by rfl) (by rfl) (by rfl) (by exact Nat.le_of_ble_eq_true rfl) rfl (by exact ⟨Nat.le_of_ble_eq_true rfl, Nat.le_of_ble_eq_true rfl⟩) (by first | exact ⟨Nat.le_of_ble_eq_true rfl, Nat.le_of_ble_eq_true rfl⟩ | (simp only [zrm]; omega)) (fun _ _ h => z_xno h) (fun r w4 hq => ?_)
          obtain ⟨rfl, g4, g5⟩ := hq
          have hY := g4
          obtain ⟨m20, m21, m22, m23, m24, m25, m26, m27, m28, m29, m30, m31, m32, m33, m34, m35, m36, m37, m38⟩ := g4.all
          have e7q : g1 7 k = nI q := by rw [e7]; exact hgq
          refine z_aload_n C dX3_leave_74 rfl ?_
          refine z_getf C zf_X3_53 dX3_leave_75 (by first | assumption | exact zk_eq | exact zk_ne (by first | assumption | exact zk_eq | exact zk_ne (by first | assumption | exact zk_eq | exact zk_ne (by first | assumption | exact zk_eq | exact zk_ne (by first | assumption | exact zk_eq | exact zk_ne (by first | assumption | exact zk_eq) (by first | decide | omega)) (by first | decide | omega)) (by first | decide | omega)) (by first | decide | omega)) (by first | decide | omega)) (by rfl) ?_
          refine z_iload C dX3_leave_78 rfl ?_
          refine z_iconst C (-1) dX3_leave_80 (by decide) ?_
          refine z_iast C dX3_leave_81 (by first | assumption | exact zk_eq | exact zk_ne (by first | assumption | exact zk_eq | exact zk_ne (by first | assumption | exact zk_eq | exact zk_ne (by first | assumption | exact zk_eq | exact zk_ne (by first | assumption | exact zk_eq | exact zk_ne (by first | assumption | exact zk_eq) (by first | decide | omega)) (by first | decide | omega)) (by first | decide | omega)) (by first | decide | omega)) (by first | decide | omega)) (by first | rfl | assumption) (by first | assumption | omega | decide) (by first | decide | omega) ?_
          refine z_aload_n C dX3_leave_82 rfl ?_
          refine z_iload_n C dX3_leave_83 rfl ?_
          refine z_putf C (fs1 := [_, _, _, _, _, _, _, _, _, _, _, _, _, _, _, _, _, _, _, _, _, _, _, _, _, _]) zp_X3_115 dX3_leave_84 (by first | assumption | exact zk_eq | exact zk_ne (by first | assumption | exact zk_eq | exact zk_ne (by first | assumption | exact zk_eq | exact zk_ne (by first | assumption | exact zk_eq | exact zk_ne (by first | assumption | exact zk_eq | exact zk_ne (by first | assumption | exact zk_eq) (by first | decide | omega)) (by first | decide | omega)) (by first | decide | omega)) (by first | decide | omega)) (by first | decide | omega)) (by first | rfl | exact zb_nar _ | assumption) (by first | rfl | exact zb_fit _ | assumption) (by exact Nat.le_of_ble_eq_true rfl) (by rfl) ?_
          refine z_iload C dX3_leave_87 rfl ?_
          refine z_iret C hret dX3_leave_89 (by first | exact Nat.le_of_ble_eq_true rfl | omega) (by first | exact Nat.le_of_ble_eq_true rfl | omega) ?_
          have hW := hA.wo (f := va_up f 25 0) (n := k) (t := y)
          refine ZQ.fin (M1 := (va_up (mWoG g k y) 14 (va_up (g 14) q (-1)), va_up (mWoF g1 (va_up f 25 0) k y) 19 y)) ?_ ⟨bd, va_up (mWoG g1 k y) 14 (va_up (g1 14) q (-1)), rfl, (hY.arr 14 (va_up (g1 14) q (-1))).obj (va_up (mWoF g1 (va_up f 25 0) k y) 19 y), hW.1.up (show va_up (g1 14) q (-1) = va_up (g 14) q (-1) by rw [hA 14 (by decide)])⟩ (((g3.tr g5).up (by decide) (by decide)).up (by decide) (by decide))
          simp only [mLeave, hk, hi, if_true, if_neg hgood, hcl, hW.2]
          rw [e7]
        · exact absurd c2 (by decide)
      | false =>
        rw [hi] at hX
        refine z_if_ne C 60 dX3_leave_55 (by decide) (fun c2 => ?_) (fun c2 => ?_)
        · exact absurd rfl c2
        · refine z_iconst C (0) dX3_leave_58 (by decide) ?_
          refine z_iret C hret dX3_leave_59 (by first | exact Nat.le_of_ble_eq_true rfl | omega) (by first | exact Nat.le_of_ble_eq_true rfl | omega) ?_
          exact ZQ.fin (M1 := (g, va_up f 25 2)) (by simp only [mLeave, hk, hi, Bool.false_eq_true, if_false]) ⟨bd, g1, rfl, hX, hA⟩ g3
end ZM5
