/-! HiringHallModel: its picture, its small methods. Rows by number: 0 numbers, 1 boards, 2 marks, 3 skills, 4 aways, 5 refusing, 6 been, 7 at, 8 since, 9 hours, 10 refusals, 11 costs, 12 guaranteed, 13 needs, 14 fillers, 15 turn, 16 taken, 17 open. Numbers by their field: 11 given, 12 mark, 17 places, 18 length, 19 hour, 20 worked, 21 begun, 25 last. -/
abbrev zMc (bd : Nat → Nat) (f : Nat → Int32) : va_E := .inr (4, [.ref (bd 21), .ref (bd 22), .ref (bd 23), .ref (bd 24), .ref (bd 25), .ref (bd 26), .ref (bd 27), .ref (bd 28), .ref (bd 29), .ref (bd 30), .ref (bd 31), .int (f 11), .int (f 12), .ref (bd 32), .ref (bd 33), .ref (bd 34), .ref (bd 35), .int (f 17), .int (f 18), .int (f 19), .int (f 20), .int (f 21), .ref (bd 36), .ref (bd 37), .ref (bd 38), .int (f 25)])
def mT (k : Nat) : Nat := if k = 4 ∨ k = 5 ∨ k = 6 ∨ k = 11 then 1 else 0
def mN (k : Nat) : Nat := if k < 11 then 30 else if k < 13 then 4 else if k < 15 then 16 else if k < 17 then 30 else 5
def MP (z : zT) (bd : Nat → Nat) (g : Nat → Nat → Int32) (f : Nat → Int32) (w : zW) : Prop :=
  w 20 = some (bd 20, zMc bd f) ∧ ∀ k : Nat, k < 18 → w (21 + k) = some (bd (21 + k), .inl (z.2.2.1 (mT k), mN k, .inl (g k)))
abbrev zMr (z : zT) (bd : Nat → Nat) (w : zW) (hd t n : Nat) (v : Nat → Int32) : Prop := w hd = some (bd hd, .inl (z.2.2.1 t, n, .inl v))
theorem MP.all {z : zT} {bd : Nat → Nat} {g : Nat → Nat → Int32} {f : Nat → Int32} {w : zW} (h : MP z bd g f w) : w 20 = some (bd 20, zMc bd f) ∧ zMr z bd w 21 0 30 (g 0) ∧ zMr z bd w 22 0 30 (g 1) ∧ zMr z bd w 23 0 30 (g 2) ∧ zMr z bd w 24 0 30 (g 3) ∧ zMr z bd w 25 1 30 (g 4) ∧ zMr z bd w 26 1 30 (g 5) ∧ zMr z bd w 27 1 30 (g 6) ∧ zMr z bd w 28 0 30 (g 7) ∧ zMr z bd w 29 0 30 (g 8) ∧ zMr z bd w 30 0 30 (g 9) ∧ zMr z bd w 31 0 30 (g 10) ∧ zMr z bd w 32 1 4 (g 11) ∧ zMr z bd w 33 0 4 (g 12) ∧ zMr z bd w 34 0 16 (g 13) ∧ zMr z bd w 35 0 16 (g 14) ∧ zMr z bd w 36 0 30 (g 15) ∧ zMr z bd w 37 0 30 (g 16) ∧ zMr z bd w 38 0 5 (g 17) :=
  ⟨h.1, h.2 0 (by decide), h.2 1 (by decide), h.2 2 (by decide), h.2 3 (by decide), h.2 4 (by decide), h.2 5 (by decide), h.2 6 (by decide), h.2 7 (by decide), h.2 8 (by decide), h.2 9 (by decide), h.2 10 (by decide), h.2 11 (by decide), h.2 12 (by decide), h.2 13 (by decide), h.2 14 (by decide), h.2 15 (by decide), h.2 16 (by decide), h.2 17 (by decide)⟩
theorem MP.arr {z : zT} {bd : Nat → Nat} {g : Nat → Nat → Int32} {f : Nat → Int32} {w : zW} (h : MP z bd g f w) (k : Nat) (v : Nat → Int32) : MP z bd (va_up g k v) f (va_up w (21 + k) (some (bd (21 + k), .inl (z.2.2.1 (mT k), mN k, .inl v)))) := by
  refine ⟨(va_up_ne _ _ (by omega)).trans h.1, fun j hj => ?_⟩
  by_cases e : j = k
  · subst e
    rw [va_up_self, va_up_self]
  · rw [va_up_ne _ _ e, va_up_ne _ _ (by omega)]
    exact h.2 j hj
theorem MP.obj {z : zT} {bd : Nat → Nat} {g : Nat → Nat → Int32} {f : Nat → Int32} {w : zW} (h : MP z bd g f w) (f1 : Nat → Int32) : MP z bd g f1 (va_up w 20 (some (bd 20, zMc bd f1))) := ⟨va_up_self _ _ _, fun j hj => (va_up_ne _ _ (by omega)).trans (h.2 j hj)⟩
/-- what the model's methods leave as it was -/
def zFm (w w1 : zW) : Prop := ∀ j : Nat, j < 20 ∨ 39 ≤ j → w1 j = w j
theorem zFm.refl (w : zW) : zFm w w := fun _ _ => rfl
theorem zFm.tr {w w1 w2 : zW} (h : zFm w w1) (h2 : zFm w1 w2) : zFm w w2 := fun j j1 => (h2 j j1).trans (h j j1)
theorem zFm.up {w w1 : zW} {k : Nat} {x : Option zE} (h : zFm w w1) (hk : 20 ≤ k) (hk2 : k < 39) : zFm w (va_up w1 k x) := fun j j1 => (va_up_ne _ _ (by omega)).trans (h j j1)
def gst (a b c : Bool) : Int32 := if a then if b then if c then 0 else 3 else 2 else 1
/-- where a worker is kept -/
def mKept (g : Nat → Nat → Int32) (x : Int32) : Option Nat := (List.range 30).find? (fun k => !decide (x < 0) && decide (g 0 k = x))
def mOcc (g : Nat → Nat → Int32) (k : Nat) : Bool := !decide (g 0 k = -1)
def mCnt (g : Nat → Nat → Int32) (i : Nat) : Nat := (List.range i).countP (mOcc g)
def mLow (g : Nat → Nat → Int32) (f : Nat → Int32) (k : Nat) : Nat → Nat → Int32 := va_up g 2 (va_up (g 2) k (f 12 + 1))
def mLoF (f : Nat → Int32) : Nat → Int32 := va_up f 12 (f 12 + 1)
def bef (g : Nat → Nat → Int32) (a b : Nat) : Bool := decide (g 1 a < g 1 b) || (decide (g 1 a = g 1 b) && decide (g 2 a < g 2 b))
def mRdy (g : Nat → Nat → Int32) (k : Nat) : Bool := mOcc g k && decide (g 4 k = 0) && decide (g 7 k = -1) && decide (g 6 k = 0)
def mRnk (g : Nat → Nat → Int32) (k i : Nat) : Nat := (List.range i).countP (fun j => mOcc g j && decide (g 1 j = g 1 k) && decide (g 2 j < g 2 k))
def mOwe (g : Nat → Nat → Int32) (k : Nat) : Int32 := if ¬ g 4 k = 0 ∨ 3 ≤ g 10 k ∨ g 12 (g 1 k).toNatClampNeg - g 9 k < 0 then 0 else g 12 (g 1 k).toNatClampNeg - g 9 k
theorem cntP_succ (p : Nat → Bool) (i : Nat) : (List.range (i + 1)).countP p = (List.range i).countP p + zN (p i) := by
  rw [List.range_succ, List.countP_append]
  simp [List.countP_cons, zN]
theorem cntP_le (p : Nat → Bool) (i : Nat) : (List.range i).countP p ≤ i := by
  have := List.countP_le_length (p := p) (l := List.range i)
  simpa using this
section ZM1
variable {l : Launch} {z : zT} {w : zW} {bd : Nat → Nat} {g : Nat → Nat → Int32} {f : Nat → Int32}
theorem m_thrown (hl : l.stackTraces = false) (h : MP z bd g f w) : ZM l z mX3_thrown 0 0 0 [.ref (bd 20)] w (fun r w1 => r = some (.int (f 25)) ∧ w1 = w) zNo := by
  obtain ⟨m20, m21, m22, m23, m24, m25, m26, m27, m28, m29, m30, m31, m32, m33, m34, m35, m36, m37, m38⟩ := h.all
  refine zbody (M := mX3_thrown) (L0 := [_]) hl (by simp [Value.category]) (Nat.le_of_ble_eq_true rfl) (by decide +kernel) rfl ?_
  intro p e s m args below meth c C hX hnm hret
  replace C : zC z p l s m args meth c cX3_thrown RX3 1 := C
  replace hret : meth.sig.returnType = (some .int) := hret
  refine z_aload_n C dX3_thrown_0 rfl ?_
  refine z_getf C zf_X3_69 dX3_thrown_1 (by first | assumption | exact zk_eq | exact zk_ne (by first | assumption | exact zk_eq | exact zk_ne (by first | assumption | exact zk_eq | exact zk_ne (by first | assumption | exact zk_eq | exact zk_ne (by first | assumption | exact zk_eq | exact zk_ne (by first | assumption | exact zk_eq) (by first | decide | omega)) (by first | decide | omega)) (by first | decide | omega)) (by first | decide | omega)) (by first | decide | omega)) (by rfl) ?_
  refine z_iret C hret dX3_thrown_4 (by first | exact Nat.le_of_ble_eq_true rfl | omega) (by first | exact Nat.le_of_ble_eq_true rfl | omega) ?_
  exact ⟨rfl, rfl⟩
theorem m_in (hl : l.stackTraces = false) (x y v : Int32) : ZM l z mX3_in 0 0 0 [.int x, .int y, .int v] w (fun r w1 => r = some (.int (zb (!decide (x < y) && !decide (v < x)))) ∧ w1 = w) zNo := by
  refine zbody (M := mX3_in) (L0 := [_, _, _]) hl (by simp [Value.category]) (Nat.le_of_ble_eq_true rfl) (by decide +kernel) rfl ?_
  intro p e s m args below meth c C hX hnm hret
  replace C : zC z p l s m args meth c cX3_in RX3 3 := C
  replace hret : meth.sig.returnType = (some .boolean) := hret
  refine z_iload_n C dX3_in_0 rfl ?_
  refine z_iload_n C dX3_in_1 rfl ?_
  refine z_icmp_lt C 14 dX3_in_2 (by decide) (fun c1 => ?_) (fun c1 => ?_)
  · refine z_iconst C (0) dX3_in_14 (by decide) ?_
    refine z_zret C hret dX3_in_15 (by first | rfl | exact zb_nar _ | assumption) (by first | exact Nat.le_of_ble_eq_true rfl | omega) (by first | exact Nat.le_of_ble_eq_true rfl | omega) ?_
    exact ⟨by simp [c1, zb], rfl⟩
  refine z_iload_n C dX3_in_5 rfl ?_
  refine z_iload_n C dX3_in_6 rfl ?_
  refine z_icmp_gt C 14 dX3_in_7 (by decide) (fun c2 => ?_) (fun c2 => ?_)
  · refine z_iconst C (0) dX3_in_14 (by decide) ?_
    refine z_zret C hret dX3_in_15 (by first | rfl | exact zb_nar _ | assumption) (by first | exact Nat.le_of_ble_eq_true rfl | omega) (by first | exact Nat.le_of_ble_eq_true rfl | omega) ?_
    exact ⟨by simp [c2, zb], rfl⟩
  · refine z_iconst C (1) dX3_in_10 (by decide) ?_
    refine z_goto C 15 dX3_in_11 (by decide) ?_
    refine z_zret C hret dX3_in_15 (by first | rfl | exact zb_nar _ | assumption) (by first | exact Nat.le_of_ble_eq_true rfl | omega) (by first | exact Nat.le_of_ble_eq_true rfl | omega) ?_
    exact ⟨by simp [c1, c2, zb], rfl⟩
theorem m_goes (hl : l.stackTraces = false) (h : MP z bd g f w) (a b v : Bool) : ZM l z mX3_goes 0 0 0 [.ref (bd 20), .int (zb a), .int (zb b), .int (zb v)] w (fun r w1 => r = some (.int (zb (a && b && v))) ∧ MP z bd g (va_up f 25 (gst a b v)) w1 ∧ zFm w w1) zNo := by
  obtain ⟨m20, m21, m22, m23, m24, m25, m26, m27, m28, m29, m30, m31, m32, m33, m34, m35, m36, m37, m38⟩ := h.all
  have tail : ∀ (x : Int32), x = gst a b v → ∀ {p e s m args below meth c} (C : zC z p l s m args meth c cX3_goes RX3 4) (hX : ∀ x ∈ c.exceptionTable.toList, False) (hret : meth.sig.returnType = some .boolean), ZJ z p l e (zrm 0 0 0) s m args below meth c (vx_MQ below (zQc z (fun r w1 => r = some (.int (zb (a && b && v))) ∧ MP z bd g (va_up f 25 (gst a b v)) w1 ∧ zFm w w1)) (zXC z zNo) args s 0 0 (zA z)) 0 0 26 [some (.ref (bd 20)), some (.int (zb a)), some (.int (zb b)), some (.int (zb v))] [.int x, .ref (bd 20)] w := by
    intro x hx p e s m args below meth c C hX hret
    subst hx
    refine z_putf C (fs1 := [_, _, _, _, _, _, _, _, _, _, _, _, _, _, _, _, _, _, _, _, _, _, _, _, _, _]) zp_X3_69 dX3_goes_26 (by first | assumption | exact zk_eq | exact zk_ne (by first | assumption | exact zk_eq | exact zk_ne (by first | assumption | exact zk_eq | exact zk_ne (by first | assumption | exact zk_eq | exact zk_ne (by first | assumption | exact zk_eq | exact zk_ne (by first | assumption | exact zk_eq) (by first | decide | omega)) (by first | decide | omega)) (by first | decide | omega)) (by first | decide | omega)) (by first | decide | omega)) (by first | rfl | exact zb_nar _ | assumption) (by first | rfl | exact zb_fit _ | assumption) (by exact Nat.le_of_ble_eq_true rfl) (by rfl) ?_
    refine z_aload_n C dX3_goes_29 rfl ?_
    refine z_getf C zf_X3_69 dX3_goes_30 (by first | assumption | exact zk_eq | exact zk_ne (by first | assumption | exact zk_eq | exact zk_ne (by first | assumption | exact zk_eq | exact zk_ne (by first | assumption | exact zk_eq | exact zk_ne (by first | assumption | exact zk_eq | exact zk_ne (by first | assumption | exact zk_eq) (by first | decide | omega)) (by first | decide | omega)) (by first | decide | omega)) (by first | decide | omega)) (by first | decide | omega)) (by rfl) ?_
    refine z_if_ne C 40 dX3_goes_33 (by decide) (fun c1 => ?_) (fun c1 => ?_)
    · refine z_iconst C (0) dX3_goes_40 (by decide) ?_
      refine z_zret C hret dX3_goes_41 (by first | rfl | exact zb_nar _ | assumption) (by first | exact Nat.le_of_ble_eq_true rfl | omega) (by first | exact Nat.le_of_ble_eq_true rfl | omega) ?_
      refine ⟨?_, h.obj (va_up f 25 (gst a b v)), (zFm.refl w).up (by decide) (by decide)⟩
      cases a <;> cases b <;> cases v <;> first | rfl | exact absurd rfl c1
    · refine z_iconst C (1) dX3_goes_36 (by decide) ?_
      refine z_goto C 41 dX3_goes_37 (by decide) ?_
      refine z_zret C hret dX3_goes_41 (by first | rfl | exact zb_nar _ | assumption) (by first | exact Nat.le_of_ble_eq_true rfl | omega) (by first | exact Nat.le_of_ble_eq_true rfl | omega) ?_
      refine ⟨?_, h.obj (va_up f 25 (gst a b v)), (zFm.refl w).up (by decide) (by decide)⟩
      cases a <;> cases b <;> cases v <;> first | rfl | (exact absurd c1 (by decide))
  refine zbody (M := mX3_goes) (L0 := [_, _, _, _]) hl (by simp [Value.category]) (Nat.le_of_ble_eq_true rfl) (by decide +kernel) rfl ?_
  intro p e s m args below meth c C hX hnm hret
  replace C : zC z p l s m args meth c cX3_goes RX3 4 := C
  replace hret : meth.sig.returnType = (some .boolean) := hret
  refine z_aload_n C dX3_goes_0 rfl ?_
  refine z_iload_n C dX3_goes_1 rfl ?_
  refine z_if_ne C 9 dX3_goes_2 (by decide) (fun c1 => ?_) (fun c1 => ?_)
  · have a1 := zb_tt c1
    refine z_iload_n C dX3_goes_9 rfl ?_
    refine z_if_ne C 17 dX3_goes_10 (by decide) (fun c2 => ?_) (fun c2 => ?_)
    · have a2 := zb_tt c2
      refine z_iload_n C dX3_goes_17 rfl ?_
      refine z_if_eq C 25 dX3_goes_18 (by decide) (fun c3 => ?_) (fun c3 => ?_)
      · have a3 := zb_eq0.mp c3
        refine z_iconst C (3) dX3_goes_25 (by decide) ?_
        exact tail _ (by rw [a1, a2, a3]; rfl) C hX hret
      · have a3 := zb_tt c3
        refine z_iconst C (0) dX3_goes_21 (by decide) ?_
        refine z_goto C 26 dX3_goes_22 (by decide) ?_
        exact tail _ (by rw [a1, a2, a3]; rfl) C hX hret
    · have a2 := zb_eq0.mp c2
      refine z_iconst C (2) dX3_goes_13 (by decide) ?_
      refine z_goto C 26 dX3_goes_14 (by decide) ?_
      exact tail _ (by rw [a1, a2]; rfl) C hX hret
  · have a1 := zb_eq0.mp c1
    refine z_iconst C (1) dX3_goes_5 (by decide) ?_
    refine z_goto C 26 dX3_goes_6 (by decide) ?_
    exact tail _ (by rw [a1]; rfl) C hX hret
theorem m_isBoard (hl : l.stackTraces = false) (x : Int32) : ZM l z mX3_isBoard 1 0 0 [.int x] w (fun r w1 => r = some (.int (zb (!decide (x < 0) && !decide (3 < x)))) ∧ w1 = w) zNo := by
  refine zbody (M := mX3_isBoard) (L0 := [_]) hl (by simp [Value.category]) (Nat.le_of_ble_eq_true rfl) (by decide +kernel) rfl ?_
  intro p e s m args below meth c C hX hnm hret
  replace C : zC z p l s m args meth c cX3_isBoard RX3 1 := C
  replace hret : meth.sig.returnType = (some .boolean) := hret
  refine z_iload_n C dX3_isBoard_0 rfl ?_
  refine z_iconst C (0) dX3_isBoard_1 (by decide) ?_
  refine z_iconst C (3) dX3_isBoard_2 (by decide) ?_
  refine z_callS C zm_X3_in zl_X3_72 (m_in hl x 0 3) dX3_isBoard_3 (by rfl) (by rfl) (by exact Nat.le_of_ble_eq_true rfl) rfl (by exact ⟨Nat.le_of_ble_eq_true rfl, Nat.le_of_ble_eq_true rfl⟩) (by first | exact ⟨Nat.le_of_ble_eq_true rfl, Nat.le_of_ble_eq_true rfl⟩ | (simp only [zrm]; omega)) (fun _ _ h => z_xno h) (fun r w1 hq => ?_)
  obtain ⟨rfl, rfl⟩ := hq
  refine z_zret C hret dX3_isBoard_6 (by first | rfl | exact zb_nar _ | assumption) (by first | exact Nat.le_of_ble_eq_true rfl | omega) (by first | exact Nat.le_of_ble_eq_true rfl | omega) ?_
  exact ⟨rfl, rfl⟩
theorem m_kept (hl : l.stackTraces = false) (h : MP z bd g f w) (x : Int32) : ZM l z mX3_kept 0 0 0 [.ref (bd 20), .int x] w (fun r w1 => r = some (.int (match mKept g x with | some k => nI k | none => -1)) ∧ w1 = w) zNo := by
  obtain ⟨m20, m21, m22, m23, m24, m25, m26, m27, m28, m29, m30, m31, m32, m33, m34, m35, m36, m37, m38⟩ := h.all
  refine zbody (M := mX3_kept) (L0 := [_, _, _]) hl (by simp [Value.category]) (Nat.le_of_ble_eq_true rfl) (by decide +kernel) rfl ?_
  intro p e s m args below meth c C hX hnm hret
  replace C : zC z p l s m args meth c cX3_kept RX3 3 := C
  replace hret : meth.sig.returnType = (some .int) := hret
  refine z_iconst C (0) dX3_kept_0 (by decide) ?_
  refine z_istore_n C (L1 := [_, _, _]) dX3_kept_1 (Nat.le_of_ble_eq_true rfl) rfl ?_
  refine z_ind (σ := Nat) (fun i => i ≤ 30 ∧ mKept g x = ((List.range 30).drop i).find? (fun k => !decide (x < 0) && decide (g 0 k = x))) (fun i => 30 - i) (fun _ => 0) (fun _ => 0)
    (fun i => [some (.ref (bd 20)), some (.int x), some (.int (nI i))]) (fun _ => w) 0 ⟨Nat.zero_le _, rfl⟩ ?_
  rintro i ⟨q1, q2⟩ ih
  refine z_iload_n C dX3_kept_2 rfl ?_
  refine z_bipush C (30) dX3_kept_3 (by decide) ?_
  refine z_icmp_ge C 30 dX3_kept_5 (by decide) (fun c1 => ?_) (fun c1 => ?_)
  · have hi2 : 30 ≤ i := ge_of_ge (by omega) (by omega) c1
    refine z_iconst C (-1) dX3_kept_30 (by decide) ?_
    refine z_iret C hret dX3_kept_31 (by first | exact Nat.le_of_ble_eq_true rfl | omega) (by first | exact Nat.le_of_ble_eq_true rfl | omega) ?_
    rw [q2, List.drop_eq_nil_of_le (by simpa using hi2)]
    exact ⟨rfl, rfl⟩
  have hi2 : i < 30 := lt_of_nge (by omega) (by omega) c1
  rw [find_drop _ _ _ (by simpa using hi2), List.getElem_range] at q2
  refine z_iload_n C dX3_kept_8 rfl ?_
  refine z_if_lt C 24 dX3_kept_9 (by decide) (fun c2 => ?_) (fun c2 => ?_)
  · refine z_iinc C (L1 := [_, _, _]) _ dX3_kept_24 rfl (by first | exact zinc | rfl) rfl ?_
    refine z_goto C 2 dX3_kept_27 (by decide) ?_
    refine ih (i + 1) ⟨hi2, ?_⟩ (by show 30 - (i + 1) < 30 - i; omega)
    rw [q2, if_neg (by simp [c2])]
  refine z_aload_n C dX3_kept_12 rfl ?_
  refine z_getf C zf_X3_7 dX3_kept_13 (by first | assumption | exact zk_eq | exact zk_ne (by first | assumption | exact zk_eq | exact zk_ne (by first | assumption | exact zk_eq | exact zk_ne (by first | assumption | exact zk_eq | exact zk_ne (by first | assumption | exact zk_eq | exact zk_ne (by first | assumption | exact zk_eq) (by first | decide | omega)) (by first | decide | omega)) (by first | decide | omega)) (by first | decide | omega)) (by first | decide | omega)) (by rfl) ?_
  refine z_iload_n C dX3_kept_16 rfl ?_
  refine z_iald C dX3_kept_17 (by first | assumption | exact zk_eq | exact zk_ne (by first | assumption | exact zk_eq | exact zk_ne (by first | assumption | exact zk_eq | exact zk_ne (by first | assumption | exact zk_eq | exact zk_ne (by first | assumption | exact zk_eq | exact zk_ne (by first | assumption | exact zk_eq) (by first | decide | omega)) (by first | decide | omega)) (by first | decide | omega)) (by first | decide | omega)) (by first | decide | omega)) (by first | rfl | assumption) (by first | assumption | omega | decide) (by first | decide | omega) ?_
  refine z_iload_n C dX3_kept_18 rfl ?_
  refine z_icmp_ne C 24 dX3_kept_19 (by decide) (fun c3 => ?_) (fun c3 => ?_)
  · refine z_iinc C (L1 := [_, _, _]) _ dX3_kept_24 rfl (by first | exact zinc | rfl) rfl ?_
    refine z_goto C 2 dX3_kept_27 (by decide) ?_
    refine ih (i + 1) ⟨hi2, ?_⟩ (by show 30 - (i + 1) < 30 - i; omega)
    rw [q2, if_neg (by simp [c3])]
  · refine z_iload_n C dX3_kept_22 rfl ?_
    refine z_iret C hret dX3_kept_23 (by first | exact Nat.le_of_ble_eq_true rfl | omega) (by first | exact Nat.le_of_ble_eq_true rfl | omega) ?_
    rw [q2, if_pos (by simp [c2, c3])]
    exact ⟨rfl, rfl⟩
theorem m_count (hl : l.stackTraces = false) (h : MP z bd g f w) : ZM l z mX3_count 0 0 0 [.ref (bd 20)] w (fun r w1 => r = some (.int (nI (mCnt g 30))) ∧ w1 = w) zNo := by
  obtain ⟨m20, m21, m22, m23, m24, m25, m26, m27, m28, m29, m30, m31, m32, m33, m34, m35, m36, m37, m38⟩ := h.all
  refine zbody (M := mX3_count) (L0 := [_, _, _]) hl (by simp [Value.category]) (Nat.le_of_ble_eq_true rfl) (by decide +kernel) rfl ?_
  intro p e s m args below meth c C hX hnm hret
  replace C : zC z p l s m args meth c cX3_count RX3 3 := C
  replace hret : meth.sig.returnType = (some .int) := hret
  refine z_iconst C (0) dX3_count_0 (by decide) ?_
  refine z_istore_n C (L1 := [_, _, _]) dX3_count_1 (Nat.le_of_ble_eq_true rfl) rfl ?_
  refine z_iconst C (0) dX3_count_2 (by decide) ?_
  refine z_istore_n C (L1 := [_, _, _]) dX3_count_3 (Nat.le_of_ble_eq_true rfl) rfl ?_
  refine z_ind (σ := Nat) (fun i => i ≤ 30) (fun i => 30 - i) (fun _ => 0) (fun _ => 0)
    (fun i => [some (.ref (bd 20)), some (.int (nI (mCnt g i))), some (.int (nI i))]) (fun _ => w) 0 (Nat.zero_le _) ?_
  rintro i q1 ih
  try dsimp only at q1 ih ⊢
  have hle : mCnt g i ≤ i := cntP_le _ _
  have hsu : mCnt g (i + 1) = mCnt g i + zN (mOcc g i) := cntP_succ _ _
  refine z_iload_n C dX3_count_4 rfl ?_
  refine z_bipush C (30) dX3_count_5 (by decide) ?_
  refine z_icmp_ge C 34 dX3_count_7 (by decide) (fun c1 => ?_) (fun c1 => ?_)
  · have hi2 : i = 30 := Nat.le_antisymm q1 (ge_of_ge (by omega) (by omega) c1)
    subst hi2
    refine z_iload_n C dX3_count_34 rfl ?_
    refine z_iret C hret dX3_count_35 (by first | exact Nat.le_of_ble_eq_true rfl | omega) (by first | exact Nat.le_of_ble_eq_true rfl | omega) ?_
    exact ⟨rfl, rfl⟩
  have hi2 : i < 30 := lt_of_nge (by omega) (by omega) c1
  have fin := ih (i + 1) hi2 (by omega)
  rw [hsu] at fin
  refine z_iload_n C dX3_count_10 rfl ?_
  refine z_aload_n C dX3_count_11 rfl ?_
  refine z_getf C zf_X3_7 dX3_count_12 (by first | assumption | exact zk_eq | exact zk_ne (by first | assumption | exact zk_eq | exact zk_ne (by first | assumption | exact zk_eq | exact zk_ne (by first | assumption | exact zk_eq | exact zk_ne (by first | assumption | exact zk_eq | exact zk_ne (by first | assumption | exact zk_eq) (by first | decide | omega)) (by first | decide | omega)) (by first | decide | omega)) (by first | decide | omega)) (by first | decide | omega)) (by rfl) ?_
  refine z_iload_n C dX3_count_15 rfl ?_
  refine z_iald C dX3_count_16 (by first | assumption | exact zk_eq | exact zk_ne (by first | assumption | exact zk_eq | exact zk_ne (by first | assumption | exact zk_eq | exact zk_ne (by first | assumption | exact zk_eq | exact zk_ne (by first | assumption | exact zk_eq | exact zk_ne (by first | assumption | exact zk_eq) (by first | decide | omega)) (by first | decide | omega)) (by first | decide | omega)) (by first | decide | omega)) (by first | decide | omega)) (by first | rfl | assumption) (by first | assumption | omega | decide) (by first | decide | omega) ?_
  refine z_iconst C (-1) dX3_count_17 (by decide) ?_
  refine z_icmp_ne C 25 dX3_count_18 (by decide) (fun c2 => ?_) (fun c2 => ?_)
  · rw [show zN (mOcc g i) = 1 by simp [mOcc, c2, zN]] at fin
    refine z_iconst C (1) dX3_count_25 (by decide) ?_
    refine z_iadd C dX3_count_26 ?_
    rw [show (nI (mCnt g i) + 1) = nI (mCnt g i + 1) from nI_1 _]
    refine z_istore_n C (L1 := [_, _, _]) dX3_count_27 (Nat.le_of_ble_eq_true rfl) rfl ?_
    refine z_iinc C (L1 := [_, _, _]) _ dX3_count_28 rfl (by first | exact zinc | rfl) rfl ?_
    refine z_goto C 4 dX3_count_31 (by decide) ?_
    exact fin
  · rw [show zN (mOcc g i) = 0 by simp [mOcc, c2, zN]] at fin
    refine z_iconst C (0) dX3_count_21 (by decide) ?_
    refine z_goto C 26 dX3_count_22 (by decide) ?_
    refine z_iadd C dX3_count_26 ?_
    rw [show (nI (mCnt g i) + 0) = nI (mCnt g i) by simp]
    refine z_istore_n C (L1 := [_, _, _]) dX3_count_27 (Nat.le_of_ble_eq_true rfl) rfl ?_
    refine z_iinc C (L1 := [_, _, _]) _ dX3_count_28 rfl (by first | exact zinc | rfl) rfl ?_
    refine z_goto C 4 dX3_count_31 (by decide) ?_
    exact fin
theorem m_lowers (hl : l.stackTraces = false) (h : MP z bd g f w) {k : Nat} (hk : k < 30) : ZM l z mX3_lowers 0 0 0 [.ref (bd 20), .int (nI k)] w (fun r w1 => r = none ∧ MP z bd (mLow g f k) (mLoF f) w1 ∧ zFm w w1) zNo := by
  obtain ⟨m20, m21, m22, m23, m24, m25, m26, m27, m28, m29, m30, m31, m32, m33, m34, m35, m36, m37, m38⟩ := h.all
  refine zbody (M := mX3_lowers) (L0 := [_, _]) hl (by simp [Value.category]) (Nat.le_of_ble_eq_true rfl) (by decide +kernel) rfl ?_
  intro p e s m args below meth c C hX hnm hret
  replace C : zC z p l s m args meth c cX3_lowers RX3 2 := C
  replace hret : meth.sig.returnType = none := hret
  refine z_aload_n C dX3_lowers_0 rfl ?_
  refine z_dup C dX3_lowers_1 rfl ?_
  refine z_getf C zf_X3_76 dX3_lowers_2 (by first | assumption | exact zk_eq | exact zk_ne (by first | assumption | exact zk_eq | exact zk_ne (by first | assumption | exact zk_eq | exact zk_ne (by first | assumption | exact zk_eq | exact zk_ne (by first | assumption | exact zk_eq | exact zk_ne (by first | assumption | exact zk_eq) (by first | decide | omega)) (by first | decide | omega)) (by first | decide | omega)) (by first | decide | omega)) (by first | decide | omega)) (by rfl) ?_
  refine z_iconst C (1) dX3_lowers_5 (by decide) ?_
  refine z_iadd C dX3_lowers_6 ?_
  refine z_putf C (fs1 := [_, _, _, _, _, _, _, _, _, _, _, _, _, _, _, _, _, _, _, _, _, _, _, _, _, _]) zp_X3_76 dX3_lowers_7 (by first | assumption | exact zk_eq | exact zk_ne (by first | assumption | exact zk_eq | exact zk_ne (by first | assumption | exact zk_eq | exact zk_ne (by first | assumption | exact zk_eq | exact zk_ne (by first | assumption | exact zk_eq | exact zk_ne (by first | assumption | exact zk_eq) (by first | decide | omega)) (by first | decide | omega)) (by first | decide | omega)) (by first | decide | omega)) (by first | decide | omega)) (by first | rfl | exact zb_nar _ | assumption) (by first | rfl | exact zb_fit _ | assumption) (by exact Nat.le_of_ble_eq_true rfl) (by rfl) ?_
  refine z_aload_n C dX3_lowers_10 rfl ?_
  refine z_getf C zf_X3_16 dX3_lowers_11 (by first | assumption | exact zk_eq | exact zk_ne (by first | assumption | exact zk_eq | exact zk_ne (by first | assumption | exact zk_eq | exact zk_ne (by first | assumption | exact zk_eq | exact zk_ne (by first | assumption | exact zk_eq | exact zk_ne (by first | assumption | exact zk_eq) (by first | decide | omega)) (by first | decide | omega)) (by first | decide | omega)) (by first | decide | omega)) (by first | decide | omega)) (by rfl) ?_
  refine z_iload_n C dX3_lowers_14 rfl ?_
  refine z_aload_n C dX3_lowers_15 rfl ?_
  refine z_getf C zf_X3_76 dX3_lowers_16 (by first | assumption | exact zk_eq | exact zk_ne (by first | assumption | exact zk_eq | exact zk_ne (by first | assumption | exact zk_eq | exact zk_ne (by first | assumption | exact zk_eq | exact zk_ne (by first | assumption | exact zk_eq | exact zk_ne (by first | assumption | exact zk_eq) (by first | decide | omega)) (by first | decide | omega)) (by first | decide | omega)) (by first | decide | omega)) (by first | decide | omega)) (by rfl) ?_
  refine z_iast C dX3_lowers_19 (by first | assumption | exact zk_eq | exact zk_ne (by first | assumption | exact zk_eq | exact zk_ne (by first | assumption | exact zk_eq | exact zk_ne (by first | assumption | exact zk_eq | exact zk_ne (by first | assumption | exact zk_eq | exact zk_ne (by first | assumption | exact zk_eq) (by first | decide | omega)) (by first | decide | omega)) (by first | decide | omega)) (by first | decide | omega)) (by first | decide | omega)) (by first | rfl | assumption) (by first | assumption | omega | decide) (by first | decide | omega) ?_
  refine z_vret C hret dX3_lowers_20 (by first | exact Nat.le_of_ble_eq_true rfl | omega) (by first | exact Nat.le_of_ble_eq_true rfl | omega) ?_
  exact ⟨rfl, (h.obj (mLoF f)).arr 2 (va_up (g 2) k (f 12 + 1)), ((zFm.refl w).up (by decide) (by decide)).up (by decide) (by decide)⟩
theorem m_isBefore (hl : l.stackTraces = false) (h : MP z bd g f w) {a b : Nat} (ha : a < 30) (hb : b < 30) : ZM l z mX3_isBefore 0 0 0 [.ref (bd 20), .int (nI a), .int (nI b)] w (fun r w1 => r = some (.int (zb (bef g a b))) ∧ w1 = w) zNo := by
  obtain ⟨m20, m21, m22, m23, m24, m25, m26, m27, m28, m29, m30, m31, m32, m33, m34, m35, m36, m37, m38⟩ := h.all
  refine zbody (M := mX3_isBefore) (L0 := [_, _, _]) hl (by simp [Value.category]) (Nat.le_of_ble_eq_true rfl) (by decide +kernel) rfl ?_
  intro p e s m args below meth c C hX hnm hret
  replace C : zC z p l s m args meth c cX3_isBefore RX3 3 := C
  replace hret : meth.sig.returnType = (some .boolean) := hret
  refine z_aload_n C dX3_isBefore_0 rfl ?_
  refine z_getf C zf_X3_13 dX3_isBefore_1 (by first | assumption | exact zk_eq | exact zk_ne (by first | assumption | exact zk_eq | exact zk_ne (by first | assumption | exact zk_eq | exact zk_ne (by first | assumption | exact zk_eq | exact zk_ne (by first | assumption | exact zk_eq | exact zk_ne (by first | assumption | exact zk_eq) (by first | decide | omega)) (by first | decide | omega)) (by first | decide | omega)) (by first | decide | omega)) (by first | decide | omega)) (by rfl) ?_
  refine z_iload_n C dX3_isBefore_4 rfl ?_
  refine z_iald C dX3_isBefore_5 (by first | assumption | exact zk_eq | exact zk_ne (by first | assumption | exact zk_eq | exact zk_ne (by first | assumption | exact zk_eq | exact zk_ne (by first | assumption | exact zk_eq | exact zk_ne (by first | assumption | exact zk_eq | exact zk_ne (by first | assumption | exact zk_eq) (by first | decide | omega)) (by first | decide | omega)) (by first | decide | omega)) (by first | decide | omega)) (by first | decide | omega)) (by first | rfl | assumption) (by first | assumption | omega | decide) (by first | decide | omega) ?_
  refine z_aload_n C dX3_isBefore_6 rfl ?_
  refine z_getf C zf_X3_13 dX3_isBefore_7 (by first | assumption | exact zk_eq | exact zk_ne (by first | assumption | exact zk_eq | exact zk_ne (by first | assumption | exact zk_eq | exact zk_ne (by first | assumption | exact zk_eq | exact zk_ne (by first | assumption | exact zk_eq | exact zk_ne (by first | assumption | exact zk_eq) (by first | decide | omega)) (by first | decide | omega)) (by first | decide | omega)) (by first | decide | omega)) (by first | decide | omega)) (by rfl) ?_
  refine z_iload_n C dX3_isBefore_10 rfl ?_
  refine z_iald C dX3_isBefore_11 (by first | assumption | exact zk_eq | exact zk_ne (by first | assumption | exact zk_eq | exact zk_ne (by first | assumption | exact zk_eq | exact zk_ne (by first | assumption | exact zk_eq | exact zk_ne (by first | assumption | exact zk_eq | exact zk_ne (by first | assumption | exact zk_eq) (by first | decide | omega)) (by first | decide | omega)) (by first | decide | omega)) (by first | decide | omega)) (by first | decide | omega)) (by first | rfl | assumption) (by first | assumption | omega | decide) (by first | decide | omega) ?_
  refine z_icmp_lt C 45 dX3_isBefore_12 (by decide) (fun c1 => ?_) (fun c1 => ?_)
  · refine z_iconst C (1) dX3_isBefore_45 (by decide) ?_
    refine z_goto C 50 dX3_isBefore_46 (by decide) ?_
    refine z_zret C hret dX3_isBefore_50 (by first | rfl | exact zb_nar _ | assumption) (by first | exact Nat.le_of_ble_eq_true rfl | omega) (by first | exact Nat.le_of_ble_eq_true rfl | omega) ?_
    exact ⟨by simp [bef, c1, zb], rfl⟩
  refine z_aload_n C dX3_isBefore_15 rfl ?_
  refine z_getf C zf_X3_13 dX3_isBefore_16 (by first | assumption | exact zk_eq | exact zk_ne (by first | assumption | exact zk_eq | exact zk_ne (by first | assumption | exact zk_eq | exact zk_ne (by first | assumption | exact zk_eq | exact zk_ne (by first | assumption | exact zk_eq | exact zk_ne (by first | assumption | exact zk_eq) (by first | decide | omega)) (by first | decide | omega)) (by first | decide | omega)) (by first | decide | omega)) (by first | decide | omega)) (by rfl) ?_
  refine z_iload_n C dX3_isBefore_19 rfl ?_
  refine z_iald C dX3_isBefore_20 (by first | assumption | exact zk_eq | exact zk_ne (by first | assumption | exact zk_eq | exact zk_ne (by first | assumption | exact zk_eq | exact zk_ne (by first | assumption | exact zk_eq | exact zk_ne (by first | assumption | exact zk_eq | exact zk_ne (by first | assumption | exact zk_eq) (by first | decide | omega)) (by first | decide | omega)) (by first | decide | omega)) (by first | decide | omega)) (by first | decide | omega)) (by first | rfl | assumption) (by first | assumption | omega | decide) (by first | decide | omega) ?_
  refine z_aload_n C dX3_isBefore_21 rfl ?_
  refine z_getf C zf_X3_13 dX3_isBefore_22 (by first | assumption | exact zk_eq | exact zk_ne (by first | assumption | exact zk_eq | exact zk_ne (by first | assumption | exact zk_eq | exact zk_ne (by first | assumption | exact zk_eq | exact zk_ne (by first | assumption | exact zk_eq | exact zk_ne (by first | assumption | exact zk_eq) (by first | decide | omega)) (by first | decide | omega)) (by first | decide | omega)) (by first | decide | omega)) (by first | decide | omega)) (by rfl) ?_
  refine z_iload_n C dX3_isBefore_25 rfl ?_
  refine z_iald C dX3_isBefore_26 (by first | assumption | exact zk_eq | exact zk_ne (by first | assumption | exact zk_eq | exact zk_ne (by first | assumption | exact zk_eq | exact zk_ne (by first | assumption | exact zk_eq | exact zk_ne (by first | assumption | exact zk_eq | exact zk_ne (by first | assumption | exact zk_eq) (by first | decide | omega)) (by first | decide | omega)) (by first | decide | omega)) (by first | decide | omega)) (by first | decide | omega)) (by first | rfl | assumption) (by first | assumption | omega | decide) (by first | decide | omega) ?_
  refine z_icmp_ne C 49 dX3_isBefore_27 (by decide) (fun c2 => ?_) (fun c2 => ?_)
  · refine z_iconst C (0) dX3_isBefore_49 (by decide) ?_
    refine z_zret C hret dX3_isBefore_50 (by first | rfl | exact zb_nar _ | assumption) (by first | exact Nat.le_of_ble_eq_true rfl | omega) (by first | exact Nat.le_of_ble_eq_true rfl | omega) ?_
    exact ⟨by simp [bef, c1, c2, zb], rfl⟩
  refine z_aload_n C dX3_isBefore_30 rfl ?_
  refine z_getf C zf_X3_16 dX3_isBefore_31 (by first | assumption | exact zk_eq | exact zk_ne (by first | assumption | exact zk_eq | exact zk_ne (by first | assumption | exact zk_eq | exact zk_ne (by first | assumption | exact zk_eq | exact zk_ne (by first | assumption | exact zk_eq | exact zk_ne (by first | assumption | exact zk_eq) (by first | decide | omega)) (by first | decide | omega)) (by first | decide | omega)) (by first | decide | omega)) (by first | decide | omega)) (by rfl) ?_
  refine z_iload_n C dX3_isBefore_34 rfl ?_
  refine z_iald C dX3_isBefore_35 (by first | assumption | exact zk_eq | exact zk_ne (by first | assumption | exact zk_eq | exact zk_ne (by first | assumption | exact zk_eq | exact zk_ne (by first | assumption | exact zk_eq | exact zk_ne (by first | assumption | exact zk_eq | exact zk_ne (by first | assumption | exact zk_eq) (by first | decide | omega)) (by first | decide | omega)) (by first | decide | omega)) (by first | decide | omega)) (by first | decide | omega)) (by first | rfl | assumption) (by first | assumption | omega | decide) (by first | decide | omega) ?_
  refine z_aload_n C dX3_isBefore_36 rfl ?_
  refine z_getf C zf_X3_16 dX3_isBefore_37 (by first | assumption | exact zk_eq | exact zk_ne (by first | assumption | exact zk_eq | exact zk_ne (by first | assumption | exact zk_eq | exact zk_ne (by first | assumption | exact zk_eq | exact zk_ne (by first | assumption | exact zk_eq | exact zk_ne (by first | assumption | exact zk_eq) (by first | decide | omega)) (by first | decide | omega)) (by first | decide | omega)) (by first | decide | omega)) (by first | decide | omega)) (by rfl) ?_
  refine z_iload_n C dX3_isBefore_40 rfl ?_
  refine z_iald C dX3_isBefore_41 (by first | assumption | exact zk_eq | exact zk_ne (by first | assumption | exact zk_eq | exact zk_ne (by first | assumption | exact zk_eq | exact zk_ne (by first | assumption | exact zk_eq | exact zk_ne (by first | assumption | exact zk_eq | exact zk_ne (by first | assumption | exact zk_eq) (by first | decide | omega)) (by first | decide | omega)) (by first | decide | omega)) (by first | decide | omega)) (by first | decide | omega)) (by first | rfl | assumption) (by first | assumption | omega | decide) (by first | decide | omega) ?_
  refine z_icmp_ge C 49 dX3_isBefore_42 (by decide) (fun c3 => ?_) (fun c3 => ?_)
  · refine z_iconst C (0) dX3_isBefore_49 (by decide) ?_
    refine z_zret C hret dX3_isBefore_50 (by first | rfl | exact zb_nar _ | assumption) (by first | exact Nat.le_of_ble_eq_true rfl | omega) (by first | exact Nat.le_of_ble_eq_true rfl | omega) ?_
    exact ⟨by simp only [bef, decide_eq_false c1, decide_eq_true c2, decide_eq_false (Int32.not_lt.mpr c3)]; rfl, rfl⟩
  · refine z_iconst C (1) dX3_isBefore_45 (by decide) ?_
    refine z_goto C 50 dX3_isBefore_46 (by decide) ?_
    refine z_zret C hret dX3_isBefore_50 (by first | rfl | exact zb_nar _ | assumption) (by first | exact Nat.le_of_ble_eq_true rfl | omega) (by first | exact Nat.le_of_ble_eq_true rfl | omega) ?_
    exact ⟨by simp only [bef, decide_eq_false c1, decide_eq_true c2, decide_eq_true (Int32.not_le.mp c3)]; rfl, rfl⟩
theorem m_isReady (hl : l.stackTraces = false) (h : MP z bd g f w) {k : Nat} (hk : k < 30) : ZM l z mX3_isReady 0 0 0 [.ref (bd 20), .int (nI k)] w (fun r w1 => r = some (.int (zb (mRdy g k))) ∧ w1 = w) zNo := by
  obtain ⟨m20, m21, m22, m23, m24, m25, m26, m27, m28, m29, m30, m31, m32, m33, m34, m35, m36, m37, m38⟩ := h.all
  refine zbody (M := mX3_isReady) (L0 := [_, _]) hl (by simp [Value.category]) (Nat.le_of_ble_eq_true rfl) (by decide +kernel) rfl ?_
  intro p e s m args below meth c C hX hnm hret
  replace C : zC z p l s m args meth c cX3_isReady RX3 2 := C
  replace hret : meth.sig.returnType = (some .boolean) := hret
  refine z_aload_n C dX3_isReady_0 rfl ?_
  refine z_getf C zf_X3_7 dX3_isReady_1 (by first | assumption | exact zk_eq | exact zk_ne (by first | assumption | exact zk_eq | exact zk_ne (by first | assumption | exact zk_eq | exact zk_ne (by first | assumption | exact zk_eq | exact zk_ne (by first | assumption | exact zk_eq | exact zk_ne (by first | assumption | exact zk_eq) (by first | decide | omega)) (by first | decide | omega)) (by first | decide | omega)) (by first | decide | omega)) (by first | decide | omega)) (by rfl) ?_
  refine z_iload_n C dX3_isReady_4 rfl ?_
  refine z_iald C dX3_isReady_5 (by first | assumption | exact zk_eq | exact zk_ne (by first | assumption | exact zk_eq | exact zk_ne (by first | assumption | exact zk_eq | exact zk_ne (by first | assumption | exact zk_eq | exact zk_ne (by first | assumption | exact zk_eq | exact zk_ne (by first | assumption | exact zk_eq) (by first | decide | omega)) (by first | decide | omega)) (by first | decide | omega)) (by first | decide | omega)) (by first | decide | omega)) (by first | rfl | assumption) (by first | assumption | omega | decide) (by first | decide | omega) ?_
  refine z_iconst C (-1) dX3_isReady_6 (by decide) ?_
  refine z_icmp_eq C 42 dX3_isReady_7 (by decide) (fun c1 => ?_) (fun c1 => ?_)
  · refine z_iconst C (0) dX3_isReady_42 (by decide) ?_
    refine z_zret C hret dX3_isReady_43 (by first | rfl | exact zb_nar _ | assumption) (by first | exact Nat.le_of_ble_eq_true rfl | omega) (by first | exact Nat.le_of_ble_eq_true rfl | omega) ?_
    exact ⟨by simp [mRdy, mOcc, c1, zb], rfl⟩
  refine z_aload_n C dX3_isReady_10 rfl ?_
  refine z_getf C zf_X3_22 dX3_isReady_11 (by first | assumption | exact zk_eq | exact zk_ne (by first | assumption | exact zk_eq | exact zk_ne (by first | assumption | exact zk_eq | exact zk_ne (by first | assumption | exact zk_eq | exact zk_ne (by first | assumption | exact zk_eq | exact zk_ne (by first | assumption | exact zk_eq) (by first | decide | omega)) (by first | decide | omega)) (by first | decide | omega)) (by first | decide | omega)) (by first | decide | omega)) (by rfl) ?_
  refine z_iload_n C dX3_isReady_14 rfl ?_
  refine z_zald C dX3_isReady_15 (by first | assumption | exact zk_eq | exact zk_ne (by first | assumption | exact zk_eq | exact zk_ne (by first | assumption | exact zk_eq | exact zk_ne (by first | assumption | exact zk_eq | exact zk_ne (by first | assumption | exact zk_eq | exact zk_ne (by first | assumption | exact zk_eq) (by first | decide | omega)) (by first | decide | omega)) (by first | decide | omega)) (by first | decide | omega)) (by first | decide | omega)) (by first | rfl | assumption) (by first | assumption | omega | decide) (by first | decide | omega) ?_
  refine z_if_ne C 42 dX3_isReady_16 (by decide) (fun c2 => ?_) (fun c2 => ?_)
  · refine z_iconst C (0) dX3_isReady_42 (by decide) ?_
    refine z_zret C hret dX3_isReady_43 (by first | rfl | exact zb_nar _ | assumption) (by first | exact Nat.le_of_ble_eq_true rfl | omega) (by first | exact Nat.le_of_ble_eq_true rfl | omega) ?_
    exact ⟨by simp [mRdy, c2, zb], rfl⟩
  refine z_aload_n C dX3_isReady_19 rfl ?_
  refine z_getf C zf_X3_32 dX3_isReady_20 (by first | assumption | exact zk_eq | exact zk_ne (by first | assumption | exact zk_eq | exact zk_ne (by first | assumption | exact zk_eq | exact zk_ne (by first | assumption | exact zk_eq | exact zk_ne (by first | assumption | exact zk_eq | exact zk_ne (by first | assumption | exact zk_eq) (by first | decide | omega)) (by first | decide | omega)) (by first | decide | omega)) (by first | decide | omega)) (by first | decide | omega)) (by rfl) ?_
  refine z_iload_n C dX3_isReady_23 rfl ?_
  refine z_iald C dX3_isReady_24 (by first | assumption | exact zk_eq | exact zk_ne (by first | assumption | exact zk_eq | exact zk_ne (by first | assumption | exact zk_eq | exact zk_ne (by first | assumption | exact zk_eq | exact zk_ne (by first | assumption | exact zk_eq | exact zk_ne (by first | assumption | exact zk_eq) (by first | decide | omega)) (by first | decide | omega)) (by first | decide | omega)) (by first | decide | omega)) (by first | decide | omega)) (by first | rfl | assumption) (by first | assumption | omega | decide) (by first | decide | omega) ?_
  refine z_iconst C (-1) dX3_isReady_25 (by decide) ?_
  refine z_icmp_ne C 42 dX3_isReady_26 (by decide) (fun c3 => ?_) (fun c3 => ?_)
  · refine z_iconst C (0) dX3_isReady_42 (by decide) ?_
    refine z_zret C hret dX3_isReady_43 (by first | rfl | exact zb_nar _ | assumption) (by first | exact Nat.le_of_ble_eq_true rfl | omega) (by first | exact Nat.le_of_ble_eq_true rfl | omega) ?_
    exact ⟨by simp [mRdy, c3, zb], rfl⟩
  refine z_aload_n C dX3_isReady_29 rfl ?_
  refine z_getf C zf_X3_29 dX3_isReady_30 (by first | assumption | exact zk_eq | exact zk_ne (by first | assumption | exact zk_eq | exact zk_ne (by first | assumption | exact zk_eq | exact zk_ne (by first | assumption | exact zk_eq | exact zk_ne (by first | assumption | exact zk_eq | exact zk_ne (by first | assumption | exact zk_eq) (by first | decide | omega)) (by first | decide | omega)) (by first | decide | omega)) (by first | decide | omega)) (by first | decide | omega)) (by rfl) ?_
  refine z_iload_n C dX3_isReady_33 rfl ?_
  refine z_zald C dX3_isReady_34 (by first | assumption | exact zk_eq | exact zk_ne (by first | assumption | exact zk_eq | exact zk_ne (by first | assumption | exact zk_eq | exact zk_ne (by first | assumption | exact zk_eq | exact zk_ne (by first | assumption | exact zk_eq | exact zk_ne (by first | assumption | exact zk_eq) (by first | decide | omega)) (by first | decide | omega)) (by first | decide | omega)) (by first | decide | omega)) (by first | decide | omega)) (by first | rfl | assumption) (by first | assumption | omega | decide) (by first | decide | omega) ?_
  refine z_if_ne C 42 dX3_isReady_35 (by decide) (fun c4 => ?_) (fun c4 => ?_)
  · refine z_iconst C (0) dX3_isReady_42 (by decide) ?_
    refine z_zret C hret dX3_isReady_43 (by first | rfl | exact zb_nar _ | assumption) (by first | exact Nat.le_of_ble_eq_true rfl | omega) (by first | exact Nat.le_of_ble_eq_true rfl | omega) ?_
    exact ⟨by simp [mRdy, c4, zb], rfl⟩
  · refine z_iconst C (1) dX3_isReady_38 (by decide) ?_
    refine z_goto C 43 dX3_isReady_39 (by decide) ?_
    refine z_zret C hret dX3_isReady_43 (by first | rfl | exact zb_nar _ | assumption) (by first | exact Nat.le_of_ble_eq_true rfl | omega) (by first | exact Nat.le_of_ble_eq_true rfl | omega) ?_
    exact ⟨by simp [mRdy, mOcc, c1, c2, c3, c4, zb], rfl⟩
theorem m_rank (hl : l.stackTraces = false) (h : MP z bd g f w) {k : Nat} (hk : k < 30) : ZM l z mX3_rank 0 0 0 [.ref (bd 20), .int (nI k)] w (fun r w1 => r = some (.int (nI (mRnk g k 30))) ∧ w1 = w) zNo := by
  obtain ⟨m20, m21, m22, m23, m24, m25, m26, m27, m28, m29, m30, m31, m32, m33, m34, m35, m36, m37, m38⟩ := h.all
  refine zbody (M := mX3_rank) (L0 := [_, _, _, _]) hl (by simp [Value.category]) (Nat.le_of_ble_eq_true rfl) (by decide +kernel) rfl ?_
  intro p e s m args below meth c C hX hnm hret
  replace C : zC z p l s m args meth c cX3_rank RX3 4 := C
  replace hret : meth.sig.returnType = (some .int) := hret
  refine z_iconst C (0) dX3_rank_0 (by decide) ?_
  refine z_istore_n C (L1 := [_, _, _, _]) dX3_rank_1 (Nat.le_of_ble_eq_true rfl) rfl ?_
  refine z_iconst C (0) dX3_rank_2 (by decide) ?_
  refine z_istore_n C (L1 := [_, _, _, _]) dX3_rank_3 (Nat.le_of_ble_eq_true rfl) rfl ?_
  refine z_ind (σ := Nat) (fun i => i ≤ 30) (fun i => 30 - i) (fun _ => 0) (fun _ => 0)
    (fun i => [some (.ref (bd 20)), some (.int (nI k)), some (.int (nI (mRnk g k i))), some (.int (nI i))]) (fun _ => w) 0 (Nat.zero_le _) ?_
  rintro i q1 ih
  try dsimp only at q1 ih ⊢
  have hle : mRnk g k i ≤ i := cntP_le _ _
  have hsu : mRnk g k (i + 1) = mRnk g k i + zN (mOcc g i && decide (g 1 i = g 1 k) && decide (g 2 i < g 2 k)) := cntP_succ _ _
  refine z_iload_n C dX3_rank_4 rfl ?_
  refine z_bipush C (30) dX3_rank_5 (by decide) ?_
  refine z_icmp_ge C 64 dX3_rank_7 (by decide) (fun c1 => ?_) (fun c1 => ?_)
  · have hi2 : i = 30 := Nat.le_antisymm q1 (ge_of_ge (by omega) (by omega) c1)
    subst hi2
    refine z_iload_n C dX3_rank_64 rfl ?_
    refine z_iret C hret dX3_rank_65 (by first | exact Nat.le_of_ble_eq_true rfl | omega) (by first | exact Nat.le_of_ble_eq_true rfl | omega) ?_
    exact ⟨rfl, rfl⟩
  have hi2 : i < 30 := lt_of_nge (by omega) (by omega) c1
  have fin := ih (i + 1) hi2 (by omega)
  rw [hsu] at fin
  have no : zN (mOcc g i && decide (g 1 i = g 1 k) && decide (g 2 i < g 2 k)) = 0 → ZJ z p l e (zrm 0 0 0) s m args below meth c (vx_MQ below (zQc z (fun r w1 => r = some (.int (nI (mRnk g k 30))) ∧ w1 = w)) (zXC z zNo) args s 0 0 (zA z)) 0 0 55 [some (.ref (bd 20)), some (.int (nI k)), some (.int (nI (mRnk g k i))), some (.int (nI i))] [.int (nI (mRnk g k i))] w := by
    intro hz
    rw [hz] at fin
    refine z_iconst C (0) dX3_rank_55 (by decide) ?_
    refine z_iadd C dX3_rank_56 ?_
    rw [show (nI (mRnk g k i) + 0) = nI (mRnk g k i) by simp]
    refine z_istore_n C (L1 := [_, _, _, _]) dX3_rank_57 (Nat.le_of_ble_eq_true rfl) rfl ?_
    refine z_iinc C (L1 := [_, _, _, _]) _ dX3_rank_58 rfl (by first | exact zinc | rfl) rfl ?_
    refine z_goto C 4 dX3_rank_61 (by decide) ?_
    exact fin
  refine z_iload_n C dX3_rank_10 rfl ?_
  refine z_aload_n C dX3_rank_11 rfl ?_
  refine z_getf C zf_X3_7 dX3_rank_12 (by first | assumption | exact zk_eq | exact zk_ne (by first | assumption | exact zk_eq | exact zk_ne (by first | assumption | exact zk_eq | exact zk_ne (by first | assumption | exact zk_eq | exact zk_ne (by first | assumption | exact zk_eq | exact zk_ne (by first | assumption | exact zk_eq) (by first | decide | omega)) (by first | decide | omega)) (by first | decide | omega)) (by first | decide | omega)) (by first | decide | omega)) (by rfl) ?_
  refine z_iload_n C dX3_rank_15 rfl ?_
  refine z_iald C dX3_rank_16 (by first | assumption | exact zk_eq | exact zk_ne (by first | assumption | exact zk_eq | exact zk_ne (by first | assumption | exact zk_eq | exact zk_ne (by first | assumption | exact zk_eq | exact zk_ne (by first | assumption | exact zk_eq | exact zk_ne (by first | assumption | exact zk_eq) (by first | decide | omega)) (by first | decide | omega)) (by first | decide | omega)) (by first | decide | omega)) (by first | decide | omega)) (by first | rfl | assumption) (by first | assumption | omega | decide) (by first | decide | omega) ?_
  refine z_iconst C (-1) dX3_rank_17 (by decide) ?_
  refine z_icmp_eq C 55 dX3_rank_18 (by decide) (fun c2 => ?_) (fun c2 => ?_)
  · exact no (by simp [mOcc, c2, zN])
  refine z_aload_n C dX3_rank_21 rfl ?_
  refine z_getf C zf_X3_13 dX3_rank_22 (by first | assumption | exact zk_eq | exact zk_ne (by first | assumption | exact zk_eq | exact zk_ne (by first | assumption | exact zk_eq | exact zk_ne (by first | assumption | exact zk_eq | exact zk_ne (by first | assumption | exact zk_eq | exact zk_ne (by first | assumption | exact zk_eq) (by first | decide | omega)) (by first | decide | omega)) (by first | decide | omega)) (by first | decide | omega)) (by first | decide | omega)) (by rfl) ?_
  refine z_iload_n C dX3_rank_25 rfl ?_
  refine z_iald C dX3_rank_26 (by first | assumption | exact zk_eq | exact zk_ne (by first | assumption | exact zk_eq | exact zk_ne (by first | assumption | exact zk_eq | exact zk_ne (by first | assumption | exact zk_eq | exact zk_ne (by first | assumption | exact zk_eq | exact zk_ne (by first | assumption | exact zk_eq) (by first | decide | omega)) (by first | decide | omega)) (by first | decide | omega)) (by first | decide | omega)) (by first | decide | omega)) (by first | rfl | assumption) (by first | assumption | omega | decide) (by first | decide | omega) ?_
  refine z_aload_n C dX3_rank_27 rfl ?_
  refine z_getf C zf_X3_13 dX3_rank_28 (by first | assumption | exact zk_eq | exact zk_ne (by first | assumption | exact zk_eq | exact zk_ne (by first | assumption | exact zk_eq | exact zk_ne (by first | assumption | exact zk_eq | exact zk_ne (by first | assumption | exact zk_eq | exact zk_ne (by first | assumption | exact zk_eq) (by first | decide | omega)) (by first | decide | omega)) (by first | decide | omega)) (by first | decide | omega)) (by first | decide | omega)) (by rfl) ?_
  refine z_iload_n C dX3_rank_31 rfl ?_
  refine z_iald C dX3_rank_32 (by first | assumption | exact zk_eq | exact zk_ne (by first | assumption | exact zk_eq | exact zk_ne (by first | assumption | exact zk_eq | exact zk_ne (by first | assumption | exact zk_eq | exact zk_ne (by first | assumption | exact zk_eq | exact zk_ne (by first | assumption | exact zk_eq) (by first | decide | omega)) (by first | decide | omega)) (by first | decide | omega)) (by first | decide | omega)) (by first | decide | omega)) (by first | rfl | assumption) (by first | assumption | omega | decide) (by first | decide | omega) ?_
  refine z_icmp_ne C 55 dX3_rank_33 (by decide) (fun c3 => ?_) (fun c3 => ?_)
  · exact no (by simp [c3, zN])
  refine z_aload_n C dX3_rank_36 rfl ?_
  refine z_getf C zf_X3_16 dX3_rank_37 (by first | assumption | exact zk_eq | exact zk_ne (by first | assumption | exact zk_eq | exact zk_ne (by first | assumption | exact zk_eq | exact zk_ne (by first | assumption | exact zk_eq | exact zk_ne (by first | assumption | exact zk_eq | exact zk_ne (by first | assumption | exact zk_eq) (by first | decide | omega)) (by first | decide | omega)) (by first | decide | omega)) (by first | decide | omega)) (by first | decide | omega)) (by rfl) ?_
  refine z_iload_n C dX3_rank_40 rfl ?_
  refine z_iald C dX3_rank_41 (by first | assumption | exact zk_eq | exact zk_ne (by first | assumption | exact zk_eq | exact zk_ne (by first | assumption | exact zk_eq | exact zk_ne (by first | assumption | exact zk_eq | exact zk_ne (by first | assumption | exact zk_eq | exact zk_ne (by first | assumption | exact zk_eq) (by first | decide | omega)) (by first | decide | omega)) (by first | decide | omega)) (by first | decide | omega)) (by first | decide | omega)) (by first | rfl | assumption) (by first | assumption | omega | decide) (by first | decide | omega) ?_
  refine z_aload_n C dX3_rank_42 rfl ?_
  refine z_getf C zf_X3_16 dX3_rank_43 (by first | assumption | exact zk_eq | exact zk_ne (by first | assumption | exact zk_eq | exact zk_ne (by first | assumption | exact zk_eq | exact zk_ne (by first | assumption | exact zk_eq | exact zk_ne (by first | assumption | exact zk_eq | exact zk_ne (by first | assumption | exact zk_eq) (by first | decide | omega)) (by first | decide | omega)) (by first | decide | omega)) (by first | decide | omega)) (by first | decide | omega)) (by rfl) ?_
  refine z_iload_n C dX3_rank_46 rfl ?_
  refine z_iald C dX3_rank_47 (by first | assumption | exact zk_eq | exact zk_ne (by first | assumption | exact zk_eq | exact zk_ne (by first | assumption | exact zk_eq | exact zk_ne (by first | assumption | exact zk_eq | exact zk_ne (by first | assumption | exact zk_eq | exact zk_ne (by first | assumption | exact zk_eq) (by first | decide | omega)) (by first | decide | omega)) (by first | decide | omega)) (by first | decide | omega)) (by first | decide | omega)) (by first | rfl | assumption) (by first | assumption | omega | decide) (by first | decide | omega) ?_
  refine z_icmp_ge C 55 dX3_rank_48 (by decide) (fun c4 => ?_) (fun c4 => ?_)
  · exact no (by simp only [decide_eq_false (Int32.not_lt.mpr c4), Bool.and_false]; rfl)
  · rw [show zN (mOcc g i && decide (g 1 i = g 1 k) && decide (g 2 i < g 2 k)) = 1 by simp only [mOcc, decide_eq_false c2, decide_eq_true c3, decide_eq_true (Int32.not_le.mp c4)]; rfl] at fin
    refine z_iconst C (1) dX3_rank_51 (by decide) ?_
    refine z_goto C 56 dX3_rank_52 (by decide) ?_
    refine z_iadd C dX3_rank_56 ?_
    rw [show (nI (mRnk g k i) + 1) = nI (mRnk g k i + 1) from nI_1 _]
    refine z_istore_n C (L1 := [_, _, _, _]) dX3_rank_57 (Nat.le_of_ble_eq_true rfl) rfl ?_
    refine z_iinc C (L1 := [_, _, _, _]) _ dX3_rank_58 rfl (by first | exact zinc | rfl) rfl ?_
    refine z_goto C 4 dX3_rank_61 (by decide) ?_
    exact fin
theorem m_isPlace (hl : l.stackTraces = false) (h : MP z bd g f w) (x : Int32) : ZM l z mX3_isPlace 1 0 0 [.ref (bd 20), .int x] w (fun r w1 => r = some (.int (zb (!decide (x < 0) && !decide (f 17 - 1 < x)))) ∧ w1 = w) zNo := by
  obtain ⟨m20, m21, m22, m23, m24, m25, m26, m27, m28, m29, m30, m31, m32, m33, m34, m35, m36, m37, m38⟩ := h.all
  refine zbody (M := mX3_isPlace) (L0 := [_, _]) hl (by simp [Value.category]) (Nat.le_of_ble_eq_true rfl) (by decide +kernel) rfl ?_
  intro p e s m args below meth c C hX hnm hret
  replace C : zC z p l s m args meth c cX3_isPlace RX3 2 := C
  replace hret : meth.sig.returnType = (some .boolean) := hret
  refine z_iload_n C dX3_isPlace_0 rfl ?_
  refine z_iconst C (0) dX3_isPlace_1 (by decide) ?_
  refine z_aload_n C dX3_isPlace_2 rfl ?_
  refine z_getf C zf_X3_112 dX3_isPlace_3 (by first | assumption | exact zk_eq | exact zk_ne (by first | assumption | exact zk_eq | exact zk_ne (by first | assumption | exact zk_eq | exact zk_ne (by first | assumption | exact zk_eq | exact zk_ne (by first | assumption | exact zk_eq | exact zk_ne (by first | assumption | exact zk_eq) (by first | decide | omega)) (by first | decide | omega)) (by first | decide | omega)) (by first | decide | omega)) (by first | decide | omega)) (by rfl) ?_
  refine z_iconst C (1) dX3_isPlace_6 (by decide) ?_
  refine z_isub C dX3_isPlace_7 ?_
  refine z_callS C zm_X3_in zl_X3_72 (m_in hl x 0 (f 17 - 1)) dX3_isPlace_8 (by rfl) (by rfl) (by exact Nat.le_of_ble_eq_true rfl) rfl (by exact ⟨Nat.le_of_ble_eq_true rfl, Nat.le_of_ble_eq_true rfl⟩) (by first | exact ⟨Nat.le_of_ble_eq_true rfl, Nat.le_of_ble_eq_true rfl⟩ | (simp only [zrm]; omega)) (fun _ _ h => z_xno h) (fun r w1 hq => ?_)
  obtain ⟨rfl, rfl⟩ := hq
  refine z_zret C hret dX3_isPlace_11 (by first | rfl | exact zb_nar _ | assumption) (by first | exact Nat.le_of_ble_eq_true rfl | omega) (by first | exact Nat.le_of_ble_eq_true rfl | omega) ?_
  exact ⟨rfl, rfl⟩
theorem m_owes (hl : l.stackTraces = false) (h : MP z bd g f w) {k b : Nat} (hk : k < 30) (hb : g 1 k = nI b) (hb4 : b < 4) : ZM l z mX3_owes 0 0 0 [.ref (bd 20), .int (nI k)] w (fun r w1 => r = some (.int (mOwe g k)) ∧ w1 = w) zNo := by
  obtain ⟨m20, m21, m22, m23, m24, m25, m26, m27, m28, m29, m30, m31, m32, m33, m34, m35, m36, m37, m38⟩ := h.all
  have hm : mOwe g k = if ¬ g 4 k = 0 ∨ 3 ≤ g 10 k ∨ g 12 b - g 9 k < 0 then 0 else g 12 b - g 9 k := by unfold mOwe; rw [hb, nI_clamp (by omega)]
  refine zbody (M := mX3_owes) (L0 := [_, _, _]) hl (by simp [Value.category]) (Nat.le_of_ble_eq_true rfl) (by decide +kernel) rfl ?_
  intro p e s m args below meth c C hX hnm hret
  replace C : zC z p l s m args meth c cX3_owes RX3 3 := C
  replace hret : meth.sig.returnType = (some .int) := hret
  refine z_aload_n C dX3_owes_0 rfl ?_
  refine z_getf C zf_X3_47 dX3_owes_1 (by first | assumption | exact zk_eq | exact zk_ne (by first | assumption | exact zk_eq | exact zk_ne (by first | assumption | exact zk_eq | exact zk_ne (by first | assumption | exact zk_eq | exact zk_ne (by first | assumption | exact zk_eq | exact zk_ne (by first | assumption | exact zk_eq) (by first | decide | omega)) (by first | decide | omega)) (by first | decide | omega)) (by first | decide | omega)) (by first | decide | omega)) (by rfl) ?_
  refine z_aload_n C dX3_owes_4 rfl ?_
  refine z_getf C zf_X3_13 dX3_owes_5 (by first | assumption | exact zk_eq | exact zk_ne (by first | assumption | exact zk_eq | exact zk_ne (by first | assumption | exact zk_eq | exact zk_ne (by first | assumption | exact zk_eq | exact zk_ne (by first | assumption | exact zk_eq | exact zk_ne (by first | assumption | exact zk_eq) (by first | decide | omega)) (by first | decide | omega)) (by first | decide | omega)) (by first | decide | omega)) (by first | decide | omega)) (by rfl) ?_
  refine z_iload_n C dX3_owes_8 rfl ?_
  refine z_iald C dX3_owes_9 (by first | assumption | exact zk_eq | exact zk_ne (by first | assumption | exact zk_eq | exact zk_ne (by first | assumption | exact zk_eq | exact zk_ne (by first | assumption | exact zk_eq | exact zk_ne (by first | assumption | exact zk_eq | exact zk_ne (by first | assumption | exact zk_eq) (by first | decide | omega)) (by first | decide | omega)) (by first | decide | omega)) (by first | decide | omega)) (by first | decide | omega)) (by first | rfl | assumption) (by first | assumption | omega | decide) (by first | decide | omega) ?_
  refine z_iald C dX3_owes_10 (by first | assumption | exact zk_eq | exact zk_ne (by first | assumption | exact zk_eq | exact zk_ne (by first | assumption | exact zk_eq | exact zk_ne (by first | assumption | exact zk_eq | exact zk_ne (by first | assumption | exact zk_eq | exact zk_ne (by first | assumption | exact zk_eq) (by first | decide | omega)) (by first | decide | omega)) (by first | decide | omega)) (by first | decide | omega)) (by first | decide | omega)) (by first | rfl | assumption) (by first | assumption | omega | decide) (by first | decide | omega) ?_
  refine z_aload_n C dX3_owes_11 rfl ?_
  refine z_getf C zf_X3_38 dX3_owes_12 (by first | assumption | exact zk_eq | exact zk_ne (by first | assumption | exact zk_eq | exact zk_ne (by first | assumption | exact zk_eq | exact zk_ne (by first | assumption | exact zk_eq | exact zk_ne (by first | assumption | exact zk_eq | exact zk_ne (by first | assumption | exact zk_eq) (by first | decide | omega)) (by first | decide | omega)) (by first | decide | omega)) (by first | decide | omega)) (by first | decide | omega)) (by rfl) ?_
  refine z_iload_n C dX3_owes_15 rfl ?_
  refine z_iald C dX3_owes_16 (by first | assumption | exact zk_eq | exact zk_ne (by first | assumption | exact zk_eq | exact zk_ne (by first | assumption | exact zk_eq | exact zk_ne (by first | assumption | exact zk_eq | exact zk_ne (by first | assumption | exact zk_eq | exact zk_ne (by first | assumption | exact zk_eq) (by first | decide | omega)) (by first | decide | omega)) (by first | decide | omega)) (by first | decide | omega)) (by first | decide | omega)) (by first | rfl | assumption) (by first | assumption | omega | decide) (by first | decide | omega) ?_
  refine z_isub C dX3_owes_17 ?_
  refine z_istore_n C (L1 := [_, _, _]) dX3_owes_18 (Nat.le_of_ble_eq_true rfl) rfl ?_
  refine z_aload_n C dX3_owes_19 rfl ?_
  refine z_getf C zf_X3_22 dX3_owes_20 (by first | assumption | exact zk_eq | exact zk_ne (by first | assumption | exact zk_eq | exact zk_ne (by first | assumption | exact zk_eq | exact zk_ne (by first | assumption | exact zk_eq | exact zk_ne (by first | assumption | exact zk_eq | exact zk_ne (by first | assumption | exact zk_eq) (by first | decide | omega)) (by first | decide | omega)) (by first | decide | omega)) (by first | decide | omega)) (by first | decide | omega)) (by rfl) ?_
  refine z_iload_n C dX3_owes_23 rfl ?_
  refine z_zald C dX3_owes_24 (by first | assumption | exact zk_eq | exact zk_ne (by first | assumption | exact zk_eq | exact zk_ne (by first | assumption | exact zk_eq | exact zk_ne (by first | assumption | exact zk_eq | exact zk_ne (by first | assumption | exact zk_eq | exact zk_ne (by first | assumption | exact zk_eq) (by first | decide | omega)) (by first | decide | omega)) (by first | decide | omega)) (by first | decide | omega)) (by first | decide | omega)) (by first | rfl | assumption) (by first | assumption | omega | decide) (by first | decide | omega) ?_
  refine z_if_ne C 42 dX3_owes_25 (by decide) (fun c1 => ?_) (fun c1 => ?_)
  · refine z_iconst C (0) dX3_owes_42 (by decide) ?_
    refine z_goto C 47 dX3_owes_43 (by decide) ?_
    refine z_iret C hret dX3_owes_47 (by first | exact Nat.le_of_ble_eq_true rfl | omega) (by first | exact Nat.le_of_ble_eq_true rfl | omega) ?_
    exact ⟨by rw [hm, if_pos (Or.inl c1)], rfl⟩
  refine z_aload_n C dX3_owes_28 rfl ?_
  refine z_getf C zf_X3_41 dX3_owes_29 (by first | assumption | exact zk_eq | exact zk_ne (by first | assumption | exact zk_eq | exact zk_ne (by first | assumption | exact zk_eq | exact zk_ne (by first | assumption | exact zk_eq | exact zk_ne (by first | assumption | exact zk_eq | exact zk_ne (by first | assumption | exact zk_eq) (by first | decide | omega)) (by first | decide | omega)) (by first | decide | omega)) (by first | decide | omega)) (by first | decide | omega)) (by rfl) ?_
  refine z_iload_n C dX3_owes_32 rfl ?_
  refine z_iald C dX3_owes_33 (by first | assumption | exact zk_eq | exact zk_ne (by first | assumption | exact zk_eq | exact zk_ne (by first | assumption | exact zk_eq | exact zk_ne (by first | assumption | exact zk_eq | exact zk_ne (by first | assumption | exact zk_eq | exact zk_ne (by first | assumption | exact zk_eq) (by first | decide | omega)) (by first | decide | omega)) (by first | decide | omega)) (by first | decide | omega)) (by first | decide | omega)) (by first | rfl | assumption) (by first | assumption | omega | decide) (by first | decide | omega) ?_
  refine z_iconst C (3) dX3_owes_34 (by decide) ?_
  refine z_icmp_ge C 42 dX3_owes_35 (by decide) (fun c2 => ?_) (fun c2 => ?_)
  · refine z_iconst C (0) dX3_owes_42 (by decide) ?_
    refine z_goto C 47 dX3_owes_43 (by decide) ?_
    refine z_iret C hret dX3_owes_47 (by first | exact Nat.le_of_ble_eq_true rfl | omega) (by first | exact Nat.le_of_ble_eq_true rfl | omega) ?_
    exact ⟨by rw [hm, if_pos (Or.inr (Or.inl c2))], rfl⟩
  refine z_iload_n C dX3_owes_38 rfl ?_
  refine z_if_ge C 46 dX3_owes_39 (by decide) (fun c3 => ?_) (fun c3 => ?_)
  · refine z_iload_n C dX3_owes_46 rfl ?_
    refine z_iret C hret dX3_owes_47 (by first | exact Nat.le_of_ble_eq_true rfl | omega) (by first | exact Nat.le_of_ble_eq_true rfl | omega) ?_
    exact ⟨by rw [hm, if_neg (fun h => h.elim (fun h => h c1) (fun h => h.elim c2 (fun h => absurd c3 (Int32.not_le.mpr h))))], rfl⟩
  · refine z_iconst C (0) dX3_owes_42 (by decide) ?_
    refine z_goto C 47 dX3_owes_43 (by decide) ?_
    refine z_iret C hret dX3_owes_47 (by first | exact Nat.le_of_ble_eq_true rfl | omega) (by first | exact Nat.le_of_ble_eq_true rfl | omega) ?_
    exact ⟨by rw [hm, if_pos (Or.inr (Or.inr (Int32.not_le.mp c3)))], rfl⟩
end ZM1
