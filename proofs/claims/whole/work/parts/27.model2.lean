/-! HiringHallModel: lineUp, works, fills, refuses, countOpen, canAll -/
theorem va_upI {α : Type} (f : Nat → α) (k : Nat) : va_up f k (f k) = f := by
  funext j
  by_cases e : j = k
  · rw [e, va_up_self]
  · rw [va_up_ne _ _ e]
def zIs (v : Nat → Int32) (L : List Nat) : Prop := ∀ j x : Nat, L[j]? = some x → v j = nI x
/-- k into the turn R, the last first -/
def insR (g : Nat → Nat → Int32) (k : Nat) : List Nat → List Nat
  | [] => [k]
  | y :: r => if bef g k y = true then y :: insR g k r else k :: y :: r
def mLinR (g : Nat → Nat → Int32) : Nat → List Nat
  | 0 => []
  | i + 1 => if mOcc g i = true then insR g i (mLinR g i) else mLinR g i
abbrev mLine (g : Nat → Nat → Int32) : List Nat := (mLinR g 30).reverse
theorem insR_perm {g : Nat → Nat → Int32} {k : Nat} : ∀ r : List Nat, (insR g k r).Perm (k :: r)
  | [] => List.Perm.refl _
  | y :: r => by
    simp only [insR]
    split
    · exact ((insR_perm r).cons y).trans (List.Perm.swap k y r)
    · exact List.Perm.refl _
theorem mLinR_perm {g : Nat → Nat → Int32} : ∀ i : Nat, (mLinR g i).Perm ((List.range i).filter (mOcc g)).reverse
  | 0 => by simp [mLinR]
  | i + 1 => by
    simp only [mLinR, List.range_succ, List.filter_append, List.reverse_append]
    by_cases h : mOcc g i = true
    · rw [if_pos h, List.filter_cons_of_pos h]
      exact (insR_perm _).trans ((mLinR_perm i).cons i)
    · rw [if_neg h, List.filter_cons_of_neg h]
      exact mLinR_perm i
theorem mLinR_mem {g : Nat → Nat → Int32} {i x : Nat} : x ∈ mLinR g i ↔ x < i ∧ mOcc g x = true := by
  rw [(mLinR_perm i).mem_iff]
  simp
theorem mLinR_len {g : Nat → Nat → Int32} (i : Nat) : (mLinR g i).length ≤ i := by
  rw [(mLinR_perm i).length_eq, List.length_reverse]
  have := List.length_filter_le (mOcc g) (List.range i)
  simpa using this
theorem zIs.get {v : Nat → Int32} {L : List Nat} (h : zIs v L) {j : Nat} (hj : j < L.length) : v j = nI L[j] := h j _ (List.getElem?_eq_getElem hj)
def mWoG (g : Nat → Nat → Int32) (k : Nat) (t : Int32) : Nat → Nat → Int32 := va_up (va_up g 9 (va_up (g 9) k (g 9 k + (t - g 8 k)))) 7 (va_up (g 7) k (-1))
def mWoF (g : Nat → Nat → Int32) (f : Nat → Int32) (k : Nat) (t : Int32) : Nat → Int32 := va_up f 20 (f 20 + (t - g 8 k))
def mFiG (g : Nat → Nat → Int32) (f : Nat → Int32) (k p : Nat) : Nat → Nat → Int32 := va_up (va_up (va_up (va_up g 14 (va_up (g 14) p (nI k))) 7 (va_up (g 7) k (nI p))) 8 (va_up (g 8) k (f 19))) 6 (va_up (g 6) k 1)
def mFiF (f : Nat → Int32) : Nat → Int32 := va_up f 21 1
def mReG (g : Nat → Nat → Int32) (f : Nat → Int32) (k : Nat) : Nat → Nat → Int32 := if g 11 (g 1 k).toNatClampNeg = 0 then va_up g 10 (va_up (g 10) k (g 10 k + 1)) else mLow (va_up g 10 (va_up (g 10) k (g 10 k + 1))) f k
def mReF (g : Nat → Nat → Int32) (f : Nat → Int32) (k : Nat) : Nat → Int32 := if g 11 (g 1 k).toNatClampNeg = 0 then f else mLoF f
/-- what the open places below i need, the last first -/
def mOpn (g : Nat → Nat → Int32) : Nat → List Int32
  | 0 => []
  | i + 1 => if g 14 i = -1 then g 13 i :: mOpn g i else mOpn g i
theorem mOpn_len {g : Nat → Nat → Int32} : ∀ i : Nat, (mOpn g i).length ≤ i
  | 0 => Nat.le_refl _
  | i + 1 => by
    have := mOpn_len (g := g) i
    simp only [mOpn]
    split <;> simp <;> omega
section ZM2
variable {l : Launch} {z : zT} {w : zW} {bd : Nat → Nat} {g : Nat → Nat → Int32} {f : Nat → Int32}
theorem m_lineUp (hl : l.stackTraces = false) (h : MP z bd g f w) : ZM l z mX3_lineUp 1 0 0 [.ref (bd 20)] w (fun r w1 => r = some (.int (nI (mLine g).length)) ∧ (∃ v : Nat → Int32, MP z bd (va_up g 15 v) f w1 ∧ zIs v (mLine g)) ∧ zFm w w1) zNo := by
  refine zbody (M := mX3_lineUp) (L0 := [_, _, _, _]) hl (by simp [Value.category]) (Nat.le_of_ble_eq_true rfl) (by decide +kernel) rfl ?_
  intro p e s m args below meth c C hX hnm hret
  replace C : zC z p l s m args meth c cX3_lineUp RX3 4 := C
  replace hret : meth.sig.returnType = (some .int) := hret
  refine z_iconst C (0) dX3_lineUp_0 (by decide) ?_
  refine z_istore_n C (L1 := [_, _, _, _]) dX3_lineUp_1 (Nat.le_of_ble_eq_true rfl) rfl ?_
  refine z_iconst C (0) dX3_lineUp_2 (by decide) ?_
  refine z_istore_n C (L1 := [_, _, _, _]) dX3_lineUp_3 (Nat.le_of_ble_eq_true rfl) rfl ?_
  refine z_loop (fun n cs ss L w2 => ∃ (i : Nat) (v : Nat → Int32), n = 30 - i ∧ cs = 0 ∧ ss = 0 ∧ L = [some (.ref (bd 20)), some (.int (nI (mLinR g i).length)), some (.int (nI i)), none] ∧ i ≤ 30 ∧ MP z bd (va_up g 15 v) f w2 ∧ zIs v (mLinR g i).reverse ∧ zFm w w2)
    ⟨0, g 15, rfl, rfl, rfl, rfl, Nat.zero_le _, by rw [show va_up g 15 (g 15) = g from va_upI _ _]; exact h, fun j x hj => by simp [mLinR] at hj, zFm.refl w⟩ ?_
  rintro n cs ss L w2 ⟨i, v, rfl, rfl, rfl, rfl, q1, q2, q3, q4⟩ ih
  have hX := q2
  obtain ⟨m20, m21, m22, m23, m24, m25, m26, m27, m28, m29, m30, m31, m32, m33, m34, m35, m36, m37, m38⟩ := q2.all
  have hle := mLinR_len (g := g) i
  refine z_iload_n C dX3_lineUp_4 rfl ?_
  refine z_bipush C (30) dX3_lineUp_5 (by decide) ?_
  refine z_icmp_ge C 78 dX3_lineUp_7 (by decide) (fun c1 => ?_) (fun c1 => ?_)
  · have hi2 : i = 30 := Nat.le_antisymm q1 (ge_of_ge (by omega) (by omega) c1)
    subst hi2
    refine z_iload_n C dX3_lineUp_78 rfl ?_
    refine z_iret C hret dX3_lineUp_79 (by first | exact Nat.le_of_ble_eq_true rfl | omega) (by first | exact Nat.le_of_ble_eq_true rfl | omega) ?_
    rw [List.length_reverse]
    exact ⟨rfl, ⟨v, hX, q3⟩, q4⟩
  have hi2 : i < 30 := lt_of_nge (by omega) (by omega) c1
  refine z_aload_n C dX3_lineUp_10 rfl ?_
  refine z_getf C zf_X3_7 dX3_lineUp_11 (by first | assumption | exact zk_eq | exact zk_ne (by first | assumption | exact zk_eq | exact zk_ne (by first | assumption | exact zk_eq | exact zk_ne (by first | assumption | exact zk_eq | exact zk_ne (by first | assumption | exact zk_eq | exact zk_ne (by first | assumption | exact zk_eq) (by first | decide | omega)) (by first | decide | omega)) (by first | decide | omega)) (by first | decide | omega)) (by first | decide | omega)) (by rfl) ?_
  refine z_iload_n C dX3_lineUp_14 rfl ?_
  refine z_iald C dX3_lineUp_15 (by first | assumption | exact zk_eq | exact zk_ne (by first | assumption | exact zk_eq | exact zk_ne (by first | assumption | exact zk_eq | exact zk_ne (by first | assumption | exact zk_eq | exact zk_ne (by first | assumption | exact zk_eq | exact zk_ne (by first | assumption | exact zk_eq) (by first | decide | omega)) (by first | decide | omega)) (by first | decide | omega)) (by first | decide | omega)) (by first | decide | omega)) (by first | rfl | assumption) (by first | assumption | omega | decide) (by first | decide | omega) ?_
  refine z_iconst C (-1) dX3_lineUp_16 (by decide) ?_
  refine z_icmp_eq C 72 dX3_lineUp_17 (by decide) (fun c2 => ?_) (fun c2 => ?_)
  · have hno : ¬ mOcc g i = true := by
      have c3 : g 0 i = -1 := c2
      simp [mOcc, c3]
    refine z_iinc C (L1 := [_, _, _, _]) _ dX3_lineUp_72 rfl (by first | exact zinc | rfl) rfl ?_
    refine z_goto C 4 dX3_lineUp_75 (by decide) ?_
    refine z_fgt (ih (30 - (i + 1)) 0 0 [some (.ref (bd 20)), some (.int (nI (mLinR g (i + 1)).length)), some (.int (nI (i + 1))), none] _ (by omega) ⟨i + 1, v, rfl, rfl, rfl, rfl, hi2, hX, ?_, q4⟩) ?_
    · simp only [mLinR, if_neg hno]; exact q3
    · simp only [mLinR, if_neg hno]; simp [zle]
  have hyes : mOcc g i = true := by
    have c3 : ¬ g 0 i = -1 := c2
    simp [mOcc, c3]
  have hlin : mLinR g (i + 1) = insR g i (mLinR g i) := by simp only [mLinR, if_pos hyes]
  have hmem : ∀ x ∈ mLinR g i, x < i := fun x hx => (mLinR_mem.mp hx).1
  refine z_iload_n C dX3_lineUp_20 rfl ?_
  refine z_istore_n C (L1 := [_, _, _, _]) dX3_lineUp_21 (Nat.le_of_ble_eq_true rfl) rfl ?_
  refine z_loop (fun n cs ss L w3 => ∃ (A B : List Nat) (v2 : Nat → Int32), n = A.length ∧ cs = 0 ∧ ss = 0 ∧ L = [some (.ref (bd 20)), some (.int (nI (mLinR g i).length)), some (.int (nI i)), some (.int (nI A.length))] ∧ (insR g i A).reverse ++ B = (insR g i (mLinR g i)).reverse ∧ A.length ≤ i ∧ (∀ x ∈ A, x < i) ∧ MP z bd (va_up g 15 v2) f w3 ∧ zIs v2 A.reverse ∧ (∀ j x : Nat, B[j]? = some x → v2 (A.length + 1 + j) = nI x) ∧ zFm w w3)
    ⟨mLinR g i, [], v, rfl, rfl, rfl, rfl, List.append_nil _, hle, hmem, hX, q3, fun j x hj => by simp at hj, q4⟩ ?_
  rintro n cs ss L w3 ⟨A, B, v2, rfl, rfl, rfl, rfl, r1, r2, r3, r4, r5, r6, r7⟩ ih2
  have hY := r4
  obtain ⟨m20, m21, m22, m23, m24, m25, m26, m27, m28, m29, m30, m31, m32, m33, m34, m35, m36, m37, m38⟩ := r4.all
  have fin : (insR g i A = i :: A) → ZJ z p l e (zrm 1 0 0) s m args below meth c (vx_MQ below (zQc z (fun r w1 => r = some (.int (nI (mLine g).length)) ∧ (∃ v : Nat → Int32, MP z bd (va_up g 15 v) f w1 ∧ zIs v (mLine g)) ∧ zFm w w1)) (zXC z zNo) args s 0 0 (zA z)) 0 0 62 [some (.ref (bd 20)), some (.int (nI (mLinR g i).length)), some (.int (nI i)), some (.int (nI A.length))] [] w3 := by
    intro hA
    refine z_aload_n C dX3_lineUp_62 rfl ?_
    refine z_getf C zf_X3_60 dX3_lineUp_63 (by first | assumption | exact zk_eq | exact zk_ne (by first | assumption | exact zk_eq | exact zk_ne (by first | assumption | exact zk_eq | exact zk_ne (by first | assumption | exact zk_eq | exact zk_ne (by first | assumption | exact zk_eq | exact zk_ne (by first | assumption | exact zk_eq) (by first | decide | omega)) (by first | decide | omega)) (by first | decide | omega)) (by first | decide | omega)) (by first | decide | omega)) (by rfl) ?_
    refine z_iload_n C dX3_lineUp_66 rfl ?_
    refine z_iload_n C dX3_lineUp_67 rfl ?_
    refine z_iast C dX3_lineUp_68 (by first | assumption | exact zk_eq | exact zk_ne (by first | assumption | exact zk_eq | exact zk_ne (by first | assumption | exact zk_eq | exact zk_ne (by first | assumption | exact zk_eq | exact zk_ne (by first | assumption | exact zk_eq | exact zk_ne (by first | assumption | exact zk_eq) (by first | decide | omega)) (by first | decide | omega)) (by first | decide | omega)) (by first | decide | omega)) (by first | decide | omega)) (by first | rfl | assumption) (by first | assumption | omega | decide) (by first | decide | omega) ?_
    refine z_iinc C (L1 := [_, _, _, _]) _ dX3_lineUp_69 rfl (by first | exact zinc | rfl) rfl ?_
    refine z_iinc C (L1 := [_, _, _, _]) _ dX3_lineUp_72 rfl (by first | exact zinc | rfl) rfl ?_
    refine z_goto C 4 dX3_lineUp_75 (by decide) ?_
    have hY2 := hY.arr 15 (va_up v2 A.length (nI i))
    rw [bx_uu] at hY2
    rw [hA, List.reverse_cons, List.append_assoc] at r1
    refine z_fgt (ih (30 - (i + 1)) 0 0 [some (.ref (bd 20)), some (.int (nI (mLinR g (i + 1)).length)), some (.int (nI (i + 1))), none] _ (by omega) ⟨i + 1, va_up v2 A.length (nI i), rfl, rfl, rfl, rfl, hi2, hY2, ?_, r7.up (by decide) (by decide)⟩) ?_
    · rw [hlin, ← r1]
      intro j x hj
      rcases Nat.lt_trichotomy j A.length with h1 | h1 | h1
      · rw [List.getElem?_append_left (by simpa using h1)] at hj
        rw [va_up_ne _ _ (by omega)]
        exact r5 j x hj
      · subst h1
        rw [List.getElem?_append_right (by simp)] at hj
        simp at hj
        rw [va_up_self, hj]
      · rw [List.getElem?_append_right (by simp; omega), List.length_reverse, show j - A.length = (j - A.length - 1) + 1 by omega, show [i] ++ B = i :: B from rfl, List.getElem?_cons_succ] at hj
        rw [va_up_ne _ _ (by omega)]
        have := r6 _ x hj
        rw [show A.length + 1 + (j - A.length - 1) = j by omega] at this
        exact this
    · rw [hlin, (insR_perm _).length_eq]
      simp [zle]
  refine z_iload_n C dX3_lineUp_22 rfl ?_
  refine z_if_le C 62 dX3_lineUp_23 (by decide) (fun c3 => ?_) (fun c3 => ?_)
  · cases A with
    | nil => exact fin rfl
    | cons y A3 => exact absurd c3 (nI_nle (by simp) (by simp at r2 ⊢; omega))
  cases A with
  | nil => exact absurd (Int32.le_refl 0) c3
  | cons y A3 =>
    have el : (y :: A3).length = A3.length + 1 := rfl
    rw [el] at r2 r6
    rw [el]
    have hy : y < i := r3 y List.mem_cons_self
    have hvy : v2 A3.length = nI y := r5 A3.length y (by rw [List.reverse_cons, List.getElem?_append_right (by simp)]; simp)
    refine z_aload_n C dX3_lineUp_26 rfl ?_
    refine z_iload_n C dX3_lineUp_27 rfl ?_
    refine z_aload_n C dX3_lineUp_28 rfl ?_
    refine z_getf C zf_X3_60 dX3_lineUp_29 (by first | assumption | exact zk_eq | exact zk_ne (by first | assumption | exact zk_eq | exact zk_ne (by first | assumption | exact zk_eq | exact zk_ne (by first | assumption | exact zk_eq | exact zk_ne (by first | assumption | exact zk_eq | exact zk_ne (by first | assumption | exact zk_eq) (by first | decide | omega)) (by first | decide | omega)) (by first | decide | omega)) (by first | decide | omega)) (by first | decide | omega)) (by rfl) ?_
    refine z_iload_n C dX3_lineUp_32 rfl ?_
    refine z_iconst C (1) dX3_lineUp_33 (by decide) ?_
    refine z_isub C dX3_lineUp_34 ?_
    rw [show nI (A3.length + 1) - 1 = nI A3.length from nI_pred _]
    refine z_iald C dX3_lineUp_35 (by first | assumption | exact zk_eq | exact zk_ne (by first | assumption | exact zk_eq | exact zk_ne (by first | assumption | exact zk_eq | exact zk_ne (by first | assumption | exact zk_eq | exact zk_ne (by first | assumption | exact zk_eq | exact zk_ne (by first | assumption | exact zk_eq) (by first | decide | omega)) (by first | decide | omega)) (by first | decide | omega)) (by first | decide | omega)) (by first | decide | omega)) (by first | rfl | assumption) (by first | assumption | omega | decide) (by first | decide | omega) ?_
    rw [show va_up g 15 v2 15 A3.length = nI y by rw [va_up_self]; exact hvy]
    refine z_callV C zm_X3_isBefore zl_X3_79 (m_isBefore (a := i) (b := y) hl hY hi2 (by omega)) dX3_lineUp_36 (by first | assumption | exact zk_eq | exact zk_ne (by first | assumption | exact zk_eq | exact zk_ne (by first | assumption | exact zk_eq | exact zk_ne (by first | assumption | exact zk_eq | exact zk_ne (by first | assumption | exact zk_eq | exact zk_ne (by first | assumption | exact zk_eq) (by first | decide | omega)) (by first | decide | omega)) (by first | decide | omega)) (by first | decide | omega)) (by first | decide | omega)) (by rfl) (by rfl) (by rfl) (by exact Nat.le_of_ble_eq_true rfl) rfl (by exact ⟨Nat.le_of_ble_eq_true rfl, Nat.le_of_ble_eq_true rfl⟩) (by first | exact ⟨Nat.le_of_ble_eq_true rfl, Nat.le_of_ble_eq_true rfl⟩ | (simp only [zrm]; omega)) (fun _ _ h => z_xno h) (fun r w1 hq => ?_)
    obtain ⟨rfl, rfl⟩ := hq
    have hbe : bef (va_up g 15 v2) i y = bef g i y := rfl
    rw [hbe]
    refine z_if_eq C 62 dX3_lineUp_39 (by decide) (fun c4 => ?_) (fun c4 => ?_)
    · have c5 := zb_eq0.mp c4
      exact fin (by simp only [insR, c5, Bool.false_eq_true, if_false])
    · have c5 := zb_tt c4
      refine z_aload_n C dX3_lineUp_42 rfl ?_
      refine z_getf C zf_X3_60 dX3_lineUp_43 (by first | assumption | exact zk_eq | exact zk_ne (by first | assumption | exact zk_eq | exact zk_ne (by first | assumption | exact zk_eq | exact zk_ne (by first | assumption | exact zk_eq | exact zk_ne (by first | assumption | exact zk_eq | exact zk_ne (by first | assumption | exact zk_eq) (by first | decide | omega)) (by first | decide | omega)) (by first | decide | omega)) (by first | decide | omega)) (by first | decide | omega)) (by rfl) ?_
      refine z_iload_n C dX3_lineUp_46 rfl ?_
      refine z_aload_n C dX3_lineUp_47 rfl ?_
      refine z_getf C zf_X3_60 dX3_lineUp_48 (by first | assumption | exact zk_eq | exact zk_ne (by first | assumption | exact zk_eq | exact zk_ne (by first | assumption | exact zk_eq | exact zk_ne (by first | assumption | exact zk_eq | exact zk_ne (by first | assumption | exact zk_eq | exact zk_ne (by first | assumption | exact zk_eq) (by first | decide | omega)) (by first | decide | omega)) (by first | decide | omega)) (by first | decide | omega)) (by first | decide | omega)) (by rfl) ?_
      refine z_iload_n C dX3_lineUp_51 rfl ?_
      refine z_iconst C (1) dX3_lineUp_52 (by decide) ?_
      refine z_isub C dX3_lineUp_53 ?_
      rw [show nI (A3.length + 1) - 1 = nI A3.length from nI_pred _]
      refine z_iald C dX3_lineUp_54 (by first | assumption | exact zk_eq | exact zk_ne (by first | assumption | exact zk_eq | exact zk_ne (by first | assumption | exact zk_eq | exact zk_ne (by first | assumption | exact zk_eq | exact zk_ne (by first | assumption | exact zk_eq | exact zk_ne (by first | assumption | exact zk_eq) (by first | decide | omega)) (by first | decide | omega)) (by first | decide | omega)) (by first | decide | omega)) (by first | decide | omega)) (by first | rfl | assumption) (by first | assumption | omega | decide) (by first | decide | omega) ?_
      rw [show va_up g 15 v2 15 A3.length = nI y by rw [va_up_self]; exact hvy]
      refine z_iast C dX3_lineUp_55 (by first | assumption | exact zk_eq | exact zk_ne (by first | assumption | exact zk_eq | exact zk_ne (by first | assumption | exact zk_eq | exact zk_ne (by first | assumption | exact zk_eq | exact zk_ne (by first | assumption | exact zk_eq | exact zk_ne (by first | assumption | exact zk_eq) (by first | decide | omega)) (by first | decide | omega)) (by first | decide | omega)) (by first | decide | omega)) (by first | decide | omega)) (by first | rfl | assumption) (by first | assumption | omega | decide) (by first | decide | omega) ?_
      refine z_iinc C (L1 := [_, _, _, _]) _ dX3_lineUp_56 rfl (by first | exact zdec | rfl) rfl ?_
      refine z_goto C 22 dX3_lineUp_59 (by decide) ?_
      have hY2 := hY.arr 15 (va_up v2 (A3.length + 1) (nI y))
      rw [bx_uu] at hY2
      refine ih2 A3.length 0 0 _ _ (by rw [el]; omega) ⟨A3, y :: B, va_up v2 (A3.length + 1) (nI y), rfl, rfl, rfl, rfl, ?_, by omega, fun x hx => r3 x (List.mem_cons_of_mem _ hx), hY2, ?_, ?_, r7.up (by decide) (by decide)⟩
      · rw [← r1]
        simp only [insR, c5, if_true, List.reverse_cons, List.append_assoc]
        rfl
      · intro j x hj
        have hjl : j < A3.length := by
          have := (List.getElem?_eq_some_iff.mp hj).1
          simpa using this
        rw [va_up_ne _ _ (by omega)]
        refine r5 j x ?_
        rw [List.reverse_cons, List.getElem?_append_left (by simpa using hjl)]
        exact hj
      · intro j x hj
        cases j with
        | zero =>
          simp at hj
          rw [← hj]
          exact va_up_self _ _ _
        | succ j =>
          simp at hj
          rw [va_up_ne _ _ (by omega)]
          have := r6 j x hj
          rw [show A3.length + 1 + 1 + j = A3.length + 1 + (j + 1) by omega] at this
          exact this
theorem m_works (hl : l.stackTraces = false) (h : MP z bd g f w) {k : Nat} (hk : k < 30) (t : Int32) : ZM l z mX3_works 0 0 0 [.ref (bd 20), .int (nI k), .int t] w (fun r w1 => r = none ∧ MP z bd (mWoG g k t) (mWoF g f k t) w1 ∧ zFm w w1) zNo := by
  obtain ⟨m20, m21, m22, m23, m24, m25, m26, m27, m28, m29, m30, m31, m32, m33, m34, m35, m36, m37, m38⟩ := h.all
  refine zbody (M := mX3_works) (L0 := [_, _, _]) hl (by simp [Value.category]) (Nat.le_of_ble_eq_true rfl) (by decide +kernel) rfl ?_
  intro p e s m args below meth c C hX hnm hret
  replace C : zC z p l s m args meth c cX3_works RX3 3 := C
  replace hret : meth.sig.returnType = none := hret
  refine z_aload_n C dX3_works_0 rfl ?_
  refine z_getf C zf_X3_38 dX3_works_1 (by first | assumption | exact zk_eq | exact zk_ne (by first | assumption | exact zk_eq | exact zk_ne (by first | assumption | exact zk_eq | exact zk_ne (by first | assumption | exact zk_eq | exact zk_ne (by first | assumption | exact zk_eq | exact zk_ne (by first | assumption | exact zk_eq) (by first | decide | omega)) (by first | decide | omega)) (by first | decide | omega)) (by first | decide | omega)) (by first | decide | omega)) (by rfl) ?_
  refine z_iload_n C dX3_works_4 rfl ?_
  refine z_dup2 C dX3_works_5 rfl rfl ?_
  refine z_iald C dX3_works_6 (by first | assumption | exact zk_eq | exact zk_ne (by first | assumption | exact zk_eq | exact zk_ne (by first | assumption | exact zk_eq | exact zk_ne (by first | assumption | exact zk_eq | exact zk_ne (by first | assumption | exact zk_eq | exact zk_ne (by first | assumption | exact zk_eq) (by first | decide | omega)) (by first | decide | omega)) (by first | decide | omega)) (by first | decide | omega)) (by first | decide | omega)) (by first | rfl | assumption) (by first | assumption | omega | decide) (by first | decide | omega) ?_
  refine z_iload_n C dX3_works_7 rfl ?_
  refine z_aload_n C dX3_works_8 rfl ?_
  refine z_getf C zf_X3_35 dX3_works_9 (by first | assumption | exact zk_eq | exact zk_ne (by first | assumption | exact zk_eq | exact zk_ne (by first | assumption | exact zk_eq | exact zk_ne (by first | assumption | exact zk_eq | exact zk_ne (by first | assumption | exact zk_eq | exact zk_ne (by first | assumption | exact zk_eq) (by first | decide | omega)) (by first | decide | omega)) (by first | decide | omega)) (by first | decide | omega)) (by first | decide | omega)) (by rfl) ?_
  refine z_iload_n C dX3_works_12 rfl ?_
  refine z_iald C dX3_works_13 (by first | assumption | exact zk_eq | exact zk_ne (by first | assumption | exact zk_eq | exact zk_ne (by first | assumption | exact zk_eq | exact zk_ne (by first | assumption | exact zk_eq | exact zk_ne (by first | assumption | exact zk_eq | exact zk_ne (by first | assumption | exact zk_eq) (by first | decide | omega)) (by first | decide | omega)) (by first | decide | omega)) (by first | decide | omega)) (by first | decide | omega)) (by first | rfl | assumption) (by first | assumption | omega | decide) (by first | decide | omega) ?_
  refine z_isub C dX3_works_14 ?_
  refine z_iadd C dX3_works_15 ?_
  refine z_iast C dX3_works_16 (by first | assumption | exact zk_eq | exact zk_ne (by first | assumption | exact zk_eq | exact zk_ne (by first | assumption | exact zk_eq | exact zk_ne (by first | assumption | exact zk_eq | exact zk_ne (by first | assumption | exact zk_eq | exact zk_ne (by first | assumption | exact zk_eq) (by first | decide | omega)) (by first | decide | omega)) (by first | decide | omega)) (by first | decide | omega)) (by first | decide | omega)) (by first | rfl | assumption) (by first | assumption | omega | decide) (by first | decide | omega) ?_
  refine z_aload_n C dX3_works_17 rfl ?_
  refine z_dup C dX3_works_18 rfl ?_
  refine z_getf C zf_X3_141 dX3_works_19 (by first | assumption | exact zk_eq | exact zk_ne (by first | assumption | exact zk_eq | exact zk_ne (by first | assumption | exact zk_eq | exact zk_ne (by first | assumption | exact zk_eq | exact zk_ne (by first | assumption | exact zk_eq | exact zk_ne (by first | assumption | exact zk_eq) (by first | decide | omega)) (by first | decide | omega)) (by first | decide | omega)) (by first | decide | omega)) (by first | decide | omega)) (by rfl) ?_
  refine z_iload_n C dX3_works_22 rfl ?_
  refine z_aload_n C dX3_works_23 rfl ?_
  refine z_getf C zf_X3_35 dX3_works_24 (by first | assumption | exact zk_eq | exact zk_ne (by first | assumption | exact zk_eq | exact zk_ne (by first | assumption | exact zk_eq | exact zk_ne (by first | assumption | exact zk_eq | exact zk_ne (by first | assumption | exact zk_eq | exact zk_ne (by first | assumption | exact zk_eq) (by first | decide | omega)) (by first | decide | omega)) (by first | decide | omega)) (by first | decide | omega)) (by first | decide | omega)) (by rfl) ?_
  refine z_iload_n C dX3_works_27 rfl ?_
  refine z_iald C dX3_works_28 (by first | assumption | exact zk_eq | exact zk_ne (by first | assumption | exact zk_eq | exact zk_ne (by first | assumption | exact zk_eq | exact zk_ne (by first | assumption | exact zk_eq | exact zk_ne (by first | assumption | exact zk_eq | exact zk_ne (by first | assumption | exact zk_eq) (by first | decide | omega)) (by first | decide | omega)) (by first | decide | omega)) (by first | decide | omega)) (by first | decide | omega)) (by first | rfl | assumption) (by first | assumption | omega | decide) (by first | decide | omega) ?_
  refine z_isub C dX3_works_29 ?_
  refine z_iadd C dX3_works_30 ?_
  refine z_putf C (fs1 := [_, _, _, _, _, _, _, _, _, _, _, _, _, _, _, _, _, _, _, _, _, _, _, _, _, _]) zp_X3_141 dX3_works_31 (by first | assumption | exact zk_eq | exact zk_ne (by first | assumption | exact zk_eq | exact zk_ne (by first | assumption | exact zk_eq | exact zk_ne (by first | assumption | exact zk_eq | exact zk_ne (by first | assumption | exact zk_eq | exact zk_ne (by first | assumption | exact zk_eq) (by first | decide | omega)) (by first | decide | omega)) (by first | decide | omega)) (by first | decide | omega)) (by first | decide | omega)) (by first | rfl | exact zb_nar _ | assumption) (by first | rfl | exact zb_fit _ | assumption) (by exact Nat.le_of_ble_eq_true rfl) (by rfl) ?_
  refine z_aload_n C dX3_works_34 rfl ?_
  refine z_getf C zf_X3_32 dX3_works_35 (by first | assumption | exact zk_eq | exact zk_ne (by first | assumption | exact zk_eq | exact zk_ne (by first | assumption | exact zk_eq | exact zk_ne (by first | assumption | exact zk_eq | exact zk_ne (by first | assumption | exact zk_eq | exact zk_ne (by first | assumption | exact zk_eq) (by first | decide | omega)) (by first | decide | omega)) (by first | decide | omega)) (by first | decide | omega)) (by first | decide | omega)) (by rfl) ?_
  refine z_iload_n C dX3_works_38 rfl ?_
  refine z_iconst C (-1) dX3_works_39 (by decide) ?_
  refine z_iast C dX3_works_40 (by first | assumption | exact zk_eq | exact zk_ne (by first | assumption | exact zk_eq | exact zk_ne (by first | assumption | exact zk_eq | exact zk_ne (by first | assumption | exact zk_eq | exact zk_ne (by first | assumption | exact zk_eq | exact zk_ne (by first | assumption | exact zk_eq) (by first | decide | omega)) (by first | decide | omega)) (by first | decide | omega)) (by first | decide | omega)) (by first | decide | omega)) (by first | rfl | assumption) (by first | assumption | omega | decide) (by first | decide | omega) ?_
  refine z_vret C hret dX3_works_41 (by first | exact Nat.le_of_ble_eq_true rfl | omega) (by first | exact Nat.le_of_ble_eq_true rfl | omega) ?_
  exact ⟨rfl, ((h.arr 9 (va_up (g 9) k (g 9 k + (t - g 8 k)))).obj (mWoF g f k t)).arr 7 (va_up (g 7) k (-1)), (((zFm.refl w).up (by decide) (by decide)).up (by decide) (by decide)).up (by decide) (by decide)⟩
theorem m_fills (hl : l.stackTraces = false) (h : MP z bd g f w) {k x : Nat} (hk : k < 30) (hx : x < 16) : ZM l z mX3_fills 0 0 0 [.ref (bd 20), .int (nI k), .int (nI x)] w (fun r w1 => r = none ∧ MP z bd (mFiG g f k x) (mFiF f) w1 ∧ zFm w w1) zNo := by
  obtain ⟨m20, m21, m22, m23, m24, m25, m26, m27, m28, m29, m30, m31, m32, m33, m34, m35, m36, m37, m38⟩ := h.all
  refine zbody (M := mX3_fills) (L0 := [_, _, _]) hl (by simp [Value.category]) (Nat.le_of_ble_eq_true rfl) (by decide +kernel) rfl ?_
  intro p e s m args below meth c C hX hnm hret
  replace C : zC z p l s m args meth c cX3_fills RX3 3 := C
  replace hret : meth.sig.returnType = none := hret
  refine z_aload_n C dX3_fills_0 rfl ?_
  refine z_getf C zf_X3_53 dX3_fills_1 (by first | assumption | exact zk_eq | exact zk_ne (by first | assumption | exact zk_eq | exact zk_ne (by first | assumption | exact zk_eq | exact zk_ne (by first | assumption | exact zk_eq | exact zk_ne (by first | assumption | exact zk_eq | exact zk_ne (by first | assumption | exact zk_eq) (by first | decide | omega)) (by first | decide | omega)) (by first | decide | omega)) (by first | decide | omega)) (by first | decide | omega)) (by rfl) ?_
  refine z_iload_n C dX3_fills_4 rfl ?_
  refine z_iload_n C dX3_fills_5 rfl ?_
  refine z_iast C dX3_fills_6 (by first | assumption | exact zk_eq | exact zk_ne (by first | assumption | exact zk_eq | exact zk_ne (by first | assumption | exact zk_eq | exact zk_ne (by first | assumption | exact zk_eq | exact zk_ne (by first | assumption | exact zk_eq | exact zk_ne (by first | assumption | exact zk_eq) (by first | decide | omega)) (by first | decide | omega)) (by first | decide | omega)) (by first | decide | omega)) (by first | decide | omega)) (by first | rfl | assumption) (by first | assumption | omega | decide) (by first | decide | omega) ?_
  refine z_aload_n C dX3_fills_7 rfl ?_
  refine z_getf C zf_X3_32 dX3_fills_8 (by first | assumption | exact zk_eq | exact zk_ne (by first | assumption | exact zk_eq | exact zk_ne (by first | assumption | exact zk_eq | exact zk_ne (by first | assumption | exact zk_eq | exact zk_ne (by first | assumption | exact zk_eq | exact zk_ne (by first | assumption | exact zk_eq) (by first | decide | omega)) (by first | decide | omega)) (by first | decide | omega)) (by first | decide | omega)) (by first | decide | omega)) (by rfl) ?_
  refine z_iload_n C dX3_fills_11 rfl ?_
  refine z_iload_n C dX3_fills_12 rfl ?_
  refine z_iast C dX3_fills_13 (by first | assumption | exact zk_eq | exact zk_ne (by first | assumption | exact zk_eq | exact zk_ne (by first | assumption | exact zk_eq | exact zk_ne (by first | assumption | exact zk_eq | exact zk_ne (by first | assumption | exact zk_eq | exact zk_ne (by first | assumption | exact zk_eq) (by first | decide | omega)) (by first | decide | omega)) (by first | decide | omega)) (by first | decide | omega)) (by first | decide | omega)) (by first | rfl | assumption) (by first | assumption | omega | decide) (by first | decide | omega) ?_
  refine z_aload_n C dX3_fills_14 rfl ?_
  refine z_getf C zf_X3_35 dX3_fills_15 (by first | assumption | exact zk_eq | exact zk_ne (by first | assumption | exact zk_eq | exact zk_ne (by first | assumption | exact zk_eq | exact zk_ne (by first | assumption | exact zk_eq | exact zk_ne (by first | assumption | exact zk_eq | exact zk_ne (by first | assumption | exact zk_eq) (by first | decide | omega)) (by first | decide | omega)) (by first | decide | omega)) (by first | decide | omega)) (by first | decide | omega)) (by rfl) ?_
  refine z_iload_n C dX3_fills_18 rfl ?_
  refine z_aload_n C dX3_fills_19 rfl ?_
  refine z_getf C zf_X3_115 dX3_fills_20 (by first | assumption | exact zk_eq | exact zk_ne (by first | assumption | exact zk_eq | exact zk_ne (by first | assumption | exact zk_eq | exact zk_ne (by first | assumption | exact zk_eq | exact zk_ne (by first | assumption | exact zk_eq | exact zk_ne (by first | assumption | exact zk_eq) (by first | decide | omega)) (by first | decide | omega)) (by first | decide | omega)) (by first | decide | omega)) (by first | decide | omega)) (by rfl) ?_
  refine z_iast C dX3_fills_23 (by first | assumption | exact zk_eq | exact zk_ne (by first | assumption | exact zk_eq | exact zk_ne (by first | assumption | exact zk_eq | exact zk_ne (by first | assumption | exact zk_eq | exact zk_ne (by first | assumption | exact zk_eq | exact zk_ne (by first | assumption | exact zk_eq) (by first | decide | omega)) (by first | decide | omega)) (by first | decide | omega)) (by first | decide | omega)) (by first | decide | omega)) (by first | rfl | assumption) (by first | assumption | omega | decide) (by first | decide | omega) ?_
  refine z_aload_n C dX3_fills_24 rfl ?_
  refine z_getf C zf_X3_29 dX3_fills_25 (by first | assumption | exact zk_eq | exact zk_ne (by first | assumption | exact zk_eq | exact zk_ne (by first | assumption | exact zk_eq | exact zk_ne (by first | assumption | exact zk_eq | exact zk_ne (by first | assumption | exact zk_eq | exact zk_ne (by first | assumption | exact zk_eq) (by first | decide | omega)) (by first | decide | omega)) (by first | decide | omega)) (by first | decide | omega)) (by first | decide | omega)) (by rfl) ?_
  refine z_iload_n C dX3_fills_28 rfl ?_
  refine z_iconst C (1) dX3_fills_29 (by decide) ?_
  refine z_zast C dX3_fills_30 (by first | assumption | exact zk_eq | exact zk_ne (by first | assumption | exact zk_eq | exact zk_ne (by first | assumption | exact zk_eq | exact zk_ne (by first | assumption | exact zk_eq | exact zk_ne (by first | assumption | exact zk_eq | exact zk_ne (by first | assumption | exact zk_eq) (by first | decide | omega)) (by first | decide | omega)) (by first | decide | omega)) (by first | decide | omega)) (by first | decide | omega)) (by first | rfl | assumption) (by first | assumption | omega | decide) (by first | decide | omega) (by first | rfl | exact zb_vp _ | assumption) ?_
  refine z_aload_n C dX3_fills_31 rfl ?_
  refine z_iconst C (1) dX3_fills_32 (by decide) ?_
  refine z_putf C (fs1 := [_, _, _, _, _, _, _, _, _, _, _, _, _, _, _, _, _, _, _, _, _, _, _, _, _, _]) zp_X3_118 dX3_fills_33 (by first | assumption | exact zk_eq | exact zk_ne (by first | assumption | exact zk_eq | exact zk_ne (by first | assumption | exact zk_eq | exact zk_ne (by first | assumption | exact zk_eq | exact zk_ne (by first | assumption | exact zk_eq | exact zk_ne (by first | assumption | exact zk_eq) (by first | decide | omega)) (by first | decide | omega)) (by first | decide | omega)) (by first | decide | omega)) (by first | decide | omega)) (by first | rfl | exact zb_nar _ | assumption) (by first | rfl | exact zb_fit _ | assumption) (by exact Nat.le_of_ble_eq_true rfl) (by rfl) ?_
  refine z_vret C hret dX3_fills_36 (by first | exact Nat.le_of_ble_eq_true rfl | omega) (by first | exact Nat.le_of_ble_eq_true rfl | omega) ?_
  exact ⟨rfl, ((((h.arr 14 (va_up (g 14) x (nI k))).arr 7 (va_up (g 7) k (nI x))).arr 8 (va_up (g 8) k (f 19))).arr 6 (va_up (g 6) k 1)).obj (mFiF f), (((((zFm.refl w).up (by decide) (by decide)).up (by decide) (by decide)).up (by decide) (by decide)).up (by decide) (by decide)).up (by decide) (by decide)⟩
theorem m_refuses (hl : l.stackTraces = false) (h : MP z bd g f w) {k b : Nat} (hk : k < 30) (hb : g 1 k = nI b) (hb4 : b < 4) : ZM l z mX3_refuses 1 0 0 [.ref (bd 20), .int (nI k)] w (fun r w1 => r = none ∧ MP z bd (mReG g f k) (mReF g f k) w1 ∧ zFm w w1) zNo := by
  obtain ⟨m20, m21, m22, m23, m24, m25, m26, m27, m28, m29, m30, m31, m32, m33, m34, m35, m36, m37, m38⟩ := h.all
  have hcl : (g 1 k).toNatClampNeg = b := by rw [hb, nI_clamp (by omega)]
  refine zbody (M := mX3_refuses) (L0 := [_, _]) hl (by simp [Value.category]) (Nat.le_of_ble_eq_true rfl) (by decide +kernel) rfl ?_
  intro p e s m args below meth c C hX hnm hret
  replace C : zC z p l s m args meth c cX3_refuses RX3 2 := C
  replace hret : meth.sig.returnType = none := hret
  refine z_aload_n C dX3_refuses_0 rfl ?_
  refine z_getf C zf_X3_41 dX3_refuses_1 (by first | assumption | exact zk_eq | exact zk_ne (by first | assumption | exact zk_eq | exact zk_ne (by first | assumption | exact zk_eq | exact zk_ne (by first | assumption | exact zk_eq | exact zk_ne (by first | assumption | exact zk_eq | exact zk_ne (by first | assumption | exact zk_eq) (by first | decide | omega)) (by first | decide | omega)) (by first | decide | omega)) (by first | decide | omega)) (by first | decide | omega)) (by rfl) ?_
  refine z_iload_n C dX3_refuses_4 rfl ?_
  refine z_dup2 C dX3_refuses_5 rfl rfl ?_
  refine z_iald C dX3_refuses_6 (by first | assumption | exact zk_eq | exact zk_ne (by first | assumption | exact zk_eq | exact zk_ne (by first | assumption | exact zk_eq | exact zk_ne (by first | assumption | exact zk_eq | exact zk_ne (by first | assumption | exact zk_eq | exact zk_ne (by first | assumption | exact zk_eq) (by first | decide | omega)) (by first | decide | omega)) (by first | decide | omega)) (by first | decide | omega)) (by first | decide | omega)) (by first | rfl | assumption) (by first | assumption | omega | decide) (by first | decide | omega) ?_
  refine z_iconst C (1) dX3_refuses_7 (by decide) ?_
  refine z_iadd C dX3_refuses_8 ?_
  refine z_iast C dX3_refuses_9 (by first | assumption | exact zk_eq | exact zk_ne (by first | assumption | exact zk_eq | exact zk_ne (by first | assumption | exact zk_eq | exact zk_ne (by first | assumption | exact zk_eq | exact zk_ne (by first | assumption | exact zk_eq | exact zk_ne (by first | assumption | exact zk_eq) (by first | decide | omega)) (by first | decide | omega)) (by first | decide | omega)) (by first | decide | omega)) (by first | decide | omega)) (by first | rfl | assumption) (by first | assumption | omega | decide) (by first | decide | omega) ?_
  refine z_aload_n C dX3_refuses_10 rfl ?_
  refine z_getf C zf_X3_44 dX3_refuses_11 (by first | assumption | exact zk_eq | exact zk_ne (by first | assumption | exact zk_eq | exact zk_ne (by first | assumption | exact zk_eq | exact zk_ne (by first | assumption | exact zk_eq | exact zk_ne (by first | assumption | exact zk_eq | exact zk_ne (by first | assumption | exact zk_eq) (by first | decide | omega)) (by first | decide | omega)) (by first | decide | omega)) (by first | decide | omega)) (by first | decide | omega)) (by rfl) ?_
  refine z_aload_n C dX3_refuses_14 rfl ?_
  refine z_getf C zf_X3_13 dX3_refuses_15 (by first | assumption | exact zk_eq | exact zk_ne (by first | assumption | exact zk_eq | exact zk_ne (by first | assumption | exact zk_eq | exact zk_ne (by first | assumption | exact zk_eq | exact zk_ne (by first | assumption | exact zk_eq | exact zk_ne (by first | assumption | exact zk_eq) (by first | decide | omega)) (by first | decide | omega)) (by first | decide | omega)) (by first | decide | omega)) (by first | decide | omega)) (by rfl) ?_
  refine z_iload_n C dX3_refuses_18 rfl ?_
  refine z_iald C dX3_refuses_19 (by first | assumption | exact zk_eq | exact zk_ne (by first | assumption | exact zk_eq | exact zk_ne (by first | assumption | exact zk_eq | exact zk_ne (by first | assumption | exact zk_eq | exact zk_ne (by first | assumption | exact zk_eq | exact zk_ne (by first | assumption | exact zk_eq) (by first | decide | omega)) (by first | decide | omega)) (by first | decide | omega)) (by first | decide | omega)) (by first | decide | omega)) (by first | rfl | assumption) (by first | assumption | omega | decide) (by first | decide | omega) ?_
  refine z_zald C dX3_refuses_20 (by first | assumption | exact zk_eq | exact zk_ne (by first | assumption | exact zk_eq | exact zk_ne (by first | assumption | exact zk_eq | exact zk_ne (by first | assumption | exact zk_eq | exact zk_ne (by first | assumption | exact zk_eq | exact zk_ne (by first | assumption | exact zk_eq) (by first | decide | omega)) (by first | decide | omega)) (by first | decide | omega)) (by first | decide | omega)) (by first | decide | omega)) (by first | rfl | assumption) (by first | assumption | omega | decide) (by first | decide | omega) ?_
  have h2 := h.arr 10 (va_up (g 10) k (g 10 k + 1))
  have m20' := h2.1
  refine z_if_eq C 29 dX3_refuses_21 (by decide) (fun c1 => ?_) (fun c1 => ?_)
  · refine z_vret C hret dX3_refuses_29 (by first | exact Nat.le_of_ble_eq_true rfl | omega) (by first | exact Nat.le_of_ble_eq_true rfl | omega) ?_
    unfold mReG mReF
    rw [hcl, if_pos c1, if_pos c1]
    exact ⟨rfl, h2, (zFm.refl w).up (by decide) (by decide)⟩
  · refine z_aload_n C dX3_refuses_24 rfl ?_
    refine z_iload_n C dX3_refuses_25 rfl ?_
    refine z_callV C zm_X3_lowers zl_X3_98 (m_lowers hl h2 hk) dX3_refuses_26 (by first | assumption | exact zk_eq | exact zk_ne (by first | assumption | exact zk_eq | exact zk_ne (by first | assumption | exact zk_eq | exact zk_ne (by first | assumption | exact zk_eq | exact zk_ne (by first | assumption | exact zk_eq | exact zk_ne (by first | assumption | exact zk_eq) (by first | decide | omega)) (by first | decide | omega)) (by first | decide | omega)) (by first | decide | omega)) (by first | decide | omega)) (by rfl) (by rfl) (by rfl) (by exact Nat.le_of_ble_eq_true rfl) rfl (by exact ⟨Nat.le_of_ble_eq_true rfl, Nat.le_of_ble_eq_true rfl⟩) (by first | exact ⟨Nat.le_of_ble_eq_true rfl, Nat.le_of_ble_eq_true rfl⟩ | (simp only [zrm]; omega)) (fun _ _ h => z_xno h) (fun r w1 hq => ?_)
    obtain ⟨rfl, g1, g2⟩ := hq
    refine z_vret C hret dX3_refuses_29 (by first | exact Nat.le_of_ble_eq_true rfl | omega) (by first | exact Nat.le_of_ble_eq_true rfl | omega) ?_
    unfold mReG mReF
    rw [hcl, if_neg c1, if_neg c1]
    exact ⟨rfl, g1, ((zFm.refl w).up (by decide) (by decide)).tr g2⟩
end ZM2
