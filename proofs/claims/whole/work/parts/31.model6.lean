/-! HiringHallModel: signOn, setRule, order, setHours, workers, places, workerAt, nextUp, endShift, endPeriod -/
def mFree (g : Nat → Nat → Int32) : Option Nat := (List.range 30).find? (fun k => !mOcc g k)
def mNewG (g : Nat → Nat → Int32) (f : Nat → Int32) (k : Nat) (x y : Int32) : Nat → Nat → Int32 := va_up (va_up (va_up (va_up (va_up (va_up (va_up (va_up (va_up g 0 (va_up (g 0) k (f 11))) 1 (va_up (g 1) k x)) 3 (va_up (g 3) k y)) 4 (va_up (g 4) k 0)) 5 (va_up (g 5) k 0)) 6 (va_up (g 6) k 0)) 7 (va_up (g 7) k (-1))) 9 (va_up (g 9) k 0)) 10 (va_up (g 10) k 0)
def mSignOn (M : zMO) (x y : Int32) : Int32 × zMO :=
  if mIn x 0 3 = true ∧ mIn y 0 31 = true then match mFree M.1 with
    | some k => (M.2 11, (mLow (mNewG M.1 M.2 k x y) (va_up M.2 25 0) k, va_up (mLoF (va_up M.2 25 0)) 11 (M.2 11 + 1)))
    | none => (0, (M.1, va_up M.2 25 2))
  else (0, (M.1, va_up M.2 25 1))
theorem mAg.new {g1 g : Nat → Nat → Int32} (h : mAg g1 g) {f : Nat → Int32} {k : Nat} {x y : Int32} : mAg (mNewG g1 f k x y) (mNewG g f k x y) := by
  unfold mNewG
  refine ((((((((h.up ?_).up ?_).up ?_).up ?_).up ?_).up ?_).up ?_).up ?_).up ?_
  · rw [h 0 (by decide)]
  · rw [h 1 (by decide)]
  · rw [h 3 (by decide)]
  · rw [h 4 (by decide)]
  · rw [h 5 (by decide)]
  · rw [h 6 (by decide)]
  · rw [h 7 (by decide)]
  · rw [h 9 (by decide)]
  · rw [h 10 (by decide)]
theorem mFree_cnt (g : Nat → Nat → Int32) : mFree g = none ↔ ¬ mCnt g 30 < 30 := by
  unfold mFree mCnt
  rw [List.find?_eq_none]
  have h1 := List.countP_le_length (p := mOcc g) (l := List.range 30)
  have h2 : (List.range 30).countP (mOcc g) = (List.range 30).length ↔ ∀ a ∈ List.range 30, mOcc g a = true := List.countP_eq_length
  have h3 : (List.range 30).length = 30 := List.length_range
  constructor
  · intro h
    rw [h2.mpr (fun a ha => by simpa using h a ha), h3]
    omega
  · intro h
    have := h2.mp (by omega)
    intro a ha
    simp [this a ha]
def mNextUp (M : zMO) (x : Int32) : Int32 × zMO :=
  if mIn x 0 3 = true then (match (mLine M.1).find? (fun k => decide (M.1 1 k = x) && mRdy M.1 k) with | some k => M.1 0 k | none => -1, (M.1, va_up M.2 25 0)) else (0, (M.1, va_up M.2 25 1))
/-- the shift ends for those kept below i -/
def mEsh (t : Int32) (M : zMO) : Nat → zMO
  | 0 => M
  | i + 1 => (va_up (va_up (if mOcc (mEsh t M i).1 i = true ∧ ¬ (mEsh t M i).1 7 i = -1 then mWoG (mEsh t M i).1 i t else (mEsh t M i).1) 6 (va_up ((if mOcc (mEsh t M i).1 i = true ∧ ¬ (mEsh t M i).1 7 i = -1 then mWoG (mEsh t M i).1 i t else (mEsh t M i).1) 6) i 0)) 5 (va_up ((if mOcc (mEsh t M i).1 i = true ∧ ¬ (mEsh t M i).1 7 i = -1 then mWoG (mEsh t M i).1 i t else (mEsh t M i).1) 5) i 0), if mOcc (mEsh t M i).1 i = true ∧ ¬ (mEsh t M i).1 7 i = -1 then mWoF (mEsh t M i).1 (mEsh t M i).2 i t else (mEsh t M i).2)
theorem mEsh_succ (t : Int32) (M : zMO) (i : Nat) : (mOcc (mEsh t M i).1 i = true ∧ ¬ (mEsh t M i).1 7 i = -1 → mEsh t M (i + 1) = (va_up (va_up (mWoG (mEsh t M i).1 i t) 6 (va_up ((mWoG (mEsh t M i).1 i t) 6) i 0)) 5 (va_up ((mWoG (mEsh t M i).1 i t) 5) i 0), mWoF (mEsh t M i).1 (mEsh t M i).2 i t)) ∧ (¬ (mOcc (mEsh t M i).1 i = true ∧ ¬ (mEsh t M i).1 7 i = -1) → mEsh t M (i + 1) = (va_up (va_up (mEsh t M i).1 6 (va_up ((mEsh t M i).1 6) i 0)) 5 (va_up ((mEsh t M i).1 5) i 0), (mEsh t M i).2)) := by
  refine ⟨fun h => ?_, fun h => ?_⟩
  · rw [mEsh, if_pos h, if_pos h]
  · rw [mEsh, if_neg h, if_neg h]
def mEndShift (M : zMO) : Int32 × zMO := ((mEsh (M.2 18) (M.1, va_up M.2 25 0) 30).2 20, ((mEsh (M.2 18) (M.1, va_up M.2 25 0) 30).1, va_up (va_up (va_up (va_up (mEsh (M.2 18) (M.1, va_up M.2 25 0) 30).2 17 0) 19 0) 20 0) 21 0))
def mEpe (g : Nat → Nat → Int32) : Nat → (Nat → Nat → Int32) × Int32
  | 0 => (g, 0)
  | i + 1 => (va_up (va_up (mEpe g i).1 9 (va_up ((mEpe g i).1 9) i 0)) 10 (va_up ((mEpe g i).1 10) i 0), (mEpe g i).2 + (if mOcc (mEpe g i).1 i = true then mOwe (mEpe g i).1 i else 0))
theorem mEpe_keep (g : Nat → Nat → Int32) (k : Nat) (h9 : k ≠ 9) (h10 : k ≠ 10) : ∀ i : Nat, (mEpe g i).1 k = g k
  | 0 => rfl
  | i + 1 => by
    rw [mEpe]
    dsimp only
    rw [va_up_ne _ _ h10, va_up_ne _ _ h9]
    exact mEpe_keep g k h9 h10 i
def mEndPeriod (M : zMO) : Int32 × zMO := if M.2 21 = 0 then ((mEpe M.1 30).2, ((mEpe M.1 30).1, va_up M.2 25 0)) else (0, (M.1, va_up M.2 25 1))
section ZM6
variable {l : Launch} {z : zT} {w : zW} {b0 : Nat} {M : zMO}
theorem q_places (hl : l.stackTraces = false) (h : MM z b0 w M) : ZQ l z mX3_places b0 [] w (((M.2 17, (M.1, va_up M.2 25 0)) : Int32 × zMO)) := by
  obtain ⟨g, f⟩ := M
  obtain ⟨bd, g1, rfl, h, hA⟩ := h
  dsimp only at h hA
  have hH := h
  obtain ⟨m20, m21, m22, m23, m24, m25, m26, m27, m28, m29, m30, m31, m32, m33, m34, m35, m36, m37, m38⟩ := h.all
  refine zbody (M := mX3_places) (L0 := [_]) hl (by simp [Value.category]) (Nat.le_of_ble_eq_true rfl) (by decide +kernel) rfl ?_
  intro p e s m args below meth c C hX hnm hret
  replace C : zC z p l s m args meth c cX3_places RX3 1 := C
  replace hret : meth.sig.returnType = (some .int) := hret
  refine z_aload_n C dX3_places_0 rfl ?_
  refine z_iconst C (0) dX3_places_1 (by decide) ?_
  refine z_putf C (fs1 := [_, _, _, _, _, _, _, _, _, _, _, _, _, _, _, _, _, _, _, _, _, _, _, _, _, _]) zp_X3_69 dX3_places_2 (by first | assumption | exact zk_eq | exact zk_ne (by first | assumption | exact zk_eq | exact zk_ne (by first | assumption | exact zk_eq | exact zk_ne (by first | assumption | exact zk_eq | exact zk_ne (by first | assumption | exact zk_eq | exact zk_ne (by first | assumption | exact zk_eq) (by first | decide | omega)) (by first | decide | omega)) (by first | decide | omega)) (by first | decide | omega)) (by first | decide | omega)) (by first | rfl | exact zb_nar _ | assumption) (by first | rfl | exact zb_fit _ | assumption) (by exact Nat.le_of_ble_eq_true rfl) (by rfl) ?_
  refine z_aload_n C dX3_places_5 rfl ?_
  refine z_getf C zf_X3_112 dX3_places_6 (by first | assumption | exact zk_eq | exact zk_ne (by first | assumption | exact zk_eq | exact zk_ne (by first | assumption | exact zk_eq | exact zk_ne (by first | assumption | exact zk_eq | exact zk_ne (by first | assumption | exact zk_eq | exact zk_ne (by first | assumption | exact zk_eq) (by first | decide | omega)) (by first | decide | omega)) (by first | decide | omega)) (by first | decide | omega)) (by first | decide | omega)) (by rfl) ?_
  refine z_iret C hret dX3_places_9 (by first | exact Nat.le_of_ble_eq_true rfl | omega) (by first | exact Nat.le_of_ble_eq_true rfl | omega) ?_
  exact ZQ.fin (M1 := (g, va_up f 25 0)) rfl ⟨bd, g1, rfl, hH.obj (va_up f 25 0), hA⟩ ((zFm.refl w).up (by decide) (by decide))
theorem q_workers (hl : l.stackTraces = false) (h : MM z b0 w M) : ZQ l z mX3_workers b0 [] w (((nI (mCnt M.1 30), (M.1, va_up M.2 25 0)) : Int32 × zMO)) := by
  obtain ⟨g, f⟩ := M
  obtain ⟨bd, g1, rfl, h, hA⟩ := h
  dsimp only at h hA
  have hH := h
  obtain ⟨m20, m21, m22, m23, m24, m25, m26, m27, m28, m29, m30, m31, m32, m33, m34, m35, m36, m37, m38⟩ := h.all
  refine zbody (M := mX3_workers) (L0 := [_]) hl (by simp [Value.category]) (Nat.le_of_ble_eq_true rfl) (by decide +kernel) rfl ?_
  intro p e s m args below meth c C hX hnm hret
  replace C : zC z p l s m args meth c cX3_workers RX3 1 := C
  replace hret : meth.sig.returnType = (some .int) := hret
  have h2 := hH.obj (va_up f 25 0)
  refine z_aload_n C dX3_workers_0 rfl ?_
  refine z_iconst C (0) dX3_workers_1 (by decide) ?_
  refine z_putf C (fs1 := [_, _, _, _, _, _, _, _, _, _, _, _, _, _, _, _, _, _, _, _, _, _, _, _, _, _]) zp_X3_69 dX3_workers_2 (by first | assumption | exact zk_eq | exact zk_ne (by first | assumption | exact zk_eq | exact zk_ne (by first | assumption | exact zk_eq | exact zk_ne (by first | assumption | exact zk_eq | exact zk_ne (by first | assumption | exact zk_eq | exact zk_ne (by first | assumption | exact zk_eq) (by first | decide | omega)) (by first | decide | omega)) (by first | decide | omega)) (by first | decide | omega)) (by first | decide | omega)) (by first | rfl | exact zb_nar _ | assumption) (by first | rfl | exact zb_fit _ | assumption) (by exact Nat.le_of_ble_eq_true rfl) (by rfl) ?_
  refine z_aload_n C dX3_workers_5 rfl ?_
  refine z_callV C zm_X3_count zl_X3_87 (m_count hl h2) dX3_workers_6 (by first | assumption | exact zk_eq | exact zk_ne (by first | assumption | exact zk_eq | exact zk_ne (by first | assumption | exact zk_eq | exact zk_ne (by first | assumption | exact zk_eq | exact zk_ne (by first | assumption | exact zk_eq | exact zk_ne (by first | assumption | exact zk_eq) (by first | decide | omega)) (by first | decide | omega)) (by first | decide | omega)) (by first | decide | omega)) (by first | decide | omega)) (by rfl) (by rfl) (by rfl) (by exact Nat.le_of_ble_eq_true rfl) rfl (by exact ⟨Nat.le_of_ble_eq_true rfl, Nat.le_of_ble_eq_true rfl⟩) (by first | exact ⟨Nat.le_of_ble_eq_true rfl, Nat.le_of_ble_eq_true rfl⟩ | (simp only [zrm]; omega)) (fun _ _ h => z_xno h) (fun r w1 hq => ?_)
  obtain ⟨rfl, rfl⟩ := hq
  refine z_iret C hret dX3_workers_9 (by first | exact Nat.le_of_ble_eq_true rfl | omega) (by first | exact Nat.le_of_ble_eq_true rfl | omega) ?_
  exact ZQ.fin (M1 := (g, va_up f 25 0)) (by rw [hA.cnt]) ⟨bd, g1, rfl, h2, hA⟩ ((zFm.refl w).up (by decide) (by decide))
theorem q_setHours (hl : l.stackTraces = false) (h : MM z b0 w M) (x : Int32) : ZQ l z mX3_setHours b0 [.int x] w (mSetHours M x) := by
  obtain ⟨g, f⟩ := M
  obtain ⟨bd, g1, rfl, h, hA⟩ := h
  dsimp only at h hA
  have hH := h
  obtain ⟨m20, m21, m22, m23, m24, m25, m26, m27, m28, m29, m30, m31, m32, m33, m34, m35, m36, m37, m38⟩ := h.all
  refine zbody (M := mX3_setHours) (L0 := [_, _, _]) hl (by simp [Value.category]) (Nat.le_of_ble_eq_true rfl) (by decide +kernel) rfl ?_
  intro p e s m args below meth c C hX hnm hret
  replace C : zC z p l s m args meth c cX3_setHours RX3 3 := C
  replace hret : meth.sig.returnType = (some .int) := hret
  have tail : ∀ b : Bool, b = decide (f 21 = 0) → ZJ z p l e (zrm 3 0 0) s m args below meth c (vx_MQ below (zQc z (fun r w1 => r = some (.int (mSetHours (g, f) x).1) ∧ MM z (bd 20) w1 (mSetHours (g, f) x).2 ∧ zFm w w1)) (zXC z zNo) args s 0 0 (zA z)) 0 0 20 [some (.ref (bd 20)), some (.int x), none] [.int (zb b), .int (zb (mIn x 1 12)), .ref (bd 20)] w := by
    intro b hb
    refine z_iconst C (1) dX3_setHours_20 (by decide) ?_
    refine z_callV C zm_X3_goes zl_X3_91 (m_goes (a := mIn x 1 12) (b := b) (v := true) hl hH) dX3_setHours_21 (by first | assumption | exact zk_eq | exact zk_ne (by first | assumption | exact zk_eq | exact zk_ne (by first | assumption | exact zk_eq | exact zk_ne (by first | assumption | exact zk_eq | exact zk_ne (by first | assumption | exact zk_eq | exact zk_ne (by first | assumption | exact zk_eq) (by first | decide | omega)) (by first | decide | omega)) (by first | decide | omega)) (by first | decide | omega)) (by first | decide | omega)) (by rfl) (by rfl) (by rfl) (by exact Nat.le_of_ble_eq_true rfl) rfl (by exact ⟨Nat.le_of_ble_eq_true rfl, Nat.le_of_ble_eq_true rfl⟩) (by first | exact ⟨Nat.le_of_ble_eq_true rfl, Nat.le_of_ble_eq_true rfl⟩ | (simp only [zrm]; omega)) (fun _ _ h => z_xno h) (fun r w2 hq => ?_)
    obtain ⟨rfl, g2, g3⟩ := hq
    have hX := g2
    obtain ⟨m20, m21, m22, m23, m24, m25, m26, m27, m28, m29, m30, m31, m32, m33, m34, m35, m36, m37, m38⟩ := g2.all
    cases hi : mIn x 1 12 with
    | true =>
      rw [hi] at hX m20
      by_cases hf : f 21 = 0
      · rw [hb, decide_eq_true hf] at hX m20 ⊢
        refine z_if_ne C 29 dX3_setHours_24 (by decide) (fun c2 => ?_) (fun c2 => ?_)
        · refine z_aload_n C dX3_setHours_29 rfl ?_
          refine z_getf C zf_X3_56 dX3_setHours_30 (by first | assumption | exact zk_eq | exact zk_ne (by first | assumption | exact zk_eq | exact zk_ne (by first | assumption | exact zk_eq | exact zk_ne (by first | assumption | exact zk_eq | exact zk_ne (by first | assumption | exact zk_eq | exact zk_ne (by first | assumption | exact zk_eq) (by first | decide | omega)) (by first | decide | omega)) (by first | decide | omega)) (by first | decide | omega)) (by first | decide | omega)) (by rfl) ?_
          refine z_istore_n C (L1 := [_, _, _]) dX3_setHours_33 (Nat.le_of_ble_eq_true rfl) rfl ?_
          refine z_aload_n C dX3_setHours_34 rfl ?_
          refine z_iload_n C dX3_setHours_35 rfl ?_
          refine z_putf C (fs1 := [_, _, _, _, _, _, _, _, _, _, _, _, _, _, _, _, _, _, _, _, _, _, _, _, _, _]) zp_X3_56 dX3_setHours_36 (by first | assumption | exact zk_eq | exact zk_ne (by first | assumption | exact zk_eq | exact zk_ne (by first | assumption | exact zk_eq | exact zk_ne (by first | assumption | exact zk_eq | exact zk_ne (by first | assumption | exact zk_eq | exact zk_ne (by first | assumption | exact zk_eq) (by first | decide | omega)) (by first | decide | omega)) (by first | decide | omega)) (by first | decide | omega)) (by first | decide | omega)) (by first | rfl | exact zb_nar _ | assumption) (by first | rfl | exact zb_fit _ | assumption) (by exact Nat.le_of_ble_eq_true rfl) (by rfl) ?_
          refine z_iload_n C dX3_setHours_39 rfl ?_
          refine z_iret C hret dX3_setHours_40 (by first | exact Nat.le_of_ble_eq_true rfl | omega) (by first | exact Nat.le_of_ble_eq_true rfl | omega) ?_
          exact ZQ.fin (M1 := (g, va_up (va_up f 25 0) 18 x)) (by simp only [mSetHours, hi, if_true, if_pos hf]; rfl) ⟨bd, g1, rfl, hX.obj (va_up (va_up f 25 0) 18 x), hA⟩ (g3.up (by decide) (by decide))
        · exact absurd c2 (by decide)
      · rw [hb, decide_eq_false hf] at hX ⊢
        refine z_if_ne C 29 dX3_setHours_24 (by decide) (fun c2 => ?_) (fun c2 => ?_)
        · exact absurd rfl c2
        · refine z_iconst C (0) dX3_setHours_27 (by decide) ?_
          refine z_iret C hret dX3_setHours_28 (by first | exact Nat.le_of_ble_eq_true rfl | omega) (by first | exact Nat.le_of_ble_eq_true rfl | omega) ?_
          exact ZQ.fin (M1 := (g, va_up f 25 2)) (by simp only [mSetHours, hi, if_true, if_neg hf]) ⟨bd, g1, rfl, hX, hA⟩ g3
    | false =>
      rw [hi] at hX
      refine z_if_ne C 29 dX3_setHours_24 (by decide) (fun c2 => ?_) (fun c2 => ?_)
      · exact absurd rfl c2
      · refine z_iconst C (0) dX3_setHours_27 (by decide) ?_
        refine z_iret C hret dX3_setHours_28 (by first | exact Nat.le_of_ble_eq_true rfl | omega) (by first | exact Nat.le_of_ble_eq_true rfl | omega) ?_
        exact ZQ.fin (M1 := (g, va_up f 25 1)) (by simp only [mSetHours, hi, Bool.false_eq_true, if_false]) ⟨bd, g1, rfl, hX, hA⟩ g3
  refine z_aload_n C dX3_setHours_0 rfl ?_
  refine z_iload_n C dX3_setHours_1 rfl ?_
  refine z_iconst C (1) dX3_setHours_2 (by decide) ?_
  refine z_bipush C (12) dX3_setHours_3 (by decide) ?_
  refine z_callS C zm_X3_in zl_X3_72 (m_in hl x 1 12) dX3_setHours_5 (by rfl) (by rfl) (by exact Nat.le_of_ble_eq_true rfl) rfl (by exact ⟨Nat.le_of_ble_eq_true rfl, Nat.le_of_ble_eq_true rfl⟩) (by first | exact ⟨Nat.le_of_ble_eq_true rfl, Nat.le_of_ble_eq_true rfl⟩ | (simp only [zrm]; omega)) (fun _ _ h => z_xno h) (fun r w1 hq => ?_)
  obtain ⟨rfl, rfl⟩ := hq
  refine z_aload_n C dX3_setHours_8 rfl ?_
  refine z_getf C zf_X3_118 dX3_setHours_9 (by first | assumption | exact zk_eq | exact zk_ne (by first | assumption | exact zk_eq | exact zk_ne (by first | assumption | exact zk_eq | exact zk_ne (by first | assumption | exact zk_eq | exact zk_ne (by first | assumption | exact zk_eq | exact zk_ne (by first | assumption | exact zk_eq) (by first | decide | omega)) (by first | decide | omega)) (by first | decide | omega)) (by first | decide | omega)) (by first | decide | omega)) (by rfl) ?_
  refine z_if_ne C 19 dX3_setHours_12 (by decide) (fun c1 => ?_) (fun c1 => ?_)
  · refine z_iconst C (0) dX3_setHours_19 (by decide) ?_
    exact tail false (by rw [decide_eq_false c1])
  · refine z_iconst C (1) dX3_setHours_15 (by decide) ?_
    refine z_goto C 20 dX3_setHours_16 (by decide) ?_
    exact tail true (by rw [decide_eq_true c1])
theorem q_order (hl : l.stackTraces = false) (h : MM z b0 w M) (x : Int32) {c9 : Nat} (hc : M.2 17 = nI c9) (hc16 : c9 ≤ 16) : ZQ l z mX3_order b0 [.int x] w (mOrder M x) := by
  obtain ⟨g, f⟩ := M
  obtain ⟨bd, g1, rfl, h, hA⟩ := h
  dsimp only at h hA hc
  have hH := h
  obtain ⟨m20, m21, m22, m23, m24, m25, m26, m27, m28, m29, m30, m31, m32, m33, m34, m35, m36, m37, m38⟩ := h.all
  refine zbody (M := mX3_order) (L0 := [_, _]) hl (by simp [Value.category]) (Nat.le_of_ble_eq_true rfl) (by decide +kernel) rfl ?_
  intro p e s m args below meth c C hX hnm hret
  replace C : zC z p l s m args meth c cX3_order RX3 2 := C
  replace hret : meth.sig.returnType = (some .int) := hret
  have tail : ∀ b : Bool, b = decide (f 17 < 16) → ZJ z p l e (zrm 3 0 0) s m args below meth c (vx_MQ below (zQc z (fun r w1 => r = some (.int (mOrder (g, f) x).1) ∧ MM z (bd 20) w1 (mOrder (g, f) x).2 ∧ zFm w w1)) (zXC z zNo) args s 0 0 (zA z)) 0 0 21 [some (.ref (bd 20)), some (.int x)] [.int (zb b), .int (zb (mIn x 0 4)), .ref (bd 20)] w := by
    intro b hb
    refine z_iconst C (1) dX3_order_21 (by decide) ?_
    refine z_callV C zm_X3_goes zl_X3_91 (m_goes (a := mIn x 0 4) (b := b) (v := true) hl hH) dX3_order_22 (by first | assumption | exact zk_eq | exact zk_ne (by first | assumption | exact zk_eq | exact zk_ne (by first | assumption | exact zk_eq | exact zk_ne (by first | assumption | exact zk_eq | exact zk_ne (by first | assumption | exact zk_eq | exact zk_ne (by first | assumption | exact zk_eq) (by first | decide | omega)) (by first | decide | omega)) (by first | decide | omega)) (by first | decide | omega)) (by first | decide | omega)) (by rfl) (by rfl) (by rfl) (by exact Nat.le_of_ble_eq_true rfl) rfl (by exact ⟨Nat.le_of_ble_eq_true rfl, Nat.le_of_ble_eq_true rfl⟩) (by first | exact ⟨Nat.le_of_ble_eq_true rfl, Nat.le_of_ble_eq_true rfl⟩ | (simp only [zrm]; omega)) (fun _ _ h => z_xno h) (fun r w2 hq => ?_)
    obtain ⟨rfl, g2, g3⟩ := hq
    have hX := g2
    obtain ⟨m20, m21, m22, m23, m24, m25, m26, m27, m28, m29, m30, m31, m32, m33, m34, m35, m36, m37, m38⟩ := g2.all
    cases hi : mIn x 0 4 with
    | true =>
      rw [hi] at hX m20
      by_cases hf : f 17 < 16
      · rw [hb, decide_eq_true hf] at hX m20 ⊢
        have hc9 : c9 < 16 := by
          rw [hc] at hf
          exact (nI_ltI (b := 16) (by omega) (by decide)).mp hf
        refine z_if_ne C 30 dX3_order_25 (by decide) (fun c2 => ?_) (fun c2 => ?_)
        · refine z_aload_n C dX3_order_30 rfl ?_
          refine z_getf C zf_X3_50 dX3_order_31 (by first | assumption | exact zk_eq | exact zk_ne (by first | assumption | exact zk_eq | exact zk_ne (by first | assumption | exact zk_eq | exact zk_ne (by first | assumption | exact zk_eq | exact zk_ne (by first | assumption | exact zk_eq | exact zk_ne (by first | assumption | exact zk_eq) (by first | decide | omega)) (by first | decide | omega)) (by first | decide | omega)) (by first | decide | omega)) (by first | decide | omega)) (by rfl) ?_
          refine z_aload_n C dX3_order_34 rfl ?_
          refine z_getf C zf_X3_112 dX3_order_35 (by first | assumption | exact zk_eq | exact zk_ne (by first | assumption | exact zk_eq | exact zk_ne (by first | assumption | exact zk_eq | exact zk_ne (by first | assumption | exact zk_eq | exact zk_ne (by first | assumption | exact zk_eq | exact zk_ne (by first | assumption | exact zk_eq) (by first | decide | omega)) (by first | decide | omega)) (by first | decide | omega)) (by first | decide | omega)) (by first | decide | omega)) (by rfl) ?_
          refine z_iload_n C dX3_order_38 rfl ?_
          refine z_iast C dX3_order_39 (by first | assumption | exact zk_eq | exact zk_ne (by first | assumption | exact zk_eq | exact zk_ne (by first | assumption | exact zk_eq | exact zk_ne (by first | assumption | exact zk_eq | exact zk_ne (by first | assumption | exact zk_eq | exact zk_ne (by first | assumption | exact zk_eq) (by first | decide | omega)) (by first | decide | omega)) (by first | decide | omega)) (by first | decide | omega)) (by first | decide | omega)) (by first | rfl | assumption) (by first | assumption | omega | decide) (by first | decide | omega) ?_
          refine z_aload_n C dX3_order_40 rfl ?_
          refine z_getf C zf_X3_53 dX3_order_41 (by first | assumption | exact zk_eq | exact zk_ne (by first | assumption | exact zk_eq | exact zk_ne (by first | assumption | exact zk_eq | exact zk_ne (by first | assumption | exact zk_eq | exact zk_ne (by first | assumption | exact zk_eq | exact zk_ne (by first | assumption | exact zk_eq) (by first | decide | omega)) (by first | decide | omega)) (by first | decide | omega)) (by first | decide | omega)) (by first | decide | omega)) (by rfl) ?_
          refine z_aload_n C dX3_order_44 rfl ?_
          refine z_getf C zf_X3_112 dX3_order_45 (by first | assumption | exact zk_eq | exact zk_ne (by first | assumption | exact zk_eq | exact zk_ne (by first | assumption | exact zk_eq | exact zk_ne (by first | assumption | exact zk_eq | exact zk_ne (by first | assumption | exact zk_eq | exact zk_ne (by first | assumption | exact zk_eq) (by first | decide | omega)) (by first | decide | omega)) (by first | decide | omega)) (by first | decide | omega)) (by first | decide | omega)) (by rfl) ?_
          refine z_iconst C (-1) dX3_order_48 (by decide) ?_
          refine z_iast C dX3_order_49 (by first | assumption | exact zk_eq | exact zk_ne (by first | assumption | exact zk_eq | exact zk_ne (by first | assumption | exact zk_eq | exact zk_ne (by first | assumption | exact zk_eq | exact zk_ne (by first | assumption | exact zk_eq | exact zk_ne (by first | assumption | exact zk_eq) (by first | decide | omega)) (by first | decide | omega)) (by first | decide | omega)) (by first | decide | omega)) (by first | decide | omega)) (by first | rfl | assumption) (by first | assumption | omega | decide) (by first | decide | omega) ?_
          refine z_aload_n C dX3_order_50 rfl ?_
          refine z_dup C dX3_order_51 rfl ?_
          refine z_getf C zf_X3_112 dX3_order_52 (by first | assumption | exact zk_eq | exact zk_ne (by first | assumption | exact zk_eq | exact zk_ne (by first | assumption | exact zk_eq | exact zk_ne (by first | assumption | exact zk_eq | exact zk_ne (by first | assumption | exact zk_eq | exact zk_ne (by first | assumption | exact zk_eq) (by first | decide | omega)) (by first | decide | omega)) (by first | decide | omega)) (by first | decide | omega)) (by first | decide | omega)) (by rfl) ?_
          refine z_iconst C (1) dX3_order_55 (by decide) ?_
          refine z_iadd C dX3_order_56 ?_
          refine z_putf C (fs1 := [_, _, _, _, _, _, _, _, _, _, _, _, _, _, _, _, _, _, _, _, _, _, _, _, _, _]) zp_X3_112 dX3_order_57 (by first | assumption | exact zk_eq | exact zk_ne (by first | assumption | exact zk_eq | exact zk_ne (by first | assumption | exact zk_eq | exact zk_ne (by first | assumption | exact zk_eq | exact zk_ne (by first | assumption | exact zk_eq | exact zk_ne (by first | assumption | exact zk_eq) (by first | decide | omega)) (by first | decide | omega)) (by first | decide | omega)) (by first | decide | omega)) (by first | decide | omega)) (by first | rfl | exact zb_nar _ | assumption) (by first | rfl | exact zb_fit _ | assumption) (by exact Nat.le_of_ble_eq_true rfl) (by rfl) ?_
          refine z_aload_n C dX3_order_60 rfl ?_
          refine z_getf C zf_X3_112 dX3_order_61 (by first | assumption | exact zk_eq | exact zk_ne (by first | assumption | exact zk_eq | exact zk_ne (by first | assumption | exact zk_eq | exact zk_ne (by first | assumption | exact zk_eq | exact zk_ne (by first | assumption | exact zk_eq | exact zk_ne (by first | assumption | exact zk_eq) (by first | decide | omega)) (by first | decide | omega)) (by first | decide | omega)) (by first | decide | omega)) (by first | decide | omega)) (by rfl) ?_
          refine z_iconst C (1) dX3_order_64 (by decide) ?_
          refine z_isub C dX3_order_65 ?_
          refine z_iret C hret dX3_order_66 (by first | exact Nat.le_of_ble_eq_true rfl | omega) (by first | exact Nat.le_of_ble_eq_true rfl | omega) ?_
          refine ZQ.fin (M1 := (va_up (va_up g 13 (va_up (g 13) c9 x)) 14 (va_up (g 14) c9 (-1)), va_up (va_up f 25 0) 17 (f 17 + 1))) ?_ ⟨bd, _, rfl, ((hX.arr 13 (va_up (g1 13) c9 x)).arr 14 (va_up (g1 14) c9 (-1))).obj (va_up (va_up f 25 0) 17 (f 17 + 1)), (hA.up (by rw [hA 13 (by decide)])).up (by rw [hA 14 (by decide)])⟩ (((g3.up (by decide) (by decide)).up (by decide) (by decide)).up (by decide) (by decide))
          simp only [mOrder, hi, if_true, if_pos hf]
          rw [show (f 17).toNatClampNeg = c9 by rw [hc, nI_clamp (by omega)]]
          show _ = ((f 17 + 1 - 1 : Int32), _)
          rw [show (f 17 + 1 - 1 : Int32) = f 17 from Int32.add_sub_cancel _ _]
        · exact absurd c2 (by decide)
      · rw [hb, decide_eq_false hf] at hX ⊢
        refine z_if_ne C 30 dX3_order_25 (by decide) (fun c2 => ?_) (fun c2 => ?_)
        · exact absurd rfl c2
        · refine z_iconst C (0) dX3_order_28 (by decide) ?_
          refine z_iret C hret dX3_order_29 (by first | exact Nat.le_of_ble_eq_true rfl | omega) (by first | exact Nat.le_of_ble_eq_true rfl | omega) ?_
          exact ZQ.fin (M1 := (g, va_up f 25 2)) (by simp only [mOrder, hi, if_true, if_neg hf]) ⟨bd, g1, rfl, hX, hA⟩ g3
    | false =>
      rw [hi] at hX
      refine z_if_ne C 30 dX3_order_25 (by decide) (fun c2 => ?_) (fun c2 => ?_)
      · exact absurd rfl c2
      · refine z_iconst C (0) dX3_order_28 (by decide) ?_
        refine z_iret C hret dX3_order_29 (by first | exact Nat.le_of_ble_eq_true rfl | omega) (by first | exact Nat.le_of_ble_eq_true rfl | omega) ?_
        exact ZQ.fin (M1 := (g, va_up f 25 1)) (by simp only [mOrder, hi, Bool.false_eq_true, if_false]) ⟨bd, g1, rfl, hX, hA⟩ g3
  refine z_aload_n C dX3_order_0 rfl ?_
  refine z_iload_n C dX3_order_1 rfl ?_
  refine z_iconst C (0) dX3_order_2 (by decide) ?_
  refine z_iconst C (4) dX3_order_3 (by decide) ?_
  refine z_callS C zm_X3_in zl_X3_72 (m_in hl x 0 4) dX3_order_4 (by rfl) (by rfl) (by exact Nat.le_of_ble_eq_true rfl) rfl (by exact ⟨Nat.le_of_ble_eq_true rfl, Nat.le_of_ble_eq_true rfl⟩) (by first | exact ⟨Nat.le_of_ble_eq_true rfl, Nat.le_of_ble_eq_true rfl⟩ | (simp only [zrm]; omega)) (fun _ _ h => z_xno h) (fun r w1 hq => ?_)
  obtain ⟨rfl, rfl⟩ := hq
  refine z_aload_n C dX3_order_7 rfl ?_
  refine z_getf C zf_X3_112 dX3_order_8 (by first | assumption | exact zk_eq | exact zk_ne (by first | assumption | exact zk_eq | exact zk_ne (by first | assumption | exact zk_eq | exact zk_ne (by first | assumption | exact zk_eq | exact zk_ne (by first | assumption | exact zk_eq | exact zk_ne (by first | assumption | exact zk_eq) (by first | decide | omega)) (by first | decide | omega)) (by first | decide | omega)) (by first | decide | omega)) (by first | decide | omega)) (by rfl) ?_
  refine z_bipush C (16) dX3_order_11 (by decide) ?_
  refine z_icmp_ge C 20 dX3_order_13 (by decide) (fun c1 => ?_) (fun c1 => ?_)
  · refine z_iconst C (0) dX3_order_20 (by decide) ?_
    exact tail false (by rw [decide_eq_false (Int32.not_lt.mpr c1)])
  · refine z_iconst C (1) dX3_order_16 (by decide) ?_
    refine z_goto C 21 dX3_order_17 (by decide) ?_
    exact tail true (by rw [decide_eq_true (Int32.not_le.mp c1)])
theorem q_setRule (hl : l.stackTraces = false) (h : MM z b0 w M) (x : Int32) (v : Bool) (y : Int32) : ZQ l z mX3_setRule b0 [.int x, .int (zb v), .int y] w (mSetRule M x (zb v) y) := by
  obtain ⟨g, f⟩ := M
  obtain ⟨bd, g1, rfl, h, hA⟩ := h
  dsimp only at h hA
  have hH := h
  obtain ⟨m20, m21, m22, m23, m24, m25, m26, m27, m28, m29, m30, m31, m32, m33, m34, m35, m36, m37, m38⟩ := h.all
  refine zbody (M := mX3_setRule) (L0 := [_, _, _, _, _]) hl (by simp [Value.category]) (Nat.le_of_ble_eq_true rfl) (by decide +kernel) rfl ?_
  intro p e s m args below meth c C hX hnm hret
  replace C : zC z p l s m args meth c cX3_setRule RX3 5 := C
  replace hret : meth.sig.returnType = (some .int) := hret
  have bad : (mIn x 0 3 = true ∧ mIn y 0 400 = true) = False → ZJ z p l e (zrm 3 0 0) s m args below meth c (vx_MQ below (zQc z (fun r w1 => r = some (.int (mSetRule (g, f) x (zb v) y).1) ∧ MM z (bd 20) w1 (mSetRule (g, f) x (zb v) y).2 ∧ zFm w w1)) (zXC z zNo) args s 0 0 (zA z)) 0 0 23 [some (.ref (bd 20)), some (.int x), some (.int (zb v)), some (.int y), none] [.ref (bd 20)] w := by
    intro hb
    refine z_iconst C (0) dX3_setRule_23 (by decide) ?_
    refine z_iconst C (1) dX3_setRule_24 (by decide) ?_
    refine z_iconst C (1) dX3_setRule_25 (by decide) ?_
    refine z_callV C zm_X3_goes zl_X3_91 (m_goes (a := false) (b := true) (v := true) hl hH) dX3_setRule_26 (by first | assumption | exact zk_eq | exact zk_ne (by first | assumption | exact zk_eq | exact zk_ne (by first | assumption | exact zk_eq | exact zk_ne (by first | assumption | exact zk_eq | exact zk_ne (by first | assumption | exact zk_eq | exact zk_ne (by first | assumption | exact zk_eq) (by first | decide | omega)) (by first | decide | omega)) (by first | decide | omega)) (by first | decide | omega)) (by first | decide | omega)) (by rfl) (by rfl) (by rfl) (by exact Nat.le_of_ble_eq_true rfl) rfl (by exact ⟨Nat.le_of_ble_eq_true rfl, Nat.le_of_ble_eq_true rfl⟩) (by first | exact ⟨Nat.le_of_ble_eq_true rfl, Nat.le_of_ble_eq_true rfl⟩ | (simp only [zrm]; omega)) (fun _ _ h => z_xno h) (fun r w2 hq => ?_)
    obtain ⟨rfl, g2, g3⟩ := hq
    refine z_if_ne C 34 dX3_setRule_29 (by decide) (fun c2 => ?_) (fun c2 => ?_)
    · exact absurd rfl c2
    · refine z_iconst C (0) dX3_setRule_32 (by decide) ?_
      refine z_iret C hret dX3_setRule_33 (by first | exact Nat.le_of_ble_eq_true rfl | omega) (by first | exact Nat.le_of_ble_eq_true rfl | omega) ?_
      exact ZQ.fin (M1 := (g, va_up f 25 1)) (by simp only [mSetRule, hb, if_false]) ⟨bd, g1, rfl, g2, hA⟩ g3
  refine z_aload_n C dX3_setRule_0 rfl ?_
  refine z_iload_n C dX3_setRule_1 rfl ?_
  refine z_callS C zm_X3_isBoard zl_X3_83 (m_isBoard hl x) dX3_setRule_2 (by rfl) (by rfl) (by exact Nat.le_of_ble_eq_true rfl) rfl (by exact ⟨Nat.le_of_ble_eq_true rfl, Nat.le_of_ble_eq_true rfl⟩) (by first | exact ⟨Nat.le_of_ble_eq_true rfl, Nat.le_of_ble_eq_true rfl⟩ | (simp only [zrm]; omega)) (fun _ _ h => z_xno h) (fun r w1 hq => ?_)
  obtain ⟨rfl, rfl⟩ := hq
  refine z_if_eq C 23 dX3_setRule_5 (by decide) (fun c1 => ?_) (fun c1 => ?_)
  · have d1 : mIn x 0 3 = false := zb_ff c1
    exact bad (by simp [d1])
  have d1 : mIn x 0 3 = true := zb_tt c1
  refine z_iload_n C dX3_setRule_8 rfl ?_
  refine z_iconst C (0) dX3_setRule_9 (by decide) ?_
  refine z_sipush C (400) dX3_setRule_10 (by decide) ?_
  refine z_callS C zm_X3_in zl_X3_72 (m_in hl y 0 400) dX3_setRule_13 (by rfl) (by rfl) (by exact Nat.le_of_ble_eq_true rfl) rfl (by exact ⟨Nat.le_of_ble_eq_true rfl, Nat.le_of_ble_eq_true rfl⟩) (by first | exact ⟨Nat.le_of_ble_eq_true rfl, Nat.le_of_ble_eq_true rfl⟩ | (simp only [zrm]; omega)) (fun _ _ h => z_xno h) (fun r w1 hq => ?_)
  obtain ⟨rfl, rfl⟩ := hq
  refine z_if_eq C 23 dX3_setRule_16 (by decide) (fun c2 => ?_) (fun c2 => ?_)
  · have d2 : mIn y 0 400 = false := zb_ff c2
    exact bad (by simp [d2])
  have d2 : mIn y 0 400 = true := zb_tt c2
  have d3 := d1
  simp only [mIn, Bool.and_eq_true, Bool.not_eq_true', decide_eq_false_iff_not] at d3
  obtain ⟨b, hb4, rfl⟩ := nI_below (x := x) (k := 4) d3.1 (by
    have h4 := Int32.not_lt.mp d3.2
    obtain ⟨j, hj, rfl⟩ := nI_of d3.1
    have := (nI_leI (b := 3) hj (by decide)).mp h4
    exact nI_lt (by omega) (by decide)) (by decide)
  refine z_iconst C (1) dX3_setRule_19 (by decide) ?_
  refine z_goto C 24 dX3_setRule_20 (by decide) ?_
  refine z_iconst C (1) dX3_setRule_24 (by decide) ?_
  refine z_iconst C (1) dX3_setRule_25 (by decide) ?_
  refine z_callV C zm_X3_goes zl_X3_91 (m_goes (a := true) (b := true) (v := true) hl hH) dX3_setRule_26 (by first | assumption | exact zk_eq | exact zk_ne (by first | assumption | exact zk_eq | exact zk_ne (by first | assumption | exact zk_eq | exact zk_ne (by first | assumption | exact zk_eq | exact zk_ne (by first | assumption | exact zk_eq | exact zk_ne (by first | assumption | exact zk_eq) (by first | decide | omega)) (by first | decide | omega)) (by first | decide | omega)) (by first | decide | omega)) (by first | decide | omega)) (by rfl) (by rfl) (by rfl) (by exact Nat.le_of_ble_eq_true rfl) rfl (by exact ⟨Nat.le_of_ble_eq_true rfl, Nat.le_of_ble_eq_true rfl⟩) (by first | exact ⟨Nat.le_of_ble_eq_true rfl, Nat.le_of_ble_eq_true rfl⟩ | (simp only [zrm]; omega)) (fun _ _ h => z_xno h) (fun r w2 hq => ?_)
  obtain ⟨rfl, g2, g3⟩ := hq
  have hX := g2
  obtain ⟨m20, m21, m22, m23, m24, m25, m26, m27, m28, m29, m30, m31, m32, m33, m34, m35, m36, m37, m38⟩ := g2.all
  refine z_if_ne C 34 dX3_setRule_29 (by decide) (fun c3 => ?_) (fun c3 => ?_)
  · refine z_aload_n C dX3_setRule_34 rfl ?_
    refine z_getf C zf_X3_47 dX3_setRule_35 (by first | assumption | exact zk_eq | exact zk_ne (by first | assumption | exact zk_eq | exact zk_ne (by first | assumption | exact zk_eq | exact zk_ne (by first | assumption | exact zk_eq | exact zk_ne (by first | assumption | exact zk_eq | exact zk_ne (by first | assumption | exact zk_eq) (by first | decide | omega)) (by first | decide | omega)) (by first | decide | omega)) (by first | decide | omega)) (by first | decide | omega)) (by rfl) ?_
    refine z_iload_n C dX3_setRule_38 rfl ?_
    refine z_iald C dX3_setRule_39 (by first | assumption | exact zk_eq | exact zk_ne (by first | assumption | exact zk_eq | exact zk_ne (by first | assumption | exact zk_eq | exact zk_ne (by first | assumption | exact zk_eq | exact zk_ne (by first | assumption | exact zk_eq | exact zk_ne (by first | assumption | exact zk_eq) (by first | decide | omega)) (by first | decide | omega)) (by first | decide | omega)) (by first | decide | omega)) (by first | decide | omega)) (by first | rfl | assumption) (by first | assumption | omega | decide) (by first | decide | omega) ?_
    refine z_istore C (L1 := [_, _, _, _, _]) dX3_setRule_40 (Nat.le_of_ble_eq_true rfl) rfl ?_
    refine z_aload_n C dX3_setRule_42 rfl ?_
    refine z_getf C zf_X3_44 dX3_setRule_43 (by first | assumption | exact zk_eq | exact zk_ne (by first | assumption | exact zk_eq | exact zk_ne (by first | assumption | exact zk_eq | exact zk_ne (by first | assumption | exact zk_eq | exact zk_ne (by first | assumption | exact zk_eq | exact zk_ne (by first | assumption | exact zk_eq) (by first | decide | omega)) (by first | decide | omega)) (by first | decide | omega)) (by first | decide | omega)) (by first | decide | omega)) (by rfl) ?_
    refine z_iload_n C dX3_setRule_46 rfl ?_
    refine z_iload_n C dX3_setRule_47 rfl ?_
    refine z_zast C dX3_setRule_48 (by first | assumption | exact zk_eq | exact zk_ne (by first | assumption | exact zk_eq | exact zk_ne (by first | assumption | exact zk_eq | exact zk_ne (by first | assumption | exact zk_eq | exact zk_ne (by first | assumption | exact zk_eq | exact zk_ne (by first | assumption | exact zk_eq) (by first | decide | omega)) (by first | decide | omega)) (by first | decide | omega)) (by first | decide | omega)) (by first | decide | omega)) (by first | rfl | assumption) (by first | assumption | omega | decide) (by first | decide | omega) (by first | rfl | exact zb_vp _ | assumption) ?_
    refine z_aload_n C dX3_setRule_49 rfl ?_
    refine z_getf C zf_X3_47 dX3_setRule_50 (by first | assumption | exact zk_eq | exact zk_ne (by first | assumption | exact zk_eq | exact zk_ne (by first | assumption | exact zk_eq | exact zk_ne (by first | assumption | exact zk_eq | exact zk_ne (by first | assumption | exact zk_eq | exact zk_ne (by first | assumption | exact zk_eq) (by first | decide | omega)) (by first | decide | omega)) (by first | decide | omega)) (by first | decide | omega)) (by first | decide | omega)) (by rfl) ?_
    refine z_iload_n C dX3_setRule_53 rfl ?_
    refine z_iload_n C dX3_setRule_54 rfl ?_
    refine z_iast C dX3_setRule_55 (by first | assumption | exact zk_eq | exact zk_ne (by first | assumption | exact zk_eq | exact zk_ne (by first | assumption | exact zk_eq | exact zk_ne (by first | assumption | exact zk_eq | exact zk_ne (by first | assumption | exact zk_eq | exact zk_ne (by first | assumption | exact zk_eq) (by first | decide | omega)) (by first | decide | omega)) (by first | decide | omega)) (by first | decide | omega)) (by first | decide | omega)) (by first | rfl | assumption) (by first | assumption | omega | decide) (by first | decide | omega) ?_
    refine z_iload C dX3_setRule_56 rfl ?_
    refine z_iret C hret dX3_setRule_58 (by first | exact Nat.le_of_ble_eq_true rfl | omega) (by first | exact Nat.le_of_ble_eq_true rfl | omega) ?_
    refine ZQ.fin (M1 := (va_up (va_up g 11 (va_up (g 11) b (zb v))) 12 (va_up (g 12) b y), va_up f 25 0)) ?_ ⟨bd, _, rfl, (hX.arr 11 (va_up (g1 11) b (zb v))).arr 12 (va_up (g1 12) b y), (hA.up (by rw [hA 11 (by decide)])).up (by rw [hA 12 (by decide)])⟩ ((g3.up (by decide) (by decide)).up (by decide) (by decide))
    simp only [mSetRule, d1, d2, and_self, if_true, nI_clamp (show b < 2 ^ 31 by omega)]
    rw [hA 12 (by decide)]
  · exact absurd c3 (by decide)
theorem q_workerAt (hl : l.stackTraces = false) (h : MM z b0 w M) (x : Int32) {c9 : Nat} (hc : M.2 17 = nI c9) (hc16 : c9 ≤ 16) (hfl : ∀ i : Nat, i < c9 → M.1 14 i = -1 ∨ ∃ k : Nat, k < 30 ∧ M.1 14 i = nI k) : ZQ l z mX3_workerAt b0 [.int x] w (mWorkerAt M x) := by
  obtain ⟨g, f⟩ := M
  obtain ⟨bd, g1, rfl, h, hA⟩ := h
  dsimp only at h hA hc hfl
  have hH := h
  obtain ⟨m20, m21, m22, m23, m24, m25, m26, m27, m28, m29, m30, m31, m32, m33, m34, m35, m36, m37, m38⟩ := h.all
  refine zbody (M := mX3_workerAt) (L0 := [_, _]) hl (by simp [Value.category]) (Nat.le_of_ble_eq_true rfl) (by decide +kernel) rfl ?_
  intro p e s m args below meth c C hX hnm hret
  replace C : zC z p l s m args meth c cX3_workerAt RX3 2 := C
  replace hret : meth.sig.returnType = (some .int) := hret
  refine z_aload_n C dX3_workerAt_0 rfl ?_
  refine z_aload_n C dX3_workerAt_1 rfl ?_
  refine z_iload_n C dX3_workerAt_2 rfl ?_
  refine z_callV C zm_X3_isPlace zl_X3_147 (m_isPlace hl hH x) dX3_workerAt_3 (by first | assumption | exact zk_eq | exact zk_ne (by first | assumption | exact zk_eq | exact zk_ne (by first | assumption | exact zk_eq | exact zk_ne (by first | assumption | exact zk_eq | exact zk_ne (by first | assumption | exact zk_eq | exact zk_ne (by first | assumption | exact zk_eq) (by first | decide | omega)) (by first | decide | omega)) (by first | decide | omega)) (by first | decide | omega)) (by first | decide | omega)) (by rfl) (by rfl) (by rfl) (by exact Nat.le_of_ble_eq_true rfl) rfl (by exact ⟨Nat.le_of_ble_eq_true rfl, Nat.le_of_ble_eq_true rfl⟩) (by first | exact ⟨Nat.le_of_ble_eq_true rfl, Nat.le_of_ble_eq_true rfl⟩ | (simp only [zrm]; omega)) (fun _ _ h => z_xno h) (fun r w1 hq => ?_)
  obtain ⟨rfl, rfl⟩ := hq
  refine z_iconst C (1) dX3_workerAt_6 (by decide) ?_
  refine z_iconst C (1) dX3_workerAt_7 (by decide) ?_
  refine z_callV C zm_X3_goes zl_X3_91 (m_goes (a := mIn x 0 (f 17 - 1)) (b := true) (v := true) hl hH) dX3_workerAt_8 (by first | assumption | exact zk_eq | exact zk_ne (by first | assumption | exact zk_eq | exact zk_ne (by first | assumption | exact zk_eq | exact zk_ne (by first | assumption | exact zk_eq | exact zk_ne (by first | assumption | exact zk_eq | exact zk_ne (by first | assumption | exact zk_eq) (by first | decide | omega)) (by first | decide | omega)) (by first | decide | omega)) (by first | decide | omega)) (by first | decide | omega)) (by rfl) (by rfl) (by rfl) (by exact Nat.le_of_ble_eq_true rfl) rfl (by exact ⟨Nat.le_of_ble_eq_true rfl, Nat.le_of_ble_eq_true rfl⟩) (by first | exact ⟨Nat.le_of_ble_eq_true rfl, Nat.le_of_ble_eq_true rfl⟩ | (simp only [zrm]; omega)) (fun _ _ h => z_xno h) (fun r w2 hq => ?_)
  obtain ⟨rfl, g2, g3⟩ := hq
  have hX := g2
  obtain ⟨m20, m21, m22, m23, m24, m25, m26, m27, m28, m29, m30, m31, m32, m33, m34, m35, m36, m37, m38⟩ := g2.all
  cases hi : mIn x 0 (f 17 - 1) with
  | false =>
    rw [hi] at hX
    refine z_if_ne C 18 dX3_workerAt_11 (by decide) (fun c2 => ?_) (fun c2 => ?_)
    · exact absurd rfl c2
    · refine z_iconst C (0) dX3_workerAt_14 (by decide) ?_
      refine z_goto C 43 dX3_workerAt_15 (by decide) ?_
      refine z_iret C hret dX3_workerAt_43 (by first | exact Nat.le_of_ble_eq_true rfl | omega) (by first | exact Nat.le_of_ble_eq_true rfl | omega) ?_
      exact ZQ.fin (M1 := (g, va_up f 25 1)) (by simp only [mWorkerAt, hi, Bool.false_eq_true, if_false]) ⟨bd, g1, rfl, hX, hA⟩ g3
  | true =>
    rw [hi] at hX m20
    have e14 := hA 14 (by decide)
    have d3 := hi
    simp only [mIn, Bool.and_eq_true, Bool.not_eq_true', decide_eq_false_iff_not] at d3
    obtain ⟨q, hq9, rfl⟩ : ∃ q : Nat, q < c9 ∧ x = nI q := by
      obtain ⟨j, hj, rfl⟩ := nI_of d3.1
      have h4 := Int32.not_lt.mp d3.2
      rw [hc] at h4
      cases c9 with
      | zero => exact absurd (Int32.le_trans (nI_pos' hj) h4) (by decide)
      | succ c9 =>
        rw [nI_pred] at h4
        have := (nI_leI hj (by omega)).mp h4
        exact ⟨j, by omega, rfl⟩
    have hcl : (nI q).toNatClampNeg = q := nI_clamp (by omega)
    refine z_if_ne C 18 dX3_workerAt_11 (by decide) (fun c2 => ?_) (fun c2 => ?_)
    · refine z_aload_n C dX3_workerAt_18 rfl ?_
      refine z_getf C zf_X3_53 dX3_workerAt_19 (by first | assumption | exact zk_eq | exact zk_ne (by first | assumption | exact zk_eq | exact zk_ne (by first | assumption | exact zk_eq | exact zk_ne (by first | assumption | exact zk_eq | exact zk_ne (by first | assumption | exact zk_eq | exact zk_ne (by first | assumption | exact zk_eq) (by first | decide | omega)) (by first | decide | omega)) (by first | decide | omega)) (by first | decide | omega)) (by first | decide | omega)) (by rfl) ?_
      refine z_iload_n C dX3_workerAt_22 rfl ?_
      refine z_iald C dX3_workerAt_23 (by first | assumption | exact zk_eq | exact zk_ne (by first | assumption | exact zk_eq | exact zk_ne (by first | assumption | exact zk_eq | exact zk_ne (by first | assumption | exact zk_eq | exact zk_ne (by first | assumption | exact zk_eq | exact zk_ne (by first | assumption | exact zk_eq) (by first | decide | omega)) (by first | decide | omega)) (by first | decide | omega)) (by first | decide | omega)) (by first | decide | omega)) (by first | rfl | assumption) (by first | assumption | omega | decide) (by first | decide | omega) ?_
      refine z_iconst C (-1) dX3_workerAt_24 (by decide) ?_
      rw [e14]
      refine z_icmp_ne C 32 dX3_workerAt_25 (by decide) (fun c3 => ?_) (fun c3 => ?_)
      · obtain ⟨k, hk30, hgk⟩ := (hfl q hq9).resolve_left c3
        rw [← e14] at hgk
        refine z_aload_n C dX3_workerAt_32 rfl ?_
        refine z_getf C zf_X3_7 dX3_workerAt_33 (by first | assumption | exact zk_eq | exact zk_ne (by first | assumption | exact zk_eq | exact zk_ne (by first | assumption | exact zk_eq | exact zk_ne (by first | assumption | exact zk_eq | exact zk_ne (by first | assumption | exact zk_eq | exact zk_ne (by first | assumption | exact zk_eq) (by first | decide | omega)) (by first | decide | omega)) (by first | decide | omega)) (by first | decide | omega)) (by first | decide | omega)) (by rfl) ?_
        refine z_aload_n C dX3_workerAt_36 rfl ?_
        refine z_getf C zf_X3_53 dX3_workerAt_37 (by first | assumption | exact zk_eq | exact zk_ne (by first | assumption | exact zk_eq | exact zk_ne (by first | assumption | exact zk_eq | exact zk_ne (by first | assumption | exact zk_eq | exact zk_ne (by first | assumption | exact zk_eq | exact zk_ne (by first | assumption | exact zk_eq) (by first | decide | omega)) (by first | decide | omega)) (by first | decide | omega)) (by first | decide | omega)) (by first | decide | omega)) (by rfl) ?_
        refine z_iload_n C dX3_workerAt_40 rfl ?_
        refine z_iald C dX3_workerAt_41 (by first | assumption | exact zk_eq | exact zk_ne (by first | assumption | exact zk_eq | exact zk_ne (by first | assumption | exact zk_eq | exact zk_ne (by first | assumption | exact zk_eq | exact zk_ne (by first | assumption | exact zk_eq | exact zk_ne (by first | assumption | exact zk_eq) (by first | decide | omega)) (by first | decide | omega)) (by first | decide | omega)) (by first | decide | omega)) (by first | decide | omega)) (by first | rfl | assumption) (by first | assumption | omega | decide) (by first | decide | omega) ?_
        refine z_iald C dX3_workerAt_42 (by first | assumption | exact zk_eq | exact zk_ne (by first | assumption | exact zk_eq | exact zk_ne (by first | assumption | exact zk_eq | exact zk_ne (by first | assumption | exact zk_eq | exact zk_ne (by first | assumption | exact zk_eq | exact zk_ne (by first | assumption | exact zk_eq) (by first | decide | omega)) (by first | decide | omega)) (by first | decide | omega)) (by first | decide | omega)) (by first | decide | omega)) (by first | rfl | assumption) (by first | assumption | omega | decide) (by first | decide | omega) ?_
        refine z_iret C hret dX3_workerAt_43 (by first | exact Nat.le_of_ble_eq_true rfl | omega) (by first | exact Nat.le_of_ble_eq_true rfl | omega) ?_
        refine ZQ.fin (M1 := (g, va_up f 25 0)) ?_ ⟨bd, g1, rfl, hX, hA⟩ g3
        simp only [mWorkerAt, hi, if_true, hcl, if_neg c3]
        rw [← e14, hgk, nI_clamp (by omega), hA 0 (by decide)]
      · refine z_iconst C (-1) dX3_workerAt_28 (by decide) ?_
        refine z_goto C 43 dX3_workerAt_29 (by decide) ?_
        refine z_iret C hret dX3_workerAt_43 (by first | exact Nat.le_of_ble_eq_true rfl | omega) (by first | exact Nat.le_of_ble_eq_true rfl | omega) ?_
        refine ZQ.fin (M1 := (g, va_up f 25 0)) ?_ ⟨bd, g1, rfl, hX, hA⟩ g3
        simp only [mWorkerAt, hi, if_true, hcl, if_pos c3]
    · exact absurd c2 (by decide)
theorem mEsh_f18 (t : Int32) (M : zMO) : ∀ i : Nat, (mEsh t M i).2 18 = M.2 18
  | 0 => rfl
  | i + 1 => by
    have ih := mEsh_f18 t M i
    rw [mEsh]
    dsimp only
    split
    · exact (va_up_ne _ _ (by decide)).trans ih
    · exact ih
theorem q_signOn (hl : l.stackTraces = false) (h : MM z b0 w M) (x y : Int32) : ZQ l z mX3_signOn b0 [.int x, .int y] w (mSignOn M x y) := by
  obtain ⟨g, f⟩ := M
  obtain ⟨bd, g1, rfl, h, hA⟩ := h
  dsimp only at h hA
  have hH := h
  obtain ⟨m20, m21, m22, m23, m24, m25, m26, m27, m28, m29, m30, m31, m32, m33, m34, m35, m36, m37, m38⟩ := h.all
  refine zbody (M := mX3_signOn) (L0 := [_, _, _, _]) hl (by simp [Value.category]) (Nat.le_of_ble_eq_true rfl) (by decide +kernel) rfl ?_
  intro p e s m args below meth c C hX hnm hret
  replace C : zC z p l s m args meth c cX3_signOn RX3 4 := C
  replace hret : meth.sig.returnType = (some .int) := hret
  have mid : ∀ a : Bool, a = (mIn x 0 3 && mIn y 0 31) → ZJ z p l e (zrm 3 0 0) s m args below meth c (vx_MQ below (zQc z (fun r w2 => r = some (.int (mSignOn (g, f) x y).1) ∧ MM z (bd 20) w2 (mSignOn (g, f) x y).2 ∧ zFm w w2)) (zXC z zNo) args s 0 0 (zA z)) 0 0 23 [some (.ref (bd 20)), some (.int x), some (.int y), none] [.int (zb a), .ref (bd 20)] w := by
    intro a ha
    have tail : ∀ b : Bool, b = decide (mCnt g 30 < 30) → ZJ z p l e (zrm 3 0 0) s m args below meth c (vx_MQ below (zQc z (fun r w2 => r = some (.int (mSignOn (g, f) x y).1) ∧ MM z (bd 20) w2 (mSignOn (g, f) x y).2 ∧ zFm w w2)) (zXC z zNo) args s 0 0 (zA z)) 0 0 37 [some (.ref (bd 20)), some (.int x), some (.int y), none] [.int (zb b), .int (zb a), .ref (bd 20)] w := by
      intro b hb
      refine z_iconst C (1) dX3_signOn_37 (by decide) ?_
      refine z_callV C zm_X3_goes zl_X3_91 (m_goes (a := a) (b := b) (v := true) hl hH) dX3_signOn_38 (by first | assumption | exact zk_eq | exact zk_ne (by first | assumption | exact zk_eq | exact zk_ne (by first | assumption | exact zk_eq | exact zk_ne (by first | assumption | exact zk_eq | exact zk_ne (by first | assumption | exact zk_eq | exact zk_ne (by first | assumption | exact zk_eq) (by first | decide | omega)) (by first | decide | omega)) (by first | decide | omega)) (by first | decide | omega)) (by first | decide | omega)) (by rfl) (by rfl) (by rfl) (by exact Nat.le_of_ble_eq_true rfl) rfl (by exact ⟨Nat.le_of_ble_eq_true rfl, Nat.le_of_ble_eq_true rfl⟩) (by first | exact ⟨Nat.le_of_ble_eq_true rfl, Nat.le_of_ble_eq_true rfl⟩ | (simp only [zrm]; omega)) (fun _ _ h => z_xno h) (fun r w2 hq => ?_)
      obtain ⟨rfl, g2, g3⟩ := hq
      have hX := g2
      obtain ⟨m20, m21, m22, m23, m24, m25, m26, m27, m28, m29, m30, m31, m32, m33, m34, m35, m36, m37, m38⟩ := g2.all
      cases a with
      | false =>
        have hno : ¬ (mIn x 0 3 = true ∧ mIn y 0 31 = true) := fun h => by rw [h.1, h.2] at ha; cases ha
        refine z_if_ne C 46 dX3_signOn_41 (by decide) (fun c2 => ?_) (fun c2 => ?_)
        · exact absurd rfl c2
        · refine z_iconst C (0) dX3_signOn_44 (by decide) ?_
          refine z_iret C hret dX3_signOn_45 (by first | exact Nat.le_of_ble_eq_true rfl | omega) (by first | exact Nat.le_of_ble_eq_true rfl | omega) ?_
          exact ZQ.fin (M1 := (g, va_up f 25 1)) (by simp only [mSignOn, if_neg hno]) ⟨bd, g1, rfl, hX, hA⟩ g3
      | true =>
        have hyes : mIn x 0 3 = true ∧ mIn y 0 31 = true := by simpa using ha.symm
        cases hfr : mFree g with
        | none =>
          have hb2 : b = false := by rw [hb]; exact decide_eq_false ((mFree_cnt g).mp hfr)
          rw [hb2] at hX ⊢
          refine z_if_ne C 46 dX3_signOn_41 (by decide) (fun c2 => ?_) (fun c2 => ?_)
          · exact absurd rfl c2
          · refine z_iconst C (0) dX3_signOn_44 (by decide) ?_
            refine z_iret C hret dX3_signOn_45 (by first | exact Nat.le_of_ble_eq_true rfl | omega) (by first | exact Nat.le_of_ble_eq_true rfl | omega) ?_
            exact ZQ.fin (M1 := (g, va_up f 25 2)) (by simp only [mSignOn, if_pos hyes, hfr]) ⟨bd, g1, rfl, hX, hA⟩ g3
        | some k =>
          have hb2 : b = true := by
            rw [hb]
            refine decide_eq_true ?_
            rcases Nat.lt_or_ge (mCnt g 30) 30 with h | h
            · exact h
            · rw [(mFree_cnt g).mpr (by omega)] at hfr
              cases hfr
          rw [hb2] at hX m20 ⊢
          refine z_if_ne C 46 dX3_signOn_41 (by decide) (fun c2 => ?_) (fun c2 => ?_)
          · refine z_iconst C (0) dX3_signOn_46 (by decide) ?_
            refine z_istore_n C (L1 := [_, _, _, _]) dX3_signOn_47 (Nat.le_of_ble_eq_true rfl) rfl ?_
            refine z_ind (σ := Nat) (fun i => i ≤ 30 ∧ mFree g = ((List.range 30).drop i).find? (fun k => !mOcc g k)) (fun i => 30 - i) (fun _ => 0) (fun _ => 0)
              (fun i => [some (.ref (bd 20)), some (.int x), some (.int y), some (.int (nI i))]) (fun _ => w2) 0 ⟨Nat.zero_le _, rfl⟩ ?_
            rintro i ⟨q1, q2⟩ ih
            have hi2 : i < 30 := by
              rcases Nat.lt_or_ge i 30 with h | h
              · exact h
              · rw [hfr, show (List.range 30).drop i = [] from List.drop_eq_nil_of_le (by simpa using h)] at q2
                cases q2
            rw [find_drop _ _ _ (by simpa using hi2), List.getElem_range] at q2
            have e0 := hA 0 (by decide)
            refine z_aload_n C dX3_signOn_48 rfl ?_
            refine z_getf C zf_X3_7 dX3_signOn_49 (by first | assumption | exact zk_eq | exact zk_ne (by first | assumption | exact zk_eq | exact zk_ne (by first | assumption | exact zk_eq | exact zk_ne (by first | assumption | exact zk_eq | exact zk_ne (by first | assumption | exact zk_eq | exact zk_ne (by first | assumption | exact zk_eq) (by first | decide | omega)) (by first | decide | omega)) (by first | decide | omega)) (by first | decide | omega)) (by first | decide | omega)) (by rfl) ?_
            refine z_iload_n C dX3_signOn_52 rfl ?_
            refine z_iald C dX3_signOn_53 (by first | assumption | exact zk_eq | exact zk_ne (by first | assumption | exact zk_eq | exact zk_ne (by first | assumption | exact zk_eq | exact zk_ne (by first | assumption | exact zk_eq | exact zk_ne (by first | assumption | exact zk_eq | exact zk_ne (by first | assumption | exact zk_eq) (by first | decide | omega)) (by first | decide | omega)) (by first | decide | omega)) (by first | decide | omega)) (by first | decide | omega)) (by first | rfl | assumption) (by first | assumption | omega | decide) (by first | decide | omega) ?_
            refine z_iconst C (-1) dX3_signOn_54 (by decide) ?_
            rw [e0]
            refine z_icmp_eq C 64 dX3_signOn_55 (by decide) (fun c3 => ?_) (fun c3 => ?_)
            · rw [if_pos (by simp [mOcc, c3]), hfr] at q2
              cases q2
              refine z_aload_n C dX3_signOn_64 rfl ?_
              refine z_getf C zf_X3_7 dX3_signOn_65 (by first | assumption | exact zk_eq | exact zk_ne (by first | assumption | exact zk_eq | exact zk_ne (by first | assumption | exact zk_eq | exact zk_ne (by first | assumption | exact zk_eq | exact zk_ne (by first | assumption | exact zk_eq | exact zk_ne (by first | assumption | exact zk_eq) (by first | decide | omega)) (by first | decide | omega)) (by first | decide | omega)) (by first | decide | omega)) (by first | decide | omega)) (by rfl) ?_
              refine z_iload_n C dX3_signOn_68 rfl ?_
              refine z_aload_n C dX3_signOn_69 rfl ?_
              refine z_getf C zf_X3_95 dX3_signOn_70 (by first | assumption | exact zk_eq | exact zk_ne (by first | assumption | exact zk_eq | exact zk_ne (by first | assumption | exact zk_eq | exact zk_ne (by first | assumption | exact zk_eq | exact zk_ne (by first | assumption | exact zk_eq | exact zk_ne (by first | assumption | exact zk_eq) (by first | decide | omega)) (by first | decide | omega)) (by first | decide | omega)) (by first | decide | omega)) (by first | decide | omega)) (by rfl) ?_
              refine z_iast C dX3_signOn_73 (by first | assumption | exact zk_eq | exact zk_ne (by first | assumption | exact zk_eq | exact zk_ne (by first | assumption | exact zk_eq | exact zk_ne (by first | assumption | exact zk_eq | exact zk_ne (by first | assumption | exact zk_eq | exact zk_ne (by first | assumption | exact zk_eq) (by first | decide | omega)) (by first | decide | omega)) (by first | decide | omega)) (by first | decide | omega)) (by first | decide | omega)) (by first | rfl | assumption) (by first | assumption | omega | decide) (by first | decide | omega) ?_
              refine z_aload_n C dX3_signOn_74 rfl ?_
              refine z_getf C zf_X3_13 dX3_signOn_75 (by first | assumption | exact zk_eq | exact zk_ne (by first | assumption | exact zk_eq | exact zk_ne (by first | assumption | exact zk_eq | exact zk_ne (by first | assumption | exact zk_eq | exact zk_ne (by first | assumption | exact zk_eq | exact zk_ne (by first | assumption | exact zk_eq) (by first | decide | omega)) (by first | decide | omega)) (by first | decide | omega)) (by first | decide | omega)) (by first | decide | omega)) (by rfl) ?_
              refine z_iload_n C dX3_signOn_78 rfl ?_
              refine z_iload_n C dX3_signOn_79 rfl ?_
              refine z_iast C dX3_signOn_80 (by first | assumption | exact zk_eq | exact zk_ne (by first | assumption | exact zk_eq | exact zk_ne (by first | assumption | exact zk_eq | exact zk_ne (by first | assumption | exact zk_eq | exact zk_ne (by first | assumption | exact zk_eq | exact zk_ne (by first | assumption | exact zk_eq) (by first | decide | omega)) (by first | decide | omega)) (by first | decide | omega)) (by first | decide | omega)) (by first | decide | omega)) (by first | rfl | assumption) (by first | assumption | omega | decide) (by first | decide | omega) ?_
              refine z_aload_n C dX3_signOn_81 rfl ?_
              refine z_getf C zf_X3_19 dX3_signOn_82 (by first | assumption | exact zk_eq | exact zk_ne (by first | assumption | exact zk_eq | exact zk_ne (by first | assumption | exact zk_eq | exact zk_ne (by first | assumption | exact zk_eq | exact zk_ne (by first | assumption | exact zk_eq | exact zk_ne (by first | assumption | exact zk_eq) (by first | decide | omega)) (by first | decide | omega)) (by first | decide | omega)) (by first | decide | omega)) (by first | decide | omega)) (by rfl) ?_
              refine z_iload_n C dX3_signOn_85 rfl ?_
              refine z_iload_n C dX3_signOn_86 rfl ?_
              refine z_iast C dX3_signOn_87 (by first | assumption | exact zk_eq | exact zk_ne (by first | assumption | exact zk_eq | exact zk_ne (by first | assumption | exact zk_eq | exact zk_ne (by first | assumption | exact zk_eq | exact zk_ne (by first | assumption | exact zk_eq | exact zk_ne (by first | assumption | exact zk_eq) (by first | decide | omega)) (by first | decide | omega)) (by first | decide | omega)) (by first | decide | omega)) (by first | decide | omega)) (by first | rfl | assumption) (by first | assumption | omega | decide) (by first | decide | omega) ?_
              refine z_aload_n C dX3_signOn_88 rfl ?_
              refine z_getf C zf_X3_22 dX3_signOn_89 (by first | assumption | exact zk_eq | exact zk_ne (by first | assumption | exact zk_eq | exact zk_ne (by first | assumption | exact zk_eq | exact zk_ne (by first | assumption | exact zk_eq | exact zk_ne (by first | assumption | exact zk_eq | exact zk_ne (by first | assumption | exact zk_eq) (by first | decide | omega)) (by first | decide | omega)) (by first | decide | omega)) (by first | decide | omega)) (by first | decide | omega)) (by rfl) ?_
              refine z_iload_n C dX3_signOn_92 rfl ?_
              refine z_iconst C (0) dX3_signOn_93 (by decide) ?_
              refine z_zast C dX3_signOn_94 (by first | assumption | exact zk_eq | exact zk_ne (by first | assumption | exact zk_eq | exact zk_ne (by first | assumption | exact zk_eq | exact zk_ne (by first | assumption | exact zk_eq | exact zk_ne (by first | assumption | exact zk_eq | exact zk_ne (by first | assumption | exact zk_eq) (by first | decide | omega)) (by first | decide | omega)) (by first | decide | omega)) (by first | decide | omega)) (by first | decide | omega)) (by first | rfl | assumption) (by first | assumption | omega | decide) (by first | decide | omega) (by first | rfl | exact zb_vp _ | assumption) ?_
              have hX2 := (((hX.arr 0 (va_up (g1 0) k (f 11))).arr 1 (va_up (g1 1) k x)).arr 3 (va_up (g1 3) k y)).arr 4 (va_up (g1 4) k 0)
              have hY := hX2
              obtain ⟨m20, m21, m22, m23, m24, m25, m26, m27, m28, m29, m30, m31, m32, m33, m34, m35, m36, m37, m38⟩ := hX2.all
              refine z_aload_n C dX3_signOn_95 rfl ?_
              refine z_getf C zf_X3_26 dX3_signOn_96 (by first | assumption | exact zk_eq | exact zk_ne (by first | assumption | exact zk_eq | exact zk_ne (by first | assumption | exact zk_eq | exact zk_ne (by first | assumption | exact zk_eq | exact zk_ne (by first | assumption | exact zk_eq | exact zk_ne (by first | assumption | exact zk_eq) (by first | decide | omega)) (by first | decide | omega)) (by first | decide | omega)) (by first | decide | omega)) (by first | decide | omega)) (by rfl) ?_
              refine z_iload_n C dX3_signOn_99 rfl ?_
              refine z_iconst C (0) dX3_signOn_100 (by decide) ?_
              refine z_zast C dX3_signOn_101 (by first | assumption | exact zk_eq | exact zk_ne (by first | assumption | exact zk_eq | exact zk_ne (by first | assumption | exact zk_eq | exact zk_ne (by first | assumption | exact zk_eq | exact zk_ne (by first | assumption | exact zk_eq | exact zk_ne (by first | assumption | exact zk_eq) (by first | decide | omega)) (by first | decide | omega)) (by first | decide | omega)) (by first | decide | omega)) (by first | decide | omega)) (by first | rfl | assumption) (by first | assumption | omega | decide) (by first | decide | omega) (by first | rfl | exact zb_vp _ | assumption) ?_
              refine z_aload_n C dX3_signOn_102 rfl ?_
              refine z_getf C zf_X3_29 dX3_signOn_103 (by first | assumption | exact zk_eq | exact zk_ne (by first | assumption | exact zk_eq | exact zk_ne (by first | assumption | exact zk_eq | exact zk_ne (by first | assumption | exact zk_eq | exact zk_ne (by first | assumption | exact zk_eq | exact zk_ne (by first | assumption | exact zk_eq) (by first | decide | omega)) (by first | decide | omega)) (by first | decide | omega)) (by first | decide | omega)) (by first | decide | omega)) (by rfl) ?_
              refine z_iload_n C dX3_signOn_106 rfl ?_
              refine z_iconst C (0) dX3_signOn_107 (by decide) ?_
              refine z_zast C dX3_signOn_108 (by first | assumption | exact zk_eq | exact zk_ne (by first | assumption | exact zk_eq | exact zk_ne (by first | assumption | exact zk_eq | exact zk_ne (by first | assumption | exact zk_eq | exact zk_ne (by first | assumption | exact zk_eq | exact zk_ne (by first | assumption | exact zk_eq) (by first | decide | omega)) (by first | decide | omega)) (by first | decide | omega)) (by first | decide | omega)) (by first | decide | omega)) (by first | rfl | assumption) (by first | assumption | omega | decide) (by first | decide | omega) (by first | rfl | exact zb_vp _ | assumption) ?_
              refine z_aload_n C dX3_signOn_109 rfl ?_
              refine z_getf C zf_X3_32 dX3_signOn_110 (by first | assumption | exact zk_eq | exact zk_ne (by first | assumption | exact zk_eq | exact zk_ne (by first | assumption | exact zk_eq | exact zk_ne (by first | assumption | exact zk_eq | exact zk_ne (by first | assumption | exact zk_eq | exact zk_ne (by first | assumption | exact zk_eq) (by first | decide | omega)) (by first | decide | omega)) (by first | decide | omega)) (by first | decide | omega)) (by first | decide | omega)) (by rfl) ?_
              refine z_iload_n C dX3_signOn_113 rfl ?_
              refine z_iconst C (-1) dX3_signOn_114 (by decide) ?_
              refine z_iast C dX3_signOn_115 (by first | assumption | exact zk_eq | exact zk_ne (by first | assumption | exact zk_eq | exact zk_ne (by first | assumption | exact zk_eq | exact zk_ne (by first | assumption | exact zk_eq | exact zk_ne (by first | assumption | exact zk_eq | exact zk_ne (by first | assumption | exact zk_eq) (by first | decide | omega)) (by first | decide | omega)) (by first | decide | omega)) (by first | decide | omega)) (by first | decide | omega)) (by first | rfl | assumption) (by first | assumption | omega | decide) (by first | decide | omega) ?_
              refine z_aload_n C dX3_signOn_116 rfl ?_
              refine z_getf C zf_X3_38 dX3_signOn_117 (by first | assumption | exact zk_eq | exact zk_ne (by first | assumption | exact zk_eq | exact zk_ne (by first | assumption | exact zk_eq | exact zk_ne (by first | assumption | exact zk_eq | exact zk_ne (by first | assumption | exact zk_eq | exact zk_ne (by first | assumption | exact zk_eq) (by first | decide | omega)) (by first | decide | omega)) (by first | decide | omega)) (by first | decide | omega)) (by first | decide | omega)) (by rfl) ?_
              refine z_iload_n C dX3_signOn_120 rfl ?_
              refine z_iconst C (0) dX3_signOn_121 (by decide) ?_
              refine z_iast C dX3_signOn_122 (by first | assumption | exact zk_eq | exact zk_ne (by first | assumption | exact zk_eq | exact zk_ne (by first | assumption | exact zk_eq | exact zk_ne (by first | assumption | exact zk_eq | exact zk_ne (by first | assumption | exact zk_eq | exact zk_ne (by first | assumption | exact zk_eq) (by first | decide | omega)) (by first | decide | omega)) (by first | decide | omega)) (by first | decide | omega)) (by first | decide | omega)) (by first | rfl | assumption) (by first | assumption | omega | decide) (by first | decide | omega) ?_
              have hX3 := (((hY.arr 5 (va_up (g1 5) k 0)).arr 6 (va_up (g1 6) k 0)).arr 7 (va_up (g1 7) k (-1))).arr 9 (va_up (g1 9) k 0)
              have hY2 := hX3
              obtain ⟨m20, m21, m22, m23, m24, m25, m26, m27, m28, m29, m30, m31, m32, m33, m34, m35, m36, m37, m38⟩ := hX3.all
              refine z_aload_n C dX3_signOn_123 rfl ?_
              refine z_getf C zf_X3_41 dX3_signOn_124 (by first | assumption | exact zk_eq | exact zk_ne (by first | assumption | exact zk_eq | exact zk_ne (by first | assumption | exact zk_eq | exact zk_ne (by first | assumption | exact zk_eq | exact zk_ne (by first | assumption | exact zk_eq | exact zk_ne (by first | assumption | exact zk_eq) (by first | decide | omega)) (by first | decide | omega)) (by first | decide | omega)) (by first | decide | omega)) (by first | decide | omega)) (by rfl) ?_
              refine z_iload_n C dX3_signOn_127 rfl ?_
              refine z_iconst C (0) dX3_signOn_128 (by decide) ?_
              refine z_iast C dX3_signOn_129 (by first | assumption | exact zk_eq | exact zk_ne (by first | assumption | exact zk_eq | exact zk_ne (by first | assumption | exact zk_eq | exact zk_ne (by first | assumption | exact zk_eq | exact zk_ne (by first | assumption | exact zk_eq | exact zk_ne (by first | assumption | exact zk_eq) (by first | decide | omega)) (by first | decide | omega)) (by first | decide | omega)) (by first | decide | omega)) (by first | decide | omega)) (by first | rfl | assumption) (by first | assumption | omega | decide) (by first | decide | omega) ?_
              refine z_aload_n C dX3_signOn_130 rfl ?_
              refine z_iload_n C dX3_signOn_131 rfl ?_
              have hX4 := hY2.arr 10 (va_up (g1 10) k 0)
              have m20' := hX4.1
              refine z_callV C zm_X3_lowers zl_X3_98 (m_lowers hl hX4 hi2) dX3_signOn_132 (by first | assumption | exact zk_eq | exact zk_ne (by first | assumption | exact zk_eq | exact zk_ne (by first | assumption | exact zk_eq | exact zk_ne (by first | assumption | exact zk_eq | exact zk_ne (by first | assumption | exact zk_eq | exact zk_ne (by first | assumption | exact zk_eq) (by first | decide | omega)) (by first | decide | omega)) (by first | decide | omega)) (by first | decide | omega)) (by first | decide | omega)) (by rfl) (by rfl) (by rfl) (by exact Nat.le_of_ble_eq_true rfl) rfl (by exact ⟨Nat.le_of_ble_eq_true rfl, Nat.le_of_ble_eq_true rfl⟩) (by first | exact ⟨Nat.le_of_ble_eq_true rfl, Nat.le_of_ble_eq_true rfl⟩ | (simp only [zrm]; omega)) (fun _ _ h => z_xno h) (fun r w5 hq => ?_)
              obtain ⟨rfl, g4, g5⟩ := hq
              have hX5 := g4
              have m20'' := g4.1
              refine z_aload_n C dX3_signOn_135 rfl ?_
              refine z_dup C dX3_signOn_136 rfl ?_
              refine z_getf C zf_X3_95 dX3_signOn_137 (by first | assumption | exact zk_eq | exact zk_ne (by first | assumption | exact zk_eq | exact zk_ne (by first | assumption | exact zk_eq | exact zk_ne (by first | assumption | exact zk_eq | exact zk_ne (by first | assumption | exact zk_eq | exact zk_ne (by first | assumption | exact zk_eq) (by first | decide | omega)) (by first | decide | omega)) (by first | decide | omega)) (by first | decide | omega)) (by first | decide | omega)) (by rfl) ?_
              refine z_iconst C (1) dX3_signOn_140 (by decide) ?_
              refine z_iadd C dX3_signOn_141 ?_
              refine z_putf C (fs1 := [_, _, _, _, _, _, _, _, _, _, _, _, _, _, _, _, _, _, _, _, _, _, _, _, _, _]) zp_X3_95 dX3_signOn_142 (by first | assumption | exact zk_eq | exact zk_ne (by first | assumption | exact zk_eq | exact zk_ne (by first | assumption | exact zk_eq | exact zk_ne (by first | assumption | exact zk_eq | exact zk_ne (by first | assumption | exact zk_eq | exact zk_ne (by first | assumption | exact zk_eq) (by first | decide | omega)) (by first | decide | omega)) (by first | decide | omega)) (by first | decide | omega)) (by first | decide | omega)) (by first | rfl | exact zb_nar _ | assumption) (by first | rfl | exact zb_fit _ | assumption) (by exact Nat.le_of_ble_eq_true rfl) (by rfl) ?_
              refine z_aload_n C dX3_signOn_145 rfl ?_
              refine z_getf C zf_X3_95 dX3_signOn_146 (by first | assumption | exact zk_eq | exact zk_ne (by first | assumption | exact zk_eq | exact zk_ne (by first | assumption | exact zk_eq | exact zk_ne (by first | assumption | exact zk_eq | exact zk_ne (by first | assumption | exact zk_eq | exact zk_ne (by first | assumption | exact zk_eq) (by first | decide | omega)) (by first | decide | omega)) (by first | decide | omega)) (by first | decide | omega)) (by first | decide | omega)) (by rfl) ?_
              refine z_iconst C (1) dX3_signOn_149 (by decide) ?_
              refine z_isub C dX3_signOn_150 ?_
              refine z_iret C hret dX3_signOn_151 (by first | exact Nat.le_of_ble_eq_true rfl | omega) (by first | exact Nat.le_of_ble_eq_true rfl | omega) ?_
              have hN : mAg (mNewG g1 f k x y) (mNewG g f k x y) := hA.new
              refine ZQ.fin (M1 := (mLow (mNewG g f k x y) (va_up f 25 0) k, va_up (mLoF (va_up f 25 0)) 11 (f 11 + 1))) ?_ ⟨bd, mLow (mNewG g1 f k x y) (va_up f 25 0) k, rfl, hX5.obj (va_up (mLoF (va_up f 25 0)) 11 (f 11 + 1)), hN.low⟩ (((((((((((g3.up (by decide) (by decide)).up (by decide) (by decide)).up (by decide) (by decide)).up (by decide) (by decide)).up (by decide) (by decide)).up (by decide) (by decide)).up (by decide) (by decide)).up (by decide) (by decide)).up (by decide) (by decide)).tr g5).up (by decide) (by decide))
              simp only [mSignOn, if_pos hyes, hfr]
              show _ = ((f 11 + 1 - 1 : Int32), _)
              rw [show (f 11 + 1 - 1 : Int32) = f 11 from Int32.add_sub_cancel _ _]
            · rw [if_neg (by simp [mOcc, c3])] at q2
              refine z_iinc C (L1 := [_, _, _, _]) _ dX3_signOn_58 rfl (by first | exact zinc | rfl) rfl ?_
              refine z_goto C 48 dX3_signOn_61 (by decide) ?_
              exact ih (i + 1) ⟨hi2, q2⟩ (by show 30 - (i + 1) < 30 - i; omega)
          · exact absurd c2 (by decide)
    refine z_aload_n C dX3_signOn_23 rfl ?_
    refine z_callV C zm_X3_count zl_X3_87 (m_count hl hH) dX3_signOn_24 (by first | assumption | exact zk_eq | exact zk_ne (by first | assumption | exact zk_eq | exact zk_ne (by first | assumption | exact zk_eq | exact zk_ne (by first | assumption | exact zk_eq | exact zk_ne (by first | assumption | exact zk_eq | exact zk_ne (by first | assumption | exact zk_eq) (by first | decide | omega)) (by first | decide | omega)) (by first | decide | omega)) (by first | decide | omega)) (by first | decide | omega)) (by rfl) (by rfl) (by rfl) (by exact Nat.le_of_ble_eq_true rfl) rfl (by exact ⟨Nat.le_of_ble_eq_true rfl, Nat.le_of_ble_eq_true rfl⟩) (by first | exact ⟨Nat.le_of_ble_eq_true rfl, Nat.le_of_ble_eq_true rfl⟩ | (simp only [zrm]; omega)) (fun _ _ h => z_xno h) (fun r w2 hq => ?_)
    obtain ⟨rfl, rfl⟩ := hq
    have hcl : mCnt g1 30 ≤ 30 := cntP_le _ _
    have hce := hA.cnt 30
    refine z_bipush C (30) dX3_signOn_27 (by decide) ?_
    refine z_icmp_ge C 36 dX3_signOn_29 (by decide) (fun c1 => ?_) (fun c1 => ?_)
    · refine z_iconst C (0) dX3_signOn_36 (by decide) ?_
      exact tail false (by rw [← hce]; exact (decide_eq_false (by have := ge_of_ge (i := mCnt g1 30) (n := 30) (by omega) (by omega) c1; omega)).symm)
    · refine z_iconst C (1) dX3_signOn_32 (by decide) ?_
      refine z_goto C 37 dX3_signOn_33 (by decide) ?_
      exact tail true (by rw [← hce]; exact (decide_eq_true (lt_of_nge (i := mCnt g1 30) (n := 30) (by omega) (by omega) c1)).symm)
  refine z_aload_n C dX3_signOn_0 rfl ?_
  refine z_iload_n C dX3_signOn_1 rfl ?_
  refine z_callS C zm_X3_isBoard zl_X3_83 (m_isBoard hl x) dX3_signOn_2 (by rfl) (by rfl) (by exact Nat.le_of_ble_eq_true rfl) rfl (by exact ⟨Nat.le_of_ble_eq_true rfl, Nat.le_of_ble_eq_true rfl⟩) (by first | exact ⟨Nat.le_of_ble_eq_true rfl, Nat.le_of_ble_eq_true rfl⟩ | (simp only [zrm]; omega)) (fun _ _ h => z_xno h) (fun r w1 hq => ?_)
  obtain ⟨rfl, rfl⟩ := hq
  refine z_if_eq C 22 dX3_signOn_5 (by decide) (fun c1 => ?_) (fun c1 => ?_)
  · have d1 : mIn x 0 3 = false := zb_ff c1
    refine z_iconst C (0) dX3_signOn_22 (by decide) ?_
    exact mid false (by rw [d1]; rfl)
  have d1 : mIn x 0 3 = true := zb_tt c1
  refine z_iload_n C dX3_signOn_8 rfl ?_
  refine z_iconst C (0) dX3_signOn_9 (by decide) ?_
  refine z_bipush C (31) dX3_signOn_10 (by decide) ?_
  refine z_callS C zm_X3_in zl_X3_72 (m_in hl y 0 31) dX3_signOn_12 (by rfl) (by rfl) (by exact Nat.le_of_ble_eq_true rfl) rfl (by exact ⟨Nat.le_of_ble_eq_true rfl, Nat.le_of_ble_eq_true rfl⟩) (by first | exact ⟨Nat.le_of_ble_eq_true rfl, Nat.le_of_ble_eq_true rfl⟩ | (simp only [zrm]; omega)) (fun _ _ h => z_xno h) (fun r w1 hq => ?_)
  obtain ⟨rfl, rfl⟩ := hq
  refine z_if_eq C 22 dX3_signOn_15 (by decide) (fun c2 => ?_) (fun c2 => ?_)
  · have d2 : mIn y 0 31 = false := zb_ff c2
    refine z_iconst C (0) dX3_signOn_22 (by decide) ?_
    exact mid false (by rw [d1, d2]; rfl)
  · have d2 : mIn y 0 31 = true := zb_tt c2
    refine z_iconst C (1) dX3_signOn_18 (by decide) ?_
    refine z_goto C 23 dX3_signOn_19 (by decide) ?_
    exact mid true (by rw [d1, d2]; rfl)
theorem q_nextUp (hl : l.stackTraces = false) (h : MM z b0 w M) (x : Int32) : ZQ l z mX3_nextUp b0 [.int x] w (mNextUp M x) := by
  obtain ⟨g, f⟩ := M
  obtain ⟨bd, g1, rfl, h, hA⟩ := h
  dsimp only at h hA
  have hH := h
  obtain ⟨m20, m21, m22, m23, m24, m25, m26, m27, m28, m29, m30, m31, m32, m33, m34, m35, m36, m37, m38⟩ := h.all
  refine zbody (M := mX3_nextUp) (L0 := [_, _, _, _]) hl (by simp [Value.category]) (Nat.le_of_ble_eq_true rfl) (by decide +kernel) rfl ?_
  intro p e s m args below meth c C hX hnm hret
  replace C : zC z p l s m args meth c cX3_nextUp RX3 4 := C
  replace hret : meth.sig.returnType = (some .int) := hret
  refine z_aload_n C dX3_nextUp_0 rfl ?_
  refine z_iload_n C dX3_nextUp_1 rfl ?_
  refine z_callS C zm_X3_isBoard zl_X3_83 (m_isBoard hl x) dX3_nextUp_2 (by rfl) (by rfl) (by exact Nat.le_of_ble_eq_true rfl) rfl (by exact ⟨Nat.le_of_ble_eq_true rfl, Nat.le_of_ble_eq_true rfl⟩) (by first | exact ⟨Nat.le_of_ble_eq_true rfl, Nat.le_of_ble_eq_true rfl⟩ | (simp only [zrm]; omega)) (fun _ _ h => z_xno h) (fun r w1 hq => ?_)
  obtain ⟨rfl, rfl⟩ := hq
  refine z_iconst C (1) dX3_nextUp_5 (by decide) ?_
  refine z_iconst C (1) dX3_nextUp_6 (by decide) ?_
  refine z_callV C zm_X3_goes zl_X3_91 (m_goes (a := mIn x 0 3) (b := true) (v := true) hl hH) dX3_nextUp_7 (by first | assumption | exact zk_eq | exact zk_ne (by first | assumption | exact zk_eq | exact zk_ne (by first | assumption | exact zk_eq | exact zk_ne (by first | assumption | exact zk_eq | exact zk_ne (by first | assumption | exact zk_eq | exact zk_ne (by first | assumption | exact zk_eq) (by first | decide | omega)) (by first | decide | omega)) (by first | decide | omega)) (by first | decide | omega)) (by first | decide | omega)) (by rfl) (by rfl) (by rfl) (by exact Nat.le_of_ble_eq_true rfl) rfl (by exact ⟨Nat.le_of_ble_eq_true rfl, Nat.le_of_ble_eq_true rfl⟩) (by first | exact ⟨Nat.le_of_ble_eq_true rfl, Nat.le_of_ble_eq_true rfl⟩ | (simp only [zrm]; omega)) (fun _ _ h => z_xno h) (fun r w2 hq => ?_)
  obtain ⟨rfl, g2, g3⟩ := hq
  have hX := g2
  obtain ⟨m20, m21, m22, m23, m24, m25, m26, m27, m28, m29, m30, m31, m32, m33, m34, m35, m36, m37, m38⟩ := g2.all
  cases hi : mIn x 0 3 with
  | false =>
    rw [hi] at hX
    refine z_if_ne C 15 dX3_nextUp_10 (by decide) (fun c2 => ?_) (fun c2 => ?_)
    · exact absurd rfl c2
    · refine z_iconst C (0) dX3_nextUp_13 (by decide) ?_
      refine z_iret C hret dX3_nextUp_14 (by first | exact Nat.le_of_ble_eq_true rfl | omega) (by first | exact Nat.le_of_ble_eq_true rfl | omega) ?_
      exact ZQ.fin (M1 := (g, va_up f 25 1)) (by simp only [mNextUp, hi, Bool.false_eq_true, if_false]) ⟨bd, g1, rfl, hX, hA⟩ g3
  | true =>
    rw [hi] at hX
    refine z_if_ne C 15 dX3_nextUp_10 (by decide) (fun c2 => ?_) (fun c2 => ?_)
    · refine z_aload_n C dX3_nextUp_15 rfl ?_
      refine z_callV C zm_X3_lineUp zl_X3_106 (m_lineUp hl hX) dX3_nextUp_16 (by first | assumption | exact zk_eq | exact zk_ne (by first | assumption | exact zk_eq | exact zk_ne (by first | assumption | exact zk_eq | exact zk_ne (by first | assumption | exact zk_eq | exact zk_ne (by first | assumption | exact zk_eq | exact zk_ne (by first | assumption | exact zk_eq) (by first | decide | omega)) (by first | decide | omega)) (by first | decide | omega)) (by first | decide | omega)) (by first | decide | omega)) (by rfl) (by rfl) (by rfl) (by exact Nat.le_of_ble_eq_true rfl) rfl (by exact ⟨Nat.le_of_ble_eq_true rfl, Nat.le_of_ble_eq_true rfl⟩) (by first | exact ⟨Nat.le_of_ble_eq_true rfl, Nat.le_of_ble_eq_true rfl⟩ | (simp only [zrm]; omega)) (fun _ _ h => z_xno h) (fun r w4 hq => ?_)
      obtain ⟨rfl, ⟨v, g4, g5⟩, g6⟩ := hq
      have hY := g4
      obtain ⟨m20, m21, m22, m23, m24, m25, m26, m27, m28, m29, m30, m31, m32, m33, m34, m35, m36, m37, m38⟩ := g4.all
      rw [show mLine g1 = mLine g by rw [mLine, hA.lin]] at g5 ⊢
      have hL30 : (mLine g).length ≤ 30 := by rw [List.length_reverse]; exact mLinR_len 30
      have hA2 : mAg (va_up g1 15 v) g := hA.scr (by decide) v
      have hr : ∀ x2 : Int32, x2 = (match (mLine g).find? (fun k => decide (g 1 k = x) && mRdy g k) with | some k => g 0 k | none => -1) → some (Value.int x2) = some (.int (mNextUp (g, f) x).1) ∧ MM z (bd 20) w4 (mNextUp (g, f) x).2 ∧ zFm w1 w4 := fun x2 hx2 => ZQ.fin (M1 := (g, va_up f 25 0)) (by simp only [mNextUp, hi, if_true, hx2]) ⟨bd, _, rfl, hY, hA2⟩ (g3.tr g6)
      have hm30 : ∀ k ∈ mLine g, k < 30 := fun k hk => by
        rw [List.mem_reverse] at hk
        exact (mLinR_mem.mp hk).1
      generalize mLine g = LL at g5 hL30 hr hm30 ⊢
      refine z_istore_n C (L1 := [_, _, _, _]) dX3_nextUp_19 (Nat.le_of_ble_eq_true rfl) rfl ?_
      refine z_iconst C (0) dX3_nextUp_20 (by decide) ?_
      refine z_istore_n C (L1 := [_, _, _, _]) dX3_nextUp_21 (Nat.le_of_ble_eq_true rfl) rfl ?_
      refine z_ind (σ := Nat) (fun i => i ≤ LL.length ∧ LL.find? (fun k => decide (g 1 k = x) && mRdy g k) = (LL.drop i).find? (fun k => decide (g 1 k = x) && mRdy g k)) (fun i => LL.length - i) (fun _ => 0) (fun _ => 0)
        (fun i => [some (.ref (bd 20)), some (.int x), some (.int (nI LL.length)), some (.int (nI i))]) (fun _ => w4) 0 ⟨Nat.zero_le _, rfl⟩ ?_
      rintro i ⟨q1, q2⟩ ih
      refine z_iload_n C dX3_nextUp_22 rfl ?_
      refine z_iload_n C dX3_nextUp_23 rfl ?_
      refine z_icmp_ge C 73 dX3_nextUp_24 (by decide) (fun c3 => ?_) (fun c3 => ?_)
      · have hi2 := ge_of_ge (by omega) (by omega) c3
        refine z_iconst C (-1) dX3_nextUp_73 (by decide) ?_
        refine z_iret C hret dX3_nextUp_74 (by first | exact Nat.le_of_ble_eq_true rfl | omega) (by first | exact Nat.le_of_ble_eq_true rfl | omega) ?_
        exact hr _ (by rw [q2, List.drop_eq_nil_of_le hi2]; rfl)
      have hi2 : i < LL.length := lt_of_nge (by omega) (by omega) c3
      rw [find_drop _ _ _ hi2] at q2
      have hk30 : LL[i] < 30 := hm30 _ (List.getElem_mem hi2)
      have ht : va_up g1 15 v 15 i = nI LL[i] := by rw [va_up_self]; exact g5.get hi2
      have e1 : va_up g1 15 v 1 = g 1 := hA2 1 (by decide)
      have e0 : va_up g1 15 v 0 = g 0 := hA2 0 (by decide)
      refine z_aload_n C dX3_nextUp_27 rfl ?_
      refine z_getf C zf_X3_13 dX3_nextUp_28 (by first | assumption | exact zk_eq | exact zk_ne (by first | assumption | exact zk_eq | exact zk_ne (by first | assumption | exact zk_eq | exact zk_ne (by first | assumption | exact zk_eq | exact zk_ne (by first | assumption | exact zk_eq | exact zk_ne (by first | assumption | exact zk_eq) (by first | decide | omega)) (by first | decide | omega)) (by first | decide | omega)) (by first | decide | omega)) (by first | decide | omega)) (by rfl) ?_
      refine z_aload_n C dX3_nextUp_31 rfl ?_
      refine z_getf C zf_X3_60 dX3_nextUp_32 (by first | assumption | exact zk_eq | exact zk_ne (by first | assumption | exact zk_eq | exact zk_ne (by first | assumption | exact zk_eq | exact zk_ne (by first | assumption | exact zk_eq | exact zk_ne (by first | assumption | exact zk_eq | exact zk_ne (by first | assumption | exact zk_eq) (by first | decide | omega)) (by first | decide | omega)) (by first | decide | omega)) (by first | decide | omega)) (by first | decide | omega)) (by rfl) ?_
      refine z_iload_n C dX3_nextUp_35 rfl ?_
      refine z_iald C dX3_nextUp_36 (by first | assumption | exact zk_eq | exact zk_ne (by first | assumption | exact zk_eq | exact zk_ne (by first | assumption | exact zk_eq | exact zk_ne (by first | assumption | exact zk_eq | exact zk_ne (by first | assumption | exact zk_eq | exact zk_ne (by first | assumption | exact zk_eq) (by first | decide | omega)) (by first | decide | omega)) (by first | decide | omega)) (by first | decide | omega)) (by first | decide | omega)) (by first | rfl | assumption) (by first | assumption | omega | decide) (by first | decide | omega) ?_
      refine z_iald C dX3_nextUp_37 (by first | assumption | exact zk_eq | exact zk_ne (by first | assumption | exact zk_eq | exact zk_ne (by first | assumption | exact zk_eq | exact zk_ne (by first | assumption | exact zk_eq | exact zk_ne (by first | assumption | exact zk_eq | exact zk_ne (by first | assumption | exact zk_eq) (by first | decide | omega)) (by first | decide | omega)) (by first | decide | omega)) (by first | decide | omega)) (by first | decide | omega)) (by first | rfl | assumption) (by first | assumption | omega | decide) (by first | decide | omega) ?_
      refine z_iload_n C dX3_nextUp_38 rfl ?_
      rw [e1]
      refine z_icmp_ne C 67 dX3_nextUp_39 (by decide) (fun c4 => ?_) (fun c4 => ?_)
      · refine z_iinc C (L1 := [_, _, _, _]) _ dX3_nextUp_67 rfl (by first | exact zinc | rfl) rfl ?_
        refine z_goto C 22 dX3_nextUp_70 (by decide) ?_
        refine ih (i + 1) ⟨hi2, ?_⟩ (by omega)
        rw [q2, if_neg (by simp [c4])]
      refine z_aload_n C dX3_nextUp_42 rfl ?_
      refine z_aload_n C dX3_nextUp_43 rfl ?_
      refine z_getf C zf_X3_60 dX3_nextUp_44 (by first | assumption | exact zk_eq | exact zk_ne (by first | assumption | exact zk_eq | exact zk_ne (by first | assumption | exact zk_eq | exact zk_ne (by first | assumption | exact zk_eq | exact zk_ne (by first | assumption | exact zk_eq | exact zk_ne (by first | assumption | exact zk_eq) (by first | decide | omega)) (by first | decide | omega)) (by first | decide | omega)) (by first | decide | omega)) (by first | decide | omega)) (by rfl) ?_
      refine z_iload_n C dX3_nextUp_47 rfl ?_
      refine z_iald C dX3_nextUp_48 (by first | assumption | exact zk_eq | exact zk_ne (by first | assumption | exact zk_eq | exact zk_ne (by first | assumption | exact zk_eq | exact zk_ne (by first | assumption | exact zk_eq | exact zk_ne (by first | assumption | exact zk_eq | exact zk_ne (by first | assumption | exact zk_eq) (by first | decide | omega)) (by first | decide | omega)) (by first | decide | omega)) (by first | decide | omega)) (by first | decide | omega)) (by first | rfl | assumption) (by first | assumption | omega | decide) (by first | decide | omega) ?_
      rw [ht]
      refine z_callV C zm_X3_isReady zl_X3_132 (m_isReady hl hY hk30) dX3_nextUp_49 (by first | assumption | exact zk_eq | exact zk_ne (by first | assumption | exact zk_eq | exact zk_ne (by first | assumption | exact zk_eq | exact zk_ne (by first | assumption | exact zk_eq | exact zk_ne (by first | assumption | exact zk_eq | exact zk_ne (by first | assumption | exact zk_eq) (by first | decide | omega)) (by first | decide | omega)) (by first | decide | omega)) (by first | decide | omega)) (by first | decide | omega)) (by rfl) (by rfl) (by rfl) (by exact Nat.le_of_ble_eq_true rfl) rfl (by exact ⟨Nat.le_of_ble_eq_true rfl, Nat.le_of_ble_eq_true rfl⟩) (by first | exact ⟨Nat.le_of_ble_eq_true rfl, Nat.le_of_ble_eq_true rfl⟩ | (simp only [zrm]; omega)) (fun _ _ h => z_xno h) (fun r w5 hq => ?_)
      obtain ⟨rfl, rfl⟩ := hq
      rw [hA2.rdy]
      refine z_if_eq C 67 dX3_nextUp_52 (by decide) (fun c5 => ?_) (fun c5 => ?_)
      · have c6 := zb_ff c5
        refine z_iinc C (L1 := [_, _, _, _]) _ dX3_nextUp_67 rfl (by first | exact zinc | rfl) rfl ?_
        refine z_goto C 22 dX3_nextUp_70 (by decide) ?_
        refine ih (i + 1) ⟨hi2, ?_⟩ (by omega)
        rw [q2, if_neg (by simp [c6])]
      have c6 := zb_tt c5
      refine z_aload_n C dX3_nextUp_55 rfl ?_
      refine z_getf C zf_X3_7 dX3_nextUp_56 (by first | assumption | exact zk_eq | exact zk_ne (by first | assumption | exact zk_eq | exact zk_ne (by first | assumption | exact zk_eq | exact zk_ne (by first | assumption | exact zk_eq | exact zk_ne (by first | assumption | exact zk_eq | exact zk_ne (by first | assumption | exact zk_eq) (by first | decide | omega)) (by first | decide | omega)) (by first | decide | omega)) (by first | decide | omega)) (by first | decide | omega)) (by rfl) ?_
      refine z_aload_n C dX3_nextUp_59 rfl ?_
      refine z_getf C zf_X3_60 dX3_nextUp_60 (by first | assumption | exact zk_eq | exact zk_ne (by first | assumption | exact zk_eq | exact zk_ne (by first | assumption | exact zk_eq | exact zk_ne (by first | assumption | exact zk_eq | exact zk_ne (by first | assumption | exact zk_eq | exact zk_ne (by first | assumption | exact zk_eq) (by first | decide | omega)) (by first | decide | omega)) (by first | decide | omega)) (by first | decide | omega)) (by first | decide | omega)) (by rfl) ?_
      refine z_iload_n C dX3_nextUp_63 rfl ?_
      refine z_iald C dX3_nextUp_64 (by first | assumption | exact zk_eq | exact zk_ne (by first | assumption | exact zk_eq | exact zk_ne (by first | assumption | exact zk_eq | exact zk_ne (by first | assumption | exact zk_eq | exact zk_ne (by first | assumption | exact zk_eq | exact zk_ne (by first | assumption | exact zk_eq) (by first | decide | omega)) (by first | decide | omega)) (by first | decide | omega)) (by first | decide | omega)) (by first | decide | omega)) (by first | rfl | assumption) (by first | assumption | omega | decide) (by first | decide | omega) ?_
      refine z_iald C dX3_nextUp_65 (by first | assumption | exact zk_eq | exact zk_ne (by first | assumption | exact zk_eq | exact zk_ne (by first | assumption | exact zk_eq | exact zk_ne (by first | assumption | exact zk_eq | exact zk_ne (by first | assumption | exact zk_eq | exact zk_ne (by first | assumption | exact zk_eq) (by first | decide | omega)) (by first | decide | omega)) (by first | decide | omega)) (by first | decide | omega)) (by first | decide | omega)) (by first | rfl | assumption) (by first | assumption | omega | decide) (by first | decide | omega) ?_
      refine z_iret C hret dX3_nextUp_66 (by first | exact Nat.le_of_ble_eq_true rfl | omega) (by first | exact Nat.le_of_ble_eq_true rfl | omega) ?_
      rw [e0]
      exact hr _ (by rw [q2, if_pos (by simp [c4, c6])])
    · exact absurd c2 (by decide)
theorem q_endShift (hl : l.stackTraces = false) (h : MM z b0 w M) : ZQ l z mX3_endShift b0 [] w (mEndShift M) := by
  obtain ⟨g, f⟩ := M
  obtain ⟨bd, g1, rfl, h, hA⟩ := h
  dsimp only at h hA
  have hH := h
  obtain ⟨m20, m21, m22, m23, m24, m25, m26, m27, m28, m29, m30, m31, m32, m33, m34, m35, m36, m37, m38⟩ := h.all
  refine zbody (M := mX3_endShift) (L0 := [_, _]) hl (by simp [Value.category]) (Nat.le_of_ble_eq_true rfl) (by decide +kernel) rfl ?_
  intro p e s m args below meth c C hX hnm hret
  replace C : zC z p l s m args meth c cX3_endShift RX3 2 := C
  replace hret : meth.sig.returnType = (some .int) := hret
  have h2 := hH.obj (va_up f 25 0)
  refine z_aload_n C dX3_endShift_0 rfl ?_
  refine z_iconst C (0) dX3_endShift_1 (by decide) ?_
  refine z_putf C (fs1 := [_, _, _, _, _, _, _, _, _, _, _, _, _, _, _, _, _, _, _, _, _, _, _, _, _, _]) zp_X3_69 dX3_endShift_2 (by first | assumption | exact zk_eq | exact zk_ne (by first | assumption | exact zk_eq | exact zk_ne (by first | assumption | exact zk_eq | exact zk_ne (by first | assumption | exact zk_eq | exact zk_ne (by first | assumption | exact zk_eq | exact zk_ne (by first | assumption | exact zk_eq) (by first | decide | omega)) (by first | decide | omega)) (by first | decide | omega)) (by first | decide | omega)) (by first | decide | omega)) (by first | rfl | exact zb_nar _ | assumption) (by first | rfl | exact zb_fit _ | assumption) (by exact Nat.le_of_ble_eq_true rfl) (by rfl) ?_
  refine z_iconst C (0) dX3_endShift_5 (by decide) ?_
  refine z_istore_n C (L1 := [_, _]) dX3_endShift_6 (Nat.le_of_ble_eq_true rfl) rfl ?_
  refine z_loop (fun n cs ss L w2 => ∃ (i : Nat) (ga : Nat → Nat → Int32), n = 30 - i ∧ cs = 0 ∧ ss = 0 ∧ L = [some (.ref (bd 20)), some (.int (nI i))] ∧ i ≤ 30 ∧ MP z bd ga (mEsh (f 18) (g, va_up f 25 0) i).2 w2 ∧ mAg ga (mEsh (f 18) (g, va_up f 25 0) i).1 ∧ zFm w w2)
    ⟨0, g1, rfl, rfl, rfl, rfl, Nat.zero_le _, h2, hA, (zFm.refl w).up (by decide) (by decide)⟩ ?_
  rintro n cs ss L w2 ⟨i, ga, rfl, rfl, rfl, rfl, q1, q2, q3, q4⟩ ih
  have hX := q2
  obtain ⟨m20, m21, m22, m23, m24, m25, m26, m27, m28, m29, m30, m31, m32, m33, m34, m35, m36, m37, m38⟩ := q2.all
  refine z_iload_n C dX3_endShift_7 rfl ?_
  refine z_bipush C (30) dX3_endShift_8 (by decide) ?_
  refine z_icmp_ge C 62 dX3_endShift_10 (by decide) (fun c1 => ?_) (fun c1 => ?_)
  · have hi2 : i = 30 := Nat.le_antisymm q1 (ge_of_ge (by omega) (by omega) c1)
    subst hi2
    refine z_aload_n C dX3_endShift_62 rfl ?_
    refine z_getf C zf_X3_141 dX3_endShift_63 (by first | assumption | exact zk_eq | exact zk_ne (by first | assumption | exact zk_eq | exact zk_ne (by first | assumption | exact zk_eq | exact zk_ne (by first | assumption | exact zk_eq | exact zk_ne (by first | assumption | exact zk_eq | exact zk_ne (by first | assumption | exact zk_eq) (by first | decide | omega)) (by first | decide | omega)) (by first | decide | omega)) (by first | decide | omega)) (by first | decide | omega)) (by rfl) ?_
    refine z_istore_n C (L1 := [_, _]) dX3_endShift_66 (Nat.le_of_ble_eq_true rfl) rfl ?_
    refine z_aload_n C dX3_endShift_67 rfl ?_
    refine z_iconst C (0) dX3_endShift_68 (by decide) ?_
    refine z_putf C (fs1 := [_, _, _, _, _, _, _, _, _, _, _, _, _, _, _, _, _, _, _, _, _, _, _, _, _, _]) zp_X3_112 dX3_endShift_69 (by first | assumption | exact zk_eq | exact zk_ne (by first | assumption | exact zk_eq | exact zk_ne (by first | assumption | exact zk_eq | exact zk_ne (by first | assumption | exact zk_eq | exact zk_ne (by first | assumption | exact zk_eq | exact zk_ne (by first | assumption | exact zk_eq) (by first | decide | omega)) (by first | decide | omega)) (by first | decide | omega)) (by first | decide | omega)) (by first | decide | omega)) (by first | rfl | exact zb_nar _ | assumption) (by first | rfl | exact zb_fit _ | assumption) (by exact Nat.le_of_ble_eq_true rfl) (by rfl) ?_
    refine z_aload_n C dX3_endShift_72 rfl ?_
    refine z_iconst C (0) dX3_endShift_73 (by decide) ?_
    refine z_putf C (fs1 := [_, _, _, _, _, _, _, _, _, _, _, _, _, _, _, _, _, _, _, _, _, _, _, _, _, _]) zp_X3_115 dX3_endShift_74 (by first | assumption | exact zk_eq | exact zk_ne (by first | assumption | exact zk_eq | exact zk_ne (by first | assumption | exact zk_eq | exact zk_ne (by first | assumption | exact zk_eq | exact zk_ne (by first | assumption | exact zk_eq | exact zk_ne (by first | assumption | exact zk_eq) (by first | decide | omega)) (by first | decide | omega)) (by first | decide | omega)) (by first | decide | omega)) (by first | decide | omega)) (by first | rfl | exact zb_nar _ | assumption) (by first | rfl | exact zb_fit _ | assumption) (by exact Nat.le_of_ble_eq_true rfl) (by rfl) ?_
    refine z_aload_n C dX3_endShift_77 rfl ?_
    refine z_iconst C (0) dX3_endShift_78 (by decide) ?_
    refine z_putf C (fs1 := [_, _, _, _, _, _, _, _, _, _, _, _, _, _, _, _, _, _, _, _, _, _, _, _, _, _]) zp_X3_141 dX3_endShift_79 (by first | assumption | exact zk_eq | exact zk_ne (by first | assumption | exact zk_eq | exact zk_ne (by first | assumption | exact zk_eq | exact zk_ne (by first | assumption | exact zk_eq | exact zk_ne (by first | assumption | exact zk_eq | exact zk_ne (by first | assumption | exact zk_eq) (by first | decide | omega)) (by first | decide | omega)) (by first | decide | omega)) (by first | decide | omega)) (by first | decide | omega)) (by first | rfl | exact zb_nar _ | assumption) (by first | rfl | exact zb_fit _ | assumption) (by exact Nat.le_of_ble_eq_true rfl) (by rfl) ?_
    refine z_aload_n C dX3_endShift_82 rfl ?_
    refine z_iconst C (0) dX3_endShift_83 (by decide) ?_
    refine z_putf C (fs1 := [_, _, _, _, _, _, _, _, _, _, _, _, _, _, _, _, _, _, _, _, _, _, _, _, _, _]) zp_X3_118 dX3_endShift_84 (by first | assumption | exact zk_eq | exact zk_ne (by first | assumption | exact zk_eq | exact zk_ne (by first | assumption | exact zk_eq | exact zk_ne (by first | assumption | exact zk_eq | exact zk_ne (by first | assumption | exact zk_eq | exact zk_ne (by first | assumption | exact zk_eq) (by first | decide | omega)) (by first | decide | omega)) (by first | decide | omega)) (by first | decide | omega)) (by first | decide | omega)) (by first | rfl | exact zb_nar _ | assumption) (by first | rfl | exact zb_fit _ | assumption) (by exact Nat.le_of_ble_eq_true rfl) (by rfl) ?_
    rw [bx_uu, bx_uu, bx_uu]
    refine z_iload_n C dX3_endShift_87 rfl ?_
    refine z_iret C hret dX3_endShift_88 (by first | exact Nat.le_of_ble_eq_true rfl | omega) (by first | exact Nat.le_of_ble_eq_true rfl | omega) ?_
    exact ZQ.fin (M1 := ((mEsh (f 18) (g, va_up f 25 0) 30).1, va_up (va_up (va_up (va_up (mEsh (f 18) (g, va_up f 25 0) 30).2 17 0) 19 0) 20 0) 21 0)) rfl ⟨bd, ga, rfl, hX.obj (va_up (va_up (va_up (va_up (mEsh (f 18) (g, va_up f 25 0) 30).2 17 0) 19 0) 20 0) 21 0), q3⟩ (q4.up (by decide) (by decide))
  have hi2 : i < 30 := lt_of_nge (by omega) (by omega) c1
  obtain ⟨s1, s2⟩ := mEsh_succ (f 18) (g, va_up f 25 0) i
  have h18 : (mEsh (f 18) (g, va_up f 25 0) i).2 18 = f 18 := mEsh_f18 (f 18) (g, va_up f 25 0) i
  have e0 := q3 0 (by decide)
  have e7 := q3 7 (by decide)
  have tail : ∀ (gx gy : Nat → Nat → Int32) (fx : Nat → Int32) (w3 : zW), MP z bd gx fx w3 → mAg gx gy → zFm w w3 → mEsh (f 18) (g, va_up f 25 0) (i + 1) = (va_up (va_up gy 6 (va_up (gy 6) i 0)) 5 (va_up (gy 5) i 0), fx) → ZJ z p l e (zrm 3 0 0) s m args below meth c (vx_MQ below (zQc z (fun r w2 => r = some (.int (mEndShift (g, f)).1) ∧ MM z (bd 20) w2 (mEndShift (g, f)).2 ∧ zFm w w2)) (zXC z zNo) args s 0 0 (zA z)) 0 0 42 [some (.ref (bd 20)), some (.int (nI i))] [] w3 := by
    intro gx gy fx w3 t1 t2 t3 t4
    have hT := t1
    obtain ⟨m20, m21, m22, m23, m24, m25, m26, m27, m28, m29, m30, m31, m32, m33, m34, m35, m36, m37, m38⟩ := t1.all
    refine z_aload_n C dX3_endShift_42 rfl ?_
    refine z_getf C zf_X3_29 dX3_endShift_43 (by first | assumption | exact zk_eq | exact zk_ne (by first | assumption | exact zk_eq | exact zk_ne (by first | assumption | exact zk_eq | exact zk_ne (by first | assumption | exact zk_eq | exact zk_ne (by first | assumption | exact zk_eq | exact zk_ne (by first | assumption | exact zk_eq) (by first | decide | omega)) (by first | decide | omega)) (by first | decide | omega)) (by first | decide | omega)) (by first | decide | omega)) (by rfl) ?_
    refine z_iload_n C dX3_endShift_46 rfl ?_
    refine z_iconst C (0) dX3_endShift_47 (by decide) ?_
    refine z_zast C dX3_endShift_48 (by first | assumption | exact zk_eq | exact zk_ne (by first | assumption | exact zk_eq | exact zk_ne (by first | assumption | exact zk_eq | exact zk_ne (by first | assumption | exact zk_eq | exact zk_ne (by first | assumption | exact zk_eq | exact zk_ne (by first | assumption | exact zk_eq) (by first | decide | omega)) (by first | decide | omega)) (by first | decide | omega)) (by first | decide | omega)) (by first | decide | omega)) (by first | rfl | assumption) (by first | assumption | omega | decide) (by first | decide | omega) (by first | rfl | exact zb_vp _ | assumption) ?_
    refine z_aload_n C dX3_endShift_49 rfl ?_
    refine z_getf C zf_X3_26 dX3_endShift_50 (by first | assumption | exact zk_eq | exact zk_ne (by first | assumption | exact zk_eq | exact zk_ne (by first | assumption | exact zk_eq | exact zk_ne (by first | assumption | exact zk_eq | exact zk_ne (by first | assumption | exact zk_eq | exact zk_ne (by first | assumption | exact zk_eq) (by first | decide | omega)) (by first | decide | omega)) (by first | decide | omega)) (by first | decide | omega)) (by first | decide | omega)) (by rfl) ?_
    refine z_iload_n C dX3_endShift_53 rfl ?_
    refine z_iconst C (0) dX3_endShift_54 (by decide) ?_
    refine z_zast C dX3_endShift_55 (by first | assumption | exact zk_eq | exact zk_ne (by first | assumption | exact zk_eq | exact zk_ne (by first | assumption | exact zk_eq | exact zk_ne (by first | assumption | exact zk_eq | exact zk_ne (by first | assumption | exact zk_eq | exact zk_ne (by first | assumption | exact zk_eq) (by first | decide | omega)) (by first | decide | omega)) (by first | decide | omega)) (by first | decide | omega)) (by first | decide | omega)) (by first | rfl | assumption) (by first | assumption | omega | decide) (by first | decide | omega) (by first | rfl | exact zb_vp _ | assumption) ?_
    refine z_iinc C (L1 := [_, _]) _ dX3_endShift_56 rfl (by first | exact zinc | rfl) rfl ?_
    refine z_goto C 7 dX3_endShift_59 (by decide) ?_
    refine ih (30 - (i + 1)) 0 0 _ _ (by omega) ⟨i + 1, va_up (va_up gx 6 (va_up (gx 6) i 0)) 5 (va_up (gx 5) i 0), rfl, rfl, rfl, rfl, hi2, ?_, ?_, (t3.up (by decide) (by decide)).up (by decide) (by decide)⟩
    · rw [t4]
      exact (hT.arr 6 (va_up (gx 6) i 0)).arr 5 (va_up (gx 5) i 0)
    · rw [t4]
      exact (t2.up (by rw [t2 6 (by decide)])).up (by rw [t2 5 (by decide)])
  refine z_aload_n C dX3_endShift_13 rfl ?_
  refine z_getf C zf_X3_7 dX3_endShift_14 (by first | assumption | exact zk_eq | exact zk_ne (by first | assumption | exact zk_eq | exact zk_ne (by first | assumption | exact zk_eq | exact zk_ne (by first | assumption | exact zk_eq | exact zk_ne (by first | assumption | exact zk_eq | exact zk_ne (by first | assumption | exact zk_eq) (by first | decide | omega)) (by first | decide | omega)) (by first | decide | omega)) (by first | decide | omega)) (by first | decide | omega)) (by rfl) ?_
  refine z_iload_n C dX3_endShift_17 rfl ?_
  refine z_iald C dX3_endShift_18 (by first | assumption | exact zk_eq | exact zk_ne (by first | assumption | exact zk_eq | exact zk_ne (by first | assumption | exact zk_eq | exact zk_ne (by first | assumption | exact zk_eq | exact zk_ne (by first | assumption | exact zk_eq | exact zk_ne (by first | assumption | exact zk_eq) (by first | decide | omega)) (by first | decide | omega)) (by first | decide | omega)) (by first | decide | omega)) (by first | decide | omega)) (by first | rfl | assumption) (by first | assumption | omega | decide) (by first | decide | omega) ?_
  refine z_iconst C (-1) dX3_endShift_19 (by decide) ?_
  rw [e0]
  refine z_icmp_eq C 42 dX3_endShift_20 (by decide) (fun c2 => ?_) (fun c2 => ?_)
  · exact tail ga _ _ w2 hX q3 q4 (s2 (fun h => by have := h.1; simp [mOcc, c2] at this))
  refine z_aload_n C dX3_endShift_23 rfl ?_
  refine z_getf C zf_X3_32 dX3_endShift_24 (by first | assumption | exact zk_eq | exact zk_ne (by first | assumption | exact zk_eq | exact zk_ne (by first | assumption | exact zk_eq | exact zk_ne (by first | assumption | exact zk_eq | exact zk_ne (by first | assumption | exact zk_eq | exact zk_ne (by first | assumption | exact zk_eq) (by first | decide | omega)) (by first | decide | omega)) (by first | decide | omega)) (by first | decide | omega)) (by first | decide | omega)) (by rfl) ?_
  refine z_iload_n C dX3_endShift_27 rfl ?_
  refine z_iald C dX3_endShift_28 (by first | assumption | exact zk_eq | exact zk_ne (by first | assumption | exact zk_eq | exact zk_ne (by first | assumption | exact zk_eq | exact zk_ne (by first | assumption | exact zk_eq | exact zk_ne (by first | assumption | exact zk_eq | exact zk_ne (by first | assumption | exact zk_eq) (by first | decide | omega)) (by first | decide | omega)) (by first | decide | omega)) (by first | decide | omega)) (by first | decide | omega)) (by first | rfl | assumption) (by first | assumption | omega | decide) (by first | decide | omega) ?_
  refine z_iconst C (-1) dX3_endShift_29 (by decide) ?_
  rw [e7]
  refine z_icmp_eq C 42 dX3_endShift_30 (by decide) (fun c3 => ?_) (fun c3 => ?_)
  · exact tail ga _ _ w2 hX q3 q4 (s2 (fun h => h.2 c3))
  have hyes : mOcc (mEsh (f 18) (g, va_up f 25 0) i).1 i = true ∧ ¬ (mEsh (f 18) (g, va_up f 25 0) i).1 7 i = -1 := ⟨by simp [mOcc, c2], c3⟩
  refine z_aload_n C dX3_endShift_33 rfl ?_
  refine z_iload_n C dX3_endShift_34 rfl ?_
  refine z_aload_n C dX3_endShift_35 rfl ?_
  refine z_getf C zf_X3_56 dX3_endShift_36 (by first | assumption | exact zk_eq | exact zk_ne (by first | assumption | exact zk_eq | exact zk_ne (by first | assumption | exact zk_eq | exact zk_ne (by first | assumption | exact zk_eq | exact zk_ne (by first | assumption | exact zk_eq | exact zk_ne (by first | assumption | exact zk_eq) (by first | decide | omega)) (by first | decide | omega)) (by first | decide | omega)) (by first | decide | omega)) (by first | decide | omega)) (by rfl) ?_
  rw [h18]
  refine z_callV C zm_X3_works zl_X3_144 (m_works hl hX hi2 (f 18)) dX3_endShift_39 (by first | assumption | exact zk_eq | exact zk_ne (by first | assumption | exact zk_eq | exact zk_ne (by first | assumption | exact zk_eq | exact zk_ne (by first | assumption | exact zk_eq | exact zk_ne (by first | assumption | exact zk_eq | exact zk_ne (by first | assumption | exact zk_eq) (by first | decide | omega)) (by first | decide | omega)) (by first | decide | omega)) (by first | decide | omega)) (by first | decide | omega)) (by rfl) (by rfl) (by rfl) (by exact Nat.le_of_ble_eq_true rfl) rfl (by exact ⟨Nat.le_of_ble_eq_true rfl, Nat.le_of_ble_eq_true rfl⟩) (by first | exact ⟨Nat.le_of_ble_eq_true rfl, Nat.le_of_ble_eq_true rfl⟩ | (simp only [zrm]; omega)) (fun _ _ h => z_xno h) (fun r w4 hq => ?_)
  obtain ⟨rfl, g4, g5⟩ := hq
  have hw := q3.wo (f := (mEsh (f 18) (g, va_up f 25 0) i).2) (n := i) (t := f 18)
  exact tail _ _ _ w4 g4 hw.1 (q4.tr g5) (by rw [hw.2]; exact s1 hyes)
theorem q_endPeriod (hl : l.stackTraces = false) (h : MM z b0 w M) (hbo : ∀ k : Nat, k < 30 → mOcc M.1 k = true → ∃ b : Nat, b < 4 ∧ M.1 1 k = nI b) : ZQ l z mX3_endPeriod b0 [] w (mEndPeriod M) := by
  obtain ⟨g, f⟩ := M
  obtain ⟨bd, g1, rfl, h, hA⟩ := h
  dsimp only at h hA hbo
  have hH := h
  obtain ⟨m20, m21, m22, m23, m24, m25, m26, m27, m28, m29, m30, m31, m32, m33, m34, m35, m36, m37, m38⟩ := h.all
  refine zbody (M := mX3_endPeriod) (L0 := [_, _, _]) hl (by simp [Value.category]) (Nat.le_of_ble_eq_true rfl) (by decide +kernel) rfl ?_
  intro p e s m args below meth c C hX hnm hret
  replace C : zC z p l s m args meth c cX3_endPeriod RX3 3 := C
  replace hret : meth.sig.returnType = (some .int) := hret
  have tail : ∀ a : Bool, a = decide (f 21 = 0) → ZJ z p l e (zrm 3 0 0) s m args below meth c (vx_MQ below (zQc z (fun r w2 => r = some (.int (mEndPeriod (g, f)).1) ∧ MM z (bd 20) w2 (mEndPeriod (g, f)).2 ∧ zFm w w2)) (zXC z zNo) args s 0 0 (zA z)) 0 0 13 [some (.ref (bd 20)), none, none] [.int (zb a), .ref (bd 20)] w := by
    intro a ha
    refine z_iconst C (1) dX3_endPeriod_13 (by decide) ?_
    refine z_iconst C (1) dX3_endPeriod_14 (by decide) ?_
    refine z_callV C zm_X3_goes zl_X3_91 (m_goes (a := a) (b := true) (v := true) hl hH) dX3_endPeriod_15 (by first | assumption | exact zk_eq | exact zk_ne (by first | assumption | exact zk_eq | exact zk_ne (by first | assumption | exact zk_eq | exact zk_ne (by first | assumption | exact zk_eq | exact zk_ne (by first | assumption | exact zk_eq | exact zk_ne (by first | assumption | exact zk_eq) (by first | decide | omega)) (by first | decide | omega)) (by first | decide | omega)) (by first | decide | omega)) (by first | decide | omega)) (by rfl) (by rfl) (by rfl) (by exact Nat.le_of_ble_eq_true rfl) rfl (by exact ⟨Nat.le_of_ble_eq_true rfl, Nat.le_of_ble_eq_true rfl⟩) (by first | exact ⟨Nat.le_of_ble_eq_true rfl, Nat.le_of_ble_eq_true rfl⟩ | (simp only [zrm]; omega)) (fun _ _ h => z_xno h) (fun r w2 hq => ?_)
    obtain ⟨rfl, g2, g3⟩ := hq
    have hX := g2
    obtain ⟨m20, m21, m22, m23, m24, m25, m26, m27, m28, m29, m30, m31, m32, m33, m34, m35, m36, m37, m38⟩ := g2.all
    cases a with
    | false =>
      have hf : ¬ f 21 = 0 := by simpa using ha.symm
      refine z_if_ne C 23 dX3_endPeriod_18 (by decide) (fun c2 => ?_) (fun c2 => ?_)
      · exact absurd rfl c2
      · refine z_iconst C (0) dX3_endPeriod_21 (by decide) ?_
        refine z_iret C hret dX3_endPeriod_22 (by first | exact Nat.le_of_ble_eq_true rfl | omega) (by first | exact Nat.le_of_ble_eq_true rfl | omega) ?_
        exact ZQ.fin (M1 := (g, va_up f 25 1)) (by simp only [mEndPeriod, if_neg hf]) ⟨bd, g1, rfl, hX, hA⟩ g3
    | true =>
      have hf : f 21 = 0 := by simpa using ha.symm
      refine z_if_ne C 23 dX3_endPeriod_18 (by decide) (fun c2 => ?_) (fun c2 => ?_)
      · refine z_iconst C (0) dX3_endPeriod_23 (by decide) ?_
        refine z_istore_n C (L1 := [_, _, _]) dX3_endPeriod_24 (Nat.le_of_ble_eq_true rfl) rfl ?_
        refine z_iconst C (0) dX3_endPeriod_25 (by decide) ?_
        refine z_istore_n C (L1 := [_, _, _]) dX3_endPeriod_26 (Nat.le_of_ble_eq_true rfl) rfl ?_
        refine z_loop (fun n cs ss L w3 => ∃ (i : Nat) (ga : Nat → Nat → Int32), n = 30 - i ∧ cs = 0 ∧ ss = 0 ∧ L = [some (.ref (bd 20)), some (.int (mEpe g i).2), some (.int (nI i))] ∧ i ≤ 30 ∧ MP z bd ga (va_up f 25 0) w3 ∧ mAg ga (mEpe g i).1 ∧ zFm w w3)
          ⟨0, g1, rfl, rfl, rfl, rfl, Nat.zero_le _, hX, hA, g3⟩ ?_
        rintro n cs ss L w3 ⟨i, ga, rfl, rfl, rfl, rfl, q1, q2, q3, q4⟩ ih
        have hY := q2
        obtain ⟨m20, m21, m22, m23, m24, m25, m26, m27, m28, m29, m30, m31, m32, m33, m34, m35, m36, m37, m38⟩ := q2.all
        refine z_iload_n C dX3_endPeriod_27 rfl ?_
        refine z_bipush C (30) dX3_endPeriod_28 (by decide) ?_
        refine z_icmp_ge C 75 dX3_endPeriod_30 (by decide) (fun c3 => ?_) (fun c3 => ?_)
        · have hi2 : i = 30 := Nat.le_antisymm q1 (ge_of_ge (by omega) (by omega) c3)
          subst hi2
          refine z_iload_n C dX3_endPeriod_75 rfl ?_
          refine z_iret C hret dX3_endPeriod_76 (by first | exact Nat.le_of_ble_eq_true rfl | omega) (by first | exact Nat.le_of_ble_eq_true rfl | omega) ?_
          exact ZQ.fin (M1 := ((mEpe g 30).1, va_up f 25 0)) (by simp only [mEndPeriod, if_pos hf]) ⟨bd, ga, rfl, hY, q3⟩ q4
        have hi2 : i < 30 := lt_of_nge (by omega) (by omega) c3
        have e0 := q3 0 (by decide)
        have tail2 : ∀ x : Int32, x = (if mOcc (mEpe g i).1 i = true then mOwe (mEpe g i).1 i else 0) → ZJ z p l e (zrm 3 0 0) s m args below meth c (vx_MQ below (zQc z (fun r w2 => r = some (.int (mEndPeriod (g, f)).1) ∧ MM z (bd 20) w2 (mEndPeriod (g, f)).2 ∧ zFm w w2)) (zXC z zNo) args s 0 0 (zA z)) 0 0 53 [some (.ref (bd 20)), some (.int (mEpe g i).2), some (.int (nI i))] [.int x, .int (mEpe g i).2] w3 := by
          intro x hx
          refine z_iadd C dX3_endPeriod_53 ?_
          refine z_istore_n C (L1 := [_, _, _]) dX3_endPeriod_54 (Nat.le_of_ble_eq_true rfl) rfl ?_
          refine z_aload_n C dX3_endPeriod_55 rfl ?_
          refine z_getf C zf_X3_38 dX3_endPeriod_56 (by first | assumption | exact zk_eq | exact zk_ne (by first | assumption | exact zk_eq | exact zk_ne (by first | assumption | exact zk_eq | exact zk_ne (by first | assumption | exact zk_eq | exact zk_ne (by first | assumption | exact zk_eq | exact zk_ne (by first | assumption | exact zk_eq) (by first | decide | omega)) (by first | decide | omega)) (by first | decide | omega)) (by first | decide | omega)) (by first | decide | omega)) (by rfl) ?_
          refine z_iload_n C dX3_endPeriod_59 rfl ?_
          refine z_iconst C (0) dX3_endPeriod_60 (by decide) ?_
          refine z_iast C dX3_endPeriod_61 (by first | assumption | exact zk_eq | exact zk_ne (by first | assumption | exact zk_eq | exact zk_ne (by first | assumption | exact zk_eq | exact zk_ne (by first | assumption | exact zk_eq | exact zk_ne (by first | assumption | exact zk_eq | exact zk_ne (by first | assumption | exact zk_eq) (by first | decide | omega)) (by first | decide | omega)) (by first | decide | omega)) (by first | decide | omega)) (by first | decide | omega)) (by first | rfl | assumption) (by first | assumption | omega | decide) (by first | decide | omega) ?_
          refine z_aload_n C dX3_endPeriod_62 rfl ?_
          refine z_getf C zf_X3_41 dX3_endPeriod_63 (by first | assumption | exact zk_eq | exact zk_ne (by first | assumption | exact zk_eq | exact zk_ne (by first | assumption | exact zk_eq | exact zk_ne (by first | assumption | exact zk_eq | exact zk_ne (by first | assumption | exact zk_eq | exact zk_ne (by first | assumption | exact zk_eq) (by first | decide | omega)) (by first | decide | omega)) (by first | decide | omega)) (by first | decide | omega)) (by first | decide | omega)) (by rfl) ?_
          refine z_iload_n C dX3_endPeriod_66 rfl ?_
          refine z_iconst C (0) dX3_endPeriod_67 (by decide) ?_
          refine z_iast C dX3_endPeriod_68 (by first | assumption | exact zk_eq | exact zk_ne (by first | assumption | exact zk_eq | exact zk_ne (by first | assumption | exact zk_eq | exact zk_ne (by first | assumption | exact zk_eq | exact zk_ne (by first | assumption | exact zk_eq | exact zk_ne (by first | assumption | exact zk_eq) (by first | decide | omega)) (by first | decide | omega)) (by first | decide | omega)) (by first | decide | omega)) (by first | decide | omega)) (by first | rfl | assumption) (by first | assumption | omega | decide) (by first | decide | omega) ?_
          refine z_iinc C (L1 := [_, _, _]) _ dX3_endPeriod_69 rfl (by first | exact zinc | rfl) rfl ?_
          refine z_goto C 27 dX3_endPeriod_72 (by decide) ?_
          refine ih (30 - (i + 1)) 0 0 _ _ (by omega) ⟨i + 1, va_up (va_up ga 9 (va_up (ga 9) i 0)) 10 (va_up (ga 10) i 0), rfl, rfl, rfl, ?_, hi2, (hY.arr 9 (va_up (ga 9) i 0)).arr 10 (va_up (ga 10) i 0), ?_, (q4.up (by decide) (by decide)).up (by decide) (by decide)⟩
          · rw [mEpe, hx]
          · rw [mEpe]
            exact (q3.up (by rw [q3 9 (by decide)])).up (by rw [q3 10 (by decide)])
        refine z_iload_n C dX3_endPeriod_33 rfl ?_
        refine z_aload_n C dX3_endPeriod_34 rfl ?_
        refine z_getf C zf_X3_7 dX3_endPeriod_35 (by first | assumption | exact zk_eq | exact zk_ne (by first | assumption | exact zk_eq | exact zk_ne (by first | assumption | exact zk_eq | exact zk_ne (by first | assumption | exact zk_eq | exact zk_ne (by first | assumption | exact zk_eq | exact zk_ne (by first | assumption | exact zk_eq) (by first | decide | omega)) (by first | decide | omega)) (by first | decide | omega)) (by first | decide | omega)) (by first | decide | omega)) (by rfl) ?_
        refine z_iload_n C dX3_endPeriod_38 rfl ?_
        refine z_iald C dX3_endPeriod_39 (by first | assumption | exact zk_eq | exact zk_ne (by first | assumption | exact zk_eq | exact zk_ne (by first | assumption | exact zk_eq | exact zk_ne (by first | assumption | exact zk_eq | exact zk_ne (by first | assumption | exact zk_eq | exact zk_ne (by first | assumption | exact zk_eq) (by first | decide | omega)) (by first | decide | omega)) (by first | decide | omega)) (by first | decide | omega)) (by first | decide | omega)) (by first | rfl | assumption) (by first | assumption | omega | decide) (by first | decide | omega) ?_
        refine z_iconst C (-1) dX3_endPeriod_40 (by decide) ?_
        rw [e0]
        refine z_icmp_eq C 52 dX3_endPeriod_41 (by decide) (fun c4 => ?_) (fun c4 => ?_)
        · refine z_iconst C (0) dX3_endPeriod_52 (by decide) ?_
          exact tail2 0 (by rw [if_neg (by simp [mOcc, c4])])
        have hoc : mOcc (mEpe g i).1 i = true := by simp [mOcc, c4]
        have hoc2 : mOcc g i = true := by
          have e : (mEpe g i).1 0 = g 0 := mEpe_keep g 0 (by decide) (by decide) i
          simp only [mOcc, e] at hoc
          exact hoc
        obtain ⟨b, hb4, hgb0⟩ := hbo i hi2 hoc2
        have hgb : ga 1 i = nI b := by
          rw [q3 1 (by decide), mEpe_keep g 1 (by decide) (by decide) i]
          exact hgb0
        refine z_aload_n C dX3_endPeriod_44 rfl ?_
        refine z_iload_n C dX3_endPeriod_45 rfl ?_
        refine z_callV C zm_X3_owes zl_X3_150 (m_owes hl hY hi2 hgb hb4) dX3_endPeriod_46 (by first | assumption | exact zk_eq | exact zk_ne (by first | assumption | exact zk_eq | exact zk_ne (by first | assumption | exact zk_eq | exact zk_ne (by first | assumption | exact zk_eq | exact zk_ne (by first | assumption | exact zk_eq | exact zk_ne (by first | assumption | exact zk_eq) (by first | decide | omega)) (by first | decide | omega)) (by first | decide | omega)) (by first | decide | omega)) (by first | decide | omega)) (by rfl) (by rfl) (by rfl) (by exact Nat.le_of_ble_eq_true rfl) rfl (by exact ⟨Nat.le_of_ble_eq_true rfl, Nat.le_of_ble_eq_true rfl⟩) (by first | exact ⟨Nat.le_of_ble_eq_true rfl, Nat.le_of_ble_eq_true rfl⟩ | (simp only [zrm]; omega)) (fun _ _ h => z_xno h) (fun r w4 hq => ?_)
        obtain ⟨rfl, rfl⟩ := hq
        refine z_goto C 53 dX3_endPeriod_49 (by decide) ?_
        exact tail2 _ (by rw [if_pos hoc, q3.owe])
      · exact absurd c2 (by decide)
  refine z_aload_n C dX3_endPeriod_0 rfl ?_
  refine z_aload_n C dX3_endPeriod_1 rfl ?_
  refine z_getf C zf_X3_118 dX3_endPeriod_2 (by first | assumption | exact zk_eq | exact zk_ne (by first | assumption | exact zk_eq | exact zk_ne (by first | assumption | exact zk_eq | exact zk_ne (by first | assumption | exact zk_eq | exact zk_ne (by first | assumption | exact zk_eq | exact zk_ne (by first | assumption | exact zk_eq) (by first | decide | omega)) (by first | decide | omega)) (by first | decide | omega)) (by first | decide | omega)) (by first | decide | omega)) (by rfl) ?_
  refine z_if_ne C 12 dX3_endPeriod_5 (by decide) (fun c1 => ?_) (fun c1 => ?_)
  · refine z_iconst C (0) dX3_endPeriod_12 (by decide) ?_
    exact tail false (by rw [decide_eq_false c1])
  · refine z_iconst C (1) dX3_endPeriod_8 (by decide) ?_
    refine z_goto C 13 dX3_endPeriod_9 (by decide) ?_
    exact tail true (by rw [decide_eq_true c1])
end ZM6
