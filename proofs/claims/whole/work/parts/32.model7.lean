/-! HiringHallModel: fillable, dispatch, replace -/
theorem zIs.snoc {v : Nat → Int32} {T : List Nat} (h : zIs v T) (x : Nat) : zIs (va_up v T.length (nI x)) (T ++ [x]) ∧ zIs (va_up v T.length (nI x)) T := by
  have h2 : zIs (va_up v T.length (nI x)) T := fun j y hj => by
    have := (List.getElem?_eq_some_iff.mp hj).1
    rw [va_up_ne _ _ (by omega)]
    exact h j y hj
  refine ⟨fun j y hj => ?_, h2⟩
  rcases Nat.lt_or_ge j T.length with q | q
  · rw [List.getElem?_append_left q] at hj
    exact h2 j y hj
  · rw [List.getElem?_append_right q] at hj
    have hl := (List.getElem?_eq_some_iff.mp hj).1
    simp at hl
    have e : j = T.length := by omega
    subst e
    simp at hj
    rw [va_up_self, hj]
def mFT (g : Nat → Nat → Int32) (P : List Int32) : List Nat → List Nat → List Nat
  | [], T => T
  | k :: r, T => if mRdy g k = true ∧ g 5 k = 0 ∧ zHall ((T ++ [k]).map (g 3)) P = true then mFT g P r (T ++ [k]) else mFT g P r T
def mFillable (M : zMO) : Int32 × zMO := (nI (mFT M.1 (mOpn M.1 (M.2 17).toNatClampNeg) (mLine M.1) []).length, (M.1, va_up M.2 25 0))
def mTit (P : List Int32) : List Nat → (Nat → Nat → Int32) → (Nat → Int32) → List Nat → (Nat → Nat → Int32) × (Nat → Int32) × List Nat
  | [], g, f, T => (g, f, T)
  | k :: r, g, f, T => if mRdy g k = true ∧ zHall ((T ++ [k]).map (g 3)) P = true then if g 5 k = 0 then mTit P r g f (T ++ [k]) else mTit P r (mReG g f k) (mReF g f k) T else mTit P r g f T
def mTi (M : zMO) : (Nat → Nat → Int32) × (Nat → Int32) × List Nat := mTit (mOpn M.1 (M.2 17).toNatClampNeg) (mLine M.1) M.1 (va_up M.2 25 0) []
def mGi (M : zMO) : (Nat → Nat → Int32) × (Nat → Int32) × List Int32 := mGiv (M.2 17).toNatClampNeg (mTi M).2.2 (mTi M).1 (mTi M).2.1 (mOpn M.1 (M.2 17).toNatClampNeg)
def mDispatch (M : zMO) : Int32 × zMO := (nI (mTi M).2.2.length, mLoA (mTi M).2.2 (mGi M).1 (mGi M).2.1)
def mRpl (p : Nat) : List Nat → (Nat → Nat → Int32) → (Nat → Int32) → Int32 × (Nat → Nat → Int32) × (Nat → Int32)
  | [], g, f => (-1, g, f)
  | k :: r, g, f => if mRdy g k = true ∧ skl (g 3 k) (g 13 p) = true then if g 5 k = 0 then (g 0 k, mLow (mFiG g f k p) (mFiF f) k, mLoF (mFiF f)) else mRpl p r (mReG g f k) (mReF g f k) else mRpl p r g f
def mReplace (M : zMO) (x : Int32) : Int32 × zMO :=
  if mIn x 0 (M.2 17 - 1) = true then if M.1 14 x.toNatClampNeg = -1 then mRpl x.toNatClampNeg (mLine M.1) M.1 (va_up M.2 25 0) else (0, (M.1, va_up M.2 25 2)) else (0, (M.1, va_up M.2 25 1))
theorem mReG_same {g : Nat → Nat → Int32} {f : Nat → Int32} {n k : Nat} (h10 : k ≠ 10) (h2 : k ≠ 2) : mReG g f n k = g k := by
  unfold mReG
  split
  · exact va_up_ne _ _ h10
  · exact (va_up_ne _ _ h2).trans (va_up_ne _ _ h10)
theorem mReF_same {g : Nat → Nat → Int32} {f : Nat → Int32} {n k : Nat} (h : k ≠ 12) : mReF g f n k = f k := by
  unfold mReF
  split
  · rfl
  · exact va_up_ne _ _ h
theorem mLin_lt {g : Nat → Nat → Int32} : ∀ k ∈ mLine g, k < 30 ∧ mOcc g k = true := fun k hk => by
  rw [List.mem_reverse] at hk
  exact mLinR_mem.mp hk
theorem mLin_len {g : Nat → Nat → Int32} : (mLine g).length ≤ 30 := by rw [List.length_reverse]; exact mLinR_len 30
theorem mRdy_of {g1 g : Nat → Nat → Int32} (h : ∀ k : Nat, k ≠ 10 → k ≠ 2 → g1 k = g k) : mRdy g1 = mRdy g := by
  funext k
  simp only [mRdy, mOcc, h 0 (by decide) (by decide), h 4 (by decide) (by decide), h 7 (by decide) (by decide), h 6 (by decide) (by decide)]
theorem mOpn_of {g1 g : Nat → Nat → Int32} (h : ∀ k : Nat, k ≠ 10 → k ≠ 2 → g1 k = g k) : ∀ i : Nat, mOpn g1 i = mOpn g i
  | 0 => rfl
  | i + 1 => by simp only [mOpn, h 14 (by decide) (by decide), h 13 (by decide) (by decide), mOpn_of h i]
section ZM7
variable {l : Launch} {z : zT} {w : zW} {b0 : Nat} {M : zMO}
theorem q_fillable (hl : l.stackTraces = false) (h : MM z b0 w M) {c9 : Nat} (hc : M.2 17 = nI c9) (hc16 : c9 ≤ 16) (hn : ∀ i : Nat, i < c9 → ∃ j : Nat, j < 5 ∧ M.1 13 i = nI j) : ZQ l z mX3_fillable b0 [] w (mFillable M) := by
  obtain ⟨g, f⟩ := M
  obtain ⟨bd, g1, rfl, h, hA⟩ := h
  dsimp only at h hA hc hn
  have hH := h
  obtain ⟨m20, m21, m22, m23, m24, m25, m26, m27, m28, m29, m30, m31, m32, m33, m34, m35, m36, m37, m38⟩ := h.all
  have h2 := hH.obj (va_up f 25 0)
  have hsp : mFillable (g, f) = (nI (mFT g (mOpn g c9) (mLine g) []).length, (g, va_up f 25 0)) := by
    simp only [mFillable, show (f 17).toNatClampNeg = c9 by rw [hc, nI_clamp (by omega)]]
  have hPs := mOpn_sk c9 hn
  have hP16 : (mOpn g c9).length ≤ 16 := Nat.le_trans (mOpn_len _) hc16
  have hLl := mLin_len (g := g)
  have hLm := mLin_lt (g := g)
  refine zbody (M := mX3_fillable) (L0 := [_, _, _, _]) hl (by simp [Value.category]) (Nat.le_of_ble_eq_true rfl) (by decide +kernel) rfl ?_
  intro p e s m args below meth c C hX hnm hret
  replace C : zC z p l s m args meth c cX3_fillable RX3 4 := C
  replace hret : meth.sig.returnType = (some .int) := hret
  refine z_aload_n C dX3_fillable_0 rfl ?_
  refine z_iconst C (0) dX3_fillable_1 (by decide) ?_
  refine z_putf C (fs1 := [_, _, _, _, _, _, _, _, _, _, _, _, _, _, _, _, _, _, _, _, _, _, _, _, _, _]) zp_X3_69 dX3_fillable_2 (by first | assumption | exact zk_eq | exact zk_ne (by first | assumption | exact zk_eq | exact zk_ne (by first | assumption | exact zk_eq | exact zk_ne (by first | assumption | exact zk_eq | exact zk_ne (by first | assumption | exact zk_eq | exact zk_ne (by first | assumption | exact zk_eq) (by first | decide | omega)) (by first | decide | omega)) (by first | decide | omega)) (by first | decide | omega)) (by first | decide | omega)) (by first | rfl | exact zb_nar _ | assumption) (by first | rfl | exact zb_fit _ | assumption) (by exact Nat.le_of_ble_eq_true rfl) (by rfl) ?_
  refine z_aload_n C dX3_fillable_5 rfl ?_
  refine z_callV C zm_X3_lineUp zl_X3_106 (m_lineUp hl h2) dX3_fillable_6 (by first | assumption | exact zk_eq | exact zk_ne (by first | assumption | exact zk_eq | exact zk_ne (by first | assumption | exact zk_eq | exact zk_ne (by first | assumption | exact zk_eq | exact zk_ne (by first | assumption | exact zk_eq | exact zk_ne (by first | assumption | exact zk_eq) (by first | decide | omega)) (by first | decide | omega)) (by first | decide | omega)) (by first | decide | omega)) (by first | decide | omega)) (by rfl) (by rfl) (by rfl) (by exact Nat.le_of_ble_eq_true rfl) rfl (by exact ⟨Nat.le_of_ble_eq_true rfl, Nat.le_of_ble_eq_true rfl⟩) (by first | exact ⟨Nat.le_of_ble_eq_true rfl, Nat.le_of_ble_eq_true rfl⟩ | (simp only [zrm]; omega)) (fun _ _ h => z_xno h) (fun r w3 hq => ?_)
  obtain ⟨rfl, ⟨v, g2, g3⟩, g4⟩ := hq
  rw [show mLine g1 = mLine g by rw [mLine, hA.lin]] at g3 ⊢
  generalize mLine g = LL at hsp hLl hLm g3 ⊢
  have hX := g2
  have m20' := g2.1
  have hA2 : mAg (va_up g1 15 v) g := hA.scr (by decide) v
  refine z_istore_n C (L1 := [_, _, _, _]) dX3_fillable_9 (Nat.le_of_ble_eq_true rfl) rfl ?_
  refine z_iconst C (0) dX3_fillable_10 (by decide) ?_
  refine z_istore_n C (L1 := [_, _, _, _]) dX3_fillable_11 (Nat.le_of_ble_eq_true rfl) rfl ?_
  refine z_aload_n C dX3_fillable_12 rfl ?_
  refine z_callV C zm_X3_countOpen zl_X3_129 (m_countOpen (c9 := c9) hl hX hc hc16 (fun i hi => by rw [hA2 13 (by decide)]; exact hn i hi)) dX3_fillable_13 (by first | assumption | exact zk_eq | exact zk_ne (by first | assumption | exact zk_eq | exact zk_ne (by first | assumption | exact zk_eq | exact zk_ne (by first | assumption | exact zk_eq | exact zk_ne (by first | assumption | exact zk_eq | exact zk_ne (by first | assumption | exact zk_eq) (by first | decide | omega)) (by first | decide | omega)) (by first | decide | omega)) (by first | decide | omega)) (by first | decide | omega)) (by rfl) (by rfl) (by rfl) (by exact Nat.le_of_ble_eq_true rfl) rfl (by exact ⟨Nat.le_of_ble_eq_true rfl, Nat.le_of_ble_eq_true rfl⟩) (by first | exact ⟨Nat.le_of_ble_eq_true rfl, Nat.le_of_ble_eq_true rfl⟩ | (simp only [zrm]; omega)) (fun _ _ h => z_xno h) (fun r w4 hq => ?_)
  obtain ⟨rfl, ⟨v2, g5, g6⟩, g7⟩ := hq
  rw [hA2.opn] at g6
  refine z_iconst C (0) dX3_fillable_16 (by decide) ?_
  refine z_istore_n C (L1 := [_, _, _, _]) dX3_fillable_17 (Nat.le_of_ble_eq_true rfl) rfl ?_
  refine z_loop (fun n cs ss L w5 => ∃ (i : Nat) (T : List Nat) (ga : Nat → Nat → Int32), n = LL.length - i ∧ cs = 0 ∧ ss = 0 ∧ L = [some (.ref (bd 20)), some (.int (nI LL.length)), some (.int (nI T.length)), some (.int (nI i))] ∧ i ≤ LL.length ∧ T.length ≤ i ∧ (∀ x ∈ T, x < 30) ∧ MP z bd ga (va_up f 25 0) w5 ∧ mAg ga g ∧ zIs (ga 15) LL ∧ zIs (ga 16) T ∧ zOp (ga 17) (mOpn g c9) ∧ mFT g (mOpn g c9) (LL.drop i) T = mFT g (mOpn g c9) LL [] ∧ zFm w w5)
    ⟨0, [], _, rfl, rfl, rfl, rfl, Nat.zero_le _, Nat.le_refl _, fun x hx => absurd hx List.not_mem_nil, g5, hA2.scr (by decide) v2, g3, fun j x hj => by simp at hj, g6, rfl, (((zFm.refl w).up (by decide) (by decide)).tr g4).tr g7⟩ ?_
  rintro n cs ss L w5 ⟨i, T, ga, rfl, rfl, rfl, rfl, q1, q2, q3, q4, q5, q6, q7, q8, q9, q10⟩ ih
  have hY := q4
  obtain ⟨m20, m21, m22, m23, m24, m25, m26, m27, m28, m29, m30, m31, m32, m33, m34, m35, m36, m37, m38⟩ := q4.all
  refine z_iload_n C dX3_fillable_18 rfl ?_
  refine z_iload_n C dX3_fillable_19 rfl ?_
  refine z_icmp_ge C 87 dX3_fillable_20 (by decide) (fun c1 => ?_) (fun c1 => ?_)
  · have hi2 := ge_of_ge (by omega) (by omega) c1
    refine z_iload_n C dX3_fillable_87 rfl ?_
    refine z_iret C hret dX3_fillable_88 (by first | exact Nat.le_of_ble_eq_true rfl | omega) (by first | exact Nat.le_of_ble_eq_true rfl | omega) ?_
    rw [List.drop_eq_nil_of_le hi2] at q9
    exact ZQ.fin (M1 := (g, va_up f 25 0)) (by rw [hsp, ← q9]; rfl) ⟨bd, ga, rfl, hY, q5⟩ q10
  have hi2 : i < LL.length := lt_of_nge (by omega) (by omega) c1
  rw [List.drop_eq_getElem_cons hi2] at q9
  simp only [mFT] at q9
  obtain ⟨hk30, hoc⟩ := hLm _ (List.getElem_mem hi2)
  have ht : ga 15 i = nI LL[i] := q6.get hi2
  have e5 := q5 5 (by decide)
  have skip : ∀ (gb : Nat → Nat → Int32) (w6 : zW), MP z bd gb (va_up f 25 0) w6 → mAg gb g → zIs (gb 15) LL → zIs (gb 16) T → zOp (gb 17) (mOpn g c9) → zFm w w6 → mFT g (mOpn g c9) (LL.drop (i + 1)) T = mFT g (mOpn g c9) LL [] → ZJ z p l e (zrm 3 0 0) s m args below meth c (vx_MQ below (zQc z (fun r w1 => r = some (.int (mFillable (g, f)).1) ∧ MM z (bd 20) w1 (mFillable (g, f)).2 ∧ zFm w w1)) (zXC z zNo) args s 0 0 (zA z)) 0 0 81 [some (.ref (bd 20)), some (.int (nI LL.length)), some (.int (nI T.length)), some (.int (nI i))] [] w6 := by
    intro gb w6 s1 s2 s3 s4 s5 s6 s7
    refine z_iinc C (L1 := [_, _, _, _]) _ dX3_fillable_81 rfl (by first | exact zinc | rfl) rfl ?_
    refine z_goto C 18 dX3_fillable_84 (by decide) ?_
    exact ih (LL.length - (i + 1)) 0 0 _ _ (by omega) ⟨i + 1, T, gb, rfl, rfl, rfl, rfl, hi2, by omega, q3, s1, s2, s3, s4, s5, s7, s6⟩
  refine z_aload_n C dX3_fillable_23 rfl ?_
  refine z_aload_n C dX3_fillable_24 rfl ?_
  refine z_getf C zf_X3_60 dX3_fillable_25 (by first | assumption | exact zk_eq | exact zk_ne (by first | assumption | exact zk_eq | exact zk_ne (by first | assumption | exact zk_eq | exact zk_ne (by first | assumption | exact zk_eq | exact zk_ne (by first | assumption | exact zk_eq | exact zk_ne (by first | assumption | exact zk_eq) (by first | decide | omega)) (by first | decide | omega)) (by first | decide | omega)) (by first | decide | omega)) (by first | decide | omega)) (by rfl) ?_
  refine z_iload_n C dX3_fillable_28 rfl ?_
  refine z_iald C dX3_fillable_29 (by first | assumption | exact zk_eq | exact zk_ne (by first | assumption | exact zk_eq | exact zk_ne (by first | assumption | exact zk_eq | exact zk_ne (by first | assumption | exact zk_eq | exact zk_ne (by first | assumption | exact zk_eq | exact zk_ne (by first | assumption | exact zk_eq) (by first | decide | omega)) (by first | decide | omega)) (by first | decide | omega)) (by first | decide | omega)) (by first | decide | omega)) (by first | rfl | assumption) (by first | assumption | omega | decide) (by first | decide | omega) ?_
  rw [ht]
  refine z_callV C zm_X3_isReady zl_X3_132 (m_isReady hl hY hk30) dX3_fillable_30 (by first | assumption | exact zk_eq | exact zk_ne (by first | assumption | exact zk_eq | exact zk_ne (by first | assumption | exact zk_eq | exact zk_ne (by first | assumption | exact zk_eq | exact zk_ne (by first | assumption | exact zk_eq | exact zk_ne (by first | assumption | exact zk_eq) (by first | decide | omega)) (by first | decide | omega)) (by first | decide | omega)) (by first | decide | omega)) (by first | decide | omega)) (by rfl) (by rfl) (by rfl) (by exact Nat.le_of_ble_eq_true rfl) rfl (by exact ⟨Nat.le_of_ble_eq_true rfl, Nat.le_of_ble_eq_true rfl⟩) (by first | exact ⟨Nat.le_of_ble_eq_true rfl, Nat.le_of_ble_eq_true rfl⟩ | (simp only [zrm]; omega)) (fun _ _ h => z_xno h) (fun r w6 hq => ?_)
  obtain ⟨rfl, rfl⟩ := hq
  rw [q5.rdy]
  refine z_if_eq C 81 dX3_fillable_33 (by decide) (fun c2 => ?_) (fun c2 => ?_)
  · have c3 := zb_ff c2
    rw [if_neg (by simp [c3])] at q9
    exact skip ga _ hY q5 q6 q7 q8 q10 q9
  have c3 := zb_tt c2
  refine z_aload_n C dX3_fillable_36 rfl ?_
  refine z_getf C zf_X3_26 dX3_fillable_37 (by first | assumption | exact zk_eq | exact zk_ne (by first | assumption | exact zk_eq | exact zk_ne (by first | assumption | exact zk_eq | exact zk_ne (by first | assumption | exact zk_eq | exact zk_ne (by first | assumption | exact zk_eq | exact zk_ne (by first | assumption | exact zk_eq) (by first | decide | omega)) (by first | decide | omega)) (by first | decide | omega)) (by first | decide | omega)) (by first | decide | omega)) (by rfl) ?_
  refine z_aload_n C dX3_fillable_40 rfl ?_
  refine z_getf C zf_X3_60 dX3_fillable_41 (by first | assumption | exact zk_eq | exact zk_ne (by first | assumption | exact zk_eq | exact zk_ne (by first | assumption | exact zk_eq | exact zk_ne (by first | assumption | exact zk_eq | exact zk_ne (by first | assumption | exact zk_eq | exact zk_ne (by first | assumption | exact zk_eq) (by first | decide | omega)) (by first | decide | omega)) (by first | decide | omega)) (by first | decide | omega)) (by first | decide | omega)) (by rfl) ?_
  refine z_iload_n C dX3_fillable_44 rfl ?_
  refine z_iald C dX3_fillable_45 (by first | assumption | exact zk_eq | exact zk_ne (by first | assumption | exact zk_eq | exact zk_ne (by first | assumption | exact zk_eq | exact zk_ne (by first | assumption | exact zk_eq | exact zk_ne (by first | assumption | exact zk_eq | exact zk_ne (by first | assumption | exact zk_eq) (by first | decide | omega)) (by first | decide | omega)) (by first | decide | omega)) (by first | decide | omega)) (by first | decide | omega)) (by first | rfl | assumption) (by first | assumption | omega | decide) (by first | decide | omega) ?_
  refine z_zald C dX3_fillable_46 (by first | assumption | exact zk_eq | exact zk_ne (by first | assumption | exact zk_eq | exact zk_ne (by first | assumption | exact zk_eq | exact zk_ne (by first | assumption | exact zk_eq | exact zk_ne (by first | assumption | exact zk_eq | exact zk_ne (by first | assumption | exact zk_eq) (by first | decide | omega)) (by first | decide | omega)) (by first | decide | omega)) (by first | decide | omega)) (by first | decide | omega)) (by first | rfl | assumption) (by first | assumption | omega | decide) (by first | decide | omega) ?_
  rw [e5]
  refine z_if_ne C 81 dX3_fillable_47 (by decide) (fun c4 => ?_) (fun c4 => ?_)
  · rw [if_neg (fun h => c4 h.2.1)] at q9
    exact skip ga _ hY q5 q6 q7 q8 q10 q9
  refine z_aload_n C dX3_fillable_50 rfl ?_
  refine z_getf C zf_X3_63 dX3_fillable_51 (by first | assumption | exact zk_eq | exact zk_ne (by first | assumption | exact zk_eq | exact zk_ne (by first | assumption | exact zk_eq | exact zk_ne (by first | assumption | exact zk_eq | exact zk_ne (by first | assumption | exact zk_eq | exact zk_ne (by first | assumption | exact zk_eq) (by first | decide | omega)) (by first | decide | omega)) (by first | decide | omega)) (by first | decide | omega)) (by first | decide | omega)) (by rfl) ?_
  refine z_iload_n C dX3_fillable_54 rfl ?_
  refine z_aload_n C dX3_fillable_55 rfl ?_
  refine z_getf C zf_X3_60 dX3_fillable_56 (by first | assumption | exact zk_eq | exact zk_ne (by first | assumption | exact zk_eq | exact zk_ne (by first | assumption | exact zk_eq | exact zk_ne (by first | assumption | exact zk_eq | exact zk_ne (by first | assumption | exact zk_eq | exact zk_ne (by first | assumption | exact zk_eq) (by first | decide | omega)) (by first | decide | omega)) (by first | decide | omega)) (by first | decide | omega)) (by first | decide | omega)) (by rfl) ?_
  refine z_iload_n C dX3_fillable_59 rfl ?_
  refine z_iald C dX3_fillable_60 (by first | assumption | exact zk_eq | exact zk_ne (by first | assumption | exact zk_eq | exact zk_ne (by first | assumption | exact zk_eq | exact zk_ne (by first | assumption | exact zk_eq | exact zk_ne (by first | assumption | exact zk_eq | exact zk_ne (by first | assumption | exact zk_eq) (by first | decide | omega)) (by first | decide | omega)) (by first | decide | omega)) (by first | decide | omega)) (by first | decide | omega)) (by first | rfl | assumption) (by first | assumption | omega | decide) (by first | decide | omega) ?_
  rw [ht]
  refine z_iast C dX3_fillable_61 (by first | assumption | exact zk_eq | exact zk_ne (by first | assumption | exact zk_eq | exact zk_ne (by first | assumption | exact zk_eq | exact zk_ne (by first | assumption | exact zk_eq | exact zk_ne (by first | assumption | exact zk_eq | exact zk_ne (by first | assumption | exact zk_eq) (by first | decide | omega)) (by first | decide | omega)) (by first | decide | omega)) (by first | decide | omega)) (by first | decide | omega)) (by first | rfl | assumption) (by first | assumption | omega | decide) (by first | decide | omega) ?_
  refine z_iload_n C dX3_fillable_62 rfl ?_
  refine z_aload_n C dX3_fillable_63 rfl ?_
  refine z_iconst C (0) dX3_fillable_64 (by decide) ?_
  refine z_iload_n C dX3_fillable_65 rfl ?_
  refine z_iconst C (1) dX3_fillable_66 (by decide) ?_
  have hY2 := hY.arr 16 (va_up (ga 16) T.length (nI LL[i]))
  obtain ⟨z1, z2⟩ := q7.snoc LL[i]
  have m20'' := hY2.1
  have hca := m_canAll (T := T ++ [LL[i]]) (P := mOpn g c9) (a := 0) (b := T.length + 1) hl hY2 (by rw [va_up_self]; exact z1) (fun x hx => by
    rcases List.mem_append.mp hx with hx | hx
    · exact q3 x hx
    · rw [List.mem_singleton.mp hx]; exact hk30) (by simp; omega) (Nat.zero_le _) (by simp) q8 hPs hP16
  rw [List.drop_zero, List.take_of_length_le (by simp), show va_up ga 16 (va_up (ga 16) T.length (nI LL[i])) 3 = g 3 from q5 3 (by decide)] at hca
  refine z_iadd C dX3_fillable_67 ?_
  rw [show nI T.length + 1 = nI (T.length + 1) from nI_1 _]
  refine z_callV C zm_X3_canAll zl_X3_122 hca dX3_fillable_68 (by first | assumption | exact zk_eq | exact zk_ne (by first | assumption | exact zk_eq | exact zk_ne (by first | assumption | exact zk_eq | exact zk_ne (by first | assumption | exact zk_eq | exact zk_ne (by first | assumption | exact zk_eq | exact zk_ne (by first | assumption | exact zk_eq) (by first | decide | omega)) (by first | decide | omega)) (by first | decide | omega)) (by first | decide | omega)) (by first | decide | omega)) (by rfl) (by rfl) (by rfl) (by exact Nat.le_of_ble_eq_true rfl) rfl (by exact ⟨Nat.le_of_ble_eq_true rfl, Nat.le_of_ble_eq_true rfl⟩) (by first | exact ⟨Nat.le_of_ble_eq_true rfl, Nat.le_of_ble_eq_true rfl⟩ | (simp only [zrm]; omega)) (fun _ _ h => z_xno h) (fun r w7 hq => ?_)
  obtain ⟨rfl, rfl⟩ := hq
  have hA3 : mAg (va_up ga 16 (va_up (ga 16) T.length (nI LL[i]))) g := q5.scr (by decide) _
  have hfr := q10.up (k := 37) (x := some (bd 37, .inl (z.2.2.1 0, 30, .inl (va_up (ga 16) T.length (nI LL[i]))))) (by decide) (by decide)
  refine z_if_eq C 78 dX3_fillable_71 (by decide) (fun c5 => ?_) (fun c5 => ?_)
  · have c6 := zb_ff c5
    rw [if_neg (fun h => by have := h.2.2; rw [c6] at this; cases this)] at q9
    refine z_iconst C (0) dX3_fillable_78 (by decide) ?_
    refine z_iadd C dX3_fillable_79 ?_
    rw [show nI T.length + 0 = nI T.length by simp]
    refine z_istore_n C (L1 := [_, _, _, _]) dX3_fillable_80 (Nat.le_of_ble_eq_true rfl) rfl ?_
    exact skip _ _ hY2 hA3 q6 (by rw [va_up_self]; exact z2) q8 hfr q9
  · have c6 := zb_tt c5
    rw [if_pos ⟨c3, c4, c6⟩] at q9
    refine z_iconst C (1) dX3_fillable_74 (by decide) ?_
    refine z_goto C 79 dX3_fillable_75 (by decide) ?_
    refine z_iadd C dX3_fillable_79 ?_
    rw [show nI T.length + 1 = nI (T.length + 1) from nI_1 _]
    refine z_istore_n C (L1 := [_, _, _, _]) dX3_fillable_80 (Nat.le_of_ble_eq_true rfl) rfl ?_
    refine z_iinc C (L1 := [_, _, _, _]) _ dX3_fillable_81 rfl (by first | exact zinc | rfl) rfl ?_
    refine z_goto C 18 dX3_fillable_84 (by decide) ?_
    exact ih (LL.length - (i + 1)) 0 0 _ _ (by omega) ⟨i + 1, T ++ [LL[i]], _, rfl, rfl, rfl, by simp, hi2, by simp; omega, fun x hx => by
      rcases List.mem_append.mp hx with hx | hx
      · exact q3 x hx
      · rw [List.mem_singleton.mp hx]; exact hk30, hY2, hA3, q6, by rw [va_up_self]; exact z1, q8, q9, hfr⟩
end ZM7
