/-! HiringHallModel: equalise -/
/-- k into the row R by hours, the last first -/
def insH (g : Nat → Nat → Int32) (k : Nat) : List Nat → List Nat
  | [] => [k]
  | y :: r => if g 9 k < g 9 y then y :: insH g k r else k :: y :: r
def mEqR (g : Nat → Nat → Int32) (x : Int32) : List Nat → List Nat → List Nat
  | [], R => R
  | k :: r, R => if g 1 k = x then mEqR g x r (insH g k R) else mEqR g x r R
def mDsp (g : Nat → Nat → Int32) (T : List Nat) (i : Nat) : Nat := (List.range i).countP (fun j => !decide (mRnk g (T.getD j 0) 30 = j))
def mEqT (g : Nat → Nat → Int32) (x : Int32) : List Nat := (mEqR g x (mLine g) []).reverse
def mEqualise (M : zMO) (x : Int32) : Int32 × zMO := if mIn x 0 3 = true then (nI (mDsp M.1 (mEqT M.1 x) (mEqT M.1 x).length), mLoA (mEqT M.1 x) M.1 (va_up M.2 25 0)) else (0, (M.1, va_up M.2 25 1))
theorem insH_perm {g : Nat → Nat → Int32} {k : Nat} : ∀ r : List Nat, (insH g k r).Perm (k :: r)
  | [] => List.Perm.refl _
  | y :: r => by
    simp only [insH]
    split
    · exact ((insH_perm r).cons y).trans (List.Perm.swap k y r)
    · exact List.Perm.refl _
section ZM10
variable {l : Launch} {z : zT} {w : zW} {b0 : Nat} {M : zMO}
theorem q_equalise (hl : l.stackTraces = false) (h : MM z b0 w M) (x : Int32) : ZQ l z mX3_equalise b0 [.int x] w (mEqualise M x) := by
  obtain ⟨g, f⟩ := M
  obtain ⟨bd, g1, rfl, h, hA⟩ := h
  dsimp only at h hA
  have hH := h
  obtain ⟨m20, m21, m22, m23, m24, m25, m26, m27, m28, m29, m30, m31, m32, m33, m34, m35, m36, m37, m38⟩ := h.all
  refine zbody (M := mX3_equalise) (L0 := [_, _, _, _, _, _, _]) hl (by simp [Value.category]) (Nat.le_of_ble_eq_true rfl) (by decide +kernel) rfl ?_
  intro p e s m args below meth c C hX hnm hret
  replace C : zC z p l s m args meth c cX3_equalise RX3 7 := C
  replace hret : meth.sig.returnType = (some .int) := hret
  refine z_aload_n C dX3_equalise_0 rfl ?_
  refine z_iload_n C dX3_equalise_1 rfl ?_
  refine z_callS C zm_X3_isBoard zl_X3_83 (m_isBoard hl x) dX3_equalise_2 (by rfl) (by rfl) (by exact Nat.le_of_ble_eq_true rfl) rfl (by exact ⟨Nat.le_of_ble_eq_true rfl, Nat.le_of_ble_eq_true rfl⟩) (by first | exact ⟨Nat.le_of_ble_eq_true rfl, Nat.le_of_ble_eq_true rfl⟩ | (simp only [zrm]; omega)) (fun _ _ h => z_xno h) (fun r wz hq => ?_)
  obtain ⟨rfl, rfl⟩ := hq
  refine z_iconst C (1) dX3_equalise_5 (by decide) ?_
  refine z_iconst C (1) dX3_equalise_6 (by decide) ?_
  refine z_callV C zm_X3_goes zl_X3_91 (m_goes (a := mIn x 0 3) (b := true) (v := true) hl hH) dX3_equalise_7 (by first | assumption | exact zk_eq | exact zk_ne (by first | assumption | exact zk_eq | exact zk_ne (by first | assumption | exact zk_eq | exact zk_ne (by first | assumption | exact zk_eq | exact zk_ne (by first | assumption | exact zk_eq | exact zk_ne (by first | assumption | exact zk_eq) (by first | decide | omega)) (by first | decide | omega)) (by first | decide | omega)) (by first | decide | omega)) (by first | decide | omega)) (by rfl) (by rfl) (by rfl) (by exact Nat.le_of_ble_eq_true rfl) rfl (by exact ⟨Nat.le_of_ble_eq_true rfl, Nat.le_of_ble_eq_true rfl⟩) (by first | exact ⟨Nat.le_of_ble_eq_true rfl, Nat.le_of_ble_eq_true rfl⟩ | (simp only [zrm]; omega)) (fun _ _ h => z_xno h) (fun r w2 hq => ?_)
  obtain ⟨rfl, g2, g3⟩ := hq
  cases hi : mIn x 0 3 with
  | false =>
    rw [hi] at g2
    refine z_if_ne C 15 dX3_equalise_10 (by decide) (fun c2 => ?_) (fun c2 => ?_)
    · exact absurd rfl c2
    · refine z_iconst C (0) dX3_equalise_13 (by decide) ?_
      refine z_iret C hret dX3_equalise_14 (by first | exact Nat.le_of_ble_eq_true rfl | omega) (by first | exact Nat.le_of_ble_eq_true rfl | omega) ?_
      exact ZQ.fin (M1 := (g, va_up f 25 1)) (by simp only [mEqualise, hi, Bool.false_eq_true, if_false]) ⟨bd, g1, rfl, g2, hA⟩ g3
  | true =>
  rw [hi] at g2
  have hX : MP z bd g1 (va_up f 25 0) w2 := g2
  obtain ⟨m20, m21, m22, m23, m24, m25, m26, m27, m28, m29, m30, m31, m32, m33, m34, m35, m36, m37, m38⟩ := g2.all
  refine z_if_ne C 15 dX3_equalise_10 (by decide) (fun c2 => ?_) (fun c2 => ?_)
  rotate_left
  · exact absurd c2 (by decide)
  refine z_aload_n C dX3_equalise_15 rfl ?_
  refine z_callV C zm_X3_lineUp zl_X3_106 (m_lineUp hl hX) dX3_equalise_16 (by first | assumption | exact zk_eq | exact zk_ne (by first | assumption | exact zk_eq | exact zk_ne (by first | assumption | exact zk_eq | exact zk_ne (by first | assumption | exact zk_eq | exact zk_ne (by first | assumption | exact zk_eq | exact zk_ne (by first | assumption | exact zk_eq) (by first | decide | omega)) (by first | decide | omega)) (by first | decide | omega)) (by first | decide | omega)) (by first | decide | omega)) (by rfl) (by rfl) (by rfl) (by exact Nat.le_of_ble_eq_true rfl) rfl (by exact ⟨Nat.le_of_ble_eq_true rfl, Nat.le_of_ble_eq_true rfl⟩) (by first | exact ⟨Nat.le_of_ble_eq_true rfl, Nat.le_of_ble_eq_true rfl⟩ | (simp only [zrm]; omega)) (fun _ _ h => z_xno h) (fun r w4 hq => ?_)
  obtain ⟨rfl, ⟨v, g4, g5⟩, g6⟩ := hq
  rw [show mLine g1 = mLine g by rw [mLine, hA.lin]] at g5 ⊢
  have hLl := mLin_len (g := g)
  have hLm := mLin_lt (g := g)
  have hsp : mEqualise (g, f) x = (nI (mDsp g (mEqR g x (mLine g) []).reverse (mEqR g x (mLine g) []).reverse.length), mLoA (mEqR g x (mLine g) []).reverse g (va_up f 25 0)) := by simp only [mEqualise, mEqT, hi, if_true]
  generalize mLine g = LL at hsp hLl hLm g5 ⊢
  have hA2 : mAg (va_up g1 15 v) g := hA.scr (by decide) v
  refine z_istore_n C (L1 := [_, _, _, _, _, _, _]) dX3_equalise_19 (Nat.le_of_ble_eq_true rfl) rfl ?_
  refine z_iconst C (0) dX3_equalise_20 (by decide) ?_
  refine z_istore_n C (L1 := [_, _, _, _, _, _, _]) dX3_equalise_21 (Nat.le_of_ble_eq_true rfl) rfl ?_
  refine z_iconst C (0) dX3_equalise_22 (by decide) ?_
  refine z_istore C (L1 := [_, _, _, _, _, _, _]) dX3_equalise_23 (Nat.le_of_ble_eq_true rfl) rfl ?_
  refine z_iconst C (0) dX3_equalise_25 (by decide) ?_
  refine z_istore C (L1 := [_, _, _, _, _, _, _]) dX3_equalise_26 (Nat.le_of_ble_eq_true rfl) rfl ?_
  refine z_loop (fun n cs ss L w5 => ∃ (i : Nat) (R : List Nat) (ga : Nat → Nat → Int32), n = LL.length - i ∧ cs = 0 ∧ ss = 0 ∧ L = [some (.ref (bd 20)), some (.int x), some (.int (nI LL.length)), some (.int (nI R.length)), some (.int 0), some (.int (nI i)), none] ∧ i ≤ LL.length ∧ R.length ≤ i ∧ (∀ y ∈ R, y < 30) ∧ MP z bd ga (va_up f 25 0) w5 ∧ mAg ga g ∧ zIs (ga 15) LL ∧ zIs (ga 16) R.reverse ∧ mEqR g x (LL.drop i) R = mEqR g x LL [] ∧ zFm wz w5)
    ⟨0, [], _, rfl, rfl, rfl, rfl, Nat.zero_le _, Nat.le_refl _, fun y hy => absurd hy List.not_mem_nil, g4, hA2, g5, fun j y hj => by simp at hj, rfl, g3.tr g6⟩ ?_
  rintro n cs ss L w5 ⟨i, R, ga, rfl, rfl, rfl, rfl, q1, q2, q3, q4, q5, q6, q7, q8, q9⟩ ih
  have hY := q4
  obtain ⟨m20, m21, m22, m23, m24, m25, m26, m27, m28, m29, m30, m31, m32, m33, m34, m35, m36, m37, m38⟩ := q4.all
  refine z_iload C dX3_equalise_28 rfl ?_
  refine z_iload_n C dX3_equalise_30 rfl ?_
  refine z_icmp_ge C 132 dX3_equalise_31 (by decide) (fun c3 => ?_) (fun c3 => ?_)
  · have hi2 := ge_of_ge (by omega) (by omega) c3
    rw [List.drop_eq_nil_of_le hi2] at q8
    simp only [mEqR] at q8
    rw [← q8] at hsp
    have hRl : R.length = R.reverse.length := (List.length_reverse).symm
    have hT3 : ∀ y ∈ R.reverse, y < 30 := fun y hy => q3 y (List.mem_reverse.mp hy)
    have hT30 : R.reverse.length ≤ 30 := by omega
    rw [hRl]
    generalize R.reverse = T at hsp q7 hT3 hT30 ⊢
    refine z_iconst C (0) dX3_equalise_132 (by decide) ?_
    refine z_istore C (L1 := [_, _, _, _, _, _, _]) dX3_equalise_133 (Nat.le_of_ble_eq_true rfl) rfl ?_
    refine z_ind (σ := Nat) (fun j => j ≤ T.length) (fun j => T.length - j) (fun _ => 0) (fun _ => 0)
      (fun j => [some (.ref (bd 20)), some (.int x), some (.int (nI LL.length)), some (.int (nI T.length)), some (.int (nI (mDsp g T j))), some (.int (nI j)), none]) (fun _ => w5) 0 (Nat.zero_le _) ?_
    rintro j r1 ih2
    try dsimp only at r1 ih2 ⊢
    have hsu : mDsp g T (j + 1) = mDsp g T j + zN (!decide (mRnk g (T.getD j 0) 30 = j)) := cntP_succ _ _
    refine z_iload C dX3_equalise_135 rfl ?_
    refine z_iload_n C dX3_equalise_137 rfl ?_
    refine z_icmp_ge C 173 dX3_equalise_138 (by decide) (fun c4 => ?_) (fun c4 => ?_)
    · have hj2 : j = T.length := Nat.le_antisymm r1 (ge_of_ge (by omega) (by omega) c4)
      subst hj2
      refine z_iconst C (0) dX3_equalise_173 (by decide) ?_
      refine z_istore C (L1 := [_, _, _, _, _, _, _]) dX3_equalise_174 (Nat.le_of_ble_eq_true rfl) rfl ?_
      refine z_loop (fun n cs ss L w3 => ∃ (k : Nat) (gc gd : Nat → Nat → Int32) (f3 : Nat → Int32), n = T.length - k ∧ cs = 0 ∧ ss = 0 ∧ L = [some (.ref (bd 20)), some (.int x), some (.int (nI LL.length)), some (.int (nI T.length)), some (.int (nI (mDsp g T T.length))), some (.int (nI k)), none] ∧ k ≤ T.length ∧ MP z bd gc f3 w3 ∧ mAg gc gd ∧ mLoA (T.drop k) gd f3 = mLoA T g (va_up f 25 0) ∧ zIs (gc 16) T ∧ zFm wz w3)
        ⟨0, ga, g, va_up f 25 0, rfl, rfl, rfl, rfl, Nat.zero_le _, hY, q5, rfl, q7, q9⟩ ?_
      rintro n cs ss L w3 ⟨k, gc, gd, f3, rfl, rfl, rfl, rfl, r1, r2, r3, r4, r5, r6⟩ ih3
      have hZ := r2
      obtain ⟨m20, m21, m22, m23, m24, m25, m26, m27, m28, m29, m30, m31, m32, m33, m34, m35, m36, m37, m38⟩ := r2.all
      refine z_iload C dX3_equalise_176 rfl ?_
      refine z_iload_n C dX3_equalise_178 rfl ?_
      refine z_icmp_ge C 199 dX3_equalise_179 (by decide) (fun c5 => ?_) (fun c5 => ?_)
      · have hk2 : k = T.length := Nat.le_antisymm r1 (ge_of_ge (by omega) (by omega) c5)
        subst hk2
        rw [List.drop_length] at r4
        simp only [mLoA] at r4
        refine z_iload C dX3_equalise_199 rfl ?_
        refine z_iret C hret dX3_equalise_201 (by first | exact Nat.le_of_ble_eq_true rfl | omega) (by first | exact Nat.le_of_ble_eq_true rfl | omega) ?_
        exact ZQ.fin (o := mEqualise (g, f) x) (M1 := (gd, f3)) (by rw [hsp, ← r4]) ⟨bd, gc, rfl, hZ, r3⟩ r6
      have hk2 : k < T.length := lt_of_nge (by omega) (by omega) c5
      rw [List.drop_eq_getElem_cons hk2] at r4
      have hgt : gc 16 k = nI T[k] := r5.get hk2
      refine z_aload_n C dX3_equalise_182 rfl ?_
      refine z_aload_n C dX3_equalise_183 rfl ?_
      refine z_getf C zf_X3_63 dX3_equalise_184 (by first | assumption | exact zk_eq | exact zk_ne (by first | assumption | exact zk_eq | exact zk_ne (by first | assumption | exact zk_eq | exact zk_ne (by first | assumption | exact zk_eq | exact zk_ne (by first | assumption | exact zk_eq | exact zk_ne (by first | assumption | exact zk_eq) (by first | decide | omega)) (by first | decide | omega)) (by first | decide | omega)) (by first | decide | omega)) (by first | decide | omega)) (by rfl) ?_
      refine z_iload C dX3_equalise_187 rfl ?_
      refine z_iald C dX3_equalise_189 (by first | assumption | exact zk_eq | exact zk_ne (by first | assumption | exact zk_eq | exact zk_ne (by first | assumption | exact zk_eq | exact zk_ne (by first | assumption | exact zk_eq | exact zk_ne (by first | assumption | exact zk_eq | exact zk_ne (by first | assumption | exact zk_eq) (by first | decide | omega)) (by first | decide | omega)) (by first | decide | omega)) (by first | decide | omega)) (by first | decide | omega)) (by first | rfl | assumption) (by first | assumption | omega | decide) (by first | decide | omega) ?_
      rw [hgt]
      refine z_callV C zm_X3_lowers zl_X3_98 (m_lowers hl hZ (hT3 _ (List.getElem_mem hk2))) dX3_equalise_190 (by first | assumption | exact zk_eq | exact zk_ne (by first | assumption | exact zk_eq | exact zk_ne (by first | assumption | exact zk_eq | exact zk_ne (by first | assumption | exact zk_eq | exact zk_ne (by first | assumption | exact zk_eq | exact zk_ne (by first | assumption | exact zk_eq) (by first | decide | omega)) (by first | decide | omega)) (by first | decide | omega)) (by first | decide | omega)) (by first | decide | omega)) (by rfl) (by rfl) (by rfl) (by exact Nat.le_of_ble_eq_true rfl) rfl (by exact ⟨Nat.le_of_ble_eq_true rfl, Nat.le_of_ble_eq_true rfl⟩) (by first | exact ⟨Nat.le_of_ble_eq_true rfl, Nat.le_of_ble_eq_true rfl⟩ | (simp only [zrm]; omega)) (fun _ _ h => z_xno h) (fun r w6 hq => ?_)
      obtain ⟨rfl, t1, t2⟩ := hq
      refine z_iinc C (L1 := [_, _, _, _, _, _, _]) _ dX3_equalise_193 rfl (by first | exact zinc | rfl) rfl ?_
      refine z_goto C 176 dX3_equalise_196 (by decide) ?_
      exact ih3 (T.length - (k + 1)) 0 0 _ _ (by omega) ⟨k + 1, _, _, _, rfl, rfl, rfl, rfl, hk2, t1, r3.low, r4, r5, r6.tr t2⟩
    have hj2 : j < T.length := lt_of_nge (by omega) (by omega) c4
    have hgt : ga 16 j = nI T[j] := q7.get hj2
    have hgd : T.getD j 0 = T[j] := by rw [List.getD_eq_getElem?_getD, List.getElem?_eq_getElem hj2]; rfl
    rw [hgd] at hsu
    have hdl : mDsp g T j ≤ j := cntP_le _ _
    have hrl : mRnk g T[j] 30 ≤ 30 := cntP_le _ _
    have fin := ih2 (j + 1) hj2 (by omega)
    rw [hsu] at fin
    refine z_iload C dX3_equalise_141 rfl ?_
    refine z_aload_n C dX3_equalise_143 rfl ?_
    refine z_aload_n C dX3_equalise_144 rfl ?_
    refine z_getf C zf_X3_63 dX3_equalise_145 (by first | assumption | exact zk_eq | exact zk_ne (by first | assumption | exact zk_eq | exact zk_ne (by first | assumption | exact zk_eq | exact zk_ne (by first | assumption | exact zk_eq | exact zk_ne (by first | assumption | exact zk_eq | exact zk_ne (by first | assumption | exact zk_eq) (by first | decide | omega)) (by first | decide | omega)) (by first | decide | omega)) (by first | decide | omega)) (by first | decide | omega)) (by rfl) ?_
    refine z_iload C dX3_equalise_148 rfl ?_
    refine z_iald C dX3_equalise_150 (by first | assumption | exact zk_eq | exact zk_ne (by first | assumption | exact zk_eq | exact zk_ne (by first | assumption | exact zk_eq | exact zk_ne (by first | assumption | exact zk_eq | exact zk_ne (by first | assumption | exact zk_eq | exact zk_ne (by first | assumption | exact zk_eq) (by first | decide | omega)) (by first | decide | omega)) (by first | decide | omega)) (by first | decide | omega)) (by first | decide | omega)) (by first | rfl | assumption) (by first | assumption | omega | decide) (by first | decide | omega) ?_
    rw [hgt]
    refine z_callV C zm_X3_rank zl_X3_109 (m_rank hl hY (hT3 _ (List.getElem_mem hj2))) dX3_equalise_151 (by first | assumption | exact zk_eq | exact zk_ne (by first | assumption | exact zk_eq | exact zk_ne (by first | assumption | exact zk_eq | exact zk_ne (by first | assumption | exact zk_eq | exact zk_ne (by first | assumption | exact zk_eq | exact zk_ne (by first | assumption | exact zk_eq) (by first | decide | omega)) (by first | decide | omega)) (by first | decide | omega)) (by first | decide | omega)) (by first | decide | omega)) (by rfl) (by rfl) (by rfl) (by exact Nat.le_of_ble_eq_true rfl) rfl (by exact ⟨Nat.le_of_ble_eq_true rfl, Nat.le_of_ble_eq_true rfl⟩) (by first | exact ⟨Nat.le_of_ble_eq_true rfl, Nat.le_of_ble_eq_true rfl⟩ | (simp only [zrm]; omega)) (fun _ _ h => z_xno h) (fun r w1 hq => ?_)
    obtain ⟨rfl, rfl⟩ := hq
    rw [q5.rnk]
    refine z_iload C dX3_equalise_154 rfl ?_
    refine z_icmp_ne C 163 dX3_equalise_156 (by decide) (fun c5 => ?_) (fun c5 => ?_)
    · have c6 : ¬ mRnk g T[j] 30 = j := fun h => c5 (by rw [h])
      rw [show zN (!decide (mRnk g T[j] 30 = j)) = 1 by simp [c6, zN]] at fin
      refine z_iconst C (1) dX3_equalise_163 (by decide) ?_
      refine z_iadd C dX3_equalise_164 ?_
      rw [show (nI (mDsp g T j) + 1) = nI (mDsp g T j + 1) from nI_1 _]
      refine z_istore C (L1 := [_, _, _, _, _, _, _]) dX3_equalise_165 (Nat.le_of_ble_eq_true rfl) rfl ?_
      refine z_iinc C (L1 := [_, _, _, _, _, _, _]) _ dX3_equalise_167 rfl (by first | exact zinc | rfl) rfl ?_
      refine z_goto C 135 dX3_equalise_170 (by decide) ?_
      exact fin
    · have c6 : mRnk g T[j] 30 = j := (nI_eq (by omega) (by omega)).mp c5
      rw [show zN (!decide (mRnk g T[j] 30 = j)) = 0 by simp [c6, zN]] at fin
      refine z_iconst C (0) dX3_equalise_159 (by decide) ?_
      refine z_goto C 164 dX3_equalise_160 (by decide) ?_
      refine z_iadd C dX3_equalise_164 ?_
      rw [show (nI (mDsp g T j) + 0) = nI (mDsp g T j) by simp]
      refine z_istore C (L1 := [_, _, _, _, _, _, _]) dX3_equalise_165 (Nat.le_of_ble_eq_true rfl) rfl ?_
      refine z_iinc C (L1 := [_, _, _, _, _, _, _]) _ dX3_equalise_167 rfl (by first | exact zinc | rfl) rfl ?_
      refine z_goto C 135 dX3_equalise_170 (by decide) ?_
      exact fin
  have hi2 : i < LL.length := lt_of_nge (by omega) (by omega) c3
  rw [List.drop_eq_getElem_cons hi2] at q8
  simp only [mEqR] at q8
  obtain ⟨hk30, hoc⟩ := hLm _ (List.getElem_mem hi2)
  have ht : ga 15 i = nI LL[i] := q6.get hi2
  refine z_aload_n C dX3_equalise_34 rfl ?_
  refine z_getf C zf_X3_13 dX3_equalise_35 (by first | assumption | exact zk_eq | exact zk_ne (by first | assumption | exact zk_eq | exact zk_ne (by first | assumption | exact zk_eq | exact zk_ne (by first | assumption | exact zk_eq | exact zk_ne (by first | assumption | exact zk_eq | exact zk_ne (by first | assumption | exact zk_eq) (by first | decide | omega)) (by first | decide | omega)) (by first | decide | omega)) (by first | decide | omega)) (by first | decide | omega)) (by rfl) ?_
  refine z_aload_n C dX3_equalise_38 rfl ?_
  refine z_getf C zf_X3_60 dX3_equalise_39 (by first | assumption | exact zk_eq | exact zk_ne (by first | assumption | exact zk_eq | exact zk_ne (by first | assumption | exact zk_eq | exact zk_ne (by first | assumption | exact zk_eq | exact zk_ne (by first | assumption | exact zk_eq | exact zk_ne (by first | assumption | exact zk_eq) (by first | decide | omega)) (by first | decide | omega)) (by first | decide | omega)) (by first | decide | omega)) (by first | decide | omega)) (by rfl) ?_
  refine z_iload C dX3_equalise_42 rfl ?_
  refine z_iald C dX3_equalise_44 (by first | assumption | exact zk_eq | exact zk_ne (by first | assumption | exact zk_eq | exact zk_ne (by first | assumption | exact zk_eq | exact zk_ne (by first | assumption | exact zk_eq | exact zk_ne (by first | assumption | exact zk_eq | exact zk_ne (by first | assumption | exact zk_eq) (by first | decide | omega)) (by first | decide | omega)) (by first | decide | omega)) (by first | decide | omega)) (by first | decide | omega)) (by first | rfl | assumption) (by first | assumption | omega | decide) (by first | decide | omega) ?_
  rw [ht]
  refine z_iald C dX3_equalise_45 (by first | assumption | exact zk_eq | exact zk_ne (by first | assumption | exact zk_eq | exact zk_ne (by first | assumption | exact zk_eq | exact zk_ne (by first | assumption | exact zk_eq | exact zk_ne (by first | assumption | exact zk_eq | exact zk_ne (by first | assumption | exact zk_eq) (by first | decide | omega)) (by first | decide | omega)) (by first | decide | omega)) (by first | decide | omega)) (by first | decide | omega)) (by first | rfl | assumption) (by first | assumption | omega | decide) (by first | decide | omega) ?_
  refine z_iload_n C dX3_equalise_46 rfl ?_
  rw [q5 1 (by decide)]
  refine z_icmp_ne C 126 dX3_equalise_47 (by decide) (fun c4 => ?_) (fun c4 => ?_)
  · rw [if_neg c4] at q8
    refine z_iinc C (L1 := [_, _, _, _, _, _, _]) _ dX3_equalise_126 rfl (by first | exact zinc | rfl) rfl ?_
    refine z_goto C 28 dX3_equalise_129 (by decide) ?_
    exact ih (LL.length - (i + 1)) 0 0 _ _ (by omega) ⟨i + 1, R, ga, rfl, rfl, rfl, rfl, hi2, by omega, q3, hY, q5, q6, q7, q8, q9⟩
  rw [if_pos c4] at q8
  refine z_iload_n C dX3_equalise_50 rfl ?_
  refine z_istore C (L1 := [_, _, _, _, _, _, _]) dX3_equalise_51 (Nat.le_of_ble_eq_true rfl) rfl ?_
  refine z_loop (fun n cs ss L w3 => ∃ (A B : List Nat) (gb : Nat → Nat → Int32), n = A.length ∧ cs = 0 ∧ ss = 0 ∧ L = [some (.ref (bd 20)), some (.int x), some (.int (nI LL.length)), some (.int (nI R.length)), some (.int 0), some (.int (nI i)), some (.int (nI A.length))] ∧ (insH g LL[i] A).reverse ++ B = (insH g LL[i] R).reverse ∧ A.length ≤ i ∧ (∀ y ∈ A, y < 30) ∧ MP z bd gb (va_up f 25 0) w3 ∧ mAg gb g ∧ zIs (gb 15) LL ∧ zIs (gb 16) A.reverse ∧ (∀ j y : Nat, B[j]? = some y → gb 16 (A.length + 1 + j) = nI y) ∧ zFm wz w3)
    ⟨R, [], ga, rfl, rfl, rfl, rfl, List.append_nil _, q2, q3, hY, q5, q6, q7, fun j y hj => by simp at hj, q9⟩ ?_
  rintro n cs ss L w3 ⟨A, B, gb, rfl, rfl, rfl, rfl, r1, r2, r3, r4, r5, r6, r7, r8, r9⟩ ih2
  have hZ := r4
  obtain ⟨m20, m21, m22, m23, m24, m25, m26, m27, m28, m29, m30, m31, m32, m33, m34, m35, m36, m37, m38⟩ := r4.all
  have hbt : gb 15 i = nI LL[i] := r6.get hi2
  have fin : (insH g LL[i] A = LL[i] :: A) → ZJ z p l e (zrm 3 0 0) s m args below meth c (vx_MQ below (zQc z (fun r w1 => r = some (.int (mEqualise (g, f) x).1) ∧ MM z (bd 20) w1 (mEqualise (g, f) x).2 ∧ zFm wz w1)) (zXC z zNo) args s 0 0 (zA z)) 0 0 109 [some (.ref (bd 20)), some (.int x), some (.int (nI LL.length)), some (.int (nI R.length)), some (.int 0), some (.int (nI i)), some (.int (nI A.length))] [] w3 := by
    intro hA4
    refine z_aload_n C dX3_equalise_109 rfl ?_
    refine z_getf C zf_X3_63 dX3_equalise_110 (by first | assumption | exact zk_eq | exact zk_ne (by first | assumption | exact zk_eq | exact zk_ne (by first | assumption | exact zk_eq | exact zk_ne (by first | assumption | exact zk_eq | exact zk_ne (by first | assumption | exact zk_eq | exact zk_ne (by first | assumption | exact zk_eq) (by first | decide | omega)) (by first | decide | omega)) (by first | decide | omega)) (by first | decide | omega)) (by first | decide | omega)) (by rfl) ?_
    refine z_iload C dX3_equalise_113 rfl ?_
    refine z_aload_n C dX3_equalise_115 rfl ?_
    refine z_getf C zf_X3_60 dX3_equalise_116 (by first | assumption | exact zk_eq | exact zk_ne (by first | assumption | exact zk_eq | exact zk_ne (by first | assumption | exact zk_eq | exact zk_ne (by first | assumption | exact zk_eq | exact zk_ne (by first | assumption | exact zk_eq | exact zk_ne (by first | assumption | exact zk_eq) (by first | decide | omega)) (by first | decide | omega)) (by first | decide | omega)) (by first | decide | omega)) (by first | decide | omega)) (by rfl) ?_
    refine z_iload C dX3_equalise_119 rfl ?_
    refine z_iald C dX3_equalise_121 (by first | assumption | exact zk_eq | exact zk_ne (by first | assumption | exact zk_eq | exact zk_ne (by first | assumption | exact zk_eq | exact zk_ne (by first | assumption | exact zk_eq | exact zk_ne (by first | assumption | exact zk_eq | exact zk_ne (by first | assumption | exact zk_eq) (by first | decide | omega)) (by first | decide | omega)) (by first | decide | omega)) (by first | decide | omega)) (by first | decide | omega)) (by first | rfl | assumption) (by first | assumption | omega | decide) (by first | decide | omega) ?_
    rw [hbt]
    refine z_iast C dX3_equalise_122 (by first | assumption | exact zk_eq | exact zk_ne (by first | assumption | exact zk_eq | exact zk_ne (by first | assumption | exact zk_eq | exact zk_ne (by first | assumption | exact zk_eq | exact zk_ne (by first | assumption | exact zk_eq | exact zk_ne (by first | assumption | exact zk_eq) (by first | decide | omega)) (by first | decide | omega)) (by first | decide | omega)) (by first | decide | omega)) (by first | decide | omega)) (by first | rfl | assumption) (by first | assumption | omega | decide) (by first | decide | omega) ?_
    refine z_iinc C (L1 := [_, _, _, _, _, _, _]) _ dX3_equalise_123 rfl (by first | exact zinc | rfl) rfl ?_
    refine z_iinc C (L1 := [_, _, _, _, _, _, _]) _ dX3_equalise_126 rfl (by first | exact zinc | rfl) rfl ?_
    refine z_goto C 28 dX3_equalise_129 (by decide) ?_
    have hY2 := hZ.arr 16 (va_up (gb 16) A.length (nI LL[i]))
    rw [hA4, List.reverse_cons, List.append_assoc] at r1
    refine z_fgt (ih (LL.length - (i + 1)) 0 0 [some (.ref (bd 20)), some (.int x), some (.int (nI LL.length)), some (.int (nI (insH g LL[i] R).length)), some (.int 0), some (.int (nI (i + 1))), none] _ (by omega) ⟨i + 1, insH g LL[i] R, _, rfl, rfl, rfl, rfl, hi2, by rw [(insH_perm _).length_eq]; simp; omega, fun y hy => ?_, hY2, r5.scr (by decide) _, r6, ?_, q8, r9.up (by decide) (by decide)⟩) ?_
    · rcases List.mem_cons.mp ((insH_perm _).mem_iff.mp hy) with rfl | hy
      · exact hk30
      · exact q3 y hy
    · rw [va_up_self, ← r1]
      intro j y hj
      rcases Nat.lt_trichotomy j A.length with h1 | h1 | h1
      · rw [List.getElem?_append_left (by simpa using h1)] at hj
        rw [va_up_ne _ _ (by omega)]
        exact r7 j y hj
      · subst h1
        rw [List.getElem?_append_right (by simp)] at hj
        simp at hj
        rw [va_up_self, hj]
      · rw [List.getElem?_append_right (by simp; omega), List.length_reverse, show j - A.length = (j - A.length - 1) + 1 by omega, show [LL[i]] ++ B = LL[i] :: B from rfl, List.getElem?_cons_succ] at hj
        rw [va_up_ne _ _ (by omega)]
        have := r8 _ y hj
        rw [show A.length + 1 + (j - A.length - 1) = j by omega] at this
        exact this
    · rw [(insH_perm _).length_eq]
      simp [zle]
  refine z_iload C dX3_equalise_53 rfl ?_
  refine z_if_le C 109 dX3_equalise_55 (by decide) (fun c5 => ?_) (fun c5 => ?_)
  · cases A with
    | nil => exact fin rfl
    | cons y A3 => exact absurd c5 (nI_nle (by simp) (by simp at r2 ⊢; omega))
  cases A with
  | nil => exact absurd (Int32.le_refl 0) c5
  | cons y A3 =>
    have el : (y :: A3).length = A3.length + 1 := rfl
    rw [el] at r2 r8
    rw [el]
    have hy : y < 30 := r3 y List.mem_cons_self
    have hvy : gb 16 A3.length = nI y := r7 A3.length y (by rw [List.reverse_cons, List.getElem?_append_right (by simp)]; simp)
    refine z_aload_n C dX3_equalise_58 rfl ?_
    refine z_getf C zf_X3_38 dX3_equalise_59 (by first | assumption | exact zk_eq | exact zk_ne (by first | assumption | exact zk_eq | exact zk_ne (by first | assumption | exact zk_eq | exact zk_ne (by first | assumption | exact zk_eq | exact zk_ne (by first | assumption | exact zk_eq | exact zk_ne (by first | assumption | exact zk_eq) (by first | decide | omega)) (by first | decide | omega)) (by first | decide | omega)) (by first | decide | omega)) (by first | decide | omega)) (by rfl) ?_
    refine z_aload_n C dX3_equalise_62 rfl ?_
    refine z_getf C zf_X3_60 dX3_equalise_63 (by first | assumption | exact zk_eq | exact zk_ne (by first | assumption | exact zk_eq | exact zk_ne (by first | assumption | exact zk_eq | exact zk_ne (by first | assumption | exact zk_eq | exact zk_ne (by first | assumption | exact zk_eq | exact zk_ne (by first | assumption | exact zk_eq) (by first | decide | omega)) (by first | decide | omega)) (by first | decide | omega)) (by first | decide | omega)) (by first | decide | omega)) (by rfl) ?_
    refine z_iload C dX3_equalise_66 rfl ?_
    refine z_iald C dX3_equalise_68 (by first | assumption | exact zk_eq | exact zk_ne (by first | assumption | exact zk_eq | exact zk_ne (by first | assumption | exact zk_eq | exact zk_ne (by first | assumption | exact zk_eq | exact zk_ne (by first | assumption | exact zk_eq | exact zk_ne (by first | assumption | exact zk_eq) (by first | decide | omega)) (by first | decide | omega)) (by first | decide | omega)) (by first | decide | omega)) (by first | decide | omega)) (by first | rfl | assumption) (by first | assumption | omega | decide) (by first | decide | omega) ?_
    rw [hbt]
    refine z_iald C dX3_equalise_69 (by first | assumption | exact zk_eq | exact zk_ne (by first | assumption | exact zk_eq | exact zk_ne (by first | assumption | exact zk_eq | exact zk_ne (by first | assumption | exact zk_eq | exact zk_ne (by first | assumption | exact zk_eq | exact zk_ne (by first | assumption | exact zk_eq) (by first | decide | omega)) (by first | decide | omega)) (by first | decide | omega)) (by first | decide | omega)) (by first | decide | omega)) (by first | rfl | assumption) (by first | assumption | omega | decide) (by first | decide | omega) ?_
    refine z_aload_n C dX3_equalise_70 rfl ?_
    refine z_getf C zf_X3_38 dX3_equalise_71 (by first | assumption | exact zk_eq | exact zk_ne (by first | assumption | exact zk_eq | exact zk_ne (by first | assumption | exact zk_eq | exact zk_ne (by first | assumption | exact zk_eq | exact zk_ne (by first | assumption | exact zk_eq | exact zk_ne (by first | assumption | exact zk_eq) (by first | decide | omega)) (by first | decide | omega)) (by first | decide | omega)) (by first | decide | omega)) (by first | decide | omega)) (by rfl) ?_
    refine z_aload_n C dX3_equalise_74 rfl ?_
    refine z_getf C zf_X3_63 dX3_equalise_75 (by first | assumption | exact zk_eq | exact zk_ne (by first | assumption | exact zk_eq | exact zk_ne (by first | assumption | exact zk_eq | exact zk_ne (by first | assumption | exact zk_eq | exact zk_ne (by first | assumption | exact zk_eq | exact zk_ne (by first | assumption | exact zk_eq) (by first | decide | omega)) (by first | decide | omega)) (by first | decide | omega)) (by first | decide | omega)) (by first | decide | omega)) (by rfl) ?_
    refine z_iload C dX3_equalise_78 rfl ?_
    refine z_iconst C (1) dX3_equalise_80 (by decide) ?_
    refine z_isub C dX3_equalise_81 ?_
    rw [show nI (A3.length + 1) - 1 = nI A3.length from nI_pred _]
    refine z_iald C dX3_equalise_82 (by first | assumption | exact zk_eq | exact zk_ne (by first | assumption | exact zk_eq | exact zk_ne (by first | assumption | exact zk_eq | exact zk_ne (by first | assumption | exact zk_eq | exact zk_ne (by first | assumption | exact zk_eq | exact zk_ne (by first | assumption | exact zk_eq) (by first | decide | omega)) (by first | decide | omega)) (by first | decide | omega)) (by first | decide | omega)) (by first | decide | omega)) (by first | rfl | assumption) (by first | assumption | omega | decide) (by first | decide | omega) ?_
    rw [hvy]
    refine z_iald C dX3_equalise_83 (by first | assumption | exact zk_eq | exact zk_ne (by first | assumption | exact zk_eq | exact zk_ne (by first | assumption | exact zk_eq | exact zk_ne (by first | assumption | exact zk_eq | exact zk_ne (by first | assumption | exact zk_eq | exact zk_ne (by first | assumption | exact zk_eq) (by first | decide | omega)) (by first | decide | omega)) (by first | decide | omega)) (by first | decide | omega)) (by first | decide | omega)) (by first | rfl | assumption) (by first | assumption | omega | decide) (by first | decide | omega) ?_
    rw [r5 9 (by decide)]
    refine z_icmp_ge C 109 dX3_equalise_84 (by decide) (fun c6 => ?_) (fun c6 => ?_)
    · exact fin (by simp only [insH]; rw [if_neg (Int32.not_lt.mpr c6)])
    · have c7 := Int32.not_le.mp c6
      refine z_aload_n C dX3_equalise_87 rfl ?_
      refine z_getf C zf_X3_63 dX3_equalise_88 (by first | assumption | exact zk_eq | exact zk_ne (by first | assumption | exact zk_eq | exact zk_ne (by first | assumption | exact zk_eq | exact zk_ne (by first | assumption | exact zk_eq | exact zk_ne (by first | assumption | exact zk_eq | exact zk_ne (by first | assumption | exact zk_eq) (by first | decide | omega)) (by first | decide | omega)) (by first | decide | omega)) (by first | decide | omega)) (by first | decide | omega)) (by rfl) ?_
      refine z_iload C dX3_equalise_91 rfl ?_
      refine z_aload_n C dX3_equalise_93 rfl ?_
      refine z_getf C zf_X3_63 dX3_equalise_94 (by first | assumption | exact zk_eq | exact zk_ne (by first | assumption | exact zk_eq | exact zk_ne (by first | assumption | exact zk_eq | exact zk_ne (by first | assumption | exact zk_eq | exact zk_ne (by first | assumption | exact zk_eq | exact zk_ne (by first | assumption | exact zk_eq) (by first | decide | omega)) (by first | decide | omega)) (by first | decide | omega)) (by first | decide | omega)) (by first | decide | omega)) (by rfl) ?_
      refine z_iload C dX3_equalise_97 rfl ?_
      refine z_iconst C (1) dX3_equalise_99 (by decide) ?_
      refine z_isub C dX3_equalise_100 ?_
      rw [show nI (A3.length + 1) - 1 = nI A3.length from nI_pred _]
      refine z_iald C dX3_equalise_101 (by first | assumption | exact zk_eq | exact zk_ne (by first | assumption | exact zk_eq | exact zk_ne (by first | assumption | exact zk_eq | exact zk_ne (by first | assumption | exact zk_eq | exact zk_ne (by first | assumption | exact zk_eq | exact zk_ne (by first | assumption | exact zk_eq) (by first | decide | omega)) (by first | decide | omega)) (by first | decide | omega)) (by first | decide | omega)) (by first | decide | omega)) (by first | rfl | assumption) (by first | assumption | omega | decide) (by first | decide | omega) ?_
      rw [hvy]
      refine z_iast C dX3_equalise_102 (by first | assumption | exact zk_eq | exact zk_ne (by first | assumption | exact zk_eq | exact zk_ne (by first | assumption | exact zk_eq | exact zk_ne (by first | assumption | exact zk_eq | exact zk_ne (by first | assumption | exact zk_eq | exact zk_ne (by first | assumption | exact zk_eq) (by first | decide | omega)) (by first | decide | omega)) (by first | decide | omega)) (by first | decide | omega)) (by first | decide | omega)) (by first | rfl | assumption) (by first | assumption | omega | decide) (by first | decide | omega) ?_
      refine z_iinc C (L1 := [_, _, _, _, _, _, _]) _ dX3_equalise_103 rfl (by first | exact zdec | rfl) rfl ?_
      refine z_goto C 53 dX3_equalise_106 (by decide) ?_
      have hY2 := hZ.arr 16 (va_up (gb 16) (A3.length + 1) (nI y))
      refine ih2 A3.length 0 0 _ _ (by rw [el]; omega) ⟨A3, y :: B, _, rfl, rfl, rfl, rfl, ?_, by omega, fun u hu => r3 u (List.mem_cons_of_mem _ hu), hY2, r5.scr (by decide) _, r6, ?_, ?_, r9.up (by decide) (by decide)⟩
      · rw [← r1]
        simp only [insH, c7, if_true, List.reverse_cons, List.append_assoc]
        rfl
      · intro j u hj
        have hjl : j < A3.length := by
          have := (List.getElem?_eq_some_iff.mp hj).1
          simpa using this
        rw [va_up_self, va_up_ne _ _ (by omega)]
        refine r7 j u ?_
        rw [List.reverse_cons, List.getElem?_append_left (by simpa using hjl)]
        exact hj
      · intro j u hj
        rw [va_up_self]
        cases j with
        | zero =>
          simp at hj
          rw [← hj]
          exact va_up_self _ _ _
        | succ j =>
          simp at hj
          rw [va_up_ne _ _ (by omega)]
          have := r8 j u hj
          rw [show A3.length + 1 + 1 + j = A3.length + 1 + (j + 1) by omega] at this
          exact this
end ZM10
