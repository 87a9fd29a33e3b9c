/-! HiringHallModel: replace -/
section ZM9
variable {l : Launch} {z : zT} {w : zW} {b0 : Nat} {M : zMO}
theorem q_replace (hl : l.stackTraces = false) (h : MM z b0 w M) (x : Int32) {c9 : Nat} (hc : M.2 17 = nI c9) (hc16 : c9 ≤ 16) (hbo : ∀ k : Nat, k < 30 → mOcc M.1 k = true → ∃ b : Nat, b < 4 ∧ M.1 1 k = nI b) : ZQ l z mX3_replace b0 [.int x] w (mReplace M x) := by
  obtain ⟨g, f⟩ := M
  obtain ⟨bd, g1, rfl, h, hA⟩ := h
  dsimp only at h hA hc hbo
  have hH := h
  obtain ⟨m20, m21, m22, m23, m24, m25, m26, m27, m28, m29, m30, m31, m32, m33, m34, m35, m36, m37, m38⟩ := h.all
  have e14 := hA 14 (by decide)
  refine zbody (M := mX3_replace) (L0 := [_, _, _, _, _, _]) hl (by simp [Value.category]) (Nat.le_of_ble_eq_true rfl) (by decide +kernel) rfl ?_
  intro p e s m args below meth c C hX hnm hret
  replace C : zC z p l s m args meth c cX3_replace RX3 6 := C
  replace hret : meth.sig.returnType = (some .int) := hret
  have bad : ¬ (mIn x 0 (f 17 - 1) = true ∧ g 14 x.toNatClampNeg = -1) → ZJ z p l e (zrm 3 0 0) s m args below meth c (vx_MQ below (zQc z (fun r w1 => r = some (.int (mReplace (g, f) x).1) ∧ MM z (bd 20) w1 (mReplace (g, f) x).2 ∧ zFm w w1)) (zXC z zNo) args s 0 0 (zA z)) 0 0 28 [some (.ref (bd 20)), some (.int x), none, none, none, none] [.int (zb (mIn x 0 (f 17 - 1))), .ref (bd 20)] w := by
    intro hno
    refine z_iconst C (0) dX3_replace_28 (by decide) ?_
    refine z_iconst C (1) dX3_replace_29 (by decide) ?_
    refine z_callV C zm_X3_goes zl_X3_91 (m_goes (a := mIn x 0 (f 17 - 1)) (b := false) (v := true) hl hH) dX3_replace_30 (by first | assumption | exact zk_eq | exact zk_ne (by first | assumption | exact zk_eq | exact zk_ne (by first | assumption | exact zk_eq | exact zk_ne (by first | assumption | exact zk_eq | exact zk_ne (by first | assumption | exact zk_eq | exact zk_ne (by first | assumption | exact zk_eq) (by first | decide | omega)) (by first | decide | omega)) (by first | decide | omega)) (by first | decide | omega)) (by first | decide | omega)) (by rfl) (by rfl) (by rfl) (by exact Nat.le_of_ble_eq_true rfl) rfl (by exact ⟨Nat.le_of_ble_eq_true rfl, Nat.le_of_ble_eq_true rfl⟩) (by first | exact ⟨Nat.le_of_ble_eq_true rfl, Nat.le_of_ble_eq_true rfl⟩ | (simp only [zrm]; omega)) (fun _ _ h => z_xno h) (fun r w2 hq => ?_)
    obtain ⟨rfl, g2, g3⟩ := hq
    cases hi : mIn x 0 (f 17 - 1) with
    | false =>
      rw [hi] at g2
      refine z_if_ne C 38 dX3_replace_33 (by decide) (fun c2 => ?_) (fun c2 => ?_)
      · exact absurd rfl c2
      · refine z_iconst C (0) dX3_replace_36 (by decide) ?_
        refine z_iret C hret dX3_replace_37 (by first | exact Nat.le_of_ble_eq_true rfl | omega) (by first | exact Nat.le_of_ble_eq_true rfl | omega) ?_
        exact ZQ.fin (M1 := (g, va_up f 25 1)) (by simp only [mReplace, hi, Bool.false_eq_true, if_false]) ⟨bd, g1, rfl, g2, hA⟩ g3
    | true =>
      rw [hi] at g2
      refine z_if_ne C 38 dX3_replace_33 (by decide) (fun c2 => ?_) (fun c2 => ?_)
      · exact absurd rfl c2
      · refine z_iconst C (0) dX3_replace_36 (by decide) ?_
        refine z_iret C hret dX3_replace_37 (by first | exact Nat.le_of_ble_eq_true rfl | omega) (by first | exact Nat.le_of_ble_eq_true rfl | omega) ?_
        exact ZQ.fin (M1 := (g, va_up f 25 2)) (by simp only [mReplace, hi, if_true, if_neg (fun h => hno ⟨hi, h⟩)]) ⟨bd, g1, rfl, g2, hA⟩ g3
  refine z_aload_n C dX3_replace_0 rfl ?_
  refine z_aload_n C dX3_replace_1 rfl ?_
  refine z_iload_n C dX3_replace_2 rfl ?_
  refine z_callV C zm_X3_isPlace zl_X3_147 (m_isPlace hl hH x) dX3_replace_3 (by first | assumption | exact zk_eq | exact zk_ne (by first | assumption | exact zk_eq | exact zk_ne (by first | assumption | exact zk_eq | exact zk_ne (by first | assumption | exact zk_eq | exact zk_ne (by first | assumption | exact zk_eq | exact zk_ne (by first | assumption | exact zk_eq) (by first | decide | omega)) (by first | decide | omega)) (by first | decide | omega)) (by first | decide | omega)) (by first | decide | omega)) (by rfl) (by rfl) (by rfl) (by exact Nat.le_of_ble_eq_true rfl) rfl (by exact ⟨Nat.le_of_ble_eq_true rfl, Nat.le_of_ble_eq_true rfl⟩) (by first | exact ⟨Nat.le_of_ble_eq_true rfl, Nat.le_of_ble_eq_true rfl⟩ | (simp only [zrm]; omega)) (fun _ _ h => z_xno h) (fun r wy hq => ?_)
  obtain ⟨rfl, rfl⟩ := hq
  refine z_aload_n C dX3_replace_6 rfl ?_
  refine z_iload_n C dX3_replace_7 rfl ?_
  refine z_callV C zm_X3_isPlace zl_X3_147 (m_isPlace hl hH x) dX3_replace_8 (by first | assumption | exact zk_eq | exact zk_ne (by first | assumption | exact zk_eq | exact zk_ne (by first | assumption | exact zk_eq | exact zk_ne (by first | assumption | exact zk_eq | exact zk_ne (by first | assumption | exact zk_eq | exact zk_ne (by first | assumption | exact zk_eq) (by first | decide | omega)) (by first | decide | omega)) (by first | decide | omega)) (by first | decide | omega)) (by first | decide | omega)) (by rfl) (by rfl) (by rfl) (by exact Nat.le_of_ble_eq_true rfl) rfl (by exact ⟨Nat.le_of_ble_eq_true rfl, Nat.le_of_ble_eq_true rfl⟩) (by first | exact ⟨Nat.le_of_ble_eq_true rfl, Nat.le_of_ble_eq_true rfl⟩ | (simp only [zrm]; omega)) (fun _ _ h => z_xno h) (fun r wz hq => ?_)
  obtain ⟨rfl, rfl⟩ := hq
  refine z_if_eq C 28 dX3_replace_11 (by decide) (fun c1 => ?_) (fun c1 => ?_)
  · have d1 : mIn x 0 (f 17 - 1) = false := zb_ff c1
    exact bad (fun h => by rw [d1] at h; exact absurd h.1 (by decide))
  have d1 : mIn x 0 (f 17 - 1) = true := zb_tt c1
  have d3 := d1
  simp only [mIn, Bool.and_eq_true, Bool.not_eq_true', decide_eq_false_iff_not] at d3
  obtain ⟨q, hq9, rfl⟩ : ∃ q : Nat, q < c9 ∧ x = nI q := by
    obtain ⟨j, hj, rfl⟩ := nI_of d3.1
    have h4 := Int32.not_lt.mp d3.2
    rw [hc] at h4
    cases c9 with
    | zero => exact absurd (Int32.le_trans (nI_pos' hj) h4) (by decide)
    | succ c9 =>
      rw [nI_pred] at h4
      have := (nI_leI hj (by omega)).mp h4
      exact ⟨j, by omega, rfl⟩
  have hcl : (nI q).toNatClampNeg = q := nI_clamp (by omega)
  refine z_aload_n C dX3_replace_14 rfl ?_
  refine z_getf C zf_X3_53 dX3_replace_15 (by first | assumption | exact zk_eq | exact zk_ne (by first | assumption | exact zk_eq | exact zk_ne (by first | assumption | exact zk_eq | exact zk_ne (by first | assumption | exact zk_eq | exact zk_ne (by first | assumption | exact zk_eq | exact zk_ne (by first | assumption | exact zk_eq) (by first | decide | omega)) (by first | decide | omega)) (by first | decide | omega)) (by first | decide | omega)) (by first | decide | omega)) (by rfl) ?_
  refine z_iload_n C dX3_replace_18 rfl ?_
  refine z_iald C dX3_replace_19 (by first | assumption | exact zk_eq | exact zk_ne (by first | assumption | exact zk_eq | exact zk_ne (by first | assumption | exact zk_eq | exact zk_ne (by first | assumption | exact zk_eq | exact zk_ne (by first | assumption | exact zk_eq | exact zk_ne (by first | assumption | exact zk_eq) (by first | decide | omega)) (by first | decide | omega)) (by first | decide | omega)) (by first | decide | omega)) (by first | decide | omega)) (by first | rfl | assumption) (by first | assumption | omega | decide) (by first | decide | omega) ?_
  refine z_iconst C (-1) dX3_replace_20 (by decide) ?_
  rw [e14]
  refine z_icmp_ne C 28 dX3_replace_21 (by decide) (fun c3 => ?_) (fun c3 => ?_)
  · exact bad (fun h => c3 (by rw [hcl] at h; exact h.2))
  refine z_iconst C (1) dX3_replace_24 (by decide) ?_
  refine z_goto C 29 dX3_replace_25 (by decide) ?_
  refine z_iconst C (1) dX3_replace_29 (by decide) ?_
  refine z_callV C zm_X3_goes zl_X3_91 (m_goes (a := mIn (nI q) 0 (f 17 - 1)) (b := true) (v := true) hl hH) dX3_replace_30 (by first | assumption | exact zk_eq | exact zk_ne (by first | assumption | exact zk_eq | exact zk_ne (by first | assumption | exact zk_eq | exact zk_ne (by first | assumption | exact zk_eq | exact zk_ne (by first | assumption | exact zk_eq | exact zk_ne (by first | assumption | exact zk_eq) (by first | decide | omega)) (by first | decide | omega)) (by first | decide | omega)) (by first | decide | omega)) (by first | decide | omega)) (by rfl) (by rfl) (by rfl) (by exact Nat.le_of_ble_eq_true rfl) rfl (by exact ⟨Nat.le_of_ble_eq_true rfl, Nat.le_of_ble_eq_true rfl⟩) (by first | exact ⟨Nat.le_of_ble_eq_true rfl, Nat.le_of_ble_eq_true rfl⟩ | (simp only [zrm]; omega)) (fun _ _ h => z_xno h) (fun r w2 hq => ?_)
  obtain ⟨rfl, g2, g3⟩ := hq
  rw [d1] at g2
  have hX : MP z bd g1 (va_up f 25 0) w2 := g2
  obtain ⟨m20, m21, m22, m23, m24, m25, m26, m27, m28, m29, m30, m31, m32, m33, m34, m35, m36, m37, m38⟩ := g2.all
  refine z_if_ne C 38 dX3_replace_33 (by decide) (fun c4 => ?_) (fun c4 => ?_)
  rotate_left
  · exact absurd (zb_ff c4) (by rw [d1]; decide)
  refine z_aload_n C dX3_replace_38 rfl ?_
  refine z_callV C zm_X3_lineUp zl_X3_106 (m_lineUp hl hX) dX3_replace_39 (by first | assumption | exact zk_eq | exact zk_ne (by first | assumption | exact zk_eq | exact zk_ne (by first | assumption | exact zk_eq | exact zk_ne (by first | assumption | exact zk_eq | exact zk_ne (by first | assumption | exact zk_eq | exact zk_ne (by first | assumption | exact zk_eq) (by first | decide | omega)) (by first | decide | omega)) (by first | decide | omega)) (by first | decide | omega)) (by first | decide | omega)) (by rfl) (by rfl) (by rfl) (by exact Nat.le_of_ble_eq_true rfl) rfl (by exact ⟨Nat.le_of_ble_eq_true rfl, Nat.le_of_ble_eq_true rfl⟩) (by first | exact ⟨Nat.le_of_ble_eq_true rfl, Nat.le_of_ble_eq_true rfl⟩ | (simp only [zrm]; omega)) (fun _ _ h => z_xno h) (fun r w4 hq => ?_)
  obtain ⟨rfl, ⟨v, g4, g5⟩, g6⟩ := hq
  rw [show mLine g1 = mLine g by rw [mLine, hA.lin]] at g5 ⊢
  have hLl := mLin_len (g := g)
  have hLm := mLin_lt (g := g)
  have hsp : mReplace (g, f) (nI q) = mRpl q (mLine g) g (va_up f 25 0) := by simp only [mReplace, d1, if_true, hcl, if_pos c3]
  generalize mLine g = LL at hsp hLl hLm g5 ⊢
  have hA2 : mAg (va_up g1 15 v) g := hA.scr (by decide) v
  refine z_istore_n C (L1 := [_, _, _, _, _, _]) dX3_replace_42 (Nat.le_of_ble_eq_true rfl) rfl ?_
  refine z_iconst C (0) dX3_replace_43 (by decide) ?_
  refine z_istore_n C (L1 := [_, _, _, _, _, _]) dX3_replace_44 (Nat.le_of_ble_eq_true rfl) rfl ?_
  refine z_loop (fun n cs ss L w5 => ∃ (i : Nat) (ga gb : Nat → Nat → Int32) (fb : Nat → Int32), n = LL.length - i ∧ cs = 0 ∧ ss = 0 ∧ L = [some (.ref (bd 20)), some (.int (nI q)), some (.int (nI LL.length)), some (.int (nI i)), none, none] ∧ i ≤ LL.length ∧ MP z bd ga fb w5 ∧ mAg ga gb ∧ zIs (ga 15) LL ∧ mRpl q (LL.drop i) gb fb = mRpl q LL g (va_up f 25 0) ∧ zFm wz w5 ∧ (∀ k : Nat, k ≠ 10 → k ≠ 2 → gb k = g k))
    ⟨0, _, g, va_up f 25 0, rfl, rfl, rfl, rfl, Nat.zero_le _, g4, hA2, g5, rfl, g3.tr g6, fun _ _ _ => rfl⟩ ?_
  rintro n cs ss L w5 ⟨i, ga, gb, fb, rfl, rfl, rfl, rfl, q1, q4, q5, q6, q9, q10, q11⟩ ih
  have hY := q4
  obtain ⟨m20, m21, m22, m23, m24, m25, m26, m27, m28, m29, m30, m31, m32, m33, m34, m35, m36, m37, m38⟩ := q4.all
  refine z_iload_n C dX3_replace_45 rfl ?_
  refine z_iload_n C dX3_replace_46 rfl ?_
  refine z_icmp_ge C 150 dX3_replace_47 (by decide) (fun c5 => ?_) (fun c5 => ?_)
  · have hi2 := ge_of_ge (by omega) (by omega) c5
    rw [List.drop_eq_nil_of_le hi2] at q9
    refine z_iconst C (-1) dX3_replace_150 (by decide) ?_
    refine z_iret C hret dX3_replace_151 (by first | exact Nat.le_of_ble_eq_true rfl | omega) (by first | exact Nat.le_of_ble_eq_true rfl | omega) ?_
    exact ZQ.fin (o := mReplace (g, f) (nI q)) (M1 := (gb, fb)) (by rw [hsp, ← q9]; rfl) ⟨bd, ga, rfl, hY, q5⟩ q10
  have hi2 : i < LL.length := lt_of_nge (by omega) (by omega) c5
  rw [List.drop_eq_getElem_cons hi2] at q9
  simp only [mRpl] at q9
  obtain ⟨hk30, hoc⟩ := hLm _ (List.getElem_mem hi2)
  have ht : ga 15 i = nI LL[i] := q6.get hi2
  have e5 := q5 5 (by decide)
  have skip : ∀ (gc gd : Nat → Nat → Int32) (fd : Nat → Int32) (w6 : zW) (x4 x5 : Option Value), MP z bd gc fd w6 → mAg gc gd → zIs (gc 15) LL → zFm wz w6 → mRpl q (LL.drop (i + 1)) gd fd = mRpl q LL g (va_up f 25 0) → (∀ k : Nat, k ≠ 10 → k ≠ 2 → gd k = g k) → ZJ z p l e (zrm 3 0 0) s m args below meth c (vx_MQ below (zQc z (fun r w1 => r = some (.int (mReplace (g, f) (nI q)).1) ∧ MM z (bd 20) w1 (mReplace (g, f) (nI q)).2 ∧ zFm wz w1)) (zXC z zNo) args s 0 0 (zA z)) 0 0 144 [some (.ref (bd 20)), some (.int (nI q)), some (.int (nI LL.length)), some (.int (nI i)), x4, x5] [] w6 := by
    intro gc gd fd w6 x4 x5 s1 s2 s3 s6 s7 s8
    refine z_iinc C (L1 := [_, _, _, _, _, _]) _ dX3_replace_144 rfl (by first | exact zinc | rfl) rfl ?_
    refine z_goto C 45 dX3_replace_147 (by decide) ?_
    exact z_fgt (ih (LL.length - (i + 1)) 0 0 [some (.ref (bd 20)), some (.int (nI q)), some (.int (nI LL.length)), some (.int (nI (i + 1))), none, none] _ (by omega) ⟨i + 1, gc, gd, fd, rfl, rfl, rfl, rfl, hi2, s1, s2, s3, s7, s6, s8⟩) (by simp [zle])
  have nofit : mRpl q (LL.drop (i + 1)) gb fb = mRpl q LL g (va_up f 25 0) → ZJ z p l e (zrm 3 0 0) s m args below meth c (vx_MQ below (zQc z (fun r w1 => r = some (.int (mReplace (g, f) (nI q)).1) ∧ MM z (bd 20) w1 (mReplace (g, f) (nI q)).2 ∧ zFm wz w1)) (zXC z zNo) args s 0 0 (zA z)) 0 0 91 [some (.ref (bd 20)), some (.int (nI q)), some (.int (nI LL.length)), some (.int (nI i)), some (.int (nI LL[i])), none] [] w5 := by
    intro s1
    refine z_iconst C (0) dX3_replace_91 (by decide) ?_
    refine z_istore C (L1 := [_, _, _, _, _, _]) dX3_replace_92 (Nat.le_of_ble_eq_true rfl) rfl ?_
    refine z_iload C dX3_replace_94 rfl ?_
    refine z_if_eq C 118 dX3_replace_96 (by decide) (fun c6 => ?_) (fun c6 => ?_)
    · refine z_iload C dX3_replace_118 rfl ?_
      refine z_if_eq C 144 dX3_replace_120 (by decide) (fun c7 => ?_) (fun c7 => ?_)
      · exact skip ga gb fb _ _ _ hY q5 q6 q10 s1 q11
      · exact absurd rfl c7
    · exact absurd rfl c6
  refine z_aload_n C dX3_replace_50 rfl ?_
  refine z_getf C zf_X3_60 dX3_replace_51 (by first | assumption | exact zk_eq | exact zk_ne (by first | assumption | exact zk_eq | exact zk_ne (by first | assumption | exact zk_eq | exact zk_ne (by first | assumption | exact zk_eq | exact zk_ne (by first | assumption | exact zk_eq | exact zk_ne (by first | assumption | exact zk_eq) (by first | decide | omega)) (by first | decide | omega)) (by first | decide | omega)) (by first | decide | omega)) (by first | decide | omega)) (by rfl) ?_
  refine z_iload_n C dX3_replace_54 rfl ?_
  refine z_iald C dX3_replace_55 (by first | assumption | exact zk_eq | exact zk_ne (by first | assumption | exact zk_eq | exact zk_ne (by first | assumption | exact zk_eq | exact zk_ne (by first | assumption | exact zk_eq | exact zk_ne (by first | assumption | exact zk_eq | exact zk_ne (by first | assumption | exact zk_eq) (by first | decide | omega)) (by first | decide | omega)) (by first | decide | omega)) (by first | decide | omega)) (by first | decide | omega)) (by first | rfl | assumption) (by first | assumption | omega | decide) (by first | decide | omega) ?_
  rw [ht]
  refine z_istore C (L1 := [_, _, _, _, _, _]) dX3_replace_56 (Nat.le_of_ble_eq_true rfl) rfl ?_
  refine z_aload_n C dX3_replace_58 rfl ?_
  refine z_iload C dX3_replace_59 rfl ?_
  refine z_callV C zm_X3_isReady zl_X3_132 (m_isReady hl hY hk30) dX3_replace_61 (by first | assumption | exact zk_eq | exact zk_ne (by first | assumption | exact zk_eq | exact zk_ne (by first | assumption | exact zk_eq | exact zk_ne (by first | assumption | exact zk_eq | exact zk_ne (by first | assumption | exact zk_eq | exact zk_ne (by first | assumption | exact zk_eq) (by first | decide | omega)) (by first | decide | omega)) (by first | decide | omega)) (by first | decide | omega)) (by first | decide | omega)) (by rfl) (by rfl) (by rfl) (by exact Nat.le_of_ble_eq_true rfl) rfl (by exact ⟨Nat.le_of_ble_eq_true rfl, Nat.le_of_ble_eq_true rfl⟩) (by first | exact ⟨Nat.le_of_ble_eq_true rfl, Nat.le_of_ble_eq_true rfl⟩ | (simp only [zrm]; omega)) (fun _ _ h => z_xno h) (fun r w6 hq => ?_)
  obtain ⟨rfl, rfl⟩ := hq
  rw [q5.rdy]
  refine z_if_eq C 91 dX3_replace_64 (by decide) (fun c6 => ?_) (fun c6 => ?_)
  · have c7 := zb_ff c6
    rw [if_neg (by simp [c7])] at q9
    exact nofit q9
  have c7 := zb_tt c6
  refine z_aload_n C dX3_replace_67 rfl ?_
  refine z_getf C zf_X3_19 dX3_replace_68 (by first | assumption | exact zk_eq | exact zk_ne (by first | assumption | exact zk_eq | exact zk_ne (by first | assumption | exact zk_eq | exact zk_ne (by first | assumption | exact zk_eq | exact zk_ne (by first | assumption | exact zk_eq | exact zk_ne (by first | assumption | exact zk_eq) (by first | decide | omega)) (by first | decide | omega)) (by first | decide | omega)) (by first | decide | omega)) (by first | decide | omega)) (by rfl) ?_
  refine z_iload C dX3_replace_71 rfl ?_
  refine z_iald C dX3_replace_73 (by first | assumption | exact zk_eq | exact zk_ne (by first | assumption | exact zk_eq | exact zk_ne (by first | assumption | exact zk_eq | exact zk_ne (by first | assumption | exact zk_eq | exact zk_ne (by first | assumption | exact zk_eq | exact zk_ne (by first | assumption | exact zk_eq) (by first | decide | omega)) (by first | decide | omega)) (by first | decide | omega)) (by first | decide | omega)) (by first | decide | omega)) (by first | rfl | assumption) (by first | assumption | omega | decide) (by first | decide | omega) ?_
  refine z_aload_n C dX3_replace_74 rfl ?_
  refine z_getf C zf_X3_50 dX3_replace_75 (by first | assumption | exact zk_eq | exact zk_ne (by first | assumption | exact zk_eq | exact zk_ne (by first | assumption | exact zk_eq | exact zk_ne (by first | assumption | exact zk_eq | exact zk_ne (by first | assumption | exact zk_eq | exact zk_ne (by first | assumption | exact zk_eq) (by first | decide | omega)) (by first | decide | omega)) (by first | decide | omega)) (by first | decide | omega)) (by first | decide | omega)) (by rfl) ?_
  refine z_iload_n C dX3_replace_78 rfl ?_
  refine z_iald C dX3_replace_79 (by first | assumption | exact zk_eq | exact zk_ne (by first | assumption | exact zk_eq | exact zk_ne (by first | assumption | exact zk_eq | exact zk_ne (by first | assumption | exact zk_eq | exact zk_ne (by first | assumption | exact zk_eq | exact zk_ne (by first | assumption | exact zk_eq) (by first | decide | omega)) (by first | decide | omega)) (by first | decide | omega)) (by first | decide | omega)) (by first | decide | omega)) (by first | rfl | assumption) (by first | assumption | omega | decide) (by first | decide | omega) ?_
  refine z_ishr C dX3_replace_80 ?_
  refine z_iconst C (1) dX3_replace_81 (by decide) ?_
  refine z_iand C dX3_replace_82 ?_
  refine z_iconst C (1) dX3_replace_83 (by decide) ?_
  rw [q5 3 (by decide), q5 13 (by decide)]
  refine z_icmp_ne C 91 dX3_replace_84 (by decide) (fun c8 => ?_) (fun c8 => ?_)
  · rw [if_neg (fun h => c8 (of_decide_eq_true h.2))] at q9
    exact nofit q9
  have c9' : skl (gb 3 LL[i]) (gb 13 q) = true := decide_eq_true c8
  rw [if_pos ⟨c7, c9'⟩] at q9
  refine z_iconst C (1) dX3_replace_87 (by decide) ?_
  refine z_goto C 92 dX3_replace_88 (by decide) ?_
  refine z_istore C (L1 := [_, _, _, _, _, _]) dX3_replace_92 (Nat.le_of_ble_eq_true rfl) rfl ?_
  refine z_iload C dX3_replace_94 rfl ?_
  refine z_if_eq C 118 dX3_replace_96 (by decide) (fun c10 => ?_) (fun c10 => ?_)
  · exact absurd c10 (by decide)
  refine z_aload_n C dX3_replace_99 rfl ?_
  refine z_getf C zf_X3_26 dX3_replace_100 (by first | assumption | exact zk_eq | exact zk_ne (by first | assumption | exact zk_eq | exact zk_ne (by first | assumption | exact zk_eq | exact zk_ne (by first | assumption | exact zk_eq | exact zk_ne (by first | assumption | exact zk_eq | exact zk_ne (by first | assumption | exact zk_eq) (by first | decide | omega)) (by first | decide | omega)) (by first | decide | omega)) (by first | decide | omega)) (by first | decide | omega)) (by rfl) ?_
  refine z_iload C dX3_replace_103 rfl ?_
  refine z_zald C dX3_replace_105 (by first | assumption | exact zk_eq | exact zk_ne (by first | assumption | exact zk_eq | exact zk_ne (by first | assumption | exact zk_eq | exact zk_ne (by first | assumption | exact zk_eq | exact zk_ne (by first | assumption | exact zk_eq | exact zk_ne (by first | assumption | exact zk_eq) (by first | decide | omega)) (by first | decide | omega)) (by first | decide | omega)) (by first | decide | omega)) (by first | decide | omega)) (by first | rfl | assumption) (by first | assumption | omega | decide) (by first | decide | omega) ?_
  rw [e5]
  refine z_if_eq C 118 dX3_replace_106 (by decide) (fun c11 => ?_) (fun c11 => ?_)
  · rw [if_pos c11] at q9
    refine z_iload C dX3_replace_118 rfl ?_
    refine z_if_eq C 144 dX3_replace_120 (by decide) (fun c12 => ?_) (fun c12 => ?_)
    · exact absurd c12 (by decide)
    refine z_aload_n C dX3_replace_123 rfl ?_
    refine z_iload C dX3_replace_124 rfl ?_
    refine z_iload_n C dX3_replace_126 rfl ?_
    refine z_callV C zm_X3_fills zl_X3_125 (m_fills (k := LL[i]) (x := q) hl hY hk30 (by omega)) dX3_replace_127 (by first | assumption | exact zk_eq | exact zk_ne (by first | assumption | exact zk_eq | exact zk_ne (by first | assumption | exact zk_eq | exact zk_ne (by first | assumption | exact zk_eq | exact zk_ne (by first | assumption | exact zk_eq | exact zk_ne (by first | assumption | exact zk_eq) (by first | decide | omega)) (by first | decide | omega)) (by first | decide | omega)) (by first | decide | omega)) (by first | decide | omega)) (by rfl) (by rfl) (by rfl) (by exact Nat.le_of_ble_eq_true rfl) rfl (by exact ⟨Nat.le_of_ble_eq_true rfl, Nat.le_of_ble_eq_true rfl⟩) (by first | exact ⟨Nat.le_of_ble_eq_true rfl, Nat.le_of_ble_eq_true rfl⟩ | (simp only [zrm]; omega)) (fun _ _ h => z_xno h) (fun r w7 hq => ?_)
    obtain ⟨rfl, t1, t2⟩ := hq
    have hZ := t1
    obtain ⟨m20, m21, m22, m23, m24, m25, m26, m27, m28, m29, m30, m31, m32, m33, m34, m35, m36, m37, m38⟩ := t1.all
    refine z_aload_n C dX3_replace_130 rfl ?_
    refine z_iload C dX3_replace_131 rfl ?_
    refine z_callV C zm_X3_lowers zl_X3_98 (m_lowers hl hZ hk30) dX3_replace_133 (by first | assumption | exact zk_eq | exact zk_ne (by first | assumption | exact zk_eq | exact zk_ne (by first | assumption | exact zk_eq | exact zk_ne (by first | assumption | exact zk_eq | exact zk_ne (by first | assumption | exact zk_eq | exact zk_ne (by first | assumption | exact zk_eq) (by first | decide | omega)) (by first | decide | omega)) (by first | decide | omega)) (by first | decide | omega)) (by first | decide | omega)) (by rfl) (by rfl) (by rfl) (by exact Nat.le_of_ble_eq_true rfl) rfl (by exact ⟨Nat.le_of_ble_eq_true rfl, Nat.le_of_ble_eq_true rfl⟩) (by first | exact ⟨Nat.le_of_ble_eq_true rfl, Nat.le_of_ble_eq_true rfl⟩ | (simp only [zrm]; omega)) (fun _ _ h => z_xno h) (fun r w8 hq => ?_)
    obtain ⟨rfl, t3, t4⟩ := hq
    have hV := t3
    obtain ⟨m20, m21, m22, m23, m24, m25, m26, m27, m28, m29, m30, m31, m32, m33, m34, m35, m36, m37, m38⟩ := t3.all
    refine z_aload_n C dX3_replace_136 rfl ?_
    refine z_getf C zf_X3_7 dX3_replace_137 (by first | assumption | exact zk_eq | exact zk_ne (by first | assumption | exact zk_eq | exact zk_ne (by first | assumption | exact zk_eq | exact zk_ne (by first | assumption | exact zk_eq | exact zk_ne (by first | assumption | exact zk_eq | exact zk_ne (by first | assumption | exact zk_eq) (by first | decide | omega)) (by first | decide | omega)) (by first | decide | omega)) (by first | decide | omega)) (by first | decide | omega)) (by rfl) ?_
    refine z_iload C dX3_replace_140 rfl ?_
    refine z_iald C dX3_replace_142 (by first | assumption | exact zk_eq | exact zk_ne (by first | assumption | exact zk_eq | exact zk_ne (by first | assumption | exact zk_eq | exact zk_ne (by first | assumption | exact zk_eq | exact zk_ne (by first | assumption | exact zk_eq | exact zk_ne (by first | assumption | exact zk_eq) (by first | decide | omega)) (by first | decide | omega)) (by first | decide | omega)) (by first | decide | omega)) (by first | decide | omega)) (by first | rfl | assumption) (by first | assumption | omega | decide) (by first | decide | omega) ?_
    refine z_iret C hret dX3_replace_143 (by first | exact Nat.le_of_ble_eq_true rfl | omega) (by first | exact Nat.le_of_ble_eq_true rfl | omega) ?_
    refine ZQ.fin (o := mReplace (g, f) (nI q)) (M1 := (mLow (mFiG gb fb LL[i] q) (mFiF fb) LL[i], mLoF (mFiF fb))) ?_ ⟨bd, _, rfl, hV, (q5.fi (f := fb) (n := LL[i]) (p := q)).low⟩ ((q10.tr t2).tr t4)
    rw [hsp, ← q9]
    show _ = (ga 0 LL[i], _)
    rw [q5 0 (by decide)]
  · rw [if_neg c11] at q9
    obtain ⟨b, hb4, hb⟩ := hbo _ hk30 hoc
    refine z_aload_n C dX3_replace_109 rfl ?_
    refine z_iload C dX3_replace_110 rfl ?_
    refine z_callV C zm_X3_refuses zl_X3_135 (m_refuses (b := b) hl hY hk30 (by rw [q5 1 (by decide), q11 1 (by decide) (by decide)]; exact hb) hb4) dX3_replace_112 (by first | assumption | exact zk_eq | exact zk_ne (by first | assumption | exact zk_eq | exact zk_ne (by first | assumption | exact zk_eq | exact zk_ne (by first | assumption | exact zk_eq | exact zk_ne (by first | assumption | exact zk_eq | exact zk_ne (by first | assumption | exact zk_eq) (by first | decide | omega)) (by first | decide | omega)) (by first | decide | omega)) (by first | decide | omega)) (by first | decide | omega)) (by rfl) (by rfl) (by rfl) (by exact Nat.le_of_ble_eq_true rfl) rfl (by exact ⟨Nat.le_of_ble_eq_true rfl, Nat.le_of_ble_eq_true rfl⟩) (by first | exact ⟨Nat.le_of_ble_eq_true rfl, Nat.le_of_ble_eq_true rfl⟩ | (simp only [zrm]; omega)) (fun _ _ h => z_xno h) (fun r w8 hq => ?_)
    obtain ⟨rfl, t1, t2⟩ := hq
    refine z_goto C 144 dX3_replace_115 (by decide) ?_
    have hre := q5.re (f := fb) (n := LL[i])
    have k15 : mReG ga fb LL[i] 15 = ga 15 := mReG_same (by decide) (by decide)
    rw [hre.2] at t1
    exact skip _ (mReG gb fb LL[i]) (mReF gb fb LL[i]) _ _ _ t1 hre.1 (by rw [k15]; exact q6) (q10.tr t2) q9 (fun k h10 h2 => (mReG_same h10 h2).trans (q11 k h10 h2))
end ZM9
