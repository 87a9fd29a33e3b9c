/-! HiringHallModel: dispatch -/
section ZM8
variable {l : Launch} {z : zT} {w : zW} {b0 : Nat} {M : zMO}
theorem q_dispatch (hl : l.stackTraces = false) (h : MM z b0 w M) {c9 : Nat} (hc : M.2 17 = nI c9) (hc16 : c9 ≤ 16) (hn : ∀ i : Nat, i < c9 → ∃ j : Nat, j < 5 ∧ M.1 13 i = nI j) (hbo : ∀ k : Nat, k < 30 → mOcc M.1 k = true → ∃ b : Nat, b < 4 ∧ M.1 1 k = nI b) : ZQ l z mX3_dispatch b0 [] w (mDispatch M) := by
  obtain ⟨g, f⟩ := M
  obtain ⟨bd, g1, rfl, h, hA⟩ := h
  dsimp only at h hA hc hn hbo
  have hH := h
  obtain ⟨m20, m21, m22, m23, m24, m25, m26, m27, m28, m29, m30, m31, m32, m33, m34, m35, m36, m37, m38⟩ := h.all
  have h2 := hH.obj (va_up f 25 0)
  have hcl : (f 17).toNatClampNeg = c9 := by rw [hc, nI_clamp (by omega)]
  have hsp : mTi (g, f) = mTit (mOpn g c9) (mLine g) g (va_up f 25 0) [] := by simp only [mTi, hcl]
  have hsg : mGi (g, f) = mGiv c9 (mTi (g, f)).2.2 (mTi (g, f)).1 (mTi (g, f)).2.1 (mOpn g c9) := by simp only [mGi, hcl]
  have hPs := mOpn_sk c9 hn
  have hP16 : (mOpn g c9).length ≤ 16 := Nat.le_trans (mOpn_len _) hc16
  have hLl := mLin_len (g := g)
  have hLm := mLin_lt (g := g)
  refine zbody (M := mX3_dispatch) (L0 := [_, _, _, _, _]) hl (by simp [Value.category]) (Nat.le_of_ble_eq_true rfl) (by decide +kernel) rfl ?_
  intro p e s m args below meth c C hX hnm hret
  replace C : zC z p l s m args meth c cX3_dispatch RX3 5 := C
  replace hret : meth.sig.returnType = (some .int) := hret
  refine z_aload_n C dX3_dispatch_0 rfl ?_
  refine z_iconst C (0) dX3_dispatch_1 (by decide) ?_
  refine z_putf C (fs1 := [_, _, _, _, _, _, _, _, _, _, _, _, _, _, _, _, _, _, _, _, _, _, _, _, _, _]) zp_X3_69 dX3_dispatch_2 (by first | assumption | exact zk_eq | exact zk_ne (by first | assumption | exact zk_eq | exact zk_ne (by first | assumption | exact zk_eq | exact zk_ne (by first | assumption | exact zk_eq | exact zk_ne (by first | assumption | exact zk_eq | exact zk_ne (by first | assumption | exact zk_eq) (by first | decide | omega)) (by first | decide | omega)) (by first | decide | omega)) (by first | decide | omega)) (by first | decide | omega)) (by first | rfl | exact zb_nar _ | assumption) (by first | rfl | exact zb_fit _ | assumption) (by exact Nat.le_of_ble_eq_true rfl) (by rfl) ?_
  refine z_aload_n C dX3_dispatch_5 rfl ?_
  refine z_callV C zm_X3_lineUp zl_X3_106 (m_lineUp hl h2) dX3_dispatch_6 (by first | assumption | exact zk_eq | exact zk_ne (by first | assumption | exact zk_eq | exact zk_ne (by first | assumption | exact zk_eq | exact zk_ne (by first | assumption | exact zk_eq | exact zk_ne (by first | assumption | exact zk_eq | exact zk_ne (by first | assumption | exact zk_eq) (by first | decide | omega)) (by first | decide | omega)) (by first | decide | omega)) (by first | decide | omega)) (by first | decide | omega)) (by rfl) (by rfl) (by rfl) (by exact Nat.le_of_ble_eq_true rfl) rfl (by exact ⟨Nat.le_of_ble_eq_true rfl, Nat.le_of_ble_eq_true rfl⟩) (by first | exact ⟨Nat.le_of_ble_eq_true rfl, Nat.le_of_ble_eq_true rfl⟩ | (simp only [zrm]; omega)) (fun _ _ h => z_xno h) (fun r w3 hq => ?_)
  obtain ⟨rfl, ⟨v, g2, g3⟩, g4⟩ := hq
  rw [show mLine g1 = mLine g by rw [mLine, hA.lin]] at g3 ⊢
  generalize mLine g = LL at hsp hLl hLm g3 ⊢
  have hX := g2
  have m20' := g2.1
  have hA2 : mAg (va_up g1 15 v) g := hA.scr (by decide) v
  refine z_istore_n C (L1 := [_, _, _, _, _]) dX3_dispatch_9 (Nat.le_of_ble_eq_true rfl) rfl ?_
  refine z_iconst C (0) dX3_dispatch_10 (by decide) ?_
  refine z_istore_n C (L1 := [_, _, _, _, _]) dX3_dispatch_11 (Nat.le_of_ble_eq_true rfl) rfl ?_
  refine z_aload_n C dX3_dispatch_12 rfl ?_
  refine z_callV C zm_X3_countOpen zl_X3_129 (m_countOpen (c9 := c9) hl hX hc hc16 (fun i hi => by rw [hA2 13 (by decide)]; exact hn i hi)) dX3_dispatch_13 (by first | assumption | exact zk_eq | exact zk_ne (by first | assumption | exact zk_eq | exact zk_ne (by first | assumption | exact zk_eq | exact zk_ne (by first | assumption | exact zk_eq | exact zk_ne (by first | assumption | exact zk_eq | exact zk_ne (by first | assumption | exact zk_eq) (by first | decide | omega)) (by first | decide | omega)) (by first | decide | omega)) (by first | decide | omega)) (by first | decide | omega)) (by rfl) (by rfl) (by rfl) (by exact Nat.le_of_ble_eq_true rfl) rfl (by exact ⟨Nat.le_of_ble_eq_true rfl, Nat.le_of_ble_eq_true rfl⟩) (by first | exact ⟨Nat.le_of_ble_eq_true rfl, Nat.le_of_ble_eq_true rfl⟩ | (simp only [zrm]; omega)) (fun _ _ h => z_xno h) (fun r w4 hq => ?_)
  obtain ⟨rfl, ⟨v2, g5, g6⟩, g7⟩ := hq
  rw [hA2.opn] at g6
  refine z_iconst C (0) dX3_dispatch_16 (by decide) ?_
  refine z_istore_n C (L1 := [_, _, _, _, _]) dX3_dispatch_17 (Nat.le_of_ble_eq_true rfl) rfl ?_
  refine z_loop (fun n cs ss L w5 => ∃ (i : Nat) (T : List Nat) (ga gb : Nat → Nat → Int32) (fb : Nat → Int32), n = LL.length - i ∧ cs = 0 ∧ ss = 0 ∧ L = [some (.ref (bd 20)), some (.int (nI LL.length)), some (.int (nI T.length)), some (.int (nI i)), none] ∧ i ≤ LL.length ∧ T.length ≤ i ∧ (∀ x ∈ T, x < 30) ∧ MP z bd ga fb w5 ∧ mAg ga gb ∧ zIs (ga 15) LL ∧ zIs (ga 16) T ∧ zOp (ga 17) (mOpn g c9) ∧ mTit (mOpn g c9) (LL.drop i) gb fb T = mTit (mOpn g c9) LL g (va_up f 25 0) [] ∧ zFm w w5 ∧ (∀ k : Nat, k ≠ 10 → k ≠ 2 → gb k = g k) ∧ fb 17 = nI c9)
    ⟨0, [], _, g, va_up f 25 0, rfl, rfl, rfl, rfl, Nat.zero_le _, Nat.le_refl _, fun x hx => absurd hx List.not_mem_nil, g5, hA2.scr (by decide) v2, g3, fun j x hj => by simp at hj, g6, rfl, (((zFm.refl w).up (by decide) (by decide)).tr g4).tr g7, fun _ _ _ => rfl, hc⟩ ?_
  rintro n cs ss L w5 ⟨i, T, ga, gb, fb, rfl, rfl, rfl, rfl, q1, q2, q3, q4, q5, q6, q7, q8, q9, q10, q11, q12⟩ ih
  have hY := q4
  obtain ⟨m20, m21, m22, m23, m24, m25, m26, m27, m28, m29, m30, m31, m32, m33, m34, m35, m36, m37, m38⟩ := q4.all
  refine z_iload_n C dX3_dispatch_18 rfl ?_
  refine z_iload_n C dX3_dispatch_19 rfl ?_
  refine z_icmp_ge C 109 dX3_dispatch_20 (by decide) (fun c1 => ?_) (fun c1 => ?_)
  · have hi2 := ge_of_ge (by omega) (by omega) c1
    rw [List.drop_eq_nil_of_le hi2] at q9
    simp only [mTit] at q9
    refine z_aload_n C dX3_dispatch_109 rfl ?_
    refine z_iload_n C dX3_dispatch_110 rfl ?_
    refine z_callV C zm_X3_gives zl_X3_138 (m_gives (T := T) (P := mOpn g c9) (c9 := c9) hl hY q5 q12 hc16 (fun i hi => by rw [q11 13 (by decide) (by decide)]; exact hn i hi) q7 q3 (by omega) q8 (by rw [mOpn_of q11])) dX3_dispatch_111 (by first | assumption | exact zk_eq | exact zk_ne (by first | assumption | exact zk_eq | exact zk_ne (by first | assumption | exact zk_eq | exact zk_ne (by first | assumption | exact zk_eq | exact zk_ne (by first | assumption | exact zk_eq | exact zk_ne (by first | assumption | exact zk_eq) (by first | decide | omega)) (by first | decide | omega)) (by first | decide | omega)) (by first | decide | omega)) (by first | decide | omega)) (by rfl) (by rfl) (by rfl) (by exact Nat.le_of_ble_eq_true rfl) rfl (by exact ⟨Nat.le_of_ble_eq_true rfl, Nat.le_of_ble_eq_true rfl⟩) (by first | exact ⟨Nat.le_of_ble_eq_true rfl, Nat.le_of_ble_eq_true rfl⟩ | (simp only [zrm]; omega)) (fun _ _ h => z_xno h) (fun r w7 hq => ?_)
    obtain ⟨rfl, ⟨g9, e1, e2⟩, e3⟩ := hq
    refine z_iload_n C dX3_dispatch_114 rfl ?_
    refine z_iret C hret dX3_dispatch_115 (by first | exact Nat.le_of_ble_eq_true rfl | omega) (by first | exact Nat.le_of_ble_eq_true rfl | omega) ?_
    exact ZQ.fin (o := mDispatch (g, f)) (v := nI T.length) (M1 := mLoA T (mGiv c9 T gb fb (mOpn g c9)).1 (mGiv c9 T gb fb (mOpn g c9)).2.1) (by simp only [mDispatch, hsg, hsp, ← q9]) ⟨bd, g9, rfl, e1, e2⟩ (q10.tr e3)
  have hi2 : i < LL.length := lt_of_nge (by omega) (by omega) c1
  rw [List.drop_eq_getElem_cons hi2] at q9
  simp only [mTit] at q9
  obtain ⟨hk30, hoc⟩ := hLm _ (List.getElem_mem hi2)
  have ht : ga 15 i = nI LL[i] := q6.get hi2
  have e5 := q5 5 (by decide)
  have skip : ∀ (gc gd : Nat → Nat → Int32) (fd : Nat → Int32) (w6 : zW) (x4 : Option Value), MP z bd gc fd w6 → mAg gc gd → zIs (gc 15) LL → zIs (gc 16) T → zOp (gc 17) (mOpn g c9) → zFm w w6 → mTit (mOpn g c9) (LL.drop (i + 1)) gd fd T = mTit (mOpn g c9) LL g (va_up f 25 0) [] → (∀ k : Nat, k ≠ 10 → k ≠ 2 → gd k = g k) → fd 17 = nI c9 → ZJ z p l e (zrm 3 0 0) s m args below meth c (vx_MQ below (zQc z (fun r w1 => r = some (.int (mDispatch (g, f)).1) ∧ MM z (bd 20) w1 (mDispatch (g, f)).2 ∧ zFm w w1)) (zXC z zNo) args s 0 0 (zA z)) 0 0 103 [some (.ref (bd 20)), some (.int (nI LL.length)), some (.int (nI T.length)), some (.int (nI i)), x4] [] w6 := by
    intro gc gd fd w6 x4 s1 s2 s3 s4 s5 s6 s7 s8 s9
    refine z_iinc C (L1 := [_, _, _, _, _]) _ dX3_dispatch_103 rfl (by first | exact zinc | rfl) rfl ?_
    refine z_goto C 18 dX3_dispatch_106 (by decide) ?_
    exact z_fgt (ih (LL.length - (i + 1)) 0 0 [some (.ref (bd 20)), some (.int (nI LL.length)), some (.int (nI T.length)), some (.int (nI (i + 1))), none] _ (by omega) ⟨i + 1, T, gc, gd, fd, rfl, rfl, rfl, rfl, hi2, by omega, q3, s1, s2, s3, s4, s5, s7, s6, s8, s9⟩) (by simp [zle])
  refine z_aload_n C dX3_dispatch_23 rfl ?_
  refine z_aload_n C dX3_dispatch_24 rfl ?_
  refine z_getf C zf_X3_60 dX3_dispatch_25 (by first | assumption | exact zk_eq | exact zk_ne (by first | assumption | exact zk_eq | exact zk_ne (by first | assumption | exact zk_eq | exact zk_ne (by first | assumption | exact zk_eq | exact zk_ne (by first | assumption | exact zk_eq | exact zk_ne (by first | assumption | exact zk_eq) (by first | decide | omega)) (by first | decide | omega)) (by first | decide | omega)) (by first | decide | omega)) (by first | decide | omega)) (by rfl) ?_
  refine z_iload_n C dX3_dispatch_28 rfl ?_
  refine z_iald C dX3_dispatch_29 (by first | assumption | exact zk_eq | exact zk_ne (by first | assumption | exact zk_eq | exact zk_ne (by first | assumption | exact zk_eq | exact zk_ne (by first | assumption | exact zk_eq | exact zk_ne (by first | assumption | exact zk_eq | exact zk_ne (by first | assumption | exact zk_eq) (by first | decide | omega)) (by first | decide | omega)) (by first | decide | omega)) (by first | decide | omega)) (by first | decide | omega)) (by first | rfl | assumption) (by first | assumption | omega | decide) (by first | decide | omega) ?_
  rw [ht]
  refine z_callV C zm_X3_isReady zl_X3_132 (m_isReady hl hY hk30) dX3_dispatch_30 (by first | assumption | exact zk_eq | exact zk_ne (by first | assumption | exact zk_eq | exact zk_ne (by first | assumption | exact zk_eq | exact zk_ne (by first | assumption | exact zk_eq | exact zk_ne (by first | assumption | exact zk_eq | exact zk_ne (by first | assumption | exact zk_eq) (by first | decide | omega)) (by first | decide | omega)) (by first | decide | omega)) (by first | decide | omega)) (by first | decide | omega)) (by rfl) (by rfl) (by rfl) (by exact Nat.le_of_ble_eq_true rfl) rfl (by exact ⟨Nat.le_of_ble_eq_true rfl, Nat.le_of_ble_eq_true rfl⟩) (by first | exact ⟨Nat.le_of_ble_eq_true rfl, Nat.le_of_ble_eq_true rfl⟩ | (simp only [zrm]; omega)) (fun _ _ h => z_xno h) (fun r w6 hq => ?_)
  obtain ⟨rfl, rfl⟩ := hq
  rw [q5.rdy]
  refine z_if_eq C 103 dX3_dispatch_33 (by decide) (fun c2 => ?_) (fun c2 => ?_)
  · have c3 := zb_ff c2
    rw [if_neg (by simp [c3])] at q9
    exact skip ga gb fb _ none hY q5 q6 q7 q8 q10 q9 q11 q12
  have c3 := zb_tt c2
  refine z_aload_n C dX3_dispatch_36 rfl ?_
  refine z_getf C zf_X3_63 dX3_dispatch_37 (by first | assumption | exact zk_eq | exact zk_ne (by first | assumption | exact zk_eq | exact zk_ne (by first | assumption | exact zk_eq | exact zk_ne (by first | assumption | exact zk_eq | exact zk_ne (by first | assumption | exact zk_eq | exact zk_ne (by first | assumption | exact zk_eq) (by first | decide | omega)) (by first | decide | omega)) (by first | decide | omega)) (by first | decide | omega)) (by first | decide | omega)) (by rfl) ?_
  refine z_iload_n C dX3_dispatch_40 rfl ?_
  refine z_aload_n C dX3_dispatch_41 rfl ?_
  refine z_getf C zf_X3_60 dX3_dispatch_42 (by first | assumption | exact zk_eq | exact zk_ne (by first | assumption | exact zk_eq | exact zk_ne (by first | assumption | exact zk_eq | exact zk_ne (by first | assumption | exact zk_eq | exact zk_ne (by first | assumption | exact zk_eq | exact zk_ne (by first | assumption | exact zk_eq) (by first | decide | omega)) (by first | decide | omega)) (by first | decide | omega)) (by first | decide | omega)) (by first | decide | omega)) (by rfl) ?_
  refine z_iload_n C dX3_dispatch_45 rfl ?_
  refine z_iald C dX3_dispatch_46 (by first | assumption | exact zk_eq | exact zk_ne (by first | assumption | exact zk_eq | exact zk_ne (by first | assumption | exact zk_eq | exact zk_ne (by first | assumption | exact zk_eq | exact zk_ne (by first | assumption | exact zk_eq | exact zk_ne (by first | assumption | exact zk_eq) (by first | decide | omega)) (by first | decide | omega)) (by first | decide | omega)) (by first | decide | omega)) (by first | decide | omega)) (by first | rfl | assumption) (by first | assumption | omega | decide) (by first | decide | omega) ?_
  rw [ht]
  refine z_iast C dX3_dispatch_47 (by first | assumption | exact zk_eq | exact zk_ne (by first | assumption | exact zk_eq | exact zk_ne (by first | assumption | exact zk_eq | exact zk_ne (by first | assumption | exact zk_eq | exact zk_ne (by first | assumption | exact zk_eq | exact zk_ne (by first | assumption | exact zk_eq) (by first | decide | omega)) (by first | decide | omega)) (by first | decide | omega)) (by first | decide | omega)) (by first | decide | omega)) (by first | rfl | assumption) (by first | assumption | omega | decide) (by first | decide | omega) ?_
  refine z_aload_n C dX3_dispatch_48 rfl ?_
  refine z_iconst C (0) dX3_dispatch_49 (by decide) ?_
  refine z_iload_n C dX3_dispatch_50 rfl ?_
  refine z_iconst C (1) dX3_dispatch_51 (by decide) ?_
  refine z_iadd C dX3_dispatch_52 ?_
  have hY2 := hY.arr 16 (va_up (ga 16) T.length (nI LL[i]))
  obtain ⟨z1, z2⟩ := q7.snoc LL[i]
  have m20'' := hY2.1
  have hca := m_canAll (T := T ++ [LL[i]]) (P := mOpn g c9) (a := 0) (b := T.length + 1) hl hY2 (by rw [va_up_self]; exact z1) (fun x hx => by
    rcases List.mem_append.mp hx with hx | hx
    · exact q3 x hx
    · rw [List.mem_singleton.mp hx]; exact hk30) (by simp; omega) (Nat.zero_le _) (by simp) q8 hPs hP16
  rw [List.drop_zero, List.take_of_length_le (by simp), show va_up ga 16 (va_up (ga 16) T.length (nI LL[i])) 3 = gb 3 from q5 3 (by decide)] at hca
  rw [show nI T.length + 1 = nI (T.length + 1) from nI_1 _]
  refine z_callV C zm_X3_canAll zl_X3_122 hca dX3_dispatch_53 (by first | assumption | exact zk_eq | exact zk_ne (by first | assumption | exact zk_eq | exact zk_ne (by first | assumption | exact zk_eq | exact zk_ne (by first | assumption | exact zk_eq | exact zk_ne (by first | assumption | exact zk_eq | exact zk_ne (by first | assumption | exact zk_eq) (by first | decide | omega)) (by first | decide | omega)) (by first | decide | omega)) (by first | decide | omega)) (by first | decide | omega)) (by rfl) (by rfl) (by rfl) (by exact Nat.le_of_ble_eq_true rfl) rfl (by exact ⟨Nat.le_of_ble_eq_true rfl, Nat.le_of_ble_eq_true rfl⟩) (by first | exact ⟨Nat.le_of_ble_eq_true rfl, Nat.le_of_ble_eq_true rfl⟩ | (simp only [zrm]; omega)) (fun _ _ h => z_xno h) (fun r w7 hq => ?_)
  obtain ⟨rfl, rfl⟩ := hq
  have hA3 : mAg (va_up ga 16 (va_up (ga 16) T.length (nI LL[i]))) gb := q5.scr (by decide) _
  have hfr := q10.up (k := 37) (x := some (bd 37, .inl (z.2.2.1 0, 30, .inl (va_up (ga 16) T.length (nI LL[i]))))) (by decide) (by decide)
  refine z_istore C (L1 := [_, _, _, _, _]) dX3_dispatch_56 (Nat.le_of_ble_eq_true rfl) rfl ?_
  refine z_iload C dX3_dispatch_58 rfl ?_
  refine z_if_eq C 90 dX3_dispatch_60 (by decide) (fun c5 => ?_) (fun c5 => ?_)
  · have c6 := zb_ff c5
    rw [if_neg (fun h => by have := h.2; rw [c6] at this; cases this)] at q9
    refine z_iload_n C dX3_dispatch_90 rfl ?_
    refine z_iload C dX3_dispatch_91 rfl ?_
    refine z_if_eq C 100 dX3_dispatch_93 (by decide) (fun c7 => ?_) (fun c7 => ?_)
    · refine z_iconst C (0) dX3_dispatch_100 (by decide) ?_
      refine z_iadd C dX3_dispatch_101 ?_
      rw [show nI T.length + 0 = nI T.length by simp]
      refine z_istore_n C (L1 := [_, _, _, _, _]) dX3_dispatch_102 (Nat.le_of_ble_eq_true rfl) rfl ?_
      exact skip _ gb fb _ _ hY2 hA3 q6 (by rw [va_up_self]; exact z2) q8 hfr q9 q11 q12
    · exact absurd c5 c7
  have c6 := zb_tt c5
  rw [if_pos ⟨c3, c6⟩] at q9
  have hmp := hY2.all
  obtain ⟨p20, p21, p22, p23, p24, p25, p26, p27, p28, p29, p30, p31, p32, p33, p34, p35, p36, p37, p38⟩ := hmp
  refine z_aload_n C dX3_dispatch_63 rfl ?_
  refine z_getf C zf_X3_26 dX3_dispatch_64 (by first | assumption | exact zk_eq | exact zk_ne (by first | assumption | exact zk_eq | exact zk_ne (by first | assumption | exact zk_eq | exact zk_ne (by first | assumption | exact zk_eq | exact zk_ne (by first | assumption | exact zk_eq | exact zk_ne (by first | assumption | exact zk_eq) (by first | decide | omega)) (by first | decide | omega)) (by first | decide | omega)) (by first | decide | omega)) (by first | decide | omega)) (by rfl) ?_
  refine z_aload_n C dX3_dispatch_67 rfl ?_
  refine z_getf C zf_X3_60 dX3_dispatch_68 (by first | assumption | exact zk_eq | exact zk_ne (by first | assumption | exact zk_eq | exact zk_ne (by first | assumption | exact zk_eq | exact zk_ne (by first | assumption | exact zk_eq | exact zk_ne (by first | assumption | exact zk_eq | exact zk_ne (by first | assumption | exact zk_eq) (by first | decide | omega)) (by first | decide | omega)) (by first | decide | omega)) (by first | decide | omega)) (by first | decide | omega)) (by rfl) ?_
  refine z_iload_n C dX3_dispatch_71 rfl ?_
  refine z_iald C dX3_dispatch_72 (by first | assumption | exact zk_eq | exact zk_ne (by first | assumption | exact zk_eq | exact zk_ne (by first | assumption | exact zk_eq | exact zk_ne (by first | assumption | exact zk_eq | exact zk_ne (by first | assumption | exact zk_eq | exact zk_ne (by first | assumption | exact zk_eq) (by first | decide | omega)) (by first | decide | omega)) (by first | decide | omega)) (by first | decide | omega)) (by first | decide | omega)) (by first | rfl | assumption) (by first | assumption | omega | decide) (by first | decide | omega) ?_
  refine z_zald C dX3_dispatch_73 (by first | assumption | exact zk_eq | exact zk_ne (by first | assumption | exact zk_eq | exact zk_ne (by first | assumption | exact zk_eq | exact zk_ne (by first | assumption | exact zk_eq | exact zk_ne (by first | assumption | exact zk_eq | exact zk_ne (by first | assumption | exact zk_eq) (by first | decide | omega)) (by first | decide | omega)) (by first | decide | omega)) (by first | decide | omega)) (by first | decide | omega)) (by first | rfl | assumption) (by first | assumption | omega | decide) (by first | decide | omega) ?_
  rw [show va_up ga 16 (va_up (ga 16) T.length (nI LL[i])) 5 = gb 5 from e5]
  refine z_if_eq C 90 dX3_dispatch_74 (by decide) (fun c8 => ?_) (fun c8 => ?_)
  · rw [if_pos c8] at q9
    refine z_iload_n C dX3_dispatch_90 rfl ?_
    refine z_iload C dX3_dispatch_91 rfl ?_
    refine z_if_eq C 100 dX3_dispatch_93 (by decide) (fun c7 => ?_) (fun c7 => ?_)
    · exact absurd c7 c5
    · refine z_iconst C (1) dX3_dispatch_96 (by decide) ?_
      refine z_goto C 101 dX3_dispatch_97 (by decide) ?_
      refine z_iadd C dX3_dispatch_101 ?_
      rw [show nI T.length + 1 = nI (T.length + 1) from nI_1 _]
      refine z_istore_n C (L1 := [_, _, _, _, _]) dX3_dispatch_102 (Nat.le_of_ble_eq_true rfl) rfl ?_
      refine z_iinc C (L1 := [_, _, _, _, _]) _ dX3_dispatch_103 rfl (by first | exact zinc | rfl) rfl ?_
      refine z_goto C 18 dX3_dispatch_106 (by decide) ?_
      exact z_fgt (ih (LL.length - (i + 1)) 0 0 [some (.ref (bd 20)), some (.int (nI LL.length)), some (.int (nI (T ++ [LL[i]]).length)), some (.int (nI (i + 1))), none] _ (by omega) ⟨i + 1, T ++ [LL[i]], _, gb, fb, rfl, rfl, rfl, rfl, hi2, by simp; omega, fun x hx => by
        rcases List.mem_append.mp hx with hx | hx
        · exact q3 x hx
        · rw [List.mem_singleton.mp hx]; exact hk30, hY2, hA3, q6, by rw [va_up_self]; exact z1, q8, q9, hfr, q11, q12⟩) (by simp [zle])
  · rw [if_neg c8] at q9
    obtain ⟨b, hb4, hb⟩ := hbo _ hk30 hoc
    refine z_aload_n C dX3_dispatch_77 rfl ?_
    refine z_aload_n C dX3_dispatch_78 rfl ?_
    refine z_getf C zf_X3_60 dX3_dispatch_79 (by first | assumption | exact zk_eq | exact zk_ne (by first | assumption | exact zk_eq | exact zk_ne (by first | assumption | exact zk_eq | exact zk_ne (by first | assumption | exact zk_eq | exact zk_ne (by first | assumption | exact zk_eq | exact zk_ne (by first | assumption | exact zk_eq) (by first | decide | omega)) (by first | decide | omega)) (by first | decide | omega)) (by first | decide | omega)) (by first | decide | omega)) (by rfl) ?_
    refine z_iload_n C dX3_dispatch_82 rfl ?_
    refine z_iald C dX3_dispatch_83 (by first | assumption | exact zk_eq | exact zk_ne (by first | assumption | exact zk_eq | exact zk_ne (by first | assumption | exact zk_eq | exact zk_ne (by first | assumption | exact zk_eq | exact zk_ne (by first | assumption | exact zk_eq | exact zk_ne (by first | assumption | exact zk_eq) (by first | decide | omega)) (by first | decide | omega)) (by first | decide | omega)) (by first | decide | omega)) (by first | decide | omega)) (by first | rfl | assumption) (by first | assumption | omega | decide) (by first | decide | omega) ?_
    rw [show va_up ga 16 (va_up (ga 16) T.length (nI LL[i])) 15 i = nI LL[i] from ht]
    refine z_callV C zm_X3_refuses zl_X3_135 (m_refuses (b := b) hl hY2 hk30 (by rw [hA3 1 (by decide), q11 1 (by decide) (by decide)]; exact hb) hb4) dX3_dispatch_84 (by first | assumption | exact zk_eq | exact zk_ne (by first | assumption | exact zk_eq | exact zk_ne (by first | assumption | exact zk_eq | exact zk_ne (by first | assumption | exact zk_eq | exact zk_ne (by first | assumption | exact zk_eq | exact zk_ne (by first | assumption | exact zk_eq) (by first | decide | omega)) (by first | decide | omega)) (by first | decide | omega)) (by first | decide | omega)) (by first | decide | omega)) (by rfl) (by rfl) (by rfl) (by exact Nat.le_of_ble_eq_true rfl) rfl (by exact ⟨Nat.le_of_ble_eq_true rfl, Nat.le_of_ble_eq_true rfl⟩) (by first | exact ⟨Nat.le_of_ble_eq_true rfl, Nat.le_of_ble_eq_true rfl⟩ | (simp only [zrm]; omega)) (fun _ _ h => z_xno h) (fun r w8 hq => ?_)
    obtain ⟨rfl, e1, e2⟩ := hq
    refine z_goto C 103 dX3_dispatch_87 (by decide) ?_
    have hre := hA3.re (f := fb) (n := LL[i])
    have k15 : mReG (va_up ga 16 (va_up (ga 16) T.length (nI LL[i]))) fb LL[i] 15 = ga 15 := mReG_same (by decide) (by decide)
    have k16 : mReG (va_up ga 16 (va_up (ga 16) T.length (nI LL[i]))) fb LL[i] 16 = va_up (ga 16) T.length (nI LL[i]) := (mReG_same (by decide) (by decide)).trans (va_up_self _ _ _)
    have k17 : mReG (va_up ga 16 (va_up (ga 16) T.length (nI LL[i]))) fb LL[i] 17 = ga 17 := mReG_same (by decide) (by decide)
    rw [hre.2] at e1
    exact skip _ (mReG gb fb LL[i]) (mReF gb fb LL[i]) _ _ e1 hre.1 (by rw [k15]; exact q6) (by rw [k16]; exact z2) (by rw [k17]; exact q8) (hfr.tr e2) q9 (fun k h10 h2 => (mReG_same h10 h2).trans (q11 k h10 h2)) ((mReF_same (by decide)).trans q12)
end ZM8
