/-! HiringHall: signOn .. order -/
theorem nI_below {x : Int32} {k : Nat} (h : ¬ x < 0) (h2 : x < nI k) (hk : k < 2 ^ 31) : ∃ j : Nat, j < k ∧ x = nI j := by
  obtain ⟨j, hj, rfl⟩ := nI_of h
  exact ⟨j, (nI_ltI hj hk).mp h2, rfl⟩
section ZH7
variable {l : Launch} {z : zT} {w : zW} {a0 nn : Nat} {S : zHS}
section
variable {ad : Nat → Nat} {co gu nd : Nat → Int32} {ts : List Nat} {wk : Nat → Nat → Int32} {hi : Nat → Int32} {tb tk : List Nat} {W P : List Int32}
theorem HP.adup (h : HP z ad co gu nd w ts wk hi tb tk W P) {m q : Nat} (hm : m ∉ ts) : HP z (va_up ad (100 + m) q) co gu nd w ts wk hi tb tk W P := by
  obtain ⟨a0, a1, a3, a5, aM, a10, a11, a12, am, al, an, hc⟩ := h
  have e : ∀ j : Nat, j < 100 → va_up ad (100 + m) q j = ad j := fun j hj => va_up_ne _ _ (by omega)
  have e2 : ∀ n ∈ ts, zWa (va_up ad (100 + m) q) n = zWa ad n := fun n hn => by
    have : n ≠ m := fun h => hm (h ▸ hn)
    exact va_up_ne _ _ (by omega)
  have e3 : ts.map (zWa (va_up ad (100 + m) q)) = ts.map (zWa ad) := List.map_congr_left e2
  have e4 : zHc (va_up ad (100 + m) q) hi = zHc ad hi := by
    simp only [zHc, e 1 (by decide), e 3 (by decide), e 5 (by decide), e 7 (by decide), e 10 (by decide), e 11 (by decide), e 12 (by decide)]
  unfold HP
  rw [e4, e3, e 0 (by decide), e 1 (by decide), e 3 (by decide), e 5 (by decide), e 10 (by decide), e 11 (by decide), e 12 (by decide)]
  refine ⟨a0, a1, a3, a5, ?_, a10, a11, a12, fun n hn => ?_, al, an, hc⟩
  · unfold zMt
    rw [e 7 (by decide), e 8 (by decide), e 9 (by decide)]
    exact aM
  · rw [e2 n hn]
    exact am n hn
end
theorem o_signOn (hl : l.stackTraces = false) (h : HH z a0 nn w S) (hnn : nn < 90000) (x y : Int32) : ZO l z mX2_signOn a0 nn (nn + 1) [.int x, .int y] w S (hSignOn S x y) := by
  have hHH := h
  obtain ⟨ts, wk, hi, co, gu, nd⟩ := S
  obtain ⟨ad, tb, tk, W, P, rfl, h, m7, hm7, hm8, hlt⟩ := h
  dsimp only at h hm8 hlt
  have hH := h
  obtain ⟨b0, b1, b3, b5, bM, b10, b11, b12, am, al, an, hc8⟩ := h
  obtain ⟨md1, rb1, e1, -⟩ := id b1
  rw [List.length_map] at e1
  refine zbody (M := mX2_signOn) (L0 := [_, _, _, _]) hl (by simp [Value.category]) (Nat.le_of_ble_eq_true rfl) (by decide +kernel) rfl ?_
  intro p e s m args below meth c C hX hnm hret
  replace C : zC z p l s m args meth c cX2_signOn RX2 4 := C
  replace hret : meth.sig.returnType = (some .int) := hret
  refine z_iload_n C dX2_signOn_0 rfl ?_
  refine z_callS C zm_X2_checkBoard zl_X2_60 (c_checkBoard hl x) dX2_signOn_1 (by rfl) (by rfl) (by exact Nat.le_of_ble_eq_true rfl) rfl (by exact ⟨Nat.le_of_ble_eq_true rfl, Nat.le_of_ble_eq_true rfl⟩) (by first | exact ⟨Nat.le_of_ble_eq_true rfl, Nat.le_of_ble_eq_true rfl⟩ | (simp only [zrm]; omega)) (fun E w1 h => z_xout C hX (by obtain ⟨rfl, q, rfl⟩ := h; exact ⟨by simp only [hSignOn, if_pos q], hHH, zFh.refl _⟩) (by first | exact Nat.le_of_ble_eq_true rfl | omega) (by first | exact Nat.le_of_ble_eq_true rfl | omega)) (fun r w1 hq => ?_)
  obtain ⟨c1, c2, rfl, rfl⟩ := hq
  have q1 : ¬ (x < 0 ∨ ¬ x < 4) := fun h => h.elim c1 (fun h => h c2)
  refine z_iload_n C dX2_signOn_4 rfl ?_
  refine z_callS C zm_X2_checkSkills zl_X2_64 (c_checkSkills hl y) dX2_signOn_5 (by rfl) (by rfl) (by exact Nat.le_of_ble_eq_true rfl) rfl (by exact ⟨Nat.le_of_ble_eq_true rfl, Nat.le_of_ble_eq_true rfl⟩) (by first | exact ⟨Nat.le_of_ble_eq_true rfl, Nat.le_of_ble_eq_true rfl⟩ | (simp only [zrm]; omega)) (fun E w1 h => z_xout C hX (by obtain ⟨rfl, q, rfl⟩ := h; exact ⟨by simp only [hSignOn, if_neg q1, if_pos q], hHH, zFh.refl _⟩) (by first | exact Nat.le_of_ble_eq_true rfl | omega) (by first | exact Nat.le_of_ble_eq_true rfl | omega)) (fun r w1 hq => ?_)
  obtain ⟨c3, c4, rfl, rfl⟩ := hq
  have q2 : ¬ (y < 0 ∨ ¬ y < 32) := fun h => h.elim c3 (fun h => h c4)
  refine z_aload_n C dX2_signOn_8 rfl ?_
  refine z_getf C zf_X2_10 dX2_signOn_9 (by first | assumption | exact zk_eq | exact zk_ne (by first | assumption | exact zk_eq | exact zk_ne (by first | assumption | exact zk_eq | exact zk_ne (by first | assumption | exact zk_eq | exact zk_ne (by first | assumption | exact zk_eq | exact zk_ne (by first | assumption | exact zk_eq) (by first | decide | omega)) (by first | decide | omega)) (by first | decide | omega)) (by first | decide | omega)) (by first | decide | omega)) (by rfl) ?_
  refine z_callV C zm_Jx4a65c_size_8abf5 zl_X2_67 (c_size hl e1) dX2_signOn_12 (by first | assumption | exact zk_eq | exact zk_ne (by first | assumption | exact zk_eq | exact zk_ne (by first | assumption | exact zk_eq | exact zk_ne (by first | assumption | exact zk_eq | exact zk_ne (by first | assumption | exact zk_eq | exact zk_ne (by first | assumption | exact zk_eq) (by first | decide | omega)) (by first | decide | omega)) (by first | decide | omega)) (by first | decide | omega)) (by first | decide | omega)) (by rfl) (by rfl) (by rfl) (by exact Nat.le_of_ble_eq_true rfl) rfl (by exact ⟨Nat.le_of_ble_eq_true rfl, Nat.le_of_ble_eq_true rfl⟩) (by first | exact ⟨Nat.le_of_ble_eq_true rfl, Nat.le_of_ble_eq_true rfl⟩ | (simp only [zrm]; omega)) (fun _ _ h => z_xno h) (fun r w1 hq => ?_)
  obtain ⟨rfl, rfl⟩ := hq
  refine z_bipush C (30) dX2_signOn_15 (by decide) ?_
  refine z_icmp_lt C 30 dX2_signOn_17 (by decide) (fun c5 => ?_) (fun c5 => ?_)
  · have q3 : ¬ 30 ≤ ts.length := fun h => absurd c5 (Int32.not_lt.mpr ((nI_leI (a := 30) (by decide) (by omega)).mpr h))
    have hmn : m7 ∉ ts := fun h => absurd (hlt m7 h) (Nat.lt_irrefl _)
    refine z_newo C zw2_X2_78 (100 + m7) (fs := [.int 0, .int 0, .int 0, .int 0, .int 0, .int 0, .int 0, .int 0, .int 0, .int 0]) (by decide +kernel) dX2_signOn_30 (by exact Nat.le_of_ble_eq_true rfl) (by exact Nat.le_of_ble_eq_true rfl) (fun q hq => ?_)
    have f00 : va_up w1 (100 + m7) (some (q, .inr (2, [.int 0, .int 0, .int 0, .int 0, .int 0, .int 0, .int 0, .int 0, .int 0, .int 0]))) 0 = some (ad 0, zHc ad hi) := (va_up_ne _ _ (by omega)).trans b0
    refine z_dup C dX2_signOn_33 rfl ?_
    refine z_aload_n C dX2_signOn_34 rfl ?_
    refine z_getf C zf_X2_40 dX2_signOn_35 (by first | assumption | exact zk_eq | exact zk_ne (by first | assumption | exact zk_eq | exact zk_ne (by first | assumption | exact zk_eq | exact zk_ne (by first | assumption | exact zk_eq | exact zk_ne (by first | assumption | exact zk_eq | exact zk_ne (by first | assumption | exact zk_eq) (by first | decide | omega)) (by first | decide | omega)) (by first | decide | omega)) (by first | decide | omega)) (by first | decide | omega)) (by rfl) ?_
    refine z_iload_n C dX2_signOn_38 rfl ?_
    refine z_iload_n C dX2_signOn_39 rfl ?_
    refine z_callI C zm_X1_init zl_X2_80 (c_Winit (k := 100 + m7) hl zk_eq (hi 7) x y) dX2_signOn_40 (by rfl) (by rfl) (by exact Nat.le_of_ble_eq_true rfl) rfl (by exact ⟨Nat.le_of_ble_eq_true rfl, Nat.le_of_ble_eq_true rfl⟩) (by first | exact ⟨Nat.le_of_ble_eq_true rfl, Nat.le_of_ble_eq_true rfl⟩ | (simp only [zrm]; omega)) (fun _ _ h => z_xno h) (fun r w2 hq => ?_)
    obtain ⟨rfl, g1, g2⟩ := hq
    have f0 : w2 0 = some (ad 0, zHc ad hi) := (g2 0 (by omega)).trans f00
    refine z_astore_n C (L1 := [_, _, _, _]) dX2_signOn_43 (Nat.le_of_ble_eq_true rfl) rfl ?_
    refine z_aload_n C dX2_signOn_44 rfl ?_
    refine z_dup C dX2_signOn_45 rfl ?_
    refine z_getf C zf_X2_40 dX2_signOn_46 (by first | assumption | exact zk_eq | exact zk_ne (by first | assumption | exact zk_eq | exact zk_ne (by first | assumption | exact zk_eq | exact zk_ne (by first | assumption | exact zk_eq | exact zk_ne (by first | assumption | exact zk_eq | exact zk_ne (by first | assumption | exact zk_eq) (by first | decide | omega)) (by first | decide | omega)) (by first | decide | omega)) (by first | decide | omega)) (by first | decide | omega)) (by rfl) ?_
    refine z_iconst C (1) dX2_signOn_49 (by decide) ?_
    refine z_iadd C dX2_signOn_50 ?_
    refine z_putf C (fs1 := [_, _, _, _, _, _, _, _, _, _, _, _, _]) zp_X2_40 dX2_signOn_51 (by first | assumption | exact zk_eq | exact zk_ne (by first | assumption | exact zk_eq | exact zk_ne (by first | assumption | exact zk_eq | exact zk_ne (by first | assumption | exact zk_eq | exact zk_ne (by first | assumption | exact zk_eq | exact zk_ne (by first | assumption | exact zk_eq) (by first | decide | omega)) (by first | decide | omega)) (by first | decide | omega)) (by first | decide | omega)) (by first | decide | omega)) (by first | rfl | exact zb_nar _ | assumption) (by first | rfl | exact zb_fit _ | assumption) (by exact Nat.le_of_ble_eq_true rfl) (by rfl) ?_
    refine z_aload_n C dX2_signOn_54 rfl ?_
    refine z_aload_n C dX2_signOn_55 rfl ?_
    have h1 := (hH.adup (q := q) hmn).wrk (w1 := w2) (n := m7) (r1 := newW (hi 7) x y) (by rw [g1]; show _ = some (va_up ad (100 + m7) q (100 + m7), _); rw [va_up_self]; rfl) (fun j hj => (g2 j hj).trans (va_up_ne _ _ hj)) ⟨nI_below c1 c2 (by decide), hm8, by omega⟩
    have h2 := h1.hal (hi1 := va_up hi 7 (hi 7 + 1)) (w1 := va_up w2 0 (some (ad 0, zHc ad (va_up hi 7 (hi 7 + 1))))) (by rw [va_up_ne ad q (show 0 ≠ 100 + m7 by omega)]; rw [va_up_self]; simp only [zHc, va_up_ne ad q (show 1 ≠ 100 + m7 by omega), va_up_ne ad q (show 3 ≠ 100 + m7 by omega), va_up_ne ad q (show 5 ≠ 100 + m7 by omega), va_up_ne ad q (show 7 ≠ 100 + m7 by omega), va_up_ne ad q (show 10 ≠ 100 + m7 by omega), va_up_ne ad q (show 11 ≠ 100 + m7 by omega), va_up_ne ad q (show 12 ≠ 100 + m7 by omega)]) (fun j hj => va_up_ne _ _ hj) hc8
    have k0 : va_up ad (100 + m7) q 0 = ad 0 := va_up_ne _ _ (by omega)
    have kq : zWa (va_up ad (100 + m7) q) m7 = q := va_up_self _ _ _
    have ct := c_putAtBottom hl h2 hmn (by rw [va_up_ne _ _ (show 100 + m7 ≠ 0 by omega), g1, kq, va_up_self]; rfl) (by rw [va_up_self]; exact ⟨nI_below c1 c2 (by decide), hm8, by omega⟩) (by omega)
    rw [k0, kq] at ct
    have f02 : va_up w2 0 (some (ad 0, zHc ad (va_up hi 7 (hi 7 + 1)))) 0 = some (ad 0, zHc ad (va_up hi 7 (hi 7 + 1))) := va_up_self _ _ _
    refine z_callV C zm_X2_putAtBottom zl_X2_83 ct dX2_signOn_56 (by first | assumption | exact zk_eq | exact zk_ne (by first | assumption | exact zk_eq | exact zk_ne (by first | assumption | exact zk_eq | exact zk_ne (by first | assumption | exact zk_eq | exact zk_ne (by first | assumption | exact zk_eq | exact zk_ne (by first | assumption | exact zk_eq) (by first | decide | omega)) (by first | decide | omega)) (by first | decide | omega)) (by first | decide | omega)) (by first | decide | omega)) (by rfl) (by rfl) (by rfl) (by exact Nat.le_of_ble_eq_true rfl) rfl (by exact ⟨Nat.le_of_ble_eq_true rfl, Nat.le_of_ble_eq_true rfl⟩) (by first | exact ⟨Nat.le_of_ble_eq_true rfl, Nat.le_of_ble_eq_true rfl⟩ | (simp only [zrm]; omega)) (fun _ _ h => z_xno h) (fun r w3 hq => ?_)
    obtain ⟨rfl, g3, g4⟩ := hq
    have f3 := (g4 (100 + m7) (by omega) (by omega) (by omega)).trans ((va_up_ne _ _ (by omega)).trans g1)
    refine z_aload_n C dX2_signOn_59 rfl ?_
    refine z_getf C zf_X2_87 dX2_signOn_60 (by first | assumption | exact zk_eq | exact zk_ne (by first | assumption | exact zk_eq | exact zk_ne (by first | assumption | exact zk_eq | exact zk_ne (by first | assumption | exact zk_eq | exact zk_ne (by first | assumption | exact zk_eq | exact zk_ne (by first | assumption | exact zk_eq) (by first | decide | omega)) (by first | decide | omega)) (by first | decide | omega)) (by first | decide | omega)) (by first | decide | omega)) (by rfl) ?_
    refine z_iret C hret dX2_signOn_63 (by first | exact Nat.le_of_ble_eq_true rfl | omega) (by first | exact Nat.le_of_ble_eq_true rfl | omega) ?_
    refine ZO.fin (v := hi 7) (by simp only [hSignOn, if_neg q1, if_neg q2, if_neg q3]; rfl) ⟨va_up ad (100 + m7) q, tb, tk, W, P, k0, ?_, m7 + 1, by omega, ?_, ?_⟩ (fun j j1 j2 => (g4 j (by omega) (by omega) (by omega)).trans ((va_up_ne _ _ (by omega)).trans ((g2 j (by omega)).trans (va_up_ne _ _ (by omega)))))
    · rw [hm8, nI_clamp (by omega)] at *
      exact g3
    · show va_up hi 7 (hi 7 + 1) 7 = _
      rw [va_up_self, hm8]
      exact (nI_succ _).symm
    · intro n hn
      rw [hm8, nI_clamp (by omega)] at hn
      rcases List.mem_cons.mp ((pab_perm _).mem_iff.mp hn) with rfl | h9
      · exact Nat.lt_succ_self _
      · exact Nat.lt_succ_of_lt (hlt n h9)
  · refine z_throw C zt_73_71 hX dX2_signOn_20 dX2_signOn_23 dX2_signOn_24 dX2_signOn_26 dX2_signOn_29 rfl (by exact Nat.le_of_ble_eq_true rfl) (by exact Nat.le_of_ble_eq_true rfl) (by first | exact Nat.le_of_ble_eq_true rfl | (simp only [zrm]; omega)) (by first | exact Nat.le_of_ble_eq_true rfl | (simp only [zrm]; omega)) (by first | exact Nat.le_of_ble_eq_true rfl | omega) (by first | exact Nat.le_of_ble_eq_true rfl | omega) ?_
    have q3 : 30 ≤ ts.length := (nI_leI (a := 30) (by decide) (by omega)).mp (Int32.not_lt.mp c5)
    exact ⟨by simp only [hSignOn, if_neg q1, if_neg q2, if_pos q3], hHH, zFh.refl _⟩
end ZH7
