/-! HiringHall: the rest of the public methods -/
/-- those of the board b, from the top on, rise: A those above, from below; B those to come -/
def eqR (wk : Nat → Nat → Int32) (b : Int32) : List Nat → List Nat → List Nat
  | A, [] => A.reverse
  | A, x :: B => if wk x 1 = b then eqR wk b (riseR wk x A) B else eqR wk b (x :: A) B
theorem riseR_len {wk : Nat → Nat → Int32} {x : Nat} : ∀ A : List Nat, (riseR wk x A).length = A.length + 1
  | [] => rfl
  | y :: r => by
    simp only [riseR]
    split
    · simp [riseR_len r]
    · rfl
def hEqualise (S : zHS) (b : Int32) : zAns × zHS := if b < 0 ∨ ¬ b < 4 then (.inl zIA, S) else (.inr (nI (disp (eqR S.2.1 b [] S.1) S.1)), (eqR S.2.1 b [] S.1, S.2))
def hPl (S : zHS) : List Int32 := opl S.2.1 S.2.2.2.2.2 S.1 (S.2.2.1 8).toNatClampNeg
def hTit (S : zHS) : List Nat × (Nat → Nat → Int32) × List Nat × List Int32 := tit S.2.2.2.1 (hPl S) S.1 S.1 S.2.1 [] []
def hPlt (S : zHS) : List Nat × (Nat → Nat → Int32) × (Nat → Int32) × List Int32 × List Int32 := plt S.2.2.2.2.2 (S.2.2.1 8).toNatClampNeg (hTit S).2.2.1 (hTit S).1 (hTit S).2.1 S.2.2.1 (hTit S).2.2.2 (hPl S)
def hDispatch (S : zHS) : zAns × zHS := (.inr (nI (hTit S).2.2.1.length), ((hPlt S).1, (hPlt S).2.1, (hPlt S).2.2.1, S.2.2.2))
/-- those of the list are asked in turn for the place p that needs k -/
def rpl (co : Nat → Int32) (p k : Int32) : List Nat → List Nat → (Nat → Nat → Int32) → (Nat → Int32) → Int32 × List Nat × (Nat → Nat → Int32) × (Nat → Int32)
  | [], ts, wk, hi => (-1, ts, wk, hi)
  | n :: r, ts, wk, hi =>
    if rdy (wk n) && skl (wk n 2) k then
      if wk n 4 = 0 then (wk n 0, pab (zstaW hi wk n p) n (ts.erase n), zstaW hi wk n p, va_up hi 12 1) else rpl co p k r (zrefT co wk n ts) (zrefW wk n) hi
    else rpl co p k r ts wk hi
def hRpl (S : zHS) (p : Int32) : Int32 × List Nat × (Nat → Nat → Int32) × (Nat → Int32) := rpl S.2.2.2.1 p (S.2.2.2.2.2 p.toNatClampNeg) S.1 S.1 S.2.1 S.2.2.1
def hReplace (S : zHS) (p : Int32) : zAns × zHS := if p < 0 ∨ ¬ p < S.2.2.1 8 then (.inl zNS, S) else if hold S.2.1 p S.1 = -1 then (.inr (hRpl S p).1, ((hRpl S p).2.1, (hRpl S p).2.2.1, (hRpl S p).2.2.2, S.2.2.2)) else (.inl zIS, S)
/-- the shift ends at the hour h -/
def eshW (h : Int32) (wk : Nat → Nat → Int32) (n : Nat) : Nat → Nat → Int32 := va_up (if wk n 7 = -1 then wk else zend wk n h) n (va_up (va_up ((if wk n 7 = -1 then wk else zend wk n h) n) 9 0) 4 0)
def esh (h : Int32) : List Nat → (Nat → Nat → Int32) → Int32 → (Nat → Nat → Int32) × Int32
  | [], wk, v => (wk, v)
  | n :: r, wk, v => esh h r (eshW h wk n) (if wk n 7 = -1 then v else v + (h - wk n 8))
def hEndShift (S : zHS) : zAns × zHS := (.inr (esh (S.2.2.1 9) S.1 S.2.1 (S.2.2.1 11)).2, (S.1, (esh (S.2.2.1 9) S.1 S.2.1 (S.2.2.1 11)).1, va_up (va_up (va_up (va_up S.2.2.1 8 0) 10 0) 11 0) 12 0, S.2.2.2))
def epe (gu : Nat → Int32) : List Nat → (Nat → Nat → Int32) → Int32 → (Nat → Nat → Int32) × Int32
  | [], wk, v => (wk, v)
  | n :: r, wk, v => epe gu r (va_up wk n (va_up (va_up (wk n) 5 0) 6 0)) (v + owe gu (wk n))
def hEndPeriod (S : zHS) : zAns × zHS := if S.2.2.1 12 = 0 then (.inr (epe S.2.2.2.2.1 S.1 S.2.1 0).2, (S.1, (epe S.2.2.2.2.1 S.1 S.2.1 0).1, S.2.2)) else (.inl zIS, S)
/-- how many of the list stand above n on the same board -/
def rnk (wk : Nat → Nat → Int32) (n : Nat) : List Nat → Nat
  | [] => 0
  | m :: r => if m = n then 0 else rnk wk n r + (if wk m 1 = wk n 1 then 1 else 0)
theorem rnk_le {wk : Nat → Nat → Int32} {n : Nat} : ∀ ts : List Nat, rnk wk n ts ≤ ts.length
  | [] => Nat.le_refl _
  | m :: r => by
    have := rnk_le (wk := wk) (n := n) r
    simp only [rnk, List.length_cons]
    split
    · omega
    · split <;> omega
def hRankOf (S : zHS) (x : Int32) : zAns × zHS := match fnd S.2.1 x S.1 with
  | none => (.inl zNS, S)
  | some n => (.inr (nI (rnk S.2.1 n S.1)), S)
/-- the skills of those who are ready and do not refuse -/
def fiW (wk : Nat → Nat → Int32) : List Nat → List Int32 → List Int32
  | [], W => W
  | n :: r, W => if rdy (wk n) && decide (wk n 4 = 0) then fiW wk r (wk n 2 :: W) else fiW wk r W
def hFillable (S : zHS) : zAns × zHS := (.inr (nI (cw (fiW S.2.1 S.1 []) 31) - nI (zlo (fiW S.2.1 S.1 []) (hPl S) 32)), S)
theorem zb_tt {v : Bool} (h : ¬ zb v = 0) : v = true := by cases v <;> first | rfl | exact absurd rfl h
section ZH9
variable {l : Launch} {z : zT} {w : zW} {a0 nn : Nat} {S : zHS}
theorem o_workers (hl : l.stackTraces = false) (h : HH z a0 nn w S) : ZO l z mX2_workers a0 nn nn [] w S ((.inr (nI S.1.length), S)) := by
  have hHH := h
  obtain ⟨ts, wk, hi, co, gu, nd⟩ := S
  obtain ⟨ad, tb, tk, W, P, rfl, h, m7, hm7, hm8, hlt⟩ := h
  dsimp only at h hm8 hlt
  have hH := h
  obtain ⟨b0, b1, b3, b5, bM, b10, b11, b12, am, al, an, hc8⟩ := h
  refine zbody (M := mX2_workers) (L0 := [_]) hl (by simp [Value.category]) (Nat.le_of_ble_eq_true rfl) (by decide +kernel) rfl ?_
  intro p e s m args below meth c C hX hnm hret
  replace C : zC z p l s m args meth c cX2_workers RX2 1 := C
  replace hret : meth.sig.returnType = (some .int) := hret
  obtain ⟨md1, rb1, e1, -⟩ := id b1
  rw [List.length_map] at e1
  refine z_aload_n C dX2_workers_0 rfl ?_
  refine z_getf C zf_X2_10 dX2_workers_1 (by first | assumption | exact zk_eq | exact zk_ne (by first | assumption | exact zk_eq | exact zk_ne (by first | assumption | exact zk_eq | exact zk_ne (by first | assumption | exact zk_eq | exact zk_ne (by first | assumption | exact zk_eq | exact zk_ne (by first | assumption | exact zk_eq) (by first | decide | omega)) (by first | decide | omega)) (by first | decide | omega)) (by first | decide | omega)) (by first | decide | omega)) (by rfl) ?_
  refine z_callV C zm_Jx4a65c_size_8abf5 zl_X2_67 (c_size hl e1) dX2_workers_4 (by first | assumption | exact zk_eq | exact zk_ne (by first | assumption | exact zk_eq | exact zk_ne (by first | assumption | exact zk_eq | exact zk_ne (by first | assumption | exact zk_eq | exact zk_ne (by first | assumption | exact zk_eq | exact zk_ne (by first | assumption | exact zk_eq) (by first | decide | omega)) (by first | decide | omega)) (by first | decide | omega)) (by first | decide | omega)) (by first | decide | omega)) (by rfl) (by rfl) (by rfl) (by exact Nat.le_of_ble_eq_true rfl) rfl (by exact ⟨Nat.le_of_ble_eq_true rfl, Nat.le_of_ble_eq_true rfl⟩) (by first | exact ⟨Nat.le_of_ble_eq_true rfl, Nat.le_of_ble_eq_true rfl⟩ | (simp only [zrm]; omega)) (fun _ _ h => z_xno h) (fun r w1 hq => ?_)
  obtain ⟨rfl, rfl⟩ := hq
  refine z_iret C hret dX2_workers_7 (by first | exact Nat.le_of_ble_eq_true rfl | omega) (by first | exact Nat.le_of_ble_eq_true rfl | omega) ?_
  exact ZO.fin rfl hHH (zFh.refl _)
theorem o_places (hl : l.stackTraces = false) (h : HH z a0 nn w S) : ZO l z mX2_places a0 nn nn [] w S ((.inr (S.2.2.1 8), S)) := by
  have hHH := h
  obtain ⟨ts, wk, hi, co, gu, nd⟩ := S
  obtain ⟨ad, tb, tk, W, P, rfl, h, m7, hm7, hm8, hlt⟩ := h
  dsimp only at h hm8 hlt
  have hH := h
  obtain ⟨b0, b1, b3, b5, bM, b10, b11, b12, am, al, an, hc8⟩ := h
  refine zbody (M := mX2_places) (L0 := [_]) hl (by simp [Value.category]) (Nat.le_of_ble_eq_true rfl) (by decide +kernel) rfl ?_
  intro p e s m args below meth c C hX hnm hret
  replace C : zC z p l s m args meth c cX2_places RX2 1 := C
  replace hret : meth.sig.returnType = (some .int) := hret
  refine z_aload_n C dX2_places_0 rfl ?_
  refine z_getf C zf_X2_44 dX2_places_1 (by first | assumption | exact zk_eq | exact zk_ne (by first | assumption | exact zk_eq | exact zk_ne (by first | assumption | exact zk_eq | exact zk_ne (by first | assumption | exact zk_eq | exact zk_ne (by first | assumption | exact zk_eq | exact zk_ne (by first | assumption | exact zk_eq) (by first | decide | omega)) (by first | decide | omega)) (by first | decide | omega)) (by first | decide | omega)) (by first | decide | omega)) (by rfl) ?_
  refine z_iret C hret dX2_places_4 (by first | exact Nat.le_of_ble_eq_true rfl | omega) (by first | exact Nat.le_of_ble_eq_true rfl | omega) ?_
  exact ZO.fin rfl hHH (zFh.refl _)
theorem o_workerAt (hl : l.stackTraces = false) (h : HH z a0 nn w S) (x : Int32) : ZO l z mX2_workerAt a0 nn nn [.int x] w S (hWorkerAt S x) := by
  have hHH := h
  obtain ⟨ts, wk, hi, co, gu, nd⟩ := S
  obtain ⟨ad, tb, tk, W, P, rfl, h, m7, hm7, hm8, hlt⟩ := h
  dsimp only at h hm8 hlt
  have hH := h
  obtain ⟨b0, b1, b3, b5, bM, b10, b11, b12, am, al, an, hc8⟩ := h
  refine zbody (M := mX2_workerAt) (L0 := [_, _]) hl (by simp [Value.category]) (Nat.le_of_ble_eq_true rfl) (by decide +kernel) rfl ?_
  intro p e s m args below meth c C hX hnm hret
  replace C : zC z p l s m args meth c cX2_workerAt RX2 2 := C
  replace hret : meth.sig.returnType = (some .int) := hret
  refine z_aload_n C dX2_workerAt_0 rfl ?_
  refine z_iload_n C dX2_workerAt_1 rfl ?_
  refine z_callV C zm_X2_checkPlace zl_X2_169 (c_checkPlace hl hH x) dX2_workerAt_2 (by first | assumption | exact zk_eq | exact zk_ne (by first | assumption | exact zk_eq | exact zk_ne (by first | assumption | exact zk_eq | exact zk_ne (by first | assumption | exact zk_eq | exact zk_ne (by first | assumption | exact zk_eq | exact zk_ne (by first | assumption | exact zk_eq) (by first | decide | omega)) (by first | decide | omega)) (by first | decide | omega)) (by first | decide | omega)) (by first | decide | omega)) (by rfl) (by rfl) (by rfl) (by exact Nat.le_of_ble_eq_true rfl) rfl (by exact ⟨Nat.le_of_ble_eq_true rfl, Nat.le_of_ble_eq_true rfl⟩) (by first | exact ⟨Nat.le_of_ble_eq_true rfl, Nat.le_of_ble_eq_true rfl⟩ | (simp only [zrm]; omega)) (fun E w1 h => z_xout C hX (by obtain ⟨rfl, q, rfl⟩ := h; exact ⟨by simp only [hWorkerAt, if_pos q], hHH, zFh.refl _⟩) (by first | exact Nat.le_of_ble_eq_true rfl | omega) (by first | exact Nat.le_of_ble_eq_true rfl | omega)) (fun r w1 hq => ?_)
  obtain ⟨c1, c2, rfl, rfl⟩ := hq
  refine z_aload_n C dX2_workerAt_5 rfl ?_
  refine z_iload_n C dX2_workerAt_6 rfl ?_
  refine z_callV C zm_X2_holderOf zl_X2_201 (c_holderOf hl hH x) dX2_workerAt_7 (by first | assumption | exact zk_eq | exact zk_ne (by first | assumption | exact zk_eq | exact zk_ne (by first | assumption | exact zk_eq | exact zk_ne (by first | assumption | exact zk_eq | exact zk_ne (by first | assumption | exact zk_eq | exact zk_ne (by first | assumption | exact zk_eq) (by first | decide | omega)) (by first | decide | omega)) (by first | decide | omega)) (by first | decide | omega)) (by first | decide | omega)) (by rfl) (by rfl) (by rfl) (by exact Nat.le_of_ble_eq_true rfl) rfl (by exact ⟨Nat.le_of_ble_eq_true rfl, Nat.le_of_ble_eq_true rfl⟩) (by first | exact ⟨Nat.le_of_ble_eq_true rfl, Nat.le_of_ble_eq_true rfl⟩ | (simp only [zrm]; omega)) (fun _ _ h => z_xno h) (fun r w1 hq => ?_)
  obtain ⟨rfl, rfl⟩ := hq
  refine z_iret C hret dX2_workerAt_10 (by first | exact Nat.le_of_ble_eq_true rfl | omega) (by first | exact Nat.le_of_ble_eq_true rfl | omega) ?_
  exact ZO.fin (by simp only [hWorkerAt, if_neg (show ¬ (x < 0 ∨ ¬ x < hi 8) from fun h => h.elim c1 (fun h => h c2))]) hHH (zFh.refl _)
theorem o_setHours (hl : l.stackTraces = false) (h : HH z a0 nn w S) (x : Int32) : ZO l z mX2_setHours a0 nn nn [.int x] w S (hSetHours S x) := by
  have hHH := h
  obtain ⟨ts, wk, hi, co, gu, nd⟩ := S
  obtain ⟨ad, tb, tk, W, P, rfl, h, m7, hm7, hm8, hlt⟩ := h
  dsimp only at h hm8 hlt
  have hH := h
  obtain ⟨b0, b1, b3, b5, bM, b10, b11, b12, am, al, an, hc8⟩ := h
  refine zbody (M := mX2_setHours) (L0 := [_, _, _]) hl (by simp [Value.category]) (Nat.le_of_ble_eq_true rfl) (by decide +kernel) rfl ?_
  intro p e s m args below meth c C hX hnm hret
  replace C : zC z p l s m args meth c cX2_setHours RX2 3 := C
  replace hret : meth.sig.returnType = (some .int) := hret
  refine z_iload_n C dX2_setHours_0 rfl ?_
  refine z_iconst C (1) dX2_setHours_1 (by decide) ?_
  refine z_icmp_lt C 11 dX2_setHours_2 (by decide) (fun c1 => ?_) (fun c1 => ?_)
  · refine z_throw C zt_149_115 hX dX2_setHours_11 dX2_setHours_14 dX2_setHours_15 dX2_setHours_17 dX2_setHours_20 rfl (by exact Nat.le_of_ble_eq_true rfl) (by exact Nat.le_of_ble_eq_true rfl) (by first | exact Nat.le_of_ble_eq_true rfl | (simp only [zrm]; omega)) (by first | exact Nat.le_of_ble_eq_true rfl | (simp only [zrm]; omega)) (by first | exact Nat.le_of_ble_eq_true rfl | omega) (by first | exact Nat.le_of_ble_eq_true rfl | omega) ?_
    exact ⟨by simp only [hSetHours, if_pos (show x < 1 ∨ 12 < x from Or.inl c1)], hHH, zFh.refl _⟩
  refine z_iload_n C dX2_setHours_5 rfl ?_
  refine z_bipush C (12) dX2_setHours_6 (by decide) ?_
  refine z_icmp_le C 21 dX2_setHours_8 (by decide) (fun c2 => ?_) (fun c2 => ?_)
  · have q1 : ¬ (x < 1 ∨ 12 < x) := fun h => h.elim c1 (fun h => absurd c2 (Int32.not_le.mpr h))
    refine z_aload_n C dX2_setHours_21 rfl ?_
    refine z_callV C zm_X2_checkWorkHasNotBegun zl_X2_151 (c_checkWorkHasNotBegun hl hH) dX2_setHours_22 (by first | assumption | exact zk_eq | exact zk_ne (by first | assumption | exact zk_eq | exact zk_ne (by first | assumption | exact zk_eq | exact zk_ne (by first | assumption | exact zk_eq | exact zk_ne (by first | assumption | exact zk_eq | exact zk_ne (by first | assumption | exact zk_eq) (by first | decide | omega)) (by first | decide | omega)) (by first | decide | omega)) (by first | decide | omega)) (by first | decide | omega)) (by rfl) (by rfl) (by rfl) (by exact Nat.le_of_ble_eq_true rfl) rfl (by exact ⟨Nat.le_of_ble_eq_true rfl, Nat.le_of_ble_eq_true rfl⟩) (by first | exact ⟨Nat.le_of_ble_eq_true rfl, Nat.le_of_ble_eq_true rfl⟩ | (simp only [zrm]; omega)) (fun E w1 h => z_xout C hX (by obtain ⟨rfl, q, rfl⟩ := h; exact ⟨by simp only [hSetHours, if_neg q1, if_neg q], hHH, zFh.refl _⟩) (by first | exact Nat.le_of_ble_eq_true rfl | omega) (by first | exact Nat.le_of_ble_eq_true rfl | omega)) (fun r w1 hq => ?_)
    obtain ⟨q2, rfl, rfl⟩ := hq
    refine z_aload_n C dX2_setHours_25 rfl ?_
    refine z_getf C zf_X2_47 dX2_setHours_26 (by first | assumption | exact zk_eq | exact zk_ne (by first | assumption | exact zk_eq | exact zk_ne (by first | assumption | exact zk_eq | exact zk_ne (by first | assumption | exact zk_eq | exact zk_ne (by first | assumption | exact zk_eq | exact zk_ne (by first | assumption | exact zk_eq) (by first | decide | omega)) (by first | decide | omega)) (by first | decide | omega)) (by first | decide | omega)) (by first | decide | omega)) (by rfl) ?_
    refine z_istore_n C (L1 := [_, _, _]) dX2_setHours_29 (Nat.le_of_ble_eq_true rfl) rfl ?_
    refine z_aload_n C dX2_setHours_30 rfl ?_
    refine z_iload_n C dX2_setHours_31 rfl ?_
    refine z_putf C (fs1 := [_, _, _, _, _, _, _, _, _, _, _, _, _]) zp_X2_47 dX2_setHours_32 (by first | assumption | exact zk_eq | exact zk_ne (by first | assumption | exact zk_eq | exact zk_ne (by first | assumption | exact zk_eq | exact zk_ne (by first | assumption | exact zk_eq | exact zk_ne (by first | assumption | exact zk_eq | exact zk_ne (by first | assumption | exact zk_eq) (by first | decide | omega)) (by first | decide | omega)) (by first | decide | omega)) (by first | decide | omega)) (by first | decide | omega)) (by first | rfl | exact zb_nar _ | assumption) (by first | rfl | exact zb_fit _ | assumption) (by exact Nat.le_of_ble_eq_true rfl) (by rfl) ?_
    refine z_iload_n C dX2_setHours_35 rfl ?_
    refine z_iret C hret dX2_setHours_36 (by first | exact Nat.le_of_ble_eq_true rfl | omega) (by first | exact Nat.le_of_ble_eq_true rfl | omega) ?_
    exact ZO.fin (S1 := (ts, wk, va_up hi 9 x, co, gu, nd)) (by simp only [hSetHours, if_neg q1, if_pos q2]) ⟨ad, tb, tk, W, P, rfl, hH.hal (hi1 := va_up hi 9 x) zk_eq (fun j hj => va_up_ne _ _ hj) hc8, m7, hm7, hm8, hlt⟩ (fun j j1 j2 => va_up_ne _ _ (by omega))
  · refine z_throw C zt_149_115 hX dX2_setHours_11 dX2_setHours_14 dX2_setHours_15 dX2_setHours_17 dX2_setHours_20 rfl (by exact Nat.le_of_ble_eq_true rfl) (by exact Nat.le_of_ble_eq_true rfl) (by first | exact Nat.le_of_ble_eq_true rfl | (simp only [zrm]; omega)) (by first | exact Nat.le_of_ble_eq_true rfl | (simp only [zrm]; omega)) (by first | exact Nat.le_of_ble_eq_true rfl | omega) (by first | exact Nat.le_of_ble_eq_true rfl | omega) ?_
    exact ⟨by simp only [hSetHours, if_pos (show x < 1 ∨ 12 < x from Or.inr (Int32.not_le.mp c2))], hHH, zFh.refl _⟩
theorem o_leave (hl : l.stackTraces = false) (h : HH z a0 nn w S) (x y : Int32) : ZO l z mX2_leave a0 nn nn [.int x, .int y] w S (hLeave S x y) := by
  have hHH := h
  obtain ⟨ts, wk, hi, co, gu, nd⟩ := S
  obtain ⟨ad, tb, tk, W, P, rfl, h, m7, hm7, hm8, hlt⟩ := h
  dsimp only at h hm8 hlt
  have hH := h
  obtain ⟨b0, b1, b3, b5, bM, b10, b11, b12, am, al, an, hc8⟩ := h
  refine zbody (M := mX2_leave) (L0 := [_, _, _, _, _]) hl (by simp [Value.category]) (Nat.le_of_ble_eq_true rfl) (by decide +kernel) rfl ?_
  intro p e s m args below meth c C hX hnm hret
  replace C : zC z p l s m args meth c cX2_leave RX2 5 := C
  replace hret : meth.sig.returnType = (some .int) := hret
  refine z_aload_n C dX2_leave_0 rfl ?_
  refine z_iload_n C dX2_leave_1 rfl ?_
  refine z_callV C zm_X2_find zl_X2_90 (c_find hl hH x) dX2_leave_2 (by first | assumption | exact zk_eq | exact zk_ne (by first | assumption | exact zk_eq | exact zk_ne (by first | assumption | exact zk_eq | exact zk_ne (by first | assumption | exact zk_eq | exact zk_ne (by first | assumption | exact zk_eq | exact zk_ne (by first | assumption | exact zk_eq) (by first | decide | omega)) (by first | decide | omega)) (by first | decide | omega)) (by first | decide | omega)) (by first | decide | omega)) (by rfl) (by rfl) (by rfl) (by exact Nat.le_of_ble_eq_true rfl) rfl (by exact ⟨Nat.le_of_ble_eq_true rfl, Nat.le_of_ble_eq_true rfl⟩) (by first | exact ⟨Nat.le_of_ble_eq_true rfl, Nat.le_of_ble_eq_true rfl⟩ | (simp only [zrm]; omega)) (fun E w1 h => z_xout C hX (by obtain ⟨rfl, q, rfl⟩ := h; exact ⟨by simp only [hLeave, q], hHH, zFh.refl _⟩) (by first | exact Nat.le_of_ble_eq_true rfl | omega) (by first | exact Nat.le_of_ble_eq_true rfl | omega)) (fun r w1 hq => ?_)
  obtain ⟨n, hn, -, hf, rfl, rfl⟩ := hq
  have en := (am n hn).1
  refine z_astore_n C (L1 := [_, _, _, _, _]) dX2_leave_5 (Nat.le_of_ble_eq_true rfl) rfl ?_
  refine z_iload_n C dX2_leave_6 rfl ?_
  refine z_if_lt C 18 dX2_leave_7 (by decide) (fun c1 => ?_) (fun c1 => ?_)
  · refine z_throw C zt_154_115 hX dX2_leave_18 dX2_leave_21 dX2_leave_22 dX2_leave_24 dX2_leave_27 rfl (by exact Nat.le_of_ble_eq_true rfl) (by exact Nat.le_of_ble_eq_true rfl) (by first | exact Nat.le_of_ble_eq_true rfl | (simp only [zrm]; omega)) (by first | exact Nat.le_of_ble_eq_true rfl | (simp only [zrm]; omega)) (by first | exact Nat.le_of_ble_eq_true rfl | omega) (by first | exact Nat.le_of_ble_eq_true rfl | omega) ?_
    exact ⟨by simp only [hLeave, hf, if_pos (show y < 0 ∨ hi 9 < y from Or.inl c1)], hHH, zFh.refl _⟩
  refine z_iload_n C dX2_leave_10 rfl ?_
  refine z_aload_n C dX2_leave_11 rfl ?_
  refine z_getf C zf_X2_47 dX2_leave_12 (by first | assumption | exact zk_eq | exact zk_ne (by first | assumption | exact zk_eq | exact zk_ne (by first | assumption | exact zk_eq | exact zk_ne (by first | assumption | exact zk_eq | exact zk_ne (by first | assumption | exact zk_eq | exact zk_ne (by first | assumption | exact zk_eq) (by first | decide | omega)) (by first | decide | omega)) (by first | decide | omega)) (by first | decide | omega)) (by first | decide | omega)) (by rfl) ?_
  refine z_icmp_le C 28 dX2_leave_15 (by decide) (fun c2 => ?_) (fun c2 => ?_)
  · have q1 : ¬ (y < 0 ∨ hi 9 < y) := fun h => h.elim c1 (fun h => absurd c2 (Int32.not_le.mpr h))
    refine z_aload_n C dX2_leave_28 rfl ?_
    refine z_callV C zm_X1_isAtWork zl_X2_156 (c_isAtWork hl en) dX2_leave_29 (by first | assumption | exact zk_eq | exact zk_ne (by first | assumption | exact zk_eq | exact zk_ne (by first | assumption | exact zk_eq | exact zk_ne (by first | assumption | exact zk_eq | exact zk_ne (by first | assumption | exact zk_eq | exact zk_ne (by first | assumption | exact zk_eq) (by first | decide | omega)) (by first | decide | omega)) (by first | decide | omega)) (by first | decide | omega)) (by first | decide | omega)) (by rfl) (by rfl) (by rfl) (by exact Nat.le_of_ble_eq_true rfl) rfl (by exact ⟨Nat.le_of_ble_eq_true rfl, Nat.le_of_ble_eq_true rfl⟩) (by first | exact ⟨Nat.le_of_ble_eq_true rfl, Nat.le_of_ble_eq_true rfl⟩ | (simp only [zrm]; omega)) (fun _ _ h => z_xno h) (fun r w1 hq => ?_)
    obtain ⟨rfl, rfl⟩ := hq
    refine z_if_eq C 43 dX2_leave_32 (by decide) (fun c3 => ?_) (fun c3 => ?_)
    · refine z_throw C zt_160_71 hX dX2_leave_43 dX2_leave_46 dX2_leave_47 dX2_leave_49 dX2_leave_52 rfl (by exact Nat.le_of_ble_eq_true rfl) (by exact Nat.le_of_ble_eq_true rfl) (by first | exact Nat.le_of_ble_eq_true rfl | (simp only [zrm]; omega)) (by first | exact Nat.le_of_ble_eq_true rfl | (simp only [zrm]; omega)) (by first | exact Nat.le_of_ble_eq_true rfl | omega) (by first | exact Nat.le_of_ble_eq_true rfl | omega) ?_
      exact ⟨by simp only [hLeave, hf, if_neg q1, if_pos (show wk n 7 = -1 ∨ y < hi 10 from Or.inl (by simpa using zb_eq0.mp c3))], hHH, zFh.refl _⟩
    have c4 : ¬ wk n 7 = -1 := by simpa using zb_tt c3
    refine z_iload_n C dX2_leave_35 rfl ?_
    refine z_aload_n C dX2_leave_36 rfl ?_
    refine z_getf C zf_X2_50 dX2_leave_37 (by first | assumption | exact zk_eq | exact zk_ne (by first | assumption | exact zk_eq | exact zk_ne (by first | assumption | exact zk_eq | exact zk_ne (by first | assumption | exact zk_eq | exact zk_ne (by first | assumption | exact zk_eq | exact zk_ne (by first | assumption | exact zk_eq) (by first | decide | omega)) (by first | decide | omega)) (by first | decide | omega)) (by first | decide | omega)) (by first | decide | omega)) (by rfl) ?_
    refine z_icmp_ge C 53 dX2_leave_40 (by decide) (fun c5 => ?_) (fun c5 => ?_)
    · have q2 : ¬ (wk n 7 = -1 ∨ y < hi 10) := fun h => h.elim c4 (fun h => absurd c5 (Int32.not_le.mpr h))
      refine z_aload_n C dX2_leave_53 rfl ?_
      refine z_getf C zf_X2_162 dX2_leave_54 (by first | assumption | exact zk_eq | exact zk_ne (by first | assumption | exact zk_eq | exact zk_ne (by first | assumption | exact zk_eq | exact zk_ne (by first | assumption | exact zk_eq | exact zk_ne (by first | assumption | exact zk_eq | exact zk_ne (by first | assumption | exact zk_eq) (by first | decide | omega)) (by first | decide | omega)) (by first | decide | omega)) (by first | decide | omega)) (by first | decide | omega)) (by rfl) ?_
      refine z_istore C (L1 := [_, _, _, _, _]) dX2_leave_57 (Nat.le_of_ble_eq_true rfl) rfl ?_
      refine z_aload_n C dX2_leave_59 rfl ?_
      refine z_iload_n C dX2_leave_60 rfl ?_
      refine z_putf C (fs1 := [_, _, _, _, _, _, _, _, _, _, _, _, _]) zp_X2_50 dX2_leave_61 (by first | assumption | exact zk_eq | exact zk_ne (by first | assumption | exact zk_eq | exact zk_ne (by first | assumption | exact zk_eq | exact zk_ne (by first | assumption | exact zk_eq | exact zk_ne (by first | assumption | exact zk_eq | exact zk_ne (by first | assumption | exact zk_eq) (by first | decide | omega)) (by first | decide | omega)) (by first | decide | omega)) (by first | decide | omega)) (by first | decide | omega)) (by first | rfl | exact zb_nar _ | assumption) (by first | rfl | exact zb_fit _ | assumption) (by exact Nat.le_of_ble_eq_true rfl) (by rfl) ?_
      have hX1 := hH.hal (hi1 := va_up hi 10 y) (w1 := va_up w1 0 (some (ad 0, zHc ad (va_up hi 10 y)))) zk_eq (fun j hj => va_up_ne _ _ hj) hc8
      have en1 := (va_up_ne w1 (some (ad 0, zHc ad (va_up hi 10 y))) (show 100 + n ≠ 0 by omega)).trans en
      refine z_aload_n C dX2_leave_64 rfl ?_
      refine z_dup C dX2_leave_65 rfl ?_
      refine z_getf C zf_X2_53 dX2_leave_66 (by first | assumption | exact zk_eq | exact zk_ne (by first | assumption | exact zk_eq | exact zk_ne (by first | assumption | exact zk_eq | exact zk_ne (by first | assumption | exact zk_eq | exact zk_ne (by first | assumption | exact zk_eq | exact zk_ne (by first | assumption | exact zk_eq) (by first | decide | omega)) (by first | decide | omega)) (by first | decide | omega)) (by first | decide | omega)) (by first | decide | omega)) (by rfl) ?_
      refine z_aload_n C dX2_leave_69 rfl ?_
      refine z_iload_n C dX2_leave_70 rfl ?_
      refine z_callV C zm_X1_stopWork zl_X2_165 (c_stopWork hl en1 y) dX2_leave_71 (by first | assumption | exact zk_eq | exact zk_ne (by first | assumption | exact zk_eq | exact zk_ne (by first | assumption | exact zk_eq | exact zk_ne (by first | assumption | exact zk_eq | exact zk_ne (by first | assumption | exact zk_eq | exact zk_ne (by first | assumption | exact zk_eq) (by first | decide | omega)) (by first | decide | omega)) (by first | decide | omega)) (by first | decide | omega)) (by first | decide | omega)) (by rfl) (by rfl) (by rfl) (by exact Nat.le_of_ble_eq_true rfl) rfl (by exact ⟨Nat.le_of_ble_eq_true rfl, Nat.le_of_ble_eq_true rfl⟩) (by first | exact ⟨Nat.le_of_ble_eq_true rfl, Nat.le_of_ble_eq_true rfl⟩ | (simp only [zrm]; omega)) (fun _ _ h => z_xno h) (fun r w2 hq => ?_)
      obtain ⟨rfl, rfl⟩ := hq
      have hX2 := hX1.wrk (n := n) (w1 := va_up (va_up w1 0 (some (ad 0, zHc ad (va_up hi 10 y)))) (100 + n) (some (zWa ad n, zWc (va_up (va_up (wk n) 5 (wk n 5 + (y - wk n 8))) 7 (-1))))) zk_eq (fun j hj => va_up_ne _ _ hj) (am n hn).2
      have e02 := hX2.1
      refine z_iadd C dX2_leave_74 ?_
      refine z_putf C (fs1 := [_, _, _, _, _, _, _, _, _, _, _, _, _]) zp_X2_53 dX2_leave_75 (by first | assumption | exact zk_eq | exact zk_ne (by first | assumption | exact zk_eq | exact zk_ne (by first | assumption | exact zk_eq | exact zk_ne (by first | assumption | exact zk_eq | exact zk_ne (by first | assumption | exact zk_eq | exact zk_ne (by first | assumption | exact zk_eq) (by first | decide | omega)) (by first | decide | omega)) (by first | decide | omega)) (by first | decide | omega)) (by first | decide | omega)) (by first | rfl | exact zb_nar _ | assumption) (by first | rfl | exact zb_fit _ | assumption) (by exact Nat.le_of_ble_eq_true rfl) (by rfl) ?_
      refine z_iload C dX2_leave_78 rfl ?_
      refine z_iret C hret dX2_leave_80 (by first | exact Nat.le_of_ble_eq_true rfl | omega) (by first | exact Nat.le_of_ble_eq_true rfl | omega) ?_
      have hX3 := hX2.hal (hi1 := va_up (va_up hi 10 y) 11 (hi 11 + (y - wk n 8))) (w1 := va_up (va_up (va_up w1 0 (some (ad 0, zHc ad (va_up hi 10 y)))) (100 + n) (some (zWa ad n, zWc (va_up (va_up (wk n) 5 (wk n 5 + (y - wk n 8))) 7 (-1))))) 0 (some (ad 0, zHc ad (va_up (va_up hi 10 y) 11 (hi 11 + (y - wk n 8)))))) zk_eq (fun j hj => va_up_ne _ _ hj) hc8
      exact ZO.fin (S1 := (ts, zend wk n y, va_up (va_up hi 10 y) 11 (hi 11 + (y - wk n 8)), co, gu, nd)) (by simp only [hLeave, hf, if_neg q1, if_neg q2]) ⟨ad, tb, tk, W, P, rfl, hX3, m7, hm7, hm8, hlt⟩ (fun j j1 j2 => (va_up_ne _ _ (by omega)).trans ((va_up_ne _ _ (by omega)).trans (va_up_ne _ _ (by omega))))
    · refine z_throw C zt_160_71 hX dX2_leave_43 dX2_leave_46 dX2_leave_47 dX2_leave_49 dX2_leave_52 rfl (by exact Nat.le_of_ble_eq_true rfl) (by exact Nat.le_of_ble_eq_true rfl) (by first | exact Nat.le_of_ble_eq_true rfl | (simp only [zrm]; omega)) (by first | exact Nat.le_of_ble_eq_true rfl | (simp only [zrm]; omega)) (by first | exact Nat.le_of_ble_eq_true rfl | omega) (by first | exact Nat.le_of_ble_eq_true rfl | omega) ?_
      exact ⟨by simp only [hLeave, hf, if_neg q1, if_pos (show wk n 7 = -1 ∨ y < hi 10 from Or.inr (Int32.not_le.mp c5))], hHH, zFh.refl _⟩
  · refine z_throw C zt_154_115 hX dX2_leave_18 dX2_leave_21 dX2_leave_22 dX2_leave_24 dX2_leave_27 rfl (by exact Nat.le_of_ble_eq_true rfl) (by exact Nat.le_of_ble_eq_true rfl) (by first | exact Nat.le_of_ble_eq_true rfl | (simp only [zrm]; omega)) (by first | exact Nat.le_of_ble_eq_true rfl | (simp only [zrm]; omega)) (by first | exact Nat.le_of_ble_eq_true rfl | omega) (by first | exact Nat.le_of_ble_eq_true rfl | omega) ?_
    exact ⟨by simp only [hLeave, hf, if_pos (show y < 0 ∨ hi 9 < y from Or.inr (Int32.not_le.mp c2))], hHH, zFh.refl _⟩
theorem o_rankOf (hl : l.stackTraces = false) (h : HH z a0 nn w S) (x : Int32) : ZO l z mX2_rankOf a0 nn nn [.int x] w S (hRankOf S x) := by
  have hHH := h
  obtain ⟨ts, wk, hi, co, gu, nd⟩ := S
  obtain ⟨ad, tb, tk, W, P, rfl, h, m7, hm7, hm8, hlt⟩ := h
  dsimp only at h hm8 hlt
  have hH := h
  obtain ⟨b0, b1, b3, b5, bM, b10, b11, b12, am, al, an, hc8⟩ := h
  refine zbody (M := mX2_rankOf) (L0 := [_, _, _, _, _]) hl (by simp [Value.category]) (Nat.le_of_ble_eq_true rfl) (by decide +kernel) rfl ?_
  intro p e s m args below meth c C hX hnm hret
  replace C : zC z p l s m args meth c cX2_rankOf RX2 5 := C
  replace hret : meth.sig.returnType = (some .int) := hret
  obtain ⟨md1, rb1, e1, -⟩ := id b1
  rw [List.length_map] at e1
  refine z_aload_n C dX2_rankOf_0 rfl ?_
  refine z_iload_n C dX2_rankOf_1 rfl ?_
  refine z_callV C zm_X2_find zl_X2_90 (c_find hl hH x) dX2_rankOf_2 (by first | assumption | exact zk_eq | exact zk_ne (by first | assumption | exact zk_eq | exact zk_ne (by first | assumption | exact zk_eq | exact zk_ne (by first | assumption | exact zk_eq | exact zk_ne (by first | assumption | exact zk_eq | exact zk_ne (by first | assumption | exact zk_eq) (by first | decide | omega)) (by first | decide | omega)) (by first | decide | omega)) (by first | decide | omega)) (by first | decide | omega)) (by rfl) (by rfl) (by rfl) (by exact Nat.le_of_ble_eq_true rfl) rfl (by exact ⟨Nat.le_of_ble_eq_true rfl, Nat.le_of_ble_eq_true rfl⟩) (by first | exact ⟨Nat.le_of_ble_eq_true rfl, Nat.le_of_ble_eq_true rfl⟩ | (simp only [zrm]; omega)) (fun E w1 h => z_xout C hX (by obtain ⟨rfl, q, rfl⟩ := h; exact ⟨by simp only [hRankOf, q], hHH, zFh.refl _⟩) (by first | exact Nat.le_of_ble_eq_true rfl | omega) (by first | exact Nat.le_of_ble_eq_true rfl | omega)) (fun r w1 hq => ?_)
  obtain ⟨n, hn, -, hf, rfl, rfl⟩ := hq
  have en := (am n hn).1
  have hrl := rnk_le (wk := wk) (n := n) ts
  refine z_inj (fun hinj => ?_)
  refine z_astore_n C (L1 := [_, _, _, _, _]) dX2_rankOf_5 (Nat.le_of_ble_eq_true rfl) rfl ?_
  refine z_iconst C (0) dX2_rankOf_6 (by decide) ?_
  refine z_istore_n C (L1 := [_, _, _, _, _]) dX2_rankOf_7 (Nat.le_of_ble_eq_true rfl) rfl ?_
  refine z_iconst C (0) dX2_rankOf_8 (by decide) ?_
  refine z_istore C (L1 := [_, _, _, _, _]) dX2_rankOf_9 (Nat.le_of_ble_eq_true rfl) rfl ?_
  refine z_ind (σ := Nat × Nat) (fun x => x.1 ≤ ts.length ∧ x.2 + rnk wk n (ts.drop x.1) = rnk wk n ts) (fun x => ts.length - x.1) (fun _ => 0 + 1) (fun _ => 0 + 6)
    (fun y => [some (.ref (ad 0)), some (.int x), some (.ref (zWa ad n)), some (.int (nI y.2)), some (.int (nI y.1))]) (fun _ => w1) (0, 0) ⟨Nat.zero_le _, Nat.zero_add _⟩ ?_
  rintro ⟨i, d⟩ ⟨q1, q2⟩ ih
  dsimp only at q1 q2 ih ⊢
  refine z_iload C dX2_rankOf_11 rfl ?_
  refine z_aload_n C dX2_rankOf_13 rfl ?_
  refine z_getf C zf_X2_10 dX2_rankOf_14 (by first | assumption | exact zk_eq | exact zk_ne (by first | assumption | exact zk_eq | exact zk_ne (by first | assumption | exact zk_eq | exact zk_ne (by first | assumption | exact zk_eq | exact zk_ne (by first | assumption | exact zk_eq | exact zk_ne (by first | assumption | exact zk_eq) (by first | decide | omega)) (by first | decide | omega)) (by first | decide | omega)) (by first | decide | omega)) (by first | decide | omega)) (by rfl) ?_
  refine z_callV C zm_Jx4a65c_size_8abf5 zl_X2_67 (c_size hl e1) dX2_rankOf_17 (by first | assumption | exact zk_eq | exact zk_ne (by first | assumption | exact zk_eq | exact zk_ne (by first | assumption | exact zk_eq | exact zk_ne (by first | assumption | exact zk_eq | exact zk_ne (by first | assumption | exact zk_eq | exact zk_ne (by first | assumption | exact zk_eq) (by first | decide | omega)) (by first | decide | omega)) (by first | decide | omega)) (by first | decide | omega)) (by first | decide | omega)) (by rfl) (by rfl) (by rfl) (by exact Nat.le_of_ble_eq_true rfl) rfl (by exact ⟨Nat.le_of_ble_eq_true rfl, Nat.le_of_ble_eq_true rfl⟩) (by first | exact ⟨Nat.le_of_ble_eq_true rfl, Nat.le_of_ble_eq_true rfl⟩ | (simp only [zrm]; omega)) (fun _ _ h => z_xno h) (fun r w1 hq => ?_)
  obtain ⟨rfl, rfl⟩ := hq
  have fin : d = rnk wk n ts → ∀ hd : d < 1000, ∃ x2 : Int32, (hRankOf (ts, wk, hi, co, gu, nd) x).1 = .inr x2 ∧ some (Value.int (nI d)) = some (.int x2) ∧ HH z (ad 0) nn w1 (hRankOf (ts, wk, hi, co, gu, nd) x).2 ∧ zFh w1 w1 := fun h _ => ZO.fin (S1 := (ts, wk, hi, co, gu, nd)) (by simp only [hRankOf, hf, h]) hHH (zFh.refl _)
  refine z_icmp_ge C 67 dX2_rankOf_20 (by decide) (fun c1 => ?_) (fun c1 => ?_)
  · have hi2 := ge_of_ge (by omega) (by omega) c1
    refine z_iload_n C dX2_rankOf_67 rfl ?_
    refine z_iret C hret dX2_rankOf_68 (by first | exact Nat.le_of_ble_eq_true rfl | omega) (by first | exact Nat.le_of_ble_eq_true rfl | omega) ?_
    rw [List.drop_eq_nil_of_le hi2] at q2
    exact fin q2 (by omega)
  have hi2 : i < ts.length := lt_of_nge (by omega) (by omega) c1
  rw [List.drop_eq_getElem_cons hi2] at q2
  simp only [rnk] at q2
  have ex := hH.wk1 hi2
  refine z_aload_n C dX2_rankOf_23 rfl ?_
  refine z_getf C zf_X2_10 dX2_rankOf_24 (by first | assumption | exact zk_eq | exact zk_ne (by first | assumption | exact zk_eq | exact zk_ne (by first | assumption | exact zk_eq | exact zk_ne (by first | assumption | exact zk_eq | exact zk_ne (by first | assumption | exact zk_eq | exact zk_ne (by first | assumption | exact zk_eq) (by first | decide | omega)) (by first | decide | omega)) (by first | decide | omega)) (by first | decide | omega)) (by first | decide | omega)) (by rfl) ?_
  refine z_iload C dX2_rankOf_27 rfl ?_
  refine z_callV C zm_Jx4a65c_get_915e3 zl_X2_123 (c_get (i := i) hl b1 (by simpa using hi2)) dX2_rankOf_29 (by first | assumption | exact zk_eq | exact zk_ne (by first | assumption | exact zk_eq | exact zk_ne (by first | assumption | exact zk_eq | exact zk_ne (by first | assumption | exact zk_eq | exact zk_ne (by first | assumption | exact zk_eq | exact zk_ne (by first | assumption | exact zk_eq) (by first | decide | omega)) (by first | decide | omega)) (by first | decide | omega)) (by first | decide | omega)) (by first | decide | omega)) (by rfl) (by rfl) (by rfl) (by exact Nat.le_of_ble_eq_true rfl) rfl (by exact ⟨Nat.le_of_ble_eq_true rfl, Nat.le_of_ble_eq_true rfl⟩) (by first | exact ⟨Nat.le_of_ble_eq_true rfl, Nat.le_of_ble_eq_true rfl⟩ | (simp only [zrm]; omega)) (fun _ _ h => z_xno h) (fun r w1 hq => ?_)
  obtain ⟨rfl, rfl⟩ := hq
  rw [List.getElem_map]
  refine z_aload_n C dX2_rankOf_32 rfl ?_
  refine z_acmp_eq C 67 dX2_rankOf_33 (by decide) (fun c2 => ?_) (fun c2 => ?_)
  · have he : ts[i] = n := by
      have := hinj _ _ _ _ ex en c2
      omega
    rw [if_pos he] at q2
    refine z_iload_n C dX2_rankOf_67 rfl ?_
    refine z_iret C hret dX2_rankOf_68 (by first | exact Nat.le_of_ble_eq_true rfl | omega) (by first | exact Nat.le_of_ble_eq_true rfl | omega) ?_
    exact fin q2 (by omega)
  have he : ¬ ts[i] = n := fun q => c2 (by rw [q])
  rw [if_neg he] at q2
  refine z_aload_n C dX2_rankOf_36 rfl ?_
  refine z_getf C zf_X2_10 dX2_rankOf_37 (by first | assumption | exact zk_eq | exact zk_ne (by first | assumption | exact zk_eq | exact zk_ne (by first | assumption | exact zk_eq | exact zk_ne (by first | assumption | exact zk_eq | exact zk_ne (by first | assumption | exact zk_eq | exact zk_ne (by first | assumption | exact zk_eq) (by first | decide | omega)) (by first | decide | omega)) (by first | decide | omega)) (by first | decide | omega)) (by first | decide | omega)) (by rfl) ?_
  refine z_iload C dX2_rankOf_40 rfl ?_
  refine z_callV C zm_Jx4a65c_get_915e3 zl_X2_123 (c_get (i := i) hl b1 (by simpa using hi2)) dX2_rankOf_42 (by first | assumption | exact zk_eq | exact zk_ne (by first | assumption | exact zk_eq | exact zk_ne (by first | assumption | exact zk_eq | exact zk_ne (by first | assumption | exact zk_eq | exact zk_ne (by first | assumption | exact zk_eq | exact zk_ne (by first | assumption | exact zk_eq) (by first | decide | omega)) (by first | decide | omega)) (by first | decide | omega)) (by first | decide | omega)) (by first | decide | omega)) (by rfl) (by rfl) (by rfl) (by exact Nat.le_of_ble_eq_true rfl) rfl (by exact ⟨Nat.le_of_ble_eq_true rfl, Nat.le_of_ble_eq_true rfl⟩) (by first | exact ⟨Nat.le_of_ble_eq_true rfl, Nat.le_of_ble_eq_true rfl⟩ | (simp only [zrm]; omega)) (fun _ _ h => z_xno h) (fun r w1 hq => ?_)
  obtain ⟨rfl, rfl⟩ := hq
  rw [List.getElem_map]
  refine z_castW C zk_X2_78 dX2_rankOf_45 (by first | assumption | exact zk_eq | exact zk_ne (by first | assumption | exact zk_eq | exact zk_ne (by first | assumption | exact zk_eq | exact zk_ne (by first | assumption | exact zk_eq | exact zk_ne (by first | assumption | exact zk_eq | exact zk_ne (by first | assumption | exact zk_eq) (by first | decide | omega)) (by first | decide | omega)) (by first | decide | omega)) (by first | decide | omega)) (by first | decide | omega)) ?_
  refine z_getf C zf_X2_106 dX2_rankOf_48 (by first | assumption | exact zk_eq | exact zk_ne (by first | assumption | exact zk_eq | exact zk_ne (by first | assumption | exact zk_eq | exact zk_ne (by first | assumption | exact zk_eq | exact zk_ne (by first | assumption | exact zk_eq | exact zk_ne (by first | assumption | exact zk_eq) (by first | decide | omega)) (by first | decide | omega)) (by first | decide | omega)) (by first | decide | omega)) (by first | decide | omega)) (by rfl) ?_
  refine z_aload_n C dX2_rankOf_51 rfl ?_
  refine z_getf C zf_X2_106 dX2_rankOf_52 (by first | assumption | exact zk_eq | exact zk_ne (by first | assumption | exact zk_eq | exact zk_ne (by first | assumption | exact zk_eq | exact zk_ne (by first | assumption | exact zk_eq | exact zk_ne (by first | assumption | exact zk_eq | exact zk_ne (by first | assumption | exact zk_eq) (by first | decide | omega)) (by first | decide | omega)) (by first | decide | omega)) (by first | decide | omega)) (by first | decide | omega)) (by rfl) ?_
  refine z_icmp_ne C 61 dX2_rankOf_55 (by decide) (fun c3 => ?_) (fun c3 => ?_)
  · rw [if_neg c3] at q2
    refine z_iinc C (L1 := [_, _, _, _, _]) _ dX2_rankOf_61 rfl (by first | exact zinc | rfl) rfl ?_
    refine z_goto C 11 dX2_rankOf_64 (by decide) ?_
    exact ih (i + 1, d) ⟨hi2, q2⟩ (by show ts.length - (i + 1) < ts.length - i; omega)
  · rw [if_pos c3] at q2
    refine z_iinc C (L1 := [_, _, _, _, _]) _ dX2_rankOf_58 rfl (by first | exact zinc | rfl) rfl ?_
    refine z_iinc C (L1 := [_, _, _, _, _]) _ dX2_rankOf_61 rfl (by first | exact zinc | rfl) rfl ?_
    refine z_goto C 11 dX2_rankOf_64 (by decide) ?_
    exact ih (i + 1, d + 1) ⟨hi2, by dsimp only; omega⟩ (by show ts.length - (i + 1) < ts.length - i; omega)
theorem o_nextUp (hl : l.stackTraces = false) (h : HH z a0 nn w S) (x : Int32) : ZO l z mX2_nextUp a0 nn nn [.int x] w S (hNextUp S x) := by
  have hHH := h
  obtain ⟨ts, wk, hi, co, gu, nd⟩ := S
  obtain ⟨ad, tb, tk, W, P, rfl, h, m7, hm7, hm8, hlt⟩ := h
  dsimp only at h hm8 hlt
  have hH := h
  obtain ⟨b0, b1, b3, b5, bM, b10, b11, b12, am, al, an, hc8⟩ := h
  refine zbody (M := mX2_nextUp) (L0 := [_, _, _, _]) hl (by simp [Value.category]) (Nat.le_of_ble_eq_true rfl) (by decide +kernel) rfl ?_
  intro p e s m args below meth c C hX hnm hret
  replace C : zC z p l s m args meth c cX2_nextUp RX2 4 := C
  replace hret : meth.sig.returnType = (some .int) := hret
  obtain ⟨md1, rb1, e1, -⟩ := id b1
  rw [List.length_map] at e1
  refine z_iload_n C dX2_nextUp_0 rfl ?_
  refine z_callS C zm_X2_checkBoard zl_X2_60 (c_checkBoard hl x) dX2_nextUp_1 (by rfl) (by rfl) (by exact Nat.le_of_ble_eq_true rfl) rfl (by exact ⟨Nat.le_of_ble_eq_true rfl, Nat.le_of_ble_eq_true rfl⟩) (by first | exact ⟨Nat.le_of_ble_eq_true rfl, Nat.le_of_ble_eq_true rfl⟩ | (simp only [zrm]; omega)) (fun E w1 h => z_xout C hX (by obtain ⟨rfl, q, rfl⟩ := h; exact ⟨by simp only [hNextUp, if_pos q], hHH, zFh.refl _⟩) (by first | exact Nat.le_of_ble_eq_true rfl | omega) (by first | exact Nat.le_of_ble_eq_true rfl | omega)) (fun r w1 hq => ?_)
  obtain ⟨c1, c2, rfl, rfl⟩ := hq
  have q0 : ¬ (x < 0 ∨ ¬ x < 4) := fun h => h.elim c1 (fun h => h c2)
  have hr : ∀ v : Int32, v = (match ts.find? (fun n => decide (wk n 1 = x) && rdy (wk n)) with | some n => wk n 0 | none => -1) → ∃ x2 : Int32, (hNextUp (ts, wk, hi, co, gu, nd) x).1 = .inr x2 ∧ some (Value.int v) = some (.int x2) ∧ HH z (ad 0) nn w1 (hNextUp (ts, wk, hi, co, gu, nd) x).2 ∧ zFh w1 w1 := fun v hv => ZO.fin (S1 := (ts, wk, hi, co, gu, nd)) (by simp only [hNextUp, if_neg q0, hv]; rfl) hHH (zFh.refl _)
  refine z_iconst C (0) dX2_nextUp_4 (by decide) ?_
  refine z_istore_n C (L1 := [_, _, _, _]) dX2_nextUp_5 (Nat.le_of_ble_eq_true rfl) rfl ?_
  refine z_ind (σ := Nat) (fun i => i ≤ ts.length ∧ ts.find? (fun n => decide (wk n 1 = x) && rdy (wk n)) = (ts.drop i).find? (fun n => decide (wk n 1 = x) && rdy (wk n))) (fun i => ts.length - i) (fun _ => 0 + 1) (fun _ => 0 + 6)
    (fun i => [some (.ref (ad 0)), some (.int x), some (.int (nI i)), none]) (fun _ => w1) 0 ⟨Nat.zero_le _, rfl⟩ ?_
  rintro i ⟨q1, q2⟩ ih
  refine z_iload_n C dX2_nextUp_6 rfl ?_
  refine z_aload_n C dX2_nextUp_7 rfl ?_
  refine z_getf C zf_X2_10 dX2_nextUp_8 (by first | assumption | exact zk_eq | exact zk_ne (by first | assumption | exact zk_eq | exact zk_ne (by first | assumption | exact zk_eq | exact zk_ne (by first | assumption | exact zk_eq | exact zk_ne (by first | assumption | exact zk_eq | exact zk_ne (by first | assumption | exact zk_eq) (by first | decide | omega)) (by first | decide | omega)) (by first | decide | omega)) (by first | decide | omega)) (by first | decide | omega)) (by rfl) ?_
  refine z_callV C zm_Jx4a65c_size_8abf5 zl_X2_67 (c_size hl e1) dX2_nextUp_11 (by first | assumption | exact zk_eq | exact zk_ne (by first | assumption | exact zk_eq | exact zk_ne (by first | assumption | exact zk_eq | exact zk_ne (by first | assumption | exact zk_eq | exact zk_ne (by first | assumption | exact zk_eq | exact zk_ne (by first | assumption | exact zk_eq) (by first | decide | omega)) (by first | decide | omega)) (by first | decide | omega)) (by first | decide | omega)) (by first | decide | omega)) (by rfl) (by rfl) (by rfl) (by exact Nat.le_of_ble_eq_true rfl) rfl (by exact ⟨Nat.le_of_ble_eq_true rfl, Nat.le_of_ble_eq_true rfl⟩) (by first | exact ⟨Nat.le_of_ble_eq_true rfl, Nat.le_of_ble_eq_true rfl⟩ | (simp only [zrm]; omega)) (fun _ _ h => z_xno h) (fun r w1 hq => ?_)
  obtain ⟨rfl, rfl⟩ := hq
  refine z_icmp_ge C 55 dX2_nextUp_14 (by decide) (fun c3 => ?_) (fun c3 => ?_)
  · have hi2 := ge_of_ge (by omega) (by omega) c3
    refine z_iconst C (-1) dX2_nextUp_55 (by decide) ?_
    refine z_iret C hret dX2_nextUp_56 (by first | exact Nat.le_of_ble_eq_true rfl | omega) (by first | exact Nat.le_of_ble_eq_true rfl | omega) ?_
    exact hr _ (by rw [q2, List.drop_eq_nil_of_le hi2]; rfl)
  have hi2 : i < ts.length := lt_of_nge (by omega) (by omega) c3
  rw [find_drop _ _ _ hi2] at q2
  have ex := hH.wk1 hi2
  refine z_aload_n C dX2_nextUp_17 rfl ?_
  refine z_getf C zf_X2_10 dX2_nextUp_18 (by first | assumption | exact zk_eq | exact zk_ne (by first | assumption | exact zk_eq | exact zk_ne (by first | assumption | exact zk_eq | exact zk_ne (by first | assumption | exact zk_eq | exact zk_ne (by first | assumption | exact zk_eq | exact zk_ne (by first | assumption | exact zk_eq) (by first | decide | omega)) (by first | decide | omega)) (by first | decide | omega)) (by first | decide | omega)) (by first | decide | omega)) (by rfl) ?_
  refine z_iload_n C dX2_nextUp_21 rfl ?_
  refine z_callV C zm_Jx4a65c_get_915e3 zl_X2_123 (c_get (i := i) hl b1 (by simpa using hi2)) dX2_nextUp_22 (by first | assumption | exact zk_eq | exact zk_ne (by first | assumption | exact zk_eq | exact zk_ne (by first | assumption | exact zk_eq | exact zk_ne (by first | assumption | exact zk_eq | exact zk_ne (by first | assumption | exact zk_eq | exact zk_ne (by first | assumption | exact zk_eq) (by first | decide | omega)) (by first | decide | omega)) (by first | decide | omega)) (by first | decide | omega)) (by first | decide | omega)) (by rfl) (by rfl) (by rfl) (by exact Nat.le_of_ble_eq_true rfl) rfl (by exact ⟨Nat.le_of_ble_eq_true rfl, Nat.le_of_ble_eq_true rfl⟩) (by first | exact ⟨Nat.le_of_ble_eq_true rfl, Nat.le_of_ble_eq_true rfl⟩ | (simp only [zrm]; omega)) (fun _ _ h => z_xno h) (fun r w1 hq => ?_)
  obtain ⟨rfl, rfl⟩ := hq
  rw [List.getElem_map]
  refine z_castW C zk_X2_78 dX2_nextUp_25 (by first | assumption | exact zk_eq | exact zk_ne (by first | assumption | exact zk_eq | exact zk_ne (by first | assumption | exact zk_eq | exact zk_ne (by first | assumption | exact zk_eq | exact zk_ne (by first | assumption | exact zk_eq | exact zk_ne (by first | assumption | exact zk_eq) (by first | decide | omega)) (by first | decide | omega)) (by first | decide | omega)) (by first | decide | omega)) (by first | decide | omega)) ?_
  refine z_astore_n C (L1 := [_, _, _, _]) dX2_nextUp_28 (Nat.le_of_ble_eq_true rfl) rfl ?_
  refine z_aload_n C dX2_nextUp_29 rfl ?_
  refine z_getf C zf_X2_106 dX2_nextUp_30 (by first | assumption | exact zk_eq | exact zk_ne (by first | assumption | exact zk_eq | exact zk_ne (by first | assumption | exact zk_eq | exact zk_ne (by first | assumption | exact zk_eq | exact zk_ne (by first | assumption | exact zk_eq | exact zk_ne (by first | assumption | exact zk_eq) (by first | decide | omega)) (by first | decide | omega)) (by first | decide | omega)) (by first | decide | omega)) (by first | decide | omega)) (by rfl) ?_
  refine z_iload_n C dX2_nextUp_33 rfl ?_
  refine z_icmp_ne C 49 dX2_nextUp_34 (by decide) (fun c4 => ?_) (fun c4 => ?_)
  · refine z_iinc C (L1 := [_, _, _, _]) _ dX2_nextUp_49 rfl (by first | exact zinc | rfl) rfl ?_
    refine z_goto C 6 dX2_nextUp_52 (by decide) ?_
    refine z_fgt (ih (i + 1) ⟨hi2, ?_⟩ (by show ts.length - (i + 1) < ts.length - i; omega)) (by simp [zle])
    rw [q2, if_neg (by simp [c4])]
  refine z_aload_n C dX2_nextUp_37 rfl ?_
  refine z_callV C zm_X1_isReady zl_X2_178 (c_isReady hl ex) dX2_nextUp_38 (by first | assumption | exact zk_eq | exact zk_ne (by first | assumption | exact zk_eq | exact zk_ne (by first | assumption | exact zk_eq | exact zk_ne (by first | assumption | exact zk_eq | exact zk_ne (by first | assumption | exact zk_eq | exact zk_ne (by first | assumption | exact zk_eq) (by first | decide | omega)) (by first | decide | omega)) (by first | decide | omega)) (by first | decide | omega)) (by first | decide | omega)) (by rfl) (by rfl) (by rfl) (by exact Nat.le_of_ble_eq_true rfl) rfl (by exact ⟨Nat.le_of_ble_eq_true rfl, Nat.le_of_ble_eq_true rfl⟩) (by first | exact ⟨Nat.le_of_ble_eq_true rfl, Nat.le_of_ble_eq_true rfl⟩ | (simp only [zrm]; omega)) (fun _ _ h => z_xno h) (fun r w1 hq => ?_)
  obtain ⟨rfl, rfl⟩ := hq
  refine z_if_eq C 49 dX2_nextUp_41 (by decide) (fun c5 => ?_) (fun c5 => ?_)
  · have c6 := zb_eq0.mp c5
    refine z_iinc C (L1 := [_, _, _, _]) _ dX2_nextUp_49 rfl (by first | exact zinc | rfl) rfl ?_
    refine z_goto C 6 dX2_nextUp_52 (by decide) ?_
    refine z_fgt (ih (i + 1) ⟨hi2, ?_⟩ (by show ts.length - (i + 1) < ts.length - i; omega)) (by simp [zle])
    rw [q2, if_neg (by simp [c6])]
  have c6 := zb_tt c5
  refine z_aload_n C dX2_nextUp_44 rfl ?_
  refine z_getf C zf_X2_87 dX2_nextUp_45 (by first | assumption | exact zk_eq | exact zk_ne (by first | assumption | exact zk_eq | exact zk_ne (by first | assumption | exact zk_eq | exact zk_ne (by first | assumption | exact zk_eq | exact zk_ne (by first | assumption | exact zk_eq | exact zk_ne (by first | assumption | exact zk_eq) (by first | decide | omega)) (by first | decide | omega)) (by first | decide | omega)) (by first | decide | omega)) (by first | decide | omega)) (by rfl) ?_
  refine z_iret C hret dX2_nextUp_48 (by first | exact Nat.le_of_ble_eq_true rfl | omega) (by first | exact Nat.le_of_ble_eq_true rfl | omega) ?_
  exact hr _ (by rw [q2, if_pos (by simp [c4, c6])])
end ZH9
