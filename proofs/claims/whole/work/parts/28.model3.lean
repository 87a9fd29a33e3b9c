/-! HiringHallModel: countOpen, canAll, gives -/
/-- what skills are: 0 to 4 -/
def zSk (P : List Int32) : Prop := ∀ x ∈ P, ∃ j : Nat, j < 5 ∧ x = nI j
/-- places within the set s by counting skills below i -/
def cpS (P : List Int32) (s : Nat) : Nat → Nat
  | 0 => 0
  | i + 1 => cpS P s i + (if skl (nI s) (nI i) = true then P.count (nI i) else 0)
theorem wi_skl : ∀ s : Nat, s < 32 → ∀ j : Nat, j < 5 → wi (sk1 (nI j)) s = skl (nI s) (nI j) := by decide +kernel
theorem cpS_cons {P : List Int32} {s j : Nat} (hj : j < 5) : ∀ i : Nat, i ≤ 5 → cpS (nI j :: P) s i = cpS P s i + (if j < i ∧ skl (nI s) (nI j) = true then 1 else 0)
  | 0, _ => by simp [cpS]
  | i + 1, hi => by
    have ih := cpS_cons (P := P) (s := s) hj i (by omega)
    simp only [cpS, ih, List.count_cons]
    by_cases e : j = i
    · subst e
      by_cases h : skl (nI s) (nI j) = true
      · simp [h]
        omega
      · simp [h]
    · have e2 : (nI j == nI i) = false := by simpa using nI_ne (by omega) (by omega) e
      rw [e2]
      by_cases h : skl (nI s) (nI j) = true <;> by_cases h2 : skl (nI s) (nI i) = true <;> by_cases h3 : j < i <;> by_cases h4 : j < i + 1 <;> simp [h, h2, h3, h4] <;> omega
theorem cpS_cp {s : Nat} (hs : s < 32) : ∀ P : List Int32, zSk P → cpS P s 5 = cp P s
  | [], _ => by simp [cpS, cp]
  | x :: P, h => by
    obtain ⟨j, hj, rfl⟩ := h x List.mem_cons_self
    rw [cpS_cons hj 5 (Nat.le_refl _), cpS_cp hs P (fun y hy => h y (List.mem_cons_of_mem _ hy)), cp_cons, wi_skl s hs j hj]
    congr 1
    cases skl (nI s) (nI j) <;> simp [zN, hj]
theorem cpS_le {P : List Int32} {s : Nat} : ∀ i : Nat, cpS P s i ≤ i * P.length
  | 0 => Nat.zero_le _
  | i + 1 => by
    have := cpS_le (P := P) (s := s) i
    have h2 : P.count (nI i) ≤ P.length := List.count_le_length
    simp only [cpS, Nat.succ_mul]
    split <;> omega
/-- the row of open places counts P -/
def zOp (v : Nat → Int32) (P : List Int32) : Prop := ∀ s : Nat, s < 5 → v s = nI (P.count (nI s))
theorem zOp.erase {v : Nat → Int32} {P : List Int32} {j : Nat} (h : zOp v P) (hj : j < 5) (hm : nI j ∈ P) : zOp (va_up v j (v j - 1)) (P.erase (nI j)) := by
  intro s hs
  have hc : 0 < P.count (nI j) := List.count_pos_iff.mpr hm
  by_cases e : s = j
  · subst e
    rw [va_up_self, h s hs, List.count_erase_self]
    obtain ⟨n, hn⟩ : ∃ n, P.count (nI s) = n + 1 := ⟨P.count (nI s) - 1, by omega⟩
    rw [hn, nI_pred]
    rfl
  · rw [va_up_ne _ _ e, h s hs, List.count_erase_of_ne (nI_ne (by omega) (by omega) e)]
theorem zSk.erase {P : List Int32} {x : Int32} (h : zSk P) : zSk (P.erase x) := fun y hy => h y (List.mem_of_mem_erase hy)
section ZM3
variable {l : Launch} {z : zT} {w : zW} {bd : Nat → Nat} {g : Nat → Nat → Int32} {f : Nat → Int32}
theorem m_countOpen (hl : l.stackTraces = false) (h : MP z bd g f w) {c9 : Nat} (hc : f 17 = nI c9) (hc16 : c9 ≤ 16) (hn : ∀ i : Nat, i < c9 → ∃ j : Nat, j < 5 ∧ g 13 i = nI j) : ZM l z mX3_countOpen 0 0 0 [.ref (bd 20)] w (fun r w1 => r = none ∧ (∃ v : Nat → Int32, MP z bd (va_up g 17 v) f w1 ∧ zOp v (mOpn g c9)) ∧ zFm w w1) zNo := by
  refine zbody (M := mX3_countOpen) (L0 := [_, _]) hl (by simp [Value.category]) (Nat.le_of_ble_eq_true rfl) (by decide +kernel) rfl ?_
  intro p e s m args below meth c C hX hnm hret
  replace C : zC z p l s m args meth c cX3_countOpen RX3 2 := C
  replace hret : meth.sig.returnType = none := hret
  refine z_iconst C (0) dX3_countOpen_0 (by decide) ?_
  refine z_istore_n C (L1 := [_, _]) dX3_countOpen_1 (Nat.le_of_ble_eq_true rfl) rfl ?_
  refine z_loop (fun n cs ss L w2 => ∃ (i : Nat) (v : Nat → Int32), n = 5 - i ∧ cs = 0 ∧ ss = 0 ∧ L = [some (.ref (bd 20)), some (.int (nI i))] ∧ i ≤ 5 ∧ MP z bd (va_up g 17 v) f w2 ∧ (∀ s : Nat, s < i → v s = 0) ∧ zFm w w2)
    ⟨0, g 17, rfl, rfl, rfl, rfl, Nat.zero_le _, by rw [va_upI]; exact h, fun s hs => absurd hs (Nat.not_lt_zero _), zFm.refl w⟩ ?_
  rintro n cs ss L w2 ⟨i, v, rfl, rfl, rfl, rfl, q1, q2, q3, q4⟩ ih
  have hX := q2
  obtain ⟨m20, m21, m22, m23, m24, m25, m26, m27, m28, m29, m30, m31, m32, m33, m34, m35, m36, m37, m38⟩ := q2.all
  refine z_iload_n C dX3_countOpen_2 rfl ?_
  refine z_iconst C (5) dX3_countOpen_3 (by decide) ?_
  refine z_icmp_ge C 20 dX3_countOpen_4 (by decide) (fun c1 => ?_) (fun c1 => ?_)
  · have hi2 : i = 5 := Nat.le_antisymm q1 (ge_of_ge (by omega) (by omega) c1)
    subst hi2
    refine z_iconst C (0) dX3_countOpen_20 (by decide) ?_
    refine z_istore_n C (L1 := [_, _]) dX3_countOpen_21 (Nat.le_of_ble_eq_true rfl) rfl ?_
    refine z_loop (fun n cs ss L w3 => ∃ (i : Nat) (v2 : Nat → Int32), n = c9 - i ∧ cs = 0 ∧ ss = 0 ∧ L = [some (.ref (bd 20)), some (.int (nI i))] ∧ i ≤ c9 ∧ MP z bd (va_up g 17 v2) f w3 ∧ zOp v2 (mOpn g i) ∧ zFm w w3)
      ⟨0, v, rfl, rfl, rfl, rfl, Nat.zero_le _, hX, fun s hs => q3 s hs, q4⟩ ?_
    rintro n cs ss L w3 ⟨i, v2, rfl, rfl, rfl, rfl, r1, r2, r3, r4⟩ ih2
    have hY := r2
    obtain ⟨m20, m21, m22, m23, m24, m25, m26, m27, m28, m29, m30, m31, m32, m33, m34, m35, m36, m37, m38⟩ := r2.all
    refine z_iload_n C dX3_countOpen_22 rfl ?_
    refine z_aload_n C dX3_countOpen_23 rfl ?_
    refine z_getf C zf_X3_112 dX3_countOpen_24 (by first | assumption | exact zk_eq | exact zk_ne (by first | assumption | exact zk_eq | exact zk_ne (by first | assumption | exact zk_eq | exact zk_ne (by first | assumption | exact zk_eq | exact zk_ne (by first | assumption | exact zk_eq | exact zk_ne (by first | assumption | exact zk_eq) (by first | decide | omega)) (by first | decide | omega)) (by first | decide | omega)) (by first | decide | omega)) (by first | decide | omega)) (by rfl) ?_
    rw [hc]
    refine z_icmp_ge C 65 dX3_countOpen_27 (by decide) (fun c2 => ?_) (fun c2 => ?_)
    · have hi2 : i = c9 := Nat.le_antisymm r1 (ge_of_ge (by omega) (by omega) c2)
      subst hi2
      refine z_vret C hret dX3_countOpen_65 (by first | exact Nat.le_of_ble_eq_true rfl | omega) (by first | exact Nat.le_of_ble_eq_true rfl | omega) ?_
      exact ⟨rfl, ⟨v2, hY, r3⟩, r4⟩
    have hi2 : i < c9 := lt_of_nge (by omega) (by omega) c2
    obtain ⟨j, hj, hgj⟩ := hn i hi2
    have hgj' : va_up g 17 v2 13 i = nI j := hgj
    have hvj : va_up g 17 v2 17 j = nI ((mOpn g i).count (nI j)) := by rw [va_up_self]; exact r3 j hj
    have tail : ∀ x : Nat, nI (((mOpn g i).count (nI j)) + x) = nI ((mOpn g (i + 1)).count (nI j)) → (∀ s, s < 5 → s ≠ j → (mOpn g (i + 1)).count (nI s) = (mOpn g i).count (nI s)) → ZJ z p l e (zrm 0 0 0) s m args below meth c (vx_MQ below (zQc z (fun r w1 => r = none ∧ (∃ v : Nat → Int32, MP z bd (va_up g 17 v) f w1 ∧ zOp v (mOpn g c9)) ∧ zFm w w1)) (zXC z zNo) args s 0 0 (zA z)) 0 0 57 [some (.ref (bd 20)), some (.int (nI i))] [.int (nI x), .int (va_up g 17 v2 17 j), .int (va_up g 17 v2 13 i), .ref (bd 38)] w3 := by
      intro x hx hs
      refine z_iadd C dX3_countOpen_57 ?_
      rw [hvj, nI_add, hx]
      refine z_iast C dX3_countOpen_58 (by first | assumption | exact zk_eq | exact zk_ne (by first | assumption | exact zk_eq | exact zk_ne (by first | assumption | exact zk_eq | exact zk_ne (by first | assumption | exact zk_eq | exact zk_ne (by first | assumption | exact zk_eq | exact zk_ne (by first | assumption | exact zk_eq) (by first | decide | omega)) (by first | decide | omega)) (by first | decide | omega)) (by first | decide | omega)) (by first | decide | omega)) (by first | rfl | assumption) (by first | assumption | omega | decide) (by first | decide | omega) ?_
      refine z_iinc C (L1 := [_, _]) _ dX3_countOpen_59 rfl (by first | exact zinc | rfl) rfl ?_
      refine z_goto C 22 dX3_countOpen_62 (by decide) ?_
      have hY2 := hY.arr 17 (va_up (va_up g 17 v2 17) j (nI ((mOpn g (i + 1)).count (nI j))))
      rw [bx_uu] at hY2
      refine ih2 (c9 - (i + 1)) 0 0 _ _ (by omega) ⟨i + 1, _, rfl, rfl, rfl, rfl, hi2, hY2, fun s hs5 => ?_, r4.up (by decide) (by decide)⟩
      by_cases e : s = j
      · subst e
        rw [va_up_self]
      · rw [va_up_ne _ _ e, hs s hs5 e, va_up_self]
        exact r3 s hs5
    refine z_aload_n C dX3_countOpen_30 rfl ?_
    refine z_getf C zf_X3_66 dX3_countOpen_31 (by first | assumption | exact zk_eq | exact zk_ne (by first | assumption | exact zk_eq | exact zk_ne (by first | assumption | exact zk_eq | exact zk_ne (by first | assumption | exact zk_eq | exact zk_ne (by first | assumption | exact zk_eq | exact zk_ne (by first | assumption | exact zk_eq) (by first | decide | omega)) (by first | decide | omega)) (by first | decide | omega)) (by first | decide | omega)) (by first | decide | omega)) (by rfl) ?_
    refine z_aload_n C dX3_countOpen_34 rfl ?_
    refine z_getf C zf_X3_50 dX3_countOpen_35 (by first | assumption | exact zk_eq | exact zk_ne (by first | assumption | exact zk_eq | exact zk_ne (by first | assumption | exact zk_eq | exact zk_ne (by first | assumption | exact zk_eq | exact zk_ne (by first | assumption | exact zk_eq | exact zk_ne (by first | assumption | exact zk_eq) (by first | decide | omega)) (by first | decide | omega)) (by first | decide | omega)) (by first | decide | omega)) (by first | decide | omega)) (by rfl) ?_
    refine z_iload_n C dX3_countOpen_38 rfl ?_
    refine z_iald C dX3_countOpen_39 (by first | assumption | exact zk_eq | exact zk_ne (by first | assumption | exact zk_eq | exact zk_ne (by first | assumption | exact zk_eq | exact zk_ne (by first | assumption | exact zk_eq | exact zk_ne (by first | assumption | exact zk_eq | exact zk_ne (by first | assumption | exact zk_eq) (by first | decide | omega)) (by first | decide | omega)) (by first | decide | omega)) (by first | decide | omega)) (by first | decide | omega)) (by first | rfl | assumption) (by first | assumption | omega | decide) (by first | decide | omega) ?_
    refine z_dup2 C dX3_countOpen_40 rfl rfl ?_
    refine z_iald C dX3_countOpen_41 (by first | assumption | exact zk_eq | exact zk_ne (by first | assumption | exact zk_eq | exact zk_ne (by first | assumption | exact zk_eq | exact zk_ne (by first | assumption | exact zk_eq | exact zk_ne (by first | assumption | exact zk_eq | exact zk_ne (by first | assumption | exact zk_eq) (by first | decide | omega)) (by first | decide | omega)) (by first | decide | omega)) (by first | decide | omega)) (by first | decide | omega)) (by first | rfl | assumption) (by first | assumption | omega | decide) (by first | decide | omega) ?_
    refine z_aload_n C dX3_countOpen_42 rfl ?_
    refine z_getf C zf_X3_53 dX3_countOpen_43 (by first | assumption | exact zk_eq | exact zk_ne (by first | assumption | exact zk_eq | exact zk_ne (by first | assumption | exact zk_eq | exact zk_ne (by first | assumption | exact zk_eq | exact zk_ne (by first | assumption | exact zk_eq | exact zk_ne (by first | assumption | exact zk_eq) (by first | decide | omega)) (by first | decide | omega)) (by first | decide | omega)) (by first | decide | omega)) (by first | decide | omega)) (by rfl) ?_
    refine z_iload_n C dX3_countOpen_46 rfl ?_
    refine z_iald C dX3_countOpen_47 (by first | assumption | exact zk_eq | exact zk_ne (by first | assumption | exact zk_eq | exact zk_ne (by first | assumption | exact zk_eq | exact zk_ne (by first | assumption | exact zk_eq | exact zk_ne (by first | assumption | exact zk_eq | exact zk_ne (by first | assumption | exact zk_eq) (by first | decide | omega)) (by first | decide | omega)) (by first | decide | omega)) (by first | decide | omega)) (by first | decide | omega)) (by first | rfl | assumption) (by first | assumption | omega | decide) (by first | decide | omega) ?_
    refine z_iconst C (-1) dX3_countOpen_48 (by decide) ?_
    refine z_icmp_ne C 56 dX3_countOpen_49 (by decide) (fun c3 => ?_) (fun c3 => ?_)
    · have c4 : ¬ g 14 i = -1 := c3
      have em : mOpn g (i + 1) = mOpn g i := by simp only [mOpn, if_neg c4]
      refine z_iconst C (0) dX3_countOpen_56 (by decide) ?_
      exact tail 0 (by rw [em, Nat.add_zero]) (fun s _ _ => by rw [em])
    · have c4 : g 14 i = -1 := c3
      have em : mOpn g (i + 1) = nI j :: mOpn g i := by simp only [mOpn, if_pos c4, hgj]
      refine z_iconst C (1) dX3_countOpen_52 (by decide) ?_
      refine z_goto C 57 dX3_countOpen_53 (by decide) ?_
      exact tail 1 (by rw [em, List.count_cons_self]) (fun s hs e => by rw [em, List.count_cons_of_ne (nI_ne (by omega) (by omega) (Ne.symm e))])
  · have hi2 : i < 5 := lt_of_nge (by omega) (by omega) c1
    refine z_aload_n C dX3_countOpen_7 rfl ?_
    refine z_getf C zf_X3_66 dX3_countOpen_8 (by first | assumption | exact zk_eq | exact zk_ne (by first | assumption | exact zk_eq | exact zk_ne (by first | assumption | exact zk_eq | exact zk_ne (by first | assumption | exact zk_eq | exact zk_ne (by first | assumption | exact zk_eq | exact zk_ne (by first | assumption | exact zk_eq) (by first | decide | omega)) (by first | decide | omega)) (by first | decide | omega)) (by first | decide | omega)) (by first | decide | omega)) (by rfl) ?_
    refine z_iload_n C dX3_countOpen_11 rfl ?_
    refine z_iconst C (0) dX3_countOpen_12 (by decide) ?_
    refine z_iast C dX3_countOpen_13 (by first | assumption | exact zk_eq | exact zk_ne (by first | assumption | exact zk_eq | exact zk_ne (by first | assumption | exact zk_eq | exact zk_ne (by first | assumption | exact zk_eq | exact zk_ne (by first | assumption | exact zk_eq | exact zk_ne (by first | assumption | exact zk_eq) (by first | decide | omega)) (by first | decide | omega)) (by first | decide | omega)) (by first | decide | omega)) (by first | decide | omega)) (by first | rfl | assumption) (by first | assumption | omega | decide) (by first | decide | omega) ?_
    refine z_iinc C (L1 := [_, _]) _ dX3_countOpen_14 rfl (by first | exact zinc | rfl) rfl ?_
    refine z_goto C 2 dX3_countOpen_17 (by decide) ?_
    have hX2 := hX.arr 17 (va_up (va_up g 17 v 17) i 0)
    rw [bx_uu] at hX2
    refine ih (5 - (i + 1)) 0 0 _ _ (by omega) ⟨i + 1, va_up (va_up g 17 v 17) i 0, rfl, rfl, rfl, rfl, hi2, hX2, fun s hs => ?_, q4.up (by decide) (by decide)⟩
    by_cases e : s = i
    · subst e
      rw [va_up_self]
    · rw [va_up_ne _ _ e, va_up_self]
      exact q3 s (by omega)
theorem m_canAll (hl : l.stackTraces = false) (h : MP z bd g f w) {T : List Nat} {P : List Int32} {a b : Nat} (hT : zIs (g 16) T) (hT30 : ∀ x ∈ T, x < 30) (hl30 : T.length ≤ 30) (hab : a ≤ b) (hb : b ≤ T.length) (hO : zOp (g 17) P) (hP : zSk P) (hP16 : P.length ≤ 16) : ZM l z mX3_canAll 0 0 0 [.ref (bd 20), .int (nI a), .int (nI b)] w (fun r w1 => r = some (.int (zb (zHall (((T.drop a).take (b - a)).map (g 3)) P))) ∧ w1 = w) zNo := by
  obtain ⟨m20, m21, m22, m23, m24, m25, m26, m27, m28, m29, m30, m31, m32, m33, m34, m35, m36, m37, m38⟩ := h.all
  refine zbody (M := mX3_canAll) (L0 := [_, _, _, _, _, _, _]) hl (by simp [Value.category]) (Nat.le_of_ble_eq_true rfl) (by decide +kernel) rfl ?_
  intro p e s m args below meth c C hX hnm hret
  replace C : zC z p l s m args meth c cX3_canAll RX3 7 := C
  replace hret : meth.sig.returnType = (some .boolean) := hret
  refine z_iconst C (0) dX3_canAll_0 (by decide) ?_
  refine z_istore_n C (L1 := [_, _, _, _, _, _, _]) dX3_canAll_1 (Nat.le_of_ble_eq_true rfl) rfl ?_
  refine z_ind (σ := Nat) (fun x => x ≤ 32 ∧ ∀ s : Nat, s < x → cw (((T.drop a).take (b - a)).map (g 3)) s ≤ cp P s) (fun x => 32 - x) (fun _ => 0) (fun _ => 0)
    (fun x => [some (.ref (bd 20)), some (.int (nI a)), some (.int (nI b)), some (.int (nI x)), none, none, none]) (fun _ => w) 0 ⟨Nat.zero_le _, fun s hs => absurd hs (Nat.not_lt_zero _)⟩ ?_
  rintro x ⟨q1, q2⟩ ih
  try dsimp only at q1 q2 ih ⊢
  refine z_iload_n C dX3_canAll_2 rfl ?_
  refine z_bipush C (32) dX3_canAll_3 (by decide) ?_
  refine z_icmp_ge C 114 dX3_canAll_5 (by decide) (fun c1 => ?_) (fun c1 => ?_)
  · have hi : x = 32 := Nat.le_antisymm q1 (ge_of_ge (by omega) (by omega) c1)
    subst hi
    refine z_iconst C (1) dX3_canAll_114 (by decide) ?_
    refine z_zret C hret dX3_canAll_115 (by first | rfl | exact zb_nar _ | assumption) (by first | exact Nat.le_of_ble_eq_true rfl | omega) (by first | exact Nat.le_of_ble_eq_true rfl | omega) ?_
    exact ⟨by rw [zHall_iff.mpr q2]; rfl, rfl⟩
  have hx : x < 32 := lt_of_nge (by omega) (by omega) c1
  refine z_iconst C (0) dX3_canAll_8 (by decide) ?_
  refine z_istore C (L1 := [_, _, _, _, _, _, _]) dX3_canAll_9 (Nat.le_of_ble_eq_true rfl) rfl ?_
  refine z_iconst C (0) dX3_canAll_11 (by decide) ?_
  refine z_istore C (L1 := [_, _, _, _, _, _, _]) dX3_canAll_12 (Nat.le_of_ble_eq_true rfl) rfl ?_
  refine z_iconst C (0) dX3_canAll_14 (by decide) ?_
  refine z_istore C (L1 := [_, _, _, _, _, _, _]) dX3_canAll_15 (Nat.le_of_ble_eq_true rfl) rfl ?_
  refine z_ind (σ := Nat) (fun i => i ≤ 5) (fun i => 5 - i) (fun _ => 0) (fun _ => 0)
    (fun i => [some (.ref (bd 20)), some (.int (nI a)), some (.int (nI b)), some (.int (nI x)), some (.int (nI (cpS P x i))), some (.int (nI 0)), some (.int (nI i))]) (fun _ => w) 0 (Nat.zero_le _) ?_
  rintro i r1 ih2
  try dsimp only at r1 ih2 ⊢
  have hcl := cpS_le (P := P) (s := x) i
  have hcl2 : i * P.length ≤ 5 * 16 := Nat.mul_le_mul r1 hP16
  refine z_iload C dX3_canAll_17 rfl ?_
  refine z_iconst C (5) dX3_canAll_19 (by decide) ?_
  refine z_icmp_ge C 55 dX3_canAll_20 (by decide) (fun c2 => ?_) (fun c2 => ?_)
  · have hi : i = 5 := Nat.le_antisymm r1 (ge_of_ge (by omega) (by omega) c2)
    subst hi
    rw [cpS_cp hx P hP]
    have hcp := cp_le P x
    refine z_iload_n C dX3_canAll_55 rfl ?_
    refine z_istore C (L1 := [_, _, _, _, _, _, _]) dX3_canAll_56 (Nat.le_of_ble_eq_true rfl) rfl ?_
    refine z_ind (σ := Nat) (fun i => i ≤ b - a) (fun i => b - a - i) (fun _ => 0) (fun _ => 0)
      (fun i => [some (.ref (bd 20)), some (.int (nI a)), some (.int (nI b)), some (.int (nI x)), some (.int (nI (cp P x))), some (.int (nI (cw (((T.drop a).take i).map (g 3)) x))), some (.int (nI (a + i)))]) (fun _ => w) 0 (Nat.zero_le _) ?_
    rintro i s1 ih3
    try dsimp only at s1 ih3 ⊢
    have hwl := cw_le (((T.drop a).take i).map (g 3)) x
    have hwl2 : (((T.drop a).take i).map (g 3)).length ≤ i := by simp; omega
    refine z_iload C dX3_canAll_58 rfl ?_
    refine z_iload_n C dX3_canAll_60 rfl ?_
    refine z_icmp_ge C 99 dX3_canAll_61 (by decide) (fun c3 => ?_) (fun c3 => ?_)
    · have hi : i = b - a := by
        have := ge_of_ge (by omega) (by omega) c3
        omega
      subst hi
      refine z_iload C dX3_canAll_99 rfl ?_
      refine z_iload C dX3_canAll_101 rfl ?_
      refine z_icmp_le C 108 dX3_canAll_103 (by decide) (fun c4 => ?_) (fun c4 => ?_)
      · have hle := ge_of_ge (by omega) (by omega) c4
        refine z_iinc C (L1 := [_, _, _, _, _, _, _]) _ dX3_canAll_108 rfl (by first | exact zinc | rfl) rfl ?_
        refine z_goto C 2 dX3_canAll_111 (by decide) ?_
        refine z_fgt (ih (x + 1) ⟨hx, fun s hs => ?_⟩ (by omega)) (by simp [zle])
        by_cases e : s = x
        · rw [e]; exact hle
        · exact q2 s (by omega)
      · refine z_iconst C (0) dX3_canAll_106 (by decide) ?_
        refine z_zret C hret dX3_canAll_107 (by first | rfl | exact zb_nar _ | assumption) (by first | exact Nat.le_of_ble_eq_true rfl | omega) (by first | exact Nat.le_of_ble_eq_true rfl | omega) ?_
        refine ⟨?_, rfl⟩
        have : zHall (((T.drop a).take (b - a)).map (g 3)) P = false := by
          cases hh : zHall (((T.drop a).take (b - a)).map (g 3)) P with
          | false => rfl
          | true => exact absurd ((nI_leI (by omega) (by omega)).mpr (zHall_iff.mp hh x hx)) c4
        rw [this]; rfl
    have hi : i < b - a := by
      have := lt_of_nge (by omega) (by omega) c3
      omega
    have hai : a + i < T.length := by omega
    have ht : g 16 (a + i) = nI T[a + i] := hT.get hai
    have ht30 := hT30 _ (List.getElem_mem hai)
    have hcw : cw (((T.drop a).take (i + 1)).map (g 3)) x = cw (((T.drop a).take i).map (g 3)) x + zN (wi (g 3 T[a + i]) x) := by
      rw [List.take_succ_eq_append_getElem (by simp; omega), List.map_append, List.getElem_drop]
      unfold cw
      rw [List.countP_append]
      simp [List.countP_cons, zN]
    have fin := ih3 (i + 1) hi (by omega)
    rw [hcw] at fin
    refine z_iload C dX3_canAll_64 rfl ?_
    refine z_aload_n C dX3_canAll_66 rfl ?_
    refine z_getf C zf_X3_19 dX3_canAll_67 (by first | assumption | exact zk_eq | exact zk_ne (by first | assumption | exact zk_eq | exact zk_ne (by first | assumption | exact zk_eq | exact zk_ne (by first | assumption | exact zk_eq | exact zk_ne (by first | assumption | exact zk_eq | exact zk_ne (by first | assumption | exact zk_eq) (by first | decide | omega)) (by first | decide | omega)) (by first | decide | omega)) (by first | decide | omega)) (by first | decide | omega)) (by rfl) ?_
    refine z_aload_n C dX3_canAll_70 rfl ?_
    refine z_getf C zf_X3_63 dX3_canAll_71 (by first | assumption | exact zk_eq | exact zk_ne (by first | assumption | exact zk_eq | exact zk_ne (by first | assumption | exact zk_eq | exact zk_ne (by first | assumption | exact zk_eq | exact zk_ne (by first | assumption | exact zk_eq | exact zk_ne (by first | assumption | exact zk_eq) (by first | decide | omega)) (by first | decide | omega)) (by first | decide | omega)) (by first | decide | omega)) (by first | decide | omega)) (by rfl) ?_
    refine z_iload C dX3_canAll_74 rfl ?_
    refine z_iald C dX3_canAll_76 (by first | assumption | exact zk_eq | exact zk_ne (by first | assumption | exact zk_eq | exact zk_ne (by first | assumption | exact zk_eq | exact zk_ne (by first | assumption | exact zk_eq | exact zk_ne (by first | assumption | exact zk_eq | exact zk_ne (by first | assumption | exact zk_eq) (by first | decide | omega)) (by first | decide | omega)) (by first | decide | omega)) (by first | decide | omega)) (by first | decide | omega)) (by first | rfl | assumption) (by first | assumption | omega | decide) (by first | decide | omega) ?_
    refine z_iald C dX3_canAll_77 (by first | assumption | exact zk_eq | exact zk_ne (by first | assumption | exact zk_eq | exact zk_ne (by first | assumption | exact zk_eq | exact zk_ne (by first | assumption | exact zk_eq | exact zk_ne (by first | assumption | exact zk_eq | exact zk_ne (by first | assumption | exact zk_eq) (by first | decide | omega)) (by first | decide | omega)) (by first | decide | omega)) (by first | decide | omega)) (by first | decide | omega)) (by first | rfl | assumption) (by first | assumption | omega | decide) (by first | decide | omega) ?_
    refine z_iload_n C dX3_canAll_78 rfl ?_
    refine z_iconst C (-1) dX3_canAll_79 (by decide) ?_
    refine z_ixor C dX3_canAll_80 ?_
    refine z_iand C dX3_canAll_81 ?_
    refine z_if_ne C 89 dX3_canAll_82 (by decide) (fun c4 => ?_) (fun c4 => ?_)
    · rw [show zN (wi (g 3 T[a + i]) x) = 0 by simp only [wi, decide_eq_false c4]; rfl] at fin
      refine z_iconst C (0) dX3_canAll_89 (by decide) ?_
      refine z_iadd C dX3_canAll_90 ?_
      rw [show (nI (cw (((T.drop a).take i).map (g 3)) x) + 0) = nI (cw (((T.drop a).take i).map (g 3)) x) by simp]
      refine z_istore C (L1 := [_, _, _, _, _, _, _]) dX3_canAll_91 (Nat.le_of_ble_eq_true rfl) rfl ?_
      refine z_iinc C (L1 := [_, _, _, _, _, _, _]) _ dX3_canAll_93 rfl (by first | exact zinc | rfl) rfl ?_
      refine z_goto C 58 dX3_canAll_96 (by decide) ?_
      exact fin
    · rw [show zN (wi (g 3 T[a + i]) x) = 1 by simp only [wi, decide_eq_true c4]; rfl] at fin
      refine z_iconst C (1) dX3_canAll_85 (by decide) ?_
      refine z_goto C 90 dX3_canAll_86 (by decide) ?_
      refine z_iadd C dX3_canAll_90 ?_
      rw [show (nI (cw (((T.drop a).take i).map (g 3)) x) + 1) = nI (cw (((T.drop a).take i).map (g 3)) x + 1) from nI_1 _]
      refine z_istore C (L1 := [_, _, _, _, _, _, _]) dX3_canAll_91 (Nat.le_of_ble_eq_true rfl) rfl ?_
      refine z_iinc C (L1 := [_, _, _, _, _, _, _]) _ dX3_canAll_93 rfl (by first | exact zinc | rfl) rfl ?_
      refine z_goto C 58 dX3_canAll_96 (by decide) ?_
      exact fin
  have hi : i < 5 := lt_of_nge (by omega) (by omega) c2
  have fin := ih2 (i + 1) hi (by omega)
  simp only [cpS] at fin
  have hop := hO i hi
  refine z_iload C dX3_canAll_23 rfl ?_
  refine z_iload_n C dX3_canAll_25 rfl ?_
  refine z_iload C dX3_canAll_26 rfl ?_
  refine z_ishr C dX3_canAll_28 ?_
  refine z_iconst C (1) dX3_canAll_29 (by decide) ?_
  refine z_iand C dX3_canAll_30 ?_
  refine z_iconst C (1) dX3_canAll_31 (by decide) ?_
  refine z_icmp_ne C 45 dX3_canAll_32 (by decide) (fun c3 => ?_) (fun c3 => ?_)
  · have c4 : skl (nI x) (nI i) = false := by
      unfold skl
      exact decide_eq_false c3
    simp only [c4, Bool.false_eq_true, if_false] at fin
    refine z_iconst C (0) dX3_canAll_45 (by decide) ?_
    refine z_iadd C dX3_canAll_46 ?_
    rw [show (nI (cpS P x i) + 0) = nI (cpS P x i) by simp]
    refine z_istore C (L1 := [_, _, _, _, _, _, _]) dX3_canAll_47 (Nat.le_of_ble_eq_true rfl) rfl ?_
    refine z_iinc C (L1 := [_, _, _, _, _, _, _]) _ dX3_canAll_49 rfl (by first | exact zinc | rfl) rfl ?_
    refine z_goto C 17 dX3_canAll_52 (by decide) ?_
    exact fin
  · have c4 : skl (nI x) (nI i) = true := by
      unfold skl
      exact decide_eq_true c3
    simp only [c4, if_true] at fin
    refine z_aload_n C dX3_canAll_35 rfl ?_
    refine z_getf C zf_X3_66 dX3_canAll_36 (by first | assumption | exact zk_eq | exact zk_ne (by first | assumption | exact zk_eq | exact zk_ne (by first | assumption | exact zk_eq | exact zk_ne (by first | assumption | exact zk_eq | exact zk_ne (by first | assumption | exact zk_eq | exact zk_ne (by first | assumption | exact zk_eq) (by first | decide | omega)) (by first | decide | omega)) (by first | decide | omega)) (by first | decide | omega)) (by first | decide | omega)) (by rfl) ?_
    refine z_iload C dX3_canAll_39 rfl ?_
    refine z_iald C dX3_canAll_41 (by first | assumption | exact zk_eq | exact zk_ne (by first | assumption | exact zk_eq | exact zk_ne (by first | assumption | exact zk_eq | exact zk_ne (by first | assumption | exact zk_eq | exact zk_ne (by first | assumption | exact zk_eq | exact zk_ne (by first | assumption | exact zk_eq) (by first | decide | omega)) (by first | decide | omega)) (by first | decide | omega)) (by first | decide | omega)) (by first | decide | omega)) (by first | rfl | assumption) (by first | assumption | omega | decide) (by first | decide | omega) ?_
    rw [hop]
    refine z_goto C 46 dX3_canAll_42 (by decide) ?_
    refine z_iadd C dX3_canAll_46 ?_
    rw [nI_add]
    refine z_istore C (L1 := [_, _, _, _, _, _, _]) dX3_canAll_47 (Nat.le_of_ble_eq_true rfl) rfl ?_
    refine z_iinc C (L1 := [_, _, _, _, _, _, _]) _ dX3_canAll_49 rfl (by first | exact zinc | rfl) rfl ?_
    refine z_goto C 17 dX3_canAll_52 (by decide) ?_
    exact fin
end ZM3
