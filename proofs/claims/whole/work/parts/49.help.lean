/-! The law's helpers: each calls the hall once and tells by a number which exception came -/
def lvI (v : Int32) : Int64 := v.toInt64
def lvZ (v : Int32) : Int64 := if v = 0 then 0 else 1
theorem zi_RL : Cond.initialized RL ∈ lwG := lwG_in (List.mem_of_getElem? (i := 40) (by decide +kernel)) rfl
section ZHELP
variable {l : Launch} {z : zT} {w : zW} {a0 nn ao : Nat} {S : zHS} {f0 : Nat → Int64}
abbrev hh_signOn : List (Nat × Nat × Nat × Nat) := [(0, 10, 13, 13), (0, 10, 17, 15)]
abbrev cd_signOn : List (String × Int32) := [(zIA, 1), (zIS, 2)]
theorem zh_signOn : zMH mL_signOn hh_signOn 4 := ⟨lwG_in (List.mem_of_getElem? (i := 366) (by decide +kernel)) rfl, zi_RL, lwG_in (List.mem_of_getElem? (i := 365) (by decide +kernel)) rfl, by decide +kernel, by decide +kernel, by decide +kernel⟩
theorem ex_signOn {E : String} (x : Int32) (y : Int32) (h : (hSignOn S x y).1 = .inl E) : E = zIA ∨ E = zIS := by
  unfold hSignOn at h
  repeat' (split at h)
  all_goals first | (cases h; done) | (cases h; simp)
theorem k_signOn (hl : l.stackTraces = false) (h : HH z a0 nn w S) (h40 : w 40 = some (ao, .inl (z.2.2.1 3, 1, .inr (.inl f0)))) (x : Int32) (y : Int32) (hnn : nn < 90000) : ZMH l z mL_signOn hh_signOn 12 120 7000 [.ref a0, .int x, .int y, .ref ao] w (fun r w1 => zLq z a0 ao (nn + 1) cd_signOn lvI (hSignOn S x y) S r w w1) := by
  obtain ⟨qa, tb, tk, qW, qP, qad, qH, -⟩ := id h
  have h0 : w 0 = some (a0, zHc qa S.2.2.1) := by rw [← qad]; exact qH.1
  refine zbodyH (M := mL_signOn) (L0 := [_, _, _, _, _]) hl (by simp [Value.category]) (Nat.le_of_ble_eq_true rfl) (by decide +kernel) rfl ?_
  intro p e s m args below meth c C hT hnm hret
  replace C : zC z p l s m args meth c cL_signOn RL 5 := C
  replace hret : meth.sig.returnType = (some .int) := hret
  refine z_aload_n C dL_signOn_0 rfl ?_
  refine z_iconst C (0) dL_signOn_1 (by decide) ?_
  refine z_aload_n C dL_signOn_2 rfl ?_
  refine z_iload_n C dL_signOn_3 rfl ?_
  refine z_iload_n C dL_signOn_4 rfl ?_
  refine z_callV C zm_X2_signOn zl_L_7 (o_signOn (nn := nn) hl h hnn x y) dL_signOn_5 h0 (by rfl) (by rfl) (by rfl) (by exact Nat.le_of_ble_eq_true rfl) rfl (by exact ⟨Nat.le_of_ble_eq_true rfl, Nat.le_of_ble_eq_true rfl⟩) (by first | exact ⟨Nat.le_of_ble_eq_true rfl, Nat.le_of_ble_eq_true rfl⟩ | (simp only [zrm]; omega)) (fun E w1 hx => ?_) (fun r w1 hq => ?_)
  · obtain ⟨hE, hx1, hx2⟩ := hx
    have hE2 := ex_signOn x y hE
    rcases hE2 with rfl | rfl
    · refine z_caught C hT [] (0, 10, 13, 13) [(0, 10, 17, 15)] rfl (fun y hy => absurd hy List.not_mem_nil) ⟨by decide, by decide⟩ (by decide) zk_L_13 (by decide +kernel) (fun q => ?_)
      refine z_astore C (L1 := [_, _, _, _, _]) dL_signOn_13 (Nat.le_of_ble_eq_true rfl) rfl ?_
      refine z_iconst C (1) dL_signOn_15 (by decide) ?_
      refine z_iret C hret dL_signOn_16 (by first | exact Nat.le_of_ble_eq_true rfl | omega) (by first | exact Nat.le_of_ble_eq_true rfl | omega) ?_
      exact ⟨Or.inr ⟨zIA, 1, hE, by simp, rfl, hx1.up (by omega), hx2 40 (by decide) (by decide)⟩, fun j j1 j2 _ => hx2 j j1 j2⟩
    · refine z_caught C hT [(0, 10, 13, 13)] (0, 10, 17, 15) [] rfl (List.forall_mem_cons.mpr ⟨⟨by decide, _, zk_L_13, by decide +kernel⟩, (fun y hy => absurd hy List.not_mem_nil)⟩) ⟨by decide, by decide⟩ (by decide) zk_L_15 (by decide +kernel) (fun q => ?_)
      refine z_astore C (L1 := [_, _, _, _, _]) dL_signOn_17 (Nat.le_of_ble_eq_true rfl) rfl ?_
      refine z_iconst C (2) dL_signOn_19 (by decide) ?_
      refine z_iret C hret dL_signOn_20 (by first | exact Nat.le_of_ble_eq_true rfl | omega) (by first | exact Nat.le_of_ble_eq_true rfl | omega) ?_
      exact ⟨Or.inr ⟨zIS, 2, hE, by simp, rfl, hx1.up (by omega), hx2 40 (by decide) (by decide)⟩, fun j j1 j2 _ => hx2 j j1 j2⟩
  · obtain ⟨v9, hE, rfl, hx1, hx2⟩ := hq
    have h41 := (hx2 40 (by decide) (by decide)).trans h40
    refine z_i2l C dL_signOn_8 ?_
    refine z_last C dL_signOn_9 (by first | assumption | exact zk_eq | exact zk_ne (by first | assumption | exact zk_eq | exact zk_ne (by first | assumption | exact zk_eq | exact zk_ne (by first | assumption | exact zk_eq | exact zk_ne (by first | assumption | exact zk_eq | exact zk_ne (by first | assumption | exact zk_eq) (by first | decide | omega)) (by first | decide | omega)) (by first | decide | omega)) (by first | decide | omega)) (by first | decide | omega)) (by first | rfl | assumption) (by first | assumption | omega | decide) (by first | decide | omega) ?_
    refine z_goto C 21 dL_signOn_10 (by decide) ?_
    refine z_iconst C (0) dL_signOn_21 (by decide) ?_
    refine z_iret C hret dL_signOn_22 (by first | exact Nat.le_of_ble_eq_true rfl | omega) (by first | exact Nat.le_of_ble_eq_true rfl | omega) ?_
    exact ⟨Or.inl ⟨v9, hE, rfl, hx1.kp (fun j hj => va_up_ne _ _ (by omega)), _, va_up_self _ _ _, va_up_self _ _ _⟩, fun j j1 j2 j3 => (va_up_ne _ _ j3).trans (hx2 j j1 j2)⟩
abbrev hh_signOff : List (Nat × Nat × Nat × Nat) := [(0, 9, 12, 21), (0, 9, 15, 15)]
abbrev cd_signOff : List (String × Int32) := [(zNS, 1), (zIS, 2)]
theorem zh_signOff : zMH mL_signOff hh_signOff 3 := ⟨lwG_in (List.mem_of_getElem? (i := 512) (by decide +kernel)) rfl, zi_RL, lwG_in (List.mem_of_getElem? (i := 511) (by decide +kernel)) rfl, by decide +kernel, by decide +kernel, by decide +kernel⟩
theorem ex_signOff {E : String} (x : Int32) (h : (hSignOff S x).1 = .inl E) : E = zNS ∨ E = zIS := by
  unfold hSignOff at h
  repeat' (split at h)
  all_goals first | (cases h; done) | (cases h; simp)
theorem k_signOff (hl : l.stackTraces = false) (h : HH z a0 nn w S) (h40 : w 40 = some (ao, .inl (z.2.2.1 3, 1, .inr (.inl f0)))) (x : Int32)  : ZMH l z mL_signOff hh_signOff 12 120 7000 [.ref a0, .int x, .ref ao] w (fun r w1 => zLq z a0 ao (nn) cd_signOff lvI (hSignOff S x) S r w w1) := by
  obtain ⟨qa, tb, tk, qW, qP, qad, qH, -⟩ := id h
  have h0 : w 0 = some (a0, zHc qa S.2.2.1) := by rw [← qad]; exact qH.1
  refine zbodyH (M := mL_signOff) (L0 := [_, _, _, _]) hl (by simp [Value.category]) (Nat.le_of_ble_eq_true rfl) (by decide +kernel) rfl ?_
  intro p e s m args below meth c C hT hnm hret
  replace C : zC z p l s m args meth c cL_signOff RL 4 := C
  replace hret : meth.sig.returnType = (some .int) := hret
  refine z_aload_n C dL_signOff_0 rfl ?_
  refine z_iconst C (0) dL_signOff_1 (by decide) ?_
  refine z_aload_n C dL_signOff_2 rfl ?_
  refine z_iload_n C dL_signOff_3 rfl ?_
  refine z_callV C zm_X2_signOff zl_L_17 (o_signOff hl h x) dL_signOff_4 h0 (by rfl) (by rfl) (by rfl) (by exact Nat.le_of_ble_eq_true rfl) rfl (by exact ⟨Nat.le_of_ble_eq_true rfl, Nat.le_of_ble_eq_true rfl⟩) (by first | exact ⟨Nat.le_of_ble_eq_true rfl, Nat.le_of_ble_eq_true rfl⟩ | (simp only [zrm]; omega)) (fun E w1 hx => ?_) (fun r w1 hq => ?_)
  · obtain ⟨hE, hx1, hx2⟩ := hx
    have hE2 := ex_signOff x hE
    rcases hE2 with rfl | rfl
    · refine z_caught C hT [] (0, 9, 12, 21) [(0, 9, 15, 15)] rfl (fun y hy => absurd hy List.not_mem_nil) ⟨by decide, by decide⟩ (by decide) zk_L_21 (by decide +kernel) (fun q => ?_)
      refine z_astore_n C (L1 := [_, _, _, _]) dL_signOff_12 (Nat.le_of_ble_eq_true rfl) rfl ?_
      refine z_iconst C (1) dL_signOff_13 (by decide) ?_
      refine z_iret C hret dL_signOff_14 (by first | exact Nat.le_of_ble_eq_true rfl | omega) (by first | exact Nat.le_of_ble_eq_true rfl | omega) ?_
      exact ⟨Or.inr ⟨zNS, 1, hE, by simp, rfl, hx1.up (by omega), hx2 40 (by decide) (by decide)⟩, fun j j1 j2 _ => hx2 j j1 j2⟩
    · refine z_caught C hT [(0, 9, 12, 21)] (0, 9, 15, 15) [] rfl (List.forall_mem_cons.mpr ⟨⟨by decide, _, zk_L_21, by decide +kernel⟩, (fun y hy => absurd hy List.not_mem_nil)⟩) ⟨by decide, by decide⟩ (by decide) zk_L_15 (by decide +kernel) (fun q => ?_)
      refine z_astore_n C (L1 := [_, _, _, _]) dL_signOff_15 (Nat.le_of_ble_eq_true rfl) rfl ?_
      refine z_iconst C (2) dL_signOff_16 (by decide) ?_
      refine z_iret C hret dL_signOff_17 (by first | exact Nat.le_of_ble_eq_true rfl | omega) (by first | exact Nat.le_of_ble_eq_true rfl | omega) ?_
      exact ⟨Or.inr ⟨zIS, 2, hE, by simp, rfl, hx1.up (by omega), hx2 40 (by decide) (by decide)⟩, fun j j1 j2 _ => hx2 j j1 j2⟩
  · obtain ⟨v9, hE, rfl, hx1, hx2⟩ := hq
    have h41 := (hx2 40 (by decide) (by decide)).trans h40
    refine z_i2l C dL_signOff_7 ?_
    refine z_last C dL_signOff_8 (by first | assumption | exact zk_eq | exact zk_ne (by first | assumption | exact zk_eq | exact zk_ne (by first | assumption | exact zk_eq | exact zk_ne (by first | assumption | exact zk_eq | exact zk_ne (by first | assumption | exact zk_eq | exact zk_ne (by first | assumption | exact zk_eq) (by first | decide | omega)) (by first | decide | omega)) (by first | decide | omega)) (by first | decide | omega)) (by first | decide | omega)) (by first | rfl | assumption) (by first | assumption | omega | decide) (by first | decide | omega) ?_
    refine z_goto C 18 dL_signOff_9 (by decide) ?_
    refine z_iconst C (0) dL_signOff_18 (by decide) ?_
    refine z_iret C hret dL_signOff_19 (by first | exact Nat.le_of_ble_eq_true rfl | omega) (by first | exact Nat.le_of_ble_eq_true rfl | omega) ?_
    exact ⟨Or.inl ⟨v9, hE, rfl, hx1.kp (fun j hj => va_up_ne _ _ (by omega)), _, va_up_self _ _ _, va_up_self _ _ _⟩, fun j j1 j2 j3 => (va_up_ne _ _ j3).trans (hx2 j j1 j2)⟩
abbrev hh_setSkills : List (Nat × Nat × Nat × Nat) := [(0, 10, 13, 21), (0, 10, 17, 13), (0, 10, 21, 15)]
abbrev cd_setSkills : List (String × Int32) := [(zNS, 1), (zIA, 2), (zIS, 3)]
theorem zh_setSkills : zMH mL_setSkills hh_setSkills 4 := ⟨lwG_in (List.mem_of_getElem? (i := 544) (by decide +kernel)) rfl, zi_RL, lwG_in (List.mem_of_getElem? (i := 543) (by decide +kernel)) rfl, by decide +kernel, by decide +kernel, by decide +kernel⟩
theorem ex_setSkills {E : String} (x : Int32) (y : Int32) (h : (hSetSkills S x y).1 = .inl E) : E = zNS ∨ E = zIA ∨ E = zIS := by
  unfold hSetSkills at h
  repeat' (split at h)
  all_goals first | (cases h; done) | (cases h; simp)
theorem k_setSkills (hl : l.stackTraces = false) (h : HH z a0 nn w S) (h40 : w 40 = some (ao, .inl (z.2.2.1 3, 1, .inr (.inl f0)))) (x : Int32) (y : Int32)  : ZMH l z mL_setSkills hh_setSkills 12 120 7000 [.ref a0, .int x, .int y, .ref ao] w (fun r w1 => zLq z a0 ao (nn) cd_setSkills lvI (hSetSkills S x y) S r w w1) := by
  obtain ⟨qa, tb, tk, qW, qP, qad, qH, -⟩ := id h
  have h0 : w 0 = some (a0, zHc qa S.2.2.1) := by rw [← qad]; exact qH.1
  refine zbodyH (M := mL_setSkills) (L0 := [_, _, _, _, _]) hl (by simp [Value.category]) (Nat.le_of_ble_eq_true rfl) (by decide +kernel) rfl ?_
  intro p e s m args below meth c C hT hnm hret
  replace C : zC z p l s m args meth c cL_setSkills RL 5 := C
  replace hret : meth.sig.returnType = (some .int) := hret
  refine z_aload_n C dL_setSkills_0 rfl ?_
  refine z_iconst C (0) dL_setSkills_1 (by decide) ?_
  refine z_aload_n C dL_setSkills_2 rfl ?_
  refine z_iload_n C dL_setSkills_3 rfl ?_
  refine z_iload_n C dL_setSkills_4 rfl ?_
  refine z_callV C zm_X2_setSkills zl_L_23 (o_setSkills hl h x y) dL_setSkills_5 h0 (by rfl) (by rfl) (by rfl) (by exact Nat.le_of_ble_eq_true rfl) rfl (by exact ⟨Nat.le_of_ble_eq_true rfl, Nat.le_of_ble_eq_true rfl⟩) (by first | exact ⟨Nat.le_of_ble_eq_true rfl, Nat.le_of_ble_eq_true rfl⟩ | (simp only [zrm]; omega)) (fun E w1 hx => ?_) (fun r w1 hq => ?_)
  · obtain ⟨hE, hx1, hx2⟩ := hx
    have hE2 := ex_setSkills x y hE
    rcases hE2 with rfl | rfl | rfl
    · refine z_caught C hT [] (0, 10, 13, 21) [(0, 10, 17, 13), (0, 10, 21, 15)] rfl (fun y hy => absurd hy List.not_mem_nil) ⟨by decide, by decide⟩ (by decide) zk_L_21 (by decide +kernel) (fun q => ?_)
      refine z_astore C (L1 := [_, _, _, _, _]) dL_setSkills_13 (Nat.le_of_ble_eq_true rfl) rfl ?_
      refine z_iconst C (1) dL_setSkills_15 (by decide) ?_
      refine z_iret C hret dL_setSkills_16 (by first | exact Nat.le_of_ble_eq_true rfl | omega) (by first | exact Nat.le_of_ble_eq_true rfl | omega) ?_
      exact ⟨Or.inr ⟨zNS, 1, hE, by simp, rfl, hx1.up (by omega), hx2 40 (by decide) (by decide)⟩, fun j j1 j2 _ => hx2 j j1 j2⟩
    · refine z_caught C hT [(0, 10, 13, 21)] (0, 10, 17, 13) [(0, 10, 21, 15)] rfl (List.forall_mem_cons.mpr ⟨⟨by decide, _, zk_L_21, by decide +kernel⟩, (fun y hy => absurd hy List.not_mem_nil)⟩) ⟨by decide, by decide⟩ (by decide) zk_L_13 (by decide +kernel) (fun q => ?_)
      refine z_astore C (L1 := [_, _, _, _, _]) dL_setSkills_17 (Nat.le_of_ble_eq_true rfl) rfl ?_
      refine z_iconst C (2) dL_setSkills_19 (by decide) ?_
      refine z_iret C hret dL_setSkills_20 (by first | exact Nat.le_of_ble_eq_true rfl | omega) (by first | exact Nat.le_of_ble_eq_true rfl | omega) ?_
      exact ⟨Or.inr ⟨zIA, 2, hE, by simp, rfl, hx1.up (by omega), hx2 40 (by decide) (by decide)⟩, fun j j1 j2 _ => hx2 j j1 j2⟩
    · refine z_caught C hT [(0, 10, 13, 21), (0, 10, 17, 13)] (0, 10, 21, 15) [] rfl (List.forall_mem_cons.mpr ⟨⟨by decide, _, zk_L_21, by decide +kernel⟩, (List.forall_mem_cons.mpr ⟨⟨by decide, _, zk_L_13, by decide +kernel⟩, (fun y hy => absurd hy List.not_mem_nil)⟩)⟩) ⟨by decide, by decide⟩ (by decide) zk_L_15 (by decide +kernel) (fun q => ?_)
      refine z_astore C (L1 := [_, _, _, _, _]) dL_setSkills_21 (Nat.le_of_ble_eq_true rfl) rfl ?_
      refine z_iconst C (3) dL_setSkills_23 (by decide) ?_
      refine z_iret C hret dL_setSkills_24 (by first | exact Nat.le_of_ble_eq_true rfl | omega) (by first | exact Nat.le_of_ble_eq_true rfl | omega) ?_
      exact ⟨Or.inr ⟨zIS, 3, hE, by simp, rfl, hx1.up (by omega), hx2 40 (by decide) (by decide)⟩, fun j j1 j2 _ => hx2 j j1 j2⟩
  · obtain ⟨v9, hE, rfl, hx1, hx2⟩ := hq
    have h41 := (hx2 40 (by decide) (by decide)).trans h40
    refine z_i2l C dL_setSkills_8 ?_
    refine z_last C dL_setSkills_9 (by first | assumption | exact zk_eq | exact zk_ne (by first | assumption | exact zk_eq | exact zk_ne (by first | assumption | exact zk_eq | exact zk_ne (by first | assumption | exact zk_eq | exact zk_ne (by first | assumption | exact zk_eq | exact zk_ne (by first | assumption | exact zk_eq) (by first | decide | omega)) (by first | decide | omega)) (by first | decide | omega)) (by first | decide | omega)) (by first | decide | omega)) (by first | rfl | assumption) (by first | assumption | omega | decide) (by first | decide | omega) ?_
    refine z_goto C 25 dL_setSkills_10 (by decide) ?_
    refine z_iconst C (0) dL_setSkills_25 (by decide) ?_
    refine z_iret C hret dL_setSkills_26 (by first | exact Nat.le_of_ble_eq_true rfl | omega) (by first | exact Nat.le_of_ble_eq_true rfl | omega) ?_
    exact ⟨Or.inl ⟨v9, hE, rfl, hx1.kp (fun j hj => va_up_ne _ _ (by omega)), _, va_up_self _ _ _, va_up_self _ _ _⟩, fun j j1 j2 j3 => (va_up_ne _ _ j3).trans (hx2 j j1 j2)⟩
abbrev hh_move : List (Nat × Nat × Nat × Nat) := [(0, 10, 13, 21), (0, 10, 17, 13)]
abbrev cd_move : List (String × Int32) := [(zNS, 1), (zIA, 2)]
theorem zh_move : zMH mL_move hh_move 4 := ⟨lwG_in (List.mem_of_getElem? (i := 551) (by decide +kernel)) rfl, zi_RL, lwG_in (List.mem_of_getElem? (i := 550) (by decide +kernel)) rfl, by decide +kernel, by decide +kernel, by decide +kernel⟩
theorem ex_move {E : String} (x : Int32) (y : Int32) (h : (hMove S x y).1 = .inl E) : E = zNS ∨ E = zIA := by
  unfold hMove at h
  repeat' (split at h)
  all_goals first | (cases h; done) | (cases h; simp)
theorem k_move (hl : l.stackTraces = false) (h : HH z a0 nn w S) (h40 : w 40 = some (ao, .inl (z.2.2.1 3, 1, .inr (.inl f0)))) (x : Int32) (y : Int32)  : ZMH l z mL_move hh_move 12 120 7000 [.ref a0, .int x, .int y, .ref ao] w (fun r w1 => zLq z a0 ao (nn) cd_move lvI (hMove S x y) S r w w1) := by
  obtain ⟨qa, tb, tk, qW, qP, qad, qH, -⟩ := id h
  have h0 : w 0 = some (a0, zHc qa S.2.2.1) := by rw [← qad]; exact qH.1
  refine zbodyH (M := mL_move) (L0 := [_, _, _, _, _]) hl (by simp [Value.category]) (Nat.le_of_ble_eq_true rfl) (by decide +kernel) rfl ?_
  intro p e s m args below meth c C hT hnm hret
  replace C : zC z p l s m args meth c cL_move RL 5 := C
  replace hret : meth.sig.returnType = (some .int) := hret
  refine z_aload_n C dL_move_0 rfl ?_
  refine z_iconst C (0) dL_move_1 (by decide) ?_
  refine z_aload_n C dL_move_2 rfl ?_
  refine z_iload_n C dL_move_3 rfl ?_
  refine z_iload_n C dL_move_4 rfl ?_
  refine z_callV C zm_X2_move zl_L_26 (o_move hl h x y) dL_move_5 h0 (by rfl) (by rfl) (by rfl) (by exact Nat.le_of_ble_eq_true rfl) rfl (by exact ⟨Nat.le_of_ble_eq_true rfl, Nat.le_of_ble_eq_true rfl⟩) (by first | exact ⟨Nat.le_of_ble_eq_true rfl, Nat.le_of_ble_eq_true rfl⟩ | (simp only [zrm]; omega)) (fun E w1 hx => ?_) (fun r w1 hq => ?_)
  · obtain ⟨hE, hx1, hx2⟩ := hx
    have hE2 := ex_move x y hE
    rcases hE2 with rfl | rfl
    · refine z_caught C hT [] (0, 10, 13, 21) [(0, 10, 17, 13)] rfl (fun y hy => absurd hy List.not_mem_nil) ⟨by decide, by decide⟩ (by decide) zk_L_21 (by decide +kernel) (fun q => ?_)
      refine z_astore C (L1 := [_, _, _, _, _]) dL_move_13 (Nat.le_of_ble_eq_true rfl) rfl ?_
      refine z_iconst C (1) dL_move_15 (by decide) ?_
      refine z_iret C hret dL_move_16 (by first | exact Nat.le_of_ble_eq_true rfl | omega) (by first | exact Nat.le_of_ble_eq_true rfl | omega) ?_
      exact ⟨Or.inr ⟨zNS, 1, hE, by simp, rfl, hx1.up (by omega), hx2 40 (by decide) (by decide)⟩, fun j j1 j2 _ => hx2 j j1 j2⟩
    · refine z_caught C hT [(0, 10, 13, 21)] (0, 10, 17, 13) [] rfl (List.forall_mem_cons.mpr ⟨⟨by decide, _, zk_L_21, by decide +kernel⟩, (fun y hy => absurd hy List.not_mem_nil)⟩) ⟨by decide, by decide⟩ (by decide) zk_L_13 (by decide +kernel) (fun q => ?_)
      refine z_astore C (L1 := [_, _, _, _, _]) dL_move_17 (Nat.le_of_ble_eq_true rfl) rfl ?_
      refine z_iconst C (2) dL_move_19 (by decide) ?_
      refine z_iret C hret dL_move_20 (by first | exact Nat.le_of_ble_eq_true rfl | omega) (by first | exact Nat.le_of_ble_eq_true rfl | omega) ?_
      exact ⟨Or.inr ⟨zIA, 2, hE, by simp, rfl, hx1.up (by omega), hx2 40 (by decide) (by decide)⟩, fun j j1 j2 _ => hx2 j j1 j2⟩
  · obtain ⟨v9, hE, rfl, hx1, hx2⟩ := hq
    have h41 := (hx2 40 (by decide) (by decide)).trans h40
    refine z_i2l C dL_move_8 ?_
    refine z_last C dL_move_9 (by first | assumption | exact zk_eq | exact zk_ne (by first | assumption | exact zk_eq | exact zk_ne (by first | assumption | exact zk_eq | exact zk_ne (by first | assumption | exact zk_eq | exact zk_ne (by first | assumption | exact zk_eq | exact zk_ne (by first | assumption | exact zk_eq) (by first | decide | omega)) (by first | decide | omega)) (by first | decide | omega)) (by first | decide | omega)) (by first | decide | omega)) (by first | rfl | assumption) (by first | assumption | omega | decide) (by first | decide | omega) ?_
    refine z_goto C 21 dL_move_10 (by decide) ?_
    refine z_iconst C (0) dL_move_21 (by decide) ?_
    refine z_iret C hret dL_move_22 (by first | exact Nat.le_of_ble_eq_true rfl | omega) (by first | exact Nat.le_of_ble_eq_true rfl | omega) ?_
    exact ⟨Or.inl ⟨v9, hE, rfl, hx1.kp (fun j hj => va_up_ne _ _ (by omega)), _, va_up_self _ _ _, va_up_self _ _ _⟩, fun j j1 j2 j3 => (va_up_ne _ _ j3).trans (hx2 j j1 j2)⟩
abbrev hh_setAway : List (Nat × Nat × Nat × Nat) := [(0, 17, 20, 21)]
abbrev cd_setAway : List (String × Int32) := [(zNS, 1)]
theorem zh_setAway : zMH mL_setAway hh_setAway 4 := ⟨lwG_in (List.mem_of_getElem? (i := 558) (by decide +kernel)) rfl, zi_RL, lwG_in (List.mem_of_getElem? (i := 557) (by decide +kernel)) rfl, by decide +kernel, by decide +kernel, by decide +kernel⟩
theorem ex_setAway {E : String} (x : Int32) (v : Bool) (h : (hSet S x 3 (zb v)).1 = .inl E) : E = zNS := by
  unfold hSet at h
  repeat' (split at h)
  all_goals first | (cases h; done) | (cases h; simp)
theorem k_setAway (hl : l.stackTraces = false) (h : HH z a0 nn w S) (h40 : w 40 = some (ao, .inl (z.2.2.1 3, 1, .inr (.inl f0)))) (x : Int32) (v : Bool) (hb : ∀ n ∈ S.1, narrow .boolean (.int (S.2.1 n 3)) = .int (S.2.1 n 3)) : ZMH l z mL_setAway hh_setAway 12 120 7000 [.ref a0, .int x, .int (zb v), .ref ao] w (fun r w1 => zLq z a0 ao (nn) cd_setAway lvZ (hSet S x 3 (zb v)) S r w w1) := by
  obtain ⟨qa, tb, tk, qW, qP, qad, qH, -⟩ := id h
  have h0 : w 0 = some (a0, zHc qa S.2.2.1) := by rw [← qad]; exact qH.1
  refine zbodyH (M := mL_setAway) (L0 := [_, _, _, _, _]) hl (by simp [Value.category]) (Nat.le_of_ble_eq_true rfl) (by decide +kernel) rfl ?_
  intro p e s m args below meth c C hT hnm hret
  replace C : zC z p l s m args meth c cL_setAway RL 5 := C
  replace hret : meth.sig.returnType = (some .int) := hret
  refine z_aload_n C dL_setAway_0 rfl ?_
  refine z_iconst C (0) dL_setAway_1 (by decide) ?_
  refine z_aload_n C dL_setAway_2 rfl ?_
  refine z_iload_n C dL_setAway_3 rfl ?_
  refine z_iload_n C dL_setAway_4 rfl ?_
  refine z_callV C zm_X2_setAway zl_L_29 (o_setAway hl h x v hb) dL_setAway_5 h0 (by rfl) (by rfl) (by rfl) (by exact Nat.le_of_ble_eq_true rfl) rfl (by exact ⟨Nat.le_of_ble_eq_true rfl, Nat.le_of_ble_eq_true rfl⟩) (by first | exact ⟨Nat.le_of_ble_eq_true rfl, Nat.le_of_ble_eq_true rfl⟩ | (simp only [zrm]; omega)) (fun E w1 hx => ?_) (fun r w1 hq => ?_)
  · obtain ⟨hE, hx1, hx2⟩ := hx
    have hE2 := ex_setAway x v hE
    subst hE2
    refine z_caught C hT [] (0, 17, 20, 21) [] rfl (fun y hy => absurd hy List.not_mem_nil) ⟨by decide, by decide⟩ (by decide) zk_L_21 (by decide +kernel) (fun q => ?_)
    refine z_astore C (L1 := [_, _, _, _, _]) dL_setAway_20 (Nat.le_of_ble_eq_true rfl) rfl ?_
    refine z_iconst C (1) dL_setAway_22 (by decide) ?_
    refine z_iret C hret dL_setAway_23 (by first | exact Nat.le_of_ble_eq_true rfl | omega) (by first | exact Nat.le_of_ble_eq_true rfl | omega) ?_
    exact ⟨Or.inr ⟨zNS, 1, hE, by simp, rfl, hx1.up (by omega), hx2 40 (by decide) (by decide)⟩, fun j j1 j2 _ => hx2 j j1 j2⟩
  · obtain ⟨v9, hE, rfl, hx1, hx2⟩ := hq
    have h41 := (hx2 40 (by decide) (by decide)).trans h40
    refine z_if_eq C 15 dL_setAway_8 (by decide) (fun c1 => ?_) (fun c1 => ?_)
    · refine z_lconst C 0 dL_setAway_15 (by decide) ?_
      refine z_last C dL_setAway_16 (by first | assumption | exact zk_eq | exact zk_ne (by first | assumption | exact zk_eq | exact zk_ne (by first | assumption | exact zk_eq | exact zk_ne (by first | assumption | exact zk_eq | exact zk_ne (by first | assumption | exact zk_eq | exact zk_ne (by first | assumption | exact zk_eq) (by first | decide | omega)) (by first | decide | omega)) (by first | decide | omega)) (by first | decide | omega)) (by first | decide | omega)) (by first | rfl | assumption) (by first | assumption | omega | decide) (by first | decide | omega) ?_
      refine z_goto C 24 dL_setAway_17 (by decide) ?_
      refine z_iconst C (0) dL_setAway_24 (by decide) ?_
      refine z_iret C hret dL_setAway_25 (by first | exact Nat.le_of_ble_eq_true rfl | omega) (by first | exact Nat.le_of_ble_eq_true rfl | omega) ?_
      exact ⟨Or.inl ⟨v9, hE, rfl, hx1.kp (fun j hj => va_up_ne _ _ (by omega)), _, va_up_self _ _ _, (va_up_self _ _ _).trans (by rw [lvZ, if_pos c1])⟩, fun j j1 j2 j3 => (va_up_ne _ _ j3).trans (hx2 j j1 j2)⟩
    · refine z_lconst C 1 dL_setAway_11 (by decide) ?_
      refine z_goto C 16 dL_setAway_12 (by decide) ?_
      refine z_last C dL_setAway_16 (by first | assumption | exact zk_eq | exact zk_ne (by first | assumption | exact zk_eq | exact zk_ne (by first | assumption | exact zk_eq | exact zk_ne (by first | assumption | exact zk_eq | exact zk_ne (by first | assumption | exact zk_eq | exact zk_ne (by first | assumption | exact zk_eq) (by first | decide | omega)) (by first | decide | omega)) (by first | decide | omega)) (by first | decide | omega)) (by first | decide | omega)) (by first | rfl | assumption) (by first | assumption | omega | decide) (by first | decide | omega) ?_
      refine z_goto C 24 dL_setAway_17 (by decide) ?_
      refine z_iconst C (0) dL_setAway_24 (by decide) ?_
      refine z_iret C hret dL_setAway_25 (by first | exact Nat.le_of_ble_eq_true rfl | omega) (by first | exact Nat.le_of_ble_eq_true rfl | omega) ?_
      exact ⟨Or.inl ⟨v9, hE, rfl, hx1.kp (fun j hj => va_up_ne _ _ (by omega)), _, va_up_self _ _ _, (va_up_self _ _ _).trans (by rw [lvZ, if_neg c1])⟩, fun j j1 j2 j3 => (va_up_ne _ _ j3).trans (hx2 j j1 j2)⟩
abbrev hh_setRefusing : List (Nat × Nat × Nat × Nat) := [(0, 17, 20, 21)]
abbrev cd_setRefusing : List (String × Int32) := [(zNS, 1)]
theorem zh_setRefusing : zMH mL_setRefusing hh_setRefusing 4 := ⟨lwG_in (List.mem_of_getElem? (i := 565) (by decide +kernel)) rfl, zi_RL, lwG_in (List.mem_of_getElem? (i := 564) (by decide +kernel)) rfl, by decide +kernel, by decide +kernel, by decide +kernel⟩
theorem ex_setRefusing {E : String} (x : Int32) (v : Bool) (h : (hSet S x 4 (zb v)).1 = .inl E) : E = zNS := by
  unfold hSet at h
  repeat' (split at h)
  all_goals first | (cases h; done) | (cases h; simp)
theorem k_setRefusing (hl : l.stackTraces = false) (h : HH z a0 nn w S) (h40 : w 40 = some (ao, .inl (z.2.2.1 3, 1, .inr (.inl f0)))) (x : Int32) (v : Bool) (hb : ∀ n ∈ S.1, narrow .boolean (.int (S.2.1 n 4)) = .int (S.2.1 n 4)) : ZMH l z mL_setRefusing hh_setRefusing 12 120 7000 [.ref a0, .int x, .int (zb v), .ref ao] w (fun r w1 => zLq z a0 ao (nn) cd_setRefusing lvZ (hSet S x 4 (zb v)) S r w w1) := by
  obtain ⟨qa, tb, tk, qW, qP, qad, qH, -⟩ := id h
  have h0 : w 0 = some (a0, zHc qa S.2.2.1) := by rw [← qad]; exact qH.1
  refine zbodyH (M := mL_setRefusing) (L0 := [_, _, _, _, _]) hl (by simp [Value.category]) (Nat.le_of_ble_eq_true rfl) (by decide +kernel) rfl ?_
  intro p e s m args below meth c C hT hnm hret
  replace C : zC z p l s m args meth c cL_setRefusing RL 5 := C
  replace hret : meth.sig.returnType = (some .int) := hret
  refine z_aload_n C dL_setRefusing_0 rfl ?_
  refine z_iconst C (0) dL_setRefusing_1 (by decide) ?_
  refine z_aload_n C dL_setRefusing_2 rfl ?_
  refine z_iload_n C dL_setRefusing_3 rfl ?_
  refine z_iload_n C dL_setRefusing_4 rfl ?_
  refine z_callV C zm_X2_setRefusing zl_L_33 (o_setRefusing hl h x v hb) dL_setRefusing_5 h0 (by rfl) (by rfl) (by rfl) (by exact Nat.le_of_ble_eq_true rfl) rfl (by exact ⟨Nat.le_of_ble_eq_true rfl, Nat.le_of_ble_eq_true rfl⟩) (by first | exact ⟨Nat.le_of_ble_eq_true rfl, Nat.le_of_ble_eq_true rfl⟩ | (simp only [zrm]; omega)) (fun E w1 hx => ?_) (fun r w1 hq => ?_)
  · obtain ⟨hE, hx1, hx2⟩ := hx
    have hE2 := ex_setRefusing x v hE
    subst hE2
    refine z_caught C hT [] (0, 17, 20, 21) [] rfl (fun y hy => absurd hy List.not_mem_nil) ⟨by decide, by decide⟩ (by decide) zk_L_21 (by decide +kernel) (fun q => ?_)
    refine z_astore C (L1 := [_, _, _, _, _]) dL_setRefusing_20 (Nat.le_of_ble_eq_true rfl) rfl ?_
    refine z_iconst C (1) dL_setRefusing_22 (by decide) ?_
    refine z_iret C hret dL_setRefusing_23 (by first | exact Nat.le_of_ble_eq_true rfl | omega) (by first | exact Nat.le_of_ble_eq_true rfl | omega) ?_
    exact ⟨Or.inr ⟨zNS, 1, hE, by simp, rfl, hx1.up (by omega), hx2 40 (by decide) (by decide)⟩, fun j j1 j2 _ => hx2 j j1 j2⟩
  · obtain ⟨v9, hE, rfl, hx1, hx2⟩ := hq
    have h41 := (hx2 40 (by decide) (by decide)).trans h40
    refine z_if_eq C 15 dL_setRefusing_8 (by decide) (fun c1 => ?_) (fun c1 => ?_)
    · refine z_lconst C 0 dL_setRefusing_15 (by decide) ?_
      refine z_last C dL_setRefusing_16 (by first | assumption | exact zk_eq | exact zk_ne (by first | assumption | exact zk_eq | exact zk_ne (by first | assumption | exact zk_eq | exact zk_ne (by first | assumption | exact zk_eq | exact zk_ne (by first | assumption | exact zk_eq | exact zk_ne (by first | assumption | exact zk_eq) (by first | decide | omega)) (by first | decide | omega)) (by first | decide | omega)) (by first | decide | omega)) (by first | decide | omega)) (by first | rfl | assumption) (by first | assumption | omega | decide) (by first | decide | omega) ?_
      refine z_goto C 24 dL_setRefusing_17 (by decide) ?_
      refine z_iconst C (0) dL_setRefusing_24 (by decide) ?_
      refine z_iret C hret dL_setRefusing_25 (by first | exact Nat.le_of_ble_eq_true rfl | omega) (by first | exact Nat.le_of_ble_eq_true rfl | omega) ?_
      exact ⟨Or.inl ⟨v9, hE, rfl, hx1.kp (fun j hj => va_up_ne _ _ (by omega)), _, va_up_self _ _ _, (va_up_self _ _ _).trans (by rw [lvZ, if_pos c1])⟩, fun j j1 j2 j3 => (va_up_ne _ _ j3).trans (hx2 j j1 j2)⟩
    · refine z_lconst C 1 dL_setRefusing_11 (by decide) ?_
      refine z_goto C 16 dL_setRefusing_12 (by decide) ?_
      refine z_last C dL_setRefusing_16 (by first | assumption | exact zk_eq | exact zk_ne (by first | assumption | exact zk_eq | exact zk_ne (by first | assumption | exact zk_eq | exact zk_ne (by first | assumption | exact zk_eq | exact zk_ne (by first | assumption | exact zk_eq | exact zk_ne (by first | assumption | exact zk_eq) (by first | decide | omega)) (by first | decide | omega)) (by first | decide | omega)) (by first | decide | omega)) (by first | decide | omega)) (by first | rfl | assumption) (by first | assumption | omega | decide) (by first | decide | omega) ?_
      refine z_goto C 24 dL_setRefusing_17 (by decide) ?_
      refine z_iconst C (0) dL_setRefusing_24 (by decide) ?_
      refine z_iret C hret dL_setRefusing_25 (by first | exact Nat.le_of_ble_eq_true rfl | omega) (by first | exact Nat.le_of_ble_eq_true rfl | omega) ?_
      exact ⟨Or.inl ⟨v9, hE, rfl, hx1.kp (fun j hj => va_up_ne _ _ (by omega)), _, va_up_self _ _ _, (va_up_self _ _ _).trans (by rw [lvZ, if_neg c1])⟩, fun j j1 j2 j3 => (va_up_ne _ _ j3).trans (hx2 j j1 j2)⟩
abbrev hh_setRule : List (Nat × Nat × Nat × Nat) := [(0, 12, 15, 13)]
abbrev cd_setRule : List (String × Int32) := [(zIA, 1)]
theorem zh_setRule : zMH mL_setRule hh_setRule 5 := ⟨lwG_in (List.mem_of_getElem? (i := 572) (by decide +kernel)) rfl, zi_RL, lwG_in (List.mem_of_getElem? (i := 571) (by decide +kernel)) rfl, by decide +kernel, by decide +kernel, by decide +kernel⟩
theorem ex_setRule {E : String} (x : Int32) (v : Bool) (y : Int32) (h : (hSetRule S x (zb v) y).1 = .inl E) : E = zIA := by
  unfold hSetRule at h
  repeat' (split at h)
  all_goals first | (cases h; done) | (cases h; simp)
theorem k_setRule (hl : l.stackTraces = false) (h : HH z a0 nn w S) (h40 : w 40 = some (ao, .inl (z.2.2.1 3, 1, .inr (.inl f0)))) (x : Int32) (v : Bool) (y : Int32)  : ZMH l z mL_setRule hh_setRule 12 120 7000 [.ref a0, .int x, .int (zb v), .int y, .ref ao] w (fun r w1 => zLq z a0 ao (nn) cd_setRule lvI (hSetRule S x (zb v) y) S r w w1) := by
  obtain ⟨qa, tb, tk, qW, qP, qad, qH, -⟩ := id h
  have h0 : w 0 = some (a0, zHc qa S.2.2.1) := by rw [← qad]; exact qH.1
  refine zbodyH (M := mL_setRule) (L0 := [_, _, _, _, _, _]) hl (by simp [Value.category]) (Nat.le_of_ble_eq_true rfl) (by decide +kernel) rfl ?_
  intro p e s m args below meth c C hT hnm hret
  replace C : zC z p l s m args meth c cL_setRule RL 6 := C
  replace hret : meth.sig.returnType = (some .int) := hret
  refine z_aload C dL_setRule_0 rfl ?_
  refine z_iconst C (0) dL_setRule_2 (by decide) ?_
  refine z_aload_n C dL_setRule_3 rfl ?_
  refine z_iload_n C dL_setRule_4 rfl ?_
  refine z_iload_n C dL_setRule_5 rfl ?_
  refine z_iload_n C dL_setRule_6 rfl ?_
  refine z_callV C zm_X2_setRule zl_L_36 (o_setRule hl h x v y) dL_setRule_7 h0 (by rfl) (by rfl) (by rfl) (by exact Nat.le_of_ble_eq_true rfl) rfl (by exact ⟨Nat.le_of_ble_eq_true rfl, Nat.le_of_ble_eq_true rfl⟩) (by first | exact ⟨Nat.le_of_ble_eq_true rfl, Nat.le_of_ble_eq_true rfl⟩ | (simp only [zrm]; omega)) (fun E w1 hx => ?_) (fun r w1 hq => ?_)
  · obtain ⟨hE, hx1, hx2⟩ := hx
    have hE2 := ex_setRule x v y hE
    subst hE2
    refine z_caught C hT [] (0, 12, 15, 13) [] rfl (fun y hy => absurd hy List.not_mem_nil) ⟨by decide, by decide⟩ (by decide) zk_L_13 (by decide +kernel) (fun q => ?_)
    refine z_astore C (L1 := [_, _, _, _, _, _]) dL_setRule_15 (Nat.le_of_ble_eq_true rfl) rfl ?_
    refine z_iconst C (1) dL_setRule_17 (by decide) ?_
    refine z_iret C hret dL_setRule_18 (by first | exact Nat.le_of_ble_eq_true rfl | omega) (by first | exact Nat.le_of_ble_eq_true rfl | omega) ?_
    exact ⟨Or.inr ⟨zIA, 1, hE, by simp, rfl, hx1.up (by omega), hx2 40 (by decide) (by decide)⟩, fun j j1 j2 _ => hx2 j j1 j2⟩
  · obtain ⟨v9, hE, rfl, hx1, hx2⟩ := hq
    have h41 := (hx2 40 (by decide) (by decide)).trans h40
    refine z_i2l C dL_setRule_10 ?_
    refine z_last C dL_setRule_11 (by first | assumption | exact zk_eq | exact zk_ne (by first | assumption | exact zk_eq | exact zk_ne (by first | assumption | exact zk_eq | exact zk_ne (by first | assumption | exact zk_eq | exact zk_ne (by first | assumption | exact zk_eq | exact zk_ne (by first | assumption | exact zk_eq) (by first | decide | omega)) (by first | decide | omega)) (by first | decide | omega)) (by first | decide | omega)) (by first | decide | omega)) (by first | rfl | assumption) (by first | assumption | omega | decide) (by first | decide | omega) ?_
    refine z_goto C 19 dL_setRule_12 (by decide) ?_
    refine z_iconst C (0) dL_setRule_19 (by decide) ?_
    refine z_iret C hret dL_setRule_20 (by first | exact Nat.le_of_ble_eq_true rfl | omega) (by first | exact Nat.le_of_ble_eq_true rfl | omega) ?_
    exact ⟨Or.inl ⟨v9, hE, rfl, hx1.kp (fun j hj => va_up_ne _ _ (by omega)), _, va_up_self _ _ _, va_up_self _ _ _⟩, fun j j1 j2 j3 => (va_up_ne _ _ j3).trans (hx2 j j1 j2)⟩
abbrev hh_equalise : List (Nat × Nat × Nat × Nat) := [(0, 9, 12, 13)]
abbrev cd_equalise : List (String × Int32) := [(zIA, 1)]
theorem zh_equalise : zMH mL_equalise hh_equalise 3 := ⟨lwG_in (List.mem_of_getElem? (i := 580) (by decide +kernel)) rfl, zi_RL, lwG_in (List.mem_of_getElem? (i := 579) (by decide +kernel)) rfl, by decide +kernel, by decide +kernel, by decide +kernel⟩
theorem ex_equalise {E : String} (x : Int32) (h : (hEqualise S x).1 = .inl E) : E = zIA := by
  unfold hEqualise at h
  repeat' (split at h)
  all_goals first | (cases h; done) | (cases h; simp)
theorem k_equalise (hl : l.stackTraces = false) (h : HH z a0 nn w S) (h40 : w 40 = some (ao, .inl (z.2.2.1 3, 1, .inr (.inl f0)))) (x : Int32)  : ZMH l z mL_equalise hh_equalise 12 120 7000 [.ref a0, .int x, .ref ao] w (fun r w1 => zLq z a0 ao (nn) cd_equalise lvI (hEqualise S x) S r w w1) := by
  obtain ⟨qa, tb, tk, qW, qP, qad, qH, -⟩ := id h
  have h0 : w 0 = some (a0, zHc qa S.2.2.1) := by rw [← qad]; exact qH.1
  refine zbodyH (M := mL_equalise) (L0 := [_, _, _, _]) hl (by simp [Value.category]) (Nat.le_of_ble_eq_true rfl) (by decide +kernel) rfl ?_
  intro p e s m args below meth c C hT hnm hret
  replace C : zC z p l s m args meth c cL_equalise RL 4 := C
  replace hret : meth.sig.returnType = (some .int) := hret
  refine z_aload_n C dL_equalise_0 rfl ?_
  refine z_iconst C (0) dL_equalise_1 (by decide) ?_
  refine z_aload_n C dL_equalise_2 rfl ?_
  refine z_iload_n C dL_equalise_3 rfl ?_
  refine z_callV C zm_X2_equalise zl_L_40 (o_equalise hl h x) dL_equalise_4 h0 (by rfl) (by rfl) (by rfl) (by exact Nat.le_of_ble_eq_true rfl) rfl (by exact ⟨Nat.le_of_ble_eq_true rfl, Nat.le_of_ble_eq_true rfl⟩) (by first | exact ⟨Nat.le_of_ble_eq_true rfl, Nat.le_of_ble_eq_true rfl⟩ | (simp only [zrm]; omega)) (fun E w1 hx => ?_) (fun r w1 hq => ?_)
  · obtain ⟨hE, hx1, hx2⟩ := hx
    have hE2 := ex_equalise x hE
    subst hE2
    refine z_caught C hT [] (0, 9, 12, 13) [] rfl (fun y hy => absurd hy List.not_mem_nil) ⟨by decide, by decide⟩ (by decide) zk_L_13 (by decide +kernel) (fun q => ?_)
    refine z_astore_n C (L1 := [_, _, _, _]) dL_equalise_12 (Nat.le_of_ble_eq_true rfl) rfl ?_
    refine z_iconst C (1) dL_equalise_13 (by decide) ?_
    refine z_iret C hret dL_equalise_14 (by first | exact Nat.le_of_ble_eq_true rfl | omega) (by first | exact Nat.le_of_ble_eq_true rfl | omega) ?_
    exact ⟨Or.inr ⟨zIA, 1, hE, by simp, rfl, hx1.up (by omega), hx2 40 (by decide) (by decide)⟩, fun j j1 j2 _ => hx2 j j1 j2⟩
  · obtain ⟨v9, hE, rfl, hx1, hx2⟩ := hq
    have h41 := (hx2 40 (by decide) (by decide)).trans h40
    refine z_i2l C dL_equalise_7 ?_
    refine z_last C dL_equalise_8 (by first | assumption | exact zk_eq | exact zk_ne (by first | assumption | exact zk_eq | exact zk_ne (by first | assumption | exact zk_eq | exact zk_ne (by first | assumption | exact zk_eq | exact zk_ne (by first | assumption | exact zk_eq | exact zk_ne (by first | assumption | exact zk_eq) (by first | decide | omega)) (by first | decide | omega)) (by first | decide | omega)) (by first | decide | omega)) (by first | decide | omega)) (by first | rfl | assumption) (by first | assumption | omega | decide) (by first | decide | omega) ?_
    refine z_goto C 15 dL_equalise_9 (by decide) ?_
    refine z_iconst C (0) dL_equalise_15 (by decide) ?_
    refine z_iret C hret dL_equalise_16 (by first | exact Nat.le_of_ble_eq_true rfl | omega) (by first | exact Nat.le_of_ble_eq_true rfl | omega) ?_
    exact ⟨Or.inl ⟨v9, hE, rfl, hx1.kp (fun j hj => va_up_ne _ _ (by omega)), _, va_up_self _ _ _, va_up_self _ _ _⟩, fun j j1 j2 j3 => (va_up_ne _ _ j3).trans (hx2 j j1 j2)⟩
abbrev hh_order : List (Nat × Nat × Nat × Nat) := [(0, 9, 12, 13), (0, 9, 15, 15)]
abbrev cd_order : List (String × Int32) := [(zIA, 1), (zIS, 2)]
theorem zh_order : zMH mL_order hh_order 3 := ⟨lwG_in (List.mem_of_getElem? (i := 599) (by decide +kernel)) rfl, zi_RL, lwG_in (List.mem_of_getElem? (i := 598) (by decide +kernel)) rfl, by decide +kernel, by decide +kernel, by decide +kernel⟩
theorem ex_order {E : String} (x : Int32) (h : (hOrder S x).1 = .inl E) : E = zIA ∨ E = zIS := by
  unfold hOrder at h
  repeat' (split at h)
  all_goals first | (cases h; done) | (cases h; simp)
theorem k_order (hl : l.stackTraces = false) (h : HH z a0 nn w S) (h40 : w 40 = some (ao, .inl (z.2.2.1 3, 1, .inr (.inl f0)))) (x : Int32)  : ZMH l z mL_order hh_order 12 120 7000 [.ref a0, .int x, .ref ao] w (fun r w1 => zLq z a0 ao (nn) cd_order lvI (hOrder S x) S r w w1) := by
  obtain ⟨qa, tb, tk, qW, qP, qad, qH, -⟩ := id h
  have h0 : w 0 = some (a0, zHc qa S.2.2.1) := by rw [← qad]; exact qH.1
  refine zbodyH (M := mL_order) (L0 := [_, _, _, _]) hl (by simp [Value.category]) (Nat.le_of_ble_eq_true rfl) (by decide +kernel) rfl ?_
  intro p e s m args below meth c C hT hnm hret
  replace C : zC z p l s m args meth c cL_order RL 4 := C
  replace hret : meth.sig.returnType = (some .int) := hret
  refine z_aload_n C dL_order_0 rfl ?_
  refine z_iconst C (0) dL_order_1 (by decide) ?_
  refine z_aload_n C dL_order_2 rfl ?_
  refine z_iload_n C dL_order_3 rfl ?_
  refine z_callV C zm_X2_order zl_L_43 (o_order hl h x) dL_order_4 h0 (by rfl) (by rfl) (by rfl) (by exact Nat.le_of_ble_eq_true rfl) rfl (by exact ⟨Nat.le_of_ble_eq_true rfl, Nat.le_of_ble_eq_true rfl⟩) (by first | exact ⟨Nat.le_of_ble_eq_true rfl, Nat.le_of_ble_eq_true rfl⟩ | (simp only [zrm]; omega)) (fun E w1 hx => ?_) (fun r w1 hq => ?_)
  · obtain ⟨hE, hx1, hx2⟩ := hx
    have hE2 := ex_order x hE
    rcases hE2 with rfl | rfl
    · refine z_caught C hT [] (0, 9, 12, 13) [(0, 9, 15, 15)] rfl (fun y hy => absurd hy List.not_mem_nil) ⟨by decide, by decide⟩ (by decide) zk_L_13 (by decide +kernel) (fun q => ?_)
      refine z_astore_n C (L1 := [_, _, _, _]) dL_order_12 (Nat.le_of_ble_eq_true rfl) rfl ?_
      refine z_iconst C (1) dL_order_13 (by decide) ?_
      refine z_iret C hret dL_order_14 (by first | exact Nat.le_of_ble_eq_true rfl | omega) (by first | exact Nat.le_of_ble_eq_true rfl | omega) ?_
      exact ⟨Or.inr ⟨zIA, 1, hE, by simp, rfl, hx1.up (by omega), hx2 40 (by decide) (by decide)⟩, fun j j1 j2 _ => hx2 j j1 j2⟩
    · refine z_caught C hT [(0, 9, 12, 13)] (0, 9, 15, 15) [] rfl (List.forall_mem_cons.mpr ⟨⟨by decide, _, zk_L_13, by decide +kernel⟩, (fun y hy => absurd hy List.not_mem_nil)⟩) ⟨by decide, by decide⟩ (by decide) zk_L_15 (by decide +kernel) (fun q => ?_)
      refine z_astore_n C (L1 := [_, _, _, _]) dL_order_15 (Nat.le_of_ble_eq_true rfl) rfl ?_
      refine z_iconst C (2) dL_order_16 (by decide) ?_
      refine z_iret C hret dL_order_17 (by first | exact Nat.le_of_ble_eq_true rfl | omega) (by first | exact Nat.le_of_ble_eq_true rfl | omega) ?_
      exact ⟨Or.inr ⟨zIS, 2, hE, by simp, rfl, hx1.up (by omega), hx2 40 (by decide) (by decide)⟩, fun j j1 j2 _ => hx2 j j1 j2⟩
  · obtain ⟨v9, hE, rfl, hx1, hx2⟩ := hq
    have h41 := (hx2 40 (by decide) (by decide)).trans h40
    refine z_i2l C dL_order_7 ?_
    refine z_last C dL_order_8 (by first | assumption | exact zk_eq | exact zk_ne (by first | assumption | exact zk_eq | exact zk_ne (by first | assumption | exact zk_eq | exact zk_ne (by first | assumption | exact zk_eq | exact zk_ne (by first | assumption | exact zk_eq | exact zk_ne (by first | assumption | exact zk_eq) (by first | decide | omega)) (by first | decide | omega)) (by first | decide | omega)) (by first | decide | omega)) (by first | decide | omega)) (by first | rfl | assumption) (by first | assumption | omega | decide) (by first | decide | omega) ?_
    refine z_goto C 18 dL_order_9 (by decide) ?_
    refine z_iconst C (0) dL_order_18 (by decide) ?_
    refine z_iret C hret dL_order_19 (by first | exact Nat.le_of_ble_eq_true rfl | omega) (by first | exact Nat.le_of_ble_eq_true rfl | omega) ?_
    exact ⟨Or.inl ⟨v9, hE, rfl, hx1.kp (fun j hj => va_up_ne _ _ (by omega)), _, va_up_self _ _ _, va_up_self _ _ _⟩, fun j j1 j2 j3 => (va_up_ne _ _ j3).trans (hx2 j j1 j2)⟩
abbrev hh_setHours : List (Nat × Nat × Nat × Nat) := [(0, 9, 12, 13), (0, 9, 15, 15)]
abbrev cd_setHours : List (String × Int32) := [(zIA, 1), (zIS, 2)]
theorem zh_setHours : zMH mL_setHours hh_setHours 3 := ⟨lwG_in (List.mem_of_getElem? (i := 608) (by decide +kernel)) rfl, zi_RL, lwG_in (List.mem_of_getElem? (i := 607) (by decide +kernel)) rfl, by decide +kernel, by decide +kernel, by decide +kernel⟩
theorem ex_setHours {E : String} (x : Int32) (h : (hSetHours S x).1 = .inl E) : E = zIA ∨ E = zIS := by
  unfold hSetHours at h
  repeat' (split at h)
  all_goals first | (cases h; done) | (cases h; simp)
theorem k_setHours (hl : l.stackTraces = false) (h : HH z a0 nn w S) (h40 : w 40 = some (ao, .inl (z.2.2.1 3, 1, .inr (.inl f0)))) (x : Int32)  : ZMH l z mL_setHours hh_setHours 12 120 7000 [.ref a0, .int x, .ref ao] w (fun r w1 => zLq z a0 ao (nn) cd_setHours lvI (hSetHours S x) S r w w1) := by
  obtain ⟨qa, tb, tk, qW, qP, qad, qH, -⟩ := id h
  have h0 : w 0 = some (a0, zHc qa S.2.2.1) := by rw [← qad]; exact qH.1
  refine zbodyH (M := mL_setHours) (L0 := [_, _, _, _]) hl (by simp [Value.category]) (Nat.le_of_ble_eq_true rfl) (by decide +kernel) rfl ?_
  intro p e s m args below meth c C hT hnm hret
  replace C : zC z p l s m args meth c cL_setHours RL 4 := C
  replace hret : meth.sig.returnType = (some .int) := hret
  refine z_aload_n C dL_setHours_0 rfl ?_
  refine z_iconst C (0) dL_setHours_1 (by decide) ?_
  refine z_aload_n C dL_setHours_2 rfl ?_
  refine z_iload_n C dL_setHours_3 rfl ?_
  refine z_callV C zm_X2_setHours zl_L_46 (o_setHours hl h x) dL_setHours_4 h0 (by rfl) (by rfl) (by rfl) (by exact Nat.le_of_ble_eq_true rfl) rfl (by exact ⟨Nat.le_of_ble_eq_true rfl, Nat.le_of_ble_eq_true rfl⟩) (by first | exact ⟨Nat.le_of_ble_eq_true rfl, Nat.le_of_ble_eq_true rfl⟩ | (simp only [zrm]; omega)) (fun E w1 hx => ?_) (fun r w1 hq => ?_)
  · obtain ⟨hE, hx1, hx2⟩ := hx
    have hE2 := ex_setHours x hE
    rcases hE2 with rfl | rfl
    · refine z_caught C hT [] (0, 9, 12, 13) [(0, 9, 15, 15)] rfl (fun y hy => absurd hy List.not_mem_nil) ⟨by decide, by decide⟩ (by decide) zk_L_13 (by decide +kernel) (fun q => ?_)
      refine z_astore_n C (L1 := [_, _, _, _]) dL_setHours_12 (Nat.le_of_ble_eq_true rfl) rfl ?_
      refine z_iconst C (1) dL_setHours_13 (by decide) ?_
      refine z_iret C hret dL_setHours_14 (by first | exact Nat.le_of_ble_eq_true rfl | omega) (by first | exact Nat.le_of_ble_eq_true rfl | omega) ?_
      exact ⟨Or.inr ⟨zIA, 1, hE, by simp, rfl, hx1.up (by omega), hx2 40 (by decide) (by decide)⟩, fun j j1 j2 _ => hx2 j j1 j2⟩
    · refine z_caught C hT [(0, 9, 12, 13)] (0, 9, 15, 15) [] rfl (List.forall_mem_cons.mpr ⟨⟨by decide, _, zk_L_13, by decide +kernel⟩, (fun y hy => absurd hy List.not_mem_nil)⟩) ⟨by decide, by decide⟩ (by decide) zk_L_15 (by decide +kernel) (fun q => ?_)
      refine z_astore_n C (L1 := [_, _, _, _]) dL_setHours_15 (Nat.le_of_ble_eq_true rfl) rfl ?_
      refine z_iconst C (2) dL_setHours_16 (by decide) ?_
      refine z_iret C hret dL_setHours_17 (by first | exact Nat.le_of_ble_eq_true rfl | omega) (by first | exact Nat.le_of_ble_eq_true rfl | omega) ?_
      exact ⟨Or.inr ⟨zIS, 2, hE, by simp, rfl, hx1.up (by omega), hx2 40 (by decide) (by decide)⟩, fun j j1 j2 _ => hx2 j j1 j2⟩
  · obtain ⟨v9, hE, rfl, hx1, hx2⟩ := hq
    have h41 := (hx2 40 (by decide) (by decide)).trans h40
    refine z_i2l C dL_setHours_7 ?_
    refine z_last C dL_setHours_8 (by first | assumption | exact zk_eq | exact zk_ne (by first | assumption | exact zk_eq | exact zk_ne (by first | assumption | exact zk_eq | exact zk_ne (by first | assumption | exact zk_eq | exact zk_ne (by first | assumption | exact zk_eq | exact zk_ne (by first | assumption | exact zk_eq) (by first | decide | omega)) (by first | decide | omega)) (by first | decide | omega)) (by first | decide | omega)) (by first | decide | omega)) (by first | rfl | assumption) (by first | assumption | omega | decide) (by first | decide | omega) ?_
    refine z_goto C 18 dL_setHours_9 (by decide) ?_
    refine z_iconst C (0) dL_setHours_18 (by decide) ?_
    refine z_iret C hret dL_setHours_19 (by first | exact Nat.le_of_ble_eq_true rfl | omega) (by first | exact Nat.le_of_ble_eq_true rfl | omega) ?_
    exact ⟨Or.inl ⟨v9, hE, rfl, hx1.kp (fun j hj => va_up_ne _ _ (by omega)), _, va_up_self _ _ _, va_up_self _ _ _⟩, fun j j1 j2 j3 => (va_up_ne _ _ j3).trans (hx2 j j1 j2)⟩
abbrev hh_leave : List (Nat × Nat × Nat × Nat) := [(0, 10, 13, 21), (0, 10, 17, 13), (0, 10, 21, 15)]
abbrev cd_leave : List (String × Int32) := [(zNS, 1), (zIA, 2), (zIS, 3)]
theorem zh_leave : zMH mL_leave hh_leave 4 := ⟨lwG_in (List.mem_of_getElem? (i := 621) (by decide +kernel)) rfl, zi_RL, lwG_in (List.mem_of_getElem? (i := 620) (by decide +kernel)) rfl, by decide +kernel, by decide +kernel, by decide +kernel⟩
theorem ex_leave {E : String} (x : Int32) (y : Int32) (h : (hLeave S x y).1 = .inl E) : E = zNS ∨ E = zIA ∨ E = zIS := by
  unfold hLeave at h
  repeat' (split at h)
  all_goals first | (cases h; done) | (cases h; simp)
theorem k_leave (hl : l.stackTraces = false) (h : HH z a0 nn w S) (h40 : w 40 = some (ao, .inl (z.2.2.1 3, 1, .inr (.inl f0)))) (x : Int32) (y : Int32)  : ZMH l z mL_leave hh_leave 12 120 7000 [.ref a0, .int x, .int y, .ref ao] w (fun r w1 => zLq z a0 ao (nn) cd_leave lvI (hLeave S x y) S r w w1) := by
  obtain ⟨qa, tb, tk, qW, qP, qad, qH, -⟩ := id h
  have h0 : w 0 = some (a0, zHc qa S.2.2.1) := by rw [← qad]; exact qH.1
  refine zbodyH (M := mL_leave) (L0 := [_, _, _, _, _]) hl (by simp [Value.category]) (Nat.le_of_ble_eq_true rfl) (by decide +kernel) rfl ?_
  intro p e s m args below meth c C hT hnm hret
  replace C : zC z p l s m args meth c cL_leave RL 5 := C
  replace hret : meth.sig.returnType = (some .int) := hret
  refine z_aload_n C dL_leave_0 rfl ?_
  refine z_iconst C (0) dL_leave_1 (by decide) ?_
  refine z_aload_n C dL_leave_2 rfl ?_
  refine z_iload_n C dL_leave_3 rfl ?_
  refine z_iload_n C dL_leave_4 rfl ?_
  refine z_callV C zm_X2_leave zl_L_49 (o_leave hl h x y) dL_leave_5 h0 (by rfl) (by rfl) (by rfl) (by exact Nat.le_of_ble_eq_true rfl) rfl (by exact ⟨Nat.le_of_ble_eq_true rfl, Nat.le_of_ble_eq_true rfl⟩) (by first | exact ⟨Nat.le_of_ble_eq_true rfl, Nat.le_of_ble_eq_true rfl⟩ | (simp only [zrm]; omega)) (fun E w1 hx => ?_) (fun r w1 hq => ?_)
  · obtain ⟨hE, hx1, hx2⟩ := hx
    have hE2 := ex_leave x y hE
    rcases hE2 with rfl | rfl | rfl
    · refine z_caught C hT [] (0, 10, 13, 21) [(0, 10, 17, 13), (0, 10, 21, 15)] rfl (fun y hy => absurd hy List.not_mem_nil) ⟨by decide, by decide⟩ (by decide) zk_L_21 (by decide +kernel) (fun q => ?_)
      refine z_astore C (L1 := [_, _, _, _, _]) dL_leave_13 (Nat.le_of_ble_eq_true rfl) rfl ?_
      refine z_iconst C (1) dL_leave_15 (by decide) ?_
      refine z_iret C hret dL_leave_16 (by first | exact Nat.le_of_ble_eq_true rfl | omega) (by first | exact Nat.le_of_ble_eq_true rfl | omega) ?_
      exact ⟨Or.inr ⟨zNS, 1, hE, by simp, rfl, hx1.up (by omega), hx2 40 (by decide) (by decide)⟩, fun j j1 j2 _ => hx2 j j1 j2⟩
    · refine z_caught C hT [(0, 10, 13, 21)] (0, 10, 17, 13) [(0, 10, 21, 15)] rfl (List.forall_mem_cons.mpr ⟨⟨by decide, _, zk_L_21, by decide +kernel⟩, (fun y hy => absurd hy List.not_mem_nil)⟩) ⟨by decide, by decide⟩ (by decide) zk_L_13 (by decide +kernel) (fun q => ?_)
      refine z_astore C (L1 := [_, _, _, _, _]) dL_leave_17 (Nat.le_of_ble_eq_true rfl) rfl ?_
      refine z_iconst C (2) dL_leave_19 (by decide) ?_
      refine z_iret C hret dL_leave_20 (by first | exact Nat.le_of_ble_eq_true rfl | omega) (by first | exact Nat.le_of_ble_eq_true rfl | omega) ?_
      exact ⟨Or.inr ⟨zIA, 2, hE, by simp, rfl, hx1.up (by omega), hx2 40 (by decide) (by decide)⟩, fun j j1 j2 _ => hx2 j j1 j2⟩
    · refine z_caught C hT [(0, 10, 13, 21), (0, 10, 17, 13)] (0, 10, 21, 15) [] rfl (List.forall_mem_cons.mpr ⟨⟨by decide, _, zk_L_21, by decide +kernel⟩, (List.forall_mem_cons.mpr ⟨⟨by decide, _, zk_L_13, by decide +kernel⟩, (fun y hy => absurd hy List.not_mem_nil)⟩)⟩) ⟨by decide, by decide⟩ (by decide) zk_L_15 (by decide +kernel) (fun q => ?_)
      refine z_astore C (L1 := [_, _, _, _, _]) dL_leave_21 (Nat.le_of_ble_eq_true rfl) rfl ?_
      refine z_iconst C (3) dL_leave_23 (by decide) ?_
      refine z_iret C hret dL_leave_24 (by first | exact Nat.le_of_ble_eq_true rfl | omega) (by first | exact Nat.le_of_ble_eq_true rfl | omega) ?_
      exact ⟨Or.inr ⟨zIS, 3, hE, by simp, rfl, hx1.up (by omega), hx2 40 (by decide) (by decide)⟩, fun j j1 j2 _ => hx2 j j1 j2⟩
  · obtain ⟨v9, hE, rfl, hx1, hx2⟩ := hq
    have h41 := (hx2 40 (by decide) (by decide)).trans h40
    refine z_i2l C dL_leave_8 ?_
    refine z_last C dL_leave_9 (by first | assumption | exact zk_eq | exact zk_ne (by first | assumption | exact zk_eq | exact zk_ne (by first | assumption | exact zk_eq | exact zk_ne (by first | assumption | exact zk_eq | exact zk_ne (by first | assumption | exact zk_eq | exact zk_ne (by first | assumption | exact zk_eq) (by first | decide | omega)) (by first | decide | omega)) (by first | decide | omega)) (by first | decide | omega)) (by first | decide | omega)) (by first | rfl | assumption) (by first | assumption | omega | decide) (by first | decide | omega) ?_
    refine z_goto C 25 dL_leave_10 (by decide) ?_
    refine z_iconst C (0) dL_leave_25 (by decide) ?_
    refine z_iret C hret dL_leave_26 (by first | exact Nat.le_of_ble_eq_true rfl | omega) (by first | exact Nat.le_of_ble_eq_true rfl | omega) ?_
    exact ⟨Or.inl ⟨v9, hE, rfl, hx1.kp (fun j hj => va_up_ne _ _ (by omega)), _, va_up_self _ _ _, va_up_self _ _ _⟩, fun j j1 j2 j3 => (va_up_ne _ _ j3).trans (hx2 j j1 j2)⟩
abbrev hh_replace : List (Nat × Nat × Nat × Nat) := [(0, 9, 12, 21), (0, 9, 15, 15)]
abbrev cd_replace : List (String × Int32) := [(zNS, 1), (zIS, 2)]
theorem zh_replace : zMH mL_replace hh_replace 3 := ⟨lwG_in (List.mem_of_getElem? (i := 630) (by decide +kernel)) rfl, zi_RL, lwG_in (List.mem_of_getElem? (i := 629) (by decide +kernel)) rfl, by decide +kernel, by decide +kernel, by decide +kernel⟩
theorem ex_replace {E : String} (x : Int32) (h : (hReplace S x).1 = .inl E) : E = zNS ∨ E = zIS := by
  unfold hReplace at h
  repeat' (split at h)
  all_goals first | (cases h; done) | (cases h; simp)
theorem k_replace (hl : l.stackTraces = false) (h : HH z a0 nn w S) (h40 : w 40 = some (ao, .inl (z.2.2.1 3, 1, .inr (.inl f0)))) (x : Int32)  : ZMH l z mL_replace hh_replace 12 120 7000 [.ref a0, .int x, .ref ao] w (fun r w1 => zLq z a0 ao (nn) cd_replace lvI (hReplace S x) S r w w1) := by
  obtain ⟨qa, tb, tk, qW, qP, qad, qH, -⟩ := id h
  have h0 : w 0 = some (a0, zHc qa S.2.2.1) := by rw [← qad]; exact qH.1
  refine zbodyH (M := mL_replace) (L0 := [_, _, _, _]) hl (by simp [Value.category]) (Nat.le_of_ble_eq_true rfl) (by decide +kernel) rfl ?_
  intro p e s m args below meth c C hT hnm hret
  replace C : zC z p l s m args meth c cL_replace RL 4 := C
  replace hret : meth.sig.returnType = (some .int) := hret
  refine z_aload_n C dL_replace_0 rfl ?_
  refine z_iconst C (0) dL_replace_1 (by decide) ?_
  refine z_aload_n C dL_replace_2 rfl ?_
  refine z_iload_n C dL_replace_3 rfl ?_
  refine z_callV C zm_X2_replace zl_L_52 (o_replace hl h x) dL_replace_4 h0 (by rfl) (by rfl) (by rfl) (by exact Nat.le_of_ble_eq_true rfl) rfl (by exact ⟨Nat.le_of_ble_eq_true rfl, Nat.le_of_ble_eq_true rfl⟩) (by first | exact ⟨Nat.le_of_ble_eq_true rfl, Nat.le_of_ble_eq_true rfl⟩ | (simp only [zrm]; omega)) (fun E w1 hx => ?_) (fun r w1 hq => ?_)
  · obtain ⟨hE, hx1, hx2⟩ := hx
    have hE2 := ex_replace x hE
    rcases hE2 with rfl | rfl
    · refine z_caught C hT [] (0, 9, 12, 21) [(0, 9, 15, 15)] rfl (fun y hy => absurd hy List.not_mem_nil) ⟨by decide, by decide⟩ (by decide) zk_L_21 (by decide +kernel) (fun q => ?_)
      refine z_astore_n C (L1 := [_, _, _, _]) dL_replace_12 (Nat.le_of_ble_eq_true rfl) rfl ?_
      refine z_iconst C (1) dL_replace_13 (by decide) ?_
      refine z_iret C hret dL_replace_14 (by first | exact Nat.le_of_ble_eq_true rfl | omega) (by first | exact Nat.le_of_ble_eq_true rfl | omega) ?_
      exact ⟨Or.inr ⟨zNS, 1, hE, by simp, rfl, hx1.up (by omega), hx2 40 (by decide) (by decide)⟩, fun j j1 j2 _ => hx2 j j1 j2⟩
    · refine z_caught C hT [(0, 9, 12, 21)] (0, 9, 15, 15) [] rfl (List.forall_mem_cons.mpr ⟨⟨by decide, _, zk_L_21, by decide +kernel⟩, (fun y hy => absurd hy List.not_mem_nil)⟩) ⟨by decide, by decide⟩ (by decide) zk_L_15 (by decide +kernel) (fun q => ?_)
      refine z_astore_n C (L1 := [_, _, _, _]) dL_replace_15 (Nat.le_of_ble_eq_true rfl) rfl ?_
      refine z_iconst C (2) dL_replace_16 (by decide) ?_
      refine z_iret C hret dL_replace_17 (by first | exact Nat.le_of_ble_eq_true rfl | omega) (by first | exact Nat.le_of_ble_eq_true rfl | omega) ?_
      exact ⟨Or.inr ⟨zIS, 2, hE, by simp, rfl, hx1.up (by omega), hx2 40 (by decide) (by decide)⟩, fun j j1 j2 _ => hx2 j j1 j2⟩
  · obtain ⟨v9, hE, rfl, hx1, hx2⟩ := hq
    have h41 := (hx2 40 (by decide) (by decide)).trans h40
    refine z_i2l C dL_replace_7 ?_
    refine z_last C dL_replace_8 (by first | assumption | exact zk_eq | exact zk_ne (by first | assumption | exact zk_eq | exact zk_ne (by first | assumption | exact zk_eq | exact zk_ne (by first | assumption | exact zk_eq | exact zk_ne (by first | assumption | exact zk_eq | exact zk_ne (by first | assumption | exact zk_eq) (by first | decide | omega)) (by first | decide | omega)) (by first | decide | omega)) (by first | decide | omega)) (by first | decide | omega)) (by first | rfl | assumption) (by first | assumption | omega | decide) (by first | decide | omega) ?_
    refine z_goto C 18 dL_replace_9 (by decide) ?_
    refine z_iconst C (0) dL_replace_18 (by decide) ?_
    refine z_iret C hret dL_replace_19 (by first | exact Nat.le_of_ble_eq_true rfl | omega) (by first | exact Nat.le_of_ble_eq_true rfl | omega) ?_
    exact ⟨Or.inl ⟨v9, hE, rfl, hx1.kp (fun j hj => va_up_ne _ _ (by omega)), _, va_up_self _ _ _, va_up_self _ _ _⟩, fun j j1 j2 j3 => (va_up_ne _ _ j3).trans (hx2 j j1 j2)⟩
abbrev hh_endPeriod : List (Nat × Nat × Nat × Nat) := [(0, 8, 11, 15)]
abbrev cd_endPeriod : List (String × Int32) := [(zIS, 1)]
theorem zh_endPeriod : zMH mL_endPeriod hh_endPeriod 2 := ⟨lwG_in (List.mem_of_getElem? (i := 643) (by decide +kernel)) rfl, zi_RL, lwG_in (List.mem_of_getElem? (i := 642) (by decide +kernel)) rfl, by decide +kernel, by decide +kernel, by decide +kernel⟩
theorem ex_endPeriod {E : String} (h : (hEndPeriod S).1 = .inl E) : E = zIS := by
  unfold hEndPeriod at h
  repeat' (split at h)
  all_goals first | (cases h; done) | (cases h; simp)
theorem k_endPeriod (hl : l.stackTraces = false) (h : HH z a0 nn w S) (h40 : w 40 = some (ao, .inl (z.2.2.1 3, 1, .inr (.inl f0))))  : ZMH l z mL_endPeriod hh_endPeriod 12 120 7000 [.ref a0, .ref ao] w (fun r w1 => zLq z a0 ao (nn) cd_endPeriod lvI (hEndPeriod S) S r w w1) := by
  obtain ⟨qa, tb, tk, qW, qP, qad, qH, -⟩ := id h
  have h0 : w 0 = some (a0, zHc qa S.2.2.1) := by rw [← qad]; exact qH.1
  refine zbodyH (M := mL_endPeriod) (L0 := [_, _, _]) hl (by simp [Value.category]) (Nat.le_of_ble_eq_true rfl) (by decide +kernel) rfl ?_
  intro p e s m args below meth c C hT hnm hret
  replace C : zC z p l s m args meth c cL_endPeriod RL 3 := C
  replace hret : meth.sig.returnType = (some .int) := hret
  refine z_aload_n C dL_endPeriod_0 rfl ?_
  refine z_iconst C (0) dL_endPeriod_1 (by decide) ?_
  refine z_aload_n C dL_endPeriod_2 rfl ?_
  refine z_callV C zm_X2_endPeriod zl_L_55 (o_endPeriod hl h) dL_endPeriod_3 h0 (by rfl) (by rfl) (by rfl) (by exact Nat.le_of_ble_eq_true rfl) rfl (by exact ⟨Nat.le_of_ble_eq_true rfl, Nat.le_of_ble_eq_true rfl⟩) (by first | exact ⟨Nat.le_of_ble_eq_true rfl, Nat.le_of_ble_eq_true rfl⟩ | (simp only [zrm]; omega)) (fun E w1 hx => ?_) (fun r w1 hq => ?_)
  · obtain ⟨hE, hx1, hx2⟩ := hx
    have hE2 := ex_endPeriod hE
    subst hE2
    refine z_caught C hT [] (0, 8, 11, 15) [] rfl (fun y hy => absurd hy List.not_mem_nil) ⟨by decide, by decide⟩ (by decide) zk_L_15 (by decide +kernel) (fun q => ?_)
    refine z_astore_n C (L1 := [_, _, _]) dL_endPeriod_11 (Nat.le_of_ble_eq_true rfl) rfl ?_
    refine z_iconst C (1) dL_endPeriod_12 (by decide) ?_
    refine z_iret C hret dL_endPeriod_13 (by first | exact Nat.le_of_ble_eq_true rfl | omega) (by first | exact Nat.le_of_ble_eq_true rfl | omega) ?_
    exact ⟨Or.inr ⟨zIS, 1, hE, by simp, rfl, hx1.up (by omega), hx2 40 (by decide) (by decide)⟩, fun j j1 j2 _ => hx2 j j1 j2⟩
  · obtain ⟨v9, hE, rfl, hx1, hx2⟩ := hq
    have h41 := (hx2 40 (by decide) (by decide)).trans h40
    refine z_i2l C dL_endPeriod_6 ?_
    refine z_last C dL_endPeriod_7 (by first | assumption | exact zk_eq | exact zk_ne (by first | assumption | exact zk_eq | exact zk_ne (by first | assumption | exact zk_eq | exact zk_ne (by first | assumption | exact zk_eq | exact zk_ne (by first | assumption | exact zk_eq | exact zk_ne (by first | assumption | exact zk_eq) (by first | decide | omega)) (by first | decide | omega)) (by first | decide | omega)) (by first | decide | omega)) (by first | decide | omega)) (by first | rfl | assumption) (by first | assumption | omega | decide) (by first | decide | omega) ?_
    refine z_goto C 14 dL_endPeriod_8 (by decide) ?_
    refine z_iconst C (0) dL_endPeriod_14 (by decide) ?_
    refine z_iret C hret dL_endPeriod_15 (by first | exact Nat.le_of_ble_eq_true rfl | omega) (by first | exact Nat.le_of_ble_eq_true rfl | omega) ?_
    exact ⟨Or.inl ⟨v9, hE, rfl, hx1.kp (fun j hj => va_up_ne _ _ (by omega)), _, va_up_self _ _ _, va_up_self _ _ _⟩, fun j j1 j2 j3 => (va_up_ne _ _ j3).trans (hx2 j j1 j2)⟩
abbrev hh_boardOf : List (Nat × Nat × Nat × Nat) := [(0, 9, 12, 21)]
abbrev cd_boardOf : List (String × Int32) := [(zNS, 1)]
theorem zh_boardOf : zMH mL_boardOf hh_boardOf 3 := ⟨lwG_in (List.mem_of_getElem? (i := 654) (by decide +kernel)) rfl, zi_RL, lwG_in (List.mem_of_getElem? (i := 653) (by decide +kernel)) rfl, by decide +kernel, by decide +kernel, by decide +kernel⟩
theorem ex_boardOf {E : String} (x : Int32) (h : (hGet S x (fun r => r 1)).1 = .inl E) : E = zNS := by
  unfold hGet at h
  repeat' (split at h)
  all_goals first | (cases h; done) | (cases h; simp)
theorem k_boardOf (hl : l.stackTraces = false) (h : HH z a0 nn w S) (h40 : w 40 = some (ao, .inl (z.2.2.1 3, 1, .inr (.inl f0)))) (x : Int32)  : ZMH l z mL_boardOf hh_boardOf 12 120 7000 [.ref a0, .int x, .ref ao] w (fun r w1 => zLq z a0 ao (nn) cd_boardOf lvI (hGet S x (fun r => r 1)) S r w w1) := by
  obtain ⟨qa, tb, tk, qW, qP, qad, qH, -⟩ := id h
  have h0 : w 0 = some (a0, zHc qa S.2.2.1) := by rw [← qad]; exact qH.1
  refine zbodyH (M := mL_boardOf) (L0 := [_, _, _, _]) hl (by simp [Value.category]) (Nat.le_of_ble_eq_true rfl) (by decide +kernel) rfl ?_
  intro p e s m args below meth c C hT hnm hret
  replace C : zC z p l s m args meth c cL_boardOf RL 4 := C
  replace hret : meth.sig.returnType = (some .int) := hret
  refine z_aload_n C dL_boardOf_0 rfl ?_
  refine z_iconst C (0) dL_boardOf_1 (by decide) ?_
  refine z_aload_n C dL_boardOf_2 rfl ?_
  refine z_iload_n C dL_boardOf_3 rfl ?_
  refine z_callV C zm_X2_boardOf zl_L_59 (o_boardOf hl h x) dL_boardOf_4 h0 (by rfl) (by rfl) (by rfl) (by exact Nat.le_of_ble_eq_true rfl) rfl (by exact ⟨Nat.le_of_ble_eq_true rfl, Nat.le_of_ble_eq_true rfl⟩) (by first | exact ⟨Nat.le_of_ble_eq_true rfl, Nat.le_of_ble_eq_true rfl⟩ | (simp only [zrm]; omega)) (fun E w1 hx => ?_) (fun r w1 hq => ?_)
  · obtain ⟨hE, hx1, hx2⟩ := hx
    have hE2 := ex_boardOf x hE
    subst hE2
    refine z_caught C hT [] (0, 9, 12, 21) [] rfl (fun y hy => absurd hy List.not_mem_nil) ⟨by decide, by decide⟩ (by decide) zk_L_21 (by decide +kernel) (fun q => ?_)
    refine z_astore_n C (L1 := [_, _, _, _]) dL_boardOf_12 (Nat.le_of_ble_eq_true rfl) rfl ?_
    refine z_iconst C (1) dL_boardOf_13 (by decide) ?_
    refine z_iret C hret dL_boardOf_14 (by first | exact Nat.le_of_ble_eq_true rfl | omega) (by first | exact Nat.le_of_ble_eq_true rfl | omega) ?_
    exact ⟨Or.inr ⟨zNS, 1, hE, by simp, rfl, hx1.up (by omega), hx2 40 (by decide) (by decide)⟩, fun j j1 j2 _ => hx2 j j1 j2⟩
  · obtain ⟨v9, hE, rfl, hx1, hx2⟩ := hq
    have h41 := (hx2 40 (by decide) (by decide)).trans h40
    refine z_i2l C dL_boardOf_7 ?_
    refine z_last C dL_boardOf_8 (by first | assumption | exact zk_eq | exact zk_ne (by first | assumption | exact zk_eq | exact zk_ne (by first | assumption | exact zk_eq | exact zk_ne (by first | assumption | exact zk_eq | exact zk_ne (by first | assumption | exact zk_eq | exact zk_ne (by first | assumption | exact zk_eq) (by first | decide | omega)) (by first | decide | omega)) (by first | decide | omega)) (by first | decide | omega)) (by first | decide | omega)) (by first | rfl | assumption) (by first | assumption | omega | decide) (by first | decide | omega) ?_
    refine z_goto C 15 dL_boardOf_9 (by decide) ?_
    refine z_iconst C (0) dL_boardOf_15 (by decide) ?_
    refine z_iret C hret dL_boardOf_16 (by first | exact Nat.le_of_ble_eq_true rfl | omega) (by first | exact Nat.le_of_ble_eq_true rfl | omega) ?_
    exact ⟨Or.inl ⟨v9, hE, rfl, hx1.kp (fun j hj => va_up_ne _ _ (by omega)), _, va_up_self _ _ _, va_up_self _ _ _⟩, fun j j1 j2 j3 => (va_up_ne _ _ j3).trans (hx2 j j1 j2)⟩
abbrev hh_rankOf : List (Nat × Nat × Nat × Nat) := [(0, 9, 12, 21)]
abbrev cd_rankOf : List (String × Int32) := [(zNS, 1)]
theorem zh_rankOf : zMH mL_rankOf hh_rankOf 3 := ⟨lwG_in (List.mem_of_getElem? (i := 661) (by decide +kernel)) rfl, zi_RL, lwG_in (List.mem_of_getElem? (i := 660) (by decide +kernel)) rfl, by decide +kernel, by decide +kernel, by decide +kernel⟩
theorem ex_rankOf {E : String} (x : Int32) (h : (hRankOf S x).1 = .inl E) : E = zNS := by
  unfold hRankOf at h
  repeat' (split at h)
  all_goals first | (cases h; done) | (cases h; simp)
theorem k_rankOf (hl : l.stackTraces = false) (h : HH z a0 nn w S) (h40 : w 40 = some (ao, .inl (z.2.2.1 3, 1, .inr (.inl f0)))) (x : Int32)  : ZMH l z mL_rankOf hh_rankOf 12 120 7000 [.ref a0, .int x, .ref ao] w (fun r w1 => zLq z a0 ao (nn) cd_rankOf lvI (hRankOf S x) S r w w1) := by
  obtain ⟨qa, tb, tk, qW, qP, qad, qH, -⟩ := id h
  have h0 : w 0 = some (a0, zHc qa S.2.2.1) := by rw [← qad]; exact qH.1
  refine zbodyH (M := mL_rankOf) (L0 := [_, _, _, _]) hl (by simp [Value.category]) (Nat.le_of_ble_eq_true rfl) (by decide +kernel) rfl ?_
  intro p e s m args below meth c C hT hnm hret
  replace C : zC z p l s m args meth c cL_rankOf RL 4 := C
  replace hret : meth.sig.returnType = (some .int) := hret
  refine z_aload_n C dL_rankOf_0 rfl ?_
  refine z_iconst C (0) dL_rankOf_1 (by decide) ?_
  refine z_aload_n C dL_rankOf_2 rfl ?_
  refine z_iload_n C dL_rankOf_3 rfl ?_
  refine z_callV C zm_X2_rankOf zl_L_62 (o_rankOf hl h x) dL_rankOf_4 h0 (by rfl) (by rfl) (by rfl) (by exact Nat.le_of_ble_eq_true rfl) rfl (by exact ⟨Nat.le_of_ble_eq_true rfl, Nat.le_of_ble_eq_true rfl⟩) (by first | exact ⟨Nat.le_of_ble_eq_true rfl, Nat.le_of_ble_eq_true rfl⟩ | (simp only [zrm]; omega)) (fun E w1 hx => ?_) (fun r w1 hq => ?_)
  · obtain ⟨hE, hx1, hx2⟩ := hx
    have hE2 := ex_rankOf x hE
    subst hE2
    refine z_caught C hT [] (0, 9, 12, 21) [] rfl (fun y hy => absurd hy List.not_mem_nil) ⟨by decide, by decide⟩ (by decide) zk_L_21 (by decide +kernel) (fun q => ?_)
    refine z_astore_n C (L1 := [_, _, _, _]) dL_rankOf_12 (Nat.le_of_ble_eq_true rfl) rfl ?_
    refine z_iconst C (1) dL_rankOf_13 (by decide) ?_
    refine z_iret C hret dL_rankOf_14 (by first | exact Nat.le_of_ble_eq_true rfl | omega) (by first | exact Nat.le_of_ble_eq_true rfl | omega) ?_
    exact ⟨Or.inr ⟨zNS, 1, hE, by simp, rfl, hx1.up (by omega), hx2 40 (by decide) (by decide)⟩, fun j j1 j2 _ => hx2 j j1 j2⟩
  · obtain ⟨v9, hE, rfl, hx1, hx2⟩ := hq
    have h41 := (hx2 40 (by decide) (by decide)).trans h40
    refine z_i2l C dL_rankOf_7 ?_
    refine z_last C dL_rankOf_8 (by first | assumption | exact zk_eq | exact zk_ne (by first | assumption | exact zk_eq | exact zk_ne (by first | assumption | exact zk_eq | exact zk_ne (by first | assumption | exact zk_eq | exact zk_ne (by first | assumption | exact zk_eq | exact zk_ne (by first | assumption | exact zk_eq) (by first | decide | omega)) (by first | decide | omega)) (by first | decide | omega)) (by first | decide | omega)) (by first | decide | omega)) (by first | rfl | assumption) (by first | assumption | omega | decide) (by first | decide | omega) ?_
    refine z_goto C 15 dL_rankOf_9 (by decide) ?_
    refine z_iconst C (0) dL_rankOf_15 (by decide) ?_
    refine z_iret C hret dL_rankOf_16 (by first | exact Nat.le_of_ble_eq_true rfl | omega) (by first | exact Nat.le_of_ble_eq_true rfl | omega) ?_
    exact ⟨Or.inl ⟨v9, hE, rfl, hx1.kp (fun j hj => va_up_ne _ _ (by omega)), _, va_up_self _ _ _, va_up_self _ _ _⟩, fun j j1 j2 j3 => (va_up_ne _ _ j3).trans (hx2 j j1 j2)⟩
abbrev hh_hoursOf : List (Nat × Nat × Nat × Nat) := [(0, 9, 12, 21)]
abbrev cd_hoursOf : List (String × Int32) := [(zNS, 1)]
theorem zh_hoursOf : zMH mL_hoursOf hh_hoursOf 3 := ⟨lwG_in (List.mem_of_getElem? (i := 668) (by decide +kernel)) rfl, zi_RL, lwG_in (List.mem_of_getElem? (i := 667) (by decide +kernel)) rfl, by decide +kernel, by decide +kernel, by decide +kernel⟩
theorem ex_hoursOf {E : String} (x : Int32) (h : (hGet S x (fun r => r 5)).1 = .inl E) : E = zNS := by
  unfold hGet at h
  repeat' (split at h)
  all_goals first | (cases h; done) | (cases h; simp)
theorem k_hoursOf (hl : l.stackTraces = false) (h : HH z a0 nn w S) (h40 : w 40 = some (ao, .inl (z.2.2.1 3, 1, .inr (.inl f0)))) (x : Int32)  : ZMH l z mL_hoursOf hh_hoursOf 12 120 7000 [.ref a0, .int x, .ref ao] w (fun r w1 => zLq z a0 ao (nn) cd_hoursOf lvI (hGet S x (fun r => r 5)) S r w w1) := by
  obtain ⟨qa, tb, tk, qW, qP, qad, qH, -⟩ := id h
  have h0 : w 0 = some (a0, zHc qa S.2.2.1) := by rw [← qad]; exact qH.1
  refine zbodyH (M := mL_hoursOf) (L0 := [_, _, _, _]) hl (by simp [Value.category]) (Nat.le_of_ble_eq_true rfl) (by decide +kernel) rfl ?_
  intro p e s m args below meth c C hT hnm hret
  replace C : zC z p l s m args meth c cL_hoursOf RL 4 := C
  replace hret : meth.sig.returnType = (some .int) := hret
  refine z_aload_n C dL_hoursOf_0 rfl ?_
  refine z_iconst C (0) dL_hoursOf_1 (by decide) ?_
  refine z_aload_n C dL_hoursOf_2 rfl ?_
  refine z_iload_n C dL_hoursOf_3 rfl ?_
  refine z_callV C zm_X2_hoursOf zl_L_65 (o_hoursOf hl h x) dL_hoursOf_4 h0 (by rfl) (by rfl) (by rfl) (by exact Nat.le_of_ble_eq_true rfl) rfl (by exact ⟨Nat.le_of_ble_eq_true rfl, Nat.le_of_ble_eq_true rfl⟩) (by first | exact ⟨Nat.le_of_ble_eq_true rfl, Nat.le_of_ble_eq_true rfl⟩ | (simp only [zrm]; omega)) (fun E w1 hx => ?_) (fun r w1 hq => ?_)
  · obtain ⟨hE, hx1, hx2⟩ := hx
    have hE2 := ex_hoursOf x hE
    subst hE2
    refine z_caught C hT [] (0, 9, 12, 21) [] rfl (fun y hy => absurd hy List.not_mem_nil) ⟨by decide, by decide⟩ (by decide) zk_L_21 (by decide +kernel) (fun q => ?_)
    refine z_astore_n C (L1 := [_, _, _, _]) dL_hoursOf_12 (Nat.le_of_ble_eq_true rfl) rfl ?_
    refine z_iconst C (1) dL_hoursOf_13 (by decide) ?_
    refine z_iret C hret dL_hoursOf_14 (by first | exact Nat.le_of_ble_eq_true rfl | omega) (by first | exact Nat.le_of_ble_eq_true rfl | omega) ?_
    exact ⟨Or.inr ⟨zNS, 1, hE, by simp, rfl, hx1.up (by omega), hx2 40 (by decide) (by decide)⟩, fun j j1 j2 _ => hx2 j j1 j2⟩
  · obtain ⟨v9, hE, rfl, hx1, hx2⟩ := hq
    have h41 := (hx2 40 (by decide) (by decide)).trans h40
    refine z_i2l C dL_hoursOf_7 ?_
    refine z_last C dL_hoursOf_8 (by first | assumption | exact zk_eq | exact zk_ne (by first | assumption | exact zk_eq | exact zk_ne (by first | assumption | exact zk_eq | exact zk_ne (by first | assumption | exact zk_eq | exact zk_ne (by first | assumption | exact zk_eq | exact zk_ne (by first | assumption | exact zk_eq) (by first | decide | omega)) (by first | decide | omega)) (by first | decide | omega)) (by first | decide | omega)) (by first | decide | omega)) (by first | rfl | assumption) (by first | assumption | omega | decide) (by first | decide | omega) ?_
    refine z_goto C 15 dL_hoursOf_9 (by decide) ?_
    refine z_iconst C (0) dL_hoursOf_15 (by decide) ?_
    refine z_iret C hret dL_hoursOf_16 (by first | exact Nat.le_of_ble_eq_true rfl | omega) (by first | exact Nat.le_of_ble_eq_true rfl | omega) ?_
    exact ⟨Or.inl ⟨v9, hE, rfl, hx1.kp (fun j hj => va_up_ne _ _ (by omega)), _, va_up_self _ _ _, va_up_self _ _ _⟩, fun j j1 j2 j3 => (va_up_ne _ _ j3).trans (hx2 j j1 j2)⟩
abbrev hh_refusalsOf : List (Nat × Nat × Nat × Nat) := [(0, 9, 12, 21)]
abbrev cd_refusalsOf : List (String × Int32) := [(zNS, 1)]
theorem zh_refusalsOf : zMH mL_refusalsOf hh_refusalsOf 3 := ⟨lwG_in (List.mem_of_getElem? (i := 675) (by decide +kernel)) rfl, zi_RL, lwG_in (List.mem_of_getElem? (i := 674) (by decide +kernel)) rfl, by decide +kernel, by decide +kernel, by decide +kernel⟩
theorem ex_refusalsOf {E : String} (x : Int32) (h : (hGet S x (fun r => r 6)).1 = .inl E) : E = zNS := by
  unfold hGet at h
  repeat' (split at h)
  all_goals first | (cases h; done) | (cases h; simp)
theorem k_refusalsOf (hl : l.stackTraces = false) (h : HH z a0 nn w S) (h40 : w 40 = some (ao, .inl (z.2.2.1 3, 1, .inr (.inl f0)))) (x : Int32)  : ZMH l z mL_refusalsOf hh_refusalsOf 12 120 7000 [.ref a0, .int x, .ref ao] w (fun r w1 => zLq z a0 ao (nn) cd_refusalsOf lvI (hGet S x (fun r => r 6)) S r w w1) := by
  obtain ⟨qa, tb, tk, qW, qP, qad, qH, -⟩ := id h
  have h0 : w 0 = some (a0, zHc qa S.2.2.1) := by rw [← qad]; exact qH.1
  refine zbodyH (M := mL_refusalsOf) (L0 := [_, _, _, _]) hl (by simp [Value.category]) (Nat.le_of_ble_eq_true rfl) (by decide +kernel) rfl ?_
  intro p e s m args below meth c C hT hnm hret
  replace C : zC z p l s m args meth c cL_refusalsOf RL 4 := C
  replace hret : meth.sig.returnType = (some .int) := hret
  refine z_aload_n C dL_refusalsOf_0 rfl ?_
  refine z_iconst C (0) dL_refusalsOf_1 (by decide) ?_
  refine z_aload_n C dL_refusalsOf_2 rfl ?_
  refine z_iload_n C dL_refusalsOf_3 rfl ?_
  refine z_callV C zm_X2_refusalsOf zl_L_68 (o_refusalsOf hl h x) dL_refusalsOf_4 h0 (by rfl) (by rfl) (by rfl) (by exact Nat.le_of_ble_eq_true rfl) rfl (by exact ⟨Nat.le_of_ble_eq_true rfl, Nat.le_of_ble_eq_true rfl⟩) (by first | exact ⟨Nat.le_of_ble_eq_true rfl, Nat.le_of_ble_eq_true rfl⟩ | (simp only [zrm]; omega)) (fun E w1 hx => ?_) (fun r w1 hq => ?_)
  · obtain ⟨hE, hx1, hx2⟩ := hx
    have hE2 := ex_refusalsOf x hE
    subst hE2
    refine z_caught C hT [] (0, 9, 12, 21) [] rfl (fun y hy => absurd hy List.not_mem_nil) ⟨by decide, by decide⟩ (by decide) zk_L_21 (by decide +kernel) (fun q => ?_)
    refine z_astore_n C (L1 := [_, _, _, _]) dL_refusalsOf_12 (Nat.le_of_ble_eq_true rfl) rfl ?_
    refine z_iconst C (1) dL_refusalsOf_13 (by decide) ?_
    refine z_iret C hret dL_refusalsOf_14 (by first | exact Nat.le_of_ble_eq_true rfl | omega) (by first | exact Nat.le_of_ble_eq_true rfl | omega) ?_
    exact ⟨Or.inr ⟨zNS, 1, hE, by simp, rfl, hx1.up (by omega), hx2 40 (by decide) (by decide)⟩, fun j j1 j2 _ => hx2 j j1 j2⟩
  · obtain ⟨v9, hE, rfl, hx1, hx2⟩ := hq
    have h41 := (hx2 40 (by decide) (by decide)).trans h40
    refine z_i2l C dL_refusalsOf_7 ?_
    refine z_last C dL_refusalsOf_8 (by first | assumption | exact zk_eq | exact zk_ne (by first | assumption | exact zk_eq | exact zk_ne (by first | assumption | exact zk_eq | exact zk_ne (by first | assumption | exact zk_eq | exact zk_ne (by first | assumption | exact zk_eq | exact zk_ne (by first | assumption | exact zk_eq) (by first | decide | omega)) (by first | decide | omega)) (by first | decide | omega)) (by first | decide | omega)) (by first | decide | omega)) (by first | rfl | assumption) (by first | assumption | omega | decide) (by first | decide | omega) ?_
    refine z_goto C 15 dL_refusalsOf_9 (by decide) ?_
    refine z_iconst C (0) dL_refusalsOf_15 (by decide) ?_
    refine z_iret C hret dL_refusalsOf_16 (by first | exact Nat.le_of_ble_eq_true rfl | omega) (by first | exact Nat.le_of_ble_eq_true rfl | omega) ?_
    exact ⟨Or.inl ⟨v9, hE, rfl, hx1.kp (fun j hj => va_up_ne _ _ (by omega)), _, va_up_self _ _ _, va_up_self _ _ _⟩, fun j j1 j2 j3 => (va_up_ne _ _ j3).trans (hx2 j j1 j2)⟩
abbrev hh_placeOf : List (Nat × Nat × Nat × Nat) := [(0, 9, 12, 21)]
abbrev cd_placeOf : List (String × Int32) := [(zNS, 1)]
theorem zh_placeOf : zMH mL_placeOf hh_placeOf 3 := ⟨lwG_in (List.mem_of_getElem? (i := 682) (by decide +kernel)) rfl, zi_RL, lwG_in (List.mem_of_getElem? (i := 681) (by decide +kernel)) rfl, by decide +kernel, by decide +kernel, by decide +kernel⟩
theorem ex_placeOf {E : String} (x : Int32) (h : (hGet S x (fun r => r 7)).1 = .inl E) : E = zNS := by
  unfold hGet at h
  repeat' (split at h)
  all_goals first | (cases h; done) | (cases h; simp)
theorem k_placeOf (hl : l.stackTraces = false) (h : HH z a0 nn w S) (h40 : w 40 = some (ao, .inl (z.2.2.1 3, 1, .inr (.inl f0)))) (x : Int32)  : ZMH l z mL_placeOf hh_placeOf 12 120 7000 [.ref a0, .int x, .ref ao] w (fun r w1 => zLq z a0 ao (nn) cd_placeOf lvI (hGet S x (fun r => r 7)) S r w w1) := by
  obtain ⟨qa, tb, tk, qW, qP, qad, qH, -⟩ := id h
  have h0 : w 0 = some (a0, zHc qa S.2.2.1) := by rw [← qad]; exact qH.1
  refine zbodyH (M := mL_placeOf) (L0 := [_, _, _, _]) hl (by simp [Value.category]) (Nat.le_of_ble_eq_true rfl) (by decide +kernel) rfl ?_
  intro p e s m args below meth c C hT hnm hret
  replace C : zC z p l s m args meth c cL_placeOf RL 4 := C
  replace hret : meth.sig.returnType = (some .int) := hret
  refine z_aload_n C dL_placeOf_0 rfl ?_
  refine z_iconst C (0) dL_placeOf_1 (by decide) ?_
  refine z_aload_n C dL_placeOf_2 rfl ?_
  refine z_iload_n C dL_placeOf_3 rfl ?_
  refine z_callV C zm_X2_placeOf zl_L_71 (o_placeOf hl h x) dL_placeOf_4 h0 (by rfl) (by rfl) (by rfl) (by exact Nat.le_of_ble_eq_true rfl) rfl (by exact ⟨Nat.le_of_ble_eq_true rfl, Nat.le_of_ble_eq_true rfl⟩) (by first | exact ⟨Nat.le_of_ble_eq_true rfl, Nat.le_of_ble_eq_true rfl⟩ | (simp only [zrm]; omega)) (fun E w1 hx => ?_) (fun r w1 hq => ?_)
  · obtain ⟨hE, hx1, hx2⟩ := hx
    have hE2 := ex_placeOf x hE
    subst hE2
    refine z_caught C hT [] (0, 9, 12, 21) [] rfl (fun y hy => absurd hy List.not_mem_nil) ⟨by decide, by decide⟩ (by decide) zk_L_21 (by decide +kernel) (fun q => ?_)
    refine z_astore_n C (L1 := [_, _, _, _]) dL_placeOf_12 (Nat.le_of_ble_eq_true rfl) rfl ?_
    refine z_iconst C (1) dL_placeOf_13 (by decide) ?_
    refine z_iret C hret dL_placeOf_14 (by first | exact Nat.le_of_ble_eq_true rfl | omega) (by first | exact Nat.le_of_ble_eq_true rfl | omega) ?_
    exact ⟨Or.inr ⟨zNS, 1, hE, by simp, rfl, hx1.up (by omega), hx2 40 (by decide) (by decide)⟩, fun j j1 j2 _ => hx2 j j1 j2⟩
  · obtain ⟨v9, hE, rfl, hx1, hx2⟩ := hq
    have h41 := (hx2 40 (by decide) (by decide)).trans h40
    refine z_i2l C dL_placeOf_7 ?_
    refine z_last C dL_placeOf_8 (by first | assumption | exact zk_eq | exact zk_ne (by first | assumption | exact zk_eq | exact zk_ne (by first | assumption | exact zk_eq | exact zk_ne (by first | assumption | exact zk_eq | exact zk_ne (by first | assumption | exact zk_eq | exact zk_ne (by first | assumption | exact zk_eq) (by first | decide | omega)) (by first | decide | omega)) (by first | decide | omega)) (by first | decide | omega)) (by first | decide | omega)) (by first | rfl | assumption) (by first | assumption | omega | decide) (by first | decide | omega) ?_
    refine z_goto C 15 dL_placeOf_9 (by decide) ?_
    refine z_iconst C (0) dL_placeOf_15 (by decide) ?_
    refine z_iret C hret dL_placeOf_16 (by first | exact Nat.le_of_ble_eq_true rfl | omega) (by first | exact Nat.le_of_ble_eq_true rfl | omega) ?_
    exact ⟨Or.inl ⟨v9, hE, rfl, hx1.kp (fun j hj => va_up_ne _ _ (by omega)), _, va_up_self _ _ _, va_up_self _ _ _⟩, fun j j1 j2 j3 => (va_up_ne _ _ j3).trans (hx2 j j1 j2)⟩
abbrev hh_owedTo : List (Nat × Nat × Nat × Nat) := [(0, 9, 12, 21)]
abbrev cd_owedTo : List (String × Int32) := [(zNS, 1)]
theorem zh_owedTo : zMH mL_owedTo hh_owedTo 3 := ⟨lwG_in (List.mem_of_getElem? (i := 689) (by decide +kernel)) rfl, zi_RL, lwG_in (List.mem_of_getElem? (i := 688) (by decide +kernel)) rfl, by decide +kernel, by decide +kernel, by decide +kernel⟩
theorem ex_owedTo {E : String} (x : Int32) (h : (hGet S x (owe S.2.2.2.2.1)).1 = .inl E) : E = zNS := by
  unfold hGet at h
  repeat' (split at h)
  all_goals first | (cases h; done) | (cases h; simp)
theorem k_owedTo (hl : l.stackTraces = false) (h : HH z a0 nn w S) (h40 : w 40 = some (ao, .inl (z.2.2.1 3, 1, .inr (.inl f0)))) (x : Int32)  : ZMH l z mL_owedTo hh_owedTo 12 120 7000 [.ref a0, .int x, .ref ao] w (fun r w1 => zLq z a0 ao (nn) cd_owedTo lvI (hGet S x (owe S.2.2.2.2.1)) S r w w1) := by
  obtain ⟨qa, tb, tk, qW, qP, qad, qH, -⟩ := id h
  have h0 : w 0 = some (a0, zHc qa S.2.2.1) := by rw [← qad]; exact qH.1
  refine zbodyH (M := mL_owedTo) (L0 := [_, _, _, _]) hl (by simp [Value.category]) (Nat.le_of_ble_eq_true rfl) (by decide +kernel) rfl ?_
  intro p e s m args below meth c C hT hnm hret
  replace C : zC z p l s m args meth c cL_owedTo RL 4 := C
  replace hret : meth.sig.returnType = (some .int) := hret
  refine z_aload_n C dL_owedTo_0 rfl ?_
  refine z_iconst C (0) dL_owedTo_1 (by decide) ?_
  refine z_aload_n C dL_owedTo_2 rfl ?_
  refine z_iload_n C dL_owedTo_3 rfl ?_
  refine z_callV C zm_X2_owedTo zl_L_74 (o_owedTo hl h x) dL_owedTo_4 h0 (by rfl) (by rfl) (by rfl) (by exact Nat.le_of_ble_eq_true rfl) rfl (by exact ⟨Nat.le_of_ble_eq_true rfl, Nat.le_of_ble_eq_true rfl⟩) (by first | exact ⟨Nat.le_of_ble_eq_true rfl, Nat.le_of_ble_eq_true rfl⟩ | (simp only [zrm]; omega)) (fun E w1 hx => ?_) (fun r w1 hq => ?_)
  · obtain ⟨hE, hx1, hx2⟩ := hx
    have hE2 := ex_owedTo x hE
    subst hE2
    refine z_caught C hT [] (0, 9, 12, 21) [] rfl (fun y hy => absurd hy List.not_mem_nil) ⟨by decide, by decide⟩ (by decide) zk_L_21 (by decide +kernel) (fun q => ?_)
    refine z_astore_n C (L1 := [_, _, _, _]) dL_owedTo_12 (Nat.le_of_ble_eq_true rfl) rfl ?_
    refine z_iconst C (1) dL_owedTo_13 (by decide) ?_
    refine z_iret C hret dL_owedTo_14 (by first | exact Nat.le_of_ble_eq_true rfl | omega) (by first | exact Nat.le_of_ble_eq_true rfl | omega) ?_
    exact ⟨Or.inr ⟨zNS, 1, hE, by simp, rfl, hx1.up (by omega), hx2 40 (by decide) (by decide)⟩, fun j j1 j2 _ => hx2 j j1 j2⟩
  · obtain ⟨v9, hE, rfl, hx1, hx2⟩ := hq
    have h41 := (hx2 40 (by decide) (by decide)).trans h40
    refine z_i2l C dL_owedTo_7 ?_
    refine z_last C dL_owedTo_8 (by first | assumption | exact zk_eq | exact zk_ne (by first | assumption | exact zk_eq | exact zk_ne (by first | assumption | exact zk_eq | exact zk_ne (by first | assumption | exact zk_eq | exact zk_ne (by first | assumption | exact zk_eq | exact zk_ne (by first | assumption | exact zk_eq) (by first | decide | omega)) (by first | decide | omega)) (by first | decide | omega)) (by first | decide | omega)) (by first | decide | omega)) (by first | rfl | assumption) (by first | assumption | omega | decide) (by first | decide | omega) ?_
    refine z_goto C 15 dL_owedTo_9 (by decide) ?_
    refine z_iconst C (0) dL_owedTo_15 (by decide) ?_
    refine z_iret C hret dL_owedTo_16 (by first | exact Nat.le_of_ble_eq_true rfl | omega) (by first | exact Nat.le_of_ble_eq_true rfl | omega) ?_
    exact ⟨Or.inl ⟨v9, hE, rfl, hx1.kp (fun j hj => va_up_ne _ _ (by omega)), _, va_up_self _ _ _, va_up_self _ _ _⟩, fun j j1 j2 j3 => (va_up_ne _ _ j3).trans (hx2 j j1 j2)⟩
abbrev hh_workerAt : List (Nat × Nat × Nat × Nat) := [(0, 9, 12, 21)]
abbrev cd_workerAt : List (String × Int32) := [(zNS, 1)]
theorem zh_workerAt : zMH mL_workerAt hh_workerAt 3 := ⟨lwG_in (List.mem_of_getElem? (i := 696) (by decide +kernel)) rfl, zi_RL, lwG_in (List.mem_of_getElem? (i := 695) (by decide +kernel)) rfl, by decide +kernel, by decide +kernel, by decide +kernel⟩
theorem ex_workerAt {E : String} (x : Int32) (h : (hWorkerAt S x).1 = .inl E) : E = zNS := by
  unfold hWorkerAt at h
  repeat' (split at h)
  all_goals first | (cases h; done) | (cases h; simp)
theorem k_workerAt (hl : l.stackTraces = false) (h : HH z a0 nn w S) (h40 : w 40 = some (ao, .inl (z.2.2.1 3, 1, .inr (.inl f0)))) (x : Int32)  : ZMH l z mL_workerAt hh_workerAt 12 120 7000 [.ref a0, .int x, .ref ao] w (fun r w1 => zLq z a0 ao (nn) cd_workerAt lvI (hWorkerAt S x) S r w w1) := by
  obtain ⟨qa, tb, tk, qW, qP, qad, qH, -⟩ := id h
  have h0 : w 0 = some (a0, zHc qa S.2.2.1) := by rw [← qad]; exact qH.1
  refine zbodyH (M := mL_workerAt) (L0 := [_, _, _, _]) hl (by simp [Value.category]) (Nat.le_of_ble_eq_true rfl) (by decide +kernel) rfl ?_
  intro p e s m args below meth c C hT hnm hret
  replace C : zC z p l s m args meth c cL_workerAt RL 4 := C
  replace hret : meth.sig.returnType = (some .int) := hret
  refine z_aload_n C dL_workerAt_0 rfl ?_
  refine z_iconst C (0) dL_workerAt_1 (by decide) ?_
  refine z_aload_n C dL_workerAt_2 rfl ?_
  refine z_iload_n C dL_workerAt_3 rfl ?_
  refine z_callV C zm_X2_workerAt zl_L_77 (o_workerAt hl h x) dL_workerAt_4 h0 (by rfl) (by rfl) (by rfl) (by exact Nat.le_of_ble_eq_true rfl) rfl (by exact ⟨Nat.le_of_ble_eq_true rfl, Nat.le_of_ble_eq_true rfl⟩) (by first | exact ⟨Nat.le_of_ble_eq_true rfl, Nat.le_of_ble_eq_true rfl⟩ | (simp only [zrm]; omega)) (fun E w1 hx => ?_) (fun r w1 hq => ?_)
  · obtain ⟨hE, hx1, hx2⟩ := hx
    have hE2 := ex_workerAt x hE
    subst hE2
    refine z_caught C hT [] (0, 9, 12, 21) [] rfl (fun y hy => absurd hy List.not_mem_nil) ⟨by decide, by decide⟩ (by decide) zk_L_21 (by decide +kernel) (fun q => ?_)
    refine z_astore_n C (L1 := [_, _, _, _]) dL_workerAt_12 (Nat.le_of_ble_eq_true rfl) rfl ?_
    refine z_iconst C (1) dL_workerAt_13 (by decide) ?_
    refine z_iret C hret dL_workerAt_14 (by first | exact Nat.le_of_ble_eq_true rfl | omega) (by first | exact Nat.le_of_ble_eq_true rfl | omega) ?_
    exact ⟨Or.inr ⟨zNS, 1, hE, by simp, rfl, hx1.up (by omega), hx2 40 (by decide) (by decide)⟩, fun j j1 j2 _ => hx2 j j1 j2⟩
  · obtain ⟨v9, hE, rfl, hx1, hx2⟩ := hq
    have h41 := (hx2 40 (by decide) (by decide)).trans h40
    refine z_i2l C dL_workerAt_7 ?_
    refine z_last C dL_workerAt_8 (by first | assumption | exact zk_eq | exact zk_ne (by first | assumption | exact zk_eq | exact zk_ne (by first | assumption | exact zk_eq | exact zk_ne (by first | assumption | exact zk_eq | exact zk_ne (by first | assumption | exact zk_eq | exact zk_ne (by first | assumption | exact zk_eq) (by first | decide | omega)) (by first | decide | omega)) (by first | decide | omega)) (by first | decide | omega)) (by first | decide | omega)) (by first | rfl | assumption) (by first | assumption | omega | decide) (by first | decide | omega) ?_
    refine z_goto C 15 dL_workerAt_9 (by decide) ?_
    refine z_iconst C (0) dL_workerAt_15 (by decide) ?_
    refine z_iret C hret dL_workerAt_16 (by first | exact Nat.le_of_ble_eq_true rfl | omega) (by first | exact Nat.le_of_ble_eq_true rfl | omega) ?_
    exact ⟨Or.inl ⟨v9, hE, rfl, hx1.kp (fun j hj => va_up_ne _ _ (by omega)), _, va_up_self _ _ _, va_up_self _ _ _⟩, fun j j1 j2 j3 => (va_up_ne _ _ j3).trans (hx2 j j1 j2)⟩
abbrev hh_nextUp : List (Nat × Nat × Nat × Nat) := [(0, 9, 12, 13)]
abbrev cd_nextUp : List (String × Int32) := [(zIA, 1)]
theorem zh_nextUp : zMH mL_nextUp hh_nextUp 3 := ⟨lwG_in (List.mem_of_getElem? (i := 703) (by decide +kernel)) rfl, zi_RL, lwG_in (List.mem_of_getElem? (i := 702) (by decide +kernel)) rfl, by decide +kernel, by decide +kernel, by decide +kernel⟩
theorem ex_nextUp {E : String} (x : Int32) (h : (hNextUp S x).1 = .inl E) : E = zIA := by
  unfold hNextUp at h
  repeat' (split at h)
  all_goals first | (cases h; done) | (cases h; simp)
theorem k_nextUp (hl : l.stackTraces = false) (h : HH z a0 nn w S) (h40 : w 40 = some (ao, .inl (z.2.2.1 3, 1, .inr (.inl f0)))) (x : Int32)  : ZMH l z mL_nextUp hh_nextUp 12 120 7000 [.ref a0, .int x, .ref ao] w (fun r w1 => zLq z a0 ao (nn) cd_nextUp lvI (hNextUp S x) S r w w1) := by
  obtain ⟨qa, tb, tk, qW, qP, qad, qH, -⟩ := id h
  have h0 : w 0 = some (a0, zHc qa S.2.2.1) := by rw [← qad]; exact qH.1
  refine zbodyH (M := mL_nextUp) (L0 := [_, _, _, _]) hl (by simp [Value.category]) (Nat.le_of_ble_eq_true rfl) (by decide +kernel) rfl ?_
  intro p e s m args below meth c C hT hnm hret
  replace C : zC z p l s m args meth c cL_nextUp RL 4 := C
  replace hret : meth.sig.returnType = (some .int) := hret
  refine z_aload_n C dL_nextUp_0 rfl ?_
  refine z_iconst C (0) dL_nextUp_1 (by decide) ?_
  refine z_aload_n C dL_nextUp_2 rfl ?_
  refine z_iload_n C dL_nextUp_3 rfl ?_
  refine z_callV C zm_X2_nextUp zl_L_80 (o_nextUp hl h x) dL_nextUp_4 h0 (by rfl) (by rfl) (by rfl) (by exact Nat.le_of_ble_eq_true rfl) rfl (by exact ⟨Nat.le_of_ble_eq_true rfl, Nat.le_of_ble_eq_true rfl⟩) (by first | exact ⟨Nat.le_of_ble_eq_true rfl, Nat.le_of_ble_eq_true rfl⟩ | (simp only [zrm]; omega)) (fun E w1 hx => ?_) (fun r w1 hq => ?_)
  · obtain ⟨hE, hx1, hx2⟩ := hx
    have hE2 := ex_nextUp x hE
    subst hE2
    refine z_caught C hT [] (0, 9, 12, 13) [] rfl (fun y hy => absurd hy List.not_mem_nil) ⟨by decide, by decide⟩ (by decide) zk_L_13 (by decide +kernel) (fun q => ?_)
    refine z_astore_n C (L1 := [_, _, _, _]) dL_nextUp_12 (Nat.le_of_ble_eq_true rfl) rfl ?_
    refine z_iconst C (1) dL_nextUp_13 (by decide) ?_
    refine z_iret C hret dL_nextUp_14 (by first | exact Nat.le_of_ble_eq_true rfl | omega) (by first | exact Nat.le_of_ble_eq_true rfl | omega) ?_
    exact ⟨Or.inr ⟨zIA, 1, hE, by simp, rfl, hx1.up (by omega), hx2 40 (by decide) (by decide)⟩, fun j j1 j2 _ => hx2 j j1 j2⟩
  · obtain ⟨v9, hE, rfl, hx1, hx2⟩ := hq
    have h41 := (hx2 40 (by decide) (by decide)).trans h40
    refine z_i2l C dL_nextUp_7 ?_
    refine z_last C dL_nextUp_8 (by first | assumption | exact zk_eq | exact zk_ne (by first | assumption | exact zk_eq | exact zk_ne (by first | assumption | exact zk_eq | exact zk_ne (by first | assumption | exact zk_eq | exact zk_ne (by first | assumption | exact zk_eq | exact zk_ne (by first | assumption | exact zk_eq) (by first | decide | omega)) (by first | decide | omega)) (by first | decide | omega)) (by first | decide | omega)) (by first | decide | omega)) (by first | rfl | assumption) (by first | assumption | omega | decide) (by first | decide | omega) ?_
    refine z_goto C 15 dL_nextUp_9 (by decide) ?_
    refine z_iconst C (0) dL_nextUp_15 (by decide) ?_
    refine z_iret C hret dL_nextUp_16 (by first | exact Nat.le_of_ble_eq_true rfl | omega) (by first | exact Nat.le_of_ble_eq_true rfl | omega) ?_
    exact ⟨Or.inl ⟨v9, hE, rfl, hx1.kp (fun j hj => va_up_ne _ _ (by omega)), _, va_up_self _ _ _, va_up_self _ _ _⟩, fun j j1 j2 j3 => (va_up_ne _ _ j3).trans (hx2 j j1 j2)⟩
end ZHELP
