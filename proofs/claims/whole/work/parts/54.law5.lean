/-! The law's loop and its start -/
theorem st_c0 : Cond.castable "HiringHall$Worker" "java/lang/Object" ∈ lw_tbl := List.mem_of_getElem? (i := 979) (by decide +kernel)
theorem st_c1 : Cond.castable "java/lang/IllegalArgumentException" "java/lang/IllegalArgumentException" ∈ lw_tbl := List.mem_of_getElem? (i := 378) (by decide +kernel)
theorem st_c2 : Cond.castable "java/lang/IllegalStateException" "java/lang/IllegalStateException" ∈ lw_tbl := List.mem_of_getElem? (i := 450) (by decide +kernel)
theorem st_c3 : Cond.castable "java/util/NoSuchElementException" "java/util/NoSuchElementException" ∈ lw_tbl := List.mem_of_getElem? (i := 524) (by decide +kernel)
theorem st_s0 : Cond.stringRef "HiringHall" 217 "boards are 0 to 3" ∈ lw_tbl := List.mem_of_getElem? (i := 417) (by decide +kernel)
theorem st_s1 : Cond.stringRef "HiringHall" 219 "a set of skills is 0 to 31" ∈ lw_tbl := List.mem_of_getElem? (i := 447) (by decide +kernel)
theorem st_s2 : Cond.stringRef "HiringHall" 73 "30 workers are signed on" ∈ lw_tbl := List.mem_of_getElem? (i := 457) (by decide +kernel)
theorem st_s3 : Cond.stringRef "HiringHall" 212 "there is no such worker" ∈ lw_tbl := List.mem_of_getElem? (i := 531) (by decide +kernel)
theorem st_s4 : Cond.stringRef "HiringHall" 221 "the worker is at work" ∈ lw_tbl := List.mem_of_getElem? (i := 541) (by decide +kernel)
theorem st_s5 : Cond.stringRef "HiringHall" 117 "guaranteed hours are 0 to 400" ∈ lw_tbl := List.mem_of_getElem? (i := 577) (by decide +kernel)
theorem st_s6 : Cond.stringRef "HiringHall" 133 "skills are 0 to 4" ∈ lw_tbl := List.mem_of_getElem? (i := 604) (by decide +kernel)
theorem st_s7 : Cond.stringRef "HiringHall" 135 "there are 16 places" ∈ lw_tbl := List.mem_of_getElem? (i := 605) (by decide +kernel)
theorem st_s8 : Cond.stringRef "HiringHall" 149 "a shift has 1 to 12 hours" ∈ lw_tbl := List.mem_of_getElem? (i := 613) (by decide +kernel)
theorem st_s9 : Cond.stringRef "HiringHall" 223 "somebody is or has been at work in this shift" ∈ lw_tbl := List.mem_of_getElem? (i := 618) (by decide +kernel)
theorem st_s10 : Cond.stringRef "HiringHall" 154 "the shift has no such hour" ∈ lw_tbl := List.mem_of_getElem? (i := 626) (by decide +kernel)
theorem st_s11 : Cond.stringRef "HiringHall" 160 "the worker is not at work, or the hour is past" ∈ lw_tbl := List.mem_of_getElem? (i := 627) (by decide +kernel)
theorem st_s12 : Cond.stringRef "HiringHall" 215 "there is no such place" ∈ lw_tbl := List.mem_of_getElem? (i := 639) (by decide +kernel)
theorem st_s13 : Cond.stringRef "HiringHall" 176 "the place is filled" ∈ lw_tbl := List.mem_of_getElem? (i := 640) (by decide +kernel)
theorem st_d0 : Cond.declares ⟨"java/lang/RuntimeException", "<init>", "(Ljava/lang/String;)V"⟩ ∈ lw_tbl := List.mem_of_getElem? (i := 380) (by decide +kernel)
theorem st_d1 : Cond.declares ⟨"java/lang/Exception", "<init>", "(Ljava/lang/String;)V"⟩ ∈ lw_tbl := List.mem_of_getElem? (i := 382) (by decide +kernel)
theorem st_d2 : Cond.declares ⟨"java/lang/Throwable", "<init>", "(Ljava/lang/String;)V"⟩ ∈ lw_tbl := List.mem_of_getElem? (i := 384) (by decide +kernel)
theorem st_dc : Cond.declares ⟨"java/lang/Object", "getClass", "()Ljava/lang/Class;"⟩ ∈ lw_tbl := List.mem_of_getElem? (i := 985) (by decide +kernel)
theorem st_ao : Cond.arrayOver (.object "java/lang/Object") ∈ lw_tbl := List.mem_of_getElem? (i := 252) (by decide +kernel)
theorem st_ns : zNest ∈ lw_tbl := List.mem_of_getElem? (i := 96) (by decide +kernel)
theorem st_l1 : Cond.laysStatic Bundle.tN "UNASSIGNED_STACK" Bundle.steD ∈ lw_tbl := List.mem_of_getElem? (i := 403) (by decide +kernel)
theorem st_l2 : Cond.laysStatic Bundle.tN "SUPPRESSED_SENTINEL" Bundle.listD ∈ lw_tbl := List.mem_of_getElem? (i := 405) (by decide +kernel)
theorem st_l3 : Cond.laysStatic "java/util/ArrayList" "DEFAULTCAPACITY_EMPTY_ELEMENTDATA" "[Ljava/lang/Object;" ∈ lw_tbl := List.mem_of_getElem? (i := 81) (by decide +kernel)
theorem st_i1 : Cond.initialized Bundle.tN ∈ lw_tbl := List.mem_of_getElem? (i := 47) (by decide +kernel)
theorem st_i3 : Cond.initialized "java/util/ArrayList" ∈ lw_tbl := List.mem_of_getElem? (i := 44) (by decide +kernel)
theorem sf_a : Cond.arrayOf (Term.static "java/util/ArrayList" "DEFAULTCAPACITY_EMPTY_ELEMENTDATA" "[Ljava/lang/Object;") (.object "java/lang/Object") ∈ flatC (Jvm.Cond.and given_1 narrow_1) := List.mem_of_getElem? (i := 5) (by decide +kernel)
theorem sf_l : Cond.eq (Term.length (Term.static "java/util/ArrayList" "DEFAULTCAPACITY_EMPTY_ELEMENTDATA" "[Ljava/lang/Object;")) (.int 0) ∈ flatC (Jvm.Cond.and given_1 narrow_1) := List.mem_of_getElem? (i := 7) (by decide +kernel)
theorem sf_u : Cond.isRef (.static Bundle.tN "UNASSIGNED_STACK" Bundle.steD) ∈ flatC (Jvm.Cond.and given_1 narrow_1) := List.mem_of_getElem? (i := 8) (by decide +kernel)
theorem sf_n : Cond.isRef (.static Bundle.tN "SUPPRESSED_SENTINEL" Bundle.listD) ∈ flatC (Jvm.Cond.and given_1 narrow_1) := List.mem_of_getElem? (i := 9) (by decide +kernel)
theorem sf_m : Cond.isRef (.mirror "[Ljava/lang/Object;") ∈ flatC (Jvm.Cond.and given_1 narrow_1) := List.mem_of_getElem? (i := 31) (by decide +kernel)
theorem sf_x0 : Cond.not (.castable "java/lang/IllegalArgumentException" "java/lang/IllegalStateException") ∈ flatC (Jvm.Cond.and given_1 narrow_1) := List.mem_of_getElem? (i := 21) (by decide +kernel)
theorem sf_x1 : Cond.not (.castable "java/lang/IllegalArgumentException" "java/util/NoSuchElementException") ∈ flatC (Jvm.Cond.and given_1 narrow_1) := List.mem_of_getElem? (i := 28) (by decide +kernel)
theorem sf_x2 : Cond.not (.castable "java/lang/IllegalStateException" "java/lang/IllegalArgumentException") ∈ flatC (Jvm.Cond.and given_1 narrow_1) := List.mem_of_getElem? (i := 14) (by decide +kernel)
theorem sf_x3 : Cond.not (.castable "java/lang/IllegalStateException" "java/util/NoSuchElementException") ∈ flatC (Jvm.Cond.and given_1 narrow_1) := List.mem_of_getElem? (i := 29) (by decide +kernel)
theorem sf_x4 : Cond.not (.castable "java/util/NoSuchElementException" "java/lang/IllegalArgumentException") ∈ flatC (Jvm.Cond.and given_1 narrow_1) := List.mem_of_getElem? (i := 16) (by decide +kernel)
theorem sf_x5 : Cond.not (.castable "java/util/NoSuchElementException" "java/lang/IllegalStateException") ∈ flatC (Jvm.Cond.and given_1 narrow_1) := List.mem_of_getElem? (i := 23) (by decide +kernel)
theorem sf_s0 : Cond.exactly (Term.string "HiringHall" 217) "java/lang/String" ∈ flatC (Jvm.Cond.and given_1 narrow_1) := List.mem_of_getElem? (i := 32) (by decide +kernel)
theorem sf_s1 : Cond.exactly (Term.string "HiringHall" 219) "java/lang/String" ∈ flatC (Jvm.Cond.and given_1 narrow_1) := List.mem_of_getElem? (i := 53) (by decide +kernel)
theorem sf_s2 : Cond.exactly (Term.string "HiringHall" 73) "java/lang/String" ∈ flatC (Jvm.Cond.and given_1 narrow_1) := List.mem_of_getElem? (i := 84) (by decide +kernel)
theorem sf_s3 : Cond.exactly (Term.string "HiringHall" 212) "java/lang/String" ∈ flatC (Jvm.Cond.and given_1 narrow_1) := List.mem_of_getElem? (i := 114) (by decide +kernel)
theorem sf_s4 : Cond.exactly (Term.string "HiringHall" 221) "java/lang/String" ∈ flatC (Jvm.Cond.and given_1 narrow_1) := List.mem_of_getElem? (i := 144) (by decide +kernel)
theorem sf_s5 : Cond.exactly (Term.string "HiringHall" 117) "java/lang/String" ∈ flatC (Jvm.Cond.and given_1 narrow_1) := List.mem_of_getElem? (i := 173) (by decide +kernel)
theorem sf_s6 : Cond.exactly (Term.string "HiringHall" 133) "java/lang/String" ∈ flatC (Jvm.Cond.and given_1 narrow_1) := List.mem_of_getElem? (i := 211) (by decide +kernel)
theorem sf_s7 : Cond.exactly (Term.string "HiringHall" 135) "java/lang/String" ∈ flatC (Jvm.Cond.and given_1 narrow_1) := List.mem_of_getElem? (i := 238) (by decide +kernel)
theorem sf_s8 : Cond.exactly (Term.string "HiringHall" 149) "java/lang/String" ∈ flatC (Jvm.Cond.and given_1 narrow_1) := List.mem_of_getElem? (i := 268) (by decide +kernel)
theorem sf_s9 : Cond.exactly (Term.string "HiringHall" 223) "java/lang/String" ∈ flatC (Jvm.Cond.and given_1 narrow_1) := List.mem_of_getElem? (i := 305) (by decide +kernel)
theorem sf_s10 : Cond.exactly (Term.string "HiringHall" 154) "java/lang/String" ∈ flatC (Jvm.Cond.and given_1 narrow_1) := List.mem_of_getElem? (i := 363) (by decide +kernel)
theorem sf_s11 : Cond.exactly (Term.string "HiringHall" 160) "java/lang/String" ∈ flatC (Jvm.Cond.and given_1 narrow_1) := List.mem_of_getElem? (i := 403) (by decide +kernel)
theorem sf_s12 : Cond.exactly (Term.string "HiringHall" 215) "java/lang/String" ∈ flatC (Jvm.Cond.and given_1 narrow_1) := List.mem_of_getElem? (i := 464) (by decide +kernel)
theorem sf_s13 : Cond.exactly (Term.string "HiringHall" 176) "java/lang/String" ∈ flatC (Jvm.Cond.and given_1 narrow_1) := List.mem_of_getElem? (i := 502) (by decide +kernel)
theorem ty_int {s : State} {args : Array Value} (h : (Cond.arrayClass .int).before args s = true) : ∃ cA : ClassId, ArrOfT s cA .int ∧ va_RA s cA .int := by
  obtain ⟨c, k, comp, h1, h2, h3⟩ := Cond.arrayClass_spec h
  exact ⟨c, fun N z => ⟨(fun k h => by cases h), k, h2, comp, h3⟩, h1⟩
theorem ty_bool {s : State} {args : Array Value} (h : (Cond.arrayClass .boolean).before args s = true) : ∃ cA : ClassId, ArrOfT s cA .boolean ∧ va_RA s cA .boolean := by
  obtain ⟨c, k, comp, h1, h2, h3⟩ := Cond.arrayClass_spec h
  exact ⟨c, fun N z => ⟨(fun k h => by cases h), k, h2, comp, h3⟩, h1⟩
theorem ty_long {s : State} {args : Array Value} (h : (Cond.arrayClass .long).before args s = true) : ∃ cA : ClassId, ArrOfT s cA .long ∧ va_RA s cA .long := by
  obtain ⟨c, k, comp, h1, h2, h3⟩ := Cond.arrayClass_spec h
  exact ⟨c, fun N z => ⟨(fun k h => by cases h), k, h2, comp, h3⟩, h1⟩
theorem ty_obj {s : State} {args : Array Value} (h : (Cond.arrayOver (.object "java/lang/Object")).before args s = true) : ∃ cA : ClassId, ArrOfT s cA (.object "java/lang/Object") ∧ va_RA s cA (.object "java/lang/Object") := by
  obtain ⟨comp, c, k, h1, h2, h3, h4, h5⟩ := Cond.arrayOver_spec h
  exact ⟨c, fun N z => ⟨(fun k h => by cases h), k, h3, comp, h4⟩, k, comp, h3, h4, h1, h5⟩
/-- what the law's start gives every method -/
theorem ZX.start {s : State} {b : Nat} (hts : ∀ w ∈ lw_tbl, w.before #[Value.ref b] s = true) (hgv : (Jvm.Cond.and given_1 narrow_1).before #[Value.ref b] s = true) : ∃ z : zT, z.1 = s.heap.size ∧ ZX z s s.heap := by
  have hfl := flat_of_before _ hgv
  have htG : ∀ w ∈ lwG, w.before #[Value.ref b] s = true := fun w h => hts w (lwG_tbl h)
  have hA : ∀ a : Nat, a < s.heap.size → ¬ s.heap.size ≤ a := fun a h => Nat.not_le.mpr h
  obtain ⟨c0, i0, k0⟩ := u_known (C := RJx4a65c) (T := TJx4a65c) (N := 3) (n := 3) htG zu_Jx4a65c (htG _ zin_Jx4a65c)
  obtain ⟨c1, i1, k1⟩ := u_known (C := RX0) (T := TX0) (N := 2) (n := 2) htG zu_X0 (htG _ zin_X0)
  obtain ⟨c2, i2, k2⟩ := u_known (C := RX1) (T := TX1) (N := 10) (n := 10) htG zu_X1 (htG _ zin_X1)
  obtain ⟨c3, i3, k3⟩ := u_known (C := RX2) (T := TX2) (N := 13) (n := 13) htG zu_X2 (htG _ zin_X2)
  obtain ⟨c4, i4, k4⟩ := u_known (C := RX3) (T := TX3) (N := 26) (n := 26) htG zu_X3 (htG _ zin_X3)
  obtain ⟨tI, tI1, tI2⟩ := ty_int (htG _ za_I)
  obtain ⟨tZ, tZ1, tZ2⟩ := ty_bool (htG _ za_Z)
  obtain ⟨tJ, tJ1, tJ2⟩ := ty_long (htG _ za_J)
  obtain ⟨tO, tO1, tO2⟩ := ty_obj (hts _ st_ao)
  obtain ⟨em, hem, hT⟩ := va_Tof (N := 0) (f := fun _ => .null) (A := fun q => s.heap.size ≤ q) (by decide) (hfl _ sf_a) (va_eqt (hfl _ sf_l)) (fun j hj => absurd hj (Nat.not_lt_zero _)) hA
  obtain ⟨mi, hmi⟩ := va_Mi.of (hfl _ sf_m)
  refine ⟨(s.heap.size, (fun k => if k = 0 then c0 else if k = 1 then c1 else if k = 2 then c2 else if k = 3 then c3 else c4, fun k => if k = 0 then i0 else if k = 1 then i1 else if k = 2 then i2 else if k = 3 then i3 else i4), fun k => if k = 0 then tI else if k = 1 then tZ else if k = 2 then tO else tJ, em, mi), rfl, ⟨?_, ?_⟩, ?_, ?_, ?_, ⟨fun _ => .null, hT⟩, hmi, ?_, ?_, ?_, va_AO.of (hts _ st_ao), va_Dc.of (hts _ st_dc), va_Nw.of rfl (hts _ st_ns), ?_⟩
  · intro k q hq
    match k, hq with
    | 0, hq => cases hq; exact k0
    | 1, hq => cases hq; exact k1
    | 2, hq => cases hq; exact k2
    | 3, hq => cases hq; exact k3
    | 4, hq => cases hq; exact k4
    | k + 5, hq => simp [vwCl] at hq
  · intro k q hq
    match k, hq with
    | 0, hq => cases hq; exact ⟨tI1, tI2⟩
    | 1, hq => cases hq; exact ⟨tZ1, tZ2⟩
    | 2, hq => cases hq; exact ⟨tO1, tO2⟩
    | 3, hq => cases hq; exact ⟨tJ1, tJ2⟩
    | k + 4, hq => simp [zTy] at hq
  · exact vx_Zqof (hts _ st_l1) (hts _ st_i1) (hfl _ sf_u) hA
  · exact vx_Zqof (hts _ st_l2) (hts _ st_i1) (hfl _ sf_n) hA
  · exact va_Zof (hts _ st_l3) (hts _ st_i3) hem hA
  · exact (List.forall_mem_cons.mpr ⟨va_Nw.of rfl (hts _ st_c0), (List.forall_mem_cons.mpr ⟨va_Nw.of rfl (hts _ st_c1), (List.forall_mem_cons.mpr ⟨va_Nw.of rfl (hts _ st_c2), (List.forall_mem_cons.mpr ⟨va_Nw.of rfl (hts _ st_c3), (fun q h => absurd h List.not_mem_nil)⟩)⟩)⟩)⟩)
  · exact (List.forall_mem_cons.mpr ⟨va_Nc.of (hfl _ sf_x0), (List.forall_mem_cons.mpr ⟨va_Nc.of (hfl _ sf_x1), (List.forall_mem_cons.mpr ⟨va_Nc.of (hfl _ sf_x2), (List.forall_mem_cons.mpr ⟨va_Nc.of (hfl _ sf_x3), (List.forall_mem_cons.mpr ⟨va_Nc.of (hfl _ sf_x4), (List.forall_mem_cons.mpr ⟨va_Nc.of (hfl _ sf_x5), (fun q h => absurd h List.not_mem_nil)⟩)⟩)⟩)⟩)⟩)⟩)
  · have hs : ∀ (k : Nat) (t : String), (Cond.stringRef "HiringHall" k t).before #[Value.ref b] s = true → (Cond.exactly (Term.string "HiringHall" k) "java/lang/String").before #[Value.ref b] s = true → ∃ sa : Nat, vk_R "HiringHall" k t sa s := fun k t h1 h2 => by
      obtain ⟨a, c, cell, kc, h3, -⟩ := Cond.exactly_spec h2
      exact ⟨a, vk_R.of h1 h3⟩
    exact (List.forall_mem_cons.mpr ⟨hs _ _ (hts _ st_s0) (hfl _ sf_s0), (List.forall_mem_cons.mpr ⟨hs _ _ (hts _ st_s1) (hfl _ sf_s1), (List.forall_mem_cons.mpr ⟨hs _ _ (hts _ st_s2) (hfl _ sf_s2), (List.forall_mem_cons.mpr ⟨hs _ _ (hts _ st_s3) (hfl _ sf_s3), (List.forall_mem_cons.mpr ⟨hs _ _ (hts _ st_s4) (hfl _ sf_s4), (List.forall_mem_cons.mpr ⟨hs _ _ (hts _ st_s5) (hfl _ sf_s5), (List.forall_mem_cons.mpr ⟨hs _ _ (hts _ st_s6) (hfl _ sf_s6), (List.forall_mem_cons.mpr ⟨hs _ _ (hts _ st_s7) (hfl _ sf_s7), (List.forall_mem_cons.mpr ⟨hs _ _ (hts _ st_s8) (hfl _ sf_s8), (List.forall_mem_cons.mpr ⟨hs _ _ (hts _ st_s9) (hfl _ sf_s9), (List.forall_mem_cons.mpr ⟨hs _ _ (hts _ st_s10) (hfl _ sf_s10), (List.forall_mem_cons.mpr ⟨hs _ _ (hts _ st_s11) (hfl _ sf_s11), (List.forall_mem_cons.mpr ⟨hs _ _ (hts _ st_s12) (hfl _ sf_s12), (List.forall_mem_cons.mpr ⟨hs _ _ (hts _ st_s13) (hfl _ sf_s13), (fun q h => absurd h List.not_mem_nil)⟩)⟩)⟩)⟩)⟩)⟩)⟩)⟩)⟩)⟩)⟩)⟩)⟩)⟩)
  · exact (List.forall_mem_cons.mpr ⟨va_Nw.of rfl (hts _ st_d0), (List.forall_mem_cons.mpr ⟨va_Nw.of rfl (hts _ st_d1), (List.forall_mem_cons.mpr ⟨va_Nw.of rfl (hts _ st_d2), (fun q h => absurd h List.not_mem_nil)⟩)⟩)⟩)
theorem and31 (x : Int32) : ∃ k : Nat, k < 32 ∧ x &&& 31 = nI k := by
  refine ⟨(x &&& 31).toBitVec.toNat, ?_, ?_⟩
  · rw [Int32.toBitVec_and, BitVec.toNat_and]
    exact Nat.lt_of_le_of_lt Nat.and_le_right (by decide)
  · rw [← Int32.toBitVec_inj]
    unfold nI
    simp
theorem SR.zero : SR hS0 (mG0, mF0) 0 := by
  refine ⟨[], 0, 0, 0, Nat.le_refl _, Nat.le_refl _, ⟨rfl, List.nodup_nil, fun k => ⟨fun h => absurd h List.not_mem_nil, fun h => ?_⟩, List.Pairwise.nil⟩, fun k hk => absurd hk List.not_mem_nil, ⟨fun p hp => absurd hp (Nat.not_lt_zero _), fun k hk => absurd hk List.not_mem_nil⟩, ⟨rfl, rfl, rfl, rfl, by decide, rfl, rfl, rfl, rfl, rfl⟩, ⟨fun b _ => ⟨rfl, rfl⟩, fun p hp => absurd hp (Nat.not_lt_zero _)⟩⟩
  exfalso
  have h2 : mOcc mG0 k = true := h.2
  have h3 : mG0 0 k = -1 := by
    unfold mG0
    rw [if_pos rfl, if_pos h.1]
  unfold mOcc at h2
  simp only [h3] at h2
  exact absurd h2 (by decide)
section ZLOOP
variable {p : Program} {l : Launch} {e : Env} {s : State} {m : MethodId} {below : List Frame} {meth : Method} {c : Code}
variable {z : zT} {a0 b0 ao b L9 : Nat} {xs : Nat → Int32}
theorem law_step (hl : l.stackTraces = false) (C : zC z p l s m #[.ref b] meth c cL_law RL 7) (hX : va_X b L9 xs s s.heap) (hbl : b < s.heap.size) (hbA : ¬ zA z b) (hL9 : L9 ≤ 2048) (hz : z.1 = s.heap.size) (hr : meth.sig.returnType = ret) {n : Nat} {w : zW} (hn13 : n ≤ 513) (hi : zLI z a0 b0 ao n w)
    (next : 4 * n + 4 ≤ L9 → ∀ (w1 : zW) (x5 x6 : Option Value), zLI z a0 b0 ao (n + 1) w1 → ZJ z p l e room_1 s m #[.ref b] below meth c (lw_Z below #[.ref b] s) (40 + 120 * n + 120) (800 + 7000 * n + 7000) 1543 [some (.ref b), some (.ref a0), some (.ref b0), some (.ref ao), some (.int (nI (4 * n))), x5, x6] [] w1) :
    ZJ z p l e room_1 s m #[.ref b] below meth c (lw_Z below #[.ref b] s) (40 + 120 * n) (800 + 7000 * n) 23 [some (.ref b), some (.ref a0), some (.ref b0), some (.ref ao), some (.int (nI (4 * n))), none, none] [] w := by
  refine z_iload C dL_law_23 rfl ?_
  refine z_aload_n C dL_law_25 rfl ?_
  refine z_slen C hX hbl hbA dL_law_26 ?_
  refine z_iconst C (4) dL_law_27 (by decide) ?_
  refine z_isub C dL_law_28 ?_
  refine z_icmp_gt C 1549 dL_law_29 (by decide) (fun c1 => ?_) (fun c1 => ?_)
  · refine z_iconst C (1) dL_law_1549 (by decide) ?_
    exact z_lret C hz hr dL_law_1550 (by omega) (by omega)
  have hn : 4 * n + 4 ≤ L9 := by
    rcases Nat.lt_or_ge L9 4 with q | q
    · exfalso
      have h3 : nI L9 - 4 < 0 := by
        rcases (show L9 = 0 ∨ L9 = 1 ∨ L9 = 2 ∨ L9 = 3 by omega) with rfl | rfl | rfl | rfl <;> decide
      exact c1 (Int32.lt_of_lt_of_le h3 (nI_pos' (by omega)))
    · obtain ⟨k, rfl⟩ : ∃ k : Nat, L9 = k + 4 := ⟨L9 - 4, by omega⟩
      rw [show nI (k + 4) = nI k + 4 from (nI_add k 4).symm, Int32.add_sub_cancel] at c1
      have h3 : ¬ k < 4 * n := fun q => c1 ((nI_ltI (by omega) (by omega)).mpr q)
      omega
  have nx := next hn
  refine z_aload_n C dL_law_32 rfl ?_
  refine z_iload C dL_law_33 rfl ?_
  refine z_sld C hX hbl hbA hL9 dL_law_35 (j := 4 * n) rfl (by omega) ?_
  refine z_bipush C (31) dL_law_36 (by decide) ?_
  refine z_iand C dL_law_38 ?_
  obtain ⟨k, hk, hv⟩ := and31 (xs (4 * n))
  rw [hv]
  rcases Nat.lt_or_ge k 26 with hk2 | hk2
  · rcases (show k = 0 ∨ k = 1 ∨ k = 2 ∨ k = 3 ∨ k = 4 ∨ k = 5 ∨ k = 6 ∨ k = 7 ∨ k = 8 ∨ k = 9 ∨ k = 10 ∨ k = 11 ∨ k = 12 ∨ k = 13 ∨ k = 14 ∨ k = 15 ∨ k = 16 ∨ k = 17 ∨ k = 18 ∨ k = 19 ∨ k = 20 ∨ k = 21 ∨ k = 22 ∨ k = 23 ∨ k = 24 ∨ k = 25 by omega) with rfl | rfl | rfl | rfl | rfl | rfl | rfl | rfl | rfl | rfl | rfl | rfl | rfl | rfl | rfl | rfl | rfl | rfl | rfl | rfl | rfl | rfl | rfl | rfl | rfl | rfl
    · refine z_tsIn C (off := 117) 156 dL_law_39 (by decide +kernel) (by decide +kernel) (by decide +kernel) (by decide) ?_
      exact lc_signOn hl C hX hbl hbA hL9 hi hn (by omega) (by omega) nx
    · refine z_tsIn C (off := 185) 224 dL_law_39 (by decide +kernel) (by decide +kernel) (by decide +kernel) (by decide) ?_
      exact lc_signOff hl C hX hbl hbA hL9 hi hn (by omega) (by omega) nx
    · refine z_tsIn C (off := 241) 280 dL_law_39 (by decide +kernel) (by decide +kernel) (by decide +kernel) (by decide) ?_
      exact lc_setSkills hl C hX hbl hbA hL9 hi hn (by omega) (by omega) nx
    · refine z_tsIn C (off := 309) 348 dL_law_39 (by decide +kernel) (by decide +kernel) (by decide +kernel) (by decide) ?_
      exact lc_move hl C hX hbl hbA hL9 hi hn (by omega) (by omega) nx
    · refine z_tsIn C (off := 377) 416 dL_law_39 (by decide +kernel) (by decide +kernel) (by decide +kernel) (by decide) ?_
      exact lc_setAway hl C hX hbl hbA hL9 hi hn (by omega) (by omega) nx
    · refine z_tsIn C (off := 468) 507 dL_law_39 (by decide +kernel) (by decide +kernel) (by decide +kernel) (by decide) ?_
      exact lc_setRefusing hl C hX hbl hbA hL9 hi hn (by omega) (by omega) nx
    · refine z_tsIn C (off := 559) 598 dL_law_39 (by decide +kernel) (by decide +kernel) (by decide +kernel) (by decide) ?_
      exact lc_setRule hl C hX hbl hbA hL9 hi hn (by omega) (by omega) nx
    · refine z_tsIn C (off := 655) 694 dL_law_39 (by decide +kernel) (by decide +kernel) (by decide +kernel) (by decide) ?_
      exact lc_equalise hl C hX hbl hbA hL9 hi hn (by omega) (by omega) nx
    · refine z_tsIn C (off := 711) 750 dL_law_39 (by decide +kernel) (by decide +kernel) (by decide +kernel) (by decide) ?_
      exact lc_order hl C hX hbl hbA hL9 hi hn (by omega) (by omega) nx
    · refine z_tsIn C (off := 767) 806 dL_law_39 (by decide +kernel) (by decide +kernel) (by decide +kernel) (by decide) ?_
      exact lc_dispatch hl C hX hbl hbA hL9 hi hn (by omega) (by omega) nx
    · refine z_tsIn C (off := 780) 819 dL_law_39 (by decide +kernel) (by decide +kernel) (by decide +kernel) (by decide) ?_
      exact lc_setHours hl C hX hbl hbA hL9 hi hn (by omega) (by omega) nx
    · refine z_tsIn C (off := 836) 875 dL_law_39 (by decide +kernel) (by decide +kernel) (by decide +kernel) (by decide) ?_
      exact lc_leave hl C hX hbl hbA hL9 hi hn (by omega) (by omega) nx
    · refine z_tsIn C (off := 904) 943 dL_law_39 (by decide +kernel) (by decide +kernel) (by decide +kernel) (by decide) ?_
      exact lc_replace hl C hX hbl hbA hL9 hi hn (by omega) (by omega) nx
    · refine z_tsIn C (off := 960) 999 dL_law_39 (by decide +kernel) (by decide +kernel) (by decide +kernel) (by decide) ?_
      exact lc_endShift hl C hX hbl hbA hL9 hi hn (by omega) (by omega) nx
    · refine z_tsIn C (off := 973) 1012 dL_law_39 (by decide +kernel) (by decide +kernel) (by decide +kernel) (by decide) ?_
      exact lc_endPeriod hl C hX hbl hbA hL9 hi hn (by omega) (by omega) nx
    · refine z_tsIn C (off := 1017) 1056 dL_law_39 (by decide +kernel) (by decide +kernel) (by decide +kernel) (by decide) ?_
      exact lc_workers hl C hX hbl hbA hL9 hi hn (by omega) (by omega) nx
    · refine z_tsIn C (off := 1030) 1069 dL_law_39 (by decide +kernel) (by decide +kernel) (by decide +kernel) (by decide) ?_
      exact lc_boardOf hl C hX hbl hbA hL9 hi hn (by omega) (by omega) nx
    · refine z_tsIn C (off := 1086) 1125 dL_law_39 (by decide +kernel) (by decide +kernel) (by decide +kernel) (by decide) ?_
      exact lc_rankOf hl C hX hbl hbA hL9 hi hn (by omega) (by omega) nx
    · refine z_tsIn C (off := 1142) 1181 dL_law_39 (by decide +kernel) (by decide +kernel) (by decide +kernel) (by decide) ?_
      exact lc_hoursOf hl C hX hbl hbA hL9 hi hn (by omega) (by omega) nx
    · refine z_tsIn C (off := 1198) 1237 dL_law_39 (by decide +kernel) (by decide +kernel) (by decide +kernel) (by decide) ?_
      exact lc_refusalsOf hl C hX hbl hbA hL9 hi hn (by omega) (by omega) nx
    · refine z_tsIn C (off := 1254) 1293 dL_law_39 (by decide +kernel) (by decide +kernel) (by decide +kernel) (by decide) ?_
      exact lc_placeOf hl C hX hbl hbA hL9 hi hn (by omega) (by omega) nx
    · refine z_tsIn C (off := 1310) 1349 dL_law_39 (by decide +kernel) (by decide +kernel) (by decide +kernel) (by decide) ?_
      exact lc_owedTo hl C hX hbl hbA hL9 hi hn (by omega) (by omega) nx
    · refine z_tsIn C (off := 1366) 1405 dL_law_39 (by decide +kernel) (by decide +kernel) (by decide +kernel) (by decide) ?_
      exact lc_places hl C hX hbl hbA hL9 hi hn (by omega) (by omega) nx
    · refine z_tsIn C (off := 1379) 1418 dL_law_39 (by decide +kernel) (by decide +kernel) (by decide +kernel) (by decide) ?_
      exact lc_workerAt hl C hX hbl hbA hL9 hi hn (by omega) (by omega) nx
    · refine z_tsIn C (off := 1435) 1474 dL_law_39 (by decide +kernel) (by decide +kernel) (by decide +kernel) (by decide) ?_
      exact lc_nextUp hl C hX hbl hbA hL9 hi hn (by omega) (by omega) nx
    · refine z_tsIn C (off := 1491) 1530 dL_law_39 (by decide +kernel) (by decide +kernel) (by decide +kernel) (by decide) ?_
      exact lc_fillable hl C hX hbl hbA hL9 hi hn (by omega) (by omega) nx
  · refine z_tsOut C 1543 dL_law_39 (Or.inr ?_) (by decide) ?_
    · rcases (show k = 26 ∨ k = 27 ∨ k = 28 ∨ k = 29 ∨ k = 30 ∨ k = 31 by omega) with rfl | rfl | rfl | rfl | rfl | rfl <;> decide +kernel
    · obtain ⟨S, M, f, h1, h2, h3, h4⟩ := hi
      exact z_widen (by omega) (by omega) (nx w none none ⟨S, M, f, h1.up (by omega), h2.up (by omega), h3, h4⟩)
theorem law_loop (hl : l.stackTraces = false) (C : zC z p l s m #[.ref b] meth c cL_law RL 7) (hX : va_X b L9 xs s s.heap) (hbl : b < s.heap.size) (hbA : ¬ zA z b) (hL9 : L9 ≤ 2048) (hz : z.1 = s.heap.size) (hr : meth.sig.returnType = ret) : ∀ (d n : Nat) (w : zW), n + d = 513 → zLI z a0 b0 ao n w → ZJ z p l e room_1 s m #[.ref b] below meth c (lw_Z below #[.ref b] s) (40 + 120 * n) (800 + 7000 * n) 23 [some (.ref b), some (.ref a0), some (.ref b0), some (.ref ao), some (.int (nI (4 * n))), none, none] [] w
  | 0, n, w, hd, hi => law_step hl C hX hbl hbA hL9 hz hr (by omega) hi (fun hn => by omega)
  | d + 1, n, w, hd, hi => by
    refine law_step hl C hX hbl hbA hL9 hz hr (by omega) hi (fun hn w1 x5 x6 hi2 => ?_)
    have ih := law_loop hl C hX hbl hbA hL9 hz hr d (n + 1) w1 (by omega) hi2
    refine z_iinc C (L1 := [_, _, _, _, _, _, _]) (nI (4 * (n + 1))) dL_law_1543 rfl (nI_add (4 * n) 4) rfl ?_
    refine z_goto C 23 dL_law_1546 (by decide) ?_
    exact z_fgt (z_widen (by omega) (by omega) ih) (by simp [zle])
theorem law_start {w : zW} (hl : l.stackTraces = false) (C : zC z p l s m #[.ref b] meth c cL_law RL 7) (hX : va_X b L9 xs s s.heap) (hbl : b < s.heap.size) (hbA : ¬ zA z b) (hL9 : L9 ≤ 2048) (hz : z.1 = s.heap.size) (hr : meth.sig.returnType = ret) (hw : ∀ j : Nat, (w : zW) j = none) : ZJ z p l e room_1 s m #[.ref b] below meth c (lw_Z below #[.ref b] s) 0 0 0 [some (.ref b), none, none, none, none, none, none] [] w := by
  refine z_newo C zw2_L_8 0 (fs := [.null, .null, .null, .null, .null, .null, .null, .int 0, .int 0, .int 0, .int 0, .int 0, .int 0]) (by decide +kernel) dL_law_0 (by exact Nat.le_of_ble_eq_true rfl) (by exact Nat.le_of_ble_eq_true rfl) (fun q0 hq0 => ?_)
  refine z_dup C dL_law_3 rfl ?_
  refine z_callI C zm_X2_init zl_L_83 (c_Hinit hl zk_eq) dL_law_4 (by rfl) (by rfl) (by exact Nat.le_of_ble_eq_true rfl) rfl (by exact ⟨Nat.le_of_ble_eq_true rfl, Nat.le_of_ble_eq_true rfl⟩) (by first | exact ⟨Nat.le_of_ble_eq_true rfl, Nat.le_of_ble_eq_true rfl⟩ | (simp only [zrm]; omega)) (fun _ _ h => z_xno h) (fun r w1 hq => ?_)
  obtain ⟨rfl, h1, f1⟩ := hq
  refine z_astore_n C (L1 := [_, _, _, _, _, _, _]) dL_law_7 (Nat.le_of_ble_eq_true rfl) rfl ?_
  refine z_newo C zw2_L_84 20 (fs := [.null, .null, .null, .null, .null, .null, .null, .null, .null, .null, .null, .int 0, .int 0, .null, .null, .null, .null, .int 0, .int 0, .int 0, .int 0, .int 0, .null, .null, .null, .int 0]) (by decide +kernel) dL_law_8 (by exact Nat.le_of_ble_eq_true rfl) (by exact Nat.le_of_ble_eq_true rfl) (fun q20 hq20 => ?_)
  refine z_dup C dL_law_11 rfl ?_
  refine z_callI C zm_X3_init zl_L_86 (q_init hl zk_eq) dL_law_12 (by rfl) (by rfl) (by exact Nat.le_of_ble_eq_true rfl) rfl (by exact ⟨Nat.le_of_ble_eq_true rfl, Nat.le_of_ble_eq_true rfl⟩) (by first | exact ⟨Nat.le_of_ble_eq_true rfl, Nat.le_of_ble_eq_true rfl⟩ | (simp only [zrm]; omega)) (fun _ _ h => z_xno h) (fun r w2 hq => ?_)
  obtain ⟨rfl, h2, f2⟩ := hq
  refine z_astore_n C (L1 := [_, _, _, _, _, _, _]) dL_law_15 (Nat.le_of_ble_eq_true rfl) rfl ?_
  refine z_iconst C (1) dL_law_16 (by decide) ?_
  refine z_newL C 40 (n := 1) rfl (by decide) za_J dL_law_17 (by exact Nat.le_of_ble_eq_true rfl) (by exact Nat.le_of_ble_eq_true rfl) (fun q40 hq40 => ?_)
  refine z_astore_n C (L1 := [_, _, _, _, _, _, _]) dL_law_19 (Nat.le_of_ble_eq_true rfl) rfl ?_
  refine z_iconst C (0) dL_law_20 (by decide) ?_
  refine z_istore C (L1 := [_, _, _, _, _, _, _]) dL_law_21 (Nat.le_of_ble_eq_true rfl) rfl ?_
  have hI : zLI z q0 q20 q40 0 (va_up w2 40 (some (q40, .inl (z.2.2.1 3, 1, .inr (.inl (fun _ => 0)))))) := ⟨hS0, (mG0, mF0), _, SR.zero, (h1.kp (fun j hj => (f2 j (by omega)).trans (va_up_ne _ _ (by omega)))).kp (fun j hj => va_up_ne _ _ (by omega)), h2.kp (fun j j1 j2 => va_up_ne _ _ (by omega)), va_up_self _ _ _⟩
  exact z_widen (by omega) (by omega) (law_loop hl C hX hbl hbA hL9 hz hr 513 0 _ (by omega) hI)
end ZLOOP
