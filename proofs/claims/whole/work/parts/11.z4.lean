/-! rows of the JDK's own: Math, arraycopy, getClass; look-ups; counters -/
theorem zk_eq {w : zW} {k : Nat} {q : zE} : va_up w k (some q) k = some q := va_up_self ..
theorem zk_ne {w : zW} {k j : Nat} {e : Option zE} {q : zE} (h : w j = some q) (hn : j ≠ k) : va_up w k e j = some q := by rw [va_up_ne _ _ hn]; exact h
theorem zinc {i : Nat} : nI i + Int32.ofInt 1 = nI (i + 1) := nI_1 i
theorem zdec {i : Nat} : nI (i + 1) + Int32.ofInt (-1) = nI i := pk_m1 i
theorem znb0 : narrow .boolean (.int 0) = .int 0 := rfl
theorem znb1 : narrow .boolean (.int 1) = .int 1 := rfl
/-- a boolean's number -/
def zb (b : Bool) : Int32 := if b then 1 else 0
theorem zb_nar (b : Bool) : narrow .boolean (.int (zb b)) = .int (zb b) := by cases b <;> rfl
theorem zb_fit (b : Bool) : fits .boolean (.int (zb b)) = true := by cases b <;> rfl
theorem zb_vp (b : Bool) : vp_nar .boolean (zb b) = zb b := by cases b <;> rfl
theorem zb_eq0 {b : Bool} : zb b = 0 ↔ b = false := by cases b <;> simp [zb]
section ZJDK
variable {p : Program} {l : Launch} {e : Env} {R : Room} {s : State} {m : MethodId} {args : Array Value} {below : List Frame} {meth : Method} {c : Code} {cells slots : Nat} {Q : State → Prop}
variable {z : zT} {cc : ByteArray} {own : String} {nL : Nat} {pc : Nat} {L : List (Option Value)} {st : List Value} {w : zW}
theorem z_max (C : zC z p l s m args meth c cc own nL) {index : Nat} {x y : Int32} (hl : Cond.methodLink own index Lib.Math.max.name ∈ lwG) (hdg : decode cc pc = .ok (.invokestatic index, 3)) (hLn : L.length = nL) (hR : 1 ≤ R.frames) (hR2 : (st.map fun v => v.category).sum + 13 ≤ R.locals) (hf : cells ≤ R.cells ∧ slots ≤ R.slots)
    (kk : ZJ z p l e R s m args below meth c Q cells slots (pc + 3) L (.int (if x < y then y else x) :: st) w) : ZJ z p l e R s m args below meth c Q cells slots pc L (.int y :: .int x :: st) w := fun H locs ls hZ hS hL =>
  va_mmax C.ex C.cd (by rw [C.ml]; exact (hL.1.trans hLn).symm) C.ow (C.ts _ hl) (C.ts _ zmath_s_max) (C.ts _ zmath_i) (C.ts _ zmath_c_max) hR hR2 hf.1 hf.2 hdg (kk H locs ls hZ hS hL)
theorem z_min (C : zC z p l s m args meth c cc own nL) {index : Nat} {x y : Int32} (hl : Cond.methodLink own index Lib.Math.min.name ∈ lwG) (hdg : decode cc pc = .ok (.invokestatic index, 3)) (hLn : L.length = nL) (hR : 1 ≤ R.frames) (hR2 : (st.map fun v => v.category).sum + 13 ≤ R.locals) (hf : cells ≤ R.cells ∧ slots ≤ R.slots)
    (kk : ZJ z p l e R s m args below meth c Q cells slots (pc + 3) L (.int (if y < x then y else x) :: st) w) : ZJ z p l e R s m args below meth c Q cells slots pc L (.int y :: .int x :: st) w := fun H locs ls hZ hS hL =>
  va_mmin C.ex C.cd (by rw [C.ml]; exact (hL.1.trans hLn).symm) C.ow (C.ts _ hl) (C.ts _ zmath_s_min) (C.ts _ zmath_i) (C.ts _ zmath_c_min) hR hR2 hf.1 hf.2 hdg (kk H locs ls hZ hS hL)
theorem z_getC (C : zC z p l s m args meth c cc own nL) {index k0 a n : Nat} {f : Nat → Option Nat} (hl : Cond.methodLink own index ⟨"java/lang/Object", "getClass", "()Ljava/lang/Class;"⟩ ∈ lwG) (h2 : Cond.selects "[Ljava/lang/Object;" ⟨"java/lang/Object", "getClass", "()Ljava/lang/Class;"⟩ ⟨"java/lang/Object", "getClass", "()Ljava/lang/Class;"⟩ ∈ lwG) (h3 : Cond.instanceMethod ⟨"java/lang/Object", "getClass", "()Ljava/lang/Class;"⟩ ∈ lwG) (h4 : Cond.native ⟨"java/lang/Object", "getClass", "()Ljava/lang/Class;"⟩ ∈ lwG)
    (hdg : decode cc pc = .ok (.invokevirtual index, 3)) (hk : w k0 = some (a, .inl (z.2.2.1 2, n, .inr (.inr (.inr (.inr f)))))) (hLn : L.length = nL) (hR : 1 ≤ R.frames) (hR2 : (st.map fun v => v.category).sum + 14 ≤ R.locals)
    (kk : ZJ z p l e R s m args below meth c Q cells slots (pc + 3) L (.ref z.2.2.2.2 :: st) w) : ZJ z p l e R s m args below meth c Q cells slots pc L (.ref a :: st) w := fun H locs ls hZ hS hL => by
  obtain ⟨ws, hP, hD, hin, hinj⟩ := id hZ
  obtain ⟨i, hi⟩ := hin _ _ hk
  obtain ⟨kA, comp, e1, e2, e3, e4⟩ := (C.K.2 2 _ rfl).2
  exact va_getC C.ex C.cd (by rw [C.ml]; exact (hL.1.trans hLn).symm) C.ow (C.ts _ hl) (va_Dc.use C.X.2.2.2.2.2.2.2.2.2.2.1) (C.ts _ h2) (C.ts _ h3) (C.ts _ h4) C.X.2.2.2.2.2.1 ⟨_, hP i _ hi, rfl, e4⟩ hR hR2 hdg (kk H locs ls hZ hS hL)
theorem z_copy (C : zC z p l s m args meth c cc own nL) {index k0 k1 a0 a n0 n1 sp dp n : Nat} {x y v : Int32} {f g : Nat → Option Nat} (hl : Cond.methodLink own index arraycopyName ∈ lwG) (hdg : decode cc pc = .ok (.invokestatic index, 3))
    (hk0 : w k0 = some (a0, .inl (z.2.2.1 2, n0, .inr (.inr (.inr (.inr f)))))) (hk1 : w k1 = some (a, .inl (z.2.2.1 2, n1, .inr (.inr (.inr (.inr g)))))) (hx : x = nI sp) (hy : y = nI dp) (hv : v = nI n) (h4 : sp + n ≤ n0) (h5 : dp + n ≤ n1) (hn0 : n0 < 2 ^ 31) (hn1 : n1 < 2 ^ 31)
    (hel : ∀ i : Nat, i < n → ∀ b : Nat, f (sp + i) = some b → ∃ (k : Nat) (vs : List Value), w k = some (b, .inr (2, vs))) (hLn : L.length = nL) (hR : 1 ≤ R.frames) (hR2 : (st.map fun v => v.category).sum + (nativeFrameWords "java/lang/System" "arraycopy" 5 + 11) ≤ R.locals)
    (kk : ZJ z p l e R s m args below meth c Q cells slots (pc + 3) L st (va_up w k1 (some (a, .inl (z.2.2.1 2, n1, .inr (.inr (.inr (.inr (va_cpy f g sp dp n))))))))) : ZJ z p l e R s m args below meth c Q cells slots pc L (.int v :: .int y :: .ref a :: .int x :: .ref a0 :: st) w := by
  intro H locs ls hZ hS hL
  subst hx hy hv
  obtain ⟨ws, hP, hD, hin, hinj⟩ := hZ
  obtain ⟨i0, hi0⟩ := hin _ _ hk0
  obtain ⟨i1, hi1⟩ := hin _ _ hk1
  have e1 : (nI sp).toNatClampNeg = sp := nI_clamp (by omega)
  have e2 : (nI dp).toNatClampNeg = dp := nI_clamp (by omega)
  have e3 : (nI n).toNatClampNeg = n := nI_clamp (by omega)
  refine va_copyM (E0 := "java/lang/Object") (E1 := "java/lang/Object") C.ex C.cd (by rw [C.ml]; exact (hL.1.trans hLn).symm) C.ow (C.ts _ hl) (C.ts _ zac_n) (C.ts _ zac_s) (C.ts _ zac_i) C.K hP hD hS i0 i1 2 2 hi0 hi1 rfl rfl
    (nI_pos (by omega)) (nI_pos (by omega)) (nI_pos (by omega)) (by rw [e1, e3]; exact h4) (by rw [e2, e3]; exact h5) (fun i hi b hb => ?_) hR hR2 hdg (fun H1 locs1 hP1 hD1 hS1 => ?_)
  · rw [e3] at hi
    rw [e1] at hb
    obtain ⟨k, vs, hkv⟩ := hel i hi b hb
    obtain ⟨i2, hi2⟩ := hin _ _ hkv
    exact va_rAny (r := (RX1, TX1, 10)) C.K hP hi2 rfl (fun comp c0 q1 q2 => vb_asgC (C.X.2.2.2.2.2.2.1 (RX1, "java/lang/Object") (by decide +kernel)) comp c0 q1 q2)
  · rw [e1, e2, e3] at hP1 hD1
    exact kk H1 locs1 ls (ZR.put hP1 hD1 hin hinj hi1 hk1) hS1 hL
end ZJDK
