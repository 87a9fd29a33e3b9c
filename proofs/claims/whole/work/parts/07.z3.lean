/-! CALLS, ENDS, THROWS over the judgement; the contract ZM of a method -/
section ZCALL
variable {p : Program} {l : Launch} {e : Env} {R : Room} {s : State} {m : MethodId} {args : Array Value} {below : List Frame} {meth : Method} {c : Code} {cells slots : Nat} {Q : State → Prop}
variable {z : zT} {cc : ByteArray} {own : String} {nL : Nat} {pc : Nat} {L : List (Option Value)} {st : List Value} {w : zW}
def zrm (k mc ms : Nat) : Room := { frames := k, cells := mc, slots := ms, locals := 26 * k }
def zPc (z : zT) (As : List Value) (w : zW) : Array Value → State → Prop := fun v U => v = As.toArray ∧ ZX z U U.heap ∧ z.1 ≤ U.heap.size ∧ ZR z w U.heap
def zQc (z : zT) (Qr : Option Value → zW → Prop) : Array Value → State → Outcome → State → Prop := fun _ st o t => (∃ (r : Option Value) (w1 : zW), o = .returned r ∧ Qr r w1 ∧ ZR z w1 t.heap) ∧ va_F (zA z) st t
def zXC (z : zT) (Qx : String → zW → Prop) : String → State → State → Prop := fun E st t => (∃ w1 : zW, Qx E w1 ∧ ZR z w1 t.heap) ∧ va_F (zA z) st t
def zNo : String → zW → Prop := fun _ _ => False
/-- the contract of the method M at the level k: from the world w and the arguments As it returns with Qr, or throws with Qx -/
def ZM (l : Launch) (z : zT) (M : zMI) (k mc ms : Nat) (As : List Value) (w : zW) (Qr : Option Value → zW → Prop) (Qx : String → zW → Prop) : Prop :=
  vx_Met l M.1 (Cond.code M.1 M.2.1 M.2.2.1 M.2.2.2 :: lwG) (zrm k mc ms) (zPc z As w) (zQc z Qr) (zXC z Qx) mc ms (zA z)
theorem zPc.blind {As : List Value} : FrameBlind (zPc z As w) := fun _ _ _ _ h => ⟨h.1, h.2.1.calling, h.2.2.1, h.2.2.2⟩
theorem ZR.kept {H H1 : Heap} (h : ZR z w H) (hq : ∀ q : Nat, q < H.size → H1[q]? = H[q]?) : ZR z w H1 := by
  obtain ⟨ws, h1, h2, h3, h4⟩ := h
  exact ⟨ws, h1.kept (fun k q hk => hq q.1 (h1 k q hk).lt), h2, h3, h4⟩
theorem zbody {M : zMI} {k mc ms : Nat} {As : List Value} {L0 : List (Option Value)} {Qr : Option Value → zW → Prop} {Qx : String → zW → Prop} (hl : l.stackTraces = false) (hc : ∀ v ∈ As, v.category = 1) (hn : As.length ≤ M.2.2.1) (hy : plainName M.1.cls = true) (hL0 : As.map some ++ List.replicate (M.2.2.1 - As.length) none = L0)
    (body : ∀ (p : Program) (e : Env) (s : State) (m : MethodId) (args : Array Value) (below : List Frame) (meth : Method) (c : Code), zC z p l s m args meth c M.2.1 M.1.cls M.2.2.1 → (∀ x ∈ c.exceptionTable.toList, False) → meth.name = M.1.name → meth.sig.returnType = M.2.2.2 →
      ZJ z p l e (zrm k mc ms) s m args below meth c (vx_MQ below (zQc z Qr) (zXC z Qx) args s mc ms (zA z)) 0 0 0 L0 [] w) : ZM l z M k mc ms As w Qr Qx := by
  subst hL0
  refine vx_ofW hy rfl ?_
  intro p e s m args below meth c s₁ B hml hX hv
  obtain ⟨rfl, hZX, hsz, hZR⟩ := hv
  have hts := atoms_spec (ws := Cond.code M.1 M.2.1 M.2.2.1 M.2.2.2 :: lwG) B.pre
  have hC : zC z p l s m As.toArray meth c M.2.1 M.1.cls M.2.2.1 := ⟨B.exec, B.bytes, findClass_of_methodNamed B.named, fun w h => hts w (List.mem_cons_of_mem _ h), hZX, hsz, B.notSynchronized, hl, hml⟩
  have h := body p e s m As.toArray below meth c hC hX (name_of_methodNamed B.named B.method).1 B.returns s.heap [] _ hZR va_S.rf (zL.args hc hn rfl)
  rw [lg_entry_eq]
  exact h
def zpu : Option Value → List Value → List Value
  | some v, st => v :: st
  | none, st => st
theorem z_of_run {mc ms : Nat} {a : Array Value} {st0 : List Value} {Qy : Option Value → zW → Prop} {Xy : String → zW → Prop}
    (hr : ∀ (H : Heap) (locs : List Loc) (ls : Array Slot), ZR z w H → va_S (zA z) s.heap H locs → zL ls L → vx_Run p l e R s m args below meth c H locs cells slots mc ms (F0 m pc ls st0) st (zQc z Qy a) (zXC z Xy) (zA z))
    (kx : ∀ (E : String) (w1 : zW), Xy E w1 → ZXJ z p l e R s m args below meth c Q (cells + mc) (slots + ms) pc L st w1 E)
    (kk : ∀ (r : Option Value) (w1 : zW), Qy r w1 → ZJ z p l e R s m args below meth c Q (cells + mc) (slots + ms) (pc + 3) L (zpu r st) w1) : ZJ z p l e R s m args below meth c Q cells slots pc L st0 w := by
  intro H locs ls hR hS hL T hT X
  rcases hr H locs ls hR hS hL T hT X with ⟨v, st₀, t, T', L2, h0, X', hL2, e1, e2, ⟨⟨r, w1, hv, hp, hb⟩, hF⟩, go⟩ | ⟨q, st₀, t, T', L2, E, ce, h0, X', hL2, e1, e2, ⟨⟨w1, hp, hb⟩, hF⟩, hce, hcv, hcl, go⟩
  · cases hv
    obtain ⟨k1, k2, k3⟩ := vx_keep h0 e1 hS (fun _ _ h => h) (fun _ h => h) hL2 hF
    obtain ⟨t2, a1, b1⟩ := kk v w1 hp T'.heap (locs ++ L2) ls (by rw [e1]; exact hb) k3 hL T' rfl X'
    exact ⟨t2, go t2 (by cases v <;> exact a1), b1⟩
  · obtain ⟨k1, k2, k3⟩ := vx_keep h0 e1 hS (fun _ _ h => h) (fun _ h => h) hL2 hF
    obtain ⟨t2, a1, b1⟩ := kx E w1 hp T'.heap (locs ++ L2) ls ce q (by rw [e1]; exact hb) k3 hL (by rw [e1]; exact hce) hcv hcl T' rfl X'
    exact ⟨t2, go.trans a1, b1⟩
/-- what the tables say of a method -/
def zMF (M : zMI) (n : Nat) : Prop := Cond.code M.1 M.2.1 M.2.2.1 M.2.2.2 ∈ lwG ∧ Cond.initialized M.1.cls ∈ lwG ∧ M.1.cls ≠ "java/lang/invoke/MethodHandle" ∧ M.1.cls ≠ "java/lang/invoke/VarHandle" ∧ (parseMethodDescriptor M.1.desc).map (fun d => d.parameters.length) = some n
def zMV (M : zMI) (n : Nat) : Prop := zMF M n ∧ Cond.instanceMethod M.1 ∈ lwG ∧ Cond.selects M.1.cls M.1 M.1 ∈ lwG
def zMS (M : zMI) (n : Nat) : Prop := zMF M n ∧ Cond.static M.1 ∈ lwG
def zMC (M : zMI) (n : Nat) : Prop := zMF M n ∧ Cond.instanceMethod M.1 ∈ lwG ∧ M.1.name = "<init>" ∧ M.2.2.2 = none
theorem z_callB {M : zMI} {n index k mc ms : Nat} (C : zC z p l s m args meth c cc own nL) (F : zMF M n) (hl : Cond.methodLink own index M.1 ∈ lwG) (hR : k + 1 ≤ R.frames ∧ 8 + (M.2.2.1 + 11) + 26 * k ≤ R.locals) :
    CallB R s args own index M.1 M.2.1 M.2.2.1 M.2.2.2 (Cond.code M.1 M.2.1 M.2.2.1 M.2.2.2 :: lwG) (zrm k mc ms) mc ms n := callB_of n C.ts (lwG_sub F.1) rfl rfl rfl (C.ts _ F.2.1) (C.ts _ hl) F.2.2 hR
theorem z_callV (C : zC z p l s m args meth c cc own nL) {M : zMI} {n index k mc ms : Nat} {b k0 ci N : Nat} {T : u_T} {fs As st0 : List Value} {Qy : Option Value → zW → Prop} {Xy : String → zW → Prop} (V : zMV M n) (hl : Cond.methodLink own index M.1 ∈ lwG) (hM : ZM l z M k mc ms (.ref b :: As) w Qy Xy)
    (hdg : decode cc pc = .ok (.invokevirtual index, 3)) (hk : w k0 = some (b, .inr (ci, fs))) (hc : vwCl[ci]? = some (M.1.cls, T, N)) (hn : As.length = n) (hst : st0 = As.reverse ++ .ref b :: st) (hW : (st.map fun v => v.category).sum ≤ 8) (hLn : L.length = nL) (hR : k + 1 ≤ R.frames ∧ 8 + (M.2.2.1 + 11) + 26 * k ≤ R.locals) (hf : cells + mc ≤ R.cells ∧ slots + ms ≤ R.slots)
    (kx : ∀ (E : String) (w1 : zW), Xy E w1 → ZXJ z p l e R s m args below meth c Q (cells + mc) (slots + ms) pc L st w1 E)
    (kk : ∀ (r : Option Value) (w1 : zW), Qy r w1 → ZJ z p l e R s m args below meth c Q (cells + mc) (slots + ms) (pc + 3) L (zpu r st) w1) : ZJ z p l e R s m args below meth c Q cells slots pc L st0 w := by
  refine z_of_run (a := (Value.ref b :: As).toArray) (fun H locs ls hZ hS hL => ?_) kx kk
  obtain ⟨ws, hP, hD, hin, hinj⟩ := id hZ
  obtain ⟨i, hi⟩ := hin _ _ hk
  exact vx_runV (cc := cc) (nL := nL) (own := own) (Ts := lwG) (C := M.1.cls) (index := index) (n := n) (bytes := M.2.1) (maxL := M.2.2.1) (ret := M.2.2.2) ⟨C.ex, C.cd, C.ml, C.ow, C.ts⟩ hM ⟨z_callB C V.1 hl hR, C.ts _ V.2.1, C.ts _ V.2.2⟩
    ⟨zPc.blind, va_recv C.K hP hc hi, fun U hU hW2 => ⟨rfl, C.X.next hS hU hW2, by rw [hU]; exact Nat.le_trans C.sz hS.1, by rw [hU]; exact hZ⟩⟩ rfl hn (hL.1.trans hLn) hst (lv_room hW) hdg hf
theorem z_callS (C : zC z p l s m args meth c cc own nL) {M : zMI} {n index k mc ms : Nat} {As st0 : List Value} {Qy : Option Value → zW → Prop} {Xy : String → zW → Prop} (V : zMS M n) (hl : Cond.methodLink own index M.1 ∈ lwG) (hM : ZM l z M k mc ms As w Qy Xy)
    (hdg : decode cc pc = .ok (.invokestatic index, 3)) (hn : As.length = n) (hst : st0 = As.reverse ++ st) (hW : (st.map fun v => v.category).sum ≤ 8) (hLn : L.length = nL) (hR : k + 1 ≤ R.frames ∧ 8 + (M.2.2.1 + 11) + 26 * k ≤ R.locals) (hf : cells + mc ≤ R.cells ∧ slots + ms ≤ R.slots)
    (kx : ∀ (E : String) (w1 : zW), Xy E w1 → ZXJ z p l e R s m args below meth c Q (cells + mc) (slots + ms) pc L st w1 E)
    (kk : ∀ (r : Option Value) (w1 : zW), Qy r w1 → ZJ z p l e R s m args below meth c Q (cells + mc) (slots + ms) (pc + 3) L (zpu r st) w1) : ZJ z p l e R s m args below meth c Q cells slots pc L st0 w := by
  refine z_of_run (a := As.toArray) (fun H locs ls hZ hS hL => ?_) kx kk
  exact vx_runS (cc := cc) (nL := nL) (own := own) (Ts := lwG) (index := index) (n := n) (bytes := M.2.1) (maxL := M.2.2.1) (ret := M.2.2.2) ⟨C.ex, C.cd, C.ml, C.ow, C.ts⟩ hM ⟨z_callB C V.1 hl hR, C.ts _ V.2⟩
    ⟨zPc.blind, fun U hU hW2 => ⟨rfl, C.X.next hS hU hW2, by rw [hU]; exact Nat.le_trans C.sz hS.1, by rw [hU]; exact hZ⟩⟩ rfl hn (hL.1.trans hLn) hst (lv_room hW) hdg hf
theorem z_callI (C : zC z p l s m args meth c cc own nL) {y : MethodName} {cb : ByteArray} {ml : Nat} {n index k mc ms b : Nat} {As st0 : List Value} {Qy : Option Value → zW → Prop} {Xy : String → zW → Prop} (V : zMC (y, cb, ml, none) n) (hl : Cond.methodLink own index y ∈ lwG) (hM : ZM l z (y, cb, ml, none) k mc ms (.ref b :: As) w Qy Xy)
    (hdg : decode cc pc = .ok (.invokespecial index, 3)) (hn : As.length = n) (hst : st0 = As.reverse ++ .ref b :: st) (hW : (st.map fun v => v.category).sum ≤ 8) (hLn : L.length = nL) (hR : k + 1 ≤ R.frames ∧ 8 + (ml + 11) + 26 * k ≤ R.locals) (hf : cells + mc ≤ R.cells ∧ slots + ms ≤ R.slots)
    (kx : ∀ (E : String) (w1 : zW), Xy E w1 → ZXJ z p l e R s m args below meth c Q (cells + mc) (slots + ms) pc L st w1 E)
    (kk : ∀ (r : Option Value) (w1 : zW), Qy r w1 → ZJ z p l e R s m args below meth c Q (cells + mc) (slots + ms) (pc + 3) L (zpu r st) w1) : ZJ z p l e R s m args below meth c Q cells slots pc L st0 w := by
  refine z_of_run (a := (Value.ref b :: As).toArray) (fun H locs ls hZ hS hL => ?_) kx kk
  exact vx_runI (cc := cc) (nL := nL) (own := own) (Ts := lwG) (index := index) (n := n) (bytes := cb) (maxL := ml) ⟨C.ex, C.cd, C.ml, C.ow, C.ts⟩ hM ⟨z_callB C V.1 hl hR, V.2.2.1, C.ts _ V.2.1⟩
    ⟨zPc.blind, fun U hU hW2 => ⟨rfl, C.X.next hS hU hW2, by rw [hU]; exact Nat.le_trans C.sz hS.1, by rw [hU]; exact hZ⟩⟩ rfl hn (hL.1.trans hLn) hst (lv_room hW) hdg hf
/-- a nest mate's own constructor -/
theorem z_callIN (C : zC z p l s m args meth c cc "HiringHall" nL) {cb : ByteArray} {ml : Nat} {k mc ms b : Nat} {st0 : List Value} {Qy : Option Value → zW → Prop} {Xy : String → zW → Prop} (V : zMC ((⟨"HiringHall$Matching", "<init>", "()V"⟩ : MethodName), cb, ml, none) 0) (hM : ZM l z ((⟨"HiringHall$Matching", "<init>", "()V"⟩ : MethodName), cb, ml, none) k mc ms [.ref b] w Qy Xy)
    (hdg : decode cc pc = .ok (.invokespecial 24, 3)) (hst : st0 = .ref b :: st) (hW : (st.map fun v => v.category).sum ≤ 8) (hLn : L.length = nL) (hR : k + 1 ≤ R.frames ∧ 8 + (ml + 11) + 26 * k ≤ R.locals) (hf : cells + mc ≤ R.cells ∧ slots + ms ≤ R.slots)
    (kx : ∀ (E : String) (w1 : zW), Xy E w1 → ZXJ z p l e R s m args below meth c Q (cells + mc) (slots + ms) pc L st w1 E)
    (kk : ∀ (r : Option Value) (w1 : zW), Qy r w1 → ZJ z p l e R s m args below meth c Q (cells + mc) (slots + ms) (pc + 3) L (zpu r st) w1) : ZJ z p l e R s m args below meth c Q cells slots pc L st0 w := by
  refine z_of_run (a := (Value.ref b :: []).toArray) (fun H locs ls hZ hS hL => ?_) kx kk
  exact vx_runIN (cc := cc) (nL := nL) (own := "HiringHall") (Ts := lwG) (index := 24) (n := 0) (bytes := cb) (maxL := ml) (host := "HiringHall") ⟨C.ex, C.cd, C.ml, C.ow, C.ts⟩ hM ⟨va_cnB 0 C.ts (lwG_sub V.1.1) rfl rfl rfl C.X.2.2.2.2.2.2.2.2.2.2.2.1 (C.ts _ V.1.2.1) V.1.2.2 hR, V.2.2.1, C.ts _ V.2.1⟩
    ⟨zPc.blind, fun U hU hW2 => ⟨rfl, C.X.next hS hU hW2, by rw [hU]; exact Nat.le_trans C.sz hS.1, by rw [hU]; exact hZ⟩⟩ rfl rfl (hL.1.trans hLn) hst (lv_room hW) hdg hf
/-- Object.<init> -/
theorem z_obj (C : zC z p l s m args meth c cc own nL) {index b : Nat} (hl : Cond.methodLink own index Lib.objectInit ∈ lwG) (hi : Cond.instanceMethod Lib.objectInit ∈ lwG) (hw : Cond.code Lib.objectInit ⟨#[0xb1]⟩ 1 none ∈ lwG) (hdg : decode cc pc = .ok (.invokespecial index, 3)) (hLn : L.length = nL) (hR : 1 ≤ R.frames) (hR2 : (st.map fun v => v.category).sum + 12 ≤ R.locals)
    (kk : ZJ z p l e R s m args below meth c Q cells slots (pc + 3) L st w) : ZJ z p l e R s m args below meth c Q cells slots pc L (.ref b :: st) w := fun H locs ls hZ hS hL =>
  W.objInit C.ex C.cd C.ow (C.ts _ hl) (C.ts _ hi) (C.ts _ hw) rfl (by rw [C.ml]; exact hL.1.trans hLn) rfl hdg hR (by show 2 * 0 + _ + 12 ≤ _; omega) (kk H locs ls hZ hS hL)
variable {mc ms : Nat} {Qr : Option Value → zW → Prop} {Qx : String → zW → Prop}
theorem z_xno {E : String} (h : zNo E w) : ZXJ z p l e R s m args below meth c Q cells slots pc L st w E := h.elim
theorem z_xout (C : zC z p l s m args meth c cc own nL) {E : String} (hX : ∀ x ∈ c.exceptionTable.toList, False) (hq : Qx E w) (h1 : cells ≤ mc) (h2 : slots ≤ ms) : ZXJ z p l e R s m args below meth c (vx_MQ below (zQc z Qr) (zXC z Qx) args s mc ms (zA z)) cells slots pc L st w E := fun _ _ _ _ _ hZ hS _ hce hcv hcl =>
  vx_out (fun x hx => (hX x hx).elim) C.lk hce hcv hcl (fun t ht _ => ⟨⟨w, hq, by rw [ht]; exact hZ⟩, hS.F ht⟩) hS.2.2 h1 h2
theorem z_iret (C : zC z p l s m args meth c cc own nL) {v : Int32} (hr : meth.sig.returnType = some .int) (hdg : decode cc pc = .ok (.ireturn, 1)) (h1 : cells ≤ mc) (h2 : slots ≤ ms) (hq : Qr (some (.int v)) w) : ZJ z p l e R s m args below meth c (vx_MQ below (zQc z Qr) (zXC z Qx) args s mc ms (zA z)) cells slots pc L [.int v] w := fun _ _ _ hZ hS _ =>
  vx_ret (W.widen h1 h2 (W.iret C.ex C.cd hr (fun t ht _ => ⟨⟨_, w, rfl, hq, by rw [ht]; exact hZ⟩, hS.F ht⟩) hS.2.2 hdg C.lk))
theorem z_zret (C : zC z p l s m args meth c cc own nL) {v : Int32} (hr : meth.sig.returnType = some .boolean) (hdg : decode cc pc = .ok (.ireturn, 1)) (hn : narrow .boolean (.int v) = .int v) (h1 : cells ≤ mc) (h2 : slots ≤ ms) (hq : Qr (some (.int v)) w) : ZJ z p l e R s m args below meth c (vx_MQ below (zQc z Qr) (zXC z Qx) args s mc ms (zA z)) cells slots pc L [.int v] w := fun _ _ _ hZ hS _ =>
  vx_ret (W.widen h1 h2 (W.zret C.ex C.cd hr hn (fun t ht _ => ⟨⟨_, w, rfl, hq, by rw [ht]; exact hZ⟩, hS.F ht⟩) hS.2.2 hdg C.lk))
theorem z_aret (C : zC z p l s m args meth c cc own nL) {v : Value} {rt : FieldType} (hr : meth.sig.returnType = some rt) (hrt : (∃ n, rt = .object n) ∨ ∃ t, rt = .array t) (hv : v = .null ∨ ∃ a, v = .ref a) (hdg : decode cc pc = .ok (.areturn, 1)) (h1 : cells ≤ mc) (h2 : slots ≤ ms) (hq : Qr (some v) w) : ZJ z p l e R s m args below meth c (vx_MQ below (zQc z Qr) (zXC z Qx) args s mc ms (zA z)) cells slots pc L [v] w := fun _ _ _ hZ hS _ =>
  vx_ret (W.widen h1 h2 (W.aret C.ex C.cd hr hrt hv (fun t ht _ => ⟨⟨_, w, rfl, hq, by rw [ht]; exact hZ⟩, hS.F ht⟩) hS.2.2 hdg C.lk))
theorem z_vret (C : zC z p l s m args meth c cc own nL) (hr : meth.sig.returnType = none) (hdg : decode cc pc = .ok (.return_, 1)) (h1 : cells ≤ mc) (h2 : slots ≤ ms) (hq : Qr none w) : ZJ z p l e R s m args below meth c (vx_MQ below (zQc z Qr) (zXC z Qx) args s mc ms (zA z)) cells slots pc L [] w := fun _ _ _ hZ hS _ =>
  vx_ret (W.widen h1 h2 (W.vret C.ex C.cd hr (fun t ht _ => ⟨⟨_, w, rfl, hq, by rw [ht]; exact hZ⟩, hS.F ht⟩) hS.2.2 hdg C.lk))
abbrev zEN : List String := ["java/lang/RuntimeException", "java/lang/Exception"]
def zTS (own : String) (ik is ic : Nat) (cls text : String) : Prop := Bundle.fit cls = true ∧ Cond.classLink own ik cls ∈ lwG ∧ Cond.initialized cls ∈ lwG ∧ (own, is, text) ∈ zStr ∧ (∀ w ∈ (vx_atS own ic cls zEN).filter goodWord, w ∈ lwG) ∧ (∀ w ∈ (vx_atS own ic cls zEN).filter (fun w => !goodWord w), w ∈ Cond.castable cls cls :: zDec.map Cond.declares) ∧ (cls, cls) ∈ zCast ∧ (∀ w ∈ Cond.classLink own ik cls :: Cond.initialized cls :: vx_atS own ic cls zEN, vx_ot w = true)
theorem z_throw (C : zC z p l s m args meth c cc own nL) {ik is ic : Nat} {cls text : String} (F : zTS own ik is ic cls text) (hX : ∀ x ∈ c.exceptionTable.toList, False)
    (d0 : decode cc pc = .ok (.new ik, 3)) (d3 : decode cc (pc + 3) = .ok (.dup, 1)) (d4 : decode cc (pc + 4) = .ok (.ldc is, 2)) (d6 : decode cc (pc + 6) = .ok (.invokespecial ic, 3)) (d9 : decode cc (pc + 9) = .ok (.athrow, 1))
    (hLn : L.length = nL) (hRf : 5 < R.frames) (hRl : 82 ≤ R.locals) (hRc : cells + 1 ≤ R.cells) (hRs : slots + 6 ≤ R.slots) (h1 : cells + 1 ≤ mc) (h2 : slots + 6 ≤ ms) (hq : Qx cls w) :
    ZJ z p l e R s m args below meth c (vx_MQ below (zQc z Qr) (zXC z Qx) args s mc ms (zA z)) cells slots pc L [] w := by
  intro H locs ls hZ hS hL
  obtain ⟨f1, f2, f3, f4, f5, f6, f7, f8⟩ := F
  obtain ⟨sa, hsa⟩ := C.X.2.2.2.2.2.2.2.2.1 _ f4
  exact vx_throwS C.ex C.cd C.tr (names := zEN) C.ow f1 (by decide +kernel) (C.ts _ f2) (C.ts _ f3) hsa (vx_hat (fun w h => C.ts w (f5 w h)) f6 (vx_c (va_Nw.use rfl (C.X.2.2.2.2.2.2.1 _ f7)) (fun w h => by obtain ⟨x, hx, e⟩ := List.mem_map.mp h; rw [← e]; exact va_Nw.use rfl (C.X.2.2.2.2.2.2.2.2.2.2.2.2 x hx)))) f8 C.X.2.1 C.X.2.2.1 hS (by rw [C.ml]; exact hL.1.trans hLn) d0 d3 d4 d6 d9 (fun x hx => (hX x hx).elim) (by show 2 + 3 < _; exact hRf) (by show 0 + (13 * (2 + 1) + 43) ≤ _; omega) hRc hRs C.lk
    (fun t _ hz hk => ⟨⟨w, hq, hZ.kept hk⟩, Nat.le_trans hS.1 hz, fun q q1 q2 => (hk q (Nat.lt_of_lt_of_le q1 hS.1)).trans (hS.2.1 q q1 q2)⟩) hS.2.2 h1 h2
end ZCALL
