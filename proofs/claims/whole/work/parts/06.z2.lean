/-! ROWS: an instruction each, over the judgement ZJ -/
section ZROWS
variable {p : Program} {l : Launch} {e : Env} {R : Room} {s : State} {m : MethodId} {args : Array Value} {below : List Frame} {meth : Method} {c : Code} {cells slots : Nat} {Q : State → Prop}
variable {z : zT} {cc : ByteArray} {own : String} {nL : Nat} {pc : Nat} {L : List (Option Value)} {st : List Value} {w : zW}
def ZJ (z : zT) (p : Program) (l : Launch) (e : Env) (R : Room) (s : State) (m : MethodId) (args : Array Value) (below : List Frame) (meth : Method) (c : Code) (Q : State → Prop) (cells slots pc : Nat) (L : List (Option Value)) (st : List Value) (w : zW) : Prop :=
  ∀ (H : Heap) (locs : List Loc) (ls : Array Slot), ZR z w H → va_S (zA z) s.heap H locs → zL ls L → W p l e R s m args below meth c H locs cells slots Q (F0 m pc ls st)
/-- a thrown object of the kind E is over the frame at pc -/
def ZXJ (z : zT) (p : Program) (l : Launch) (e : Env) (R : Room) (s : State) (m : MethodId) (args : Array Value) (below : List Frame) (meth : Method) (c : Code) (Q : State → Prop) (cells slots pc : Nat) (L : List (Option Value)) (st : List Value) (w : zW) (E : String) : Prop :=
  ∀ (H : Heap) (locs : List Loc) (ls : Array Slot) (ce : Cell) (q9 : Addr), ZR z w H → va_S (zA z) s.heap H locs → zL ls L → H[q9]? = some ce → ce.vm = .none → s.vm.findClass E = some ce.cls → vx_W p l e R s m args below meth c H locs cells slots Q (F0 m pc ls st) q9
/-- the fixed things of a body -/
def zC (z : zT) (p : Program) (l : Launch) (s : State) (m : MethodId) (args : Array Value) (meth : Method) (c : Code) (cc : ByteArray) (own : String) (nL : Nat) : Prop :=
  p.tables.exec = Jvm.exec ∧ c.code = cc ∧ s.vm.findClass own = some m.cls ∧ (∀ w ∈ lwG, w.before args s = true) ∧ ZX z s s.heap ∧ z.1 ≤ s.heap.size ∧ meth.locks = false ∧ l.stackTraces = false ∧ c.maxLocals = nL
theorem zC.ex (C : zC z p l s m args meth c cc own nL) : p.tables.exec = Jvm.exec := C.1
theorem zC.cd (C : zC z p l s m args meth c cc own nL) : c.code = cc := C.2.1
theorem zC.ow (C : zC z p l s m args meth c cc own nL) : s.vm.findClass own = some m.cls := C.2.2.1
theorem zC.ts (C : zC z p l s m args meth c cc own nL) : ∀ w ∈ lwG, w.before args s = true := C.2.2.2.1
theorem zC.X (C : zC z p l s m args meth c cc own nL) : ZX z s s.heap := C.2.2.2.2.1
theorem zC.K (C : zC z p l s m args meth c cc own nL) : va_K z.2.1 vwCl (zTy z) s := C.2.2.2.2.1.1
theorem zC.sz (C : zC z p l s m args meth c cc own nL) : z.1 ≤ s.heap.size := C.2.2.2.2.2.1
theorem zC.lk (C : zC z p l s m args meth c cc own nL) : meth.locks = false := C.2.2.2.2.2.2.1
theorem zC.tr (C : zC z p l s m args meth c cc own nL) : l.stackTraces = false := C.2.2.2.2.2.2.2.1
theorem zC.ml (C : zC z p l s m args meth c cc own nL) : c.maxLocals = nL := C.2.2.2.2.2.2.2.2
theorem zC.A (C : zC z p l s m args meth c cc own nL) : ∀ q : Nat, s.heap.size ≤ q → zA z q := fun q h => Nat.le_trans C.sz h
theorem z_iconst (C : zC z p l s m args meth c cc own nL) {n : Int} (v : Int32) (hdg : decode cc pc = .ok (.iconst n, 1)) (hv : Int32.ofInt n = v) (kk : ZJ z p l e R s m args below meth c Q cells slots (pc + 1) L (.int v :: st) w) : ZJ z p l e R s m args below meth c Q cells slots pc L st w := fun H locs ls hR hS hL => lv_iconst C.ex C.cd hdg hv (kk H locs ls hR hS hL)
theorem z_bipush (C : zC z p l s m args meth c cc own nL) {n : Int} (v : Int32) (hdg : decode cc pc = .ok (.bipush n, 2)) (hv : (Int8.ofInt n).toInt32 = v) (kk : ZJ z p l e R s m args below meth c Q cells slots (pc + 2) L (.int v :: st) w) : ZJ z p l e R s m args below meth c Q cells slots pc L st w := fun H locs ls hR hS hL => lv_bipush C.ex C.cd hdg hv (kk H locs ls hR hS hL)
theorem z_sipush (C : zC z p l s m args meth c cc own nL) {n : Int} (v : Int32) (hdg : decode cc pc = .ok (.sipush n, 3)) (hv : (Int16.ofInt n).toInt32 = v) (kk : ZJ z p l e R s m args below meth c Q cells slots (pc + 3) L (.int v :: st) w) : ZJ z p l e R s m args below meth c Q cells slots pc L st w := fun H locs ls hR hS hL => lv_sipush C.ex C.cd hdg hv (kk H locs ls hR hS hL)
theorem z_lconst (C : zC z p l s m args meth c cc own nL) {n : Fin 2} (v : Int64) (hdg : decode cc pc = .ok (.lconst n, 1)) (hv : Int64.ofNat (n : Nat) = v) (kk : ZJ z p l e R s m args below meth c Q cells slots (pc + 1) L (.long v :: st) w) : ZJ z p l e R s m args below meth c Q cells slots pc L st w := fun H locs ls hR hS hL => lv_lconst C.ex C.cd hdg hv (kk H locs ls hR hS hL)
theorem z_null (C : zC z p l s m args meth c cc own nL)  (hdg : decode cc pc = .ok (.aconst_null, 1))  (kk : ZJ z p l e R s m args below meth c Q cells slots (pc + 1) L (.null :: st) w) : ZJ z p l e R s m args below meth c Q cells slots pc L st w := fun H locs ls hR hS hL => lv_null C.ex C.cd hdg (kk H locs ls hR hS hL)
theorem z_ldc (C : zC z p l s m args meth c cc own nL) {index : Nat} (v : Int32) (hdg : decode cc pc = .ok (.ldc index, 2)) (hw : Cond.constant own index v ∈ lwG) (kk : ZJ z p l e R s m args below meth c Q cells slots (pc + 2) L (.int v :: st) w) : ZJ z p l e R s m args below meth c Q cells slots pc L st w := fun H locs ls hR hS hL => lv_ldc C.ex C.cd C.ow (C.ts _ hw) hdg (kk H locs ls hR hS hL)
theorem z_ldcM (C : zC z p l s m args meth c cc own nL) {index : Nat} (hdg : decode cc pc = .ok (.ldc index, 2)) (hw : Cond.classLink own index "[Ljava/lang/Object;" ∈ lwG) (kk : ZJ z p l e R s m args below meth c Q cells slots (pc + 2) L (.ref z.2.2.2.2 :: st) w) : ZJ z p l e R s m args below meth c Q cells slots pc L st w := fun H locs ls hR hS hL => va_ldcM C.ex C.cd C.ow (C.ts _ hw) C.X.2.2.2.2.2.1 hdg (kk H locs ls hR hS hL)
theorem z_iload_n (C : zC z p l s m args meth c cc own nL) {k : Fin 4} {x : Int32} (hdg : decode cc pc = .ok (.iload_n k, 1)) (hl : L[(k : Nat)]? = some (some (.int x))) (kk : ZJ z p l e R s m args below meth c Q cells slots (pc + 1) L (.int x :: st) w) : ZJ z p l e R s m args below meth c Q cells slots pc L st w := fun H locs ls hR hS hL => lv_iload_n C.ex C.cd hdg rfl (hL.2.2 _ _ hl).1 (kk H locs ls hR hS hL)
theorem z_iload (C : zC z p l s m args meth c cc own nL) {i : Nat} {x : Int32} (hdg : decode cc pc = .ok (.iload i, 2)) (hl : L[i]? = some (some (.int x))) (kk : ZJ z p l e R s m args below meth c Q cells slots (pc + 2) L (.int x :: st) w) : ZJ z p l e R s m args below meth c Q cells slots pc L st w := fun H locs ls hR hS hL => lv_iload C.ex C.cd hdg (hL.2.2 _ _ hl).1 (kk H locs ls hR hS hL)
theorem z_aload_n (C : zC z p l s m args meth c cc own nL) {k : Fin 4} {x : Nat} (hdg : decode cc pc = .ok (.aload_n k, 1)) (hl : L[(k : Nat)]? = some (some (.ref x))) (kk : ZJ z p l e R s m args below meth c Q cells slots (pc + 1) L (.ref x :: st) w) : ZJ z p l e R s m args below meth c Q cells slots pc L st w := fun H locs ls hR hS hL => lv_aload_n C.ex C.cd hdg rfl (hL.2.2 _ _ hl).1 (kk H locs ls hR hS hL)
theorem z_aload (C : zC z p l s m args meth c cc own nL) {i : Nat} {x : Nat} (hdg : decode cc pc = .ok (.aload i, 2)) (hl : L[i]? = some (some (.ref x))) (kk : ZJ z p l e R s m args below meth c Q cells slots (pc + 2) L (.ref x :: st) w) : ZJ z p l e R s m args below meth c Q cells slots pc L st w := fun H locs ls hR hS hL => lv_aload C.ex C.cd hdg (hL.2.2 _ _ hl).1 (kk H locs ls hR hS hL)
theorem z_istore_n (C : zC z p l s m args meth c cc own nL) {k : Fin 4} {x : Int32} {L1 : List (Option Value)} (hdg : decode cc pc = .ok (.istore_n k, 1)) (hk : (k : Nat) < L.length) (hset : L.set k (some (.int x)) = L1) (kk : ZJ z p l e R s m args below meth c Q cells slots (pc + 1) L1 st w) : ZJ z p l e R s m args below meth c Q cells slots pc L (.int x :: st) w := fun H locs ls hR hS hL => lv_istore_n C.ex C.cd hdg rfl hL.has hk rfl (fun ls2 hh => kk H locs ls2 hR hS (hset ▸ hL.set rfl hh List.mem_cons_self zL.st))
theorem z_istore (C : zC z p l s m args meth c cc own nL) {k : Nat} {x : Int32} {L1 : List (Option Value)} (hdg : decode cc pc = .ok (.istore k, 2)) (hk : k < L.length) (hset : L.set k (some (.int x)) = L1) (kk : ZJ z p l e R s m args below meth c Q cells slots (pc + 2) L1 st w) : ZJ z p l e R s m args below meth c Q cells slots pc L (.int x :: st) w := fun H locs ls hR hS hL => lv_istore C.ex C.cd hdg hL.has hk rfl (fun ls2 hh => kk H locs ls2 hR hS (hset ▸ hL.set rfl hh List.mem_cons_self zL.st))
theorem z_astore_n (C : zC z p l s m args meth c cc own nL) {k : Fin 4} {x : Nat} {L1 : List (Option Value)} (hdg : decode cc pc = .ok (.astore_n k, 1)) (hk : (k : Nat) < L.length) (hset : L.set k (some (.ref x)) = L1) (kk : ZJ z p l e R s m args below meth c Q cells slots (pc + 1) L1 st w) : ZJ z p l e R s m args below meth c Q cells slots pc L (.ref x :: st) w := fun H locs ls hR hS hL => lv_astore_n C.ex C.cd hdg rfl hL.has hk rfl (fun ls2 hh => kk H locs ls2 hR hS (hset ▸ hL.set rfl hh List.mem_cons_self zL.st))
theorem z_astore (C : zC z p l s m args meth c cc own nL) {k : Nat} {x : Nat} {L1 : List (Option Value)} (hdg : decode cc pc = .ok (.astore k, 2)) (hk : k < L.length) (hset : L.set k (some (.ref x)) = L1) (kk : ZJ z p l e R s m args below meth c Q cells slots (pc + 2) L1 st w) : ZJ z p l e R s m args below meth c Q cells slots pc L (.ref x :: st) w := fun H locs ls hR hS hL => lv_astore C.ex C.cd hdg hL.has hk rfl (fun ls2 hh => kk H locs ls2 hR hS (hset ▸ hL.set rfl hh List.mem_cons_self zL.st))
theorem z_iinc (C : zC z p l s m args meth c cc own nL) {i : Nat} {n : Int} {x : Int32} (v : Int32) {L1 : List (Option Value)} (hdg : decode cc pc = .ok (.iinc i n, 3)) (hl : L[i]? = some (some (.int x))) (hv : x + Int32.ofInt n = v) (hset : L.set i (some (.int v)) = L1) (kk : ZJ z p l e R s m args below meth c Q cells slots (pc + 3) L1 st w) : ZJ z p l e R s m args below meth c Q cells slots pc L st w := fun H locs ls hR hS hL => lv_iinc (lv := (i, .int x) :: zlv L) C.ex C.cd hdg ⟨hL.1, hL.2.1, fun q hq => (List.mem_cons.mp hq).elim (fun h => by rw [h]; exact (hL.2.2 _ _ hl).1) (fun h => hL.has.2.2 q h)⟩ (k := 0) rfl hv (List.getElem?_eq_some_iff.mp hl).1 rfl (fun ls2 hh => kk H locs ls2 hR hS (hset ▸ hL.set rfl hh List.mem_cons_self (fun j y e hc hj => List.mem_cons_of_mem _ (List.mem_filter.mpr ⟨List.mem_cons_of_mem _ (zlv_mem.mpr hj), by simp [hc, e]⟩))))
theorem z_iadd (C : zC z p l s m args meth c cc own nL) {x y : Int32} (hdg : decode cc pc = .ok (.iadd, 1))  (kk : ZJ z p l e R s m args below meth c Q cells slots (pc + 1) L (.int (x + y) :: st) w) : ZJ z p l e R s m args below meth c Q cells slots pc L (.int y :: .int x :: st) w := fun H locs ls hR hS hL => lv_iadd C.ex C.cd hdg (kk H locs ls hR hS hL)
theorem z_isub (C : zC z p l s m args meth c cc own nL) {x y : Int32} (hdg : decode cc pc = .ok (.isub, 1))  (kk : ZJ z p l e R s m args below meth c Q cells slots (pc + 1) L (.int (x - y) :: st) w) : ZJ z p l e R s m args below meth c Q cells slots pc L (.int y :: .int x :: st) w := fun H locs ls hR hS hL => lv_isub C.ex C.cd hdg (kk H locs ls hR hS hL)
theorem z_iand (C : zC z p l s m args meth c cc own nL) {x y : Int32} (hdg : decode cc pc = .ok (.iand, 1))  (kk : ZJ z p l e R s m args below meth c Q cells slots (pc + 1) L (.int (x &&& y) :: st) w) : ZJ z p l e R s m args below meth c Q cells slots pc L (.int y :: .int x :: st) w := fun H locs ls hR hS hL => lv_iand C.ex C.cd hdg (kk H locs ls hR hS hL)
theorem z_ixor (C : zC z p l s m args meth c cc own nL) {x y : Int32} (hdg : decode cc pc = .ok (.ixor, 1))  (kk : ZJ z p l e R s m args below meth c Q cells slots (pc + 1) L (.int (x ^^^ y) :: st) w) : ZJ z p l e R s m args below meth c Q cells slots pc L (.int y :: .int x :: st) w := fun H locs ls hR hS hL => lv_ixor C.ex C.cd hdg (kk H locs ls hR hS hL)
theorem z_ishl (C : zC z p l s m args meth c cc own nL) {x y : Int32} (hdg : decode cc pc = .ok (.ishl, 1))  (kk : ZJ z p l e R s m args below meth c Q cells slots (pc + 1) L (.int (x <<< (y &&& 31)) :: st) w) : ZJ z p l e R s m args below meth c Q cells slots pc L (.int y :: .int x :: st) w := fun H locs ls hR hS hL => lv_ishl C.ex C.cd hdg (kk H locs ls hR hS hL)
theorem z_ishr (C : zC z p l s m args meth c cc own nL) {x y : Int32} (hdg : decode cc pc = .ok (.ishr, 1))  (kk : ZJ z p l e R s m args below meth c Q cells slots (pc + 1) L (.int (x >>> (y &&& 31)) :: st) w) : ZJ z p l e R s m args below meth c Q cells slots pc L (.int y :: .int x :: st) w := fun H locs ls hR hS hL => lv_ishr C.ex C.cd hdg (kk H locs ls hR hS hL)
theorem z_i2l (C : zC z p l s m args meth c cc own nL) {x : Int32} (hdg : decode cc pc = .ok (.i2l, 1))  (kk : ZJ z p l e R s m args below meth c Q cells slots (pc + 1) L (.long x.toInt64 :: st) w) : ZJ z p l e R s m args below meth c Q cells slots pc L (.int x :: st) w := fun H locs ls hR hS hL => lv_i2l C.ex C.cd hdg rfl (kk H locs ls hR hS hL)
theorem z_dup (C : zC z p l s m args meth c cc own nL) {va : Value} (hdg : decode cc pc = .ok (.dup, 1)) (hva : va.category = 1) (kk : ZJ z p l e R s m args below meth c Q cells slots (pc + 1) L (va :: va :: st) w) : ZJ z p l e R s m args below meth c Q cells slots pc L (va :: st) w := fun H locs ls hR hS hL => lv_dup C.ex C.cd hdg hva (kk H locs ls hR hS hL)
theorem z_pop (C : zC z p l s m args meth c cc own nL) {va : Value} (hdg : decode cc pc = .ok (.pop, 1)) (hva : va.category = 1) (kk : ZJ z p l e R s m args below meth c Q cells slots (pc + 1) L st w) : ZJ z p l e R s m args below meth c Q cells slots pc L (va :: st) w := fun H locs ls hR hS hL => lv_pop C.ex C.cd hdg hva (kk H locs ls hR hS hL)
theorem z_dup2 (C : zC z p l s m args meth c cc own nL) {va vb : Value} (hdg : decode cc pc = .ok (.dup2, 1)) (hva : va.category = 1) (hvb : vb.category = 1) (kk : ZJ z p l e R s m args below meth c Q cells slots (pc + 1) L (va :: vb :: va :: vb :: st) w) : ZJ z p l e R s m args below meth c Q cells slots pc L (va :: vb :: st) w := fun H locs ls hR hS hL => lv_dup2_11 C.ex C.cd hdg hva hvb (kk H locs ls hR hS hL)
theorem z_dup_x1 (C : zC z p l s m args meth c cc own nL) {va vb : Value} (hdg : decode cc pc = .ok (.dup_x1, 1)) (hva : va.category = 1) (hvb : vb.category = 1) (kk : ZJ z p l e R s m args below meth c Q cells slots (pc + 1) L (va :: vb :: va :: st) w) : ZJ z p l e R s m args below meth c Q cells slots pc L (va :: vb :: st) w := fun H locs ls hR hS hL => lv_dup_x1 C.ex C.cd hdg hva hvb (kk H locs ls hR hS hL)
theorem z_goto (C : zC z p l s m args meth c cc own nL) {off : Int} (tgt : Nat) (hdg : decode cc pc = .ok (.goto off, 3)) (ht : (pc : Int) + off = (tgt : Int)) (kk : ZJ z p l e R s m args below meth c Q cells slots tgt L st w) : ZJ z p l e R s m args below meth c Q cells slots pc L st w := fun H locs ls hR hS hL => lv_goto C.ex C.cd hdg ht (kk H locs ls hR hS hL)
theorem z_if_eq (C : zC z p l s m args meth c cc own nL) {x : Int32} {off : Int} (tgt : Nat) (hdg : decode cc pc = .ok (.ifCond .eq off, 3)) (ht : (pc : Int) + off = (tgt : Int)) (kt : x = 0 → ZJ z p l e R s m args below meth c Q cells slots tgt L st w) (kf : ¬ x = 0 → ZJ z p l e R s m args below meth c Q cells slots (pc + 3) L st w) : ZJ z p l e R s m args below meth c Q cells slots pc L (.int x :: st) w := fun H locs ls hR hS hL => lv_if_eq C.ex C.cd hdg ht (fun q => kt q H locs ls hR hS hL) (fun q => kf q H locs ls hR hS hL)
theorem z_if_ne (C : zC z p l s m args meth c cc own nL) {x : Int32} {off : Int} (tgt : Nat) (hdg : decode cc pc = .ok (.ifCond .ne off, 3)) (ht : (pc : Int) + off = (tgt : Int)) (kt : ¬ x = 0 → ZJ z p l e R s m args below meth c Q cells slots tgt L st w) (kf : x = 0 → ZJ z p l e R s m args below meth c Q cells slots (pc + 3) L st w) : ZJ z p l e R s m args below meth c Q cells slots pc L (.int x :: st) w := fun H locs ls hR hS hL => lv_if_ne C.ex C.cd hdg ht (fun q => kt q H locs ls hR hS hL) (fun q => kf q H locs ls hR hS hL)
theorem z_if_lt (C : zC z p l s m args meth c cc own nL) {x : Int32} {off : Int} (tgt : Nat) (hdg : decode cc pc = .ok (.ifCond .lt off, 3)) (ht : (pc : Int) + off = (tgt : Int)) (kt : x < 0 → ZJ z p l e R s m args below meth c Q cells slots tgt L st w) (kf : ¬ x < 0 → ZJ z p l e R s m args below meth c Q cells slots (pc + 3) L st w) : ZJ z p l e R s m args below meth c Q cells slots pc L (.int x :: st) w := fun H locs ls hR hS hL => lv_if_lt C.ex C.cd hdg ht (fun q => kt q H locs ls hR hS hL) (fun q => kf q H locs ls hR hS hL)
theorem z_if_ge (C : zC z p l s m args meth c cc own nL) {x : Int32} {off : Int} (tgt : Nat) (hdg : decode cc pc = .ok (.ifCond .ge off, 3)) (ht : (pc : Int) + off = (tgt : Int)) (kt : 0 ≤ x → ZJ z p l e R s m args below meth c Q cells slots tgt L st w) (kf : ¬ 0 ≤ x → ZJ z p l e R s m args below meth c Q cells slots (pc + 3) L st w) : ZJ z p l e R s m args below meth c Q cells slots pc L (.int x :: st) w := fun H locs ls hR hS hL => lv_if_ge C.ex C.cd hdg ht (fun q => kt q H locs ls hR hS hL) (fun q => kf q H locs ls hR hS hL)
theorem z_if_gt (C : zC z p l s m args meth c cc own nL) {x : Int32} {off : Int} (tgt : Nat) (hdg : decode cc pc = .ok (.ifCond .gt off, 3)) (ht : (pc : Int) + off = (tgt : Int)) (kt : 0 < x → ZJ z p l e R s m args below meth c Q cells slots tgt L st w) (kf : ¬ 0 < x → ZJ z p l e R s m args below meth c Q cells slots (pc + 3) L st w) : ZJ z p l e R s m args below meth c Q cells slots pc L (.int x :: st) w := fun H locs ls hR hS hL => lv_if_gt C.ex C.cd hdg ht (fun q => kt q H locs ls hR hS hL) (fun q => kf q H locs ls hR hS hL)
theorem z_if_le (C : zC z p l s m args meth c cc own nL) {x : Int32} {off : Int} (tgt : Nat) (hdg : decode cc pc = .ok (.ifCond .le off, 3)) (ht : (pc : Int) + off = (tgt : Int)) (kt : x ≤ 0 → ZJ z p l e R s m args below meth c Q cells slots tgt L st w) (kf : ¬ x ≤ 0 → ZJ z p l e R s m args below meth c Q cells slots (pc + 3) L st w) : ZJ z p l e R s m args below meth c Q cells slots pc L (.int x :: st) w := fun H locs ls hR hS hL => lv_if_le C.ex C.cd hdg ht (fun q => kt q H locs ls hR hS hL) (fun q => kf q H locs ls hR hS hL)
theorem z_icmp_eq (C : zC z p l s m args meth c cc own nL) {x y : Int32} {off : Int} (tgt : Nat) (hdg : decode cc pc = .ok (.if_icmp .eq off, 3)) (ht : (pc : Int) + off = (tgt : Int)) (kt : x = y → ZJ z p l e R s m args below meth c Q cells slots tgt L st w) (kf : ¬ x = y → ZJ z p l e R s m args below meth c Q cells slots (pc + 3) L st w) : ZJ z p l e R s m args below meth c Q cells slots pc L (.int y :: .int x :: st) w := fun H locs ls hR hS hL => lv_icmp_eq C.ex C.cd hdg ht (fun q => kt q H locs ls hR hS hL) (fun q => kf q H locs ls hR hS hL)
theorem z_icmp_ne (C : zC z p l s m args meth c cc own nL) {x y : Int32} {off : Int} (tgt : Nat) (hdg : decode cc pc = .ok (.if_icmp .ne off, 3)) (ht : (pc : Int) + off = (tgt : Int)) (kt : ¬ x = y → ZJ z p l e R s m args below meth c Q cells slots tgt L st w) (kf : x = y → ZJ z p l e R s m args below meth c Q cells slots (pc + 3) L st w) : ZJ z p l e R s m args below meth c Q cells slots pc L (.int y :: .int x :: st) w := fun H locs ls hR hS hL => lv_icmp_ne C.ex C.cd hdg ht (fun q => kt q H locs ls hR hS hL) (fun q => kf q H locs ls hR hS hL)
theorem z_icmp_lt (C : zC z p l s m args meth c cc own nL) {x y : Int32} {off : Int} (tgt : Nat) (hdg : decode cc pc = .ok (.if_icmp .lt off, 3)) (ht : (pc : Int) + off = (tgt : Int)) (kt : x < y → ZJ z p l e R s m args below meth c Q cells slots tgt L st w) (kf : ¬ x < y → ZJ z p l e R s m args below meth c Q cells slots (pc + 3) L st w) : ZJ z p l e R s m args below meth c Q cells slots pc L (.int y :: .int x :: st) w := fun H locs ls hR hS hL => lv_icmp_lt C.ex C.cd hdg ht (fun q => kt q H locs ls hR hS hL) (fun q => kf q H locs ls hR hS hL)
theorem z_icmp_ge (C : zC z p l s m args meth c cc own nL) {x y : Int32} {off : Int} (tgt : Nat) (hdg : decode cc pc = .ok (.if_icmp .ge off, 3)) (ht : (pc : Int) + off = (tgt : Int)) (kt : y ≤ x → ZJ z p l e R s m args below meth c Q cells slots tgt L st w) (kf : ¬ y ≤ x → ZJ z p l e R s m args below meth c Q cells slots (pc + 3) L st w) : ZJ z p l e R s m args below meth c Q cells slots pc L (.int y :: .int x :: st) w := fun H locs ls hR hS hL => lv_icmp_ge C.ex C.cd hdg ht (fun q => kt q H locs ls hR hS hL) (fun q => kf q H locs ls hR hS hL)
theorem z_icmp_gt (C : zC z p l s m args meth c cc own nL) {x y : Int32} {off : Int} (tgt : Nat) (hdg : decode cc pc = .ok (.if_icmp .gt off, 3)) (ht : (pc : Int) + off = (tgt : Int)) (kt : y < x → ZJ z p l e R s m args below meth c Q cells slots tgt L st w) (kf : ¬ y < x → ZJ z p l e R s m args below meth c Q cells slots (pc + 3) L st w) : ZJ z p l e R s m args below meth c Q cells slots pc L (.int y :: .int x :: st) w := fun H locs ls hR hS hL => lv_icmp_gt C.ex C.cd hdg ht (fun q => kt q H locs ls hR hS hL) (fun q => kf q H locs ls hR hS hL)
theorem z_icmp_le (C : zC z p l s m args meth c cc own nL) {x y : Int32} {off : Int} (tgt : Nat) (hdg : decode cc pc = .ok (.if_icmp .le off, 3)) (ht : (pc : Int) + off = (tgt : Int)) (kt : x ≤ y → ZJ z p l e R s m args below meth c Q cells slots tgt L st w) (kf : ¬ x ≤ y → ZJ z p l e R s m args below meth c Q cells slots (pc + 3) L st w) : ZJ z p l e R s m args below meth c Q cells slots pc L (.int y :: .int x :: st) w := fun H locs ls hR hS hL => lv_icmp_le C.ex C.cd hdg ht (fun q => kt q H locs ls hR hS hL) (fun q => kf q H locs ls hR hS hL)
theorem z_acmp_eq (C : zC z p l s m args meth c cc own nL) {x y : Nat} {off : Int} (tgt : Nat) (hdg : decode cc pc = .ok (.if_acmp .eq off, 3)) (ht : (pc : Int) + off = (tgt : Int)) (kt : x = y → ZJ z p l e R s m args below meth c Q cells slots tgt L st w) (kf : ¬ x = y → ZJ z p l e R s m args below meth c Q cells slots (pc + 3) L st w) : ZJ z p l e R s m args below meth c Q cells slots pc L (.ref y :: .ref x :: st) w := fun H locs ls hR hS hL => lv_acmp_eq (rx := some x) (ry := some y) C.ex C.cd hdg ht (fun q => kt (Option.some.inj q) H locs ls hR hS hL) (fun q => kf (fun h => q (by rw [h])) H locs ls hR hS hL)
theorem z_acmp_ne (C : zC z p l s m args meth c cc own nL) {x y : Nat} {off : Int} (tgt : Nat) (hdg : decode cc pc = .ok (.if_acmp .ne off, 3)) (ht : (pc : Int) + off = (tgt : Int)) (kt : ¬ x = y → ZJ z p l e R s m args below meth c Q cells slots tgt L st w) (kf : x = y → ZJ z p l e R s m args below meth c Q cells slots (pc + 3) L st w) : ZJ z p l e R s m args below meth c Q cells slots pc L (.ref y :: .ref x :: st) w := fun H locs ls hR hS hL => lv_acmp_ne (rx := some x) (ry := some y) C.ex C.cd hdg ht (fun q => kt (fun h => q (by rw [h])) H locs ls hR hS hL) (fun q => kf (Option.some.inj q) H locs ls hR hS hL)
theorem z_lcmp (C : zC z p l s m args meth c cc own nL) {x y : Int64} (hdg : decode cc pc = .ok (.lcmp, 1)) (kk : ZJ z p l e R s m args below meth c Q cells slots (pc + 1) L (.int (lg_cmp x y) :: st) w) : ZJ z p l e R s m args below meth c Q cells slots pc L (.long y :: .long x :: st) w := fun H locs ls hR hS hL => W.lcmp C.ex C.cd hdg (kk H locs ls hR hS hL)
theorem z_widen {c2 s2 : Nat} (h1 : cells ≤ c2) (h2 : slots ≤ s2) (kk : ZJ z p l e R s m args below meth c Q c2 s2 pc L st w) : ZJ z p l e R s m args below meth c Q cells slots pc L st w := fun H locs ls hR hS hL => W.widen h1 h2 (kk H locs ls hR hS hL)
theorem z_inj (kk : (∀ (j k : Nat) (p q : zE), w j = some p → w k = some q → p.1 = q.1 → j = k) → ZJ z p l e R s m args below meth c Q cells slots pc L st w) : ZJ z p l e R s m args below meth c Q cells slots pc L st w := fun H locs ls hR hS hL => kk hR.choose_spec.2.2.2 H locs ls hR hS hL
theorem z_sub {w2 : zW} (g : Nat → Nat) (hg : ∀ (k : Nat) (q : zE), w2 k = some q → w (g k) = some q) (hi : ∀ (j k : Nat) (p q : zE), w2 j = some p → w2 k = some q → g j = g k → j = k) (kk : ZJ z p l e R s m args below meth c Q cells slots pc L st w2) : ZJ z p l e R s m args below meth c Q cells slots pc L st w := fun H locs ls hR hS hL => kk H locs ls (hR.sub g hg hi) hS hL
/-- cells at other addresses than the shared empty row, and all are new -/
theorem z_new {k : Nat} {q : zE} (hk : w k = some q) (kk : z.1 ≤ q.1 → ZJ z p l e R s m args below meth c Q cells slots pc L st w) : ZJ z p l e R s m args below meth c Q cells slots pc L st w := fun H locs ls hR hS hL => by
  refine kk ?_ H locs ls hR hS hL
  obtain ⟨ws, hP, hD, hin, hinj⟩ := hR
  obtain ⟨i, hi⟩ := hin _ _ hk
  exact hD.2 i _ hi
/-- a field, by the place of its name in the pool of constants -/
def zFL (own : String) (index : Nat) (ref : String) (ci k : Nat) (Cn : String) (T : u_T) (N : Nat) : Prop := vwCl[ci]? = some (Cn, T, N) ∧ k < N ∧ (∀ w ∈ u_ws Cn T N, w ∈ lwG) ∧ Cond.fieldLink own index ref (T k).2.1 (T k).2.2.1 ∈ lwG ∧ ((T k).1 = ref ∨ Cond.sameField ref (T k).1 (T k).2.1 (T k).2.2.1 ∈ lwG)
theorem zFL.same {index ci k N : Nat} {ref Cn : String} {T : u_T} (F : zFL own index ref ci k Cn T N) (ht : ∀ w ∈ lwG, w.before args s = true) : ∀ x, s.fieldFound? (T k).1 (T k).2.1 (T k).2.2.1 = some x → s.fieldFound? ref (T k).2.1 (T k).2.2.1 = some x := by
  intro x hx
  rcases F.2.2.2.2 with h | h
  · rw [← h]; exact hx
  · exact u_same (ht _ h) x hx
/-- .. that may be written -/
def zFP (own : String) (index : Nat) (ref : String) (ci k : Nat) (Cn : String) (T : u_T) (N : Nat) (ty : FieldType) (fin : Bool) : Prop := zFL own index ref ci k Cn T N ∧ (∃ ty0 : Nat → FieldType, ∀ k, k < N → parseFieldDescriptor (T k).2.2.1 = some (ty0 k)) ∧ (∀ a, a < N → ∀ b, b < N → a ≠ b → (T a).2.1 ≠ (T b).2.1) ∧ (T k).2.2.2 = fin ∧ parseFieldDescriptor (T k).2.2.1 = some ty
theorem z_getf (C : zC z p l s m args meth c cc own nL) {index ci k N k0 a : Nat} {ref Cn : String} {T : u_T} {fs : List Value} {v : Value} (F : zFL own index ref ci k Cn T N) (hdg : decode cc pc = .ok (.getfield index, 3)) (hk : w k0 = some (a, .inr (ci, fs))) (hv : fs[k]? = some v) (kk : ZJ z p l e R s m args below meth c Q cells slots (pc + 3) L (v :: st) w) : ZJ z p l e R s m args below meth c Q cells slots pc L (.ref a :: st) w := by
  intro H locs ls hR hS hL
  obtain ⟨ws, hP, hD, hin, hinj⟩ := id hR
  obtain ⟨i, hi⟩ := hin _ _ hk
  exact va_get (T := T) (N := N) C.ex C.cd C.ts F.2.2.1 C.ow C.K hP i hi F.1 k F.2.1 (C.ts _ F.2.2.2.1) (F.same C.ts) hv hdg (kk H locs ls hR hS hL)
theorem z_putf (C : zC z p l s m args meth c cc own nL) {index ci k N k0 a : Nat} {ref Cn : String} {T : u_T} {ty : FieldType} {fs fs1 : List Value} {v : Value} (F : zFP own index ref ci k Cn T N ty false) (hdg : decode cc pc = .ok (.putfield index, 3)) (hk : w k0 = some (a, .inr (ci, fs))) (hn : narrow ty v = v) (hfit : fits ty v = true) (hl : k < fs.length) (hset : fs.set k v = fs1) (kk : ZJ z p l e R s m args below meth c Q cells slots (pc + 3) L st (va_up w k0 (some (a, .inr (ci, fs1))))) : ZJ z p l e R s m args below meth c Q cells slots pc L (v :: .ref a :: st) w := by
  intro H locs ls hR hS hL
  subst hset
  obtain ⟨ws, hP, hD, hin, hinj⟩ := hR
  obtain ⟨i, hi⟩ := hin _ _ hk
  obtain ⟨F1, ⟨ty0, hty⟩, hnm, hfin, hd⟩ := F
  exact va_put (T := T) (N := N) C.ex C.cd C.ts F1.2.2.1 ty0 hty hnm C.ow C.K hP hD hS i hi F1.1 k F1.2.1 (C.ts _ F1.2.2.2.1) (F1.same C.ts) hfin hd hn hfit hl hdg (fun H1 locs1 hP1 hD1 hS1 => kk H1 locs1 ls (ZR.put hP1 hD1 hin hinj hi hk) hS1 hL)
theorem z_putF (C : zC z p l s m args meth c cc own nL) {index ci k N k0 a : Nat} {ref Cn : String} {T : u_T} {ty : FieldType} {fs fs1 : List Value} {v : Value} (F : zFP own index ref ci k Cn T N ty true) (hin2 : meth.name = "<init>") (hdecl : (T k).1 = own) (hdg : decode cc pc = .ok (.putfield index, 3)) (hk : w k0 = some (a, .inr (ci, fs))) (hn : narrow ty v = v) (hfit : fits ty v = true) (hl : k < fs.length) (hset : fs.set k v = fs1) (kk : ZJ z p l e R s m args below meth c Q cells slots (pc + 3) L st (va_up w k0 (some (a, .inr (ci, fs1))))) : ZJ z p l e R s m args below meth c Q cells slots pc L (v :: .ref a :: st) w := by
  intro H locs ls hR hS hL
  subst hset
  obtain ⟨ws, hP, hD, hin, hinj⟩ := hR
  obtain ⟨i, hi⟩ := hin _ _ hk
  obtain ⟨F1, ⟨ty0, hty⟩, hnm, hfin, hd⟩ := F
  exact va_putF (T := T) (N := N) C.ex C.cd C.ts F1.2.2.1 ty0 hty hnm C.ow C.K hP hD hS i hi F1.1 k F1.2.1 (C.ts _ F1.2.2.2.1) (F1.same C.ts) hfin hin2 hdecl hd hn hfit hl hdg (fun H1 locs1 hP1 hD1 hS1 => kk H1 locs1 ls (ZR.put hP1 hD1 hin hinj hi hk) hS1 hL)
theorem z_iald (C : zC z p l s m args meth c cc own nL) {k0 a n j : Nat} {x : Int32} {f : Nat →  Int32} (hdg : decode cc pc = .ok (.iaload, 1)) (hk : w k0 = some (a, .inl (z.2.2.1 0, n, .inl f))) (hx : x = nI j) (hj : j < n) (hn : n < 2 ^ 31) (kk : ZJ z p l e R s m args below meth c Q cells slots (pc + 1) L (.int (f j) :: st) w) : ZJ z p l e R s m args below meth c Q cells slots pc L (.int x :: .ref a :: st) w := by
  intro H locs ls hR hS hL
  subst hx
  obtain ⟨ws, hP, hD, hin, hinj⟩ := id hR
  obtain ⟨i, hi⟩ := hin _ _ hk
  refine va_iald C.ex C.cd C.K hP i 0 hi rfl (vp_in_nI hj hn) hdg ?_
  rw [nI_clamp (Nat.lt_trans hj hn)]
  exact kk H locs ls hR hS hL
theorem z_zald (C : zC z p l s m args meth c cc own nL) {k0 a n j : Nat} {x : Int32} {f : Nat →  Int32} (hdg : decode cc pc = .ok (.baload, 1)) (hk : w k0 = some (a, .inl (z.2.2.1 1, n, .inl f))) (hx : x = nI j) (hj : j < n) (hn : n < 2 ^ 31) (kk : ZJ z p l e R s m args below meth c Q cells slots (pc + 1) L (.int (f j) :: st) w) : ZJ z p l e R s m args below meth c Q cells slots pc L (.int x :: .ref a :: st) w := by
  intro H locs ls hR hS hL
  subst hx
  obtain ⟨ws, hP, hD, hin, hinj⟩ := id hR
  obtain ⟨i, hi⟩ := hin _ _ hk
  refine va_zald C.ex C.cd C.K hP i 1 hi rfl (vp_in_nI hj hn) hdg ?_
  rw [nI_clamp (Nat.lt_trans hj hn)]
  exact kk H locs ls hR hS hL
theorem z_lald (C : zC z p l s m args meth c cc own nL) {k0 a n j : Nat} {x : Int32} {f : Nat →  Int64} (hdg : decode cc pc = .ok (.laload, 1)) (hk : w k0 = some (a, .inl (z.2.2.1 3, n, .inr (.inl f)))) (hx : x = nI j) (hj : j < n) (hn : n < 2 ^ 31) (kk : ZJ z p l e R s m args below meth c Q cells slots (pc + 1) L (.long (f j) :: st) w) : ZJ z p l e R s m args below meth c Q cells slots pc L (.int x :: .ref a :: st) w := by
  intro H locs ls hR hS hL
  subst hx
  obtain ⟨ws, hP, hD, hin, hinj⟩ := id hR
  obtain ⟨i, hi⟩ := hin _ _ hk
  refine va_lald C.ex C.cd C.K hP i 3 hi rfl (vp_in_nI hj hn) hdg ?_
  rw [nI_clamp (Nat.lt_trans hj hn)]
  exact kk H locs ls hR hS hL
theorem z_aald (C : zC z p l s m args meth c cc own nL) {k0 a n j : Nat} {x : Int32} {f : Nat →  Option Nat} (hdg : decode cc pc = .ok (.aaload, 1)) (hk : w k0 = some (a, .inl (z.2.2.1 2, n, .inr (.inr (.inr (.inr f)))))) (hx : x = nI j) (hj : j < n) (hn : n < 2 ^ 31) (kk : ZJ z p l e R s m args below meth c Q cells slots (pc + 1) L (va_rf (f j) :: st) w) : ZJ z p l e R s m args below meth c Q cells slots pc L (.int x :: .ref a :: st) w := by
  intro H locs ls hR hS hL
  subst hx
  obtain ⟨ws, hP, hD, hin, hinj⟩ := id hR
  obtain ⟨i, hi⟩ := hin _ _ hk
  refine va_aldq C.ex C.cd C.K hP i 2 hi rfl (vp_in_nI hj hn) hdg ?_
  rw [nI_clamp (Nat.lt_trans hj hn)]
  exact kk H locs ls hR hS hL
theorem z_iast (C : zC z p l s m args meth c cc own nL) {k0 a n j : Nat} {x : Int32} {v : Int32} {f : Nat → Int32} (hdg : decode cc pc = .ok (.iastore, 1)) (hk : w k0 = some (a, .inl (z.2.2.1 0, n, .inl f))) (hx : x = nI j) (hj : j < n) (hn : n < 2 ^ 31)  (kk : ZJ z p l e R s m args below meth c Q cells slots (pc + 1) L st (va_up w k0 (some (a, .inl (z.2.2.1 0, n, .inl (va_up f j v)))))) : ZJ z p l e R s m args below meth c Q cells slots pc L (.int v :: .int x :: .ref a :: st) w := by
  intro H locs ls hR hS hL
  subst hx
  obtain ⟨ws, hP, hD, hin, hinj⟩ := hR
  obtain ⟨i, hi⟩ := hin _ _ hk
  refine va_iast C.ex C.cd C.K hP hD hS i 0 hi rfl (vp_in_nI hj hn) hdg (fun H1 locs1 hP1 hD1 hS1 => ?_)
  rw [nI_clamp (Nat.lt_trans hj hn)] at hP1 hD1
  exact kk H1 locs1 ls (ZR.put hP1 hD1 hin hinj hi hk) hS1 hL
theorem z_zast (C : zC z p l s m args meth c cc own nL) {k0 a n j : Nat} {x : Int32} {v : Int32} {f : Nat → Int32} (hdg : decode cc pc = .ok (.bastore, 1)) (hk : w k0 = some (a, .inl (z.2.2.1 1, n, .inl f))) (hx : x = nI j) (hj : j < n) (hn : n < 2 ^ 31) (hb : vp_nar .boolean v = v) (kk : ZJ z p l e R s m args below meth c Q cells slots (pc + 1) L st (va_up w k0 (some (a, .inl (z.2.2.1 1, n, .inl (va_up f j v)))))) : ZJ z p l e R s m args below meth c Q cells slots pc L (.int v :: .int x :: .ref a :: st) w := by
  intro H locs ls hR hS hL
  subst hx
  obtain ⟨ws, hP, hD, hin, hinj⟩ := hR
  obtain ⟨i, hi⟩ := hin _ _ hk
  refine va_zast C.ex C.cd C.K hP hD hS i 1 hi rfl (vp_in_nI hj hn) hdg (fun H1 locs1 hP1 hD1 hS1 => ?_)
  rw [nI_clamp (Nat.lt_trans hj hn), hb] at hP1 hD1
  exact kk H1 locs1 ls (ZR.put hP1 hD1 hin hinj hi hk) hS1 hL
theorem z_last (C : zC z p l s m args meth c cc own nL) {k0 a n j : Nat} {x : Int32} {v : Int64} {f : Nat → Int64} (hdg : decode cc pc = .ok (.lastore, 1)) (hk : w k0 = some (a, .inl (z.2.2.1 3, n, .inr (.inl f)))) (hx : x = nI j) (hj : j < n) (hn : n < 2 ^ 31)  (kk : ZJ z p l e R s m args below meth c Q cells slots (pc + 1) L st (va_up w k0 (some (a, .inl (z.2.2.1 3, n, .inr (.inl (va_up f j v))))))) : ZJ z p l e R s m args below meth c Q cells slots pc L (.long v :: .int x :: .ref a :: st) w := by
  intro H locs ls hR hS hL
  subst hx
  obtain ⟨ws, hP, hD, hin, hinj⟩ := hR
  obtain ⟨i, hi⟩ := hin _ _ hk
  refine va_last C.ex C.cd C.K hP hD hS i 3 hi rfl (vp_in_nI hj hn) hdg (fun H1 locs1 hP1 hD1 hS1 => ?_)
  rw [nI_clamp (Nat.lt_trans hj hn)] at hP1 hD1
  exact kk H1 locs1 ls (ZR.put hP1 hD1 hin hinj hi hk) hS1 hL
theorem z_aast (C : zC z p l s m args meth c cc own nL) {k0 k1 a n j b : Nat} {x : Int32} {vs : List Value} {f : Nat → Option Nat} (hdg : decode cc pc = .ok (.aastore, 1)) (hk : w k0 = some (a, .inl (z.2.2.1 2, n, .inr (.inr (.inr (.inr f)))))) (hv : w k1 = some (b, .inr (2, vs))) (hx : x = nI j) (hj : j < n) (hn : n < 2 ^ 31) (kk : ZJ z p l e R s m args below meth c Q cells slots (pc + 1) L st (va_up w k0 (some (a, .inl (z.2.2.1 2, n, .inr (.inr (.inr (.inr (va_up f j (some b)))))))))) : ZJ z p l e R s m args below meth c Q cells slots pc L (.ref b :: .int x :: .ref a :: st) w := by
  intro H locs ls hR hS hL
  subst hx
  obtain ⟨ws, hP, hD, hin, hinj⟩ := hR
  obtain ⟨i, hi⟩ := hin _ _ hk
  obtain ⟨i2, hi2⟩ := hin _ _ hv
  refine va_astqO (E := "java/lang/Object") (r := (RX1, TX1, 10)) C.ex C.cd C.K hP hD hS i 2 i2 2 hi rfl (C.X.2.2.2.2.2.2.1 (RX1, "java/lang/Object") (by decide +kernel)) hi2 rfl (vp_in_nI hj hn) hdg (fun H1 locs1 hP1 hD1 hS1 => ?_)
  rw [nI_clamp (Nat.lt_trans hj hn)] at hP1 hD1
  exact kk H1 locs1 ls (ZR.put hP1 hD1 hin hinj hi hk) hS1 hL
theorem z_aastN (C : zC z p l s m args meth c cc own nL) {k0 a n j : Nat} {x : Int32} {f : Nat → Option Nat} (hdg : decode cc pc = .ok (.aastore, 1)) (hk : w k0 = some (a, .inl (z.2.2.1 2, n, .inr (.inr (.inr (.inr f)))))) (hx : x = nI j) (hj : j < n) (hn : n < 2 ^ 31) (kk : ZJ z p l e R s m args below meth c Q cells slots (pc + 1) L st (va_up w k0 (some (a, .inl (z.2.2.1 2, n, .inr (.inr (.inr (.inr (va_up f j none))))))))) : ZJ z p l e R s m args below meth c Q cells slots pc L (.null :: .int x :: .ref a :: st) w := by
  intro H locs ls hR hS hL
  subst hx
  obtain ⟨ws, hP, hD, hin, hinj⟩ := hR
  obtain ⟨i, hi⟩ := hin _ _ hk
  refine va_astqN (C := "java/lang/Object") C.ex C.cd C.K hP hD hS i 2 hi rfl (vp_in_nI hj hn) hdg (fun H1 locs1 hP1 hD1 hS1 => ?_)
  rw [nI_clamp (Nat.lt_trans hj hn)] at hP1 hD1
  exact kk H1 locs1 ls (ZR.put hP1 hD1 hin hinj hi hk) hS1 hL
theorem z_alen (C : zC z p l s m args meth c cc own nL) {k0 a t : Nat} {x : vp_A} (hdg : decode cc pc = .ok (.arraylength, 1)) (hk : w k0 = some (a, .inl (z.2.2.1 t, x))) (ht : t < 4) (kk : ZJ z p l e R s m args below meth c Q cells slots (pc + 1) L (.int (nI x.1) :: st) w) : ZJ z p l e R s m args below meth c Q cells slots pc L (.ref a :: st) w := by
  intro H locs ls hR hS hL
  obtain ⟨ws, hP, hD, hin, hinj⟩ := id hR
  obtain ⟨i, hi⟩ := hin _ _ hk
  rcases (show t = 0 ∨ t = 1 ∨ t = 2 ∨ t = 3 by omega) with rfl | rfl | rfl | rfl
  · exact va_alen (ty := .int) C.ex C.cd C.K hP i 0 hi rfl rfl hdg (kk H locs ls hR hS hL)
  · exact va_alen (ty := .boolean) C.ex C.cd C.K hP i 1 hi rfl rfl hdg (kk H locs ls hR hS hL)
  · exact va_alen (ty := .object "java/lang/Object") C.ex C.cd C.K hP i 2 hi rfl rfl hdg (kk H locs ls hR hS hL)
  · exact va_alen (ty := .long) C.ex C.cd C.K hP i 3 hi rfl rfl hdg (kk H locs ls hR hS hL)
/-- the length of the shared empty row -/
theorem z_alen0 (C : zC z p l s m args meth c cc own nL) (hdg : decode cc pc = .ok (.arraylength, 1)) (kk : ZJ z p l e R s m args below meth c Q cells slots (pc + 1) L (.int (nI 0) :: st) w) : ZJ z p l e R s m args below meth c Q cells slots pc L (.ref z.2.2.2.1 :: st) w := by
  intro H locs ls hR hS hL
  obtain ⟨fv, h5⟩ := C.X.2.2.2.2.1
  exact va_tlen C.ex C.cd h5 hS rfl hdg (kk H locs ls hR hS hL)
theorem z_gets (C : zC z p l s m args meth c cc own nL) {index : Nat} (hw : Cond.fieldLink own index "java/util/ArrayList" "DEFAULTCAPACITY_EMPTY_ELEMENTDATA" "[Ljava/lang/Object;" ∈ lwG) (hdg : decode cc pc = .ok (.getstatic index, 3)) (kk : ZJ z p l e R s m args below meth c Q cells slots (pc + 3) L (.ref z.2.2.2.1 :: st) w) : ZJ z p l e R s m args below meth c Q cells slots pc L st w := fun H locs ls hR hS hL => va_gets C.ex C.cd C.X.2.2.2.1 hS C.ow (C.ts _ hw) (fun _ h => h) hdg (kk H locs ls hR hS hL)
def zNW (own : String) (index ci : Nat) (Cn : String) (T : u_T) (N : Nat) (ty : Nat → FieldType) : Prop := vwCl[ci]? = some (Cn, T, N) ∧ (∀ w ∈ u_ws Cn T N, w ∈ lwG) ∧ (∀ k, k < N → parseFieldDescriptor (T k).2.2.1 = some (ty k)) ∧ Cond.classLink own index Cn ∈ lwG ∧ Cond.instantiable Cn N ∈ lwG ∧ Cond.initialized Cn ∈ lwG
theorem z_newo (C : zC z p l s m args meth c cc own nL) {index ci N : Nat} {Cn : String} {T : u_T} {ty : Nat → FieldType} (F : zNW own index ci Cn T N ty) (hd : Nat) {fs : List Value} (hfs : ∀ j, j < N → defaultValue (ty j) = vp_V fs j) (hdg : decode cc pc = .ok (.new index, 3)) (hcells : cells + 1 ≤ R.cells) (hslots : slots + N ≤ R.slots) (kk : ∀ q : Nat, (∀ (j : Nat) (x : zE), w j = some x → x.1 ≠ q) → ZJ z p l e R s m args below meth c Q (cells + 1) (slots + N) (pc + 3) L (.ref q :: st) (va_up w hd (some (q, .inr (ci, fs))))) : ZJ z p l e R s m args below meth c Q cells slots pc L st w := by
  intro H locs ls hR hS hL
  obtain ⟨ws, hP, hD, hin, hinj⟩ := hR
  refine va_new (T := T) (N := N) C.ex C.cd C.ts F.2.1 ty F.2.2.1 C.ow (C.ts _ F.2.2.2.1) (C.ts _ F.2.2.2.2.1) (C.ts _ F.2.2.2.2.2) C.K hP hD hS C.A F.1 hfs hcells hslots hdg (fun q H1 hP1 hD1 hS1 => ?_)
  obtain ⟨h1, h2⟩ := ZR.push hd hP1 hD1 hin hinj
  exact kk q h1 H1 locs ls h2 hS1 hL
theorem z_newI (C : zC z p l s m args meth c cc own nL) (hd : Nat) {n : Nat} {x : Int32} (hx : x = nI n) (hn : n ≤ 1000) (hw : Cond.arrayClass .int ∈ lwG) (hdg : decode cc pc = .ok (.newarray .int, 2)) (hcells : cells + 1 ≤ R.cells) (hslots : slots + n ≤ R.slots) (kk : ∀ q : Nat, (∀ (j : Nat) (y : zE), w j = some y → y.1 ≠ q) → ZJ z p l e R s m args below meth c Q (cells + 1) (slots + n) (pc + 2) L (.ref q :: st) (va_up w hd (some (q, .inl (z.2.2.1 0, n, .inl (fun _ => 0)))))) : ZJ z p l e R s m args below meth c Q cells slots pc L (.int x :: st) w := by
  intro H locs ls hR hS hL
  subst hx
  obtain ⟨ws, hP, hD, hin, hinj⟩ := hR
  refine va_newa (atype := .int) (ty := .int) (a0 := (n, .inl (fun _ => 0))) C.ex C.cd (C.ts _ hw) rfl C.K hP hD hS C.A (fun cA => ?_) (nI_pos (by omega)) (nI_clamp (by omega)) ?_ hcells hslots hdg (fun q cA H1 hK1 hP1 hD1 hS1 => ?_)
  · first | (rw [vp_cell_i]; rfl) | (rw [vp_cell_l]; rfl) | rfl
  · show n * _ ≤ _
    refine Nat.le_trans (Nat.mul_le_mul_right _ hn) (by decide)
  · have e1 := (hK1.2 4 _ rfl).2
    have e2 := (hK1.2 0 _ rfl).2
    have e3 : cA = z.2.2.1 0 := Option.some.inj (e1.symm.trans e2)
    subst e3
    obtain ⟨h1, h2⟩ := ZR.push hd hP1 hD1 hin hinj
    exact kk q h1 H1 locs ls h2 hS1 hL
theorem z_newZ (C : zC z p l s m args meth c cc own nL) (hd : Nat) {n : Nat} {x : Int32} (hx : x = nI n) (hn : n ≤ 1000) (hw : Cond.arrayClass .boolean ∈ lwG) (hdg : decode cc pc = .ok (.newarray .boolean, 2)) (hcells : cells + 1 ≤ R.cells) (hslots : slots + n ≤ R.slots) (kk : ∀ q : Nat, (∀ (j : Nat) (y : zE), w j = some y → y.1 ≠ q) → ZJ z p l e R s m args below meth c Q (cells + 1) (slots + n) (pc + 2) L (.ref q :: st) (va_up w hd (some (q, .inl (z.2.2.1 1, n, .inl (fun _ => 0)))))) : ZJ z p l e R s m args below meth c Q cells slots pc L (.int x :: st) w := by
  intro H locs ls hR hS hL
  subst hx
  obtain ⟨ws, hP, hD, hin, hinj⟩ := hR
  refine va_newa (atype := .boolean) (ty := .boolean) (a0 := (n, .inl (fun _ => 0))) C.ex C.cd (C.ts _ hw) rfl C.K hP hD hS C.A (fun cA => ?_) (nI_pos (by omega)) (nI_clamp (by omega)) ?_ hcells hslots hdg (fun q cA H1 hK1 hP1 hD1 hS1 => ?_)
  · first | (rw [vp_cell_i]; rfl) | (rw [vp_cell_l]; rfl) | rfl
  · show n * _ ≤ _
    refine Nat.le_trans (Nat.mul_le_mul_right _ hn) (by decide)
  · have e1 := (hK1.2 4 _ rfl).2
    have e2 := (hK1.2 1 _ rfl).2
    have e3 : cA = z.2.2.1 1 := Option.some.inj (e1.symm.trans e2)
    subst e3
    obtain ⟨h1, h2⟩ := ZR.push hd hP1 hD1 hin hinj
    exact kk q h1 H1 locs ls h2 hS1 hL
theorem z_newL (C : zC z p l s m args meth c cc own nL) (hd : Nat) {n : Nat} {x : Int32} (hx : x = nI n) (hn : n ≤ 1000) (hw : Cond.arrayClass .long ∈ lwG) (hdg : decode cc pc = .ok (.newarray .long, 2)) (hcells : cells + 1 ≤ R.cells) (hslots : slots + n ≤ R.slots) (kk : ∀ q : Nat, (∀ (j : Nat) (y : zE), w j = some y → y.1 ≠ q) → ZJ z p l e R s m args below meth c Q (cells + 1) (slots + n) (pc + 2) L (.ref q :: st) (va_up w hd (some (q, .inl (z.2.2.1 3, n, .inr (.inl (fun _ => 0))))))) : ZJ z p l e R s m args below meth c Q cells slots pc L (.int x :: st) w := by
  intro H locs ls hR hS hL
  subst hx
  obtain ⟨ws, hP, hD, hin, hinj⟩ := hR
  refine va_newa (atype := .long) (ty := .long) (a0 := (n, .inr (.inl (fun _ => 0)))) C.ex C.cd (C.ts _ hw) rfl C.K hP hD hS C.A (fun cA => ?_) (nI_pos (by omega)) (nI_clamp (by omega)) ?_ hcells hslots hdg (fun q cA H1 hK1 hP1 hD1 hS1 => ?_)
  · first | (rw [vp_cell_i]; rfl) | (rw [vp_cell_l]; rfl) | rfl
  · show n * _ ≤ _
    refine Nat.le_trans (Nat.mul_le_mul_right _ hn) (by decide)
  · have e1 := (hK1.2 4 _ rfl).2
    have e2 := (hK1.2 3 _ rfl).2
    have e3 : cA = z.2.2.1 3 := Option.some.inj (e1.symm.trans e2)
    subst e3
    obtain ⟨h1, h2⟩ := ZR.push hd hP1 hD1 hin hinj
    exact kk q h1 H1 locs ls h2 hS1 hL
theorem z_newq (C : zC z p l s m args meth c cc own nL) (hd : Nat) {n index : Nat} {x : Int32} (hx : x = nI n) (hn : n ≤ 1000) (hw : Cond.classLink own index "java/lang/Object" ∈ lwG) (hdg : decode cc pc = .ok (.anewarray index, 3)) (hcells : cells + 1 ≤ R.cells) (hslots : slots + n ≤ R.slots) (kk : ∀ q : Nat, (∀ (j : Nat) (y : zE), w j = some y → y.1 ≠ q) → ZJ z p l e R s m args below meth c Q (cells + 1) (slots + n) (pc + 3) L (.ref q :: st) (va_up w hd (some (q, .inl (z.2.2.1 2, n, .inr (.inr (.inr (.inr (fun _ => none))))))))) : ZJ z p l e R s m args below meth c Q cells slots pc L (.int x :: st) w := by
  intro H locs ls hR hS hL
  subst hx
  obtain ⟨ws, hP, hD, hin, hinj⟩ := hR
  refine va_newq C.ex C.cd C.ow (C.ts _ hw) C.X.2.2.2.2.2.2.2.2.2.1 C.K hP hD hS C.A (nI_pos (by omega)) (nI_clamp (by omega)) (by omega) hcells hslots hdg (fun q cA H1 hK1 hP1 hD1 hS1 => ?_)
  obtain ⟨k1, c1, -, -, -, e1⟩ := (hK1.2 4 _ rfl).2
  obtain ⟨k2, c2, -, -, -, e2⟩ := (hK1.2 2 _ rfl).2
  have e3 : cA = z.2.2.1 2 := Option.some.inj (e1.symm.trans e2)
  subst e3
  obtain ⟨h1, h2⟩ := ZR.push hd hP1 hD1 hin hinj
  exact kk q h1 H1 locs ls h2 hS1 hL
theorem z_castW (C : zC z p l s m args meth c cc own nL) {index k0 a : Nat} {fs : List Value} (hw : Cond.classLink own index "HiringHall$Worker" ∈ lwG) (hdg : decode cc pc = .ok (.checkcast index, 3)) (hk : w k0 = some (a, .inr (2, fs))) (kk : ZJ z p l e R s m args below meth c Q cells slots (pc + 3) L (.ref a :: st) w) : ZJ z p l e R s m args below meth c Q cells slots pc L (.ref a :: st) w := by
  intro H locs ls hR hS hL
  obtain ⟨ws, hP, hD, hin, hinj⟩ := id hR
  obtain ⟨i, hi⟩ := hin _ _ hk
  have hKn := C.K.1 2 _ rfl
  exact va_castS (nm := RX1) C.ex C.cd C.ow (C.ts _ hw) ⟨hKn.2.1, hKn.2.2⟩ (va_recv C.K hP rfl hi) hdg (kk H locs ls hR hS hL)
end ZROWS
