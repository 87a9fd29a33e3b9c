/-! Methods with handlers: their contracts, calls of them, what they catch -/
def ZMH (l : Launch) (z : zT) (M : zMI) (hh : List (Nat × Nat × Nat × Nat)) (k mc ms : Nat) (As : List Value) (w : zW) (Qr : Option Value → zW → Prop) : Prop :=
  vx_Met l M.1 (Cond.codeWith M.1 M.2.1 M.2.2.1 M.2.2.2 hh :: lwG) (zrm k mc ms) (zPc z As w) (zQc z Qr) (zXC z zNo) mc ms (zA z)
section ZHAND
variable {p : Program} {l : Launch} {e : Env} {R : Room} {s : State} {m : MethodId} {args : Array Value} {below : List Frame} {meth : Method} {c : Code} {cells slots : Nat} {Q : State → Prop}
variable {z : zT} {cc : ByteArray} {own : String} {nL : Nat} {pc : Nat} {L : List (Option Value)} {st : List Value} {w : zW}
theorem zbodyH {M : zMI} {hh : List (Nat × Nat × Nat × Nat)} {k mc ms : Nat} {As : List Value} {L0 : List (Option Value)} {Qr : Option Value → zW → Prop} (hl : l.stackTraces = false) (hc : ∀ v ∈ As, v.category = 1) (hn : As.length ≤ M.2.2.1) (hy : plainName M.1.cls = true) (hL0 : As.map some ++ List.replicate (M.2.2.1 - As.length) none = L0)
    (body : ∀ (p : Program) (e : Env) (s : State) (m : MethodId) (args : Array Value) (below : List Frame) (meth : Method) (c : Code), zC z p l s m args meth c M.2.1 M.1.cls M.2.2.1 → c.exceptionTable.toList = tableOf hh → meth.name = M.1.name → meth.sig.returnType = M.2.2.2 →
      ZJ z p l e (zrm k mc ms) s m args below meth c (vx_MQ below (zQc z Qr) (zXC z zNo) args s mc ms (zA z)) 0 0 0 L0 [] w) : ZMH l z M hh k mc ms As w Qr := by
  subst hL0
  refine vx_ofWH hy rfl ?_
  intro p e s m args below meth c s₁ B hml hv
  obtain ⟨rfl, hZX, hsz, hZR⟩ := hv
  have hts := atoms_spec (ws := Cond.codeWith M.1 M.2.1 M.2.2.1 M.2.2.2 hh :: lwG) B.pre
  have hT : c.exceptionTable.toList = tableOf hh := vx_table (x := M.1) B (hts _ List.mem_cons_self)
  have hC : zC z p l s m As.toArray meth c M.2.1 M.1.cls M.2.2.1 := ⟨B.exec, B.bytes, findClass_of_methodNamed B.named, fun w h => hts w (List.mem_cons_of_mem _ h), hZX, hsz, B.notSynchronized, hl, hml⟩
  have h := body p e s m As.toArray below meth c hC hT (name_of_methodNamed B.named B.method).1 B.returns s.heap [] _ hZR va_S.rf (zL.args hc hn rfl)
  rw [lg_entry_eq]
  exact h
/-- caught here -/
theorem z_caught (C : zC z p l s m args meth c cc own nL) {hh : List (Nat × Nat × Nat × Nat)} (ht : c.exceptionTable.toList = tableOf hh) {E : String} (pre : List (Nat × Nat × Nat × Nat)) (x : Nat × Nat × Nat × Nat) (suf : List (Nat × Nat × Nat × Nat)) (hs : hh = pre ++ x :: suf)
    (hpass : ∀ y ∈ pre, y.2.2.2 ≠ 0 ∧ ∃ nm : String, Cond.classLink own y.2.2.2 nm ∈ lwG ∧ (E, nm) ∈ zNot) (hx : x.1 ≤ pc ∧ pc < x.2.1) (h0 : x.2.2.2 ≠ 0) (hl : Cond.classLink own x.2.2.2 E ∈ lwG) (hc : (E, E) ∈ zCast)
    (kk : ∀ q : Nat, ZJ z p l e R s m args below meth c Q cells slots x.2.2.1 L [.ref q] w) : ZXJ z p l e R s m args below meth c Q cells slots pc L st w E := fun H locs ls ce q9 hZ hS hL hce hcv hcl =>
  vx_catch C.ow (tableOf pre) ⟨x.1, x.2.1, x.2.2.1, x.2.2.2⟩ (tableOf suf) (by rw [ht, hs]; simp [tableOf]) (fun v hv => by
    obtain ⟨y, hy, rfl⟩ := List.mem_map.mp hv
    obtain ⟨n3, nm, n1, n2⟩ := hpass y hy
    exact Or.inr ⟨n3, nm, C.ts _ n1, C.X.2.2.2.2.2.2.2.1 _ n2⟩) (by simp only [covers, Bool.and_eq_true, decide_eq_true_eq]; exact hx) h0 (C.ts _ hl) (va_Nw.use rfl (C.X.2.2.2.2.2.2.1 _ hc)) hce hcv hcl (kk q9 H locs ls hZ hS hL)
/-- what the tables say of a static method with handlers -/
def zMH (M : zMI) (hh : List (Nat × Nat × Nat × Nat)) (n : Nat) : Prop := Cond.codeWith M.1 M.2.1 M.2.2.1 M.2.2.2 hh ∈ lwG ∧ Cond.initialized M.1.cls ∈ lwG ∧ Cond.static M.1 ∈ lwG ∧ M.1.cls ≠ "java/lang/invoke/MethodHandle" ∧ M.1.cls ≠ "java/lang/invoke/VarHandle" ∧ (parseMethodDescriptor M.1.desc).map (fun d => d.parameters.length) = some n
theorem z_callSH (C : zC z p l s m args meth c cc own nL) {M : zMI} {hh : List (Nat × Nat × Nat × Nat)} {n index k mc ms : Nat} {As st0 : List Value} {Qy : Option Value → zW → Prop} (V : zMH M hh n) (hl : Cond.methodLink own index M.1 ∈ lwG) (hM : ZMH l z M hh k mc ms As w Qy)
    (hdg : decode cc pc = .ok (.invokestatic index, 3)) (hn : As.length = n) (hst : st0 = As.reverse ++ st) (hW : (st.map fun v => v.category).sum ≤ 8) (hLn : L.length = nL) (hR : k + 1 ≤ R.frames ∧ 8 + (M.2.2.1 + 11) + 26 * k ≤ R.locals) (hf : cells + mc ≤ R.cells ∧ slots + ms ≤ R.slots)
    (kk : ∀ (r : Option Value) (w1 : zW), Qy r w1 → ZJ z p l e R s m args below meth c Q (cells + mc) (slots + ms) (pc + 3) L (zpu r st) w1) : ZJ z p l e R s m args below meth c Q cells slots pc L st0 w := by
  refine z_of_run (a := As.toArray) (fun H locs ls hZ hS hL => ?_) (fun _ _ h => z_xno h) kk
  obtain ⟨v1, v2, v3, v4, v5, v6⟩ := V
  exact vx_runSX (cc := cc) (nL := nL) (own := own) (Ts := lwG) (index := index) (n := n) (bytes := M.2.1) (maxL := M.2.2.1) (ret := M.2.2.2) (hh := hh) ⟨C.ex, C.cd, C.ml, C.ow, C.ts⟩ hM
    (vx_cwSW n C.ts (fun v hv => by
      simp only [va_wsS, List.cons_append, List.nil_append, List.mem_cons] at hv
      rcases hv with rfl | rfl | rfl | rfl | hv
      · exact ⟨hl, good_of_word (lwG_good hl)⟩
      · exact ⟨v3, good_of_word (lwG_good v3)⟩
      · exact ⟨v2, good_of_word (lwG_good v2)⟩
      · exact ⟨v1, good_of_word (lwG_good v1)⟩
      · exact ⟨hv, good_of_word (lwG_good hv)⟩) rfl rfl rfl ⟨v4, v5, v6⟩ hR)
    ⟨zPc.blind, fun U hU hW2 => ⟨rfl, C.X.next hS hU hW2, by rw [hU]; exact Nat.le_trans C.sz hS.1, by rw [hU]; exact hZ⟩⟩ rfl hn (hL.1.trans hLn) hst (lv_room hW) hdg hf
end ZHAND
/-- behind a call of the hall by the law: the code cd, the answer in the row at 40 -/
def zLq (z : zT) (a0 ao nn1 : Nat) (cds : List (String × Int32)) (lv : Int32 → Int64) (o : zAns × zHS) (S : zHS) (r : Option Value) (w w1 : zW) : Prop :=
  ((∃ v : Int32, o.1 = .inr v ∧ r = some (.int 0) ∧ HH z a0 nn1 w1 o.2 ∧ ∃ f : Nat → Int64, w1 40 = some (ao, .inl (z.2.2.1 3, 1, .inr (.inl f))) ∧ f 0 = lv v) ∨
    ∃ (E : String) (cd : Int32), o.1 = .inl E ∧ (E, cd) ∈ cds ∧ r = some (.int cd) ∧ HH z a0 nn1 w1 S ∧ w1 40 = w 40) ∧ ∀ j : Nat, 13 ≤ j → j < 99 → j ≠ 40 → w1 j = w j
theorem HH.up {z : zT} {a0 n n2 : Nat} {w : zW} {S : zHS} (h : HH z a0 n w S) (hn : n ≤ n2) : HH z a0 n2 w S := by
  obtain ⟨ad, tb, tk, W, P, h1, h2, m, h3, h4⟩ := h
  exact ⟨ad, tb, tk, W, P, h1, h2, m, by omega, h4⟩
theorem HH.kp {z : zT} {a0 n : Nat} {w w1 : zW} {S : zHS} (h : HH z a0 n w S) (hk : ∀ j : Nat, j < 13 ∨ 100 ≤ j → w1 j = w j) : HH z a0 n w1 S := by
  obtain ⟨ad, tb, tk, W, P, h1, ⟨b0, b1, b3, b5, bM, b10, b11, b12, am, al, an, hc8⟩, h3⟩ := h
  refine ⟨ad, tb, tk, W, P, h1, ⟨(hk 0 (by omega)).trans b0, b1.kept (hk 1 (by omega)) (hk 2 (by omega)), b3.kept (hk 3 (by omega)) (hk 4 (by omega)), b5.kept (hk 5 (by omega)) (hk 6 (by omega)), bM.kept (hk 7 (by omega)) (hk 8 (by omega)) (hk 9 (by omega)), (hk 10 (by omega)).trans b10, (hk 11 (by omega)).trans b11, (hk 12 (by omega)).trans b12, fun n hn => ⟨(hk _ (by omega)).trans (am n hn).1, (am n hn).2⟩, al, an, hc8⟩, h3⟩
theorem MM.kp {z : zT} {b0 : Nat} {w w1 : zW} {M : zMO} (h : MM z b0 w M) (hk : ∀ j : Nat, 20 ≤ j → j < 39 → w1 j = w j) : MM z b0 w1 M := by
  obtain ⟨bd, g1, h1, ⟨h2, h3⟩, h4⟩ := h
  exact ⟨bd, g1, h1, ⟨(hk 20 (by omega) (by omega)).trans h2, fun k hk2 => (hk _ (by omega) (by omega)).trans (h3 k hk2)⟩, h4⟩
