/-! THE CLAIM OUT OF ONE WALK OF THE LAW'S BODY. Your part is whole_start (and what it stands on); all else here is the same for every law, but numbers. -/
def R_law : String := "HiringHallLaw"
def lw_P (b : Addr) (xs : List Int32) (args : Array Value) (s : State) : Prop := args = #[.ref b] ∧ s.IntsAt b xs ∧ xs.length ≤ 2048 ∧ (Jvm.Cond.and given_1 narrow_1).before args s = true
def lw_Q (_ : Array Value) (s : State) (o : Outcome) (t : State) : Prop := o = .returned (some (.int 1)) ∧ Framed s o t [] 601024 7293034
def lw_Z (below : List Frame) (a : Array Value) (s : State) : State → Prop := fun t => ∃ o, t.status = .running ∧ Ended t below o ∧ lw_Q a s o t
/-- the law's own end, with 1 on the stack, nothing written that was there before, its room as the claim has it -/
theorem lw_ret {p : Program} {l : Launch} {e : Env} {s : State} {m : MethodId} {below : List Frame} {meth : Method} {c : Code} {b : Nat} (hx : p.tables.exec = Jvm.exec) (hb : c.code = code) (hr : meth.sig.returnType = ret) (hlocks : meth.locks = false) {pc : Nat} {H : Heap} {ls : Array Slot} (hdg : decode code pc = .ok (.ireturn, 1)) : W p l e room_1 s m #[Value.ref b] below meth c H [] 601024 7293034 (lw_Z below #[Value.ref b] s) (F0 m pc ls [.int 1]) := by
  intro T hT X
  obtain ⟨fs, hret, hrun, hended, hW, hframe⟩ := X.leave (v := some (.int 1)) (hlocks := hlocks) (fun h => by rw [hr] at h; cases h)
  have hmeth' : T.vm.method? m = some meth := X.method'
  refine ⟨T.setFrames fs, ?_, .returned (some (.int 1)), hrun, hended, rfl, ⟨_, rfl⟩, hW, hframe⟩
  jvm_step X.here [X.here.top, hx, hb, hdg, hmeth', hr, ret, narrow_b1]
  (try refine ⟨rfl, ?_⟩); (try refine ⟨rfl, ?_⟩)
  first | (intro acts; rw [hret _ acts rfl rfl rfl]) | rw [hret _ _ rfl rfl rfl]
  exact Steps.refl _
/-- what holds at the law's entry: the machine, the code, the tables' words (any of lw_tbl by 'hts w (by decide +kernel)'), the script of L ints xs at the cell b, what the Statement gives of the start (any of its parts by flat_of_before) -/
def lw_At (p : Program) (s : State) (m : MethodId) (meth : Method) (c : Code) (b L : Nat) (xs : Nat → Int32) : Prop :=
  p.tables.exec = Jvm.exec ∧ c.code = code ∧ meth.sig.returnType = ret ∧ c.maxLocals = 7 ∧ s.vm.findClass R_law = some m.cls ∧ (∀ w ∈ lw_tbl, w.before #[Value.ref b] s = true) ∧ va_X b L xs s s.heap ∧ b < s.heap.size ∧ meth.locks = false ∧ (Jvm.Cond.and given_1 narrow_1).before #[Value.ref b] s = true
/-! what the law's body goes through: the script, the switch, the end; what the loop keeps -/
section ZLAW
variable {p : Program} {l : Launch} {e : Env} {R : Room} {s : State} {m : MethodId} {args : Array Value} {below : List Frame} {meth : Method} {c : Code} {cells slots : Nat} {Q : State → Prop}
variable {z : zT} {cc : ByteArray} {own : String} {nL : Nat} {pc : Nat} {L : List (Option Value)} {st : List Value} {w : zW}
theorem z_sld (C : zC z p l s m args meth c cc own nL) {b L9 j : Nat} {xs : Nat → Int32} (hX : va_X b L9 xs s s.heap) (hbl : b < s.heap.size) (hbA : ¬ zA z b) (hL9 : L9 ≤ 2048) {x : Int32} (hdg : decode cc pc = .ok (.iaload, 1)) (hx : x = nI j) (hj : j < L9)
    (kk : ZJ z p l e R s m args below meth c Q cells slots (pc + 1) L (.int (xs j) :: st) w) : ZJ z p l e R s m args below meth c Q cells slots pc L (.int x :: .ref b :: st) w := by
  intro H locs ls hZ hS hL
  subst hx
  refine va_sld C.ex C.cd hX hbl hbA hS (vp_in_nI hj (by omega)) hdg ?_
  rw [nI_clamp (by omega)]
  exact kk H locs ls hZ hS hL
theorem z_slen (C : zC z p l s m args meth c cc own nL) {b L9 : Nat} {xs : Nat → Int32} (hX : va_X b L9 xs s s.heap) (hbl : b < s.heap.size) (hbA : ¬ zA z b) (hdg : decode cc pc = .ok (.arraylength, 1))
    (kk : ZJ z p l e R s m args below meth c Q cells slots (pc + 1) L (.int (nI L9) :: st) w) : ZJ z p l e R s m args below meth c Q cells slots pc L (.ref b :: st) w := fun H locs ls hZ hS hL =>
  va_slen C.ex C.cd hX hbl hbA hS hdg (kk H locs ls hZ hS hL)
theorem z_tsIn (C : zC z p l s m args meth c cc own nL) {dflt lo hi : Int} {offs : Array Int} {len : Nat} {x : Int32} {off : Int} (tgt : Nat) (hdg : decode cc pc = .ok (.tableswitch dflt lo hi offs, len)) (h1 : ¬ x.toInt < lo) (h2 : ¬ hi < x.toInt) (ho : offs[(x.toInt - lo).toNat]? = some off) (ht : (pc : Int) + off = (tgt : Int))
    (kk : ZJ z p l e R s m args below meth c Q cells slots tgt L st w) : ZJ z p l e R s m args below meth c Q cells slots pc L (.int x :: st) w := fun H locs ls hZ hS hL => lv_tableIn C.ex C.cd hdg h1 h2 ho ht (kk H locs ls hZ hS hL)
theorem z_tsOut (C : zC z p l s m args meth c cc own nL) {dflt lo hi : Int} {offs : Array Int} {len : Nat} {x : Int32} (tgt : Nat) (hdg : decode cc pc = .ok (.tableswitch dflt lo hi offs, len)) (h : x.toInt < lo ∨ hi < x.toInt) (ht : (pc : Int) + dflt = (tgt : Int))
    (kk : ZJ z p l e R s m args below meth c Q cells slots tgt L st w) : ZJ z p l e R s m args below meth c Q cells slots pc L (.int x :: st) w := fun H locs ls hZ hS hL => lv_tableOut C.ex C.cd hdg h ht (kk H locs ls hZ hS hL)
/-- the law's end with 1 -/
theorem z_lret {b : Nat} (C : zC z p l s m #[.ref b] meth c code own nL) (hz : z.1 = s.heap.size) (hr : meth.sig.returnType = ret) (hdg : decode code pc = .ok (.ireturn, 1)) (h1 : cells ≤ 601024) (h2 : slots ≤ 7293034) : ZJ z p l e room_1 s m #[.ref b] below meth c (lw_Z below #[.ref b] s) cells slots pc L [.int 1] w := fun H locs ls hZ hS hL =>
  va_forget (fun q hq => by have := hS.2.2 q hq; rw [← hz]; exact this) (W.widen h1 h2 (lw_ret C.ex C.cd hr C.lk hdg))
end ZLAW
/-- what the loop keeps: n calls are over -/
def zLI (z : zT) (a0 b0 ao n : Nat) (w : zW) : Prop := ∃ (S : zHS) (M : zMO) (f : Nat → Int64), SR S M n ∧ HH z a0 n w S ∧ MM z b0 w M ∧ w 40 = some (ao, .inl (z.2.2.1 3, 1, .inr (.inl f)))
theorem HH.rcv {z : zT} {a0 n : Nat} {w : zW} {S : zHS} (h : HH z a0 n w S) : ∃ fs : List Value, w 0 = some (a0, .inr (3, fs)) := by
  obtain ⟨ad, tb, tk, W, P, h1, ⟨b0, -⟩, -⟩ := h
  exact ⟨_, by rw [← h1]; exact b0⟩
theorem MM.rcv {z : zT} {b0 : Nat} {w : zW} {M : zMO} (h : MM z b0 w M) : ∃ fs : List Value, w 20 = some (b0, .inr (4, fs)) := by
  obtain ⟨bd, g1, h1, ⟨h2, -⟩, -⟩ := h
  exact ⟨_, by rw [← h1]; exact h2⟩
theorem q_thrown {l : Launch} {z : zT} {w : zW} {b0 : Nat} {M : zMO} (hl : l.stackTraces = false) (h : MM z b0 w M) : ZM l z mX3_thrown 0 0 0 [.ref b0] w (fun r w1 => r = some (.int (M.2 25)) ∧ w1 = w) zNo := by
  obtain ⟨bd, g1, rfl, h2, h3⟩ := h
  exact m_thrown hl h2
/-- what the relation says of the contracts' conditions -/
theorem SR.fac {S : zHS} {M : zMO} {n : Nat} (h : SR S M n) (hn : n ≤ 600) : ∃ c9 : Nat, M.2 17 = nI c9 ∧ c9 ≤ 16 ∧ (∀ i : Nat, i < c9 → ∃ j : Nat, j < 5 ∧ M.1 13 i = nI j) ∧ (∀ i : Nat, i < c9 → M.1 14 i = -1 ∨ ∃ k : Nat, k < 30 ∧ M.1 14 i = nI k) ∧
    (∀ k : Nat, k < 30 → mOcc M.1 k = true → ∃ b : Nat, b < 4 ∧ M.1 1 k = nI b) ∧ (∀ (x : Int32) (k : Nat), mKept M.1 x = some k → narrow .boolean (.int (M.1 4 k)) = .int (M.1 4 k) ∧ narrow .boolean (.int (M.1 5 k)) = .int (M.1 5 k) ∧ (M.1 7 k = -1 ∨ ∃ q : Nat, q < 16 ∧ M.1 7 k = nI q) ∧ ∃ b : Nat, b < 4 ∧ M.1 1 k = nI b) ∧
    ∀ q ∈ S.1, narrow .boolean (.int (S.2.1 q 3)) = .int (S.2.1 q 3) ∧ narrow .boolean (.int (S.2.1 q 4)) = .int (S.2.1 q 4) ∧ (¬ S.2.1 q 7 = -1 → ¬ S.2.1 q 9 = 0) := by
  obtain ⟨K, c9, nn, mk, n1, n2, hA, hB, hC, hD, hE⟩ := h
  have c16 := hD.2.2.2.2.1
  have hocc : ∀ (x : Int32) (k : Nat), mKept M.1 x = some k → k ∈ K := fun x k hk => by
    obtain ⟨k1, k2, k3⟩ := mKept_lt hk
    refine (hA.2.2.1 k).mpr ⟨k1, ?_⟩
    unfold mOcc
    rw [k3]
    simp only [Bool.not_eq_true', decide_eq_false_iff_not]
    intro q
    rw [q] at k2
    exact k2 (by decide)
  refine ⟨c9, hD.2.2.2.1, c16, fun i hi => (hE.2 i hi).2, fun i hi => ?_, fun k hk ho => ?_, fun x k hk => ?_, fun q hq => ?_⟩
  · rcases hC.1 i hi with u | ⟨k, u1, u2, u3⟩
    · exact Or.inl u
    · exact Or.inr ⟨k, ((hA.2.2.1 k).mp u1).1, u2⟩
  · exact (hB.brd k ((hA.2.2.1 k).mpr ⟨hk, ho⟩)).2
  · have hk2 := hocc x k hk
    obtain ⟨r0, r1, r2, r3, r4, r5, r6, r7, r8, r9, r10, r11, r12, ⟨v, hv⟩, ⟨v2, hv2⟩, r15, r16, r17⟩ := hB k hk2
    have hv : M.1 4 k = zb v := hv
    have hv2 : M.1 5 k = zb v2 := hv2
    refine ⟨by rw [hv]; exact zb_nar v, by rw [hv2]; exact zb_nar v2, ?_, r11⟩
    rcases hC.2 k hk2 with u | ⟨q, u1, u2, u3⟩
    · exact Or.inl u
    · exact Or.inr ⟨q, by omega, u2⟩
  · rw [hA.1] at hq
    obtain ⟨k, hk, rfl⟩ := List.mem_map.mp hq
    obtain ⟨r0, r1, r2, r3, r4, r5, r6, r7, r8, r9, r10, r11, r12, ⟨v, hv⟩, ⟨v2, hv2⟩, r15, r16, r17⟩ := hB k hk
    refine ⟨by rw [r4, hv]; exact zb_nar v, by rw [r5, hv2]; exact zb_nar v2, fun h7 h9 => h7 ?_⟩
    rw [r8]
    rw [r10] at h9
    exact r16 h9
/-- the code and the answer of the hall against those of the model -/
theorem zLq.agr {z : zT} {a0 ao nn1 n : Nat} {cds : List (String × Int32)} {lv : Int32 → Int64} {o : zAns × zHS} {S : zHS} {r : Option Value} {w w1 : zW} {q : Int32 × zMO} (h : zLq z a0 ao nn1 cds lv o S r w w1) (hA : Agr cds o S q n) (hfun : ∀ a ∈ cds, ∀ b ∈ cds, a.1 = b.1 → a.2 = b.2) (h0 : ∀ a ∈ cds, a.2 ≠ 0) {f0 : Nat → Int64} (h40 : w 40 = some (ao, .inl (z.2.2.1 3, 1, .inr (.inl f0)))) :
    ∃ (S1 : zHS) (cd : Int32) (f : Nat → Int64), r = some (.int cd) ∧ q.2.2 25 = cd ∧ SR S1 q.2 n ∧ HH z a0 nn1 w1 S1 ∧ w1 40 = some (ao, .inl (z.2.2.1 3, 1, .inr (.inl f))) ∧ (cd = 0 → f 0 = lv q.1) ∧ ∀ j : Nat, 13 ≤ j → j < 99 → j ≠ 40 → w1 j = w j := by
  obtain ⟨h, hf⟩ := h
  rcases h with ⟨v, e1, rfl, e3, f, e4, e5⟩ | ⟨E, cd, e1, e2, rfl, e4, e5⟩
  · rcases hA with ⟨a1, a2, a3⟩ | ⟨E, c, a1, -⟩
    · rw [e1] at a1
      cases a1
      exact ⟨o.2, 0, f, rfl, a2, a3, e3, e4, fun _ => e5, hf⟩
    · rw [e1] at a1
      cases a1
  · rcases hA with ⟨a1, -⟩ | ⟨E2, c, a1, a2, a3, a4⟩
    · rw [e1] at a1
      cases a1
    · rw [e1] at a1
      cases a1
      have := hfun _ e2 _ a2 rfl
      exact ⟨S, cd, f0, rfl, a3.trans this.symm, a4, e4, e5.trans h40, fun q => absurd q (h0 _ e2), hf⟩
theorem zLI.mk2 {z : zT} {a0 b0 ao n : Nat} {w1 w2 : zW} {S : zHS} {M : zMO} {f : Nat → Int64} (h1 : SR S M n) (h2 : HH z a0 n w1 S) (h3 : MM z b0 w2 M) (h4 : w1 40 = some (ao, .inl (z.2.2.1 3, 1, .inr (.inl f)))) (h5 : zFm w1 w2) : zLI z a0 b0 ao n w2 :=
  ⟨S, M, f, h1, h2.kp (fun j hj => h5 j (by omega)), h3, (h5 40 (by omega)).trans h4⟩
theorem lg_cmp_self (x : Int64) : lg_cmp x x = 0 := by simp [lg_cmp]
