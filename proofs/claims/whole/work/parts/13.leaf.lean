/-! HiringHall$Worker and HiringHall$Matching: pure words, contracts -/
/-- a worker's cell, its fields by their places: number, board, skills, away, refusing, hours, refusals, place, cameInAt, wasAtWork -/
abbrev zWc (r : Nat → Int32) : va_E := .inr (2, [.int (r 0), .int (r 1), .int (r 2), .int (r 3), .int (r 4), .int (r 5), .int (r 6), .int (r 7), .int (r 8), .int (r 9)])
def rdy (r : Nat → Int32) : Bool := decide (r 3 = 0) && decide (r 9 = 0)
def skl (a k : Int32) : Bool := decide ((a >>> (k &&& 31)) &&& 1 = 1)
/-- the skills a lie within the set s -/
def wi (a : Int32) (s : Nat) : Bool := decide (a &&& (nI s ^^^ (-1)) = 0)
def cw (W : List Int32) (s : Nat) : Nat := W.countP (fun a => wi a s)
abbrev sk1 (k : Int32) : Int32 := 1 <<< (k &&& 31)
def cp (P : List Int32) (s : Nat) : Nat := P.countP (fun k => wi (sk1 k) s)
def zN (b : Bool) : Nat := if b then 1 else 0
theorem cw_cons (a : Int32) (W : List Int32) (s : Nat) : cw (a :: W) s = cw W s + zN (wi a s) := by simp [cw, List.countP_cons, zN]
theorem cp_cons (a : Int32) (P : List Int32) (s : Nat) : cp (a :: P) s = cp P s + zN (wi (sk1 a) s) := by simp [cp, List.countP_cons, zN]
theorem cw_le (W : List Int32) (s : Nat) : cw W s ≤ W.length := List.countP_le_length
theorem cp_le (P : List Int32) (s : Nat) : cp P s ≤ P.length := List.countP_le_length
theorem zN_le (b : Bool) : zN b ≤ 1 := by cases b <;> decide
theorem countP_erase_of {α : Type} [DecidableEq α] (p : α → Bool) (a : α) : ∀ (l : List α), a ∈ l → l.countP p = (l.erase a).countP p + zN (p a)
  | [], h => absurd h List.not_mem_nil
  | b :: l, h => by
    by_cases e : b = a
    · subst e
      rw [List.erase_cons_head, List.countP_cons]
      simp [zN]
    · have h2 : a ∈ l := (List.mem_cons.mp h).elim (fun q => absurd q.symm e) id
      rw [List.erase_cons_tail (by simpa using e), List.countP_cons, List.countP_cons, countP_erase_of p a l h2]
      omega
theorem cw_erase {a : Int32} {W : List Int32} (h : a ∈ W) (s : Nat) : cw W s = cw (W.erase a) s + zN (wi a s) := countP_erase_of _ a W h
theorem cp_erase {a : Int32} {P : List Int32} (h : a ∈ P) (s : Nat) : cp P s = cp (P.erase a) s + zN (wi (sk1 a) s) := countP_erase_of (fun k => wi (sk1 k) s) a P h
/-- Hall's condition: no set of skills has more workers within it than places -/
def zHall (W P : List Int32) : Bool := (List.range 32).all (fun s => decide (cw W s ≤ cp P s))
theorem zHall_iff {W P : List Int32} : zHall W P = true ↔ ∀ s : Nat, s < 32 → cw W s ≤ cp P s := by
  simp [zHall, List.all_eq_true]
/-- the greatest lack of places of the sets below i -/
def zlo (W P : List Int32) : Nat → Nat
  | 0 => 0
  | i + 1 => max (zlo W P i) (cw W i - cp P i)
def zMt (z : zT) (w : zW) (ad : Nat → Nat) (W P : List Int32) : Prop := w 7 = some (ad 7, .inr (1, [.ref (ad 8), .ref (ad 9)])) ∧ (∃ f : Nat → Int32, w 8 = some (ad 8, .inl (z.2.2.1 0, 32, .inl f)) ∧ ∀ s : Nat, s < 32 → f s = nI (cw W s)) ∧ (∃ f : Nat → Int32, w 9 = some (ad 9, .inl (z.2.2.1 0, 32, .inl f)) ∧ ∀ s : Nat, s < 32 → f s = nI (cp P s)) ∧ W.length ≤ 1000 ∧ P.length ≤ 1000
section ZLEAF
variable {l : Launch} {z : zT} {w : zW}
theorem c_isAtWork (hl : l.stackTraces = false) {k a : Nat} {r : Nat → Int32} (h : w k = some (a, zWc r)) : ZM l z mX1_isAtWork 0 0 0 [.ref a] w (fun x w1 => x = some (.int (zb (decide (r 7 ≠ -1)))) ∧ w1 = w) zNo := by
  refine zbody (M := mX1_isAtWork) (L0 := [_]) hl (by simp [Value.category]) (Nat.le_of_ble_eq_true rfl) (by decide +kernel) rfl ?_
  intro p e s m args below meth c C hX hnm hret
  replace C : zC z p l s m args meth c cX1_isAtWork RX1 1 := C
  replace hret : meth.sig.returnType = (some .boolean) := hret
  refine z_aload_n C dX1_isAtWork_0 rfl ?_
  refine z_getf C zf_X1_25 dX1_isAtWork_1 (by first | assumption | exact zk_eq | exact zk_ne (by first | assumption | exact zk_eq | exact zk_ne (by first | assumption | exact zk_eq | exact zk_ne (by first | assumption | exact zk_eq | exact zk_ne (by first | assumption | exact zk_eq | exact zk_ne (by first | assumption | exact zk_eq) (by first | decide | omega)) (by first | decide | omega)) (by first | decide | omega)) (by first | decide | omega)) (by first | decide | omega)) (by rfl) ?_
  refine z_iconst C (-1) dX1_isAtWork_4 (by decide) ?_
  refine z_icmp_eq C 12 dX1_isAtWork_5 (by decide) (fun h1 => ?_) (fun h1 => ?_)
  · refine z_iconst C (0) dX1_isAtWork_12 (by decide) ?_
    refine z_zret C hret dX1_isAtWork_13 (by first | rfl | exact zb_nar _ | assumption) (by first | exact Nat.le_of_ble_eq_true rfl | omega) (by first | exact Nat.le_of_ble_eq_true rfl | omega) ?_
    exact ⟨by simp [zb, h1], rfl⟩
  · refine z_iconst C (1) dX1_isAtWork_8 (by decide) ?_
    refine z_goto C 13 dX1_isAtWork_9 (by decide) ?_
    refine z_zret C hret dX1_isAtWork_13 (by first | rfl | exact zb_nar _ | assumption) (by first | exact Nat.le_of_ble_eq_true rfl | omega) (by first | exact Nat.le_of_ble_eq_true rfl | omega) ?_
    exact ⟨by simp [zb, h1], rfl⟩
theorem c_isReady (hl : l.stackTraces = false) {k a : Nat} {r : Nat → Int32} (h : w k = some (a, zWc r)) : ZM l z mX1_isReady 0 0 0 [.ref a] w (fun x w1 => x = some (.int (zb (rdy r))) ∧ w1 = w) zNo := by
  refine zbody (M := mX1_isReady) (L0 := [_]) hl (by simp [Value.category]) (Nat.le_of_ble_eq_true rfl) (by decide +kernel) rfl ?_
  intro p e s m args below meth c C hX hnm hret
  replace C : zC z p l s m args meth c cX1_isReady RX1 1 := C
  replace hret : meth.sig.returnType = (some .boolean) := hret
  refine z_aload_n C dX1_isReady_0 rfl ?_
  refine z_getf C zf_X1_9 dX1_isReady_1 (by first | assumption | exact zk_eq | exact zk_ne (by first | assumption | exact zk_eq | exact zk_ne (by first | assumption | exact zk_eq | exact zk_ne (by first | assumption | exact zk_eq | exact zk_ne (by first | assumption | exact zk_eq | exact zk_ne (by first | assumption | exact zk_eq) (by first | decide | omega)) (by first | decide | omega)) (by first | decide | omega)) (by first | decide | omega)) (by first | decide | omega)) (by rfl) ?_
  refine z_if_ne C 18 dX1_isReady_4 (by decide) (fun h1 => ?_) (fun h1 => ?_)
  · refine z_iconst C (0) dX1_isReady_18 (by decide) ?_
    refine z_zret C hret dX1_isReady_19 (by first | rfl | exact zb_nar _ | assumption) (by first | exact Nat.le_of_ble_eq_true rfl | omega) (by first | exact Nat.le_of_ble_eq_true rfl | omega) ?_
    exact ⟨by simp [rdy, zb, h1], rfl⟩
  refine z_aload_n C dX1_isReady_7 rfl ?_
  refine z_getf C zf_X1_31 dX1_isReady_8 (by first | assumption | exact zk_eq | exact zk_ne (by first | assumption | exact zk_eq | exact zk_ne (by first | assumption | exact zk_eq | exact zk_ne (by first | assumption | exact zk_eq | exact zk_ne (by first | assumption | exact zk_eq | exact zk_ne (by first | assumption | exact zk_eq) (by first | decide | omega)) (by first | decide | omega)) (by first | decide | omega)) (by first | decide | omega)) (by first | decide | omega)) (by rfl) ?_
  refine z_if_ne C 18 dX1_isReady_11 (by decide) (fun h2 => ?_) (fun h2 => ?_)
  · refine z_iconst C (0) dX1_isReady_18 (by decide) ?_
    refine z_zret C hret dX1_isReady_19 (by first | rfl | exact zb_nar _ | assumption) (by first | exact Nat.le_of_ble_eq_true rfl | omega) (by first | exact Nat.le_of_ble_eq_true rfl | omega) ?_
    exact ⟨by simp [rdy, zb, h2], rfl⟩
  · refine z_iconst C (1) dX1_isReady_14 (by decide) ?_
    refine z_goto C 19 dX1_isReady_15 (by decide) ?_
    refine z_zret C hret dX1_isReady_19 (by first | rfl | exact zb_nar _ | assumption) (by first | exact Nat.le_of_ble_eq_true rfl | omega) (by first | exact Nat.le_of_ble_eq_true rfl | omega) ?_
    exact ⟨by simp [rdy, zb, h1, h2], rfl⟩
theorem c_hasSkill (hl : l.stackTraces = false) {k a : Nat} {r : Nat → Int32} (h : w k = some (a, zWc r)) (s : Int32) : ZM l z mX1_hasSkill 0 0 0 [.ref a, .int s] w (fun x w1 => x = some (.int (zb (skl (r 2) s))) ∧ w1 = w) zNo := by
  refine zbody (M := mX1_hasSkill) (L0 := [_, _]) hl (by simp [Value.category]) (Nat.le_of_ble_eq_true rfl) (by decide +kernel) rfl ?_
  intro p e s m args below meth c C hX hnm hret
  replace C : zC z p l s m args meth c cX1_hasSkill RX1 2 := C
  replace hret : meth.sig.returnType = (some .boolean) := hret
  refine z_aload_n C dX1_hasSkill_0 rfl ?_
  refine z_getf C zf_X1_40 dX1_hasSkill_1 (by first | assumption | exact zk_eq | exact zk_ne (by first | assumption | exact zk_eq | exact zk_ne (by first | assumption | exact zk_eq | exact zk_ne (by first | assumption | exact zk_eq | exact zk_ne (by first | assumption | exact zk_eq | exact zk_ne (by first | assumption | exact zk_eq) (by first | decide | omega)) (by first | decide | omega)) (by first | decide | omega)) (by first | decide | omega)) (by first | decide | omega)) (by rfl) ?_
  refine z_iload_n C dX1_hasSkill_4 rfl ?_
  refine z_ishr C dX1_hasSkill_5 ?_
  refine z_iconst C (1) dX1_hasSkill_6 (by decide) ?_
  refine z_iand C dX1_hasSkill_7 ?_
  refine z_iconst C (1) dX1_hasSkill_8 (by decide) ?_
  refine z_icmp_ne C 16 dX1_hasSkill_9 (by decide) (fun h1 => ?_) (fun h1 => ?_)
  · refine z_iconst C (0) dX1_hasSkill_16 (by decide) ?_
    refine z_zret C hret dX1_hasSkill_17 (by first | rfl | exact zb_nar _ | assumption) (by first | exact Nat.le_of_ble_eq_true rfl | omega) (by first | exact Nat.le_of_ble_eq_true rfl | omega) ?_
    exact ⟨by simp [skl, zb, h1], rfl⟩
  · refine z_iconst C (1) dX1_hasSkill_12 (by decide) ?_
    refine z_goto C 17 dX1_hasSkill_13 (by decide) ?_
    refine z_zret C hret dX1_hasSkill_17 (by first | rfl | exact zb_nar _ | assumption) (by first | exact Nat.le_of_ble_eq_true rfl | omega) (by first | exact Nat.le_of_ble_eq_true rfl | omega) ?_
    exact ⟨by simp [skl, zb, h1], rfl⟩
theorem c_stopWork (hl : l.stackTraces = false) {k a : Nat} {r : Nat → Int32} (h : w k = some (a, zWc r)) (t : Int32) : ZM l z mX1_stopWork 0 0 0 [.ref a, .int t] w (fun x w1 => x = some (.int (t - r 8)) ∧ w1 = va_up w k (some (a, zWc (va_up (va_up r 5 (r 5 + (t - r 8))) 7 (-1))))) zNo := by
  refine zbody (M := mX1_stopWork) (L0 := [_, _, _]) hl (by simp [Value.category]) (Nat.le_of_ble_eq_true rfl) (by decide +kernel) rfl ?_
  intro p e s m args below meth c C hX hnm hret
  replace C : zC z p l s m args meth c cX1_stopWork RX1 3 := C
  replace hret : meth.sig.returnType = (some .int) := hret
  refine z_iload_n C dX1_stopWork_0 rfl ?_
  refine z_aload_n C dX1_stopWork_1 rfl ?_
  refine z_getf C zf_X1_28 dX1_stopWork_2 (by first | assumption | exact zk_eq | exact zk_ne (by first | assumption | exact zk_eq | exact zk_ne (by first | assumption | exact zk_eq | exact zk_ne (by first | assumption | exact zk_eq | exact zk_ne (by first | assumption | exact zk_eq | exact zk_ne (by first | assumption | exact zk_eq) (by first | decide | omega)) (by first | decide | omega)) (by first | decide | omega)) (by first | decide | omega)) (by first | decide | omega)) (by rfl) ?_
  refine z_isub C dX1_stopWork_5 ?_
  refine z_istore_n C (L1 := [_, _, _]) dX1_stopWork_6 (Nat.le_of_ble_eq_true rfl) rfl ?_
  refine z_aload_n C dX1_stopWork_7 rfl ?_
  refine z_dup C dX1_stopWork_8 rfl ?_
  refine z_getf C zf_X1_18 dX1_stopWork_9 (by first | assumption | exact zk_eq | exact zk_ne (by first | assumption | exact zk_eq | exact zk_ne (by first | assumption | exact zk_eq | exact zk_ne (by first | assumption | exact zk_eq | exact zk_ne (by first | assumption | exact zk_eq | exact zk_ne (by first | assumption | exact zk_eq) (by first | decide | omega)) (by first | decide | omega)) (by first | decide | omega)) (by first | decide | omega)) (by first | decide | omega)) (by rfl) ?_
  refine z_iload_n C dX1_stopWork_12 rfl ?_
  refine z_iadd C dX1_stopWork_13 ?_
  refine z_putf C (fs1 := [_, _, _, _, _, _, _, _, _, _]) zp_X1_18 dX1_stopWork_14 (by first | assumption | exact zk_eq | exact zk_ne (by first | assumption | exact zk_eq | exact zk_ne (by first | assumption | exact zk_eq | exact zk_ne (by first | assumption | exact zk_eq | exact zk_ne (by first | assumption | exact zk_eq | exact zk_ne (by first | assumption | exact zk_eq) (by first | decide | omega)) (by first | decide | omega)) (by first | decide | omega)) (by first | decide | omega)) (by first | decide | omega)) (by first | rfl | exact zb_nar _ | assumption) (by first | rfl | exact zb_fit _ | assumption) (by exact Nat.le_of_ble_eq_true rfl) (by rfl) ?_
  refine z_aload_n C dX1_stopWork_17 rfl ?_
  refine z_iconst C (-1) dX1_stopWork_18 (by decide) ?_
  refine z_putf C (fs1 := [_, _, _, _, _, _, _, _, _, _]) zp_X1_25 dX1_stopWork_19 (by first | assumption | exact zk_eq | exact zk_ne (by first | assumption | exact zk_eq | exact zk_ne (by first | assumption | exact zk_eq | exact zk_ne (by first | assumption | exact zk_eq | exact zk_ne (by first | assumption | exact zk_eq | exact zk_ne (by first | assumption | exact zk_eq) (by first | decide | omega)) (by first | decide | omega)) (by first | decide | omega)) (by first | decide | omega)) (by first | decide | omega)) (by first | rfl | exact zb_nar _ | assumption) (by first | rfl | exact zb_fit _ | assumption) (by exact Nat.le_of_ble_eq_true rfl) (by rfl) ?_
  refine z_iload_n C dX1_stopWork_22 rfl ?_
  refine z_iret C hret dX1_stopWork_23 (by first | exact Nat.le_of_ble_eq_true rfl | omega) (by first | exact Nat.le_of_ble_eq_true rfl | omega) ?_
  exact ⟨rfl, bx_uu _ _ _ _⟩
theorem c_Winit (hl : l.stackTraces = false) {k a : Nat} (h : w k = some (a, zWc (fun _ => 0))) (n b s : Int32) : ZM l z mX1_init 1 0 0 [.ref a, .int n, .int b, .int s] w (fun x w1 => x = none ∧ w1 k = some (a, zWc (fun j => if j = 0 then n else if j = 1 then b else if j = 2 then s else if j = 7 then -1 else 0)) ∧ ∀ j : Nat, j ≠ k → w1 j = w j) zNo := by
  refine zbody (M := mX1_init) (L0 := [_, _, _, _]) hl (by simp [Value.category]) (Nat.le_of_ble_eq_true rfl) (by decide +kernel) rfl ?_
  intro p e s m args below meth c C hX hnm hret
  replace C : zC z p l s m args meth c cX1_init RX1 4 := C
  replace hret : meth.sig.returnType = none := hret
  refine z_aload_n C dX1_init_0 rfl ?_
  refine z_obj C zl_X1_3 zoi zoc dX1_init_1 rfl (by exact Nat.le_of_ble_eq_true rfl) (by exact Nat.le_of_ble_eq_true rfl) ?_
  refine z_aload_n C dX1_init_4 rfl ?_
  refine z_iconst C (0) dX1_init_5 (by decide) ?_
  refine z_putf C (fs1 := [_, _, _, _, _, _, _, _, _, _]) zp_X1_9 dX1_init_6 (by first | assumption | exact zk_eq | exact zk_ne (by first | assumption | exact zk_eq | exact zk_ne (by first | assumption | exact zk_eq | exact zk_ne (by first | assumption | exact zk_eq | exact zk_ne (by first | assumption | exact zk_eq | exact zk_ne (by first | assumption | exact zk_eq) (by first | decide | omega)) (by first | decide | omega)) (by first | decide | omega)) (by first | decide | omega)) (by first | decide | omega)) (by first | rfl | exact zb_nar _ | assumption) (by first | rfl | exact zb_fit _ | assumption) (by exact Nat.le_of_ble_eq_true rfl) (by rfl) ?_
  refine z_aload_n C dX1_init_9 rfl ?_
  refine z_iconst C (0) dX1_init_10 (by decide) ?_
  refine z_putf C (fs1 := [_, _, _, _, _, _, _, _, _, _]) zp_X1_15 dX1_init_11 (by first | assumption | exact zk_eq | exact zk_ne (by first | assumption | exact zk_eq | exact zk_ne (by first | assumption | exact zk_eq | exact zk_ne (by first | assumption | exact zk_eq | exact zk_ne (by first | assumption | exact zk_eq | exact zk_ne (by first | assumption | exact zk_eq) (by first | decide | omega)) (by first | decide | omega)) (by first | decide | omega)) (by first | decide | omega)) (by first | decide | omega)) (by first | rfl | exact zb_nar _ | assumption) (by first | rfl | exact zb_fit _ | assumption) (by exact Nat.le_of_ble_eq_true rfl) (by rfl) ?_
  refine z_aload_n C dX1_init_14 rfl ?_
  refine z_iconst C (0) dX1_init_15 (by decide) ?_
  refine z_putf C (fs1 := [_, _, _, _, _, _, _, _, _, _]) zp_X1_18 dX1_init_16 (by first | assumption | exact zk_eq | exact zk_ne (by first | assumption | exact zk_eq | exact zk_ne (by first | assumption | exact zk_eq | exact zk_ne (by first | assumption | exact zk_eq | exact zk_ne (by first | assumption | exact zk_eq | exact zk_ne (by first | assumption | exact zk_eq) (by first | decide | omega)) (by first | decide | omega)) (by first | decide | omega)) (by first | decide | omega)) (by first | decide | omega)) (by first | rfl | exact zb_nar _ | assumption) (by first | rfl | exact zb_fit _ | assumption) (by exact Nat.le_of_ble_eq_true rfl) (by rfl) ?_
  refine z_aload_n C dX1_init_19 rfl ?_
  refine z_iconst C (0) dX1_init_20 (by decide) ?_
  refine z_putf C (fs1 := [_, _, _, _, _, _, _, _, _, _]) zp_X1_22 dX1_init_21 (by first | assumption | exact zk_eq | exact zk_ne (by first | assumption | exact zk_eq | exact zk_ne (by first | assumption | exact zk_eq | exact zk_ne (by first | assumption | exact zk_eq | exact zk_ne (by first | assumption | exact zk_eq | exact zk_ne (by first | assumption | exact zk_eq) (by first | decide | omega)) (by first | decide | omega)) (by first | decide | omega)) (by first | decide | omega)) (by first | decide | omega)) (by first | rfl | exact zb_nar _ | assumption) (by first | rfl | exact zb_fit _ | assumption) (by exact Nat.le_of_ble_eq_true rfl) (by rfl) ?_
  refine z_aload_n C dX1_init_24 rfl ?_
  refine z_iconst C (-1) dX1_init_25 (by decide) ?_
  refine z_putf C (fs1 := [_, _, _, _, _, _, _, _, _, _]) zp_X1_25 dX1_init_26 (by first | assumption | exact zk_eq | exact zk_ne (by first | assumption | exact zk_eq | exact zk_ne (by first | assumption | exact zk_eq | exact zk_ne (by first | assumption | exact zk_eq | exact zk_ne (by first | assumption | exact zk_eq | exact zk_ne (by first | assumption | exact zk_eq) (by first | decide | omega)) (by first | decide | omega)) (by first | decide | omega)) (by first | decide | omega)) (by first | decide | omega)) (by first | rfl | exact zb_nar _ | assumption) (by first | rfl | exact zb_fit _ | assumption) (by exact Nat.le_of_ble_eq_true rfl) (by rfl) ?_
  refine z_aload_n C dX1_init_29 rfl ?_
  refine z_iconst C (0) dX1_init_30 (by decide) ?_
  refine z_putf C (fs1 := [_, _, _, _, _, _, _, _, _, _]) zp_X1_28 dX1_init_31 (by first | assumption | exact zk_eq | exact zk_ne (by first | assumption | exact zk_eq | exact zk_ne (by first | assumption | exact zk_eq | exact zk_ne (by first | assumption | exact zk_eq | exact zk_ne (by first | assumption | exact zk_eq | exact zk_ne (by first | assumption | exact zk_eq) (by first | decide | omega)) (by first | decide | omega)) (by first | decide | omega)) (by first | decide | omega)) (by first | decide | omega)) (by first | rfl | exact zb_nar _ | assumption) (by first | rfl | exact zb_fit _ | assumption) (by exact Nat.le_of_ble_eq_true rfl) (by rfl) ?_
  refine z_aload_n C dX1_init_34 rfl ?_
  refine z_iconst C (0) dX1_init_35 (by decide) ?_
  refine z_putf C (fs1 := [_, _, _, _, _, _, _, _, _, _]) zp_X1_31 dX1_init_36 (by first | assumption | exact zk_eq | exact zk_ne (by first | assumption | exact zk_eq | exact zk_ne (by first | assumption | exact zk_eq | exact zk_ne (by first | assumption | exact zk_eq | exact zk_ne (by first | assumption | exact zk_eq | exact zk_ne (by first | assumption | exact zk_eq) (by first | decide | omega)) (by first | decide | omega)) (by first | decide | omega)) (by first | decide | omega)) (by first | decide | omega)) (by first | rfl | exact zb_nar _ | assumption) (by first | rfl | exact zb_fit _ | assumption) (by exact Nat.le_of_ble_eq_true rfl) (by rfl) ?_
  refine z_aload_n C dX1_init_39 rfl ?_
  refine z_iload_n C dX1_init_40 rfl ?_
  refine z_putF C (fs1 := [_, _, _, _, _, _, _, _, _, _]) zp_X1_34 hnm rfl dX1_init_41 (by first | assumption | exact zk_eq | exact zk_ne (by first | assumption | exact zk_eq | exact zk_ne (by first | assumption | exact zk_eq | exact zk_ne (by first | assumption | exact zk_eq | exact zk_ne (by first | assumption | exact zk_eq | exact zk_ne (by first | assumption | exact zk_eq) (by first | decide | omega)) (by first | decide | omega)) (by first | decide | omega)) (by first | decide | omega)) (by first | decide | omega)) (by first | rfl | exact zb_nar _ | assumption) (by first | rfl | exact zb_fit _ | assumption) (by exact Nat.le_of_ble_eq_true rfl) rfl ?_
  refine z_aload_n C dX1_init_44 rfl ?_
  refine z_iload_n C dX1_init_45 rfl ?_
  refine z_putf C (fs1 := [_, _, _, _, _, _, _, _, _, _]) zp_X1_37 dX1_init_46 (by first | assumption | exact zk_eq | exact zk_ne (by first | assumption | exact zk_eq | exact zk_ne (by first | assumption | exact zk_eq | exact zk_ne (by first | assumption | exact zk_eq | exact zk_ne (by first | assumption | exact zk_eq | exact zk_ne (by first | assumption | exact zk_eq) (by first | decide | omega)) (by first | decide | omega)) (by first | decide | omega)) (by first | decide | omega)) (by first | decide | omega)) (by first | rfl | exact zb_nar _ | assumption) (by first | rfl | exact zb_fit _ | assumption) (by exact Nat.le_of_ble_eq_true rfl) (by rfl) ?_
  refine z_aload_n C dX1_init_49 rfl ?_
  refine z_iload_n C dX1_init_50 rfl ?_
  refine z_putf C (fs1 := [_, _, _, _, _, _, _, _, _, _]) zp_X1_40 dX1_init_51 (by first | assumption | exact zk_eq | exact zk_ne (by first | assumption | exact zk_eq | exact zk_ne (by first | assumption | exact zk_eq | exact zk_ne (by first | assumption | exact zk_eq | exact zk_ne (by first | assumption | exact zk_eq | exact zk_ne (by first | assumption | exact zk_eq) (by first | decide | omega)) (by first | decide | omega)) (by first | decide | omega)) (by first | decide | omega)) (by first | decide | omega)) (by first | rfl | exact zb_nar _ | assumption) (by first | rfl | exact zb_fit _ | assumption) (by exact Nat.le_of_ble_eq_true rfl) (by rfl) ?_
  refine z_vret C hret dX1_init_54 (by first | exact Nat.le_of_ble_eq_true rfl | omega) (by first | exact Nat.le_of_ble_eq_true rfl | omega) ?_
  exact ⟨rfl, (by first | assumption | exact zk_eq | exact zk_ne (by first | assumption | exact zk_eq | exact zk_ne (by first | assumption | exact zk_eq | exact zk_ne (by first | assumption | exact zk_eq | exact zk_ne (by first | assumption | exact zk_eq | exact zk_ne (by first | assumption | exact zk_eq) (by first | decide | omega)) (by first | decide | omega)) (by first | decide | omega)) (by first | decide | omega)) (by first | decide | omega)), fun j j1 => by (repeat (refine (va_up_ne _ _ (by first | assumption | omega)).trans ?_)); rfl⟩
theorem c_one (hl : l.stackTraces = false) {a : Int32} {s : Nat} : ZM l z mX0_oneIfWithin 0 0 0 [.int a, .int (nI s)] w (fun x w1 => x = some (.int (nI (zN (wi a s)))) ∧ w1 = w) zNo := by
  refine zbody (M := mX0_oneIfWithin) (L0 := [_, _]) hl (by simp [Value.category]) (Nat.le_of_ble_eq_true rfl) (by decide +kernel) rfl ?_
  intro p e s m args below meth c C hX hnm hret
  replace C : zC z p l s m args meth c cX0_oneIfWithin RX0 2 := C
  replace hret : meth.sig.returnType = (some .int) := hret
  refine z_iload_n C dX0_oneIfWithin_0 rfl ?_
  refine z_iload_n C dX0_oneIfWithin_1 rfl ?_
  refine z_iconst C (-1) dX0_oneIfWithin_2 (by decide) ?_
  refine z_ixor C dX0_oneIfWithin_3 ?_
  refine z_iand C dX0_oneIfWithin_4 ?_
  refine z_if_ne C 12 dX0_oneIfWithin_5 (by decide) (fun h1 => ?_) (fun h1 => ?_)
  · refine z_iconst C (0) dX0_oneIfWithin_12 (by decide) ?_
    refine z_iret C hret dX0_oneIfWithin_13 (by first | exact Nat.le_of_ble_eq_true rfl | omega) (by first | exact Nat.le_of_ble_eq_true rfl | omega) ?_
    exact ⟨by unfold wi; first | (rw [decide_eq_true h1]; rfl) | (rw [decide_eq_false h1]; rfl), rfl⟩
  · refine z_iconst C (1) dX0_oneIfWithin_8 (by decide) ?_
    refine z_goto C 13 dX0_oneIfWithin_9 (by decide) ?_
    refine z_iret C hret dX0_oneIfWithin_13 (by first | exact Nat.le_of_ble_eq_true rfl | omega) (by first | exact Nat.le_of_ble_eq_true rfl | omega) ?_
    exact ⟨by unfold wi; first | (rw [decide_eq_true h1]; rfl) | (rw [decide_eq_false h1]; rfl), rfl⟩
theorem c_Minit (hl : l.stackTraces = false) {a : Nat} (h : w 7 = some (a, .inr (1, [.null, .null]))) : ZM l z mX0_init 1 2 64 [.ref a] w (fun x w1 => x = none ∧ (∃ b c : Nat, w1 7 = some (a, .inr (1, [.ref b, .ref c])) ∧ w1 8 = some (b, .inl (z.2.2.1 0, 32, .inl (fun _ => 0))) ∧ w1 9 = some (c, .inl (z.2.2.1 0, 32, .inl (fun _ => 0)))) ∧ ∀ j : Nat, j ≠ 7 → j ≠ 8 → j ≠ 9 → w1 j = w j) zNo := by
  refine zbody (M := mX0_init) (L0 := [_]) hl (by simp [Value.category]) (Nat.le_of_ble_eq_true rfl) (by decide +kernel) rfl ?_
  intro p e s m args below meth c C hX hnm hret
  replace C : zC z p l s m args meth c cX0_init RX0 1 := C
  replace hret : meth.sig.returnType = none := hret
  refine z_aload_n C dX0_init_0 rfl ?_
  refine z_obj C zl_X0_3 zoi zoc dX0_init_1 rfl (by exact Nat.le_of_ble_eq_true rfl) (by exact Nat.le_of_ble_eq_true rfl) ?_
  refine z_aload_n C dX0_init_4 rfl ?_
  refine z_bipush C (32) dX0_init_5 (by decide) ?_
  refine z_newI C 8 (n := 32) rfl (by decide) za_I dX0_init_7 (by exact Nat.le_of_ble_eq_true rfl) (by exact Nat.le_of_ble_eq_true rfl) (fun q hq => ?_)
  refine z_putF C (fs1 := [_, _]) zp_X0_9 hnm rfl dX0_init_9 (by first | assumption | exact zk_eq | exact zk_ne (by first | assumption | exact zk_eq | exact zk_ne (by first | assumption | exact zk_eq | exact zk_ne (by first | assumption | exact zk_eq | exact zk_ne (by first | assumption | exact zk_eq | exact zk_ne (by first | assumption | exact zk_eq) (by first | decide | omega)) (by first | decide | omega)) (by first | decide | omega)) (by first | decide | omega)) (by first | decide | omega)) (by first | rfl | exact zb_nar _ | assumption) (by first | rfl | exact zb_fit _ | assumption) (by exact Nat.le_of_ble_eq_true rfl) rfl ?_
  refine z_aload_n C dX0_init_12 rfl ?_
  refine z_bipush C (32) dX0_init_13 (by decide) ?_
  refine z_newI C 9 (n := 32) rfl (by decide) za_I dX0_init_15 (by exact Nat.le_of_ble_eq_true rfl) (by exact Nat.le_of_ble_eq_true rfl) (fun q2 hq2 => ?_)
  refine z_putF C (fs1 := [_, _]) zp_X0_15 hnm rfl dX0_init_17 (by first | assumption | exact zk_eq | exact zk_ne (by first | assumption | exact zk_eq | exact zk_ne (by first | assumption | exact zk_eq | exact zk_ne (by first | assumption | exact zk_eq | exact zk_ne (by first | assumption | exact zk_eq | exact zk_ne (by first | assumption | exact zk_eq) (by first | decide | omega)) (by first | decide | omega)) (by first | decide | omega)) (by first | decide | omega)) (by first | decide | omega)) (by first | rfl | exact zb_nar _ | assumption) (by first | rfl | exact zb_fit _ | assumption) (by exact Nat.le_of_ble_eq_true rfl) rfl ?_
  refine z_vret C hret dX0_init_20 (by first | exact Nat.le_of_ble_eq_true rfl | omega) (by first | exact Nat.le_of_ble_eq_true rfl | omega) ?_
  exact ⟨rfl, ⟨q, q2, (by first | assumption | exact zk_eq | exact zk_ne (by first | assumption | exact zk_eq | exact zk_ne (by first | assumption | exact zk_eq | exact zk_ne (by first | assumption | exact zk_eq | exact zk_ne (by first | assumption | exact zk_eq | exact zk_ne (by first | assumption | exact zk_eq) (by first | decide | omega)) (by first | decide | omega)) (by first | decide | omega)) (by first | decide | omega)) (by first | decide | omega)), (by first | assumption | exact zk_eq | exact zk_ne (by first | assumption | exact zk_eq | exact zk_ne (by first | assumption | exact zk_eq | exact zk_ne (by first | assumption | exact zk_eq | exact zk_ne (by first | assumption | exact zk_eq | exact zk_ne (by first | assumption | exact zk_eq) (by first | decide | omega)) (by first | decide | omega)) (by first | decide | omega)) (by first | decide | omega)) (by first | decide | omega)), (by first | assumption | exact zk_eq | exact zk_ne (by first | assumption | exact zk_eq | exact zk_ne (by first | assumption | exact zk_eq | exact zk_ne (by first | assumption | exact zk_eq | exact zk_ne (by first | assumption | exact zk_eq | exact zk_ne (by first | assumption | exact zk_eq) (by first | decide | omega)) (by first | decide | omega)) (by first | decide | omega)) (by first | decide | omega)) (by first | decide | omega))⟩, fun j j1 j2 j3 => by (repeat (refine (va_up_ne _ _ (by first | assumption | omega)).trans ?_)); rfl⟩
theorem c_Mclear (hl : l.stackTraces = false) {ad : Nat → Nat} {W P : List Int32} (h : zMt z w ad W P) : ZM l z mX0_clear 0 0 0 [.ref (ad 7)] w (fun x w1 => x = none ∧ zMt z w1 ad [] [] ∧ ∀ j : Nat, j ≠ 8 → j ≠ 9 → w1 j = w j) zNo := by
  obtain ⟨h7, ⟨f, h8, hf⟩, ⟨g, h9, hg⟩, -, -⟩ := h
  refine zbody (M := mX0_clear) (L0 := [_, _]) hl (by simp [Value.category]) (Nat.le_of_ble_eq_true rfl) (by decide +kernel) rfl ?_
  intro p e s m args below meth c C hX hnm hret
  replace C : zC z p l s m args meth c cX0_clear RX0 2 := C
  replace hret : meth.sig.returnType = none := hret
  refine z_iconst C (0) dX0_clear_0 (by decide) ?_
  refine z_istore_n C (L1 := [_, _]) dX0_clear_1 (Nat.le_of_ble_eq_true rfl) rfl ?_
  refine z_loop (fun n cs ss L w2 => cs = 0 ∧ ss = 0 ∧ ∃ (i : Nat) (f2 g2 : Nat → Int32), n = 32 - i ∧ L = [some (.ref (ad 7)), some (.int (nI i))] ∧ i ≤ 32 ∧ w2 8 = some (ad 8, .inl (z.2.2.1 0, 32, .inl f2)) ∧ w2 9 = some (ad 9, .inl (z.2.2.1 0, 32, .inl g2)) ∧ (∀ s : Nat, s < i → f2 s = 0 ∧ g2 s = 0) ∧ ∀ j : Nat, j ≠ 8 → j ≠ 9 → w2 j = w j)
    ⟨rfl, rfl, 0, f, g, rfl, rfl, Nat.zero_le _, h8, h9, fun s hs => absurd hs (Nat.not_lt_zero _), fun _ _ _ => rfl⟩ ?_
  rintro n cs ss L w2 ⟨rfl, rfl, i, f2, g2, rfl, rfl, q1, q2, q3, q4, q5⟩ ih
  have q7 := (q5 7 (by decide) (by decide)).trans h7
  refine z_iload_n C dX0_clear_2 rfl ?_
  refine z_bipush C (32) dX0_clear_3 (by decide) ?_
  refine z_icmp_ge C 28 dX0_clear_5 (by decide) (fun c1 => ?_) (fun c1 => ?_)
  · have hi : i = 32 := Nat.le_antisymm q1 ((nI_leI (a := 32) (by decide) (by omega)).mp c1)
    subst hi
    refine z_vret C hret dX0_clear_28 (by first | exact Nat.le_of_ble_eq_true rfl | omega) (by first | exact Nat.le_of_ble_eq_true rfl | omega) ?_
    exact ⟨rfl, ⟨q7, ⟨f2, q2, fun s hs => (q4 s hs).1⟩, ⟨g2, q3, fun s hs => (q4 s hs).2⟩, by decide, by decide⟩, q5⟩
  · have hi : i < 32 := by
      rcases Nat.lt_or_ge i 32 with q | q
      · exact q
      · exact absurd ((nI_leI (a := 32) (by decide) (by omega)).mpr q) c1
    refine z_aload_n C dX0_clear_8 rfl ?_
    refine z_getf C zf_X0_9 dX0_clear_9 (by first | assumption | exact zk_eq | exact zk_ne (by first | assumption | exact zk_eq | exact zk_ne (by first | assumption | exact zk_eq | exact zk_ne (by first | assumption | exact zk_eq | exact zk_ne (by first | assumption | exact zk_eq | exact zk_ne (by first | assumption | exact zk_eq) (by first | decide | omega)) (by first | decide | omega)) (by first | decide | omega)) (by first | decide | omega)) (by first | decide | omega)) (by rfl) ?_
    refine z_iload_n C dX0_clear_12 rfl ?_
    refine z_iconst C (0) dX0_clear_13 (by decide) ?_
    refine z_iast C dX0_clear_14 (by first | assumption | exact zk_eq | exact zk_ne (by first | assumption | exact zk_eq | exact zk_ne (by first | assumption | exact zk_eq | exact zk_ne (by first | assumption | exact zk_eq | exact zk_ne (by first | assumption | exact zk_eq | exact zk_ne (by first | assumption | exact zk_eq) (by first | decide | omega)) (by first | decide | omega)) (by first | decide | omega)) (by first | decide | omega)) (by first | decide | omega)) (by first | rfl | assumption) (by first | assumption | omega | decide) (by first | decide | omega) ?_
    refine z_aload_n C dX0_clear_15 rfl ?_
    refine z_getf C zf_X0_15 dX0_clear_16 (by first | assumption | exact zk_eq | exact zk_ne (by first | assumption | exact zk_eq | exact zk_ne (by first | assumption | exact zk_eq | exact zk_ne (by first | assumption | exact zk_eq | exact zk_ne (by first | assumption | exact zk_eq | exact zk_ne (by first | assumption | exact zk_eq) (by first | decide | omega)) (by first | decide | omega)) (by first | decide | omega)) (by first | decide | omega)) (by first | decide | omega)) (by rfl) ?_
    refine z_iload_n C dX0_clear_19 rfl ?_
    refine z_iconst C (0) dX0_clear_20 (by decide) ?_
    refine z_iast C dX0_clear_21 (by first | assumption | exact zk_eq | exact zk_ne (by first | assumption | exact zk_eq | exact zk_ne (by first | assumption | exact zk_eq | exact zk_ne (by first | assumption | exact zk_eq | exact zk_ne (by first | assumption | exact zk_eq | exact zk_ne (by first | assumption | exact zk_eq) (by first | decide | omega)) (by first | decide | omega)) (by first | decide | omega)) (by first | decide | omega)) (by first | decide | omega)) (by first | rfl | assumption) (by first | assumption | omega | decide) (by first | decide | omega) ?_
    refine z_iinc C (L1 := [_, _]) _ dX0_clear_22 rfl (by first | exact zinc | rfl) rfl ?_
    refine z_goto C 2 dX0_clear_25 (by decide) ?_
    refine ih (32 - (i + 1)) _ _ _ _ (by omega) ⟨rfl, rfl, i + 1, va_up f2 i 0, va_up g2 i 0, rfl, rfl, hi, (by first | assumption | exact zk_eq | exact zk_ne (by first | assumption | exact zk_eq | exact zk_ne (by first | assumption | exact zk_eq | exact zk_ne (by first | assumption | exact zk_eq | exact zk_ne (by first | assumption | exact zk_eq | exact zk_ne (by first | assumption | exact zk_eq) (by first | decide | omega)) (by first | decide | omega)) (by first | decide | omega)) (by first | decide | omega)) (by first | decide | omega)), (by first | assumption | exact zk_eq | exact zk_ne (by first | assumption | exact zk_eq | exact zk_ne (by first | assumption | exact zk_eq | exact zk_ne (by first | assumption | exact zk_eq | exact zk_ne (by first | assumption | exact zk_eq | exact zk_ne (by first | assumption | exact zk_eq) (by first | decide | omega)) (by first | decide | omega)) (by first | decide | omega)) (by first | decide | omega)) (by first | decide | omega)), fun s hs => ?_, fun j j1 j2 => by (repeat (refine (va_up_ne _ _ (by first | assumption | omega)).trans ?_)); exact q5 j j1 j2⟩
    by_cases e : s = i
    · subst e
      exact ⟨va_up_self .., va_up_self ..⟩
    · rw [va_up_ne _ _ e, va_up_ne _ _ e]
      exact q4 s (by omega)
theorem c_addWorker (hl : l.stackTraces = false) {ad : Nat → Nat} {W P : List Int32} (h : zMt z w ad W P) (b : Int32) (hW2 : W.length < 1000) : ZM l z mX0_addWorker 1 0 0 [.ref (ad 7), .int b] w (fun x w1 => x = none ∧ zMt z w1 ad (b :: W) P ∧ ∀ j : Nat, j ≠ 8 → j ≠ 9 → w1 j = w j) zNo := by
  obtain ⟨h7, ⟨f, h8, hf⟩, ⟨g, h9, hg⟩, hW, hP⟩ := h
  refine zbody (M := mX0_addWorker) (L0 := [_, _, _]) hl (by simp [Value.category]) (Nat.le_of_ble_eq_true rfl) (by decide +kernel) rfl ?_
  intro p e s m args below meth c C hX hnm hret
  replace C : zC z p l s m args meth c cX0_addWorker RX0 3 := C
  replace hret : meth.sig.returnType = none := hret
  refine z_iconst C (0) dX0_addWorker_0 (by decide) ?_
  refine z_istore_n C (L1 := [_, _, _]) dX0_addWorker_1 (Nat.le_of_ble_eq_true rfl) rfl ?_
  refine z_loop (fun n cs ss L w2 => cs = 0 ∧ ss = 0 ∧ ∃ (i : Nat) (f2 : Nat → Int32), n = 32 - i ∧ L = [some (.ref (ad 7)), some (.int b), some (.int (nI i))] ∧ i ≤ 32 ∧ w2 8 = some (ad 8, .inl (z.2.2.1 0, 32, .inl f2)) ∧ (∀ s : Nat, s < 32 → f2 s = nI (if s < i then cw (b :: W) s else cw W s)) ∧ ∀ j : Nat, j ≠ 8 → w2 j = w j)
    ⟨rfl, rfl, 0, f, rfl, rfl, Nat.zero_le _, h8, fun s hs => by rw [if_neg (Nat.not_lt_zero _)]; exact hf s hs, fun _ _ => rfl⟩ ?_
  rintro n cs ss L w2 ⟨rfl, rfl, i, f2, rfl, rfl, q1, q2, q3, q4⟩ ih
  have q7 := (q4 7 (by decide)).trans h7
  have q9 := (q4 9 (by decide)).trans h9
  refine z_iload_n C dX0_addWorker_2 rfl ?_
  refine z_bipush C (32) dX0_addWorker_3 (by decide) ?_
  refine z_icmp_ge C 28 dX0_addWorker_5 (by decide) (fun c1 => ?_) (fun c1 => ?_)
  · have hi : i = 32 := Nat.le_antisymm q1 ((nI_leI (a := 32) (by decide) (by omega)).mp c1)
    subst hi
    refine z_vret C hret dX0_addWorker_28 (by first | exact Nat.le_of_ble_eq_true rfl | omega) (by first | exact Nat.le_of_ble_eq_true rfl | omega) ?_
    exact ⟨rfl, ⟨q7, ⟨f2, q2, fun s hs => by rw [q3 s hs, if_pos hs]⟩, ⟨g, q9, hg⟩, hW2, hP⟩, fun j j1 j2 => q4 j j1⟩
  · have hi : i < 32 := by
      rcases Nat.lt_or_ge i 32 with q | q
      · exact q
      · exact absurd ((nI_leI (a := 32) (by decide) (by omega)).mpr q) c1
    refine z_aload_n C dX0_addWorker_8 rfl ?_
    refine z_getf C zf_X0_9 dX0_addWorker_9 (by first | assumption | exact zk_eq | exact zk_ne (by first | assumption | exact zk_eq | exact zk_ne (by first | assumption | exact zk_eq | exact zk_ne (by first | assumption | exact zk_eq | exact zk_ne (by first | assumption | exact zk_eq | exact zk_ne (by first | assumption | exact zk_eq) (by first | decide | omega)) (by first | decide | omega)) (by first | decide | omega)) (by first | decide | omega)) (by first | decide | omega)) (by rfl) ?_
    refine z_iload_n C dX0_addWorker_12 rfl ?_
    refine z_dup2 C dX0_addWorker_13 rfl rfl ?_
    refine z_iald C dX0_addWorker_14 (by first | assumption | exact zk_eq | exact zk_ne (by first | assumption | exact zk_eq | exact zk_ne (by first | assumption | exact zk_eq | exact zk_ne (by first | assumption | exact zk_eq | exact zk_ne (by first | assumption | exact zk_eq | exact zk_ne (by first | assumption | exact zk_eq) (by first | decide | omega)) (by first | decide | omega)) (by first | decide | omega)) (by first | decide | omega)) (by first | decide | omega)) (by first | rfl | assumption) (by first | assumption | omega | decide) (by first | decide | omega) ?_
    refine z_iload_n C dX0_addWorker_15 rfl ?_
    refine z_iload_n C dX0_addWorker_16 rfl ?_
    refine z_callS C zm_X0_oneIfWithin zl_X0_18 (c_one (a := b) (s := i) hl) dX0_addWorker_17 (by rfl) (by rfl) (by exact Nat.le_of_ble_eq_true rfl) rfl (by exact ⟨Nat.le_of_ble_eq_true rfl, Nat.le_of_ble_eq_true rfl⟩) (by first | exact ⟨Nat.le_of_ble_eq_true rfl, Nat.le_of_ble_eq_true rfl⟩ | (simp only [zrm]; omega)) (fun _ _ h => z_xno h) (fun r w1 hq => ?_)
    obtain ⟨rfl, rfl⟩ := hq
    refine z_iadd C dX0_addWorker_20 ?_
    refine z_iast C dX0_addWorker_21 (by first | assumption | exact zk_eq | exact zk_ne (by first | assumption | exact zk_eq | exact zk_ne (by first | assumption | exact zk_eq | exact zk_ne (by first | assumption | exact zk_eq | exact zk_ne (by first | assumption | exact zk_eq | exact zk_ne (by first | assumption | exact zk_eq) (by first | decide | omega)) (by first | decide | omega)) (by first | decide | omega)) (by first | decide | omega)) (by first | decide | omega)) (by first | rfl | assumption) (by first | assumption | omega | decide) (by first | decide | omega) ?_
    refine z_iinc C (L1 := [_, _, _]) _ dX0_addWorker_22 rfl (by first | exact zinc | rfl) rfl ?_
    refine z_goto C 2 dX0_addWorker_25 (by decide) ?_
    refine ih (32 - (i + 1)) _ _ _ _ (by omega) ⟨rfl, rfl, i + 1, va_up f2 i (f2 i + nI (zN (wi b i))), rfl, rfl, hi, (by first | assumption | exact zk_eq | exact zk_ne (by first | assumption | exact zk_eq | exact zk_ne (by first | assumption | exact zk_eq | exact zk_ne (by first | assumption | exact zk_eq | exact zk_ne (by first | assumption | exact zk_eq | exact zk_ne (by first | assumption | exact zk_eq) (by first | decide | omega)) (by first | decide | omega)) (by first | decide | omega)) (by first | decide | omega)) (by first | decide | omega)), fun s hs => ?_, fun j j1 => by (repeat (refine (va_up_ne _ _ (by first | assumption | omega)).trans ?_)); exact q4 j j1⟩
    by_cases e : s = i
    · subst e
      rw [va_up_self, if_pos (Nat.lt_succ_self _), q3 s hs, if_neg (Nat.lt_irrefl _), cw_cons, nI_add]
    · rw [va_up_ne _ _ e, q3 s hs]
      congr 1
      by_cases e2 : s < i
      · rw [if_pos e2, if_pos (by omega)]
      · rw [if_neg e2, if_neg (by omega)]
theorem c_removeWorker (hl : l.stackTraces = false) {ad : Nat → Nat} {W P : List Int32} (h : zMt z w ad W P) (b : Int32) (hb : b ∈ W) : ZM l z mX0_removeWorker 1 0 0 [.ref (ad 7), .int b] w (fun x w1 => x = none ∧ zMt z w1 ad (W.erase b) P ∧ ∀ j : Nat, j ≠ 8 → j ≠ 9 → w1 j = w j) zNo := by
  obtain ⟨h7, ⟨f, h8, hf⟩, ⟨g, h9, hg⟩, hW, hP⟩ := h
  refine zbody (M := mX0_removeWorker) (L0 := [_, _, _]) hl (by simp [Value.category]) (Nat.le_of_ble_eq_true rfl) (by decide +kernel) rfl ?_
  intro p e s m args below meth c C hX hnm hret
  replace C : zC z p l s m args meth c cX0_removeWorker RX0 3 := C
  replace hret : meth.sig.returnType = none := hret
  refine z_iconst C (0) dX0_removeWorker_0 (by decide) ?_
  refine z_istore_n C (L1 := [_, _, _]) dX0_removeWorker_1 (Nat.le_of_ble_eq_true rfl) rfl ?_
  refine z_loop (fun n cs ss L w2 => cs = 0 ∧ ss = 0 ∧ ∃ (i : Nat) (f2 : Nat → Int32), n = 32 - i ∧ L = [some (.ref (ad 7)), some (.int b), some (.int (nI i))] ∧ i ≤ 32 ∧ w2 8 = some (ad 8, .inl (z.2.2.1 0, 32, .inl f2)) ∧ (∀ s : Nat, s < 32 → f2 s = nI (if s < i then cw (W.erase b) s else cw W s)) ∧ ∀ j : Nat, j ≠ 8 → w2 j = w j)
    ⟨rfl, rfl, 0, f, rfl, rfl, Nat.zero_le _, h8, fun s hs => by rw [if_neg (Nat.not_lt_zero _)]; exact hf s hs, fun _ _ => rfl⟩ ?_
  rintro n cs ss L w2 ⟨rfl, rfl, i, f2, rfl, rfl, q1, q2, q3, q4⟩ ih
  have q7 := (q4 7 (by decide)).trans h7
  have q9 := (q4 9 (by decide)).trans h9
  refine z_iload_n C dX0_removeWorker_2 rfl ?_
  refine z_bipush C (32) dX0_removeWorker_3 (by decide) ?_
  refine z_icmp_ge C 28 dX0_removeWorker_5 (by decide) (fun c1 => ?_) (fun c1 => ?_)
  · have hi : i = 32 := Nat.le_antisymm q1 ((nI_leI (a := 32) (by decide) (by omega)).mp c1)
    subst hi
    refine z_vret C hret dX0_removeWorker_28 (by first | exact Nat.le_of_ble_eq_true rfl | omega) (by first | exact Nat.le_of_ble_eq_true rfl | omega) ?_
    exact ⟨rfl, ⟨q7, ⟨f2, q2, fun s hs => by rw [q3 s hs, if_pos hs]⟩, ⟨g, q9, hg⟩, Nat.le_trans List.length_erase_le hW, hP⟩, fun j j1 j2 => q4 j j1⟩
  · have hi : i < 32 := by
      rcases Nat.lt_or_ge i 32 with q | q
      · exact q
      · exact absurd ((nI_leI (a := 32) (by decide) (by omega)).mpr q) c1
    refine z_aload_n C dX0_removeWorker_8 rfl ?_
    refine z_getf C zf_X0_9 dX0_removeWorker_9 (by first | assumption | exact zk_eq | exact zk_ne (by first | assumption | exact zk_eq | exact zk_ne (by first | assumption | exact zk_eq | exact zk_ne (by first | assumption | exact zk_eq | exact zk_ne (by first | assumption | exact zk_eq | exact zk_ne (by first | assumption | exact zk_eq) (by first | decide | omega)) (by first | decide | omega)) (by first | decide | omega)) (by first | decide | omega)) (by first | decide | omega)) (by rfl) ?_
    refine z_iload_n C dX0_removeWorker_12 rfl ?_
    refine z_dup2 C dX0_removeWorker_13 rfl rfl ?_
    refine z_iald C dX0_removeWorker_14 (by first | assumption | exact zk_eq | exact zk_ne (by first | assumption | exact zk_eq | exact zk_ne (by first | assumption | exact zk_eq | exact zk_ne (by first | assumption | exact zk_eq | exact zk_ne (by first | assumption | exact zk_eq | exact zk_ne (by first | assumption | exact zk_eq) (by first | decide | omega)) (by first | decide | omega)) (by first | decide | omega)) (by first | decide | omega)) (by first | decide | omega)) (by first | rfl | assumption) (by first | assumption | omega | decide) (by first | decide | omega) ?_
    refine z_iload_n C dX0_removeWorker_15 rfl ?_
    refine z_iload_n C dX0_removeWorker_16 rfl ?_
    refine z_callS C zm_X0_oneIfWithin zl_X0_18 (c_one (a := b) (s := i) hl) dX0_removeWorker_17 (by rfl) (by rfl) (by exact Nat.le_of_ble_eq_true rfl) rfl (by exact ⟨Nat.le_of_ble_eq_true rfl, Nat.le_of_ble_eq_true rfl⟩) (by first | exact ⟨Nat.le_of_ble_eq_true rfl, Nat.le_of_ble_eq_true rfl⟩ | (simp only [zrm]; omega)) (fun _ _ h => z_xno h) (fun r w1 hq => ?_)
    obtain ⟨rfl, rfl⟩ := hq
    refine z_isub C dX0_removeWorker_20 ?_
    refine z_iast C dX0_removeWorker_21 (by first | assumption | exact zk_eq | exact zk_ne (by first | assumption | exact zk_eq | exact zk_ne (by first | assumption | exact zk_eq | exact zk_ne (by first | assumption | exact zk_eq | exact zk_ne (by first | assumption | exact zk_eq | exact zk_ne (by first | assumption | exact zk_eq) (by first | decide | omega)) (by first | decide | omega)) (by first | decide | omega)) (by first | decide | omega)) (by first | decide | omega)) (by first | rfl | assumption) (by first | assumption | omega | decide) (by first | decide | omega) ?_
    refine z_iinc C (L1 := [_, _, _]) _ dX0_removeWorker_22 rfl (by first | exact zinc | rfl) rfl ?_
    refine z_goto C 2 dX0_removeWorker_25 (by decide) ?_
    refine ih (32 - (i + 1)) _ _ _ _ (by omega) ⟨rfl, rfl, i + 1, va_up f2 i (f2 i - nI (zN (wi b i))), rfl, rfl, hi, (by first | assumption | exact zk_eq | exact zk_ne (by first | assumption | exact zk_eq | exact zk_ne (by first | assumption | exact zk_eq | exact zk_ne (by first | assumption | exact zk_eq | exact zk_ne (by first | assumption | exact zk_eq | exact zk_ne (by first | assumption | exact zk_eq) (by first | decide | omega)) (by first | decide | omega)) (by first | decide | omega)) (by first | decide | omega)) (by first | decide | omega)), fun s hs => ?_, fun j j1 => by (repeat (refine (va_up_ne _ _ (by first | assumption | omega)).trans ?_)); exact q4 j j1⟩
    by_cases e : s = i
    · subst e
      rw [va_up_self, if_pos (Nat.lt_succ_self _), q3 s hs, if_neg (Nat.lt_irrefl _), cw_erase hb, pk_sub (Nat.le_add_left _ _), Nat.add_sub_cancel]
    · rw [va_up_ne _ _ e, q3 s hs]
      congr 1
      by_cases e2 : s < i
      · rw [if_pos e2, if_pos (by omega)]
      · rw [if_neg e2, if_neg (by omega)]
theorem c_addPlace (hl : l.stackTraces = false) {ad : Nat → Nat} {W P : List Int32} (h : zMt z w ad W P) (b : Int32) (hP2 : P.length < 1000) : ZM l z mX0_addPlace 1 0 0 [.ref (ad 7), .int b] w (fun x w1 => x = none ∧ zMt z w1 ad W (b :: P) ∧ ∀ j : Nat, j ≠ 8 → j ≠ 9 → w1 j = w j) zNo := by
  obtain ⟨h7, ⟨f, h8, hf⟩, ⟨g, h9, hg⟩, hW, hP⟩ := h
  refine zbody (M := mX0_addPlace) (L0 := [_, _, _]) hl (by simp [Value.category]) (Nat.le_of_ble_eq_true rfl) (by decide +kernel) rfl ?_
  intro p e s m args below meth c C hX hnm hret
  replace C : zC z p l s m args meth c cX0_addPlace RX0 3 := C
  replace hret : meth.sig.returnType = none := hret
  refine z_iconst C (0) dX0_addPlace_0 (by decide) ?_
  refine z_istore_n C (L1 := [_, _, _]) dX0_addPlace_1 (Nat.le_of_ble_eq_true rfl) rfl ?_
  refine z_loop (fun n cs ss L w2 => cs = 0 ∧ ss = 0 ∧ ∃ (i : Nat) (f2 : Nat → Int32), n = 32 - i ∧ L = [some (.ref (ad 7)), some (.int b), some (.int (nI i))] ∧ i ≤ 32 ∧ w2 9 = some (ad 9, .inl (z.2.2.1 0, 32, .inl f2)) ∧ (∀ s : Nat, s < 32 → f2 s = nI (if s < i then cp (b :: P) s else cp P s)) ∧ ∀ j : Nat, j ≠ 9 → w2 j = w j)
    ⟨rfl, rfl, 0, g, rfl, rfl, Nat.zero_le _, h9, fun s hs => by rw [if_neg (Nat.not_lt_zero _)]; exact hg s hs, fun _ _ => rfl⟩ ?_
  rintro n cs ss L w2 ⟨rfl, rfl, i, f2, rfl, rfl, q1, q2, q3, q4⟩ ih
  have q7 := (q4 7 (by decide)).trans h7
  have q9 := (q4 8 (by decide)).trans h8
  refine z_iload_n C dX0_addPlace_2 rfl ?_
  refine z_bipush C (32) dX0_addPlace_3 (by decide) ?_
  refine z_icmp_ge C 30 dX0_addPlace_5 (by decide) (fun c1 => ?_) (fun c1 => ?_)
  · have hi : i = 32 := Nat.le_antisymm q1 ((nI_leI (a := 32) (by decide) (by omega)).mp c1)
    subst hi
    refine z_vret C hret dX0_addPlace_30 (by first | exact Nat.le_of_ble_eq_true rfl | omega) (by first | exact Nat.le_of_ble_eq_true rfl | omega) ?_
    exact ⟨rfl, ⟨q7, ⟨f, q9, hf⟩, ⟨f2, q2, fun s hs => by rw [q3 s hs, if_pos hs]⟩, hW, hP2⟩, fun j j1 j2 => q4 j j2⟩
  · have hi : i < 32 := by
      rcases Nat.lt_or_ge i 32 with q | q
      · exact q
      · exact absurd ((nI_leI (a := 32) (by decide) (by omega)).mpr q) c1
    refine z_aload_n C dX0_addPlace_8 rfl ?_
    refine z_getf C zf_X0_15 dX0_addPlace_9 (by first | assumption | exact zk_eq | exact zk_ne (by first | assumption | exact zk_eq | exact zk_ne (by first | assumption | exact zk_eq | exact zk_ne (by first | assumption | exact zk_eq | exact zk_ne (by first | assumption | exact zk_eq | exact zk_ne (by first | assumption | exact zk_eq) (by first | decide | omega)) (by first | decide | omega)) (by first | decide | omega)) (by first | decide | omega)) (by first | decide | omega)) (by rfl) ?_
    refine z_iload_n C dX0_addPlace_12 rfl ?_
    refine z_dup2 C dX0_addPlace_13 rfl rfl ?_
    refine z_iald C dX0_addPlace_14 (by first | assumption | exact zk_eq | exact zk_ne (by first | assumption | exact zk_eq | exact zk_ne (by first | assumption | exact zk_eq | exact zk_ne (by first | assumption | exact zk_eq | exact zk_ne (by first | assumption | exact zk_eq | exact zk_ne (by first | assumption | exact zk_eq) (by first | decide | omega)) (by first | decide | omega)) (by first | decide | omega)) (by first | decide | omega)) (by first | decide | omega)) (by first | rfl | assumption) (by first | assumption | omega | decide) (by first | decide | omega) ?_
    refine z_iconst C (1) dX0_addPlace_15 (by decide) ?_
    refine z_iload_n C dX0_addPlace_16 rfl ?_
    refine z_ishl C dX0_addPlace_17 ?_
    refine z_iload_n C dX0_addPlace_18 rfl ?_
    refine z_callS C zm_X0_oneIfWithin zl_X0_18 (c_one (a := (sk1 b)) (s := i) hl) dX0_addPlace_19 (by rfl) (by rfl) (by exact Nat.le_of_ble_eq_true rfl) rfl (by exact ⟨Nat.le_of_ble_eq_true rfl, Nat.le_of_ble_eq_true rfl⟩) (by first | exact ⟨Nat.le_of_ble_eq_true rfl, Nat.le_of_ble_eq_true rfl⟩ | (simp only [zrm]; omega)) (fun _ _ h => z_xno h) (fun r w1 hq => ?_)
    obtain ⟨rfl, rfl⟩ := hq
    refine z_iadd C dX0_addPlace_22 ?_
    refine z_iast C dX0_addPlace_23 (by first | assumption | exact zk_eq | exact zk_ne (by first | assumption | exact zk_eq | exact zk_ne (by first | assumption | exact zk_eq | exact zk_ne (by first | assumption | exact zk_eq | exact zk_ne (by first | assumption | exact zk_eq | exact zk_ne (by first | assumption | exact zk_eq) (by first | decide | omega)) (by first | decide | omega)) (by first | decide | omega)) (by first | decide | omega)) (by first | decide | omega)) (by first | rfl | assumption) (by first | assumption | omega | decide) (by first | decide | omega) ?_
    refine z_iinc C (L1 := [_, _, _]) _ dX0_addPlace_24 rfl (by first | exact zinc | rfl) rfl ?_
    refine z_goto C 2 dX0_addPlace_27 (by decide) ?_
    refine ih (32 - (i + 1)) _ _ _ _ (by omega) ⟨rfl, rfl, i + 1, va_up f2 i (f2 i + nI (zN (wi (sk1 b) i))), rfl, rfl, hi, (by first | assumption | exact zk_eq | exact zk_ne (by first | assumption | exact zk_eq | exact zk_ne (by first | assumption | exact zk_eq | exact zk_ne (by first | assumption | exact zk_eq | exact zk_ne (by first | assumption | exact zk_eq | exact zk_ne (by first | assumption | exact zk_eq) (by first | decide | omega)) (by first | decide | omega)) (by first | decide | omega)) (by first | decide | omega)) (by first | decide | omega)), fun s hs => ?_, fun j j1 => by (repeat (refine (va_up_ne _ _ (by first | assumption | omega)).trans ?_)); exact q4 j j1⟩
    by_cases e : s = i
    · subst e
      rw [va_up_self, if_pos (Nat.lt_succ_self _), q3 s hs, if_neg (Nat.lt_irrefl _), cp_cons, nI_add]
    · rw [va_up_ne _ _ e, q3 s hs]
      congr 1
      by_cases e2 : s < i
      · rw [if_pos e2, if_pos (by omega)]
      · rw [if_neg e2, if_neg (by omega)]
theorem c_removePlace (hl : l.stackTraces = false) {ad : Nat → Nat} {W P : List Int32} (h : zMt z w ad W P) (b : Int32) (hb : b ∈ P) : ZM l z mX0_removePlace 1 0 0 [.ref (ad 7), .int b] w (fun x w1 => x = none ∧ zMt z w1 ad W (P.erase b) ∧ ∀ j : Nat, j ≠ 8 → j ≠ 9 → w1 j = w j) zNo := by
  obtain ⟨h7, ⟨f, h8, hf⟩, ⟨g, h9, hg⟩, hW, hP⟩ := h
  refine zbody (M := mX0_removePlace) (L0 := [_, _, _]) hl (by simp [Value.category]) (Nat.le_of_ble_eq_true rfl) (by decide +kernel) rfl ?_
  intro p e s m args below meth c C hX hnm hret
  replace C : zC z p l s m args meth c cX0_removePlace RX0 3 := C
  replace hret : meth.sig.returnType = none := hret
  refine z_iconst C (0) dX0_removePlace_0 (by decide) ?_
  refine z_istore_n C (L1 := [_, _, _]) dX0_removePlace_1 (Nat.le_of_ble_eq_true rfl) rfl ?_
  refine z_loop (fun n cs ss L w2 => cs = 0 ∧ ss = 0 ∧ ∃ (i : Nat) (f2 : Nat → Int32), n = 32 - i ∧ L = [some (.ref (ad 7)), some (.int b), some (.int (nI i))] ∧ i ≤ 32 ∧ w2 9 = some (ad 9, .inl (z.2.2.1 0, 32, .inl f2)) ∧ (∀ s : Nat, s < 32 → f2 s = nI (if s < i then cp (P.erase b) s else cp P s)) ∧ ∀ j : Nat, j ≠ 9 → w2 j = w j)
    ⟨rfl, rfl, 0, g, rfl, rfl, Nat.zero_le _, h9, fun s hs => by rw [if_neg (Nat.not_lt_zero _)]; exact hg s hs, fun _ _ => rfl⟩ ?_
  rintro n cs ss L w2 ⟨rfl, rfl, i, f2, rfl, rfl, q1, q2, q3, q4⟩ ih
  have q7 := (q4 7 (by decide)).trans h7
  have q9 := (q4 8 (by decide)).trans h8
  refine z_iload_n C dX0_removePlace_2 rfl ?_
  refine z_bipush C (32) dX0_removePlace_3 (by decide) ?_
  refine z_icmp_ge C 30 dX0_removePlace_5 (by decide) (fun c1 => ?_) (fun c1 => ?_)
  · have hi : i = 32 := Nat.le_antisymm q1 ((nI_leI (a := 32) (by decide) (by omega)).mp c1)
    subst hi
    refine z_vret C hret dX0_removePlace_30 (by first | exact Nat.le_of_ble_eq_true rfl | omega) (by first | exact Nat.le_of_ble_eq_true rfl | omega) ?_
    exact ⟨rfl, ⟨q7, ⟨f, q9, hf⟩, ⟨f2, q2, fun s hs => by rw [q3 s hs, if_pos hs]⟩, hW, Nat.le_trans List.length_erase_le hP⟩, fun j j1 j2 => q4 j j2⟩
  · have hi : i < 32 := by
      rcases Nat.lt_or_ge i 32 with q | q
      · exact q
      · exact absurd ((nI_leI (a := 32) (by decide) (by omega)).mpr q) c1
    refine z_aload_n C dX0_removePlace_8 rfl ?_
    refine z_getf C zf_X0_15 dX0_removePlace_9 (by first | assumption | exact zk_eq | exact zk_ne (by first | assumption | exact zk_eq | exact zk_ne (by first | assumption | exact zk_eq | exact zk_ne (by first | assumption | exact zk_eq | exact zk_ne (by first | assumption | exact zk_eq | exact zk_ne (by first | assumption | exact zk_eq) (by first | decide | omega)) (by first | decide | omega)) (by first | decide | omega)) (by first | decide | omega)) (by first | decide | omega)) (by rfl) ?_
    refine z_iload_n C dX0_removePlace_12 rfl ?_
    refine z_dup2 C dX0_removePlace_13 rfl rfl ?_
    refine z_iald C dX0_removePlace_14 (by first | assumption | exact zk_eq | exact zk_ne (by first | assumption | exact zk_eq | exact zk_ne (by first | assumption | exact zk_eq | exact zk_ne (by first | assumption | exact zk_eq | exact zk_ne (by first | assumption | exact zk_eq | exact zk_ne (by first | assumption | exact zk_eq) (by first | decide | omega)) (by first | decide | omega)) (by first | decide | omega)) (by first | decide | omega)) (by first | decide | omega)) (by first | rfl | assumption) (by first | assumption | omega | decide) (by first | decide | omega) ?_
    refine z_iconst C (1) dX0_removePlace_15 (by decide) ?_
    refine z_iload_n C dX0_removePlace_16 rfl ?_
    refine z_ishl C dX0_removePlace_17 ?_
    refine z_iload_n C dX0_removePlace_18 rfl ?_
    refine z_callS C zm_X0_oneIfWithin zl_X0_18 (c_one (a := (sk1 b)) (s := i) hl) dX0_removePlace_19 (by rfl) (by rfl) (by exact Nat.le_of_ble_eq_true rfl) rfl (by exact ⟨Nat.le_of_ble_eq_true rfl, Nat.le_of_ble_eq_true rfl⟩) (by first | exact ⟨Nat.le_of_ble_eq_true rfl, Nat.le_of_ble_eq_true rfl⟩ | (simp only [zrm]; omega)) (fun _ _ h => z_xno h) (fun r w1 hq => ?_)
    obtain ⟨rfl, rfl⟩ := hq
    refine z_isub C dX0_removePlace_22 ?_
    refine z_iast C dX0_removePlace_23 (by first | assumption | exact zk_eq | exact zk_ne (by first | assumption | exact zk_eq | exact zk_ne (by first | assumption | exact zk_eq | exact zk_ne (by first | assumption | exact zk_eq | exact zk_ne (by first | assumption | exact zk_eq | exact zk_ne (by first | assumption | exact zk_eq) (by first | decide | omega)) (by first | decide | omega)) (by first | decide | omega)) (by first | decide | omega)) (by first | decide | omega)) (by first | rfl | assumption) (by first | assumption | omega | decide) (by first | decide | omega) ?_
    refine z_iinc C (L1 := [_, _, _]) _ dX0_removePlace_24 rfl (by first | exact zinc | rfl) rfl ?_
    refine z_goto C 2 dX0_removePlace_27 (by decide) ?_
    refine ih (32 - (i + 1)) _ _ _ _ (by omega) ⟨rfl, rfl, i + 1, va_up f2 i (f2 i - nI (zN (wi (sk1 b) i))), rfl, rfl, hi, (by first | assumption | exact zk_eq | exact zk_ne (by first | assumption | exact zk_eq | exact zk_ne (by first | assumption | exact zk_eq | exact zk_ne (by first | assumption | exact zk_eq | exact zk_ne (by first | assumption | exact zk_eq | exact zk_ne (by first | assumption | exact zk_eq) (by first | decide | omega)) (by first | decide | omega)) (by first | decide | omega)) (by first | decide | omega)) (by first | decide | omega)), fun s hs => ?_, fun j j1 => by (repeat (refine (va_up_ne _ _ (by first | assumption | omega)).trans ?_)); exact q4 j j1⟩
    by_cases e : s = i
    · subst e
      rw [va_up_self, if_pos (Nat.lt_succ_self _), q3 s hs, if_neg (Nat.lt_irrefl _), cp_erase hb, pk_sub (Nat.le_add_left _ _), Nat.add_sub_cancel]
    · rw [va_up_ne _ _ e, q3 s hs]
      congr 1
      by_cases e2 : s < i
      · rw [if_pos e2, if_pos (by omega)]
      · rw [if_neg e2, if_neg (by omega)]
theorem c_canPlaceAlso (hl : l.stackTraces = false) {ad : Nat → Nat} {W P : List Int32} (h : zMt z w ad W P) (b : Int32)  : ZM l z mX0_canPlaceAlso 1 0 0 [.ref (ad 7), .int b] w (fun x w1 => x = some (.int (zb (zHall (b :: W) P))) ∧ w1 = w) zNo := by
  obtain ⟨h7, ⟨f, h8, hf⟩, ⟨g, h9, hg⟩, hW, hP⟩ := h
  refine zbody (M := mX0_canPlaceAlso) (L0 := [_, _, _]) hl (by simp [Value.category]) (Nat.le_of_ble_eq_true rfl) (by decide +kernel) rfl ?_
  intro p e s m args below meth c C hX hnm hret
  replace C : zC z p l s m args meth c cX0_canPlaceAlso RX0 3 := C
  replace hret : meth.sig.returnType = (some .boolean) := hret
  refine z_iconst C (0) dX0_canPlaceAlso_0 (by decide) ?_
  refine z_istore_n C (L1 := [_, _, _]) dX0_canPlaceAlso_1 (Nat.le_of_ble_eq_true rfl) rfl ?_
  refine z_ind (σ := Nat) (fun x => x ≤ 32 ∧ ∀ s : Nat, s < x → cw (b :: W) s ≤ cp P s) (fun x => 32 - x) (fun _ => 0) (fun _ => 0)
    (fun x => [some (.ref (ad 7)), some (.int b), some (.int (nI x))]) (fun _ => w) 0 ⟨Nat.zero_le _, fun s hs => absurd hs (Nat.not_lt_zero _)⟩ ?_
  rintro i ⟨q1, q2⟩ ih
  try dsimp only at q1 q2 ih ⊢
  refine z_iload_n C dX0_canPlaceAlso_2 rfl ?_
  refine z_bipush C (32) dX0_canPlaceAlso_3 (by decide) ?_
  refine z_icmp_ge C 37 dX0_canPlaceAlso_5 (by decide) (fun c1 => ?_) (fun c1 => ?_)
  · have hi : i = 32 := Nat.le_antisymm q1 ((nI_leI (a := 32) (by decide) (by omega)).mp c1)
    subst hi
    refine z_iconst C (1) dX0_canPlaceAlso_37 (by decide) ?_
    refine z_zret C hret dX0_canPlaceAlso_38 (by first | rfl | exact zb_nar _ | assumption) (by first | exact Nat.le_of_ble_eq_true rfl | omega) (by first | exact Nat.le_of_ble_eq_true rfl | omega) ?_
    exact ⟨by rw [zHall_iff.mpr q2]; rfl, rfl⟩
  · have hi : i < 32 := by
      rcases Nat.lt_or_ge i 32 with q | q
      · exact q
      · exact absurd ((nI_leI (a := 32) (by decide) (by omega)).mpr q) c1
    have k1 := hf i hi
    have k2 := hg i hi
    have k3 := cw_le W i
    have k4 := cp_le P i
    have k5 := zN_le (wi b i)
    refine z_aload_n C dX0_canPlaceAlso_8 rfl ?_
    refine z_getf C zf_X0_9 dX0_canPlaceAlso_9 (by first | assumption | exact zk_eq | exact zk_ne (by first | assumption | exact zk_eq | exact zk_ne (by first | assumption | exact zk_eq | exact zk_ne (by first | assumption | exact zk_eq | exact zk_ne (by first | assumption | exact zk_eq | exact zk_ne (by first | assumption | exact zk_eq) (by first | decide | omega)) (by first | decide | omega)) (by first | decide | omega)) (by first | decide | omega)) (by first | decide | omega)) (by rfl) ?_
    refine z_iload_n C dX0_canPlaceAlso_12 rfl ?_
    refine z_iald C dX0_canPlaceAlso_13 (by first | assumption | exact zk_eq | exact zk_ne (by first | assumption | exact zk_eq | exact zk_ne (by first | assumption | exact zk_eq | exact zk_ne (by first | assumption | exact zk_eq | exact zk_ne (by first | assumption | exact zk_eq | exact zk_ne (by first | assumption | exact zk_eq) (by first | decide | omega)) (by first | decide | omega)) (by first | decide | omega)) (by first | decide | omega)) (by first | decide | omega)) (by first | rfl | assumption) (by first | assumption | omega | decide) (by first | decide | omega) ?_
    refine z_iload_n C dX0_canPlaceAlso_14 rfl ?_
    refine z_iload_n C dX0_canPlaceAlso_15 rfl ?_
    rw [k1]
    refine z_callS C zm_X0_oneIfWithin zl_X0_18 (c_one (a := b) (s := i) hl) dX0_canPlaceAlso_16 (by rfl) (by rfl) (by exact Nat.le_of_ble_eq_true rfl) rfl (by exact ⟨Nat.le_of_ble_eq_true rfl, Nat.le_of_ble_eq_true rfl⟩) (by first | exact ⟨Nat.le_of_ble_eq_true rfl, Nat.le_of_ble_eq_true rfl⟩ | (simp only [zrm]; omega)) (fun _ _ h => z_xno h) (fun r w1 hq => ?_)
    obtain ⟨rfl, rfl⟩ := hq
    refine z_iadd C dX0_canPlaceAlso_19 ?_
    refine z_aload_n C dX0_canPlaceAlso_20 rfl ?_
    refine z_getf C zf_X0_15 dX0_canPlaceAlso_21 (by first | assumption | exact zk_eq | exact zk_ne (by first | assumption | exact zk_eq | exact zk_ne (by first | assumption | exact zk_eq | exact zk_ne (by first | assumption | exact zk_eq | exact zk_ne (by first | assumption | exact zk_eq | exact zk_ne (by first | assumption | exact zk_eq) (by first | decide | omega)) (by first | decide | omega)) (by first | decide | omega)) (by first | decide | omega)) (by first | decide | omega)) (by rfl) ?_
    refine z_iload_n C dX0_canPlaceAlso_24 rfl ?_
    refine z_iald C dX0_canPlaceAlso_25 (by first | assumption | exact zk_eq | exact zk_ne (by first | assumption | exact zk_eq | exact zk_ne (by first | assumption | exact zk_eq | exact zk_ne (by first | assumption | exact zk_eq | exact zk_ne (by first | assumption | exact zk_eq | exact zk_ne (by first | assumption | exact zk_eq) (by first | decide | omega)) (by first | decide | omega)) (by first | decide | omega)) (by first | decide | omega)) (by first | decide | omega)) (by first | rfl | assumption) (by first | assumption | omega | decide) (by first | decide | omega) ?_
    rw [k2, nI_add, ← cw_cons]
    have k6 := cw_le (b :: W) i
    have k7 : (b :: W).length = W.length + 1 := rfl
    refine z_icmp_le C 31 dX0_canPlaceAlso_26 (by decide) (fun c2 => ?_) (fun c2 => ?_)
    · refine z_iinc C (L1 := [_, _, _]) _ dX0_canPlaceAlso_31 rfl (by first | exact zinc | rfl) rfl ?_
      refine z_goto C 2 dX0_canPlaceAlso_34 (by decide) ?_
      refine ih (i + 1) ⟨hi, fun s hs => ?_⟩ (by show 32 - (i + 1) < 32 - i; omega)
      by_cases e : s = i
      · rw [e]; exact (nI_leI (by omega) (by omega)).mp c2
      · exact q2 s (by omega)
    · refine z_iconst C (0) dX0_canPlaceAlso_29 (by decide) ?_
      refine z_zret C hret dX0_canPlaceAlso_30 (by first | rfl | exact zb_nar _ | assumption) (by first | exact Nat.le_of_ble_eq_true rfl | omega) (by first | exact Nat.le_of_ble_eq_true rfl | omega) ?_
      refine ⟨?_, rfl⟩
      have : zHall (b :: W) P = false := by
        cases hh : zHall (b :: W) P with
        | false => rfl
        | true => exact absurd ((nI_leI (by omega) (by omega)).mpr (zHall_iff.mp hh i hi)) c2
      rw [this]; rfl
theorem c_canSpare (hl : l.stackTraces = false) {ad : Nat → Nat} {W P : List Int32} (h : zMt z w ad W P) (b : Int32) (hb : b ∈ P) : ZM l z mX0_canSpare 1 0 0 [.ref (ad 7), .int b] w (fun x w1 => x = some (.int (zb (zHall W (P.erase b)))) ∧ w1 = w) zNo := by
  obtain ⟨h7, ⟨f, h8, hf⟩, ⟨g, h9, hg⟩, hW, hP⟩ := h
  refine zbody (M := mX0_canSpare) (L0 := [_, _, _]) hl (by simp [Value.category]) (Nat.le_of_ble_eq_true rfl) (by decide +kernel) rfl ?_
  intro p e s m args below meth c C hX hnm hret
  replace C : zC z p l s m args meth c cX0_canSpare RX0 3 := C
  replace hret : meth.sig.returnType = (some .boolean) := hret
  refine z_iconst C (0) dX0_canSpare_0 (by decide) ?_
  refine z_istore_n C (L1 := [_, _, _]) dX0_canSpare_1 (Nat.le_of_ble_eq_true rfl) rfl ?_
  refine z_ind (σ := Nat) (fun x => x ≤ 32 ∧ ∀ s : Nat, s < x → cw W s ≤ cp (P.erase b) s) (fun x => 32 - x) (fun _ => 0) (fun _ => 0)
    (fun x => [some (.ref (ad 7)), some (.int b), some (.int (nI x))]) (fun _ => w) 0 ⟨Nat.zero_le _, fun s hs => absurd hs (Nat.not_lt_zero _)⟩ ?_
  rintro i ⟨q1, q2⟩ ih
  try dsimp only at q1 q2 ih ⊢
  refine z_iload_n C dX0_canSpare_2 rfl ?_
  refine z_bipush C (32) dX0_canSpare_3 (by decide) ?_
  refine z_icmp_ge C 39 dX0_canSpare_5 (by decide) (fun c1 => ?_) (fun c1 => ?_)
  · have hi : i = 32 := Nat.le_antisymm q1 ((nI_leI (a := 32) (by decide) (by omega)).mp c1)
    subst hi
    refine z_iconst C (1) dX0_canSpare_39 (by decide) ?_
    refine z_zret C hret dX0_canSpare_40 (by first | rfl | exact zb_nar _ | assumption) (by first | exact Nat.le_of_ble_eq_true rfl | omega) (by first | exact Nat.le_of_ble_eq_true rfl | omega) ?_
    exact ⟨by rw [zHall_iff.mpr q2]; rfl, rfl⟩
  · have hi : i < 32 := by
      rcases Nat.lt_or_ge i 32 with q | q
      · exact q
      · exact absurd ((nI_leI (a := 32) (by decide) (by omega)).mpr q) c1
    have k1 := hf i hi
    have k2 := hg i hi
    have k3 := cw_le W i
    have k4 := cp_le P i
    have k5 := zN_le (wi (sk1 b) i)
    refine z_aload_n C dX0_canSpare_8 rfl ?_
    refine z_getf C zf_X0_9 dX0_canSpare_9 (by first | assumption | exact zk_eq | exact zk_ne (by first | assumption | exact zk_eq | exact zk_ne (by first | assumption | exact zk_eq | exact zk_ne (by first | assumption | exact zk_eq | exact zk_ne (by first | assumption | exact zk_eq | exact zk_ne (by first | assumption | exact zk_eq) (by first | decide | omega)) (by first | decide | omega)) (by first | decide | omega)) (by first | decide | omega)) (by first | decide | omega)) (by rfl) ?_
    refine z_iload_n C dX0_canSpare_12 rfl ?_
    refine z_iald C dX0_canSpare_13 (by first | assumption | exact zk_eq | exact zk_ne (by first | assumption | exact zk_eq | exact zk_ne (by first | assumption | exact zk_eq | exact zk_ne (by first | assumption | exact zk_eq | exact zk_ne (by first | assumption | exact zk_eq | exact zk_ne (by first | assumption | exact zk_eq) (by first | decide | omega)) (by first | decide | omega)) (by first | decide | omega)) (by first | decide | omega)) (by first | decide | omega)) (by first | rfl | assumption) (by first | assumption | omega | decide) (by first | decide | omega) ?_
    refine z_aload_n C dX0_canSpare_14 rfl ?_
    refine z_getf C zf_X0_15 dX0_canSpare_15 (by first | assumption | exact zk_eq | exact zk_ne (by first | assumption | exact zk_eq | exact zk_ne (by first | assumption | exact zk_eq | exact zk_ne (by first | assumption | exact zk_eq | exact zk_ne (by first | assumption | exact zk_eq | exact zk_ne (by first | assumption | exact zk_eq) (by first | decide | omega)) (by first | decide | omega)) (by first | decide | omega)) (by first | decide | omega)) (by first | decide | omega)) (by rfl) ?_
    refine z_iload_n C dX0_canSpare_18 rfl ?_
    refine z_iald C dX0_canSpare_19 (by first | assumption | exact zk_eq | exact zk_ne (by first | assumption | exact zk_eq | exact zk_ne (by first | assumption | exact zk_eq | exact zk_ne (by first | assumption | exact zk_eq | exact zk_ne (by first | assumption | exact zk_eq | exact zk_ne (by first | assumption | exact zk_eq) (by first | decide | omega)) (by first | decide | omega)) (by first | decide | omega)) (by first | decide | omega)) (by first | decide | omega)) (by first | rfl | assumption) (by first | assumption | omega | decide) (by first | decide | omega) ?_
    refine z_iconst C (1) dX0_canSpare_20 (by decide) ?_
    refine z_iload_n C dX0_canSpare_21 rfl ?_
    refine z_ishl C dX0_canSpare_22 ?_
    refine z_iload_n C dX0_canSpare_23 rfl ?_
    rw [k1]
    refine z_callS C zm_X0_oneIfWithin zl_X0_18 (c_one (a := sk1 b) (s := i) hl) dX0_canSpare_24 (by rfl) (by rfl) (by exact Nat.le_of_ble_eq_true rfl) rfl (by exact ⟨Nat.le_of_ble_eq_true rfl, Nat.le_of_ble_eq_true rfl⟩) (by first | exact ⟨Nat.le_of_ble_eq_true rfl, Nat.le_of_ble_eq_true rfl⟩ | (simp only [zrm]; omega)) (fun _ _ h => z_xno h) (fun r w1 hq => ?_)
    obtain ⟨rfl, rfl⟩ := hq
    refine z_isub C dX0_canSpare_27 ?_
    have k6 := cp_erase hb i
    rw [k2, k6, pk_sub (Nat.le_add_left _ _), Nat.add_sub_cancel]
    refine z_icmp_le C 33 dX0_canSpare_28 (by decide) (fun c2 => ?_) (fun c2 => ?_)
    · refine z_iinc C (L1 := [_, _, _]) _ dX0_canSpare_33 rfl (by first | exact zinc | rfl) rfl ?_
      refine z_goto C 2 dX0_canSpare_36 (by decide) ?_
      refine ih (i + 1) ⟨hi, fun s hs => ?_⟩ (by show 32 - (i + 1) < 32 - i; omega)
      by_cases e : s = i
      · rw [e]; exact (nI_leI (by omega) (by omega)).mp c2
      · exact q2 s (by omega)
    · refine z_iconst C (0) dX0_canSpare_31 (by decide) ?_
      refine z_zret C hret dX0_canSpare_32 (by first | rfl | exact zb_nar _ | assumption) (by first | exact Nat.le_of_ble_eq_true rfl | omega) (by first | exact Nat.le_of_ble_eq_true rfl | omega) ?_
      refine ⟨?_, rfl⟩
      have : zHall W (P.erase b) = false := by
        cases hh : zHall W (P.erase b) with
        | false => rfl
        | true => exact absurd ((nI_leI (by omega) (by omega)).mpr (zHall_iff.mp hh i hi)) c2
      rw [this]; rfl
theorem zlo_le (W P : List Int32) : ∀ i : Nat, zlo W P i ≤ W.length
  | 0 => Nat.zero_le _
  | i + 1 => by
    have h1 := zlo_le W P i
    have h2 := cw_le W i
    simp only [zlo]
    omega
/-- max(lo, a - b), lo not below 0 -/
theorem zmaxS {lo a b : Nat} (h1 : lo < 2 ^ 30) (h2 : a < 2 ^ 30) (h3 : b < 2 ^ 30) : (if nI lo < nI a - nI b then nI a - nI b else nI lo) = nI (max lo (a - b)) := by
  by_cases h : b ≤ a
  · rw [pk_sub h]
    exact zmaxI (by omega) (by omega)
  · have h4 : nI a - nI b < 0 := pk_sneg (by omega) (by omega)
    have h5 : ¬ nI lo < nI a - nI b := by
      intro h6
      have h7 : nI lo < 0 := Int32.lt_trans h6 h4
      exact nI_pos (by omega) h7
    rw [if_neg h5, show a - b = 0 by omega, Nat.max_eq_left (Nat.zero_le _)]
theorem c_mostPlaced (hl : l.stackTraces = false) {ad : Nat → Nat} {W P : List Int32} (h : zMt z w ad W P) : ZM l z mX0_mostPlaced 1 0 0 [.ref (ad 7)] w (fun x w1 => x = some (.int (nI (cw W 31) - nI (zlo W P 32))) ∧ w1 = w) zNo := by
  obtain ⟨h7, ⟨f, h8, hf⟩, ⟨g, h9, hg⟩, hW, hP⟩ := h
  refine zbody (M := mX0_mostPlaced) (L0 := [_, _, _, _]) hl (by simp [Value.category]) (Nat.le_of_ble_eq_true rfl) (by decide +kernel) rfl ?_
  intro p e s m args below meth c C hX hnm hret
  replace C : zC z p l s m args meth c cX0_mostPlaced RX0 4 := C
  replace hret : meth.sig.returnType = (some .int) := hret
  refine z_aload_n C dX0_mostPlaced_0 rfl ?_
  refine z_getf C zf_X0_9 dX0_mostPlaced_1 (by first | assumption | exact zk_eq | exact zk_ne (by first | assumption | exact zk_eq | exact zk_ne (by first | assumption | exact zk_eq | exact zk_ne (by first | assumption | exact zk_eq | exact zk_ne (by first | assumption | exact zk_eq | exact zk_ne (by first | assumption | exact zk_eq) (by first | decide | omega)) (by first | decide | omega)) (by first | decide | omega)) (by first | decide | omega)) (by first | decide | omega)) (by rfl) ?_
  refine z_bipush C (31) dX0_mostPlaced_4 (by decide) ?_
  refine z_iald C (j := 31) dX0_mostPlaced_6 (by first | assumption | exact zk_eq | exact zk_ne (by first | assumption | exact zk_eq | exact zk_ne (by first | assumption | exact zk_eq | exact zk_ne (by first | assumption | exact zk_eq | exact zk_ne (by first | assumption | exact zk_eq | exact zk_ne (by first | assumption | exact zk_eq) (by first | decide | omega)) (by first | decide | omega)) (by first | decide | omega)) (by first | decide | omega)) (by first | decide | omega)) rfl (by decide) (by decide) ?_
  rw [hf 31 (by decide)]
  refine z_istore_n C (L1 := [_, _, _, _]) dX0_mostPlaced_7 (Nat.le_of_ble_eq_true rfl) rfl ?_
  refine z_iconst C (0) dX0_mostPlaced_8 (by decide) ?_
  refine z_istore_n C (L1 := [_, _, _, _]) dX0_mostPlaced_9 (Nat.le_of_ble_eq_true rfl) rfl ?_
  refine z_iconst C (0) dX0_mostPlaced_10 (by decide) ?_
  refine z_istore_n C (L1 := [_, _, _, _]) dX0_mostPlaced_11 (Nat.le_of_ble_eq_true rfl) rfl ?_
  refine z_ind (σ := Nat) (fun x => x ≤ 32) (fun x => 32 - x) (fun _ => 0) (fun _ => 0)
    (fun x => [some (.ref (ad 7)), some (.int (nI (cw W 31))), some (.int (nI (zlo W P x))), some (.int (nI x))]) (fun _ => w) 0 (by decide) ?_
  rintro i q1 ih
  try dsimp only at q1 ih ⊢
  refine z_iload_n C dX0_mostPlaced_12 rfl ?_
  refine z_bipush C (32) dX0_mostPlaced_13 (by decide) ?_
  refine z_icmp_ge C 42 dX0_mostPlaced_15 (by decide) (fun c1 => ?_) (fun c1 => ?_)
  · have hi : i = 32 := Nat.le_antisymm q1 ((nI_leI (a := 32) (by decide) (by omega)).mp c1)
    subst hi
    refine z_iload_n C dX0_mostPlaced_42 rfl ?_
    refine z_iload_n C dX0_mostPlaced_43 rfl ?_
    refine z_isub C dX0_mostPlaced_44 ?_
    refine z_iret C hret dX0_mostPlaced_45 (by first | exact Nat.le_of_ble_eq_true rfl | omega) (by first | exact Nat.le_of_ble_eq_true rfl | omega) ?_
    exact ⟨rfl, rfl⟩
  · have hi : i < 32 := by
      rcases Nat.lt_or_ge i 32 with q | q
      · exact q
      · exact absurd ((nI_leI (a := 32) (by decide) (by omega)).mpr q) c1
    have k1 := hf i hi
    have k2 := hg i hi
    have k3 := cw_le W i
    have k4 := cp_le P i
    have k5 := zlo_le W P i
    refine z_iload_n C dX0_mostPlaced_18 rfl ?_
    refine z_aload_n C dX0_mostPlaced_19 rfl ?_
    refine z_getf C zf_X0_9 dX0_mostPlaced_20 (by first | assumption | exact zk_eq | exact zk_ne (by first | assumption | exact zk_eq | exact zk_ne (by first | assumption | exact zk_eq | exact zk_ne (by first | assumption | exact zk_eq | exact zk_ne (by first | assumption | exact zk_eq | exact zk_ne (by first | assumption | exact zk_eq) (by first | decide | omega)) (by first | decide | omega)) (by first | decide | omega)) (by first | decide | omega)) (by first | decide | omega)) (by rfl) ?_
    refine z_iload_n C dX0_mostPlaced_23 rfl ?_
    refine z_iald C dX0_mostPlaced_24 (by first | assumption | exact zk_eq | exact zk_ne (by first | assumption | exact zk_eq | exact zk_ne (by first | assumption | exact zk_eq | exact zk_ne (by first | assumption | exact zk_eq | exact zk_ne (by first | assumption | exact zk_eq | exact zk_ne (by first | assumption | exact zk_eq) (by first | decide | omega)) (by first | decide | omega)) (by first | decide | omega)) (by first | decide | omega)) (by first | decide | omega)) (by first | rfl | assumption) (by first | assumption | omega | decide) (by first | decide | omega) ?_
    refine z_aload_n C dX0_mostPlaced_25 rfl ?_
    refine z_getf C zf_X0_15 dX0_mostPlaced_26 (by first | assumption | exact zk_eq | exact zk_ne (by first | assumption | exact zk_eq | exact zk_ne (by first | assumption | exact zk_eq | exact zk_ne (by first | assumption | exact zk_eq | exact zk_ne (by first | assumption | exact zk_eq | exact zk_ne (by first | assumption | exact zk_eq) (by first | decide | omega)) (by first | decide | omega)) (by first | decide | omega)) (by first | decide | omega)) (by first | decide | omega)) (by rfl) ?_
    refine z_iload_n C dX0_mostPlaced_29 rfl ?_
    refine z_iald C dX0_mostPlaced_30 (by first | assumption | exact zk_eq | exact zk_ne (by first | assumption | exact zk_eq | exact zk_ne (by first | assumption | exact zk_eq | exact zk_ne (by first | assumption | exact zk_eq | exact zk_ne (by first | assumption | exact zk_eq | exact zk_ne (by first | assumption | exact zk_eq) (by first | decide | omega)) (by first | decide | omega)) (by first | decide | omega)) (by first | decide | omega)) (by first | decide | omega)) (by first | rfl | assumption) (by first | assumption | omega | decide) (by first | decide | omega) ?_
    refine z_isub C dX0_mostPlaced_31 ?_
    rw [k1, k2]
    refine z_max C zl_X0_22 dX0_mostPlaced_32 rfl (by exact Nat.le_of_ble_eq_true rfl) (by exact Nat.le_of_ble_eq_true rfl) (by first | exact ⟨Nat.le_of_ble_eq_true rfl, Nat.le_of_ble_eq_true rfl⟩ | (simp only [zrm]; omega)) ?_
    rw [zmaxS (by omega) (by omega) (by omega)]
    refine z_istore_n C (L1 := [_, _, _, _]) dX0_mostPlaced_35 (Nat.le_of_ble_eq_true rfl) rfl ?_
    refine z_iinc C (L1 := [_, _, _, _]) _ dX0_mostPlaced_36 rfl (by first | exact zinc | rfl) rfl ?_
    refine z_goto C 12 dX0_mostPlaced_39 (by decide) ?_
    exact ih (i + 1) hi (by show 32 - (i + 1) < 32 - i; omega)
end ZLEAF
