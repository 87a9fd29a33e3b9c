/-! HiringHall: the state, its public methods' answers (pure), the first of them -/
abbrev zIA : String := "java/lang/IllegalArgumentException"
abbrev zIS : String := "java/lang/IllegalStateException"
/-- turn, workers, the hall's own numbers (7 nextNumber, 8 placeCount, 9 shiftHours, 10 shiftHour, 11 hoursOfLeavers, 12 workHasBegun), refusalCosts, guaranteedHours, skillNeeded -/
abbrev zHS : Type := List Nat × (Nat → Nat → Int32) × (Nat → Int32) × (Nat → Int32) × (Nat → Int32) × (Nat → Int32)
def HH (z : zT) (a0 nn : Nat) (w : zW) (S : zHS) : Prop := ∃ (ad : Nat → Nat) (tb tk : List Nat) (W P : List Int32), ad 0 = a0 ∧ HP z ad S.2.2.2.1 S.2.2.2.2.1 S.2.2.2.2.2 w S.1 S.2.1 S.2.2.1 tb tk W P ∧ (∃ m : Nat, m ≤ nn ∧ S.2.2.1 7 = nI m ∧ ∀ n ∈ S.1, n < m)
abbrev zAns : Type := String ⊕ Int32
/-- a public method of the hall at the address a0: its answer o.1, the state behind it o.2 -/
abbrev ZO (l : Launch) (z : zT) (M : zMI) (a0 nn nn1 : Nat) (As : List Value) (w : zW) (S : zHS) (o : zAns × zHS) : Prop :=
  ZM l z M 11 120 7000 (.ref a0 :: As) w (fun r w1 => ∃ v : Int32, o.1 = .inr v ∧ r = some (.int v) ∧ HH z a0 nn1 w1 o.2 ∧ zFh w w1) (fun E w1 => o.1 = .inl E ∧ HH z a0 nn w1 S ∧ zFh w w1)
theorem zFh.refl (w : zW) : zFh w w := fun _ _ _ => rfl
def hi0 : Nat → Int32 := fun j => if j = 9 then 8 else 0
def hS0 : zHS := ([], fun _ _ => 0, hi0, fun _ => 0, fun _ => 0, fun _ => 0)
def newW (n b s : Int32) : Nat → Int32 := fun j => if j = 0 then n else if j = 1 then b else if j = 2 then s else if j = 7 then -1 else 0
def hSignOn (S : zHS) (b s : Int32) : zAns × zHS :=
  if b < 0 ∨ ¬ b < 4 then (.inl zIA, S) else if s < 0 ∨ ¬ s < 32 then (.inl zIA, S) else if 30 ≤ S.1.length then (.inl zIS, S)
  else (.inr (S.2.2.1 7), (pab (va_up S.2.1 (S.2.2.1 7).toNatClampNeg (newW (S.2.2.1 7) b s)) (S.2.2.1 7).toNatClampNeg S.1, va_up S.2.1 (S.2.2.1 7).toNatClampNeg (newW (S.2.2.1 7) b s), va_up S.2.2.1 7 (S.2.2.1 7 + 1), S.2.2.2.1, S.2.2.2.2.1, S.2.2.2.2.2))
def hSignOff (S : zHS) (x : Int32) : zAns × zHS := match fnd S.2.1 x S.1 with
  | none => (.inl zNS, S)
  | some n => if S.2.1 n 7 = -1 then (.inr (S.2.1 n 5), (S.1.erase n, S.2)) else (.inl zIS, S)
def hSetSkills (S : zHS) (x s : Int32) : zAns × zHS := match fnd S.2.1 x S.1 with
  | none => (.inl zNS, S)
  | some n => if s < 0 ∨ ¬ s < 32 then (.inl zIA, S) else if S.2.1 n 7 = -1 then (.inr (S.2.1 n 2), (S.1, va_up S.2.1 n (va_up (S.2.1 n) 2 s), S.2.2)) else (.inl zIS, S)
def hMove (S : zHS) (x b : Int32) : zAns × zHS := match fnd S.2.1 x S.1 with
  | none => (.inl zNS, S)
  | some n => if b < 0 ∨ ¬ b < 4 then (.inl zIA, S) else (.inr (S.2.1 n 1), (pab (va_up S.2.1 n (va_up (S.2.1 n) 1 b)) n (S.1.erase n), va_up S.2.1 n (va_up (S.2.1 n) 1 b), S.2.2))
/-- one field of a worker anew, its old number the answer -/
def hSet (S : zHS) (x : Int32) (k : Nat) (v : Int32) : zAns × zHS := match fnd S.2.1 x S.1 with
  | none => (.inl zNS, S)
  | some n => (.inr (S.2.1 n k), (S.1, va_up S.2.1 n (va_up (S.2.1 n) k v), S.2.2))
def hSetRule (S : zHS) (b v g : Int32) : zAns × zHS :=
  if b < 0 ∨ ¬ b < 4 then (.inl zIA, S) else if g < 0 ∨ 400 < g then (.inl zIA, S)
  else (.inr (S.2.2.2.2.1 b.toNatClampNeg), (S.1, S.2.1, S.2.2.1, va_up S.2.2.2.1 b.toNatClampNeg v, va_up S.2.2.2.2.1 b.toNatClampNeg g, S.2.2.2.2.2))
def hOrder (S : zHS) (k : Int32) : zAns × zHS :=
  if k < 0 ∨ ¬ k < 5 then (.inl zIA, S) else if 16 ≤ S.2.2.1 8 then (.inl zIS, S)
  else (.inr (S.2.2.1 8), (S.1, S.2.1, va_up S.2.2.1 8 (S.2.2.1 8 + 1), S.2.2.2.1, S.2.2.2.2.1, va_up S.2.2.2.2.2 (S.2.2.1 8).toNatClampNeg k))
def hSetHours (S : zHS) (h : Int32) : zAns × zHS :=
  if h < 1 ∨ 12 < h then (.inl zIA, S) else if S.2.2.1 12 = 0 then (.inr (S.2.2.1 9), (S.1, S.2.1, va_up S.2.2.1 9 h, S.2.2.2)) else (.inl zIS, S)
/-- one ends work at the hour h -/
def zend (wk : Nat → Nat → Int32) (n : Nat) (h : Int32) : Nat → Nat → Int32 := va_up wk n (va_up (va_up (wk n) 5 (wk n 5 + (h - wk n 8))) 7 (-1))
def hLeave (S : zHS) (x h : Int32) : zAns × zHS := match fnd S.2.1 x S.1 with
  | none => (.inl zNS, S)
  | some n => if h < 0 ∨ S.2.2.1 9 < h then (.inl zIA, S) else if S.2.1 n 7 = -1 ∨ h < S.2.2.1 10 then (.inl zIS, S)
    else (.inr (S.2.1 n 7), (S.1, zend S.2.1 n h, va_up (va_up S.2.2.1 10 h) 11 (S.2.2.1 11 + (h - S.2.1 n 8)), S.2.2.2))
/-- a number of a worker -/
def hGet (S : zHS) (x : Int32) (f : (Nat → Int32) → Int32) : zAns × zHS := match fnd S.2.1 x S.1 with
  | none => (.inl zNS, S)
  | some n => (.inr (f (S.2.1 n)), S)
def hWorkerAt (S : zHS) (p : Int32) : zAns × zHS := if p < 0 ∨ ¬ p < S.2.2.1 8 then (.inl zNS, S) else (.inr (hold S.2.1 p S.1), S)
def hNextUp (S : zHS) (b : Int32) : zAns × zHS := if b < 0 ∨ ¬ b < 4 then (.inl zIA, S) else (.inr (match S.1.find? (fun n => decide (S.2.1 n 1 = b) && rdy (S.2.1 n)) with | some n => S.2.1 n 0 | none => -1), S)
/-- how a public method ends well -/
theorem ZO.fin {z : zT} {w w1 : zW} {a0 nn1 : Nat} {o : zAns × zHS} {v : Int32} {S1 : zHS} (ho : o = (.inr v, S1)) (hh : HH z a0 nn1 w1 S1) (hf : zFh w w1) : ∃ x : Int32, o.1 = .inr x ∧ some (Value.int v) = some (.int x) ∧ HH z a0 nn1 w1 o.2 ∧ zFh w w1 := by
  subst ho
  exact ⟨v, rfl, rfl, hh, hf⟩
section ZH6
variable {l : Launch} {z : zT} {w : zW} {a0 nn : Nat} {S : zHS}
theorem c_Hinit (hl : l.stackTraces = false) {a : Nat} (h : w 0 = some (a, .inr (3, [.null, .null, .null, .null, .null, .null, .null, .int 0, .int 0, .int 0, .int 0, .int 0, .int 0]))) : ZM l z mX2_init 5 12 200 [.ref a] w (fun r w1 => r = none ∧ HH z a 0 w1 hS0 ∧ ∀ j : Nat, 13 ≤ j → w1 j = w j) zNo := by
  refine zbody (M := mX2_init) (L0 := [_]) hl (by simp [Value.category]) (Nat.le_of_ble_eq_true rfl) (by decide +kernel) rfl ?_
  intro p e s m args below meth c C hX hnm hret
  replace C : zC z p l s m args meth c cX2_init RX2 1 := C
  replace hret : meth.sig.returnType = none := hret
  refine z_aload_n C dX2_init_0 rfl ?_
  refine z_obj C zl_X2_1 zoi zoc dX2_init_1 rfl (by exact Nat.le_of_ble_eq_true rfl) (by exact Nat.le_of_ble_eq_true rfl) ?_
  refine z_aload_n C dX2_init_4 rfl ?_
  refine z_newo C zw2_X2_7 1 (fs := [.int 0, .null, .int 0]) (by decide +kernel) dX2_init_5 (by exact Nat.le_of_ble_eq_true rfl) (by exact Nat.le_of_ble_eq_true rfl) (fun q1 hq1 => ?_)
  refine z_dup C dX2_init_8 rfl ?_
  refine z_callI C zm_Jx4a65c_init_da8c8 zl_X2_9 (c_ALinit (k := 1) hl zk_eq) dX2_init_9 (by rfl) (by rfl) (by exact Nat.le_of_ble_eq_true rfl) rfl (by exact ⟨Nat.le_of_ble_eq_true rfl, Nat.le_of_ble_eq_true rfl⟩) (by first | exact ⟨Nat.le_of_ble_eq_true rfl, Nat.le_of_ble_eq_true rfl⟩ | (simp only [zrm]; omega)) (fun _ _ h => z_xno h) (fun r w1 hq => ?_)
  obtain ⟨rfl, e1, f1⟩ := hq
  have g1 := (f1 0 (by decide)).trans ((va_up_ne _ _ (by decide)).trans h)
  refine z_putF C (fs1 := [_, _, _, _, _, _, _, _, _, _, _, _, _]) zp_X2_10 hnm rfl dX2_init_12 (by first | assumption | exact zk_eq | exact zk_ne (by first | assumption | exact zk_eq | exact zk_ne (by first | assumption | exact zk_eq | exact zk_ne (by first | assumption | exact zk_eq | exact zk_ne (by first | assumption | exact zk_eq | exact zk_ne (by first | assumption | exact zk_eq) (by first | decide | omega)) (by first | decide | omega)) (by first | decide | omega)) (by first | decide | omega)) (by first | decide | omega)) (by first | rfl | exact zb_nar _ | assumption) (by first | rfl | exact zb_fit _ | assumption) (by exact Nat.le_of_ble_eq_true rfl) rfl ?_
  refine z_aload_n C dX2_init_15 rfl ?_
  refine z_newo C zw2_X2_7 3 (fs := [.int 0, .null, .int 0]) (by decide +kernel) dX2_init_16 (by exact Nat.le_of_ble_eq_true rfl) (by exact Nat.le_of_ble_eq_true rfl) (fun q2 hq2 => ?_)
  refine z_dup C dX2_init_19 rfl ?_
  refine z_callI C zm_Jx4a65c_init_da8c8 zl_X2_9 (c_ALinit (k := 3) hl zk_eq) dX2_init_20 (by rfl) (by rfl) (by exact Nat.le_of_ble_eq_true rfl) rfl (by exact ⟨Nat.le_of_ble_eq_true rfl, Nat.le_of_ble_eq_true rfl⟩) (by first | exact ⟨Nat.le_of_ble_eq_true rfl, Nat.le_of_ble_eq_true rfl⟩ | (simp only [zrm]; omega)) (fun _ _ h => z_xno h) (fun r w2 hq => ?_)
  obtain ⟨rfl, e2, f2⟩ := hq
  have g2 := (f2 0 (by decide)).trans ((va_up_ne _ _ (by decide)).trans zk_eq)
  have k21 := (f2 1 (by decide)).trans ((va_up_ne _ _ (by decide)).trans (va_up_ne _ _ (by decide)))
  refine z_putF C (fs1 := [_, _, _, _, _, _, _, _, _, _, _, _, _]) zp_X2_16 hnm rfl dX2_init_23 (by first | assumption | exact zk_eq | exact zk_ne (by first | assumption | exact zk_eq | exact zk_ne (by first | assumption | exact zk_eq | exact zk_ne (by first | assumption | exact zk_eq | exact zk_ne (by first | assumption | exact zk_eq | exact zk_ne (by first | assumption | exact zk_eq) (by first | decide | omega)) (by first | decide | omega)) (by first | decide | omega)) (by first | decide | omega)) (by first | decide | omega)) (by first | rfl | exact zb_nar _ | assumption) (by first | rfl | exact zb_fit _ | assumption) (by exact Nat.le_of_ble_eq_true rfl) rfl ?_
  refine z_aload_n C dX2_init_26 rfl ?_
  refine z_newo C zw2_X2_7 5 (fs := [.int 0, .null, .int 0]) (by decide +kernel) dX2_init_27 (by exact Nat.le_of_ble_eq_true rfl) (by exact Nat.le_of_ble_eq_true rfl) (fun q3 hq3 => ?_)
  refine z_dup C dX2_init_30 rfl ?_
  refine z_callI C zm_Jx4a65c_init_da8c8 zl_X2_9 (c_ALinit (k := 5) hl zk_eq) dX2_init_31 (by rfl) (by rfl) (by exact Nat.le_of_ble_eq_true rfl) rfl (by exact ⟨Nat.le_of_ble_eq_true rfl, Nat.le_of_ble_eq_true rfl⟩) (by first | exact ⟨Nat.le_of_ble_eq_true rfl, Nat.le_of_ble_eq_true rfl⟩ | (simp only [zrm]; omega)) (fun _ _ h => z_xno h) (fun r w3 hq => ?_)
  obtain ⟨rfl, e3, f3⟩ := hq
  have g3 := (f3 0 (by decide)).trans ((va_up_ne _ _ (by decide)).trans zk_eq)
  refine z_putF C (fs1 := [_, _, _, _, _, _, _, _, _, _, _, _, _]) zp_X2_19 hnm rfl dX2_init_34 (by first | assumption | exact zk_eq | exact zk_ne (by first | assumption | exact zk_eq | exact zk_ne (by first | assumption | exact zk_eq | exact zk_ne (by first | assumption | exact zk_eq | exact zk_ne (by first | assumption | exact zk_eq | exact zk_ne (by first | assumption | exact zk_eq) (by first | decide | omega)) (by first | decide | omega)) (by first | decide | omega)) (by first | decide | omega)) (by first | decide | omega)) (by first | rfl | exact zb_nar _ | assumption) (by first | rfl | exact zb_fit _ | assumption) (by exact Nat.le_of_ble_eq_true rfl) rfl ?_
  refine z_aload_n C dX2_init_37 rfl ?_
  refine z_newo C zw2_X2_22 7 (fs := [.null, .null]) (by decide +kernel) dX2_init_38 (by exact Nat.le_of_ble_eq_true rfl) (by exact Nat.le_of_ble_eq_true rfl) (fun q4 hq4 => ?_)
  refine z_dup C dX2_init_41 rfl ?_
  refine z_callIN C zm_X0_init (c_Minit hl zk_eq) dX2_init_42 rfl (by exact Nat.le_of_ble_eq_true rfl) rfl (by exact ⟨Nat.le_of_ble_eq_true rfl, Nat.le_of_ble_eq_true rfl⟩) (by first | exact ⟨Nat.le_of_ble_eq_true rfl, Nat.le_of_ble_eq_true rfl⟩ | (simp only [zrm]; omega)) (fun _ _ h => z_xno h) (fun r w4 hq => ?_)
  obtain ⟨rfl, ⟨q8, q9, e7, e8, e9⟩, f4⟩ := hq
  have g4 := (f4 0 (by decide) (by decide) (by decide)).trans ((va_up_ne _ _ (by decide)).trans zk_eq)
  refine z_putF C (fs1 := [_, _, _, _, _, _, _, _, _, _, _, _, _]) zp_X2_25 hnm rfl dX2_init_45 (by first | assumption | exact zk_eq | exact zk_ne (by first | assumption | exact zk_eq | exact zk_ne (by first | assumption | exact zk_eq | exact zk_ne (by first | assumption | exact zk_eq | exact zk_ne (by first | assumption | exact zk_eq | exact zk_ne (by first | assumption | exact zk_eq) (by first | decide | omega)) (by first | decide | omega)) (by first | decide | omega)) (by first | decide | omega)) (by first | decide | omega)) (by first | rfl | exact zb_nar _ | assumption) (by first | rfl | exact zb_fit _ | assumption) (by exact Nat.le_of_ble_eq_true rfl) rfl ?_
  refine z_aload_n C dX2_init_48 rfl ?_
  refine z_iconst C (4) dX2_init_49 (by decide) ?_
  refine z_newZ C 10 (n := 4) rfl (by decide) za_Z dX2_init_50 (by exact Nat.le_of_ble_eq_true rfl) (by exact Nat.le_of_ble_eq_true rfl) (fun q10 hq10 => ?_)
  refine z_putF C (fs1 := [_, _, _, _, _, _, _, _, _, _, _, _, _]) zp_X2_29 hnm rfl dX2_init_52 (by first | assumption | exact zk_eq | exact zk_ne (by first | assumption | exact zk_eq | exact zk_ne (by first | assumption | exact zk_eq | exact zk_ne (by first | assumption | exact zk_eq | exact zk_ne (by first | assumption | exact zk_eq | exact zk_ne (by first | assumption | exact zk_eq) (by first | decide | omega)) (by first | decide | omega)) (by first | decide | omega)) (by first | decide | omega)) (by first | decide | omega)) (by first | rfl | exact zb_nar _ | assumption) (by first | rfl | exact zb_fit _ | assumption) (by exact Nat.le_of_ble_eq_true rfl) rfl ?_
  refine z_aload_n C dX2_init_55 rfl ?_
  refine z_iconst C (4) dX2_init_56 (by decide) ?_
  refine z_newI C 11 (n := 4) rfl (by decide) za_I dX2_init_57 (by exact Nat.le_of_ble_eq_true rfl) (by exact Nat.le_of_ble_eq_true rfl) (fun q11 hq11 => ?_)
  refine z_putF C (fs1 := [_, _, _, _, _, _, _, _, _, _, _, _, _]) zp_X2_33 hnm rfl dX2_init_59 (by first | assumption | exact zk_eq | exact zk_ne (by first | assumption | exact zk_eq | exact zk_ne (by first | assumption | exact zk_eq | exact zk_ne (by first | assumption | exact zk_eq | exact zk_ne (by first | assumption | exact zk_eq | exact zk_ne (by first | assumption | exact zk_eq) (by first | decide | omega)) (by first | decide | omega)) (by first | decide | omega)) (by first | decide | omega)) (by first | decide | omega)) (by first | rfl | exact zb_nar _ | assumption) (by first | rfl | exact zb_fit _ | assumption) (by exact Nat.le_of_ble_eq_true rfl) rfl ?_
  refine z_aload_n C dX2_init_62 rfl ?_
  refine z_bipush C (16) dX2_init_63 (by decide) ?_
  refine z_newI C 12 (n := 16) rfl (by decide) za_I dX2_init_65 (by exact Nat.le_of_ble_eq_true rfl) (by exact Nat.le_of_ble_eq_true rfl) (fun q12 hq12 => ?_)
  refine z_putF C (fs1 := [_, _, _, _, _, _, _, _, _, _, _, _, _]) zp_X2_37 hnm rfl dX2_init_67 (by first | assumption | exact zk_eq | exact zk_ne (by first | assumption | exact zk_eq | exact zk_ne (by first | assumption | exact zk_eq | exact zk_ne (by first | assumption | exact zk_eq | exact zk_ne (by first | assumption | exact zk_eq | exact zk_ne (by first | assumption | exact zk_eq) (by first | decide | omega)) (by first | decide | omega)) (by first | decide | omega)) (by first | decide | omega)) (by first | decide | omega)) (by first | rfl | exact zb_nar _ | assumption) (by first | rfl | exact zb_fit _ | assumption) (by exact Nat.le_of_ble_eq_true rfl) rfl ?_
  refine z_aload_n C dX2_init_70 rfl ?_
  refine z_iconst C (0) dX2_init_71 (by decide) ?_
  refine z_putf C (fs1 := [_, _, _, _, _, _, _, _, _, _, _, _, _]) zp_X2_40 dX2_init_72 (by first | assumption | exact zk_eq | exact zk_ne (by first | assumption | exact zk_eq | exact zk_ne (by first | assumption | exact zk_eq | exact zk_ne (by first | assumption | exact zk_eq | exact zk_ne (by first | assumption | exact zk_eq | exact zk_ne (by first | assumption | exact zk_eq) (by first | decide | omega)) (by first | decide | omega)) (by first | decide | omega)) (by first | decide | omega)) (by first | decide | omega)) (by first | rfl | exact zb_nar _ | assumption) (by first | rfl | exact zb_fit _ | assumption) (by exact Nat.le_of_ble_eq_true rfl) (by rfl) ?_
  refine z_aload_n C dX2_init_75 rfl ?_
  refine z_iconst C (0) dX2_init_76 (by decide) ?_
  refine z_putf C (fs1 := [_, _, _, _, _, _, _, _, _, _, _, _, _]) zp_X2_44 dX2_init_77 (by first | assumption | exact zk_eq | exact zk_ne (by first | assumption | exact zk_eq | exact zk_ne (by first | assumption | exact zk_eq | exact zk_ne (by first | assumption | exact zk_eq | exact zk_ne (by first | assumption | exact zk_eq | exact zk_ne (by first | assumption | exact zk_eq) (by first | decide | omega)) (by first | decide | omega)) (by first | decide | omega)) (by first | decide | omega)) (by first | decide | omega)) (by first | rfl | exact zb_nar _ | assumption) (by first | rfl | exact zb_fit _ | assumption) (by exact Nat.le_of_ble_eq_true rfl) (by rfl) ?_
  refine z_aload_n C dX2_init_80 rfl ?_
  refine z_bipush C (8) dX2_init_81 (by decide) ?_
  refine z_putf C (fs1 := [_, _, _, _, _, _, _, _, _, _, _, _, _]) zp_X2_47 dX2_init_83 (by first | assumption | exact zk_eq | exact zk_ne (by first | assumption | exact zk_eq | exact zk_ne (by first | assumption | exact zk_eq | exact zk_ne (by first | assumption | exact zk_eq | exact zk_ne (by first | assumption | exact zk_eq | exact zk_ne (by first | assumption | exact zk_eq) (by first | decide | omega)) (by first | decide | omega)) (by first | decide | omega)) (by first | decide | omega)) (by first | decide | omega)) (by first | rfl | exact zb_nar _ | assumption) (by first | rfl | exact zb_fit _ | assumption) (by exact Nat.le_of_ble_eq_true rfl) (by rfl) ?_
  refine z_aload_n C dX2_init_86 rfl ?_
  refine z_iconst C (0) dX2_init_87 (by decide) ?_
  refine z_putf C (fs1 := [_, _, _, _, _, _, _, _, _, _, _, _, _]) zp_X2_50 dX2_init_88 (by first | assumption | exact zk_eq | exact zk_ne (by first | assumption | exact zk_eq | exact zk_ne (by first | assumption | exact zk_eq | exact zk_ne (by first | assumption | exact zk_eq | exact zk_ne (by first | assumption | exact zk_eq | exact zk_ne (by first | assumption | exact zk_eq) (by first | decide | omega)) (by first | decide | omega)) (by first | decide | omega)) (by first | decide | omega)) (by first | decide | omega)) (by first | rfl | exact zb_nar _ | assumption) (by first | rfl | exact zb_fit _ | assumption) (by exact Nat.le_of_ble_eq_true rfl) (by rfl) ?_
  refine z_aload_n C dX2_init_91 rfl ?_
  refine z_iconst C (0) dX2_init_92 (by decide) ?_
  refine z_putf C (fs1 := [_, _, _, _, _, _, _, _, _, _, _, _, _]) zp_X2_53 dX2_init_93 (by first | assumption | exact zk_eq | exact zk_ne (by first | assumption | exact zk_eq | exact zk_ne (by first | assumption | exact zk_eq | exact zk_ne (by first | assumption | exact zk_eq | exact zk_ne (by first | assumption | exact zk_eq | exact zk_ne (by first | assumption | exact zk_eq) (by first | decide | omega)) (by first | decide | omega)) (by first | decide | omega)) (by first | decide | omega)) (by first | decide | omega)) (by first | rfl | exact zb_nar _ | assumption) (by first | rfl | exact zb_fit _ | assumption) (by exact Nat.le_of_ble_eq_true rfl) (by rfl) ?_
  refine z_aload_n C dX2_init_96 rfl ?_
  refine z_iconst C (0) dX2_init_97 (by decide) ?_
  refine z_putf C (fs1 := [_, _, _, _, _, _, _, _, _, _, _, _, _]) zp_X2_56 dX2_init_98 (by first | assumption | exact zk_eq | exact zk_ne (by first | assumption | exact zk_eq | exact zk_ne (by first | assumption | exact zk_eq | exact zk_ne (by first | assumption | exact zk_eq | exact zk_ne (by first | assumption | exact zk_eq | exact zk_ne (by first | assumption | exact zk_eq) (by first | decide | omega)) (by first | decide | omega)) (by first | decide | omega)) (by first | decide | omega)) (by first | decide | omega)) (by first | rfl | exact zb_nar _ | assumption) (by first | rfl | exact zb_fit _ | assumption) (by exact Nat.le_of_ble_eq_true rfl) (by rfl) ?_
  refine z_vret C hret dX2_init_101 (by first | exact Nat.le_of_ble_eq_true rfl | omega) (by first | exact Nat.le_of_ble_eq_true rfl | omega) ?_
  refine ⟨rfl, ⟨fun j => if j = 0 then a else if j = 1 then q1 else if j = 3 then q2 else if j = 5 then q3 else if j = 7 then q4 else if j = 8 then q8 else if j = 9 then q9 else if j = 10 then q10 else if j = 11 then q11 else q12, [], [], [], [], rfl, ⟨(by first | assumption | exact zk_eq | exact zk_ne (by first | assumption | exact zk_eq | exact zk_ne (by first | assumption | exact zk_eq | exact zk_ne (by first | assumption | exact zk_eq | exact zk_ne (by first | assumption | exact zk_eq | exact zk_ne (by first | assumption | exact zk_eq) (by first | decide | omega)) (by first | decide | omega)) (by first | decide | omega)) (by first | decide | omega)) (by first | decide | omega)), ?_, ?_, ?_, ⟨?_, ⟨fun _ => 0, ?_, fun _ _ => rfl⟩, ⟨fun _ => 0, ?_, fun _ _ => rfl⟩, Nat.zero_le _, Nat.zero_le _⟩, ?_, ?_, ?_, fun n hn => absurd hn List.not_mem_nil, Nat.zero_le _, List.nodup_nil, 0, by decide, rfl⟩, 0, Nat.le_refl _, rfl, fun n hn => absurd hn List.not_mem_nil⟩, fun j j1 => ?_⟩
  · refine (e1.kept (w1 := w2) k21 ?_).kept ?_ ?_
    · exact (f2 2 (by decide)).trans ((va_up_ne _ _ (by decide)).trans (va_up_ne _ _ (by decide)))
    · (repeat (refine (va_up_ne _ _ (by first | assumption | omega)).trans ?_))
      refine (f4 1 (by decide) (by decide) (by decide)).trans ?_
      (repeat (refine (va_up_ne _ _ (by first | assumption | omega)).trans ?_))
      refine (f3 1 (by decide)).trans ?_
      (repeat (refine (va_up_ne _ _ (by first | assumption | omega)).trans ?_))
      rfl
    · (repeat (refine (va_up_ne _ _ (by first | assumption | omega)).trans ?_))
      refine (f4 2 (by decide) (by decide) (by decide)).trans ?_
      (repeat (refine (va_up_ne _ _ (by first | assumption | omega)).trans ?_))
      refine (f3 2 (by decide)).trans ?_
      (repeat (refine (va_up_ne _ _ (by first | assumption | omega)).trans ?_))
      rfl
  · refine e2.kept ?_ ?_
    · (repeat (refine (va_up_ne _ _ (by first | assumption | omega)).trans ?_))
      refine (f4 3 (by decide) (by decide) (by decide)).trans ?_
      (repeat (refine (va_up_ne _ _ (by first | assumption | omega)).trans ?_))
      refine (f3 3 (by decide)).trans ?_
      (repeat (refine (va_up_ne _ _ (by first | assumption | omega)).trans ?_))
      rfl
    · (repeat (refine (va_up_ne _ _ (by first | assumption | omega)).trans ?_))
      refine (f4 4 (by decide) (by decide) (by decide)).trans ?_
      (repeat (refine (va_up_ne _ _ (by first | assumption | omega)).trans ?_))
      refine (f3 4 (by decide)).trans ?_
      (repeat (refine (va_up_ne _ _ (by first | assumption | omega)).trans ?_))
      rfl
  · refine e3.kept ?_ ?_
    · (repeat (refine (va_up_ne _ _ (by first | assumption | omega)).trans ?_))
      refine (f4 5 (by decide) (by decide) (by decide)).trans ?_
      (repeat (refine (va_up_ne _ _ (by first | assumption | omega)).trans ?_))
      rfl
    · (repeat (refine (va_up_ne _ _ (by first | assumption | omega)).trans ?_))
      refine (f4 6 (by decide) (by decide) (by decide)).trans ?_
      (repeat (refine (va_up_ne _ _ (by first | assumption | omega)).trans ?_))
      rfl
  · (repeat (refine (va_up_ne _ _ (by first | assumption | omega)).trans ?_))
    exact e7
  · (repeat (refine (va_up_ne _ _ (by first | assumption | omega)).trans ?_))
    exact e8
  · (repeat (refine (va_up_ne _ _ (by first | assumption | omega)).trans ?_))
    exact e9
  · (repeat (refine (va_up_ne _ _ (by first | assumption | omega)).trans ?_))
    exact zk_eq
  · (repeat (refine (va_up_ne _ _ (by first | assumption | omega)).trans ?_))
    exact zk_eq
  · (repeat (refine (va_up_ne _ _ (by first | assumption | omega)).trans ?_))
    exact zk_eq
  · (repeat (refine (va_up_ne _ _ (by first | assumption | omega)).trans ?_))
    refine (f4 j (by omega) (by omega) (by omega)).trans ?_
    (repeat (refine (va_up_ne _ _ (by first | assumption | omega)).trans ?_))
    refine (f3 j (by omega)).trans ?_
    (repeat (refine (va_up_ne _ _ (by first | assumption | omega)).trans ?_))
    refine (f2 j (by omega)).trans ?_
    (repeat (refine (va_up_ne _ _ (by first | assumption | omega)).trans ?_))
    refine (f1 j (by omega)).trans ?_
    (repeat (refine (va_up_ne _ _ (by first | assumption | omega)).trans ?_))
    rfl
end ZH6
