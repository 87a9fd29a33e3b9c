/-! HiringHallModel: the constructor -/
def mG0 : Nat → Nat → Int32 := fun k j => if k = 0 then if j < 30 then -1 else 0 else 0
def mF0 : Nat → Int32 := fun j => if j = 18 then 8 else 0
section ZM11
variable {l : Launch} {z : zT} {w : zW}
theorem q_init (hl : l.stackTraces = false) {a : Nat} (h : w 20 = some (a, .inr (4, [.null, .null, .null, .null, .null, .null, .null, .null, .null, .null, .null, .int 0, .int 0, .null, .null, .null, .null, .int 0, .int 0, .int 0, .int 0, .int 0, .null, .null, .null, .int 0]))) : ZM l z mX3_init 1 18 500 [.ref a] w (fun r w1 => r = none ∧ MM z a w1 (mG0, mF0) ∧ zFm w w1) zNo := by
  refine zbody (M := mX3_init) (L0 := [_, _]) hl (by simp [Value.category]) (Nat.le_of_ble_eq_true rfl) (by decide +kernel) rfl ?_
  intro p e s m args below meth c C hX hnm hret
  replace C : zC z p l s m args meth c cX3_init RX3 2 := C
  replace hret : meth.sig.returnType = none := hret
  refine z_aload_n C dX3_init_0 rfl ?_
  refine z_obj C zl_X3_1 zoi zoc dX3_init_1 rfl (by exact Nat.le_of_ble_eq_true rfl) (by exact Nat.le_of_ble_eq_true rfl) ?_
  refine z_aload_n C dX3_init_4 rfl ?_
  refine z_bipush C (30) dX3_init_5 (by decide) ?_
  refine z_newI C 21 (n := 30) rfl (by decide) za_I dX3_init_7 (by exact Nat.le_of_ble_eq_true rfl) (by exact Nat.le_of_ble_eq_true rfl) (fun q21 hq21 => ?_)
  refine z_putF C (fs1 := [_, _, _, _, _, _, _, _, _, _, _, _, _, _, _, _, _, _, _, _, _, _, _, _, _, _]) zp_X3_7 hnm rfl dX3_init_9 (by first | assumption | exact zk_eq | exact zk_ne (by first | assumption | exact zk_eq | exact zk_ne (by first | assumption | exact zk_eq | exact zk_ne (by first | assumption | exact zk_eq | exact zk_ne (by first | assumption | exact zk_eq | exact zk_ne (by first | assumption | exact zk_eq) (by first | decide | omega)) (by first | decide | omega)) (by first | decide | omega)) (by first | decide | omega)) (by first | decide | omega)) (by first | rfl | exact zb_nar _ | assumption) (by first | rfl | exact zb_fit _ | assumption) (by exact Nat.le_of_ble_eq_true rfl) rfl ?_
  refine z_aload_n C dX3_init_12 rfl ?_
  refine z_bipush C (30) dX3_init_13 (by decide) ?_
  refine z_newI C 22 (n := 30) rfl (by decide) za_I dX3_init_15 (by exact Nat.le_of_ble_eq_true rfl) (by exact Nat.le_of_ble_eq_true rfl) (fun q22 hq22 => ?_)
  refine z_putF C (fs1 := [_, _, _, _, _, _, _, _, _, _, _, _, _, _, _, _, _, _, _, _, _, _, _, _, _, _]) zp_X3_13 hnm rfl dX3_init_17 (by first | assumption | exact zk_eq | exact zk_ne (by first | assumption | exact zk_eq | exact zk_ne (by first | assumption | exact zk_eq | exact zk_ne (by first | assumption | exact zk_eq | exact zk_ne (by first | assumption | exact zk_eq | exact zk_ne (by first | assumption | exact zk_eq) (by first | decide | omega)) (by first | decide | omega)) (by first | decide | omega)) (by first | decide | omega)) (by first | decide | omega)) (by first | rfl | exact zb_nar _ | assumption) (by first | rfl | exact zb_fit _ | assumption) (by exact Nat.le_of_ble_eq_true rfl) rfl ?_
  refine z_aload_n C dX3_init_20 rfl ?_
  refine z_bipush C (30) dX3_init_21 (by decide) ?_
  refine z_newI C 23 (n := 30) rfl (by decide) za_I dX3_init_23 (by exact Nat.le_of_ble_eq_true rfl) (by exact Nat.le_of_ble_eq_true rfl) (fun q23 hq23 => ?_)
  refine z_putF C (fs1 := [_, _, _, _, _, _, _, _, _, _, _, _, _, _, _, _, _, _, _, _, _, _, _, _, _, _]) zp_X3_16 hnm rfl dX3_init_25 (by first | assumption | exact zk_eq | exact zk_ne (by first | assumption | exact zk_eq | exact zk_ne (by first | assumption | exact zk_eq | exact zk_ne (by first | assumption | exact zk_eq | exact zk_ne (by first | assumption | exact zk_eq | exact zk_ne (by first | assumption | exact zk_eq) (by first | decide | omega)) (by first | decide | omega)) (by first | decide | omega)) (by first | decide | omega)) (by first | decide | omega)) (by first | rfl | exact zb_nar _ | assumption) (by first | rfl | exact zb_fit _ | assumption) (by exact Nat.le_of_ble_eq_true rfl) rfl ?_
  refine z_aload_n C dX3_init_28 rfl ?_
  refine z_bipush C (30) dX3_init_29 (by decide) ?_
  refine z_newI C 24 (n := 30) rfl (by decide) za_I dX3_init_31 (by exact Nat.le_of_ble_eq_true rfl) (by exact Nat.le_of_ble_eq_true rfl) (fun q24 hq24 => ?_)
  refine z_putF C (fs1 := [_, _, _, _, _, _, _, _, _, _, _, _, _, _, _, _, _, _, _, _, _, _, _, _, _, _]) zp_X3_19 hnm rfl dX3_init_33 (by first | assumption | exact zk_eq | exact zk_ne (by first | assumption | exact zk_eq | exact zk_ne (by first | assumption | exact zk_eq | exact zk_ne (by first | assumption | exact zk_eq | exact zk_ne (by first | assumption | exact zk_eq | exact zk_ne (by first | assumption | exact zk_eq) (by first | decide | omega)) (by first | decide | omega)) (by first | decide | omega)) (by first | decide | omega)) (by first | decide | omega)) (by first | rfl | exact zb_nar _ | assumption) (by first | rfl | exact zb_fit _ | assumption) (by exact Nat.le_of_ble_eq_true rfl) rfl ?_
  refine z_aload_n C dX3_init_36 rfl ?_
  refine z_bipush C (30) dX3_init_37 (by decide) ?_
  refine z_newZ C 25 (n := 30) rfl (by decide) za_Z dX3_init_39 (by exact Nat.le_of_ble_eq_true rfl) (by exact Nat.le_of_ble_eq_true rfl) (fun q25 hq25 => ?_)
  refine z_putF C (fs1 := [_, _, _, _, _, _, _, _, _, _, _, _, _, _, _, _, _, _, _, _, _, _, _, _, _, _]) zp_X3_22 hnm rfl dX3_init_41 (by first | assumption | exact zk_eq | exact zk_ne (by first | assumption | exact zk_eq | exact zk_ne (by first | assumption | exact zk_eq | exact zk_ne (by first | assumption | exact zk_eq | exact zk_ne (by first | assumption | exact zk_eq | exact zk_ne (by first | assumption | exact zk_eq) (by first | decide | omega)) (by first | decide | omega)) (by first | decide | omega)) (by first | decide | omega)) (by first | decide | omega)) (by first | rfl | exact zb_nar _ | assumption) (by first | rfl | exact zb_fit _ | assumption) (by exact Nat.le_of_ble_eq_true rfl) rfl ?_
  refine z_aload_n C dX3_init_44 rfl ?_
  refine z_bipush C (30) dX3_init_45 (by decide) ?_
  refine z_newZ C 26 (n := 30) rfl (by decide) za_Z dX3_init_47 (by exact Nat.le_of_ble_eq_true rfl) (by exact Nat.le_of_ble_eq_true rfl) (fun q26 hq26 => ?_)
  refine z_putF C (fs1 := [_, _, _, _, _, _, _, _, _, _, _, _, _, _, _, _, _, _, _, _, _, _, _, _, _, _]) zp_X3_26 hnm rfl dX3_init_49 (by first | assumption | exact zk_eq | exact zk_ne (by first | assumption | exact zk_eq | exact zk_ne (by first | assumption | exact zk_eq | exact zk_ne (by first | assumption | exact zk_eq | exact zk_ne (by first | assumption | exact zk_eq | exact zk_ne (by first | assumption | exact zk_eq) (by first | decide | omega)) (by first | decide | omega)) (by first | decide | omega)) (by first | decide | omega)) (by first | decide | omega)) (by first | rfl | exact zb_nar _ | assumption) (by first | rfl | exact zb_fit _ | assumption) (by exact Nat.le_of_ble_eq_true rfl) rfl ?_
  refine z_aload_n C dX3_init_52 rfl ?_
  refine z_bipush C (30) dX3_init_53 (by decide) ?_
  refine z_newZ C 27 (n := 30) rfl (by decide) za_Z dX3_init_55 (by exact Nat.le_of_ble_eq_true rfl) (by exact Nat.le_of_ble_eq_true rfl) (fun q27 hq27 => ?_)
  refine z_putF C (fs1 := [_, _, _, _, _, _, _, _, _, _, _, _, _, _, _, _, _, _, _, _, _, _, _, _, _, _]) zp_X3_29 hnm rfl dX3_init_57 (by first | assumption | exact zk_eq | exact zk_ne (by first | assumption | exact zk_eq | exact zk_ne (by first | assumption | exact zk_eq | exact zk_ne (by first | assumption | exact zk_eq | exact zk_ne (by first | assumption | exact zk_eq | exact zk_ne (by first | assumption | exact zk_eq) (by first | decide | omega)) (by first | decide | omega)) (by first | decide | omega)) (by first | decide | omega)) (by first | decide | omega)) (by first | rfl | exact zb_nar _ | assumption) (by first | rfl | exact zb_fit _ | assumption) (by exact Nat.le_of_ble_eq_true rfl) rfl ?_
  refine z_aload_n C dX3_init_60 rfl ?_
  refine z_bipush C (30) dX3_init_61 (by decide) ?_
  refine z_newI C 28 (n := 30) rfl (by decide) za_I dX3_init_63 (by exact Nat.le_of_ble_eq_true rfl) (by exact Nat.le_of_ble_eq_true rfl) (fun q28 hq28 => ?_)
  refine z_putF C (fs1 := [_, _, _, _, _, _, _, _, _, _, _, _, _, _, _, _, _, _, _, _, _, _, _, _, _, _]) zp_X3_32 hnm rfl dX3_init_65 (by first | assumption | exact zk_eq | exact zk_ne (by first | assumption | exact zk_eq | exact zk_ne (by first | assumption | exact zk_eq | exact zk_ne (by first | assumption | exact zk_eq | exact zk_ne (by first | assumption | exact zk_eq | exact zk_ne (by first | assumption | exact zk_eq) (by first | decide | omega)) (by first | decide | omega)) (by first | decide | omega)) (by first | decide | omega)) (by first | decide | omega)) (by first | rfl | exact zb_nar _ | assumption) (by first | rfl | exact zb_fit _ | assumption) (by exact Nat.le_of_ble_eq_true rfl) rfl ?_
  refine z_aload_n C dX3_init_68 rfl ?_
  refine z_bipush C (30) dX3_init_69 (by decide) ?_
  refine z_newI C 29 (n := 30) rfl (by decide) za_I dX3_init_71 (by exact Nat.le_of_ble_eq_true rfl) (by exact Nat.le_of_ble_eq_true rfl) (fun q29 hq29 => ?_)
  refine z_putF C (fs1 := [_, _, _, _, _, _, _, _, _, _, _, _, _, _, _, _, _, _, _, _, _, _, _, _, _, _]) zp_X3_35 hnm rfl dX3_init_73 (by first | assumption | exact zk_eq | exact zk_ne (by first | assumption | exact zk_eq | exact zk_ne (by first | assumption | exact zk_eq | exact zk_ne (by first | assumption | exact zk_eq | exact zk_ne (by first | assumption | exact zk_eq | exact zk_ne (by first | assumption | exact zk_eq) (by first | decide | omega)) (by first | decide | omega)) (by first | decide | omega)) (by first | decide | omega)) (by first | decide | omega)) (by first | rfl | exact zb_nar _ | assumption) (by first | rfl | exact zb_fit _ | assumption) (by exact Nat.le_of_ble_eq_true rfl) rfl ?_
  refine z_aload_n C dX3_init_76 rfl ?_
  refine z_bipush C (30) dX3_init_77 (by decide) ?_
  refine z_newI C 30 (n := 30) rfl (by decide) za_I dX3_init_79 (by exact Nat.le_of_ble_eq_true rfl) (by exact Nat.le_of_ble_eq_true rfl) (fun q30 hq30 => ?_)
  refine z_putF C (fs1 := [_, _, _, _, _, _, _, _, _, _, _, _, _, _, _, _, _, _, _, _, _, _, _, _, _, _]) zp_X3_38 hnm rfl dX3_init_81 (by first | assumption | exact zk_eq | exact zk_ne (by first | assumption | exact zk_eq | exact zk_ne (by first | assumption | exact zk_eq | exact zk_ne (by first | assumption | exact zk_eq | exact zk_ne (by first | assumption | exact zk_eq | exact zk_ne (by first | assumption | exact zk_eq) (by first | decide | omega)) (by first | decide | omega)) (by first | decide | omega)) (by first | decide | omega)) (by first | decide | omega)) (by first | rfl | exact zb_nar _ | assumption) (by first | rfl | exact zb_fit _ | assumption) (by exact Nat.le_of_ble_eq_true rfl) rfl ?_
  refine z_aload_n C dX3_init_84 rfl ?_
  refine z_bipush C (30) dX3_init_85 (by decide) ?_
  refine z_newI C 31 (n := 30) rfl (by decide) za_I dX3_init_87 (by exact Nat.le_of_ble_eq_true rfl) (by exact Nat.le_of_ble_eq_true rfl) (fun q31 hq31 => ?_)
  refine z_putF C (fs1 := [_, _, _, _, _, _, _, _, _, _, _, _, _, _, _, _, _, _, _, _, _, _, _, _, _, _]) zp_X3_41 hnm rfl dX3_init_89 (by first | assumption | exact zk_eq | exact zk_ne (by first | assumption | exact zk_eq | exact zk_ne (by first | assumption | exact zk_eq | exact zk_ne (by first | assumption | exact zk_eq | exact zk_ne (by first | assumption | exact zk_eq | exact zk_ne (by first | assumption | exact zk_eq) (by first | decide | omega)) (by first | decide | omega)) (by first | decide | omega)) (by first | decide | omega)) (by first | decide | omega)) (by first | rfl | exact zb_nar _ | assumption) (by first | rfl | exact zb_fit _ | assumption) (by exact Nat.le_of_ble_eq_true rfl) rfl ?_
  refine z_aload_n C dX3_init_92 rfl ?_
  refine z_iconst C (4) dX3_init_93 (by decide) ?_
  refine z_newZ C 32 (n := 4) rfl (by decide) za_Z dX3_init_94 (by exact Nat.le_of_ble_eq_true rfl) (by exact Nat.le_of_ble_eq_true rfl) (fun q32 hq32 => ?_)
  refine z_putF C (fs1 := [_, _, _, _, _, _, _, _, _, _, _, _, _, _, _, _, _, _, _, _, _, _, _, _, _, _]) zp_X3_44 hnm rfl dX3_init_96 (by first | assumption | exact zk_eq | exact zk_ne (by first | assumption | exact zk_eq | exact zk_ne (by first | assumption | exact zk_eq | exact zk_ne (by first | assumption | exact zk_eq | exact zk_ne (by first | assumption | exact zk_eq | exact zk_ne (by first | assumption | exact zk_eq) (by first | decide | omega)) (by first | decide | omega)) (by first | decide | omega)) (by first | decide | omega)) (by first | decide | omega)) (by first | rfl | exact zb_nar _ | assumption) (by first | rfl | exact zb_fit _ | assumption) (by exact Nat.le_of_ble_eq_true rfl) rfl ?_
  refine z_aload_n C dX3_init_99 rfl ?_
  refine z_iconst C (4) dX3_init_100 (by decide) ?_
  refine z_newI C 33 (n := 4) rfl (by decide) za_I dX3_init_101 (by exact Nat.le_of_ble_eq_true rfl) (by exact Nat.le_of_ble_eq_true rfl) (fun q33 hq33 => ?_)
  refine z_putF C (fs1 := [_, _, _, _, _, _, _, _, _, _, _, _, _, _, _, _, _, _, _, _, _, _, _, _, _, _]) zp_X3_47 hnm rfl dX3_init_103 (by first | assumption | exact zk_eq | exact zk_ne (by first | assumption | exact zk_eq | exact zk_ne (by first | assumption | exact zk_eq | exact zk_ne (by first | assumption | exact zk_eq | exact zk_ne (by first | assumption | exact zk_eq | exact zk_ne (by first | assumption | exact zk_eq) (by first | decide | omega)) (by first | decide | omega)) (by first | decide | omega)) (by first | decide | omega)) (by first | decide | omega)) (by first | rfl | exact zb_nar _ | assumption) (by first | rfl | exact zb_fit _ | assumption) (by exact Nat.le_of_ble_eq_true rfl) rfl ?_
  refine z_aload_n C dX3_init_106 rfl ?_
  refine z_bipush C (16) dX3_init_107 (by decide) ?_
  refine z_newI C 34 (n := 16) rfl (by decide) za_I dX3_init_109 (by exact Nat.le_of_ble_eq_true rfl) (by exact Nat.le_of_ble_eq_true rfl) (fun q34 hq34 => ?_)
  refine z_putF C (fs1 := [_, _, _, _, _, _, _, _, _, _, _, _, _, _, _, _, _, _, _, _, _, _, _, _, _, _]) zp_X3_50 hnm rfl dX3_init_111 (by first | assumption | exact zk_eq | exact zk_ne (by first | assumption | exact zk_eq | exact zk_ne (by first | assumption | exact zk_eq | exact zk_ne (by first | assumption | exact zk_eq | exact zk_ne (by first | assumption | exact zk_eq | exact zk_ne (by first | assumption | exact zk_eq) (by first | decide | omega)) (by first | decide | omega)) (by first | decide | omega)) (by first | decide | omega)) (by first | decide | omega)) (by first | rfl | exact zb_nar _ | assumption) (by first | rfl | exact zb_fit _ | assumption) (by exact Nat.le_of_ble_eq_true rfl) rfl ?_
  refine z_aload_n C dX3_init_114 rfl ?_
  refine z_bipush C (16) dX3_init_115 (by decide) ?_
  refine z_newI C 35 (n := 16) rfl (by decide) za_I dX3_init_117 (by exact Nat.le_of_ble_eq_true rfl) (by exact Nat.le_of_ble_eq_true rfl) (fun q35 hq35 => ?_)
  refine z_putF C (fs1 := [_, _, _, _, _, _, _, _, _, _, _, _, _, _, _, _, _, _, _, _, _, _, _, _, _, _]) zp_X3_53 hnm rfl dX3_init_119 (by first | assumption | exact zk_eq | exact zk_ne (by first | assumption | exact zk_eq | exact zk_ne (by first | assumption | exact zk_eq | exact zk_ne (by first | assumption | exact zk_eq | exact zk_ne (by first | assumption | exact zk_eq | exact zk_ne (by first | assumption | exact zk_eq) (by first | decide | omega)) (by first | decide | omega)) (by first | decide | omega)) (by first | decide | omega)) (by first | decide | omega)) (by first | rfl | exact zb_nar _ | assumption) (by first | rfl | exact zb_fit _ | assumption) (by exact Nat.le_of_ble_eq_true rfl) rfl ?_
  refine z_aload_n C dX3_init_122 rfl ?_
  refine z_bipush C (8) dX3_init_123 (by decide) ?_
  refine z_putf C (fs1 := [_, _, _, _, _, _, _, _, _, _, _, _, _, _, _, _, _, _, _, _, _, _, _, _, _, _]) zp_X3_56 dX3_init_125 (by first | assumption | exact zk_eq | exact zk_ne (by first | assumption | exact zk_eq | exact zk_ne (by first | assumption | exact zk_eq | exact zk_ne (by first | assumption | exact zk_eq | exact zk_ne (by first | assumption | exact zk_eq | exact zk_ne (by first | assumption | exact zk_eq) (by first | decide | omega)) (by first | decide | omega)) (by first | decide | omega)) (by first | decide | omega)) (by first | decide | omega)) (by first | rfl | exact zb_nar _ | assumption) (by first | rfl | exact zb_fit _ | assumption) (by exact Nat.le_of_ble_eq_true rfl) (by rfl) ?_
  refine z_aload_n C dX3_init_128 rfl ?_
  refine z_bipush C (30) dX3_init_129 (by decide) ?_
  refine z_newI C 36 (n := 30) rfl (by decide) za_I dX3_init_131 (by exact Nat.le_of_ble_eq_true rfl) (by exact Nat.le_of_ble_eq_true rfl) (fun q36 hq36 => ?_)
  refine z_putF C (fs1 := [_, _, _, _, _, _, _, _, _, _, _, _, _, _, _, _, _, _, _, _, _, _, _, _, _, _]) zp_X3_60 hnm rfl dX3_init_133 (by first | assumption | exact zk_eq | exact zk_ne (by first | assumption | exact zk_eq | exact zk_ne (by first | assumption | exact zk_eq | exact zk_ne (by first | assumption | exact zk_eq | exact zk_ne (by first | assumption | exact zk_eq | exact zk_ne (by first | assumption | exact zk_eq) (by first | decide | omega)) (by first | decide | omega)) (by first | decide | omega)) (by first | decide | omega)) (by first | decide | omega)) (by first | rfl | exact zb_nar _ | assumption) (by first | rfl | exact zb_fit _ | assumption) (by exact Nat.le_of_ble_eq_true rfl) rfl ?_
  refine z_aload_n C dX3_init_136 rfl ?_
  refine z_bipush C (30) dX3_init_137 (by decide) ?_
  refine z_newI C 37 (n := 30) rfl (by decide) za_I dX3_init_139 (by exact Nat.le_of_ble_eq_true rfl) (by exact Nat.le_of_ble_eq_true rfl) (fun q37 hq37 => ?_)
  refine z_putF C (fs1 := [_, _, _, _, _, _, _, _, _, _, _, _, _, _, _, _, _, _, _, _, _, _, _, _, _, _]) zp_X3_63 hnm rfl dX3_init_141 (by first | assumption | exact zk_eq | exact zk_ne (by first | assumption | exact zk_eq | exact zk_ne (by first | assumption | exact zk_eq | exact zk_ne (by first | assumption | exact zk_eq | exact zk_ne (by first | assumption | exact zk_eq | exact zk_ne (by first | assumption | exact zk_eq) (by first | decide | omega)) (by first | decide | omega)) (by first | decide | omega)) (by first | decide | omega)) (by first | decide | omega)) (by first | rfl | exact zb_nar _ | assumption) (by first | rfl | exact zb_fit _ | assumption) (by exact Nat.le_of_ble_eq_true rfl) rfl ?_
  refine z_aload_n C dX3_init_144 rfl ?_
  refine z_iconst C (5) dX3_init_145 (by decide) ?_
  refine z_newI C 38 (n := 5) rfl (by decide) za_I dX3_init_146 (by exact Nat.le_of_ble_eq_true rfl) (by exact Nat.le_of_ble_eq_true rfl) (fun q38 hq38 => ?_)
  refine z_putF C (fs1 := [_, _, _, _, _, _, _, _, _, _, _, _, _, _, _, _, _, _, _, _, _, _, _, _, _, _]) zp_X3_66 hnm rfl dX3_init_148 (by first | assumption | exact zk_eq | exact zk_ne (by first | assumption | exact zk_eq | exact zk_ne (by first | assumption | exact zk_eq | exact zk_ne (by first | assumption | exact zk_eq | exact zk_ne (by first | assumption | exact zk_eq | exact zk_ne (by first | assumption | exact zk_eq) (by first | decide | omega)) (by first | decide | omega)) (by first | decide | omega)) (by first | decide | omega)) (by first | decide | omega)) (by first | rfl | exact zb_nar _ | assumption) (by first | rfl | exact zb_fit _ | assumption) (by exact Nat.le_of_ble_eq_true rfl) rfl ?_
  refine z_iconst C (0) dX3_init_151 (by decide) ?_
  refine z_istore_n C (L1 := [_, _]) dX3_init_152 (Nat.le_of_ble_eq_true rfl) rfl ?_
  have hbd : ∃ bd : Nat → Nat, bd 20 = a ∧ bd 21 = q21 ∧ bd 22 = q22 ∧ bd 23 = q23 ∧ bd 24 = q24 ∧ bd 25 = q25 ∧ bd 26 = q26 ∧ bd 27 = q27 ∧ bd 28 = q28 ∧ bd 29 = q29 ∧ bd 30 = q30 ∧ bd 31 = q31 ∧ bd 32 = q32 ∧ bd 33 = q33 ∧ bd 34 = q34 ∧ bd 35 = q35 ∧ bd 36 = q36 ∧ bd 37 = q37 ∧ bd 38 = q38 := ⟨fun j => if j = 20 then a else if j = 21 then q21 else if j = 22 then q22 else if j = 23 then q23 else if j = 24 then q24 else if j = 25 then q25 else if j = 26 then q26 else if j = 27 then q27 else if j = 28 then q28 else if j = 29 then q29 else if j = 30 then q30 else if j = 31 then q31 else if j = 32 then q32 else if j = 33 then q33 else if j = 34 then q34 else if j = 35 then q35 else if j = 36 then q36 else if j = 37 then q37 else q38, rfl, rfl, rfl, rfl, rfl, rfl, rfl, rfl, rfl, rfl, rfl, rfl, rfl, rfl, rfl, rfl, rfl, rfl, rfl⟩
  obtain ⟨bd, rfl, rfl, rfl, rfl, rfl, rfl, rfl, rfl, rfl, rfl, rfl, rfl, rfl, rfl, rfl, rfl, rfl, rfl, rfl⟩ := hbd
  refine z_loop (fun n cs ss L w2 => ∃ (i : Nat) (g : Nat → Nat → Int32), n = 30 - i ∧ cs = 18 ∧ ss = 435 ∧ L = [some (.ref (bd 20)), some (.int (nI i))] ∧ i ≤ 30 ∧ MP z bd g mF0 w2 ∧ (∀ j : Nat, g 0 j = if j < i then -1 else 0) ∧ (∀ k : Nat, k ≠ 0 → g k = fun _ => 0) ∧ zFm w w2)
    ⟨0, fun _ _ => 0, rfl, rfl, rfl, rfl, Nat.zero_le _, ⟨?_, fun k hk => ?_⟩, fun j => by simp, fun _ _ => rfl, fun j hj => ?_⟩ ?_
  · exact zk_eq
  · rcases k with _ | _ | _ | _ | _ | _ | _ | _ | _ | _ | _ | _ | _ | _ | _ | _ | _ | _ | k
    all_goals first | (exfalso; omega) | skip
    all_goals (repeat (refine (va_up_ne _ _ (by decide)).trans ?_)) <;> exact va_up_self _ _ _
  · (repeat (refine (va_up_ne _ _ (by first | assumption | omega)).trans ?_))
    rfl
  rintro n cs ss L w2 ⟨i, g, rfl, rfl, rfl, rfl, q1, q2, q3, q4, q5⟩ ih
  have hY := q2
  obtain ⟨m20, m21, m22, m23, m24, m25, m26, m27, m28, m29, m30, m31, m32, m33, m34, m35, m36, m37, m38⟩ := q2.all
  refine z_iload_n C dX3_init_153 rfl ?_
  refine z_bipush C (30) dX3_init_154 (by decide) ?_
  refine z_icmp_ge C 172 dX3_init_156 (by decide) (fun c1 => ?_) (fun c1 => ?_)
  · have hi2 : i = 30 := Nat.le_antisymm q1 (ge_of_ge (by omega) (by omega) c1)
    subst hi2
    refine z_vret C hret dX3_init_172 (by first | exact Nat.le_of_ble_eq_true rfl | omega) (by first | exact Nat.le_of_ble_eq_true rfl | omega) ?_
    refine ⟨rfl, ⟨bd, g, rfl, hY, fun k hk => ?_⟩, q5⟩
    funext j
    by_cases e : k = 0
    · subst e
      rw [q3 j]
      rfl
    · rw [q4 k e]
      simp only [mG0, if_neg e]
  have hi2 : i < 30 := lt_of_nge (by omega) (by omega) c1
  refine z_aload_n C dX3_init_159 rfl ?_
  refine z_getf C zf_X3_7 dX3_init_160 (by first | assumption | exact zk_eq | exact zk_ne (by first | assumption | exact zk_eq | exact zk_ne (by first | assumption | exact zk_eq | exact zk_ne (by first | assumption | exact zk_eq | exact zk_ne (by first | assumption | exact zk_eq | exact zk_ne (by first | assumption | exact zk_eq) (by first | decide | omega)) (by first | decide | omega)) (by first | decide | omega)) (by first | decide | omega)) (by first | decide | omega)) (by rfl) ?_
  refine z_iload_n C dX3_init_163 rfl ?_
  refine z_iconst C (-1) dX3_init_164 (by decide) ?_
  refine z_iast C dX3_init_165 (by first | assumption | exact zk_eq | exact zk_ne (by first | assumption | exact zk_eq | exact zk_ne (by first | assumption | exact zk_eq | exact zk_ne (by first | assumption | exact zk_eq | exact zk_ne (by first | assumption | exact zk_eq | exact zk_ne (by first | assumption | exact zk_eq) (by first | decide | omega)) (by first | decide | omega)) (by first | decide | omega)) (by first | decide | omega)) (by first | decide | omega)) (by first | rfl | assumption) (by first | assumption | omega | decide) (by first | decide | omega) ?_
  refine z_iinc C (L1 := [_, _]) _ dX3_init_166 rfl (by first | exact zinc | rfl) rfl ?_
  refine z_goto C 153 dX3_init_169 (by decide) ?_
  refine ih (30 - (i + 1)) 18 435 _ _ (by omega) ⟨i + 1, _, rfl, rfl, rfl, rfl, hi2, hY.arr 0 (va_up (g 0) i (-1)), fun j => ?_, fun k hk => ?_, q5.up (by decide) (by decide)⟩
  · rw [va_up_self]
    by_cases e : j = i
    · subst e
      rw [va_up_self, if_pos (Nat.lt_succ_self _)]
    · rw [va_up_ne _ _ e, q3 j]
      by_cases e2 : j < i
      · rw [if_pos e2, if_pos (by omega)]
      · rw [if_neg e2, if_neg (by omega)]
  · rw [va_up_ne _ _ hk]
    exact q4 k hk
end ZM11
