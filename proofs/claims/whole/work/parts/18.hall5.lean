/-! HiringHall: takeInTurn, placeTaken -/
/-- those of the list r are asked in turn: behind it the turn, the workers, the taken ones, their skills -/
def tit (co : Nat → Int32) (P : List Int32) : List Nat → List Nat → (Nat → Nat → Int32) → List Nat → List Int32 → List Nat × (Nat → Nat → Int32) × List Nat × List Int32
  | [], ts, wk, tk, W => (ts, wk, tk, W)
  | n :: r, ts, wk, tk, W =>
    if rdy (wk n) && zHall (wk n 2 :: W) P then
      if wk n 4 = 0 then tit co P r ts wk (tk ++ [n]) (wk n 2 :: W) else tit co P r (zrefT co wk n ts) (zrefW wk n) tk W
    else tit co P r ts wk tk W
/-- the taken ones get places -/
def plt (nd : Nat → Int32) (m : Nat) : List Nat → List Nat → (Nat → Nat → Int32) → (Nat → Int32) → List Int32 → List Int32 → List Nat × (Nat → Nat → Int32) × (Nat → Int32) × List Int32 × List Int32
  | [], ts, wk, hi, W, P => (ts, wk, hi, W, P)
  | n :: r, ts, wk, hi, W, P =>
    match lowp wk nd ts n (W.erase (wk n 2)) P m with
    | some p => plt nd m r (pab (zstaW hi wk n (nI p)) n (ts.erase n)) (zstaW hi wk n (nI p)) (va_up hi 12 1) (W.erase (wk n 2)) (P.erase (nd p))
    | none => plt nd m r ts wk hi (W.erase (wk n 2)) P
theorem pab_erase_perm {wk : Nat → Nat → Int32} {n : Nat} {ts : List Nat} (h : n ∈ ts) : (pab wk n (ts.erase n)).Perm ts := (pab_perm _).trans (List.perm_cons_erase h).symm
theorem zrefT_perm {co : Nat → Int32} {wk : Nat → Nat → Int32} {n : Nat} {ts : List Nat} (h : n ∈ ts) : (zrefT co wk n ts).Perm ts := by
  unfold zrefT
  split
  · exact List.Perm.refl _
  · exact pab_erase_perm h
theorem hold_iff {wk : Nat → Nat → Int32} {p : Int32} {ts : List Nat} (h : ∀ n ∈ ts, wk n 0 ≠ -1) : hold wk p ts = -1 ↔ ∀ n ∈ ts, wk n 7 ≠ p := by
  unfold hold
  cases hf : ts.find? (fun n => decide (wk n 7 = p)) with
  | none =>
    have := List.find?_eq_none.mp hf
    simp at this
    exact ⟨fun _ n hn => this n hn, fun _ => rfl⟩
  | some n =>
    have h1 := List.find?_some hf
    have h2 := List.mem_of_find?_eq_some hf
    simp at h1
    exact ⟨fun q => absurd q (h n h2), fun q => absurd h1 (q n h2)⟩
theorem nI_ne {p q : Nat} (hp : p < 2 ^ 31) (hq : q < 2 ^ 31) (h : p ≠ q) : nI p ≠ nI q := fun e => h ((nI_eq hp hq).mp e)
theorem nI_nm1 {p : Nat} (hp : p < 2 ^ 31) : nI p ≠ -1 := fun e => by
  have := nI_pos hp
  rw [e] at this
  exact this (by decide)
/-- a place that is filled is open no more, all others are as before -/
theorem opl_sta {hi : Nat → Int32} {wk : Nat → Nat → Int32} {nd : Nat → Int32} {ts ts3 : List Nat} {n p : Nat} (hnum : ∀ q ∈ ts, wk q 0 ≠ -1) (hn : n ∈ ts) (h7 : wk n 7 = -1) (hp : p < 2 ^ 31) (hop : hold wk (nI p) ts = -1) (hperm : ts3.Perm ts) :
    ∀ c : Nat, c < 2 ^ 31 → (p < c → (opl wk nd ts c).Perm (nd p :: opl (zstaW hi wk n (nI p)) nd ts3 c)) ∧ (c ≤ p → opl wk nd ts c = opl (zstaW hi wk n (nI p)) nd ts3 c) := by
  have e7 : ∀ k : Nat, zstaW hi wk n (nI p) k 7 = if k = n then nI p else wk k 7 := by
    intro k
    unfold zstaW
    by_cases e : k = n
    · subst e
      rw [va_up_self, if_pos rfl, va_up_ne _ _ (by decide), va_up_ne _ _ (by decide), va_up_self]
    · rw [va_up_ne _ _ e, if_neg e]
  have e0 : ∀ k : Nat, zstaW hi wk n (nI p) k 0 = wk k 0 := by
    intro k
    unfold zstaW
    by_cases e : k = n
    · subst e
      rw [va_up_self, va_up_ne _ _ (by decide), va_up_ne _ _ (by decide), va_up_ne _ _ (by decide)]
    · rw [va_up_ne _ _ e]
  have hnum3 : ∀ q ∈ ts3, zstaW hi wk n (nI p) q 0 ≠ -1 := fun q hq => by rw [e0]; exact hnum q (hperm.mem_iff.mp hq)
  have hother : ∀ c : Nat, c < 2 ^ 31 → c ≠ p → (hold wk (nI c) ts = -1 ↔ hold (zstaW hi wk n (nI p)) (nI c) ts3 = -1) := by
    intro c hc hcp
    rw [hold_iff hnum, hold_iff hnum3]
    constructor
    · intro h k hk
      rw [e7]
      split
      · exact nI_ne hp hc (Ne.symm hcp)
      · exact h k (hperm.mem_iff.mp hk)
    · intro h k hk
      have := h k (hperm.mem_iff.mpr hk)
      rw [e7] at this
      by_cases e : k = n
      · subst e
        rw [h7]
        exact (nI_nm1 hc).symm
      · rw [if_neg e] at this
        exact this
  have hself : ¬ hold (zstaW hi wk n (nI p)) (nI p) ts3 = -1 := by
    rw [hold_iff hnum3]
    intro h
    exact h n (hperm.mem_iff.mpr hn) (by rw [e7, if_pos rfl])
  intro c
  induction c with
  | zero => intro _; exact ⟨fun h => absurd h (Nat.not_lt_zero _), fun _ => rfl⟩
  | succ c ih =>
    intro hc
    obtain ⟨i1, i2⟩ := ih (by omega)
    refine ⟨fun h => ?_, fun h => ?_⟩
    · by_cases e : c = p
      · subst e
        rw [opl_append, opl_append, if_pos hop, if_neg hself, i2 (Nat.le_refl _)]
      · rw [opl_append, opl_append]
        by_cases q : hold wk (nI c) ts = -1
        · rw [if_pos q, if_pos ((hother c (by omega) e).mp q)]
          exact ((i1 (by omega)).cons _).trans (List.Perm.swap _ _ _)
        · rw [if_neg q, if_neg (fun r => q ((hother c (by omega) e).mpr r))]
          exact i1 (by omega)
    · have e : c ≠ p := by omega
      rw [opl_append, opl_append, i2 (by omega)]
      by_cases q : hold wk (nI c) ts = -1
      · rw [if_pos q, if_pos ((hother c (by omega) e).mp q)]
      · rw [if_neg q, if_neg (fun r => q ((hother c (by omega) e).mpr r))]
section ZH5
variable {l : Launch} {z : zT} {w : zW} {ad : Nat → Nat} {co gu nd : Nat → Int32} {ts : List Nat} {wk : Nat → Nat → Int32} {hi : Nat → Int32} {tb tk : List Nat} {W P : List Int32}
theorem HP.num (h : HP z ad co gu nd w ts wk hi tb tk W P) : ∀ q ∈ ts, wk q 0 ≠ -1 := fun q hq => by
  obtain ⟨-, h1, h2⟩ := (h.2.2.2.2.2.2.2.2.1 q hq).2
  rw [h1]
  exact nI_nm1 (by omega)
theorem c_takeInTurn (hl : l.stackTraces = false) (h : HP z ad co gu nd w ts wk hi tb tk [] P) : ZM l z mX2_takeInTurn 10 60 3840 [.ref (ad 0)] w (fun r w1 => r = none ∧ HP z ad co gu nd w1 (tit co P ts ts wk [] []).1 (tit co P ts ts wk [] []).2.1 hi (ts.map (zWa ad)) ((tit co P ts ts wk [] []).2.2.1.map (zWa ad)) (tit co P ts ts wk [] []).2.2.2 P ∧ zFh w w1) zNo := by
  have hH := h
  obtain ⟨a0, a1, a3, a5, -, -, -, -, -, al, -, -⟩ := h
  obtain ⟨md5, b5, e5, -⟩ := id a5
  refine zbody (M := mX2_takeInTurn) (L0 := [_, _, _]) hl (by simp [Value.category]) (Nat.le_of_ble_eq_true rfl) (by decide +kernel) rfl ?_
  intro p e s m args below meth c C hX hnm hret
  replace C : zC z p l s m args meth c cX2_takeInTurn RX2 3 := C
  replace hret : meth.sig.returnType = none := hret
  refine z_aload_n C dX2_takeInTurn_0 rfl ?_
  refine z_getf C zf_X2_19 dX2_takeInTurn_1 (by first | assumption | exact zk_eq | exact zk_ne (by first | assumption | exact zk_eq | exact zk_ne (by first | assumption | exact zk_eq | exact zk_ne (by first | assumption | exact zk_eq | exact zk_ne (by first | assumption | exact zk_eq | exact zk_ne (by first | assumption | exact zk_eq) (by first | decide | omega)) (by first | decide | omega)) (by first | decide | omega)) (by first | decide | omega)) (by first | decide | omega)) (by rfl) ?_
  refine z_callV C zm_Jx4a65c_clear_da8c8 zl_X2_232 (c_clear hl a5) dX2_takeInTurn_4 (by first | assumption | exact zk_eq | exact zk_ne (by first | assumption | exact zk_eq | exact zk_ne (by first | assumption | exact zk_eq | exact zk_ne (by first | assumption | exact zk_eq | exact zk_ne (by first | assumption | exact zk_eq | exact zk_ne (by first | assumption | exact zk_eq) (by first | decide | omega)) (by first | decide | omega)) (by first | decide | omega)) (by first | decide | omega)) (by first | decide | omega)) (by rfl) (by rfl) (by rfl) (by exact Nat.le_of_ble_eq_true rfl) rfl (by exact ⟨Nat.le_of_ble_eq_true rfl, Nat.le_of_ble_eq_true rfl⟩) (by first | exact ⟨Nat.le_of_ble_eq_true rfl, Nat.le_of_ble_eq_true rfl⟩ | (simp only [zrm]; omega)) (fun _ _ h => z_xno h) (fun r w3 hq => ?_)
  obtain ⟨rfl, g1, g2⟩ := hq
  have hH2 := hH.stk g1 g2
  have a0' := hH2.1
  refine z_aload_n C dX2_takeInTurn_7 rfl ?_
  refine z_callV C zm_X2_rememberTurn zl_X2_120 (c_rememberTurn hl hH2) dX2_takeInTurn_8 (by first | assumption | exact zk_eq | exact zk_ne (by first | assumption | exact zk_eq | exact zk_ne (by first | assumption | exact zk_eq | exact zk_ne (by first | assumption | exact zk_eq | exact zk_ne (by first | assumption | exact zk_eq | exact zk_ne (by first | assumption | exact zk_eq) (by first | decide | omega)) (by first | decide | omega)) (by first | decide | omega)) (by first | decide | omega)) (by first | decide | omega)) (by rfl) (by rfl) (by rfl) (by exact Nat.le_of_ble_eq_true rfl) rfl (by exact ⟨Nat.le_of_ble_eq_true rfl, Nat.le_of_ble_eq_true rfl⟩) (by first | exact ⟨Nat.le_of_ble_eq_true rfl, Nat.le_of_ble_eq_true rfl⟩ | (simp only [zrm]; omega)) (fun _ _ h => z_xno h) (fun r w4 hq => ?_)
  obtain ⟨rfl, g3, g4⟩ := hq
  refine z_iconst C (0) dX2_takeInTurn_11 (by decide) ?_
  refine z_istore_n C (L1 := [_, _, _]) dX2_takeInTurn_12 (Nat.le_of_ble_eq_true rfl) rfl ?_
  have hfr : zFh w w4 := fun j j1 j2 => (g4 j (by omega) (by omega) (by omega)).trans (g2 j (by omega) (by omega) (by omega))
  refine z_loop (fun n cs ss L w2 => ∃ (i : Nat) (ts2 : List Nat) (wk2 : Nat → Nat → Int32) (tk2 : List Nat) (W2 : List Int32), n = ts.length - i ∧ cs = 30 + i ∧ ss = 1920 + 64 * i ∧ L = [some (.ref (ad 0)), some (.int (nI i)), none] ∧ i ≤ ts.length ∧ tit co P (ts.drop i) ts2 wk2 tk2 W2 = tit co P ts ts wk [] [] ∧ HP z ad co gu nd w2 ts2 wk2 hi (ts.map (zWa ad)) (tk2.map (zWa ad)) W2 P ∧ ts2.Perm ts ∧ tk2.length ≤ i ∧ W2.length ≤ i ∧ (∀ n ∈ tk2, n ∈ ts) ∧ zFh w w2)
    ⟨0, ts, wk, [], [], rfl, by omega, by omega, rfl, Nat.zero_le _, rfl, g3, List.Perm.refl _, Nat.le_refl _, Nat.le_refl _, fun n hn => absurd hn List.not_mem_nil, hfr⟩ ?_
  rintro n cs ss L w2 ⟨i, ts2, wk2, tk2, W2, rfl, hcs, hss, rfl, q1, q2, q3, q4, q5, q6, q7, q8⟩ ih
  have hX2 := q3
  obtain ⟨a0, a1, a3, a5, aM, -, -, -, am, al2, -, -⟩ := q3
  obtain ⟨md3, b3, e3, -⟩ := id a3
  obtain ⟨md5, b5, e5, -⟩ := id a5
  obtain ⟨a7, -, -, hWl, hPl⟩ := id aM
  rw [List.length_map] at e3 e5
  refine z_iload_n C dX2_takeInTurn_13 rfl ?_
  refine z_aload_n C dX2_takeInTurn_14 rfl ?_
  refine z_getf C zf_X2_16 dX2_takeInTurn_15 (by first | assumption | exact zk_eq | exact zk_ne (by first | assumption | exact zk_eq | exact zk_ne (by first | assumption | exact zk_eq | exact zk_ne (by first | assumption | exact zk_eq | exact zk_ne (by first | assumption | exact zk_eq | exact zk_ne (by first | assumption | exact zk_eq) (by first | decide | omega)) (by first | decide | omega)) (by first | decide | omega)) (by first | decide | omega)) (by first | decide | omega)) (by rfl) ?_
  refine z_callV C zm_Jx4a65c_size_8abf5 zl_X2_67 (c_size hl e3) dX2_takeInTurn_18 (by first | assumption | exact zk_eq | exact zk_ne (by first | assumption | exact zk_eq | exact zk_ne (by first | assumption | exact zk_eq | exact zk_ne (by first | assumption | exact zk_eq | exact zk_ne (by first | assumption | exact zk_eq | exact zk_ne (by first | assumption | exact zk_eq) (by first | decide | omega)) (by first | decide | omega)) (by first | decide | omega)) (by first | decide | omega)) (by first | decide | omega)) (by rfl) (by rfl) (by rfl) (by exact Nat.le_of_ble_eq_true rfl) rfl (by exact ⟨Nat.le_of_ble_eq_true rfl, Nat.le_of_ble_eq_true rfl⟩) (by first | exact ⟨Nat.le_of_ble_eq_true rfl, Nat.le_of_ble_eq_true rfl⟩ | (simp only [zrm]; omega)) (fun _ _ h => z_xno h) (fun r w1 hq => ?_)
  obtain ⟨rfl, rfl⟩ := hq
  refine z_icmp_ge C 98 dX2_takeInTurn_21 (by decide) (fun c1 => ?_) (fun c1 => ?_)
  · have hi2 := ge_of_ge (by omega) (by omega) c1
    refine z_widen (c2 := 60) (s2 := 3840) (by omega) (by omega) ?_
    refine z_vret C hret dX2_takeInTurn_98 (by first | exact Nat.le_of_ble_eq_true rfl | omega) (by first | exact Nat.le_of_ble_eq_true rfl | omega) ?_
    rw [List.drop_eq_nil_of_le hi2] at q2
    rw [← q2]
    exact ⟨rfl, hX2, q8⟩
  have hi2 : i < ts.length := lt_of_nge (by omega) (by omega) c1
  have hmem : ts[i] ∈ ts2 := q4.mem_iff.mpr (List.getElem_mem hi2)
  have en := (am _ hmem).1
  rw [List.drop_eq_getElem_cons hi2] at q2
  refine z_aload_n C dX2_takeInTurn_24 rfl ?_
  refine z_getf C zf_X2_16 dX2_takeInTurn_25 (by first | assumption | exact zk_eq | exact zk_ne (by first | assumption | exact zk_eq | exact zk_ne (by first | assumption | exact zk_eq | exact zk_ne (by first | assumption | exact zk_eq | exact zk_ne (by first | assumption | exact zk_eq | exact zk_ne (by first | assumption | exact zk_eq) (by first | decide | omega)) (by first | decide | omega)) (by first | decide | omega)) (by first | decide | omega)) (by first | decide | omega)) (by rfl) ?_
  refine z_iload_n C dX2_takeInTurn_28 rfl ?_
  refine z_callV C zm_Jx4a65c_get_915e3 zl_X2_123 (c_get (i := i) hl a3 (by simpa using hi2)) dX2_takeInTurn_29 (by first | assumption | exact zk_eq | exact zk_ne (by first | assumption | exact zk_eq | exact zk_ne (by first | assumption | exact zk_eq | exact zk_ne (by first | assumption | exact zk_eq | exact zk_ne (by first | assumption | exact zk_eq | exact zk_ne (by first | assumption | exact zk_eq) (by first | decide | omega)) (by first | decide | omega)) (by first | decide | omega)) (by first | decide | omega)) (by first | decide | omega)) (by rfl) (by rfl) (by rfl) (by exact Nat.le_of_ble_eq_true rfl) rfl (by exact ⟨Nat.le_of_ble_eq_true rfl, Nat.le_of_ble_eq_true rfl⟩) (by first | exact ⟨Nat.le_of_ble_eq_true rfl, Nat.le_of_ble_eq_true rfl⟩ | (simp only [zrm]; omega)) (fun _ _ h => z_xno h) (fun r w1 hq => ?_)
  obtain ⟨rfl, rfl⟩ := hq
  rw [List.getElem_map]
  refine z_castW C zk_X2_78 dX2_takeInTurn_32 (by first | assumption | exact zk_eq | exact zk_ne (by first | assumption | exact zk_eq | exact zk_ne (by first | assumption | exact zk_eq | exact zk_ne (by first | assumption | exact zk_eq | exact zk_ne (by first | assumption | exact zk_eq | exact zk_ne (by first | assumption | exact zk_eq) (by first | decide | omega)) (by first | decide | omega)) (by first | decide | omega)) (by first | decide | omega)) (by first | decide | omega)) ?_
  refine z_astore_n C (L1 := [_, _, _]) dX2_takeInTurn_35 (Nat.le_of_ble_eq_true rfl) rfl ?_
  refine z_aload_n C dX2_takeInTurn_36 rfl ?_
  refine z_callV C zm_X1_isReady zl_X2_178 (c_isReady hl en) dX2_takeInTurn_37 (by first | assumption | exact zk_eq | exact zk_ne (by first | assumption | exact zk_eq | exact zk_ne (by first | assumption | exact zk_eq | exact zk_ne (by first | assumption | exact zk_eq | exact zk_ne (by first | assumption | exact zk_eq | exact zk_ne (by first | assumption | exact zk_eq) (by first | decide | omega)) (by first | decide | omega)) (by first | decide | omega)) (by first | decide | omega)) (by first | decide | omega)) (by rfl) (by rfl) (by rfl) (by exact Nat.le_of_ble_eq_true rfl) rfl (by exact ⟨Nat.le_of_ble_eq_true rfl, Nat.le_of_ble_eq_true rfl⟩) (by first | exact ⟨Nat.le_of_ble_eq_true rfl, Nat.le_of_ble_eq_true rfl⟩ | (simp only [zrm]; omega)) (fun _ _ h => z_xno h) (fun r w1 hq => ?_)
  obtain ⟨rfl, rfl⟩ := hq
  refine z_if_eq C 92 dX2_takeInTurn_40 (by decide) (fun c2 => ?_) (fun c2 => ?_)
  · have c3 := zb_eq0.mp c2
    simp only [tit, c3, Bool.false_and, Bool.false_eq_true, if_false] at q2
    refine z_iinc C (L1 := [_, _, _]) _ dX2_takeInTurn_92 rfl (by first | exact zinc | rfl) rfl ?_
    refine z_goto C 13 dX2_takeInTurn_95 (by decide) ?_
    refine z_widen (c2 := 30 + (i + 1)) (s2 := 1920 + 64 * (i + 1)) (by omega) (by omega) ?_
    exact z_fgt (ih (ts.length - (i + 1)) _ _ _ _ (by omega) ⟨i + 1, ts2, wk2, tk2, W2, rfl, rfl, rfl, rfl, hi2, q2, hX2, q4, by omega, by omega, q7, q8⟩) (by simp [zle])
  have c3 : rdy (wk2 ts[i]) = true := by
    cases q : rdy (wk2 ts[i]) with
    | true => rfl
    | false => exact absurd (by rw [q]; rfl) c2
  refine z_aload_n C dX2_takeInTurn_43 rfl ?_
  refine z_getf C zf_X2_25 dX2_takeInTurn_44 (by first | assumption | exact zk_eq | exact zk_ne (by first | assumption | exact zk_eq | exact zk_ne (by first | assumption | exact zk_eq | exact zk_ne (by first | assumption | exact zk_eq | exact zk_ne (by first | assumption | exact zk_eq | exact zk_ne (by first | assumption | exact zk_eq) (by first | decide | omega)) (by first | decide | omega)) (by first | decide | omega)) (by first | decide | omega)) (by first | decide | omega)) (by rfl) ?_
  refine z_aload_n C dX2_takeInTurn_47 rfl ?_
  refine z_getf C zf_X2_103 dX2_takeInTurn_48 (by first | assumption | exact zk_eq | exact zk_ne (by first | assumption | exact zk_eq | exact zk_ne (by first | assumption | exact zk_eq | exact zk_ne (by first | assumption | exact zk_eq | exact zk_ne (by first | assumption | exact zk_eq | exact zk_ne (by first | assumption | exact zk_eq) (by first | decide | omega)) (by first | decide | omega)) (by first | decide | omega)) (by first | decide | omega)) (by first | decide | omega)) (by rfl) ?_
  refine z_callV C zm_X0_canPlaceAlso zl_X2_243 (c_canPlaceAlso hl aM (wk2 ts[i] 2)) dX2_takeInTurn_51 (by first | assumption | exact zk_eq | exact zk_ne (by first | assumption | exact zk_eq | exact zk_ne (by first | assumption | exact zk_eq | exact zk_ne (by first | assumption | exact zk_eq | exact zk_ne (by first | assumption | exact zk_eq | exact zk_ne (by first | assumption | exact zk_eq) (by first | decide | omega)) (by first | decide | omega)) (by first | decide | omega)) (by first | decide | omega)) (by first | decide | omega)) (by rfl) (by rfl) (by rfl) (by exact Nat.le_of_ble_eq_true rfl) rfl (by exact ⟨Nat.le_of_ble_eq_true rfl, Nat.le_of_ble_eq_true rfl⟩) (by first | exact ⟨Nat.le_of_ble_eq_true rfl, Nat.le_of_ble_eq_true rfl⟩ | (simp only [zrm]; omega)) (fun _ _ h => z_xno h) (fun r w1 hq => ?_)
  obtain ⟨rfl, rfl⟩ := hq
  refine z_if_eq C 92 dX2_takeInTurn_54 (by decide) (fun c4 => ?_) (fun c4 => ?_)
  · have c5 := zb_eq0.mp c4
    simp only [tit, c5, Bool.and_false, Bool.false_eq_true, if_false] at q2
    refine z_iinc C (L1 := [_, _, _]) _ dX2_takeInTurn_92 rfl (by first | exact zinc | rfl) rfl ?_
    refine z_goto C 13 dX2_takeInTurn_95 (by decide) ?_
    refine z_widen (c2 := 30 + (i + 1)) (s2 := 1920 + 64 * (i + 1)) (by omega) (by omega) ?_
    exact z_fgt (ih (ts.length - (i + 1)) _ _ _ _ (by omega) ⟨i + 1, ts2, wk2, tk2, W2, rfl, rfl, rfl, rfl, hi2, q2, hX2, q4, by omega, by omega, q7, q8⟩) (by simp [zle])
  have c5 : zHall (wk2 ts[i] 2 :: W2) P = true := by
    cases q : zHall (wk2 ts[i] 2 :: W2) P with
    | true => rfl
    | false => exact absurd (by rw [q]; rfl) c4
  simp only [tit, c3, c5, Bool.and_self, if_true] at q2
  refine z_aload_n C dX2_takeInTurn_57 rfl ?_
  refine z_getf C zf_X2_112 dX2_takeInTurn_58 (by first | assumption | exact zk_eq | exact zk_ne (by first | assumption | exact zk_eq | exact zk_ne (by first | assumption | exact zk_eq | exact zk_ne (by first | assumption | exact zk_eq | exact zk_ne (by first | assumption | exact zk_eq | exact zk_ne (by first | assumption | exact zk_eq) (by first | decide | omega)) (by first | decide | omega)) (by first | decide | omega)) (by first | decide | omega)) (by first | decide | omega)) (by rfl) ?_
  refine z_if_eq C 72 dX2_takeInTurn_61 (by decide) (fun c6 => ?_) (fun c6 => ?_)
  · rw [if_pos c6] at q2
    refine z_aload_n C dX2_takeInTurn_72 rfl ?_
    refine z_getf C zf_X2_25 dX2_takeInTurn_73 (by first | assumption | exact zk_eq | exact zk_ne (by first | assumption | exact zk_eq | exact zk_ne (by first | assumption | exact zk_eq | exact zk_ne (by first | assumption | exact zk_eq | exact zk_ne (by first | assumption | exact zk_eq | exact zk_ne (by first | assumption | exact zk_eq) (by first | decide | omega)) (by first | decide | omega)) (by first | decide | omega)) (by first | decide | omega)) (by first | decide | omega)) (by rfl) ?_
    refine z_aload_n C dX2_takeInTurn_76 rfl ?_
    refine z_getf C zf_X2_103 dX2_takeInTurn_77 (by first | assumption | exact zk_eq | exact zk_ne (by first | assumption | exact zk_eq | exact zk_ne (by first | assumption | exact zk_eq | exact zk_ne (by first | assumption | exact zk_eq | exact zk_ne (by first | assumption | exact zk_eq | exact zk_ne (by first | assumption | exact zk_eq) (by first | decide | omega)) (by first | decide | omega)) (by first | decide | omega)) (by first | decide | omega)) (by first | decide | omega)) (by rfl) ?_
    refine z_callV C zm_X0_addWorker zl_X2_204 (c_addWorker hl aM (wk2 ts[i] 2) (by omega)) dX2_takeInTurn_80 (by first | assumption | exact zk_eq | exact zk_ne (by first | assumption | exact zk_eq | exact zk_ne (by first | assumption | exact zk_eq | exact zk_ne (by first | assumption | exact zk_eq | exact zk_ne (by first | assumption | exact zk_eq | exact zk_ne (by first | assumption | exact zk_eq) (by first | decide | omega)) (by first | decide | omega)) (by first | decide | omega)) (by first | decide | omega)) (by first | decide | omega)) (by rfl) (by rfl) (by rfl) (by exact Nat.le_of_ble_eq_true rfl) rfl (by exact ⟨Nat.le_of_ble_eq_true rfl, Nat.le_of_ble_eq_true rfl⟩) (by first | exact ⟨Nat.le_of_ble_eq_true rfl, Nat.le_of_ble_eq_true rfl⟩ | (simp only [zrm]; omega)) (fun _ _ h => z_xno h) (fun r w6 hq => ?_)
    obtain ⟨rfl, g5, g6⟩ := hq
    have hX3 := hX2.mt g5 g6
    have hz := hX3.zwk
    have en6 := (hX3.2.2.2.2.2.2.2.2.1 _ hmem).1
    have a0'' := hX3.1
    have a56 := hX3.2.2.2.1
    obtain ⟨md6, b6, e6, -⟩ := id a56
    refine z_aload_n C dX2_takeInTurn_83 rfl ?_
    refine z_getf C zf_X2_19 dX2_takeInTurn_84 (by first | assumption | exact zk_eq | exact zk_ne (by first | assumption | exact zk_eq | exact zk_ne (by first | assumption | exact zk_eq | exact zk_ne (by first | assumption | exact zk_eq | exact zk_ne (by first | assumption | exact zk_eq | exact zk_ne (by first | assumption | exact zk_eq) (by first | decide | omega)) (by first | decide | omega)) (by first | decide | omega)) (by first | decide | omega)) (by first | decide | omega)) (by rfl) ?_
    refine z_aload_n C dX2_takeInTurn_87 rfl ?_
    refine z_callV C zm_Jx4a65c_add_9ea2d zl_X2_233 (c_addE hl a56 (by simp; omega) (fun y hy => by obtain ⟨k, hk, rfl⟩ := List.mem_map.mp hy; exact hz _ (List.mem_map.mpr ⟨k, q4.mem_iff.mpr (q7 k hk), rfl⟩)) ⟨100 + ts[i], _, by omega, en6⟩ (by decide)) dX2_takeInTurn_88 (by first | assumption | exact zk_eq | exact zk_ne (by first | assumption | exact zk_eq | exact zk_ne (by first | assumption | exact zk_eq | exact zk_ne (by first | assumption | exact zk_eq | exact zk_ne (by first | assumption | exact zk_eq | exact zk_ne (by first | assumption | exact zk_eq) (by first | decide | omega)) (by first | decide | omega)) (by first | decide | omega)) (by first | decide | omega)) (by first | decide | omega)) (by rfl) (by rfl) (by rfl) (by exact Nat.le_of_ble_eq_true rfl) rfl (by exact ⟨Nat.le_of_ble_eq_true rfl, Nat.le_of_ble_eq_true rfl⟩) (by first | exact ⟨Nat.le_of_ble_eq_true rfl, Nat.le_of_ble_eq_true rfl⟩ | (simp only [zrm]; omega)) (fun _ _ h => z_xno h) (fun r w7 hq => ?_)
    obtain ⟨rfl, g7, g8⟩ := hq
    refine z_pop C dX2_takeInTurn_91 rfl ?_
    refine z_iinc C (L1 := [_, _, _]) _ dX2_takeInTurn_92 rfl (by first | exact zinc | rfl) rfl ?_
    refine z_goto C 13 dX2_takeInTurn_95 (by decide) ?_
    refine z_fgt (ih (ts.length - (i + 1)) _ _ _ _ (by omega) ⟨i + 1, ts2, wk2, tk2 ++ [ts[i]], wk2 ts[i] 2 :: W2, rfl, by omega, by omega, rfl, hi2, q2, ?_, q4, by simp; omega, by simp; omega, fun k hk => ?_, fun j j1 j2 => (g8 j (by omega) (by omega) (by omega)).trans ((g6 j (by omega) (by omega)).trans (q8 j j1 j2))⟩) (by simp [zle])
    · refine hX3.stk ?_ g8
      rw [List.map_append]
      exact g7
    · rcases List.mem_append.mp hk with hk | hk
      · exact q7 k hk
      · rw [List.mem_singleton.mp hk]
        exact List.getElem_mem hi2
  · rw [if_neg c6] at q2
    refine z_aload_n C dX2_takeInTurn_64 rfl ?_
    refine z_aload_n C dX2_takeInTurn_65 rfl ?_
    refine z_callV C zm_X2_countRefusal zl_X2_188 (c_countRefusal hl hX2 hmem) dX2_takeInTurn_66 (by first | assumption | exact zk_eq | exact zk_ne (by first | assumption | exact zk_eq | exact zk_ne (by first | assumption | exact zk_eq | exact zk_ne (by first | assumption | exact zk_eq | exact zk_ne (by first | assumption | exact zk_eq | exact zk_ne (by first | assumption | exact zk_eq) (by first | decide | omega)) (by first | decide | omega)) (by first | decide | omega)) (by first | decide | omega)) (by first | decide | omega)) (by rfl) (by rfl) (by rfl) (by exact Nat.le_of_ble_eq_true rfl) rfl (by exact ⟨Nat.le_of_ble_eq_true rfl, Nat.le_of_ble_eq_true rfl⟩) (by first | exact ⟨Nat.le_of_ble_eq_true rfl, Nat.le_of_ble_eq_true rfl⟩ | (simp only [zrm]; omega)) (fun _ _ h => z_xno h) (fun r w6 hq => ?_)
    obtain ⟨rfl, g5, g6⟩ := hq
    refine z_goto C 92 dX2_takeInTurn_69 (by decide) ?_
    refine z_iinc C (L1 := [_, _, _]) _ dX2_takeInTurn_92 rfl (by first | exact zinc | rfl) rfl ?_
    refine z_goto C 13 dX2_takeInTurn_95 (by decide) ?_
    exact z_fgt (ih (ts.length - (i + 1)) _ _ _ _ (by omega) ⟨i + 1, _, _, tk2, W2, rfl, by omega, by omega, rfl, hi2, q2, g5, (zrefT_perm hmem).trans q4, by omega, by omega, q7, fun j j1 j2 => (g6 j j1 j2).trans (q8 j j1 j2)⟩) (by simp [zle])
theorem lowp_some {n p m : Nat} (h : lowp wk nd ts n W P m = some p) : p < m ∧ hold wk (nI p) ts = -1 ∧ skl (wk n 2) (nd p) = true ∧ zHall W (P.erase (nd p)) = true := by
  have h1 := List.find?_some h
  have h2 := List.mem_of_find?_eq_some h
  simp at h1 h2
  exact ⟨h2, h1.1, h1.2.1, h1.2.2⟩
theorem c_placeTaken (hl : l.stackTraces = false) (h : HP z ad co gu nd w ts wk hi tb (tk.map (zWa ad)) W P) {mx : Nat} (hm : hi 8 = nI mx) (hm16 : mx ≤ 16) (hW : W.Perm (tk.map (fun n => wk n 2))) (hP : P.Perm (opl wk nd ts mx)) (htk : ∀ n ∈ tk, n ∈ ts ∧ wk n 7 = -1) (hnd : tk.Nodup) (hlen : tk.length ≤ 30) : ZM l z mX2_placeTaken 10 30 1920 [.ref (ad 0)] w (fun r w1 => r = none ∧ HP z ad co gu nd w1 (plt nd mx tk ts wk hi W P).1 (plt nd mx tk ts wk hi W P).2.1 (plt nd mx tk ts wk hi W P).2.2.1 tb (tk.map (zWa ad)) (plt nd mx tk ts wk hi W P).2.2.2.1 (plt nd mx tk ts wk hi W P).2.2.2.2 ∧ zFh w w1) zNo := by
  refine zbody (M := mX2_placeTaken) (L0 := [_, _, _, _]) hl (by simp [Value.category]) (Nat.le_of_ble_eq_true rfl) (by decide +kernel) rfl ?_
  intro p e s m args below meth c C hX hnm hret
  replace C : zC z p l s m args meth c cX2_placeTaken RX2 4 := C
  replace hret : meth.sig.returnType = none := hret
  refine z_iconst C (0) dX2_placeTaken_0 (by decide) ?_
  refine z_istore_n C (L1 := [_, _, _, _]) dX2_placeTaken_1 (Nat.le_of_ble_eq_true rfl) rfl ?_
  refine z_loop (fun n cs ss L w2 => ∃ (i : Nat) (ts2 : List Nat) (wk2 : Nat → Nat → Int32) (hi2 : Nat → Int32) (W2 P2 : List Int32), n = tk.length - i ∧ cs = 0 + i ∧ ss = 0 + 64 * i ∧ L = [some (.ref (ad 0)), some (.int (nI i)), none, none] ∧ i ≤ tk.length ∧ plt nd mx (tk.drop i) ts2 wk2 hi2 W2 P2 = plt nd mx tk ts wk hi W P ∧ HP z ad co gu nd w2 ts2 wk2 hi2 tb (tk.map (zWa ad)) W2 P2 ∧ hi2 8 = nI mx ∧ W2.Perm ((tk.drop i).map (fun n => wk2 n 2)) ∧ P2.Perm (opl wk2 nd ts2 mx) ∧ (∀ n ∈ tk.drop i, n ∈ ts2 ∧ wk2 n 7 = -1) ∧ zFh w w2)
    ⟨0, ts, wk, hi, W, P, rfl, by omega, by omega, rfl, Nat.zero_le _, rfl, h, hm, hW, hP, htk, fun _ _ _ => rfl⟩ ?_
  rintro n cs ss L w2 ⟨i, ts2, wk2, hi2, W2, P2, rfl, hcs, hss, rfl, q1, q2, q3, q4, q5, q6, q7, q8⟩ ih
  have hX2 := q3
  obtain ⟨a0, a1, a3, a5, aM, -, -, a12, am, al2, -, -⟩ := q3
  obtain ⟨md5, b5, e5, -⟩ := id a5
  obtain ⟨a7, -, -, hWl, hPl⟩ := id aM
  rw [List.length_map] at e5
  refine z_iload_n C dX2_placeTaken_2 rfl ?_
  refine z_aload_n C dX2_placeTaken_3 rfl ?_
  refine z_getf C zf_X2_19 dX2_placeTaken_4 (by first | assumption | exact zk_eq | exact zk_ne (by first | assumption | exact zk_eq | exact zk_ne (by first | assumption | exact zk_eq | exact zk_ne (by first | assumption | exact zk_eq | exact zk_ne (by first | assumption | exact zk_eq | exact zk_ne (by first | assumption | exact zk_eq) (by first | decide | omega)) (by first | decide | omega)) (by first | decide | omega)) (by first | decide | omega)) (by first | decide | omega)) (by rfl) ?_
  refine z_callV C zm_Jx4a65c_size_8abf5 zl_X2_67 (c_size hl e5) dX2_placeTaken_7 (by first | assumption | exact zk_eq | exact zk_ne (by first | assumption | exact zk_eq | exact zk_ne (by first | assumption | exact zk_eq | exact zk_ne (by first | assumption | exact zk_eq | exact zk_ne (by first | assumption | exact zk_eq | exact zk_ne (by first | assumption | exact zk_eq) (by first | decide | omega)) (by first | decide | omega)) (by first | decide | omega)) (by first | decide | omega)) (by first | decide | omega)) (by rfl) (by rfl) (by rfl) (by exact Nat.le_of_ble_eq_true rfl) rfl (by exact ⟨Nat.le_of_ble_eq_true rfl, Nat.le_of_ble_eq_true rfl⟩) (by first | exact ⟨Nat.le_of_ble_eq_true rfl, Nat.le_of_ble_eq_true rfl⟩ | (simp only [zrm]; omega)) (fun _ _ h => z_xno h) (fun r w1 hq => ?_)
  obtain ⟨rfl, rfl⟩ := hq
  refine z_icmp_ge C 72 dX2_placeTaken_10 (by decide) (fun c1 => ?_) (fun c1 => ?_)
  · have hk2 := ge_of_ge (by omega) (by omega) c1
    refine z_widen (c2 := 30) (s2 := 1920) (by omega) (by omega) ?_
    refine z_vret C hret dX2_placeTaken_72 (by first | exact Nat.le_of_ble_eq_true rfl | omega) (by first | exact Nat.le_of_ble_eq_true rfl | omega) ?_
    rw [List.drop_eq_nil_of_le hk2] at q2
    rw [← q2]
    exact ⟨rfl, hX2, q8⟩
  have hk2 : i < tk.length := lt_of_nge (by omega) (by omega) c1
  have hdrop := List.drop_eq_getElem_cons hk2
  rw [hdrop] at q2 q5 q7
  rw [List.map_cons] at q5
  obtain ⟨hmem, h7⟩ := q7 _ List.mem_cons_self
  have en := (am _ hmem).1
  have hw2 : wk2 tk[i] 2 ∈ W2 := q5.mem_iff.mpr List.mem_cons_self
  have hW3 : (W2.erase (wk2 tk[i] 2)).Perm ((tk.drop (i + 1)).map (fun n => wk2 n 2)) := by
    have := q5.erase (wk2 tk[i] 2)
    rw [List.erase_cons_head] at this
    exact this
  have hnotin : tk[i] ∉ tk.drop (i + 1) := by
    have h1 : (tk.drop i).Nodup := hnd.sublist (List.drop_sublist i tk)
    rw [hdrop] at h1
    exact (List.nodup_cons.mp h1).1
  refine z_aload_n C dX2_placeTaken_13 rfl ?_
  refine z_getf C zf_X2_19 dX2_placeTaken_14 (by first | assumption | exact zk_eq | exact zk_ne (by first | assumption | exact zk_eq | exact zk_ne (by first | assumption | exact zk_eq | exact zk_ne (by first | assumption | exact zk_eq | exact zk_ne (by first | assumption | exact zk_eq | exact zk_ne (by first | assumption | exact zk_eq) (by first | decide | omega)) (by first | decide | omega)) (by first | decide | omega)) (by first | decide | omega)) (by first | decide | omega)) (by rfl) ?_
  refine z_iload_n C dX2_placeTaken_17 rfl ?_
  refine z_callV C zm_Jx4a65c_get_915e3 zl_X2_123 (c_get (i := i) hl a5 (by simpa using hk2)) dX2_placeTaken_18 (by first | assumption | exact zk_eq | exact zk_ne (by first | assumption | exact zk_eq | exact zk_ne (by first | assumption | exact zk_eq | exact zk_ne (by first | assumption | exact zk_eq | exact zk_ne (by first | assumption | exact zk_eq | exact zk_ne (by first | assumption | exact zk_eq) (by first | decide | omega)) (by first | decide | omega)) (by first | decide | omega)) (by first | decide | omega)) (by first | decide | omega)) (by rfl) (by rfl) (by rfl) (by exact Nat.le_of_ble_eq_true rfl) rfl (by exact ⟨Nat.le_of_ble_eq_true rfl, Nat.le_of_ble_eq_true rfl⟩) (by first | exact ⟨Nat.le_of_ble_eq_true rfl, Nat.le_of_ble_eq_true rfl⟩ | (simp only [zrm]; omega)) (fun _ _ h => z_xno h) (fun r w1 hq => ?_)
  obtain ⟨rfl, rfl⟩ := hq
  rw [List.getElem_map]
  refine z_castW C zk_X2_78 dX2_placeTaken_21 (by first | assumption | exact zk_eq | exact zk_ne (by first | assumption | exact zk_eq | exact zk_ne (by first | assumption | exact zk_eq | exact zk_ne (by first | assumption | exact zk_eq | exact zk_ne (by first | assumption | exact zk_eq | exact zk_ne (by first | assumption | exact zk_eq) (by first | decide | omega)) (by first | decide | omega)) (by first | decide | omega)) (by first | decide | omega)) (by first | decide | omega)) ?_
  refine z_astore_n C (L1 := [_, _, _, _]) dX2_placeTaken_24 (Nat.le_of_ble_eq_true rfl) rfl ?_
  refine z_aload_n C dX2_placeTaken_25 rfl ?_
  refine z_getf C zf_X2_25 dX2_placeTaken_26 (by first | assumption | exact zk_eq | exact zk_ne (by first | assumption | exact zk_eq | exact zk_ne (by first | assumption | exact zk_eq | exact zk_ne (by first | assumption | exact zk_eq | exact zk_ne (by first | assumption | exact zk_eq | exact zk_ne (by first | assumption | exact zk_eq) (by first | decide | omega)) (by first | decide | omega)) (by first | decide | omega)) (by first | decide | omega)) (by first | decide | omega)) (by rfl) ?_
  refine z_aload_n C dX2_placeTaken_29 rfl ?_
  refine z_getf C zf_X2_103 dX2_placeTaken_30 (by first | assumption | exact zk_eq | exact zk_ne (by first | assumption | exact zk_eq | exact zk_ne (by first | assumption | exact zk_eq | exact zk_ne (by first | assumption | exact zk_eq | exact zk_ne (by first | assumption | exact zk_eq | exact zk_ne (by first | assumption | exact zk_eq) (by first | decide | omega)) (by first | decide | omega)) (by first | decide | omega)) (by first | decide | omega)) (by first | decide | omega)) (by rfl) ?_
  refine z_callV C zm_X0_removeWorker zl_X2_246 (c_removeWorker hl aM (wk2 tk[i] 2) hw2) dX2_placeTaken_33 (by first | assumption | exact zk_eq | exact zk_ne (by first | assumption | exact zk_eq | exact zk_ne (by first | assumption | exact zk_eq | exact zk_ne (by first | assumption | exact zk_eq | exact zk_ne (by first | assumption | exact zk_eq | exact zk_ne (by first | assumption | exact zk_eq) (by first | decide | omega)) (by first | decide | omega)) (by first | decide | omega)) (by first | decide | omega)) (by first | decide | omega)) (by rfl) (by rfl) (by rfl) (by exact Nat.le_of_ble_eq_true rfl) rfl (by exact ⟨Nat.le_of_ble_eq_true rfl, Nat.le_of_ble_eq_true rfl⟩) (by first | exact ⟨Nat.le_of_ble_eq_true rfl, Nat.le_of_ble_eq_true rfl⟩ | (simp only [zrm]; omega)) (fun _ _ h => z_xno h) (fun r w6 hq => ?_)
  obtain ⟨rfl, g5, g6⟩ := hq
  have hX3 := hX2.mt g5 g6
  have a0' := hX3.1
  have aM' := hX3.2.2.2.2.1
  have a7' := aM'.1
  have a12' := hX3.2.2.2.2.2.2.2.1
  have hPin : ∀ p : Nat, p < mx → hold wk2 (nI p) ts2 = -1 → nd p ∈ P2 := fun p p1 p2 => q6.mem_iff.mpr (opl_mem p2 mx p1)
  refine z_aload_n C dX2_placeTaken_36 rfl ?_
  refine z_aload_n C dX2_placeTaken_37 rfl ?_
  refine z_callV C zm_X2_lowestPlaceFor zl_X2_249 (c_lowestPlaceFor hl hX3 hmem q4 hm16 hPin) dX2_placeTaken_38 (by first | assumption | exact zk_eq | exact zk_ne (by first | assumption | exact zk_eq | exact zk_ne (by first | assumption | exact zk_eq | exact zk_ne (by first | assumption | exact zk_eq | exact zk_ne (by first | assumption | exact zk_eq | exact zk_ne (by first | assumption | exact zk_eq) (by first | decide | omega)) (by first | decide | omega)) (by first | decide | omega)) (by first | decide | omega)) (by first | decide | omega)) (by rfl) (by rfl) (by rfl) (by exact Nat.le_of_ble_eq_true rfl) rfl (by exact ⟨Nat.le_of_ble_eq_true rfl, Nat.le_of_ble_eq_true rfl⟩) (by first | exact ⟨Nat.le_of_ble_eq_true rfl, Nat.le_of_ble_eq_true rfl⟩ | (simp only [zrm]; omega)) (fun _ _ h => z_xno h) (fun r w7 hq => ?_)
  obtain ⟨rfl, rfl⟩ := hq
  refine z_istore_n C (L1 := [_, _, _, _]) dX2_placeTaken_41 (Nat.le_of_ble_eq_true rfl) rfl ?_
  refine z_iload_n C dX2_placeTaken_42 rfl ?_
  refine z_iconst C (-1) dX2_placeTaken_43 (by decide) ?_
  rw [plt] at q2
  cases hlow : lowp wk2 nd ts2 tk[i] (W2.erase (wk2 tk[i] 2)) P2 mx with
  | none =>
    rw [hlow] at q2
    dsimp only at q2 ⊢
    refine z_icmp_eq C 66 dX2_placeTaken_44 (by decide) (fun c2 => ?_) (fun c2 => ?_)
    · refine z_iinc C (L1 := [_, _, _, _]) _ dX2_placeTaken_66 rfl (by first | exact zinc | rfl) rfl ?_
      refine z_goto C 2 dX2_placeTaken_69 (by decide) ?_
      refine z_widen (c2 := 0 + (i + 1)) (s2 := 0 + 64 * (i + 1)) (by omega) (by omega) ?_
      exact z_fgt (ih (tk.length - (i + 1)) _ _ _ _ (by omega) ⟨i + 1, ts2, wk2, hi2, W2.erase (wk2 tk[i] 2), P2, rfl, rfl, rfl, rfl, hk2, q2, hX3, q4, hW3, q6, fun k hk => q7 k (List.mem_cons_of_mem _ hk), fun j j1 j2 => (g6 j (by omega) (by omega)).trans (q8 j j1 j2)⟩) (by simp [zle])
    · exact absurd rfl c2
  | some p =>
    rw [hlow] at q2
    dsimp only at q2 ⊢
    obtain ⟨p1, p2, p3, p4⟩ := lowp_some hlow
    refine z_icmp_eq C 66 dX2_placeTaken_44 (by decide) (fun c2 => ?_) (fun c2 => ?_)
    · exact absurd c2 (nI_nm1 (by omega))
    refine z_aload_n C dX2_placeTaken_47 rfl ?_
    refine z_getf C zf_X2_25 dX2_placeTaken_48 (by first | assumption | exact zk_eq | exact zk_ne (by first | assumption | exact zk_eq | exact zk_ne (by first | assumption | exact zk_eq | exact zk_ne (by first | assumption | exact zk_eq | exact zk_ne (by first | assumption | exact zk_eq | exact zk_ne (by first | assumption | exact zk_eq) (by first | decide | omega)) (by first | decide | omega)) (by first | decide | omega)) (by first | decide | omega)) (by first | decide | omega)) (by rfl) ?_
    refine z_aload_n C dX2_placeTaken_51 rfl ?_
    refine z_getf C zf_X2_37 dX2_placeTaken_52 (by first | assumption | exact zk_eq | exact zk_ne (by first | assumption | exact zk_eq | exact zk_ne (by first | assumption | exact zk_eq | exact zk_ne (by first | assumption | exact zk_eq | exact zk_ne (by first | assumption | exact zk_eq | exact zk_ne (by first | assumption | exact zk_eq) (by first | decide | omega)) (by first | decide | omega)) (by first | decide | omega)) (by first | decide | omega)) (by first | decide | omega)) (by rfl) ?_
    refine z_iload_n C dX2_placeTaken_55 rfl ?_
    refine z_iald C (j := p) dX2_placeTaken_56 (by first | assumption | exact zk_eq | exact zk_ne (by first | assumption | exact zk_eq | exact zk_ne (by first | assumption | exact zk_eq | exact zk_ne (by first | assumption | exact zk_eq | exact zk_ne (by first | assumption | exact zk_eq | exact zk_ne (by first | assumption | exact zk_eq) (by first | decide | omega)) (by first | decide | omega)) (by first | decide | omega)) (by first | decide | omega)) (by first | decide | omega)) rfl (by omega) (by decide) ?_
    refine z_callV C zm_X0_removePlace zl_X2_252 (c_removePlace hl aM' (nd p) (hPin p p1 p2)) dX2_placeTaken_57 (by first | assumption | exact zk_eq | exact zk_ne (by first | assumption | exact zk_eq | exact zk_ne (by first | assumption | exact zk_eq | exact zk_ne (by first | assumption | exact zk_eq | exact zk_ne (by first | assumption | exact zk_eq | exact zk_ne (by first | assumption | exact zk_eq) (by first | decide | omega)) (by first | decide | omega)) (by first | decide | omega)) (by first | decide | omega)) (by first | decide | omega)) (by rfl) (by rfl) (by rfl) (by exact Nat.le_of_ble_eq_true rfl) rfl (by exact ⟨Nat.le_of_ble_eq_true rfl, Nat.le_of_ble_eq_true rfl⟩) (by first | exact ⟨Nat.le_of_ble_eq_true rfl, Nat.le_of_ble_eq_true rfl⟩ | (simp only [zrm]; omega)) (fun _ _ h => z_xno h) (fun r w8 hq => ?_)
    obtain ⟨rfl, g7, g8⟩ := hq
    have hX4 := hX3.mt g7 g8
    have a0'' := hX4.1
    refine z_aload_n C dX2_placeTaken_60 rfl ?_
    refine z_aload_n C dX2_placeTaken_61 rfl ?_
    refine z_iload_n C dX2_placeTaken_62 rfl ?_
    refine z_callV C zm_X2_startWork zl_X2_184 (c_startWork hl hX4 hmem (nI p)) dX2_placeTaken_63 (by first | assumption | exact zk_eq | exact zk_ne (by first | assumption | exact zk_eq | exact zk_ne (by first | assumption | exact zk_eq | exact zk_ne (by first | assumption | exact zk_eq | exact zk_ne (by first | assumption | exact zk_eq | exact zk_ne (by first | assumption | exact zk_eq) (by first | decide | omega)) (by first | decide | omega)) (by first | decide | omega)) (by first | decide | omega)) (by first | decide | omega)) (by rfl) (by rfl) (by rfl) (by exact Nat.le_of_ble_eq_true rfl) rfl (by exact ⟨Nat.le_of_ble_eq_true rfl, Nat.le_of_ble_eq_true rfl⟩) (by first | exact ⟨Nat.le_of_ble_eq_true rfl, Nat.le_of_ble_eq_true rfl⟩ | (simp only [zrm]; omega)) (fun _ _ h => z_xno h) (fun r w9 hq => ?_)
    obtain ⟨rfl, g9, g10⟩ := hq
    refine z_iinc C (L1 := [_, _, _, _]) _ dX2_placeTaken_66 rfl (by first | exact zinc | rfl) rfl ?_
    refine z_goto C 2 dX2_placeTaken_69 (by decide) ?_
    have hperm : (pab (zstaW hi2 wk2 tk[i] (nI p)) tk[i] (ts2.erase tk[i])).Perm ts2 := pab_erase_perm hmem
    have hst : ∀ k : Nat, k ≠ tk[i] → zstaW hi2 wk2 tk[i] (nI p) k = wk2 k := fun k hk => va_up_ne _ _ hk
    refine z_fgt (ih (tk.length - (i + 1)) _ _ _ _ (by omega) ⟨i + 1, _, _, va_up hi2 12 1, _, _, rfl, by omega, by omega, rfl, hk2, q2, g9, ?_, ?_, ?_, fun k hk => ?_, fun j j1 j2 => (g10 j j1 j2).trans ((g8 j (by omega) (by omega)).trans ((g6 j (by omega) (by omega)).trans (q8 j j1 j2)))⟩) (by simp [zle])
    · rw [va_up_ne _ _ (by decide)]
      exact q4
    · have : (tk.drop (i + 1)).map (fun n => zstaW hi2 wk2 tk[i] (nI p) n 2) = (tk.drop (i + 1)).map (fun n => wk2 n 2) := List.map_congr_left (fun k hk => by rw [hst k (fun e => hnotin (e ▸ hk))])
      rw [this]
      exact hW3
    · have h9 := ((opl_sta (hi := hi2) (nd := nd) hX3.num hmem h7 (by omega) p2 hperm mx (by omega)).1 p1)
      have := (q6.trans h9).erase (nd p)
      rw [List.erase_cons_head] at this
      exact this
    · have hne : k ≠ tk[i] := fun e => hnotin (e ▸ hk)
      have := q7 k (List.mem_cons_of_mem _ hk)
      exact ⟨hperm.mem_iff.mpr this.1, by rw [hst k hne]; exact this.2⟩
end ZH5
