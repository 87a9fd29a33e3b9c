/-! HiringHall: its picture, its small methods -/
abbrev zHc (ad : Nat → Nat) (hi : Nat → Int32) : va_E := .inr (3, [.ref (ad 1), .ref (ad 3), .ref (ad 5), .ref (ad 7), .ref (ad 10), .ref (ad 11), .ref (ad 12), .int (hi 7), .int (hi 8), .int (hi 9), .int (hi 10), .int (hi 11), .int (hi 12)])
abbrev zWa (ad : Nat → Nat) (n : Nat) : Nat := ad (100 + n)
/-- a worker's board is one, the number is its own -/
def zWok (n : Nat) (r : Nat → Int32) : Prop := (∃ b : Nat, b < 4 ∧ r 1 = nI b) ∧ r 0 = nI n ∧ n < 100000
/-- the hall in the world w: ts the workers in turn by their numbers, wk what each holds, hi the hall's own numbers (7 nextNumber .. 12 workHasBegun), co gu nd its rows, tb tk the lists turnBefore and taken, W P what is matched -/
def HP (z : zT) (ad : Nat → Nat) (co gu nd : Nat → Int32) (w : zW) (ts : List Nat) (wk : Nat → Nat → Int32) (hi : Nat → Int32) (tb tk : List Nat) (W P : List Int32) : Prop :=
  w 0 = some (ad 0, zHc ad hi) ∧ zLs z w 1 (ad 1) (ts.map (zWa ad)) ∧ zLs z w 3 (ad 3) tb ∧ zLs z w 5 (ad 5) tk ∧ zMt z w ad W P ∧
  w 10 = some (ad 10, .inl (z.2.2.1 1, 4, .inl co)) ∧ w 11 = some (ad 11, .inl (z.2.2.1 0, 4, .inl gu)) ∧ w 12 = some (ad 12, .inl (z.2.2.1 0, 16, .inl nd)) ∧
  (∀ n ∈ ts, w (100 + n) = some (zWa ad n, zWc (wk n)) ∧ zWok n (wk n)) ∧ ts.length ≤ 30 ∧ ts.Nodup ∧ ∃ c : Nat, c ≤ 16 ∧ hi 8 = nI c
/-- what the hall's methods leave as it was -/
def zFh (w w1 : zW) : Prop := ∀ j : Nat, 13 ≤ j → j < 99 → w1 j = w j
/-- the worker of a number -/
def fnd (wk : Nat → Nat → Int32) (x : Int32) (ts : List Nat) : Option Nat := ts.find? (fun n => decide (wk n 0 = x))
/-- a worker to the bottom of the board -/
def pab (wk : Nat → Nat → Int32) (n : Nat) : List Nat → List Nat
  | [] => [n]
  | m :: r => if wk m 1 ≤ wk n 1 then m :: pab wk n r else n :: m :: r
theorem pab_at {wk : Nat → Nat → Int32} {n : Nat} : ∀ (ts : List Nat) (i : Nat), i ≤ ts.length → (∀ j (h : j < ts.length), j < i → wk ts[j] 1 ≤ wk n 1) → (∀ h : i < ts.length, ¬ wk ts[i] 1 ≤ wk n 1) → pab wk n ts = ts.take i ++ n :: ts.drop i
  | [], i, h, _, _ => by
    have : i = 0 := by simpa using h
    subst this
    rfl
  | m :: r, 0, h, _, h3 => by
    have := h3 (by simp)
    simp only [List.getElem_cons_zero] at this
    simp [pab, this]
  | m :: r, i + 1, h, h2, h3 => by
    have h0 := h2 0 (by simp) (by omega)
    simp only [List.getElem_cons_zero] at h0
    simp only [pab, if_pos h0, List.take_succ_cons, List.drop_succ_cons, List.cons_append]
    rw [pab_at r i (by simpa using h) (fun j hj hji => by have := h2 (j + 1) (by simpa using hj) (by omega); simpa using this) (fun hi => by have := h3 (by simpa using hi); simpa using this)]
theorem erase_at {n : Nat} : ∀ (ts : List Nat) (i : Nat) (h : i < ts.length), ts[i] = n → (∀ j (h : j < ts.length), j < i → ts[j] ≠ n) → ts.eraseIdx i = ts.erase n
  | [], i, h, _, _ => absurd h (Nat.not_lt_zero _)
  | m :: r, 0, _, h1, _ => by
    simp only [List.getElem_cons_zero] at h1
    subst h1
    simp
  | m :: r, i + 1, h, h1, h2 => by
    have h0 := h2 0 (by simp) (by omega)
    simp only [List.getElem_cons_zero] at h0
    rw [List.eraseIdx_cons_succ, List.erase_cons_tail (by simpa using h0), erase_at r i (by simpa using h) (by simpa using h1) (fun j hj hji => by have := h2 (j + 1) (by simpa using hj) (by omega); simpa using this)]
theorem map_erIdx (f : Nat → Nat) : ∀ (l : List Nat) (i : Nat), (l.eraseIdx i).map f = (l.map f).eraseIdx i
  | [], _ => rfl
  | _ :: _, 0 => rfl
  | a :: l, i + 1 => by
    rw [List.eraseIdx_cons_succ, List.map_cons, List.map_cons, List.eraseIdx_cons_succ, map_erIdx f l i]
theorem find_drop {α : Type} (p : α → Bool) (l : List α) (i : Nat) (h : i < l.length) : (l.drop i).find? p = if p l[i] then some l[i] else (l.drop (i + 1)).find? p := by
  rw [List.drop_eq_getElem_cons h, List.find?_cons]
  cases p l[i] <;> rfl
section ZH1
variable {l : Launch} {z : zT} {w : zW} {ad : Nat → Nat} {co gu nd : Nat → Int32} {ts : List Nat} {wk : Nat → Nat → Int32} {hi : Nat → Int32} {tb tk : List Nat} {W P : List Int32}
theorem HP.wk1 (h : HP z ad co gu nd w ts wk hi tb tk W P) {i : Nat} (hi2 : i < ts.length) : w (100 + ts[i]) = some (zWa ad ts[i], zWc (wk ts[i])) := (h.2.2.2.2.2.2.2.2.1 _ (List.getElem_mem hi2)).1
theorem HP.zwk (h : HP z ad co gu nd w ts wk hi tb tk W P) : ∀ y ∈ ts.map (zWa ad), zWk w y := fun y hy => by
  obtain ⟨n, hn, rfl⟩ := List.mem_map.mp hy
  exact ⟨100 + n, _, by omega, (h.2.2.2.2.2.2.2.2.1 n hn).1⟩
/-- other workers in turn -/
theorem HP.turn {w1 : zW} {ts1 : List Nat} (h : HP z ad co gu nd w ts wk hi tb tk W P) (h1 : zLs z w1 1 (ad 1) (ts1.map (zWa ad))) (hf : zFk 1 w w1) (hm : ∀ n ∈ ts1, w (100 + n) = some (zWa ad n, zWc (wk n)) ∧ zWok n (wk n)) (hl : ts1.length ≤ 30) (hn : ts1.Nodup) : HP z ad co gu nd w1 ts1 wk hi tb tk W P := by
  obtain ⟨a0, a1, ⟨md3, b3, a3, a3'⟩, ⟨md5, b5, a5, a5'⟩, ⟨a7, ⟨f8, a8, a8'⟩, ⟨f9, a9, a9'⟩, hWl, hPl⟩, a10, a11, a12, -, -, -, hc⟩ := h
  have q : ∀ j : Nat, j ≠ 1 → j ≠ 2 → j ≠ 99 → w1 j = w j := hf
  refine ⟨(q 0 (by decide) (by decide) (by decide)).trans a0, h1, ⟨md3, b3, (q 3 (by decide) (by decide) (by decide)).trans a3, ?_⟩, ⟨md5, b5, (q 5 (by decide) (by decide) (by decide)).trans a5, ?_⟩, ⟨(q 7 (by decide) (by decide) (by decide)).trans a7, ⟨f8, (q 8 (by decide) (by decide) (by decide)).trans a8, a8'⟩, ⟨f9, (q 9 (by decide) (by decide) (by decide)).trans a9, a9'⟩, hWl, hPl⟩, (q 10 (by decide) (by decide) (by decide)).trans a10, (q 11 (by decide) (by decide) (by decide)).trans a11, (q 12 (by decide) (by decide) (by decide)).trans a12, fun n h => ⟨(q _ (by omega) (by omega) (by omega)).trans (hm n h).1, (hm n h).2⟩, hl, hn, hc⟩
  · rcases a3' with a | ⟨n, f, a, b⟩
    · exact Or.inl a
    · exact Or.inr ⟨n, f, (q 4 (by decide) (by decide) (by decide)).trans a, b⟩
  · rcases a5' with a | ⟨n, f, a, b⟩
    · exact Or.inl a
    · exact Or.inr ⟨n, f, (q 6 (by decide) (by decide) (by decide)).trans a, b⟩
theorem zLs.kept {k a : Nat} {xs : List Nat} {w1 : zW} (h : zLs z w k a xs) (h1 : w1 k = w k) (h2 : w1 (k + 1) = w (k + 1)) : zLs z w1 k a xs := by
  obtain ⟨md, b, e, e2⟩ := h
  refine ⟨md, b, h1.trans e, ?_⟩
  rcases e2 with q | ⟨n, f, q, r⟩
  · exact Or.inl q
  · exact Or.inr ⟨n, f, h2.trans q, r⟩
theorem zMt.kept {w1 : zW} (h : zMt z w ad W P) (h7 : w1 7 = w 7) (h8 : w1 8 = w 8) (h9 : w1 9 = w 9) : zMt z w1 ad W P := by
  obtain ⟨a7, ⟨f8, a8, a8'⟩, ⟨f9, a9, a9'⟩, r⟩ := h
  exact ⟨h7.trans a7, ⟨f8, h8.trans a8, a8'⟩, ⟨f9, h9.trans a9, a9'⟩, r⟩
theorem HP.stb {w1 : zW} {tb1 : List Nat} (h : HP z ad co gu nd w ts wk hi tb tk W P) (h1 : zLs z w1 3 (ad 3) tb1) (hf : zFk 3 w w1) : HP z ad co gu nd w1 ts wk hi tb1 tk W P := by
  have q : ∀ j : Nat, j ≠ 3 → j ≠ 4 → j ≠ 99 → w1 j = w j := hf
  obtain ⟨a0, a1, a3, a5, a7, a10, a11, a12, am, al, an, hc⟩ := h
  exact ⟨(q 0 (by decide) (by decide) (by decide)).trans a0, a1.kept (q 1 (by decide) (by decide) (by decide)) (q 2 (by decide) (by decide) (by decide)), h1, a5.kept (q 5 (by decide) (by decide) (by decide)) (q 6 (by decide) (by decide) (by decide)), a7.kept (q 7 (by decide) (by decide) (by decide)) (q 8 (by decide) (by decide) (by decide)) (q 9 (by decide) (by decide) (by decide)), (q 10 (by decide) (by decide) (by decide)).trans a10, (q 11 (by decide) (by decide) (by decide)).trans a11, (q 12 (by decide) (by decide) (by decide)).trans a12, fun n h => ⟨(q _ (by omega) (by omega) (by omega)).trans (am n h).1, (am n h).2⟩, al, an, hc⟩
theorem HP.stk {w1 : zW} {tk1 : List Nat} (h : HP z ad co gu nd w ts wk hi tb tk W P) (h1 : zLs z w1 5 (ad 5) tk1) (hf : zFk 5 w w1) : HP z ad co gu nd w1 ts wk hi tb tk1 W P := by
  have q : ∀ j : Nat, j ≠ 5 → j ≠ 6 → j ≠ 99 → w1 j = w j := hf
  obtain ⟨a0, a1, a3, a5, a7, a10, a11, a12, am, al, an, hc⟩ := h
  exact ⟨(q 0 (by decide) (by decide) (by decide)).trans a0, a1.kept (q 1 (by decide) (by decide) (by decide)) (q 2 (by decide) (by decide) (by decide)), a3.kept (q 3 (by decide) (by decide) (by decide)) (q 4 (by decide) (by decide) (by decide)), h1, a7.kept (q 7 (by decide) (by decide) (by decide)) (q 8 (by decide) (by decide) (by decide)) (q 9 (by decide) (by decide) (by decide)), (q 10 (by decide) (by decide) (by decide)).trans a10, (q 11 (by decide) (by decide) (by decide)).trans a11, (q 12 (by decide) (by decide) (by decide)).trans a12, fun n h => ⟨(q _ (by omega) (by omega) (by omega)).trans (am n h).1, (am n h).2⟩, al, an, hc⟩
theorem HP.mt {w1 : zW} {W1 P1 : List Int32} (h : HP z ad co gu nd w ts wk hi tb tk W P) (h1 : zMt z w1 ad W1 P1) (q : ∀ j : Nat, j ≠ 8 → j ≠ 9 → w1 j = w j) : HP z ad co gu nd w1 ts wk hi tb tk W1 P1 := by
  obtain ⟨a0, a1, a3, a5, a7, a10, a11, a12, am, al, an, hc⟩ := h
  exact ⟨(q 0 (by decide) (by decide)).trans a0, a1.kept (q 1 (by decide) (by decide)) (q 2 (by decide) (by decide)), a3.kept (q 3 (by decide) (by decide)) (q 4 (by decide) (by decide)), a5.kept (q 5 (by decide) (by decide)) (q 6 (by decide) (by decide)), h1, (q 10 (by decide) (by decide)).trans a10, (q 11 (by decide) (by decide)).trans a11, (q 12 (by decide) (by decide)).trans a12, fun n h => ⟨(q _ (by omega) (by omega)).trans (am n h).1, (am n h).2⟩, al, an, hc⟩
/-- the hall's own numbers -/
theorem HP.hal {w1 : zW} {hi1 : Nat → Int32} (h : HP z ad co gu nd w ts wk hi tb tk W P) (h1 : w1 0 = some (ad 0, zHc ad hi1)) (q : ∀ j : Nat, j ≠ 0 → w1 j = w j) (hc1 : ∃ c : Nat, c ≤ 16 ∧ hi1 8 = nI c) : HP z ad co gu nd w1 ts wk hi1 tb tk W P := by
  obtain ⟨a0, a1, a3, a5, a7, a10, a11, a12, am, al, an, hc⟩ := h
  exact ⟨h1, a1.kept (q 1 (by decide)) (q 2 (by decide)), a3.kept (q 3 (by decide)) (q 4 (by decide)), a5.kept (q 5 (by decide)) (q 6 (by decide)), a7.kept (q 7 (by decide)) (q 8 (by decide)) (q 9 (by decide)), (q 10 (by decide)).trans a10, (q 11 (by decide)).trans a11, (q 12 (by decide)).trans a12, fun n h => ⟨(q _ (by omega)).trans (am n h).1, (am n h).2⟩, al, an, hc1⟩
/-- one worker's cell -/
theorem HP.wrk {w1 : zW} {n : Nat} {r1 : Nat → Int32} (h : HP z ad co gu nd w ts wk hi tb tk W P) (h1 : w1 (100 + n) = some (zWa ad n, zWc r1)) (q : ∀ j : Nat, j ≠ 100 + n → w1 j = w j) (hb : zWok n r1) : HP z ad co gu nd w1 ts (va_up wk n r1) hi tb tk W P := by
  obtain ⟨a0, a1, a3, a5, a7, a10, a11, a12, am, al, an, hc⟩ := h
  refine ⟨(q 0 (by omega)).trans a0, a1.kept (q 1 (by omega)) (q 2 (by omega)), a3.kept (q 3 (by omega)) (q 4 (by omega)), a5.kept (q 5 (by omega)) (q 6 (by omega)), a7.kept (q 7 (by omega)) (q 8 (by omega)) (q 9 (by omega)), (q 10 (by omega)).trans a10, (q 11 (by omega)).trans a11, (q 12 (by omega)).trans a12, fun m hm => ?_, al, an, hc⟩
  by_cases e : m = n
  · subst e
    rw [va_up_self]
    exact ⟨h1, hb⟩
  · rw [va_up_ne _ _ e]
    exact ⟨(q _ (by omega)).trans (am m hm).1, (am m hm).2⟩
theorem lt_of_nge {i n : Nat} (hi : i ≤ 1000) (hn : n ≤ 1000) (h : ¬ nI n ≤ nI i) : i < n := by
  rcases Nat.lt_or_ge i n with q | q
  · exact q
  · exact absurd ((nI_leI (by omega) (by omega)).mpr q) h
theorem ge_of_ge {i n : Nat} (hi : i ≤ 1000) (hn : n ≤ 1000) (h : nI n ≤ nI i) : n ≤ i := (nI_leI (by omega) (by omega)).mp h
theorem c_find (hl : l.stackTraces = false) (h : HP z ad co gu nd w ts wk hi tb tk W P) (x : Int32) : ZM l z mX2_find 6 1 6 [.ref (ad 0), .int x] w (fun r w1 => ∃ n : Nat, n ∈ ts ∧ wk n 0 = x ∧ fnd wk x ts = some n ∧ r = some (.ref (zWa ad n)) ∧ w1 = w) (fun E w1 => E = zNS ∧ fnd wk x ts = none ∧ w1 = w) := by
  have hH := h
  obtain ⟨a0, a1, -, -, -, -, -, -, -, al, -, -⟩ := h
  obtain ⟨md1, b1, e1, -⟩ := id a1
  rw [List.length_map] at e1
  refine zbody (M := mX2_find) (L0 := [_, _, _, _]) hl (by simp [Value.category]) (Nat.le_of_ble_eq_true rfl) (by decide +kernel) rfl ?_
  intro p e s m args below meth c C hX hnm hret
  replace C : zC z p l s m args meth c cX2_find RX2 4 := C
  replace hret : meth.sig.returnType = (some (.object "HiringHall$Worker")) := hret
  refine z_iconst C (0) dX2_find_0 (by decide) ?_
  refine z_istore_n C (L1 := [_, _, _, _]) dX2_find_1 (Nat.le_of_ble_eq_true rfl) rfl ?_
  refine z_ind (σ := Nat) (fun i => i ≤ ts.length ∧ fnd wk x ts = fnd wk x (ts.drop i)) (fun i => ts.length - i) (fun _ => 0) (fun _ => 0)
    (fun i => [some (.ref (ad 0)), some (.int x), some (.int (nI i)), none]) (fun _ => w) 0 ⟨Nat.zero_le _, rfl⟩ ?_
  rintro i ⟨q1, q2⟩ ih
  refine z_iload_n C dX2_find_2 rfl ?_
  refine z_aload_n C dX2_find_3 rfl ?_
  refine z_getf C zf_X2_10 dX2_find_4 (by first | assumption | exact zk_eq | exact zk_ne (by first | assumption | exact zk_eq | exact zk_ne (by first | assumption | exact zk_eq | exact zk_ne (by first | assumption | exact zk_eq | exact zk_ne (by first | assumption | exact zk_eq | exact zk_ne (by first | assumption | exact zk_eq) (by first | decide | omega)) (by first | decide | omega)) (by first | decide | omega)) (by first | decide | omega)) (by first | decide | omega)) (by rfl) ?_
  refine z_callV C zm_Jx4a65c_size_8abf5 zl_X2_67 (c_size hl e1) dX2_find_7 (by first | assumption | exact zk_eq | exact zk_ne (by first | assumption | exact zk_eq | exact zk_ne (by first | assumption | exact zk_eq | exact zk_ne (by first | assumption | exact zk_eq | exact zk_ne (by first | assumption | exact zk_eq | exact zk_ne (by first | assumption | exact zk_eq) (by first | decide | omega)) (by first | decide | omega)) (by first | decide | omega)) (by first | decide | omega)) (by first | decide | omega)) (by rfl) (by rfl) (by rfl) (by exact Nat.le_of_ble_eq_true rfl) rfl (by exact ⟨Nat.le_of_ble_eq_true rfl, Nat.le_of_ble_eq_true rfl⟩) (by first | exact ⟨Nat.le_of_ble_eq_true rfl, Nat.le_of_ble_eq_true rfl⟩ | (simp only [zrm]; omega)) (fun _ _ h => z_xno h) (fun r w1 hq => ?_)
  obtain ⟨rfl, rfl⟩ := hq
  refine z_icmp_ge C 41 dX2_find_10 (by decide) (fun c1 => ?_) (fun c1 => ?_)
  · have hi2 := ge_of_ge (by omega) (by omega) c1
    refine z_throwN C zt_212_210 hX dX2_find_41 dX2_find_44 dX2_find_45 dX2_find_47 dX2_find_50 rfl (by exact Nat.le_of_ble_eq_true rfl) (by exact Nat.le_of_ble_eq_true rfl) (by first | exact Nat.le_of_ble_eq_true rfl | (simp only [zrm]; omega)) (by first | exact Nat.le_of_ble_eq_true rfl | (simp only [zrm]; omega)) (by first | exact Nat.le_of_ble_eq_true rfl | omega) (by first | exact Nat.le_of_ble_eq_true rfl | omega) ?_
    refine ⟨rfl, ?_, rfl⟩
    rw [q2, List.drop_eq_nil_of_le hi2]
    rfl
  · have hi2 : i < ts.length := lt_of_nge (by omega) (by omega) c1
    refine z_aload_n C dX2_find_13 rfl ?_
    refine z_getf C zf_X2_10 dX2_find_14 (by first | assumption | exact zk_eq | exact zk_ne (by first | assumption | exact zk_eq | exact zk_ne (by first | assumption | exact zk_eq | exact zk_ne (by first | assumption | exact zk_eq | exact zk_ne (by first | assumption | exact zk_eq | exact zk_ne (by first | assumption | exact zk_eq) (by first | decide | omega)) (by first | decide | omega)) (by first | decide | omega)) (by first | decide | omega)) (by first | decide | omega)) (by rfl) ?_
    refine z_iload_n C dX2_find_17 rfl ?_
    refine z_callV C zm_Jx4a65c_get_915e3 zl_X2_123 (c_get (i := i) hl a1 (by simpa using hi2)) dX2_find_18 (by first | assumption | exact zk_eq | exact zk_ne (by first | assumption | exact zk_eq | exact zk_ne (by first | assumption | exact zk_eq | exact zk_ne (by first | assumption | exact zk_eq | exact zk_ne (by first | assumption | exact zk_eq | exact zk_ne (by first | assumption | exact zk_eq) (by first | decide | omega)) (by first | decide | omega)) (by first | decide | omega)) (by first | decide | omega)) (by first | decide | omega)) (by rfl) (by rfl) (by rfl) (by exact Nat.le_of_ble_eq_true rfl) rfl (by exact ⟨Nat.le_of_ble_eq_true rfl, Nat.le_of_ble_eq_true rfl⟩) (by first | exact ⟨Nat.le_of_ble_eq_true rfl, Nat.le_of_ble_eq_true rfl⟩ | (simp only [zrm]; omega)) (fun _ _ h => z_xno h) (fun r w1 hq => ?_)
    obtain ⟨rfl, rfl⟩ := hq
    have e2 := hH.wk1 hi2
    rw [List.getElem_map]
    refine z_castW C zk_X2_78 dX2_find_21 (by first | assumption | exact zk_eq | exact zk_ne (by first | assumption | exact zk_eq | exact zk_ne (by first | assumption | exact zk_eq | exact zk_ne (by first | assumption | exact zk_eq | exact zk_ne (by first | assumption | exact zk_eq | exact zk_ne (by first | assumption | exact zk_eq) (by first | decide | omega)) (by first | decide | omega)) (by first | decide | omega)) (by first | decide | omega)) (by first | decide | omega)) ?_
    refine z_astore_n C (L1 := [_, _, _, _]) dX2_find_24 (Nat.le_of_ble_eq_true rfl) rfl ?_
    refine z_aload_n C dX2_find_25 rfl ?_
    refine z_getf C zf_X2_87 dX2_find_26 (by first | assumption | exact zk_eq | exact zk_ne (by first | assumption | exact zk_eq | exact zk_ne (by first | assumption | exact zk_eq | exact zk_ne (by first | assumption | exact zk_eq | exact zk_ne (by first | assumption | exact zk_eq | exact zk_ne (by first | assumption | exact zk_eq) (by first | decide | omega)) (by first | decide | omega)) (by first | decide | omega)) (by first | decide | omega)) (by first | decide | omega)) (by rfl) ?_
    refine z_iload_n C dX2_find_29 rfl ?_
    refine z_icmp_ne C 35 dX2_find_30 (by decide) (fun c2 => ?_) (fun c2 => ?_)
    · refine z_iinc C (L1 := [_, _, _, _]) _ dX2_find_35 rfl (by first | exact zinc | rfl) rfl ?_
      refine z_goto C 2 dX2_find_38 (by decide) ?_
      refine z_fgt (ih (i + 1) ⟨hi2, ?_⟩ (by show ts.length - (i + 1) < ts.length - i; omega)) (by simp [zle])
      rw [q2]
      unfold fnd
      rw [find_drop _ _ _ hi2, if_neg (by simpa using c2)]
    · refine z_aload_n C dX2_find_33 rfl ?_
      refine z_widen (c2 := 1) (s2 := 6) (by omega) (by omega) ?_
      refine z_aret C hret (Or.inl ⟨_, rfl⟩) (by first | exact Or.inr ⟨_, rfl⟩ | exact va_rf_or _ | exact Or.inl rfl) dX2_find_34 (by first | exact Nat.le_of_ble_eq_true rfl | omega) (by first | exact Nat.le_of_ble_eq_true rfl | omega) ?_
      refine ⟨ts[i], List.getElem_mem hi2, c2, ?_, rfl, rfl⟩
      rw [q2]
      unfold fnd
      rw [find_drop _ _ _ hi2, if_pos (by simpa using c2)]
theorem c_checkPlace (hl : l.stackTraces = false) (h : HP z ad co gu nd w ts wk hi tb tk W P) (x : Int32) : ZM l z mX2_checkPlace 6 1 6 [.ref (ad 0), .int x] w (fun r w1 => ¬ x < 0 ∧ x < hi 8 ∧ r = none ∧ w1 = w) (fun E w1 => E = zNS ∧ (x < 0 ∨ ¬ x < hi 8) ∧ w1 = w) := by
  obtain ⟨a0, -⟩ := h
  refine zbody (M := mX2_checkPlace) (L0 := [_, _]) hl (by simp [Value.category]) (Nat.le_of_ble_eq_true rfl) (by decide +kernel) rfl ?_
  intro p e s m args below meth c C hX hnm hret
  replace C : zC z p l s m args meth c cX2_checkPlace RX2 2 := C
  replace hret : meth.sig.returnType = none := hret
  refine z_iload_n C dX2_checkPlace_0 rfl ?_
  refine z_if_lt C 12 dX2_checkPlace_1 (by decide) (fun c1 => ?_) (fun c1 => ?_)
  · refine z_throwN C zt_215_210 hX dX2_checkPlace_12 dX2_checkPlace_15 dX2_checkPlace_16 dX2_checkPlace_18 dX2_checkPlace_21 rfl (by exact Nat.le_of_ble_eq_true rfl) (by exact Nat.le_of_ble_eq_true rfl) (by first | exact Nat.le_of_ble_eq_true rfl | (simp only [zrm]; omega)) (by first | exact Nat.le_of_ble_eq_true rfl | (simp only [zrm]; omega)) (by first | exact Nat.le_of_ble_eq_true rfl | omega) (by first | exact Nat.le_of_ble_eq_true rfl | omega) ?_
    exact ⟨rfl, Or.inl c1, rfl⟩
  refine z_iload_n C dX2_checkPlace_4 rfl ?_
  refine z_aload_n C dX2_checkPlace_5 rfl ?_
  refine z_getf C zf_X2_44 dX2_checkPlace_6 (by first | assumption | exact zk_eq | exact zk_ne (by first | assumption | exact zk_eq | exact zk_ne (by first | assumption | exact zk_eq | exact zk_ne (by first | assumption | exact zk_eq | exact zk_ne (by first | assumption | exact zk_eq | exact zk_ne (by first | assumption | exact zk_eq) (by first | decide | omega)) (by first | decide | omega)) (by first | decide | omega)) (by first | decide | omega)) (by first | decide | omega)) (by rfl) ?_
  refine z_icmp_lt C 22 dX2_checkPlace_9 (by decide) (fun c2 => ?_) (fun c2 => ?_)
  · refine z_widen (c2 := 1) (s2 := 6) (by omega) (by omega) ?_
    refine z_vret C hret dX2_checkPlace_22 (by first | exact Nat.le_of_ble_eq_true rfl | omega) (by first | exact Nat.le_of_ble_eq_true rfl | omega) ?_
    exact ⟨c1, c2, rfl, rfl⟩
  · refine z_throwN C zt_215_210 hX dX2_checkPlace_12 dX2_checkPlace_15 dX2_checkPlace_16 dX2_checkPlace_18 dX2_checkPlace_21 rfl (by exact Nat.le_of_ble_eq_true rfl) (by exact Nat.le_of_ble_eq_true rfl) (by first | exact Nat.le_of_ble_eq_true rfl | (simp only [zrm]; omega)) (by first | exact Nat.le_of_ble_eq_true rfl | (simp only [zrm]; omega)) (by first | exact Nat.le_of_ble_eq_true rfl | omega) (by first | exact Nat.le_of_ble_eq_true rfl | omega) ?_
    exact ⟨rfl, Or.inr c2, rfl⟩
theorem c_checkBoard (hl : l.stackTraces = false) (x : Int32) : ZM l z mX2_checkBoard 6 1 6 [.int x] w (fun r w1 => ¬ x < 0 ∧ x < 4 ∧ r = none ∧ w1 = w) (fun E w1 => E = "java/lang/IllegalArgumentException" ∧ (x < 0 ∨ ¬ x < 4) ∧ w1 = w) := by
  refine zbody (M := mX2_checkBoard) (L0 := [_]) hl (by simp [Value.category]) (Nat.le_of_ble_eq_true rfl) (by decide +kernel) rfl ?_
  intro p e s m args below meth c C hX hnm hret
  replace C : zC z p l s m args meth c cX2_checkBoard RX2 1 := C
  replace hret : meth.sig.returnType = none := hret
  refine z_iload_n C dX2_checkBoard_0 rfl ?_
  refine z_if_lt C 9 dX2_checkBoard_1 (by decide) (fun c1 => ?_) (fun c1 => ?_)
  · refine z_throw C zt_217_115 hX dX2_checkBoard_9 dX2_checkBoard_12 dX2_checkBoard_13 dX2_checkBoard_15 dX2_checkBoard_18 rfl (by exact Nat.le_of_ble_eq_true rfl) (by exact Nat.le_of_ble_eq_true rfl) (by first | exact Nat.le_of_ble_eq_true rfl | (simp only [zrm]; omega)) (by first | exact Nat.le_of_ble_eq_true rfl | (simp only [zrm]; omega)) (by first | exact Nat.le_of_ble_eq_true rfl | omega) (by first | exact Nat.le_of_ble_eq_true rfl | omega) ?_
    exact ⟨rfl, Or.inl c1, rfl⟩
  refine z_iload_n C dX2_checkBoard_4 rfl ?_
  refine z_iconst C (4) dX2_checkBoard_5 (by decide) ?_
  refine z_icmp_lt C 19 dX2_checkBoard_6 (by decide) (fun c2 => ?_) (fun c2 => ?_)
  · refine z_widen (c2 := 1) (s2 := 6) (by omega) (by omega) ?_
    refine z_vret C hret dX2_checkBoard_19 (by first | exact Nat.le_of_ble_eq_true rfl | omega) (by first | exact Nat.le_of_ble_eq_true rfl | omega) ?_
    exact ⟨c1, c2, rfl, rfl⟩
  · refine z_throw C zt_217_115 hX dX2_checkBoard_9 dX2_checkBoard_12 dX2_checkBoard_13 dX2_checkBoard_15 dX2_checkBoard_18 rfl (by exact Nat.le_of_ble_eq_true rfl) (by exact Nat.le_of_ble_eq_true rfl) (by first | exact Nat.le_of_ble_eq_true rfl | (simp only [zrm]; omega)) (by first | exact Nat.le_of_ble_eq_true rfl | (simp only [zrm]; omega)) (by first | exact Nat.le_of_ble_eq_true rfl | omega) (by first | exact Nat.le_of_ble_eq_true rfl | omega) ?_
    exact ⟨rfl, Or.inr c2, rfl⟩
theorem c_checkSkills (hl : l.stackTraces = false) (x : Int32) : ZM l z mX2_checkSkills 6 1 6 [.int x] w (fun r w1 => ¬ x < 0 ∧ x < 32 ∧ r = none ∧ w1 = w) (fun E w1 => E = "java/lang/IllegalArgumentException" ∧ (x < 0 ∨ ¬ x < 32) ∧ w1 = w) := by
  refine zbody (M := mX2_checkSkills) (L0 := [_]) hl (by simp [Value.category]) (Nat.le_of_ble_eq_true rfl) (by decide +kernel) rfl ?_
  intro p e s m args below meth c C hX hnm hret
  replace C : zC z p l s m args meth c cX2_checkSkills RX2 1 := C
  replace hret : meth.sig.returnType = none := hret
  refine z_iload_n C dX2_checkSkills_0 rfl ?_
  refine z_if_lt C 10 dX2_checkSkills_1 (by decide) (fun c1 => ?_) (fun c1 => ?_)
  · refine z_throw C zt_219_115 hX dX2_checkSkills_10 dX2_checkSkills_13 dX2_checkSkills_14 dX2_checkSkills_16 dX2_checkSkills_19 rfl (by exact Nat.le_of_ble_eq_true rfl) (by exact Nat.le_of_ble_eq_true rfl) (by first | exact Nat.le_of_ble_eq_true rfl | (simp only [zrm]; omega)) (by first | exact Nat.le_of_ble_eq_true rfl | (simp only [zrm]; omega)) (by first | exact Nat.le_of_ble_eq_true rfl | omega) (by first | exact Nat.le_of_ble_eq_true rfl | omega) ?_
    exact ⟨rfl, Or.inl c1, rfl⟩
  refine z_iload_n C dX2_checkSkills_4 rfl ?_
  refine z_bipush C (32) dX2_checkSkills_5 (by decide) ?_
  refine z_icmp_lt C 20 dX2_checkSkills_7 (by decide) (fun c2 => ?_) (fun c2 => ?_)
  · refine z_widen (c2 := 1) (s2 := 6) (by omega) (by omega) ?_
    refine z_vret C hret dX2_checkSkills_20 (by first | exact Nat.le_of_ble_eq_true rfl | omega) (by first | exact Nat.le_of_ble_eq_true rfl | omega) ?_
    exact ⟨c1, c2, rfl, rfl⟩
  · refine z_throw C zt_219_115 hX dX2_checkSkills_10 dX2_checkSkills_13 dX2_checkSkills_14 dX2_checkSkills_16 dX2_checkSkills_19 rfl (by exact Nat.le_of_ble_eq_true rfl) (by exact Nat.le_of_ble_eq_true rfl) (by first | exact Nat.le_of_ble_eq_true rfl | (simp only [zrm]; omega)) (by first | exact Nat.le_of_ble_eq_true rfl | (simp only [zrm]; omega)) (by first | exact Nat.le_of_ble_eq_true rfl | omega) (by first | exact Nat.le_of_ble_eq_true rfl | omega) ?_
    exact ⟨rfl, Or.inr c2, rfl⟩
theorem c_checkNotAtWork (hl : l.stackTraces = false) {k a : Nat} {r : Nat → Int32} (h : w k = some (a, zWc r)) : ZM l z mX2_checkNotAtWork 6 1 6 [.ref a] w (fun x w1 => r 7 = -1 ∧ x = none ∧ w1 = w) (fun E w1 => E = "java/lang/IllegalStateException" ∧ ¬ r 7 = -1 ∧ w1 = w) := by
  refine zbody (M := mX2_checkNotAtWork) (L0 := [_]) hl (by simp [Value.category]) (Nat.le_of_ble_eq_true rfl) (by decide +kernel) rfl ?_
  intro p e s m args below meth c C hX hnm hret
  replace C : zC z p l s m args meth c cX2_checkNotAtWork RX2 1 := C
  replace hret : meth.sig.returnType = none := hret
  refine z_aload_n C dX2_checkNotAtWork_0 rfl ?_
  refine z_callV C zm_X1_isAtWork zl_X2_156 (c_isAtWork hl h) dX2_checkNotAtWork_1 (by first | assumption | exact zk_eq | exact zk_ne (by first | assumption | exact zk_eq | exact zk_ne (by first | assumption | exact zk_eq | exact zk_ne (by first | assumption | exact zk_eq | exact zk_ne (by first | assumption | exact zk_eq | exact zk_ne (by first | assumption | exact zk_eq) (by first | decide | omega)) (by first | decide | omega)) (by first | decide | omega)) (by first | decide | omega)) (by first | decide | omega)) (by rfl) (by rfl) (by rfl) (by exact Nat.le_of_ble_eq_true rfl) rfl (by exact ⟨Nat.le_of_ble_eq_true rfl, Nat.le_of_ble_eq_true rfl⟩) (by first | exact ⟨Nat.le_of_ble_eq_true rfl, Nat.le_of_ble_eq_true rfl⟩ | (simp only [zrm]; omega)) (fun _ _ h => z_xno h) (fun r w1 hq => ?_)
  obtain ⟨rfl, rfl⟩ := hq
  refine z_if_eq C 17 dX2_checkNotAtWork_4 (by decide) (fun c1 => ?_) (fun c1 => ?_)
  · refine z_widen (c2 := 1) (s2 := 6) (by omega) (by omega) ?_
    refine z_vret C hret dX2_checkNotAtWork_17 (by first | exact Nat.le_of_ble_eq_true rfl | omega) (by first | exact Nat.le_of_ble_eq_true rfl | omega) ?_
    exact ⟨by simpa using zb_eq0.mp c1, rfl, rfl⟩
  · refine z_throw C zt_221_71 hX dX2_checkNotAtWork_7 dX2_checkNotAtWork_10 dX2_checkNotAtWork_11 dX2_checkNotAtWork_13 dX2_checkNotAtWork_16 rfl (by exact Nat.le_of_ble_eq_true rfl) (by exact Nat.le_of_ble_eq_true rfl) (by first | exact Nat.le_of_ble_eq_true rfl | (simp only [zrm]; omega)) (by first | exact Nat.le_of_ble_eq_true rfl | (simp only [zrm]; omega)) (by first | exact Nat.le_of_ble_eq_true rfl | omega) (by first | exact Nat.le_of_ble_eq_true rfl | omega) ?_
    exact ⟨rfl, fun q => c1 (by simp [zb, q]), rfl⟩
theorem c_checkWorkHasNotBegun (hl : l.stackTraces = false) (h : HP z ad co gu nd w ts wk hi tb tk W P) : ZM l z mX2_checkWorkHasNotBegun 6 1 6 [.ref (ad 0)] w (fun r w1 => hi 12 = 0 ∧ r = none ∧ w1 = w) (fun E w1 => E = "java/lang/IllegalStateException" ∧ ¬ hi 12 = 0 ∧ w1 = w) := by
  obtain ⟨a0, -⟩ := h
  refine zbody (M := mX2_checkWorkHasNotBegun) (L0 := [_]) hl (by simp [Value.category]) (Nat.le_of_ble_eq_true rfl) (by decide +kernel) rfl ?_
  intro p e s m args below meth c C hX hnm hret
  replace C : zC z p l s m args meth c cX2_checkWorkHasNotBegun RX2 1 := C
  replace hret : meth.sig.returnType = none := hret
  refine z_aload_n C dX2_checkWorkHasNotBegun_0 rfl ?_
  refine z_getf C zf_X2_56 dX2_checkWorkHasNotBegun_1 (by first | assumption | exact zk_eq | exact zk_ne (by first | assumption | exact zk_eq | exact zk_ne (by first | assumption | exact zk_eq | exact zk_ne (by first | assumption | exact zk_eq | exact zk_ne (by first | assumption | exact zk_eq | exact zk_ne (by first | assumption | exact zk_eq) (by first | decide | omega)) (by first | decide | omega)) (by first | decide | omega)) (by first | decide | omega)) (by first | decide | omega)) (by rfl) ?_
  refine z_if_eq C 17 dX2_checkWorkHasNotBegun_4 (by decide) (fun c1 => ?_) (fun c1 => ?_)
  · refine z_widen (c2 := 1) (s2 := 6) (by omega) (by omega) ?_
    refine z_vret C hret dX2_checkWorkHasNotBegun_17 (by first | exact Nat.le_of_ble_eq_true rfl | omega) (by first | exact Nat.le_of_ble_eq_true rfl | omega) ?_
    exact ⟨c1, rfl, rfl⟩
  · refine z_throw C zt_223_71 hX dX2_checkWorkHasNotBegun_7 dX2_checkWorkHasNotBegun_10 dX2_checkWorkHasNotBegun_11 dX2_checkWorkHasNotBegun_13 dX2_checkWorkHasNotBegun_16 rfl (by exact Nat.le_of_ble_eq_true rfl) (by exact Nat.le_of_ble_eq_true rfl) (by first | exact Nat.le_of_ble_eq_true rfl | (simp only [zrm]; omega)) (by first | exact Nat.le_of_ble_eq_true rfl | (simp only [zrm]; omega)) (by first | exact Nat.le_of_ble_eq_true rfl | omega) (by first | exact Nat.le_of_ble_eq_true rfl | omega) ?_
    exact ⟨rfl, c1, rfl⟩
theorem c_takeOffBoard (hl : l.stackTraces = false) (h : HP z ad co gu nd w ts wk hi tb tk W P) {n : Nat} (hn : n ∈ ts) : ZM l z mX2_takeOffBoard 4 0 0 [.ref (ad 0), .ref (zWa ad n)] w (fun r w1 => r = none ∧ zLs z w1 1 (ad 1) ((ts.erase n).map (zWa ad)) ∧ zFk 1 w w1) zNo := by
  have hH := h
  obtain ⟨a0, a1, -, -, -, -, -, -, am, al, an, -⟩ := h
  obtain ⟨md1, b1, e1, -⟩ := id a1
  rw [List.length_map] at e1
  have en := (am n hn).1
  refine zbody (M := mX2_takeOffBoard) (L0 := [_, _, _]) hl (by simp [Value.category]) (Nat.le_of_ble_eq_true rfl) (by decide +kernel) rfl ?_
  intro p e s m args below meth c C hX hnm hret
  replace C : zC z p l s m args meth c cX2_takeOffBoard RX2 3 := C
  replace hret : meth.sig.returnType = none := hret
  refine z_inj (fun hinj => ?_)
  refine z_iconst C (0) dX2_takeOffBoard_0 (by decide) ?_
  refine z_istore_n C (L1 := [_, _, _]) dX2_takeOffBoard_1 (Nat.le_of_ble_eq_true rfl) rfl ?_
  refine z_ind (σ := Nat) (fun i => i ≤ ts.length ∧ ∀ j (h : j < ts.length), j < i → ts[j] ≠ n) (fun i => ts.length - i) (fun _ => 0) (fun _ => 0)
    (fun i => [some (.ref (ad 0)), some (.ref (zWa ad n)), some (.int (nI i))]) (fun _ => w) 0 ⟨Nat.zero_le _, fun j _ hj => absurd hj (Nat.not_lt_zero _)⟩ ?_
  rintro i ⟨q1, q2⟩ ih
  refine z_iload_n C dX2_takeOffBoard_2 rfl ?_
  refine z_aload_n C dX2_takeOffBoard_3 rfl ?_
  refine z_getf C zf_X2_10 dX2_takeOffBoard_4 (by first | assumption | exact zk_eq | exact zk_ne (by first | assumption | exact zk_eq | exact zk_ne (by first | assumption | exact zk_eq | exact zk_ne (by first | assumption | exact zk_eq | exact zk_ne (by first | assumption | exact zk_eq | exact zk_ne (by first | assumption | exact zk_eq) (by first | decide | omega)) (by first | decide | omega)) (by first | decide | omega)) (by first | decide | omega)) (by first | decide | omega)) (by rfl) ?_
  refine z_callV C zm_Jx4a65c_size_8abf5 zl_X2_67 (c_size hl e1) dX2_takeOffBoard_7 (by first | assumption | exact zk_eq | exact zk_ne (by first | assumption | exact zk_eq | exact zk_ne (by first | assumption | exact zk_eq | exact zk_ne (by first | assumption | exact zk_eq | exact zk_ne (by first | assumption | exact zk_eq | exact zk_ne (by first | assumption | exact zk_eq) (by first | decide | omega)) (by first | decide | omega)) (by first | decide | omega)) (by first | decide | omega)) (by first | decide | omega)) (by rfl) (by rfl) (by rfl) (by exact Nat.le_of_ble_eq_true rfl) rfl (by exact ⟨Nat.le_of_ble_eq_true rfl, Nat.le_of_ble_eq_true rfl⟩) (by first | exact ⟨Nat.le_of_ble_eq_true rfl, Nat.le_of_ble_eq_true rfl⟩ | (simp only [zrm]; omega)) (fun _ _ h => z_xno h) (fun r w1 hq => ?_)
  obtain ⟨rfl, rfl⟩ := hq
  refine z_icmp_ge C 41 dX2_takeOffBoard_10 (by decide) (fun c1 => ?_) (fun c1 => ?_)
  · have hi2 := ge_of_ge (by omega) (by omega) c1
    obtain ⟨j, hj, hj2⟩ := List.mem_iff_getElem.mp hn
    exact absurd hj2 (q2 j hj (by omega))
  · have hi2 : i < ts.length := lt_of_nge (by omega) (by omega) c1
    refine z_aload_n C dX2_takeOffBoard_13 rfl ?_
    refine z_getf C zf_X2_10 dX2_takeOffBoard_14 (by first | assumption | exact zk_eq | exact zk_ne (by first | assumption | exact zk_eq | exact zk_ne (by first | assumption | exact zk_eq | exact zk_ne (by first | assumption | exact zk_eq | exact zk_ne (by first | assumption | exact zk_eq | exact zk_ne (by first | assumption | exact zk_eq) (by first | decide | omega)) (by first | decide | omega)) (by first | decide | omega)) (by first | decide | omega)) (by first | decide | omega)) (by rfl) ?_
    refine z_iload_n C dX2_takeOffBoard_17 rfl ?_
    refine z_callV C zm_Jx4a65c_get_915e3 zl_X2_123 (c_get (i := i) hl a1 (by simpa using hi2)) dX2_takeOffBoard_18 (by first | assumption | exact zk_eq | exact zk_ne (by first | assumption | exact zk_eq | exact zk_ne (by first | assumption | exact zk_eq | exact zk_ne (by first | assumption | exact zk_eq | exact zk_ne (by first | assumption | exact zk_eq | exact zk_ne (by first | assumption | exact zk_eq) (by first | decide | omega)) (by first | decide | omega)) (by first | decide | omega)) (by first | decide | omega)) (by first | decide | omega)) (by rfl) (by rfl) (by rfl) (by exact Nat.le_of_ble_eq_true rfl) rfl (by exact ⟨Nat.le_of_ble_eq_true rfl, Nat.le_of_ble_eq_true rfl⟩) (by first | exact ⟨Nat.le_of_ble_eq_true rfl, Nat.le_of_ble_eq_true rfl⟩ | (simp only [zrm]; omega)) (fun _ _ h => z_xno h) (fun r w1 hq => ?_)
    obtain ⟨rfl, rfl⟩ := hq
    have e2 := hH.wk1 hi2
    rw [List.getElem_map]
    refine z_aload_n C dX2_takeOffBoard_21 rfl ?_
    refine z_acmp_ne C 35 dX2_takeOffBoard_22 (by decide) (fun c2 => ?_) (fun c2 => ?_)
    · refine z_iinc C (L1 := [_, _, _]) _ dX2_takeOffBoard_35 rfl (by first | exact zinc | rfl) rfl ?_
      refine z_goto C 2 dX2_takeOffBoard_38 (by decide) ?_
      refine ih (i + 1) ⟨hi2, fun j hj hji e => ?_⟩ (by show ts.length - (i + 1) < ts.length - i; omega)
      by_cases e3 : j = i
      · subst e3
        exact c2 (by rw [e])
      · exact q2 j hj (by omega) e
    · have e3 : ts[i] = n := by
        have := hinj _ _ _ _ e2 en c2
        omega
      refine z_aload_n C dX2_takeOffBoard_25 rfl ?_
      refine z_getf C zf_X2_10 dX2_takeOffBoard_26 (by first | assumption | exact zk_eq | exact zk_ne (by first | assumption | exact zk_eq | exact zk_ne (by first | assumption | exact zk_eq | exact zk_ne (by first | assumption | exact zk_eq | exact zk_ne (by first | assumption | exact zk_eq | exact zk_ne (by first | assumption | exact zk_eq) (by first | decide | omega)) (by first | decide | omega)) (by first | decide | omega)) (by first | decide | omega)) (by first | decide | omega)) (by rfl) ?_
      refine z_iload_n C dX2_takeOffBoard_29 rfl ?_
      refine z_callV C zm_Jx4a65c_remove_915e3 zl_X2_225 (c_remove (i := i) hl a1 (by simpa using hi2) hH.zwk (by decide)) dX2_takeOffBoard_30 (by first | assumption | exact zk_eq | exact zk_ne (by first | assumption | exact zk_eq | exact zk_ne (by first | assumption | exact zk_eq | exact zk_ne (by first | assumption | exact zk_eq | exact zk_ne (by first | assumption | exact zk_eq | exact zk_ne (by first | assumption | exact zk_eq) (by first | decide | omega)) (by first | decide | omega)) (by first | decide | omega)) (by first | decide | omega)) (by first | decide | omega)) (by rfl) (by rfl) (by rfl) (by exact Nat.le_of_ble_eq_true rfl) rfl (by exact ⟨Nat.le_of_ble_eq_true rfl, Nat.le_of_ble_eq_true rfl⟩) (by first | exact ⟨Nat.le_of_ble_eq_true rfl, Nat.le_of_ble_eq_true rfl⟩ | (simp only [zrm]; omega)) (fun _ _ h => z_xno h) (fun r w1 hq => ?_)
      obtain ⟨rfl, g1, g2⟩ := hq
      refine z_pop C dX2_takeOffBoard_33 rfl ?_
      refine z_vret C hret dX2_takeOffBoard_34 (by first | exact Nat.le_of_ble_eq_true rfl | omega) (by first | exact Nat.le_of_ble_eq_true rfl | omega) ?_
      refine ⟨rfl, ?_, g2⟩
      rw [← erase_at ts i hi2 e3 q2, map_erIdx]
      exact g1
end ZH1
