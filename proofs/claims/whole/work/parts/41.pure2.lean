/-! The two states side by side: K is the row of the kept places in turn; num tells the number of the worker who is kept at a place -/
theorem find_uni {α : Type} {p : α → Bool} {a : α} : ∀ {l : List α}, a ∈ l → p a = true → (∀ b ∈ l, p b = true → b = a) → l.find? p = some a
  | [], h, _, _ => absurd h List.not_mem_nil
  | x :: l, h, hp, hu => by
    by_cases e : p x = true
    · rw [List.find?_cons_of_pos e]
      exact congrArg some (hu x List.mem_cons_self e)
    · rw [List.find?_cons_of_neg e]
      rcases List.mem_cons.mp h with h | h
      · subst h
        exact absurd hp e
      · exact find_uni h hp (fun b hb => hu b (List.mem_cons_of_mem _ hb))
theorem pair_uni {R : Nat → Nat → Prop} (ha : ∀ a b, R a b → R b a → False) : ∀ {l1 l2 : List Nat}, l1.Pairwise R → l2.Pairwise R → (∀ x, x ∈ l1 ↔ x ∈ l2) → l1 = l2
  | [], [], _, _, _ => rfl
  | [], b :: l2, _, _, h => absurd ((h b).mpr List.mem_cons_self) List.not_mem_nil
  | a :: l1, [], _, _, h => absurd ((h a).mp List.mem_cons_self) List.not_mem_nil
  | a :: l1, b :: l2, h1, h2, h => by
    have h1' := List.pairwise_cons.mp h1
    have h2' := List.pairwise_cons.mp h2
    have e : a = b := by
      rcases List.mem_cons.mp ((h a).mp List.mem_cons_self) with q | q
      · exact q
      · rcases List.mem_cons.mp ((h b).mpr List.mem_cons_self) with q2 | q2
        · exact q2.symm
        · exact (ha _ _ (h1'.1 b q2) (h2'.1 a q)).elim
    subst e
    have e2 : l1 = l2 := pair_uni ha h1'.2 h2'.2 (fun x => ⟨fun hx => by
      rcases List.mem_cons.mp ((h x).mp (List.mem_cons_of_mem _ hx)) with q | q
      · subst q
        exact (ha _ _ (h1'.1 x hx) (h1'.1 x hx)).elim
      · exact q, fun hx => by
      rcases List.mem_cons.mp ((h x).mpr (List.mem_cons_of_mem _ hx)) with q | q
      · subst q
        exact (ha _ _ (h2'.1 x hx) (h2'.1 x hx)).elim
      · exact q⟩)
    rw [e2]
theorem bef_iff {g : Nat → Nat → Int32} {a b : Nat} : bef g a b = true ↔ g 1 a < g 1 b ∨ (g 1 a = g 1 b ∧ g 2 a < g 2 b) := by simp [bef]
theorem bef_as {g : Nat → Nat → Int32} (a b : Nat) (h : bef g a b = true) (h2 : bef g b a = true) : False := by
  rw [bef_iff] at h h2
  simp only [Int32.lt_iff_toInt_lt, ← Int32.toInt_inj] at h h2
  omega
theorem bef_tr {g : Nat → Nat → Int32} {a b c : Nat} (h : bef g a b = true) (h2 : bef g b c = true) : bef g a c = true := by
  rw [bef_iff] at h h2 ⊢
  simp only [Int32.lt_iff_toInt_lt, ← Int32.toInt_inj] at h h2 ⊢
  omega
def Sor (g : Nat → Nat → Int32) (K : List Nat) : Prop := K.Pairwise (fun a b => bef g a b = true)
theorem sor_tot {g : Nat → Nat → Int32} : ∀ {K : List Nat}, Sor g K → ∀ a ∈ K, ∀ b ∈ K, a ≠ b → bef g a b = true ∨ bef g b a = true
  | [], _, _, h, _, _, _ => absurd h List.not_mem_nil
  | x :: K, h, a, ha, b, hb, hn => by
    have h' := List.pairwise_cons.mp h
    rcases List.mem_cons.mp ha with q | q <;> rcases List.mem_cons.mp hb with q2 | q2
    · exact absurd (q.trans q2.symm) hn
    · subst q; exact Or.inl (h'.1 b q2)
    · subst q2; exact Or.inr (h'.1 a q)
    · exact sor_tot h'.2 a q b q2 hn
theorem insR_sor {g : Nat → Nat → Int32} {k : Nat} : ∀ r : List Nat, r.Pairwise (fun a b => bef g b a = true) → (∀ y ∈ r, bef g k y = true ∨ bef g y k = true) → (insR g k r).Pairwise (fun a b => bef g b a = true)
  | [], _, _ => List.pairwise_singleton _ _
  | y :: r, h, ht => by
    have h' := List.pairwise_cons.mp h
    simp only [insR]
    split
    · rename_i q
      refine List.pairwise_cons.mpr ⟨fun x hx => ?_, insR_sor r h'.2 (fun x hx => ht x (List.mem_cons_of_mem _ hx))⟩
      rcases List.mem_cons.mp ((insR_perm r).mem_iff.mp hx) with q2 | q2
      · subst q2; exact q
      · exact h'.1 x q2
    · rename_i q
      have q3 := (ht y List.mem_cons_self).resolve_left q
      refine List.pairwise_cons.mpr ⟨fun x hx => ?_, h⟩
      rcases List.mem_cons.mp hx with q2 | q2
      · subst q2; exact q3
      · exact bef_tr (h'.1 x q2) q3
theorem mLine_eq {g : Nat → Nat → Int32} {K : List Nat} (hK : Sor g K) (hm : ∀ k : Nat, k ∈ K ↔ k < 30 ∧ mOcc g k = true) : mLine g = K := by
  have hs : ∀ i : Nat, i ≤ 30 → (mLinR g i).Pairwise (fun a b => bef g b a = true) := by
    intro i
    induction i with
    | zero => intro _; exact List.Pairwise.nil
    | succ i ih =>
      intro hi
      simp only [mLinR]
      split
      · rename_i ho
        refine insR_sor _ (ih (by omega)) (fun y hy => ?_)
        obtain ⟨y1, y2⟩ := mLinR_mem.mp hy
        exact sor_tot hK i ((hm i).mpr ⟨by omega, ho⟩) y ((hm y).mpr ⟨by omega, y2⟩) (by omega)
      · exact ih (by omega)
  refine pair_uni (R := fun a b => bef g a b = true) bef_as (List.pairwise_reverse.mpr (hs 30 (Nat.le_refl _))) hK (fun x => ?_)
  rw [List.mem_reverse, hm x]
  exact mLinR_mem
/-- the rows of the model by the place -/
abbrev tg (g : Nat → Nat → Int32) : Nat → Nat → Int32 := fun m j => g j m
theorem sor_same {g g2 : Nat → Nat → Int32} {K : List Nat} (h : Sor g K) (e : ∀ m ∈ K, g2 1 m = g 1 m ∧ g2 2 m = g 2 m) : Sor g2 K := by
  refine List.Pairwise.imp_of_mem (fun {a b} ha hb hr => ?_) h
  rw [bef_iff] at hr ⊢
  rw [(e a ha).1, (e a ha).2, (e b hb).1, (e b hb).2]
  exact hr
theorem sor_bot {g g2 : Nat → Nat → Int32} {k : Nat} : ∀ K : List Nat, Sor g K → (∀ m ∈ K, g2 1 m = g 1 m ∧ g2 2 m = g 2 m ∧ g2 2 m < g2 2 k) → Sor g2 (pab (tg g2) k K)
  | [], _, _ => List.pairwise_singleton _ _
  | m :: K, h, e => by
    have h' := List.pairwise_cons.mp h
    have h2 : Sor g2 (m :: K) := sor_same h (fun x hx => ⟨(e x hx).1, (e x hx).2.1⟩)
    have h2' := List.pairwise_cons.mp h2
    obtain ⟨e1, e2, e3⟩ := e m List.mem_cons_self
    simp only [pab]
    split
    · rename_i q
      refine List.pairwise_cons.mpr ⟨fun x hx => ?_, sor_bot K h'.2 (fun x hx => e x (List.mem_cons_of_mem _ hx))⟩
      rcases List.mem_cons.mp ((pab_perm K).mem_iff.mp hx) with q2 | q2
      · subst q2
        have q : g2 1 m ≤ g2 1 x := q
        rw [bef_iff]
        simp only [Int32.le_iff_toInt_le, Int32.lt_iff_toInt_lt, ← Int32.toInt_inj] at q e3 ⊢
        omega
      · exact h2'.1 x q2
    · rename_i q
      have q3 : bef g2 k m = true := by
        have q : ¬ g2 1 m ≤ g2 1 k := q
        rw [bef_iff]
        simp only [Int32.le_iff_toInt_le, Int32.lt_iff_toInt_lt, ← Int32.toInt_inj] at q ⊢
        omega
      refine List.pairwise_cons.mpr ⟨fun x hx => ?_, h2⟩
      rcases List.mem_cons.mp hx with q2 | q2
      · subst q2; exact q3
      · exact bef_tr q3 (h2'.1 x q2)
theorem sor_erase {g : Nat → Nat → Int32} {K : List Nat} (h : Sor g K) (k : Nat) : Sor g (K.erase k) := List.Pairwise.sublist (List.erase_sublist ..) h
theorem pab_map {wk wk2 : Nat → Nat → Int32} {ν : Nat → Nat} {k : Nat} (hk : wk (ν k) 1 = wk2 k 1) : ∀ K : List Nat, (∀ m ∈ K, wk (ν m) 1 = wk2 m 1) → pab wk (ν k) (K.map ν) = (pab wk2 k K).map ν
  | [], _ => rfl
  | m :: K, h => by
    have ih := pab_map hk K (fun x hx => h x (List.mem_cons_of_mem _ hx))
    rw [List.map_cons]
    simp only [pab]
    rw [h m List.mem_cons_self, hk]
    split
    · rw [List.map_cons, ih]
    · rfl
theorem erase_map {ν : Nat → Nat} {k : Nat} : ∀ {K : List Nat}, (∀ m ∈ K, ν m = ν k → m = k) → (K.map ν).erase (ν k) = (K.erase k).map ν
  | [], _ => rfl
  | m :: K, h => by
    by_cases e : m = k
    · subst e
      rw [List.map_cons, List.erase_cons_head, List.erase_cons_head]
    · have e2 : ν m ≠ ν k := fun q => e (h m List.mem_cons_self q)
      rw [List.map_cons, List.erase_cons_tail (by simpa using e2), List.erase_cons_tail (by simpa using e), List.map_cons, erase_map (fun x hx => h x (List.mem_cons_of_mem _ hx))]
theorem nd_inj {ν : Nat → Nat} : ∀ {K : List Nat}, (K.map ν).Nodup → ∀ a ∈ K, ∀ b ∈ K, ν a = ν b → a = b
  | [], _, _, h, _, _, _ => absurd h List.not_mem_nil
  | x :: K, h, a, ha, b, hb, e => by
    rw [List.map_cons] at h
    have h' := List.nodup_cons.mp h
    rcases List.mem_cons.mp ha with q | q <;> rcases List.mem_cons.mp hb with q2 | q2
    · exact q.trans q2.symm
    · subst q
      exact absurd (e ▸ List.mem_map_of_mem q2) h'.1
    · subst q2
      exact absurd (e.symm ▸ List.mem_map_of_mem q) h'.1
    · exact nd_inj h'.2 a q b q2 e
theorem nd_of {ν : Nat → Nat} : ∀ {K : List Nat}, (K.map ν).Nodup → K.Nodup
  | [], _ => List.nodup_nil
  | x :: K, h => by
    rw [List.map_cons] at h
    have h' := List.nodup_cons.mp h
    exact List.nodup_cons.mpr ⟨fun hx => h'.1 (List.mem_map_of_mem hx), nd_of h'.2⟩
def num (g : Nat → Nat → Int32) (k : Nat) : Nat := (g 0 k).toNatClampNeg
/-- the turn -/
def RA (ts : List Nat) (g : Nat → Nat → Int32) (K : List Nat) : Prop := ts = K.map (num g) ∧ ts.Nodup ∧ (∀ k : Nat, k ∈ K ↔ k < 30 ∧ mOcc g k = true) ∧ Sor g K
/-- a worker's numbers r against the place's numbers q -/
def RBk (r q : Nat → Int32) (nn mk : Nat) : Prop :=
  (∃ n : Nat, n < nn ∧ q 0 = nI n) ∧ r 0 = q 0 ∧ r 1 = q 1 ∧ r 2 = q 3 ∧ r 3 = q 4 ∧ r 4 = q 5 ∧ r 5 = q 9 ∧ r 6 = q 10 ∧ r 7 = q 7 ∧ (¬ q 7 = -1 → r 8 = q 8) ∧ r 9 = q 6 ∧
  (∃ b : Nat, b < 4 ∧ q 1 = nI b) ∧ (∃ t : Nat, t < 32 ∧ q 3 = nI t) ∧ (∃ v : Bool, q 4 = zb v) ∧ (∃ v : Bool, q 5 = zb v) ∧ (∃ v : Bool, q 6 = zb v) ∧ (q 6 = 0 → q 7 = -1) ∧ (∃ t : Nat, t ≤ mk ∧ q 2 = nI t)
def RB (wk : Nat → Nat → Int32) (g : Nat → Nat → Int32) (K : List Nat) (nn mk : Nat) : Prop := ∀ k ∈ K, RBk (wk (num g k)) (tg g k) nn mk
/-- who fills which place -/
def RC (g : Nat → Nat → Int32) (K : List Nat) (c9 : Nat) : Prop :=
  (∀ p : Nat, p < c9 → g 14 p = -1 ∨ ∃ k ∈ K, g 14 p = nI k ∧ g 7 k = nI p) ∧ ∀ k ∈ K, g 7 k = -1 ∨ ∃ p : Nat, p < c9 ∧ g 7 k = nI p ∧ g 14 p = nI k
/-- the numbers of the whole -/
def RD (hi f : Nat → Int32) (nn c9 mk : Nat) : Prop := hi 7 = nI nn ∧ f 11 = nI nn ∧ hi 8 = nI c9 ∧ f 17 = nI c9 ∧ c9 ≤ 16 ∧ f 18 = hi 9 ∧ f 19 = hi 10 ∧ f 20 = hi 11 ∧ f 21 = hi 12 ∧ f 12 = nI mk
/-- the boards' rules, the places' needs -/
def RE (co gu nd : Nat → Int32) (g : Nat → Nat → Int32) (c9 : Nat) : Prop := (∀ b : Nat, b < 4 → co b = g 11 b ∧ gu b = g 12 b) ∧ ∀ p : Nat, p < c9 → nd p = g 13 p ∧ ∃ j : Nat, j < 5 ∧ g 13 p = nI j
def SK (S : zHS) (M : zMO) (K : List Nat) (c9 nn mk : Nat) : Prop := RA S.1 M.1 K ∧ RB S.2.1 M.1 K nn mk ∧ RC M.1 K c9 ∧ RD S.2.2.1 M.2 nn c9 mk ∧ RE S.2.2.2.1 S.2.2.2.2.1 S.2.2.2.2.2 M.1 c9
/-- after n calls -/
def SR (S : zHS) (M : zMO) (n : Nat) : Prop := ∃ (K : List Nat) (c9 nn mk : Nat), nn ≤ n ∧ mk ≤ 100 * n ∧ SK S M K c9 nn mk
theorem RA.inj {ts : List Nat} {g : Nat → Nat → Int32} {K : List Nat} (h : RA ts g K) : ∀ a ∈ K, ∀ b ∈ K, num g a = num g b → a = b := by
  obtain ⟨rfl, h2, -, -⟩ := h
  exact nd_inj h2
theorem RA.nd {ts : List Nat} {g : Nat → Nat → Int32} {K : List Nat} (h : RA ts g K) : K.Nodup := by
  obtain ⟨rfl, h2, -, -⟩ := h
  exact nd_of h2
theorem RA.line {ts : List Nat} {g : Nat → Nat → Int32} {K : List Nat} (h : RA ts g K) : mLine g = K := mLine_eq h.2.2.2 h.2.2.1
theorem RBk.congr {r q q2 : Nat → Int32} {nn mk nn2 mk2 : Nat} (h : RBk r q nn mk) (e : ∀ i : Nat, i ≤ 10 → q2 i = q i) (hn : nn ≤ nn2) (hm : mk ≤ mk2) : RBk r q2 nn2 mk2 := by
  unfold RBk at h ⊢
  rw [e 0 (by decide), e 1 (by decide), e 2 (by decide), e 3 (by decide), e 4 (by decide), e 5 (by decide), e 6 (by decide), e 7 (by decide), e 8 (by decide), e 9 (by decide), e 10 (by decide)]
  obtain ⟨⟨n, n1, n2⟩, h1, h2, h3, h4, h5, h6, h7, h8, h9, h10, h11, h12, h13, h14, h15, h16, ⟨t, t1, t2⟩⟩ := h
  exact ⟨⟨n, by omega, n2⟩, h1, h2, h3, h4, h5, h6, h7, h8, h9, h10, h11, h12, h13, h14, h15, h16, ⟨t, by omega, t2⟩⟩
theorem RBk.nm {r : Nat → Int32} {g : Nat → Nat → Int32} {k nn mk : Nat} (h : RBk r (tg g k) nn mk) (hn : nn < 2 ^ 31) : g 0 k = nI (num g k) ∧ num g k < nn := by
  obtain ⟨⟨n, n1, n2⟩, -⟩ := h
  have n2 : g 0 k = nI n := n2
  unfold num
  rw [n2, nI_clamp (by omega)]
  exact ⟨rfl, n1⟩
/-- the worker of a number, the place of a number -/
theorem SK.find {S : zHS} {M : zMO} {K : List Nat} {c9 nn mk : Nat} (h : SK S M K c9 nn mk) (hn : nn < 2 ^ 31) (x : Int32) : (fnd S.2.1 x S.1 = none ∧ mKept M.1 x = none) ∨ ∃ k ∈ K, fnd S.2.1 x S.1 = some (num M.1 k) ∧ mKept M.1 x = some k := by
  obtain ⟨⟨e1, e2, e3, e4⟩, hB, -⟩ := h
  by_cases hx : ∃ k ∈ K, M.1 0 k = x
  · obtain ⟨k, hk, hkx⟩ := hx
    obtain ⟨k1, k2⟩ := (hB k hk).nm hn
    refine Or.inr ⟨k, hk, ?_, ?_⟩
    · unfold fnd
      refine find_uni (by rw [e1]; exact List.mem_map_of_mem hk) (decide_eq_true ((hB k hk).2.1.trans hkx)) (fun b hb hp => ?_)
      rw [e1] at hb
      obtain ⟨m, hm, rfl⟩ := List.mem_map.mp hb
      have e := of_decide_eq_true hp
      rw [(hB m hm).2.1] at e
      have e : M.1 0 m = x := e
      show (M.1 0 m).toNatClampNeg = (M.1 0 k).toNatClampNeg
      rw [e, hkx]
    · unfold mKept
      have hk30 := (e3 k).mp hk
      refine find_uni (List.mem_range.mpr hk30.1) ?_ (fun b hb hp => ?_)
      · rw [← hkx, k1]
        simp only [decide_eq_false (nI_pos (show num M.1 k < 2 ^ 31 by omega))]
        simp
      · simp only [Bool.and_eq_true, Bool.not_eq_true', decide_eq_false_iff_not, decide_eq_true_eq] at hp
        have hb2 : b ∈ K := (e3 b).mpr ⟨List.mem_range.mp hb, by
          unfold mOcc
          rw [hp.2, ← hkx, k1]
          simp [nI_nm1 (show num M.1 k < 2 ^ 31 by omega)]⟩
        rw [e1] at e2
        refine nd_inj e2 b hb2 k hk ?_
        show (M.1 0 b).toNatClampNeg = (M.1 0 k).toNatClampNeg
        rw [hp.2, hkx]
  · refine Or.inl ⟨?_, ?_⟩
    · unfold fnd
      rw [List.find?_eq_none]
      intro b hb
      rw [e1] at hb
      obtain ⟨m, hm, rfl⟩ := List.mem_map.mp hb
      intro hp
      have e := of_decide_eq_true hp
      rw [(hB m hm).2.1] at e
      exact hx ⟨m, hm, e⟩
    · unfold mKept
      rw [List.find?_eq_none]
      intro b hb hp
      simp only [Bool.and_eq_true, Bool.not_eq_true', decide_eq_false_iff_not, decide_eq_true_eq] at hp
      refine hx ⟨b, (e3 b).mpr ⟨List.mem_range.mp hb, ?_⟩, hp.2⟩
      unfold mOcc
      rw [hp.2]
      simp only [Bool.not_eq_true', decide_eq_false_iff_not]
      intro e
      rw [e] at hp
      exact hp.1 (by decide)
/-- who holds a place -/
theorem SK.hld {S : zHS} {M : zMO} {K : List Nat} {c9 nn mk : Nat} (h : SK S M K c9 nn mk) (hn : nn < 2 ^ 31) {p : Nat} (hp : p < c9) : hold S.2.1 (nI p) S.1 = (if M.1 14 p = -1 then -1 else M.1 0 (M.1 14 p).toNatClampNeg) ∧ (hold S.2.1 (nI p) S.1 = -1 ↔ M.1 14 p = -1) := by
  obtain ⟨⟨e1, e2, e3, e4⟩, hB, ⟨hC1, hC2⟩, hD, -⟩ := h
  have c16 := hD.2.2.2.2.1
  rcases hC1 p hp with q | ⟨k, hk, q, q7⟩
  · have : hold S.2.1 (nI p) S.1 = -1 := by
      unfold hold
      rw [show S.1.find? (fun n => decide (S.2.1 n 7 = nI p)) = none from List.find?_eq_none.mpr (fun b hb hpp => ?_)]
      rw [e1] at hb
      obtain ⟨m, hm, rfl⟩ := List.mem_map.mp hb
      have e := of_decide_eq_true hpp
      rw [(hB m hm).2.2.2.2.2.2.2.2.1] at e
      have e : M.1 7 m = nI p := e
      rcases hC2 m hm with r | ⟨p2, r1, r2, r3⟩
      · rw [r] at e
        exact nI_nm1 (show p < 2 ^ 31 by omega) e.symm
      · rw [r2] at e
        have := (nI_eq (show p2 < 2 ^ 31 by omega) (show p < 2 ^ 31 by omega)).mp e
        subst this
        rw [r3] at q
        exact nI_nm1 (show m < 2 ^ 31 by have := (e3 m).mp hm; omega) q
    rw [this, if_pos q]
    exact ⟨rfl, fun _ => q, fun _ => rfl⟩
  · have hk30 := ((e3 k).mp hk).1
    have hq : ¬ M.1 14 p = -1 := by rw [q]; exact nI_nm1 (by omega)
    have k0 := (hB k hk).nm hn
    have : hold S.2.1 (nI p) S.1 = M.1 0 k := by
      unfold hold
      rw [show S.1.find? (fun n => decide (S.2.1 n 7 = nI p)) = some (num M.1 k) from find_uni (by rw [e1]; exact List.mem_map_of_mem hk) (decide_eq_true ((hB k hk).2.2.2.2.2.2.2.2.1.trans q7)) (fun b hb hpp => ?_)]
      · exact (hB k hk).2.1
      · rw [e1] at hb
        obtain ⟨m, hm, rfl⟩ := List.mem_map.mp hb
        have e := of_decide_eq_true hpp
        rw [(hB m hm).2.2.2.2.2.2.2.2.1] at e
        have e : M.1 7 m = nI p := e
        rcases hC2 m hm with r | ⟨p2, r1, r2, r3⟩
        · rw [r] at e
          exact absurd e.symm (nI_nm1 (show p < 2 ^ 31 by omega))
        · rw [r2] at e
          have := (nI_eq (show p2 < 2 ^ 31 by omega) (show p < 2 ^ 31 by omega)).mp e
          subst this
          rw [r3] at q
          rw [(nI_eq (show m < 2 ^ 31 by have := (e3 m).mp hm; omega) (show k < 2 ^ 31 by omega)).mp q]
    rw [this, if_neg hq, q, nI_clamp (show k < 2 ^ 31 by omega)]
    refine ⟨rfl, fun e => ?_, fun e => absurd e (by rw [← q]; exact hq)⟩
    rw [k0.1] at e
    exact absurd e (nI_nm1 (by omega))
/-- the open places -/
theorem SK.opn {S : zHS} {M : zMO} {K : List Nat} {c9 nn mk : Nat} (h : SK S M K c9 nn mk) (hn : nn < 2 ^ 31) : ∀ i : Nat, i ≤ c9 → opl S.2.1 S.2.2.2.2.2 S.1 i = mOpn M.1 i
  | 0, _ => rfl
  | i + 1, hi => by
    have ih := SK.opn h hn i (by omega)
    simp only [opl, mOpn]
    rw [ih, (h.2.2.2.2.2 i (by omega)).1]
    by_cases q : M.1 14 i = -1
    · rw [if_pos q, if_pos ((h.hld hn (by omega)).2.mpr q)]
    · rw [if_neg q, if_neg (fun e => q ((h.hld hn (by omega)).2.mp e))]
