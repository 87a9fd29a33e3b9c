/-! Answers that agree: the end of a shift, of a period -/
def isum (φ : Nat → Int32) : List Nat → Int32
  | [] => 0
  | n :: r => φ n + isum φ r
theorem isum_perm {φ : Nat → Int32} {a b : List Nat} (h : a.Perm b) : isum φ a = isum φ b := by
  induction h with
  | nil => rfl
  | cons x _ ih => simp only [isum, ih]
  | swap x y l =>
    simp only [isum]
    rw [← Int32.add_assoc, ← Int32.add_assoc, Int32.add_comm (φ y) (φ x)]
  | trans _ _ ih1 ih2 => exact ih1.trans ih2
theorem isum_app {φ : Nat → Int32} : ∀ a b : List Nat, isum φ (a ++ b) = isum φ a + isum φ b
  | [], b => by simp [isum]
  | x :: a, b => by
    simp only [List.cons_append, isum]
    rw [isum_app a b, Int32.add_assoc]
theorem isum_map {φ ψ : Nat → Int32} {ν : Nat → Nat} : ∀ K : List Nat, (∀ k ∈ K, φ (ν k) = ψ k) → isum φ (K.map ν) = isum ψ K
  | [], _ => rfl
  | k :: K, h => by
    simp only [List.map_cons, isum]
    rw [h k List.mem_cons_self, isum_map K (fun m hm => h m (List.mem_cons_of_mem _ hm))]
theorem isum_filter {φ : Nat → Int32} {p : Nat → Bool} : ∀ K : List Nat, (∀ k ∈ K, p k = false → φ k = 0) → isum φ (K.filter p) = isum φ K
  | [], _ => rfl
  | k :: K, h => by
    have ih := isum_filter (p := p) K (fun m hm => h m (List.mem_cons_of_mem _ hm))
    cases e : p k with
    | true =>
      rw [List.filter_cons_of_pos e]
      simp only [isum, ih]
    | false =>
      rw [List.filter_cons_of_neg (by rw [e]; decide), ih]
      simp only [isum]
      rw [h k List.mem_cons_self e, Int32.zero_add]
theorem RA.sum {ts : List Nat} {g : Nat → Nat → Int32} {K : List Nat} (h : RA ts g K) {φ : Nat → Int32} (h0 : ∀ k : Nat, mOcc g k = false → φ k = 0) : isum φ (List.range 30) = isum φ K := by
  have h2 : ((List.range 30).filter (mOcc g)).Perm K := by
    have h3 := mLinR_perm (g := g) 30
    rw [← h.line]
    exact (List.reverse_perm _).symm.trans (h3.symm.trans (List.reverse_perm _).symm)
  rw [← isum_perm h2, isum_filter _ (fun k _ e => h0 k e)]
/-- a worker's numbers when the shift ends -/
def eshRow (h : Int32) (r : Nat → Int32) : Nat → Int32 := va_up (va_up (if r 7 = -1 then r else va_up (va_up r 5 (r 5 + (h - r 8))) 7 (-1)) 9 0) 4 0
theorem eshW_self {h : Int32} {wk : Nat → Nat → Int32} {n : Nat} : eshW h wk n n = eshRow h (wk n) := by
  unfold eshW eshRow
  rw [va_up_self]
  split
  · rfl
  · unfold zend
    rw [va_up_self]
theorem eshW_ne {h : Int32} {wk : Nat → Nat → Int32} {n m : Nat} (hm : m ≠ n) : eshW h wk n m = wk m := by
  unfold eshW
  rw [va_up_ne _ _ hm]
  split
  · rfl
  · unfold zend
    rw [va_up_ne _ _ hm]
theorem esh_spec {h : Int32} : ∀ (r : List Nat) (wk : Nat → Nat → Int32) (v : Int32), r.Nodup → (esh h r wk v).2 = v + isum (fun n => if wk n 7 = -1 then 0 else h - wk n 8) r ∧ (∀ n ∈ r, (esh h r wk v).1 n = eshRow h (wk n)) ∧ ∀ n : Nat, n ∉ r → (esh h r wk v).1 n = wk n
  | [], wk, v, _ => ⟨by simp [esh, isum], fun n hn => absurd hn List.not_mem_nil, fun _ _ => rfl⟩
  | a :: r, wk, v, hnd => by
    have h' := List.nodup_cons.mp hnd
    obtain ⟨i1, i2, i3⟩ := esh_spec r (eshW h wk a) (if wk a 7 = -1 then v else v + (h - wk a 8)) h'.2
    have hne : ∀ n ∈ r, n ≠ a := fun n hn q => h'.1 (q ▸ hn)
    simp only [esh]
    refine ⟨?_, fun n hn => ?_, fun n hn => ?_⟩
    · rw [i1]
      simp only [isum]
      have : isum (fun n => if eshW h wk a n 7 = -1 then 0 else h - eshW h wk a n 8) r = isum (fun n => if wk n 7 = -1 then 0 else h - wk n 8) r := by
        have := isum_map (φ := fun n => if eshW h wk a n 7 = -1 then 0 else h - eshW h wk a n 8) (ψ := fun n => if wk n 7 = -1 then 0 else h - wk n 8) (ν := id) r (fun n hn => by
          show (if eshW h wk a n 7 = -1 then 0 else h - eshW h wk a n 8) = _
          rw [eshW_ne (hne n hn)])
        rwa [List.map_id] at this
      rw [this]
      split
      · rw [Int32.zero_add]
      · rw [Int32.add_assoc]
    · rcases List.mem_cons.mp hn with q | q
      · subst q
        rw [i3 n h'.1, eshW_self]
      · rw [i2 n q, eshW_ne (hne n q)]
    · have h1 : n ≠ a := fun q => hn (q ▸ List.mem_cons_self)
      rw [i3 n (fun q => hn (List.mem_cons_of_mem _ q)), eshW_ne h1]
def eshC (t : Int32) (g : Nat → Nat → Int32) (k j : Nat) : Int32 :=
  if j = 5 ∨ j = 6 then 0 else if mOcc g k = true ∧ ¬ g 7 k = -1 then if j = 9 then g 9 k + (t - g 8 k) else if j = 7 then -1 else g j k else g j k
theorem mEsh_spec {t : Int32} {M : zMO} : ∀ i : Nat, (∀ j k : Nat, (mEsh t M i).1 j k = if k < i then eshC t M.1 k j else M.1 j k) ∧ (mEsh t M i).2 20 = M.2 20 + isum (fun k => if mOcc M.1 k = true ∧ ¬ M.1 7 k = -1 then t - M.1 8 k else 0) (List.range i) ∧ ∀ j : Nat, j ≠ 20 → (mEsh t M i).2 j = M.2 j
  | 0 => ⟨fun j k => by simp [mEsh], by simp [mEsh, isum], fun _ _ => rfl⟩
  | i + 1 => by
    obtain ⟨i1, i2, i3⟩ := mEsh_spec (t := t) (M := M) i
    have hi : ∀ j : Nat, (mEsh t M i).1 j i = M.1 j i := fun j => by rw [i1 j i, if_neg (Nat.lt_irrefl _)]
    have ho : mOcc (mEsh t M i).1 i = mOcc M.1 i := mOcc_c (hi 0)
    rw [List.range_succ, isum_app]
    obtain ⟨s1, s2⟩ := mEsh_succ t M i
    rw [ho, hi 7] at s1 s2
    by_cases c : mOcc M.1 i = true ∧ ¬ M.1 7 i = -1
    · rw [s1 c]
      refine ⟨fun j k => ?_, ?_, fun j hj => ?_⟩
      · dsimp only [mWoG]
        by_cases e : k = i
        · subst e
          rw [if_pos (Nat.lt_succ_self _)]
          unfold eshC
          rw [if_pos c]
          by_cases j5 : j = 5
          · subst j5; rw [va_up_self, va_up_self, if_pos (Or.inl rfl)]
          rw [va_up_ne _ _ j5]
          by_cases j6 : j = 6
          · subst j6; rw [va_up_self, va_up_self, if_pos (Or.inr rfl)]
          rw [va_up_ne _ _ j6, if_neg (by omega)]
          by_cases j7 : j = 7
          · subst j7; rw [va_up_self, va_up_self, if_neg (by decide), if_pos rfl]
          rw [va_up_ne _ _ j7]
          by_cases j9 : j = 9
          · subst j9; rw [va_up_self, va_up_self, if_pos rfl, hi 9, hi 8]
          rw [va_up_ne _ _ j9, if_neg j9, if_neg j7, hi j]
        · rw [show (if k < i + 1 then eshC t M.1 k j else M.1 j k) = (if k < i then eshC t M.1 k j else M.1 j k) by
            by_cases q : k < i
            · rw [if_pos q, if_pos (by omega)]
            · rw [if_neg q, if_neg (by omega)]]
          rw [← i1 j k]
          by_cases j5 : j = 5
          · subst j5; rw [va_up_self, va_up_ne _ _ e]; rfl
          rw [va_up_ne _ _ j5]
          by_cases j6 : j = 6
          · subst j6; rw [va_up_self, va_up_ne _ _ e]; rfl
          rw [va_up_ne _ _ j6]
          by_cases j7 : j = 7
          · subst j7; rw [va_up_self, va_up_ne _ _ e]
          rw [va_up_ne _ _ j7]
          by_cases j9 : j = 9
          · subst j9; rw [va_up_self, va_up_ne _ _ e]
          rw [va_up_ne _ _ j9]
      · show (mEsh t M i).2 20 + (t - (mEsh t M i).1 8 i) = _
        rw [i2, hi 8]
        simp only [isum]
        rw [if_pos c, Int32.add_zero, Int32.add_assoc]
      · show va_up (mEsh t M i).2 20 _ j = _
        rw [va_up_ne _ _ hj]
        exact i3 j hj
    · rw [s2 c]
      refine ⟨fun j k => ?_, ?_, i3⟩
      · dsimp only
        by_cases e : k = i
        · subst e
          rw [if_pos (Nat.lt_succ_self _)]
          unfold eshC
          rw [if_neg c]
          by_cases j5 : j = 5
          · subst j5; rw [va_up_self, va_up_self, if_pos (Or.inl rfl)]
          rw [va_up_ne _ _ j5]
          by_cases j6 : j = 6
          · subst j6; rw [va_up_self, va_up_self, if_pos (Or.inr rfl)]
          rw [va_up_ne _ _ j6, if_neg (by omega), hi j]
        · rw [show (if k < i + 1 then eshC t M.1 k j else M.1 j k) = (if k < i then eshC t M.1 k j else M.1 j k) by
            by_cases q : k < i
            · rw [if_pos q, if_pos (by omega)]
            · rw [if_neg q, if_neg (by omega)]]
          rw [← i1 j k]
          by_cases j5 : j = 5
          · subst j5; rw [va_up_self, va_up_ne _ _ e]
          rw [va_up_ne _ _ j5]
          by_cases j6 : j = 6
          · subst j6; rw [va_up_self, va_up_ne _ _ e]
          rw [va_up_ne _ _ j6]
      · show (mEsh t M i).2 20 = _
        rw [i2]
        simp only [isum]
        rw [if_neg c, Int32.add_zero, Int32.add_zero]
theorem epe_spec {gu : Nat → Int32} : ∀ (r : List Nat) (wk : Nat → Nat → Int32) (v : Int32), r.Nodup → (epe gu r wk v).2 = v + isum (fun n => owe gu (wk n)) r ∧ (∀ n ∈ r, (epe gu r wk v).1 n = va_up (va_up (wk n) 5 0) 6 0) ∧ ∀ n : Nat, n ∉ r → (epe gu r wk v).1 n = wk n
  | [], wk, v, _ => ⟨by simp [epe, isum], fun n hn => absurd hn List.not_mem_nil, fun _ _ => rfl⟩
  | a :: r, wk, v, hnd => by
    have h' := List.nodup_cons.mp hnd
    obtain ⟨i1, i2, i3⟩ := epe_spec r (va_up wk a (va_up (va_up (wk a) 5 0) 6 0)) (v + owe gu (wk a)) h'.2
    have hne : ∀ n ∈ r, n ≠ a := fun n hn q => h'.1 (q ▸ hn)
    simp only [epe]
    refine ⟨?_, fun n hn => ?_, fun n hn => ?_⟩
    · rw [i1]
      simp only [isum]
      have := isum_map (φ := fun n => owe gu (va_up wk a (va_up (va_up (wk a) 5 0) 6 0) n)) (ψ := fun n => owe gu (wk n)) (ν := id) r (fun n hn => by
        show owe gu (va_up wk a (va_up (va_up (wk a) 5 0) 6 0) n) = _
        rw [va_up_ne _ _ (hne n hn)])
      rw [List.map_id] at this
      rw [this, Int32.add_assoc]
    · rcases List.mem_cons.mp hn with q | q
      · subst q
        rw [i3 n h'.1, va_up_self]
      · rw [i2 n q, va_up_ne _ _ (hne n q)]
    · have h1 : n ≠ a := fun q => hn (q ▸ List.mem_cons_self)
      rw [i3 n (fun q => hn (List.mem_cons_of_mem _ q)), va_up_ne _ _ h1]
theorem mEpe_spec {g : Nat → Nat → Int32} : ∀ i : Nat, (∀ j k : Nat, (mEpe g i).1 j k = if (j = 9 ∨ j = 10) ∧ k < i then 0 else g j k) ∧ (mEpe g i).2 = isum (fun k => if mOcc g k = true then mOwe g k else 0) (List.range i)
  | 0 => ⟨fun j k => by simp [mEpe], by simp [mEpe, isum]⟩
  | i + 1 => by
    obtain ⟨i1, i2⟩ := mEpe_spec (g := g) i
    have hi : ∀ j : Nat, (mEpe g i).1 j i = g j i := fun j => by rw [i1 j i, if_neg (fun q => Nat.lt_irrefl _ q.2)]
    have ho : mOcc (mEpe g i).1 i = mOcc g i := mOcc_c (hi 0)
    have hw : mOwe (mEpe g i).1 i = mOwe g i := by
      unfold mOwe
      rw [hi 4, hi 10, hi 1, hi 9, mEpe_keep g 12 (by decide) (by decide)]
    rw [List.range_succ, isum_app, ← i2]
    refine ⟨fun j k => ?_, ?_⟩
    · simp only [mEpe]
      by_cases j10 : j = 10
      · subst j10
        rw [va_up_self]
        by_cases e : k = i
        · subst e
          rw [va_up_self, if_pos ⟨Or.inr rfl, Nat.lt_succ_self _⟩]
        · rw [va_up_ne _ _ e]
          show (mEpe g i).1 10 k = _
          rw [i1 10 k]
          by_cases q : k < i
          · rw [if_pos ⟨Or.inr rfl, q⟩, if_pos ⟨Or.inr rfl, by omega⟩]
          · rw [if_neg (fun u => q u.2), if_neg (fun u => by omega)]
      rw [va_up_ne _ _ j10]
      by_cases j9 : j = 9
      · subst j9
        rw [va_up_self]
        by_cases e : k = i
        · subst e
          rw [va_up_self, if_pos ⟨Or.inl rfl, Nat.lt_succ_self _⟩]
        · rw [va_up_ne _ _ e, i1 9 k]
          by_cases q : k < i
          · rw [if_pos ⟨Or.inl rfl, q⟩, if_pos ⟨Or.inl rfl, by omega⟩]
          · rw [if_neg (fun u => q u.2), if_neg (fun u => by omega)]
      rw [va_up_ne _ _ j9, i1 j k, if_neg (by omega), if_neg (by omega)]
    · simp only [mEpe]
      rw [ho, hw]
      simp only [isum]
      rw [Int32.add_zero]
section AG3
variable {S : zHS} {M : zMO} {n : Nat}
theorem agr_endPeriod (h : SR S M n) (hn : n ≤ 600) : Agr [(zIS, 1)] (hEndPeriod S) S (mEndPeriod M) (n + 1) := by
  have h9 := h
  obtain ⟨K, c9, nn, mk, n1, n2, h⟩ := h
  obtain ⟨hA, hB, hC, ⟨d1, d2, d3, d4, d5, d6, d7, d8, d9, d10⟩, hE⟩ := h
  simp only [hEndPeriod, mEndPeriod]
  rw [d9]
  by_cases h12 : S.2.2.1 12 = 0
  · rw [if_pos h12, if_pos h12]
    obtain ⟨a1, a2, a3⟩ := epe_spec (gu := S.2.2.2.2.1) S.1 S.2.1 0 hA.2.1
    obtain ⟨b1, b2⟩ := mEpe_spec (g := M.1) 30
    have hG : ∀ j k : Nat, j ≠ 9 → j ≠ 10 → (mEpe M.1 30).1 j k = M.1 j k := fun j k j1 j2 => by rw [b1 j k, if_neg (by omega)]
    have eG : ∀ j : Nat, j ≠ 9 → j ≠ 10 → (mEpe M.1 30).1 j = M.1 j := fun j j1 j2 => funext fun k => hG j k j1 j2
    refine agr_ret ?_ rfl ⟨K, c9, nn, mk, by omega, by omega, hA.congr (fun i m hi => hG i m (by omega) (by omega)), fun m hm => ?_, ?_, ⟨d1, d2, d3, d4, d5, d6, d7, d8, d9, d10⟩, ?_⟩
    · rw [a1, b2, Int32.zero_add, hA.sum (φ := fun k => if mOcc M.1 k = true then mOwe M.1 k else 0) (fun k hk => by simp [hk]), hA.1]
      refine isum_map K (fun k hk => ?_)
      rw [owe_eq hB hk (fun b hb => (hE.1 b hb).2), if_pos ((hA.2.2.1 k).mp hk).2]
    · have en : num (mEpe M.1 30).1 m = num M.1 m := by unfold num; rw [eG 0 (by decide) (by decide)]
      show RBk ((epe S.2.2.2.2.1 S.1 S.2.1 0).1 (num (mEpe M.1 30).1 m)) _ nn mk
      rw [en, a2 _ (by rw [hA.1]; exact List.mem_map_of_mem hm)]
      have hm30 := ((hA.2.2.1 m).mp hm).1
      obtain ⟨r0, r1, r2, r3, r4, r5, r6, r7, r8, r9, r10, r11, r12, r13, r14, r15, r16, r17⟩ := hB m hm
      have q9 : (mEpe M.1 30).1 9 m = 0 := by rw [b1 9 m, if_pos ⟨Or.inl rfl, hm30⟩]
      have q10 : (mEpe M.1 30).1 10 m = 0 := by rw [b1 10 m, if_pos ⟨Or.inr rfl, hm30⟩]
      unfold RBk
      dsimp only [tg]
      rw [hG 0 m (by decide) (by decide), hG 1 m (by decide) (by decide), hG 2 m (by decide) (by decide), hG 3 m (by decide) (by decide), hG 4 m (by decide) (by decide), hG 5 m (by decide) (by decide), hG 6 m (by decide) (by decide), hG 7 m (by decide) (by decide), hG 8 m (by decide) (by decide), q9, q10]
      exact ⟨r0, r1, r2, r3, r4, r5, rfl, rfl, r8, r9, r10, r11, r12, r13, r14, r15, r16, r17⟩
    · show RC (mEpe M.1 30).1 K c9
      unfold RC
      rw [eG 14 (by decide) (by decide), eG 7 (by decide) (by decide)]
      exact hC
    · show RE S.2.2.2.1 S.2.2.2.2.1 S.2.2.2.2.2 (mEpe M.1 30).1 c9
      unfold RE
      rw [eG 11 (by decide) (by decide), eG 12 (by decide) (by decide), eG 13 (by decide) (by decide)]
      exact hE
  · rw [if_neg h12, if_neg h12]
    exact agr_thr h9 (by simp)
theorem agr_endShift (h : SR S M n) (hn : n ≤ 600) : Agr [] (hEndShift S) S (mEndShift M) (n + 1) := by
  obtain ⟨K, c9, nn, mk, n1, n2, h⟩ := h
  obtain ⟨hA, hB, hC, ⟨d1, d2, d3, d4, d5, d6, d7, d8, d9, d10⟩, hE⟩ := h
  simp only [hEndShift, mEndShift]
  obtain ⟨a1, a2, a3⟩ := esh_spec (h := S.2.2.1 9) S.1 S.2.1 (S.2.2.1 11) hA.2.1
  obtain ⟨b1, b2, b3⟩ := mEsh_spec (t := M.2 18) (M := (M.1, va_up M.2 25 0)) 30
  dsimp only at b1 b2 b3
  have hG : ∀ j k : Nat, j ≠ 5 → j ≠ 6 → j ≠ 7 → j ≠ 9 → (mEsh (M.2 18) (M.1, va_up M.2 25 0) 30).1 j k = M.1 j k := fun j k j1 j2 j3 j4 => by
    rw [b1 j k]
    split
    · unfold eshC
      rw [if_neg (by omega), if_neg j4, if_neg j3]
      split <;> rfl
    · rfl
  have eG : ∀ j : Nat, j ≠ 5 → j ≠ 6 → j ≠ 7 → j ≠ 9 → (mEsh (M.2 18) (M.1, va_up M.2 25 0) 30).1 j = M.1 j := fun j j1 j2 j3 j4 => funext fun k => hG j k j1 j2 j3 j4
  have hb : ∀ k ∈ K, S.2.1 (num M.1 k) 7 = M.1 7 k ∧ (¬ M.1 7 k = -1 → S.2.1 (num M.1 k) 8 = M.1 8 k) := fun k hk => ⟨(hB k hk).2.2.2.2.2.2.2.2.1, (hB k hk).2.2.2.2.2.2.2.2.2.1⟩
  have q7 : ∀ m ∈ K, (mEsh (M.2 18) (M.1, va_up M.2 25 0) 30).1 7 m = -1 := fun m hm => by
    obtain ⟨m1, m2⟩ := (hA.2.2.1 m).mp hm
    rw [b1 7 m, if_pos m1]
    unfold eshC
    rw [if_neg (by decide)]
    by_cases h7 : M.1 7 m = -1
    · rw [if_neg (fun q => q.2 h7)]
      exact h7
    · rw [if_pos ⟨m2, h7⟩, if_neg (by decide), if_pos rfl]
  generalize mEsh (M.2 18) (M.1, va_up M.2 25 0) 30 = R at b1 b2 b3 hG eG q7 ⊢
  refine agr_ret ?_ ?_ ⟨K, 0, nn, mk, by omega, by omega, hA.congr (fun i m hi => hG i m (by omega) (by omega) (by omega) (by omega)), fun m hm => ?_, ⟨fun p hp => absurd hp (Nat.not_lt_zero _), fun m hm => Or.inl (q7 m hm)⟩, ⟨d1, ?_, rfl, rfl, by omega, ?_, rfl, rfl, rfl, ?_⟩, ?_⟩
  · rw [a1, b2, hA.sum (φ := fun k => if mOcc M.1 k = true ∧ ¬ M.1 7 k = -1 then M.2 18 - M.1 8 k else 0) (fun k hk => by simp [hk]), hA.1]
    rw [show va_up M.2 25 0 20 = S.2.2.1 11 from d8, d6]
    congr 1
    refine isum_map K (fun k hk => ?_)
    obtain ⟨h7, h8⟩ := hb k hk
    have ho := ((hA.2.2.1 k).mp hk).2
    rw [h7]
    by_cases e : M.1 7 k = -1
    · rw [if_pos e, if_neg (fun q => q.2 e)]
    · rw [if_neg e, if_pos ⟨ho, e⟩, h8 e]
  · show R.2 25 = 0
    rw [b3 25 (by decide)]
    rfl
  · have en : num R.1 m = num M.1 m := by unfold num; rw [eG 0 (by decide) (by decide) (by decide) (by decide)]
    show RBk ((esh (S.2.2.1 9) S.1 S.2.1 (S.2.2.1 11)).1 (num R.1 m)) _ nn mk
    rw [en, a2 _ (by rw [hA.1]; exact List.mem_map_of_mem hm)]
    obtain ⟨m1, m2⟩ := (hA.2.2.1 m).mp hm
    have p5 : R.1 5 m = 0 := by rw [b1 5 m, if_pos m1]; exact if_pos (Or.inl rfl)
    have p6 : R.1 6 m = 0 := by rw [b1 6 m, if_pos m1]; exact if_pos (Or.inr rfl)
    have p7 := q7 m hm
    obtain ⟨r0, r1, r2, r3, r4, r5, r6, r7, r8, r9, r10, r11, r12, r13, r14, r15, r16, r17⟩ := hB m hm
    have p9 : eshRow (S.2.2.1 9) (S.2.1 (num M.1 m)) 5 = R.1 9 m := by
      obtain ⟨h7, h8⟩ := hb m hm
      have r6 : S.2.1 (num M.1 m) 5 = M.1 9 m := r6
      rw [b1 9 m, if_pos m1]
      unfold eshC
      rw [if_neg (by decide)]
      show (if S.2.1 (num M.1 m) 7 = -1 then S.2.1 (num M.1 m) else va_up (va_up (S.2.1 (num M.1 m)) 5 (S.2.1 (num M.1 m) 5 + (S.2.2.1 9 - S.2.1 (num M.1 m) 8))) 7 (-1)) 5 = _
      by_cases e : M.1 7 m = -1
      · rw [if_pos (h7.trans e), if_neg (show ¬ (mOcc M.1 m = true ∧ ¬ M.1 7 m = -1) from fun q => q.2 e)]
        exact r6
      · rw [if_neg (show ¬ S.2.1 (num M.1 m) 7 = -1 from fun q => e (h7.symm.trans q)), if_pos (show mOcc M.1 m = true ∧ ¬ M.1 7 m = -1 from ⟨m2, e⟩), if_pos rfl]
        show S.2.1 (num M.1 m) 5 + (S.2.2.1 9 - S.2.1 (num M.1 m) 8) = _
        rw [r6, h8 e, d6]
    have pk : ∀ j : Nat, j ≠ 4 → j ≠ 9 → j ≠ 5 → j ≠ 7 → eshRow (S.2.2.1 9) (S.2.1 (num M.1 m)) j = S.2.1 (num M.1 m) j := fun j j1 j2 j3 j4 => by
      unfold eshRow
      rw [va_up_ne _ _ j1, va_up_ne _ _ j2]
      split
      · rfl
      · rw [va_up_ne _ _ j4, va_up_ne _ _ j3]
    have p77 : eshRow (S.2.2.1 9) (S.2.1 (num M.1 m)) 7 = -1 := by
      show (if S.2.1 (num M.1 m) 7 = -1 then S.2.1 (num M.1 m) else va_up (va_up (S.2.1 (num M.1 m)) 5 (S.2.1 (num M.1 m) 5 + (S.2.2.1 9 - S.2.1 (num M.1 m) 8))) 7 (-1)) 7 = _
      split
      · assumption
      · rfl
    unfold RBk
    dsimp only [tg]
    rw [hG 0 m (by decide) (by decide) (by decide) (by decide), hG 1 m (by decide) (by decide) (by decide) (by decide), hG 2 m (by decide) (by decide) (by decide) (by decide), hG 3 m (by decide) (by decide) (by decide) (by decide), hG 4 m (by decide) (by decide) (by decide) (by decide), hG 8 m (by decide) (by decide) (by decide) (by decide), hG 10 m (by decide) (by decide) (by decide) (by decide), p5, p6, p7, ← p9, p77, pk 0 (by decide) (by decide) (by decide) (by decide), pk 1 (by decide) (by decide) (by decide) (by decide), pk 2 (by decide) (by decide) (by decide) (by decide), pk 3 (by decide) (by decide) (by decide) (by decide), pk 6 (by decide) (by decide) (by decide) (by decide), pk 8 (by decide) (by decide) (by decide) (by decide)]
    exact ⟨r0, r1, r2, r3, r4, rfl, rfl, r7, rfl, fun q => absurd rfl q, rfl, r11, r12, r13, ⟨false, rfl⟩, ⟨false, rfl⟩, fun _ => rfl, r17⟩
  · show R.2 11 = _
    rw [b3 11 (by decide)]
    exact d2
  · show R.2 18 = S.2.2.1 9
    rw [b3 18 (by decide)]
    exact d6
  · show R.2 12 = _
    rw [b3 12 (by decide)]
    exact d10
  · show RE S.2.2.2.1 S.2.2.2.2.1 S.2.2.2.2.2 R.1 0
    unfold RE
    rw [eG 11 (by decide) (by decide) (by decide) (by decide), eG 12 (by decide) (by decide) (by decide) (by decide)]
    exact ⟨hE.1, fun p hp => absurd hp (Nat.not_lt_zero _)⟩
end AG3
