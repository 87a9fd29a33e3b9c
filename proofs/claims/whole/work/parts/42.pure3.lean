/-! Answers that agree; the simple methods -/
def Agr (cds : List (String × Int32)) (o : zAns × zHS) (S : zHS) (q : Int32 × zMO) (n : Nat) : Prop :=
  (o.1 = .inr q.1 ∧ q.2.2 25 = 0 ∧ SR o.2 q.2 n) ∨ ∃ (E : String) (c : Int32), o.1 = .inl E ∧ (E, c) ∈ cds ∧ q.2.2 25 = c ∧ SR S q.2 n
theorem SR.up {S : zHS} {M : zMO} {n n2 : Nat} (h : SR S M n) (hn : n ≤ n2) : SR S M n2 := by
  obtain ⟨K, c9, nn, mk, h1, h2, h3⟩ := h
  exact ⟨K, c9, nn, mk, by omega, by omega, h3⟩
theorem SR.f25 {S : zHS} {M : zMO} {n : Nat} (h : SR S M n) (v : Int32) : SR S (M.1, va_up M.2 25 v) (n + 1) := by
  obtain ⟨K, c9, nn, mk, h1, h2, h3⟩ := h
  exact ⟨K, c9, nn, mk, by omega, by omega, h3⟩
theorem SK.f25 {S : zHS} {M : zMO} {K : List Nat} {c9 nn mk : Nat} (h : SK S M K c9 nn mk) (v : Int32) : SK S (M.1, va_up M.2 25 v) K c9 nn mk := h
theorem agr_thr {cds : List (String × Int32)} {S S1 : zHS} {M : zMO} {n : Nat} {v c : Int32} {E : String} (h : SR S M n) (hc : (E, c) ∈ cds) : Agr cds (.inl E, S1) S (v, (M.1, va_up M.2 25 c)) (n + 1) := Or.inr ⟨E, c, rfl, hc, rfl, h.f25 c⟩
theorem agr_ret {cds : List (String × Int32)} {S S1 : zHS} {M1 : zMO} {n : Nat} {v v2 : Int32} (e : v = v2) (h0 : M1.2 25 = 0) (h : SR S1 M1 n) : Agr cds (.inr v, S1) S (v2, M1) n := Or.inl ⟨congrArg Sum.inr e, h0, h⟩
theorem mIn_iff {x a b : Int32} : mIn x a b = true ↔ ¬ x < a ∧ ¬ b < x := by simp [mIn]
theorem mIn4 {x : Int32} : mIn x 0 3 = true ↔ ¬ (x < 0 ∨ ¬ x < 4) := by
  rw [mIn_iff]
  simp only [Int32.lt_iff_toInt_lt, show (0 : Int32).toInt = 0 from rfl, show (3 : Int32).toInt = 3 from rfl, show (4 : Int32).toInt = 4 from rfl]
  omega
theorem mIn32 {x : Int32} : mIn x 0 31 = true ↔ ¬ (x < 0 ∨ ¬ x < 32) := by
  rw [mIn_iff]
  simp only [Int32.lt_iff_toInt_lt, show (0 : Int32).toInt = 0 from rfl, show (31 : Int32).toInt = 31 from rfl, show (32 : Int32).toInt = 32 from rfl]
  omega
theorem mIn5 {x : Int32} : mIn x 0 4 = true ↔ ¬ (x < 0 ∨ ¬ x < 5) := by
  rw [mIn_iff]
  simp only [Int32.lt_iff_toInt_lt, show (0 : Int32).toInt = 0 from rfl, show (4 : Int32).toInt = 4 from rfl, show (5 : Int32).toInt = 5 from rfl]
  omega
theorem mIn_pl {x : Int32} {c9 : Nat} (h : c9 ≤ 16) : mIn x 0 (nI c9 - 1) = true ↔ ¬ (x < 0 ∨ ¬ x < nI c9) := by
  rw [mIn_iff]
  by_cases h0 : x < 0
  · simp [h0]
  obtain ⟨j, hj, rfl⟩ := nI_of h0
  cases c9 with
  | zero =>
    rw [show nI 0 - 1 = (-1 : Int32) from rfl]
    have h1 : (-1 : Int32) < nI j := Int32.lt_of_lt_of_le (by decide) (nI_pos' hj)
    have h2 : ¬ nI j < nI 0 := h0
    simp [h1, h2]
  | succ c9 =>
    rw [nI_pred, nI_ltI (by omega) hj, nI_ltI hj (by omega)]
    refine ⟨fun q q2 => ?_, fun q => ⟨h0, fun q2 => q (Or.inr (by omega))⟩⟩
    rcases q2 with q2 | q2
    · exact h0 q2
    · exact q2 (by omega)
theorem mIn_at {x : Int32} {k : Nat} (h : ¬ (x < 0 ∨ ¬ x < nI k)) (hk : k < 2 ^ 31) : ∃ j : Nat, j < k ∧ x = nI j := nI_below (fun q => h (Or.inl q)) (Decidable.byContradiction fun q => h (Or.inr q)) hk
theorem up2_ne {g : Nat → Nat → Int32} {i0 k : Nat} {v : Int32} {i m : Nat} (h : m ≠ k) : va_up g i0 (va_up (g i0) k v) i m = g i m := by
  by_cases e : i = i0
  · subst e
    rw [va_up_self, va_up_ne _ _ h]
  · rw [va_up_ne _ _ e]
theorem mOcc_c {g g2 : Nat → Nat → Int32} {m : Nat} (h : g2 0 m = g 0 m) : mOcc g2 m = mOcc g m := by
  unfold mOcc
  simp only [h]
theorem RA.congr {ts : List Nat} {g g2 : Nat → Nat → Int32} {K : List Nat} (h : RA ts g K) (e : ∀ i m : Nat, i ≤ 2 → g2 i m = g i m) : RA ts g2 K := by
  have e0 : g2 0 = g 0 := funext fun m => e 0 m (by decide)
  have en : num g2 = num g := by unfold num; rw [e0]
  have eo : mOcc g2 = mOcc g := by unfold mOcc; rw [e0]
  obtain ⟨h1, h2, h3, h4⟩ := h
  refine ⟨by rw [en]; exact h1, h2, by rw [eo]; exact h3, sor_same h4 (fun m _ => ⟨e 1 m (by decide), e 2 m (by decide)⟩)⟩
/-- one worker's numbers anew -/
theorem RB.row {ts : List Nat} {wk : Nat → Nat → Int32} {g g2 : Nat → Nat → Int32} {K : List Nat} {nn mk mk2 k : Nat} {r2 : Nat → Int32} (hA : RA ts g K) (hB : RB wk g K nn mk) (hk : k ∈ K) (hm : mk ≤ mk2) (h0 : ∀ m : Nat, g2 0 m = g 0 m) (hg : ∀ i m : Nat, m ≠ k → i ≤ 10 → g2 i m = g i m) (hr : RBk r2 (tg g2 k) nn mk2) : RB (va_up wk (num g k) r2) g2 K nn mk2 := by
  intro m hm2
  have en : ∀ m, num g2 m = num g m := fun m => by unfold num; rw [h0]
  rw [en]
  by_cases e : m = k
  · subst e
    rw [va_up_self]
    exact hr
  · rw [va_up_ne _ _ (fun q => e (hA.inj m hm2 k hk q))]
    exact (hB m hm2).congr (fun i hi => hg i m e hi) (Nat.le_refl _) hm
/-- one who goes to the bottom of the board -/
theorem RA.bot {ts : List Nat} {wk2 : Nat → Nat → Int32} {g g2 : Nat → Nat → Int32} {K : List Nat} {k mk : Nat} (hA : RA ts g K) (hk : k ∈ K) (h0 : ∀ m : Nat, g2 0 m = g 0 m) (hg : ∀ m : Nat, m ≠ k → g2 1 m = g 1 m ∧ g2 2 m = g 2 m) (hmk : ∀ m ∈ K, ∃ t : Nat, t ≤ mk ∧ g 2 m = nI t) (hm31 : mk + 1 < 2 ^ 31) (hk2 : g2 2 k = nI (mk + 1)) (hw : ∀ m ∈ K, wk2 (num g m) 1 = g2 1 m) : RA (pab wk2 (num g k) (ts.erase (num g k))) g2 (pab (tg g2) k (K.erase k)) := by
  have hnd := hA.nd
  have hinj := hA.inj
  have e0 : g2 0 = g 0 := funext h0
  have en : num g2 = num g := by unfold num; rw [e0]
  have eo : mOcc g2 = mOcc g := by unfold mOcc; rw [e0]
  have hme : ∀ m ∈ K.erase k, m ≠ k ∧ m ∈ K := fun m hm => (List.Nodup.mem_erase_iff hnd).mp hm
  obtain ⟨h1, h2, h3, h4⟩ := hA
  have ht : pab wk2 (num g k) (ts.erase (num g k)) = (pab (tg g2) k (K.erase k)).map (num g) := by
    rw [h1, erase_map (fun m hm q => hinj m hm k hk q)]
    exact pab_map (hw k hk) _ (fun m hm => hw m (hme m hm).2)
  refine ⟨by rw [en]; exact ht, ?_, fun m => ?_, ?_⟩
  · have hp : (pab wk2 (num g k) (ts.erase (num g k))).Perm ts := pab_erase_perm (by rw [h1]; exact List.mem_map_of_mem hk)
    exact hp.nodup_iff.mpr h2
  · rw [eo, ← h3 m, (pab_erase_perm hk).mem_iff]
  · refine sor_bot _ (sor_erase h4 k) (fun m hm => ?_)
    obtain ⟨m1, m2⟩ := hme m hm
    obtain ⟨g3, g4⟩ := hg m m1
    obtain ⟨t, t1, t2⟩ := hmk m m2
    exact ⟨g3, g4, by rw [g4, hk2, t2]; exact nI_lt (by omega) hm31⟩
theorem RB.perm {wk : Nat → Nat → Int32} {g : Nat → Nat → Int32} {K K2 : List Nat} {nn mk : Nat} (h : RB wk g K nn mk) (hp : ∀ m ∈ K2, m ∈ K) : RB wk g K2 nn mk := fun m hm => h m (hp m hm)
theorem RC.perm {g : Nat → Nat → Int32} {K K2 : List Nat} {c9 : Nat} (h : RC g K c9) (hp : ∀ m, m ∈ K2 ↔ m ∈ K) : RC g K2 c9 := ⟨fun p hp2 => (h.1 p hp2).imp id (fun ⟨k, h1, h2⟩ => ⟨k, (hp k).mpr h1, h2⟩), fun k hk => h.2 k ((hp k).mp hk)⟩
theorem RB.marks {wk : Nat → Nat → Int32} {g : Nat → Nat → Int32} {K : List Nat} {nn mk : Nat} (h : RB wk g K nn mk) : ∀ m ∈ K, ∃ t : Nat, t ≤ mk ∧ g 2 m = nI t := fun m hm => (h m hm).2.2.2.2.2.2.2.2.2.2.2.2.2.2.2.2.2
theorem RB.brd {wk : Nat → Nat → Int32} {g : Nat → Nat → Int32} {K : List Nat} {nn mk : Nat} (h : RB wk g K nn mk) : ∀ m ∈ K, wk (num g m) 1 = g 1 m ∧ ∃ b : Nat, b < 4 ∧ g 1 m = nI b := fun m hm => ⟨(h m hm).2.2.1, (h m hm).2.2.2.2.2.2.2.2.2.2.2.1⟩
section AG
variable {S : zHS} {M : zMO} {n : Nat}
theorem agr_get (h : SR S M n) (hn : n ≤ 600) (x : Int32) (fH : (Nat → Int32) → Int32) (fM : Nat → Int32) (e : ∀ (K : List Nat) (c9 nn mk : Nat), SK S M K c9 nn mk → ∀ k ∈ K, fH (S.2.1 (num M.1 k)) = fM k) : Agr [(zNS, 1)] (hGet S x fH) S (mGet M x fM) (n + 1) := by
  have h9 := h
  obtain ⟨K, c9, nn, mk, n1, n2, h⟩ := h
  rcases h.find (by omega) x with ⟨e1, e2⟩ | ⟨k, hk, e1, e2⟩
  · simp only [hGet, mGet, e1, e2]
    exact agr_thr h9 (by simp)
  · simp only [hGet, mGet, e1, e2]
    exact agr_ret (e K c9 nn mk h k hk) rfl (h9.f25 0)
theorem agr_boardOf (h : SR S M n) (hn : n ≤ 600) (x : Int32) : Agr [(zNS, 1)] (hGet S x (fun r => r 1)) S (mGet M x (M.1 1)) (n + 1) := agr_get h hn x _ _ (fun _ _ _ _ h k hk => (h.2.1 k hk).2.2.1)
theorem agr_hoursOf (h : SR S M n) (hn : n ≤ 600) (x : Int32) : Agr [(zNS, 1)] (hGet S x (fun r => r 5)) S (mGet M x (M.1 9)) (n + 1) := agr_get h hn x _ _ (fun _ _ _ _ h k hk => (h.2.1 k hk).2.2.2.2.2.2.1)
theorem agr_refusalsOf (h : SR S M n) (hn : n ≤ 600) (x : Int32) : Agr [(zNS, 1)] (hGet S x (fun r => r 6)) S (mGet M x (M.1 10)) (n + 1) := agr_get h hn x _ _ (fun _ _ _ _ h k hk => (h.2.1 k hk).2.2.2.2.2.2.2.1)
theorem agr_placeOf (h : SR S M n) (hn : n ≤ 600) (x : Int32) : Agr [(zNS, 1)] (hGet S x (fun r => r 7)) S (mGet M x (M.1 7)) (n + 1) := agr_get h hn x _ _ (fun _ _ _ _ h k hk => (h.2.1 k hk).2.2.2.2.2.2.2.2.1)
theorem owe_eq {wk : Nat → Nat → Int32} {g : Nat → Nat → Int32} {K : List Nat} {nn mk k : Nat} {gu : Nat → Int32} (hB : RB wk g K nn mk) (hk : k ∈ K) (hgu : ∀ b : Nat, b < 4 → gu b = g 12 b) : owe gu (wk (num g k)) = mOwe g k := by
  obtain ⟨-, -, r1, -, r3, -, r5, r6, -, -, -, ⟨b, b4, hb⟩, -⟩ := hB k hk
  have r1 : wk (num g k) 1 = g 1 k := r1
  have r3 : wk (num g k) 3 = g 4 k := r3
  have r5 : wk (num g k) 5 = g 9 k := r5
  have r6 : wk (num g k) 6 = g 10 k := r6
  have hb : g 1 k = nI b := hb
  unfold owe mOwe
  rw [r1, r3, r5, r6, hb, nI_clamp (by omega), hgu b b4]
  generalize g 12 b - g 9 k = d
  by_cases h4 : g 4 k = 0
  · by_cases h10 : g 10 k < 3
    · have h10' : ¬ (3 : Int32) ≤ g 10 k := Int32.not_le.mpr h10
      by_cases hd : 0 < d
      · rw [if_pos ⟨⟨h4, h10⟩, hd⟩, if_neg (fun q => q.elim (fun q => q h4) (fun q => q.elim (fun q => h10' q) (fun q => Int32.lt_asymm q hd)))]
      · rw [if_neg (fun q => hd q.2)]
        by_cases hd2 : d < 0
        · rw [if_pos (Or.inr (Or.inr hd2))]
        · rw [if_neg (fun q => q.elim (fun q => q h4) (fun q => q.elim (fun q => h10' q) (fun q => hd2 q)))]
          exact Int32.le_antisymm (Int32.not_lt.mp hd2) (Int32.not_lt.mp hd)
    · rw [if_neg (fun q => h10 q.1.2), if_pos (Or.inr (Or.inl (Int32.not_lt.mp h10)))]
  · rw [if_neg (fun q => h4 q.1.1), if_pos (Or.inl h4)]
theorem agr_owedTo (h : SR S M n) (hn : n ≤ 600) (x : Int32) : Agr [(zNS, 1)] (hGet S x (owe S.2.2.2.2.1)) S (mGet M x (mOwe M.1)) (n + 1) := agr_get h hn x _ _ (fun _ _ _ _ h k hk => owe_eq h.2.1 hk (fun b hb => (h.2.2.2.2.1 b hb).2))
theorem agr_setAway (h : SR S M n) (hn : n ≤ 600) (x : Int32) (v : Bool) : Agr [(zNS, 1)] (hSet S x 3 (zb v)) S (mSet M x 4 (zb v)) (n + 1) := by
  have h9 := h
  obtain ⟨K, c9, nn, mk, n1, n2, h⟩ := h
  rcases h.find (by omega) x with ⟨e1, e2⟩ | ⟨k, hk, e1, e2⟩
  · simp only [hSet, mSet, e1, e2]
    exact agr_thr h9 (by simp)
  · simp only [hSet, mSet, e1, e2]
    obtain ⟨hA, hB, hC, hD, hE⟩ := h
    obtain ⟨r0, r1, r2, r3, r4, r5, r6, r7, r8, r9, r10, r11, r12, r13, r14, r15, r16, r17⟩ := hB k hk
    refine agr_ret r4 rfl ⟨K, c9, nn, mk, by omega, by omega, hA.congr (fun i m hi => by dsimp only; rw [va_up_ne _ _ (by omega)]), RB.row hA hB hk (Nat.le_refl _) (fun _ => rfl) (fun i m hm _ => up2_ne hm) ?_, hC, hD, hE⟩
    exact ⟨r0, r1, r2, r3, (va_up_self _ _ _).symm, r5, r6, r7, r8, r9, r10, r11, r12, ⟨v, va_up_self _ _ _⟩, r14, r15, r16, r17⟩
theorem agr_setRefusing (h : SR S M n) (hn : n ≤ 600) (x : Int32) (v : Bool) : Agr [(zNS, 1)] (hSet S x 4 (zb v)) S (mSet M x 5 (zb v)) (n + 1) := by
  have h9 := h
  obtain ⟨K, c9, nn, mk, n1, n2, h⟩ := h
  rcases h.find (by omega) x with ⟨e1, e2⟩ | ⟨k, hk, e1, e2⟩
  · simp only [hSet, mSet, e1, e2]
    exact agr_thr h9 (by simp)
  · simp only [hSet, mSet, e1, e2]
    obtain ⟨hA, hB, hC, hD, hE⟩ := h
    obtain ⟨r0, r1, r2, r3, r4, r5, r6, r7, r8, r9, r10, r11, r12, r13, r14, r15, r16, r17⟩ := hB k hk
    refine agr_ret r5 rfl ⟨K, c9, nn, mk, by omega, by omega, hA.congr (fun i m hi => by dsimp only; rw [va_up_ne _ _ (by omega)]), RB.row hA hB hk (Nat.le_refl _) (fun _ => rfl) (fun i m hm _ => up2_ne hm) ?_, hC, hD, hE⟩
    exact ⟨r0, r1, r2, r3, r4, (va_up_self _ _ _).symm, r6, r7, r8, r9, r10, r11, r12, r13, ⟨v, va_up_self _ _ _⟩, r15, r16, r17⟩
theorem agr_setSkills (h : SR S M n) (hn : n ≤ 600) (x y : Int32) : Agr [(zNS, 1), (zIA, 2), (zIS, 3)] (hSetSkills S x y) S (mSetSkills M x y) (n + 1) := by
  have h9 := h
  obtain ⟨K, c9, nn, mk, n1, n2, h⟩ := h
  rcases h.find (by omega) x with ⟨e1, e2⟩ | ⟨k, hk, e1, e2⟩
  · simp only [hSetSkills, mSetSkills, e1, e2]
    exact agr_thr h9 (by simp)
  · simp only [hSetSkills, mSetSkills, e1, e2]
    obtain ⟨hA, hB, hC, hD, hE⟩ := h
    obtain ⟨r0, r1, r2, r3, r4, r5, r6, r7, r8, r9, r10, r11, r12, r13, r14, r15, r16, r17⟩ := hB k hk
    by_cases hy : y < 0 ∨ ¬ y < 32
    · rw [if_pos hy, if_neg (fun q => mIn32.mp q hy)]
      exact agr_thr h9 (by simp)
    rw [if_neg hy, if_pos (mIn32.mpr hy)]
    have r8' : S.2.1 (num M.1 k) 7 = M.1 7 k := r8
    rw [r8']
    by_cases h7 : M.1 7 k = -1
    · rw [if_pos h7, if_pos h7]
      refine agr_ret r3 rfl ⟨K, c9, nn, mk, by omega, by omega, hA.congr (fun i m hi => by dsimp only; rw [va_up_ne _ _ (by omega)]), RB.row hA hB hk (Nat.le_refl _) (fun _ => rfl) (fun i m hm _ => up2_ne hm) ?_, hC, hD, hE⟩
      exact ⟨r0, r1, r2, (va_up_self _ _ _).symm, r4, r5, r6, r7, r8, r9, r10, r11, by obtain ⟨t, t1, t2⟩ := mIn_at hy (by decide); exact ⟨t, t1, (va_up_self _ _ _).trans t2⟩, r13, r14, r15, r16, r17⟩
    · rw [if_neg h7, if_neg h7]
      exact agr_thr h9 (by simp)
theorem agr_signOff (h : SR S M n) (hn : n ≤ 600) (x : Int32) : Agr [(zNS, 1), (zIS, 2)] (hSignOff S x) S (mSignOff M x) (n + 1) := by
  have h9 := h
  obtain ⟨K, c9, nn, mk, n1, n2, h⟩ := h
  rcases h.find (by omega) x with ⟨e1, e2⟩ | ⟨k, hk, e1, e2⟩
  · simp only [hSignOff, mSignOff, e1, e2]
    exact agr_thr h9 (by simp)
  · simp only [hSignOff, mSignOff, e1, e2]
    obtain ⟨hA, hB, hC, hD, hE⟩ := h
    obtain ⟨r0, r1, r2, r3, r4, r5, r6, r7, r8, r9, r10, r11, r12, r13, r14, r15, r16, r17⟩ := hB k hk
    have r8' : S.2.1 (num M.1 k) 7 = M.1 7 k := r8
    rw [r8']
    by_cases h7 : M.1 7 k = -1
    · rw [if_pos h7, if_pos h7]
      have hnd := hA.nd
      have hinj := hA.inj
      have hme : ∀ m, m ∈ K.erase k ↔ m ≠ k ∧ m ∈ K := fun m => List.Nodup.mem_erase_iff hnd
      have enm : ∀ m, m ≠ k → num (va_up M.1 0 (va_up (M.1 0) k (-1))) m = num M.1 m := fun m hm => by unfold num; rw [up2_ne hm]
      obtain ⟨a1, a2, a3, a4⟩ := hA
      refine agr_ret r6 rfl ⟨K.erase k, c9, nn, mk, by omega, by omega, ⟨?_, a2.erase _, fun m => ?_, ?_⟩, fun m hm => ?_, ⟨fun p hp => ?_, fun m hm => hC.2 m ((hme m).mp hm).2⟩, hD, hE⟩
      · show S.1.erase (num M.1 k) = _
        rw [a1, erase_map (fun m hm q => hinj m hm k hk q)]
        exact List.map_congr_left (fun m hm => (enm m ((hme m).mp hm).1).symm)
      · rw [hme m]
        by_cases e : m = k
        · subst e
          simp [mOcc, va_up_self]
        · rw [a3 m, mOcc_c (g := M.1) (g2 := va_up M.1 0 (va_up (M.1 0) k (-1))) (up2_ne e)]
          simp [e]
      · exact sor_same (sor_erase a4 k) (fun m _ => ⟨rfl, rfl⟩)
      · obtain ⟨m1, m2⟩ := (hme m).mp hm
        rw [enm m m1]
        exact (hB m m2).congr (fun i _ => up2_ne m1) (Nat.le_refl _) (Nat.le_refl _)
      · rcases hC.1 p hp with q | ⟨m, q1, q2, q3⟩
        · exact Or.inl q
        · refine Or.inr ⟨m, (hme m).mpr ⟨fun e => ?_, q1⟩, q2, q3⟩
          subst e
          rw [h7] at q3
          exact nI_nm1 (show p < 2 ^ 31 by have := hD.2.2.2.2.1; omega) q3.symm
    · rw [if_neg h7, if_neg h7]
      exact agr_thr h9 (by simp)
theorem agr_move (h : SR S M n) (hn : n ≤ 600) (x y : Int32) : Agr [(zNS, 1), (zIA, 2)] (hMove S x y) S (mMove M x y) (n + 1) := by
  have h9 := h
  obtain ⟨K, c9, nn, mk, n1, n2, h⟩ := h
  rcases h.find (by omega) x with ⟨e1, e2⟩ | ⟨k, hk, e1, e2⟩
  · simp only [hMove, mMove, e1, e2]
    exact agr_thr h9 (by simp)
  · simp only [hMove, mMove, e1, e2]
    obtain ⟨hA, hB, hC, hD, hE⟩ := h
    by_cases hy : y < 0 ∨ ¬ y < 4
    · rw [if_pos hy, if_neg (fun q => mIn4.mp q hy)]
      exact agr_thr h9 (by simp)
    rw [if_neg hy, if_pos (mIn4.mpr hy)]
    obtain ⟨b, b4, hb⟩ := mIn_at hy (by decide)
    obtain ⟨r0, r1, r2, r3, r4, r5, r6, r7, r8, r9, r10, r11, r12, r13, r14, r15, r16, r17⟩ := hB k hk
    have hf : M.2 12 = nI mk := hD.2.2.2.2.2.2.2.2.2
    have hme := pab_erase_perm (wk := tg (mLow (va_up M.1 1 (va_up (M.1 1) k y)) (va_up M.2 25 0) k)) hk
    have g2k : mLow (va_up M.1 1 (va_up (M.1 1) k y)) (va_up M.2 25 0) k 2 k = nI (mk + 1) := by
      show va_up (M.1 2) k (M.2 12 + 1) k = _
      rw [va_up_self, hf, nI_1]
    have hrow : RB (va_up S.2.1 (num M.1 k) (va_up (S.2.1 (num M.1 k)) 1 y)) (mLow (va_up M.1 1 (va_up (M.1 1) k y)) (va_up M.2 25 0) k) K nn (mk + 1) := by
      refine RB.row hA hB hk (by omega) (fun _ => rfl) (fun i m hm _ => ?_) ?_
      · show va_up (va_up M.1 1 (va_up (M.1 1) k y)) 2 (va_up (va_up M.1 1 (va_up (M.1 1) k y) 2) k _) i m = _
        rw [up2_ne hm, up2_ne hm]
      · exact ⟨r0, r1, (va_up_self _ _ _).symm, r3, r4, r5, r6, r7, r8, r9, r10, ⟨b, b4, (va_up_self _ _ _).trans hb⟩, r12, r13, r14, r15, r16, ⟨mk + 1, Nat.le_refl _, g2k⟩⟩
    refine agr_ret r2 rfl ⟨_, c9, nn, mk + 1, by omega, by omega, RA.bot (mk := mk) hA hk (fun _ => rfl) (fun m hm => ⟨?_, ?_⟩) hB.marks (by omega) g2k (fun m hm => (hrow m hm).2.2.1), hrow.perm (fun m hm => hme.mem_iff.mp hm), RC.perm hC (fun m => hme.mem_iff), ?_, hE⟩
    · exact va_up_ne _ _ hm
    · exact va_up_ne _ _ hm
    · obtain ⟨d1, d2, d3, d4, d5, d6, d7, d8, d9, d10⟩ := hD
      exact ⟨d1, d2, d3, d4, d5, d6, d7, d8, d9, by show M.2 12 + 1 = _; rw [hf, nI_1]⟩
end AG
