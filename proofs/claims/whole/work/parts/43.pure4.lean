/-! Answers that agree: signOn, leave, the rules, the questions -/
theorem RA.cnt {ts : List Nat} {g : Nat → Nat → Int32} {K : List Nat} (h : RA ts g K) : mCnt g 30 = K.length ∧ ts.length = K.length ∧ K.length ≤ 30 := by
  have h2 : (mLinR g 30).length = ((List.range 30).filter (mOcc g)).length := by
    rw [(mLinR_perm 30).length_eq, List.length_reverse]
  have h3 : K.length = (mLinR g 30).length := by rw [← h.line, List.length_reverse]
  have h5 := mLinR_len (g := g) 30
  obtain ⟨rfl, -, -, -⟩ := h
  refine ⟨?_, List.length_map .., by omega⟩
  unfold mCnt
  rw [List.countP_eq_length_filter, h3, h2]
theorem mNewG_ne {g : Nat → Nat → Int32} {f : Nat → Int32} {k : Nat} {x y : Int32} : ∀ i m : Nat, m ≠ k → i ≤ 10 → mNewG g f k x y i m = g i m := by
  intro i m hm hi
  rcases i with _ | _ | _ | _ | _ | _ | _ | _ | _ | _ | _ | i
  all_goals first | rfl | exact va_up_ne _ _ hm | (exfalso; omega)
theorem find_map_eq {ν : Nat → Nat} {p q : Nat → Bool} : ∀ {K : List Nat}, (∀ k ∈ K, p (ν k) = q k) → (K.map ν).find? p = (K.find? q).map ν
  | [], _ => rfl
  | k :: K, h => by
    have ih := find_map_eq (K := K) (fun m hm => h m (List.mem_cons_of_mem _ hm))
    have hk := h k List.mem_cons_self
    by_cases e : q k = true
    · rw [List.map_cons, List.find?_cons_of_pos (hk.trans e), List.find?_cons_of_pos e]
      rfl
    · rw [List.map_cons, List.find?_cons_of_neg (by rw [hk]; exact e), List.find?_cons_of_neg e, ih]
theorem rdy_eq {r q : Nat → Int32} {nn mk : Nat} (h : RBk r q nn mk) : rdy r = (decide (q 4 = 0) && decide (q 7 = -1) && decide (q 6 = 0)) := by
  obtain ⟨-, -, -, -, r3, -, -, -, -, -, r9, -, -, -, -, -, r16, -⟩ := h
  unfold rdy
  rw [r3, r9]
  by_cases h6 : q 6 = 0
  · simp [h6, r16 h6]
  · simp [h6]
theorem SK.rdy {S : zHS} {M : zMO} {K : List Nat} {c9 nn mk k : Nat} (h : SK S M K c9 nn mk) (hk : k ∈ K) : rdy (S.2.1 (num M.1 k)) = mRdy M.1 k := by
  rw [rdy_eq (h.2.1 k hk)]
  have := ((h.1.2.2.1 k).mp hk).2
  unfold mRdy
  rw [this, Bool.true_and]
section AG2
variable {S : zHS} {M : zMO} {n : Nat}
theorem agr_signOn (h : SR S M n) (hn : n ≤ 600) (x y : Int32) : Agr [(zIA, 1), (zIS, 2)] (hSignOn S x y) S (mSignOn M x y) (n + 1) := by
  have h9 := h
  obtain ⟨K, c9, nn, mk, n1, n2, h⟩ := h
  simp only [hSignOn, mSignOn]
  by_cases hx : x < 0 ∨ ¬ x < 4
  · rw [if_pos hx, if_neg (fun q => mIn4.mp q.1 hx)]
    exact agr_thr h9 (by simp)
  rw [if_neg hx]
  by_cases hy : y < 0 ∨ ¬ y < 32
  · rw [if_pos hy, if_neg (fun q => mIn32.mp q.2 hy)]
    exact agr_thr h9 (by simp)
  rw [if_neg hy, if_pos (show mIn x 0 3 = true ∧ mIn y 0 31 = true from ⟨mIn4.mpr hx, mIn32.mpr hy⟩)]
  obtain ⟨c1, c2, c3⟩ := h.1.cnt
  cases hf : mFree M.1 with
  | none =>
    have := (mFree_cnt M.1).mp hf
    rw [if_pos (by omega)]
    exact agr_thr h9 (by simp)
  | some k =>
    have hne : ¬ mFree M.1 = none := by rw [hf]; simp
    have h30 : ¬ 30 ≤ S.1.length := fun q => hne ((mFree_cnt M.1).mpr (by omega))
    rw [if_neg h30]
    obtain ⟨b, b4, hb⟩ := mIn_at hx (by decide)
    obtain ⟨t, t32, ht⟩ := mIn_at hy (by decide)
    have hk30 : k < 30 := List.mem_range.mp (List.mem_of_find?_eq_some hf)
    have hko : mOcc M.1 k = false := by
      have := List.find?_some hf
      simpa using this
    obtain ⟨⟨a1, a2, a3, a4⟩, hB, hC, hD, hE⟩ := h
    have hkK : k ∉ K := fun q => by
      have := ((a3 k).mp q).2
      rw [hko] at this
      cases this
    obtain ⟨d1, d2, d3, d4, d5, d6, d7, d8, d9, d10⟩ := hD
    have hN : (S.2.2.1 7).toNatClampNeg = nn := by rw [d1, nI_clamp (by omega)]
    rw [hN]
    dsimp only
    have hcol : ∀ i m : Nat, m ≠ k → i ≤ 10 → mLow (mNewG M.1 M.2 k x y) (va_up M.2 25 0) k i m = M.1 i m := fun i m hm hi => by
      show va_up (mNewG M.1 M.2 k x y) 2 (va_up (mNewG M.1 M.2 k x y 2) k _) i m = _
      rw [up2_ne hm, mNewG_ne i m hm hi]
    have e0 : mLow (mNewG M.1 M.2 k x y) (va_up M.2 25 0) k 0 k = nI nn := (va_up_self _ _ _ : va_up (M.1 0) k (M.2 11) k = M.2 11).trans d2
    have e1 : mLow (mNewG M.1 M.2 k x y) (va_up M.2 25 0) k 1 k = x := va_up_self _ _ _
    have e2 : mLow (mNewG M.1 M.2 k x y) (va_up M.2 25 0) k 2 k = nI (mk + 1) := by
      show va_up (M.1 2) k (M.2 12 + 1) k = _
      rw [va_up_self, d10, nI_1]
    have e3 : mLow (mNewG M.1 M.2 k x y) (va_up M.2 25 0) k 3 k = y := va_up_self _ _ _
    have e4 : mLow (mNewG M.1 M.2 k x y) (va_up M.2 25 0) k 4 k = 0 := va_up_self _ _ _
    have e5 : mLow (mNewG M.1 M.2 k x y) (va_up M.2 25 0) k 5 k = 0 := va_up_self _ _ _
    have e6 : mLow (mNewG M.1 M.2 k x y) (va_up M.2 25 0) k 6 k = 0 := va_up_self _ _ _
    have e7 : mLow (mNewG M.1 M.2 k x y) (va_up M.2 25 0) k 7 k = -1 := va_up_self _ _ _
    have e9 : mLow (mNewG M.1 M.2 k x y) (va_up M.2 25 0) k 9 k = 0 := va_up_self _ _ _
    have e10 : mLow (mNewG M.1 M.2 k x y) (va_up M.2 25 0) k 10 k = 0 := va_up_self _ _ _
    have e14 : mLow (mNewG M.1 M.2 k x y) (va_up M.2 25 0) k 14 = M.1 14 := rfl
    have e13 : mLow (mNewG M.1 M.2 k x y) (va_up M.2 25 0) k 13 = M.1 13 := rfl
    have e11 : mLow (mNewG M.1 M.2 k x y) (va_up M.2 25 0) k 11 = M.1 11 := rfl
    have e12 : mLow (mNewG M.1 M.2 k x y) (va_up M.2 25 0) k 12 = M.1 12 := rfl
    generalize mLow (mNewG M.1 M.2 k x y) (va_up M.2 25 0) k = g2 at hcol e0 e1 e2 e3 e4 e5 e6 e7 e9 e10 e11 e12 e13 e14 ⊢
    have enk : num g2 k = nn := by unfold num; rw [e0, nI_clamp (by omega)]
    have hneK : ∀ m ∈ K, m ≠ k := fun m hm q => hkK (q ▸ hm)
    have enm : ∀ m, m ≠ k → num g2 m = num M.1 m := fun m hm => by unfold num; rw [hcol 0 m hm (by decide)]
    have hlt : ∀ m ∈ K, num M.1 m < nn := fun m hm => ((hB m hm).nm (by omega)).2
    have hts : S.1 = K.map (num g2) := by
      rw [a1]
      exact List.map_congr_left (fun m hm => (enm m (hneK m hm)).symm)
    have hpm := pab_perm (wk := tg g2) (n := k) K
    have hrow : ∀ m ∈ pab (tg g2) k K, RBk (va_up S.2.1 nn (newW (S.2.2.1 7) x y) (num g2 m)) (tg g2 m) (nn + 1) (mk + 1) := by
      intro m hm
      rcases List.mem_cons.mp (hpm.mem_iff.mp hm) with q | q
      · subst q
        rw [enk, va_up_self]
        exact ⟨⟨nn, Nat.lt_succ_self _, e0⟩, d1.trans e0.symm, e1.symm, e3.symm, e4.symm, e5.symm, e9.symm, e10.symm, e7.symm, fun q => absurd e7 q, e6.symm, ⟨b, b4, e1.trans hb⟩, ⟨t, t32, e3.trans ht⟩, ⟨false, e4⟩, ⟨false, e5⟩, ⟨false, e6⟩, fun _ => e7, ⟨mk + 1, Nat.le_refl _, e2⟩⟩
      · have := hlt m q
        rw [enm m (hneK m q), va_up_ne _ _ (by omega)]
        exact (hB m q).congr (fun i hi => hcol i m (hneK m q) hi) (by omega) (by omega)
    refine agr_ret (d1.trans d2.symm) rfl ⟨pab (tg g2) k K, c9, nn + 1, mk + 1, by omega, by omega, ⟨?_, ?_, fun m => ?_, ?_⟩, hrow, ⟨fun p hp => ?_, fun m hm => ?_⟩, ⟨?_, ?_, d3, d4, d5, d6, d7, d8, d9, ?_⟩, ⟨fun b hb => ?_, fun p hp => ?_⟩⟩
    · show pab (va_up S.2.1 nn (newW (S.2.2.1 7) x y)) nn S.1 = (pab (tg g2) k K).map (num g2)
      rw [hts]
      refine (congrArg (fun j => pab (va_up S.2.1 nn (newW (S.2.2.1 7) x y)) j (K.map (num g2))) enk.symm).trans (pab_map ?_ K (fun m hm => ?_))
      · exact (hrow k (hpm.mem_iff.mpr List.mem_cons_self)).2.2.1
      · exact (hrow m (hpm.mem_iff.mpr (List.mem_cons_of_mem _ hm))).2.2.1
    · refine (pab_perm _).nodup_iff.mpr (List.nodup_cons.mpr ⟨fun q => ?_, a2⟩)
      rw [a1] at q
      obtain ⟨m, hm, e⟩ := List.mem_map.mp q
      have := hlt m hm
      omega
    · rw [hpm.mem_iff, List.mem_cons]
      by_cases e : m = k
      · subst e
        have : mOcc g2 m = true := by
          unfold mOcc
          simp only [e0, decide_eq_false (nI_nm1 (show nn < 2 ^ 31 by omega))]
          rfl
        simp [this, hk30]
      · show m = k ∨ m ∈ K ↔ m < 30 ∧ mOcc g2 m = true
        rw [a3 m, mOcc_c (g := M.1) (g2 := g2) (hcol 0 m e (by decide))]
        simp [e]
    · refine sor_bot K a4 (fun m hm => ⟨hcol 1 m (hneK m hm) (by decide), hcol 2 m (hneK m hm) (by decide), ?_⟩)
      obtain ⟨t, t1, t2⟩ := hB.marks m hm
      show g2 2 m < g2 2 k
      rw [hcol 2 m (hneK m hm) (by decide), e2, t2]
      exact nI_lt (by omega) (by omega)
    · show g2 14 p = -1 ∨ ∃ m ∈ pab (tg g2) k K, g2 14 p = nI m ∧ g2 7 m = nI p
      rw [e14]
      rcases hC.1 p hp with q | ⟨m, q1, q2, q3⟩
      · exact Or.inl q
      · exact Or.inr ⟨m, hpm.mem_iff.mpr (List.mem_cons_of_mem _ q1), q2, (hcol 7 m (hneK m q1) (by decide)).trans q3⟩
    · show g2 7 m = -1 ∨ ∃ p : Nat, p < c9 ∧ g2 7 m = nI p ∧ g2 14 p = nI m
      rw [e14]
      rcases List.mem_cons.mp (hpm.mem_iff.mp hm) with q | q
      · subst q; exact Or.inl e7
      · rw [hcol 7 m (hneK m q) (by decide)]
        exact hC.2 m q
    · show S.2.2.1 7 + 1 = _
      rw [d1, nI_1]
    · show M.2 11 + 1 = _
      rw [d2, nI_1]
    · show M.2 12 + 1 = _
      rw [d10, nI_1]
    · show S.2.2.2.1 b = g2 11 b ∧ S.2.2.2.2.1 b = g2 12 b
      rw [e11, e12]
      exact hE.1 b hb
    · show S.2.2.2.2.2 p = g2 13 p ∧ ∃ j : Nat, j < 5 ∧ g2 13 p = nI j
      rw [e13]
      exact hE.2 p hp
theorem agr_leave (h : SR S M n) (hn : n ≤ 600) (x y : Int32) : Agr [(zNS, 1), (zIA, 2), (zIS, 3)] (hLeave S x y) S (mLeave M x y) (n + 1) := by
  have h9 := h
  obtain ⟨K, c9, nn, mk, n1, n2, h⟩ := h
  rcases h.find (by omega) x with ⟨e1, e2⟩ | ⟨k, hk, e1, e2⟩
  · simp only [hLeave, mLeave, e1, e2]
    exact agr_thr h9 (by simp)
  simp only [hLeave, mLeave, e1, e2]
  obtain ⟨hA, hB, hC, hD, hE⟩ := h
  obtain ⟨d1, d2, d3, d4, d5, d6, d7, d8, d9, d10⟩ := hD
  rw [d6, d7]
  by_cases hy : y < 0 ∨ S.2.2.1 9 < y
  · rw [if_pos hy, if_neg (fun q => hy.elim (mIn_iff.mp q).1 (mIn_iff.mp q).2)]
    exact agr_thr h9 (by simp)
  rw [if_neg hy, if_pos (mIn_iff.mpr ⟨fun q => hy (Or.inl q), fun q => hy (Or.inr q)⟩)]
  obtain ⟨r0, r1, r2, r3, r4, r5, r6, r7, r8, r9, r10, r11, r12, r13, r14, r15, r16, r17⟩ := hB k hk
  have r8' : S.2.1 (num M.1 k) 7 = M.1 7 k := r8
  have r6' : S.2.1 (num M.1 k) 5 = M.1 9 k := r6
  rw [r8']
  by_cases h7 : M.1 7 k = -1 ∨ y < S.2.2.1 10
  · rw [if_pos h7, if_pos h7]
    exact agr_thr h9 (by simp)
  rw [if_neg h7, if_neg h7]
  have h71 : ¬ M.1 7 k = -1 := fun q => h7 (Or.inl q)
  have r9' : S.2.1 (num M.1 k) 8 = M.1 8 k := r9 h71
  obtain ⟨p, p9, hp7, hp14⟩ := (hC.2 k hk).resolve_left h71
  have hk30 := ((hA.2.2.1 k).mp hk).1
  have hcp : (M.1 7 k).toNatClampNeg = p := by rw [hp7, nI_clamp (by omega)]
  rw [hcp]
  have hcol : ∀ i m : Nat, m ≠ k → i ≤ 10 → va_up (mWoG M.1 k y) 14 (va_up (M.1 14) p (-1)) i m = M.1 i m := fun i m hm hi => by
    rw [va_up_ne _ _ (show i ≠ 14 by omega)]
    show va_up (va_up M.1 9 (va_up (M.1 9) k (M.1 9 k + (y - M.1 8 k)))) 7 (va_up ((va_up M.1 9 (va_up (M.1 9) k (M.1 9 k + (y - M.1 8 k)))) 7) k (-1)) i m = _
    rw [up2_ne hm, up2_ne hm]
  refine agr_ret rfl rfl ⟨K, c9, nn, mk, by omega, by omega, hA.congr (fun i m hi => ?_), RB.row hA hB hk (Nat.le_refl _) (fun _ => rfl) hcol ?_, ⟨fun q hq => ?_, fun m hm => ?_⟩, ⟨d1, d2, d3, d4, d5, d6, rfl, ?_, d9, d10⟩, hE⟩
  · rcases i with _ | _ | _ | i
    · rfl
    · rfl
    · rfl
    · exfalso; omega
  · refine ⟨r0, r1, r2, r3, r4, r5, ?_, r7, (va_up_self _ _ _).symm, fun q => absurd (va_up_self _ _ _) q, r10, r11, r12, r13, r14, r15, fun _ => va_up_self _ _ _, r17⟩
    show S.2.1 (num M.1 k) 5 + (y - S.2.1 (num M.1 k) 8) = va_up (M.1 9) k (M.1 9 k + (y - M.1 8 k)) k
    rw [va_up_self, r6', r9']
  · show va_up (M.1 14) p (-1) q = -1 ∨ ∃ m ∈ K, va_up (M.1 14) p (-1) q = nI m ∧ va_up (M.1 7) k (-1) m = nI q
    by_cases e : q = p
    · subst e
      exact Or.inl (va_up_self _ _ _)
    · rw [va_up_ne _ _ e]
      rcases hC.1 q hq with u | ⟨m, u1, u2, u3⟩
      · exact Or.inl u
      · refine Or.inr ⟨m, u1, u2, ?_⟩
        rw [va_up_ne _ _ (fun e2 => ?_)]
        · exact u3
        · subst e2
          rw [hp7] at u3
          exact e ((nI_eq (by omega) (by omega)).mp u3).symm
  · show va_up (M.1 7) k (-1) m = -1 ∨ ∃ q : Nat, q < c9 ∧ va_up (M.1 7) k (-1) m = nI q ∧ va_up (M.1 14) p (-1) q = nI m
    by_cases e : m = k
    · subst e
      exact Or.inl (va_up_self _ _ _)
    · rw [va_up_ne _ _ e]
      rcases hC.2 m hm with u | ⟨q, u1, u2, u3⟩
      · exact Or.inl u
      · refine Or.inr ⟨q, u1, u2, ?_⟩
        rw [va_up_ne _ _ (fun e2 => ?_)]
        · exact u3
        · subst e2
          rw [hp14] at u3
          exact e ((nI_eq (by omega) (by have := (hA.2.2.1 m).mp hm; omega)).mp u3).symm
  · show M.2 20 + (y - M.1 8 k) = S.2.2.1 11 + (y - S.2.1 (num M.1 k) 8)
    rw [d8, r9']
theorem agr_setRule (h : SR S M n) (x v y : Int32) : Agr [(zIA, 1)] (hSetRule S x v y) S (mSetRule M x v y) (n + 1) := by
  have h9 := h
  obtain ⟨K, c9, nn, mk, n1, n2, h⟩ := h
  simp only [hSetRule, mSetRule]
  by_cases hx : x < 0 ∨ ¬ x < 4
  · rw [if_pos hx, if_neg (fun q => mIn4.mp q.1 hx)]
    exact agr_thr h9 (by simp)
  rw [if_neg hx]
  by_cases hy : y < 0 ∨ 400 < y
  · rw [if_pos hy, if_neg (fun q => hy.elim (mIn_iff.mp q.2).1 (mIn_iff.mp q.2).2)]
    exact agr_thr h9 (by simp)
  rw [if_neg hy, if_pos ⟨mIn4.mpr hx, mIn_iff.mpr ⟨fun q => hy (Or.inl q), fun q => hy (Or.inr q)⟩⟩]
  obtain ⟨b, b4, rfl⟩ := mIn_at (k := 4) hx (by decide)
  rw [nI_clamp (show b < 2 ^ 31 by omega)]
  obtain ⟨hA, hB, hC, hD, hE⟩ := h
  refine agr_ret (hE.1 b b4).2 rfl ⟨K, c9, nn, mk, by omega, by omega, hA.congr (fun i m hi => ?_), fun m hm => (hB m hm).congr (fun i hi => ?_) (Nat.le_refl _) (Nat.le_refl _), hC, hD, ⟨fun j hj => ?_, hE.2⟩⟩
  · dsimp only
    rw [va_up_ne _ _ (by omega), va_up_ne _ _ (by omega)]
  · dsimp only [tg]
    rw [va_up_ne _ _ (by omega), va_up_ne _ _ (by omega)]
  · show va_up S.2.2.2.1 b v j = va_up (M.1 11) b v j ∧ va_up S.2.2.2.2.1 b y j = va_up (M.1 12) b y j
    by_cases e : j = b
    · subst e
      simp only [va_up_self, and_self]
    · simp only [va_up_ne _ _ e]
      exact hE.1 j hj
theorem agr_order (h : SR S M n) (x : Int32) : Agr [(zIA, 1), (zIS, 2)] (hOrder S x) S (mOrder M x) (n + 1) := by
  have h9 := h
  obtain ⟨K, c9, nn, mk, n1, n2, h⟩ := h
  simp only [hOrder, mOrder]
  by_cases hx : x < 0 ∨ ¬ x < 5
  · rw [if_pos hx, if_neg (fun q => mIn5.mp q hx)]
    exact agr_thr h9 (by simp)
  rw [if_neg hx, if_pos (mIn5.mpr hx)]
  obtain ⟨hA, hB, hC, ⟨d1, d2, d3, d4, d5, d6, d7, d8, d9, d10⟩, hE⟩ := h
  rw [d3, d4]
  have hk31 : c9 < 2 ^ 31 := by omega
  by_cases hc : 16 ≤ c9
  · rw [if_pos (show (16 : Int32) ≤ nI c9 from (nI_leI (a := 16) (by decide) hk31).mpr hc), if_neg (show ¬ nI c9 < 16 from fun q => by have := (nI_ltI (b := 16) hk31 (by decide)).mp q; omega)]
    exact agr_thr h9 (by simp)
  rw [if_neg (show ¬ (16 : Int32) ≤ nI c9 from fun q => hc ((nI_leI (a := 16) (by decide) hk31).mp q)), if_pos (show nI c9 < 16 from (nI_ltI (b := 16) hk31 (by decide)).mpr (by omega)), nI_clamp hk31]
  obtain ⟨j, j5, hj⟩ := mIn_at hx (by decide)
  refine agr_ret rfl rfl ⟨K, c9 + 1, nn, mk, by omega, by omega, hA.congr (fun i m hi => ?_), fun m hm => (hB m hm).congr (fun i hi => ?_) (Nat.le_refl _) (Nat.le_refl _), ⟨fun p hp => ?_, fun m hm => ?_⟩, ⟨d1, d2, ?_, ?_, by omega, d6, d7, d8, d9, d10⟩, ⟨hE.1, fun p hp => ?_⟩⟩
  · dsimp only
    rw [va_up_ne _ _ (by omega), va_up_ne _ _ (by omega)]
  · dsimp only [tg]
    rw [va_up_ne _ _ (by omega), va_up_ne _ _ (by omega)]
  · show va_up (M.1 14) c9 (-1) p = -1 ∨ ∃ m ∈ K, va_up (M.1 14) c9 (-1) p = nI m ∧ M.1 7 m = nI p
    by_cases e : p = c9
    · subst e
      exact Or.inl (va_up_self _ _ _)
    · rw [va_up_ne _ _ e]
      exact hC.1 p (by omega)
  · show M.1 7 m = -1 ∨ ∃ q : Nat, q < c9 + 1 ∧ M.1 7 m = nI q ∧ va_up (M.1 14) c9 (-1) q = nI m
    rcases hC.2 m hm with u | ⟨q, u1, u2, u3⟩
    · exact Or.inl u
    · exact Or.inr ⟨q, by omega, u2, by rw [va_up_ne _ _ (by omega)]; exact u3⟩
  · show nI c9 + 1 = _
    exact nI_1 _
  · show nI c9 + 1 = _
    exact nI_1 _
  · show va_up S.2.2.2.2.2 c9 x p = va_up (M.1 13) c9 x p ∧ ∃ j : Nat, j < 5 ∧ va_up (M.1 13) c9 x p = nI j
    by_cases e : p = c9
    · subst e
      rw [va_up_self, va_up_self]
      exact ⟨rfl, j, j5, hj⟩
    · rw [va_up_ne _ _ e, va_up_ne _ _ e]
      exact hE.2 p (by omega)
theorem agr_setHours (h : SR S M n) (x : Int32) : Agr [(zIA, 1), (zIS, 2)] (hSetHours S x) S (mSetHours M x) (n + 1) := by
  have h9 := h
  obtain ⟨K, c9, nn, mk, n1, n2, h⟩ := h
  simp only [hSetHours, mSetHours]
  by_cases hx : x < 1 ∨ 12 < x
  · rw [if_pos hx, if_neg (fun q => hx.elim (mIn_iff.mp q).1 (mIn_iff.mp q).2)]
    exact agr_thr h9 (by simp)
  rw [if_neg hx, if_pos (mIn_iff.mpr ⟨fun q => hx (Or.inl q), fun q => hx (Or.inr q)⟩)]
  obtain ⟨hA, hB, hC, ⟨d1, d2, d3, d4, d5, d6, d7, d8, d9, d10⟩, hE⟩ := h
  rw [d9]
  by_cases h12 : S.2.2.1 12 = 0
  · rw [if_pos h12, if_pos h12]
    exact agr_ret d6.symm rfl ⟨K, c9, nn, mk, by omega, by omega, hA, hB, hC, ⟨d1, d2, d3, d4, d5, rfl, d7, d8, d9, d10⟩, hE⟩
  · rw [if_neg h12, if_neg h12]
    exact agr_thr h9 (by simp)
theorem agr_workers (h : SR S M n) : Agr [] (.inr (nI S.1.length), S) S (nI (mCnt M.1 30), (M.1, va_up M.2 25 0)) (n + 1) := by
  have h9 := h
  obtain ⟨K, c9, nn, mk, n1, n2, h⟩ := h
  obtain ⟨c1, c2, c3⟩ := h.1.cnt
  exact agr_ret (by rw [c1, c2]) rfl (h9.f25 0)
theorem agr_places (h : SR S M n) : Agr [] (.inr (S.2.2.1 8), S) S (M.2 17, (M.1, va_up M.2 25 0)) (n + 1) := by
  have h9 := h
  obtain ⟨K, c9, nn, mk, n1, n2, h⟩ := h
  obtain ⟨hA, hB, hC, ⟨d1, d2, d3, d4, d5, d6, d7, d8, d9, d10⟩, hE⟩ := h
  exact agr_ret (d3.trans d4.symm) rfl (h9.f25 0)
theorem agr_workerAt (h : SR S M n) (hn : n ≤ 600) (x : Int32) : Agr [(zNS, 1)] (hWorkerAt S x) S (mWorkerAt M x) (n + 1) := by
  have h9 := h
  obtain ⟨K, c9, nn, mk, n1, n2, h⟩ := h
  have hD := h.2.2.2.1
  simp only [hWorkerAt, mWorkerAt]
  rw [hD.2.2.1, hD.2.2.2.1]
  have c16 := hD.2.2.2.2.1
  by_cases hx : x < 0 ∨ ¬ x < nI c9
  · rw [if_pos hx, if_neg (fun q => (mIn_pl c16).mp q hx)]
    exact agr_thr h9 (by simp)
  rw [if_neg hx, if_pos ((mIn_pl c16).mpr hx)]
  obtain ⟨p, p9, rfl⟩ := mIn_at hx (by omega)
  rw [nI_clamp (show p < 2 ^ 31 by omega)]
  exact agr_ret (h.hld (by omega) p9).1 rfl (h9.f25 0)
theorem agr_nextUp (h : SR S M n) (hn : n ≤ 600) (x : Int32) : Agr [(zIA, 1)] (hNextUp S x) S (mNextUp M x) (n + 1) := by
  have h9 := h
  obtain ⟨K, c9, nn, mk, n1, n2, h⟩ := h
  simp only [hNextUp, mNextUp]
  by_cases hx : x < 0 ∨ ¬ x < 4
  · rw [if_pos hx, if_neg (fun q => mIn4.mp q hx)]
    exact agr_thr h9 (by simp)
  rw [if_neg hx, if_pos (mIn4.mpr hx), h.1.line, h.1.1]
  rw [find_map_eq (ν := num M.1) (q := fun k => decide (M.1 1 k = x) && mRdy M.1 k) (fun k hk => by
    rw [h.rdy hk, show S.2.1 (num M.1 k) 1 = M.1 1 k from (h.2.1 k hk).2.2.1])]
  cases hf : K.find? (fun k => decide (M.1 1 k = x) && mRdy M.1 k) with
  | none => exact agr_ret rfl rfl (h9.f25 0)
  | some k => exact agr_ret (h.2.1 k (List.mem_of_find?_eq_some hf)).2.1 rfl (h9.f25 0)
theorem rnk_eq {wk : Nat → Nat → Int32} {g : Nat → Nat → Int32} {ν : Nat → Nat} {k : Nat} : ∀ K : List Nat, Sor g K → k ∈ K → (∀ a ∈ K, ∀ b ∈ K, ν a = ν b → a = b) → (∀ m ∈ K, wk (ν m) 1 = g 1 m) → rnk wk (ν k) (K.map ν) = K.countP (fun j => decide (g 1 j = g 1 k) && decide (g 2 j < g 2 k))
  | [], _, h, _, _ => absurd h List.not_mem_nil
  | m :: K, hs, hk, hi, hw => by
    have hs' := List.pairwise_cons.mp hs
    simp only [List.map_cons, rnk, List.countP_cons]
    by_cases e : m = k
    · subst e
      rw [if_pos rfl]
      have h0 : K.countP (fun j => decide (g 1 j = g 1 m) && decide (g 2 j < g 2 m)) = 0 := by
        rw [List.countP_eq_zero]
        intro j hj hp
        simp only [Bool.and_eq_true, decide_eq_true_eq] at hp
        exact bef_as _ _ (hs'.1 j hj) (bef_iff.mpr (Or.inr hp))
      rw [h0]
      simp [Int32.lt_irrefl]
    · have hkK : k ∈ K := (List.mem_cons.mp hk).resolve_left (fun q => e q.symm)
      rw [if_neg (fun q => e (hi m List.mem_cons_self k hk q)), rnk_eq K hs'.2 hkK (fun a ha b hb => hi a (List.mem_cons_of_mem _ ha) b (List.mem_cons_of_mem _ hb)) (fun x hx => hw x (List.mem_cons_of_mem _ hx)), hw m List.mem_cons_self, hw k hk]
      have hb := bef_iff.mp (hs'.1 k hkK)
      by_cases e1 : g 1 m = g 1 k
      · have e2 : g 2 m < g 2 k := hb.elim (fun q => by rw [e1] at q; exact absurd q Int32.lt_irrefl) (fun q => q.2)
        simp [e1, e2]
      · simp [e1]
theorem mRnk_eq {ts : List Nat} {g : Nat → Nat → Int32} {K : List Nat} (h : RA ts g K) (k : Nat) : mRnk g k 30 = K.countP (fun j => decide (g 1 j = g 1 k) && decide (g 2 j < g 2 k)) := by
  have h1 : mRnk g k 30 = ((List.range 30).filter (mOcc g)).countP (fun j => decide (g 1 j = g 1 k) && decide (g 2 j < g 2 k)) := by
    unfold mRnk
    rw [List.countP_filter]
    refine List.countP_congr (fun j _ => ?_)
    simp only [Bool.and_eq_true]
    constructor
    · rintro ⟨⟨a, b⟩, c⟩; exact ⟨⟨b, c⟩, a⟩
    · rintro ⟨⟨b, c⟩, a⟩; exact ⟨⟨a, b⟩, c⟩
  have h2 : ((List.range 30).filter (mOcc g)).Perm K := by
    have h3 := mLinR_perm (g := g) 30
    rw [← h.line]
    exact (List.reverse_perm _).symm.trans (h3.symm.trans (List.reverse_perm _).symm)
  rw [h1]
  exact h2.countP_eq _
theorem SK.rnk {S : zHS} {M : zMO} {K : List Nat} {c9 nn mk k : Nat} (h : SK S M K c9 nn mk) (hk : k ∈ K) : rnk S.2.1 (num M.1 k) S.1 = mRnk M.1 k 30 := by
  rw [mRnk_eq h.1, h.1.1]
  exact rnk_eq K h.1.2.2.2 hk h.1.inj (fun m hm => (h.2.1 m hm).2.2.1)
theorem agr_rankOf (h : SR S M n) (hn : n ≤ 600) (x : Int32) : Agr [(zNS, 1)] (hRankOf S x) S (mGet M x (fun k => nI (mRnk M.1 k 30))) (n + 1) := by
  have h9 := h
  obtain ⟨K, c9, nn, mk, n1, n2, h⟩ := h
  rcases h.find (by omega) x with ⟨e1, e2⟩ | ⟨k, hk, e1, e2⟩
  · simp only [hRankOf, mGet, e1, e2]
    exact agr_thr h9 (by simp)
  · simp only [hRankOf, mGet, e1, e2]
    exact agr_ret (by rw [h.rnk hk]) rfl (h9.f25 0)
end AG2
