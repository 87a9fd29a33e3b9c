/-! Lowering, filling, refusing; replace -/
theorem SK.low {S : zHS} {M : zMO} {K : List Nat} {c9 nn mk k : Nat} (h : SK S M K c9 nn mk) (hk : k ∈ K) (hm : mk + 1 < 2 ^ 31) : SK (pab S.2.1 (num M.1 k) (S.1.erase (num M.1 k)), S.2) (mLow M.1 M.2 k, mLoF M.2) (pab (tg (mLow M.1 M.2 k)) k (K.erase k)) c9 nn (mk + 1) := by
  obtain ⟨hA, hB, hC, ⟨d1, d2, d3, d4, d5, d6, d7, d8, d9, d10⟩, hE⟩ := h
  have hme := pab_erase_perm (wk := tg (mLow M.1 M.2 k)) hk
  have g2k : mLow M.1 M.2 k 2 k = nI (mk + 1) := by
    show va_up (M.1 2) k (M.2 12 + 1) k = _
    rw [va_up_self, d10, nI_1]
  have hcol : ∀ i m : Nat, m ≠ k → mLow M.1 M.2 k i m = M.1 i m := fun i m hm => up2_ne hm
  have hrow : RB S.2.1 (mLow M.1 M.2 k) K nn (mk + 1) := by
    intro m hm2
    show RBk (S.2.1 (num M.1 m)) _ nn (mk + 1)
    by_cases e : m = k
    · subst e
      obtain ⟨r0, r1, r2, r3, r4, r5, r6, r7, r8, r9, r10, r11, r12, r13, r14, r15, r16, r17⟩ := hB m hm2
      exact ⟨r0, r1, r2, r3, r4, r5, r6, r7, r8, r9, r10, r11, r12, r13, r14, r15, r16, ⟨mk + 1, Nat.le_refl _, g2k⟩⟩
    · exact (hB m hm2).congr (fun i _ => hcol i m e) (Nat.le_refl _) (by omega)
  refine ⟨RA.bot (mk := mk) hA hk (fun _ => rfl) (fun m hm => ⟨rfl, hcol 2 m hm⟩) hB.marks hm g2k (fun m hm => (hB m hm).2.2.1), hrow.perm (fun m hm => hme.mem_iff.mp hm), RC.perm hC (fun m => hme.mem_iff), ⟨d1, d2, d3, d4, d5, d6, d7, d8, d9, ?_⟩, hE⟩
  show M.2 12 + 1 = _
  rw [d10, nI_1]
theorem SK.fill {S : zHS} {M : zMO} {K : List Nat} {c9 nn mk k p : Nat} (h : SK S M K c9 nn mk) (hk : k ∈ K) (h7 : M.1 7 k = -1) (hp : p < c9) (h14 : M.1 14 p = -1) : SK (S.1, zstaW S.2.2.1 S.2.1 (num M.1 k) (nI p), va_up S.2.2.1 12 1, S.2.2.2) (mFiG M.1 M.2 k p, mFiF M.2) K c9 nn mk := by
  obtain ⟨hA, hB, hC, ⟨d1, d2, d3, d4, d5, d6, d7, d8, d9, d10⟩, hE⟩ := h
  have e14 : mFiG M.1 M.2 k p 14 = va_up (M.1 14) p (nI k) := rfl
  have e7 : mFiG M.1 M.2 k p 7 = va_up (M.1 7) k (nI p) := rfl
  have hk30 := ((hA.2.2.1 k).mp hk).1
  have hcol : ∀ i m : Nat, m ≠ k → i ≤ 10 → mFiG M.1 M.2 k p i m = M.1 i m := fun i m hm hi => by
    rcases i with _ | _ | _ | _ | _ | _ | _ | _ | _ | _ | _ | i
    all_goals first | rfl | exact va_up_ne _ _ hm | (exfalso; omega)
  obtain ⟨r0, r1, r2, r3, r4, r5, r6, r7, r8, r9, r10, r11, r12, r13, r14, r15, r16, r17⟩ := hB k hk
  refine ⟨hA.congr (fun i m hi => ?_), RB.row hA hB hk (Nat.le_refl _) (fun _ => rfl) hcol ?_, ⟨fun q hq => ?_, fun m hm => ?_⟩, ⟨d1, d2, d3, d4, d5, d6, d7, d8, rfl, d10⟩, hE⟩
  · rcases i with _ | _ | _ | i
    · rfl
    · rfl
    · rfl
    · exfalso; omega
  · refine ⟨r0, r1, r2, r3, r4, r5, r6, r7, (va_up_self _ _ _).symm, fun _ => ?_, (va_up_self _ _ _).symm, r11, r12, r13, r14, ⟨true, va_up_self _ _ _⟩, fun q => ?_, r17⟩
    · show S.2.2.1 10 = va_up (M.1 8) k (M.2 19) k
      rw [va_up_self, d7]
    · have q : va_up (M.1 6) k 1 k = 0 := q
      rw [va_up_self] at q
      exact absurd q (by decide)
  · dsimp only
    rw [e14, e7]
    by_cases e : q = p
    · subst e
      exact Or.inr ⟨k, hk, va_up_self _ _ _, va_up_self _ _ _⟩
    · rw [va_up_ne _ _ e]
      rcases hC.1 q hq with u | ⟨m, u1, u2, u3⟩
      · exact Or.inl u
      · refine Or.inr ⟨m, u1, u2, ?_⟩
        rw [va_up_ne _ _ (fun e2 => ?_)]
        · exact u3
        · subst e2
          rw [h7] at u3
          exact nI_nm1 (show q < 2 ^ 31 by omega) u3.symm
  · dsimp only
    rw [e14, e7]
    by_cases e : m = k
    · subst e
      exact Or.inr ⟨p, hp, va_up_self _ _ _, va_up_self _ _ _⟩
    · rw [va_up_ne _ _ e]
      rcases hC.2 m hm with u | ⟨q, u1, u2, u3⟩
      · exact Or.inl u
      · refine Or.inr ⟨q, u1, u2, ?_⟩
        rw [va_up_ne _ _ (fun e2 => ?_)]
        · exact u3
        · subst e2
          rw [h14] at u3
          exact nI_nm1 (show m < 2 ^ 31 by have := (hA.2.2.1 m).mp hm; omega) u3.symm
theorem SK.refuse {S : zHS} {M : zMO} {K : List Nat} {c9 nn mk k : Nat} (h : SK S M K c9 nn mk) (hk : k ∈ K) (hm : mk + 1 < 2 ^ 31) : ∃ (K2 : List Nat) (mk2 : Nat), mk2 ≤ mk + 1 ∧ (∀ m, m ∈ K2 ↔ m ∈ K) ∧ SK (zrefT S.2.2.2.1 S.2.1 (num M.1 k) S.1, zrefW S.2.1 (num M.1 k), S.2.2) (mReG M.1 M.2 k, mReF M.1 M.2 k) K2 c9 nn mk2 := by
  have h9 := h
  obtain ⟨hA, hB, hC, hD, hE⟩ := h
  obtain ⟨r0, r1, r2, r3, r4, r5, r6, r7, r8, r9, r10, ⟨b, b4, hb⟩, r12, r13, r14, r15, r16, r17⟩ := hB k hk
  have r2' : S.2.1 (num M.1 k) 1 = M.1 1 k := r2
  have hb' : M.1 1 k = nI b := hb
  have r7' : S.2.1 (num M.1 k) 6 = M.1 10 k := r7
  have h1 : SK (S.1, zrefW S.2.1 (num M.1 k), S.2.2) (va_up M.1 10 (va_up (M.1 10) k (M.1 10 k + 1)), M.2) K c9 nn mk := by
    refine ⟨hA.congr (fun i m hi => by dsimp only; rw [va_up_ne _ _ (by omega)]), RB.row hA hB hk (Nat.le_refl _) (fun _ => rfl) (fun i m hm _ => up2_ne hm) ?_, hC, hD, hE⟩
    refine ⟨r0, r1, r2, r3, r4, r5, r6, ?_, r8, r9, r10, ⟨b, b4, hb⟩, r12, r13, r14, r15, r16, r17⟩
    show S.2.1 (num M.1 k) 6 + 1 = va_up (M.1 10) k (M.1 10 k + 1) k
    rw [va_up_self, r7']
  have hc : zcost S.2.2.2.1 (S.2.1 (num M.1 k)) = M.1 11 (M.1 1 k).toNatClampNeg := by
    unfold zcost
    rw [r2', hb', nI_clamp (by omega)]
    exact (hE.1 b b4).1
  unfold zrefT mReG mReF
  rw [hc]
  by_cases e : M.1 11 (M.1 1 k).toNatClampNeg = 0
  · rw [if_pos e, if_pos e, if_pos e]
    exact ⟨K, mk, by omega, fun _ => Iff.rfl, h1⟩
  · rw [if_neg e, if_neg e, if_neg e]
    exact ⟨_, mk + 1, Nat.le_refl _, fun m => (pab_erase_perm hk).mem_iff, h1.low hk hm⟩
theorem rpl_eq {S0 : zHS} {p c9 nn : Nat} (hp : p < c9) (hn : nn < 2 ^ 31) : ∀ (L : List Nat) (S : zHS) (M : zMO) (K : List Nat) (mk : Nat), (∀ k ∈ L, k ∈ K) → mk + L.length + 1 < 2 ^ 31 → M.1 14 p = -1 → S.2.2.2 = S0.2.2.2 → SK S M K c9 nn mk →
    ∃ (K2 : List Nat) (mk2 : Nat), mk2 ≤ mk + L.length + 1 ∧ (rpl S0.2.2.2.1 (nI p) (S0.2.2.2.2.2 p) (L.map (num M.1)) S.1 S.2.1 S.2.2.1).1 = (mRpl p L M.1 M.2).1 ∧ (mRpl p L M.1 M.2).2.2 25 = M.2 25 ∧ SK ((rpl S0.2.2.2.1 (nI p) (S0.2.2.2.2.2 p) (L.map (num M.1)) S.1 S.2.1 S.2.2.1).2.1, (rpl S0.2.2.2.1 (nI p) (S0.2.2.2.2.2 p) (L.map (num M.1)) S.1 S.2.1 S.2.2.1).2.2.1, (rpl S0.2.2.2.1 (nI p) (S0.2.2.2.2.2 p) (L.map (num M.1)) S.1 S.2.1 S.2.2.1).2.2.2, S0.2.2.2) (mRpl p L M.1 M.2).2 K2 c9 nn mk2
  | [], S, M, K, mq, _, _, _, e, h => ⟨K, mq, by simp, rfl, rfl, by rw [← e]; exact h⟩
  | k :: L, S, M, K, mq, hL, hm, h14, e, h => by
    have hk := hL k List.mem_cons_self
    have hL' : ∀ m ∈ L, m ∈ K := fun m hm => hL m (List.mem_cons_of_mem _ hm)
    obtain ⟨r0, r1, r2, r3, r4, r5, r6, r7, r8, -⟩ := h.2.1 k hk
    have r3 : S.2.1 (num M.1 k) 2 = M.1 3 k := r3
    have r5 : S.2.1 (num M.1 k) 4 = M.1 5 k := r5
    have r1 : S.2.1 (num M.1 k) 0 = M.1 0 k := r1
    have hnd : S0.2.2.2.2.2 p = M.1 13 p := by rw [← e]; exact (h.2.2.2.2.2 p hp).1
    simp only [List.length_cons] at hm ⊢
    simp only [List.map_cons, rpl, mRpl]
    rw [h.rdy hk, r3, hnd]
    by_cases c : (mRdy M.1 k && skl (M.1 3 k) (M.1 13 p)) = true
    · have c2 : mRdy M.1 k = true ∧ skl (M.1 3 k) (M.1 13 p) = true := by simpa using c
      rw [if_pos c, if_pos c2, r5]
      have h7 : M.1 7 k = -1 := by
        have := c2.1
        unfold mRdy at this
        simp only [Bool.and_eq_true, decide_eq_true_eq] at this
        exact this.1.2
      by_cases c5 : M.1 5 k = 0
      · rw [if_pos c5, if_pos c5, ← e]
        have h2 := (h.fill hk h7 hp h14).low hk (by omega)
        exact ⟨_, mq + 1, by omega, r1, rfl, h2⟩
      · rw [if_neg c5, if_neg c5]
        obtain ⟨K2, mk2, m1, m2, h2⟩ := h.refuse hk (by omega)
        have e0 : num (mReG M.1 M.2 k) = num M.1 := by unfold num; rw [mReG_same (by decide) (by decide)]
        have e14 : mReG M.1 M.2 k 14 = M.1 14 := mReG_same (by decide) (by decide)
        have e13 : mReG M.1 M.2 k 13 = M.1 13 := mReG_same (by decide) (by decide)
        have ih := rpl_eq (S0 := S0) hp hn L (zrefT S.2.2.2.1 S.2.1 (num M.1 k) S.1, zrefW S.2.1 (num M.1 k), S.2.2) (mReG M.1 M.2 k, mReF M.1 M.2 k) K2 mk2 (fun m hm => (m2 m).mpr (hL' m hm)) (by omega) (by dsimp only; rw [e14]; exact h14) e h2
        dsimp only at ih
        rw [e0, hnd] at ih
        rw [show S.2.2.2.1 = S0.2.2.2.1 by rw [e]] at ih
        obtain ⟨K3, mk3, q1, q2, q3, q4⟩ := ih
        refine ⟨K3, mk3, by omega, q2, q3.trans (mReF_same (by decide)), q4⟩
    · have c2 : ¬ (mRdy M.1 k = true ∧ skl (M.1 3 k) (M.1 13 p) = true) := by simpa using c
      rw [if_neg c, if_neg c2]
      have ih := rpl_eq (S0 := S0) hp hn L S M K mq hL' (by omega) h14 e h
      rw [hnd] at ih
      obtain ⟨K3, mk3, q1, q2, q3, q4⟩ := ih
      exact ⟨K3, mk3, by omega, q2, q3, q4⟩
theorem agr_replace {S : zHS} {M : zMO} {n : Nat} (h : SR S M n) (hn : n ≤ 600) (x : Int32) : Agr [(zNS, 1), (zIS, 2)] (hReplace S x) S (mReplace M x) (n + 1) := by
  have h9 := h
  obtain ⟨K, c9, nn, mk, n1, n2, h⟩ := h
  have hD := h.2.2.2.1
  have c16 := hD.2.2.2.2.1
  simp only [hReplace, mReplace]
  rw [hD.2.2.1, hD.2.2.2.1]
  by_cases hx : x < 0 ∨ ¬ x < nI c9
  · rw [if_pos hx, if_neg (fun q => (mIn_pl c16).mp q hx)]
    exact agr_thr h9 (by simp)
  rw [if_neg hx, if_pos ((mIn_pl c16).mpr hx)]
  obtain ⟨p, p9, rfl⟩ := mIn_at hx (by omega)
  rw [nI_clamp (show p < 2 ^ 31 by omega)]
  by_cases h14 : M.1 14 p = -1
  · rw [if_pos h14, if_pos ((h.hld (by omega) p9).2.mpr h14)]
    simp only [hRpl]
    rw [nI_clamp (show p < 2 ^ 31 by omega), h.1.line]
    obtain ⟨c1, c2, c3⟩ := h.1.cnt
    have hp := rpl_eq (S0 := S) (p := p) (c9 := c9) (nn := nn) p9 (by omega) K S (M.1, va_up M.2 25 0) K mk (fun _ q => q) (by omega) h14 rfl (h.f25 0)
    dsimp only at hp
    rw [← h.1.1] at hp
    obtain ⟨K2, mk2, q1, q2, q3, q4⟩ := hp
    exact agr_ret q2 (q3.trans rfl) ⟨K2, c9, nn, mk2, by omega, by omega, q4⟩
  · rw [if_neg h14, if_neg (fun q => h14 ((h.hld (by omega) p9).2.mp q))]
    exact agr_thr h9 (by simp)
