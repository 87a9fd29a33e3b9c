/-! Dispatch agrees -/
theorem zHall_perm {W W2 P P2 : List Int32} (h : W.Perm W2) (h2 : P.Perm P2) : zHall W P = zHall W2 P2 := by
  unfold zHall
  simp only [cw_perm h, cp_perm h2]
theorem nd_len : ∀ (T K : List Nat), T.Nodup → (∀ k ∈ T, k ∈ K) → T.length ≤ K.length
  | [], _, _, _ => Nat.zero_le _
  | k :: T, K, h, hs => by
    have h' := List.nodup_cons.mp h
    have hk := hs k List.mem_cons_self
    have := nd_len T (K.erase k) h'.2 (fun m hm => (List.mem_erase_of_ne (show m ≠ k from fun q => h'.1 (q ▸ hm))).mpr (hs m (List.mem_cons_of_mem _ hm)))
    have e := List.length_erase_of_mem hk
    have p := List.length_pos_of_mem hk
    simp only [List.length_cons]
    omega
theorem find_cong {α : Type} {p q : α → Bool} : ∀ {l : List α}, (∀ a ∈ l, p a = q a) → l.find? p = l.find? q
  | [], _ => rfl
  | a :: l, h => by
    have ih := find_cong (l := l) (fun m hm => h m (List.mem_cons_of_mem _ hm))
    have hk := h a List.mem_cons_self
    by_cases e : q a = true
    · rw [List.find?_cons_of_pos (hk.trans e), List.find?_cons_of_pos e]
    · rw [List.find?_cons_of_neg (by rw [hk]; exact e), List.find?_cons_of_neg e, ih]
theorem tit_eq {S0 : zHS} {P : List Int32} {c9 nn : Nat} : ∀ (L : List Nat) (S : zHS) (M : zMO) (K : List Nat) (mq : Nat) (T : List Nat) (W : List Int32), (∀ k ∈ L, k ∈ K) → mq + L.length < 2 ^ 31 → S.2.2 = S0.2.2 → SK S M K c9 nn mq → W.Perm (T.map (M.1 3)) → (T ++ L).Nodup → (∀ k ∈ T, k ∈ K ∧ M.1 7 k = -1) → zHall W P = true →
    ∃ (K2 : List Nat) (mk2 : Nat), mk2 ≤ mq + L.length ∧ SK ((tit S0.2.2.2.1 P (L.map (num M.1)) S.1 S.2.1 (T.map (num M.1)) W).1, (tit S0.2.2.2.1 P (L.map (num M.1)) S.1 S.2.1 (T.map (num M.1)) W).2.1, S0.2.2) ((mTit P L M.1 M.2 T).1, (mTit P L M.1 M.2 T).2.1) K2 c9 nn mk2 ∧
      (tit S0.2.2.2.1 P (L.map (num M.1)) S.1 S.2.1 (T.map (num M.1)) W).2.2.1 = (mTit P L M.1 M.2 T).2.2.map (num (mTit P L M.1 M.2 T).1) ∧
      (tit S0.2.2.2.1 P (L.map (num M.1)) S.1 S.2.1 (T.map (num M.1)) W).2.2.2.Perm ((mTit P L M.1 M.2 T).2.2.map ((mTit P L M.1 M.2 T).1 3)) ∧
      zHall (tit S0.2.2.2.1 P (L.map (num M.1)) S.1 S.2.1 (T.map (num M.1)) W).2.2.2 P = true ∧ (mTit P L M.1 M.2 T).2.2.Nodup ∧ (∀ k ∈ (mTit P L M.1 M.2 T).2.2, k ∈ K2 ∧ (mTit P L M.1 M.2 T).1 7 k = -1) ∧
      (∀ j : Nat, j ≠ 10 → j ≠ 2 → (mTit P L M.1 M.2 T).1 j = M.1 j) ∧ ∀ j : Nat, j ≠ 12 → (mTit P L M.1 M.2 T).2.1 j = M.2 j
  | [], S, M, K, mq, T, W, _, _, e, h, hW, hnd, hT, hH => ⟨K, mq, by simp, by rw [← e]; exact h, rfl, hW, hH, by rw [List.append_nil] at hnd; exact hnd, hT, fun _ _ _ => rfl, fun _ _ => rfl⟩
  | k :: L, S, M, K, mq, T, W, hL, hm, e, h, hW, hnd, hT, hH => by
    have hk := hL k List.mem_cons_self
    have hL' : ∀ m ∈ L, m ∈ K := fun m hm => hL m (List.mem_cons_of_mem _ hm)
    obtain ⟨r0, r1, r2, r3, r4, r5, r6, r7, r8, -⟩ := h.2.1 k hk
    have r3 : S.2.1 (num M.1 k) 2 = M.1 3 k := r3
    have r5 : S.2.1 (num M.1 k) 4 = M.1 5 k := r5
    have hpm : (M.1 3 k :: W).Perm ((T ++ [k]).map (M.1 3)) := by
      rw [List.map_append]
      exact (hW.cons _).trans (List.perm_append_comm (l₁ := [M.1 3 k]) (l₂ := T.map (M.1 3)))
    have hnd2 : (T ++ L).Nodup := List.Nodup.sublist (List.Sublist.append (List.Sublist.refl T) (List.sublist_cons_self k L)) hnd
    have hnd3 : ((T ++ [k]) ++ L).Nodup := by rw [List.append_assoc]; exact hnd
    simp only [List.length_cons] at hm ⊢
    simp only [List.map_cons, tit, mTit]
    rw [h.rdy hk, r3, zHall_perm hpm (List.Perm.refl P)]
    by_cases c : (mRdy M.1 k && zHall ((T ++ [k]).map (M.1 3)) P) = true
    · have c2 : mRdy M.1 k = true ∧ zHall ((T ++ [k]).map (M.1 3)) P = true := by simpa using c
      rw [if_pos c, if_pos c2, r5]
      have h7 : M.1 7 k = -1 := by
        have := c2.1
        unfold mRdy at this
        simp only [Bool.and_eq_true, decide_eq_true_eq] at this
        exact this.1.2
      by_cases c5 : M.1 5 k = 0
      · rw [if_pos c5, if_pos c5]
        have ih := tit_eq (S0 := S0) (P := P) L S M K mq (T ++ [k]) (M.1 3 k :: W) hL' (by omega) e h hpm hnd3 (fun m hm => by
          rcases List.mem_append.mp hm with q | q
          · exact hT m q
          · rw [List.mem_singleton.mp q]; exact ⟨hk, h7⟩) (by rw [zHall_perm hpm (List.Perm.refl P)]; exact c2.2)
        rw [show (T ++ [k]).map (num M.1) = T.map (num M.1) ++ [num M.1 k] by rw [List.map_append]; rfl] at ih
        obtain ⟨K3, mk3, q1, q2⟩ := ih
        exact ⟨K3, mk3, by omega, q2⟩
      · rw [if_neg c5, if_neg c5]
        obtain ⟨K2, mk2, m1, m2, h2⟩ := h.refuse hk (by omega)
        have e0 : num (mReG M.1 M.2 k) = num M.1 := by unfold num; rw [mReG_same (by decide) (by decide)]
        have e3 : mReG M.1 M.2 k 3 = M.1 3 := mReG_same (by decide) (by decide)
        have e7 : mReG M.1 M.2 k 7 = M.1 7 := mReG_same (by decide) (by decide)
        have ih := tit_eq (S0 := S0) (P := P) L (zrefT S.2.2.2.1 S.2.1 (num M.1 k) S.1, zrefW S.2.1 (num M.1 k), S.2.2) (mReG M.1 M.2 k, mReF M.1 M.2 k) K2 mk2 T W (fun m hm => (m2 m).mpr (hL' m hm)) (by omega) e h2 (by dsimp only; rw [e3]; exact hW) hnd2 (fun m hm => by dsimp only; rw [e7]; exact ⟨(m2 m).mpr (hT m hm).1, (hT m hm).2⟩) hH
        dsimp only at ih
        rw [e0] at ih
        rw [show S.2.2.2.1 = S0.2.2.2.1 by rw [e]] at ih
        obtain ⟨K3, mk3, q1, q2, q3, q4, q5, q6, q7, q8, q9⟩ := ih
        exact ⟨K3, mk3, by omega, q2, q3, q4, q5, q6, q7, fun j j1 j2 => (q8 j j1 j2).trans (mReG_same j1 j2), fun j hj => (q9 j hj).trans (mReF_same hj)⟩
    · have c2 : ¬ (mRdy M.1 k = true ∧ zHall ((T ++ [k]).map (M.1 3)) P = true) := by simpa using c
      rw [if_neg c, if_neg c2]
      obtain ⟨K3, mk3, q1, q2⟩ := tit_eq (S0 := S0) (P := P) L S M K mq T W hL' (by omega) e h hW hnd2 hT hH
      exact ⟨K3, mk3, by omega, q2⟩
/-- filling alone, all in the order of the turn ts -/
def plf (nd : Nat → Int32) (m : Nat) (ts : List Nat) : List Nat → (Nat → Nat → Int32) → (Nat → Int32) → List Int32 → List Int32 → Bool × (Nat → Nat → Int32) × (Nat → Int32)
  | [], wk, hi, _, _ => (true, wk, hi)
  | n :: r, wk, hi, W, P => match lowp wk nd ts n (W.erase (wk n 2)) P m with
    | some p => plf nd m ts r (zstaW hi wk n (nI p)) (va_up hi 12 1) (W.erase (wk n 2)) (P.erase (nd p))
    | none => (false, wk, hi)
def bots (wk : Nat → Nat → Int32) : List Nat → List Nat → List Nat
  | [], ts => ts
  | n :: r, ts => bots wk r (pab wk n (ts.erase n))
theorem pab_cong {wk wk2 : Nat → Nat → Int32} (h : ∀ m, wk m 1 = wk2 m 1) (n : Nat) : ∀ l : List Nat, pab wk n l = pab wk2 n l
  | [] => rfl
  | m :: l => by simp only [pab, h, pab_cong h n l]
theorem bots_cong {wk wk2 : Nat → Nat → Int32} (h : ∀ m, wk m 1 = wk2 m 1) : ∀ r ts : List Nat, bots wk r ts = bots wk2 r ts
  | [], _ => rfl
  | n :: r, ts => by simp only [bots, pab_cong h, bots_cong h r]
theorem zstaW_ne {hi : Nat → Int32} {wk : Nat → Nat → Int32} {n : Nat} {p : Int32} {m j : Nat} (h7 : j ≠ 7) (h8 : j ≠ 8) (h9 : j ≠ 9) : zstaW hi wk n p m j = wk m j := by
  unfold zstaW
  by_cases e : m = n
  · subst e
    rw [va_up_self, va_up_ne _ _ h9, va_up_ne _ _ h8, va_up_ne _ _ h7]
  · rw [va_up_ne _ _ e]
theorem plf_brd {nd : Nat → Int32} {m : Nat} {ts : List Nat} : ∀ (r : List Nat) (wk : Nat → Nat → Int32) (hi : Nat → Int32) (W P : List Int32) (q : Nat), (plf nd m ts r wk hi W P).2.1 q 1 = wk q 1
  | [], _, _, _, _, _ => rfl
  | n :: r, wk, hi, W, P, q => by
    simp only [plf]
    split
    · rw [plf_brd r]
      exact zstaW_ne (by decide) (by decide) (by decide)
    · rfl
theorem lowp_perm {wk : Nat → Nat → Int32} {nd : Nat → Int32} {ts ts0 : List Nat} (hp : ts.Perm ts0) (hq : ∀ q ∈ ts0, wk q 0 ≠ -1) (n : Nat) (W P : List Int32) (c : Nat) : lowp wk nd ts n W P c = lowp wk nd ts0 n W P c := by
  unfold lowp
  refine find_cong (fun p _ => ?_)
  have : hold wk (nI p) ts = -1 ↔ hold wk (nI p) ts0 = -1 := by
    rw [hold_iff hq, hold_iff (fun q hq2 => hq q (hp.mem_iff.mp hq2))]
    exact ⟨fun h q hq2 => h q (hp.mem_iff.mpr hq2), fun h q hq2 => h q (hp.mem_iff.mp hq2)⟩
  rw [decide_eq_decide.mpr this]
theorem plt_split {nd : Nat → Int32} {m : Nat} {ts0 : List Nat} : ∀ (r ts : List Nat) (wk : Nat → Nat → Int32) (hi : Nat → Int32) (W P : List Int32), ts.Perm ts0 → (∀ n ∈ r, n ∈ ts0) → (∀ q ∈ ts0, wk q 0 ≠ -1) → (plf nd m ts0 r wk hi W P).1 = true →
    (plt nd m r ts wk hi W P).1 = bots wk r ts ∧ (plt nd m r ts wk hi W P).2.1 = (plf nd m ts0 r wk hi W P).2.1 ∧ (plt nd m r ts wk hi W P).2.2.1 = (plf nd m ts0 r wk hi W P).2.2
  | [], _, _, _, _, _, _, _, _, _ => ⟨rfl, rfl, rfl⟩
  | n :: r, ts, wk, hi, W, P, hp, hr, hq, h => by
    simp only [plf] at h ⊢
    simp only [plt, bots]
    rw [lowp_perm hp hq]
    cases e : lowp wk nd ts0 n (W.erase (wk n 2)) P m with
    | none => rw [e] at h; cases h
    | some p =>
      rw [e] at h
      dsimp only at h ⊢
      have hn : n ∈ ts := hp.mem_iff.mpr (hr n List.mem_cons_self)
      have ih := plt_split (nd := nd) (m := m) (ts0 := ts0) r (pab (zstaW hi wk n (nI p)) n (ts.erase n)) (zstaW hi wk n (nI p)) (va_up hi 12 1) (W.erase (wk n 2)) (P.erase (nd p)) ((pab_erase_perm hn).trans hp) (fun q hq => hr q (List.mem_cons_of_mem _ hq)) (fun q hq2 => by rw [zstaW_ne (by decide) (by decide) (by decide)]; exact hq q hq2) h
      refine ⟨ih.1.trans ?_, ih.2⟩
      rw [bots_cong (wk := zstaW hi wk n (nI p)) (wk2 := wk) (fun q => zstaW_ne (by decide) (by decide) (by decide)), pab_cong (wk := zstaW hi wk n (nI p)) (wk2 := wk) (fun q => zstaW_ne (by decide) (by decide) (by decide))]
theorem mOpn_inv {g : Nat → Nat → Int32} {x : Int32} : ∀ c : Nat, x ∈ mOpn g c → ∃ p : Nat, p < c ∧ g 14 p = -1 ∧ g 13 p = x
  | 0, h => absurd h List.not_mem_nil
  | c + 1, h => by
    simp only [mOpn] at h
    by_cases e : g 14 c = -1
    · rw [if_pos e] at h
      rcases List.mem_cons.mp h with q | q
      · exact ⟨c, Nat.lt_succ_self _, e, q.symm⟩
      · obtain ⟨p, h1, h2⟩ := mOpn_inv c q
        exact ⟨p, by omega, h2⟩
    · rw [if_neg e] at h
      obtain ⟨p, h1, h2⟩ := mOpn_inv c h
      exact ⟨p, by omega, h2⟩
theorem plf_eq {S0 : zHS} {c9 nn mk : Nat} {K : List Nat} (hn : nn < 2 ^ 31) : ∀ (T : List Nat) (S : zHS) (M : zMO) (W P : List Int32), S.1 = S0.1 → S.2.2.2 = S0.2.2.2 → SK S M K c9 nn mk → (∀ k ∈ T, k ∈ K ∧ M.1 7 k = -1) → T.Nodup → W.Perm (T.map (M.1 3)) → P.Perm (mOpn M.1 c9) → zHall W P = true →
    (plf S0.2.2.2.2.2 c9 S0.1 (T.map (num M.1)) S.2.1 S.2.2.1 W P).1 = true ∧ SK (S0.1, (plf S0.2.2.2.2.2 c9 S0.1 (T.map (num M.1)) S.2.1 S.2.2.1 W P).2.1, (plf S0.2.2.2.2.2 c9 S0.1 (T.map (num M.1)) S.2.1 S.2.2.1 W P).2.2, S0.2.2.2) ((mGiv c9 T M.1 M.2 P).1, (mGiv c9 T M.1 M.2 P).2.1) K c9 nn mk ∧ (mGiv c9 T M.1 M.2 P).1 0 = M.1 0 ∧ (mGiv c9 T M.1 M.2 P).2.1 25 = M.2 25
  | [], S, M, W, P, e1, e2, h, _, _, _, _, _ => ⟨rfl, by rw [← e1, ← e2]; exact h, rfl, rfl⟩
  | k :: T, S, M, W, P, e1, e2, h, hT, hnd, hW, hP, hH => by
    obtain ⟨hk, h7⟩ := hT k List.mem_cons_self
    have hnd' := List.nodup_cons.mp hnd
    obtain ⟨r0, r1, r2, r3, r4, r5, r6, r7, r8, r9, r10, r11, ⟨t, t32, ht⟩, -⟩ := h.2.1 k hk
    have r3 : S.2.1 (num M.1 k) 2 = M.1 3 k := r3
    have ht : M.1 3 k = nI t := ht
    have c16 := h.2.2.2.1.2.2.2.2.1
    have hk30 := ((h.1.2.2.1 k).mp hk).1
    have hE := h.2.2.2.2.2
    have hsk : zSk P := fun x hx => mOpn_sk c9 (fun i hi => (hE i hi).2) x (hP.mem_iff.mp hx)
    have hW1 : (W.erase (M.1 3 k)).Perm (T.map (M.1 3)) := by
      have := hW.erase (M.1 3 k)
      rwa [List.map_cons, List.erase_cons_head] at this
    have hlow : lowp S.2.1 S0.2.2.2.2.2 S0.1 (num M.1 k) (W.erase (M.1 3 k)) P c9 = mLowp M.1 k (T.map (M.1 3)) P c9 := by
      unfold lowp mLowp
      refine find_cong (fun p hp => ?_)
      have hp := List.mem_range.mp hp
      rw [← e1, decide_eq_decide.mpr (h.hld hn hp).2, r3, show S0.2.2.2.2.2 p = M.1 13 p by rw [← e2]; exact (hE p hp).1, zHall_perm hW1 (List.Perm.refl _)]
    have hex : mLowp M.1 k (T.map (M.1 3)) P c9 ≠ none := by
      have hH2 : zHall (M.1 3 k :: T.map (M.1 3)) P = true := (zHall_perm hW (List.Perm.refl P)).symm.trans hH
      obtain ⟨x, x1, x2, x3⟩ := hall_step hsk ⟨t, t32, ht⟩ hH2
      obtain ⟨p, p1, p2, p3⟩ := mOpn_inv c9 (hP.mem_iff.mp x1)
      intro q
      unfold mLowp at q
      rw [List.find?_eq_none] at q
      exact q p (List.mem_range.mpr p1) (by rw [p3, x2, x3, decide_eq_true p2]; rfl)
    simp only [List.map_cons, plf, mGiv]
    rw [r3, hlow]
    cases e : mLowp M.1 k (T.map (M.1 3)) P c9 with
    | none => exact absurd e hex
    | some p =>
      dsimp only
      have e' := e
      unfold mLowp at e'
      have hp9 := List.mem_range.mp (List.mem_of_find?_eq_some e')
      have hp := List.find?_some e'
      simp only [Bool.and_eq_true, decide_eq_true_eq] at hp
      obtain ⟨hp14, hps, hpH⟩ := hp
      rw [show S0.2.2.2.2.2 p = M.1 13 p by rw [← e2]; exact (hE p hp9).1]
      have h2 := h.fill hk h7 hp9 hp14
      have hPp : (P.erase (M.1 13 p)).Perm (mOpn (mFiG M.1 M.2 k p) c9) := by
        have := (hP.trans ((mOpn_fi (f := M.2) hk30 hp14 c9).1 hp9)).erase (M.1 13 p)
        rwa [List.erase_cons_head] at this
      have ih := plf_eq (S0 := S0) hn T (S.1, zstaW S.2.2.1 S.2.1 (num M.1 k) (nI p), va_up S.2.2.1 12 1, S.2.2.2) (mFiG M.1 M.2 k p, mFiF M.2) (W.erase (M.1 3 k)) (P.erase (M.1 13 p)) e1 e2 h2 (fun m hm => ⟨(hT m (List.mem_cons_of_mem _ hm)).1, by
        have hmk : m ≠ k := fun q => hnd'.1 (q ▸ hm)
        show va_up (M.1 7) k (nI p) m = -1
        rw [va_up_ne _ _ hmk]
        exact (hT m (List.mem_cons_of_mem _ hm)).2⟩) hnd'.2 hW1 hPp (by rw [zHall_perm hW1 (List.Perm.refl _)]; exact hpH)
      exact ih
theorem bots_eq {c9 nn : Nat} : ∀ (T : List Nat) (S : zHS) (M : zMO) (K : List Nat) (mq : Nat), SK S M K c9 nn mq → (∀ k ∈ T, k ∈ K) → mq + T.length < 2 ^ 31 → ∃ (K2 : List Nat) (mk2 : Nat), mk2 ≤ mq + T.length ∧ SK (bots S.2.1 (T.map (num M.1)) S.1, S.2) (mLoA T M.1 M.2) K2 c9 nn mk2 ∧ (mLoA T M.1 M.2).2 25 = M.2 25
  | [], S, M, K, mq, h, _, _ => ⟨K, mq, by simp, h, rfl⟩
  | k :: T, S, M, K, mq, h, hT, hm => by
    have hk := hT k List.mem_cons_self
    simp only [List.length_cons] at hm ⊢
    have h2 := h.low hk (by omega)
    obtain ⟨K2, mk2, q1, q2, q3⟩ := bots_eq T (pab S.2.1 (num M.1 k) (S.1.erase (num M.1 k)), S.2) (mLow M.1 M.2 k, mLoF M.2) _ (mq + 1) h2 (fun m hm => (pab_erase_perm hk).mem_iff.mpr (hT m (List.mem_cons_of_mem _ hm))) (by omega)
    exact ⟨K2, mk2, by omega, q2, q3⟩
theorem agr_dispatch {S : zHS} {M : zMO} {n : Nat} (h : SR S M n) (hn : n ≤ 600) : Agr [] (hDispatch S) S (mDispatch M) (n + 1) := by
  obtain ⟨K, c9, nn, mk, n1, n2, h⟩ := h
  have hD := h.2.2.2.1
  have c16 := hD.2.2.2.2.1
  have hcH : (S.2.2.1 8).toNatClampNeg = c9 := by rw [hD.2.2.1, nI_clamp (by omega)]
  have hcM : (M.2 17).toNatClampNeg = c9 := by rw [hD.2.2.2.1, nI_clamp (by omega)]
  obtain ⟨c1, c2, c3⟩ := h.1.cnt
  have hop : hPl S = mOpn M.1 c9 := by
    unfold hPl
    rw [hcH]
    exact h.opn (by omega) c9 (Nat.le_refl _)
  have hl := h.1.line
  have ht := tit_eq (S0 := S) (P := mOpn M.1 c9) K S (M.1, va_up M.2 25 0) K mk [] [] (fun _ q => q) (by omega) rfl (h.f25 0) (List.Perm.refl _) h.1.nd (fun k hk => absurd hk List.not_mem_nil) (zHall_iff.mpr (fun s _ => by simp [cw]))
  dsimp only at ht
  rw [← h.1.1, List.map_nil] at ht
  simp only [hDispatch, mDispatch, hPlt, hTit, mTi, mGi]
  rw [hop, hcH, hcM, hl]
  generalize tit S.2.2.2.1 (mOpn M.1 c9) S.1 S.1 S.2.1 [] [] = X at ht ⊢
  generalize mTit (mOpn M.1 c9) K M.1 (va_up M.2 25 0) [] = Y at ht ⊢
  obtain ⟨ts1, wk1, tk, W1⟩ := X
  obtain ⟨g1, f1, T⟩ := Y
  dsimp only at ht ⊢
  obtain ⟨K2, mk2, q1, q2, rfl, q4, q5, q6, q7, q8, q9⟩ := ht
  have hop2 : mOpn M.1 c9 = mOpn g1 c9 := (mOpn_of q8 c9).symm
  have hp := plf_eq (S0 := (ts1, wk1, S.2.2)) (c9 := c9) (nn := nn) (mk := mk2) (K := K2) (by omega) T (ts1, wk1, S.2.2) (g1, f1) W1 (mOpn M.1 c9) rfl rfl q2 q7 q6 q4 (by rw [hop2]) q5
  dsimp only at hp
  obtain ⟨u1, u2, u3, u4⟩ := hp
  have hT2 : ∀ m ∈ T.map (num g1), m ∈ ts1 := fun m hm => by
    obtain ⟨k, hk, rfl⟩ := List.mem_map.mp hm
    rw [show ts1 = K2.map (num g1) from q2.1.1]
    exact List.mem_map_of_mem (q7 k hk).1
  have hs := plt_split (nd := S.2.2.2.2.2) (m := c9) (ts0 := ts1) (T.map (num g1)) ts1 wk1 S.2.2.1 W1 (mOpn M.1 c9) (List.Perm.refl _) hT2 (fun q hq => by
    rw [show ts1 = K2.map (num g1) from q2.1.1] at hq
    obtain ⟨k, hk, rfl⟩ := List.mem_map.mp hq
    have := (q2.2.1 k hk).nm (by omega)
    have r1 : wk1 (num g1 k) 0 = g1 0 k := (q2.2.1 k hk).2.1
    have e0 : g1 0 k = nI (num g1 k) := this.1
    rw [r1, e0]
    have h9 : num g1 k < nn := this.2
    exact nI_nm1 (by omega)) u1
  obtain ⟨s1, s2, s3⟩ := hs
  rw [s1, s2, s3]
  have hTl : T.length ≤ 30 := by
    have : T.length ≤ K2.length := nd_len T K2 q6 (fun k hk => (q7 k hk).1)
    have := q2.1.cnt.2.2
    omega
  have hb := bots_eq T _ _ K2 mk2 u2 (fun k hk => (q7 k hk).1) (by omega)
  dsimp only at hb
  rw [bots_cong (wk2 := wk1) (fun m => plf_brd _ _ _ _ _ m), show num (mGiv c9 T g1 f1 (mOpn M.1 c9)).1 = num g1 by unfold num; rw [u3]] at hb
  obtain ⟨K3, mk3, b1, b2, b3⟩ := hb
  refine agr_ret (by rw [List.length_map]) ?_ ⟨K3, c9, nn, mk3, by omega, by omega, b2⟩
  rw [b3, u4, q9 25 (by decide)]
  rfl
