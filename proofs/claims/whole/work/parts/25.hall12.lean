/-! HiringHall: dispatch -/
/-- what asking in turn leaves -/
theorem tit_ok {co : Nat → Int32} {P : List Int32} : ∀ (r ts : List Nat) (wk : Nat → Nat → Int32) (tk : List Nat) (W : List Int32), (∀ n ∈ r, n ∈ ts) →
    (tit co P r ts wk tk W).1.Perm ts ∧ (∀ n k : Nat, k ≠ 6 → (tit co P r ts wk tk W).2.1 n k = wk n k) ∧ ∃ L : List Nat, L.Sublist r ∧ (tit co P r ts wk tk W).2.2.1 = tk ++ L ∧ (tit co P r ts wk tk W).2.2.2 = (L.map (fun n => wk n 2)).reverse ++ W ∧ ∀ n ∈ L, rdy (wk n) = true ∧ wk n 4 = 0
  | [], ts, wk, tk, W, _ => ⟨List.Perm.refl _, fun _ _ _ => rfl, [], List.Sublist.refl _, by simp [tit], by simp [tit], fun n hn => absurd hn List.not_mem_nil⟩
  | n :: r, ts, wk, tk, W, h => by
    have hr : ∀ m ∈ r, m ∈ ts := fun m hm => h m (List.mem_cons_of_mem _ hm)
    simp only [tit]
    split
    · rename_i h1
      simp only [Bool.and_eq_true] at h1
      split
      · rename_i h2
        obtain ⟨i1, i2, L, i3, i4, i5, i6⟩ := tit_ok (co := co) (P := P) r ts wk (tk ++ [n]) (wk n 2 :: W) hr
        refine ⟨i1, i2, n :: L, i3.cons_cons n, by rw [i4]; simp, by rw [i5]; simp, fun m hm => ?_⟩
        rcases List.mem_cons.mp hm with rfl | hm
        · exact ⟨h1.1, h2⟩
        · exact i6 m hm
      · have hp := zrefT_perm (co := co) (wk := wk) (h n List.mem_cons_self)
        have e6 : ∀ m k : Nat, k ≠ 6 → zrefW wk n m k = wk m k := fun m k hk => by
          unfold zrefW
          by_cases e : m = n
          · subst e
            rw [va_up_self, va_up_ne _ _ hk]
          · rw [va_up_ne _ _ e]
        obtain ⟨i1, i2, L, i3, i4, i5, i6⟩ := tit_ok (co := co) (P := P) r (zrefT co wk n ts) (zrefW wk n) tk W (fun m hm => hp.mem_iff.mpr (hr m hm))
        refine ⟨i1.trans hp, fun m k hk => (i2 m k hk).trans (e6 m k hk), L, i3.cons n, i4, ?_, fun m hm => ?_⟩
        · rw [i5]
          congr 2
          exact List.map_congr_left (fun m _ => e6 m 2 (by decide))
        · have := i6 m hm
          rw [e6 m 4 (by decide)] at this
          unfold rdy at this ⊢
          rw [e6 m 3 (by decide), e6 m 9 (by decide)] at this
          exact this
    · obtain ⟨i1, i2, L, i3, i4, i5, i6⟩ := tit_ok (co := co) (P := P) r ts wk tk W hr
      exact ⟨i1, i2, L, i3.cons n, i4, i5, i6⟩
/-- which places are open, another order and other refusals do not say -/
theorem opl_same {wk wk2 : Nat → Nat → Int32} {nd : Nat → Int32} {ts ts2 : List Nat} (hp : ts2.Perm ts) (h7 : ∀ n, wk2 n 7 = wk n 7) (h0 : ∀ n, wk2 n 0 = wk n 0) (hnum : ∀ q ∈ ts, wk q 0 ≠ -1) : ∀ c : Nat, opl wk2 nd ts2 c = opl wk nd ts c
  | 0 => rfl
  | c + 1 => by
    have hnum2 : ∀ q ∈ ts2, wk2 q 0 ≠ -1 := fun q hq => by rw [h0]; exact hnum q (hp.mem_iff.mp hq)
    have e : hold wk2 (nI c) ts2 = -1 ↔ hold wk (nI c) ts = -1 := by
      rw [hold_iff hnum2, hold_iff hnum]
      exact ⟨fun h n hn => by rw [← h7]; exact h n (hp.mem_iff.mpr hn), fun h n hn => by rw [h7]; exact h n (hp.mem_iff.mp hn)⟩
    rw [opl_append, opl_append, opl_same hp h7 h0 hnum c]
    by_cases q : hold wk (nI c) ts = -1
    · rw [if_pos q, if_pos (e.mpr q)]
    · rw [if_neg q, if_neg (fun r => q (e.mp r))]
theorem lowp_mem {wk : Nat → Nat → Int32} {nd : Nat → Int32} {ts : List Nat} {n p mx : Nat} {W P : List Int32} (h : lowp wk nd ts n W P mx = some p) : p < mx := (lowp_some h).1
theorem plt_perm {nd : Nat → Int32} {mx : Nat} : ∀ (r ts : List Nat) (wk : Nat → Nat → Int32) (hi : Nat → Int32) (W P : List Int32), (∀ n ∈ r, n ∈ ts) → (plt nd mx r ts wk hi W P).1.Perm ts ∧ (plt nd mx r ts wk hi W P).2.2.1 7 = hi 7
  | [], ts, wk, hi, W, P, _ => ⟨List.Perm.refl _, rfl⟩
  | n :: r, ts, wk, hi, W, P, h => by
    have hr : ∀ m ∈ r, m ∈ ts := fun m hm => h m (List.mem_cons_of_mem _ hm)
    rw [plt]
    cases lowp wk nd ts n (W.erase (wk n 2)) P mx with
    | none => exact plt_perm r ts wk hi _ _ hr
    | some p =>
      have hp := pab_erase_perm (wk := zstaW hi wk n (nI p)) (h n List.mem_cons_self)
      obtain ⟨i1, i2⟩ := plt_perm (nd := nd) (mx := mx) r (pab (zstaW hi wk n (nI p)) n (ts.erase n)) (zstaW hi wk n (nI p)) (va_up hi 12 1) (W.erase (wk n 2)) (P.erase (nd p)) (fun m hm => hp.mem_iff.mpr (hr m hm))
      exact ⟨i1.trans hp, i2.trans (va_up_ne hi 1 (show 7 ≠ 12 by decide))⟩
section ZH12
variable {l : Launch} {z : zT} {w : zW} {a0 nn : Nat} {S : zHS}
theorem o_dispatch (hl : l.stackTraces = false) (h : HH z a0 nn w S) (hwas : ∀ n ∈ S.1, ¬ S.2.1 n 7 = -1 → ¬ S.2.1 n 9 = 0) : ZO l z mX2_dispatch a0 nn nn [] w S (hDispatch S) := by
  have hHH := h
  obtain ⟨ts, wk, hi, co, gu, nd⟩ := S
  obtain ⟨ad, tb, tk, W, P, rfl, h, m7, hm7, hm8, hlt⟩ := h
  dsimp only at h hm8 hlt
  have hH := h
  obtain ⟨b0, b1, b3, b5, bM, b10, b11, b12, am, al, an, hc8⟩ := h
  dsimp only at hwas
  obtain ⟨c8, hc8, he8⟩ := hc8
  have hcl : (hi 8).toNatClampNeg = c8 := by rw [he8, nI_clamp (by omega)]
  have hT : hTit (ts, wk, hi, co, gu, nd) = tit co (opl wk nd ts c8) ts ts wk [] [] := by simp only [hTit, hPl, hcl]
  have hD : hDispatch (ts, wk, hi, co, gu, nd) = (.inr (nI (tit co (opl wk nd ts c8) ts ts wk [] []).2.2.1.length), ((plt nd c8 (tit co (opl wk nd ts c8) ts ts wk [] []).2.2.1 (tit co (opl wk nd ts c8) ts ts wk [] []).1 (tit co (opl wk nd ts c8) ts ts wk [] []).2.1 hi (tit co (opl wk nd ts c8) ts ts wk [] []).2.2.2 (opl wk nd ts c8)).1, (plt nd c8 (tit co (opl wk nd ts c8) ts ts wk [] []).2.2.1 (tit co (opl wk nd ts c8) ts ts wk [] []).1 (tit co (opl wk nd ts c8) ts ts wk [] []).2.1 hi (tit co (opl wk nd ts c8) ts ts wk [] []).2.2.2 (opl wk nd ts c8)).2.1, (plt nd c8 (tit co (opl wk nd ts c8) ts ts wk [] []).2.2.1 (tit co (opl wk nd ts c8) ts ts wk [] []).1 (tit co (opl wk nd ts c8) ts ts wk [] []).2.1 hi (tit co (opl wk nd ts c8) ts ts wk [] []).2.2.2 (opl wk nd ts c8)).2.2.1, co, gu, nd)) := by
    simp only [hDispatch, hPlt, hT, hPl, hcl]
  obtain ⟨t1, t2, L, t3, t4, t5, t6⟩ := tit_ok (co := co) (P := opl wk nd ts c8) ts ts wk [] [] (fun _ hn => hn)
  have hop := opl_same (nd := nd) t1 (fun n => t2 n 7 (by decide)) (fun n => t2 n 0 (by decide)) hH.num c8
  have ctit : ∀ {w : zW} {tb tk : List Nat}, HP z ad co gu nd w ts wk hi tb tk [] (opl wk nd ts c8) → _ := fun h => c_takeInTurn hl h
  generalize tit co (opl wk nd ts c8) ts ts wk [] [] = T at t1 t2 t4 t5 hop hD ctit
  obtain ⟨T1, T2, T3, T4⟩ := T
  dsimp only at t1 t2 t4 t5 hop hD ctit
  have b7 := bM.1
  refine zbody (M := mX2_dispatch) (L0 := [_]) hl (by simp [Value.category]) (Nat.le_of_ble_eq_true rfl) (by decide +kernel) rfl ?_
  intro p e s m args below meth c C hX hnm hret
  replace C : zC z p l s m args meth c cX2_dispatch RX2 1 := C
  replace hret : meth.sig.returnType = (some .int) := hret
  refine z_aload_n C dX2_dispatch_0 rfl ?_
  refine z_getf C zf_X2_25 dX2_dispatch_1 (by first | assumption | exact zk_eq | exact zk_ne (by first | assumption | exact zk_eq | exact zk_ne (by first | assumption | exact zk_eq | exact zk_ne (by first | assumption | exact zk_eq | exact zk_ne (by first | assumption | exact zk_eq | exact zk_ne (by first | assumption | exact zk_eq) (by first | decide | omega)) (by first | decide | omega)) (by first | decide | omega)) (by first | decide | omega)) (by first | decide | omega)) (by rfl) ?_
  refine z_callV C zm_X0_clear zl_X2_137 (c_Mclear hl bM) dX2_dispatch_4 (by first | assumption | exact zk_eq | exact zk_ne (by first | assumption | exact zk_eq | exact zk_ne (by first | assumption | exact zk_eq | exact zk_ne (by first | assumption | exact zk_eq | exact zk_ne (by first | assumption | exact zk_eq | exact zk_ne (by first | assumption | exact zk_eq) (by first | decide | omega)) (by first | decide | omega)) (by first | decide | omega)) (by first | decide | omega)) (by first | decide | omega)) (by rfl) (by rfl) (by rfl) (by exact Nat.le_of_ble_eq_true rfl) rfl (by exact ⟨Nat.le_of_ble_eq_true rfl, Nat.le_of_ble_eq_true rfl⟩) (by first | exact ⟨Nat.le_of_ble_eq_true rfl, Nat.le_of_ble_eq_true rfl⟩ | (simp only [zrm]; omega)) (fun _ _ h => z_xno h) (fun r w3 hq => ?_)
  obtain ⟨rfl, g1, g2⟩ := hq
  have hX2 := hH.mt g1 g2
  have b02 := hX2.1
  refine z_aload_n C dX2_dispatch_7 rfl ?_
  refine z_callV C zm_X2_matchOpenPlaces zl_X2_140 (c_matchOpenPlaces hl hX2 he8 hc8) dX2_dispatch_8 (by first | assumption | exact zk_eq | exact zk_ne (by first | assumption | exact zk_eq | exact zk_ne (by first | assumption | exact zk_eq | exact zk_ne (by first | assumption | exact zk_eq | exact zk_ne (by first | assumption | exact zk_eq | exact zk_ne (by first | assumption | exact zk_eq) (by first | decide | omega)) (by first | decide | omega)) (by first | decide | omega)) (by first | decide | omega)) (by first | decide | omega)) (by rfl) (by rfl) (by rfl) (by exact Nat.le_of_ble_eq_true rfl) rfl (by exact ⟨Nat.le_of_ble_eq_true rfl, Nat.le_of_ble_eq_true rfl⟩) (by first | exact ⟨Nat.le_of_ble_eq_true rfl, Nat.le_of_ble_eq_true rfl⟩ | (simp only [zrm]; omega)) (fun _ _ h => z_xno h) (fun r w4 hq => ?_)
  obtain ⟨rfl, g3, g4⟩ := hq
  have b03 := g3.1
  refine z_aload_n C dX2_dispatch_11 rfl ?_
  refine z_callV C zm_X2_takeInTurn zl_X2_143 (ctit g3) dX2_dispatch_12 (by first | assumption | exact zk_eq | exact zk_ne (by first | assumption | exact zk_eq | exact zk_ne (by first | assumption | exact zk_eq | exact zk_ne (by first | assumption | exact zk_eq | exact zk_ne (by first | assumption | exact zk_eq | exact zk_ne (by first | assumption | exact zk_eq) (by first | decide | omega)) (by first | decide | omega)) (by first | decide | omega)) (by first | decide | omega)) (by first | decide | omega)) (by rfl) (by rfl) (by rfl) (by exact Nat.le_of_ble_eq_true rfl) rfl (by exact ⟨Nat.le_of_ble_eq_true rfl, Nat.le_of_ble_eq_true rfl⟩) (by first | exact ⟨Nat.le_of_ble_eq_true rfl, Nat.le_of_ble_eq_true rfl⟩ | (simp only [zrm]; omega)) (fun _ _ h => z_xno h) (fun r w5 hq => ?_)
  obtain ⟨rfl, g5, g6⟩ := hq
  have b04 := g5.1
  rw [List.nil_append] at t4
  rw [List.append_nil] at t5
  subst t4
  have hrd : ∀ n ∈ T3, n ∈ T1 ∧ T2 n 7 = -1 := fun n hn => by
    refine ⟨t1.mem_iff.mpr (t3.subset hn), ?_⟩
    rw [t2 n 7 (by decide)]
    have h9 := (t6 n hn).1
    simp only [rdy, Bool.and_eq_true, decide_eq_true_eq] at h9
    by_cases q : wk n 7 = -1
    · exact q
    · exact absurd h9.2 (hwas n (t3.subset hn) q)
  have hTW : T4.Perm (T3.map (fun n => T2 n 2)) := by
    rw [t5, show T3.map (fun n => T2 n 2) = T3.map (fun n => wk n 2) from List.map_congr_left (fun n _ => t2 n 2 (by decide))]
    exact List.reverse_perm _
  have hlenT : T3.length ≤ 30 := Nat.le_trans t3.length_le al
  have hPP := plt_perm (nd := nd) (mx := c8) T3 T1 T2 hi T4 (opl wk nd ts c8) (fun n hn => (hrd n hn).1)
  refine z_aload_n C dX2_dispatch_15 rfl ?_
  refine z_callV C zm_X2_placeTaken zl_X2_146 (c_placeTaken (mx := c8) hl g5 he8 hc8 hTW (by rw [hop]) hrd (an.sublist t3) hlenT) dX2_dispatch_16 (by first | assumption | exact zk_eq | exact zk_ne (by first | assumption | exact zk_eq | exact zk_ne (by first | assumption | exact zk_eq | exact zk_ne (by first | assumption | exact zk_eq | exact zk_ne (by first | assumption | exact zk_eq | exact zk_ne (by first | assumption | exact zk_eq) (by first | decide | omega)) (by first | decide | omega)) (by first | decide | omega)) (by first | decide | omega)) (by first | decide | omega)) (by rfl) (by rfl) (by rfl) (by exact Nat.le_of_ble_eq_true rfl) rfl (by exact ⟨Nat.le_of_ble_eq_true rfl, Nat.le_of_ble_eq_true rfl⟩) (by first | exact ⟨Nat.le_of_ble_eq_true rfl, Nat.le_of_ble_eq_true rfl⟩ | (simp only [zrm]; omega)) (fun _ _ h => z_xno h) (fun r w6 hq => ?_)
  obtain ⟨rfl, g7, g8⟩ := hq
  have b05 := g7.1
  obtain ⟨md5, rb5, e5, -⟩ := id g7.2.2.2.1
  rw [List.length_map] at e5
  refine z_aload_n C dX2_dispatch_19 rfl ?_
  refine z_getf C zf_X2_19 dX2_dispatch_20 (by first | assumption | exact zk_eq | exact zk_ne (by first | assumption | exact zk_eq | exact zk_ne (by first | assumption | exact zk_eq | exact zk_ne (by first | assumption | exact zk_eq | exact zk_ne (by first | assumption | exact zk_eq | exact zk_ne (by first | assumption | exact zk_eq) (by first | decide | omega)) (by first | decide | omega)) (by first | decide | omega)) (by first | decide | omega)) (by first | decide | omega)) (by rfl) ?_
  refine z_callV C zm_Jx4a65c_size_8abf5 zl_X2_67 (c_size hl e5) dX2_dispatch_23 (by first | assumption | exact zk_eq | exact zk_ne (by first | assumption | exact zk_eq | exact zk_ne (by first | assumption | exact zk_eq | exact zk_ne (by first | assumption | exact zk_eq | exact zk_ne (by first | assumption | exact zk_eq | exact zk_ne (by first | assumption | exact zk_eq) (by first | decide | omega)) (by first | decide | omega)) (by first | decide | omega)) (by first | decide | omega)) (by first | decide | omega)) (by rfl) (by rfl) (by rfl) (by exact Nat.le_of_ble_eq_true rfl) rfl (by exact ⟨Nat.le_of_ble_eq_true rfl, Nat.le_of_ble_eq_true rfl⟩) (by first | exact ⟨Nat.le_of_ble_eq_true rfl, Nat.le_of_ble_eq_true rfl⟩ | (simp only [zrm]; omega)) (fun _ _ h => z_xno h) (fun r w1 hq => ?_)
  obtain ⟨rfl, rfl⟩ := hq
  refine z_iret C hret dX2_dispatch_26 (by first | exact Nat.le_of_ble_eq_true rfl | omega) (by first | exact Nat.le_of_ble_eq_true rfl | omega) ?_
  exact ZO.fin hD ⟨ad, _, _, _, _, rfl, g7, m7, hm7, hPP.2.trans hm8, pab_lt (hPP.1.trans t1) hlt⟩ (zFh.tr (zFh.tr (zFh.tr (zMt.kp (z := z) g2) g4) g6) g8)
end ZH12
