/-! The law's cases 9 to 17 -/
section ZCASE52
variable {p : Program} {l : Launch} {e : Env} {s : State} {m : MethodId} {below : List Frame} {meth : Method} {c : Code} {Q : State → Prop}
variable {z : zT} {w : zW} {a0 b0 ao b L9 n cells slots : Nat} {xs : Nat → Int32}
theorem lc_dispatch (hl : l.stackTraces = false) (C : zC z p l s m #[.ref b] meth c cL_law RL 7) (hX : va_X b L9 xs s s.heap) (hbl : b < s.heap.size) (hbA : ¬ zA z b) (hL9 : L9 ≤ 2048) (hi : zLI z a0 b0 ao n w) (hn : 4 * n + 4 ≤ L9) (hc : cells + 120 ≤ 601024) (hs : slots + 7000 ≤ 7293034)
    (next : ∀ (w1 : zW) (x5 x6 : Option Value), zLI z a0 b0 ao (n + 1) w1 → ZJ z p l e room_1 s m #[.ref b] below meth c Q (cells + 120) (slots + 7000) 1543 [some (.ref b), some (.ref a0), some (.ref b0), some (.ref ao), some (.int (nI (4 * n))), x5, x6] [] w1) :
    ZJ z p l e room_1 s m #[.ref b] below meth c Q cells slots 806 [some (.ref b), some (.ref a0), some (.ref b0), some (.ref ao), some (.int (nI (4 * n))), none, none] [] w := by
  obtain ⟨S, M, f0, hSR, hH, hM, h40⟩ := hi
  have hn6 : n ≤ 600 := by omega
  obtain ⟨c9, F0, F1, F3, F4, F5, F6, F7⟩ := hSR.fac hn6
  have hag := agr_dispatch hSR hn6
  obtain ⟨fs0, h0⟩ := hH.rcv
  refine z_aload_n C dL_law_806 rfl ?_
  refine z_callV C zm_X2_dispatch zl_L_123 (o_dispatch hl hH (fun q hq => (F7 q hq).2.2)) dL_law_807 h0 (by rfl) (by rfl) (by rfl) (by exact Nat.le_of_ble_eq_true rfl) rfl (by exact ⟨Nat.le_of_ble_eq_true rfl, Nat.le_of_ble_eq_true rfl⟩) ⟨hc, hs⟩ (fun E w1 hx => ?_) (fun r w1 hq => ?_)
  · exact absurd hx.1 (fun q => by cases q)
  obtain ⟨v, d1, rfl, d2, d3⟩ := hq
  obtain ⟨a1, a2, a3⟩ := hag.resolve_right (fun ⟨_, _, _, q, _⟩ => absurd q List.not_mem_nil)
  have hM1 := hM.kp (w1 := w1) (fun j j1 j2 => d3 j (by omega) (by omega))
  have hv := Sum.inr.inj (d1.symm.trans a1)
  obtain ⟨fs2, m20⟩ := hM1.rcv
  refine z_aload_n C dL_law_810 rfl ?_
  refine z_callV C zm_X3_dispatch zl_L_126 (q_dispatch hl hM1 F0 F1 F3 F5) dL_law_811 m20 (by rfl) (by rfl) (by rfl) (by exact Nat.le_of_ble_eq_true rfl) rfl (by exact ⟨Nat.le_of_ble_eq_true rfl, Nat.le_of_ble_eq_true rfl⟩) ⟨hc, hs⟩ (fun _ _ h => z_xno h) (fun r w2 hq => ?_)
  obtain ⟨rfl, g2, g3⟩ := hq
  refine z_icmp_eq C 1543 dL_law_814 (by decide) (fun c1 => ?_) (fun c1 => ?_)
  · exact next _ _ _ (zLI.mk2 a3 (d2.up (by omega)) g2 ((d3 40 (by decide) (by decide)).trans h40) g3)
  · exact absurd hv c1
theorem lc_setHours (hl : l.stackTraces = false) (C : zC z p l s m #[.ref b] meth c cL_law RL 7) (hX : va_X b L9 xs s s.heap) (hbl : b < s.heap.size) (hbA : ¬ zA z b) (hL9 : L9 ≤ 2048) (hi : zLI z a0 b0 ao n w) (hn : 4 * n + 4 ≤ L9) (hc : cells + 120 ≤ 601024) (hs : slots + 7000 ≤ 7293034)
    (next : ∀ (w1 : zW) (x5 x6 : Option Value), zLI z a0 b0 ao (n + 1) w1 → ZJ z p l e room_1 s m #[.ref b] below meth c Q (cells + 120) (slots + 7000) 1543 [some (.ref b), some (.ref a0), some (.ref b0), some (.ref ao), some (.int (nI (4 * n))), x5, x6] [] w1) :
    ZJ z p l e room_1 s m #[.ref b] below meth c Q cells slots 819 [some (.ref b), some (.ref a0), some (.ref b0), some (.ref ao), some (.int (nI (4 * n))), none, none] [] w := by
  obtain ⟨S, M, f0, hSR, hH, hM, h40⟩ := hi
  have hn6 : n ≤ 600 := by omega
  obtain ⟨c9, F0, F1, F3, F4, F5, F6, F7⟩ := hSR.fac hn6
  refine z_aload_n C dL_law_819 rfl ?_
  refine z_aload_n C dL_law_820 rfl ?_
  refine z_iload C dL_law_821 rfl ?_
  refine z_iconst C (1) dL_law_823 (by decide) ?_
  refine z_iadd C dL_law_824 ?_
  refine z_sld C hX hbl hbA hL9 dL_law_825 (by first | exact nI_1 _ | exact nI_add _ 2 | exact nI_add _ 3) (by omega) ?_
  refine z_aload_n C dL_law_826 rfl ?_
  have hag := agr_setHours hSR (xs (4 * n + 1))
  refine z_callSH C zh_setHours zl_L_127 (k_setHours hl hH h40 (xs (4 * n + 1))) dL_law_827 (by rfl) (by rfl) (by exact Nat.le_of_ble_eq_true rfl) rfl (by exact ⟨Nat.le_of_ble_eq_true rfl, Nat.le_of_ble_eq_true rfl⟩) ⟨hc, hs⟩ (fun r w1 hq => ?_)
  obtain ⟨S1, cd, f1, rfl, e1, e2, e3, e4, e5, e6⟩ := hq.agr hag (by decide +kernel) (by decide +kernel) h40
  have hM1 := hM.kp (w1 := w1) (fun j j1 j2 => e6 j (by omega) (by omega) (by omega))
  obtain ⟨fs2, m20⟩ := hM1.rcv
  clear hq
  refine z_istore C (L1 := [_, _, _, _, _, _, _]) dL_law_830 (Nat.le_of_ble_eq_true rfl) rfl ?_
  refine z_aload_n C dL_law_832 rfl ?_
  refine z_aload_n C dL_law_833 rfl ?_
  refine z_iload C dL_law_834 rfl ?_
  refine z_iconst C (1) dL_law_836 (by decide) ?_
  refine z_iadd C dL_law_837 ?_
  refine z_sld C hX hbl hbA hL9 dL_law_838 (by first | exact nI_1 _ | exact nI_add _ 2 | exact nI_add _ 3) (by omega) ?_
  refine z_callV C zm_X3_setHours zl_L_129 (q_setHours hl hM1 (xs (4 * n + 1))) dL_law_839 m20 (by rfl) (by rfl) (by rfl) (by exact Nat.le_of_ble_eq_true rfl) rfl (by exact ⟨Nat.le_of_ble_eq_true rfl, Nat.le_of_ble_eq_true rfl⟩) ⟨hc, hs⟩ (fun _ _ h => z_xno h) (fun r w2 hq => ?_)
  obtain ⟨rfl, g2, g3⟩ := hq
  obtain ⟨fs3, m21⟩ := g2.rcv
  refine z_istore C (L1 := [_, _, _, _, _, _, _]) dL_law_842 (Nat.le_of_ble_eq_true rfl) rfl ?_
  refine z_aload_n C dL_law_844 rfl ?_
  refine z_callV C zm_X3_thrown zl_L_93 (q_thrown hl g2) dL_law_845 m21 (by rfl) (by rfl) (by rfl) (by exact Nat.le_of_ble_eq_true rfl) rfl (by exact ⟨Nat.le_of_ble_eq_true rfl, Nat.le_of_ble_eq_true rfl⟩) ⟨hc, hs⟩ (fun _ _ h => z_xno h) (fun r w3 hq => ?_)
  obtain ⟨rfl, rfl⟩ := hq
  rw [e1]
  have h41 := (g3 40 (by decide)).trans e4
  have hnx := zLI.mk2 e2 (e3.up (by omega)) g2 e4 g3
  refine z_iload C dL_law_848 rfl ?_
  refine z_icmp_eq C 855 dL_law_850 (by decide) (fun c1 => ?_) (fun c1 => ?_)
  · refine z_iload C dL_law_855 rfl ?_
    refine z_if_ne C 872 dL_law_857 (by decide) (fun c2 => ?_) (fun c2 => ?_)
    · refine z_goto C 1543 dL_law_872 (by decide) ?_
      exact next _ _ _ hnx
    · refine z_aload_n C dL_law_860 rfl ?_
      refine z_iconst C (0) dL_law_861 (by decide) ?_
      refine z_lald C dL_law_862 (by first | assumption | exact zk_eq | exact zk_ne (by first | assumption | exact zk_eq | exact zk_ne (by first | assumption | exact zk_eq | exact zk_ne (by first | assumption | exact zk_eq | exact zk_ne (by first | assumption | exact zk_eq | exact zk_ne (by first | assumption | exact zk_eq) (by first | decide | omega)) (by first | decide | omega)) (by first | decide | omega)) (by first | decide | omega)) (by first | decide | omega)) (by first | rfl | assumption) (by first | assumption | omega | decide) (by first | decide | omega) ?_
      rw [e5 c2]
      refine z_iload C dL_law_863 rfl ?_
      refine z_i2l C dL_law_865 ?_
      refine z_lcmp C dL_law_866 ?_
      rw [lvI, lg_cmp_self]
      refine z_if_eq C 872 dL_law_867 (by decide) (fun c4 => ?_) (fun c4 => ?_)
      · refine z_goto C 1543 dL_law_872 (by decide) ?_
        exact next _ _ _ hnx
      · exact absurd rfl c4
  · exact absurd rfl c1
theorem lc_leave (hl : l.stackTraces = false) (C : zC z p l s m #[.ref b] meth c cL_law RL 7) (hX : va_X b L9 xs s s.heap) (hbl : b < s.heap.size) (hbA : ¬ zA z b) (hL9 : L9 ≤ 2048) (hi : zLI z a0 b0 ao n w) (hn : 4 * n + 4 ≤ L9) (hc : cells + 120 ≤ 601024) (hs : slots + 7000 ≤ 7293034)
    (next : ∀ (w1 : zW) (x5 x6 : Option Value), zLI z a0 b0 ao (n + 1) w1 → ZJ z p l e room_1 s m #[.ref b] below meth c Q (cells + 120) (slots + 7000) 1543 [some (.ref b), some (.ref a0), some (.ref b0), some (.ref ao), some (.int (nI (4 * n))), x5, x6] [] w1) :
    ZJ z p l e room_1 s m #[.ref b] below meth c Q cells slots 875 [some (.ref b), some (.ref a0), some (.ref b0), some (.ref ao), some (.int (nI (4 * n))), none, none] [] w := by
  obtain ⟨S, M, f0, hSR, hH, hM, h40⟩ := hi
  have hn6 : n ≤ 600 := by omega
  obtain ⟨c9, F0, F1, F3, F4, F5, F6, F7⟩ := hSR.fac hn6
  refine z_aload_n C dL_law_875 rfl ?_
  refine z_aload_n C dL_law_876 rfl ?_
  refine z_iload C dL_law_877 rfl ?_
  refine z_iconst C (1) dL_law_879 (by decide) ?_
  refine z_iadd C dL_law_880 ?_
  refine z_sld C hX hbl hbA hL9 dL_law_881 (by first | exact nI_1 _ | exact nI_add _ 2 | exact nI_add _ 3) (by omega) ?_
  refine z_aload_n C dL_law_882 rfl ?_
  refine z_iload C dL_law_883 rfl ?_
  refine z_iconst C (2) dL_law_885 (by decide) ?_
  refine z_iadd C dL_law_886 ?_
  refine z_sld C hX hbl hbA hL9 dL_law_887 (by first | exact nI_1 _ | exact nI_add _ 2 | exact nI_add _ 3) (by omega) ?_
  refine z_aload_n C dL_law_888 rfl ?_
  have hag := agr_leave hSR hn6 (xs (4 * n + 1)) (xs (4 * n + 2))
  refine z_callSH C zh_leave zl_L_130 (k_leave hl hH h40 (xs (4 * n + 1)) (xs (4 * n + 2))) dL_law_889 (by rfl) (by rfl) (by exact Nat.le_of_ble_eq_true rfl) rfl (by exact ⟨Nat.le_of_ble_eq_true rfl, Nat.le_of_ble_eq_true rfl⟩) ⟨hc, hs⟩ (fun r w1 hq => ?_)
  obtain ⟨S1, cd, f1, rfl, e1, e2, e3, e4, e5, e6⟩ := hq.agr hag (by decide +kernel) (by decide +kernel) h40
  have hM1 := hM.kp (w1 := w1) (fun j j1 j2 => e6 j (by omega) (by omega) (by omega))
  obtain ⟨fs2, m20⟩ := hM1.rcv
  clear hq
  refine z_istore C (L1 := [_, _, _, _, _, _, _]) dL_law_892 (Nat.le_of_ble_eq_true rfl) rfl ?_
  refine z_aload_n C dL_law_894 rfl ?_
  refine z_aload_n C dL_law_895 rfl ?_
  refine z_iload C dL_law_896 rfl ?_
  refine z_iconst C (1) dL_law_898 (by decide) ?_
  refine z_iadd C dL_law_899 ?_
  refine z_sld C hX hbl hbA hL9 dL_law_900 (by first | exact nI_1 _ | exact nI_add _ 2 | exact nI_add _ 3) (by omega) ?_
  refine z_aload_n C dL_law_901 rfl ?_
  refine z_iload C dL_law_902 rfl ?_
  refine z_iconst C (2) dL_law_904 (by decide) ?_
  refine z_iadd C dL_law_905 ?_
  refine z_sld C hX hbl hbA hL9 dL_law_906 (by first | exact nI_1 _ | exact nI_add _ 2 | exact nI_add _ 3) (by omega) ?_
  refine z_callV C zm_X3_leave zl_L_132 (q_leave hl hM1 (xs (4 * n + 1)) (xs (4 * n + 2)) (fun k hk => (F6 _ k hk).2.2.1)) dL_law_907 m20 (by rfl) (by rfl) (by rfl) (by exact Nat.le_of_ble_eq_true rfl) rfl (by exact ⟨Nat.le_of_ble_eq_true rfl, Nat.le_of_ble_eq_true rfl⟩) ⟨hc, hs⟩ (fun _ _ h => z_xno h) (fun r w2 hq => ?_)
  obtain ⟨rfl, g2, g3⟩ := hq
  obtain ⟨fs3, m21⟩ := g2.rcv
  refine z_istore C (L1 := [_, _, _, _, _, _, _]) dL_law_910 (Nat.le_of_ble_eq_true rfl) rfl ?_
  refine z_aload_n C dL_law_912 rfl ?_
  refine z_callV C zm_X3_thrown zl_L_93 (q_thrown hl g2) dL_law_913 m21 (by rfl) (by rfl) (by rfl) (by exact Nat.le_of_ble_eq_true rfl) rfl (by exact ⟨Nat.le_of_ble_eq_true rfl, Nat.le_of_ble_eq_true rfl⟩) ⟨hc, hs⟩ (fun _ _ h => z_xno h) (fun r w3 hq => ?_)
  obtain ⟨rfl, rfl⟩ := hq
  rw [e1]
  have h41 := (g3 40 (by decide)).trans e4
  have hnx := zLI.mk2 e2 (e3.up (by omega)) g2 e4 g3
  refine z_iload C dL_law_916 rfl ?_
  refine z_icmp_eq C 923 dL_law_918 (by decide) (fun c1 => ?_) (fun c1 => ?_)
  · refine z_iload C dL_law_923 rfl ?_
    refine z_if_ne C 940 dL_law_925 (by decide) (fun c2 => ?_) (fun c2 => ?_)
    · refine z_goto C 1543 dL_law_940 (by decide) ?_
      exact next _ _ _ hnx
    · refine z_aload_n C dL_law_928 rfl ?_
      refine z_iconst C (0) dL_law_929 (by decide) ?_
      refine z_lald C dL_law_930 (by first | assumption | exact zk_eq | exact zk_ne (by first | assumption | exact zk_eq | exact zk_ne (by first | assumption | exact zk_eq | exact zk_ne (by first | assumption | exact zk_eq | exact zk_ne (by first | assumption | exact zk_eq | exact zk_ne (by first | assumption | exact zk_eq) (by first | decide | omega)) (by first | decide | omega)) (by first | decide | omega)) (by first | decide | omega)) (by first | decide | omega)) (by first | rfl | assumption) (by first | assumption | omega | decide) (by first | decide | omega) ?_
      rw [e5 c2]
      refine z_iload C dL_law_931 rfl ?_
      refine z_i2l C dL_law_933 ?_
      refine z_lcmp C dL_law_934 ?_
      rw [lvI, lg_cmp_self]
      refine z_if_eq C 940 dL_law_935 (by decide) (fun c4 => ?_) (fun c4 => ?_)
      · refine z_goto C 1543 dL_law_940 (by decide) ?_
        exact next _ _ _ hnx
      · exact absurd rfl c4
  · exact absurd rfl c1
theorem lc_replace (hl : l.stackTraces = false) (C : zC z p l s m #[.ref b] meth c cL_law RL 7) (hX : va_X b L9 xs s s.heap) (hbl : b < s.heap.size) (hbA : ¬ zA z b) (hL9 : L9 ≤ 2048) (hi : zLI z a0 b0 ao n w) (hn : 4 * n + 4 ≤ L9) (hc : cells + 120 ≤ 601024) (hs : slots + 7000 ≤ 7293034)
    (next : ∀ (w1 : zW) (x5 x6 : Option Value), zLI z a0 b0 ao (n + 1) w1 → ZJ z p l e room_1 s m #[.ref b] below meth c Q (cells + 120) (slots + 7000) 1543 [some (.ref b), some (.ref a0), some (.ref b0), some (.ref ao), some (.int (nI (4 * n))), x5, x6] [] w1) :
    ZJ z p l e room_1 s m #[.ref b] below meth c Q cells slots 943 [some (.ref b), some (.ref a0), some (.ref b0), some (.ref ao), some (.int (nI (4 * n))), none, none] [] w := by
  obtain ⟨S, M, f0, hSR, hH, hM, h40⟩ := hi
  have hn6 : n ≤ 600 := by omega
  obtain ⟨c9, F0, F1, F3, F4, F5, F6, F7⟩ := hSR.fac hn6
  refine z_aload_n C dL_law_943 rfl ?_
  refine z_aload_n C dL_law_944 rfl ?_
  refine z_iload C dL_law_945 rfl ?_
  refine z_iconst C (1) dL_law_947 (by decide) ?_
  refine z_iadd C dL_law_948 ?_
  refine z_sld C hX hbl hbA hL9 dL_law_949 (by first | exact nI_1 _ | exact nI_add _ 2 | exact nI_add _ 3) (by omega) ?_
  refine z_aload_n C dL_law_950 rfl ?_
  have hag := agr_replace hSR hn6 (xs (4 * n + 1))
  refine z_callSH C zh_replace zl_L_133 (k_replace hl hH h40 (xs (4 * n + 1))) dL_law_951 (by rfl) (by rfl) (by exact Nat.le_of_ble_eq_true rfl) rfl (by exact ⟨Nat.le_of_ble_eq_true rfl, Nat.le_of_ble_eq_true rfl⟩) ⟨hc, hs⟩ (fun r w1 hq => ?_)
  obtain ⟨S1, cd, f1, rfl, e1, e2, e3, e4, e5, e6⟩ := hq.agr hag (by decide +kernel) (by decide +kernel) h40
  have hM1 := hM.kp (w1 := w1) (fun j j1 j2 => e6 j (by omega) (by omega) (by omega))
  obtain ⟨fs2, m20⟩ := hM1.rcv
  clear hq
  refine z_istore C (L1 := [_, _, _, _, _, _, _]) dL_law_954 (Nat.le_of_ble_eq_true rfl) rfl ?_
  refine z_aload_n C dL_law_956 rfl ?_
  refine z_aload_n C dL_law_957 rfl ?_
  refine z_iload C dL_law_958 rfl ?_
  refine z_iconst C (1) dL_law_960 (by decide) ?_
  refine z_iadd C dL_law_961 ?_
  refine z_sld C hX hbl hbA hL9 dL_law_962 (by first | exact nI_1 _ | exact nI_add _ 2 | exact nI_add _ 3) (by omega) ?_
  refine z_callV C zm_X3_replace zl_L_135 (q_replace hl hM1 (xs (4 * n + 1)) F0 F1 F5) dL_law_963 m20 (by rfl) (by rfl) (by rfl) (by exact Nat.le_of_ble_eq_true rfl) rfl (by exact ⟨Nat.le_of_ble_eq_true rfl, Nat.le_of_ble_eq_true rfl⟩) ⟨hc, hs⟩ (fun _ _ h => z_xno h) (fun r w2 hq => ?_)
  obtain ⟨rfl, g2, g3⟩ := hq
  obtain ⟨fs3, m21⟩ := g2.rcv
  refine z_istore C (L1 := [_, _, _, _, _, _, _]) dL_law_966 (Nat.le_of_ble_eq_true rfl) rfl ?_
  refine z_aload_n C dL_law_968 rfl ?_
  refine z_callV C zm_X3_thrown zl_L_93 (q_thrown hl g2) dL_law_969 m21 (by rfl) (by rfl) (by rfl) (by exact Nat.le_of_ble_eq_true rfl) rfl (by exact ⟨Nat.le_of_ble_eq_true rfl, Nat.le_of_ble_eq_true rfl⟩) ⟨hc, hs⟩ (fun _ _ h => z_xno h) (fun r w3 hq => ?_)
  obtain ⟨rfl, rfl⟩ := hq
  rw [e1]
  have h41 := (g3 40 (by decide)).trans e4
  have hnx := zLI.mk2 e2 (e3.up (by omega)) g2 e4 g3
  refine z_iload C dL_law_972 rfl ?_
  refine z_icmp_eq C 979 dL_law_974 (by decide) (fun c1 => ?_) (fun c1 => ?_)
  · refine z_iload C dL_law_979 rfl ?_
    refine z_if_ne C 996 dL_law_981 (by decide) (fun c2 => ?_) (fun c2 => ?_)
    · refine z_goto C 1543 dL_law_996 (by decide) ?_
      exact next _ _ _ hnx
    · refine z_aload_n C dL_law_984 rfl ?_
      refine z_iconst C (0) dL_law_985 (by decide) ?_
      refine z_lald C dL_law_986 (by first | assumption | exact zk_eq | exact zk_ne (by first | assumption | exact zk_eq | exact zk_ne (by first | assumption | exact zk_eq | exact zk_ne (by first | assumption | exact zk_eq | exact zk_ne (by first | assumption | exact zk_eq | exact zk_ne (by first | assumption | exact zk_eq) (by first | decide | omega)) (by first | decide | omega)) (by first | decide | omega)) (by first | decide | omega)) (by first | decide | omega)) (by first | rfl | assumption) (by first | assumption | omega | decide) (by first | decide | omega) ?_
      rw [e5 c2]
      refine z_iload C dL_law_987 rfl ?_
      refine z_i2l C dL_law_989 ?_
      refine z_lcmp C dL_law_990 ?_
      rw [lvI, lg_cmp_self]
      refine z_if_eq C 996 dL_law_991 (by decide) (fun c4 => ?_) (fun c4 => ?_)
      · refine z_goto C 1543 dL_law_996 (by decide) ?_
        exact next _ _ _ hnx
      · exact absurd rfl c4
  · exact absurd rfl c1
theorem lc_endShift (hl : l.stackTraces = false) (C : zC z p l s m #[.ref b] meth c cL_law RL 7) (hX : va_X b L9 xs s s.heap) (hbl : b < s.heap.size) (hbA : ¬ zA z b) (hL9 : L9 ≤ 2048) (hi : zLI z a0 b0 ao n w) (hn : 4 * n + 4 ≤ L9) (hc : cells + 120 ≤ 601024) (hs : slots + 7000 ≤ 7293034)
    (next : ∀ (w1 : zW) (x5 x6 : Option Value), zLI z a0 b0 ao (n + 1) w1 → ZJ z p l e room_1 s m #[.ref b] below meth c Q (cells + 120) (slots + 7000) 1543 [some (.ref b), some (.ref a0), some (.ref b0), some (.ref ao), some (.int (nI (4 * n))), x5, x6] [] w1) :
    ZJ z p l e room_1 s m #[.ref b] below meth c Q cells slots 999 [some (.ref b), some (.ref a0), some (.ref b0), some (.ref ao), some (.int (nI (4 * n))), none, none] [] w := by
  obtain ⟨S, M, f0, hSR, hH, hM, h40⟩ := hi
  have hn6 : n ≤ 600 := by omega
  obtain ⟨c9, F0, F1, F3, F4, F5, F6, F7⟩ := hSR.fac hn6
  have hag := agr_endShift hSR hn6
  obtain ⟨fs0, h0⟩ := hH.rcv
  refine z_aload_n C dL_law_999 rfl ?_
  refine z_callV C zm_X2_endShift zl_L_136 (o_endShift hl hH) dL_law_1000 h0 (by rfl) (by rfl) (by rfl) (by exact Nat.le_of_ble_eq_true rfl) rfl (by exact ⟨Nat.le_of_ble_eq_true rfl, Nat.le_of_ble_eq_true rfl⟩) ⟨hc, hs⟩ (fun E w1 hx => ?_) (fun r w1 hq => ?_)
  · exact absurd hx.1 (fun q => by cases q)
  obtain ⟨v, d1, rfl, d2, d3⟩ := hq
  obtain ⟨a1, a2, a3⟩ := hag.resolve_right (fun ⟨_, _, _, q, _⟩ => absurd q List.not_mem_nil)
  have hM1 := hM.kp (w1 := w1) (fun j j1 j2 => d3 j (by omega) (by omega))
  have hv := Sum.inr.inj (d1.symm.trans a1)
  obtain ⟨fs2, m20⟩ := hM1.rcv
  refine z_aload_n C dL_law_1003 rfl ?_
  refine z_callV C zm_X3_endShift zl_L_139 (q_endShift hl hM1) dL_law_1004 m20 (by rfl) (by rfl) (by rfl) (by exact Nat.le_of_ble_eq_true rfl) rfl (by exact ⟨Nat.le_of_ble_eq_true rfl, Nat.le_of_ble_eq_true rfl⟩) ⟨hc, hs⟩ (fun _ _ h => z_xno h) (fun r w2 hq => ?_)
  obtain ⟨rfl, g2, g3⟩ := hq
  refine z_icmp_eq C 1543 dL_law_1007 (by decide) (fun c1 => ?_) (fun c1 => ?_)
  · exact next _ _ _ (zLI.mk2 a3 (d2.up (by omega)) g2 ((d3 40 (by decide) (by decide)).trans h40) g3)
  · exact absurd hv c1
theorem lc_endPeriod (hl : l.stackTraces = false) (C : zC z p l s m #[.ref b] meth c cL_law RL 7) (hX : va_X b L9 xs s s.heap) (hbl : b < s.heap.size) (hbA : ¬ zA z b) (hL9 : L9 ≤ 2048) (hi : zLI z a0 b0 ao n w) (hn : 4 * n + 4 ≤ L9) (hc : cells + 120 ≤ 601024) (hs : slots + 7000 ≤ 7293034)
    (next : ∀ (w1 : zW) (x5 x6 : Option Value), zLI z a0 b0 ao (n + 1) w1 → ZJ z p l e room_1 s m #[.ref b] below meth c Q (cells + 120) (slots + 7000) 1543 [some (.ref b), some (.ref a0), some (.ref b0), some (.ref ao), some (.int (nI (4 * n))), x5, x6] [] w1) :
    ZJ z p l e room_1 s m #[.ref b] below meth c Q cells slots 1012 [some (.ref b), some (.ref a0), some (.ref b0), some (.ref ao), some (.int (nI (4 * n))), none, none] [] w := by
  obtain ⟨S, M, f0, hSR, hH, hM, h40⟩ := hi
  have hn6 : n ≤ 600 := by omega
  obtain ⟨c9, F0, F1, F3, F4, F5, F6, F7⟩ := hSR.fac hn6
  refine z_aload_n C dL_law_1012 rfl ?_
  refine z_aload_n C dL_law_1013 rfl ?_
  have hag := agr_endPeriod hSR hn6
  refine z_callSH C zh_endPeriod zl_L_140 (k_endPeriod hl hH h40) dL_law_1014 (by rfl) (by rfl) (by exact Nat.le_of_ble_eq_true rfl) rfl (by exact ⟨Nat.le_of_ble_eq_true rfl, Nat.le_of_ble_eq_true rfl⟩) ⟨hc, hs⟩ (fun r w1 hq => ?_)
  obtain ⟨S1, cd, f1, rfl, e1, e2, e3, e4, e5, e6⟩ := hq.agr hag (by decide +kernel) (by decide +kernel) h40
  have hM1 := hM.kp (w1 := w1) (fun j j1 j2 => e6 j (by omega) (by omega) (by omega))
  obtain ⟨fs2, m20⟩ := hM1.rcv
  clear hq
  refine z_istore C (L1 := [_, _, _, _, _, _, _]) dL_law_1017 (Nat.le_of_ble_eq_true rfl) rfl ?_
  refine z_aload_n C dL_law_1019 rfl ?_
  refine z_callV C zm_X3_endPeriod zl_L_143 (q_endPeriod hl hM1 F5) dL_law_1020 m20 (by rfl) (by rfl) (by rfl) (by exact Nat.le_of_ble_eq_true rfl) rfl (by exact ⟨Nat.le_of_ble_eq_true rfl, Nat.le_of_ble_eq_true rfl⟩) ⟨hc, hs⟩ (fun _ _ h => z_xno h) (fun r w2 hq => ?_)
  obtain ⟨rfl, g2, g3⟩ := hq
  obtain ⟨fs3, m21⟩ := g2.rcv
  refine z_istore C (L1 := [_, _, _, _, _, _, _]) dL_law_1023 (Nat.le_of_ble_eq_true rfl) rfl ?_
  refine z_aload_n C dL_law_1025 rfl ?_
  refine z_callV C zm_X3_thrown zl_L_93 (q_thrown hl g2) dL_law_1026 m21 (by rfl) (by rfl) (by rfl) (by exact Nat.le_of_ble_eq_true rfl) rfl (by exact ⟨Nat.le_of_ble_eq_true rfl, Nat.le_of_ble_eq_true rfl⟩) ⟨hc, hs⟩ (fun _ _ h => z_xno h) (fun r w3 hq => ?_)
  obtain ⟨rfl, rfl⟩ := hq
  rw [e1]
  have h41 := (g3 40 (by decide)).trans e4
  have hnx := zLI.mk2 e2 (e3.up (by omega)) g2 e4 g3
  refine z_iload C dL_law_1029 rfl ?_
  refine z_icmp_eq C 1036 dL_law_1031 (by decide) (fun c1 => ?_) (fun c1 => ?_)
  · refine z_iload C dL_law_1036 rfl ?_
    refine z_if_ne C 1053 dL_law_1038 (by decide) (fun c2 => ?_) (fun c2 => ?_)
    · refine z_goto C 1543 dL_law_1053 (by decide) ?_
      exact next _ _ _ hnx
    · refine z_aload_n C dL_law_1041 rfl ?_
      refine z_iconst C (0) dL_law_1042 (by decide) ?_
      refine z_lald C dL_law_1043 (by first | assumption | exact zk_eq | exact zk_ne (by first | assumption | exact zk_eq | exact zk_ne (by first | assumption | exact zk_eq | exact zk_ne (by first | assumption | exact zk_eq | exact zk_ne (by first | assumption | exact zk_eq | exact zk_ne (by first | assumption | exact zk_eq) (by first | decide | omega)) (by first | decide | omega)) (by first | decide | omega)) (by first | decide | omega)) (by first | decide | omega)) (by first | rfl | assumption) (by first | assumption | omega | decide) (by first | decide | omega) ?_
      rw [e5 c2]
      refine z_iload C dL_law_1044 rfl ?_
      refine z_i2l C dL_law_1046 ?_
      refine z_lcmp C dL_law_1047 ?_
      rw [lvI, lg_cmp_self]
      refine z_if_eq C 1053 dL_law_1048 (by decide) (fun c4 => ?_) (fun c4 => ?_)
      · refine z_goto C 1543 dL_law_1053 (by decide) ?_
        exact next _ _ _ hnx
      · exact absurd rfl c4
  · exact absurd rfl c1
theorem lc_workers (hl : l.stackTraces = false) (C : zC z p l s m #[.ref b] meth c cL_law RL 7) (hX : va_X b L9 xs s s.heap) (hbl : b < s.heap.size) (hbA : ¬ zA z b) (hL9 : L9 ≤ 2048) (hi : zLI z a0 b0 ao n w) (hn : 4 * n + 4 ≤ L9) (hc : cells + 120 ≤ 601024) (hs : slots + 7000 ≤ 7293034)
    (next : ∀ (w1 : zW) (x5 x6 : Option Value), zLI z a0 b0 ao (n + 1) w1 → ZJ z p l e room_1 s m #[.ref b] below meth c Q (cells + 120) (slots + 7000) 1543 [some (.ref b), some (.ref a0), some (.ref b0), some (.ref ao), some (.int (nI (4 * n))), x5, x6] [] w1) :
    ZJ z p l e room_1 s m #[.ref b] below meth c Q cells slots 1056 [some (.ref b), some (.ref a0), some (.ref b0), some (.ref ao), some (.int (nI (4 * n))), none, none] [] w := by
  obtain ⟨S, M, f0, hSR, hH, hM, h40⟩ := hi
  have hn6 : n ≤ 600 := by omega
  obtain ⟨c9, F0, F1, F3, F4, F5, F6, F7⟩ := hSR.fac hn6
  have hag := agr_workers hSR
  obtain ⟨fs0, h0⟩ := hH.rcv
  refine z_aload_n C dL_law_1056 rfl ?_
  refine z_callV C zm_X2_workers zl_L_144 (o_workers hl hH) dL_law_1057 h0 (by rfl) (by rfl) (by rfl) (by exact Nat.le_of_ble_eq_true rfl) rfl (by exact ⟨Nat.le_of_ble_eq_true rfl, Nat.le_of_ble_eq_true rfl⟩) ⟨hc, hs⟩ (fun E w1 hx => ?_) (fun r w1 hq => ?_)
  · exact absurd hx.1 (fun q => by cases q)
  obtain ⟨v, d1, rfl, d2, d3⟩ := hq
  obtain ⟨a1, a2, a3⟩ := hag.resolve_right (fun ⟨_, _, _, q, _⟩ => absurd q List.not_mem_nil)
  have hM1 := hM.kp (w1 := w1) (fun j j1 j2 => d3 j (by omega) (by omega))
  have hv := Sum.inr.inj (d1.symm.trans a1)
  obtain ⟨fs2, m20⟩ := hM1.rcv
  refine z_aload_n C dL_law_1060 rfl ?_
  refine z_callV C zm_X3_workers zl_L_147 (q_workers hl hM1) dL_law_1061 m20 (by rfl) (by rfl) (by rfl) (by exact Nat.le_of_ble_eq_true rfl) rfl (by exact ⟨Nat.le_of_ble_eq_true rfl, Nat.le_of_ble_eq_true rfl⟩) ⟨hc, hs⟩ (fun _ _ h => z_xno h) (fun r w2 hq => ?_)
  obtain ⟨rfl, g2, g3⟩ := hq
  refine z_icmp_eq C 1543 dL_law_1064 (by decide) (fun c1 => ?_) (fun c1 => ?_)
  · exact next _ _ _ (zLI.mk2 a3 (d2.up (by omega)) g2 ((d3 40 (by decide) (by decide)).trans h40) g3)
  · exact absurd hv c1
theorem lc_boardOf (hl : l.stackTraces = false) (C : zC z p l s m #[.ref b] meth c cL_law RL 7) (hX : va_X b L9 xs s s.heap) (hbl : b < s.heap.size) (hbA : ¬ zA z b) (hL9 : L9 ≤ 2048) (hi : zLI z a0 b0 ao n w) (hn : 4 * n + 4 ≤ L9) (hc : cells + 120 ≤ 601024) (hs : slots + 7000 ≤ 7293034)
    (next : ∀ (w1 : zW) (x5 x6 : Option Value), zLI z a0 b0 ao (n + 1) w1 → ZJ z p l e room_1 s m #[.ref b] below meth c Q (cells + 120) (slots + 7000) 1543 [some (.ref b), some (.ref a0), some (.ref b0), some (.ref ao), some (.int (nI (4 * n))), x5, x6] [] w1) :
    ZJ z p l e room_1 s m #[.ref b] below meth c Q cells slots 1069 [some (.ref b), some (.ref a0), some (.ref b0), some (.ref ao), some (.int (nI (4 * n))), none, none] [] w := by
  obtain ⟨S, M, f0, hSR, hH, hM, h40⟩ := hi
  have hn6 : n ≤ 600 := by omega
  obtain ⟨c9, F0, F1, F3, F4, F5, F6, F7⟩ := hSR.fac hn6
  refine z_aload_n C dL_law_1069 rfl ?_
  refine z_aload_n C dL_law_1070 rfl ?_
  refine z_iload C dL_law_1071 rfl ?_
  refine z_iconst C (1) dL_law_1073 (by decide) ?_
  refine z_iadd C dL_law_1074 ?_
  refine z_sld C hX hbl hbA hL9 dL_law_1075 (by first | exact nI_1 _ | exact nI_add _ 2 | exact nI_add _ 3) (by omega) ?_
  refine z_aload_n C dL_law_1076 rfl ?_
  have hag := agr_boardOf hSR hn6 (xs (4 * n + 1))
  refine z_callSH C zh_boardOf zl_L_148 (k_boardOf hl hH h40 (xs (4 * n + 1))) dL_law_1077 (by rfl) (by rfl) (by exact Nat.le_of_ble_eq_true rfl) rfl (by exact ⟨Nat.le_of_ble_eq_true rfl, Nat.le_of_ble_eq_true rfl⟩) ⟨hc, hs⟩ (fun r w1 hq => ?_)
  obtain ⟨S1, cd, f1, rfl, e1, e2, e3, e4, e5, e6⟩ := hq.agr hag (by decide +kernel) (by decide +kernel) h40
  have hM1 := hM.kp (w1 := w1) (fun j j1 j2 => e6 j (by omega) (by omega) (by omega))
  obtain ⟨fs2, m20⟩ := hM1.rcv
  clear hq
  refine z_istore C (L1 := [_, _, _, _, _, _, _]) dL_law_1080 (Nat.le_of_ble_eq_true rfl) rfl ?_
  refine z_aload_n C dL_law_1082 rfl ?_
  refine z_aload_n C dL_law_1083 rfl ?_
  refine z_iload C dL_law_1084 rfl ?_
  refine z_iconst C (1) dL_law_1086 (by decide) ?_
  refine z_iadd C dL_law_1087 ?_
  refine z_sld C hX hbl hbA hL9 dL_law_1088 (by first | exact nI_1 _ | exact nI_add _ 2 | exact nI_add _ 3) (by omega) ?_
  refine z_callV C zm_X3_boardOf zl_L_150 (q_boardOf hl hM1 (xs (4 * n + 1))) dL_law_1089 m20 (by rfl) (by rfl) (by rfl) (by exact Nat.le_of_ble_eq_true rfl) rfl (by exact ⟨Nat.le_of_ble_eq_true rfl, Nat.le_of_ble_eq_true rfl⟩) ⟨hc, hs⟩ (fun _ _ h => z_xno h) (fun r w2 hq => ?_)
  obtain ⟨rfl, g2, g3⟩ := hq
  obtain ⟨fs3, m21⟩ := g2.rcv
  refine z_istore C (L1 := [_, _, _, _, _, _, _]) dL_law_1092 (Nat.le_of_ble_eq_true rfl) rfl ?_
  refine z_aload_n C dL_law_1094 rfl ?_
  refine z_callV C zm_X3_thrown zl_L_93 (q_thrown hl g2) dL_law_1095 m21 (by rfl) (by rfl) (by rfl) (by exact Nat.le_of_ble_eq_true rfl) rfl (by exact ⟨Nat.le_of_ble_eq_true rfl, Nat.le_of_ble_eq_true rfl⟩) ⟨hc, hs⟩ (fun _ _ h => z_xno h) (fun r w3 hq => ?_)
  obtain ⟨rfl, rfl⟩ := hq
  rw [e1]
  have h41 := (g3 40 (by decide)).trans e4
  have hnx := zLI.mk2 e2 (e3.up (by omega)) g2 e4 g3
  refine z_iload C dL_law_1098 rfl ?_
  refine z_icmp_eq C 1105 dL_law_1100 (by decide) (fun c1 => ?_) (fun c1 => ?_)
  · refine z_iload C dL_law_1105 rfl ?_
    refine z_if_ne C 1122 dL_law_1107 (by decide) (fun c2 => ?_) (fun c2 => ?_)
    · refine z_goto C 1543 dL_law_1122 (by decide) ?_
      exact next _ _ _ hnx
    · refine z_aload_n C dL_law_1110 rfl ?_
      refine z_iconst C (0) dL_law_1111 (by decide) ?_
      refine z_lald C dL_law_1112 (by first | assumption | exact zk_eq | exact zk_ne (by first | assumption | exact zk_eq | exact zk_ne (by first | assumption | exact zk_eq | exact zk_ne (by first | assumption | exact zk_eq | exact zk_ne (by first | assumption | exact zk_eq | exact zk_ne (by first | assumption | exact zk_eq) (by first | decide | omega)) (by first | decide | omega)) (by first | decide | omega)) (by first | decide | omega)) (by first | decide | omega)) (by first | rfl | assumption) (by first | assumption | omega | decide) (by first | decide | omega) ?_
      rw [e5 c2]
      refine z_iload C dL_law_1113 rfl ?_
      refine z_i2l C dL_law_1115 ?_
      refine z_lcmp C dL_law_1116 ?_
      rw [lvI, lg_cmp_self]
      refine z_if_eq C 1122 dL_law_1117 (by decide) (fun c4 => ?_) (fun c4 => ?_)
      · refine z_goto C 1543 dL_law_1122 (by decide) ?_
        exact next _ _ _ hnx
      · exact absurd rfl c4
  · exact absurd rfl c1
theorem lc_rankOf (hl : l.stackTraces = false) (C : zC z p l s m #[.ref b] meth c cL_law RL 7) (hX : va_X b L9 xs s s.heap) (hbl : b < s.heap.size) (hbA : ¬ zA z b) (hL9 : L9 ≤ 2048) (hi : zLI z a0 b0 ao n w) (hn : 4 * n + 4 ≤ L9) (hc : cells + 120 ≤ 601024) (hs : slots + 7000 ≤ 7293034)
    (next : ∀ (w1 : zW) (x5 x6 : Option Value), zLI z a0 b0 ao (n + 1) w1 → ZJ z p l e room_1 s m #[.ref b] below meth c Q (cells + 120) (slots + 7000) 1543 [some (.ref b), some (.ref a0), some (.ref b0), some (.ref ao), some (.int (nI (4 * n))), x5, x6] [] w1) :
    ZJ z p l e room_1 s m #[.ref b] below meth c Q cells slots 1125 [some (.ref b), some (.ref a0), some (.ref b0), some (.ref ao), some (.int (nI (4 * n))), none, none] [] w := by
  obtain ⟨S, M, f0, hSR, hH, hM, h40⟩ := hi
  have hn6 : n ≤ 600 := by omega
  obtain ⟨c9, F0, F1, F3, F4, F5, F6, F7⟩ := hSR.fac hn6
  refine z_aload_n C dL_law_1125 rfl ?_
  refine z_aload_n C dL_law_1126 rfl ?_
  refine z_iload C dL_law_1127 rfl ?_
  refine z_iconst C (1) dL_law_1129 (by decide) ?_
  refine z_iadd C dL_law_1130 ?_
  refine z_sld C hX hbl hbA hL9 dL_law_1131 (by first | exact nI_1 _ | exact nI_add _ 2 | exact nI_add _ 3) (by omega) ?_
  refine z_aload_n C dL_law_1132 rfl ?_
  have hag := agr_rankOf hSR hn6 (xs (4 * n + 1))
  refine z_callSH C zh_rankOf zl_L_151 (k_rankOf hl hH h40 (xs (4 * n + 1))) dL_law_1133 (by rfl) (by rfl) (by exact Nat.le_of_ble_eq_true rfl) rfl (by exact ⟨Nat.le_of_ble_eq_true rfl, Nat.le_of_ble_eq_true rfl⟩) ⟨hc, hs⟩ (fun r w1 hq => ?_)
  obtain ⟨S1, cd, f1, rfl, e1, e2, e3, e4, e5, e6⟩ := hq.agr hag (by decide +kernel) (by decide +kernel) h40
  have hM1 := hM.kp (w1 := w1) (fun j j1 j2 => e6 j (by omega) (by omega) (by omega))
  obtain ⟨fs2, m20⟩ := hM1.rcv
  clear hq
  refine z_istore C (L1 := [_, _, _, _, _, _, _]) dL_law_1136 (Nat.le_of_ble_eq_true rfl) rfl ?_
  refine z_aload_n C dL_law_1138 rfl ?_
  refine z_aload_n C dL_law_1139 rfl ?_
  refine z_iload C dL_law_1140 rfl ?_
  refine z_iconst C (1) dL_law_1142 (by decide) ?_
  refine z_iadd C dL_law_1143 ?_
  refine z_sld C hX hbl hbA hL9 dL_law_1144 (by first | exact nI_1 _ | exact nI_add _ 2 | exact nI_add _ 3) (by omega) ?_
  refine z_callV C zm_X3_rankOf zl_L_153 (q_rankOf hl hM1 (xs (4 * n + 1))) dL_law_1145 m20 (by rfl) (by rfl) (by rfl) (by exact Nat.le_of_ble_eq_true rfl) rfl (by exact ⟨Nat.le_of_ble_eq_true rfl, Nat.le_of_ble_eq_true rfl⟩) ⟨hc, hs⟩ (fun _ _ h => z_xno h) (fun r w2 hq => ?_)
  obtain ⟨rfl, g2, g3⟩ := hq
  obtain ⟨fs3, m21⟩ := g2.rcv
  refine z_istore C (L1 := [_, _, _, _, _, _, _]) dL_law_1148 (Nat.le_of_ble_eq_true rfl) rfl ?_
  refine z_aload_n C dL_law_1150 rfl ?_
  refine z_callV C zm_X3_thrown zl_L_93 (q_thrown hl g2) dL_law_1151 m21 (by rfl) (by rfl) (by rfl) (by exact Nat.le_of_ble_eq_true rfl) rfl (by exact ⟨Nat.le_of_ble_eq_true rfl, Nat.le_of_ble_eq_true rfl⟩) ⟨hc, hs⟩ (fun _ _ h => z_xno h) (fun r w3 hq => ?_)
  obtain ⟨rfl, rfl⟩ := hq
  rw [e1]
  have h41 := (g3 40 (by decide)).trans e4
  have hnx := zLI.mk2 e2 (e3.up (by omega)) g2 e4 g3
  refine z_iload C dL_law_1154 rfl ?_
  refine z_icmp_eq C 1161 dL_law_1156 (by decide) (fun c1 => ?_) (fun c1 => ?_)
  · refine z_iload C dL_law_1161 rfl ?_
    refine z_if_ne C 1178 dL_law_1163 (by decide) (fun c2 => ?_) (fun c2 => ?_)
    · refine z_goto C 1543 dL_law_1178 (by decide) ?_
      exact next _ _ _ hnx
    · refine z_aload_n C dL_law_1166 rfl ?_
      refine z_iconst C (0) dL_law_1167 (by decide) ?_
      refine z_lald C dL_law_1168 (by first | assumption | exact zk_eq | exact zk_ne (by first | assumption | exact zk_eq | exact zk_ne (by first | assumption | exact zk_eq | exact zk_ne (by first | assumption | exact zk_eq | exact zk_ne (by first | assumption | exact zk_eq | exact zk_ne (by first | assumption | exact zk_eq) (by first | decide | omega)) (by first | decide | omega)) (by first | decide | omega)) (by first | decide | omega)) (by first | decide | omega)) (by first | rfl | assumption) (by first | assumption | omega | decide) (by first | decide | omega) ?_
      rw [e5 c2]
      refine z_iload C dL_law_1169 rfl ?_
      refine z_i2l C dL_law_1171 ?_
      refine z_lcmp C dL_law_1172 ?_
      rw [lvI, lg_cmp_self]
      refine z_if_eq C 1178 dL_law_1173 (by decide) (fun c4 => ?_) (fun c4 => ?_)
      · refine z_goto C 1543 dL_law_1178 (by decide) ?_
        exact next _ _ _ hnx
      · exact absurd rfl c4
  · exact absurd rfl c1
end ZCASE52
