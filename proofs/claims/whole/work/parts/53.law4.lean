/-! The law's cases 18 to 25 -/
section ZCASE53
variable {p : Program} {l : Launch} {e : Env} {s : State} {m : MethodId} {below : List Frame} {meth : Method} {c : Code} {Q : State → Prop}
variable {z : zT} {w : zW} {a0 b0 ao b L9 n cells slots : Nat} {xs : Nat → Int32}
theorem lc_hoursOf (hl : l.stackTraces = false) (C : zC z p l s m #[.ref b] meth c cL_law RL 7) (hX : va_X b L9 xs s s.heap) (hbl : b < s.heap.size) (hbA : ¬ zA z b) (hL9 : L9 ≤ 2048) (hi : zLI z a0 b0 ao n w) (hn : 4 * n + 4 ≤ L9) (hc : cells + 120 ≤ 601024) (hs : slots + 7000 ≤ 7293034)
    (next : ∀ (w1 : zW) (x5 x6 : Option Value), zLI z a0 b0 ao (n + 1) w1 → ZJ z p l e room_1 s m #[.ref b] below meth c Q (cells + 120) (slots + 7000) 1543 [some (.ref b), some (.ref a0), some (.ref b0), some (.ref ao), some (.int (nI (4 * n))), x5, x6] [] w1) :
    ZJ z p l e room_1 s m #[.ref b] below meth c Q cells slots 1181 [some (.ref b), some (.ref a0), some (.ref b0), some (.ref ao), some (.int (nI (4 * n))), none, none] [] w := by
  obtain ⟨S, M, f0, hSR, hH, hM, h40⟩ := hi
  have hn6 : n ≤ 600 := by omega
  obtain ⟨c9, F0, F1, F3, F4, F5, F6, F7⟩ := hSR.fac hn6
  refine z_aload_n C dL_law_1181 rfl ?_
  refine z_aload_n C dL_law_1182 rfl ?_
  refine z_iload C dL_law_1183 rfl ?_
  refine z_iconst C (1) dL_law_1185 (by decide) ?_
  refine z_iadd C dL_law_1186 ?_
  refine z_sld C hX hbl hbA hL9 dL_law_1187 (by first | exact nI_1 _ | exact nI_add _ 2 | exact nI_add _ 3) (by omega) ?_
  refine z_aload_n C dL_law_1188 rfl ?_
  have hag := agr_hoursOf hSR hn6 (xs (4 * n + 1))
  refine z_callSH C zh_hoursOf zl_L_154 (k_hoursOf hl hH h40 (xs (4 * n + 1))) dL_law_1189 (by rfl) (by rfl) (by exact Nat.le_of_ble_eq_true rfl) rfl (by exact ⟨Nat.le_of_ble_eq_true rfl, Nat.le_of_ble_eq_true rfl⟩) ⟨hc, hs⟩ (fun r w1 hq => ?_)
  obtain ⟨S1, cd, f1, rfl, e1, e2, e3, e4, e5, e6⟩ := hq.agr hag (by decide +kernel) (by decide +kernel) h40
  have hM1 := hM.kp (w1 := w1) (fun j j1 j2 => e6 j (by omega) (by omega) (by omega))
  obtain ⟨fs2, m20⟩ := hM1.rcv
  clear hq
  refine z_istore C (L1 := [_, _, _, _, _, _, _]) dL_law_1192 (Nat.le_of_ble_eq_true rfl) rfl ?_
  refine z_aload_n C dL_law_1194 rfl ?_
  refine z_aload_n C dL_law_1195 rfl ?_
  refine z_iload C dL_law_1196 rfl ?_
  refine z_iconst C (1) dL_law_1198 (by decide) ?_
  refine z_iadd C dL_law_1199 ?_
  refine z_sld C hX hbl hbA hL9 dL_law_1200 (by first | exact nI_1 _ | exact nI_add _ 2 | exact nI_add _ 3) (by omega) ?_
  refine z_callV C zm_X3_hoursOf zl_L_156 (q_hoursOf hl hM1 (xs (4 * n + 1))) dL_law_1201 m20 (by rfl) (by rfl) (by rfl) (by exact Nat.le_of_ble_eq_true rfl) rfl (by exact ⟨Nat.le_of_ble_eq_true rfl, Nat.le_of_ble_eq_true rfl⟩) ⟨hc, hs⟩ (fun _ _ h => z_xno h) (fun r w2 hq => ?_)
  obtain ⟨rfl, g2, g3⟩ := hq
  obtain ⟨fs3, m21⟩ := g2.rcv
  refine z_istore C (L1 := [_, _, _, _, _, _, _]) dL_law_1204 (Nat.le_of_ble_eq_true rfl) rfl ?_
  refine z_aload_n C dL_law_1206 rfl ?_
  refine z_callV C zm_X3_thrown zl_L_93 (q_thrown hl g2) dL_law_1207 m21 (by rfl) (by rfl) (by rfl) (by exact Nat.le_of_ble_eq_true rfl) rfl (by exact ⟨Nat.le_of_ble_eq_true rfl, Nat.le_of_ble_eq_true rfl⟩) ⟨hc, hs⟩ (fun _ _ h => z_xno h) (fun r w3 hq => ?_)
  obtain ⟨rfl, rfl⟩ := hq
  rw [e1]
  have h41 := (g3 40 (by decide)).trans e4
  have hnx := zLI.mk2 e2 (e3.up (by omega)) g2 e4 g3
  refine z_iload C dL_law_1210 rfl ?_
  refine z_icmp_eq C 1217 dL_law_1212 (by decide) (fun c1 => ?_) (fun c1 => ?_)
  · refine z_iload C dL_law_1217 rfl ?_
    refine z_if_ne C 1234 dL_law_1219 (by decide) (fun c2 => ?_) (fun c2 => ?_)
    · refine z_goto C 1543 dL_law_1234 (by decide) ?_
      exact next _ _ _ hnx
    · refine z_aload_n C dL_law_1222 rfl ?_
      refine z_iconst C (0) dL_law_1223 (by decide) ?_
      refine z_lald C dL_law_1224 (by first | assumption | exact zk_eq | exact zk_ne (by first | assumption | exact zk_eq | exact zk_ne (by first | assumption | exact zk_eq | exact zk_ne (by first | assumption | exact zk_eq | exact zk_ne (by first | assumption | exact zk_eq | exact zk_ne (by first | assumption | exact zk_eq) (by first | decide | omega)) (by first | decide | omega)) (by first | decide | omega)) (by first | decide | omega)) (by first | decide | omega)) (by first | rfl | assumption) (by first | assumption | omega | decide) (by first | decide | omega) ?_
      rw [e5 c2]
      refine z_iload C dL_law_1225 rfl ?_
      refine z_i2l C dL_law_1227 ?_
      refine z_lcmp C dL_law_1228 ?_
      rw [lvI, lg_cmp_self]
      refine z_if_eq C 1234 dL_law_1229 (by decide) (fun c4 => ?_) (fun c4 => ?_)
      · refine z_goto C 1543 dL_law_1234 (by decide) ?_
        exact next _ _ _ hnx
      · exact absurd rfl c4
  · exact absurd rfl c1
theorem lc_refusalsOf (hl : l.stackTraces = false) (C : zC z p l s m #[.ref b] meth c cL_law RL 7) (hX : va_X b L9 xs s s.heap) (hbl : b < s.heap.size) (hbA : ¬ zA z b) (hL9 : L9 ≤ 2048) (hi : zLI z a0 b0 ao n w) (hn : 4 * n + 4 ≤ L9) (hc : cells + 120 ≤ 601024) (hs : slots + 7000 ≤ 7293034)
    (next : ∀ (w1 : zW) (x5 x6 : Option Value), zLI z a0 b0 ao (n + 1) w1 → ZJ z p l e room_1 s m #[.ref b] below meth c Q (cells + 120) (slots + 7000) 1543 [some (.ref b), some (.ref a0), some (.ref b0), some (.ref ao), some (.int (nI (4 * n))), x5, x6] [] w1) :
    ZJ z p l e room_1 s m #[.ref b] below meth c Q cells slots 1237 [some (.ref b), some (.ref a0), some (.ref b0), some (.ref ao), some (.int (nI (4 * n))), none, none] [] w := by
  obtain ⟨S, M, f0, hSR, hH, hM, h40⟩ := hi
  have hn6 : n ≤ 600 := by omega
  obtain ⟨c9, F0, F1, F3, F4, F5, F6, F7⟩ := hSR.fac hn6
  refine z_aload_n C dL_law_1237 rfl ?_
  refine z_aload_n C dL_law_1238 rfl ?_
  refine z_iload C dL_law_1239 rfl ?_
  refine z_iconst C (1) dL_law_1241 (by decide) ?_
  refine z_iadd C dL_law_1242 ?_
  refine z_sld C hX hbl hbA hL9 dL_law_1243 (by first | exact nI_1 _ | exact nI_add _ 2 | exact nI_add _ 3) (by omega) ?_
  refine z_aload_n C dL_law_1244 rfl ?_
  have hag := agr_refusalsOf hSR hn6 (xs (4 * n + 1))
  refine z_callSH C zh_refusalsOf zl_L_157 (k_refusalsOf hl hH h40 (xs (4 * n + 1))) dL_law_1245 (by rfl) (by rfl) (by exact Nat.le_of_ble_eq_true rfl) rfl (by exact ⟨Nat.le_of_ble_eq_true rfl, Nat.le_of_ble_eq_true rfl⟩) ⟨hc, hs⟩ (fun r w1 hq => ?_)
  obtain ⟨S1, cd, f1, rfl, e1, e2, e3, e4, e5, e6⟩ := hq.agr hag (by decide +kernel) (by decide +kernel) h40
  have hM1 := hM.kp (w1 := w1) (fun j j1 j2 => e6 j (by omega) (by omega) (by omega))
  obtain ⟨fs2, m20⟩ := hM1.rcv
  clear hq
  refine z_istore C (L1 := [_, _, _, _, _, _, _]) dL_law_1248 (Nat.le_of_ble_eq_true rfl) rfl ?_
  refine z_aload_n C dL_law_1250 rfl ?_
  refine z_aload_n C dL_law_1251 rfl ?_
  refine z_iload C dL_law_1252 rfl ?_
  refine z_iconst C (1) dL_law_1254 (by decide) ?_
  refine z_iadd C dL_law_1255 ?_
  refine z_sld C hX hbl hbA hL9 dL_law_1256 (by first | exact nI_1 _ | exact nI_add _ 2 | exact nI_add _ 3) (by omega) ?_
  refine z_callV C zm_X3_refusalsOf zl_L_159 (q_refusalsOf hl hM1 (xs (4 * n + 1))) dL_law_1257 m20 (by rfl) (by rfl) (by rfl) (by exact Nat.le_of_ble_eq_true rfl) rfl (by exact ⟨Nat.le_of_ble_eq_true rfl, Nat.le_of_ble_eq_true rfl⟩) ⟨hc, hs⟩ (fun _ _ h => z_xno h) (fun r w2 hq => ?_)
  obtain ⟨rfl, g2, g3⟩ := hq
  obtain ⟨fs3, m21⟩ := g2.rcv
  refine z_istore C (L1 := [_, _, _, _, _, _, _]) dL_law_1260 (Nat.le_of_ble_eq_true rfl) rfl ?_
  refine z_aload_n C dL_law_1262 rfl ?_
  refine z_callV C zm_X3_thrown zl_L_93 (q_thrown hl g2) dL_law_1263 m21 (by rfl) (by rfl) (by rfl) (by exact Nat.le_of_ble_eq_true rfl) rfl (by exact ⟨Nat.le_of_ble_eq_true rfl, Nat.le_of_ble_eq_true rfl⟩) ⟨hc, hs⟩ (fun _ _ h => z_xno h) (fun r w3 hq => ?_)
  obtain ⟨rfl, rfl⟩ := hq
  rw [e1]
  have h41 := (g3 40 (by decide)).trans e4
  have hnx := zLI.mk2 e2 (e3.up (by omega)) g2 e4 g3
  refine z_iload C dL_law_1266 rfl ?_
  refine z_icmp_eq C 1273 dL_law_1268 (by decide) (fun c1 => ?_) (fun c1 => ?_)
  · refine z_iload C dL_law_1273 rfl ?_
    refine z_if_ne C 1290 dL_law_1275 (by decide) (fun c2 => ?_) (fun c2 => ?_)
    · refine z_goto C 1543 dL_law_1290 (by decide) ?_
      exact next _ _ _ hnx
    · refine z_aload_n C dL_law_1278 rfl ?_
      refine z_iconst C (0) dL_law_1279 (by decide) ?_
      refine z_lald C dL_law_1280 (by first | assumption | exact zk_eq | exact zk_ne (by first | assumption | exact zk_eq | exact zk_ne (by first | assumption | exact zk_eq | exact zk_ne (by first | assumption | exact zk_eq | exact zk_ne (by first | assumption | exact zk_eq | exact zk_ne (by first | assumption | exact zk_eq) (by first | decide | omega)) (by first | decide | omega)) (by first | decide | omega)) (by first | decide | omega)) (by first | decide | omega)) (by first | rfl | assumption) (by first | assumption | omega | decide) (by first | decide | omega) ?_
      rw [e5 c2]
      refine z_iload C dL_law_1281 rfl ?_
      refine z_i2l C dL_law_1283 ?_
      refine z_lcmp C dL_law_1284 ?_
      rw [lvI, lg_cmp_self]
      refine z_if_eq C 1290 dL_law_1285 (by decide) (fun c4 => ?_) (fun c4 => ?_)
      · refine z_goto C 1543 dL_law_1290 (by decide) ?_
        exact next _ _ _ hnx
      · exact absurd rfl c4
  · exact absurd rfl c1
theorem lc_placeOf (hl : l.stackTraces = false) (C : zC z p l s m #[.ref b] meth c cL_law RL 7) (hX : va_X b L9 xs s s.heap) (hbl : b < s.heap.size) (hbA : ¬ zA z b) (hL9 : L9 ≤ 2048) (hi : zLI z a0 b0 ao n w) (hn : 4 * n + 4 ≤ L9) (hc : cells + 120 ≤ 601024) (hs : slots + 7000 ≤ 7293034)
    (next : ∀ (w1 : zW) (x5 x6 : Option Value), zLI z a0 b0 ao (n + 1) w1 → ZJ z p l e room_1 s m #[.ref b] below meth c Q (cells + 120) (slots + 7000) 1543 [some (.ref b), some (.ref a0), some (.ref b0), some (.ref ao), some (.int (nI (4 * n))), x5, x6] [] w1) :
    ZJ z p l e room_1 s m #[.ref b] below meth c Q cells slots 1293 [some (.ref b), some (.ref a0), some (.ref b0), some (.ref ao), some (.int (nI (4 * n))), none, none] [] w := by
  obtain ⟨S, M, f0, hSR, hH, hM, h40⟩ := hi
  have hn6 : n ≤ 600 := by omega
  obtain ⟨c9, F0, F1, F3, F4, F5, F6, F7⟩ := hSR.fac hn6
  refine z_aload_n C dL_law_1293 rfl ?_
  refine z_aload_n C dL_law_1294 rfl ?_
  refine z_iload C dL_law_1295 rfl ?_
  refine z_iconst C (1) dL_law_1297 (by decide) ?_
  refine z_iadd C dL_law_1298 ?_
  refine z_sld C hX hbl hbA hL9 dL_law_1299 (by first | exact nI_1 _ | exact nI_add _ 2 | exact nI_add _ 3) (by omega) ?_
  refine z_aload_n C dL_law_1300 rfl ?_
  have hag := agr_placeOf hSR hn6 (xs (4 * n + 1))
  refine z_callSH C zh_placeOf zl_L_160 (k_placeOf hl hH h40 (xs (4 * n + 1))) dL_law_1301 (by rfl) (by rfl) (by exact Nat.le_of_ble_eq_true rfl) rfl (by exact ⟨Nat.le_of_ble_eq_true rfl, Nat.le_of_ble_eq_true rfl⟩) ⟨hc, hs⟩ (fun r w1 hq => ?_)
  obtain ⟨S1, cd, f1, rfl, e1, e2, e3, e4, e5, e6⟩ := hq.agr hag (by decide +kernel) (by decide +kernel) h40
  have hM1 := hM.kp (w1 := w1) (fun j j1 j2 => e6 j (by omega) (by omega) (by omega))
  obtain ⟨fs2, m20⟩ := hM1.rcv
  clear hq
  refine z_istore C (L1 := [_, _, _, _, _, _, _]) dL_law_1304 (Nat.le_of_ble_eq_true rfl) rfl ?_
  refine z_aload_n C dL_law_1306 rfl ?_
  refine z_aload_n C dL_law_1307 rfl ?_
  refine z_iload C dL_law_1308 rfl ?_
  refine z_iconst C (1) dL_law_1310 (by decide) ?_
  refine z_iadd C dL_law_1311 ?_
  refine z_sld C hX hbl hbA hL9 dL_law_1312 (by first | exact nI_1 _ | exact nI_add _ 2 | exact nI_add _ 3) (by omega) ?_
  refine z_callV C zm_X3_placeOf zl_L_162 (q_placeOf hl hM1 (xs (4 * n + 1))) dL_law_1313 m20 (by rfl) (by rfl) (by rfl) (by exact Nat.le_of_ble_eq_true rfl) rfl (by exact ⟨Nat.le_of_ble_eq_true rfl, Nat.le_of_ble_eq_true rfl⟩) ⟨hc, hs⟩ (fun _ _ h => z_xno h) (fun r w2 hq => ?_)
  obtain ⟨rfl, g2, g3⟩ := hq
  obtain ⟨fs3, m21⟩ := g2.rcv
  refine z_istore C (L1 := [_, _, _, _, _, _, _]) dL_law_1316 (Nat.le_of_ble_eq_true rfl) rfl ?_
  refine z_aload_n C dL_law_1318 rfl ?_
  refine z_callV C zm_X3_thrown zl_L_93 (q_thrown hl g2) dL_law_1319 m21 (by rfl) (by rfl) (by rfl) (by exact Nat.le_of_ble_eq_true rfl) rfl (by exact ⟨Nat.le_of_ble_eq_true rfl, Nat.le_of_ble_eq_true rfl⟩) ⟨hc, hs⟩ (fun _ _ h => z_xno h) (fun r w3 hq => ?_)
  obtain ⟨rfl, rfl⟩ := hq
  rw [e1]
  have h41 := (g3 40 (by decide)).trans e4
  have hnx := zLI.mk2 e2 (e3.up (by omega)) g2 e4 g3
  refine z_iload C dL_law_1322 rfl ?_
  refine z_icmp_eq C 1329 dL_law_1324 (by decide) (fun c1 => ?_) (fun c1 => ?_)
  · refine z_iload C dL_law_1329 rfl ?_
    refine z_if_ne C 1346 dL_law_1331 (by decide) (fun c2 => ?_) (fun c2 => ?_)
    · refine z_goto C 1543 dL_law_1346 (by decide) ?_
      exact next _ _ _ hnx
    · refine z_aload_n C dL_law_1334 rfl ?_
      refine z_iconst C (0) dL_law_1335 (by decide) ?_
      refine z_lald C dL_law_1336 (by first | assumption | exact zk_eq | exact zk_ne (by first | assumption | exact zk_eq | exact zk_ne (by first | assumption | exact zk_eq | exact zk_ne (by first | assumption | exact zk_eq | exact zk_ne (by first | assumption | exact zk_eq | exact zk_ne (by first | assumption | exact zk_eq) (by first | decide | omega)) (by first | decide | omega)) (by first | decide | omega)) (by first | decide | omega)) (by first | decide | omega)) (by first | rfl | assumption) (by first | assumption | omega | decide) (by first | decide | omega) ?_
      rw [e5 c2]
      refine z_iload C dL_law_1337 rfl ?_
      refine z_i2l C dL_law_1339 ?_
      refine z_lcmp C dL_law_1340 ?_
      rw [lvI, lg_cmp_self]
      refine z_if_eq C 1346 dL_law_1341 (by decide) (fun c4 => ?_) (fun c4 => ?_)
      · refine z_goto C 1543 dL_law_1346 (by decide) ?_
        exact next _ _ _ hnx
      · exact absurd rfl c4
  · exact absurd rfl c1
theorem lc_owedTo (hl : l.stackTraces = false) (C : zC z p l s m #[.ref b] meth c cL_law RL 7) (hX : va_X b L9 xs s s.heap) (hbl : b < s.heap.size) (hbA : ¬ zA z b) (hL9 : L9 ≤ 2048) (hi : zLI z a0 b0 ao n w) (hn : 4 * n + 4 ≤ L9) (hc : cells + 120 ≤ 601024) (hs : slots + 7000 ≤ 7293034)
    (next : ∀ (w1 : zW) (x5 x6 : Option Value), zLI z a0 b0 ao (n + 1) w1 → ZJ z p l e room_1 s m #[.ref b] below meth c Q (cells + 120) (slots + 7000) 1543 [some (.ref b), some (.ref a0), some (.ref b0), some (.ref ao), some (.int (nI (4 * n))), x5, x6] [] w1) :
    ZJ z p l e room_1 s m #[.ref b] below meth c Q cells slots 1349 [some (.ref b), some (.ref a0), some (.ref b0), some (.ref ao), some (.int (nI (4 * n))), none, none] [] w := by
  obtain ⟨S, M, f0, hSR, hH, hM, h40⟩ := hi
  have hn6 : n ≤ 600 := by omega
  obtain ⟨c9, F0, F1, F3, F4, F5, F6, F7⟩ := hSR.fac hn6
  refine z_aload_n C dL_law_1349 rfl ?_
  refine z_aload_n C dL_law_1350 rfl ?_
  refine z_iload C dL_law_1351 rfl ?_
  refine z_iconst C (1) dL_law_1353 (by decide) ?_
  refine z_iadd C dL_law_1354 ?_
  refine z_sld C hX hbl hbA hL9 dL_law_1355 (by first | exact nI_1 _ | exact nI_add _ 2 | exact nI_add _ 3) (by omega) ?_
  refine z_aload_n C dL_law_1356 rfl ?_
  have hag := agr_owedTo hSR hn6 (xs (4 * n + 1))
  refine z_callSH C zh_owedTo zl_L_163 (k_owedTo hl hH h40 (xs (4 * n + 1))) dL_law_1357 (by rfl) (by rfl) (by exact Nat.le_of_ble_eq_true rfl) rfl (by exact ⟨Nat.le_of_ble_eq_true rfl, Nat.le_of_ble_eq_true rfl⟩) ⟨hc, hs⟩ (fun r w1 hq => ?_)
  obtain ⟨S1, cd, f1, rfl, e1, e2, e3, e4, e5, e6⟩ := hq.agr hag (by decide +kernel) (by decide +kernel) h40
  have hM1 := hM.kp (w1 := w1) (fun j j1 j2 => e6 j (by omega) (by omega) (by omega))
  obtain ⟨fs2, m20⟩ := hM1.rcv
  clear hq
  refine z_istore C (L1 := [_, _, _, _, _, _, _]) dL_law_1360 (Nat.le_of_ble_eq_true rfl) rfl ?_
  refine z_aload_n C dL_law_1362 rfl ?_
  refine z_aload_n C dL_law_1363 rfl ?_
  refine z_iload C dL_law_1364 rfl ?_
  refine z_iconst C (1) dL_law_1366 (by decide) ?_
  refine z_iadd C dL_law_1367 ?_
  refine z_sld C hX hbl hbA hL9 dL_law_1368 (by first | exact nI_1 _ | exact nI_add _ 2 | exact nI_add _ 3) (by omega) ?_
  refine z_callV C zm_X3_owedTo zl_L_165 (q_owedTo hl hM1 (xs (4 * n + 1)) (fun k hk => (F6 _ k hk).2.2.2)) dL_law_1369 m20 (by rfl) (by rfl) (by rfl) (by exact Nat.le_of_ble_eq_true rfl) rfl (by exact ⟨Nat.le_of_ble_eq_true rfl, Nat.le_of_ble_eq_true rfl⟩) ⟨hc, hs⟩ (fun _ _ h => z_xno h) (fun r w2 hq => ?_)
  obtain ⟨rfl, g2, g3⟩ := hq
  obtain ⟨fs3, m21⟩ := g2.rcv
  refine z_istore C (L1 := [_, _, _, _, _, _, _]) dL_law_1372 (Nat.le_of_ble_eq_true rfl) rfl ?_
  refine z_aload_n C dL_law_1374 rfl ?_
  refine z_callV C zm_X3_thrown zl_L_93 (q_thrown hl g2) dL_law_1375 m21 (by rfl) (by rfl) (by rfl) (by exact Nat.le_of_ble_eq_true rfl) rfl (by exact ⟨Nat.le_of_ble_eq_true rfl, Nat.le_of_ble_eq_true rfl⟩) ⟨hc, hs⟩ (fun _ _ h => z_xno h) (fun r w3 hq => ?_)
  obtain ⟨rfl, rfl⟩ := hq
  rw [e1]
  have h41 := (g3 40 (by decide)).trans e4
  have hnx := zLI.mk2 e2 (e3.up (by omega)) g2 e4 g3
  refine z_iload C dL_law_1378 rfl ?_
  refine z_icmp_eq C 1385 dL_law_1380 (by decide) (fun c1 => ?_) (fun c1 => ?_)
  · refine z_iload C dL_law_1385 rfl ?_
    refine z_if_ne C 1402 dL_law_1387 (by decide) (fun c2 => ?_) (fun c2 => ?_)
    · refine z_goto C 1543 dL_law_1402 (by decide) ?_
      exact next _ _ _ hnx
    · refine z_aload_n C dL_law_1390 rfl ?_
      refine z_iconst C (0) dL_law_1391 (by decide) ?_
      refine z_lald C dL_law_1392 (by first | assumption | exact zk_eq | exact zk_ne (by first | assumption | exact zk_eq | exact zk_ne (by first | assumption | exact zk_eq | exact zk_ne (by first | assumption | exact zk_eq | exact zk_ne (by first | assumption | exact zk_eq | exact zk_ne (by first | assumption | exact zk_eq) (by first | decide | omega)) (by first | decide | omega)) (by first | decide | omega)) (by first | decide | omega)) (by first | decide | omega)) (by first | rfl | assumption) (by first | assumption | omega | decide) (by first | decide | omega) ?_
      rw [e5 c2]
      refine z_iload C dL_law_1393 rfl ?_
      refine z_i2l C dL_law_1395 ?_
      refine z_lcmp C dL_law_1396 ?_
      rw [lvI, lg_cmp_self]
      refine z_if_eq C 1402 dL_law_1397 (by decide) (fun c4 => ?_) (fun c4 => ?_)
      · refine z_goto C 1543 dL_law_1402 (by decide) ?_
        exact next _ _ _ hnx
      · exact absurd rfl c4
  · exact absurd rfl c1
theorem lc_places (hl : l.stackTraces = false) (C : zC z p l s m #[.ref b] meth c cL_law RL 7) (hX : va_X b L9 xs s s.heap) (hbl : b < s.heap.size) (hbA : ¬ zA z b) (hL9 : L9 ≤ 2048) (hi : zLI z a0 b0 ao n w) (hn : 4 * n + 4 ≤ L9) (hc : cells + 120 ≤ 601024) (hs : slots + 7000 ≤ 7293034)
    (next : ∀ (w1 : zW) (x5 x6 : Option Value), zLI z a0 b0 ao (n + 1) w1 → ZJ z p l e room_1 s m #[.ref b] below meth c Q (cells + 120) (slots + 7000) 1543 [some (.ref b), some (.ref a0), some (.ref b0), some (.ref ao), some (.int (nI (4 * n))), x5, x6] [] w1) :
    ZJ z p l e room_1 s m #[.ref b] below meth c Q cells slots 1405 [some (.ref b), some (.ref a0), some (.ref b0), some (.ref ao), some (.int (nI (4 * n))), none, none] [] w := by
  obtain ⟨S, M, f0, hSR, hH, hM, h40⟩ := hi
  have hn6 : n ≤ 600 := by omega
  obtain ⟨c9, F0, F1, F3, F4, F5, F6, F7⟩ := hSR.fac hn6
  have hag := agr_places hSR
  obtain ⟨fs0, h0⟩ := hH.rcv
  refine z_aload_n C dL_law_1405 rfl ?_
  refine z_callV C zm_X2_places zl_L_166 (o_places hl hH) dL_law_1406 h0 (by rfl) (by rfl) (by rfl) (by exact Nat.le_of_ble_eq_true rfl) rfl (by exact ⟨Nat.le_of_ble_eq_true rfl, Nat.le_of_ble_eq_true rfl⟩) ⟨hc, hs⟩ (fun E w1 hx => ?_) (fun r w1 hq => ?_)
  · exact absurd hx.1 (fun q => by cases q)
  obtain ⟨v, d1, rfl, d2, d3⟩ := hq
  obtain ⟨a1, a2, a3⟩ := hag.resolve_right (fun ⟨_, _, _, q, _⟩ => absurd q List.not_mem_nil)
  have hM1 := hM.kp (w1 := w1) (fun j j1 j2 => d3 j (by omega) (by omega))
  have hv := Sum.inr.inj (d1.symm.trans a1)
  obtain ⟨fs2, m20⟩ := hM1.rcv
  refine z_aload_n C dL_law_1409 rfl ?_
  refine z_callV C zm_X3_places zl_L_169 (q_places hl hM1) dL_law_1410 m20 (by rfl) (by rfl) (by rfl) (by exact Nat.le_of_ble_eq_true rfl) rfl (by exact ⟨Nat.le_of_ble_eq_true rfl, Nat.le_of_ble_eq_true rfl⟩) ⟨hc, hs⟩ (fun _ _ h => z_xno h) (fun r w2 hq => ?_)
  obtain ⟨rfl, g2, g3⟩ := hq
  refine z_icmp_eq C 1543 dL_law_1413 (by decide) (fun c1 => ?_) (fun c1 => ?_)
  · exact next _ _ _ (zLI.mk2 a3 (d2.up (by omega)) g2 ((d3 40 (by decide) (by decide)).trans h40) g3)
  · exact absurd hv c1
theorem lc_workerAt (hl : l.stackTraces = false) (C : zC z p l s m #[.ref b] meth c cL_law RL 7) (hX : va_X b L9 xs s s.heap) (hbl : b < s.heap.size) (hbA : ¬ zA z b) (hL9 : L9 ≤ 2048) (hi : zLI z a0 b0 ao n w) (hn : 4 * n + 4 ≤ L9) (hc : cells + 120 ≤ 601024) (hs : slots + 7000 ≤ 7293034)
    (next : ∀ (w1 : zW) (x5 x6 : Option Value), zLI z a0 b0 ao (n + 1) w1 → ZJ z p l e room_1 s m #[.ref b] below meth c Q (cells + 120) (slots + 7000) 1543 [some (.ref b), some (.ref a0), some (.ref b0), some (.ref ao), some (.int (nI (4 * n))), x5, x6] [] w1) :
    ZJ z p l e room_1 s m #[.ref b] below meth c Q cells slots 1418 [some (.ref b), some (.ref a0), some (.ref b0), some (.ref ao), some (.int (nI (4 * n))), none, none] [] w := by
  obtain ⟨S, M, f0, hSR, hH, hM, h40⟩ := hi
  have hn6 : n ≤ 600 := by omega
  obtain ⟨c9, F0, F1, F3, F4, F5, F6, F7⟩ := hSR.fac hn6
  refine z_aload_n C dL_law_1418 rfl ?_
  refine z_aload_n C dL_law_1419 rfl ?_
  refine z_iload C dL_law_1420 rfl ?_
  refine z_iconst C (1) dL_law_1422 (by decide) ?_
  refine z_iadd C dL_law_1423 ?_
  refine z_sld C hX hbl hbA hL9 dL_law_1424 (by first | exact nI_1 _ | exact nI_add _ 2 | exact nI_add _ 3) (by omega) ?_
  refine z_aload_n C dL_law_1425 rfl ?_
  have hag := agr_workerAt hSR hn6 (xs (4 * n + 1))
  refine z_callSH C zh_workerAt zl_L_170 (k_workerAt hl hH h40 (xs (4 * n + 1))) dL_law_1426 (by rfl) (by rfl) (by exact Nat.le_of_ble_eq_true rfl) rfl (by exact ⟨Nat.le_of_ble_eq_true rfl, Nat.le_of_ble_eq_true rfl⟩) ⟨hc, hs⟩ (fun r w1 hq => ?_)
  obtain ⟨S1, cd, f1, rfl, e1, e2, e3, e4, e5, e6⟩ := hq.agr hag (by decide +kernel) (by decide +kernel) h40
  have hM1 := hM.kp (w1 := w1) (fun j j1 j2 => e6 j (by omega) (by omega) (by omega))
  obtain ⟨fs2, m20⟩ := hM1.rcv
  clear hq
  refine z_istore C (L1 := [_, _, _, _, _, _, _]) dL_law_1429 (Nat.le_of_ble_eq_true rfl) rfl ?_
  refine z_aload_n C dL_law_1431 rfl ?_
  refine z_aload_n C dL_law_1432 rfl ?_
  refine z_iload C dL_law_1433 rfl ?_
  refine z_iconst C (1) dL_law_1435 (by decide) ?_
  refine z_iadd C dL_law_1436 ?_
  refine z_sld C hX hbl hbA hL9 dL_law_1437 (by first | exact nI_1 _ | exact nI_add _ 2 | exact nI_add _ 3) (by omega) ?_
  refine z_callV C zm_X3_workerAt zl_L_172 (q_workerAt hl hM1 (xs (4 * n + 1)) F0 F1 F4) dL_law_1438 m20 (by rfl) (by rfl) (by rfl) (by exact Nat.le_of_ble_eq_true rfl) rfl (by exact ⟨Nat.le_of_ble_eq_true rfl, Nat.le_of_ble_eq_true rfl⟩) ⟨hc, hs⟩ (fun _ _ h => z_xno h) (fun r w2 hq => ?_)
  obtain ⟨rfl, g2, g3⟩ := hq
  obtain ⟨fs3, m21⟩ := g2.rcv
  refine z_istore C (L1 := [_, _, _, _, _, _, _]) dL_law_1441 (Nat.le_of_ble_eq_true rfl) rfl ?_
  refine z_aload_n C dL_law_1443 rfl ?_
  refine z_callV C zm_X3_thrown zl_L_93 (q_thrown hl g2) dL_law_1444 m21 (by rfl) (by rfl) (by rfl) (by exact Nat.le_of_ble_eq_true rfl) rfl (by exact ⟨Nat.le_of_ble_eq_true rfl, Nat.le_of_ble_eq_true rfl⟩) ⟨hc, hs⟩ (fun _ _ h => z_xno h) (fun r w3 hq => ?_)
  obtain ⟨rfl, rfl⟩ := hq
  rw [e1]
  have h41 := (g3 40 (by decide)).trans e4
  have hnx := zLI.mk2 e2 (e3.up (by omega)) g2 e4 g3
  refine z_iload C dL_law_1447 rfl ?_
  refine z_icmp_eq C 1454 dL_law_1449 (by decide) (fun c1 => ?_) (fun c1 => ?_)
  · refine z_iload C dL_law_1454 rfl ?_
    refine z_if_ne C 1471 dL_law_1456 (by decide) (fun c2 => ?_) (fun c2 => ?_)
    · refine z_goto C 1543 dL_law_1471 (by decide) ?_
      exact next _ _ _ hnx
    · refine z_aload_n C dL_law_1459 rfl ?_
      refine z_iconst C (0) dL_law_1460 (by decide) ?_
      refine z_lald C dL_law_1461 (by first | assumption | exact zk_eq | exact zk_ne (by first | assumption | exact zk_eq | exact zk_ne (by first | assumption | exact zk_eq | exact zk_ne (by first | assumption | exact zk_eq | exact zk_ne (by first | assumption | exact zk_eq | exact zk_ne (by first | assumption | exact zk_eq) (by first | decide | omega)) (by first | decide | omega)) (by first | decide | omega)) (by first | decide | omega)) (by first | decide | omega)) (by first | rfl | assumption) (by first | assumption | omega | decide) (by first | decide | omega) ?_
      rw [e5 c2]
      refine z_iload C dL_law_1462 rfl ?_
      refine z_i2l C dL_law_1464 ?_
      refine z_lcmp C dL_law_1465 ?_
      rw [lvI, lg_cmp_self]
      refine z_if_eq C 1471 dL_law_1466 (by decide) (fun c4 => ?_) (fun c4 => ?_)
      · refine z_goto C 1543 dL_law_1471 (by decide) ?_
        exact next _ _ _ hnx
      · exact absurd rfl c4
  · exact absurd rfl c1
theorem lc_nextUp (hl : l.stackTraces = false) (C : zC z p l s m #[.ref b] meth c cL_law RL 7) (hX : va_X b L9 xs s s.heap) (hbl : b < s.heap.size) (hbA : ¬ zA z b) (hL9 : L9 ≤ 2048) (hi : zLI z a0 b0 ao n w) (hn : 4 * n + 4 ≤ L9) (hc : cells + 120 ≤ 601024) (hs : slots + 7000 ≤ 7293034)
    (next : ∀ (w1 : zW) (x5 x6 : Option Value), zLI z a0 b0 ao (n + 1) w1 → ZJ z p l e room_1 s m #[.ref b] below meth c Q (cells + 120) (slots + 7000) 1543 [some (.ref b), some (.ref a0), some (.ref b0), some (.ref ao), some (.int (nI (4 * n))), x5, x6] [] w1) :
    ZJ z p l e room_1 s m #[.ref b] below meth c Q cells slots 1474 [some (.ref b), some (.ref a0), some (.ref b0), some (.ref ao), some (.int (nI (4 * n))), none, none] [] w := by
  obtain ⟨S, M, f0, hSR, hH, hM, h40⟩ := hi
  have hn6 : n ≤ 600 := by omega
  obtain ⟨c9, F0, F1, F3, F4, F5, F6, F7⟩ := hSR.fac hn6
  refine z_aload_n C dL_law_1474 rfl ?_
  refine z_aload_n C dL_law_1475 rfl ?_
  refine z_iload C dL_law_1476 rfl ?_
  refine z_iconst C (1) dL_law_1478 (by decide) ?_
  refine z_iadd C dL_law_1479 ?_
  refine z_sld C hX hbl hbA hL9 dL_law_1480 (by first | exact nI_1 _ | exact nI_add _ 2 | exact nI_add _ 3) (by omega) ?_
  refine z_aload_n C dL_law_1481 rfl ?_
  have hag := agr_nextUp hSR hn6 (xs (4 * n + 1))
  refine z_callSH C zh_nextUp zl_L_173 (k_nextUp hl hH h40 (xs (4 * n + 1))) dL_law_1482 (by rfl) (by rfl) (by exact Nat.le_of_ble_eq_true rfl) rfl (by exact ⟨Nat.le_of_ble_eq_true rfl, Nat.le_of_ble_eq_true rfl⟩) ⟨hc, hs⟩ (fun r w1 hq => ?_)
  obtain ⟨S1, cd, f1, rfl, e1, e2, e3, e4, e5, e6⟩ := hq.agr hag (by decide +kernel) (by decide +kernel) h40
  have hM1 := hM.kp (w1 := w1) (fun j j1 j2 => e6 j (by omega) (by omega) (by omega))
  obtain ⟨fs2, m20⟩ := hM1.rcv
  clear hq
  refine z_istore C (L1 := [_, _, _, _, _, _, _]) dL_law_1485 (Nat.le_of_ble_eq_true rfl) rfl ?_
  refine z_aload_n C dL_law_1487 rfl ?_
  refine z_aload_n C dL_law_1488 rfl ?_
  refine z_iload C dL_law_1489 rfl ?_
  refine z_iconst C (1) dL_law_1491 (by decide) ?_
  refine z_iadd C dL_law_1492 ?_
  refine z_sld C hX hbl hbA hL9 dL_law_1493 (by first | exact nI_1 _ | exact nI_add _ 2 | exact nI_add _ 3) (by omega) ?_
  refine z_callV C zm_X3_nextUp zl_L_175 (q_nextUp hl hM1 (xs (4 * n + 1))) dL_law_1494 m20 (by rfl) (by rfl) (by rfl) (by exact Nat.le_of_ble_eq_true rfl) rfl (by exact ⟨Nat.le_of_ble_eq_true rfl, Nat.le_of_ble_eq_true rfl⟩) ⟨hc, hs⟩ (fun _ _ h => z_xno h) (fun r w2 hq => ?_)
  obtain ⟨rfl, g2, g3⟩ := hq
  obtain ⟨fs3, m21⟩ := g2.rcv
  refine z_istore C (L1 := [_, _, _, _, _, _, _]) dL_law_1497 (Nat.le_of_ble_eq_true rfl) rfl ?_
  refine z_aload_n C dL_law_1499 rfl ?_
  refine z_callV C zm_X3_thrown zl_L_93 (q_thrown hl g2) dL_law_1500 m21 (by rfl) (by rfl) (by rfl) (by exact Nat.le_of_ble_eq_true rfl) rfl (by exact ⟨Nat.le_of_ble_eq_true rfl, Nat.le_of_ble_eq_true rfl⟩) ⟨hc, hs⟩ (fun _ _ h => z_xno h) (fun r w3 hq => ?_)
  obtain ⟨rfl, rfl⟩ := hq
  rw [e1]
  have h41 := (g3 40 (by decide)).trans e4
  have hnx := zLI.mk2 e2 (e3.up (by omega)) g2 e4 g3
  refine z_iload C dL_law_1503 rfl ?_
  refine z_icmp_eq C 1510 dL_law_1505 (by decide) (fun c1 => ?_) (fun c1 => ?_)
  · refine z_iload C dL_law_1510 rfl ?_
    refine z_if_ne C 1527 dL_law_1512 (by decide) (fun c2 => ?_) (fun c2 => ?_)
    · refine z_goto C 1543 dL_law_1527 (by decide) ?_
      exact next _ _ _ hnx
    · refine z_aload_n C dL_law_1515 rfl ?_
      refine z_iconst C (0) dL_law_1516 (by decide) ?_
      refine z_lald C dL_law_1517 (by first | assumption | exact zk_eq | exact zk_ne (by first | assumption | exact zk_eq | exact zk_ne (by first | assumption | exact zk_eq | exact zk_ne (by first | assumption | exact zk_eq | exact zk_ne (by first | assumption | exact zk_eq | exact zk_ne (by first | assumption | exact zk_eq) (by first | decide | omega)) (by first | decide | omega)) (by first | decide | omega)) (by first | decide | omega)) (by first | decide | omega)) (by first | rfl | assumption) (by first | assumption | omega | decide) (by first | decide | omega) ?_
      rw [e5 c2]
      refine z_iload C dL_law_1518 rfl ?_
      refine z_i2l C dL_law_1520 ?_
      refine z_lcmp C dL_law_1521 ?_
      rw [lvI, lg_cmp_self]
      refine z_if_eq C 1527 dL_law_1522 (by decide) (fun c4 => ?_) (fun c4 => ?_)
      · refine z_goto C 1543 dL_law_1527 (by decide) ?_
        exact next _ _ _ hnx
      · exact absurd rfl c4
  · exact absurd rfl c1
theorem lc_fillable (hl : l.stackTraces = false) (C : zC z p l s m #[.ref b] meth c cL_law RL 7) (hX : va_X b L9 xs s s.heap) (hbl : b < s.heap.size) (hbA : ¬ zA z b) (hL9 : L9 ≤ 2048) (hi : zLI z a0 b0 ao n w) (hn : 4 * n + 4 ≤ L9) (hc : cells + 120 ≤ 601024) (hs : slots + 7000 ≤ 7293034)
    (next : ∀ (w1 : zW) (x5 x6 : Option Value), zLI z a0 b0 ao (n + 1) w1 → ZJ z p l e room_1 s m #[.ref b] below meth c Q (cells + 120) (slots + 7000) 1543 [some (.ref b), some (.ref a0), some (.ref b0), some (.ref ao), some (.int (nI (4 * n))), x5, x6] [] w1) :
    ZJ z p l e room_1 s m #[.ref b] below meth c Q cells slots 1530 [some (.ref b), some (.ref a0), some (.ref b0), some (.ref ao), some (.int (nI (4 * n))), none, none] [] w := by
  obtain ⟨S, M, f0, hSR, hH, hM, h40⟩ := hi
  have hn6 : n ≤ 600 := by omega
  obtain ⟨c9, F0, F1, F3, F4, F5, F6, F7⟩ := hSR.fac hn6
  have hag := agr_fillable hSR hn6
  obtain ⟨fs0, h0⟩ := hH.rcv
  refine z_aload_n C dL_law_1530 rfl ?_
  refine z_callV C zm_X2_fillable zl_L_176 (o_fillable hl hH) dL_law_1531 h0 (by rfl) (by rfl) (by rfl) (by exact Nat.le_of_ble_eq_true rfl) rfl (by exact ⟨Nat.le_of_ble_eq_true rfl, Nat.le_of_ble_eq_true rfl⟩) ⟨hc, hs⟩ (fun E w1 hx => ?_) (fun r w1 hq => ?_)
  · exact absurd hx.1 (fun q => by cases q)
  obtain ⟨v, d1, rfl, d2, d3⟩ := hq
  obtain ⟨a1, a2, a3⟩ := hag.resolve_right (fun ⟨_, _, _, q, _⟩ => absurd q List.not_mem_nil)
  have hM1 := hM.kp (w1 := w1) (fun j j1 j2 => d3 j (by omega) (by omega))
  have hv := Sum.inr.inj (d1.symm.trans a1)
  obtain ⟨fs2, m20⟩ := hM1.rcv
  refine z_aload_n C dL_law_1534 rfl ?_
  refine z_callV C zm_X3_fillable zl_L_179 (q_fillable hl hM1 F0 F1 F3) dL_law_1535 m20 (by rfl) (by rfl) (by rfl) (by exact Nat.le_of_ble_eq_true rfl) rfl (by exact ⟨Nat.le_of_ble_eq_true rfl, Nat.le_of_ble_eq_true rfl⟩) ⟨hc, hs⟩ (fun _ _ h => z_xno h) (fun r w2 hq => ?_)
  obtain ⟨rfl, g2, g3⟩ := hq
  refine z_icmp_eq C 1543 dL_law_1538 (by decide) (fun c1 => ?_) (fun c1 => ?_)
  · exact next _ _ _ (zLI.mk2 a3 (d2.up (by omega)) g2 ((d3 40 (by decide) (by decide)).trans h40) g3)
  · exact absurd hv c1
end ZCASE53
