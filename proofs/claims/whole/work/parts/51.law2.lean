/-! The law's cases 0 to 8 -/
section ZCASE51
variable {p : Program} {l : Launch} {e : Env} {s : State} {m : MethodId} {below : List Frame} {meth : Method} {c : Code} {Q : State → Prop}
variable {z : zT} {w : zW} {a0 b0 ao b L9 n cells slots : Nat} {xs : Nat → Int32}
theorem lc_signOn (hl : l.stackTraces = false) (C : zC z p l s m #[.ref b] meth c cL_law RL 7) (hX : va_X b L9 xs s s.heap) (hbl : b < s.heap.size) (hbA : ¬ zA z b) (hL9 : L9 ≤ 2048) (hi : zLI z a0 b0 ao n w) (hn : 4 * n + 4 ≤ L9) (hc : cells + 120 ≤ 601024) (hs : slots + 7000 ≤ 7293034)
    (next : ∀ (w1 : zW) (x5 x6 : Option Value), zLI z a0 b0 ao (n + 1) w1 → ZJ z p l e room_1 s m #[.ref b] below meth c Q (cells + 120) (slots + 7000) 1543 [some (.ref b), some (.ref a0), some (.ref b0), some (.ref ao), some (.int (nI (4 * n))), x5, x6] [] w1) :
    ZJ z p l e room_1 s m #[.ref b] below meth c Q cells slots 156 [some (.ref b), some (.ref a0), some (.ref b0), some (.ref ao), some (.int (nI (4 * n))), none, none] [] w := by
  obtain ⟨S, M, f0, hSR, hH, hM, h40⟩ := hi
  have hn6 : n ≤ 600 := by omega
  obtain ⟨c9, F0, F1, F3, F4, F5, F6, F7⟩ := hSR.fac hn6
  refine z_aload_n C dL_law_156 rfl ?_
  refine z_aload_n C dL_law_157 rfl ?_
  refine z_iload C dL_law_158 rfl ?_
  refine z_iconst C (1) dL_law_160 (by decide) ?_
  refine z_iadd C dL_law_161 ?_
  refine z_sld C hX hbl hbA hL9 dL_law_162 (by first | exact nI_1 _ | exact nI_add _ 2 | exact nI_add _ 3) (by omega) ?_
  refine z_aload_n C dL_law_163 rfl ?_
  refine z_iload C dL_law_164 rfl ?_
  refine z_iconst C (2) dL_law_166 (by decide) ?_
  refine z_iadd C dL_law_167 ?_
  refine z_sld C hX hbl hbA hL9 dL_law_168 (by first | exact nI_1 _ | exact nI_add _ 2 | exact nI_add _ 3) (by omega) ?_
  refine z_aload_n C dL_law_169 rfl ?_
  have hag := agr_signOn hSR hn6 (xs (4 * n + 1)) (xs (4 * n + 2))
  refine z_callSH C zh_signOn zl_L_87 (k_signOn hl hH h40 (xs (4 * n + 1)) (xs (4 * n + 2)) (by omega)) dL_law_170 (by rfl) (by rfl) (by exact Nat.le_of_ble_eq_true rfl) rfl (by exact ⟨Nat.le_of_ble_eq_true rfl, Nat.le_of_ble_eq_true rfl⟩) ⟨hc, hs⟩ (fun r w1 hq => ?_)
  obtain ⟨S1, cd, f1, rfl, e1, e2, e3, e4, e5, e6⟩ := hq.agr hag (by decide +kernel) (by decide +kernel) h40
  have hM1 := hM.kp (w1 := w1) (fun j j1 j2 => e6 j (by omega) (by omega) (by omega))
  obtain ⟨fs2, m20⟩ := hM1.rcv
  clear hq
  refine z_istore C (L1 := [_, _, _, _, _, _, _]) dL_law_173 (Nat.le_of_ble_eq_true rfl) rfl ?_
  refine z_aload_n C dL_law_175 rfl ?_
  refine z_aload_n C dL_law_176 rfl ?_
  refine z_iload C dL_law_177 rfl ?_
  refine z_iconst C (1) dL_law_179 (by decide) ?_
  refine z_iadd C dL_law_180 ?_
  refine z_sld C hX hbl hbA hL9 dL_law_181 (by first | exact nI_1 _ | exact nI_add _ 2 | exact nI_add _ 3) (by omega) ?_
  refine z_aload_n C dL_law_182 rfl ?_
  refine z_iload C dL_law_183 rfl ?_
  refine z_iconst C (2) dL_law_185 (by decide) ?_
  refine z_iadd C dL_law_186 ?_
  refine z_sld C hX hbl hbA hL9 dL_law_187 (by first | exact nI_1 _ | exact nI_add _ 2 | exact nI_add _ 3) (by omega) ?_
  refine z_callV C zm_X3_signOn zl_L_92 (q_signOn hl hM1 (xs (4 * n + 1)) (xs (4 * n + 2))) dL_law_188 m20 (by rfl) (by rfl) (by rfl) (by exact Nat.le_of_ble_eq_true rfl) rfl (by exact ⟨Nat.le_of_ble_eq_true rfl, Nat.le_of_ble_eq_true rfl⟩) ⟨hc, hs⟩ (fun _ _ h => z_xno h) (fun r w2 hq => ?_)
  obtain ⟨rfl, g2, g3⟩ := hq
  obtain ⟨fs3, m21⟩ := g2.rcv
  refine z_istore C (L1 := [_, _, _, _, _, _, _]) dL_law_191 (Nat.le_of_ble_eq_true rfl) rfl ?_
  refine z_aload_n C dL_law_193 rfl ?_
  refine z_callV C zm_X3_thrown zl_L_93 (q_thrown hl g2) dL_law_194 m21 (by rfl) (by rfl) (by rfl) (by exact Nat.le_of_ble_eq_true rfl) rfl (by exact ⟨Nat.le_of_ble_eq_true rfl, Nat.le_of_ble_eq_true rfl⟩) ⟨hc, hs⟩ (fun _ _ h => z_xno h) (fun r w3 hq => ?_)
  obtain ⟨rfl, rfl⟩ := hq
  rw [e1]
  have h41 := (g3 40 (by decide)).trans e4
  have hnx := zLI.mk2 e2 (e3.up (by omega)) g2 e4 g3
  refine z_iload C dL_law_197 rfl ?_
  refine z_icmp_eq C 204 dL_law_199 (by decide) (fun c1 => ?_) (fun c1 => ?_)
  · refine z_iload C dL_law_204 rfl ?_
    refine z_if_ne C 221 dL_law_206 (by decide) (fun c2 => ?_) (fun c2 => ?_)
    · refine z_goto C 1543 dL_law_221 (by decide) ?_
      exact next _ _ _ hnx
    · refine z_aload_n C dL_law_209 rfl ?_
      refine z_iconst C (0) dL_law_210 (by decide) ?_
      refine z_lald C dL_law_211 (by first | assumption | exact zk_eq | exact zk_ne (by first | assumption | exact zk_eq | exact zk_ne (by first | assumption | exact zk_eq | exact zk_ne (by first | assumption | exact zk_eq | exact zk_ne (by first | assumption | exact zk_eq | exact zk_ne (by first | assumption | exact zk_eq) (by first | decide | omega)) (by first | decide | omega)) (by first | decide | omega)) (by first | decide | omega)) (by first | decide | omega)) (by first | rfl | assumption) (by first | assumption | omega | decide) (by first | decide | omega) ?_
      rw [e5 c2]
      refine z_iload C dL_law_212 rfl ?_
      refine z_i2l C dL_law_214 ?_
      refine z_lcmp C dL_law_215 ?_
      rw [lvI, lg_cmp_self]
      refine z_if_eq C 221 dL_law_216 (by decide) (fun c4 => ?_) (fun c4 => ?_)
      · refine z_goto C 1543 dL_law_221 (by decide) ?_
        exact next _ _ _ hnx
      · exact absurd rfl c4
  · exact absurd rfl c1
theorem lc_signOff (hl : l.stackTraces = false) (C : zC z p l s m #[.ref b] meth c cL_law RL 7) (hX : va_X b L9 xs s s.heap) (hbl : b < s.heap.size) (hbA : ¬ zA z b) (hL9 : L9 ≤ 2048) (hi : zLI z a0 b0 ao n w) (hn : 4 * n + 4 ≤ L9) (hc : cells + 120 ≤ 601024) (hs : slots + 7000 ≤ 7293034)
    (next : ∀ (w1 : zW) (x5 x6 : Option Value), zLI z a0 b0 ao (n + 1) w1 → ZJ z p l e room_1 s m #[.ref b] below meth c Q (cells + 120) (slots + 7000) 1543 [some (.ref b), some (.ref a0), some (.ref b0), some (.ref ao), some (.int (nI (4 * n))), x5, x6] [] w1) :
    ZJ z p l e room_1 s m #[.ref b] below meth c Q cells slots 224 [some (.ref b), some (.ref a0), some (.ref b0), some (.ref ao), some (.int (nI (4 * n))), none, none] [] w := by
  obtain ⟨S, M, f0, hSR, hH, hM, h40⟩ := hi
  have hn6 : n ≤ 600 := by omega
  obtain ⟨c9, F0, F1, F3, F4, F5, F6, F7⟩ := hSR.fac hn6
  refine z_aload_n C dL_law_224 rfl ?_
  refine z_aload_n C dL_law_225 rfl ?_
  refine z_iload C dL_law_226 rfl ?_
  refine z_iconst C (1) dL_law_228 (by decide) ?_
  refine z_iadd C dL_law_229 ?_
  refine z_sld C hX hbl hbA hL9 dL_law_230 (by first | exact nI_1 _ | exact nI_add _ 2 | exact nI_add _ 3) (by omega) ?_
  refine z_aload_n C dL_law_231 rfl ?_
  have hag := agr_signOff hSR hn6 (xs (4 * n + 1))
  refine z_callSH C zh_signOff zl_L_96 (k_signOff hl hH h40 (xs (4 * n + 1))) dL_law_232 (by rfl) (by rfl) (by exact Nat.le_of_ble_eq_true rfl) rfl (by exact ⟨Nat.le_of_ble_eq_true rfl, Nat.le_of_ble_eq_true rfl⟩) ⟨hc, hs⟩ (fun r w1 hq => ?_)
  obtain ⟨S1, cd, f1, rfl, e1, e2, e3, e4, e5, e6⟩ := hq.agr hag (by decide +kernel) (by decide +kernel) h40
  have hM1 := hM.kp (w1 := w1) (fun j j1 j2 => e6 j (by omega) (by omega) (by omega))
  obtain ⟨fs2, m20⟩ := hM1.rcv
  clear hq
  refine z_istore C (L1 := [_, _, _, _, _, _, _]) dL_law_235 (Nat.le_of_ble_eq_true rfl) rfl ?_
  refine z_aload_n C dL_law_237 rfl ?_
  refine z_aload_n C dL_law_238 rfl ?_
  refine z_iload C dL_law_239 rfl ?_
  refine z_iconst C (1) dL_law_241 (by decide) ?_
  refine z_iadd C dL_law_242 ?_
  refine z_sld C hX hbl hbA hL9 dL_law_243 (by first | exact nI_1 _ | exact nI_add _ 2 | exact nI_add _ 3) (by omega) ?_
  refine z_callV C zm_X3_signOff zl_L_99 (q_signOff hl hM1 (xs (4 * n + 1))) dL_law_244 m20 (by rfl) (by rfl) (by rfl) (by exact Nat.le_of_ble_eq_true rfl) rfl (by exact ⟨Nat.le_of_ble_eq_true rfl, Nat.le_of_ble_eq_true rfl⟩) ⟨hc, hs⟩ (fun _ _ h => z_xno h) (fun r w2 hq => ?_)
  obtain ⟨rfl, g2, g3⟩ := hq
  obtain ⟨fs3, m21⟩ := g2.rcv
  refine z_istore C (L1 := [_, _, _, _, _, _, _]) dL_law_247 (Nat.le_of_ble_eq_true rfl) rfl ?_
  refine z_aload_n C dL_law_249 rfl ?_
  refine z_callV C zm_X3_thrown zl_L_93 (q_thrown hl g2) dL_law_250 m21 (by rfl) (by rfl) (by rfl) (by exact Nat.le_of_ble_eq_true rfl) rfl (by exact ⟨Nat.le_of_ble_eq_true rfl, Nat.le_of_ble_eq_true rfl⟩) ⟨hc, hs⟩ (fun _ _ h => z_xno h) (fun r w3 hq => ?_)
  obtain ⟨rfl, rfl⟩ := hq
  rw [e1]
  have h41 := (g3 40 (by decide)).trans e4
  have hnx := zLI.mk2 e2 (e3.up (by omega)) g2 e4 g3
  refine z_iload C dL_law_253 rfl ?_
  refine z_icmp_eq C 260 dL_law_255 (by decide) (fun c1 => ?_) (fun c1 => ?_)
  · refine z_iload C dL_law_260 rfl ?_
    refine z_if_ne C 277 dL_law_262 (by decide) (fun c2 => ?_) (fun c2 => ?_)
    · refine z_goto C 1543 dL_law_277 (by decide) ?_
      exact next _ _ _ hnx
    · refine z_aload_n C dL_law_265 rfl ?_
      refine z_iconst C (0) dL_law_266 (by decide) ?_
      refine z_lald C dL_law_267 (by first | assumption | exact zk_eq | exact zk_ne (by first | assumption | exact zk_eq | exact zk_ne (by first | assumption | exact zk_eq | exact zk_ne (by first | assumption | exact zk_eq | exact zk_ne (by first | assumption | exact zk_eq | exact zk_ne (by first | assumption | exact zk_eq) (by first | decide | omega)) (by first | decide | omega)) (by first | decide | omega)) (by first | decide | omega)) (by first | decide | omega)) (by first | rfl | assumption) (by first | assumption | omega | decide) (by first | decide | omega) ?_
      rw [e5 c2]
      refine z_iload C dL_law_268 rfl ?_
      refine z_i2l C dL_law_270 ?_
      refine z_lcmp C dL_law_271 ?_
      rw [lvI, lg_cmp_self]
      refine z_if_eq C 277 dL_law_272 (by decide) (fun c4 => ?_) (fun c4 => ?_)
      · refine z_goto C 1543 dL_law_277 (by decide) ?_
        exact next _ _ _ hnx
      · exact absurd rfl c4
  · exact absurd rfl c1
theorem lc_setSkills (hl : l.stackTraces = false) (C : zC z p l s m #[.ref b] meth c cL_law RL 7) (hX : va_X b L9 xs s s.heap) (hbl : b < s.heap.size) (hbA : ¬ zA z b) (hL9 : L9 ≤ 2048) (hi : zLI z a0 b0 ao n w) (hn : 4 * n + 4 ≤ L9) (hc : cells + 120 ≤ 601024) (hs : slots + 7000 ≤ 7293034)
    (next : ∀ (w1 : zW) (x5 x6 : Option Value), zLI z a0 b0 ao (n + 1) w1 → ZJ z p l e room_1 s m #[.ref b] below meth c Q (cells + 120) (slots + 7000) 1543 [some (.ref b), some (.ref a0), some (.ref b0), some (.ref ao), some (.int (nI (4 * n))), x5, x6] [] w1) :
    ZJ z p l e room_1 s m #[.ref b] below meth c Q cells slots 280 [some (.ref b), some (.ref a0), some (.ref b0), some (.ref ao), some (.int (nI (4 * n))), none, none] [] w := by
  obtain ⟨S, M, f0, hSR, hH, hM, h40⟩ := hi
  have hn6 : n ≤ 600 := by omega
  obtain ⟨c9, F0, F1, F3, F4, F5, F6, F7⟩ := hSR.fac hn6
  refine z_aload_n C dL_law_280 rfl ?_
  refine z_aload_n C dL_law_281 rfl ?_
  refine z_iload C dL_law_282 rfl ?_
  refine z_iconst C (1) dL_law_284 (by decide) ?_
  refine z_iadd C dL_law_285 ?_
  refine z_sld C hX hbl hbA hL9 dL_law_286 (by first | exact nI_1 _ | exact nI_add _ 2 | exact nI_add _ 3) (by omega) ?_
  refine z_aload_n C dL_law_287 rfl ?_
  refine z_iload C dL_law_288 rfl ?_
  refine z_iconst C (2) dL_law_290 (by decide) ?_
  refine z_iadd C dL_law_291 ?_
  refine z_sld C hX hbl hbA hL9 dL_law_292 (by first | exact nI_1 _ | exact nI_add _ 2 | exact nI_add _ 3) (by omega) ?_
  refine z_aload_n C dL_law_293 rfl ?_
  have hag := agr_setSkills hSR hn6 (xs (4 * n + 1)) (xs (4 * n + 2))
  refine z_callSH C zh_setSkills zl_L_100 (k_setSkills hl hH h40 (xs (4 * n + 1)) (xs (4 * n + 2))) dL_law_294 (by rfl) (by rfl) (by exact Nat.le_of_ble_eq_true rfl) rfl (by exact ⟨Nat.le_of_ble_eq_true rfl, Nat.le_of_ble_eq_true rfl⟩) ⟨hc, hs⟩ (fun r w1 hq => ?_)
  obtain ⟨S1, cd, f1, rfl, e1, e2, e3, e4, e5, e6⟩ := hq.agr hag (by decide +kernel) (by decide +kernel) h40
  have hM1 := hM.kp (w1 := w1) (fun j j1 j2 => e6 j (by omega) (by omega) (by omega))
  obtain ⟨fs2, m20⟩ := hM1.rcv
  clear hq
  refine z_istore C (L1 := [_, _, _, _, _, _, _]) dL_law_297 (Nat.le_of_ble_eq_true rfl) rfl ?_
  refine z_aload_n C dL_law_299 rfl ?_
  refine z_aload_n C dL_law_300 rfl ?_
  refine z_iload C dL_law_301 rfl ?_
  refine z_iconst C (1) dL_law_303 (by decide) ?_
  refine z_iadd C dL_law_304 ?_
  refine z_sld C hX hbl hbA hL9 dL_law_305 (by first | exact nI_1 _ | exact nI_add _ 2 | exact nI_add _ 3) (by omega) ?_
  refine z_aload_n C dL_law_306 rfl ?_
  refine z_iload C dL_law_307 rfl ?_
  refine z_iconst C (2) dL_law_309 (by decide) ?_
  refine z_iadd C dL_law_310 ?_
  refine z_sld C hX hbl hbA hL9 dL_law_311 (by first | exact nI_1 _ | exact nI_add _ 2 | exact nI_add _ 3) (by omega) ?_
  refine z_callV C zm_X3_setSkills zl_L_102 (q_setSkills hl hM1 (xs (4 * n + 1)) (xs (4 * n + 2))) dL_law_312 m20 (by rfl) (by rfl) (by rfl) (by exact Nat.le_of_ble_eq_true rfl) rfl (by exact ⟨Nat.le_of_ble_eq_true rfl, Nat.le_of_ble_eq_true rfl⟩) ⟨hc, hs⟩ (fun _ _ h => z_xno h) (fun r w2 hq => ?_)
  obtain ⟨rfl, g2, g3⟩ := hq
  obtain ⟨fs3, m21⟩ := g2.rcv
  refine z_istore C (L1 := [_, _, _, _, _, _, _]) dL_law_315 (Nat.le_of_ble_eq_true rfl) rfl ?_
  refine z_aload_n C dL_law_317 rfl ?_
  refine z_callV C zm_X3_thrown zl_L_93 (q_thrown hl g2) dL_law_318 m21 (by rfl) (by rfl) (by rfl) (by exact Nat.le_of_ble_eq_true rfl) rfl (by exact ⟨Nat.le_of_ble_eq_true rfl, Nat.le_of_ble_eq_true rfl⟩) ⟨hc, hs⟩ (fun _ _ h => z_xno h) (fun r w3 hq => ?_)
  obtain ⟨rfl, rfl⟩ := hq
  rw [e1]
  have h41 := (g3 40 (by decide)).trans e4
  have hnx := zLI.mk2 e2 (e3.up (by omega)) g2 e4 g3
  refine z_iload C dL_law_321 rfl ?_
  refine z_icmp_eq C 328 dL_law_323 (by decide) (fun c1 => ?_) (fun c1 => ?_)
  · refine z_iload C dL_law_328 rfl ?_
    refine z_if_ne C 345 dL_law_330 (by decide) (fun c2 => ?_) (fun c2 => ?_)
    · refine z_goto C 1543 dL_law_345 (by decide) ?_
      exact next _ _ _ hnx
    · refine z_aload_n C dL_law_333 rfl ?_
      refine z_iconst C (0) dL_law_334 (by decide) ?_
      refine z_lald C dL_law_335 (by first | assumption | exact zk_eq | exact zk_ne (by first | assumption | exact zk_eq | exact zk_ne (by first | assumption | exact zk_eq | exact zk_ne (by first | assumption | exact zk_eq | exact zk_ne (by first | assumption | exact zk_eq | exact zk_ne (by first | assumption | exact zk_eq) (by first | decide | omega)) (by first | decide | omega)) (by first | decide | omega)) (by first | decide | omega)) (by first | decide | omega)) (by first | rfl | assumption) (by first | assumption | omega | decide) (by first | decide | omega) ?_
      rw [e5 c2]
      refine z_iload C dL_law_336 rfl ?_
      refine z_i2l C dL_law_338 ?_
      refine z_lcmp C dL_law_339 ?_
      rw [lvI, lg_cmp_self]
      refine z_if_eq C 345 dL_law_340 (by decide) (fun c4 => ?_) (fun c4 => ?_)
      · refine z_goto C 1543 dL_law_345 (by decide) ?_
        exact next _ _ _ hnx
      · exact absurd rfl c4
  · exact absurd rfl c1
theorem lc_move (hl : l.stackTraces = false) (C : zC z p l s m #[.ref b] meth c cL_law RL 7) (hX : va_X b L9 xs s s.heap) (hbl : b < s.heap.size) (hbA : ¬ zA z b) (hL9 : L9 ≤ 2048) (hi : zLI z a0 b0 ao n w) (hn : 4 * n + 4 ≤ L9) (hc : cells + 120 ≤ 601024) (hs : slots + 7000 ≤ 7293034)
    (next : ∀ (w1 : zW) (x5 x6 : Option Value), zLI z a0 b0 ao (n + 1) w1 → ZJ z p l e room_1 s m #[.ref b] below meth c Q (cells + 120) (slots + 7000) 1543 [some (.ref b), some (.ref a0), some (.ref b0), some (.ref ao), some (.int (nI (4 * n))), x5, x6] [] w1) :
    ZJ z p l e room_1 s m #[.ref b] below meth c Q cells slots 348 [some (.ref b), some (.ref a0), some (.ref b0), some (.ref ao), some (.int (nI (4 * n))), none, none] [] w := by
  obtain ⟨S, M, f0, hSR, hH, hM, h40⟩ := hi
  have hn6 : n ≤ 600 := by omega
  obtain ⟨c9, F0, F1, F3, F4, F5, F6, F7⟩ := hSR.fac hn6
  refine z_aload_n C dL_law_348 rfl ?_
  refine z_aload_n C dL_law_349 rfl ?_
  refine z_iload C dL_law_350 rfl ?_
  refine z_iconst C (1) dL_law_352 (by decide) ?_
  refine z_iadd C dL_law_353 ?_
  refine z_sld C hX hbl hbA hL9 dL_law_354 (by first | exact nI_1 _ | exact nI_add _ 2 | exact nI_add _ 3) (by omega) ?_
  refine z_aload_n C dL_law_355 rfl ?_
  refine z_iload C dL_law_356 rfl ?_
  refine z_iconst C (2) dL_law_358 (by decide) ?_
  refine z_iadd C dL_law_359 ?_
  refine z_sld C hX hbl hbA hL9 dL_law_360 (by first | exact nI_1 _ | exact nI_add _ 2 | exact nI_add _ 3) (by omega) ?_
  refine z_aload_n C dL_law_361 rfl ?_
  have hag := agr_move hSR hn6 (xs (4 * n + 1)) (xs (4 * n + 2))
  refine z_callSH C zh_move zl_L_103 (k_move hl hH h40 (xs (4 * n + 1)) (xs (4 * n + 2))) dL_law_362 (by rfl) (by rfl) (by exact Nat.le_of_ble_eq_true rfl) rfl (by exact ⟨Nat.le_of_ble_eq_true rfl, Nat.le_of_ble_eq_true rfl⟩) ⟨hc, hs⟩ (fun r w1 hq => ?_)
  obtain ⟨S1, cd, f1, rfl, e1, e2, e3, e4, e5, e6⟩ := hq.agr hag (by decide +kernel) (by decide +kernel) h40
  have hM1 := hM.kp (w1 := w1) (fun j j1 j2 => e6 j (by omega) (by omega) (by omega))
  obtain ⟨fs2, m20⟩ := hM1.rcv
  clear hq
  refine z_istore C (L1 := [_, _, _, _, _, _, _]) dL_law_365 (Nat.le_of_ble_eq_true rfl) rfl ?_
  refine z_aload_n C dL_law_367 rfl ?_
  refine z_aload_n C dL_law_368 rfl ?_
  refine z_iload C dL_law_369 rfl ?_
  refine z_iconst C (1) dL_law_371 (by decide) ?_
  refine z_iadd C dL_law_372 ?_
  refine z_sld C hX hbl hbA hL9 dL_law_373 (by first | exact nI_1 _ | exact nI_add _ 2 | exact nI_add _ 3) (by omega) ?_
  refine z_aload_n C dL_law_374 rfl ?_
  refine z_iload C dL_law_375 rfl ?_
  refine z_iconst C (2) dL_law_377 (by decide) ?_
  refine z_iadd C dL_law_378 ?_
  refine z_sld C hX hbl hbA hL9 dL_law_379 (by first | exact nI_1 _ | exact nI_add _ 2 | exact nI_add _ 3) (by omega) ?_
  refine z_callV C zm_X3_move zl_L_105 (q_move hl hM1 (xs (4 * n + 1)) (xs (4 * n + 2))) dL_law_380 m20 (by rfl) (by rfl) (by rfl) (by exact Nat.le_of_ble_eq_true rfl) rfl (by exact ⟨Nat.le_of_ble_eq_true rfl, Nat.le_of_ble_eq_true rfl⟩) ⟨hc, hs⟩ (fun _ _ h => z_xno h) (fun r w2 hq => ?_)
  obtain ⟨rfl, g2, g3⟩ := hq
  obtain ⟨fs3, m21⟩ := g2.rcv
  refine z_istore C (L1 := [_, _, _, _, _, _, _]) dL_law_383 (Nat.le_of_ble_eq_true rfl) rfl ?_
  refine z_aload_n C dL_law_385 rfl ?_
  refine z_callV C zm_X3_thrown zl_L_93 (q_thrown hl g2) dL_law_386 m21 (by rfl) (by rfl) (by rfl) (by exact Nat.le_of_ble_eq_true rfl) rfl (by exact ⟨Nat.le_of_ble_eq_true rfl, Nat.le_of_ble_eq_true rfl⟩) ⟨hc, hs⟩ (fun _ _ h => z_xno h) (fun r w3 hq => ?_)
  obtain ⟨rfl, rfl⟩ := hq
  rw [e1]
  have h41 := (g3 40 (by decide)).trans e4
  have hnx := zLI.mk2 e2 (e3.up (by omega)) g2 e4 g3
  refine z_iload C dL_law_389 rfl ?_
  refine z_icmp_eq C 396 dL_law_391 (by decide) (fun c1 => ?_) (fun c1 => ?_)
  · refine z_iload C dL_law_396 rfl ?_
    refine z_if_ne C 413 dL_law_398 (by decide) (fun c2 => ?_) (fun c2 => ?_)
    · refine z_goto C 1543 dL_law_413 (by decide) ?_
      exact next _ _ _ hnx
    · refine z_aload_n C dL_law_401 rfl ?_
      refine z_iconst C (0) dL_law_402 (by decide) ?_
      refine z_lald C dL_law_403 (by first | assumption | exact zk_eq | exact zk_ne (by first | assumption | exact zk_eq | exact zk_ne (by first | assumption | exact zk_eq | exact zk_ne (by first | assumption | exact zk_eq | exact zk_ne (by first | assumption | exact zk_eq | exact zk_ne (by first | assumption | exact zk_eq) (by first | decide | omega)) (by first | decide | omega)) (by first | decide | omega)) (by first | decide | omega)) (by first | decide | omega)) (by first | rfl | assumption) (by first | assumption | omega | decide) (by first | decide | omega) ?_
      rw [e5 c2]
      refine z_iload C dL_law_404 rfl ?_
      refine z_i2l C dL_law_406 ?_
      refine z_lcmp C dL_law_407 ?_
      rw [lvI, lg_cmp_self]
      refine z_if_eq C 413 dL_law_408 (by decide) (fun c4 => ?_) (fun c4 => ?_)
      · refine z_goto C 1543 dL_law_413 (by decide) ?_
        exact next _ _ _ hnx
      · exact absurd rfl c4
  · exact absurd rfl c1
theorem lc_setAway (hl : l.stackTraces = false) (C : zC z p l s m #[.ref b] meth c cL_law RL 7) (hX : va_X b L9 xs s s.heap) (hbl : b < s.heap.size) (hbA : ¬ zA z b) (hL9 : L9 ≤ 2048) (hi : zLI z a0 b0 ao n w) (hn : 4 * n + 4 ≤ L9) (hc : cells + 120 ≤ 601024) (hs : slots + 7000 ≤ 7293034)
    (next : ∀ (w1 : zW) (x5 x6 : Option Value), zLI z a0 b0 ao (n + 1) w1 → ZJ z p l e room_1 s m #[.ref b] below meth c Q (cells + 120) (slots + 7000) 1543 [some (.ref b), some (.ref a0), some (.ref b0), some (.ref ao), some (.int (nI (4 * n))), x5, x6] [] w1) :
    ZJ z p l e room_1 s m #[.ref b] below meth c Q cells slots 416 [some (.ref b), some (.ref a0), some (.ref b0), some (.ref ao), some (.int (nI (4 * n))), none, none] [] w := by
  obtain ⟨S, M, f0, hSR, hH, hM, h40⟩ := hi
  have hn6 : n ≤ 600 := by omega
  obtain ⟨c9, F0, F1, F3, F4, F5, F6, F7⟩ := hSR.fac hn6
  have tail : ∀ v : Bool, v = decide (¬ (xs (4 * n + 2)) = 0) → ZJ z p l e room_1 s m #[.ref b] below meth c Q cells slots 437 [some (.ref b), some (.ref a0), some (.ref b0), some (.ref ao), some (.int (nI (4 * n))), none, none] [.int (zb v), .int (xs (4 * n + 1)), .ref a0] w := by
    intro v hv
    refine z_aload_n C dL_law_437 rfl ?_
    have hag := agr_setAway hSR hn6 (xs (4 * n + 1)) v
    refine z_callSH C zh_setAway zl_L_106 (k_setAway hl hH h40 (xs (4 * n + 1)) v (fun q hq => (F7 q hq).1)) dL_law_438 (by rfl) (by rfl) (by exact Nat.le_of_ble_eq_true rfl) rfl (by exact ⟨Nat.le_of_ble_eq_true rfl, Nat.le_of_ble_eq_true rfl⟩) ⟨hc, hs⟩ (fun r w1 hq => ?_)
    obtain ⟨S1, cd, f1, rfl, e1, e2, e3, e4, e5, e6⟩ := hq.agr hag (by decide +kernel) (by decide +kernel) h40
    have hM1 := hM.kp (w1 := w1) (fun j j1 j2 => e6 j (by omega) (by omega) (by omega))
    obtain ⟨fs2, m20⟩ := hM1.rcv
    clear hq
    have tail2 : ZJ z p l e room_1 s m #[.ref b] below meth c Q (cells + 120) (slots + 7000) 464 [some (.ref b), some (.ref a0), some (.ref b0), some (.ref ao), some (.int (nI (4 * n))), some (.int cd), none] [.int (zb v), .int (xs (4 * n + 1)), .ref b0] w1 := by
      refine z_callV C zm_X3_setAway zl_L_109 (q_setAway hl hM1 (xs (4 * n + 1)) v (fun k hk => (F6 _ k hk).1)) dL_law_464 m20 (by rfl) (by rfl) (by rfl) (by exact Nat.le_of_ble_eq_true rfl) rfl (by exact ⟨Nat.le_of_ble_eq_true rfl, Nat.le_of_ble_eq_true rfl⟩) ⟨hc, hs⟩ (fun _ _ h => z_xno h) (fun r w2 hq => ?_)
      obtain ⟨rfl, g2, g3⟩ := hq
      obtain ⟨fs3, m21⟩ := g2.rcv
      refine z_istore C (L1 := [_, _, _, _, _, _, _]) dL_law_467 (Nat.le_of_ble_eq_true rfl) rfl ?_
      refine z_aload_n C dL_law_469 rfl ?_
      refine z_callV C zm_X3_thrown zl_L_93 (q_thrown hl g2) dL_law_470 m21 (by rfl) (by rfl) (by rfl) (by exact Nat.le_of_ble_eq_true rfl) rfl (by exact ⟨Nat.le_of_ble_eq_true rfl, Nat.le_of_ble_eq_true rfl⟩) ⟨hc, hs⟩ (fun _ _ h => z_xno h) (fun r w3 hq => ?_)
      obtain ⟨rfl, rfl⟩ := hq
      rw [e1]
      have h41 := (g3 40 (by decide)).trans e4
      have hnx := zLI.mk2 e2 (e3.up (by omega)) g2 e4 g3
      refine z_iload C dL_law_473 rfl ?_
      refine z_icmp_eq C 480 dL_law_475 (by decide) (fun c1 => ?_) (fun c1 => ?_)
      · refine z_iload C dL_law_480 rfl ?_
        refine z_if_ne C 504 dL_law_482 (by decide) (fun c2 => ?_) (fun c2 => ?_)
        · refine z_goto C 1543 dL_law_504 (by decide) ?_
          exact next _ _ _ hnx
        · refine z_aload_n C dL_law_485 rfl ?_
          refine z_iconst C (0) dL_law_486 (by decide) ?_
          refine z_lald C dL_law_487 (by first | assumption | exact zk_eq | exact zk_ne (by first | assumption | exact zk_eq | exact zk_ne (by first | assumption | exact zk_eq | exact zk_ne (by first | assumption | exact zk_eq | exact zk_ne (by first | assumption | exact zk_eq | exact zk_ne (by first | assumption | exact zk_eq) (by first | decide | omega)) (by first | decide | omega)) (by first | decide | omega)) (by first | decide | omega)) (by first | decide | omega)) (by first | rfl | assumption) (by first | assumption | omega | decide) (by first | decide | omega) ?_
          rw [e5 c2]
          refine z_iload C dL_law_488 rfl ?_
          refine z_if_eq C 497 dL_law_490 (by decide) (fun c3 => ?_) (fun c3 => ?_)
          · rw [lvZ, if_pos c3]
            refine z_lconst C 0 dL_law_497 (by decide) ?_
            refine z_lcmp C dL_law_498 ?_
            rw [lg_cmp_self]
            refine z_if_eq C 504 dL_law_499 (by decide) (fun c4 => ?_) (fun c4 => ?_)
            · refine z_goto C 1543 dL_law_504 (by decide) ?_
              exact next _ _ _ hnx
            · exact absurd rfl c4
          · rw [lvZ, if_neg c3]
            refine z_lconst C 1 dL_law_493 (by decide) ?_
            refine z_goto C 498 dL_law_494 (by decide) ?_
            refine z_lcmp C dL_law_498 ?_
            rw [lg_cmp_self]
            refine z_if_eq C 504 dL_law_499 (by decide) (fun c4 => ?_) (fun c4 => ?_)
            · refine z_goto C 1543 dL_law_504 (by decide) ?_
              exact next _ _ _ hnx
            · exact absurd rfl c4
      · exact absurd rfl c1
    refine z_istore C (L1 := [_, _, _, _, _, _, _]) dL_law_441 (Nat.le_of_ble_eq_true rfl) rfl ?_
    refine z_aload_n C dL_law_443 rfl ?_
    refine z_aload_n C dL_law_444 rfl ?_
    refine z_iload C dL_law_445 rfl ?_
    refine z_iconst C (1) dL_law_447 (by decide) ?_
    refine z_iadd C dL_law_448 ?_
    refine z_sld C hX hbl hbA hL9 dL_law_449 (by first | exact nI_1 _ | exact nI_add _ 2 | exact nI_add _ 3) (by omega) ?_
    refine z_aload_n C dL_law_450 rfl ?_
    refine z_iload C dL_law_451 rfl ?_
    refine z_iconst C (2) dL_law_453 (by decide) ?_
    refine z_iadd C dL_law_454 ?_
    refine z_sld C hX hbl hbA hL9 dL_law_455 (by first | exact nI_1 _ | exact nI_add _ 2 | exact nI_add _ 3) (by omega) ?_
    refine z_if_eq C 463 dL_law_456 (by decide) (fun c9 => ?_) (fun c9 => ?_)
    · refine z_iconst C (0) dL_law_463 (by decide) ?_
      have hv2 : v = false := by rw [hv]; simp [c9]
      subst hv2
      exact tail2
    · refine z_iconst C (1) dL_law_459 (by decide) ?_
      refine z_goto C 464 dL_law_460 (by decide) ?_
      have hv2 : v = true := by rw [hv]; simp [c9]
      subst hv2
      exact tail2
  refine z_aload_n C dL_law_416 rfl ?_
  refine z_aload_n C dL_law_417 rfl ?_
  refine z_iload C dL_law_418 rfl ?_
  refine z_iconst C (1) dL_law_420 (by decide) ?_
  refine z_iadd C dL_law_421 ?_
  refine z_sld C hX hbl hbA hL9 dL_law_422 (by first | exact nI_1 _ | exact nI_add _ 2 | exact nI_add _ 3) (by omega) ?_
  refine z_aload_n C dL_law_423 rfl ?_
  refine z_iload C dL_law_424 rfl ?_
  refine z_iconst C (2) dL_law_426 (by decide) ?_
  refine z_iadd C dL_law_427 ?_
  refine z_sld C hX hbl hbA hL9 dL_law_428 (by first | exact nI_1 _ | exact nI_add _ 2 | exact nI_add _ 3) (by omega) ?_
  refine z_if_eq C 436 dL_law_429 (by decide) (fun c9 => ?_) (fun c9 => ?_)
  · refine z_iconst C (0) dL_law_436 (by decide) ?_
    exact tail false (by simp [c9])
  · refine z_iconst C (1) dL_law_432 (by decide) ?_
    refine z_goto C 437 dL_law_433 (by decide) ?_
    exact tail true (by simp [c9])
theorem lc_setRefusing (hl : l.stackTraces = false) (C : zC z p l s m #[.ref b] meth c cL_law RL 7) (hX : va_X b L9 xs s s.heap) (hbl : b < s.heap.size) (hbA : ¬ zA z b) (hL9 : L9 ≤ 2048) (hi : zLI z a0 b0 ao n w) (hn : 4 * n + 4 ≤ L9) (hc : cells + 120 ≤ 601024) (hs : slots + 7000 ≤ 7293034)
    (next : ∀ (w1 : zW) (x5 x6 : Option Value), zLI z a0 b0 ao (n + 1) w1 → ZJ z p l e room_1 s m #[.ref b] below meth c Q (cells + 120) (slots + 7000) 1543 [some (.ref b), some (.ref a0), some (.ref b0), some (.ref ao), some (.int (nI (4 * n))), x5, x6] [] w1) :
    ZJ z p l e room_1 s m #[.ref b] below meth c Q cells slots 507 [some (.ref b), some (.ref a0), some (.ref b0), some (.ref ao), some (.int (nI (4 * n))), none, none] [] w := by
  obtain ⟨S, M, f0, hSR, hH, hM, h40⟩ := hi
  have hn6 : n ≤ 600 := by omega
  obtain ⟨c9, F0, F1, F3, F4, F5, F6, F7⟩ := hSR.fac hn6
  have tail : ∀ v : Bool, v = decide (¬ (xs (4 * n + 2)) = 0) → ZJ z p l e room_1 s m #[.ref b] below meth c Q cells slots 528 [some (.ref b), some (.ref a0), some (.ref b0), some (.ref ao), some (.int (nI (4 * n))), none, none] [.int (zb v), .int (xs (4 * n + 1)), .ref a0] w := by
    intro v hv
    refine z_aload_n C dL_law_528 rfl ?_
    have hag := agr_setRefusing hSR hn6 (xs (4 * n + 1)) v
    refine z_callSH C zh_setRefusing zl_L_110 (k_setRefusing hl hH h40 (xs (4 * n + 1)) v (fun q hq => (F7 q hq).2.1)) dL_law_529 (by rfl) (by rfl) (by exact Nat.le_of_ble_eq_true rfl) rfl (by exact ⟨Nat.le_of_ble_eq_true rfl, Nat.le_of_ble_eq_true rfl⟩) ⟨hc, hs⟩ (fun r w1 hq => ?_)
    obtain ⟨S1, cd, f1, rfl, e1, e2, e3, e4, e5, e6⟩ := hq.agr hag (by decide +kernel) (by decide +kernel) h40
    have hM1 := hM.kp (w1 := w1) (fun j j1 j2 => e6 j (by omega) (by omega) (by omega))
    obtain ⟨fs2, m20⟩ := hM1.rcv
    clear hq
    have tail2 : ZJ z p l e room_1 s m #[.ref b] below meth c Q (cells + 120) (slots + 7000) 555 [some (.ref b), some (.ref a0), some (.ref b0), some (.ref ao), some (.int (nI (4 * n))), some (.int cd), none] [.int (zb v), .int (xs (4 * n + 1)), .ref b0] w1 := by
      refine z_callV C zm_X3_setRefusing zl_L_112 (q_setRefusing hl hM1 (xs (4 * n + 1)) v (fun k hk => (F6 _ k hk).2.1)) dL_law_555 m20 (by rfl) (by rfl) (by rfl) (by exact Nat.le_of_ble_eq_true rfl) rfl (by exact ⟨Nat.le_of_ble_eq_true rfl, Nat.le_of_ble_eq_true rfl⟩) ⟨hc, hs⟩ (fun _ _ h => z_xno h) (fun r w2 hq => ?_)
      obtain ⟨rfl, g2, g3⟩ := hq
      obtain ⟨fs3, m21⟩ := g2.rcv
      refine z_istore C (L1 := [_, _, _, _, _, _, _]) dL_law_558 (Nat.le_of_ble_eq_true rfl) rfl ?_
      refine z_aload_n C dL_law_560 rfl ?_
      refine z_callV C zm_X3_thrown zl_L_93 (q_thrown hl g2) dL_law_561 m21 (by rfl) (by rfl) (by rfl) (by exact Nat.le_of_ble_eq_true rfl) rfl (by exact ⟨Nat.le_of_ble_eq_true rfl, Nat.le_of_ble_eq_true rfl⟩) ⟨hc, hs⟩ (fun _ _ h => z_xno h) (fun r w3 hq => ?_)
      obtain ⟨rfl, rfl⟩ := hq
      rw [e1]
      have h41 := (g3 40 (by decide)).trans e4
      have hnx := zLI.mk2 e2 (e3.up (by omega)) g2 e4 g3
      refine z_iload C dL_law_564 rfl ?_
      refine z_icmp_eq C 571 dL_law_566 (by decide) (fun c1 => ?_) (fun c1 => ?_)
      · refine z_iload C dL_law_571 rfl ?_
        refine z_if_ne C 595 dL_law_573 (by decide) (fun c2 => ?_) (fun c2 => ?_)
        · refine z_goto C 1543 dL_law_595 (by decide) ?_
          exact next _ _ _ hnx
        · refine z_aload_n C dL_law_576 rfl ?_
          refine z_iconst C (0) dL_law_577 (by decide) ?_
          refine z_lald C dL_law_578 (by first | assumption | exact zk_eq | exact zk_ne (by first | assumption | exact zk_eq | exact zk_ne (by first | assumption | exact zk_eq | exact zk_ne (by first | assumption | exact zk_eq | exact zk_ne (by first | assumption | exact zk_eq | exact zk_ne (by first | assumption | exact zk_eq) (by first | decide | omega)) (by first | decide | omega)) (by first | decide | omega)) (by first | decide | omega)) (by first | decide | omega)) (by first | rfl | assumption) (by first | assumption | omega | decide) (by first | decide | omega) ?_
          rw [e5 c2]
          refine z_iload C dL_law_579 rfl ?_
          refine z_if_eq C 588 dL_law_581 (by decide) (fun c3 => ?_) (fun c3 => ?_)
          · rw [lvZ, if_pos c3]
            refine z_lconst C 0 dL_law_588 (by decide) ?_
            refine z_lcmp C dL_law_589 ?_
            rw [lg_cmp_self]
            refine z_if_eq C 595 dL_law_590 (by decide) (fun c4 => ?_) (fun c4 => ?_)
            · refine z_goto C 1543 dL_law_595 (by decide) ?_
              exact next _ _ _ hnx
            · exact absurd rfl c4
          · rw [lvZ, if_neg c3]
            refine z_lconst C 1 dL_law_584 (by decide) ?_
            refine z_goto C 589 dL_law_585 (by decide) ?_
            refine z_lcmp C dL_law_589 ?_
            rw [lg_cmp_self]
            refine z_if_eq C 595 dL_law_590 (by decide) (fun c4 => ?_) (fun c4 => ?_)
            · refine z_goto C 1543 dL_law_595 (by decide) ?_
              exact next _ _ _ hnx
            · exact absurd rfl c4
      · exact absurd rfl c1
    refine z_istore C (L1 := [_, _, _, _, _, _, _]) dL_law_532 (Nat.le_of_ble_eq_true rfl) rfl ?_
    refine z_aload_n C dL_law_534 rfl ?_
    refine z_aload_n C dL_law_535 rfl ?_
    refine z_iload C dL_law_536 rfl ?_
    refine z_iconst C (1) dL_law_538 (by decide) ?_
    refine z_iadd C dL_law_539 ?_
    refine z_sld C hX hbl hbA hL9 dL_law_540 (by first | exact nI_1 _ | exact nI_add _ 2 | exact nI_add _ 3) (by omega) ?_
    refine z_aload_n C dL_law_541 rfl ?_
    refine z_iload C dL_law_542 rfl ?_
    refine z_iconst C (2) dL_law_544 (by decide) ?_
    refine z_iadd C dL_law_545 ?_
    refine z_sld C hX hbl hbA hL9 dL_law_546 (by first | exact nI_1 _ | exact nI_add _ 2 | exact nI_add _ 3) (by omega) ?_
    refine z_if_eq C 554 dL_law_547 (by decide) (fun c9 => ?_) (fun c9 => ?_)
    · refine z_iconst C (0) dL_law_554 (by decide) ?_
      have hv2 : v = false := by rw [hv]; simp [c9]
      subst hv2
      exact tail2
    · refine z_iconst C (1) dL_law_550 (by decide) ?_
      refine z_goto C 555 dL_law_551 (by decide) ?_
      have hv2 : v = true := by rw [hv]; simp [c9]
      subst hv2
      exact tail2
  refine z_aload_n C dL_law_507 rfl ?_
  refine z_aload_n C dL_law_508 rfl ?_
  refine z_iload C dL_law_509 rfl ?_
  refine z_iconst C (1) dL_law_511 (by decide) ?_
  refine z_iadd C dL_law_512 ?_
  refine z_sld C hX hbl hbA hL9 dL_law_513 (by first | exact nI_1 _ | exact nI_add _ 2 | exact nI_add _ 3) (by omega) ?_
  refine z_aload_n C dL_law_514 rfl ?_
  refine z_iload C dL_law_515 rfl ?_
  refine z_iconst C (2) dL_law_517 (by decide) ?_
  refine z_iadd C dL_law_518 ?_
  refine z_sld C hX hbl hbA hL9 dL_law_519 (by first | exact nI_1 _ | exact nI_add _ 2 | exact nI_add _ 3) (by omega) ?_
  refine z_if_eq C 527 dL_law_520 (by decide) (fun c9 => ?_) (fun c9 => ?_)
  · refine z_iconst C (0) dL_law_527 (by decide) ?_
    exact tail false (by simp [c9])
  · refine z_iconst C (1) dL_law_523 (by decide) ?_
    refine z_goto C 528 dL_law_524 (by decide) ?_
    exact tail true (by simp [c9])
theorem lc_setRule (hl : l.stackTraces = false) (C : zC z p l s m #[.ref b] meth c cL_law RL 7) (hX : va_X b L9 xs s s.heap) (hbl : b < s.heap.size) (hbA : ¬ zA z b) (hL9 : L9 ≤ 2048) (hi : zLI z a0 b0 ao n w) (hn : 4 * n + 4 ≤ L9) (hc : cells + 120 ≤ 601024) (hs : slots + 7000 ≤ 7293034)
    (next : ∀ (w1 : zW) (x5 x6 : Option Value), zLI z a0 b0 ao (n + 1) w1 → ZJ z p l e room_1 s m #[.ref b] below meth c Q (cells + 120) (slots + 7000) 1543 [some (.ref b), some (.ref a0), some (.ref b0), some (.ref ao), some (.int (nI (4 * n))), x5, x6] [] w1) :
    ZJ z p l e room_1 s m #[.ref b] below meth c Q cells slots 598 [some (.ref b), some (.ref a0), some (.ref b0), some (.ref ao), some (.int (nI (4 * n))), none, none] [] w := by
  obtain ⟨S, M, f0, hSR, hH, hM, h40⟩ := hi
  have hn6 : n ≤ 600 := by omega
  obtain ⟨c9, F0, F1, F3, F4, F5, F6, F7⟩ := hSR.fac hn6
  have tail : ∀ v : Bool, v = decide (¬ (xs (4 * n + 2)) = 0) → ZJ z p l e room_1 s m #[.ref b] below meth c Q cells slots 619 [some (.ref b), some (.ref a0), some (.ref b0), some (.ref ao), some (.int (nI (4 * n))), none, none] [.int (zb v), .int (xs (4 * n + 1)), .ref a0] w := by
    intro v hv
    refine z_aload_n C dL_law_619 rfl ?_
    refine z_iload C dL_law_620 rfl ?_
    refine z_iconst C (3) dL_law_622 (by decide) ?_
    refine z_iadd C dL_law_623 ?_
    refine z_sld C hX hbl hbA hL9 dL_law_624 (by first | exact nI_1 _ | exact nI_add _ 2 | exact nI_add _ 3) (by omega) ?_
    refine z_aload_n C dL_law_625 rfl ?_
    have hag := agr_setRule hSR (xs (4 * n + 1)) (zb v) (xs (4 * n + 3))
    refine z_callSH C zh_setRule zl_L_113 (k_setRule hl hH h40 (xs (4 * n + 1)) v (xs (4 * n + 3))) dL_law_626 (by rfl) (by rfl) (by exact Nat.le_of_ble_eq_true rfl) rfl (by exact ⟨Nat.le_of_ble_eq_true rfl, Nat.le_of_ble_eq_true rfl⟩) ⟨hc, hs⟩ (fun r w1 hq => ?_)
    obtain ⟨S1, cd, f1, rfl, e1, e2, e3, e4, e5, e6⟩ := hq.agr hag (by decide +kernel) (by decide +kernel) h40
    have hM1 := hM.kp (w1 := w1) (fun j j1 j2 => e6 j (by omega) (by omega) (by omega))
    obtain ⟨fs2, m20⟩ := hM1.rcv
    clear hq
    have tail2 : ZJ z p l e room_1 s m #[.ref b] below meth c Q (cells + 120) (slots + 7000) 652 [some (.ref b), some (.ref a0), some (.ref b0), some (.ref ao), some (.int (nI (4 * n))), some (.int cd), none] [.int (zb v), .int (xs (4 * n + 1)), .ref b0] w1 := by
      refine z_aload_n C dL_law_652 rfl ?_
      refine z_iload C dL_law_653 rfl ?_
      refine z_iconst C (3) dL_law_655 (by decide) ?_
      refine z_iadd C dL_law_656 ?_
      refine z_sld C hX hbl hbA hL9 dL_law_657 (by first | exact nI_1 _ | exact nI_add _ 2 | exact nI_add _ 3) (by omega) ?_
      refine z_callV C zm_X3_setRule zl_L_116 (q_setRule hl hM1 (xs (4 * n + 1)) v (xs (4 * n + 3))) dL_law_658 m20 (by rfl) (by rfl) (by rfl) (by exact Nat.le_of_ble_eq_true rfl) rfl (by exact ⟨Nat.le_of_ble_eq_true rfl, Nat.le_of_ble_eq_true rfl⟩) ⟨hc, hs⟩ (fun _ _ h => z_xno h) (fun r w2 hq => ?_)
      obtain ⟨rfl, g2, g3⟩ := hq
      obtain ⟨fs3, m21⟩ := g2.rcv
      refine z_istore C (L1 := [_, _, _, _, _, _, _]) dL_law_661 (Nat.le_of_ble_eq_true rfl) rfl ?_
      refine z_aload_n C dL_law_663 rfl ?_
      refine z_callV C zm_X3_thrown zl_L_93 (q_thrown hl g2) dL_law_664 m21 (by rfl) (by rfl) (by rfl) (by exact Nat.le_of_ble_eq_true rfl) rfl (by exact ⟨Nat.le_of_ble_eq_true rfl, Nat.le_of_ble_eq_true rfl⟩) ⟨hc, hs⟩ (fun _ _ h => z_xno h) (fun r w3 hq => ?_)
      obtain ⟨rfl, rfl⟩ := hq
      rw [e1]
      have h41 := (g3 40 (by decide)).trans e4
      have hnx := zLI.mk2 e2 (e3.up (by omega)) g2 e4 g3
      refine z_iload C dL_law_667 rfl ?_
      refine z_icmp_eq C 674 dL_law_669 (by decide) (fun c1 => ?_) (fun c1 => ?_)
      · refine z_iload C dL_law_674 rfl ?_
        refine z_if_ne C 691 dL_law_676 (by decide) (fun c2 => ?_) (fun c2 => ?_)
        · refine z_goto C 1543 dL_law_691 (by decide) ?_
          exact next _ _ _ hnx
        · refine z_aload_n C dL_law_679 rfl ?_
          refine z_iconst C (0) dL_law_680 (by decide) ?_
          refine z_lald C dL_law_681 (by first | assumption | exact zk_eq | exact zk_ne (by first | assumption | exact zk_eq | exact zk_ne (by first | assumption | exact zk_eq | exact zk_ne (by first | assumption | exact zk_eq | exact zk_ne (by first | assumption | exact zk_eq | exact zk_ne (by first | assumption | exact zk_eq) (by first | decide | omega)) (by first | decide | omega)) (by first | decide | omega)) (by first | decide | omega)) (by first | decide | omega)) (by first | rfl | assumption) (by first | assumption | omega | decide) (by first | decide | omega) ?_
          rw [e5 c2]
          refine z_iload C dL_law_682 rfl ?_
          refine z_i2l C dL_law_684 ?_
          refine z_lcmp C dL_law_685 ?_
          rw [lvI, lg_cmp_self]
          refine z_if_eq C 691 dL_law_686 (by decide) (fun c4 => ?_) (fun c4 => ?_)
          · refine z_goto C 1543 dL_law_691 (by decide) ?_
            exact next _ _ _ hnx
          · exact absurd rfl c4
      · exact absurd rfl c1
    refine z_istore C (L1 := [_, _, _, _, _, _, _]) dL_law_629 (Nat.le_of_ble_eq_true rfl) rfl ?_
    refine z_aload_n C dL_law_631 rfl ?_
    refine z_aload_n C dL_law_632 rfl ?_
    refine z_iload C dL_law_633 rfl ?_
    refine z_iconst C (1) dL_law_635 (by decide) ?_
    refine z_iadd C dL_law_636 ?_
    refine z_sld C hX hbl hbA hL9 dL_law_637 (by first | exact nI_1 _ | exact nI_add _ 2 | exact nI_add _ 3) (by omega) ?_
    refine z_aload_n C dL_law_638 rfl ?_
    refine z_iload C dL_law_639 rfl ?_
    refine z_iconst C (2) dL_law_641 (by decide) ?_
    refine z_iadd C dL_law_642 ?_
    refine z_sld C hX hbl hbA hL9 dL_law_643 (by first | exact nI_1 _ | exact nI_add _ 2 | exact nI_add _ 3) (by omega) ?_
    refine z_if_eq C 651 dL_law_644 (by decide) (fun c9 => ?_) (fun c9 => ?_)
    · refine z_iconst C (0) dL_law_651 (by decide) ?_
      have hv2 : v = false := by rw [hv]; simp [c9]
      subst hv2
      exact tail2
    · refine z_iconst C (1) dL_law_647 (by decide) ?_
      refine z_goto C 652 dL_law_648 (by decide) ?_
      have hv2 : v = true := by rw [hv]; simp [c9]
      subst hv2
      exact tail2
  refine z_aload_n C dL_law_598 rfl ?_
  refine z_aload_n C dL_law_599 rfl ?_
  refine z_iload C dL_law_600 rfl ?_
  refine z_iconst C (1) dL_law_602 (by decide) ?_
  refine z_iadd C dL_law_603 ?_
  refine z_sld C hX hbl hbA hL9 dL_law_604 (by first | exact nI_1 _ | exact nI_add _ 2 | exact nI_add _ 3) (by omega) ?_
  refine z_aload_n C dL_law_605 rfl ?_
  refine z_iload C dL_law_606 rfl ?_
  refine z_iconst C (2) dL_law_608 (by decide) ?_
  refine z_iadd C dL_law_609 ?_
  refine z_sld C hX hbl hbA hL9 dL_law_610 (by first | exact nI_1 _ | exact nI_add _ 2 | exact nI_add _ 3) (by omega) ?_
  refine z_if_eq C 618 dL_law_611 (by decide) (fun c9 => ?_) (fun c9 => ?_)
  · refine z_iconst C (0) dL_law_618 (by decide) ?_
    exact tail false (by simp [c9])
  · refine z_iconst C (1) dL_law_614 (by decide) ?_
    refine z_goto C 619 dL_law_615 (by decide) ?_
    exact tail true (by simp [c9])
theorem lc_equalise (hl : l.stackTraces = false) (C : zC z p l s m #[.ref b] meth c cL_law RL 7) (hX : va_X b L9 xs s s.heap) (hbl : b < s.heap.size) (hbA : ¬ zA z b) (hL9 : L9 ≤ 2048) (hi : zLI z a0 b0 ao n w) (hn : 4 * n + 4 ≤ L9) (hc : cells + 120 ≤ 601024) (hs : slots + 7000 ≤ 7293034)
    (next : ∀ (w1 : zW) (x5 x6 : Option Value), zLI z a0 b0 ao (n + 1) w1 → ZJ z p l e room_1 s m #[.ref b] below meth c Q (cells + 120) (slots + 7000) 1543 [some (.ref b), some (.ref a0), some (.ref b0), some (.ref ao), some (.int (nI (4 * n))), x5, x6] [] w1) :
    ZJ z p l e room_1 s m #[.ref b] below meth c Q cells slots 694 [some (.ref b), some (.ref a0), some (.ref b0), some (.ref ao), some (.int (nI (4 * n))), none, none] [] w := by
  obtain ⟨S, M, f0, hSR, hH, hM, h40⟩ := hi
  have hn6 : n ≤ 600 := by omega
  obtain ⟨c9, F0, F1, F3, F4, F5, F6, F7⟩ := hSR.fac hn6
  refine z_aload_n C dL_law_694 rfl ?_
  refine z_aload_n C dL_law_695 rfl ?_
  refine z_iload C dL_law_696 rfl ?_
  refine z_iconst C (1) dL_law_698 (by decide) ?_
  refine z_iadd C dL_law_699 ?_
  refine z_sld C hX hbl hbA hL9 dL_law_700 (by first | exact nI_1 _ | exact nI_add _ 2 | exact nI_add _ 3) (by omega) ?_
  refine z_aload_n C dL_law_701 rfl ?_
  have hag := agr_equalise hSR hn6 (xs (4 * n + 1))
  refine z_callSH C zh_equalise zl_L_117 (k_equalise hl hH h40 (xs (4 * n + 1))) dL_law_702 (by rfl) (by rfl) (by exact Nat.le_of_ble_eq_true rfl) rfl (by exact ⟨Nat.le_of_ble_eq_true rfl, Nat.le_of_ble_eq_true rfl⟩) ⟨hc, hs⟩ (fun r w1 hq => ?_)
  obtain ⟨S1, cd, f1, rfl, e1, e2, e3, e4, e5, e6⟩ := hq.agr hag (by decide +kernel) (by decide +kernel) h40
  have hM1 := hM.kp (w1 := w1) (fun j j1 j2 => e6 j (by omega) (by omega) (by omega))
  obtain ⟨fs2, m20⟩ := hM1.rcv
  clear hq
  refine z_istore C (L1 := [_, _, _, _, _, _, _]) dL_law_705 (Nat.le_of_ble_eq_true rfl) rfl ?_
  refine z_aload_n C dL_law_707 rfl ?_
  refine z_aload_n C dL_law_708 rfl ?_
  refine z_iload C dL_law_709 rfl ?_
  refine z_iconst C (1) dL_law_711 (by decide) ?_
  refine z_iadd C dL_law_712 ?_
  refine z_sld C hX hbl hbA hL9 dL_law_713 (by first | exact nI_1 _ | exact nI_add _ 2 | exact nI_add _ 3) (by omega) ?_
  refine z_callV C zm_X3_equalise zl_L_119 (q_equalise hl hM1 (xs (4 * n + 1))) dL_law_714 m20 (by rfl) (by rfl) (by rfl) (by exact Nat.le_of_ble_eq_true rfl) rfl (by exact ⟨Nat.le_of_ble_eq_true rfl, Nat.le_of_ble_eq_true rfl⟩) ⟨hc, hs⟩ (fun _ _ h => z_xno h) (fun r w2 hq => ?_)
  obtain ⟨rfl, g2, g3⟩ := hq
  obtain ⟨fs3, m21⟩ := g2.rcv
  refine z_istore C (L1 := [_, _, _, _, _, _, _]) dL_law_717 (Nat.le_of_ble_eq_true rfl) rfl ?_
  refine z_aload_n C dL_law_719 rfl ?_
  refine z_callV C zm_X3_thrown zl_L_93 (q_thrown hl g2) dL_law_720 m21 (by rfl) (by rfl) (by rfl) (by exact Nat.le_of_ble_eq_true rfl) rfl (by exact ⟨Nat.le_of_ble_eq_true rfl, Nat.le_of_ble_eq_true rfl⟩) ⟨hc, hs⟩ (fun _ _ h => z_xno h) (fun r w3 hq => ?_)
  obtain ⟨rfl, rfl⟩ := hq
  rw [e1]
  have h41 := (g3 40 (by decide)).trans e4
  have hnx := zLI.mk2 e2 (e3.up (by omega)) g2 e4 g3
  refine z_iload C dL_law_723 rfl ?_
  refine z_icmp_eq C 730 dL_law_725 (by decide) (fun c1 => ?_) (fun c1 => ?_)
  · refine z_iload C dL_law_730 rfl ?_
    refine z_if_ne C 747 dL_law_732 (by decide) (fun c2 => ?_) (fun c2 => ?_)
    · refine z_goto C 1543 dL_law_747 (by decide) ?_
      exact next _ _ _ hnx
    · refine z_aload_n C dL_law_735 rfl ?_
      refine z_iconst C (0) dL_law_736 (by decide) ?_
      refine z_lald C dL_law_737 (by first | assumption | exact zk_eq | exact zk_ne (by first | assumption | exact zk_eq | exact zk_ne (by first | assumption | exact zk_eq | exact zk_ne (by first | assumption | exact zk_eq | exact zk_ne (by first | assumption | exact zk_eq | exact zk_ne (by first | assumption | exact zk_eq) (by first | decide | omega)) (by first | decide | omega)) (by first | decide | omega)) (by first | decide | omega)) (by first | decide | omega)) (by first | rfl | assumption) (by first | assumption | omega | decide) (by first | decide | omega) ?_
      rw [e5 c2]
      refine z_iload C dL_law_738 rfl ?_
      refine z_i2l C dL_law_740 ?_
      refine z_lcmp C dL_law_741 ?_
      rw [lvI, lg_cmp_self]
      refine z_if_eq C 747 dL_law_742 (by decide) (fun c4 => ?_) (fun c4 => ?_)
      · refine z_goto C 1543 dL_law_747 (by decide) ?_
        exact next _ _ _ hnx
      · exact absurd rfl c4
  · exact absurd rfl c1
theorem lc_order (hl : l.stackTraces = false) (C : zC z p l s m #[.ref b] meth c cL_law RL 7) (hX : va_X b L9 xs s s.heap) (hbl : b < s.heap.size) (hbA : ¬ zA z b) (hL9 : L9 ≤ 2048) (hi : zLI z a0 b0 ao n w) (hn : 4 * n + 4 ≤ L9) (hc : cells + 120 ≤ 601024) (hs : slots + 7000 ≤ 7293034)
    (next : ∀ (w1 : zW) (x5 x6 : Option Value), zLI z a0 b0 ao (n + 1) w1 → ZJ z p l e room_1 s m #[.ref b] below meth c Q (cells + 120) (slots + 7000) 1543 [some (.ref b), some (.ref a0), some (.ref b0), some (.ref ao), some (.int (nI (4 * n))), x5, x6] [] w1) :
    ZJ z p l e room_1 s m #[.ref b] below meth c Q cells slots 750 [some (.ref b), some (.ref a0), some (.ref b0), some (.ref ao), some (.int (nI (4 * n))), none, none] [] w := by
  obtain ⟨S, M, f0, hSR, hH, hM, h40⟩ := hi
  have hn6 : n ≤ 600 := by omega
  obtain ⟨c9, F0, F1, F3, F4, F5, F6, F7⟩ := hSR.fac hn6
  refine z_aload_n C dL_law_750 rfl ?_
  refine z_aload_n C dL_law_751 rfl ?_
  refine z_iload C dL_law_752 rfl ?_
  refine z_iconst C (1) dL_law_754 (by decide) ?_
  refine z_iadd C dL_law_755 ?_
  refine z_sld C hX hbl hbA hL9 dL_law_756 (by first | exact nI_1 _ | exact nI_add _ 2 | exact nI_add _ 3) (by omega) ?_
  refine z_aload_n C dL_law_757 rfl ?_
  have hag := agr_order hSR (xs (4 * n + 1))
  refine z_callSH C zh_order zl_L_120 (k_order hl hH h40 (xs (4 * n + 1))) dL_law_758 (by rfl) (by rfl) (by exact Nat.le_of_ble_eq_true rfl) rfl (by exact ⟨Nat.le_of_ble_eq_true rfl, Nat.le_of_ble_eq_true rfl⟩) ⟨hc, hs⟩ (fun r w1 hq => ?_)
  obtain ⟨S1, cd, f1, rfl, e1, e2, e3, e4, e5, e6⟩ := hq.agr hag (by decide +kernel) (by decide +kernel) h40
  have hM1 := hM.kp (w1 := w1) (fun j j1 j2 => e6 j (by omega) (by omega) (by omega))
  obtain ⟨fs2, m20⟩ := hM1.rcv
  clear hq
  refine z_istore C (L1 := [_, _, _, _, _, _, _]) dL_law_761 (Nat.le_of_ble_eq_true rfl) rfl ?_
  refine z_aload_n C dL_law_763 rfl ?_
  refine z_aload_n C dL_law_764 rfl ?_
  refine z_iload C dL_law_765 rfl ?_
  refine z_iconst C (1) dL_law_767 (by decide) ?_
  refine z_iadd C dL_law_768 ?_
  refine z_sld C hX hbl hbA hL9 dL_law_769 (by first | exact nI_1 _ | exact nI_add _ 2 | exact nI_add _ 3) (by omega) ?_
  refine z_callV C zm_X3_order zl_L_122 (q_order hl hM1 (xs (4 * n + 1)) F0 F1) dL_law_770 m20 (by rfl) (by rfl) (by rfl) (by exact Nat.le_of_ble_eq_true rfl) rfl (by exact ⟨Nat.le_of_ble_eq_true rfl, Nat.le_of_ble_eq_true rfl⟩) ⟨hc, hs⟩ (fun _ _ h => z_xno h) (fun r w2 hq => ?_)
  obtain ⟨rfl, g2, g3⟩ := hq
  obtain ⟨fs3, m21⟩ := g2.rcv
  refine z_istore C (L1 := [_, _, _, _, _, _, _]) dL_law_773 (Nat.le_of_ble_eq_true rfl) rfl ?_
  refine z_aload_n C dL_law_775 rfl ?_
  refine z_callV C zm_X3_thrown zl_L_93 (q_thrown hl g2) dL_law_776 m21 (by rfl) (by rfl) (by rfl) (by exact Nat.le_of_ble_eq_true rfl) rfl (by exact ⟨Nat.le_of_ble_eq_true rfl, Nat.le_of_ble_eq_true rfl⟩) ⟨hc, hs⟩ (fun _ _ h => z_xno h) (fun r w3 hq => ?_)
  obtain ⟨rfl, rfl⟩ := hq
  rw [e1]
  have h41 := (g3 40 (by decide)).trans e4
  have hnx := zLI.mk2 e2 (e3.up (by omega)) g2 e4 g3
  refine z_iload C dL_law_779 rfl ?_
  refine z_icmp_eq C 786 dL_law_781 (by decide) (fun c1 => ?_) (fun c1 => ?_)
  · refine z_iload C dL_law_786 rfl ?_
    refine z_if_ne C 803 dL_law_788 (by decide) (fun c2 => ?_) (fun c2 => ?_)
    · refine z_goto C 1543 dL_law_803 (by decide) ?_
      exact next _ _ _ hnx
    · refine z_aload_n C dL_law_791 rfl ?_
      refine z_iconst C (0) dL_law_792 (by decide) ?_
      refine z_lald C dL_law_793 (by first | assumption | exact zk_eq | exact zk_ne (by first | assumption | exact zk_eq | exact zk_ne (by first | assumption | exact zk_eq | exact zk_ne (by first | assumption | exact zk_eq | exact zk_ne (by first | assumption | exact zk_eq | exact zk_ne (by first | assumption | exact zk_eq) (by first | decide | omega)) (by first | decide | omega)) (by first | decide | omega)) (by first | decide | omega)) (by first | decide | omega)) (by first | rfl | assumption) (by first | assumption | omega | decide) (by first | decide | omega) ?_
      rw [e5 c2]
      refine z_iload C dL_law_794 rfl ?_
      refine z_i2l C dL_law_796 ?_
      refine z_lcmp C dL_law_797 ?_
      rw [lvI, lg_cmp_self]
      refine z_if_eq C 803 dL_law_798 (by decide) (fun c4 => ?_) (fun c4 => ?_)
      · refine z_goto C 1543 dL_law_803 (by decide) ?_
        exact next _ _ _ hnx
      · exact absurd rfl c4
  · exact absurd rfl c1
end ZCASE51
