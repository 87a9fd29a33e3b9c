/-! HiringHallModel: gives -/
/-- the same rows, those apart that only help -/
def mAg (g1 g : Nat → Nat → Int32) : Prop := ∀ k : Nat, k < 15 → g1 k = g k
theorem mAg.refl (g : Nat → Nat → Int32) : mAg g g := fun _ _ => rfl
theorem mAg.scr {g1 g : Nat → Nat → Int32} (h : mAg g1 g) {k : Nat} (hk : 15 ≤ k) (v : Nat → Int32) : mAg (va_up g1 k v) g := fun j hj => (va_up_ne _ _ (by omega)).trans (h j hj)
theorem mAg.up {g1 g : Nat → Nat → Int32} (h : mAg g1 g) {k : Nat} {v1 v : Nat → Int32} (e : v1 = v) : mAg (va_up g1 k v1) (va_up g k v) := fun j hj => by
  by_cases q : j = k
  · subst q
    rw [va_up_self, va_up_self, e]
  · rw [va_up_ne _ _ q, va_up_ne _ _ q, h j hj]
theorem mAg.fi {g1 g : Nat → Nat → Int32} (h : mAg g1 g) {f : Nat → Int32} {n p : Nat} : mAg (mFiG g1 f n p) (mFiG g f n p) := by
  unfold mFiG
  refine (((h.up ?_).up ?_).up ?_).up ?_
  · rw [h 14 (by decide)]
  · rw [h 7 (by decide)]
  · rw [h 8 (by decide)]
  · rw [h 6 (by decide)]
theorem mAg.low {g1 g : Nat → Nat → Int32} (h : mAg g1 g) {f : Nat → Int32} {n : Nat} : mAg (mLow g1 f n) (mLow g f n) := by
  unfold mLow
  refine h.up ?_
  rw [h 2 (by decide)]
theorem mAg.re {g1 g : Nat → Nat → Int32} (h : mAg g1 g) {f : Nat → Int32} {n : Nat} : mAg (mReG g1 f n) (mReG g f n) ∧ mReF g1 f n = mReF g f n := by
  unfold mReG mReF
  rw [h 11 (by decide), h 1 (by decide), h 10 (by decide)]
  refine ⟨?_, rfl⟩
  split
  · exact h.up rfl
  · exact (h.up rfl).low
theorem mAg.wo {g1 g : Nat → Nat → Int32} (h : mAg g1 g) {f : Nat → Int32} {n : Nat} {t : Int32} : mAg (mWoG g1 n t) (mWoG g n t) ∧ mWoF g1 f n t = mWoF g f n t := by
  unfold mWoG mWoF
  rw [h 9 (by decide), h 8 (by decide), h 7 (by decide)]
  exact ⟨(h.up rfl).up rfl, rfl⟩
theorem mAg.opn {g1 g : Nat → Nat → Int32} (h : mAg g1 g) : ∀ i : Nat, mOpn g1 i = mOpn g i
  | 0 => rfl
  | i + 1 => by simp only [mOpn, h 14 (by decide), h 13 (by decide), h.opn i]
theorem mAg.occ {g1 g : Nat → Nat → Int32} (h : mAg g1 g) : mOcc g1 = mOcc g := by
  funext k
  simp only [mOcc, h 0 (by decide)]
theorem mAg.rdy {g1 g : Nat → Nat → Int32} (h : mAg g1 g) : mRdy g1 = mRdy g := by
  funext k
  simp only [mRdy, h.occ, h 4 (by decide), h 7 (by decide), h 6 (by decide)]
theorem mAg.befo {g1 g : Nat → Nat → Int32} (h : mAg g1 g) : bef g1 = bef g := by
  funext a b
  simp only [bef, h 1 (by decide), h 2 (by decide)]
theorem mAg.ins {g1 g : Nat → Nat → Int32} (h : mAg g1 g) (k : Nat) : ∀ r : List Nat, insR g1 k r = insR g k r
  | [] => rfl
  | y :: r => by simp only [insR, h.befo, h.ins k r]
theorem mAg.lin {g1 g : Nat → Nat → Int32} (h : mAg g1 g) : ∀ i : Nat, mLinR g1 i = mLinR g i
  | 0 => rfl
  | i + 1 => by simp only [mLinR, h.occ, h.ins, h.lin i]
theorem mAg.kept {g1 g : Nat → Nat → Int32} (h : mAg g1 g) (x : Int32) : mKept g1 x = mKept g x := by
  simp only [mKept, h 0 (by decide)]
theorem mAg.rnk {g1 g : Nat → Nat → Int32} (h : mAg g1 g) (k i : Nat) : mRnk g1 k i = mRnk g k i := by
  simp only [mRnk, h.occ, h 1 (by decide), h 2 (by decide)]
theorem mAg.owe {g1 g : Nat → Nat → Int32} (h : mAg g1 g) (k : Nat) : mOwe g1 k = mOwe g k := by
  simp only [mOwe, h 4 (by decide), h 10 (by decide), h 12 (by decide), h 1 (by decide), h 9 (by decide)]
theorem mAg.cnt {g1 g : Nat → Nat → Int32} (h : mAg g1 g) (i : Nat) : mCnt g1 i = mCnt g i := by
  simp only [mCnt, h.occ]
/-- the lowest open place that n can fill so that those after can be placed -/
def mLowp (g : Nat → Nat → Int32) (n : Nat) (W P : List Int32) (c : Nat) : Option Nat := (List.range c).find? (fun p => decide (g 14 p = -1) && (skl (g 3 n) (g 13 p) && zHall W (P.erase (g 13 p))))
def mGiv (c : Nat) : List Nat → (Nat → Nat → Int32) → (Nat → Int32) → List Int32 → (Nat → Nat → Int32) × (Nat → Int32) × List Int32
  | [], g, f, P => (g, f, P)
  | n :: r, g, f, P => match mLowp g n (r.map (g 3)) P c with
    | some p => mGiv c r (mFiG g f n p) (mFiF f) (P.erase (g 13 p))
    | none => mGiv c r g f P
def mLoA : List Nat → (Nat → Nat → Int32) → (Nat → Int32) → (Nat → Nat → Int32) × (Nat → Int32)
  | [], g, f => (g, f)
  | n :: r, g, f => mLoA r (mLow g f n) (mLoF f)
theorem mOpn_mem {g : Nat → Nat → Int32} {p : Nat} (h : g 14 p = -1) : ∀ c : Nat, p < c → g 13 p ∈ mOpn g c
  | 0, hp => absurd hp (Nat.not_lt_zero _)
  | c + 1, hp => by
    by_cases e : p = c
    · subst e
      simp [mOpn, h]
    · have := mOpn_mem h c (by omega)
      simp only [mOpn]
      split
      · exact List.mem_cons_of_mem _ this
      · exact this
theorem mOpn_fi {g : Nat → Nat → Int32} {f : Nat → Int32} {n p : Nat} (hn : n < 30) (h : g 14 p = -1) : ∀ c : Nat, (p < c → (mOpn g c).Perm (g 13 p :: mOpn (mFiG g f n p) c)) ∧ (c ≤ p → mOpn g c = mOpn (mFiG g f n p) c)
  | 0 => ⟨fun h => absurd h (Nat.not_lt_zero _), fun _ => rfl⟩
  | c + 1 => by
    obtain ⟨i1, i2⟩ := mOpn_fi (f := f) hn h c
    have e14 : mFiG g f n p 14 c = if c = p then nI n else g 14 c := by
      show va_up (g 14) p (nI n) c = _
      by_cases e : c = p
      · rw [if_pos e, e, va_up_self]
      · rw [if_neg e, va_up_ne _ _ e]
    have e13 : mFiG g f n p 13 c = g 13 c := rfl
    refine ⟨fun hp => ?_, fun hp => ?_⟩
    · by_cases e : c = p
      · subst e
        simp only [mOpn]
        rw [if_pos h, e14, if_pos rfl, if_neg (nI_nm1 (by omega)), i2 (Nat.le_refl _)]
      · simp only [mOpn]
        rw [e14, if_neg e, e13]
        by_cases q : g 14 c = -1
        · rw [if_pos q, if_pos q]
          exact ((i1 (by omega)).cons _).trans (List.Perm.swap _ _ _)
        · rw [if_neg q, if_neg q]
          exact i1 (by omega)
    · simp only [mOpn]
      rw [e14, if_neg (show ¬ c = p by omega), e13, i2 (by omega)]
theorem mOpn_sk {g : Nat → Nat → Int32} : ∀ c : Nat, (∀ i : Nat, i < c → ∃ j : Nat, j < 5 ∧ g 13 i = nI j) → zSk (mOpn g c)
  | 0, _ => fun x hx => absurd hx List.not_mem_nil
  | c + 1, h => by
    have ih := mOpn_sk (g := g) c (fun i hi => h i (by omega))
    simp only [mOpn]
    split
    · intro x hx
      rcases List.mem_cons.mp hx with rfl | hx
      · exact h c (Nat.lt_succ_self _)
      · exact ih x hx
    · exact ih
section ZM4
variable {l : Launch} {z : zT} {w : zW} {bd : Nat → Nat} {g g0 : Nat → Nat → Int32} {f : Nat → Int32}
theorem m_gives (hl : l.stackTraces = false) (h : MP z bd g0 f w) (hA : mAg g0 g) {T : List Nat} {P : List Int32} {c9 : Nat} (hc : f 17 = nI c9) (hc16 : c9 ≤ 16) (hn : ∀ i : Nat, i < c9 → ∃ j : Nat, j < 5 ∧ g 13 i = nI j) (hT : zIs (g0 16) T) (hT30 : ∀ x ∈ T, x < 30) (hl30 : T.length ≤ 30) (hO : zOp (g0 17) P) (hP : P.Perm (mOpn g c9)) :
    ZM l z mX3_gives 1 0 0 [.ref (bd 20), .int (nI T.length)] w (fun r w1 => r = none ∧ (∃ g1 : Nat → Nat → Int32, MP z bd g1 (mLoA T (mGiv c9 T g f P).1 (mGiv c9 T g f P).2.1).2 w1 ∧ mAg g1 (mLoA T (mGiv c9 T g f P).1 (mGiv c9 T g f P).2.1).1) ∧ zFm w w1) zNo := by
  refine zbody (M := mX3_gives) (L0 := [_, _, _, _, _]) hl (by simp [Value.category]) (Nat.le_of_ble_eq_true rfl) (by decide +kernel) rfl ?_
  intro p e s m args below meth c C hX hnm hret
  replace C : zC z p l s m args meth c cX3_gives RX3 5 := C
  replace hret : meth.sig.returnType = none := hret
  refine z_iconst C (0) dX3_gives_0 (by decide) ?_
  refine z_istore_n C (L1 := [_, _, _, _, _]) dX3_gives_1 (Nat.le_of_ble_eq_true rfl) rfl ?_
  refine z_loop (fun n cs ss L w2 => ∃ (k : Nat) (ga gb : Nat → Nat → Int32) (f2 : Nat → Int32) (P2 : List Int32), n = T.length - k ∧ cs = 0 ∧ ss = 0 ∧ L = [some (.ref (bd 20)), some (.int (nI T.length)), some (.int (nI k)), none, none] ∧ k ≤ T.length ∧ MP z bd ga f2 w2 ∧ mAg ga gb ∧ mGiv c9 (T.drop k) gb f2 P2 = mGiv c9 T g f P ∧ f2 17 = nI c9 ∧ zIs (ga 16) T ∧ zOp (ga 17) P2 ∧ P2.Perm (mOpn gb c9) ∧ gb 13 = g 13 ∧ zFm w w2)
    ⟨0, g0, g, f, P, rfl, rfl, rfl, rfl, Nat.zero_le _, h, hA, rfl, hc, hT, hO, hP, rfl, zFm.refl w⟩ ?_
  rintro n cs ss L w2 ⟨k, ga, gb, f2, P2, rfl, rfl, rfl, rfl, q1, q2, q3, q4, q5, q6, q7, q8, q9, q10⟩ ih
  have hX := q2
  obtain ⟨m20, m21, m22, m23, m24, m25, m26, m27, m28, m29, m30, m31, m32, m33, m34, m35, m36, m37, m38⟩ := q2.all
  refine z_iload_n C dX3_gives_2 rfl ?_
  refine z_iload_n C dX3_gives_3 rfl ?_
  refine z_icmp_ge C 138 dX3_gives_4 (by decide) (fun c1 => ?_) (fun c1 => ?_)
  · have hk2 : k = T.length := Nat.le_antisymm q1 (ge_of_ge (by omega) (by omega) c1)
    subst hk2
    rw [List.drop_length] at q4
    rw [← q4]
    simp only [mGiv]
    refine z_iconst C (0) dX3_gives_138 (by decide) ?_
    refine z_istore_n C (L1 := [_, _, _, _, _]) dX3_gives_139 (Nat.le_of_ble_eq_true rfl) rfl ?_
    refine z_loop (fun n cs ss L w3 => ∃ (k : Nat) (gc gd : Nat → Nat → Int32) (f3 : Nat → Int32), n = T.length - k ∧ cs = 0 ∧ ss = 0 ∧ L = [some (.ref (bd 20)), some (.int (nI T.length)), some (.int (nI k)), none, none] ∧ k ≤ T.length ∧ MP z bd gc f3 w3 ∧ mAg gc gd ∧ mLoA (T.drop k) gd f3 = mLoA T gb f2 ∧ zIs (gc 16) T ∧ zFm w w3)
      ⟨0, ga, gb, f2, rfl, rfl, rfl, rfl, Nat.zero_le _, hX, q3, rfl, q6, q10⟩ ?_
    rintro n cs ss L w3 ⟨k, gc, gd, f3, rfl, rfl, rfl, rfl, r1, r2, r3, r4, r5, r6⟩ ih2
    have hY := r2
    obtain ⟨m20, m21, m22, m23, m24, m25, m26, m27, m28, m29, m30, m31, m32, m33, m34, m35, m36, m37, m38⟩ := r2.all
    refine z_iload_n C dX3_gives_140 rfl ?_
    refine z_iload_n C dX3_gives_141 rfl ?_
    refine z_icmp_ge C 161 dX3_gives_142 (by decide) (fun c2 => ?_) (fun c2 => ?_)
    · have hk2 : k = T.length := Nat.le_antisymm r1 (ge_of_ge (by omega) (by omega) c2)
      subst hk2
      rw [List.drop_length] at r4
      refine z_vret C hret dX3_gives_161 (by first | exact Nat.le_of_ble_eq_true rfl | omega) (by first | exact Nat.le_of_ble_eq_true rfl | omega) ?_
      rw [← r4]
      exact ⟨rfl, ⟨gc, hY, r3⟩, r6⟩
    have hk2 : k < T.length := lt_of_nge (by omega) (by omega) c2
    rw [List.drop_eq_getElem_cons hk2] at r4
    have hgt : gc 16 k = nI T[k] := r5.get hk2
    refine z_aload_n C dX3_gives_145 rfl ?_
    refine z_aload_n C dX3_gives_146 rfl ?_
    refine z_getf C zf_X3_63 dX3_gives_147 (by first | assumption | exact zk_eq | exact zk_ne (by first | assumption | exact zk_eq | exact zk_ne (by first | assumption | exact zk_eq | exact zk_ne (by first | assumption | exact zk_eq | exact zk_ne (by first | assumption | exact zk_eq | exact zk_ne (by first | assumption | exact zk_eq) (by first | decide | omega)) (by first | decide | omega)) (by first | decide | omega)) (by first | decide | omega)) (by first | decide | omega)) (by rfl) ?_
    refine z_iload_n C dX3_gives_150 rfl ?_
    refine z_iald C dX3_gives_151 (by first | assumption | exact zk_eq | exact zk_ne (by first | assumption | exact zk_eq | exact zk_ne (by first | assumption | exact zk_eq | exact zk_ne (by first | assumption | exact zk_eq | exact zk_ne (by first | assumption | exact zk_eq | exact zk_ne (by first | assumption | exact zk_eq) (by first | decide | omega)) (by first | decide | omega)) (by first | decide | omega)) (by first | decide | omega)) (by first | decide | omega)) (by first | rfl | assumption) (by first | assumption | omega | decide) (by first | decide | omega) ?_
    rw [hgt]
    refine z_callV C zm_X3_lowers zl_X3_98 (m_lowers hl hY (hT30 _ (List.getElem_mem hk2))) dX3_gives_152 (by first | assumption | exact zk_eq | exact zk_ne (by first | assumption | exact zk_eq | exact zk_ne (by first | assumption | exact zk_eq | exact zk_ne (by first | assumption | exact zk_eq | exact zk_ne (by first | assumption | exact zk_eq | exact zk_ne (by first | assumption | exact zk_eq) (by first | decide | omega)) (by first | decide | omega)) (by first | decide | omega)) (by first | decide | omega)) (by first | decide | omega)) (by rfl) (by rfl) (by rfl) (by exact Nat.le_of_ble_eq_true rfl) rfl (by exact ⟨Nat.le_of_ble_eq_true rfl, Nat.le_of_ble_eq_true rfl⟩) (by first | exact ⟨Nat.le_of_ble_eq_true rfl, Nat.le_of_ble_eq_true rfl⟩ | (simp only [zrm]; omega)) (fun _ _ h => z_xno h) (fun r w4 hq => ?_)
    obtain ⟨rfl, g1, g2⟩ := hq
    refine z_iinc C (L1 := [_, _, _, _, _]) _ dX3_gives_155 rfl (by first | exact zinc | rfl) rfl ?_
    refine z_goto C 140 dX3_gives_158 (by decide) ?_
    exact ih2 (T.length - (k + 1)) 0 0 _ _ (by omega) ⟨k + 1, _, _, _, rfl, rfl, rfl, rfl, hk2, g1, r3.low, r4, r5, r6.tr g2⟩
  have hk2 : k < T.length := lt_of_nge (by omega) (by omega) c1
  rw [List.drop_eq_getElem_cons hk2] at q4
  have ht30 := hT30 _ (List.getElem_mem hk2)
  have htk : ga 16 k = nI T[k] := q6.get hk2
  have hskP : zSk P2 := fun x hx => mOpn_sk c9 (fun i hi => by rw [q9]; exact hn i hi) x (q8.mem_iff.mp hx)
  have hP16 : P2.length ≤ 16 := by rw [q8.length_eq]; exact Nat.le_trans (mOpn_len _) hc16
  have hWl : (T.drop (k + 1)).take (T.length - (k + 1)) = T.drop (k + 1) := List.take_of_length_le (by simp)
  -- on to the next one who is taken
  have nxt : ∀ (gx gy : Nat → Nat → Int32) (f3 : Nat → Int32) (P3 : List Int32) (w3 : zW) (u v : Int32), MP z bd gx f3 w3 → mAg gx gy → mGiv c9 (T.drop (k + 1)) gy f3 P3 = mGiv c9 T g f P → f3 17 = nI c9 → zIs (gx 16) T → zOp (gx 17) P3 → P3.Perm (mOpn gy c9) → gy 13 = g 13 → zFm w w3 → ZJ z p l e (zrm 1 0 0) s m args below meth c (vx_MQ below (zQc z (fun r w1 => r = none ∧ (∃ g1 : Nat → Nat → Int32, MP z bd g1 (mLoA T (mGiv c9 T g f P).1 (mGiv c9 T g f P).2.1).2 w1 ∧ mAg g1 (mLoA T (mGiv c9 T g f P).1 (mGiv c9 T g f P).2.1).1) ∧ zFm w w1)) (zXC z zNo) args s 0 0 (zA z)) 0 0 132 [some (.ref (bd 20)), some (.int (nI T.length)), some (.int (nI k)), some (.int u), some (.int v)] [] w3 := by
    intro gx gy f3 P3 w3 u v s2 s3 s4 s5 s6 s7 s8 s9 s10
    refine z_iinc C (L1 := [_, _, _, _, _]) _ dX3_gives_132 rfl (by first | exact zinc | rfl) rfl ?_
    refine z_goto C 2 dX3_gives_135 (by decide) ?_
    exact z_fgt (ih (T.length - (k + 1)) 0 0 _ _ (by omega) ⟨k + 1, gx, gy, f3, P3, rfl, rfl, rfl, rfl, hk2, s2, s3, s4, s5, s6, s7, s8, s9, s10⟩) (by simp [zle])
  rw [mGiv] at q4
  refine z_iconst C (0) dX3_gives_7 (by decide) ?_
  refine z_istore_n C (L1 := [_, _, _, _, _]) dX3_gives_8 (Nat.le_of_ble_eq_true rfl) rfl ?_
  refine z_iconst C (0) dX3_gives_9 (by decide) ?_
  refine z_istore C (L1 := [_, _, _, _, _]) dX3_gives_10 (Nat.le_of_ble_eq_true rfl) rfl ?_
  refine z_loop (fun n cs ss L w3 => ∃ (i : Nat) (gx : Nat → Nat → Int32), n = c9 - i ∧ cs = 0 ∧ ss = 0 ∧ L = [some (.ref (bd 20)), some (.int (nI T.length)), some (.int (nI k)), some (.int 0), some (.int (nI i))] ∧ i ≤ c9 ∧ MP z bd gx f2 w3 ∧ mAg gx gb ∧ zIs (gx 16) T ∧ zOp (gx 17) P2 ∧ mLowp gb T[k] ((T.drop (k + 1)).map (gb 3)) P2 c9 = ((List.range c9).drop i).find? (fun p => decide (gb 14 p = -1) && (skl (gb 3 T[k]) (gb 13 p) && zHall ((T.drop (k + 1)).map (gb 3)) (P2.erase (gb 13 p)))) ∧ zFm w w3)
    ⟨0, ga, rfl, rfl, rfl, rfl, Nat.zero_le _, hX, q3, q6, q7, rfl, q10⟩ ?_
  rintro n cs ss L w3 ⟨i, gx, rfl, rfl, rfl, rfl, r1, r2, r3, r4, r5, r6, r7⟩ ih2
  have hY := r2
  obtain ⟨m20, m21, m22, m23, m24, m25, m26, m27, m28, m29, m30, m31, m32, m33, m34, m35, m36, m37, m38⟩ := r2.all
  refine z_iload C dX3_gives_12 rfl ?_
  refine z_aload_n C dX3_gives_14 rfl ?_
  refine z_getf C zf_X3_112 dX3_gives_15 (by first | assumption | exact zk_eq | exact zk_ne (by first | assumption | exact zk_eq | exact zk_ne (by first | assumption | exact zk_eq | exact zk_ne (by first | assumption | exact zk_eq | exact zk_ne (by first | assumption | exact zk_eq | exact zk_ne (by first | assumption | exact zk_eq) (by first | decide | omega)) (by first | decide | omega)) (by first | decide | omega)) (by first | decide | omega)) (by first | decide | omega)) (by rfl) ?_
  rw [q5]
  refine z_icmp_ge C 132 dX3_gives_18 (by decide) (fun c2 => ?_) (fun c2 => ?_)
  · have hi2 := ge_of_ge (by omega) (by omega) c2
    rw [show (List.range c9).drop i = [] from List.drop_eq_nil_of_le (by simpa using hi2)] at r6
    rw [r6] at q4
    exact nxt gx gb f2 P2 w3 _ _ hY r3 q4 q5 r4 r5 q8 q9 r7
  have hi2 : i < c9 := lt_of_nge (by omega) (by omega) c2
  rw [find_drop _ _ _ (by simpa using hi2), List.getElem_range] at r6
  obtain ⟨j, hj, hgj0⟩ := hn i hi2
  have hgj : gx 13 i = nI j := by rw [r3 13 (by decide), q9]; exact hgj0
  have hbj : gb 13 i = nI j := by rw [q9]; exact hgj0
  have e3 : gx 3 = gb 3 := r3 3 (by decide)
  have e14 : gx 14 = gb 14 := r3 14 (by decide)
  have htx : gx 16 k = nI T[k] := r4.get hk2
  refine z_iload_n C dX3_gives_21 rfl ?_
  refine z_if_ne C 132 dX3_gives_22 (by decide) (fun c3 => ?_) (fun c3 => ?_)
  · exact absurd rfl c3
  refine z_aload_n C dX3_gives_25 rfl ?_
  refine z_getf C zf_X3_53 dX3_gives_26 (by first | assumption | exact zk_eq | exact zk_ne (by first | assumption | exact zk_eq | exact zk_ne (by first | assumption | exact zk_eq | exact zk_ne (by first | assumption | exact zk_eq | exact zk_ne (by first | assumption | exact zk_eq | exact zk_ne (by first | assumption | exact zk_eq) (by first | decide | omega)) (by first | decide | omega)) (by first | decide | omega)) (by first | decide | omega)) (by first | decide | omega)) (by rfl) ?_
  refine z_iload C dX3_gives_29 rfl ?_
  refine z_iald C dX3_gives_31 (by first | assumption | exact zk_eq | exact zk_ne (by first | assumption | exact zk_eq | exact zk_ne (by first | assumption | exact zk_eq | exact zk_ne (by first | assumption | exact zk_eq | exact zk_ne (by first | assumption | exact zk_eq | exact zk_ne (by first | assumption | exact zk_eq) (by first | decide | omega)) (by first | decide | omega)) (by first | decide | omega)) (by first | decide | omega)) (by first | decide | omega)) (by first | rfl | assumption) (by first | assumption | omega | decide) (by first | decide | omega) ?_
  refine z_iconst C (-1) dX3_gives_32 (by decide) ?_
  rw [e14]
  refine z_icmp_ne C 126 dX3_gives_33 (by decide) (fun c4 => ?_) (fun c4 => ?_)
  · rw [if_neg (by simp [c4])] at r6
    refine z_iinc C (L1 := [_, _, _, _, _]) _ dX3_gives_126 rfl (by first | exact zinc | rfl) rfl ?_
    refine z_goto C 12 dX3_gives_129 (by decide) ?_
    exact ih2 (c9 - (i + 1)) 0 0 _ _ (by omega) ⟨i + 1, gx, rfl, rfl, rfl, rfl, hi2, hY, r3, r4, r5, r6, r7⟩
  refine z_aload_n C dX3_gives_36 rfl ?_
  refine z_getf C zf_X3_19 dX3_gives_37 (by first | assumption | exact zk_eq | exact zk_ne (by first | assumption | exact zk_eq | exact zk_ne (by first | assumption | exact zk_eq | exact zk_ne (by first | assumption | exact zk_eq | exact zk_ne (by first | assumption | exact zk_eq | exact zk_ne (by first | assumption | exact zk_eq) (by first | decide | omega)) (by first | decide | omega)) (by first | decide | omega)) (by first | decide | omega)) (by first | decide | omega)) (by rfl) ?_
  refine z_aload_n C dX3_gives_40 rfl ?_
  refine z_getf C zf_X3_63 dX3_gives_41 (by first | assumption | exact zk_eq | exact zk_ne (by first | assumption | exact zk_eq | exact zk_ne (by first | assumption | exact zk_eq | exact zk_ne (by first | assumption | exact zk_eq | exact zk_ne (by first | assumption | exact zk_eq | exact zk_ne (by first | assumption | exact zk_eq) (by first | decide | omega)) (by first | decide | omega)) (by first | decide | omega)) (by first | decide | omega)) (by first | decide | omega)) (by rfl) ?_
  refine z_iload_n C dX3_gives_44 rfl ?_
  refine z_iald C dX3_gives_45 (by first | assumption | exact zk_eq | exact zk_ne (by first | assumption | exact zk_eq | exact zk_ne (by first | assumption | exact zk_eq | exact zk_ne (by first | assumption | exact zk_eq | exact zk_ne (by first | assumption | exact zk_eq | exact zk_ne (by first | assumption | exact zk_eq) (by first | decide | omega)) (by first | decide | omega)) (by first | decide | omega)) (by first | decide | omega)) (by first | decide | omega)) (by first | rfl | assumption) (by first | assumption | omega | decide) (by first | decide | omega) ?_
  refine z_iald C dX3_gives_46 (by first | assumption | exact zk_eq | exact zk_ne (by first | assumption | exact zk_eq | exact zk_ne (by first | assumption | exact zk_eq | exact zk_ne (by first | assumption | exact zk_eq | exact zk_ne (by first | assumption | exact zk_eq | exact zk_ne (by first | assumption | exact zk_eq) (by first | decide | omega)) (by first | decide | omega)) (by first | decide | omega)) (by first | decide | omega)) (by first | decide | omega)) (by first | rfl | assumption) (by first | assumption | omega | decide) (by first | decide | omega) ?_
  refine z_aload_n C dX3_gives_47 rfl ?_
  refine z_getf C zf_X3_50 dX3_gives_48 (by first | assumption | exact zk_eq | exact zk_ne (by first | assumption | exact zk_eq | exact zk_ne (by first | assumption | exact zk_eq | exact zk_ne (by first | assumption | exact zk_eq | exact zk_ne (by first | assumption | exact zk_eq | exact zk_ne (by first | assumption | exact zk_eq) (by first | decide | omega)) (by first | decide | omega)) (by first | decide | omega)) (by first | decide | omega)) (by first | decide | omega)) (by rfl) ?_
  refine z_iload C dX3_gives_51 rfl ?_
  refine z_iald C dX3_gives_53 (by first | assumption | exact zk_eq | exact zk_ne (by first | assumption | exact zk_eq | exact zk_ne (by first | assumption | exact zk_eq | exact zk_ne (by first | assumption | exact zk_eq | exact zk_ne (by first | assumption | exact zk_eq | exact zk_ne (by first | assumption | exact zk_eq) (by first | decide | omega)) (by first | decide | omega)) (by first | decide | omega)) (by first | decide | omega)) (by first | decide | omega)) (by first | rfl | assumption) (by first | assumption | omega | decide) (by first | decide | omega) ?_
  refine z_ishr C dX3_gives_54 ?_
  refine z_iconst C (1) dX3_gives_55 (by decide) ?_
  refine z_iand C dX3_gives_56 ?_
  refine z_iconst C (1) dX3_gives_57 (by decide) ?_
  rw [e3, hgj]
  refine z_icmp_ne C 126 dX3_gives_58 (by decide) (fun c5 => ?_) (fun c5 => ?_)
  · rw [if_neg (by simp only [skl, hbj, decide_eq_false c5, Bool.false_and, Bool.and_false]; decide)] at r6
    refine z_iinc C (L1 := [_, _, _, _, _]) _ dX3_gives_126 rfl (by first | exact zinc | rfl) rfl ?_
    refine z_goto C 12 dX3_gives_129 (by decide) ?_
    exact ih2 (c9 - (i + 1)) 0 0 _ _ (by omega) ⟨i + 1, gx, rfl, rfl, rfl, rfl, hi2, hY, r3, r4, r5, r6, r7⟩
  have c6 : skl (gb 3 T[k]) (gb 13 i) = true := by
    rw [hbj]
    unfold skl
    exact decide_eq_true c5
  have hmem : nI j ∈ P2 := by
    rw [← hbj]
    exact q8.mem_iff.mpr (mOpn_mem c4 c9 hi2)
  refine z_aload_n C dX3_gives_61 rfl ?_
  refine z_getf C zf_X3_66 dX3_gives_62 (by first | assumption | exact zk_eq | exact zk_ne (by first | assumption | exact zk_eq | exact zk_ne (by first | assumption | exact zk_eq | exact zk_ne (by first | assumption | exact zk_eq | exact zk_ne (by first | assumption | exact zk_eq | exact zk_ne (by first | assumption | exact zk_eq) (by first | decide | omega)) (by first | decide | omega)) (by first | decide | omega)) (by first | decide | omega)) (by first | decide | omega)) (by rfl) ?_
  refine z_aload_n C dX3_gives_65 rfl ?_
  refine z_getf C zf_X3_50 dX3_gives_66 (by first | assumption | exact zk_eq | exact zk_ne (by first | assumption | exact zk_eq | exact zk_ne (by first | assumption | exact zk_eq | exact zk_ne (by first | assumption | exact zk_eq | exact zk_ne (by first | assumption | exact zk_eq | exact zk_ne (by first | assumption | exact zk_eq) (by first | decide | omega)) (by first | decide | omega)) (by first | decide | omega)) (by first | decide | omega)) (by first | decide | omega)) (by rfl) ?_
  refine z_iload C dX3_gives_69 rfl ?_
  refine z_iald C dX3_gives_71 (by first | assumption | exact zk_eq | exact zk_ne (by first | assumption | exact zk_eq | exact zk_ne (by first | assumption | exact zk_eq | exact zk_ne (by first | assumption | exact zk_eq | exact zk_ne (by first | assumption | exact zk_eq | exact zk_ne (by first | assumption | exact zk_eq) (by first | decide | omega)) (by first | decide | omega)) (by first | decide | omega)) (by first | decide | omega)) (by first | decide | omega)) (by first | rfl | assumption) (by first | assumption | omega | decide) (by first | decide | omega) ?_
  refine z_dup2 C dX3_gives_72 rfl rfl ?_
  refine z_iald C dX3_gives_73 (by first | assumption | exact zk_eq | exact zk_ne (by first | assumption | exact zk_eq | exact zk_ne (by first | assumption | exact zk_eq | exact zk_ne (by first | assumption | exact zk_eq | exact zk_ne (by first | assumption | exact zk_eq | exact zk_ne (by first | assumption | exact zk_eq) (by first | decide | omega)) (by first | decide | omega)) (by first | decide | omega)) (by first | decide | omega)) (by first | decide | omega)) (by first | rfl | assumption) (by first | assumption | omega | decide) (by first | decide | omega) ?_
  refine z_iconst C (1) dX3_gives_74 (by decide) ?_
  refine z_isub C dX3_gives_75 ?_
  refine z_iast C dX3_gives_76 (by first | assumption | exact zk_eq | exact zk_ne (by first | assumption | exact zk_eq | exact zk_ne (by first | assumption | exact zk_eq | exact zk_ne (by first | assumption | exact zk_eq | exact zk_ne (by first | assumption | exact zk_eq | exact zk_ne (by first | assumption | exact zk_eq) (by first | decide | omega)) (by first | decide | omega)) (by first | decide | omega)) (by first | decide | omega)) (by first | decide | omega)) (by first | rfl | assumption) (by first | assumption | omega | decide) (by first | decide | omega) ?_
  refine z_aload_n C dX3_gives_77 rfl ?_
  refine z_iload_n C dX3_gives_78 rfl ?_
  refine z_iconst C (1) dX3_gives_79 (by decide) ?_
  refine z_iadd C dX3_gives_80 ?_
  rw [show nI k + 1 = nI (k + 1) from nI_1 _]
  refine z_iload_n C dX3_gives_81 rfl ?_
  have hO2 := r5.erase hj hmem
  have hY2 := hY.arr 17 (va_up (gx 17) j (gx 17 j - 1))
  have hca := m_canAll (T := T) (P := P2.erase (nI j)) (a := k + 1) (b := T.length) hl hY2 r4 hT30 hl30 hk2 (Nat.le_refl _) (by rw [va_up_self]; exact hO2) hskP.erase (Nat.le_trans List.length_erase_le hP16)
  rw [hWl, show va_up gx 17 (va_up (gx 17) j (gx 17 j - 1)) 3 = gb 3 from e3] at hca
  have m20' := hY2.1
  refine z_callV C zm_X3_canAll zl_X3_122 hca dX3_gives_82 (by first | assumption | exact zk_eq | exact zk_ne (by first | assumption | exact zk_eq | exact zk_ne (by first | assumption | exact zk_eq | exact zk_ne (by first | assumption | exact zk_eq | exact zk_ne (by first | assumption | exact zk_eq | exact zk_ne (by first | assumption | exact zk_eq) (by first | decide | omega)) (by first | decide | omega)) (by first | decide | omega)) (by first | decide | omega)) (by first | decide | omega)) (by rfl) (by rfl) (by rfl) (by exact Nat.le_of_ble_eq_true rfl) rfl (by exact ⟨Nat.le_of_ble_eq_true rfl, Nat.le_of_ble_eq_true rfl⟩) (by first | exact ⟨Nat.le_of_ble_eq_true rfl, Nat.le_of_ble_eq_true rfl⟩ | (simp only [zrm]; omega)) (fun _ _ h => z_xno h) (fun r w1 hq => ?_)
  obtain ⟨rfl, rfl⟩ := hq
  have hgj' : va_up gx 17 (va_up (gx 17) j (gx 17 j - 1)) 13 i = nI j := hgj
  refine z_istore_n C (L1 := [_, _, _, _, _]) dX3_gives_85 (Nat.le_of_ble_eq_true rfl) rfl ?_
  refine z_aload_n C dX3_gives_86 rfl ?_
  refine z_getf C zf_X3_66 dX3_gives_87 (by first | assumption | exact zk_eq | exact zk_ne (by first | assumption | exact zk_eq | exact zk_ne (by first | assumption | exact zk_eq | exact zk_ne (by first | assumption | exact zk_eq | exact zk_ne (by first | assumption | exact zk_eq | exact zk_ne (by first | assumption | exact zk_eq) (by first | decide | omega)) (by first | decide | omega)) (by first | decide | omega)) (by first | decide | omega)) (by first | decide | omega)) (by rfl) ?_
  refine z_aload_n C dX3_gives_90 rfl ?_
  refine z_getf C zf_X3_50 dX3_gives_91 (by first | assumption | exact zk_eq | exact zk_ne (by first | assumption | exact zk_eq | exact zk_ne (by first | assumption | exact zk_eq | exact zk_ne (by first | assumption | exact zk_eq | exact zk_ne (by first | assumption | exact zk_eq | exact zk_ne (by first | assumption | exact zk_eq) (by first | decide | omega)) (by first | decide | omega)) (by first | decide | omega)) (by first | decide | omega)) (by first | decide | omega)) (by rfl) ?_
  refine z_iload C dX3_gives_94 rfl ?_
  refine z_iald C dX3_gives_96 (by first | assumption | exact zk_eq | exact zk_ne (by first | assumption | exact zk_eq | exact zk_ne (by first | assumption | exact zk_eq | exact zk_ne (by first | assumption | exact zk_eq | exact zk_ne (by first | assumption | exact zk_eq | exact zk_ne (by first | assumption | exact zk_eq) (by first | decide | omega)) (by first | decide | omega)) (by first | decide | omega)) (by first | decide | omega)) (by first | decide | omega)) (by first | rfl | assumption) (by first | assumption | omega | decide) (by first | decide | omega) ?_
  refine z_dup2 C dX3_gives_97 rfl rfl ?_
  refine z_iald C dX3_gives_98 (by first | assumption | exact zk_eq | exact zk_ne (by first | assumption | exact zk_eq | exact zk_ne (by first | assumption | exact zk_eq | exact zk_ne (by first | assumption | exact zk_eq | exact zk_ne (by first | assumption | exact zk_eq | exact zk_ne (by first | assumption | exact zk_eq) (by first | decide | omega)) (by first | decide | omega)) (by first | decide | omega)) (by first | decide | omega)) (by first | decide | omega)) (by first | rfl | assumption) (by first | assumption | omega | decide) (by first | decide | omega) ?_
  refine z_iload_n C dX3_gives_99 rfl ?_
  cases hh : zHall ((T.drop (k + 1)).map (gb 3)) (P2.erase (nI j)) with
  | false =>
    rw [if_neg (by rw [hbj, hh]; simp)] at r6
    refine z_if_eq C 107 dX3_gives_100 (by decide) (fun c7 => ?_) (fun c7 => ?_)
    · refine z_iconst C (1) dX3_gives_107 (by decide) ?_
      refine z_iadd C dX3_gives_108 ?_
      refine z_iast C dX3_gives_109 (by first | assumption | exact zk_eq | exact zk_ne (by first | assumption | exact zk_eq | exact zk_ne (by first | assumption | exact zk_eq | exact zk_ne (by first | assumption | exact zk_eq | exact zk_ne (by first | assumption | exact zk_eq | exact zk_ne (by first | assumption | exact zk_eq) (by first | decide | omega)) (by first | decide | omega)) (by first | decide | omega)) (by first | decide | omega)) (by first | decide | omega)) (by first | rfl | assumption) (by first | assumption | omega | decide) (by first | decide | omega) ?_
      refine z_iload_n C dX3_gives_110 rfl ?_
      rw [bx_uu, bx_uu]
      refine z_if_eq C 126 dX3_gives_111 (by decide) (fun c8 => ?_) (fun c8 => ?_)
      · refine z_iinc C (L1 := [_, _, _, _, _]) _ dX3_gives_126 rfl (by first | exact zinc | rfl) rfl ?_
        refine z_goto C 12 dX3_gives_129 (by decide) ?_
        have hY3 := hY.arr 17 (va_up (gx 17) j (va_up (gx 17) j (gx 17 j - 1) j + 1))
        have hO3 : zOp (va_up (gx 17) j (va_up (gx 17) j (gx 17 j - 1) j + 1)) P2 := by
          intro s hs
          by_cases e : s = j
          · subst e
            rw [va_up_self, va_up_self, Int32.sub_add_cancel]
            exact r5 s hs
          · rw [va_up_ne _ _ e]
            exact r5 s hs
        exact ih2 (c9 - (i + 1)) 0 0 _ _ (by omega) ⟨i + 1, _, rfl, rfl, rfl, rfl, hi2, hY3, r3.scr (by decide) _, r4, by rw [va_up_self]; exact hO3, r6, r7.up (by decide) (by decide)⟩
      · exact absurd rfl c8
    · exact absurd rfl c7
  | true =>
    rw [if_pos (by rw [hbj, hh]; simp only [c4]; rw [← hbj, c6]; rfl)] at r6
    rw [r6] at q4
    dsimp only at q4
    refine z_if_eq C 107 dX3_gives_100 (by decide) (fun c7 => ?_) (fun c7 => ?_)
    · exact absurd c7 (by decide)
    · refine z_iconst C (0) dX3_gives_103 (by decide) ?_
      refine z_goto C 108 dX3_gives_104 (by decide) ?_
      refine z_iadd C dX3_gives_108 ?_
      refine z_iast C dX3_gives_109 (by first | assumption | exact zk_eq | exact zk_ne (by first | assumption | exact zk_eq | exact zk_ne (by first | assumption | exact zk_eq | exact zk_ne (by first | assumption | exact zk_eq | exact zk_ne (by first | assumption | exact zk_eq | exact zk_ne (by first | assumption | exact zk_eq) (by first | decide | omega)) (by first | decide | omega)) (by first | decide | omega)) (by first | decide | omega)) (by first | decide | omega)) (by first | rfl | assumption) (by first | assumption | omega | decide) (by first | decide | omega) ?_
      refine z_iload_n C dX3_gives_110 rfl ?_
      rw [bx_uu, bx_uu]
      have hY3 := hY.arr 17 (va_up (gx 17) j (va_up (gx 17) j (gx 17 j - 1) j + 0))
      have hO3 : zOp (va_up (gx 17) j (va_up (gx 17) j (gx 17 j - 1) j + 0)) (P2.erase (nI j)) := by
        rw [va_up_self, Int32.add_zero]
        exact hO2
      have hY4 := hY3
      obtain ⟨m20, m21, m22, m23, m24, m25, m26, m27, m28, m29, m30, m31, m32, m33, m34, m35, m36, m37, m38⟩ := hY4.all
      refine z_if_eq C 126 dX3_gives_111 (by decide) (fun c8 => ?_) (fun c8 => ?_)
      · exact absurd c8 (by decide)
      refine z_aload_n C dX3_gives_114 rfl ?_
      refine z_aload_n C dX3_gives_115 rfl ?_
      refine z_getf C zf_X3_63 dX3_gives_116 (by first | assumption | exact zk_eq | exact zk_ne (by first | assumption | exact zk_eq | exact zk_ne (by first | assumption | exact zk_eq | exact zk_ne (by first | assumption | exact zk_eq | exact zk_ne (by first | assumption | exact zk_eq | exact zk_ne (by first | assumption | exact zk_eq) (by first | decide | omega)) (by first | decide | omega)) (by first | decide | omega)) (by first | decide | omega)) (by first | decide | omega)) (by rfl) ?_
      refine z_iload_n C dX3_gives_119 rfl ?_
      refine z_iald C dX3_gives_120 (by first | assumption | exact zk_eq | exact zk_ne (by first | assumption | exact zk_eq | exact zk_ne (by first | assumption | exact zk_eq | exact zk_ne (by first | assumption | exact zk_eq | exact zk_ne (by first | assumption | exact zk_eq | exact zk_ne (by first | assumption | exact zk_eq) (by first | decide | omega)) (by first | decide | omega)) (by first | decide | omega)) (by first | decide | omega)) (by first | decide | omega)) (by first | rfl | assumption) (by first | assumption | omega | decide) (by first | decide | omega) ?_
      refine z_iload C dX3_gives_121 rfl ?_
      rw [show va_up gx 17 (va_up (gx 17) j (va_up (gx 17) j (gx 17 j - 1) j + 0)) 16 k = nI T[k] from htx]
      refine z_callV C zm_X3_fills zl_X3_125 (m_fills (k := T[k]) (x := i) hl hY3 ht30 (by omega)) dX3_gives_123 (by first | assumption | exact zk_eq | exact zk_ne (by first | assumption | exact zk_eq | exact zk_ne (by first | assumption | exact zk_eq | exact zk_ne (by first | assumption | exact zk_eq | exact zk_ne (by first | assumption | exact zk_eq | exact zk_ne (by first | assumption | exact zk_eq) (by first | decide | omega)) (by first | decide | omega)) (by first | decide | omega)) (by first | decide | omega)) (by first | decide | omega)) (by rfl) (by rfl) (by rfl) (by exact Nat.le_of_ble_eq_true rfl) rfl (by exact ⟨Nat.le_of_ble_eq_true rfl, Nat.le_of_ble_eq_true rfl⟩) (by first | exact ⟨Nat.le_of_ble_eq_true rfl, Nat.le_of_ble_eq_true rfl⟩ | (simp only [zrm]; omega)) (fun _ _ h => z_xno h) (fun r w5 hq => ?_)
      obtain ⟨rfl, g1, g2⟩ := hq
      have hfr : zFm w w5 := (r7.up (by decide) (by decide)).tr g2
      have hmf := mOpn_fi (g := gb) (f := f2) (n := T[k]) (p := i) ht30 c4 c9
      have hPp : (P2.erase (nI j)).Perm (mOpn (mFiG gb f2 T[k] i) c9) := by
        have := (q8.trans (hmf.1 hi2)).erase (nI j)
        rw [hbj, List.erase_cons_head] at this
        exact this
      rw [hbj] at q4
      have hAA := (r3.scr (k := 17) (by decide) (va_up (gx 17) j (va_up (gx 17) j (gx 17 j - 1) j + 0))).fi (f := f2) (n := T[k]) (p := i)
      have fin := nxt _ (mFiG gb f2 T[k] i) (mFiF f2) (P2.erase (nI j)) w5 1 (nI (i + 1)) g1 hAA q4 q5 r4 hO3 hPp q9 hfr
      have m20'' := g1.1
      refine z_iinc C (L1 := [_, _, _, _, _]) _ dX3_gives_126 rfl (by first | exact zinc | rfl) rfl ?_
      refine z_goto C 12 dX3_gives_129 (by decide) ?_
      refine z_iload C dX3_gives_12 rfl ?_
      refine z_aload_n C dX3_gives_14 rfl ?_
      refine z_getf C zf_X3_112 dX3_gives_15 (by first | assumption | exact zk_eq | exact zk_ne (by first | assumption | exact zk_eq | exact zk_ne (by first | assumption | exact zk_eq | exact zk_ne (by first | assumption | exact zk_eq | exact zk_ne (by first | assumption | exact zk_eq | exact zk_ne (by first | assumption | exact zk_eq) (by first | decide | omega)) (by first | decide | omega)) (by first | decide | omega)) (by first | decide | omega)) (by first | decide | omega)) (by rfl) ?_
      refine z_icmp_ge C 132 dX3_gives_18 (by decide) (fun c9 => ?_) (fun c9 => ?_)
      · exact fin
      · refine z_iload_n C dX3_gives_21 rfl ?_
        refine z_if_ne C 132 dX3_gives_22 (by decide) (fun c10 => ?_) (fun c10 => ?_)
        · exact fin
        · exact absurd c10 (by decide)
end ZM4
