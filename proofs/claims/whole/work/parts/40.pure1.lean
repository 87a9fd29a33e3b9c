/-! Hall's theorem by counting: tight sets -/
theorem nI_or : ∀ s : Nat, s < 32 → ∀ t : Nat, t < 32 → nI (s ||| t) = nI s ||| nI t := by decide +kernel
theorem nI_an : ∀ s : Nat, s < 32 → ∀ t : Nat, t < 32 → nI (s &&& t) = nI s &&& nI t := by decide +kernel
theorem or_lt {s t : Nat} (hs : s < 32) (ht : t < 32) : s ||| t < 32 := Nat.or_lt_two_pow (n := 5) hs ht
theorem an_lt {s t : Nat} (hs : s < 32) : s &&& t < 32 := Nat.lt_of_le_of_lt Nat.and_le_left hs
theorem wi_iff {a : Int32} {s : Nat} : wi a s = true ↔ ∀ i : Nat, i < 32 → a.toBitVec.getLsbD i = true → (nI s).toBitVec.getLsbD i = true := by
  unfold wi
  rw [decide_eq_true_eq, ← Int32.toBitVec_inj]
  constructor
  · intro h i hi ha
    have h2 := congrArg (fun v : BitVec 32 => v.getLsbD i) h
    simp [ha, hi] at h2
    exact h2
  · intro h
    apply BitVec.eq_of_getLsbD_eq
    intro i hi
    by_cases ha : a.toBitVec.getLsbD i = true
    · simp [ha, hi, h i hi ha]
    · simp [ha]
theorem wi_or {a : Int32} {s t : Nat} (hs : s < 32) (ht : t < 32) (h : wi a s = true ∨ wi a t = true) : wi a (s ||| t) = true := by
  rw [wi_iff]
  intro i hi ha
  rw [nI_or s hs t ht, Int32.toBitVec_or, BitVec.getLsbD_or]
  rcases h with h | h
  · rw [wi_iff.mp h i hi ha]; rfl
  · rw [wi_iff.mp h i hi ha]; simp
theorem wi_an {a : Int32} {s t : Nat} (hs : s < 32) (ht : t < 32) (h : wi a s = true) (h2 : wi a t = true) : wi a (s &&& t) = true := by
  rw [wi_iff]
  intro i hi ha
  rw [nI_an s hs t ht, Int32.toBitVec_and, BitVec.getLsbD_and, wi_iff.mp h i hi ha, wi_iff.mp h2 i hi ha]
  rfl
theorem cw_sup {W : List Int32} {s t : Nat} (hs : s < 32) (ht : t < 32) : cw W s + cw W t ≤ cw W (s ||| t) + cw W (s &&& t) := by
  induction W with
  | nil => simp [cw]
  | cons a W ih =>
    rw [cw_cons, cw_cons, cw_cons, cw_cons]
    have h1 : zN (wi a s) + zN (wi a t) ≤ zN (wi a (s ||| t)) + zN (wi a (s &&& t)) := by
      cases e1 : wi a s <;> cases e2 : wi a t
      · simp [zN]
      · rw [wi_or hs ht (Or.inr e2)]; simp [zN]
      · rw [wi_or hs ht (Or.inl e1)]; simp [zN]
      · rw [wi_or hs ht (Or.inl e1), wi_an hs ht e1 e2]; simp [zN]
    omega
theorem skl_mod : ∀ j : Nat, j < 5 → ∀ s : Nat, s < 32 → ∀ t : Nat, t < 32 → zN (skl (nI (s ||| t)) (nI j)) + zN (skl (nI (s &&& t)) (nI j)) = zN (skl (nI s) (nI j)) + zN (skl (nI t) (nI j)) := by decide +kernel
theorem cp_mod {s t : Nat} (hs : s < 32) (ht : t < 32) : ∀ P : List Int32, zSk P → cp P (s ||| t) + cp P (s &&& t) = cp P s + cp P t
  | [], _ => by simp [cp]
  | x :: P, h => by
    have ih := cp_mod hs ht P (fun y hy => h y (List.mem_cons_of_mem _ hy))
    obtain ⟨j, hj, rfl⟩ := h x List.mem_cons_self
    rw [cp_cons, cp_cons, cp_cons, cp_cons, wi_skl _ (or_lt hs ht) j hj, wi_skl _ (an_lt hs) j hj, wi_skl _ hs j hj, wi_skl _ ht j hj]
    have := skl_mod j hj s hs t ht
    omega
/-- two tight sets, together -/
theorem tight_or {W P : List Int32} {s t : Nat} (hP : zSk P) (hH : zHall W P = true) (hs : s < 32) (ht : t < 32) (h1 : cw W s = cp P s) (h2 : cw W t = cp P t) : cw W (s ||| t) = cp P (s ||| t) := by
  have a := cw_sup (W := W) hs ht
  have b := cp_mod hs ht P hP
  have c := zHall_iff.mp hH _ (or_lt hs ht)
  have d := zHall_iff.mp hH _ (an_lt (t := t) hs)
  omega
theorem cp0 : ∀ P : List Int32, zSk P → cp P 0 = 0
  | [], _ => rfl
  | x :: P, h => by
    obtain ⟨j, hj, rfl⟩ := h x List.mem_cons_self
    have e : ∀ j : Nat, j < 5 → skl (nI 0) (nI j) = false := by decide +kernel
    rw [cp_cons, wi_skl 0 (by decide) j hj, e j hj, cp0 P (fun y hy => h y (List.mem_cons_of_mem _ hy))]
    rfl
theorem tight0 {W P : List Int32} (hP : zSk P) (hH : zHall W P = true) : cw W 0 = cp P 0 := by
  have := zHall_iff.mp hH 0 (by decide)
  rw [cp0 P hP] at this ⊢
  omega
/-- one that cannot be placed also lies within a tight set -/
theorem zHall_not {W P : List Int32} {x : Int32} (hH : zHall W P = true) (h : zHall (x :: W) P = false) : ∃ s : Nat, s < 32 ∧ cw W s = cp P s ∧ wi x s = true := by
  have h2 : ¬ ∀ s : Nat, s < 32 → cw (x :: W) s ≤ cp P s := fun q => by rw [zHall_iff.mpr q] at h; cases h
  obtain ⟨s, hs⟩ := Classical.not_forall.mp h2
  obtain ⟨hs1, hs2⟩ := Classical.not_imp.mp hs
  have h3 := zHall_iff.mp hH s hs1
  rw [cw_cons] at hs2
  have h4 := zN_le (wi x s)
  refine ⟨s, hs1, by omega, ?_⟩
  cases e : wi x s with
  | true => rfl
  | false => rw [e] at hs2; simp [zN] at hs2; omega
/-- those of W are taken while they can be placed; T those taken -/
def gre (P : List Int32) : List Int32 → List Int32 → List Int32
  | [], T => T
  | x :: W, T => if zHall (x :: T) P = true then gre P W (x :: T) else gre P W T
theorem gre_tight {P : List Int32} (hP : zSk P) : ∀ (W T J : List Int32) (u : Nat), u < 32 → zHall T P = true → cw T u = cp P u → (∀ j ∈ J, wi j u = true) → ∃ (u2 : Nat) (J2 : List Int32), u2 < 32 ∧ zHall (gre P W T) P = true ∧ cw (gre P W T) u2 = cp P u2 ∧ (∀ j ∈ J2, wi j u2 = true) ∧ (gre P W T ++ J2).Perm (W ++ (T ++ J))
  | [], T, J, u, hu, hH, ht, hJ => ⟨u, J, hu, hH, ht, hJ, List.Perm.refl _⟩
  | x :: W, T, J, u, hu, hH, ht, hJ => by
    simp only [gre]
    cases hx : zHall (x :: T) P with
    | true =>
      simp only [if_true]
      have ht2 : cw (x :: T) u = cp P u := by
        have := zHall_iff.mp hx u hu
        rw [cw_cons] at this ⊢
        omega
      obtain ⟨u2, J2, i1, i2, i3, i4, i5⟩ := gre_tight hP W (x :: T) J u hu hx ht2 hJ
      refine ⟨u2, J2, i1, i2, i3, i4, i5.trans ?_⟩
      exact List.perm_middle
    | false =>
      simp only [Bool.false_eq_true, if_false]
      obtain ⟨s, s1, s2, s3⟩ := zHall_not hH hx
      obtain ⟨u2, J2, i1, i2, i3, i4, i5⟩ := gre_tight hP W T (x :: J) (u ||| s) (or_lt hu s1) hH (tight_or hP hH hu s1 ht s2) (fun j hj => by
        rcases List.mem_cons.mp hj with rfl | hj
        · exact wi_or hu s1 (Or.inr s3)
        · exact wi_or hu s1 (Or.inl (hJ j hj)))
      refine ⟨u2, J2, i1, i2, i3, i4, i5.trans ?_⟩
      have h1 : (T ++ x :: J).Perm (x :: (T ++ J)) := List.perm_middle
      exact (List.Perm.append_left W h1).trans List.perm_middle
theorem cw_app (A B : List Int32) (s : Nat) : cw (A ++ B) s = cw A s + cw B s := List.countP_append
theorem cw_perm {A B : List Int32} (h : A.Perm B) (s : Nat) : cw A s = cw B s := h.countP_eq _
theorem cp_perm {A B : List Int32} (h : A.Perm B) (s : Nat) : cp A s = cp B s := h.countP_eq _
theorem cw_all {J : List Int32} {s : Nat} (h : ∀ j ∈ J, wi j s = true) : cw J s = J.length := List.countP_eq_length.mpr h
theorem zlo_ge {W P : List Int32} {s : Nat} : ∀ i : Nat, s < i → cw W s - cp P s ≤ zlo W P i
  | 0, h => absurd h (Nat.not_lt_zero _)
  | i + 1, h => by
    simp only [zlo]
    by_cases e : s = i
    · subst e
      omega
    · have := zlo_ge (W := W) (P := P) (s := s) i (by omega)
      omega
theorem zlo_lub {W P : List Int32} {b : Nat} : ∀ i : Nat, (∀ s : Nat, s < i → cw W s - cp P s ≤ b) → zlo W P i ≤ b
  | 0, _ => Nat.zero_le _
  | i + 1, h => by
    have h1 := zlo_lub (W := W) (P := P) (b := b) i (fun s hs => h s (by omega))
    have h2 := h i (Nat.lt_succ_self _)
    simp only [zlo]
    omega
/-- how many the greedy way takes: all but the greatest lack -/
theorem gre_len {P W : List Int32} (hP : zSk P) : (gre P W []).length + zlo W P 32 = W.length := by
  have h0 : zHall [] P = true := zHall_iff.mpr (fun s _ => by simp [cw])
  obtain ⟨u, J, i1, i2, i3, i4, i5⟩ := gre_tight hP W [] [] 0 (by decide) h0 (tight0 hP h0) (fun j hj => absurd hj List.not_mem_nil)
  rw [List.append_nil, List.append_nil] at i5
  have hl := i5.length_eq
  rw [List.length_append] at hl
  have hc : ∀ s : Nat, cw W s = cw (gre P W []) s + cw J s := fun s => by rw [← cw_perm i5 s, cw_app]
  have a : zlo W P 32 ≤ J.length := zlo_lub 32 (fun s hs => by
    have := zHall_iff.mp i2 s hs
    have h2 := cw_le J s
    rw [hc s]
    omega)
  have b := zlo_ge (W := W) (P := P) (s := u) 32 i1
  rw [hc u, cw_all i4] at b
  omega
/-- of all that can be placed the first finds a place so that the others can be placed without it -/
theorem hall_step {P R : List Int32} {x : Int32} (hP : zSk P) (hx : ∃ t : Nat, t < 32 ∧ x = nI t) (hH : zHall (x :: R) P = true) : ∃ k : Int32, k ∈ P ∧ skl x k = true ∧ zHall R (P.erase k) = true := by
  obtain ⟨t, ht, rfl⟩ := hx
  have hR : zHall R P = true := zHall_iff.mpr (fun s hs => by
    have := zHall_iff.mp hH s hs
    rw [cw_cons] at this
    omega)
  by_cases hgoal : ∃ k : Int32, k ∈ P ∧ skl (nI t) k = true ∧ zHall R (P.erase k) = true
  · exact hgoal
  · exfalso
    have key : ∀ i : Nat, i ≤ 5 → ∃ u : Nat, u < 32 ∧ cw R u = cp P u ∧ ∀ j : Nat, j < i → nI j ∈ P → skl (nI t) (nI j) = true → skl (nI u) (nI j) = true := by
      intro i
      induction i with
      | zero => intro _; exact ⟨0, by decide, tight0 hP hR, fun j hj => absurd hj (Nat.not_lt_zero _)⟩
      | succ i ih =>
        intro hi
        obtain ⟨u, u1, u2, u3⟩ := ih (by omega)
        by_cases hm : nI i ∈ P ∧ skl (nI t) (nI i) = true
        · have hno : zHall R (P.erase (nI i)) = false := by
            cases e : zHall R (P.erase (nI i)) with
            | false => rfl
            | true => exact absurd ⟨_, hm.1, hm.2, e⟩ hgoal
          have h2 : ¬ ∀ s : Nat, s < 32 → cw R s ≤ cp (P.erase (nI i)) s := fun q => by rw [zHall_iff.mpr q] at hno; cases hno
          obtain ⟨s, hs⟩ := Classical.not_forall.mp h2
          obtain ⟨hs1, hs2⟩ := Classical.not_imp.mp hs
          have h3 := zHall_iff.mp hR s hs1
          have h4 := cp_erase hm.1 s
          have h5 := zN_le (wi (sk1 (nI i)) s)
          have h6 : wi (sk1 (nI i)) s = true := by
            cases e : wi (sk1 (nI i)) s with
            | true => rfl
            | false => rw [e] at h4; simp [zN] at h4; omega
          have h7 : cw R s = cp P s := by rw [h6] at h4; simp [zN] at h4; omega
          rw [wi_skl s hs1 i (by omega)] at h6
          have hor : ∀ (a b j : Nat), a < 32 → b < 32 → j < 5 → (skl (nI a) (nI j) = true ∨ skl (nI b) (nI j) = true) → skl (nI (a ||| b)) (nI j) = true := fun a b j ha hb hj h => by
            rw [← wi_skl _ (or_lt ha hb) j hj]
            rw [← wi_skl _ ha j hj, ← wi_skl _ hb j hj] at h
            exact wi_or ha hb h
          refine ⟨u ||| s, or_lt u1 hs1, tight_or hP hR u1 hs1 u2 h7, fun j hj hjm hjs => ?_⟩
          by_cases e : j = i
          · subst e
            exact hor u s j u1 hs1 (by omega) (Or.inr h6)
          · exact hor u s j u1 hs1 (by omega) (Or.inl (u3 j (by omega) hjm hjs))
        · refine ⟨u, u1, u2, fun j hj hjm hjs => ?_⟩
          by_cases e : j = i
          · subst e
            exact absurd ⟨hjm, hjs⟩ hm
          · exact u3 j (by omega) hjm hjs
    obtain ⟨u, u1, u2, u3⟩ := key 5 (Nat.le_refl _)
    have hcp : ∀ Q : List Int32, (∀ y ∈ Q, y ∈ P) → cp Q (u ||| t) = cp Q u := by
      intro Q
      induction Q with
      | nil => intro _; rfl
      | cons y Q ih =>
        intro hQ
        obtain ⟨j, hj, rfl⟩ := hP y (hQ y List.mem_cons_self)
        rw [cp_cons, cp_cons, ih (fun z hz => hQ z (List.mem_cons_of_mem _ hz)), wi_skl _ (or_lt u1 ht) j hj, wi_skl _ u1 j hj]
        have hm := skl_mod j hj u u1 t ht
        have h8 := u3 j hj (hQ _ List.mem_cons_self)
        cases e1 : skl (nI t) (nI j) with
        | true =>
          have e2 := h8 e1
          have e3 := wi_or (a := sk1 (nI j)) u1 ht (Or.inl (by rw [wi_skl _ u1 j hj]; exact e2))
          rw [wi_skl _ (or_lt u1 ht) j hj] at e3
          rw [e2, e3]
        | false =>
          rw [e1] at hm
          have e4 := zN_le (skl (nI (u ||| t)) (nI j))
          cases e2 : skl (nI u) (nI j) with
          | true =>
            have e3 := wi_or (a := sk1 (nI j)) u1 ht (Or.inl (by rw [wi_skl _ u1 j hj]; exact e2))
            rw [wi_skl _ (or_lt u1 ht) j hj] at e3
            rw [e3]
          | false =>
            rw [e2] at hm
            simp [zN] at hm
            rw [hm.1]
    have h9 := zHall_iff.mp hH (u ||| t) (or_lt u1 ht)
    have h10 : wi (nI t) (u ||| t) = true := by
      have h11 : wi (nI t) t = true := by
        have : ∀ t : Nat, t < 32 → wi (nI t) t = true := by decide +kernel
        exact this t ht
      exact wi_or u1 ht (Or.inr h11)
    have h12 : cw R u ≤ cw R (u ||| t) := by
      have mono : ∀ Q : List Int32, cw Q u ≤ cw Q (u ||| t) := by
        intro Q
        induction Q with
        | nil => exact Nat.le_refl _
        | cons y Q ih =>
          rw [cw_cons, cw_cons]
          cases e : wi y u with
          | true => rw [wi_or u1 ht (Or.inl e)]; omega
          | false => simp [zN]; split <;> omega
      exact mono R
    rw [cw_cons, h10, hcp P (fun _ h => h)] at h9
    simp [zN] at h9
    omega
