/-! Fillable and equalise agree -/
def fsk (g : Nat → Nat → Int32) : List Nat → List Int32
  | [] => []
  | k :: r => if mRdy g k = true ∧ g 5 k = 0 then g 3 k :: fsk g r else fsk g r
theorem mFT_gre {g : Nat → Nat → Int32} {P : List Int32} : ∀ (L T : List Nat) (T2 : List Int32), T2.Perm (T.map (g 3)) → (mFT g P L T).length = (gre P (fsk g L) T2).length
  | [], T, T2, h => by
    have := h.length_eq
    rw [List.length_map] at this
    exact this.symm
  | k :: L, T, T2, h => by
    simp only [mFT, fsk]
    have hpm : (g 3 k :: T2).Perm ((T ++ [k]).map (g 3)) := by
      rw [List.map_append]
      exact (h.cons _).trans (List.perm_append_comm (l₁ := [g 3 k]) (l₂ := T.map (g 3)))
    by_cases c : mRdy g k = true ∧ g 5 k = 0
    · rw [if_pos c]
      simp only [gre]
      rw [zHall_perm hpm (List.Perm.refl P)]
      by_cases e : zHall ((T ++ [k]).map (g 3)) P = true
      · rw [if_pos ⟨c.1, c.2, e⟩, if_pos e]
        exact mFT_gre L _ _ hpm
      · rw [if_neg (fun q => e q.2.2), if_neg e]
        exact mFT_gre L _ _ h
    · rw [if_neg c, if_neg (fun q => c ⟨q.1, q.2.1⟩)]
      exact mFT_gre L _ _ h
theorem fiW_fsk {wk : Nat → Nat → Int32} {g : Nat → Nat → Int32} {ν : Nat → Nat} : ∀ (L : List Nat) (W : List Int32), (∀ k ∈ L, rdy (wk (ν k)) = mRdy g k ∧ wk (ν k) 4 = g 5 k ∧ wk (ν k) 2 = g 3 k) → (fiW wk (L.map ν) W).Perm (fsk g L ++ W)
  | [], W, _ => List.Perm.refl _
  | k :: L, W, h => by
    obtain ⟨h1, h2, h3⟩ := h k List.mem_cons_self
    have h' := fun m hm => h m (List.mem_cons_of_mem _ hm)
    simp only [List.map_cons, fiW, fsk]
    rw [h1, h2, h3]
    by_cases c : mRdy g k = true ∧ g 5 k = 0
    · rw [if_pos c, if_pos (by simp [c.1, c.2])]
      refine (fiW_fsk L _ h').trans ?_
      exact List.perm_middle
    · rw [if_neg c, if_neg (by simpa using c)]
      exact fiW_fsk L _ h'
theorem fsk_sk {g : Nat → Nat → Int32} : ∀ L : List Nat, (∀ k ∈ L, ∃ t : Nat, t < 32 ∧ g 3 k = nI t) → ∀ x ∈ fsk g L, ∃ t : Nat, t < 32 ∧ x = nI t
  | [], _, x, hx => absurd hx List.not_mem_nil
  | k :: L, h, x, hx => by
    have h' := fun m hm => h m (List.mem_cons_of_mem _ hm)
    simp only [fsk] at hx
    split at hx
    · rcases List.mem_cons.mp hx with q | q
      · rw [q]; exact h k List.mem_cons_self
      · exact fsk_sk L h' x q
    · exact fsk_sk L h' x hx
theorem zlo_perm {W W2 P : List Int32} (h : W.Perm W2) : ∀ i : Nat, zlo W P i = zlo W2 P i
  | 0 => rfl
  | i + 1 => by simp only [zlo, zlo_perm h i, cw_perm h]
theorem wi31 : ∀ t : Nat, t < 32 → wi (nI t) 31 = true := by decide +kernel
theorem agr_fillable {S : zHS} {M : zMO} {n : Nat} (h : SR S M n) (hn : n ≤ 600) : Agr [] (hFillable S) S (mFillable M) (n + 1) := by
  have h9 := h
  obtain ⟨K, c9, nn, mk, n1, n2, h⟩ := h
  have hD := h.2.2.2.1
  have c16 := hD.2.2.2.2.1
  have hcH : (S.2.2.1 8).toNatClampNeg = c9 := by rw [hD.2.2.1, nI_clamp (by omega)]
  have hcM : (M.2 17).toNatClampNeg = c9 := by rw [hD.2.2.2.1, nI_clamp (by omega)]
  have hop : hPl S = mOpn M.1 c9 := by
    unfold hPl
    rw [hcH]
    exact h.opn (by omega) c9 (Nat.le_refl _)
  have hsk : zSk (mOpn M.1 c9) := mOpn_sk c9 (fun i hi => (h.2.2.2.2.2 i hi).2)
  simp only [hFillable, mFillable]
  rw [hop, hcM, h.1.line]
  refine agr_ret ?_ rfl (h9.f25 0)
  have hp : (fiW S.2.1 S.1 []).Perm (fsk M.1 K) := by
    have := fiW_fsk (wk := S.2.1) (g := M.1) (ν := num M.1) K [] (fun k hk => ⟨h.rdy hk, (h.2.1 k hk).2.2.2.2.2.1, (h.2.1 k hk).2.2.2.1⟩)
    rwa [List.append_nil, ← h.1.1] at this
  have h3 := fsk_sk K (fun k hk => (h.2.1 k hk).2.2.2.2.2.2.2.2.2.2.2.2.1)
  rw [cw_perm hp, zlo_perm hp, mFT_gre K [] [] (List.Perm.refl _), cw_all (fun x hx => by obtain ⟨t, t1, t2⟩ := h3 x hx; rw [t2]; exact wi31 t t1), ← gre_len (W := fsk M.1 K) hsk, ← nI_add]
  exact Int32.add_sub_cancel _ _
/-- the numbers that equalising looks at -/
abbrev tq (g : Nat → Nat → Int32) : Nat → Nat → Int32 := fun m j => if j = 5 then g 9 m else g j m
theorem riseR_map {wk wk2 : Nat → Nat → Int32} {ν : Nat → Nat} {x : Nat} : ∀ A : List Nat, (∀ m ∈ x :: A, wk (ν m) 1 = wk2 m 1 ∧ wk (ν m) 5 = wk2 m 5) → riseR wk (ν x) (A.map ν) = (riseR wk2 x A).map ν
  | [], _ => rfl
  | y :: A, h => by
    obtain ⟨x1, x2⟩ := h x List.mem_cons_self
    obtain ⟨y1, y2⟩ := h y (List.mem_cons_of_mem _ List.mem_cons_self)
    have ih := riseR_map (wk := wk) (wk2 := wk2) (ν := ν) (x := x) A (fun m hm => h m (by
      rcases List.mem_cons.mp hm with q | q
      · rw [q]; exact List.mem_cons_self
      · exact List.mem_cons_of_mem _ (List.mem_cons_of_mem _ q)))
    simp only [List.map_cons, riseR]
    rw [x1, x2, y1, y2]
    split
    · rw [List.map_cons, ih]
    · rfl
theorem riseR_mem {wk : Nat → Nat → Int32} {x : Nat} : ∀ A : List Nat, ∀ m ∈ riseR wk x A, m ∈ x :: A
  | [], m, h => h
  | y :: A, m, h => by
    simp only [riseR] at h
    split at h
    · rcases List.mem_cons.mp h with q | q
      · rw [q]; exact List.mem_cons_of_mem _ List.mem_cons_self
      · rcases List.mem_cons.mp (riseR_mem A m q) with u | u
        · rw [u]; exact List.mem_cons_self
        · exact List.mem_cons_of_mem _ (List.mem_cons_of_mem _ u)
    · exact h
theorem eqR_map {wk wk2 : Nat → Nat → Int32} {ν : Nat → Nat} {b : Int32} : ∀ B A : List Nat, (∀ m, m ∈ A ∨ m ∈ B → wk (ν m) 1 = wk2 m 1 ∧ wk (ν m) 5 = wk2 m 5) → eqR wk b (A.map ν) (B.map ν) = (eqR wk2 b A B).map ν
  | [], A, _ => by
    simp only [List.map_nil, eqR]
    rw [List.map_reverse]
  | x :: B, A, h => by
    have hx := h x (Or.inr List.mem_cons_self)
    simp only [List.map_cons, eqR]
    rw [hx.1]
    split
    · rw [riseR_map A (fun m hm => by
        rcases List.mem_cons.mp hm with q | q
        · rw [q]; exact hx
        · exact h m (Or.inl q))]
      refine eqR_map B _ (fun m hm => ?_)
      rcases hm with q | q
      · rcases List.mem_cons.mp (riseR_mem A m q) with u | u
        · rw [u]; exact hx
        · exact h m (Or.inl u)
      · exact h m (Or.inr (List.mem_cons_of_mem _ q))
    · rw [← List.map_cons]
      refine eqR_map B _ (fun m hm => ?_)
      rcases hm with q | q
      · rcases List.mem_cons.mp q with u | u
        · rw [u]; exact hx
        · exact h m (Or.inl u)
      · exact h m (Or.inr (List.mem_cons_of_mem _ q))
theorem bots_map {wk wk2 : Nat → Nat → Int32} {ν : Nat → Nat} : ∀ T K : List Nat, (∀ a ∈ K, ∀ b ∈ K, ν a = ν b → a = b) → (∀ m ∈ K, wk (ν m) 1 = wk2 m 1) → (∀ k ∈ T, k ∈ K) → bots wk (T.map ν) (K.map ν) = (bots wk2 T K).map ν
  | [], _, _, _, _ => rfl
  | k :: T, K, hi, hw, hT => by
    have hk := hT k List.mem_cons_self
    simp only [List.map_cons, bots]
    rw [erase_map (fun m hm q => hi m hm k hk q), pab_map (hw k hk) _ (fun m hm => hw m (List.mem_of_mem_erase hm))]
    have hm : ∀ m, m ∈ pab wk2 k (K.erase k) ↔ m ∈ K := fun m => (pab_erase_perm hk).mem_iff
    exact bots_map T _ (fun a ha b hb => hi a ((hm a).mp ha) b ((hm b).mp hb)) (fun m hm2 => hw m ((hm m).mp hm2)) (fun m hm2 => (hm m).mpr (hT m (List.mem_cons_of_mem _ hm2)))
theorem disp_map {ν : Nat → Nat} : ∀ E K : List Nat, (∀ a ∈ E, ∀ b ∈ K, ν a = ν b → a = b) → disp (E.map ν) (K.map ν) = disp E K
  | [], K, _ => by cases K <;> rfl
  | _ :: _, [], _ => rfl
  | a :: E, b :: K, h => by
    simp only [List.map_cons, disp]
    rw [disp_map E K (fun x hx y hy => h x (List.mem_cons_of_mem _ hx) y (List.mem_cons_of_mem _ hy))]
    by_cases e : a = b
    · rw [if_pos e, if_pos (by rw [e])]
    · rw [if_neg e, if_neg (fun q => e (h a List.mem_cons_self b List.mem_cons_self q))]
/-- a board's part of the turn -/
theorem sor_cut {g : Nat → Nat → Int32} {x : Int32} : ∀ K : List Nat, Sor g K → ∃ A B C : List Nat, K = A ++ (B ++ C) ∧ (∀ m ∈ A, g 1 m < x) ∧ (∀ m ∈ B, g 1 m = x) ∧ ∀ m ∈ C, x < g 1 m
  | [], _ => ⟨[], [], [], rfl, fun _ h => absurd h List.not_mem_nil, fun _ h => absurd h List.not_mem_nil, fun _ h => absurd h List.not_mem_nil⟩
  | k :: K, h => by
    have h' := List.pairwise_cons.mp h
    obtain ⟨A, B, C, e, hA, hB, hC⟩ := sor_cut (x := x) K h'.2
    have hle : ∀ m ∈ K, (g 1 k).toInt ≤ (g 1 m).toInt := fun m hm => by
      have := bef_iff.mp (h'.1 m hm)
      simp only [Int32.lt_iff_toInt_lt, ← Int32.toInt_inj] at this
      omega
    by_cases c1 : g 1 k < x
    · refine ⟨k :: A, B, C, by rw [e]; rfl, fun m hm => ?_, hB, hC⟩
      rcases List.mem_cons.mp hm with q | q
      · rw [q]; exact c1
      · exact hA m q
    · have hA0 : A = [] := by
        cases A with
        | nil => rfl
        | cons a A =>
          have h1 := hA a List.mem_cons_self
          have h2 := hle a (by rw [e]; exact List.mem_append_left _ List.mem_cons_self)
          simp only [Int32.lt_iff_toInt_lt] at h1 c1
          omega
      subst hA0
      by_cases c2 : g 1 k = x
      · refine ⟨[], k :: B, C, by rw [e]; rfl, fun _ h => absurd h List.not_mem_nil, fun m hm => ?_, hC⟩
        rcases List.mem_cons.mp hm with q | q
        · rw [q]; exact c2
        · exact hB m q
      · have hB0 : B = [] := by
          cases B with
          | nil => rfl
          | cons a B =>
            have h1 := hB a List.mem_cons_self
            have h2 := hle a (by rw [e]; exact List.mem_append_right _ (List.mem_append_left _ List.mem_cons_self))
            rw [← Int32.toInt_inj] at c2 h1
            simp only [Int32.lt_iff_toInt_lt] at c1
            omega
        subst hB0
        refine ⟨[], [], k :: C, by rw [e]; rfl, fun _ h => absurd h List.not_mem_nil, fun _ h => absurd h List.not_mem_nil, fun m hm => ?_⟩
        rcases List.mem_cons.mp hm with q | q
        · rw [q]
          rw [← Int32.toInt_inj] at c2
          simp only [Int32.lt_iff_toInt_lt] at c1 ⊢
          omega
        · exact hC m q
theorem eqR_skip {wk : Nat → Nat → Int32} {b : Int32} : ∀ (A R L : List Nat), (∀ m ∈ A, wk m 1 ≠ b) → eqR wk b R (A ++ L) = eqR wk b (A.reverse ++ R) L
  | [], _, _, _ => rfl
  | a :: A, R, L, h => by
    simp only [List.cons_append, eqR]
    rw [if_neg (h a List.mem_cons_self), eqR_skip A (a :: R) L (fun m hm => h m (List.mem_cons_of_mem _ hm)), List.reverse_cons, List.append_assoc]
    rfl
def insA (g : Nat → Nat → Int32) : List Nat → List Nat → List Nat
  | [], R => R
  | k :: B, R => insA g B (insH g k R)
theorem riseR_ins {g : Nat → Nat → Int32} {x : Int32} {k : Nat} (hk : g 1 k = x) {V : List Nat} (hV : ∀ m ∈ V, g 1 m ≠ x) : ∀ R : List Nat, (∀ m ∈ R, g 1 m = x) → riseR (tq g) k (R ++ V) = insH g k R ++ V
  | [], _ => by
    cases V with
    | nil => rfl
    | cons y V =>
      simp only [List.nil_append, riseR, insH]
      rw [if_neg (fun q => hV y List.mem_cons_self ((show g 1 y = g 1 k from q.1).trans hk))]
      rfl
  | y :: R, h => by
    have ih := riseR_ins hk hV R (fun m hm => h m (List.mem_cons_of_mem _ hm))
    have hy : g 1 y = g 1 k := (h y List.mem_cons_self).trans hk.symm
    simp only [List.cons_append, riseR, insH]
    by_cases c : g 9 k < g 9 y
    · rw [if_pos c, if_pos ⟨hy, c⟩, ih]
      rfl
    · rw [if_neg c, if_neg (fun q => c q.2)]
      rfl
theorem eqR_ins {g : Nat → Nat → Int32} {x : Int32} {V : List Nat} (hV : ∀ m ∈ V, g 1 m ≠ x) : ∀ (B R L : List Nat), (∀ m ∈ B, g 1 m = x) → (∀ m ∈ R, g 1 m = x) → eqR (tq g) x (R ++ V) (B ++ L) = eqR (tq g) x (insA g B R ++ V) L
  | [], _, _, _, _ => rfl
  | k :: B, R, L, hB, hR => by
    have hk := hB k List.mem_cons_self
    simp only [List.cons_append, eqR, insA]
    rw [if_pos (show tq g k 1 = x from hk), riseR_ins hk hV R hR]
    refine eqR_ins hV B _ L (fun m hm => hB m (List.mem_cons_of_mem _ hm)) (fun m hm => ?_)
    rcases List.mem_cons.mp ((insH_perm R).mem_iff.mp hm) with q | q
    · rw [q]; exact hk
    · exact hR m q
theorem mEqR_skip {g : Nat → Nat → Int32} {x : Int32} : ∀ (A R L : List Nat), (∀ m ∈ A, g 1 m ≠ x) → mEqR g x (A ++ L) R = mEqR g x L R
  | [], _, _, _ => rfl
  | a :: A, R, L, h => by
    simp only [List.cons_append, mEqR]
    rw [if_neg (h a List.mem_cons_self)]
    exact mEqR_skip A R L (fun m hm => h m (List.mem_cons_of_mem _ hm))
theorem mEqR_ins {g : Nat → Nat → Int32} {x : Int32} : ∀ (B R L : List Nat), (∀ m ∈ B, g 1 m = x) → mEqR g x (B ++ L) R = mEqR g x L (insA g B R)
  | [], _, _, _ => rfl
  | k :: B, R, L, h => by
    simp only [List.cons_append, mEqR, insA]
    rw [if_pos (h k List.mem_cons_self)]
    exact mEqR_ins B _ L (fun m hm => h m (List.mem_cons_of_mem _ hm))
theorem insA_perm {g : Nat → Nat → Int32} : ∀ B R : List Nat, (insA g B R).Perm (B ++ R)
  | [], _ => List.Perm.refl _
  | k :: B, R => (insA_perm B _).trans (((insH_perm R).append_left B).trans List.perm_middle)
theorem pab_end {wk : Nat → Nat → Int32} {n : Nat} : ∀ X C : List Nat, (∀ m ∈ X, wk m 1 ≤ wk n 1) → (∀ m ∈ C, ¬ wk m 1 ≤ wk n 1) → pab wk n (X ++ C) = X ++ n :: C
  | [], C, _, h => by
    cases C with
    | nil => rfl
    | cons c C =>
      simp only [List.nil_append, pab]
      rw [if_neg (h c List.mem_cons_self)]
  | y :: X, C, h1, h2 => by
    simp only [List.cons_append, pab]
    rw [if_pos (h1 y List.mem_cons_self), pab_end X C (fun m hm => h1 m (List.mem_cons_of_mem _ hm)) h2]
theorem bots_seg {wk : Nat → Nat → Int32} {x : Int32} {A C : List Nat} (hA : ∀ m ∈ A, wk m 1 < x) (hC : ∀ m ∈ C, x < wk m 1) : ∀ (T B D : List Nat), T.Perm B → (∀ m ∈ B, wk m 1 = x) → (∀ m ∈ D, wk m 1 = x) → bots wk T (A ++ (B ++ D ++ C)) = A ++ (D ++ T ++ C)
  | [], B, D, h, _, _ => by
    rw [List.Perm.eq_nil h.symm]
    simp only [bots, List.nil_append, List.append_nil]
  | k :: T, B, D, h, hB, hD => by
    have hkB : k ∈ B := h.mem_iff.mp List.mem_cons_self
    have hk := hB k hkB
    have hkA : k ∉ A := fun q => by
      have := hA k q
      rw [hk] at this
      exact Int32.lt_irrefl this
    simp only [bots]
    have e1 : (A ++ (B ++ D ++ C)).erase k = (A ++ (B.erase k ++ D)) ++ C := by
      rw [List.erase_append_right _ hkA, List.append_assoc, List.erase_append_left _ hkB]
      simp only [List.append_assoc]
    have hle : ∀ m, wk m 1 = x → wk m 1 ≤ wk k 1 := fun m hm => by rw [hm, hk]; exact Int32.le_refl _
    rw [e1, pab_end (wk := wk) (n := k) (A ++ (B.erase k ++ D)) C (fun m hm => ?_) (fun m hm => ?_)]
    · have ih := bots_seg hA hC T (B.erase k) (D ++ [k]) (by
        have := h.erase k
        rwa [List.erase_cons_head] at this) (fun m hm => hB m (List.mem_of_mem_erase hm)) (fun m hm => by
        rcases List.mem_append.mp hm with q | q
        · exact hD m q
        · rw [List.mem_singleton.mp q]; exact hk)
      rw [show (A ++ (B.erase k ++ D)) ++ k :: C = A ++ (B.erase k ++ (D ++ [k]) ++ C) by simp, ih]
      simp
    · rcases List.mem_append.mp hm with q | q
      · rw [hk]
        exact Int32.le_of_lt (hA m q)
      · rcases List.mem_append.mp q with u | u
        · exact hle m (hB m (List.mem_of_mem_erase u))
        · exact hle m (hD m u)
    · rw [hk]
      exact Int32.not_le.mpr (hC m hm)
theorem disp_self : ∀ l : List Nat, disp l l = 0
  | [] => rfl
  | a :: l => by simp only [disp, disp_self l, if_true]
theorem disp_app : ∀ a b l m : List Nat, a.length = b.length → disp (a ++ l) (b ++ m) = disp a b + disp l m
  | [], [], l, m, _ => by simp [disp]
  | [], _ :: _, _, _, h => by simp at h
  | _ :: _, [], _, _, h => by simp at h
  | x :: a, y :: b, l, m, h => by
    simp only [List.cons_append, disp]
    rw [disp_app a b l m (by simpa using h)]
    omega
theorem disp_cnt : ∀ T B : List Nat, T.length = B.length → disp T B = (List.range T.length).countP (fun j => !decide (T.getD j 0 = B.getD j 0))
  | [], [], _ => rfl
  | [], _ :: _, h => by simp at h
  | _ :: _, [], h => by simp at h
  | x :: T, y :: B, h => by
    have ih := disp_cnt T B (by simpa using h)
    simp only [disp, List.length_cons]
    rw [ih, List.range_succ_eq_map, List.countP_cons, List.countP_map]
    congr 1
    by_cases e : x = y
    · simp [e]
    · simp [e]
theorem rnk_skip {wk : Nat → Nat → Int32} {n : Nat} : ∀ A L : List Nat, (∀ m ∈ A, m ≠ n ∧ wk m 1 ≠ wk n 1) → rnk wk n (A ++ L) = rnk wk n L
  | [], _, _ => rfl
  | a :: A, L, h => by
    obtain ⟨h1, h2⟩ := h a List.mem_cons_self
    simp only [List.cons_append, rnk]
    rw [if_neg h1, if_neg h2, rnk_skip A L (fun m hm => h m (List.mem_cons_of_mem _ hm)), Nat.add_zero]
theorem rnk_at {wk : Nat → Nat → Int32} {x : Int32} {C : List Nat} : ∀ (B : List Nat) (i : Nat) (hi : i < B.length), B.Nodup → (∀ m ∈ B, wk m 1 = x) → rnk wk B[i] (B ++ C) = i
  | [], i, hi, _, _ => absurd hi (Nat.not_lt_zero _)
  | b :: B, 0, hi, _, _ => by simp only [List.cons_append, List.getElem_cons_zero, rnk, if_true]
  | b :: B, i + 1, hi, hn, h => by
    have hn' := List.nodup_cons.mp hn
    have hi' : i < B.length := by simpa using hi
    have ih := rnk_at (wk := wk) (C := C) B i hi' hn'.2 (fun m hm => h m (List.mem_cons_of_mem _ hm))
    simp only [List.cons_append, List.getElem_cons_succ, rnk]
    rw [if_neg (show ¬ b = B[i] from fun q => hn'.1 (by rw [q]; exact List.getElem_mem hi')), ih, if_pos ((h b List.mem_cons_self).trans (h _ (List.mem_cons_of_mem _ (List.getElem_mem hi'))).symm)]
theorem agr_equalise {S : zHS} {M : zMO} {n : Nat} (h : SR S M n) (hn : n ≤ 600) (x : Int32) : Agr [(zIA, 1)] (hEqualise S x) S (mEqualise M x) (n + 1) := by
  have h9 := h
  obtain ⟨K, c9, nn, mk, n1, n2, h⟩ := h
  simp only [hEqualise, mEqualise, mEqT]
  by_cases hx : x < 0 ∨ ¬ x < 4
  · rw [if_pos hx, if_neg (fun q => mIn4.mp q hx)]
    exact agr_thr h9 (by simp)
  rw [if_neg hx, if_pos (mIn4.mpr hx), h.1.line]
  obtain ⟨c1, c2, c3⟩ := h.1.cnt
  have hnd := h.1.nd
  have hinj := h.1.inj
  have hrow : ∀ m ∈ K, S.2.1 (num M.1 m) 1 = M.1 1 m ∧ S.2.1 (num M.1 m) 5 = M.1 9 m := fun m hm => ⟨(h.2.1 m hm).2.2.1, (h.2.1 m hm).2.2.2.2.2.2.1⟩
  have hsor := h.1.2.2.2
  have hrk : ∀ k ∈ K, mRnk M.1 k 30 = rnk (tg M.1) k K := fun k hk => by
    have := rnk_eq (wk := tg M.1) (g := M.1) (ν := id) K hsor hk (fun a _ b _ e => e) (fun m _ => rfl)
    rw [List.map_id] at this
    exact (mRnk_eq h.1 k).trans this.symm
  obtain ⟨A, B, C, e, hA, hB, hC⟩ := sor_cut (x := x) K hsor
  have hAn : ∀ m ∈ A, M.1 1 m ≠ x := fun m hm q => by have := hA m hm; rw [q] at this; exact Int32.lt_irrefl this
  have hCn : ∀ m ∈ C, M.1 1 m ≠ x := fun m hm q => by have := hC m hm; rw [q] at this; exact Int32.lt_irrefl this
  have hR : mEqR M.1 x K [] = insA M.1 B [] := by
    rw [e, mEqR_skip A _ _ hAn, mEqR_ins B _ _ hB]
    have := mEqR_skip C (insA M.1 B []) [] hCn
    rw [List.append_nil] at this
    exact this
  have hE : eqR (tq M.1) x [] K = A ++ ((insA M.1 B []).reverse ++ C) := by
    rw [e, eqR_skip A _ _ (fun m hm => hAn m hm), List.append_nil]
    have := eqR_ins (g := M.1) (x := x) (V := A.reverse) (fun m hm => hAn m (List.mem_reverse.mp hm)) B [] C hB (fun m hm => absurd hm List.not_mem_nil)
    rw [List.nil_append] at this
    rw [this]
    have h2 := eqR_skip (wk := tq M.1) (b := x) C (insA M.1 B [] ++ A.reverse) [] (fun m hm => hCn m hm)
    rw [List.append_nil] at h2
    rw [h2]
    simp [eqR]
  rw [hR]
  have hTB : (insA M.1 B []).reverse.Perm B := (List.reverse_perm _).trans (by have := insA_perm (g := M.1) B []; rwa [List.append_nil] at this)
  generalize (insA M.1 B []).reverse = T at hTB hE ⊢
  have hTK : ∀ k ∈ T, k ∈ K := fun k hk => by
    rw [e]
    exact List.mem_append_right _ (List.mem_append_left _ (hTB.mem_iff.mp hk))
  have hEts : eqR S.2.1 x [] S.1 = (A ++ (T ++ C)).map (num M.1) := by
    rw [← hE, h.1.1]
    exact eqR_map (wk2 := tq M.1) K [] (fun m hm => hrow m (hm.resolve_left List.not_mem_nil))
  have hbt : bots S.2.1 (T.map (num M.1)) S.1 = (A ++ (T ++ C)).map (num M.1) := by
    rw [h.1.1, bots_map (wk2 := tg M.1) T K hinj (fun m hm => (hrow m hm).1) hTK]
    have := bots_seg (wk := tg M.1) (x := x) (A := A) (C := C) hA hC T B [] hTB hB (fun m hm => absurd hm List.not_mem_nil)
    simp only [List.append_nil, List.nil_append] at this
    rw [e, this]
  have hTl : T.length ≤ 30 := by
    have := nd_len T K (hTB.nodup_iff.mpr (by
      rw [e] at hnd
      exact ((List.nodup_append.mp hnd).2.1 |> List.nodup_append.mp).1)) hTK
    omega
  obtain ⟨K2, mk2, b1, b2, b3⟩ := bots_eq T S (M.1, va_up M.2 25 0) K mk (h.f25 0) hTK (by omega)
  dsimp only at b2 b3
  rw [hbt] at b2
  rw [hEts]
  refine agr_ret ?_ (b3.trans rfl) ⟨K2, c9, nn, mk2, by omega, by omega, b2⟩
  rw [h.1.1, disp_map _ _ (fun a ha b hb => hinj a ?_ b hb)]
  · rw [e, disp_app A A _ _ rfl, disp_self, Nat.zero_add, disp_app T B C C hTB.length_eq, disp_self, Nat.add_zero, disp_cnt T B hTB.length_eq]
    congr 1
    unfold mDsp
    refine List.countP_congr (fun j hj => ?_)
    have hj : j < T.length := List.mem_range.mp hj
    have hjB : j < B.length := by rw [← hTB.length_eq]; exact hj
    have hBn : B.Nodup := by
      rw [e] at hnd
      exact ((List.nodup_append.mp hnd).2.1 |> List.nodup_append.mp).1
    have g1 : T.getD j 0 = T[j] := by rw [List.getD_eq_getElem?_getD, List.getElem?_eq_getElem hj]; rfl
    have g2 : B.getD j 0 = B[j] := by rw [List.getD_eq_getElem?_getD, List.getElem?_eq_getElem hjB]; rfl
    have rk : ∀ (i : Nat) (hi : i < B.length), mRnk M.1 B[i] 30 = i := fun i hi => by
      rw [hrk _ (by rw [e]; exact List.mem_append_right _ (List.mem_append_left _ (List.getElem_mem hi))), e, rnk_skip A _ (fun m hm => ⟨fun q => ?_, fun q => ?_⟩)]
      · exact rnk_at (wk := tg M.1) (x := x) B i hi hBn hB
      · exact hAn m hm (by rw [q]; exact hB _ (List.getElem_mem hi))
      · exact hAn m hm ((show M.1 1 m = M.1 1 B[i] from q).trans (hB _ (List.getElem_mem hi)))
    rw [g1, g2]
    obtain ⟨i, hi, hie⟩ := List.getElem_of_mem (hTB.mem_iff.mp (List.getElem_mem hj))
    rw [← hie, rk i hi]
    by_cases q : i = j
    · subst q
      simp
    · have : B[i] ≠ B[j] := fun u => q (by
        have h1 := rk i hi
        have h2 := rk j hjB
        rw [u] at h1
        omega)
      simp [q, this]
  · rcases List.mem_append.mp ha with q | q
    · rw [e]; exact List.mem_append_left _ q
    · rcases List.mem_append.mp q with u | u
      · exact hTK a u
      · rw [e]; exact List.mem_append_right _ (List.mem_append_right _ u)
