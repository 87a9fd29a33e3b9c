/-! loops over the judgement; small numbers -/
section ZIND
variable {p : Program} {l : Launch} {e : Env} {R : Room} {s : State} {m : MethodId} {args : Array Value} {below : List Frame} {meth : Method} {c : Code} {Q : State → Prop} {z : zT} {pc : Nat} {st : List Value}
theorem z_ind {σ : Type} (I : σ → Prop) (μ : σ → Nat) (cs ss : σ → Nat) (F : σ → List (Option Value)) (G : σ → zW) (x0 : σ) (h0 : I x0)
    (step : ∀ x : σ, I x → (∀ y : σ, I y → μ y < μ x → ZJ z p l e R s m args below meth c Q (cs y) (ss y) pc (F y) st (G y)) → ZJ z p l e R s m args below meth c Q (cs x) (ss x) pc (F x) st (G x)) : ZJ z p l e R s m args below meth c Q (cs x0) (ss x0) pc (F x0) st (G x0) := by
  have h : ∀ (n : Nat) (x : σ), μ x < n → I x → ZJ z p l e R s m args below meth c Q (cs x) (ss x) pc (F x) st (G x) := by
    intro n
    induction n with
    | zero => intro x hx; exact absurd hx (Nat.not_lt_zero _)
    | succ n ih => intro x hx hI; exact step x hI (fun y hy hm => ih y (by omega) hy)
  exact h _ x0 (Nat.lt_succ_self _) h0
/-- less is known of the places -/
def zle : List (Option Value) → List (Option Value) → Prop
  | [], [] => True
  | none :: a, _ :: b => zle a b
  | some v :: a, x :: b => x = some v ∧ zle a b
  | _, _ => False
theorem zle.spec : ∀ {a b : List (Option Value)}, zle a b → a.length = b.length ∧ ∀ (i : Nat) (v : Value), a[i]? = some (some v) → b[i]? = some (some v)
  | [], [], _ => ⟨rfl, fun _ _ h => h⟩
  | none :: a, x :: b, h => by
    obtain ⟨h1, h2⟩ := zle.spec (a := a) (b := b) h
    refine ⟨by simp [h1], fun i v hv => ?_⟩
    cases i with
    | zero => simp at hv
    | succ i => simpa using h2 i v (by simpa using hv)
  | some y :: a, x :: b, h => by
    obtain ⟨h0, h⟩ := h
    obtain ⟨h1, h2⟩ := zle.spec (a := a) (b := b) h
    refine ⟨by simp [h1], fun i v hv => ?_⟩
    cases i with
    | zero => simp at hv ⊢; rw [h0, hv]
    | succ i => simpa using h2 i v (by simpa using hv)
  | [], _ :: _, h => h.elim
theorem z_fgt {cells slots : Nat} {L L2 : List (Option Value)} {w : zW} (kk : ZJ z p l e R s m args below meth c Q cells slots pc L2 st w) (h : zle L2 L) : ZJ z p l e R s m args below meth c Q cells slots pc L st w := fun H locs ls hR hS hL => by
  obtain ⟨h1, h2⟩ := h.spec
  exact kk H locs ls hR hS ⟨hL.1.trans h1.symm, hL.2.1, fun i v hv => hL.2.2 i v (h2 i v hv)⟩
/-- a loop: from every state of the loop's head that I admits, the ways back go to smaller ones -/
theorem z_loop (I : Nat → Nat → Nat → List (Option Value) → zW → Prop) {n cells slots : Nat} {L : List (Option Value)} {w : zW} (h0 : I n cells slots L w)
    (step : ∀ (n cells slots : Nat) (L : List (Option Value)) (w : zW), I n cells slots L w → (∀ (n1 c1 s1 : Nat) (L1 : List (Option Value)) (w1 : zW), n1 < n → I n1 c1 s1 L1 w1 → ZJ z p l e R s m args below meth c Q c1 s1 pc L1 st w1) → ZJ z p l e R s m args below meth c Q cells slots pc L st w) : ZJ z p l e R s m args below meth c Q cells slots pc L st w := by
  have h : ∀ (k n cells slots : Nat) (L : List (Option Value)) (w : zW), n < k → I n cells slots L w → ZJ z p l e R s m args below meth c Q cells slots pc L st w := by
    intro k
    induction k with
    | zero => intro n _ _ _ _ hx; exact absurd hx (Nat.not_lt_zero _)
    | succ k ih => intro n cs ss L w hx hI; exact step n cs ss L w hI (fun n1 c1 s1 L1 w1 hn h1 => ih n1 c1 s1 L1 w1 (by omega) h1)
  exact h _ n cells slots L w (Nat.lt_succ_self _) h0
/-- the handle a becomes b -/
theorem z_ren {cells slots : Nat} {L : List (Option Value)} {w : zW} (a b : Nat) (kk : ZJ z p l e R s m args below meth c Q cells slots pc L st (fun j => if j = b then w a else if j = a then none else w j)) : ZJ z p l e R s m args below meth c Q cells slots pc L st w := by
  refine z_sub (fun j => if j = b then a else j) (fun k q h => ?_) (fun j k p q h1 h2 h3 => ?_) kk
  · by_cases h1 : k = b
    · simp only [h1, if_true] at h ⊢; exact h
    · by_cases h2 : k = a
      · simp only [h1, h2, if_true, if_false] at h
        split at h
        · rename_i h4; exact absurd (h2.trans h4) h1
        · cases h
      · simp only [h1, h2, if_false] at h ⊢; exact h
  · by_cases e1 : j = b <;> by_cases e2 : k = b
    · rw [e1, e2]
    · simp only [e1, e2, if_true, if_false] at h3
      subst h3
      simp only [e2, if_true, if_false] at h2
      cases h2
    · simp only [e1, e2, if_true, if_false] at h3
      subst h3
      simp only [e1, if_true, if_false] at h1
      cases h1
    · simp only [e1, e2, if_false] at h3
      exact h3
end ZIND
theorem zmaxI {a b : Nat} (ha : a < 2 ^ 31) (hb : b < 2 ^ 31) : (if nI a < nI b then nI b else nI a) = nI (max a b) := by
  by_cases h : a < b
  · rw [if_pos (nI_lt h hb), Nat.max_eq_right (Nat.le_of_lt h)]
  · rw [if_neg (nI_nlt (Nat.le_of_not_lt h) ha), Nat.max_eq_left (Nat.le_of_not_lt h)]
theorem zminI {a b : Nat} (ha : a < 2 ^ 31) (hb : b < 2 ^ 31) : (if nI b < nI a then nI b else nI a) = nI (min a b) := by
  by_cases h : b < a
  · rw [if_pos (nI_lt h ha), Nat.min_eq_right (Nat.le_of_lt h)]
  · rw [if_neg (nI_nlt (Nat.le_of_not_lt h) hb), Nat.min_eq_left (Nat.le_of_not_lt h)]
theorem zhalf {n : Nat} (h : n < 2 ^ 31) : nI n >>> ((1 : Int32) &&& 31) = nI (n / 2) := by
  have k := pk_shrN h ((1 : Int32) &&& 31) 1 (by decide)
  rw [Nat.pow_one] at k
  exact k
