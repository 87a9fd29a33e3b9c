/-! THE JUDGEMENT OF A METHOD'S BODY over a world that is told by handles: w k = some (address, what lies there). A world is never cut: a contract says what the world is behind it. -/
abbrev zE : Type := Nat × va_E
abbrev zW : Type := Nat → Option zE
/-- where new cells begin; classes and slots; the array classes (int, boolean, Object, long); the shared empty row of lists; the mirror of Object[] -/
abbrev zT : Type := Nat × va_G × (Nat → ClassId) × Nat × Nat
abbrev zMI : Type := MethodName × ByteArray × Nat × Option FieldType
def lwG : List Cond := lw_tbl.filter goodWord
theorem lwG_in {w : Cond} (h : w ∈ lw_tbl) (g : goodWord w = true) : w ∈ lwG := List.mem_filter.mpr ⟨h, g⟩
theorem lwG_good {w : Cond} (h : w ∈ lwG) : goodWord w = true := (List.mem_filter.mp h).2
theorem lwG_tbl {w : Cond} (h : w ∈ lwG) : w ∈ lw_tbl := (List.mem_filter.mp h).1
theorem lwG_sub {w : Cond} (hw : w ∈ lwG) : GoodIn lwG (w :: lwG) := fun v h => (List.mem_cons.mp h).elim (fun e => by rw [e]; exact ⟨hw, good_of_word (lwG_good hw)⟩) (fun h => ⟨h, good_of_word (lwG_good h)⟩)
def zA (z : zT) : Nat → Prop := fun q => z.1 ≤ q
def zTy (z : zT) : List (ClassId × FieldType) := [(z.2.2.1 0, .int), (z.2.2.1 1, .boolean), (z.2.2.1 2, .object "java/lang/Object"), (z.2.2.1 3, .long)]
def zCast : List (String × String) := [("HiringHall$Worker", "java/lang/Object"), ("java/lang/IllegalArgumentException", "java/lang/IllegalArgumentException"), ("java/lang/IllegalStateException", "java/lang/IllegalStateException"), ("java/util/NoSuchElementException", "java/util/NoSuchElementException")]
def zNot : List (String × String) := [("java/lang/IllegalArgumentException", "java/lang/IllegalStateException"), ("java/lang/IllegalArgumentException", "java/util/NoSuchElementException"), ("java/lang/IllegalStateException", "java/lang/IllegalArgumentException"), ("java/lang/IllegalStateException", "java/util/NoSuchElementException"), ("java/util/NoSuchElementException", "java/lang/IllegalArgumentException"), ("java/util/NoSuchElementException", "java/lang/IllegalStateException")]
def zStr : List (String × Nat × String) := [("HiringHall", 217, "boards are 0 to 3"), ("HiringHall", 219, "a set of skills is 0 to 31"), ("HiringHall", 73, "30 workers are signed on"), ("HiringHall", 212, "there is no such worker"), ("HiringHall", 221, "the worker is at work"), ("HiringHall", 117, "guaranteed hours are 0 to 400"), ("HiringHall", 133, "skills are 0 to 4"), ("HiringHall", 135, "there are 16 places"), ("HiringHall", 149, "a shift has 1 to 12 hours"), ("HiringHall", 223, "somebody is or has been at work in this shift"), ("HiringHall", 154, "the shift has no such hour"), ("HiringHall", 160, "the worker is not at work, or the hour is past"), ("HiringHall", 215, "there is no such place"), ("HiringHall", 176, "the place is filled")]
def zNest : Cond := .methodLinkNest "HiringHall" 24 ⟨"HiringHall$Matching", "<init>", "()V"⟩ "HiringHall"
def zDec : List MethodName := [⟨"java/lang/RuntimeException", "<init>", "(Ljava/lang/String;)V"⟩, ⟨"java/lang/Exception", "<init>", "(Ljava/lang/String;)V"⟩, ⟨"java/lang/Throwable", "<init>", "(Ljava/lang/String;)V"⟩]
/-- what every method of the run finds: classes, static fields that nobody writes, texts -/
def ZX (z : zT) (U : State) (H : Heap) : Prop :=
  va_K z.2.1 vwCl (zTy z) U ∧ vx_Zq Bundle.tN "UNASSIGNED_STACK" Bundle.steD (zA z) U H ∧ vx_Zq Bundle.tN "SUPPRESSED_SENTINEL" Bundle.listD (zA z) U H ∧
  va_Z "java/util/ArrayList" "DEFAULTCAPACITY_EMPTY_ELEMENTDATA" "[Ljava/lang/Object;" (.ref z.2.2.2.1) (zA z) U H ∧ (∃ fv, va_T (.object "java/lang/Object") z.2.2.2.1 0 fv (zA z) U H) ∧ va_Mi "[Ljava/lang/Object;" z.2.2.2.2 U ∧
  (∀ q ∈ zCast, va_Nw (.castable q.1 q.2) U) ∧ (∀ q ∈ zNot, va_Nc q.1 q.2 U) ∧ (∀ q ∈ zStr, ∃ sa, vk_R q.1 q.2.1 q.2.2 sa U) ∧ va_AO "java/lang/Object" U ∧ va_Dc U ∧ va_Nw zNest U ∧ ∀ x ∈ zDec, va_Nw (.declares x) U
theorem ZX.next {z : zT} {s U : State} {H : Heap} {locs : List Loc} (h : ZX z s s.heap) (hS : va_S (zA z) s.heap H locs) (hU : U.heap = H) (hW : s.WarmedH U.vm) : ZX z U U.heap := by
  subst hU
  have hq : ∀ a : Nat, a < s.heap.size → ¬ zA z a → U.heap[a]? = s.heap[a]? := hS.2.1
  obtain ⟨h1, h2, h3, h4, ⟨fv, h5⟩, h6, h7, h8, h9, h10, h11, h12, h13⟩ := h
  exact ⟨h1.moved hW.alike, (h2.kept hq).moved hW.alike, (h3.kept hq).moved hW.alike, (h4.kept hq).moved hW.alike, ⟨fv, (h5.kept hq).moved hW.alike⟩, h6.moved hW.alike, fun q m => (h7 q m).warmC hW, fun q m => (h8 q m).moved hW.alike, fun q m => by obtain ⟨sa, k⟩ := h9 q m; exact ⟨sa, k.warm hW⟩, h10.moved hW.alike, h11.moved hW.alike, va_Nw.warmM hW h12, fun x m => (h13 x m).warmD hW⟩
theorem ZX.calling {z : zT} {U : State} {H : Heap} {g : JFrame} {mk : MethodId} {a : Array Value} (h : ZX z U H) : ZX z (U.calling g mk a) H := by
  have hA : U.vm.Alike (U.calling g mk a).vm := Vm.Alike.refl U.vm
  obtain ⟨h1, h2, h3, h4, ⟨fv, h5⟩, h6, h7, h8, h9, h10, h11, h12, h13⟩ := h
  exact ⟨h1.moved hA, h2.moved hA, h3.moved hA, h4.moved hA, ⟨fv, h5.moved hA⟩, h6.moved hA, fun q m => va_Nw.same rfl rfl (h7 q m), fun q m => (h8 q m).moved hA, fun q m => by obtain ⟨sa, k⟩ := h9 q m; exact ⟨sa, vk_R.same rfl k⟩, h10.moved hA, h11.moved hA, va_Nw.same rfl rfl h12, fun x m => va_Nw.same rfl rfl (h13 x m)⟩
/-- the heap holds the world w -/
def ZR (z : zT) (w : zW) (H : Heap) : Prop := ∃ ws : va_W, va_P z.2.1 vwCl ws H ∧ va_D (zA z) ws ∧ (∀ (k : Nat) (q : zE), w k = some q → ∃ i : Nat, ws[i]? = some q) ∧ ∀ (j k : Nat) (p q : zE), w j = some p → w k = some q → p.1 = q.1 → j = k
theorem ZR.put {z : zT} {w : zW} {ws : va_W} {H1 : Heap} {i k a : Nat} {e0 e : va_E} (hP : va_P z.2.1 vwCl (ws.set i (a, e)) H1) (hD : va_D (zA z) (ws.set i (a, e))) (hin : ∀ (k : Nat) (q : zE), w k = some q → ∃ i : Nat, ws[i]? = some q) (hinj : ∀ (j k : Nat) (p q : zE), w j = some p → w k = some q → p.1 = q.1 → j = k) (hi : ws[i]? = some (a, e0)) (hk : w k = some (a, e0)) : ZR z (va_up w k (some (a, e))) H1 := by
  have hl := (List.getElem?_eq_some_iff.mp hi).1
  refine ⟨_, hP, hD, fun j q hj => ?_, fun j j' p q hp hq hpq => ?_⟩
  · by_cases ej : j = k
    · subst ej
      rw [va_up_self] at hj
      cases hj
      exact ⟨i, List.getElem?_set_self hl⟩
    · rw [va_up_ne _ _ ej] at hj
      obtain ⟨i', hi'⟩ := hin j q hj
      have hne : i ≠ i' := by
        intro h
        subst h
        rw [hi] at hi'
        cases hi'
        exact ej (hinj j k _ _ hj hk rfl)
      exact ⟨i', by rw [List.getElem?_set_ne hne]; exact hi'⟩
  · have key : ∀ (j : Nat) (q : zE), va_up w k (some (a, e)) j = some q → ∃ q0 : zE, w j = some q0 ∧ q0.1 = q.1 := by
      intro j q hj
      by_cases ej : j = k
      · subst ej
        rw [va_up_self] at hj
        cases hj
        exact ⟨_, hk, rfl⟩
      · rw [va_up_ne _ _ ej] at hj
        exact ⟨q, hj, rfl⟩
    obtain ⟨p0, h1, h2⟩ := key j p hp
    obtain ⟨q0, h3, h4⟩ := key j' q hq
    exact hinj j j' p0 q0 h1 h3 (h2.trans (hpq.trans h4.symm))
theorem ZR.push {z : zT} {w : zW} {ws : va_W} {H1 : Heap} {a : Nat} {e : va_E} (k : Nat) (hP : va_P z.2.1 vwCl (ws ++ [(a, e)]) H1) (hD : va_D (zA z) (ws ++ [(a, e)])) (hin : ∀ (k : Nat) (q : zE), w k = some q → ∃ i : Nat, ws[i]? = some q) (hinj : ∀ (j k : Nat) (p q : zE), w j = some p → w k = some q → p.1 = q.1 → j = k) : (∀ (j : Nat) (q : zE), w j = some q → q.1 ≠ a) ∧ ZR z (va_up w k (some (a, e))) H1 := by
  have hz : (ws ++ [(a, e)])[ws.length]? = some (a, e) := by rw [List.getElem?_append_right (Nat.le_refl _), Nat.sub_self]; rfl
  have hold : ∀ (j : Nat) (q : zE), w j = some q → ∃ i : Nat, i < ws.length ∧ (ws ++ [(a, e)])[i]? = some q := by
    intro j q hj
    obtain ⟨i, hi⟩ := hin j q hj
    have hl := (List.getElem?_eq_some_iff.mp hi).1
    exact ⟨i, hl, by rw [List.getElem?_append_left hl]; exact hi⟩
  have hfr : ∀ (j : Nat) (q : zE), w j = some q → q.1 ≠ a := by
    intro j q hj he
    obtain ⟨i, hl, hi⟩ := hold j q hj
    have := hD.1 i ws.length q (a, e) hi hz he
    omega
  refine ⟨hfr, _, hP, hD, fun j q hj => ?_, fun j j' p q hp hq hpq => ?_⟩
  · by_cases ej : j = k
    · subst ej
      rw [va_up_self] at hj
      cases hj
      exact ⟨_, hz⟩
    · rw [va_up_ne _ _ ej] at hj
      obtain ⟨i, -, hi⟩ := hold j q hj
      exact ⟨i, hi⟩
  · by_cases ej : j = k <;> by_cases ej' : j' = k
    · rw [ej, ej']
    · subst ej
      rw [va_up_self] at hp
      rw [va_up_ne _ _ ej'] at hq
      cases hp
      exact absurd hpq.symm (hfr j' q hq)
    · subst ej'
      rw [va_up_self] at hq
      rw [va_up_ne _ _ ej] at hp
      cases hq
      exact absurd hpq (hfr j p hp)
    · rw [va_up_ne _ _ ej] at hp
      rw [va_up_ne _ _ ej'] at hq
      exact hinj j j' p q hp hq hpq
/-- fewer cells, or other handles -/
theorem ZR.sub {z : zT} {w w' : zW} {H : Heap} (h : ZR z w H) (g : Nat → Nat) (hg : ∀ (k : Nat) (q : zE), w' k = some q → w (g k) = some q) (hi : ∀ (j k : Nat) (p q : zE), w' j = some p → w' k = some q → g j = g k → j = k) : ZR z w' H := by
  obtain ⟨ws, h1, h2, h3, h4⟩ := h
  exact ⟨ws, h1, h2, fun k q hk => h3 _ q (hg k q hk), fun j k p q hj hk he => hi j k p q hj hk (h4 _ _ p q (hg j p hj) (hg k q hk) he)⟩
/-- what the places of a frame hold: none where nothing is known -/
def zL (ls : Array Slot) (L : List (Option Value)) : Prop := ls.size = L.length ∧ lv_wf ls ∧ ∀ (i : Nat) (v : Value), L[i]? = some (some v) → ls[i]? = some (.val v) ∧ v.category = 1
def zlv (L : List (Option Value)) : List (Nat × Value) := (List.range L.length).filterMap (fun i => (L[i]?.bind id).map (fun v => (i, v)))
theorem zlv_mem {L : List (Option Value)} {i : Nat} {v : Value} : (i, v) ∈ zlv L ↔ L[i]? = some (some v) := by
  constructor
  · intro h
    obtain ⟨j, hj, hh⟩ := List.mem_filterMap.mp h
    cases hL : L[j]? with
    | none => rw [hL] at hh; cases hh
    | some o =>
      rw [hL] at hh
      cases o with
      | none => cases hh
      | some x =>
        cases hh
        exact hL
  · intro h
    exact List.mem_filterMap.mpr ⟨i, List.mem_range.mpr (List.getElem?_eq_some_iff.mp h).1, by rw [h]; rfl⟩
theorem zL.has {ls : Array Slot} {L : List (Option Value)} (h : zL ls L) : lv_has ls L.length (zlv L) := ⟨h.1, h.2.1, fun q hq => (h.2.2 q.1 q.2 (zlv_mem.mp hq)).1⟩
theorem zL.set {ls ls' : Array Slot} {L : List (Option Value)} {i : Nat} {v : Value} {lv' : List (Nat × Value)} (h : zL ls L) (hv : v.category = 1) (hh : lv_has ls' L.length lv') (h0 : (i, v) ∈ lv') (h1 : ∀ (j : Nat) (x : Value), j ≠ i → x.category = 1 → L[j]? = some (some x) → (j, x) ∈ lv') : zL ls' (L.set i (some v)) := by
  refine ⟨by rw [hh.1, List.length_set], hh.2.1, fun j x hj => ?_⟩
  rw [List.getElem?_set] at hj
  by_cases e : i = j
  · rw [if_pos e] at hj
    split at hj
    · cases hj
      subst e
      exact ⟨hh.2.2 _ h0, hv⟩
    · cases hj
  · rw [if_neg e] at hj
    have h2 := (h.2.2 j x hj).2
    exact ⟨hh.2.2 _ (h1 j x (Ne.symm e) h2 hj), h2⟩
theorem zL.st {L : List (Option Value)} {i : Nat} {v : Value} (j : Nat) (x : Value) (e : j ≠ i) (hc : x.category = 1) (hj : L[j]? = some (some x)) : (j, x) ∈ (i, v) :: (zlv L).filter (fun q => !(q.1 == i) && !(q.1 + 1 == i && q.2.category == 2)) := by
  refine List.mem_cons_of_mem _ (List.mem_filter.mpr ⟨zlv_mem.mpr hj, ?_⟩)
  simp [hc, e]
theorem zL.args {vs : List Value} {n : Nat} (hc : ∀ v ∈ vs, v.category = 1) (hn : vs.length ≤ n) : ∀ {ls : Array Slot}, ls = (lg_sl vs ++ List.replicate (n - (lg_sl vs).length) Slot.unset).toArray → zL ls (vs.map some ++ List.replicate (n - vs.length) none) := by
  intro ls hls
  have hlen : (lg_sl vs).length = vs.length := by
    clear hn hls
    induction vs with
    | nil => rfl
    | cons v vs ih =>
      have h2 := ih (fun x hx => hc x (List.mem_cons_of_mem _ hx))
      have h1 := hc v List.mem_cons_self
      simp only [lg_sl, List.flatMap_cons, List.length_append, List.length_cons] at h2 ⊢
      rw [h2]
      simp [h1]
      omega
  have h := lv_entry vs (n := n) (by rw [hlen]; exact hn)
  rw [← hls] at h
  have hmem : ∀ (vs : List Value) (k i : Nat) (v : Value), (∀ v ∈ vs, v.category = 1) → vs[i]? = some v → (k + i, v) ∈ lv_args k vs := by
    intro vs
    induction vs with
    | nil => intro k i v _ h; simp at h
    | cons x vs ih =>
      intro k i v hc h
      have hx := hc x List.mem_cons_self
      cases i with
      | zero =>
        simp at h
        subst h
        simp [lv_args]
      | succ i =>
        simp at h
        have := ih (k + 1) i v (fun y hy => hc y (List.mem_cons_of_mem _ hy)) h
        simp only [lv_args, hx]
        rw [if_neg (by decide)]
        refine List.mem_cons_of_mem _ ?_
        rw [show k + (i + 1) = k + 1 + i by omega]
        exact this
  refine ⟨?_, h.2.1, fun i v hi => ?_⟩
  · rw [h.1]
    simp
    omega
  · have hi2 : vs[i]? = some v := by
      by_cases hl : i < vs.length
      · rw [List.getElem?_append_left (by simpa using hl), List.getElem?_map] at hi
        cases hv : vs[i]? with
        | none => rw [hv] at hi; cases hi
        | some y => rw [hv] at hi; cases hi; rfl
      · rw [List.getElem?_append_right (by simpa using hl), List.getElem?_replicate] at hi
        split at hi <;> cases hi
    have := hmem vs 0 i v hc hi2
    rw [Nat.zero_add] at this
    exact ⟨h.2.2 _ this, hc v (List.mem_of_getElem? hi2)⟩
