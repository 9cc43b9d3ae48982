/-! what it means that the machine's heap holds the pure one's cells -/
def ae_ints (x : vp_A) : Nat → Int32 := match x.2 with
  | .inl f => f
  | _ => fun _ => 0
def ae_at (D : va_G) (base : Nat) (s : State) (a : Nat) (c : ah_C) (H : Heap) : Prop := match c with
  | .inl z => if z.1 = 99 then (va_X a z.2.1 (ae_ints z.2) s H ∧ ∃ f, z.2.2 = .inl f) else if z.1 = 98 then (z.2.1 = 0 ∧ ∃ cell : Cell, H[a]? = some cell ∧ s.isArrayOf cell (.object "java/lang/Object") ∧ cell.slots.size.toInt32 = 0) else (base ≤ a ∧ ∃ (cA : ClassId) (ty : FieldType), ae_T z.1 = some ty ∧ H[a]? = some (vp_cell cA z.2) ∧ ArrOfT s cA ty ∧ va_RA s cA ty)
  | .inr o => base ≤ a ∧ va_at D ae_cl (a, .inr o) H
theorem ae_at.kept {D : va_G} {base : Nat} {s : State} {a : Nat} {c : ah_C} {H H1 : Heap} (h : ae_at D base s a c H) (hq : H1[a]? = H[a]?) : ae_at D base s a c H1 := by
  cases c with
  | inl z =>
    unfold ae_at at h ⊢
    dsimp only at h ⊢
    split at h
    next e => rw [if_pos e]; exact ⟨h.1.kept hq, h.2⟩
    next e =>
      rw [if_neg e]
      split at h
      next e2 =>
        rw [if_pos e2]
        obtain ⟨h0, cell, h1, h2⟩ := h
        exact ⟨h0, cell, by rw [hq]; exact h1, h2⟩
      next e2 =>
        rw [if_neg e2]
        obtain ⟨h0, cA, ty, h1, h2, h3⟩ := h
        exact ⟨h0, cA, ty, h1, by rw [hq]; exact h2, h3⟩
  | inr o => exact ⟨h.1, va_at.kept (q := (a, .inr o)) h.2 hq⟩
theorem ae_at.moved {D : va_G} {base : Nat} {u U : State} {a : Nat} {c : ah_C} {H : Heap} (hvm : u.vm.Alike U.vm) (h : ae_at D base u a c H) : ae_at D base U a c H := by
  cases c with
  | inl z =>
    unfold ae_at at h ⊢
    dsimp only at h ⊢
    split at h
    next e => rw [if_pos e]; exact ⟨h.1.moved hvm, h.2⟩
    next e =>
      rw [if_neg e]
      split at h
      next e2 =>
        rw [if_pos e2]
        obtain ⟨h0, cell, h1, h2, h3⟩ := h
        exact ⟨h0, cell, h1, State.isArrayOf_alike hvm h2, h3⟩
      next e2 =>
        rw [if_neg e2]
        obtain ⟨h0, cA, ty, h1, h2, h3, h4⟩ := h
        exact ⟨h0, cA, ty, h1, h2, arrOfT_moved hvm h3, h4.moved hvm⟩
  | inr o => exact h
theorem ae_at.lt {D : va_G} {base : Nat} {s : State} {a : Nat} {c : ah_C} {H : Heap} (h : ae_at D base s a c H) : a < H.size := by
  cases c with
  | inl z =>
    unfold ae_at at h
    dsimp only at h
    split at h
    next e => obtain ⟨⟨scr, h1, -⟩, -⟩ := h; exact (Array.getElem?_eq_some_iff.mp h1).1
    next e =>
      split at h
      next e2 => obtain ⟨h0, cell, h1, -⟩ := h; exact (Array.getElem?_eq_some_iff.mp h1).1
      next e2 => obtain ⟨h0, cA, ty, h1, h2, -⟩ := h; exact (Array.getElem?_eq_some_iff.mp h2).1
  | inr o => exact va_at.lt (q := (a, .inr o)) h.2
def ae_ea (base : Nat) (s : State) (H : Heap) (ea : Nat) : Prop := va_Z "java/util/ArrayList" "DEFAULTCAPACITY_EMPTY_ELEMENTDATA" "[Ljava/lang/Object;" (.ref ea) (fun q => base ≤ q) s H ∧ ea < base ∧ ∃ cell : Cell, H[ea]? = some cell ∧ s.isArrayOf cell (.object "java/lang/Object") ∧ cell.vm ≠ .unknown ∧ cell.vm.isStatics = false ∧ cell.slots.size.toInt32 = 0 ∧ s.vm.findClass "[Ljava/lang/Object;" = some cell.cls
theorem ae_ea.moved {base : Nat} {u U : State} {H : Heap} {ea : Nat} (hvm : u.vm.Alike U.vm) (h : ae_ea base u H ea) : ae_ea base U H ea := by
  obtain ⟨h1, h2, cell, h3, h4, h5, h6, h7, h8⟩ := h
  exact ⟨h1.moved hvm, h2, cell, h3, State.isArrayOf_alike hvm h4, h5, h6, h7, by rw [hvm.findClass]; exact h8⟩
theorem ae_ea.kept {base : Nat} {s : State} {H H1 : Heap} {ea : Nat} (h : ae_ea base s H ea) (hq : ∀ q : Nat, q < base → q < H.size → H1[q]? = H[q]?) : ae_ea base s H1 ea := by
  obtain ⟨h1, h2, cell, h3, h4⟩ := h
  exact ⟨h1.kept (fun a ha hA => hq a (Nat.not_le.mp hA) ha), h2, cell, by rw [hq ea h2 (Array.getElem?_eq_some_iff.mp h3).1]; exact h3, h4⟩
def ae_rep (D : va_G) (base : Nat) (s : State) (h : ah_H) (H : Heap) : Prop := h.2.1 = H.size ∧ base ≤ H.size ∧ (ae_ea base s H h.2.2.2.1 ∧ va_Mi "[Ljava/lang/Object;" h.2.2.2.2 s) ∧ ∀ (a : Nat) (c : ah_C), h.1 a = some c → ae_at D base s a c H
theorem ae_rep.moved {D : va_G} {base : Nat} {u U : State} {h : ah_H} {H : Heap} (hvm : u.vm.Alike U.vm) (hp : ae_rep D base u h H) : ae_rep D base U h H :=
  ⟨hp.1, hp.2.1, ⟨hp.2.2.1.1.moved hvm, hp.2.2.1.2.moved hvm⟩, fun a c hc => (hp.2.2.2 a c hc).moved hvm⟩
theorem ae_rep.set {D : va_G} {base : Nat} {s : State} {h : ah_H} {H H1 : Heap} {a : Nat} {c : ah_C} (hp : ae_rep D base s h H) (hb : base ≤ a) (z : H1.size = H.size) (oq : ∀ q : Nat, q ≠ a → H1[q]? = H[q]?) (hc : ae_at D base s a c H1) : ae_rep D base s (ah_set h a c) H1 := by
  refine ⟨hp.1.trans z.symm, by rw [z]; exact hp.2.1, ⟨hp.2.2.1.1.kept (fun q h1 _ => oq q (by omega)), hp.2.2.1.2⟩, fun b x hx => ?_⟩
  simp only [ah_set, va_up] at hx
  split at hx
  next e => cases hx; rw [e]; exact hc
  next e => exact (hp.2.2.2 b x hx).kept (oq b e)
theorem ae_rep.new {D : va_G} {base : Nat} {s : State} {h : ah_H} {H H1 : Heap} {c : ah_C} {n : Nat} (hp : ae_rep D base s h H) (z : H1.size = H.size + 1) (oq : ∀ q : Nat, q < H.size → H1[q]? = H[q]?) (hc : ae_at D base s H.size c H1) : ae_rep D base s (ah_new h c n) H1 := by
  refine ⟨by rw [z, ← hp.1]; rfl, by have := hp.2.1; omega, ⟨hp.2.2.1.1.kept (fun q _ h2 => oq q h2), hp.2.2.1.2⟩, fun b x hx => ?_⟩
  simp only [ah_new, va_up] at hx
  split at hx
  next e => cases hx; rw [e, hp.1]; exact hc
  next e => exact (hp.2.2.2 b x hx).kept (oq b (hp.2.2.2 b x hx).lt)
/-! locals -/
def ae_lok (J : List Nat) (nL : Nat) (L : ae_L) (ls : Array Slot) : Prop := ls.size = nL ∧ lv_wf ls ∧ L.length = nL ∧ (∀ (i : Nat) (v : Value), L[i]? = some (some v) → ls[i]? = some (.val v)) ∧ ∀ (i : Nat) (v : Value), L[i]? = some (some v) → v.category = 2 → i ∈ J
def ae_pairs (L : ae_L) : List (Nat × Value) := (List.range L.length).filterMap (fun i => match L[i]? with | some (some v) => some (i, v) | _ => none)
theorem ae_pairs_mem {L : ae_L} {i : Nat} {v : Value} : (i, v) ∈ ae_pairs L ↔ L[i]? = some (some v) := by
  unfold ae_pairs
  constructor
  · intro h
    obtain ⟨j, -, hj⟩ := List.mem_filterMap.mp h
    split at hj
    next w hw => cases hj; exact hw
    next => cases hj
  · intro h
    refine List.mem_filterMap.mpr ⟨i, List.mem_range.mpr (List.getElem?_eq_some_iff.mp h).1, ?_⟩
    rw [h]
theorem ae_lok.has {J : List Nat} {nL : Nat} {L : ae_L} {ls : Array Slot} (h : ae_lok J nL L ls) : lv_has ls nL (ae_pairs L) := by
  refine ⟨h.1, h.2.1, fun q hq => ?_⟩
  obtain ⟨i, v⟩ := q
  exact h.2.2.2.1 i v (ae_pairs_mem.mp hq)
theorem ae_lok.one {J : List Nat} {nL : Nat} {L : ae_L} {ls ls' : Array Slot} {i : Nat} {v : Value} (h : ae_lok J nL L ls) (hj : J.all (fun j => !(j + 1 == i)) = true) (hc : v.category = 1) (h' : lv_has ls' nL ((i, v) :: (ae_pairs L).filter (fun q => !(q.1 == i) && !(q.1 + 1 == i && q.2.category == 2)))) : ae_lok J nL (L.set i (some v)) ls' := by
  have hj' : ∀ j ∈ J, ¬ j + 1 = i := fun j hm => by
    have := List.all_eq_true.mp hj j hm
    simpa using this
  refine ⟨h'.1, h'.2.1, by rw [List.length_set]; exact h.2.2.1, fun j w hw => ?_, fun j w hw hcw => ?_⟩
  · by_cases e : j = i
    · subst e
      have hl : j < L.length := by
        have := (List.getElem?_eq_some_iff.mp hw).1
        rwa [List.length_set] at this
      rw [List.getElem?_set_self hl] at hw
      cases hw
      exact h'.2.2 (j, v) List.mem_cons_self
    · rw [List.getElem?_set_ne (Ne.symm e)] at hw
      refine h'.2.2 (j, w) (List.mem_cons_of_mem _ (List.mem_filter.mpr ⟨ae_pairs_mem.mpr hw, ?_⟩))
      have h2 : ¬ (j + 1 = i ∧ w.category = 2) := fun z => hj' j (h.2.2.2.2 j w hw z.2) z.1
      simp only [Bool.and_eq_true, Bool.not_eq_true', beq_eq_false_iff_ne, ne_eq, Bool.and_eq_false_iff]
      refine ⟨e, ?_⟩
      by_cases z : j + 1 = i
      · exact Or.inr (fun q => h2 ⟨z, q⟩)
      · exact Or.inl z
  · by_cases e : j = i
    · subst e
      have hl : j < L.length := by
        have := (List.getElem?_eq_some_iff.mp hw).1
        rwa [List.length_set] at this
      rw [List.getElem?_set_self hl] at hw
      cases hw
      omega
    · rw [List.getElem?_set_ne (Ne.symm e)] at hw
      exact h.2.2.2.2 j w hw hcw
theorem ae_lok.two {J : List Nat} {nL : Nat} {L : ae_L} {ls ls' : Array Slot} {i : Nat} {v : Value} (h : ae_lok J nL L ls) (hi : i ∈ J) (hj : J.all (fun j => !(j + 1 == i)) = true) (h' : lv_has ls' nL ((i, v) :: (ae_pairs L).filter (fun q => !(q.1 == i) && (!(q.1 == i + 1) && !(q.1 + 1 == i && q.2.category == 2))))) : ae_lok J nL ((L.set i (some v)).set (i + 1) none) ls' := by
  have hj' : ∀ j ∈ J, ¬ j + 1 = i := fun j hm => by
    have := List.all_eq_true.mp hj j hm
    simpa using this
  have key : ∀ (j : Nat) (w : Value), ((L.set i (some v)).set (i + 1) none)[j]? = some (some w) → (j = i ∧ w = v) ∨ (j ≠ i ∧ j ≠ i + 1 ∧ L[j]? = some (some w)) := by
    intro j w hw
    by_cases e1 : j = i + 1
    · subst e1
      have hl : i + 1 < (L.set i (some v)).length := by
        have := (List.getElem?_eq_some_iff.mp hw).1
        rwa [List.length_set] at this
      rw [List.getElem?_set_self hl] at hw
      cases hw
    · rw [List.getElem?_set_ne (Ne.symm e1)] at hw
      by_cases e : j = i
      · subst e
        have hl : j < L.length := by
          have := (List.getElem?_eq_some_iff.mp hw).1
          rwa [List.length_set] at this
        rw [List.getElem?_set_self hl] at hw
        cases hw
        exact Or.inl ⟨rfl, rfl⟩
      · rw [List.getElem?_set_ne (Ne.symm e)] at hw
        exact Or.inr ⟨e, e1, hw⟩
  refine ⟨h'.1, h'.2.1, by rw [List.length_set, List.length_set]; exact h.2.2.1, fun j w hw => ?_, fun j w hw hcw => ?_⟩
  · rcases key j w hw with ⟨rfl, rfl⟩ | ⟨e, e1, hw⟩
    · exact h'.2.2 (j, w) List.mem_cons_self
    · refine h'.2.2 (j, w) (List.mem_cons_of_mem _ (List.mem_filter.mpr ⟨ae_pairs_mem.mpr hw, ?_⟩))
      have h2 : ¬ (j + 1 = i ∧ w.category = 2) := fun z => hj' j (h.2.2.2.2 j w hw z.2) z.1
      simp only [Bool.and_eq_true, Bool.not_eq_true', beq_eq_false_iff_ne, ne_eq, Bool.and_eq_false_iff]
      refine ⟨e, e1, ?_⟩
      by_cases z : j + 1 = i
      · exact Or.inr (fun q => h2 ⟨z, q⟩)
      · exact Or.inl z
  · rcases key j w hw with ⟨rfl, rfl⟩ | ⟨e, e1, hw⟩
    · exact hi
    · exact h.2.2.2.2 j w hw hcw
/-! the surroundings: what the tables say, at every state of the run -/
def ae_isQ : Cond → Bool
  | .fieldLinkNest _ _ _ _ _ _ => true
  | .methodLinkNest _ _ _ _ => true
  | .castable _ _ => true
  | .arrayOver (.object _) => true
  | .arrayOver (.array _) => true
  | .declares _ => true
  | _ => false
def ae_env (D : va_G) (s : State) : Prop := va_K D ae_cl [] s ∧ (∀ w ∈ ae_big, ∀ a : Array Value, w.before a s = true) ∧ (∀ w ∈ lw_tbl, ae_isQ w = true → va_Nw w s) ∧ True
def ae_ctx (p : Program) (s : State) (m : MethodId) (meth : Method) (c : Code) (M : ae_M) : Prop := p.tables.exec = Jvm.exec ∧ c.code = M.2.1 ∧ meth.sig.returnType = M.2.2.2.1 ∧ c.maxLocals = M.2.2.1 ∧ s.vm.findClass (ae_on (ae_ow M)) = some m.cls ∧ meth.locks = false ∧ (M.1.name = "<init>" → meth.name = "<init>")
theorem ae_big_good {w : Cond} (h : w ∈ ae_big) : (w.onTables && w.keeps) = true ∨ ∃ ty, w = .arrayClass ty := good_of_word (List.mem_filter.mp h).2
theorem ae_env.warm {D : va_G} {s U : State} (hW : s.WarmedH U.vm) (h : ae_env D s) : ae_env D U := by
  obtain ⟨h1, h2, h3, -⟩ := h
  refine ⟨h1.moved hW.alike, fun w hw a => word_at hW (ae_big_good hw) (h2 w hw #[]), fun w hw hn => ?_, trivial⟩
  have h5 := h3 w hw hn
  cases w with
  | fieldLinkNest a b c d e f => exact va_Nw.warmF hW h5
  | methodLinkNest a b c d => exact va_Nw.warmM hW h5
  | castable a b => exact va_Nw.warmC hW h5
  | declares a => exact va_Nw.warmD hW h5
  | arrayOver ty =>
    cases ty with
    | object C => exact va_AO.moved hW.alike h5
    | array t => exact over_moved hW.alike h5
    | _ => exact absurd hn Bool.false_ne_true
  | _ => exact absurd hn Bool.false_ne_true
