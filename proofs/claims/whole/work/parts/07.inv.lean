/-! what a step of the pure machine has found -/
section AEI
variable {M : ae_M} {L : ae_L} {st : List Value} {h : ah_H} {r : ae_out} {pc i : Nat}
theorem ae_g_s {len k : Nat} {o : Option ae_out} (e : ae_g len k o = some r) : len = k ∧ o = some r := by
  unfold ae_g at e
  split at e
  next q => exact ⟨q, e⟩
  next => cases e
theorem ae_n_s {pc' : Nat} {L' : ae_L} {st' : List Value} {h' : ah_H} (e : ae_n pc L st h = some (.inl (pc', L', st', h'))) : pc = pc' ∧ L = L' ∧ st = st' ∧ h = h' := by
  unfold ae_n at e
  cases e
  exact ⟨rfl, rfl, rfl, rfl⟩
theorem ae_ldI_s {K : Int32 → Option ae_out} (e : ae_ldI L i K = some r) : ∃ x, L[i]? = some (some (.int x)) ∧ K x = some r := by
  unfold ae_ldI at e
  split at e
  next x hx => exact ⟨x, hx, e⟩
  next => cases e
theorem ae_ldJ_s {K : Int64 → Option ae_out} (e : ae_ldJ L i K = some r) : ∃ x, L[i]? = some (some (.long x)) ∧ K x = some r := by
  unfold ae_ldJ at e
  split at e
  next x hx => exact ⟨x, hx, e⟩
  next => cases e
theorem ae_isR_s {v : Value} (e : ae_isR v = true) : v = .null ∨ ∃ a, v = .ref a := by
  cases v <;> simp [ae_isR] at e
  · exact Or.inl rfl
  · exact Or.inr ⟨_, rfl⟩
theorem ae_isR_c {v : Value} (e : ae_isR v = true) : v.category = 1 := by
  rcases ae_isR_s e with rfl | ⟨a, rfl⟩ <;> rfl
theorem ae_ldA_s {K : Value → Option ae_out} (e : ae_ldA L i K = some r) : ∃ x, L[i]? = some (some x) ∧ ae_isR x = true ∧ K x = some r := by
  unfold ae_ldA at e
  split at e
  next x hx =>
    split at e
    next hq => exact ⟨x, hx, hq, e⟩
    next => cases e
  next => cases e
theorem ae_stI_s (e : ae_stI M i pc L st h = some r) : ∃ x q, st = .int x :: q ∧ ae_s1 M i = true ∧ ae_n pc (L.set i (some (.int x))) q h = some r := by
  unfold ae_stI at e
  split at e
  next x q =>
    split at e
    next hq => exact ⟨x, q, rfl, hq, e⟩
    next => cases e
  next => cases e
theorem ae_stJ_s (e : ae_stJ M i pc L st h = some r) : ∃ x q, st = .long x :: q ∧ ae_s2 M i = true ∧ ae_n pc ((L.set i (some (.long x))).set (i + 1) none) q h = some r := by
  unfold ae_stJ at e
  split at e
  next x q =>
    split at e
    next hq => exact ⟨x, q, rfl, hq, e⟩
    next => cases e
  next => cases e
theorem ae_stA_s (e : ae_stA M i pc L st h = some r) : ∃ v q, st = v :: q ∧ ae_isR v = true ∧ ae_s1 M i = true ∧ ae_n pc (L.set i (some v)) q h = some r := by
  unfold ae_stA at e
  split at e
  next v q =>
    split at e
    next hq => exact ⟨v, q, rfl, hq.1, hq.2, e⟩
    next => cases e
  next => cases e
theorem ae_ii_s {f : Int32 → Int32 → Int32} (e : ae_ii f pc L st h = some r) : ∃ x y q, st = .int y :: .int x :: q ∧ ae_n (pc + 1) L (.int (f x y) :: q) h = some r := by
  unfold ae_ii at e
  split at e
  next y x q => exact ⟨x, y, q, rfl, e⟩
  next => cases e
theorem ae_iz_s {f : Int32 → Int32 → Int32} (e : ae_iz f pc L st h = some r) : ∃ x y q, st = .int y :: .int x :: q ∧ ¬ y = 0 ∧ ae_n (pc + 1) L (.int (f x y) :: q) h = some r := by
  unfold ae_iz at e
  split at e
  next y x q =>
    split at e
    next => cases e
    next hy => exact ⟨x, y, q, rfl, hy, e⟩
  next => cases e
theorem ae_jj_s {f : Int64 → Int64 → Int64} (e : ae_jj f pc L st h = some r) : ∃ x y q, st = .long y :: .long x :: q ∧ ae_n (pc + 1) L (.long (f x y) :: q) h = some r := by
  unfold ae_jj at e
  split at e
  next y x q => exact ⟨x, y, q, rfl, e⟩
  next => cases e
theorem ae_ji_s {f : Int64 → Int32 → Int64} (e : ae_ji f pc L st h = some r) : ∃ x y q, st = .int y :: .long x :: q ∧ ae_n (pc + 1) L (.long (f x y) :: q) h = some r := by
  unfold ae_ji at e
  split at e
  next y x q => exact ⟨x, y, q, rfl, e⟩
  next => cases e
theorem ae_j_s {off : Int} (e : ae_j pc off L st h = some r) : ∃ t : Nat, (pc : Int) + off = (t : Int) ∧ ae_n t L st h = some r := by
  unfold ae_j at e
  split at e
  next hq => exact ⟨_, (Int.toNat_of_nonneg hq).symm, e⟩
  next => cases e
theorem ae_get_s {a c k : Nat} {K : Value → Option ae_out} (e : ae_get h a c k K = some r) : ∃ fs v, h.1 a = some (.inr (c, fs)) ∧ fs[k]? = some v ∧ K v = some r := by
  unfold ae_get at e
  split at e
  next c' fs hc =>
    split at e
    next hq =>
      subst hq
      split at e
      next v hv => exact ⟨fs, v, hc, hv, e⟩
      next => cases e
    next => cases e
  next => cases e
theorem ae_put_s {a c k : Nat} {w : String} {v : Value} {K : ah_H → Option ae_out} (e : ae_put M h a c k w v K = some r) : ∃ fs, h.1 a = some (.inr (c, fs)) ∧ k < fs.length ∧ narrow (ae_ty c k) v = v ∧ fits (ae_ty c k) v = true ∧ ae_pok M c k w = true ∧ K (ah_set h a (.inr (c, fs.set k v))) = some r := by
  unfold ae_put at e
  split at e
  next c' fs hc =>
    split at e
    next hq =>
      obtain ⟨rfl, h2, h3, h4, h5⟩ := hq
      exact ⟨fs, hc, h2, h3, h4, h5, e⟩
    next => cases e
  next => cases e
theorem ae_arr_s {a : Nat} {K : Nat → vp_A → Option ae_out} (e : ae_arr h a K = some r) : ∃ t x, h.1 a = some (.inl (t, x)) ∧ K t x = some r := by
  unfold ae_arr at e
  split at e
  next t x hc => exact ⟨t, x, hc, e⟩
  next => cases e
/-- what a field's link is worth: by its own class's name, or by a subclass's -/
def ae_fok2 (o : Nat) (x : Nat × Nat × Nat × String) : Prop := ∀ r : vw_C, ae_cl[x.2.1]? = some r → x.2.2.1 < r.2.2 ∧ if x.2.2.2 = "" then ∃ rf : String, Cond.fieldLink (ae_on o) x.1 rf (r.2.1 x.2.2.1).2.1 (r.2.1 x.2.2.1).2.2.1 ∈ ae_big ∧ (rf = (r.2.1 x.2.2.1).1 ∨ Cond.sameField rf (r.2.1 x.2.2.1).1 (r.2.1 x.2.2.1).2.1 (r.2.1 x.2.2.1).2.2.1 ∈ ae_big) else Cond.fieldLinkNest (ae_on o) x.1 (r.2.1 x.2.2.1).1 (r.2.1 x.2.2.1).2.1 (r.2.1 x.2.2.1).2.2.1 x.2.2.2 ∈ lw_tbl
theorem ae_fok2_of {o : Nat} {x : Nat × Nat × Nat × String} (h : ae_fok o x) : ae_fok2 o x := by
  intro r hr
  obtain ⟨h1, h2⟩ := h r hr
  refine ⟨h1, ?_⟩
  split at h2
  next e => rw [if_pos e]; exact ⟨_, h2, Or.inl rfl⟩
  next e => rw [if_neg e]; exact h2
theorem ae_jw : (∀ w ∈ [Cond.fieldLink "java/util/ArrayList" 9 "java/util/ArrayList" "elementData" "[Ljava/lang/Object;", Cond.fieldLink "java/util/ArrayList" 48 "java/util/ArrayList" "size" "I", Cond.fieldLink "java/util/ArrayList" 63 "java/util/ArrayList" "modCount" "I", Cond.sameField "java/util/ArrayList" "java/util/AbstractList" "modCount" "I", Cond.fieldLink "java/util/AbstractList" 7 "java/util/AbstractList" "modCount" "I", Cond.fieldLink "java/util/ArrayList" 39 "java/util/ArrayList" "DEFAULTCAPACITY_EMPTY_ELEMENTDATA" "[Ljava/lang/Object;", Cond.classLink "java/util/Arrays" 110 "[Ljava/lang/Object;", Cond.methodLink "java/util/Arrays" 86 ⟨"java/lang/Object", "getClass", "()Ljava/lang/Class;"⟩, Cond.selects "[Ljava/lang/Object;" ⟨"java/lang/Object", "getClass", "()Ljava/lang/Class;"⟩ ⟨"java/lang/Object", "getClass", "()Ljava/lang/Class;"⟩, Cond.instanceMethod ⟨"java/lang/Object", "getClass", "()Ljava/lang/Class;"⟩, Cond.native ⟨"java/lang/Object", "getClass", "()Ljava/lang/Class;"⟩], w ∈ ae_big) := by decide +kernel
theorem ae_jq : Cond.declares ⟨"java/lang/Object", "getClass", "()Ljava/lang/Class;"⟩ ∈ lw_tbl ∧ Cond.castable "NarrowSolver$Node" "java/lang/Object" ∈ lw_tbl := by decide +kernel
theorem ae_fld_s {o c k : Nat} {w : String} (e : ae_fld o i = some (c, k, w)) : ae_fok2 o (i, c, k, w) := by
  unfold ae_fld at e
  split at e
  next h12 =>
    subst h12
    split at e
    next hi => subst hi; cases e; intro r hr; cases hr; exact ⟨by decide, by rw [if_pos rfl]; exact ⟨_, ae_jw (Cond.fieldLink "java/util/ArrayList" 9 "java/util/ArrayList" "elementData" "[Ljava/lang/Object;") (by simp), Or.inl rfl⟩⟩
    next =>
      split at e
      next hi => subst hi; cases e; intro r hr; cases hr; exact ⟨by decide, by rw [if_pos rfl]; exact ⟨_, ae_jw (Cond.fieldLink "java/util/ArrayList" 48 "java/util/ArrayList" "size" "I") (by simp), Or.inl rfl⟩⟩
      next =>
        split at e
        next hi => subst hi; cases e; intro r hr; cases hr; exact ⟨by decide, by rw [if_pos rfl]; exact ⟨_, ae_jw (Cond.fieldLink "java/util/ArrayList" 63 "java/util/ArrayList" "modCount" "I") (by simp), Or.inr (ae_jw (Cond.sameField "java/util/ArrayList" "java/util/AbstractList" "modCount" "I") (by simp))⟩⟩
        next => cases e
  next h12 =>
    split at e
    next h22 =>
      subst h22
      split at e
      next hi => subst hi; cases e; intro r hr; cases hr; exact ⟨by decide, by rw [if_pos rfl]; exact ⟨_, ae_jw (Cond.fieldLink "java/util/AbstractList" 7 "java/util/AbstractList" "modCount" "I") (by simp), Or.inl rfl⟩⟩
      next => cases e
    next h22 =>
      cases hf : (ae_fl o).find? (fun x => x.1 == i) with
      | none => rw [hf] at e; cases e
      | some x =>
        rw [hf] at e
        have h1 := List.mem_of_find?_eq_some hf
        have h2 : x.1 = i := by simpa using List.find?_some hf
        have h3 : x.2 = (c, k, w) := by simpa using e
        have h4 := ae_fl_ok o x h1
        rw [show x = (i, c, k, w) by rw [← h2, ← h3]] at h4
        exact ae_fok2_of h4
theorem ae_mth_s {o n kd : Nat} {M' : ae_M} {w : String} (e : ae_mth o i = some (kd, M', n, w)) : ae_mok o (i, kd, M', n, w) := by
  unfold ae_mth at e
  cases hf : (ae_ml o).find? (fun x => x.1 == i) with
  | none => rw [hf] at e; cases e
  | some x =>
    rw [hf] at e
    have h1 := List.mem_of_find?_eq_some hf
    have h2 : x.1 = i := by simpa using List.find?_some hf
    have h3 : x.2 = (kd, M', n, w) := by simpa using e
    have h4 := ae_ml_ok o x h1
    rw [show x = (i, kd, M', n, w) by rw [← h2, ← h3]] at h4
    exact h4
theorem ae_tab_s {α : Type} {t : List (Nat × Nat × α)} {o : Nat} {v : α} (e : (t.find? (fun x => x.1 == o && x.2.1 == i)).map (fun x => x.2.2) = some v) : (o, i, v) ∈ t := by
  cases hf : t.find? (fun x => x.1 == o && x.2.1 == i) with
  | none => rw [hf] at e; cases e
  | some x =>
    rw [hf] at e
    have h1 := List.mem_of_find?_eq_some hf
    have h2 := List.find?_some hf
    simp only [Bool.and_eq_true, beq_iff_eq] at h2
    have h3 : x.2.2 = v := by simpa using e
    rw [← h2.1, ← h2.2, ← h3]
    exact h1
end AEI
