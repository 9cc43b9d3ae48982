/-! calls, ends, and the whole: what ae_run says of a method is a contract of the machine -/
def ae_sl (vs : List Value) : ae_L := vs.flatMap (fun v => if v.category = 2 then [some v, none] else [some v])
theorem ae_sl_len (vs : List Value) : (ae_sl vs).length = (lg_sl vs).length := by
  induction vs with
  | nil => rfl
  | cons v vs ih =>
    simp only [ae_sl, lg_sl, List.flatMap_cons, List.length_append] at ih ⊢
    rw [ih]
    by_cases h : v.category = 2 <;> simp [h]
theorem ae_sl_mem : ∀ (vs : List Value) (n i : Nat) (v : Value), (ae_sl vs)[i]? = some (some v) → (n + i, v) ∈ lv_args n vs := by
  intro vs
  induction vs with
  | nil => intro n i v h; simp [ae_sl] at h
  | cons w vs ih =>
    intro n i v h
    simp only [ae_sl, List.flatMap_cons] at h
    by_cases hc : w.category = 2
    · rw [if_pos hc] at h
      simp only [lv_args, hc, if_true]
      match i, h with
      | 0, h => simp at h; rw [← h]; exact List.mem_cons_self
      | 1, h => simp at h
      | i + 2, h =>
        have h' : (ae_sl vs)[i]? = some (some v) := by simp at h; exact h
        have := ih (n + 2) i v h'
        rw [show n + 2 + i = n + (i + 2) by omega] at this
        exact List.mem_cons_of_mem _ this
    · rw [if_neg hc] at h
      simp only [lv_args, hc, if_false]
      match i, h with
      | 0, h => simp at h; rw [← h]; exact List.mem_cons_self
      | i + 1, h =>
        have h' : (ae_sl vs)[i]? = some (some v) := by simp at h; exact h
        have := ih (n + 1) i v h'
        rw [show n + 1 + i = n + (i + 1) by omega] at this
        exact List.mem_cons_of_mem _ this
theorem ae_jok_s {J : List Nat} : ∀ (vs : List Value) (n : Nat), ae_jok J n vs = true → ∀ (i : Nat) (v : Value), (i, v) ∈ lv_args n vs → v.category = 2 → i ∈ J := by
  intro vs
  induction vs with
  | nil => intro n _ i v h; simp [lv_args] at h
  | cons w vs ih =>
    intro n hj i v h hc
    unfold ae_jok at hj
    unfold lv_args at h
    by_cases hw : w.category = 2
    · rw [if_pos hw] at hj h
      rw [Bool.and_eq_true] at hj
      rcases List.mem_cons.mp h with h | h
      · cases h; simpa using hj.1
      · exact ih _ hj.2 i v h hc
    · rw [if_neg hw] at hj h
      rcases List.mem_cons.mp h with h | h
      · cases h; exact absurd hc hw
      · exact ih _ hj i v h hc
theorem ae_ent_lok {M : ae_M} {as : List Value} (he : ae_eok M as = true) : (lg_sl as).length ≤ M.2.2.1 ∧ ae_lok M.2.2.2.2.2.1 M.2.2.1 (ae_ent M as) ((lg_sl as ++ List.replicate (M.2.2.1 - (lg_sl as).length) Slot.unset).toArray) := by
  unfold ae_eok at he
  rw [Bool.and_eq_true, decide_eq_true_eq] at he
  obtain ⟨hlen, hj⟩ := he
  have hent : ae_ent M as = ae_sl as ++ List.replicate (M.2.2.1 - (ae_sl as).length) none := rfl
  have hl : (lg_sl as).length ≤ M.2.2.1 := by
    rw [hent, List.length_append, List.length_replicate, ae_sl_len] at hlen
    omega
  have hv := lv_entry as hl
  have key : ∀ (i : Nat) (v : Value), (ae_ent M as)[i]? = some (some v) → (i, v) ∈ lv_args 0 as := by
    intro i v h
    rw [hent] at h
    by_cases hi : i < (ae_sl as).length
    · rw [List.getElem?_append_left hi] at h
      have := ae_sl_mem as 0 i v h
      rwa [Nat.zero_add] at this
    · rw [List.getElem?_append_right (by omega)] at h
      have := List.eq_of_mem_replicate (List.mem_of_getElem? h)
      cases this
  exact ⟨hl, hv.1, hv.2.1, hlen, fun i v h => hv.2.2 (i, v) (key i v h), fun i v h hc => ae_jok_s as 0 hj i v (key i v h) hc⟩
def ae_ws (M : ae_M) : List Cond := ae_cw M :: ae_big
def ae_room (d : Nat) (h h1 : ah_H) : Room := { frames := d + 1, cells := h1.2.1 - h.2.1, slots := h1.2.2.1 - h.2.2.1, locals := (d + 1) * 40 }
def ae_Pc (D : va_G) (base : Nat) (as : List Value) (h : ah_H) : Array Value → State → Prop := va_Pc as (fun U => ae_rep D base U h U.heap ∧ ae_env D U)
def ae_Qc (D : va_G) (base : Nat) (v : Option Value) (h1 : ah_H) : Array Value → State → Outcome → State → Prop := fun _ _ o t => o = .returned v ∧ ae_rep D base t h1 t.heap
theorem ae_Pc_blind (D : va_G) (base : Nat) (as : List Value) (h : ah_H) : FrameBlind (ae_Pc D base as h) := by
  intro a U g mk q
  obtain ⟨q0, q1, q2⟩ := q
  exact ⟨q0, q1.moved (U := U.calling g mk a) (Vm.Alike.refl U.vm), q2.warm (U := U.calling g mk a) (State.WarmedH.refl U)⟩
def ae_met (l : Launch) (d : Nat) (M : ae_M) (as : List Value) (h : ah_H) (v : Option Value) (h1 : ah_H) : Prop := ∀ (D : va_G) (base : Nat), Met l M.1 (ae_ws M) (ae_room d h h1) (ae_Pc D base as h) (ae_Qc D base v h1) (h1.2.1 - h.2.1) (h1.2.2.1 - h.2.2.1) (fun q => base ≤ q)
theorem ae_plain0 : (List.range 23).all (fun o => (ae_ml o).all (fun x => decide (x.2.1 = 6) || (decide (x.2.1 = 7) || plainFor x.2.2.1.1))) = true := by decide +kernel
theorem ae_ml_big {o : Nat} (h : 23 ≤ o) : ae_ml o = [] := by
  match o, h with
  | n + 23, _ => rfl
theorem ae_plain {o i n kd : Nat} {M' : ae_M} {w : String} (e : ae_mth o i = some (kd, M', n, w)) (h6 : kd ≠ 6) (h7 : kd ≠ 7) : plainFor M'.1 = true := by
  unfold ae_mth at e
  cases hf : (ae_ml o).find? (fun x => x.1 == i) with
  | none => rw [hf] at e; cases e
  | some x =>
    rw [hf] at e
    have h1 := List.mem_of_find?_eq_some hf
    have h3 : x.2 = (kd, M', n, w) := by simpa using e
    by_cases ho : o < 23
    · have h2 := List.all_eq_true.mp ae_plain0 o (List.mem_range.mpr ho)
      have h4 := List.all_eq_true.mp h2 x h1
      rw [h3] at h4
      simpa [h6, h7] using h4
    · rw [ae_ml_big (by omega)] at h1
      cases h1
