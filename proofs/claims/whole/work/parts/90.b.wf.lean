/-! what a rule and a problem from the tape are -/
theorem kn1_knw {ns : Nat} {tp : List Nat} (h : ∀ i, i < tp.length → knw ns (tp.getD i 0) = true) : kn1 ns tp := fun i hi => by
  have := h i hi
  unfold knw at this
  rw [decide_eq_true_iff] at this
  omega
theorem rgu_app {ns : Nat} {rl : mR} {tp : List Nat} {l : Nat} (hg : rgu ns rl) (hk : ∀ i, i < tp.length → knw ns (tp.getD i 0) = true) (hl : l ≤ tp.length) (hf : tfr tp l = false) : rgu ns (rl ++ [(tp, l)]) := fun r hr => by
  by_cases c : r < rl.length
  · rw [rat_app1 c]; exact hg r c
  · have e : r = rl.length := by simp at hr; omega
    subst e
    rw [rat_app2]
    refine ⟨hk, fun y hy h100 => ?_, hl⟩
    have hy : y ∈ tp.drop l := hy
    obtain ⟨i, hi, he⟩ := List.mem_iff_getElem.mp hy
    rw [List.length_drop] at hi
    rw [List.getElem_drop] at he
    have hd : tp.getD (l + i) 0 = y := by rw [List.getD_eq_getElem?_getD, List.getElem?_eq_getElem (by omega), he]; rfl
    unfold tfr at hf
    have hx : exF (fun j => decide (tp.getD j 0 = tp.getD (l + i) 0)) (l - 1) 1 = true := by
      cases hz : exF (fun j => decide (tp.getD j 0 = tp.getD (l + i) 0)) (l - 1) 1 with
      | true => rfl
      | false =>
        exfalso
        have : exF (fun k => !(decide (tp.getD k 0 < 100) || exF (fun j => decide (tp.getD j 0 = tp.getD k 0)) (l - 1) 1)) (tp.length - l) l = true := (exF_iff _ _ _).mpr ⟨l + i, by omega, by omega, by rw [hz, decide_eq_false (by omega)]; rfl⟩
        rw [hf] at this
        cases this
    obtain ⟨j, j1, j2, j3⟩ := (exF_iff _ _ _).mp hx
    have j3 : tp.getD j 0 = y := by rw [← hd]; simpa using j3
    have hj : j < (tp.take l).length := by rw [List.length_take]; omega
    refine List.mem_iff_getElem.mpr ⟨j, hj, ?_⟩
    rw [List.getElem_take, ← j3, List.getD_eq_getElem?_getD, List.getElem?_eq_getElem (by omega)]
    rfl
theorem unk_ok {ns : Nat} {A : Nat → Nat} (hA : ∀ x, 24 ≤ x → A x = 0) : kn1 ns unk ∧ rn A unk 10 = some 0 ∧ unk.length = 10 := by
  refine ⟨fun i hi => ?_, ?_, by decide⟩
  · have : ∀ i, i < 10 → 100 ≤ unk.getD i 0 ∧ unk.getD i 0 < 256 := by decide
    exact Or.inr (this i (by simpa [unk] using hi))
  · have e : unk = [100, 101, 102, 103, 104, 105, 106, 107, 108, 109] := by decide
    rw [e]
    simp [rn, hA]
theorem svb_wf {ns : Nat} {A : Nat → Nat} {tp : List Nat} {mn : Nat} (hA : ∀ x, 24 ≤ x → A x = 0) (hl : tp.length ≤ 120) (h2 : rn A tp (2 * mn) = some 0) (hk : ∀ i, i < tp.length → knw ns (tp.getD i 0) = true) : svW ns A (svb tp mn) := by
  obtain ⟨u1, u2, u3⟩ := unk_ok (ns := ns) hA
  unfold svb
  by_cases c : mn = 0
  · rw [if_pos c]
    refine ⟨fun p hp => (nomatch hp), fun z hz => ?_⟩
    rw [List.mem_singleton.mp hz]
    exact ⟨u1, u2, by omega⟩
  · rw [if_neg c]
    refine ⟨fun p hp => ?_, fun z hz => (nomatch hz)⟩
    rw [List.mem_singleton.mp hp]
    exact ⟨kn1_knw hk, u1, h2, u2, by show tp.length + unk.length ≤ 300; omega, by show 10 ≤ 81; omega, by show 0 < mn; omega⟩
theorem fot_0 {F : Nat → Bool} {tp : List Nat} {l rm : Nat} : fot F tp l rm = if fot F tp l 0 = nI 0 then (if rm = 40 then -18 else nI 0) else fot F tp l 0 := by
  unfold fot
  have e1 : ¬ (-14 : Int32) = nI 0 := by decide +kernel
  have e2 : ¬ (-15 : Int32) = nI 0 := by decide +kernel
  have e3 : ¬ (-16 : Int32) = nI 0 := by decide +kernel
  have e4 : ¬ (-17 : Int32) = nI 0 := by decide +kernel
  by_cases c1 : F (tp.getD 0 0) = false
  · rw [if_pos c1, if_pos c1, if_neg e1]
  · rw [if_neg c1, if_neg c1]
    by_cases c2 : tdp F tp l = true
    · rw [if_pos c2, if_pos c2, if_neg e2]
    · rw [if_neg c2, if_neg c2]
      by_cases c3 : ttw tp l = true
      · rw [if_pos c3, if_pos c3, if_neg e3]
      · rw [if_neg c3, if_neg c3]
        by_cases c4 : tfr tp l = true
        · rw [if_pos c4, if_pos c4, if_neg e4]
        · rw [if_neg c4, if_neg c4, if_neg (show ¬ (0 : Nat) = 40 by omega), if_pos rfl]
