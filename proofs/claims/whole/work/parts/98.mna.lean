/-! int[n][k] -/
theorem ae_outer (c : ClassId) (N h0 : Nat) : ∀ i : Nat, Jvm.Free.Multi.outerC c N h0 i = arrV c N (fun j => va_rf (if j < i then some (h0 + 1 + j) else none))
  | 0 => by
    show ({ cls := c, slots := Array.replicate N .null, vm := .none } : Cell) = _
    rw [arrV_new]
    refine congrArg (arrV c N) (funext fun j => ?_)
    simp [va_rf]
  | i + 1 => by
    show (Jvm.Free.Multi.outerC c N h0 i).setSlot i (.ref (h0 + 1 + i)) = _
    rw [ae_outer c N h0 i, arrV_store]
    refine congrArg (arrV c N) (funext fun j => ?_)
    by_cases e : j = i
    · subst e
      simp [updV, va_rf]
    · by_cases h : j < i
      · simp [updV, e, h, Nat.lt_succ_of_lt h]
      · simp [updV, e, h, show ¬ j < i + 1 by omega]
theorem ae_mna : ae_MNA := by
  intro p l e R s m args below meth c Q D base M h0 pc L rest h n k hC hE ho hn hd hR1 hR2 hle kk H locs ls hP hL hF
  obtain ⟨hx, hb, -, -, hown, -⟩ := hC
  have hn0 : ¬ n < 0 := fun z => hn (Or.inl z)
  have hk0 : ¬ k < 0 := fun z => hn (Or.inr (Or.inl z))
  have hn1 : n.toNatClampNeg ≤ 65536 := Nat.not_lt.mp fun z => hn (Or.inr (Or.inr (Or.inl z)))
  have hk1 : k.toNatClampNeg ≤ 65536 := Nat.not_lt.mp fun z => hn (Or.inr (Or.inr (Or.inr z)))
  have g1 : h.2.1 + 1 + n.toNatClampNeg - h0.2.1 ≤ R.cells := hR1
  have g2 : h.2.2.1 + n.toNatClampNeg + n.toNatClampNeg * k.toNatClampNeg - h0.2.2.1 ≤ R.slots := hR2
  have q1 := hle.1
  have q2 := hle.2
  rw [ho] at hown
  intro T hT Xs
  obtain ⟨vm₁, cA, comp, -, fA, fC, hO, hI, X', step⟩ := Xs.multianewarray2F (ty := .int) hx hown (hE.2.1 _ ae_mult.1 args) (over_moved (Vm.Alike.refl s.vm) (hE.2.2.1 _ ae_mult.2.1 rfl)) (hE.2.1 _ ae_mult.2.2.1 args) (g := F0 m pc ls (.int k :: .int n :: rest)) rfl (by rw [hb]; exact hd) rfl hn0 hk0 (by omega) (by show k.toNatClampNeg * 4 ≤ _; omega) (by omega) rfl rfl (by omega) (by omega)
  generalize hFd : Jvm.Free.Multi.fill (T.setVm vm₁) cA comp n.toNatClampNeg k.toNatClampNeg (defaultValue .int) n.toNatClampNeg = F at X' step
  have hTh : (T.setVm vm₁).heap = H := hT
  obtain ⟨f1, f2, -, -⟩ := Jvm.Free.Multi.fill_facts (T.setVm vm₁) cA comp n.toNatClampNeg k.toNatClampNeg (defaultValue .int) n.toNatClampNeg
  rw [hFd, hTh] at f1 f2
  have hold : ∀ x : Nat, x < H.size → F.heap[x]? = H[x]? := fun x hx => by
    have := Jvm.Free.Multi.fill_old (T.setVm vm₁) cA comp n.toNatClampNeg k.toNatClampNeg (defaultValue .int) (a := x) (by rw [hTh]; exact hx) n.toNatClampNeg
    rw [hFd, hTh] at this
    exact this
  have hin : ∀ c : ClassId, Jvm.Free.Multi.innerC c k.toNatClampNeg (defaultValue .int) = vp_cell c (k.toNatClampNeg, .inl (fun _ => 0)) := fun c => by
    rw [vp_cell_i]
    show ({ cls := c, slots := Array.replicate k.toNatClampNeg (.int 0), vm := .none } : Cell) = _
    rw [arrV_new]
  have hrow : ∀ j : Nat, j < n.toNatClampNeg → F.heap[H.size + 1 + j]? = some (vp_cell comp (k.toNatClampNeg, .inl (fun _ => 0))) := fun j hj => by
    have := Jvm.Free.Multi.fill_inner (T.setVm vm₁) cA comp n.toNatClampNeg k.toNatClampNeg (defaultValue .int) n.toNatClampNeg j hj
    rw [hFd, hTh, hin] at this
    exact this
  have hout : Jvm.Free.Multi.outerC cA n.toNatClampNeg H.size n.toNatClampNeg = vp_cell cA (n.toNatClampNeg, .inr (.inr (.inr (.inr (fun i => if i < n.toNatClampNeg then some (H.size + 1 + i) else none))))) := by
    rw [vp_cell_q]
    exact ae_outer cA n.toNatClampNeg H.size n.toNatClampNeg
  rw [hout] at f2
  have hAr : ArrOfT s cA (.array .int) := fun N9 z9 => by
    obtain ⟨-, k9, hk9, cm9, hkk9⟩ := (hO 0 0 0).1
    exact ⟨(fun q hq => by cases hq), k9, hk9, cm9, hkk9⟩
  have hAi : ArrOfT s comp .int := fun N9 z9 => by
    obtain ⟨-, k9, hk9, cm9, hkk9⟩ := (hI 0 (.int 0)).1
    exact ⟨(fun q hq => by cases hq), k9, hk9, cm9, hkk9⟩
  have hsz : h.2.1 = H.size := hP.1
  have hrep : ae_rep D base s (ah_new2 h n.toNatClampNeg k.toNatClampNeg) F.heap := by
    refine ⟨by rw [f1]; show h.2.1 + 1 + n.toNatClampNeg = _; omega, by rw [f1]; have := hP.2.1; omega, ⟨hP.2.2.1.1.kept (fun q _ hq => hold q hq), hP.2.2.1.2⟩, fun a c hc => ?_⟩
    simp only [ah_new2] at hc
    split at hc
    next ha =>
      cases hc
      rw [ha, hsz]
      exact ae_ar_in (by have := hP.2.1; omega) (by decide) rfl f2 hAr fA
    next ha =>
      split at hc
      next hb2 =>
        cases hc
        have hj : a = H.size + 1 + (a - H.size - 1) := by omega
        have := hrow (a - H.size - 1) (by omega)
        rw [← hj] at this
        exact ae_ar_in (by have := hP.2.1; omega) (by decide) rfl this hAi fC
      next => exact (hP.2.2.2 a c hc).kept (hold a (hP.2.2.2 a c hc).lt)
  rw [show h.2.1 - h0.2.1 + 1 + n.toNatClampNeg = (ah_new2 h n.toNatClampNeg k.toNatClampNeg).2.1 - h0.2.1 by show _ = h.2.1 + 1 + n.toNatClampNeg - h0.2.1; omega, show h.2.2.1 - h0.2.2.1 + n.toNatClampNeg + n.toNatClampNeg * k.toNatClampNeg = (ah_new2 h n.toNatClampNeg k.toNatClampNeg).2.2.1 - h0.2.2.1 by show _ = h.2.2.1 + n.toNatClampNeg + n.toNatClampNeg * k.toNatClampNeg - h0.2.2.1; omega] at X'
  obtain ⟨t, a1, b1⟩ := kk F.heap locs ls hrep hL hF F rfl X'
  refine ⟨t, step t ?_, b1⟩
  have e2 : T.heap.size = h.2.1 := by rw [hT, hsz]
  rw [e2]
  exact a1
