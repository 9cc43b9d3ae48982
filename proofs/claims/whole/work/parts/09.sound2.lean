section AES2
variable {p : Program} {l : Launch} {e : Env} {R : Room} {s : State} {m : MethodId} {args : Array Value} {below : List Frame} {meth : Method} {c : Code} {Q : State → Prop} {D : va_G} {base : Nat} {M : ae_M} {h0 h1 : ah_H}
variable {pc i : Nat} {L : ae_L} {st : List Value} {h : ah_H}
/-- an array of a known kind, in the heap -/
theorem ae_ar {t a : Nat} {x : vp_A} {H : Heap} (hA : ae_at D base s a (.inl (t, x)) H) (ht : t ≠ 99 ∧ t ≠ 98) : base ≤ a ∧ ∃ (cA : ClassId) (ty : FieldType), ae_T t = some ty ∧ H[a]? = some (vp_cell cA x) ∧ ArrOfT s cA ty ∧ va_RA s cA ty := by
  unfold ae_at at hA
  dsimp only at hA
  rw [if_neg ht.1, if_neg ht.2] at hA
  exact hA
theorem ae_ar_in {t a : Nat} {x : vp_A} {H : Heap} {cA : ClassId} {ty : FieldType} (hb : base ≤ a) (ht : t ≠ 99) (hT : ae_T t = some ty) (hc : H[a]? = some (vp_cell cA x)) (h1 : ArrOfT s cA ty) (h2 : va_RA s cA ty) : ae_at D base s a (.inl (t, x)) H := by
  unfold ae_at
  dsimp only
  rw [if_neg ht, if_neg (fun q => by rw [q] at hT; cases hT)]
  exact ⟨hb, cA, ty, hT, hc, h1, h2⟩
theorem sn_alen (hC : ae_ctx p s m meth c M) {a t : Nat} {x : vp_A} {rest : List Value} (hc : h.1 a = some (.inl (t, x))) (hd : decode M.2.1 pc = .ok (.arraylength, 1))
    (kk : ae_K p l e R s m args below meth c Q D base M h0 (pc + 1) L (.int (Int32.ofNat x.1) :: rest) h) : ae_K p l e R s m args below meth c Q D base M h0 pc L (.ref a :: rest) h := by
  intro H locs ls hP hL hF
  obtain ⟨hx, hb, -⟩ := hC
  have hA := hP.2.2.2 a _ hc
  have go := kk H locs ls hP hL hF
  by_cases ht : t = 99
  · unfold ae_at at hA
    dsimp only at hA
    rw [if_pos ht] at hA
    obtain ⟨⟨scr, h1, h2, h3, h4, h5⟩, -⟩ := hA
    exact W.alen (n := Int32.ofNat x.1) hx hb h1 h2 (by rw [h4] <;> rfl) rfl rfl hd go
  · by_cases ht2 : t = 98
    · unfold ae_at at hA
      dsimp only at hA
      rw [if_neg ht, if_pos ht2] at hA
      obtain ⟨h0, cell, h1, h2, h3⟩ := hA
      rw [h0] at go
      exact W.alen (n := Int32.ofNat 0) hx hb h1 h2 (by rw [h3] <;> rfl) rfl rfl hd go
    obtain ⟨-, cA, ty, -, h2, h3, -⟩ := ae_ar hA ⟨ht, ht2⟩
    obtain ⟨n, f | f | f | f | f⟩ := x
    · exact W.alen (n := Int32.ofNat n) hx hb h2 (h3 n (fun j => .int (f j))) (by rw [vp_cell_i, arrV_size] <;> rfl) rfl rfl hd go
    · exact W.alen (n := Int32.ofNat n) hx hb h2 (h3 n (fun j => .long (f j))) (by rw [vp_cell_l, arrV_size] <;> rfl) rfl rfl hd go
    · exact W.alen (n := Int32.ofNat n) hx hb h2 (h3 n (fun j => .float (f j))) (by rw [vp_cell_f, arrV_size] <;> rfl) rfl rfl hd go
    · exact W.alen (n := Int32.ofNat n) hx hb h2 (h3 n (fun j => .double (f j))) (by rw [vp_cell_d, arrV_size] <;> rfl) rfl rfl hd go
    · exact W.alen (n := Int32.ofNat n) hx hb h2 (h3 n (fun j => va_rf (f j))) (by rw [vp_cell_q, arrV_size] <;> rfl) rfl rfl hd go
theorem sn_iald (hC : ae_ctx p s m meth c M) {a t n : Nat} {f : Nat → Int32} {j : Int32} {rest : List Value} (hc : h.1 a = some (.inl (t, n, .inl f))) (ht : t = 0 ∨ t = 99) (hj : ¬ (j < 0 ∨ n ≤ j.toNatClampNeg)) (hd : decode M.2.1 pc = .ok (.iaload, 1))
    (kk : ae_K p l e R s m args below meth c Q D base M h0 (pc + 1) L (.int (f j.toNatClampNeg) :: rest) h) : ae_K p l e R s m args below meth c Q D base M h0 pc L (.int j :: .ref a :: rest) h := by
  intro H locs ls hP hL hF
  obtain ⟨hx, hb, -⟩ := hC
  have hA := hP.2.2.2 a _ hc
  have go := kk H locs ls hP hL hF
  have hlt : j.toNatClampNeg < n := Nat.not_le.mp fun q => hj (Or.inr q)
  rcases ht with rfl | rfl
  · obtain ⟨-, cA, ty, hT, h2, h3, -⟩ := ae_ar hA (by decide)
    cases hT
    exact W.iald (v := .int (f j.toNatClampNeg)) hx hb h2 (h3 n (fun j => .int (f j))) (fun q => by cases q) (by show ¬ (j < 0 ∨ (arrV _ _ _).slots.size ≤ _); rw [arrV_size]; exact hj) (by show (arrV _ _ _).slots[_]? = _; rw [arrV_read _ _ hlt]) rfl rfl hd go
  · unfold ae_at at hA
    dsimp only at hA
    rw [if_pos rfl] at hA
    obtain ⟨⟨scr, h1, h2, h3, h4, h5⟩, -⟩ := hA
    exact W.iald (v := .int (f j.toNatClampNeg)) hx hb h1 h2 h3 (by rw [h4]; exact hj) (h5 _ hlt) rfl rfl hd go
theorem sn_bald (hC : ae_ctx p s m meth c M) {a n : Nat} {f : Nat → Int32} {j : Int32} {rest : List Value} (hc : h.1 a = some (.inl (1, n, .inl f))) (hj : ¬ (j < 0 ∨ n ≤ j.toNatClampNeg)) (hd : decode M.2.1 pc = .ok (.baload, 1))
    (kk : ae_K p l e R s m args below meth c Q D base M h0 (pc + 1) L (.int (f j.toNatClampNeg) :: rest) h) : ae_K p l e R s m args below meth c Q D base M h0 pc L (.int j :: .ref a :: rest) h := by
  intro H locs ls hP hL hF
  obtain ⟨hx, hb, -⟩ := hC
  have hA := hP.2.2.2 a _ hc
  have go := kk H locs ls hP hL hF
  have hlt : j.toNatClampNeg < n := Nat.not_le.mp fun q => hj (Or.inr q)
  obtain ⟨-, cA, ty, hT, h2, h3, -⟩ := ae_ar hA (by decide)
  cases hT
  exact W.zald (v := .int (f j.toNatClampNeg)) hx hb h2 (h3 n (fun j => .int (f j))) (fun q => by cases q) (by show ¬ (j < 0 ∨ (arrV _ _ _).slots.size ≤ _); rw [arrV_size]; exact hj) (by show (arrV _ _ _).slots[_]? = _; rw [arrV_read _ _ hlt]) rfl rfl hd go
theorem sn_lald (hC : ae_ctx p s m meth c M) {a n : Nat} {f : Nat → Int64} {j : Int32} {rest : List Value} (hc : h.1 a = some (.inl (2, n, .inr (.inl f)))) (hj : ¬ (j < 0 ∨ n ≤ j.toNatClampNeg)) (hd : decode M.2.1 pc = .ok (.laload, 1))
    (kk : ae_K p l e R s m args below meth c Q D base M h0 (pc + 1) L (.long (f j.toNatClampNeg) :: rest) h) : ae_K p l e R s m args below meth c Q D base M h0 pc L (.int j :: .ref a :: rest) h := by
  intro H locs ls hP hL hF
  obtain ⟨hx, hb, -⟩ := hC
  have hA := hP.2.2.2 a _ hc
  have go := kk H locs ls hP hL hF
  have hlt : j.toNatClampNeg < n := Nat.not_le.mp fun q => hj (Or.inr q)
  obtain ⟨-, cA, ty, hT, h2, h3, -⟩ := ae_ar hA (by decide)
  cases hT
  exact W.lald (v := .long (f j.toNatClampNeg)) hx hb h2 (h3 n (fun j => .long (f j))) (fun q => by cases q) (by show ¬ (j < 0 ∨ (arrV _ _ _).slots.size ≤ _); rw [arrV_size]; exact hj) (by show (arrV _ _ _).slots[_]? = _; rw [arrV_read _ _ hlt]) rfl rfl hd go
theorem ae_T_ref {t : Nat} {ty : FieldType} (h1 : 3 ≤ t) (h2 : t ≤ 7) (hT : ae_T t = some ty) : ty.isReference = true ∧ t ≠ 99 := by
  have : t = 3 ∨ t = 4 ∨ t = 5 ∨ t = 6 ∨ t = 7 := by omega
  rcases this with rfl | rfl | rfl | rfl | rfl <;> (cases hT; exact ⟨rfl, by decide⟩)
theorem sn_aald (hC : ae_ctx p s m meth c M) {a n t : Nat} {f : Nat → Option Nat} {j : Int32} {rest : List Value} (hc : h.1 a = some (.inl (t, n, .inr (.inr (.inr (.inr f)))))) (ht : 3 ≤ t ∧ t ≤ 7) (hj : ¬ (j < 0 ∨ n ≤ j.toNatClampNeg)) (hd : decode M.2.1 pc = .ok (.aaload, 1))
    (kk : ae_K p l e R s m args below meth c Q D base M h0 (pc + 1) L (va_rf (f j.toNatClampNeg) :: rest) h) : ae_K p l e R s m args below meth c Q D base M h0 pc L (.int j :: .ref a :: rest) h := by
  intro H locs ls hP hL hF
  obtain ⟨hx, hb, -⟩ := hC
  have hA := hP.2.2.2 a _ hc
  have go := kk H locs ls hP hL hF
  have hlt : j.toNatClampNeg < n := Nat.not_le.mp fun q => hj (Or.inr q)
  obtain ⟨-, cA, ty, hT, h2, h3, -⟩ := ae_ar hA (by omega)
  exact W.aald (v := va_rf (f j.toNatClampNeg)) (ty := ty) hx hb h2 (h3 n (fun j => va_rf (f j))) (ae_T_ref ht.1 ht.2 hT).1 (fun q => by cases q) (by show ¬ (j < 0 ∨ (arrV _ _ _).slots.size ≤ _); rw [arrV_size]; exact hj) (by show (arrV _ _ _).slots[_]? = _; rw [arrV_read _ _ hlt]) rfl rfl hd go
/-- behind a store into an array -/
theorem sn_ast {a t n : Nat} {x' : vp_A} {cA : ClassId} {ty : FieldType} {H H1 : Heap} {locs : List Loc} {ls : Array Slot} {j : Nat} {rest : List Value} (hP : ae_rep D base s h H) (hL : ae_lok M.2.2.2.2.2.1 M.2.2.1 L ls) (hF : ∀ q ∈ locs, base ≤ q.base) (hb : base ≤ a) (ht : t ≠ 99) (hT : ae_T t = some ty) (h3 : ArrOfT s cA ty) (h4 : va_RA s cA ty) (e1 : H1[a]? = some (vp_cell cA x')) (z : H1.size = H.size) (oq : ∀ q : Nat, q ≠ a → H1[q]? = H[q]?)
    (kk : ae_K p l e R s m args below meth c Q D base M h0 n L rest (ah_set h a (.inl (t, x')))) : W p l e R s m args below meth c H1 (locs ++ [⟨a, j⟩]) (h.2.1 - h0.2.1) (h.2.2.1 - h0.2.2.1) Q (F0 m n ls rest) := by
  refine kk H1 _ ls (hP.set hb z oq (ae_ar_in hb ht hT e1 h3 h4)) hL (fun q hq => ?_)
  rcases List.mem_append.mp hq with z | z
  · exact hF q z
  · rw [List.mem_singleton.mp z]; exact hb
theorem sn_iast (hC : ae_ctx p s m meth c M) {a n : Nat} {f : Nat → Int32} {j v : Int32} {rest : List Value} (hc : h.1 a = some (.inl (0, n, .inl f))) (hj : ¬ (j < 0 ∨ n ≤ j.toNatClampNeg)) (hd : decode M.2.1 pc = .ok (.iastore, 1))
    (kk : ae_K p l e R s m args below meth c Q D base M h0 (pc + 1) L rest (ah_set h a (.inl (0, n, .inl (upd f j.toNatClampNeg v))))) : ae_K p l e R s m args below meth c Q D base M h0 pc L (.int v :: .int j :: .ref a :: rest) h := by
  intro H locs ls hP hL hF
  obtain ⟨hx, hb, -⟩ := hC
  have hA := hP.2.2.2 a _ hc
  obtain ⟨hba, cA, ty, hT, h2, h3, h4⟩ := ae_ar hA (by decide)
  cases hT
  refine W.iast hx hb h2 (h3 n (fun j => .int (f j))) (fun q => by cases q) (by show ¬ (j < 0 ∨ (arrV _ _ _).slots.size ≤ _); rw [arrV_size]; exact hj) rfl rfl hd fun H1 e z oq => ?_
  refine sn_ast hP hL hF hba (by decide) rfl h3 h4 ?_ z oq kk
  rw [e, vp_cell_i, vp_cell_i, arrV_store]
  congr 2
  funext q
  by_cases hq : q = j.toNatClampNeg
  · subst hq; simp [updV, upd]
  · simp [updV, upd, hq]
theorem sn_bast (hC : ae_ctx p s m meth c M) {a n : Nat} {f : Nat → Int32} {j v : Int32} {rest : List Value} (hc : h.1 a = some (.inl (1, n, .inl f))) (hj : ¬ (j < 0 ∨ n ≤ j.toNatClampNeg)) (hd : decode M.2.1 pc = .ok (.bastore, 1))
    (kk : ae_K p l e R s m args below meth c Q D base M h0 (pc + 1) L rest (ah_set h a (.inl (1, n, .inl (upd f j.toNatClampNeg (vp_nar .boolean v)))))) : ae_K p l e R s m args below meth c Q D base M h0 pc L (.int v :: .int j :: .ref a :: rest) h := by
  intro H locs ls hP hL hF
  obtain ⟨hx, hb, -⟩ := hC
  have hA := hP.2.2.2 a _ hc
  obtain ⟨hba, cA, ty, hT, h2, h3, h4⟩ := ae_ar hA (by decide)
  cases hT
  refine W.zast hx hb h2 (h3 n (fun j => .int (f j))) (fun q => by cases q) (by show ¬ (j < 0 ∨ (arrV _ _ _).slots.size ≤ _); rw [arrV_size]; exact hj) rfl rfl hd fun H1 e z oq => ?_
  refine sn_ast hP hL hF hba (by decide) rfl h3 h4 ?_ z oq kk
  rw [e, vp_cell_i, vp_cell_i, arrV_store]
  congr 2
  funext q
  by_cases hq : q = j.toNatClampNeg
  · subst hq; simp [updV, upd, vp_nar]; try rfl
  · simp [updV, upd, hq]
theorem sn_last (hC : ae_ctx p s m meth c M) {a n : Nat} {f : Nat → Int64} {j : Int32} {v : Int64} {rest : List Value} (hc : h.1 a = some (.inl (2, n, .inr (.inl f)))) (hj : ¬ (j < 0 ∨ n ≤ j.toNatClampNeg)) (hd : decode M.2.1 pc = .ok (.lastore, 1))
    (kk : ae_K p l e R s m args below meth c Q D base M h0 (pc + 1) L rest (ah_set h a (.inl (2, n, .inr (.inl (vp_updL f j.toNatClampNeg v)))))) : ae_K p l e R s m args below meth c Q D base M h0 pc L (.long v :: .int j :: .ref a :: rest) h := by
  intro H locs ls hP hL hF
  obtain ⟨hx, hb, -⟩ := hC
  have hA := hP.2.2.2 a _ hc
  obtain ⟨hba, cA, ty, hT, h2, h3, h4⟩ := ae_ar hA (by decide)
  cases hT
  refine W.last hx hb h2 (h3 n (fun j => .long (f j))) (fun q => by cases q) (by show ¬ (j < 0 ∨ (arrV _ _ _).slots.size ≤ _); rw [arrV_size]; exact hj) rfl rfl hd fun H1 e z oq => ?_
  refine sn_ast hP hL hF hba (by decide) rfl h3 h4 ?_ z oq kk
  rw [e, vp_cell_l, vp_cell_l, arrV_store]
  congr 2
  funext q
  by_cases hq : q = j.toNatClampNeg
  · subst hq; simp [updV, vp_updL]
  · simp [updV, vp_updL, hq]
theorem ae_T_obj {t : Nat} {ty : FieldType} (h1 : 3 ≤ t) (h2 : t ≤ 5) (hT : ae_T t = some ty) : ∃ C, ty = .object C := by
  have : t = 3 ∨ t = 4 ∨ t = 5 := by omega
  rcases this with rfl | rfl | rfl <;> (cases hT; exact ⟨_, rfl⟩)
theorem sn_aastN (hC : ae_ctx p s m meth c M) {a n t : Nat} {f : Nat → Option Nat} {j : Int32} {rest : List Value} (hc : h.1 a = some (.inl (t, n, .inr (.inr (.inr (.inr f)))))) (ht : 3 ≤ t ∧ t ≤ 5) (hj : ¬ (j < 0 ∨ n ≤ j.toNatClampNeg)) (hd : decode M.2.1 pc = .ok (.aastore, 1))
    (kk : ae_K p l e R s m args below meth c Q D base M h0 (pc + 1) L rest (ah_set h a (.inl (t, n, .inr (.inr (.inr (.inr (va_up f j.toNatClampNeg none)))))))) : ae_K p l e R s m args below meth c Q D base M h0 pc L (.null :: .int j :: .ref a :: rest) h := by
  intro H locs ls hP hL hF
  obtain ⟨hx, hb, -⟩ := hC
  have hA := hP.2.2.2 a _ hc
  obtain ⟨hba, cA, ty, hT, h2, h3, h4⟩ := ae_ar hA (by omega)
  obtain ⟨C, rfl⟩ := ae_T_obj ht.1 ht.2 hT
  refine va_WaastN (C := C) hx hb h2 (h3 n (fun j => va_rf (f j))) (fun q => by cases q) (by show ¬ (j < 0 ∨ (arrV _ _ _).slots.size ≤ _); rw [arrV_size]; exact hj) rfl rfl hd fun H1 e z oq => ?_
  refine sn_ast hP hL hF hba (by omega) hT h3 h4 ?_ z oq kk
  rw [e, vp_cell_q, vp_cell_q, arrV_store]
  congr 2
  funext q
  by_cases hq : q = j.toNatClampNeg
  · subst hq; simp [updV, va_up, va_rf]
  · simp [updV, va_up, hq]
theorem sn_aast (hC : ae_ctx p s m meth c M) (hE : ae_env D s) {a n t v ci : Nat} {fs : List Value} {f : Nat → Option Nat} {j : Int32} {rest : List Value} (hc : h.1 a = some (.inl (t, n, .inr (.inr (.inr (.inr f)))))) (hv : h.1 v = some (.inr (ci, fs))) (ht : 3 ≤ t ∧ t ≤ 5) (htc : ae_T t = some (.object (ae_on ci))) (hj : ¬ (j < 0 ∨ n ≤ j.toNatClampNeg)) (hd : decode M.2.1 pc = .ok (.aastore, 1))
    (kk : ae_K p l e R s m args below meth c Q D base M h0 (pc + 1) L rest (ah_set h a (.inl (t, n, .inr (.inr (.inr (.inr (va_up f j.toNatClampNeg (some v))))))))) : ae_K p l e R s m args below meth c Q D base M h0 pc L (.ref v :: .int j :: .ref a :: rest) h := by
  intro H locs ls hP hL hF
  obtain ⟨hx, hb, -⟩ := hC
  have hA := hP.2.2.2 a _ hc
  obtain ⟨hba, cA, ty, hT, h2, h3, h4⟩ := ae_ar hA (by omega)
  have hty : ty = .object (ae_on ci) := Option.some.inj (hT.symm.trans htc)
  subst hty
  have hlt : j.toNatClampNeg < n := Nat.not_le.mp fun q => hj (Or.inr q)
  have hj0 : ¬ j < 0 := fun q => hj (Or.inl q)
  obtain ⟨-, r, hr, cellV, g1, g2, g3, -⟩ := hP.2.2.2 v _ hv
  dsimp only at hr g1 g2
  have hcls := (hE.1.1 ci r hr).2
  have hon := (ae_cl_ok ci r hr).2.2.2.2
  obtain ⟨kA, comp, k1, k2, k3, -⟩ := id h4
  rw [hon] at k3
  have hcomp : comp = D.1 ci := Option.some.inj (k3.symm.trans hcls.1)
  subst hcomp
  obtain ⟨kC, hkC, -⟩ := id hcls.2
  refine W.aast hx hb h2 (fun q h => by cases h) (fun h => by cases h) k1 k2 rfl hkC ⟨hj0, by show _ < (arrV _ _ _).slots.size; rw [arrV_size]; exact hlt⟩ g1 (fun q h => by rw [g3] at h; cases h) (by rw [g2]; exact hkC) (by rw [g2]; exact va_assign hcls) rfl rfl hd fun H1 e z oq => ?_
  refine sn_ast hP hL hF hba (by omega) hT h3 h4 ?_ z oq kk
  rw [e, vp_cell_q, vp_cell_q, arrV_store]
  congr 2
  funext q
  by_cases hq : q = j.toNatClampNeg
  · subst hq; simp [updV, va_up, va_rf]
  · simp [updV, va_up, hq]
/-! what is made -/
theorem sn_new (hC : ae_ctx p s m meth c M) (hE : ae_env D s) {ci N : Nat} {fs : List Value} (hn : (ae_ow M, i, ci) ∈ ae_nl) (hf : ae_fs ci = some (fs, N)) (hR1 : h.2.1 - h0.2.1 + 1 ≤ R.cells) (hR2 : h.2.2.1 - h0.2.2.1 + N ≤ R.slots) (ha : h0.2.1 ≤ h.2.1) (hb' : h0.2.2.1 ≤ h.2.2.1) (hd : decode M.2.1 pc = .ok (.new i, 3))
    (kk : ae_K p l e R s m args below meth c Q D base M h0 (pc + 3) L (.ref h.2.1 :: st) (ah_new h (.inr (ci, fs)) N)) : ae_K p l e R s m args below meth c Q D base M h0 pc L st h := by
  intro H locs ls hP hL hF
  obtain ⟨hx, hb, -, -, hown, -⟩ := hC
  unfold ae_fs at hf
  cases hr : ae_cl[ci]? with
  | none => rw [hr] at hf; cases hf
  | some r =>
    rw [hr] at hf
    cases hf
    obtain ⟨hin, ⟨hi1, hi2⟩, hty, -, hon⟩ := ae_cl_ok ci r hr
    have hts : ∀ w ∈ ae_big, w.before args s = true := fun w hw => hE.2.1 w hw args
    have hKn := hE.1.1 ci r hr
    have hlk := ae_nl_ok _ hn
    dsimp only at hlk
    rw [hon] at hlk
    refine W.newcK hx hb hown (hts _ hlk) (hts _ hi1) (hts _ hi2) rfl hd hR1 hR2 hKn.2.1 rfl fun H1 kC hkC e1 z1 o1 => ?_
    rw [← hP.1]
    refine W.cs (cells' := h.2.1 + 1 - h0.2.1) (slots' := h.2.2.1 + r.2.2 - h0.2.2.1) (by omega) (by omega) ?_
    refine kk H1 locs ls (hP.new z1 o1 ⟨hP.2.1, r, hr, ?_⟩) hL hF
    refine (u_born (ae_ty ci) hts hin hKn hkC e1 hty).to (fun k hk => ?_)
    simp [vp_V, hk]
theorem sn_newa (hC : ae_ctx p s m meth c M) (hE : ae_env D s) {at_ : ArrayType} {n : Int32} {rest : List Value} {cell : ah_C} (hn : ¬ (n < 0 ∨ 65536 < n.toNatClampNeg)) (hf : ae_na at_ n.toNatClampNeg = some cell) (hR1 : h.2.1 - h0.2.1 + 1 ≤ R.cells) (hR2 : h.2.2.1 - h0.2.2.1 + n.toNatClampNeg ≤ R.slots) (ha : h0.2.1 ≤ h.2.1) (hb' : h0.2.2.1 ≤ h.2.2.1) (hd : decode M.2.1 pc = .ok (.newarray at_, 2))
    (kk : ae_K p l e R s m args below meth c Q D base M h0 (pc + 2) L (.ref h.2.1 :: rest) (ah_new h cell n.toNatClampNeg)) : ae_K p l e R s m args below meth c Q D base M h0 pc L (.int n :: rest) h := by
  intro H locs ls hP hL hF
  obtain ⟨hx, hb, -, -, hown, -⟩ := hC
  have hn0 : ¬ n < 0 := fun q => hn (Or.inl q)
  have hn1 : n.toNatClampNeg ≤ 65536 := Nat.not_lt.mp fun q => hn (Or.inr q)
  have go : ∀ (t : Nat) (ty : FieldType) (x : vp_A), cell = .inl (t, x) → t ≠ 99 → ae_T t = some ty → newarray.typeOf at_ = ty → (∀ cA : ClassId, vp_cell cA x = arrV cA n.toNatClampNeg (fun _ => defaultValue ty)) → Cond.arrayClass ty ∈ ae_big → componentBytes ty ≤ 8 → (∀ cA, s.vm.findClass ("[" ++ ty.toString) = some cA → va_RA s cA ty) → W p l e R s m args below meth c H locs (h.2.1 - h0.2.1) (h.2.2.1 - h0.2.2.1) Q (F0 m pc ls (.int n :: rest)) := by
    intro t ty x hcx ht hT hty hx2 hw hbt hRA
    subst hcx
    subst hty
    have hby : n.toNatClampNeg * componentBytes (newarray.typeOf at_) ≤ 536870912 := Nat.le_trans (Nat.mul_le_mul hn1 hbt) (by decide)
    refine va_newaK hx hb (hE.2.1 _ hw args) rfl hd rfl hn0 rfl hby hR1 hR2 rfl fun H1 cA e1 z1 o1 hAr hNm => ?_
    rw [← hP.1]
    refine W.cs (cells' := (ah_new h (.inl (t, x)) n.toNatClampNeg).2.1 - h0.2.1) (slots' := (ah_new h (.inl (t, x)) n.toNatClampNeg).2.2.1 - h0.2.2.1) (by show _ = h.2.1 + 1 - h0.2.1; omega) (by show _ = h.2.2.1 + n.toNatClampNeg - h0.2.2.1; omega) ?_
    exact kk H1 locs ls (hP.new z1 o1 (ae_ar_in hP.2.1 ht hT (by rw [hx2]; exact e1) hAr (hRA cA hNm))) hL hF
  unfold ae_na at hf
  cases at_ <;> simp only [reduceCtorEq, Option.some.injEq] at hf
  · exact go 1 .boolean _ hf.symm (by decide) rfl rfl (fun cA => by rw [vp_cell_i]; rfl) ae_mult.2.2.2.1 (by decide) (fun cA hq => hq)
  · exact go 0 .int _ hf.symm (by decide) rfl rfl (fun cA => by rw [vp_cell_i]; rfl) ae_mult.2.2.1 (by decide) (fun cA hq => hq)
  · exact go 2 .long _ hf.symm (by decide) rfl rfl (fun cA => by rw [vp_cell_l]; rfl) ae_mult.2.2.2.2 (by decide) (fun cA hq => hq)
theorem sn_anew (hC : ae_ctx p s m meth c M) (hE : ae_env D s) {t : Nat} {n : Int32} {rest : List Value} (hal : (ae_ow M, i, t) ∈ ae_al) (hn : ¬ (n < 0 ∨ 65536 < n.toNatClampNeg)) (hR1 : h.2.1 - h0.2.1 + 1 ≤ R.cells) (hR2 : h.2.2.1 - h0.2.2.1 + n.toNatClampNeg ≤ R.slots) (ha : h0.2.1 ≤ h.2.1) (hb' : h0.2.2.1 ≤ h.2.2.1) (hd : decode M.2.1 pc = .ok (.anewarray i, 3))
    (kk : ae_K p l e R s m args below meth c Q D base M h0 (pc + 3) L (.ref h.2.1 :: rest) (ah_new h (.inl (t, n.toNatClampNeg, .inr (.inr (.inr (.inr (fun _ => none)))))) n.toNatClampNeg)) : ae_K p l e R s m args below meth c Q D base M h0 pc L (.int n :: rest) h := by
  intro H locs ls hP hL hF
  obtain ⟨hx, hb, -, -, hown, -⟩ := hC
  have hn0 : ¬ n < 0 := fun q => hn (Or.inl q)
  have hn1 : n.toNatClampNeg ≤ 65536 := Nat.not_lt.mp fun q => hn (Or.inr q)
  obtain ⟨C, hT, hlk, hov⟩ := ae_al_ok _ hal
  dsimp only at hT hlk
  have ht : t ≠ 99 := fun q => by rw [q] at hT; cases hT
  refine W.anew hx hb hown (hE.2.1 _ hlk args) (va_AO.use (hE.2.2.1 _ hov rfl)) rfl hd rfl hn0 (by omega) hR1 hR2 fun cA kA comp f1 f2 f3 f4 => ?_
  generalize hH1 : H.push ({ cls := cA, slots := Array.replicate n.toNatClampNeg .null, vm := .none } : Cell) = H1
  have z1 : H1.size = H.size + 1 := by rw [← hH1, Array.size_push]
  have e1 : H1[H.size]? = some (arrV cA n.toNatClampNeg (fun _ => .null)) := by rw [← hH1, Array.getElem?_push_size, ← arrV_new]
  have o1 : ∀ q : Nat, q < H.size → H1[q]? = H[q]? := fun q hq => by rw [← hH1, Array.getElem?_push, if_neg (Nat.ne_of_lt hq)]
  have hAr : ArrOfT s cA (.object C) := fun N z => ⟨(fun k h => by cases h), kA, f2, comp, f3⟩
  rw [← hP.1]
  refine W.cs (cells' := (ah_new h (.inl (t, n.toNatClampNeg, .inr (.inr (.inr (.inr (fun _ => none)))))) n.toNatClampNeg).2.1 - h0.2.1) (slots' := (ah_new h (.inl (t, n.toNatClampNeg, .inr (.inr (.inr (.inr (fun _ => none)))))) n.toNatClampNeg).2.2.1 - h0.2.2.1) (by show _ = h.2.1 + 1 - h0.2.1; omega) (by show _ = h.2.2.1 + n.toNatClampNeg - h0.2.2.1; omega) ?_
  exact kk H1 locs ls (hP.new z1 o1 (ae_ar_in hP.2.1 ht hT (by rw [vp_cell_q]; exact e1) hAr ⟨kA, comp, f2, f3, f4, f1⟩)) hL hF
/-- System.arraycopy between rows of ints -/
theorem sn_acopy (hC : ae_ctx p s m meth c M) (hE : ae_env D s) {q d n0 n1 : Nat} {f g : Nat → Int32} {sp dp n : Int32} {rest : List Value} (hlk : Cond.methodLink (ae_on (ae_ow M)) i arraycopyName ∈ ae_big) (hq : h.1 q = some (.inl (0, n0, .inl f))) (hdd : h.1 d = some (.inl (0, n1, .inl g))) (hr : (rest.map fun v => v.category).sum ≤ 8) (h1 : ¬ sp < 0) (h2 : ¬ dp < 0) (h3 : ¬ n < 0) (h4 : sp.toNatClampNeg + n.toNatClampNeg ≤ n0) (h5 : dp.toNatClampNeg + n.toNatClampNeg ≤ n1) (hfr : 1 ≤ R.frames) (hlo : 36 ≤ R.locals) (hd : decode M.2.1 pc = .ok (.invokestatic i, 3))
    (kk : ae_K p l e R s m args below meth c Q D base M h0 (pc + 3) L rest (ah_set h d (.inl (0, n1, .inl (va_cpy f g sp.toNatClampNeg dp.toNatClampNeg n.toNatClampNeg))))) : ae_K p l e R s m args below meth c Q D base M h0 pc L (.int n :: .int dp :: .ref d :: .int sp :: .ref q :: rest) h := by
  intro H locs ls hP hL hF
  obtain ⟨hx, hb, -, hml, hown, -⟩ := hC
  obtain ⟨hbq, cA0, ty0, hT0, g2, g3, g4⟩ := ae_ar (hP.2.2.2 q _ hq) (by decide)
  obtain ⟨hbd, cA1, ty1, hT1, k2, k3, k4⟩ := ae_ar (hP.2.2.2 d _ hdd) (by decide)
  cases hT0
  cases hT1
  have hcat := hr
  intro T hT X
  obtain ⟨-, k0, hk0, cm0, hkk0⟩ := g3 n0 (fun j => .int (f j))
  obtain ⟨-, k1, hk1, cm1, hkk1⟩ := k3 n1 (fun j => .int (g j))
  have nn : ∀ z : Int32, ¬ z < 0 → z.toInt = (z.toNatClampNeg : Int) := by
    intro z hz
    have hz0 : (0 : Int) ≤ z.toInt := by
      have := Int32.not_lt.mp hz
      simpa using Int32.le_iff_toInt_le.mp this
    show z.toInt = ((z.toInt.toNat : Nat) : Int)
    omega
  obtain ⟨vm', X', step⟩ := X.arraycopy hx hown (hE.2.1 _ hlk args) (hE.2.1 _ ae_sysw.1 args) (hE.2.1 _ ae_sysw.2.1 args) (hE.2.1 _ ae_sysw.2.2 args) (src := q) (dst := d) (cs := vp_cell cA0 (n0, .inl f)) (cd := vp_cell cA1 (n1, .inl g)) (srcPos := sp) (destPos := dp) (n := n) (by rw [hT]; exact g2) (by rw [hT]; exact k2)
    (fun _ h => by cases h) (fun _ h => by cases h) (fun h => by cases h) (fun h => by cases h) hk0 hk1 hkk0 hkk1 (by simp [refKind]) h1 h2 h3
    (by rw [nn sp h1, nn n h3]; show ¬ _ > ((arrV cA0 n0 (fun j => .int (f j))).slots.size : Int); rw [arrV_size]; omega)
    (by rw [nn dp h2, nn n h3]; show ¬ _ > ((arrV cA1 n1 (fun j => .int (g j))).slots.size : Int); rw [arrV_size]; omega)
    (fun vm₁ _ i hi => by
      have e : (vp_cell cA0 (n0, .inl f)).slots.getD (sp.toNatClampNeg + i) .null = .int (f (sp.toNatClampNeg + i)) := by
        show (arrV cA0 n0 (fun j => .int (f j))).slots.getD _ _ = _
        rw [Array.getD_eq_getD_getElem?, arrV_read _ _ (by omega)]
        rfl
      refine ⟨?_, ?_⟩
      · rw [e]
        rfl
      · rw [e]
        exact trivial)
    (g := F0 m pc ls (.int n :: .int dp :: .ref d :: .int sp :: .ref q :: rest)) rfl (by rw [hml]; exact hL.1) (rest := rest) rfl (by rw [hb]; exact hd) hfr (by show 2 * 0 + _ + _ ≤ _; have hw : nativeFrameWords "java/lang/System" "arraycopy" 5 ≤ 17 := (by decide); omega)
  have e1 : copied (vp_cell cA0 (n0, .inl f)) (vp_cell cA1 (n1, .inl g)) sp dp n = vp_cell cA1 (n1, .inl (va_cpy f g sp.toNatClampNeg dp.toNatClampNeg n.toNatClampNeg)) := va_copied (fun z => .int z) cA0 cA1 f g h4
  rw [e1] at X' step
  have hl : d < H.size := (Array.getElem?_eq_some_iff.mp k2).1
  have hheap : ((T.setVm vm').setCell d (vp_cell cA1 (n1, .inl (va_cpy f g sp.toNatClampNeg dp.toNatClampNeg n.toNatClampNeg)))).heap = H.setIfInBounds d (vp_cell cA1 (n1, .inl (va_cpy f g sp.toNatClampNeg dp.toNatClampNeg n.toNatClampNeg))) := by rw [← hT]; rfl
  have oq : ∀ x : Nat, x ≠ d → (H.setIfInBounds d (vp_cell cA1 (n1, .inl (va_cpy f g sp.toNatClampNeg dp.toNatClampNeg n.toNatClampNeg))))[x]? = H[x]? := fun x hx => by simp [Array.getElem?_setIfInBounds, Ne.symm hx]
  obtain ⟨t, a1, b1⟩ := kk _ _ ls (hP.set (H1 := H.setIfInBounds d (vp_cell cA1 (n1, .inl (va_cpy f g sp.toNatClampNeg dp.toNatClampNeg n.toNatClampNeg)))) (c := .inl (0, n1, .inl (va_cpy f g sp.toNatClampNeg dp.toNatClampNeg n.toNatClampNeg))) hbd (by simp) oq (ae_ar_in hbd (by decide) rfl (show (H.setIfInBounds d _)[d]? = some _ by simp [Array.getElem?_setIfInBounds, hl]) k3 k4)) hL (fun x hx => by
      rcases List.mem_append.mp hx with z | z
      · exact hF x z
      · obtain ⟨w, -, hw⟩ := List.mem_map.mp z
        rw [← hw]
        exact hbd) _ hheap X'
  exact ⟨t, step t a1, b1⟩
/-- a Node into an array of objects -/
theorem sn_aastO (hC : ae_ctx p s m meth c M) (hE : ae_env D s) {a n v : Nat} {fs : List Value} {f : Nat → Option Nat} {j : Int32} {rest : List Value} (hc : h.1 a = some (.inl (7, n, .inr (.inr (.inr (.inr f)))))) (hv : h.1 v = some (.inr (0, fs))) (hj : ¬ (j < 0 ∨ n ≤ j.toNatClampNeg)) (hd : decode M.2.1 pc = .ok (.aastore, 1))
    (kk : ae_K p l e R s m args below meth c Q D base M h0 (pc + 1) L rest (ah_set h a (.inl (7, n, .inr (.inr (.inr (.inr (va_up f j.toNatClampNeg (some v))))))))) : ae_K p l e R s m args below meth c Q D base M h0 pc L (.ref v :: .int j :: .ref a :: rest) h := by
  intro H locs ls hP hL hF
  obtain ⟨hx, hb, -⟩ := hC
  have hA := hP.2.2.2 a _ hc
  obtain ⟨hba, cA, ty, hT, h2, h3, h4⟩ := ae_ar hA (by decide)
  cases hT
  have hlt : j.toNatClampNeg < n := Nat.not_le.mp fun q => hj (Or.inr q)
  have hj0 : ¬ j < 0 := fun q => hj (Or.inl q)
  obtain ⟨-, r, hr, cellV, g1, g2, g3, -⟩ := hP.2.2.2 v _ hv
  dsimp only at hr g1 g2
  have hcls := (hE.1.1 0 r hr).2
  obtain ⟨kA, comp, k1, k2, k3, -⟩ := id h4
  obtain ⟨kE, hkE, -⟩ := Vm.findClass_spec k3
  obtain ⟨c0, t1, f1, f2, f3⟩ := Cond.castable_spec (va_Nw.use (A := args) rfl (hE.2.2.1 _ ae_jq.2 rfl))
  cases hr
  cases hcls.1.symm.trans f1
  cases k3.symm.trans f2
  obtain ⟨kC, hkC, -⟩ := id hcls.2
  refine W.aast hx hb h2 (fun q h => by cases h) (fun h => by cases h) k1 k2 rfl hkE ⟨hj0, by show _ < (arrV _ _ _).slots.size; rw [arrV_size]; exact hlt⟩ g1 (fun q h => by rw [g3] at h; cases h) (by rw [g2]; exact hkC) (by rw [g2]; exact f3) rfl rfl hd fun H1 e z oq => ?_
  refine sn_ast hP hL hF hba (by decide) rfl h3 h4 ?_ z oq kk
  rw [e, vp_cell_q, vp_cell_q, arrV_store]
  congr 2
  funext q
  by_cases hq : q = j.toNatClampNeg
  · subst hq; simp [updV, va_up, va_rf]
  · simp [updV, va_up, hq]
/-- the empty array of ArrayList -/
theorem sn_gets (hC : ae_ctx p s m meth c M) (hE : ae_env D s) (ho : ae_ow M = 12) (hd : decode M.2.1 pc = .ok (.getstatic 39, 3))
    (kk : ae_K p l e R s m args below meth c Q D base M h0 (pc + 3) L (.ref h.2.2.2.1 :: st) h) : ae_K p l e R s m args below meth c Q D base M h0 pc L st h := by
  intro H locs ls hP hL hF
  obtain ⟨hx, hb, -, -, hown, -⟩ := hC
  rw [ho] at hown
  obtain ⟨cf, kf, fi, f, a, cell, h1, h2, h3, h4, h5, h6, h7, h8⟩ := hP.2.2.1.1.1
  exact W.gets hx hb hown (hE.2.1 _ (ae_jw (Cond.fieldLink "java/util/ArrayList" 39 "java/util/ArrayList" "DEFAULTCAPACITY_EMPTY_ELEMENTDATA" "[Ljava/lang/Object;") (by simp)) args) h1 h2 h3 h4 h5 (fun e => by rw [e] at h6; cases h6) h7 rfl hd (kk H locs ls hP hL hF)
theorem sn_ldcM (hC : ae_ctx p s m meth c M) (hE : ae_env D s) (ho : ae_ow M = 17) (hd : decode M.2.1 pc = .ok (.ldc 110, 2))
    (kk : ae_K p l e R s m args below meth c Q D base M h0 (pc + 2) L (.ref h.2.2.2.2 :: st) h) : ae_K p l e R s m args below meth c Q D base M h0 pc L st h := by
  intro H locs ls hP hL hF
  obtain ⟨hx, hb, -, -, hown, -⟩ := hC
  rw [ho] at hown
  exact va_ldcM hx hb hown (hE.2.1 _ (ae_jw (Cond.classLink "java/util/Arrays" 110 "[Ljava/lang/Object;") (by simp)) args) hP.2.2.1.2 hd (kk H locs ls hP hL hF)
theorem sn_recvO {a n : Nat} {y : vp_A} {H : Heap} (hA : ae_at D base s a (.inl (7, y)) H) : ∃ cell : Cell, H[a]? = some cell ∧ cell.vm.isStatics = false ∧ s.vm.findClass "[Ljava/lang/Object;" = some cell.cls := by
  obtain ⟨-, cA, ty, hT, h2, h3, h4⟩ := ae_ar hA (by decide)
  cases hT
  have h5 : s.vm.findClass "[Ljava/lang/Object;" = some cA := va_nmO h4 (by decide +kernel)
  refine ⟨_, h2, ?_, ?_⟩
  · obtain ⟨k, y | y | y | y | y⟩ := y <;> rfl
  · rw [h5]
    obtain ⟨k, y | y | y | y | y⟩ := y <;> rfl
theorem sn_getC (hC : ae_ctx p s m meth c M) (hE : ae_env D s) {a : Nat} {y : vp_A} {rest : List Value} (ho : ae_ow M = 17) (hc : h.1 a = some (.inl (7, y))) (hr : (rest.map fun v => v.category).sum ≤ 8) (hfr : 1 ≤ R.frames) (hlo : 36 ≤ R.locals) (hd : decode M.2.1 pc = .ok (.invokevirtual 86, 3))
    (kk : ae_K p l e R s m args below meth c Q D base M h0 (pc + 3) L (.ref h.2.2.2.2 :: rest) h) : ae_K p l e R s m args below meth c Q D base M h0 pc L (.ref a :: rest) h := by
  intro H locs ls hP hL hF
  obtain ⟨hx, hb, -, hml, hown, -⟩ := hC
  rw [ho] at hown
  exact va_getC (C := "[Ljava/lang/Object;") hx hb (by rw [hml]; exact hL.1.symm) hown (hE.2.1 _ (ae_jw (Cond.methodLink "java/util/Arrays" 86 ⟨"java/lang/Object", "getClass", "()Ljava/lang/Class;"⟩) (by simp)) args) (va_Nw.use rfl (hE.2.2.1 _ ae_jq.1 rfl)) (hE.2.1 _ (ae_jw (Cond.selects "[Ljava/lang/Object;" ⟨"java/lang/Object", "getClass", "()Ljava/lang/Class;"⟩ ⟨"java/lang/Object", "getClass", "()Ljava/lang/Class;"⟩) (by simp)) args) (hE.2.1 _ (ae_jw (Cond.instanceMethod ⟨"java/lang/Object", "getClass", "()Ljava/lang/Class;"⟩) (by simp)) args) (hE.2.1 _ (ae_jw (Cond.native ⟨"java/lang/Object", "getClass", "()Ljava/lang/Class;"⟩) (by simp)) args) hP.2.2.1.2 (sn_recvO (n := 0) (hP.2.2.2 a _ hc)) hfr (by omega) hd (kk H locs ls hP hL hF)
theorem sn_castO (hC : ae_ctx p s m meth c M) (hE : ae_env D s) {a : Nat} {y : vp_A} {rest : List Value} (ho : ae_ow M = 17) (hc : h.1 a = some (.inl (7, y))) (hd : decode M.2.1 pc = .ok (.checkcast 110, 3))
    (kk : ae_K p l e R s m args below meth c Q D base M h0 (pc + 3) L (.ref a :: rest) h) : ae_K p l e R s m args below meth c Q D base M h0 pc L (.ref a :: rest) h := by
  intro H locs ls hP hL hF
  obtain ⟨hx, hb, -, hml, hown, -⟩ := hC
  rw [ho] at hown
  obtain ⟨-, cA, ty, hT, h2, h3, h4⟩ := ae_ar (hP.2.2.2 a _ hc) (by decide)
  cases hT
  have h5 : s.vm.findClass "[Ljava/lang/Object;" = some cA := va_nmO h4 (by decide +kernel)
  have hP1 : va_P D ae_cl [(a, .inl (cA, y))] H := fun k q hk => by
    cases k with
    | zero => cases hk; exact h2
    | succ k => simp at hk
  exact va_castA hx hb hown (hE.2.1 _ (ae_jw (Cond.classLink "java/util/Arrays" 110 "[Ljava/lang/Object;") (by simp)) args) hP1 0 rfl h5 hd (kk H locs ls hP hL hF)
theorem sn_acmp (hC : ae_ctx p s m meth c M) {cd : ACond} {off : Int} {v w : Value} {rest : List Value} {o : ae_cfg} (hv : ae_isR v = true) (hw : ae_isR w = true) (hd : decode M.2.1 pc = .ok (.if_acmp cd off, 3)) (he : ae_br (ae_acnd cd w v) pc off L rest h = some (.inl o)) (hj : 0 ≤ (pc : Int) + off)
    (k : ae_K p l e R s m args below meth c Q D base M h0 o.1 o.2.1 o.2.2.1 o.2.2.2) : ae_K p l e R s m args below meth c Q D base M h0 pc L (v :: w :: rest) h := by
  intro H locs ls hP hL hF
  obtain ⟨hx, hb, -⟩ := hC
  have rf : ∀ {u : Value}, ae_isR u = true → ∃ r : Option Nat, u = va_rf r := fun {u} hu => by
    rcases ae_isR_s hu with rfl | ⟨a, rfl⟩
    · exact ⟨none, rfl⟩
    · exact ⟨some a, rfl⟩
  obtain ⟨ry, rfl⟩ := rf hv
  obtain ⟨rx, rfl⟩ := rf hw
  have inj : ∀ {a b : Option Nat}, va_rf a = va_rf b → a = b := fun {a b} hab => by
    cases a <;> cases b <;> simp [va_rf] at hab
    · rfl
    · rw [hab]
  unfold ae_br at he
  have ht := (Int.toNat_of_nonneg hj).symm
  cases cd with
  | eq =>
    refine lv_acmp_eq (tgt := ((pc : Int) + off).toNat) hx hb hd ht (fun q => ?_) (fun q => ?_)
    · rw [if_pos (by simp [ae_acnd, q])] at he
      unfold ae_j at he
      rw [if_pos hj] at he
      cases he
      exact k H locs ls hP hL hF
    · rw [if_neg (by simp [ae_acnd]; exact fun z => q (inj z))] at he
      cases he
      exact k H locs ls hP hL hF
  | ne =>
    refine lv_acmp_ne (tgt := ((pc : Int) + off).toNat) hx hb hd ht (fun q => ?_) (fun q => ?_)
    · rw [if_pos (by simp [ae_acnd]; exact fun z => q (inj z))] at he
      unfold ae_j at he
      rw [if_pos hj] at he
      cases he
      exact k H locs ls hP hL hF
    · rw [if_neg (by simp [ae_acnd, q])] at he
      cases he
      exact k H locs ls hP hL hF
end AES2
