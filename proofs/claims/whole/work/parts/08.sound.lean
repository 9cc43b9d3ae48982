/-! THE MACHINE DOES WHAT THE PURE ONE SAYS, an instruction at a time -/
/-- from here on, whatever the machine's heap and locals are that hold the pure ones, it comes to Q -/
def ae_K (p : Program) (l : Launch) (e : Env) (R : Room) (s : State) (m : MethodId) (args : Array Value) (below : List Frame) (meth : Method) (c : Code) (Q : State → Prop) (D : va_G) (base : Nat) (M : ae_M) (h0 : ah_H) (pc : Nat) (L : ae_L) (st : List Value) (h : ah_H) : Prop :=
  ∀ (H : Heap) (locs : List Loc) (ls : Array Slot), ae_rep D base s h H → ae_lok M.2.2.2.2.2.1 M.2.2.1 L ls → (∀ q ∈ locs, base ≤ q.base) → W p l e R s m args below meth c H locs (h.2.1 - h0.2.1) (h.2.2.1 - h0.2.2.1) Q (F0 m pc ls st)
theorem ae_s1_s {M : ae_M} {i : Nat} (e : ae_s1 M i = true) : i < M.2.2.1 ∧ M.2.2.2.2.2.1.all (fun j => !(j + 1 == i)) = true := by
  unfold ae_s1 at e
  rw [Bool.and_eq_true] at e
  exact ⟨of_decide_eq_true e.1, e.2⟩
theorem ae_s2_s {M : ae_M} {i : Nat} (e : ae_s2 M i = true) : i + 1 < M.2.2.1 ∧ i ∈ M.2.2.2.2.2.1 ∧ M.2.2.2.2.2.1.all (fun j => !(j + 1 == i)) = true := by
  unfold ae_s2 at e
  rw [Bool.and_eq_true, Bool.and_eq_true] at e
  exact ⟨of_decide_eq_true e.1, by simpa using e.2.1, e.2.2⟩
section AES
variable {p : Program} {l : Launch} {e : Env} {R : Room} {s : State} {m : MethodId} {args : Array Value} {below : List Frame} {meth : Method} {c : Code} {Q : State → Prop} {D : va_G} {base : Nat} {M : ae_M} {h0 h1 : ah_H}
variable {pc i : Nat} {L : ae_L} {st : List Value} {h : ah_H}
theorem sn_ld (hC : ae_ctx p s m meth c M) {v : Value} (hv : L[i]? = some (some v)) {n : Nat}
    (row : ∀ (H : Heap) (locs : List Loc) (ls : Array Slot), ls[i]? = some (.val v) → W p l e R s m args below meth c H locs (h.2.1 - h0.2.1) (h.2.2.1 - h0.2.2.1) Q (F0 m n ls (v :: st)) → W p l e R s m args below meth c H locs (h.2.1 - h0.2.1) (h.2.2.1 - h0.2.2.1) Q (F0 m pc ls st))
    (k : ae_K p l e R s m args below meth c Q D base M h0 n L (v :: st) h) : ae_K p l e R s m args below meth c Q D base M h0 pc L st h :=
  fun H locs ls hP hL hF => row H locs ls (hL.2.2.2.1 i v hv) (k H locs ls hP hL hF)
/-- a local is stored: one slot -/
theorem sn_st1 {v : Value} {rest : List Value} {n : Nat} (hs : ae_s1 M i = true) (hc : v.category = 1)
    (row : ∀ (H : Heap) (locs : List Loc) (ls : Array Slot) (lv : List (Nat × Value)), lv_has ls M.2.2.1 lv → (∀ ls' : Array Slot, lv_has ls' M.2.2.1 ((i, v) :: lv.filter (fun q => !(q.1 == i) && !(q.1 + 1 == i && q.2.category == 2))) → W p l e R s m args below meth c H locs (h.2.1 - h0.2.1) (h.2.2.1 - h0.2.2.1) Q (F0 m n ls' rest)) → W p l e R s m args below meth c H locs (h.2.1 - h0.2.1) (h.2.2.1 - h0.2.2.1) Q (F0 m pc ls st))
    (k : ae_K p l e R s m args below meth c Q D base M h0 n (L.set i (some v)) rest h) : ae_K p l e R s m args below meth c Q D base M h0 pc L st h :=
  fun H locs ls hP hL hF => row H locs ls (ae_pairs L) hL.has (fun ls' h' => k H locs ls' hP (hL.one (ae_s1_s hs).2 hc h') hF)
theorem sn_st2 {v : Value} {rest : List Value} {n : Nat} (hs : ae_s2 M i = true)
    (row : ∀ (H : Heap) (locs : List Loc) (ls : Array Slot) (lv : List (Nat × Value)), lv_has ls M.2.2.1 lv → (∀ ls' : Array Slot, lv_has ls' M.2.2.1 ((i, v) :: lv.filter (fun q => !(q.1 == i) && (!(q.1 == i + 1) && !(q.1 + 1 == i && q.2.category == 2)))) → W p l e R s m args below meth c H locs (h.2.1 - h0.2.1) (h.2.2.1 - h0.2.2.1) Q (F0 m n ls' rest)) → W p l e R s m args below meth c H locs (h.2.1 - h0.2.1) (h.2.2.1 - h0.2.2.1) Q (F0 m pc ls st))
    (k : ae_K p l e R s m args below meth c Q D base M h0 n ((L.set i (some v)).set (i + 1) none) rest h) : ae_K p l e R s m args below meth c Q D base M h0 pc L st h :=
  fun H locs ls hP hL hF => row H locs ls (ae_pairs L) hL.has (fun ls' h' => k H locs ls' hP (hL.two (ae_s2_s hs).2.1 (ae_s2_s hs).2.2 h') hF)
theorem sn_br (hC : ae_ctx p s m meth c M) {cd : ClassFile.Cond} {off : Int} {x : Int32} {rest : List Value} {o : ae_cfg} (hd : decode M.2.1 pc = .ok (.ifCond cd off, 3)) (he : ae_br (ae_cnd cd x 0) pc off L rest h = some (.inl o))
    (k : ae_K p l e R s m args below meth c Q D base M h0 o.1 o.2.1 o.2.2.1 o.2.2.2) : ae_K p l e R s m args below meth c Q D base M h0 pc L (.int x :: rest) h := by
  intro H locs ls hP hL hF
  obtain ⟨hx, hb, -⟩ := hC
  unfold ae_br at he
  by_cases hb2 : ae_cnd cd x 0 = true
  · rw [if_pos hb2] at he
    obtain ⟨t, ht, he⟩ := ae_j_s he
    cases he
    have kk := k H locs ls hP hL hF
    dsimp only at kk
    cases cd <;> simp only [ae_cnd, decide_eq_true_eq] at hb2
    · exact lv_if_eq hx hb hd ht (fun _ => kk) (fun q => absurd hb2 q)
    · exact lv_if_ne hx hb hd ht (fun _ => kk) (fun q => absurd q hb2)
    · exact lv_if_lt hx hb hd ht (fun _ => kk) (fun q => absurd hb2 q)
    · exact lv_if_ge hx hb hd ht (fun _ => kk) (fun q => absurd hb2 q)
    · exact lv_if_gt hx hb hd ht (fun _ => kk) (fun q => absurd hb2 q)
    · exact lv_if_le hx hb hd ht (fun _ => kk) (fun q => absurd hb2 q)
  · rw [if_neg hb2] at he
    cases he
    have kk := k H locs ls hP hL hF
    dsimp only at kk
    have any : ∃ t : Nat, (pc : Int) + off = (t : Int) ∨ ¬ 0 ≤ (pc : Int) + off := by
      by_cases q : 0 ≤ (pc : Int) + off
      · exact ⟨_, Or.inl (Int.toNat_of_nonneg q).symm⟩
      · exact ⟨0, Or.inr q⟩
    intro T hT X
    obtain ⟨t, a, b⟩ := kk T hT X
    refine ⟨t, ?_, b⟩
    cases cd <;> simp only [ae_cnd, decide_eq_true_eq, Classical.not_not] at hb2 <;> (jvm_step X.here [X.here.top, hx, hb, hd, Op.ifCond.holds, hb2]; exact a)
theorem sn_cmp (hC : ae_ctx p s m meth c M) {cd : ClassFile.Cond} {off : Int} {x y : Int32} {rest : List Value} {o : ae_cfg} (hd : decode M.2.1 pc = .ok (.if_icmp cd off, 3)) (he : ae_br (ae_cnd cd x y) pc off L rest h = some (.inl o))
    (k : ae_K p l e R s m args below meth c Q D base M h0 o.1 o.2.1 o.2.2.1 o.2.2.2) : ae_K p l e R s m args below meth c Q D base M h0 pc L (.int y :: .int x :: rest) h := by
  intro H locs ls hP hL hF
  obtain ⟨hx, hb, -⟩ := hC
  unfold ae_br at he
  by_cases hb2 : ae_cnd cd x y = true
  · rw [if_pos hb2] at he
    obtain ⟨t, ht, he⟩ := ae_j_s he
    cases he
    have kk := k H locs ls hP hL hF
    dsimp only at kk
    cases cd <;> simp only [ae_cnd, decide_eq_true_eq] at hb2
    · exact lv_icmp_eq hx hb hd ht (fun _ => kk) (fun q => absurd hb2 q)
    · exact lv_icmp_ne hx hb hd ht (fun _ => kk) (fun q => absurd q hb2)
    · exact lv_icmp_lt hx hb hd ht (fun _ => kk) (fun q => absurd hb2 q)
    · exact lv_icmp_ge hx hb hd ht (fun _ => kk) (fun q => absurd hb2 q)
    · exact lv_icmp_gt hx hb hd ht (fun _ => kk) (fun q => absurd hb2 q)
    · exact lv_icmp_le hx hb hd ht (fun _ => kk) (fun q => absurd hb2 q)
  · rw [if_neg hb2] at he
    cases he
    have kk := k H locs ls hP hL hF
    dsimp only at kk
    intro T hT X
    obtain ⟨t, a, b⟩ := kk T hT X
    refine ⟨t, ?_, b⟩
    cases cd <;> simp only [ae_cnd, decide_eq_true_eq, Classical.not_not] at hb2 <;> (jvm_step X.here [X.here.top, hx, hb, hd, Op.if_icmp.holds, hb2]; exact a)
/-- the cell of an object, in the heap -/
theorem ae_obj {o : Nat × List Value} {H : Heap} (hP : ae_at D base s i (.inr o) H) : base ≤ i ∧ va_P D ae_cl [(i, .inr o)] H := by
  refine ⟨hP.1, fun k q hk => ?_⟩
  cases k with
  | zero => cases hk; exact hP.2
  | succ k => simp at hk
theorem sn_getf (hC : ae_ctx p s m meth c M) (hE : ae_env D s) {a ci k : Nat} {w : String} {fs : List Value} {v : Value} {rest : List Value} (hf : ae_fok2 (ae_ow M) (i, ci, k, w)) (hc : h.1 a = some (.inr (ci, fs))) (hv : fs[k]? = some v) (hd : decode M.2.1 pc = .ok (.getfield i, 3))
    (kk : ae_K p l e R s m args below meth c Q D base M h0 (pc + 3) L (v :: rest) h) : ae_K p l e R s m args below meth c Q D base M h0 pc L (.ref a :: rest) h := by
  intro H locs ls hP hL hF
  obtain ⟨hx, hb, -, -, hown, -⟩ := hC
  have hA := hP.2.2.2 a _ hc
  obtain ⟨-, hP1⟩ := ae_obj hA
  obtain ⟨r, hr, -⟩ := hA.2
  dsimp only at hr
  obtain ⟨hk, hw⟩ := hf r hr
  dsimp only at hk hw
  have hcl := ae_cl_ok ci r hr
  have go := kk H locs ls hP hL hF
  split at hw
  next e =>
    obtain ⟨rf, hw, hsm⟩ := hw
    exact va_get (C := r.1) (T := r.2.1) (N := r.2.2) hx hb (fun w hw => hE.2.1 w hw args) hcl.1 hown hE.1 hP1 0 rfl hr k hk (hE.2.1 _ hw args) (fun x z => hsm.elim (fun q => by rw [q]; exact z) (fun q => u_same (hE.2.1 _ q args) x z)) hv hd go
  next e => exact va_getN (C := r.1) (T := r.2.1) (N := r.2.2) hx hb (fun w hw => hE.2.1 w hw args) hcl.1 hown hE.1 hP1 0 rfl hr k hk (va_Nw.use rfl (hE.2.2.1 _ hw rfl)) (fun _ z => z) hv hd go
theorem sn_putf (hC : ae_ctx p s m meth c M) (hE : ae_env D s) {a ci k : Nat} {w : String} {fs : List Value} {v : Value} {rest : List Value} (hf : ae_fok2 (ae_ow M) (i, ci, k, w)) (hc : h.1 a = some (.inr (ci, fs))) (hl : k < fs.length) (hn : narrow (ae_ty ci k) v = v) (hft : fits (ae_ty ci k) v = true) (hpk : ae_pok M ci k w = true) (hd : decode M.2.1 pc = .ok (.putfield i, 3))
    (kk : ae_K p l e R s m args below meth c Q D base M h0 (pc + 3) L rest (ah_set h a (.inr (ci, fs.set k v)))) : ae_K p l e R s m args below meth c Q D base M h0 pc L (v :: .ref a :: rest) h := by
  intro H locs ls hP hL hF
  obtain ⟨hx, hb, -, -, hown, -, hnm⟩ := hC
  have hA := hP.2.2.2 a _ hc
  have hba := hA.1
  obtain ⟨r, hr, cell, q1, q2, q3, q4⟩ := hA.2
  dsimp only at hr q1 q2 q4
  obtain ⟨hk, hw⟩ := hf r hr
  dsimp only at hk hw
  obtain ⟨hin, -, hty, hnms, -⟩ := ae_cl_ok ci r hr
  have hts : ∀ w ∈ ae_big, w.before args s = true := fun w hw => hE.2.1 w hw args
  have hap := va_apart (own := ae_on (ae_ow M)) (C := r.1) (T := r.2.1) (N := r.2.2) hts hin (ae_ty ci) hty hnms hE.1 hr
  obtain ⟨hS, hfc, kC, hkC, hkind⟩ := hE.1.1 ci _ hr
  obtain ⟨cf, kf, fi, f, hi, hsl⟩ := hS k hk
  have hst := (u_facts hfc hkC (u_lays hts hin hk) hi).1
  have done : ∀ H' : Heap, H'[a]? = some (cell.setSlot f.slot v) → H'.size = H.size → (∀ q, q ≠ a → H'[q]? = H[q]?) → W p l e R s m args below meth c H' (locs ++ [⟨a, f.slot⟩]) (h.2.1 - h0.2.1) (h.2.2.1 - h0.2.2.1) Q (F0 m (pc + 3) ls rest) := by
    intro H' e1 e2 e3
    rw [hsl] at e1
    refine kk H' (locs ++ [⟨a, f.slot⟩]) ls (hP.set hba e2 e3 ⟨hba, r, hr, ?_⟩) hL (fun q hq => ?_)
    · exact t_OB.to (V := updV (vp_V fs) k v) ⟨_, e1, q2, q3, t_set q4 hap hk v⟩ (fun j _ => vp_updV_set hl v j)
    · rcases List.mem_append.mp hq with z | z
      · exact hF q z
      · rw [List.mem_singleton.mp z]; exact hba
  have hslot : f.slot < cell.slots.size := by rw [hsl]; exact k2_hasslot (q4 k hk)
  by_cases hfin : (r.2.1 k).2.2.2 = true
  · have hfn : ae_fin ci k = true := by unfold ae_fin; rw [hr]; exact hfin
    unfold ae_pok at hpk
    rw [hfn] at hpk
    simp only [Bool.not_true, Bool.false_or, Bool.and_eq_true, beq_iff_eq] at hpk
    obtain ⟨rfl, hini, hdcl⟩ := hpk
    rw [if_pos rfl] at hw
    obtain ⟨rf, hw, hsm⟩ := hw
    have hi2 : s.fieldFound? rf (r.2.1 k).2.1 (r.2.1 k).2.2.1 = some (cf, kf, fi, f) := hsm.elim (fun q => by rw [q]; exact hi) (fun q => u_same (hE.2.1 _ q args) _ hi)
    have hdecl : (r.2.1 k).1 = ae_on (ae_ow M) := by rw [← hdcl]; unfold ae_dcl; rw [hr]
    have hlay := hts _ (hin _ (u_in_lay hk))
    unfold u_lay at hlay
    rw [if_pos hfin] at hlay
    have hcf : m.cls = cf := by
      obtain ⟨_, _, c', _, _, _, -, -, hf', -, -, -, hown2, -⟩ := Cond.laysFinal_spec hlay
      have e1 : c' = cf := by have := hi.symm.trans hf'; simp at this; exact this.1.symm
      rw [hdecl] at hown2
      rw [← e1]; exact Option.some.inj (hown.symm.trans hown2)
    have h6 := u_fits hfc hkC hkind (Or.inr hlay) hi (hty k hk) hn hft
    exact W.putFinK hx hb hown (hts _ hw) hi2 hst hcf (hnm hini) (by rw [q2]; exact h6) q1 q3 hslot rfl rfl hd done
  · have hfin' : (r.2.1 k).2.2.2 = false := by simpa using hfin
    have hlay := hts _ (hin _ (u_in_lay hk))
    unfold u_lay at hlay
    rw [if_neg hfin] at hlay
    have h6 := u_store hfc hkC hkind hlay hi (hty k hk) hn hft
    split at hw
    next =>
      obtain ⟨rf, hw, hsm⟩ := hw
      have hi2 : s.fieldFound? rf (r.2.1 k).2.1 (r.2.1 k).2.2.1 = some (cf, kf, fi, f) := hsm.elim (fun q => by rw [q]; exact hi) (fun q => u_same (hE.2.1 _ q args) _ hi)
      exact W.putK hx hb (f := f) ⟨hown, hts _ hw, ⟨_, _, _, hi2⟩, hst⟩ (by rw [q2]; exact h6) q1 q3 hslot rfl rfl hd done
    next => exact va_WputK hx hb (f := f) hown (va_Nw.use rfl (hE.2.2.1 _ hw rfl)) hi hst (by rw [q2]; exact h6) q1 q3 hslot rfl rfl hd done
end AES
