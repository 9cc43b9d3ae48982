/-! the instructions that stay within the method -/
theorem ae_cat4 {l : List Value} (h : l.length ≤ 4) : (l.map fun v => v.category).sum ≤ 8 := by
  have : ∀ l : List Value, (l.map fun v => v.category).sum ≤ 2 * l.length := by
    intro l
    induction l with
    | nil => simp
    | cons a l ih => simp only [List.map_cons, List.sum_cons, List.length_cons]; rcases lv_cat a with z | z <;> omega
  exact Nat.le_trans (this l) (by omega)
/-- int[n][k]: proved in a part of its own -/
def ae_MNA : Prop := ∀ (p : Program) (l : Launch) (e : Env) (R : Room) (s : State) (m : MethodId) (args : Array Value) (below : List Frame) (meth : Method) (c : Code) (Q : State → Prop) (D : va_G) (base : Nat) (M : ae_M) (h0 : ah_H) (pc : Nat) (L : ae_L) (rest : List Value) (h : ah_H) (n k : Int32), ae_ctx p s m meth c M → ae_env D s → ae_ow M = 11 → ¬ (n < 0 ∨ k < 0 ∨ 65536 < n.toNatClampNeg ∨ 65536 < k.toNatClampNeg) → decode M.2.1 pc = .ok (.multianewarray 20 2, 4) → (ah_new2 h n.toNatClampNeg k.toNatClampNeg).2.1 - h0.2.1 ≤ R.cells → (ah_new2 h n.toNatClampNeg k.toNatClampNeg).2.2.1 - h0.2.2.1 ≤ R.slots → ah_le h0 h →
  ae_K p l e R s m args below meth c Q D base M h0 (pc + 4) L (.ref h.2.1 :: rest) (ah_new2 h n.toNatClampNeg k.toNatClampNeg) → ae_K p l e R s m args below meth c Q D base M h0 pc L (.int k :: .int n :: rest) h
section AED
variable {p : Program} {l : Launch} {e : Env} {R : Room} {s : State} {m : MethodId} {args : Array Value} {below : List Frame} {meth : Method} {c : Code} {Q : State → Prop} {D : va_G} {base : Nat} {M : ae_M} {h0 h1 : ah_H}
variable {pc i : Nat} {L : ae_L} {st : List Value} {h : ah_H}
theorem sn_ldA (hC : ae_ctx p s m meth c M) {v : Value} (hv : L[i]? = some (some v)) (hr : ae_isR v = true) {n : Nat} {ins : Instr} {len : Nat} (hd : decode M.2.1 pc = .ok (ins, len)) (hi : (∃ j : Fin 4, (j : Nat) = i ∧ ins = .aload_n j ∧ len = 1 ∧ n = pc + 1) ∨ (ins = .aload i ∧ len = 2 ∧ n = pc + 2))
    (k : ae_K p l e R s m args below meth c Q D base M h0 n L (v :: st) h) : ae_K p l e R s m args below meth c Q D base M h0 pc L st h := by
  obtain ⟨hx, hb, -⟩ := id hC
  rcases hi with ⟨j, hj, rfl, rfl, rfl⟩ | ⟨rfl, rfl, rfl⟩
  · rcases ae_isR_s hr with rfl | ⟨a, rfl⟩
    · exact sn_ld hC hv (fun H locs ls hl w => lv_aload_nN hx hb hd hj hl w) k
    · exact sn_ld hC hv (fun H locs ls hl w => lv_aload_n hx hb hd hj hl w) k
  · rcases ae_isR_s hr with rfl | ⟨a, rfl⟩
    · exact sn_ld hC hv (fun H locs ls hl w => lv_aloadN hx hb hd hl w) k
    · exact sn_ld hC hv (fun H locs ls hl w => lv_aload hx hb hd hl w) k
theorem sn_iinc (hC : ae_ctx p s m meth c M) {x : Int32} {n : Int} (hv : L[i]? = some (some (.int x))) (hs : ae_s1 M i = true) (hd : decode M.2.1 pc = .ok (.iinc i n, 3))
    (k : ae_K p l e R s m args below meth c Q D base M h0 (pc + 3) (L.set i (some (.int (x + Int32.ofInt n)))) st h) : ae_K p l e R s m args below meth c Q D base M h0 pc L st h := by
  intro H locs ls hP hL hF
  obtain ⟨hx, hb, -⟩ := hC
  obtain ⟨j, hj⟩ := List.getElem?_of_mem (ae_pairs_mem.mpr hv)
  exact lv_iinc hx hb hd hL.has hj rfl (ae_s1_s hs).1 rfl (fun ls' h' => k H locs ls' hP (hL.one (ae_s1_s hs).2 rfl h') hF)
theorem sn_oinit (hC : ae_ctx p s m meth c M) (hE : ae_env D s) {b : Nat} {rest : List Value} (hlk : Cond.methodLink (ae_on (ae_ow M)) i objectInit ∈ ae_big) (hr : (rest.map fun v => v.category).sum ≤ 8) (hfr : 1 ≤ R.frames) (hlo : 36 ≤ R.locals) (hd : decode M.2.1 pc = .ok (.invokespecial i, 3))
    (k : ae_K p l e R s m args below meth c Q D base M h0 (pc + 3) L rest h) : ae_K p l e R s m args below meth c Q D base M h0 pc L (.ref b :: rest) h := by
  intro H locs ls hP hL hF
  obtain ⟨hx, hb, -, hml, hown, -⟩ := hC
  exact W.objInit hx hb hown (hE.2.1 _ hlk args) (hE.2.1 _ ae_objw.1 args) (hE.2.1 _ ae_objw.2 args) rfl (by rw [hml]; exact hL.1) rfl hd hfr (by show 2 * 0 + _ + 12 ≤ _; omega) (k H locs ls hP hL hF)
theorem sn_cast (hC : ae_ctx p s m meth c M) (hE : ae_env D s) {a ci : Nat} {fs : List Value} {rest : List Value} (hn : (ae_ow M, i, ci) ∈ ae_nl) (hc : h.1 a = some (.inr (ci, fs))) (hd : decode M.2.1 pc = .ok (.checkcast i, 3))
    (k : ae_K p l e R s m args below meth c Q D base M h0 (pc + 3) L (.ref a :: rest) h) : ae_K p l e R s m args below meth c Q D base M h0 pc L (.ref a :: rest) h := by
  intro H locs ls hP hL hF
  obtain ⟨hx, hb, -, hml, hown, -⟩ := hC
  have hA := hP.2.2.2 a _ hc
  obtain ⟨-, r, hr, cell, g1, g2, g3, -⟩ := hA
  dsimp only at hr g1 g2
  have hKn := hE.1.1 ci r hr
  have hon := (ae_cl_ok ci r hr).2.2.2.2
  have hlk := ae_nl_ok _ hn
  dsimp only at hlk
  rw [hon] at hlk
  exact va_castS hx hb hown (hE.2.1 _ hlk args) hKn.2 ⟨cell, g1, by rw [g3]; rfl, by rw [g2]; exact hKn.2.1⟩ hd (k H locs ls hP hL hF)
/-- System.arraycopy between rows of objects -/
theorem sn_acopyO (hC : ae_ctx p s m meth c M) (hE : ae_env D s) {q d n0 n1 : Nat} {f g : Nat → Option Nat} {sp dp n : Int32} {rest : List Value} (hlk : Cond.methodLink (ae_on (ae_ow M)) i arraycopyName ∈ ae_big) (hq : h.1 q = some (.inl (7, n0, .inr (.inr (.inr (.inr f)))))) (hdd : h.1 d = some (.inl (7, n1, .inr (.inr (.inr (.inr g)))))) (hr : (rest.map fun v => v.category).sum ≤ 8) (h1 : ¬ sp < 0) (h2 : ¬ dp < 0) (h3 : ¬ n < 0) (h4 : sp.toNatClampNeg + n.toNatClampNeg ≤ n0) (h5 : dp.toNatClampNeg + n.toNatClampNeg ≤ n1) (hall : ae_allN h f sp.toNatClampNeg n.toNatClampNeg = true) (hfr : 1 ≤ R.frames) (hlo : 36 ≤ R.locals) (hd : decode M.2.1 pc = .ok (.invokestatic i, 3))
    (kk : ae_K p l e R s m args below meth c Q D base M h0 (pc + 3) L rest (ah_set h d (.inl (7, n1, .inr (.inr (.inr (.inr (va_cpy f g sp.toNatClampNeg dp.toNatClampNeg n.toNatClampNeg)))))))) : ae_K p l e R s m args below meth c Q D base M h0 pc L (.int n :: .int dp :: .ref d :: .int sp :: .ref q :: rest) h := by
  intro H locs ls hP hL hF
  obtain ⟨hx, hb, -, hml, hown, -⟩ := hC
  obtain ⟨hbq, cA0, ty0, hT0, g2, g3, g4⟩ := ae_ar (hP.2.2.2 q _ hq) (by decide)
  obtain ⟨hbd, cA1, ty1, hT1, k2, k3, k4⟩ := ae_ar (hP.2.2.2 d _ hdd) (by decide)
  cases hT0
  cases hT1
  have hel : ∀ j : Nat, j < n.toNatClampNeg → ∀ y : Nat, f (sp.toNatClampNeg + j) = some y → va_Any "java/lang/Object" s H y := by
    intro j hj y hy
    have z := List.all_eq_true.mp hall j (List.mem_range.mpr hj)
    rw [hy] at z
    dsimp only at z
    split at z
    next fs hc =>
      obtain ⟨-, r, hr, cellV, q1, q2, q3, -⟩ := hP.2.2.2 y _ hc
      dsimp only at hr q1 q2
      have hcls := (hE.1.1 0 r hr).2
      obtain ⟨c0, t1, f1, f2, f3⟩ := Cond.castable_spec (va_Nw.use (A := args) rfl (hE.2.2.1 _ ae_jq.2 rfl))
      cases hr
      cases hcls.1.symm.trans f1
      obtain ⟨kC, hkC, -⟩ := id hcls.2
      exact ⟨cellV, q1, by rw [q3]; rfl, ⟨kC, by rw [q2]; exact hkC⟩, fun comp hcomp => by rw [q2]; cases hcomp.symm.trans f2; exact f3⟩
    next => cases z
  intro T hT X
  obtain ⟨-, k0, hk0, cm0, hkk0⟩ := g3 n0 (fun j => va_rf (f j))
  obtain ⟨-, k1, hk1, cm1, hkk1⟩ := k3 n1 (fun j => va_rf (g j))
  have nn : ∀ z : Int32, ¬ z < 0 → z.toInt = (z.toNatClampNeg : Int) := by
    intro z hz
    have hz0 : (0 : Int) ≤ z.toInt := by
      have := Int32.not_lt.mp hz
      simpa using Int32.le_iff_toInt_le.mp this
    show z.toInt = ((z.toInt.toNat : Nat) : Int)
    omega
  obtain ⟨vm', X', step⟩ := X.arraycopy hx hown (hE.2.1 _ hlk args) (hE.2.1 _ ae_sysw.1 args) (hE.2.1 _ ae_sysw.2.1 args) (hE.2.1 _ ae_sysw.2.2 args) (src := q) (dst := d) (cs := vp_cell cA0 (n0, .inr (.inr (.inr (.inr f))))) (cd := vp_cell cA1 (n1, .inr (.inr (.inr (.inr g))))) (srcPos := sp) (destPos := dp) (n := n) (by rw [hT]; exact g2) (by rw [hT]; exact k2)
    (fun _ h => by cases h) (fun _ h => by cases h) (fun h => by cases h) (fun h => by cases h) hk0 hk1 hkk0 hkk1 rfl h1 h2 h3
    (by rw [nn sp h1, nn n h3]; show ¬ _ > ((arrV cA0 n0 (fun j => va_rf (f j))).slots.size : Int); rw [arrV_size]; omega)
    (by rw [nn dp h2, nn n h3]; show ¬ _ > ((arrV cA1 n1 (fun j => va_rf (g j))).slots.size : Int); rw [arrV_size]; omega)
    (fun vm₁ hal i hi => by
      have e : (vp_cell cA0 (n0, .inr (.inr (.inr (.inr f))))).slots.getD (sp.toNatClampNeg + i) .null = va_rf (f (sp.toNatClampNeg + i)) := by
        show (arrV cA0 n0 (fun j => va_rf (f j))).slots.getD _ _ = _
        rw [Array.getD_eq_getD_getElem?, arrV_read _ _ (by omega)]
        rfl
      rw [e]
      cases hy : f (sp.toNatClampNeg + i) with
      | none => exact ⟨rfl, trivial⟩
      | some y =>
        obtain ⟨cellV, z1, z2, ⟨kC, hkC⟩, hasg⟩ := hel i hi y hy
        obtain ⟨kA, comp, r1, r2, r3, -⟩ := k4
        cases hk1.symm.trans r1
        cases hkk1.symm.trans r2
        obtain ⟨kE, hkE, -⟩ := Vm.findClass_spec r3
        obtain ⟨kC', hkC', -⟩ := hal.2.2 _ _ hkC
        obtain ⟨kE', hkE', -⟩ := hal.2.2 _ _ hkE
        refine ⟨rfl, cellV, (show T.heap[y]? = some cellV by rw [hT]; exact z1), (fun q h => by rw [h] at z2; cases z2), ⟨kC', hkC'⟩, ?_, ?_⟩
        · exact ⟨kE', hkE'⟩
        · show vm₁.assignable _ _ = true
          rw [hal.assignable]
          exact hasg _ r3)
    (g := F0 m pc ls (.int n :: .int dp :: .ref d :: .int sp :: .ref q :: rest)) rfl (by rw [hml]; exact hL.1) (rest := rest) rfl (by rw [hb]; exact hd) hfr (by show 2 * 0 + _ + _ ≤ _; have hw : nativeFrameWords "java/lang/System" "arraycopy" 5 ≤ 17 := (by decide); omega)
  have e1 : copied (vp_cell cA0 (n0, .inr (.inr (.inr (.inr f))))) (vp_cell cA1 (n1, .inr (.inr (.inr (.inr g))))) sp dp n = vp_cell cA1 (n1, .inr (.inr (.inr (.inr (va_cpy f g sp.toNatClampNeg dp.toNatClampNeg n.toNatClampNeg))))) := by
    rw [vp_cell_q, vp_cell_q, vp_cell_q]
    exact va_copied (fun z => va_rf z) cA0 cA1 f g h4
  rw [e1] at X' step
  have hl : d < H.size := (Array.getElem?_eq_some_iff.mp k2).1
  have hheap : ((T.setVm vm').setCell d (vp_cell cA1 (n1, .inr (.inr (.inr (.inr (va_cpy f g sp.toNatClampNeg dp.toNatClampNeg n.toNatClampNeg))))))).heap = H.setIfInBounds d (vp_cell cA1 (n1, .inr (.inr (.inr (.inr (va_cpy f g sp.toNatClampNeg dp.toNatClampNeg n.toNatClampNeg)))))) := by rw [← hT]; rfl
  have oq : ∀ x : Nat, x ≠ d → (H.setIfInBounds d (vp_cell cA1 (n1, .inr (.inr (.inr (.inr (va_cpy f g sp.toNatClampNeg dp.toNatClampNeg n.toNatClampNeg)))))))[x]? = H[x]? := fun x hx => by simp [Array.getElem?_setIfInBounds, Ne.symm hx]
  obtain ⟨t, a1, b1⟩ := kk _ _ ls (hP.set (H1 := H.setIfInBounds d (vp_cell cA1 (n1, .inr (.inr (.inr (.inr (va_cpy f g sp.toNatClampNeg dp.toNatClampNeg n.toNatClampNeg))))))) (c := .inl (7, n1, .inr (.inr (.inr (.inr (va_cpy f g sp.toNatClampNeg dp.toNatClampNeg n.toNatClampNeg)))))) hbd (by simp) oq (ae_ar_in hbd (by decide) rfl (show (H.setIfInBounds d _)[d]? = some _ by simp [Array.getElem?_setIfInBounds, hl]) k3 k4)) hL (fun x hx => by
      rcases List.mem_append.mp hx with z | z
      · exact hF x z
      · obtain ⟨w, -, hw⟩ := List.mem_map.mp z
        rw [← hw]
        exact hbd) _ hheap X'
  exact ⟨t, step t a1, b1⟩
set_option maxHeartbeats 8000000 in
theorem ae_sI (hmna : ae_MNA) (hC : ae_ctx p s m meth c M) (hE : ae_env D s) {ins : Instr} {len : Nat} (hd : decode M.2.1 pc = .ok (ins, len)) {o : ae_cfg} (he : ae_exec M ins len pc L st h = some (.inl o)) (hR1 : o.2.2.2.2.1 - h0.2.1 ≤ R.cells) (hR2 : o.2.2.2.2.2.1 - h0.2.2.1 ≤ R.slots) (hle : ah_le h0 h) (hfr : 1 ≤ R.frames) (hlo : 36 ≤ R.locals)
    (k : ae_K p l e R s m args below meth c Q D base M h0 o.1 o.2.1 o.2.2.1 o.2.2.2) : ae_K p l e R s m args below meth c Q D base M h0 pc L st h := by
  obtain ⟨hx, hb, -⟩ := id hC
  have hl1 := hle.1
  have hl2 := hle.2
  cases ins with
  | iconst n => obtain ⟨el, he9⟩ := ae_g_s he; subst el; clear he; have he := he9; clear he9; cases he; exact fun H locs ls hP hL hF => lv_iconst hx hb hd rfl (k H locs ls hP hL hF)
  | bipush n => obtain ⟨el, he9⟩ := ae_g_s he; subst el; clear he; have he := he9; clear he9; cases he; exact fun H locs ls hP hL hF => lv_bipush hx hb hd rfl (k H locs ls hP hL hF)
  | sipush n => obtain ⟨el, he9⟩ := ae_g_s he; subst el; clear he; have he := he9; clear he9; cases he; exact fun H locs ls hP hL hF => lv_sipush hx hb hd rfl (k H locs ls hP hL hF)
  | lconst n => obtain ⟨el, he9⟩ := ae_g_s he; subst el; clear he; have he := he9; clear he9; cases he; exact fun H locs ls hP hL hF => lv_lconst hx hb hd rfl (k H locs ls hP hL hF)
  | aconst_null => obtain ⟨el, he9⟩ := ae_g_s he; subst el; clear he; have he := he9; clear he9; cases he; exact fun H locs ls hP hL hF => lv_null hx hb hd (k H locs ls hP hL hF)
  | ldc n =>
    obtain ⟨el, he9⟩ := ae_g_s he; subst el; clear he; have he := he9; clear he9
    split at he
    next v hv => cases he; exact fun H locs ls hP hL hF => lv_ldc hx hb hC.2.2.2.2.1 (hE.2.1 _ (ae_ki_ok _ (ae_tab_s hv)) args) hd (k H locs ls hP hL hF)
    next =>
      split at he
      next hq => obtain ⟨ho, rfl⟩ := hq; cases he; exact sn_ldcM hC hE ho hd k
      next => cases he
  | ldc_w n =>
    obtain ⟨el, he9⟩ := ae_g_s he; subst el; clear he; have he := he9; clear he9
    split at he
    next v hv => cases he; exact fun H locs ls hP hL hF => lv_ldcw hx hb hC.2.2.2.2.1 (hE.2.1 _ (ae_ki_ok _ (ae_tab_s hv)) args) hd (k H locs ls hP hL hF)
    next => cases he
  | ldc2_w n =>
    obtain ⟨el, he9⟩ := ae_g_s he; subst el; clear he; have he := he9; clear he9
    split at he
    next v hv => cases he; exact fun H locs ls hP hL hF => lv_ldc2 hx hb hC.2.2.2.2.1 (hE.2.1 _ (ae_kl_ok _ (ae_tab_s hv)) args) hd (k H locs ls hP hL hF)
    next => cases he
  | iload_n j => obtain ⟨el, he9⟩ := ae_g_s he; subst el; clear he; have he := he9; clear he9; obtain ⟨x, hv, he⟩ := ae_ldI_s he; cases he; exact sn_ld hC hv (fun H locs ls hl w => lv_iload_n hx hb hd rfl hl w) k
  | iload j => obtain ⟨el, he9⟩ := ae_g_s he; subst el; clear he; have he := he9; clear he9; obtain ⟨x, hv, he⟩ := ae_ldI_s he; cases he; exact sn_ld hC hv (fun H locs ls hl w => lv_iload hx hb hd hl w) k
  | lload_n j => obtain ⟨el, he9⟩ := ae_g_s he; subst el; clear he; have he := he9; clear he9; obtain ⟨x, hv, he⟩ := ae_ldJ_s he; cases he; exact sn_ld hC hv (fun H locs ls hl w => lv_lload_n hx hb hd rfl hl w) k
  | lload j => obtain ⟨el, he9⟩ := ae_g_s he; subst el; clear he; have he := he9; clear he9; obtain ⟨x, hv, he⟩ := ae_ldJ_s he; cases he; exact sn_ld hC hv (fun H locs ls hl w => lv_lload hx hb hd hl w) k
  | aload_n j => obtain ⟨el, he9⟩ := ae_g_s he; subst el; clear he; have he := he9; clear he9; obtain ⟨x, hv, hr, he⟩ := ae_ldA_s he; cases he; exact sn_ldA hC hv hr hd (Or.inl ⟨j, rfl, rfl, rfl, rfl⟩) k
  | aload j => obtain ⟨el, he9⟩ := ae_g_s he; subst el; clear he; have he := he9; clear he9; obtain ⟨x, hv, hr, he⟩ := ae_ldA_s he; cases he; exact sn_ldA hC hv hr hd (Or.inr ⟨rfl, rfl, rfl⟩) k
  | istore_n j => obtain ⟨el, he9⟩ := ae_g_s he; subst el; clear he; have he := he9; clear he9; obtain ⟨x, q, rfl, hs, he⟩ := ae_stI_s he; cases he; exact sn_st1 hs rfl (fun H locs ls lv hv w => lv_istore_n hx hb hd rfl hv (ae_s1_s hs).1 rfl w) k
  | istore j => obtain ⟨el, he9⟩ := ae_g_s he; subst el; clear he; have he := he9; clear he9; obtain ⟨x, q, rfl, hs, he⟩ := ae_stI_s he; cases he; exact sn_st1 hs rfl (fun H locs ls lv hv w => lv_istore hx hb hd hv (ae_s1_s hs).1 rfl w) k
  | lstore_n j => obtain ⟨el, he9⟩ := ae_g_s he; subst el; clear he; have he := he9; clear he9; obtain ⟨x, q, rfl, hs, he⟩ := ae_stJ_s he; cases he; exact sn_st2 hs (fun H locs ls lv hv w => lv_lstore_n hx hb hd rfl hv (ae_s2_s hs).1 rfl w) k
  | lstore j => obtain ⟨el, he9⟩ := ae_g_s he; subst el; clear he; have he := he9; clear he9; obtain ⟨x, q, rfl, hs, he⟩ := ae_stJ_s he; cases he; exact sn_st2 hs (fun H locs ls lv hv w => lv_lstore hx hb hd hv (ae_s2_s hs).1 rfl w) k
  | astore_n j =>
    obtain ⟨el, he9⟩ := ae_g_s he; subst el; clear he; have he := he9; clear he9
    obtain ⟨v, q, rfl, hr, hs, he⟩ := ae_stA_s he
    cases he
    rcases ae_isR_s hr with rfl | ⟨a, rfl⟩
    · exact sn_st1 hs rfl (fun H locs ls lv hv w => lv_astore_nN hx hb hd rfl hv (ae_s1_s hs).1 rfl w) k
    · exact sn_st1 hs rfl (fun H locs ls lv hv w => lv_astore_n hx hb hd rfl hv (ae_s1_s hs).1 rfl w) k
  | astore j =>
    obtain ⟨el, he9⟩ := ae_g_s he; subst el; clear he; have he := he9; clear he9
    obtain ⟨v, q, rfl, hr, hs, he⟩ := ae_stA_s he
    cases he
    rcases ae_isR_s hr with rfl | ⟨a, rfl⟩
    · exact sn_st1 hs rfl (fun H locs ls lv hv w => lv_astoreN hx hb hd hv (ae_s1_s hs).1 rfl w) k
    · exact sn_st1 hs rfl (fun H locs ls lv hv w => lv_astore hx hb hd hv (ae_s1_s hs).1 rfl w) k
  | iinc j n =>
    obtain ⟨el, he9⟩ := ae_g_s he; subst el; clear he; have he := he9; clear he9
    obtain ⟨x, hv, he⟩ := ae_ldI_s he
    split at he
    next hs => cases he; exact sn_iinc hC hv hs hd k
    next => cases he
  | iadd => obtain ⟨el, he9⟩ := ae_g_s he; subst el; clear he; have he := he9; clear he9; obtain ⟨x, y, q, rfl, he⟩ := ae_ii_s he; cases he; exact fun H locs ls hP hL hF => lv_iadd hx hb hd (k H locs ls hP hL hF)
  | isub => obtain ⟨el, he9⟩ := ae_g_s he; subst el; clear he; have he := he9; clear he9; obtain ⟨x, y, q, rfl, he⟩ := ae_ii_s he; cases he; exact fun H locs ls hP hL hF => lv_isub hx hb hd (k H locs ls hP hL hF)
  | imul => obtain ⟨el, he9⟩ := ae_g_s he; subst el; clear he; have he := he9; clear he9; obtain ⟨x, y, q, rfl, he⟩ := ae_ii_s he; cases he; exact fun H locs ls hP hL hF => lv_imul hx hb hd (k H locs ls hP hL hF)
  | iand => obtain ⟨el, he9⟩ := ae_g_s he; subst el; clear he; have he := he9; clear he9; obtain ⟨x, y, q, rfl, he⟩ := ae_ii_s he; cases he; exact fun H locs ls hP hL hF => lv_iand hx hb hd (k H locs ls hP hL hF)
  | ior => obtain ⟨el, he9⟩ := ae_g_s he; subst el; clear he; have he := he9; clear he9; obtain ⟨x, y, q, rfl, he⟩ := ae_ii_s he; cases he; exact fun H locs ls hP hL hF => lv_ior hx hb hd (k H locs ls hP hL hF)
  | ixor => obtain ⟨el, he9⟩ := ae_g_s he; subst el; clear he; have he := he9; clear he9; obtain ⟨x, y, q, rfl, he⟩ := ae_ii_s he; cases he; exact fun H locs ls hP hL hF => lv_ixor hx hb hd (k H locs ls hP hL hF)
  | ishl => obtain ⟨el, he9⟩ := ae_g_s he; subst el; clear he; have he := he9; clear he9; obtain ⟨x, y, q, rfl, he⟩ := ae_ii_s he; cases he; exact fun H locs ls hP hL hF => lv_ishl hx hb hd (k H locs ls hP hL hF)
  | ishr => obtain ⟨el, he9⟩ := ae_g_s he; subst el; clear he; have he := he9; clear he9; obtain ⟨x, y, q, rfl, he⟩ := ae_ii_s he; cases he; exact fun H locs ls hP hL hF => lv_ishr hx hb hd (k H locs ls hP hL hF)
  | iushr => obtain ⟨el, he9⟩ := ae_g_s he; subst el; clear he; have he := he9; clear he9; obtain ⟨x, y, q, rfl, he⟩ := ae_ii_s he; cases he; exact fun H locs ls hP hL hF => lv_iushr hx hb hd rfl (k H locs ls hP hL hF)
  | idiv => obtain ⟨el, he9⟩ := ae_g_s he; subst el; clear he; have he := he9; clear he9; obtain ⟨x, y, q, rfl, hy, he⟩ := ae_iz_s he; cases he; exact fun H locs ls hP hL hF => lv_idiv hx hb hd hy (k H locs ls hP hL hF)
  | irem => obtain ⟨el, he9⟩ := ae_g_s he; subst el; clear he; have he := he9; clear he9; obtain ⟨x, y, q, rfl, hy, he⟩ := ae_iz_s he; cases he; exact fun H locs ls hP hL hF => lv_irem hx hb hd hy (k H locs ls hP hL hF)
  | ladd => obtain ⟨el, he9⟩ := ae_g_s he; subst el; clear he; have he := he9; clear he9; obtain ⟨x, y, q, rfl, he⟩ := ae_jj_s he; cases he; exact fun H locs ls hP hL hF => lv_ladd hx hb hd (k H locs ls hP hL hF)
  | lsub => obtain ⟨el, he9⟩ := ae_g_s he; subst el; clear he; have he := he9; clear he9; obtain ⟨x, y, q, rfl, he⟩ := ae_jj_s he; cases he; exact fun H locs ls hP hL hF => lv_lsub hx hb hd (k H locs ls hP hL hF)
  | land => obtain ⟨el, he9⟩ := ae_g_s he; subst el; clear he; have he := he9; clear he9; obtain ⟨x, y, q, rfl, he⟩ := ae_jj_s he; cases he; exact fun H locs ls hP hL hF => lv_land hx hb hd (k H locs ls hP hL hF)
  | lor => obtain ⟨el, he9⟩ := ae_g_s he; subst el; clear he; have he := he9; clear he9; obtain ⟨x, y, q, rfl, he⟩ := ae_jj_s he; cases he; exact fun H locs ls hP hL hF => lv_lor hx hb hd (k H locs ls hP hL hF)
  | lshl => obtain ⟨el, he9⟩ := ae_g_s he; subst el; clear he; have he := he9; clear he9; obtain ⟨x, y, q, rfl, he⟩ := ae_ji_s he; cases he; exact fun H locs ls hP hL hF => lv_lshl hx hb hd rfl (k H locs ls hP hL hF)
  | lshr => obtain ⟨el, he9⟩ := ae_g_s he; subst el; clear he; have he := he9; clear he9; obtain ⟨x, y, q, rfl, he⟩ := ae_ji_s he; cases he; exact fun H locs ls hP hL hF => lv_lshr hx hb hd rfl (k H locs ls hP hL hF)
  | lushr => obtain ⟨el, he9⟩ := ae_g_s he; subst el; clear he; have he := he9; clear he9; obtain ⟨x, y, q, rfl, he⟩ := ae_ji_s he; cases he; exact fun H locs ls hP hL hF => lv_lushr hx hb hd rfl (k H locs ls hP hL hF)
  | lcmp =>
    obtain ⟨el, he9⟩ := ae_g_s he; subst el; clear he; have he := he9; clear he9
    split at he
    next y x q => cases he; exact fun H locs ls hP hL hF => W.lcmp hx hb hd (k H locs ls hP hL hF)
    next => cases he
  | i2l =>
    obtain ⟨el, he9⟩ := ae_g_s he; subst el; clear he; have he := he9; clear he9
    split at he
    next x q => cases he; exact fun H locs ls hP hL hF => lv_i2l hx hb hd rfl (k H locs ls hP hL hF)
    next => cases he
  | l2i =>
    obtain ⟨el, he9⟩ := ae_g_s he; subst el; clear he; have he := he9; clear he9
    split at he
    next x q => cases he; exact fun H locs ls hP hL hF => lv_l2i hx hb hd rfl (k H locs ls hP hL hF)
    next => cases he
  | dup =>
    obtain ⟨el, he9⟩ := ae_g_s he; subst el; clear he; have he := he9; clear he9
    split at he
    next v q =>
      split at he
      next hv => cases he; exact fun H locs ls hP hL hF => lv_dup hx hb hd hv (k H locs ls hP hL hF)
      next => cases he
    next => cases he
  | pop =>
    obtain ⟨el, he9⟩ := ae_g_s he; subst el; clear he; have he := he9; clear he9
    split at he
    next v q =>
      split at he
      next hv => cases he; exact fun H locs ls hP hL hF => lv_pop hx hb hd hv (k H locs ls hP hL hF)
      next => cases he
    next => cases he
  | dup_x1 =>
    obtain ⟨el, he9⟩ := ae_g_s he; subst el; clear he; have he := he9; clear he9
    split at he
    next v w q =>
      split at he
      next hv => cases he; exact fun H locs ls hP hL hF => lv_dup_x1 hx hb hd hv.1 hv.2 (k H locs ls hP hL hF)
      next => cases he
    next => cases he
  | dup2 =>
    obtain ⟨el, he9⟩ := ae_g_s he; subst el; clear he; have he := he9; clear he9
    split at he
    next v w q =>
      split at he
      next hv => cases he; exact fun H locs ls hP hL hF => lv_dup2_11 hx hb hd hv.1 hv.2 (k H locs ls hP hL hF)
      next => cases he
    next => cases he
  | ifCond cd off =>
    obtain ⟨el, he9⟩ := ae_g_s he; subst el; clear he; have he := he9; clear he9
    split at he
    next x q => exact sn_br hC hd he k
    next => cases he
  | if_icmp cd off =>
    obtain ⟨el, he9⟩ := ae_g_s he; subst el; clear he; have he := he9; clear he9
    split at he
    next y x q => exact sn_cmp hC hd he k
    next => cases he
  | ifnull off =>
    obtain ⟨el, he9⟩ := ae_g_s he; subst el; clear he; have he := he9; clear he9
    split at he
    next q => obtain ⟨t, ht, he⟩ := ae_j_s he; cases he; exact fun H locs ls hP hL hF => lv_ifnullN hx hb hd ht (k H locs ls hP hL hF)
    next a q => cases he; exact fun H locs ls hP hL hF => lv_ifnull hx hb hd (k H locs ls hP hL hF)
    next => cases he
  | ifnonnull off =>
    obtain ⟨el, he9⟩ := ae_g_s he; subst el; clear he; have he := he9; clear he9
    split at he
    next a q => obtain ⟨t, ht, he⟩ := ae_j_s he; cases he; exact fun H locs ls hP hL hF => lv_ifnonnull hx hb hd ht (k H locs ls hP hL hF)
    next q => cases he; exact fun H locs ls hP hL hF => lv_ifnonnullN hx hb hd (k H locs ls hP hL hF)
    next => cases he
  | if_acmp cd off =>
    obtain ⟨el, he9⟩ := ae_g_s he; subst el; clear he; have he := he9; clear he9
    split at he
    next v w q =>
      split at he
      next hq => exact sn_acmp hC hq.1 hq.2.1 hd he hq.2.2 k
      next => cases he
    next => cases he
  | getstatic n =>
    obtain ⟨el, he9⟩ := ae_g_s he; subst el; clear he; have he := he9; clear he9
    split at he
    next hq => obtain ⟨ho, rfl⟩ := hq; cases he; exact sn_gets hC hE ho hd k
    next => cases he
  | goto off =>
    obtain ⟨el, he9⟩ := ae_g_s he; subst el; clear he; have he := he9; clear he9
    obtain ⟨t, ht, he⟩ := ae_j_s he
    cases he
    exact fun H locs ls hP hL hF => lv_goto hx hb hd ht (k H locs ls hP hL hF)
  | tableswitch dflt lo hi offs =>
    simp only [ae_exec] at he
    split at he
    next x q =>
      split at he
      next hq => obtain ⟨t, ht, he⟩ := ae_j_s he; cases he; exact fun H locs ls hP hL hF => lv_tableOut hx hb hd hq ht (k H locs ls hP hL hF)
      next hq =>
        split at he
        next off ho => obtain ⟨t, ht, he⟩ := ae_j_s he; cases he; exact fun H locs ls hP hL hF => lv_tableIn hx hb hd (fun z => hq (Or.inl z)) (fun z => hq (Or.inr z)) ho ht (k H locs ls hP hL hF)
        next => cases he
    next => cases he
  | getfield n =>
    obtain ⟨el, he9⟩ := ae_g_s he; subst el; clear he; have he := he9; clear he9
    split at he
    next ci kk w hf =>
      split at he
      next a q => obtain ⟨fs, v, h2, h3, he⟩ := ae_get_s he; cases he; exact sn_getf hC hE (ae_fld_s hf) h2 h3 hd k
      next => cases he
    next => cases he
  | putfield n =>
    obtain ⟨el, he9⟩ := ae_g_s he; subst el; clear he; have he := he9; clear he9
    split at he
    next ci kk w hf =>
      split at he
      next v a q => obtain ⟨fs, h2, h3, h4, h5, h6, he⟩ := ae_put_s he; cases he; exact sn_putf hC hE (ae_fld_s hf) h2 h3 h4 h5 h6 hd k
      next => cases he
    next => cases he
  | arraylength =>
    obtain ⟨el, he9⟩ := ae_g_s he; subst el; clear he; have he := he9; clear he9
    split at he
    next a q => obtain ⟨t, x, h2, he⟩ := ae_arr_s he; cases he; exact sn_alen hC h2 hd k
    next => cases he
  | iaload =>
    obtain ⟨el, he9⟩ := ae_g_s he; subst el; clear he; have he := he9; clear he9
    split at he
    next j a q =>
      obtain ⟨t, x, h2, he⟩ := ae_arr_s he
      split at he
      next n f =>
        split at he
        next hq => cases he; exact sn_iald hC h2 hq.1 hq.2 hd k
        next => cases he
      next => cases he
    next => cases he
  | baload =>
    obtain ⟨el, he9⟩ := ae_g_s he; subst el; clear he; have he := he9; clear he9
    split at he
    next j a q =>
      obtain ⟨t, x, h2, he⟩ := ae_arr_s he
      split at he
      next n f =>
        split at he
        next hq => cases he; obtain ⟨rfl, hq⟩ := hq; exact sn_bald hC h2 hq hd k
        next => cases he
      next => cases he
    next => cases he
  | laload =>
    obtain ⟨el, he9⟩ := ae_g_s he; subst el; clear he; have he := he9; clear he9
    split at he
    next j a q =>
      obtain ⟨t, x, h2, he⟩ := ae_arr_s he
      split at he
      next n f =>
        split at he
        next hq => cases he; obtain ⟨rfl, hq⟩ := hq; exact sn_lald hC h2 hq hd k
        next => cases he
      next => cases he
    next => cases he
  | aaload =>
    obtain ⟨el, he9⟩ := ae_g_s he; subst el; clear he; have he := he9; clear he9
    split at he
    next j a q =>
      obtain ⟨t, x, h2, he⟩ := ae_arr_s he
      split at he
      next n f =>
        split at he
        next hq => cases he; exact sn_aald hC h2 hq.1 hq.2 hd k
        next => cases he
      next => cases he
    next => cases he
  | iastore =>
    obtain ⟨el, he9⟩ := ae_g_s he; subst el; clear he; have he := he9; clear he9
    split at he
    next v j a q =>
      obtain ⟨t, x, h2, he⟩ := ae_arr_s he
      split at he
      next n f =>
        split at he
        next hq => cases he; obtain ⟨rfl, hq⟩ := hq; exact sn_iast hC h2 hq hd k
        next => cases he
      next => cases he
    next => cases he
  | bastore =>
    obtain ⟨el, he9⟩ := ae_g_s he; subst el; clear he; have he := he9; clear he9
    split at he
    next v j a q =>
      obtain ⟨t, x, h2, he⟩ := ae_arr_s he
      split at he
      next n f =>
        split at he
        next hq => cases he; obtain ⟨rfl, hq⟩ := hq; exact sn_bast hC h2 hq hd k
        next => cases he
      next => cases he
    next => cases he
  | lastore =>
    obtain ⟨el, he9⟩ := ae_g_s he; subst el; clear he; have he := he9; clear he9
    split at he
    next v j a q =>
      obtain ⟨t, x, h2, he⟩ := ae_arr_s he
      split at he
      next n f =>
        split at he
        next hq => cases he; obtain ⟨rfl, hq⟩ := hq; exact sn_last hC h2 hq hd k
        next => cases he
      next => cases he
    next => cases he
  | aastore =>
    obtain ⟨el, he9⟩ := ae_g_s he; subst el; clear he; have he := he9; clear he9
    split at he
    next j a q =>
      obtain ⟨t, x, h2, he⟩ := ae_arr_s he
      split at he
      next n f =>
        split at he
        next hq => cases he; exact sn_aastN hC h2 hq.1 hq.2 hd k
        next => cases he
      next => cases he
    next v j a q =>
      obtain ⟨t, x, h2, he⟩ := ae_arr_s he
      split at he
      next n f =>
        split at he
        next c' fs hv =>
          split at he
          next hq =>
            obtain ⟨hq1, hq2⟩ := hq
            rcases hq1 with hq1 | ⟨rfl, rfl⟩
            · cases he; exact sn_aast hC hE h2 hv hq1.1 hq1.2 hq2 hd k
            · cases he; exact sn_aastO hC hE h2 hv hq2 hd k
          next => cases he
        next => cases he
      next => cases he
    next => cases he
  | new n =>
    obtain ⟨el, he9⟩ := ae_g_s he; subst el; clear he; have he := he9; clear he9
    split at he
    next ci hn =>
      split at he
      next fs N hf =>
        cases he
        have g1 : h.2.1 + 1 - h0.2.1 ≤ R.cells := hR1
        have g2 : h.2.2.1 + N - h0.2.2.1 ≤ R.slots := hR2
        exact sn_new hC hE (ae_tab_s hn) hf (by omega) (by omega) hl1 hl2 hd k
      next => cases he
    next => cases he
  | newarray at_ =>
    obtain ⟨el, he9⟩ := ae_g_s he; subst el; clear he; have he := he9; clear he9
    split at he
    next n q =>
      split at he
      next => cases he
      next hn =>
        split at he
        next cell hf =>
          cases he
          have g1 : h.2.1 + 1 - h0.2.1 ≤ R.cells := hR1
          have g2 : h.2.2.1 + n.toNatClampNeg - h0.2.2.1 ≤ R.slots := hR2
          exact sn_newa hC hE hn hf (by omega) (by omega) hl1 hl2 hd k
        next => cases he
    next => cases he
  | anewarray j =>
    obtain ⟨el, he9⟩ := ae_g_s he; subst el; clear he; have he := he9; clear he9
    split at he
    next t ht =>
      split at he
      next n q =>
        split at he
        next => cases he
        next hn =>
          cases he
          have g1 : h.2.1 + 1 - h0.2.1 ≤ R.cells := hR1
          have g2 : h.2.2.1 + n.toNatClampNeg - h0.2.2.1 ≤ R.slots := hR2
          exact sn_anew hC hE (ae_tab_s ht) hn (by omega) (by omega) hl1 hl2 hd k
      next => cases he
    next => cases he
  | multianewarray j dd =>
    obtain ⟨el, he9⟩ := ae_g_s he; subst el; clear he; have he := he9; clear he9
    split at he
    next hq =>
      obtain ⟨q1, rfl, rfl⟩ := hq
      split at he
      next kk n q =>
        split at he
        next => cases he
        next hn => cases he; exact hmna p l e R s m args below meth c Q D base M h0 pc L q h n kk hC hE q1 hn hd hR1 hR2 hle k
      next => cases he
    next => cases he
  | checkcast j =>
    obtain ⟨el, he9⟩ := ae_g_s he; subst el; clear he; have he := he9; clear he9
    split at he
    next hq =>
      obtain ⟨ho, rfl⟩ := hq
      split at he
      next a q =>
        split at he
        next y hc => cases he; exact sn_castO hC hE ho hc hd k
        next => cases he
      next => cases he
    next =>
      split at he
      next ci hn =>
        split at he
        next q => cases he; exact fun H locs ls hP hL hF => lv_castN hx hb hd (k H locs ls hP hL hF)
        next a q =>
          split at he
          next c' fs hc =>
            split at he
            next hq => cases he; subst hq; exact sn_cast hC hE (ae_tab_s hn) hc hd k
            next => cases he
          next => cases he
        next => cases he
      next => cases he
  | invokespecial j =>
    obtain ⟨el, he9⟩ := ae_g_s he; subst el; clear he; have he := he9; clear he9
    obtain ⟨kd, M', n, w, hm, hq⟩ := ae_call_s he
    have hm := ae_mth_s hm
    rcases hq with ⟨-, -, b, as, rest, -, -, -, -, hr⟩ | ⟨-, -, b, as, rest, fs, -, -, -, -, -, hr⟩ | ⟨-, -, as, rest, -, -, -, -, hr⟩ | ⟨rfl, -, b, rest, rfl, h4, hr⟩ | ⟨-, z, -⟩ | ⟨-, z, -⟩
    · cases hr
    · cases hr
    · cases hr
    · cases hr; exact sn_oinit hC hE hm h4 hfr hlo hd k
    · cases z
    · cases z
  | invokevirtual j =>
    obtain ⟨el, he9⟩ := ae_g_s he; subst el; clear he; have he := he9; clear he9
    split at he
    next hq =>
      obtain ⟨ho, rfl⟩ := hq
      split at he
      next a q =>
        split at he
        next y hc =>
          split at he
          next hs => cases he; exact sn_getC hC hE ho hc hs hfr hlo hd k
          next => cases he
        next => cases he
      next => cases he
    next =>
      obtain ⟨kd, M', n, w, hm, hq⟩ := ae_call_s he
      rcases hq with ⟨-, -, b, as, rest, -, -, -, -, hr⟩ | ⟨-, -, b, as, rest, fs, -, -, -, -, -, hr⟩ | ⟨-, -, as, rest, -, -, -, -, hr⟩ | ⟨-, z, -⟩ | ⟨-, z, -⟩ | ⟨-, z, -⟩
      · cases hr
      · cases hr
      · cases hr
      · cases z
      · cases z
      · cases z
  | invokestatic j =>
    obtain ⟨el, he9⟩ := ae_g_s he; subst el; clear he; have he := he9; clear he9
    obtain ⟨kd, M', n, w, hm, hq⟩ := ae_call_s he
    have hm := ae_mth_s hm
    rcases hq with ⟨-, -, b, as, rest, -, -, -, -, hr⟩ | ⟨-, -, b, as, rest, fs, -, -, -, -, -, hr⟩ | ⟨-, -, as, rest, -, -, -, -, hr⟩ | ⟨-, z, -⟩ | ⟨rfl, -, kk, dp, sp, d, q, n0, n1, f, g, rest, rfl, hq, hdd, h4, c3, c4, c5, c6, c7, hr⟩ | ⟨rfl, -, kk, dp, sp, d, q, n0, n1, f, g, rest, rfl, hq, hdd, h4, c3, c4, c5, c6, c7, c8, hr⟩
    · cases hr
    · cases hr
    · cases hr
    · cases z
    · cases hr; exact sn_acopy hC hE hm hq hdd h4 c3 c4 c5 c6 c7 hfr hlo hd k
    · cases hr; exact sn_acopyO hC hE hm hq hdd h4 c3 c4 c5 c6 c7 c8 hfr hlo hd k
  | ireturn =>
    obtain ⟨el, he9⟩ := ae_g_s he; subst el; clear he; have he := he9; clear he9
    split at he
    next =>
      split at he
      next => cases he
      next => cases he
    next => cases he
  | lreturn =>
    obtain ⟨el, he9⟩ := ae_g_s he; subst el; clear he; have he := he9; clear he9
    split at he
    next =>
      split at he
      next => cases he
      next => cases he
    next => cases he
  | areturn =>
    obtain ⟨el, he9⟩ := ae_g_s he; subst el; clear he; have he := he9; clear he9
    split at he
    next =>
      split at he
      next => cases he
      next => cases he
    next => cases he
  | return_ =>
    obtain ⟨el, he9⟩ := ae_g_s he; subst el; clear he; have he := he9; clear he9
    split at he
    next =>
      split at he
      next => cases he
      next => cases he
    next => cases he
  | _ => cases he
end AED
