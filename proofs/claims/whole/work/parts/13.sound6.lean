section AEC
variable {p : Program} {l : Launch} {e : Env} {R : Room} {s : State} {m : MethodId} {args : Array Value} {below : List Frame} {meth : Method} {c : Code} {Q : State → Prop} {D : va_G} {base : Nat} {M M' : ae_M} {h0 h2 : ah_H}
variable {pc i n d : Nat} {L : ae_L} {st rest as : List Value} {h : ah_H} {v : Option Value}
/-- behind a call -/
theorem sn_after {ls : Array Slot} {H : Heap} {locs : List Loc} {args' : Array Value} (hP : ae_rep D base s h H) (hL : ae_lok M.2.2.2.2.2.1 M.2.2.1 L ls) (hF : ∀ q ∈ locs, base ≤ q.base) (hle : ah_le h0 h) (hle2 : ah_le h h2)
    (hr : va_Run p l e R s m args below meth c H locs (h.2.1 - h0.2.1) (h.2.2.1 - h0.2.2.1) (h2.2.1 - h.2.1) (h2.2.2.1 - h.2.2.1) (F0 m pc ls st) rest (ae_Qc D base v h2 args') (fun q => base ≤ q))
    (kk : ae_K p l e R s m args below meth c Q D base M h0 (pc + 3) L (v.toList ++ rest) h2) : W p l e R s m args below meth c H locs (h.2.1 - h0.2.1) (h.2.2.1 - h0.2.2.1) Q (F0 m pc ls st) := by
  intro T hT X
  obtain ⟨v', st₀, t, T', L', g0, X', hL', e1, e2, ⟨g3, g4⟩, go⟩ := hr T hT X
  cases g3
  have a1 := hle.1
  have a2 := hle.2
  have a3 := hle2.1
  have a4 := hle2.2
  have hvm : t.vm.Alike s.vm := by rw [← e2]; exact X'.warmed.alike.symm
  rw [show h.2.1 - h0.2.1 + (h2.2.1 - h.2.1) = h2.2.1 - h0.2.1 by omega, show h.2.2.1 - h0.2.2.1 + (h2.2.2.1 - h.2.2.1) = h2.2.2.1 - h0.2.2.1 by omega] at X'
  obtain ⟨t2, b1, b2⟩ := kk T'.heap (locs ++ L') ls (by rw [e1]; exact g4.moved hvm) hL (fun q hq => (List.mem_append.mp hq).elim (hF q) (hL' q)) T' rfl X'
  exact ⟨t2, go t2 b1, b2⟩
theorem ae_big_pay (hE : ae_env D s) (hcw : ae_cw M' ∈ ae_big) : ∀ w ∈ ae_ws M', ∀ (a' : Array Value) (U : State), s.WarmedH U.vm → w.before a' U = true := by
  intro w hw a' U hW
  rcases List.mem_cons.mp hw with rfl | hw
  · exact word_at hW (ae_big_good hcw) (hE.2.1 _ hcw #[])
  · exact word_at hW (ae_big_good hw) (hE.2.1 _ hw #[])
theorem ae_pre {H : Heap} (hP : ae_rep D base s h H) (hE : ae_env D s) : ∀ U : State, U.heap = H → s.WarmedH U.vm → ae_Pc D base as h as.toArray U :=
  fun U hU hW => ⟨rfl, by rw [hU]; exact hP.moved hW.alike, hE.warm hW⟩
end AEC
section AEC2
variable {p : Program} {l : Launch} {e : Env} {R : Room} {s : State} {m : MethodId} {args : Array Value} {below : List Frame} {meth : Method} {c : Code} {Q : State → Prop} {D : va_G} {base : Nat} {M M' : ae_M} {h0 h1 h2 : ah_H}
variable {pc i n d kd : Nat} {L : ae_L} {st rest as : List Value} {h : ah_H} {v : Option Value} {w : String}
theorem sn_call (hC : ae_ctx p s m meth c M) (hE : ae_env D s) {ins : Instr} {len : Nat} (hd : decode M.2.1 pc = .ok (ins, len)) {o : ae_cfg} (he : ae_exec M ins len pc L st h = some (.inr (.inr (M', as, o)))) (hm : ae_met l d M' as h v h2) (hle : ah_le h0 h) (hle2 : ah_le h h2) (hR1 : h2.2.1 - h0.2.1 ≤ R.cells) (hR2 : h2.2.2.1 - h0.2.2.1 ≤ R.slots) (hfr : d + 2 ≤ R.frames) (hlo : (d + 1) * 40 + 36 ≤ R.locals)
    (kk : ae_K p l e R s m args below meth c Q D base M h0 o.1 o.2.1 (v.toList ++ o.2.2.1) h2) : ae_K p l e R s m args below meth c Q D base M h0 pc L st h := by
  intro H locs ls hP hL hF
  obtain ⟨hx, hb, -, hml, hown, -⟩ := id hC
  have a1 := hle.1
  have a2 := hle.2
  have a3 := hle2.1
  have a4 := hle2.2
  have hts : ∀ w ∈ ae_big, w.before args s = true := fun w hw => hE.2.1 w hw args
  have hf : h.2.1 - h0.2.1 + (h2.2.1 - h.2.1) ≤ R.cells ∧ h.2.2.1 - h0.2.2.1 + (h2.2.2.1 - h.2.2.1) ≤ R.slots := ⟨by omega, by omega⟩
  have S : CallFix p m c M.2.1 M.2.2.1 s args ae_big (ae_on (ae_ow M)) := ⟨hx, hb, hml, hown, hts⟩
  have hpc := ae_pre (as := as) hP hE
  have hroom : ∀ x : Nat, x ≤ 17 → (ae_room d h h2).frames + 1 ≤ R.frames ∧ 8 + (x + 11) + (ae_room d h h2).locals ≤ R.locals := fun x hx => ⟨hfr, by show 8 + (x + 11) + (d + 1) * 40 ≤ R.locals; omega⟩
  have hnp : ∀ {y : MethodName} {k : Nat}, (parseMethodDescriptor y.desc).map (fun d => d.parameters.length) = some k → ∀ sig, parseMethodDescriptor y.desc = some sig → k = sig.parameters.length := fun {y k} h sig hs => by
    rw [hs] at h
    exact (Option.some.inj h).symm
  cases ins with
  | invokespecial j =>
    obtain ⟨el, he9⟩ := ae_g_s he; subst el; clear he; have he := he9; clear he9
    obtain ⟨kd, M2, n, w, hmth, hq⟩ := ae_call_s he
    have hmk := ae_mth_s hmth
    rcases hq with ⟨hk, -, b, as2, rest, rfl, hn, h4, -, hr⟩ | ⟨-, z, -⟩ | ⟨-, z, -⟩ | ⟨-, -, b, rest, -, -, hr⟩ | ⟨-, z, -⟩ | ⟨-, z, -⟩
    · cases hr
      rcases hk with rfl | rfl
      · obtain ⟨w1, w2, w3, w4, w5, w6, w7, ⟨w8, w9, w10⟩, -⟩ := hmk
        have hm' := hm D base
        exact sn_after hP hL hF hle hle2 (va_runI (bytes := M'.2.1) (maxL := M'.2.2.1) (n := n) S hm' ⟨⟨rfl, rfl, (hroom _ w7).1, (hroom _ w7).2, ae_big_pay hE w4, by rw [← w6]; exact List.mem_cons_self, by rw [← w6]; exact hts _ w4, hts _ w3, ⟨w8, w9⟩, hnp w10, hts _ w1⟩, w5, hts _ w2⟩ ⟨ae_Pc_blind D base _ h, hpc⟩ rfl hn hL.1 rfl (lv_room h4) hd hf) kk
      · obtain ⟨w1, w2, w3, w4, w5, w6, w7, w8, w9, w10⟩ := hmk
        have hm' := hm D base
        exact sn_after hP hL hF hle hle2 (va_runIN (host := w) (bytes := M'.2.1) (maxL := M'.2.2.1) (n := n) S hm' ⟨⟨⟨rfl, rfl, (hroom _ w7).1, (hroom _ w7).2, ae_big_pay hE w4, by rw [← w6]; exact List.mem_cons_self⟩, by rw [← w6]; exact hts _ w4, hts _ w3, ⟨w8, w9⟩, hnp w10, va_Nw.use rfl (hE.2.2.1 _ w1 rfl)⟩, w5, hts _ w2⟩ ⟨ae_Pc_blind D base _ h, hpc⟩ rfl hn hL.1 rfl (lv_room h4) hd hf) kk
    · cases z
    · cases z
    · cases hr
    · cases z
    · cases z
  | invokevirtual j =>
    obtain ⟨el, he9⟩ := ae_g_s he; subst el; clear he; have he := he9; clear he9
    split at he
    next =>
      exfalso
      repeat' (split at he)
      all_goals (cases he; done)
    next =>
    obtain ⟨kd, M2, n, w, hmth, hq⟩ := ae_call_s he
    have hmk := ae_mth_s hmth
    rcases hq with ⟨-, z, -⟩ | ⟨rfl, -, b, as2, rest, fs, hcell, rfl, hn, h4, -, hr⟩ | ⟨-, z, -⟩ | ⟨-, z, -⟩ | ⟨-, z, -⟩ | ⟨-, z, -⟩
    · cases z
    · cases hr
      obtain ⟨w1, w2, w3, w4, w5, w6, ⟨w7, w8, w9⟩, w10, -⟩ := hmk
      have hm' := hm D base
      obtain ⟨-, r, hr, cell, g1, g2, g3, -⟩ := hP.2.2.2 b _ hcell
      dsimp only at hr g1 g2
      have hKn := hE.1.1 _ r hr
      have hon := (ae_cl_ok _ r hr).2.2.2.2
      have hcn : M'.1.cls = r.1 := by rw [← hon]; exact w10.symm
      have hrecv : ∃ cellB : Cell, H[b]? = some cellB ∧ cellB.vm.isStatics = false ∧ s.vm.findClass M'.1.cls = some cellB.cls := ⟨cell, g1, by rw [g3]; rfl, by rw [g2, hcn]; exact hKn.2.1⟩
      exact sn_after hP hL hF hle hle2 (va_runV (C := M'.1.cls) (bytes := M'.2.1) (maxL := M'.2.2.1) (ret := M'.2.2.2.1) (n := n) S hm' ⟨⟨rfl, rfl, (hroom _ w6).1, (hroom _ w6).2, ae_big_pay hE w5, List.mem_cons_self, hts _ w5, hts _ w4, ⟨w7, w8⟩, hnp w9, hts _ w1⟩, hts _ w2, hts _ w3⟩ ⟨ae_Pc_blind D base _ h, hrecv, hpc⟩ rfl hn hL.1 rfl (lv_room h4) hd hf) kk
    · cases z
    · cases z
    · cases z
    · cases z
  | invokestatic j =>
    obtain ⟨el, he9⟩ := ae_g_s he; subst el; clear he; have he := he9; clear he9
    obtain ⟨kd, M2, n, w, hmth, hq⟩ := ae_call_s he
    have hmk := ae_mth_s hmth
    rcases hq with ⟨-, z, -⟩ | ⟨-, z, -⟩ | ⟨hk, -, as2, rest, rfl, hn, h4, -, hr⟩ | ⟨-, z, -⟩ | ⟨-, -, k9, dp, sp, d9, q, n0, n1, f, g, rest, -, -, -, -, -, -, -, -, -, hr⟩ | ⟨-, -, k9, dp, sp, d9, q, n0, n1, f, g, rest, -, -, -, -, -, -, -, -, -, -, hr⟩
    · cases z
    · cases z
    · cases hr
      rcases hk with rfl | rfl
      · obtain ⟨w1, w2, w3, w4, w6, w7, w8, w9⟩ := hmk
        have hm' := hm D base
        exact sn_after hP hL hF hle hle2 (va_runS (bytes := M'.2.1) (maxL := M'.2.2.1) (ret := M'.2.2.2.1) (n := n) S hm' ⟨⟨rfl, rfl, (hroom _ w6).1, (hroom _ w6).2, ae_big_pay hE w4, List.mem_cons_self, hts _ w4, hts _ w3, ⟨w7, w8⟩, hnp w9, hts _ w1⟩, hts _ w2⟩ ⟨ae_Pc_blind D base _ h, hpc⟩ rfl hn hL.1 rfl (lv_room h4) hd hf) kk
      · obtain ⟨w1, w2, w3, w4, w6, w7, w8, w9⟩ := hmk
        have hm' := hm D base
        exact sn_after hP hL hF hle hle2 (va_runSN (host := w) (bytes := M'.2.1) (maxL := M'.2.2.1) (ret := M'.2.2.2.1) (n := n) S hm' ⟨⟨⟨rfl, rfl, (hroom _ w6).1, (hroom _ w6).2, ae_big_pay hE w4, List.mem_cons_self⟩, hts _ w4, hts _ w3, ⟨w7, w8⟩, hnp w9, va_Nw.use rfl (hE.2.2.1 _ w1 rfl)⟩, hts _ w2, trivial⟩ ⟨ae_Pc_blind D base _ h, hpc⟩ rfl hn hL.1 rfl (lv_room h4) hd hf) kk
    · cases z
    · cases hr
    · cases hr
  | _ =>
    exfalso
    first
    | (cases he; done)
    | (simp only [ae_exec, ae_g, ae_n, ae_ldI, ae_ldJ, ae_ldA, ae_stI, ae_stJ, ae_stA, ae_ii, ae_iz, ae_jj, ae_ji, ae_j, ae_br, ae_get, ae_put, ae_arr] at he
       repeat' (split at he)
       all_goals (cases he; done))
end AEC2
