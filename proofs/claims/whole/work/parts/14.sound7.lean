theorem ae_own0 : (List.range 23).all (fun o => (ae_ml o).all (fun x => decide (x.2.1 = 6) || (decide (x.2.1 = 7) || decide (ae_on x.2.2.1.2.2.2.2.1 = x.2.2.1.1.cls)))) = true := by decide +kernel
theorem ae_low0 : (List.range 23).all (fun o => (ae_ml o).all (fun x => decide (x.2.1 = 6) || (decide (x.2.1 = 7) || (decide (x.2.1 = 0) || (decide (x.2.1 = 2) || !decide (x.2.2.1.2.2.2.2.1 = 12)))))) = true := by decide +kernel
theorem ae_tabd {P : Nat × Nat × ae_M × Nat × String → Bool} (h0 : (List.range 23).all (fun o => (ae_ml o).all P) = true) {o i n kd : Nat} {M' : ae_M} {w : String} (e : ae_mth o i = some (kd, M', n, w)) : ∃ j, P (j, kd, M', n, w) = true := by
  unfold ae_mth at e
  cases hf : (ae_ml o).find? (fun x => x.1 == i) with
  | none => rw [hf] at e; cases e
  | some x =>
    rw [hf] at e
    have h1 := List.mem_of_find?_eq_some hf
    have h3 : x.2 = (kd, M', n, w) := by simpa using e
    by_cases ho : o < 23
    · have h2 := List.all_eq_true.mp h0 o (List.mem_range.mpr ho)
      have h4 := List.all_eq_true.mp h2 x h1
      rw [show x = (x.1, kd, M', n, w) by rw [← h3]] at h4
      exact ⟨_, h4⟩
    · rw [ae_ml_big (by omega)] at h1
      cases h1
/-- what is known of a method that is called -/
def ae_cal (M M' : ae_M) (as : List Value) : Prop := plainFor M'.1 = true ∧ ae_on (ae_ow M') = M'.1.cls ∧ ae_eok M' as = true
set_option maxHeartbeats 4000000 in
theorem ae_cal_of {M M' : ae_M} {ins : Instr} {len pc : Nat} {L : ae_L} {st as : List Value} {h : ah_H} {o : ae_cfg} (he : ae_exec M ins len pc L st h = some (.inr (.inr (M', as, o)))) : ae_cal M M' as := by
  have key : ∀ op i, ae_call M op i pc L st h = some (.inr (.inr (M', as, o))) → ae_cal M M' as := by
    intro op i he
    obtain ⟨kd, M2, n, w, hmth, hq⟩ := ae_call_s he
    have hmk := ae_mth_s hmth
    obtain ⟨j1, g1⟩ := ae_tabd ae_own0 hmth
    obtain ⟨j2, g2⟩ := ae_tabd ae_low0 hmth
    rcases hq with ⟨hk, -, b, as2, rest, -, -, -, heo, hr⟩ | ⟨hk, -, b, as2, rest, fs, -, -, -, -, heo, hr⟩ | ⟨hk, -, as2, rest, -, -, -, heo, hr⟩ | ⟨-, -, b, rest, -, -, hr⟩ | ⟨-, -, k9, dp, sp, d9, q, n0, n1, f, g, rest, -, -, -, -, -, -, -, -, -, hr⟩ | ⟨-, -, k9, dp, sp, d9, q, n0, n1, f, g, rest, -, -, -, -, -, -, -, -, -, -, hr⟩
    · cases hr
      rcases hk with rfl | rfl
      · exact ⟨ae_plain hmth (by decide) (by decide), by simpa using g1, heo⟩
      · exact ⟨ae_plain hmth (by decide) (by decide), by simpa using g1, heo⟩
    · cases hr
      subst hk
      exact ⟨ae_plain hmth (by decide) (by decide), by simpa using g1, heo⟩
    · cases hr
      rcases hk with rfl | rfl
      · exact ⟨ae_plain hmth (by decide) (by decide), by simpa using g1, heo⟩
      · exact ⟨ae_plain hmth (by decide) (by decide), by simpa using g1, heo⟩
    · cases hr
    · cases hr
    · cases hr
  cases ins with
  | invokespecial j => exact key 0 j (ae_g_s he).2
  | invokevirtual j =>
    have he := (ae_g_s he).2
    split at he
    next =>
      exfalso
      repeat' (split at he)
      all_goals (cases he; done)
    next => exact key 1 j he
  | invokestatic j => exact key 2 j (ae_g_s he).2
  | _ =>
    exfalso
    first
    | (cases he; done)
    | (simp only [ae_exec, ae_g, ae_n, ae_ldI, ae_ldJ, ae_ldA, ae_stI, ae_stJ, ae_stA, ae_ii, ae_iz, ae_jj, ae_ji, ae_j, ae_br, ae_get, ae_put, ae_arr] at he
       repeat' (split at he)
       all_goals (cases he; done))
section AER
variable {p : Program} {l : Launch} {e : Env} {R : Room} {s : State} {m : MethodId} {args : Array Value} {below : List Frame} {meth : Method} {c : Code} {Q : State → Prop} {D : va_G} {base : Nat} {M M' : ae_M} {h0 h1 h2 : ah_H}
variable {pc i n d kd : Nat} {L : ae_L} {st rest as : List Value} {h : ah_H} {v : Option Value} {w : String}
set_option maxHeartbeats 4000000 in
theorem sn_ret (hC : ae_ctx p s m meth c M) {ins : Instr} {len : Nat} (hd : decode M.2.1 pc = .ok (ins, len)) (he : ae_exec M ins len pc L st h = some (.inr (.inl (v, h1)))) : ae_K p l e R s m args below meth c (MQ below (ae_Qc D base v h1) args s (h1.2.1 - h0.2.1) (h1.2.2.1 - h0.2.2.1) (fun q => base ≤ q)) D base M h0 pc L st h := by
  intro H locs ls hP hL hF
  obtain ⟨hx, hb, hr, hml, hown, hlocks, -⟩ := id hC
  have hh : h1 = h := ae_exec_h he
  subst hh
  have fin : ∀ u : Option Value, v = u → ∀ t : State, t.heap = H → s.WarmedH t.vm → ae_Qc D base v h1 args s (.returned u) t := fun u hu t ht hW => ⟨by rw [hu], by rw [ht]; exact hP.moved hW.alike⟩
  cases ins with
  | ireturn =>
    obtain ⟨el, he9⟩ := ae_g_s he; subst el; clear he; have he := he9; clear he9
    split at he
    next x ty hty =>
      split at he
      next hn => cases he; exact W.zret (ty := ty) hx hb (hr.trans hty) hn (fin _ rfl) hF hd hlocks
      next => cases he
    next => cases he
  | lreturn =>
    obtain ⟨el, he9⟩ := ae_g_s he; subst el; clear he; have he := he9; clear he9
    split at he
    next x =>
      split at he
      next hn => cases he; exact W.lret hx hb (hr.trans hn) (fin _ rfl) hF hd hlocks
      next => cases he
    next => cases he
  | areturn =>
    obtain ⟨el, he9⟩ := ae_g_s he; subst el; clear he; have he := he9; clear he9
    split at he
    next x ty hty =>
      split at he
      next hn =>
        cases he
        refine W.aret (rt := ty) hx hb (hr.trans hty) ?_ (ae_isR_s hn.1) (fin _ rfl) hF hd hlocks
        cases ty <;> first | exact Or.inl ⟨_, rfl⟩ | exact Or.inr ⟨_, rfl⟩ | exact absurd hn.2 (by decide)
      next => cases he
    next => cases he
  | return_ =>
    obtain ⟨el, he9⟩ := ae_g_s he; subst el; clear he; have he := he9; clear he9
    split at he
    next =>
      split at he
      next hn => cases he; exact W.vret hx hb (hr.trans hn) (fin _ rfl) hF hd hlocks
      next => cases he
    next => cases he
  | invokespecial j =>
    obtain ⟨kd, M2, n, w, hmth, hq⟩ := ae_call_s (ae_g_s he).2
    rcases hq with ⟨-, -, b, as2, rest, -, -, -, -, hr⟩ | ⟨-, -, b, as2, rest, fs, -, -, -, -, -, hr⟩ | ⟨-, -, as2, rest, -, -, -, -, hr⟩ | ⟨-, -, b, rest, -, -, hr⟩ | ⟨-, -, k9, dp, sp, d9, q, n0, n1, f, g, rest, -, -, -, -, -, -, -, -, -, hr⟩ | ⟨-, -, k9, dp, sp, d9, q, n0, n1, f, g, rest, -, -, -, -, -, -, -, -, -, -, hr⟩ <;> cases hr
  | invokevirtual j =>
    have he := (ae_g_s he).2
    split at he
    next =>
      exfalso
      repeat' (split at he)
      all_goals (cases he; done)
    next =>
    obtain ⟨kd, M2, n, w, hmth, hq⟩ := ae_call_s he
    rcases hq with ⟨-, -, b, as2, rest, -, -, -, -, hr⟩ | ⟨-, -, b, as2, rest, fs, -, -, -, -, -, hr⟩ | ⟨-, -, as2, rest, -, -, -, -, hr⟩ | ⟨-, -, b, rest, -, -, hr⟩ | ⟨-, -, k9, dp, sp, d9, q, n0, n1, f, g, rest, -, -, -, -, -, -, -, -, -, hr⟩ | ⟨-, -, k9, dp, sp, d9, q, n0, n1, f, g, rest, -, -, -, -, -, -, -, -, -, -, hr⟩ <;> cases hr
  | invokestatic j =>
    obtain ⟨kd, M2, n, w, hmth, hq⟩ := ae_call_s (ae_g_s he).2
    rcases hq with ⟨-, -, b, as2, rest, -, -, -, -, hr⟩ | ⟨-, -, b, as2, rest, fs, -, -, -, -, -, hr⟩ | ⟨-, -, as2, rest, -, -, -, -, hr⟩ | ⟨-, -, b, rest, -, -, hr⟩ | ⟨-, -, k9, dp, sp, d9, q, n0, n1, f, g, rest, -, -, -, -, -, -, -, -, -, hr⟩ | ⟨-, -, k9, dp, sp, d9, q, n0, n1, f, g, rest, -, -, -, -, -, -, -, -, -, -, hr⟩ <;> cases hr
  | _ =>
    exfalso
    first
    | (cases he; done)
    | (simp only [ae_exec, ae_g, ae_n, ae_ldI, ae_ldJ, ae_ldA, ae_stI, ae_stJ, ae_stA, ae_ii, ae_iz, ae_jj, ae_ji, ae_j, ae_br, ae_get, ae_put, ae_arr] at he
       repeat' (split at he)
       all_goals (cases he; done))
end AER
/-- THE MACHINE DOES WHAT ae_run SAYS -/
theorem ae_sound (hmna : ae_MNA) (l : Launch) : ∀ (k d : Nat) (M : ae_M) (pc : Nat) (L : ae_L) (st : List Value) (h : ah_H) (v : Option Value) (h1 : ah_H), ae_run k d M pc L st h = some (v, h1) →
    ∀ (p : Program) (e : Env) (R : Room) (s : State) (m : MethodId) (args : Array Value) (below : List Frame) (meth : Method) (c : Code) (Q : State → Prop) (D : va_G) (base : Nat) (h0 : ah_H), ae_ctx p s m meth c M → ae_env D s → d + 1 ≤ R.frames → d * 40 + 36 ≤ R.locals → h1.2.1 - h0.2.1 ≤ R.cells → h1.2.2.1 - h0.2.2.1 ≤ R.slots → ah_le h0 h →
      (∀ (ins : Instr) (len pc : Nat) (L : ae_L) (st : List Value) (h : ah_H), decode M.2.1 pc = .ok (ins, len) → ae_exec M ins len pc L st h = some (.inr (.inl (v, h1))) → ae_K p l e R s m args below meth c Q D base M h0 pc L st h) → ae_K p l e R s m args below meth c Q D base M h0 pc L st h := by
  intro k
  induction k with
  | zero => intro d M pc L st h v h1 hr; simp [ae_run] at hr
  | succ k ih =>
    intro d M pc L st h v h1 hr p e R s m args below meth c Q D base h0 hC hE hf hlo hc1 hc2 hle hfin
    have hall := ae_run_h _ _ _ _ _ _ _ _ _ hr
    unfold ae_run at hr
    cases hd : decode M.2.1 pc with
    | error _ => rw [hd] at hr; simp at hr
    | ok x =>
      obtain ⟨ins, len⟩ := x
      rw [hd] at hr
      dsimp only at hr
      cases he : ae_exec M ins len pc L st h with
      | none => rw [he] at hr; simp at hr
      | some o =>
        rw [he] at hr
        have ho := ae_exec_h he
        rcases o with ⟨pc', L', st', h2⟩ | r' | ⟨M', as, pc', L', st', h2⟩
        · have ho : ah_le h h2 := ho
          have hrest : ah_le h2 h1 := ae_run_h _ _ _ _ _ _ _ _ _ hr
          have q1 := hrest.1
          have q2 := hrest.2
          exact ae_sI hmna hC hE hd he (by show h2.2.1 - h0.2.1 ≤ R.cells; omega) (by show h2.2.2.1 - h0.2.2.1 ≤ R.slots; omega) hle (by omega) (by omega) (ih d M pc' L' st' h2 v h1 hr p e R s m args below meth c Q D base h0 hC hE hf hlo hc1 hc2 (ah_le.tr hle ho) hfin)
        · cases hr
          exact hfin ins len pc L st h hd he
        · have ho : h2 = h := ho
          subst ho
          obtain ⟨hpl, hon, heok⟩ := ae_cal_of he
          cases d with
          | zero => simp at hr
          | succ d' =>
            dsimp only at hr
            have fin : ∀ (v3 : Option Value) (h3 : ah_H), ah_le h2 h3 → ae_met l d' M' as h2 v3 h3 → ae_run k (d' + 1) M pc' L' (v3.toList ++ st') h3 = some (v, h1) → ae_K p l e R s m args below meth c Q D base M h0 pc L st h2 := by
              intro v3 h3 hle3 hmet hr3
              have hrest : ah_le h3 h1 := ae_run_h _ _ _ _ _ _ _ _ _ hr3
              have q1 := hrest.1
              have q2 := hrest.2
              exact sn_call hC hE hd he hmet hle hle3 (by omega) (by omega) (by omega) (by omega) (ih (d' + 1) M pc' L' (v3.toList ++ st') h3 v h1 hr3 p e R s m args below meth c Q D base h0 hC hE hf hlo hc1 hc2 (ah_le.tr hle hle3) hfin)
            split at hr
            next v2 h3 hc =>
              refine fin v2 h3 (ae_run_h _ _ _ _ _ _ _ _ _ hc) ?_ hr
              intro D2 base2
              refine va_MetF (cc := M'.2.1) (maxL := M'.2.2.1) (ret := M'.2.2.2.1) hpl rfl ?_
              intro p' e' s' m' args' below' meth' c' s₁ B hml hv
              obtain ⟨rfl, hrep, henv⟩ := hv
              have hown : s'.vm.findClass (ae_on (ae_ow M')) = some m'.cls := by rw [hon]; exact findClass_of_methodNamed B.named
              have hC' : ae_ctx p' s' m' meth' c' M' := ⟨B.exec, B.bytes, B.returns, hml, hown, B.notSynchronized, fun hq => (name_of_methodNamed B.named B.method).1.trans hq⟩
              rw [lg_entry_eq]
              refine W.cs (cells' := h2.2.1 - h2.2.1) (slots' := h2.2.2.1 - h2.2.2.1) (Nat.sub_self _).symm (Nat.sub_self _).symm ?_
              exact ih d' M' 0 (ae_ent M' as) [] h2 v2 h3 hc p' e' (ae_room d' h2 h3) s' m' as.toArray below' meth' c' _ D2 base2 h2 hC' henv (Nat.le_refl _) (by show d' * 40 + 36 ≤ (d' + 1) * 40; omega) (Nat.le_refl _) (Nat.le_refl _) (ah_le.rf _) (fun ins len pc L st h hd he => sn_ret hC' hd he) s'.heap [] _ hrep (ae_ent_lok heok).2 (fun q hq => by cases hq)
            next => simp at hr
