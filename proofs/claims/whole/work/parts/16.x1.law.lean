/-! the law's entry: the claim out of ONE pure statement, ae_PG -/
def ae_start (b L : Nat) (xs : Nat → Int32) (sz ea mi : Nat) : ah_H := (fun a => if a = b then some (.inl (99, L, .inl xs)) else if a = ea then some (.inl (98, 0, .inr (.inr (.inr (.inr (fun _ => none)))))) else none, sz, 0, ea, mi)
def ae_PG : Prop := ∀ (b L sz ea mi : Nat) (xs : Nat → Int32), L ≤ 2048 → b < sz → ea < sz → b ≠ ea → ∃ (k : Nat) (h1 : ah_H), ae_run k 13 mL_law 0 [some (.ref b), none, none, none] [] (ae_start b L xs sz ea mi) = some (some (.int 1), h1) ∧ h1.2.1 - sz ≤ 600000 ∧ h1.2.2.1 ≤ 7302250
set_option maxHeartbeats 4000000 in
theorem ae_ret_i {M : ae_M} {ins : Instr} {len pc : Nat} {L : ae_L} {st : List Value} {h h1 : ah_H} {v : Int32} (hM : M.2.2.2.1 = some .boolean) (he : ae_exec M ins len pc L st h = some (.inr (.inl (some (.int v), h1)))) : ins = .ireturn ∧ len = 1 ∧ st = [.int v] := by
  cases ins with
  | ireturn =>
    obtain ⟨el, he9⟩ := ae_g_s he; subst el; clear he; have he := he9; clear he9
    split at he
    next x ty hty =>
      split at he
      next hn => cases he; exact ⟨rfl, rfl, rfl⟩
      next => cases he
    next => cases he
  | areturn =>
    obtain ⟨el, he9⟩ := ae_g_s he; subst el; clear he; have he := he9; clear he9
    split at he
    next x ty hty =>
      split at he
      next hn =>
        rw [hM] at hty
        cases hty
        exact absurd hn.2 (by decide)
      next => cases he
    next => cases he
  | lreturn =>
    obtain ⟨el, he9⟩ := ae_g_s he; subst el; clear he; have he := he9; clear he9
    split at he
    next x =>
      split at he
      next hn => cases he
      next => cases he
    next => cases he
  | return_ =>
    obtain ⟨el, he9⟩ := ae_g_s he; subst el; clear he; have he := he9; clear he9
    split at he
    next =>
      split at he
      next hn => cases he
      next => cases he
    next => cases he
  | invokespecial j =>
    obtain ⟨kd, M2, n, w, hmth, hq⟩ := ae_call_s (ae_g_s he).2
    rcases hq with ⟨-, -, b, as2, rest, -, -, -, -, hr⟩ | ⟨-, -, b, as2, rest, fs, -, -, -, -, -, hr⟩ | ⟨-, -, as2, rest, -, -, -, -, hr⟩ | ⟨-, -, b, rest, -, -, hr⟩ | ⟨-, -, k9, dp, sp, d9, q, n0, n1, f, g, rest, -, -, -, -, -, -, -, -, -, hr⟩ | ⟨-, -, k9, dp, sp, d9, q, n0, n1, f, g, rest, -, -, -, -, -, -, -, -, -, -, hr⟩ <;> cases hr
  | invokevirtual j =>
    have he := (ae_g_s he).2
    split at he
    next =>
      exfalso
      repeat' (split at he)
      all_goals (cases he; done)
    next =>
    obtain ⟨kd, M2, n, w, hmth, hq⟩ := ae_call_s he
    rcases hq with ⟨-, -, b, as2, rest, -, -, -, -, hr⟩ | ⟨-, -, b, as2, rest, fs, -, -, -, -, -, hr⟩ | ⟨-, -, as2, rest, -, -, -, -, hr⟩ | ⟨-, -, b, rest, -, -, hr⟩ | ⟨-, -, k9, dp, sp, d9, q, n0, n1, f, g, rest, -, -, -, -, -, -, -, -, -, hr⟩ | ⟨-, -, k9, dp, sp, d9, q, n0, n1, f, g, rest, -, -, -, -, -, -, -, -, -, -, hr⟩ <;> cases hr
  | invokestatic j =>
    obtain ⟨kd, M2, n, w, hmth, hq⟩ := ae_call_s (ae_g_s he).2
    rcases hq with ⟨-, -, b, as2, rest, -, -, -, -, hr⟩ | ⟨-, -, b, as2, rest, fs, -, -, -, -, -, hr⟩ | ⟨-, -, as2, rest, -, -, -, -, hr⟩ | ⟨-, -, b, rest, -, -, hr⟩ | ⟨-, -, k9, dp, sp, d9, q, n0, n1, f, g, rest, -, -, -, -, -, -, -, -, -, hr⟩ | ⟨-, -, k9, dp, sp, d9, q, n0, n1, f, g, rest, -, -, -, -, -, -, -, -, -, -, hr⟩ <;> cases hr
  | _ =>
    exfalso
    first
    | (cases he; done)
    | (simp only [ae_exec, ae_g, ae_n, ae_ldI, ae_ldJ, ae_ldA, ae_stI, ae_stJ, ae_stA, ae_ii, ae_iz, ae_jj, ae_ji, ae_j, ae_br, ae_get, ae_put, ae_arr] at he
       repeat' (split at he)
       all_goals (cases he; done))
theorem ae_env_of {args : Array Value} {s : State} (hts : ∀ w ∈ lw_tbl, w.before args s = true) : ∃ D : va_G, ae_env D s := by
  have hbig : ∀ w ∈ ae_big, ∀ a : Array Value, w.before a s = true := fun w hw a => word_at (State.WarmedH.refl s) (ae_big_good hw) (hts w (List.mem_filter.mp hw).1)
  have hk : ∀ (c : Nat) (r : vw_C), ae_cl[c]? = some r → ∃ (cC : ClassId) (iS : Nat → Nat), u_Kn s r.1 r.2.1 r.2.2 cC iS := by
    intro c r hr
    obtain ⟨h1, ⟨h2, h3⟩, -⟩ := ae_cl_ok c r hr
    exact u_known (n := r.2.2) (fun w hw => hbig w hw args) h1 (hbig _ h2 args)
  have hk2 : ∀ c : Nat, ∃ (cC : ClassId) (iS : Nat → Nat), ∀ r : vw_C, ae_cl[c]? = some r → u_Kn s r.1 r.2.1 r.2.2 cC iS := by
    intro c
    cases hr : ae_cl[c]? with
    | none => exact ⟨0, fun _ => 0, fun r h => by cases h⟩
    | some r =>
      obtain ⟨cC, iS, h⟩ := hk c r hr
      exact ⟨cC, iS, fun r' h' => by cases h'; exact h⟩
  refine ⟨(fun c => Classical.choose (hk2 c), fun c => Classical.choose (Classical.choose_spec (hk2 c))), ⟨fun c r hr => Classical.choose_spec (Classical.choose_spec (hk2 c)) r hr, fun k q h => by simp at h⟩, hbig, fun w hw hq => ?_, trivial⟩
  have h5 := hts w hw
  cases w with
  | fieldLinkNest a b c d e f => exact va_Nw.of rfl h5
  | methodLinkNest a b c d => exact va_Nw.of rfl h5
  | castable a b => exact va_Nw.of rfl h5
  | declares a => exact va_Nw.of rfl h5
  | arrayOver ty => exact h5
  | _ => exact absurd hq Bool.false_ne_true
theorem ae_laysw : Cond.laysStatic "java/util/ArrayList" "DEFAULTCAPACITY_EMPTY_ELEMENTDATA" "[Ljava/lang/Object;" ∈ lw_tbl ∧ Cond.initialized "java/util/ArrayList" ∈ lw_tbl := by decide +kernel
theorem ae_ea_of {b : Nat} {s : State} (hts : ∀ w ∈ lw_tbl, w.before #[Value.ref b] s = true) (hgv : (Jvm.Cond.and given_1 narrow_1).before #[Value.ref b] s = true) : ∃ ea, ae_ea s.heap.size s s.heap ea := by
  have hs := flat_of_before _ hgv
  have h1 : (Cond.exactly (.static "java/util/ArrayList" "DEFAULTCAPACITY_EMPTY_ELEMENTDATA" "[Ljava/lang/Object;") "[Ljava/lang/Object;").before #[Value.ref b] s = true := hs _ (by decide +kernel)
  have h2 : (Cond.arrayOf (.static "java/util/ArrayList" "DEFAULTCAPACITY_EMPTY_ELEMENTDATA" "[Ljava/lang/Object;") (.object "java/lang/Object")).before #[Value.ref b] s = true := hs _ (by decide +kernel)
  have h3 : (Cond.eq (.length (.static "java/util/ArrayList" "DEFAULTCAPACITY_EMPTY_ELEMENTDATA" "[Ljava/lang/Object;")) (.int 0)).before #[Value.ref b] s = true := hs _ (by decide +kernel)
  obtain ⟨a, c, cell, k, q1, q2, q3, q4, q5, q6, -⟩ := Cond.exactly_spec h1
  obtain ⟨g1, g2⟩ := Cond.arrayOf_spec h2 q1 q3
  have hlt : a < s.heap.size := (Array.getElem?_eq_some_iff.mp q3).1
  refine ⟨a, va_Zof (hts _ ae_laysw.1) (hts _ ae_laysw.2) q1 (fun x hx hx2 => by omega), hlt, cell, q3, g1, g2, q5, ?_, by rw [q6]; exact q2⟩
  cases hv : (Term.length (.static "java/util/ArrayList" "DEFAULTCAPACITY_EMPTY_ELEMENTDATA" "[Ljava/lang/Object;")).eval #[Value.ref b] s none [] s with
  | none => simp [Cond.before, Cond.holds, Cond.value, hv] at h3
  | some v =>
    obtain ⟨a', cell', r1, r2, r3⟩ := Term.length_spec hv
    cases q1.symm.trans r1
    obtain ⟨r4, -, -, -⟩ := State.arrayAt?_spec r2
    cases q3.symm.trans r4
    rw [r3] at hv
    have := Cond.eq_ints hv (show (Term.int 0).eval #[Value.ref b] s none [] s = some (.int 0) from rfl)
    simpa [Cond.before, Cond.holds, this] using h3
/-- the law from its entry, out of the pure statement -/
theorem whole_open (hmna : ae_MNA) (l : Launch) (hpg : ae_PG) {p : Program} {e : Env} {s : State} {m : MethodId} {below : List Frame} {meth : Method} {c : Code} {b L : Nat} {xs : Nat → Int32} (hL : L ≤ 2048) (C0 : lw_At p s m meth c b L xs) : W p l e room_1 s m #[Value.ref b] below meth c s.heap [] 0 0 (lw_Z below #[Value.ref b] s) (entryFrame m ([Value.ref b] : List Value).toArray 4) := by
  obtain ⟨hx, hb, hr, hml, hown, hts, hX, hbl, hlocks, hgv⟩ := id C0
  have hs := flat_of_before _ hgv
  obtain ⟨D, hE⟩ := ae_env_of hts
  obtain ⟨mi, hmi⟩ := va_Mi.of (hs (Cond.isRef (.mirror "[Ljava/lang/Object;")) (by decide +kernel))
  obtain ⟨ea, hea⟩ := ae_ea_of hts hgv
  have hbe : b ≠ ea := fun z => by
    obtain ⟨scr, g1, g2, -⟩ := id hX
    obtain ⟨-, -, cell, g3, g4, -⟩ := id hea
    rw [← z, g1] at g3
    cases g3
    obtain ⟨-, k1, e1, c1, e2⟩ := g2
    obtain ⟨-, k2, e3, c2, e4⟩ := g4
    rw [e1] at e3
    cases e3
    rw [e2] at e4
    cases e4
  obtain ⟨k, h1, hrun, hc1, hc2⟩ := hpg b L s.heap.size ea mi xs hL hbl hea.2.1 hbe
  have hC : ae_ctx p s m meth c mL_law := ⟨hx, hb, hr, hml, hown, hlocks, fun hq => absurd hq (by decide +kernel)⟩
  have hrep : ae_rep D s.heap.size s (ae_start b L xs s.heap.size ea mi) s.heap := by
    refine ⟨rfl, Nat.le_refl _, ⟨hea, hmi⟩, fun a c hc => ?_⟩
    simp only [ae_start] at hc
    split at hc
    next ha =>
      cases hc
      rw [ha]
      unfold ae_at
      dsimp only
      rw [if_pos rfl]
      exact ⟨hX, xs, rfl⟩
    next =>
      split at hc
      next ha =>
        cases hc
        rw [ha]
        unfold ae_at
        dsimp only
        rw [if_neg (by decide), if_pos rfl]
        obtain ⟨-, -, cell, h3, h4, -, -, h7, -⟩ := hea
        exact ⟨rfl, cell, h3, h4, h7⟩
      next => cases hc
  rw [lg_entry_eq]
  refine W.cs (cells' := (ae_start b L xs s.heap.size ea mi).2.1 - (ae_start b L xs s.heap.size ea mi).2.1) (slots' := (ae_start b L xs s.heap.size ea mi).2.2.1 - (ae_start b L xs s.heap.size ea mi).2.2.1) (Nat.sub_self _).symm (Nat.sub_self _).symm ?_
  have hc2' : h1.2.2.1 - (ae_start b L xs s.heap.size ea mi).2.2.1 ≤ 7302250 := by show h1.2.2.1 - 0 ≤ 7302250; omega
  refine ae_sound hmna l k 13 mL_law 0 [some (.ref b), none, none, none] [] (ae_start b L xs s.heap.size ea mi) (some (.int 1)) h1 hrun p e room_1 s m #[Value.ref b] below meth c (lw_Z below #[Value.ref b] s) D s.heap.size (ae_start b L xs s.heap.size ea mi) hC hE (by decide) (by decide) hc1 hc2' (ah_le.rf _) ?_ s.heap [] _ hrep (ae_ent_lok (M := mL_law) (as := [.ref b]) rfl).2 (fun q hq => by cases hq)
  intro ins len pc L' st h hd he H locs ls hP hL' hF
  obtain ⟨rfl, rfl, rfl⟩ := ae_ret_i rfl he
  have hh : h1 = h := ae_exec_h he
  subst hh
  refine va_forget hF ?_
  exact W.widen hc1 hc2' (lw_ret hx hb hr hlocks hd)
