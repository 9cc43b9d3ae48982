/-! room; the law from its beginning -/
theorem flt_one {s : Nat} : ∀ (T : List Nat), T.Nodup → s ∈ T → (T.filter (fun a => decide (a ≠ s))).length + 1 = T.length := by
  intro T
  induction T with
  | nil => intro _ h; cases h
  | cons a T ih =>
    intro hnd hm
    obtain ⟨h1, h2⟩ := List.nodup_cons.mp hnd
    by_cases c : a = s
    · subst c
      have e : (a :: T).filter (fun b => decide (b ≠ a)) = T := by
        rw [List.filter_cons_of_neg (by simp)]
        exact List.filter_eq_self.mpr (fun b hb => by
          have : b ≠ a := fun z => h1 (z ▸ hb)
          simpa using this)
      rw [e, List.length_cons]
    · have hm2 : s ∈ T := (List.mem_cons.mp hm).resolve_left (Ne.symm c)
      rw [List.filter_cons_of_pos (by simpa using c), List.length_cons, List.length_cons, ih h2 hm2]
theorem mem_back : ∀ (S T : List Nat), S.Nodup → T.Nodup → (∀ a, a ∈ S → a ∈ T) → T.length ≤ S.length → ∀ a, a ∈ T → a ∈ S := by
  intro S
  induction S with
  | nil =>
    intro T _ _ _ hl a ha
    have : T = [] := List.eq_nil_of_length_eq_zero (by simpa using hl)
    rw [this] at ha
    cases ha
  | cons s S ih =>
    intro T hS hT hs hl a ha
    obtain ⟨h1, h2⟩ := List.nodup_cons.mp hS
    have hsT := hs s (List.mem_cons_self ..)
    have hlen := flt_one T hT hsT
    rw [List.length_cons] at hl
    by_cases c : a = s
    · rw [c]; exact List.mem_cons_self ..
    · refine List.mem_cons_of_mem _ (ih (T.filter (fun a => decide (a ≠ s))) h2 (hT.filter _) (fun b hb => ?_) (by omega) a ?_)
      · have : b ≠ s := fun z => h1 (z ▸ hb)
        exact List.mem_filter.mpr ⟨hs b (List.mem_cons_of_mem _ hb), by simpa using this⟩
      · exact List.mem_filter.mpr ⟨ha, by simpa using c⟩
theorem fm_len (tf : Nat → Option Nat) : ∀ l : List Nat, (l.filterMap tf).length = (l.filter (fun f => (tf f).isSome)).length := by
  intro l
  induction l with
  | nil => rfl
  | cons a l ih =>
    cases e : tf a with
    | none => rw [List.filterMap_cons_none e, List.filter_cons_of_neg (by simp [e]), ih]
    | some t => rw [List.filterMap_cons_some e, List.filter_cons_of_pos (by simp [e]), List.length_cons, List.length_cons, ih]
theorem fm_nodup {tf : Nat → Option Nat} : ∀ l : List Nat, l.Nodup → (∀ f g t, f ∈ l → g ∈ l → tf f = some t → tf g = some t → f = g) → (l.filterMap tf).Nodup := by
  intro l
  induction l with
  | nil => intro _ _; exact List.nodup_nil
  | cons a l ih =>
    intro hnd hi
    obtain ⟨h1, h2⟩ := List.nodup_cons.mp hnd
    have h3 := ih h2 (fun f g t hf hg => hi f g t (List.mem_cons_of_mem _ hf) (List.mem_cons_of_mem _ hg))
    cases e : tf a with
    | none => rw [List.filterMap_cons_none e]; exact h3
    | some t =>
      rw [List.filterMap_cons_some e]
      refine List.nodup_cons.mpr ⟨fun hm => ?_, h3⟩
      obtain ⟨g, g1, g2⟩ := List.mem_filterMap.mp hm
      have := hi a g t (List.mem_cons_self ..) (List.mem_cons_of_mem _ g1) e g2
      exact h1 (this ▸ g1)
theorem sum_le {nn : Nat → Nat} {B : Nat} : ∀ T : List Nat, (∀ t, t ∈ T → nn t ≤ B) → (T.map nn).sum ≤ B * T.length := by
  intro T
  induction T with
  | nil => intro _; simp
  | cons a T ih =>
    intro h
    have h1 := h a (List.mem_cons_self ..)
    have h2 := ih (fun t ht => h t (List.mem_cons_of_mem _ ht))
    rw [List.map_cons, List.sum_cons, List.length_cons, Nat.mul_succ]
    omega
theorem csm_72 (P : Nat → Bool) : ∀ m, csm P (fun _ => 1) m ≤ m := by
  intro m
  induction m with
  | zero => simp [csm]
  | succ m ih =>
    simp only [csm]
    by_cases c : P m = true
    · rw [if_pos c]; omega
    · rw [if_neg c]; omega
theorem rsK_T {G : ah_H} {x : Nat} {A : Nat → Nat} {ns : Nat} {rl : mR} {ro : Nat → Nat} {sp : Nat} {lf tf : Nat → Option Nat} {T : List Nat} {nn cc : Nat → Nat} (h : rsK G x A ns rl ro sp lf tf T nn cc) : T.length ≤ 25 ∧ ∀ t, t ∈ T → nn t ≤ 9601 ∧ cc t ≤ 14411 := by
  obtain ⟨-, -, ⟨t1, t2, t3, t4⟩, hsp, hfs, -⟩ := h
  have hc : cnT tf ≤ 24 := by
    have : cnT tf ≤ (List.range 24).length := List.length_filter_le _ _
    rw [List.length_range] at this
    exact this
  refine ⟨by omega, fun t ht => ?_⟩
  have hb : ∀ t C, trc G ro t (nn t) (cc t) C → nn t ≤ 9601 ∧ cc t ≤ 14411 := fun t C hh => by
    obtain ⟨e, ad, sz, q, -⟩ := hh
    have := q.2.2.2.2.2.2.1
    omega
  have hS : (sp :: (List.range 24).filterMap tf).Nodup := List.nodup_cons.mpr ⟨fun hm => by
    obtain ⟨f, f1, f2⟩ := List.mem_filterMap.mp hm
    exact (t4 f sp (List.mem_range.mp f1) f2).2.1 rfl, fm_nodup _ List.nodup_range (fun f g u hf hg h1 h2 => ((t4 f u (List.mem_range.mp hf) h1).2.2 g (List.mem_range.mp hg) h2).symm)⟩
  have hm := mem_back (sp :: (List.range 24).filterMap tf) T hS t1 (fun a ha => by
    rcases List.mem_cons.mp ha with z | z
    · rw [z]; exact t2
    · obtain ⟨f, f1, f2⟩ := List.mem_filterMap.mp z
      exact (t4 f a (List.mem_range.mp f1) f2).1) (by rw [List.length_cons, fm_len, t3]; unfold cnT; omega) t ht
  rcases List.mem_cons.mp hm with z | z
  · rw [z]; exact hb sp _ hsp
  · obtain ⟨f, f1, f2⟩ := List.mem_filterMap.mp z
    exact hb t _ ((hfs f (List.mem_range.mp f1)).2 t f2)
theorem RLz_room {G : ah_H} {x b L : Nat} {xs : Nat → Int32} {j : Nat} (h : RLz G x b L xs j) (hj : j ≤ 512) : G.2.1 ≤ x + 600000 ∧ G.2.2.1 ≤ 7302250 := by
  obtain ⟨ns, A, F, tp, rl, v, ⟨P, c, p, y, fw, ar, fn, ro, sp, lf, tf, T, nn, cc, fe, hc, ⟨l1, l2⟩, -⟩, -⟩ := h
  obtain ⟨t1, t2⟩ := rsK_T hc.2.2.2.2.1
  have s1 := sum_le (nn := nn) T (fun t ht => (t2 t ht).1)
  have s2 := sum_le (nn := cc) T (fun t ht => (t2 t ht).2)
  have s3 : cnP P ≤ 72 := csm_72 _ 72
  have m1 : 9601 * T.length ≤ 9601 * 25 := Nat.mul_le_mul_left _ t1
  have m2 : 14411 * T.length ≤ 14411 * 25 := Nat.mul_le_mul_left _ t1
  exact ⟨by omega, by omega⟩
section PGS
variable {Q : Option Value → ah_H → Prop}
theorem law_begin {b L sz ea mi : Nat} {xs : Nat → Int32} (hb : b < sz) (he : ea < sz) (hbe : b ≠ ea) : ∃ G, RLz G sz b L xs 0 ∧ ∀ Q, ae_wp 13 mL_law 0 [some (.ref b), none, none, none] [] (ae_start b L xs sz ea mi) Q = ae_wp 13 mL_law 18 (lwl b sz 0) [] G Q := by
  have a1 : (ae_start b L xs sz ea mi).1 b = some (.inl (99, L, .inl xs)) := by simp [ae_start]
  have a2 : (ae_start b L xs sz ea mi).1 ea = some (.inl (98, 0, .inr (.inr (.inr (.inr (fun _ => none)))))) := by simp [ae_start, Ne.symm hbe]
  have a31 : (ae_start b L xs sz ea mi).2.1 = sz := rfl
  have a32 : (ae_start b L xs sz ea mi).2.2.1 = 0 := rfl
  have a33 : (ae_start b L xs sz ea mi).2.2.2.1 = ea := rfl
  generalize ae_start b L xs sz ea mi = h0 at a1 a2 a31 a32 a33
  have n1 : (ah_new h0 (.inr (10, [.null, .null, .null, .null])) 4).1 sz = some (.inr (10, [.null, .null, .null, .null])) := hn_eq a31.symm
  have n21 : (ah_new h0 (.inr (10, [.null, .null, .null, .null])) 4).2.1 = sz + 1 := by rw [hn_21, a31]
  have n22 : (ah_new h0 (.inr (10, [.null, .null, .null, .null])) 4).2.2.1 = 4 := by rw [hn_22, a32]
  have n4 : (ah_new h0 (.inr (10, [.null, .null, .null, .null])) 4).2.2.2.1 = ea := by rw [hn_23, a33]
  have n3 : ∀ a, a < sz → (ah_new h0 (.inr (10, [.null, .null, .null, .null])) 4).1 a = h0.1 a := fun a ha => hn_ne (by omega)
  obtain ⟨Y, y1, y2, y3, y4⟩ := m_X10_init (d := 6) (x := sz) (fe := fun _ => none) n1 n21 (by rw [n4, n3 _ he]; exact a2) (by rw [n4]; exact he)
  rw [n4] at y2
  have y41 : Y.2.1 = sz + 29 := congrArg Prod.fst y4
  have y42 : Y.2.2.1 = (ah_new h0 (.inr (10, [.null, .null, .null, .null])) 4).2.2.1 + 1210 := congrArg (fun z => z.2.1) y4
  have y43 : Y.2.2.2.1 = ea := (congrArg (fun z => z.2.2.1) y4).trans n4
  rw [n22] at y42
  clear y4
  have q1 : (ah_new Y (.inr (11, rf0)) 53).1 (sz + 29) = some (.inr (11, rf0)) := hn_eq y41.symm
  have q21 : (ah_new Y (.inr (11, rf0)) 53).2.1 = sz + 29 + 1 := by rw [hn_21, y41]
  have q22 : (ah_new Y (.inr (11, rf0)) 53).2.2.1 = 4 + 1210 + 53 := by rw [hn_22, y42]
  have q23 : (ah_new Y (.inr (11, rf0)) 53).2.2.2.1 = ea := by rw [hn_23, y43]
  have q3 : ∀ a, a < sz + 29 → (ah_new Y (.inr (11, rf0)) 53).1 a = Y.1 a := fun a ha => hn_ne (by omega)
  have hX : ∃ X, ah_new Y (.inr (11, rf0)) 53 = X := ⟨_, rfl⟩
  obtain ⟨X, hX⟩ := hX
  rw [hX] at q1 q21 q22 q23 q3
  have g := fun Q => m_X11_init (d := 12) (Q := Q) (h := X) (q := sz + 29) q1 q21
  have r1 : ∀ a, a < sz + 29 → (rh (X.1, sz + 29 + 207, X.2.2.1 + 84682, X.2.2.2) (sz + 29) rz0).1 a = Y.1 a := fun a ha => by rw [rh_out (by omega)]; exact q3 a ha
  have r21 : (rh (X.1, sz + 29 + 207, X.2.2.1 + 84682, X.2.2.2) (sz + 29) rz0).2.1 = sz + 29 + 207 := rfl
  have r22 : (rh (X.1, sz + 29 + 207, X.2.2.1 + 84682, X.2.2.2) (sz + 29) rz0).2.2.1 = X.2.2.1 + 84682 := rfl
  have r23 : (rh (X.1, sz + 29 + 207, X.2.2.1 + 84682, X.2.2.2) (sz + 29) rz0).2.2.2.1 = ea := q23
  have r3 : rh (rh (X.1, sz + 29 + 207, X.2.2.1 + 84682, X.2.2.2) (sz + 29) rz0) (sz + 29) rz0 = rh (X.1, sz + 29 + 207, X.2.2.1 + 84682, X.2.2.2) (sz + 29) rz0 := rh_rh _ _ _ _
  generalize rh (X.1, sz + 29 + 207, X.2.2.1 + 84682, X.2.2.2) (sz + 29) rz0 = G at g r1 r21 r22 r23 r3
  have hC : CIz G sz b 0 (fun _ => 0) (fun _ => false) [] [] ([], [], nI 0, nI 0, nI 0, nI 0) (sz + 236) 90000 0 := by
    refine newC_CIz (fe := fun _ => none) ?_ ?_ (by rw [r23]; exact he) hb (by omega) (by omega)
    · rw [r23]
      exact newC_cg (fun a h1 h2 => r1 a (by omega)) (r1 _ (by omega)) y2
    · rw [r23, r1 _ (by omega), y3 _ he, n3 _ he]; exact a2
  refine ⟨G, ⟨0, fun _ => 0, fun _ => false, [], [], ([], [], nI 0, nI 0, nI 0, nI 0), hC, ⟨rz0, r3, ⟨⟨by omega, fun k hk => absurd hk (Nat.not_lt_zero _), fun _ _ => rfl⟩, ⟨rfl, by simp, fun r hr => absurd hr (Nat.not_lt_zero _)⟩, rfl⟩, ⟨fun k hk => absurd hk (Nat.not_lt_zero _), fun _ _ => rfl⟩, ⟨rfl, fun i hi => absurd hi (Nat.not_lt_zero _), by simp, fun i hi => absurd hi (Nat.not_lt_zero _)⟩, ⟨⟨rfl, by simp, fun i hi => absurd hi (Nat.not_lt_zero _)⟩, ⟨rfl, by simp, fun i hi => absurd hi (Nat.not_lt_zero _)⟩, rfl, rfl, rfl, rfl⟩⟩, ⟨⟨by simp, fun r hr => absurd hr (Nat.not_lt_zero _)⟩, fun r hr => absurd hr (Nat.not_lt_zero _), fun f hf => absurd hf (Nat.not_lt_zero _), fun p hp => (nomatch hp), fun z hz => (nomatch hz)⟩, ?_⟩, fun Q => ?_⟩
  · rw [r1 _ (by omega), y3 _ hb, n3 _ hb]; exact a1
  · unfold lwl
    unfold rf0 at hX
    simp (disch := first | exact ae_isR_ref _ | exact ae_isR_null | exact ae_isR_rf _ | exact ae_cat_ref _ | exact ae_cat_int _ | exact ae_cat_null | exact ae_cat_rf _ | exact ae_nz0 | exact ae_nz1 | exact ae_fz0 | exact ae_fz1 | exact cI_na (by omega) | exact cI_ix (by omega) | exact cI_nn (by omega) | exact cI_nz (by omega) | exact cI_cp (by omega) | assumption | omega) only [s_L_law_0, s_L_law_3, s_L_law_4, s_L_law_7, s_L_law_8, s_L_law_11, s_L_law_12, s_L_law_15, s_L_law_16, s_L_law_17, og_0, og_1, og_2, og_3, og_4, og_5, og_6, og_7, og_8, og_9, og_10, og_11, og_12, op_6, op_8, op_9, op_10, op_11, op_12, dg_0, dg_1, dg_2, dg_3, dp_1, dp_2, dp_3, ng_b, ng_d, mz_m, ms_m, ov_2, nset_d, nset_b, uI_1, uI_2, uR_1, uR_21, uR_22, va_rf, Bool.false_eq_true, ae_Ki, ae_Kb, ae_Kj, ae_Ka, ae_Si, ae_Sb, ae_Sj, ae_Sn, List.getElem?_cons_succ, List.getElem?_cons_zero, ↓reduceIte, if_true, if_false, nI_ofNat, true_or, or_true, false_or, or_false, true_and, and_true, false_and, and_false, or_self, and_self, not_true_eq_false, not_false_eq_true, eq_self, List.length_cons, List.length_nil, Nat.reduceAdd, Nat.reduceLT, Nat.reduceSub, List.set_cons_succ, List.set_cons_zero, Option.toList, List.nil_append, List.cons_append, cI_ltT, cI_ltF, cI_leT, cI_leF, cI_eqT, cI_eqF, cI_cl, cN_leT, cN_leF, cN_ltT, cN_ltF, cN_eqT, cN_eqF, cI_add, cI_sub, cI_m1a, cI_m1b, cI_m1c, cI_m1d, cI_m1e, cI_m1f, a31, y1, y41, hX, g]
theorem ae_pg : ae_PG := by
  intro b L sz ea mi xs hL hb he hbe
  obtain ⟨G, g1, g2⟩ := law_begin (L := L) (mi := mi) (xs := xs) hb he hbe
  have h := law_loop (Q := fun v h => v = some (.int 1) ∧ h.2.1 - sz ≤ 600000 ∧ h.2.2.1 ≤ 7302250) hL (fun G2 j2 q1 q2 => by
    have := RLz_room q1 q2
    exact ⟨rfl, by omega, this.2⟩) L 0 0 G (by omega) (by omega) (by omega) g1
  rw [← g2] at h
  obtain ⟨k, v, h1, hr, hv, q1, q2⟩ := h
  subst hv
  exact ⟨k, h1, hr, q1, q2⟩
end PGS
