/-! NarrowSolver$Rules.add as a whole -/
def rog (N M sp : Nat) (ro : Nat → Nat) (a : Nat) : Nat := if N ≤ a ∧ a < N + 5 then 2 else if N + 5 ≤ a ∧ a < M then 10 + sp else ro a
theorem rog_lo {N M sp : Nat} {ro : Nat → Nat} {a : Nat} (h : a < N) : rog N M sp ro a = ro a := by unfold rog; rw [if_neg (by omega), if_neg (by omega)]
theorem rog_2 {N M sp : Nat} {ro : Nat → Nat} {a : Nat} (h : N ≤ a ∧ a < N + 5) : rog N M sp ro a = 2 := by unfold rog; rw [if_pos h]
theorem rog_t {N M sp : Nat} {ro : Nat → Nat} {a : Nat} (h : N + 5 ≤ a ∧ a < M) : rog N M sp ro a = 10 + sp := by unfold rog; rw [if_neg (by omega), if_pos h]
theorem rog_hi {N M sp : Nat} {ro : Nat → Nat} (hr : ∀ a, ro a ≠ 0 → a < N) (hM : N + 5 ≤ M) {a : Nat} (h : N ≤ a) : rog N M sp ro a ≠ 1 ∧ (rog N M sp ro a ≠ 0 → a < M) := by
  unfold rog
  by_cases c : a < N + 5
  · rw [if_pos ⟨h, c⟩]; exact ⟨by omega, fun _ => by omega⟩
  · rw [if_neg (by omega)]
    by_cases c2 : a < M
    · rw [if_pos ⟨by omega, c2⟩]; exact ⟨by omega, fun _ => c2⟩
    · rw [if_neg (by omega)]
      have : ro a = 0 := by
        by_cases z : ro a = 0
        · exact z
        · have := hr a z; omega
      rw [this]
      exact ⟨by omega, fun z => absurd rfl z⟩
theorem rul_ro {D D2 : Nat → Prop} {G : ah_H} {a : Nat} {l r : List Nat} (hD : ∀ b, D b → D2 b) (h : rul D G a l r) : rul D2 G a l r := by
  obtain ⟨e0, e1, e2, e3, e4, h⟩ := h
  exact ⟨hD _ e0, hD _ e1, hD _ e2, hD _ e3, hD _ e4, h⟩
theorem cnt_app {G : ah_H} {ro : Nat → Nat} {A : Nat → Nat} {ns : Nat} {rl : mR} {f t : Nat} {ad : Nat → Option Nat} {sz : Nat} {z : List Nat × Nat} (h99 : A 99 = 0) (hns : ns ≤ 24) (hl : rl.length < 40) (hg : rgo ns A rl) (hf : f < 24) (hz : z.1.getD 0 0 ≠ f) (h : cnt G ro A ns rl f t ad sz) : cnt G ro A ns (rl ++ [z]) f t ad sz := by
  refine ⟨fun w => h.1 (by rw [rof_app hl hz] at w; exact w), fun w => ?_⟩
  rw [rof_app hl hz] at w
  obtain ⟨L, a, m1, m2, m3, m4, m5, m6⟩ := h.2 w
  have hfn : f < ns := by
    by_cases c : f < ns
    · exact c
    · exact absurd (rof_ge hg (by omega) (by omega)) w
  have hw := bgn_wfp h99 hns hg hfn w
  have hx := ext_app (A := A) (x := z) hns hl
  refine ⟨L, a, ?_, m2, m3, m4, ?_, m6⟩
  · unfold ltr at m1 ⊢
    rw [rof_app hl hz]
    rw [if_neg w] at m1 ⊢
    rw [ext_lay h99 hx hg _ _ _ _ _ _ hw]
    exact m1
  · rw [rof_app hl hz]
    exact nod_ext h99 hx hg _ _ _ _ hw m5
section RAE
variable {d : Nat} {Q : Option Value → ah_H → Prop} {G : ah_H} {x : Nat} {A : Nat → Nat} {ns : Nat} {ar fn : Nat → Int32} {rl : mR} {ro : Nat → Nat} {sp : Nat} {lf tf : Nat → Option Nat} {T : List Nat} {nn cc : Nat → Nat} {tp : List Nat} {l : Nat} {fe : Nat → Option Nat}
theorem m_X5_add_no (h : rsK G x A ns rl ro sp lf tf T nn cc) (hx : rsx G x ro fe) (hl : rl.length < 40) (ht : tpk G x tp) (hl0 : 0 < l) (hle : l ≤ tp.length) (hA : arl A ns ar) (hs : sym G (x + 1) ns ar fn) (hf : tp.getD 0 0 < ns) (hg : rgo ns A (rl ++ [(tp, l)])) (hn : ltr A (rl ++ [(tp, l)]) ns (tp.getD 0 0) = none) : ∃ G2 ro2 lf2 nn2 cc2, (∀ Q, ae_wm (d + 10) mX5_add [.ref (x + 6), .ref (x + 4), .int (nI l)] G Q = Q (some (.int (-19))) G2) ∧ rsK G2 x A ns rl ro2 sp lf2 tf T nn2 cc2 ∧ rfr G G2 x ro ro2 ∧ acc G T nn cc G2 T nn2 cc2 := by
  have b := m_X5_add_b (d := d) h hx hl ht hl0 hle hA hs hf hg
  rw [hn] at b
  obtain ⟨G2, e2, n2, cap2, ad2, sz2, b1, k1, ⟨k2, k3⟩, ⟨k4, k5⟩, k6, k7, k8, k9⟩ := b
  obtain ⟨⟨c6, c7, c8, c11, c12, c14⟩, hru, hT, hsp, hfs, hTn⟩ := h
  obtain ⟨x1, x2, x3, x4, x5, x6⟩ := hx
  have z : ∀ k, k ≤ 22 → k ≠ 9 → k ≠ 10 → ro (x + k) = 0 := fun k h1 h2 h3 => x2 _ (by omega) (by omega) (by omega) (by omega)
  have g6 : G2.1 (x + 6) = _ := (k1 (x + 6) (by omega) (by rw [z 6 (by omega) (by omega) (by omega)]; omega) (by omega) (by omega)).trans c6
  have g8 : G2.1 (x + 8) = _ := (k1 (x + 8) (by omega) (by rw [z 8 (by omega) (by omega) (by omega)]; omega) (by omega) (by omega)).trans c8
  have g11 : G2.1 (x + 11) = _ := (k1 (x + 11) (by omega) (by rw [z 11 (by omega) (by omega) (by omega)]; omega) (by omega) (by omega)).trans c11
  have hco : ∀ a, 2 ≤ ro a → ro a ≠ 10 + sp → a < G.2.1 ∧ a ≠ x + 7 ∧ G2.1 a = G.1 a := fun a h1 h2 => by
    have h3 := x1 a (by omega)
    have q7 := z 7 (by omega) (by omega) (by omega)
    have q12 := z 12 (by omega) (by omega) (by omega)
    have q13 := z 13 (by omega) (by omega) (by omega)
    have q14 := z 14 (by omega) (by omega) (by omega)
    have n7 : a ≠ x + 7 := fun w => by rw [w] at h1; omega
    refine ⟨h3, n7, k1 a h3 h2 n7 (fun w => ?_)⟩
    rcases (show a = x + 12 ∨ a = x + 13 ∨ a = x + 14 by omega) with w | w | w <;> (rw [w] at h1; omega)
  have he : G2.1 G.2.2.2.1 = G.1 G.2.2.2.1 := k1 _ (by omega) (by rw [x5]; omega) (by omega) (by omega)
  refine ⟨ah_set G2 (x + 7) (.inl (3, 40, .inr (.inr (.inr (.inr (va_up (va_up lf rl.length (some G.2.1)) rl.length none)))))), rog G.2.1 G2.2.1 sp ro, va_up (va_up lf rl.length (some G.2.1)) rl.length none, fun a => if a = sp then n2 else nn a, fun a => if a = sp then cap2 else cc a, fun Q => ?_, ⟨⟨by rw [hs_ne (by omega)]; exact g6, hs_eq rfl, by rw [hs_ne (by omega)]; exact g8, by unfold tmk; rw [hs_ne (by omega)]; exact g11, ?_, ?_⟩, fun r hr => ?_, hT, ?_, fun f hf2 => ⟨(hfs f hf2).1, fun t ht2 => ?_⟩, fun t ht2 => by have := hTn t ht2; show t < G2.2.1; omega⟩, ⟨fun a h1 h2 h3 h4 => ?_, fun a ha => rog_lo ha, fun a ha => (rog_hi x1 k8 ha).1, fun a ha => ?_, by show G.2.1 ≤ G2.2.1; omega, k9⟩, ?_⟩
  · rw [b1 Q]
    have o4 : ∀ K, ae_gw G2 (x + 6) 5 4 K = K (.int (nI rl.length)) := fun K => by unfold ae_gw; rw [g6]; rfl
    have o0 : ∀ K, ae_gw G2 (x + 6) 5 0 K = K (.ref (x + 7)) := fun K => by unfold ae_gw; rw [g6]; rfl
    have oz7 : ∀ K, ae_zw G2 (x + 7) K = K 3 (40, .inr (.inr (.inr (.inr (va_up lf rl.length (some G.2.1)))))) := fun K => zw_of k2
    have hcl : (nI rl.length).toNatClampNeg = rl.length := cI_cl (by omega)
    have hix : ¬ (nI rl.length < nI 0 ∨ 40 ≤ (nI rl.length).toNatClampNeg) := cI_ix (by omega)
    simp (disch := first | exact ae_isR_ref _ | exact ae_isR_null | exact ae_isR_rf _ | exact ae_cat_ref _ | exact ae_cat_int _ | exact ae_cat_null | exact ae_cat_rf _ | exact ae_nz0 | exact ae_nz1 | exact ae_fz0 | exact ae_fz1 | exact cI_na (by omega) | exact cI_ix (by omega) | exact cI_nn (by omega) | exact cI_nz (by omega) | exact cI_cp (by omega) | assumption | omega) only [s_X5_add_79, s_X5_add_80, s_X5_add_83, s_X5_add_84, s_X5_add_87, s_X5_add_88_N, s_X5_add_88, s_X5_add_89, s_X5_add_91, og_0, og_1, og_2, og_3, og_4, og_5, og_6, og_7, og_8, og_9, og_10, og_11, og_12, op_6, op_8, op_9, op_10, op_11, op_12, dg_0, dg_1, dg_2, dg_3, dp_1, dp_2, dp_3, ng_b, ng_d, mz_m, ms_m, ov_2, nset_d, nset_b, uI_1, uI_2, uR_1, uR_21, uR_22, va_rf, Bool.false_eq_true, ae_Ki, ae_Kb, ae_Kj, ae_Ka, ae_Si, ae_Sb, ae_Sj, ae_Sn, List.getElem?_cons_succ, List.getElem?_cons_zero, ↓reduceIte, if_true, if_false, nI_ofNat, true_or, or_true, false_or, or_false, true_and, and_true, false_and, and_false, or_self, and_self, not_true_eq_false, not_false_eq_true, eq_self, List.length_cons, List.length_nil, Nat.reduceAdd, Nat.reduceLT, Nat.reduceSub, List.set_cons_succ, List.set_cons_zero, Option.toList, List.nil_append, List.cons_append, cI_ltT, cI_ltF, cI_leT, cI_leF, cI_eqT, cI_eqF, cI_cl, cN_leT, cN_leF, cN_ltT, cN_ltF, cN_eqT, cN_eqF, cI_add, cI_sub, cI_m1a, cI_m1b, cI_m1c, cI_m1d, cI_m1e, cI_m1f, o4, o0, oz7, hcl, hix]
  · obtain ⟨lp, g, ⟨p1, p2⟩, p3⟩ := k4
    exact ⟨lp, g, ⟨by rw [hs_ne (by omega)]; exact p1, by rw [hs_ne (by omega)]; exact p2⟩, p3⟩
  · obtain ⟨f1, k5⟩ := k5
    exact ⟨f1, by rw [hs_ne (by omega)]; exact k5⟩
  · obtain ⟨a, a1, a2⟩ := hru r hr
    refine ⟨a, ?_, rul_ro (fun b hb => by rw [rog_lo (x1 b (by omega))]; exact hb) (rul_cg (fun b hb => ?_) a2)⟩
    · simp only [va_up, if_neg (show r ≠ rl.length by omega)]
      exact a1
    · have hb : ro b = 2 := hb
      obtain ⟨w1, w2, w3⟩ := hco b (by omega) (by omega)
      rw [hs_ne w2]; exact w3
  · refine ⟨e2, ad2, sz2, ?_, trivial⟩
    dsimp only
    rw [if_pos rfl, if_pos rfl]
    have hk7 : G2.1 (x + 7) = _ := k2
    refine tro_cg k6 (fun a ha => ?_) (by rw [k9]; exact hs_ne (by omega)) (Nat.le_refl _) rfl
    have ne7 : a ≠ x + 7 := fun w => by
      rw [w, z 7 (by omega) (by omega) (by omega)] at ha
      omega
    refine ⟨hs_ne ne7, ?_⟩
    rcases ha with w | w
    · exact rog_t w
    · rw [rog_lo (x1 a (by omega))]; exact w
  · obtain ⟨w1, w2, w3⟩ := hT.2.2.2 f t hf2 ht2
    dsimp only
    rw [if_neg w2, if_neg w2]
    obtain ⟨e, ad, sz, t1, t2⟩ := (hfs f hf2).2 t ht2
    have hD : ∀ a, ro a = 10 + t → (ah_set G2 (x + 7) (.inl (3, 40, .inr (.inr (.inr (.inr (va_up (va_up lf rl.length (some G.2.1)) rl.length none))))))).1 a = G.1 a ∧ rog G.2.1 G2.2.1 sp ro a = 10 + t := fun a ha => by
      obtain ⟨v1, v2, v3⟩ := hco a (by omega) (by omega)
      exact ⟨by rw [hs_ne v2]; exact v3, by rw [rog_lo v1]; exact ha⟩
    exact ⟨e, ad, sz, tro_cg t1 hD (by rw [hs_ne (by omega)]; exact he) (by show G.2.1 ≤ G2.2.1; omega) k9, cnt_cg t1 hD t2⟩
  · rw [hs_ne (by omega)]
    exact k1 a h1 (by omega) (by omega) h4
  · by_cases c : a < G.2.1
    · show a < G2.2.1
      omega
    · exact (rog_hi x1 k8 (by omega)).2 ha
  · have s1 := sum_upd (nn := nn) (t := sp) (n2 := n2) T hT.1 hT.2.1
    have s2 := sum_upd (nn := cc) (t := sp) (n2 := cap2) T hT.1 hT.2.1
    refine ⟨?_, ?_⟩
    · show G2.2.1 + _ + _ ≤ _
      omega
    · show G2.2.2.1 + _ + _ + _ ≤ _
      omega
/-- a tree that is given to a function -/
theorem new_cnt {G2 : ah_H} {ro2 : Nat → Nat} {e2 n2 cap2 : Nat} {ad2 : Nat → Option Nat} {L : List nd} {f : Nat} (hA : arl A ns ar) (hg : rgo ns A rl) (hf : f < ns) (hr : rof rl f ≠ 0) (hL : ltr A rl ns f = some L) (ht : tro (fun a => ro2 a = 10 + sp) G2 sp e2 n2 cap2 ad2 L.length) (htn : tnn G2 ad2 A rl ns 120 (bgn A f) (rof rl f) 0 (-1) 0 L) : cnt G2 ro2 A ns rl f sp ad2 L.length := by
  have hns := hA.1
  have h99 : A 99 = 0 := hA.2.2 99 (by omega)
  have hA3 : ∀ z, A z ≤ 3 := fun z => by
    by_cases c : z < ns
    · exact (hA.2.1 z c).2
    · rw [hA.2.2 z (by omega)]; omega
  have hw := bgn_wfp h99 hns hg hf hr
  have hpos := tnn_pos htn
  have hlen : L.length ≤ 4800 := by
    have h1 := (lay_len h99 hns hg _ _ _ _ _ _ _ hw (tnn_lay _ _ _ _ _ _ _ htn)).1
    have h2 := (ph_bgn (A := A) (S := rof rl f) (show f ≠ 99 by omega) hg).1
    omega
  obtain ⟨a, fs, a1, a2, a3, a4, a5⟩ := ht.2.2.2.1 0 (by have := ht.2.2.1; omega)
  refine ⟨fun z => absurd z hr, fun _ => ⟨L, a, hL, rfl, hpos, a1, tnn_nod _ _ _ _ _ _ _ _ (fun j b h1 h2 h3 => ?_) htn a1, tnn_flat h99 hA3 hns hg _ _ _ _ _ _ _ hw (fun m _ hm z => ?_) (by omega) htn⟩⟩
  · obtain ⟨b2, fs2, c1, c2, c3, c4, c5⟩ := ht.2.2.2.1 j (by have := ht.2.2.1; omega)
    rw [h3] at c1
    cases c1
    exact c5
  · exact absurd z (of_eq_false (cI_m1b m (by omega)))
theorem m_X5_add_yes (h : rsK G x A ns rl ro sp lf tf T nn cc) (hx : rsx G x ro fe) (hl : rl.length < 40) (ht : tpk G x tp) (hl0 : 0 < l) (hle : l ≤ tp.length) (hA : arl A ns ar) (hs : sym G (x + 1) ns ar fn) (hf : tp.getD 0 0 < ns) (hg0 : rgo ns A rl) (hg : rgo ns A (rl ++ [(tp, l)])) {L : List nd} (hn : ltr A (rl ++ [(tp, l)]) ns (tp.getD 0 0) = some L) : ∃ G2 ro2 sp2 lf2 tf2 T2 nn2 cc2, (∀ Q, ae_wm (d + 10) mX5_add [.ref (x + 6), .ref (x + 4), .int (nI l)] G Q = Q (some (.int (nI rl.length))) G2) ∧ rsK G2 x A ns (rl ++ [(tp, l)]) ro2 sp2 lf2 tf2 T2 nn2 cc2 ∧ rfr G G2 x ro ro2 ∧ acc G T nn cc G2 T2 nn2 cc2 := by
  have hns := hA.1
  have h99 : A 99 = 0 := hA.2.2 99 (by omega)
  have b := m_X5_add_b (d := d) h hx hl ht hl0 hle hA hs hf hg
  rw [hn] at b
  obtain ⟨G2, e2, n2, cap2, ad2, b1, ⟨k1, ⟨k2, k3⟩, ⟨k4, k5⟩, k6, k7, k8, k9⟩, ktn⟩ := b
  have hrn := rof_new (rl := rl) (tp := tp) (l := l) hl
  obtain ⟨⟨c6, c7, c8, c11, c12, c14⟩, hru, hT, hsp, hfs, hTn⟩ := h
  obtain ⟨x1, x2, x3, x4, x5, x6⟩ := hx
  have z : ∀ k, k ≤ 22 → k ≠ 9 → k ≠ 10 → ro (x + k) = 0 := fun k h1 h2 h3 => x2 _ (by omega) (by omega) (by omega) (by omega)
  have g6 : G2.1 (x + 6) = _ := (k1 (x + 6) (by omega) (by rw [z 6 (by omega) (by omega) (by omega)]; omega) (by omega) (by omega)).trans c6
  have g8 : G2.1 (x + 8) = _ := (k1 (x + 8) (by omega) (by rw [z 8 (by omega) (by omega) (by omega)]; omega) (by omega) (by omega)).trans c8
  have g11 : G2.1 (x + 11) = _ := (k1 (x + 11) (by omega) (by rw [z 11 (by omega) (by omega) (by omega)]; omega) (by omega) (by omega)).trans c11
  have hco : ∀ a, 2 ≤ ro a → ro a ≠ 10 + sp → a < G.2.1 ∧ (a < x + 6 ∨ x + 8 < a) ∧ G2.1 a = G.1 a := fun a h1 h2 => by
    have h3 := x1 a (by omega)
    have q6 := z 6 (by omega) (by omega) (by omega)
    have q7 := z 7 (by omega) (by omega) (by omega)
    have q8 := z 8 (by omega) (by omega) (by omega)
    have q12 := z 12 (by omega) (by omega) (by omega)
    have q13 := z 13 (by omega) (by omega) (by omega)
    have q14 := z 14 (by omega) (by omega) (by omega)
    have n7 : a < x + 6 ∨ x + 8 < a := by
      by_cases c : a < x + 6 ∨ x + 8 < a
      · exact c
      · exfalso
        rcases (show a = x + 6 ∨ a = x + 7 ∨ a = x + 8 by omega) with w | w | w <;> (rw [w] at h1; omega)
    refine ⟨h3, n7, k1 a h3 h2 (by omega) (fun w => ?_)⟩
    rcases (show a = x + 12 ∨ a = x + 13 ∨ a = x + 14 by omega) with w | w | w <;> (rw [w] at h1; omega)
  have he : G2.1 G.2.2.2.1 = G.1 G.2.2.2.1 := k1 _ (by omega) (by rw [x5]; omega) (by omega) (by omega)
  have k6' := k6
  obtain ⟨t8, -⟩ := k6'
  have hspN : sp < G.2.1 := by
    obtain ⟨e0, ad0, sz0, t0, -⟩ := hsp
    have := t0.2.2.2.2.2.2.2.1
    omega
  -- the last steps, whatever becomes the spare tree
  have rest : ∀ (G3 : ah_H) (ro2 : Nat → Nat) (sp2 : Nat) (T2 : List Nat) (nn2 cc2 : Nat → Nat), (∀ a, a < G2.2.1 → a ≠ x + 6 → a ≠ x + 8 → G3.1 a = G2.1 a) → G3.1 (x + 6) = some (.inr (5, [.ref (x + 7), .ref (x + 8), .ref (x + 11), .ref sp2, .int (nI (rl.length + 1))])) → G3.1 (x + 8) = some (.inl (4, 24, .inr (.inr (.inr (.inr (va_up tf (tp.getD 0 0) (some sp))))))) → (∀ a, a < G2.2.1 → ro2 a = rog G.2.1 G2.2.1 sp ro a) → G2.2.1 ≤ G3.2.1 → G3.2.2.2 = G2.2.2.2 → (T2.Nodup ∧ sp2 ∈ T2 ∧ T2.length = 1 + cnT (va_up tf (tp.getD 0 0) (some sp)) ∧ sp ∈ T2 ∧ ∀ t, t ∈ T → t ∈ T2) → sp2 ≠ sp → (∀ f, f < 24 → f ≠ tp.getD 0 0 → tf f ≠ some sp2) → trc G3 ro2 sp2 (nn2 sp2) (cc2 sp2) (fun _ _ => True) → nn2 sp = n2 → cc2 sp = cap2 → (∀ t, t ∈ T → t ≠ sp → nn2 t = nn t ∧ cc2 t = cc t) → (∀ t, t ∈ T2 → t < G3.2.1) → rsK G3 x A ns (rl ++ [(tp, l)]) ro2 sp2 (va_up lf rl.length (some G.2.1)) (va_up tf (tp.getD 0 0) (some sp)) T2 nn2 cc2 := by
    intro G3 ro2 sp2 T2 nn2 cc2 r1 r6 r8 rr rn r22 rT rs rs2 rsp rn1 rc1 rnn rlt
    have hlow : ∀ a, a < G.2.1 → ro2 a = ro a := fun a ha => by rw [rr a (by omega), rog_lo ha]
    have rlen : (rl ++ [(tp, l)]).length = rl.length + 1 := by simp
    refine ⟨⟨by rw [rlen]; exact r6, by rw [r1 _ (by omega) (by omega) (by omega)]; exact k2, r8, by unfold tmk; rw [r1 _ (by omega) (by omega) (by omega)]; exact g11, ?_, ?_⟩, fun r hr => ?_, ⟨rT.1, rT.2.1, rT.2.2.1, fun f t hf2 htf => ?_⟩, rsp, fun f hf2 => ⟨fun hno => ?_, fun t htf => ?_⟩, rlt⟩
    · obtain ⟨lp, g, ⟨p1, p2⟩, p3⟩ := k4
      exact ⟨lp, g, ⟨by rw [r1 _ (by omega) (by omega) (by omega)]; exact p1, by rw [r1 _ (by omega) (by omega) (by omega)]; exact p2⟩, p3⟩
    · obtain ⟨f1, k5⟩ := k5
      exact ⟨f1, by rw [r1 _ (by omega) (by omega) (by omega)]; exact k5⟩
    · by_cases c : r < rl.length
      · obtain ⟨a, a1, a2⟩ := hru r c
        refine ⟨a, ?_, ?_⟩
        · simp only [va_up, if_neg (show r ≠ rl.length by omega)]
          exact a1
        · unfold lft
          rw [rat_app1 c]
          refine rul_ro (fun b hb => by rw [hlow b (x1 b (by omega))]; exact hb) (rul_cg (fun b hb => ?_) a2)
          have hb : ro b = 2 := hb
          obtain ⟨w1, w2, w3⟩ := hco b (by omega) (by omega)
          rw [r1 b (by omega) (by omega) (by omega)]; exact w3
      · have e1 : r = rl.length := by omega
        subst e1
        refine ⟨G.2.1, by simp [va_up], ?_⟩
        unfold lft
        rw [rat_app2]
        refine rul_ro (D := fun a => G.2.1 ≤ a ∧ a < G.2.1 + 5) (fun b hb => ?_) (rul_cg (fun b hb => r1 b (by omega) (by omega) (by omega)) k3)
        rw [rr b (by omega)]; exact rog_2 hb
    · by_cases c : f = tp.getD 0 0
      · have e1 : t = sp := by rw [c] at htf; simpa [va_up] using htf.symm
        refine ⟨by rw [e1]; exact rT.2.2.2.1, by rw [e1]; exact Ne.symm rs, fun f2 hf3 h3 => ?_⟩
        by_cases c2 : f2 = tp.getD 0 0
        · rw [c2, c]
        · simp only [va_up, if_neg c2] at h3
          exact absurd e1 (hT.2.2.2 f2 t hf3 h3).2.1
      · simp only [va_up, if_neg c] at htf
        obtain ⟨w1, w2, w3⟩ := hT.2.2.2 f t hf2 htf
        refine ⟨rT.2.2.2.2 t w1, fun e => rs2 f hf2 c (by rw [← e]; exact htf), fun f2 hf3 h3 => ?_⟩
        by_cases c2 : f2 = tp.getD 0 0
        · rw [c2] at h3
          have : t = sp := by simpa [va_up] using h3.symm
          exact absurd this w2
        · simp only [va_up, if_neg c2] at h3
          exact w3 f2 hf3 h3
    · have c : f ≠ tp.getD 0 0 := fun e => by rw [e] at hno; simp [va_up] at hno
      simp only [va_up, if_neg c] at hno
      rw [rof_app hl (fun e => c e.symm)]
      exact (hfs f hf2).1 hno
    · by_cases c : f = tp.getD 0 0
      · subst c
        have e1 : t = sp := by simpa [va_up] using htf.symm
        subst e1
        rw [rn1, rc1]
        have hD : ∀ a, ((G.2.1 + 5 ≤ a ∧ a < G2.2.1) ∨ ro a = 10 + t) → G3.1 a = G2.1 a ∧ ro2 a = 10 + t := fun a ha => by
          rcases ha with w | w
          · exact ⟨r1 a (by omega) (by omega) (by omega), by rw [rr a (by omega)]; exact rog_t w⟩
          · have h3 := x1 a (by omega)
            have q6 := z 6 (by omega) (by omega) (by omega)
            have q8 := z 8 (by omega) (by omega) (by omega)
            exact ⟨r1 a (by omega) (fun e => by rw [e] at w; omega) (fun e => by rw [e] at w; omega), by rw [hlow a h3]; exact w⟩
        have k6c := tro_cg (D2 := fun a => ro2 a = 10 + t) (G2 := G3) k6 hD (by rw [k9]; exact r1 _ (by omega) (by omega) (by omega)) rn r22
        refine ⟨e2, ad2, L.length, k6c, new_cnt hA hg hf hrn hn k6c ?_⟩
        refine tnn_cg _ _ _ _ _ _ _ (fun i j a q1 q2 q3 q4 q5 q6 => ?_) ktn (fun j q1 q2 a ha => ⟨ha, fun k _ => ?_⟩)
        · have := k6.2.2.1
          exact k6.2.2.2.2.1 i j a (by omega) (by omega) q5 q6
        · obtain ⟨b2, fs2, w1, w2, w3, w4, w5⟩ := k6.2.2.2.1 j (by have := k6.2.2.1; omega)
          rw [ha] at w1
          cases w1
          exact nfl_cg (hD a w5).1
      · simp only [va_up, if_neg c] at htf
        obtain ⟨w1, w2, w3⟩ := hT.2.2.2 f t hf2 htf
        obtain ⟨v1, v2⟩ := rnn t w1 w2
        rw [v1, v2]
        obtain ⟨e, ad, sz, t1, t2⟩ := (hfs f hf2).2 t htf
        have hD : ∀ a, ro a = 10 + t → G3.1 a = G.1 a ∧ ro2 a = 10 + t := fun a ha => by
          obtain ⟨u1, u2, u3⟩ := hco a (by omega) (by omega)
          exact ⟨by rw [r1 a (by omega) (by omega) (by omega)]; exact u3, by rw [hlow a u1]; exact ha⟩
        exact ⟨e, ad, sz, tro_cg t1 hD (by rw [r1 _ (by omega) (by omega) (by omega)]; exact he) (by omega) (r22.trans k9), cnt_app h99 hns hl hg0 hf2 (fun e => c e.symm) (cnt_cg t1 hD t2)⟩
  have g8' : G2.1 (x + 8) = some (.inl (4, 24, .inr (.inr (.inr (.inr tf))))) := g8
  have s1 := sum_upd (nn := nn) (t := sp) (n2 := n2) T hT.1 hT.2.1
  have s2 := sum_upd (nn := cc) (t := sp) (n2 := cap2) T hT.1 hT.2.1
  cases hold : tf (tp.getD 0 0) with
  | some u =>
    obtain ⟨w1, w2, w3⟩ := hT.2.2.2 _ u (by omega) hold
    obtain ⟨eu, adu, szu, tu1, -⟩ := (hfs _ (by omega)).2 u hold
    have hDu : ∀ a, ro a = 10 + u → a < G.2.1 ∧ (a < x + 6 ∨ x + 8 < a) ∧ G2.1 a = G.1 a := fun a ha => hco a (by omega) (by omega)
    have hG3 : ∀ a, a ≠ x + 6 → a ≠ x + 8 → (ah_set (ah_set G2 (x + 8) (.inl (4, 24, .inr (.inr (.inr (.inr (va_up tf (tp.getD 0 0) (some sp)))))))) (x + 6) (.inr (5, [.ref (x + 7), .ref (x + 8), .ref (x + 11), .ref u, .int (nI (rl.length + 1))]))).1 a = G2.1 a := fun a h1 h2 => by rw [hs_ne h1, hs_ne h2]
    refine ⟨ah_set (ah_set G2 (x + 8) (.inl (4, 24, .inr (.inr (.inr (.inr (va_up tf (tp.getD 0 0) (some sp)))))))) (x + 6) (.inr (5, [.ref (x + 7), .ref (x + 8), .ref (x + 11), .ref u, .int (nI (rl.length + 1))])), rog G.2.1 G2.2.1 sp ro, u, _, _, T, fun a => if a = sp then n2 else nn a, fun a => if a = sp then cap2 else cc a, fun Q => ?_, rest _ _ _ _ _ _ (fun a _ h1 h2 => hG3 a h1 h2) (hs_eq rfl) (by rw [hs_ne (by omega)]; exact hs_eq rfl) (fun _ _ => rfl) (Nat.le_refl _) rfl ⟨hT.1, w1, by rw [cnT_same hold]; exact hT.2.2.1, hT.2.1, fun t ht => ht⟩ w2 (fun f hf2 hne e => hne (w3 f hf2 e)) ?_ (if_pos rfl) (if_pos rfl) (fun t _ ht2 => ⟨if_neg ht2, if_neg ht2⟩) (fun t ht2 => by have := hTn t ht2; show t < G2.2.1; omega), ⟨fun a h1 h2 h3 h4 => ?_, fun a ha => rog_lo ha, fun a ha => (rog_hi x1 k8 ha).1, fun a ha => ?_, by show G.2.1 ≤ G2.2.1; omega, k9⟩, ?_, ?_⟩
    · rw [b1 Q]
      have o1 : ∀ K, ae_gw G2 (x + 6) 5 1 K = K (.ref (x + 8)) := fun K => by unfold ae_gw; rw [g6]; rfl
      have o3 : ∀ K, ae_gw G2 (x + 6) 5 3 K = K (.ref sp) := fun K => by unfold ae_gw; rw [g6]; rfl
      have oz8 : ∀ K, ae_zw G2 (x + 8) K = K 4 (24, .inr (.inr (.inr (.inr tf)))) := fun K => zw_of g8'
      have g109 := fun (l0 l1 l2 l3 l4 : Option Value) (Q : Option Value → ah_H → Prop) => s_X5_add_109 (d := d + 10) (Q := Q) (l0 := l0) (l1 := l1) (l2 := l2) (l3 := l3) (l4 := l4) (st := []) (j := nI (tp.getD 0 0)) g8' t8 (by decide) rfl (cI_ix (by omega))
      rw [cI_cl (show tp.getD 0 0 < 2147483648 by omega)] at g109
      have hcl : (nI (tp.getD 0 0)).toNatClampNeg = tp.getD 0 0 := cI_cl (by omega)
      have hix : ¬ (nI (tp.getD 0 0) < nI 0 ∨ 24 ≤ (nI (tp.getD 0 0)).toNatClampNeg) := cI_ix (by omega)
      generalize tp.getD 0 0 = f at *
      generalize hZ : ah_set G2 (x + 8) (.inl (4, 24, .inr (.inr (.inr (.inr (va_up tf f (some sp))))))) = Z at g109
      have z6 := (show Z.1 (x + 6) = G2.1 (x + 6) by rw [← hZ]; exact hs_ne (by omega)).trans g6
      have op3 : ∀ v K, ae_pw Z (x + 6) 5 3 v K = K (ah_set Z (x + 6) (.inr (5, [.ref (x + 7), .ref (x + 8), .ref (x + 11), v, .int (nI rl.length)]))) := fun v K => by unfold ae_pw; rw [z6]; rfl
      have oY4 : ∀ v K, ae_gw (ah_set Z (x + 6) (.inr (5, [.ref (x + 7), .ref (x + 8), .ref (x + 11), v, .int (nI rl.length)]))) (x + 6) 5 4 K = K (.int (nI rl.length)) := fun v K => by unfold ae_gw; rw [hs_eq rfl]; rfl
      have op4 : ∀ v w K, ae_pw (ah_set Z (x + 6) (.inr (5, [.ref (x + 7), .ref (x + 8), .ref (x + 11), v, .int (nI rl.length)]))) (x + 6) 5 4 w K = K (ah_set Z (x + 6) (.inr (5, [.ref (x + 7), .ref (x + 8), .ref (x + 11), v, w]))) := fun v w K => by
        unfold ae_pw
        rw [hs_eq rfl]
        exact congrArg K (hs_hs _ _ _ _)
      have oX4 : ∀ v w K, ae_gw (ah_set Z (x + 6) (.inr (5, [.ref (x + 7), .ref (x + 8), .ref (x + 11), v, w]))) (x + 6) 5 4 K = K w := fun v w K => by unfold ae_gw; rw [hs_eq rfl]; rfl
      have vu : va_rf (some u) = .ref u := rfl
      have e11 : rl.length + 1 - 1 = rl.length := by omega
      simp (disch := first | exact ae_isR_ref _ | exact ae_isR_null | exact ae_isR_rf _ | exact ae_cat_ref _ | exact ae_cat_int _ | exact ae_cat_null | exact ae_cat_rf _ | exact ae_nz0 | exact ae_nz1 | exact ae_fz0 | exact ae_fz1 | exact cI_na (by omega) | exact cI_ix (by omega) | exact cI_nn (by omega) | exact cI_nz (by omega) | exact cI_cp (by omega) | assumption | omega) only [s_X5_add_92, s_X5_add_93, s_X5_add_96, s_X5_add_97, s_X5_add_98, s_X5_add_100, s_X5_add_101, s_X5_add_104, s_X5_add_105, s_X5_add_106, g109, s_X5_add_110, s_X5_add_111, s_X5_add_113, s_X5_add_113_N, s_X5_add_116, s_X5_add_119, s_X5_add_120, s_X5_add_123, s_X5_add_126, s_X5_add_128, s_X5_add_131, s_X5_add_132, s_X5_add_133, s_X5_add_136, s_X5_add_137, s_X5_add_138, s_X5_add_141, s_X5_add_142, s_X5_add_145, s_X5_add_146, s_X5_add_147, og_0, og_1, og_2, og_3, og_4, og_5, og_6, og_7, og_8, og_9, og_10, og_11, og_12, op_6, op_8, op_9, op_10, op_11, op_12, dg_0, dg_1, dg_2, dg_3, dp_1, dp_2, dp_3, ng_b, ng_d, mz_m, ms_m, ov_2, nset_d, nset_b, uI_1, uI_2, uR_1, uR_21, uR_22, va_rf, Bool.false_eq_true, ae_Ki, ae_Kb, ae_Kj, ae_Ka, ae_Si, ae_Sb, ae_Sj, ae_Sn, List.getElem?_cons_succ, List.getElem?_cons_zero, ↓reduceIte, if_true, if_false, nI_ofNat, true_or, or_true, false_or, or_false, true_and, and_true, false_and, and_false, or_self, and_self, not_true_eq_false, not_false_eq_true, eq_self, List.length_cons, List.length_nil, Nat.reduceAdd, Nat.reduceLT, Nat.reduceSub, List.set_cons_succ, List.set_cons_zero, Option.toList, List.nil_append, List.cons_append, cI_ltT, cI_ltF, cI_leT, cI_leF, cI_eqT, cI_eqF, cI_cl, cN_leT, cN_leF, cN_ltT, cN_ltF, cN_eqT, cN_eqF, cI_add, cI_sub, cI_m1a, cI_m1b, cI_m1c, cI_m1d, cI_m1e, cI_m1f, o1, o3, oz8, hcl, hix, hold, vu, op3, oY4, op4, oX4, e11]
    · refine ⟨eu, adu, szu, ?_, trivial⟩
      rw [if_neg w2, if_neg w2]
      exact tro_cg tu1 (fun a ha => ⟨by rw [hG3 a (by have := hDu a ha; omega) (by have := hDu a ha; omega)]; exact (hDu a ha).2.2, by rw [rog_lo (hDu a ha).1]; exact ha⟩) (by rw [hG3 _ (by omega) (by omega)]; exact he) (by show G.2.1 ≤ G2.2.1; omega) k9
    · rw [hG3 a (by omega) (by omega)]
      exact k1 a h1 (by omega) (by omega) h4
    · by_cases c : a < G.2.1
      · show a < G2.2.1
        omega
      · exact (rog_hi x1 k8 (by omega)).2 ha
    · show G2.2.1 + _ + _ ≤ _
      omega
    · show G2.2.2.1 + _ + _ + _ ≤ _
      omega
  | none =>
    have hN : ∀ t, t ∈ T → t ≠ G2.2.1 := fun t ht => by have := hTn t ht; omega
    have hNT : G2.2.1 ∉ T := fun w => hN _ w rfl
    generalize hZ : ah_set G2 (x + 8) (.inl (4, 24, .inr (.inr (.inr (.inr (va_up tf (tp.getD 0 0) (some sp))))))) = Z
    have z2 : Z.2 = G2.2 := by rw [← hZ]; rfl
    have zb : ∀ a, a ≠ x + 8 → Z.1 a = G2.1 a := fun a ha => by rw [← hZ]; exact hs_ne ha
    have z8 : Z.1 (x + 8) = some (.inl (4, 24, .inr (.inr (.inr (.inr (va_up tf (tp.getD 0 0) (some sp))))))) := by rw [← hZ]; exact hs_eq rfl
    have n1 : (ah_new Z (.inr (8, [.null, .int (nI 0)])) 2).1 G2.2.1 = some (.inr (8, [.null, .int (nI 0)])) := hn_eq (by rw [z2])
    have n2' : ∀ a, a < G2.2.1 → (ah_new Z (.inr (8, [.null, .int (nI 0)])) 2).1 a = Z.1 a := fun a ha => hn_ne (by rw [z2]; omega)
    have n3 : (ah_new Z (.inr (8, [.null, .int (nI 0)])) 2).2 = (G2.2.1 + 1, G2.2.2.1 + 2, G2.2.2.2) := by
      show (Z.2.1 + 1, Z.2.2.1 + 2, Z.2.2.2) = _
      rw [z2]
    have n4 : (ah_new Z (.inr (8, [.null, .int (nI 0)])) 2).2.2.2.1 = G.2.2.2.1 := by rw [n3]; show G2.2.2.2.1 = _; rw [k9]
    obtain ⟨H2, i1, i2, i3, i4, i5⟩ := m_X8_init (d := d + 5) (t := G2.2.1) (fe := fe) n1 (by rw [n3]) (by rw [n4, n2' _ (by omega), zb _ (by omega), he]; exact x4) (by rw [n4]; omega)
    rw [n3] at i5
    rw [n4] at i3
    have hb2 : ∀ a, a < G2.2.1 → a ≠ x + 8 → H2.1 a = G2.1 a := fun a h1 h2 => by rw [i4 a h1, n2' a h1, zb a h2]
    have h6 : H2.1 (x + 6) = _ := (hb2 _ (by omega) (by omega)).trans g6
    have h8 := (i4 (x + 8) (by omega)).trans ((n2' _ (by omega)).trans z8)
    have hG3 : ∀ a, a < G2.2.1 → a ≠ x + 6 → a ≠ x + 8 → (ah_set H2 (x + 6) (.inr (5, [.ref (x + 7), .ref (x + 8), .ref (x + 11), .ref G2.2.1, .int (nI (rl.length + 1))]))).1 a = G2.1 a := fun a h0 h1 h2 => by rw [hs_ne h1, hb2 a h0 h2]
    have hro : ∀ a, a < G2.2.1 → (fun a => if a = G2.2.1 ∨ a = G2.2.1 + 1 then 10 + G2.2.1 else rog G.2.1 G2.2.1 sp ro a) a = rog G.2.1 G2.2.1 sp ro a := fun a ha => if_neg (by omega)
    have hspn : sp ≠ G2.2.1 := by omega
    have i52 : H2.2.2.2 = G.2.2.2 := by rw [i5]; exact k9
    have i51 : H2.2.1 = G2.2.1 + 2 := by rw [i5]
    refine ⟨ah_set H2 (x + 6) (.inr (5, [.ref (x + 7), .ref (x + 8), .ref (x + 11), .ref G2.2.1, .int (nI (rl.length + 1))])), fun a => if a = G2.2.1 ∨ a = G2.2.1 + 1 then 10 + G2.2.1 else rog G.2.1 G2.2.1 sp ro a, G2.2.1, _, _, G2.2.1 :: T, fun a => if a = G2.2.1 then 0 else if a = sp then n2 else nn a, fun a => if a = G2.2.1 then 0 else if a = sp then cap2 else cc a, fun Q => ?_, rest _ _ _ _ _ _ hG3 (hs_eq rfl) (by rw [hs_ne (by omega)]; exact h8) hro (by show G2.2.1 ≤ H2.2.1; omega) (by show H2.2.2.2 = _; rw [i52, k9]) ⟨List.nodup_cons.mpr ⟨hNT, hT.1⟩, List.mem_cons_self .., by rw [List.length_cons, cnT_up (by omega) hold]; have := hT.2.2.1; omega, List.mem_cons_of_mem _ hT.2.1, fun t ht => List.mem_cons_of_mem _ ht⟩ (Ne.symm hspn) (fun f hf2 _ e => hN _ (hT.2.2.2 f _ hf2 e).1 rfl) ?_ (by rw [if_neg hspn, if_pos rfl]) (by rw [if_neg hspn, if_pos rfl]) (fun t ht ht2 => ⟨by rw [if_neg (hN t ht), if_neg ht2], by rw [if_neg (hN t ht), if_neg ht2]⟩) (fun t ht2 => ?_), ⟨fun a h1 h2 h3 h4 => ?_, fun a ha => ?_, fun a ha => ?_, fun a ha => ?_, by show G.2.1 ≤ H2.2.1; omega, i52⟩, ?_, ?_⟩
    · rw [b1 Q]
      have o1 : ∀ K, ae_gw G2 (x + 6) 5 1 K = K (.ref (x + 8)) := fun K => by unfold ae_gw; rw [g6]; rfl
      have o3 : ∀ K, ae_gw G2 (x + 6) 5 3 K = K (.ref sp) := fun K => by unfold ae_gw; rw [g6]; rfl
      have oz8 : ∀ K, ae_zw G2 (x + 8) K = K 4 (24, .inr (.inr (.inr (.inr tf)))) := fun K => zw_of g8'
      have g109 := fun (l0 l1 l2 l3 l4 : Option Value) (Q : Option Value → ah_H → Prop) => s_X5_add_109 (d := d + 10) (Q := Q) (l0 := l0) (l1 := l1) (l2 := l2) (l3 := l3) (l4 := l4) (st := []) (j := nI (tp.getD 0 0)) g8' t8 (by decide) rfl (cI_ix (by omega))
      rw [cI_cl (show tp.getD 0 0 < 2147483648 by omega), hZ] at g109
      have hcl : (nI (tp.getD 0 0)).toNatClampNeg = tp.getD 0 0 := cI_cl (by omega)
      have hix : ¬ (nI (tp.getD 0 0) < nI 0 ∨ 24 ≤ (nI (tp.getD 0 0)).toNatClampNeg) := cI_ix (by omega)
      generalize tp.getD 0 0 = f at *
      have z21 : Z.2.1 = G2.2.1 := by rw [z2]
      have op3 : ∀ v K, ae_pw H2 (x + 6) 5 3 v K = K (ah_set H2 (x + 6) (.inr (5, [.ref (x + 7), .ref (x + 8), .ref (x + 11), v, .int (nI rl.length)]))) := fun v K => by unfold ae_pw; rw [h6]; rfl
      have oY4 : ∀ v K, ae_gw (ah_set H2 (x + 6) (.inr (5, [.ref (x + 7), .ref (x + 8), .ref (x + 11), v, .int (nI rl.length)]))) (x + 6) 5 4 K = K (.int (nI rl.length)) := fun v K => by unfold ae_gw; rw [hs_eq rfl]; rfl
      have op4 : ∀ v w K, ae_pw (ah_set H2 (x + 6) (.inr (5, [.ref (x + 7), .ref (x + 8), .ref (x + 11), v, .int (nI rl.length)]))) (x + 6) 5 4 w K = K (ah_set H2 (x + 6) (.inr (5, [.ref (x + 7), .ref (x + 8), .ref (x + 11), v, w]))) := fun v w K => by
        unfold ae_pw
        rw [hs_eq rfl]
        exact congrArg K (hs_hs _ _ _ _)
      have oX4 : ∀ v w K, ae_gw (ah_set H2 (x + 6) (.inr (5, [.ref (x + 7), .ref (x + 8), .ref (x + 11), v, w]))) (x + 6) 5 4 K = K w := fun v w K => by unfold ae_gw; rw [hs_eq rfl]; rfl
      have vu : va_rf none = .null := rfl
      have e11 : rl.length + 1 - 1 = rl.length := by omega
      simp (disch := first | exact ae_isR_ref _ | exact ae_isR_null | exact ae_isR_rf _ | exact ae_cat_ref _ | exact ae_cat_int _ | exact ae_cat_null | exact ae_cat_rf _ | exact ae_nz0 | exact ae_nz1 | exact ae_fz0 | exact ae_fz1 | exact cI_na (by omega) | exact cI_ix (by omega) | exact cI_nn (by omega) | exact cI_nz (by omega) | exact cI_cp (by omega) | assumption | omega) only [s_X5_add_92, s_X5_add_93, s_X5_add_96, s_X5_add_97, s_X5_add_98, s_X5_add_100, s_X5_add_101, s_X5_add_104, s_X5_add_105, s_X5_add_106, g109, s_X5_add_110, s_X5_add_111, s_X5_add_113, s_X5_add_113_N, s_X5_add_116, s_X5_add_119, s_X5_add_120, s_X5_add_123, s_X5_add_126, s_X5_add_128, s_X5_add_131, s_X5_add_132, s_X5_add_133, s_X5_add_136, s_X5_add_137, s_X5_add_138, s_X5_add_141, s_X5_add_142, s_X5_add_145, s_X5_add_146, s_X5_add_147, og_0, og_1, og_2, og_3, og_4, og_5, og_6, og_7, og_8, og_9, og_10, og_11, og_12, op_6, op_8, op_9, op_10, op_11, op_12, dg_0, dg_1, dg_2, dg_3, dp_1, dp_2, dp_3, ng_b, ng_d, mz_m, ms_m, ov_2, nset_d, nset_b, uI_1, uI_2, uR_1, uR_21, uR_22, va_rf, Bool.false_eq_true, ae_Ki, ae_Kb, ae_Kj, ae_Ka, ae_Si, ae_Sb, ae_Sj, ae_Sn, List.getElem?_cons_succ, List.getElem?_cons_zero, ↓reduceIte, if_true, if_false, nI_ofNat, true_or, or_true, false_or, or_false, true_and, and_true, false_and, and_false, or_self, and_self, not_true_eq_false, not_false_eq_true, eq_self, List.length_cons, List.length_nil, Nat.reduceAdd, Nat.reduceLT, Nat.reduceSub, List.set_cons_succ, List.set_cons_zero, Option.toList, List.nil_append, List.cons_append, cI_ltT, cI_ltF, cI_leT, cI_leF, cI_eqT, cI_eqF, cI_cl, cN_leT, cN_leF, cN_ltT, cN_ltF, cN_eqT, cN_eqF, cI_add, cI_sub, cI_m1a, cI_m1b, cI_m1c, cI_m1d, cI_m1e, cI_m1f, o1, o3, oz8, hcl, hix, hold, vu, z21, i1, op3, oY4, op4, oX4, e11]
    · rw [if_pos rfl, if_pos rfl]
      refine ⟨G.2.2.2.1, fe, 0, ⟨?_, ?_, Nat.le_refl _, fun i hi => absurd hi (Nat.not_lt_zero _), fun i j a hi => absurd hi (Nat.not_lt_zero _), fun _ => ?_, ⟨by omega, by omega⟩, ⟨?_, ?_⟩, if_pos (Or.inl rfl), if_pos (Or.inr rfl), Or.inr rfl⟩, trivial⟩
      · show (ah_set H2 (x + 6) _).1 G2.2.1 = _
        rw [hs_ne (by omega)]; exact i2
      · obtain ⟨⟨mc, j1⟩, j2, j3⟩ := i3
        exact ⟨⟨mc, by rw [hs_ne (by omega)]; exact j1⟩, by rw [hs_ne (by omega)]; exact j2, j3⟩
      · show _ = H2.2.2.2.1
        rw [i52]
      · show _ < H2.2.1
        omega
      · show _ < H2.2.1
        omega
    · show t < H2.2.1
      rcases List.mem_cons.mp ht2 with w | w
      · omega
      · have := hTn t w
        omega
    · rw [hG3 a (by omega) (by omega) (by omega)]
      exact k1 a h1 (by omega) (by omega) h4
    · dsimp only
      rw [if_neg (by omega)]
      exact rog_lo ha
    · dsimp only
      by_cases c : a = G2.2.1 ∨ a = G2.2.1 + 1
      · rw [if_pos c]; omega
      · rw [if_neg c]; exact (rog_hi x1 k8 ha).1
    · show a < H2.2.1
      dsimp only at ha
      by_cases c : a = G2.2.1 ∨ a = G2.2.1 + 1
      · omega
      · rw [if_neg c] at ha
        by_cases c2 : a < G.2.1
        · omega
        · have := (rog_hi x1 k8 (by omega)).2 ha
          omega
    · show H2.2.1 + _ + _ ≤ _
      have s3 := sum_same (nn := fun a => if a = sp then n2 else nn a) (n2 := 0) T hNT
      rw [List.map_cons, List.sum_cons, s3, List.length_cons, if_pos rfl]
      omega
    · show H2.2.2.1 + _ + _ + _ ≤ _
      have s3 := sum_same (nn := fun a => if a = sp then n2 else nn a) (n2 := 0) T hNT
      have s4 := sum_same (nn := fun a => if a = sp then cap2 else cc a) (n2 := 0) T hNT
      have i53 : H2.2.2.1 = G2.2.2.1 + 2 + 3 := by rw [i5]
      rw [List.map_cons, List.map_cons, List.sum_cons, List.sum_cons, s3, s4, List.length_cons, if_pos rfl, if_pos rfl]
      omega
end RAE
