/-! NarrowSolver$Rules.add -/
theorem sum_upd {nn : Nat → Nat} {t n2 : Nat} : ∀ (T : List Nat), T.Nodup → t ∈ T → (T.map (fun a => if a = t then n2 else nn a)).sum + nn t = (T.map nn).sum + n2 := by
  intro T
  induction T with
  | nil => intro _ h; cases h
  | cons a T ih =>
    intro hnd hm
    obtain ⟨h1, h2⟩ := List.nodup_cons.mp hnd
    simp only [List.map_cons, List.sum_cons]
    by_cases c : a = t
    · subst c
      have e : T.map (fun b => if b = a then n2 else nn b) = T.map nn := List.map_congr_left (fun b hb => if_neg (fun z : b = a => h1 (z ▸ hb)))
      rw [e, if_pos rfl]
      omega
    · have hm2 : t ∈ T := (List.mem_cons.mp hm).resolve_left (Ne.symm c)
      have := ih h2 hm2
      rw [if_neg c]
      omega
theorem sum_same {nn : Nat → Nat} {t n2 : Nat} (T : List Nat) (h : t ∉ T) : (T.map (fun a => if a = t then n2 else nn a)).sum = (T.map nn).sum := by
  congr 1
  exact List.map_congr_left (fun b hb => if_neg (fun z : b = t => h (z ▸ hb)))
theorem cnT_up {tf : Nat → Option Nat} {f t : Nat} (hf : f < 24) (h : tf f = none) : cnT (va_up tf f (some t)) = cnT tf + 1 := by
  unfold cnT
  have key : ∀ n, f < n → ((List.range n).filter (fun g => (va_up tf f (some t) g).isSome)).length = ((List.range n).filter (fun g => (tf g).isSome)).length + 1 := by
    intro n
    induction n with
    | zero => intro h; omega
    | succ n ih =>
      intro hn
      rw [List.range_succ, List.filter_append, List.filter_append, List.length_append, List.length_append]
      by_cases c : f = n
      · subst c
        have e : (List.range f).filter (fun g => (va_up tf f (some t) g).isSome) = (List.range f).filter (fun g => (tf g).isSome) := List.filter_congr (fun g hg => by
          have : g < f := List.mem_range.mp hg
          simp [va_up, show g ≠ f by omega])
        rw [e]
        simp [va_up, h]
      · have := ih (by omega)
        rw [this]
        have e : (va_up tf f (some t) n).isSome = (tf n).isSome := by simp [va_up, show n ≠ f by omega]
        simp only [List.filter_cons, List.filter_nil, e]
        omega
  exact key 24 hf
theorem cnT_same {tf : Nat → Option Nat} {f t u : Nat} (h : tf f = some u) : cnT (va_up tf f (some t)) = cnT tf := by
  unfold cnT
  congr 1
  refine List.filter_congr (fun g _ => ?_)
  by_cases c : g = f
  · subst c; simp [va_up, h]
  · simp [va_up, c]
/-- what the rules' parts know of the whole -/
def rsx (G : ah_H) (x : Nat) (ro : Nat → Nat) (fe : Nat → Option Nat) : Prop := (∀ a, ro a ≠ 0 → a < G.2.1) ∧ (∀ a, x ≤ a → a ≤ x + 22 → a ≠ x + 9 → a ≠ x + 10 → ro a = 0) ∧ x + 28 < G.2.1 ∧ G.1 G.2.2.2.1 = some (.inl (98, 0, .inr (.inr (.inr (.inr fe))))) ∧ ro G.2.2.2.1 = 0 ∧ G.2.2.2.1 < x
/-- what may be changed when a rule is added -/
def rfr (G G2 : ah_H) (x : Nat) (ro ro2 : Nat → Nat) : Prop := (∀ a, a < G.2.1 → ro a < 2 → ¬ (x + 6 ≤ a ∧ a ≤ x + 8) → ¬ (x + 12 ≤ a ∧ a ≤ x + 14) → G2.1 a = G.1 a) ∧ (∀ a, a < G.2.1 → ro2 a = ro a) ∧ (∀ a, G.2.1 ≤ a → ro2 a ≠ 1) ∧ (∀ a, ro2 a ≠ 0 → a < G2.2.1) ∧ G.2.1 ≤ G2.2.1 ∧ G2.2.2.2 = G.2.2.2
/-- the account -/
def acc (G : ah_H) (T : List Nat) (nn cc : Nat → Nat) (G2 : ah_H) (T2 : List Nat) (nn2 cc2 : Nat → Nat) : Prop := G2.2.1 + 2 * (T.map nn).sum + 2 * T.length ≤ G.2.1 + 5 + 2 * (T2.map nn2).sum + 2 * T2.length ∧ G2.2.2.1 + 4 * (T.map cc).sum + 11 * (T.map nn).sum + 5 * T.length ≤ G.2.2.1 + 126 + 4 * (T2.map cc2).sum + 11 * (T2.map nn2).sum + 5 * T2.length
section RAD
variable {d : Nat} {Q : Option Value → ah_H → Prop} {G : ah_H} {x : Nat} {A : Nat → Nat} {ns : Nat} {ar fn : Nat → Int32} {rl : mR} {ro : Nat → Nat} {sp : Nat} {lf tf : Nat → Option Nat} {T : List Nat} {nn cc : Nat → Nat} {tp : List Nat} {l : Nat} {fe : Nat → Option Nat}
theorem m_X5_add_full (h : rsK G x A ns rl ro sp lf tf T nn cc) (hl : rl.length = 40) {v : Int32} : ae_wm d mX5_add [.ref (x + 6), .ref (x + 4), .int v] G Q = Q (some (.int (-18))) G := by
  obtain ⟨⟨c6, c7, -⟩, -⟩ := h
  rw [hl] at c6
  have o4 : ∀ K, ae_gw G (x + 6) 5 4 K = K (.int (nI 40)) := fun K => by unfold ae_gw; rw [c6]; rfl
  have o0 : ∀ K, ae_gw G (x + 6) 5 0 K = K (.ref (x + 7)) := fun K => by unfold ae_gw; rw [c6]; rfl
  have o7 : ∀ K, ae_zw G (x + 7) K = K 3 (40, .inr (.inr (.inr (.inr lf)))) := fun K => zw_of c7
  simp (disch := first | exact ae_isR_ref _ | exact ae_isR_null | exact ae_isR_rf _ | exact ae_cat_ref _ | exact ae_cat_int _ | exact ae_cat_null | exact ae_cat_rf _ | exact ae_nz0 | exact ae_nz1 | exact ae_fz0 | exact ae_fz1 | exact cI_na (by omega) | exact cI_ix (by omega) | exact cI_nn (by omega) | exact cI_nz (by omega) | exact cI_cp (by omega) | assumption | omega) only [s_X5_add_0, s_X5_add_1, s_X5_add_4, s_X5_add_7, s_X5_add_8, s_X5_add_11, s_X5_add_12, s_X5_add_15, s_X5_add_16, s_X5_add_19, s_X5_add_21, e_X5_add, og_0, og_1, og_2, og_3, og_4, og_5, og_6, og_7, og_8, og_9, og_10, og_11, og_12, op_6, op_8, op_9, op_10, op_11, op_12, dg_0, dg_1, dg_2, dg_3, dp_1, dp_2, dp_3, ng_b, ng_d, mz_m, ms_m, ov_2, nset_d, nset_b, uI_1, uI_2, uR_1, uR_21, uR_22, va_rf, Bool.false_eq_true, ae_Ki, ae_Kb, ae_Kj, ae_Ka, ae_Si, ae_Sb, ae_Sj, ae_Sn, List.getElem?_cons_succ, List.getElem?_cons_zero, ↓reduceIte, if_true, if_false, nI_ofNat, true_or, or_true, false_or, or_false, true_and, and_true, false_and, and_false, or_self, and_self, not_true_eq_false, not_false_eq_true, eq_self, List.length_cons, List.length_nil, Nat.reduceAdd, Nat.reduceLT, Nat.reduceSub, List.set_cons_succ, List.set_cons_zero, Option.toList, List.nil_append, List.cons_append, cI_ltT, cI_ltF, cI_leT, cI_leF, cI_eqT, cI_eqF, cI_cl, cN_leT, cN_leF, cN_ltT, cN_ltF, cN_eqT, cN_eqF, cI_add, cI_sub, cI_m1a, cI_m1b, cI_m1c, cI_m1d, cI_m1e, cI_m1f, o4, o0, o7]
/-- the rule is made and written down -/
theorem m_X5_add_a (h : rsK G x A ns rl ro sp lf tf T nn cc) (hx : rsx G x ro fe) (hl : rl.length < 40) (ht : tpk G x tp) (hl0 : 0 < l) (hle : l ≤ tp.length) (hf : tp.getD 0 0 < 24) : ∃ H, (∀ Q, ae_wm (d + 10) mX5_add [.ref (x + 6), .ref (x + 4), .int (nI l)] G Q = ae_wp (d + 10) mX5_add 59 [some (.ref (x + 6)), some (.ref (x + 4)), some (.int (nI l)), some (.int (nI (tp.getD 0 0))), none] [] H Q) ∧ H.1 (x + 7) = some (.inl (3, 40, .inr (.inr (.inr (.inr (va_up lf rl.length (some G.2.1))))))) ∧ rul (fun a => G.2.1 ≤ a ∧ a < G.2.1 + 5) H G.2.1 (tp.take l) (tp.drop l) ∧ (∀ b, b < G.2.1 → b ≠ x + 7 → H.1 b = G.1 b) ∧ H.2 = (G.2.1 + 5, G.2.2.1 + 6 + tp.length, G.2.2.2) := by
  obtain ⟨⟨c6, c7, c8, -⟩, -⟩ := h
  obtain ⟨g, t1, t2, t3, t4⟩ := ht
  obtain ⟨-, -, hx28, -, -, -⟩ := hx
  have gA := fun Q => m_X1_at (d := d + 9) (Q := Q) (i := 0) t1 (by omega) (by omega) (by omega)
  rw [if_pos ⟨by omega, by omega⟩, t2 0 (by omega)] at gA
  have n1 : (ah_new G (.inr (4, [.null, .null])) 2).1 G.2.1 = some (.inr (4, [.null, .null])) := hn_eq rfl
  have n2 : ∀ b, b < G.2.1 → (ah_new G (.inr (4, [.null, .null])) 2).1 b = G.1 b := fun b hb => hn_ne (by omega)
  obtain ⟨H2, r1, r2, ⟨g1, r3, r4⟩, ⟨g2, r5, r6⟩, r7, r8⟩ := m_X4_init (d := d + 7) (H := ah_new G (.inr (4, [.null, .null])) 2) (a := G.2.1) (o := x + 4) (l := l) (tp := tp) (g := g) n1 rfl ⟨by rw [n2 _ (by omega)]; exact t1.1, by rw [n2 _ (by omega)]; exact t1.2⟩ t2 t3 hle (by omega)
  have hb : ∀ b, b < G.2.1 → H2.1 b = G.1 b := fun b hb => by rw [r7 b hb, n2 b hb]
  have h7 : H2.1 (x + 7) = some (.inl (3, 40, .inr (.inr (.inr (.inr lf))))) := by rw [hb _ (by omega)]; exact c7
  refine ⟨ah_set H2 (x + 7) (.inl (3, 40, .inr (.inr (.inr (.inr (va_up lf rl.length (some G.2.1))))))), fun Q => ?_, hs_eq rfl, ⟨⟨Nat.le_refl _, by omega⟩, ⟨by omega, by omega⟩, ⟨by omega, by omega⟩, ⟨by omega, by omega⟩, ⟨by omega, by omega⟩, by rw [hs_ne (by omega)]; exact r2, ⟨g1, ?_, r4⟩, ⟨g2, ?_, r6⟩⟩, fun b h1 h2 => by rw [hs_ne h2, hb b h1], ?_⟩
  · have o4 : ∀ K, ae_gw G (x + 6) 5 4 K = K (.int (nI rl.length)) := fun K => by unfold ae_gw; rw [c6]; rfl
    have o0 : ∀ K, ae_gw G (x + 6) 5 0 K = K (.ref (x + 7)) := fun K => by unfold ae_gw; rw [c6]; rfl
    have o7 : ∀ K, ae_zw G (x + 7) K = K 3 (40, .inr (.inr (.inr (.inr lf)))) := fun K => zw_of c7
    have t11 := t1.1
    have g45 := fun (l0 l1 l2 l3 l4 : Option Value) (Q : Option Value → ah_H → Prop) => s_X5_add_45 (d := d + 10) (Q := Q) (l0 := l0) (l1 := l1) (l2 := l2) (l3 := l3) (l4 := l4) (st := []) (j := nI rl.length) h7 r2 (by decide) rfl (cI_ix (by omega))
    rw [cI_cl (show rl.length < 2147483648 by omega)] at g45
    generalize hZ : ah_set H2 (x + 7) (.inl (3, 40, .inr (.inr (.inr (.inr (va_up lf rl.length (some G.2.1))))))) = Z at g45
    have z6 := (show Z.1 (x + 6) = H2.1 (x + 6) by rw [← hZ]; exact hs_ne (by omega)).trans ((hb _ (by omega)).trans c6)
    have z8 := (show Z.1 (x + 8) = H2.1 (x + 8) by rw [← hZ]; exact hs_ne (by omega)).trans ((hb _ (by omega)).trans c8)
    have oz1 : ∀ K, ae_gw Z (x + 6) 5 1 K = K (.ref (x + 8)) := fun K => by unfold ae_gw; rw [z6]; rfl
    have oz8 : ∀ K, ae_zw Z (x + 8) K = K 4 (24, .inr (.inr (.inr (.inr tf)))) := fun K => zw_of z8
    simp (disch := first | exact ae_isR_ref _ | exact ae_isR_null | exact ae_isR_rf _ | exact ae_cat_ref _ | exact ae_cat_int _ | exact ae_cat_null | exact ae_cat_rf _ | exact ae_nz0 | exact ae_nz1 | exact ae_fz0 | exact ae_fz1 | exact cI_na (by omega) | exact cI_ix (by omega) | exact cI_nn (by omega) | exact cI_nz (by omega) | exact cI_cp (by omega) | assumption | omega) only [s_X5_add_0, s_X5_add_1, s_X5_add_4, s_X5_add_7, s_X5_add_8, s_X5_add_11, s_X5_add_12, s_X5_add_15, s_X5_add_16, e_X5_add, s_X5_add_22, s_X5_add_23, s_X5_add_24 t11, s_X5_add_27, s_X5_add_28, s_X5_add_29, s_X5_add_32, s_X5_add_33, s_X5_add_36, s_X5_add_39, s_X5_add_40, s_X5_add_41, s_X5_add_42, g45, s_X5_add_46, s_X5_add_47, s_X5_add_50, s_X5_add_51, s_X5_add_52, s_X5_add_55, s_X5_add_56, og_0, og_1, og_2, og_3, og_4, og_5, og_6, og_7, og_8, og_9, og_10, og_11, og_12, op_6, op_8, op_9, op_10, op_11, op_12, dg_0, dg_1, dg_2, dg_3, dp_1, dp_2, dp_3, ng_b, ng_d, mz_m, ms_m, ov_2, nset_d, nset_b, uI_1, uI_2, uR_1, uR_21, uR_22, va_rf, Bool.false_eq_true, ae_Ki, ae_Kb, ae_Kj, ae_Ka, ae_Si, ae_Sb, ae_Sj, ae_Sn, List.getElem?_cons_succ, List.getElem?_cons_zero, ↓reduceIte, if_true, if_false, nI_ofNat, true_or, or_true, false_or, or_false, true_and, and_true, false_and, and_false, or_self, and_self, not_true_eq_false, not_false_eq_true, eq_self, List.length_cons, List.length_nil, Nat.reduceAdd, Nat.reduceLT, Nat.reduceSub, List.set_cons_succ, List.set_cons_zero, Option.toList, List.nil_append, List.cons_append, cI_ltT, cI_ltF, cI_leT, cI_leF, cI_eqT, cI_eqF, cI_cl, cN_leT, cN_leF, cN_ltT, cN_ltF, cN_eqT, cN_eqF, cI_add, cI_sub, cI_m1a, cI_m1b, cI_m1c, cI_m1d, cI_m1e, cI_m1f, o4, o0, o7, gA, r1, oz1, oz8]
  · rw [show (tp.take l).length = l by rw [List.length_take]; omega]
    exact ⟨by rw [hs_ne (by omega)]; exact r3.1, by rw [hs_ne (by omega)]; exact r3.2⟩
  · rw [show (tp.drop l).length = tp.length - l from List.length_drop]
    exact ⟨by rw [hs_ne (by omega)]; exact r5.1, by rw [hs_ne (by omega)]; exact r5.2⟩
  · show H2.2 = _
    rw [r8]
    show (_, G.2.2.1 + 2 + 4 + tp.length, _) = _
    rw [show G.2.2.1 + 2 + 4 + tp.length = G.2.2.1 + 6 + tp.length by omega]
    rfl
/-- behind the maker -/
def mks (G G2 : ah_H) (x : Nat) (ro : Nat → Nat) (sp : Nat) (lf : Nat → Option Nat) (rl : mR) (tp : List Nat) (l n cap e2 n2 cap2 : Nat) (ad2 : Nat → Option Nat) (sz2 : Nat) : Prop := (∀ a, a < G.2.1 → ro a ≠ 10 + sp → a ≠ x + 7 → ¬ (x + 12 ≤ a ∧ a ≤ x + 14) → G2.1 a = G.1 a) ∧ (G2.1 (x + 7) = some (.inl (3, 40, .inr (.inr (.inr (.inr (va_up lf rl.length (some G.2.1))))))) ∧ rul (fun a => G.2.1 ≤ a ∧ a < G.2.1 + 5) G2 G.2.1 (tp.take l) (tp.drop l)) ∧ ((∃ l, pat G2 x l) ∧ ∃ f1, G2.1 (x + 14) = some (.inl (1, 120, .inl f1))) ∧ tro (fun a => (G.2.1 + 5 ≤ a ∧ a < G2.2.1) ∨ ro a = 10 + sp) G2 sp e2 n2 cap2 ad2 sz2 ∧ (G2.2.1 + 2 * n ≤ G.2.1 + 5 + 2 * n2 ∧ G2.2.2.1 + 4 * cap + 11 * n ≤ G.2.2.1 + 126 + 4 * cap2 + 11 * n2) ∧ G.2.1 + 5 ≤ G2.2.1 ∧ G2.2.2.2 = G.2.2.2
theorem rof_new {rl : mR} {tp : List Nat} {l : Nat} (h : rl.length < 40) : rof (rl ++ [(tp, l)]) (tp.getD 0 0) ≠ 0 := by
  apply nz_to (r := rl.length) (by omega)
  rw [mem_rof (by simp; omega) (by omega), rat_app2]
  simp
theorem m_X5_add_b (h : rsK G x A ns rl ro sp lf tf T nn cc) (hx : rsx G x ro fe) (hl : rl.length < 40) (ht : tpk G x tp) (hl0 : 0 < l) (hle : l ≤ tp.length) (hA : arl A ns ar) (hs : sym G (x + 1) ns ar fn) (hf : tp.getD 0 0 < ns) (hg : rgo ns A (rl ++ [(tp, l)])) : match ltr A (rl ++ [(tp, l)]) ns (tp.getD 0 0) with
    | none => ∃ G2 e2 n2 cap2 ad2 sz2, (∀ Q, ae_wm (d + 10) mX5_add [.ref (x + 6), .ref (x + 4), .int (nI l)] G Q = ae_wp (d + 10) mX5_add 79 [some (.ref (x + 6)), some (.ref (x + 4)), some (.int (nI l)), some (.int (nI (tp.getD 0 0))), none] [] G2 Q) ∧ mks G G2 x ro sp lf rl tp l (nn sp) (cc sp) e2 n2 cap2 ad2 sz2
    | some L => ∃ G2 e2 n2 cap2 ad2, (∀ Q, ae_wm (d + 10) mX5_add [.ref (x + 6), .ref (x + 4), .int (nI l)] G Q = ae_wp (d + 10) mX5_add 92 [some (.ref (x + 6)), some (.ref (x + 4)), some (.int (nI l)), some (.int (nI (tp.getD 0 0))), none] [] G2 Q) ∧ mks G G2 x ro sp lf rl tp l (nn sp) (cc sp) e2 n2 cap2 ad2 L.length ∧ tnn G2 ad2 A (rl ++ [(tp, l)]) ns 120 (bgn A (tp.getD 0 0)) (rof (rl ++ [(tp, l)]) (tp.getD 0 0)) 0 (-1) 0 L := by
  have hns := hA.1
  obtain ⟨H, a1, a2, a3, a4, a5⟩ := m_X5_add_a (d := d) h hx hl ht hl0 hle (by omega)
  obtain ⟨⟨c6, c7, c8, c11, ⟨lp, c12⟩, f1, c14⟩, hru, hT, ⟨e, ad, sz, hsp, -⟩, hfs, hTn⟩ := h
  have hx' := hx
  obtain ⟨x1, x2, x3, x4, x5, x6⟩ := hx'
  have h21 : H.2.1 = G.2.1 + 5 := by rw [a5]
  have h22 : H.2.2.2 = G.2.2.2 := by rw [a5]
  have htl : tp.length ≤ 120 := by obtain ⟨_, _, _, t3, _⟩ := ht; exact t3
  have hlo : ∀ b, b < G.2.1 → b ≠ x + 7 → H.1 b = G.1 b := a4
  have r7 : ro (x + 7) = 0 := x2 _ (by omega) (by omega) (by omega) (by omega)
  -- E: what is there, but the spare tree and the maker's own
  have hfix : ∀ k, k ≤ 11 → k ≠ 9 → k ≠ 10 → (x + k < G.2.1 + 5 ∧ ¬ (x + k < G.2.1 ∧ ro (x + k) = 10 + sp) ∧ x + k ≠ x + 12 ∧ x + k ≠ x + 13 ∧ x + k ≠ x + 14) := fun k h1 h2 h3 => ⟨by omega, fun z => by have := x2 (x + k) (by omega) (by omega) (by omega) (by omega); omega, by omega, by omega, by omega⟩
  have hmk : mkr (fun a => a < G.2.1 + 5 ∧ ¬ (a < G.2.1 ∧ ro a = 10 + sp) ∧ a ≠ x + 12 ∧ a ≠ x + 13 ∧ a ≠ x + 14) H x ns A ar fn (rl ++ [(tp, l)]) := by
    refine ⟨⟨hfix 1 (by omega) (by omega) (by omega), hfix 2 (by omega) (by omega) (by omega), hfix 3 (by omega) (by omega) (by omega), hfix 7 (by omega) (by omega) (by omega), hfix 11 (by omega) (by omega) (by omega), fun z => z.2.2.1 rfl, fun z => z.2.2.2.1 rfl, fun z => z.2.2.2.2 rfl⟩, hA, ⟨by rw [hlo _ (by omega) (by omega)]; exact hs.1, by rw [hlo _ (by omega) (by omega)]; exact hs.2.1, by rw [hlo _ (by omega) (by omega)]; exact hs.2.2⟩, by unfold tmk; rw [hlo _ (by omega) (by omega)]; exact c11, hg, _, a2, fun r hr => ?_⟩
    by_cases c : r < rl.length
    · obtain ⟨b, b1, b2⟩ := hru r c
      have hro : ∀ a, ro a = 2 → H.1 a = G.1 a := fun a ha => hlo a (x1 a (by omega)) (fun z => by rw [z, r7] at ha; omega)
      have b3 := rul_cg (G2 := H) (fun a ha => hro a ha) b2
      obtain ⟨e0, e1, e2, e3, e4, b4⟩ := b3
      have k : ∀ a, ro a = 2 → (a < G.2.1 + 5 ∧ ¬ (a < G.2.1 ∧ ro a = 10 + sp) ∧ a ≠ x + 12 ∧ a ≠ x + 13 ∧ a ≠ x + 14) := fun a ha => by
        have h1 := x1 a (by omega)
        have q12 := x2 (x + 12) (by omega) (by omega) (by omega) (by omega)
        have q13 := x2 (x + 13) (by omega) (by omega) (by omega) (by omega)
        have q14 := x2 (x + 14) (by omega) (by omega) (by omega) (by omega)
        exact ⟨by omega, fun z => by omega, fun z => by rw [z] at ha; omega, fun z => by rw [z] at ha; omega, fun z => by rw [z] at ha; omega⟩
      refine ⟨b, ?_, ?_⟩
      · show va_up lf rl.length (some G.2.1) r = some b
        simp only [va_up, if_neg (show r ≠ rl.length by omega)]
        exact b1
      · unfold lft
        rw [rat_app1 c]
        exact ⟨k _ e0, k _ e1, k _ e2, k _ e3, k _ e4, b4⟩
    · have e1 : r = rl.length := by simp at hr; omega
      subst e1
      refine ⟨G.2.1, by simp [va_up], ?_⟩
      unfold lft
      rw [rat_app2]
      obtain ⟨e0, e1, e2, e3, e4, b4⟩ := a3
      have k : ∀ a, (G.2.1 ≤ a ∧ a < G.2.1 + 5) → (a < G.2.1 + 5 ∧ ¬ (a < G.2.1 ∧ ro a = 10 + sp) ∧ a ≠ x + 12 ∧ a ≠ x + 13 ∧ a ≠ x + 14) := fun a ha => ⟨by omega, fun z => by omega, by omega, by omega, by omega⟩
      exact ⟨k _ e0, k _ e1, k _ e2, k _ e3, k _ e4, b4⟩
  have htr : trb (fun a => a < G.2.1 + 5 ∧ ¬ (a < G.2.1 ∧ ro a = 10 + sp) ∧ a ≠ x + 12 ∧ a ≠ x + 13 ∧ a ≠ x + 14) H sp e (nn sp) (cc sp) ad sz := by
    have t1 : tro (fun a => ro a = 10 + sp) H sp e (nn sp) (cc sp) ad sz := tro_cg hsp (fun a ha => ⟨hlo a (x1 a (by omega)) (fun z => by rw [z, r7] at ha; omega), ha⟩) (hlo _ (by omega) (by omega)) (by omega) h22
    exact tro_trb t1 (fun a ha => ⟨by omega, fun z => ha.2.1 ⟨x1 a (by omega), z⟩⟩)
  have hp : pat H x lp := by
    obtain ⟨g, ⟨p1, p2⟩, p3⟩ := c12
    exact ⟨g, ⟨by rw [hlo _ (by omega) (by omega)]; exact p1, by rw [hlo _ (by omega) (by omega)]; exact p2⟩, p3⟩
  have h14 : H.1 (x + 14) = some (.inl (1, 120, .inl f1)) := by rw [hlo _ (by omega) (by omega)]; exact c14
  have hA3 : ∀ z, A z ≤ 3 := fun z => by
    by_cases c : z < ns
    · exact (hA.2.1 z c).2
    · rw [hA.2.2 z (by omega)]; omega
  have h6 : H.1 (x + 6) = some (.inr (5, [.ref (x + 7), .ref (x + 8), .ref (x + 11), .ref sp, .int (nI ((rl ++ [(tp, l)]).length - 1))])) := by
    rw [hlo _ (by omega) (by omega), c6, show (rl ++ [(tp, l)]).length - 1 = rl.length by simp]
  have gr := fun Q => m_X5_rulesOf (d := d + 8) (Q := Q) (f := tp.getD 0 0) hns hg (by simp) h6 hmk.2.2.2.2.2 (by omega)
  have hr := rof_new (rl := rl) (tp := tp) (l := l) hl
  have mk := m_X9_make (d := d) (f0 := tp.getD 0 0) hmk hA3 ⟨f1, h14⟩ (by omega) hp htr hf hr
  have el : ltr A (rl ++ [(tp, l)]) ns (tp.getD 0 0) = lay A (rl ++ [(tp, l)]) ns 120 (bgn A (tp.getD 0 0)) (rof (rl ++ [(tp, l)]) (tp.getD 0 0)) 0 (-1) 0 := by unfold ltr; rw [if_neg hr]
  rw [el]
  have o2 : ∀ K, ae_gw H (x + 6) 5 2 K = K (.ref (x + 11)) := fun K => by unfold ae_gw; rw [h6]; rfl
  have o3 : ∀ K, ae_gw H (x + 6) 5 3 K = K (.ref sp) := fun K => by unfold ae_gw; rw [h6]; rfl
  have ht11 := hmk.2.2.2.1
  -- what the maker leaves
  have fin_mks : ∀ G2 e2 n2 cap2 ad2 sz2 l2, fin (fun a => a < G.2.1 + 5 ∧ ¬ (a < G.2.1 ∧ ro a = 10 + sp) ∧ a ≠ x + 12 ∧ a ≠ x + 13 ∧ a ≠ x + 14) x H G2 → pat G2 x l2 → trb (fun a => a < G.2.1 + 5 ∧ ¬ (a < G.2.1 ∧ ro a = 10 + sp) ∧ a ≠ x + 12 ∧ a ≠ x + 13 ∧ a ≠ x + 14) G2 sp e2 n2 cap2 ad2 sz2 → led H (nn sp) (cc sp) G2 n2 cap2 → mks G G2 x ro sp lf rl tp l (nn sp) (cc sp) e2 n2 cap2 ad2 sz2 := by
    intro G2 e2 n2 cap2 ad2 sz2 l2 q1 q2 q3 q4
    obtain ⟨l1, l2', l3, l4, l5⟩ := q4
    rw [a5] at l1 l2' l4
    dsimp only at l1 l2' l4
    refine ⟨fun a h1 h2 h3 h4 => ?_, ⟨?_, ?_⟩, ⟨⟨l2, q2⟩, q1.2.1⟩, trb_tro q3 (fun a c hc ha hnE hk => ?_), ⟨by omega, by omega⟩, by omega, l5.trans h22⟩
    · rw [q1.1 a ⟨by omega, fun z => h2 z.2, by omega, by omega, by omega⟩]
      exact hlo a h1 h3
    · rw [q1.1 _ (hfix 7 (by omega) (by omega) (by omega))]
      exact a2
    · refine rul_cg (fun a ha => q1.1 a ⟨by omega, fun z => by omega, by omega, by omega, by omega⟩) a3
    · by_cases c1 : a < G.2.1 + 5
      · by_cases c2 : a < G.2.1 ∧ ro a = 10 + sp
        · exact Or.inr c2.2
        · exfalso
          obtain ⟨g, ⟨p1, p2⟩, p3⟩ := q2
          have p2 : G2.1 (x + 13) = _ := p2
          obtain ⟨f2, p4⟩ := q1.2.1
          have h3 : a = x + 12 ∨ a = x + 13 ∨ a = x + 14 := by
            by_cases e1 : a = x + 12
            · exact Or.inl e1
            · by_cases e2 : a = x + 13
              · exact Or.inr (Or.inl e2)
              · by_cases e3 : a = x + 14
                · exact Or.inr (Or.inr e3)
                · exact absurd ⟨c1, c2, e1, e2, e3⟩ hnE
          rcases h3 with e1 | e1 | e1
          · rw [e1, p1] at hc
            cases hc
            rcases hk with ⟨_, z⟩ | ⟨_, z⟩ | ⟨_, z⟩ | ⟨_, z⟩ <;> cases z
          · rw [e1, p2] at hc
            cases hc
            rcases hk with ⟨_, z⟩ | ⟨_, z⟩ | ⟨_, z⟩ | ⟨_, z⟩ <;> cases z
          · rw [e1, p4] at hc
            cases hc
            rcases hk with ⟨_, z⟩ | ⟨_, z⟩ | ⟨_, z⟩ | ⟨_, z⟩ <;> cases z
      · exact Or.inl ⟨by omega, ha⟩
  cases hlay : lay A (rl ++ [(tp, l)]) ns 120 (bgn A (tp.getD 0 0)) (rof (rl ++ [(tp, l)]) (tp.getD 0 0)) 0 (-1) 0 with
  | none =>
    rw [hlay] at mk
    obtain ⟨G2, e2, n2, cap2, ad2, sz2, l2, m1, m2, m3, m4, m5⟩ := mk
    refine ⟨G2, e2, n2, cap2, ad2, sz2, fun Q => ?_, fin_mks _ _ _ _ _ _ _ m2 m3 m4 m5⟩
    rw [a1 Q]
    simp (disch := first | exact ae_isR_ref _ | exact ae_isR_null | exact ae_isR_rf _ | exact ae_cat_ref _ | exact ae_cat_int _ | exact ae_cat_null | exact ae_cat_rf _ | exact ae_nz0 | exact ae_nz1 | exact ae_fz0 | exact ae_fz1 | exact cI_na (by omega) | exact cI_ix (by omega) | exact cI_nn (by omega) | exact cI_nz (by omega) | exact cI_cp (by omega) | assumption | omega) only [s_X5_add_59, s_X5_add_60, s_X5_add_63, s_X5_add_64, s_X5_add_67, s_X5_add_68, s_X5_add_69, s_X5_add_70 h6, s_X5_add_73 ht11, s_X5_add_76, og_0, og_1, og_2, og_3, og_4, og_5, og_6, og_7, og_8, og_9, og_10, og_11, og_12, op_6, op_8, op_9, op_10, op_11, op_12, dg_0, dg_1, dg_2, dg_3, dp_1, dp_2, dp_3, ng_b, ng_d, mz_m, ms_m, ov_2, nset_d, nset_b, uI_1, uI_2, uR_1, uR_21, uR_22, va_rf, Bool.false_eq_true, ae_Ki, ae_Kb, ae_Kj, ae_Ka, ae_Si, ae_Sb, ae_Sj, ae_Sn, List.getElem?_cons_succ, List.getElem?_cons_zero, ↓reduceIte, if_true, if_false, nI_ofNat, true_or, or_true, false_or, or_false, true_and, and_true, false_and, and_false, or_self, and_self, not_true_eq_false, not_false_eq_true, eq_self, List.length_cons, List.length_nil, Nat.reduceAdd, Nat.reduceLT, Nat.reduceSub, List.set_cons_succ, List.set_cons_zero, Option.toList, List.nil_append, List.cons_append, cI_ltT, cI_ltF, cI_leT, cI_leF, cI_eqT, cI_eqF, cI_cl, cN_leT, cN_leF, cN_ltT, cN_ltF, cN_eqT, cN_eqF, cI_add, cI_sub, cI_m1a, cI_m1b, cI_m1c, cI_m1d, cI_m1e, cI_m1f, o2, o3, gr, m1]
  | some L =>
    rw [hlay] at mk
    obtain ⟨G2, e2, n2, cap2, ad2, l2, m1, m2, m3, m4, m5, m6⟩ := mk
    refine ⟨G2, e2, n2, cap2, ad2, fun Q => ?_, fin_mks _ _ _ _ _ _ _ m2 m3 m4 m6, m5⟩
    rw [a1 Q]
    simp (disch := first | exact ae_isR_ref _ | exact ae_isR_null | exact ae_isR_rf _ | exact ae_cat_ref _ | exact ae_cat_int _ | exact ae_cat_null | exact ae_cat_rf _ | exact ae_nz0 | exact ae_nz1 | exact ae_fz0 | exact ae_fz1 | exact cI_na (by omega) | exact cI_ix (by omega) | exact cI_nn (by omega) | exact cI_nz (by omega) | exact cI_cp (by omega) | assumption | omega) only [s_X5_add_59, s_X5_add_60, s_X5_add_63, s_X5_add_64, s_X5_add_67, s_X5_add_68, s_X5_add_69, s_X5_add_70 h6, s_X5_add_73 ht11, s_X5_add_76, og_0, og_1, og_2, og_3, og_4, og_5, og_6, og_7, og_8, og_9, og_10, og_11, og_12, op_6, op_8, op_9, op_10, op_11, op_12, dg_0, dg_1, dg_2, dg_3, dp_1, dp_2, dp_3, ng_b, ng_d, mz_m, ms_m, ov_2, nset_d, nset_b, uI_1, uI_2, uR_1, uR_21, uR_22, va_rf, Bool.false_eq_true, ae_Ki, ae_Kb, ae_Kj, ae_Ka, ae_Si, ae_Sb, ae_Sj, ae_Sn, List.getElem?_cons_succ, List.getElem?_cons_zero, ↓reduceIte, if_true, if_false, nI_ofNat, true_or, or_true, false_or, or_false, true_and, and_true, false_and, and_false, or_self, and_self, not_true_eq_false, not_false_eq_true, eq_self, List.length_cons, List.length_nil, Nat.reduceAdd, Nat.reduceLT, Nat.reduceSub, List.set_cons_succ, List.set_cons_zero, Option.toList, List.nil_append, List.cons_append, cI_ltT, cI_ltF, cI_leT, cI_leF, cI_eqT, cI_eqF, cI_cl, cN_leT, cN_leF, cN_ltT, cN_ltF, cN_eqT, cN_eqF, cI_add, cI_sub, cI_m1a, cI_m1b, cI_m1c, cI_m1d, cI_m1e, cI_m1f, o2, o3, gr, m1]
end RAD
