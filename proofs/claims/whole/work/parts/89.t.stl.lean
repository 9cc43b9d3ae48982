/-! NarrowSolver$TreeMaker.settle, growChild; NarrowSolver$Node.append -/
def okS (A : Nat → Nat) (rl : mR) (p : List Nat) (S : Int64) : Bool := match bro A rl p S with
  | none => decide (S = msk (fsr S))
  | some k => decide ((pds A p (jof p k)).length ≤ 8)
def nodS (A : Nat → Nat) (rl : mR) (p : List Nat) (S : Int64) (n : Nat) (cn : Int32) (pa : Value) : List Value := match bro A rl p S with
  | none => nfs (nI n) cn (nI 0) (nI (fsr S)) (nI 0) .null .null S (nI 0) pa .null
  | some k => nfs (nI n) cn (if (pds A p (jof p k)).length ≤ 8 then nI (plv (pds A p (jof p k))) else -1) (-1) (nI 0) .null .null S (nI (jof p k)) pa .null
theorem nw_pat {G : ah_H} {x q : Nat} {l : List Nat} {fs0 fs : List Value} (hq : G.1 q = some (.inr (0, fs0))) (hp : pat G x l) : pat (ah_set G q (.inr (0, fs))) x l := by
  obtain ⟨g, ⟨h1, h2⟩, h3⟩ := hp
  have e1 : x + 12 ≠ q := fun z => by rw [z, hq] at h1; cases h1
  have e2 : x + 12 + 1 ≠ q := fun z => by rw [z, hq] at h2; cases h2
  exact ⟨g, ⟨by rw [hs_ne e1]; exact h1, by rw [hs_ne e2]; exact h2⟩, h3⟩
theorem nw_mkr {E : Nat → Prop} {G : ah_H} {x ns : Nat} {A : Nat → Nat} {ar fn : Nat → Int32} {rl : mR} {q : Nat} {c : ah_C} (hE : ¬ E q) (hk : mkr E G x ns A ar fn rl) : mkr E (ah_set G q c) x ns A ar fn rl := mkr_cg (fun _ ha => hs_ne (fun e => hE (e ▸ ha))) hk
theorem frP_mkr {E : Nat → Prop} {G G2 : ah_H} {x ns : Nat} {A : Nat → Nat} {ar fn : Nat → Int32} {rl : mR} (h : frP G G2 x) (hk : mkr E G x ns A ar fn rl) : mkr E G2 x ns A ar fn rl := mkr_cg (fun a ha => h.1 a (fun e => hk.1.2.2.2.2.2.1 (e ▸ ha)) (fun e => hk.1.2.2.2.2.2.2.1 (e ▸ ha))) hk
theorem trb_to {E : Nat → Prop} {G G2 : ah_H} {t e n cap : Nat} {f : Nat → Option Nat} {sz : Nat} (hb : trb E G t e n cap f sz) (h2 : G2.2 = G.2) (ht : G2.1 t = G.1 t) (ht1 : G2.1 (t + 1) = G.1 (t + 1)) (he : G2.1 e = G.1 e) (hn : ∀ i a fs, i < n → f i = some a → G.1 a = some (.inr (0, fs)) → fs.length = 11 → ∃ fs, G2.1 a = some (.inr (0, fs)) ∧ fs.length = 11) : trb E G2 t e n cap f sz := by
  obtain ⟨b1, ⟨⟨mc, b2⟩, b3, b4⟩, b5, b6, b7, b8, b9, b10, b11, b12⟩ := hb
  refine ⟨by rw [ht]; exact b1, ⟨⟨mc, by rw [ht1]; exact b2⟩, by rw [he]; exact b3, b4⟩, b5, fun i hi => ?_, b7, by rw [h2]; exact b8, b9, by rw [h2]; exact b10, b11, by rw [h2]; exact b12⟩
  obtain ⟨a, fs, a1, a2, a3, a4, a5⟩ := b6 i hi
  obtain ⟨fs2, c1, c2⟩ := hn i a fs hi a1 a2 a3
  exact ⟨a, fs2, a1, c1, c2, by rw [h2]; exact a4, a5⟩
theorem trb_nw {E : Nat → Prop} {G : ah_H} {t e n cap : Nat} {f : Nat → Option Nat} {sz q : Nat} {fs0 fs : List Value} (hb : trb E G t e n cap f sz) (hq : G.1 q = some (.inr (0, fs0))) (hl : fs.length = 11) : trb E (ah_set G q (.inr (0, fs))) t e n cap f sz := by
  have hb' := hb
  obtain ⟨b1, ⟨⟨mc, b2⟩, b3, b4⟩, b5⟩ := hb'
  refine trb_to hb rfl (hs_ne (fun z => by rw [z, hq] at b1; cases b1)) (hs_ne (fun z => by rw [z, hq] at b2; cases b2)) (hs_ne (fun z => by rw [z, hq] at b3; cases b3)) (fun i a fs1 hi ha h1 h2 => ?_)
  by_cases c : a = q
  · exact ⟨fs, hs_eq c, hl⟩
  · exact ⟨fs1, by rw [hs_ne c]; exact h1, h2⟩
theorem trb_frP {E : Nat → Prop} {G G2 : ah_H} {t e n cap : Nat} {f : Nat → Option Nat} {sz x : Nat} {l : List Nat} (hb : trb E G t e n cap f sz) (hp : pat G x l) (h : frP G G2 x) : trb E G2 t e n cap f sz := by
  have hb' := hb
  obtain ⟨b1, ⟨⟨mc, b2⟩, b3, b4⟩, b5⟩ := hb'
  obtain ⟨g, ⟨p1, p2⟩, p3⟩ := hp
  have p2 : G.1 (x + 13) = _ := p2
  refine trb_to hb h.2 (h.1 _ (fun z => ?_) (fun z => ?_)) (h.1 _ (fun z => ?_) (fun z => ?_)) (h.1 _ (fun z => ?_) (fun z => ?_)) (fun i a fs1 hi ha h1 h2 => ⟨fs1, ?_, h2⟩)
  · rw [z, p1] at b1; cases b1
  · rw [z, p2] at b1; cases b1
  · rw [z, p1] at b2; cases b2
  · rw [z, p2] at b2; cases b2
  · rw [z, p1] at b3; cases b3
  · rw [z, p2] at b3; exact alt_c (Option.some.inj b3)
  · rw [h.1 a (fun z => by rw [z, p1] at h1; cases h1) (fun z => by rw [z, p2] at h1; cases h1)]; exact h1
theorem trb_shs {E : Nat → Prop} {G : ah_H} {t e n cap : Nat} {f : Nat → Option Nat} {sz x : Nat} {f0 f2 : Nat → Int32} (hb : trb E G t e n cap f sz) (hp : G.1 (x + 14) = some (.inl (1, 120, .inl f0))) : trb E (shs G x f2) t e n cap f sz := by
  have hb' := hb
  obtain ⟨b1, ⟨⟨mc, b2⟩, b3, b4⟩, b5⟩ := hb'
  refine trb_to hb rfl (shs_ne (fun z => ?_)) (shs_ne (fun z => ?_)) (shs_ne (fun z => ?_)) (fun i a fs1 hi ha h1 h2 => ⟨fs1, ?_, h2⟩)
  · rw [z, hp] at b1; cases b1
  · rw [z, hp] at b2; cases b2
  · rw [z, hp] at b3; exact alt_c (Option.some.inj b3)
  · rw [shs_ne (fun z => by rw [z, hp] at h1; cases h1)]; exact h1
section STL
variable {d : Nat} {Q : Option Value → ah_H → Prop} {E : Nat → Prop} {G : ah_H} {x : Nat} {A : Nat → Nat} {ns : Nat} {ar fn : Nat → Int32} {p : List Nat} {rl : mR} {S : Int64}
theorem m_X9_settle (hk : mkr E G x ns A ar fn rl) (hp : pat G x (pcm p)) (hw : wfp ns A rl p S) {f0 : Nat → Int32} (h0 : G.1 (x + 14) = some (.inl (1, 120, .inl f0))) {q n : Nat} {cn : Int32} {pa : Value} (hEq : ¬ E q) (hq : nodA G q (nI n) cn (nI 0) (-1) (nI 0) .null .null S (nI 0) pa .null) : ∃ f2, ∀ Q, ae_wm (d + 4) mX9_settle [.ref (x + 11), .ref q] G Q = Q (some (.int (if okS A rl p S = true then nI 1 else nI 0))) (ah_set (shs G x f2) q (.inr (0, nodS A rl p S n cn pa))) := by
  obtain ⟨f2, gF⟩ := m_X9_firstBranch (d := d) hk hp hw h0
  have ht := hk.2.2.2.1
  have hq : G.1 q = _ := hq
  have hq14 : q ≠ x + 14 := fun z => by rw [z, h0] at hq; cases hq
  have oG : ∀ K, ae_gw G q 0 7 K = K (.long S) := fun K => by unfold ae_gw; rw [hq]; rfl
  have hkY : mkr E (shs G x f2) x ns A ar fn rl := shs_mkr hk f2
  have hpY : pat (shs G x f2) x (pcm p) := shs_pat hp f2
  have y1 : (shs G x f2).1 q = _ := (shs_ne hq14).trans hq
  refine ⟨f2, fun Q => ?_⟩
  generalize shs G x f2 = Y at gF hkY hpY y1 ⊢
  have oY : ∀ K, ae_gw Y q 0 7 K = K (.long S) := fun K => by unfold ae_gw; rw [y1]; rfl
  cases eb : bro A rl p S with
  | none =>
    rw [eb] at gF
    have e1 : locv (Option.map (jof p) none) = -1 := rfl
    rw [e1] at gF
    have op : ∀ v K, ae_pw Y q 0 3 v K = K (ah_set Y q (.inr (0, [.int (nI n), .int cn, .int (nI 0), v, .int (nI 0), .null, .null, .long S, .int (nI 0), pa, .null]))) := fun v K => by unfold ae_pw; rw [y1]; rfl
    have oZ : ∀ v K, ae_gw (ah_set Y q (.inr (0, [.int (nI n), .int cn, .int (nI 0), v, .int (nI 0), .null, .null, .long S, .int (nI 0), pa, .null]))) q 0 7 K = K (.long S) := fun v K => by unfold ae_gw; rw [hs_eq rfl]; rfl
    have gn := fun Q => m_J13_ntz (d := d + 2) (h := Y) (Q := Q) (S := S)
    rw [ntz_fsr hw.2.2.2.2.2] at gn
    have gb := fun h Q => m_J13_bitCount (d := d + 3) (h := h) (Q := Q) (S := S)
    have e2 : nodS A rl p S n cn pa = [.int (nI n), .int cn, .int (nI 0), .int (nI (fsr S)), .int (nI 0), .null, .null, .long S, .int (nI 0), pa, .null] := by simp only [nodS, eb, nfs]
    rw [e2]
    by_cases c : S = msk (fsr S)
    · have e3 : okS A rl p S = true := by simp only [okS, eb]; exact decide_eq_true c
      have e4 : bcf S = nI 1 := by rw [bcf_one]; exact c
      rw [e4] at gb
      rw [if_pos e3]
      simp (disch := first | exact ae_isR_ref _ | exact ae_isR_null | exact ae_isR_rf _ | exact ae_cat_ref _ | exact ae_cat_int _ | exact ae_cat_null | exact ae_cat_rf _ | exact ae_nz0 | exact ae_nz1 | exact ae_fz0 | exact ae_fz1 | exact cI_na (by omega) | exact cI_ix (by omega) | exact cI_nn (by omega) | exact cI_nz (by omega) | exact cI_cp (by omega) | assumption | omega) only [s_X9_settle_0, s_X9_settle_1, s_X9_settle_2, s_X9_settle_5 ht, s_X9_settle_8, s_X9_settle_9, s_X9_settle_10, s_X9_settle_11, s_X9_settle_14, s_X9_settle_15, s_X9_settle_16, s_X9_settle_19, s_X9_settle_22, s_X9_settle_25, s_X9_settle_26, s_X9_settle_29, s_X9_settle_32, s_X9_settle_33, s_X9_settle_36, s_X9_settle_37, s_X9_settle_40, s_X9_settle_41, e_X9_settle, gF, oG, oY, gn, op, oZ, gb, og_0, og_1, og_2, og_3, og_4, og_5, og_6, og_7, og_8, og_9, og_10, og_11, og_12, op_6, op_8, op_9, op_10, op_11, op_12, dg_0, dg_1, dg_2, dg_3, dp_1, dp_2, dp_3, ng_b, ng_d, mz_m, ms_m, ov_2, nset_d, nset_b, uI_1, uI_2, uR_1, uR_21, uR_22, va_rf, Bool.false_eq_true, ae_Ki, ae_Kb, ae_Kj, ae_Ka, ae_Si, ae_Sb, ae_Sj, ae_Sn, List.getElem?_cons_succ, List.getElem?_cons_zero, ↓reduceIte, if_true, if_false, nI_ofNat, true_or, or_true, false_or, or_false, true_and, and_true, false_and, and_false, or_self, and_self, not_true_eq_false, not_false_eq_true, eq_self, List.length_cons, List.length_nil, Nat.reduceAdd, Nat.reduceLT, Nat.reduceSub, List.set_cons_succ, List.set_cons_zero, Option.toList, List.nil_append, List.cons_append, cI_ltT, cI_ltF, cI_leT, cI_leF, cI_eqT, cI_eqF, cI_cl, cN_leT, cN_leF, cN_ltT, cN_ltF, cN_eqT, cN_eqF, cI_add, cI_sub, cI_m1a, cI_m1b, cI_m1c, cI_m1d, cI_m1e, cI_m1f]
    · have e3 : ¬ okS A rl p S = true := by simp only [okS, eb]; simpa using c
      have e4 : ¬ bcf S = nI 1 := by rw [bcf_one]; exact c
      rw [if_neg e3]
      simp (disch := first | exact ae_isR_ref _ | exact ae_isR_null | exact ae_isR_rf _ | exact ae_cat_ref _ | exact ae_cat_int _ | exact ae_cat_null | exact ae_cat_rf _ | exact ae_nz0 | exact ae_nz1 | exact ae_fz0 | exact ae_fz1 | exact cI_na (by omega) | exact cI_ix (by omega) | exact cI_nn (by omega) | exact cI_nz (by omega) | exact cI_cp (by omega) | assumption | omega) only [s_X9_settle_0, s_X9_settle_1, s_X9_settle_2, s_X9_settle_5 ht, s_X9_settle_8, s_X9_settle_9, s_X9_settle_10, s_X9_settle_11, s_X9_settle_14, s_X9_settle_15, s_X9_settle_16, s_X9_settle_19, s_X9_settle_22, s_X9_settle_25, s_X9_settle_26, s_X9_settle_29, s_X9_settle_32, s_X9_settle_33, s_X9_settle_36, s_X9_settle_37, s_X9_settle_40, s_X9_settle_41, e_X9_settle, gF, oG, oY, gn, op, oZ, gb, e4, og_0, og_1, og_2, og_3, og_4, og_5, og_6, og_7, og_8, og_9, og_10, og_11, og_12, op_6, op_8, op_9, op_10, op_11, op_12, dg_0, dg_1, dg_2, dg_3, dp_1, dp_2, dp_3, ng_b, ng_d, mz_m, ms_m, ov_2, nset_d, nset_b, uI_1, uI_2, uR_1, uR_21, uR_22, va_rf, Bool.false_eq_true, ae_Ki, ae_Kb, ae_Kj, ae_Ka, ae_Si, ae_Sb, ae_Sj, ae_Sn, List.getElem?_cons_succ, List.getElem?_cons_zero, ↓reduceIte, if_true, if_false, nI_ofNat, true_or, or_true, false_or, or_false, true_and, and_true, false_and, and_false, or_self, and_self, not_true_eq_false, not_false_eq_true, eq_self, List.length_cons, List.length_nil, Nat.reduceAdd, Nat.reduceLT, Nat.reduceSub, List.set_cons_succ, List.set_cons_zero, Option.toList, List.nil_append, List.cons_append, cI_ltT, cI_ltF, cI_leT, cI_leF, cI_eqT, cI_eqF, cI_cl, cN_leT, cN_leF, cN_ltT, cN_ltF, cN_eqT, cN_eqF, cI_add, cI_sub, cI_m1a, cI_m1b, cI_m1c, cI_m1d, cI_m1e, cI_m1f]
  | some k =>
    rw [eb] at gF
    have e1 : locv (Option.map (jof p) (some k)) = nI (jof p k) := rfl
    rw [e1] at gF
    obtain ⟨b1, b2, b3, b4, b5⟩ := bro_at (ns := ns) eb
    have hl := wfp_len hk.2.2.2.2.1 hw
    have hj0 : 0 < jof p k := by
      by_cases c : jof p k = 0
      · rw [c] at b4; exact absurd b4 hw.2.2.1
      · omega
    have op : ∀ v K, ae_pw Y q 0 8 v K = K (ah_set Y q (.inr (0, [.int (nI n), .int cn, .int (nI 0), .int (-1), .int (nI 0), .null, .null, .long S, v, pa, .null]))) := fun v K => by unfold ae_pw; rw [y1]; rfl
    have hkZ := nw_mkr (c := .inr (0, [.int (nI n), .int cn, .int (nI 0), .int (-1), .int (nI 0), .null, .null, .long S, .int (nI (jof p k)), pa, .null])) hEq hkY
    have hpZ := nw_pat (fs := [.int (nI n), .int cn, .int (nI 0), .int (-1), .int (nI 0), .null, .null, .long S, .int (nI (jof p k)), pa, .null]) y1 hpY
    have z1 : (ah_set Y q (.inr (0, [.int (nI n), .int cn, .int (nI 0), .int (-1), .int (nI 0), .null, .null, .long S, .int (nI (jof p k)), pa, .null]))).1 q = _ := hs_eq rfl
    have z2 : ∀ c, ah_set (ah_set Y q (.inr (0, [.int (nI n), .int cn, .int (nI 0), .int (-1), .int (nI 0), .null, .null, .long S, .int (nI (jof p k)), pa, .null]))) q c = ah_set Y q c := fun c => hs_hs _ _ _ _
    generalize hZ : ah_set Y q (.inr (0, [.int (nI n), .int cn, .int (nI 0), .int (-1), .int (nI 0), .null, .null, .long S, .int (nI (jof p k)), pa, .null])) = Z at hkZ hpZ z1 z2
    have op2 : ∀ v K, ae_pw Z q 0 2 v K = K (ah_set Y q (.inr (0, [.int (nI n), .int cn, v, .int (-1), .int (nI 0), .null, .null, .long S, .int (nI (jof p k)), pa, .null]))) := fun v K => by unfold ae_pw; rw [z1]; exact congrArg K (z2 _)
    have oZ : ∀ v K, ae_gw (ah_set Y q (.inr (0, [.int (nI n), .int cn, v, .int (-1), .int (nI 0), .null, .null, .long S, .int (nI (jof p k)), pa, .null]))) q 0 2 K = K v := fun v K => by unfold ae_gw; rw [hs_eq rfl]; rfl
    have htZ := hkZ.2.2.2.1
    have gp := fun Q => m_X9_placeOf (d := d + 1) (Q := Q) hkZ.2.1 hkZ.2.2.1 hkZ.2.2.2.1 hpZ hw.2.1 b3 hj0 hw.1
    have e2 : nodS A rl p S n cn pa = [.int (nI n), .int cn, .int (if (pds A p (jof p k)).length ≤ 8 then nI (plv (pds A p (jof p k))) else -1), .int (-1), .int (nI 0), .null, .null, .long S, .int (nI (jof p k)), pa, .null] := by simp only [nodS, eb, nfs]
    rw [e2]
    by_cases c : (pds A p (jof p k)).length ≤ 8
    · have e3 : okS A rl p S = true := by simp only [okS, eb]; exact decide_eq_true c
      have hpl := pds_dig (fun z => hk.2.1.2.1 |> fun h => by
        by_cases c : z < ns
        · exact (h z c).2
        · rw [hk.2.1.2.2 z (by omega)]; omega) hw eb c
      rw [if_pos c] at gp ⊢
      rw [if_pos e3]
      simp (disch := first | exact ae_isR_ref _ | exact ae_isR_null | exact ae_isR_rf _ | exact ae_cat_ref _ | exact ae_cat_int _ | exact ae_cat_null | exact ae_cat_rf _ | exact ae_nz0 | exact ae_nz1 | exact ae_fz0 | exact ae_fz1 | exact cI_na (by omega) | exact cI_ix (by omega) | exact cI_nn (by omega) | exact cI_nz (by omega) | exact cI_cp (by omega) | assumption | omega) only [s_X9_settle_0, s_X9_settle_1, s_X9_settle_2, s_X9_settle_5 ht, s_X9_settle_8, s_X9_settle_9, s_X9_settle_10, s_X9_settle_11, e_X9_settle, s_X9_settle_42, s_X9_settle_43, s_X9_settle_44, s_X9_settle_47, s_X9_settle_48, s_X9_settle_49, s_X9_settle_50 htZ, s_X9_settle_53, s_X9_settle_56, s_X9_settle_57, s_X9_settle_60, s_X9_settle_61, s_X9_settle_64, s_X9_settle_65, s_X9_settle_68, s_X9_settle_69, gF, oG, oY, op, hZ, gp, op2, oZ, og_0, og_1, og_2, og_3, og_4, og_5, og_6, og_7, og_8, og_9, og_10, og_11, og_12, op_6, op_8, op_9, op_10, op_11, op_12, dg_0, dg_1, dg_2, dg_3, dp_1, dp_2, dp_3, ng_b, ng_d, mz_m, ms_m, ov_2, nset_d, nset_b, uI_1, uI_2, uR_1, uR_21, uR_22, va_rf, Bool.false_eq_true, ae_Ki, ae_Kb, ae_Kj, ae_Ka, ae_Si, ae_Sb, ae_Sj, ae_Sn, List.getElem?_cons_succ, List.getElem?_cons_zero, ↓reduceIte, if_true, if_false, nI_ofNat, true_or, or_true, false_or, or_false, true_and, and_true, false_and, and_false, or_self, and_self, not_true_eq_false, not_false_eq_true, eq_self, List.length_cons, List.length_nil, Nat.reduceAdd, Nat.reduceLT, Nat.reduceSub, List.set_cons_succ, List.set_cons_zero, Option.toList, List.nil_append, List.cons_append, cI_ltT, cI_ltF, cI_leT, cI_leF, cI_eqT, cI_eqF, cI_cl, cN_leT, cN_leF, cN_ltT, cN_ltF, cN_eqT, cN_eqF, cI_add, cI_sub, cI_m1a, cI_m1b, cI_m1c, cI_m1d, cI_m1e, cI_m1f]
    · have e3 : ¬ okS A rl p S = true := by simp only [okS, eb]; simpa using c
      rw [if_neg c] at gp ⊢
      rw [if_neg e3]
      simp (disch := first | exact ae_isR_ref _ | exact ae_isR_null | exact ae_isR_rf _ | exact ae_cat_ref _ | exact ae_cat_int _ | exact ae_cat_null | exact ae_cat_rf _ | exact ae_nz0 | exact ae_nz1 | exact ae_fz0 | exact ae_fz1 | exact cI_na (by omega) | exact cI_ix (by omega) | exact cI_nn (by omega) | exact cI_nz (by omega) | exact cI_cp (by omega) | assumption | omega) only [s_X9_settle_0, s_X9_settle_1, s_X9_settle_2, s_X9_settle_5 ht, s_X9_settle_8, s_X9_settle_9, s_X9_settle_10, s_X9_settle_11, e_X9_settle, s_X9_settle_42, s_X9_settle_43, s_X9_settle_44, s_X9_settle_47, s_X9_settle_48, s_X9_settle_49, s_X9_settle_50 htZ, s_X9_settle_53, s_X9_settle_56, s_X9_settle_57, s_X9_settle_60, s_X9_settle_61, s_X9_settle_64, s_X9_settle_65, s_X9_settle_68, s_X9_settle_69, gF, oG, oY, op, hZ, gp, op2, oZ, og_0, og_1, og_2, og_3, og_4, og_5, og_6, og_7, og_8, og_9, og_10, og_11, og_12, op_6, op_8, op_9, op_10, op_11, op_12, dg_0, dg_1, dg_2, dg_3, dp_1, dp_2, dp_3, ng_b, ng_d, mz_m, ms_m, ov_2, nset_d, nset_b, uI_1, uI_2, uR_1, uR_21, uR_22, va_rf, Bool.false_eq_true, ae_Ki, ae_Kb, ae_Kj, ae_Ka, ae_Si, ae_Sb, ae_Sj, ae_Sn, List.getElem?_cons_succ, List.getElem?_cons_zero, ↓reduceIte, if_true, if_false, nI_ofNat, true_or, or_true, false_or, or_false, true_and, and_true, false_and, and_false, or_self, and_self, not_true_eq_false, not_false_eq_true, eq_self, List.length_cons, List.length_nil, Nat.reduceAdd, Nat.reduceLT, Nat.reduceSub, List.set_cons_succ, List.set_cons_zero, Option.toList, List.nil_append, List.cons_append, cI_ltT, cI_ltF, cI_leT, cI_leF, cI_eqT, cI_eqF, cI_cl, cN_leT, cN_leF, cN_ltT, cN_ltF, cN_eqT, cN_eqF, cI_add, cI_sub, cI_m1a, cI_m1b, cI_m1c, cI_m1d, cI_m1e, cI_m1f]
theorem m_X0_append_0 {q a : Nat} {nm cn pl lr : Int32} {ch : Nat} {fc nx : Value} {po : Int32} {pa : Value} (hq : nodA G q nm cn pl lr (nI ch) fc nx S po pa .null) (hc : ch < 1000) : ae_wm d mX0_append [.ref q, .ref a] G Q = Q none (ah_set G q (.inr (0, nfs nm cn pl lr (nI (ch + 1)) (.ref a) nx S po pa (.ref a)))) := by
  have hq : G.1 q = some (.inr (0, [.int nm, .int cn, .int pl, .int lr, .int (nI ch), fc, nx, .long S, .int po, pa, .null])) := hq
  simp (disch := first | exact ae_isR_ref _ | exact ae_isR_null | exact ae_isR_rf _ | exact ae_cat_ref _ | exact ae_cat_int _ | exact ae_cat_null | exact ae_cat_rf _ | exact ae_nz0 | exact ae_nz1 | exact ae_fz0 | exact ae_fz1 | exact cI_na (by omega) | exact cI_ix (by omega) | exact cI_nn (by omega) | exact cI_nz (by omega) | exact cI_cp (by omega) | assumption | omega) only [s_X0_append_0, s_X0_append_1, s_X0_append_4, s_X0_append_4_N, s_X0_append_7, s_X0_append_8, s_X0_append_9, s_X0_append_12, s_X0_append_15, s_X0_append_16, s_X0_append_19, s_X0_append_20, s_X0_append_23, s_X0_append_24, s_X0_append_25, s_X0_append_28, s_X0_append_29, s_X0_append_30, s_X0_append_33, s_X0_append_34, s_X0_append_35, s_X0_append_38, e_X0_append, Bool.false_eq_true, ae_gw, ae_pw, ae_zw, ae_Ki, ae_Kb, ae_Kj, ae_Ka, ae_Si, ae_Sb, ae_Sj, ae_Sn, List.getElem?_cons_succ, List.getElem?_cons_zero, ↓reduceIte, if_true, if_false, nI_ofNat, true_or, or_true, false_or, or_false, true_and, and_true, false_and, and_false, or_self, and_self, not_true_eq_false, not_false_eq_true, eq_self, List.length_cons, List.length_nil, Nat.reduceAdd, Nat.reduceLT, Nat.reduceSub, List.set_cons_succ, List.set_cons_zero, Option.toList, List.nil_append, List.cons_append, cI_ltT, cI_ltF, cI_leT, cI_leF, cI_eqT, cI_eqF, cI_cl, cN_leT, cN_leF, cN_ltT, cN_ltF, cN_eqT, cN_eqF, cI_add, cI_sub, cI_m1a, cI_m1b, cI_m1c, cI_m1d, cI_m1e, cI_m1f, hs_eq, hs_ne, hs_2, hs_hs, hn_eq, hn_ne, hn_21, hn_22, hn_23, hq, nfs]
theorem m_X0_append_1 {q a la : Nat} {nm cn pl lr : Int32} {ch : Nat} {fc nx : Value} {po : Int32} {pa : Value} {v0 v1 v2 v3 v4 v5 v6 v7 v8 v9 v10 : Value} (hq : nodA G q nm cn pl lr (nI ch) fc nx S po pa (.ref la)) (hl : G.1 la = some (.inr (0, [v0, v1, v2, v3, v4, v5, v6, v7, v8, v9, v10]))) (hne : la ≠ q) (hc : ch < 1000) : ae_wm d mX0_append [.ref q, .ref a] G Q = Q none (ah_set (ah_set G la (.inr (0, [v0, v1, v2, v3, v4, v5, .ref a, v7, v8, v9, v10]))) q (.inr (0, nfs nm cn pl lr (nI (ch + 1)) fc nx S po pa (.ref a)))) := by
  have hq : G.1 q = some (.inr (0, [.int nm, .int cn, .int pl, .int lr, .int (nI ch), fc, nx, .long S, .int po, pa, .ref la])) := hq
  have hne2 : q ≠ la := Ne.symm hne
  simp (disch := first | exact ae_isR_ref _ | exact ae_isR_null | exact ae_isR_rf _ | exact ae_cat_ref _ | exact ae_cat_int _ | exact ae_cat_null | exact ae_cat_rf _ | exact ae_nz0 | exact ae_nz1 | exact ae_fz0 | exact ae_fz1 | exact cI_na (by omega) | exact cI_ix (by omega) | exact cI_nn (by omega) | exact cI_nz (by omega) | exact cI_cp (by omega) | assumption | omega) only [s_X0_append_0, s_X0_append_1, s_X0_append_4, s_X0_append_4_N, s_X0_append_7, s_X0_append_8, s_X0_append_9, s_X0_append_12, s_X0_append_15, s_X0_append_16, s_X0_append_19, s_X0_append_20, s_X0_append_23, s_X0_append_24, s_X0_append_25, s_X0_append_28, s_X0_append_29, s_X0_append_30, s_X0_append_33, s_X0_append_34, s_X0_append_35, s_X0_append_38, e_X0_append, Bool.false_eq_true, ae_gw, ae_pw, ae_zw, ae_Ki, ae_Kb, ae_Kj, ae_Ka, ae_Si, ae_Sb, ae_Sj, ae_Sn, List.getElem?_cons_succ, List.getElem?_cons_zero, ↓reduceIte, if_true, if_false, nI_ofNat, true_or, or_true, false_or, or_false, true_and, and_true, false_and, and_false, or_self, and_self, not_true_eq_false, not_false_eq_true, eq_self, List.length_cons, List.length_nil, Nat.reduceAdd, Nat.reduceLT, Nat.reduceSub, List.set_cons_succ, List.set_cons_zero, Option.toList, List.nil_append, List.cons_append, cI_ltT, cI_ltF, cI_leT, cI_leF, cI_eqT, cI_eqF, cI_cl, cN_leT, cN_leF, cN_ltT, cN_ltF, cN_eqT, cN_eqF, cI_add, cI_sub, cI_m1a, cI_m1b, cI_m1c, cI_m1d, cI_m1e, cI_m1f, hs_eq, hs_ne, hs_2, hs_hs, hn_eq, hn_ne, hn_21, hn_22, hn_23, hq, hl, nfs]
/-- only nodes are written -/
def nwf (H W : ah_H) : Prop := W.2 = H.2 ∧ (∀ b, (∀ fs, H.1 b ≠ some (.inr (0, fs))) → W.1 b = H.1 b) ∧ ∀ b fs, H.1 b = some (.inr (0, fs)) → fs.length = 11 → ∃ fs2, W.1 b = some (.inr (0, fs2)) ∧ fs2.length = 11
theorem nwf_set {H : ah_H} {q : Nat} {fs0 fs : List Value} (hq : H.1 q = some (.inr (0, fs0))) (hl : fs.length = 11) : nwf H (ah_set H q (.inr (0, fs))) := ⟨rfl, fun b hb => hs_ne (fun e => hb fs0 (by rw [e]; exact hq)), fun b fs1 h1 h2 => by
  by_cases c : b = q
  · exact ⟨fs, hs_eq c, hl⟩
  · exact ⟨fs1, by rw [hs_ne c]; exact h1, h2⟩⟩
theorem nwf_trb {H W : ah_H} {t e n cap : Nat} {f : Nat → Option Nat} {sz : Nat} (h : nwf H W) (hb : trb E H t e n cap f sz) : trb E W t e n cap f sz := by
  have hb' := hb
  obtain ⟨b1, ⟨⟨mc, b2⟩, b3, b4⟩, b5⟩ := hb'
  exact trb_to hb h.1 (h.2.1 _ (fun fs z => by rw [b1] at z; cases z)) (h.2.1 _ (fun fs z => by rw [b2] at z; cases z)) (h.2.1 _ (fun fs z => by rw [b3] at z; cases z)) (fun i a fs1 hi ha h1 h2 => h.2.2 a fs1 h1 h2)
theorem nwf_pat {H W : ah_H} {l : List Nat} (h : nwf H W) (hp : pat H x l) : pat W x l := by
  obtain ⟨g, ⟨h1, h2⟩, h3⟩ := hp
  exact ⟨g, ⟨by rw [h.2.1 _ (fun fs z => by rw [h1] at z; cases z)]; exact h1, by rw [h.2.1 _ (fun fs z => by rw [h2] at z; cases z)]; exact h2⟩, h3⟩
def apf (lc fc : Value) (a : Nat) : Value := match lc with
  | .null => .ref a
  | _ => fc
theorem m_X0_append {q a : Nat} {nm cn pl lr : Int32} {ch : Nat} {fc nx : Value} {po : Int32} {pa lc : Value} (hq : nodA G q nm cn pl lr (nI ch) fc nx S po pa lc) (hc : ch < 1000) (hl : lc = .null ∨ ∃ la fs, lc = .ref la ∧ la ≠ q ∧ G.1 la = some (.inr (0, fs)) ∧ fs.length = 11) : ∃ W, (∀ Q, ae_wm d mX0_append [.ref q, .ref a] G Q = Q none W) ∧ nwf G W ∧ nodA W q nm cn pl lr (nI (ch + 1)) (apf lc fc a) nx S po pa (.ref a) ∧ (∀ b, b ≠ q → lc ≠ .ref b → W.1 b = G.1 b) ∧ ∀ la, lc = .ref la → nfl W la 6 = some (.ref a) ∧ ∀ k, k ≠ 6 → nfl W la k = nfl G la k := by
  rcases hl with rfl | ⟨la, fs, rfl, h1, h2, h3⟩
  · exact ⟨_, fun Q => m_X0_append_0 hq hc, nwf_set hq rfl, hs_eq rfl, fun b hb _ => hs_ne hb, fun la z => by cases z⟩
  · obtain ⟨v0, v1, v2, v3, v4, v5, v6, v7, v8, v9, v10, rfl⟩ := len11 h3
    have n1 := nwf_set (fs := [v0, v1, v2, v3, v4, v5, .ref a, v7, v8, v9, v10]) h2 rfl
    have hq2 : (ah_set G la (.inr (0, [v0, v1, v2, v3, v4, v5, .ref a, v7, v8, v9, v10]))).1 q = _ := (hs_ne (Ne.symm h1)).trans hq
    have n2 := nwf_set (fs := nfs nm cn pl lr (nI (ch + 1)) fc nx S po pa (.ref a)) hq2 rfl
    refine ⟨_, fun Q => m_X0_append_1 hq h2 h1 hc, ⟨rfl, fun b hb => ?_, fun b fs b1 b2 => ?_⟩, hs_eq rfl, fun b hb hb2 => ?_, fun la2 z => ?_⟩
    · rw [hs_ne (fun z => hb _ (by rw [z]; exact hq)), hs_ne (fun z => hb _ (by rw [z]; exact h2))]
    · obtain ⟨fs2, c1, c2⟩ := n1.2.2 b fs b1 b2
      exact n2.2.2 b fs2 c1 c2
    · rw [hs_ne hb, hs_ne (fun z => hb2 (by rw [z]))]
    · cases z
      have e1 : (ah_set (ah_set G la (.inr (0, [v0, v1, v2, v3, v4, v5, .ref a, v7, v8, v9, v10]))) q (.inr (0, nfs nm cn pl lr (nI (ch + 1)) fc nx S po pa (.ref a)))).1 la = some (.inr (0, [v0, v1, v2, v3, v4, v5, .ref a, v7, v8, v9, v10])) := by rw [hs_ne h1]; exact hs_eq rfl
      refine ⟨by unfold nfl; rw [e1]; rfl, fun k hk => ?_⟩
      unfold nfl
      rw [e1, h2]
      match k, hk with
      | 0, _ => rfl
      | 1, _ => rfl
      | 2, _ => rfl
      | 3, _ => rfl
      | 4, _ => rfl
      | 5, _ => rfl
      | 7, _ => rfl
      | 8, _ => rfl
      | 9, _ => rfl
      | 10, _ => rfl
      | k + 11, _ => rfl
theorem pcm_rfa {j c : Nat} (hc : c ≠ 99) : pcm (rfa A p j c) = (pcm p).take j ++ c :: (List.replicate (A c) 100 ++ (pcm p).drop (j + 1)) := by
  unfold pcm rfa
  simp only [List.map_append, List.map_cons, List.map_take, List.map_drop, List.map_replicate, if_neg hc, if_true]
theorem pcm_at9 {j : Nat} (hj : j < p.length) (h9 : p.getD j 0 = 99) : pcm p = (pcm p).take j ++ 100 :: (pcm p).drop (j + 1) := by
  have h1 : j < (pcm p).length := by rw [pcm_len]; exact hj
  have h2 := split_at h1
  rw [pcm_at hj, if_pos h9] at h2
  exact h2
theorem m_X9_gc25_none (hk : mkr E G x ns A ar fn rl) (hp : pat G x (pcm p)) (hw : wfp ns A rl p S) {k b q t : Nat} (hbr : bro A rl p S = some k) (hb : b < 1000) (hS : nfl G q 7 = some (.long S)) (hJ : nfl G q 8 = some (.int (nI (jof p k)))) (hn : nxc A rl ns p k S b = none) : ae_wp (d + 8) mX9_growChild 25 [some (.ref (x + 11)), some (.ref t), some (.ref q), some (.int (dcr b)), none, none] [] G Q = Q (some .null) G := by
  have ht := hk.2.2.2.1
  have g := fun Q => m_X9_leastBehind (d := d + 4) (Q := Q) hk hp hw hbr hb hS hJ
  rw [hn] at g
  have e1 : locv none = -1 := rfl
  rw [e1] at g
  simp (disch := first | exact ae_isR_ref _ | exact ae_isR_null | exact ae_isR_rf _ | exact ae_cat_ref _ | exact ae_cat_int _ | exact ae_cat_null | exact ae_cat_rf _ | exact ae_nz0 | exact ae_nz1 | exact ae_fz0 | exact ae_fz1 | exact cI_na (by omega) | exact cI_ix (by omega) | exact cI_nn (by omega) | exact cI_nz (by omega) | exact cI_cp (by omega) | assumption | omega) only [s_X9_growChild_25, s_X9_growChild_26, s_X9_growChild_27, s_X9_growChild_28 ht, s_X9_growChild_31, s_X9_growChild_33, s_X9_growChild_35, s_X9_growChild_36, s_X9_growChild_39, s_X9_growChild_40, g, og_0, og_1, og_2, og_3, og_4, og_5, og_6, og_7, og_8, og_9, og_10, og_11, og_12, op_6, op_8, op_9, op_10, op_11, op_12, dg_0, dg_1, dg_2, dg_3, dp_1, dp_2, dp_3, ng_b, ng_d, mz_m, ms_m, ov_2, nset_d, nset_b, uI_1, uI_2, uR_1, uR_21, uR_22, va_rf, Bool.false_eq_true, ae_Ki, ae_Kb, ae_Kj, ae_Ka, ae_Si, ae_Sb, ae_Sj, ae_Sn, List.getElem?_cons_succ, List.getElem?_cons_zero, ↓reduceIte, if_true, if_false, nI_ofNat, true_or, or_true, false_or, or_false, true_and, and_true, false_and, and_false, or_self, and_self, not_true_eq_false, not_false_eq_true, eq_self, List.length_cons, List.length_nil, Nat.reduceAdd, Nat.reduceLT, Nat.reduceSub, List.set_cons_succ, List.set_cons_zero, Option.toList, List.nil_append, List.cons_append, cI_ltT, cI_ltF, cI_leT, cI_leF, cI_eqT, cI_eqF, cI_cl, cN_leT, cN_leF, cN_ltT, cN_ltF, cN_eqT, cN_eqF, cI_add, cI_sub, cI_m1a, cI_m1b, cI_m1c, cI_m1d, cI_m1e, cI_m1f]
end STL
