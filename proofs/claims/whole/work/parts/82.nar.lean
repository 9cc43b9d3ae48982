/-! NarrowSolver$Solver: narrow -/
theorem dr_any (y : rS) : ∃ L, dr y L := by
  have key : ∀ z : Int32, z = nI z.toBitVec.toNat := fun z => by
    apply Int32.toBitVec_inj.mp
    show z.toBitVec = (Int32.ofNat _).toBitVec
    rw [Int32.toBitVec_ofNat', BitVec.ofNat_toNat]
    simp
  by_cases c : (y.1 31).toBitVec.toNat ≤ 300
  · refine ⟨(List.range (y.1 31).toBitVec.toNat).map (fun i => (y.2.1 2 i).toBitVec.toNat), (y.1 31).toBitVec.toNat, key _, ?_, fun _ => ⟨?_, fun i hi => ?_⟩, fun h => ?_⟩
    · simp
    · simp
    · rw [List.length_map, List.length_range] at hi
      rw [List.getD_eq_getElem?_getD, List.getElem?_map, List.getElem?_range hi]
      exact key _
    · rw [List.length_map, List.length_range] at h; omega
  · refine ⟨List.replicate (y.1 31).toBitVec.toNat 0, (y.1 31).toBitVec.toNat, key _, ?_, fun h => ?_, fun h => ?_⟩
    · simp
    · rw [List.length_replicate] at h; omega
    · omega
def dis (E : Nat → Prop) (G : ah_H) (x : Nat) (P : Nat → Option Nat) : Prop := ∀ a, E a → a < G.2.1 ∧ (a < x + 15 ∨ x + 22 < a) ∧ ∀ i b, P i = some b → a < b ∨ b + 2 < a
theorem dis_fr {E : Nat → Prop} {G G2 : ah_H} {x k : Nat} {P P2 : Nat → Option Nat} (hf : frG G G2 x P P2 k) (hd : dis E G x P) : dis E G2 x P2 ∧ ∀ a, E a → G2.1 a = G.1 a := by
  obtain ⟨f1, ⟨f2, f3, f4, f5⟩, f6, f7⟩ := hf
  refine ⟨fun a ha => ?_, fun a ha => ?_⟩
  · obtain ⟨h1, h2, h3⟩ := hd a ha
    refine ⟨by omega, h2, fun i b hi => ?_⟩
    rcases f7 i b hi with ⟨j, j1, j2⟩ | z
    · exact h3 j b j1
    · omega
  · obtain ⟨h1, h2, h3⟩ := hd a ha
    exact f1 a h1 h2 (fun i b hi _ => h3 i b hi)
section NAR
variable {d : Nat} {Q : Option Value → ah_H → Prop} {G : ah_H} {x c p : Nat} {P : Nat → Option Nat} {y : rS} {fw : Nat} {v : sV} {e a : List Nat} {mn fr : Nat} {E : Nat → Prop} {A : Nat → Nat} {ns : Nat} {ar fn : Nat → Int32} {F : Nat → Bool} {rl : mR}
theorem cS_y {y2 : rS} {v2 : sV} (hS : cS G x P c p y fw v) (hw : v2.1 = v.1) (hz : v2.2.1 = v.2.1) (h9 : y2.1 9 = v2.2.2.1 ∧ y2.1 10 = v2.2.2.2.1 ∧ y2.1 11 = v2.2.2.2.2.1 ∧ y2.1 12 = v2.2.2.2.2.2) (hb : ∃ B, bd y2 B) : cS (ov G x c p y2) x P c p y2 fw v2 ∧ frG G (ov G x c p y2) x P P 0 := by
  obtain ⟨p1, p2, p3, p4, p5⟩ := cS_p hS
  obtain ⟨s1, s2, s3, s4, s5, s6, s7, s8, s9⟩ := hS
  have hsam : ∀ i a, P i = some a → i ≠ 71 → sam G (ov G x c p y2) a := fun i a hi hn => by
    have h1 := s3.2 i a hi
    have h2 := s3.1 i 71 a p hi s2 hn
    exact ⟨ov_out (by omega), ov_out (by omega), ov_out (by omega)⟩
  refine ⟨⟨s1, s2, ⟨s3.1, fun i a hi => ⟨(s3.2 i a hi).1, (s3.2 i a hi).2.1, ?_⟩⟩, ov_mk ov_15 ov_20 ov_21 ov_22 (ov_p p1) (ov_p1 p1) (ov_p2 p1), ?_, ?_, h9, hb, s9⟩, ⟨fun b h1 h2 h3 => ?_, ⟨rfl, rfl, rfl, rfl⟩, rfl, fun i b hi => Or.inl ⟨i, hi, id⟩⟩⟩
  · by_cases e1 : i = 71
    · rw [e1, s2] at hi
      cases hi
      exact ⟨_, _, _, _, _, ov_p p1, ov_p1 p1, ov_p2 p1⟩
    · exact psh_sam (hsam i a hi e1) (s3.2 i a hi).2.2
  · rw [hw]
    obtain ⟨⟨r1, r2⟩, r3, r4, r5⟩ := s5
    exact ⟨⟨by rw [ov_out (by omega)]; exact r1, by rw [ov_out (by omega)]; exact r2⟩, r3, r4, fun i hi => by
      obtain ⟨b, b1, b2⟩ := r5 i hi
      exact ⟨b, b1, prbk_sam (hsam _ b b1 (by omega)) b2⟩⟩
  · rw [hz]
    obtain ⟨⟨r1, r2⟩, r3, r4⟩ := s6
    exact ⟨⟨by rw [ov_out (by omega)]; exact r1, by rw [ov_out (by omega)]; exact r2⟩, r3, fun i hi => by
      obtain ⟨b, b1, b2⟩ := r4 i hi
      exact ⟨b, b1, solk_sam (hsam _ b b1 (by omega)) b2⟩⟩
  · have := h3 71 p s2 (by decide)
    exact ov_out (by omega)
theorem cur_of (hS : cS G x P c p y fw v) (hc : prbk G c (e, a, mn, fr)) : ∃ g, cur G x c p g e a mn fr := by
  obtain ⟨p1, p2, p3, p4, p5⟩ := cS_p hS
  obtain ⟨h1, g, h2, h3, h4⟩ := hc
  exact ⟨g, p1, p2, p3, h1, h2, h3, h4⟩
theorem prbk_fr {G2 : ah_H} {P2 : Nat → Option Nat} {k : Nat} (hS : cS G x P c p y fw v) (hf : frG G G2 x P P2 k) (hc : prbk G c (e, a, mn, fr)) : prbk G2 c (e, a, mn, fr) := by
  obtain ⟨p1, p2, p3, p4, p5⟩ := cS_p hS
  obtain ⟨s1, s2, s3, s4, s5, s6, s7, s8, s9⟩ := hS
  have key : ∀ b, c ≤ b → b ≤ c + 2 → G2.1 b = G.1 b := fun b h1 h2 => hf.1 b (by omega) (by omega) (fun i b2 hi hn => by
    have := s3.1 70 i c b2 s1 hi (fun z => hn z.symm)
    omega)
  exact prbk_sam ⟨key _ (by omega) (by omega), key _ (by omega) (by omega), key _ (by omega) (by omega)⟩ hc
theorem sym_cg {G2 : ah_H} (hE : ∀ a, E a → G2.1 a = G.1 a) (hEs : E (x + 1) ∧ E (x + 2) ∧ E (x + 3)) (hs : sym G (x + 1) ns ar fn) : sym G2 (x + 1) ns ar fn := ⟨by rw [hE _ hEs.1]; exact hs.1, by rw [show x + 1 + 1 = x + 2 from rfl, hE _ hEs.2.1]; exact hs.2.1, by rw [show x + 1 + 2 = x + 3 from rfl, hE _ hEs.2.2]; exact hs.2.2⟩
theorem m_X6_nw_loop (hA : arl A ns ar) (hEs : E (x + 1) ∧ E (x + 2) ∧ E (x + 3)) (hw : wfq ns A (e, a, mn, fr)) {xx : Nat} (hxx : 100 ≤ xx ∧ xx < 256) {g : ah_H → Nat → List Nat → Int64 → Prop} {u : Nat → List Nat × Int64} (hg : ∀ G G2 : ah_H, (∀ a, E a → G2.1 a = G.1 a) → ∀ a p S, g G a p S → g G2 a p S ∧ G2.1 a = G.1 a) {l2 : Option Value} : ∀ (cs : List Nat) (vc : Value) (G : ah_H) (P : Nat → Option Nat) (p : Nat) (y : rS) (v : sV), (∀ c, c ∈ cs → c < ns) → kch G (g G) u cs vc → cS G x P c p y fw v → prbk G c (e, a, mn, fr) → sym G (x + 1) ns ar fn → dis E G x P → ∃ G2 P2 p2 y2 k, (∀ Q, ae_wp (d + 4) mX6_narrow 5 [some (.ref (x + 15)), some (.int (nI xx)), l2, some vc] [] G Q = Q none G2) ∧ cS G2 x P2 c p2 y2 fw (ptm A e a mn fr xx v cs) ∧ frG G G2 x P P2 k := by
  obtain ⟨wl, wm⟩ := wfq_ans hw
  have hw0 := hw
  obtain ⟨w1, w2, w3, w4, w5, w6, w7⟩ := hw0
  dsimp only at w1 w2 w3 w4 w5 w6 w7 wl wm
  have hns := hA.1
  intro cs
  induction cs with
  | nil =>
    intro vc G P p y v _ hk hS hc hs hd
    have hk : vc = .null := hk
    subst hk
    refine ⟨G, P, p, y, 0, fun Q => ?_, hS, frG_refl _ _ _⟩
    simp (disch := first | exact ae_isR_ref _ | exact ae_isR_null | exact ae_isR_rf _ | exact ae_cat_ref _ | exact ae_cat_int _ | exact ae_cat_null | exact ae_cat_rf _ | exact ae_nz0 | exact ae_nz1 | exact ae_fz0 | exact ae_fz1 | exact cI_na (by omega) | exact cI_ix (by omega) | exact cI_nn (by omega) | exact cI_nz (by omega) | exact cI_cp (by omega) | assumption | omega) only [s_X6_narrow_5, s_X6_narrow_6_N, s_X6_narrow_39, og_0, og_1, og_2, og_3, og_4, og_5, og_6, og_7, og_8, og_9, og_10, og_11, og_12, op_6, op_8, op_9, op_10, op_11, op_12, dg_0, dg_1, dg_2, dg_3, dp_1, dp_2, dp_3, ng_b, ng_d, mz_m, ms_m, ov_2, nset_d, nset_b, uI_1, uI_2, uR_1, uR_21, uR_22, va_rf, Bool.false_eq_true, ae_Ki, ae_Kb, ae_Kj, ae_Ka, ae_Si, ae_Sb, ae_Sj, ae_Sn, List.getElem?_cons_succ, List.getElem?_cons_zero, ↓reduceIte, if_true, if_false, nI_ofNat, true_or, or_true, false_or, or_false, true_and, and_true, false_and, and_false, or_self, and_self, not_true_eq_false, not_false_eq_true, eq_self, List.length_cons, List.length_nil, Nat.reduceAdd, Nat.reduceLT, Nat.reduceSub, List.set_cons_succ, List.set_cons_zero, Option.toList, List.nil_append, List.cons_append, cI_ltT, cI_ltF, cI_leT, cI_leF, cI_eqT, cI_eqF, cI_cl, cN_leT, cN_leF, cN_ltT, cN_ltF, cN_eqT, cN_eqF, cI_add, cI_sub, cI_m1a, cI_m1b, cI_m1c, cI_m1d, cI_m1e, cI_m1f]
  | cons cc cs ih =>
    intro vc G P p y v hcs hk hS hc hs hd
    obtain ⟨n, nx, h2, h3, h4, h5, h6⟩ := hk
    subst h2
    have hcc := hcs cc (by simp)
    have hS0 := hS
    obtain ⟨s1, s2, s3, s4, s5, s6, s7, s8, s9⟩ := hS0
    obtain ⟨g0, hcu⟩ := cur_of hS hc
    obtain ⟨L0, hL0⟩ := dr_any y
    obtain ⟨B, hB⟩ := s8
    have hp := hcu.1
    have hA3 := arl_le hA cc
    obtain ⟨y1, a1, a2, a3, a4, a5, a6⟩ := m_X6_startDraft (d := d + 2) (H := G) hcu hL0
    have hB1 := bd_frm a6 (by decide) (by decide) hB
    obtain ⟨y2, b1, b2, b3, b4, b5⟩ := m_X6_bind (d := d + 2) (H := G) (y := y1) hcu hs hA (hd := cc) (by omega) (fr0 := fr) (by omega) (v := nI xx) hB1.1 (by have := hB1.2.2; omega) a4
    obtain ⟨y3, sz, c1, c2, c3, c4, c5⟩ := m_X6_finishDraft (d := d) (H := G) (y := y2) hcu (i := 0) (by omega) (dr_frm b5 (by decide) (by decide) a2) b2 b4 (by simp)
    rw [sl_all, List.nil_append] at c2 c4
    rw [← s4] at a1
    have hrd : rdy y3 (sbx (nI xx) (bnd A fr cc) e) (sbx (nI xx) (bnd A fr cc) a) mn (fr + A cc) := ⟨c2, by rw [c5.1 20 (by decide), b5.1 20 (by decide)]; exact a3, by rw [c5.1 22 (by decide)]; exact b3, sz, c3, c4⟩
    have h912 : ∀ i, i = 9 ∨ i = 10 ∨ i = 11 ∨ i = 12 → y3.1 i = y.1 i := fun i hi => by
      rcases hi with z | z | z | z <;> subst z <;> rw [c5.1 _ (by decide), b5.1 _ (by decide), a6.1 _ (by decide)]
    obtain ⟨hS3, hf3⟩ := cS_y (y2 := y3) (v2 := v) hS rfl rfl ⟨by rw [h912 9 (by simp)]; exact s7.1, by rw [h912 10 (by simp)]; exact s7.2.1, by rw [h912 11 (by simp)]; exact s7.2.2.1, by rw [h912 12 (by simp)]; exact s7.2.2.2⟩ ⟨_, bd_frm c5 (by decide) (by decide) b2⟩
    have hl1 := sbx_len (v := nI xx) b2.2.2 e
    have hl2 := sbx_len (v := nI xx) b2.2.2 a
    obtain ⟨G4, P4, p4, y4, k4, d1, d2, d3⟩ := m_X6_deliver (d := d) hS3 hrd (by omega) (by omega) (fun z => by omega) (by rw [List.length_append]; omega)
    have hf4 := frG_trans hf3 d3
    rw [Nat.zero_add] at hf4
    obtain ⟨hd4, hE4⟩ := dis_fr hf4 hd
    obtain ⟨G5, P5, p5, y5, k5, i1, i2, i3⟩ := ih nx G4 P4 p4 y4 _ (fun c hc2 => hcs c (by simp [hc2])) (kch_cg (fun a p S hga => hg G G4 hE4 a p S hga) _ _ h6) d2 (prbk_fr hS hf4 hc) (sym_cg hE4 hEs hs) hd4
    refine ⟨G5, P5, p5, y5, k4 + k5, fun Q => ?_, i2, frG_trans hf4 i3⟩
    have hR := kch_isR _ _ h6
    obtain ⟨hd3, hE3⟩ := dis_fr hf3 hd
    have n1 : G.1 n = G.1 n := rfl
    refine Eq.trans ?_ (s_X6_narrow_36.trans (i1 Q))
    have o15 : ∀ yy, (ov G x c p yy).1 (x + 15) = some (.inr (6, of6 x c p yy)) := fun yy => ov_15
    have g15 : G.1 (x + 15) = some (.inr (6, of6 x c p y)) := by rw [s4]; exact ov_15
    have hGn : G4.1 n = G.1 n := ((hg G G4 hE4 n _ _ h5).2)
    have h4' : nfl G4 n 6 = some nx := by rw [nfl_cg hGn]; exact h4
    have hEn1 : (ov G x c p y1).1 n = G.1 n := by
      have hb : ∃ B, bd y1 B := ⟨_, hB1⟩
      have h91 : ∀ i, i = 9 ∨ i = 10 ∨ i = 11 ∨ i = 12 → y1.1 i = y.1 i := fun i hi => by
        rcases hi with z | z | z | z <;> subst z <;> rw [a6.1 _ (by decide)]
      obtain ⟨_, hf1⟩ := cS_y (y2 := y1) (v2 := v) hS rfl rfl ⟨by rw [h91 9 (by simp)]; exact s7.1, by rw [h91 10 (by simp)]; exact s7.2.1, by rw [h91 11 (by simp)]; exact s7.2.2.1, by rw [h91 12 (by simp)]; exact s7.2.2.2⟩ hb
      exact (hg G _ (dis_fr hf1 hd).2 n _ _ h5).2
    have h3' : nfl (ov G x c p y1) n 1 = some (.int (nI cc)) := by rw [nfl_cg hEn1]; exact h3
    simp (disch := first | exact ae_isR_ref _ | exact ae_isR_null | exact ae_isR_rf _ | exact ae_cat_ref _ | exact ae_cat_int _ | exact ae_cat_null | exact ae_cat_rf _ | exact ae_nz0 | exact ae_nz1 | exact ae_fz0 | exact ae_fz1 | exact cI_na (by omega) | exact cI_ix (by omega) | exact cI_nn (by omega) | exact cI_nz (by omega) | exact cI_cp (by omega) | assumption | omega) only [s_X6_narrow_5, s_X6_narrow_6, s_X6_narrow_9, s_X6_narrow_10 g15, s_X6_narrow_13, s_X6_narrow_14, s_X6_narrow_15, s_X6_narrow_16, s_X6_narrow_19 ov_15, s_X6_narrow_22, s_X6_narrow_23, s_X6_narrow_24 ov_15, s_X6_narrow_27, s_X6_narrow_28 ov_15, s_X6_narrow_31, s_X6_narrow_32, s_X6_narrow_35, og_0, og_1, og_2, og_3, og_4, og_5, og_6, og_7, og_8, og_9, og_10, og_11, og_12, op_6, op_8, op_9, op_10, op_11, op_12, dg_0, dg_1, dg_2, dg_3, dp_1, dp_2, dp_3, ng_b, ng_d, mz_m, ms_m, ov_2, nset_d, nset_b, uI_1, uI_2, uR_1, uR_21, uR_22, va_rf, Bool.false_eq_true, ae_Ki, ae_Kb, ae_Kj, ae_Ka, ae_Si, ae_Sb, ae_Sj, ae_Sn, List.getElem?_cons_succ, List.getElem?_cons_zero, ↓reduceIte, if_true, if_false, nI_ofNat, true_or, or_true, false_or, or_false, true_and, and_true, false_and, and_false, or_self, and_self, not_true_eq_false, not_false_eq_true, eq_self, List.length_cons, List.length_nil, Nat.reduceAdd, Nat.reduceLT, Nat.reduceSub, List.set_cons_succ, List.set_cons_zero, Option.toList, List.nil_append, List.cons_append, cI_ltT, cI_ltF, cI_leT, cI_leF, cI_eqT, cI_eqF, cI_cl, cN_leT, cN_leF, cN_ltT, cN_ltF, cN_eqT, cN_eqF, cI_add, cI_sub, cI_m1a, cI_m1b, cI_m1c, cI_m1d, cI_m1e, cI_m1f, a1, gw_nfl h3', b1, c1, d1, gw_nfl h4']
end NAR
