/-! NarrowSolver$Solver: workOn, step -/
def frT (G G2 : ah_H) (x : Nat) (P P2 : Nat → Option Nat) (k : Nat) : Prop := (∀ a, a < G.2.1 → (a < x + 15 ∨ x + 22 < a) → (∀ i b, P i = some b → a < b ∨ b + 2 < a) → G2.1 a = G.1 a) ∧ (G2.2.1 = G.2.1 + 3 * k ∧ G2.2.2.1 = G.2.2.1 + 306 * k ∧ G2.2.2.2 = G.2.2.2 ∧ cnP P2 = cnP P + k) ∧ ∀ i a, P2 i = some a → (∃ j, P j = some a) ∨ G.2.1 ≤ a
theorem frT_refl (G : ah_H) (x : Nat) (P : Nat → Option Nat) : frT G G x P P 0 := ⟨fun _ _ _ _ => rfl, ⟨rfl, rfl, rfl, rfl⟩, fun i a h => Or.inl ⟨i, h⟩⟩
theorem frT_of {G G2 : ah_H} {x : Nat} {P P2 : Nat → Option Nat} {k : Nat} (h : frG G G2 x P P2 k) : frT G G2 x P P2 k := ⟨fun a h1 h2 h3 => h.1 a h1 h2 (fun i b hi _ => h3 i b hi), h.2.1, fun i a hi => by
  rcases h.2.2.2 i a hi with ⟨j, j1, _⟩ | z
  · exact Or.inl ⟨j, j1⟩
  · exact Or.inr z⟩
theorem frT_trans {G G2 G3 : ah_H} {x : Nat} {P P2 P3 : Nat → Option Nat} {k k2 : Nat} (h1 : frT G G2 x P P2 k) (h2 : frT G2 G3 x P2 P3 k2) : frT G G3 x P P3 (k + k2) := by
  obtain ⟨a1, ⟨a2, a3, a4, a5⟩, a7⟩ := h1
  obtain ⟨b1, ⟨b2, b3, b4, b5⟩, b7⟩ := h2
  refine ⟨fun a h3 h4 h5 => ?_, ⟨by omega, by omega, by rw [b4, a4], by omega⟩, fun i a hi => ?_⟩
  · rw [b1 a (by omega) h4 (fun i b hi => ?_), a1 a h3 h4 h5]
    rcases a7 i b hi with ⟨j, j1⟩ | z
    · exact h5 j b j1
    · omega
  · rcases b7 i a hi with ⟨j, j1⟩ | z
    · exact a7 j a j1
    · exact Or.inr (by omega)
theorem dis_frT {E : Nat → Prop} {G G2 : ah_H} {x k : Nat} {P P2 : Nat → Option Nat} (hf : frT G G2 x P P2 k) (hd : dis E G x P) : dis E G2 x P2 ∧ ∀ a, E a → G2.1 a = G.1 a := by
  obtain ⟨f1, ⟨f2, f3, f4, f5⟩, f7⟩ := hf
  refine ⟨fun a ha => ?_, fun a ha => ?_⟩
  · obtain ⟨h1, h2, h3⟩ := hd a ha
    refine ⟨by omega, h2, fun i b hi => ?_⟩
    rcases f7 i b hi with ⟨j, j1⟩ | z
    · exact h3 j b j1
    · omega
  · obtain ⟨h1, h2, h3⟩ := hd a ha
    exact f1 a h1 h2 h3
/-- the current problem and one of the slots change places -/
def tau (s i : Nat) : Nat := if i = 70 then s else if i = s then 70 else i
theorem tau_tau (s i : Nat) : tau s (tau s i) = i := by
  unfold tau
  (repeat' split) <;> omega
theorem tau_inj {s i j : Nat} (h : i ≠ j) : tau s i ≠ tau s j := fun z => h (by rw [← tau_tau s i, z, tau_tau])
theorem cnP_tau {P : Nat → Option Nat} {s : Nat} (h70 : (P 70).isSome = true) (hs : (P s).isSome = true) : cnP (fun i => P (tau s i)) = cnP P := by
  unfold cnP
  refine csm_cg _ (fun i _ => ?_)
  show (P (tau s i)).isSome = (P i).isSome
  unfold tau
  by_cases e : i = 70
  · rw [if_pos e, e, h70, hs]
  · rw [if_neg e]
    by_cases e2 : i = s
    · rw [if_pos e2, e2, h70, hs]
    · rw [if_neg e2]
section STP
variable {d : Nat} {Q : Option Value → ah_H → Prop} {G : ah_H} {x c p : Nat} {P : Nat → Option Nat} {y : rS} {fw : Nat} {v : sV} {e a : List Nat} {mn fr : Nat} {E : Nat → Prop} {A : Nat → Nat} {ns : Nat} {ar fn : Nat → Int32} {F : Nat → Bool} {rl : mR}
theorem m_X6_workOn (hA : arl A ns ar) (hF : fnl F ns fn) (hEs : E (x + 1) ∧ E (x + 2) ∧ E (x + 3)) (hw : wfq ns A (e, a, mn, fr)) (hg : rgo ns A rl) (hgu : rgu ns rl) (hS : cS G x P c p y fw v) (hc : prbk G c (e, a, mn, fr)) (hs : sym G (x + 1) ns ar fn) (hd : dis E G x P) (hR : rlk E G x A ns rl) {at_ : Nat} (hat : at_ < e.length) (hlt : e.getD at_ 0 < ns) : ∃ b G2 P2 p2 y2 k, (∀ Q, ae_wm (d + 6) mX6_workOn [.ref (x + 15), .int (nI at_)] (ov G x c p y) Q = Q (some (.int b)) G2) ∧ frG G G2 x P P2 k ∧ ((b = nI 1 ∧ cS G2 x P2 c p2 y2 fw (wkm A F rl ns e a mn fr v 36000 at_ (bgn A (e.getD at_ 0)) (rof rl (e.getD at_ 0)))) ∨ (b = nI 0 ∧ cS G2 x P2 c p2 y2 fw v ∧ wkm A F rl ns e a mn fr v 36000 at_ (bgn A (e.getD at_ 0)) (rof rl (e.getD at_ 0)) = flm v)) := by
  obtain ⟨wl, wm⟩ := wfq_ans hw
  have w3 := hw.2.2.1
  dsimp only at wl wm w3
  have hns := hA.1
  have h99 := hA.2.2 99 (by omega)
  obtain ⟨g0, hcu⟩ := cur_of hS hc
  have s4 := hS.2.2.2.1
  have hRo : rlk E (ov G x c p y) x A ns rl := by rw [← s4]; exact hR
  obtain ⟨v2, t1, t2⟩ := m_X6_rootFor (d := d + 1) (H := G) (y := y) hcu hns hRo hat hlt
  obtain ⟨m2, hm2⟩ : ∃ m2, rn A (e.drop at_) (m2 + 1) = some 0 := by
    obtain ⟨m, r1, r2⟩ := rn_drop at_ _ w3 (by omega)
    exact ⟨m - 1, by rw [show m - 1 + 1 = m by have := r2 hat; omega]; exact r1⟩
  obtain ⟨b, G2, P2, p2', y2, kk, i1, i2, i3⟩ := m_X6_wk_loop (d := d) hA hF hEs hw hg hgu hS hc hs hd hR (l1 := some (.int (nI at_))) 36000 0 at_ (bgn A (e.getD at_ 0)) (rof rl (e.getD at_ 0)) v2 none none (by omega) (by decide) hat (bgn_mtc hns hm2 hlt) (by
    rcases t2 with ⟨y1, n2, y2', y3⟩ | ⟨y1, y2'⟩
    · refine Or.inl ⟨y1, bgn_wfp h99 hns hg hlt y1, ?_, n2, 120, y2', y3⟩
      rw [bgn_hol A (by omega)]
      omega
    · exact Or.inr ⟨y1, y2'⟩)
  have hvR : ae_isR v2 = true := by
    rcases t2 with ⟨_, n2, y2', _⟩ | ⟨_, y2'⟩
    · rw [y2']; rfl
    · rw [y2']; rfl
  refine ⟨b, G2, P2, p2', y2, kk, fun Q => ?_, i2, i3⟩
  simp (disch := first | exact ae_isR_ref _ | exact ae_isR_null | exact ae_isR_rf _ | exact ae_cat_ref _ | exact ae_cat_int _ | exact ae_cat_null | exact ae_cat_rf _ | exact ae_nz0 | exact ae_nz1 | exact ae_fz0 | exact ae_fz1 | exact cI_na (by omega) | exact cI_ix (by omega) | exact cI_nn (by omega) | exact cI_nz (by omega) | exact cI_cp (by omega) | assumption | omega) only [s_X6_workOn_0, s_X6_workOn_1, s_X6_workOn_2, s_X6_workOn_3, s_X6_workOn_4 ov_15, s_X6_workOn_7, s_X6_workOn_8, s_X6_workOn_9, e_X6_workOn, og_0, og_1, og_2, og_3, og_4, og_5, og_6, og_7, og_8, og_9, og_10, og_11, og_12, op_6, op_8, op_9, op_10, op_11, op_12, dg_0, dg_1, dg_2, dg_3, dp_1, dp_2, dp_3, ng_b, ng_d, mz_m, ms_m, ov_2, nset_d, nset_b, uI_1, uI_2, uR_1, uR_21, uR_22, va_rf, Bool.false_eq_true, ae_Ki, ae_Kb, ae_Kj, ae_Ka, ae_Si, ae_Sb, ae_Sj, ae_Sn, List.getElem?_cons_succ, List.getElem?_cons_zero, ↓reduceIte, if_true, if_false, nI_ofNat, true_or, or_true, false_or, or_false, true_and, and_true, false_and, and_false, or_self, and_self, not_true_eq_false, not_false_eq_true, eq_self, List.length_cons, List.length_nil, Nat.reduceAdd, Nat.reduceLT, Nat.reduceSub, List.set_cons_succ, List.set_cons_zero, Option.toList, List.nil_append, List.cons_append, cI_ltT, cI_ltF, cI_leT, cI_leF, cI_eqT, cI_eqF, cI_cl, cN_leT, cN_leF, cN_ltT, cN_ltF, cN_eqT, cN_eqF, cI_add, cI_sub, cI_m1a, cI_m1b, cI_m1c, cI_m1d, cI_m1e, cI_m1f, t1, i1]
/-- the first problem becomes the current one -/
theorem cS_take (hS : cS G x P c p y fw v) (hw : 0 < v.1.length) : ∃ c2, (P fw = some c2 ∧ prbk (ah_set (rset G (x + 16) 40 (va_up (fun i => if i < 40 then P i else none) fw (some c)) ((fw + 1) % 40) (v.1.length - 1)) (x + 15) (.inr (6, of6 x c2 p y))) c2 (wat v.1 0)) ∧ cS (ah_set (rset G (x + 16) 40 (va_up (fun i => if i < 40 then P i else none) fw (some c)) ((fw + 1) % 40) (v.1.length - 1)) (x + 15) (.inr (6, of6 x c2 p y))) x (fun i => P (tau fw i)) c2 p y ((fw + 1) % 40) (v.1.tail, v.2) ∧ frT G (ah_set (rset G (x + 16) 40 (va_up (fun i => if i < 40 then P i else none) fw (some c)) ((fw + 1) % 40) (v.1.length - 1)) (x + 15) (.inr (6, of6 x c2 p y))) x P (fun i => P (tau fw i)) 0 := by
  obtain ⟨p1, p2, p3, p4, p5⟩ := cS_p hS
  obtain ⟨s1, s2, s3, s4, s5, s6, s7, s8, s9⟩ := hS
  obtain ⟨⟨r1, r2⟩, r3, r4, r5⟩ := s5
  obtain ⟨⟨z1, z2⟩, z3, z4⟩ := s6
  obtain ⟨c2, k1, k2⟩ := r5 0 hw
  rw [show (fw + 0) % 40 = fw by omega] at k1
  have hfr : ∀ a, a ≠ x + 15 → a ≠ x + 16 → a ≠ x + 17 → (ah_set (rset G (x + 16) 40 (va_up (fun i => if i < 40 then P i else none) fw (some c)) ((fw + 1) % 40) (v.1.length - 1)) (x + 15) (.inr (6, of6 x c2 p y))).1 a = G.1 a := fun a h2 h3 h4 => by rw [hs_ne h2, rset_at h3 h4]
  have hsam : ∀ i a, P i = some a → sam G (ah_set (rset G (x + 16) 40 (va_up (fun i => if i < 40 then P i else none) fw (some c)) ((fw + 1) % 40) (v.1.length - 1)) (x + 15) (.inr (6, of6 x c2 p y))) a := fun i a hi => by
    have := s3.2 i a hi
    exact ⟨hfr _ (by omega) (by omega) (by omega), hfr _ (by omega) (by omega) (by omega), hfr _ (by omega) (by omega) (by omega)⟩
  have t71 : tau fw 71 = 71 := by unfold tau; rw [if_neg (by decide), if_neg (by omega)]
  have tat : ∀ i, i ≠ 70 → i ≠ fw → tau fw i = i := fun i h1 h2 => by unfold tau; rw [if_neg h1, if_neg h2]
  have t70 : tau fw 70 = fw := by unfold tau; rw [if_pos rfl]
  have tfw : tau fw fw = 70 := by unfold tau; rw [if_neg (by omega), if_pos rfl]
  have g20 : G.1 (x + 20) = some (.inr (1, [.ref (x + 21), .int (y.1 30)])) := by rw [s4]; exact ov_20
  have g21 : G.1 (x + 21) = some (.inl (0, 4, .inl (y.2.1 0))) := by rw [s4]; exact ov_21
  have g22 : G.1 (x + 22) = some (.inl (0, 10, .inl (y.2.1 1))) := by rw [s4]; exact ov_22
  have hl : v.1.tail.length = v.1.length - 1 := List.length_tail
  refine ⟨c2, ⟨k1, prbk_sam (hsam _ c2 k1) k2⟩, ⟨by show P (tau fw 70) = _; rw [t70]; exact k1, by show P (tau fw 71) = _; rw [t71]; exact s2, ⟨fun i j a b hi hj hij => s3.1 _ _ a b hi hj (tau_inj hij), fun i a hi => ⟨(s3.2 _ a hi).1, (s3.2 _ a hi).2.1, psh_sam (hsam _ a hi) (s3.2 _ a hi).2.2⟩⟩, ov_mk (hs_eq rfl) (by rw [hfr _ (by omega) (by omega) (by omega)]; exact g20) (by rw [hfr _ (by omega) (by omega) (by omega)]; exact g21) (by rw [hfr _ (by omega) (by omega) (by omega)]; exact g22) ?_ ?_ ?_, ⟨⟨?_, ?_⟩, Nat.mod_lt _ (by decide), ?_, fun i hi => ?_⟩, ⟨⟨?_, ?_⟩, z3, fun i hi => ?_⟩, s7, s8, s9⟩, ⟨fun b h1 h2 h3 => hfr b (by omega) (by omega) (by omega), ⟨rfl, rfl, rfl, cnP_tau (by rw [s1]; rfl) (by rw [k1]; rfl)⟩, fun i b hi => Or.inl ⟨_, hi⟩⟩⟩
  · rw [hfr _ (by omega) (by omega) (by omega), s4]; exact ov_p p1
  · rw [hfr _ (by omega) (by omega) (by omega), s4]; exact ov_p1 p1
  · rw [hfr _ (by omega) (by omega) (by omega), s4]; exact ov_p2 p1
  · rw [hs_ne (by omega)]
    dsimp only
    rw [hl]
    exact rset_r.1
  · rw [hs_ne (by omega)]
    have e1 : va_up (fun i => if i < 40 then P i else none) fw (some c) = fun i => if i < 40 then P (tau fw i) else none := by
      funext i
      simp only [va_up]
      by_cases e1 : i = fw
      · rw [if_pos e1, if_pos (by omega), e1, tfw, s1]
      · rw [if_neg e1]
        by_cases e2 : i < 40
        · rw [if_pos e2, if_pos e2, tat i (by omega) e1]
        · rw [if_neg e2, if_neg e2]
    rw [← e1]
    exact rset_r.2
  · dsimp only
    omega
  · dsimp only at hi
    rw [hl] at hi
    obtain ⟨b, b1, b2⟩ := r5 (i + 1) (by omega)
    refine ⟨b, ?_, ?_⟩
    · show P (tau fw (((fw + 1) % 40 + i) % 40)) = some b
      rw [show ((fw + 1) % 40 + i) % 40 = (fw + (i + 1)) % 40 by omega, tat _ (by omega) (by omega)]
      exact b1
    · rw [wat_tail]
      exact prbk_sam (hsam _ b b1) b2
  · rw [hfr _ (by omega) (by omega) (by omega)]; exact z1
  · rw [hfr _ (by omega) (by omega) (by omega), z2]
    have e1 : (fun i => if i < 30 then P (40 + i) else none) = fun i => if i < 30 then P (tau fw (40 + i)) else none := by
      funext i
      by_cases e2 : i < 30
      · rw [if_pos e2, if_pos e2, tat _ (by omega) (by omega)]
      · rw [if_neg e2, if_neg e2]
    rw [e1]
  · have hi : i < v.2.1.length := hi
    obtain ⟨b, b1, b2⟩ := z4 i hi
    exact ⟨b, by show P (tau fw (40 + i)) = some b; rw [tat _ (by omega) (by omega)]; exact b1, solk_sam (hsam _ b b1) b2⟩
end STP
