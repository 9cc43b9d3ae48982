/-! both sides: symbol, feed, rule, problem, solve -/
section SIN
variable {Q : Option Value → ah_H → Prop} {G G1 : ah_H} {x b L : Nat} {xs : Nat → Int32} {j ns : Nat} {A : Nat → Nat} {F : Nat → Bool} {tp : List Nat} {rl : mR} {v : sV}
theorem kep_frT {P : Nat → Option Nat} {c p : Nat} {y : rS} {fw : Nat} {ar fn : Nat → Int32} {ro : Nat → Nat} {sp : Nat} {lf tf : Nat → Option Nat} {T : List Nat} {nn cc : Nat → Nat} {fe : Nat → Option Nat} (h : cix G x ns A F tp rl v P c p y fw ar fn ro sp lf tf T nn cc fe) (hE : ∀ a, Es G x ro a → G1.1 a = G.1 a) (hb : ro b = 0) (hbx : b < x) : kep G G1 x b := by
  have h4 := h.2.2.2.1.2.2.2.2.2.2.2.2
  exact ⟨fun a q1 q2 => hE a ⟨by omega, by omega, by rw [h.2.2.2.2.2.2.2 a q1 q2]; omega⟩, hE b ⟨by omega, by omega, by omega⟩⟩
theorem sim_solve {n : Int32} (h : RLz G x b L xs j) : both mX10_solve mX11_solve [.int n] G x b L xs j := by
  have h0 := h
  obtain ⟨ns, A, F, tp, rl, v, hC, ⟨s, r1, r2, r3, r4, r5⟩, hm, hb⟩ := h
  by_cases c : nI 1 ≤ n ∧ n ≤ nI 2000
  · obtain ⟨k, hk, rfl⟩ : ∃ k, (1 ≤ k ∧ k ≤ 2000) ∧ n = nI k := by
      rcases i32_cases n with w | ⟨k, hk, rfl⟩
      · exfalso
        have h1 := Int32.le_iff_toInt_le.mp c.1
        have h2 := Int32.lt_iff_toInt_lt.mp w
        rw [toInt_nI (by omega)] at h1 h2
        omega
      · have h1 := Int32.le_iff_toInt_le.mp c.1
        have h2 := Int32.le_iff_toInt_le.mp c.2
        rw [toInt_nI (by omega), toInt_nI hk] at h1
        rw [toInt_nI hk, toInt_nI (by omega)] at h2
        exact ⟨k, by omega, rfl⟩
    obtain ⟨P, c0, p, y, fw, ar, fn, ro, sp, lf, tf, T, nn, cc, fe, hc, hl, hb0, hbx⟩ := hC
    obtain ⟨G1, P2, c2, p2, y2, fw2, kk, g1, g2, g3, g4⟩ := m_X10_solve (d := 4) (E := Es G x ro) hc.2.1.2.1 hc.2.1.2.2 ⟨cix_fix hc (k := 1) (by omega) (by omega) (by omega), cix_fix hc (k := 2) (by omega) (by omega) (by omega), cix_fix hc (k := 3) (by omega) (by omega) (by omega)⟩ (cix_fix hc (k := 0) (by omega) (by omega) (by omega)) hm.1 hm.2.1 hk hc.1 hc.2.2.2.1 hm.2.2.2 hc.2.1.1 (cix_dis hc) (cix_rlk hc)
    obtain ⟨ci, hE, hro⟩ := cix_frT hc g2 g4
    have hkp := kep_frT hc hE hb0 hbx
    have e := rh_kep r1 hkp
    obtain ⟨s2, q1, q2, q3, q4⟩ := m_X11_solve (d := 5) (h := G1) (q := x + 29) hk hm.1 hm.2.1 hm.2.2.1 ⟨r2, r3⟩ r5 hm.2.2.2
    rw [e] at q1
    have hN := hc.2.2.2.1.2.2.2.2.2.2.2.2
    have hC1 : CIz G1 x b ns A F tp rl (slm A F rl ns k v) (x + 236) 90000 (j + 1) := by
      refine ⟨_, _, _, _, _, _, _, _, _, _, _, _, _, _, _, ci, ?_, by rw [hro b (by omega)]; exact hb0, hbx⟩
      obtain ⟨l1, l2⟩ := hl
      obtain ⟨-, ⟨n1, n2, n3, n4⟩, -⟩ := g4
      exact ⟨by omega, by omega⟩
    exact ⟨G1, _, _, g1, q1, sim_fin hC1 hkp hb (fr_U q4 (by decide) (by decide) (by decide) (by decide) (by decide) (by decide) r2) (fr_F q4 (by decide) r3) (fr_T q4 (by decide) (by decide) r4) q2 ⟨hm.1, hm.2.1, hm.2.2.1, g3⟩, hkp⟩
  · have g := fun Q => m_X11_solve_bad (d := 5) (Q := Q) (h := G) (q := x + 29) (s := s) c
    rw [r1] at g
    exact ⟨G, G, _, fun Q => m_X10_solve_bad (d := 12) c, g, RLz_j h0, kep_refl _ _ _⟩
theorem sim_problem (h : RLz G x b L xs j) : both mX10_problem mX11_problem [] G x b L xs j := by
  have h0 := h
  obtain ⟨ns, A, F, tp, rl, v, hC, ⟨s, r1, r2, r3, r4, r5⟩, hm, hb⟩ := h
  have hC0 := hC
  obtain ⟨P, c0, p, y, fw, ar, fn, ro, sp, lf, tf, T, nn, cc, fe, hc, hl, hb0, hbx⟩ := hC
  have hN := hc.2.2.2.1.2.2.2.2.2.2.2.2
  have htl : tp.length ≤ 120 := by obtain ⟨_, _, _, t3, _⟩ := hc.2.2.1; exact t3
  have rp := m_X11_problem2 (d := 9) (h := G) (q := x + 29) (s := s) (tp := tp) (A := A) (ns := ns) r4 r2.1 r2.2.2
  cases hp : prb A ns tp with
  | inl f =>
    have hf0 : f < nI 0 := by
      unfold prb at hp
      cases e : prl A ns tp 121 0 0 with
      | inl w =>
        rw [e] at hp
        have hp : (Sum.inl w : Int32 ⊕ Nat) = .inl f := hp
        cases hp
        exact prl_inl _ _ _ _ e
      | inr t =>
        rw [e] at hp
        dsimp only at hp
        by_cases ct : t % 2 = 1
        · rw [if_pos ct] at hp; cases hp; decide +kernel
        · rw [if_neg ct] at hp; cases hp
    obtain ⟨g, g1, g2⟩ := m_X10_problem_bad (d := 9) hc.1 hc.2.1.1 hc.2.1.2.1 hc.2.2.1 hp hf0
    obtain ⟨k1, k2, k3⟩ := cix_low (G2 := nset G (x + 4) 120 g 0) hc (fun a ha => nset_ne ⟨by omega, by omega⟩) rfl ⟨sym_cg3 (fun a q1 q2 => nset_ne ⟨by omega, by omega⟩) hc.2.1.1, hc.2.1.2⟩ g1 hc.2.2.2.2.1
    have hkp : kep G (nset G (x + 4) 120 g 0) x b := ⟨k2.1, k3 b hbx⟩
    have e := rh_kep r1 hkp
    have rp2 := m_X11_problem2 (d := 9) (h := nset G (x + 4) 120 g 0) (q := x + 29) (s := s) (tp := tp) (A := A) (ns := ns) r4 r2.1 r2.2.2
    rw [hp] at rp2
    have rp2 : ∀ Q, ae_wm (9 + 3) mX11_problem [.ref (x + 29)] (rh (nset G (x + 4) 120 g 0) (x + 29) s) Q = Q (some (.int f)) (rh (nset G (x + 4) 120 g 0) (x + 29) (uI s 4 (nI 0))) := rp2
    rw [e] at rp2
    have fr := frm_uI s 4 (nI 0)
    exact ⟨_, _, f, g2, rp2, sim_fin (CIz_j ⟨P, c0, p, y, fw, ar, fn, ro, sp, lf, tf, T, nn, cc, fe, k1, hl, hb0, hbx⟩) hkp hb (fr_U fr (by decide) (by decide) (by decide) (by decide) (by decide) (by decide) r2) (fr_F fr (by decide) r3) ⟨rfl, fun i hi => absurd hi (Nat.not_lt_zero _), by simp, fun i hi => absurd hi (Nat.not_lt_zero _)⟩ (fr_S fr (by decide) (by decide) (by decide) (by decide) (by decide) (by decide) (by decide) (by decide) (by decide) (by decide) (by decide) (by decide) r5) hm, hkp⟩
  | inr mn =>
    obtain ⟨b1, b2, b3, b4⟩ := prb_inr hp htl
    obtain ⟨G1, P2, p2, y2, kk, g, g1, g2, g3⟩ := m_X10_problem (d := 7) hc.1 hc.2.1.1 hc.2.1.2.1 hc.2.2.1 hc.2.2.2.1 hp
    obtain ⟨ci, hE, hro⟩ := cix_frT hc g2 g3
    have hkp0 := kep_frT hc hE hb0 hbx
    have tp2 : tpk (nset G1 (x + 4) 120 g 0) x [] := ⟨g, nset_nmb _ _ _ _ _, fun i hi => absurd hi (Nat.not_lt_zero _), by simp, fun i hi => absurd hi (Nat.not_lt_zero _)⟩
    obtain ⟨k1, k2, k3⟩ := cix_low (G2 := nset G1 (x + 4) 120 g 0) ci (fun a ha => nset_ne ⟨by omega, by omega⟩) rfl ⟨sym_cg3 (fun a q1 q2 => nset_ne ⟨by omega, by omega⟩) ci.2.1.1, ci.2.1.2⟩ tp2 ci.2.2.2.2.1
    have hkp : kep G (nset G1 (x + 4) 120 g 0) x b := kep_trans hkp0 ⟨k2.1, k3 b hbx⟩
    have e := rh_kep r1 hkp
    have rp2 := m_X11_problem2 (d := 9) (h := nset G1 (x + 4) 120 g 0) (q := x + 29) (s := s) (tp := tp) (A := A) (ns := ns) r4 r2.1 r2.2.2
    rw [hp] at rp2
    obtain ⟨s2, q1, q2, q3, q4⟩ := rp2
    rw [e] at q1
    have hC1 : CIz (nset G1 (x + 4) 120 g 0) x b ns A F [] rl (svb tp mn) (x + 236) 90000 (j + 1) := by
      refine ⟨_, _, _, _, _, _, _, _, _, _, _, _, _, _, _, k1, ?_, by rw [hro b (by omega)]; exact hb0, hbx⟩
      obtain ⟨l1, l2⟩ := hl
      obtain ⟨-, ⟨n1, n2, n3, n4⟩, -⟩ := g3
      exact ⟨by show G1.2.1 ≤ _; omega, by show G1.2.2.1 ≤ _; omega⟩
    have hA0 : ∀ z, 24 ≤ z → A z = 0 := fun z hz => hc.2.1.2.1.2.2 z (by have := hc.2.1.2.1.1; omega)
    exact ⟨_, _, nI mn, g1, q1, sim_fin hC1 hkp hb (fr_U q3 (by decide) (by decide) (by decide) (by decide) (by decide) (by decide) r2) (fr_F q3 (by decide) r3) ⟨q4, fun i hi => absurd hi (Nat.not_lt_zero _), by simp, fun i hi => absurd hi (Nat.not_lt_zero _)⟩ q2 ⟨hm.1, hm.2.1, hm.2.2.1, svb_wf hA0 htl b3 b4⟩, hkp⟩
theorem sim_feed {w : Int64} {n : Int32} (h : RLz G x b L xs j) : both mX10_feed mX11_feed [.long w, .int n] G x b L xs j := by
  have h0 := h
  obtain ⟨ns, A, F, tp, rl, v, hC, ⟨s, r1, r2, r3, r4, r5⟩, hm, hb⟩ := h
  by_cases c : nI 1 ≤ n ∧ n ≤ nI 7
  · obtain ⟨k, hk, rfl⟩ : ∃ k, (1 ≤ k ∧ k ≤ 7) ∧ n = nI k := by
      rcases i32_cases n with w | ⟨k, hk, rfl⟩
      · exfalso
        have h1 := Int32.le_iff_toInt_le.mp c.1
        have h2 := Int32.lt_iff_toInt_lt.mp w
        rw [toInt_nI (by omega)] at h1 h2
        omega
      · have h1 := Int32.le_iff_toInt_le.mp c.1
        have h2 := Int32.le_iff_toInt_le.mp c.2
        rw [toInt_nI (by omega), toInt_nI hk] at h1
        rw [toInt_nI hk, toInt_nI (by omega)] at h2
        exact ⟨k, by omega, rfl⟩
    obtain ⟨P, c0, p, y, fw, ar, fn, ro, sp, lf, tf, T, nn, cc, fe, hc, hl, hb0, hbx⟩ := hC
    by_cases cf : 120 < tp.length + k
    · have g := fun Q => m_X11_feed_full (d := 11) (Q := Q) (h := G) (q := x + 29) (s := s) (w := w) hk r4 cf
      rw [r1] at g
      exact ⟨G, G, _, fun Q => m_X10_feed_full (d := 12) hc.1 hk hc.2.2.1 cf, g, RLz_j h0, kep_refl _ _ _⟩
    · obtain ⟨f2, g1, g2⟩ := m_X10_feed (d := 11) (w := w) hc.1 hk hc.2.2.1 (by omega)
      obtain ⟨k1, k2, k3⟩ := cix_low (G2 := nset G (x + 4) 120 f2 (tp.length + k)) hc (fun a ha => nset_ne ⟨by omega, by omega⟩) rfl ⟨sym_cg3 (fun a q1 q2 => nset_ne ⟨by omega, by omega⟩) hc.2.1.1, hc.2.1.2⟩ g2 hc.2.2.2.2.1
      have hkp : kep G (nset G (x + 4) 120 f2 (tp.length + k)) x b := ⟨k2.1, k3 b hbx⟩
      have e := rh_kep r1 hkp
      obtain ⟨s2, q1, q2, q3⟩ := m_X11_feed (d := 11) (h := nset G (x + 4) 120 f2 (tp.length + k)) (q := x + 29) (w := w) hk r4 (by omega)
      rw [e] at q1
      exact ⟨_, _, _, g1, q1, sim_fin (CIz_j ⟨P, c0, p, y, fw, ar, fn, ro, sp, lf, tf, T, nn, cc, fe, k1, hl, hb0, hbx⟩) hkp hb (fr_U q3 (by decide) (by decide) (by decide) (by decide) (by decide) (by decide) r2) (fr_F q3 (by decide) r3) q2 (fr_S q3 (by decide) (by decide) (by decide) (by decide) (by decide) (by decide) (by decide) (by decide) (by decide) (by decide) (by decide) (by decide) r5) hm, hkp⟩
  · have g := fun Q => m_X11_feed_bad (d := 11) (Q := Q) (h := G) (q := x + 29) (s := s) (w := w) c
    rw [r1] at g
    exact ⟨G, G, _, fun Q => m_X10_feed_bad (d := 12) c, g, RLz_j h0, kep_refl _ _ _⟩
theorem sim_rule (h : RLz G x b L xs j) : both mX10_rule mX11_rule [] G x b L xs j := by
  obtain ⟨ns, A, F, tp, rl, v, hC, ⟨s, r1, r2, r3, r4, r5⟩, hm, hb⟩ := h
  have bad : ∀ w, ruf A F ns tp rl.length = w → w < nI 0 → both mX10_rule mX11_rule [] G x b L xs j := fun w hw hn => by
    obtain ⟨G1, g1, g2, g3⟩ := m_X10_rule_bad (d := 1) hC hw hn
    have e := rh_kep r1 g3
    have q := fun Q => m_X11_rule_bad (d := 6) (Q := Q) (h := G1) (q := x + 29) r4 r2 r3 hw hn
    rw [e] at q
    have fr := frm_uI s 4 (nI 0)
    exact ⟨G1, _, w, g1, q, sim_fin (CIz_j g2) g3 hb (fr_U fr (by decide) (by decide) (by decide) (by decide) (by decide) (by decide) r2) (fr_F fr (by decide) r3) ⟨rfl, fun i hi => absurd hi (Nat.not_lt_zero _), by simp, fun i hi => absurd hi (Nat.not_lt_zero _)⟩ (fr_S fr (by decide) (by decide) (by decide) (by decide) (by decide) (by decide) (by decide) (by decide) (by decide) (by decide) (by decide) (by decide) r5) hm, g3⟩
  have m11 : (-11 : Int32) < nI 0 := by decide +kernel
  have m12 : (-12 : Int32) < nI 0 := by decide +kernel
  have m13 : (-13 : Int32) < nI 0 := by decide +kernel
  cases e0 : rdt A ns tp 0 with
  | inl w =>
    have hw : ruf A F ns tp rl.length = w := by unfold ruf; rw [e0]
    rcases rdo_inl _ _ _ _ e0 with z | z <;> exact bad w hw (by rw [z]; assumption)
  | inr l =>
    cases e1 : rdt A ns tp l with
    | inl w =>
      have hw : ruf A F ns tp rl.length = w := by unfold ruf; rw [e0]; dsimp only; rw [e1]
      rcases rdo_inl _ _ _ _ e1 with z | z <;> exact bad w hw (by rw [z]; assumption)
    | inr e =>
      have hll : l ≤ tp.length := (rdo_inr _ _ _ _ (by omega) e0).2.1
      have hee : e ≤ tp.length := (rdo_inr _ _ _ _ (by omega) e1).2.1
      by_cases c1 : e < tp.length
      · exact bad (-13) (by unfold ruf; rw [e0]; dsimp only; rw [e1]; dsimp only; rw [if_pos c1]) m13
      · have ee : e = tp.length := by omega
        subst ee
        rcases fot_vals F tp l rl.length with hz | hz
        · -- the rule is as it should be
          obtain ⟨d1, d2, d3, d4, d5⟩ := rdt_two e0 e1
          obtain ⟨f1, f2, f3, f4, f5⟩ := fot_ng hz
          obtain ⟨G1, g1, g2, g3⟩ := m_X10_rule_ok (d := 1) hC hm.1 e0 e1 hz
          have er := rh_kep r1 g3
          obtain ⟨s2, q1, q2, q3, q4⟩ := m_X11_rule_ok (d := 6) (h := G1) (q := x + 29) r4 r2 hm.1 r3 e0 e1 hz
          rw [er] at q1
          have hns := r2.1.1
          have h99 : A 99 = 0 := r2.1.2.2 99 (by omega)
          have htl := r4.2.2.1
          have hlen : rl.length < 40 := by have := hm.1.1; omega
          have hgx := rgo_app hm.1 hlen htl (kn1_knw d2) d1 d3
          have frF := fr_F q4 (by decide) r3
          have frS := fr_S q4 (by decide) (by decide) (by decide) (by decide) (by decide) (by decide) (by decide) (by decide) (by decide) (by decide) (by decide) (by decide) r5
          have frA : arl A ns (s2.2.1 2) := by rw [q4.2.1 2 (by decide)]; exact r2.1
          have fr0 : s2.1 0 = nI ns := by rw [q4.1 0 (by decide)]; exact r2.2.2
          have ft : rTape s2 [] := ⟨q3, fun i hi => absurd hi (Nat.not_lt_zero _), by simp, fun i hi => absurd hi (Nat.not_lt_zero _)⟩
          cases hlt : ltr A (rl ++ [(tp, l)]) ns (tp.getD 0 0) with
          | none =>
            rw [hlt] at g1 g2 q1 q2
            exact ⟨G1, _, _, g1, q1, sim_fin g2 g3 hb ⟨frA, q2, fr0⟩ frF ft frS hm, g3⟩
          | some L2 =>
            rw [hlt] at g1 g2 q1 q2
            exact ⟨G1, _, _, g1, q1, sim_fin g2 g3 hb ⟨frA, q2, fr0⟩ frF ft frS ⟨hgx, rgu_app hm.2.1 d2 d5 f4, okT_app h99 hns hlen hm.1 hm.2.2.1 hlt, hm.2.2.2⟩, g3⟩
        · exact bad _ (by unfold ruf; rw [e0]; dsimp only; rw [e1]; dsimp only; rw [if_neg c1]) hz
theorem sim_symbol {bo : Bool} {many : Int32} (h : RLz G x b L xs j) : both mX10_symbol mX11_symbol [.int (if bo = true then nI 1 else nI 0), .int many] G x b L xs j := by
  have h0 := h
  obtain ⟨ns, A, F, tp, rl, v, hC, ⟨s, r1, r2, r3, r4, r5⟩, hm, hb⟩ := h
  by_cases c : nI (if bo = true then 1 else 0) ≤ many ∧ many ≤ nI 3
  · obtain ⟨P, c0, p, y, fw, ar, fn, ro, sp, lf, tf, T, nn, cc, fe, hc, hl, hb0, hbx⟩ := hC
    have hns := hc.2.1.2.1.1
    have g1 := fun Q => m_X10_symbol (d := 11) (Q := Q) hc.1 hc.2.1.1 hns c
    by_cases cn : ns = 24
    · have g1 := fun Q => (g1 Q).trans (if_pos cn)
      have g := fun Q => m_X11_symbol_full (d := 11) (Q := Q) (h := G) (q := x + 29) (s := s) c (by rw [r2.2.2, cn])
      rw [r1] at g
      exact ⟨G, G, _, g1, g, RLz_j h0, kep_refl _ _ _⟩
    · have g1 := fun Q => (g1 Q).trans (if_neg cn)
      obtain ⟨k, hk, rfl⟩ : ∃ k, k ≤ 3 ∧ many = nI k := by
        rcases i32_cases many with w | ⟨k, hk, rfl⟩
        · exfalso
          have h1 := Int32.le_iff_toInt_le.mp c.1
          have h2 := Int32.lt_iff_toInt_lt.mp w
          have hbo : (if bo = true then 1 else 0) ≤ 1 := by cases bo <;> decide
          rw [toInt_nI (by omega)] at h1
          rw [toInt_nI (by omega)] at h2
          omega
        · have h2 := Int32.le_iff_toInt_le.mp c.2
          rw [toInt_nI hk, toInt_nI (by omega)] at h2
          exact ⟨k, by omega, rfl⟩
      have hA2 : ∀ z, z < ns ∨ 99 ≤ z → (fun z => if z = ns then k else A z) z = A z := fun z hz => if_neg (by omega)
      have hx2 : ext ns A rl (ns + 1) (fun z => if z = ns then k else A z) rl := ⟨by omega, by omega, hA2, Nat.le_refl _, hm.1.1, fun _ _ => rfl⟩
      have arl2 : ∀ a : Nat → Int32, arl A ns a → arl (fun z => if z = ns then k else A z) (ns + 1) (upd a ns (nI k)) := fun a ha => ⟨by omega, fun z hz => by
        by_cases e : z = ns
        · subst e; simp [upd, hk]
        · simp only [upd, if_neg e]; exact ha.2.1 z (by omega), fun z hz => by
        show (if z = ns then k else A z) = 0
        rw [if_neg (by omega)]
        exact ha.2.2 z (by omega)⟩
      have fnl2 : ∀ f : Nat → Int32, fnl F ns f → fnl (fun z => if z = ns then bo else F z) (ns + 1) (upd f ns (if bo = true then nI 1 else nI 0)) := fun f hf => ⟨fun z hz => by
        by_cases e : z = ns
        · subst e; simp [upd]
        · simp only [upd, if_neg e]; exact hf.1 z (by omega), fun z hz => by
        show (if z = ns then bo else F z) = false
        rw [if_neg (by omega)]
        exact hf.2 z (by omega)⟩
      have h99 : A 99 = 0 := hc.2.1.2.1.2.2 99 (by omega)
      have sy : sym (smset G (x + 1) (ns + 1) (upd ar ns (nI k)) (upd fn ns (if bo = true then nI 1 else nI 0))) (x + 1) (ns + 1) (upd ar ns (nI k)) (upd fn ns (if bo = true then nI 1 else nI 0)) := by
        unfold smset
        exact ⟨hs_eq rfl, by rw [hs_ne (by omega)]; exact hs_eq rfl, by rw [hs_ne (by omega), hs_ne (by omega)]; exact hs_eq rfl⟩
      have sne : ∀ a, a < x + 1 ∨ x + 3 < a → (smset G (x + 1) (ns + 1) (upd ar ns (nI k)) (upd fn ns (if bo = true then nI 1 else nI 0))).1 a = G.1 a := fun a ha => by
        unfold smset
        rw [hs_ne (by omega), hs_ne (by omega), hs_ne (by omega)]
      have s22 : (smset G (x + 1) (ns + 1) (upd ar ns (nI k)) (upd fn ns (if bo = true then nI 1 else nI 0))).2 = G.2 := rfl
      generalize smset G (x + 1) (ns + 1) (upd ar ns (nI k)) (upd fn ns (if bo = true then nI 1 else nI 0)) = G1 at g1 sy sne s22
      obtain ⟨k1, k2, k3⟩ := cix_low (G2 := G1) hc (fun a ha => sne a (by omega)) s22 ⟨sy, arl2 _ hc.2.1.2.1, fnl2 _ hc.2.1.2.2⟩ (tpk_cg (sne _ (by omega)) (sne _ (by omega)) hc.2.2.1) (rsK_sym h99 hx2 hm.1 hc.2.2.2.2.1)
      have hkp : kep G G1 x b := ⟨k2.1, k3 b hbx⟩
      have e := rh_kep r1 hkp
      have q := fun Q => m_X11_symbol_ok (d := 11) (Q := Q) (h := G1) (q := x + 29) (s := s) c r2.2.2 (by omega)
      rw [e] at q
      have hl2 : ldg G1 P T nn cc (x + 236) 90000 j := by unfold ldg; rw [s22]; exact hl
      refine ⟨G1, _, _, g1, q, sim_fin (CIz_j ⟨P, c0, p, y, fw, _, _, ro, sp, lf, tf, T, nn, cc, fe, k1, hl2, hb0, hbx⟩) hkp hb ⟨arl2 _ r2.1, ?_, rfl⟩ (fnl2 _ r3) r4 r5 ⟨ext_rgo hx2 hm.1, rgu_sym (by omega) hm.2.1, okT_sym h99 hx2 hm.1 hm.2.2.1, svW_sym (by omega) hA2 hm.2.2.2⟩, hkp⟩
      exact r2.2.1
  · have g := fun Q => m_X11_symbol_bad (d := 11) (Q := Q) (h := G) (q := x + 29) (s := s) c
    rw [r1] at g
    exact ⟨G, G, _, fun Q => m_X10_symbol_bad (d := 11) c, g, RLz_j h0, kep_refl _ _ _⟩
end SIN
