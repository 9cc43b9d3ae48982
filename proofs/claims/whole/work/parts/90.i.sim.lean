/-! both sides: the class and the reference hold the same -/
def rrl (G : ah_H) (x ns : Nat) (A : Nat → Nat) (F : Nat → Bool) (tp : List Nat) (rl : mR) (v : sV) : Prop := ∃ s, rh G (x + 29) s = G ∧ rU s A ns rl ∧ fnl F ns (s.2.1 1) ∧ rTape s tp ∧ rSv s v
def mok (ns : Nat) (A : Nat → Nat) (rl : mR) (v : sV) : Prop := rgo ns A rl ∧ rgu ns rl ∧ okT A rl ns ∧ svW ns A v
def RLz (G : ah_H) (x b L : Nat) (xs : Nat → Int32) (j : Nat) : Prop := ∃ ns A F tp rl v, CIz G x b ns A F tp rl v (x + 236) 90000 j ∧ rrl G x ns A F tp rl v ∧ mok ns A rl v ∧ G.1 b = some (.inl (99, L, .inl xs))
theorem fr_U {s s2 : rS} {I R W : List Nat} {A : Nat → Nat} {ns : Nat} {rl : mR} (h : frm s s2 I R W) (h0 : 0 ∉ I) (h5 : 5 ∉ I) (h2 : 2 ∉ R) (h7 : 7 ∉ R) (h8 : 8 ∉ R) (h6 : 6 ∉ W) (hu : rU s A ns rl) : rU s2 A ns rl := by
  obtain ⟨u1, ⟨u2, u3, u4⟩, u5⟩ := hu
  exact ⟨by rw [h.2.1 2 h2]; exact u1, ⟨by rw [h.1 5 h5]; exact u2, u3, fun r hr => by rw [h.2.2 6 h6, h.2.1 7 h7, h.2.1 8 h8]; exact u4 r hr⟩, by rw [h.1 0 h0]; exact u5⟩
theorem fr_T {s s2 : rS} {I R W : List Nat} {tp : List Nat} (h : frm s s2 I R W) (h4 : 4 ∉ I) (h3 : 3 ∉ R) (hu : rTape s tp) : rTape s2 tp := by
  obtain ⟨u1, u2, u3⟩ := hu
  exact ⟨by rw [h.1 4 h4]; exact u1, by rw [h.2.1 3 h3]; exact u2, u3⟩
theorem fr_S {s s2 : rS} {I R W : List Nat} {v : sV} (h : frm s s2 I R W) (h26 : 26 ∉ I) (h29 : 29 ∉ I) (h30 : 30 ∉ I) (h31 : 31 ∉ I) (h32 : 32 ∉ I) (h33 : 33 ∉ I) (h22 : 22 ∉ R) (h23 : 23 ∉ R) (h24 : 24 ∉ R) (h25 : 25 ∉ R) (h21 : 21 ∉ W) (h27 : 27 ∉ W) (hu : rSv s v) : rSv s2 v := by
  obtain ⟨⟨u1, u2, u3⟩, ⟨u4, u5, u6⟩, u7, u8, u9, u10⟩ := hu
  refine ⟨⟨by rw [h.1 26 h26]; exact u1, u2, fun i hi => ?_⟩, ⟨by rw [h.1 29 h29]; exact u4, u5, fun i hi => by rw [h.2.2 27 h27]; exact u6 i hi⟩, by rw [h.1 30 h30]; exact u7, by rw [h.1 31 h31]; exact u8, by rw [h.1 32 h32]; exact u9, by rw [h.1 33 h33]; exact u10⟩
  unfold rowP
  rw [h.2.2 21 h21, h.2.1 22 h22, h.2.1 23 h23, h.2.1 24 h24, h.2.1 25 h25]
  exact u3 i hi
theorem fr_F {s s2 : rS} {I R W : List Nat} {F : Nat → Bool} {ns : Nat} (h : frm s s2 I R W) (h1 : 1 ∉ R) (hu : fnl F ns (s.2.1 1)) : fnl F ns (s2.2.1 1) := by rw [h.2.1 1 h1]; exact hu
section SIM
variable {Q : Option Value → ah_H → Prop} {G G1 : ah_H} {x b L : Nat} {xs : Nat → Int32} {j ns : Nat} {A : Nat → Nat} {F : Nat → Bool} {tp : List Nat} {rl : mR} {v : sV}
theorem rh_kep {s : rS} (h : rh G (x + 29) s = G) (hk : kep G G1 x b) : rh G1 (x + 29) s = G1 := by
  unfold rh
  refine Prod.ext ?_ rfl
  funext a
  by_cases c : x + 29 ≤ a ∧ a < x + 29 + rN
  · show (if x + 29 ≤ a ∧ a < x + 29 + rN then _ else _) = _
    rw [if_pos c, hk.1 a c.1 (by have := c.2; unfold rN at this; omega), ← h]
    unfold rh
    show _ = (if x + 29 ≤ a ∧ a < x + 29 + rN then _ else _)
    rw [if_pos c]
  · show (if x + 29 ≤ a ∧ a < x + 29 + rN then _ else _) = _
    rw [if_neg c]
theorem rh_rh (H : ah_H) (q : Nat) (s s2 : rS) : rh (rh H q s) q s2 = rh H q s2 := by
  unfold rh
  refine Prod.ext ?_ rfl
  funext a
  dsimp only
  by_cases c : q ≤ a ∧ a < q + rN
  · rw [if_pos c, if_pos c]
  · rw [if_neg c, if_neg c, if_neg c]
theorem CIz_rh {B1 B2 : Nat} {s : rS} (h : CIz G x b ns A F tp rl v B1 B2 j) : CIz (rh G (x + 29) s) x b ns A F tp rl v B1 B2 j := by
  obtain ⟨P, c, p, y, fw, ar, fn, ro, sp, lf, tf, T, nn, cc, fe, hc, hl, hb, hbx⟩ := h
  have h6 := hc.2.2.2.2.2.1
  have h7 := hc.2.2.2.2.2.2
  refine ⟨P, c, p, y, fw, ar, fn, ro, sp, lf, tf, T, nn, cc, fe, cix_cg hc (fun a ha => rh_out ?_) (Nat.le_refl _) rfl, hl, hb, hbx⟩
  unfold rN
  rcases ha with z | z | z
  · omega
  · by_cases c1 : a < x + 29 ∨ x + 29 + 207 ≤ a
    · exact c1
    · exact absurd (h7.2 a (by omega) (by omega)) z
  · have := h6.2.2.2.2.2
    omega
/-- behind both calls -/
theorem sim_fin {s2 : rS} (hC : CIz G1 x b ns A F tp rl v (x + 236) 90000 j) (hk : kep G G1 x b) (hb : G.1 b = some (.inl (99, L, .inl xs))) (hu : rU s2 A ns rl) (hF : fnl F ns (s2.2.1 1)) (ht : rTape s2 tp) (hv : rSv s2 v) (hm : mok ns A rl v) : RLz (rh G1 (x + 29) s2) x b L xs j := by
  refine ⟨ns, A, F, tp, rl, v, CIz_rh hC, ⟨s2, rh_rh _ _ _ _, hu, hF, ht, hv⟩, hm, ?_⟩
  obtain ⟨_, _, _, _, _, _, _, _, _, _, _, _, _, _, _, _, _, _, hbx⟩ := hC
  rw [rh_out (by omega), hk.2]
  exact hb
/-- both calls -/
def both (m1 m2 : ae_M) (as : List Value) (G : ah_H) (x b L : Nat) (xs : Nat → Int32) (j : Nat) : Prop := ∃ G1 G2 w, (∀ Q, ae_wm 12 m1 (.ref x :: as) G Q = Q (some (.int w)) G1) ∧ (∀ Q, ae_wm 12 m2 (.ref (x + 29) :: as) G1 Q = Q (some (.int w)) G2) ∧ RLz G2 x b L xs (j + 1) ∧ kep G G1 x b
theorem CIz_j {B1 B2 : Nat} (h : CIz G x b ns A F tp rl v B1 B2 j) : CIz G x b ns A F tp rl v B1 B2 (j + 1) := by
  obtain ⟨P, c, p, y, fw, ar, fn, ro, sp, lf, tf, T, nn, cc, fe, hc, hl, hb⟩ := h
  exact ⟨P, c, p, y, fw, ar, fn, ro, sp, lf, tf, T, nn, cc, fe, hc, ldg_mono hl, hb⟩
theorem RLz_j (h : RLz G x b L xs j) : RLz G x b L xs (j + 1) := by
  obtain ⟨ns, A, F, tp, rl, v, h1, h2⟩ := h
  exact ⟨ns, A, F, tp, rl, v, CIz_j h1, h2⟩
theorem sim_clear (h : RLz G x b L xs j) : both mX10_clear mX11_clear [] G x b L xs j := by
  obtain ⟨ns, A, F, tp, rl, v, hC, ⟨s, r1, r2, r3, r4, r5⟩, hm, hb⟩ := h
  obtain ⟨G1, g1, g2, g3⟩ := m_X10_clear (d := 10) hC
  have e := rh_kep r1 g3
  have g := fun Q => m_X11_clear (d := 11) (Q := Q) (h := G1) (q := x + 29) (s := s)
  rw [e, r2.2.2] at g
  refine ⟨G1, _, _, g1, g, sim_fin g2 g3 hb ⟨⟨by omega, fun k hk => absurd hk (Nat.not_lt_zero _), fun _ _ => rfl⟩, ⟨rfl, by simp, fun r hr => absurd hr (Nat.not_lt_zero _)⟩, rfl⟩ ⟨fun k hk => absurd hk (Nat.not_lt_zero _), fun _ _ => rfl⟩ ⟨rfl, fun i hi => absurd hi (Nat.not_lt_zero _), by simp, fun i hi => absurd hi (Nat.not_lt_zero _)⟩ ⟨⟨rfl, by simp, fun i hi => absurd hi (Nat.not_lt_zero _)⟩, ⟨rfl, by simp, fun i hi => absurd hi (Nat.not_lt_zero _)⟩, rfl, rfl, rfl, rfl⟩ ⟨⟨by simp, fun r hr => absurd hr (Nat.not_lt_zero _)⟩, fun r hr => absurd hr (Nat.not_lt_zero _), fun f hf => absurd hf (Nat.not_lt_zero _), fun p hp => (nomatch hp), fun z hz => (nomatch hz)⟩, g3⟩
/-- a call that changes nothing -/
theorem sim_same {m1 m2 : ae_M} {as : List Value} {w : Int32} (h : RLz G x b L xs j) (h1 : ∀ Q, ae_wm 12 m1 (.ref x :: as) G Q = Q (some (.int w)) G) (h2 : ∀ s, rh G (x + 29) s = G → ∀ Q, ae_wm 12 m2 (.ref (x + 29) :: as) (rh G (x + 29) s) Q = Q (some (.int w)) (rh G (x + 29) s)) : both m1 m2 as G x b L xs j := by
  have h0 := h
  obtain ⟨ns, A, F, tp, rl, v, hC, ⟨s, r1, r2⟩, hm, hb⟩ := h
  have g := h2 s r1
  rw [r1] at g
  exact ⟨G, G, w, h1, g, RLz_j h0, kep_refl _ _ _⟩
theorem sim_solutions (h : RLz G x b L xs j) : both mX10_solutions mX11_solutions [] G x b L xs j := by
  have h0 := h
  obtain ⟨ns, A, F, tp, rl, v, hC, ⟨s, r1, r2, r3, r4, r5⟩, hm, hb⟩ := h
  obtain ⟨P, c, p, y, fw, ar, fn, ro, sp, lf, tf, T, nn, cc, fe, hc, hl⟩ := hC
  have g1 := fun Q => m_X10_solutions (d := 12) (Q := Q) hc.1 hc.2.2.2.1
  have g := fun Q => m_X11_solutions (d := 12) (Q := Q) (h := G) (q := x + 29) (s := s)
  rw [r1, r5.2.1.1] at g
  exact ⟨G, G, _, g1, g, RLz_j h0, kep_refl _ _ _⟩
theorem sim_count {z : Int32} (h : RLz G x b L xs j) : both mX10_count mX11_count [.int z] G x b L xs j := by
  have h0 := h
  obtain ⟨ns, A, F, tp, rl, v, hC, ⟨s, r1, r2, r3, r4, r5⟩, hm, hb⟩ := h
  by_cases cz : z.toInt < 0 ∨ 8 < z.toInt
  · have g := fun Q => m_X11_count_bad (d := 12) (Q := Q) (h := G) (q := x + 29) (s := s) cz
    rw [r1] at g
    exact ⟨G, G, _, fun Q => m_X10_count_bad (d := 12) cz, g, RLz_j h0, kep_refl _ _ _⟩
  · obtain ⟨i, hi, rfl⟩ : ∃ i, i ≤ 8 ∧ z = nI i := by
      rcases i32_cases z with w | ⟨n, hn, rfl⟩
      · exfalso
        have : z.toInt < 0 := by have := Int32.lt_iff_toInt_lt.mp w; rw [toInt_nI (by omega)] at this; simpa using this
        exact cz (Or.inl this)
      · rw [toInt_nI hn] at cz
        exact ⟨n, by omega, rfl⟩
    obtain ⟨P, c, p, y, fw, ar, fn, ro, sp, lf, tf, T, nn, cc, fe, hc, hl⟩ := hC
    have g1 := fun Q => m_X10_count (d := 12) (Q := Q) hc.1 hc.2.1.1 (cix_rlk hc) hc.2.2.2.1 hc.2.2.1 hi
    have g := fun Q => m_X11_count (d := 12) (Q := Q) (h := G) (q := x + 29) (s := s) hi
    have e : s.1 (cnf i) = cnv ns rl v tp i := by
      obtain ⟨q1, ⟨q2, -⟩, q3⟩ := r2
      obtain ⟨⟨q4, -⟩, ⟨q5, -⟩, q6, q7, q8, q9⟩ := r5
      match i, hi with
      | 0, _ => exact q3
      | 1, _ => exact q2
      | 2, _ => exact q4
      | 3, _ => exact q5
      | 4, _ => exact q6
      | 5, _ => exact q7
      | 6, _ => exact q8
      | 7, _ => exact q9
      | 8, _ => exact r4.1
    rw [r1, e] at g
    exact ⟨G, G, _, g1, g, RLz_j h0, kep_refl _ _ _⟩
theorem sim_waiting {i t : Int32} (h : RLz G x b L xs j) : both mX10_waiting mX11_waiting [.int i, .int t] G x b L xs j := by
  have h0 := h
  obtain ⟨ns, A, F, tp, rl, v, hC, ⟨s, r1, r2, r3, r4, r5⟩, hm, hb⟩ := h
  obtain ⟨P, c, p, y, fw, ar, fn, ro, sp, lf, tf, T, nn, cc, fe, hc, hl⟩ := hC
  rcases i32_cases t with ht | ⟨t, ht, rfl⟩
  · have g := fun Q => m_X11_waiting_bad (d := 11) (Q := Q) (h := G) (q := x + 29) (s := s) (i := i) ht
    rw [r1] at g
    exact ⟨G, G, _, fun Q => m_X10_waiting_bad (d := 11) ht, g, RLz_j h0, kep_refl _ _ _⟩
  · rcases i32_cases i with hi | ⟨i, hi, rfl⟩
    · have g := fun Q => m_X11_waiting_ng (d := 11) (Q := Q) (h := G) (q := x + 29) (s := s) ht hi
      rw [r1] at g
      exact ⟨G, G, _, fun Q => m_X10_waiting_no (d := 11) hc.1 hc.2.2.2.1 ht (Or.inl hi), g, RLz_j h0, kep_refl _ _ _⟩
    · by_cases ci : v.1.length ≤ i
      · have g := fun Q => m_X11_waiting_no (d := 11) (Q := Q) (h := G) (q := x + 29) (s := s) ht hi r5.1 ci
        rw [r1] at g
        exact ⟨G, G, _, fun Q => m_X10_waiting_no (d := 11) hc.1 hc.2.2.2.1 ht (Or.inr ⟨i, rfl, ci, hi⟩), g, RLz_j h0, kep_refl _ _ _⟩
      · have hmem : wat v.1 i ∈ v.1 := by
          unfold wat
          rw [List.getD_eq_getElem?_getD, List.getElem?_eq_getElem (by omega)]
          exact List.getElem_mem _
        have hw := hm.2.2.2.1 _ hmem
        have g := fun Q => m_X11_waiting (d := 11) (Q := Q) (h := G) (q := x + 29) (s := s) ht r5.1 (show i < v.1.length by omega) hw.2.2.2.2.1
        rw [r1] at g
        exact ⟨G, G, _, fun Q => m_X10_waiting (d := 11) hc.1 hc.2.2.2.1 ht (by omega), g, RLz_j h0, kep_refl _ _ _⟩
theorem sim_answer {i u k : Int32} (h : RLz G x b L xs j) : both mX10_answer mX11_answer [.int i, .int u, .int k] G x b L xs j := by
  have h0 := h
  obtain ⟨ns, A, F, tp, rl, v, hC, ⟨s, r1, r2, r3, r4, r5⟩, hm, hb⟩ := h
  obtain ⟨P, c, p, y, fw, ar, fn, ro, sp, lf, tf, T, nn, cc, fe, hc, hl⟩ := hC
  have z1 := r5.2.1.1
  have z2 := r5.2.1.2.1
  rcases i32_cases i with hi | ⟨i, hi, rfl⟩
  · have g := fun Q => m_X11_answer_i (d := 11) (Q := Q) (h := G) (q := x + 29) (s := s) (u := u) (k := k) hi
    rw [r1] at g
    exact ⟨G, G, _, fun Q => m_X10_answer_i (d := 11) hc.1 hc.2.2.2.1 (Or.inl hi), g, RLz_j h0, kep_refl _ _ _⟩
  · by_cases ci : v.2.1.length ≤ i
    · have g := fun Q => m_X11_answer_il (d := 11) (Q := Q) (h := G) (q := x + 29) (s := s) (u := u) (k := k) z1 z2 ⟨ci, hi⟩
      rw [r1] at g
      exact ⟨G, G, _, fun Q => m_X10_answer_i (d := 11) hc.1 hc.2.2.2.1 (Or.inr ⟨i, rfl, ci, hi⟩), g, RLz_j h0, kep_refl _ _ _⟩
    · have ci' : i < v.2.1.length := by omega
      rcases i32_cases u with hu | ⟨u, hu, rfl⟩
      · have g := fun Q => m_X11_answer_u (d := 11) (Q := Q) (h := G) (q := x + 29) (s := s) (k := k) z1 z2 ci' hu
        rw [r1] at g
        exact ⟨G, G, _, fun Q => m_X10_answer_u (d := 11) hc.1 hc.2.2.2.1 ci' (Or.inl hu), g, RLz_j h0, kep_refl _ _ _⟩
      · by_cases cu : 10 ≤ u
        · have g := fun Q => m_X11_answer_ul (d := 11) (Q := Q) (h := G) (q := x + 29) (s := s) (k := k) z1 z2 ci' ⟨cu, hu⟩
          rw [r1] at g
          exact ⟨G, G, _, fun Q => m_X10_answer_u (d := 11) hc.1 hc.2.2.2.1 ci' (Or.inr ⟨u, rfl, cu, hu⟩), g, RLz_j h0, kep_refl _ _ _⟩
        · have cu' : u < 10 := by omega
          rcases i32_cases k with hk | ⟨k, hk, rfl⟩
          · have g := fun Q => m_X11_answer_k (d := 11) (Q := Q) (h := G) (q := x + 29) (s := s) z1 z2 ci' cu' hk
            rw [r1] at g
            exact ⟨G, G, _, fun Q => m_X10_answer_k (d := 11) hc.1 hc.2.2.2.1 ci' cu' hk, g, RLz_j h0, kep_refl _ _ _⟩
          · have hmem : v.2.1.getD i [] ∈ v.2.1 := by
              rw [List.getD_eq_getElem?_getD, List.getElem?_eq_getElem ci']
              exact List.getElem_mem _
            have hz := hm.2.2.2.2 _ hmem
            have g := fun Q => m_X11_answer (d := 10) (Q := Q) (h := G) (q := x + 29) (s := s) r5.2.1 ci' hz.2.2 hz.1 hz.2.1 r2.1 cu' hk
            rw [r1] at g
            exact ⟨G, G, _, fun Q => m_X10_answer (d := 10) hc.1 hc.2.1.1 hc.2.1.2.1 hc.2.2.2.1 ci' hz cu' hk, g, RLz_j h0, kep_refl _ _ _⟩
theorem sim_node {f k t : Int32} (h : RLz G x b L xs j) : both mX10_node mX11_node [.int f, .int k, .int t] G x b L xs j := by
  have h0 := h
  obtain ⟨ns, A, F, tp, rl, v, hC, ⟨s, r1, r2, r3, r4, r5⟩, hm, hb⟩ := h
  have hns := r2.1.1
  rcases i32_cases f with hf | ⟨f, hf, rfl⟩
  · have g := fun Q => m_X11_node_f (d := 6) (Q := Q) (h := G) (q := x + 29) (s := s) (k := k) (t := t) hf
    rw [r1] at g
    exact ⟨G, G, _, fun Q => m_X10_node_f (d := 7) hC hf, g, RLz_j h0, kep_refl _ _ _⟩
  · by_cases cf : ns ≤ f
    · have g := fun Q => m_X11_node_fl (d := 6) (Q := Q) (h := G) (q := x + 29) (s := s) (k := k) (t := t) r2.2.2 hns ⟨cf, hf⟩
      rw [r1] at g
      exact ⟨G, G, _, fun Q => m_X10_node_nf (d := 7) hC hf (r3.2 f cf), g, RLz_j h0, kep_refl _ _ _⟩
    · have cf' : f < ns := by omega
      cases hF : F f with
      | false =>
        have g := fun Q => m_X11_node_nf (d := 6) (Q := Q) (h := G) (q := x + 29) (s := s) (k := k) (t := t) r2.2.2 hns cf' r3 hF
        rw [r1] at g
        exact ⟨G, G, _, fun Q => m_X10_node_nf (d := 7) hC hf hF, g, RLz_j h0, kep_refl _ _ _⟩
      | true =>
        rcases i32_cases t with ht | ⟨t, ht, rfl⟩
        · have g := fun Q => m_X11_node_t (d := 6) (Q := Q) (h := G) (q := x + 29) (s := s) (k := k) r2.2.2 hns cf' r3 hF ht
          rw [r1] at g
          exact ⟨G, G, _, fun Q => m_X10_node_t (d := 7) hC hf hF ht, g, RLz_j h0, kep_refl _ _ _⟩
        · have fin : ∀ (w : Int32) (s2 : rS), frm s s2 FI FR FW → (∀ Q, ae_wm 12 mX10_node [.ref x, .int (nI f), .int k, .int (nI t)] G Q = Q (some (.int w)) G) → (∀ Q, ae_wm 12 mX11_node [.ref (x + 29), .int (nI f), .int k, .int (nI t)] (rh G (x + 29) s) Q = Q (some (.int w)) (rh G (x + 29) s2)) → both mX10_node mX11_node [.int (nI f), .int k, .int (nI t)] G x b L xs j := by
            intro w s2 q1 q2 q3
            rw [r1] at q3
            exact ⟨G, _, w, q2, q3, sim_fin (CIz_j hC) (kep_refl _ _ _) hb (fr_U q1 (by decide) (by decide) (by decide) (by decide) (by decide) (by decide) r2) (fr_F q1 (by decide) r3) (fr_T q1 (by decide) (by decide) r4) (fr_S q1 (by decide) (by decide) (by decide) (by decide) (by decide) (by decide) (by decide) (by decide) (by decide) (by decide) (by decide) (by decide) r5) hm, kep_refl _ _ _⟩
          rcases i32_cases k with hk | ⟨k, hk, rfl⟩
          · obtain ⟨s2, q1, q2⟩ := m_X11_node_k (d := 6) (h := G) (q := x + 29) r2 hm.1 cf' r3 hF ht hk
            exact fin _ s2 q1 (fun Q => m_X10_node_k (d := 7) hC hF ht hk) q2
          · obtain ⟨s2, q1, q2⟩ := m_X11_node (d := 6) (h := G) (q := x + 29) r2 hm.1 cf' r3 hF ht hk
            exact fin _ s2 q1 (fun Q => m_X10_node (d := 7) hC hF ht hk) q2
end SIM
