/-! NarrowSolver$Solver: deliver -/
def frG (G G2 : ah_H) (x : Nat) (P P2 : Nat → Option Nat) (k : Nat) : Prop := (∀ a, a < G.2.1 → (a < x + 15 ∨ x + 22 < a) → (∀ i b, P i = some b → i ≠ 70 → a < b ∨ b + 2 < a) → G2.1 a = G.1 a) ∧ (G2.2.1 = G.2.1 + 3 * k ∧ G2.2.2.1 = G.2.2.1 + 306 * k ∧ G2.2.2.2 = G.2.2.2 ∧ cnP P2 = cnP P + k) ∧ P2 70 = P 70 ∧ ∀ i a, P2 i = some a → (∃ j, P j = some a ∧ (i ≠ 70 → j ≠ 70)) ∨ G.2.1 ≤ a
theorem frG_refl (G : ah_H) (x : Nat) (P : Nat → Option Nat) : frG G G x P P 0 := ⟨fun _ _ _ _ => rfl, ⟨rfl, rfl, rfl, rfl⟩, rfl, fun i a h => Or.inl ⟨i, h, id⟩⟩
theorem frG_trans {G G2 G3 : ah_H} {x : Nat} {P P2 P3 : Nat → Option Nat} {k k2 : Nat} (h1 : frG G G2 x P P2 k) (h2 : frG G2 G3 x P2 P3 k2) : frG G G3 x P P3 (k + k2) := by
  obtain ⟨a1, ⟨a2, a3, a4, a5⟩, a6, a7⟩ := h1
  obtain ⟨b1, ⟨b2, b3, b4, b5⟩, b6, b7⟩ := h2
  refine ⟨fun a h3 h4 h5 => ?_, ⟨by omega, by omega, by rw [b4, a4], by omega⟩, by rw [b6, a6], fun i a hi => ?_⟩
  · rw [b1 a (by omega) h4 (fun i b hi hn => ?_), a1 a h3 h4 h5]
    rcases a7 i b hi with ⟨j, j1, j2⟩ | z
    · exact h5 j b j1 (j2 hn)
    · omega
  · rcases b7 i a hi with ⟨j, j1, j2⟩ | z
    · rcases a7 j a j1 with ⟨l, l1, l2⟩ | z
      · exact Or.inl ⟨l, l1, fun z => l2 (j2 z)⟩
      · exact Or.inr z
    · exact Or.inr (by omega)
theorem swp_at {P : Nat → Option Nat} {s o p i : Nat} (h1 : i ≠ 71) (h2 : i ≠ s) : swp P s o p i = P i := by unfold swp; rw [if_neg h1, if_neg h2]
theorem swp_s {P : Nat → Option Nat} {s o p : Nat} (h : s ≠ 71) : swp P s o p s = some p := by unfold swp; rw [if_neg h, if_pos rfl]
theorem swp_71 {P : Nat → Option Nat} {s o p : Nat} : swp P s o p 71 = some o := by unfold swp; rw [if_pos rfl]
section DLW
variable {d : Nat} {Q : Option Value → ah_H → Prop} {G : ah_H} {x c p : Nat} {P : Nat → Option Nat} {y : rS} {fw : Nat} {v : sV} {L T : List Nat} {mn nx : Nat}
theorem cS_p (hS : cS G x P c p y fw v) : x + 22 < p ∧ x + 22 < c ∧ (c + 2 < p ∨ p + 2 < c) ∧ p + 2 < G.2.1 ∧ c + 2 < G.2.1 := by
  obtain ⟨s1, s2, s3, s4, s5, s6, s7, s8, s9⟩ := hS
  have h1 := s3.2 71 p s2
  have h2 := s3.2 70 c s1
  have h3 := s3.1 70 71 c p s1 s2 (by decide)
  exact ⟨h1.1.1, h2.1.1, h3, h1.2.1, h2.2.1⟩
/-- the new draft is taken, whatever it holds -/
theorem cS_draft {G2 : ah_H} {o : Nat} (ho : psh G2 o) (h15 : G2.1 (x + 15) = some (.inr (6, of6 x c o y))) (h20 : G2.1 (x + 20) = some (.inr (1, [.ref (x + 21), .int (y.1 30)]))) (h21 : G2.1 (x + 21) = some (.inl (0, 4, .inl (y.2.1 0)))) (h22 : G2.1 (x + 22) = some (.inl (0, 10, .inl (y.2.1 1)))) : ∃ y2, G2 = ov G2 x c o y2 ∧ (∀ i, i = 8 ∨ i = 9 ∨ i = 10 ∨ i = 11 ∨ i = 12 → y2.1 i = y.1 i) ∧ ((∃ B, bd y B) → ∃ B, bd y2 B) := by
  obtain ⟨i1, i2, i3, s, f, h1, h2, h3⟩ := ho
  refine ⟨uR (uI (uI (uI (uI y 20 i1) 21 i2) 22 i3) 31 s) 2 f, ov_mk ?_ ?_ ?_ ?_ ?_ ?_ ?_, fun i hi => ?_, fun ⟨B, b1, b2, b3⟩ => ⟨B, ?_, ?_, b3⟩⟩
  · rw [h15]; simp [of6, uI, uR]
  · rw [h20]; simp [uI, uR]
  · rw [h21]; simp [uI, uR]
  · rw [h22]; simp [uI, uR]
  · rw [h1]; simp [uI, uR]
  · rw [h2]; simp [uI, uR]
  · rw [h3]; simp [uI, uR]
  · rcases hi with e | e | e | e | e <;> subst e <;> simp [uI, uR]
  · simpa [uI, uR] using b1
  · simpa [uI, uR] using b2
theorem dl_row {G2 : ah_H} {s o : Nat} (hS : cS G x P c p y fw v) (hr : rdy y L T mn nx) (hlen : L.length + T.length ≤ 300) (hw : v.1.length < 40) (hs : s = (fw + v.1.length) % 40) (h15 : G2.1 (x + 15) = some (.inr (6, of6 x c o y))) (h16 : ring G2 (x + 16) 40 (va_up (fun i => if i < 40 then P i else none) s (some p)) fw (v.1.length + 1)) (hfr : ∀ a, a < G.2.1 → a ≠ x + 15 → a ≠ x + 16 → a ≠ x + 17 → G2.1 a = G.1 a) (hle : G.2.1 ≤ G2.2.1) (ho : psh G2 o) (hcP : cP G2 x (swp P s o p)) : ∃ y2, cS G2 x (swp P s o p) c o y2 fw (v.1 ++ [(L, T, mn, nx)], v.2) := by
  obtain ⟨p1, p2, p3, p4, p5⟩ := cS_p hS
  obtain ⟨s1, s2, s3, s4, s5, s6, s7, s8, s9⟩ := hS
  have hsam : ∀ i a, P i = some a → sam G G2 a := fun i a hi => by
    have := s3.2 i a hi
    exact ⟨hfr _ (by omega) (by omega) (by omega) (by omega), hfr _ (by omega) (by omega) (by omega) (by omega), hfr _ (by omega) (by omega) (by omega) (by omega)⟩
  have g20 : G.1 (x + 20) = some (.inr (1, [.ref (x + 21), .int (y.1 30)])) := by rw [s4]; exact ov_20
  have g21 : G.1 (x + 21) = some (.inl (0, 4, .inl (y.2.1 0))) := by rw [s4]; exact ov_21
  have g22 : G.1 (x + 22) = some (.inl (0, 10, .inl (y.2.1 1))) := by rw [s4]; exact ov_22
  obtain ⟨y2, k1, k2, k3⟩ := cS_draft (y := y) (c := c) ho h15 (by rw [hfr _ (by omega) (by omega) (by omega) (by omega)]; exact g20) (by rw [hfr _ (by omega) (by omega) (by omega) (by omega)]; exact g21) (by rw [hfr _ (by omega) (by omega) (by omega) (by omega)]; exact g22)
  obtain ⟨⟨r1, r2⟩, r3, r4, r5⟩ := s5
  obtain ⟨⟨z1, z2⟩, z3, z4⟩ := s6
  have hs40 : s < 40 := by omega
  refine ⟨y2, by rw [swp_at (by decide) (by omega)]; exact s1, swp_71, hcP, k1, ⟨?_, r3, by simp only [List.length_append, List.length_cons, List.length_nil]; omega, fun i hi => ?_⟩, ⟨⟨?_, ?_⟩, z3, fun i hi => ?_⟩, ⟨by rw [k2 9 (by simp)]; exact s7.1, by rw [k2 10 (by simp)]; exact s7.2.1, by rw [k2 11 (by simp)]; exact s7.2.2.1, by rw [k2 12 (by simp)]; exact s7.2.2.2⟩, k3 s8, by omega⟩
  · have e : va_up (fun i => if i < 40 then P i else none) s (some p) = fun i => if i < 40 then swp P s o p i else none := by
      funext i
      simp only [va_up]
      by_cases e1 : i = s
      · rw [if_pos e1, if_pos (by omega), e1, swp_s (by omega)]
      · rw [if_neg e1]
        by_cases e2 : i < 40
        · rw [if_pos e2, if_pos e2, swp_at (by omega) e1]
        · rw [if_neg e2, if_neg e2]
    rw [← e]
    simpa using h16
  · simp only [List.length_append, List.length_cons, List.length_nil] at hi
    by_cases e : i < v.1.length
    · obtain ⟨a, a1, a2⟩ := r5 i e
      refine ⟨a, by rw [swp_at (by omega) (by omega)]; exact a1, ?_⟩
      rw [wat_app1 e]
      exact prbk_sam (hsam _ a a1) a2
    · have e2 : i = v.1.length := by omega
      subst e2
      refine ⟨p, by rw [← hs, swp_s (by omega)], ?_⟩
      rw [wat_app2]
      obtain ⟨⟨sz, d1, d2⟩, q1, q2, sz2, q3, q4⟩ := hr
      have hLT : (L ++ T).length = L.length + T.length := List.length_append
      obtain ⟨d3, d4⟩ := d2.2.1 (by omega)
      refine prbk_sam (hsam 71 p s2) ⟨?_, y.2.1 2, ⟨?_, ?_⟩, d4, by dsimp only; omega⟩
      · rw [s4, ov_p p1, q1, q2, q3, q4 (by omega)]
      · rw [s4, ov_p1 p1, d1, d3]
      · rw [s4]; exact ov_p2 p1
  · rw [hfr _ (by omega) (by omega) (by omega) (by omega)]; exact z1
  · rw [hfr _ (by omega) (by omega) (by omega) (by omega)]
    rw [z2]
    have e : (fun i => if i < 30 then P (40 + i) else none) = fun i => if i < 30 then swp P s o p (40 + i) else none := by
      funext i
      by_cases e2 : i < 30
      · rw [if_pos e2, if_pos e2, swp_at (by omega) (by omega)]
      · rw [if_neg e2, if_neg e2]
    rw [e]
  · have hi : i < v.2.1.length := hi
    obtain ⟨a, a1, a2⟩ := z4 i hi
    exact ⟨a, by rw [swp_at (by omega) (by omega)]; exact a1, solk_sam (hsam _ a a1) a2⟩
theorem dl_sol {G2 : ah_H} {o : Nat} (hS : cS G x P c p y fw v) (hr : rdy y [] T 0 nx) (hlen : T.length ≤ 300) (hz : v.2.1.length < 30) (h15 : G2.1 (x + 15) = some (.inr (6, of6 x c o y))) (h16 : ring G2 (x + 18) 30 (va_up (fun i => if i < 30 then P (40 + i) else none) v.2.1.length (some p)) 0 (v.2.1.length + 1)) (hfr : ∀ a, a < G.2.1 → a ≠ x + 15 → a ≠ x + 18 → a ≠ x + 19 → G2.1 a = G.1 a) (hle : G.2.1 ≤ G2.2.1) (ho : psh G2 o) (hcP : cP G2 x (swp P (40 + v.2.1.length) o p)) : ∃ y2, cS G2 x (swp P (40 + v.2.1.length) o p) c o y2 fw (v.1, v.2.1 ++ [T], v.2.2) := by
  obtain ⟨p1, p2, p3, p4, p5⟩ := cS_p hS
  obtain ⟨s1, s2, s3, s4, s5, s6, s7, s8, s9⟩ := hS
  have hsam : ∀ i a, P i = some a → sam G G2 a := fun i a hi => by
    have := s3.2 i a hi
    exact ⟨hfr _ (by omega) (by omega) (by omega) (by omega), hfr _ (by omega) (by omega) (by omega) (by omega), hfr _ (by omega) (by omega) (by omega) (by omega)⟩
  have g20 : G.1 (x + 20) = some (.inr (1, [.ref (x + 21), .int (y.1 30)])) := by rw [s4]; exact ov_20
  have g21 : G.1 (x + 21) = some (.inl (0, 4, .inl (y.2.1 0))) := by rw [s4]; exact ov_21
  have g22 : G.1 (x + 22) = some (.inl (0, 10, .inl (y.2.1 1))) := by rw [s4]; exact ov_22
  obtain ⟨y2, k1, k2, k3⟩ := cS_draft (y := y) (c := c) ho h15 (by rw [hfr _ (by omega) (by omega) (by omega) (by omega)]; exact g20) (by rw [hfr _ (by omega) (by omega) (by omega) (by omega)]; exact g21) (by rw [hfr _ (by omega) (by omega) (by omega) (by omega)]; exact g22)
  obtain ⟨⟨r1, r2⟩, r3, r4, r5⟩ := s5
  obtain ⟨⟨z1, z2⟩, z3, z4⟩ := s6
  generalize hs : 40 + v.2.1.length = s at *
  refine ⟨y2, by rw [swp_at (by decide) (by omega)]; exact s1, swp_71, hcP, k1, ⟨⟨?_, ?_⟩, r3, r4, fun i hi => ?_⟩, ⟨?_, by simp only [List.length_append, List.length_cons, List.length_nil]; omega, fun i hi => ?_⟩, ⟨by rw [k2 9 (by simp)]; exact s7.1, by rw [k2 10 (by simp)]; exact s7.2.1, by rw [k2 11 (by simp)]; exact s7.2.2.1, by rw [k2 12 (by simp)]; exact s7.2.2.2⟩, k3 s8, by omega⟩
  · rw [hfr _ (by omega) (by omega) (by omega) (by omega)]; exact r1
  · rw [hfr _ (by omega) (by omega) (by omega) (by omega)]
    rw [r2]
    have e : (fun i => if i < 40 then P i else none) = fun i => if i < 40 then swp P s o p i else none := by
      funext i
      by_cases e2 : i < 40
      · rw [if_pos e2, if_pos e2, swp_at (by omega) (by omega)]
      · rw [if_neg e2, if_neg e2]
    rw [e]
  · obtain ⟨a, a1, a2⟩ := r5 i hi
    exact ⟨a, by rw [swp_at (by omega) (by omega)]; exact a1, prbk_sam (hsam _ a a1) a2⟩
  · have e : va_up (fun i => if i < 30 then P (40 + i) else none) v.2.1.length (some p) = fun i => if i < 30 then swp P s o p (40 + i) else none := by
      funext i
      simp only [va_up]
      by_cases e1 : i = v.2.1.length
      · rw [if_pos e1, if_pos (by omega), e1, hs, swp_s (by omega)]
      · rw [if_neg e1]
        by_cases e2 : i < 30
        · rw [if_pos e2, if_pos e2, swp_at (by omega) (by omega)]
        · rw [if_neg e2, if_neg e2]
    rw [← e]
    simpa using h16
  · simp only [List.length_append, List.length_cons, List.length_nil] at hi
    by_cases e : i < v.2.1.length
    · obtain ⟨a, a1, a2⟩ := z4 i e
      refine ⟨a, by rw [swp_at (by omega) (by omega)]; exact a1, ?_⟩
      have e3 : (v.2.1 ++ [T]).getD i [] = v.2.1.getD i [] := by simp [List.getD_eq_getElem?_getD, List.getElem?_append_left e]
      rw [e3]
      exact solk_sam (hsam _ a a1) a2
    · have e2 : i = v.2.1.length := by omega
      subst e2
      refine ⟨p, by rw [hs, swp_s (by omega)], ?_⟩
      have e3 : (v.2.1 ++ [T]).getD v.2.1.length [] = T := by simp [List.getD_eq_getElem?_getD]
      rw [e3]
      obtain ⟨⟨sz, d1, d2⟩, q1, q2, sz2, q3, q4⟩ := hr
      rw [List.nil_append] at d2
      obtain ⟨d3, d4⟩ := d2.2.1 (by omega)
      have q5 : sz2 = 0 := q4 (by simp)
      refine solk_sam (hsam 71 p s2) ⟨⟨y.1 20, y.1 22, ?_⟩, y.2.1 2, ⟨?_, ?_⟩, d4, hlen⟩
      · rw [s4, ov_p p1, q3, q5]
      · rw [s4, ov_p1 p1, d1, d3]
      · rw [s4]; exact ov_p2 p1
theorem rset_at {h : ah_H} {r N : Nat} {f : Nat → Option Nat} {fs n a : Nat} (h1 : a ≠ r) (h2 : a ≠ r + 1) : (rset h r N f fs n).1 a = h.1 a := (hs_ne h1).trans (hs_ne h2)
theorem rset_r {h : ah_H} {r N : Nat} {f : Nat → Option Nat} {fs n : Nat} : ring (rset h r N f fs n) r N f fs n := ⟨hs_eq rfl, (hs_ne (by omega)).trans (hs_eq rfl)⟩
theorem newP_lt {h : ah_H} {a : Nat} (h1 : a < h.2.1) : (newP h).1 a = h.1 a := by
  show (if _ then _ else _) = _
  rw [if_neg (by omega), if_neg (by omega), if_neg (by omega)]
theorem newP_psh (h : ah_H) : psh (newP h) h.2.1 := by
  refine ⟨nI 0, nI 0, nI 0, nI 0, fun _ => 0, ?_, ?_, ?_⟩
  · show (if _ then _ else _) = _
    rw [if_pos rfl]
  · show (if _ then _ else _) = _
    rw [if_neg (by omega), if_pos rfl]
  · show (if _ then _ else _) = _
    rw [if_neg (by omega), if_neg (by omega), if_pos rfl]
theorem of6_set (x c p o : Nat) (y : rS) : (of6 x c p y).set 7 (.ref o) = of6 x c o y := rfl
/-- the solver's field is set to the new draft -/
theorem pw_draft {h : ah_H} {o : Nat} {K : ah_H → Prop} (h15 : h.1 (x + 15) = some (.inr (6, of6 x c p y))) : ae_pw h (x + 15) 6 7 (.ref o) K = K (ah_set h (x + 15) (.inr (6, of6 x c o y))) := by
  unfold ae_pw
  rw [h15]
  show (if 6 = 6 ∧ 7 < (of6 x c p y).length then _ else _) = _
  rw [if_pos ⟨rfl, of_decide_eq_true rfl⟩, of6_set]
/-- deliver makes a new problem where none is free -/
theorem dl_new {H : ah_H} {l0 l1 l2 : Option Value} {r0 : Value} : ae_wp (d + 2) mX6_deliver 66 [l0, l1, l2] [r0] H Q = ae_wp (d + 2) mX6_deliver 77 [l0, l1, l2] [.ref H.2.1, r0] (newP H) Q := by
  have gI := fun Q => m_X2_init (d := d) (Q := Q) (h := ah_new H (.inr (2, [.null, .int (nI 0), .int (nI 0), .int (nI 0)])) 4) (q := H.2.1) (hn_eq rfl) rfl
  have eN : (fun b => if b = H.2.1 then some (.inr (2, [.ref (H.2.1 + 1), .int (nI 0), .int (nI 0), .int (nI 0)])) else if b = H.2.1 + 1 then some (.inr (1, [.ref (H.2.1 + 2), .int (nI 0)])) else if b = H.2.1 + 2 then some (.inl (0, 300, .inl (fun _ => 0))) else (ah_new H (.inr (2, [.null, .int (nI 0), .int (nI 0), .int (nI 0)])) 4).1 b, H.2.1 + 3, (ah_new H (.inr (2, [.null, .int (nI 0), .int (nI 0), .int (nI 0)])) 4).2.2.1 + 302, (ah_new H (.inr (2, [.null, .int (nI 0), .int (nI 0), .int (nI 0)])) 4).2.2.2) = newP H := by
    unfold newP
    rw [hn_22, hn_23]
    congr 1
    funext b
    by_cases e1 : b = H.2.1
    · rw [if_pos e1, if_pos e1]
    · rw [if_neg e1, if_neg e1]
      by_cases e2 : b = H.2.1 + 1
      · rw [if_pos e2, if_pos e2]
      · rw [if_neg e2, if_neg e2]
        by_cases e3 : b = H.2.1 + 2
        · rw [if_pos e3, if_pos e3]
        · rw [if_neg e3, if_neg e3, hn_ne e1]
  rw [eN] at gI
  rw [s_X6_deliver_66, s_X6_deliver_69 (ae_cat_ref _), s_X6_deliver_70, gI]
  exact s_X6_deliver_73
theorem m_X6_deliver (hS : cS G x P c p y fw v) (hr : rdy y L T mn nx) (hnx : nx < 1000) (hmn : mn < 1000) (h0 : mn = 0 → L = []) (hLT : (L ++ T).length < 1000000) : ∃ G2 P2 p2 y2 k, (∀ Q, ae_wm (d + 3) mX6_deliver [.ref (x + 15)] G Q = Q none G2) ∧ cS G2 x P2 c p2 y2 fw (kpm v L T mn nx) ∧ frG G G2 x P P2 k := by
  obtain ⟨p1, p2, p3, p4, p5⟩ := cS_p hS
  have hS0 := hS
  obtain ⟨s1, s2, s3, s4, s5, s6, s7, s8, s9⟩ := hS
  obtain ⟨⟨sz, d1, d2⟩, q1, q2, sz2, q3, q4⟩ := hr
  have hll : (L ++ T).length = L.length + T.length := List.length_append
  have hsz : (300 < sz) = (300 < L.length + T.length) := by
    apply propext
    constructor
    · intro z
      rcases Nat.lt_or_ge 300 (L.length + T.length) with z2 | z2
      · exact z2
      · have := (d2.2.1 (by omega)).1; omega
    · intro z; exact d2.2.2 (by omega)
  have gp : G.1 p = some (.inr (2, [.ref (p + 1), .int (y.1 20), .int (y.1 21), .int (nI nx)])) := by rw [s4, ov_p p1, q2]
  have gn : nmb G (p + 1) 300 (y.2.1 2) sz := by rw [s4]; exact nmb_d p1 d1
  have g15 : G.1 (x + 15) = some (.inr (6, of6 x c p y)) := by rw [s4]; exact ov_15
  have gL := fun Q => m_X2_isLost (d := d + 1) (Q := Q) gp gn (by have := d2.1; omega) hnx
  simp only [hsz] at gL
  have gR := fun Q => m_X3_isFull (d := d + 2) (Q := Q) s5.1 (by decide) (by have := s5.2.2.1; omega)
  have gZ := fun Q => m_X3_isFull (d := d + 2) (Q := Q) s6.1 (by decide) (by have := s6.2.1; omega)
  have hz30 := s6.2.1
  have hw40 := s5.2.2.1
  have oo : ∀ (K : Value → Prop) (k : Nat) (z : Value), (of6 x c p y)[k]? = some z → ae_gw G (x + 15) 6 k K = K z := fun K k z hk => by unfold ae_gw; rw [g15]; show (if 6 = 6 then _ else _) = _; rw [if_pos rfl, hk]
  have o2 : ∀ K, ae_gw G (x + 15) 6 2 K = K (.ref (x + 16)) := fun K => oo K 2 _ rfl
  have o3 : ∀ K, ae_gw G (x + 15) 6 3 K = K (.ref (x + 18)) := fun K => oo K 3 _ rfl
  have o7 : ∀ K, ae_gw G (x + 15) 6 7 K = K (.ref p) := fun K => oo K 7 _ rfl
  have o12 : ∀ K, ae_gw G (x + 15) 6 12 K = K (.int (y.1 12)) := fun K => oo K 12 _ rfl
  have e1 : ∀ K, ae_gw G p 2 1 K = K (.int (nI mn)) := fun K => by unfold ae_gw; rw [gp, q1]; rfl
  have hLost : (300 < L.length + T.length ∨ 81 < nx ∨ (mn = 0 ∧ v.2.1.length = 30) ∨ (0 < mn ∧ v.1.length = 40)) → ∃ G2 P2 p2 y2 k, (∀ Q, ae_wm (d + 3) mX6_deliver [.ref (x + 15)] G Q = Q none G2) ∧ cS G2 x P2 c p2 y2 fw (kpm v L T mn nx) ∧ frG G G2 x P P2 k := by
    intro cl
    have e12 : ∀ (K : ah_H → Prop) (z : Int32), ae_pw G (x + 15) 6 12 (.int z) K = K (ov G x c p (uI y 12 z)) := fun K z => by
      have := op_12 (H := G) (x := x) (c := c) (p := p) (y := y) (v := z) (KH := K) p1
      rw [← s4] at this
      exact this
    have hG2 : ∀ a, a ≠ x + 15 → (ov G x c p (uI y 12 (y.1 12 + nI 1))).1 a = G.1 a := fun a ha => by
      have e : G.1 a = (ov G x c p y).1 a := by rw [← s4]
      rw [e]
      simp only [ov, uI]
      rw [if_neg ha, if_neg ha]
      rfl
    have hk : kpm v L T mn nx = (v.1, v.2.1, v.2.2.1, v.2.2.2.1, v.2.2.2.2.1, v.2.2.2.2.2 + nI 1) := by unfold kpm; rw [if_pos cl]
    have hsam : ∀ i a, P i = some a → sam G (ov G x c p (uI y 12 (y.1 12 + nI 1))) a := fun i a hi => by
      have := s3.2 i a hi
      exact ⟨hG2 _ (by omega), hG2 _ (by omega), hG2 _ (by omega)⟩
    refine ⟨ov G x c p (uI y 12 (y.1 12 + nI 1)), P, p, uI y 12 (y.1 12 + nI 1), 0, fun Q => ?_, ⟨s1, s2, ⟨s3.1, fun i a hi => ⟨(s3.2 i a hi).1, (s3.2 i a hi).2.1, psh_sam (hsam i a hi) (s3.2 i a hi).2.2⟩⟩, ?_, ?_, ?_, ?_, ?_, s9⟩, ⟨fun a h1 h2 _ => hG2 a (by omega), ⟨rfl, rfl, rfl, rfl⟩, rfl, fun i a hi => Or.inl ⟨i, hi, id⟩⟩⟩
    · by_cases c0 : mn = 0
      · by_cases cL : 300 < L.length + T.length ∨ 81 < nx
        · simp only [if_pos cL] at gL
          simp (disch := first | exact ae_isR_ref _ | exact ae_isR_null | exact ae_isR_rf _ | exact ae_cat_ref _ | exact ae_cat_int _ | exact ae_cat_null | exact ae_cat_rf _ | exact ae_nz0 | exact ae_nz1 | exact ae_fz0 | exact ae_fz1 | exact cI_na (by omega) | exact cI_ix (by omega) | exact cI_nn (by omega) | exact cI_nz (by omega) | exact cI_cp (by omega) | assumption | omega) only [s_X6_deliver_0, s_X6_deliver_1, s_X6_deliver_4, s_X6_deliver_7, s_X6_deliver_10, s_X6_deliver_11, s_X6_deliver_14, s_X6_deliver_17, s_X6_deliver_18, s_X6_deliver_21, s_X6_deliver_22, s_X6_deliver_23, s_X6_deliver_26 gp, s_X6_deliver_29, e_X6_deliver, s_X6_deliver_39, s_X6_deliver_40, s_X6_deliver_41, s_X6_deliver_44, s_X6_deliver_45, s_X6_deliver_46, s_X6_deliver_49, s_X6_deliver_80, og_0, og_1, og_2, og_3, og_4, og_5, og_6, og_7, og_8, og_9, og_10, og_11, og_12, op_6, op_8, op_9, op_10, op_11, op_12, dg_0, dg_1, dg_2, dg_3, dp_1, dp_2, dp_3, ng_b, ng_d, mz_m, ms_m, ov_2, nset_d, nset_b, uI_1, uI_2, uR_1, uR_21, uR_22, va_rf, Bool.false_eq_true, ae_Ki, ae_Kb, ae_Kj, ae_Ka, ae_Si, ae_Sb, ae_Sj, ae_Sn, List.getElem?_cons_succ, List.getElem?_cons_zero, ↓reduceIte, if_true, if_false, nI_ofNat, true_or, or_true, false_or, or_false, true_and, and_true, false_and, and_false, or_self, and_self, not_true_eq_false, not_false_eq_true, eq_self, List.length_cons, List.length_nil, Nat.reduceAdd, Nat.reduceLT, Nat.reduceSub, List.set_cons_succ, List.set_cons_zero, Option.toList, List.nil_append, List.cons_append, cI_ltT, cI_ltF, cI_leT, cI_leF, cI_eqT, cI_eqF, cI_cl, cN_leT, cN_leF, cN_ltT, cN_ltF, cN_eqT, cN_eqF, cI_add, cI_sub, cI_m1a, cI_m1b, cI_m1c, cI_m1d, cI_m1e, cI_m1f, o2, o3, o7, o12, e1, c0, gL, e12]
        · simp only [if_neg cL] at gL
          rw [if_pos (by omega)] at gZ
          simp (disch := first | exact ae_isR_ref _ | exact ae_isR_null | exact ae_isR_rf _ | exact ae_cat_ref _ | exact ae_cat_int _ | exact ae_cat_null | exact ae_cat_rf _ | exact ae_nz0 | exact ae_nz1 | exact ae_fz0 | exact ae_fz1 | exact cI_na (by omega) | exact cI_ix (by omega) | exact cI_nn (by omega) | exact cI_nz (by omega) | exact cI_cp (by omega) | assumption | omega) only [s_X6_deliver_0, s_X6_deliver_1, s_X6_deliver_4, s_X6_deliver_7, s_X6_deliver_10, s_X6_deliver_11, s_X6_deliver_14, s_X6_deliver_17, s_X6_deliver_18, s_X6_deliver_21, s_X6_deliver_22, s_X6_deliver_23, s_X6_deliver_26 gp, s_X6_deliver_29, s_X6_deliver_32, s_X6_deliver_33 s6.1.1, s_X6_deliver_36, s_X6_deliver_39, s_X6_deliver_40, s_X6_deliver_41, s_X6_deliver_44, s_X6_deliver_45, s_X6_deliver_46, s_X6_deliver_49, e_X6_deliver, s_X6_deliver_80, og_0, og_1, og_2, og_3, og_4, og_5, og_6, og_7, og_8, og_9, og_10, og_11, og_12, op_6, op_8, op_9, op_10, op_11, op_12, dg_0, dg_1, dg_2, dg_3, dp_1, dp_2, dp_3, ng_b, ng_d, mz_m, ms_m, ov_2, nset_d, nset_b, uI_1, uI_2, uR_1, uR_21, uR_22, va_rf, Bool.false_eq_true, ae_Ki, ae_Kb, ae_Kj, ae_Ka, ae_Si, ae_Sb, ae_Sj, ae_Sn, List.getElem?_cons_succ, List.getElem?_cons_zero, ↓reduceIte, if_true, if_false, nI_ofNat, true_or, or_true, false_or, or_false, true_and, and_true, false_and, and_false, or_self, and_self, not_true_eq_false, not_false_eq_true, eq_self, List.length_cons, List.length_nil, Nat.reduceAdd, Nat.reduceLT, Nat.reduceSub, List.set_cons_succ, List.set_cons_zero, Option.toList, List.nil_append, List.cons_append, cI_ltT, cI_ltF, cI_leT, cI_leF, cI_eqT, cI_eqF, cI_cl, cN_leT, cN_leF, cN_ltT, cN_ltF, cN_eqT, cN_eqF, cI_add, cI_sub, cI_m1a, cI_m1b, cI_m1c, cI_m1d, cI_m1e, cI_m1f, o2, o3, o7, o12, e1, c0, gL, gZ, e12]
      · by_cases cL : 300 < L.length + T.length ∨ 81 < nx
        · simp only [if_pos cL] at gL
          simp (disch := first | exact ae_isR_ref _ | exact ae_isR_null | exact ae_isR_rf _ | exact ae_cat_ref _ | exact ae_cat_int _ | exact ae_cat_null | exact ae_cat_rf _ | exact ae_nz0 | exact ae_nz1 | exact ae_fz0 | exact ae_fz1 | exact cI_na (by omega) | exact cI_ix (by omega) | exact cI_nn (by omega) | exact cI_nz (by omega) | exact cI_cp (by omega) | assumption | omega) only [s_X6_deliver_0, s_X6_deliver_1, s_X6_deliver_4, s_X6_deliver_7, s_X6_deliver_10, s_X6_deliver_11, s_X6_deliver_14, s_X6_deliver_17, s_X6_deliver_18, s_X6_deliver_21, s_X6_deliver_22, s_X6_deliver_23, s_X6_deliver_26 gp, s_X6_deliver_29, e_X6_deliver, s_X6_deliver_39, s_X6_deliver_40, s_X6_deliver_41, s_X6_deliver_44, s_X6_deliver_45, s_X6_deliver_46, s_X6_deliver_49, s_X6_deliver_80, og_0, og_1, og_2, og_3, og_4, og_5, og_6, og_7, og_8, og_9, og_10, og_11, og_12, op_6, op_8, op_9, op_10, op_11, op_12, dg_0, dg_1, dg_2, dg_3, dp_1, dp_2, dp_3, ng_b, ng_d, mz_m, ms_m, ov_2, nset_d, nset_b, uI_1, uI_2, uR_1, uR_21, uR_22, va_rf, Bool.false_eq_true, ae_Ki, ae_Kb, ae_Kj, ae_Ka, ae_Si, ae_Sb, ae_Sj, ae_Sn, List.getElem?_cons_succ, List.getElem?_cons_zero, ↓reduceIte, if_true, if_false, nI_ofNat, true_or, or_true, false_or, or_false, true_and, and_true, false_and, and_false, or_self, and_self, not_true_eq_false, not_false_eq_true, eq_self, List.length_cons, List.length_nil, Nat.reduceAdd, Nat.reduceLT, Nat.reduceSub, List.set_cons_succ, List.set_cons_zero, Option.toList, List.nil_append, List.cons_append, cI_ltT, cI_ltF, cI_leT, cI_leF, cI_eqT, cI_eqF, cI_cl, cN_leT, cN_leF, cN_ltT, cN_ltF, cN_eqT, cN_eqF, cI_add, cI_sub, cI_m1a, cI_m1b, cI_m1c, cI_m1d, cI_m1e, cI_m1f, o2, o3, o7, o12, e1, gL, e12]
        · simp only [if_neg cL] at gL
          rw [if_pos (by omega)] at gR
          simp (disch := first | exact ae_isR_ref _ | exact ae_isR_null | exact ae_isR_rf _ | exact ae_cat_ref _ | exact ae_cat_int _ | exact ae_cat_null | exact ae_cat_rf _ | exact ae_nz0 | exact ae_nz1 | exact ae_fz0 | exact ae_fz1 | exact cI_na (by omega) | exact cI_ix (by omega) | exact cI_nn (by omega) | exact cI_nz (by omega) | exact cI_cp (by omega) | assumption | omega) only [s_X6_deliver_0, s_X6_deliver_1, s_X6_deliver_4, s_X6_deliver_7, s_X6_deliver_10, s_X6_deliver_11, s_X6_deliver_14, s_X6_deliver_17, s_X6_deliver_18, s_X6_deliver_21, s_X6_deliver_22, s_X6_deliver_23, s_X6_deliver_26 gp, s_X6_deliver_29, s_X6_deliver_32, s_X6_deliver_33 s5.1.1, s_X6_deliver_36, s_X6_deliver_39, s_X6_deliver_40, s_X6_deliver_41, s_X6_deliver_44, s_X6_deliver_45, s_X6_deliver_46, s_X6_deliver_49, e_X6_deliver, s_X6_deliver_80, og_0, og_1, og_2, og_3, og_4, og_5, og_6, og_7, og_8, og_9, og_10, og_11, og_12, op_6, op_8, op_9, op_10, op_11, op_12, dg_0, dg_1, dg_2, dg_3, dp_1, dp_2, dp_3, ng_b, ng_d, mz_m, ms_m, ov_2, nset_d, nset_b, uI_1, uI_2, uR_1, uR_21, uR_22, va_rf, Bool.false_eq_true, ae_Ki, ae_Kb, ae_Kj, ae_Ka, ae_Si, ae_Sb, ae_Sj, ae_Sn, List.getElem?_cons_succ, List.getElem?_cons_zero, ↓reduceIte, if_true, if_false, nI_ofNat, true_or, or_true, false_or, or_false, true_and, and_true, false_and, and_false, or_self, and_self, not_true_eq_false, not_false_eq_true, eq_self, List.length_cons, List.length_nil, Nat.reduceAdd, Nat.reduceLT, Nat.reduceSub, List.set_cons_succ, List.set_cons_zero, Option.toList, List.nil_append, List.cons_append, cI_ltT, cI_ltF, cI_leT, cI_leF, cI_eqT, cI_eqF, cI_cl, cN_leT, cN_leF, cN_ltT, cN_ltF, cN_eqT, cN_eqF, cI_add, cI_sub, cI_m1a, cI_m1b, cI_m1c, cI_m1d, cI_m1e, cI_m1f, o2, o3, o7, o12, e1, gL, gR, e12]
    · refine ov_mk ov_15 ov_20 ov_21 ov_22 (ov_p p1) (ov_p1 p1) (ov_p2 p1)
    · obtain ⟨⟨r1, r2⟩, r3, r4, r5⟩ := s5
      rw [hk]
      exact ⟨⟨by rw [hG2 _ (by omega)]; exact r1, by rw [hG2 _ (by omega)]; exact r2⟩, r3, r4, fun i hi => by
        obtain ⟨a, a1, a2⟩ := r5 i hi
        exact ⟨a, a1, prbk_sam (hsam _ a a1) a2⟩⟩
    · obtain ⟨⟨r1, r2⟩, r3, r4⟩ := s6
      rw [hk]
      exact ⟨⟨by rw [hG2 _ (by omega)]; exact r1, by rw [hG2 _ (by omega)]; exact r2⟩, r3, fun i hi => by
        obtain ⟨a, a1, a2⟩ := r4 i hi
        exact ⟨a, a1, solk_sam (hsam _ a a1) a2⟩⟩
    · rw [hk]
      refine ⟨s7.1, s7.2.1, s7.2.2.1, ?_⟩
      show (uI y 12 (y.1 12 + nI 1)).1 12 = _
      rw [uI_1, if_pos rfl, s7.2.2.2]
    · obtain ⟨B, b1, b2, b3⟩ := s8
      exact ⟨B, b1, b2, b3⟩
  by_cases cl : 300 < L.length + T.length ∨ 81 < nx ∨ (mn = 0 ∧ v.2.1.length = 30) ∨ (0 < mn ∧ v.1.length = 40)
  · exact hLost cl
  · have cL : ¬ (300 < L.length + T.length ∨ 81 < nx) := fun z => cl (by omega)
    simp only [if_neg cL] at gL
    by_cases c0 : mn = 0
    · have hk : kpm v L T mn nx = (v.1, v.2.1 ++ [T], v.2.2) := by unfold kpm; rw [if_neg cl, if_pos c0]
      rw [hk]
      have hL := h0 c0
      subst hL
      rw [if_neg (by omega)] at gZ
      have hf0 : (fun i => if i < 30 then P (40 + i) else none) ((0 + v.2.1.length) % 30) = P (40 + v.2.1.length) := by
        have : (0 + v.2.1.length) % 30 = v.2.1.length := by omega
        rw [this]
        show (if v.2.1.length < 30 then _ else _) = _
        rw [if_pos (by omega)]
      have hmod : (0 + v.2.1.length) % 30 = v.2.1.length := by omega
      cases e : P (40 + v.2.1.length) with
      | some o =>
        have gA := fun Q => m_X3_append_some (d := d + 1) (Q := Q) s6.1 (by decide) (by decide) (by omega) gp (hf0.trans e)
        rw [hmod] at gA
        have hfr : ∀ a, a < G.2.1 → a ≠ x + 15 → a ≠ x + 18 → a ≠ x + 19 → (ah_set (rset G (x + 18) 30 (va_up (fun i => if i < 30 then P (40 + i) else none) v.2.1.length (some p)) 0 (v.2.1.length + 1)) (x + 15) (.inr (6, of6 x c o y))).1 a = G.1 a := fun a _ h2 h3 h4 => by rw [hs_ne h2, rset_at h3 h4]
        have hsam : ∀ i a, P i = some a → sam G (ah_set (rset G (x + 18) 30 (va_up (fun i => if i < 30 then P (40 + i) else none) v.2.1.length (some p)) 0 (v.2.1.length + 1)) (x + 15) (.inr (6, of6 x c o y))) a := fun i a hi => by
          have := s3.2 i a hi
          exact ⟨hfr _ (by omega) (by omega) (by omega) (by omega), hfr _ (by omega) (by omega) (by omega) (by omega), hfr _ (by omega) (by omega) (by omega) (by omega)⟩
        obtain ⟨y2, hy2⟩ := dl_sol (G2 := ah_set (rset G (x + 18) 30 (va_up (fun i => if i < 30 then P (40 + i) else none) v.2.1.length (some p)) 0 (v.2.1.length + 1)) (x + 15) (.inr (6, of6 x c o y))) (o := o) (T := T) (nx := nx) hS0 ⟨⟨sz, d1, d2⟩, by rw [q1, c0], q2, sz2, q3, q4⟩ (by omega) (by omega) (hs_eq rfl) ⟨by rw [hs_ne (by omega)]; exact rset_r.1, by rw [hs_ne (by omega)]; exact rset_r.2⟩ hfr (Nat.le_refl _) (psh_sam (hsam _ o e) (s3.2 _ o e).2.2) (cP_swp s3 s2 e (by omega) (Nat.le_refl _) hsam)
        refine ⟨_, _, _, y2, 0, fun Q => ?_, hy2, ⟨fun a h1 h2 _ => hfr a h1 (by omega) (by omega) (by omega), ⟨rfl, rfl, rfl, cnP_swp (by rw [s2]; rfl) (by rw [e]; rfl)⟩, swp_at (by decide) (by omega), fun i a hi => ?_⟩⟩
        · have gw := fun K => pw_draft (o := o) (K := K) (show (rset G (x + 18) 30 (va_up (fun i => if i < 30 then P (40 + i) else none) v.2.1.length (some p)) 0 (v.2.1.length + 1)).1 (x + 15) = some (.inr (6, of6 x c p y)) by rw [rset_at (by omega) (by omega)]; exact g15)
          simp (disch := first | exact ae_isR_ref _ | exact ae_isR_null | exact ae_isR_rf _ | exact ae_cat_ref _ | exact ae_cat_int _ | exact ae_cat_null | exact ae_cat_rf _ | exact ae_nz0 | exact ae_nz1 | exact ae_fz0 | exact ae_fz1 | exact cI_na (by omega) | exact cI_ix (by omega) | exact cI_nn (by omega) | exact cI_nz (by omega) | exact cI_cp (by omega) | assumption | omega) only [s_X6_deliver_0, s_X6_deliver_1, s_X6_deliver_4, s_X6_deliver_7, s_X6_deliver_10, s_X6_deliver_11, s_X6_deliver_14, s_X6_deliver_17, s_X6_deliver_18, s_X6_deliver_21, s_X6_deliver_22, s_X6_deliver_23, s_X6_deliver_26 gp, s_X6_deliver_29, s_X6_deliver_32, s_X6_deliver_33 s6.1.1, s_X6_deliver_36, e_X6_deliver, s_X6_deliver_52, s_X6_deliver_53, s_X6_deliver_54, s_X6_deliver_57 s6.1.1, s_X6_deliver_60, s_X6_deliver_61, s_X6_deliver_62, s_X6_deliver_63, s_X6_deliver_63_N, s_X6_deliver_76, s_X6_deliver_77, s_X6_deliver_80, og_0, og_1, og_2, og_3, og_4, og_5, og_6, og_7, og_8, og_9, og_10, og_11, og_12, op_6, op_8, op_9, op_10, op_11, op_12, dg_0, dg_1, dg_2, dg_3, dp_1, dp_2, dp_3, ng_b, ng_d, mz_m, ms_m, ov_2, nset_d, nset_b, uI_1, uI_2, uR_1, uR_21, uR_22, va_rf, Bool.false_eq_true, ae_Ki, ae_Kb, ae_Kj, ae_Ka, ae_Si, ae_Sb, ae_Sj, ae_Sn, List.getElem?_cons_succ, List.getElem?_cons_zero, ↓reduceIte, if_true, if_false, nI_ofNat, true_or, or_true, false_or, or_false, true_and, and_true, false_and, and_false, or_self, and_self, not_true_eq_false, not_false_eq_true, eq_self, List.length_cons, List.length_nil, Nat.reduceAdd, Nat.reduceLT, Nat.reduceSub, List.set_cons_succ, List.set_cons_zero, Option.toList, List.nil_append, List.cons_append, cI_ltT, cI_ltF, cI_leT, cI_leF, cI_eqT, cI_eqF, cI_cl, cN_leT, cN_leF, cN_ltT, cN_ltF, cN_eqT, cN_eqF, cI_add, cI_sub, cI_m1a, cI_m1b, cI_m1c, cI_m1d, cI_m1e, cI_m1f, o2, o3, o7, o12, e1, c0, gL, gZ, gA, gw]
        · by_cases e71 : i = 71
          · rw [e71, swp_71] at hi
            cases hi
            exact Or.inl ⟨_, e, fun _ => by omega⟩
          · by_cases es : i = 40 + v.2.1.length
            · rw [es, swp_s (by omega)] at hi
              cases hi
              exact Or.inl ⟨71, s2, fun _ => by decide⟩
            · rw [swp_at e71 es] at hi
              exact Or.inl ⟨i, hi, id⟩
      | none =>
        have gA := fun Q => m_X3_append_none (d := d + 1) (Q := Q) s6.1 (by decide) (by decide) (by omega) gp (hf0.trans e)
        rw [hmod] at gA
        have hfr : ∀ a, a < G.2.1 → a ≠ x + 15 → a ≠ x + 18 → a ≠ x + 19 → (ah_set (newP (rset G (x + 18) 30 (va_up (fun i => if i < 30 then P (40 + i) else none) v.2.1.length (some p)) 0 (v.2.1.length + 1))) (x + 15) (.inr (6, of6 x c G.2.1 y))).1 a = G.1 a := fun a h1 h2 h3 h4 => by
          rw [hs_ne h2]
          exact (newP_lt (by exact h1)).trans (rset_at h3 h4)
        have hsam : ∀ i a, P i = some a → sam G (ah_set (newP (rset G (x + 18) 30 (va_up (fun i => if i < 30 then P (40 + i) else none) v.2.1.length (some p)) 0 (v.2.1.length + 1))) (x + 15) (.inr (6, of6 x c G.2.1 y))) a := fun i a hi => by
          have := s3.2 i a hi
          exact ⟨hfr _ (by omega) (by omega) (by omega) (by omega), hfr _ (by omega) (by omega) (by omega) (by omega), hfr _ (by omega) (by omega) (by omega) (by omega)⟩
        have hps : psh (ah_set (newP (rset G (x + 18) 30 (va_up (fun i => if i < 30 then P (40 + i) else none) v.2.1.length (some p)) 0 (v.2.1.length + 1))) (x + 15) (.inr (6, of6 x c G.2.1 y))) G.2.1 := psh_sam (G := newP (rset G (x + 18) 30 (va_up (fun i => if i < 30 then P (40 + i) else none) v.2.1.length (some p)) 0 (v.2.1.length + 1))) ⟨hs_ne (by omega), hs_ne (by omega), hs_ne (by omega)⟩ (newP_psh (rset G (x + 18) 30 (va_up (fun i => if i < 30 then P (40 + i) else none) v.2.1.length (some p)) 0 (v.2.1.length + 1)))
        obtain ⟨y2, hy2⟩ := dl_sol (G2 := ah_set (newP (rset G (x + 18) 30 (va_up (fun i => if i < 30 then P (40 + i) else none) v.2.1.length (some p)) 0 (v.2.1.length + 1))) (x + 15) (.inr (6, of6 x c G.2.1 y))) (o := G.2.1) (T := T) (nx := nx) hS0 ⟨⟨sz, d1, d2⟩, by rw [q1, c0], q2, sz2, q3, q4⟩ (by omega) (by omega) (hs_eq rfl) ⟨by rw [hs_ne (by omega), newP_lt (by show x + 18 < G.2.1; omega)]; exact rset_r.1, by rw [hs_ne (by omega), newP_lt (by show x + 18 + 1 < G.2.1; omega)]; exact rset_r.2⟩ hfr (Nat.le_add_right _ _) hps (cP_new s3 s2 e (Nat.le_refl _) s9 hsam hps)
        refine ⟨_, _, _, y2, 1, fun Q => ?_, hy2, ⟨fun a h1 h2 _ => hfr a h1 (by omega) (by omega) (by omega), ⟨rfl, rfl, rfl, cnP_new (by rw [s2]; rfl) e (by omega)⟩, swp_at (by decide) (by omega), fun i a hi => ?_⟩⟩
        · have gw := fun K => pw_draft (o := G.2.1) (K := K) (show (newP (rset G (x + 18) 30 (va_up (fun i => if i < 30 then P (40 + i) else none) v.2.1.length (some p)) 0 (v.2.1.length + 1))).1 (x + 15) = some (.inr (6, of6 x c p y)) by rw [newP_lt (by show x + 15 < G.2.1; omega), rset_at (by omega) (by omega)]; exact g15)
          have gN : ∀ (l0 l1 l2 : Option Value) (r0 : Value) (Q : Option Value → ah_H → Prop), ae_wp (d + 3) mX6_deliver 66 [l0, l1, l2] [r0] (rset G (x + 18) 30 (va_up (fun i => if i < 30 then P (40 + i) else none) v.2.1.length (some p)) 0 (v.2.1.length + 1)) Q = ae_wp (d + 3) mX6_deliver 77 [l0, l1, l2] [.ref G.2.1, r0] (newP (rset G (x + 18) 30 (va_up (fun i => if i < 30 then P (40 + i) else none) v.2.1.length (some p)) 0 (v.2.1.length + 1))) Q := fun l0 l1 l2 r0 Q => dl_new (d := d + 1) (H := (rset G (x + 18) 30 (va_up (fun i => if i < 30 then P (40 + i) else none) v.2.1.length (some p)) 0 (v.2.1.length + 1)))
          simp (disch := first | exact ae_isR_ref _ | exact ae_isR_null | exact ae_isR_rf _ | exact ae_cat_ref _ | exact ae_cat_int _ | exact ae_cat_null | exact ae_cat_rf _ | exact ae_nz0 | exact ae_nz1 | exact ae_fz0 | exact ae_fz1 | exact cI_na (by omega) | exact cI_ix (by omega) | exact cI_nn (by omega) | exact cI_nz (by omega) | exact cI_cp (by omega) | assumption | omega) only [s_X6_deliver_0, s_X6_deliver_1, s_X6_deliver_4, s_X6_deliver_7, s_X6_deliver_10, s_X6_deliver_11, s_X6_deliver_14, s_X6_deliver_17, s_X6_deliver_18, s_X6_deliver_21, s_X6_deliver_22, s_X6_deliver_23, s_X6_deliver_26 gp, s_X6_deliver_29, s_X6_deliver_32, s_X6_deliver_33 s6.1.1, s_X6_deliver_36, e_X6_deliver, s_X6_deliver_52, s_X6_deliver_53, s_X6_deliver_54, s_X6_deliver_57 s6.1.1, s_X6_deliver_60, s_X6_deliver_61, s_X6_deliver_62, s_X6_deliver_63, s_X6_deliver_63_N, gN, s_X6_deliver_77, s_X6_deliver_80, og_0, og_1, og_2, og_3, og_4, og_5, og_6, og_7, og_8, og_9, og_10, og_11, og_12, op_6, op_8, op_9, op_10, op_11, op_12, dg_0, dg_1, dg_2, dg_3, dp_1, dp_2, dp_3, ng_b, ng_d, mz_m, ms_m, ov_2, nset_d, nset_b, uI_1, uI_2, uR_1, uR_21, uR_22, va_rf, Bool.false_eq_true, ae_Ki, ae_Kb, ae_Kj, ae_Ka, ae_Si, ae_Sb, ae_Sj, ae_Sn, List.getElem?_cons_succ, List.getElem?_cons_zero, ↓reduceIte, if_true, if_false, nI_ofNat, true_or, or_true, false_or, or_false, true_and, and_true, false_and, and_false, or_self, and_self, not_true_eq_false, not_false_eq_true, eq_self, List.length_cons, List.length_nil, Nat.reduceAdd, Nat.reduceLT, Nat.reduceSub, List.set_cons_succ, List.set_cons_zero, Option.toList, List.nil_append, List.cons_append, cI_ltT, cI_ltF, cI_leT, cI_leF, cI_eqT, cI_eqF, cI_cl, cN_leT, cN_leF, cN_ltT, cN_ltF, cN_eqT, cN_eqF, cI_add, cI_sub, cI_m1a, cI_m1b, cI_m1c, cI_m1d, cI_m1e, cI_m1f, o2, o3, o7, o12, e1, c0, gL, gZ, gA, gw]
        · by_cases e71 : i = 71
          · rw [e71, swp_71] at hi
            cases hi
            exact Or.inr (Nat.le_refl _)
          · by_cases es : i = 40 + v.2.1.length
            · rw [es, swp_s (by omega)] at hi
              cases hi
              exact Or.inl ⟨71, s2, fun _ => by decide⟩
            · rw [swp_at e71 es] at hi
              exact Or.inl ⟨i, hi, id⟩
    · have hk : kpm v L T mn nx = (v.1 ++ [(L, T, mn, nx)], v.2) := by unfold kpm; rw [if_neg cl, if_neg c0]
      rw [hk]
      rw [if_neg (by omega)] at gR
      have hfw := s5.2.1
      have hsl : (fw + v.1.length) % 40 < 40 := Nat.mod_lt _ (by decide)
      have hf0 : (fun i => if i < 40 then P i else none) ((fw + v.1.length) % 40) = P ((fw + v.1.length) % 40) := by
        show (if (fw + v.1.length) % 40 < 40 then _ else _) = _
        rw [if_pos hsl]
      cases e : P ((fw + v.1.length) % 40) with
      | some o =>
        have gA := fun Q => m_X3_append_some (d := d + 1) (Q := Q) s5.1 (by decide) hfw (by omega) gp (hf0.trans e)
        generalize hs : (fw + v.1.length) % 40 = s at *
        have hfr : ∀ a, a < G.2.1 → a ≠ x + 15 → a ≠ x + 16 → a ≠ x + 17 → (ah_set (rset G (x + 16) 40 (va_up (fun i => if i < 40 then P i else none) s (some p)) fw (v.1.length + 1)) (x + 15) (.inr (6, of6 x c o y))).1 a = G.1 a := fun a _ h2 h3 h4 => by rw [hs_ne h2, rset_at h3 h4]
        have hsam : ∀ i a, P i = some a → sam G (ah_set (rset G (x + 16) 40 (va_up (fun i => if i < 40 then P i else none) s (some p)) fw (v.1.length + 1)) (x + 15) (.inr (6, of6 x c o y))) a := fun i a hi => by
          have := s3.2 i a hi
          exact ⟨hfr _ (by omega) (by omega) (by omega) (by omega), hfr _ (by omega) (by omega) (by omega) (by omega), hfr _ (by omega) (by omega) (by omega) (by omega)⟩
        obtain ⟨y2, hy2⟩ := dl_row (G2 := ah_set (rset G (x + 16) 40 (va_up (fun i => if i < 40 then P i else none) s (some p)) fw (v.1.length + 1)) (x + 15) (.inr (6, of6 x c o y))) (o := o) (s := s) hS0 ⟨⟨sz, d1, d2⟩, q1, q2, sz2, q3, q4⟩ (by omega) (by omega) hs.symm (hs_eq rfl) ⟨by rw [hs_ne (by omega)]; exact rset_r.1, by rw [hs_ne (by omega)]; exact rset_r.2⟩ hfr (Nat.le_refl _) (psh_sam (hsam _ o e) (s3.2 _ o e).2.2) (cP_swp s3 s2 e (by omega) (Nat.le_refl _) hsam)
        refine ⟨_, _, _, y2, 0, fun Q => ?_, hy2, ⟨fun a h1 h2 _ => hfr a h1 (by omega) (by omega) (by omega), ⟨rfl, rfl, rfl, cnP_swp (by rw [s2]; rfl) (by rw [e]; rfl)⟩, swp_at (by decide) (by omega), fun i a hi => ?_⟩⟩
        · have gw := fun K => pw_draft (o := o) (K := K) (show (rset G (x + 16) 40 (va_up (fun i => if i < 40 then P i else none) s (some p)) fw (v.1.length + 1)).1 (x + 15) = some (.inr (6, of6 x c p y)) by rw [rset_at (by omega) (by omega)]; exact g15)
          simp (disch := first | exact ae_isR_ref _ | exact ae_isR_null | exact ae_isR_rf _ | exact ae_cat_ref _ | exact ae_cat_int _ | exact ae_cat_null | exact ae_cat_rf _ | exact ae_nz0 | exact ae_nz1 | exact ae_fz0 | exact ae_fz1 | exact cI_na (by omega) | exact cI_ix (by omega) | exact cI_nn (by omega) | exact cI_nz (by omega) | exact cI_cp (by omega) | assumption | omega) only [s_X6_deliver_0, s_X6_deliver_1, s_X6_deliver_4, s_X6_deliver_7, s_X6_deliver_10, s_X6_deliver_11, s_X6_deliver_14, s_X6_deliver_17, s_X6_deliver_18, s_X6_deliver_21, s_X6_deliver_22, s_X6_deliver_23, s_X6_deliver_26 gp, s_X6_deliver_29, s_X6_deliver_32, s_X6_deliver_33 s5.1.1, s_X6_deliver_36, e_X6_deliver, s_X6_deliver_52, s_X6_deliver_53, s_X6_deliver_54, s_X6_deliver_57 s5.1.1, s_X6_deliver_60, s_X6_deliver_61, s_X6_deliver_62, s_X6_deliver_63, s_X6_deliver_63_N, s_X6_deliver_76, s_X6_deliver_77, s_X6_deliver_80, og_0, og_1, og_2, og_3, og_4, og_5, og_6, og_7, og_8, og_9, og_10, og_11, og_12, op_6, op_8, op_9, op_10, op_11, op_12, dg_0, dg_1, dg_2, dg_3, dp_1, dp_2, dp_3, ng_b, ng_d, mz_m, ms_m, ov_2, nset_d, nset_b, uI_1, uI_2, uR_1, uR_21, uR_22, va_rf, Bool.false_eq_true, ae_Ki, ae_Kb, ae_Kj, ae_Ka, ae_Si, ae_Sb, ae_Sj, ae_Sn, List.getElem?_cons_succ, List.getElem?_cons_zero, ↓reduceIte, if_true, if_false, nI_ofNat, true_or, or_true, false_or, or_false, true_and, and_true, false_and, and_false, or_self, and_self, not_true_eq_false, not_false_eq_true, eq_self, List.length_cons, List.length_nil, Nat.reduceAdd, Nat.reduceLT, Nat.reduceSub, List.set_cons_succ, List.set_cons_zero, Option.toList, List.nil_append, List.cons_append, cI_ltT, cI_ltF, cI_leT, cI_leF, cI_eqT, cI_eqF, cI_cl, cN_leT, cN_leF, cN_ltT, cN_ltF, cN_eqT, cN_eqF, cI_add, cI_sub, cI_m1a, cI_m1b, cI_m1c, cI_m1d, cI_m1e, cI_m1f, o2, o3, o7, o12, e1, gL, gR, gA, gw]
        · by_cases e71 : i = 71
          · rw [e71, swp_71] at hi
            cases hi
            exact Or.inl ⟨_, e, fun _ => by omega⟩
          · by_cases es : i = s
            · rw [es, swp_s (by omega)] at hi
              cases hi
              exact Or.inl ⟨71, s2, fun _ => by decide⟩
            · rw [swp_at e71 es] at hi
              exact Or.inl ⟨i, hi, id⟩
      | none =>
        have gA := fun Q => m_X3_append_none (d := d + 1) (Q := Q) s5.1 (by decide) hfw (by omega) gp (hf0.trans e)
        generalize hs : (fw + v.1.length) % 40 = s at *
        have hfr : ∀ a, a < G.2.1 → a ≠ x + 15 → a ≠ x + 16 → a ≠ x + 17 → (ah_set (newP (rset G (x + 16) 40 (va_up (fun i => if i < 40 then P i else none) s (some p)) fw (v.1.length + 1))) (x + 15) (.inr (6, of6 x c G.2.1 y))).1 a = G.1 a := fun a h1 h2 h3 h4 => by
          rw [hs_ne h2]
          exact (newP_lt (by exact h1)).trans (rset_at h3 h4)
        have hsam : ∀ i a, P i = some a → sam G (ah_set (newP (rset G (x + 16) 40 (va_up (fun i => if i < 40 then P i else none) s (some p)) fw (v.1.length + 1))) (x + 15) (.inr (6, of6 x c G.2.1 y))) a := fun i a hi => by
          have := s3.2 i a hi
          exact ⟨hfr _ (by omega) (by omega) (by omega) (by omega), hfr _ (by omega) (by omega) (by omega) (by omega), hfr _ (by omega) (by omega) (by omega) (by omega)⟩
        have hps : psh (ah_set (newP (rset G (x + 16) 40 (va_up (fun i => if i < 40 then P i else none) s (some p)) fw (v.1.length + 1))) (x + 15) (.inr (6, of6 x c G.2.1 y))) G.2.1 := psh_sam (G := newP (rset G (x + 16) 40 (va_up (fun i => if i < 40 then P i else none) s (some p)) fw (v.1.length + 1))) ⟨hs_ne (by omega), hs_ne (by omega), hs_ne (by omega)⟩ (newP_psh (rset G (x + 16) 40 (va_up (fun i => if i < 40 then P i else none) s (some p)) fw (v.1.length + 1)))
        obtain ⟨y2, hy2⟩ := dl_row (G2 := ah_set (newP (rset G (x + 16) 40 (va_up (fun i => if i < 40 then P i else none) s (some p)) fw (v.1.length + 1))) (x + 15) (.inr (6, of6 x c G.2.1 y))) (o := G.2.1) (s := s) hS0 ⟨⟨sz, d1, d2⟩, q1, q2, sz2, q3, q4⟩ (by omega) (by omega) hs.symm (hs_eq rfl) ⟨by rw [hs_ne (by omega), newP_lt (by show x + 16 < G.2.1; omega)]; exact rset_r.1, by rw [hs_ne (by omega), newP_lt (by show x + 16 + 1 < G.2.1; omega)]; exact rset_r.2⟩ hfr (Nat.le_add_right _ _) hps (cP_new s3 s2 e (Nat.le_refl _) s9 hsam hps)
        refine ⟨_, _, _, y2, 1, fun Q => ?_, hy2, ⟨fun a h1 h2 _ => hfr a h1 (by omega) (by omega) (by omega), ⟨rfl, rfl, rfl, cnP_new (by rw [s2]; rfl) e (by omega)⟩, swp_at (by decide) (by omega), fun i a hi => ?_⟩⟩
        · have gw := fun K => pw_draft (o := G.2.1) (K := K) (show (newP (rset G (x + 16) 40 (va_up (fun i => if i < 40 then P i else none) s (some p)) fw (v.1.length + 1))).1 (x + 15) = some (.inr (6, of6 x c p y)) by rw [newP_lt (by show x + 15 < G.2.1; omega), rset_at (by omega) (by omega)]; exact g15)
          have gN : ∀ (l0 l1 l2 : Option Value) (r0 : Value) (Q : Option Value → ah_H → Prop), ae_wp (d + 3) mX6_deliver 66 [l0, l1, l2] [r0] (rset G (x + 16) 40 (va_up (fun i => if i < 40 then P i else none) s (some p)) fw (v.1.length + 1)) Q = ae_wp (d + 3) mX6_deliver 77 [l0, l1, l2] [.ref G.2.1, r0] (newP (rset G (x + 16) 40 (va_up (fun i => if i < 40 then P i else none) s (some p)) fw (v.1.length + 1))) Q := fun l0 l1 l2 r0 Q => dl_new (d := d + 1) (H := (rset G (x + 16) 40 (va_up (fun i => if i < 40 then P i else none) s (some p)) fw (v.1.length + 1)))
          simp (disch := first | exact ae_isR_ref _ | exact ae_isR_null | exact ae_isR_rf _ | exact ae_cat_ref _ | exact ae_cat_int _ | exact ae_cat_null | exact ae_cat_rf _ | exact ae_nz0 | exact ae_nz1 | exact ae_fz0 | exact ae_fz1 | exact cI_na (by omega) | exact cI_ix (by omega) | exact cI_nn (by omega) | exact cI_nz (by omega) | exact cI_cp (by omega) | assumption | omega) only [s_X6_deliver_0, s_X6_deliver_1, s_X6_deliver_4, s_X6_deliver_7, s_X6_deliver_10, s_X6_deliver_11, s_X6_deliver_14, s_X6_deliver_17, s_X6_deliver_18, s_X6_deliver_21, s_X6_deliver_22, s_X6_deliver_23, s_X6_deliver_26 gp, s_X6_deliver_29, s_X6_deliver_32, s_X6_deliver_33 s5.1.1, s_X6_deliver_36, e_X6_deliver, s_X6_deliver_52, s_X6_deliver_53, s_X6_deliver_54, s_X6_deliver_57 s5.1.1, s_X6_deliver_60, s_X6_deliver_61, s_X6_deliver_62, s_X6_deliver_63, s_X6_deliver_63_N, gN, s_X6_deliver_77, s_X6_deliver_80, og_0, og_1, og_2, og_3, og_4, og_5, og_6, og_7, og_8, og_9, og_10, og_11, og_12, op_6, op_8, op_9, op_10, op_11, op_12, dg_0, dg_1, dg_2, dg_3, dp_1, dp_2, dp_3, ng_b, ng_d, mz_m, ms_m, ov_2, nset_d, nset_b, uI_1, uI_2, uR_1, uR_21, uR_22, va_rf, Bool.false_eq_true, ae_Ki, ae_Kb, ae_Kj, ae_Ka, ae_Si, ae_Sb, ae_Sj, ae_Sn, List.getElem?_cons_succ, List.getElem?_cons_zero, ↓reduceIte, if_true, if_false, nI_ofNat, true_or, or_true, false_or, or_false, true_and, and_true, false_and, and_false, or_self, and_self, not_true_eq_false, not_false_eq_true, eq_self, List.length_cons, List.length_nil, Nat.reduceAdd, Nat.reduceLT, Nat.reduceSub, List.set_cons_succ, List.set_cons_zero, Option.toList, List.nil_append, List.cons_append, cI_ltT, cI_ltF, cI_leT, cI_leF, cI_eqT, cI_eqF, cI_cl, cN_leT, cN_leF, cN_ltT, cN_ltF, cN_eqT, cN_eqF, cI_add, cI_sub, cI_m1a, cI_m1b, cI_m1c, cI_m1d, cI_m1e, cI_m1f, o2, o3, o7, o12, e1, gL, gR, gA, gw]
        · by_cases e71 : i = 71
          · rw [e71, swp_71] at hi
            cases hi
            exact Or.inr (Nat.le_refl _)
          · by_cases es : i = s
            · rw [es, swp_s (by omega)] at hi
              cases hi
              exact Or.inl ⟨71, s2, fun _ => by decide⟩
            · rw [swp_at e71 es] at hi
              exact Or.inl ⟨i, hi, id⟩
end DLW
