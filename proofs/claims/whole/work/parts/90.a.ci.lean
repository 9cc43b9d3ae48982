/-! the class as a whole: what it holds, and what stays -/
theorem cS_cg {G G2 : ah_H} {x : Nat} {P : Nat → Option Nat} {c p : Nat} {y : rS} {fw : Nat} {v : sV} (hf : ∀ a, x + 15 ≤ a → a ≤ x + 22 → G2.1 a = G.1 a) (hp : ∀ i b, P i = some b → G2.1 b = G.1 b ∧ G2.1 (b + 1) = G.1 (b + 1) ∧ G2.1 (b + 2) = G.1 (b + 2)) (hn : G.2.1 ≤ G2.2.1) (h : cS G x P c p y fw v) : cS G2 x P c p y fw v := by
  have h0 := h
  obtain ⟨h1, h2, h3, h4, h5, h6, h7, h8, h9⟩ := h
  have hcp := cS_p h0
  have e : ∀ a, G.1 a = (ov G x c p y).1 a := fun a => by rw [← h4]
  refine ⟨h1, h2, ⟨h3.1, fun i a hi => ?_⟩, ov_mk ?_ ?_ ?_ ?_ ?_ ?_ ?_, ⟨⟨?_, ?_⟩, h5.2.1, h5.2.2.1, fun i hi => ?_⟩, ⟨⟨?_, ?_⟩, h6.2.1, fun i hi => ?_⟩, h7, h8, by omega⟩
  · obtain ⟨a1, a2, i1, i2, i3, s, f, a3, a4, a5⟩ := h3.2 i a hi
    obtain ⟨p1, p2, p3⟩ := hp i a hi
    exact ⟨a1, by omega, i1, i2, i3, s, f, by rw [p1]; exact a3, by rw [p2]; exact a4, by rw [p3]; exact a5⟩
  · rw [hf _ (by omega) (by omega), e]; simp [ov]
  · rw [hf _ (by omega) (by omega), e]; simp [ov]
  · rw [hf _ (by omega) (by omega), e]; simp [ov]
  · rw [hf _ (by omega) (by omega), e]; simp [ov]
  · rw [(hp _ _ h2).1, e]
    simp only [ov]
    rw [if_neg (by omega), if_neg (by omega), if_neg (by omega), if_neg (by omega), if_pos trivial]
  · rw [(hp _ _ h2).2.1, e]
    simp only [ov]
    rw [if_neg (by omega), if_neg (by omega), if_neg (by omega), if_neg (by omega), if_neg (by omega), if_pos trivial]
  · rw [(hp _ _ h2).2.2, e]
    simp only [ov]
    rw [if_neg (by omega), if_neg (by omega), if_neg (by omega), if_neg (by omega), if_neg (by omega), if_neg (by omega), if_pos trivial]
  · rw [hf _ (by omega) (by omega)]; exact h5.1.1
  · rw [hf _ (by omega) (by omega)]; exact h5.1.2
  · obtain ⟨a, a1, a2, g, ⟨a3, a4⟩, a5⟩ := h5.2.2.2 i hi
    obtain ⟨p1, p2, p3⟩ := hp _ a a1
    exact ⟨a, a1, by rw [p1]; exact a2, g, ⟨by rw [p2]; exact a3, by show G2.1 (a + 2) = _; rw [p3]; exact a4⟩, a5⟩
  · rw [hf _ (by omega) (by omega)]; exact h6.1.1
  · rw [hf _ (by omega) (by omega)]; exact h6.1.2
  · obtain ⟨a, a1, ⟨i1, i3, a2⟩, g, ⟨a3, a4⟩, a5⟩ := h6.2.2 i hi
    obtain ⟨p1, p2, p3⟩ := hp _ a a1
    exact ⟨a, a1, ⟨i1, i3, by rw [p1]; exact a2⟩, g, ⟨by rw [p2]; exact a3, by show G2.1 (a + 2) = _; rw [p3]; exact a4⟩, a5⟩
def rPx (x : Nat) (P : Nat → Option Nat) (ro : Nat → Nat) : Prop := (∀ i b, P i = some b → ro b = 1 ∧ ro (b + 1) = 1 ∧ ro (b + 2) = 1) ∧ ∀ a, x + 29 ≤ a → a < x + 236 → ro a = 0
def cix (G : ah_H) (x ns : Nat) (A : Nat → Nat) (F : Nat → Bool) (tp : List Nat) (rl : mR) (v : sV) (P : Nat → Option Nat) (c p : Nat) (y : rS) (fw : Nat) (ar fn : Nat → Int32) (ro : Nat → Nat) (sp : Nat) (lf tf : Nat → Option Nat) (T : List Nat) (nn cc : Nat → Nat) (fe : Nat → Option Nat) : Prop := fac G x ∧ (sym G (x + 1) ns ar fn ∧ arl A ns ar ∧ fnl F ns fn) ∧ tpk G x tp ∧ cS G x P c p y fw v ∧ rsK G x A ns rl ro sp lf tf T nn cc ∧ rsx G x ro fe ∧ rPx x P ro
section CIX
variable {G G2 : ah_H} {x ns : Nat} {A : Nat → Nat} {F : Nat → Bool} {tp : List Nat} {rl : mR} {v : sV} {P : Nat → Option Nat} {c p : Nat} {y : rS} {fw : Nat} {ar fn : Nat → Int32} {ro : Nat → Nat} {sp : Nat} {lf tf : Nat → Option Nat} {T : List Nat} {nn cc : Nat → Nat} {fe : Nat → Option Nat}
theorem tpk_cg (h1 : G2.1 (x + 4) = G.1 (x + 4)) (h2 : G2.1 (x + 5) = G.1 (x + 5)) (h : tpk G x tp) : tpk G2 x tp := by
  obtain ⟨g, ⟨a1, a2⟩, a3⟩ := h
  exact ⟨g, ⟨by rw [h1]; exact a1, by show G2.1 (x + 5) = _; rw [h2]; exact a2⟩, a3⟩
theorem sym_cg3 (h : ∀ a, x + 1 ≤ a → a ≤ x + 3 → G2.1 a = G.1 a) (hs : sym G (x + 1) ns ar fn) : sym G2 (x + 1) ns ar fn := ⟨by rw [h _ (by omega) (by omega)]; exact hs.1, by rw [h _ (by omega) (by omega)]; exact hs.2.1, by rw [h _ (by omega) (by omega)]; exact hs.2.2⟩
theorem rsx_cg (h : rsx G x ro fe) (he : G2.1 G.2.2.2.1 = G.1 G.2.2.2.1) (hn : G.2.1 ≤ G2.2.1) (h22 : G2.2.2.2 = G.2.2.2) : rsx G2 x ro fe := by
  obtain ⟨h1, h2, h3, h4, h5, h6⟩ := h
  exact ⟨fun a ha => by have := h1 a ha; omega, h2, by omega, by rw [h22, he]; exact h4, by rw [h22]; exact h5, by rw [h22]; exact h6⟩
theorem rsx_E (h : rsx G x ro fe) {a : Nat} (ha : rsc x ro a) : a < G.2.1 ∧ (a < x + 15 ∨ x + 22 < a) ∧ ro a ≠ 1 := by
  obtain ⟨h1, h2, h3, h4, h5, h6⟩ := h
  rcases ha with z | z | z
  · exact ⟨by omega, by omega, by rw [h2 a (by omega) (by omega) (by omega) (by omega)]; omega⟩
  · exact ⟨by omega, by omega, by rw [h2 a (by omega) (by omega) (by omega) (by omega)]; omega⟩
  · refine ⟨h1 a (by omega), ?_, by omega⟩
    by_cases c : a < x + 15 ∨ x + 22 < a
    · exact c
    · have := h2 a (by omega) (by omega) (by omega) (by omega)
      omega
theorem rPx_dis (hP : rPx x P ro) {a : Nat} (ha : ro a ≠ 1) : ∀ i b, P i = some b → a < b ∨ b + 2 < a := fun i b hi => by
  obtain ⟨h1, h2, h3⟩ := hP.1 i b hi
  by_cases c : a < b ∨ b + 2 < a
  · exact c
  · rcases (show a = b ∨ a = b + 1 ∨ a = b + 2 by omega) with e | e | e <;> (rw [e] at ha; omega)
/-- the solver's cells aside -/
def Es (G : ah_H) (x : Nat) (ro : Nat → Nat) (a : Nat) : Prop := a < G.2.1 ∧ (a < x + 15 ∨ x + 22 < a) ∧ ro a ≠ 1
theorem cix_dis (h : cix G x ns A F tp rl v P c p y fw ar fn ro sp lf tf T nn cc fe) : dis (Es G x ro) G x P := fun a ha => ⟨ha.1, ha.2.1, rPx_dis h.2.2.2.2.2.2 ha.2.2⟩
theorem cix_fix (h : cix G x ns A F tp rl v P c p y fw ar fn ro sp lf tf T nn cc fe) {k : Nat} (hk : k ≤ 14) (h9 : k ≠ 9) (h10 : k ≠ 10) : Es G x ro (x + k) := by
  obtain ⟨h1, h2, h3, h4, h5, h6⟩ := h.2.2.2.2.2.1
  exact ⟨by omega, by omega, by rw [h2 _ (by omega) (by omega) (by omega) (by omega)]; omega⟩
theorem cix_rlk (h : cix G x ns A F tp rl v P c p y fw ar fn ro sp lf tf T nn cc fe) : rlk (Es G x ro) G x A ns rl := by
  have hx := h.2.2.2.2.2.1
  refine rsK_rlk h.2.1.2.1.1 (fun a ha => rsx_E hx ha) ?_ h.2.2.2.2.1
  obtain ⟨h1, h2, h3, h4, h5, h6⟩ := hx
  exact ⟨by omega, by omega, by rw [h5]; omega⟩
/-- cells outside the class may change -/
theorem cix_cg (h : cix G x ns A F tp rl v P c p y fw ar fn ro sp lf tf T nn cc fe) (hc : ∀ a, (x ≤ a ∧ a ≤ x + 22) ∨ ro a ≠ 0 ∨ a = G.2.2.2.1 → G2.1 a = G.1 a) (hn : G.2.1 ≤ G2.2.1) (h22 : G2.2.2.2 = G.2.2.2) : cix G2 x ns A F tp rl v P c p y fw ar fn ro sp lf tf T nn cc fe := by
  obtain ⟨h1, h2, h3, h4, h5, h6, h7⟩ := h
  have hf : ∀ a, x ≤ a → a ≤ x + 22 → G2.1 a = G.1 a := fun a q1 q2 => hc a (Or.inl ⟨q1, q2⟩)
  refine ⟨by unfold fac; rw [hf _ (by omega) (by omega)]; exact h1, ⟨sym_cg3 (fun a q1 q2 => hf a (by omega) (by omega)) h2.1, h2.2⟩, tpk_cg (hf _ (by omega) (by omega)) (hf _ (by omega) (by omega)) h3, cS_cg (fun a q1 q2 => hf a (by omega) (by omega)) (fun i b hi => ?_) hn h4, rsK_cg h5 (fun a ha => ?_) (fun _ _ => rfl) (hc _ (Or.inr (Or.inr rfl))) hn h22, rsx_cg h6 (hc _ (Or.inr (Or.inr rfl))) hn h22, h7⟩
  · obtain ⟨p1, p2, p3⟩ := h7.1 i b hi
    exact ⟨hc _ (Or.inr (Or.inl (by omega))), hc _ (Or.inr (Or.inl (by omega))), hc _ (Or.inr (Or.inl (by omega)))⟩
  · rcases ha with z | z | z
    · exact hf a (by omega) (by omega)
    · exact hf a (by omega) (by omega)
    · exact hc a (Or.inr (Or.inl (by omega)))
/-- behind a piece of the solver's work -/
def rof1 (N M : Nat) (ro : Nat → Nat) (a : Nat) : Nat := if a < N then ro a else if a < M then 1 else 0
theorem cix_frT {P2 : Nat → Option Nat} {c2 p2 : Nat} {y2 : rS} {fw2 : Nat} {v2 : sV} {k : Nat} (h : cix G x ns A F tp rl v P c p y fw ar fn ro sp lf tf T nn cc fe) (hS : cS G2 x P2 c2 p2 y2 fw2 v2) (hf : frT G G2 x P P2 k) : cix G2 x ns A F tp rl v2 P2 c2 p2 y2 fw2 ar fn (rof1 G.2.1 G2.2.1 ro) sp lf tf T nn cc fe ∧ (∀ a, Es G x ro a → G2.1 a = G.1 a) ∧ ∀ a, a < G.2.1 → rof1 G.2.1 G2.2.1 ro a = ro a := by
  have hE : ∀ a, Es G x ro a → G2.1 a = G.1 a := fun a ha => hf.1 a ha.1 ha.2.1 (rPx_dis h.2.2.2.2.2.2 ha.2.2)
  have hlo : ∀ a, a < G.2.1 → rof1 G.2.1 G2.2.1 ro a = ro a := fun a ha => if_pos ha
  have hfx := fun k h1 h2 h3 => hE _ (cix_fix h (k := k) h1 h2 h3)
  have hn : G.2.1 ≤ G2.2.1 := by rw [hf.2.1.1]; omega
  have h22 : G2.2.2.2 = G.2.2.2 := hf.2.1.2.2.1
  obtain ⟨h1, h2, h3, h4, h5, h6, h7⟩ := h
  have h6' := h6
  obtain ⟨x1, x2, x3, x4, x5, x6⟩ := h6'
  have hea : G2.1 G.2.2.2.1 = G.1 G.2.2.2.1 := hE _ ⟨by omega, by omega, by rw [x5]; omega⟩
  refine ⟨⟨by unfold fac; rw [show x = x + 0 from rfl, hfx 0 (by omega) (by omega) (by omega)]; exact h1, ⟨⟨by rw [hfx 1 (by omega) (by omega) (by omega)]; exact h2.1.1, by rw [hfx 2 (by omega) (by omega) (by omega)]; exact h2.1.2.1, by rw [hfx 3 (by omega) (by omega) (by omega)]; exact h2.1.2.2⟩, h2.2⟩, tpk_cg (hfx 4 (by omega) (by omega) (by omega)) (hfx 5 (by omega) (by omega) (by omega)) h3, hS, rsK_cg h5 (fun a ha => hE a (rsx_E h6 ha)) (fun a ha => hlo a (x1 a (by omega))) hea hn h22, ⟨fun a ha => ?_, fun a q1 q2 q3 q4 => ?_, by omega, by rw [h22, hea]; exact x4, by rw [h22, hlo _ (by omega)]; exact x5, by rw [h22]; exact x6⟩, fun i b hi => ?_, fun a q1 q2 => ?_⟩, hE, hlo⟩
  · unfold rof1 at ha
    by_cases c1 : a < G.2.1
    · omega
    · rw [if_neg c1] at ha
      by_cases c2 : a < G2.2.1
      · exact c2
      · rw [if_neg c2] at ha; exact absurd rfl ha
  · rw [hlo _ (by omega)]; exact x2 a q1 q2 q3 q4
  · have hb := (hS.2.2.1.2 i b hi).2.1
    rcases hf.2.2 i b hi with ⟨j, hj⟩ | hN
    · have hb1 := (h4.2.2.1.2 j b hj).2.1
      rw [hlo _ (by omega), hlo _ (by omega), hlo _ (by omega)]
      exact h7.1 j b hj
    · have k1 : ∀ a, G.2.1 ≤ a → a < G2.2.1 → rof1 G.2.1 G2.2.1 ro a = 1 := fun a q1 q2 => by unfold rof1; rw [if_neg (by omega), if_pos q2]
      exact ⟨k1 _ hN (by omega), k1 _ (by omega) (by omega), k1 _ (by omega) (by omega)⟩
  · have := h4.2.2.2.2.2.2.2.2
    rw [hlo _ (by omega)]; exact h7.2 a q1 q2
end CIX
