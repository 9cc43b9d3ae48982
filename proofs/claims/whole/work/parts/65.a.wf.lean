/-! problems stay well-formed -/
def zok (ns : Nat) (A : Nat → Nat) (z : List Nat) : Prop := kn1 ns z ∧ rn A z 10 = some 0 ∧ z.length ≤ 300
def svW (ns : Nat) (A : Nat → Nat) (v : sV) : Prop := (∀ p, p ∈ v.1 → wfq ns A p) ∧ ∀ z, z ∈ v.2.1 → zok ns A z
theorem kn1_iff {ns : Nat} {l : List Nat} : kn1 ns l ↔ ∀ x, x ∈ l → x < ns ∨ (100 ≤ x ∧ x < 256) := by
  constructor
  · intro h x hx
    obtain ⟨i, hi, e⟩ := List.mem_iff_getElem.mp hx
    have := h i hi
    rw [List.getD_eq_getElem?_getD, List.getElem?_eq_getElem hi] at this
    simp only [Option.getD_some, e] at this
    exact this
  · intro h i hi
    rw [List.getD_eq_getElem?_getD, List.getElem?_eq_getElem hi, Option.getD_some]
    exact h _ (List.getElem_mem hi)
theorem kn1_app {ns : Nat} {l r : List Nat} (h1 : kn1 ns l) (h2 : kn1 ns r) : kn1 ns (l ++ r) := by
  rw [kn1_iff] at *
  intro x hx
  rcases List.mem_append.mp hx with z | z
  · exact h1 x z
  · exact h2 x z
theorem kn1_sl {ns : Nat} {l : List Nat} {a b : Nat} (h : kn1 ns l) : kn1 ns (sl l a b) := by
  rw [kn1_iff] at *
  exact fun x hx => h x (sl_mem hx)
theorem kn1_nil (ns : Nat) : kn1 ns [] := fun i hi => by simp at hi
theorem kn1_sbx {ns : Nat} {v : Int32} {B l : List Nat} (hB : kn1 ns B) (h : kn1 ns l) : kn1 ns (sbx v B l) := by
  rw [kn1_iff] at *
  intro x hx
  obtain ⟨y, hy, hx⟩ := List.mem_flatMap.mp hx
  by_cases c : nI y = v
  · rw [if_pos c] at hx; exact hB x hx
  · rw [if_neg c] at hx
    rw [List.mem_singleton.mp hx]
    exact h y hy
theorem kn1_bnd {ns : Nat} {A : Nat → Nat} {fr c : Nat} (hA : ∀ x, A x ≤ 3) (hc : c < ns) (hf : fr ≤ 100) : kn1 ns (bnd A fr c) := by
  rw [kn1_iff]
  intro x hx
  rcases List.mem_cons.mp hx with z | z
  · rw [z]; exact Or.inl hc
  · obtain ⟨i, hi, e⟩ := List.mem_map.mp z
    have := List.mem_range.mp hi
    have := hA c
    omega
theorem rn_vars {A : Nat → Nat} {b : Nat} (h0 : ∀ x, 100 ≤ x → A x = 0) (hb : 100 ≤ b) : ∀ (l : List Nat), rn A (l.map (fun i => b + i)) l.length = some 0 := by
  intro l
  induction l with
  | nil => rfl
  | cons x l ih =>
    simp only [List.map_cons, List.length_cons, rn]
    rw [if_neg (by omega), h0 _ (by omega)]
    simpa using ih
theorem rn_bnd {A : Nat → Nat} {fr c : Nat} (h0 : ∀ x, 100 ≤ x → A x = 0) : rn A (bnd A fr c) 1 = some 0 := by
  simp only [bnd, rn]
  rw [if_neg (by omega), show 1 + A c - 1 = (List.range (A c)).length by simp]
  exact rn_vars h0 (by omega) _
theorem rn_one {A : Nat → Nat} {x : Nat} (h : A x = 0) : rn A [x] 1 = some 0 := by simp [rn, h]
theorem bnd_at {A : Nat → Nat} {fr c k : Nat} (h : k < A c) : (bnd A fr c).getD (1 + k) 0 = 100 + fr + k := by
  rw [Nat.add_comm 1 k]
  simp only [bnd, List.getD_eq_getElem?_getD, List.getElem?_cons_succ, List.getElem?_map]
  rw [List.getElem?_range h]
  rfl
/-- a variable bound: the row has as many terms as before -/
theorem rn_bsbx {ns : Nat} {A : Nat → Nat} {fr c x : Nat} {l : List Nat} {n : Nat} (hns : ns ≤ 24) (h0 : ∀ x, ns ≤ x → A x = 0) (hx : 100 ≤ x ∧ x < 256) (hl : kn1 ns l) : rn A (sbx (nI x) (bnd A fr c) l) n = rn A l n := by
  have h1 : ∀ y, 100 ≤ y → A y = 0 := fun y hy => h0 y (by omega)
  have key : ∀ (l : List Nat) (n : Nat), (∀ y, y ∈ l → y < 256) → rn A (sbx (nI x) (bnd A fr c) l) n = rn A l n := by
    intro l
    induction l with
    | nil => intro n _; rfl
    | cons y l ih =>
      intro n hy
      have hy1 := hy y (by simp)
      by_cases cc : nI y = nI x
      · have e : y = x := by
          rcases Nat.lt_or_ge y x with z | z
          · rw [cI_eqF (by omega)] at cc; exact cc.elim
          · rcases Nat.lt_or_ge x y with z2 | z2
            · rw [cI_eqF (by omega)] at cc; exact cc.elim
            · omega
        rw [sbx_pos cc, rn_append]
        simp only [rn]
        by_cases c2 : n = 0
        · rw [if_pos c2, c2]; rfl
        · rw [if_neg c2, h1 y (by omega)]
          have := rn_add _ 1 0 (n - 1) (rn_bnd (A := A) (fr := fr) (c := c) h1)
          rw [show 1 + (n - 1) = n by omega] at this
          rw [this, Option.bind_some, Nat.zero_add, ih _ (fun z hz => hy z (by simp [hz]))]
          rfl
      · rw [sbx_neg cc]
        simp only [rn]
        rw [ih _ (fun z hz => hy z (by simp [hz]))]
  exact key l n (kn1_mem hns hl)
theorem rn_split {A : Nat → Nat} {l : List Nat} {n i : Nat} (h : rn A l n = some 0) (hi : i ≤ l.length) : ∃ m, rn A (sl l 0 i) n = some m ∧ rn A (l.drop i) m = some 0 ∧ (i < l.length → 0 < m) := by
  have e : sl l 0 i = l.take i := by simp [sl]
  rw [e]
  have e2 : l = l.take i ++ l.drop i := (List.take_append_drop i l).symm
  rw [e2, rn_append] at h
  cases h1 : rn A (l.take i) n with
  | none => rw [h1] at h; cases h
  | some m =>
    rw [h1, Option.bind_some] at h
    refine ⟨m, rfl, h, fun hl => ?_⟩
    rw [drop_cons hl] at h
    exact (rn_pos h).1
theorem kpm_wf {ns : Nat} {A : Nat → Nat} {v : sV} {L T : List Nat} {mn nx : Nat} (hv : svW ns A v) (h1 : kn1 ns L) (h2 : kn1 ns T) (h3 : rn A L (2 * mn) = some 0) (h4 : rn A T 10 = some 0) : svW ns A (kpm v L T mn nx) := by
  unfold kpm
  by_cases c : 300 < L.length + T.length ∨ 81 < nx ∨ (mn = 0 ∧ v.2.1.length = 30) ∨ (0 < mn ∧ v.1.length = 40)
  · rw [if_pos c]; exact hv
  · rw [if_neg c]
    by_cases c2 : mn = 0
    · rw [if_pos c2]
      refine ⟨hv.1, fun z hz => ?_⟩
      rcases List.mem_append.mp hz with y | y
      · exact hv.2 z y
      · rw [List.mem_singleton.mp y]
        exact ⟨h2, h4, by omega⟩
    · rw [if_neg c2]
      refine ⟨fun p hp => ?_, hv.2⟩
      rcases List.mem_append.mp hp with y | y
      · exact hv.1 p y
      · rw [List.mem_singleton.mp y]
        exact ⟨h1, h2, h3, h4, by dsimp only; omega, by dsimp only; omega, by dsimp only; omega⟩
theorem flm_wf {ns : Nat} {A : Nat → Nat} {v : sV} (hv : svW ns A v) : svW ns A (flm v) := hv
section WF
variable {ns : Nat} {A : Nat → Nat} {F : Nat → Bool} {rl : mR} {e a : List Nat} {mn fr : Nat} {v : sV}
theorem gar_rn (hns : ns ≤ 24) (hk : kn1 ns e) : ∀ (n i j m1 m2 : Nat), i ≤ e.length → j ≤ e.length → rn A (e.drop i) (n + m1) = some 0 → rn A (e.drop j) (n + m2) = some 0 → rn A (gar A e (-1) [] n i j) (2 * n) = some 0 ∧ kn1 ns (gar A e (-1) [] n i j) := by
  intro n
  induction n with
  | zero => intro i j m1 m2 _ _ _ _; exact ⟨rfl, kn1_nil _⟩
  | succ n ih =>
    intro i j m1 m2 hi hj h1 h2
    obtain ⟨a1, a2, a3, a4, a5⟩ := rn_te (A := A) (l := e) (i := i) (m := n + m1) (by rw [show n + m1 + 1 = n + 1 + m1 by omega]; exact h1)
    obtain ⟨b1, b2, b3, b4, b5⟩ := rn_te (A := A) (l := e) (i := j) (m := n + m2) (by rw [show n + m2 + 1 = n + 1 + m2 by omega]; exact h2)
    obtain ⟨g1, g2⟩ := ih (te A e i) (te A e j) m1 m2 a2 b2 a5 b5
    rw [gar, sbx_m1s hns hk, sbx_m1s hns hk]
    refine ⟨?_, kn1_app (kn1_sl hk) (kn1_app (kn1_sl hk) g2)⟩
    rw [show 2 * (n + 1) = 1 + (1 + 2 * n) by omega]
    exact rn_two a4 (rn_two b4 g1)
theorem bsl_rn {fs : Bool} {x c : Nat} (hns : ns ≤ 24) (hA : ∀ x, A x ≤ 3) (h0 : ∀ x, ns ≤ x → A x = 0) (hk : kn1 ns e) (hx : 100 ≤ x ∧ x < 256) (hc : c < ns) (hf : fr ≤ 100) : ∀ (n i k m1 : Nat), k + n = A c → i ≤ e.length → rn A (e.drop i) (n + m1) = some 0 → rn A (bsl A e (nI x) (bnd A fr c) fs n i k) (2 * n) = some 0 ∧ kn1 ns (bsl A e (nI x) (bnd A fr c) fs n i k) := by
  intro n
  induction n with
  | zero => intro i k m1 _ _ _; exact ⟨rfl, kn1_nil _⟩
  | succ n ih =>
    intro i k m1 hk1 hi h1
    obtain ⟨a1, a2, a3, a4, a5⟩ := rn_te (A := A) (l := e) (i := i) (m := n + m1) (by rw [show n + m1 + 1 = n + 1 + m1 by omega]; exact h1)
    obtain ⟨g1, g2⟩ := ih (te A e i) (k + 1) m1 (by omega) a2 a5
    have hA3 := hA c
    rw [bsl, bnd_at (by omega)]
    have r1 : rn A (sbx (nI x) (bnd A fr c) (sl e i (te A e i))) 1 = some 0 := by
      rw [rn_bsbx hns h0 hx (kn1_sl hk)]; exact a4
    have r2 : rn A [100 + fr + k] 1 = some 0 := rn_one (h0 _ (by omega))
    have k1 : kn1 ns (sbx (nI x) (bnd A fr c) (sl e i (te A e i))) := kn1_sbx (kn1_bnd hA hc hf) (kn1_sl hk)
    have k2 : kn1 ns [100 + fr + k] := by
      rw [kn1_iff]
      intro y hy
      rw [List.mem_singleton.mp hy]
      omega
    cases fs with
    | true =>
      simp only [↓reduceIte, List.nil_append]
      refine ⟨?_, kn1_app k2 (kn1_app k1 g2)⟩
      rw [show 2 * (n + 1) = 1 + (1 + 2 * n) by omega]
      exact rn_two r2 (rn_two r1 g1)
    | false =>
      simp only [Bool.false_eq_true, ↓reduceIte, List.nil_append]
      refine ⟨?_, kn1_app k1 (kn1_app k2 g2)⟩
      rw [show 2 * (n + 1) = 1 + (1 + 2 * n) by omega]
      exact rn_two r1 (rn_two r2 g1)
theorem rhs_rn {l : List Nat} {at_ : Nat} (hns : ns ≤ 24) (h0 : ∀ x, ns ≤ x → A x = 0) (hk : kn1 ns e) (hac : ∀ i, i < e.length → ∃ m, rn A (e.drop i) (m + 1) = some 0) : ∀ (r : List Nat) (n : Nat), kn1 ns r → (∀ y, y ∈ r → 100 ≤ y → ∃ x, mp2 A e l at_ y = some x ∧ x < e.length) → rn A (rhs A e l at_ r) n = rn A r n ∧ kn1 ns (rhs A e l at_ r) := by
  intro r
  induction r with
  | nil => intro n _ _; exact ⟨rfl, kn1_nil _⟩
  | cons y r ih =>
    intro n hr hp
    rw [kn1_iff] at hr
    have hy := hr y (by simp)
    obtain ⟨_, i2⟩ := ih n (kn1_iff.mpr (fun z hz => hr z (by simp [hz]))) (fun z hz => hp z (by simp [hz]))
    have ih1 := fun n => (ih n (kn1_iff.mpr (fun z hz => hr z (by simp [hz]))) (fun z hz => hp z (by simp [hz]))).1
    by_cases c : 100 ≤ y
    · obtain ⟨x, x1, x2⟩ := hp y (by simp) c
      have er : rhs A e l at_ (y :: r) = sl e x (te A e x) ++ rhs A e l at_ r := by
        simp only [rhs, List.flatMap_cons, if_pos c, x1, Option.getD_some]
      obtain ⟨m, hm⟩ := hac x x2
      have ht := (rn_te hm).2.2.2.1
      rw [er]
      refine ⟨?_, kn1_app (kn1_sl hk) i2⟩
      rw [rn_append]
      simp only [rn]
      by_cases c2 : n = 0
      · rw [if_pos c2, c2]
        have h9 := (rn_te hm)
        rw [sl_cons h9.1 h9.2.1]
        rfl
      · rw [if_neg c2, h0 y (by omega)]
        have := rn_add _ 1 0 (n - 1) ht
        rw [show 1 + (n - 1) = n by omega] at this
        rw [this, Option.bind_some, Nat.zero_add, ih1]
        rfl
    · have er : rhs A e l at_ (y :: r) = [y] ++ rhs A e l at_ r := by
        simp only [rhs, List.flatMap_cons, if_neg c]
      rw [er]
      refine ⟨?_, kn1_app (by rw [kn1_iff]; intro z hz; rw [List.mem_singleton.mp hz]; exact hy) i2⟩
      show rn A (y :: rhs A e l at_ r) n = _
      simp only [rn]
      rw [ih1]
theorem usm_wf {r at_ : Nat} (hns : ns ≤ 24) (h0 : ∀ x, ns ≤ x → A x = 0) (hg : rgo ns A rl) (hgu : rgu ns rl) (hw : wfq ns A (e, a, mn, fr)) (hv : svW ns A v) (hr : r < rl.length) (hat : at_ < e.length) (hm : mtc A e (hpl ((rat rl r).1.take (rat rl r).2)) at_) : svW ns A (usm A e a mn fr v (rat rl r) at_) := by
  obtain ⟨w1, w2, w3, w4, w5, w6, w7⟩ := hw
  dsimp only at w1 w2 w3 w4 w5 w6 w7
  obtain ⟨u1, u2, u3⟩ := hgu r hr
  obtain ⟨g1, g2, g3, g4⟩ := hg.2 r hr
  have hac : ∀ i, i < e.length → ∃ m, rn A (e.drop i) (m + 1) = some 0 := fun i hi => by
    obtain ⟨m, r1, r2⟩ := rn_drop i _ w3 (by omega)
    exact ⟨m - 1, by rw [show m - 1 + 1 = m by have := r2 hi; omega]; exact r1⟩
  have hkr := g2
  rw [kn1_iff] at hkr
  have hrr := rhs_rn (A := A) (e := e) (l := (rat rl r).1.take (rat rl r).2) (at_ := at_) hns h0 w1 hac ((rat rl r).1.drop (rat rl r).2) 1 (kn1_iff.mpr (fun z hz => hkr z (List.mem_of_mem_drop hz))) (fun y hy hy1 => mp2_in _ _ _ (fun z hz => by have := hkr z (List.mem_of_mem_take hz); omega) hm (u2 y hy hy1) hy1)
  have hrt : rn A ((rat rl r).1.drop (rat rl r).2) 1 = some 0 := by
    rw [g4]
    exact (rn_te (A := A) (l := (rat rl r).1) (i := 0) (m := 1) (by simpa using g3)).2.2.2.2
  unfold usm
  refine kpm_wf hv (kn1_app (kn1_sl w1) (kn1_app hrr.2 (kn1_sl w1))) w2 ?_ w4
  obtain ⟨m, s1, s2, s3⟩ := rn_split (i := at_) w3 (by omega)
  obtain ⟨m', rfl⟩ : ∃ m', m = m' + 1 := ⟨m - 1, by have := s3 hat; omega⟩
  have s4 := (rn_te s2).2.2.2.2
  rw [rn_append, s1, Option.bind_some, sl_end, Nat.add_comm]
  exact rn_two (by rw [hrr.1]; exact hrt) s4
theorem ptm_wf {x : Nat} (hns : ns ≤ 24) (hA : ∀ x, A x ≤ 3) (h0 : ∀ x, ns ≤ x → A x = 0) (hw : wfq ns A (e, a, mn, fr)) (hx : 100 ≤ x ∧ x < 256) : ∀ (cs : List Nat) (v : sV), svW ns A v → (∀ c, c ∈ cs → c < ns) → svW ns A (ptm A e a mn fr x v cs) := by
  obtain ⟨w1, w2, w3, w4, w5, w6, w7⟩ := hw
  dsimp only at w1 w2 w3 w4 w5 w6 w7
  intro cs
  induction cs with
  | nil => intro v hv _; exact hv
  | cons c cs ih =>
    intro v hv hc
    have hb := kn1_bnd (fr := fr) hA (hc c (by simp)) (by omega)
    exact ih _ (kpm_wf hv (kn1_sbx hb w1) (kn1_sbx hb w2) (by rw [rn_bsbx hns h0 hx w1]; exact w3) (by rw [rn_bsbx hns h0 hx w2]; exact w4)) (fun c hc2 => hc c (by simp [hc2]))
theorem bsm_wf {fs : Bool} {x tm : Nat} (hns : ns ≤ 24) (hA : ∀ x, A x ≤ 3) (h0 : ∀ x, ns ≤ x → A x = 0) (hw : wfq ns A (e, a, mn, fr)) (hv : svW ns A v) (hx : 100 ≤ x ∧ x < 256) (htl : tm < e.length) (hcn : e.getD tm 0 < ns) : svW ns A (bsm A F v e a mn fr fs x tm) := by
  obtain ⟨w1, w2, w3, w4, w5, w6, w7⟩ := hw
  dsimp only at w1 w2 w3 w4 w5 w6 w7
  unfold bsm
  split
  · exact flm_wf hv
  · obtain ⟨t1, t2, t3, t4, t5⟩ := rn_te (A := A) (l := e) (i := 0) (m := 2 * mn - 1) (by rw [List.drop_zero, show 2 * mn - 1 + 1 = 2 * mn by omega]; exact w3)
    obtain ⟨u1, u2, u3, u4, u5⟩ := rn_te (A := A) (l := e) (i := te A e 0) (m := 2 * mn - 2) (by rw [show 2 * mn - 2 + 1 = 2 * mn - 1 by omega]; exact t5)
    obtain ⟨m1, hm1⟩ : ∃ m1, rn A (e.drop tm) (m1 + 1) = some 0 := by
      obtain ⟨m, r1, r2⟩ := rn_drop tm _ w3 (by omega)
      exact ⟨m - 1, by rw [show m - 1 + 1 = m by have := r2 htl; omega]; exact r1⟩
    obtain ⟨j1, j2, j3⟩ := te_args hm1
    have hb := kn1_bnd (fr := fr) hA hcn (by omega)
    obtain ⟨g1, g2⟩ := bsl_rn (fr := fr) (fs := fs) hns hA h0 w1 hx hcn (by omega) (A (e.getD tm 0)) (tm + 1) 0 m1 (by omega) (by omega) j3
    refine kpm_wf hv (kn1_app g2 (kn1_sbx hb (kn1_sl w1))) (kn1_sbx hb w2) ?_ (by rw [rn_bsbx hns h0 hx w2]; exact w4)
    rw [show 2 * (mn - 1 + A (e.getD tm 0)) = 2 * A (e.getD tm 0) + (2 * mn - 2) by omega]
    exact rn_two g1 (by rw [rn_bsbx hns h0 hx (kn1_sl w1), sl_end]; exact u5)
theorem wkm_wf (hns : ns ≤ 24) (hA : ∀ x, A x ≤ 3) (h0 : ∀ x, ns ≤ x → A x = 0) (hg : rgo ns A rl) (hgu : rgu ns rl) (hw : wfq ns A (e, a, mn, fr)) (hv : svW ns A v) : ∀ (f at_ : Nat) (p : List Nat) (S : Int64), (S ≠ 0 → wfp ns A rl p S) → at_ < e.length → mtc A e p at_ → svW ns A (wkm A F rl ns e a mn fr v f at_ p S) := by
  have h99 := h0 99 (by omega)
  have hw0 := hw
  obtain ⟨w1, w2, w3, w4, w5, w6, w7⟩ := hw0
  dsimp only at w1 w2 w3 w4 w5 w6 w7
  intro f
  induction f with
  | zero => intro at_ p S _ _ _; exact hv
  | succ f ih =>
    intro at_ p S hS hat hmt
    rw [wkm]
    by_cases c0 : S = 0
    · rw [if_pos c0]; exact flm_wf hv
    · rw [if_neg c0]
      have hwp := hS c0
      by_cases cl : isl A rl p S = true
      · rw [if_pos cl]
        obtain ⟨k1, k2, k3⟩ := leaf_hpl hns h0 hg hwp cl
        exact usm_wf hns h0 hg hgu hw hv k1 hat (by rw [k3]; exact hmt)
      · rw [if_neg cl]
        cases hb : bro A rl p S with
        | none => exact hv
        | some k =>
          dsimp only
          obtain ⟨b1, b2, b3, b4, b5⟩ := bro_at (ns := ns) hb
          have hlo : loc A e p k at_ = some (wlk A e (p.take (jof p k)) at_) := by rw [loc_hix, b2]; rfl
          rw [hlo, Option.getD_some]
          obtain ⟨q1, q2⟩ := mtc_at hmt b3
          generalize hsub : wlk A e (p.take (jof p k)) at_ = sub at *
          have khd := w1 sub q1
          obtain ⟨m1, hm1⟩ : ∃ m1, rn A (e.drop sub) (m1 + 1) = some 0 := by
            obtain ⟨m, r1, r2⟩ := rn_drop sub _ w3 (by omega)
            exact ⟨m - 1, by rw [show m - 1 + 1 = m by have := r2 q1; omega]; exact r1⟩
          by_cases c1 : 100 ≤ e.getD sub 0
          · rw [if_pos c1]
            exact ptm_wf hns hA h0 hw ⟨c1, by omega⟩ _ _ hv (fun c hc => (chs_ok.2 c hc).1)
          · rw [if_neg c1]
            have hlt : e.getD sub 0 < ns := by omega
            by_cases c2 : F (e.getD sub 0) = true
            · rw [if_pos c2]
              exact ih _ _ _ (fun z => bgn_wfp h99 hns hg hlt z) q1 (bgn_mtc hns hm1 hlt)
            · rw [if_neg c2]
              exact ih _ _ _ (fun z => kid_wfp h99 hns hg hwp hb hlt z) hat (rfa_mtc hmt b3 b4 (by omega) (by rw [hsub]) (by rw [hsub]; exact hm1))
theorem stm_wf (hns : ns ≤ 24) (hA : ∀ x, A x ≤ 3) (h0 : ∀ x, ns ≤ x → A x = 0) (hFn : ∀ x, F x = true → x < ns) (hg : rgo ns A rl) (hgu : rgu ns rl) (hw : wfq ns A (e, a, mn, fr)) (hv : svW ns A v) : svW ns A (stm A F rl ns v (e, a, mn, fr)) := by
  have h99 := h0 99 (by omega)
  have hw0 := hw
  obtain ⟨w1, w2, w3, w4, w5, w6, w7⟩ := hw0
  dsimp only at w1 w2 w3 w4 w5 w6 w7
  obtain ⟨t1, t2, t3, t4, t5⟩ := rn_te (A := A) (l := e) (i := 0) (m := 2 * mn - 1) (by rw [List.drop_zero, show 2 * mn - 1 + 1 = 2 * mn by omega]; exact w3)
  obtain ⟨u1, u2, u3, u4, u5⟩ := rn_te (A := A) (l := e) (i := te A e 0) (m := 2 * mn - 2) (by rw [show 2 * mn - 2 + 1 = 2 * mn - 1 by omega]; exact t5)
  have hv1 : svW ns A (v.1, v.2.1, v.2.2.1 + nI 1, v.2.2.2) := hv
  have k0 := w1 0 (by omega)
  have k1 := w1 (te A e 0) (by omega)
  unfold stm
  dsimp only
  split
  · next c => exact wkm_wf hns hA h0 hg hgu hw hv1 _ _ _ _ (fun z => bgn_wfp h99 hns hg (hFn _ c) z) (by omega) (bgn_mtc (m := 2 * mn - 1) hns (by rw [List.drop_zero, show 2 * mn - 1 + 1 = 2 * mn by omega]; exact w3) (hFn _ c))
  · split
    · next c => exact wkm_wf hns hA h0 hg hgu hw hv1 _ _ _ _ (fun z => bgn_wfp h99 hns hg (hFn _ c) z) (by omega) (bgn_mtc (m := 2 * mn - 2) hns (by rw [show 2 * mn - 2 + 1 = 2 * mn - 1 by omega]; exact t5) (hFn _ c))
    · split
      · next c =>
        have hb : kn1 ns [e.getD (te A e 0) 0] := by
          rw [kn1_iff]
          intro y hy
          rw [List.mem_singleton.mp hy]
          exact k1
        have key : ∀ (l : List Nat) (n : Nat), kn1 ns l → rn A (sbx (if e.getD 0 0 = e.getD (te A e 0) 0 then -1 else nI (e.getD 0 0)) [e.getD (te A e 0) 0] l) n = rn A l n := by
          intro l n hl
          split
          · rw [sbx_m1a hns hl]
          · have e1 : bnd A 0 (e.getD (te A e 0) 0) = [e.getD (te A e 0) 0] := by
              unfold bnd
              rw [h0 _ (show ns ≤ e.getD (te A e 0) 0 by omega)]
              rfl
            rw [← e1]
            exact rn_bsbx hns h0 ⟨c.1, by omega⟩ hl
        refine kpm_wf hv1 (kn1_sbx hb (kn1_sl w1)) (kn1_sbx hb w2) ?_ (by rw [key _ _ w2]; exact w4)
        rw [key _ _ (kn1_sl w1), sl_end, show 2 * (mn - 1) = 2 * mn - 2 by omega]
        exact u5
      · split
        · exact bsm_wf hns hA h0 hw hv1 (by omega) (by omega) (by omega)
        · split
          · exact bsm_wf hns hA h0 hw hv1 (by omega) (by omega) (by omega)
          · split
            · next c =>
              obtain ⟨j1, j2, j3⟩ := te_args (A := A) (l := e) (i := 0) (m := 2 * mn - 1) (by rw [List.drop_zero, show 2 * mn - 1 + 1 = 2 * mn by omega]; exact w3)
              obtain ⟨j4, j5, j6⟩ := te_args (A := A) (l := e) (i := te A e 0) (m := 2 * mn - 2) (by rw [show 2 * mn - 2 + 1 = 2 * mn - 1 by omega]; exact t5)
              rw [← c] at j6
              obtain ⟨g1, g2⟩ := gar_rn (A := A) hns w1 (A (e.getD 0 0)) (0 + 1) (te A e 0 + 1) _ _ (by omega) (by omega) j3 j6
              rw [Nat.zero_add] at g1 g2
              refine kpm_wf hv1 (kn1_app g2 (kn1_sl w1)) w2 ?_ w4
              rw [show 2 * (mn - 1 + A (e.getD 0 0)) = 2 * A (e.getD 0 0) + (2 * mn - 2) by omega]
              exact rn_two g1 (by rw [sl_end]; exact u5)
            · exact flm_wf hv1
end WF
