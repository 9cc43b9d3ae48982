/-! NarrowSolver$TreeMaker.make: a node's children, a node's tree -/
section KDS
variable {d : Nat} {Q : Option Value → ah_H → Prop} {E : Nat → Prop} {x t f0 : Nat} {S0 : Int64} {A : Nat → Nat} {ns : Nat} {ar fn : Nat → Int32} {rl : mR}
theorem frP_nod {G G2 : ah_H} {l : List Nat} (h : frP G G2 x) (hp : pat G x l) {b : Nat} {fs : List Value} (hb : G.1 b = some (.inr (0, fs))) : G2.1 b = G.1 b := by
  obtain ⟨g, ⟨p1, p2⟩, p3⟩ := hp
  have p2 : G.1 (x + 13) = _ := p2
  exact h.1 b (fun z => by rw [z, p1] at hb; cases hb) (fun z => by rw [z, p2] at hb; cases hb)
theorem trb_cell {G : ah_H} {e n cap : Nat} {ad : Nat → Option Nat} {sz : Nat} (hb : trb E G t e n cap ad sz) {i a : Nat} (hi : i < sz) (ha : ad i = some a) : (∃ fs, G.1 a = some (.inr (0, fs)) ∧ fs.length = 11) ∧ a < G.2.1 ∧ ¬ E a := by
  obtain ⟨a3, fs, w1, w2, w3, w4, w5⟩ := hb.2.2.2.1 i (by have := hb.2.2.1; omega)
  rw [ha] at w1
  cases w1
  exact ⟨⟨fs, w2, w3⟩, w4, w5⟩
theorem trb_inj {G : ah_H} {e n cap : Nat} {ad : Nat → Option Nat} {sz : Nat} (hb : trb E G t e n cap ad sz) {i j a : Nat} (hi : i < sz) (hj : j < sz) (h1 : ad i = some a) (h2 : ad j = some a) : i = j := hb.2.2.2.2.1 i j a (by have := hb.2.2.1; omega) (by have := hb.2.2.1; omega) h1 h2
theorem kds {f : Nat} (hS : sbP d x t f0 S0 E A ns ar fn rl f) (hA3 : ∀ x, A x ≤ 3) {p : List Nat} {S : Int64} {k : Nat} (hw : wfp ns A rl p S) (hbr : bro A rl p S = some k) (h8 : (pds A p (jof p k)).length ≤ 8) (hfu : 121 ≤ p.length - hol p + (f + 1)) {n q : Nat} {cn : Int32} {pa : Value} (hpa : ae_isR pa = true) : ∀ (cs : List Nat) (G : ah_H) (e nn cap : Nat) (ad : Nat → Option Nat) (i : Nat) (l7 : Option Value) (ds : List Nat) (M : List nd) (as : List Nat) (b : Nat) (fc lc : Value), chb A rl ns p k S b = cs → b < 1000 → mkr E G x ns A ar fn rl → (∃ f1, G.1 (x + 14) = some (.inl (1, 120, .inl f1))) → x + 14 < G.2.1 → trb E G t e nn cap ad (n + 1 + M.length) → ad n = some q → nodA G q (nI n) cn (nI (plv (pds A p (jof p k)))) (-1) (nI ds.length) fc .null S (nI (jof p k)) pa lc → lch G x A rl ns ad p S k n (n + 1 + M.length) b lc → kct G ad (tnn G ad A rl ns f) (kid A rl p k S) ds (n + 1) (nI n) 0 M as → chA G as fc → ((as = [] ∧ lc = .null) ∨ ∃ la, as.getLast? = some la ∧ lc = .ref la) → ds.length + cs.length ≤ 24 → 2 * (cs.map (fun c => ph A rl (kid A rl p k S c).1 (kid A rl p k S c).2)).sum + i + 2 ≤ 9601 → n + 1 + M.length + (cs.map (fun c => ph A rl (kid A rl p k S c).1 (kid A rl p k S c).2)).sum ≤ 4801 → match layL (lay A rl ns f) (kid A rl p k S) cs (n + 1 + M.length) (nI n) ds.length with
    | none => mkF d x t f0 S0 E q i l7 G nn cap
    | some M2 => ∃ G2 e2 n2 cap2 ad2 fc2 lc2 as2, (∀ Q, ae_wp (d + 9) mX9_make 50 (mkl x t f0 S0 (.ref q) i l7) [] G Q = ae_wp (d + 9) mX9_make 50 (mkl x t f0 S0 pa (i + 2 * M2.length + 1) (some .null)) [] G2 Q) ∧ fin E x G G2 ∧ pat G2 x (pcm p) ∧ trb E G2 t e2 n2 cap2 ad2 (n + 1 + M.length + M2.length) ∧ nodA G2 q (nI n) cn (nI (plv (pds A p (jof p k)))) (-1) (nI (ds.length + cs.length)) fc2 .null S (nI (jof p k)) pa lc2 ∧ kct G2 ad2 (tnn G2 ad2 A rl ns f) (kid A rl p k S) (ds ++ cs) (n + 1) (nI n) 0 (M ++ M2) as2 ∧ chA G2 as2 fc2 ∧ frN G G2 ad ad2 n ∧ ad2 n = some q ∧ led G nn cap G2 n2 cap2 := by
  have hpd := pds_dig hA3 hw hbr h8
  intro cs
  induction cs with
  | nil =>
    intro G e nn cap ad i l7 ds M as b fc lc hcs hb1 hk h14 hx hb hqn hq hl hkc hch hla hlen hbi hbn
    have hnx : nxc A rl ns p k S b = none := by
      cases z : nxc A rl ns p k S b with
      | none => rfl
      | some c => have := (chb_some z).1; rw [hcs] at this; cases this
    obtain ⟨G2, g1, g2, g3, l, g4⟩ := m_X9_gcn (d := d) (t := t) hk hw hbr hb1 hq hl hnx
    have hcell : ∀ j a, j < n + 1 + M.length → ad j = some a → G2.1 a = G.1 a := fun j a hj ha => by
      obtain ⟨⟨fs, w1, _⟩, _⟩ := trb_cell hb hj ha
      exact frP_nod g3 g4 w1
    have hq2 : nodA G2 q (nI n) cn (nI (plv (pds A p (jof p k)))) (-1) (nI ds.length) fc .null S (nI (jof p k)) pa lc := (hcell n q (by omega) hqn).trans hq
    obtain ⟨f1, h14⟩ := h14
    simp only [layL]
    refine ⟨G2, e, nn, cap, ad, fc, lc, as, fun Q => ?_, ⟨fun a ha => ?_, ⟨f1, ?_⟩, ?_⟩, g2, ?_, ?_, ?_, ?_, fun j hj => ⟨rfl, fun a ha => hcell j a (by omega) ha⟩, hqn, led_refl g3.2⟩
    · have := mk_none (d := d) (Q := Q) (x := x) (t := t) (f0 := f0) (S0 := S0) (l7 := l7) (i := i) (by simp only [List.map_nil, List.sum_nil] at hbi; omega) (nod_nfl hq).2.2.1 hpd hk.2.2.2.1 g1 (nod_nfl hq2).2.2.2.2.2.2.2.2.2.1 hpa
      simpa using this
    · exact g3.1 a (fun z => hk.1.2.2.2.2.2.1 (z ▸ ha)) (fun z => hk.1.2.2.2.2.2.2.1 (z ▸ ha))
    · rw [g3.1 _ (by omega) (by omega)]; exact h14
    · rw [g3.2]; exact hx
    · simpa using trb_frP hb g4 g3
    · simpa using hq2
    · rw [List.append_nil, List.append_nil]
      exact kct_stay (fun i j a q1 q2 q3 q4 => trb_inj hb (by omega) (by omega)) (fun j q1 q2 a ha => ⟨ha, fun k _ => nfl_cg (hcell j a (by omega) ha)⟩) hkc
    · refine chA_cg _ _ (fun a ha => ?_) hch
      obtain ⟨j, j1, j2, j3⟩ := kct_mem (fun _ _ _ _ _ h => tnn_pos h) _ _ _ _ _ hkc a ha
      exact nfl_cg (hcell j a (by omega) j3)
  | cons c cs ih =>
    intro G e nn cap ad i l7 ds M as b fc lc hcs hb1 hk h14 hx hb hqn hq hl hkc hch hla hlen hbi hbn
    have hns := hk.2.1.1
    have h99 : A 99 = 0 := hk.2.1.2.2 99 (by omega)
    have hg := hk.2.2.2.2.1
    simp only [List.map_cons, List.sum_cons] at hbi hbn
    rw [List.length_cons] at hlen
    obtain ⟨hnx, hcs2⟩ : nxc A rl ns p k S b = some c ∧ chb A rl ns p k S (c + 1) = cs := by
      cases z : nxc A rl ns p k S b with
      | none => have := chb_none z; rw [hcs] at this; cases this
      | some c2 =>
        have := (chb_some z).1
        rw [hcs] at this
        injection this with y1 y2
        subst y1
        exact ⟨rfl, y2.symm⟩
    obtain ⟨k1, k2, k3, k4⟩ := chb_some hnx
    have hwk := kid_wfp h99 hns hg hw hbr k3 k4
    obtain ⟨f1, h14⟩ := h14
    obtain ⟨G2, e2, n2, cap2, ad2, a, q1, q2, q3, q4, q5, q6, q7, q8, q9, q10, q11, q12, q13⟩ := m_X9_gcs (d := d) hk hw hbr hb1 hb (by omega) h14 hx hq (by omega) (by omega) hqn hl hnx
    have hk2 : mkr E G2 x ns A ar fn rl := mkr_cg q9 hk
    have hEa := (trb_cell q2 (Nat.lt_succ_self _) q3).2.2
    obtain ⟨f2, s1⟩ := m_X9_settle (d := d + 4) hk2 q10 hwk q11 hEa q5
    have q5' : G2.1 a = _ := q5
    have ha14 : a ≠ x + 14 := fun z => by rw [z, q11] at q5'; cases q5'
    have t2 : trb E (shs G2 x f2) t e2 n2 cap2 ad2 (n + 1 + M.length + 1) := trb_shs q2 q11
    have y1 : (shs G2 x f2).1 a = _ := (shs_ne ha14).trans q5'
    have t3 : trb E (ah_set (shs G2 x f2) a (.inr (0, nodS A rl (kid A rl p k S c).1 (kid A rl p k S c).2 (n + 1 + M.length) (nI c) (.ref q)))) t e2 n2 cap2 ad2 (n + 1 + M.length + 1) := trb_nw t2 y1 nodS_len
    have p3 : pat (ah_set (shs G2 x f2) a (.inr (0, nodS A rl (kid A rl p k S c).1 (kid A rl p k S c).2 (n + 1 + M.length) (nI c) (.ref q)))) x (pcm (kid A rl p k S c).1) := nw_pat y1 (shs_pat q10 f2)
    have c3 : (ah_set (shs G2 x f2) a (.inr (0, nodS A rl (kid A rl p k S c).1 (kid A rl p k S c).2 (n + 1 + M.length) (nI c) (.ref q)))).1 a = _ := hs_eq rfl
    have hne : ∀ y, y ≠ a → y ≠ x + 14 → (ah_set (shs G2 x f2) a (.inr (0, nodS A rl (kid A rl p k S c).1 (kid A rl p k S c).2 (n + 1 + M.length) (nI c) (.ref q)))).1 y = G2.1 y := fun y y1 y2 => by rw [hs_ne y1, shs_ne y2]
    have h143 : (ah_set (shs G2 x f2) a (.inr (0, nodS A rl (kid A rl p k S c).1 (kid A rl p k S c).2 (n + 1 + M.length) (nI c) (.ref q)))).1 (x + 14) = some (.inl (1, 120, .inl f2)) := by rw [hs_ne (Ne.symm ha14)]; exact hs_eq rfl
    have hr3 : (ah_set (shs G2 x f2) a (.inr (0, nodS A rl (kid A rl p k S c).1 (kid A rl p k S c).2 (n + 1 + M.length) (nI c) (.ref q)))).2 = G2.2 := rfl
    generalize ah_set (shs G2 x f2) a (.inr (0, nodS A rl (kid A rl p k S c).1 (kid A rl p k S c).2 (n + 1 + M.length) (nI c) (.ref q))) = G3 at s1 t3 p3 c3 hne h143 hr3
    have hx3 : x + 14 < G3.2.1 := by rw [hr3]; exact q12
    have hE3 : ∀ y, E y → G3.1 y = G2.1 y := fun y hy => hne y (fun z => hEa (z ▸ hy)) (fun z => hk.1.2.2.2.2.2.2.2 (z ▸ hy))
    have fn3 : fin E x G G3 := ⟨fun y hy => (hE3 y hy).trans (q9 y hy), ⟨f2, h143⟩, hx3⟩
    have led3 : led G nn cap G3 n2 cap2 := led_trans q13 (led_refl hr3)
    have hk3 : mkr E G3 x ns A ar fn rl := mkr_cg hE3 hk2
    have hplq := (nod_nfl hq).2.2.1
    have hi9 : i < 9600 := by omega
    by_cases ok : okS A rl (kid A rl p k S c).1 (kid A rl p k S c).2 = true
    · rw [if_pos ok] at s1
      have m1 := fun Q => mk_child (d := d) (Q := Q) (f0 := f0) (S0 := S0) (l7 := l7) hi9 hplq hpd hk.2.2.2.1 hk2.2.2.2.1 q1 s1
      have hjj := bro_at (ns := ns) hbr
      have hkl : (kid A rl p k S c).1.length = p.length + A c := rfa_len hjj.2.2.1
      have hkh : hol (kid A rl p k S c).1 + 1 = hol p + A c := rfa_hol hjj.2.2.1 hjj.2.2.2.1 (by omega)
      have hph := (wfp_len hg hwk).1
      have hlel : ∀ l : List Nat, hol l ≤ l.length := fun l => by
        induction l with
        | nil => exact Nat.le_refl _
        | cons y l ihl =>
          rw [hol, List.length_cons]
          by_cases cy : y = 99
          · rw [if_pos cy]; omega
          · rw [if_neg cy]; omega
      have hh1 := hlel p
      have hh2 := hlel (kid A rl p k S c).1
      have sub := hS (kid A rl p k S c).1 (kid A rl p k S c).2 G3 e2 n2 cap2 ad2 (n + 1 + M.length) a (i + 1) (nI c) (.ref q) (nI n) ds.length (some (.ref a)) hwk (by omega) hk3 ⟨f2, h143⟩ hx3 p3 t3 q3 c3 ok rfl (by omega) (by omega)
      cases hlay : lay A rl ns f (kid A rl p k S c).1 (kid A rl p k S c).2 (n + 1 + M.length) (nI n) ds.length with
      | none =>
        rw [hlay] at sub
        simp only [layL, hlay]
        obtain ⟨G4, e4, n4, cap4, ad4, sz4, l, u1, u2, u3, u4, u5⟩ := sub
        exact ⟨G4, e4, n4, cap4, ad4, sz4, l, fun Q => (m1 Q).trans (u1 Q), fin_trans fn3 u2, u3, u4, led_trans led3 u5⟩
      | some L =>
        rw [hlay] at sub
        obtain ⟨G4, e4, n4, cap4, ad4, u1, u2, u3, u4, u5, u6, u7, u8, u9, u10⟩ := sub
        have hll := lay_len h99 hns hg _ _ _ _ _ _ _ hwk hlay
        have hk4 : mkr E G4 x ns A ar fn rl := mkr_cg u2.1 hk3
        -- cells of nodes made before
        have hnda : ∀ j y, j < n + 1 + M.length → ad j = some y → y ≠ a := fun j y hj hy z => by
          have := trb_inj q2 (i := j) (j := n + 1 + M.length) (a := a) (by omega) (by omega) (by rw [q4 j hj, hy, z]) q3
          omega
        have hnd14 : ∀ j y, j < n + 1 + M.length → ad j = some y → y ≠ x + 14 := fun j y hj hy z => by
          obtain ⟨⟨fs, w1, _⟩, _⟩ := trb_cell hb hj hy
          rw [z, h14] at w1
          cases w1
        have h23 : ∀ j y, j < n + 1 + M.length → ad j = some y → G4.1 y = G2.1 y := fun j y hj hy => by
          rw [(u8 j hj).2 y (by rw [q4 j hj]; exact hy), hne y (hnda j y hj hy) (hnd14 j y hj hy)]
        have had : ∀ j, j < n + 1 + M.length → ad4 j = ad j := fun j hj => (u8 j hj).1.trans (q4 j hj)
        have hq4 : nodA G4 q (nI n) cn (nI (plv (pds A p (jof p k)))) (-1) (nI (ds ++ [c]).length) (apf lc fc a) .null S (nI (jof p k)) pa (.ref a) := by
          rw [List.length_append, List.length_singleton]
          exact (h23 n q (by omega) hqn).trans q6
        have hc4 : nfl G4 a 1 = some (.int (nI c)) := u7
        have hlast : ∀ y, as.getLast? = some y → lc = .ref y := fun y hy => by
          rcases hla with ⟨z, _⟩ | ⟨la, z1, z2⟩
          · rw [z] at hy; cases hy
          · rw [hy] at z1; cases z1; exact z2
        have hlast2 : ∀ y, lc = .ref y → as.getLast? = some y := fun y hy => by
          rcases hla with ⟨_, z⟩ | ⟨la, z1, z2⟩
          · rw [z] at hy; cases hy
          · rw [hy] at z2; cases z2; exact z1
        have hfr : ∀ j, n + 1 ≤ j → j < n + 1 + M.length → ∀ y, ad j = some y → ad4 j = some y ∧ ∀ k, (k ≠ 6 ∨ as.getLast? ≠ some y) → nfl G4 y k = nfl G y k := fun j j1 j2 y hy => by
          refine ⟨by rw [had j j2]; exact hy, fun k hk => ?_⟩
          rw [nfl_cg (h23 j y j2 hy)]
          by_cases cl : lc = .ref y
          · rcases hk with hk | hk
            · exact (q7 y cl).2 k hk
            · exact absurd (hlast2 y cl) hk
          · exact nfl_cg (q8 j y j2 (by omega) hy cl)
        have hkc4 := kct_stay (G2 := G4) (ad2 := ad4) (fun i j a q1 q2 q3 q4 => trb_inj hb (by omega) (by omega)) hfr hkc
        have hkc5 : kct G4 ad4 (tnn G4 ad4 A rl ns f) (kid A rl p k S) (ds ++ [c]) (n + 1) (nI n) 0 (M ++ L) (as ++ [a]) := kct_snoc ds (n + 1) 0 M as hkc4 u9 hc4 (by rw [Nat.zero_add]; exact u5)
        have hch4 : chA G4 (as ++ [a]) (apf lc fc a) := by
          rcases hla with ⟨z1, z2⟩ | ⟨la, z1, z2⟩
          · rw [z1, z2]
            exact ⟨rfl, _, u6, rfl⟩
          · rw [z2]
            have hnd := kct_nodup (fun _ _ _ _ _ h => tnn_pos h) _ _ _ _ _ (fun i j a q1 q2 q3 q4 => trb_inj hb (i := i) (j := j) (a := a) (by omega) (by omega)) hkc
            refine chA_snoc as fc z1 hnd hch (fun y hy hyl => ?_) ?_ u6
            · obtain ⟨j, j1, j2, j3⟩ := kct_mem (fun _ _ _ _ _ h => tnn_pos h) _ _ _ _ _ hkc y hy
              exact (hfr j j1 j2 y j3).2 6 (Or.inr (fun w => hyl (by rw [z1] at w; cases w; rfl)))
            · obtain ⟨j, j1, j2, j3⟩ := kct_mem (fun _ _ _ _ _ h => tnn_pos h) _ _ _ _ _ hkc la (List.mem_of_getLast? z1)
              rw [nfl_cg (h23 j la j2 j3)]
              exact (q7 la z2).1
        have hML : (M ++ L).length = M.length + L.length := List.length_append
        have hla4 : ((as ++ [a] = [] ∧ Value.ref a = .null) ∨ ∃ la, (as ++ [a]).getLast? = some la ∧ Value.ref a = .ref la) := Or.inr ⟨a, by simp, rfl⟩
        have hlc4 : lch G4 x A rl ns ad4 p S k n (n + 1 + (M ++ L).length) (c + 1) (.ref a) := Or.inr ⟨a, n + 1 + M.length, c, rfl, by omega, by rw [hML]; omega, u9, hc4, rfl, k3, u3⟩
        have i1 := ih G4 e4 n4 cap4 ad4 (i + 2 * L.length) (some .null) (ds ++ [c]) (M ++ L) (as ++ [a]) (c + 1) (apf lc fc a) (.ref a) hcs2 (by omega) hk4 u2.2.1 u2.2.2 (by rw [hML, ← Nat.add_assoc]; exact u4) (by rw [had n (by omega)]; exact hqn) hq4 hlc4 hkc5 hch4 hla4 (by rw [List.length_append, List.length_singleton]; omega) (by omega) (by rw [hML]; omega)
        have e7 : n + 1 + (M ++ L).length = n + 1 + M.length + L.length := by rw [hML, ← Nat.add_assoc]
        have e8 : (ds ++ [c]).length = ds.length + 1 := by rw [List.length_append, List.length_singleton]
        rw [e7, e8] at i1
        have u1' : ∀ Q, ae_wp (d + 9) mX9_make 50 (mkl x t f0 S0 (.ref q) i l7) [] G Q = ae_wp (d + 9) mX9_make 50 (mkl x t f0 S0 (.ref q) (i + 2 * L.length) (some .null)) [] G4 Q := fun Q => by
          rw [m1 Q, u1 Q, show i + 1 + (2 * L.length - 1) = i + 2 * L.length by omega]
        have led4 := led_trans led3 u10
        cases hlay2 : layL (lay A rl ns f) (kid A rl p k S) cs (n + 1 + M.length + L.length) (nI n) (ds.length + 1) with
        | none =>
          rw [hlay2] at i1
          simp only [layL, hlay, hlay2]
          obtain ⟨G5, e5, n5, cap5, ad5, sz5, l, v1, v2, v3, v4, v5⟩ := i1
          exact ⟨G5, e5, n5, cap5, ad5, sz5, l, fun Q => (u1' Q).trans (v1 Q), fin_trans fn3 (fin_trans u2 v2), v3, v4, led_trans led4 v5⟩
        | some M2 =>
          rw [hlay2] at i1
          simp only [layL, hlay, hlay2]
          obtain ⟨G5, e5, n5, cap5, ad5, fc5, lc5, as5, v1, v2, v3, v4, v5, v6, v7, v8, v9, v10⟩ := i1
          have hLM : (L ++ M2).length = L.length + M2.length := List.length_append
          refine ⟨G5, e5, n5, cap5, ad5, fc5, lc5, as5, fun Q => ?_, fin_trans fn3 (fin_trans u2 v2), v3, ?_, ?_, ?_, v7, ?_, v9, led_trans led4 v10⟩
          · rw [u1' Q, v1 Q, hLM, show i + 2 * L.length + 2 * M2.length + 1 = i + 2 * (L.length + M2.length) + 1 by omega]
          · rw [hLM, ← Nat.add_assoc]; exact v4
          · rw [List.length_cons, show ds.length + (cs.length + 1) = ds.length + 1 + cs.length by omega]; exact v5
          · rw [← List.append_assoc]
            rw [List.append_assoc] at v6
            exact v6
          · refine frN_trans (fun j hj => ⟨had j (by omega), fun y hy => ?_⟩) v8
            rw [h23 j y (by omega) hy]
            refine q8 j y (by omega) (by omega) hy (fun z => ?_)
            obtain ⟨j', j1, j2, j3⟩ := kct_mem (fun _ _ _ _ _ h => tnn_pos h) _ _ _ _ _ hkc y (List.mem_of_getLast? (hlast2 y z))
            have := trb_inj hb (i := j) (j := j') (a := y) (by omega) (by omega) hy j3
            omega
    · have ok' : okS A rl (kid A rl p k S c).1 (kid A rl p k S c).2 = false := by simpa using ok
      rw [if_neg ok] at s1
      have m1 := fun Q => mk_bad (d := d) (Q := Q) (f0 := f0) (S0 := S0) (l7 := l7) hi9 hplq hpd hk.2.2.2.1 hk2.2.2.2.1 q1 s1
      simp only [layL, lay_nok ok']
      exact ⟨G3, e2, n2, cap2, ad2, _, _, m1, fn3, p3, t3, led3⟩
theorem sub_all (hA3 : ∀ x, A x ≤ 3) : ∀ f, sbP d x t f0 S0 E A ns ar fn rl f := by
  intro f
  induction f with
  | zero =>
    intro p S G e nn cap ad n q i cn pa par ord l7 hw hfu hk
    have := wfp_len hk.2.2.2.2.1 hw
    omega
  | succ f ih =>
    intro p S G e nn cap ad n q i cn pa par ord l7 hw hfu hk h14 hx hp hb hqn hq hok hpa hbi hbn
    have hns := hk.2.1.1
    have h99 : A 99 = 0 := hk.2.1.2.2 99 (by omega)
    have hg := hk.2.2.2.2.1
    have hpp := ph_pos hw
    simp only [lay]
    cases hbr : bro A rl p S with
    | none =>
      have hi := okS_none hok hbr
      rw [if_pos hi]
      rw [nodS_none hbr] at hq
      have hnf := nod_nfl (show nodA G q (nI n) cn (nI 0) (nI (fsr S)) (nI 0) .null .null S (nI 0) pa .null from hq)
      refine ⟨G, e, nn, cap, ad, fun Q => mk_leaf (by omega) hnf.2.2.1 hnf.2.2.2.2.2.2.2.2.2.1 hpa, ⟨fun _ _ => rfl, h14, hx⟩, hp, hb, ⟨q, hqn, hnf.1, Or.inl ⟨hi, rfl, hnf.2.2.1, hnf.2.2.2.1, hnf.2.2.2.2.1, hnf.2.2.2.2.2.1⟩⟩, hnf.2.2.2.2.2.2.1, hnf.2.1, fun j _ => ⟨rfl, fun _ _ => rfl⟩, hqn, led_refl rfl⟩
    | some k =>
      have hi := isl_some hbr
      rw [if_neg (by rw [hi]; exact Bool.false_ne_true)]
      have h8 : (pds A p (jof p k)).length ≤ 8 := by
        unfold okS at hok
        rw [hbr] at hok
        simpa using hok
      rw [nodS_some hbr h8] at hq
      dsimp only
      rw [if_neg (by omega)]
      have hcs := chs_ok (A := A) (rl := rl) (ns := ns) (p := p) (k := k) (S := S)
      have hpk := (ph_kids hns hg hw hbr (chs A rl ns p k S) hcs.1 (fun c hc => (hcs.2 c hc).1)).1
      have hcl : (chs A rl ns p k S).length ≤ 24 := by
        have : (chs A rl ns p k S).length ≤ (List.range ns).length := List.length_filter_le _ _
        rw [List.length_range] at this
        omega
      have kd := kds ih hA3 hw hbr h8 hfu hpa (chs A rl ns p k S) G e nn cap ad i l7 [] [] [] 0 .null .null chs_chb.symm (by omega) hk h14 hx hb hqn hq (Or.inl ⟨rfl, rfl, hp⟩) ⟨rfl, rfl⟩ rfl (Or.inl ⟨rfl, rfl⟩) (by simpa using hcl) (by omega) (by simp only [List.length_nil]; omega)
      simp only [List.length_nil, Nat.add_zero, Nat.zero_add] at kd
      cases hl : layL (lay A rl ns f) (kid A rl p k S) (chs A rl ns p k S) (n + 1) (nI n) 0 with
      | none =>
        rw [hl] at kd
        exact kd
      | some M =>
        rw [hl] at kd
        obtain ⟨G2, e2, n2, cap2, ad2, fc2, lc2, as2, v1, v2, v3, v4, v5, v6, v7, v8, v9, v10⟩ := kd
        have hnf := nod_nfl v5
        refine ⟨G2, e2, n2, cap2, ad2, fun Q => ?_, v2, v3, ?_, ⟨q, v9, hnf.1, Or.inr ⟨hi, k, fc2, M, as2, hbr, h8, rfl, hnf.2.2.1, hnf.2.2.2.2.1, hnf.2.2.2.2.2.1, v7, v6⟩⟩, hnf.2.2.2.2.2.2.1, hnf.2.1, v8, v9, v10⟩
        · rw [v1 Q, List.length_cons, show i + 2 * M.length + 1 = i + (2 * (M.length + 1) - 1) by omega]
        · rw [List.length_cons, show n + (M.length + 1) = n + 1 + M.length by omega]; exact v4
end KDS
