/-! NarrowSolver$TreeMaker.growChild -/
section GCH
variable {d : Nat} {Q : Option Value → ah_H → Prop} {E : Nat → Prop} {G : ah_H} {x : Nat} {A : Nat → Nat} {ns : Nat} {ar fn : Nat → Int32} {p : List Nat} {rl : mR} {S : Int64} {t e nn cap : Nat} {ad : Nat → Option Nat} {sz : Nat}
/-- Tree.add as the maker sees it -/
theorem m_X8_add_m {l : List Nat} {f0 : Nat → Int32} (hb : trb E G t e nn cap ad sz) (hs : sz ≤ 9600) (hp : pat G x l) (h14 : G.1 (x + 14) = some (.inl (1, 120, .inl f0))) (hx : x + 14 < G.2.1) {cn : Int32} {S : Int64} {pa : Value} (hpa : ae_isR pa = true) : ∃ H e2 n2 cap2 ad2 a, (∀ Q, ae_wm (d + 7) mX8_add [.ref t, .int cn, .long S, pa] G Q = Q (some (.ref a)) H) ∧ trb E H t e2 n2 cap2 ad2 (sz + 1) ∧ ad2 sz = some a ∧ (∀ i, i < sz → ad2 i = ad i) ∧ nodA H a (nI sz) cn (nI 0) (-1) (nI 0) .null .null S (nI 0) pa .null ∧ (∀ i b, i < sz → ad i = some b → b ≠ a ∧ H.1 b = G.1 b) ∧ (∀ b, E b → H.1 b = G.1 b) ∧ pat H x l ∧ H.1 (x + 14) = some (.inl (1, 120, .inl f0)) ∧ x + 14 < H.2.1 ∧ led G nn cap H n2 cap2 := by
  obtain ⟨H, e2, n2, cap2, ad2, a, q1, q2, q3, q4, q5, q6, q7, q8⟩ := m_X8_add (d := d) (cn := cn) (S := S) hb hs hpa
  have hb' := hb
  obtain ⟨b1, ⟨⟨mc, b2⟩, b3, b4⟩, b5, b6, b7, b8, b9, b10, b11, b12⟩ := hb'
  have hH := q2
  obtain ⟨c1, c2, c3, c4, c5, c6⟩ := hH
  have ga : ∀ i b, i < sz → ad i = some b → b ≠ a := fun i b hi hb z => by
    subst z
    have := c5 i sz b (by omega) (by omega) (by rw [q4 i hi]; exact hb) q3
    omega
  obtain ⟨a2, fs2, z1, z2, z3, z4, z5⟩ := c4 sz (by omega)
  rw [q3] at z1
  cases z1
  have gx : ∀ b c, G.1 b = some c → b < G.2.1 → (∀ fs, c ≠ .inr (8, fs)) → (∀ fs, c ≠ .inr (12, fs)) → (∀ fs, c ≠ .inr (0, fs)) → (∀ z, c ≠ .inl (alt cap, z)) → H.1 b = G.1 b := fun b c hc hl h8 h12 hz h7 => q6 b (fun z => by rw [z, b1] at hc; cases hc; exact h8 _ rfl) (fun z => by rw [z, b2] at hc; cases hc; exact h12 _ rfl) (Or.inl (fun z => by rw [z, b3] at hc; cases hc; exact h7 _ rfl)) (fun z => by
    rcases q7 with w | ⟨fs, w⟩
    · omega
    · rw [z, w] at hc; cases hc; exact hz _ rfl) hl
  refine ⟨H, e2, n2, cap2, ad2, a, q1, q2, q3, q4, q5, fun i b hi hb => ⟨ga i b hi hb, ?_⟩, fun b hEb => ?_, ?_, ?_, by have := q8.2.2.2.1; omega, q8⟩
  · obtain ⟨a3, fs, w1, w2, w3, w4, w5⟩ := b6 i (by omega)
    rw [hb] at w1
    cases w1
    exact q6 b (fun z => by rw [z, b1] at w2; cases w2) (fun z => by rw [z, b2] at w2; cases w2) (Or.inl (fun z => by rw [z, b3] at w2; cases w2)) (ga i b hi hb) w4
  · exact q6 b (fun z => b11.1 (z ▸ hEb)) (fun z => b11.2.1 (z ▸ hEb)) (b11.2.2.imp (fun w z => w (z ▸ hEb)) id) (fun z => z5 (z ▸ hEb)) (b12 b hEb)
  · obtain ⟨g, ⟨p1, p2⟩, p3⟩ := hp
    have p2 : G.1 (x + 13) = _ := p2
    exact ⟨g, ⟨by rw [gx _ _ p1 (by omega) (fun _ z => by cases z) (fun _ z => by cases z) (fun _ z => by cases z) (fun _ z => by cases z)]; exact p1, by show H.1 (x + 13) = _; rw [gx _ _ p2 (by omega) (fun _ z => by cases z) (fun _ z => by cases z) (fun _ z => by cases z) (fun _ z => alt_c z)]; exact p2⟩, p3⟩
  · rw [gx _ _ h14 hx (fun _ z => by cases z) (fun _ z => by cases z) (fun _ z => by cases z) (fun _ z => alt_c z)]; exact h14
theorem nod_nfl {q : Nat} {nm cn pl lr ch : Int32} {fc nx : Value} {po : Int32} {pa lc : Value} (h : nodA G q nm cn pl lr ch fc nx S po pa lc) : nfl G q 0 = some (.int nm) ∧ nfl G q 1 = some (.int cn) ∧ nfl G q 2 = some (.int pl) ∧ nfl G q 3 = some (.int lr) ∧ nfl G q 4 = some (.int ch) ∧ nfl G q 5 = some fc ∧ nfl G q 6 = some nx ∧ nfl G q 7 = some (.long S) ∧ nfl G q 8 = some (.int po) ∧ nfl G q 9 = some pa ∧ nfl G q 10 = some lc := by
  have h : G.1 q = _ := h
  unfold nfl
  rw [h]
  exact ⟨rfl, rfl, rfl, rfl, rfl, rfl, rfl, rfl, rfl, rfl, rfl⟩
/-- what a child's making changes -/
theorem m_X9_gc25_some (hk : mkr E G x ns A ar fn rl) (hp : pat G x (pcm p)) (hw : wfp ns A rl p S) {k b q n c : Nat} (hbr : bro A rl p S = some k) (hb1 : b < 1000) (hb : trb E G t e nn cap ad sz) (hs : sz ≤ 9600) {f0 : Nat → Int32} (h14 : G.1 (x + 14) = some (.inl (1, 120, .inl f0))) (hx : x + 14 < G.2.1) {cn pl lr : Int32} {ch : Nat} {fc nx pa lc : Value} (hq : nodA G q (nI n) cn pl lr (nI ch) fc nx S (nI (jof p k)) pa lc) (hc : ch < 1000) (hn : n < sz) (hqn : ad n = some q) (hl : lc = .null ∨ ∃ la m, lc = .ref la ∧ m ≠ n ∧ m < sz ∧ ad m = some la) (hnx : nxc A rl ns p k S b = some c) : ∃ G2 e2 n2 cap2 ad2 a, (∀ Q, ae_wp (d + 8) mX9_growChild 25 [some (.ref (x + 11)), some (.ref t), some (.ref q), some (.int (dcr b)), none, none] [] G Q = Q (some (.ref a)) G2) ∧ trb E G2 t e2 n2 cap2 ad2 (sz + 1) ∧ ad2 sz = some a ∧ (∀ i, i < sz → ad2 i = ad i) ∧ nodA G2 a (nI sz) (nI c) (nI 0) (-1) (nI 0) .null .null (wia A rl p k S c) (nI 0) (.ref q) .null ∧ nodA G2 q (nI n) cn pl lr (nI (ch + 1)) (apf lc fc a) nx S (nI (jof p k)) pa (.ref a) ∧ (∀ la, lc = .ref la → nfl G2 la 6 = some (.ref a) ∧ ∀ k, k ≠ 6 → nfl G2 la k = nfl G la k) ∧ (∀ i b, i < sz → i ≠ n → ad i = some b → lc ≠ .ref b → G2.1 b = G.1 b) ∧ (∀ b, E b → G2.1 b = G.1 b) ∧ pat G2 x (pcm (kid A rl p k S c).1) ∧ G2.1 (x + 14) = some (.inl (1, 120, .inl f0)) ∧ x + 14 < G2.2.1 ∧ led G nn cap G2 n2 cap2 := by
  have hns := hk.2.1.1
  have h99 : A 99 = 0 := hk.2.1.2.2 99 (by omega)
  have hg := hk.2.2.2.2.1
  obtain ⟨h1, h2, h3, h4, h5⟩ := bro_at (ns := ns) hbr
  obtain ⟨k1, k2, k3, k4⟩ := chb_some hnx
  have hlen := wfp_len hg (kid_wfp h99 hns hg hw hbr k3 k4)
  have hkl : (kid A rl p k S c).1.length = p.length + A c := rfa_len h3
  have hnf := nod_nfl hq
  have ht := hk.2.2.2.1
  have gl := fun Q => m_X9_leastBehind (d := d + 4) (Q := Q) hk hp hw hbr hb1 hnf.2.2.2.2.2.2.2.1 hnf.2.2.2.2.2.2.2.2.1
  rw [hnx] at gl
  have e1 : locv (some c) = nI c := rfl
  rw [e1] at gl
  have gr := fun Q => m_X9_rulesWith (d := d + 4) (Q := Q) (c := c) hk hp hw hbr (by omega) hnf.2.2.2.2.2.2.2.1 hnf.2.2.2.2.2.2.2.2.1
  obtain ⟨H, e2, n2, cap2, ad2, a, q1, q2, q3, q4, q5, q6, q7, q8, q9, q10, q11⟩ := m_X8_add_m (d := d) (cn := nI c) (S := wia A rl p k S c) (pa := .ref q) hb hs hp h14 hx rfl
  have hb' := hb
  obtain ⟨b1, b2, b5, b6, b7, b8, b9, b10, b11, b12⟩ := hb'
  have hqH : nodA H q (nI n) cn pl lr (nI ch) fc nx S (nI (jof p k)) pa lc := (q6 n q hn hqn).2.trans hq
  have hEa : ∀ i b, i < sz → ad i = some b → ¬ E b := fun i b hi hb => by
    obtain ⟨a3, fs, w1, w2, w3, w4, w5⟩ := b6 i (by omega)
    rw [hb] at w1
    cases w1
    exact w5
  have hlH : lc = .null ∨ ∃ la fs, lc = .ref la ∧ la ≠ q ∧ H.1 la = some (.inr (0, fs)) ∧ fs.length = 11 := by
    rcases hl with z | ⟨la, m, z1, z2, z3, z4⟩
    · exact Or.inl z
    · refine Or.inr ⟨la, ?_⟩
      obtain ⟨a3, fs, w1, w2, w3, w4, w5⟩ := b6 m (by omega)
      rw [z4] at w1
      cases w1
      exact ⟨fs, z1, fun z => z2 (b7 m n la (by omega) (by omega) z4 (by rw [z]; exact hqn)), by rw [(q6 m la z3 z4).2]; exact w2, w3⟩
  obtain ⟨W, r1, r2, r3, r4, r5⟩ := m_X0_append (d := d + 7) (a := a) hqH hc hlH
  have hlc : ∀ b, lc = .ref b → ∃ m, m ≠ n ∧ m < sz ∧ ad m = some b := fun b z => by
    rcases hl with y | ⟨la, m, z1, z2, z3, z4⟩
    · rw [y] at z; cases z
    · rw [z1] at z; cases z; exact ⟨m, z2, z3, z4⟩
  have hWE : ∀ b, E b → W.1 b = H.1 b := fun b hEb => r4 b (fun z => hEa n q hn hqn (z ▸ hEb)) (fun z => by
    obtain ⟨m, _, m1, m2⟩ := hlc b z
    exact hEa m b m1 m2 hEb)
  have hkH : mkr E H x ns A ar fn rl := mkr_cg q7 hk
  have hkW : mkr E W x ns A ar fn rl := mkr_cg hWE hkH
  have hpW : pat W x (pcm p) := nwf_pat r2 q8
  rw [pcm_at9 h3 h4] at hpW
  have hjl : ((pcm p).take (jof p k)).length = jof p k := by rw [List.length_take, pcm_len]; omega
  have hdl : ((pcm p).drop (jof p k + 1)).length = p.length - (jof p k + 1) := by rw [List.length_drop, pcm_len]
  obtain ⟨G2, u1, u2, u3⟩ := m_X9_unfold (d := d + 6) (c := c) hkW.2.1 (by omega) (by rw [hjl, hdl]; omega) hkW.2.2.2.1 hkW.2.2.1 hpW
  rw [hjl] at u1
  rw [← pcm_rfa (by omega)] at u2
  have oW : ∀ K, ae_gw W q 0 8 K = K (.int (nI (jof p k))) := fun K => gw_nfl (nod_nfl r3).2.2.2.2.2.2.2.2.1
  have htH := hkH.2.2.2.1
  have htW := hkW.2.2.2.1
  have hWb := nwf_trb r2 q2
  have g12 : ∀ b fs, W.1 b = some (.inr (0, fs)) → G2.1 b = W.1 b := fun b fs hb => by
    obtain ⟨g, ⟨p1, p2⟩, p3⟩ := hpW
    have p2 : W.1 (x + 13) = _ := p2
    exact u3.1 b (fun z => by rw [z, p1] at hb; cases hb) (fun z => by rw [z, p2] at hb; cases hb)
  have h14W : W.1 (x + 14) = some (.inl (1, 120, .inl f0)) := by rw [r2.2.1 _ (fun fs z => by rw [q9] at z; cases z)]; exact q9
  have hG22 : G2.2 = H.2 := u3.2.trans r2.1
  have haq : a ≠ q := Ne.symm (q6 n q hn hqn).1
  have hWa : W.1 a = H.1 a := r4 a haq (fun z => by
    obtain ⟨m, _, m1, m2⟩ := hlc a z
    exact (q6 m a m1 m2).1 rfl)
  have hb0 := trb_frP hWb hpW u3
  have q5' : H.1 a = _ := q5
  refine ⟨G2, e2, n2, cap2, ad2, a, fun Q => ?_, hb0, q3, q4, ?_, ?_, fun la hla => ?_, fun i b hi hin hib hbl => ?_, fun b hEb => ?_, u2, ?_, by rw [hG22]; exact q10, ?_⟩
  · have e5 : (nI c = -1) = False := cI_m1a _ (by omega)
    have hq5 : H.1 a = some (.inr (0, nfs (nI sz) (nI c) (nI 0) (-1) (nI 0) .null .null (wia A rl p k S c) (nI 0) (.ref q) .null)) := q5
    have hqH2 : H.1 q = some (.inr (0, nfs (nI n) cn pl lr (nI ch) fc nx S (nI (jof p k)) pa lc)) := hqH
    simp (disch := first | exact ae_isR_ref _ | exact ae_isR_null | exact ae_isR_rf _ | exact ae_cat_ref _ | exact ae_cat_int _ | exact ae_cat_null | exact ae_cat_rf _ | exact ae_nz0 | exact ae_nz1 | exact ae_fz0 | exact ae_fz1 | exact cI_na (by omega) | exact cI_ix (by omega) | exact cI_nn (by omega) | exact cI_nz (by omega) | exact cI_cp (by omega) | assumption | omega) only [s_X9_growChild_25, s_X9_growChild_26, s_X9_growChild_27, s_X9_growChild_28 ht, s_X9_growChild_31, s_X9_growChild_33, s_X9_growChild_35, s_X9_growChild_36, s_X9_growChild_39, s_X9_growChild_40, s_X9_growChild_41, s_X9_growChild_42, s_X9_growChild_44, s_X9_growChild_45, s_X9_growChild_47, s_X9_growChild_48 ht, s_X9_growChild_51, s_X9_growChild_52 b1, s_X9_growChild_55, s_X9_growChild_57, s_X9_growChild_58, s_X9_growChild_60 hqH2, s_X9_growChild_63, s_X9_growChild_64, s_X9_growChild_65, s_X9_growChild_68, s_X9_growChild_70 htW, s_X9_growChild_73, s_X9_growChild_75, gl, gr, q1, r1, oW, u1, og_0, og_1, og_2, og_3, og_4, og_5, og_6, og_7, og_8, og_9, og_10, og_11, og_12, op_6, op_8, op_9, op_10, op_11, op_12, dg_0, dg_1, dg_2, dg_3, dp_1, dp_2, dp_3, ng_b, ng_d, mz_m, ms_m, ov_2, nset_d, nset_b, uI_1, uI_2, uR_1, uR_21, uR_22, va_rf, Bool.false_eq_true, ae_Ki, ae_Kb, ae_Kj, ae_Ka, ae_Si, ae_Sb, ae_Sj, ae_Sn, List.getElem?_cons_succ, List.getElem?_cons_zero, ↓reduceIte, if_true, if_false, nI_ofNat, true_or, or_true, false_or, or_false, true_and, and_true, false_and, and_false, or_self, and_self, not_true_eq_false, not_false_eq_true, eq_self, List.length_cons, List.length_nil, Nat.reduceAdd, Nat.reduceLT, Nat.reduceSub, List.set_cons_succ, List.set_cons_zero, Option.toList, List.nil_append, List.cons_append, cI_ltT, cI_ltF, cI_leT, cI_leF, cI_eqT, cI_eqF, cI_cl, cN_leT, cN_leF, cN_ltT, cN_ltF, cN_eqT, cN_eqF, cI_add, cI_sub, cI_m1a, cI_m1b, cI_m1c, cI_m1d, cI_m1e, cI_m1f]
  · exact (g12 a _ (hWa.trans q5)).trans (hWa.trans q5)
  · exact (g12 q _ r3).trans r3
  · obtain ⟨s1, s2⟩ := r5 la hla
    obtain ⟨fs, s3⟩ := nfl_cls s1
    obtain ⟨m, _, m1, m2⟩ := hlc la hla
    refine ⟨by rw [nfl_cg (g12 la _ s3)]; exact s1, fun k hk => ?_⟩
    rw [nfl_cg (g12 la _ s3), s2 k hk, nfl_cg (q6 m la m1 m2).2]
  · obtain ⟨a3, fs, w1, w2, w3, w4, w5⟩ := b6 i (by omega)
    rw [hib] at w1
    cases w1
    have hbq : b ≠ q := fun z => hin (b7 i n b (by omega) (by omega) hib (by rw [z]; exact hqn))
    have s1 : W.1 b = G.1 b := (r4 b hbq hbl).trans (q6 i b hi hib).2
    rw [g12 b fs (s1.trans w2)]
    exact s1
  · rw [u3.1 b (fun z => hk.1.2.2.2.2.2.1 (z ▸ hEb)) (fun z => hk.1.2.2.2.2.2.2.1 (z ▸ hEb)), hWE b hEb, q7 b hEb]
  · rw [u3.1 _ (by omega) (by omega)]; exact h14W
  · obtain ⟨l1, l2, l3, l4, l5⟩ := q11
    exact ⟨by rw [hG22]; exact l1, by rw [hG22]; exact l2, l3, by rw [hG22]; exact l4, by rw [hG22]; exact l5⟩
/-- how far the children of a node have been made: the last one, the constructors behind it, the pattern -/
def lch (G : ah_H) (x : Nat) (A : Nat → Nat) (rl : mR) (ns : Nat) (ad : Nat → Option Nat) (p : List Nat) (S : Int64) (k n sz b : Nat) (lc : Value) : Prop := (lc = .null ∧ b = 0 ∧ pat G x (pcm p)) ∨ ∃ la m c0, lc = .ref la ∧ m ≠ n ∧ m < sz ∧ ad m = some la ∧ nfl G la 1 = some (.int (nI c0)) ∧ b = c0 + 1 ∧ c0 < ns ∧ pat G x (pcm (kid A rl p k S c0).1)
theorem m_X9_gc0 (hk : mkr E G x ns A ar fn rl) (hw : wfp ns A rl p S) {k b q n : Nat} (hbr : bro A rl p S = some k) {cn pl lr ch : Int32} {fc nx pa lc : Value} (hq : nodA G q (nI n) cn pl lr ch fc nx S (nI (jof p k)) pa lc) (hl : lch G x A rl ns ad p S k n sz b lc) : ∃ G1, (∀ Q, ae_wm (d + 8) mX9_growChild [.ref (x + 11), .ref t, .ref q] G Q = ae_wp (d + 8) mX9_growChild 25 [some (.ref (x + 11)), some (.ref t), some (.ref q), some (.int (dcr b)), none, none] [] G1 Q) ∧ pat G1 x (pcm p) ∧ frP G G1 x ∧ ∃ l, pat G x l := by
  have hns := hk.2.1.1
  obtain ⟨h1, h2, h3, h4, h5⟩ := bro_at (ns := ns) hbr
  have hnf := nod_nfl hq
  have ht := hk.2.2.2.1
  have o10 : ∀ K, ae_gw G q 0 10 K = K lc := fun K => gw_nfl hnf.2.2.2.2.2.2.2.2.2.2
  have o8 : ∀ K, ae_gw G q 0 8 K = K (.int (nI (jof p k))) := fun K => gw_nfl hnf.2.2.2.2.2.2.2.2.1
  rcases hl with ⟨rfl, rfl, hp⟩ | ⟨la, m, c0, rfl, _, _, _, hc1, rfl, hc2, hp⟩
  · refine ⟨G, fun Q => ?_, hp, frP_refl _ _, _, hp⟩
    have e0 : dcr 0 = -1 := rfl
    rw [e0]
    simp (disch := first | exact ae_isR_ref _ | exact ae_isR_null | exact ae_isR_rf _ | exact ae_cat_ref _ | exact ae_cat_int _ | exact ae_cat_null | exact ae_cat_rf _ | exact ae_nz0 | exact ae_nz1 | exact ae_fz0 | exact ae_fz1 | exact cI_na (by omega) | exact cI_ix (by omega) | exact cI_nn (by omega) | exact cI_nz (by omega) | exact cI_cp (by omega) | assumption | omega) only [s_X9_growChild_0, s_X9_growChild_1, s_X9_growChild_2, s_X9_growChild_3, s_X9_growChild_6_N, s_X9_growChild_6, e_X9_growChild, o10, og_0, og_1, og_2, og_3, og_4, og_5, og_6, og_7, og_8, og_9, og_10, og_11, og_12, op_6, op_8, op_9, op_10, op_11, op_12, dg_0, dg_1, dg_2, dg_3, dp_1, dp_2, dp_3, ng_b, ng_d, mz_m, ms_m, ov_2, nset_d, nset_b, uI_1, uI_2, uR_1, uR_21, uR_22, va_rf, Bool.false_eq_true, ae_Ki, ae_Kb, ae_Kj, ae_Ka, ae_Si, ae_Sb, ae_Sj, ae_Sn, List.getElem?_cons_succ, List.getElem?_cons_zero, ↓reduceIte, if_true, if_false, nI_ofNat, true_or, or_true, false_or, or_false, true_and, and_true, false_and, and_false, or_self, and_self, not_true_eq_false, not_false_eq_true, eq_self, List.length_cons, List.length_nil, Nat.reduceAdd, Nat.reduceLT, Nat.reduceSub, List.set_cons_succ, List.set_cons_zero, Option.toList, List.nil_append, List.cons_append, cI_ltT, cI_ltF, cI_leT, cI_leF, cI_eqT, cI_eqF, cI_cl, cN_leT, cN_leF, cN_ltT, cN_ltF, cN_eqT, cN_eqF, cI_add, cI_sub, cI_m1a, cI_m1b, cI_m1c, cI_m1d, cI_m1e, cI_m1f]
  · have hp0 := hp
    have hjl : ((pcm p).take (jof p k)).length = jof p k := by rw [List.length_take, pcm_len]; omega
    have e1 : pcm (kid A rl p k S c0).1 = (pcm p).take (jof p k) ++ c0 :: (List.replicate (A c0) 100 ++ (pcm p).drop (jof p k + 1)) := pcm_rfa (by omega)
    rw [e1] at hp
    obtain ⟨G1, u1, u2, u3⟩ := m_X9_fold (d := d + 6) hk.2.1 (c := c0) (by omega) ht hk.2.2.1 hp
    rw [hjl] at u1
    rw [← pcm_at9 h3 h4] at u2
    have oc : ∀ K, ae_gw G la 0 1 K = K (.int (nI c0)) := fun K => gw_nfl hc1
    have e0 : dcr (c0 + 1) = nI c0 := rfl
    refine ⟨G1, fun Q => ?_, u2, u3, _, hp0⟩
    rw [e0]
    simp (disch := first | exact ae_isR_ref _ | exact ae_isR_null | exact ae_isR_rf _ | exact ae_cat_ref _ | exact ae_cat_int _ | exact ae_cat_null | exact ae_cat_rf _ | exact ae_nz0 | exact ae_nz1 | exact ae_fz0 | exact ae_fz1 | exact cI_na (by omega) | exact cI_ix (by omega) | exact cI_nn (by omega) | exact cI_nz (by omega) | exact cI_cp (by omega) | assumption | omega) only [s_X9_growChild_0, s_X9_growChild_1, s_X9_growChild_2, s_X9_growChild_3, s_X9_growChild_6_N, s_X9_growChild_6, s_X9_growChild_9, s_X9_growChild_10, s_X9_growChild_13, s_X9_growChild_16, s_X9_growChild_17, s_X9_growChild_18, s_X9_growChild_19, s_X9_growChild_22 ht, e_X9_growChild, o10, o8, oc, u1, og_0, og_1, og_2, og_3, og_4, og_5, og_6, og_7, og_8, og_9, og_10, og_11, og_12, op_6, op_8, op_9, op_10, op_11, op_12, dg_0, dg_1, dg_2, dg_3, dp_1, dp_2, dp_3, ng_b, ng_d, mz_m, ms_m, ov_2, nset_d, nset_b, uI_1, uI_2, uR_1, uR_21, uR_22, va_rf, Bool.false_eq_true, ae_Ki, ae_Kb, ae_Kj, ae_Ka, ae_Si, ae_Sb, ae_Sj, ae_Sn, List.getElem?_cons_succ, List.getElem?_cons_zero, ↓reduceIte, if_true, if_false, nI_ofNat, true_or, or_true, false_or, or_false, true_and, and_true, false_and, and_false, or_self, and_self, not_true_eq_false, not_false_eq_true, eq_self, List.length_cons, List.length_nil, Nat.reduceAdd, Nat.reduceLT, Nat.reduceSub, List.set_cons_succ, List.set_cons_zero, Option.toList, List.nil_append, List.cons_append, cI_ltT, cI_ltF, cI_leT, cI_leF, cI_eqT, cI_eqF, cI_cl, cN_leT, cN_leF, cN_ltT, cN_ltF, cN_eqT, cN_eqF, cI_add, cI_sub, cI_m1a, cI_m1b, cI_m1c, cI_m1d, cI_m1e, cI_m1f]
end GCH
