/-! trees: patterns (99: a hole), where a hole's term stands; sets of rules -/
def loc (A : Nat → Nat) (l : List Nat) : List Nat → Nat → Nat → Option Nat
  | [], _, _ => none
  | x :: p, k, i => if x = 99 then (if k = 0 then some i else loc A l p (k - 1) (te A l i)) else loc A l p k (i + 1)
/-- the row has what the pattern says, from i on -/
def mtc (A : Nat → Nat) (l : List Nat) : List Nat → Nat → Prop
  | [], i => i ≤ l.length
  | x :: p, i => i < l.length ∧ (if x = 99 then mtc A l p (te A l i) else l.getD i 0 = x ∧ mtc A l p (i + 1))
def locv (o : Option Nat) : Int32 := match o with
  | some x => nI x
  | none => -1
def msk (r : Nat) : Int64 := 1 <<< ((nI r).toInt64 &&& 63)
def mem (S : Int64) (r : Nat) : Bool := decide ((S >>> ((nI r).toInt64 &&& 63)) &&& 1 = 1)
def exF (P : Nat → Bool) : Nat → Nat → Bool
  | 0, _ => false
  | m + 1, k => P k || exF P m (k + 1)
def alF (P : Nat → Bool) : Nat → Nat → Bool
  | 0, _ => true
  | m + 1, k => P k && alF P m (k + 1)
def fdF (P : Nat → Bool) : Nat → Nat → Option Nat
  | 0, _ => none
  | m + 1, k => if P k = true then some k else fdF P m (k + 1)
def orF (P : Nat → Bool) : Nat → Nat → Int64 → Int64
  | 0, _, S => S
  | m + 1, k, S => orF P m (k + 1) (if P k = true then S ||| msk k else S)
theorem exF_iff (P : Nat → Bool) : ∀ m k, exF P m k = true ↔ ∃ j, k ≤ j ∧ j < k + m ∧ P j = true := by
  intro m
  induction m with
  | zero => intro k; simp [exF]; omega
  | succ m ih =>
    intro k
    simp only [exF, Bool.or_eq_true, ih]
    constructor
    · rintro (h | ⟨j, h1, h2, h3⟩)
      · exact ⟨k, by omega, by omega, h⟩
      · exact ⟨j, by omega, by omega, h3⟩
    · rintro ⟨j, h1, h2, h3⟩
      by_cases e : j = k
      · subst e; exact Or.inl h3
      · exact Or.inr ⟨j, by omega, by omega, h3⟩
theorem alF_iff (P : Nat → Bool) : ∀ m k, alF P m k = true ↔ ∀ j, k ≤ j → j < k + m → P j = true := by
  intro m
  induction m with
  | zero => intro k; simp [alF]; omega
  | succ m ih =>
    intro k
    simp only [alF, Bool.and_eq_true, ih]
    constructor
    · rintro ⟨h0, h⟩ j h1 h2
      by_cases e : j = k
      · subst e; exact h0
      · exact h j (by omega) (by omega)
    · intro h
      exact ⟨h k (by omega) (by omega), fun j h1 h2 => h j (by omega) (by omega)⟩
theorem fdF_some (P : Nat → Bool) : ∀ m k x, fdF P m k = some x ↔ (k ≤ x ∧ x < k + m ∧ P x = true ∧ ∀ j, k ≤ j → j < x → P j = false) := by
  intro m
  induction m with
  | zero => intro k x; simp [fdF]; omega
  | succ m ih =>
    intro k x
    simp only [fdF]
    by_cases e : P k = true
    · rw [if_pos e]
      constructor
      · intro h
        cases h
        exact ⟨by omega, by omega, e, fun j h1 h2 => by omega⟩
      · rintro ⟨h1, h2, h3, h4⟩
        by_cases e2 : x = k
        · rw [e2]
        · have := h4 k (by omega) (by omega)
          rw [e] at this
          cases this
    · rw [if_neg e, ih]
      have e' : P k = false := by simpa using e
      constructor
      · rintro ⟨h1, h2, h3, h4⟩
        refine ⟨by omega, by omega, h3, fun j h5 h6 => ?_⟩
        by_cases e2 : j = k
        · rw [e2]; exact e'
        · exact h4 j (by omega) h6
      · rintro ⟨h1, h2, h3, h4⟩
        have : x ≠ k := fun z => by rw [z, e'] at h3; cases h3
        exact ⟨by omega, by omega, h3, fun j h5 h6 => h4 j (by omega) h6⟩
theorem fdF_none (P : Nat → Bool) : ∀ m k, fdF P m k = none ↔ ∀ j, k ≤ j → j < k + m → P j = false := by
  intro m
  induction m with
  | zero => intro k; simp [fdF]; omega
  | succ m ih =>
    intro k
    simp only [fdF]
    by_cases e : P k = true
    · rw [if_pos e]
      constructor
      · intro h; cases h
      · intro h
        have := h k (by omega) (by omega)
        rw [e] at this
        cases this
    · rw [if_neg e, ih]
      have e' : P k = false := by simpa using e
      constructor
      · intro h j h1 h2
        by_cases e2 : j = k
        · rw [e2]; exact e'
        · exact h j (by omega) (by omega)
      · intro h j h1 h2
        exact h j (by omega) (by omega)
theorem cL_eq (x y : Int64) : (lg_cmp x y = nI 0) = (x = y) := by
  apply propext
  unfold lg_cmp
  rw [show nI 0 = (0 : Int32) from rfl]
  by_cases h1 : x > y
  · rw [if_pos h1]
    constructor
    · intro h; exact absurd h (by decide)
    · intro h; subst h; exact absurd h1 (Int64.lt_irrefl)
  · rw [if_neg h1]
    by_cases h2 : x = y
    · simp [h2]
    · simp [h2]
/-- the last bit -/
theorem i64_and1 (x : Int64) : x &&& 1 = 0 ∨ x &&& 1 = 1 := by
  have h : x.toBitVec &&& 1#64 = 0#64 ∨ x.toBitVec &&& 1#64 = 1#64 := by
    by_cases e : x.toBitVec.getLsbD 0 = true
    · right
      apply BitVec.eq_of_getLsbD_eq
      intro i hi
      rw [BitVec.getLsbD_and]
      by_cases e2 : i = 0
      · subst e2; rw [e]; rfl
      · simp [e2]
    · left
      apply BitVec.eq_of_getLsbD_eq
      intro i hi
      rw [BitVec.getLsbD_and]
      by_cases e2 : i = 0
      · subst e2; simp at e; simp [e]
      · simp [e2]
  rcases h with h | h
  · left; exact Int64.toBitVec_inj.mp (by rw [Int64.toBitVec_and]; exact h)
  · right; exact Int64.toBitVec_inj.mp (by rw [Int64.toBitVec_and]; exact h)
theorem mem_T {S : Int64} {r : Nat} (h : mem S r = true) : (S >>> ((nI r).toInt64 &&& 63)) &&& 1 = 1 := of_decide_eq_true h
theorem mem_F {S : Int64} {r : Nat} (h : mem S r = false) : (S >>> ((nI r).toInt64 &&& 63)) &&& 1 = 0 := by
  rcases i64_and1 (S >>> ((nI r).toInt64 &&& 63)) with h1 | h1
  · exact h1
  · have : mem S r = true := decide_eq_true h1
    rw [h] at this
    cases this
theorem i64_01 : ((0 : Int64) = 1) = False := by decide
theorem i64_10 : ((1 : Int64) = 0) = False := by decide
abbrev mR : Type := List (List Nat × Nat)
def rat (rl : mR) (r : Nat) : List Nat × Nat := rl.getD r ([], 0)
def rRules (s : rS) (rl : mR) : Prop := s.1 5 = nI rl.length ∧ rl.length ≤ 40 ∧ ∀ r, r < rl.length → rowl (rat rl r).1 (s.2.2.1 6 r) ∧ s.2.1 7 r = nI (rat rl r).2 ∧ s.2.1 8 r = nI (rat rl r).1.length
section REFT
variable {d : Nat} {Q : Option Value → ah_H → Prop} {h : ah_H} {q : Nat} {s : rS} {A : Nat → Nat} {F : Nat → Bool} {ns : Nat} {l p : List Nat} {rl : mR}
theorem te_gt' {i : Nat} (h : i < l.length) : i < te A l i := te_gt h
theorem m_X11_locate_loop {f1 f2 : Nat → Int32} {a1 a2 n1 n2 : Nat} (ha1 : (rh h q s).1 a1 = some (.inl (0, n1, .inl f1))) (ha2 : (rh h q s).1 a2 = some (.inl (0, n2, .inl f2))) (hA : arl A ns (s.2.1 2)) (hp : rowl p f1) (hpl : p.length ≤ n1) (hps : ∀ i, i < p.length → p.getD i 0 < 256) (hn1 : n1 < 536870912) (hl : rowl l f2) (hll : l.length ≤ n2) (hn2 : n2 < 536870912) (hk : kno ns l) (hac : acm A l) {l3 l5 : Option Value} : ∀ (m i k at_ : Nat), i + m = p.length → mtc A l (p.drop i) at_ → k < 2147483648 → at_ ≤ l.length → ae_wp (d + 2) mX11_locate 10 [some (.ref q), some (.ref a1), some (.int (nI p.length)), l3, some (.ref a2), l5, some (.int (nI k)), some (.int (nI at_)), some (.int (nI i))] [] (rh h q s) Q = Q (some (.int (locv (loc A l (p.drop i) k at_)))) (rh h q s) := by
  intro m
  induction m with
  | zero =>
    intro i k at_ hi hm hk2 hat
    have e : p.drop i = [] := List.drop_eq_nil_of_le (by omega)
    simp (disch := first | exact ae_isR_ref _ | exact ae_isR_null | exact ae_isR_rf _ | exact ae_cat_ref _ | exact ae_cat_int _ | exact ae_cat_null | exact ae_cat_rf _ | exact ae_nz0 | exact ae_nz1 | exact ae_fz0 | exact ae_fz1 | exact cI_na (by omega) | exact cI_ix (by omega) | exact cI_nn (by omega) | exact cI_nz (by omega) | exact cI_cp (by omega) | assumption | omega) only [s_X11_locate_10, s_X11_locate_12, s_X11_locate_13, s_X11_locate_58, s_X11_locate_59, rg_0, rg_1, rg_2, rg_3, rg_4, rg_5, rg_6, rg_7, rg_8, rg_9, rg_10, rg_11, rg_12, rg_13, rg_14, rg_15, rg_16, rg_17, rg_18, rg_19, rg_20, rg_21, rg_22, rg_23, rg_24, rg_25, rg_26, rg_27, rg_28, rg_29, rg_30, rg_31, rg_32, rg_33, rg_34, rg_35, rg_36, rg_37, rg_38, rg_39, rg_40, rg_41, rg_42, rg_43, rg_44, rg_45, rg_46, rg_47, rg_48, rg_49, rg_50, rg_51, rg_52, rp_0, rp_4, rp_5, rp_14, rp_15, rp_26, rp_29, rp_30, rp_31, rp_32, rp_33, rp_35, rp_36, rp_38, rp_39, rp_41, rp_42, rp_44, rp_45, rp_47, rp_51, rz_1, rs_1, rz_2, rs_2, rz_3, rs_3, rz_6, rzW_6, rsW_6, rz_7, rs_7, rz_8, rs_8, rz_9, rzW_9, rsW_9, rz_10, rs_10, rz_11, rs_11, rz_12, rs_12, rz_13, rs_13, rz_16, rs_16, rz_17, rs_17, rz_18, rs_18, rz_19, rs_19, rz_20, rs_20, rz_21, rzW_21, rsW_21, rz_22, rs_22, rz_23, rs_23, rz_24, rs_24, rz_25, rs_25, rz_27, rzW_27, rsW_27, rz_28, rs_28, rz_34, rs_34, rz_37, rs_37, rz_40, rs_40, rz_43, rs_43, rz_46, rs_46, rz_48, rs_48, rz_49, rs_49, rz_50, rs_50, rz_52, rs_52, uI_1, uI_2, uR_1, uR_21, uR_22, uW_1, uW_21, uW_22, uW_3, uJ_1, uJ_21, uJ_22, uJ_3, rh_2, va_rf, Bool.false_eq_true, ae_Ki, ae_Kb, ae_Kj, ae_Ka, ae_Si, ae_Sb, ae_Sj, ae_Sn, List.getElem?_cons_succ, List.getElem?_cons_zero, ↓reduceIte, if_true, if_false, nI_ofNat, true_or, or_true, false_or, or_false, true_and, and_true, false_and, and_false, or_self, and_self, not_true_eq_false, not_false_eq_true, eq_self, List.length_cons, List.length_nil, Nat.reduceAdd, Nat.reduceLT, Nat.reduceSub, List.set_cons_succ, List.set_cons_zero, Option.toList, List.nil_append, List.cons_append, cI_ltT, cI_ltF, cI_leT, cI_leF, cI_eqT, cI_eqF, cI_cl, cN_leT, cN_leF, cN_ltT, cN_ltF, cN_eqT, cN_eqF, cI_add, cI_sub, cI_m1a, cI_m1b, cI_m1c, cI_m1d, cI_m1e, cI_m1f, e, loc, locv]
  | succ m ih =>
    intro i k at_ hi hm hk2 hat
    have hil : i < p.length := by omega
    rw [drop_cons hil] at hm ⊢
    have h1 := hps i hil
    have h2 := hp i hil
    generalize p.getD i 0 = x at hm h1 h2 ⊢
    obtain ⟨m1, m2⟩ := hm
    by_cases c1 : x = 99
    · rw [if_pos c1] at m2
      subst c1
      by_cases c2 : k = 0
      · have e : loc A l (99 :: p.drop (i + 1)) k at_ = some at_ := by rw [loc, if_pos rfl, if_pos c2]
        simp (disch := first | exact ae_isR_ref _ | exact ae_isR_null | exact ae_isR_rf _ | exact ae_cat_ref _ | exact ae_cat_int _ | exact ae_cat_null | exact ae_cat_rf _ | exact ae_nz0 | exact ae_nz1 | exact ae_fz0 | exact ae_fz1 | exact cI_na (by omega) | exact cI_ix (by omega) | exact cI_nn (by omega) | exact cI_nz (by omega) | exact cI_cp (by omega) | assumption | omega) only [s_X11_locate_10, s_X11_locate_12, s_X11_locate_13, s_X11_locate_16, s_X11_locate_17, s_X11_locate_19, s_X11_locate_20, s_X11_locate_22, s_X11_locate_25, s_X11_locate_27, s_X11_locate_30, s_X11_locate_32, rg_0, rg_1, rg_2, rg_3, rg_4, rg_5, rg_6, rg_7, rg_8, rg_9, rg_10, rg_11, rg_12, rg_13, rg_14, rg_15, rg_16, rg_17, rg_18, rg_19, rg_20, rg_21, rg_22, rg_23, rg_24, rg_25, rg_26, rg_27, rg_28, rg_29, rg_30, rg_31, rg_32, rg_33, rg_34, rg_35, rg_36, rg_37, rg_38, rg_39, rg_40, rg_41, rg_42, rg_43, rg_44, rg_45, rg_46, rg_47, rg_48, rg_49, rg_50, rg_51, rg_52, rp_0, rp_4, rp_5, rp_14, rp_15, rp_26, rp_29, rp_30, rp_31, rp_32, rp_33, rp_35, rp_36, rp_38, rp_39, rp_41, rp_42, rp_44, rp_45, rp_47, rp_51, rz_1, rs_1, rz_2, rs_2, rz_3, rs_3, rz_6, rzW_6, rsW_6, rz_7, rs_7, rz_8, rs_8, rz_9, rzW_9, rsW_9, rz_10, rs_10, rz_11, rs_11, rz_12, rs_12, rz_13, rs_13, rz_16, rs_16, rz_17, rs_17, rz_18, rs_18, rz_19, rs_19, rz_20, rs_20, rz_21, rzW_21, rsW_21, rz_22, rs_22, rz_23, rs_23, rz_24, rs_24, rz_25, rs_25, rz_27, rzW_27, rsW_27, rz_28, rs_28, rz_34, rs_34, rz_37, rs_37, rz_40, rs_40, rz_43, rs_43, rz_46, rs_46, rz_48, rs_48, rz_49, rs_49, rz_50, rs_50, rz_52, rs_52, uI_1, uI_2, uR_1, uR_21, uR_22, uW_1, uW_21, uW_22, uW_3, uJ_1, uJ_21, uJ_22, uJ_3, rh_2, va_rf, Bool.false_eq_true, ae_Ki, ae_Kb, ae_Kj, ae_Ka, ae_Si, ae_Sb, ae_Sj, ae_Sn, List.getElem?_cons_succ, List.getElem?_cons_zero, ↓reduceIte, if_true, if_false, nI_ofNat, true_or, or_true, false_or, or_false, true_and, and_true, false_and, and_false, or_self, and_self, not_true_eq_false, not_false_eq_true, eq_self, List.length_cons, List.length_nil, Nat.reduceAdd, Nat.reduceLT, Nat.reduceSub, List.set_cons_succ, List.set_cons_zero, Option.toList, List.nil_append, List.cons_append, cI_ltT, cI_ltF, cI_leT, cI_leF, cI_eqT, cI_eqF, cI_cl, cN_leT, cN_leF, cN_ltT, cN_ltF, cN_eqT, cN_eqF, cI_add, cI_sub, cI_m1a, cI_m1b, cI_m1c, cI_m1d, cI_m1e, cI_m1f, zw_of ha1, h2, e, locv]
      · have e : loc A l (99 :: p.drop (i + 1)) k at_ = loc A l (p.drop (i + 1)) (k - 1) (te A l at_) := by rw [loc, if_pos rfl, if_neg c2]
        rw [e]
        refine Eq.trans ?_ (s_X11_locate_55.trans (ih (i + 1) (k - 1) (te A l at_) (by omega) m2 (by omega) (te_le A l (by omega))))
        have g2 := fun Q => m_X11_endOf (d := d) (Q := Q) (h := h) (q := q) ha2 hA hll hn2 hl hk (hac at_ m1) (by omega)
        simp (disch := first | exact ae_isR_ref _ | exact ae_isR_null | exact ae_isR_rf _ | exact ae_cat_ref _ | exact ae_cat_int _ | exact ae_cat_null | exact ae_cat_rf _ | exact ae_nz0 | exact ae_nz1 | exact ae_fz0 | exact ae_fz1 | exact cI_na (by omega) | exact cI_ix (by omega) | exact cI_nn (by omega) | exact cI_nz (by omega) | exact cI_cp (by omega) | assumption | omega) only [s_X11_locate_10, s_X11_locate_12, s_X11_locate_13, s_X11_locate_16, s_X11_locate_17, s_X11_locate_19, s_X11_locate_20, s_X11_locate_22, s_X11_locate_25, s_X11_locate_27, s_X11_locate_30, s_X11_locate_32, s_X11_locate_33, s_X11_locate_36, s_X11_locate_37, s_X11_locate_39, s_X11_locate_41 rl_0, s_X11_locate_44, s_X11_locate_46, s_X11_locate_49, s_X11_locate_52, rg_0, rg_1, rg_2, rg_3, rg_4, rg_5, rg_6, rg_7, rg_8, rg_9, rg_10, rg_11, rg_12, rg_13, rg_14, rg_15, rg_16, rg_17, rg_18, rg_19, rg_20, rg_21, rg_22, rg_23, rg_24, rg_25, rg_26, rg_27, rg_28, rg_29, rg_30, rg_31, rg_32, rg_33, rg_34, rg_35, rg_36, rg_37, rg_38, rg_39, rg_40, rg_41, rg_42, rg_43, rg_44, rg_45, rg_46, rg_47, rg_48, rg_49, rg_50, rg_51, rg_52, rp_0, rp_4, rp_5, rp_14, rp_15, rp_26, rp_29, rp_30, rp_31, rp_32, rp_33, rp_35, rp_36, rp_38, rp_39, rp_41, rp_42, rp_44, rp_45, rp_47, rp_51, rz_1, rs_1, rz_2, rs_2, rz_3, rs_3, rz_6, rzW_6, rsW_6, rz_7, rs_7, rz_8, rs_8, rz_9, rzW_9, rsW_9, rz_10, rs_10, rz_11, rs_11, rz_12, rs_12, rz_13, rs_13, rz_16, rs_16, rz_17, rs_17, rz_18, rs_18, rz_19, rs_19, rz_20, rs_20, rz_21, rzW_21, rsW_21, rz_22, rs_22, rz_23, rs_23, rz_24, rs_24, rz_25, rs_25, rz_27, rzW_27, rsW_27, rz_28, rs_28, rz_34, rs_34, rz_37, rs_37, rz_40, rs_40, rz_43, rs_43, rz_46, rs_46, rz_48, rs_48, rz_49, rs_49, rz_50, rs_50, rz_52, rs_52, uI_1, uI_2, uR_1, uR_21, uR_22, uW_1, uW_21, uW_22, uW_3, uJ_1, uJ_21, uJ_22, uJ_3, rh_2, va_rf, Bool.false_eq_true, ae_Ki, ae_Kb, ae_Kj, ae_Ka, ae_Si, ae_Sb, ae_Sj, ae_Sn, List.getElem?_cons_succ, List.getElem?_cons_zero, ↓reduceIte, if_true, if_false, nI_ofNat, true_or, or_true, false_or, or_false, true_and, and_true, false_and, and_false, or_self, and_self, not_true_eq_false, not_false_eq_true, eq_self, List.length_cons, List.length_nil, Nat.reduceAdd, Nat.reduceLT, Nat.reduceSub, List.set_cons_succ, List.set_cons_zero, Option.toList, List.nil_append, List.cons_append, cI_ltT, cI_ltF, cI_leT, cI_leF, cI_eqT, cI_eqF, cI_cl, cN_leT, cN_leF, cN_ltT, cN_ltF, cN_eqT, cN_eqF, cI_add, cI_sub, cI_m1a, cI_m1b, cI_m1c, cI_m1d, cI_m1e, cI_m1f, zw_of ha1, h2, g2, cI_dec]
    · rw [if_neg c1] at m2
      have e : loc A l (x :: p.drop (i + 1)) k at_ = loc A l (p.drop (i + 1)) k (at_ + 1) := by rw [loc, if_neg c1]
      rw [e]
      refine Eq.trans ?_ (s_X11_locate_55.trans (ih (i + 1) k (at_ + 1) (by omega) m2.2 (by omega) (by omega)))
      simp (disch := first | exact ae_isR_ref _ | exact ae_isR_null | exact ae_isR_rf _ | exact ae_cat_ref _ | exact ae_cat_int _ | exact ae_cat_null | exact ae_cat_rf _ | exact ae_nz0 | exact ae_nz1 | exact ae_fz0 | exact ae_fz1 | exact cI_na (by omega) | exact cI_ix (by omega) | exact cI_nn (by omega) | exact cI_nz (by omega) | exact cI_cp (by omega) | assumption | omega) only [s_X11_locate_10, s_X11_locate_12, s_X11_locate_13, s_X11_locate_16, s_X11_locate_17, s_X11_locate_19, s_X11_locate_20, s_X11_locate_22, s_X11_locate_25, s_X11_locate_27, s_X11_locate_30, s_X11_locate_32, s_X11_locate_33, s_X11_locate_36, s_X11_locate_37, s_X11_locate_39, s_X11_locate_41 rl_0, s_X11_locate_44, s_X11_locate_46, s_X11_locate_49, s_X11_locate_52, rg_0, rg_1, rg_2, rg_3, rg_4, rg_5, rg_6, rg_7, rg_8, rg_9, rg_10, rg_11, rg_12, rg_13, rg_14, rg_15, rg_16, rg_17, rg_18, rg_19, rg_20, rg_21, rg_22, rg_23, rg_24, rg_25, rg_26, rg_27, rg_28, rg_29, rg_30, rg_31, rg_32, rg_33, rg_34, rg_35, rg_36, rg_37, rg_38, rg_39, rg_40, rg_41, rg_42, rg_43, rg_44, rg_45, rg_46, rg_47, rg_48, rg_49, rg_50, rg_51, rg_52, rp_0, rp_4, rp_5, rp_14, rp_15, rp_26, rp_29, rp_30, rp_31, rp_32, rp_33, rp_35, rp_36, rp_38, rp_39, rp_41, rp_42, rp_44, rp_45, rp_47, rp_51, rz_1, rs_1, rz_2, rs_2, rz_3, rs_3, rz_6, rzW_6, rsW_6, rz_7, rs_7, rz_8, rs_8, rz_9, rzW_9, rsW_9, rz_10, rs_10, rz_11, rs_11, rz_12, rs_12, rz_13, rs_13, rz_16, rs_16, rz_17, rs_17, rz_18, rs_18, rz_19, rs_19, rz_20, rs_20, rz_21, rzW_21, rsW_21, rz_22, rs_22, rz_23, rs_23, rz_24, rs_24, rz_25, rs_25, rz_27, rzW_27, rsW_27, rz_28, rs_28, rz_34, rs_34, rz_37, rs_37, rz_40, rs_40, rz_43, rs_43, rz_46, rs_46, rz_48, rs_48, rz_49, rs_49, rz_50, rs_50, rz_52, rs_52, uI_1, uI_2, uR_1, uR_21, uR_22, uW_1, uW_21, uW_22, uW_3, uJ_1, uJ_21, uJ_22, uJ_3, rh_2, va_rf, Bool.false_eq_true, ae_Ki, ae_Kb, ae_Kj, ae_Ka, ae_Si, ae_Sb, ae_Sj, ae_Sn, List.getElem?_cons_succ, List.getElem?_cons_zero, ↓reduceIte, if_true, if_false, nI_ofNat, true_or, or_true, false_or, or_false, true_and, and_true, false_and, and_false, or_self, and_self, not_true_eq_false, not_false_eq_true, eq_self, List.length_cons, List.length_nil, Nat.reduceAdd, Nat.reduceLT, Nat.reduceSub, List.set_cons_succ, List.set_cons_zero, Option.toList, List.nil_append, List.cons_append, cI_ltT, cI_ltF, cI_leT, cI_leF, cI_eqT, cI_eqF, cI_cl, cN_leT, cN_leF, cN_ltT, cN_ltF, cN_eqT, cN_eqF, cI_add, cI_sub, cI_m1a, cI_m1b, cI_m1c, cI_m1d, cI_m1e, cI_m1f, zw_of ha1, h2]
theorem m_X11_locate {f1 f2 : Nat → Int32} {a1 a2 n1 n2 : Nat} (ha1 : (rh h q s).1 a1 = some (.inl (0, n1, .inl f1))) (ha2 : (rh h q s).1 a2 = some (.inl (0, n2, .inl f2))) (hA : arl A ns (s.2.1 2)) (hp : rowl p f1) (hpl : p.length ≤ n1) (hps : ∀ i, i < p.length → p.getD i 0 < 256) (hn1 : n1 < 536870912) (hl : rowl l f2) (hll : l.length ≤ n2) (hn2 : n2 < 536870912) (hk : kno ns l) (hac : acm A l) {k at_ : Nat} (hm : mtc A l p at_) (hk2 : k < 2147483648) (hat : at_ ≤ l.length) : ae_wm (d + 2) mX11_locate [.ref q, .ref a1, .int (nI p.length), .int (nI k), .ref a2, .int (nI at_)] (rh h q s) Q = Q (some (.int (locv (loc A l p k at_)))) (rh h q s) := by
  have g := m_X11_locate_loop (d := d) (Q := Q) (l3 := some (.int (nI k))) (l5 := some (.int (nI at_))) ha1 ha2 hA hp hpl hps hn1 hl hll hn2 hk hac p.length 0 k at_ (by omega) hm hk2 hat
  rw [List.drop_zero] at g
  simp (disch := first | exact ae_isR_ref _ | exact ae_isR_null | exact ae_isR_rf _ | exact ae_cat_ref _ | exact ae_cat_int _ | exact ae_cat_null | exact ae_cat_rf _ | exact ae_nz0 | exact ae_nz1 | exact ae_fz0 | exact ae_fz1 | exact cI_na (by omega) | exact cI_ix (by omega) | exact cI_nn (by omega) | exact cI_nz (by omega) | exact cI_cp (by omega) | assumption | omega) only [s_X11_locate_0, s_X11_locate_1, s_X11_locate_3, s_X11_locate_5, s_X11_locate_7, s_X11_locate_8, e_X11_locate, g]
theorem m_X11_firstOf_loop {S : Int64} {x : Nat} (hx : x < 64) (h1 : mem S x = true) : ∀ (m r : Nat), r + m = x → (∀ j, r ≤ j → j < x → mem S j = false) → ae_wp d mX11_firstOf 2 [some (.ref q), some (.long S), none, some (.int (nI r))] [] (rh h q s) Q = Q (some (.int (nI x))) (rh h q s) := by
  intro m
  induction m with
  | zero =>
    intro r hr hj
    have e : r = x := by omega
    subst e
    simp (disch := first | exact ae_isR_ref _ | exact ae_isR_null | exact ae_isR_rf _ | exact ae_cat_ref _ | exact ae_cat_int _ | exact ae_cat_null | exact ae_cat_rf _ | exact ae_nz0 | exact ae_nz1 | exact ae_fz0 | exact ae_fz1 | exact cI_na (by omega) | exact cI_ix (by omega) | exact cI_nn (by omega) | exact cI_nz (by omega) | exact cI_cp (by omega) | assumption | omega) only [s_X11_firstOf_2, s_X11_firstOf_3, s_X11_firstOf_4, s_X11_firstOf_5, s_X11_firstOf_6, s_X11_firstOf_7, s_X11_firstOf_8, s_X11_firstOf_9, s_X11_firstOf_18, s_X11_firstOf_19, rg_0, rg_1, rg_2, rg_3, rg_4, rg_5, rg_6, rg_7, rg_8, rg_9, rg_10, rg_11, rg_12, rg_13, rg_14, rg_15, rg_16, rg_17, rg_18, rg_19, rg_20, rg_21, rg_22, rg_23, rg_24, rg_25, rg_26, rg_27, rg_28, rg_29, rg_30, rg_31, rg_32, rg_33, rg_34, rg_35, rg_36, rg_37, rg_38, rg_39, rg_40, rg_41, rg_42, rg_43, rg_44, rg_45, rg_46, rg_47, rg_48, rg_49, rg_50, rg_51, rg_52, rp_0, rp_4, rp_5, rp_14, rp_15, rp_26, rp_29, rp_30, rp_31, rp_32, rp_33, rp_35, rp_36, rp_38, rp_39, rp_41, rp_42, rp_44, rp_45, rp_47, rp_51, rz_1, rs_1, rz_2, rs_2, rz_3, rs_3, rz_6, rzW_6, rsW_6, rz_7, rs_7, rz_8, rs_8, rz_9, rzW_9, rsW_9, rz_10, rs_10, rz_11, rs_11, rz_12, rs_12, rz_13, rs_13, rz_16, rs_16, rz_17, rs_17, rz_18, rs_18, rz_19, rs_19, rz_20, rs_20, rz_21, rzW_21, rsW_21, rz_22, rs_22, rz_23, rs_23, rz_24, rs_24, rz_25, rs_25, rz_27, rzW_27, rsW_27, rz_28, rs_28, rz_34, rs_34, rz_37, rs_37, rz_40, rs_40, rz_43, rs_43, rz_46, rs_46, rz_48, rs_48, rz_49, rs_49, rz_50, rs_50, rz_52, rs_52, uI_1, uI_2, uR_1, uR_21, uR_22, uW_1, uW_21, uW_22, uW_3, uJ_1, uJ_21, uJ_22, uJ_3, rh_2, va_rf, Bool.false_eq_true, ae_Ki, ae_Kb, ae_Kj, ae_Ka, ae_Si, ae_Sb, ae_Sj, ae_Sn, List.getElem?_cons_succ, List.getElem?_cons_zero, ↓reduceIte, if_true, if_false, nI_ofNat, true_or, or_true, false_or, or_false, true_and, and_true, false_and, and_false, or_self, and_self, not_true_eq_false, not_false_eq_true, eq_self, List.length_cons, List.length_nil, Nat.reduceAdd, Nat.reduceLT, Nat.reduceSub, List.set_cons_succ, List.set_cons_zero, Option.toList, List.nil_append, List.cons_append, cI_ltT, cI_ltF, cI_leT, cI_leF, cI_eqT, cI_eqF, cI_cl, cN_leT, cN_leF, cN_ltT, cN_ltF, cN_eqT, cN_eqF, cI_add, cI_sub, cI_m1a, cI_m1b, cI_m1c, cI_m1d, cI_m1e, cI_m1f, mem_T h1, cL_eq, i64_10]
  | succ m ih =>
    intro r hr hj
    have h2 := mem_F (hj r (by omega) (by omega))
    refine Eq.trans ?_ (s_X11_firstOf_15.trans (ih (r + 1) (by omega) (fun j h3 h4 => hj j (by omega) h4)))
    simp (disch := first | exact ae_isR_ref _ | exact ae_isR_null | exact ae_isR_rf _ | exact ae_cat_ref _ | exact ae_cat_int _ | exact ae_cat_null | exact ae_cat_rf _ | exact ae_nz0 | exact ae_nz1 | exact ae_fz0 | exact ae_fz1 | exact cI_na (by omega) | exact cI_ix (by omega) | exact cI_nn (by omega) | exact cI_nz (by omega) | exact cI_cp (by omega) | assumption | omega) only [s_X11_firstOf_2, s_X11_firstOf_3, s_X11_firstOf_4, s_X11_firstOf_5, s_X11_firstOf_6, s_X11_firstOf_7, s_X11_firstOf_8, s_X11_firstOf_9, s_X11_firstOf_12, rg_0, rg_1, rg_2, rg_3, rg_4, rg_5, rg_6, rg_7, rg_8, rg_9, rg_10, rg_11, rg_12, rg_13, rg_14, rg_15, rg_16, rg_17, rg_18, rg_19, rg_20, rg_21, rg_22, rg_23, rg_24, rg_25, rg_26, rg_27, rg_28, rg_29, rg_30, rg_31, rg_32, rg_33, rg_34, rg_35, rg_36, rg_37, rg_38, rg_39, rg_40, rg_41, rg_42, rg_43, rg_44, rg_45, rg_46, rg_47, rg_48, rg_49, rg_50, rg_51, rg_52, rp_0, rp_4, rp_5, rp_14, rp_15, rp_26, rp_29, rp_30, rp_31, rp_32, rp_33, rp_35, rp_36, rp_38, rp_39, rp_41, rp_42, rp_44, rp_45, rp_47, rp_51, rz_1, rs_1, rz_2, rs_2, rz_3, rs_3, rz_6, rzW_6, rsW_6, rz_7, rs_7, rz_8, rs_8, rz_9, rzW_9, rsW_9, rz_10, rs_10, rz_11, rs_11, rz_12, rs_12, rz_13, rs_13, rz_16, rs_16, rz_17, rs_17, rz_18, rs_18, rz_19, rs_19, rz_20, rs_20, rz_21, rzW_21, rsW_21, rz_22, rs_22, rz_23, rs_23, rz_24, rs_24, rz_25, rs_25, rz_27, rzW_27, rsW_27, rz_28, rs_28, rz_34, rs_34, rz_37, rs_37, rz_40, rs_40, rz_43, rs_43, rz_46, rs_46, rz_48, rs_48, rz_49, rs_49, rz_50, rs_50, rz_52, rs_52, uI_1, uI_2, uR_1, uR_21, uR_22, uW_1, uW_21, uW_22, uW_3, uJ_1, uJ_21, uJ_22, uJ_3, rh_2, va_rf, Bool.false_eq_true, ae_Ki, ae_Kb, ae_Kj, ae_Ka, ae_Si, ae_Sb, ae_Sj, ae_Sn, List.getElem?_cons_succ, List.getElem?_cons_zero, ↓reduceIte, if_true, if_false, nI_ofNat, true_or, or_true, false_or, or_false, true_and, and_true, false_and, and_false, or_self, and_self, not_true_eq_false, not_false_eq_true, eq_self, List.length_cons, List.length_nil, Nat.reduceAdd, Nat.reduceLT, Nat.reduceSub, List.set_cons_succ, List.set_cons_zero, Option.toList, List.nil_append, List.cons_append, cI_ltT, cI_ltF, cI_leT, cI_leF, cI_eqT, cI_eqF, cI_cl, cN_leT, cN_leF, cN_ltT, cN_ltF, cN_eqT, cN_eqF, cI_add, cI_sub, cI_m1a, cI_m1b, cI_m1c, cI_m1d, cI_m1e, cI_m1f, h2, cL_eq]
def fsr (S : Int64) : Nat := (fdF (mem S) 64 0).getD 0
theorem fsr_of {S : Int64} {r : Nat} (h : mem S r = true) (hr : r < 64) : mem S (fsr S) = true ∧ fsr S < 64 ∧ ∀ j, j < fsr S → mem S j = false := by
  unfold fsr
  cases e : fdF (mem S) 64 0 with
  | none =>
    have := (fdF_none _ _ _).mp e r (by omega) (by omega)
    rw [h] at this
    cases this
  | some x =>
    obtain ⟨h1, h2, h3, h4⟩ := (fdF_some _ _ _ _).mp e
    exact ⟨h3, by simpa using h2, fun j hj => h4 j (by omega) hj⟩
theorem m_X11_firstOf {S : Int64} {r : Nat} (hr : r < 64) (h1 : mem S r = true) : ae_wm d mX11_firstOf [.ref q, .long S] (rh h q s) Q = Q (some (.int (nI (fsr S)))) (rh h q s) := by
  obtain ⟨g1, g2, g3⟩ := fsr_of h1 hr
  have g := m_X11_firstOf_loop (d := d) (Q := Q) (h := h) (q := q) (s := s) g2 g1 (fsr S) 0 (by omega) (fun j _ hj => g3 j hj)
  simp (disch := first | exact ae_isR_ref _ | exact ae_isR_null | exact ae_isR_rf _ | exact ae_cat_ref _ | exact ae_cat_int _ | exact ae_cat_null | exact ae_cat_rf _ | exact ae_nz0 | exact ae_nz1 | exact ae_fz0 | exact ae_fz1 | exact cI_na (by omega) | exact cI_ix (by omega) | exact cI_nn (by omega) | exact cI_nz (by omega) | exact cI_cp (by omega) | assumption | omega) only [s_X11_firstOf_0, s_X11_firstOf_1, e_X11_firstOf, g]
end REFT
