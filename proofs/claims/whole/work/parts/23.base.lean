/-! the base set: what is decided of numbers and heaps by omega as simp goes -/
theorem cI_ltT {a b : Nat} (h : a < b ∧ b < 2147483648) : (nI a < nI b) = True := eq_true (nI_lt h.1 (by omega))
theorem cI_ltF {a b : Nat} (h : b ≤ a ∧ a < 2147483648) : (nI a < nI b) = False := eq_false (nI_nlt h.1 (by omega))
theorem cI_leT {a b : Nat} (h : a ≤ b ∧ b < 2147483648) : (nI a ≤ nI b) = True := eq_true (nI_le h.1 (by omega))
theorem cI_leF {a b : Nat} (h : b < a ∧ a < 2147483648) : (nI a ≤ nI b) = False := eq_false (nI_ge h.1 (by omega))
theorem cI_eqT {a b : Nat} (h : a = b) : (nI a = nI b) = True := eq_true (by rw [h])
theorem cI_eqF {a b : Nat} (h : a ≠ b ∧ a < 2147483648 ∧ b < 2147483648) : (nI a = nI b) = False := eq_false (fun e => h.1 ((nI_eq (by omega) (by omega)).mp e))
theorem cI_cl {a : Nat} (h : a < 2147483648) : (nI a).toNatClampNeg = a := nI_clamp (by omega)
theorem cI_add (a b : Nat) : nI a + nI b = nI (a + b) := nI_add a b
theorem cI_sub {a b : Nat} (h : b ≤ a) : nI a - nI b = nI (a - b) := by
  obtain ⟨c, rfl⟩ : ∃ c, a = c + b := ⟨a - b, by omega⟩
  rw [← nI_add, Nat.add_sub_cancel, Int32.add_sub_cancel]
theorem cI_m1a (a : Nat) (h : a < 2147483648) : (nI a = -1) = False := eq_false (fun e => by
  have := nI_pos (n := a) (by omega)
  rw [e] at this
  exact this (by decide))
theorem cI_m1b (a : Nat) (h : a < 2147483648) : ((-1 : Int32) = nI a) = False := eq_false (fun e => by
  have := cI_m1a a h
  rw [← e] at this
  simp at this)
theorem cI_m1c (a : Nat) (h : a < 2147483648) : ((-1 : Int32) < nI a) = True := by
  have h1 : ((-1 : Int32)).toInt = -1 := by decide
  have h2 := nI_toInt (n := a) (by omega)
  exact eq_true (Int32.lt_iff_toInt_lt.mpr (by rw [h1, h2]; omega))
theorem cI_m1d (a : Nat) (h : a < 2147483648) : (nI a ≤ (-1 : Int32)) = False := by
  have h1 : ((-1 : Int32)).toInt = -1 := by decide
  have h2 := nI_toInt (n := a) (by omega)
  exact eq_false (fun e => by have := Int32.le_iff_toInt_le.mp e; rw [h1, h2] at this; omega)
theorem cI_m1e (a : Nat) (h : a < 2147483648) : ((-1 : Int32) ≤ nI a) = True := by
  have h1 : ((-1 : Int32)).toInt = -1 := by decide
  have h2 := nI_toInt (n := a) (by omega)
  exact eq_true (Int32.le_iff_toInt_le.mpr (by rw [h1, h2]; omega))
theorem cI_m1f (a : Nat) (h : a < 2147483648) : (nI a < (-1 : Int32)) = False := by
  have h1 : ((-1 : Int32)).toInt = -1 := by decide
  have h2 := nI_toInt (n := a) (by omega)
  exact eq_false (fun e => by have := Int32.lt_iff_toInt_lt.mp e; rw [h1, h2] at this; omega)
theorem cI_m1g : ((-1 : Int32) < nI 0) = True := by decide +kernel
theorem cI_dec {a : Nat} (h : 0 < a) : nI a + (-1) = nI (a - 1) := by
  obtain ⟨c, rfl⟩ : ∃ c, a = c + 1 := ⟨a - 1, by omega⟩
  rw [nI_succ, Nat.add_sub_cancel, Int32.add_assoc, show (1 : Int32) + (-1) = 0 by decide, Int32.add_zero]
theorem cI_miss {m a : Nat} (h : 0 < m) : nI m + (nI a - nI 1) = nI (m + a - 1) := by
  obtain ⟨c, rfl⟩ : ∃ c, m = c + 1 := ⟨m - 1, by omega⟩
  rw [show c + 1 + a - 1 = c + a by omega, nI_succ, ← nI_add]
  generalize nI c = x
  generalize nI a = y
  show x + 1 + (y - 1) = x + y
  rw [Int32.add_assoc, Int32.sub_eq_add_neg, Int32.add_comm y (-1), ← Int32.add_assoc 1, Int32.add_right_neg, Int32.zero_add]
theorem cN_leT {a b : Nat} (h : a ≤ b) : (a ≤ b) = True := eq_true h
theorem cN_leF {a b : Nat} (h : b < a) : (a ≤ b) = False := eq_false (by omega)
theorem cN_ltT {a b : Nat} (h : a < b) : (a < b) = True := eq_true h
theorem cN_ltF {a b : Nat} (h : b ≤ a) : (a < b) = False := eq_false (by omega)
theorem cN_eqT {a b : Nat} (h : a = b) : (a = b) = True := eq_true h
theorem cN_eqF {a b : Nat} (h : a ≠ b) : (a = b) = False := eq_false h
theorem ae_nz0 : narrow .boolean (.int (nI 0)) = .int (nI 0) := by decide +kernel
theorem ae_nz1 : narrow .boolean (.int (nI 1)) = .int (nI 1) := by decide +kernel
theorem ae_fz0 : fits .boolean (.int (nI 0)) = true := by decide +kernel
theorem ae_fz1 : fits .boolean (.int (nI 1)) = true := by decide +kernel
theorem ae_vn0 : vp_nar .boolean (nI 0) = nI 0 := by decide +kernel
theorem ae_vn1 : vp_nar .boolean (nI 1) = nI 1 := by decide +kernel
theorem nI_ofNat (n : Nat) : Int32.ofNat n = nI n := rfl
theorem hs_eq {H : ah_H} {a b : Nat} {c : ah_C} (h : b = a) : (ah_set H a c).1 b = some c := by simp [ah_set, va_up, h]
theorem hs_ne {H : ah_H} {a b : Nat} {c : ah_C} (h : b ≠ a) : (ah_set H a c).1 b = H.1 b := by simp [ah_set, va_up, h]
theorem hs_2 (H : ah_H) (a : Nat) (c : ah_C) : (ah_set H a c).2 = H.2 := rfl
theorem hn_eq {H : ah_H} {b n : Nat} {c : ah_C} (h : b = H.2.1) : (ah_new H c n).1 b = some c := by simp [ah_new, va_up, h]
theorem hn_ne {H : ah_H} {b n : Nat} {c : ah_C} (h : b ≠ H.2.1) : (ah_new H c n).1 b = H.1 b := by simp [ah_new, va_up, h]
theorem hn_21 (H : ah_H) (c : ah_C) (n : Nat) : (ah_new H c n).2.1 = H.2.1 + 1 := rfl
theorem hn_22 (H : ah_H) (c : ah_C) (n : Nat) : (ah_new H c n).2.2.1 = H.2.2.1 + n := rfl
theorem hn_23 (H : ah_H) (c : ah_C) (n : Nat) : (ah_new H c n).2.2.2 = H.2.2.2 := rfl
theorem hs_hs (H : ah_H) (a : Nat) (c c' : ah_C) : ah_set (ah_set H a c) a c' = ah_set H a c' := by
  unfold ah_set
  congr 1
  funext b
  simp only [va_up]
  split <;> rfl
theorem hs_cm {H : ah_H} {a b : Nat} {c c' : ah_C} (h : a ≠ b) : ah_set (ah_set H a c) b c' = ah_set (ah_set H b c') a c := by
  unfold ah_set
  congr 1
  funext x
  simp only [va_up]
  by_cases h1 : x = a
  · subst h1; simp [h]
  · by_cases h2 : x = b
    · subst h2; simp [h1]
    · simp [h1, h2]
theorem cI_na {n : Nat} (h : n ≤ 65536) : ¬ (nI n < nI 0 ∨ 65536 < (nI n).toNatClampNeg) := by rw [cI_cl (by omega), cI_ltF (by omega), false_or]; omega
theorem cI_ix {n j : Nat} (h : j < n ∧ j < 2147483648) : ¬ (nI j < nI 0 ∨ n ≤ (nI j).toNatClampNeg) := by rw [cI_cl (by omega), cI_ltF (by omega), false_or]; omega
theorem cI_nn {j : Nat} (h : j < 2147483648) : ¬ nI j < nI 0 := by rw [cI_ltF (by omega)]; exact id
theorem cI_nz {j : Nat} (h : 0 < j ∧ j < 2147483648) : ¬ nI j = nI 0 := by rw [cI_eqF (by omega)]; exact id
theorem cI_cp {a k n : Nat} (h : a + k ≤ n ∧ n < 2147483648) : (nI a).toNatClampNeg + (nI k).toNatClampNeg ≤ n := by rw [cI_cl (by omega), cI_cl (by omega)]; omega
theorem zw_of {H : ah_H} {a t : Nat} {x : vp_A} {K : Nat → vp_A → Prop} (e : H.1 a = some (.inl (t, x))) : ae_zw H a K = K t x := by unfold ae_zw; rw [e]
theorem cI_m1h : (nI 0 ≤ (-1 : Int32)) = False := by decide +kernel
