/-! numbers on the tape -/
def byt (w : Int64) (k : Nat) : Nat := (w.toBitVec >>> (8 * k)).toNat % 256
theorem byt_lt (w : Int64) (k : Nat) : byt w k < 256 := Nat.mod_lt _ (by decide)
theorem byt_bit {w : Int64} {k i : Nat} : (byt w k).testBit i = (decide (i < 8) && w.toBitVec.getLsbD (8 * k + i)) := by
  unfold byt
  rw [show 256 = 2 ^ 8 by decide, Nat.testBit_mod_two_pow]
  congr 1
  rw [BitVec.testBit_toNat, BitVec.getLsbD_ushiftRight]
theorem nI_bit {n i : Nat} (h : i < 32) : (nI n).toBitVec.getLsbD i = n.testBit i := by
  unfold nI
  rw [Int32.toBitVec_ofNat', BitVec.getLsbD_ofNat]
  simp [h]
theorem sh8 : ∀ k, k < 7 → ((nI (8 * k)).toInt64 &&& 63) = Int64.ofNat (8 * k) := by decide +kernel
theorem b255_64 : ∀ i, i < 64 → (255#64).getLsbD i = decide (i < 8) := by decide +kernel
theorem b255_32 : ∀ i, i < 32 → (255#32).getLsbD i = decide (i < 8) := by decide +kernel
theorem byt_ref {w : Int64} {k : Nat} (h : k < 7) : ((w >>> ((nI (8 * k)).toInt64 &&& 63)) &&& 255).toInt32 = nI (byt w k) := by
  rw [sh8 k h]
  have e1 : (w >>> Int64.ofNat (8 * k)).toBitVec = w.toBitVec.sshiftRight (8 * k) := by
    rw [Int64.toBitVec_shiftRight]
    have : ∀ k, k < 7 → (Int64.ofNat (8 * k)).toBitVec.smod 64 = BitVec.ofNat 64 (8 * k) := by decide +kernel
    rw [this k h]
    simp only [BitVec.sshiftRight']
    rw [BitVec.toNat_ofNat, Nat.mod_eq_of_lt (by omega)]
  apply Int32.toBitVec_inj.mp
  apply BitVec.eq_of_getLsbD_eq
  intro i hi
  rw [nI_bit hi, byt_bit, Int64.toBitVec_toInt32, BitVec.getLsbD_signExtend, Int64.toBitVec_and, e1]
  rw [BitVec.getLsbD_and]
  rw [show (255 : Int64).toBitVec = 255#64 from rfl, b255_64 i (by omega), BitVec.getLsbD_sshiftRight]
  by_cases c : i < 8
  · have c1 : ¬ 64 ≤ i := by omega
    have c2 : 8 * k + i < 64 := by omega
    simp [hi, c, c1, c2]
  · simp [hi, c]
    omega
theorem byt_cls {w : Int64} {k : Nat} (h : k < 7) : (w.toUInt64 >>> ((nI (8 * k)).toInt64.toUInt64 &&& Int64.toUInt64 63)).toInt64.toInt32 &&& nI 255 = nI (byt w k) := by
  have e0 : ∀ k, k < 7 → (nI (8 * k)).toInt64.toUInt64 &&& Int64.toUInt64 63 = UInt64.ofNat (8 * k) := by decide +kernel
  rw [e0 k h]
  have e1 : (w.toUInt64 >>> UInt64.ofNat (8 * k)).toInt64.toBitVec = w.toBitVec >>> (8 * k) := by
    show (w.toUInt64 >>> UInt64.ofNat (8 * k)).toBitVec = _
    rw [UInt64.toBitVec_shiftRight]
    have : ∀ k, k < 7 → (UInt64.ofNat (8 * k)).toBitVec % 64 = BitVec.ofNat 64 (8 * k) := by decide +kernel
    rw [this k h, BitVec.ushiftRight_eq', BitVec.toNat_ofNat, Nat.mod_eq_of_lt (by omega)]
    rfl
  apply Int32.toBitVec_inj.mp
  apply BitVec.eq_of_getLsbD_eq
  intro i hi
  rw [nI_bit hi, byt_bit, Int32.toBitVec_and, BitVec.getLsbD_and, nI_bit hi, Int64.toBitVec_toInt32, BitVec.getLsbD_signExtend, e1, BitVec.getLsbD_ushiftRight]
  have e2 : ∀ i, i < 32 → (255 : Nat).testBit i = decide (i < 8) := by decide +kernel
  rw [e2 i hi]
  by_cases c : i < 8
  · simp [hi, c]
    omega
  · simp [c]
/-- reading a term from the tape: where it ends, or what is wrong -/
def knw (ns x : Nat) : Bool := decide (x < ns ∨ (100 ≤ x ∧ x < 110))
def rdo (A : Nat → Nat) (ns : Nat) (tp : List Nat) : Nat → Nat → Nat → Int32 ⊕ Nat
  | 0, ms, i => if ms = 0 then .inr i else .inl (-12)
  | k + 1, ms, i => if ms = 0 then .inr i else if knw ns (tp.getD i 0) = true then rdo A ns tp k (ms + A (tp.getD i 0) - 1) (i + 1) else .inl (-11)
def rdt (A : Nat → Nat) (ns : Nat) (tp : List Nat) (i : Nat) : Int32 ⊕ Nat := rdo A ns tp (tp.length - i) 1 i
def rdv (o : Int32 ⊕ Nat) : Int32 := match o with
  | .inl v => v
  | .inr j => nI j
theorem rdo_inl {A : Nat → Nat} {ns : Nat} {tp : List Nat} : ∀ (k ms i : Nat) (v : Int32), rdo A ns tp k ms i = .inl v → v = -11 ∨ v = -12 := by
  intro k
  induction k with
  | zero =>
    intro ms i v h
    simp only [rdo] at h
    by_cases c : ms = 0
    · rw [if_pos c] at h; cases h
    · rw [if_neg c] at h; cases h; exact Or.inr rfl
  | succ k ih =>
    intro ms i v h
    simp only [rdo] at h
    by_cases c : ms = 0
    · rw [if_pos c] at h; cases h
    · rw [if_neg c] at h
      by_cases c2 : knw ns (tp.getD i 0) = true
      · rw [if_pos c2] at h; exact ih _ _ _ h
      · rw [if_neg c2] at h; cases h; exact Or.inl rfl
theorem rdo_inr {A : Nat → Nat} {ns : Nat} {tp : List Nat} : ∀ (k ms i j : Nat), tp.length = i + k → rdo A ns tp k ms i = .inr j → i ≤ j ∧ j ≤ tp.length ∧ rn A (sl tp i j) ms = some 0 ∧ tl A tp k ms i = j ∧ ∀ t, i ≤ t → t < j → knw ns (tp.getD t 0) = true := by
  intro k
  induction k with
  | zero =>
    intro ms i j hk h
    simp only [rdo] at h
    by_cases c : ms = 0
    · rw [if_pos c] at h
      cases h
      subst c
      exact ⟨Nat.le_refl _, by omega, by rw [sl_nil (Nat.le_refl _)]; rfl, rfl, fun t h1 h2 => by omega⟩
    · rw [if_neg c] at h; cases h
  | succ k ih =>
    intro ms i j hk h
    simp only [rdo] at h
    by_cases c : ms = 0
    · rw [if_pos c] at h
      cases h
      subst c
      exact ⟨Nat.le_refl _, by omega, by rw [sl_nil (Nat.le_refl _)]; rfl, tl_done _ _ _ _, fun t h1 h2 => by omega⟩
    · rw [if_neg c] at h
      by_cases c2 : knw ns (tp.getD i 0) = true
      · rw [if_pos c2] at h
        obtain ⟨g1, g2, g3, g4, g5⟩ := ih _ _ _ (by omega) h
        refine ⟨by omega, g2, ?_, ?_, fun t h1 h2 => ?_⟩
        · rw [sl_cons (by omega) g2]
          simp only [rn]
          rw [if_neg c]
          exact g3
        · rw [tl, if_neg c, if_pos (by omega)]; exact g4
        · by_cases e : t = i
          · rw [e]; exact c2
          · exact g5 t (by omega) h2
      · rw [if_neg c2] at h; cases h
theorem sl_app {l : List Nat} {a b c : Nat} (h1 : a ≤ b) (h2 : b ≤ c) : sl l a c = sl l a b ++ sl l b c := by
  unfold sl
  have : l.drop b = (l.drop a).drop (b - a) := by rw [List.drop_drop]; congr 1; omega
  rw [this, show c - a = (b - a) + (c - b) by omega, List.take_add]
theorem sl_all (l : List Nat) : sl l 0 l.length = l := by simp [sl]
theorem knw_kn1 {ns : Nat} {tp : List Nat} (h : ∀ t, t < tp.length → knw ns (tp.getD t 0) = true) : kn1 ns tp := fun t ht => by
  have := of_decide_eq_true (h t ht)
  omega
/-- two terms on the tape -/
theorem rdt_two {A : Nat → Nat} {ns : Nat} {tp : List Nat} {l : Nat} (h1 : rdt A ns tp 0 = .inr l) (h2 : rdt A ns tp l = .inr tp.length) : rn A tp 2 = some 0 ∧ (∀ t, t < tp.length → knw ns (tp.getD t 0) = true) ∧ l = te A tp 0 ∧ 0 < l ∧ l ≤ tp.length := by
  obtain ⟨a1, a2, a3, a4, a5⟩ := rdo_inr _ _ _ _ (by omega) h1
  obtain ⟨b1, b2, b3, b4, b5⟩ := rdo_inr _ _ _ _ (by omega) h2
  have e : tp = sl tp 0 l ++ sl tp l tp.length := by rw [← sl_app a1 a2, sl_all]
  have hr : rn A tp (1 + 1) = some 0 := by
    rw [e]
    exact rn_two a3 b3
  refine ⟨hr, fun t ht => ?_, a4.symm, ?_, a2⟩
  · by_cases c : t < l
    · exact a5 t (by omega) c
    · exact b5 t (by omega) ht
  · rcases Nat.eq_zero_or_pos l with z | z
    · rw [z, sl_nil (Nat.le_refl _)] at a3
      simp [rn] at a3
    · exact z
/-- a negative number, or a natural one -/
theorem i32_cases (x : Int32) : x < nI 0 ∨ ∃ n, n < 2147483648 ∧ x = nI n := by
  by_cases h : x < nI 0
  · exact Or.inl h
  · right
    have h0 : (nI 0).toInt = 0 := by decide
    have h1 : 0 ≤ x.toInt := by
      rw [Int32.lt_iff_toInt_lt, h0] at h
      omega
    have h2 := Int32.toInt_lt x
    refine ⟨x.toInt.toNat, by omega, ?_⟩
    apply Int32.toInt_inj.mp
    unfold nI
    rw [Int32.toInt_ofNat_of_lt (by omega)]
    omega
