/-! Long.bitCount, Long.numberOfTrailingZeros -/
def ush (x : Int64) (k : Nat) : Int64 := (x.toUInt64 >>> ((nI k).toInt64.toUInt64 &&& Int64.toUInt64 63)).toInt64
def i6N (x : Int64) : Nat := x.toBitVec.toNat
theorem ush_amt : ∀ k, k < 64 → ((nI k).toInt64.toUInt64 &&& Int64.toUInt64 63).toBitVec % 64 = BitVec.ofNat 64 k := by decide +kernel
theorem ush_N (x : Int64) {k : Nat} (h : k < 64) : i6N (ush x k) = i6N x / 2 ^ k := by
  show ((x.toUInt64 >>> ((nI k).toInt64.toUInt64 &&& Int64.toUInt64 63)).toBitVec).toNat = _
  rw [UInt64.toBitVec_shiftRight, ush_amt k h, BitVec.ushiftRight_eq', BitVec.toNat_ushiftRight, BitVec.toNat_ofNat, Nat.mod_eq_of_lt (show k < 2 ^ 64 by omega), Nat.shiftRight_eq_div_pow]
  rfl
theorem and_N (x y : Int64) : i6N (x &&& y) = i6N x &&& i6N y := by unfold i6N; rw [Int64.toBitVec_and, BitVec.toNat_and]
theorem add_N (x y : Int64) : i6N (x + y) = (i6N x + i6N y) % 2 ^ 64 := by unfold i6N; rw [Int64.toBitVec_add, BitVec.toNat_add]
theorem sub_N {x y : Int64} (h : i6N y ≤ i6N x) : i6N (x - y) = i6N x - i6N y := by
  unfold i6N at h ⊢
  rw [Int64.toBitVec_sub, BitVec.toNat_sub]
  have := x.toBitVec.isLt
  have := y.toBitVec.isLt
  omega
theorem i6_lt (x : Int64) : i6N x < 2 ^ 64 := x.toBitVec.isLt
theorem i6_inj {x y : Int64} (h : i6N x = i6N y) : x = y := Int64.toBitVec_inj.mp (BitVec.eq_of_toNat_eq h)
theorem and_split {u m r M : Nat} (hu : u < 256) (hm : m < 256) : (u + 256 * r) &&& (m + 256 * M) = (u &&& m) + 256 * (r &&& M) := by
  have e1 : ((u + 256 * r) &&& (m + 256 * M)) % 2 ^ 8 = u &&& m := by
    rw [Nat.and_mod_two_pow, show (u + 256 * r) % 2 ^ 8 = u by omega, show (m + 256 * M) % 2 ^ 8 = m by omega]
  have e2 : ((u + 256 * r) &&& (m + 256 * M)) / 2 ^ 8 = r &&& M := by
    rw [Nat.and_div_two_pow, show (u + 256 * r) / 2 ^ 8 = r by omega, show (m + 256 * M) / 2 ^ 8 = M by omega]
  omega
def mkb (c : Nat) : Nat → Nat
  | 0 => 0
  | n + 1 => c + 256 * mkb c n
def a8 (u : Nat) : Nat := u - (u / 2 &&& 85)
def b8 (u : Nat) : Nat := (a8 u &&& 51) + (a8 u / 4 &&& 51)
def c8 (u : Nat) : Nat := (b8 u + b8 u / 16) &&& 15
def aN (n X : Nat) : Nat := X - (X / 2 &&& mkb 85 n)
def bN (n X : Nat) : Nat := (aN n X &&& mkb 51 n) + (aN n X / 4 &&& mkb 51 n)
def cN (n X : Nat) : Nat := (bN n X + bN n X / 16) &&& mkb 15 n
theorem t8 : ∀ u, u < 256 → a8 u < 256 ∧ b8 u ≤ 68 ∧ b8 u % 16 ≤ 4 ∧ c8 u ≤ 8 ∧ (u / 2 &&& 85) ≤ u ∧ (c8 u = 0 → u = 0) ∧ (c8 u = 1 → ∃ j, j < 8 ∧ u = 2 ^ j) := by decide +kernel
theorem t85 : ∀ u, u < 256 → ∀ t, t < 2 → (u / 2 + 128 * t) &&& 85 = u / 2 &&& 85 := by decide +kernel
theorem t51 : ∀ u, u < 256 → ∀ t, t < 4 → (u / 4 + 64 * t) &&& 51 = u / 4 &&& 51 := by decide +kernel
theorem t15 : ∀ v, v < 256 → ∀ t, t < 16 → (v + 16 * t) &&& 15 = v &&& 15 := by decide +kernel
theorem aN_s {n u r : Nat} (hu : u < 256) : aN (n + 1) (u + 256 * r) = a8 u + 256 * aN n r := by
  have h1 := t8 u hu
  unfold aN
  have e : (u + 256 * r) / 2 = (u / 2 + 128 * (r % 2)) + 256 * (r / 2) := by omega
  rw [e, mkb, and_split (by omega) (by omega), t85 u hu _ (by omega)]
  have h2 : (r / 2 &&& mkb 85 n) ≤ r / 2 := Nat.and_le_left
  have h3 := h1.2.2.2.2.1
  unfold a8
  omega
theorem bN_s {n u r : Nat} (hu : u < 256) : bN (n + 1) (u + 256 * r) = b8 u + 256 * bN n r := by
  have h1 := t8 u hu
  unfold bN
  rw [aN_s hu, mkb, and_split h1.1 (by omega)]
  have e : (a8 u + 256 * aN n r) / 4 = (a8 u / 4 + 64 * (aN n r % 4)) + 256 * (aN n r / 4) := by omega
  rw [e, and_split (by omega) (by omega), t51 _ h1.1 _ (by omega)]
  unfold b8
  omega
theorem bN_m : ∀ (n X : Nat), X < 256 ^ n → bN n X % 16 ≤ 4 := by
  intro n
  cases n with
  | zero => intro X h; have : X = 0 := by simpa using h
            subst this; decide
  | succ n =>
    intro X h
    have e : X = X % 256 + 256 * (X / 256) := by omega
    rw [e, bN_s (by omega)]
    have := t8 (X % 256) (by omega)
    omega
theorem cN_s {n u r : Nat} (hu : u < 256) (hr : r < 256 ^ n) : cN (n + 1) (u + 256 * r) = c8 u + 256 * cN n r := by
  have h1 := t8 u hu
  have h2 := bN_m n r hr
  unfold cN
  rw [bN_s hu]
  have e : b8 u + 256 * bN n r + (b8 u + 256 * bN n r) / 16 = (b8 u + b8 u / 16 + 16 * (bN n r % 16)) + 256 * (bN n r + bN n r / 16) := by omega
  rw [e, mkb, and_split (by omega) (by omega), t15 _ (by omega) _ (by omega)]
  rfl
def smb : Nat → Nat → Nat
  | 0, _ => 0
  | n + 1, X => c8 (X % 256) + smb n (X / 256)
theorem smb_0 : ∀ n X, X < 256 ^ n → smb n X = 0 → X = 0 := by
  intro n
  induction n with
  | zero => intro X h _; simpa using h
  | succ n ih =>
    intro X h e
    rw [smb] at e
    have h1 := (t8 (X % 256) (by omega)).2.2.2.2.2.1 (by omega)
    have h2 := ih (X / 256) (by rw [Nat.pow_succ] at h; omega) (by omega)
    omega
theorem smb_1 : ∀ n X, X < 256 ^ n → smb n X = 1 → ∃ r, r < 8 * n ∧ X = 2 ^ r := by
  intro n
  induction n with
  | zero => intro X _ e; cases e
  | succ n ih =>
    intro X h e
    rw [smb] at e
    have h0 : X / 256 < 256 ^ n := by rw [Nat.pow_succ] at h; omega
    have h1 := t8 (X % 256) (by omega)
    by_cases c : c8 (X % 256) = 0
    · have h2 := h1.2.2.2.2.2.1 c
      obtain ⟨r, r1, r2⟩ := ih (X / 256) h0 (by omega)
      refine ⟨r + 8, by omega, ?_⟩
      rw [Nat.pow_add]
      omega
    · have h2 := smb_0 n (X / 256) h0 (by omega)
      obtain ⟨j, j1, j2⟩ := h1.2.2.2.2.2.2 (by omega)
      exact ⟨j, by omega, by omega⟩
theorem c8_le (u : Nat) : c8 (u % 256) ≤ 8 := (t8 (u % 256) (by omega)).2.2.2.1
theorem cN_d {n X : Nat} (h : X < 256 ^ (n + 1)) : cN (n + 1) X = c8 (X % 256) + 256 * cN n (X / 256) := by
  have e : X = X % 256 + 256 * (X / 256) := by omega
  have h0 : X / 256 < 256 ^ n := by rw [Nat.pow_succ] at h; omega
  have := cN_s (n := n) (u := X % 256) (r := X / 256) (by omega) h0
  rw [← e] at this
  exact this
theorem cN_8 {X : Nat} (h : X < 2 ^ 64) : ((cN 8 X + cN 8 X / 2 ^ 8 + (cN 8 X + cN 8 X / 2 ^ 8) / 2 ^ 16 + (cN 8 X + cN 8 X / 2 ^ 8 + (cN 8 X + cN 8 X / 2 ^ 8) / 2 ^ 16) / 2 ^ 32) % 128 = smb 8 X) ∧ cN 8 X < 2 ^ 61 ∧ smb 8 X ≤ 64 := by
  rw [cN_d (by omega), cN_d (by omega), cN_d (by omega), cN_d (by omega), cN_d (by omega), cN_d (by omega), cN_d (by omega), cN_d (by omega)]
  simp only [smb]
  have h1 := c8_le X
  have h2 := c8_le (X / 256)
  have h3 := c8_le (X / 256 / 256)
  have h4 := c8_le (X / 256 / 256 / 256)
  have h5 := c8_le (X / 256 / 256 / 256 / 256)
  have h6 := c8_le (X / 256 / 256 / 256 / 256 / 256)
  have h7 := c8_le (X / 256 / 256 / 256 / 256 / 256 / 256)
  have h8 := c8_le (X / 256 / 256 / 256 / 256 / 256 / 256 / 256)
  have h9 : cN 0 (X / 256 / 256 / 256 / 256 / 256 / 256 / 256 / 256) = 0 := by unfold cN; exact Nat.and_zero _
  rw [h9]
  generalize c8 (X % 256) = v1 at *
  generalize c8 (X / 256 % 256) = v2 at *
  generalize c8 (X / 256 / 256 % 256) = v3 at *
  generalize c8 (X / 256 / 256 / 256 % 256) = v4 at *
  generalize c8 (X / 256 / 256 / 256 / 256 % 256) = v5 at *
  generalize c8 (X / 256 / 256 / 256 / 256 / 256 % 256) = v6 at *
  generalize c8 (X / 256 / 256 / 256 / 256 / 256 / 256 % 256) = v7 at *
  generalize c8 (X / 256 / 256 / 256 / 256 / 256 / 256 / 256 % 256) = v8 at *
  clear h h9
  refine ⟨?_, by omega, by omega⟩
  have g1 : (v1 + 256 * (v2 + 256 * (v3 + 256 * (v4 + 256 * (v5 + 256 * (v6 + 256 * (v7 + 256 * (v8 + 256 * 0)))))))) / 2 ^ 8 = v2 + 256 * (v3 + 256 * (v4 + 256 * (v5 + 256 * (v6 + 256 * (v7 + 256 * v8))))) := by omega
  rw [g1]
  have g2 : (v1 + 256 * (v2 + 256 * (v3 + 256 * (v4 + 256 * (v5 + 256 * (v6 + 256 * (v7 + 256 * (v8 + 256 * 0))))))) + (v2 + 256 * (v3 + 256 * (v4 + 256 * (v5 + 256 * (v6 + 256 * (v7 + 256 * v8))))))) / 2 ^ 16 = (v3 + v4) + 256 * (v4 + v5) + 65536 * ((v5 + v6) + 256 * (v6 + v7) + 65536 * ((v7 + v8) + 256 * v8)) := by omega
  rw [g2]
  have g3 : (v1 + 256 * (v2 + 256 * (v3 + 256 * (v4 + 256 * (v5 + 256 * (v6 + 256 * (v7 + 256 * (v8 + 256 * 0))))))) + (v2 + 256 * (v3 + 256 * (v4 + 256 * (v5 + 256 * (v6 + 256 * (v7 + 256 * v8)))))) + ((v3 + v4) + 256 * (v4 + v5) + 65536 * ((v5 + v6) + 256 * (v6 + v7) + 65536 * ((v7 + v8) + 256 * v8)))) = ((v1 + v2 + v3 + v4) + 256 * (v2 + v3 + v4 + v5) + 65536 * (v3 + v4 + v5 + v6) + 16777216 * (v4 + v5 + v6 + v7)) + 4294967296 * ((v5 + v6 + v7 + v8) + 256 * (v6 + v7 + v8) + 65536 * (v7 + v8) + 16777216 * v8) := by omega
  rw [g3, show (2 : Nat) ^ 32 = 4294967296 from rfl, Nat.add_mul_div_left _ _ (by decide), Nat.div_eq_of_lt (by omega), Nat.zero_add]
  have g4 : ((v1 + v2 + v3 + v4) + 256 * (v2 + v3 + v4 + v5) + 65536 * (v3 + v4 + v5 + v6) + 16777216 * (v4 + v5 + v6 + v7)) + 4294967296 * ((v5 + v6 + v7 + v8) + 256 * (v6 + v7 + v8) + 65536 * (v7 + v8) + 16777216 * v8) + ((v5 + v6 + v7 + v8) + 256 * (v6 + v7 + v8) + 65536 * (v7 + v8) + 16777216 * v8) = (v1 + (v2 + (v3 + (v4 + (v5 + (v6 + (v7 + (v8 + 0)))))))) + 128 * (2 * (v2 + v3 + v4 + v5) + 512 * (v3 + v4 + v5 + v6) + 131072 * (v4 + v5 + v6 + v7) + 33554432 * ((v5 + v6 + v7 + v8) + 256 * (v6 + v7 + v8) + 65536 * (v7 + v8) + 16777216 * v8) + 2 * (v6 + v7 + v8) + 512 * (v7 + v8) + 131072 * v8) := by omega
  rw [g4, Nat.add_mul_mod_self_left, Nat.mod_eq_of_lt (by omega)]
def bcf (x : Int64) : Int32 :=
  let a := x - (ush x 1 &&& 6148914691236517205)
  let b := (a &&& 3689348814741910323) + (ush a 2 &&& 3689348814741910323)
  let c := (b + ush b 4) &&& 1085102592571150095
  let e := c + ush c 8
  let f := e + ush e 16
  let g := f + ush f 32
  g.toInt32 &&& nI 127
theorem mk_le (c : Nat) (hc : c < 256) : ∀ n, mkb c n < 256 ^ n := by
  intro n
  induction n with
  | zero => exact Nat.one_pos
  | succ n ih => rw [mkb, Nat.pow_succ]; omega
theorem and127 {x : Int64} : (x.toInt32 &&& nI 127).toBitVec.toNat = i6N x % 128 := by
  rw [Int32.toBitVec_and, BitVec.toNat_and]
  have e1 : x.toInt32.toBitVec.toNat = i6N x % 2 ^ 32 := by
    rw [Int64.toBitVec_toInt32, BitVec.signExtend_eq_setWidth_of_le _ (by decide), BitVec.toNat_setWidth]; rfl
  have e2 : (nI 127).toBitVec.toNat = 2 ^ 7 - 1 := by decide
  rw [e1, e2, Nat.and_two_pow_sub_one_eq_mod]
  omega
theorem bcf_eq (x : Int64) : bcf x = nI (smb 8 (i6N x)) := by
  have hx := i6_lt x
  obtain ⟨k1, k2, k3⟩ := cN_8 hx
  have m5 : i6N 6148914691236517205 = mkb 85 8 := by decide
  have m3 : i6N 3689348814741910323 = mkb 51 8 := by decide
  have mf : i6N 1085102592571150095 = mkb 15 8 := by decide
  have ha : i6N (x - (ush x 1 &&& 6148914691236517205)) = aN 8 (i6N x) := by
    rw [sub_N, and_N, ush_N x (by decide), m5]; rfl
    rw [and_N, ush_N x (by decide)]
    exact Nat.le_trans Nat.and_le_left (Nat.div_le_self _ _)
  have l3 : mkb 51 8 < 2 ^ 62 := by decide
  have hb : ∀ a : Int64, i6N ((a &&& 3689348814741910323) + (ush a 2 &&& 3689348814741910323)) = (i6N a &&& mkb 51 8) + (i6N a / 4 &&& mkb 51 8) ∧ i6N ((a &&& 3689348814741910323) + (ush a 2 &&& 3689348814741910323)) < 2 ^ 63 := by
    intro a
    have q1 : (i6N a &&& mkb 51 8) ≤ mkb 51 8 := Nat.and_le_right
    have q2 : (i6N a / 2 ^ 2 &&& mkb 51 8) ≤ mkb 51 8 := Nat.and_le_right
    rw [add_N, and_N, and_N, ush_N a (by decide), m3, Nat.mod_eq_of_lt (by omega)]
    exact ⟨rfl, by omega⟩
  have hc : ∀ b : Int64, i6N b < 2 ^ 63 → i6N ((b + ush b 4) &&& 1085102592571150095) = (i6N b + i6N b / 16) &&& mkb 15 8 := by
    intro b hb
    rw [and_N, add_N, ush_N b (by decide), mf, Nat.mod_eq_of_lt (by omega)]
  have hc2 : i6N (((((x - (ush x 1 &&& 6148914691236517205)) &&& 3689348814741910323) + (ush (x - (ush x 1 &&& 6148914691236517205)) 2 &&& 3689348814741910323)) + ush (((x - (ush x 1 &&& 6148914691236517205)) &&& 3689348814741910323) + (ush (x - (ush x 1 &&& 6148914691236517205)) 2 &&& 3689348814741910323)) 4) &&& 1085102592571150095) = cN 8 (i6N x) := by
    rw [hc _ (hb _).2, (hb _).1, ha]; rfl
  have he : ∀ c : Int64, i6N c < 2 ^ 61 → i6N (c + ush c 8) = i6N c + i6N c / 2 ^ 8 ∧ i6N (c + ush c 8) < 2 ^ 62 := by
    intro c h
    rw [add_N, ush_N c (by decide), Nat.mod_eq_of_lt (by omega)]
    exact ⟨rfl, by omega⟩
  have hf : ∀ c : Int64, i6N c < 2 ^ 62 → i6N (c + ush c 16) = i6N c + i6N c / 2 ^ 16 ∧ i6N (c + ush c 16) < 2 ^ 63 := by
    intro c h
    rw [add_N, ush_N c (by decide), Nat.mod_eq_of_lt (by omega)]
    exact ⟨rfl, by omega⟩
  have hg : ∀ c : Int64, i6N c < 2 ^ 63 → i6N (c + ush c 32) = i6N c + i6N c / 2 ^ 32 := by
    intro c h
    rw [add_N, ush_N c (by decide), Nat.mod_eq_of_lt (by omega)]
  apply Int32.toBitVec_inj.mp
  apply BitVec.eq_of_toNat_eq
  unfold bcf
  rw [and127]
  have hd := hc2
  have k2' := k2
  rw [← hd] at k2'
  have e1 := he _ k2'
  have f1 := hf _ e1.2
  have g1 := hg _ f1.2
  rw [g1, f1.1, e1.1, hd, k1]
  show smb 8 (i6N x) = (BitVec.ofNat 32 (smb 8 (i6N x))).toNat
  rw [BitVec.toNat_ofNat, Nat.mod_eq_of_lt (by omega)]
theorem msk_N : ∀ r, r < 64 → i6N (msk r) = 2 ^ r ∧ fsr (msk r) = r ∧ bcf (msk r) = nI 1 := by decide +kernel
theorem fsr_lt (S : Int64) : fsr S < 64 := by
  unfold fsr
  cases e : fdF (mem S) 64 0 with
  | none => exact (by decide : (0 : Nat) < 64)
  | some x =>
    have := ((fdF_some _ _ _ _).mp e).2.1
    simpa using this
theorem bcf_one (S : Int64) : (bcf S = nI 1) = (S = msk (fsr S)) := by
  apply propext
  constructor
  · intro h
    rw [bcf_eq] at h
    have h2 : smb 8 (i6N S) = 1 := by
      have h3 := (cN_8 (i6_lt S)).2.2
      have h4 := congrArg (fun z : Int32 => z.toBitVec.toNat) h
      have h5 : (BitVec.ofNat 32 (smb 8 (i6N S))).toNat = 1 := h4
      rw [BitVec.toNat_ofNat, Nat.mod_eq_of_lt (by omega)] at h5
      exact h5
    obtain ⟨r, r1, r2⟩ := smb_1 8 _ (i6_lt S) h2
    have h6 := msk_N r (by omega)
    have h7 : S = msk r := i6_inj (by rw [h6.1, r2])
    have h8 : fsr S = r := by rw [h7]; exact h6.2.1
    rw [h8]
    exact h7
  · intro h
    have := (msk_N (fsr S) (fsr_lt S)).2.2
    rw [← h] at this
    exact this
def ntf (x : Int32) : Int32 :=
  if nI 0 < x then
    let q := if x ≤ nI 65536 then (nI 1, x) else (nI 1 + nI 16, ((x.toUInt32 >>> ((nI 16).toUInt32 &&& Int32.toUInt32 31)).toInt32))
    let q2 := if q.2 ≤ nI 256 then q else (q.1 + nI 8, ((q.2.toUInt32 >>> ((nI 8).toUInt32 &&& Int32.toUInt32 31)).toInt32))
    let q3 := if q2.2 ≤ nI 16 then q2 else (q2.1 + nI 4, ((q2.2.toUInt32 >>> ((nI 4).toUInt32 &&& Int32.toUInt32 31)).toInt32))
    let q4 := if q3.2 ≤ nI 4 then q3 else (q3.1 + nI 2, ((q3.2.toUInt32 >>> ((nI 2).toUInt32 &&& Int32.toUInt32 31)).toInt32))
    q4.1 + (q4.2.toUInt32 >>> ((nI 1).toUInt32 &&& Int32.toUInt32 31)).toInt32
  else x &&& nI 32
theorem ntf_t : ∀ t, t < 32 → ntf (nI (2 ^ t - 1)) = nI t := by decide +kernel
theorem low_bit {X t : Nat} (h1 : ∀ j, j < t → X.testBit j = false) (h2 : X.testBit t = true) : ∃ m, X = 2 ^ (t + 1) * m + 2 ^ t := by
  have e1 : X % 2 ^ t = 0 := by
    apply Nat.eq_of_testBit_eq
    intro j
    rw [Nat.testBit_mod_two_pow, Nat.zero_testBit]
    by_cases c : j < t
    · rw [h1 j c, Bool.and_false]
    · rw [decide_eq_false c, Bool.false_and]
  have e2 : X / 2 ^ t % 2 = 1 := by
    rw [Nat.testBit_eq_decide_div_mod_eq] at h2
    exact of_decide_eq_true h2
  refine ⟨X / 2 ^ t / 2, ?_⟩
  have e3 : X = 2 ^ t * (X / 2 ^ t) := by have := Nat.div_add_mod X (2 ^ t); omega
  have e4 : X / 2 ^ t = 2 * (X / 2 ^ t / 2) + 1 := by omega
  rw [Nat.pow_succ, Nat.mul_assoc]
  calc X = 2 ^ t * (X / 2 ^ t) := e3
    _ = 2 ^ t * (2 * (X / 2 ^ t / 2) + 1) := by rw [← e4]
    _ = _ := by rw [Nat.mul_add, Nat.mul_one]
theorem low_and {X t m : Nat} (hX : X < 2 ^ 32) (ht : t < 32) (h : X = 2 ^ (t + 1) * m + 2 ^ t) : (2 ^ 32 - (X + 1)) &&& (X - 1) = 2 ^ t - 1 := by
  have hp : 0 < 2 ^ t := Nat.two_pow_pos t
  have e0 : X - 1 = 2 ^ (t + 1) * m + (2 ^ t - 1) := by omega
  have hlt : 2 ^ t < 2 ^ (t + 1) := by rw [Nat.pow_succ]; omega
  apply Nat.eq_of_testBit_eq
  intro j
  rw [Nat.testBit_and, Nat.testBit_two_pow_sub_succ hX, e0, h, Nat.testBit_two_pow_mul_add _ hlt, Nat.testBit_two_pow_mul_add _ (by omega : 2 ^ t - 1 < 2 ^ (t + 1)), Nat.testBit_two_pow_sub_one]
  by_cases c : j < t + 1
  · rw [if_pos c, if_pos c, decide_eq_true (by omega), Nat.testBit_two_pow]
    by_cases c2 : j < t
    · rw [decide_eq_true c2, decide_eq_false (by omega)]; rfl
    · rw [decide_eq_false c2, Bool.and_false]
  · rw [if_neg c, if_neg c, decide_eq_false (by omega : ¬ j < t)]
    cases m.testBit (j - (t + 1)) <;> simp
theorem low_32 {i : Int32} {t : Nat} (ht : t < 32) (h1 : ∀ j, j < t → i.toBitVec.toNat.testBit j = false) (h2 : i.toBitVec.toNat.testBit t = true) : (i ^^^ (-1)) &&& (i - nI 1) = nI (2 ^ t - 1) := by
  obtain ⟨m, hm⟩ := low_bit h1 h2
  have hi := i.toBitVec.isLt
  have hp : 0 < 2 ^ t := Nat.two_pow_pos t
  have hlt : 2 ^ t ≤ 2 ^ 31 := Nat.pow_le_pow_right (by decide) (by omega)
  apply Int32.toBitVec_inj.mp
  apply BitVec.eq_of_toNat_eq
  rw [Int32.toBitVec_and, BitVec.toNat_and, Int32.toBitVec_xor, Int32.toBitVec_sub]
  have e1 : (i.toBitVec ^^^ (-1 : Int32).toBitVec) = ~~~ i.toBitVec := by
    rw [show (-1 : Int32).toBitVec = BitVec.allOnes 32 by decide, BitVec.xor_allOnes]
  have e2 : (i.toBitVec - (nI 1).toBitVec).toNat = i.toBitVec.toNat - 1 := by
    rw [BitVec.toNat_sub]
    have : (nI 1).toBitVec.toNat = 1 := by decide
    rw [this]
    omega
  rw [e1, e2, BitVec.toNat_not, show 2 ^ 32 - 1 - i.toBitVec.toNat = 2 ^ 32 - (i.toBitVec.toNat + 1) by omega, low_and hi ht hm]
  show _ = (BitVec.ofNat 32 (2 ^ t - 1)).toNat
  rw [BitVec.toNat_ofNat, Nat.mod_eq_of_lt (by omega)]
theorem lo_bit (S : Int64) (j : Nat) : S.toInt32.toBitVec.toNat.testBit j = (decide (j < 32) && (i6N S).testBit j) := by
  rw [Int64.toBitVec_toInt32, BitVec.signExtend_eq_setWidth_of_le _ (by decide), BitVec.toNat_setWidth, Nat.testBit_mod_two_pow]
  rfl
theorem mem_tb {S : Int64} {j : Nat} (h : j < 64) : (i6N S).testBit j = mem S j := by
  rw [mem_bit h]; rfl
def ntz (S : Int64) : Int32 := if S.toInt32 = nI 0 then nI 32 + ntf (((ush S 32).toInt32 ^^^ (-1)) &&& ((ush S 32).toInt32 - nI 1)) else ntf ((S.toInt32 ^^^ (-1)) &&& (S.toInt32 - nI 1))
theorem ntz_fsr {S : Int64} (h : S ≠ 0) : ntz S = nI (fsr S) := by
  obtain ⟨r, r1, r2⟩ := nz_of h
  obtain ⟨g1, g2, g3⟩ := fsr_of r2 r1
  unfold ntz
  by_cases c : fsr S < 32
  · have b2 : S.toInt32.toBitVec.toNat.testBit (fsr S) = true := by rw [lo_bit, decide_eq_true c, mem_tb g2, g1]; rfl
    have b1 : ∀ j, j < fsr S → S.toInt32.toBitVec.toNat.testBit j = false := fun j hj => by rw [lo_bit, mem_tb (by omega), g3 j hj, Bool.and_false]
    have hn : S.toInt32 ≠ nI 0 := by
      intro z
      rw [z] at b2
      have : (nI 0).toBitVec.toNat = 0 := by decide
      rw [this, Nat.zero_testBit] at b2
      cases b2
    rw [if_neg hn, low_32 c b1 b2, ntf_t _ c]
  · have hz : S.toInt32 = nI 0 := by
      apply Int32.toBitVec_inj.mp
      apply BitVec.eq_of_toNat_eq
      have : (nI 0).toBitVec.toNat = 0 := by decide
      rw [this]
      apply Nat.eq_of_testBit_eq
      intro j
      rw [lo_bit, Nat.zero_testBit]
      by_cases c2 : j < 32
      · rw [mem_tb (by omega), g3 j (by omega), Bool.and_false]
      · rw [decide_eq_false c2, Bool.false_and]
    have hs : ∀ j, j < 32 → (ush S 32).toInt32.toBitVec.toNat.testBit j = mem S (j + 32) := by
      intro j hj
      rw [lo_bit, decide_eq_true hj, Bool.true_and, ush_N S (by decide), Nat.testBit_div_two_pow, mem_tb (by omega)]
    have h4 := low_32 (i := (ush S 32).toInt32) (t := fsr S - 32) (by omega) (fun j hj => by rw [hs j (by omega), g3 _ (by omega)]) (by rw [hs _ (by omega), show fsr S - 32 + 32 = fsr S by omega, g1])
    rw [if_pos hz, h4, ntf_t _ (by omega)]
    have : ∀ k, k < 32 → nI 32 + nI k = nI (k + 32) := by decide +kernel
    rw [this _ (by omega), show fsr S - 32 + 32 = fsr S by omega]
section BIT
variable {d : Nat} {Q : Option Value → ah_H → Prop} {h : ah_H}
theorem m_J13_bitCount {S : Int64} : ae_wm d mJ13_bitCount_95d88 [.long S] h Q = Q (some (.int (bcf S))) h := by
  simp (disch := first | exact ae_isR_ref _ | exact ae_isR_null | exact ae_isR_rf _ | exact ae_cat_ref _ | exact ae_cat_int _ | exact ae_cat_null | exact ae_cat_rf _ | exact ae_nz0 | exact ae_nz1 | exact ae_fz0 | exact ae_fz1 | exact cI_na (by omega) | exact cI_ix (by omega) | exact cI_nn (by omega) | exact cI_nz (by omega) | exact cI_cp (by omega) | assumption | omega) only [s_J13_bitCount_95d88_0, s_J13_bitCount_95d88_1, s_J13_bitCount_95d88_2, s_J13_bitCount_95d88_3, s_J13_bitCount_95d88_4, s_J13_bitCount_95d88_7, s_J13_bitCount_95d88_8, s_J13_bitCount_95d88_9, s_J13_bitCount_95d88_10, s_J13_bitCount_95d88_11, s_J13_bitCount_95d88_14, s_J13_bitCount_95d88_15, s_J13_bitCount_95d88_16, s_J13_bitCount_95d88_17, s_J13_bitCount_95d88_18, s_J13_bitCount_95d88_21, s_J13_bitCount_95d88_22, s_J13_bitCount_95d88_23, s_J13_bitCount_95d88_24, s_J13_bitCount_95d88_25, s_J13_bitCount_95d88_26, s_J13_bitCount_95d88_27, s_J13_bitCount_95d88_28, s_J13_bitCount_95d88_29, s_J13_bitCount_95d88_32, s_J13_bitCount_95d88_33, s_J13_bitCount_95d88_34, s_J13_bitCount_95d88_35, s_J13_bitCount_95d88_36, s_J13_bitCount_95d88_38, s_J13_bitCount_95d88_39, s_J13_bitCount_95d88_40, s_J13_bitCount_95d88_41, s_J13_bitCount_95d88_42, s_J13_bitCount_95d88_43, s_J13_bitCount_95d88_45, s_J13_bitCount_95d88_46, s_J13_bitCount_95d88_47, s_J13_bitCount_95d88_48, s_J13_bitCount_95d88_49, s_J13_bitCount_95d88_50, s_J13_bitCount_95d88_52, s_J13_bitCount_95d88_53, s_J13_bitCount_95d88_54, s_J13_bitCount_95d88_55, s_J13_bitCount_95d88_56, s_J13_bitCount_95d88_57, s_J13_bitCount_95d88_59, s_J13_bitCount_95d88_60, e_J13_bitCount_95d88, bcf, ush]
theorem m_ntz1 {x n : Int32} : ae_wp d mJ6_numberOfTrailingZeros_0f7a4 19 [some (.int x), some (.int n)] [] h Q = ae_wp d mJ6_numberOfTrailingZeros_0f7a4 34 [some (.int (if x ≤ nI 65536 then (n, x) else (n + nI 16, ((x.toUInt32 >>> ((nI 16).toUInt32 &&& Int32.toUInt32 31)).toInt32))).2), some (.int (if x ≤ nI 65536 then (n, x) else (n + nI 16, ((x.toUInt32 >>> ((nI 16).toUInt32 &&& Int32.toUInt32 31)).toInt32))).1)] [] h Q := by
  by_cases c : x ≤ nI 65536
  · simp only [s_J6_numberOfTrailingZeros_0f7a4_19, s_J6_numberOfTrailingZeros_0f7a4_20, s_J6_numberOfTrailingZeros_0f7a4_23, s_J6_numberOfTrailingZeros_0f7a4_26, s_J6_numberOfTrailingZeros_0f7a4_29, s_J6_numberOfTrailingZeros_0f7a4_30, s_J6_numberOfTrailingZeros_0f7a4_32, s_J6_numberOfTrailingZeros_0f7a4_33, if_pos c]
  · simp only [s_J6_numberOfTrailingZeros_0f7a4_19, s_J6_numberOfTrailingZeros_0f7a4_20, s_J6_numberOfTrailingZeros_0f7a4_23, s_J6_numberOfTrailingZeros_0f7a4_26, s_J6_numberOfTrailingZeros_0f7a4_29, s_J6_numberOfTrailingZeros_0f7a4_30, s_J6_numberOfTrailingZeros_0f7a4_32, s_J6_numberOfTrailingZeros_0f7a4_33, if_neg c]
theorem m_ntz2 {x n : Int32} : ae_wp d mJ6_numberOfTrailingZeros_0f7a4 34 [some (.int x), some (.int n)] [] h Q = ae_wp d mJ6_numberOfTrailingZeros_0f7a4 49 [some (.int (if x ≤ nI 256 then (n, x) else (n + nI 8, ((x.toUInt32 >>> ((nI 8).toUInt32 &&& Int32.toUInt32 31)).toInt32))).2), some (.int (if x ≤ nI 256 then (n, x) else (n + nI 8, ((x.toUInt32 >>> ((nI 8).toUInt32 &&& Int32.toUInt32 31)).toInt32))).1)] [] h Q := by
  by_cases c : x ≤ nI 256
  · simp only [s_J6_numberOfTrailingZeros_0f7a4_34, s_J6_numberOfTrailingZeros_0f7a4_35, s_J6_numberOfTrailingZeros_0f7a4_38, s_J6_numberOfTrailingZeros_0f7a4_41, s_J6_numberOfTrailingZeros_0f7a4_44, s_J6_numberOfTrailingZeros_0f7a4_45, s_J6_numberOfTrailingZeros_0f7a4_47, s_J6_numberOfTrailingZeros_0f7a4_48, if_pos c]
  · simp only [s_J6_numberOfTrailingZeros_0f7a4_34, s_J6_numberOfTrailingZeros_0f7a4_35, s_J6_numberOfTrailingZeros_0f7a4_38, s_J6_numberOfTrailingZeros_0f7a4_41, s_J6_numberOfTrailingZeros_0f7a4_44, s_J6_numberOfTrailingZeros_0f7a4_45, s_J6_numberOfTrailingZeros_0f7a4_47, s_J6_numberOfTrailingZeros_0f7a4_48, if_neg c]
theorem m_ntz3 {x n : Int32} : ae_wp d mJ6_numberOfTrailingZeros_0f7a4 49 [some (.int x), some (.int n)] [] h Q = ae_wp d mJ6_numberOfTrailingZeros_0f7a4 62 [some (.int (if x ≤ nI 16 then (n, x) else (n + nI 4, ((x.toUInt32 >>> ((nI 4).toUInt32 &&& Int32.toUInt32 31)).toInt32))).2), some (.int (if x ≤ nI 16 then (n, x) else (n + nI 4, ((x.toUInt32 >>> ((nI 4).toUInt32 &&& Int32.toUInt32 31)).toInt32))).1)] [] h Q := by
  by_cases c : x ≤ nI 16
  · simp only [s_J6_numberOfTrailingZeros_0f7a4_49, s_J6_numberOfTrailingZeros_0f7a4_50, s_J6_numberOfTrailingZeros_0f7a4_52, s_J6_numberOfTrailingZeros_0f7a4_55, s_J6_numberOfTrailingZeros_0f7a4_58, s_J6_numberOfTrailingZeros_0f7a4_59, s_J6_numberOfTrailingZeros_0f7a4_60, s_J6_numberOfTrailingZeros_0f7a4_61, if_pos c]
  · simp only [s_J6_numberOfTrailingZeros_0f7a4_49, s_J6_numberOfTrailingZeros_0f7a4_50, s_J6_numberOfTrailingZeros_0f7a4_52, s_J6_numberOfTrailingZeros_0f7a4_55, s_J6_numberOfTrailingZeros_0f7a4_58, s_J6_numberOfTrailingZeros_0f7a4_59, s_J6_numberOfTrailingZeros_0f7a4_60, s_J6_numberOfTrailingZeros_0f7a4_61, if_neg c]
theorem m_ntz4 {x n : Int32} : ae_wp d mJ6_numberOfTrailingZeros_0f7a4 62 [some (.int x), some (.int n)] [] h Q = ae_wp d mJ6_numberOfTrailingZeros_0f7a4 74 [some (.int (if x ≤ nI 4 then (n, x) else (n + nI 2, ((x.toUInt32 >>> ((nI 2).toUInt32 &&& Int32.toUInt32 31)).toInt32))).2), some (.int (if x ≤ nI 4 then (n, x) else (n + nI 2, ((x.toUInt32 >>> ((nI 2).toUInt32 &&& Int32.toUInt32 31)).toInt32))).1)] [] h Q := by
  by_cases c : x ≤ nI 4
  · simp only [s_J6_numberOfTrailingZeros_0f7a4_62, s_J6_numberOfTrailingZeros_0f7a4_63, s_J6_numberOfTrailingZeros_0f7a4_64, s_J6_numberOfTrailingZeros_0f7a4_67, s_J6_numberOfTrailingZeros_0f7a4_70, s_J6_numberOfTrailingZeros_0f7a4_71, s_J6_numberOfTrailingZeros_0f7a4_72, s_J6_numberOfTrailingZeros_0f7a4_73, if_pos c]
  · simp only [s_J6_numberOfTrailingZeros_0f7a4_62, s_J6_numberOfTrailingZeros_0f7a4_63, s_J6_numberOfTrailingZeros_0f7a4_64, s_J6_numberOfTrailingZeros_0f7a4_67, s_J6_numberOfTrailingZeros_0f7a4_70, s_J6_numberOfTrailingZeros_0f7a4_71, s_J6_numberOfTrailingZeros_0f7a4_72, s_J6_numberOfTrailingZeros_0f7a4_73, if_neg c]
theorem m_ntz5 {x n : Int32} : ae_wp d mJ6_numberOfTrailingZeros_0f7a4 74 [some (.int x), some (.int n)] [] h Q = Q (some (.int (n + (x.toUInt32 >>> ((nI 1).toUInt32 &&& Int32.toUInt32 31)).toInt32))) h := by
  simp only [s_J6_numberOfTrailingZeros_0f7a4_74, s_J6_numberOfTrailingZeros_0f7a4_75, s_J6_numberOfTrailingZeros_0f7a4_76, s_J6_numberOfTrailingZeros_0f7a4_77, s_J6_numberOfTrailingZeros_0f7a4_78, s_J6_numberOfTrailingZeros_0f7a4_79]
theorem m_J6_ntz {i : Int32} : ae_wm d mJ6_numberOfTrailingZeros_0f7a4 [.int i] h Q = Q (some (.int (ntf ((i ^^^ (-1)) &&& (i - nI 1))))) h := by
  unfold ntf
  by_cases c : nI 0 < (i ^^^ (-1)) &&& (i - nI 1)
  · rw [if_pos c]
    have e : ae_wm d mJ6_numberOfTrailingZeros_0f7a4 [.int i] h Q = ae_wp d mJ6_numberOfTrailingZeros_0f7a4 19 [some (.int ((i ^^^ (-1)) &&& (i - nI 1))), some (.int (nI 1))] [] h Q := by
      simp (disch := first | exact ae_isR_ref _ | exact ae_isR_null | exact ae_isR_rf _ | exact ae_cat_ref _ | exact ae_cat_int _ | exact ae_cat_null | exact ae_cat_rf _ | exact ae_nz0 | exact ae_nz1 | exact ae_fz0 | exact ae_fz1 | exact cI_na (by omega) | exact cI_ix (by omega) | exact cI_nn (by omega) | exact cI_nz (by omega) | exact cI_cp (by omega) | assumption | omega) only [s_J6_numberOfTrailingZeros_0f7a4_0, s_J6_numberOfTrailingZeros_0f7a4_1, s_J6_numberOfTrailingZeros_0f7a4_2, s_J6_numberOfTrailingZeros_0f7a4_3, s_J6_numberOfTrailingZeros_0f7a4_4, s_J6_numberOfTrailingZeros_0f7a4_5, s_J6_numberOfTrailingZeros_0f7a4_6, s_J6_numberOfTrailingZeros_0f7a4_7, s_J6_numberOfTrailingZeros_0f7a4_8, s_J6_numberOfTrailingZeros_0f7a4_9, s_J6_numberOfTrailingZeros_0f7a4_12, s_J6_numberOfTrailingZeros_0f7a4_13, s_J6_numberOfTrailingZeros_0f7a4_15, s_J6_numberOfTrailingZeros_0f7a4_16, s_J6_numberOfTrailingZeros_0f7a4_17, s_J6_numberOfTrailingZeros_0f7a4_18, e_J6_numberOfTrailingZeros_0f7a4, if_pos c]
    rw [e, m_ntz1, m_ntz2, m_ntz3, m_ntz4, m_ntz5]
  · rw [if_neg c]
    simp (disch := first | exact ae_isR_ref _ | exact ae_isR_null | exact ae_isR_rf _ | exact ae_cat_ref _ | exact ae_cat_int _ | exact ae_cat_null | exact ae_cat_rf _ | exact ae_nz0 | exact ae_nz1 | exact ae_fz0 | exact ae_fz1 | exact cI_na (by omega) | exact cI_ix (by omega) | exact cI_nn (by omega) | exact cI_nz (by omega) | exact cI_cp (by omega) | assumption | omega) only [s_J6_numberOfTrailingZeros_0f7a4_0, s_J6_numberOfTrailingZeros_0f7a4_1, s_J6_numberOfTrailingZeros_0f7a4_2, s_J6_numberOfTrailingZeros_0f7a4_3, s_J6_numberOfTrailingZeros_0f7a4_4, s_J6_numberOfTrailingZeros_0f7a4_5, s_J6_numberOfTrailingZeros_0f7a4_6, s_J6_numberOfTrailingZeros_0f7a4_7, s_J6_numberOfTrailingZeros_0f7a4_8, s_J6_numberOfTrailingZeros_0f7a4_9, s_J6_numberOfTrailingZeros_0f7a4_12, s_J6_numberOfTrailingZeros_0f7a4_13, s_J6_numberOfTrailingZeros_0f7a4_15, s_J6_numberOfTrailingZeros_0f7a4_16, e_J6_numberOfTrailingZeros_0f7a4, if_neg c]
theorem m_J13_ntz {S : Int64} : ae_wm (d + 1) mJ13_numberOfTrailingZeros_95d88 [.long S] h Q = Q (some (.int (ntz S))) h := by
  unfold ntz ush
  by_cases c : S.toInt32 = nI 0
  · rw [if_pos c]
    simp (disch := first | exact ae_isR_ref _ | exact ae_isR_null | exact ae_isR_rf _ | exact ae_cat_ref _ | exact ae_cat_int _ | exact ae_cat_null | exact ae_cat_rf _ | exact ae_nz0 | exact ae_nz1 | exact ae_fz0 | exact ae_fz1 | exact cI_na (by omega) | exact cI_ix (by omega) | exact cI_nn (by omega) | exact cI_nz (by omega) | exact cI_cp (by omega) | assumption | omega) only [s_J13_numberOfTrailingZeros_95d88_0, s_J13_numberOfTrailingZeros_95d88_1, s_J13_numberOfTrailingZeros_95d88_2, s_J13_numberOfTrailingZeros_95d88_3, s_J13_numberOfTrailingZeros_95d88_4, s_J13_numberOfTrailingZeros_95d88_7, s_J13_numberOfTrailingZeros_95d88_9, s_J13_numberOfTrailingZeros_95d88_10, s_J13_numberOfTrailingZeros_95d88_12, s_J13_numberOfTrailingZeros_95d88_13, s_J13_numberOfTrailingZeros_95d88_14, s_J13_numberOfTrailingZeros_95d88_17, s_J13_numberOfTrailingZeros_95d88_18, s_J13_numberOfTrailingZeros_95d88_21, s_J13_numberOfTrailingZeros_95d88_22, s_J13_numberOfTrailingZeros_95d88_25, e_J13_numberOfTrailingZeros_95d88, if_pos c, m_J6_ntz, Option.toList, List.cons_append, List.nil_append]
    rw [if_neg (fun z => z c)]
  · rw [if_neg c]
    simp (disch := first | exact ae_isR_ref _ | exact ae_isR_null | exact ae_isR_rf _ | exact ae_cat_ref _ | exact ae_cat_int _ | exact ae_cat_null | exact ae_cat_rf _ | exact ae_nz0 | exact ae_nz1 | exact ae_fz0 | exact ae_fz1 | exact cI_na (by omega) | exact cI_ix (by omega) | exact cI_nn (by omega) | exact cI_nz (by omega) | exact cI_cp (by omega) | assumption | omega) only [s_J13_numberOfTrailingZeros_95d88_0, s_J13_numberOfTrailingZeros_95d88_1, s_J13_numberOfTrailingZeros_95d88_2, s_J13_numberOfTrailingZeros_95d88_3, s_J13_numberOfTrailingZeros_95d88_4, s_J13_numberOfTrailingZeros_95d88_7, s_J13_numberOfTrailingZeros_95d88_9, s_J13_numberOfTrailingZeros_95d88_10, s_J13_numberOfTrailingZeros_95d88_12, s_J13_numberOfTrailingZeros_95d88_13, s_J13_numberOfTrailingZeros_95d88_14, s_J13_numberOfTrailingZeros_95d88_17, s_J13_numberOfTrailingZeros_95d88_18, s_J13_numberOfTrailingZeros_95d88_21, s_J13_numberOfTrailingZeros_95d88_22, s_J13_numberOfTrailingZeros_95d88_25, e_J13_numberOfTrailingZeros_95d88, if_neg c, m_J6_ntz, Option.toList, List.cons_append, List.nil_append]
    rw [if_pos c]
end BIT
