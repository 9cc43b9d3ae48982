/-! NarrowSolver$Solver (x + 15) at work: its own cells, boundTo (x + 20, x + 21), matched (x + 22), the draft (p, p + 1, p + 2) over a heap H. The state y: I 8..12 the solver's numbers, I 20..22 the draft's, I 30, 31 the sizes of boundTo and of the draft; R 0 boundTo, R 1 matched, R 2 the draft's numbers -/
def of6 (x c p : Nat) (y : rS) : List Value := [.ref (x + 1), .ref (x + 6), .ref (x + 16), .ref (x + 18), .ref (x + 20), .ref (x + 22), .ref c, .ref p, .int (y.1 8), .int (y.1 9), .int (y.1 10), .int (y.1 11), .int (y.1 12)]
def ov (H : ah_H) (x c p : Nat) (y : rS) : ah_H := (fun a => if a = x + 15 then some (.inr (6, of6 x c p y)) else if a = x + 20 then some (.inr (1, [.ref (x + 21), .int (y.1 30)])) else if a = x + 21 then some (.inl (0, 4, .inl (y.2.1 0))) else if a = x + 22 then some (.inl (0, 10, .inl (y.2.1 1))) else if a = p then some (.inr (2, [.ref (p + 1), .int (y.1 20), .int (y.1 21), .int (y.1 22)])) else if a = p + 1 then some (.inr (1, [.ref (p + 2), .int (y.1 31)])) else if a = p + 2 then some (.inl (0, 300, .inl (y.2.1 2))) else H.1 a, H.2)
section OV
variable {H : ah_H} {x c p : Nat} {y : rS} {K : Value → Prop} {KH : ah_H → Prop} {KA : Nat → vp_A → Prop} {v : Int32} {f g : Nat → Int32} {sz : Nat}
theorem ov_15 : (ov H x c p y).1 (x + 15) = some (.inr (6, of6 x c p y)) := by show (if _ then _ else _) = _; rw [if_pos rfl]
theorem ov_20 : (ov H x c p y).1 (x + 20) = some (.inr (1, [.ref (x + 21), .int (y.1 30)])) := by show (if _ then _ else _) = _; rw [if_neg (by omega), if_pos rfl]
theorem ov_21 : (ov H x c p y).1 (x + 21) = some (.inl (0, 4, .inl (y.2.1 0))) := by show (if _ then _ else _) = _; rw [if_neg (by omega), if_neg (by omega), if_pos rfl]
theorem ov_22 : (ov H x c p y).1 (x + 22) = some (.inl (0, 10, .inl (y.2.1 1))) := by show (if _ then _ else _) = _; rw [if_neg (by omega), if_neg (by omega), if_neg (by omega), if_pos rfl]
theorem ov_p (hp : x + 22 < p) : (ov H x c p y).1 p = some (.inr (2, [.ref (p + 1), .int (y.1 20), .int (y.1 21), .int (y.1 22)])) := by show (if _ then _ else _) = _; rw [if_neg (by omega), if_neg (by omega), if_neg (by omega), if_neg (by omega), if_pos rfl]
theorem ov_p1 (hp : x + 22 < p) : (ov H x c p y).1 (p + 1) = some (.inr (1, [.ref (p + 2), .int (y.1 31)])) := by show (if _ then _ else _) = _; rw [if_neg (by omega), if_neg (by omega), if_neg (by omega), if_neg (by omega), if_neg (by omega), if_pos rfl]
theorem ov_p2 (hp : x + 22 < p) : (ov H x c p y).1 (p + 2) = some (.inl (0, 300, .inl (y.2.1 2))) := by show (if _ then _ else _) = _; rw [if_neg (by omega), if_neg (by omega), if_neg (by omega), if_neg (by omega), if_neg (by omega), if_neg (by omega), if_pos rfl]
theorem ov_out {a : Nat} (h : a ≠ x + 15 ∧ a ≠ x + 20 ∧ a ≠ x + 21 ∧ a ≠ x + 22 ∧ a ≠ p ∧ a ≠ p + 1 ∧ a ≠ p + 2) : (ov H x c p y).1 a = H.1 a := by show (if _ then _ else _) = _; rw [if_neg h.1, if_neg h.2.1, if_neg h.2.2.1, if_neg h.2.2.2.1, if_neg h.2.2.2.2.1, if_neg h.2.2.2.2.2.1, if_neg h.2.2.2.2.2.2]
theorem ov_2 : (ov H x c p y).2 = H.2 := rfl
/-- a cell set: the others stay -/
theorem ov_ext {H2 : ah_H} {y2 : rS} {c2 a : Nat} {k : ah_C} (hp : x + 22 < p) (h1 : (ov H x c2 p y2).1 a = some k) (h2 : ∀ b, b ≠ a → (ov H x c2 p y2).1 b = (ov H x c p y).1 b) : ah_set (ov H x c p y) a k = ov H x c2 p y2 := by
  unfold ah_set
  show (_, H.2) = ((ov H x c2 p y2).1, H.2)
  congr 1
  funext b
  simp only [va_up]
  by_cases e : b = a
  · rw [if_pos e, e, h1]
  · rw [if_neg e, h2 b e]
theorem og_0 : ae_gw (ov H x c p y) (x + 15) 6 0 K = K (.ref (x + 1)) := by unfold ae_gw; rw [ov_15]; rfl
theorem og_1 : ae_gw (ov H x c p y) (x + 15) 6 1 K = K (.ref (x + 6)) := by unfold ae_gw; rw [ov_15]; rfl
theorem og_2 : ae_gw (ov H x c p y) (x + 15) 6 2 K = K (.ref (x + 16)) := by unfold ae_gw; rw [ov_15]; rfl
theorem og_3 : ae_gw (ov H x c p y) (x + 15) 6 3 K = K (.ref (x + 18)) := by unfold ae_gw; rw [ov_15]; rfl
theorem og_4 : ae_gw (ov H x c p y) (x + 15) 6 4 K = K (.ref (x + 20)) := by unfold ae_gw; rw [ov_15]; rfl
theorem og_5 : ae_gw (ov H x c p y) (x + 15) 6 5 K = K (.ref (x + 22)) := by unfold ae_gw; rw [ov_15]; rfl
theorem og_6 : ae_gw (ov H x c p y) (x + 15) 6 6 K = K (.ref c) := by unfold ae_gw; rw [ov_15]; rfl
theorem og_7 : ae_gw (ov H x c p y) (x + 15) 6 7 K = K (.ref p) := by unfold ae_gw; rw [ov_15]; rfl
theorem og_8 : ae_gw (ov H x c p y) (x + 15) 6 8 K = K (.int (y.1 8)) := by unfold ae_gw; rw [ov_15]; rfl
theorem og_9 : ae_gw (ov H x c p y) (x + 15) 6 9 K = K (.int (y.1 9)) := by unfold ae_gw; rw [ov_15]; rfl
theorem og_10 : ae_gw (ov H x c p y) (x + 15) 6 10 K = K (.int (y.1 10)) := by unfold ae_gw; rw [ov_15]; rfl
theorem og_11 : ae_gw (ov H x c p y) (x + 15) 6 11 K = K (.int (y.1 11)) := by unfold ae_gw; rw [ov_15]; rfl
theorem og_12 : ae_gw (ov H x c p y) (x + 15) 6 12 K = K (.int (y.1 12)) := by unfold ae_gw; rw [ov_15]; rfl
theorem op_8 (hp : x + 22 < p) : ae_pw (ov H x c p y) (x + 15) 6 8 (.int v) KH = KH (ov H x c p (uI y 8 v)) := by
  have e : ah_set (ov H x c p y) (x + 15) (.inr (6, (of6 x c p y).set 8 (.int v))) = ov H x c p (uI y 8 v) := ov_ext (H2 := H) hp (by rw [ov_15]; rfl) (fun b hb => by simp only [ov, uI]; rw [if_neg hb, if_neg hb]; rfl)
  unfold ae_pw
  rw [ov_15]
  show (if 6 = 6 ∧ 8 < (of6 x c p y).length then _ else _) = _
  rw [if_pos ⟨rfl, of_decide_eq_true rfl⟩, e]
theorem op_9 (hp : x + 22 < p) : ae_pw (ov H x c p y) (x + 15) 6 9 (.int v) KH = KH (ov H x c p (uI y 9 v)) := by
  have e : ah_set (ov H x c p y) (x + 15) (.inr (6, (of6 x c p y).set 9 (.int v))) = ov H x c p (uI y 9 v) := ov_ext (H2 := H) hp (by rw [ov_15]; rfl) (fun b hb => by simp only [ov, uI]; rw [if_neg hb, if_neg hb]; rfl)
  unfold ae_pw
  rw [ov_15]
  show (if 6 = 6 ∧ 9 < (of6 x c p y).length then _ else _) = _
  rw [if_pos ⟨rfl, of_decide_eq_true rfl⟩, e]
theorem op_10 (hp : x + 22 < p) : ae_pw (ov H x c p y) (x + 15) 6 10 (.int v) KH = KH (ov H x c p (uI y 10 v)) := by
  have e : ah_set (ov H x c p y) (x + 15) (.inr (6, (of6 x c p y).set 10 (.int v))) = ov H x c p (uI y 10 v) := ov_ext (H2 := H) hp (by rw [ov_15]; rfl) (fun b hb => by simp only [ov, uI]; rw [if_neg hb, if_neg hb]; rfl)
  unfold ae_pw
  rw [ov_15]
  show (if 6 = 6 ∧ 10 < (of6 x c p y).length then _ else _) = _
  rw [if_pos ⟨rfl, of_decide_eq_true rfl⟩, e]
theorem op_11 (hp : x + 22 < p) : ae_pw (ov H x c p y) (x + 15) 6 11 (.int v) KH = KH (ov H x c p (uI y 11 v)) := by
  have e : ah_set (ov H x c p y) (x + 15) (.inr (6, (of6 x c p y).set 11 (.int v))) = ov H x c p (uI y 11 v) := ov_ext (H2 := H) hp (by rw [ov_15]; rfl) (fun b hb => by simp only [ov, uI]; rw [if_neg hb, if_neg hb]; rfl)
  unfold ae_pw
  rw [ov_15]
  show (if 6 = 6 ∧ 11 < (of6 x c p y).length then _ else _) = _
  rw [if_pos ⟨rfl, of_decide_eq_true rfl⟩, e]
theorem op_12 (hp : x + 22 < p) : ae_pw (ov H x c p y) (x + 15) 6 12 (.int v) KH = KH (ov H x c p (uI y 12 v)) := by
  have e : ah_set (ov H x c p y) (x + 15) (.inr (6, (of6 x c p y).set 12 (.int v))) = ov H x c p (uI y 12 v) := ov_ext (H2 := H) hp (by rw [ov_15]; rfl) (fun b hb => by simp only [ov, uI]; rw [if_neg hb, if_neg hb]; rfl)
  unfold ae_pw
  rw [ov_15]
  show (if 6 = 6 ∧ 12 < (of6 x c p y).length then _ else _) = _
  rw [if_pos ⟨rfl, of_decide_eq_true rfl⟩, e]
theorem op_6 {c2 : Nat} (hp : x + 22 < p) : ae_pw (ov H x c p y) (x + 15) 6 6 (.ref c2) KH = KH (ov H x c2 p y) := by
  have e : ah_set (ov H x c p y) (x + 15) (.inr (6, (of6 x c p y).set 6 (.ref c2))) = ov H x c2 p y := ov_ext (H2 := H) hp (by rw [ov_15]; rfl) (fun b hb => by simp only [ov]; rw [if_neg hb, if_neg hb])
  unfold ae_pw
  rw [ov_15]
  show (if 6 = 6 ∧ 6 < (of6 x c p y).length then _ else _) = _
  rw [if_pos ⟨rfl, of_decide_eq_true rfl⟩, e]
theorem dg_0 (hp : x + 22 < p) : ae_gw (ov H x c p y) p 2 0 K = K (.ref (p + 1)) := by unfold ae_gw; rw [ov_p hp]; rfl
theorem dg_1 (hp : x + 22 < p) : ae_gw (ov H x c p y) p 2 1 K = K (.int (y.1 20)) := by unfold ae_gw; rw [ov_p hp]; rfl
theorem dg_2 (hp : x + 22 < p) : ae_gw (ov H x c p y) p 2 2 K = K (.int (y.1 21)) := by unfold ae_gw; rw [ov_p hp]; rfl
theorem dg_3 (hp : x + 22 < p) : ae_gw (ov H x c p y) p 2 3 K = K (.int (y.1 22)) := by unfold ae_gw; rw [ov_p hp]; rfl
theorem dp_1 (hp : x + 22 < p) : ae_pw (ov H x c p y) p 2 1 (.int v) KH = KH (ov H x c p (uI y 20 v)) := by
  have e : ah_set (ov H x c p y) p (.inr (2, [Value.ref (p + 1), .int (y.1 20), .int (y.1 21), .int (y.1 22)].set 1 (.int v))) = ov H x c p (uI y 20 v) := ov_ext (H2 := H) hp (by rw [ov_p hp]; rfl) (fun b hb => by simp only [ov, of6, uI]; rw [if_neg hb, if_neg hb]; rfl)
  unfold ae_pw
  rw [ov_p hp]
  show (if 2 = 2 ∧ 1 < 4 then _ else _) = _
  rw [if_pos (by decide), e]
theorem dp_2 (hp : x + 22 < p) : ae_pw (ov H x c p y) p 2 2 (.int v) KH = KH (ov H x c p (uI y 21 v)) := by
  have e : ah_set (ov H x c p y) p (.inr (2, [Value.ref (p + 1), .int (y.1 20), .int (y.1 21), .int (y.1 22)].set 2 (.int v))) = ov H x c p (uI y 21 v) := ov_ext (H2 := H) hp (by rw [ov_p hp]; rfl) (fun b hb => by simp only [ov, of6, uI]; rw [if_neg hb, if_neg hb]; rfl)
  unfold ae_pw
  rw [ov_p hp]
  show (if 2 = 2 ∧ 2 < 4 then _ else _) = _
  rw [if_pos (by decide), e]
theorem dp_3 (hp : x + 22 < p) : ae_pw (ov H x c p y) p 2 3 (.int v) KH = KH (ov H x c p (uI y 22 v)) := by
  have e : ah_set (ov H x c p y) p (.inr (2, [Value.ref (p + 1), .int (y.1 20), .int (y.1 21), .int (y.1 22)].set 3 (.int v))) = ov H x c p (uI y 22 v) := ov_ext (H2 := H) hp (by rw [ov_p hp]; rfl) (fun b hb => by simp only [ov, of6, uI]; rw [if_neg hb, if_neg hb]; rfl)
  unfold ae_pw
  rw [ov_p hp]
  show (if 2 = 2 ∧ 3 < 4 then _ else _) = _
  rw [if_pos (by decide), e]
theorem ng_b : ae_gw (ov H x c p y) (x + 20) 1 1 K = K (.int (y.1 30)) := by unfold ae_gw; rw [ov_20]; rfl
theorem ng_d (hp : x + 22 < p) : ae_gw (ov H x c p y) (p + 1) 1 1 K = K (.int (y.1 31)) := by unfold ae_gw; rw [ov_p1 hp]; rfl
theorem mz_m : ae_zw (ov H x c p y) (x + 22) KA = KA 0 (10, .inl (y.2.1 1)) := zw_of ov_22
theorem ms_m (hp : x + 22 < p) : ah_set (ov H x c p y) (x + 22) (.inl (0, 10, .inl g)) = ov H x c p (uR y 1 g) := ov_ext (H2 := H) hp (by rw [ov_22]; rfl) (fun b hb => by
  simp only [ov, of6, uR]
  by_cases e1 : b = x + 15
  · rw [if_pos e1, if_pos e1]
  · rw [if_neg e1, if_neg e1]
    by_cases e2 : b = x + 20
    · rw [if_pos e2, if_pos e2]
    · rw [if_neg e2, if_neg e2]
      by_cases e3 : b = x + 21
      · rw [if_pos e3, if_pos e3]; rfl
      · rw [if_neg e3, if_neg e3, if_neg hb, if_neg hb]; rfl)
theorem nmb_d (hp : x + 22 < p) (h : y.1 31 = nI sz) : nmb (ov H x c p y) (p + 1) 300 (y.2.1 2) sz := ⟨by rw [ov_p1 hp, h], ov_p2 hp⟩
theorem nmb_b (h : y.1 30 = nI sz) : nmb (ov H x c p y) (x + 20) 4 (y.2.1 0) sz := ⟨by rw [ov_20, h], ov_21⟩
theorem nset_d (hp : x + 22 < p) : nset (ov H x c p y) (p + 1) 300 f sz = ov H x c p (uI (uR y 2 f) 31 (nI sz)) := by
  unfold nset
  have e1 : ah_set (ov H x c p y) (p + 1 + 1) (.inl (0, 300, .inl f)) = ov H x c p (uR y 2 f) := ov_ext (H2 := H) hp (by rw [show p + 1 + 1 = p + 2 from rfl, ov_p2 hp]; rfl) (fun b hb => by
    simp only [ov, of6, uR]
    rw [show p + 1 + 1 = p + 2 from rfl] at hb
    rw [if_neg hb, if_neg hb]; rfl)
  rw [e1]
  exact ov_ext (H2 := H) hp (by rw [ov_p1 hp]; rfl) (fun b hb => by
    simp only [ov, of6, uR, uI]
    rw [if_neg hb, if_neg hb]; rfl)
theorem nset_b (hp : x + 22 < p) : nset (ov H x c p y) (x + 20) 4 f sz = ov H x c p (uI (uR y 0 f) 30 (nI sz)) := by
  unfold nset
  have e1 : ah_set (ov H x c p y) (x + 20 + 1) (.inl (0, 4, .inl f)) = ov H x c p (uR y 0 f) := ov_ext (H2 := H) hp (by rw [show x + 20 + 1 = x + 21 from rfl, ov_21]; rfl) (fun b hb => by
    rw [show x + 20 + 1 = x + 21 from rfl] at hb
    simp only [ov, of6, uR]
    rw [if_neg hb, if_neg hb]; rfl)
  rw [e1]
  exact ov_ext (H2 := H) hp (by rw [ov_20]; rfl) (fun b hb => by
    simp only [ov, of6, uR, uI]
    rw [if_neg hb, if_neg hb]; rfl)
end OV
