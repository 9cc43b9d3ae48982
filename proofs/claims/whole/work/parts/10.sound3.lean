/-! how a step changes the heap -/
def ah_le (h h' : ah_H) : Prop := h.2.1 ≤ h'.2.1 ∧ h.2.2.1 ≤ h'.2.2.1
theorem ah_le.rf (h : ah_H) : ah_le h h := ⟨Nat.le_refl _, Nat.le_refl _⟩
theorem ah_le.tr {a b c : ah_H} (h1 : ah_le a b) (h2 : ah_le b c) : ah_le a c := ⟨Nat.le_trans h1.1 h2.1, Nat.le_trans h1.2 h2.2⟩
theorem ah_le.st (h : ah_H) (a : Nat) (c : ah_C) : ah_le h (ah_set h a c) := ah_le.rf h
theorem ah_le.nw (h : ah_H) (c : ah_C) (n : Nat) : ah_le h (ah_new h c n) := ⟨Nat.le_succ _, Nat.le_add_right _ _⟩
theorem ah_le.n2 (h : ah_H) (n k : Nat) : ah_le h (ah_new2 h n k) := ⟨by show h.2.1 ≤ h.2.1 + 1 + n; omega, by show h.2.2.1 ≤ h.2.2.1 + n + n * k; omega⟩
def ae_oh (h : ah_H) (r : ae_out) : Prop := match r with
  | .inl o => ah_le h o.2.2.2
  | .inr (.inl x) => x.2 = h
  | .inr (.inr x) => x.2.2.2.2.2 = h
set_option maxHeartbeats 4000000 in
theorem ae_call_h {M : ae_M} {op i pc : Nat} {L : ae_L} {st : List Value} {h : ah_H} {r : ae_out} (he : ae_call M op i pc L st h = some r) : ae_oh h r := by
  unfold ae_call at he
  repeat' (split at he)
  all_goals first
    | (cases he; done)
    | (cases he; exact ah_le.rf h)
    | (cases he; exact ah_le.st h _ _)
    | (cases he; exact rfl)
set_option maxHeartbeats 8000000 in
theorem ae_exec_h {M : ae_M} {ins : Instr} {len pc : Nat} {L : ae_L} {st : List Value} {h : ah_H} {r : ae_out} (he : ae_exec M ins len pc L st h = some r) : ae_oh h r := by
  cases ins
  case invokespecial => exact ae_call_h (ae_g_s he).2
  case invokevirtual =>
    have he := (ae_g_s he).2
    split at he
    next =>
      split at he
      next =>
        split at he
        next =>
          split at he
          next => cases he; exact ah_le.rf h
          next => cases he
        next => cases he
      next => cases he
    next => exact ae_call_h he
  case invokestatic => exact ae_call_h (ae_g_s he).2
  all_goals first
    | (cases he; done)
    | (simp only [ae_exec, ae_g, ae_n, ae_ldI, ae_ldJ, ae_ldA, ae_stI, ae_stJ, ae_stA, ae_ii, ae_iz, ae_jj, ae_ji, ae_j, ae_br, ae_get, ae_put, ae_arr] at he
       repeat' (split at he)
       all_goals first
         | (cases he; done)
         | (cases he; exact ah_le.rf h)
         | (cases he; exact ah_le.st h _ _)
         | (cases he; exact ah_le.nw h _ _)
         | (cases he; exact ah_le.n2 h _ _)
         | (cases he; exact rfl))
theorem ae_run_h : ∀ (k d : Nat) (M : ae_M) (pc : Nat) (ls : ae_L) (st : List Value) (h : ah_H) (v : Option Value) (h' : ah_H), ae_run k d M pc ls st h = some (v, h') → ah_le h h' := by
  intro k
  induction k with
  | zero => intro d M pc ls st h v h' hr; simp [ae_run] at hr
  | succ k ih =>
    intro d M pc ls st h v h' hr
    unfold ae_run at hr
    cases hd : decode M.2.1 pc with
    | error _ => rw [hd] at hr; simp at hr
    | ok x =>
      obtain ⟨ins, len⟩ := x
      rw [hd] at hr
      dsimp only at hr
      cases he : ae_exec M ins len pc ls st h with
      | none => rw [he] at hr; simp at hr
      | some o =>
        rw [he] at hr
        have ho := ae_exec_h he
        rcases o with ⟨pc', ls', st', h2⟩ | r' | ⟨M', as, pc', ls', st', h2⟩
        · exact ah_le.tr ho (ih _ _ _ _ _ _ _ _ hr)
        · cases hr; exact ah_le.tr (ah_le.rf h) (by rw [show h' = h from ho]; exact ah_le.rf h)
        · have ho : h2 = h := ho
          subst ho
          cases d with
          | zero => simp at hr
          | succ d' =>
            dsimp only at hr
            split at hr
            next v2 h3 hc => exact ah_le.tr (ih _ _ _ _ _ _ _ _ hc) (ih _ _ _ _ _ _ _ _ hr)
            next => simp at hr
/-- what a call has found -/
theorem ae_call_s {M : ae_M} {op i pc : Nat} {L : ae_L} {st : List Value} {h : ah_H} {r : ae_out} (he : ae_call M op i pc L st h = some r) :
    ∃ kd M' n w, ae_mth (ae_ow M) i = some (kd, M', n, w) ∧
      (((kd = 0 ∨ kd = 1) ∧ op = 0 ∧ ∃ b as rest, st = as.reverse ++ .ref b :: rest ∧ as.length = n ∧ (rest.map fun v => v.category).sum ≤ 8 ∧ ae_eok M' (.ref b :: as) = true ∧ r = .inr (.inr (M', .ref b :: as, (pc + 3, L, rest, h)))) ∨
       (kd = 2 ∧ op = 1 ∧ ∃ b as rest fs, h.1 b = some (.inr (ae_ow M', fs)) ∧ st = as.reverse ++ .ref b :: rest ∧ as.length = n ∧ (rest.map fun v => v.category).sum ≤ 8 ∧ ae_eok M' (.ref b :: as) = true ∧ r = .inr (.inr (M', .ref b :: as, (pc + 3, L, rest, h)))) ∨
       ((kd = 4 ∨ kd = 5) ∧ op = 2 ∧ ∃ as rest, st = as.reverse ++ rest ∧ as.length = n ∧ (rest.map fun v => v.category).sum ≤ 8 ∧ ae_eok M' as = true ∧ r = .inr (.inr (M', as, (pc + 3, L, rest, h)))) ∨
       (kd = 6 ∧ op = 0 ∧ ∃ b rest, st = .ref b :: rest ∧ (rest.map fun v => v.category).sum ≤ 8 ∧ r = .inl (pc + 3, L, rest, h)) ∨
       (kd = 7 ∧ op = 2 ∧ ∃ (k dp sp : Int32) (d q n0 n1 : Nat) (f g : Nat → Int32) (rest : List Value), st = .int k :: .int dp :: .ref d :: .int sp :: .ref q :: rest ∧ h.1 q = some (.inl (0, n0, .inl f)) ∧ h.1 d = some (.inl (0, n1, .inl g)) ∧ (rest.map fun v => v.category).sum ≤ 8 ∧ ¬ sp < 0 ∧ ¬ dp < 0 ∧ ¬ k < 0 ∧ sp.toNatClampNeg + k.toNatClampNeg ≤ n0 ∧ dp.toNatClampNeg + k.toNatClampNeg ≤ n1 ∧ r = .inl (pc + 3, L, rest, ah_set h d (.inl (0, n1, .inl (va_cpy f g sp.toNatClampNeg dp.toNatClampNeg k.toNatClampNeg))))) ∨
       (kd = 7 ∧ op = 2 ∧ ∃ (k dp sp : Int32) (d q n0 n1 : Nat) (f g : Nat → Option Nat) (rest : List Value), st = .int k :: .int dp :: .ref d :: .int sp :: .ref q :: rest ∧ h.1 q = some (.inl (7, n0, .inr (.inr (.inr (.inr f))))) ∧ h.1 d = some (.inl (7, n1, .inr (.inr (.inr (.inr g))))) ∧ (rest.map fun v => v.category).sum ≤ 8 ∧ ¬ sp < 0 ∧ ¬ dp < 0 ∧ ¬ k < 0 ∧ sp.toNatClampNeg + k.toNatClampNeg ≤ n0 ∧ dp.toNatClampNeg + k.toNatClampNeg ≤ n1 ∧ ae_allN h f sp.toNatClampNeg k.toNatClampNeg = true ∧ r = .inl (pc + 3, L, rest, ah_set h d (.inl (7, n1, .inr (.inr (.inr (.inr (va_cpy f g sp.toNatClampNeg dp.toNatClampNeg k.toNatClampNeg))))))))) := by
  unfold ae_call at he
  split at he
  next => cases he
  next kd M' n w hm =>
    refine ⟨kd, M', n, w, hm, ?_⟩
    have split3 : ∀ (b : Nat) (rest : List Value), st.drop n = .ref b :: rest → st = ((st.take n).reverse).reverse ++ .ref b :: rest := fun b rest hq => by
      rw [List.reverse_reverse, ← hq, List.take_append_drop]
    split at he
    next hk =>
      split at he
      next b rest hq =>
        split at he
        next hc =>
          cases he
          exact Or.inl ⟨hk, hc.1, b, (st.take n).reverse, rest, split3 b rest hq, by simp; omega, hc.2.2.1, hc.2.2.2, rfl⟩
        next => cases he
      next => cases he
    next hk =>
      split at he
      next hk2 =>
        split at he
        next b rest hq =>
          split at he
          next c' fs hcell =>
            split at he
            next hc =>
              cases he
              obtain ⟨rfl, h1, h2, h3, h4⟩ := hc
              exact Or.inr (Or.inl ⟨hk2, h1, b, (st.take n).reverse, rest, fs, hcell, split3 b rest hq, by simp; omega, h3, h4, rfl⟩)
            next => cases he
          next => cases he
        next => cases he
      next hk2 =>
        split at he
        next hk4 =>
          split at he
          next hc =>
            cases he
            exact Or.inr (Or.inr (Or.inl ⟨hk4, hc.1, (st.take n).reverse, st.drop n, by rw [List.reverse_reverse, List.take_append_drop], by simp; omega, hc.2.2.1, hc.2.2.2, rfl⟩))
          next => cases he
        next hk4 =>
          split at he
          next hk6 =>
            split at he
            next b rest =>
              split at he
              next hc => cases he; exact Or.inr (Or.inr (Or.inr (Or.inl ⟨hk6, hc.1, b, rest, rfl, hc.2, rfl⟩)))
              next => cases he
            next => cases he
          next hk6 =>
            split at he
            next hk7 =>
              split at he
              next k dp d sp q rest =>
                split at he
                next n0 f n1 g hq hd =>
                  split at he
                  next hc =>
                    cases he
                    obtain ⟨c1, c2, c3, c4, c5, c6, c7⟩ := hc
                    exact Or.inr (Or.inr (Or.inr (Or.inr (Or.inl ⟨hk7, c1, k, dp, sp, d, q, n0, n1, f, g, rest, rfl, hq, hd, c2, c3, c4, c5, c6, c7, rfl⟩))))
                  next => cases he
                next n0 f n1 g hq hd =>
                  split at he
                  next hc =>
                    cases he
                    obtain ⟨⟨c1, c2, c3, c4, c5, c6, c7⟩, c8⟩ := hc
                    exact Or.inr (Or.inr (Or.inr (Or.inr (Or.inr ⟨hk7, c1, k, dp, sp, d, q, n0, n1, f, g, rest, rfl, hq, hd, c2, c3, c4, c5, c6, c7, c8, rfl⟩))))
                  next => cases he
                next => cases he
              next => cases he
            next => cases he
