/-! a pattern's hole filled by a constructor with holes -/
def rfa (A : Nat → Nat) (p : List Nat) (j c : Nat) : List Nat := p.take j ++ c :: (List.replicate (A c) 99 ++ p.drop (j + 1))
theorem hol_app : ∀ (p q : List Nat), hol (p ++ q) = hol p + hol q := by
  intro p
  induction p with
  | nil => intro q; simp [hol]
  | cons x p ih => intro q; simp only [List.cons_append, hol, ih]; omega
theorem hol_rep : ∀ n, hol (List.replicate n 99) = n := by
  intro n
  induction n with
  | zero => rfl
  | succ n ih => simp only [List.replicate_succ, hol, ih, if_true]; omega
theorem hol_split {p : List Nat} {j : Nat} (h : j < p.length) : hol p = hol (p.take j) + (if p.getD j 0 = 99 then 1 else 0) + hol (p.drop (j + 1)) := by
  have e : p = p.take j ++ (p.getD j 0 :: p.drop (j + 1)) := by rw [← drop_cons h, List.take_append_drop]
  have : hol p = hol (p.take j ++ (p.getD j 0 :: p.drop (j + 1))) := by rw [← e]
  rw [this, hol_app, hol]
  omega
theorem rfa_len {A : Nat → Nat} {p : List Nat} {j c : Nat} (h : j < p.length) : (rfa A p j c).length = p.length + A c := by
  simp only [rfa, List.length_append, List.length_take, List.length_cons, List.length_replicate, List.length_drop]
  omega
theorem rfa_hol {A : Nat → Nat} {p : List Nat} {j c : Nat} (h : j < p.length) (h9 : p.getD j 0 = 99) (hc : c ≠ 99) : hol (rfa A p j c) + 1 = hol p + A c := by
  rw [hol_split h, if_pos h9]
  simp only [rfa, hol_app, hol, hol_rep, if_neg hc]
  omega
theorem wlk_rep {A : Nat → Nat} {l : List Nat} : ∀ (n i : Nat), wlk A l (List.replicate n 99) i = tes A l n i := by
  intro n
  induction n with
  | zero => intro i; rfl
  | succ n ih => intro i; simp only [List.replicate_succ, wlk, if_true, ih, tes]
theorem mtc_rep {A : Nat → Nat} {l : List Nat} : ∀ (n i m : Nat), i ≤ l.length → rn A (l.drop i) (n + m) = some 0 → mtc A l (List.replicate n 99) i := by
  intro n
  induction n with
  | zero => intro i m hi _; exact hi
  | succ n ih =>
    intro i m hi h
    obtain ⟨h1, h2, h3, h4, h5⟩ := rn_te (A := A) (l := l) (i := i) (m := n + m) (by rw [show n + m + 1 = n + 1 + m by omega]; exact h)
    exact ⟨by omega, ih _ m h2 h5⟩
theorem split_at {p : List Nat} {j : Nat} (h : j < p.length) : p = p.take j ++ (p.getD j 0 :: p.drop (j + 1)) := by rw [← drop_cons h, List.take_append_drop]
/-- a row whose term at the hole begins with the constructor has what the finer pattern says -/
theorem rfa_mtc {A : Nat → Nat} {l p : List Nat} {i j c m : Nat} (hm : mtc A l p i) (hj : j < p.length) (h9 : p.getD j 0 = 99) (hc : c ≠ 99) (hl : l.getD (wlk A l (p.take j) i) 0 = c) (hr : rn A (l.drop (wlk A l (p.take j) i)) (m + 1) = some 0) : mtc A l (rfa A p j c) i := by
  have e := split_at hj
  rw [e, mtc_app] at hm
  obtain ⟨h1, h2⟩ := hm
  rw [h9] at h2
  obtain ⟨h3, h4⟩ := h2
  rw [if_pos rfl] at h4
  obtain ⟨t1, t2, t3⟩ := te_args hr
  rw [hl] at t1 t3
  unfold rfa
  rw [mtc_app]
  refine ⟨h1, h3, ?_⟩
  rw [if_neg hc]
  refine ⟨hl, ?_⟩
  rw [mtc_app, wlk_rep, ← t1]
  exact ⟨mtc_rep _ _ m (by omega) t3, h4⟩
theorem rn_rep {A : Nat → Nat} (h99 : A 99 = 0) : ∀ (n : Nat), rn A (List.replicate n 99) n = some 0 := by
  intro n
  induction n with
  | zero => rfl
  | succ n ih =>
    simp only [List.replicate_succ, rn]
    rw [if_neg (by omega), h99, show n + 1 + 0 - 1 = n by omega]
    exact ih
theorem rfa_rn {A : Nat → Nat} {p : List Nat} {j c n : Nat} (h99 : A 99 = 0) (hp : rn A p n = some 0) (hj : j < p.length) (h9 : p.getD j 0 = 99) : rn A (rfa A p j c) n = some 0 := by
  have e := split_at hj
  rw [e, rn_append] at hp
  unfold rfa
  rw [rn_append]
  cases h : rn A (p.take j) n with
  | none => rw [h] at hp; cases hp
  | some k =>
    rw [h, Option.bind_some, h9] at hp
    obtain ⟨h1, h2⟩ := rn_pos hp
    rw [h99] at h2
    rw [Option.bind_some]
    simp only [rn]
    rw [if_neg (by omega), rn_append]
    have := rn_add _ _ _ (k - 1) (rn_rep h99 (A c))
    rw [show k + A c - 1 = A c + (k - 1) by omega, this, Option.bind_some, Nat.zero_add]
    simpa using h2
theorem wlk_adv {A : Nat → Nat} {l : List Nat} : ∀ (p : List Nat) (i : Nat), mtc A l p i → i + p.length ≤ wlk A l p i ∧ wlk A l p i ≤ l.length := by
  intro p
  induction p with
  | nil => intro i h; exact ⟨Nat.le_refl _, h⟩
  | cons x p ih =>
    intro i h
    obtain ⟨h1, h2⟩ := h
    by_cases c : x = 99
    · rw [if_pos c] at h2
      have := ih _ h2
      have t := te_gt (A := A) h1
      simp only [wlk, if_pos c, List.length_cons]
      omega
    · rw [if_neg c] at h2
      have := ih _ h2.2
      simp only [wlk, if_neg c, List.length_cons]
      omega
/-- the pattern taken back -/
theorem rfa_at {A : Nat → Nat} {p : List Nat} {j c i : Nat} (h : j < p.length) : (rfa A p j c).getD i 0 = if i < j then p.getD i 0 else if i = j then c else if i ≤ j + A c then 99 else p.getD (i - A c) 0 := by
  have hl : (p.take j).length = j := by rw [List.length_take]; omega
  unfold rfa
  simp only [List.getD_eq_getElem?_getD]
  by_cases c1 : i < j
  · rw [if_pos c1, List.getElem?_append_left (by omega), List.getElem?_take_of_lt c1]
  · rw [if_neg c1, List.getElem?_append_right (by omega), hl]
    by_cases c2 : i = j
    · rw [if_pos c2, c2, Nat.sub_self]; rfl
    · rw [if_neg c2]
      obtain ⟨t, ht⟩ : ∃ t, i - j = t + 1 := ⟨i - j - 1, by omega⟩
      rw [ht, List.getElem?_cons_succ]
      by_cases c3 : i ≤ j + A c
      · rw [if_pos c3, List.getElem?_append_left (by simp; omega), List.getElem?_replicate]
        rw [if_pos (by omega)]
        rfl
      · rw [if_neg c3, List.getElem?_append_right (by simp; omega), List.getElem?_drop, List.length_replicate]
        congr 2
        omega
/-! sets of rules as bits -/
theorem sh_amt : ∀ r, r < 64 → ((nI r).toInt64 &&& 63) = Int64.ofNat r := by decide +kernel
theorem mem_bit {S : Int64} {r : Nat} (h : r < 64) : mem S r = S.toBitVec.getLsbD r := by
  unfold mem
  rw [sh_amt r h]
  have e1 : (S >>> Int64.ofNat r).toBitVec = S.toBitVec.sshiftRight r := by
    rw [Int64.toBitVec_shiftRight]
    have : (Int64.ofNat r).toBitVec.smod 64 = BitVec.ofNat 64 r := by
      have : ∀ r, r < 64 → (Int64.ofNat r).toBitVec.smod 64 = BitVec.ofNat 64 r := by decide +kernel
      exact this r h
    rw [this]
    simp only [BitVec.sshiftRight']
    rw [BitVec.toNat_ofNat, Nat.mod_eq_of_lt (by omega)]
  have e2 : (S >>> Int64.ofNat r &&& 1 = 1) ↔ ((S.toBitVec.sshiftRight r &&& 1#64) = 1#64) := by
    rw [← Int64.toBitVec_inj, Int64.toBitVec_and, e1]
    exact Iff.rfl
  have e3 : ((S.toBitVec.sshiftRight r &&& 1#64) = 1#64) ↔ S.toBitVec.getLsbD r = true := by
    constructor
    · intro h1
      have := congrArg (fun b => b.getLsbD 0) h1
      rw [BitVec.getLsbD_and, BitVec.getLsbD_sshiftRight] at this
      simpa [h] using this
    · intro h1
      apply BitVec.eq_of_getLsbD_eq
      intro i hi
      rw [BitVec.getLsbD_and]
      by_cases c : i = 0
      · subst c
        simp [BitVec.getLsbD_sshiftRight, h, h1]
      · simp [c]
  cases e : S.toBitVec.getLsbD r with
  | true => exact decide_eq_true (e2.mpr (e3.mpr e))
  | false => exact decide_eq_false (fun z => by have := e3.mp (e2.mp z); rw [e] at this; cases this)
theorem msk_bit {r i : Nat} (h : r < 64) (hi : i < 64) : mem (msk r) i = decide (i = r) := by
  rw [mem_bit hi]
  unfold msk
  rw [sh_amt r h, Int64.toBitVec_shiftLeft]
  have : (Int64.ofNat r).toBitVec.smod 64 = BitVec.ofNat 64 r := by
    have : ∀ r, r < 64 → (Int64.ofNat r).toBitVec.smod 64 = BitVec.ofNat 64 r := by decide +kernel
    exact this r h
  rw [this]
  show ((1#64) <<< (BitVec.ofNat 64 r)).getLsbD i = _
  rw [BitVec.shiftLeft_eq', BitVec.getLsbD_shiftLeft, BitVec.toNat_ofNat, Nat.mod_eq_of_lt (by omega)]
  simp only [hi, decide_true, Bool.true_and]
  rw [BitVec.getLsbD_one]
  by_cases c : i = r
  · subst c; simp
  · by_cases c2 : i < r
    · simp [c2, c]
    · simp [c2, c]; omega
theorem mem_or {S T : Int64} {r : Nat} (h : r < 64) : mem (S ||| T) r = (mem S r || mem T r) := by
  rw [mem_bit h, mem_bit h, mem_bit h, Int64.toBitVec_or, BitVec.getLsbD_or]
theorem mem_zero {r : Nat} (h : r < 64) : mem 0 r = false := by
  rw [mem_bit h]
  show (0#64).getLsbD r = false
  simp
theorem mem_ext {S T : Int64} (h : ∀ r, r < 64 → mem S r = mem T r) : S = T := by
  apply Int64.toBitVec_inj.mp
  apply BitVec.eq_of_getLsbD_eq
  intro i hi
  rw [← mem_bit hi, ← mem_bit hi]
  exact h i hi
theorem mem_orF {P : Nat → Bool} : ∀ (m k : Nat) (S : Int64) (r : Nat), k + m ≤ 64 → r < 64 → mem (orF P m k S) r = (mem S r || (decide (k ≤ r ∧ r < k + m) && P r)) := by
  intro m
  induction m with
  | zero =>
    intro k S r hk hr
    have : ¬ (k ≤ r ∧ r < k + 0) := by omega
    rw [orF, decide_eq_false this, Bool.false_and, Bool.or_false]
  | succ m ih =>
    intro k S r hk hr
    rw [orF, ih (k + 1) _ r (by omega) hr]
    by_cases e : r = k
    · subst e
      have h1 : ¬ (r + 1 ≤ r ∧ r < r + 1 + m) := by omega
      have h2 : r ≤ r ∧ r < r + (m + 1) := by omega
      rw [decide_eq_false h1, decide_eq_true h2]
      by_cases c : P r = true
      · rw [if_pos c, mem_or hr, msk_bit hr hr]
        simp [c]
      · rw [if_neg c]
        simp at c
        simp [c]
    · have h1 : (k + 1 ≤ r ∧ r < k + 1 + m) ↔ (k ≤ r ∧ r < k + (m + 1)) := by omega
      rw [decide_eq_decide.mpr h1]
      congr 1
      by_cases c : P k = true
      · rw [if_pos c, mem_or hr, msk_bit (by omega) hr, decide_eq_false e, Bool.or_false]
      · rw [if_neg c]
theorem mem_wia {A : Nat → Nat} {rl : mR} {p : List Nat} {k c r : Nat} {S : Int64} (hl : rl.length ≤ 40) (hr : r < 64) : mem (wia A rl p k S c) r = (decide (r < rl.length) && (mem S r && decide (vat A rl p k r = c))) := by
  unfold wia
  rw [mem_orF _ _ _ _ (by omega) hr, mem_zero hr, Bool.false_or]
  congr 1
  apply decide_eq_decide.mpr
  omega
theorem mem_rof {rl : mR} {f r : Nat} (hl : rl.length ≤ 40) (hr : r < 64) : mem (rof rl f) r = (decide (r < rl.length) && decide ((rat rl r).1.getD 0 0 = f)) := by
  unfold rof
  rw [mem_orF _ _ _ _ (by omega) hr, mem_zero hr, Bool.false_or]
  congr 1
  apply decide_eq_decide.mpr
  omega
/-- a set of rules: bits of rules alone -/
def sub (rl : mR) (S : Int64) : Prop := ∀ r, r < 64 → mem S r = true → r < rl.length
theorem nz_of {S : Int64} (h : S ≠ 0) : ∃ r, r < 64 ∧ mem S r = true := by
  by_cases c : ∃ r, r < 64 ∧ mem S r = true
  · exact c
  · exfalso
    apply h
    apply mem_ext
    intro r hr
    rw [mem_zero hr]
    cases e : mem S r with
    | false => rfl
    | true => exact absurd ⟨r, hr, e⟩ c
theorem nz_to {S : Int64} {r : Nat} (hr : r < 64) (h : mem S r = true) : S ≠ 0 := by
  intro e
  rw [e, mem_zero hr] at h
  cases h
theorem sub_wia {A : Nat → Nat} {rl : mR} {p : List Nat} {k c : Nat} {S : Int64} (hl : rl.length ≤ 40) : sub rl (wia A rl p k S c) := by
  intro r hr h
  rw [mem_wia hl hr] at h
  simp at h
  exact h.1
theorem sub_rof {rl : mR} {f : Nat} (hl : rl.length ≤ 40) : sub rl (rof rl f) := by
  intro r hr h
  rw [mem_rof hl hr] at h
  simp at h
  exact h.1
/-- sums over the rules of a set -/
def csm (P : Nat → Bool) (g : Nat → Nat) : Nat → Nat
  | 0 => 0
  | m + 1 => csm P g m + (if P m = true then g m else 0)
theorem csm_le {P P2 : Nat → Bool} {g g2 : Nat → Nat} : ∀ m, (∀ r, r < m → P r = true → P2 r = true ∧ g r ≤ g2 r) → csm P g m ≤ csm P2 g2 m := by
  intro m
  induction m with
  | zero => intro _; exact Nat.le_refl _
  | succ m ih =>
    intro h
    have := ih (fun r hr => h r (by omega))
    simp only [csm]
    by_cases c : P m = true
    · obtain ⟨h1, h2⟩ := h m (by omega) c
      rw [if_pos c, if_pos h1]
      omega
    · rw [if_neg c]
      omega
theorem csm_bd {P : Nat → Bool} {g : Nat → Nat} {b : Nat} : ∀ m, (∀ r, r < m → g r ≤ b) → csm P g m ≤ m * b := by
  intro m
  induction m with
  | zero => intro _; simp [csm]
  | succ m ih =>
    intro h
    have h1 := ih (fun r hr => h r (by omega))
    have h2 := h m (by omega)
    simp only [csm, Nat.succ_mul]
    split <;> omega
theorem csm_one {P : Nat → Bool} {g : Nat → Nat} {r : Nat} : ∀ m, r < m → P r = true → g r ≤ csm P g m := by
  intro m
  induction m with
  | zero => intro h; omega
  | succ m ih =>
    intro h hp
    simp only [csm]
    by_cases e : r = m
    · subst e; rw [if_pos hp]; omega
    · have := ih (by omega) hp; omega
theorem csm_add {P : Nat → Bool} {g g2 : Nat → Nat} : ∀ m, csm P (fun r => g r + g2 r) m = csm P g m + csm P g2 m := by
  intro m
  induction m with
  | zero => rfl
  | succ m ih =>
    simp only [csm, ih]
    split <;> omega
/-- sums over the children -/
def csl (v : Nat → Nat) (S : Int64) (g : Nat → Nat) (m : Nat) : List Nat → Nat
  | [] => 0
  | c :: cs => csm (fun r => mem S r && decide (v r = c)) g m + csl v S g m cs
theorem csm_two {P P1 P2 : Nat → Bool} {g : Nat → Nat} (h : ∀ r, (P1 r = true → P r = true) ∧ (P2 r = true → P r = true ∧ P1 r = false)) : ∀ m, csm P1 g m + csm P2 g m ≤ csm P g m := by
  intro m
  induction m with
  | zero => exact Nat.le_refl _
  | succ m ih =>
    simp only [csm]
    obtain ⟨h1, h2⟩ := h m
    by_cases c1 : P1 m = true
    · have c2 : ¬ P2 m = true := fun z => by have := (h2 z).2; rw [c1] at this; cases this
      rw [if_pos c1, if_neg c2, if_pos (h1 c1)]
      omega
    · by_cases c2 : P2 m = true
      · rw [if_neg c1, if_pos c2, if_pos (h2 c2).1]
        omega
      · rw [if_neg c1, if_neg c2]
        omega
theorem csl_le {v : Nat → Nat} {S : Int64} {g : Nat → Nat} : ∀ (m : Nat) (cs : List Nat), cs.Nodup → csl v S g m cs ≤ csm (fun r => mem S r && decide (v r ∈ cs)) g m := by
  intro m cs
  induction cs with
  | nil => intro _; simp [csl]
  | cons c cs ih =>
    intro h
    obtain ⟨h1, h2⟩ := List.nodup_cons.mp h
    have := ih h2
    simp only [csl]
    refine Nat.le_trans (Nat.add_le_add_left this _) (csm_two (fun r => ⟨fun z => ?_, fun z => ?_⟩) m)
    · simp only [Bool.and_eq_true, decide_eq_true_eq] at z ⊢
      exact ⟨z.1, by rw [z.2]; exact List.mem_cons_self⟩
    · simp only [Bool.and_eq_true, decide_eq_true_eq] at z
      refine ⟨?_, ?_⟩
      · simp only [Bool.and_eq_true, decide_eq_true_eq]
        exact ⟨z.1, List.mem_cons_of_mem _ z.2⟩
      · simp only [Bool.and_eq_false_iff, decide_eq_false_iff_not]
        exact Or.inr (fun y => h1 (by rw [← y]; exact z.2))
theorem csl_all {v : Nat → Nat} {S : Int64} {g : Nat → Nat} {m : Nat} {cs : List Nat} (h : cs.Nodup) : csl v S g m cs ≤ csm (mem S) g m :=
  Nat.le_trans (csl_le m cs h) (csm_le m (fun r _ hp => ⟨by simp only [Bool.and_eq_true] at hp; exact hp.1, Nat.le_refl _⟩))
/-! the tree of a function: its nodes in their order -/
abbrev nd : Type := Nat × Nat × Nat × Int32 × Nat
def chs (A : Nat → Nat) (rl : mR) (ns : Nat) (p : List Nat) (k : Nat) (S : Int64) : List Nat := (List.range ns).filter (fun c => decide (wia A rl p k S c ≠ 0))
def layL (g : List Nat → Int64 → Nat → Int32 → Nat → Option (List nd)) (u : Nat → List Nat × Int64) : List Nat → Nat → Int32 → Nat → Option (List nd)
  | [], _, _, _ => some []
  | c :: cs, n, par, ord => match g (u c).1 (u c).2 n par ord with
    | none => none
    | some L => match layL g u cs (n + L.length) par (ord + 1) with
      | none => none
      | some M => some (L ++ M)
/-- where the hole that is branched on stands -/
def jof (p : List Nat) (k : Nat) : Nat := (hix p k).getD 0
def kid (A : Nat → Nat) (rl : mR) (p : List Nat) (k : Nat) (S : Int64) (c : Nat) : List Nat × Int64 := (rfa A p (jof p k) c, wia A rl p k S c)
def lay (A : Nat → Nat) (rl : mR) (ns : Nat) : Nat → List Nat → Int64 → Nat → Int32 → Nat → Option (List nd)
  | 0, _, _, _, _, _ => none
  | f + 1, p, S, n, par, ord => if isl A rl p S = true then some [(0, fsr S, 0, par, ord)] else match bro A rl p S with
    | none => none
    | some k => if 8 < (pds A p (jof p k)).length then none else match layL (lay A rl ns f) (kid A rl p k S) (chs A rl ns p k S) (n + 1) (nI n) 0 with
      | none => none
      | some M => some ((1, plv (pds A p (jof p k)), (chs A rl ns p k S).length, par, ord) :: M)
/-- rules as they are kept -/
def rgo (ns : Nat) (A : Nat → Nat) (rl : mR) : Prop := rl.length ≤ 40 ∧ ∀ r, r < rl.length → (rat rl r).1.length ≤ 120 ∧ kn1 ns (rat rl r).1 ∧ rn A (rat rl r).1 2 = some 0 ∧ (rat rl r).2 = te A (rat rl r).1 0
theorem rgo_rgd {ns : Nat} {A : Nat → Nat} {rl : mR} (h : rgo ns A rl) : rgd ns A rl := fun r hr => by
  obtain ⟨h1, h2, h3, h4⟩ := h.2 r hr
  refine ⟨?_, h1, h2, rn_acm h3⟩
  have := rn_len _ _ _ h3
  omega
/-- a pattern with its rules -/
def wfp (ns : Nat) (A : Nat → Nat) (rl : mR) (p : List Nat) (S : Int64) : Prop := rn A p 1 = some 0 ∧ (∀ i, i < p.length → p.getD i 0 < ns ∨ p.getD i 0 = 99) ∧ p.getD 0 0 ≠ 99 ∧ sgd A rl p S ∧ sub rl S ∧ S ≠ 0
theorem wfp_mem {ns : Nat} {A : Nat → Nat} {rl : mR} {p : List Nat} {S : Int64} (h : wfp ns A rl p S) : ∃ r, r < rl.length ∧ mem S r = true ∧ mtc A (rat rl r).1 p 0 := by
  obtain ⟨r, h1, h2⟩ := nz_of h.2.2.2.2.2
  have h3 := h.2.2.2.2.1 r h1 h2
  exact ⟨r, h3, h2, h.2.2.2.1 r h3 h2⟩
theorem wfp_len {ns : Nat} {A : Nat → Nat} {rl : mR} {p : List Nat} {S : Int64} (hg : rgo ns A rl) (h : wfp ns A rl p S) : 0 < p.length ∧ p.length ≤ 120 := by
  obtain ⟨r, h1, h2, h3⟩ := wfp_mem h
  have h4 := wlk_adv _ _ h3
  have h5 := (hg.2 r h1).1
  have h6 := rn_len _ _ _ h.1
  omega
/-- the hole that is branched on -/
theorem bro_at {ns : Nat} {A : Nat → Nat} {rl : mR} {p : List Nat} {S : Int64} {k : Nat} (hb : bro A rl p S = some k) : k < hol p ∧ hix p k = some (jof p k) ∧ jof p k < p.length ∧ p.getD (jof p k) 0 = 99 ∧ ∀ r, r < rl.length → mem S r = true → vat A rl p k r < 100 := by
  obtain ⟨h1, h2, h3, h4⟩ := (fdF_some _ _ _ _).mp hb
  have h5 : k < hol p := by omega
  cases e : hix p k with
  | none => have := (hix_none p k).mp e; omega
  | some j =>
    obtain ⟨h6, h7⟩ := hix_lt _ _ _ e
    have ej : jof p k = j := by unfold jof; rw [e]; rfl
    rw [ej]
    refine ⟨h5, rfl, h6, h7, fun r hr hm => ?_⟩
    have := (alF_iff _ _ _).mp h3 r (by omega) (by omega)
    simp only [hm, Bool.not_true, Bool.false_or, decide_eq_true_eq] at this
    exact this
theorem vat_wlk {A : Nat → Nat} {rl : mR} {p : List Nat} {k j r : Nat} (hj : hix p k = some j) : vat A rl p k r = (rat rl r).1.getD (wlk A (rat rl r).1 (p.take j) 0) 0 := by
  unfold vat
  rw [loc_hix, hj]
  rfl
theorem vat_ns {ns : Nat} {A : Nat → Nat} {rl : mR} {p : List Nat} {S : Int64} {k r : Nat} (hg : rgo ns A rl) (h : wfp ns A rl p S) (hb : bro A rl p S = some k) (hr : r < rl.length) (hm : mem S r = true) : vat A rl p k r < ns := by
  obtain ⟨h1, h2, h3, h4, h5⟩ := bro_at (ns := ns) hb
  have h6 := h5 r hr hm
  have h7 := vat_wlk (A := A) (rl := rl) (r := r) h2
  have h8 := mtc_at (h.2.2.2.1 r hr hm) h3
  have h9 := (hg.2 r hr).2.1 _ h8.1
  rw [← h7] at h9
  omega
theorem kid_wfp {ns : Nat} {A : Nat → Nat} {rl : mR} {p : List Nat} {S : Int64} {k c : Nat} (h99 : A 99 = 0) (hns : ns ≤ 24) (hg : rgo ns A rl) (h : wfp ns A rl p S) (hb : bro A rl p S = some k) (hc : c < ns) (hw : wia A rl p k S c ≠ 0) : wfp ns A rl (kid A rl p k S c).1 (kid A rl p k S c).2 := by
  obtain ⟨h1, h2, h3, h4, h5⟩ := bro_at (ns := ns) hb
  obtain ⟨w1, w2, w3, w4, w5, w6⟩ := h
  have hc9 : c ≠ 99 := by omega
  refine ⟨rfa_rn h99 w1 h3 h4, ?_, ?_, ?_, sub_wia hg.1, hw⟩
  · intro i hi
    rw [kid, rfa_len h3] at hi
    rw [kid, rfa_at h3]
    by_cases c1 : i < jof p k
    · rw [if_pos c1]; exact w2 i (by omega)
    · rw [if_neg c1]
      by_cases c2 : i = jof p k
      · rw [if_pos c2]; exact Or.inl hc
      · rw [if_neg c2]
        by_cases c3 : i ≤ jof p k + A c
        · rw [if_pos c3]; exact Or.inr rfl
        · rw [if_neg c3]; exact w2 _ (by omega)
  · rw [kid, rfa_at h3]
    by_cases c1 : 0 < jof p k
    · rw [if_pos c1]; exact w3
    · rw [show jof p k = 0 by omega] at h4
      exact absurd h4 w3
  · intro r hr hm
    rw [kid, mem_wia hg.1 (by have := hg.1; omega)] at hm
    simp only [Bool.and_eq_true, decide_eq_true_eq] at hm
    obtain ⟨_, m1, m2⟩ := hm
    have h6 := w4 r hr m1
    have h7 := mtc_at h6 h3
    obtain ⟨m, r1, r2⟩ := rn_drop (wlk A (rat rl r).1 (p.take (jof p k)) 0) 2 (hg.2 r hr).2.2.1 (by omega)
    obtain ⟨m', rfl⟩ : ∃ m', m = m' + 1 := ⟨m - 1, by have := r2 h7.1; omega⟩
    exact rfa_mtc h6 h3 h4 hc9 (by rw [← m2, vat_wlk h2]) r1
/-- how many nodes there can be -/
def ph (A : Nat → Nat) (rl : mR) (p : List Nat) (S : Int64) : Nat := csm (mem S) (fun r => (rat rl r).1.length + 1 - (p.length - hol p)) rl.length
def crd (rl : mR) (S : Int64) : Nat := csm (mem S) (fun _ => 1) rl.length
theorem ph_pos {ns : Nat} {A : Nat → Nat} {rl : mR} {p : List Nat} {S : Int64} (h : wfp ns A rl p S) : crd rl S ≤ ph A rl p S ∧ 0 < crd rl S := by
  obtain ⟨w1, w2, w3, w4, w5, w6⟩ := h
  refine ⟨csm_le _ (fun r hr hm => ⟨hm, ?_⟩), ?_⟩
  · have := wlk_adv _ _ (w4 r hr hm)
    omega
  · obtain ⟨r, h1, h2⟩ := nz_of w6
    have := csm_one (g := fun _ => 1) rl.length (w5 r h1 h2) h2
    exact this
/-- the children have less -/
theorem ph_kids {ns : Nat} {A : Nat → Nat} {rl : mR} {p : List Nat} {S : Int64} {k : Nat} (hns : ns ≤ 24) (hg : rgo ns A rl) (h : wfp ns A rl p S) (hb : bro A rl p S = some k) : ∀ cs : List Nat, cs.Nodup → (∀ c, c ∈ cs → c < ns) → (cs.map (fun c => ph A rl (kid A rl p k S c).1 (kid A rl p k S c).2)).sum + crd rl S ≤ ph A rl p S ∧ (cs.map (fun c => crd rl (kid A rl p k S c).2)).sum ≤ crd rl S := by
  obtain ⟨h1, h2, h3, h4, h5⟩ := bro_at (ns := ns) hb
  have hl := hg.1
  intro cs hn hc
  have key : ∀ (g : Nat → Nat) (g2 : Nat → Nat → Nat), (∀ c, c ∈ cs → ∀ r, r < rl.length → g2 c r ≤ g r) → (cs.map (fun c => csm (mem (wia A rl p k S c)) (g2 c) rl.length)).sum ≤ csm (mem S) g rl.length := by
    intro g g2 hgg
    refine Nat.le_trans ?_ (csl_all (v := vat A rl p k) hn)
    clear hn hc
    induction cs with
    | nil => simp [csl]
    | cons c cs ih =>
      simp only [List.map_cons, List.sum_cons, csl]
      refine Nat.add_le_add (csm_le _ (fun r hr hm => ⟨?_, hgg c (by simp) r hr⟩)) (ih (fun c hc => hgg c (by simp [hc])))
      rw [mem_wia hl (by omega)] at hm
      simp only [Bool.and_eq_true] at hm ⊢
      exact hm.2
  refine ⟨?_, key (fun _ => 1) (fun _ _ => 1) (fun _ _ _ _ => Nat.le_refl _)⟩
  have k1 := key (fun r => (rat rl r).1.length - (p.length - hol p)) (fun c r => (rat rl r).1.length + 1 - ((kid A rl p k S c).1.length - hol (kid A rl p k S c).1)) (fun c hcc r hr => by
    have e1 := rfa_len (A := A) (c := c) h3
    have e2 := rfa_hol (A := A) h3 h4 (show c ≠ 99 by have := hc c hcc; omega)
    have e3 := hol_le p
    simp only [kid]
    omega)
  have k2 : csm (mem S) (fun r => (rat rl r).1.length - (p.length - hol p)) rl.length + crd rl S = csm (mem S) (fun r => (rat rl r).1.length - (p.length - hol p) + 1) rl.length := (csm_add _).symm
  have k3 : csm (mem S) (fun r => (rat rl r).1.length - (p.length - hol p) + 1) rl.length ≤ ph A rl p S := csm_le _ (fun r hr hm => ⟨hm, by
    have := wlk_adv _ _ (h.2.2.2.1 r hr hm)
    omega⟩)
  have k4 : (cs.map (fun c => ph A rl (kid A rl p k S c).1 (kid A rl p k S c).2)).sum ≤ csm (mem S) (fun r => (rat rl r).1.length - (p.length - hol p)) rl.length := k1
  omega
theorem chs_ok {A : Nat → Nat} {rl : mR} {ns : Nat} {p : List Nat} {k : Nat} {S : Int64} : (chs A rl ns p k S).Nodup ∧ ∀ c, c ∈ chs A rl ns p k S → c < ns ∧ wia A rl p k S c ≠ 0 := by
  refine ⟨List.Nodup.sublist List.filter_sublist List.nodup_range, fun c hc => ?_⟩
  obtain ⟨h1, h2⟩ := List.mem_filter.mp hc
  exact ⟨List.mem_range.mp h1, of_decide_eq_true h2⟩
/-! how many nodes a tree has -/
theorem layL_len {A : Nat → Nat} {rl : mR} {g : List Nat → Int64 → Nat → Int32 → Nat → Option (List nd)} {u : Nat → List Nat × Int64} : ∀ (cs : List Nat) (n : Nat) (par : Int32) (ord : Nat) (M : List nd), (∀ c, c ∈ cs → ∀ n par ord L, g (u c).1 (u c).2 n par ord = some L → L.length ≤ ph A rl (u c).1 (u c).2) → layL g u cs n par ord = some M → M.length ≤ (cs.map (fun c => ph A rl (u c).1 (u c).2)).sum := by
  intro cs
  induction cs with
  | nil => intro n par ord M _ h; cases h; simp
  | cons c cs ih =>
    intro n par ord M hg h
    simp only [layL] at h
    cases e : g (u c).1 (u c).2 n par ord with
    | none => rw [e] at h; cases h
    | some L =>
      rw [e] at h
      dsimp only at h
      cases e2 : layL g u cs (n + L.length) par (ord + 1) with
      | none => rw [e2] at h; cases h
      | some N =>
        rw [e2] at h
        cases h
        have h1 := hg c (by simp) _ _ _ _ e
        have h2 := ih _ _ _ _ (fun c hc => hg c (by simp [hc])) e2
        simp only [List.length_append, List.map_cons, List.sum_cons]
        omega
theorem lay_len {A : Nat → Nat} {rl : mR} {ns : Nat} (h99 : A 99 = 0) (hns : ns ≤ 24) (hg : rgo ns A rl) : ∀ (f : Nat) (p : List Nat) (S : Int64) (n : Nat) (par : Int32) (ord : Nat) (L : List nd), wfp ns A rl p S → lay A rl ns f p S n par ord = some L → L.length ≤ ph A rl p S ∧ 0 < L.length := by
  intro f
  induction f with
  | zero => intro p S n par ord L _ h; cases h
  | succ f ih =>
    intro p S n par ord L hw h
    have hp := ph_pos hw
    simp only [lay] at h
    by_cases c : isl A rl p S = true
    · rw [if_pos c] at h
      cases h
      simp only [List.length_cons, List.length_nil]
      omega
    · rw [if_neg c] at h
      cases e : bro A rl p S with
      | none => rw [e] at h; cases h
      | some k =>
        rw [e] at h
        dsimp only at h
        by_cases c2 : 8 < (pds A p (jof p k)).length
        · rw [if_pos c2] at h; cases h
        · rw [if_neg c2] at h
          cases e2 : layL (lay A rl ns f) (kid A rl p k S) (chs A rl ns p k S) (n + 1) (nI n) 0 with
          | none => rw [e2] at h; cases h
          | some M =>
            rw [e2] at h
            cases h
            obtain ⟨c3, c4⟩ := chs_ok (A := A) (rl := rl) (ns := ns) (p := p) (k := k) (S := S)
            have h1 := layL_len _ _ _ _ _ (fun c hc n par ord L hL => (ih _ _ n par ord L (kid_wfp h99 hns hg hw e (c4 c hc).1 (c4 c hc).2) hL).1) e2
            have h2 := (ph_kids hns hg hw e _ c3 (fun c hc => (c4 c hc).1)).1
            simp only [List.length_cons]
            omega
