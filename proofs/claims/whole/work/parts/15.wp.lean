/-! steps of the pure machine as equations -/
theorem ae_isR_ref (a : Nat) : ae_isR (.ref a) = true := rfl
theorem ae_isR_null : ae_isR .null = true := rfl
theorem ae_isR_rf (o : Option Nat) : ae_isR (va_rf o) = true := by cases o <;> rfl
theorem ae_cat_ref (a : Nat) : (Value.ref a).category = 1 := rfl
theorem ae_cat_null : Value.null.category = 1 := rfl
theorem ae_cat_int (x : Int32) : (Value.int x).category = 1 := rfl
theorem ae_cat_rf (o : Option Nat) : (va_rf o).category = 1 := by cases o <;> rfl
section AEQ
variable {d : Nat} {M : ae_M} {pc : Nat} {ls : ae_L} {st : List Value} {h : ah_H} {Q : Option Value → ah_H → Prop} {ins : Instr} {len : Nat}
theorem ae_wp_stuck (hd : decode M.2.1 pc = .ok (ins, len)) (he : ae_exec M ins len pc ls st h = none) : ae_wp d M pc ls st h Q = False := by
  apply propext
  constructor
  · rintro ⟨k, v, h1, hr, hq⟩
    cases k with
    | zero => simp [ae_run] at hr
    | succ k =>
      unfold ae_run at hr
      rw [hd] at hr
      dsimp only at hr
      rw [he] at hr
      cases hr
  · exact False.elim
/-- a field is read: c its class, k its number -/
def ae_gw (h : ah_H) (a c k : Nat) (K : Value → Prop) : Prop := match h.1 a with
  | some (.inr (c', fs)) => if c' = c then (match fs[k]? with | some v => K v | none => False) else False
  | _ => False
def ae_pw (h : ah_H) (a c k : Nat) (v : Value) (K : ah_H → Prop) : Prop := match h.1 a with
  | some (.inr (c', fs)) => if c' = c ∧ k < fs.length then K (ah_set h a (.inr (c, fs.set k v))) else False
  | _ => False
def ae_zw (h : ah_H) (a : Nat) (K : Nat → vp_A → Prop) : Prop := match h.1 a with
  | some (.inl (t, x)) => K t x
  | _ => False
theorem wq_get {i c k : Nat} {w : String} {a : Nat} (hd : decode M.2.1 pc = .ok (.getfield i, 3)) (hf : ae_fld (ae_ow M) i = some (c, k, w)) : ae_wp d M pc ls (.ref a :: st) h Q = ae_gw h a c k (fun v => ae_wp d M (pc + 3) ls (v :: st) h Q) := by
  have e : ae_exec M (.getfield i) 3 pc ls (.ref a :: st) h = ae_get h a c k (fun v => ae_n (pc + 3) ls (v :: st) h) := by
    show ae_g 3 3 (match ae_fld (ae_ow M) i with | some (c, k, _) => _ | none => none) = _
    rw [hf]; rfl
  unfold ae_gw
  split
  next c' fs hc =>
    split
    next hq =>
      subst hq
      split
      next v hv => exact ae_wp_next hd (by rw [e]; unfold ae_get; rw [hc]; dsimp only; rw [if_pos rfl, hv]; rfl)
      next hv => exact ae_wp_stuck hd (by rw [e]; unfold ae_get; rw [hc]; dsimp only; rw [if_pos rfl, hv])
    next hq => exact ae_wp_stuck hd (by rw [e]; unfold ae_get; rw [hc]; dsimp only; rw [if_neg hq])
  next hx =>
    refine ae_wp_stuck hd ?_
    rw [e]; unfold ae_get
    split
    next c' fs hc => exact absurd hc (hx c' fs)
    next => rfl
theorem wq_put {i c k : Nat} {w : String} {a : Nat} {v : Value} (hd : decode M.2.1 pc = .ok (.putfield i, 3)) (hf : ae_fld (ae_ow M) i = some (c, k, w)) (hn : narrow (ae_ty c k) v = v) (ht : fits (ae_ty c k) v = true) (hp : ae_pok M c k w = true) : ae_wp d M pc ls (v :: .ref a :: st) h Q = ae_pw h a c k v (fun h' => ae_wp d M (pc + 3) ls st h' Q) := by
  have e : ae_exec M (.putfield i) 3 pc ls (v :: .ref a :: st) h = ae_put M h a c k w v (fun h' => ae_n (pc + 3) ls st h') := by
    show ae_g 3 3 (match ae_fld (ae_ow M) i with | some (c, k, w) => _ | none => none) = _
    rw [hf]; rfl
  unfold ae_pw
  split
  next c' fs hc =>
    split
    next hq =>
      obtain ⟨rfl, hq⟩ := hq
      exact ae_wp_next hd (by rw [e]; unfold ae_put; rw [hc]; dsimp only; rw [if_pos ⟨rfl, hq, hn, ht, hp⟩]; rfl)
    next hq => exact ae_wp_stuck hd (by rw [e]; unfold ae_put; rw [hc]; dsimp only; rw [if_neg (fun z => hq ⟨z.1, z.2.1⟩)])
  next hx =>
    refine ae_wp_stuck hd ?_
    rw [e]; unfold ae_put
    split
    next c' fs hc => exact absurd hc (hx c' fs)
    next => rfl
theorem wq_if {cd : ClassFile.Cond} {off : Int} {x : Int32} {t : Nat} (hd : decode M.2.1 pc = .ok (.ifCond cd off, 3)) (ht : (pc : Int) + off = (t : Int)) : ae_wp d M pc ls (.int x :: st) h Q = if ae_cnd cd x 0 = true then ae_wp d M t ls st h Q else ae_wp d M (pc + 3) ls st h Q := by
  have e : ae_exec M (.ifCond cd off) 3 pc ls (.int x :: st) h = ae_br (ae_cnd cd x 0) pc off ls st h := rfl
  split
  next hb => exact ae_wp_next hd (by rw [e]; unfold ae_br ae_j; rw [if_pos hb, if_pos (by omega), ht]; rfl)
  next hb => exact ae_wp_next hd (by rw [e]; unfold ae_br; rw [if_neg hb]; rfl)
theorem wq_cmp {cd : ClassFile.Cond} {off : Int} {x y : Int32} {t : Nat} (hd : decode M.2.1 pc = .ok (.if_icmp cd off, 3)) (ht : (pc : Int) + off = (t : Int)) : ae_wp d M pc ls (.int y :: .int x :: st) h Q = if ae_cnd cd x y = true then ae_wp d M t ls st h Q else ae_wp d M (pc + 3) ls st h Q := by
  have e : ae_exec M (.if_icmp cd off) 3 pc ls (.int y :: .int x :: st) h = ae_br (ae_cnd cd x y) pc off ls st h := rfl
  split
  next hb => exact ae_wp_next hd (by rw [e]; unfold ae_br ae_j; rw [if_pos hb, if_pos (by omega), ht]; rfl)
  next hb => exact ae_wp_next hd (by rw [e]; unfold ae_br; rw [if_neg hb]; rfl)
theorem ae_cnd_eq (x y : Int32) : (ae_cnd .eq x y = true) = (x = y) := by simp [ae_cnd]
theorem ae_cnd_ne (x y : Int32) : (ae_cnd .ne x y = true) = (¬ x = y) := by simp [ae_cnd]
theorem ae_cnd_lt (x y : Int32) : (ae_cnd .lt x y = true) = (x < y) := by simp [ae_cnd]
theorem ae_cnd_ge (x y : Int32) : (ae_cnd .ge x y = true) = (y ≤ x) := by simp [ae_cnd]
theorem ae_cnd_gt (x y : Int32) : (ae_cnd .gt x y = true) = (y < x) := by simp [ae_cnd]
theorem ae_cnd_le (x y : Int32) : (ae_cnd .le x y = true) = (x ≤ y) := by simp [ae_cnd]
theorem wq_goto {off : Int} {t : Nat} (hd : decode M.2.1 pc = .ok (.goto off, 3)) (ht : (pc : Int) + off = (t : Int)) : ae_wp d M pc ls st h Q = ae_wp d M t ls st h Q :=
  ae_wp_next hd (by show ae_g 3 3 (ae_j pc off ls st h) = _; unfold ae_g ae_j; rw [if_pos rfl, if_pos (by omega), ht]; rfl)
theorem wq_nul {off : Int} {t : Nat} (hd : decode M.2.1 pc = .ok (.ifnull off, 3)) (ht : (pc : Int) + off = (t : Int)) : ae_wp d M pc ls (.null :: st) h Q = ae_wp d M t ls st h Q :=
  ae_wp_next hd (by show ae_g 3 3 (ae_j pc off ls st h) = _; unfold ae_g ae_j; rw [if_pos rfl, if_pos (by omega), ht]; rfl)
theorem wq_nnul {off : Int} {t : Nat} {a : Nat} (hd : decode M.2.1 pc = .ok (.ifnonnull off, 3)) (ht : (pc : Int) + off = (t : Int)) : ae_wp d M pc ls (.ref a :: st) h Q = ae_wp d M t ls st h Q :=
  ae_wp_next hd (by show ae_g 3 3 (ae_j pc off ls st h) = _; unfold ae_g ae_j; rw [if_pos rfl, if_pos (by omega), ht]; rfl)
theorem wq_div {x y : Int32} (hd : decode M.2.1 pc = .ok (.idiv, 1)) (hy : ¬ y = 0) : ae_wp d M pc ls (.int y :: .int x :: st) h Q = ae_wp d M (pc + 1) ls (.int (x / y) :: st) h Q :=
  ae_wp_next hd (by show ae_g 1 1 (ae_iz (fun x y => x / y) pc ls (.int y :: .int x :: st) h) = _; unfold ae_g ae_iz; rw [if_pos rfl]; dsimp only; rw [if_neg hy]; rfl)
theorem wq_rem {x y : Int32} (hd : decode M.2.1 pc = .ok (.irem, 1)) (hy : ¬ y = 0) : ae_wp d M pc ls (.int y :: .int x :: st) h Q = ae_wp d M (pc + 1) ls (.int (x - x / y * y) :: st) h Q :=
  ae_wp_next hd (by show ae_g 1 1 (ae_iz (fun x y => x - x / y * y) pc ls (.int y :: .int x :: st) h) = _; unfold ae_g ae_iz; rw [if_pos rfl]; dsimp only; rw [if_neg hy]; rfl)
theorem wq_arr {a : Nat} {P : Nat → vp_A → Option ae_out} (hd : decode M.2.1 pc = .ok (ins, len)) (he : ae_exec M ins len pc ls st h = ae_arr h a P) {K : Nat → vp_A → Prop} (hK : ∀ t x, h.1 a = some (.inl (t, x)) → ((∃ o, P t x = some (.inl o) ∧ K t x = ae_wp d M o.1 o.2.1 o.2.2.1 o.2.2.2 Q) ∨ (P t x = none ∧ K t x = False))) : ae_wp d M pc ls st h Q = ae_zw h a K := by
  unfold ae_zw
  split
  next t x hc =>
    rcases hK t x hc with ⟨o, h1, h2⟩ | ⟨h1, h2⟩
    · rw [h2]
      exact ae_wp_next hd (by rw [he]; unfold ae_arr; rw [hc]; exact h1)
    · rw [h2]
      exact ae_wp_stuck hd (by rw [he]; unfold ae_arr; rw [hc]; exact h1)
  next hx =>
    refine ae_wp_stuck hd ?_
    rw [he]; unfold ae_arr
    split
    next t x hc => exact absurd hc (hx t x)
    next => rfl
theorem wq_alen {a : Nat} (hd : decode M.2.1 pc = .ok (.arraylength, 1)) : ae_wp d M pc ls (.ref a :: st) h Q = ae_zw h a (fun _ x => ae_wp d M (pc + 1) ls (.int (Int32.ofNat x.1) :: st) h Q) :=
  wq_arr hd rfl (fun t x _ => Or.inl ⟨_, rfl, rfl⟩)
def ae_Ki (j : Int32) (K : Int32 → Prop) (t : Nat) (x : vp_A) : Prop := match x with
  | (n, .inl f) => if (t = 0 ∨ t = 99) ∧ ¬ (j < nI 0 ∨ n ≤ j.toNatClampNeg) then K (f j.toNatClampNeg) else False
  | _ => False
def ae_Kb (j : Int32) (K : Int32 → Prop) (t : Nat) (x : vp_A) : Prop := match x with
  | (n, .inl f) => if t = 1 ∧ ¬ (j < nI 0 ∨ n ≤ j.toNatClampNeg) then K (f j.toNatClampNeg) else False
  | _ => False
def ae_Kj (j : Int32) (K : Int64 → Prop) (t : Nat) (x : vp_A) : Prop := match x with
  | (n, .inr (.inl f)) => if t = 2 ∧ ¬ (j < nI 0 ∨ n ≤ j.toNatClampNeg) then K (f j.toNatClampNeg) else False
  | _ => False
def ae_Ka (j : Int32) (K : Option Nat → Prop) (t : Nat) (x : vp_A) : Prop := match x with
  | (n, .inr (.inr (.inr (.inr f)))) => if (3 ≤ t ∧ t ≤ 7) ∧ ¬ (j < nI 0 ∨ n ≤ j.toNatClampNeg) then K (f j.toNatClampNeg) else False
  | _ => False
theorem wq_iald {a : Nat} {j : Int32} (hd : decode M.2.1 pc = .ok (.iaload, 1)) : ae_wp d M pc ls (.int j :: .ref a :: st) h Q = ae_zw h a (ae_Ki j (fun v => ae_wp d M (pc + 1) ls (.int v :: st) h Q)) := by
  refine wq_arr hd rfl (fun t x _ => ?_)
  obtain ⟨n, f | f | f | f | f⟩ := x
  · by_cases hq : (t = 0 ∨ t = 99) ∧ ¬ (j < nI 0 ∨ n ≤ j.toNatClampNeg)
    · exact Or.inl ⟨_, if_pos hq, if_pos hq⟩
    · exact Or.inr ⟨if_neg hq, if_neg hq⟩
  all_goals exact Or.inr ⟨rfl, rfl⟩
theorem wq_bald {a : Nat} {j : Int32} (hd : decode M.2.1 pc = .ok (.baload, 1)) : ae_wp d M pc ls (.int j :: .ref a :: st) h Q = ae_zw h a (ae_Kb j (fun v => ae_wp d M (pc + 1) ls (.int v :: st) h Q)) := by
  refine wq_arr hd rfl (fun t x _ => ?_)
  obtain ⟨n, f | f | f | f | f⟩ := x
  · by_cases hq : t = 1 ∧ ¬ (j < nI 0 ∨ n ≤ j.toNatClampNeg)
    · exact Or.inl ⟨_, if_pos hq, if_pos hq⟩
    · exact Or.inr ⟨if_neg hq, if_neg hq⟩
  all_goals exact Or.inr ⟨rfl, rfl⟩
theorem wq_lald {a : Nat} {j : Int32} (hd : decode M.2.1 pc = .ok (.laload, 1)) : ae_wp d M pc ls (.int j :: .ref a :: st) h Q = ae_zw h a (ae_Kj j (fun v => ae_wp d M (pc + 1) ls (.long v :: st) h Q)) := by
  refine wq_arr hd rfl (fun t x _ => ?_)
  obtain ⟨n, f | f | f | f | f⟩ := x
  · exact Or.inr ⟨rfl, rfl⟩
  · by_cases hq : t = 2 ∧ ¬ (j < nI 0 ∨ n ≤ j.toNatClampNeg)
    · exact Or.inl ⟨_, if_pos hq, if_pos hq⟩
    · exact Or.inr ⟨if_neg hq, if_neg hq⟩
  all_goals exact Or.inr ⟨rfl, rfl⟩
theorem wq_aald {a : Nat} {j : Int32} (hd : decode M.2.1 pc = .ok (.aaload, 1)) : ae_wp d M pc ls (.int j :: .ref a :: st) h Q = ae_zw h a (ae_Ka j (fun v => ae_wp d M (pc + 1) ls (va_rf v :: st) h Q)) := by
  refine wq_arr hd rfl (fun t x _ => ?_)
  obtain ⟨n, f | f | f | f | f⟩ := x
  · exact Or.inr ⟨rfl, rfl⟩
  · exact Or.inr ⟨rfl, rfl⟩
  · exact Or.inr ⟨rfl, rfl⟩
  · exact Or.inr ⟨rfl, rfl⟩
  · by_cases hq : (3 ≤ t ∧ t ≤ 7) ∧ ¬ (j < nI 0 ∨ n ≤ j.toNatClampNeg)
    · exact Or.inl ⟨_, if_pos hq, if_pos hq⟩
    · exact Or.inr ⟨if_neg hq, if_neg hq⟩
def ae_Si (j v : Int32) (K : ah_C → Prop) (t : Nat) (x : vp_A) : Prop := match x with
  | (n, .inl f) => if t = 0 ∧ ¬ (j < nI 0 ∨ n ≤ j.toNatClampNeg) then K (.inl (0, n, .inl (upd f j.toNatClampNeg v))) else False
  | _ => False
def ae_Sb (j v : Int32) (K : ah_C → Prop) (t : Nat) (x : vp_A) : Prop := match x with
  | (n, .inl f) => if t = 1 ∧ ¬ (j < nI 0 ∨ n ≤ j.toNatClampNeg) then K (.inl (1, n, .inl (upd f j.toNatClampNeg (vp_nar .boolean v)))) else False
  | _ => False
def ae_Sj (j : Int32) (v : Int64) (K : ah_C → Prop) (t : Nat) (x : vp_A) : Prop := match x with
  | (n, .inr (.inl f)) => if t = 2 ∧ ¬ (j < nI 0 ∨ n ≤ j.toNatClampNeg) then K (.inl (2, n, .inr (.inl (vp_updL f j.toNatClampNeg v)))) else False
  | _ => False
def ae_Sn (j : Int32) (K : ah_C → Prop) (t : Nat) (x : vp_A) : Prop := match x with
  | (n, .inr (.inr (.inr (.inr f)))) => if (3 ≤ t ∧ t ≤ 5) ∧ ¬ (j < nI 0 ∨ n ≤ j.toNatClampNeg) then K (.inl (t, n, .inr (.inr (.inr (.inr (va_up f j.toNatClampNeg none)))))) else False
  | _ => False
theorem wq_iast {a : Nat} {j v : Int32} (hd : decode M.2.1 pc = .ok (.iastore, 1)) : ae_wp d M pc ls (.int v :: .int j :: .ref a :: st) h Q = ae_zw h a (ae_Si j v (fun c => ae_wp d M (pc + 1) ls st (ah_set h a c) Q)) := by
  refine wq_arr hd rfl (fun t x _ => ?_)
  obtain ⟨n, f | f | f | f | f⟩ := x
  · by_cases hq : t = 0 ∧ ¬ (j < nI 0 ∨ n ≤ j.toNatClampNeg)
    · exact Or.inl ⟨_, if_pos hq, if_pos hq⟩
    · exact Or.inr ⟨if_neg hq, if_neg hq⟩
  all_goals exact Or.inr ⟨rfl, rfl⟩
theorem wq_bast {a : Nat} {j v : Int32} (hd : decode M.2.1 pc = .ok (.bastore, 1)) : ae_wp d M pc ls (.int v :: .int j :: .ref a :: st) h Q = ae_zw h a (ae_Sb j v (fun c => ae_wp d M (pc + 1) ls st (ah_set h a c) Q)) := by
  refine wq_arr hd rfl (fun t x _ => ?_)
  obtain ⟨n, f | f | f | f | f⟩ := x
  · by_cases hq : t = 1 ∧ ¬ (j < nI 0 ∨ n ≤ j.toNatClampNeg)
    · exact Or.inl ⟨_, if_pos hq, if_pos hq⟩
    · exact Or.inr ⟨if_neg hq, if_neg hq⟩
  all_goals exact Or.inr ⟨rfl, rfl⟩
theorem wq_last {a : Nat} {j : Int32} {v : Int64} (hd : decode M.2.1 pc = .ok (.lastore, 1)) : ae_wp d M pc ls (.long v :: .int j :: .ref a :: st) h Q = ae_zw h a (ae_Sj j v (fun c => ae_wp d M (pc + 1) ls st (ah_set h a c) Q)) := by
  refine wq_arr hd rfl (fun t x _ => ?_)
  obtain ⟨n, f | f | f | f | f⟩ := x
  · exact Or.inr ⟨rfl, rfl⟩
  · by_cases hq : t = 2 ∧ ¬ (j < nI 0 ∨ n ≤ j.toNatClampNeg)
    · exact Or.inl ⟨_, if_pos hq, if_pos hq⟩
    · exact Or.inr ⟨if_neg hq, if_neg hq⟩
  all_goals exact Or.inr ⟨rfl, rfl⟩
theorem wq_aastN {a : Nat} {j : Int32} (hd : decode M.2.1 pc = .ok (.aastore, 1)) : ae_wp d M pc ls (.null :: .int j :: .ref a :: st) h Q = ae_zw h a (ae_Sn j (fun c => ae_wp d M (pc + 1) ls st (ah_set h a c) Q)) := by
  refine wq_arr hd rfl (fun t x _ => ?_)
  obtain ⟨n, f | f | f | f | f⟩ := x
  · exact Or.inr ⟨rfl, rfl⟩
  · exact Or.inr ⟨rfl, rfl⟩
  · exact Or.inr ⟨rfl, rfl⟩
  · exact Or.inr ⟨rfl, rfl⟩
  · by_cases hq : (3 ≤ t ∧ t ≤ 5) ∧ ¬ (j < nI 0 ∨ n ≤ j.toNatClampNeg)
    · exact Or.inl ⟨_, if_pos hq, if_pos hq⟩
    · exact Or.inr ⟨if_neg hq, if_neg hq⟩
theorem wq_aast {a q n t ci : Nat} {fs : List Value} {f : Nat → Option Nat} {j : Int32} (hd : decode M.2.1 pc = .ok (.aastore, 1)) (ha : h.1 a = some (.inl (t, n, .inr (.inr (.inr (.inr f)))))) (hq : h.1 q = some (.inr (ci, fs))) (ht : 3 ≤ t ∧ t ≤ 5) (hT : ae_T t = some (.object (ae_on ci))) (hj : ¬ (j < nI 0 ∨ n ≤ j.toNatClampNeg)) : ae_wp d M pc ls (.ref q :: .int j :: .ref a :: st) h Q = ae_wp d M (pc + 1) ls st (ah_set h a (.inl (t, n, .inr (.inr (.inr (.inr (va_up f j.toNatClampNeg (some q)))))))) Q := by
  refine ae_wp_next hd ?_
  show ae_g 1 1 (ae_arr h a _) = _
  unfold ae_g ae_arr
  rw [if_pos rfl, ha]
  dsimp only
  rw [hq]
  dsimp only
  rw [if_pos ⟨Or.inl ⟨ht, hT⟩, hj⟩]
  rfl
end AEQ
