section AEQ2
variable {d : Nat} {M : ae_M} {pc : Nat} {ls : ae_L} {st : List Value} {h : ah_H} {Q : Option Value → ah_H → Prop} {off : Int} {x y : Int32} {t i n kd : Nat} {M' : ae_M} {w : String} {as rest : List Value} {b a c : Nat} {fs : List Value}
theorem wq_if_eq (hd : decode M.2.1 pc = .ok (.ifCond .eq off, 3)) (ht : (pc : Int) + off = (t : Int)) : ae_wp d M pc ls (.int x :: st) h Q = if x = 0 then ae_wp d M t ls st h Q else ae_wp d M (pc + 3) ls st h Q := by
  rw [wq_if hd ht]
  by_cases q : x = 0
  · rw [if_pos q, if_pos (by rw [ae_cnd_eq]; exact q)]
  · rw [if_neg q, if_neg (by rw [ae_cnd_eq]; exact q)]
theorem wq_cmp_eq (hd : decode M.2.1 pc = .ok (.if_icmp .eq off, 3)) (ht : (pc : Int) + off = (t : Int)) : ae_wp d M pc ls (.int y :: .int x :: st) h Q = if x = y then ae_wp d M t ls st h Q else ae_wp d M (pc + 3) ls st h Q := by
  rw [wq_cmp hd ht]
  by_cases q : x = y
  · rw [if_pos q, if_pos (by rw [ae_cnd_eq]; exact q)]
  · rw [if_neg q, if_neg (by rw [ae_cnd_eq]; exact q)]
theorem wq_if_ne (hd : decode M.2.1 pc = .ok (.ifCond .ne off, 3)) (ht : (pc : Int) + off = (t : Int)) : ae_wp d M pc ls (.int x :: st) h Q = if ¬ x = 0 then ae_wp d M t ls st h Q else ae_wp d M (pc + 3) ls st h Q := by
  rw [wq_if hd ht]
  by_cases q : ¬ x = 0
  · rw [if_pos q, if_pos (by rw [ae_cnd_ne]; exact q)]
  · rw [if_neg q, if_neg (by rw [ae_cnd_ne]; exact q)]
theorem wq_cmp_ne (hd : decode M.2.1 pc = .ok (.if_icmp .ne off, 3)) (ht : (pc : Int) + off = (t : Int)) : ae_wp d M pc ls (.int y :: .int x :: st) h Q = if ¬ x = y then ae_wp d M t ls st h Q else ae_wp d M (pc + 3) ls st h Q := by
  rw [wq_cmp hd ht]
  by_cases q : ¬ x = y
  · rw [if_pos q, if_pos (by rw [ae_cnd_ne]; exact q)]
  · rw [if_neg q, if_neg (by rw [ae_cnd_ne]; exact q)]
theorem wq_if_lt (hd : decode M.2.1 pc = .ok (.ifCond .lt off, 3)) (ht : (pc : Int) + off = (t : Int)) : ae_wp d M pc ls (.int x :: st) h Q = if x < 0 then ae_wp d M t ls st h Q else ae_wp d M (pc + 3) ls st h Q := by
  rw [wq_if hd ht]
  by_cases q : x < 0
  · rw [if_pos q, if_pos (by rw [ae_cnd_lt]; exact q)]
  · rw [if_neg q, if_neg (by rw [ae_cnd_lt]; exact q)]
theorem wq_cmp_lt (hd : decode M.2.1 pc = .ok (.if_icmp .lt off, 3)) (ht : (pc : Int) + off = (t : Int)) : ae_wp d M pc ls (.int y :: .int x :: st) h Q = if x < y then ae_wp d M t ls st h Q else ae_wp d M (pc + 3) ls st h Q := by
  rw [wq_cmp hd ht]
  by_cases q : x < y
  · rw [if_pos q, if_pos (by rw [ae_cnd_lt]; exact q)]
  · rw [if_neg q, if_neg (by rw [ae_cnd_lt]; exact q)]
theorem wq_if_ge (hd : decode M.2.1 pc = .ok (.ifCond .ge off, 3)) (ht : (pc : Int) + off = (t : Int)) : ae_wp d M pc ls (.int x :: st) h Q = if 0 ≤ x then ae_wp d M t ls st h Q else ae_wp d M (pc + 3) ls st h Q := by
  rw [wq_if hd ht]
  by_cases q : 0 ≤ x
  · rw [if_pos q, if_pos (by rw [ae_cnd_ge]; exact q)]
  · rw [if_neg q, if_neg (by rw [ae_cnd_ge]; exact q)]
theorem wq_cmp_ge (hd : decode M.2.1 pc = .ok (.if_icmp .ge off, 3)) (ht : (pc : Int) + off = (t : Int)) : ae_wp d M pc ls (.int y :: .int x :: st) h Q = if y ≤ x then ae_wp d M t ls st h Q else ae_wp d M (pc + 3) ls st h Q := by
  rw [wq_cmp hd ht]
  by_cases q : y ≤ x
  · rw [if_pos q, if_pos (by rw [ae_cnd_ge]; exact q)]
  · rw [if_neg q, if_neg (by rw [ae_cnd_ge]; exact q)]
theorem wq_if_gt (hd : decode M.2.1 pc = .ok (.ifCond .gt off, 3)) (ht : (pc : Int) + off = (t : Int)) : ae_wp d M pc ls (.int x :: st) h Q = if 0 < x then ae_wp d M t ls st h Q else ae_wp d M (pc + 3) ls st h Q := by
  rw [wq_if hd ht]
  by_cases q : 0 < x
  · rw [if_pos q, if_pos (by rw [ae_cnd_gt]; exact q)]
  · rw [if_neg q, if_neg (by rw [ae_cnd_gt]; exact q)]
theorem wq_cmp_gt (hd : decode M.2.1 pc = .ok (.if_icmp .gt off, 3)) (ht : (pc : Int) + off = (t : Int)) : ae_wp d M pc ls (.int y :: .int x :: st) h Q = if y < x then ae_wp d M t ls st h Q else ae_wp d M (pc + 3) ls st h Q := by
  rw [wq_cmp hd ht]
  by_cases q : y < x
  · rw [if_pos q, if_pos (by rw [ae_cnd_gt]; exact q)]
  · rw [if_neg q, if_neg (by rw [ae_cnd_gt]; exact q)]
theorem wq_if_le (hd : decode M.2.1 pc = .ok (.ifCond .le off, 3)) (ht : (pc : Int) + off = (t : Int)) : ae_wp d M pc ls (.int x :: st) h Q = if x ≤ 0 then ae_wp d M t ls st h Q else ae_wp d M (pc + 3) ls st h Q := by
  rw [wq_if hd ht]
  by_cases q : x ≤ 0
  · rw [if_pos q, if_pos (by rw [ae_cnd_le]; exact q)]
  · rw [if_neg q, if_neg (by rw [ae_cnd_le]; exact q)]
theorem wq_cmp_le (hd : decode M.2.1 pc = .ok (.if_icmp .le off, 3)) (ht : (pc : Int) + off = (t : Int)) : ae_wp d M pc ls (.int y :: .int x :: st) h Q = if x ≤ y then ae_wp d M t ls st h Q else ae_wp d M (pc + 3) ls st h Q := by
  rw [wq_cmp hd ht]
  by_cases q : x ≤ y
  · rw [if_pos q, if_pos (by rw [ae_cnd_le]; exact q)]
  · rw [if_neg q, if_neg (by rw [ae_cnd_le]; exact q)]
theorem ae_narR {ty : FieldType} {v : Value} (hr : ty.isReference = true) (hv : ae_isR v = true) : narrow ty v = v ∧ fits ty v = true := by
  cases ty <;> first | (rcases ae_isR_s hv with rfl | ⟨a, rfl⟩ <;> exact ⟨rfl, rfl⟩) | exact absurd hr (by decide)
theorem wq_putR {k : Nat} {v : Value} (hd : decode M.2.1 pc = .ok (.putfield i, 3)) (hf : ae_fld (ae_ow M) i = some (c, k, w)) (hr : (ae_ty c k).isReference = true) (hp : ae_pok M c k w = true) (hv : ae_isR v = true) : ae_wp d M pc ls (v :: .ref a :: st) h Q = ae_pw h a c k v (fun h' => ae_wp d M (pc + 3) ls st h' Q) := wq_put hd hf (ae_narR hr hv).1 (ae_narR hr hv).2 hp
theorem wq_ldA {j : Fin 4} {v : Value} (hd : decode M.2.1 pc = .ok (.aload_n j, 1)) (hl : ls[(j : Nat)]? = some (some v)) (hv : ae_isR v = true) : ae_wp d M pc ls st h Q = ae_wp d M (pc + 1) ls (v :: st) h Q :=
  ae_wp_next hd (by show ae_g 1 1 (ae_ldA ls j _) = _; unfold ae_g ae_ldA; rw [if_pos rfl, hl]; dsimp only; rw [if_pos hv]; rfl)
theorem wq_ldA2 {j : Nat} {v : Value} (hd : decode M.2.1 pc = .ok (.aload j, 2)) (hl : ls[j]? = some (some v)) (hv : ae_isR v = true) : ae_wp d M pc ls st h Q = ae_wp d M (pc + 2) ls (v :: st) h Q :=
  ae_wp_next hd (by show ae_g 2 2 (ae_ldA ls j _) = _; unfold ae_g ae_ldA; rw [if_pos rfl, hl]; dsimp only; rw [if_pos hv]; rfl)
theorem wq_stA {j : Fin 4} {v : Value} (hd : decode M.2.1 pc = .ok (.astore_n j, 1)) (hs : ae_s1 M j = true) (hv : ae_isR v = true) : ae_wp d M pc ls (v :: st) h Q = ae_wp d M (pc + 1) (ls.set j (some v)) st h Q :=
  ae_wp_next hd (by show ae_g 1 1 (ae_stA M j (pc + 1) ls (v :: st) h) = _; unfold ae_g ae_stA; rw [if_pos rfl]; dsimp only; rw [if_pos ⟨hv, hs⟩]; rfl)
theorem wq_stA2 {j : Nat} {v : Value} (hd : decode M.2.1 pc = .ok (.astore j, 2)) (hs : ae_s1 M j = true) (hv : ae_isR v = true) : ae_wp d M pc ls (v :: st) h Q = ae_wp d M (pc + 2) (ls.set j (some v)) st h Q :=
  ae_wp_next hd (by show ae_g 2 2 (ae_stA M j (pc + 2) ls (v :: st) h) = _; unfold ae_g ae_stA; rw [if_pos rfl]; dsimp only; rw [if_pos ⟨hv, hs⟩]; rfl)
theorem wq_dup {v : Value} (hd : decode M.2.1 pc = .ok (.dup, 1)) (hv : v.category = 1) : ae_wp d M pc ls (v :: st) h Q = ae_wp d M (pc + 1) ls (v :: v :: st) h Q :=
  ae_wp_next hd (by show ae_g 1 1 (if v.category = 1 then _ else none) = _; unfold ae_g; rw [if_pos rfl, if_pos hv]; rfl)
theorem wq_pop {v : Value} (hd : decode M.2.1 pc = .ok (.pop, 1)) (hv : v.category = 1) : ae_wp d M pc ls (v :: st) h Q = ae_wp d M (pc + 1) ls st h Q :=
  ae_wp_next hd (by show ae_g 1 1 (if v.category = 1 then _ else none) = _; unfold ae_g; rw [if_pos rfl, if_pos hv]; rfl)
theorem wq_dupx1 {v u : Value} (hd : decode M.2.1 pc = .ok (.dup_x1, 1)) (hv : v.category = 1) (hu : u.category = 1) : ae_wp d M pc ls (v :: u :: st) h Q = ae_wp d M (pc + 1) ls (v :: u :: v :: st) h Q :=
  ae_wp_next hd (by show ae_g 1 1 (if v.category = 1 ∧ u.category = 1 then _ else none) = _; unfold ae_g; rw [if_pos rfl, if_pos ⟨hv, hu⟩]; rfl)
theorem wq_dup2 {v u : Value} (hd : decode M.2.1 pc = .ok (.dup2, 1)) (hv : v.category = 1) (hu : u.category = 1) : ae_wp d M pc ls (v :: u :: st) h Q = ae_wp d M (pc + 1) ls (v :: u :: v :: u :: st) h Q :=
  ae_wp_next hd (by show ae_g 1 1 (if v.category = 1 ∧ u.category = 1 then _ else none) = _; unfold ae_g; rw [if_pos rfl, if_pos ⟨hv, hu⟩]; rfl)
theorem wq_zret {ty : FieldType} {v : Int32} (hd : decode M.2.1 pc = .ok (.ireturn, 1)) (hr : M.2.2.2.1 = some ty) (hn : narrow ty (.int v) = .int v) : ae_wp d M pc ls [.int v] h Q = Q (some (.int v)) h :=
  ae_wp_ret hd (by show ae_g 1 1 (match [Value.int v], M.2.2.2.1 with | [.int v], some ty => _ | _, _ => none) = _; rw [hr]; unfold ae_g; rw [if_pos rfl]; dsimp only; rw [if_pos hn])
theorem wq_aret {ty : FieldType} {v : Value} (hd : decode M.2.1 pc = .ok (.areturn, 1)) (hr : M.2.2.2.1 = some ty) (ht : ty.isReference = true) (hv : ae_isR v = true) : ae_wp d M pc ls [v] h Q = Q (some v) h :=
  ae_wp_ret hd (by show ae_g 1 1 (match [v], M.2.2.2.1 with | [v], some ty => _ | _, _ => none) = _; rw [hr]; unfold ae_g; rw [if_pos rfl]; dsimp only; rw [if_pos ⟨hv, ht⟩])
theorem wq_newa {at_ : ArrayType} {m : Int32} {cell : ah_C} (hd : decode M.2.1 pc = .ok (.newarray at_, 2)) (hn : ¬ (m < 0 ∨ 65536 < m.toNatClampNeg)) (hf : ae_na at_ m.toNatClampNeg = some cell) : ae_wp d M pc ls (.int m :: st) h Q = ae_wp d M (pc + 2) ls (.ref h.2.1 :: st) (ah_new h cell m.toNatClampNeg) Q :=
  ae_wp_next hd (by show ae_g 2 2 (if m < 0 ∨ 65536 < m.toNatClampNeg then none else (match ae_na at_ m.toNatClampNeg with | some c => _ | none => none)) = _; unfold ae_g; rw [if_pos rfl, if_neg hn, hf]; rfl)
theorem wq_anew {m : Int32} (hd : decode M.2.1 pc = .ok (.anewarray i, 3)) (ha : ae_acl (ae_ow M) i = some t) (hn : ¬ (m < 0 ∨ 65536 < m.toNatClampNeg)) : ae_wp d M pc ls (.int m :: st) h Q = ae_wp d M (pc + 3) ls (.ref h.2.1 :: st) (ah_new h (.inl (t, m.toNatClampNeg, .inr (.inr (.inr (.inr (fun _ => none)))))) m.toNatClampNeg) Q :=
  ae_wp_next hd (by show ae_g 3 3 (match ae_acl (ae_ow M) i with | some t => _ | none => none) = _; rw [ha]; unfold ae_g; rw [if_pos rfl]; dsimp only; rw [if_neg hn]; rfl)
theorem wq_mna {k m : Int32} (hd : decode M.2.1 pc = .ok (.multianewarray 20 2, 4)) (ho : ae_ow M = 11) (hn : ¬ (m < 0 ∨ k < 0 ∨ 65536 < m.toNatClampNeg ∨ 65536 < k.toNatClampNeg)) : ae_wp d M pc ls (.int k :: .int m :: st) h Q = ae_wp d M (pc + 4) ls (.ref h.2.1 :: st) (ah_new2 h m.toNatClampNeg k.toNatClampNeg) Q :=
  ae_wp_next hd (by show ae_g 4 4 (if ae_ow M = 11 ∧ (20 : Nat) = 20 ∧ (2 : Nat) = 2 then _ else none) = _; unfold ae_g; rw [if_pos rfl, if_pos ⟨ho, rfl, rfl⟩]; dsimp only; rw [if_neg hn]; rfl)
theorem wq_cast (hne : ¬ (ae_ow M = 17 ∧ i = 110)) (hd : decode M.2.1 pc = .ok (.checkcast i, 3)) (hn : ae_ncl (ae_ow M) i = some c) (hc : h.1 a = some (.inr (c, fs))) : ae_wp d M pc ls (.ref a :: st) h Q = ae_wp d M (pc + 3) ls (.ref a :: st) h Q :=
  ae_wp_next hd (by show ae_g 3 3 (if ae_ow M = 17 ∧ i = 110 then _ else match ae_ncl (ae_ow M) i with | some c => _ | none => none) = _; rw [if_neg hne, hn]; unfold ae_g; rw [if_pos rfl]; dsimp only; rw [hc]; dsimp only; rw [if_pos rfl]; rfl)
theorem wq_castN (hne : ¬ (ae_ow M = 17 ∧ i = 110)) (hd : decode M.2.1 pc = .ok (.checkcast i, 3)) (hn : ae_ncl (ae_ow M) i = some c) : ae_wp d M pc ls (.null :: st) h Q = ae_wp d M (pc + 3) ls (.null :: st) h Q :=
  ae_wp_next hd (by show ae_g 3 3 (if ae_ow M = 17 ∧ i = 110 then _ else match ae_ncl (ae_ow M) i with | some c => _ | none => none) = _; rw [if_neg hne, hn]; rfl)
theorem ae_split {as rest : List Value} {n : Nat} (hn : as.length = n) : (as.reverse ++ rest).take n = as.reverse ∧ (as.reverse ++ rest).drop n = rest ∧ n ≤ (as.reverse ++ rest).length := by
  refine ⟨by simp [← hn], by simp [← hn], by simp [← hn]⟩
theorem ae_callI (hm : ae_mth (ae_ow M) i = some (kd, M', n, w)) (hk : kd = 0 ∨ kd = 1) (hst : st = as.reverse ++ .ref b :: rest) (hn : as.length = n) (hr : (rest.map fun v => v.category).sum ≤ 8) (heo : ae_eok M' (.ref b :: as) = true) : ae_call M 0 i pc ls st h = some (.inr (.inr (M', .ref b :: as, (pc + 3, ls, rest, h)))) := by
  obtain ⟨q1, q2, q3⟩ := ae_split (as := as) (rest := .ref b :: rest) hn
  unfold ae_call
  rw [hm]
  dsimp only
  rw [if_pos hk, hst, q2]
  dsimp only
  rw [q1, List.reverse_reverse, if_pos ⟨rfl, q3, hr, heo⟩]
theorem ae_callV (hm : ae_mth (ae_ow M) i = some (2, M', n, w)) (hst : st = as.reverse ++ .ref b :: rest) (hn : as.length = n) (hr : (rest.map fun v => v.category).sum ≤ 8) (heo : ae_eok M' (.ref b :: as) = true) (hb : h.1 b = some (.inr (ae_ow M', fs))) : ae_call M 1 i pc ls st h = some (.inr (.inr (M', .ref b :: as, (pc + 3, ls, rest, h)))) := by
  obtain ⟨q1, q2, q3⟩ := ae_split (as := as) (rest := .ref b :: rest) hn
  unfold ae_call
  rw [hm]
  dsimp only
  rw [if_neg (by decide), if_pos rfl, hst, q2]
  dsimp only
  rw [hb]
  dsimp only
  rw [q1, List.reverse_reverse, if_pos ⟨rfl, rfl, q3, hr, heo⟩]
theorem ae_callS (hm : ae_mth (ae_ow M) i = some (kd, M', n, w)) (hk : kd = 4 ∨ kd = 5) (hst : st = as.reverse ++ rest) (hn : as.length = n) (hr : (rest.map fun v => v.category).sum ≤ 8) (heo : ae_eok M' as = true) : ae_call M 2 i pc ls st h = some (.inr (.inr (M', as, (pc + 3, ls, rest, h)))) := by
  obtain ⟨q1, q2, q3⟩ := ae_split (as := as) (rest := rest) hn
  unfold ae_call
  rw [hm]
  dsimp only
  rw [if_neg (by rcases hk with rfl | rfl <;> decide), if_neg (by rcases hk with rfl | rfl <;> decide), if_pos hk, hst, q1, q2, List.reverse_reverse, if_pos ⟨rfl, q3, hr, heo⟩]
theorem wq_callI (hd : decode M.2.1 pc = .ok (.invokespecial i, 3)) (hm : ae_mth (ae_ow M) i = some (kd, M', n, w)) (hk : kd = 0 ∨ kd = 1) (hst : st = as.reverse ++ .ref b :: rest) (hn : as.length = n) (hr : (rest.map fun v => v.category).sum ≤ 8) (heo : ae_eok M' (.ref b :: as) = true) : ae_wp (d + 1) M pc ls st h Q = ae_wm d M' (.ref b :: as) h (fun v h' => ae_wp (d + 1) M (pc + 3) ls (v.toList ++ rest) h' Q) :=
  ae_wp_call hd (show ae_g 3 3 (ae_call M 0 i pc ls st h) = _ from ae_callI hm hk hst hn hr heo)
theorem wq_callV (hne : ¬ (ae_ow M = 17 ∧ i = 86)) (hd : decode M.2.1 pc = .ok (.invokevirtual i, 3)) (hm : ae_mth (ae_ow M) i = some (2, M', n, w)) (hst : st = as.reverse ++ .ref b :: rest) (hn : as.length = n) (hr : (rest.map fun v => v.category).sum ≤ 8) (heo : ae_eok M' (.ref b :: as) = true) (hb : h.1 b = some (.inr (ae_ow M', fs))) : ae_wp (d + 1) M pc ls st h Q = ae_wm d M' (.ref b :: as) h (fun v h' => ae_wp (d + 1) M (pc + 3) ls (v.toList ++ rest) h' Q) :=
  ae_wp_call hd (show ae_g 3 3 (if ae_ow M = 17 ∧ i = 86 then _ else ae_call M 1 i pc ls st h) = _ by rw [if_neg hne]; exact ae_callV hm hst hn hr heo hb)
theorem wq_callS (hd : decode M.2.1 pc = .ok (.invokestatic i, 3)) (hm : ae_mth (ae_ow M) i = some (kd, M', n, w)) (hk : kd = 4 ∨ kd = 5) (hst : st = as.reverse ++ rest) (hn : as.length = n) (hr : (rest.map fun v => v.category).sum ≤ 8) (heo : ae_eok M' as = true) : ae_wp (d + 1) M pc ls st h Q = ae_wm d M' as h (fun v h' => ae_wp (d + 1) M (pc + 3) ls (v.toList ++ rest) h' Q) :=
  ae_wp_call hd (show ae_g 3 3 (ae_call M 2 i pc ls st h) = _ from ae_callS hm hk hst hn hr heo)
theorem wq_obj (hd : decode M.2.1 pc = .ok (.invokespecial i, 3)) (hm : ae_mth (ae_ow M) i = some (6, M', n, w)) (hr : (rest.map fun v => v.category).sum ≤ 8) : ae_wp d M pc ls (.ref b :: rest) h Q = ae_wp d M (pc + 3) ls rest h Q :=
  ae_wp_next hd (by show ae_g 3 3 (ae_call M 0 i pc ls (.ref b :: rest) h) = _; unfold ae_call; rw [hm]; unfold ae_g; rw [if_pos rfl]; dsimp only; rw [if_neg (by decide), if_neg (by decide), if_neg (by decide), if_pos rfl, if_pos ⟨rfl, hr⟩]; rfl)
theorem wq_copy {k dp sp : Int32} {e q n0 n1 : Nat} {f g : Nat → Int32} (hd : decode M.2.1 pc = .ok (.invokestatic i, 3)) (hm : ae_mth (ae_ow M) i = some (7, M', n, w)) (hr : (rest.map fun v => v.category).sum ≤ 8) (hq : h.1 q = some (.inl (0, n0, .inl f))) (he : h.1 e = some (.inl (0, n1, .inl g))) (h1 : ¬ sp < 0) (h2 : ¬ dp < 0) (h3 : ¬ k < 0) (h4 : sp.toNatClampNeg + k.toNatClampNeg ≤ n0) (h5 : dp.toNatClampNeg + k.toNatClampNeg ≤ n1) : ae_wp d M pc ls (.int k :: .int dp :: .ref e :: .int sp :: .ref q :: rest) h Q = ae_wp d M (pc + 3) ls rest (ah_set h e (.inl (0, n1, .inl (va_cpy f g sp.toNatClampNeg dp.toNatClampNeg k.toNatClampNeg)))) Q :=
  ae_wp_next hd (by show ae_g 3 3 (ae_call M 2 i pc ls (.int k :: .int dp :: .ref e :: .int sp :: .ref q :: rest) h) = _; unfold ae_call; rw [hm]; unfold ae_g; rw [if_pos rfl]; dsimp only; rw [if_neg (by decide), if_neg (by decide), if_neg (by decide), if_neg (by decide), if_pos rfl, hq, he]; exact if_pos ⟨rfl, hr, h1, h2, h3, h4, h5⟩)
theorem wq_swD {dflt lo hi : Int} {offs : Array Int} {len : Nat} (hd : decode M.2.1 pc = .ok (.tableswitch dflt lo hi offs, len)) (ht : (pc : Int) + dflt = (t : Int)) (hx : x.toInt < lo ∨ hi < x.toInt) : ae_wp d M pc ls (.int x :: st) h Q = ae_wp d M t ls st h Q :=
  ae_wp_next hd (by show (if x.toInt < lo ∨ hi < x.toInt then ae_j pc dflt ls st h else _) = _; rw [if_pos hx]; unfold ae_j; rw [if_pos (by omega), ht]; rfl)
theorem wq_swI {dflt lo hi o : Int} {offs : Array Int} {len : Nat} (hd : decode M.2.1 pc = .ok (.tableswitch dflt lo hi offs, len)) (ho : offs[(x.toInt - lo).toNat]? = some o) (ht : (pc : Int) + o = (t : Int)) (hx : ¬ (x.toInt < lo ∨ hi < x.toInt)) : ae_wp d M pc ls (.int x :: st) h Q = ae_wp d M t ls st h Q :=
  ae_wp_next hd (by show (if x.toInt < lo ∨ hi < x.toInt then _ else (match offs[(x.toInt - lo).toNat]? with | some off => ae_j pc off ls st h | none => none)) = _; rw [if_neg hx, ho]; dsimp only; unfold ae_j; rw [if_pos (by omega), ht]; rfl)
theorem wq_iconst {z : Int} {v : Int32} (hd : decode M.2.1 pc = .ok (.iconst z, 1)) (hv : Int32.ofInt z = v) : ae_wp d M pc ls st h Q = ae_wp d M (pc + 1) ls (.int v :: st) h Q := hv ▸ ae_wp_next hd rfl
theorem wq_bipush {z : Int} {v : Int32} (hd : decode M.2.1 pc = .ok (.bipush z, 2)) (hv : (Int8.ofInt z).toInt32 = v) : ae_wp d M pc ls st h Q = ae_wp d M (pc + 2) ls (.int v :: st) h Q := hv ▸ ae_wp_next hd rfl
theorem wq_sipush {z : Int} {v : Int32} (hd : decode M.2.1 pc = .ok (.sipush z, 3)) (hv : (Int16.ofInt z).toInt32 = v) : ae_wp d M pc ls st h Q = ae_wp d M (pc + 3) ls (.int v :: st) h Q := hv ▸ ae_wp_next hd rfl
theorem wq_lconst {z : Fin 2} {v : Int64} (hd : decode M.2.1 pc = .ok (.lconst z, 1)) (hv : Int64.ofNat (z : Nat) = v) : ae_wp d M pc ls st h Q = ae_wp d M (pc + 1) ls (.long v :: st) h Q := hv ▸ ae_wp_next hd rfl
theorem wq_null (hd : decode M.2.1 pc = .ok (.aconst_null, 1)) : ae_wp d M pc ls st h Q = ae_wp d M (pc + 1) ls (.null :: st) h Q := ae_wp_next hd rfl
theorem wq_ldc {v : Int32} (hd : decode M.2.1 pc = .ok (.ldc i, 2)) (hv : ae_kint (ae_ow M) i = some v) : ae_wp d M pc ls st h Q = ae_wp d M (pc + 2) ls (.int v :: st) h Q := ae_wp_next hd (by show ae_g 2 2 (match ae_kint (ae_ow M) i with | some v => ae_n (pc + 2) ls (.int v :: st) h | none => _) = _; rw [hv]; rfl)
theorem wq_ldcw {v : Int32} (hd : decode M.2.1 pc = .ok (.ldc_w i, 3)) (hv : ae_kint (ae_ow M) i = some v) : ae_wp d M pc ls st h Q = ae_wp d M (pc + 3) ls (.int v :: st) h Q := ae_wp_next hd (by show ae_g 3 3 (match ae_kint (ae_ow M) i with | some v => ae_n (pc + 3) ls (.int v :: st) h | none => none) = _; rw [hv]; rfl)
theorem wq_ldc2 {v : Int64} (hd : decode M.2.1 pc = .ok (.ldc2_w i, 3)) (hv : ae_klong (ae_ow M) i = some v) : ae_wp d M pc ls st h Q = ae_wp d M (pc + 3) ls (.long v :: st) h Q := ae_wp_next hd (by show ae_g 3 3 (match ae_klong (ae_ow M) i with | some v => ae_n (pc + 3) ls (.long v :: st) h | none => none) = _; rw [hv]; rfl)
theorem wq_ldI {j : Fin 4} (hd : decode M.2.1 pc = .ok (.iload_n j, 1)) (hl : ls[(j : Nat)]? = some (some (.int x))) : ae_wp d M pc ls st h Q = ae_wp d M (pc + 1) ls (.int x :: st) h Q := ae_wp_next hd (by show ae_g 1 1 (ae_ldI ls j _) = _; unfold ae_g ae_ldI; rw [if_pos rfl, hl]; rfl)
theorem wq_ldI2 {j : Nat} (hd : decode M.2.1 pc = .ok (.iload j, 2)) (hl : ls[j]? = some (some (.int x))) : ae_wp d M pc ls st h Q = ae_wp d M (pc + 2) ls (.int x :: st) h Q := ae_wp_next hd (by show ae_g 2 2 (ae_ldI ls j _) = _; unfold ae_g ae_ldI; rw [if_pos rfl, hl]; rfl)
theorem wq_ldJ {j : Fin 4} {u : Int64} (hd : decode M.2.1 pc = .ok (.lload_n j, 1)) (hl : ls[(j : Nat)]? = some (some (.long u))) : ae_wp d M pc ls st h Q = ae_wp d M (pc + 1) ls (.long u :: st) h Q := ae_wp_next hd (by show ae_g 1 1 (ae_ldJ ls j _) = _; unfold ae_g ae_ldJ; rw [if_pos rfl, hl]; rfl)
theorem wq_ldJ2 {j : Nat} {u : Int64} (hd : decode M.2.1 pc = .ok (.lload j, 2)) (hl : ls[j]? = some (some (.long u))) : ae_wp d M pc ls st h Q = ae_wp d M (pc + 2) ls (.long u :: st) h Q := ae_wp_next hd (by show ae_g 2 2 (ae_ldJ ls j _) = _; unfold ae_g ae_ldJ; rw [if_pos rfl, hl]; rfl)
theorem wq_stI {j : Fin 4} {ls' : ae_L} (hd : decode M.2.1 pc = .ok (.istore_n j, 1)) (hs : ae_s1 M j = true) (hl : ls.set j (some (.int x)) = ls') : ae_wp d M pc ls (.int x :: st) h Q = ae_wp d M (pc + 1) ls' st h Q := hl ▸ ae_wp_next hd (by show ae_g 1 1 (ae_stI M j (pc + 1) ls (.int x :: st) h) = _; unfold ae_g ae_stI; rw [if_pos rfl]; dsimp only; rw [if_pos hs]; rfl)
theorem wq_stI2 {j : Nat} {ls' : ae_L} (hd : decode M.2.1 pc = .ok (.istore j, 2)) (hs : ae_s1 M j = true) (hl : ls.set j (some (.int x)) = ls') : ae_wp d M pc ls (.int x :: st) h Q = ae_wp d M (pc + 2) ls' st h Q := hl ▸ ae_wp_next hd (by show ae_g 2 2 (ae_stI M j (pc + 2) ls (.int x :: st) h) = _; unfold ae_g ae_stI; rw [if_pos rfl]; dsimp only; rw [if_pos hs]; rfl)
theorem wq_stJ {j : Fin 4} {u : Int64} {ls' : ae_L} (hd : decode M.2.1 pc = .ok (.lstore_n j, 1)) (hs : ae_s2 M j = true) (hl : (ls.set j (some (.long u))).set (j + 1) none = ls') : ae_wp d M pc ls (.long u :: st) h Q = ae_wp d M (pc + 1) ls' st h Q := hl ▸ ae_wp_next hd (by show ae_g 1 1 (ae_stJ M j (pc + 1) ls (.long u :: st) h) = _; unfold ae_g ae_stJ; rw [if_pos rfl]; dsimp only; rw [if_pos hs]; rfl)
theorem wq_stJ2 {j : Nat} {u : Int64} {ls' : ae_L} (hd : decode M.2.1 pc = .ok (.lstore j, 2)) (hs : ae_s2 M j = true) (hl : (ls.set j (some (.long u))).set (j + 1) none = ls') : ae_wp d M pc ls (.long u :: st) h Q = ae_wp d M (pc + 2) ls' st h Q := hl ▸ ae_wp_next hd (by show ae_g 2 2 (ae_stJ M j (pc + 2) ls (.long u :: st) h) = _; unfold ae_g ae_stJ; rw [if_pos rfl]; dsimp only; rw [if_pos hs]; rfl)
theorem wq_sA {j : Fin 4} {v : Value} {ls' : ae_L} (hd : decode M.2.1 pc = .ok (.astore_n j, 1)) (hs : ae_s1 M j = true) (hl : ls.set j (some v) = ls') (hv : ae_isR v = true) : ae_wp d M pc ls (v :: st) h Q = ae_wp d M (pc + 1) ls' st h Q := hl ▸ wq_stA hd hs hv
theorem wq_sA2 {j : Nat} {v : Value} {ls' : ae_L} (hd : decode M.2.1 pc = .ok (.astore j, 2)) (hs : ae_s1 M j = true) (hl : ls.set j (some v) = ls') (hv : ae_isR v = true) : ae_wp d M pc ls (v :: st) h Q = ae_wp d M (pc + 2) ls' st h Q := hl ▸ wq_stA2 hd hs hv
theorem wq_iinc {z : Int} {v : Int32} {ls' : ae_L} (hd : decode M.2.1 pc = .ok (.iinc i z, 3)) (hl : ls[i]? = some (some (.int x))) (hs : ae_s1 M i = true) (hv : Int32.ofInt z = v) (hs' : ls.set i (some (.int (x + v))) = ls') : ae_wp d M pc ls st h Q = ae_wp d M (pc + 3) ls' st h Q := by
  subst hv; subst hs'
  exact ae_wp_next hd (by show ae_g 3 3 (ae_ldI ls i _) = _; unfold ae_g ae_ldI; rw [if_pos rfl, hl]; dsimp only; rw [if_pos hs]; rfl)
theorem wq_ret (hd : decode M.2.1 pc = .ok (.return_, 1)) (hr : M.2.2.2.1 = none) : ae_wp d M pc ls [] h Q = Q none h := ae_wp_ret hd (by show ae_g 1 1 (if M.2.2.2.1 = none then _ else none) = _; unfold ae_g; rw [if_pos rfl, if_pos hr])
theorem wq_lret {u : Int64} (hd : decode M.2.1 pc = .ok (.lreturn, 1)) (hr : M.2.2.2.1 = some .long) : ae_wp d M pc ls [.long u] h Q = Q (some (.long u)) h := ae_wp_ret hd (by show ae_g 1 1 (if M.2.2.2.1 = some .long then _ else none) = _; unfold ae_g; rw [if_pos rfl, if_pos hr])
theorem wq_ifnullR (hd : decode M.2.1 pc = .ok (.ifnull off, 3)) : ae_wp d M pc ls (.ref a :: st) h Q = ae_wp d M (pc + 3) ls st h Q := ae_wp_next hd rfl
theorem wq_ifnnN (hd : decode M.2.1 pc = .ok (.ifnonnull off, 3)) : ae_wp d M pc ls (.null :: st) h Q = ae_wp d M (pc + 3) ls st h Q := ae_wp_next hd rfl
theorem wq_new {N : Nat} (hd : decode M.2.1 pc = .ok (.new i, 3)) (hn : ae_ncl (ae_ow M) i = some c) (hf : ae_fs c = some (fs, N)) : ae_wp d M pc ls st h Q = ae_wp d M (pc + 3) ls (.ref h.2.1 :: st) (ah_new h (.inr (c, fs)) N) Q := ae_wp_next hd (by show ae_g 3 3 (match ae_ncl (ae_ow M) i with | some c => _ | none => none) = _; rw [hn]; dsimp only; rw [hf]; rfl)
theorem wq_lcmp {u v : Int64} (hd : decode M.2.1 pc = .ok (.lcmp, 1)) : ae_wp d M pc ls (.long v :: .long u :: st) h Q = ae_wp d M (pc + 1) ls (.int (lg_cmp u v) :: st) h Q := ae_wp_next hd rfl
theorem wq_i2l (hd : decode M.2.1 pc = .ok (.i2l, 1)) : ae_wp d M pc ls (.int x :: st) h Q = ae_wp d M (pc + 1) ls (.long x.toInt64 :: st) h Q := ae_wp_next hd rfl
theorem wq_l2i {u : Int64} (hd : decode M.2.1 pc = .ok (.l2i, 1)) : ae_wp d M pc ls (.long u :: st) h Q = ae_wp d M (pc + 1) ls (.int u.toInt32 :: st) h Q := ae_wp_next hd rfl
theorem wq_iadd (hd : decode M.2.1 pc = .ok (.iadd, 1)) : ae_wp d M pc ls (.int y :: .int x :: st) h Q = ae_wp d M (pc + 1) ls (.int (x + y) :: st) h Q := ae_wp_next hd rfl
theorem wq_isub (hd : decode M.2.1 pc = .ok (.isub, 1)) : ae_wp d M pc ls (.int y :: .int x :: st) h Q = ae_wp d M (pc + 1) ls (.int (x - y) :: st) h Q := ae_wp_next hd rfl
theorem wq_imul (hd : decode M.2.1 pc = .ok (.imul, 1)) : ae_wp d M pc ls (.int y :: .int x :: st) h Q = ae_wp d M (pc + 1) ls (.int (x * y) :: st) h Q := ae_wp_next hd rfl
theorem wq_iand (hd : decode M.2.1 pc = .ok (.iand, 1)) : ae_wp d M pc ls (.int y :: .int x :: st) h Q = ae_wp d M (pc + 1) ls (.int (x &&& y) :: st) h Q := ae_wp_next hd rfl
theorem wq_ior (hd : decode M.2.1 pc = .ok (.ior, 1)) : ae_wp d M pc ls (.int y :: .int x :: st) h Q = ae_wp d M (pc + 1) ls (.int (x ||| y) :: st) h Q := ae_wp_next hd rfl
theorem wq_ixor (hd : decode M.2.1 pc = .ok (.ixor, 1)) : ae_wp d M pc ls (.int y :: .int x :: st) h Q = ae_wp d M (pc + 1) ls (.int (x ^^^ y) :: st) h Q := ae_wp_next hd rfl
theorem wq_ishl (hd : decode M.2.1 pc = .ok (.ishl, 1)) : ae_wp d M pc ls (.int y :: .int x :: st) h Q = ae_wp d M (pc + 1) ls (.int (x <<< (y &&& 31)) :: st) h Q := ae_wp_next hd rfl
theorem wq_ishr (hd : decode M.2.1 pc = .ok (.ishr, 1)) : ae_wp d M pc ls (.int y :: .int x :: st) h Q = ae_wp d M (pc + 1) ls (.int (x >>> (y &&& 31)) :: st) h Q := ae_wp_next hd rfl
theorem wq_iushr (hd : decode M.2.1 pc = .ok (.iushr, 1)) : ae_wp d M pc ls (.int y :: .int x :: st) h Q = ae_wp d M (pc + 1) ls (.int ((x.toUInt32 >>> (y.toUInt32 &&& Int32.toUInt32 31)).toInt32) :: st) h Q := ae_wp_next hd rfl
theorem wq_ladd {u v : Int64} (hd : decode M.2.1 pc = .ok (.ladd, 1)) : ae_wp d M pc ls (.long v :: .long u :: st) h Q = ae_wp d M (pc + 1) ls (.long (u + v) :: st) h Q := ae_wp_next hd rfl
theorem wq_lsub {u v : Int64} (hd : decode M.2.1 pc = .ok (.lsub, 1)) : ae_wp d M pc ls (.long v :: .long u :: st) h Q = ae_wp d M (pc + 1) ls (.long (u - v) :: st) h Q := ae_wp_next hd rfl
theorem wq_land {u v : Int64} (hd : decode M.2.1 pc = .ok (.land, 1)) : ae_wp d M pc ls (.long v :: .long u :: st) h Q = ae_wp d M (pc + 1) ls (.long (u &&& v) :: st) h Q := ae_wp_next hd rfl
theorem wq_lor {u v : Int64} (hd : decode M.2.1 pc = .ok (.lor, 1)) : ae_wp d M pc ls (.long v :: .long u :: st) h Q = ae_wp d M (pc + 1) ls (.long (u ||| v) :: st) h Q := ae_wp_next hd rfl
theorem wq_lshl {u : Int64} (hd : decode M.2.1 pc = .ok (.lshl, 1)) : ae_wp d M pc ls (.int y :: .long u :: st) h Q = ae_wp d M (pc + 1) ls (.long (u <<< (y.toInt64 &&& 63)) :: st) h Q := ae_wp_next hd rfl
theorem wq_lshr {u : Int64} (hd : decode M.2.1 pc = .ok (.lshr, 1)) : ae_wp d M pc ls (.int y :: .long u :: st) h Q = ae_wp d M (pc + 1) ls (.long (u >>> (y.toInt64 &&& 63)) :: st) h Q := ae_wp_next hd rfl
theorem wq_lushr {u : Int64} (hd : decode M.2.1 pc = .ok (.lushr, 1)) : ae_wp d M pc ls (.int y :: .long u :: st) h Q = ae_wp d M (pc + 1) ls (.long ((u.toUInt64 >>> (y.toInt64.toUInt64 &&& Int64.toUInt64 63)).toInt64) :: st) h Q := ae_wp_next hd rfl
theorem wq_gets (hd : decode M.2.1 pc = .ok (.getstatic 39, 3)) (ho : ae_ow M = 12) : ae_wp d M pc ls st h Q = ae_wp d M (pc + 3) ls (.ref h.2.2.2.1 :: st) h Q := ae_wp_next hd (by show ae_g 3 3 (if ae_ow M = 12 ∧ (39 : Nat) = 39 then _ else none) = _; rw [if_pos ⟨ho, rfl⟩]; rfl)
theorem wq_ldcM (hd : decode M.2.1 pc = .ok (.ldc 110, 2)) (ho : ae_ow M = 17) (hk : ae_kint (ae_ow M) 110 = none) : ae_wp d M pc ls st h Q = ae_wp d M (pc + 2) ls (.ref h.2.2.2.2 :: st) h Q := ae_wp_next hd (by show ae_g 2 2 (match ae_kint (ae_ow M) 110 with | some v => _ | none => if ae_ow M = 17 ∧ (110 : Nat) = 110 then _ else none) = _; rw [hk]; dsimp only; rw [if_pos ⟨ho, rfl⟩]; rfl)
theorem wq_getC {y : vp_A} (hd : decode M.2.1 pc = .ok (.invokevirtual 86, 3)) (ho : ae_ow M = 17) (hr : (rest.map fun v => v.category).sum ≤ 8) (hc : h.1 a = some (.inl (7, y))) : ae_wp d M pc ls (.ref a :: rest) h Q = ae_wp d M (pc + 3) ls (.ref h.2.2.2.2 :: rest) h Q := ae_wp_next hd (by show ae_g 3 3 (if ae_ow M = 17 ∧ (86 : Nat) = 86 then _ else _) = _; rw [if_pos ⟨ho, rfl⟩]; dsimp only; rw [hc]; exact if_pos hr)
theorem wq_castO {y : vp_A} (hd : decode M.2.1 pc = .ok (.checkcast 110, 3)) (ho : ae_ow M = 17) (hc : h.1 a = some (.inl (7, y))) : ae_wp d M pc ls (.ref a :: st) h Q = ae_wp d M (pc + 3) ls (.ref a :: st) h Q := ae_wp_next hd (by show ae_g 3 3 (if ae_ow M = 17 ∧ (110 : Nat) = 110 then _ else _) = _; rw [if_pos ⟨ho, rfl⟩]; dsimp only; rw [hc]; rfl)
theorem wq_acmp {cd : ACond} {v u : Value} (hd : decode M.2.1 pc = .ok (.if_acmp cd off, 3)) (ht : (pc : Int) + off = (t : Int)) (hv : ae_isR v = true) (hu : ae_isR u = true) : ae_wp d M pc ls (v :: u :: st) h Q = if ae_acnd cd u v = true then ae_wp d M t ls st h Q else ae_wp d M (pc + 3) ls st h Q := by
  have e : ae_exec M (.if_acmp cd off) 3 pc ls (v :: u :: st) h = ae_br (ae_acnd cd u v) pc off ls st h := by
    show ae_g 3 3 (if ae_isR v = true ∧ ae_isR u = true ∧ 0 ≤ (pc : Int) + off then _ else none) = _
    rw [if_pos ⟨hv, hu, by omega⟩]; rfl
  split
  next hb => exact ae_wp_next hd (by rw [e]; unfold ae_br ae_j; rw [if_pos hb, if_pos (by omega), ht]; rfl)
  next hb => exact ae_wp_next hd (by rw [e]; unfold ae_br; rw [if_neg hb]; rfl)
theorem wq_copyO {k dp sp : Int32} {e q n0 n1 : Nat} {f g : Nat → Option Nat} (hd : decode M.2.1 pc = .ok (.invokestatic i, 3)) (hm : ae_mth (ae_ow M) i = some (7, M', n, w)) (hr : (rest.map fun v => v.category).sum ≤ 8) (hq : h.1 q = some (.inl (7, n0, .inr (.inr (.inr (.inr f)))))) (he : h.1 e = some (.inl (7, n1, .inr (.inr (.inr (.inr g)))))) (h1 : ¬ sp < 0) (h2 : ¬ dp < 0) (h3 : ¬ k < 0) (h4 : sp.toNatClampNeg + k.toNatClampNeg ≤ n0) (h5 : dp.toNatClampNeg + k.toNatClampNeg ≤ n1) (h6 : ae_allN h f sp.toNatClampNeg k.toNatClampNeg = true) : ae_wp d M pc ls (.int k :: .int dp :: .ref e :: .int sp :: .ref q :: rest) h Q = ae_wp d M (pc + 3) ls rest (ah_set h e (.inl (7, n1, .inr (.inr (.inr (.inr (va_cpy f g sp.toNatClampNeg dp.toNatClampNeg k.toNatClampNeg))))))) Q :=
  ae_wp_next hd (by show ae_g 3 3 (ae_call M 2 i pc ls (.int k :: .int dp :: .ref e :: .int sp :: .ref q :: rest) h) = _; unfold ae_call; rw [hm]; unfold ae_g; rw [if_pos rfl]; dsimp only; rw [if_neg (by decide), if_neg (by decide), if_neg (by decide), if_neg (by decide), if_pos rfl, hq, he]; exact if_pos ⟨⟨rfl, hr, h1, h2, h3, h4, h5⟩, h6⟩)
theorem wq_aastO {q : Nat} {f : Nat → Option Nat} {j : Int32} (hd : decode M.2.1 pc = .ok (.aastore, 1)) (ha : h.1 a = some (.inl (7, n, .inr (.inr (.inr (.inr f)))))) (hq : h.1 q = some (.inr (0, fs))) (hj : ¬ (j < 0 ∨ n ≤ j.toNatClampNeg)) : ae_wp d M pc ls (.ref q :: .int j :: .ref a :: st) h Q = ae_wp d M (pc + 1) ls st (ah_set h a (.inl (7, n, .inr (.inr (.inr (.inr (va_up f j.toNatClampNeg (some q)))))))) Q := by
  refine ae_wp_next hd ?_
  show ae_g 1 1 (ae_arr h a _) = _
  unfold ae_g ae_arr
  rw [if_pos rfl, ha]
  dsimp only
  rw [hq]
  dsimp only
  rw [if_pos ⟨Or.inr ⟨rfl, rfl⟩, hj⟩]
  rfl
end AEQ2
