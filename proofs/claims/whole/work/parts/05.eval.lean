/-! THE PURE MACHINE: a state is a place in a method, its locals, its stack and a heap of cells by address; ae_run says what a method answers, as a function. Part 06 shows that the machine does just that. -/
abbrev ah_C : Type := (Nat × vp_A) ⊕ (Nat × List Value)
/-- cells by address; the next address; how many fields and elements have been made; the addresses of ArrayList's empty array and of Object[]'s class object -/
abbrev ah_H : Type := (Nat → Option ah_C) × Nat × Nat × Nat × Nat
def ah_set (h : ah_H) (a : Nat) (c : ah_C) : ah_H := (va_up h.1 a (some c), h.2)
def ah_new (h : ah_H) (c : ah_C) (n : Nat) : ah_H := (va_up h.1 h.2.1 (some c), h.2.1 + 1, h.2.2.1 + n, h.2.2.2)
/-- rows of an int[n][k]: the outer one at the next address, the inner ones behind it -/
def ah_new2 (h : ah_H) (n k : Nat) : ah_H := (fun a => if a = h.2.1 then some (.inl (6, n, .inr (.inr (.inr (.inr (fun i => if i < n then some (h.2.1 + 1 + i) else none)))))) else if h.2.1 < a ∧ a ≤ h.2.1 + n then some (.inl (0, k, .inl (fun _ => 0))) else h.1 a, h.2.1 + 1 + n, h.2.2.1 + n + n * k, h.2.2.2)
abbrev ae_L : Type := List (Option Value)
abbrev ae_cfg : Type := Nat × ae_L × List Value × ah_H
abbrev ae_out : Type := ae_cfg ⊕ ((Option Value × ah_H) ⊕ (ae_M × List Value × ae_cfg))
abbrev ae_ow (M : ae_M) : Nat := M.2.2.2.2.1
/-- a field: by the tables; of ArrayList (12) and AbstractList (22) as they stand here -/
def ae_fld (o i : Nat) : Option (Nat × Nat × String) := if o = 12 then (if i = 9 then some (12, 1, "") else if i = 48 then some (12, 2, "") else if i = 63 then some (12, 0, "") else none) else if o = 22 then (if i = 7 then some (12, 0, "") else none) else ((ae_fl o).find? (fun x => x.1 == i)).map (fun x => x.2)
def ae_mth (o i : Nat) : Option (Nat × ae_M × Nat × String) := ((ae_ml o).find? (fun x => x.1 == i)).map (fun x => x.2)
def ae_kint (o i : Nat) : Option Int32 := (ae_ki.find? (fun x => x.1 == o && x.2.1 == i)).map (fun x => x.2.2)
def ae_klong (o i : Nat) : Option Int64 := (ae_kl.find? (fun x => x.1 == o && x.2.1 == i)).map (fun x => x.2.2)
def ae_ncl (o i : Nat) : Option Nat := (ae_nl.find? (fun x => x.1 == o && x.2.1 == i)).map (fun x => x.2.2)
def ae_acl (o i : Nat) : Option Nat := (ae_al.find? (fun x => x.1 == o && x.2.1 == i)).map (fun x => x.2.2)
def ae_n (pc : Nat) (ls : ae_L) (st : List Value) (h : ah_H) : Option ae_out := some (.inl (pc, ls, st, h))
def ae_g (len k : Nat) (o : Option ae_out) : Option ae_out := if len = k then o else none
def ae_isR : Value → Bool
  | .ref _ => true
  | .null => true
  | _ => false
def ae_ldI (ls : ae_L) (i : Nat) (K : Int32 → Option ae_out) : Option ae_out := match ls[i]? with
  | some (some (.int x)) => K x
  | _ => none
def ae_ldJ (ls : ae_L) (i : Nat) (K : Int64 → Option ae_out) : Option ae_out := match ls[i]? with
  | some (some (.long x)) => K x
  | _ => none
def ae_ldA (ls : ae_L) (i : Nat) (K : Value → Option ae_out) : Option ae_out := match ls[i]? with
  | some (some v) => if ae_isR v = true then K v else none
  | _ => none
def ae_s1 (M : ae_M) (i : Nat) : Bool := decide (i < M.2.2.1) && M.2.2.2.2.2.1.all (fun j => !(j + 1 == i))
def ae_s2 (M : ae_M) (i : Nat) : Bool := decide (i + 1 < M.2.2.1) && (M.2.2.2.2.2.1.contains i && M.2.2.2.2.2.1.all (fun j => !(j + 1 == i)))
def ae_stI (M : ae_M) (i pc : Nat) (ls : ae_L) (st : List Value) (h : ah_H) : Option ae_out := match st with
  | .int x :: r => if ae_s1 M i = true then ae_n pc (ls.set i (some (.int x))) r h else none
  | _ => none
def ae_stJ (M : ae_M) (i pc : Nat) (ls : ae_L) (st : List Value) (h : ah_H) : Option ae_out := match st with
  | .long x :: r => if ae_s2 M i = true then ae_n pc ((ls.set i (some (.long x))).set (i + 1) none) r h else none
  | _ => none
def ae_stA (M : ae_M) (i pc : Nat) (ls : ae_L) (st : List Value) (h : ah_H) : Option ae_out := match st with
  | v :: r => if ae_isR v = true ∧ ae_s1 M i = true then ae_n pc (ls.set i (some v)) r h else none
  | _ => none
def ae_ii (f : Int32 → Int32 → Int32) (pc : Nat) (ls : ae_L) (st : List Value) (h : ah_H) : Option ae_out := match st with
  | .int y :: .int x :: r => ae_n (pc + 1) ls (.int (f x y) :: r) h
  | _ => none
def ae_iz (f : Int32 → Int32 → Int32) (pc : Nat) (ls : ae_L) (st : List Value) (h : ah_H) : Option ae_out := match st with
  | .int y :: .int x :: r => if y = 0 then none else ae_n (pc + 1) ls (.int (f x y) :: r) h
  | _ => none
def ae_jj (f : Int64 → Int64 → Int64) (pc : Nat) (ls : ae_L) (st : List Value) (h : ah_H) : Option ae_out := match st with
  | .long y :: .long x :: r => ae_n (pc + 1) ls (.long (f x y) :: r) h
  | _ => none
def ae_ji (f : Int64 → Int32 → Int64) (pc : Nat) (ls : ae_L) (st : List Value) (h : ah_H) : Option ae_out := match st with
  | .int y :: .long x :: r => ae_n (pc + 1) ls (.long (f x y) :: r) h
  | _ => none
def ae_j (pc : Nat) (off : Int) (ls : ae_L) (st : List Value) (h : ah_H) : Option ae_out := if 0 ≤ (pc : Int) + off then ae_n ((pc : Int) + off).toNat ls st h else none
def ae_cnd (c : ClassFile.Cond) (x y : Int32) : Bool := match c with
  | .eq => decide (x = y)
  | .ne => decide (¬ x = y)
  | .lt => decide (x < y)
  | .ge => decide (y ≤ x)
  | .gt => decide (y < x)
  | .le => decide (x ≤ y)
def ae_acnd (c : ACond) (w v : Value) : Bool := match c with
  | .eq => decide (w = v)
  | .ne => decide (¬ w = v)
def ae_br (b : Bool) (pc : Nat) (off : Int) (ls : ae_L) (st : List Value) (h : ah_H) : Option ae_out := if b = true then ae_j pc off ls st h else ae_n (pc + 3) ls st h
def ae_fin (c k : Nat) : Bool := match ae_cl[c]? with
  | some r => (r.2.1 k).2.2.2
  | none => false
def ae_dcl (c k : Nat) : String := match ae_cl[c]? with
  | some r => (r.2.1 k).1
  | none => ""
def ae_pok (M : ae_M) (c k : Nat) (w : String) : Bool := !ae_fin c k || (w == "" && (M.1.name == "<init>" && ae_dcl c k == ae_on (ae_ow M)))
def ae_get (h : ah_H) (a c k : Nat) (K : Value → Option ae_out) : Option ae_out := match h.1 a with
  | some (.inr (c', fs)) => if c' = c then (match fs[k]? with | some v => K v | none => none) else none
  | _ => none
def ae_put (M : ae_M) (h : ah_H) (a c k : Nat) (w : String) (v : Value) (K : ah_H → Option ae_out) : Option ae_out := match h.1 a with
  | some (.inr (c', fs)) => if c' = c ∧ k < fs.length ∧ narrow (ae_ty c k) v = v ∧ fits (ae_ty c k) v = true ∧ ae_pok M c k w = true then K (ah_set h a (.inr (c, fs.set k v))) else none
  | _ => none
def ae_arr (h : ah_H) (a : Nat) (K : Nat → vp_A → Option ae_out) : Option ae_out := match h.1 a with
  | some (.inl (t, x)) => K t x
  | _ => none
def ae_fs (c : Nat) : Option (List Value × Nat) := match ae_cl[c]? with
  | some r => some ((List.range r.2.2).map (fun k => defaultValue (ae_ty c k)), r.2.2)
  | none => none
def ae_na (at_ : ArrayType) (N : Nat) : Option ah_C := match at_ with
  | .int => some (.inl (0, N, .inl (fun _ => 0)))
  | .boolean => some (.inl (1, N, .inl (fun _ => 0)))
  | .long => some (.inl (2, N, .inr (.inl (fun _ => 0))))
  | _ => none
/-- the objects of f's stretch are Nodes (or there are none) -/
def ae_allN (h : ah_H) (f : Nat → Option Nat) (sp n : Nat) : Bool := (List.range n).all (fun i => match f (sp + i) with
  | none => true
  | some q => (match h.1 q with | some (.inr (0, _)) => true | _ => false))
def ae_ent (M : ae_M) (as : List Value) : ae_L := as.flatMap (fun v => if v.category = 2 then [some v, none] else [some v]) ++ List.replicate (M.2.2.1 - (as.flatMap (fun v => if v.category = 2 then [some v, none] else [some v])).length) none
def ae_jok (J : List Nat) : Nat → List Value → Bool
  | _, [] => true
  | i, v :: vs => if v.category = 2 then J.contains i && ae_jok J (i + 2) vs else ae_jok J (i + 1) vs
def ae_eok (M : ae_M) (as : List Value) : Bool := decide ((ae_ent M as).length = M.2.2.1) && ae_jok M.2.2.2.2.2.1 0 as
/-- a call: op 0 invokespecial, 1 invokevirtual, 2 invokestatic -/
def ae_call (M : ae_M) (op i pc : Nat) (ls : ae_L) (st : List Value) (h : ah_H) : Option ae_out := match ae_mth (ae_ow M) i with
  | none => none
  | some (kind, M', n, _) =>
    if kind = 0 ∨ kind = 1 then (match st.drop n with
      | .ref b :: rest => if op = 0 ∧ n ≤ st.length ∧ (rest.map fun v => v.category).sum ≤ 8 ∧ ae_eok M' (.ref b :: (st.take n).reverse) = true then some (.inr (.inr (M', .ref b :: (st.take n).reverse, (pc + 3, ls, rest, h)))) else none
      | _ => none)
    else if kind = 2 then (match st.drop n with
      | .ref b :: rest => (match h.1 b with
        | some (.inr (c', _)) => if c' = ae_ow M' ∧ op = 1 ∧ n ≤ st.length ∧ (rest.map fun v => v.category).sum ≤ 8 ∧ ae_eok M' (.ref b :: (st.take n).reverse) = true then some (.inr (.inr (M', .ref b :: (st.take n).reverse, (pc + 3, ls, rest, h)))) else none
        | _ => none)
      | _ => none)
    else if kind = 4 ∨ kind = 5 then (if op = 2 ∧ n ≤ st.length ∧ ((st.drop n).map fun v => v.category).sum ≤ 8 ∧ ae_eok M' (st.take n).reverse = true then some (.inr (.inr (M', (st.take n).reverse, (pc + 3, ls, st.drop n, h)))) else none)
    else if kind = 6 then (match st with
      | .ref _ :: rest => if op = 0 ∧ (rest.map fun v => v.category).sum ≤ 8 then ae_n (pc + 3) ls rest h else none
      | _ => none)
    else if kind = 7 then (match st with
      | .int n :: .int dp :: .ref d :: .int sp :: .ref q :: rest => (match h.1 q, h.1 d with
        | some (.inl (0, n0, .inl f)), some (.inl (0, n1, .inl g)) => if op = 2 ∧ (rest.map fun v => v.category).sum ≤ 8 ∧ ¬ sp < 0 ∧ ¬ dp < 0 ∧ ¬ n < 0 ∧ sp.toNatClampNeg + n.toNatClampNeg ≤ n0 ∧ dp.toNatClampNeg + n.toNatClampNeg ≤ n1 then ae_n (pc + 3) ls rest (ah_set h d (.inl (0, n1, .inl (va_cpy f g sp.toNatClampNeg dp.toNatClampNeg n.toNatClampNeg)))) else none
        | some (.inl (7, n0, .inr (.inr (.inr (.inr f))))), some (.inl (7, n1, .inr (.inr (.inr (.inr g))))) => if (op = 2 ∧ (rest.map fun v => v.category).sum ≤ 8 ∧ ¬ sp < 0 ∧ ¬ dp < 0 ∧ ¬ n < 0 ∧ sp.toNatClampNeg + n.toNatClampNeg ≤ n0 ∧ dp.toNatClampNeg + n.toNatClampNeg ≤ n1) ∧ ae_allN h f sp.toNatClampNeg n.toNatClampNeg = true then ae_n (pc + 3) ls rest (ah_set h d (.inl (7, n1, .inr (.inr (.inr (.inr (va_cpy f g sp.toNatClampNeg dp.toNatClampNeg n.toNatClampNeg))))))) else none
        | _, _ => none)
      | _ => none)
    else none
def ae_exec (M : ae_M) (ins : Instr) (len pc : Nat) (ls : ae_L) (st : List Value) (h : ah_H) : Option ae_out := match ins with
  | .iconst n => ae_g len 1 (ae_n (pc + 1) ls (.int (Int32.ofInt n) :: st) h)
  | .bipush n => ae_g len 2 (ae_n (pc + 2) ls (.int (Int8.ofInt n).toInt32 :: st) h)
  | .sipush n => ae_g len 3 (ae_n (pc + 3) ls (.int (Int16.ofInt n).toInt32 :: st) h)
  | .lconst n => ae_g len 1 (ae_n (pc + 1) ls (.long (Int64.ofNat (n : Nat)) :: st) h)
  | .aconst_null => ae_g len 1 (ae_n (pc + 1) ls (.null :: st) h)
  | .ldc i => ae_g len 2 (match ae_kint (ae_ow M) i with | some v => ae_n (pc + 2) ls (.int v :: st) h | none => if ae_ow M = 17 ∧ i = 110 then ae_n (pc + 2) ls (.ref h.2.2.2.2 :: st) h else none)
  | .ldc_w i => ae_g len 3 (match ae_kint (ae_ow M) i with | some v => ae_n (pc + 3) ls (.int v :: st) h | none => none)
  | .ldc2_w i => ae_g len 3 (match ae_klong (ae_ow M) i with | some v => ae_n (pc + 3) ls (.long v :: st) h | none => none)
  | .iload_n k => ae_g len 1 (ae_ldI ls k (fun x => ae_n (pc + 1) ls (.int x :: st) h))
  | .iload k => ae_g len 2 (ae_ldI ls k (fun x => ae_n (pc + 2) ls (.int x :: st) h))
  | .lload_n k => ae_g len 1 (ae_ldJ ls k (fun x => ae_n (pc + 1) ls (.long x :: st) h))
  | .lload k => ae_g len 2 (ae_ldJ ls k (fun x => ae_n (pc + 2) ls (.long x :: st) h))
  | .aload_n k => ae_g len 1 (ae_ldA ls k (fun x => ae_n (pc + 1) ls (x :: st) h))
  | .aload k => ae_g len 2 (ae_ldA ls k (fun x => ae_n (pc + 2) ls (x :: st) h))
  | .istore_n k => ae_g len 1 (ae_stI M k (pc + 1) ls st h)
  | .istore k => ae_g len 2 (ae_stI M k (pc + 2) ls st h)
  | .lstore_n k => ae_g len 1 (ae_stJ M k (pc + 1) ls st h)
  | .lstore k => ae_g len 2 (ae_stJ M k (pc + 2) ls st h)
  | .astore_n k => ae_g len 1 (ae_stA M k (pc + 1) ls st h)
  | .astore k => ae_g len 2 (ae_stA M k (pc + 2) ls st h)
  | .iinc i n => ae_g len 3 (ae_ldI ls i (fun x => if ae_s1 M i = true then ae_n (pc + 3) (ls.set i (some (.int (x + Int32.ofInt n)))) st h else none))
  | .iadd => ae_g len 1 (ae_ii (fun x y => x + y) pc ls st h)
  | .isub => ae_g len 1 (ae_ii (fun x y => x - y) pc ls st h)
  | .imul => ae_g len 1 (ae_ii (fun x y => x * y) pc ls st h)
  | .iand => ae_g len 1 (ae_ii (fun x y => x &&& y) pc ls st h)
  | .ior => ae_g len 1 (ae_ii (fun x y => x ||| y) pc ls st h)
  | .ixor => ae_g len 1 (ae_ii (fun x y => x ^^^ y) pc ls st h)
  | .ishl => ae_g len 1 (ae_ii (fun x y => x <<< (y &&& 31)) pc ls st h)
  | .ishr => ae_g len 1 (ae_ii (fun x y => x >>> (y &&& 31)) pc ls st h)
  | .iushr => ae_g len 1 (ae_ii (fun x y => (x.toUInt32 >>> (y.toUInt32 &&& Int32.toUInt32 31)).toInt32) pc ls st h)
  | .idiv => ae_g len 1 (ae_iz (fun x y => x / y) pc ls st h)
  | .irem => ae_g len 1 (ae_iz (fun x y => x - x / y * y) pc ls st h)
  | .ladd => ae_g len 1 (ae_jj (fun x y => x + y) pc ls st h)
  | .lsub => ae_g len 1 (ae_jj (fun x y => x - y) pc ls st h)
  | .land => ae_g len 1 (ae_jj (fun x y => x &&& y) pc ls st h)
  | .lor => ae_g len 1 (ae_jj (fun x y => x ||| y) pc ls st h)
  | .lshl => ae_g len 1 (ae_ji (fun x y => x <<< (y.toInt64 &&& 63)) pc ls st h)
  | .lshr => ae_g len 1 (ae_ji (fun x y => x >>> (y.toInt64 &&& 63)) pc ls st h)
  | .lushr => ae_g len 1 (ae_ji (fun x y => (x.toUInt64 >>> (y.toInt64.toUInt64 &&& Int64.toUInt64 63)).toInt64) pc ls st h)
  | .lcmp => ae_g len 1 (match st with | .long y :: .long x :: r => ae_n (pc + 1) ls (.int (lg_cmp x y) :: r) h | _ => none)
  | .i2l => ae_g len 1 (match st with | .int x :: r => ae_n (pc + 1) ls (.long x.toInt64 :: r) h | _ => none)
  | .l2i => ae_g len 1 (match st with | .long x :: r => ae_n (pc + 1) ls (.int x.toInt32 :: r) h | _ => none)
  | .dup => ae_g len 1 (match st with | v :: r => if v.category = 1 then ae_n (pc + 1) ls (v :: v :: r) h else none | _ => none)
  | .pop => ae_g len 1 (match st with | v :: r => if v.category = 1 then ae_n (pc + 1) ls r h else none | _ => none)
  | .dup_x1 => ae_g len 1 (match st with | v :: w :: r => if v.category = 1 ∧ w.category = 1 then ae_n (pc + 1) ls (v :: w :: v :: r) h else none | _ => none)
  | .dup2 => ae_g len 1 (match st with | v :: w :: r => if v.category = 1 ∧ w.category = 1 then ae_n (pc + 1) ls (v :: w :: v :: w :: r) h else none | _ => none)
  | .ifCond c off => ae_g len 3 (match st with | .int x :: r => ae_br (ae_cnd c x 0) pc off ls r h | _ => none)
  | .if_icmp c off => ae_g len 3 (match st with | .int y :: .int x :: r => ae_br (ae_cnd c x y) pc off ls r h | _ => none)
  | .ifnull off => ae_g len 3 (match st with | .null :: r => ae_j pc off ls r h | .ref _ :: r => ae_n (pc + 3) ls r h | _ => none)
  | .ifnonnull off => ae_g len 3 (match st with | .ref _ :: r => ae_j pc off ls r h | .null :: r => ae_n (pc + 3) ls r h | _ => none)
  | .if_acmp c off => ae_g len 3 (match st with | v :: w :: r => if ae_isR v = true ∧ ae_isR w = true ∧ 0 ≤ (pc : Int) + off then ae_br (ae_acnd c w v) pc off ls r h else none | _ => none)
  | .getstatic i => ae_g len 3 (if ae_ow M = 12 ∧ i = 39 then ae_n (pc + 3) ls (.ref h.2.2.2.1 :: st) h else none)
  | .goto off => ae_g len 3 (ae_j pc off ls st h)
  | .tableswitch dflt lo hi offs => (match st with | .int x :: r => if x.toInt < lo ∨ hi < x.toInt then ae_j pc dflt ls r h else (match offs[(x.toInt - lo).toNat]? with | some off => ae_j pc off ls r h | none => none) | _ => none)
  | .getfield i => ae_g len 3 (match ae_fld (ae_ow M) i with | some (c, k, _) => (match st with | .ref a :: r => ae_get h a c k (fun v => ae_n (pc + 3) ls (v :: r) h) | _ => none) | none => none)
  | .putfield i => ae_g len 3 (match ae_fld (ae_ow M) i with | some (c, k, w) => (match st with | v :: .ref a :: r => ae_put M h a c k w v (fun h' => ae_n (pc + 3) ls r h') | _ => none) | none => none)
  | .arraylength => ae_g len 1 (match st with | .ref a :: r => ae_arr h a (fun _ x => ae_n (pc + 1) ls (.int (Int32.ofNat x.1) :: r) h) | _ => none)
  | .iaload => ae_g len 1 (match st with | .int j :: .ref a :: r => ae_arr h a (fun t x => match x with | (n, .inl f) => if (t = 0 ∨ t = 99) ∧ ¬ (j < 0 ∨ n ≤ j.toNatClampNeg) then ae_n (pc + 1) ls (.int (f j.toNatClampNeg) :: r) h else none | _ => none) | _ => none)
  | .baload => ae_g len 1 (match st with | .int j :: .ref a :: r => ae_arr h a (fun t x => match x with | (n, .inl f) => if t = 1 ∧ ¬ (j < 0 ∨ n ≤ j.toNatClampNeg) then ae_n (pc + 1) ls (.int (f j.toNatClampNeg) :: r) h else none | _ => none) | _ => none)
  | .laload => ae_g len 1 (match st with | .int j :: .ref a :: r => ae_arr h a (fun t x => match x with | (n, .inr (.inl f)) => if t = 2 ∧ ¬ (j < 0 ∨ n ≤ j.toNatClampNeg) then ae_n (pc + 1) ls (.long (f j.toNatClampNeg) :: r) h else none | _ => none) | _ => none)
  | .aaload => ae_g len 1 (match st with | .int j :: .ref a :: r => ae_arr h a (fun t x => match x with | (n, .inr (.inr (.inr (.inr f)))) => if (3 ≤ t ∧ t ≤ 7) ∧ ¬ (j < 0 ∨ n ≤ j.toNatClampNeg) then ae_n (pc + 1) ls (va_rf (f j.toNatClampNeg) :: r) h else none | _ => none) | _ => none)
  | .iastore => ae_g len 1 (match st with | .int v :: .int j :: .ref a :: r => ae_arr h a (fun t x => match x with | (n, .inl f) => if t = 0 ∧ ¬ (j < 0 ∨ n ≤ j.toNatClampNeg) then ae_n (pc + 1) ls r (ah_set h a (.inl (0, n, .inl (upd f j.toNatClampNeg v)))) else none | _ => none) | _ => none)
  | .bastore => ae_g len 1 (match st with | .int v :: .int j :: .ref a :: r => ae_arr h a (fun t x => match x with | (n, .inl f) => if t = 1 ∧ ¬ (j < 0 ∨ n ≤ j.toNatClampNeg) then ae_n (pc + 1) ls r (ah_set h a (.inl (1, n, .inl (upd f j.toNatClampNeg (vp_nar .boolean v))))) else none | _ => none) | _ => none)
  | .lastore => ae_g len 1 (match st with | .long v :: .int j :: .ref a :: r => ae_arr h a (fun t x => match x with | (n, .inr (.inl f)) => if t = 2 ∧ ¬ (j < 0 ∨ n ≤ j.toNatClampNeg) then ae_n (pc + 1) ls r (ah_set h a (.inl (2, n, .inr (.inl (vp_updL f j.toNatClampNeg v))))) else none | _ => none) | _ => none)
  | .aastore => ae_g len 1 (match st with
    | .null :: .int j :: .ref a :: r => ae_arr h a (fun t x => match x with | (n, .inr (.inr (.inr (.inr f)))) => if (3 ≤ t ∧ t ≤ 5) ∧ ¬ (j < 0 ∨ n ≤ j.toNatClampNeg) then ae_n (pc + 1) ls r (ah_set h a (.inl (t, n, .inr (.inr (.inr (.inr (va_up f j.toNatClampNeg none))))))) else none | _ => none)
    | .ref q :: .int j :: .ref a :: r => ae_arr h a (fun t x => match x with | (n, .inr (.inr (.inr (.inr f)))) => (match h.1 q with | some (.inr (c', _)) => if (((3 ≤ t ∧ t ≤ 5) ∧ ae_T t = some (.object (ae_on c'))) ∨ (t = 7 ∧ c' = 0)) ∧ ¬ (j < 0 ∨ n ≤ j.toNatClampNeg) then ae_n (pc + 1) ls r (ah_set h a (.inl (t, n, .inr (.inr (.inr (.inr (va_up f j.toNatClampNeg (some q)))))))) else none | _ => none) | _ => none)
    | _ => none)
  | .new i => ae_g len 3 (match ae_ncl (ae_ow M) i with | some c => (match ae_fs c with | some (fs, N) => ae_n (pc + 3) ls (.ref h.2.1 :: st) (ah_new h (.inr (c, fs)) N) | none => none) | none => none)
  | .newarray t => ae_g len 2 (match st with | .int n :: r => if n < 0 ∨ 65536 < n.toNatClampNeg then none else (match ae_na t n.toNatClampNeg with | some c => ae_n (pc + 2) ls (.ref h.2.1 :: r) (ah_new h c n.toNatClampNeg) | none => none) | _ => none)
  | .anewarray i => ae_g len 3 (match ae_acl (ae_ow M) i with | some t => (match st with | .int n :: r => if n < 0 ∨ 65536 < n.toNatClampNeg then none else ae_n (pc + 3) ls (.ref h.2.1 :: r) (ah_new h (.inl (t, n.toNatClampNeg, .inr (.inr (.inr (.inr (fun _ => none)))))) n.toNatClampNeg) | _ => none) | none => none)
  | .multianewarray i d => ae_g len 4 (if ae_ow M = 11 ∧ i = 20 ∧ d = 2 then (match st with | .int k :: .int n :: r => if n < 0 ∨ k < 0 ∨ 65536 < n.toNatClampNeg ∨ 65536 < k.toNatClampNeg then none else ae_n (pc + 4) ls (.ref h.2.1 :: r) (ah_new2 h n.toNatClampNeg k.toNatClampNeg) | _ => none) else none)
  | .checkcast i => ae_g len 3 (if ae_ow M = 17 ∧ i = 110 then (match st with | .ref a :: r => (match h.1 a with | some (.inl (7, _)) => ae_n (pc + 3) ls (.ref a :: r) h | _ => none) | _ => none) else match ae_ncl (ae_ow M) i with | some c => (match st with | .null :: r => ae_n (pc + 3) ls (.null :: r) h | .ref a :: r => (match h.1 a with | some (.inr (c', _)) => if c' = c then ae_n (pc + 3) ls (.ref a :: r) h else none | _ => none) | _ => none) | none => none)
  | .invokespecial i => ae_g len 3 (ae_call M 0 i pc ls st h)
  | .invokevirtual i => ae_g len 3 (if ae_ow M = 17 ∧ i = 86 then (match st with | .ref a :: r => (match h.1 a with | some (.inl (7, _)) => if (r.map fun v => v.category).sum ≤ 8 then ae_n (pc + 3) ls (.ref h.2.2.2.2 :: r) h else none | _ => none) | _ => none) else ae_call M 1 i pc ls st h)
  | .invokestatic i => ae_g len 3 (ae_call M 2 i pc ls st h)
  | .ireturn => ae_g len 1 (match st, M.2.2.2.1 with | [.int v], some ty => if narrow ty (.int v) = .int v then some (.inr (.inl (some (.int v), h))) else none | _, _ => none)
  | .lreturn => ae_g len 1 (match st with | [.long v] => if M.2.2.2.1 = some .long then some (.inr (.inl (some (.long v), h))) else none | _ => none)
  | .areturn => ae_g len 1 (match st, M.2.2.2.1 with | [v], some ty => if ae_isR v = true ∧ ty.isReference = true then some (.inr (.inl (some v, h))) else none | _, _ => none)
  | .return_ => ae_g len 1 (match st with | [] => if M.2.2.2.1 = none then some (.inr (.inl (none, h))) else none | _ => none)
  | _ => none
def ae_run : Nat → Nat → ae_M → Nat → ae_L → List Value → ah_H → Option (Option Value × ah_H)
  | 0, _, _, _, _, _, _ => none
  | k + 1, d, M, pc, ls, st, h =>
    match decode M.2.1 pc with
    | .ok (ins, len) => (match ae_exec M ins len pc ls st h with
      | some (.inl (pc', ls', st', h')) => ae_run k d M pc' ls' st' h'
      | some (.inr (.inl r)) => some r
      | some (.inr (.inr (M', as, (pc', ls', st', h')))) => (match d with
        | 0 => none
        | d' + 1 => (match ae_run k d' M' 0 (ae_ent M' as) [] h' with
          | some (v, h'') => ae_run k (d' + 1) M pc' ls' (v.toList ++ st') h''
          | none => none))
      | none => none)
    | .error _ => none
theorem ae_run_mono : ∀ (k d : Nat) (M : ae_M) (pc : Nat) (ls : ae_L) (st : List Value) (h : ah_H) (r : Option Value × ah_H), ae_run k d M pc ls st h = some r → ∀ n, k ≤ n → ae_run n d M pc ls st h = some r := by
  intro k
  induction k with
  | zero => intro d M pc ls st h r hr; simp [ae_run] at hr
  | succ k ih =>
    intro d M pc ls st h r hr n hn
    obtain ⟨n, rfl⟩ : ∃ m, n = m + 1 := ⟨n - 1, by omega⟩
    have hn' : k ≤ n := by omega
    unfold ae_run at hr ⊢
    cases hd : decode M.2.1 pc with
    | error _ => rw [hd] at hr; simp at hr
    | ok x =>
      obtain ⟨ins, len⟩ := x
      rw [hd] at hr
      dsimp only at hr ⊢
      cases he : ae_exec M ins len pc ls st h with
      | none => rw [he] at hr; simp at hr
      | some o =>
        rw [he] at hr
        rcases o with ⟨pc', ls', st', h'⟩ | r' | ⟨M', as, pc', ls', st', h'⟩
        · exact ih _ _ _ _ _ _ _ hr n hn'
        · exact hr
        · cases d with
          | zero => simp at hr
          | succ d' =>
            dsimp only at hr ⊢
            cases hc : ae_run k d' M' 0 (ae_ent M' as) [] h' with
            | none => rw [hc] at hr; simp at hr
            | some q =>
              obtain ⟨v, h''⟩ := q
              rw [hc] at hr
              rw [ih _ _ _ _ _ _ _ hc n hn']
              exact ih _ _ _ _ _ _ _ hr n hn'
/-- from here the method comes to its end with Q of its answer and heap; d: how many calls may stand open above it -/
def ae_wp (d : Nat) (M : ae_M) (pc : Nat) (ls : ae_L) (st : List Value) (h : ah_H) (Q : Option Value → ah_H → Prop) : Prop := ∃ k v h', ae_run k d M pc ls st h = some (v, h') ∧ Q v h'
def ae_wm (d : Nat) (M : ae_M) (as : List Value) (h : ah_H) (Q : Option Value → ah_H → Prop) : Prop := ae_wp d M 0 (ae_ent M as) [] h Q
theorem ae_wp.mono {d : Nat} {M : ae_M} {pc : Nat} {ls : ae_L} {st : List Value} {h : ah_H} {Q Q' : Option Value → ah_H → Prop} (hw : ae_wp d M pc ls st h Q) (hq : ∀ v h', Q v h' → Q' v h') : ae_wp d M pc ls st h Q' := by
  obtain ⟨k, v, h', h1, h2⟩ := hw
  exact ⟨k, v, h', h1, hq _ _ h2⟩
theorem ae_wm.mono {d : Nat} {M : ae_M} {as : List Value} {h : ah_H} {Q Q' : Option Value → ah_H → Prop} (hw : ae_wm d M as h Q) (hq : ∀ v h', Q v h' → Q' v h') : ae_wm d M as h Q' := ae_wp.mono hw hq
section AEW
variable {d : Nat} {M : ae_M} {pc : Nat} {ls : ae_L} {st : List Value} {h : ah_H} {Q : Option Value → ah_H → Prop} {ins : Instr} {len : Nat}
theorem ae_wp_next (hd : decode M.2.1 pc = .ok (ins, len)) {pc' : Nat} {ls' : ae_L} {st' : List Value} {h' : ah_H} (he : ae_exec M ins len pc ls st h = some (.inl (pc', ls', st', h'))) : ae_wp d M pc ls st h Q = ae_wp d M pc' ls' st' h' Q := by
  apply propext
  constructor
  · rintro ⟨k, v, h1, hr, hq⟩
    cases k with
    | zero => simp [ae_run] at hr
    | succ k =>
      unfold ae_run at hr
      rw [hd] at hr
      dsimp only at hr
      rw [he] at hr
      exact ⟨k, v, h1, hr, hq⟩
  · rintro ⟨k, v, h1, hr, hq⟩
    refine ⟨k + 1, v, h1, ?_, hq⟩
    unfold ae_run
    rw [hd]
    dsimp only
    rw [he]
    exact hr
theorem ae_wp_ret (hd : decode M.2.1 pc = .ok (ins, len)) {v : Option Value} {h' : ah_H} (he : ae_exec M ins len pc ls st h = some (.inr (.inl (v, h')))) : ae_wp d M pc ls st h Q = Q v h' := by
  apply propext
  constructor
  · rintro ⟨k, v1, h1, hr, hq⟩
    cases k with
    | zero => simp [ae_run] at hr
    | succ k =>
      unfold ae_run at hr
      rw [hd] at hr
      dsimp only at hr
      rw [he] at hr
      cases hr
      exact hq
  · intro hq
    refine ⟨1, v, h', ?_, hq⟩
    unfold ae_run
    rw [hd]
    dsimp only
    rw [he]
theorem ae_wp_call (hd : decode M.2.1 pc = .ok (ins, len)) {M' : ae_M} {as : List Value} {pc' : Nat} {ls' : ae_L} {st' : List Value} {h' : ah_H} (he : ae_exec M ins len pc ls st h = some (.inr (.inr (M', as, (pc', ls', st', h'))))) : ae_wp (d + 1) M pc ls st h Q = ae_wm d M' as h' (fun v h'' => ae_wp (d + 1) M pc' ls' (v.toList ++ st') h'' Q) := by
  apply propext
  constructor
  · rintro ⟨k, v, h1, hr, hq⟩
    cases k with
    | zero => simp [ae_run] at hr
    | succ k =>
      unfold ae_run at hr
      rw [hd] at hr
      dsimp only at hr
      rw [he] at hr
      dsimp only at hr
      split at hr
      next v2 h2 hc => exact ⟨k, v2, h2, hc, k, v, h1, hr, hq⟩
      next => simp at hr
  · rintro ⟨k1, v2, h2, hc, k2, v, h1, hr, hq⟩
    refine ⟨max k1 k2 + 1, v, h1, ?_, hq⟩
    unfold ae_run
    rw [hd]
    dsimp only
    rw [he]
    dsimp only
    rw [ae_run_mono _ _ _ _ _ _ _ _ hc _ (Nat.le_max_left _ _)]
    exact ae_run_mono _ _ _ _ _ _ _ _ hr _ (Nat.le_max_right _ _)
end AEW
