/-! THE SMALL MACHINE: state = (pc, slots, stack, heap); heap = (ints by address and place, references likewise, kinds and lengths by address) -/
abbrev jm_H : Type := (Nat → Nat → Int32) × (Nat → Nat → Option Nat) × List (Nat × Nat)
abbrev jm_L : Type := List (Option Value)
abbrev jm_C : Type := Nat × jm_L × List Value × jm_H
/-- a call: which method, its arguments, what stays on the stack -/
abbrev jm_Q : Type := Nat × List Value × List Value
abbrev jm_R : Type := jm_C ⊕ (jm_Q ⊕ Option Value)
abbrev jm_V : Type := Option (Option Value × jm_H)
def jm_nl : Option Value → Option Value
  | some (.long _) => none
  | some (.double _) => none
  | x => x
/-- a slot takes a value; a long whose second half stood there is gone -/
def jm_set (ls : jm_L) (i : Nat) (v : Value) : jm_L := match i with
  | 0 => ls.set 0 (some v)
  | j + 1 => (ls.modify j jm_nl).set (j + 1) (some v)
def jm_set2 (ls : jm_L) (i : Nat) (v : Value) : jm_L := (jm_set ls i v).set (i + 1) none
def jm_get (ls : jm_L) (i : Nat) : Option Value := match ls[i]? with
  | some (some v) => some v
  | _ => none
/-- an int comes to a place of an address -/
def jm_up (I : Nat → Nat → Int32) (a k : Nat) (v : Int32) : Nat → Nat → Int32 := fun x j => if x = a then (if j = k then v else I x j) else I x j
def jm_ur (T : Nat → Nat → Option Nat) (a k : Nat) (v : Option Nat) : Nat → Nat → Option Nat := fun x j => if x = a then (if j = k then v else T x j) else T x j
/-- a row of ints becomes another -/
def jm_row (I : Nat → Nat → Int32) (a : Nat) (f : Nat → Int32) : Nat → Nat → Int32 := fun x => if x = a then f else I x
def jm_rr (T : Nat → Nat → Option Nat) (a : Nat) (f : Nat → Option Nat) : Nat → Nat → Option Nat := fun x => if x = a then f else T x
/-- a new cell, all 0 -/
def jm_new (h : jm_H) (k n : Nat) : jm_H := (jm_row h.1 h.2.2.length (fun _ => 0), jm_rr h.2.1 h.2.2.length (fun _ => none), h.2.2 ++ [(k, n)])
/-- what stands beyond the heap: the script, the String constants, their bytes (a formatter that nobody asks is told as a return address) -/
abbrev jm_SCR : Nat := 1000000
/-- where the script's length lies -/
abbrev jm_SCL : Nat := 999999
abbrev jm_STR : Nat := 1000001
abbrev jm_STB : Nat := 1000101
def jm_kind (h : jm_H) (a : Nat) : Option (Nat × Nat) := h.2.2[a]?
/-- an object of one of these kinds -/
def jm_isA (h : jm_H) (a : Nat) (cs : List Nat) : Bool := match h.2.2[a]? with
  | some q => cs.contains q.1
  | none => false
/-- the length of a row of a kind -/
def jm_isR (h : jm_H) (a k : Nat) : Option Nat := match h.2.2[a]? with
  | some q => if q.1 = k then some q.2 else none
  | none => none
def jm_cat (st : List Value) : Nat := (st.map fun v => v.category).sum
def jm_nx (pc : Nat) (ls : jm_L) (st : List Value) (h : jm_H) : Option jm_R := some (.inl (pc, ls, st, h))
def jm_bin (f : Int32 → Int32 → Int32) (pc : Nat) (ls : jm_L) (st : List Value) (h : jm_H) : Option jm_R := match st with
  | .int y :: .int x :: r => some (.inl (pc + 1, ls, .int (f x y) :: r, h))
  | _ => none
def jm_lin (f : Int64 → Int64 → Int64) (pc : Nat) (ls : jm_L) (st : List Value) (h : jm_H) : Option jm_R := match st with
  | .long y :: .long x :: r => some (.inl (pc + 1, ls, .long (f x y) :: r, h))
  | _ => none
def jm_un (f : Int32 → Int32) (pc : Nat) (ls : jm_L) (st : List Value) (h : jm_H) : Option jm_R := match st with
  | .int x :: r => some (.inl (pc + 1, ls, .int (f x) :: r, h))
  | _ => none
def jm_lodi (i n : Nat) (pc : Nat) (ls : jm_L) (st : List Value) (h : jm_H) : Option jm_R := match jm_get ls i with
  | some (.int x) => some (.inl (pc + n, ls, .int x :: st, h))
  | _ => none
def jm_lodl (i n : Nat) (pc : Nat) (ls : jm_L) (st : List Value) (h : jm_H) : Option jm_R := match jm_get ls i with
  | some (.long x) => some (.inl (pc + n, ls, .long x :: st, h))
  | _ => none
def jm_loda (i n : Nat) (pc : Nat) (ls : jm_L) (st : List Value) (h : jm_H) : Option jm_R := match jm_get ls i with
  | some (.ref x) => some (.inl (pc + n, ls, .ref x :: st, h))
  | some .null => some (.inl (pc + n, ls, .null :: st, h))
  | _ => none
def jm_stoi (i n : Nat) (pc : Nat) (ls : jm_L) (st : List Value) (h : jm_H) : Option jm_R := match st with
  | .int x :: r => if i < ls.length then some (.inl (pc + n, jm_set ls i (.int x), r, h)) else none
  | _ => none
def jm_stol (i n : Nat) (pc : Nat) (ls : jm_L) (st : List Value) (h : jm_H) : Option jm_R := match st with
  | .long x :: r => if i + 1 < ls.length then some (.inl (pc + n, jm_set2 ls i (.long x), r, h)) else none
  | _ => none
def jm_stoa (i n : Nat) (pc : Nat) (ls : jm_L) (st : List Value) (h : jm_H) : Option jm_R := match st with
  | .ref x :: r => if i < ls.length then some (.inl (pc + n, jm_set ls i (.ref x), r, h)) else none
  | .null :: r => if i < ls.length then some (.inl (pc + n, jm_set ls i .null, r, h)) else none
  | _ => none
def jm_cmp (c : Jvm.ClassFile.Cond) (x y : Int32) (a b : Nat) : Nat := match c with
  | .eq => if x = y then a else b
  | .ne => if x = y then b else a
  | .lt => if x < y then a else b
  | .ge => if y ≤ x then a else b
  | .gt => if y < x then a else b
  | .le => if x ≤ y then a else b
def jm_br0 (c : Jvm.ClassFile.Cond) (t : Nat) (pc : Nat) (ls : jm_L) (st : List Value) (h : jm_H) : Option jm_R := match st with
  | .int x :: r => some (.inl (jm_cmp c x 0 t (pc + 3), ls, r, h))
  | _ => none
def jm_br2 (c : Jvm.ClassFile.Cond) (t : Nat) (pc : Nat) (ls : jm_L) (st : List Value) (h : jm_H) : Option jm_R := match st with
  | .int y :: .int x :: r => some (.inl (jm_cmp c x y t (pc + 3), ls, r, h))
  | _ => none
def jm_brn (a b : Nat) (ls : jm_L) (st : List Value) (h : jm_H) : Option jm_R := match st with
  | .null :: r => some (.inl (a, ls, r, h))
  | .ref _ :: r => some (.inl (b, ls, r, h))
  | _ => none
def jm_swt (x : Int32) : Int32 → List Nat → Nat → Nat
  | _, [], d => d
  | lo, t :: ts, d => if x = lo then t else jm_swt x (lo + 1) ts d
def jm_swc (lo : Int32) (ts : List Nat) (d : Nat) (ls : jm_L) (st : List Value) (h : jm_H) : Option jm_R := match st with
  | .int x :: r => some (.inl (jm_swt x lo ts d, ls, r, h))
  | _ => none
def jm_ald (pc : Nat) (ls : jm_L) (st : List Value) (h : jm_H) : Option jm_R := match st with
  | .int i :: .ref a :: r =>
    if a = jm_SCR then (if 0 ≤ i ∧ i.toNatClampNeg < (h.1 jm_SCL 0).toNatClampNeg then some (.inl (pc + 1, ls, .int (h.1 jm_SCR i.toNatClampNeg) :: r, h)) else none)
    else match jm_isR h a 13 with
    | some n => if 0 ≤ i ∧ i.toNatClampNeg < n then some (.inl (pc + 1, ls, .int (h.1 a i.toNatClampNeg) :: r, h)) else none
    | none => none
  | _ => none
def jm_ast (pc : Nat) (ls : jm_L) (st : List Value) (h : jm_H) : Option jm_R := match st with
  | .int v :: .int i :: .ref a :: r => match jm_isR h a 13 with
    | some n => if 0 ≤ i ∧ i.toNatClampNeg < n then some (.inl (pc + 1, ls, r, (jm_up h.1 a i.toNatClampNeg v, h.2.1, h.2.2))) else none
    | none => none
  | _ => none
def jm_aal (k : Nat) (pc : Nat) (ls : jm_L) (st : List Value) (h : jm_H) : Option jm_R := match st with
  | .int i :: .ref a :: r => match jm_isR h a k with
    | some n => if 0 ≤ i ∧ i.toNatClampNeg < n then some (.inl (pc + 1, ls, va_rf (h.2.1 a i.toNatClampNeg) :: r, h)) else none
    | none => none
  | _ => none
/-- the kinds that a row of references takes -/
def jm_els (k : Nat) : List Nat := match k with
  | 14 => [5]
  | 15 => [0, 1, 2, 4, 6, 10]
  | 16 => [8]
  | _ => []
def jm_aas (k : Nat) (pc : Nat) (ls : jm_L) (st : List Value) (h : jm_H) : Option jm_R := match st with
  | .ref v :: .int i :: .ref a :: r => match jm_isR h a k with
    | some n => if 0 ≤ i ∧ i.toNatClampNeg < n then (if jm_isA h v (jm_els k) = true then some (.inl (pc + 1, ls, r, (h.1, jm_ur h.2.1 a i.toNatClampNeg (some v), h.2.2))) else none) else none
    | none => none
  | _ => none
def jm_len (pc : Nat) (ls : jm_L) (st : List Value) (h : jm_H) : Option jm_R := match st with
  | .ref a :: r =>
    if a = jm_SCR then some (.inl (pc + 1, ls, .int (h.1 jm_SCL 0) :: r, h))
    else if jm_STB ≤ a then (if a - jm_STB < jm_sn then some (.inl (pc + 1, ls, .int (Int32.ofNat (jm_slen.getD (a - jm_STB) 0)) :: r, h)) else none)
    else match h.2.2[a]? with
    | some q => if 13 ≤ q.1 ∧ q.1 < 17 then some (.inl (pc + 1, ls, .int (Int32.ofNat q.2) :: r, h)) else none
    | none => none
  | _ => none
/-- a byte of a String constant -/
def jm_bal (pc : Nat) (ls : jm_L) (st : List Value) (h : jm_H) : Option jm_R := match st with
  | .int i :: .ref a :: r => if jm_STB ≤ a ∧ a - jm_STB < jm_sn ∧ 0 ≤ i ∧ i.toNatClampNeg < jm_slen.getD (a - jm_STB) 0 then some (.inl (pc + 1, ls, .int ((jm_sbyt.getD (a - jm_STB) []).getD i.toNatClampNeg 0) :: r, h)) else none
  | _ => none
/-- a field: its entry says place, whether a reference, and of which kinds of object -/
def jm_gf (f : Nat) (pc : Nat) (ls : jm_L) (st : List Value) (h : jm_H) : Option jm_R := match st with
  | .ref a :: r => match jm_ft[f]? with
    | some e =>
      if e.2.2.1 = 3 then (if jm_STR ≤ a ∧ a - jm_STR < jm_sn then some (.inl (pc + 3, ls, .ref (a - jm_STR + jm_STB) :: r, h)) else none)
      else if e.2.2.1 = 4 then (if jm_STR ≤ a ∧ a - jm_STR < jm_sn then some (.inl (pc + 3, ls, .int 0 :: r, h)) else none)
      else if jm_isA h a e.2.2.2.1 = true then some (.inl (pc + 3, ls, (if e.2.2.1 = 2 then va_rf (h.2.1 a e.2.1) else .int (h.1 a e.2.1)) :: r, h)) else none
    | none => none
  | _ => none
def jm_z01 (v : Int32) : Bool := if v = 0 then true else if v = 1 then true else false
def jm_pf (f : Nat) (pc : Nat) (ls : jm_L) (st : List Value) (h : jm_H) : Option jm_R := match jm_ft[f]? with
  | some e => match st with
    | .int v :: .ref a :: r => if jm_isA h a e.2.2.2.1 = true then (if e.2.2.1 = 0 then some (.inl (pc + 3, ls, r, (jm_up h.1 a e.2.1 v, h.2.1, h.2.2))) else if e.2.2.1 = 1 then (if jm_z01 v = true then some (.inl (pc + 3, ls, r, (jm_up h.1 a e.2.1 v, h.2.1, h.2.2))) else none) else none) else none
    | .ref v :: .ref a :: r => if jm_isA h a e.2.2.2.1 = true then (if e.2.2.1 = 2 then some (.inl (pc + 3, ls, r, (h.1, jm_ur h.2.1 a e.2.1 (some v), h.2.2))) else none) else none
    | _ => none
  | none => none
/-- arguments off the stack, the first one told first -/
def jm_arg (n : Nat) (st : List Value) : List Value := (st.take n).reverse
def jm_cal (s : Nat) (pc : Nat) (ls : jm_L) (st : List Value) (h : jm_H) : Option jm_R := match jm_cs[s]? with
  | some e =>
    if e.1 ≤ 1 then (if e.2.2.1 ≤ st.length ∧ jm_cat (st.drop e.2.2.1) ≤ 8 then some (.inr (.inl (e.2.2.2.1, jm_arg e.2.2.1 st, st.drop e.2.2.1))) else none)
    else if e.1 = 10 then (match st with
      | .int n :: .int dp :: .ref b :: .int sp :: .ref a :: r => match jm_isR h a 13, jm_isR h b 13 with
        | some na, some nb => if 0 ≤ sp ∧ 0 ≤ dp ∧ 0 ≤ n ∧ sp.toNatClampNeg + n.toNatClampNeg ≤ na ∧ dp.toNatClampNeg + n.toNatClampNeg ≤ nb ∧ jm_cat r ≤ 8 then some (.inl (pc + 3, ls, r, (jm_row h.1 b (va_cpy (h.1 a) (h.1 b) sp.toNatClampNeg dp.toNatClampNeg n.toNatClampNeg), h.2.1, h.2.2))) else none
        | _, _ => none
      | _ => none)
    else if e.1 = 11 then (match st with
      | .int b :: .int a :: r => if jm_cat r ≤ 8 then some (.inl (pc + 3, ls, .int (if a < b then b else a) :: r, h)) else none
      | _ => none)
    else if e.1 = 12 then (match st with
      | .int b :: .int a :: r => if jm_cat r ≤ 8 then some (.inl (pc + 3, ls, .int (if b < a then b else a) :: r, h)) else none
      | _ => none)
    else (match st.drop e.2.2.1 with
      | .ref a :: r =>
        if jm_cat r ≤ 8 then
          (if e.1 ≤ 3 then some (.inr (.inl (e.2.2.2.1, .ref a :: jm_arg e.2.2.1 st, r)))
          else if e.1 = 8 then (if e.2.2.1 = 0 then some (.inl (pc + 3, ls, r, h)) else none)
          else if e.1 = 9 then (if jm_STR ≤ a ∧ a - jm_STR < jm_sn then some (.inr (.inl (e.2.2.2.1, .ref a :: jm_arg e.2.2.1 st, r))) else none)
          else match jm_kind h a with
            | some q => match e.2.2.2.2.1.lookup q.1 with
              | some y => some (.inr (.inl (y, .ref a :: jm_arg e.2.2.1 st, r)))
              | none => none
            | none => none)
        else none
      | _ => none)
  | none => none
def jm_ins (cs : List Nat) (pc : Nat) (ls : jm_L) (st : List Value) (h : jm_H) : Option jm_R := match st with
  | .ref a :: r => match jm_kind h a with
    | some q => if q.1 < 13 then some (.inl (pc + 3, ls, .int (if cs.contains q.1 = true then 1 else 0) :: r, h)) else none
    | none => none
  | _ => none
def jm_nar (k : Nat) (pc : Nat) (n : Nat) (ls : jm_L) (st : List Value) (h : jm_H) : Option jm_R := match st with
  | .int x :: r => if 0 ≤ x ∧ x ≤ 4096 then some (.inl (pc + n, ls, .ref h.2.2.length :: r, jm_new h k x.toNatClampNeg)) else none
  | _ => none
def jm_ire (ret : Option FieldType) (st : List Value) : Option jm_R := match st with
  | [.int v] => match ret with
    | some .int => some (.inr (.inr (some (.int v))))
    | some .boolean => if jm_z01 v = true then some (.inr (.inr (some (.int v)))) else none
    | some .char => if 0 ≤ v ∧ v ≤ 255 then some (.inr (.inr (some (.int v)))) else none
    | some .byte => if v = 0 then some (.inr (.inr (some (.int v)))) else none
    | _ => none
  | _ => none
def jm_are (ret : Option FieldType) (st : List Value) : Option jm_R := match ret with
  | some (.object _) => (match st with
    | [.ref v] => some (.inr (.inr (some (.ref v))))
    | [.null] => some (.inr (.inr (some .null)))
    | _ => none)
  | _ => none
/-- one instruction -/
def jm_stepI (ret : Option FieldType) (o : jm_op) (pc : Nat) (ls : jm_L) (st : List Value) (h : jm_H) : Option jm_R := match o.1 with
  | .iconst _ => jm_nx (pc + 1) ls (.int o.2.2.2 :: st) h
  | .bipush _ => jm_nx (pc + 2) ls (.int o.2.2.2 :: st) h
  | .sipush _ => jm_nx (pc + 3) ls (.int o.2.2.2 :: st) h
  | .ldc _ => if o.2.1 = 1 then (if o.2.2.1 < jm_sn then jm_nx (pc + 2) ls (.ref (o.2.2.1 + jm_STR) :: st) h else none) else jm_nx (pc + 2) ls (.int o.2.2.2 :: st) h
  | .ldc_w _ => jm_nx (pc + 3) ls (.int o.2.2.2 :: st) h
  | .lconst _ => jm_nx (pc + 1) ls (.long (jm_lks.getD o.2.1 0) :: st) h
  | .ldc2_w _ => jm_nx (pc + 3) ls (.long (jm_lks.getD o.2.1 0) :: st) h
  | .aconst_null => jm_nx (pc + 1) ls (.null :: st) h
  | .iload_n k => jm_lodi k 1 pc ls st h
  | .iload k => jm_lodi k 2 pc ls st h
  | .lload_n k => jm_lodl k 1 pc ls st h
  | .lload k => jm_lodl k 2 pc ls st h
  | .aload_n k => jm_loda k 1 pc ls st h
  | .aload k => jm_loda k 2 pc ls st h
  | .istore_n k => jm_stoi k 1 pc ls st h
  | .istore k => jm_stoi k 2 pc ls st h
  | .lstore_n k => jm_stol k 1 pc ls st h
  | .lstore k => jm_stol k 2 pc ls st h
  | .astore_n k => jm_stoa k 1 pc ls st h
  | .astore k => jm_stoa k 2 pc ls st h
  | .iinc k _ => (match jm_get ls k with
    | some (.int x) => if k < ls.length then some (.inl (pc + 3, jm_set ls k (.int (x + o.2.2.2)), st, h)) else none
    | _ => none)
  | .iadd => jm_bin (fun x y => x + y) pc ls st h
  | .isub => jm_bin (fun x y => x - y) pc ls st h
  | .imul => jm_bin (fun x y => x * y) pc ls st h
  | .iand => jm_bin (fun x y => x &&& y) pc ls st h
  | .ior => jm_bin (fun x y => x ||| y) pc ls st h
  | .ixor => jm_bin (fun x y => x ^^^ y) pc ls st h
  | .ishl => jm_bin (fun x y => x <<< (y &&& 31)) pc ls st h
  | .ishr => jm_bin (fun x y => x >>> (y &&& 31)) pc ls st h
  | .iushr => jm_bin (fun x y => (x.toUInt32 >>> (y.toUInt32 &&& Int32.toUInt32 31)).toInt32) pc ls st h
  | .idiv => (match st with
    | .int y :: .int x :: r => if y = 0 then none else some (.inl (pc + 1, ls, .int (x / y) :: r, h))
    | _ => none)
  | .irem => (match st with
    | .int y :: .int x :: r => if y = 0 then none else some (.inl (pc + 1, ls, .int (x - (x / y) * y) :: r, h))
    | _ => none)
  | .ineg => jm_un (fun x => -x) pc ls st h
  | .i2b => jm_un (fun x => x.toInt8.toInt32) pc ls st h
  | .i2s => jm_un (fun x => x.toInt16.toInt32) pc ls st h
  | .i2c => jm_un (fun x => (x.toUInt32 % 65536).toInt32) pc ls st h
  | .i2l => (match st with
    | .int x :: r => some (.inl (pc + 1, ls, .long x.toInt64 :: r, h))
    | _ => none)
  | .l2i => (match st with
    | .long x :: r => some (.inl (pc + 1, ls, .int x.toInt32 :: r, h))
    | _ => none)
  | .ladd => jm_lin (fun x y => x + y) pc ls st h
  | .lmul => jm_lin (fun x y => x * y) pc ls st h
  | .ldiv => (match st with
    | .long y :: .long x :: r => if y = 0 then none else some (.inl (pc + 1, ls, .long (x / y) :: r, h))
    | _ => none)
  | .lrem => (match st with
    | .long y :: .long x :: r => if y = 0 then none else some (.inl (pc + 1, ls, .long (x - (x / y) * y) :: r, h))
    | _ => none)
  | .lcmp => (match st with
    | .long y :: .long x :: r => some (.inl (pc + 1, ls, .int (lg_cmp x y) :: r, h))
    | _ => none)
  | .dup => (match st with
    | .int x :: r => some (.inl (pc + 1, ls, .int x :: .int x :: r, h))
    | .ref x :: r => some (.inl (pc + 1, ls, .ref x :: .ref x :: r, h))
    | _ => none)
  | .dup2 => (match st with
    | .int x :: .ref y :: r => some (.inl (pc + 1, ls, .int x :: .ref y :: .int x :: .ref y :: r, h))
    | _ => none)
  | .pop => (match st with
    | .int _ :: r => some (.inl (pc + 1, ls, r, h))
    | _ => none)
  | .goto _ => jm_nx o.2.1 ls st h
  | .ifCond c _ => jm_br0 c o.2.1 pc ls st h
  | .if_icmp c _ => jm_br2 c o.2.1 pc ls st h
  | .ifnull _ => jm_brn o.2.1 (pc + 3) ls st h
  | .ifnonnull _ => jm_brn (pc + 3) o.2.1 ls st h
  | .tableswitch _ _ _ _ => (match jm_sws[o.2.1]? with
    | some w => jm_swc w.1 w.2.1 w.2.2 ls st h
    | none => none)
  | .lookupswitch _ _ => (match jm_sws[o.2.1]? with
    | some w => jm_swc w.1 w.2.1 w.2.2 ls st h
    | none => none)
  | .iaload => jm_ald pc ls st h
  | .iastore => jm_ast pc ls st h
  | .aaload => jm_aal o.2.1 pc ls st h
  | .aastore => jm_aas o.2.1 pc ls st h
  | .arraylength => jm_len pc ls st h
  | .baload => jm_bal pc ls st h
  | .getfield _ => jm_gf o.2.1 pc ls st h
  | .putfield _ => jm_pf o.2.1 pc ls st h
  | .getstatic _ => if o.2.1 = 0 then jm_nx (pc + 3) ls (.int 1 :: st) h else jm_nx (pc + 3) ls (.retAddr 0 :: st) h
  | .invokestatic _ => jm_cal o.2.1 pc ls st h
  | .invokespecial _ => jm_cal o.2.1 pc ls st h
  | .invokevirtual _ => jm_cal o.2.1 pc ls st h
  | .instanceof _ => (match jm_ist[o.2.1]? with
    | some cs => jm_ins cs.2 pc ls st h
    | none => none)
  | .new _ => if o.2.1 < 13 then jm_nx (pc + 3) ls (.ref h.2.2.length :: st) (jm_new h o.2.1 0) else none
  | .newarray _ => jm_nar 13 pc 2 ls st h
  | .anewarray _ => jm_nar o.2.1 pc 3 ls st h
  | .ireturn => jm_ire ret st
  | .lreturn => (match st with
    | [.long v] => if ret = some .long then some (.inr (.inr (some (.long v)))) else none
    | _ => none)
  | .areturn => jm_are ret st
  | .return_ => (match st with
    | [] => if ret = none then some (.inr (.inr none)) else none
    | _ => none)
  | _ => none
/-- what a method is: its name's parts, its slots, what it returns -/
def jm_mcl (y : Nat) : Nat := (jm_ms.getD y ((0, "", ""), 0, none, 0)).1.1
def jm_max (y : Nat) : Nat := (jm_ms.getD y ((0, "", ""), 0, none, 0)).2.1
def jm_ret (y : Nat) : Option FieldType := (jm_ms.getD y ((0, "", ""), 0, none, 0)).2.2.1
def jm_bc (y : Nat) : ByteArray := jm_b.getD y code
def jm_own (y : Nat) : String := jm_cn.getD (jm_mcl y) ""
def jm_name (y : Nat) : MethodName := ⟨jm_own y, (jm_ms.getD y ((0, "", ""), 0, none, 0)).1.2.1, (jm_ms.getD y ((0, "", ""), 0, none, 0)).1.2.2⟩
def jm_step (y : Nat) (c : jm_C) : Option jm_R := match (jm_tab y)[c.1]? with
  | some (some o) => jm_stepI (jm_ret y) o c.1 c.2.1 c.2.2.1 c.2.2.2
  | _ => none
/-- so many steps of method y, E saying what calls do -/
def jm_runN (E : Nat → List Value → jm_H → jm_V) (y : Nat) : Nat → jm_C → jm_V
  | 0, _ => none
  | n + 1, c => match jm_step y c with
    | some (.inl c2) => jm_runN E y n c2
    | some (.inr (.inr v)) => some (v, c.2.2.2)
    | some (.inr (.inl q)) => (match E q.1 q.2.1 c.2.2.2 with
      | some r => jm_runN E y n (c.1 + 3, c.2.1, r.1.toList ++ q.2.2, r.2)
      | none => none)
    | none => none
theorem jm_runN_up {E : Nat → List Value → jm_H → jm_V} {y : Nat} : ∀ (n : Nat) (c : jm_C) (r : Option Value × jm_H), jm_runN E y n c = some r → jm_runN E y (n + 1) c = some r := by
  intro n
  induction n with
  | zero => intro c r h; simp [jm_runN] at h
  | succ n ih =>
    intro c r h
    rw [jm_runN] at h ⊢
    cases hs : jm_step y c with
    | none => rw [hs] at h; simp at h
    | some q =>
      rw [hs] at h
      rcases q with c2 | q | v
      · exact ih _ _ h
      · simp only at h ⊢
        cases hE : E q.1 q.2.1 c.2.2.2 with
        | none => rw [hE] at h; simp at h
        | some r2 => rw [hE] at h; exact ih _ _ h
      · exact h
theorem jm_runN_le {E : Nat → List Value → jm_H → jm_V} {y : Nat} {n m : Nat} (hnm : n ≤ m) {c : jm_C} {r : Option Value × jm_H} (h : jm_runN E y n c = some r) : jm_runN E y m c = some r := by
  induction m with
  | zero => have : n = 0 := by omega
            subst this; exact h
  | succ m ih =>
    by_cases hm : n ≤ m
    · exact jm_runN_up _ _ _ (ih hm)
    · have : n = m + 1 := by omega
      subst this; exact h
theorem jm_runN_one {E : Nat → List Value → jm_H → jm_V} {y : Nat} {n m : Nat} {c : jm_C} {r r2 : Option Value × jm_H} (h : jm_runN E y n c = some r) (h2 : jm_runN E y m c = some r2) : r = r2 := by
  have a := jm_runN_le (Nat.le_max_left n m) h
  have b := jm_runN_le (Nat.le_max_right n m) h2
  rw [a] at b
  exact Option.some.inj b
/-- what method y comes to from a state -/
noncomputable def jm_go (E : Nat → List Value → jm_H → jm_V) (y : Nat) (c : jm_C) : jm_V :=
  @dite _ (∃ r, ∃ n, jm_runN E y n c = some r) (Classical.propDecidable _) (fun hh => some hh.choose) (fun _ => none)
theorem jm_go_iff {E : Nat → List Value → jm_H → jm_V} {y : Nat} {c : jm_C} {r : Option Value × jm_H} : jm_go E y c = some r ↔ ∃ n, jm_runN E y n c = some r := by
  constructor
  · intro h
    unfold jm_go at h
    split at h
    next hh => cases h; exact hh.choose_spec
    next => cases h
  · rintro ⟨n, h⟩
    have hh : ∃ r, ∃ n, jm_runN E y n c = some r := ⟨r, n, h⟩
    unfold jm_go
    rw [dif_pos hh]
    obtain ⟨m, hm⟩ := hh.choose_spec
    rw [jm_runN_one hm h]
theorem jm_go_none {E : Nat → List Value → jm_H → jm_V} {y : Nat} {c : jm_C} (h : ∀ n, jm_runN E y n c = none) : jm_go E y c = none := by
  cases hg : jm_go E y c with
  | none => rfl
  | some r =>
    obtain ⟨n, hn⟩ := jm_go_iff.mp hg
    rw [h n] at hn
    cases hn
theorem jm_go_ext {E : Nat → List Value → jm_H → jm_V} {y : Nat} {a b : jm_C} (h : ∀ r, (∃ n, jm_runN E y n a = some r) ↔ ∃ n, jm_runN E y n b = some r) : jm_go E y a = jm_go E y b := by
  cases ha : jm_go E y a with
  | some r => exact ((jm_go_iff.mpr ((h r).mp (jm_go_iff.mp ha)))).symm
  | none =>
    cases hb : jm_go E y b with
    | none => rfl
    | some r =>
      have := jm_go_iff.mpr ((h r).mpr (jm_go_iff.mp hb))
      rw [ha] at this
      cases this
/-- one step onward -/
theorem jm_go_next {E : Nat → List Value → jm_H → jm_V} {y : Nat} {c c2 : jm_C} (h : jm_step y c = some (.inl c2)) : jm_go E y c = jm_go E y c2 := by
  refine jm_go_ext fun r => ⟨?_, ?_⟩
  · rintro ⟨n, hn⟩
    cases n with
    | zero => simp [jm_runN] at hn
    | succ n => rw [jm_runN, h] at hn; exact ⟨n, hn⟩
  · rintro ⟨n, hn⟩
    exact ⟨n + 1, by rw [jm_runN, h]; exact hn⟩
theorem jm_go_ret {E : Nat → List Value → jm_H → jm_V} {y : Nat} {c : jm_C} {v : Option Value} (h : jm_step y c = some (.inr (.inr v))) : jm_go E y c = some (v, c.2.2.2) :=
  jm_go_iff.mpr ⟨1, by rw [jm_runN, h]⟩
/-- what a call leaves, and what follows -/
noncomputable def jm_then (r : jm_V) (k : Option Value → jm_H → jm_V) : jm_V := match r with
  | some q => k q.1 q.2
  | none => none
theorem jm_go_call {E : Nat → List Value → jm_H → jm_V} {y : Nat} {c : jm_C} {q : jm_Q} (h : jm_step y c = some (.inr (.inl q))) : jm_go E y c = jm_then (E q.1 q.2.1 c.2.2.2) fun v h2 => jm_go E y (c.1 + 3, c.2.1, v.toList ++ q.2.2, h2) := by
  cases hE : E q.1 q.2.1 c.2.2.2 with
  | none =>
    refine jm_go_none fun n => ?_
    cases n with
    | zero => rfl
    | succ n => rw [jm_runN, h]; simp only; rw [hE]
  | some r =>
    show _ = jm_go E y (c.1 + 3, c.2.1, r.1.toList ++ q.2.2, r.2)
    refine jm_go_ext fun r2 => ⟨?_, ?_⟩
    · rintro ⟨n, hn⟩
      cases n with
      | zero => simp [jm_runN] at hn
      | succ n => rw [jm_runN, h] at hn; simp only at hn; rw [hE] at hn; exact ⟨n, hn⟩
    · rintro ⟨n, hn⟩
      exact ⟨n + 1, by rw [jm_runN, h]; simp only; rw [hE]; exact hn⟩
/-- the slots with which a method begins -/
def jm_argl : List Value → jm_L
  | [] => []
  | v :: r => if v.category = 2 then some v :: none :: jm_argl r else some v :: jm_argl r
def jm_entry (y : Nat) (a : List Value) (h : jm_H) : jm_C := (0, jm_argl a ++ List.replicate (jm_max y - (jm_argl a).length) none, [], h)
/-- what a call of method y comes to, calls going d deep at most -/
noncomputable def jm_ev : Nat → Nat → List Value → jm_H → jm_V
  | 0, _, _, _ => none
  | d + 1, y, a, h => if (jm_argl a).length ≤ jm_max y then jm_go (jm_ev d) y (jm_entry y a h) else none
/-- steps that are no calls -/
def jm_steps (y : Nat) : Nat → jm_C → Option jm_C
  | 0, c => some c
  | n + 1, c => match jm_step y c with
    | some (.inl c2) => jm_steps y n c2
    | _ => none
theorem jm_go_steps {E : Nat → List Value → jm_H → jm_V} {y : Nat} : ∀ (n : Nat) {c c2 : jm_C}, jm_steps y n c = some c2 → jm_go E y c = jm_go E y c2 := by
  intro n
  induction n with
  | zero => intro c c2 h; cases h; rfl
  | succ n ih =>
    intro c c2 h
    rw [jm_steps] at h
    cases hs : jm_step y c with
    | none => rw [hs] at h; cases h
    | some q =>
      rw [hs] at h
      rcases q with c3 | q
      · rw [jm_go_next hs]
        exact ih h
      · cases h
