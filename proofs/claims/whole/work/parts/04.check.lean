/-! WHAT IS CHECKED of the tables, by program -/
/-- the words that stay, whatever is linked -/
def jm_Ts : List Cond := lw_tbl.filter goodWord
/-- a word at a place -/
def jm_hasAt (i : Nat) (w : Cond) : Bool := goodWord w && decide (lw_tbl[i]? = some w)
theorem jm_hasAt_in {i : Nat} {w : Cond} (h : jm_hasAt i w = true) : w ∈ jm_Ts := by
  simp only [jm_hasAt, Bool.and_eq_true, decide_eq_true_eq] at h
  exact List.mem_filter.mpr ⟨List.mem_of_getElem? h.2, h.1⟩
/-- links to nest mates' members -/
abbrev jm_nest : List (String × Nat × MethodName × String) := [("DoorOfLuck", 18, ⟨"DoorOfLuck$Tape", "<init>", "()V"⟩, "DoorOfLuck"), ("DoorOfLuck", 49, ⟨"DoorOfLuck$Sheet", "<init>", "()V"⟩, "DoorOfLuck"), ("DoorOfLuck$Town", 56, ⟨"DoorOfLuck", "bounded", "(III)I"⟩, "DoorOfLuck"), ("DoorOfLuck$Town", 63, ⟨"DoorOfLuck", "bit", "(II)I"⟩, "DoorOfLuck"), ("DoorOfLuck$Sheet", 19, ⟨"DoorOfLuck", "bounded", "(III)I"⟩, "DoorOfLuck")]
/-- objects of the first class are of the second -/
abbrev jm_cas : List (String × String) := [("DoorOfLuck$Butler", "DoorOfLuck$Footman"), ("DoorOfLuck$Widow", "DoorOfLuck$Lady"), ("DoorOfLuck$Footman", "DoorOfLuck$Soul"), ("DoorOfLuck$Lady", "DoorOfLuck$Soul"), ("DoorOfLuck$Butler", "DoorOfLuck$Soul"), ("DoorOfLuck$Widow", "DoorOfLuck$Soul"), ("DoorOfLuck$Gypsy", "DoorOfLuck$Soul")]
def jm_isSw : Instr → Bool
  | .tableswitch _ _ _ _ => true
  | .lookupswitch _ _ => true
  | _ => false
def jm_ln : Instr → Nat
  | .bipush _ => 2
  | .ldc _ => 2
  | .iload _ => 2
  | .lload _ => 2
  | .aload _ => 2
  | .istore _ => 2
  | .lstore _ => 2
  | .astore _ => 2
  | .newarray _ => 2
  | .sipush _ => 3
  | .ldc_w _ => 3
  | .ldc2_w _ => 3
  | .iinc _ _ => 3
  | .goto _ => 3
  | .ifnull _ => 3
  | .ifnonnull _ => 3
  | .ifCond _ _ => 3
  | .if_icmp _ _ => 3
  | .getfield _ => 3
  | .putfield _ => 3
  | .getstatic _ => 3
  | .invokestatic _ => 3
  | .invokespecial _ => 3
  | .invokevirtual _ => 3
  | .instanceof _ => 3
  | .new _ => 3
  | .anewarray _ => 3
  | _ => 1
def jm_elc (k : Nat) : String := match k with
  | 14 => "DoorOfLuck$Sheet"
  | 15 => "DoorOfLuck$Soul"
  | _ => "DoorOfLuck$Text"
def jm_chkS (pc : Nat) (d lo hi : Int) (offs : List Int) (w : Int32 × List Nat × Nat) : Bool :=
  decide (w.1.toInt = lo) && decide (w.1.toInt + (w.2.1.length : Int) < 2147483647) && decide (hi = lo + (offs.length : Int) - 1) && decide ((pc : Int) + d = (w.2.2 : Int)) && decide (offs.map (fun x => (pc : Int) + x) = w.2.1.map (fun (x : Nat) => (x : Int)))
def jm_chkL2 (pc : Nat) (d : Int) (ps : List (Int × Int)) (w : Int32 × List Nat × Nat) : Bool :=
  decide (w.1.toInt + (w.2.1.length : Int) < 2147483647) && decide ((pc : Int) + d = (w.2.2 : Int)) && decide (ps = w.2.1.zipIdx.map fun q => (w.1.toInt + (q.2 : Int), (q.1 : Int) - (pc : Int)))
def jm_chkI (y pc : Nat) (o : jm_op) : Bool := match o.1 with
  | .iconst n => decide (Int32.ofInt n = o.2.2.2)
  | .bipush n => decide ((Int8.ofInt n).toInt32 = o.2.2.2)
  | .sipush n => decide ((Int16.ofInt n).toInt32 = o.2.2.2)
  | .ldc i => if o.2.1 = 1 then decide (jm_own y = "DoorOfLuck$Tape" ∧ o.2.2.1 < jm_sn ∧ (jm_sow.getD o.2.2.1 (0, "")).1 = i) else jm_hasAt o.2.2.1 (.constant (jm_own y) i o.2.2.2)
  | .ldc_w i => jm_hasAt o.2.2.1 (.constant (jm_own y) i o.2.2.2)
  | .lconst n => decide (Int64.ofNat (n : Nat) = jm_lks.getD o.2.1 0)
  | .ldc2_w i => jm_hasAt o.2.2.1 (.constantLong (jm_own y) i (jm_lks.getD o.2.1 0))
  | .iinc _ n => decide (Int32.ofInt n = o.2.2.2)
  | .goto off => decide ((pc : Int) + off = (o.2.1 : Int))
  | .ifnull off => decide ((pc : Int) + off = (o.2.1 : Int))
  | .ifnonnull off => decide ((pc : Int) + off = (o.2.1 : Int))
  | .ifCond _ off => decide ((pc : Int) + off = (o.2.1 : Int))
  | .if_icmp _ off => decide ((pc : Int) + off = (o.2.1 : Int))
  | .tableswitch d lo hi offs => (match jm_sws[o.2.1]? with
    | some w => jm_chkS pc d lo hi offs.toList w
    | none => false)
  | .lookupswitch d ps => (match jm_sws[o.2.1]? with
    | some w => jm_chkL2 pc d ps.toList w
    | none => false)
  | .aaload => decide (o.2.1 = 14 ∨ o.2.1 = 15 ∨ o.2.1 = 16)
  | .aastore => decide (o.2.1 = 14 ∨ o.2.1 = 15 ∨ o.2.1 = 16)
  | .getfield i => (match jm_ft[o.2.1]? with
    | some e => decide (e.1 = (jm_mcl y, i))
    | none => false)
  | .putfield i => (match jm_ft[o.2.1]? with
    | some e => decide (e.1 = (jm_mcl y, i)) && decide (e.2.2.1 < 3) && e.2.2.2.1.all (fun ci => match jm_cl[ci]? with
      | some r => !(r.2.1 e.2.1).2.2.2 || (decide ((jm_name y).name = "<init>") && decide ((r.2.1 e.2.1).1 = jm_own y))
      | none => false)
    | none => false)
  | .getstatic i => decide (jm_own y = "java/lang/String") && (if o.2.1 = 0 then jm_hasAt o.2.2.1 (.fieldLink "java/lang/String" i "java/lang/String" "COMPACT_STRINGS" "Z") else jm_hasAt o.2.2.1 (.fieldLink "java/lang/String" i "jdk/internal/util/Preconditions" "SIOOBE_FORMATTER" "Ljava/util/function/BiFunction;"))
  | .invokestatic i => (match jm_cs[o.2.1]? with
    | some e => decide (e.2.1 = (jm_mcl y, i)) && (decide (e.1 ≤ 1) || decide (e.1 = 10) || decide (e.1 = 11) || decide (e.1 = 12))
    | none => false)
  | .invokespecial i => (match jm_cs[o.2.1]? with
    | some e => decide (e.2.1 = (jm_mcl y, i)) && (decide (e.1 = 2) || decide (e.1 = 3) || decide (e.1 = 4) || decide (e.1 = 7) || decide (e.1 = 8))
    | none => false)
  | .invokevirtual i => (match jm_cs[o.2.1]? with
    | some e => decide (e.2.1 = (jm_mcl y, i)) && (decide (e.1 = 5) || decide (e.1 = 6) || decide (e.1 = 9))
    | none => false)
  | .instanceof i => (match jm_ist[o.2.1]? with
    | some q => jm_hasAt o.2.2.1 (.classLink (jm_own y) i q.1)
    | none => false)
  | .new i => (match jm_cl[o.2.1]? with
    | some r => jm_hasAt o.2.2.1 (.classLink (jm_own y) i r.1)
    | none => false)
  | .newarray t => decide (t = .int)
  | .anewarray i => decide (o.2.1 = 14 ∨ o.2.1 = 15 ∨ o.2.1 = 16) && jm_hasAt o.2.2.1 (.classLink (jm_own y) i (jm_elc o.2.1))
  | _ => true
def jm_chk (y pc : Nat) (o : jm_op) : Bool := (match decode (jm_bc y) pc with
  | .ok (i, n) => decide (i = o.1) && (jm_isSw o.1 || decide (n = jm_ln o.1))
  | .error _ => false) && jm_chkI y pc o
def jm_chkL (y : Nat) : Nat → List (Option jm_op) → Bool
  | _, [] => true
  | pc, none :: r => jm_chkL y (pc + 1) r
  | pc, some o :: r => jm_chk y pc o && jm_chkL y (pc + 1) r
theorem jm_chkL_at {y : Nat} : ∀ (l : List (Option jm_op)) (pc i : Nat) (o : jm_op), jm_chkL y pc l = true → l[i]? = some (some o) → jm_chk y (pc + i) o = true := by
  intro l
  induction l with
  | nil => intro pc i o _ h; simp at h
  | cons a l ih =>
    intro pc i o hc h
    cases i with
    | zero =>
      rw [List.getElem?_cons_zero] at h
      cases h
      rw [jm_chkL, Bool.and_eq_true] at hc
      exact hc.1
    | succ i =>
      rw [List.getElem?_cons_succ] at h
      have hc2 : jm_chkL y (pc + 1) l = true := by
        cases a with
        | none => exact hc
        | some q => rw [jm_chkL, Bool.and_eq_true] at hc; exact hc.2
      have := ih (pc + 1) i o hc2 h
      rwa [show pc + 1 + i = pc + (i + 1) by omega] at this
theorem jm_chk_dec {y pc : Nat} {o : jm_op} (h : jm_chk y pc o = true) : (∃ n, decode (jm_bc y) pc = .ok (o.1, n) ∧ (jm_isSw o.1 = true ∨ n = jm_ln o.1)) ∧ jm_chkI y pc o = true := by
  simp only [jm_chk, Bool.and_eq_true] at h
  refine ⟨?_, h.2⟩
  have h1 := h.1
  split at h1
  next i n hd =>
    simp only [Bool.and_eq_true, decide_eq_true_eq, Bool.or_eq_true] at h1
    exact ⟨n, by rw [hd, h1.1], h1.2⟩
  next => cases h1
theorem jm_chk_op {y pc : Nat} {o : jm_op} (h : jm_chk y pc o = true) (hs : jm_isSw o.1 = false) : decode (jm_bc y) pc = .ok (o.1, jm_ln o.1) := by
  obtain ⟨⟨n, h1, h2⟩, -⟩ := jm_chk_dec h
  rw [hs] at h2
  rcases h2 with h2 | h2
  · cases h2
  · rw [h1, h2]
abbrev jm_fe : Type := (Nat × Nat) × Nat × Nat × List Nat × List Nat × String × String × String
def jm_fref (e : jm_fe) : String := e.2.2.2.2.2.1
def jm_fnm (e : jm_fe) : String := e.2.2.2.2.2.2.1
def jm_fds (e : jm_fe) : String := e.2.2.2.2.2.2.2
def jm_isRefT (d : String) : Bool := match parseFieldDescriptor d with
  | some (.object _) => true
  | some (.array _) => true
  | _ => false
/-- an entry of the fields -/
def jm_fok (e : jm_fe) : Bool :=
  jm_hasAt (e.2.2.2.2.1.getD 0 0) (.fieldLink (jm_cn.getD e.1.1 "") e.1.2 (jm_fref e) (jm_fnm e) (jm_fds e)) &&
  (if e.2.2.1 = 3 then decide ((jm_fref e, jm_fnm e, jm_fds e) = ("java/lang/String", "value", "[B"))
   else if e.2.2.1 = 4 then decide ((jm_fref e, jm_fnm e, jm_fds e) = ("java/lang/String", "coder", "B"))
   else (if e.2.2.1 = 0 then decide (jm_fds e = "I") else if e.2.2.1 = 1 then decide (jm_fds e = "Z") else decide (e.2.2.1 = 2) && jm_isRefT (jm_fds e)) &&
    e.2.2.2.1.all fun ci => decide (ci < 13) && (match jm_cl[ci]? with
      | some r => decide (e.2.1 < r.2.2) && decide ((r.2.1 e.2.1).2.1 = jm_fnm e) && decide ((r.2.1 e.2.1).2.2.1 = jm_fds e) && decide ((jm_fk.getD ci []).getD e.2.1 0 = e.2.2.1) && (decide ((r.2.1 e.2.1).1 = jm_fref e) || jm_hasAt (e.2.2.2.2.1.getD 1 0) (.sameField (jm_fref e) (r.2.1 e.2.1).1 (jm_fnm e) (jm_fds e)))
      | none => false))
abbrev jm_ce : Type := Nat × (Nat × Nat) × Nat × Nat × List (Nat × Nat) × List Nat × String × String × String
def jm_cx (e : jm_ce) : MethodName := ⟨e.2.2.2.2.2.2.1, e.2.2.2.2.2.2.2.1, e.2.2.2.2.2.2.2.2⟩
def jm_cw (e : jm_ce) (i : Nat) (w : Cond) : Bool := jm_hasAt (e.2.2.2.2.2.1.getD i 0) w
def jm_cow (e : jm_ce) : String := jm_cn.getD e.2.1.1 ""
/-- a method that is called: its code's word, not of the two classes, its arguments -/
def jm_mok (y n : Nat) (d : String) : Bool :=
  jm_cids.contains y && decide ((jm_name y).cls ≠ "java/lang/invoke/MethodHandle") && decide ((jm_name y).cls ≠ "java/lang/invoke/VarHandle") && decide ((parseMethodDescriptor d).map (fun s => s.parameters.length) = some n) && decide (jm_max y ≤ 22) && plainName (jm_name y).cls && jm_hasAt ((jm_ms.getD y ((0, "", ""), 0, none, 0)).2.2.2) (.initialized (jm_name y).cls)
def jm_cok (e : jm_ce) : Bool :=
  (match e.1 with
  | 0 => decide (jm_name e.2.2.2.1 = jm_cx e) && jm_mok e.2.2.2.1 e.2.2.1 (jm_cx e).desc && jm_cw e 0 (.methodLink (jm_cow e) e.2.1.2 (jm_cx e)) && jm_cw e 1 (.static (jm_cx e))
  | 1 => decide (jm_name e.2.2.2.1 = jm_cx e) && jm_mok e.2.2.2.1 e.2.2.1 (jm_cx e).desc && decide ((jm_cow e, e.2.1.2, jm_cx e, "DoorOfLuck") ∈ jm_nest) && jm_cw e 1 (.static (jm_cx e))
  | 2 => decide (jm_name e.2.2.2.1 = jm_cx e) && jm_mok e.2.2.2.1 e.2.2.1 (jm_cx e).desc && jm_cw e 0 (.methodLink (jm_cow e) e.2.1.2 (jm_cx e)) && jm_cw e 1 (.instanceMethod (jm_cx e)) && decide ((jm_cx e).name = "<init>") && decide (jm_ret e.2.2.2.1 = none)
  | 3 => decide (jm_name e.2.2.2.1 = jm_cx e) && jm_mok e.2.2.2.1 e.2.2.1 (jm_cx e).desc && decide ((jm_cow e, e.2.1.2, jm_cx e, "DoorOfLuck") ∈ jm_nest) && jm_cw e 1 (.instanceMethod (jm_cx e)) && decide ((jm_cx e).name = "<init>") && decide (jm_ret e.2.2.2.1 = none)
  | 4 => decide (jm_name e.2.2.2.1 = jm_cx e) && jm_mok e.2.2.2.1 e.2.2.1 (jm_cx e).desc && jm_cw e 0 (.methodLink (jm_cow e) e.2.1.2 (jm_cx e)) && jm_cw e 1 (.sameMethod (jm_cx e).cls (jm_cx e).cls (jm_cx e).name (jm_cx e).desc) && jm_cw e 2 (.superclass (jm_cow e) (jm_cx e).cls) && jm_cw e 3 (.instanceMethod (jm_cx e)) && decide ((jm_cx e).name ≠ "<init>") && e.2.2.2.2.1.all (fun t => decide (t.2 = e.2.2.2.1) && decide (t.1 < 13))
  | 5 => decide (jm_name e.2.2.2.1 = jm_cx e) && jm_mok e.2.2.2.1 e.2.2.1 (jm_cx e).desc && jm_cw e 0 (.methodLink (jm_cow e) e.2.1.2 (jm_cx e)) && jm_cw e 1 (.instanceMethod (jm_cx e)) && e.2.2.2.2.1.all (fun t => decide (t.2 = e.2.2.2.1) && decide (t.1 < 13) && decide (jm_cn.getD t.1 "" = (jm_cx e).cls) && jm_cw e 2 (.selects (jm_cx e).cls (jm_cx e) (jm_cx e)))
  | 6 => jm_cw e 0 (.methodLink (jm_cow e) e.2.1.2 (jm_cx e)) && decide (jm_name e.2.2.2.1 = ⟨(jm_name e.2.2.2.1).cls, (jm_cx e).name, (jm_cx e).desc⟩) && jm_cw e 1 (.sameMethod (jm_cx e).cls (jm_name e.2.2.2.1).cls (jm_cx e).name (jm_cx e).desc) && jm_mok e.2.2.2.1 e.2.2.1 (jm_cx e).desc && jm_cw e 2 (.instanceMethod (jm_name e.2.2.2.1)) && e.2.2.2.2.1.zipIdx.all (fun t => decide (t.1.1 < 13) && jm_cw e (3 * t.2 + 3) (.selects (jm_cn.getD t.1.1 "") (jm_cx e) (jm_name t.1.2)) && jm_cw e (3 * t.2 + 4) (.instanceMethod (jm_name t.1.2)) && jm_mok t.1.2 e.2.2.1 (jm_cx e).desc)
  | 7 => jm_mok e.2.2.2.1 e.2.2.1 (jm_cx e).desc && jm_cw e 0 (.methodLink (jm_cow e) e.2.1.2 (jm_cx e)) && jm_cw e 1 (.sameMethod (jm_cx e).cls (jm_name e.2.2.2.1).cls (jm_cx e).name (jm_cx e).desc) && decide (jm_name e.2.2.2.1 = ⟨(jm_name e.2.2.2.1).cls, (jm_cx e).name, (jm_cx e).desc⟩) && jm_cw e 2 (.superclass (jm_cow e) (jm_cx e).cls) && jm_cw e 3 (.superclass (jm_cx e).cls (jm_name e.2.2.2.1).cls) && jm_cw e 4 (.instanceMethod (jm_name e.2.2.2.1)) && decide ((jm_cx e).name ≠ "<init>") && e.2.2.2.2.1.all (fun t => decide (t.2 = e.2.2.2.1) && decide (t.1 < 13))
  | 8 => jm_cw e 0 (.methodLink (jm_cow e) e.2.1.2 Lib.objectInit) && jm_cw e 1 (.instanceMethod Lib.objectInit) && jm_cw e 2 (.code Lib.objectInit ⟨#[0xb1]⟩ 1 none)
  | 9 => decide (jm_name e.2.2.2.1 = jm_cx e) && decide ((jm_cx e).cls = "java/lang/String") && jm_mok e.2.2.2.1 e.2.2.1 (jm_cx e).desc && jm_cw e 0 (.methodLink (jm_cow e) e.2.1.2 (jm_cx e)) && jm_cw e 1 (.instanceMethod (jm_cx e)) && jm_cw e 2 (.selects (jm_cx e).cls (jm_cx e) (jm_cx e))
  | 10 => jm_cw e 0 (.methodLink (jm_cow e) e.2.1.2 arraycopyName) && jm_cw e 1 (.native arraycopyName) && jm_cw e 2 (.static arraycopyName) && jm_cw e 3 (.initialized "java/lang/System")
  | 11 => jm_cw e 0 (.methodLink (jm_cow e) e.2.1.2 Lib.Math.max.name) && jm_cw e 1 (.static Lib.Math.max.name) && jm_cw e 2 (.initialized "java/lang/Math") && jm_cw e 3 (.code Lib.Math.max.name Lib.Math.max.code 2 (some .int))
  | 12 => jm_cw e 0 (.methodLink (jm_cow e) e.2.1.2 Lib.Math.min.name) && jm_cw e 1 (.static Lib.Math.min.name) && jm_cw e 2 (.initialized "java/lang/Math") && jm_cw e 3 (.code Lib.Math.min.name Lib.Math.min.code 2 (some .int))
  | _ => false)
def jm_tyf (T : u_T) (k : Nat) : FieldType := (parseFieldDescriptor (T k).2.2.1).getD .int
/-- a class: its fields' words, types, names apart -/
def jm_kok (i : Nat) (r : vw_C) : Bool :=
  (((u_ws r.1 r.2.1 r.2.2).zip (jm_kw.getD i ([], 0, 0)).1).all (fun q => jm_hasAt q.2 q.1) && decide ((jm_kw.getD i ([], 0, 0)).1.length = r.2.2)) && jm_hasAt (jm_kw.getD i ([], 0, 0)).2.1 (.instantiable r.1 r.2.2) && jm_hasAt (jm_kw.getD i ([], 0, 0)).2.2 (.initialized r.1) && decide ((jm_fk.getD i []).length = r.2.2) && decide (jm_cn.getD i "" = r.1) &&
  (List.range r.2.2).all (fun k => decide (parseFieldDescriptor (r.2.1 k).2.2.1 = some (jm_tyf r.2.1 k)) && (if (jm_fk.getD i []).getD k 0 = 2 then jm_isRefT (r.2.1 k).2.2.1 else decide ((r.2.1 k).2.2.1 = "I") || decide ((r.2.1 k).2.2.1 = "Z")) && (List.range r.2.2).all (fun j => decide (k = j) || decide ((r.2.1 k).2.1 ≠ (r.2.1 j).2.1)))
/-- a method's code, as a word -/
def jm_code (y : Nat) : Cond := .code (jm_name y) (jm_bc y) (jm_max y) (jm_ret y)
def jm_isC : Cond → Bool
  | .code y _ _ _ => !(y.cls == "java/lang/Object") && !(y.cls == "java/lang/StringUTF16")
  | _ => false
