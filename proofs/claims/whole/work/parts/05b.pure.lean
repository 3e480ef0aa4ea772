/-! ONE STEP of the small machine is steps of the real one: instructions that leave the heap -/
def jm_At (p : Program) (s : State) (m : MethodId) (args : Array Value) (meth : Method) (c : Code) (y : Nat) (G : jm_G) : Prop :=
  p.tables.exec = Jvm.exec ∧ c.code = jm_bc y ∧ c.maxLocals = jm_max y ∧ s.vm.findClass (jm_own y) = some m.cls ∧ (∀ w ∈ jm_Ts, w.before args s = true) ∧ jm_KX G s ∧ jm_gB G ≤ s.heap.size ∧ ((jm_name y).name = "<init>" → meth.name = "<init>")
/-- from a state of the small machine, whatever heap it stands for, the real one comes to Q -/
def jm_W (p : Program) (l : Launch) (e : Env) (R : Room) (s : State) (m : MethodId) (args : Array Value) (below : List Frame) (meth : Method) (c : Code) (y : Nat) (G : jm_G) (Q : State → Prop) (n0 w0 : Nat) (C : jm_C) : Prop :=
  ∀ (H : Heap) (locs : List Loc) (arr : Array Slot), jm_HP G C.2.2.2 H → jm_hasL G (jm_max y) C.2.1 arr → va_S (jm_A G) s.heap H locs → W p l e R s m args below meth c H locs (C.2.2.2.2.2.length - n0) (jm_wt C.2.2.2 - w0) Q (F0 m C.1 arr (C.2.2.1.map (jm_cv G)))
/-- there is room for what the heap has become -/
def jm_Rm (R : Room) (n0 w0 : Nat) (h h2 : jm_H) : Prop := n0 ≤ h.2.2.length ∧ w0 ≤ jm_wt h ∧ h2.2.2.length - n0 ≤ R.cells ∧ jm_wt h2 - w0 ≤ R.slots ∧ h2.2.2.length < 900000 ∧ 1 ≤ R.frames ∧ 40 ≤ R.locals
abbrev jm_Nx (p : Program) (l : Launch) (e : Env) (R : Room) (s : State) (m : MethodId) (args : Array Value) (below : List Frame) (meth : Method) (c : Code) (y : Nat) (G : jm_G) (Q : State → Prop) (n0 w0 : Nat) (o : jm_op) (pc : Nat) (ls : jm_L) (st : List Value) (h : jm_H) : Prop :=
  jm_At p s m args meth c y G → ∀ c2 : jm_C, jm_stepI (jm_ret y) o pc ls st h = some (.inl c2) → jm_chk y pc o = true → jm_Rm R n0 w0 h c2.2.2.2 → jm_W p l e R s m args below meth c y G Q n0 w0 c2 → jm_W p l e R s m args below meth c y G Q n0 w0 (pc, ls, st, h)
theorem jm_swt_out {x : Int32} {d : Nat} : ∀ (ts : List Nat) (lo : Int32), lo.toInt + (ts.length : Int) < 2147483647 → (x.toInt < lo.toInt ∨ lo.toInt + (ts.length : Int) ≤ x.toInt) → jm_swt x lo ts d = d := by
  intro ts
  induction ts with
  | nil => intro lo _ _; rfl
  | cons t ts ih =>
    intro lo hl hx
    simp only [List.length_cons, Int.natCast_add, Int.natCast_one] at hl hx
    have hne : ¬ x = lo := by
      intro q
      subst q
      omega
    rw [jm_swt, if_neg hne]
    have h1 : (lo + 1).toInt = lo.toInt + 1 := by
      have := Int32.minValue_le_toInt lo
      rw [Int32.toInt_add]
      have e1 : (1 : Int32).toInt = 1 := rfl
      rw [e1]
      have e2 : Int32.minValue.toInt = -2147483648 := rfl
      rw [Int.bmod_eq_of_le] <;> omega
    refine ih (lo + 1) (by rw [h1]; omega) ?_
    rw [h1]
    rcases hx with hx | hx
    · exact Or.inl (by omega)
    · exact Or.inr (by omega)
theorem jm_swt_in {x : Int32} {d : Nat} : ∀ (ts : List Nat) (lo : Int32), lo.toInt + (ts.length : Int) < 2147483647 → lo.toInt ≤ x.toInt → x.toInt < lo.toInt + (ts.length : Int) → ts[(x.toInt - lo.toInt).toNat]? = some (jm_swt x lo ts d) := by
  intro ts
  induction ts with
  | nil => intro lo _ h1 h2; simp only [List.length_nil] at h2; omega
  | cons t ts ih =>
    intro lo hl h1 h2
    simp only [List.length_cons, Int.natCast_add, Int.natCast_one] at hl h2
    by_cases hx : x = lo
    · subst hx
      rw [jm_swt, if_pos rfl, Int.sub_self]
      rfl
    · have hne : x.toInt ≠ lo.toInt := fun q => hx (Int32.toInt_inj.mp q)
      have h3 : (lo + 1).toInt = lo.toInt + 1 := by
        have := Int32.minValue_le_toInt lo
        rw [Int32.toInt_add]
        have e1 : (1 : Int32).toInt = 1 := rfl
        rw [e1]
        have e2 : Int32.minValue.toInt = -2147483648 := rfl
        rw [Int.bmod_eq_of_le] <;> omega
      rw [jm_swt, if_neg hx]
      have := ih (lo + 1) (by rw [h3]; omega) (by rw [h3]; omega) (by rw [h3]; omega)
      rw [← this, h3]
      have e4 : (x.toInt - lo.toInt).toNat = (x.toInt - (lo.toInt + 1)).toNat + 1 := by omega
      rw [e4, List.getElem?_cons_succ]
section JM1
variable {p : Program} {l : Launch} {e : Env} {R : Room} {s : State} {m : MethodId} {args : Array Value} {below : List Frame} {meth : Method} {c : Code} {y : Nat} {G : jm_G} {Q : State → Prop} {n0 w0 : Nat} {pc : Nat} {ls : jm_L} {st : List Value} {h : jm_H}
theorem jm_x_iconst {q : Nat × Nat × Int32} {n : Int} : jm_Nx p l e R s m args below meth c y G Q n0 w0 (.iconst n, q) pc ls st h := by
  intro hA c2 hs0 hc _ k H locs arr hH hl hS
  obtain ⟨hx, hb, hml, hown, hts, hK, hB, hnm⟩ := hA
  have hd := jm_chk_op hc rfl
  have hk := of_decide_eq_true (jm_chk_dec hc).2
  cases hs0
  exact lv_iconst hx hb hd hk (k H locs arr hH hl hS)
theorem jm_x_bipush {q : Nat × Nat × Int32} {n : Int} : jm_Nx p l e R s m args below meth c y G Q n0 w0 (.bipush n, q) pc ls st h := by
  intro hA c2 hs0 hc _ k H locs arr hH hl hS
  obtain ⟨hx, hb, hml, hown, hts, hK, hB, hnm⟩ := hA
  have hd := jm_chk_op hc rfl
  have hk := of_decide_eq_true (jm_chk_dec hc).2
  cases hs0
  exact lv_bipush hx hb hd hk (k H locs arr hH hl hS)
theorem jm_x_sipush {q : Nat × Nat × Int32} {n : Int} : jm_Nx p l e R s m args below meth c y G Q n0 w0 (.sipush n, q) pc ls st h := by
  intro hA c2 hs0 hc _ k H locs arr hH hl hS
  obtain ⟨hx, hb, hml, hown, hts, hK, hB, hnm⟩ := hA
  have hd := jm_chk_op hc rfl
  have hk := of_decide_eq_true (jm_chk_dec hc).2
  cases hs0
  exact lv_sipush hx hb hd hk (k H locs arr hH hl hS)
theorem jm_x_lconst {q : Nat × Nat × Int32} {n : Fin 2} : jm_Nx p l e R s m args below meth c y G Q n0 w0 (.lconst n, q) pc ls st h := by
  intro hA c2 hs0 hc _ k H locs arr hH hl hS
  obtain ⟨hx, hb, hml, hown, hts, hK, hB, hnm⟩ := hA
  have hd := jm_chk_op hc rfl
  have hk := of_decide_eq_true (jm_chk_dec hc).2
  cases hs0
  exact lv_lconst hx hb hd hk (k H locs arr hH hl hS)
theorem jm_x_ldc2_w {q : Nat × Nat × Int32} {n : Nat} : jm_Nx p l e R s m args below meth c y G Q n0 w0 (.ldc2_w n, q) pc ls st h := by
  intro hA c2 hs0 hc _ k H locs arr hH hl hS
  obtain ⟨hx, hb, hml, hown, hts, hK, hB, hnm⟩ := hA
  have hd := jm_chk_op hc rfl
  have hk := hts _ (jm_hasAt_in (jm_chk_dec hc).2)
  cases hs0
  exact lv_ldc2 hx hb hown hk hd (k H locs arr hH hl hS)
theorem jm_x_ldc_w {q : Nat × Nat × Int32} {n : Nat} : jm_Nx p l e R s m args below meth c y G Q n0 w0 (.ldc_w n, q) pc ls st h := by
  intro hA c2 hs0 hc _ k H locs arr hH hl hS
  obtain ⟨hx, hb, hml, hown, hts, hK, hB, hnm⟩ := hA
  have hd := jm_chk_op hc rfl
  have hk := hts _ (jm_hasAt_in (jm_chk_dec hc).2)
  cases hs0
  exact lv_ldcw hx hb hown hk hd (k H locs arr hH hl hS)
theorem jm_x_ldc {q : Nat × Nat × Int32} {n : Nat} : jm_Nx p l e R s m args below meth c y G Q n0 w0 (.ldc n, q) pc ls st h := by
  intro hA c2 hs0 hc _ k H locs arr hH hl hS
  obtain ⟨hx, hb, hml, hown, hts, hK, hB, hnm⟩ := hA
  have hd := jm_chk_op hc rfl
  have hk := (jm_chk_dec hc).2
  have hs : (if q.1 = 1 then (if q.2.1 < jm_sn then jm_nx (pc + 2) ls (.ref (q.2.1 + jm_STR) :: st) h else none) else jm_nx (pc + 2) ls (.int q.2.2 :: st) h) = some (.inl c2) := hs0
  have hk : (if q.1 = 1 then decide (jm_own y = "DoorOfLuck$Tape" ∧ q.2.1 < jm_sn ∧ (jm_sow.getD q.2.1 (0, "")).1 = n) else jm_hasAt q.2.1 (.constant (jm_own y) n q.2.2)) = true := hk
  by_cases hq : q.1 = 1
  · rw [if_pos hq] at hs hk
    obtain ⟨h1, h2, h3⟩ := of_decide_eq_true hk
    rw [if_pos h2] at hs
    cases hs
    have hR := hK.2.2.2.2.2.2.2.2.2.2.1 q.2.1 h2
    rw [h3, ← h1] at hR
    have k2 := k H locs arr hH hl hS
    have e1 : jm_cr G (q.2.1 + jm_STR) = jm_gK G q.2.1 := jm_cr_str h2
    have k3 : W p l e R s m args below meth c H locs (h.2.2.length - n0) (jm_wt h - w0) Q (F0 m (pc + 2) arr (.ref (jm_cr G (q.2.1 + jm_STR)) :: st.map (jm_cv G))) := k2
    rw [e1] at k3
    exact va_ldcS hx hb hown hR hd k3
  · rw [if_neg hq] at hs hk
    cases hs
    exact lv_ldc hx hb hown (hts _ (jm_hasAt_in hk)) hd (k H locs arr hH hl hS)
theorem jm_x_aconst_null {q : Nat × Nat × Int32} : jm_Nx p l e R s m args below meth c y G Q n0 w0 (.aconst_null, q) pc ls st h := by
  intro hA c2 hs0 hc _ k H locs arr hH hl hS
  obtain ⟨hx, hb, hml, hown, hts, hK, hB, hnm⟩ := hA
  have hd := jm_chk_op hc rfl
  cases hs0
  exact lv_null hx hb hd (k H locs arr hH hl hS)
theorem jm_x_iload_n {q : Nat × Nat × Int32} {j : Fin 4} : jm_Nx p l e R s m args below meth c y G Q n0 w0 (.iload_n j, q) pc ls st h := by
  intro hA c2 hs0 hc _ k H locs arr hH hl hS
  obtain ⟨hx, hb, hml, hown, hts, hK, hB, hnm⟩ := hA
  have hd := jm_chk_op hc rfl
  have hs : jm_lodi j 1 pc ls st h = some (.inl c2) := hs0
  unfold jm_lodi at hs
  split at hs
  next x hx2 => cases hs; exact lv_iload_n hx hb hd rfl (hl.get hx2) (k H locs arr hH hl hS)
  next => cases hs
theorem jm_x_iload {q : Nat × Nat × Int32} {j : Nat} : jm_Nx p l e R s m args below meth c y G Q n0 w0 (.iload j, q) pc ls st h := by
  intro hA c2 hs0 hc _ k H locs arr hH hl hS
  obtain ⟨hx, hb, hml, hown, hts, hK, hB, hnm⟩ := hA
  have hd := jm_chk_op hc rfl
  have hs : jm_lodi j 2 pc ls st h = some (.inl c2) := hs0
  unfold jm_lodi at hs
  split at hs
  next x hx2 => cases hs; exact lv_iload hx hb hd (hl.get hx2) (k H locs arr hH hl hS)
  next => cases hs
theorem jm_x_lload_n {q : Nat × Nat × Int32} {j : Fin 4} : jm_Nx p l e R s m args below meth c y G Q n0 w0 (.lload_n j, q) pc ls st h := by
  intro hA c2 hs0 hc _ k H locs arr hH hl hS
  obtain ⟨hx, hb, hml, hown, hts, hK, hB, hnm⟩ := hA
  have hd := jm_chk_op hc rfl
  have hs : jm_lodl j 1 pc ls st h = some (.inl c2) := hs0
  unfold jm_lodl at hs
  split at hs
  next x hx2 => cases hs; exact lv_lload_n hx hb hd rfl (hl.get hx2) (k H locs arr hH hl hS)
  next => cases hs
theorem jm_x_lload {q : Nat × Nat × Int32} {j : Nat} : jm_Nx p l e R s m args below meth c y G Q n0 w0 (.lload j, q) pc ls st h := by
  intro hA c2 hs0 hc _ k H locs arr hH hl hS
  obtain ⟨hx, hb, hml, hown, hts, hK, hB, hnm⟩ := hA
  have hd := jm_chk_op hc rfl
  have hs : jm_lodl j 2 pc ls st h = some (.inl c2) := hs0
  unfold jm_lodl at hs
  split at hs
  next x hx2 => cases hs; exact lv_lload hx hb hd (hl.get hx2) (k H locs arr hH hl hS)
  next => cases hs
theorem jm_x_aload_n {q : Nat × Nat × Int32} {j : Fin 4} : jm_Nx p l e R s m args below meth c y G Q n0 w0 (.aload_n j, q) pc ls st h := by
  intro hA c2 hs0 hc _ k H locs arr hH hl hS
  obtain ⟨hx, hb, hml, hown, hts, hK, hB, hnm⟩ := hA
  have hd := jm_chk_op hc rfl
  have hs : jm_loda j 1 pc ls st h = some (.inl c2) := hs0
  unfold jm_loda at hs
  split at hs
  next x hx2 => cases hs; exact lv_aload_n hx hb hd rfl (hl.get hx2) (k H locs arr hH hl hS)
  next hx2 => cases hs; exact lv_aload_nN hx hb hd rfl (hl.get hx2) (k H locs arr hH hl hS)
  next => cases hs
theorem jm_x_aload {q : Nat × Nat × Int32} {j : Nat} : jm_Nx p l e R s m args below meth c y G Q n0 w0 (.aload j, q) pc ls st h := by
  intro hA c2 hs0 hc _ k H locs arr hH hl hS
  obtain ⟨hx, hb, hml, hown, hts, hK, hB, hnm⟩ := hA
  have hd := jm_chk_op hc rfl
  have hs : jm_loda j 2 pc ls st h = some (.inl c2) := hs0
  unfold jm_loda at hs
  split at hs
  next x hx2 => cases hs; exact lv_aload hx hb hd (hl.get hx2) (k H locs arr hH hl hS)
  next hx2 => cases hs; exact lv_aloadN hx hb hd (hl.get hx2) (k H locs arr hH hl hS)
  next => cases hs
theorem jm_x_istore_n {q : Nat × Nat × Int32} {j : Fin 4} : jm_Nx p l e R s m args below meth c y G Q n0 w0 (.istore_n j, q) pc ls st h := by
  intro hA c2 hs0 hc _ k H locs arr hH hl hS
  obtain ⟨hx, hb, hml, hown, hts, hK, hB, hnm⟩ := hA
  have hd := jm_chk_op hc rfl
  have hs : jm_stoi j 1 pc ls st h = some (.inl c2) := hs0
  unfold jm_stoi at hs
  split at hs
  next _ x r =>
    split at hs
    next hj => cases hs; exact lv_istore_n hx hb hd rfl hl.lv (by rw [← hl.2.2.1]; exact hj) rfl (fun arr2 hl2 => k H locs arr2 hH (jm_hasL.set1 hK.2.2.2.2.2.2.2.2.2.2.2.2.2.1 hj hl.2.2.1 hl2) hS)
    next => cases hs
  next => cases hs
theorem jm_x_istore {q : Nat × Nat × Int32} {j : Nat} : jm_Nx p l e R s m args below meth c y G Q n0 w0 (.istore j, q) pc ls st h := by
  intro hA c2 hs0 hc _ k H locs arr hH hl hS
  obtain ⟨hx, hb, hml, hown, hts, hK, hB, hnm⟩ := hA
  have hd := jm_chk_op hc rfl
  have hs : jm_stoi j 2 pc ls st h = some (.inl c2) := hs0
  unfold jm_stoi at hs
  split at hs
  next _ x r =>
    split at hs
    next hj => cases hs; exact lv_istore hx hb hd hl.lv (by rw [← hl.2.2.1]; exact hj) rfl (fun arr2 hl2 => k H locs arr2 hH (jm_hasL.set1 hK.2.2.2.2.2.2.2.2.2.2.2.2.2.1 hj hl.2.2.1 hl2) hS)
    next => cases hs
  next => cases hs
theorem jm_x_astore_n {q : Nat × Nat × Int32} {j : Fin 4} : jm_Nx p l e R s m args below meth c y G Q n0 w0 (.astore_n j, q) pc ls st h := by
  intro hA c2 hs0 hc _ k H locs arr hH hl hS
  obtain ⟨hx, hb, hml, hown, hts, hK, hB, hnm⟩ := hA
  have hd := jm_chk_op hc rfl
  have hs : jm_stoa j 1 pc ls st h = some (.inl c2) := hs0
  unfold jm_stoa at hs
  split at hs
  next _ x r =>
    split at hs
    next hj => cases hs; exact lv_astore_n hx hb hd rfl hl.lv (by rw [← hl.2.2.1]; exact hj) rfl (fun arr2 hl2 => k H locs arr2 hH (jm_hasL.set1 hK.2.2.2.2.2.2.2.2.2.2.2.2.2.1 hj hl.2.2.1 hl2) hS)
    next => cases hs
  next _ r =>
    split at hs
    next hj => cases hs; exact lv_astore_nN hx hb hd rfl hl.lv (by rw [← hl.2.2.1]; exact hj) rfl (fun arr2 hl2 => k H locs arr2 hH (jm_hasL.set1 hK.2.2.2.2.2.2.2.2.2.2.2.2.2.1 hj hl.2.2.1 hl2) hS)
    next => cases hs
  next => cases hs
theorem jm_x_astore {q : Nat × Nat × Int32} {j : Nat} : jm_Nx p l e R s m args below meth c y G Q n0 w0 (.astore j, q) pc ls st h := by
  intro hA c2 hs0 hc _ k H locs arr hH hl hS
  obtain ⟨hx, hb, hml, hown, hts, hK, hB, hnm⟩ := hA
  have hd := jm_chk_op hc rfl
  have hs : jm_stoa j 2 pc ls st h = some (.inl c2) := hs0
  unfold jm_stoa at hs
  split at hs
  next _ x r =>
    split at hs
    next hj => cases hs; exact lv_astore hx hb hd hl.lv (by rw [← hl.2.2.1]; exact hj) rfl (fun arr2 hl2 => k H locs arr2 hH (jm_hasL.set1 hK.2.2.2.2.2.2.2.2.2.2.2.2.2.1 hj hl.2.2.1 hl2) hS)
    next => cases hs
  next _ r =>
    split at hs
    next hj => cases hs; exact lv_astoreN hx hb hd hl.lv (by rw [← hl.2.2.1]; exact hj) rfl (fun arr2 hl2 => k H locs arr2 hH (jm_hasL.set1 hK.2.2.2.2.2.2.2.2.2.2.2.2.2.1 hj hl.2.2.1 hl2) hS)
    next => cases hs
  next => cases hs
theorem jm_x_lstore_n {q : Nat × Nat × Int32} {j : Fin 4} : jm_Nx p l e R s m args below meth c y G Q n0 w0 (.lstore_n j, q) pc ls st h := by
  intro hA c2 hs0 hc _ k H locs arr hH hl hS
  obtain ⟨hx, hb, hml, hown, hts, hK, hB, hnm⟩ := hA
  have hd := jm_chk_op hc rfl
  have hs : jm_stol j 1 pc ls st h = some (.inl c2) := hs0
  unfold jm_stol at hs
  split at hs
  next _ x r =>
    split at hs
    next hj => cases hs; exact lv_lstore_n hx hb hd rfl hl.lv (by rw [← hl.2.2.1]; exact hj) rfl (fun arr2 hl2 => k H locs arr2 hH (jm_hasL.set2 hK.2.2.2.2.2.2.2.2.2.2.2.2.2.1 hj hl.2.2.1 hl2) hS)
    next => cases hs
  next => cases hs
theorem jm_x_lstore {q : Nat × Nat × Int32} {j : Nat} : jm_Nx p l e R s m args below meth c y G Q n0 w0 (.lstore j, q) pc ls st h := by
  intro hA c2 hs0 hc _ k H locs arr hH hl hS
  obtain ⟨hx, hb, hml, hown, hts, hK, hB, hnm⟩ := hA
  have hd := jm_chk_op hc rfl
  have hs : jm_stol j 2 pc ls st h = some (.inl c2) := hs0
  unfold jm_stol at hs
  split at hs
  next _ x r =>
    split at hs
    next hj => cases hs; exact lv_lstore hx hb hd hl.lv (by rw [← hl.2.2.1]; exact hj) rfl (fun arr2 hl2 => k H locs arr2 hH (jm_hasL.set2 hK.2.2.2.2.2.2.2.2.2.2.2.2.2.1 hj hl.2.2.1 hl2) hS)
    next => cases hs
  next => cases hs
theorem jm_x_iinc {q : Nat × Nat × Int32} {j : Nat} {n : Int} : jm_Nx p l e R s m args below meth c y G Q n0 w0 (.iinc j n, q) pc ls st h := by
  intro hA c2 hs0 hc _ k H locs arr hH hl hS
  obtain ⟨hx, hb, hml, hown, hts, hK, hB, hnm⟩ := hA
  have hd := jm_chk_op hc rfl
  have hk := of_decide_eq_true (jm_chk_dec hc).2
  have hs : (match (generalizing := false) jm_get ls j with | some (.int x) => if j < ls.length then some (.inl (pc + 3, jm_set ls j (.int (x + q.2.2)), st, h)) else none | _ => none) = some (Sum.inl c2 : jm_R) := hs0
  split at hs
  next x hx2 =>
    split at hs
    next hj =>
      cases hs
      have hm : (j, Value.int x) ∈ jm_lv G ls := jm_lv_mem.mpr ⟨_, jm_get_at hx2, rfl⟩
      obtain ⟨kk, hkk⟩ := List.getElem?_of_mem hm
      refine lv_iinc (k := kk) hx hb hd hl.lv hkk (by rw [show Int32.ofInt n = q.2.2 from hk]) (by rw [← hl.2.2.1]; exact hj) rfl (fun arr2 hl2 => k H locs arr2 hH (jm_hasL.set1 hK.2.2.2.2.2.2.2.2.2.2.2.2.2.1 hj hl.2.2.1 hl2) hS)
    next => cases hs
  next => cases hs
theorem jm_x_iadd {q : Nat × Nat × Int32} : jm_Nx p l e R s m args below meth c y G Q n0 w0 (.iadd, q) pc ls st h := by
  intro hA c2 hs0 hc _ k H locs arr hH hl hS
  obtain ⟨hx, hb, hml, hown, hts, hK, hB, hnm⟩ := hA
  have hd := jm_chk_op hc rfl
  have hs : jm_bin _ pc ls st h = some (.inl c2) := hs0
  unfold jm_bin at hs
  split at hs
  next => cases hs; exact lv_iadd hx hb hd (k H locs arr hH hl hS)
  next => cases hs
theorem jm_x_isub {q : Nat × Nat × Int32} : jm_Nx p l e R s m args below meth c y G Q n0 w0 (.isub, q) pc ls st h := by
  intro hA c2 hs0 hc _ k H locs arr hH hl hS
  obtain ⟨hx, hb, hml, hown, hts, hK, hB, hnm⟩ := hA
  have hd := jm_chk_op hc rfl
  have hs : jm_bin _ pc ls st h = some (.inl c2) := hs0
  unfold jm_bin at hs
  split at hs
  next => cases hs; exact lv_isub hx hb hd (k H locs arr hH hl hS)
  next => cases hs
theorem jm_x_imul {q : Nat × Nat × Int32} : jm_Nx p l e R s m args below meth c y G Q n0 w0 (.imul, q) pc ls st h := by
  intro hA c2 hs0 hc _ k H locs arr hH hl hS
  obtain ⟨hx, hb, hml, hown, hts, hK, hB, hnm⟩ := hA
  have hd := jm_chk_op hc rfl
  have hs : jm_bin _ pc ls st h = some (.inl c2) := hs0
  unfold jm_bin at hs
  split at hs
  next => cases hs; exact lv_imul hx hb hd (k H locs arr hH hl hS)
  next => cases hs
theorem jm_x_iand {q : Nat × Nat × Int32} : jm_Nx p l e R s m args below meth c y G Q n0 w0 (.iand, q) pc ls st h := by
  intro hA c2 hs0 hc _ k H locs arr hH hl hS
  obtain ⟨hx, hb, hml, hown, hts, hK, hB, hnm⟩ := hA
  have hd := jm_chk_op hc rfl
  have hs : jm_bin _ pc ls st h = some (.inl c2) := hs0
  unfold jm_bin at hs
  split at hs
  next => cases hs; exact lv_iand hx hb hd (k H locs arr hH hl hS)
  next => cases hs
theorem jm_x_ior {q : Nat × Nat × Int32} : jm_Nx p l e R s m args below meth c y G Q n0 w0 (.ior, q) pc ls st h := by
  intro hA c2 hs0 hc _ k H locs arr hH hl hS
  obtain ⟨hx, hb, hml, hown, hts, hK, hB, hnm⟩ := hA
  have hd := jm_chk_op hc rfl
  have hs : jm_bin _ pc ls st h = some (.inl c2) := hs0
  unfold jm_bin at hs
  split at hs
  next => cases hs; exact lv_ior hx hb hd (k H locs arr hH hl hS)
  next => cases hs
theorem jm_x_ixor {q : Nat × Nat × Int32} : jm_Nx p l e R s m args below meth c y G Q n0 w0 (.ixor, q) pc ls st h := by
  intro hA c2 hs0 hc _ k H locs arr hH hl hS
  obtain ⟨hx, hb, hml, hown, hts, hK, hB, hnm⟩ := hA
  have hd := jm_chk_op hc rfl
  have hs : jm_bin _ pc ls st h = some (.inl c2) := hs0
  unfold jm_bin at hs
  split at hs
  next => cases hs; exact lv_ixor hx hb hd (k H locs arr hH hl hS)
  next => cases hs
theorem jm_x_ishl {q : Nat × Nat × Int32} : jm_Nx p l e R s m args below meth c y G Q n0 w0 (.ishl, q) pc ls st h := by
  intro hA c2 hs0 hc _ k H locs arr hH hl hS
  obtain ⟨hx, hb, hml, hown, hts, hK, hB, hnm⟩ := hA
  have hd := jm_chk_op hc rfl
  have hs : jm_bin _ pc ls st h = some (.inl c2) := hs0
  unfold jm_bin at hs
  split at hs
  next => cases hs; exact lv_ishl hx hb hd (k H locs arr hH hl hS)
  next => cases hs
theorem jm_x_ishr {q : Nat × Nat × Int32} : jm_Nx p l e R s m args below meth c y G Q n0 w0 (.ishr, q) pc ls st h := by
  intro hA c2 hs0 hc _ k H locs arr hH hl hS
  obtain ⟨hx, hb, hml, hown, hts, hK, hB, hnm⟩ := hA
  have hd := jm_chk_op hc rfl
  have hs : jm_bin _ pc ls st h = some (.inl c2) := hs0
  unfold jm_bin at hs
  split at hs
  next => cases hs; exact lv_ishr hx hb hd (k H locs arr hH hl hS)
  next => cases hs
theorem jm_x_iushr {q : Nat × Nat × Int32} : jm_Nx p l e R s m args below meth c y G Q n0 w0 (.iushr, q) pc ls st h := by
  intro hA c2 hs0 hc _ k H locs arr hH hl hS
  obtain ⟨hx, hb, hml, hown, hts, hK, hB, hnm⟩ := hA
  have hd := jm_chk_op hc rfl
  have hs : jm_bin _ pc ls st h = some (.inl c2) := hs0
  unfold jm_bin at hs
  split at hs
  next => cases hs; exact lv_iushr hx hb hd rfl (k H locs arr hH hl hS)
  next => cases hs
theorem jm_x_ladd {q : Nat × Nat × Int32} : jm_Nx p l e R s m args below meth c y G Q n0 w0 (.ladd, q) pc ls st h := by
  intro hA c2 hs0 hc _ k H locs arr hH hl hS
  obtain ⟨hx, hb, hml, hown, hts, hK, hB, hnm⟩ := hA
  have hd := jm_chk_op hc rfl
  have hs : jm_lin _ pc ls st h = some (.inl c2) := hs0
  unfold jm_lin at hs
  split at hs
  next => cases hs; exact lv_ladd hx hb hd (k H locs arr hH hl hS)
  next => cases hs
theorem jm_x_lmul {q : Nat × Nat × Int32} : jm_Nx p l e R s m args below meth c y G Q n0 w0 (.lmul, q) pc ls st h := by
  intro hA c2 hs0 hc _ k H locs arr hH hl hS
  obtain ⟨hx, hb, hml, hown, hts, hK, hB, hnm⟩ := hA
  have hd := jm_chk_op hc rfl
  have hs : jm_lin _ pc ls st h = some (.inl c2) := hs0
  unfold jm_lin at hs
  split at hs
  next => cases hs; exact lv_lmul hx hb hd (k H locs arr hH hl hS)
  next => cases hs
theorem jm_x_ineg {q : Nat × Nat × Int32} : jm_Nx p l e R s m args below meth c y G Q n0 w0 (.ineg, q) pc ls st h := by
  intro hA c2 hs0 hc _ k H locs arr hH hl hS
  obtain ⟨hx, hb, hml, hown, hts, hK, hB, hnm⟩ := hA
  have hd := jm_chk_op hc rfl
  have hs : jm_un _ pc ls st h = some (.inl c2) := hs0
  unfold jm_un at hs
  split at hs
  next => cases hs; exact lv_ineg hx hb hd (k H locs arr hH hl hS)
  next => cases hs
theorem jm_x_i2b {q : Nat × Nat × Int32} : jm_Nx p l e R s m args below meth c y G Q n0 w0 (.i2b, q) pc ls st h := by
  intro hA c2 hs0 hc _ k H locs arr hH hl hS
  obtain ⟨hx, hb, hml, hown, hts, hK, hB, hnm⟩ := hA
  have hd := jm_chk_op hc rfl
  have hs : jm_un _ pc ls st h = some (.inl c2) := hs0
  unfold jm_un at hs
  split at hs
  next => cases hs; exact lv_i2b hx hb hd rfl (k H locs arr hH hl hS)
  next => cases hs
theorem jm_x_i2s {q : Nat × Nat × Int32} : jm_Nx p l e R s m args below meth c y G Q n0 w0 (.i2s, q) pc ls st h := by
  intro hA c2 hs0 hc _ k H locs arr hH hl hS
  obtain ⟨hx, hb, hml, hown, hts, hK, hB, hnm⟩ := hA
  have hd := jm_chk_op hc rfl
  have hs : jm_un _ pc ls st h = some (.inl c2) := hs0
  unfold jm_un at hs
  split at hs
  next => cases hs; exact lv_i2s hx hb hd rfl (k H locs arr hH hl hS)
  next => cases hs
theorem jm_x_i2c {q : Nat × Nat × Int32} : jm_Nx p l e R s m args below meth c y G Q n0 w0 (.i2c, q) pc ls st h := by
  intro hA c2 hs0 hc _ k H locs arr hH hl hS
  obtain ⟨hx, hb, hml, hown, hts, hK, hB, hnm⟩ := hA
  have hd := jm_chk_op hc rfl
  have hs : jm_un _ pc ls st h = some (.inl c2) := hs0
  unfold jm_un at hs
  split at hs
  next => cases hs; exact lv_i2c hx hb hd rfl (k H locs arr hH hl hS)
  next => cases hs
theorem jm_x_idiv {q : Nat × Nat × Int32} : jm_Nx p l e R s m args below meth c y G Q n0 w0 (.idiv, q) pc ls st h := by
  intro hA c2 hs0 hc _ k H locs arr hH hl hS
  obtain ⟨hx, hb, hml, hown, hts, hK, hB, hnm⟩ := hA
  have hd := jm_chk_op hc rfl
  have hs : (match (generalizing := false) st with | .int y :: .int x :: r => if y = 0 then none else some (.inl (pc + 1, ls, .int (x / y) :: r, h)) | _ => none) = some (Sum.inl c2 : jm_R) := hs0
  split at hs
  next =>
    split at hs
    next => cases hs
    next hy => cases hs; exact lv_idiv hx hb hd hy (k H locs arr hH hl hS)
  next => cases hs
theorem jm_x_irem {q : Nat × Nat × Int32} : jm_Nx p l e R s m args below meth c y G Q n0 w0 (.irem, q) pc ls st h := by
  intro hA c2 hs0 hc _ k H locs arr hH hl hS
  obtain ⟨hx, hb, hml, hown, hts, hK, hB, hnm⟩ := hA
  have hd := jm_chk_op hc rfl
  have hs : (match (generalizing := false) st with | .int y :: .int x :: r => if y = 0 then none else some (.inl (pc + 1, ls, .int (x - (x / y) * y) :: r, h)) | _ => none) = some (Sum.inl c2 : jm_R) := hs0
  split at hs
  next =>
    split at hs
    next => cases hs
    next hy => cases hs; exact lv_irem hx hb hd hy (k H locs arr hH hl hS)
  next => cases hs
theorem jm_x_ldiv {q : Nat × Nat × Int32} : jm_Nx p l e R s m args below meth c y G Q n0 w0 (.ldiv, q) pc ls st h := by
  intro hA c2 hs0 hc _ k H locs arr hH hl hS
  obtain ⟨hx, hb, hml, hown, hts, hK, hB, hnm⟩ := hA
  have hd := jm_chk_op hc rfl
  have hs : (match (generalizing := false) st with | .long y :: .long x :: r => if y = 0 then none else some (.inl (pc + 1, ls, .long (x / y) :: r, h)) | _ => none) = some (Sum.inl c2 : jm_R) := hs0
  split at hs
  next =>
    split at hs
    next => cases hs
    next hy => cases hs; exact lv_ldiv hx hb hd hy (k H locs arr hH hl hS)
  next => cases hs
theorem jm_x_lrem {q : Nat × Nat × Int32} : jm_Nx p l e R s m args below meth c y G Q n0 w0 (.lrem, q) pc ls st h := by
  intro hA c2 hs0 hc _ k H locs arr hH hl hS
  obtain ⟨hx, hb, hml, hown, hts, hK, hB, hnm⟩ := hA
  have hd := jm_chk_op hc rfl
  have hs : (match (generalizing := false) st with | .long y :: .long x :: r => if y = 0 then none else some (.inl (pc + 1, ls, .long (x - (x / y) * y) :: r, h)) | _ => none) = some (Sum.inl c2 : jm_R) := hs0
  split at hs
  next =>
    split at hs
    next => cases hs
    next hy => cases hs; exact lv_lrem hx hb hd hy (k H locs arr hH hl hS)
  next => cases hs
theorem jm_x_i2l {q : Nat × Nat × Int32} : jm_Nx p l e R s m args below meth c y G Q n0 w0 (.i2l, q) pc ls st h := by
  intro hA c2 hs0 hc _ k H locs arr hH hl hS
  obtain ⟨hx, hb, hml, hown, hts, hK, hB, hnm⟩ := hA
  have hd := jm_chk_op hc rfl
  have hs : (match (generalizing := false) st with | .int x :: r => some (.inl (pc + 1, ls, .long x.toInt64 :: r, h)) | _ => none) = some (Sum.inl c2 : jm_R) := hs0
  split at hs
  next => cases hs; exact lv_i2l hx hb hd rfl (k H locs arr hH hl hS)
  next => cases hs
theorem jm_x_l2i {q : Nat × Nat × Int32} : jm_Nx p l e R s m args below meth c y G Q n0 w0 (.l2i, q) pc ls st h := by
  intro hA c2 hs0 hc _ k H locs arr hH hl hS
  obtain ⟨hx, hb, hml, hown, hts, hK, hB, hnm⟩ := hA
  have hd := jm_chk_op hc rfl
  have hs : (match (generalizing := false) st with | .long x :: r => some (.inl (pc + 1, ls, .int x.toInt32 :: r, h)) | _ => none) = some (Sum.inl c2 : jm_R) := hs0
  split at hs
  next => cases hs; exact lv_l2i hx hb hd rfl (k H locs arr hH hl hS)
  next => cases hs
theorem jm_x_lcmp {q : Nat × Nat × Int32} : jm_Nx p l e R s m args below meth c y G Q n0 w0 (.lcmp, q) pc ls st h := by
  intro hA c2 hs0 hc _ k H locs arr hH hl hS
  obtain ⟨hx, hb, hml, hown, hts, hK, hB, hnm⟩ := hA
  have hd := jm_chk_op hc rfl
  have hs : (match (generalizing := false) st with | .long y :: .long x :: r => some (.inl (pc + 1, ls, .int (lg_cmp x y) :: r, h)) | _ => none) = some (Sum.inl c2 : jm_R) := hs0
  split at hs
  next => cases hs; exact W.lcmp hx hb hd (k H locs arr hH hl hS)
  next => cases hs
theorem jm_x_dup {q : Nat × Nat × Int32} : jm_Nx p l e R s m args below meth c y G Q n0 w0 (.dup, q) pc ls st h := by
  intro hA c2 hs0 hc _ k H locs arr hH hl hS
  obtain ⟨hx, hb, hml, hown, hts, hK, hB, hnm⟩ := hA
  have hd := jm_chk_op hc rfl
  have hs : (match (generalizing := false) st with | .int x :: r => some (.inl (pc + 1, ls, .int x :: .int x :: r, h)) | .ref x :: r => some (.inl (pc + 1, ls, .ref x :: .ref x :: r, h)) | _ => none) = some (Sum.inl c2 : jm_R) := hs0
  split at hs
  next => cases hs; exact lv_dup hx hb hd rfl (k H locs arr hH hl hS)
  next => cases hs; exact lv_dup hx hb hd rfl (k H locs arr hH hl hS)
  next => cases hs
theorem jm_x_dup2 {q : Nat × Nat × Int32} : jm_Nx p l e R s m args below meth c y G Q n0 w0 (.dup2, q) pc ls st h := by
  intro hA c2 hs0 hc _ k H locs arr hH hl hS
  obtain ⟨hx, hb, hml, hown, hts, hK, hB, hnm⟩ := hA
  have hd := jm_chk_op hc rfl
  have hs : (match (generalizing := false) st with | .int x :: .ref y :: r => some (.inl (pc + 1, ls, .int x :: .ref y :: .int x :: .ref y :: r, h)) | _ => none) = some (Sum.inl c2 : jm_R) := hs0
  split at hs
  next => cases hs; exact lv_dup2_11 hx hb hd rfl rfl (k H locs arr hH hl hS)
  next => cases hs
theorem jm_x_pop {q : Nat × Nat × Int32} : jm_Nx p l e R s m args below meth c y G Q n0 w0 (.pop, q) pc ls st h := by
  intro hA c2 hs0 hc _ k H locs arr hH hl hS
  obtain ⟨hx, hb, hml, hown, hts, hK, hB, hnm⟩ := hA
  have hd := jm_chk_op hc rfl
  have hs : (match (generalizing := false) st with | .int _ :: r => some (.inl (pc + 1, ls, r, h)) | _ => none) = some (Sum.inl c2 : jm_R) := hs0
  split at hs
  next => cases hs; exact lv_pop hx hb hd rfl (k H locs arr hH hl hS)
  next => cases hs
theorem jm_x_goto {q : Nat × Nat × Int32} {n : Int} : jm_Nx p l e R s m args below meth c y G Q n0 w0 (.goto n, q) pc ls st h := by
  intro hA c2 hs0 hc _ k H locs arr hH hl hS
  obtain ⟨hx, hb, hml, hown, hts, hK, hB, hnm⟩ := hA
  have hd := jm_chk_op hc rfl
  have hk := of_decide_eq_true (jm_chk_dec hc).2
  cases hs0
  exact lv_goto hx hb hd hk (k H locs arr hH hl hS)
theorem jm_x_ifCond {q : Nat × Nat × Int32} {cd : Jvm.ClassFile.Cond} {n : Int} : jm_Nx p l e R s m args below meth c y G Q n0 w0 (.ifCond cd n, q) pc ls st h := by
  intro hA c2 hs0 hc _ k H locs arr hH hl hS
  obtain ⟨hx, hb, hml, hown, hts, hK, hB, hnm⟩ := hA
  have hd := jm_chk_op hc rfl
  have hk := of_decide_eq_true (jm_chk_dec hc).2
  have hs : jm_br0 cd q.1 pc ls st h = some (.inl c2) := hs0
  unfold jm_br0 at hs
  split at hs
  next =>
    cases hs
    have k := k H locs arr hH hl hS
    cases cd
    case eq => exact lv_if_eq hx hb hd hk (fun hc3 => by simpa only [jm_cmp, if_pos hc3] using k) (fun hc3 => by simpa only [jm_cmp, if_neg hc3] using k)
    case ne => exact lv_if_ne hx hb hd hk (fun hc3 => by simpa only [jm_cmp, if_neg hc3] using k) (fun hc3 => by simpa only [jm_cmp, if_pos hc3] using k)
    case lt => exact lv_if_lt hx hb hd hk (fun hc3 => by simpa only [jm_cmp, if_pos hc3] using k) (fun hc3 => by simpa only [jm_cmp, if_neg hc3] using k)
    case ge => exact lv_if_ge hx hb hd hk (fun hc3 => by simpa only [jm_cmp, if_pos hc3] using k) (fun hc3 => by simpa only [jm_cmp, if_neg hc3] using k)
    case gt => exact lv_if_gt hx hb hd hk (fun hc3 => by simpa only [jm_cmp, if_pos hc3] using k) (fun hc3 => by simpa only [jm_cmp, if_neg hc3] using k)
    case le => exact lv_if_le hx hb hd hk (fun hc3 => by simpa only [jm_cmp, if_pos hc3] using k) (fun hc3 => by simpa only [jm_cmp, if_neg hc3] using k)
  next => cases hs
theorem jm_x_if_icmp {q : Nat × Nat × Int32} {cd : Jvm.ClassFile.Cond} {n : Int} : jm_Nx p l e R s m args below meth c y G Q n0 w0 (.if_icmp cd n, q) pc ls st h := by
  intro hA c2 hs0 hc _ k H locs arr hH hl hS
  obtain ⟨hx, hb, hml, hown, hts, hK, hB, hnm⟩ := hA
  have hd := jm_chk_op hc rfl
  have hk := of_decide_eq_true (jm_chk_dec hc).2
  have hs : jm_br2 cd q.1 pc ls st h = some (.inl c2) := hs0
  unfold jm_br2 at hs
  split at hs
  next =>
    cases hs
    have k := k H locs arr hH hl hS
    cases cd
    case eq => exact lv_icmp_eq hx hb hd hk (fun hc3 => by simpa only [jm_cmp, if_pos hc3] using k) (fun hc3 => by simpa only [jm_cmp, if_neg hc3] using k)
    case ne => exact lv_icmp_ne hx hb hd hk (fun hc3 => by simpa only [jm_cmp, if_neg hc3] using k) (fun hc3 => by simpa only [jm_cmp, if_pos hc3] using k)
    case lt => exact lv_icmp_lt hx hb hd hk (fun hc3 => by simpa only [jm_cmp, if_pos hc3] using k) (fun hc3 => by simpa only [jm_cmp, if_neg hc3] using k)
    case ge => exact lv_icmp_ge hx hb hd hk (fun hc3 => by simpa only [jm_cmp, if_pos hc3] using k) (fun hc3 => by simpa only [jm_cmp, if_neg hc3] using k)
    case gt => exact lv_icmp_gt hx hb hd hk (fun hc3 => by simpa only [jm_cmp, if_pos hc3] using k) (fun hc3 => by simpa only [jm_cmp, if_neg hc3] using k)
    case le => exact lv_icmp_le hx hb hd hk (fun hc3 => by simpa only [jm_cmp, if_pos hc3] using k) (fun hc3 => by simpa only [jm_cmp, if_neg hc3] using k)
  next => cases hs
theorem jm_x_ifnull {q : Nat × Nat × Int32} {n : Int} : jm_Nx p l e R s m args below meth c y G Q n0 w0 (.ifnull n, q) pc ls st h := by
  intro hA c2 hs0 hc _ k H locs arr hH hl hS
  obtain ⟨hx, hb, hml, hown, hts, hK, hB, hnm⟩ := hA
  have hd := jm_chk_op hc rfl
  have hk := of_decide_eq_true (jm_chk_dec hc).2
  have hs : jm_brn q.1 (pc + 3) ls st h = some (.inl c2) := hs0
  unfold jm_brn at hs
  split at hs
  next => cases hs; exact lv_ifnullN hx hb hd hk (k H locs arr hH hl hS)
  next => cases hs; exact lv_ifnull hx hb hd (k H locs arr hH hl hS)
  next => cases hs
theorem jm_x_ifnonnull {q : Nat × Nat × Int32} {n : Int} : jm_Nx p l e R s m args below meth c y G Q n0 w0 (.ifnonnull n, q) pc ls st h := by
  intro hA c2 hs0 hc _ k H locs arr hH hl hS
  obtain ⟨hx, hb, hml, hown, hts, hK, hB, hnm⟩ := hA
  have hd := jm_chk_op hc rfl
  have hk := of_decide_eq_true (jm_chk_dec hc).2
  have hs : jm_brn (pc + 3) q.1 ls st h = some (.inl c2) := hs0
  unfold jm_brn at hs
  split at hs
  next => cases hs; exact lv_ifnonnullN hx hb hd (k H locs arr hH hl hS)
  next => cases hs; exact lv_ifnonnull hx hb hd hk (k H locs arr hH hl hS)
  next => cases hs
theorem jm_x_tableswitch {q : Nat × Nat × Int32} {d lo hi : Int} {offs : Array Int} : jm_Nx p l e R s m args below meth c y G Q n0 w0 (.tableswitch d lo hi offs, q) pc ls st h := by
  intro hA c2 hs0 hc _ k H locs arr hH hl hS
  obtain ⟨hx, hb, hml, hown, hts, hK, hB, hnm⟩ := hA
  obtain ⟨⟨len, hd, -⟩, hk⟩ := jm_chk_dec hc
  have hk : (match (generalizing := false) jm_sws[q.1]? with | some w => jm_chkS pc d lo hi offs.toList w | none => false) = true := hk
  have hs1 : (match (generalizing := false) jm_sws[q.1]? with | some w => jm_swc w.1 w.2.1 w.2.2 ls st h | none => none) = some (.inl c2) := hs0
  cases hw : jm_sws[q.1]? with
  | none => rw [hw] at hs1; cases hs1
  | some w =>
    rw [hw] at hs1 hk
    have hs : jm_swc w.1 w.2.1 w.2.2 ls st h = some (.inl c2) := hs1
    simp only [jm_chkS, Bool.and_eq_true, decide_eq_true_eq] at hk
    obtain ⟨⟨⟨⟨h1, h2⟩, h3⟩, h4⟩, h5⟩ := hk
    unfold jm_swc at hs
    split at hs
    next _ x r =>
      cases hs
      have k := k H locs arr hH hl hS
      have hlen : offs.toList.length = w.2.1.length := by have := congrArg List.length h5; simpa using this
      by_cases ho : x.toInt < lo ∨ hi < x.toInt
      · refine lv_tableOut hx hb hd ho h4 ?_
        have e := jm_swt_out (x := x) (d := w.2.2) w.2.1 w.1 h2 (by rw [h1]; rcases ho with ho | ho; exact Or.inl ho; exact Or.inr (by omega))
        rw [← e]
        exact k
      · have g1 : ¬ x.toInt < lo := fun z => ho (Or.inl z)
        have g2 : ¬ hi < x.toInt := fun z => ho (Or.inr z)
        have e := jm_swt_in (x := x) (d := w.2.2) w.2.1 w.1 h2 (by omega) (by omega)
        rw [h1] at e
        have e2 : (offs.toList.map (fun z => (pc : Int) + z))[(x.toInt - lo).toNat]? = some ((jm_swt x w.1 w.2.1 w.2.2 : Nat) : Int) := by rw [h5, List.getElem?_map, e]; rfl
        rw [List.getElem?_map] at e2
        cases h6 : offs.toList[(x.toInt - lo).toNat]? with
        | none => rw [h6] at e2; cases e2
        | some off =>
          rw [h6] at e2
          exact lv_tableIn hx hb hd g1 g2 (off := off) (by rw [← h6, Array.getElem?_toList]) (Option.some.inj e2) k
    next => cases hs
end JM1
