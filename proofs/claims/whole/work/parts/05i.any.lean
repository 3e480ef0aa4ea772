/-! ANY STEP, ANY RUN, ANY METHOD of the small machine is one of the real machine -/
theorem jm_lsw {x : Int32} {pc dd : Nat} {d : Int} (hd : (pc : Int) + d = (dd : Int)) : ∀ (ts : List Nat) (lo : Int32) (k : Nat), lo.toInt + (ts.length : Int) < 2147483647 → ∀ base : Int, lo.toInt = base + (k : Int) → ∃ off : Int, Op.lookupswitch.offset ((ts.zipIdx k).map fun q => (base + (q.2 : Int), (q.1 : Int) - (pc : Int))) d x.toInt = off ∧ (pc : Int) + off = ((jm_swt x lo ts dd : Nat) : Int) := by
  intro ts
  induction ts with
  | nil => intro lo k _ base _; exact ⟨d, rfl, hd⟩
  | cons t ts ih =>
    intro lo k hl base hb
    simp only [List.length_cons, Int.natCast_add, Int.natCast_one] at hl
    rw [List.zipIdx_cons, List.map_cons, Op.lookupswitch.offset_cons]
    by_cases hx : x = lo
    · subst hx
      rw [if_pos hb.symm, jm_swt, if_pos rfl]
      exact ⟨_, rfl, by omega⟩
    · have hne : ¬ base + (k : Int) = x.toInt := fun q => hx (Int32.toInt_inj.mp (by rw [hb]; exact q.symm))
      have h3 : (lo + 1).toInt = lo.toInt + 1 := by
        have := Int32.minValue_le_toInt lo
        rw [Int32.toInt_add]
        have e1 : (1 : Int32).toInt = 1 := rfl
        rw [e1]
        have e2 : Int32.minValue.toInt = -2147483648 := rfl
        rw [Int.bmod_eq_of_le] <;> omega
      rw [if_neg hne, jm_swt, if_neg hx]
      exact ih (lo + 1) (k + 1) (by rw [h3]; omega) base (by rw [h3, hb]; omega)
theorem jm_lsorted (pc : Nat) (base : Int) : ∀ (ts : List Nat) (k : Nat), ((((ts.zipIdx k).map fun q => (base + (q.2 : Int), (q.1 : Int) - (pc : Int))).zip (((ts.zipIdx k).map fun q => (base + (q.2 : Int), (q.1 : Int) - (pc : Int))).drop 1)).all fun (a, next) => a.1 < next.1) = true := by
  intro ts
  induction ts with
  | nil => intro k; rfl
  | cons t ts ih =>
    intro k
    cases ts with
    | nil => rfl
    | cons u ts =>
      have h := ih (k + 1)
      simp only [List.zipIdx_cons, List.map_cons, List.drop_succ_cons, List.drop_zero, List.zip_cons_cons, List.all_cons, Bool.and_eq_true, decide_eq_true_eq] at h ⊢
      exact ⟨by omega, h⟩
section JM8
variable {p : Program} {l : Launch} {e : Env} {R : Room} {s : State} {m : MethodId} {args : Array Value} {below : List Frame} {meth : Method} {c : Code} {y : Nat} {G : jm_G} {Q : State → Prop} {n0 w0 : Nat} {pc : Nat} {ls : jm_L} {st : List Value} {h : jm_H}
theorem jm_x_lookupswitch {q : Nat × Nat × Int32} {d : Int} {ps : Array (Int × Int)} : jm_Nx p l e R s m args below meth c y G Q n0 w0 (.lookupswitch d ps, q) pc ls st h := by
  intro hA c2 hs0 hc _ k H locs arr hH hl hS
  obtain ⟨hx, hb, hml, hown, hts, hK, hB, hnm⟩ := hA
  obtain ⟨⟨len, hd, -⟩, hk⟩ := jm_chk_dec hc
  have hk : (match (generalizing := false) jm_sws[q.1]? with | some w => jm_chkL2 pc d ps.toList w | none => false) = true := hk
  have hs1 : (match (generalizing := false) jm_sws[q.1]? with | some w => jm_swc w.1 w.2.1 w.2.2 ls st h | none => none) = some (.inl c2) := hs0
  cases hw : jm_sws[q.1]? with
  | none => rw [hw] at hs1; cases hs1
  | some w =>
    rw [hw] at hs1 hk
    have hs : jm_swc w.1 w.2.1 w.2.2 ls st h = some (.inl c2) := hs1
    simp only [jm_chkL2, Bool.and_eq_true, decide_eq_true_eq] at hk
    obtain ⟨⟨h2, h4⟩, h5⟩ := hk
    unfold jm_swc at hs
    split at hs
    next _ x r =>
      cases hs
      have k := k H locs arr hH hl hS
      obtain ⟨off, ho, ht⟩ := jm_lsw (x := x) (pc := pc) (d := d) (dd := w.2.2) h4 w.2.1 w.1 0 h2 w.1.toInt (by simp)
      refine lv_lookup hx hb hd ?_ (off := off) ?_ ht k
      · rw [h5]; exact jm_lsorted pc w.1.toInt w.2.1 0
      · rw [h5]; exact ho
    next => cases hs
theorem jm_ire_no {rt : Option FieldType} {st : List Value} {c2 : jm_C} : jm_ire rt st ≠ some (.inl c2) := by
  intro hs
  unfold jm_ire at hs
  repeat' split at hs
  all_goals cases hs
theorem jm_are_no {rt : Option FieldType} {st : List Value} {c2 : jm_C} : jm_are rt st ≠ some (.inl c2) := by
  intro hs
  unfold jm_are at hs
  repeat' split at hs
  all_goals cases hs
theorem jm_nx_any {o : jm_op} : jm_Nx p l e R s m args below meth c y G Q n0 w0 o pc ls st h := by
  obtain ⟨i, q⟩ := o
  cases i with
  | iconst n => exact jm_x_iconst
  | bipush n => exact jm_x_bipush
  | sipush n => exact jm_x_sipush
  | lconst n => exact jm_x_lconst
  | ldc2_w n => exact jm_x_ldc2_w
  | ldc_w n => exact jm_x_ldc_w
  | ldc n => exact jm_x_ldc
  | aconst_null  => exact jm_x_aconst_null
  | iload_n j => exact jm_x_iload_n
  | iload j => exact jm_x_iload
  | lload_n j => exact jm_x_lload_n
  | lload j => exact jm_x_lload
  | aload_n j => exact jm_x_aload_n
  | aload j => exact jm_x_aload
  | istore_n j => exact jm_x_istore_n
  | istore j => exact jm_x_istore
  | astore_n j => exact jm_x_astore_n
  | astore j => exact jm_x_astore
  | lstore_n j => exact jm_x_lstore_n
  | lstore j => exact jm_x_lstore
  | iinc j n => exact jm_x_iinc
  | iadd  => exact jm_x_iadd
  | isub  => exact jm_x_isub
  | imul  => exact jm_x_imul
  | iand  => exact jm_x_iand
  | ior  => exact jm_x_ior
  | ixor  => exact jm_x_ixor
  | ishl  => exact jm_x_ishl
  | ishr  => exact jm_x_ishr
  | iushr  => exact jm_x_iushr
  | ladd  => exact jm_x_ladd
  | lmul  => exact jm_x_lmul
  | ineg  => exact jm_x_ineg
  | i2b  => exact jm_x_i2b
  | i2s  => exact jm_x_i2s
  | i2c  => exact jm_x_i2c
  | idiv  => exact jm_x_idiv
  | irem  => exact jm_x_irem
  | ldiv  => exact jm_x_ldiv
  | lrem  => exact jm_x_lrem
  | i2l  => exact jm_x_i2l
  | l2i  => exact jm_x_l2i
  | lcmp  => exact jm_x_lcmp
  | dup  => exact jm_x_dup
  | dup2  => exact jm_x_dup2
  | pop  => exact jm_x_pop
  | goto n => exact jm_x_goto
  | ifCond cd n => exact jm_x_ifCond
  | if_icmp cd n => exact jm_x_if_icmp
  | ifnull n => exact jm_x_ifnull
  | ifnonnull n => exact jm_x_ifnonnull
  | tableswitch d lo hi offs => exact jm_x_tableswitch
  | lookupswitch d ps => exact jm_x_lookupswitch
  | getfield n => exact jm_x_getfield
  | getstatic n => exact jm_x_getstatic
  | putfield n => exact jm_x_putfield
  | iaload  => exact jm_x_iaload
  | iastore  => exact jm_x_iastore
  | aaload  => exact jm_x_aaload
  | aastore  => exact jm_x_aastore
  | arraylength  => exact jm_x_arraylength
  | baload  => exact jm_x_baload
  | instanceof n => exact jm_x_instanceof
  | new n => exact jm_x_new
  | newarray t => exact jm_x_newarray
  | anewarray n => exact jm_x_anewarray
  | invokespecial i => exact jm_x_invokespecial
  | invokevirtual i => exact jm_x_invokevirtual
  | invokestatic i => exact jm_x_invokestatic
  | ireturn => intro _ c2 hs0; exact absurd hs0 jm_ire_no
  | areturn => intro _ c2 hs0; exact absurd hs0 jm_are_no
  | lreturn =>
    intro _ c2 hs0
    have hs : (match (generalizing := false) st with | [.long v] => if jm_ret y = some .long then some (.inr (.inr (some (.long v)))) else none | _ => none) = some (Sum.inl c2 : jm_R) := hs0
    split at hs
    · split at hs <;> cases hs
    · cases hs
  | return_ =>
    intro _ c2 hs0
    have hs : (match (generalizing := false) st with | [] => if jm_ret y = none then some (.inr (.inr none)) else none | _ => none) = some (Sum.inl c2 : jm_R) := hs0
    split at hs
    · split at hs <;> cases hs
    · cases hs
  | _ => intro _ c2 hs0; cases hs0
theorem jm_step_op {C : jm_C} {r : jm_R} (hs : jm_step y C = some r) : ∃ o, (jm_tab y)[C.1]? = some (some o) ∧ jm_stepI (jm_ret y) o C.1 C.2.1 C.2.2.1 C.2.2.2 = some r ∧ jm_chk y C.1 o = true := by
  unfold jm_step at hs
  split at hs
  next o ho =>
    refine ⟨o, ho, hs, ?_⟩
    have := jm_chkL_at (y := y) (jm_tab y) 0 C.1 o (jm_kall y) ho
    rwa [Nat.zero_add] at this
  next => cases hs
theorem jm_W_next {C c2 : jm_C} (hA : jm_At p s m args meth c y G) (hs : jm_step y C = some (.inl c2)) (hR : jm_Rm R n0 w0 C.2.2.2 c2.2.2.2) (k : jm_W p l e R s m args below meth c y G Q n0 w0 c2) : jm_W p l e R s m args below meth c y G Q n0 w0 C := by
  obtain ⟨o, h1, h2, h3⟩ := jm_step_op hs
  exact jm_nx_any hA c2 h2 h3 hR k
theorem jm_cal_no {o : jm_op} {q : jm_Q} (h1 : ∀ i, o.1 ≠ .invokestatic i) (h2 : ∀ i, o.1 ≠ .invokespecial i) (h3 : ∀ i, o.1 ≠ .invokevirtual i) : jm_stepI (jm_ret y) o pc ls st h ≠ some (.inr (.inl q)) := by
  intro hs
  obtain ⟨i, w⟩ := o
  cases i
  case invokestatic => exact h1 _ rfl
  case invokespecial => exact h2 _ rfl
  case invokevirtual => exact h3 _ rfl
  all_goals
    (simp only [jm_stepI, jm_nx, jm_bin, jm_lin, jm_un, jm_lodi, jm_lodl, jm_loda, jm_stoi, jm_stol, jm_stoa, jm_br0, jm_br2, jm_brn, jm_swc, jm_ald, jm_ast, jm_aal, jm_aas, jm_len, jm_bal, jm_gf, jm_pf, jm_ins, jm_nar, jm_ire, jm_are] at hs
     repeat' split at hs
     all_goals cases hs)
theorem jm_W_call {C : jm_C} {q : jm_Q} {d : Nat} {v : Option Value} {h2 : jm_H} (hA : jm_At p s m args meth c y G) (hs : jm_step y C = some (.inr (.inl q))) (hE : jm_ev d q.1 q.2.1 C.2.2.2 = some (v, h2)) (hSd : jm_Sound d) (hR : jm_Rm R n0 w0 C.2.2.2 h2) (hRd : d + 1 ≤ R.frames ∧ 42 * d + 41 ≤ R.locals)
    (k : jm_W p l e R s m args below meth c y G Q n0 w0 (C.1 + 3, C.2.1, v.toList ++ q.2.2, h2)) : jm_W p l e R s m args below meth c y G Q n0 w0 C := by
  obtain ⟨pc, ls, st, h⟩ := C
  obtain ⟨o, h1, hs2, hc⟩ := jm_step_op hs
  obtain ⟨hm1, hm2, -⟩ := hSd _ _ _ _ _ hE
  dsimp only at h1 hs2 hc hE hR hm1 hm2 k
  have site : ∀ {i : Nat} {w : Nat × Nat × Int32} {g : jm_ce → Bool}, (match jm_cs[w.1]? with | some ee => decide (ee.2.1 = (jm_mcl y, i)) && g ee | none => false) = true → ∃ ee, jm_cs[w.1]? = some ee ∧ ee.2.1 = (jm_mcl y, i) := by
    intro i w g hh
    cases hee : jm_cs[w.1]? with
    | none => rw [hee] at hh; cases hh
    | some ee =>
      rw [hee] at hh
      simp only [Bool.and_eq_true, decide_eq_true_eq] at hh
      exact ⟨ee, rfl, hh.1⟩
  by_cases hi1 : ∃ i, o.1 = .invokestatic i
  · obtain ⟨i, hi⟩ := hi1
    obtain ⟨oi, w⟩ := o
    cases hi
    obtain ⟨ee, he1, he2⟩ := site (jm_chk_dec hc).2
    exact jm_c_static (jm_cs_ok he1 he2) d q v h2 hA hs2 hc hE hSd hR ⟨hm1, hm2⟩ hRd k
  · by_cases hi2 : ∃ i, o.1 = .invokespecial i
    · obtain ⟨i, hi⟩ := hi2
      obtain ⟨oi, w⟩ := o
      cases hi
      obtain ⟨ee, he1, he2⟩ := site (jm_chk_dec hc).2
      exact jm_c_special (jm_cs_ok he1 he2) d q v h2 hA hs2 hc hE hSd hR ⟨hm1, hm2⟩ hRd k
    · by_cases hi3 : ∃ i, o.1 = .invokevirtual i
      · obtain ⟨i, hi⟩ := hi3
        obtain ⟨oi, w⟩ := o
        cases hi
        obtain ⟨ee, he1, he2⟩ := site (jm_chk_dec hc).2
        exact jm_c_virtual (jm_cs_ok he1 he2) d q v h2 hA hs2 hc hE hSd hR ⟨hm1, hm2⟩ hRd k
      · exact absurd hs2 (jm_cal_no (fun i hi => hi1 ⟨i, hi⟩) (fun i hi => hi2 ⟨i, hi⟩) (fun i hi => hi3 ⟨i, hi⟩))
/-- a step keeps the cells, or makes one -/
theorem jm_step_M {ret : Option FieldType} {o : jm_op} {c2 : jm_C} (hs : jm_stepI ret o pc ls st h = some (.inl c2)) : c2.2.2.2.2.2 = h.2.2 ∨ ∃ q, c2.2.2.2.2.2 = h.2.2 ++ [q] := by
  obtain ⟨i, w⟩ := o
  cases i <;>
    (simp only [jm_stepI, jm_nx, jm_bin, jm_lin, jm_un, jm_lodi, jm_lodl, jm_loda, jm_stoi, jm_stol, jm_stoa, jm_br0, jm_br2, jm_brn, jm_swc, jm_ald, jm_ast, jm_aal, jm_aas, jm_len, jm_bal, jm_gf, jm_pf, jm_ins, jm_nar, jm_ire, jm_are, jm_cal] at hs
     repeat' split at hs
     all_goals first | (cases hs; done) | (cases hs; exact Or.inl rfl) | (cases hs; exact Or.inr ⟨_, rfl⟩))
theorem jm_step_mono {C c2 : jm_C} (hs : jm_step y C = some (.inl c2)) : C.2.2.2.2.2.length ≤ c2.2.2.2.2.2.length ∧ jm_wt C.2.2.2 ≤ jm_wt c2.2.2.2 := by
  obtain ⟨o, -, h2, -⟩ := jm_step_op hs
  rcases jm_step_M h2 with h | ⟨q, h⟩
  · simp only [jm_wt, h]
    exact ⟨Nat.le_refl _, Nat.le_refl _⟩
  · simp only [jm_wt, h]
    constructor
    · simp
    · simp
theorem jm_run_mono {d : Nat} (hSd : jm_Sound d) : ∀ (n : Nat) (C : jm_C) (v : Option Value) (h2 : jm_H), jm_runN (jm_ev d) y n C = some (v, h2) → C.2.2.2.2.2.length ≤ h2.2.2.length ∧ jm_wt C.2.2.2 ≤ jm_wt h2 := by
  intro n
  induction n with
  | zero => intro C v h2 h; cases h
  | succ n ih =>
    intro C v h2 hr
    rw [jm_runN] at hr
    cases hs : jm_step y C with
    | none => rw [hs] at hr; cases hr
    | some r =>
      rw [hs] at hr
      rcases r with c2 | q | v'
      · have h1 := jm_step_mono hs
        have h3 := ih _ _ _ hr
        omega
      · dsimp only at hr
        cases hE : jm_ev d q.1 q.2.1 C.2.2.2 with
        | none => rw [hE] at hr; cases hr
        | some r2 =>
          rw [hE] at hr
          obtain ⟨v2, h3⟩ := r2
          obtain ⟨m1, m2, -⟩ := hSd _ _ _ _ _ hE
          have h4 := ih _ _ _ hr
          dsimp only at h4
          omega
      · cases hr
        exact ⟨Nat.le_refl _, Nat.le_refl _⟩
theorem jm_run_sound {d : Nat} (hSd : jm_Sound d) (hA : jm_At p s m args meth c y G) (hRd : d + 1 ≤ R.frames ∧ 42 * d + 41 ≤ R.locals) {v : Option Value} {h2 : jm_H} (hcap : h2.2.2.length - n0 ≤ R.cells ∧ jm_wt h2 - w0 ≤ R.slots ∧ h2.2.2.length < 900000)
    (kr : ∀ C : jm_C, jm_step y C = some (.inr (.inr v)) → C.2.2.2 = h2 → jm_W p l e R s m args below meth c y G Q n0 w0 C) : ∀ (n : Nat) (C : jm_C), jm_runN (jm_ev d) y n C = some (v, h2) → n0 ≤ C.2.2.2.2.2.length → w0 ≤ jm_wt C.2.2.2 → jm_W p l e R s m args below meth c y G Q n0 w0 C := by
  intro n
  induction n with
  | zero => intro C h; cases h
  | succ n ih =>
    intro C hr hn hw
    rw [jm_runN] at hr
    cases hs : jm_step y C with
    | none => rw [hs] at hr; cases hr
    | some r =>
      rw [hs] at hr
      rcases r with c2 | q | v'
      · have h1 := jm_step_mono hs
        have h3 := jm_run_mono hSd n c2 v h2 hr
        refine jm_W_next hA hs ⟨hn, hw, by omega, by omega, by omega, by omega, by omega⟩ (ih c2 hr (by omega) (by omega))
      · dsimp only at hr
        cases hE : jm_ev d q.1 q.2.1 C.2.2.2 with
        | none => rw [hE] at hr; cases hr
        | some r2 =>
          rw [hE] at hr
          obtain ⟨v2, h3⟩ := r2
          obtain ⟨m1, m2, -⟩ := hSd _ _ _ _ _ hE
          have h4 := jm_run_mono hSd n _ v h2 hr
          dsimp only at h4
          exact jm_W_call hA hs hE hSd ⟨hn, hw, by omega, by omega, by omega, by omega, by omega⟩ hRd (ih _ hr (by dsimp only; omega) (by dsimp only; omega))
      · cases hr
        exact kr C hs rfl
end JM8
