/-! SOUNDNESS: what a call of the small machine comes to is a contract of the real one -/
theorem jm_char_ok {v : Int32} (h : 0 ≤ v ∧ v ≤ 255) : narrow .char (.int v) = .int v := by
  have h1 := Int32.le_iff_toInt_le.mp h.1
  have h2 := Int32.le_iff_toInt_le.mp h.2
  have e0 : (0 : Int32).toInt = 0 := rfl
  have e1 : (255 : Int32).toInt = 255 := rfl
  rw [e0] at h1
  rw [e1] at h2
  have key : ∀ k : Nat, k < 256 → narrow .char (.int (Int32.ofInt (k : Int))) = .int (Int32.ofInt (k : Int)) := by decide +kernel
  have hv : v = Int32.ofInt ((v.toInt.toNat : Nat) : Int) := by
    rw [Int.toNat_of_nonneg h1]
    exact (Int32.ofInt_toInt v).symm
  rw [hv]
  exact key _ (by omega)
section JM9
variable {p : Program} {l : Launch} {e : Env} {R : Room} {s : State} {m : MethodId} {args : Array Value} {below : List Frame} {meth : Method} {c : Code} {y : Nat} {G : jm_G} {Q : State → Prop} {n0 w0 : Nat} {pc : Nat} {ls : jm_L} {st : List Value} {h : jm_H}
theorem jm_ret_no {ret : Option FieldType} {o : jm_op} {v : Option Value} (h1 : o.1 ≠ .ireturn) (h2 : o.1 ≠ .lreturn) (h3 : o.1 ≠ .areturn) (h4 : o.1 ≠ .return_) : jm_stepI ret o pc ls st h ≠ some (.inr (.inr v)) := by
  intro hs
  obtain ⟨i, w⟩ := o
  cases i
  case ireturn => exact h1 rfl
  case lreturn => exact h2 rfl
  case areturn => exact h3 rfl
  case return_ => exact h4 rfl
  all_goals
    (simp only [jm_stepI, jm_nx, jm_bin, jm_lin, jm_un, jm_lodi, jm_lodl, jm_loda, jm_stoi, jm_stol, jm_stoa, jm_br0, jm_br2, jm_brn, jm_swc, jm_ald, jm_ast, jm_aal, jm_aas, jm_len, jm_bal, jm_gf, jm_pf, jm_ins, jm_nar, jm_cal] at hs
     repeat' split at hs
     all_goals cases hs)
theorem jm_ret_row {C : jm_C} {v : Option Value} {h2 : jm_H} (hA : jm_At p s m args meth c y G) (hrt : meth.sig.returnType = jm_ret y) (hlk : meth.locks = false) (hs : jm_step y C = some (.inr (.inr v))) (hh : C.2.2.2 = h2) :
    jm_W p l e R s m args below meth c y G (MQ below (jm_Qc G v h2) args s (h2.2.2.length - n0) (jm_wt h2 - w0) (jm_A G)) n0 w0 C := by
  obtain ⟨pc, ls, st, h⟩ := C
  dsimp only at hh
  subst hh
  obtain ⟨o, -, hs2, hc⟩ := jm_step_op hs
  dsimp only at hs2 hc
  obtain ⟨i, w⟩ := o
  obtain ⟨hx, hb, hml, hown, hts, hK, hB, hnm⟩ := hA
  have fin : ∀ {H : Heap} {locs : List Loc} (v : Option Value), jm_HP G h H → va_S (jm_A G) s.heap H locs → ∀ t : State, t.heap = H → s.WarmedH t.vm → jm_Qc G v h args s (.returned (v.map (jm_cv G))) t := fun v hH hS t ht _ => ⟨⟨rfl, by rw [ht]; exact hH⟩, hS.F ht⟩
  by_cases i1 : i = .ireturn
  · subst i1
    have hd := jm_chk_op hc rfl
    have hs3 : jm_ire (jm_ret y) st = some (.inr (.inr v)) := hs2
    unfold jm_ire at hs3
    split at hs3
    next _ vv =>
      split at hs3
      next hr =>
        cases hs3
        intro H locs arr hH hl hS
        exact W.iret hx hb (hrt.trans hr) (fin (some (.int vv)) hH hS) hS.2.2 hd hlk
      next hr =>
        split at hs3
        next hz =>
          cases hs3
          intro H locs arr hH hl hS
          exact W.zret hx hb (hrt.trans hr) (by rcases jm_z01_of hz with rfl | rfl <;> rfl) (fin (some (.int vv)) hH hS) hS.2.2 hd hlk
        next => cases hs3
      next hr =>
        split at hs3
        next hz =>
          cases hs3
          intro H locs arr hH hl hS
          exact W.zret hx hb (hrt.trans hr) (jm_char_ok hz) (fin (some (.int vv)) hH hS) hS.2.2 hd hlk
        next => cases hs3
      next hr =>
        split at hs3
        next hz =>
          cases hs3
          intro H locs arr hH hl hS
          exact W.zret hx hb (hrt.trans hr) (by rw [hz]; rfl) (fin (some (.int vv)) hH hS) hS.2.2 hd hlk
        next => cases hs3
      next => cases hs3
    next => cases hs3
  · by_cases i2 : i = .lreturn
    · subst i2
      have hd := jm_chk_op hc rfl
      have hs3 : (match (generalizing := false) st with | [.long v] => if jm_ret y = some .long then some (.inr (.inr (some (.long v)))) else none | _ => none) = some (Sum.inr (.inr v) : jm_R) := hs2
      split at hs3
      next _ vv =>
        split at hs3
        next hr =>
          cases hs3
          intro H locs arr hH hl hS
          exact W.lret hx hb (hrt.trans hr) (fin (some (.long vv)) hH hS) hS.2.2 hd hlk
        next => cases hs3
      next => cases hs3
    · by_cases i3 : i = .areturn
      · subst i3
        have hd := jm_chk_op hc rfl
        have hs3 : jm_are (jm_ret y) st = some (.inr (.inr v)) := hs2
        unfold jm_are at hs3
        split at hs3
        next _ nm hr =>
          split at hs3
          next _ a =>
            cases hs3
            intro H locs arr hH hl hS
            exact W.aret hx hb (hrt.trans hr) (Or.inl ⟨_, rfl⟩) (Or.inr ⟨_, rfl⟩) (fin (some (.ref a)) hH hS) hS.2.2 hd hlk
          next =>
            cases hs3
            intro H locs arr hH hl hS
            exact W.aret hx hb (hrt.trans hr) (Or.inl ⟨_, rfl⟩) (Or.inl rfl) (fin (some .null) hH hS) hS.2.2 hd hlk
          next => cases hs3
        next => cases hs3
      · by_cases i4 : i = .return_
        · subst i4
          have hd := jm_chk_op hc rfl
          have hs3 : (match (generalizing := false) st with | [] => if jm_ret y = none then some (.inr (.inr none)) else none | _ => none) = some (Sum.inr (.inr v) : jm_R) := hs2
          split at hs3
          next =>
            split at hs3
            next hr =>
              cases hs3
              intro H locs arr hH hl hS
              exact W.vret hx hb (hrt.trans hr) (fin none hH hS) hS.2.2 hd hlk
            next => cases hs3
          next => cases hs3
        · exact absurd hs2 (jm_ret_no i1 i2 i3 i4)
end JM9
theorem jm_argl_len {G : jm_G} (hF : (jm_gF G).category = 1) (a : List Value) : (jm_argl a).length = (lg_sl (a.map (jm_cv G))).length := by
  induction a with
  | nil => rfl
  | cons v a ih =>
    rw [jm_argl]
    simp only [lg_sl, List.map_cons, List.flatMap_cons, jm_cv_cat hF, List.length_append] at ih ⊢
    split <;> (simp only [List.length_cons, List.length_nil]; omega)
theorem jm_argl_at {G : jm_G} (hF : (jm_gF G).category = 1) : ∀ (a : List Value) (i : Nat) (v : Value), (jm_argl a)[i]? = some (some v) → (lg_sl (a.map (jm_cv G)))[i]? = some (.val (jm_cv G v)) := by
  intro a
  induction a with
  | nil => intro i v h; simp [jm_argl] at h
  | cons w a ih =>
    intro i v h
    rw [jm_argl] at h
    simp only [lg_sl, List.map_cons, List.flatMap_cons, jm_cv_cat hF] at ih ⊢
    split at h
    next hc =>
      rw [if_pos hc]
      match i with
      | 0 => simp at h; subst h; rfl
      | 1 => simp at h
      | i + 2 => simp at h; simpa using ih i v h
    next hc =>
      rw [if_neg hc]
      match i with
      | 0 => simp at h; subst h; rfl
      | i + 1 => simp at h; simpa using ih i v h
theorem jm_entry_has {G : jm_G} {y : Nat} (hF : (jm_gF G).category = 1) (a : List Value) (hlen : (jm_argl a).length ≤ jm_max y) : jm_hasL G (jm_max y) (jm_argl a ++ List.replicate (jm_max y - (jm_argl a).length) none) ((lg_sl (a.map (jm_cv G)) ++ List.replicate (jm_max y - (lg_sl (a.map (jm_cv G))).length) Slot.unset).toArray) := by
  have hn := jm_argl_len hF a
  have h0 := lv_entry (a.map (jm_cv G)) (n := jm_max y) (by rw [← hn]; exact hlen)
  refine ⟨h0.1, h0.2.1, by simp; omega, fun i v hi => ?_⟩
  by_cases hil : i < (jm_argl a).length
  · rw [List.getElem?_append_left hil] at hi
    have := jm_argl_at hF a i v hi
    rw [List.getElem?_toArray, List.getElem?_append_left (by rw [← hn]; exact hil)]
    exact this
  · rw [List.getElem?_append_right (by omega)] at hi
    rw [List.getElem?_replicate] at hi
    split at hi <;> cases hi
set_option maxHeartbeats 1000000 in
theorem jm_sound : ∀ d : Nat, jm_Sound d := by
  intro d
  induction d with
  | zero => intro y a h v h2 hE; cases hE
  | succ d ih =>
    intro y a h v h2 hE
    rw [jm_ev] at hE
    split at hE
    next hlen =>
      obtain ⟨n, hn⟩ := jm_go_iff.mp hE
      have hm := jm_run_mono ih n _ v h2 hn
      have hm : h.2.2.length ≤ h2.2.2.length ∧ jm_wt h ≤ jm_wt h2 := hm
      refine ⟨hm.1, hm.2, fun hpl hcap l G => ?_⟩
      refine Met.ofW (cc := jm_bc y) (maxL := jm_max y) (ret := jm_ret y) hpl rfl ?_
      intro p e s m args below meth c s₁ B hml hv
      obtain ⟨hargs, hH, hK⟩ := hv
      have hts0 := atoms_spec (ws := jm_code y :: jm_Ts) B.pre
      have hA : jm_At p s m args meth c y G := ⟨B.exec, B.bytes, hml, findClass_of_methodNamed B.named, fun w hw => hts0 w (List.mem_cons_of_mem _ hw), hK, by have := hH.1; omega, fun h => ((name_of_methodNamed B.named B.method).1).trans h⟩
      have hF : (jm_gF G).category = 1 := hK.2.2.2.2.2.2.2.2.2.2.2.2.2.1
      have hmax : jm_Rm (headSpec (jm_code y :: jm_Ts) (jm_rm (d + 1) (h2.2.2.length - h.2.2.length) (jm_wt h2 - jm_wt h))).room h.2.2.length (jm_wt h) h h2 := ⟨Nat.le_refl _, Nat.le_refl _, Nat.le_refl _, Nat.le_refl _, hcap, by show 1 ≤ d + 1; omega, by show 40 ≤ 42 * (d + 1); omega⟩
      have hW := jm_run_sound (l := l) (e := e) (R := (headSpec (jm_code y :: jm_Ts) (jm_rm (d + 1) (h2.2.2.length - h.2.2.length) (jm_wt h2 - jm_wt h))).room) (below := below) (Q := MQ below (jm_Qc G v h2) args s (h2.2.2.length - h.2.2.length) (jm_wt h2 - jm_wt h) (jm_A G)) (n0 := h.2.2.length) (w0 := jm_wt h) ih hA ⟨by show d + 1 ≤ d + 1; omega, by show 42 * d + 41 ≤ 42 * (d + 1); omega⟩ ⟨hmax.2.2.1, hmax.2.2.2.1, hcap⟩ (fun C hs hh => jm_ret_row hA B.returns B.notSynchronized hs hh) n _ hn (Nat.le_refl _) (Nat.le_refl _)
      have w1 := hW s.heap [] _ hH (jm_entry_has hF a hlen) va_S.rf
      subst hargs
      rw [lg_entry_eq]
      refine W.cs ?_ ?_ w1
      · show 0 = h.2.2.length - h.2.2.length; omega
      · show 0 = jm_wt h - jm_wt h; omega
    next => cases hE
