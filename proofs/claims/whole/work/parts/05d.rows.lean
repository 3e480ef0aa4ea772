/-! ONE STEP: rows, new cells, instanceof -/
theorem jm_vin {i : Int32} {n : Nat} (h : 0 ≤ i ∧ i.toNatClampNeg < n) : vp_in i n := by
  intro z
  rcases z with z | z
  · exact Int32.not_lt.mpr h.1 z
  · exact Nat.not_le.mpr h.2 z
theorem jm_en13 {G : jm_G} {h : jm_H} {a n : Nat} : jm_en G h a (13, n) = .inl (jm_gA G 13, n, .inl (h.1 a)) := rfl
theorem jm_enR {G : jm_G} {h : jm_H} {a k n : Nat} (hk : k = 14 ∨ k = 15 ∨ k = 16) : jm_en G h a (k, n) = .inl (jm_gA G k, n, .inr (.inr (.inr (.inr (fun i => (h.2.1 a i).map (jm_cr G)))))) := by
  rcases hk with rfl | rfl | rfl <;> rfl
theorem jm_tysR {G : jm_G} {k : Nat} (hk : k = 14 ∨ k = 15 ∨ k = 16) : ∃ t : Nat, (jm_tys G)[t]? = some (jm_gA G k, .object (jm_elc k)) := by
  rcases hk with rfl | rfl | rfl
  · exact ⟨1, rfl⟩
  · exact ⟨2, rfl⟩
  · exact ⟨3, rfl⟩
theorem jm_assign {k ci : Nat} (hk : k = 14 ∨ k = 15 ∨ k = 16) (h : (jm_els k).contains ci = true) : ci < 13 ∧ ∃ r, jm_cl[ci]? = some r ∧ (r.1 = jm_elc k ∨ (r.1, jm_elc k) ∈ jm_cas) := by
  have hm : ci ∈ jm_els k := by simpa using h
  rcases hk with rfl | rfl | rfl
  · simp only [jm_els, List.mem_cons, List.not_mem_nil, or_false] at hm
    subst hm
    exact ⟨by decide, _, rfl, Or.inl rfl⟩
  · simp only [jm_els, List.mem_cons, List.not_mem_nil, or_false] at hm
    rcases hm with rfl | rfl | rfl | rfl | rfl | rfl
    · exact ⟨by decide, _, rfl, Or.inr (by decide +kernel)⟩
    · exact ⟨by decide, _, rfl, Or.inr (by decide +kernel)⟩
    · exact ⟨by decide, _, rfl, Or.inr (by decide +kernel)⟩
    · exact ⟨by decide, _, rfl, Or.inr (by decide +kernel)⟩
    · exact ⟨by decide, _, rfl, Or.inl rfl⟩
    · exact ⟨by decide, _, rfl, Or.inr (by decide +kernel)⟩
  · simp only [jm_els, List.mem_cons, List.not_mem_nil, or_false] at hm
    subst hm
    exact ⟨by decide, _, rfl, Or.inl rfl⟩
theorem jm_len_eq {G : jm_G} {s : State} {h : jm_H} {H : Heap} (hK : jm_KX G s) (hH : jm_HP G h H) : (h.1 jm_SCL 0).toNatClampNeg = jm_gL G := by
  rw [hH.2.2.2.2.2]
  have := hK.2.2.2.2.2.2.2.2.2.2.2.2.2.2
  exact nI_clamp this
section JM3
variable {p : Program} {l : Launch} {e : Env} {R : Room} {s : State} {m : MethodId} {args : Array Value} {below : List Frame} {meth : Method} {c : Code} {y : Nat} {G : jm_G} {Q : State → Prop} {n0 w0 : Nat} {pc : Nat} {ls : jm_L} {st : List Value} {h : jm_H}
theorem jm_x_iaload {q : Nat × Nat × Int32} : jm_Nx p l e R s m args below meth c y G Q n0 w0 (.iaload, q) pc ls st h := by
  intro hA c2 hs0 hc _ k H locs arr hH hl hS
  obtain ⟨hx, hb, hml, hown, hts, hK, hB, hnm⟩ := hA
  have hd := jm_chk_op hc rfl
  have hs : jm_ald pc ls st h = some (.inl c2) := hs0
  unfold jm_ald at hs
  split at hs
  next _ i a r =>
    by_cases ha : a = jm_SCR
    · rw [if_pos ha] at hs
      split at hs
      next hi =>
        cases hs
        subst ha
        rw [jm_len_eq hK hH] at hi
        have w1 := k H locs arr hH hl hS
        have e1 : h.1 jm_SCR i.toNatClampNeg = jm_gX G i.toNatClampNeg := hH.2.2.2.2.1 _ hi.2
        have w2 : W p l e R s m args below meth c H locs (h.2.2.length - n0) (jm_wt h - w0) Q (F0 m (pc + 1) arr (.int (h.1 jm_SCR i.toNatClampNeg) :: r.map (jm_cv G))) := w1
        rw [e1] at w2
        show W p l e R s m args below meth c H locs _ _ Q (F0 m pc arr (.int i :: .ref (jm_cr G jm_SCR) :: r.map (jm_cv G)))
        rw [jm_cr_scr]
        exact va_sld hx hb hK.2.2.2.2.2.2.2.1 (Nat.lt_of_lt_of_le hK.2.2.2.2.2.2.2.2.1 hB) (Nat.not_le.mpr hK.2.2.2.2.2.2.2.2.1) hS (jm_vin hi) hd w2
      next => cases hs
    · rw [if_neg ha] at hs
      cases hR : jm_isR h a 13 with
      | none => rw [hR] at hs; cases hs
      | some n =>
        rw [hR] at hs
        dsimp only at hs
        split at hs
        next hi =>
          cases hs
          have hq := jm_isR_at hR
          have hal : a < h.2.2.length := (List.getElem?_eq_some_iff.mp hq).1
          have hlt : h.2.2.length < 900000 := hH.2.1
          have hg := jm_ws_get (G := G) hq
          rw [jm_en13] at hg
          show W p l e R s m args below meth c H locs _ _ Q (F0 m pc arr (.int i :: .ref (jm_cr G a) :: r.map (jm_cv G)))
          rw [jm_cr_lt (a := a) (Nat.lt_trans hal hlt)]
          exact va_iald hx hb hK.1 hH.2.2.1 a 0 hg rfl (jm_vin hi) hd (k H locs arr hH hl hS)
        next => cases hs
  next => cases hs
theorem jm_x_iastore {q : Nat × Nat × Int32} : jm_Nx p l e R s m args below meth c y G Q n0 w0 (.iastore, q) pc ls st h := by
  intro hA c2 hs0 hc _ k H locs arr hH hl hS
  obtain ⟨hx, hb, hml, hown, hts, hK, hB, hnm⟩ := hA
  have hd := jm_chk_op hc rfl
  have hs : jm_ast pc ls st h = some (.inl c2) := hs0
  unfold jm_ast at hs
  split at hs
  next _ v i a r =>
    cases hR : jm_isR h a 13 with
    | none => rw [hR] at hs; cases hs
    | some n =>
      rw [hR] at hs
      dsimp only at hs
      split at hs
      next hi =>
        cases hs
        have hq := jm_isR_at hR
        have hal : a < h.2.2.length := (List.getElem?_eq_some_iff.mp hq).1
        have hlt : h.2.2.length < 900000 := hH.2.1
        have hg := jm_ws_get (G := G) hq
        rw [jm_en13] at hg
        show W p l e R s m args below meth c H locs _ _ Q (F0 m pc arr (.int v :: .int i :: .ref (jm_cr G a) :: r.map (jm_cv G)))
        rw [jm_cr_lt (a := a) (Nat.lt_trans hal hlt)]
        refine W.iast hx hb (hH.2.2.1 a _ hg) ((hK.1.2 0 _ rfl).1 n (fun j => .int (h.1 a j))) (fun q => by cases q) (by show ¬ (i < 0 ∨ (arrV _ _ _).slots.size ≤ _); rw [arrV_size]; exact jm_vin hi) rfl rfl hd fun H1 e1 z oq => ?_
        refine k H1 _ arr (jm_HP.set (h2 := (jm_up h.1 a i.toNatClampNeg v, h.2.1, h.2.2)) hH hq rfl rfl (fun b hb => jm_up_ne hb) (fun b _ => rfl) z oq ?_) hl (hS.put z oq (Nat.le_add_right _ _))
        show H1[jm_gB G + a]? = some (vp_cell _ _)
        rw [e1]
        rw [vp_cell_i, vp_cell_i, arrV_store]
        congr 2
        funext j
        by_cases hj : j = i.toNatClampNeg
        · subst hj
          simp [updV, jm_up]
        · simp [updV, jm_up, hj]
      next => cases hs
  next => cases hs
theorem jm_x_aaload {q : Nat × Nat × Int32} : jm_Nx p l e R s m args below meth c y G Q n0 w0 (.aaload, q) pc ls st h := by
  intro hA c2 hs0 hc _ k H locs arr hH hl hS
  obtain ⟨hx, hb, hml, hown, hts, hK, hB, hnm⟩ := hA
  have hd := jm_chk_op hc rfl
  have hk : q.1 = 14 ∨ q.1 = 15 ∨ q.1 = 16 := of_decide_eq_true (jm_chk_dec hc).2
  have hs : jm_aal q.1 pc ls st h = some (.inl c2) := hs0
  unfold jm_aal at hs
  split at hs
  next _ i a r =>
    cases hR : jm_isR h a q.1 with
    | none => rw [hR] at hs; cases hs
    | some n =>
      rw [hR] at hs
      dsimp only at hs
      split at hs
      next hi =>
        cases hs
        have hq := jm_isR_at hR
        have hal : a < h.2.2.length := (List.getElem?_eq_some_iff.mp hq).1
        have hlt : h.2.2.length < 900000 := hH.2.1
        have hg := jm_ws_get (G := G) hq
        rw [jm_enR hk] at hg
        obtain ⟨t, ht⟩ := jm_tysR (G := G) hk
        have w1 := k H locs arr hH hl hS
        show W p l e R s m args below meth c H locs _ _ Q (F0 m pc arr (.int i :: .ref (jm_cr G a) :: r.map (jm_cv G)))
        rw [jm_cr_lt (a := a) (Nat.lt_trans hal hlt)]
        have w2 : W p l e R s m args below meth c H locs (h.2.2.length - n0) (jm_wt h - w0) Q (F0 m (pc + 1) arr (jm_cv G (va_rf (h.2.1 a i.toNatClampNeg)) :: r.map (jm_cv G))) := w1
        rw [← jm_cv_rf] at w2
        exact va_aldq hx hb hK.1 hH.2.2.1 a t hg ht (jm_vin hi) hd w2
      next => cases hs
  next => cases hs
theorem jm_x_aastore {q : Nat × Nat × Int32} : jm_Nx p l e R s m args below meth c y G Q n0 w0 (.aastore, q) pc ls st h := by
  intro hA c2 hs0 hc _ k H locs arr hH hl hS
  obtain ⟨hx, hb, hml, hown, hts, hK, hB, hnm⟩ := hA
  have hd := jm_chk_op hc rfl
  have hk : q.1 = 14 ∨ q.1 = 15 ∨ q.1 = 16 := of_decide_eq_true (jm_chk_dec hc).2
  have hs : jm_aas q.1 pc ls st h = some (.inl c2) := hs0
  unfold jm_aas at hs
  split at hs
  next _ v i a r =>
    cases hR : jm_isR h a q.1 with
    | none => rw [hR] at hs; cases hs
    | some n =>
      rw [hR] at hs
      dsimp only at hs
      split at hs
      next hi =>
        split at hs
        next hv =>
          cases hs
          have hq := jm_isR_at hR
          have hal : a < h.2.2.length := (List.getElem?_eq_some_iff.mp hq).1
          have hlt : h.2.2.length < 900000 := hH.2.1
          have hg := jm_ws_get (G := G) hq
          rw [jm_enR hk] at hg
          obtain ⟨t, ht⟩ := jm_tysR (G := G) hk
          obtain ⟨qv, hqv, hqc⟩ := jm_isA_at hv
          obtain ⟨hci, rr, hr, has⟩ := jm_assign hk hqc
          have hvl : v < h.2.2.length := (List.getElem?_eq_some_iff.mp hqv).1
          have hgv := jm_ws_get (G := G) hqv
          have e1 : jm_en G h v qv = .inr (qv.1, jm_fs G h v qv.1) := by simp only [jm_en, if_pos hci]
          rw [e1] at hgv
          obtain ⟨r', hr', cellV, g1, g2, g3, -⟩ := hH.2.2.1 v _ hgv
          have hcls := (hK.1.1 qv.1 rr hr).2
          obtain ⟨kA, comp, k1, k2, k3, -⟩ := (hK.1.2 t _ ht).2
          obtain ⟨kE, hkE, -⟩ := Vm.findClass_spec k3
          obtain ⟨kC, hkC, -⟩ := hcls.2
          have f3 : s.vm.assignable ((jm_gD G).1 qv.1) comp = true := by
            rcases has with has | has
            · rw [← has] at k3
              have e : (jm_gD G).1 qv.1 = comp := Option.some.inj (hcls.1.symm.trans k3)
              rw [e]
              exact va_asg _ _
            · obtain ⟨c0, t1, f1, f2, f3⟩ := Cond.castable_spec (va_Nw.use (A := args) rfl (hK.2.2.2.2.2.1 _ has))
              have e1 : (jm_gD G).1 qv.1 = c0 := Option.some.inj (hcls.1.symm.trans f1)
              have e2 : comp = t1 := Option.some.inj (k3.symm.trans f2)
              rw [e1, e2]
              exact f3
          show W p l e R s m args below meth c H locs _ _ Q (F0 m pc arr (.ref (jm_cr G v) :: .int i :: .ref (jm_cr G a) :: r.map (jm_cv G)))
          rw [jm_cr_lt (a := a) (Nat.lt_trans hal hlt), jm_cr_lt (a := v) (Nat.lt_trans hvl hlt)]
          refine W.aast hx hb (hH.2.2.1 a _ hg) (fun q h => by cases h) (fun h => by cases h) k1 k2 rfl hkE ⟨Int32.not_lt.mpr hi.1, by show _ < (arrV _ _ _).slots.size; rw [arrV_size]; exact hi.2⟩ g1 (fun q h => by rw [g3] at h; cases h) (by rw [g2]; exact hkC) (by rw [g2]; exact f3) rfl rfl hd fun H1 e z oq => ?_
          refine k H1 _ arr (jm_HP.set (h2 := (h.1, jm_ur h.2.1 a i.toNatClampNeg (some v), h.2.2)) hH hq rfl (jm_enR hk) (fun b _ => rfl) (fun b hb => jm_ur_ne hb) z oq ?_) hl (hS.put z oq (Nat.le_add_right _ _))
          show H1[jm_gB G + a]? = some (vp_cell _ _)
          rw [e]
          rw [vp_cell_q, vp_cell_q, arrV_store]
          congr 2
          funext j
          by_cases hj : j = i.toNatClampNeg
          · subst hj
            simp [updV, jm_ur, va_rf, jm_cr_lt (Nat.lt_trans hvl hlt)]
          · simp [updV, jm_ur, hj]
        next => cases hs
      next => cases hs
  next => cases hs
theorem jm_x_arraylength {q : Nat × Nat × Int32} : jm_Nx p l e R s m args below meth c y G Q n0 w0 (.arraylength, q) pc ls st h := by
  intro hA c2 hs0 hc _ k H locs arr hH hl hS
  obtain ⟨hx, hb, hml, hown, hts, hK, hB, hnm⟩ := hA
  have hd := jm_chk_op hc rfl
  have hs : jm_len pc ls st h = some (.inl c2) := hs0
  unfold jm_len at hs
  split at hs
  next _ a r =>
    by_cases ha : a = jm_SCR
    · rw [if_pos ha] at hs
      cases hs
      subst ha
      have w1 := k H locs arr hH hl hS
      have w2 : W p l e R s m args below meth c H locs (h.2.2.length - n0) (jm_wt h - w0) Q (F0 m (pc + 1) arr (.int (h.1 jm_SCL 0) :: r.map (jm_cv G))) := w1
      rw [hH.2.2.2.2.2] at w2
      show W p l e R s m args below meth c H locs _ _ Q (F0 m pc arr (.ref (jm_cr G jm_SCR) :: r.map (jm_cv G)))
      rw [jm_cr_scr]
      exact va_slen hx hb hK.2.2.2.2.2.2.2.1 (Nat.lt_of_lt_of_le hK.2.2.2.2.2.2.2.2.1 hB) (Nat.not_le.mpr hK.2.2.2.2.2.2.2.2.1) hS hd w2
    · rw [if_neg ha] at hs
      by_cases hb2 : jm_STB ≤ a
      · rw [if_pos hb2] at hs
        split at hs
        next hi =>
          cases hs
          have ea : a = a - jm_STB + jm_STB := (Nat.sub_add_cancel hb2).symm
          have w1 := k H locs arr hH hl hS
          show W p l e R s m args below meth c H locs _ _ Q (F0 m pc arr (.ref (jm_cr G a) :: r.map (jm_cv G)))
          rw [ea, jm_cr_stb]
          exact va_tlen hx hb (hK.2.2.2.2.2.2.2.2.2.1.1 _ hi).2.2.2 hS rfl hd w1
        next => cases hs
      · rw [if_neg hb2] at hs
        cases hq : h.2.2[a]? with
        | none => rw [hq] at hs; cases hs
        | some qq =>
          rw [hq] at hs
          dsimp only at hs
          split at hs
          next hi =>
            cases hs
            obtain ⟨kk, n⟩ := qq
            have hal : a < h.2.2.length := (List.getElem?_eq_some_iff.mp hq).1
            have hlt : h.2.2.length < 900000 := hH.2.1
            have hg := jm_ws_get (G := G) hq
            show W p l e R s m args below meth c H locs _ _ Q (F0 m pc arr (.ref (jm_cr G a) :: r.map (jm_cv G)))
            rw [jm_cr_lt (a := a) (Nat.lt_trans hal hlt)]
            have w1 := k H locs arr hH hl hS
            by_cases h13 : kk = 13
            · subst h13
              rw [jm_en13] at hg
              exact va_alen hx hb hK.1 hH.2.2.1 a 0 hg rfl rfl hd w1
            · have hk : kk = 14 ∨ kk = 15 ∨ kk = 16 := by have := hi.1; have := hi.2; dsimp only at *; omega
              rw [jm_enR hk] at hg
              obtain ⟨t, ht⟩ := jm_tysR (G := G) hk
              exact va_alen hx hb hK.1 hH.2.2.1 a t hg ht rfl hd w1
          next => cases hs
  next => cases hs
theorem jm_x_baload {q : Nat × Nat × Int32} : jm_Nx p l e R s m args below meth c y G Q n0 w0 (.baload, q) pc ls st h := by
  intro hA c2 hs0 hc _ k H locs arr hH1 hl1 hS
  obtain ⟨hx, hb, hml, hown, hts, hK, hB, hnm⟩ := hA
  have hH : jm_HP G h H := hH1
  have hl : jm_hasL G (jm_max y) ls arr := hl1
  clear hH1 hl1
  have hd := jm_chk_op hc rfl
  have hs : jm_bal pc ls st h = some (.inl c2) := hs0
  unfold jm_bal at hs
  split at hs
  next _ i a r =>
    split at hs
    next hi =>
      cases hs
      obtain ⟨h1, h2, h3, h4⟩ := hi
      have ea : a = a - jm_STB + jm_STB := (Nat.sub_add_cancel h1).symm
      have w1 : W p l e R s m args below meth c H locs (h.2.2.length - n0) (jm_wt h - w0) Q (F0 m (pc + 1) arr (.int ((jm_sbyt.getD (a - jm_STB) []).getD i.toNatClampNeg 0) :: r.map (jm_cv G))) := k H locs arr hH hl hS
      clear k hs0
      generalize a - jm_STB = kk at ea h2 h4 w1
      show W p l e R s m args below meth c H locs _ _ Q (F0 m pc arr (.int i :: .ref (jm_cr G a) :: r.map (jm_cv G)))
      rw [ea, jm_cr_stb]
      exact va_tb hx hb (hK.2.2.2.2.2.2.2.2.2.1.1 _ h2).2.2.2 hS (jm_vin ⟨h3, h4⟩) rfl hd w1
    next => cases hs
  next => cases hs
theorem jm_x_instanceof {q : Nat × Nat × Int32} {n : Nat} : jm_Nx p l e R s m args below meth c y G Q n0 w0 (.instanceof n, q) pc ls st h := by
  intro hA c2 hs0 hc _ k H locs arr hH hl hS
  obtain ⟨hx, hb, hml, hown, hts, hK, hB, hnm⟩ := hA
  have hd := jm_chk_op hc rfl
  have hk := (jm_chk_dec hc).2
  have hk : (match (generalizing := false) jm_ist[q.1]? with | some z => jm_hasAt q.2.1 (.classLink (jm_own y) n z.1) | none => false) = true := hk
  have hs1 : (match (generalizing := false) jm_ist[q.1]? with | some cs => jm_ins cs.2 pc ls st h | none => none) = some (.inl c2) := hs0
  cases hi : jm_ist[q.1]? with
  | none => rw [hi] at hs1; cases hs1
  | some z =>
    rw [hi] at hs1 hk
    have hlk := hts _ (jm_hasAt_in hk)
    have hs : jm_ins z.2 pc ls st h = some (.inl c2) := hs1
    unfold jm_ins at hs
    split at hs
    next _ a r =>
      cases hq : jm_kind h a with
      | none => rw [hq] at hs; cases hs
      | some qq =>
        rw [hq] at hs
        dsimp only at hs
        split at hs
        next h13 =>
          cases hs
          have hq : h.2.2[a]? = some qq := hq
          have hal : a < h.2.2.length := (List.getElem?_eq_some_iff.mp hq).1
          have hlt : h.2.2.length < 900000 := hH.2.1
          have hg := jm_ws_get (G := G) hq
          have e1 : jm_en G h a qq = .inr (qq.1, jm_fs G h a qq.1) := by simp only [jm_en, if_pos h13]
          rw [e1] at hg
          have hrr : ∃ rr, jm_cl[qq.1]? = some rr := ⟨_, List.getElem?_eq_getElem (by have : jm_cl.length = 13 := rfl; omega)⟩
          obtain ⟨rr, hr⟩ := hrr
          have hrec := va_recv hK.1 hH.2.2.1 hr hg
          have w1 := k H locs arr hH hl hS
          show W p l e R s m args below meth c H locs _ _ Q (F0 m pc arr (.ref (jm_cr G a) :: r.map (jm_cv G)))
          rw [jm_cr_lt (a := a) (Nat.lt_trans hal hlt)]
          by_cases hcs : z.2.contains qq.1 = true
          · have w2 : W p l e R s m args below meth c H locs (h.2.2.length - n0) (jm_wt h - w0) Q (F0 m (pc + 3) arr (.int (if z.2.contains qq.1 = true then 1 else 0) :: r.map (jm_cv G))) := w1
            rw [if_pos hcs] at w2
            have hz : z ∈ jm_ist := List.mem_of_getElem? hi
            have hcl : rr.1 = z.1 ∨ (rr.1, z.1) ∈ jm_cas := by
              have hm : qq.1 ∈ z.2 := by simpa using hcs
              clear w1 w2 hlk hk k
              simp only [jm_ist, List.mem_cons, List.not_mem_nil, or_false] at hz
              rcases hz with rfl | rfl | rfl | rfl | rfl <;> simp only [List.mem_cons, List.not_mem_nil, or_false] at hm
              · rcases hm with hm | hm <;> rw [hm] at hr <;> cases hr
                · exact Or.inr (by decide +kernel)
                · exact Or.inl rfl
              · rcases hm with hm | hm <;> rw [hm] at hr <;> cases hr
                · exact Or.inl rfl
                · exact Or.inr (by decide +kernel)
              · rw [hm] at hr; cases hr; exact Or.inl rfl
              · rw [hm] at hr; cases hr; exact Or.inl rfl
              · rw [hm] at hr; cases hr; exact Or.inl rfl
            rcases hcl with hcl | hcl
            · rw [hcl] at hrec
              exact va_instE hx hb hown hlk hrec hd w2
            · exact va_instY hx hb hown hlk (hK.2.2.2.2.2.1 _ hcl) hrec hd w2
          · have w2 : W p l e R s m args below meth c H locs (h.2.2.length - n0) (jm_wt h - w0) Q (F0 m (pc + 3) arr (.int (if z.2.contains qq.1 = true then 1 else 0) :: r.map (jm_cv G))) := w1
            rw [if_neg hcs] at w2
            exact va_instNo hx hb hown hlk (hK.2.2.2.2.2.2.1 rr.1 z.1 ⟨qq.1, rr, z, hr, rfl, List.mem_of_getElem? hi, rfl, by simpa using hcs⟩) hrec hd w2
        next => cases hs
    next => cases hs
end JM3
