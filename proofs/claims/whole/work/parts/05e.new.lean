/-! ONE STEP: new cells -/
theorem jm_HP.push {G : jm_G} {h h2 : jm_H} {H H1 : Heap} {q : Nat × Nat} {e : va_E} (hH : jm_HP G h H) (hM : h2.2.2 = h.2.2 ++ [q]) (he : jm_en G h2 h.2.2.length q = e) (hb1 : ∀ b, b ≠ h.2.2.length → h2.1 b = h.1 b) (hb2 : ∀ b, b ≠ h.2.2.length → h2.2.1 b = h.2.1 b) (hq : q.1 < 17) (hlt : h2.2.2.length < 900000)
    (z : H1.size = H.size + 1) (oq : ∀ x : Nat, x < H.size → H1[x]? = H[x]?) (hat : va_at (jm_gD G) jm_cl (jm_gB G + h.2.2.length, e) H1) : jm_HP G h2 H1 := by
  obtain ⟨g1, g2, g3, g4, g5, g6⟩ := hH
  refine ⟨by rw [z, hM, g1]; simp; omega, hlt, ?_, ?_, fun i hi => ?_, ?_⟩
  · rw [← jm_ws_push (h2 := h2) hM he (fun b hb q => jm_en_congr (hb1 b (by omega)) (hb2 b (by omega)) q)]
    refine (g3.kept (fun k x hx => oq x.1 ((g3 k x hx).lt))).app (fun k x hx => ?_)
    have hz : k < 1 := (List.getElem?_eq_some_iff.mp hx).1
    rw [show k = 0 by omega] at hx
    cases hx
    exact hat
  · rw [hM]
    intro x hx
    rcases List.mem_append.mp hx with hx | hx
    · exact g4 x hx
    · rw [List.mem_singleton.mp hx]; exact hq
  · rw [hb1 jm_SCR (by simp only [jm_SCR]; omega)]; exact g5 i hi
  · rw [hb1 jm_SCL (by simp only [jm_SCL]; omega)]; exact g6
theorem jm_wt_new (h : jm_H) (k n : Nat) : jm_wt (jm_new h k n) = jm_wt h + jm_sz (k, n) := by simp [jm_wt, jm_new]
theorem jm_new_len (h : jm_H) (k n : Nat) : (jm_new h k n).2.2.length = h.2.2.length + 1 := by simp [jm_new]
theorem jm_arrI : Cond.arrayClass .int ∈ jm_Ts := jm_hasAt_in (i := 130) (by decide +kernel)
section JM4
variable {p : Program} {l : Launch} {e : Env} {R : Room} {s : State} {m : MethodId} {args : Array Value} {below : List Frame} {meth : Method} {c : Code} {y : Nat} {G : jm_G} {Q : State → Prop} {n0 w0 : Nat} {pc : Nat} {ls : jm_L} {st : List Value} {h : jm_H}
theorem jm_x_new {q : Nat × Nat × Int32} {n : Nat} : jm_Nx p l e R s m args below meth c y G Q n0 w0 (.new n, q) pc ls st h := by
  intro hA c2 hs0 hc hR k H locs arr hH1 hl1 hS
  obtain ⟨hx, hb, hml, hown, hts, hK, hB, hnm⟩ := hA
  have hH : jm_HP G h H := hH1
  have hl : jm_hasL G (jm_max y) ls arr := hl1
  clear hH1 hl1
  have hd := jm_chk_op hc rfl
  have hk := (jm_chk_dec hc).2
  have hk : (match (generalizing := false) jm_cl[q.1]? with | some r => jm_hasAt q.2.1 (.classLink (jm_own y) n r.1) | none => false) = true := hk
  have hs : (if q.1 < 13 then jm_nx (pc + 3) ls (.ref h.2.2.length :: st) (jm_new h q.1 0) else none) = some (.inl c2) := hs0
  split at hs
  next hq =>
    cases hs
    cases hr : jm_cl[q.1]? with
    | none => rw [hr] at hk; cases hk
    | some rr =>
      rw [hr] at hk
      obtain ⟨u1, u2, u3, u4, u5, u6, u7, u8⟩ := jm_cl_use hr
      have hlk := hts _ (jm_hasAt_in hk)
      obtain ⟨r1, r2, r3, r4, r5, -⟩ := hR
      have r3 : (jm_new h q.1 0).2.2.length - n0 ≤ R.cells := r3
      have r4 : jm_wt (jm_new h q.1 0) - w0 ≤ R.slots := r4
      have r5 : (jm_new h q.1 0).2.2.length < 900000 := r5
      have hsz : jm_sz (q.1, 0) = rr.2.2 := by simp only [jm_sz, if_pos hq]; exact u2
      rw [jm_new_len] at r3
      rw [jm_wt_new, hsz] at r4
      have hKn := hK.1.1 q.1 rr hr
      have hlt : h.2.2.length < 900000 := hH.2.1
      show W p l e R s m args below meth c H locs (h.2.2.length - n0) (jm_wt h - w0) Q (F0 m pc arr (st.map (jm_cv G)))
      refine W.newcK hx hb hown hlk (hts _ u7) (hts _ u8) rfl hd (by omega) (by omega) hKn.2.1 rfl fun H1 kC hkC e1 z1 o1 => ?_
      have hsize := hH.1
      rw [hsize] at e1
      have hP2 : jm_HP G (jm_new h q.1 0) H1 := by
        refine hH.push (h2 := jm_new h q.1 0) (q := (q.1, 0)) (e := .inr (q.1, jm_fs G (jm_new h q.1 0) h.2.2.length q.1)) rfl ?_ (fun b hb => jm_row_ne hb) (fun b hb => jm_rr_ne hb) (by show q.1 < 17; omega) r5 z1 o1 ?_
        · simp only [jm_en, if_pos hq]
        · refine ⟨_, hr, (u_born (jm_tyf rr.2.1) hts u1 hKn hkC e1 u4).to fun j hj => ?_⟩
          have hv : vp_V (jm_fs G (jm_new h q.1 0) h.2.2.length q.1) j = if (jm_fk.getD q.1 []).getD j 0 = 2 then Value.null else .int 0 := by
            rw [vp_V, List.getD_eq_getElem?_getD, jm_fs_get (by rw [u2]; exact hj)]
            simp [jm_new, jm_row, jm_rr, va_rf]
          rw [hv]
          have h6 := u6 j hj
          have h4 := u4 j hj
          split at h6
          next h2 => rw [if_pos h2]; exact jm_null_fits h6 h4
          next h2 =>
            rw [if_neg h2]
            rcases h6 with h6 | h6
            · rw [h6] at h4
              have h9 : parseFieldDescriptor "I" = some .int := by decide +kernel
              rw [← Option.some.inj (h9.symm.trans h4)]
              rfl
            · rw [h6] at h4
              have h9 : parseFieldDescriptor "Z" = some .boolean := by decide +kernel
              rw [← Option.some.inj (h9.symm.trans h4)]
              rfl
      have w1 := k H1 locs arr hP2 hl ⟨Nat.le_trans hS.1 (by omega), fun x h1 h2 => (o1 x (Nat.lt_of_lt_of_le h1 hS.1)).trans (hS.2.1 x h1 h2), hS.2.2⟩
      have w2 : W p l e R s m args below meth c H1 locs ((jm_new h q.1 0).2.2.length - n0) (jm_wt (jm_new h q.1 0) - w0) Q (F0 m (pc + 3) arr (.ref (jm_cr G h.2.2.length) :: st.map (jm_cv G))) := w1
      rw [jm_cr_lt (a := h.2.2.length) hlt, ← hsize] at w2
      refine W.cs ?_ ?_ w2
      · rw [jm_new_len]; omega
      · rw [jm_wt_new, hsz]; omega
  next => cases hs
theorem jm_x_newarray {q : Nat × Nat × Int32} {t : ArrayType} : jm_Nx p l e R s m args below meth c y G Q n0 w0 (.newarray t, q) pc ls st h := by
  intro hA c2 hs0 hc hR k H locs arr hH1 hl1 hS
  obtain ⟨hx, hb, hml, hown, hts, hK, hB, hnm⟩ := hA
  have hH : jm_HP G h H := hH1
  have hl : jm_hasL G (jm_max y) ls arr := hl1
  clear hH1 hl1
  have hd := jm_chk_op hc rfl
  have hk : t = .int := of_decide_eq_true (jm_chk_dec hc).2
  subst hk
  have hs : jm_nar 13 pc 2 ls st h = some (.inl c2) := hs0
  unfold jm_nar at hs
  split at hs
  next _ x r =>
    split at hs
    next hi =>
      cases hs
      obtain ⟨r1, r2, r3, r4, r5, -⟩ := hR
      have r3 : (jm_new h 13 x.toNatClampNeg).2.2.length - n0 ≤ R.cells := r3
      have r4 : jm_wt (jm_new h 13 x.toNatClampNeg) - w0 ≤ R.slots := r4
      have r5 : (jm_new h 13 x.toNatClampNeg).2.2.length < 900000 := r5
      have hsz : jm_sz (13, x.toNatClampNeg) = x.toNatClampNeg := rfl
      rw [jm_new_len] at r3
      rw [jm_wt_new, hsz] at r4
      have hlt : h.2.2.length < 900000 := hH.2.1
      have hx4 : x.toNatClampNeg ≤ 4096 := by
        have := Int32.le_iff_toInt_le.mp hi.2
        have e1 : (4096 : Int32).toInt = 4096 := rfl
        rw [e1] at this
        show x.toInt.toNat ≤ 4096
        omega
      show W p l e R s m args below meth c H locs (h.2.2.length - n0) (jm_wt h - w0) Q (F0 m pc arr (.int x :: r.map (jm_cv G)))
      refine va_newaK (atype := .int) hx hb (hts _ jm_arrI) rfl hd (N := x.toNatClampNeg) rfl (Int32.not_lt.mpr hi.1) rfl (by show x.toNatClampNeg * 4 ≤ _; omega) (by omega) (by omega) rfl fun H1 cA e1 z1 o1 hAr hNm => ?_
      have hsize := hH.1
      rw [hsize] at e1
      have hcA : cA = jm_gA G 13 := by
        have h1 : s.vm.findClass ("[" ++ FieldType.int.toString) = some (jm_gA G 13) := (hK.1.2 0 _ rfl).2
        have h2 : s.vm.findClass ("[" ++ FieldType.int.toString) = some cA := hNm
        rw [h1] at h2
        exact (Option.some.inj h2).symm
      have hP2 : jm_HP G (jm_new h 13 x.toNatClampNeg) H1 := by
        refine hH.push (h2 := jm_new h 13 x.toNatClampNeg) (q := (13, x.toNatClampNeg)) rfl rfl (fun b hb => jm_row_ne hb) (fun b hb => jm_rr_ne hb) (show (13 : Nat) < 17 by decide) r5 z1 o1 ?_
        show H1[jm_gB G + h.2.2.length]? = some (vp_cell _ _)
        rw [vp_cell_i, e1, hcA]
        congr 2
        funext j
        simp [jm_new, jm_row]
        rfl
      have w1 := k H1 locs arr hP2 hl ⟨Nat.le_trans hS.1 (by omega), fun x h1 h2 => (o1 x (Nat.lt_of_lt_of_le h1 hS.1)).trans (hS.2.1 x h1 h2), hS.2.2⟩
      have w2 : W p l e R s m args below meth c H1 locs ((jm_new h 13 x.toNatClampNeg).2.2.length - n0) (jm_wt (jm_new h 13 x.toNatClampNeg) - w0) Q (F0 m (pc + 2) arr (.ref (jm_cr G h.2.2.length) :: r.map (jm_cv G))) := w1
      rw [jm_cr_lt (a := h.2.2.length) hlt, ← hsize] at w2
      refine W.cs ?_ ?_ w2
      · rw [jm_new_len]; omega
      · rw [jm_wt_new, hsz]; omega
    next => cases hs
  next => cases hs
theorem jm_x_anewarray {q : Nat × Nat × Int32} {n : Nat} : jm_Nx p l e R s m args below meth c y G Q n0 w0 (.anewarray n, q) pc ls st h := by
  intro hA c2 hs0 hc hR k H locs arr hH1 hl1 hS
  obtain ⟨hx, hb, hml, hown, hts, hK, hB, hnm⟩ := hA
  have hH : jm_HP G h H := hH1
  have hl : jm_hasL G (jm_max y) ls arr := hl1
  clear hH1 hl1
  have hd := jm_chk_op hc rfl
  have hk := (jm_chk_dec hc).2
  have hk : (decide (q.1 = 14 ∨ q.1 = 15 ∨ q.1 = 16) && jm_hasAt q.2.1 (.classLink (jm_own y) n (jm_elc q.1))) = true := hk
  simp only [Bool.and_eq_true, decide_eq_true_eq] at hk
  obtain ⟨hk, hlk⟩ := hk
  have hlk := hts _ (jm_hasAt_in hlk)
  have hs : jm_nar q.1 pc 3 ls st h = some (.inl c2) := hs0
  unfold jm_nar at hs
  split at hs
  next _ x r =>
    split at hs
    next hi =>
      cases hs
      obtain ⟨r1, r2, r3, r4, r5, -⟩ := hR
      have r3 : (jm_new h q.1 x.toNatClampNeg).2.2.length - n0 ≤ R.cells := r3
      have r4 : jm_wt (jm_new h q.1 x.toNatClampNeg) - w0 ≤ R.slots := r4
      have r5 : (jm_new h q.1 x.toNatClampNeg).2.2.length < 900000 := r5
      have hsz : jm_sz (q.1, x.toNatClampNeg) = x.toNatClampNeg := by
        have : ¬ q.1 < 13 := by omega
        simp only [jm_sz, if_neg this]
      rw [jm_new_len] at r3
      rw [jm_wt_new, hsz] at r4
      have hlt : h.2.2.length < 900000 := hH.2.1
      have hx4 : x.toNatClampNeg ≤ 4096 := by
        have := Int32.le_iff_toInt_le.mp hi.2
        have e1 : (4096 : Int32).toInt = 4096 := rfl
        rw [e1] at this
        show x.toInt.toNat ≤ 4096
        omega
      have hAO : va_AO (jm_elc q.1) s := by
        rcases hk with hk | hk | hk <;> rw [hk]
        · exact hK.2.1
        · exact hK.2.2.1
        · exact hK.2.2.2.1
      obtain ⟨t, ht⟩ := jm_tysR (G := G) hk
      show W p l e R s m args below meth c H locs (h.2.2.length - n0) (jm_wt h - w0) Q (F0 m pc arr (.int x :: r.map (jm_cv G)))
      refine W.anew hx hb hown hlk (va_AO.use hAO) rfl hd rfl (Int32.not_lt.mpr hi.1) (by omega) (by omega) (by omega) fun cA kA comp f1 f2 f3 f4 => ?_
      have hcA : cA = jm_gA G q.1 := by
        obtain ⟨kA2, comp2, g1, g2, g3, g4⟩ := (hK.1.2 t _ ht).2
        rw [f1] at g4
        exact Option.some.inj g4
      generalize hH1 : H.push ({ cls := cA, slots := Array.replicate x.toNatClampNeg .null, vm := .none } : Cell) = H1
      have z1 : H1.size = H.size + 1 := by rw [← hH1, Array.size_push]
      have hsize := hH.1
      have e1 : H1[jm_gB G + h.2.2.length]? = some (arrV cA x.toNatClampNeg (fun _ => .null)) := by rw [← hsize, ← hH1, Array.getElem?_push_size, ← arrV_new]
      have o1 : ∀ q : Nat, q < H.size → H1[q]? = H[q]? := fun q hq => by rw [← hH1, Array.getElem?_push, if_neg (Nat.ne_of_lt hq)]
      have hP2 : jm_HP G (jm_new h q.1 x.toNatClampNeg) H1 := by
        refine hH.push (h2 := jm_new h q.1 x.toNatClampNeg) (q := (q.1, x.toNatClampNeg)) rfl (jm_enR hk) (fun b hb => jm_row_ne hb) (fun b hb => jm_rr_ne hb) (by show q.1 < 17; omega) r5 z1 o1 ?_
        show H1[jm_gB G + h.2.2.length]? = some (vp_cell _ _)
        rw [vp_cell_q, e1, hcA]
        congr 2
        funext j
        simp [jm_new, jm_rr, va_rf]
      have w1 := k H1 locs arr hP2 hl ⟨Nat.le_trans hS.1 (by omega), fun x h1 h2 => (o1 x (Nat.lt_of_lt_of_le h1 hS.1)).trans (hS.2.1 x h1 h2), hS.2.2⟩
      have w2 : W p l e R s m args below meth c H1 locs ((jm_new h q.1 x.toNatClampNeg).2.2.length - n0) (jm_wt (jm_new h q.1 x.toNatClampNeg) - w0) Q (F0 m (pc + 3) arr (.ref (jm_cr G h.2.2.length) :: r.map (jm_cv G))) := w1
      rw [jm_cr_lt (a := h.2.2.length) hlt, ← hsize] at w2
      refine W.cs ?_ ?_ w2
      · rw [jm_new_len]; omega
      · rw [jm_wt_new, hsz]; omega
    next => cases hs
  next => cases hs
end JM4
