/-! CALLS THAT ARE ROWS: Object's constructor, Math.max and min, System.arraycopy; then any step, any run, any method -/
theorem jm_cs_ok {o : jm_op} {y i : Nat} {ee : jm_ce} (h : jm_cs[o.2.1]? = some ee) (h2 : ee.2.1 = (jm_mcl y, i)) : jm_Site y o i ee := ⟨h, h2, jm_kcall h⟩
section JM7
variable {p : Program} {l : Launch} {e : Env} {R : Room} {s : State} {m : MethodId} {args : Array Value} {below : List Frame} {meth : Method} {c : Code} {y : Nat} {G : jm_G} {Q : State → Prop} {n0 w0 : Nat} {pc : Nat} {ls : jm_L} {st : List Value} {h : jm_H}
theorem jm_x_invokespecial {q : Nat × Nat × Int32} {i : Nat} : jm_Nx p l e R s m args below meth c y G Q n0 w0 (.invokespecial i, q) pc ls st h := by
  intro hA c2 hs0 hc hR k H locs arr hH1 hl1 hS
  have hH : jm_HP G h H := hH1
  have hl : jm_hasL G (jm_max y) ls arr := hl1
  clear hH1 hl1
  obtain ⟨hx, hb, hml, hown, hts, hK, hB, hnm⟩ := hA
  have hd := jm_chk_op hc rfl
  have hs : jm_cal q.1 pc ls st h = some (.inl c2) := hs0
  cases hee : jm_cs[q.1]? with
  | none => unfold jm_cal at hs; rw [hee] at hs; cases hs
  | some ee =>
    have hck : (match (generalizing := false) jm_cs[q.1]? with | some e => decide (e.2.1 = (jm_mcl y, i)) && (decide (e.1 = 2) || decide (e.1 = 3) || decide (e.1 = 4) || decide (e.1 = 7) || decide (e.1 = 8)) | none => false) = true := (jm_chk_dec hc).2
    rw [hee] at hck
    simp only [Bool.and_eq_true, Bool.or_eq_true, decide_eq_true_eq] at hck
    obtain ⟨hw, hk⟩ := hck
    have hsite : jm_Site y (.invokespecial i, q) i ee := jm_cs_ok hee hw
    obtain ⟨ho, hi⟩ := jm_site_own hsite
    have hok := hsite.2.2
    unfold jm_cal at hs
    rw [hee] at hs
    dsimp only at hs
    rw [if_neg (by omega), if_neg (by omega), if_neg (by omega), if_neg (by omega)] at hs
    split at hs
    next a r hdr =>
      split at hs
      next hcat =>
        by_cases h3 : ee.1 ≤ 3
        · rw [if_pos h3] at hs; cases hs
        · rw [if_neg h3] at hs
          by_cases h8 : ee.1 = 8
          · rw [if_pos h8] at hs
            split at hs
            next hz =>
              cases hs
              have hok2 : (jm_cw ee 0 (.methodLink (jm_cow ee) ee.2.1.2 Lib.objectInit) && jm_cw ee 1 (.instanceMethod Lib.objectInit) && jm_cw ee 2 (.code Lib.objectInit ⟨#[0xb1]⟩ 1 none)) = true := by
                unfold jm_cok at hok
                rw [h8] at hok
                exact hok
              simp only [Bool.and_eq_true] at hok2
              obtain ⟨⟨e3, e4⟩, e5⟩ := hok2
              rw [ho, hi] at e3
              rw [hz, List.drop_zero] at hdr
              subst hdr
              have hcatr : (r.map (jm_cv G)).map (fun v => v.category) = (r.map (jm_cv G)).map (fun v => v.category) := rfl
              refine W.objInit hx hb hown (hts _ (jm_hasAt_in e3)) (hts _ (jm_hasAt_in e4)) (hts _ (jm_hasAt_in e5)) rfl (hl.1.trans hml.symm) rfl hd hR.2.2.2.2.2.1 ?_ (k H locs arr hH hl hS)
              show 2 * 0 + ((r.map (jm_cv G)).map (fun v => v.category)).sum + 12 ≤ R.locals
              rw [jm_cat_map hK.2.2.2.2.2.2.2.2.2.2.2.2.2.1]
              have := hR.2.2.2.2.2.2
              omega
            next => cases hs
          · rw [if_neg h8] at hs
            split at hs
            · split at hs <;> cases hs
            · split at hs
              · split at hs <;> cases hs
              · cases hs
      next => cases hs
    next => cases hs
theorem jm_x_invokevirtual {q : Nat × Nat × Int32} {i : Nat} : jm_Nx p l e R s m args below meth c y G Q n0 w0 (.invokevirtual i, q) pc ls st h := by
  intro hA c2 hs0 hc hR k H locs arr hH1 hl1 hS
  exfalso
  have hs : jm_cal q.1 pc ls st h = some (.inl c2) := hs0
  cases hee : jm_cs[q.1]? with
  | none => unfold jm_cal at hs; rw [hee] at hs; cases hs
  | some ee =>
    have hck : (match (generalizing := false) jm_cs[q.1]? with | some e => decide (e.2.1 = (jm_mcl y, i)) && (decide (e.1 = 5) || decide (e.1 = 6) || decide (e.1 = 9)) | none => false) = true := (jm_chk_dec hc).2
    rw [hee] at hck
    simp only [Bool.and_eq_true, Bool.or_eq_true, decide_eq_true_eq] at hck
    unfold jm_cal at hs
    rw [hee] at hs
    dsimp only at hs
    rw [if_neg (by omega), if_neg (by omega), if_neg (by omega), if_neg (by omega)] at hs
    split at hs
    next a r hdr =>
      split at hs
      next hcat =>
        rw [if_neg (by omega), if_neg (by omega)] at hs
        split at hs
        · split at hs <;> cases hs
        · split at hs
          · split at hs <;> cases hs
          · cases hs
      next => cases hs
    next => cases hs
theorem jm_nn {z : Int32} (hz : 0 ≤ z) : z.toInt = (z.toNatClampNeg : Int) := by
  have hz0 : (0 : Int) ≤ z.toInt := by simpa using Int32.le_iff_toInt_le.mp hz
  show z.toInt = ((z.toInt.toNat : Nat) : Int)
  omega
theorem jm_copy_row {index : Nat} {a b na nb : Nat} {sp dp n : Int32} {r : List Value} (hA : jm_At p s m args meth c y G) (hlk : Cond.methodLink (jm_own y) index arraycopyName ∈ jm_Ts) (h1 : Cond.native arraycopyName ∈ jm_Ts) (h2 : Cond.static arraycopyName ∈ jm_Ts) (h3 : Cond.initialized "java/lang/System" ∈ jm_Ts) (ha : h.2.2[a]? = some (13, na)) (hb' : h.2.2[b]? = some (13, nb))
    (g : 0 ≤ sp ∧ 0 ≤ dp ∧ 0 ≤ n ∧ sp.toNatClampNeg + n.toNatClampNeg ≤ na ∧ dp.toNatClampNeg + n.toNatClampNeg ≤ nb ∧ jm_cat r ≤ 8) (hfr : 1 ≤ R.frames) (hlo : 40 ≤ R.locals) {H : Heap} {locs : List Loc} {arr : Array Slot} {cells slots : Nat} (hH : jm_HP G h H) (hl : jm_hasL G (jm_max y) ls arr) (hS : va_S (jm_A G) s.heap H locs) (hd : decode (jm_bc y) pc = .ok (.invokestatic index, 3))
    (kk : ∀ (H1 : Heap) (locs1 : List Loc), jm_HP G (jm_row h.1 b (va_cpy (h.1 a) (h.1 b) sp.toNatClampNeg dp.toNatClampNeg n.toNatClampNeg), h.2.1, h.2.2) H1 → va_S (jm_A G) s.heap H1 locs1 → W p l e R s m args below meth c H1 locs1 cells slots Q (F0 m (pc + 3) arr (r.map (jm_cv G)))) :
    W p l e R s m args below meth c H locs cells slots Q (F0 m pc arr (.int n :: .int dp :: .ref (jm_cr G b) :: .int sp :: .ref (jm_cr G a) :: r.map (jm_cv G))) := by
  obtain ⟨hx, hb, hml, hown, hts, hK, hB, hnm⟩ := hA
  obtain ⟨g1, g2, g3, g4, g5, g6⟩ := g
  have hlt : h.2.2.length < 900000 := hH.2.1
  have hal : a < h.2.2.length := (List.getElem?_eq_some_iff.mp ha).1
  have hbl : b < h.2.2.length := (List.getElem?_eq_some_iff.mp hb').1
  have hga := jm_ws_get (G := G) ha
  have hgb := jm_ws_get (G := G) hb'
  rw [jm_en13] at hga hgb
  rw [jm_cr_lt (a := a) (Nat.lt_trans hal hlt), jm_cr_lt (a := b) (Nat.lt_trans hbl hlt)]
  intro T hT X
  have hc0 : H[jm_gB G + a]? = some (vp_cell (jm_gA G 13) (na, .inl (h.1 a))) := hH.2.2.1 a _ hga
  have hc1 : H[jm_gB G + b]? = some (vp_cell (jm_gA G 13) (nb, .inl (h.1 b))) := hH.2.2.1 b _ hgb
  obtain ⟨-, k0, hk0, cm0, hkk0⟩ := (hK.1.2 0 _ rfl).1 na (fun j => .int (h.1 a j))
  have n1 := jm_nn g1
  have n2 := jm_nn g2
  have n3 := jm_nn g3
  obtain ⟨vm', X', step⟩ := X.arraycopy hx hown (hts _ hlk) (hts _ h1) (hts _ h2) (hts _ h3) (src := jm_gB G + a) (dst := jm_gB G + b) (cs := vp_cell (jm_gA G 13) (na, .inl (h.1 a))) (cd := vp_cell (jm_gA G 13) (nb, .inl (h.1 b))) (srcPos := sp) (destPos := dp) (n := n) (by rw [hT]; exact hc0) (by rw [hT]; exact hc1)
    (fun _ h => by cases h) (fun _ h => by cases h) (fun h => by cases h) (fun h => by cases h) hk0 hk0 hkk0 hkk0 (by simp [refKind]) (Int32.not_lt.mpr g1) (Int32.not_lt.mpr g2) (Int32.not_lt.mpr g3)
    (by rw [n1, n3]; show ¬ _ > ((arrV _ na (fun j => .int (h.1 a j))).slots.size : Int); rw [arrV_size]; omega)
    (by rw [n2, n3]; show ¬ _ > ((arrV _ nb (fun j => .int (h.1 b j))).slots.size : Int); rw [arrV_size]; omega)
    (fun vm₁ _ i hi => by
      have e : (vp_cell (jm_gA G 13) (na, .inl (h.1 a))).slots.getD (sp.toNatClampNeg + i) .null = .int (h.1 a (sp.toNatClampNeg + i)) := by
        show (arrV _ na (fun j => .int (h.1 a j))).slots.getD _ _ = _
        rw [Array.getD_eq_getD_getElem?, arrV_read _ _ (by omega)]
        rfl
      refine ⟨?_, ?_⟩
      · rw [e]
        rfl
      · rw [e]
        exact trivial)
    (g := F0 m pc arr (.int n :: .int dp :: .ref (jm_gB G + b) :: .int sp :: .ref (jm_gB G + a) :: r.map (jm_cv G))) rfl (by rw [hml]; exact hl.1) (rest := r.map (jm_cv G)) rfl (by rw [hb]; exact hd) hfr (by
      show 2 * 0 + ((r.map (jm_cv G)).map (fun v => v.category)).sum + (nativeFrameWords "java/lang/System" "arraycopy" 5 + 11) ≤ R.locals
      rw [jm_cat_map hK.2.2.2.2.2.2.2.2.2.2.2.2.2.1]
      have : nativeFrameWords "java/lang/System" "arraycopy" 5 ≤ 20 := by decide +kernel
      omega)
  have e1 : copied (vp_cell (jm_gA G 13) (na, .inl (h.1 a))) (vp_cell (jm_gA G 13) (nb, .inl (h.1 b))) sp dp n = vp_cell (jm_gA G 13) (nb, .inl (va_cpy (h.1 a) (h.1 b) sp.toNatClampNeg dp.toNatClampNeg n.toNatClampNeg)) := va_copied (fun z => .int z) _ _ (h.1 a) (h.1 b) g4
  rw [e1] at X' step
  have hlb : jm_gB G + b < H.size := (Array.getElem?_eq_some_iff.mp hc1).1
  have hheap : ((T.setVm vm').setCell (jm_gB G + b) (vp_cell (jm_gA G 13) (nb, .inl (va_cpy (h.1 a) (h.1 b) sp.toNatClampNeg dp.toNatClampNeg n.toNatClampNeg)))).heap = H.setIfInBounds (jm_gB G + b) (vp_cell (jm_gA G 13) (nb, .inl (va_cpy (h.1 a) (h.1 b) sp.toNatClampNeg dp.toNatClampNeg n.toNatClampNeg))) := by rw [← hT]; rfl
  have oq : ∀ q : Nat, q ≠ jm_gB G + b → (H.setIfInBounds (jm_gB G + b) (vp_cell (jm_gA G 13) (nb, .inl (va_cpy (h.1 a) (h.1 b) sp.toNatClampNeg dp.toNatClampNeg n.toNatClampNeg))))[q]? = H[q]? := fun q hq => by simp [Array.getElem?_setIfInBounds, Ne.symm hq]
  obtain ⟨t, a1, b1⟩ := kk _ _ (jm_HP.set (h2 := (jm_row h.1 b (va_cpy (h.1 a) (h.1 b) sp.toNatClampNeg dp.toNatClampNeg n.toNatClampNeg), h.2.1, h.2.2)) hH hb' rfl rfl (fun x hx => jm_row_ne hx) (fun _ _ => rfl) (by simp) oq (by
      show (H.setIfInBounds (jm_gB G + b) _)[jm_gB G + b]? = some (vp_cell _ _)
      rw [Array.getElem?_setIfInBounds, if_pos rfl, if_pos hlb]
      simp [jm_row])) ⟨by simp; exact hS.1, fun q z1 z2 => by
      rw [oq q (fun e => z2 (by rw [e]; exact Nat.le_add_right _ _))]
      exact hS.2.1 q z1 z2, fun q hq => by
      rcases List.mem_append.mp hq with h | h
      · exact hS.2.2 q h
      · obtain ⟨z, -, hz⟩ := List.mem_map.mp h
        rw [← hz]
        exact Nat.le_add_right _ _⟩ _ hheap X'
  exact ⟨t, step t a1, b1⟩
theorem jm_x_invokestatic {q : Nat × Nat × Int32} {i : Nat} : jm_Nx p l e R s m args below meth c y G Q n0 w0 (.invokestatic i, q) pc ls st h := by
  intro hA c2 hs0 hc hR k H locs arr hH1 hl1 hS
  have hH : jm_HP G h H := hH1
  have hl : jm_hasL G (jm_max y) ls arr := hl1
  clear hH1 hl1
  have hA2 := hA
  obtain ⟨hx, hb, hml, hown, hts, hK, hB, hnm⟩ := hA
  have hd := jm_chk_op hc rfl
  have hs : jm_cal q.1 pc ls st h = some (.inl c2) := hs0
  cases hee : jm_cs[q.1]? with
  | none => unfold jm_cal at hs; rw [hee] at hs; cases hs
  | some ee =>
    have hck : (match (generalizing := false) jm_cs[q.1]? with | some e => decide (e.2.1 = (jm_mcl y, i)) && (decide (e.1 ≤ 1) || decide (e.1 = 10) || decide (e.1 = 11) || decide (e.1 = 12)) | none => false) = true := (jm_chk_dec hc).2
    rw [hee] at hck
    simp only [Bool.and_eq_true, Bool.or_eq_true, decide_eq_true_eq] at hck
    obtain ⟨hw, hk⟩ := hck
    have hsite : jm_Site y (.invokestatic i, q) i ee := jm_cs_ok hee hw
    obtain ⟨ho, hi⟩ := jm_site_own hsite
    have hok := hsite.2.2
    unfold jm_cal at hs
    rw [hee] at hs
    dsimp only at hs
    have hcatm := jm_cat_map (G := G) hK.2.2.2.2.2.2.2.2.2.2.2.2.2.1
    rcases hk with ((hk | hk) | hk) | hk
    · rw [if_pos hk] at hs
      split at hs <;> cases hs
    · rw [if_neg (by omega), if_pos hk] at hs
      have hok2 : (jm_cw ee 0 (.methodLink (jm_cow ee) ee.2.1.2 arraycopyName) && jm_cw ee 1 (.native arraycopyName) && jm_cw ee 2 (.static arraycopyName) && jm_cw ee 3 (.initialized "java/lang/System")) = true := by
        unfold jm_cok at hok
        rw [hk] at hok
        exact hok
      simp only [Bool.and_eq_true] at hok2
      obtain ⟨⟨⟨e3, e4⟩, e5⟩, e6⟩ := hok2
      rw [ho, hi] at e3
      split at hs
      next _ n dp b sp a r =>
        cases ha : jm_isR h a 13 with
        | none => rw [ha] at hs; cases hs
        | some na =>
          cases hb2 : jm_isR h b 13 with
          | none => rw [ha, hb2] at hs; cases hs
          | some nb =>
            rw [ha, hb2] at hs
            dsimp only at hs
            split at hs
            next g =>
              cases hs
              exact jm_copy_row hA2 (jm_hasAt_in e3) (jm_hasAt_in e4) (jm_hasAt_in e5) (jm_hasAt_in e6) (jm_isR_at ha) (jm_isR_at hb2) g hR.2.2.2.2.2.1 hR.2.2.2.2.2.2 hH hl hS hd (fun H1 locs1 z1 z2 => k H1 locs1 arr z1 hl z2)
            next => cases hs
      next => cases hs
    · rw [if_neg (by omega), if_neg (by omega), if_pos hk] at hs
      have hok2 : (jm_cw ee 0 (.methodLink (jm_cow ee) ee.2.1.2 Lib.Math.max.name) && jm_cw ee 1 (.static Lib.Math.max.name) && jm_cw ee 2 (.initialized "java/lang/Math") && jm_cw ee 3 (.code Lib.Math.max.name Lib.Math.max.code 2 (some .int))) = true := by
        unfold jm_cok at hok
        rw [hk] at hok
        exact hok
      simp only [Bool.and_eq_true] at hok2
      obtain ⟨⟨⟨e3, e4⟩, e5⟩, e6⟩ := hok2
      rw [ho, hi] at e3
      split at hs
      next _ b a r =>
        split at hs
        next g =>
          cases hs
          refine va_mmax hx hb (hml.trans hl.1.symm) hown (hts _ (jm_hasAt_in e3)) (hts _ (jm_hasAt_in e4)) (hts _ (jm_hasAt_in e5)) (hts _ (jm_hasAt_in e6)) hR.2.2.2.2.2.1 ?_ hR.2.2.1 hR.2.2.2.1 hd (k H locs arr hH hl hS)
          rw [hcatm]
          have := hR.2.2.2.2.2.2
          omega
        next => cases hs
      next => cases hs
    · rw [if_neg (by omega), if_neg (by omega), if_neg (by omega), if_pos hk] at hs
      have hok2 : (jm_cw ee 0 (.methodLink (jm_cow ee) ee.2.1.2 Lib.Math.min.name) && jm_cw ee 1 (.static Lib.Math.min.name) && jm_cw ee 2 (.initialized "java/lang/Math") && jm_cw ee 3 (.code Lib.Math.min.name Lib.Math.min.code 2 (some .int))) = true := by
        unfold jm_cok at hok
        rw [hk] at hok
        exact hok
      simp only [Bool.and_eq_true] at hok2
      obtain ⟨⟨⟨e3, e4⟩, e5⟩, e6⟩ := hok2
      rw [ho, hi] at e3
      split at hs
      next _ b a r =>
        split at hs
        next g =>
          cases hs
          refine va_mmin hx hb (hml.trans hl.1.symm) hown (hts _ (jm_hasAt_in e3)) (hts _ (jm_hasAt_in e4)) (hts _ (jm_hasAt_in e5)) (hts _ (jm_hasAt_in e6)) hR.2.2.2.2.2.1 ?_ hR.2.2.1 hR.2.2.2.1 hd (k H locs arr hH hl hS)
          rw [hcatm]
          have := hR.2.2.2.2.2.2
          omega
        next => cases hs
      next => cases hs
end JM7
