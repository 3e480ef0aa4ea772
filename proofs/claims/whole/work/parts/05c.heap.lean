/-! ONE STEP: instructions that read or write the heap -/
theorem jm_up_ne {I : Nat → Nat → Int32} {a k b : Nat} {v : Int32} (h : b ≠ a) : jm_up I a k v b = I b := by
  funext j
  simp [jm_up, h]
theorem jm_ur_ne {T : Nat → Nat → Option Nat} {a k b : Nat} {v : Option Nat} (h : b ≠ a) : jm_ur T a k v b = T b := by
  funext j
  simp [jm_ur, h]
theorem jm_row_ne {I : Nat → Nat → Int32} {a b : Nat} {f : Nat → Int32} (h : b ≠ a) : jm_row I a f b = I b := by simp [jm_row, h]
theorem jm_rr_ne {T : Nat → Nat → Option Nat} {a b : Nat} {f : Nat → Option Nat} (h : b ≠ a) : jm_rr T a f b = T b := by simp [jm_rr, h]
theorem jm_en_congr {G : jm_G} {h h2 : jm_H} {b : Nat} (h1 : h2.1 b = h.1 b) (h3 : h2.2.1 b = h.2.1 b) (q : Nat × Nat) : jm_en G h2 b q = jm_en G h b q := by
  simp only [jm_en, jm_fs, h1, h3]
theorem jm_HP.set {G : jm_G} {h h2 : jm_H} {H H1 : Heap} {a : Nat} {q : Nat × Nat} {e : va_E} (hH : jm_HP G h H) (ha : h.2.2[a]? = some q) (hM : h2.2.2 = h.2.2) (he : jm_en G h2 a q = e) (hb1 : ∀ b, b ≠ a → h2.1 b = h.1 b) (hb2 : ∀ b, b ≠ a → h2.2.1 b = h.2.1 b)
    (z : H1.size = H.size) (oq : ∀ x : Nat, x ≠ jm_gB G + a → H1[x]? = H[x]?) (hat : va_at (jm_gD G) jm_cl (jm_gB G + a, e) H1) : jm_HP G h2 H1 := by
  obtain ⟨g1, g2, g3, g4, g5, g6⟩ := hH
  have hl : a < h.2.2.length := (List.getElem?_eq_some_iff.mp ha).1
  refine ⟨by rw [z, hM]; exact g1, by rw [hM]; exact g2, ?_, by rw [hM]; exact g4, fun i hi => ?_, ?_⟩
  · rw [← jm_ws_set (h2 := h2) ha hM he (fun b hb q => jm_en_congr (hb1 b hb) (hb2 b hb) q)]
    exact g3.set (jm_ws_D G h) (jm_ws_get ha) hat oq
  · rw [hb1 jm_SCR (by simp only [jm_SCR]; omega)]; exact g5 i hi
  · rw [hb1 jm_SCL (by simp only [jm_SCL]; omega)]; exact g6
theorem jm_isA_at {h : jm_H} {a : Nat} {cs : List Nat} (hi : jm_isA h a cs = true) : ∃ q, h.2.2[a]? = some q ∧ cs.contains q.1 = true := by
  unfold jm_isA at hi
  split at hi
  next q hq => exact ⟨q, hq, hi⟩
  next => cases hi
theorem jm_isR_at {h : jm_H} {a k n : Nat} (hi : jm_isR h a k = some n) : h.2.2[a]? = some (k, n) := by
  unfold jm_isR at hi
  split at hi
  next q hq =>
    split at hi
    next hk => cases hi; rw [hq, ← hk]
    next => cases hi
  next => cases hi
theorem jm_ft_ok {f : Nat} {e : jm_fe} (h : jm_ft[f]? = some e) : jm_fok e = true := List.all_eq_true.mp jm_kf e (List.mem_of_getElem? h)
theorem jm_cl_ok {i : Nat} {r : vw_C} (h : jm_cl[i]? = some r) : jm_kok i r = true := by
  have := List.all_eq_true.mp jm_kk (r, i) (List.mem_zipIdx_iff_getElem?.mpr h)
  exact this
theorem jm_cl_use {i : Nat} {r : vw_C} (h : jm_cl[i]? = some r) : (∀ w ∈ u_ws r.1 r.2.1 r.2.2, w ∈ jm_Ts) ∧ (jm_fk.getD i []).length = r.2.2 ∧ jm_cn.getD i "" = r.1 ∧ (∀ k, k < r.2.2 → parseFieldDescriptor (r.2.1 k).2.2.1 = some (jm_tyf r.2.1 k)) ∧ (∀ a, a < r.2.2 → ∀ b, b < r.2.2 → a ≠ b → (r.2.1 a).2.1 ≠ (r.2.1 b).2.1) ∧ (∀ k, k < r.2.2 → if (jm_fk.getD i []).getD k 0 = 2 then jm_isRefT (r.2.1 k).2.2.1 = true else ((r.2.1 k).2.2.1 = "I" ∨ (r.2.1 k).2.2.1 = "Z")) ∧ Cond.instantiable r.1 r.2.2 ∈ jm_Ts ∧ Cond.initialized r.1 ∈ jm_Ts := by
  have hk := jm_cl_ok h
  simp only [jm_kok, Bool.and_eq_true, decide_eq_true_eq] at hk
  obtain ⟨⟨⟨⟨⟨⟨h1, h1b⟩, h2⟩, h3⟩, h4⟩, h5⟩, h6⟩ := hk
  have h6 := List.all_eq_true.mp h6
  have k6 : ∀ k, k < r.2.2 → _ := fun k hk => h6 k (List.mem_range.mpr hk)
  simp only [Bool.and_eq_true, decide_eq_true_eq] at k6
  refine ⟨fun w hw => ?_, h4, h5, fun k hk => (k6 k hk).1.1, fun a ha b hb hab => ?_, fun k hk => ?_, jm_hasAt_in h2, jm_hasAt_in h3⟩
  · obtain ⟨j, hj⟩ := List.getElem?_of_mem hw
    have hlen : (u_ws r.1 r.2.1 r.2.2).length = r.2.2 := by simp [u_ws]
    have hjl : j < r.2.2 := by rw [← hlen]; exact (List.getElem?_eq_some_iff.mp hj).1
    have h8 : ∃ x, (jm_kw.getD i ([], 0, 0)).1[j]? = some x := ⟨_, List.getElem?_eq_getElem (by omega)⟩
    obtain ⟨x, hx⟩ := h8
    have h9 : (w, x) ∈ (u_ws r.1 r.2.1 r.2.2).zip (jm_kw.getD i ([], 0, 0)).1 := List.mem_of_getElem? (i := j) (by rw [List.getElem?_zip_eq_some]; exact ⟨hj, hx⟩)
    exact jm_hasAt_in (List.all_eq_true.mp h1 _ h9)
  · have := List.all_eq_true.mp (k6 a ha).2 b (List.mem_range.mpr hb)
    simp only [Bool.or_eq_true, decide_eq_true_eq] at this
    rcases this with q | q
    · exact absurd q hab
    · exact q
  · have := (k6 k hk).1.2
    split at this
    next hq => rw [if_pos hq]; exact this
    next hq => rw [if_neg hq]; simpa [Bool.or_eq_true, decide_eq_true_eq] using this
/-- what an entry of the fields says of an object's kind -/
theorem jm_fld {f : Nat} {e : jm_fe} (h : jm_ft[f]? = some e) (h3 : e.2.2.1 ≠ 3) (h4 : e.2.2.1 ≠ 4) {ci : Nat} (hci : e.2.2.2.1.contains ci = true) : ci < 13 ∧ ∃ r, jm_cl[ci]? = some r ∧ e.2.1 < r.2.2 ∧ (r.2.1 e.2.1).2.1 = jm_fnm e ∧ (r.2.1 e.2.1).2.2.1 = jm_fds e ∧ (jm_fk.getD ci []).getD e.2.1 0 = e.2.2.1 ∧ ((r.2.1 e.2.1).1 = jm_fref e ∨ Cond.sameField (jm_fref e) (r.2.1 e.2.1).1 (jm_fnm e) (jm_fds e) ∈ jm_Ts) := by
  have hk := jm_ft_ok h
  simp only [jm_fok, Bool.and_eq_true] at hk
  have hk := hk.2
  rw [if_neg h3, if_neg h4] at hk
  simp only [Bool.and_eq_true] at hk
  have hm : ci ∈ e.2.2.2.1 := by simpa using hci
  have := List.all_eq_true.mp hk.2 ci hm
  simp only [Bool.and_eq_true, decide_eq_true_eq] at this
  refine ⟨this.1, ?_⟩
  have h5 := this.2
  split at h5
  next r hr =>
    simp only [Bool.and_eq_true, decide_eq_true_eq, Bool.or_eq_true] at h5
    obtain ⟨⟨⟨⟨a1, a2⟩, a3⟩, a4⟩, a5⟩ := h5
    exact ⟨r, hr, a1, a2, a3, a4, a5.imp id fun z => jm_hasAt_in z⟩
  next => cases h5
theorem jm_fld_link {f : Nat} {e : jm_fe} (h : jm_ft[f]? = some e) : Cond.fieldLink (jm_cn.getD e.1.1 "") e.1.2 (jm_fref e) (jm_fnm e) (jm_fds e) ∈ jm_Ts := by
  have hk := jm_ft_ok h
  simp only [jm_fok, Bool.and_eq_true] at hk
  exact jm_hasAt_in hk.1
theorem jm_fld_kind {f : Nat} {e : jm_fe} (h : jm_ft[f]? = some e) : (e.2.2.1 = 3 → (jm_fref e, jm_fnm e, jm_fds e) = ("java/lang/String", "value", "[B")) ∧ (e.2.2.1 = 4 → (jm_fref e, jm_fnm e, jm_fds e) = ("java/lang/String", "coder", "B")) ∧ (e.2.2.1 = 0 → jm_fds e = "I") ∧ (e.2.2.1 = 1 → jm_fds e = "Z") ∧ (e.2.2.1 = 2 → jm_isRefT (jm_fds e) = true) := by
  have hk := jm_ft_ok h
  simp only [jm_fok, Bool.and_eq_true] at hk
  have hk := hk.2
  refine ⟨fun q => ?_, fun q => ?_, fun q => ?_, fun q => ?_, fun q => ?_⟩
  · rw [if_pos q] at hk; exact of_decide_eq_true hk
  · rw [if_neg (by omega), if_pos q] at hk; exact of_decide_eq_true hk
  · rw [if_neg (by omega), if_neg (by omega), if_pos q] at hk; simp only [Bool.and_eq_true] at hk; exact of_decide_eq_true hk.1
  · rw [if_neg (by omega), if_neg (by omega), if_neg (by omega), if_pos q] at hk; simp only [Bool.and_eq_true] at hk; exact of_decide_eq_true hk.1
  · rw [if_neg (by omega), if_neg (by omega), if_neg (by omega), if_neg (by omega)] at hk; simp only [Bool.and_eq_true] at hk; exact hk.1.2
/-- a reference is null or not: it fits, and isn't narrowed -/
theorem jm_ref_fits {d : String} {ty : FieldType} (hr : jm_isRefT d = true) (hd : parseFieldDescriptor d = some ty) (a : Nat) : narrow ty (.ref a) = .ref a ∧ fits ty (.ref a) = true := by
  unfold jm_isRefT at hr
  rw [hd] at hr
  cases ty <;> first | exact ⟨rfl, rfl⟩ | (cases hr)
theorem jm_null_fits {d : String} {ty : FieldType} (hr : jm_isRefT d = true) (hd : parseFieldDescriptor d = some ty) : defaultValue ty = .null := by
  unfold jm_isRefT at hr
  rw [hd] at hr
  cases ty <;> first | rfl | (cases hr)
section JM2
variable {p : Program} {l : Launch} {e : Env} {R : Room} {s : State} {m : MethodId} {args : Array Value} {below : List Frame} {meth : Method} {c : Code} {y : Nat} {G : jm_G} {Q : State → Prop} {n0 w0 : Nat} {pc : Nat} {ls : jm_L} {st : List Value} {h : jm_H}
theorem jm_x_getfield {q : Nat × Nat × Int32} {n : Nat} : jm_Nx p l e R s m args below meth c y G Q n0 w0 (.getfield n, q) pc ls st h := by
  intro hA c2 hs0 hc _ k H locs arr hH hl hS
  obtain ⟨hx, hb, hml, hown, hts, hK, hB, hnm⟩ := hA
  have hd := jm_chk_op hc rfl
  have hk := (jm_chk_dec hc).2
  have hs : jm_gf q.1 pc ls st h = some (.inl c2) := hs0
  have hk : (match (generalizing := false) jm_ft[q.1]? with | some e => decide (e.1 = (jm_mcl y, n)) | none => false) = true := hk
  unfold jm_gf at hs
  split at hs
  next _ a r =>
    cases hf : jm_ft[q.1]? with
    | none => rw [hf] at hs; cases hs
    | some ee =>
      rw [hf] at hs hk
      have he : ee.1 = (jm_mcl y, n) := of_decide_eq_true hk
      have hlk := jm_fld_link hf
      rw [he] at hlk
      have hlk := hts _ hlk
      dsimp only at hs
      obtain ⟨k3, k4, -⟩ := jm_fld_kind hf
      by_cases h3 : ee.2.2.1 = 3
      · rw [if_pos h3] at hs
        split at hs
        next ha =>
          cases hs
          have e3 := k3 h3
          simp only [Prod.mk.injEq] at e3
          obtain ⟨z1, z2, z3⟩ := e3
          rw [z1, z2, z3] at hlk
          have hv := (hK.2.2.2.2.2.2.2.2.2.1.1 (a - jm_STR) ha.2).2.2.1
          have k2 := k H locs arr hH hl hS
          have ea : a = a - jm_STR + jm_STR := (Nat.sub_add_cancel ha.1).symm
          have w1 : W p l e R s m args below meth c H locs (h.2.2.length - n0) (jm_wt h - w0) Q (F0 m (pc + 3) arr (.ref (jm_cr G (a - jm_STR + jm_STB)) :: r.map (jm_cv G))) := k2
          rw [jm_cr_stb] at w1
          show W p l e R s m args below meth c H locs _ _ Q (F0 m pc arr (.ref (jm_cr G a) :: r.map (jm_cv G)))
          rw [ea, jm_cr_str ha.2]
          exact vk_getf hx hb hv hS hown hlk (fun x hx => hx) hd w1
        next => cases hs
      · rw [if_neg h3] at hs
        by_cases h4 : ee.2.2.1 = 4
        · rw [if_pos h4] at hs
          split at hs
          next ha =>
            cases hs
            have e3 := k4 h4
            simp only [Prod.mk.injEq] at e3
            obtain ⟨z1, z2, z3⟩ := e3
            rw [z1, z2, z3] at hlk
            have hv := (hK.2.2.2.2.2.2.2.2.2.1.1 (a - jm_STR) ha.2).2.1
            have w1 := k H locs arr hH hl hS
            have ea : a = a - jm_STR + jm_STR := (Nat.sub_add_cancel ha.1).symm
            show W p l e R s m args below meth c H locs _ _ Q (F0 m pc arr (.ref (jm_cr G a) :: r.map (jm_cv G)))
            rw [ea, jm_cr_str ha.2]
            exact vk_getf hx hb hv hS hown hlk (fun x hx => hx) hd w1
          next => cases hs
        · rw [if_neg h4] at hs
          split at hs
          next hi =>
            cases hs
            obtain ⟨qq, hq, hqc⟩ := jm_isA_at hi
            obtain ⟨hci, rr, hr, a1, a2, a3, a4, a5⟩ := jm_fld hf h3 h4 hqc
            obtain ⟨u1, u2, -⟩ := jm_cl_use hr
            have hal : a < h.2.2.length := (List.getElem?_eq_some_iff.mp hq).1
            have hlt : h.2.2.length < 900000 := hH.2.1
            have w1 := k H locs arr hH hl hS
            have hg := jm_ws_get (G := G) hq
            have e1 : jm_en G h a qq = .inr (qq.1, jm_fs G h a qq.1) := by simp only [jm_en, if_pos hci]
            rw [e1] at hg
            show W p l e R s m args below meth c H locs _ _ Q (F0 m pc arr (.ref (jm_cr G a) :: r.map (jm_cv G)))
            rw [jm_cr_lt (a := a) (Nat.lt_trans hal hlt)]
            refine va_get (C := rr.1) (T := rr.2.1) (N := rr.2.2) (ref := jm_fref ee) hx hb hts u1 hown hK.1 hH.2.2.1 a hg hr ee.2.1 a1 (by rw [a2, a3]; exact hlk) (fun x hx => ?_) (jm_fs_get (by rw [u2]; exact a1)) hd ?_
            · rw [a2, a3] at hx ⊢
              rcases a5 with a5 | a5
              · rw [← a5]; exact hx
              · exact u_same (hts _ a5) x hx
            · rw [a4]
              have e2 : (if ee.2.2.1 = 2 then va_rf ((h.2.1 a ee.2.1).map (jm_cr G)) else Value.int (h.1 a ee.2.1)) = jm_cv G (if ee.2.2.1 = 2 then va_rf (h.2.1 a ee.2.1) else .int (h.1 a ee.2.1)) := by
                split
                · exact jm_cv_rf G _
                · rfl
              rw [e2]
              exact w1
          next => cases hs
  next => cases hs
theorem jm_x_getstatic {q : Nat × Nat × Int32} {n : Nat} : jm_Nx p l e R s m args below meth c y G Q n0 w0 (.getstatic n, q) pc ls st h := by
  intro hA c2 hs0 hc _ k H locs arr hH hl hS
  obtain ⟨hx, hb, hml, hown, hts, hK, hB, hnm⟩ := hA
  have hd := jm_chk_op hc rfl
  have hk := (jm_chk_dec hc).2
  have hs : (if q.1 = 0 then jm_nx (pc + 3) ls (.int 1 :: st) h else jm_nx (pc + 3) ls (.retAddr 0 :: st) h) = some (.inl c2) := hs0
  have hk : (decide (jm_own y = "java/lang/String") && (if q.1 = 0 then jm_hasAt q.2.1 (.fieldLink "java/lang/String" n "java/lang/String" "COMPACT_STRINGS" "Z") else jm_hasAt q.2.1 (.fieldLink "java/lang/String" n "jdk/internal/util/Preconditions" "SIOOBE_FORMATTER" "Ljava/util/function/BiFunction;"))) = true := hk
  simp only [Bool.and_eq_true, decide_eq_true_eq] at hk
  obtain ⟨ho, hk⟩ := hk
  rw [ho] at hown
  by_cases hq : q.1 = 0
  · rw [if_pos hq] at hs hk
    cases hs
    exact va_gets hx hb hK.2.2.2.2.2.2.2.2.2.2.2.1 hS hown (hts _ (jm_hasAt_in hk)) (fun x h => h) hd (k H locs arr hH hl hS)
  · rw [if_neg hq] at hs hk
    cases hs
    exact va_gets hx hb hK.2.2.2.2.2.2.2.2.2.2.2.2.1 hS hown (hts _ (jm_hasAt_in hk)) (fun x h => h) hd (k H locs arr hH hl hS)
/-- what is behind a field's store -/
theorem jm_put_row {q : Nat × Nat × Int32} {n : Nat} {ee : jm_fe} {a : Nat} {v : Value} {r : List Value} {h2 : jm_H} (hA : jm_At p s m args meth c y G) (hc : jm_chk y pc (.putfield n, q) = true) (hf : jm_ft[q.1]? = some ee) (hi : jm_isA h a ee.2.2.2.1 = true) (h3 : ee.2.2.1 < 3)
    {H : Heap} {locs : List Loc} {arr : Array Slot} (hH : jm_HP G h H) (hS : va_S (jm_A G) s.heap H locs) (hM : h2.2.2 = h.2.2) (hb1 : ∀ b, b ≠ a → h2.1 b = h.1 b) (hb2 : ∀ b, b ≠ a → h2.2.1 b = h.2.1 b)
    (hfit : ∀ ty, parseFieldDescriptor (jm_fds ee) = some ty → narrow ty v = v ∧ fits ty v = true) (hfs : ∀ ci, (jm_fk.getD ci []).getD ee.2.1 0 = ee.2.2.1 → jm_fs G h2 a ci = (jm_fs G h a ci).set ee.2.1 v) {cells slots : Nat}
    (kk : ∀ (H1 : Heap) (locs1 : List Loc), jm_HP G h2 H1 → va_S (jm_A G) s.heap H1 locs1 → W p l e R s m args below meth c H1 locs1 cells slots Q (F0 m (pc + 3) arr r)) : W p l e R s m args below meth c H locs cells slots Q (F0 m pc arr (v :: .ref (jm_cr G a) :: r)) := by
  obtain ⟨hx, hb, hml, hown, hts, hK, hB, hnm⟩ := hA
  have hd := jm_chk_op hc rfl
  have hk := (jm_chk_dec hc).2
  have hk : (match (generalizing := false) jm_ft[q.1]? with | some e => decide (e.1 = (jm_mcl y, n)) && decide (e.2.2.1 < 3) && e.2.2.2.1.all (fun ci => match (generalizing := false) jm_cl[ci]? with | some r => !(r.2.1 e.2.1).2.2.2 || (decide ((jm_name y).name = "<init>") && decide ((r.2.1 e.2.1).1 = jm_own y)) | none => false) | none => false) = true := hk
  rw [hf] at hk
  simp only [Bool.and_eq_true, decide_eq_true_eq] at hk
  obtain ⟨⟨he, -⟩, hall⟩ := hk
  have hlk := jm_fld_link hf
  rw [he] at hlk
  have hlk := hts _ hlk
  obtain ⟨qq, hq, hqc⟩ := jm_isA_at hi
  obtain ⟨hci, rr, hr, a1, a2, a3, a4, a5⟩ := jm_fld hf (by omega) (by omega) hqc
  obtain ⟨u1, u2, u3, u4, u5, u6, -⟩ := jm_cl_use hr
  have hal : a < h.2.2.length := (List.getElem?_eq_some_iff.mp hq).1
  have hlt : h.2.2.length < 900000 := hH.2.1
  have hg := jm_ws_get (G := G) hq
  have e1 : jm_en G h a qq = .inr (qq.1, jm_fs G h a qq.1) := by simp only [jm_en, if_pos hci]
  rw [e1] at hg
  rw [jm_cr_lt (a := a) (Nat.lt_trans hal hlt)]
  have hfin := List.all_eq_true.mp hall qq.1 (by simpa using hqc)
  rw [hr] at hfin
  simp only [Bool.or_eq_true, Bool.not_eq_true', Bool.and_eq_true, decide_eq_true_eq] at hfin
  have hap := va_apart (own := jm_own y) hts u1 (jm_tyf rr.2.1) u4 u5 hK.1 hr
  obtain ⟨r2, h1, cell, q1, q2, q3, q4⟩ := hH.2.2.1 a _ hg
  have hr2 : r2 = rr := Option.some.inj (h1.symm.trans hr)
  subst hr2
  obtain ⟨hSl, hfc, kC, hkC, hkind⟩ := hK.1.1 qq.1 _ hr
  obtain ⟨cf, kf, fi, f, hif, hsl⟩ := hSl ee.2.1 a1
  have hty := u4 ee.2.1 a1
  have hsame : ∀ x, s.fieldFound? (r2.2.1 ee.2.1).1 (r2.2.1 ee.2.1).2.1 (r2.2.1 ee.2.1).2.2.1 = some x → s.fieldFound? (jm_fref ee) (r2.2.1 ee.2.1).2.1 (r2.2.1 ee.2.1).2.2.1 = some x := by
    intro x hx
    rw [a2, a3] at hx ⊢
    rcases a5 with a5 | a5
    · rw [← a5]; exact hx
    · exact u_same (hts _ a5) x hx
  have hlk2 : (Cond.fieldLink (jm_own y) n (jm_fref ee) (r2.2.1 ee.2.1).2.1 (r2.2.1 ee.2.1).2.2.1).before args s = true := by rw [a2, a3]; exact hlk
  obtain ⟨f1, f2⟩ := hfit _ (by rw [← a3]; exact hty)
  have hlay := hts _ (u1 _ (u_in_lay a1))
  unfold u_lay at hlay
  have hst := (u_facts hfc hkC (u_lays hts u1 a1) hif).1
  have fin : ∀ H' : Heap, H'[jm_gB G + a]? = some (cell.setSlot f.slot v) → H'.size = H.size → (∀ q, q ≠ jm_gB G + a → H'[q]? = H[q]?) → W p l e R s m args below meth c H' (locs ++ [⟨jm_gB G + a, f.slot⟩]) cells slots Q (F0 m (pc + 3) arr r) := by
    intro H' e1 e2 e3
    rw [hsl] at e1 ⊢
    refine kk H' _ (hH.set (h2 := h2) (e := .inr (qq.1, (jm_fs G h a qq.1).set ee.2.1 v)) hq hM ?_ hb1 hb2 e2 e3 ?_) (hS.put e2 e3 (Nat.le_add_right _ _))
    · simp only [jm_en, if_pos hci]
      rw [hfs _ a4]
    · exact ⟨_, hr, t_OB.to (V := updV (vp_V (jm_fs G h a qq.1)) ee.2.1 v) ⟨_, e1, q2, q3, t_set q4 hap a1 v⟩ (fun j _ => vp_updV_set (by rw [jm_fs_len, u2]; exact a1) v j)⟩
  rcases hfin with hfin | ⟨hfi, hfo⟩
  · rw [if_neg (by rw [hfin]; decide)] at hlay
    have h6 := u_store hfc hkC hkind hlay hif hty f1 f2
    exact W.putK hx hb (f := f) ⟨hown, hlk2, ⟨_, _, _, hsame _ hif⟩, hst⟩ (by rw [q2]; exact h6) q1 q3 (by rw [hsl]; exact k2_hasslot (q4 _ a1)) rfl rfl hd fin
  · by_cases hz : (r2.2.1 ee.2.1).2.2.2 = true
    · rw [if_pos hz] at hlay
      have hcf : m.cls = cf := by
        obtain ⟨_, _, c', _, _, _, -, -, hf', -, -, -, hown2, -⟩ := Cond.laysFinal_spec hlay
        have e1 : c' = cf := by have := hif.symm.trans hf'; simp at this; exact this.1.symm
        rw [hfo] at hown2
        rw [← e1]; exact Option.some.inj (hown.symm.trans hown2)
      have h6 := u_fits hfc hkC hkind (Or.inr hlay) hif hty f1 f2
      exact W.putFinK hx hb hown hlk2 (hsame _ hif) hst hcf (hnm hfi) (by rw [q2]; exact h6) q1 q3 (by rw [hsl]; exact k2_hasslot (q4 _ a1)) rfl rfl hd fin
    · rw [if_neg hz] at hlay
      have h6 := u_store hfc hkC hkind hlay hif hty f1 f2
      exact W.putK hx hb (f := f) ⟨hown, hlk2, ⟨_, _, _, hsame _ hif⟩, hst⟩ (by rw [q2]; exact h6) q1 q3 (by rw [hsl]; exact k2_hasslot (q4 _ a1)) rfl rfl hd fin
theorem jm_fs_upI {G : jm_G} {h : jm_H} {a ci k : Nat} {v : Int32} (hk : (jm_fk.getD ci []).getD k 0 ≠ 2) : jm_fs G (jm_up h.1 a k v, h.2.1, h.2.2) a ci = (jm_fs G h a ci).set k (.int v) := by
  apply List.ext_getElem?
  intro i
  by_cases hi : i < (jm_fk.getD ci []).length
  · rw [jm_fs_get hi]
    by_cases hik : i = k
    · subst hik
      rw [List.getElem?_set_self (by rw [jm_fs_len]; exact hi), if_neg hk]
      simp [jm_up]
    · rw [List.getElem?_set_ne (Ne.symm hik), jm_fs_get hi]
      simp [jm_up, hik]
  · rw [List.getElem?_eq_none (by rw [jm_fs_len]; omega), List.getElem?_eq_none (by rw [List.length_set, jm_fs_len]; omega)]
theorem jm_fs_upR {G : jm_G} {h : jm_H} {a ci k v : Nat} (hk : (jm_fk.getD ci []).getD k 0 = 2) : jm_fs G (h.1, jm_ur h.2.1 a k (some v), h.2.2) a ci = (jm_fs G h a ci).set k (.ref (jm_cr G v)) := by
  apply List.ext_getElem?
  intro i
  by_cases hi : i < (jm_fk.getD ci []).length
  · rw [jm_fs_get hi]
    by_cases hik : i = k
    · subst hik
      rw [List.getElem?_set_self (by rw [jm_fs_len]; exact hi), if_pos hk]
      simp [jm_ur, va_rf]
    · rw [List.getElem?_set_ne (Ne.symm hik), jm_fs_get hi]
      simp [jm_ur, hik]
  · rw [List.getElem?_eq_none (by rw [jm_fs_len]; omega), List.getElem?_eq_none (by rw [List.length_set, jm_fs_len]; omega)]
theorem jm_z01_of {v : Int32} (h : jm_z01 v = true) : v = 0 ∨ v = 1 := by
  unfold jm_z01 at h
  split at h
  next h0 => exact Or.inl h0
  next =>
    split at h
    next h1 => exact Or.inr h1
    next => cases h
theorem jm_x_putfield {q : Nat × Nat × Int32} {n : Nat} : jm_Nx p l e R s m args below meth c y G Q n0 w0 (.putfield n, q) pc ls st h := by
  intro hA c2 hs0 hc _ k H locs arr hH hl hS
  have hs : jm_pf q.1 pc ls st h = some (.inl c2) := hs0
  unfold jm_pf at hs
  cases hf : jm_ft[q.1]? with
  | none => rw [hf] at hs; cases hs
  | some ee =>
    rw [hf] at hs
    dsimp only at hs
    obtain ⟨-, -, k0, k1, k2⟩ := jm_fld_kind hf
    split at hs
    next _ v a r =>
      split at hs
      next hi =>
        split at hs
        next h0 =>
          cases hs
          refine jm_put_row (h2 := (jm_up h.1 a ee.2.1 v, h.2.1, h.2.2)) (v := .int v) hA hc hf hi (by omega) hH hS rfl (fun b hb => jm_up_ne hb) (fun b hb => rfl) (fun ty hty => ?_) (fun ci hci => jm_fs_upI (by omega)) (fun H1 locs1 g1 g2 => k H1 locs1 arr g1 hl g2)
          rw [k0 h0] at hty
          cases hty
          exact ⟨rfl, rfl⟩
        next =>
          split at hs
          next h1 =>
            split at hs
            next hz =>
              cases hs
              refine jm_put_row (h2 := (jm_up h.1 a ee.2.1 v, h.2.1, h.2.2)) (v := .int v) hA hc hf hi (by omega) hH hS rfl (fun b hb => jm_up_ne hb) (fun b hb => rfl) (fun ty hty => ?_) (fun ci hci => jm_fs_upI (by omega)) (fun H1 locs1 g1 g2 => k H1 locs1 arr g1 hl g2)
              rw [k1 h1] at hty
              cases hty
              rcases jm_z01_of hz with rfl | rfl <;> exact ⟨rfl, rfl⟩
            next => cases hs
          next => cases hs
      next => cases hs
    next _ v a r =>
      split at hs
      next hi =>
        split at hs
        next h2 =>
          cases hs
          exact jm_put_row (h2 := (h.1, jm_ur h.2.1 a ee.2.1 (some v), h.2.2)) (v := .ref (jm_cr G v)) hA hc hf hi (by omega) hH hS rfl (fun b hb => rfl) (fun b hb => jm_ur_ne hb) (fun ty hty => jm_ref_fits (k2 h2) hty _) (fun ci hci => jm_fs_upR (by omega)) (fun H1 locs1 g1 g2 => k H1 locs1 arr g1 hl g2)
        next => cases hs
      next => cases hs
    next => cases hs
end JM2
