/-! THE SMALL MACHINE AND THE REAL ONE: how its state stands for a heap -/
/-- numbers of the classes, their slots, of the rows; where the new cells begin; the script's cell, length, ints; String constants, their bytes; the formatter -/
abbrev jm_G : Type := ((Nat → ClassId) × (Nat → Nat → Nat) × (Nat → ClassId)) × Nat × (Nat × Nat × (Nat → Int32)) × (Nat → Nat) × (Nat → Nat) × Value
abbrev jm_gD (G : jm_G) : va_G := (G.1.1, G.1.2.1)
abbrev jm_gA (G : jm_G) : Nat → ClassId := G.1.2.2
abbrev jm_gB (G : jm_G) : Nat := G.2.1
abbrev jm_gb (G : jm_G) : Nat := G.2.2.1.1
abbrev jm_gL (G : jm_G) : Nat := G.2.2.1.2.1
abbrev jm_gX (G : jm_G) : Nat → Int32 := G.2.2.1.2.2
abbrev jm_gK (G : jm_G) : Nat → Nat := G.2.2.2.1
abbrev jm_gV (G : jm_G) : Nat → Nat := G.2.2.2.2.1
abbrev jm_gF (G : jm_G) : Value := G.2.2.2.2.2
/-- the cells that are the run's own -/
abbrev jm_A (G : jm_G) : Nat → Prop := fun q => jm_gB G ≤ q
def jm_cr (G : jm_G) (a : Nat) : Nat := if a < 900000 then jm_gB G + a else if a = jm_SCR then jm_gb G else if a < jm_STB then jm_gK G (a - jm_STR) else jm_gV G (a - jm_STB)
def jm_cv (G : jm_G) : Value → Value
  | .ref a => .ref (jm_cr G a)
  | .retAddr _ => jm_gF G
  | v => v
abbrev jm_cvs (G : jm_G) (st : List Value) : List Value := st.map (jm_cv G)
def jm_fs (G : jm_G) (h : jm_H) (a ci : Nat) : List Value := (List.range (jm_fk.getD ci []).length).map fun k => if (jm_fk.getD ci []).getD k 0 = 2 then va_rf ((h.2.1 a k).map (jm_cr G)) else .int (h.1 a k)
def jm_en (G : jm_G) (h : jm_H) (a : Nat) (q : Nat × Nat) : va_E :=
  if q.1 < 13 then .inr (q.1, jm_fs G h a q.1) else if q.1 = 13 then .inl (jm_gA G 13, q.2, .inl (h.1 a)) else .inl (jm_gA G q.1, q.2, .inr (.inr (.inr (.inr (fun i => (h.2.1 a i).map (jm_cr G))))))
def jm_ws (G : jm_G) (h : jm_H) : va_W := (List.range h.2.2.length).map fun a => (jm_gB G + a, jm_en G h a (h.2.2.getD a (0, 0)))
def jm_sz (q : Nat × Nat) : Nat := if q.1 < 13 then (jm_fk.getD q.1 []).length else q.2
def jm_wt (h : jm_H) : Nat := (h.2.2.map jm_sz).sum
def jm_HP (G : jm_G) (h : jm_H) (H : Heap) : Prop :=
  H.size = jm_gB G + h.2.2.length ∧ h.2.2.length < 900000 ∧ va_P (jm_gD G) jm_cl (jm_ws G h) H ∧ (∀ q ∈ h.2.2, q.1 < 17) ∧ (∀ i, i < jm_gL G → h.1 jm_SCR i = jm_gX G i) ∧ h.1 jm_SCL 0 = Int32.ofNat (jm_gL G)
theorem jm_ws_len (G : jm_G) (h : jm_H) : (jm_ws G h).length = h.2.2.length := by simp [jm_ws]
theorem jm_ws_get {G : jm_G} {h : jm_H} {a : Nat} {q : Nat × Nat} (ha : h.2.2[a]? = some q) : (jm_ws G h)[a]? = some (jm_gB G + a, jm_en G h a q) := by
  have hl : a < h.2.2.length := (List.getElem?_eq_some_iff.mp ha).1
  have e : h.2.2.getD a (0, 0) = q := by rw [List.getD_eq_getElem?_getD, ha]; rfl
  rw [jm_ws, List.getElem?_map, List.getElem?_range hl, Option.map_some, e]
theorem jm_ws_set {G : jm_G} {h h2 : jm_H} {a : Nat} {e : va_E} {q : Nat × Nat} (ha : h.2.2[a]? = some q) (hM : h2.2.2 = h.2.2) (he : jm_en G h2 a q = e) (hb : ∀ b, b ≠ a → ∀ q, jm_en G h2 b q = jm_en G h b q) : (jm_ws G h).set a (jm_gB G + a, e) = jm_ws G h2 := by
  apply List.ext_getElem?
  intro i
  have hl : a < h.2.2.length := (List.getElem?_eq_some_iff.mp ha).1
  by_cases hi : i = a
  · subst hi
    rw [List.getElem?_set_self (by rw [jm_ws_len]; exact hl), jm_ws_get (h := h2) (q := q) (by rw [hM]; exact ha), he]
  · rw [List.getElem?_set_ne (Ne.symm hi)]
    by_cases hil : i < h.2.2.length
    · have h1 : h.2.2[i]? = some h.2.2[i] := List.getElem?_eq_getElem hil
      rw [jm_ws_get h1, jm_ws_get (h := h2) (q := h.2.2[i]) (by rw [hM]; exact h1), hb i hi]
    · rw [List.getElem?_eq_none (by rw [jm_ws_len]; omega), List.getElem?_eq_none (by rw [jm_ws_len, hM]; omega)]
theorem jm_ws_push {G : jm_G} {h h2 : jm_H} {e : va_E} {q : Nat × Nat} (hM : h2.2.2 = h.2.2 ++ [q]) (he : jm_en G h2 h.2.2.length q = e) (hb : ∀ b, b < h.2.2.length → ∀ q, jm_en G h2 b q = jm_en G h b q) : jm_ws G h ++ [(jm_gB G + h.2.2.length, e)] = jm_ws G h2 := by
  apply List.ext_getElem?
  intro i
  by_cases hil : i < h.2.2.length
  · have h1 : h.2.2[i]? = some h.2.2[i] := List.getElem?_eq_getElem hil
    rw [List.getElem?_append_left (by rw [jm_ws_len]; exact hil), jm_ws_get h1, jm_ws_get (h := h2) (q := h.2.2[i]) (by rw [hM, List.getElem?_append_left hil]; exact h1), hb i hil]
  · rw [List.getElem?_append_right (by rw [jm_ws_len]; omega), jm_ws_len]
    by_cases hi : i = h.2.2.length
    · subst hi
      rw [Nat.sub_self, jm_ws_get (h := h2) (q := q) (by rw [hM, List.getElem?_append_right (Nat.le_refl _), Nat.sub_self]; rfl), he]
      rfl
    · rw [List.getElem?_eq_none (by simp; omega), List.getElem?_eq_none (by rw [jm_ws_len, hM]; simp; omega)]
theorem jm_ws_at {G : jm_G} {h : jm_H} {i : Nat} {q : Nat × va_E} (hq : (jm_ws G h)[i]? = some q) : q.1 = jm_gB G + i := by
  have hl : i < h.2.2.length := by
    have := (List.getElem?_eq_some_iff.mp hq).1
    rwa [jm_ws_len] at this
  rw [jm_ws_get (List.getElem?_eq_getElem hl)] at hq
  cases hq
  rfl
theorem jm_ws_D (G : jm_G) (h : jm_H) : va_D (jm_A G) (jm_ws G h) := by
  refine ⟨fun i j p q hi hj hpq => ?_, fun k q hk => ?_⟩
  · have := jm_ws_at hi
    have := jm_ws_at hj
    omega
  · have := jm_ws_at hk
    show jm_gB G ≤ q.1
    omega
theorem jm_cr_lt {G : jm_G} {a : Nat} (h : a < 900000) : jm_cr G a = jm_gB G + a := by simp [jm_cr, h]
theorem jm_cr_scr (G : jm_G) : jm_cr G jm_SCR = jm_gb G := by simp [jm_cr, jm_SCR]
theorem jm_cr_str {G : jm_G} {k : Nat} (hk : k < jm_sn) : jm_cr G (k + jm_STR) = jm_gK G k := by
  have h1 : jm_sn = 12 := rfl
  simp only [jm_cr, jm_SCR, jm_STR, jm_STB]
  rw [if_neg (by omega), if_neg (by omega), if_pos (by omega)]
  rw [Nat.add_sub_cancel]
theorem jm_cr_stb {G : jm_G} {k : Nat} : jm_cr G (k + jm_STB) = jm_gV G k := by
  simp only [jm_cr, jm_SCR, jm_STR, jm_STB]
  rw [if_neg (by omega), if_neg (by omega), if_neg (by omega)]
  rw [Nat.add_sub_cancel]
theorem jm_cv_rf (G : jm_G) (o : Option Nat) : va_rf (o.map (jm_cr G)) = jm_cv G (va_rf o) := by cases o <;> rfl
theorem jm_fs_len (G : jm_G) (h : jm_H) (a ci : Nat) : (jm_fs G h a ci).length = (jm_fk.getD ci []).length := by simp [jm_fs]
theorem jm_fs_get {G : jm_G} {h : jm_H} {a ci k : Nat} (hk : k < (jm_fk.getD ci []).length) : (jm_fs G h a ci)[k]? = some (if (jm_fk.getD ci []).getD k 0 = 2 then va_rf ((h.2.1 a k).map (jm_cr G)) else .int (h.1 a k)) := by
  rw [jm_fs, List.getElem?_map, List.getElem?_range hk, Option.map_some]
/-- the slots of a frame -/
def jm_hasL (G : jm_G) (nL : Nat) (ls : jm_L) (arr : Array Slot) : Prop := arr.size = nL ∧ lv_wf arr ∧ ls.length = nL ∧ ∀ (i : Nat) (v : Value), ls[i]? = some (some v) → arr[i]? = some (.val (jm_cv G v))
def jm_lv (G : jm_G) (ls : jm_L) : List (Nat × Value) := (List.range ls.length).filterMap fun i => match ls[i]? with
  | some (some v) => some (i, jm_cv G v)
  | _ => none
theorem jm_lv_mem {G : jm_G} {ls : jm_L} {q : Nat × Value} : q ∈ jm_lv G ls ↔ ∃ v, ls[q.1]? = some (some v) ∧ q.2 = jm_cv G v := by
  obtain ⟨i, w⟩ := q
  simp only [jm_lv, List.mem_filterMap, List.mem_range]
  constructor
  · rintro ⟨j, hj, h⟩
    split at h
    next v hv => cases h; exact ⟨v, hv, rfl⟩
    next => cases h
  · rintro ⟨v, hv, rfl⟩
    exact ⟨i, (List.getElem?_eq_some_iff.mp hv).1, by simp [hv]⟩
theorem jm_hasL.lv {G : jm_G} {nL : Nat} {ls : jm_L} {arr : Array Slot} (h : jm_hasL G nL ls arr) : lv_has arr nL (jm_lv G ls) := by
  refine ⟨h.1, h.2.1, fun q hq => ?_⟩
  obtain ⟨v, h1, h2⟩ := jm_lv_mem.mp hq
  rw [h2]
  exact h.2.2.2 q.1 v h1
theorem jm_get_at {ls : jm_L} {i : Nat} {v : Value} (h : jm_get ls i = some v) : ls[i]? = some (some v) := by
  unfold jm_get at h
  split at h
  next w hw => cases h; exact hw
  next => cases h
theorem jm_hasL.get {G : jm_G} {nL : Nat} {ls : jm_L} {arr : Array Slot} (h : jm_hasL G nL ls arr) {i : Nat} {v : Value} (hg : jm_get ls i = some v) : arr[i]? = some (.val (jm_cv G v)) := h.2.2.2 i v (jm_get_at hg)
theorem jm_nl_some {x : Option Value} {v : Value} (h : jm_nl x = some v) : x = some v ∧ v.category ≠ 2 := by
  cases x with
  | none => cases h
  | some w => cases w <;> first | (cases h; exact ⟨rfl, by simp [Value.category]⟩) | (simp [jm_nl] at h)
theorem jm_cv_cat {G : jm_G} (hF : (jm_gF G).category = 1) (v : Value) : (jm_cv G v).category = v.category := by
  cases v <;> first | rfl | exact hF
theorem jm_set_get {ls : jm_L} {i j : Nat} {v w : Value} (hi : i < ls.length) (h : (jm_set ls i v)[j]? = some (some w)) : (j = i ∧ w = v) ∨ (j ≠ i ∧ ls[j]? = some (some w) ∧ ¬ (j + 1 = i ∧ w.category = 2)) := by
  cases i with
  | zero =>
    simp only [jm_set] at h
    by_cases hj : j = 0
    · subst hj
      rw [List.getElem?_set_self hi] at h
      cases h
      exact Or.inl ⟨rfl, rfl⟩
    · rw [List.getElem?_set_ne (Ne.symm hj)] at h
      exact Or.inr ⟨hj, h, fun q => by omega⟩
  | succ i =>
    simp only [jm_set] at h
    by_cases hj : j = i + 1
    · subst hj
      rw [List.getElem?_set_self (by simpa using hi)] at h
      cases h
      exact Or.inl ⟨rfl, rfl⟩
    · rw [List.getElem?_set_ne (Ne.symm hj), List.getElem?_modify] at h
      cases hl : ls[j]? with
      | none => rw [hl] at h; cases h
      | some x =>
        rw [hl] at h
        by_cases hji : i = j
        · simp only [Option.map_eq_map, Option.map_some, if_pos hji] at h
          obtain ⟨h1, h2⟩ := jm_nl_some (Option.some.inj h)
          subst h1
          exact Or.inr ⟨hj, rfl, fun q => h2 q.2⟩
        · simp only [Option.map_eq_map, Option.map_some, if_neg hji] at h
          exact Or.inr ⟨hj, h, fun q => by omega⟩
theorem jm_set_len (ls : jm_L) (i : Nat) (v : Value) : (jm_set ls i v).length = ls.length := by
  cases i <;> simp [jm_set]
theorem jm_set2_len (ls : jm_L) (i : Nat) (v : Value) : (jm_set2 ls i v).length = ls.length := by
  simp [jm_set2, jm_set_len]
theorem jm_hasL.set1 {G : jm_G} {nL i : Nat} {ls : jm_L} {arr : Array Slot} {v : Value} (hF : (jm_gF G).category = 1) (hi : i < ls.length) (hlen : ls.length = nL) (h : lv_has arr nL ((i, jm_cv G v) :: (jm_lv G ls).filter (fun q => !(q.1 == i) && !(q.1 + 1 == i && q.2.category == 2)))) : jm_hasL G nL (jm_set ls i v) arr := by
  refine ⟨h.1, h.2.1, by rw [jm_set_len]; exact hlen, fun j w hj => ?_⟩
  rcases jm_set_get hi hj with ⟨rfl, rfl⟩ | ⟨h1, h2, h3⟩
  · exact h.2.2 _ List.mem_cons_self
  · refine h.2.2 (j, jm_cv G w) (List.mem_cons_of_mem _ (List.mem_filter.mpr ⟨jm_lv_mem.mpr ⟨w, h2, rfl⟩, ?_⟩))
    rw [jm_cv_cat hF]
    simp only [Bool.and_eq_true, Bool.not_eq_true', beq_eq_false_iff_ne, ne_eq, Bool.and_eq_false_iff]
    refine ⟨h1, ?_⟩
    by_cases q : j + 1 = i
    · exact Or.inr fun z => h3 ⟨q, z⟩
    · exact Or.inl q
theorem jm_hasL.set2 {G : jm_G} {nL i : Nat} {ls : jm_L} {arr : Array Slot} {v : Value} (hF : (jm_gF G).category = 1) (hi : i + 1 < ls.length) (hlen : ls.length = nL) (h : lv_has arr nL ((i, jm_cv G v) :: (jm_lv G ls).filter (fun q => !(q.1 == i) && (!(q.1 == i + 1) && !(q.1 + 1 == i && q.2.category == 2))))) : jm_hasL G nL (jm_set2 ls i v) arr := by
  refine ⟨h.1, h.2.1, by rw [jm_set2_len]; exact hlen, fun j w hj => ?_⟩
  have hne : j ≠ i + 1 := by
    intro q
    subst q
    rw [jm_set2, List.getElem?_set_self (by rw [jm_set_len]; exact hi)] at hj
    cases hj
  rw [jm_set2, List.getElem?_set_ne (Ne.symm hne)] at hj
  rcases jm_set_get (by omega) hj with ⟨rfl, rfl⟩ | ⟨h1, h2, h3⟩
  · exact h.2.2 _ List.mem_cons_self
  · refine h.2.2 (j, jm_cv G w) (List.mem_cons_of_mem _ (List.mem_filter.mpr ⟨jm_lv_mem.mpr ⟨w, h2, rfl⟩, ?_⟩))
    rw [jm_cv_cat hF]
    simp only [Bool.and_eq_true, Bool.not_eq_true', beq_eq_false_iff_ne, ne_eq, Bool.and_eq_false_iff]
    refine ⟨h1, hne, ?_⟩
    by_cases q : j + 1 = i
    · exact Or.inr fun z => h3 ⟨q, z⟩
    · exact Or.inl q
/-! what the tables say of the machine, and stays -/
abbrev jm_tys (G : jm_G) : List (ClassId × FieldType) := [(jm_gA G 13, .int), (jm_gA G 14, .object "DoorOfLuck$Sheet"), (jm_gA G 15, .object "DoorOfLuck$Soul"), (jm_gA G 16, .object "DoorOfLuck$Text")]
/-- objects of the first class are not of the second: all pairs that instanceof may meet -/
def jm_nc (C T : String) : Prop := ∃ (i : Nat) (r : vw_C) (q : String × List Nat), jm_cl[i]? = some r ∧ r.1 = C ∧ q ∈ jm_ist ∧ q.1 = T ∧ q.2.contains i = false
def jm_KX (G : jm_G) (U : State) : Prop :=
  va_K (jm_gD G) jm_cl (jm_tys G) U ∧ va_AO "DoorOfLuck$Sheet" U ∧ va_AO "DoorOfLuck$Soul" U ∧ va_AO "DoorOfLuck$Text" U ∧ (∀ q ∈ jm_nest, va_Nw (.methodLinkNest q.1 q.2.1 q.2.2.1 q.2.2.2) U) ∧ (∀ q ∈ jm_cas, va_Nw (.castable q.1 q.2) U) ∧ (∀ C T, jm_nc C T → va_Nc C T U) ∧
  va_X (jm_gb G) (jm_gL G) (jm_gX G) U U.heap ∧ jm_gb G < jm_gB G ∧ vk_S jm_sn jm_slen jm_sbyt (jm_gK G) (jm_gV G) (jm_A G) U U.heap ∧ (∀ i, i < jm_sn → vk_R "DoorOfLuck$Tape" (jm_sow.getD i (0, "")).1 (jm_sow.getD i (0, "")).2 (jm_gK G i) U) ∧
  va_Z "java/lang/String" "COMPACT_STRINGS" "Z" (.int 1) (jm_A G) U U.heap ∧ va_Z "jdk/internal/util/Preconditions" "SIOOBE_FORMATTER" "Ljava/util/function/BiFunction;" (jm_gF G) (jm_A G) U U.heap ∧ (jm_gF G).category = 1 ∧ jm_gL G < 2 ^ 31
theorem jm_KX.warm {G : jm_G} {s U : State} (h : jm_KX G s) (hW : s.WarmedH U.vm) (hB : jm_gB G ≤ s.heap.size) (hk : ∀ q : Nat, q < s.heap.size → ¬ jm_A G q → U.heap[q]? = s.heap[q]?) : jm_KX G U := by
  obtain ⟨h1, h2, h3, h4, h5, h6, h7, h8, h9, h10, h11, h12, h13, h14, h15⟩ := h
  have hv := hW.alike
  refine ⟨h1.moved hv, h2.moved hv, h3.moved hv, h4.moved hv, fun q hq => (h5 q hq).warmM hW, fun q hq => (h6 q hq).warmC hW, fun C T hq => (h7 C T hq).moved hv, (h8.moved hv).kept (hk _ (by omega) (by show ¬ jm_gB G ≤ jm_gb G; omega)), h9, (h10.moved hv).kept hk, fun i hi => (h11 i hi).warm hW, (h12.moved hv).kept hk, (h13.moved hv).kept hk, h14, h15⟩
theorem jm_KX.same {G : jm_G} {u U : State} (h : jm_KX G u) (hv : U.vm = u.vm) (hh : U.heap = u.heap) : jm_KX G U := by
  obtain ⟨h1, h2, h3, h4, h5, h6, h7, h8, h9, h10, h11, h12, h13, h14, h15⟩ := h
  have ha : u.vm.Alike U.vm := by rw [hv]; exact Vm.Alike.refl u.vm
  rw [← hh] at h8 h10 h12 h13
  exact ⟨h1.moved ha, h2.moved ha, h3.moved ha, h4.moved ha, fun q hq => va_Nw.same rfl hv.symm (h5 q hq), fun q hq => va_Nw.same rfl hv.symm (h6 q hq), fun C T hq => (h7 C T hq).moved ha, h8.moved ha, h9, h10.moved ha, fun i hi => (h11 i hi).same hv, h12.moved ha, h13.moved ha, h14, h15⟩
