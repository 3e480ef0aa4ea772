/-! THE START: what the Statement gives makes the small machine's empty heap stand for the real one's -/
def jm_flat : List Cond := flatC (Jvm.Cond.and given_1 narrow_1)
def jm_tm (i : Nat) : Term := Term.string "DoorOfLuck$Tape" (jm_sow.getD i (0, "")).1
theorem jm_f_nc : jm_cl.zipIdx.all (fun r => jm_ist.all fun q => q.2.contains r.2 || decide (Cond.not (.castable r.1.1 q.1) ∈ jm_flat)) = true := by decide +kernel
theorem jm_f_ex : ∀ i, i < jm_sn → Cond.exactly (jm_tm i) "java/lang/String" ∈ jm_flat := by decide +kernel
theorem jm_f_co : ∀ i, i < jm_sn → Cond.eq (.field (jm_tm i) "java/lang/String" "coder" "B") (.int 0) ∈ jm_flat := by decide +kernel
theorem jm_f_ar : ∀ i, i < jm_sn → Cond.arrayOf (.field (jm_tm i) "java/lang/String" "value" "[B") .byte ∈ jm_flat := by decide +kernel
theorem jm_f_le : ∀ i, i < jm_sn → Cond.eq (.length (.field (jm_tm i) "java/lang/String" "value" "[B")) (.int (Int32.ofNat (jm_slen.getD i 0))) ∈ jm_flat := by decide +kernel
theorem jm_f_el : ∀ i, i < jm_sn → ∀ j, j < jm_slen.getD i 0 → Cond.eq (.elem (.field (jm_tm i) "java/lang/String" "value" "[B") (.int (Int32.ofNat j))) (.int ((jm_sbyt.getD i []).getD j 0)) ∈ jm_flat := by decide +kernel
def jm_flatN : List Cond := jm_flat.filter fun c => match c with
  | .not (.eq _ _) => true
  | _ => false
theorem jm_f_ne0 : ∀ j, j < jm_sn → 0 < j → (Cond.not (Cond.eq (jm_tm 0) (jm_tm j)) ∈ jm_flatN ∨ Cond.not (Cond.eq (jm_tm j) (jm_tm 0)) ∈ jm_flatN) := by decide +kernel
theorem jm_f_ne1 : ∀ j, j < jm_sn → 1 < j → (Cond.not (Cond.eq (jm_tm 1) (jm_tm j)) ∈ jm_flatN ∨ Cond.not (Cond.eq (jm_tm j) (jm_tm 1)) ∈ jm_flatN) := by decide +kernel
theorem jm_f_ne2 : ∀ j, j < jm_sn → 2 < j → (Cond.not (Cond.eq (jm_tm 2) (jm_tm j)) ∈ jm_flatN ∨ Cond.not (Cond.eq (jm_tm j) (jm_tm 2)) ∈ jm_flatN) := by decide +kernel
theorem jm_f_ne3 : ∀ j, j < jm_sn → 3 < j → (Cond.not (Cond.eq (jm_tm 3) (jm_tm j)) ∈ jm_flatN ∨ Cond.not (Cond.eq (jm_tm j) (jm_tm 3)) ∈ jm_flatN) := by decide +kernel
theorem jm_f_ne4 : ∀ j, j < jm_sn → 4 < j → (Cond.not (Cond.eq (jm_tm 4) (jm_tm j)) ∈ jm_flatN ∨ Cond.not (Cond.eq (jm_tm j) (jm_tm 4)) ∈ jm_flatN) := by decide +kernel
theorem jm_f_ne5 : ∀ j, j < jm_sn → 5 < j → (Cond.not (Cond.eq (jm_tm 5) (jm_tm j)) ∈ jm_flatN ∨ Cond.not (Cond.eq (jm_tm j) (jm_tm 5)) ∈ jm_flatN) := by decide +kernel
theorem jm_f_ne6 : ∀ j, j < jm_sn → 6 < j → (Cond.not (Cond.eq (jm_tm 6) (jm_tm j)) ∈ jm_flatN ∨ Cond.not (Cond.eq (jm_tm j) (jm_tm 6)) ∈ jm_flatN) := by decide +kernel
theorem jm_f_ne7 : ∀ j, j < jm_sn → 7 < j → (Cond.not (Cond.eq (jm_tm 7) (jm_tm j)) ∈ jm_flatN ∨ Cond.not (Cond.eq (jm_tm j) (jm_tm 7)) ∈ jm_flatN) := by decide +kernel
theorem jm_f_ne8 : ∀ j, j < jm_sn → 8 < j → (Cond.not (Cond.eq (jm_tm 8) (jm_tm j)) ∈ jm_flatN ∨ Cond.not (Cond.eq (jm_tm j) (jm_tm 8)) ∈ jm_flatN) := by decide +kernel
theorem jm_f_ne9 : ∀ j, j < jm_sn → 9 < j → (Cond.not (Cond.eq (jm_tm 9) (jm_tm j)) ∈ jm_flatN ∨ Cond.not (Cond.eq (jm_tm j) (jm_tm 9)) ∈ jm_flatN) := by decide +kernel
theorem jm_f_ne10 : ∀ j, j < jm_sn → 10 < j → (Cond.not (Cond.eq (jm_tm 10) (jm_tm j)) ∈ jm_flatN ∨ Cond.not (Cond.eq (jm_tm j) (jm_tm 10)) ∈ jm_flatN) := by decide +kernel
theorem jm_f_ne11 : ∀ j, j < jm_sn → 11 < j → (Cond.not (Cond.eq (jm_tm 11) (jm_tm j)) ∈ jm_flatN ∨ Cond.not (Cond.eq (jm_tm j) (jm_tm 11)) ∈ jm_flatN) := by decide +kernel
theorem jm_f_nel : ∀ i, i < jm_sn → ∀ j, j < jm_sn → i < j → (Cond.not (Cond.eq (jm_tm i) (jm_tm j)) ∈ jm_flat ∨ Cond.not (Cond.eq (jm_tm j) (jm_tm i)) ∈ jm_flat) := by
  intro i hi j hj hij
  have key : ∀ w, w ∈ jm_flatN → w ∈ jm_flat := fun w h => (List.mem_filter.mp h).1
  match i, hi with
  | 0, _ => exact (jm_f_ne0 j hj hij).imp (key _) (key _)
  | 1, _ => exact (jm_f_ne1 j hj hij).imp (key _) (key _)
  | 2, _ => exact (jm_f_ne2 j hj hij).imp (key _) (key _)
  | 3, _ => exact (jm_f_ne3 j hj hij).imp (key _) (key _)
  | 4, _ => exact (jm_f_ne4 j hj hij).imp (key _) (key _)
  | 5, _ => exact (jm_f_ne5 j hj hij).imp (key _) (key _)
  | 6, _ => exact (jm_f_ne6 j hj hij).imp (key _) (key _)
  | 7, _ => exact (jm_f_ne7 j hj hij).imp (key _) (key _)
  | 8, _ => exact (jm_f_ne8 j hj hij).imp (key _) (key _)
  | 9, _ => exact (jm_f_ne9 j hj hij).imp (key _) (key _)
  | 10, _ => exact (jm_f_ne10 j hj hij).imp (key _) (key _)
  | 11, _ => exact (jm_f_ne11 j hj hij).imp (key _) (key _)
  | n + 12, h => exact absurd h (by have : jm_sn = 12 := rfl; omega)
theorem jm_f_ne : ∀ i, i < jm_sn → ∀ j, j < jm_sn → i ≠ j → (Cond.not (Cond.eq (jm_tm i) (jm_tm j)) ∈ jm_flat ∨ Cond.not (Cond.eq (jm_tm j) (jm_tm i)) ∈ jm_flat) := by
  intro i hi j hj hij
  rcases Nat.lt_or_ge i j with h | h
  · exact jm_f_nel i hi j hj h
  · exact (jm_f_nel j hj i hi (by omega)).symm
theorem jm_f_cs : Cond.eq (.static "java/lang/String" "COMPACT_STRINGS" "Z") (.int 1) ∈ jm_flat := by decide +kernel
theorem jm_f_fm : Cond.isRef (.static "jdk/internal/util/Preconditions" "SIOOBE_FORMATTER" "Ljava/util/function/BiFunction;") ∈ jm_flat := by decide +kernel
theorem jm_f_sr : ∀ i, i < jm_sn → Cond.stringRef "DoorOfLuck$Tape" (jm_sow.getD i (0, "")).1 (jm_sow.getD i (0, "")).2 ∈ lw_tbl := by decide +kernel
theorem jm_f_len : ∀ i, i < jm_sn → jm_slen.getD i 0 < 2 ^ 31 := by decide +kernel
theorem jm_t_ao : Cond.arrayOver (.object "DoorOfLuck$Sheet") ∈ lw_tbl ∧ Cond.arrayOver (.object "DoorOfLuck$Soul") ∈ lw_tbl ∧ Cond.arrayOver (.object "DoorOfLuck$Text") ∈ lw_tbl ∧ Cond.arrayClass .int ∈ lw_tbl := by decide +kernel
theorem jm_t_ne : ∀ q ∈ jm_nest, Cond.methodLinkNest q.1 q.2.1 q.2.2.1 q.2.2.2 ∈ lw_tbl := by decide +kernel
theorem jm_t_ca : ∀ q ∈ jm_cas, Cond.castable q.1 q.2 ∈ lw_tbl := by decide +kernel
theorem jm_t_st : Cond.laysStatic "java/lang/String" "COMPACT_STRINGS" "Z" ∈ lw_tbl ∧ Cond.initialized "java/lang/String" ∈ lw_tbl ∧ Cond.laysStatic "jdk/internal/util/Preconditions" "SIOOBE_FORMATTER" "Ljava/util/function/BiFunction;" ∈ lw_tbl ∧ Cond.initialized "jdk/internal/util/Preconditions" ∈ lw_tbl := by decide +kernel
/-- the heap with which the law begins: nothing made; the script beside it -/
def jm_h0 (L : Nat) (xs : Nat → Int32) : jm_H := (fun a k => if a = jm_SCR then xs k else if a = jm_SCL then Int32.ofNat L else 0, fun _ _ => none, [])
theorem jm_start {p : Program} {s : State} {m : MethodId} {meth : Method} {c : Code} {b L : Nat} {xs : Nat → Int32} (hL : L ≤ 3584) (C0 : lw_At p s m meth c b L xs) : ∃ G : jm_G, jm_gB G = s.heap.size ∧ jm_gb G = b ∧ jm_KX G s ∧ jm_HP G (jm_h0 L xs) s.heap := by
  obtain ⟨hx, hb, hr, hml, hown, hts, hX, hbl, hlocks, hgv⟩ := id C0
  have hs : ∀ c ∈ jm_flat, c.before #[Value.ref b] s = true := flat_of_before _ hgv
  have hin : ∀ w ∈ jm_Ts, w.before #[Value.ref b] s = true := fun w hw => hts w (List.mem_filter.mp hw).1
  have hcl : ∀ ci : Nat, ∃ q : ClassId × (Nat → Nat), ∀ r, jm_cl[ci]? = some r → u_Kn s r.1 r.2.1 r.2.2 q.1 q.2 := by
    intro ci
    cases hr : jm_cl[ci]? with
    | none => exact ⟨(0, fun _ => 0), fun r h => by cases h⟩
    | some r =>
      obtain ⟨u1, u2, u3, u4, u5, u6, u7, u8⟩ := jm_cl_use hr
      obtain ⟨cC, iS, h⟩ := u_known (C := r.1) (T := r.2.1) (N := r.2.2) (n := r.2.2) hin u1 (hin _ u7)
      exact ⟨(cC, iS), fun r2 h2 => by cases h2; exact h⟩
  obtain ⟨fc, hfc⟩ := Classical.axiomOfChoice hcl
  obtain ⟨cI, kI, cmI, i1, i2, i3⟩ := Cond.arrayClass_spec (hts _ jm_t_ao.2.2.2)
  obtain ⟨cmS, cS, kS, s1, -, s3, s4, s5⟩ := Cond.arrayOver_spec (hts _ jm_t_ao.1)
  obtain ⟨cmO, cO, kO, o1, -, o3, o4, o5⟩ := Cond.arrayOver_spec (hts _ jm_t_ao.2.1)
  obtain ⟨cmX, cX, kX, x1, -, x3, x4, x5⟩ := Cond.arrayOver_spec (hts _ jm_t_ao.2.2.1)
  have hA : ∀ a : Nat, a < s.heap.size → ¬ s.heap.size ≤ a := fun a h => Nat.not_le.mpr h
  obtain ⟨adK, adV, hSt, hev⟩ := vk_Sof (args := #[Value.ref b]) (s := s) (N := jm_sn) (tm := jm_tm) (len := jm_slen) (byt := jm_sbyt) (A := fun q => s.heap.size ≤ q) jm_f_len (fun i hi => hs _ (jm_f_ex i hi)) (fun i hi => hs _ (jm_f_co i hi)) (fun i hi => hs _ (jm_f_ar i hi)) (fun i hi => hs _ (jm_f_le i hi)) (fun i hi j hj => hs _ (jm_f_el i hi j hj)) (fun i j hi hj hne => (jm_f_ne i hi j hj hne).imp (fun z => hs _ z) (fun z => hs _ z)) hA
  have hZ1 := va_Zof (A := fun q => s.heap.size ≤ q) (hts _ jm_t_st.1) (hts _ jm_t_st.2.1) (va_eqi (hs _ jm_f_cs)) hA
  obtain ⟨fv, hfv, hZ2⟩ : ∃ fv : Value, fv.category = 1 ∧ va_Z "jdk/internal/util/Preconditions" "SIOOBE_FORMATTER" "Ljava/util/function/BiFunction;" fv (fun q => s.heap.size ≤ q) s s.heap := by
    rcases va_Zqof (A := fun q => s.heap.size ≤ q) (hts _ jm_t_st.2.2.1) (hts _ jm_t_st.2.2.2) (hs _ jm_f_fm) hA with h | ⟨t, h⟩
    · exact ⟨_, rfl, h⟩
    · exact ⟨_, rfl, h⟩
  refine ⟨((fun k => (fc k).1, fun k => (fc k).2, fun k => if k = 13 then cI else if k = 14 then cS else if k = 15 then cO else cX), s.heap.size, (b, L, xs), adK, adV, fv), rfl, rfl, ?_, ?_⟩
  · refine ⟨⟨fun ci r hr => hfc ci r hr, fun k q hk => ?_⟩, va_AO.of (hts _ jm_t_ao.1), va_AO.of (hts _ jm_t_ao.2.1), va_AO.of (hts _ jm_t_ao.2.2.1), fun q hq => va_Nw.of rfl (hts _ (jm_t_ne q hq)), fun q hq => va_Nw.of rfl (hts _ (jm_t_ca q hq)), fun C T hn => ?_, hX, hbl, hSt, fun i hi => vk_R.of (hts _ (jm_f_sr i hi)) (hev i hi), hZ1, hZ2, hfv, by show L < 2 ^ 31; omega⟩
    · match k with
      | 0 => cases hk; exact ⟨fun n z => ⟨(fun k h => by cases h), kI, i2, cmI, i3⟩, i1⟩
      | 1 => cases hk; exact ⟨fun n z => ⟨(fun k h => by cases h), kS, s3, cmS, s4⟩, kS, cmS, s3, s4, s1, s5⟩
      | 2 => cases hk; exact ⟨fun n z => ⟨(fun k h => by cases h), kO, o3, cmO, o4⟩, kO, cmO, o3, o4, o1, o5⟩
      | 3 => cases hk; exact ⟨fun n z => ⟨(fun k h => by cases h), kX, x3, cmX, x4⟩, kX, cmX, x3, x4, x1, x5⟩
      | k + 4 => simp [jm_tys] at hk
    · obtain ⟨i, r, q, hr, rfl, hq, rfl, hc⟩ := hn
      have h1 := List.all_eq_true.mp (List.all_eq_true.mp jm_f_nc (r, i) (List.mem_zipIdx_iff_getElem?.mpr hr)) q hq
      simp only [hc, Bool.false_or, decide_eq_true_eq] at h1
      exact va_Nc.of (hs _ h1)
  · exact ⟨rfl, show (0 : Nat) < 900000 by decide, fun k q h => by simp [jm_ws, jm_h0] at h, fun q h => (by cases h), fun i hi => rfl, rfl⟩
