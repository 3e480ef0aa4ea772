/-! THE STEP OVER A CALL, by its kind; calls that are no calls here -/
section JM6
variable {p : Program} {l : Launch} {e : Env} {R : Room} {s : State} {m : MethodId} {args : Array Value} {below : List Frame} {meth : Method} {c : Code} {y : Nat} {G : jm_G} {Q : State → Prop} {n0 w0 : Nat} {pc : Nat} {ls : jm_L} {st : List Value} {h : jm_H}
theorem jm_loc {t d L : Nat} (h : jm_max t ≤ 22) (h2 : 42 * d + 41 ≤ L) : 8 + (jm_max t + 11) + (jm_rm d n0 w0).locals ≤ L := by
  show 8 + (jm_max t + 11) + 42 * d ≤ L
  omega
/-- the entry of a call's site -/
abbrev jm_Site (y : Nat) (o : jm_op) (i : Nat) (ee : jm_ce) : Prop := jm_cs[o.2.1]? = some ee ∧ ee.2.1 = (jm_mcl y, i) ∧ jm_cok ee = true
theorem jm_site_own {o : jm_op} {i : Nat} {ee : jm_ce} (h : jm_Site y o i ee) : jm_cow ee = jm_own y ∧ ee.2.1.2 = i := by
  obtain ⟨-, h2, -⟩ := h
  refine ⟨?_, by rw [h2]⟩
  rw [jm_cow, h2]
  rfl
/-- what a call needs beside its words -/
abbrev jm_Cx (p : Program) (l : Launch) (e : Env) (R : Room) (s : State) (m : MethodId) (args : Array Value) (below : List Frame) (meth : Method) (c : Code) (y : Nat) (G : jm_G) (Q : State → Prop) (n0 w0 : Nat) (o : jm_op) (pc : Nat) (ls : jm_L) (st : List Value) (h : jm_H) : Prop :=
  ∀ (d : Nat) (q : jm_Q) (v : Option Value) (h2 : jm_H), jm_At p s m args meth c y G → jm_stepI (jm_ret y) o pc ls st h = some (.inr (.inl q)) → jm_chk y pc o = true → jm_ev d q.1 q.2.1 h = some (v, h2) → jm_Sound d → jm_Rm R n0 w0 h h2 → h.2.2.length ≤ h2.2.2.length ∧ jm_wt h ≤ jm_wt h2 → d + 1 ≤ R.frames ∧ 42 * d + 41 ≤ R.locals →
  jm_W p l e R s m args below meth c y G Q n0 w0 (pc + 3, ls, v.toList ++ q.2.2, h2) → jm_W p l e R s m args below meth c y G Q n0 w0 (pc, ls, st, h)
theorem jm_toList_map (v : Option Value) (r : List Value) : (v.map (jm_cv G)).toList ++ r.map (jm_cv G) = (v.toList ++ r).map (jm_cv G) := by
  cases v <;> rfl
/-- behind a call: cells and slots as they are counted -/
theorem jm_call_on {H : Heap} {locs : List Loc} {arr : Array Slot} {a : Array Value} {v : Option Value} {h2 : jm_H} {r : List Value} (hS : va_S (jm_A G) s.heap H locs) (hl : jm_hasL G (jm_max y) ls arr) (hR : jm_Rm R n0 w0 h h2) (hmn : h.2.2.length ≤ h2.2.2.length ∧ jm_wt h ≤ jm_wt h2) {st0 : List Value}
    (k : jm_W p l e R s m args below meth c y G Q n0 w0 (pc + 3, ls, v.toList ++ r, h2))
    (hr : va_Run p l e R s m args below meth c H locs (h.2.2.length - n0) (jm_wt h - w0) (h2.2.2.length - h.2.2.length) (jm_wt h2 - jm_wt h) (F0 m pc arr st0) (r.map (jm_cv G)) (jm_Qc G v h2 a) (jm_A G)) : W p l e R s m args below meth c H locs (h.2.2.length - n0) (jm_wt h - w0) Q (F0 m pc arr st0) := by
  refine jm_run_on hr hS fun H1 locs1 g1 g2 => ?_
  have w1 := k H1 locs1 arr g1 hl g2
  have w2 : W p l e R s m args below meth c H1 locs1 (h2.2.2.length - n0) (jm_wt h2 - w0) Q (F0 m (pc + 3) arr ((v.toList ++ r).map (jm_cv G))) := w1
  rw [jm_toList_map]
  refine W.cs ?_ ?_ w2
  · have := hR.1; omega
  · have := hR.2.1; omega
theorem jm_room_ok {h2 : jm_H} (hR : jm_Rm R n0 w0 h h2) (hmn : h.2.2.length ≤ h2.2.2.length ∧ jm_wt h ≤ jm_wt h2) : (h.2.2.length - n0) + (h2.2.2.length - h.2.2.length) ≤ R.cells ∧ (jm_wt h - w0) + (jm_wt h2 - jm_wt h) ≤ R.slots := by
  obtain ⟨r1, r2, r3, r4, -⟩ := hR
  omega
theorem jm_c_static {q : Nat × Nat × Int32} {i : Nat} {ee : jm_ce} (hsite : jm_Site y (.invokestatic i, q) i ee) : jm_Cx p l e R s m args below meth c y G Q n0 w0 (.invokestatic i, q) pc ls st h := by
  intro d cq v h2 hA hs0 hc hE hSd hR hmn hRd k H locs arr hH1 hl1 hS
  have hH : jm_HP G h H := hH1
  have hl : jm_hasL G (jm_max y) ls arr := hl1
  clear hH1 hl1
  obtain ⟨hx, hb, hml, hown, hts, hK, hB, hnm⟩ := hA
  have hd := jm_chk_op hc rfl
  obtain ⟨ho, hi⟩ := jm_site_own hsite
  have hs : jm_cal q.1 pc ls st h = some (.inr (.inl cq)) := hs0
  have hee : jm_cs[q.1]? = some ee := hsite.1
  have hck : (match (generalizing := false) jm_cs[q.1]? with | some e => decide (e.2.1 = (jm_mcl y, i)) && (decide (e.1 ≤ 1) || decide (e.1 = 10) || decide (e.1 = 11) || decide (e.1 = 12)) | none => false) = true := (jm_chk_dec hc).2
  rw [hee] at hck
  simp only [Bool.and_eq_true, Bool.or_eq_true, decide_eq_true_eq] at hck
  unfold jm_cal at hs
  rw [hee] at hs
  dsimp only at hs
  have hok := hsite.2.2
  by_cases h01 : ee.1 ≤ 1
  · rw [if_pos h01] at hs
    split at hs
    next hcond =>
      cases hs
      obtain ⟨hn, hcat⟩ := hcond
      obtain ⟨s1, s2, s3⟩ := hSd _ _ _ _ _ hE
      have hst : F0 m pc arr (st.map (jm_cv G)) = F0 m pc arr (((jm_arg ee.2.2.1 st).map (jm_cv G)).reverse ++ (st.drop ee.2.2.1).map (jm_cv G)) := by rw [jm_args_eq]
      show W p l e R s m args below meth c H locs (h.2.2.length - n0) (jm_wt h - w0) Q (F0 m pc arr (st.map (jm_cv G)))
      rw [hst]
      have hlenA : ((jm_arg ee.2.2.1 st).map (jm_cv G)).length = ee.2.2.1 := by simp [jm_arg, Nat.min_eq_left hn]
      have hcatr : (((st.drop ee.2.2.1).map (jm_cv G)).map (fun v => v.category)).sum ≤ 8 := by rw [jm_cat_map hK.2.2.2.2.2.2.2.2.2.2.2.2.2.1]; exact hcat
      have hroom := jm_room_ok hR hmn
      have cases01 : ee.1 = 0 ∨ ee.1 = 1 := by omega
      rcases cases01 with h0 | h1
      · have hok2 : (decide (jm_name ee.2.2.2.1 = jm_cx ee) && jm_mok ee.2.2.2.1 ee.2.2.1 (jm_cx ee).desc && jm_cw ee 0 (.methodLink (jm_cow ee) ee.2.1.2 (jm_cx ee)) && jm_cw ee 1 (.static (jm_cx ee))) = true := by
          unfold jm_cok at hok
          rw [h0] at hok
          exact hok
        simp only [Bool.and_eq_true, decide_eq_true_eq] at hok2
        obtain ⟨⟨⟨e1, e2⟩, e3⟩, e4⟩ := hok2
        rw [← e1] at e2 e3 e4
        rw [ho, hi] at e3
        have hM := s3 (jm_mok_use e2).2.2.2.2.2.1 hR.2.2.2.2.1 l G
        exact jm_call_on hS hl hR hmn k (va_runS (As := (jm_arg ee.2.2.1 st).map (jm_cv G)) ⟨hx, hb, hml, hown, hts⟩ hM ⟨jm_callB hts e2 rfl (jm_hasAt_in e3) hRd, hts _ (jm_hasAt_in e4)⟩ ⟨jm_blind G _ _, jm_pre hK hB hS hH⟩ rfl hlenA hl.1 rfl (lv_room hcatr) hd hroom)
      · have hok2 : (decide (jm_name ee.2.2.2.1 = jm_cx ee) && jm_mok ee.2.2.2.1 ee.2.2.1 (jm_cx ee).desc && decide ((jm_cow ee, ee.2.1.2, jm_cx ee, "DoorOfLuck") ∈ jm_nest) && jm_cw ee 1 (.static (jm_cx ee))) = true := by
          unfold jm_cok at hok
          rw [h1] at hok
          exact hok
        simp only [Bool.and_eq_true, decide_eq_true_eq] at hok2
        obtain ⟨⟨⟨e1, e2⟩, e3⟩, e4⟩ := hok2
        rw [← e1] at e2 e3 e4
        rw [ho, hi] at e3
        have hM := s3 (jm_mok_use e2).2.2.2.2.2.1 hR.2.2.2.2.1 l G
        exact jm_call_on hS hl hR hmn k (va_runSN (As := (jm_arg ee.2.2.1 st).map (jm_cv G)) ⟨hx, hb, hml, hown, hts⟩ hM ⟨jm_callN hts e2 rfl (hK.2.2.2.2.1 _ e3) hRd, hts _ (jm_hasAt_in e4), trivial⟩ ⟨jm_blind G _ _, jm_pre hK hB hS hH⟩ rfl hlenA hl.1 rfl (lv_room hcatr) hd hroom)
    next => cases hs
  · rw [if_neg h01] at hs
    have hz : ee.1 = 10 ∨ ee.1 = 11 ∨ ee.1 = 12 := by omega
    exfalso
    rcases hz with hz | hz | hz <;> rw [hz] at hs
    · rw [if_pos rfl] at hs
      split at hs
      · split at hs
        · split at hs <;> cases hs
        · cases hs
      · cases hs
    · rw [if_neg (by decide), if_pos rfl] at hs
      split at hs
      · split at hs <;> cases hs
      · cases hs
    · rw [if_neg (by decide), if_neg (by decide), if_pos rfl] at hs
      split at hs
      · split at hs <;> cases hs
      · cases hs
/-- a call with a receiver: what the small machine's step says -/
theorem jm_cal_recv {f : Nat} {ee : jm_ce} {cq : jm_Q} (hee : jm_cs[f]? = some ee) (h1 : ¬ ee.1 ≤ 1) (h10 : ee.1 ≠ 10) (h11 : ee.1 ≠ 11) (h12 : ee.1 ≠ 12) (hs : jm_cal f pc ls st h = some (.inr (.inl cq))) : ∃ (a : Nat) (r : List Value), st.drop ee.2.2.1 = .ref a :: r ∧ jm_cat r ≤ 8 ∧ ee.1 ≠ 8 ∧ ((ee.1 ≤ 3 ∧ cq = (ee.2.2.2.1, .ref a :: jm_arg ee.2.2.1 st, r)) ∨ (ee.1 = 9 ∧ jm_STR ≤ a ∧ a - jm_STR < jm_sn ∧ cq = (ee.2.2.2.1, .ref a :: jm_arg ee.2.2.1 st, r)) ∨ (3 < ee.1 ∧ ee.1 ≠ 9 ∧ ∃ qq t, h.2.2[a]? = some qq ∧ ee.2.2.2.2.1.lookup qq.1 = some t ∧ cq = (t, .ref a :: jm_arg ee.2.2.1 st, r))) := by
  unfold jm_cal at hs
  rw [hee] at hs
  dsimp only at hs
  rw [if_neg h1, if_neg h10, if_neg h11, if_neg h12] at hs
  split at hs
  next a r hdr =>
    refine ⟨a, r, hdr, ?_⟩
    split at hs
    next hcat =>
      refine ⟨hcat, ?_⟩
      by_cases h3 : ee.1 ≤ 3
      · rw [if_pos h3] at hs
        cases hs
        exact ⟨by omega, Or.inl ⟨h3, rfl⟩⟩
      · rw [if_neg h3] at hs
        by_cases h8 : ee.1 = 8
        · rw [if_pos h8] at hs
          split at hs <;> cases hs
        · rw [if_neg h8] at hs
          refine ⟨h8, ?_⟩
          by_cases h9 : ee.1 = 9
          · rw [if_pos h9] at hs
            split at hs
            next hst => cases hs; exact Or.inr (Or.inl ⟨h9, hst.1, hst.2, rfl⟩)
            next => cases hs
          · rw [if_neg h9] at hs
            cases hq : jm_kind h a with
            | none => rw [hq] at hs; cases hs
            | some qq =>
              rw [hq] at hs
              dsimp only at hs
              cases ht : ee.2.2.2.2.1.lookup qq.1 with
              | none => rw [ht] at hs; cases hs
              | some t =>
                rw [ht] at hs
                cases hs
                exact Or.inr (Or.inr ⟨by omega, h9, qq, t, hq, ht, rfl⟩)
    next => cases hs
  next => cases hs
theorem jm_lookup_in {l : List (Nat × Nat)} {a b : Nat} (h : l.lookup a = some b) : (a, b) ∈ l := by
  induction l with
  | nil => cases h
  | cons x l ih =>
    obtain ⟨u, w⟩ := x
    rw [List.lookup_cons] at h
    by_cases hau : a = u
    · subst hau
      simp at h
      subst h
      exact List.mem_cons_self
    · have hb : (a == u) = false := by simpa using hau
      rw [hb] at h
      exact List.mem_cons_of_mem _ (ih h)
/-- the stack at a call with a receiver -/
theorem jm_stack {n a : Nat} {r : List Value} (hdr : st.drop n = .ref a :: r) : st.map (jm_cv G) = ((jm_arg n st).map (jm_cv G)).reverse ++ .ref (jm_cr G a) :: r.map (jm_cv G) ∧ ((jm_arg n st).map (jm_cv G)).length = n := by
  constructor
  · rw [← jm_args_eq n st, hdr]
    rfl
  · have : (st.drop n).length = r.length + 1 := by rw [hdr]; rfl
    rw [List.length_drop] at this
    simp [jm_arg, Nat.min_eq_left (show n ≤ st.length by omega)]
set_option maxHeartbeats 1000000 in
theorem jm_c_special {q : Nat × Nat × Int32} {i : Nat} {ee : jm_ce} (hsite : jm_Site y (.invokespecial i, q) i ee) : jm_Cx p l e R s m args below meth c y G Q n0 w0 (.invokespecial i, q) pc ls st h := by
  intro d cq v h2 hA hs0 hc hE hSd hR hmn hRd k H locs arr hH1 hl1 hS
  have hH : jm_HP G h H := hH1
  have hl : jm_hasL G (jm_max y) ls arr := hl1
  clear hH1 hl1
  obtain ⟨hx, hb, hml, hown, hts, hK, hB, hnm⟩ := hA
  have hd := jm_chk_op hc rfl
  obtain ⟨ho, hi⟩ := jm_site_own hsite
  have hs : jm_cal q.1 pc ls st h = some (.inr (.inl cq)) := hs0
  have hee : jm_cs[q.1]? = some ee := hsite.1
  have hck : (match (generalizing := false) jm_cs[q.1]? with | some e => decide (e.2.1 = (jm_mcl y, i)) && (decide (e.1 = 2) || decide (e.1 = 3) || decide (e.1 = 4) || decide (e.1 = 7) || decide (e.1 = 8)) | none => false) = true := (jm_chk_dec hc).2
  rw [hee] at hck
  simp only [Bool.and_eq_true, Bool.or_eq_true, decide_eq_true_eq] at hck
  have hok := hsite.2.2
  obtain ⟨a, r, hdr, hcat, h8, hcase⟩ := jm_cal_recv hee (by omega) (by omega) (by omega) (by omega) hs
  obtain ⟨hstk, hlenA⟩ := jm_stack (G := G) hdr
  have hroom := jm_room_ok hR hmn
  have hcatr : ((r.map (jm_cv G)).map (fun v => v.category)).sum ≤ 8 := by rw [jm_cat_map hK.2.2.2.2.2.2.2.2.2.2.2.2.2.1]; exact hcat
  have hpre := fun aa => jm_pre (a := aa) hK hB hS hH
  show W p l e R s m args below meth c H locs (h.2.2.length - n0) (jm_wt h - w0) Q (F0 m pc arr (st.map (jm_cv G)))
  rw [hstk]
  rcases hcase with ⟨h3, hcq⟩ | ⟨h9, -⟩ | ⟨h3, h9, qq, t, hq, ht, hcq⟩
  · subst hcq
    obtain ⟨s1, s2, s3⟩ := hSd _ _ _ _ _ hE
    have c23 : ee.1 = 2 ∨ ee.1 = 3 := by omega
    rcases c23 with h2e | h3e
    · have hok2 : (decide (jm_name ee.2.2.2.1 = jm_cx ee) && jm_mok ee.2.2.2.1 ee.2.2.1 (jm_cx ee).desc && jm_cw ee 0 (.methodLink (jm_cow ee) ee.2.1.2 (jm_cx ee)) && jm_cw ee 1 (.instanceMethod (jm_cx ee)) && decide ((jm_cx ee).name = "<init>") && decide (jm_ret ee.2.2.2.1 = none)) = true := by
        unfold jm_cok at hok
        rw [h2e] at hok
        exact hok
      simp only [Bool.and_eq_true, decide_eq_true_eq] at hok2
      obtain ⟨⟨⟨⟨⟨e1, e2⟩, e3⟩, e4⟩, e5⟩, e6⟩ := hok2
      rw [← e1] at e2 e3 e4 e5
      rw [ho, hi] at e3
      have hM := s3 (jm_mok_use e2).2.2.2.2.2.1 hR.2.2.2.2.1 l G
      exact jm_call_on hS hl hR hmn k (va_runI (As := (jm_arg ee.2.2.1 st).map (jm_cv G)) ⟨hx, hb, hml, hown, hts⟩ hM ⟨jm_callB hts e2 e6.symm (jm_hasAt_in e3) hRd, e5, hts _ (jm_hasAt_in e4)⟩ ⟨jm_blind G _ _, hpre _⟩ rfl hlenA hl.1 rfl (lv_room hcatr) hd hroom)
    · have hok2 : (decide (jm_name ee.2.2.2.1 = jm_cx ee) && jm_mok ee.2.2.2.1 ee.2.2.1 (jm_cx ee).desc && decide ((jm_cow ee, ee.2.1.2, jm_cx ee, "DoorOfLuck") ∈ jm_nest) && jm_cw ee 1 (.instanceMethod (jm_cx ee)) && decide ((jm_cx ee).name = "<init>") && decide (jm_ret ee.2.2.2.1 = none)) = true := by
        unfold jm_cok at hok
        rw [h3e] at hok
        exact hok
      simp only [Bool.and_eq_true, decide_eq_true_eq] at hok2
      obtain ⟨⟨⟨⟨⟨e1, e2⟩, e3⟩, e4⟩, e5⟩, e6⟩ := hok2
      rw [← e1] at e2 e3 e4 e5
      rw [ho, hi] at e3
      have hM := s3 (jm_mok_use e2).2.2.2.2.2.1 hR.2.2.2.2.1 l G
      exact jm_call_on hS hl hR hmn k (va_runIN (As := (jm_arg ee.2.2.1 st).map (jm_cv G)) ⟨hx, hb, hml, hown, hts⟩ hM ⟨jm_callN hts e2 e6.symm (hK.2.2.2.2.1 _ e3) hRd, e5, hts _ (jm_hasAt_in e4)⟩ ⟨jm_blind G _ _, hpre _⟩ rfl hlenA hl.1 rfl (lv_room hcatr) hd hroom)
  · omega
  · subst hcq
    obtain ⟨s1, s2, s3⟩ := hSd _ _ _ _ _ hE
    have hmem := jm_lookup_in ht
    have c47 : ee.1 = 4 ∨ ee.1 = 7 := by omega
    rcases c47 with h4 | h7
    · have hok2 : (decide (jm_name ee.2.2.2.1 = jm_cx ee) && jm_mok ee.2.2.2.1 ee.2.2.1 (jm_cx ee).desc && jm_cw ee 0 (.methodLink (jm_cow ee) ee.2.1.2 (jm_cx ee)) && jm_cw ee 1 (.sameMethod (jm_cx ee).cls (jm_cx ee).cls (jm_cx ee).name (jm_cx ee).desc) && jm_cw ee 2 (.superclass (jm_cow ee) (jm_cx ee).cls) && jm_cw ee 3 (.instanceMethod (jm_cx ee)) && decide ((jm_cx ee).name ≠ "<init>") && ee.2.2.2.2.1.all (fun t => decide (t.2 = ee.2.2.2.1) && decide (t.1 < 13))) = true := by
        unfold jm_cok at hok
        rw [h4] at hok
        exact hok
      simp only [Bool.and_eq_true, decide_eq_true_eq] at hok2
      obtain ⟨⟨⟨⟨⟨⟨⟨e1, e2⟩, e3⟩, e4⟩, e5⟩, e6⟩, e7⟩, e8⟩ := hok2
      have e9 := List.all_eq_true.mp e8 _ hmem
      simp only [Bool.and_eq_true, decide_eq_true_eq] at e9
      obtain ⟨rfl, h13⟩ := e9
      rw [← e1] at e2 e3 e4 e5 e6 e7
      rw [ho, hi] at e3
      rw [ho] at e5
      have hM := s3 (jm_mok_use e2).2.2.2.2.2.1 hR.2.2.2.2.1 l G
      obtain ⟨cC, hcC⟩ := jm_classAt hK h13
      obtain ⟨m1, m2, m3, m4, m5, m6, m7⟩ := jm_mok_use e2
      exact jm_call_on hS hl hR hmn k (va_runSU (As := (jm_arg ee.2.2.1 st).map (jm_cv G)) hcC ⟨hx, hb, hml, hown, hts⟩ hM ⟨⟨rfl, rfl, hRd.1, jm_loc m5 hRd.2, pay_in hts (jm_good m1), List.mem_cons_self⟩, hts _ (jm_hasAt_in e3), hts _ (jm_hasAt_in e4), hts _ (jm_hasAt_in e5), hts _ (jm_hasAt_in e6), hts _ m7, hts _ m1, e7, m4⟩ ⟨jm_blind G _ _, jm_recv hK hH hq h13, hpre _⟩ rfl hlenA hl.1 rfl (lv_room hcatr) hd hroom)
    · have hok2 : (jm_mok ee.2.2.2.1 ee.2.2.1 (jm_cx ee).desc && jm_cw ee 0 (.methodLink (jm_cow ee) ee.2.1.2 (jm_cx ee)) && jm_cw ee 1 (.sameMethod (jm_cx ee).cls (jm_name ee.2.2.2.1).cls (jm_cx ee).name (jm_cx ee).desc) && decide (jm_name ee.2.2.2.1 = ⟨(jm_name ee.2.2.2.1).cls, (jm_cx ee).name, (jm_cx ee).desc⟩) && jm_cw ee 2 (.superclass (jm_cow ee) (jm_cx ee).cls) && jm_cw ee 3 (.superclass (jm_cx ee).cls (jm_name ee.2.2.2.1).cls) && jm_cw ee 4 (.instanceMethod (jm_name ee.2.2.2.1)) && decide ((jm_cx ee).name ≠ "<init>") && ee.2.2.2.2.1.all (fun t => decide (t.2 = ee.2.2.2.1) && decide (t.1 < 13))) = true := by
        unfold jm_cok at hok
        rw [h7] at hok
        exact hok
      simp only [Bool.and_eq_true, decide_eq_true_eq] at hok2
      obtain ⟨⟨⟨⟨⟨⟨⟨⟨e2, e3⟩, e4⟩, e1⟩, e5⟩, e5b⟩, e6⟩, e7⟩, e8⟩ := hok2
      have e9 := List.all_eq_true.mp e8 _ hmem
      simp only [Bool.and_eq_true, decide_eq_true_eq] at e9
      obtain ⟨rfl, h13⟩ := e9
      rw [ho, hi] at e3
      rw [ho] at e5
      have hM := s3 (jm_mok_use e2).2.2.2.2.2.1 hR.2.2.2.2.1 l G
      obtain ⟨cC, hcC⟩ := jm_classAt hK h13
      obtain ⟨m1, m2, m3, m4, m5, m6, m7⟩ := jm_mok_use e2
      exact jm_call_on hS hl hR hmn k (jm_runSI (As := (jm_arg ee.2.2.1 st).map (jm_cv G)) hcC ⟨hx, hb, hml, hown, hts⟩ hM ⟨rfl, rfl, hRd.1, jm_loc m5 hRd.2, pay_in hts (jm_good m1), List.mem_cons_self⟩ (hts _ (jm_hasAt_in e3)) (hts _ (jm_hasAt_in e4)) e1 (hts _ (jm_hasAt_in e5)) (hts _ (jm_hasAt_in e5b)) (hts _ (jm_hasAt_in e6)) (hts _ m7) (hts _ m1) e7 m4 ⟨jm_blind G _ _, jm_recv hK hH hq h13, hpre _⟩ rfl hlenA hl.1 rfl (lv_room hcatr) hd hroom)
set_option maxHeartbeats 1000000 in
theorem jm_c_virtual {q : Nat × Nat × Int32} {i : Nat} {ee : jm_ce} (hsite : jm_Site y (.invokevirtual i, q) i ee) : jm_Cx p l e R s m args below meth c y G Q n0 w0 (.invokevirtual i, q) pc ls st h := by
  intro d cq v h2 hA hs0 hc hE hSd hR hmn hRd k H locs arr hH1 hl1 hS
  have hH : jm_HP G h H := hH1
  have hl : jm_hasL G (jm_max y) ls arr := hl1
  clear hH1 hl1
  obtain ⟨hx, hb, hml, hown, hts, hK, hB, hnm⟩ := hA
  have hd := jm_chk_op hc rfl
  obtain ⟨ho, hi⟩ := jm_site_own hsite
  have hs : jm_cal q.1 pc ls st h = some (.inr (.inl cq)) := hs0
  have hee : jm_cs[q.1]? = some ee := hsite.1
  have hck : (match (generalizing := false) jm_cs[q.1]? with | some e => decide (e.2.1 = (jm_mcl y, i)) && (decide (e.1 = 5) || decide (e.1 = 6) || decide (e.1 = 9)) | none => false) = true := (jm_chk_dec hc).2
  rw [hee] at hck
  simp only [Bool.and_eq_true, Bool.or_eq_true, decide_eq_true_eq] at hck
  have hok := hsite.2.2
  obtain ⟨a, r, hdr, hcat, h8, hcase⟩ := jm_cal_recv hee (by omega) (by omega) (by omega) (by omega) hs
  obtain ⟨hstk, hlenA⟩ := jm_stack (G := G) hdr
  have hroom := jm_room_ok hR hmn
  have hcatr : ((r.map (jm_cv G)).map (fun v => v.category)).sum ≤ 8 := by rw [jm_cat_map hK.2.2.2.2.2.2.2.2.2.2.2.2.2.1]; exact hcat
  have hpre := fun aa => jm_pre (a := aa) hK hB hS hH
  show W p l e R s m args below meth c H locs (h.2.2.length - n0) (jm_wt h - w0) Q (F0 m pc arr (st.map (jm_cv G)))
  rw [hstk]
  rcases hcase with ⟨h3, hcq⟩ | ⟨h9, ha1, ha2, hcq⟩ | ⟨h3, h9, qq, t, hq, ht, hcq⟩
  · omega
  · subst hcq
    obtain ⟨s1, s2, s3⟩ := hSd _ _ _ _ _ hE
    have hok2 : (decide (jm_name ee.2.2.2.1 = jm_cx ee) && decide ((jm_cx ee).cls = "java/lang/String") && jm_mok ee.2.2.2.1 ee.2.2.1 (jm_cx ee).desc && jm_cw ee 0 (.methodLink (jm_cow ee) ee.2.1.2 (jm_cx ee)) && jm_cw ee 1 (.instanceMethod (jm_cx ee)) && jm_cw ee 2 (.selects (jm_cx ee).cls (jm_cx ee) (jm_cx ee))) = true := by
      unfold jm_cok at hok
      rw [h9] at hok
      exact hok
    simp only [Bool.and_eq_true, decide_eq_true_eq] at hok2
    obtain ⟨⟨⟨⟨⟨e1, e1b⟩, e2⟩, e3⟩, e4⟩, e5⟩ := hok2
    rw [← e1] at e1b e2 e3 e4 e5
    rw [ho, hi] at e3
    have hM := s3 (jm_mok_use e2).2.2.2.2.2.1 hR.2.2.2.2.1 l G
    have hrec := vk_recv hK.2.2.2.2.2.2.2.2.2.1 ha2 hS
    have ea : jm_cr G a = jm_gK G (a - jm_STR) := by
      have := jm_cr_str (G := G) ha2
      rwa [Nat.sub_add_cancel ha1] at this
    rw [← ea, ← e1b] at hrec
    exact jm_call_on hS hl hR hmn k (va_runV (As := (jm_arg ee.2.2.1 st).map (jm_cv G)) ⟨hx, hb, hml, hown, hts⟩ hM ⟨jm_callB hts e2 rfl (jm_hasAt_in e3) hRd, hts _ (jm_hasAt_in e4), hts _ (jm_hasAt_in e5)⟩ ⟨jm_blind G _ _, hrec, hpre _⟩ rfl hlenA hl.1 rfl (lv_room hcatr) hd hroom)
  · subst hcq
    obtain ⟨s1, s2, s3⟩ := hSd _ _ _ _ _ hE
    have hmem := jm_lookup_in ht
    have c56 : ee.1 = 5 ∨ ee.1 = 6 := by omega
    rcases c56 with h5 | h6
    · have hok2 : (decide (jm_name ee.2.2.2.1 = jm_cx ee) && jm_mok ee.2.2.2.1 ee.2.2.1 (jm_cx ee).desc && jm_cw ee 0 (.methodLink (jm_cow ee) ee.2.1.2 (jm_cx ee)) && jm_cw ee 1 (.instanceMethod (jm_cx ee)) && ee.2.2.2.2.1.all (fun t => decide (t.2 = ee.2.2.2.1) && decide (t.1 < 13) && decide (jm_cn.getD t.1 "" = (jm_cx ee).cls) && jm_cw ee 2 (.selects (jm_cx ee).cls (jm_cx ee) (jm_cx ee)))) = true := by
        unfold jm_cok at hok
        rw [h5] at hok
        exact hok
      simp only [Bool.and_eq_true, decide_eq_true_eq] at hok2
      obtain ⟨⟨⟨⟨e1, e2⟩, e3⟩, e4⟩, e8⟩ := hok2
      have e9 := List.all_eq_true.mp e8 _ hmem
      simp only [Bool.and_eq_true, decide_eq_true_eq] at e9
      obtain ⟨⟨⟨rfl, h13⟩, e10⟩, e11⟩ := e9
      rw [← e1] at e2 e3 e4 e10 e11
      rw [ho, hi] at e3
      have hM := s3 (jm_mok_use e2).2.2.2.2.2.1 hR.2.2.2.2.1 l G
      have hrec := jm_recv hK hH hq h13
      rw [e10] at hrec
      exact jm_call_on hS hl hR hmn k (va_runV (As := (jm_arg ee.2.2.1 st).map (jm_cv G)) ⟨hx, hb, hml, hown, hts⟩ hM ⟨jm_callB hts e2 rfl (jm_hasAt_in e3) hRd, hts _ (jm_hasAt_in e4), hts _ (jm_hasAt_in e11)⟩ ⟨jm_blind G _ _, hrec, hpre _⟩ rfl hlenA hl.1 rfl (lv_room hcatr) hd hroom)
    · have hok2 : (jm_cw ee 0 (.methodLink (jm_cow ee) ee.2.1.2 (jm_cx ee)) && decide (jm_name ee.2.2.2.1 = ⟨(jm_name ee.2.2.2.1).cls, (jm_cx ee).name, (jm_cx ee).desc⟩) && jm_cw ee 1 (.sameMethod (jm_cx ee).cls (jm_name ee.2.2.2.1).cls (jm_cx ee).name (jm_cx ee).desc) && jm_mok ee.2.2.2.1 ee.2.2.1 (jm_cx ee).desc && jm_cw ee 2 (.instanceMethod (jm_name ee.2.2.2.1)) && ee.2.2.2.2.1.zipIdx.all (fun t => decide (t.1.1 < 13) && jm_cw ee (3 * t.2 + 3) (.selects (jm_cn.getD t.1.1 "") (jm_cx ee) (jm_name t.1.2)) && jm_cw ee (3 * t.2 + 4) (.instanceMethod (jm_name t.1.2)) && jm_mok t.1.2 ee.2.2.1 (jm_cx ee).desc)) = true := by
        unfold jm_cok at hok
        rw [h6] at hok
        exact hok
      simp only [Bool.and_eq_true, decide_eq_true_eq] at hok2
      obtain ⟨⟨⟨⟨⟨e3, e1⟩, e4⟩, e2⟩, e5⟩, e8⟩ := hok2
      obtain ⟨j, hj⟩ := List.getElem?_of_mem hmem
      have e9 := List.all_eq_true.mp e8 ((qq.1, t), j) (List.mem_zipIdx_iff_getElem?.mpr hj)
      simp only [Bool.and_eq_true, decide_eq_true_eq] at e9
      obtain ⟨⟨⟨h13, e10⟩, e11⟩, e12⟩ := e9
      rw [ho, hi] at e3
      obtain ⟨m1, m2, m3, m4, m5, m6, m7⟩ := jm_mok_use e12
      obtain ⟨o1, o2, o3, o4, o5, o6, o7⟩ := jm_mok_use e2
      have hM := s3 m6 hR.2.2.2.2.1 l G
      have hdecl : va_Decl s ⟨(jm_name ee.2.2.2.1).cls, (jm_cx ee).name, (jm_cx ee).desc⟩ := by
        rw [← e1]
        exact va_Decl.of (hts _ (jm_hasAt_in e5)) (hts _ o1)
      exact jm_call_on hS hl hR hmn k (va_runU (As := (jm_arg ee.2.2.1 st).map (jm_cv G)) ⟨hx, hb, hml, hown, hts⟩ hM ⟨⟨rfl, rfl, hRd.1, jm_loc m5 hRd.2, pay_in hts (jm_good m1), List.mem_cons_self⟩, hts _ m1, hts _ m7, ⟨o2, o3⟩, m4, hts _ (jm_hasAt_in e3), hts _ (jm_hasAt_in e4), hdecl, hts _ (jm_hasAt_in e10), hts _ (jm_hasAt_in e11)⟩ ⟨jm_blind G _ _, jm_recv hK hH hq h13, hpre _⟩ rfl hlenA hl.1 rfl (lv_room hcatr) hd hroom)
end JM6
