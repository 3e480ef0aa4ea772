/-! TOGETHER -/
/-- are the members' houses apart, and the last one's house -/
def js_hs (M : Nat) (P : Nat → Nat → Int32) : Nat → Bool × Int32
  | 0 => (false, -nI 1)
  | k + 1 => if M.testBit k = true then ((js_hs M P k).1 || (!decide ((js_hs M P k).2 = -nI 1) && !decide ((js_hs M P k).2 = P k 2)), P k 2) else js_hs M P k
/-- what the members may pass together -/
def js_os (w : jW) (kd : Nat → Nat) (P : Nat → Nat → Int32) (M : Nat) : Nat → Nat
  | 0 => 0
  | k + 1 => if M.testBit k = true then js_os w kd P M k ||| js_safe w (kd k) (P k) else js_os w kd P M k
theorem js_hs_F {M k : Nat} {P : Nat → Nat → Int32} (h : M.testBit k = false) : js_hs M P (k + 1) = js_hs M P k := by rw [js_hs, h]; rfl
theorem js_hs_T {M k : Nat} {P : Nat → Nat → Int32} (h : M.testBit k = true) : js_hs M P (k + 1) = ((js_hs M P k).1 || (!decide ((js_hs M P k).2 = -nI 1) && !decide ((js_hs M P k).2 = P k 2)), P k 2) := by rw [js_hs, if_pos h]
theorem js_os_F {w : jW} {kd : Nat → Nat} {P : Nat → Nat → Int32} {M k : Nat} (h : M.testBit k = false) : js_os w kd P M (k + 1) = js_os w kd P M k := by rw [js_os, h]; rfl
theorem js_os_T {w : jW} {kd : Nat → Nat} {P : Nat → Nat → Int32} {M k : Nat} (h : M.testBit k = true) : js_os w kd P M (k + 1) = js_os w kd P M k ||| js_safe w (kd k) (P k) := by rw [js_os, if_pos h]
theorem js_os_12 {w : jW} {kd : Nat → Nat} {P : Nat → Nat → Int32} {M : Nat} (tn : jwn w ≤ 12) : ∀ k, js_os w kd P M k < 4096 := by
  intro k
  induction k with
  | zero => rw [js_os]; omega
  | succ k ih => rw [js_os]; split
                 · exact Nat.or_lt_two_pow (n := 12) ih (js_safe_12 tn)
                 · exact ih
theorem js_hs_mo {M k : Nat} {P : Nat → Nat → Int32} (h : (js_hs M P k).1 = true) : (js_hs M P (k + 1)).1 = true := by
  rw [js_hs]; split
  · dsimp only; rw [h]; rfl
  · exact h
theorem js_hs_up {M k : Nat} {P : Nat → Nat → Int32} (h : (js_hs M P k).1 = true) : ∀ j, (js_hs M P (k + j)).1 = true := by
  intro j
  induction j with
  | zero => exact h
  | succ j ih => exact js_hs_mo ih
theorem js_hs_at {M : Nat} {P : Nat → Nat → Int32} : ∀ k, (∀ j, j < k → ∃ f, f < 8 ∧ P j 2 = nI f) → ((js_hs M P k).2 = -nI 1 ∧ ∀ j, j < k → M.testBit j = false) ∨ ∃ f, f < 8 ∧ (js_hs M P k).2 = nI f := by
  intro k
  induction k with
  | zero => intro _; exact .inl ⟨rfl, fun j hj => absurd hj (Nat.not_lt_zero _)⟩
  | succ k ih =>
    intro h
    rcases Bool.eq_false_or_eq_true (M.testBit k) with zq | zq
    · rw [js_hs_T zq]
      obtain ⟨f, hf, hf2⟩ := h k (by omega)
      exact .inr ⟨f, hf, hf2⟩
    · rw [js_hs_F zq]
      rcases ih fun j hj => h j (by omega) with ⟨a, b⟩ | c
      · refine .inl ⟨a, fun j hj => ?_⟩
        by_cases hj2 : j = k
        · rw [hj2]; exact zq
        · exact b j (by omega)
      · exact .inr c
theorem jf_132 {d n m M : Nat} {I : Nat → Nat → Int32} {rho : Nat → Option Nat} {mu : List (Nat × Nat)} {ad kd : Nat → Nat} {P : Nat → Nat → Int32} (hM : M < 64) (h : jPc I rho mu n m ad kd P) : jm_ev (d + 2) 132 [.ref 0, .int (nI M)] (jm_hp I rho mu) = some (some (.int (if (js_hs M P m).1 = true then -nI 1 else (js_hs M P m).2)), jm_hp I rho mu) := by
  obtain ⟨hm, hm6, hP⟩ := id h
  have e0 : jm_ev (d + 2) 132 [.ref 0, .int (nI M)] (jm_hp I rho mu) = jm_go (jm_ev (d + 1)) 132 (4, [some (.ref 0), some (.int (nI M)), some (.int (-nI 1)), some (.int (nI 0)), none], [], jm_hp I rho mu) := by
    simp (disch := first | assumption | omega | exact jx_bz _ | exact jx_z0 | exact jx_z1 | (refine jx_ixB ?_ ?_; omega; omega) | (simp (disch := first | omega | fail) only [jx_lit, pk_mul, nI_add, nI_pred, pk_sub, jx_na, jx_add0, Nat.reduceMul, Nat.reduceAdd, Nat.reduceSub, Nat.reduceEqDiff, Nat.reduceLeDiff, Nat.reduceLT]; refine jx_ixC ?_ ?_; omega; omega) | (simp (disch := first | omega | fail) only [jx_lit, pk_mul, nI_add, nI_pred, pk_sub, jx_na, jx_add0, Nat.reduceMul, Nat.reduceAdd, Nat.reduceSub, Nat.reduceEqDiff, Nat.reduceLeDiff, Nat.reduceLT, jx_cl, nI_leI, Nat.zero_le, true_and]; omega) | fail) only [je_132, jb_132_0, jb_132_12, jb_132_17, jb_132_17_1, jb_132_24, jb_132_29, jb_132_32, jb_132_35, jb_132_40, jb_132_49, jb_132_51, jb_132_57, jb_132_63, jx_nl, jx_nlr, jx_thenS, jx_tlS, jx_tlN, jm_ite_go, jx_rds, jx_rdn, jx_lit, pk_mul, nI_add, nI_pred, pk_sub, jx_na, jx_add0, Nat.reduceMul, Nat.reduceAdd, Nat.reduceSub, Nat.reduceEqDiff, Nat.reduceLeDiff, Nat.reduceLT, Nat.not_lt_zero, jx_cl, nI_leI, nI_ltI, nI_eq, jx_neg, jx_neg', jx_negE, jx_negL, jx_negG, jx_negLE, jx_negN, sb_nlt, sb_nle, jx_b0, jx_b1, jx_bT, jx_bF, ite_true, ite_false, if_true, if_false, reduceIte, Bool.false_eq_true, Bool.true_eq_false, eq_self, Nat.one_ne_zero, Nat.add_sub_cancel, not_true_eq_false, not_false_eq_true]
  rw [e0]
  have turn : ∀ k, k < m → ∀ v, ∃ v', jm_go (jm_ev (d + 1)) 132 (4, [some (.ref 0), some (.int (nI M)), some (.int (js_hs M P k).2), some (.int (nI k)), v], [], jm_hp I rho mu) = (if (js_hs M P (k + 1)).1 = true ∧ (js_hs M P k).1 = false then some (some (.int (-nI 1)), jm_hp I rho mu) else jm_go (jm_ev (d + 1)) 132 (4, [some (.ref 0), some (.int (nI M)), some (.int (js_hs M P (k + 1)).2), some (.int (nI (k + 1))), v'], [], jm_hp I rho mu)) ∨ (js_hs M P k).1 = true := by
    intro k hk v
    obtain ⟨a1, a2, a3, a4, a5⟩ := hP k hk
    obtain ⟨-, ⟨f, hf, hf2⟩, -⟩ := id a4
    have hO := jO_is a2
    have hJ2 : I (ad k) 2 = nI f := by rw [a5]; exact hf2
    have k128 := @jf_128 d m k (ad k) I rho mu hm hm6 hk a1
    have k123 := @jf_123N d I rho mu M k (by omega) (by omega)
    have zn : ¬ m ≤ k := by omega
    refine ⟨some (.ref (ad k)), ?_⟩
    rcases Bool.eq_false_or_eq_true (js_hs M P k).1 with zb | zb
    · exact .inr zb
    · refine .inl ?_
      rw [jb_132_4]
      rcases Bool.eq_false_or_eq_true (M.testBit k) with zq | zq
      · rw [js_hs_T zq]
        dsimp only
        rw [zb, hf2]
        by_cases z1 : (js_hs M P k).2 = -nI 1
        · rw [z1]
          simp (disch := first | assumption | omega | exact jx_bz _ | exact jx_z0 | exact jx_z1 | (refine jx_ixB ?_ ?_; omega; omega) | (simp (disch := first | omega | fail) only [jx_lit, pk_mul, nI_add, nI_pred, pk_sub, jx_na, jx_add0, Nat.reduceMul, Nat.reduceAdd, Nat.reduceSub, Nat.reduceEqDiff, Nat.reduceLeDiff, Nat.reduceLT, hm, zn, k128, k123, zq, hJ2, decide_true, Bool.not_true, Bool.false_and, Bool.or_false, false_and]; refine jx_ixC ?_ ?_; omega; omega) | (simp (disch := first | omega | fail) only [jx_lit, pk_mul, nI_add, nI_pred, pk_sub, jx_na, jx_add0, Nat.reduceMul, Nat.reduceAdd, Nat.reduceSub, Nat.reduceEqDiff, Nat.reduceLeDiff, Nat.reduceLT, jx_cl, nI_leI, Nat.zero_le, true_and, hm, zn, k128, k123, zq, hJ2, decide_true, Bool.not_true, Bool.false_and, Bool.or_false, false_and]; omega) | fail) only [jb_132_0, jb_132_12, jb_132_17, jb_132_17_1, jb_132_24, jb_132_29, jb_132_32, jb_132_35, jb_132_40, jb_132_49, jb_132_51, jb_132_57, jb_132_63, jx_nl, jx_nlr, jx_thenS, jx_tlS, jx_tlN, jm_ite_go, jx_rds, jx_rdn, jx_lit, pk_mul, nI_add, nI_pred, pk_sub, jx_na, jx_add0, Nat.reduceMul, Nat.reduceAdd, Nat.reduceSub, Nat.reduceEqDiff, Nat.reduceLeDiff, Nat.reduceLT, Nat.not_lt_zero, jx_cl, nI_leI, nI_ltI, nI_eq, jx_neg, jx_neg', jx_negE, jx_negL, jx_negG, jx_negLE, jx_negN, sb_nlt, sb_nle, jx_b0, jx_b1, jx_bT, jx_bF, ite_true, ite_false, if_true, if_false, reduceIte, Bool.false_eq_true, Bool.true_eq_false, eq_self, Nat.one_ne_zero, Nat.add_sub_cancel, not_true_eq_false, not_false_eq_true, hm, zn, k128, k123, zq, hJ2, decide_true, Bool.not_true, Bool.false_and, Bool.or_false, false_and]
        · by_cases z2 : (js_hs M P k).2 = nI f
          · rw [z2]
            simp (disch := first | assumption | omega | exact jx_bz _ | exact jx_z0 | exact jx_z1 | (refine jx_ixB ?_ ?_; omega; omega) | (simp (disch := first | omega | fail) only [jx_lit, pk_mul, nI_add, nI_pred, pk_sub, jx_na, jx_add0, Nat.reduceMul, Nat.reduceAdd, Nat.reduceSub, Nat.reduceEqDiff, Nat.reduceLeDiff, Nat.reduceLT, hm, zn, k128, k123, zq, hJ2, decide_true, Bool.not_true, Bool.false_and, Bool.and_false, Bool.or_false, false_and]; refine jx_ixC ?_ ?_; omega; omega) | (simp (disch := first | omega | fail) only [jx_lit, pk_mul, nI_add, nI_pred, pk_sub, jx_na, jx_add0, Nat.reduceMul, Nat.reduceAdd, Nat.reduceSub, Nat.reduceEqDiff, Nat.reduceLeDiff, Nat.reduceLT, jx_cl, nI_leI, Nat.zero_le, true_and, hm, zn, k128, k123, zq, hJ2, decide_true, Bool.not_true, Bool.false_and, Bool.and_false, Bool.or_false, false_and]; omega) | fail) only [jb_132_0, jb_132_12, jb_132_17, jb_132_17_1, jb_132_24, jb_132_29, jb_132_32, jb_132_35, jb_132_40, jb_132_49, jb_132_51, jb_132_57, jb_132_63, jx_nl, jx_nlr, jx_thenS, jx_tlS, jx_tlN, jm_ite_go, jx_rds, jx_rdn, jx_lit, pk_mul, nI_add, nI_pred, pk_sub, jx_na, jx_add0, Nat.reduceMul, Nat.reduceAdd, Nat.reduceSub, Nat.reduceEqDiff, Nat.reduceLeDiff, Nat.reduceLT, Nat.not_lt_zero, jx_cl, nI_leI, nI_ltI, nI_eq, jx_neg, jx_neg', jx_negE, jx_negL, jx_negG, jx_negLE, jx_negN, sb_nlt, sb_nle, jx_b0, jx_b1, jx_bT, jx_bF, ite_true, ite_false, if_true, if_false, reduceIte, Bool.false_eq_true, Bool.true_eq_false, eq_self, Nat.one_ne_zero, Nat.add_sub_cancel, not_true_eq_false, not_false_eq_true, hm, zn, k128, k123, zq, hJ2, decide_true, Bool.not_true, Bool.false_and, Bool.and_false, Bool.or_false, false_and]
          · rw [decide_eq_false z1, decide_eq_false z2]
            simp (disch := first | assumption | omega | exact jx_bz _ | exact jx_z0 | exact jx_z1 | (refine jx_ixB ?_ ?_; omega; omega) | (simp (disch := first | omega | fail) only [jx_lit, pk_mul, nI_add, nI_pred, pk_sub, jx_na, jx_add0, Nat.reduceMul, Nat.reduceAdd, Nat.reduceSub, Nat.reduceEqDiff, Nat.reduceLeDiff, Nat.reduceLT, hm, zn, k128, k123, zq, hJ2, z1, z2, Bool.not_false, Bool.and_true, Bool.or_true, true_and, and_true]; refine jx_ixC ?_ ?_; omega; omega) | (simp (disch := first | omega | fail) only [jx_lit, pk_mul, nI_add, nI_pred, pk_sub, jx_na, jx_add0, Nat.reduceMul, Nat.reduceAdd, Nat.reduceSub, Nat.reduceEqDiff, Nat.reduceLeDiff, Nat.reduceLT, jx_cl, nI_leI, Nat.zero_le, true_and, hm, zn, k128, k123, zq, hJ2, z1, z2, Bool.not_false, Bool.and_true, Bool.or_true, true_and, and_true]; omega) | fail) only [jb_132_0, jb_132_12, jb_132_17, jb_132_17_1, jb_132_24, jb_132_29, jb_132_32, jb_132_35, jb_132_40, jb_132_49, jb_132_51, jb_132_57, jb_132_63, jx_nl, jx_nlr, jx_thenS, jx_tlS, jx_tlN, jm_ite_go, jx_rds, jx_rdn, jx_lit, pk_mul, nI_add, nI_pred, pk_sub, jx_na, jx_add0, Nat.reduceMul, Nat.reduceAdd, Nat.reduceSub, Nat.reduceEqDiff, Nat.reduceLeDiff, Nat.reduceLT, Nat.not_lt_zero, jx_cl, nI_leI, nI_ltI, nI_eq, jx_neg, jx_neg', jx_negE, jx_negL, jx_negG, jx_negLE, jx_negN, sb_nlt, sb_nle, jx_b0, jx_b1, jx_bT, jx_bF, ite_true, ite_false, if_true, if_false, reduceIte, Bool.false_eq_true, Bool.true_eq_false, eq_self, Nat.one_ne_zero, Nat.add_sub_cancel, not_true_eq_false, not_false_eq_true, hm, zn, k128, k123, zq, hJ2, z1, z2, Bool.not_false, Bool.and_true, Bool.or_true, true_and, and_true]
      · rw [js_hs_F zq]
        simp (disch := first | assumption | omega | exact jx_bz _ | exact jx_z0 | exact jx_z1 | (refine jx_ixB ?_ ?_; omega; omega) | (simp (disch := first | omega | fail) only [jx_lit, pk_mul, nI_add, nI_pred, pk_sub, jx_na, jx_add0, Nat.reduceMul, Nat.reduceAdd, Nat.reduceSub, Nat.reduceEqDiff, Nat.reduceLeDiff, Nat.reduceLT, hm, zn, k128, k123, zq, zb, false_and]; refine jx_ixC ?_ ?_; omega; omega) | (simp (disch := first | omega | fail) only [jx_lit, pk_mul, nI_add, nI_pred, pk_sub, jx_na, jx_add0, Nat.reduceMul, Nat.reduceAdd, Nat.reduceSub, Nat.reduceEqDiff, Nat.reduceLeDiff, Nat.reduceLT, jx_cl, nI_leI, Nat.zero_le, true_and, hm, zn, k128, k123, zq, zb, false_and]; omega) | fail) only [jb_132_0, jb_132_12, jb_132_17, jb_132_17_1, jb_132_24, jb_132_29, jb_132_32, jb_132_35, jb_132_40, jb_132_49, jb_132_51, jb_132_57, jb_132_63, jx_nl, jx_nlr, jx_thenS, jx_tlS, jx_tlN, jm_ite_go, jx_rds, jx_rdn, jx_lit, pk_mul, nI_add, nI_pred, pk_sub, jx_na, jx_add0, Nat.reduceMul, Nat.reduceAdd, Nat.reduceSub, Nat.reduceEqDiff, Nat.reduceLeDiff, Nat.reduceLT, Nat.not_lt_zero, jx_cl, nI_leI, nI_ltI, nI_eq, jx_neg, jx_neg', jx_negE, jx_negL, jx_negG, jx_negLE, jx_negN, sb_nlt, sb_nle, jx_b0, jx_b1, jx_bT, jx_bF, ite_true, ite_false, if_true, if_false, reduceIte, Bool.false_eq_true, Bool.true_eq_false, eq_self, Nat.one_ne_zero, Nat.add_sub_cancel, not_true_eq_false, not_false_eq_true, hm, zn, k128, k123, zq, zb, false_and]
  rcases jx_least (fun k => (js_hs M P (k + 1)).1) m with ⟨k, hk, c1, c2⟩ | hF
  · have c3 : (js_hs M P k).1 = false := by
      cases k with
      | zero => rfl
      | succ k => exact c2 k (by omega)
    have hm1 : (js_hs M P m).1 = true := by
      have := js_hs_up c1 (m - (k + 1))
      rwa [show k + 1 + (m - (k + 1)) = m by omega] at this
    obtain ⟨v, e, -⟩ := jx_for (E := jm_ev (d + 1)) (y := 132) (σ := Option Value) k (fun k v => (4, [some (.ref 0), some (.int (nI M)), some (.int (js_hs M P k).2), some (.int (nI k)), v], [], jm_hp I rho mu)) (fun _ _ => True) (fun j v hj _ => by
      obtain ⟨v', ht⟩ := turn j (by omega) v
      have c4 : (js_hs M P j).1 = false := by
        cases j with
        | zero => rfl
        | succ j => exact c2 j (by omega)
      rcases ht with ht | ht
      · refine ⟨v', ?_, trivial⟩
        rw [ht, if_neg]
        rintro ⟨x1, -⟩
        have := c2 j hj
        rw [this] at x1
        cases x1
      · rw [c4] at ht; cases ht) k 0 none (Nat.zero_add _) trivial
    have e : jm_go (jm_ev (d + 1)) 132 (4, [some (.ref 0), some (.int (nI M)), some (.int (-nI 1)), some (.int (nI 0)), none], [], jm_hp I rho mu) = _ := e
    rw [e, if_pos hm1]
    obtain ⟨v', ht⟩ := turn k hk v
    rcases ht with ht | ht
    · rw [ht, if_pos ⟨c1, c3⟩]
    · rw [c3] at ht; cases ht
  · have hm1 : (js_hs M P m).1 = false := by
      cases m with
      | zero => rfl
      | succ m => exact hF m (by omega)
    obtain ⟨v, e, -⟩ := jx_for (E := jm_ev (d + 1)) (y := 132) (σ := Option Value) m (fun k v => (4, [some (.ref 0), some (.int (nI M)), some (.int (js_hs M P k).2), some (.int (nI k)), v], [], jm_hp I rho mu)) (fun _ _ => True) (fun j v hj _ => by
      obtain ⟨v', ht⟩ := turn j (by omega) v
      have c4 : (js_hs M P j).1 = false := by
        cases j with
        | zero => rfl
        | succ j => exact hF j (by omega)
      rcases ht with ht | ht
      · refine ⟨v', ?_, trivial⟩
        rw [ht, if_neg]
        rintro ⟨x1, -⟩
        have := hF j hj
        rw [this] at x1
        cases x1
      · rw [c4] at ht; cases ht) m 0 none (Nat.zero_add _) trivial
    have e : jm_go (jm_ev (d + 1)) 132 (4, [some (.ref 0), some (.int (nI M)), some (.int (-nI 1)), some (.int (nI 0)), none], [], jm_hp I rho mu) = _ := e
    rw [e, hm1, jb_132_4]
    simp (disch := first | assumption | omega | exact jx_bz _ | exact jx_z0 | exact jx_z1 | (refine jx_ixB ?_ ?_; omega; omega) | (simp (disch := first | omega | fail) only [jx_lit, pk_mul, nI_add, nI_pred, pk_sub, jx_na, jx_add0, Nat.reduceMul, Nat.reduceAdd, Nat.reduceSub, Nat.reduceEqDiff, Nat.reduceLeDiff, Nat.reduceLT, hm, Nat.le_refl]; refine jx_ixC ?_ ?_; omega; omega) | (simp (disch := first | omega | fail) only [jx_lit, pk_mul, nI_add, nI_pred, pk_sub, jx_na, jx_add0, Nat.reduceMul, Nat.reduceAdd, Nat.reduceSub, Nat.reduceEqDiff, Nat.reduceLeDiff, Nat.reduceLT, jx_cl, nI_leI, Nat.zero_le, true_and, hm, Nat.le_refl]; omega) | fail) only [jb_132_0, jb_132_12, jb_132_17, jb_132_17_1, jb_132_24, jb_132_29, jb_132_32, jb_132_35, jb_132_40, jb_132_49, jb_132_51, jb_132_57, jb_132_63, jx_nl, jx_nlr, jx_thenS, jx_tlS, jx_tlN, jm_ite_go, jx_rds, jx_rdn, jx_lit, pk_mul, nI_add, nI_pred, pk_sub, jx_na, jx_add0, Nat.reduceMul, Nat.reduceAdd, Nat.reduceSub, Nat.reduceEqDiff, Nat.reduceLeDiff, Nat.reduceLT, Nat.not_lt_zero, jx_cl, nI_leI, nI_ltI, nI_eq, jx_neg, jx_neg', jx_negE, jx_negL, jx_negG, jx_negLE, jx_negN, sb_nlt, sb_nle, jx_b0, jx_b1, jx_bT, jx_bF, ite_true, ite_false, if_true, if_false, reduceIte, Bool.false_eq_true, Bool.true_eq_false, eq_self, Nat.one_ne_zero, Nat.add_sub_cancel, not_true_eq_false, not_false_eq_true, hm, Nat.le_refl]
theorem jx_143 {d m M : Nat} {I : Nat → Nat → Int32} {rho : Nat → Option Nat} {mu : List (Nat × Nat)} (h1 : 1 ≤ M) (h2 : M ≤ m) (hm : m < 100) : jm_ev (d + 1) 143 [.int (nI M), .int (nI 1), .int (nI m)] (jm_hp I rho mu) = some (some (.int (nI 1)), jm_hp I rho mu) := by
  have a : nI 1 ≤ nI M := by rw [nI_leI (by omega) (by omega)]; exact h1
  have b : nI M ≤ nI m := by rw [nI_leI (by omega) (by omega)]; exact h2
  rw [jf_143, decide_eq_true a, decide_eq_true b]; rfl
theorem jx_143n {d m : Nat} {x : Int32} {I : Nat → Nat → Int32} {rho : Nat → Option Nat} {mu : List (Nat × Nat)} (h : x ≤ nI 0 ∨ nI (m + 1) ≤ x) (hm : m < 100) : jm_ev (d + 1) 143 [.int x, .int (nI 1), .int (nI m)] (jm_hp I rho mu) = some (some (.int (nI 0)), jm_hp I rho mu) := by
  rcases h with h | h
  · have a : ¬ nI 1 ≤ x := by
      rw [jx_le] at h ⊢
      rw [jx_ti (by decide)] at h ⊢
      omega
    rw [jf_143, decide_eq_false a]; rfl
  · have a : ¬ x ≤ nI m := by
      rw [jx_le] at h ⊢
      rw [jx_ti (by omega)] at h ⊢
      omega
    rw [jf_143, decide_eq_false a, Bool.and_false]; rfl
theorem jq_together (x y : Int32) : jCall 94 196 [.int x, .int y] := by
  refine jCall_ask fun d H rho mu w m tc ad kd cds hI hmu => ?_
  obtain ⟨h1, h2, -⟩ := hI
  have p3 := h2.1
  have p0 := h2.2.2.1
  have pm6 := h2.2.1
  obtain ⟨t2, u7, tn12⟩ := jR1_c h1
  have hH := jT_H h1.1.1
  have hpw : 1 ≤ 2 ^ m := Nat.two_pow_pos _
  have hp64 : 2 ^ m ≤ 64 := Nat.pow_le_pow_right (j := 6) (by decide) pm6
  have bad : x ≤ nI 0 ∨ nI (2 ^ m) ≤ x → ∃ v J, (jm_ev (d + 60) 94 [.ref 0, .int x, .int y] (jm_hp H rho mu) = some (some v, jm_hp J rho mu) ∧ jG jK H J) ∧ ∃ K, jm_ev (d + 60) 196 [.ref 57, .int x, .int y] (jm_hp J rho mu) = some (some v, jm_hp K rho mu) ∧ jG jK J K := by
    intro hb
    have k143 := @jx_143n (d + 58) (2 ^ m - 1) x H rho mu (by rw [Nat.sub_add_cancel hpw]; exact hb) (by omega)
    refine ⟨.int (-nI 2), H, ⟨?_, jG_rf⟩, H, ?_, jG_rf⟩
    · by_cases z0 : x ≤ nI 0
      · simp (disch := first | assumption | omega | exact jx_bz _ | exact jx_z0 | exact jx_z1 | (refine jx_ixB ?_ ?_; omega; omega) | (simp (disch := first | omega | fail) only [jx_lit, pk_mul, nI_add, nI_pred, pk_sub, jx_na, jx_add0, Nat.reduceMul, Nat.reduceAdd, Nat.reduceSub, Nat.reduceEqDiff, Nat.reduceLeDiff, Nat.reduceLT, z0]; refine jx_ixC ?_ ?_; omega; omega) | (simp (disch := first | omega | fail) only [jx_lit, pk_mul, nI_add, nI_pred, pk_sub, jx_na, jx_add0, Nat.reduceMul, Nat.reduceAdd, Nat.reduceSub, Nat.reduceEqDiff, Nat.reduceLeDiff, Nat.reduceLT, jx_cl, nI_leI, Nat.zero_le, true_and, z0]; omega) | fail) only [je_94, jb_94_0, jb_94_4, jb_94_14, jb_94_18, jb_94_21, jb_94_24, jb_94_29, jb_94_34, jb_94_37, jb_94_52, jb_94_58, jb_94_58_1, jb_94_65, jb_94_71, jb_94_75, jb_94_86, jb_94_89, jb_94_95, jb_94_106, jx_nl, jx_nlr, jx_thenS, jx_tlS, jx_tlN, jm_ite_go, jx_rds, jx_rdn, jx_lit, pk_mul, nI_add, nI_pred, pk_sub, jx_na, jx_add0, Nat.reduceMul, Nat.reduceAdd, Nat.reduceSub, Nat.reduceEqDiff, Nat.reduceLeDiff, Nat.reduceLT, Nat.not_lt_zero, jx_cl, nI_leI, nI_ltI, nI_eq, jx_neg, jx_neg', jx_negE, jx_negL, jx_negG, jx_negLE, jx_negN, sb_nlt, sb_nle, jx_b0, jx_b1, jx_bT, jx_bF, ite_true, ite_false, if_true, if_false, reduceIte, Bool.false_eq_true, Bool.true_eq_false, eq_self, Nat.one_ne_zero, Nat.add_sub_cancel, not_true_eq_false, not_false_eq_true, z0]
      · have z1 : nI (2 ^ m) ≤ x := hb.resolve_left z0
        simp (disch := first | assumption | omega | exact jx_bz _ | exact jx_z0 | exact jx_z1 | (refine jx_ixB ?_ ?_; omega; omega) | (simp (disch := first | omega | fail) only [jx_lit, pk_mul, nI_add, nI_pred, pk_sub, jx_na, jx_add0, Nat.reduceMul, Nat.reduceAdd, Nat.reduceSub, Nat.reduceEqDiff, Nat.reduceLeDiff, Nat.reduceLT, z0, p3, jx_one, z1]; refine jx_ixC ?_ ?_; omega; omega) | (simp (disch := first | omega | fail) only [jx_lit, pk_mul, nI_add, nI_pred, pk_sub, jx_na, jx_add0, Nat.reduceMul, Nat.reduceAdd, Nat.reduceSub, Nat.reduceEqDiff, Nat.reduceLeDiff, Nat.reduceLT, jx_cl, nI_leI, Nat.zero_le, true_and, z0, p3, jx_one, z1]; omega) | fail) only [je_94, jb_94_0, jb_94_4, jb_94_14, jb_94_18, jb_94_21, jb_94_24, jb_94_29, jb_94_34, jb_94_37, jb_94_52, jb_94_58, jb_94_58_1, jb_94_65, jb_94_71, jb_94_75, jb_94_86, jb_94_89, jb_94_95, jb_94_106, jx_nl, jx_nlr, jx_thenS, jx_tlS, jx_tlN, jm_ite_go, jx_rds, jx_rdn, jx_lit, pk_mul, nI_add, nI_pred, pk_sub, jx_na, jx_add0, Nat.reduceMul, Nat.reduceAdd, Nat.reduceSub, Nat.reduceEqDiff, Nat.reduceLeDiff, Nat.reduceLT, Nat.not_lt_zero, jx_cl, nI_leI, nI_ltI, nI_eq, jx_neg, jx_neg', jx_negE, jx_negL, jx_negG, jx_negLE, jx_negN, sb_nlt, sb_nle, jx_b0, jx_b1, jx_bT, jx_bF, ite_true, ite_false, if_true, if_false, reduceIte, Bool.false_eq_true, Bool.true_eq_false, eq_self, Nat.one_ne_zero, Nat.add_sub_cancel, not_true_eq_false, not_false_eq_true, z0, p3, jx_one, z1]
    · simp (disch := first | assumption | omega | exact jx_bz _ | exact jx_z0 | exact jx_z1 | (refine jx_ixB ?_ ?_; omega; omega) | (simp (disch := first | omega | fail) only [jx_lit, pk_mul, nI_add, nI_pred, pk_sub, jx_na, jx_add0, Nat.reduceMul, Nat.reduceAdd, Nat.reduceSub, Nat.reduceEqDiff, Nat.reduceLeDiff, Nat.reduceLT, p0, jx_one, k143]; refine jx_ixC ?_ ?_; omega; omega) | (simp (disch := first | omega | fail) only [jx_lit, pk_mul, nI_add, nI_pred, pk_sub, jx_na, jx_add0, Nat.reduceMul, Nat.reduceAdd, Nat.reduceSub, Nat.reduceEqDiff, Nat.reduceLeDiff, Nat.reduceLT, jx_cl, nI_leI, Nat.zero_le, true_and, p0, jx_one, k143]; omega) | fail) only [je_196, jb_196_0, jb_196_13, jb_196_16, jb_196_20, jb_196_23, jb_196_26, jb_196_46, jb_196_56, jb_196_64, jb_196_78, jb_196_82, jb_196_83, jb_196_104, jb_196_106, jb_196_112, jb_196_117, jb_196_120, jb_196_127, jx_nl, jx_nlr, jx_thenS, jx_tlS, jx_tlN, jm_ite_go, jx_rds, jx_rdn, jx_lit, pk_mul, nI_add, nI_pred, pk_sub, jx_na, jx_add0, Nat.reduceMul, Nat.reduceAdd, Nat.reduceSub, Nat.reduceEqDiff, Nat.reduceLeDiff, Nat.reduceLT, Nat.not_lt_zero, jx_cl, nI_leI, nI_ltI, nI_eq, jx_neg, jx_neg', jx_negE, jx_negL, jx_negG, jx_negLE, jx_negN, sb_nlt, sb_nle, jx_b0, jx_b1, jx_bT, jx_bF, ite_true, ite_false, if_true, if_false, reduceIte, Bool.false_eq_true, Bool.true_eq_false, eq_self, Nat.one_ne_zero, Nat.add_sub_cancel, not_true_eq_false, not_false_eq_true, p0, jx_one, k143]
  rcases jx_rng x (2 ^ m - 1) (by omega) with ⟨hx, hx2, -⟩ | ⟨M, hM, rfl, -⟩
  · refine bad ?_
    rw [Nat.sub_add_cancel hpw] at hx2
    rcases hx2 with hx2 | ⟨-, hx2⟩
    · exact .inl (Int32.le_of_lt hx2)
    · exact .inr hx2
  · rw [Nat.sub_add_cancel hpw] at hM
    by_cases zM : M = 0
    · subst zM
      exact bad (.inl (by decide))
    · have hM1 : 1 ≤ M := by omega
      have k143 := @jx_143 (d + 58) (2 ^ m - 1) M H rho mu hM1 (by omega) (by omega)
      have zc1 : ¬ M ≤ 0 := by omega
      have zc2 : ¬ 2 ^ m ≤ M := by omega
      have zM1 : ¬ nI M ≤ nI 0 := by rw [nI_leI (by omega) (by omega)]; exact zc1
      have zM2 : ¬ nI (2 ^ m) ≤ nI M := by rw [nI_leI (by omega) (by omega)]; exact zc2
      have k119 := @jf_119 (d + 58) H rho mu y
      have k148 := @jf_148 (d + 57) H rho mu y
      cases hy : jx_in y 8 with
      | false =>
        rw [hy] at k119 k148
        exact ⟨.int (-nI 2), H, ⟨by simp (disch := first | assumption | omega | exact jx_bz _ | exact jx_z0 | exact jx_z1 | (refine jx_ixB ?_ ?_; omega; omega) | (simp (disch := first | omega | fail) only [jx_lit, pk_mul, nI_add, nI_pred, pk_sub, jx_na, jx_add0, Nat.reduceMul, Nat.reduceAdd, Nat.reduceSub, Nat.reduceEqDiff, Nat.reduceLeDiff, Nat.reduceLT, zM1, zM2, p3, jx_one, k119]; refine jx_ixC ?_ ?_; omega; omega) | (simp (disch := first | omega | fail) only [jx_lit, pk_mul, nI_add, nI_pred, pk_sub, jx_na, jx_add0, Nat.reduceMul, Nat.reduceAdd, Nat.reduceSub, Nat.reduceEqDiff, Nat.reduceLeDiff, Nat.reduceLT, jx_cl, nI_leI, Nat.zero_le, true_and, zM1, zM2, p3, jx_one, k119]; omega) | fail) only [je_94, jb_94_0, jb_94_4, jb_94_14, jb_94_18, jb_94_21, jb_94_24, jb_94_29, jb_94_34, jb_94_37, jb_94_52, jb_94_58, jb_94_58_1, jb_94_65, jb_94_71, jb_94_75, jb_94_86, jb_94_89, jb_94_95, jb_94_106, jx_nl, jx_nlr, jx_thenS, jx_tlS, jx_tlN, jm_ite_go, jx_rds, jx_rdn, jx_lit, pk_mul, nI_add, nI_pred, pk_sub, jx_na, jx_add0, Nat.reduceMul, Nat.reduceAdd, Nat.reduceSub, Nat.reduceEqDiff, Nat.reduceLeDiff, Nat.reduceLT, Nat.not_lt_zero, jx_cl, nI_leI, nI_ltI, nI_eq, jx_neg, jx_neg', jx_negE, jx_negL, jx_negG, jx_negLE, jx_negN, sb_nlt, sb_nle, jx_b0, jx_b1, jx_bT, jx_bF, ite_true, ite_false, if_true, if_false, reduceIte, Bool.false_eq_true, Bool.true_eq_false, eq_self, Nat.one_ne_zero, Nat.add_sub_cancel, not_true_eq_false, not_false_eq_true, zM1, zM2, p3, jx_one, k119], jG_rf⟩, H, by simp (disch := first | assumption | omega | exact jx_bz _ | exact jx_z0 | exact jx_z1 | (refine jx_ixB ?_ ?_; omega; omega) | (simp (disch := first | omega | fail) only [jx_lit, pk_mul, nI_add, nI_pred, pk_sub, jx_na, jx_add0, Nat.reduceMul, Nat.reduceAdd, Nat.reduceSub, Nat.reduceEqDiff, Nat.reduceLeDiff, Nat.reduceLT, p0, jx_one, k143, k148]; refine jx_ixC ?_ ?_; omega; omega) | (simp (disch := first | omega | fail) only [jx_lit, pk_mul, nI_add, nI_pred, pk_sub, jx_na, jx_add0, Nat.reduceMul, Nat.reduceAdd, Nat.reduceSub, Nat.reduceEqDiff, Nat.reduceLeDiff, Nat.reduceLT, jx_cl, nI_leI, Nat.zero_le, true_and, p0, jx_one, k143, k148]; omega) | fail) only [je_196, jb_196_0, jb_196_13, jb_196_16, jb_196_20, jb_196_23, jb_196_26, jb_196_46, jb_196_56, jb_196_64, jb_196_78, jb_196_82, jb_196_83, jb_196_104, jb_196_106, jb_196_112, jb_196_117, jb_196_120, jb_196_127, jx_nl, jx_nlr, jx_thenS, jx_tlS, jx_tlN, jm_ite_go, jx_rds, jx_rdn, jx_lit, pk_mul, nI_add, nI_pred, pk_sub, jx_na, jx_add0, Nat.reduceMul, Nat.reduceAdd, Nat.reduceSub, Nat.reduceEqDiff, Nat.reduceLeDiff, Nat.reduceLT, Nat.not_lt_zero, jx_cl, nI_leI, nI_ltI, nI_eq, jx_neg, jx_neg', jx_negE, jx_negL, jx_negG, jx_negLE, jx_negN, sb_nlt, sb_nle, jx_b0, jx_b1, jx_bT, jx_bF, ite_true, ite_false, if_true, if_false, reduceIte, Bool.false_eq_true, Bool.true_eq_false, eq_self, Nat.one_ne_zero, Nat.add_sub_cancel, not_true_eq_false, not_false_eq_true, p0, jx_one, k143, k148], jG_rf⟩
      | true =>
        obtain ⟨h, hh, rfl⟩ := jx_in_of (by decide) hy
        rw [hy] at k119 k148
        let P : Nat → Nat → Int32 := fun p => H (ad p)
        have hc : jPc H rho mu (jwn w) m ad kd P := jR2_c h2
        have hms : jPm H (jwn w) m kd P := jR2_m h2
        have k132 := @jf_132 (d + 57) (jwn w) m M H rho mu ad kd P (by omega) hc
        have hat := @js_hs_at M P m fun j hj => (hc.2.2 j hj).2.2.2.1.2.1
        have hfrom : ∃ f, f < 8 ∧ (js_hs M P m).2 = nI f := by
          rcases hat with ⟨-, hz⟩ | hz
          · exfalso
            have : M = 0 := Nat.eq_of_testBit_eq fun i => by
              rw [Nat.zero_testBit]
              by_cases hi : i < m
              · exact hz i hi
              · exact Nat.testBit_lt_two_pow (Nat.lt_of_lt_of_le hM (Nat.pow_le_pow_right (by decide) (by omega)))
            exact zM this
          · exact hz
        obtain ⟨f, hf, hf2⟩ := hfrom
        rw [hf2] at k132
        have hlm : ∀ J, jR1 J w → jPm J (jwn w) m kd P → ∃ L, jm_go (jm_ev (d + 59)) 196 (37, [some (.ref 57), some (.int (nI M)), some (.int (nI h)), some (.int (nI 0)), some (.int (-nI 1)), some (.int (nI 0)), some (.int (nI 0))], [], jm_hp J rho mu) = jm_go (jm_ev (d + 59)) 196 (37, [some (.ref 57), some (.int (nI M)), some (.int (nI h)), some (.int (nI (js_os w kd P M m))), some (.int (js_hs M P m).2), some (.int (jx_b (js_hs M P m).1)), some (.int (nI m))], [], jm_hp L rho mu) ∧ jG jS_m J L := by
          intro J r1 hpm
          obtain ⟨L, e, g⟩ := jx_for (E := jm_ev (d + 59)) (y := 196) m (fun k L => (37, [some (.ref 57), some (.int (nI M)), some (.int (nI h)), some (.int (nI (js_os w kd P M k))), some (.int (js_hs M P k).2), some (.int (jx_b (js_hs M P k).1)), some (.int (nI k))], [], jm_hp L rho mu)) (fun k L => jG jS_m J L) (fun k L hk hg => by
            obtain ⟨hm, -, hP⟩ := jPm_m hpm hg
            obtain ⟨a1, a2, a3⟩ := hP k hk
            have zn : ¬ m ≤ k := by omega
            have hbit := jx_bit (S := M) (i := k) (by omega) (by omega)
            rcases Bool.eq_false_or_eq_true (M.testBit k) with zq | zq
            · obtain ⟨-, ⟨g8, hg8, hg2⟩, -, -, S2, hS3, h52⟩ := id a2
              have hS4 := Nat.lt_of_lt_of_le hS3 (jx_pow12 tn12)
              obtain ⟨K, f1, f2⟩ := jf_180 (d := d + 53) (rho := rho) (mu := mu) (jMt_m r1.2 hg) (show k < 6 by omega) a1 a3 h52 hS4
              have q60 := a3.2.2.1
              rw [hg2] at q60
              have q60K : K 60 (4 * k) = nI g8 := by rw [f2 60 _ (jS_mZ (by omega))]; exact q60
              refine ⟨K, ?_, jG_tr hg f2⟩
              rw [jb_196_37, js_hs_T zq, js_os_T zq]
              dsimp only
              rw [hg2]
              by_cases z1 : (js_hs M P k).2 = -nI 1
              · rw [z1]
                cases zb : (js_hs M P k).1 with
                | true => simp (disch := first | assumption | omega | exact jx_bz _ | exact jx_z0 | exact jx_z1 | (refine jx_ixB ?_ ?_; omega; omega) | (simp (disch := first | omega | fail) only [jx_lit, pk_mul, nI_add, nI_pred, pk_sub, jx_na, jx_add0, Nat.reduceMul, Nat.reduceAdd, Nat.reduceSub, Nat.reduceEqDiff, Nat.reduceLeDiff, Nat.reduceLT, hm, zn, hbit, zq, q60, f1, q60K, fa_or, decide_true, Bool.not_true, Bool.false_and, Bool.or_false, Nat.or_zero, Nat.zero_or]; refine jx_ixC ?_ ?_; omega; omega) | (simp (disch := first | omega | fail) only [jx_lit, pk_mul, nI_add, nI_pred, pk_sub, jx_na, jx_add0, Nat.reduceMul, Nat.reduceAdd, Nat.reduceSub, Nat.reduceEqDiff, Nat.reduceLeDiff, Nat.reduceLT, jx_cl, nI_leI, Nat.zero_le, true_and, hm, zn, hbit, zq, q60, f1, q60K, fa_or, decide_true, Bool.not_true, Bool.false_and, Bool.or_false, Nat.or_zero, Nat.zero_or]; omega) | fail) only [jb_196_0, jb_196_13, jb_196_16, jb_196_20, jb_196_23, jb_196_26, jb_196_46, jb_196_56, jb_196_64, jb_196_78, jb_196_82, jb_196_83, jb_196_104, jb_196_106, jb_196_112, jb_196_117, jb_196_120, jb_196_127, jx_nl, jx_nlr, jx_thenS, jx_tlS, jx_tlN, jm_ite_go, jx_rds, jx_rdn, jx_lit, pk_mul, nI_add, nI_pred, pk_sub, jx_na, jx_add0, Nat.reduceMul, Nat.reduceAdd, Nat.reduceSub, Nat.reduceEqDiff, Nat.reduceLeDiff, Nat.reduceLT, Nat.not_lt_zero, jx_cl, nI_leI, nI_ltI, nI_eq, jx_neg, jx_neg', jx_negE, jx_negL, jx_negG, jx_negLE, jx_negN, sb_nlt, sb_nle, jx_b0, jx_b1, jx_bT, jx_bF, ite_true, ite_false, if_true, if_false, reduceIte, Bool.false_eq_true, Bool.true_eq_false, eq_self, Nat.one_ne_zero, Nat.add_sub_cancel, not_true_eq_false, not_false_eq_true, hm, zn, hbit, zq, q60, f1, q60K, fa_or, decide_true, Bool.not_true, Bool.false_and, Bool.or_false, Nat.or_zero, Nat.zero_or]
                | false => simp (disch := first | assumption | omega | exact jx_bz _ | exact jx_z0 | exact jx_z1 | (refine jx_ixB ?_ ?_; omega; omega) | (simp (disch := first | omega | fail) only [jx_lit, pk_mul, nI_add, nI_pred, pk_sub, jx_na, jx_add0, Nat.reduceMul, Nat.reduceAdd, Nat.reduceSub, Nat.reduceEqDiff, Nat.reduceLeDiff, Nat.reduceLT, hm, zn, hbit, zq, q60, f1, q60K, fa_or, decide_true, Bool.not_true, Bool.false_and, Bool.or_false, Nat.or_zero, Nat.zero_or]; refine jx_ixC ?_ ?_; omega; omega) | (simp (disch := first | omega | fail) only [jx_lit, pk_mul, nI_add, nI_pred, pk_sub, jx_na, jx_add0, Nat.reduceMul, Nat.reduceAdd, Nat.reduceSub, Nat.reduceEqDiff, Nat.reduceLeDiff, Nat.reduceLT, jx_cl, nI_leI, Nat.zero_le, true_and, hm, zn, hbit, zq, q60, f1, q60K, fa_or, decide_true, Bool.not_true, Bool.false_and, Bool.or_false, Nat.or_zero, Nat.zero_or]; omega) | fail) only [jb_196_0, jb_196_13, jb_196_16, jb_196_20, jb_196_23, jb_196_26, jb_196_46, jb_196_56, jb_196_64, jb_196_78, jb_196_82, jb_196_83, jb_196_104, jb_196_106, jb_196_112, jb_196_117, jb_196_120, jb_196_127, jx_nl, jx_nlr, jx_thenS, jx_tlS, jx_tlN, jm_ite_go, jx_rds, jx_rdn, jx_lit, pk_mul, nI_add, nI_pred, pk_sub, jx_na, jx_add0, Nat.reduceMul, Nat.reduceAdd, Nat.reduceSub, Nat.reduceEqDiff, Nat.reduceLeDiff, Nat.reduceLT, Nat.not_lt_zero, jx_cl, nI_leI, nI_ltI, nI_eq, jx_neg, jx_neg', jx_negE, jx_negL, jx_negG, jx_negLE, jx_negN, sb_nlt, sb_nle, jx_b0, jx_b1, jx_bT, jx_bF, ite_true, ite_false, if_true, if_false, reduceIte, Bool.false_eq_true, Bool.true_eq_false, eq_self, Nat.one_ne_zero, Nat.add_sub_cancel, not_true_eq_false, not_false_eq_true, hm, zn, hbit, zq, q60, f1, q60K, fa_or, decide_true, Bool.not_true, Bool.false_and, Bool.or_false, Nat.or_zero, Nat.zero_or]
              · by_cases z2 : (js_hs M P k).2 = nI g8
                · rw [z2]
                  cases zb : (js_hs M P k).1 with
                  | true => simp (disch := first | assumption | omega | exact jx_bz _ | exact jx_z0 | exact jx_z1 | (refine jx_ixB ?_ ?_; omega; omega) | (simp (disch := first | omega | fail) only [jx_lit, pk_mul, nI_add, nI_pred, pk_sub, jx_na, jx_add0, Nat.reduceMul, Nat.reduceAdd, Nat.reduceSub, Nat.reduceEqDiff, Nat.reduceLeDiff, Nat.reduceLT, hm, zn, hbit, zq, q60, f1, q60K, fa_or, decide_true, Bool.not_true, Bool.and_false, Bool.or_false, Nat.or_zero, Nat.zero_or]; refine jx_ixC ?_ ?_; omega; omega) | (simp (disch := first | omega | fail) only [jx_lit, pk_mul, nI_add, nI_pred, pk_sub, jx_na, jx_add0, Nat.reduceMul, Nat.reduceAdd, Nat.reduceSub, Nat.reduceEqDiff, Nat.reduceLeDiff, Nat.reduceLT, jx_cl, nI_leI, Nat.zero_le, true_and, hm, zn, hbit, zq, q60, f1, q60K, fa_or, decide_true, Bool.not_true, Bool.and_false, Bool.or_false, Nat.or_zero, Nat.zero_or]; omega) | fail) only [jb_196_0, jb_196_13, jb_196_16, jb_196_20, jb_196_23, jb_196_26, jb_196_46, jb_196_56, jb_196_64, jb_196_78, jb_196_82, jb_196_83, jb_196_104, jb_196_106, jb_196_112, jb_196_117, jb_196_120, jb_196_127, jx_nl, jx_nlr, jx_thenS, jx_tlS, jx_tlN, jm_ite_go, jx_rds, jx_rdn, jx_lit, pk_mul, nI_add, nI_pred, pk_sub, jx_na, jx_add0, Nat.reduceMul, Nat.reduceAdd, Nat.reduceSub, Nat.reduceEqDiff, Nat.reduceLeDiff, Nat.reduceLT, Nat.not_lt_zero, jx_cl, nI_leI, nI_ltI, nI_eq, jx_neg, jx_neg', jx_negE, jx_negL, jx_negG, jx_negLE, jx_negN, sb_nlt, sb_nle, jx_b0, jx_b1, jx_bT, jx_bF, ite_true, ite_false, if_true, if_false, reduceIte, Bool.false_eq_true, Bool.true_eq_false, eq_self, Nat.one_ne_zero, Nat.add_sub_cancel, not_true_eq_false, not_false_eq_true, hm, zn, hbit, zq, q60, f1, q60K, fa_or, decide_true, Bool.not_true, Bool.and_false, Bool.or_false, Nat.or_zero, Nat.zero_or]
                  | false => simp (disch := first | assumption | omega | exact jx_bz _ | exact jx_z0 | exact jx_z1 | (refine jx_ixB ?_ ?_; omega; omega) | (simp (disch := first | omega | fail) only [jx_lit, pk_mul, nI_add, nI_pred, pk_sub, jx_na, jx_add0, Nat.reduceMul, Nat.reduceAdd, Nat.reduceSub, Nat.reduceEqDiff, Nat.reduceLeDiff, Nat.reduceLT, hm, zn, hbit, zq, q60, f1, q60K, fa_or, decide_true, Bool.not_true, Bool.and_false, Bool.or_false, Nat.or_zero, Nat.zero_or]; refine jx_ixC ?_ ?_; omega; omega) | (simp (disch := first | omega | fail) only [jx_lit, pk_mul, nI_add, nI_pred, pk_sub, jx_na, jx_add0, Nat.reduceMul, Nat.reduceAdd, Nat.reduceSub, Nat.reduceEqDiff, Nat.reduceLeDiff, Nat.reduceLT, jx_cl, nI_leI, Nat.zero_le, true_and, hm, zn, hbit, zq, q60, f1, q60K, fa_or, decide_true, Bool.not_true, Bool.and_false, Bool.or_false, Nat.or_zero, Nat.zero_or]; omega) | fail) only [jb_196_0, jb_196_13, jb_196_16, jb_196_20, jb_196_23, jb_196_26, jb_196_46, jb_196_56, jb_196_64, jb_196_78, jb_196_82, jb_196_83, jb_196_104, jb_196_106, jb_196_112, jb_196_117, jb_196_120, jb_196_127, jx_nl, jx_nlr, jx_thenS, jx_tlS, jx_tlN, jm_ite_go, jx_rds, jx_rdn, jx_lit, pk_mul, nI_add, nI_pred, pk_sub, jx_na, jx_add0, Nat.reduceMul, Nat.reduceAdd, Nat.reduceSub, Nat.reduceEqDiff, Nat.reduceLeDiff, Nat.reduceLT, Nat.not_lt_zero, jx_cl, nI_leI, nI_ltI, nI_eq, jx_neg, jx_neg', jx_negE, jx_negL, jx_negG, jx_negLE, jx_negN, sb_nlt, sb_nle, jx_b0, jx_b1, jx_bT, jx_bF, ite_true, ite_false, if_true, if_false, reduceIte, Bool.false_eq_true, Bool.true_eq_false, eq_self, Nat.one_ne_zero, Nat.add_sub_cancel, not_true_eq_false, not_false_eq_true, hm, zn, hbit, zq, q60, f1, q60K, fa_or, decide_true, Bool.not_true, Bool.and_false, Bool.or_false, Nat.or_zero, Nat.zero_or]
                · rw [decide_eq_false z1, decide_eq_false z2]
                  cases zb : (js_hs M P k).1 with
                  | true => simp (disch := first | assumption | omega | exact jx_bz _ | exact jx_z0 | exact jx_z1 | (refine jx_ixB ?_ ?_; omega; omega) | (simp (disch := first | omega | fail) only [jx_lit, pk_mul, nI_add, nI_pred, pk_sub, jx_na, jx_add0, Nat.reduceMul, Nat.reduceAdd, Nat.reduceSub, Nat.reduceEqDiff, Nat.reduceLeDiff, Nat.reduceLT, hm, zn, hbit, zq, q60, f1, q60K, fa_or, z1, z2, Bool.not_false, Bool.and_true, Bool.or_true, Nat.or_self, Nat.zero_or]; refine jx_ixC ?_ ?_; omega; omega) | (simp (disch := first | omega | fail) only [jx_lit, pk_mul, nI_add, nI_pred, pk_sub, jx_na, jx_add0, Nat.reduceMul, Nat.reduceAdd, Nat.reduceSub, Nat.reduceEqDiff, Nat.reduceLeDiff, Nat.reduceLT, jx_cl, nI_leI, Nat.zero_le, true_and, hm, zn, hbit, zq, q60, f1, q60K, fa_or, z1, z2, Bool.not_false, Bool.and_true, Bool.or_true, Nat.or_self, Nat.zero_or]; omega) | fail) only [jb_196_0, jb_196_13, jb_196_16, jb_196_20, jb_196_23, jb_196_26, jb_196_46, jb_196_56, jb_196_64, jb_196_78, jb_196_82, jb_196_83, jb_196_104, jb_196_106, jb_196_112, jb_196_117, jb_196_120, jb_196_127, jx_nl, jx_nlr, jx_thenS, jx_tlS, jx_tlN, jm_ite_go, jx_rds, jx_rdn, jx_lit, pk_mul, nI_add, nI_pred, pk_sub, jx_na, jx_add0, Nat.reduceMul, Nat.reduceAdd, Nat.reduceSub, Nat.reduceEqDiff, Nat.reduceLeDiff, Nat.reduceLT, Nat.not_lt_zero, jx_cl, nI_leI, nI_ltI, nI_eq, jx_neg, jx_neg', jx_negE, jx_negL, jx_negG, jx_negLE, jx_negN, sb_nlt, sb_nle, jx_b0, jx_b1, jx_bT, jx_bF, ite_true, ite_false, if_true, if_false, reduceIte, Bool.false_eq_true, Bool.true_eq_false, eq_self, Nat.one_ne_zero, Nat.add_sub_cancel, not_true_eq_false, not_false_eq_true, hm, zn, hbit, zq, q60, f1, q60K, fa_or, z1, z2, Bool.not_false, Bool.and_true, Bool.or_true, Nat.or_self, Nat.zero_or]
                  | false => simp (disch := first | assumption | omega | exact jx_bz _ | exact jx_z0 | exact jx_z1 | (refine jx_ixB ?_ ?_; omega; omega) | (simp (disch := first | omega | fail) only [jx_lit, pk_mul, nI_add, nI_pred, pk_sub, jx_na, jx_add0, Nat.reduceMul, Nat.reduceAdd, Nat.reduceSub, Nat.reduceEqDiff, Nat.reduceLeDiff, Nat.reduceLT, hm, zn, hbit, zq, q60, f1, q60K, fa_or, z1, z2, Bool.not_false, Bool.and_true, Bool.or_true, Nat.or_self, Nat.zero_or]; refine jx_ixC ?_ ?_; omega; omega) | (simp (disch := first | omega | fail) only [jx_lit, pk_mul, nI_add, nI_pred, pk_sub, jx_na, jx_add0, Nat.reduceMul, Nat.reduceAdd, Nat.reduceSub, Nat.reduceEqDiff, Nat.reduceLeDiff, Nat.reduceLT, jx_cl, nI_leI, Nat.zero_le, true_and, hm, zn, hbit, zq, q60, f1, q60K, fa_or, z1, z2, Bool.not_false, Bool.and_true, Bool.or_true, Nat.or_self, Nat.zero_or]; omega) | fail) only [jb_196_0, jb_196_13, jb_196_16, jb_196_20, jb_196_23, jb_196_26, jb_196_46, jb_196_56, jb_196_64, jb_196_78, jb_196_82, jb_196_83, jb_196_104, jb_196_106, jb_196_112, jb_196_117, jb_196_120, jb_196_127, jx_nl, jx_nlr, jx_thenS, jx_tlS, jx_tlN, jm_ite_go, jx_rds, jx_rdn, jx_lit, pk_mul, nI_add, nI_pred, pk_sub, jx_na, jx_add0, Nat.reduceMul, Nat.reduceAdd, Nat.reduceSub, Nat.reduceEqDiff, Nat.reduceLeDiff, Nat.reduceLT, Nat.not_lt_zero, jx_cl, nI_leI, nI_ltI, nI_eq, jx_neg, jx_neg', jx_negE, jx_negL, jx_negG, jx_negLE, jx_negN, sb_nlt, sb_nle, jx_b0, jx_b1, jx_bT, jx_bF, ite_true, ite_false, if_true, if_false, reduceIte, Bool.false_eq_true, Bool.true_eq_false, eq_self, Nat.one_ne_zero, Nat.add_sub_cancel, not_true_eq_false, not_false_eq_true, hm, zn, hbit, zq, q60, f1, q60K, fa_or, z1, z2, Bool.not_false, Bool.and_true, Bool.or_true, Nat.or_self, Nat.zero_or]
            · refine ⟨L, ?_, hg⟩
              rw [jb_196_37, js_hs_F zq, js_os_F zq]
              simp (disch := first | assumption | omega | exact jx_bz _ | exact jx_z0 | exact jx_z1 | (refine jx_ixB ?_ ?_; omega; omega) | (simp (disch := first | omega | fail) only [jx_lit, pk_mul, nI_add, nI_pred, pk_sub, jx_na, jx_add0, Nat.reduceMul, Nat.reduceAdd, Nat.reduceSub, Nat.reduceEqDiff, Nat.reduceLeDiff, Nat.reduceLT, hm, zn, hbit, zq]; refine jx_ixC ?_ ?_; omega; omega) | (simp (disch := first | omega | fail) only [jx_lit, pk_mul, nI_add, nI_pred, pk_sub, jx_na, jx_add0, Nat.reduceMul, Nat.reduceAdd, Nat.reduceSub, Nat.reduceEqDiff, Nat.reduceLeDiff, Nat.reduceLT, jx_cl, nI_leI, Nat.zero_le, true_and, hm, zn, hbit, zq]; omega) | fail) only [jb_196_0, jb_196_13, jb_196_16, jb_196_20, jb_196_23, jb_196_26, jb_196_46, jb_196_56, jb_196_64, jb_196_78, jb_196_82, jb_196_83, jb_196_104, jb_196_106, jb_196_112, jb_196_117, jb_196_120, jb_196_127, jx_nl, jx_nlr, jx_thenS, jx_tlS, jx_tlN, jm_ite_go, jx_rds, jx_rdn, jx_lit, pk_mul, nI_add, nI_pred, pk_sub, jx_na, jx_add0, Nat.reduceMul, Nat.reduceAdd, Nat.reduceSub, Nat.reduceEqDiff, Nat.reduceLeDiff, Nat.reduceLT, Nat.not_lt_zero, jx_cl, nI_leI, nI_ltI, nI_eq, jx_neg, jx_neg', jx_negE, jx_negL, jx_negG, jx_negLE, jx_negN, sb_nlt, sb_nle, jx_b0, jx_b1, jx_bT, jx_bF, ite_true, ite_false, if_true, if_false, reduceIte, Bool.false_eq_true, Bool.true_eq_false, eq_self, Nat.one_ne_zero, Nat.add_sub_cancel, not_true_eq_false, not_false_eq_true, hm, zn, hbit, zq]) m 0 J (Nat.zero_add _) jG_rf
          exact ⟨L, e, g⟩
        have pre : ∀ J, jG jK H J → (jm_ev (d + 60) 196 [.ref 57, .int (nI M), .int (nI h)] (jm_hp J rho mu) = jm_go (jm_ev (d + 59)) 196 (37, [some (.ref 57), some (.int (nI M)), some (.int (nI h)), some (.int (nI 0)), some (.int (-nI 1)), some (.int (nI 0)), some (.int (nI 0))], [], jm_hp J rho mu)) := by
          intro J gJ
          obtain ⟨r1, r2, r3⟩ := jR_K h1 h2 gJ hmu
          have p0J := r2.2.2.1
          have k143 := @jx_143 (d + 58) (2 ^ m - 1) M J rho mu hM1 (by omega) (by omega)
          have k148 := @jf_148 (d + 57) J rho mu (nI h)
          rw [hy] at k148
          simp (disch := first | assumption | omega | exact jx_bz _ | exact jx_z0 | exact jx_z1 | (refine jx_ixB ?_ ?_; omega; omega) | (simp (disch := first | omega | fail) only [jx_lit, pk_mul, nI_add, nI_pred, pk_sub, jx_na, jx_add0, Nat.reduceMul, Nat.reduceAdd, Nat.reduceSub, Nat.reduceEqDiff, Nat.reduceLeDiff, Nat.reduceLT, p0J, jx_one, k143, k148]; refine jx_ixC ?_ ?_; omega; omega) | (simp (disch := first | omega | fail) only [jx_lit, pk_mul, nI_add, nI_pred, pk_sub, jx_na, jx_add0, Nat.reduceMul, Nat.reduceAdd, Nat.reduceSub, Nat.reduceEqDiff, Nat.reduceLeDiff, Nat.reduceLT, jx_cl, nI_leI, Nat.zero_le, true_and, p0J, jx_one, k143, k148]; omega) | fail) only [je_196, jb_196_0, jb_196_13, jb_196_16, jb_196_20, jb_196_23, jb_196_26, jb_196_46, jb_196_56, jb_196_64, jb_196_78, jb_196_82, jb_196_83, jb_196_104, jb_196_106, jb_196_112, jb_196_117, jb_196_120, jb_196_127, jx_nl, jx_nlr, jx_thenS, jx_tlS, jx_tlN, jm_ite_go, jx_rds, jx_rdn, jx_lit, pk_mul, nI_add, nI_pred, pk_sub, jx_na, jx_add0, Nat.reduceMul, Nat.reduceAdd, Nat.reduceSub, Nat.reduceEqDiff, Nat.reduceLeDiff, Nat.reduceLT, Nat.not_lt_zero, jx_cl, nI_leI, nI_ltI, nI_eq, jx_neg, jx_neg', jx_negE, jx_negL, jx_negG, jx_negLE, jx_negN, sb_nlt, sb_nle, jx_b0, jx_b1, jx_bT, jx_bF, ite_true, ite_false, if_true, if_false, reduceIte, Bool.false_eq_true, Bool.true_eq_false, eq_self, Nat.one_ne_zero, Nat.add_sub_cancel, not_true_eq_false, not_false_eq_true, p0J, jx_one, k143, k148]
        rcases Bool.eq_false_or_eq_true (js_hs M P m).1 with zb | zb
        · rw [zb, if_pos rfl] at k132
          obtain ⟨L, e6, gL⟩ := hlm H h1 hms
          have hmL := (jPm_m hms gL).1
          refine ⟨.int (-nI 3), H, ⟨?_, jG_rf⟩, L, ?_, jG_Km gL⟩
          · simp (disch := first | assumption | omega | exact jx_bz _ | exact jx_z0 | exact jx_z1 | (refine jx_ixB ?_ ?_; omega; omega) | (simp (disch := first | omega | fail) only [jx_lit, pk_mul, nI_add, nI_pred, pk_sub, jx_na, jx_add0, Nat.reduceMul, Nat.reduceAdd, Nat.reduceSub, Nat.reduceEqDiff, Nat.reduceLeDiff, Nat.reduceLT, zM1, zM2, p3, jx_one, k119, k132]; refine jx_ixC ?_ ?_; omega; omega) | (simp (disch := first | omega | fail) only [jx_lit, pk_mul, nI_add, nI_pred, pk_sub, jx_na, jx_add0, Nat.reduceMul, Nat.reduceAdd, Nat.reduceSub, Nat.reduceEqDiff, Nat.reduceLeDiff, Nat.reduceLT, jx_cl, nI_leI, Nat.zero_le, true_and, zM1, zM2, p3, jx_one, k119, k132]; omega) | fail) only [je_94, jb_94_0, jb_94_4, jb_94_14, jb_94_18, jb_94_21, jb_94_24, jb_94_29, jb_94_34, jb_94_37, jb_94_52, jb_94_58, jb_94_58_1, jb_94_65, jb_94_71, jb_94_75, jb_94_86, jb_94_89, jb_94_95, jb_94_106, jx_nl, jx_nlr, jx_thenS, jx_tlS, jx_tlN, jm_ite_go, jx_rds, jx_rdn, jx_lit, pk_mul, nI_add, nI_pred, pk_sub, jx_na, jx_add0, Nat.reduceMul, Nat.reduceAdd, Nat.reduceSub, Nat.reduceEqDiff, Nat.reduceLeDiff, Nat.reduceLT, Nat.not_lt_zero, jx_cl, nI_leI, nI_ltI, nI_eq, jx_neg, jx_neg', jx_negE, jx_negL, jx_negG, jx_negLE, jx_negN, sb_nlt, sb_nle, jx_b0, jx_b1, jx_bT, jx_bF, ite_true, ite_false, if_true, if_false, reduceIte, Bool.false_eq_true, Bool.true_eq_false, eq_self, Nat.one_ne_zero, Nat.add_sub_cancel, not_true_eq_false, not_false_eq_true, zM1, zM2, p3, jx_one, k119, k132]
          · rw [pre H jG_rf, e6, jb_196_37, zb]
            simp (disch := first | assumption | omega | exact jx_bz _ | exact jx_z0 | exact jx_z1 | (refine jx_ixB ?_ ?_; omega; omega) | (simp (disch := first | omega | fail) only [jx_lit, pk_mul, nI_add, nI_pred, pk_sub, jx_na, jx_add0, Nat.reduceMul, Nat.reduceAdd, Nat.reduceSub, Nat.reduceEqDiff, Nat.reduceLeDiff, Nat.reduceLT, hmL, Nat.le_refl]; refine jx_ixC ?_ ?_; omega; omega) | (simp (disch := first | omega | fail) only [jx_lit, pk_mul, nI_add, nI_pred, pk_sub, jx_na, jx_add0, Nat.reduceMul, Nat.reduceAdd, Nat.reduceSub, Nat.reduceEqDiff, Nat.reduceLeDiff, Nat.reduceLT, jx_cl, nI_leI, Nat.zero_le, true_and, hmL, Nat.le_refl]; omega) | fail) only [jb_196_0, jb_196_13, jb_196_16, jb_196_20, jb_196_23, jb_196_26, jb_196_46, jb_196_56, jb_196_64, jb_196_78, jb_196_82, jb_196_83, jb_196_104, jb_196_106, jb_196_112, jb_196_117, jb_196_120, jb_196_127, jx_nl, jx_nlr, jx_thenS, jx_tlS, jx_tlN, jm_ite_go, jx_rds, jx_rdn, jx_lit, pk_mul, nI_add, nI_pred, pk_sub, jx_na, jx_add0, Nat.reduceMul, Nat.reduceAdd, Nat.reduceSub, Nat.reduceEqDiff, Nat.reduceLeDiff, Nat.reduceLT, Nat.not_lt_zero, jx_cl, nI_leI, nI_ltI, nI_eq, jx_neg, jx_neg', jx_negE, jx_negL, jx_negG, jx_negLE, jx_negN, sb_nlt, sb_nle, jx_b0, jx_b1, jx_bT, jx_bF, ite_true, ite_false, if_true, if_false, reduceIte, Bool.false_eq_true, Bool.true_eq_false, eq_self, Nat.one_ne_zero, Nat.add_sub_cancel, not_true_eq_false, not_false_eq_true, hmL, Nat.le_refl]
        · rw [zb, if_neg (by decide)] at k132
          have lc : ∃ J v6, jm_go (jm_ev (d + 59)) 94 (43, [some (.ref 0), some (.int (nI M)), some (.int (nI h)), some (.int (nI f)), some (.int (nI 0)), some (.int (nI 0)), none], [], jm_hp H rho mu) = jm_go (jm_ev (d + 59)) 94 (43, [some (.ref 0), some (.int (nI M)), some (.int (nI h)), some (.int (nI f)), some (.int (nI (js_os w kd P M m))), some (.int (nI m)), v6], [], jm_hp J rho mu) ∧ jG jS_st H J := by
            obtain ⟨⟨J, v6⟩, e, g⟩ := jx_for (E := jm_ev (d + 59)) (y := 94) (σ := (Nat → Nat → Int32) × Option Value) m (fun k s => (43, [some (.ref 0), some (.int (nI M)), some (.int (nI h)), some (.int (nI f)), some (.int (nI (js_os w kd P M k))), some (.int (nI k)), s.2], [], jm_hp s.1 rho mu)) (fun k s => jG jS_st H s.1) (fun k s hk hg => by
              obtain ⟨J, v6⟩ := s
              dsimp only at hg ⊢
              obtain ⟨hm, -, hP⟩ := jPc_st hc hg
              obtain ⟨a1, a2, a3, a4, a5⟩ := hP k hk
              have k128 := @jf_128 (d + 58) m k (ad k) J rho mu hm pm6 hk a1
              have k123 := @jf_123N (d + 58) J rho mu M k (by omega) (by omega)
              have zn : ¬ m ≤ k := by omega
              rcases Bool.eq_false_or_eq_true (M.testBit k) with zq | zq
              · obtain ⟨-, -, -, -, S2, hS3, h52⟩ := id a4
                have hS4 := Nat.lt_of_lt_of_le hS3 (jx_pow12 tn12)
                obtain ⟨K, f1, f2⟩ := jf_67 (d := d + 53) (rho := rho) (mu := mu) (jCt_st h1.1 hg) a2 (by rw [a5]; exact h52) hS4
                rw [a5] at f1
                refine ⟨(K, some (.ref (ad k))), ?_, jG_tr hg f2⟩
                rw [jb_94_43, js_os_T zq]
                simp (disch := first | assumption | omega | exact jx_bz _ | exact jx_z0 | exact jx_z1 | (refine jx_ixB ?_ ?_; omega; omega) | (simp (disch := first | omega | fail) only [jx_lit, pk_mul, nI_add, nI_pred, pk_sub, jx_na, jx_add0, Nat.reduceMul, Nat.reduceAdd, Nat.reduceSub, Nat.reduceEqDiff, Nat.reduceLeDiff, Nat.reduceLT, hm, zn, k128, k123, zq, f1, fa_or]; refine jx_ixC ?_ ?_; omega; omega) | (simp (disch := first | omega | fail) only [jx_lit, pk_mul, nI_add, nI_pred, pk_sub, jx_na, jx_add0, Nat.reduceMul, Nat.reduceAdd, Nat.reduceSub, Nat.reduceEqDiff, Nat.reduceLeDiff, Nat.reduceLT, jx_cl, nI_leI, Nat.zero_le, true_and, hm, zn, k128, k123, zq, f1, fa_or]; omega) | fail) only [jb_94_0, jb_94_4, jb_94_14, jb_94_18, jb_94_21, jb_94_24, jb_94_29, jb_94_34, jb_94_37, jb_94_52, jb_94_58, jb_94_58_1, jb_94_65, jb_94_71, jb_94_75, jb_94_86, jb_94_89, jb_94_95, jb_94_106, jx_nl, jx_nlr, jx_thenS, jx_tlS, jx_tlN, jm_ite_go, jx_rds, jx_rdn, jx_lit, pk_mul, nI_add, nI_pred, pk_sub, jx_na, jx_add0, Nat.reduceMul, Nat.reduceAdd, Nat.reduceSub, Nat.reduceEqDiff, Nat.reduceLeDiff, Nat.reduceLT, Nat.not_lt_zero, jx_cl, nI_leI, nI_ltI, nI_eq, jx_neg, jx_neg', jx_negE, jx_negL, jx_negG, jx_negLE, jx_negN, sb_nlt, sb_nle, jx_b0, jx_b1, jx_bT, jx_bF, ite_true, ite_false, if_true, if_false, reduceIte, Bool.false_eq_true, Bool.true_eq_false, eq_self, Nat.one_ne_zero, Nat.add_sub_cancel, not_true_eq_false, not_false_eq_true, hm, zn, k128, k123, zq, f1, fa_or]
              · refine ⟨(J, some (.ref (ad k))), ?_, hg⟩
                rw [jb_94_43, js_os_F zq]
                simp (disch := first | assumption | omega | exact jx_bz _ | exact jx_z0 | exact jx_z1 | (refine jx_ixB ?_ ?_; omega; omega) | (simp (disch := first | omega | fail) only [jx_lit, pk_mul, nI_add, nI_pred, pk_sub, jx_na, jx_add0, Nat.reduceMul, Nat.reduceAdd, Nat.reduceSub, Nat.reduceEqDiff, Nat.reduceLeDiff, Nat.reduceLT, hm, zn, k128, k123, zq]; refine jx_ixC ?_ ?_; omega; omega) | (simp (disch := first | omega | fail) only [jx_lit, pk_mul, nI_add, nI_pred, pk_sub, jx_na, jx_add0, Nat.reduceMul, Nat.reduceAdd, Nat.reduceSub, Nat.reduceEqDiff, Nat.reduceLeDiff, Nat.reduceLT, jx_cl, nI_leI, Nat.zero_le, true_and, hm, zn, k128, k123, zq]; omega) | fail) only [jb_94_0, jb_94_4, jb_94_14, jb_94_18, jb_94_21, jb_94_24, jb_94_29, jb_94_34, jb_94_37, jb_94_52, jb_94_58, jb_94_58_1, jb_94_65, jb_94_71, jb_94_75, jb_94_86, jb_94_89, jb_94_95, jb_94_106, jx_nl, jx_nlr, jx_thenS, jx_tlS, jx_tlN, jm_ite_go, jx_rds, jx_rdn, jx_lit, pk_mul, nI_add, nI_pred, pk_sub, jx_na, jx_add0, Nat.reduceMul, Nat.reduceAdd, Nat.reduceSub, Nat.reduceEqDiff, Nat.reduceLeDiff, Nat.reduceLT, Nat.not_lt_zero, jx_cl, nI_leI, nI_ltI, nI_eq, jx_neg, jx_neg', jx_negE, jx_negL, jx_negG, jx_negLE, jx_negN, sb_nlt, sb_nle, jx_b0, jx_b1, jx_bT, jx_bF, ite_true, ite_false, if_true, if_false, reduceIte, Bool.false_eq_true, Bool.true_eq_false, eq_self, Nat.one_ne_zero, Nat.add_sub_cancel, not_true_eq_false, not_false_eq_true, hm, zn, k128, k123, zq]) m 0 (H, none) (Nat.zero_add _) jG_rf
            exact ⟨J, v6, e, g⟩
          obtain ⟨J0, v6, e5, gJ0⟩ := lc
          have hmJ0 : J0 0 3 = nI m := (jPc_st hc gJ0).1
          obtain ⟨J, c1, c2, -⟩ := jf_71 (d := d + 55) (rho := rho) (mu := mu) (B := js_os w kd P M m) (h := h) (jCt_st h1.1 gJ0).1 (js_os_12 tn12 m) hf hh
          have gJ : jG jK H J := jG_tr (jG_Kst gJ0) (jG_K5 c2)
          obtain ⟨r1, r2, r3⟩ := jR_K h1 h2 gJ hmu
          have hpm : jPm J (jwn w) m kd P := ⟨r2.2.2.1, pm6, fun p hp => by
            obtain ⟨a1, a2, a3, a4, a5, a6, a7⟩ := r2.2.2.2.1 p hp
            rw [r3 p hp] at a6 a7
            exact ⟨a2.1, a6, a7⟩⟩
          obtain ⟨L, e6, gL⟩ := hlm J r1 hpm
          have hmL := (jPm_m hpm gL).1
          obtain ⟨K, f3, f4, f5⟩ := jf_182 (d := d + 58) (rho := rho) (mu := mu) (B := js_os w kd P M m) (f := f) (jMt_m r1.2 gL).1 (js_os_12 tn12 m) hf
          have f5h := f5 h hh
          refine ⟨.int (js_ft w (js_os w kd P M m) f 8 h), J, ⟨?_, gJ⟩, K, ?_, jG_Km (jG_tr gL (jG_75 f4 (by omega)))⟩
          · simp (disch := first | assumption | omega | exact jx_bz _ | exact jx_z0 | exact jx_z1 | (refine jx_ixB ?_ ?_; omega; omega) | (simp (disch := first | omega | fail) only [jx_lit, pk_mul, nI_add, nI_pred, pk_sub, jx_na, jx_add0, Nat.reduceMul, Nat.reduceAdd, Nat.reduceSub, Nat.reduceEqDiff, Nat.reduceLeDiff, Nat.reduceLT, zM1, zM2, p3, jx_one, k119, k132]; refine jx_ixC ?_ ?_; omega; omega) | (simp (disch := first | omega | fail) only [jx_lit, pk_mul, nI_add, nI_pred, pk_sub, jx_na, jx_add0, Nat.reduceMul, Nat.reduceAdd, Nat.reduceSub, Nat.reduceEqDiff, Nat.reduceLeDiff, Nat.reduceLT, jx_cl, nI_leI, Nat.zero_le, true_and, zM1, zM2, p3, jx_one, k119, k132]; omega) | fail) only [je_94, jb_94_0, jb_94_4, jb_94_14, jb_94_18, jb_94_21, jb_94_24, jb_94_29, jb_94_34, jb_94_37, jb_94_52, jb_94_58, jb_94_58_1, jb_94_65, jb_94_71, jb_94_75, jb_94_86, jb_94_89, jb_94_95, jb_94_106, jx_nl, jx_nlr, jx_thenS, jx_tlS, jx_tlN, jm_ite_go, jx_rds, jx_rdn, jx_lit, pk_mul, nI_add, nI_pred, pk_sub, jx_na, jx_add0, Nat.reduceMul, Nat.reduceAdd, Nat.reduceSub, Nat.reduceEqDiff, Nat.reduceLeDiff, Nat.reduceLT, Nat.not_lt_zero, jx_cl, nI_leI, nI_ltI, nI_eq, jx_neg, jx_neg', jx_negE, jx_negL, jx_negG, jx_negLE, jx_negN, sb_nlt, sb_nle, jx_b0, jx_b1, jx_bT, jx_bF, ite_true, ite_false, if_true, if_false, reduceIte, Bool.false_eq_true, Bool.true_eq_false, eq_self, Nat.one_ne_zero, Nat.add_sub_cancel, not_true_eq_false, not_false_eq_true, zM1, zM2, p3, jx_one, k119, k132]
            refine Eq.trans e5 ?_
            rw [jb_94_43]
            simp (disch := first | assumption | omega | exact jx_bz _ | exact jx_z0 | exact jx_z1 | (refine jx_ixB ?_ ?_; omega; omega) | (simp (disch := first | omega | fail) only [jx_lit, pk_mul, nI_add, nI_pred, pk_sub, jx_na, jx_add0, Nat.reduceMul, Nat.reduceAdd, Nat.reduceSub, Nat.reduceEqDiff, Nat.reduceLeDiff, Nat.reduceLT, hmJ0, Nat.le_refl, c1]; refine jx_ixC ?_ ?_; omega; omega) | (simp (disch := first | omega | fail) only [jx_lit, pk_mul, nI_add, nI_pred, pk_sub, jx_na, jx_add0, Nat.reduceMul, Nat.reduceAdd, Nat.reduceSub, Nat.reduceEqDiff, Nat.reduceLeDiff, Nat.reduceLT, jx_cl, nI_leI, Nat.zero_le, true_and, hmJ0, Nat.le_refl, c1]; omega) | fail) only [jb_94_0, jb_94_4, jb_94_14, jb_94_18, jb_94_21, jb_94_24, jb_94_29, jb_94_34, jb_94_37, jb_94_52, jb_94_58, jb_94_58_1, jb_94_65, jb_94_71, jb_94_75, jb_94_86, jb_94_89, jb_94_95, jb_94_106, jx_nl, jx_nlr, jx_thenS, jx_tlS, jx_tlN, jm_ite_go, jx_rds, jx_rdn, jx_lit, pk_mul, nI_add, nI_pred, pk_sub, jx_na, jx_add0, Nat.reduceMul, Nat.reduceAdd, Nat.reduceSub, Nat.reduceEqDiff, Nat.reduceLeDiff, Nat.reduceLT, Nat.not_lt_zero, jx_cl, nI_leI, nI_ltI, nI_eq, jx_neg, jx_neg', jx_negE, jx_negL, jx_negG, jx_negLE, jx_negN, sb_nlt, sb_nle, jx_b0, jx_b1, jx_bT, jx_bF, ite_true, ite_false, if_true, if_false, reduceIte, Bool.false_eq_true, Bool.true_eq_false, eq_self, Nat.one_ne_zero, Nat.add_sub_cancel, not_true_eq_false, not_false_eq_true, hmJ0, Nat.le_refl, c1]
          · rw [pre J gJ, e6, jb_196_37, zb, hf2]
            simp (disch := first | assumption | omega | exact jx_bz _ | exact jx_z0 | exact jx_z1 | (refine jx_ixB ?_ ?_; omega; omega) | (simp (disch := first | omega | fail) only [jx_lit, pk_mul, nI_add, nI_pred, pk_sub, jx_na, jx_add0, Nat.reduceMul, Nat.reduceAdd, Nat.reduceSub, Nat.reduceEqDiff, Nat.reduceLeDiff, Nat.reduceLT, hmL, Nat.le_refl, f3, f5h]; refine jx_ixC ?_ ?_; omega; omega) | (simp (disch := first | omega | fail) only [jx_lit, pk_mul, nI_add, nI_pred, pk_sub, jx_na, jx_add0, Nat.reduceMul, Nat.reduceAdd, Nat.reduceSub, Nat.reduceEqDiff, Nat.reduceLeDiff, Nat.reduceLT, jx_cl, nI_leI, Nat.zero_le, true_and, hmL, Nat.le_refl, f3, f5h]; omega) | fail) only [jb_196_0, jb_196_13, jb_196_16, jb_196_20, jb_196_23, jb_196_26, jb_196_46, jb_196_56, jb_196_64, jb_196_78, jb_196_82, jb_196_83, jb_196_104, jb_196_106, jb_196_112, jb_196_117, jb_196_120, jb_196_127, jx_nl, jx_nlr, jx_thenS, jx_tlS, jx_tlN, jm_ite_go, jx_rds, jx_rdn, jx_lit, pk_mul, nI_add, nI_pred, pk_sub, jx_na, jx_add0, Nat.reduceMul, Nat.reduceAdd, Nat.reduceSub, Nat.reduceEqDiff, Nat.reduceLeDiff, Nat.reduceLT, Nat.not_lt_zero, jx_cl, nI_leI, nI_ltI, nI_eq, jx_neg, jx_neg', jx_negE, jx_negL, jx_negG, jx_negLE, jx_negN, sb_nlt, sb_nle, jx_b0, jx_b1, jx_bT, jx_bF, ite_true, ite_false, if_true, if_false, reduceIte, Bool.false_eq_true, Bool.true_eq_false, eq_self, Nat.one_ne_zero, Nat.add_sub_cancel, not_true_eq_false, not_false_eq_true, hmL, Nat.le_refl, f3, f5h]
