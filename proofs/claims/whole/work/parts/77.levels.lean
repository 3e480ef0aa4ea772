/-! THE LEVELS of a text -/
theorem jz_term {b : Nat → Nat} {s t d o p : Nat} {rho : Nat → Option Nat} {mu : List (Nat × Nat)} (ht : t < 6) (hs : s ≤ 160) (ho : o ≤ 5) (hp : p ≤ s) (hsub : ∀ p2, p ≤ p2 → p2 ≤ s → jz_P b s t d rho mu 33 1 o p2) : jz_P b s t d rho mu 32 2 o p := by
  refine jz_lv (d := d) (y := 32) (ys := 33) (lev := 2) (op := fun T => T = 42) (TL := fun tl => tl = []) (LH := fun e0 i tl J => jm_go (jm_ev e0) 32 (8, some (.ref 30) :: some (.ref (6 + 4 * t)) :: some (.int (nI o)) :: some (.int (nI i)) :: tl, [], jm_hp J rho mu)) ht hs hp (by omega) ?_ ?_ ?_ ?_ ?_ ?_ ?_ hsub
  · rintro T rfl; decide
  · intro q S h hn
    obtain ⟨h1, h2, h3, h4, h5⟩ := h
    exact ⟨fun _ => hn, fun a => absurd a (by decide), fun a => absurd a (by decide), fun a => absurd a (by decide), fun a => absurd a (by decide)⟩
  · intro e0 H J h
    refine ⟨[], rfl, ?_⟩
    simp (disch := first | assumption | omega | exact jx_bz _ | exact jx_z0 | exact jx_z1 | (refine jx_ixB ?_ ?_; omega; omega) | (simp (disch := first | omega | fail) only [jx_lit, pk_mul, nI_add, nI_pred, pk_sub, jx_na, jx_add0, Nat.reduceMul, Nat.reduceAdd, Nat.reduceSub, Nat.reduceEqDiff, Nat.reduceLeDiff, Nat.reduceLT, h]; refine jx_ixC ?_ ?_; omega; omega) | (simp (disch := first | omega | fail) only [jx_lit, pk_mul, nI_add, nI_pred, pk_sub, jx_na, jx_add0, Nat.reduceMul, Nat.reduceAdd, Nat.reduceSub, Nat.reduceEqDiff, Nat.reduceLeDiff, Nat.reduceLT, jx_cl, nI_leI, Nat.zero_le, true_and, h]; omega) | fail) only [je_32, jb_32_0, jb_32_6, jb_32_15, jb_32_24, jb_32_28, jb_32_34, jb_32_40, jb_32_46, jx_nl, jx_nlr, jx_thenS, jx_tlS, jx_tlN, jm_ite_go, jx_rds, jx_rdn, jx_lit, pk_mul, nI_add, nI_pred, pk_sub, jx_na, jx_add0, Nat.reduceMul, Nat.reduceAdd, Nat.reduceSub, Nat.reduceEqDiff, Nat.reduceLeDiff, Nat.reduceLT, Nat.not_lt_zero, jx_cl, nI_leI, nI_ltI, nI_eq, jx_neg, jx_neg', jx_negE, jx_negL, jx_negG, jx_negLE, jx_negN, sb_nlt, sb_nle, jx_b0, jx_b1, jx_bT, jx_bF, ite_true, ite_false, if_true, if_false, reduceIte, Bool.false_eq_true, Bool.true_eq_false, eq_self, Nat.one_ne_zero, Nat.add_sub_cancel, not_true_eq_false, not_false_eq_true, h]
  · intro e0 i tl J hi htl hn
    subst htl
    have hi2 : i < 200 := by omega
    have n42 : ¬ J 30 3 = nI 42 := hn 42 0 rfl
    rw [jb_32_8]
    by_cases z : 160 ≤ i
    · simp (disch := first | assumption | omega | exact jx_bz _ | exact jx_z0 | exact jx_z1 | (refine jx_ixB ?_ ?_; omega; omega) | (simp (disch := first | omega | fail) only [jx_lit, pk_mul, nI_add, nI_pred, pk_sub, jx_na, jx_add0, Nat.reduceMul, Nat.reduceAdd, Nat.reduceSub, Nat.reduceEqDiff, Nat.reduceLeDiff, Nat.reduceLT, z]; refine jx_ixC ?_ ?_; omega; omega) | (simp (disch := first | omega | fail) only [jx_lit, pk_mul, nI_add, nI_pred, pk_sub, jx_na, jx_add0, Nat.reduceMul, Nat.reduceAdd, Nat.reduceSub, Nat.reduceEqDiff, Nat.reduceLeDiff, Nat.reduceLT, jx_cl, nI_leI, Nat.zero_le, true_and, z]; omega) | fail) only [jb_32_0, jb_32_6, jb_32_15, jb_32_24, jb_32_28, jb_32_34, jb_32_40, jb_32_46, jx_nl, jx_nlr, jx_thenS, jx_tlS, jx_tlN, jm_ite_go, jx_rds, jx_rdn, jx_lit, pk_mul, nI_add, nI_pred, pk_sub, jx_na, jx_add0, Nat.reduceMul, Nat.reduceAdd, Nat.reduceSub, Nat.reduceEqDiff, Nat.reduceLeDiff, Nat.reduceLT, Nat.not_lt_zero, jx_cl, nI_leI, nI_ltI, nI_eq, jx_neg, jx_neg', jx_negE, jx_negL, jx_negG, jx_negLE, jx_negN, sb_nlt, sb_nle, jx_b0, jx_b1, jx_bT, jx_bF, ite_true, ite_false, if_true, if_false, reduceIte, Bool.false_eq_true, Bool.true_eq_false, eq_self, Nat.one_ne_zero, Nat.add_sub_cancel, not_true_eq_false, not_false_eq_true, z]
    · simp (disch := first | assumption | omega | exact jx_bz _ | exact jx_z0 | exact jx_z1 | (refine jx_ixB ?_ ?_; omega; omega) | (simp (disch := first | omega | fail) only [jx_lit, pk_mul, nI_add, nI_pred, pk_sub, jx_na, jx_add0, Nat.reduceMul, Nat.reduceAdd, Nat.reduceSub, Nat.reduceEqDiff, Nat.reduceLeDiff, Nat.reduceLT, z, n42]; refine jx_ixC ?_ ?_; omega; omega) | (simp (disch := first | omega | fail) only [jx_lit, pk_mul, nI_add, nI_pred, pk_sub, jx_na, jx_add0, Nat.reduceMul, Nat.reduceAdd, Nat.reduceSub, Nat.reduceEqDiff, Nat.reduceLeDiff, Nat.reduceLT, jx_cl, nI_leI, Nat.zero_le, true_and, z, n42]; omega) | fail) only [jb_32_0, jb_32_6, jb_32_15, jb_32_24, jb_32_28, jb_32_34, jb_32_40, jb_32_46, jx_nl, jx_nlr, jx_thenS, jx_tlS, jx_tlN, jm_ite_go, jx_rds, jx_rdn, jx_lit, pk_mul, nI_add, nI_pred, pk_sub, jx_na, jx_add0, Nat.reduceMul, Nat.reduceAdd, Nat.reduceSub, Nat.reduceEqDiff, Nat.reduceLeDiff, Nat.reduceLT, Nat.not_lt_zero, jx_cl, nI_leI, nI_ltI, nI_eq, jx_neg, jx_neg', jx_negE, jx_negL, jx_negG, jx_negLE, jx_negN, sb_nlt, sb_nle, jx_b0, jx_b1, jx_bT, jx_bF, ite_true, ite_false, if_true, if_false, reduceIte, Bool.false_eq_true, Bool.true_eq_false, eq_self, Nat.one_ne_zero, Nat.add_sub_cancel, not_true_eq_false, not_false_eq_true, z, n42]
  · intro e0 i tl J T v J1 J2 J3 hi htl hT h3 k37 ksub k47
    subst htl
    have zi : ¬ 160 ≤ i := by omega
    subst hT
    have h3 : J 30 3 = nI 42 := h3
    have ecl : jv_cl (jz_sg 42) = -nI 14 := by decide
    rw [ecl] at k47
    refine ⟨[], rfl, ?_⟩
    skip
    rw [jb_32_8]
    simp (disch := first | assumption | omega | exact jx_bz _ | exact jx_z0 | exact jx_z1 | (refine jx_ixB ?_ ?_; omega; omega) | (simp (disch := first | omega | fail) only [jx_lit, pk_mul, nI_add, nI_pred, pk_sub, jx_na, jx_add0, Nat.reduceMul, Nat.reduceAdd, Nat.reduceSub, Nat.reduceEqDiff, Nat.reduceLeDiff, Nat.reduceLT, zi, h3, k37, ksub, k47]; refine jx_ixC ?_ ?_; omega; omega) | (simp (disch := first | omega | fail) only [jx_lit, pk_mul, nI_add, nI_pred, pk_sub, jx_na, jx_add0, Nat.reduceMul, Nat.reduceAdd, Nat.reduceSub, Nat.reduceEqDiff, Nat.reduceLeDiff, Nat.reduceLT, jx_cl, nI_leI, Nat.zero_le, true_and, zi, h3, k37, ksub, k47]; omega) | fail) only [jb_32_0, jb_32_6, jb_32_15, jb_32_24, jb_32_28, jb_32_34, jb_32_40, jb_32_46, jx_nl, jx_nlr, jx_thenS, jx_tlS, jx_tlN, jm_ite_go, jx_rds, jx_rdn, jx_lit, pk_mul, nI_add, nI_pred, pk_sub, jx_na, jx_add0, Nat.reduceMul, Nat.reduceAdd, Nat.reduceSub, Nat.reduceEqDiff, Nat.reduceLeDiff, Nat.reduceLT, Nat.not_lt_zero, jx_cl, nI_leI, nI_ltI, nI_eq, jx_neg, jx_neg', jx_negE, jx_negL, jx_negG, jx_negLE, jx_negN, sb_nlt, sb_nle, jx_b0, jx_b1, jx_bT, jx_bF, ite_true, ite_false, if_true, if_false, reduceIte, Bool.false_eq_true, Bool.true_eq_false, eq_self, Nat.one_ne_zero, Nat.add_sub_cancel, not_true_eq_false, not_false_eq_true, zi, h3, k37, ksub, k47]
  · intro T v q hT htv he
    subst hT
    have he : jz_ct (jz_t b s q) (jz_v b s q) = nI 42 := he
    exact (jz_ct_pos htv (by omega) (by omega)).mp he
  · intro T v hT
    subst hT
    show ¬ nI 3 = nI 42
    decide
theorem jz_sum {b : Nat → Nat} {s t d o p : Nat} {rho : Nat → Option Nat} {mu : List (Nat × Nat)} (ht : t < 6) (hs : s ≤ 160) (ho : o ≤ 5) (hp : p ≤ s) (hsub : ∀ p2, p ≤ p2 → p2 ≤ s → jz_P b s t d rho mu 32 2 o p2) : jz_P b s t d rho mu 31 3 o p := by
  refine jz_lv (d := d) (y := 31) (ys := 32) (lev := 3) (op := fun T => T = 43 ∨ T = 45) (TL := fun tl => ∃ l4, tl = [l4]) (LH := fun e0 i tl J => jm_go (jm_ev e0) 31 (8, some (.ref 30) :: some (.ref (6 + 4 * t)) :: some (.int (nI o)) :: some (.int (nI i)) :: tl, [], jm_hp J rho mu)) ht hs hp (by omega) ?_ ?_ ?_ ?_ ?_ ?_ ?_ hsub
  · rintro T (rfl | rfl) <;> decide
  · intro q S h hn
    obtain ⟨h1, h2, h3, h4, h5⟩ := h
    exact ⟨fun _ => h1 (by decide), fun _ => ⟨fun e => hn (.inl e), fun e => hn (.inr e)⟩, fun a => absurd a (by decide), fun a => absurd a (by decide), fun a => absurd a (by decide)⟩
  · intro e0 H J h
    refine ⟨[none], ⟨none, rfl⟩, ?_⟩
    simp (disch := first | assumption | omega | exact jx_bz _ | exact jx_z0 | exact jx_z1 | (refine jx_ixB ?_ ?_; omega; omega) | (simp (disch := first | omega | fail) only [jx_lit, pk_mul, nI_add, nI_pred, pk_sub, jx_na, jx_add0, Nat.reduceMul, Nat.reduceAdd, Nat.reduceSub, Nat.reduceEqDiff, Nat.reduceLeDiff, Nat.reduceLT, h]; refine jx_ixC ?_ ?_; omega; omega) | (simp (disch := first | omega | fail) only [jx_lit, pk_mul, nI_add, nI_pred, pk_sub, jx_na, jx_add0, Nat.reduceMul, Nat.reduceAdd, Nat.reduceSub, Nat.reduceEqDiff, Nat.reduceLeDiff, Nat.reduceLT, jx_cl, nI_leI, Nat.zero_le, true_and, h]; omega) | fail) only [je_31, jb_31_0, jb_31_6, jb_31_15, jb_31_24, jb_31_33, jb_31_43, jb_31_49, jb_31_57, jb_31_62, jb_31_64, jb_31_67, jb_31_73, jx_nl, jx_nlr, jx_thenS, jx_tlS, jx_tlN, jm_ite_go, jx_rds, jx_rdn, jx_lit, pk_mul, nI_add, nI_pred, pk_sub, jx_na, jx_add0, Nat.reduceMul, Nat.reduceAdd, Nat.reduceSub, Nat.reduceEqDiff, Nat.reduceLeDiff, Nat.reduceLT, Nat.not_lt_zero, jx_cl, nI_leI, nI_ltI, nI_eq, jx_neg, jx_neg', jx_negE, jx_negL, jx_negG, jx_negLE, jx_negN, sb_nlt, sb_nle, jx_b0, jx_b1, jx_bT, jx_bF, ite_true, ite_false, if_true, if_false, reduceIte, Bool.false_eq_true, Bool.true_eq_false, eq_self, Nat.one_ne_zero, Nat.add_sub_cancel, not_true_eq_false, not_false_eq_true, h]
  · intro e0 i tl J hi htl hn
    obtain ⟨l4, rfl⟩ := htl
    have hi2 : i < 200 := by omega
    have n43 : ¬ J 30 3 = nI 43 := hn 43 0 (.inl rfl)
    have n45 : ¬ J 30 3 = nI 45 := hn 45 0 (.inr rfl)
    rw [jb_31_8]
    by_cases z : 160 ≤ i
    · simp (disch := first | assumption | omega | exact jx_bz _ | exact jx_z0 | exact jx_z1 | (refine jx_ixB ?_ ?_; omega; omega) | (simp (disch := first | omega | fail) only [jx_lit, pk_mul, nI_add, nI_pred, pk_sub, jx_na, jx_add0, Nat.reduceMul, Nat.reduceAdd, Nat.reduceSub, Nat.reduceEqDiff, Nat.reduceLeDiff, Nat.reduceLT, z]; refine jx_ixC ?_ ?_; omega; omega) | (simp (disch := first | omega | fail) only [jx_lit, pk_mul, nI_add, nI_pred, pk_sub, jx_na, jx_add0, Nat.reduceMul, Nat.reduceAdd, Nat.reduceSub, Nat.reduceEqDiff, Nat.reduceLeDiff, Nat.reduceLT, jx_cl, nI_leI, Nat.zero_le, true_and, z]; omega) | fail) only [jb_31_0, jb_31_6, jb_31_15, jb_31_24, jb_31_33, jb_31_43, jb_31_49, jb_31_57, jb_31_62, jb_31_64, jb_31_67, jb_31_73, jx_nl, jx_nlr, jx_thenS, jx_tlS, jx_tlN, jm_ite_go, jx_rds, jx_rdn, jx_lit, pk_mul, nI_add, nI_pred, pk_sub, jx_na, jx_add0, Nat.reduceMul, Nat.reduceAdd, Nat.reduceSub, Nat.reduceEqDiff, Nat.reduceLeDiff, Nat.reduceLT, Nat.not_lt_zero, jx_cl, nI_leI, nI_ltI, nI_eq, jx_neg, jx_neg', jx_negE, jx_negL, jx_negG, jx_negLE, jx_negN, sb_nlt, sb_nle, jx_b0, jx_b1, jx_bT, jx_bF, ite_true, ite_false, if_true, if_false, reduceIte, Bool.false_eq_true, Bool.true_eq_false, eq_self, Nat.one_ne_zero, Nat.add_sub_cancel, not_true_eq_false, not_false_eq_true, z]
    · simp (disch := first | assumption | omega | exact jx_bz _ | exact jx_z0 | exact jx_z1 | (refine jx_ixB ?_ ?_; omega; omega) | (simp (disch := first | omega | fail) only [jx_lit, pk_mul, nI_add, nI_pred, pk_sub, jx_na, jx_add0, Nat.reduceMul, Nat.reduceAdd, Nat.reduceSub, Nat.reduceEqDiff, Nat.reduceLeDiff, Nat.reduceLT, z, n43, n45]; refine jx_ixC ?_ ?_; omega; omega) | (simp (disch := first | omega | fail) only [jx_lit, pk_mul, nI_add, nI_pred, pk_sub, jx_na, jx_add0, Nat.reduceMul, Nat.reduceAdd, Nat.reduceSub, Nat.reduceEqDiff, Nat.reduceLeDiff, Nat.reduceLT, jx_cl, nI_leI, Nat.zero_le, true_and, z, n43, n45]; omega) | fail) only [jb_31_0, jb_31_6, jb_31_15, jb_31_24, jb_31_33, jb_31_43, jb_31_49, jb_31_57, jb_31_62, jb_31_64, jb_31_67, jb_31_73, jx_nl, jx_nlr, jx_thenS, jx_tlS, jx_tlN, jm_ite_go, jx_rds, jx_rdn, jx_lit, pk_mul, nI_add, nI_pred, pk_sub, jx_na, jx_add0, Nat.reduceMul, Nat.reduceAdd, Nat.reduceSub, Nat.reduceEqDiff, Nat.reduceLeDiff, Nat.reduceLT, Nat.not_lt_zero, jx_cl, nI_leI, nI_ltI, nI_eq, jx_neg, jx_neg', jx_negE, jx_negL, jx_negG, jx_negLE, jx_negN, sb_nlt, sb_nle, jx_b0, jx_b1, jx_bT, jx_bF, ite_true, ite_false, if_true, if_false, reduceIte, Bool.false_eq_true, Bool.true_eq_false, eq_self, Nat.one_ne_zero, Nat.add_sub_cancel, not_true_eq_false, not_false_eq_true, z, n43, n45]
  · intro e0 i tl J T v J1 J2 J3 hi htl hT h3 k37 ksub k47
    obtain ⟨l4, rfl⟩ := htl
    have zi : ¬ 160 ≤ i := by omega
    rcases hT with rfl | rfl
    · have h3 : J 30 3 = nI 43 := h3
      have ecl : jv_cl (jz_sg 43) = -nI 12 := by decide
      rw [ecl] at k47
      refine ⟨[some (.int (nI 43))], ⟨_, rfl⟩, ?_⟩
      skip
      rw [jb_31_8]
      simp (disch := first | assumption | omega | exact jx_bz _ | exact jx_z0 | exact jx_z1 | (refine jx_ixB ?_ ?_; omega; omega) | (simp (disch := first | omega | fail) only [jx_lit, pk_mul, nI_add, nI_pred, pk_sub, jx_na, jx_add0, Nat.reduceMul, Nat.reduceAdd, Nat.reduceSub, Nat.reduceEqDiff, Nat.reduceLeDiff, Nat.reduceLT, zi, h3, k37, ksub, k47]; refine jx_ixC ?_ ?_; omega; omega) | (simp (disch := first | omega | fail) only [jx_lit, pk_mul, nI_add, nI_pred, pk_sub, jx_na, jx_add0, Nat.reduceMul, Nat.reduceAdd, Nat.reduceSub, Nat.reduceEqDiff, Nat.reduceLeDiff, Nat.reduceLT, jx_cl, nI_leI, Nat.zero_le, true_and, zi, h3, k37, ksub, k47]; omega) | fail) only [jb_31_0, jb_31_6, jb_31_15, jb_31_24, jb_31_33, jb_31_43, jb_31_49, jb_31_57, jb_31_62, jb_31_64, jb_31_67, jb_31_73, jx_nl, jx_nlr, jx_thenS, jx_tlS, jx_tlN, jm_ite_go, jx_rds, jx_rdn, jx_lit, pk_mul, nI_add, nI_pred, pk_sub, jx_na, jx_add0, Nat.reduceMul, Nat.reduceAdd, Nat.reduceSub, Nat.reduceEqDiff, Nat.reduceLeDiff, Nat.reduceLT, Nat.not_lt_zero, jx_cl, nI_leI, nI_ltI, nI_eq, jx_neg, jx_neg', jx_negE, jx_negL, jx_negG, jx_negLE, jx_negN, sb_nlt, sb_nle, jx_b0, jx_b1, jx_bT, jx_bF, ite_true, ite_false, if_true, if_false, reduceIte, Bool.false_eq_true, Bool.true_eq_false, eq_self, Nat.one_ne_zero, Nat.add_sub_cancel, not_true_eq_false, not_false_eq_true, zi, h3, k37, ksub, k47]
    · have h3 : J 30 3 = nI 45 := h3
      have ecl : jv_cl (jz_sg 45) = -nI 13 := by decide
      rw [ecl] at k47
      refine ⟨[some (.int (nI 45))], ⟨_, rfl⟩, ?_⟩
      skip
      rw [jb_31_8]
      simp (disch := first | assumption | omega | exact jx_bz _ | exact jx_z0 | exact jx_z1 | (refine jx_ixB ?_ ?_; omega; omega) | (simp (disch := first | omega | fail) only [jx_lit, pk_mul, nI_add, nI_pred, pk_sub, jx_na, jx_add0, Nat.reduceMul, Nat.reduceAdd, Nat.reduceSub, Nat.reduceEqDiff, Nat.reduceLeDiff, Nat.reduceLT, zi, h3, k37, ksub, k47]; refine jx_ixC ?_ ?_; omega; omega) | (simp (disch := first | omega | fail) only [jx_lit, pk_mul, nI_add, nI_pred, pk_sub, jx_na, jx_add0, Nat.reduceMul, Nat.reduceAdd, Nat.reduceSub, Nat.reduceEqDiff, Nat.reduceLeDiff, Nat.reduceLT, jx_cl, nI_leI, Nat.zero_le, true_and, zi, h3, k37, ksub, k47]; omega) | fail) only [jb_31_0, jb_31_6, jb_31_15, jb_31_24, jb_31_33, jb_31_43, jb_31_49, jb_31_57, jb_31_62, jb_31_64, jb_31_67, jb_31_73, jx_nl, jx_nlr, jx_thenS, jx_tlS, jx_tlN, jm_ite_go, jx_rds, jx_rdn, jx_lit, pk_mul, nI_add, nI_pred, pk_sub, jx_na, jx_add0, Nat.reduceMul, Nat.reduceAdd, Nat.reduceSub, Nat.reduceEqDiff, Nat.reduceLeDiff, Nat.reduceLT, Nat.not_lt_zero, jx_cl, nI_leI, nI_ltI, nI_eq, jx_neg, jx_neg', jx_negE, jx_negL, jx_negG, jx_negLE, jx_negN, sb_nlt, sb_nle, jx_b0, jx_b1, jx_bT, jx_bF, ite_true, ite_false, if_true, if_false, reduceIte, Bool.false_eq_true, Bool.true_eq_false, eq_self, Nat.one_ne_zero, Nat.add_sub_cancel, not_true_eq_false, not_false_eq_true, zi, h3, k37, ksub, k47]
  · intro T v q hT htv he
    rcases hT with rfl | rfl
    · have he : jz_ct (jz_t b s q) (jz_v b s q) = nI 43 := he
      exact .inl ((jz_ct_pos htv (by omega) (by omega)).mp he)
    · have he : jz_ct (jz_t b s q) (jz_v b s q) = nI 45 := he
      exact .inr ((jz_ct_pos htv (by omega) (by omega)).mp he)
  · intro T v hT
    rcases hT with rfl | rfl
    · show ¬ nI 3 = nI 43
      decide
    · show ¬ nI 3 = nI 45
      decide
theorem jz_and {b : Nat → Nat} {s t d o p : Nat} {rho : Nat → Option Nat} {mu : List (Nat × Nat)} (ht : t < 6) (hs : s ≤ 160) (ho : o ≤ 5) (hp : p ≤ s) (hsub : ∀ p2, p ≤ p2 → p2 ≤ s → jz_P b s t d rho mu 30 4 o p2) : jz_P b s t d rho mu 29 5 o p := by
  refine jz_lv (d := d) (y := 29) (ys := 30) (lev := 5) (op := fun T => T = 5) (TL := fun tl => tl = []) (LH := fun e0 i tl J => jm_go (jm_ev e0) 29 (8, some (.ref 30) :: some (.ref (6 + 4 * t)) :: some (.int (nI o)) :: some (.int (nI i)) :: tl, [], jm_hp J rho mu)) ht hs hp (by omega) ?_ ?_ ?_ ?_ ?_ ?_ ?_ hsub
  · rintro T rfl; decide
  · intro q S h hn
    obtain ⟨h1, h2, h3, h4, h5⟩ := h
    exact ⟨fun _ => h1 (by decide), fun _ => h2 (by decide), fun _ => h3 (by decide), fun _ => hn, fun a => absurd a (by decide)⟩
  · intro e0 H J h
    refine ⟨[], rfl, ?_⟩
    simp (disch := first | assumption | omega | exact jx_bz _ | exact jx_z0 | exact jx_z1 | (refine jx_ixB ?_ ?_; omega; omega) | (simp (disch := first | omega | fail) only [jx_lit, pk_mul, nI_add, nI_pred, pk_sub, jx_na, jx_add0, Nat.reduceMul, Nat.reduceAdd, Nat.reduceSub, Nat.reduceEqDiff, Nat.reduceLeDiff, Nat.reduceLT, h]; refine jx_ixC ?_ ?_; omega; omega) | (simp (disch := first | omega | fail) only [jx_lit, pk_mul, nI_add, nI_pred, pk_sub, jx_na, jx_add0, Nat.reduceMul, Nat.reduceAdd, Nat.reduceSub, Nat.reduceEqDiff, Nat.reduceLeDiff, Nat.reduceLT, jx_cl, nI_leI, Nat.zero_le, true_and, h]; omega) | fail) only [je_29, jb_29_0, jb_29_6, jb_29_15, jb_29_24, jb_29_28, jb_29_34, jb_29_40, jb_29_46, jx_nl, jx_nlr, jx_thenS, jx_tlS, jx_tlN, jm_ite_go, jx_rds, jx_rdn, jx_lit, pk_mul, nI_add, nI_pred, pk_sub, jx_na, jx_add0, Nat.reduceMul, Nat.reduceAdd, Nat.reduceSub, Nat.reduceEqDiff, Nat.reduceLeDiff, Nat.reduceLT, Nat.not_lt_zero, jx_cl, nI_leI, nI_ltI, nI_eq, jx_neg, jx_neg', jx_negE, jx_negL, jx_negG, jx_negLE, jx_negN, sb_nlt, sb_nle, jx_b0, jx_b1, jx_bT, jx_bF, ite_true, ite_false, if_true, if_false, reduceIte, Bool.false_eq_true, Bool.true_eq_false, eq_self, Nat.one_ne_zero, Nat.add_sub_cancel, not_true_eq_false, not_false_eq_true, h]
  · intro e0 i tl J hi htl hn
    subst htl
    have hi2 : i < 200 := by omega
    have n5 : ¬ J 30 3 = -nI 8 := hn 5 0 rfl
    rw [jb_29_8]
    by_cases z : 160 ≤ i
    · simp (disch := first | assumption | omega | exact jx_bz _ | exact jx_z0 | exact jx_z1 | (refine jx_ixB ?_ ?_; omega; omega) | (simp (disch := first | omega | fail) only [jx_lit, pk_mul, nI_add, nI_pred, pk_sub, jx_na, jx_add0, Nat.reduceMul, Nat.reduceAdd, Nat.reduceSub, Nat.reduceEqDiff, Nat.reduceLeDiff, Nat.reduceLT, z]; refine jx_ixC ?_ ?_; omega; omega) | (simp (disch := first | omega | fail) only [jx_lit, pk_mul, nI_add, nI_pred, pk_sub, jx_na, jx_add0, Nat.reduceMul, Nat.reduceAdd, Nat.reduceSub, Nat.reduceEqDiff, Nat.reduceLeDiff, Nat.reduceLT, jx_cl, nI_leI, Nat.zero_le, true_and, z]; omega) | fail) only [jb_29_0, jb_29_6, jb_29_15, jb_29_24, jb_29_28, jb_29_34, jb_29_40, jb_29_46, jx_nl, jx_nlr, jx_thenS, jx_tlS, jx_tlN, jm_ite_go, jx_rds, jx_rdn, jx_lit, pk_mul, nI_add, nI_pred, pk_sub, jx_na, jx_add0, Nat.reduceMul, Nat.reduceAdd, Nat.reduceSub, Nat.reduceEqDiff, Nat.reduceLeDiff, Nat.reduceLT, Nat.not_lt_zero, jx_cl, nI_leI, nI_ltI, nI_eq, jx_neg, jx_neg', jx_negE, jx_negL, jx_negG, jx_negLE, jx_negN, sb_nlt, sb_nle, jx_b0, jx_b1, jx_bT, jx_bF, ite_true, ite_false, if_true, if_false, reduceIte, Bool.false_eq_true, Bool.true_eq_false, eq_self, Nat.one_ne_zero, Nat.add_sub_cancel, not_true_eq_false, not_false_eq_true, z]
    · simp (disch := first | assumption | omega | exact jx_bz _ | exact jx_z0 | exact jx_z1 | (refine jx_ixB ?_ ?_; omega; omega) | (simp (disch := first | omega | fail) only [jx_lit, pk_mul, nI_add, nI_pred, pk_sub, jx_na, jx_add0, Nat.reduceMul, Nat.reduceAdd, Nat.reduceSub, Nat.reduceEqDiff, Nat.reduceLeDiff, Nat.reduceLT, z, n5]; refine jx_ixC ?_ ?_; omega; omega) | (simp (disch := first | omega | fail) only [jx_lit, pk_mul, nI_add, nI_pred, pk_sub, jx_na, jx_add0, Nat.reduceMul, Nat.reduceAdd, Nat.reduceSub, Nat.reduceEqDiff, Nat.reduceLeDiff, Nat.reduceLT, jx_cl, nI_leI, Nat.zero_le, true_and, z, n5]; omega) | fail) only [jb_29_0, jb_29_6, jb_29_15, jb_29_24, jb_29_28, jb_29_34, jb_29_40, jb_29_46, jx_nl, jx_nlr, jx_thenS, jx_tlS, jx_tlN, jm_ite_go, jx_rds, jx_rdn, jx_lit, pk_mul, nI_add, nI_pred, pk_sub, jx_na, jx_add0, Nat.reduceMul, Nat.reduceAdd, Nat.reduceSub, Nat.reduceEqDiff, Nat.reduceLeDiff, Nat.reduceLT, Nat.not_lt_zero, jx_cl, nI_leI, nI_ltI, nI_eq, jx_neg, jx_neg', jx_negE, jx_negL, jx_negG, jx_negLE, jx_negN, sb_nlt, sb_nle, jx_b0, jx_b1, jx_bT, jx_bF, ite_true, ite_false, if_true, if_false, reduceIte, Bool.false_eq_true, Bool.true_eq_false, eq_self, Nat.one_ne_zero, Nat.add_sub_cancel, not_true_eq_false, not_false_eq_true, z, n5]
  · intro e0 i tl J T v J1 J2 J3 hi htl hT h3 k37 ksub k47
    subst htl
    have zi : ¬ 160 ≤ i := by omega
    subst hT
    have h3 : J 30 3 = -nI 8 := h3
    have ecl : jv_cl (jz_sg 5) = -nI 8 := by decide
    rw [ecl] at k47
    refine ⟨[], rfl, ?_⟩
    skip
    rw [jb_29_8]
    simp (disch := first | assumption | omega | exact jx_bz _ | exact jx_z0 | exact jx_z1 | (refine jx_ixB ?_ ?_; omega; omega) | (simp (disch := first | omega | fail) only [jx_lit, pk_mul, nI_add, nI_pred, pk_sub, jx_na, jx_add0, Nat.reduceMul, Nat.reduceAdd, Nat.reduceSub, Nat.reduceEqDiff, Nat.reduceLeDiff, Nat.reduceLT, zi, h3, k37, ksub, k47]; refine jx_ixC ?_ ?_; omega; omega) | (simp (disch := first | omega | fail) only [jx_lit, pk_mul, nI_add, nI_pred, pk_sub, jx_na, jx_add0, Nat.reduceMul, Nat.reduceAdd, Nat.reduceSub, Nat.reduceEqDiff, Nat.reduceLeDiff, Nat.reduceLT, jx_cl, nI_leI, Nat.zero_le, true_and, zi, h3, k37, ksub, k47]; omega) | fail) only [jb_29_0, jb_29_6, jb_29_15, jb_29_24, jb_29_28, jb_29_34, jb_29_40, jb_29_46, jx_nl, jx_nlr, jx_thenS, jx_tlS, jx_tlN, jm_ite_go, jx_rds, jx_rdn, jx_lit, pk_mul, nI_add, nI_pred, pk_sub, jx_na, jx_add0, Nat.reduceMul, Nat.reduceAdd, Nat.reduceSub, Nat.reduceEqDiff, Nat.reduceLeDiff, Nat.reduceLT, Nat.not_lt_zero, jx_cl, nI_leI, nI_ltI, nI_eq, jx_neg, jx_neg', jx_negE, jx_negL, jx_negG, jx_negLE, jx_negN, sb_nlt, sb_nle, jx_b0, jx_b1, jx_bT, jx_bF, ite_true, ite_false, if_true, if_false, reduceIte, Bool.false_eq_true, Bool.true_eq_false, eq_self, Nat.one_ne_zero, Nat.add_sub_cancel, not_true_eq_false, not_false_eq_true, zi, h3, k37, ksub, k47]
  · intro T v q hT htv he
    subst hT
    have he : jz_ct (jz_t b s q) (jz_v b s q) = -nI 8 := he
    have := (jz_ct_neg htv (by omega) (by omega)).mp he
    show jz_t b s q = 5
    omega
  · intro T v hT
    subst hT
    show ¬ nI 3 = -nI 8
    decide
theorem jz_or {b : Nat → Nat} {s t d o p : Nat} {rho : Nat → Option Nat} {mu : List (Nat × Nat)} (ht : t < 6) (hs : s ≤ 160) (ho : o ≤ 5) (hp : p ≤ s) (hsub : ∀ p2, p ≤ p2 → p2 ≤ s → jz_P b s t d rho mu 29 5 o p2) : jz_P b s t d rho mu 28 6 o p := by
  refine jz_lv (d := d) (y := 28) (ys := 29) (lev := 6) (op := fun T => T = 4) (TL := fun tl => tl = []) (LH := fun e0 i tl J => jm_go (jm_ev e0) 28 (8, some (.ref 30) :: some (.ref (6 + 4 * t)) :: some (.int (nI o)) :: some (.int (nI i)) :: tl, [], jm_hp J rho mu)) ht hs hp (by omega) ?_ ?_ ?_ ?_ ?_ ?_ ?_ hsub
  · rintro T rfl; decide
  · intro q S h hn
    obtain ⟨h1, h2, h3, h4, h5⟩ := h
    exact ⟨fun _ => h1 (by decide), fun _ => h2 (by decide), fun _ => h3 (by decide), fun _ => h4 (by decide), fun _ => hn⟩
  · intro e0 H J h
    refine ⟨[], rfl, ?_⟩
    simp (disch := first | assumption | omega | exact jx_bz _ | exact jx_z0 | exact jx_z1 | (refine jx_ixB ?_ ?_; omega; omega) | (simp (disch := first | omega | fail) only [jx_lit, pk_mul, nI_add, nI_pred, pk_sub, jx_na, jx_add0, Nat.reduceMul, Nat.reduceAdd, Nat.reduceSub, Nat.reduceEqDiff, Nat.reduceLeDiff, Nat.reduceLT, h]; refine jx_ixC ?_ ?_; omega; omega) | (simp (disch := first | omega | fail) only [jx_lit, pk_mul, nI_add, nI_pred, pk_sub, jx_na, jx_add0, Nat.reduceMul, Nat.reduceAdd, Nat.reduceSub, Nat.reduceEqDiff, Nat.reduceLeDiff, Nat.reduceLT, jx_cl, nI_leI, Nat.zero_le, true_and, h]; omega) | fail) only [je_28, jb_28_0, jb_28_6, jb_28_15, jb_28_24, jb_28_28, jb_28_34, jb_28_40, jb_28_46, jx_nl, jx_nlr, jx_thenS, jx_tlS, jx_tlN, jm_ite_go, jx_rds, jx_rdn, jx_lit, pk_mul, nI_add, nI_pred, pk_sub, jx_na, jx_add0, Nat.reduceMul, Nat.reduceAdd, Nat.reduceSub, Nat.reduceEqDiff, Nat.reduceLeDiff, Nat.reduceLT, Nat.not_lt_zero, jx_cl, nI_leI, nI_ltI, nI_eq, jx_neg, jx_neg', jx_negE, jx_negL, jx_negG, jx_negLE, jx_negN, sb_nlt, sb_nle, jx_b0, jx_b1, jx_bT, jx_bF, ite_true, ite_false, if_true, if_false, reduceIte, Bool.false_eq_true, Bool.true_eq_false, eq_self, Nat.one_ne_zero, Nat.add_sub_cancel, not_true_eq_false, not_false_eq_true, h]
  · intro e0 i tl J hi htl hn
    subst htl
    have hi2 : i < 200 := by omega
    have n4 : ¬ J 30 3 = -nI 7 := hn 4 0 rfl
    rw [jb_28_8]
    by_cases z : 160 ≤ i
    · simp (disch := first | assumption | omega | exact jx_bz _ | exact jx_z0 | exact jx_z1 | (refine jx_ixB ?_ ?_; omega; omega) | (simp (disch := first | omega | fail) only [jx_lit, pk_mul, nI_add, nI_pred, pk_sub, jx_na, jx_add0, Nat.reduceMul, Nat.reduceAdd, Nat.reduceSub, Nat.reduceEqDiff, Nat.reduceLeDiff, Nat.reduceLT, z]; refine jx_ixC ?_ ?_; omega; omega) | (simp (disch := first | omega | fail) only [jx_lit, pk_mul, nI_add, nI_pred, pk_sub, jx_na, jx_add0, Nat.reduceMul, Nat.reduceAdd, Nat.reduceSub, Nat.reduceEqDiff, Nat.reduceLeDiff, Nat.reduceLT, jx_cl, nI_leI, Nat.zero_le, true_and, z]; omega) | fail) only [jb_28_0, jb_28_6, jb_28_15, jb_28_24, jb_28_28, jb_28_34, jb_28_40, jb_28_46, jx_nl, jx_nlr, jx_thenS, jx_tlS, jx_tlN, jm_ite_go, jx_rds, jx_rdn, jx_lit, pk_mul, nI_add, nI_pred, pk_sub, jx_na, jx_add0, Nat.reduceMul, Nat.reduceAdd, Nat.reduceSub, Nat.reduceEqDiff, Nat.reduceLeDiff, Nat.reduceLT, Nat.not_lt_zero, jx_cl, nI_leI, nI_ltI, nI_eq, jx_neg, jx_neg', jx_negE, jx_negL, jx_negG, jx_negLE, jx_negN, sb_nlt, sb_nle, jx_b0, jx_b1, jx_bT, jx_bF, ite_true, ite_false, if_true, if_false, reduceIte, Bool.false_eq_true, Bool.true_eq_false, eq_self, Nat.one_ne_zero, Nat.add_sub_cancel, not_true_eq_false, not_false_eq_true, z]
    · simp (disch := first | assumption | omega | exact jx_bz _ | exact jx_z0 | exact jx_z1 | (refine jx_ixB ?_ ?_; omega; omega) | (simp (disch := first | omega | fail) only [jx_lit, pk_mul, nI_add, nI_pred, pk_sub, jx_na, jx_add0, Nat.reduceMul, Nat.reduceAdd, Nat.reduceSub, Nat.reduceEqDiff, Nat.reduceLeDiff, Nat.reduceLT, z, n4]; refine jx_ixC ?_ ?_; omega; omega) | (simp (disch := first | omega | fail) only [jx_lit, pk_mul, nI_add, nI_pred, pk_sub, jx_na, jx_add0, Nat.reduceMul, Nat.reduceAdd, Nat.reduceSub, Nat.reduceEqDiff, Nat.reduceLeDiff, Nat.reduceLT, jx_cl, nI_leI, Nat.zero_le, true_and, z, n4]; omega) | fail) only [jb_28_0, jb_28_6, jb_28_15, jb_28_24, jb_28_28, jb_28_34, jb_28_40, jb_28_46, jx_nl, jx_nlr, jx_thenS, jx_tlS, jx_tlN, jm_ite_go, jx_rds, jx_rdn, jx_lit, pk_mul, nI_add, nI_pred, pk_sub, jx_na, jx_add0, Nat.reduceMul, Nat.reduceAdd, Nat.reduceSub, Nat.reduceEqDiff, Nat.reduceLeDiff, Nat.reduceLT, Nat.not_lt_zero, jx_cl, nI_leI, nI_ltI, nI_eq, jx_neg, jx_neg', jx_negE, jx_negL, jx_negG, jx_negLE, jx_negN, sb_nlt, sb_nle, jx_b0, jx_b1, jx_bT, jx_bF, ite_true, ite_false, if_true, if_false, reduceIte, Bool.false_eq_true, Bool.true_eq_false, eq_self, Nat.one_ne_zero, Nat.add_sub_cancel, not_true_eq_false, not_false_eq_true, z, n4]
  · intro e0 i tl J T v J1 J2 J3 hi htl hT h3 k37 ksub k47
    subst htl
    have zi : ¬ 160 ≤ i := by omega
    subst hT
    have h3 : J 30 3 = -nI 7 := h3
    have ecl : jv_cl (jz_sg 4) = -nI 7 := by decide
    rw [ecl] at k47
    refine ⟨[], rfl, ?_⟩
    skip
    rw [jb_28_8]
    simp (disch := first | assumption | omega | exact jx_bz _ | exact jx_z0 | exact jx_z1 | (refine jx_ixB ?_ ?_; omega; omega) | (simp (disch := first | omega | fail) only [jx_lit, pk_mul, nI_add, nI_pred, pk_sub, jx_na, jx_add0, Nat.reduceMul, Nat.reduceAdd, Nat.reduceSub, Nat.reduceEqDiff, Nat.reduceLeDiff, Nat.reduceLT, zi, h3, k37, ksub, k47]; refine jx_ixC ?_ ?_; omega; omega) | (simp (disch := first | omega | fail) only [jx_lit, pk_mul, nI_add, nI_pred, pk_sub, jx_na, jx_add0, Nat.reduceMul, Nat.reduceAdd, Nat.reduceSub, Nat.reduceEqDiff, Nat.reduceLeDiff, Nat.reduceLT, jx_cl, nI_leI, Nat.zero_le, true_and, zi, h3, k37, ksub, k47]; omega) | fail) only [jb_28_0, jb_28_6, jb_28_15, jb_28_24, jb_28_28, jb_28_34, jb_28_40, jb_28_46, jx_nl, jx_nlr, jx_thenS, jx_tlS, jx_tlN, jm_ite_go, jx_rds, jx_rdn, jx_lit, pk_mul, nI_add, nI_pred, pk_sub, jx_na, jx_add0, Nat.reduceMul, Nat.reduceAdd, Nat.reduceSub, Nat.reduceEqDiff, Nat.reduceLeDiff, Nat.reduceLT, Nat.not_lt_zero, jx_cl, nI_leI, nI_ltI, nI_eq, jx_neg, jx_neg', jx_negE, jx_negL, jx_negG, jx_negLE, jx_negN, sb_nlt, sb_nle, jx_b0, jx_b1, jx_bT, jx_bF, ite_true, ite_false, if_true, if_false, reduceIte, Bool.false_eq_true, Bool.true_eq_false, eq_self, Nat.one_ne_zero, Nat.add_sub_cancel, not_true_eq_false, not_false_eq_true, zi, h3, k37, ksub, k47]
  · intro T v q hT htv he
    subst hT
    have he : jz_ct (jz_t b s q) (jz_v b s q) = -nI 7 := he
    have := (jz_ct_neg htv (by omega) (by omega)).mp he
    show jz_t b s q = 4
    omega
  · intro T v hT
    subst hT
    show ¬ nI 3 = -nI 7
    decide
