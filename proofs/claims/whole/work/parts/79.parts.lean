/-! THE PARTS of a text -/
theorem jd_33 {e o : Nat} {b : Nat → Nat} {s t f : Nat} {H : Nat → Nat → Int32} {rho : Nat → Option Nat} {mu : List (Nat × Nat)} (ht : t < 6) (he : 2 ≤ e) (h : jz_F H b s t f) : ∃ J, jm_ev e 33 [.ref 30, .ref (6 + 4 * t), .int (nI o)] (jm_hp H rho mu) = some (none, jm_hp J rho mu) ∧ jz_F J b s t f ∧ jG (jS_rd t) H J := by
  obtain ⟨d, rfl⟩ : ∃ d, e = d + 1 := ⟨e - 1, by omega⟩
  obtain ⟨J, k36, h1, g⟩ := jz_F_fail (e := d) (rho := rho) (mu := mu) ht (by omega) h
  have h3 := h.2.2.1
  exact ⟨J, by simp (disch := first | assumption | omega | exact jx_bz _ | exact jx_z0 | exact jx_z1 | (refine jx_ixB ?_ ?_; omega; omega) | (simp (disch := first | omega | fail) only [jx_lit, pk_mul, nI_add, nI_pred, pk_sub, jx_na, jx_add0, Nat.reduceMul, Nat.reduceAdd, Nat.reduceSub, Nat.reduceEqDiff, Nat.reduceLeDiff, Nat.reduceLT, h3, k36]; refine jx_ixC ?_ ?_; omega; omega) | (simp (disch := first | omega | fail) only [jx_lit, pk_mul, nI_add, nI_pred, pk_sub, jx_na, jx_add0, Nat.reduceMul, Nat.reduceAdd, Nat.reduceSub, Nat.reduceEqDiff, Nat.reduceLeDiff, Nat.reduceLT, jx_cl, nI_leI, Nat.zero_le, true_and, h3, k36]; omega) | fail) only [je_33, jb_33_0, jb_33_8, jb_33_16, jb_33_20, jb_33_23, jb_33_31, jb_33_40, jb_33_48, jb_33_52, jb_33_55, jb_33_64, jb_33_69, jb_33_72, jb_33_73, jb_33_81, jb_33_87, jb_33_90, jb_33_99, jb_33_104, jb_33_107, jb_33_108, jb_33_116, jb_33_122, jb_33_125, jb_33_129, jx_nl, jx_nlr, jx_thenS, jx_tlS, jx_tlN, jm_ite_go, jx_rds, jx_rdn, jx_lit, pk_mul, nI_add, nI_pred, pk_sub, jx_na, jx_add0, Nat.reduceMul, Nat.reduceAdd, Nat.reduceSub, Nat.reduceEqDiff, Nat.reduceLeDiff, Nat.reduceLT, Nat.not_lt_zero, jx_cl, nI_leI, nI_ltI, nI_eq, jx_neg, jx_neg', jx_negE, jx_negL, jx_negG, jx_negLE, jx_negN, sb_nlt, sb_nle, jx_b0, jx_b1, jx_bT, jx_bF, ite_true, ite_false, if_true, if_false, reduceIte, Bool.false_eq_true, Bool.true_eq_false, eq_self, Nat.one_ne_zero, Nat.add_sub_cancel, not_true_eq_false, not_false_eq_true, h3, k36], h1, g⟩
theorem jd_32 {e o : Nat} {b : Nat → Nat} {s t f : Nat} {H : Nat → Nat → Int32} {rho : Nat → Option Nat} {mu : List (Nat × Nat)} (ht : t < 6) (he : 3 ≤ e) (h : jz_F H b s t f) : ∃ J, jm_ev e 32 [.ref 30, .ref (6 + 4 * t), .int (nI o)] (jm_hp H rho mu) = some (none, jm_hp J rho mu) ∧ jz_F J b s t f ∧ jG (jS_rd t) H J := by
  obtain ⟨d, rfl⟩ : ∃ d, e = d + 1 := ⟨e - 1, by omega⟩
  obtain ⟨J, k, h1, g⟩ := jd_33 (e := d) (o := o) (rho := rho) (mu := mu) ht (by omega) h
  have h3 := h1.2.2.1
  have e0 : jm_ev (d + 1) 32 [.ref 30, .ref (6 + 4 * t), .int (nI o)] (jm_hp H rho mu) = jm_go (jm_ev d) 32 (8, [some (.ref 30), some (.ref (6 + 4 * t)), some (.int (nI o)), some (.int (nI 0))], [], jm_hp J rho mu) := by
    simp (disch := first | assumption | omega | exact jx_bz _ | exact jx_z0 | exact jx_z1 | (refine jx_ixB ?_ ?_; omega; omega) | (simp (disch := first | omega | fail) only [jx_lit, pk_mul, nI_add, nI_pred, pk_sub, jx_na, jx_add0, Nat.reduceMul, Nat.reduceAdd, Nat.reduceSub, Nat.reduceEqDiff, Nat.reduceLeDiff, Nat.reduceLT, k]; refine jx_ixC ?_ ?_; omega; omega) | (simp (disch := first | omega | fail) only [jx_lit, pk_mul, nI_add, nI_pred, pk_sub, jx_na, jx_add0, Nat.reduceMul, Nat.reduceAdd, Nat.reduceSub, Nat.reduceEqDiff, Nat.reduceLeDiff, Nat.reduceLT, jx_cl, nI_leI, Nat.zero_le, true_and, k]; omega) | fail) only [je_32, jb_32_0, jb_32_6, jb_32_15, jb_32_24, jb_32_28, jb_32_34, jb_32_40, jb_32_46, jx_nl, jx_nlr, jx_thenS, jx_tlS, jx_tlN, jm_ite_go, jx_rds, jx_rdn, jx_lit, pk_mul, nI_add, nI_pred, pk_sub, jx_na, jx_add0, Nat.reduceMul, Nat.reduceAdd, Nat.reduceSub, Nat.reduceEqDiff, Nat.reduceLeDiff, Nat.reduceLT, Nat.not_lt_zero, jx_cl, nI_leI, nI_ltI, nI_eq, jx_neg, jx_neg', jx_negE, jx_negL, jx_negG, jx_negLE, jx_negN, sb_nlt, sb_nle, jx_b0, jx_b1, jx_bT, jx_bF, ite_true, ite_false, if_true, if_false, reduceIte, Bool.false_eq_true, Bool.true_eq_false, eq_self, Nat.one_ne_zero, Nat.add_sub_cancel, not_true_eq_false, not_false_eq_true, k]
  refine ⟨J, ?_, h1, g⟩
  rw [e0, jb_32_8]
  simp (disch := first | assumption | omega | exact jx_bz _ | exact jx_z0 | exact jx_z1 | (refine jx_ixB ?_ ?_; omega; omega) | (simp (disch := first | omega | fail) only [jx_lit, pk_mul, nI_add, nI_pred, pk_sub, jx_na, jx_add0, Nat.reduceMul, Nat.reduceAdd, Nat.reduceSub, Nat.reduceEqDiff, Nat.reduceLeDiff, Nat.reduceLT, h3]; refine jx_ixC ?_ ?_; omega; omega) | (simp (disch := first | omega | fail) only [jx_lit, pk_mul, nI_add, nI_pred, pk_sub, jx_na, jx_add0, Nat.reduceMul, Nat.reduceAdd, Nat.reduceSub, Nat.reduceEqDiff, Nat.reduceLeDiff, Nat.reduceLT, jx_cl, nI_leI, Nat.zero_le, true_and, h3]; omega) | fail) only [jb_32_0, jb_32_6, jb_32_15, jb_32_24, jb_32_28, jb_32_34, jb_32_40, jb_32_46, jx_nl, jx_nlr, jx_thenS, jx_tlS, jx_tlN, jm_ite_go, jx_rds, jx_rdn, jx_lit, pk_mul, nI_add, nI_pred, pk_sub, jx_na, jx_add0, Nat.reduceMul, Nat.reduceAdd, Nat.reduceSub, Nat.reduceEqDiff, Nat.reduceLeDiff, Nat.reduceLT, Nat.not_lt_zero, jx_cl, nI_leI, nI_ltI, nI_eq, jx_neg, jx_neg', jx_negE, jx_negL, jx_negG, jx_negLE, jx_negN, sb_nlt, sb_nle, jx_b0, jx_b1, jx_bT, jx_bF, ite_true, ite_false, if_true, if_false, reduceIte, Bool.false_eq_true, Bool.true_eq_false, eq_self, Nat.one_ne_zero, Nat.add_sub_cancel, not_true_eq_false, not_false_eq_true, h3]
theorem jd_31 {e o : Nat} {b : Nat → Nat} {s t f : Nat} {H : Nat → Nat → Int32} {rho : Nat → Option Nat} {mu : List (Nat × Nat)} (ht : t < 6) (he : 4 ≤ e) (h : jz_F H b s t f) : ∃ J, jm_ev e 31 [.ref 30, .ref (6 + 4 * t), .int (nI o)] (jm_hp H rho mu) = some (none, jm_hp J rho mu) ∧ jz_F J b s t f ∧ jG (jS_rd t) H J := by
  obtain ⟨d, rfl⟩ : ∃ d, e = d + 1 := ⟨e - 1, by omega⟩
  obtain ⟨J, k, h1, g⟩ := jd_32 (e := d) (o := o) (rho := rho) (mu := mu) ht (by omega) h
  have h3 := h1.2.2.1
  have e0 : jm_ev (d + 1) 31 [.ref 30, .ref (6 + 4 * t), .int (nI o)] (jm_hp H rho mu) = jm_go (jm_ev d) 31 (8, [some (.ref 30), some (.ref (6 + 4 * t)), some (.int (nI o)), some (.int (nI 0)), none], [], jm_hp J rho mu) := by
    simp (disch := first | assumption | omega | exact jx_bz _ | exact jx_z0 | exact jx_z1 | (refine jx_ixB ?_ ?_; omega; omega) | (simp (disch := first | omega | fail) only [jx_lit, pk_mul, nI_add, nI_pred, pk_sub, jx_na, jx_add0, Nat.reduceMul, Nat.reduceAdd, Nat.reduceSub, Nat.reduceEqDiff, Nat.reduceLeDiff, Nat.reduceLT, k]; refine jx_ixC ?_ ?_; omega; omega) | (simp (disch := first | omega | fail) only [jx_lit, pk_mul, nI_add, nI_pred, pk_sub, jx_na, jx_add0, Nat.reduceMul, Nat.reduceAdd, Nat.reduceSub, Nat.reduceEqDiff, Nat.reduceLeDiff, Nat.reduceLT, jx_cl, nI_leI, Nat.zero_le, true_and, k]; omega) | fail) only [je_31, jb_31_0, jb_31_6, jb_31_15, jb_31_24, jb_31_33, jb_31_43, jb_31_49, jb_31_57, jb_31_62, jb_31_64, jb_31_67, jb_31_73, jx_nl, jx_nlr, jx_thenS, jx_tlS, jx_tlN, jm_ite_go, jx_rds, jx_rdn, jx_lit, pk_mul, nI_add, nI_pred, pk_sub, jx_na, jx_add0, Nat.reduceMul, Nat.reduceAdd, Nat.reduceSub, Nat.reduceEqDiff, Nat.reduceLeDiff, Nat.reduceLT, Nat.not_lt_zero, jx_cl, nI_leI, nI_ltI, nI_eq, jx_neg, jx_neg', jx_negE, jx_negL, jx_negG, jx_negLE, jx_negN, sb_nlt, sb_nle, jx_b0, jx_b1, jx_bT, jx_bF, ite_true, ite_false, if_true, if_false, reduceIte, Bool.false_eq_true, Bool.true_eq_false, eq_self, Nat.one_ne_zero, Nat.add_sub_cancel, not_true_eq_false, not_false_eq_true, k]
  refine ⟨J, ?_, h1, g⟩
  rw [e0, jb_31_8]
  simp (disch := first | assumption | omega | exact jx_bz _ | exact jx_z0 | exact jx_z1 | (refine jx_ixB ?_ ?_; omega; omega) | (simp (disch := first | omega | fail) only [jx_lit, pk_mul, nI_add, nI_pred, pk_sub, jx_na, jx_add0, Nat.reduceMul, Nat.reduceAdd, Nat.reduceSub, Nat.reduceEqDiff, Nat.reduceLeDiff, Nat.reduceLT, h3]; refine jx_ixC ?_ ?_; omega; omega) | (simp (disch := first | omega | fail) only [jx_lit, pk_mul, nI_add, nI_pred, pk_sub, jx_na, jx_add0, Nat.reduceMul, Nat.reduceAdd, Nat.reduceSub, Nat.reduceEqDiff, Nat.reduceLeDiff, Nat.reduceLT, jx_cl, nI_leI, Nat.zero_le, true_and, h3]; omega) | fail) only [jb_31_0, jb_31_6, jb_31_15, jb_31_24, jb_31_33, jb_31_43, jb_31_49, jb_31_57, jb_31_62, jb_31_64, jb_31_67, jb_31_73, jx_nl, jx_nlr, jx_thenS, jx_tlS, jx_tlN, jm_ite_go, jx_rds, jx_rdn, jx_lit, pk_mul, nI_add, nI_pred, pk_sub, jx_na, jx_add0, Nat.reduceMul, Nat.reduceAdd, Nat.reduceSub, Nat.reduceEqDiff, Nat.reduceLeDiff, Nat.reduceLT, Nat.not_lt_zero, jx_cl, nI_leI, nI_ltI, nI_eq, jx_neg, jx_neg', jx_negE, jx_negL, jx_negG, jx_negLE, jx_negN, sb_nlt, sb_nle, jx_b0, jx_b1, jx_bT, jx_bF, ite_true, ite_false, if_true, if_false, reduceIte, Bool.false_eq_true, Bool.true_eq_false, eq_self, Nat.one_ne_zero, Nat.add_sub_cancel, not_true_eq_false, not_false_eq_true, h3]
theorem jd_30 {e o : Nat} {b : Nat → Nat} {s t f : Nat} {H : Nat → Nat → Int32} {rho : Nat → Option Nat} {mu : List (Nat × Nat)} (ht : t < 6) (he : 5 ≤ e) (h : jz_F H b s t f) : ∃ J, jm_ev e 30 [.ref 30, .ref (6 + 4 * t), .int (nI o)] (jm_hp H rho mu) = some (none, jm_hp J rho mu) ∧ jz_F J b s t f ∧ jG (jS_rd t) H J := by
  obtain ⟨d, rfl⟩ : ∃ d, e = d + 1 := ⟨e - 1, by omega⟩
  obtain ⟨J, k, h1, g⟩ := jd_31 (e := d) (o := o) (rho := rho) (mu := mu) ht (by omega) h
  have h3 := h.2.2.1
  have h4 := h1.2.2.1
  exact ⟨J, by simp (disch := first | assumption | omega | exact jx_bz _ | exact jx_z0 | exact jx_z1 | (refine jx_ixB ?_ ?_; omega; omega) | (simp (disch := first | omega | fail) only [jx_lit, pk_mul, nI_add, nI_pred, pk_sub, jx_na, jx_add0, Nat.reduceMul, Nat.reduceAdd, Nat.reduceSub, Nat.reduceEqDiff, Nat.reduceLeDiff, Nat.reduceLT, h3, k, h4]; refine jx_ixC ?_ ?_; omega; omega) | (simp (disch := first | omega | fail) only [jx_lit, pk_mul, nI_add, nI_pred, pk_sub, jx_na, jx_add0, Nat.reduceMul, Nat.reduceAdd, Nat.reduceSub, Nat.reduceEqDiff, Nat.reduceLeDiff, Nat.reduceLT, jx_cl, nI_leI, Nat.zero_le, true_and, h3, k, h4]; omega) | fail) only [je_30, jb_30_0, jb_30_9, jb_30_14, jb_30_17, jb_30_18, jb_30_26, jb_30_32, jb_30_33, jb_30_39, jb_30_50, jb_30_56, jb_30_57, jb_30_61, jb_30_67, jb_30_74, jb_30_79, jb_30_81, jb_30_84, jx_nl, jx_nlr, jx_thenS, jx_tlS, jx_tlN, jm_ite_go, jx_rds, jx_rdn, jx_lit, pk_mul, nI_add, nI_pred, pk_sub, jx_na, jx_add0, Nat.reduceMul, Nat.reduceAdd, Nat.reduceSub, Nat.reduceEqDiff, Nat.reduceLeDiff, Nat.reduceLT, Nat.not_lt_zero, jx_cl, nI_leI, nI_ltI, nI_eq, jx_neg, jx_neg', jx_negE, jx_negL, jx_negG, jx_negLE, jx_negN, sb_nlt, sb_nle, jx_b0, jx_b1, jx_bT, jx_bF, ite_true, ite_false, if_true, if_false, reduceIte, Bool.false_eq_true, Bool.true_eq_false, eq_self, Nat.one_ne_zero, Nat.add_sub_cancel, not_true_eq_false, not_false_eq_true, h3, k, h4], h1, g⟩
theorem jd_29 {e o : Nat} {b : Nat → Nat} {s t f : Nat} {H : Nat → Nat → Int32} {rho : Nat → Option Nat} {mu : List (Nat × Nat)} (ht : t < 6) (he : 6 ≤ e) (h : jz_F H b s t f) : ∃ J, jm_ev e 29 [.ref 30, .ref (6 + 4 * t), .int (nI o)] (jm_hp H rho mu) = some (none, jm_hp J rho mu) ∧ jz_F J b s t f ∧ jG (jS_rd t) H J := by
  obtain ⟨d, rfl⟩ : ∃ d, e = d + 1 := ⟨e - 1, by omega⟩
  obtain ⟨J, k, h1, g⟩ := jd_30 (e := d) (o := o) (rho := rho) (mu := mu) ht (by omega) h
  have h3 := h1.2.2.1
  have e0 : jm_ev (d + 1) 29 [.ref 30, .ref (6 + 4 * t), .int (nI o)] (jm_hp H rho mu) = jm_go (jm_ev d) 29 (8, [some (.ref 30), some (.ref (6 + 4 * t)), some (.int (nI o)), some (.int (nI 0))], [], jm_hp J rho mu) := by
    simp (disch := first | assumption | omega | exact jx_bz _ | exact jx_z0 | exact jx_z1 | (refine jx_ixB ?_ ?_; omega; omega) | (simp (disch := first | omega | fail) only [jx_lit, pk_mul, nI_add, nI_pred, pk_sub, jx_na, jx_add0, Nat.reduceMul, Nat.reduceAdd, Nat.reduceSub, Nat.reduceEqDiff, Nat.reduceLeDiff, Nat.reduceLT, k]; refine jx_ixC ?_ ?_; omega; omega) | (simp (disch := first | omega | fail) only [jx_lit, pk_mul, nI_add, nI_pred, pk_sub, jx_na, jx_add0, Nat.reduceMul, Nat.reduceAdd, Nat.reduceSub, Nat.reduceEqDiff, Nat.reduceLeDiff, Nat.reduceLT, jx_cl, nI_leI, Nat.zero_le, true_and, k]; omega) | fail) only [je_29, jb_29_0, jb_29_6, jb_29_15, jb_29_24, jb_29_28, jb_29_34, jb_29_40, jb_29_46, jx_nl, jx_nlr, jx_thenS, jx_tlS, jx_tlN, jm_ite_go, jx_rds, jx_rdn, jx_lit, pk_mul, nI_add, nI_pred, pk_sub, jx_na, jx_add0, Nat.reduceMul, Nat.reduceAdd, Nat.reduceSub, Nat.reduceEqDiff, Nat.reduceLeDiff, Nat.reduceLT, Nat.not_lt_zero, jx_cl, nI_leI, nI_ltI, nI_eq, jx_neg, jx_neg', jx_negE, jx_negL, jx_negG, jx_negLE, jx_negN, sb_nlt, sb_nle, jx_b0, jx_b1, jx_bT, jx_bF, ite_true, ite_false, if_true, if_false, reduceIte, Bool.false_eq_true, Bool.true_eq_false, eq_self, Nat.one_ne_zero, Nat.add_sub_cancel, not_true_eq_false, not_false_eq_true, k]
  refine ⟨J, ?_, h1, g⟩
  rw [e0, jb_29_8]
  simp (disch := first | assumption | omega | exact jx_bz _ | exact jx_z0 | exact jx_z1 | (refine jx_ixB ?_ ?_; omega; omega) | (simp (disch := first | omega | fail) only [jx_lit, pk_mul, nI_add, nI_pred, pk_sub, jx_na, jx_add0, Nat.reduceMul, Nat.reduceAdd, Nat.reduceSub, Nat.reduceEqDiff, Nat.reduceLeDiff, Nat.reduceLT, h3]; refine jx_ixC ?_ ?_; omega; omega) | (simp (disch := first | omega | fail) only [jx_lit, pk_mul, nI_add, nI_pred, pk_sub, jx_na, jx_add0, Nat.reduceMul, Nat.reduceAdd, Nat.reduceSub, Nat.reduceEqDiff, Nat.reduceLeDiff, Nat.reduceLT, jx_cl, nI_leI, Nat.zero_le, true_and, h3]; omega) | fail) only [jb_29_0, jb_29_6, jb_29_15, jb_29_24, jb_29_28, jb_29_34, jb_29_40, jb_29_46, jx_nl, jx_nlr, jx_thenS, jx_tlS, jx_tlN, jm_ite_go, jx_rds, jx_rdn, jx_lit, pk_mul, nI_add, nI_pred, pk_sub, jx_na, jx_add0, Nat.reduceMul, Nat.reduceAdd, Nat.reduceSub, Nat.reduceEqDiff, Nat.reduceLeDiff, Nat.reduceLT, Nat.not_lt_zero, jx_cl, nI_leI, nI_ltI, nI_eq, jx_neg, jx_neg', jx_negE, jx_negL, jx_negG, jx_negLE, jx_negN, sb_nlt, sb_nle, jx_b0, jx_b1, jx_bT, jx_bF, ite_true, ite_false, if_true, if_false, reduceIte, Bool.false_eq_true, Bool.true_eq_false, eq_self, Nat.one_ne_zero, Nat.add_sub_cancel, not_true_eq_false, not_false_eq_true, h3]
theorem jd_28 {e o : Nat} {b : Nat → Nat} {s t f : Nat} {H : Nat → Nat → Int32} {rho : Nat → Option Nat} {mu : List (Nat × Nat)} (ht : t < 6) (he : 7 ≤ e) (h : jz_F H b s t f) : ∃ J, jm_ev e 28 [.ref 30, .ref (6 + 4 * t), .int (nI o)] (jm_hp H rho mu) = some (none, jm_hp J rho mu) ∧ jz_F J b s t f ∧ jG (jS_rd t) H J := by
  obtain ⟨d, rfl⟩ : ∃ d, e = d + 1 := ⟨e - 1, by omega⟩
  obtain ⟨J, k, h1, g⟩ := jd_29 (e := d) (o := o) (rho := rho) (mu := mu) ht (by omega) h
  have h3 := h1.2.2.1
  have e0 : jm_ev (d + 1) 28 [.ref 30, .ref (6 + 4 * t), .int (nI o)] (jm_hp H rho mu) = jm_go (jm_ev d) 28 (8, [some (.ref 30), some (.ref (6 + 4 * t)), some (.int (nI o)), some (.int (nI 0))], [], jm_hp J rho mu) := by
    simp (disch := first | assumption | omega | exact jx_bz _ | exact jx_z0 | exact jx_z1 | (refine jx_ixB ?_ ?_; omega; omega) | (simp (disch := first | omega | fail) only [jx_lit, pk_mul, nI_add, nI_pred, pk_sub, jx_na, jx_add0, Nat.reduceMul, Nat.reduceAdd, Nat.reduceSub, Nat.reduceEqDiff, Nat.reduceLeDiff, Nat.reduceLT, k]; refine jx_ixC ?_ ?_; omega; omega) | (simp (disch := first | omega | fail) only [jx_lit, pk_mul, nI_add, nI_pred, pk_sub, jx_na, jx_add0, Nat.reduceMul, Nat.reduceAdd, Nat.reduceSub, Nat.reduceEqDiff, Nat.reduceLeDiff, Nat.reduceLT, jx_cl, nI_leI, Nat.zero_le, true_and, k]; omega) | fail) only [je_28, jb_28_0, jb_28_6, jb_28_15, jb_28_24, jb_28_28, jb_28_34, jb_28_40, jb_28_46, jx_nl, jx_nlr, jx_thenS, jx_tlS, jx_tlN, jm_ite_go, jx_rds, jx_rdn, jx_lit, pk_mul, nI_add, nI_pred, pk_sub, jx_na, jx_add0, Nat.reduceMul, Nat.reduceAdd, Nat.reduceSub, Nat.reduceEqDiff, Nat.reduceLeDiff, Nat.reduceLT, Nat.not_lt_zero, jx_cl, nI_leI, nI_ltI, nI_eq, jx_neg, jx_neg', jx_negE, jx_negL, jx_negG, jx_negLE, jx_negN, sb_nlt, sb_nle, jx_b0, jx_b1, jx_bT, jx_bF, ite_true, ite_false, if_true, if_false, reduceIte, Bool.false_eq_true, Bool.true_eq_false, eq_self, Nat.one_ne_zero, Nat.add_sub_cancel, not_true_eq_false, not_false_eq_true, k]
  refine ⟨J, ?_, h1, g⟩
  rw [e0, jb_28_8]
  simp (disch := first | assumption | omega | exact jx_bz _ | exact jx_z0 | exact jx_z1 | (refine jx_ixB ?_ ?_; omega; omega) | (simp (disch := first | omega | fail) only [jx_lit, pk_mul, nI_add, nI_pred, pk_sub, jx_na, jx_add0, Nat.reduceMul, Nat.reduceAdd, Nat.reduceSub, Nat.reduceEqDiff, Nat.reduceLeDiff, Nat.reduceLT, h3]; refine jx_ixC ?_ ?_; omega; omega) | (simp (disch := first | omega | fail) only [jx_lit, pk_mul, nI_add, nI_pred, pk_sub, jx_na, jx_add0, Nat.reduceMul, Nat.reduceAdd, Nat.reduceSub, Nat.reduceEqDiff, Nat.reduceLeDiff, Nat.reduceLT, jx_cl, nI_leI, Nat.zero_le, true_and, h3]; omega) | fail) only [jb_28_0, jb_28_6, jb_28_15, jb_28_24, jb_28_28, jb_28_34, jb_28_40, jb_28_46, jx_nl, jx_nlr, jx_thenS, jx_tlS, jx_tlN, jm_ite_go, jx_rds, jx_rdn, jx_lit, pk_mul, nI_add, nI_pred, pk_sub, jx_na, jx_add0, Nat.reduceMul, Nat.reduceAdd, Nat.reduceSub, Nat.reduceEqDiff, Nat.reduceLeDiff, Nat.reduceLT, Nat.not_lt_zero, jx_cl, nI_leI, nI_ltI, nI_eq, jx_neg, jx_neg', jx_negE, jx_negL, jx_negG, jx_negLE, jx_negN, sb_nlt, sb_nle, jx_b0, jx_b1, jx_bT, jx_bF, ite_true, ite_false, if_true, if_false, reduceIte, Bool.false_eq_true, Bool.true_eq_false, eq_self, Nat.one_ne_zero, Nat.add_sub_cancel, not_true_eq_false, not_false_eq_true, h3]
theorem jf_48 {d t k z : Nat} {I : Nat → Nat → Int32} {rho : Nat → Option Nat} {mu : List (Nat × Nat)} (ht : t < 6) (hk : k < 3) (h : I (6 + 4 * t) 1 = nI z) : jm_ev (d + 1) 48 [.ref (6 + 4 * t), .int (nI k)] (jm_hp I rho mu) = some (none, jm_hp (jm_up I (8 + 4 * t) k (nI z)) rho mu) := by
  have h0 : ¬ k < 0 := by omega
  have h3 : ¬ 3 ≤ k := by omega
  simp (disch := first | assumption | omega | exact jx_bz _ | exact jx_z0 | exact jx_z1 | (refine jx_ixB ?_ ?_; omega; omega) | (simp (disch := first | omega | fail) only [jx_lit, pk_mul, nI_add, nI_pred, pk_sub, jx_na, jx_add0, Nat.reduceMul, Nat.reduceAdd, Nat.reduceSub, Nat.reduceEqDiff, Nat.reduceLeDiff, Nat.reduceLT, h0, h3, h]; refine jx_ixC ?_ ?_; omega; omega) | (simp (disch := first | omega | fail) only [jx_lit, pk_mul, nI_add, nI_pred, pk_sub, jx_na, jx_add0, Nat.reduceMul, Nat.reduceAdd, Nat.reduceSub, Nat.reduceEqDiff, Nat.reduceLeDiff, Nat.reduceLT, jx_cl, nI_leI, Nat.zero_le, true_and, h0, h3, h]; omega) | fail) only [je_48, jb_48_0, jb_48_4, jb_48_13, jb_48_23, jx_nl, jx_nlr, jx_thenS, jx_tlS, jx_tlN, jm_ite_go, jx_rds, jx_rdn, jx_lit, pk_mul, nI_add, nI_pred, pk_sub, jx_na, jx_add0, Nat.reduceMul, Nat.reduceAdd, Nat.reduceSub, Nat.reduceEqDiff, Nat.reduceLeDiff, Nat.reduceLT, Nat.not_lt_zero, jx_cl, nI_leI, nI_ltI, nI_eq, jx_neg, jx_neg', jx_negE, jx_negL, jx_negG, jx_negLE, jx_negN, sb_nlt, sb_nle, jx_b0, jx_b1, jx_bT, jx_bF, ite_true, ite_false, if_true, if_false, reduceIte, Bool.false_eq_true, Bool.true_eq_false, eq_self, Nat.one_ne_zero, Nat.add_sub_cancel, not_true_eq_false, not_false_eq_true, h0, h3, h]
/-- the parts behind one another -/
def jz_cat (c : Nat → List Nat) : Nat → List Nat
  | 0 => []
  | k + 1 => jz_cat c k ++ c k
theorem jz_cat_len (c : Nat → List Nat) (k : Nat) : (jz_cat c k).length = jo c k := by
  induction k with
  | zero => rfl
  | succ k ih => rw [jz_cat, List.length_append, ih]; rfl
theorem jz_getD_l {A B : List Nat} {j : Nat} (h : j < A.length) : (A ++ B).getD j 0 = A.getD j 0 := by
  simp [List.getD_eq_getElem?_getD, List.getElem?_append_left h]
theorem jz_getD_r {A B : List Nat} {j : Nat} : (A ++ B).getD (A.length + j) 0 = B.getD j 0 := by
  simp [List.getD_eq_getElem?_getD, List.getElem?_append_right (show A.length ≤ A.length + j by omega)]
theorem jz_cat_get (c : Nat → List Nat) : ∀ n q j, q < n → j < (c q).length → (jz_cat c n).getD (jo c q + j) 0 = (c q).getD j 0 := by
  intro n
  induction n with
  | zero => intro q j h; omega
  | succ n ih =>
    intro q j hq hj
    rw [jz_cat]
    by_cases z : q = n
    · subst z; rw [← jz_cat_len, jz_getD_r]
    · have h1 := jo_le c (show q + 1 ≤ n by omega)
      have h2 : jo c (q + 1) = jo c q + (c q).length := rfl
      rw [jz_getD_l (by rw [jz_cat_len]; omega)]
      exact ih q j (by omega) hj
def jz_upd (c : Nat → List Nat) (k : Nat) (E : List Nat) : Nat → List Nat := fun q => if q = k then E else c q
theorem jz_upd_cat (c : Nat → List Nat) (k : Nat) (E : List Nat) : ∀ n, n ≤ k → jz_cat (jz_upd c k E) n = jz_cat c n := by
  intro n
  induction n with
  | zero => intro _; rfl
  | succ n ih => intro h; rw [jz_cat, jz_cat, ih (by omega), jz_upd, if_neg (by omega)]
theorem jz_upd_jo (c : Nat → List Nat) (k : Nat) (E : List Nat) {n : Nat} (h : n ≤ k) : jo (jz_upd c k E) n = jo c n := by
  rw [← jz_cat_len, jz_upd_cat c k E n h, jz_cat_len]
theorem jz_upd_at (c : Nat → List Nat) (k : Nat) (E : List Nat) : jz_cat (jz_upd c k E) (k + 1) = jz_cat c k ++ E := by
  rw [jz_cat, jz_upd_cat c k E k (Nat.le_refl _), jz_upd, if_pos rfl]
def jS_rt (t : Nat) : Nat → Nat → Bool := fun a k => jS_rd t a k || decide (a = 8 + 4 * t)
theorem jG_rdt {t : Nat} {I J : Nat → Nat → Int32} (h : jG (jS_rd t) I J) : jG (jS_rt t) I J := jG_mo h fun a k q => by
  unfold jS_rt at q; rw [Bool.or_eq_false_iff] at q; exact q.1
def jS_rs (t : Nat) : Nat → Nat → Bool := fun a k => jS_rm t a k || decide (a = 66 ∧ 4 * t ≤ k ∧ k < 4 * t + 4)
theorem jG_rms {t : Nat} {I J : Nat → Nat → Int32} (h : jG (jS_rm t) I J) : jG (jS_rs t) I J := jG_mo h fun a k q => by
  unfold jS_rs at q; rw [Bool.or_eq_false_iff] at q; exact q.1
theorem jS_rsY {t a k : Nat} (h : jS_rm t a k = true ∨ a = 66 ∧ 4 * t ≤ k ∧ k < 4 * t + 4) : jS_rs t a k = true := by
  unfold jS_rs
  rcases h with h | h
  · rw [h]; rfl
  · rw [decide_eq_true h, Bool.or_true]
theorem jS_rtY {t k : Nat} : jS_rt t (8 + 4 * t) k = true := by
  unfold jS_rt; rw [decide_eq_true rfl, Bool.or_true]
/-- the class, some parts read -/
def jt_good (b : Nat → Nat) (s t k : Nat) (H : Nat → Nat → Int32) (p : Nat) (c : Nat → List Nat) : Prop := jz_K H b s p ∧ p ≤ s ∧ jz_D H t (jz_cat c k) ∧ (jz_cat c k).length ≤ p ∧ (∀ q, q < k → H (8 + 4 * t) q = nI (jo c (q + 1))) ∧ ∀ q, q < k → jv_h (c q) 0 = some 1 ∧ ∀ z, z ∈ c q → jv_code z
/-- the reference, some parts read -/
def jt_Q (K : Nat → Nat → Int32) (b : Nat → Nat) (s t p : Nat) (C : List Nat) : Prop := jz_NB K b s ∧ K 57 13 = nI t ∧ K 57 22 = nI p ∧ (K 57 30 = nI C.length ∧ ∀ j, j < C.length → K 65 (200 * t + j) = nI (C.getD j 0)) ∧ C.length ≤ 160 ∧ t < 6
def jt_gr (b : Nat → Nat) (s t k : Nat) (K : Nat → Nat → Int32) (p : Nat) (c : Nat → List Nat) : Prop := jt_Q K b s t p (jz_cat c k) ∧ ∀ q, q < k → K 66 (4 * t + q) = nI (jo c q)
/-- the reference, a fault found -/
def jt_fr (t f : Nat) (K : Nat → Nat → Int32) : Prop := K 57 13 = nI t ∧ K 57 23 = nI f ∧ ∃ z, z ≤ 160 ∧ K 57 30 = nI z
noncomputable def jt_c (e0 t k : Nat) (rho : Nat → Option Nat) (mu : List (Nat × Nat)) (H : Nat → Nat → Int32) : jm_V := jm_go (jm_ev e0) 27 (20, [some (.ref 30), some (.ref (6 + 4 * t)), some (.int (nI k))], [], jm_hp H rho mu)
noncomputable def jt_m (d k good : Nat) (rho : Nat → Option Nat) (mu : List (Nat × Nat)) (K : Nat → Nat → Int32) : jm_V := jm_go (jm_ev (d + 5)) 168 (26, [some (.ref 57), some (.int (nI good)), some (.int (nI k))], [], jm_hp K rho mu)
theorem jt_Q_lm {K J : Nat → Nat → Int32} {b : Nat → Nat} {s t p q : Nat} {C : List Nat} (h : jt_Q K b s t p C) (g : jG jS_lm K J) (h22 : J 57 22 = nI q) : jt_Q J b s t q C := by
  obtain ⟨h1, h2, h3, ⟨h4, h5⟩, h6, h7⟩ := h
  have z : ∀ a k, ¬ (a = 57 ∧ 22 ≤ k ∧ k < 26) → J a k = K a k := fun a k h => g a k (decide_eq_false h)
  exact ⟨jz_NB_mo h1 g fun a k q => decide_eq_false (by omega), by rw [z _ _ (by omega)]; exact h2, h22, ⟨by rw [z _ _ (by omega)]; exact h4, fun j hj => by rw [z _ _ (by omega)]; exact h5 j hj⟩, h6, h7⟩
theorem jt_Q_66 {K : Nat → Nat → Int32} {b : Nat → Nat} {s t p k : Nat} {v : Int32} {C : List Nat} (h : jt_Q K b s t p C) : jt_Q (jm_up K 66 k v) b s t p C := by
  obtain ⟨h1, h2, h3, ⟨h4, h5⟩, h6, h7⟩ := h
  exact ⟨jz_NB_ot h1 (by omega) (by omega) (by omega), by rw [jx_rdn (by omega)]; exact h2, by rw [jx_rdn (by omega)]; exact h3, ⟨by rw [jx_rdn (by omega)]; exact h4, fun j hj => by rw [jx_rdn (by omega)]; exact h5 j hj⟩, h6, h7⟩
theorem jt_Q_R {K : Nat → Nat → Int32} {b : Nat → Nat} {s t p : Nat} {C : List Nat} (h : jt_Q K b s t p C) : jz_R (jm_up (jm_up K 57 28 (nI 0)) 57 29 (nI 0)) b s t p [] 0 C := by
  obtain ⟨h1, h2, h3, ⟨h4, h5⟩, h6, h7⟩ := h
  refine ⟨jz_NB_57 (jz_NB_57 h1 (by omega)) (by omega), ?_, ?_, ⟨?_, fun j hj => absurd hj (Nat.not_lt_zero _)⟩, ?_, ⟨?_, fun j hj => ?_⟩, fun g hg => (by cases hg), by rw [List.length_nil]; omega, by omega, h7⟩
  · rw [jx_rdn (by omega), jx_rdn (by omega)]; exact h2
  · rw [jx_rdn (by omega), jx_rdn (by omega)]; exact h3
  · rw [jx_rdn (by omega), jx_rds]; rfl
  · rw [jx_rds]
  · rw [jx_rdn (by omega), jx_rdn (by omega)]; exact h4
  · rw [jx_rdn (by omega), jx_rdn (by omega)]; exact h5 j hj
theorem jz_R_Q {K : Nat → Nat → Int32} {b : Nat → Nat} {s t p o : Nat} {hd C : List Nat} (h : jz_R K b s t p hd o C) : jt_Q K b s t p C := by
  obtain ⟨h1, h2, h3, h4, h5, h6, h7, h8, h9, h10⟩ := h
  exact ⟨h1, h2, h3, h6, by omega, h10⟩
/-- what the reference answers to one expression -/
theorem jt_E {d : Nat} {b : Nat → Nat} {s t p : Nat} {C : List Nat} {K : Nat → Nat → Int32} {rho : Nat → Option Nat} {mu : List (Nat × Nat)} (h : jt_Q K b s t p C) (hn : C.length ≤ p) : ∃ K1 V0, jm_ev (d + 5) 167 [.ref 57] (jm_hp K rho mu) = V0 ∧ jz_Z b s t d rho mu 6 0 p C K1 [] V0 ∧ jG (jS_rm t) K K1 := by
  refine ⟨jm_up (jm_up K 57 28 (nI 0)) 57 29 (nI 0), _, rfl, ⟨1, none, ?_, by rw [if_pos (by decide)], jt_Q_R h, by rw [List.length_nil]; omega, fun g l hg => (by cases hg)⟩, jG_up (jG_up jG_rf (jS_rmY (by omega))) (jS_rmY (by omega))⟩
  unfold jz_g1
  simp (disch := first | assumption | omega | exact jx_bz _ | exact jx_z0 | exact jx_z1 | (refine jx_ixB ?_ ?_; omega; omega) | (simp (disch := first | omega | fail) only [jx_lit, pk_mul, nI_add, nI_pred, pk_sub, jx_na, jx_add0, Nat.reduceMul, Nat.reduceAdd, Nat.reduceSub, Nat.reduceEqDiff, Nat.reduceLeDiff, Nat.reduceLT]; refine jx_ixC ?_ ?_; omega; omega) | (simp (disch := first | omega | fail) only [jx_lit, pk_mul, nI_add, nI_pred, pk_sub, jx_na, jx_add0, Nat.reduceMul, Nat.reduceAdd, Nat.reduceSub, Nat.reduceEqDiff, Nat.reduceLeDiff, Nat.reduceLT, jx_cl, nI_leI, Nat.zero_le, true_and]; omega) | fail) only [je_167, jb_167_0, jb_167_18, jb_167_22, jb_167_30, jb_167_38, jb_167_47, jb_167_57, jb_167_61, jb_167_64, jb_167_70, jb_167_75, jb_167_84, jb_167_88, jb_167_94, jb_167_97, jb_167_99, jb_167_108, jb_167_114, jb_167_117, jb_167_119, jb_167_124, jb_167_133, jb_167_138, jb_167_141, jb_167_143, jb_167_148, jb_167_150, jb_167_159, jb_167_164, jb_167_171, jb_167_175, jb_167_176, jb_167_177, jb_167_186, jb_167_191, jb_167_198, jb_167_200, jb_167_226, jb_167_229, jb_167_233, jb_167_239, jb_167_244, jb_167_247, jb_167_249, jb_167_257, jb_167_261, jb_167_262, jx_nl, jx_nlr, jx_thenS, jx_tlS, jx_tlN, jm_ite_go, jx_rds, jx_rdn, jx_lit, pk_mul, nI_add, nI_pred, pk_sub, jx_na, jx_add0, Nat.reduceMul, Nat.reduceAdd, Nat.reduceSub, Nat.reduceEqDiff, Nat.reduceLeDiff, Nat.reduceLT, Nat.not_lt_zero, jx_cl, nI_leI, nI_ltI, nI_eq, jx_neg, jx_neg', jx_negE, jx_negL, jx_negG, jx_negLE, jx_negN, sb_nlt, sb_nle, jx_b0, jx_b1, jx_bT, jx_bF, ite_true, ite_false, if_true, if_false, reduceIte, Bool.false_eq_true, Bool.true_eq_false, eq_self, Nat.one_ne_zero, Nat.add_sub_cancel, not_true_eq_false, not_false_eq_true]
theorem jt_step {d e0 : Nat} {b : Nat → Nat} {s t k p : Nat} {c : Nat → List Nat} {H : Nat → Nat → Int32} {rho : Nat → Option Nat} {mu : List (Nat × Nat)} (ht : t < 6) (hk : k < 3) (he : 58 ≤ e0) (hg : jt_good b s t k H p c) :
    (∃ H2 p2 E, jt_c e0 t k rho mu H = jt_c e0 t (k + 1) rho mu H2 ∧ jG (jS_rt t) H H2 ∧ jt_good b s t (k + 1) H2 p2 (jz_upd c k E) ∧ ∀ K, jt_gr b s t k K p c → ∃ K2, jt_m d k 1 rho mu K = jt_m d (k + 1) 1 rho mu K2 ∧ jt_gr b s t (k + 1) K2 p2 (jz_upd c k E) ∧ jG (jS_rs t) K K2) ∨
    (∃ H2 f, jt_c e0 t k rho mu H = jt_c e0 t (k + 1) rho mu H2 ∧ jG (jS_rt t) H H2 ∧ jz_F H2 b s t f ∧ ∀ K, jt_gr b s t k K p c → ∃ K2, jt_m d k 1 rho mu K = jt_m d (k + 1) 0 rho mu K2 ∧ jt_fr t f K2 ∧ jG (jS_rs t) K K2) := by
  obtain ⟨hK, hp, hD, hC, hE, hc⟩ := hg
  have hs := hK.1.2.1
  have z3 : ¬ 3 ≤ k := by omega
  have htv := jz_tv_of b s p
  have hkey := jz_ct_key (k := k) htv hk
  rw [← hK.2.2.2.1] at hkey
  obtain ⟨d0, hd0⟩ : ∃ d0, e0 = d0 + 1 := ⟨e0 - 1, by omega⟩
  -- the reference up to the key
  have key : ∀ K, jt_gr b s t k K p c → ∃ K1, jm_ev (d + 5) 159 [.ref 57] (jm_hp K rho mu) = some (none, jm_hp K1 rho mu) ∧ jt_Q K1 b s t (jz_e b s p) (jz_cat c k) ∧ K1 57 23 = nI (jz_r b s p) ∧ K1 57 24 = jz_mt (jz_t b s p) ∧ (1 ≤ jz_t b s p → jz_t b s p ≤ 3 → K1 57 25 = nI (jz_v b s p)) ∧ jG jS_lm K K1 := fun K hr => by
    obtain ⟨J, e, g, h1, h2, h3, h4⟩ := jf_159 (d := d + 3) (rho := rho) (mu := mu) hr.1.1 hr.1.2.2.1 hp
    exact ⟨J, e, jt_Q_lm hr.1 g h1, h2, h3, h4, g⟩
  have zi : 4 * t + k < 24 := by omega
  -- what comes behind a fault in the class
  have tail : ∀ J2 f, jz_F J2 b s t f → ∃ H2, jz_F H2 b s t f ∧ jG (jS_rt t) J2 H2 ∧ ∀ l, jm_go (jm_ev e0) 27 (38, [some (.ref 30), some (.ref (6 + 4 * t)), some (.int (nI k))], [], jm_hp J2 rho mu) = jt_c e0 t (k + 1) rho mu H2 ∨ l = 0 := fun J2 f hF => by
    obtain ⟨J3, k35, F3, g3⟩ := jz_F_take (e := e0) (due := nI 59) (rho := rho) (mu := mu) ht (by omega) hF (by decide)
    obtain ⟨z, hz, hz2⟩ := F3.2.2.2.2
    have k48 := @jf_48 d0 t k z J3 rho mu ht hk hz2
    rw [← hd0] at k48
    have gz : jG (jS_rt t) J3 (jm_up J3 (8 + 4 * t) k (nI z)) := jG_up jG_rf jS_rtY
    obtain ⟨f1, f2, f3, f4, f5⟩ := F3
    refine ⟨jm_up J3 (8 + 4 * t) k (nI z), ⟨?_, by rw [jx_rdn (by omega)]; exact f2, by rw [jx_rdn (by omega)]; exact f3, f4, z, hz, by rw [jx_rdn (by omega)]; exact hz2⟩, jG_tr (jG_rdt g3) gz, fun l => .inl ?_⟩
    · obtain ⟨b1, b2, b3, b4⟩ := f1
      exact ⟨by rw [jx_rdn (by omega)]; exact b1, b2, fun q hq => by rw [jx_rdn (by omega)]; exact b3 q hq, b4⟩
    · unfold jt_c
      simp (disch := first | assumption | omega | fail) only [jb_27_38, jb_27_44, jb_27_49, jx_thenS, jx_tlN, List.nil_append, Option.toList, jx_lit, k35, k48, nI_add]
  have n59 : ∀ q, ¬ jz_t b s q = 59 → ∀ J : Nat → Nat → Int32, J 30 3 = jz_ct (jz_t b s q) (jz_v b s q) → ¬ J 30 3 = nI 59 := fun q h J hJ => by rw [hJ, jz_ct_pos (jz_tv_of b s q) (by omega) (by omega)]; exact h
  by_cases hT : jz_t b s p = 3 ∧ jz_v b s p = k
  · have h3 : H 30 3 = nI (4 + k) := hkey.mpr hT
    have h0 := jz_t_0 hp (show jz_t b s p ≠ 0 by omega)
    have hq := (jz_e_le b hp).2.1
    obtain ⟨J1, k35, K1, g1⟩ := jz_take (e := e0) (rho := rho) (mu := mu) (by omega) hK hp h3
    have D1 := jz_D_lx ht hD g1
    -- the reference comes to the expression
    have hZ : ∀ K, jt_gr b s t k K p c → ∃ K1 V0, jz_Z b s t d rho mu 6 0 (jz_e b s p) (jz_cat c k) K1 [] V0 ∧ jG (jS_rs t) K K1 ∧ (∀ q, q < k + 1 → K1 66 (4 * t + q) = nI (jo c q)) ∧ (∀ v K2, V0 = some (some (.int (nI v)), jm_hp K2 rho mu) → v < 2 → jt_m d k 1 rho mu K = jt_m d (k + 1) v rho mu K2) := fun K hr => by
      obtain ⟨A, k159, a1, a2, a3, a4, a5⟩ := key K hr
      have a3 : A 57 24 = nI 3 := by rw [a3, hT.1]; rfl
      have a4 : A 57 25 = nI k := by rw [a4 (by omega) (by omega), hT.2]
      obtain ⟨B, hB⟩ : ∃ B, B = jm_up A 66 (4 * t + k) (nI (jz_cat c k).length) := ⟨_, rfl⟩
      have b1 : jt_Q B b s t (jz_e b s p) (jz_cat c k) := by rw [hB]; exact jt_Q_66 a1
      obtain ⟨D, V0, v1, v2, v3⟩ := jt_E (d := d) (rho := rho) (mu := mu) b1 (by omega)
      have gB : jG (jS_rs t) K B := by rw [hB]; exact jG_up (jG_rms (jG_lmm a5)) (jS_rsY (.inr (by omega)))
      refine ⟨D, V0, v2, jG_tr gB (jG_rms v3), fun q hq => ?_, fun v K2 hV hv => ?_⟩
      · rw [v3 66 _ (jS_rmZ (by omega)), hB]
        by_cases z : q = k
        · subst z; rw [jx_rds, jz_cat_len]
        · rw [jx_rdn (by omega), a5 66 _ (decide_eq_false (by omega))]; exact hr.2 q (by omega)
      · have h13 := a1.2.1
        have h30 := a1.2.2.2.1.1
        have hlen := a1.2.2.2.2.1
        rw [hV, hB] at v1
        unfold jt_m
        rw [jb_168_26]
        rcases (show v = 0 ∨ v = 1 by omega) with hv | hv <;> subst hv
        · simp (disch := first | assumption | omega | exact jx_bz _ | exact jx_z0 | exact jx_z1 | (refine jx_ixB ?_ ?_; omega; omega) | (simp (disch := first | omega | fail) only [jx_lit, pk_mul, nI_add, nI_pred, pk_sub, jx_na, jx_add0, Nat.reduceMul, Nat.reduceAdd, Nat.reduceSub, Nat.reduceEqDiff, Nat.reduceLeDiff, Nat.reduceLT, z3, k159, a3, a4, h13, h30, v1]; refine jx_ixC ?_ ?_; omega; omega) | (simp (disch := first | omega | fail) only [jx_lit, pk_mul, nI_add, nI_pred, pk_sub, jx_na, jx_add0, Nat.reduceMul, Nat.reduceAdd, Nat.reduceSub, Nat.reduceEqDiff, Nat.reduceLeDiff, Nat.reduceLT, jx_cl, nI_leI, Nat.zero_le, true_and, z3, k159, a3, a4, h13, h30, v1]; omega) | fail) only [jb_168_0, jb_168_9, jb_168_12, jb_168_31, jb_168_35, jb_168_39, jb_168_47, jb_168_55, jb_168_59, jb_168_60, jb_168_82, jb_168_86, jb_168_89, jb_168_93, jb_168_94, jb_168_101, jb_168_105, jb_168_109, jb_168_116, jb_168_120, jb_168_121, jb_168_122, jb_168_148, jb_168_156, jx_nl, jx_nlr, jx_thenS, jx_tlS, jx_tlN, jm_ite_go, jx_rds, jx_rdn, jx_lit, pk_mul, nI_add, nI_pred, pk_sub, jx_na, jx_add0, Nat.reduceMul, Nat.reduceAdd, Nat.reduceSub, Nat.reduceEqDiff, Nat.reduceLeDiff, Nat.reduceLT, Nat.not_lt_zero, jx_cl, nI_leI, nI_ltI, nI_eq, jx_neg, jx_neg', jx_negE, jx_negL, jx_negG, jx_negLE, jx_negN, sb_nlt, sb_nle, jx_b0, jx_b1, jx_bT, jx_bF, ite_true, ite_false, if_true, if_false, reduceIte, Bool.false_eq_true, Bool.true_eq_false, eq_self, Nat.one_ne_zero, Nat.add_sub_cancel, not_true_eq_false, not_false_eq_true, z3, k159, a3, a4, h13, h30, v1]
        · simp (disch := first | assumption | omega | exact jx_bz _ | exact jx_z0 | exact jx_z1 | (refine jx_ixB ?_ ?_; omega; omega) | (simp (disch := first | omega | fail) only [jx_lit, pk_mul, nI_add, nI_pred, pk_sub, jx_na, jx_add0, Nat.reduceMul, Nat.reduceAdd, Nat.reduceSub, Nat.reduceEqDiff, Nat.reduceLeDiff, Nat.reduceLT, z3, k159, a3, a4, h13, h30, v1]; refine jx_ixC ?_ ?_; omega; omega) | (simp (disch := first | omega | fail) only [jx_lit, pk_mul, nI_add, nI_pred, pk_sub, jx_na, jx_add0, Nat.reduceMul, Nat.reduceAdd, Nat.reduceSub, Nat.reduceEqDiff, Nat.reduceLeDiff, Nat.reduceLT, jx_cl, nI_leI, Nat.zero_le, true_and, z3, k159, a3, a4, h13, h30, v1]; omega) | fail) only [jb_168_0, jb_168_9, jb_168_12, jb_168_31, jb_168_35, jb_168_39, jb_168_47, jb_168_55, jb_168_59, jb_168_60, jb_168_82, jb_168_86, jb_168_89, jb_168_93, jb_168_94, jb_168_101, jb_168_105, jb_168_109, jb_168_116, jb_168_120, jb_168_121, jb_168_122, jb_168_148, jb_168_156, jx_nl, jx_nlr, jx_thenS, jx_tlS, jx_tlN, jm_ite_go, jx_rds, jx_rdn, jx_lit, pk_mul, nI_add, nI_pred, pk_sub, jx_na, jx_add0, Nat.reduceMul, Nat.reduceAdd, Nat.reduceSub, Nat.reduceEqDiff, Nat.reduceLeDiff, Nat.reduceLT, Nat.not_lt_zero, jx_cl, nI_leI, nI_ltI, nI_eq, jx_neg, jx_neg', jx_negE, jx_negL, jx_negG, jx_negLE, jx_negN, sb_nlt, sb_nle, jx_b0, jx_b1, jx_bT, jx_bF, ite_true, ite_false, if_true, if_false, reduceIte, Bool.false_eq_true, Bool.true_eq_false, eq_self, Nat.one_ne_zero, Nat.add_sub_cancel, not_true_eq_false, not_false_eq_true, z3, k159, a3, a4, h13, h30, v1]
    rcases jz_Or (d := d) (rho := rho) (mu := mu) ht hs hq e0 J1 (jz_cat c k) (by omega) (by omega) K1 D1 with ⟨J2, q2, E, E1, S, v1, g2, K2, D2, hq3, hl2, hE2, hS2, hc2, hh2, hf2, ref2⟩ | ⟨J2, f, v1, g2, F2, ref2⟩
    · have hS21 : ∀ x, x ∈ S → 1 ≤ jz_rk x := fun x hx => by
        have h1 := (hS2 x hx).1
        have h2 : jz_lo 6 = 1 := by decide
        omega
      by_cases h59 : jz_t b s q2 = 59
      · have i3 : J2 30 3 = nI 59 := by rw [K2.2.2.2.1]; exact (jz_ct_pos (jz_tv_of b s q2) (by omega) (by omega)).mpr h59
        have h02 := jz_t_0 hq3 (show jz_t b s q2 ≠ 0 by omega)
        obtain ⟨J3, k35b, K3, g3⟩ := jz_take (e := e0) (rho := rho) (mu := mu) (by omega) K2 hq3 i3
        have D3 := jz_D_lx ht D2 g3
        have k48 := @jf_48 d0 t k (jz_cat c k ++ E).length J3 rho mu ht hk D3.1
        rw [← hd0] at k48
        have gz : jG (jS_rt t) J3 (jm_up J3 (8 + 4 * t) k (nI (jz_cat c k ++ E).length)) := jG_up jG_rf jS_rtY
        have gall := jG_tr (jG_tr (jG_rdt (jG_lxrd g1)) (jG_rdt g2)) (jG_rdt (jG_lxrd (t := t) g3))
        refine .inl ⟨jm_up J3 (8 + 4 * t) k (nI (jz_cat c k ++ E).length), jz_e b s q2, E, ?_, jG_tr gall gz, ⟨?_, (jz_e_le b hq3).2.1, ?_, ?_, fun q hq => ?_, fun q hq => ?_⟩, fun K hr => ?_⟩
        · unfold jt_c
          rw [jb_27_20]
          simp (disch := first | assumption | omega | fail) only [jb_27_25, jb_27_32, jb_27_38, jb_27_44, jb_27_49, jx_thenS, jx_tlN, jx_lit, nI_leI, z3, if_false, ite_false, nI_add, k35, v1, k35b, k48, List.append_nil, List.nil_append, Option.toList]
        · obtain ⟨⟨b1, b2, b3, b4⟩, m2, m3, m4, m5, m6⟩ := K3
          exact ⟨⟨by rw [jx_rdn (by omega)]; exact b1, b2, fun q hq => by rw [jx_rdn (by omega)]; exact b3 q hq, b4⟩, by rw [jx_rdn (by omega)]; exact m2, by rw [jx_rdn (by omega)]; exact m3, by rw [jx_rdn (by omega)]; exact m4, by rw [jx_rdn (by omega)]; exact m5, fun q => by rw [jx_rdn (by omega)]; exact m6 q⟩
        · rw [jz_upd_at]
          obtain ⟨m1, m2, m3⟩ := D3
          exact ⟨by rw [jx_rdn (by omega)]; exact m1, m2, fun j hj => by rw [jx_rdn (by omega)]; exact m3 j hj⟩
        · rw [jz_upd_at, List.length_append]; omega
        · by_cases z : q = k
          · subst z; rw [jx_rds, ← jz_upd_at, jz_cat_len]
          · rw [jx_rdn (by omega), jz_upd_jo c k E (by omega), ← hE q (by omega)]
            have e8 : ∀ a b', jS_lx a b' = true → a = 30 := fun a b' h => (of_decide_eq_true h).1
            rw [g3 _ _ (jS_lxZ (by omega)), g2 _ _ (decide_eq_false (by omega)), g1 _ _ (jS_lxZ (by omega))]
        · by_cases z : q = k
          · subst z
            rw [jz_upd, if_pos rfl]
            exact ⟨hh2 0 (by omega), hc2⟩
          · rw [jz_upd, if_neg z]; exact hc q (by omega)
        · obtain ⟨A, V0, z1, r1, r2, r3⟩ := hZ K hr
          obtain ⟨B, mn, l3, a1, a2, a3⟩ := ref2 A [] V0 z1
          obtain ⟨D, b1, b2, b3, b4⟩ := jr_semi (d := d) (rho := rho) (mu := mu) (mn := mn) (l3 := l3) hq3 h59 a2 hS21 (fun g l hg => (by cases hg))
          rw [List.length_nil, if_pos rfl] at b1
          refine ⟨D, r3 1 D (a1.trans b1) (by omega), ⟨?_, fun q hq => ?_⟩, jG_tr r1 (jG_rms (jG_tr a3 b2))⟩
          · rw [jz_upd_at, hE2]
            have := jz_R_Q b4
            dsimp only at this
            rw [List.append_assoc] at this
            exact this
          · rw [jz_upd_jo c k E (by omega), b2 66 _ (jS_rmZ (by omega)), a3 66 _ (jS_rmZ (by omega))]; exact r2 q hq
      · obtain ⟨J3, k35b, F3, g3⟩ := jz_takeN (e := e0) (due := nI 59) (rho := rho) (mu := mu) ht (by omega) K2 D2 hq3 (n59 q2 h59 J2 K2.2.2.2.1)
        obtain ⟨zz, hz, hz2⟩ := F3.2.2.2.2
        have k48 := @jf_48 d0 t k zz J3 rho mu ht hk hz2
        rw [← hd0] at k48
        have gz : jG (jS_rt t) J3 (jm_up J3 (8 + 4 * t) k (nI zz)) := jG_up jG_rf jS_rtY
        have gall := jG_tr (jG_tr (jG_rdt (jG_lxrd g1)) (jG_rdt g2)) (jG_rdt g3)
        refine .inr ⟨jm_up J3 (8 + 4 * t) k (nI zz), jz_r b s q2, ?_, jG_tr gall gz, ?_, fun K hr => ?_⟩
        · unfold jt_c
          rw [jb_27_20]
          simp (disch := first | assumption | omega | fail) only [jb_27_25, jb_27_32, jb_27_38, jb_27_44, jb_27_49, jx_thenS, jx_tlN, jx_lit, nI_leI, z3, if_false, ite_false, nI_add, k35, v1, k35b, k48, List.append_nil, List.nil_append, Option.toList]
        · obtain ⟨f1, f2, f3, f4, f5⟩ := F3
          obtain ⟨b1, b2, b3, b4⟩ := f1
          exact ⟨⟨by rw [jx_rdn (by omega)]; exact b1, b2, fun q hq => by rw [jx_rdn (by omega)]; exact b3 q hq, b4⟩, by rw [jx_rdn (by omega)]; exact f2, by rw [jx_rdn (by omega)]; exact f3, f4, zz, hz, by rw [jx_rdn (by omega)]; exact hz2⟩
        · obtain ⟨A, V0, z1, r1, r2, r3⟩ := hZ K hr
          obtain ⟨B, mn, l3, a1, a2, a3⟩ := ref2 A [] V0 z1
          have h13 : B 57 13 = nI t := a2.2.1
          have hlen := a2.2.2.2.2.2.2.2.1
          dsimp only at a2 hlen
          obtain ⟨f1, f2, f3, f4, f5⟩ := hf2
          by_cases h41 : jz_t b s q2 = 41
          · obtain ⟨D, b1, b2, b3, b4⟩ := jr_close0 (d := d) (rho := rho) (mu := mu) (mn := mn) (l3 := l3) hq3 h41 a2 hS21
            refine ⟨D, r3 0 D (a1.trans b1) (by omega), ⟨by rw [b2 57 13 (jS_rmZ (by omega))]; exact h13, b3, _, ?_, b4⟩, jG_tr r1 (jG_rms (jG_tr a3 b2))⟩
            rw [List.append_nil] at hlen
            simp only [List.length_append] at hlen ⊢
            omega
          · by_cases h60 : jz_t b s q2 = 60 ∨ jz_t b s q2 = 61
            · obtain ⟨S5, x, S6, hx1, hx2, hx3⟩ := f3 (by decide) h60
              rw [hx1, List.append_assoc, List.cons_append] at a2
              have a2' : jz_R B b s t q2 (S5 ++ x :: (S6 ++ [])) (0 + jz_no (x :: S6) + jz_no S5) (jz_cat c k ++ E1) := by
                rw [jz_no_app] at a2
                rw [show 0 + jz_no (x :: S6) + jz_no S5 = 0 + (jz_no S5 + jz_no (x :: S6)) by omega]
                exact a2
              obtain ⟨D, b1, b2, b3, b4⟩ := jr_cmp2 (d := d) (rho := rho) (mu := mu) (mn := mn) (l3 := l3) hq3 h60 hx3 a2' hx2
              refine ⟨D, r3 0 D (a1.trans b1) (by omega), ⟨by rw [b2 57 13 (jS_rmZ (by omega))]; exact h13, b3, _, ?_, b4⟩, jG_tr r1 (jG_rms (jG_tr a3 b2))⟩
              rw [hx1] at hlen
              simp only [List.length_append, List.length_cons] at hlen ⊢
              omega
            · have hsg : jz_sg (jz_t b s q2) = 0 := by
                apply Classical.byContradiction
                intro q
                have h1 := (jz_sg_T q).1
                have h2 := f1 (by decide)
                have h3 := f2 (by decide)
                have h4 := f4 (by decide)
                have h5 := f5 (by decide)
                omega
              obtain ⟨D, b1, b2, b3, b4⟩ := jr_bad0 (d := d) (rho := rho) (mu := mu) (mn := mn) (l3 := l3) hq3 a2 hsg h59 h41
              exact ⟨D, r3 0 D (a1.trans b1) (by omega), ⟨by rw [b2 57 13 (jS_rmZ (by omega))]; exact h13, b3, _, by omega, b4⟩, jG_tr r1 (jG_rms (jG_tr a3 b2))⟩
    · obtain ⟨H2, F3, g3, ht3⟩ := tail J2 f F2
      refine .inr ⟨H2, f, ?_, jG_tr (jG_tr (jG_rdt (jG_lxrd g1)) (jG_rdt g2)) g3, F3, fun K hr => ?_⟩
      · have e38 := (ht3 1).resolve_right (by omega)
        rw [← e38]
        unfold jt_c
        rw [jb_27_20]
        simp (disch := first | assumption | omega | fail) only [jb_27_25, jb_27_32, jx_thenS, jx_tlN, jx_lit, nI_leI, z3, if_false, ite_false, nI_add, k35, v1, List.append_nil, List.nil_append, Option.toList]
      · obtain ⟨A, V0, z1, r1, r2, r3⟩ := hZ K hr
        obtain ⟨B, z, a1, a2, a3, a4, a5⟩ := ref2 A [] V0 z1
        refine ⟨B, r3 0 B a1 (by omega), ⟨?_, a3, z, a5, a4⟩, jG_tr r1 (jG_rms a2)⟩
        obtain ⟨_, _, _, _, zR, _, _⟩ := z1
        rw [a2 57 13 (jS_rmZ (by omega))]; exact zR.2.1
  · have h3 : ¬ H 30 3 = nI (4 + k) := fun q => hT (hkey.mp q)
    obtain ⟨J1, k35, F1, g1⟩ := jz_takeN (e := e0) (rho := rho) (mu := mu) ht (by omega) hK hD hp h3
    obtain ⟨J2, k28, F2, g2⟩ := jd_28 (e := e0) (o := 0) (rho := rho) (mu := mu) ht (by omega) F1
    obtain ⟨H2, F3, g3, ht3⟩ := tail J2 _ F2
    refine .inr ⟨H2, _, ?_, jG_tr (jG_tr (jG_rdt g1) (jG_rdt g2)) g3, F3, fun K hr => ?_⟩
    · have e38 := (ht3 1).resolve_right (by omega)
      rw [← e38]
      unfold jt_c
      rw [jb_27_20]
      simp (disch := first | assumption | omega | fail) only [jb_27_25, jb_27_32, jx_thenS, jx_tlN, jx_lit, nI_leI, z3, if_false, ite_false, nI_add, k35, k28, List.append_nil, List.nil_append, Option.toList]
    · obtain ⟨A, k159, a1, a2, a3, a4, a5⟩ := key K hr
      have h13 := a1.2.1
      have h30 := a1.2.2.2.1.1
      have hlen := a1.2.2.2.2.1
      refine ⟨jm_up A 66 (4 * t + k) (nI (jz_cat c k).length), ?_, ⟨by rw [jx_rdn (by omega)]; exact h13, by rw [jx_rdn (by omega)]; exact a2, _, hlen, by rw [jx_rdn (by omega)]; exact h30⟩, jG_up (jG_rms (jG_lmm a5)) (jS_rsY (.inr (by omega)))⟩
      unfold jt_m
      rw [jb_168_26]
      by_cases hT3 : jz_t b s p = 3
      · have a3 : A 57 24 = nI 3 := by rw [a3, hT3]; rfl
        have hvk : ¬ jz_v b s p = k := fun q => hT ⟨hT3, q⟩
        have hv3 : jz_v b s p < 3 := by have := jz_tv_of b s p; unfold jz_tv at this; omega
        have a4 : A 57 25 = nI (jz_v b s p) := a4 (by omega) (by omega)
        simp (disch := first | assumption | omega | exact jx_bz _ | exact jx_z0 | exact jx_z1 | (refine jx_ixB ?_ ?_; omega; omega) | (simp (disch := first | omega | fail) only [jx_lit, pk_mul, nI_add, nI_pred, pk_sub, jx_na, jx_add0, Nat.reduceMul, Nat.reduceAdd, Nat.reduceSub, Nat.reduceEqDiff, Nat.reduceLeDiff, Nat.reduceLT, z3, k159, a3, a4, hvk, h13, h30]; refine jx_ixC ?_ ?_; omega; omega) | (simp (disch := first | omega | fail) only [jx_lit, pk_mul, nI_add, nI_pred, pk_sub, jx_na, jx_add0, Nat.reduceMul, Nat.reduceAdd, Nat.reduceSub, Nat.reduceEqDiff, Nat.reduceLeDiff, Nat.reduceLT, jx_cl, nI_leI, Nat.zero_le, true_and, z3, k159, a3, a4, hvk, h13, h30]; omega) | fail) only [jb_168_0, jb_168_9, jb_168_12, jb_168_31, jb_168_35, jb_168_39, jb_168_47, jb_168_55, jb_168_59, jb_168_60, jb_168_82, jb_168_86, jb_168_89, jb_168_93, jb_168_94, jb_168_101, jb_168_105, jb_168_109, jb_168_116, jb_168_120, jb_168_121, jb_168_122, jb_168_148, jb_168_156, jx_nl, jx_nlr, jx_thenS, jx_tlS, jx_tlN, jm_ite_go, jx_rds, jx_rdn, jx_lit, pk_mul, nI_add, nI_pred, pk_sub, jx_na, jx_add0, Nat.reduceMul, Nat.reduceAdd, Nat.reduceSub, Nat.reduceEqDiff, Nat.reduceLeDiff, Nat.reduceLT, Nat.not_lt_zero, jx_cl, nI_leI, nI_ltI, nI_eq, jx_neg, jx_neg', jx_negE, jx_negL, jx_negG, jx_negLE, jx_negN, sb_nlt, sb_nle, jx_b0, jx_b1, jx_bT, jx_bF, ite_true, ite_false, if_true, if_false, reduceIte, Bool.false_eq_true, Bool.true_eq_false, eq_self, Nat.one_ne_zero, Nat.add_sub_cancel, not_true_eq_false, not_false_eq_true, z3, k159, a3, a4, hvk, h13, h30]
      · have n3 := jz_mt_ne (jz_t_lt b s p hK.1.2.2.2) (show 3 < 256 by omega) hT3 (by omega)
        rw [← a3] at n3
        simp (disch := first | assumption | omega | exact jx_bz _ | exact jx_z0 | exact jx_z1 | (refine jx_ixB ?_ ?_; omega; omega) | (simp (disch := first | omega | fail) only [jx_lit, pk_mul, nI_add, nI_pred, pk_sub, jx_na, jx_add0, Nat.reduceMul, Nat.reduceAdd, Nat.reduceSub, Nat.reduceEqDiff, Nat.reduceLeDiff, Nat.reduceLT, z3, k159, n3, h13, h30]; refine jx_ixC ?_ ?_; omega; omega) | (simp (disch := first | omega | fail) only [jx_lit, pk_mul, nI_add, nI_pred, pk_sub, jx_na, jx_add0, Nat.reduceMul, Nat.reduceAdd, Nat.reduceSub, Nat.reduceEqDiff, Nat.reduceLeDiff, Nat.reduceLT, jx_cl, nI_leI, Nat.zero_le, true_and, z3, k159, n3, h13, h30]; omega) | fail) only [jb_168_0, jb_168_9, jb_168_12, jb_168_31, jb_168_35, jb_168_39, jb_168_47, jb_168_55, jb_168_59, jb_168_60, jb_168_82, jb_168_86, jb_168_89, jb_168_93, jb_168_94, jb_168_101, jb_168_105, jb_168_109, jb_168_116, jb_168_120, jb_168_121, jb_168_122, jb_168_148, jb_168_156, jx_nl, jx_nlr, jx_thenS, jx_tlS, jx_tlN, jm_ite_go, jx_rds, jx_rdn, jx_lit, pk_mul, nI_add, nI_pred, pk_sub, jx_na, jx_add0, Nat.reduceMul, Nat.reduceAdd, Nat.reduceSub, Nat.reduceEqDiff, Nat.reduceLeDiff, Nat.reduceLT, Nat.not_lt_zero, jx_cl, nI_leI, nI_ltI, nI_eq, jx_neg, jx_neg', jx_negE, jx_negL, jx_negG, jx_negLE, jx_negN, sb_nlt, sb_nle, jx_b0, jx_b1, jx_bT, jx_bF, ite_true, ite_false, if_true, if_false, reduceIte, Bool.false_eq_true, Bool.true_eq_false, eq_self, Nat.one_ne_zero, Nat.add_sub_cancel, not_true_eq_false, not_false_eq_true, z3, k159, n3, h13, h30]
