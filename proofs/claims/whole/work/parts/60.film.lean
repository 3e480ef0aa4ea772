/-! FILM -/
theorem jx_by8 : ∀ l, l < 100 → (nI l).toInt8.toInt32 = nI l := by decide +kernel
def js_fim (w : jW) (kd : Nat) (P : Nat → Int32) (dd : Nat → Nat) (n k : Nat) : Int32 := if k < n then js_wk w kd P dd (k + 1) 3 else nI 0
theorem jf_17b {d s k z l : Nat} {I : Nat → Nat → Int32} {rho : Nat → Option Nat} {mu : List (Nat × Nat)} (hs : s < 4) (hz : I (49 + 2 * s) 1 = nI z) (hz4 : z ≤ 40) (hk : k < z) (h0 : I (49 + 2 * s) 0 = nI 0) (hl : l < 100) : jm_ev (d + 1) 17 [.ref (49 + 2 * s), .int (nI k), .int (nI l)] (jm_hp I rho mu) = some (some (.int (nI 1)), jm_hp (jm_up I (50 + 2 * s) k (nI l)) rho mu) := by
  have zn : ¬ z ≤ k := by omega
  have z40 : ¬ 40 ≤ k := by omega
  have z41 : k < 40 := by omega
  have e := jx_by8 l hl
  simp (disch := first | assumption | omega | exact jx_bz _ | exact jx_z0 | exact jx_z1 | (refine jx_ixB ?_ ?_; omega; omega) | (simp (disch := first | omega | fail) only [jx_lit, pk_mul, nI_add, nI_pred, pk_sub, jx_na, jx_add0, Nat.reduceMul, Nat.reduceAdd, Nat.reduceSub, Nat.reduceEqDiff, Nat.reduceLeDiff, Nat.reduceLT, hz, h0, zn, z40, z41, e]; refine jx_ixC ?_ ?_; omega; omega) | (simp (disch := first | omega | fail) only [jx_lit, pk_mul, nI_add, nI_pred, pk_sub, jx_na, jx_add0, Nat.reduceMul, Nat.reduceAdd, Nat.reduceSub, Nat.reduceEqDiff, Nat.reduceLeDiff, Nat.reduceLT, jx_cl, nI_leI, Nat.zero_le, true_and, hz, h0, zn, z40, z41, e]; omega) | fail) only [je_17, jb_17_0, jb_17_4, jb_17_12, jb_17_21, jb_17_23, jb_17_30, jb_17_41, jb_17_49, jb_17_60, jb_17_67, jx_nl, jx_nlr, jx_thenS, jx_tlS, jx_tlN, jm_ite_go, jx_rds, jx_rdn, jx_lit, pk_mul, nI_add, nI_pred, pk_sub, jx_na, jx_add0, Nat.reduceMul, Nat.reduceAdd, Nat.reduceSub, Nat.reduceEqDiff, Nat.reduceLeDiff, Nat.reduceLT, Nat.not_lt_zero, jx_cl, nI_leI, nI_ltI, nI_eq, jx_neg, jx_neg', jx_negE, jx_negL, jx_negG, jx_negLE, jx_negN, sb_nlt, sb_nle, jx_b0, jx_b1, jx_bT, jx_bF, ite_true, ite_false, if_true, if_false, reduceIte, Bool.false_eq_true, Bool.true_eq_false, eq_self, Nat.one_ne_zero, Nat.add_sub_cancel, not_true_eq_false, not_false_eq_true, hz, h0, zn, z40, z41, e]
theorem jq_film (x y z : Int32) : jCall 109 223 [.int x, .int y, .int z] := by
  intro d H rho mu hV hmu
  obtain ⟨w, m, tc, ad, kd, cds, hI⟩ := id hV
  obtain ⟨h1, h2, -, -, h5, -⟩ := id hI
  have p3 := h2.1
  have p0 := h2.2.2.1
  have pm6 := h2.2.1
  obtain ⟨t2, u7, tn12⟩ := jR1_c h1
  have hnr : ∀ o, jm_nl (some (.ref o)) = some (.ref o) := fun _ => rfl
  rcases jx_rng y 3 (by decide) with ⟨hy, -, ka⟩ | ⟨t, ht, rfl, ka⟩
  · have ka := ka (d + 58) H rho mu
    have k136 := @jf_136n (d + 58) y H rho mu hy
    exact jCall_no (v := .int (-nI 2)) hV (by simp (disch := first | assumption | omega | exact jx_bz _ | exact jx_z0 | exact jx_z1 | (refine jx_ixB ?_ ?_; omega; omega) | (simp (disch := first | omega | fail) only [jx_lit, pk_mul, nI_add, nI_pred, pk_sub, jx_na, jx_add0, Nat.reduceMul, Nat.reduceAdd, Nat.reduceSub, Nat.reduceEqDiff, Nat.reduceLeDiff, Nat.reduceLT, k136]; refine jx_ixC ?_ ?_; omega; omega) | (simp (disch := first | omega | fail) only [jx_lit, pk_mul, nI_add, nI_pred, pk_sub, jx_na, jx_add0, Nat.reduceMul, Nat.reduceAdd, Nat.reduceSub, Nat.reduceEqDiff, Nat.reduceLeDiff, Nat.reduceLT, jx_cl, nI_leI, Nat.zero_le, true_and, k136]; omega) | fail) only [je_109, jb_109_0, jb_109_5, jb_109_5_1, jb_109_12, jb_109_17, jb_109_20, jb_109_25, jb_109_32, jb_109_35, jb_109_40, jb_109_40_1, jb_109_47, jb_109_50, jb_109_61, jb_109_61_1, jb_109_68, jb_109_68_1, jb_109_78, jb_109_78_1, jb_109_88, jb_109_88_1, jb_109_101, jb_109_101_1, jb_109_104, jb_109_117, jb_109_124, jx_nl, jx_nlr, jx_thenS, jx_tlS, jx_tlN, jm_ite_go, jx_rds, jx_rdn, jx_lit, pk_mul, nI_add, nI_pred, pk_sub, jx_na, jx_add0, Nat.reduceMul, Nat.reduceAdd, Nat.reduceSub, Nat.reduceEqDiff, Nat.reduceLeDiff, Nat.reduceLT, Nat.not_lt_zero, jx_cl, nI_leI, nI_ltI, nI_eq, jx_neg, jx_neg', jx_negE, jx_negL, jx_negG, jx_negLE, jx_negN, sb_nlt, sb_nle, jx_b0, jx_b1, jx_bT, jx_bF, ite_true, ite_false, if_true, if_false, reduceIte, Bool.false_eq_true, Bool.true_eq_false, eq_self, Nat.one_ne_zero, Nat.add_sub_cancel, not_true_eq_false, not_false_eq_true, k136]) (by simp (disch := first | assumption | omega | exact jx_bz _ | exact jx_z0 | exact jx_z1 | (refine jx_ixB ?_ ?_; omega; omega) | (simp (disch := first | omega | fail) only [jx_lit, pk_mul, nI_add, nI_pred, pk_sub, jx_na, jx_add0, Nat.reduceMul, Nat.reduceAdd, Nat.reduceSub, Nat.reduceEqDiff, Nat.reduceLeDiff, Nat.reduceLT, ka]; refine jx_ixC ?_ ?_; omega; omega) | (simp (disch := first | omega | fail) only [jx_lit, pk_mul, nI_add, nI_pred, pk_sub, jx_na, jx_add0, Nat.reduceMul, Nat.reduceAdd, Nat.reduceSub, Nat.reduceEqDiff, Nat.reduceLeDiff, Nat.reduceLT, jx_cl, nI_leI, Nat.zero_le, true_and, ka]; omega) | fail) only [je_223, jb_223_0, jb_223_6, jb_223_9, jb_223_14, jb_223_17, jb_223_23, jb_223_30, jb_223_33, jb_223_57, jb_223_67, jb_223_91, jb_223_111, jb_223_114, jb_223_136, jb_223_142, jb_223_147, jx_nl, jx_nlr, jx_thenS, jx_tlS, jx_tlN, jm_ite_go, jx_rds, jx_rdn, jx_lit, pk_mul, nI_add, nI_pred, pk_sub, jx_na, jx_add0, Nat.reduceMul, Nat.reduceAdd, Nat.reduceSub, Nat.reduceEqDiff, Nat.reduceLeDiff, Nat.reduceLT, Nat.not_lt_zero, jx_cl, nI_leI, nI_ltI, nI_eq, jx_neg, jx_neg', jx_negE, jx_negL, jx_negG, jx_negLE, jx_negN, sb_nlt, sb_nle, jx_b0, jx_b1, jx_bT, jx_bF, ite_true, ite_false, if_true, if_false, reduceIte, Bool.false_eq_true, Bool.true_eq_false, eq_self, Nat.one_ne_zero, Nat.add_sub_cancel, not_true_eq_false, not_false_eq_true, ka])
  · have ka := ka (d + 58)
    have kaH := ka H rho mu
    have k136 := @jf_136 (d + 58) t H rho mu ht
    by_cases zxt : x = nI t
    · exact jCall_no (v := .int (-nI 2)) hV (by simp (disch := first | assumption | omega | exact jx_bz _ | exact jx_z0 | exact jx_z1 | (refine jx_ixB ?_ ?_; omega; omega) | (simp (disch := first | omega | fail) only [jx_lit, pk_mul, nI_add, nI_pred, pk_sub, jx_na, jx_add0, Nat.reduceMul, Nat.reduceAdd, Nat.reduceSub, Nat.reduceEqDiff, Nat.reduceLeDiff, Nat.reduceLT, k136, zxt]; refine jx_ixC ?_ ?_; omega; omega) | (simp (disch := first | omega | fail) only [jx_lit, pk_mul, nI_add, nI_pred, pk_sub, jx_na, jx_add0, Nat.reduceMul, Nat.reduceAdd, Nat.reduceSub, Nat.reduceEqDiff, Nat.reduceLeDiff, Nat.reduceLT, jx_cl, nI_leI, Nat.zero_le, true_and, k136, zxt]; omega) | fail) only [je_109, jb_109_0, jb_109_5, jb_109_5_1, jb_109_12, jb_109_17, jb_109_20, jb_109_25, jb_109_32, jb_109_35, jb_109_40, jb_109_40_1, jb_109_47, jb_109_50, jb_109_61, jb_109_61_1, jb_109_68, jb_109_68_1, jb_109_78, jb_109_78_1, jb_109_88, jb_109_88_1, jb_109_101, jb_109_101_1, jb_109_104, jb_109_117, jb_109_124, jx_nl, jx_nlr, jx_thenS, jx_tlS, jx_tlN, jm_ite_go, jx_rds, jx_rdn, jx_lit, pk_mul, nI_add, nI_pred, pk_sub, jx_na, jx_add0, Nat.reduceMul, Nat.reduceAdd, Nat.reduceSub, Nat.reduceEqDiff, Nat.reduceLeDiff, Nat.reduceLT, Nat.not_lt_zero, jx_cl, nI_leI, nI_ltI, nI_eq, jx_neg, jx_neg', jx_negE, jx_negL, jx_negG, jx_negLE, jx_negN, sb_nlt, sb_nle, jx_b0, jx_b1, jx_bT, jx_bF, ite_true, ite_false, if_true, if_false, reduceIte, Bool.false_eq_true, Bool.true_eq_false, eq_self, Nat.one_ne_zero, Nat.add_sub_cancel, not_true_eq_false, not_false_eq_true, k136, zxt]) (by simp (disch := first | assumption | omega | exact jx_bz _ | exact jx_z0 | exact jx_z1 | (refine jx_ixB ?_ ?_; omega; omega) | (simp (disch := first | omega | fail) only [jx_lit, pk_mul, nI_add, nI_pred, pk_sub, jx_na, jx_add0, Nat.reduceMul, Nat.reduceAdd, Nat.reduceSub, Nat.reduceEqDiff, Nat.reduceLeDiff, Nat.reduceLT, kaH, zxt]; refine jx_ixC ?_ ?_; omega; omega) | (simp (disch := first | omega | fail) only [jx_lit, pk_mul, nI_add, nI_pred, pk_sub, jx_na, jx_add0, Nat.reduceMul, Nat.reduceAdd, Nat.reduceSub, Nat.reduceEqDiff, Nat.reduceLeDiff, Nat.reduceLT, jx_cl, nI_leI, Nat.zero_le, true_and, kaH, zxt]; omega) | fail) only [je_223, jb_223_0, jb_223_6, jb_223_9, jb_223_14, jb_223_17, jb_223_23, jb_223_30, jb_223_33, jb_223_57, jb_223_67, jb_223_91, jb_223_111, jb_223_114, jb_223_136, jb_223_142, jb_223_147, jx_nl, jx_nlr, jx_thenS, jx_tlS, jx_tlN, jm_ite_go, jx_rds, jx_rdn, jx_lit, pk_mul, nI_add, nI_pred, pk_sub, jx_na, jx_add0, Nat.reduceMul, Nat.reduceAdd, Nat.reduceSub, Nat.reduceEqDiff, Nat.reduceLeDiff, Nat.reduceLT, Nat.not_lt_zero, jx_cl, nI_leI, nI_ltI, nI_eq, jx_neg, jx_neg', jx_negE, jx_negL, jx_negG, jx_negLE, jx_negN, sb_nlt, sb_nle, jx_b0, jx_b1, jx_bT, jx_bF, ite_true, ite_false, if_true, if_false, reduceIte, Bool.false_eq_true, Bool.true_eq_false, eq_self, Nat.one_ne_zero, Nat.add_sub_cancel, not_true_eq_false, not_false_eq_true, kaH, zxt])
    · rcases jx_walk h1 h5 rho mu x with ⟨r, hr0, hr, e1, e2⟩ | ⟨s, n, dd, hs, rfl, h40, c1, c2, c3, c4, e1, e2⟩
      · have e1 := e1 (d + 57) H jSc_rf t2
        have e2 := e2 (d + 55) H jSm_rf u7
        exact jCall_no (v := .int (-nI r)) hV (by simp (disch := first | assumption | omega | exact jx_bz _ | exact jx_z0 | exact jx_z1 | (refine jx_ixB ?_ ?_; omega; omega) | (simp (disch := first | omega | fail) only [jx_lit, pk_mul, nI_add, nI_pred, pk_sub, jx_na, jx_add0, Nat.reduceMul, Nat.reduceAdd, Nat.reduceSub, Nat.reduceEqDiff, Nat.reduceLeDiff, Nat.reduceLT, k136, zxt, e1]; refine jx_ixC ?_ ?_; omega; omega) | (simp (disch := first | omega | fail) only [jx_lit, pk_mul, nI_add, nI_pred, pk_sub, jx_na, jx_add0, Nat.reduceMul, Nat.reduceAdd, Nat.reduceSub, Nat.reduceEqDiff, Nat.reduceLeDiff, Nat.reduceLT, jx_cl, nI_leI, Nat.zero_le, true_and, k136, zxt, e1]; omega) | fail) only [je_109, jb_109_0, jb_109_5, jb_109_5_1, jb_109_12, jb_109_17, jb_109_20, jb_109_25, jb_109_32, jb_109_35, jb_109_40, jb_109_40_1, jb_109_47, jb_109_50, jb_109_61, jb_109_61_1, jb_109_68, jb_109_68_1, jb_109_78, jb_109_78_1, jb_109_88, jb_109_88_1, jb_109_101, jb_109_101_1, jb_109_104, jb_109_117, jb_109_124, jx_nl, jx_nlr, jx_thenS, jx_tlS, jx_tlN, jm_ite_go, jx_rds, jx_rdn, jx_lit, pk_mul, nI_add, nI_pred, pk_sub, jx_na, jx_add0, Nat.reduceMul, Nat.reduceAdd, Nat.reduceSub, Nat.reduceEqDiff, Nat.reduceLeDiff, Nat.reduceLT, Nat.not_lt_zero, jx_cl, nI_leI, nI_ltI, nI_eq, jx_neg, jx_neg', jx_negE, jx_negL, jx_negG, jx_negLE, jx_negN, sb_nlt, sb_nle, jx_b0, jx_b1, jx_bT, jx_bF, ite_true, ite_false, if_true, if_false, reduceIte, Bool.false_eq_true, Bool.true_eq_false, eq_self, Nat.one_ne_zero, Nat.add_sub_cancel, not_true_eq_false, not_false_eq_true, k136, zxt, e1]) (by simp (disch := first | assumption | omega | exact jx_bz _ | exact jx_z0 | exact jx_z1 | (refine jx_ixB ?_ ?_; omega; omega) | (simp (disch := first | omega | fail) only [jx_lit, pk_mul, nI_add, nI_pred, pk_sub, jx_na, jx_add0, Nat.reduceMul, Nat.reduceAdd, Nat.reduceSub, Nat.reduceEqDiff, Nat.reduceLeDiff, Nat.reduceLT, kaH, zxt, e2]; refine jx_ixC ?_ ?_; omega; omega) | (simp (disch := first | omega | fail) only [jx_lit, pk_mul, nI_add, nI_pred, pk_sub, jx_na, jx_add0, Nat.reduceMul, Nat.reduceAdd, Nat.reduceSub, Nat.reduceEqDiff, Nat.reduceLeDiff, Nat.reduceLT, jx_cl, nI_leI, Nat.zero_le, true_and, kaH, zxt, e2]; omega) | fail) only [je_223, jb_223_0, jb_223_6, jb_223_9, jb_223_14, jb_223_17, jb_223_23, jb_223_30, jb_223_33, jb_223_57, jb_223_67, jb_223_91, jb_223_111, jb_223_114, jb_223_136, jb_223_142, jb_223_147, je_207, jb_207_0, jb_207_5, jb_207_10, jb_207_14, jb_207_19, jb_207_22, jb_207_26, jb_207_28, jx_nl, jx_nlr, jx_thenS, jx_tlS, jx_tlN, jm_ite_go, jx_rds, jx_rdn, jx_lit, pk_mul, nI_add, nI_pred, pk_sub, jx_na, jx_add0, Nat.reduceMul, Nat.reduceAdd, Nat.reduceSub, Nat.reduceEqDiff, Nat.reduceLeDiff, Nat.reduceLT, Nat.not_lt_zero, jx_cl, nI_leI, nI_ltI, nI_eq, jx_neg, jx_neg', jx_negE, jx_negL, jx_negG, jx_negLE, jx_negN, sb_nlt, sb_nle, jx_b0, jx_b1, jx_bT, jx_bF, ite_true, ite_false, if_true, if_false, reduceIte, Bool.false_eq_true, Bool.true_eq_false, eq_self, Nat.one_ne_zero, Nat.add_sub_cancel, not_true_eq_false, not_false_eq_true, kaH, zxt, e2])
      · have zst : ¬ s = t := fun e => zxt (by rw [e])
        have e1 := e1 (d + 57) H jSc_rf t2
        have e2 := e2 (d + 55)
        have e2H := e2 H jSm_rf u7
        rcases jx_who h2 z with ⟨-, e3, e4⟩ | ⟨p, hp, rfl, e3, e4⟩
        · have e3 := e3 (d + 58) H p3
          have e4 := e4 (d + 56) H p0
          exact jCall_no (v := .int (-nI 5)) hV (by simp (disch := first | assumption | omega | exact jx_bz _ | exact jx_z0 | exact jx_z1 | (refine jx_ixB ?_ ?_; omega; omega) | (simp (disch := first | omega | fail) only [jx_lit, pk_mul, nI_add, nI_pred, pk_sub, jx_na, jx_add0, Nat.reduceMul, Nat.reduceAdd, Nat.reduceSub, Nat.reduceEqDiff, Nat.reduceLeDiff, Nat.reduceLT, k136, zst, e1, e3, jm_nli]; refine jx_ixC ?_ ?_; omega; omega) | (simp (disch := first | omega | fail) only [jx_lit, pk_mul, nI_add, nI_pred, pk_sub, jx_na, jx_add0, Nat.reduceMul, Nat.reduceAdd, Nat.reduceSub, Nat.reduceEqDiff, Nat.reduceLeDiff, Nat.reduceLT, jx_cl, nI_leI, Nat.zero_le, true_and, k136, zst, e1, e3, jm_nli]; omega) | fail) only [je_109, jb_109_0, jb_109_5, jb_109_5_1, jb_109_12, jb_109_17, jb_109_20, jb_109_25, jb_109_32, jb_109_35, jb_109_40, jb_109_40_1, jb_109_47, jb_109_50, jb_109_61, jb_109_61_1, jb_109_68, jb_109_68_1, jb_109_78, jb_109_78_1, jb_109_88, jb_109_88_1, jb_109_101, jb_109_101_1, jb_109_104, jb_109_117, jb_109_124, jx_nl, jx_nlr, jx_thenS, jx_tlS, jx_tlN, jm_ite_go, jx_rds, jx_rdn, jx_lit, pk_mul, nI_add, nI_pred, pk_sub, jx_na, jx_add0, Nat.reduceMul, Nat.reduceAdd, Nat.reduceSub, Nat.reduceEqDiff, Nat.reduceLeDiff, Nat.reduceLT, Nat.not_lt_zero, jx_cl, nI_leI, nI_ltI, nI_eq, jx_neg, jx_neg', jx_negE, jx_negL, jx_negG, jx_negLE, jx_negN, sb_nlt, sb_nle, jx_b0, jx_b1, jx_bT, jx_bF, ite_true, ite_false, if_true, if_false, reduceIte, Bool.false_eq_true, Bool.true_eq_false, eq_self, Nat.one_ne_zero, Nat.add_sub_cancel, not_true_eq_false, not_false_eq_true, k136, zst, e1, e3, jm_nli]) (by simp (disch := first | assumption | omega | exact jx_bz _ | exact jx_z0 | exact jx_z1 | (refine jx_ixB ?_ ?_; omega; omega) | (simp (disch := first | omega | fail) only [jx_lit, pk_mul, nI_add, nI_pred, pk_sub, jx_na, jx_add0, Nat.reduceMul, Nat.reduceAdd, Nat.reduceSub, Nat.reduceEqDiff, Nat.reduceLeDiff, Nat.reduceLT, kaH, zst, e2H, e4]; refine jx_ixC ?_ ?_; omega; omega) | (simp (disch := first | omega | fail) only [jx_lit, pk_mul, nI_add, nI_pred, pk_sub, jx_na, jx_add0, Nat.reduceMul, Nat.reduceAdd, Nat.reduceSub, Nat.reduceEqDiff, Nat.reduceLeDiff, Nat.reduceLT, jx_cl, nI_leI, Nat.zero_le, true_and, kaH, zst, e2H, e4]; omega) | fail) only [je_223, jb_223_0, jb_223_6, jb_223_9, jb_223_14, jb_223_17, jb_223_23, jb_223_30, jb_223_33, jb_223_57, jb_223_67, jb_223_91, jb_223_111, jb_223_114, jb_223_136, jb_223_142, jb_223_147, je_207, jb_207_0, jb_207_5, jb_207_10, jb_207_14, jb_207_19, jb_207_22, jb_207_26, jb_207_28, jx_nl, jx_nlr, jx_thenS, jx_tlS, jx_tlN, jm_ite_go, jx_rds, jx_rdn, jx_lit, pk_mul, nI_add, nI_pred, pk_sub, jx_na, jx_add0, Nat.reduceMul, Nat.reduceAdd, Nat.reduceSub, Nat.reduceEqDiff, Nat.reduceLeDiff, Nat.reduceLT, Nat.not_lt_zero, jx_cl, nI_leI, nI_ltI, nI_eq, jx_neg, jx_neg', jx_negE, jx_negL, jx_negG, jx_negLE, jx_negN, sb_nlt, sb_nle, jx_b0, jx_b1, jx_bT, jx_bF, ite_true, ite_false, if_true, if_false, reduceIte, Bool.false_eq_true, Bool.true_eq_false, eq_self, Nat.one_ne_zero, Nat.add_sub_cancel, not_true_eq_false, not_false_eq_true, kaH, zst, e2H, e4])
        · have e3 := e3 (d + 58) H p3
          have e4 := e4 (d + 56)
          obtain ⟨b1, b2, b3, b4, b5, b6, b7⟩ := h2.2.2.2.1 p hp
          have hO := jO_is b2
          have hO9 := jO_is (jx_thK (mu := mu) b2.1)
          have hp6 : p < 6 := by omega
          have hk6 := b2.1
          have hH := jT_H h1.1.1
          let P := H (ad p)
          have hwvP := js_wk_v (z := n) (kd := kd p) b6 hH (fun k hk => (c3 k hk).2)
          have hlk : ∀ k, k ≤ n → ∃ l, l < 100 ∧ js_wk w (kd p) P dd k 3 = nI l := fun k hk => (hwvP k hk).2.2.1
          obtain ⟨K0, f1, g1, r1⟩ := jf_129 (d := d + 57) (I := H) (rho := rho) b2 b2.1 (by omega)
          have hT : jPe (K0 (43 + kd p)) P := fun j h1 h6 => r1 j h1 h6
          have gK0 := jG_tt hk6 g1
          have k0s : ∀ a, 49 ≤ a → K0 a = H a := fun a ha => jG_o gK0 fun c => jS_tZ ha
          have k137 := @jf_137 (d + 57) s K0 rho mu hs
          rw [k0s _ (by omega), c1] at k137
          obtain ⟨K1, f15, a1, a2, a3, a4⟩ := jf_15 (d := d + 57) (s := t) (x := nI 0) (I := K0) (rho := rho) (mu := mu) ht h40
          -- what the class has behind k turns
          have lc : ∃ J, jm_go (jm_ev (d + 59)) 109 (81, [some (.ref 0), some (.int (nI s)), some (.int (nI t)), some (.int (nI p)), some (.ref (49 + 2 * t)), some (.int (nI 0)), some (.ref (ad p)), some (.ref (43 + kd p)), some (.int (nI n)), some (.int (nI 0))], [], jm_hp K1 rho mu) = jm_go (jm_ev (d + 59)) 109 (81, [some (.ref 0), some (.int (nI s)), some (.int (nI t)), some (.int (nI p)), some (.ref (49 + 2 * t)), some (.int (nI 0)), some (.ref (ad p)), some (.ref (43 + kd p)), some (.int (nI n)), some (.int (nI n))], [], jm_hp J rho mu) ∧ (∀ a, 49 ≤ a → ¬ a = 50 + 2 * t → J a = K1 a) ∧ (∀ a, a < 43 → jS_st a 0 = false → J a = K1 a) ∧ ∀ k, k < 40 → J (50 + 2 * t) k = js_fim w (kd p) P dd n k := by
            have key := jx_for (E := jm_ev (d + 59)) (y := 109) n (fun k J => (81, [some (.ref 0), some (.int (nI s)), some (.int (nI t)), some (.int (nI p)), some (.ref (49 + 2 * t)), some (.int (nI 0)), some (.ref (ad p)), some (.ref (43 + kd p)), some (.int (nI n)), some (.int (nI k))], [], jm_hp J rho mu)) (fun k J => (∀ a, 49 ≤ a → ¬ a = 50 + 2 * t → J a = K1 a) ∧ (∀ a, a < 43 → jS_st a 0 = false → J a = K1 a) ∧ J (43 + kd p) = js_wk w (kd p) (K0 (43 + kd p)) dd k ∧ ∀ j, j < 40 → J (50 + 2 * t) j = js_fim w (kd p) P dd k j) (fun k J hk hg => by
              obtain ⟨hg1, hg2, hJo, hJr⟩ := hg
              have k138 := @jf_138 (d + 57) s k n J rho mu hs (by rw [hg1 _ (by omega) (by omega), a4 _ (by omega) (by omega), k0s _ (by omega)]; exact c1) h40 hk
              rw [hg1 _ (by omega) (by omega), a4 _ (by omega) (by omega), k0s _ (by omega), (c3 k hk).1] at k138
              have hvJ : jPv (jwn w) (J (43 + kd p)) := by rw [hJo]; exact js_wk_v (z := n) (jPv_e hT b6) hH (fun k hk => (c3 k hk).2) k (by omega)
              have hCJ : jCt J w := jCt_mo (S := fun a _ => !jS_tw a) h1.1 (fun a c q => by
                have q1 : jS_tw a = true := by simpa using q
                have q2 : a < 43 := by simp only [jS_tw, Bool.or_eq_true, beq_iff_eq] at q1; omega
                have q3 : jS_st a 0 = false := jS_stT q1
                rw [hg2 a q2 q3, a4 a (by omega) (by omega), gK0 a c (by
                  unfold jS_t; rw [q3]; exact decide_eq_false (by rintro (z | z); cases z; omega))]) (fun a c q => by simp [q])
              obtain ⟨L, f3, f4, f5⟩ := jf_65 (d := d + 53) (rho := rho) hCJ (c3 k hk).2 (jx_thK (mu := mu) hk6) hvJ
              have hLo : L (43 + kd p) = js_wk w (kd p) (K0 (43 + kd p)) dd (k + 1) := by rw [f4, hJo]; rfl
              have hLf : ∀ a, ¬ a = 43 + kd p → jS_st a 0 = false → L a = J a := fun a z1 z2 => jG_o f5 fun c => jS_soZ z2 z1
              have st49 : ∀ a, 43 ≤ a → jS_st a 0 = false := fun a h => jS_43 h
              obtain ⟨l, hl, hl2⟩ := hlk (k + 1) (by omega)
              have hL3 : L (43 + kd p) 3 = nI l := by rw [hLo, ← hl2]; exact js_wk_e hT w (kd p) dd (k + 1) 3 (by omega) (by omega)
              have k17 := @jf_17b (d + 58) t k n l L rho mu ht (by rw [hLf _ (by omega) (st49 _ (by omega)), hg1 _ (by omega) (by omega), a2]) h40 hk (by rw [hLf _ (by omega) (st49 _ (by omega)), hg1 _ (by omega) (by omega), a1]) hl
              have zn : ¬ n ≤ k := by omega
              refine ⟨jm_up L (50 + 2 * t) k (nI l), ?_, fun a z1 z2 => ?_, fun a z1 z2 => ?_, ?_, fun j hj => ?_⟩
              · rw [jb_109_81]
                simp (disch := first | assumption | omega | exact jx_bz _ | exact jx_z0 | exact jx_z1 | (refine jx_ixB ?_ ?_; omega; omega) | (simp (disch := first | omega | fail) only [jx_lit, pk_mul, nI_add, nI_pred, pk_sub, jx_na, jx_add0, Nat.reduceMul, Nat.reduceAdd, Nat.reduceSub, Nat.reduceEqDiff, Nat.reduceLeDiff, Nat.reduceLT, k138, f3, zn, hL3, k17]; refine jx_ixC ?_ ?_; omega; omega) | (simp (disch := first | omega | fail) only [jx_lit, pk_mul, nI_add, nI_pred, pk_sub, jx_na, jx_add0, Nat.reduceMul, Nat.reduceAdd, Nat.reduceSub, Nat.reduceEqDiff, Nat.reduceLeDiff, Nat.reduceLT, jx_cl, nI_leI, Nat.zero_le, true_and, k138, f3, zn, hL3, k17]; omega) | fail) only [jb_109_0, jb_109_5, jb_109_5_1, jb_109_12, jb_109_17, jb_109_20, jb_109_25, jb_109_32, jb_109_35, jb_109_40, jb_109_40_1, jb_109_47, jb_109_50, jb_109_61, jb_109_61_1, jb_109_68, jb_109_68_1, jb_109_78, jb_109_78_1, jb_109_88, jb_109_88_1, jb_109_101, jb_109_101_1, jb_109_104, jb_109_117, jb_109_124, jx_nl, jx_nlr, jx_thenS, jx_tlS, jx_tlN, jm_ite_go, jx_rds, jx_rdn, jx_lit, pk_mul, nI_add, nI_pred, pk_sub, jx_na, jx_add0, Nat.reduceMul, Nat.reduceAdd, Nat.reduceSub, Nat.reduceEqDiff, Nat.reduceLeDiff, Nat.reduceLT, Nat.not_lt_zero, jx_cl, nI_leI, nI_ltI, nI_eq, jx_neg, jx_neg', jx_negE, jx_negL, jx_negG, jx_negLE, jx_negN, sb_nlt, sb_nle, jx_b0, jx_b1, jx_bT, jx_bF, ite_true, ite_false, if_true, if_false, reduceIte, Bool.false_eq_true, Bool.true_eq_false, eq_self, Nat.one_ne_zero, Nat.add_sub_cancel, not_true_eq_false, not_false_eq_true, k138, f3, zn, hL3, k17]
              · rw [← hg1 a z1 z2]
                by_cases z3 : a = 43 + kd p
                · omega
                · rw [← hLf a z3 (st49 a (by omega))]; exact funext fun c => jx_rdn fun q => z2 q.1
              · rw [← hg2 a z1 z2, ← hLf a (by omega) z2]; exact funext fun c => jx_rdn fun q => by omega
              · rw [← hLo]; exact funext fun c => jx_rdn fun q => by omega
              · by_cases zj : j = k
                · subst zj; rw [jx_rds, js_fim, if_pos (by omega), hl2]
                · rw [jx_rdn (fun q => zj q.2), hLf _ (by omega) (st49 _ (by omega)), hJr j hj]
                  unfold js_fim
                  by_cases zl : j < k
                  · rw [if_pos zl, if_pos (by omega)]
                  · rw [if_neg zl, if_neg (by omega)]) n 0 K1 (Nat.zero_add _) ⟨fun a _ _ => rfl, fun a _ _ => rfl, a4 _ (by omega) (by omega), fun j hj => by
                rw [a3 j hj]; rfl⟩
            obtain ⟨J, e, q1, q2, -, q4⟩ := key
            exact ⟨J, e, q1, q2, q4⟩
          obtain ⟨J, e5, q1, q2, q4⟩ := lc
          have hc : jm_ev (d + 60) 109 [.ref 0, .int (nI s), .int (nI t), .int (nI p)] (jm_hp H rho mu) = some (some (.int (nI n)), jm_hp J rho mu) := by
            have e0 : jm_ev (d + 60) 109 [.ref 0, .int (nI s), .int (nI t), .int (nI p)] (jm_hp H rho mu) = jm_go (jm_ev (d + 59)) 109 (81, [some (.ref 0), some (.int (nI s)), some (.int (nI t)), some (.int (nI p)), some (.ref (49 + 2 * t)), some (.int (nI 0)), some (.ref (ad p)), some (.ref (43 + kd p)), some (.int (nI n)), some (.int (nI 0))], [], jm_hp K1 rho mu) := by
              simp (disch := first | assumption | omega | exact jx_bz _ | exact jx_z0 | exact jx_z1 | (refine jx_ixB ?_ ?_; omega; omega) | (simp (disch := first | omega | fail) only [jx_lit, pk_mul, nI_add, nI_pred, pk_sub, jx_na, jx_add0, Nat.reduceMul, Nat.reduceAdd, Nat.reduceSub, Nat.reduceEqDiff, Nat.reduceLeDiff, Nat.reduceLT, k136, zst, e1, e3, b5, f1, k137, f15, jm_nli, hnr]; refine jx_ixC ?_ ?_; omega; omega) | (simp (disch := first | omega | fail) only [jx_lit, pk_mul, nI_add, nI_pred, pk_sub, jx_na, jx_add0, Nat.reduceMul, Nat.reduceAdd, Nat.reduceSub, Nat.reduceEqDiff, Nat.reduceLeDiff, Nat.reduceLT, jx_cl, nI_leI, Nat.zero_le, true_and, k136, zst, e1, e3, b5, f1, k137, f15, jm_nli, hnr]; omega) | fail) only [je_109, jb_109_0, jb_109_5, jb_109_5_1, jb_109_12, jb_109_17, jb_109_20, jb_109_25, jb_109_32, jb_109_35, jb_109_40, jb_109_40_1, jb_109_47, jb_109_50, jb_109_61, jb_109_61_1, jb_109_68, jb_109_68_1, jb_109_78, jb_109_78_1, jb_109_88, jb_109_88_1, jb_109_101, jb_109_101_1, jb_109_104, jb_109_117, jb_109_124, jx_nl, jx_nlr, jx_thenS, jx_tlS, jx_tlN, jm_ite_go, jx_rds, jx_rdn, jx_lit, pk_mul, nI_add, nI_pred, pk_sub, jx_na, jx_add0, Nat.reduceMul, Nat.reduceAdd, Nat.reduceSub, Nat.reduceEqDiff, Nat.reduceLeDiff, Nat.reduceLT, Nat.not_lt_zero, jx_cl, nI_leI, nI_ltI, nI_eq, jx_neg, jx_neg', jx_negE, jx_negL, jx_negG, jx_negLE, jx_negN, sb_nlt, sb_nle, jx_b0, jx_b1, jx_bT, jx_bF, ite_true, ite_false, if_true, if_false, reduceIte, Bool.false_eq_true, Bool.true_eq_false, eq_self, Nat.one_ne_zero, Nat.add_sub_cancel, not_true_eq_false, not_false_eq_true, k136, zst, e1, e3, b5, f1, k137, f15, jm_nli, hnr]
            rw [e0, e5, jb_109_81]
            simp (disch := first | assumption | omega | exact jx_bz _ | exact jx_z0 | exact jx_z1 | (refine jx_ixB ?_ ?_; omega; omega) | (simp (disch := first | omega | fail) only [jx_lit, pk_mul, nI_add, nI_pred, pk_sub, jx_na, jx_add0, Nat.reduceMul, Nat.reduceAdd, Nat.reduceSub, Nat.reduceEqDiff, Nat.reduceLeDiff, Nat.reduceLT, Nat.le_refl]; refine jx_ixC ?_ ?_; omega; omega) | (simp (disch := first | omega | fail) only [jx_lit, pk_mul, nI_add, nI_pred, pk_sub, jx_na, jx_add0, Nat.reduceMul, Nat.reduceAdd, Nat.reduceSub, Nat.reduceEqDiff, Nat.reduceLeDiff, Nat.reduceLT, jx_cl, nI_leI, Nat.zero_le, true_and, Nat.le_refl]; omega) | fail) only [jb_109_0, jb_109_5, jb_109_5_1, jb_109_12, jb_109_17, jb_109_20, jb_109_25, jb_109_32, jb_109_35, jb_109_40, jb_109_40_1, jb_109_47, jb_109_50, jb_109_61, jb_109_61_1, jb_109_68, jb_109_68_1, jb_109_78, jb_109_78_1, jb_109_88, jb_109_88_1, jb_109_101, jb_109_101_1, jb_109_104, jb_109_117, jb_109_124, jx_nl, jx_nlr, jx_thenS, jx_tlS, jx_tlN, jm_ite_go, jx_rds, jx_rdn, jx_lit, pk_mul, nI_add, nI_pred, pk_sub, jx_na, jx_add0, Nat.reduceMul, Nat.reduceAdd, Nat.reduceSub, Nat.reduceEqDiff, Nat.reduceLeDiff, Nat.reduceLT, Nat.not_lt_zero, jx_cl, nI_leI, nI_ltI, nI_eq, jx_neg, jx_neg', jx_negE, jx_negL, jx_negG, jx_negLE, jx_negN, sb_nlt, sb_nle, jx_b0, jx_b1, jx_bT, jx_bF, ite_true, ite_false, if_true, if_false, reduceIte, Bool.false_eq_true, Bool.true_eq_false, eq_self, Nat.one_ne_zero, Nat.add_sub_cancel, not_true_eq_false, not_false_eq_true, Nat.le_refl]
          -- cells from 57 on are as they were
          have ro : ∀ a, 57 ≤ a → J a = H a := fun a ha => by rw [q1 a (by omega) (by omega), a4 a (by omega) (by omega), k0s a (by omega)]
          obtain ⟨M0, hM0⟩ : ∃ M0, M0 = jm_up (jm_up J 69 t (nI 0)) 70 t (nI n) := ⟨_, rfl⟩
          have m0o : ∀ a, ¬ a = 69 → ¬ a = 70 → M0 a = J a := fun a z1 z2 => by rw [hM0]; exact funext fun c => by rw [jx_rdn (fun q => z2 q.1), jx_rdn (fun q => z1 q.1)]
          obtain ⟨M1, m1, m2, m3⟩ := jf_208 (d := d + 58) (I := M0) (rho := rho) (mu := mu) hp6
          have m1o : ∀ a, ¬ a = 79 → M1 a = M0 a := fun a z1 => jG_to m2 z1
          have M1r : ∀ a, 57 ≤ a → ¬ a = 69 → ¬ a = 70 → ¬ a = 79 → M1 a = H a := fun a z1 z2 z3 z4 => by rw [m1o a z4, m0o a z2 z3, ro a z1]
          have M70 : ∀ c, ¬ c = t → M1 70 c = H 70 c := fun c hc => by rw [m1o 70 (by omega), hM0, jx_rdn (by omega), jx_rdn (by omega), ro 70 (by omega)]
          have hM1w : jMt M1 w := jMt_mo (S := fun a _ => decide (a < 57 ∨ a = 69 ∨ a = 70 ∨ a = 79)) h1.2 (fun a c q => by have := of_decide_eq_false q; exact congrFun (M1r a (by omega) (by omega) (by omega) (by omega)) c) fun a c q => decide_eq_false (by omega)
          have hQ1 : jQ M1 p (kd p) P := jQ_e b7 fun a ha => M1r a (by omega) (by omega) (by omega) (by omega)
          obtain ⟨M2, e6, g6, hQ6, hr6, hs6⟩ := jx_for (E := jm_ev (d + 59)) (y := 223) 40 (fun k K => (60, [some (.ref 57), some (.int (nI s)), some (.int (nI t)), some (.int (nI p)), some (.int (nI 0)), some (.int (nI k))], [], jm_hp K rho mu)) (fun k K => (∀ a c, jS_q p a c = false → ¬ a = 71 → K a c = M1 a c) ∧ jQ K p (kd p) (js_wk w (kd p) P dd (if k ≤ n then k else n)) ∧ (∀ c, ¬ (40 * t ≤ c ∧ c < 40 * t + 40) → K 71 c = M1 71 c) ∧ ∀ j, j < k → K 71 (40 * t + j) = js_fim w (kd p) P dd n j) (fun k K hk hg => by
            obtain ⟨u1, u2, u3, u4⟩ := hg
            have zn : ¬ 40 ≤ k := by omega
            have zi : 40 * t + k < 160 := by omega
            have zi2 : 40 * s + k < 160 := by omega
            have K70 : K 70 s = nI n := by rw [u1 70 s (jS_qZ (by omega)) (by omega), M70 s zst]; exact c2
            obtain ⟨K', hK'⟩ : ∃ K', K' = jm_up K 71 (40 * t + k) (nI 0) := ⟨_, rfl⟩
            have ko : ∀ a, ¬ a = 71 → K' a = K a := fun a h => by rw [hK']; exact funext fun c => jx_rdn fun q => h q.1
            by_cases zk : n ≤ k
            · refine ⟨K', ?_, fun a c z1 z2 => ?_, ?_, fun c hc => ?_, fun j hj => ?_⟩
              · rw [jb_223_60, hK']
                simp (disch := first | assumption | omega | exact jx_bz _ | exact jx_z0 | exact jx_z1 | (refine jx_ixB ?_ ?_; omega; omega) | (simp (disch := first | omega | fail) only [jx_lit, pk_mul, nI_add, nI_pred, pk_sub, jx_na, jx_add0, Nat.reduceMul, Nat.reduceAdd, Nat.reduceSub, Nat.reduceEqDiff, Nat.reduceLeDiff, Nat.reduceLT, zn, K70, zk, jm_nli]; refine jx_ixC ?_ ?_; omega; omega) | (simp (disch := first | omega | fail) only [jx_lit, pk_mul, nI_add, nI_pred, pk_sub, jx_na, jx_add0, Nat.reduceMul, Nat.reduceAdd, Nat.reduceSub, Nat.reduceEqDiff, Nat.reduceLeDiff, Nat.reduceLT, jx_cl, nI_leI, Nat.zero_le, true_and, zn, K70, zk, jm_nli]; omega) | fail) only [jb_223_0, jb_223_6, jb_223_9, jb_223_14, jb_223_17, jb_223_23, jb_223_30, jb_223_33, jb_223_57, jb_223_67, jb_223_91, jb_223_111, jb_223_114, jb_223_136, jb_223_142, jb_223_147, jx_nl, jx_nlr, jx_thenS, jx_tlS, jx_tlN, jm_ite_go, jx_rds, jx_rdn, jx_lit, pk_mul, nI_add, nI_pred, pk_sub, jx_na, jx_add0, Nat.reduceMul, Nat.reduceAdd, Nat.reduceSub, Nat.reduceEqDiff, Nat.reduceLeDiff, Nat.reduceLT, Nat.not_lt_zero, jx_cl, nI_leI, nI_ltI, nI_eq, jx_neg, jx_neg', jx_negE, jx_negL, jx_negG, jx_negLE, jx_negN, sb_nlt, sb_nle, jx_b0, jx_b1, jx_bT, jx_bF, ite_true, ite_false, if_true, if_false, reduceIte, Bool.false_eq_true, Bool.true_eq_false, eq_self, Nat.one_ne_zero, Nat.add_sub_cancel, not_true_eq_false, not_false_eq_true, zn, K70, zk, jm_nli]
              · rw [ko a z2]; exact u1 a c z1 z2
              · have e9 : (if k + 1 ≤ n then k + 1 else n) = (if k ≤ n then k else n) := by
                  rw [if_neg (by omega)]; split <;> omega
                rw [e9]; exact jQ_e u2 fun a ha => ko a (by omega)
              · rw [hK', jx_rdn (by omega)]; exact u3 c hc
              · by_cases zj : j = k
                · subst zj; rw [hK', jx_rds, js_fim, if_neg (by omega)]
                · rw [hK', jx_rdn (by omega)]; exact u4 j (by omega)
            · have zk2 : k < n := by omega
              rw [if_pos (by omega)] at u2
              have hcd : K' 71 (40 * s + k) = nI (dd k) := by
                rw [hK', jx_rdn (by omega), u3 _ (by omega), M1r 71 (by omega) (by omega) (by omega) (by omega)]; exact c4 k zk2
              have hcd2 : K 71 (40 * s + k) = nI (dd k) := by
                rw [u3 _ (by omega), M1r 71 (by omega) (by omega) (by omega) (by omega)]; exact c4 k zk2
              have hwK : jMt K' w := jMt_mo (S := fun a c => jS_q p a c || decide (a = 71)) hM1w (fun a c q => by
                rw [Bool.or_eq_false_iff] at q
                have q2 := of_decide_eq_false q.2
                rw [ko a q2]; exact u1 a c q.1 q2) fun a c q => by rw [jS_qZ (by omega), decide_eq_false (by omega)]; rfl
              have k144 : jm_ev (d + 59) 144 [.int (nI (dd k)), .int (nI 0), .int (nI 11)] (jm_hp K' rho mu) = some (some (.int (nI (dd k))), jm_hp K' rho mu) := by
                have := (c3 k zk2).2
                rw [@jf_144 (d + 58), js_bd_id (by omega) (by omega)]
              obtain ⟨L, v1, v2, v3, -, -⟩ := jf_210 (d := d + 53) (rho := rho) (mu := mu) hwK hp6 (c3 k zk2).2 hk6 (jQ_e u2 fun a ha => ko a (by omega)) (hwvP k (by omega))
              have L61 : L 60 (4 * p + 1) = js_wk w (kd p) P dd (k + 1) 3 := v2.2.2.2.1
              have hp24 : 4 * p + 1 < 24 := by omega
              rw [hK'] at k144 v1
              refine ⟨jm_up L 71 (40 * t + k) (js_wk w (kd p) P dd (k + 1) 3), ?_, fun a c z1 z2 => ?_, ?_, fun c hc => ?_, fun j hj => ?_⟩
              · rw [jb_223_60]
                simp (disch := first | assumption | omega | exact jx_bz _ | exact jx_z0 | exact jx_z1 | (refine jx_ixB ?_ ?_; omega; omega) | (simp (disch := first | omega | fail) only [jx_lit, pk_mul, nI_add, nI_pred, pk_sub, jx_na, jx_add0, Nat.reduceMul, Nat.reduceAdd, Nat.reduceSub, Nat.reduceEqDiff, Nat.reduceLeDiff, Nat.reduceLT, zn, K70, zk, hcd2, k144, v1, L61, jm_nli]; refine jx_ixC ?_ ?_; omega; omega) | (simp (disch := first | omega | fail) only [jx_lit, pk_mul, nI_add, nI_pred, pk_sub, jx_na, jx_add0, Nat.reduceMul, Nat.reduceAdd, Nat.reduceSub, Nat.reduceEqDiff, Nat.reduceLeDiff, Nat.reduceLT, jx_cl, nI_leI, Nat.zero_le, true_and, zn, K70, zk, hcd2, k144, v1, L61, jm_nli]; omega) | fail) only [jb_223_0, jb_223_6, jb_223_9, jb_223_14, jb_223_17, jb_223_23, jb_223_30, jb_223_33, jb_223_57, jb_223_67, jb_223_91, jb_223_111, jb_223_114, jb_223_136, jb_223_142, jb_223_147, jx_nl, jx_nlr, jx_thenS, jx_tlS, jx_tlN, jm_ite_go, jx_rds, jx_rdn, jx_lit, pk_mul, nI_add, nI_pred, pk_sub, jx_na, jx_add0, Nat.reduceMul, Nat.reduceAdd, Nat.reduceSub, Nat.reduceEqDiff, Nat.reduceLeDiff, Nat.reduceLT, Nat.not_lt_zero, jx_cl, nI_leI, nI_ltI, nI_eq, jx_neg, jx_neg', jx_negE, jx_negL, jx_negG, jx_negLE, jx_negN, sb_nlt, sb_nle, jx_b0, jx_b1, jx_bT, jx_bF, ite_true, ite_false, if_true, if_false, reduceIte, Bool.false_eq_true, Bool.true_eq_false, eq_self, Nat.one_ne_zero, Nat.add_sub_cancel, not_true_eq_false, not_false_eq_true, zn, K70, zk, hcd2, k144, v1, L61, jm_nli]
              · rw [jx_rdn (fun q => z2 q.1), v3 a c z1, ko a z2]; exact u1 a c z1 z2
              · rw [if_pos (by omega)]
                exact jQ_e v2 fun a ha => funext fun c => jx_rdn fun q => by omega
              · rw [jx_rdn (by omega), v3 71 c (jS_qZ (by omega)), hK', jx_rdn (by omega)]; exact u3 c hc
              · by_cases zj : j = k
                · subst zj; rw [jx_rds, js_fim, if_pos zk2]
                · rw [jx_rdn (by omega), v3 71 _ (jS_qZ (by omega)), hK', jx_rdn (by omega)]; exact u4 j (by omega)) 40 0 M1 (Nat.zero_add _) ⟨fun a c _ _ => rfl, by rw [if_pos (by omega)]; exact hQ1, fun c _ => rfl, fun j hj => absurd hj (Nat.not_lt_zero _)⟩
          obtain ⟨M3, m9, n1, n2, n3⟩ := jf_209 (d := d + 58) (I := M2) (rho := rho) (mu := mu) hp6
          have e2J := e2 J (fun a ha => ro a (by omega)) (by rw [ro _ (by omega)]; exact u7)
          have e4J := e4 J (by rw [ro _ (by omega)]; exact p0)
          have kaJ := ka J rho mu
          have J70 : J 70 s = nI n := by rw [ro 70 (by omega)]; exact c2
          have M370 : M3 70 s = nI n := by rw [n1 70 (by omega), g6 70 s (jS_qZ (by omega)) (by omega), M70 s zst]; exact c2
          rw [hM0] at m1
          have hm : jm_ev (d + 60) 223 [.ref 57, .int (nI s), .int (nI t), .int (nI p)] (jm_hp J rho mu) = some (some (.int (nI n)), jm_hp M3 rho mu) := by
            have e0 : jm_ev (d + 60) 223 [.ref 57, .int (nI s), .int (nI t), .int (nI p)] (jm_hp J rho mu) = jm_go (jm_ev (d + 59)) 223 (60, [some (.ref 57), some (.int (nI s)), some (.int (nI t)), some (.int (nI p)), some (.int (nI 0)), some (.int (nI 0))], [], jm_hp M1 rho mu) := by
              simp (disch := first | assumption | omega | exact jx_bz _ | exact jx_z0 | exact jx_z1 | (refine jx_ixB ?_ ?_; omega; omega) | (simp (disch := first | omega | fail) only [jx_lit, pk_mul, nI_add, nI_pred, pk_sub, jx_na, jx_add0, Nat.reduceMul, Nat.reduceAdd, Nat.reduceSub, Nat.reduceEqDiff, Nat.reduceLeDiff, Nat.reduceLT, kaJ, zst, e2J, e4J, J70, m1, jm_nli]; refine jx_ixC ?_ ?_; omega; omega) | (simp (disch := first | omega | fail) only [jx_lit, pk_mul, nI_add, nI_pred, pk_sub, jx_na, jx_add0, Nat.reduceMul, Nat.reduceAdd, Nat.reduceSub, Nat.reduceEqDiff, Nat.reduceLeDiff, Nat.reduceLT, jx_cl, nI_leI, Nat.zero_le, true_and, kaJ, zst, e2J, e4J, J70, m1, jm_nli]; omega) | fail) only [je_223, jb_223_0, jb_223_6, jb_223_9, jb_223_14, jb_223_17, jb_223_23, jb_223_30, jb_223_33, jb_223_57, jb_223_67, jb_223_91, jb_223_111, jb_223_114, jb_223_136, jb_223_142, jb_223_147, je_207, jb_207_0, jb_207_5, jb_207_10, jb_207_14, jb_207_19, jb_207_22, jb_207_26, jb_207_28, jx_nl, jx_nlr, jx_thenS, jx_tlS, jx_tlN, jm_ite_go, jx_rds, jx_rdn, jx_lit, pk_mul, nI_add, nI_pred, pk_sub, jx_na, jx_add0, Nat.reduceMul, Nat.reduceAdd, Nat.reduceSub, Nat.reduceEqDiff, Nat.reduceLeDiff, Nat.reduceLT, Nat.not_lt_zero, jx_cl, nI_leI, nI_ltI, nI_eq, jx_neg, jx_neg', jx_negE, jx_negL, jx_negG, jx_negLE, jx_negN, sb_nlt, sb_nle, jx_b0, jx_b1, jx_bT, jx_bF, ite_true, ite_false, if_true, if_false, reduceIte, Bool.false_eq_true, Bool.true_eq_false, eq_self, Nat.one_ne_zero, Nat.add_sub_cancel, not_true_eq_false, not_false_eq_true, kaJ, zst, e2J, e4J, J70, m1, jm_nli]
            rw [e0, e6, jb_223_60]
            simp (disch := first | assumption | omega | exact jx_bz _ | exact jx_z0 | exact jx_z1 | (refine jx_ixB ?_ ?_; omega; omega) | (simp (disch := first | omega | fail) only [jx_lit, pk_mul, nI_add, nI_pred, pk_sub, jx_na, jx_add0, Nat.reduceMul, Nat.reduceAdd, Nat.reduceSub, Nat.reduceEqDiff, Nat.reduceLeDiff, Nat.reduceLT, Nat.le_refl, m9, M370]; refine jx_ixC ?_ ?_; omega; omega) | (simp (disch := first | omega | fail) only [jx_lit, pk_mul, nI_add, nI_pred, pk_sub, jx_na, jx_add0, Nat.reduceMul, Nat.reduceAdd, Nat.reduceSub, Nat.reduceEqDiff, Nat.reduceLeDiff, Nat.reduceLT, jx_cl, nI_leI, Nat.zero_le, true_and, Nat.le_refl, m9, M370]; omega) | fail) only [jb_223_0, jb_223_6, jb_223_9, jb_223_14, jb_223_17, jb_223_23, jb_223_30, jb_223_33, jb_223_57, jb_223_67, jb_223_91, jb_223_111, jb_223_114, jb_223_136, jb_223_142, jb_223_147, jx_nl, jx_nlr, jx_thenS, jx_tlS, jx_tlN, jm_ite_go, jx_rds, jx_rdn, jx_lit, pk_mul, nI_add, nI_pred, pk_sub, jx_na, jx_add0, Nat.reduceMul, Nat.reduceAdd, Nat.reduceSub, Nat.reduceEqDiff, Nat.reduceLeDiff, Nat.reduceLT, Nat.not_lt_zero, jx_cl, nI_leI, nI_ltI, nI_eq, jx_neg, jx_neg', jx_negE, jx_negL, jx_negG, jx_negLE, jx_negN, sb_nlt, sb_nle, jx_b0, jx_b1, jx_bT, jx_bF, ite_true, ite_false, if_true, if_false, reduceIte, Bool.false_eq_true, Bool.true_eq_false, eq_self, Nat.one_ne_zero, Nat.add_sub_cancel, not_true_eq_false, not_false_eq_true, Nat.le_refl, m9, M370]
          have M360 : M3 60 = H 60 := funext fun j => by
            have hb : M1 60 j = H 60 j := congrFun (M1r 60 (by omega) (by omega) (by omega) (by omega)) j
            by_cases zq : 4 * p ≤ j ∧ j < 4 * p + 4
            · obtain ⟨i, hi⟩ : ∃ i, j = 4 * p + i := ⟨j - 4 * p, by omega⟩
              subst hi
              have hi4 : i < 4 := by omega
              rw [n3 i hi4, g6 79 i (jS_qZ (by omega)) (by omega), m3 i hi4, m0o 60 (by omega) (by omega), ro 60 (by omega)]
            · rw [n2 j zq, g6 60 j (jS_qZ (by omega)) (by omega), hb]
          have g : jG (fun a k => jK a k || jS_sh a k) H M3 := fun a c zz => by
            rw [Bool.or_eq_false_iff] at zz
            have y1 := jK_N zz.1
            have y2 : ¬ (49 ≤ a ∧ a < 57 ∨ 69 ≤ a ∧ a < 72) := of_decide_eq_false zz.2
            unfold jKp at y1
            by_cases z60 : a = 60
            · rw [z60, M360]
            · rw [n1 a z60, g6 a c (jS_qZ (by omega)) (by omega), m1o a (by omega), m0o a (by omega) (by omega)]
              by_cases z57 : 57 ≤ a
              · rw [ro a z57]
              · have z43 : a < 43 := by omega
                have zst2 : jS_st a 0 = false := by simp only [jS_st, Bool.or_eq_false_iff, beq_eq_false_iff_ne]; omega
                rw [q2 a z43 zst2, a4 a (by omega) (by omega), gK0 a c (by unfold jS_t; rw [zst2]; exact decide_eq_false (by rintro (z | z); cases z; omega))]
          obtain ⟨X, hX⟩ : ∃ X : Nat → Nat → Int32, X = fun a => if 49 ≤ a ∧ a < 57 ∨ 69 ≤ a ∧ a < 72 then H a else M3 a := ⟨_, rfl⟩
          have xP : ∀ a, (49 ≤ a ∧ a < 57 ∨ 69 ≤ a ∧ a < 72) → X a = H a := fun a h => by rw [hX]; exact if_pos h
          have xN : ∀ a, ¬ (49 ≤ a ∧ a < 57 ∨ 69 ≤ a ∧ a < 72) → X a = M3 a := fun a h => by rw [hX]; exact if_neg h
          have gX : jG jK H X := fun a c zz => by
            by_cases h : 49 ≤ a ∧ a < 57 ∨ 69 ≤ a ∧ a < 72
            · rw [xP a h]
            · rw [xN a h]; exact g a c (by rw [Bool.or_eq_false_iff]; exact ⟨zz, jS_shZ h⟩)
          have gY : jG jS_sh X M3 := fun a c zz => by rw [xN a (of_decide_eq_false zz)]
          have hIX := jInv_K hI gX (by omega)
          refine ⟨.int (nI n), J, M3, rho, mu, hc, hm, ⟨_, _, _, _, _, _, jInv_sh hIX hmu gY fun r hr => ?_⟩, by omega, fun a ha => jG_o g fun c => by
            rw [jK_Z (by unfold jKp; omega), jS_shZ (by omega)]; rfl⟩
          have m3n : ∀ a c, a ≠ 60 → jS_q p a c = false → ¬ a = 71 → M3 a c = M1 a c := fun a c z1 z2 z3 => by rw [n1 a z1]; exact g6 a c z2 z3
          by_cases zr : r = t
          · subst zr
            have s49 : ∀ c, M3 (49 + 2 * r) c = K1 (49 + 2 * r) c := fun c => by rw [m3n _ c (by omega) (jS_qZ (by omega)) (by omega), m1o _ (by omega), m0o _ (by omega) (by omega), q1 _ (by omega) (by omega)]
            refine ⟨n, h40, by rw [s49]; exact a2, ?_, ?_, .inr ⟨0, by omega, by rw [s49]; exact a1⟩, fun k hk => ?_⟩
            · rw [m3n 70 r (by omega) (jS_qZ (by omega)) (by omega), m1o _ (by omega), hM0, jx_rds]
            · rw [s49, a1, m3n 69 r (by omega) (jS_qZ (by omega)) (by omega), m1o _ (by omega), hM0, jx_rdn (by omega), jx_rds]
            · rw [n1 71 (by omega), hs6 k hk, m3n _ k (by omega) (jS_qZ (by omega)) (by omega), m1o _ (by omega), m0o _ (by omega) (by omega), q4 k hk]
          · obtain ⟨y, h1', h2', h3', h4', h6', h7'⟩ := h5 r hr
            have s49 : ∀ c, M3 (49 + 2 * r) c = H (49 + 2 * r) c := fun c => by rw [m3n _ c (by omega) (jS_qZ (by omega)) (by omega), m1o _ (by omega), m0o _ (by omega) (by omega), q1 _ (by omega) (by omega), a4 _ (by omega) (by omega), k0s _ (by omega)]
            have s50 : ∀ c, M3 (50 + 2 * r) c = H (50 + 2 * r) c := fun c => by rw [m3n _ c (by omega) (jS_qZ (by omega)) (by omega), m1o _ (by omega), m0o _ (by omega) (by omega), q1 _ (by omega) (by omega), a4 _ (by omega) (by omega), k0s _ (by omega)]
            refine ⟨y, h1', by rw [s49]; exact h2', ?_, ?_, by rw [s49]; exact h6', fun k hk => ?_⟩
            · rw [m3n 70 r (by omega) (jS_qZ (by omega)) (by omega), M70 r zr]; exact h3'
            · rw [s49, m3n 69 r (by omega) (jS_qZ (by omega)) (by omega), m1o _ (by omega), hM0, jx_rdn (by omega), jx_rdn (by omega), ro 69 (by omega)]; exact h4'
            · rw [n1 71 (by omega), hr6 _ (by omega), M1r 71 (by omega) (by omega) (by omega) (by omega), s50]; exact h7' k hk
