/-! THE REFERENCE's held signs, codes, opens -/
def jz_rk (g : Nat) : Nat := if g = 0 then 0 else if g = 11 then 1 else if g = 12 then 2 else if g = 13 then 3 else if g ≤ 15 then 4 else if g ≤ 17 then 5 else if g = 18 then 6 else 7
def jz_o1 (g : Nat) : Nat := if g = 13 then 1 else if g = 19 then 1 else 0
def jz_no : List Nat → Nat
  | [] => 0
  | g :: S => jz_o1 g + jz_no S
theorem jz_no_app (S T : List Nat) : jz_no (S ++ T) = jz_no S + jz_no T := by
  induction S with
  | nil => rw [List.nil_append, jz_no, Nat.zero_add]
  | cons g S ih => rw [List.cons_append, jz_no, jz_no, ih, Nat.add_assoc]
theorem jf_160 {d g : Nat} {I : Nat → Nat → Int32} {rho : Nat → Option Nat} {mu : List (Nat × Nat)} (hg : g < 20) : jm_ev (d + 1) 160 [.int (nI g)] (jm_hp I rho mu) = some (some (.int (nI (jz_rk g))), jm_hp I rho mu) := by
  unfold jz_rk
  by_cases h0 : g = 0
  · rw [if_pos h0]; simp (disch := first | assumption | omega | exact jx_bz _ | exact jx_z0 | exact jx_z1 | (refine jx_ixB ?_ ?_; omega; omega) | (simp (disch := first | omega | fail) only [jx_lit, pk_mul, nI_add, nI_pred, pk_sub, jx_na, jx_add0, Nat.reduceMul, Nat.reduceAdd, Nat.reduceSub, Nat.reduceEqDiff, Nat.reduceLeDiff, Nat.reduceLT, h0]; refine jx_ixC ?_ ?_; omega; omega) | (simp (disch := first | omega | fail) only [jx_lit, pk_mul, nI_add, nI_pred, pk_sub, jx_na, jx_add0, Nat.reduceMul, Nat.reduceAdd, Nat.reduceSub, Nat.reduceEqDiff, Nat.reduceLeDiff, Nat.reduceLT, jx_cl, nI_leI, Nat.zero_le, true_and, h0]; omega) | fail) only [je_160, jb_160_0, jb_160_4, jb_160_8, jb_160_14, jb_160_18, jb_160_24, jb_160_28, jb_160_34, jb_160_38, jb_160_44, jb_160_48, jb_160_54, jb_160_58, jb_160_64, jb_160_69, jb_160_71, jx_nl, jx_nlr, jx_thenS, jx_tlS, jx_tlN, jm_ite_go, jx_rds, jx_rdn, jx_lit, pk_mul, nI_add, nI_pred, pk_sub, jx_na, jx_add0, Nat.reduceMul, Nat.reduceAdd, Nat.reduceSub, Nat.reduceEqDiff, Nat.reduceLeDiff, Nat.reduceLT, Nat.not_lt_zero, jx_cl, nI_leI, nI_ltI, nI_eq, jx_neg, jx_neg', jx_negE, jx_negL, jx_negG, jx_negLE, jx_negN, sb_nlt, sb_nle, jx_b0, jx_b1, jx_bT, jx_bF, ite_true, ite_false, if_true, if_false, reduceIte, Bool.false_eq_true, Bool.true_eq_false, eq_self, Nat.one_ne_zero, Nat.add_sub_cancel, not_true_eq_false, not_false_eq_true, h0]
  by_cases h1 : g = 11
  · rw [if_neg h0, if_pos h1]; simp (disch := first | assumption | omega | exact jx_bz _ | exact jx_z0 | exact jx_z1 | (refine jx_ixB ?_ ?_; omega; omega) | (simp (disch := first | omega | fail) only [jx_lit, pk_mul, nI_add, nI_pred, pk_sub, jx_na, jx_add0, Nat.reduceMul, Nat.reduceAdd, Nat.reduceSub, Nat.reduceEqDiff, Nat.reduceLeDiff, Nat.reduceLT, h0, h1]; refine jx_ixC ?_ ?_; omega; omega) | (simp (disch := first | omega | fail) only [jx_lit, pk_mul, nI_add, nI_pred, pk_sub, jx_na, jx_add0, Nat.reduceMul, Nat.reduceAdd, Nat.reduceSub, Nat.reduceEqDiff, Nat.reduceLeDiff, Nat.reduceLT, jx_cl, nI_leI, Nat.zero_le, true_and, h0, h1]; omega) | fail) only [je_160, jb_160_0, jb_160_4, jb_160_8, jb_160_14, jb_160_18, jb_160_24, jb_160_28, jb_160_34, jb_160_38, jb_160_44, jb_160_48, jb_160_54, jb_160_58, jb_160_64, jb_160_69, jb_160_71, jx_nl, jx_nlr, jx_thenS, jx_tlS, jx_tlN, jm_ite_go, jx_rds, jx_rdn, jx_lit, pk_mul, nI_add, nI_pred, pk_sub, jx_na, jx_add0, Nat.reduceMul, Nat.reduceAdd, Nat.reduceSub, Nat.reduceEqDiff, Nat.reduceLeDiff, Nat.reduceLT, Nat.not_lt_zero, jx_cl, nI_leI, nI_ltI, nI_eq, jx_neg, jx_neg', jx_negE, jx_negL, jx_negG, jx_negLE, jx_negN, sb_nlt, sb_nle, jx_b0, jx_b1, jx_bT, jx_bF, ite_true, ite_false, if_true, if_false, reduceIte, Bool.false_eq_true, Bool.true_eq_false, eq_self, Nat.one_ne_zero, Nat.add_sub_cancel, not_true_eq_false, not_false_eq_true, h0, h1]
  by_cases h2 : g = 12
  · rw [if_neg h0, if_neg h1, if_pos h2]; simp (disch := first | assumption | omega | exact jx_bz _ | exact jx_z0 | exact jx_z1 | (refine jx_ixB ?_ ?_; omega; omega) | (simp (disch := first | omega | fail) only [jx_lit, pk_mul, nI_add, nI_pred, pk_sub, jx_na, jx_add0, Nat.reduceMul, Nat.reduceAdd, Nat.reduceSub, Nat.reduceEqDiff, Nat.reduceLeDiff, Nat.reduceLT, h0, h1, h2]; refine jx_ixC ?_ ?_; omega; omega) | (simp (disch := first | omega | fail) only [jx_lit, pk_mul, nI_add, nI_pred, pk_sub, jx_na, jx_add0, Nat.reduceMul, Nat.reduceAdd, Nat.reduceSub, Nat.reduceEqDiff, Nat.reduceLeDiff, Nat.reduceLT, jx_cl, nI_leI, Nat.zero_le, true_and, h0, h1, h2]; omega) | fail) only [je_160, jb_160_0, jb_160_4, jb_160_8, jb_160_14, jb_160_18, jb_160_24, jb_160_28, jb_160_34, jb_160_38, jb_160_44, jb_160_48, jb_160_54, jb_160_58, jb_160_64, jb_160_69, jb_160_71, jx_nl, jx_nlr, jx_thenS, jx_tlS, jx_tlN, jm_ite_go, jx_rds, jx_rdn, jx_lit, pk_mul, nI_add, nI_pred, pk_sub, jx_na, jx_add0, Nat.reduceMul, Nat.reduceAdd, Nat.reduceSub, Nat.reduceEqDiff, Nat.reduceLeDiff, Nat.reduceLT, Nat.not_lt_zero, jx_cl, nI_leI, nI_ltI, nI_eq, jx_neg, jx_neg', jx_negE, jx_negL, jx_negG, jx_negLE, jx_negN, sb_nlt, sb_nle, jx_b0, jx_b1, jx_bT, jx_bF, ite_true, ite_false, if_true, if_false, reduceIte, Bool.false_eq_true, Bool.true_eq_false, eq_self, Nat.one_ne_zero, Nat.add_sub_cancel, not_true_eq_false, not_false_eq_true, h0, h1, h2]
  by_cases h3 : g = 13
  · rw [if_neg h0, if_neg h1, if_neg h2, if_pos h3]; simp (disch := first | assumption | omega | exact jx_bz _ | exact jx_z0 | exact jx_z1 | (refine jx_ixB ?_ ?_; omega; omega) | (simp (disch := first | omega | fail) only [jx_lit, pk_mul, nI_add, nI_pred, pk_sub, jx_na, jx_add0, Nat.reduceMul, Nat.reduceAdd, Nat.reduceSub, Nat.reduceEqDiff, Nat.reduceLeDiff, Nat.reduceLT, h0, h1, h2, h3]; refine jx_ixC ?_ ?_; omega; omega) | (simp (disch := first | omega | fail) only [jx_lit, pk_mul, nI_add, nI_pred, pk_sub, jx_na, jx_add0, Nat.reduceMul, Nat.reduceAdd, Nat.reduceSub, Nat.reduceEqDiff, Nat.reduceLeDiff, Nat.reduceLT, jx_cl, nI_leI, Nat.zero_le, true_and, h0, h1, h2, h3]; omega) | fail) only [je_160, jb_160_0, jb_160_4, jb_160_8, jb_160_14, jb_160_18, jb_160_24, jb_160_28, jb_160_34, jb_160_38, jb_160_44, jb_160_48, jb_160_54, jb_160_58, jb_160_64, jb_160_69, jb_160_71, jx_nl, jx_nlr, jx_thenS, jx_tlS, jx_tlN, jm_ite_go, jx_rds, jx_rdn, jx_lit, pk_mul, nI_add, nI_pred, pk_sub, jx_na, jx_add0, Nat.reduceMul, Nat.reduceAdd, Nat.reduceSub, Nat.reduceEqDiff, Nat.reduceLeDiff, Nat.reduceLT, Nat.not_lt_zero, jx_cl, nI_leI, nI_ltI, nI_eq, jx_neg, jx_neg', jx_negE, jx_negL, jx_negG, jx_negLE, jx_negN, sb_nlt, sb_nle, jx_b0, jx_b1, jx_bT, jx_bF, ite_true, ite_false, if_true, if_false, reduceIte, Bool.false_eq_true, Bool.true_eq_false, eq_self, Nat.one_ne_zero, Nat.add_sub_cancel, not_true_eq_false, not_false_eq_true, h0, h1, h2, h3]
  by_cases h4 : g ≤ 15
  · have h4' : ¬ 15 < g := by omega
    rw [if_neg h0, if_neg h1, if_neg h2, if_neg h3, if_pos h4]; simp (disch := first | assumption | omega | exact jx_bz _ | exact jx_z0 | exact jx_z1 | (refine jx_ixB ?_ ?_; omega; omega) | (simp (disch := first | omega | fail) only [jx_lit, pk_mul, nI_add, nI_pred, pk_sub, jx_na, jx_add0, Nat.reduceMul, Nat.reduceAdd, Nat.reduceSub, Nat.reduceEqDiff, Nat.reduceLeDiff, Nat.reduceLT, h0, h1, h2, h3, h4']; refine jx_ixC ?_ ?_; omega; omega) | (simp (disch := first | omega | fail) only [jx_lit, pk_mul, nI_add, nI_pred, pk_sub, jx_na, jx_add0, Nat.reduceMul, Nat.reduceAdd, Nat.reduceSub, Nat.reduceEqDiff, Nat.reduceLeDiff, Nat.reduceLT, jx_cl, nI_leI, Nat.zero_le, true_and, h0, h1, h2, h3, h4']; omega) | fail) only [je_160, jb_160_0, jb_160_4, jb_160_8, jb_160_14, jb_160_18, jb_160_24, jb_160_28, jb_160_34, jb_160_38, jb_160_44, jb_160_48, jb_160_54, jb_160_58, jb_160_64, jb_160_69, jb_160_71, jx_nl, jx_nlr, jx_thenS, jx_tlS, jx_tlN, jm_ite_go, jx_rds, jx_rdn, jx_lit, pk_mul, nI_add, nI_pred, pk_sub, jx_na, jx_add0, Nat.reduceMul, Nat.reduceAdd, Nat.reduceSub, Nat.reduceEqDiff, Nat.reduceLeDiff, Nat.reduceLT, Nat.not_lt_zero, jx_cl, nI_leI, nI_ltI, nI_eq, jx_neg, jx_neg', jx_negE, jx_negL, jx_negG, jx_negLE, jx_negN, sb_nlt, sb_nle, jx_b0, jx_b1, jx_bT, jx_bF, ite_true, ite_false, if_true, if_false, reduceIte, Bool.false_eq_true, Bool.true_eq_false, eq_self, Nat.one_ne_zero, Nat.add_sub_cancel, not_true_eq_false, not_false_eq_true, h0, h1, h2, h3, h4']
  have h4' : 15 < g := by omega
  by_cases h5 : g ≤ 17
  · have h5' : ¬ 17 < g := by omega
    rw [if_neg h0, if_neg h1, if_neg h2, if_neg h3, if_neg h4, if_pos h5]; simp (disch := first | assumption | omega | exact jx_bz _ | exact jx_z0 | exact jx_z1 | (refine jx_ixB ?_ ?_; omega; omega) | (simp (disch := first | omega | fail) only [jx_lit, pk_mul, nI_add, nI_pred, pk_sub, jx_na, jx_add0, Nat.reduceMul, Nat.reduceAdd, Nat.reduceSub, Nat.reduceEqDiff, Nat.reduceLeDiff, Nat.reduceLT, h0, h1, h2, h3, h4', h5']; refine jx_ixC ?_ ?_; omega; omega) | (simp (disch := first | omega | fail) only [jx_lit, pk_mul, nI_add, nI_pred, pk_sub, jx_na, jx_add0, Nat.reduceMul, Nat.reduceAdd, Nat.reduceSub, Nat.reduceEqDiff, Nat.reduceLeDiff, Nat.reduceLT, jx_cl, nI_leI, Nat.zero_le, true_and, h0, h1, h2, h3, h4', h5']; omega) | fail) only [je_160, jb_160_0, jb_160_4, jb_160_8, jb_160_14, jb_160_18, jb_160_24, jb_160_28, jb_160_34, jb_160_38, jb_160_44, jb_160_48, jb_160_54, jb_160_58, jb_160_64, jb_160_69, jb_160_71, jx_nl, jx_nlr, jx_thenS, jx_tlS, jx_tlN, jm_ite_go, jx_rds, jx_rdn, jx_lit, pk_mul, nI_add, nI_pred, pk_sub, jx_na, jx_add0, Nat.reduceMul, Nat.reduceAdd, Nat.reduceSub, Nat.reduceEqDiff, Nat.reduceLeDiff, Nat.reduceLT, Nat.not_lt_zero, jx_cl, nI_leI, nI_ltI, nI_eq, jx_neg, jx_neg', jx_negE, jx_negL, jx_negG, jx_negLE, jx_negN, sb_nlt, sb_nle, jx_b0, jx_b1, jx_bT, jx_bF, ite_true, ite_false, if_true, if_false, reduceIte, Bool.false_eq_true, Bool.true_eq_false, eq_self, Nat.one_ne_zero, Nat.add_sub_cancel, not_true_eq_false, not_false_eq_true, h0, h1, h2, h3, h4', h5']
  have h5' : 17 < g := by omega
  by_cases h6 : g = 18
  · rw [if_neg h0, if_neg h1, if_neg h2, if_neg h3, if_neg h4, if_neg h5, if_pos h6]; simp (disch := first | assumption | omega | exact jx_bz _ | exact jx_z0 | exact jx_z1 | (refine jx_ixB ?_ ?_; omega; omega) | (simp (disch := first | omega | fail) only [jx_lit, pk_mul, nI_add, nI_pred, pk_sub, jx_na, jx_add0, Nat.reduceMul, Nat.reduceAdd, Nat.reduceSub, Nat.reduceEqDiff, Nat.reduceLeDiff, Nat.reduceLT, h0, h1, h2, h3, h4', h5', h6]; refine jx_ixC ?_ ?_; omega; omega) | (simp (disch := first | omega | fail) only [jx_lit, pk_mul, nI_add, nI_pred, pk_sub, jx_na, jx_add0, Nat.reduceMul, Nat.reduceAdd, Nat.reduceSub, Nat.reduceEqDiff, Nat.reduceLeDiff, Nat.reduceLT, jx_cl, nI_leI, Nat.zero_le, true_and, h0, h1, h2, h3, h4', h5', h6]; omega) | fail) only [je_160, jb_160_0, jb_160_4, jb_160_8, jb_160_14, jb_160_18, jb_160_24, jb_160_28, jb_160_34, jb_160_38, jb_160_44, jb_160_48, jb_160_54, jb_160_58, jb_160_64, jb_160_69, jb_160_71, jx_nl, jx_nlr, jx_thenS, jx_tlS, jx_tlN, jm_ite_go, jx_rds, jx_rdn, jx_lit, pk_mul, nI_add, nI_pred, pk_sub, jx_na, jx_add0, Nat.reduceMul, Nat.reduceAdd, Nat.reduceSub, Nat.reduceEqDiff, Nat.reduceLeDiff, Nat.reduceLT, Nat.not_lt_zero, jx_cl, nI_leI, nI_ltI, nI_eq, jx_neg, jx_neg', jx_negE, jx_negL, jx_negG, jx_negLE, jx_negN, sb_nlt, sb_nle, jx_b0, jx_b1, jx_bT, jx_bF, ite_true, ite_false, if_true, if_false, reduceIte, Bool.false_eq_true, Bool.true_eq_false, eq_self, Nat.one_ne_zero, Nat.add_sub_cancel, not_true_eq_false, not_false_eq_true, h0, h1, h2, h3, h4', h5', h6]
  · rw [if_neg h0, if_neg h1, if_neg h2, if_neg h3, if_neg h4, if_neg h5, if_neg h6]; simp (disch := first | assumption | omega | exact jx_bz _ | exact jx_z0 | exact jx_z1 | (refine jx_ixB ?_ ?_; omega; omega) | (simp (disch := first | omega | fail) only [jx_lit, pk_mul, nI_add, nI_pred, pk_sub, jx_na, jx_add0, Nat.reduceMul, Nat.reduceAdd, Nat.reduceSub, Nat.reduceEqDiff, Nat.reduceLeDiff, Nat.reduceLT, h0, h1, h2, h3, h4', h5', h6]; refine jx_ixC ?_ ?_; omega; omega) | (simp (disch := first | omega | fail) only [jx_lit, pk_mul, nI_add, nI_pred, pk_sub, jx_na, jx_add0, Nat.reduceMul, Nat.reduceAdd, Nat.reduceSub, Nat.reduceEqDiff, Nat.reduceLeDiff, Nat.reduceLT, jx_cl, nI_leI, Nat.zero_le, true_and, h0, h1, h2, h3, h4', h5', h6]; omega) | fail) only [je_160, jb_160_0, jb_160_4, jb_160_8, jb_160_14, jb_160_18, jb_160_24, jb_160_28, jb_160_34, jb_160_38, jb_160_44, jb_160_48, jb_160_54, jb_160_58, jb_160_64, jb_160_69, jb_160_71, jx_nl, jx_nlr, jx_thenS, jx_tlS, jx_tlN, jm_ite_go, jx_rds, jx_rdn, jx_lit, pk_mul, nI_add, nI_pred, pk_sub, jx_na, jx_add0, Nat.reduceMul, Nat.reduceAdd, Nat.reduceSub, Nat.reduceEqDiff, Nat.reduceLeDiff, Nat.reduceLT, Nat.not_lt_zero, jx_cl, nI_leI, nI_ltI, nI_eq, jx_neg, jx_neg', jx_negE, jx_negL, jx_negG, jx_negLE, jx_negN, sb_nlt, sb_nle, jx_b0, jx_b1, jx_bT, jx_bF, ite_true, ite_false, if_true, if_false, reduceIte, Bool.false_eq_true, Bool.true_eq_false, eq_self, Nat.one_ne_zero, Nat.add_sub_cancel, not_true_eq_false, not_false_eq_true, h0, h1, h2, h3, h4', h5', h6]
def jS_rm (t : Nat) : Nat → Nat → Bool := fun a k => decide (a = 57 ∧ (22 ≤ k ∧ k < 26 ∨ 28 ≤ k ∧ k < 31) ∨ a = 74 ∨ a = 65 ∧ 200 * t ≤ k ∧ k < 200 * t + 200)
theorem jS_rmY {t a k : Nat} (h : a = 57 ∧ (22 ≤ k ∧ k < 26 ∨ 28 ≤ k ∧ k < 31) ∨ a = 74 ∨ a = 65 ∧ 200 * t ≤ k ∧ k < 200 * t + 200) : jS_rm t a k = true := decide_eq_true h
theorem jS_rmZ {t a k : Nat} (h : ¬ (a = 57 ∧ (22 ≤ k ∧ k < 26 ∨ 28 ≤ k ∧ k < 31) ∨ a = 74 ∨ a = 65 ∧ 200 * t ≤ k ∧ k < 200 * t + 200)) : jS_rm t a k = false := decide_eq_false h
theorem jS_rmN {t a k : Nat} (h : jS_rm t a k = false) : ¬ (a = 57 ∧ (22 ≤ k ∧ k < 26 ∨ 28 ≤ k ∧ k < 31) ∨ a = 74 ∨ a = 65 ∧ 200 * t ≤ k ∧ k < 200 * t + 200) := of_decide_eq_false h
/-- what the unwinding touches -/
def jS_ru (t : Nat) : Nat → Nat → Bool := fun a k => decide (a = 57 ∧ 28 ≤ k ∧ k < 31 ∨ a = 65 ∧ 200 * t ≤ k ∧ k < 200 * t + 200)
theorem jS_ruY {t a k : Nat} (h : a = 57 ∧ 28 ≤ k ∧ k < 31 ∨ a = 65 ∧ 200 * t ≤ k ∧ k < 200 * t + 200) : jS_ru t a k = true := decide_eq_true h
theorem jS_ruZ {t a k : Nat} (h : ¬ (a = 57 ∧ 28 ≤ k ∧ k < 31 ∨ a = 65 ∧ 200 * t ≤ k ∧ k < 200 * t + 200)) : jS_ru t a k = false := decide_eq_false h
theorem jG_rum {t : Nat} {I J : Nat → Nat → Int32} (h : jG (jS_ru t) I J) : jG (jS_rm t) I J := jG_mo h fun a k q => jS_ruZ (by have := jS_rmN q; omega)
theorem jG_lmm {t : Nat} {I J : Nat → Nat → Int32} (h : jG jS_lm I J) : jG (jS_rm t) I J := jG_mo h fun a k q => decide_eq_false (by have := jS_rmN q; omega)
/-- the reference at a place: signs held (the last one first), how many are open, codes put -/
def jz_R (K : Nat → Nat → Int32) (b : Nat → Nat) (s t p : Nat) (hd : List Nat) (o : Nat) (C : List Nat) : Prop :=
  jz_NB K b s ∧ K 57 13 = nI t ∧ K 57 22 = nI p ∧ (K 57 28 = nI hd.length ∧ ∀ j, j < hd.length → K 74 (hd.length - 1 - j) = nI (hd.getD j 0)) ∧ K 57 29 = nI o ∧ (K 57 30 = nI C.length ∧ ∀ j, j < C.length → K 65 (200 * t + j) = nI (C.getD j 0)) ∧ (∀ g, g ∈ hd → g < 20) ∧ hd.length + C.length ≤ 160 ∧ o < 200 ∧ t < 6
theorem jz_NB_mo {S : Nat → Nat → Bool} {K J : Nat → Nat → Int32} {b : Nat → Nat} {s : Nat} (h : jz_NB K b s) (g : jG S K J) (hS : ∀ a k, (a = 57 ∧ k = 10 ∨ a = 64 ∨ a = 73) → S a k = false) : jz_NB J b s := by
  obtain ⟨h1, h2, h3, h4, h5⟩ := h
  exact ⟨by rw [g _ _ (hS _ _ (by omega))]; exact h1, h2, fun k hk => by rw [g _ _ (hS _ _ (by omega))]; exact h3 k hk, h4, jR7_mo h5 g fun k => hS _ _ (by omega)⟩
theorem jz_R_lm {K J : Nat → Nat → Int32} {b : Nat → Nat} {s t p q : Nat} {hd : List Nat} {o : Nat} {C : List Nat} (h : jz_R K b s t p hd o C) (g : jG jS_lm K J) (h22 : J 57 22 = nI q) : jz_R J b s t q hd o C := by
  obtain ⟨h1, h2, h3, ⟨h4, h5⟩, h6, ⟨h7, h8⟩, h9, h10, h11, h12⟩ := h
  have z : ∀ a k, ¬ (a = 57 ∧ 22 ≤ k ∧ k < 26) → J a k = K a k := fun a k h => g a k (decide_eq_false h)
  exact ⟨jz_NB_mo h1 g fun a k q => decide_eq_false (by omega), by rw [z _ _ (by omega)]; exact h2, h22, ⟨by rw [z _ _ (by omega)]; exact h4, fun j hj => by rw [z _ _ (by omega)]; exact h5 j hj⟩, by rw [z _ _ (by omega)]; exact h6, ⟨by rw [z _ _ (by omega)]; exact h7, fun j hj => by rw [z _ _ (by omega)]; exact h8 j hj⟩, h9, h10, h11, h12⟩
theorem jz_NB_57 {K : Nat → Nat → Int32} {b : Nat → Nat} {s k : Nat} {v : Int32} (h : jz_NB K b s) (hk : ¬ k = 10) : jz_NB (jm_up K 57 k v) b s := jz_NB_up h hk
theorem jz_NB_ot {K : Nat → Nat → Int32} {b : Nat → Nat} {s a k : Nat} {v : Int32} (h : jz_NB K b s) (ha : ¬ a = 57) (ha2 : ¬ a = 64) (ha3 : ¬ a = 73) : jz_NB (jm_up K a k v) b s := by
  obtain ⟨h1, h2, h3, h4, h5⟩ := h
  exact ⟨by rw [jx_rdn (by omega)]; exact h1, h2, fun j hj => by rw [jx_rdn (by omega)]; exact h3 j hj, h4, fun i hi => by rw [jx_rdn (by omega)]; exact h5 i hi⟩
/-- a sign comes to those held -/
theorem jz_R_push {K : Nat → Nat → Int32} {b : Nat → Nat} {s t p g : Nat} {hd : List Nat} {o : Nat} {C : List Nat} (h : jz_R K b s t p hd o C) (hg : g < 20) (hn : hd.length + C.length < 160) : jz_R (jm_up (jm_up K 74 hd.length (nI g)) 57 28 (nI (hd.length + 1))) b s t p (g :: hd) o C := by
  obtain ⟨h1, h2, h3, ⟨h4, h5⟩, h6, ⟨h7, h8⟩, h9, h10, h11, h12⟩ := h
  refine ⟨jz_NB_57 (jz_NB_ot h1 (by omega) (by omega) (by omega)) (by omega), ?_, ?_, ⟨?_, fun j hj => ?_⟩, ?_, ⟨?_, fun j hj => ?_⟩, fun q hq => ?_, by rw [List.length_cons]; omega, h11, h12⟩
  · rw [jx_rdn (by omega), jx_rdn (by omega)]; exact h2
  · rw [jx_rdn (by omega), jx_rdn (by omega)]; exact h3
  · rw [jx_rds]; rfl
  · rw [List.length_cons] at hj ⊢
    rw [jx_rdn (by omega)]
    cases j with
    | zero => rw [show hd.length + 1 - 1 - 0 = hd.length by omega, jx_rds]; rfl
    | succ j => rw [jx_rdn (by omega), show hd.length + 1 - 1 - (j + 1) = hd.length - 1 - j by omega, List.getD_cons_succ]; exact h5 j (by omega)
  · rw [jx_rdn (by omega), jx_rdn (by omega)]; exact h6
  · rw [jx_rdn (by omega), jx_rdn (by omega)]; exact h7
  · rw [jx_rdn (by omega), jx_rdn (by omega)]; exact h8 j hj
  · rcases List.mem_cons.mp hq with e | e
    · rw [e]; exact hg
    · exact h9 q e
/-- the last one goes -/
theorem jz_R_pop {K : Nat → Nat → Int32} {b : Nat → Nat} {s t p g : Nat} {hd : List Nat} {o : Nat} {C : List Nat} (h : jz_R K b s t p (g :: hd) o C) : jz_R (jm_up K 57 28 (nI hd.length)) b s t p hd o C := by
  obtain ⟨h1, h2, h3, ⟨h4, h5⟩, h6, ⟨h7, h8⟩, h9, h10, h11, h12⟩ := h
  rw [List.length_cons] at h5 h10
  refine ⟨jz_NB_57 h1 (by omega), ?_, ?_, ⟨?_, fun j hj => ?_⟩, ?_, ⟨?_, fun j hj => ?_⟩, fun q hq => h9 q (List.mem_cons_of_mem _ hq), by omega, h11, h12⟩
  · rw [jx_rdn (by omega)]; exact h2
  · rw [jx_rdn (by omega)]; exact h3
  · rw [jx_rds]
  · have := h5 (j + 1) (by omega)
    rw [List.getD_cons_succ, show hd.length + 1 - 1 - (j + 1) = hd.length - 1 - j by omega] at this
    rw [jx_rdn (by omega)]; exact this
  · rw [jx_rdn (by omega)]; exact h6
  · rw [jx_rdn (by omega)]; exact h7
  · rw [jx_rdn (by omega)]; exact h8 j hj
theorem jz_R_top {K : Nat → Nat → Int32} {b : Nat → Nat} {s t p g : Nat} {hd : List Nat} {o : Nat} {C : List Nat} (h : jz_R K b s t p (g :: hd) o C) : K 74 hd.length = nI g ∧ K 57 28 = nI (hd.length + 1) ∧ g < 20 ∧ hd.length + 1 + C.length ≤ 160 := by
  obtain ⟨h1, h2, h3, ⟨h4, h5⟩, h6, ⟨h7, h8⟩, h9, h10, h11, h12⟩ := h
  have := h5 0 (by rw [List.length_cons]; omega)
  rw [List.length_cons] at this h10
  exact ⟨this, h4, h9 g List.mem_cons_self, h10⟩
/-- so many are open -/
theorem jz_R_op {K : Nat → Nat → Int32} {b : Nat → Nat} {s t p q : Nat} {hd : List Nat} {o : Nat} {C : List Nat} (h : jz_R K b s t p hd o C) (hq : q < 200) : jz_R (jm_up K 57 29 (nI q)) b s t p hd q C := by
  obtain ⟨h1, h2, h3, ⟨h4, h5⟩, h6, ⟨h7, h8⟩, h9, h10, h11, h12⟩ := h
  refine ⟨jz_NB_57 h1 (by omega), ?_, ?_, ⟨?_, fun j hj => ?_⟩, ?_, ⟨?_, fun j hj => ?_⟩, h9, h10, hq, h12⟩
  · rw [jx_rdn (by omega)]; exact h2
  · rw [jx_rdn (by omega)]; exact h3
  · rw [jx_rdn (by omega)]; exact h4
  · rw [jx_rdn (by omega)]; exact h5 j hj
  · rw [jx_rds]
  · rw [jx_rdn (by omega)]; exact h7
  · rw [jx_rdn (by omega)]; exact h8 j hj
theorem jz_getD_app {C : List Nat} {c j : Nat} (hj : j < C.length + 1) : (C ++ [c]).getD j 0 = if j = C.length then c else C.getD j 0 := by
  by_cases q : j = C.length
  · rw [if_pos q, q]; simp
  · rw [if_neg q]
    simp [List.getD_eq_getElem?_getD, List.getElem?_append_left (show j < C.length by omega)]
/-- a code is put -/
theorem jz_R_put {K : Nat → Nat → Int32} {b : Nat → Nat} {s t p c : Nat} {hd : List Nat} {o : Nat} {C : List Nat} (h : jz_R K b s t p hd o C) (hn : hd.length + C.length < 160) : jz_R (jm_up (jm_up K 65 (200 * t + C.length) (nI c)) 57 30 (nI (C.length + 1))) b s t p hd o (C ++ [c]) := by
  obtain ⟨h1, h2, h3, ⟨h4, h5⟩, h6, ⟨h7, h8⟩, h9, h10, h11, h12⟩ := h
  refine ⟨jz_NB_57 (jz_NB_ot h1 (by omega) (by omega) (by omega)) (by omega), ?_, ?_, ⟨?_, fun j hj => ?_⟩, ?_, ⟨?_, fun j hj => ?_⟩, h9, ?_, h11, h12⟩
  · rw [jx_rdn (by omega), jx_rdn (by omega)]; exact h2
  · rw [jx_rdn (by omega), jx_rdn (by omega)]; exact h3
  · rw [jx_rdn (by omega), jx_rdn (by omega)]; exact h4
  · rw [jx_rdn (by omega), jx_rdn (by omega)]; exact h5 j hj
  · rw [jx_rdn (by omega), jx_rdn (by omega)]; exact h6
  · rw [jx_rds, List.length_append]; rfl
  · rw [List.length_append] at hj
    replace hj : j < C.length + 1 := hj
    rw [jx_rdn (by omega), jz_getD_app hj]
    by_cases q : j = C.length
    · rw [if_pos q, q, jx_rds]
    · rw [if_neg q, jx_rdn (by omega)]; exact h8 j (by omega)
  · rw [List.length_append]; show _ + (_ + 1) ≤ _; omega
theorem jf_161 {d z t : Nat} {x : Int32} {K : Nat → Nat → Int32} {rho : Nat → Option Nat} {mu : List (Nat × Nat)} (h13 : K 57 13 = nI t) (h30 : K 57 30 = nI z) (ht : t < 6) (hz : z < 200) : jm_ev (d + 1) 161 [.ref 57, .int x] (jm_hp K rho mu) = some (none, jm_hp (jm_up (jm_up K 65 (200 * t + z) x) 57 30 (nI (z + 1))) rho mu) := by
  have zi : 200 * t + z < 1200 := by omega
  simp (disch := first | assumption | omega | exact jx_bz _ | exact jx_z0 | exact jx_z1 | (refine jx_ixB ?_ ?_; omega; omega) | (simp (disch := first | omega | fail) only [jx_lit, pk_mul, nI_add, nI_pred, pk_sub, jx_na, jx_add0, Nat.reduceMul, Nat.reduceAdd, Nat.reduceSub, Nat.reduceEqDiff, Nat.reduceLeDiff, Nat.reduceLT, h13, h30]; refine jx_ixC ?_ ?_; omega; omega) | (simp (disch := first | omega | fail) only [jx_lit, pk_mul, nI_add, nI_pred, pk_sub, jx_na, jx_add0, Nat.reduceMul, Nat.reduceAdd, Nat.reduceSub, Nat.reduceEqDiff, Nat.reduceLeDiff, Nat.reduceLT, jx_cl, nI_leI, Nat.zero_le, true_and, h13, h30]; omega) | fail) only [je_161, jb_161_0, jx_nl, jx_nlr, jx_thenS, jx_tlS, jx_tlN, jm_ite_go, jx_rds, jx_rdn, jx_lit, pk_mul, nI_add, nI_pred, pk_sub, jx_na, jx_add0, Nat.reduceMul, Nat.reduceAdd, Nat.reduceSub, Nat.reduceEqDiff, Nat.reduceLeDiff, Nat.reduceLT, Nat.not_lt_zero, jx_cl, nI_leI, nI_ltI, nI_eq, jx_neg, jx_neg', jx_negE, jx_negL, jx_negG, jx_negLE, jx_negN, sb_nlt, sb_nle, jx_b0, jx_b1, jx_bT, jx_bF, ite_true, ite_false, if_true, if_false, reduceIte, Bool.false_eq_true, Bool.true_eq_false, eq_self, Nat.one_ne_zero, Nat.add_sub_cancel, not_true_eq_false, not_false_eq_true, h13, h30]
theorem jf_163 {d z : Nat} {x : Int32} {K : Nat → Nat → Int32} {rho : Nat → Option Nat} {mu : List (Nat × Nat)} (h28 : K 57 28 = nI z) (hz : z < 200) : jm_ev (d + 1) 163 [.ref 57, .int x] (jm_hp K rho mu) = some (none, jm_hp (jm_up (jm_up K 74 z x) 57 28 (nI (z + 1))) rho mu) := by
  simp (disch := first | assumption | omega | exact jx_bz _ | exact jx_z0 | exact jx_z1 | (refine jx_ixB ?_ ?_; omega; omega) | (simp (disch := first | omega | fail) only [jx_lit, pk_mul, nI_add, nI_pred, pk_sub, jx_na, jx_add0, Nat.reduceMul, Nat.reduceAdd, Nat.reduceSub, Nat.reduceEqDiff, Nat.reduceLeDiff, Nat.reduceLT, h28, hz]; refine jx_ixC ?_ ?_; omega; omega) | (simp (disch := first | omega | fail) only [jx_lit, pk_mul, nI_add, nI_pred, pk_sub, jx_na, jx_add0, Nat.reduceMul, Nat.reduceAdd, Nat.reduceSub, Nat.reduceEqDiff, Nat.reduceLeDiff, Nat.reduceLT, jx_cl, nI_leI, Nat.zero_le, true_and, h28, hz]; omega) | fail) only [je_163, jb_163_0, jx_nl, jx_nlr, jx_thenS, jx_tlS, jx_tlN, jm_ite_go, jx_rds, jx_rdn, jx_lit, pk_mul, nI_add, nI_pred, pk_sub, jx_na, jx_add0, Nat.reduceMul, Nat.reduceAdd, Nat.reduceSub, Nat.reduceEqDiff, Nat.reduceLeDiff, Nat.reduceLT, Nat.not_lt_zero, jx_cl, nI_leI, nI_ltI, nI_eq, jx_neg, jx_neg', jx_negE, jx_negL, jx_negG, jx_negLE, jx_negN, sb_nlt, sb_nle, jx_b0, jx_b1, jx_bT, jx_bF, ite_true, ite_false, if_true, if_false, reduceIte, Bool.false_eq_true, Bool.true_eq_false, eq_self, Nat.one_ne_zero, Nat.add_sub_cancel, not_true_eq_false, not_false_eq_true, h28, hz]
theorem jz_rk_lt (g : Nat) : jz_rk g < 8 := by
  unfold jz_rk
  repeat' split
  all_goals omega
def jz_hr (hd : List Nat) (r : Nat) : Prop := ∀ g l, hd = g :: l → jz_rk g < r
theorem jz_o1_le (g : Nat) : jz_o1 g ≤ 1 := by unfold jz_o1; split; omega; split <;> omega
/-- the unwinding: signs that bind so come -/
theorem jl_162 {d least : Nat} {b : Nat → Nat} {s t p : Nat} {rho : Nat → Option Nat} {mu : List (Nat × Nat)} (hl : least < 10) : ∀ (S hd : List Nat) (o : Nat) (C : List Nat) (K : Nat → Nat → Int32) (l2 : Option Value), jz_R K b s t p (S ++ hd) (o + jz_no S) C → (∀ g, g ∈ S → least ≤ jz_rk g) → jz_hr hd least →
    ∃ J, jm_go (jm_ev (d + 1)) 162 (0, [some (.ref 57), some (.int (nI least)), l2], [], jm_hp K rho mu) = some (none, jm_hp J rho mu) ∧ jz_R J b s t p hd o (C ++ S) ∧ jG (jS_ru t) K J := by
  intro S
  induction S with
  | nil =>
    intro hd o C K l2 hR hS hh
    rw [List.nil_append] at hR
    refine ⟨K, ?_, by rw [List.append_nil]; exact hR, jG_rf⟩
    cases hd with
    | nil =>
      have h28 : K 57 28 = nI 0 := hR.2.2.2.1.1
      rw [jb_162_0]
      simp (disch := first | assumption | omega | exact jx_bz _ | exact jx_z0 | exact jx_z1 | (refine jx_ixB ?_ ?_; omega; omega) | (simp (disch := first | omega | fail) only [jx_lit, pk_mul, nI_add, nI_pred, pk_sub, jx_na, jx_add0, Nat.reduceMul, Nat.reduceAdd, Nat.reduceSub, Nat.reduceEqDiff, Nat.reduceLeDiff, Nat.reduceLT, h28]; refine jx_ixC ?_ ?_; omega; omega) | (simp (disch := first | omega | fail) only [jx_lit, pk_mul, nI_add, nI_pred, pk_sub, jx_na, jx_add0, Nat.reduceMul, Nat.reduceAdd, Nat.reduceSub, Nat.reduceEqDiff, Nat.reduceLeDiff, Nat.reduceLT, jx_cl, nI_leI, Nat.zero_le, true_and, h28]; omega) | fail) only [jb_162_7, jb_162_21, jb_162_25, jb_162_56, jb_162_62, jb_162_66, jb_162_67, jb_162_76, jb_162_79, jx_nl, jx_nlr, jx_thenS, jx_tlS, jx_tlN, jm_ite_go, jx_rds, jx_rdn, jx_lit, pk_mul, nI_add, nI_pred, pk_sub, jx_na, jx_add0, Nat.reduceMul, Nat.reduceAdd, Nat.reduceSub, Nat.reduceEqDiff, Nat.reduceLeDiff, Nat.reduceLT, Nat.not_lt_zero, jx_cl, nI_leI, nI_ltI, nI_eq, jx_neg, jx_neg', jx_negE, jx_negL, jx_negG, jx_negLE, jx_negN, sb_nlt, sb_nle, jx_b0, jx_b1, jx_bT, jx_bF, ite_true, ite_false, if_true, if_false, reduceIte, Bool.false_eq_true, Bool.true_eq_false, eq_self, Nat.one_ne_zero, Nat.add_sub_cancel, not_true_eq_false, not_false_eq_true, h28]
    | cons g l =>
      obtain ⟨t1, t2, t3, t4⟩ := jz_R_top hR
      have hg := hh g l rfl
      have zn : ¬ l.length + 1 ≤ 0 := by omega
      have ep : nI (l.length + 1) - nI 1 = nI l.length := nI_pred _
      have k160 := @jf_160 d g K rho mu t3
      have zl : l.length < 200 := by omega
      have hix : 0 ≤ (K 57 28 - 1 : Int32) ∧ (K 57 28 - 1 : Int32).toNatClampNeg < 200 := by rw [t2]; rw [show (1 : Int32) = nI 1 from rfl, ep]; exact jx_ixB zl (by decide)
      rw [jb_162_0]
      simp (disch := first | assumption | omega | exact jx_bz _ | exact jx_z0 | exact jx_z1 | (refine jx_ixB ?_ ?_; omega; omega) | (simp (disch := first | omega | fail) only [jx_lit, pk_mul, nI_add, nI_pred, pk_sub, jx_na, jx_add0, Nat.reduceMul, Nat.reduceAdd, Nat.reduceSub, Nat.reduceEqDiff, Nat.reduceLeDiff, Nat.reduceLT, t2, zn, ep, t1, k160, hg]; refine jx_ixC ?_ ?_; omega; omega) | (simp (disch := first | omega | fail) only [jx_lit, pk_mul, nI_add, nI_pred, pk_sub, jx_na, jx_add0, Nat.reduceMul, Nat.reduceAdd, Nat.reduceSub, Nat.reduceEqDiff, Nat.reduceLeDiff, Nat.reduceLT, jx_cl, nI_leI, Nat.zero_le, true_and, t2, zn, ep, t1, k160, hg]; omega) | fail) only [jb_162_7, jb_162_21, jb_162_25, jb_162_56, jb_162_62, jb_162_66, jb_162_67, jb_162_76, jb_162_79, jx_nl, jx_nlr, jx_thenS, jx_tlS, jx_tlN, jm_ite_go, jx_rds, jx_rdn, jx_lit, pk_mul, nI_add, nI_pred, pk_sub, jx_na, jx_add0, Nat.reduceMul, Nat.reduceAdd, Nat.reduceSub, Nat.reduceEqDiff, Nat.reduceLeDiff, Nat.reduceLT, Nat.not_lt_zero, jx_cl, nI_leI, nI_ltI, nI_eq, jx_neg, jx_neg', jx_negE, jx_negL, jx_negG, jx_negLE, jx_negN, sb_nlt, sb_nle, jx_b0, jx_b1, jx_bT, jx_bF, ite_true, ite_false, if_true, if_false, reduceIte, Bool.false_eq_true, Bool.true_eq_false, eq_self, Nat.one_ne_zero, Nat.add_sub_cancel, not_true_eq_false, not_false_eq_true, t2, zn, ep, t1, k160, hg]
  | cons g S ih =>
    intro hd o C K l2 hR hS hh
    have hg := hS g List.mem_cons_self
    rw [List.cons_append] at hR
    obtain ⟨t1, t2, t3, t4⟩ := jz_R_top hR
    obtain ⟨r1, r2, r3, ⟨r4, r5⟩, r6, ⟨r7, r8⟩, r9, r10, r11, r12⟩ := id hR
    rw [jz_no] at r6 r11
    have ho := jz_o1_le g
    have hrk := jz_rk_lt g
    obtain ⟨A, hA⟩ : ∃ A, A = jm_up K 57 28 (nI (S ++ hd).length) := ⟨_, rfl⟩
    have hRA := jz_R_pop hR
    rw [← hA] at hRA
    obtain ⟨B, hB⟩ : ∃ B, B = jm_up A 57 29 (nI (o + jz_no S)) := ⟨_, rfl⟩
    have hRB := jz_R_op (q := o + jz_no S) hRA (by omega)
    rw [← hB] at hRB
    obtain ⟨D, hD⟩ : ∃ D, D = jm_up (jm_up B 65 (200 * t + C.length) (nI g)) 57 30 (nI (C.length + 1)) := ⟨_, rfl⟩
    have hRD := jz_R_put (c := g) hRB (by omega)
    rw [← hD] at hRD
    obtain ⟨J, e, f, q⟩ := ih hd o (C ++ [g]) D (some (.int (nI g))) hRD (fun z hz => hS z (List.mem_cons_of_mem _ hz)) hh
    rw [List.append_assoc, List.singleton_append] at f
    refine ⟨J, ?_, f, jG_tr ?_ q⟩
    · rw [← e]
      have zn : ¬ (S ++ hd).length + 1 ≤ 0 := by omega
      have ep : nI ((S ++ hd).length + 1) - nI 1 = nI (S ++ hd).length := nI_pred _
      have k160 := @jf_160 d g K rho mu t3
      have zl : (S ++ hd).length < 200 := by omega
      have hix : 0 ≤ (K 57 28 - 1 : Int32) ∧ (K 57 28 - 1 : Int32).toNatClampNeg < 200 := by rw [t2]; rw [show (1 : Int32) = nI 1 from rfl, ep]; exact jx_ixB zl (by decide)
      have k161 := @jf_161 d C.length t (nI g) B rho mu hRB.2.1 hRB.2.2.2.2.2.1.1 r12 (by omega)
      rw [← hD] at k161
      have zr : ¬ jz_rk g < least := by omega
      rw [hB] at k161
      rw [hA] at k161
      rw [jb_162_0]
      by_cases z13 : g = 13
      · subst z13
        have eo : nI (o + (jz_o1 13 + jz_no S)) - nI 1 = nI (o + jz_no S) := by
          rw [show jz_o1 13 = 1 from rfl, pk_sub (by omega)]
          congr 1; omega
        simp (disch := first | assumption | omega | exact jx_bz _ | exact jx_z0 | exact jx_z1 | (refine jx_ixB ?_ ?_; omega; omega) | (simp (disch := first | omega | fail) only [jx_lit, pk_mul, nI_add, nI_pred, pk_sub, jx_na, jx_add0, Nat.reduceMul, Nat.reduceAdd, Nat.reduceSub, Nat.reduceEqDiff, Nat.reduceLeDiff, Nat.reduceLT, t2, zn, ep, t1, k160, zr, r6, eo, k161]; refine jx_ixC ?_ ?_; omega; omega) | (simp (disch := first | omega | fail) only [jx_lit, pk_mul, nI_add, nI_pred, pk_sub, jx_na, jx_add0, Nat.reduceMul, Nat.reduceAdd, Nat.reduceSub, Nat.reduceEqDiff, Nat.reduceLeDiff, Nat.reduceLT, jx_cl, nI_leI, Nat.zero_le, true_and, t2, zn, ep, t1, k160, zr, r6, eo, k161]; omega) | fail) only [jb_162_7, jb_162_21, jb_162_25, jb_162_56, jb_162_62, jb_162_66, jb_162_67, jb_162_76, jb_162_79, jx_nl, jx_nlr, jx_thenS, jx_tlS, jx_tlN, jm_ite_go, jx_rds, jx_rdn, jx_lit, pk_mul, nI_add, nI_pred, pk_sub, jx_na, jx_add0, Nat.reduceMul, Nat.reduceAdd, Nat.reduceSub, Nat.reduceEqDiff, Nat.reduceLeDiff, Nat.reduceLT, Nat.not_lt_zero, jx_cl, nI_leI, nI_ltI, nI_eq, jx_neg, jx_neg', jx_negE, jx_negL, jx_negG, jx_negLE, jx_negN, sb_nlt, sb_nle, jx_b0, jx_b1, jx_bT, jx_bF, ite_true, ite_false, if_true, if_false, reduceIte, Bool.false_eq_true, Bool.true_eq_false, eq_self, Nat.one_ne_zero, Nat.add_sub_cancel, not_true_eq_false, not_false_eq_true, t2, zn, ep, t1, k160, zr, r6, eo, k161]
      · by_cases z19 : g = 19
        · subst z19
          have eo : nI (o + (jz_o1 19 + jz_no S)) - nI 1 = nI (o + jz_no S) := by
            rw [show jz_o1 19 = 1 from rfl, pk_sub (by omega)]
            congr 1; omega
          simp (disch := first | assumption | omega | exact jx_bz _ | exact jx_z0 | exact jx_z1 | (refine jx_ixB ?_ ?_; omega; omega) | (simp (disch := first | omega | fail) only [jx_lit, pk_mul, nI_add, nI_pred, pk_sub, jx_na, jx_add0, Nat.reduceMul, Nat.reduceAdd, Nat.reduceSub, Nat.reduceEqDiff, Nat.reduceLeDiff, Nat.reduceLT, t2, zn, ep, t1, k160, zr, r6, eo, k161]; refine jx_ixC ?_ ?_; omega; omega) | (simp (disch := first | omega | fail) only [jx_lit, pk_mul, nI_add, nI_pred, pk_sub, jx_na, jx_add0, Nat.reduceMul, Nat.reduceAdd, Nat.reduceSub, Nat.reduceEqDiff, Nat.reduceLeDiff, Nat.reduceLT, jx_cl, nI_leI, Nat.zero_le, true_and, t2, zn, ep, t1, k160, zr, r6, eo, k161]; omega) | fail) only [jb_162_7, jb_162_21, jb_162_25, jb_162_56, jb_162_62, jb_162_66, jb_162_67, jb_162_76, jb_162_79, jx_nl, jx_nlr, jx_thenS, jx_tlS, jx_tlN, jm_ite_go, jx_rds, jx_rdn, jx_lit, pk_mul, nI_add, nI_pred, pk_sub, jx_na, jx_add0, Nat.reduceMul, Nat.reduceAdd, Nat.reduceSub, Nat.reduceEqDiff, Nat.reduceLeDiff, Nat.reduceLT, Nat.not_lt_zero, jx_cl, nI_leI, nI_ltI, nI_eq, jx_neg, jx_neg', jx_negE, jx_negL, jx_negG, jx_negLE, jx_negN, sb_nlt, sb_nle, jx_b0, jx_b1, jx_bT, jx_bF, ite_true, ite_false, if_true, if_false, reduceIte, Bool.false_eq_true, Bool.true_eq_false, eq_self, Nat.one_ne_zero, Nat.add_sub_cancel, not_true_eq_false, not_false_eq_true, t2, zn, ep, t1, k160, zr, r6, eo, k161]
        · have eo : nI (o + (jz_o1 g + jz_no S)) - nI 0 = nI (o + jz_no S) := by
            rw [show jz_o1 g = 0 by unfold jz_o1; rw [if_neg z13, if_neg z19], pk_sub (by omega)]
            congr 1; omega
          simp (disch := first | assumption | omega | exact jx_bz _ | exact jx_z0 | exact jx_z1 | (refine jx_ixB ?_ ?_; omega; omega) | (simp (disch := first | omega | fail) only [jx_lit, pk_mul, nI_add, nI_pred, pk_sub, jx_na, jx_add0, Nat.reduceMul, Nat.reduceAdd, Nat.reduceSub, Nat.reduceEqDiff, Nat.reduceLeDiff, Nat.reduceLT, t2, zn, ep, t1, k160, zr, z13, z19, r6, eo, k161]; refine jx_ixC ?_ ?_; omega; omega) | (simp (disch := first | omega | fail) only [jx_lit, pk_mul, nI_add, nI_pred, pk_sub, jx_na, jx_add0, Nat.reduceMul, Nat.reduceAdd, Nat.reduceSub, Nat.reduceEqDiff, Nat.reduceLeDiff, Nat.reduceLT, jx_cl, nI_leI, Nat.zero_le, true_and, t2, zn, ep, t1, k160, zr, z13, z19, r6, eo, k161]; omega) | fail) only [jb_162_7, jb_162_21, jb_162_25, jb_162_56, jb_162_62, jb_162_66, jb_162_67, jb_162_76, jb_162_79, jx_nl, jx_nlr, jx_thenS, jx_tlS, jx_tlN, jm_ite_go, jx_rds, jx_rdn, jx_lit, pk_mul, nI_add, nI_pred, pk_sub, jx_na, jx_add0, Nat.reduceMul, Nat.reduceAdd, Nat.reduceSub, Nat.reduceEqDiff, Nat.reduceLeDiff, Nat.reduceLT, Nat.not_lt_zero, jx_cl, nI_leI, nI_ltI, nI_eq, jx_neg, jx_neg', jx_negE, jx_negL, jx_negG, jx_negLE, jx_negN, sb_nlt, sb_nle, jx_b0, jx_b1, jx_bT, jx_bF, ite_true, ite_false, if_true, if_false, reduceIte, Bool.false_eq_true, Bool.true_eq_false, eq_self, Nat.one_ne_zero, Nat.add_sub_cancel, not_true_eq_false, not_false_eq_true, t2, zn, ep, t1, k160, zr, z13, z19, r6, eo, k161]
    · rw [hD, hB, hA]
      exact jG_up (jG_up (jG_up (jG_up jG_rf (jS_ruY (by omega))) (jS_ruY (by omega))) (jS_ruY (by omega))) (jS_ruY (by omega))
theorem jf_162 {d least : Nat} {b : Nat → Nat} {s t p o : Nat} {S hd C : List Nat} {K : Nat → Nat → Int32} {rho : Nat → Option Nat} {mu : List (Nat × Nat)} (hl : least < 10) (hR : jz_R K b s t p (S ++ hd) (o + jz_no S) C) (hS : ∀ g, g ∈ S → least ≤ jz_rk g) (hh : jz_hr hd least) :
    ∃ J, jm_ev (d + 2) 162 [.ref 57, .int (nI least)] (jm_hp K rho mu) = some (none, jm_hp J rho mu) ∧ jz_R J b s t p hd o (C ++ S) ∧ jG (jS_ru t) K J := by
  obtain ⟨J, e, f, q⟩ := jl_162 (d := d) (rho := rho) (mu := mu) hl S hd o C K none hR hS hh
  exact ⟨J, je_162.trans e, f, q⟩
theorem jf_164 {d g : Nat} {b : Nat → Nat} {s t p o : Nat} {hd C : List Nat} {K : Nat → Nat → Int32} {rho : Nat → Option Nat} {mu : List (Nat × Nat)} (hR : jz_R K b s t p hd o C) (hg : g < 20) (ho : o < 5) (hn : hd.length + C.length < 160) :
    ∃ J, jm_ev (d + 2) 164 [.ref 57, .int (nI g)] (jm_hp K rho mu) = some (some (.int (nI 1)), jm_hp J rho mu) ∧ jz_R J b s t p (g :: hd) (o + 1) C ∧ jG (jS_rm t) K J := by
  obtain ⟨A, hA⟩ : ∃ A, A = jm_up K 57 29 (nI (o + 1)) := ⟨_, rfl⟩
  have hRA := jz_R_op (q := o + 1) hR (by omega)
  rw [← hA] at hRA
  have k163 := @jf_163 d hd.length (nI g) A rho mu hRA.2.2.2.1.1 (by omega)
  have h29 := hR.2.2.2.2.1
  have z5 : ¬ o = 5 := by omega
  refine ⟨_, ?_, jz_R_push hRA hg hn, ?_⟩
  · rw [hA] at k163 ⊢
    simp (disch := first | assumption | omega | exact jx_bz _ | exact jx_z0 | exact jx_z1 | (refine jx_ixB ?_ ?_; omega; omega) | (simp (disch := first | omega | fail) only [jx_lit, pk_mul, nI_add, nI_pred, pk_sub, jx_na, jx_add0, Nat.reduceMul, Nat.reduceAdd, Nat.reduceSub, Nat.reduceEqDiff, Nat.reduceLeDiff, Nat.reduceLT, h29, z5, k163]; refine jx_ixC ?_ ?_; omega; omega) | (simp (disch := first | omega | fail) only [jx_lit, pk_mul, nI_add, nI_pred, pk_sub, jx_na, jx_add0, Nat.reduceMul, Nat.reduceAdd, Nat.reduceSub, Nat.reduceEqDiff, Nat.reduceLeDiff, Nat.reduceLT, jx_cl, nI_leI, Nat.zero_le, true_and, h29, z5, k163]; omega) | fail) only [je_164, jb_164_0, jb_164_8, jb_164_10, jb_164_25, jx_nl, jx_nlr, jx_thenS, jx_tlS, jx_tlN, jm_ite_go, jx_rds, jx_rdn, jx_lit, pk_mul, nI_add, nI_pred, pk_sub, jx_na, jx_add0, Nat.reduceMul, Nat.reduceAdd, Nat.reduceSub, Nat.reduceEqDiff, Nat.reduceLeDiff, Nat.reduceLT, Nat.not_lt_zero, jx_cl, nI_leI, nI_ltI, nI_eq, jx_neg, jx_neg', jx_negE, jx_negL, jx_negG, jx_negLE, jx_negN, sb_nlt, sb_nle, jx_b0, jx_b1, jx_bT, jx_bF, ite_true, ite_false, if_true, if_false, reduceIte, Bool.false_eq_true, Bool.true_eq_false, eq_self, Nat.one_ne_zero, Nat.add_sub_cancel, not_true_eq_false, not_false_eq_true, h29, z5, k163]
  · rw [hA]; exact jG_up (jG_up (jG_up jG_rf (jS_rmY (by omega))) (jS_rmY (by omega))) (jS_rmY (by omega))
theorem jf_164n {d g : Nat} {K : Nat → Nat → Int32} {rho : Nat → Option Nat} {mu : List (Nat × Nat)} (h29 : K 57 29 = nI 5) : jm_ev (d + 2) 164 [.ref 57, .int (nI g)] (jm_hp K rho mu) = some (some (.int (nI 0)), jm_hp K rho mu) := by
  simp (disch := first | assumption | omega | exact jx_bz _ | exact jx_z0 | exact jx_z1 | (refine jx_ixB ?_ ?_; omega; omega) | (simp (disch := first | omega | fail) only [jx_lit, pk_mul, nI_add, nI_pred, pk_sub, jx_na, jx_add0, Nat.reduceMul, Nat.reduceAdd, Nat.reduceSub, Nat.reduceEqDiff, Nat.reduceLeDiff, Nat.reduceLT, h29]; refine jx_ixC ?_ ?_; omega; omega) | (simp (disch := first | omega | fail) only [jx_lit, pk_mul, nI_add, nI_pred, pk_sub, jx_na, jx_add0, Nat.reduceMul, Nat.reduceAdd, Nat.reduceSub, Nat.reduceEqDiff, Nat.reduceLeDiff, Nat.reduceLT, jx_cl, nI_leI, Nat.zero_le, true_and, h29]; omega) | fail) only [je_164, jb_164_0, jb_164_8, jb_164_10, jb_164_25, jx_nl, jx_nlr, jx_thenS, jx_tlS, jx_tlN, jm_ite_go, jx_rds, jx_rdn, jx_lit, pk_mul, nI_add, nI_pred, pk_sub, jx_na, jx_add0, Nat.reduceMul, Nat.reduceAdd, Nat.reduceSub, Nat.reduceEqDiff, Nat.reduceLeDiff, Nat.reduceLT, Nat.not_lt_zero, jx_cl, nI_leI, nI_ltI, nI_eq, jx_neg, jx_neg', jx_negE, jx_negL, jx_negG, jx_negLE, jx_negN, sb_nlt, sb_nle, jx_b0, jx_b1, jx_bT, jx_bF, ite_true, ite_false, if_true, if_false, reduceIte, Bool.false_eq_true, Bool.true_eq_false, eq_self, Nat.one_ne_zero, Nat.add_sub_cancel, not_true_eq_false, not_false_eq_true, h29]
/-- a sign between two, that can stand -/
theorem jf_165 {d g : Nat} {b : Nat → Nat} {s t p o : Nat} {S hd C : List Nat} {K : Nat → Nat → Int32} {rho : Nat → Option Nat} {mu : List (Nat × Nat)} (hg : g < 20) (hR : jz_R K b s t p (S ++ hd) (o + jz_no S) C) (hS : ∀ z, z ∈ S → (if jz_rk g = 4 then 5 else jz_rk g) ≤ jz_rk z) (hh : jz_hr hd (jz_rk g)) (hn : (S ++ hd).length + C.length < 160) :
    ∃ J, jm_ev (d + 3) 165 [.ref 57, .int (nI g)] (jm_hp K rho mu) = some (some (.int (nI 1)), jm_hp J rho mu) ∧ jz_R J b s t p (g :: hd) o (C ++ S) ∧ jG (jS_rm t) K J := by
  have hrk := jz_rk_lt g
  have k160 := fun I => @jf_160 (d + 1) g I rho mu hg
  have k160K := k160 K
  obtain ⟨J, e, f, q⟩ := jf_162 (d := d) (least := if jz_rk g = 4 then 5 else jz_rk g) (rho := rho) (mu := mu) (by split <;> omega) hR hS (fun z l hz => by have := hh z l hz; split <;> omega)
  have hlen : hd.length + (C ++ S).length < 160 := by
    rw [List.length_append] at hn ⊢; omega
  have k160J := k160 J
  have k163 := @jf_163 (d + 1) hd.length (nI g) J rho mu f.2.2.2.1.1 (by rw [List.length_append] at hn; omega)
  refine ⟨_, ?_, jz_R_push f hg hlen, jG_up (jG_up (jG_rum q) (jS_rmY (by omega))) (jS_rmY (by omega))⟩
  by_cases z4 : jz_rk g = 4
  · rw [if_pos z4] at e
    cases hd with
    | nil =>
      have h28 : J 57 28 = nI 0 := f.2.2.2.1.1
      simp (disch := first | assumption | omega | exact jx_bz _ | exact jx_z0 | exact jx_z1 | (refine jx_ixB ?_ ?_; omega; omega) | (simp (disch := first | omega | fail) only [jx_lit, pk_mul, nI_add, nI_pred, pk_sub, jx_na, jx_add0, Nat.reduceMul, Nat.reduceAdd, Nat.reduceSub, Nat.reduceEqDiff, Nat.reduceLeDiff, Nat.reduceLT, k160K, z4, e, k160J, h28, k163, List.length_nil]; refine jx_ixC ?_ ?_; omega; omega) | (simp (disch := first | omega | fail) only [jx_lit, pk_mul, nI_add, nI_pred, pk_sub, jx_na, jx_add0, Nat.reduceMul, Nat.reduceAdd, Nat.reduceSub, Nat.reduceEqDiff, Nat.reduceLeDiff, Nat.reduceLT, jx_cl, nI_leI, Nat.zero_le, true_and, k160K, z4, e, k160J, h28, k163, List.length_nil]; omega) | fail) only [je_165, jb_165_0, jb_165_5, jb_165_9, jb_165_13, jb_165_17, jb_165_20, jb_165_24, jb_165_28, jb_165_35, jb_165_49, jb_165_53, jb_165_55, jb_165_60, jx_nl, jx_nlr, jx_thenS, jx_tlS, jx_tlN, jm_ite_go, jx_rds, jx_rdn, jx_lit, pk_mul, nI_add, nI_pred, pk_sub, jx_na, jx_add0, Nat.reduceMul, Nat.reduceAdd, Nat.reduceSub, Nat.reduceEqDiff, Nat.reduceLeDiff, Nat.reduceLT, Nat.not_lt_zero, jx_cl, nI_leI, nI_ltI, nI_eq, jx_neg, jx_neg', jx_negE, jx_negL, jx_negG, jx_negLE, jx_negN, sb_nlt, sb_nle, jx_b0, jx_b1, jx_bT, jx_bF, ite_true, ite_false, if_true, if_false, reduceIte, Bool.false_eq_true, Bool.true_eq_false, eq_self, Nat.one_ne_zero, Nat.add_sub_cancel, not_true_eq_false, not_false_eq_true, k160K, z4, e, k160J, h28, k163, List.length_nil]
    | cons z l =>
      obtain ⟨t1, t2, t3, t4⟩ := jz_R_top f
      have hz := hh z l rfl
      have hrz := jz_rk_lt z
      have zn : ¬ l.length + 1 ≤ 0 := by omega
      have ep : nI (l.length + 1) - nI 1 = nI l.length := nI_pred _
      have kz := @jf_160 (d + 1) z J rho mu t3
      have zl : l.length < 200 := by omega
      have hix : 0 ≤ (J 57 28 - 1 : Int32) ∧ (J 57 28 - 1 : Int32).toNatClampNeg < 200 := by rw [t2]; rw [show (1 : Int32) = nI 1 from rfl, ep]; exact jx_ixB zl (by decide)
      have z9 : ¬ jz_rk z = 4 := by omega
      simp (disch := first | assumption | omega | exact jx_bz _ | exact jx_z0 | exact jx_z1 | (refine jx_ixB ?_ ?_; omega; omega) | (simp (disch := first | omega | fail) only [jx_lit, pk_mul, nI_add, nI_pred, pk_sub, jx_na, jx_add0, Nat.reduceMul, Nat.reduceAdd, Nat.reduceSub, Nat.reduceEqDiff, Nat.reduceLeDiff, Nat.reduceLT, k160K, z4, e, k160J, t2, zn, ep, t1, kz, z9, k163, List.length_cons]; refine jx_ixC ?_ ?_; omega; omega) | (simp (disch := first | omega | fail) only [jx_lit, pk_mul, nI_add, nI_pred, pk_sub, jx_na, jx_add0, Nat.reduceMul, Nat.reduceAdd, Nat.reduceSub, Nat.reduceEqDiff, Nat.reduceLeDiff, Nat.reduceLT, jx_cl, nI_leI, Nat.zero_le, true_and, k160K, z4, e, k160J, t2, zn, ep, t1, kz, z9, k163, List.length_cons]; omega) | fail) only [je_165, jb_165_0, jb_165_5, jb_165_9, jb_165_13, jb_165_17, jb_165_20, jb_165_24, jb_165_28, jb_165_35, jb_165_49, jb_165_53, jb_165_55, jb_165_60, jx_nl, jx_nlr, jx_thenS, jx_tlS, jx_tlN, jm_ite_go, jx_rds, jx_rdn, jx_lit, pk_mul, nI_add, nI_pred, pk_sub, jx_na, jx_add0, Nat.reduceMul, Nat.reduceAdd, Nat.reduceSub, Nat.reduceEqDiff, Nat.reduceLeDiff, Nat.reduceLT, Nat.not_lt_zero, jx_cl, nI_leI, nI_ltI, nI_eq, jx_neg, jx_neg', jx_negE, jx_negL, jx_negG, jx_negLE, jx_negN, sb_nlt, sb_nle, jx_b0, jx_b1, jx_bT, jx_bF, ite_true, ite_false, if_true, if_false, reduceIte, Bool.false_eq_true, Bool.true_eq_false, eq_self, Nat.one_ne_zero, Nat.add_sub_cancel, not_true_eq_false, not_false_eq_true, k160K, z4, e, k160J, t2, zn, ep, t1, kz, z9, k163, List.length_cons]
  · rw [if_neg z4] at e
    simp (disch := first | assumption | omega | exact jx_bz _ | exact jx_z0 | exact jx_z1 | (refine jx_ixB ?_ ?_; omega; omega) | (simp (disch := first | omega | fail) only [jx_lit, pk_mul, nI_add, nI_pred, pk_sub, jx_na, jx_add0, Nat.reduceMul, Nat.reduceAdd, Nat.reduceSub, Nat.reduceEqDiff, Nat.reduceLeDiff, Nat.reduceLT, k160K, z4, e, k160J, k163]; refine jx_ixC ?_ ?_; omega; omega) | (simp (disch := first | omega | fail) only [jx_lit, pk_mul, nI_add, nI_pred, pk_sub, jx_na, jx_add0, Nat.reduceMul, Nat.reduceAdd, Nat.reduceSub, Nat.reduceEqDiff, Nat.reduceLeDiff, Nat.reduceLT, jx_cl, nI_leI, Nat.zero_le, true_and, k160K, z4, e, k160J, k163]; omega) | fail) only [je_165, jb_165_0, jb_165_5, jb_165_9, jb_165_13, jb_165_17, jb_165_20, jb_165_24, jb_165_28, jb_165_35, jb_165_49, jb_165_53, jb_165_55, jb_165_60, jx_nl, jx_nlr, jx_thenS, jx_tlS, jx_tlN, jm_ite_go, jx_rds, jx_rdn, jx_lit, pk_mul, nI_add, nI_pred, pk_sub, jx_na, jx_add0, Nat.reduceMul, Nat.reduceAdd, Nat.reduceSub, Nat.reduceEqDiff, Nat.reduceLeDiff, Nat.reduceLT, Nat.not_lt_zero, jx_cl, nI_leI, nI_ltI, nI_eq, jx_neg, jx_neg', jx_negE, jx_negL, jx_negG, jx_negLE, jx_negN, sb_nlt, sb_nle, jx_b0, jx_b1, jx_bT, jx_bF, ite_true, ite_false, if_true, if_false, reduceIte, Bool.false_eq_true, Bool.true_eq_false, eq_self, Nat.one_ne_zero, Nat.add_sub_cancel, not_true_eq_false, not_false_eq_true, k160K, z4, e, k160J, k163]
/-- one that can't: another compares already -/
theorem jf_165n {d g z : Nat} {b : Nat → Nat} {s t p o : Nat} {S hd C : List Nat} {K : Nat → Nat → Int32} {rho : Nat → Option Nat} {mu : List (Nat × Nat)} (hg : g < 20) (hg4 : jz_rk g = 4) (hz4 : jz_rk z = 4) (hR : jz_R K b s t p (S ++ z :: hd) (o + jz_no S) C) (hS : ∀ z, z ∈ S → 5 ≤ jz_rk z) :
    ∃ J, jm_ev (d + 3) 165 [.ref 57, .int (nI g)] (jm_hp K rho mu) = some (some (.int (nI 0)), jm_hp J rho mu) ∧ jz_R J b s t p (z :: hd) o (C ++ S) ∧ jG (jS_ru t) K J := by
  have k160K := @jf_160 (d + 1) g K rho mu hg
  obtain ⟨J, e, f, q⟩ := jf_162 (d := d) (least := 5) (rho := rho) (mu := mu) (by omega) hR hS (fun z' l hz => by cases hz; omega)
  have k160J := @jf_160 (d + 1) g J rho mu hg
  obtain ⟨t1, t2, t3, t4⟩ := jz_R_top f
  have zn : ¬ hd.length + 1 ≤ 0 := by omega
  have ep : nI (hd.length + 1) - nI 1 = nI hd.length := nI_pred _
  have kz := @jf_160 (d + 1) z J rho mu t3
  have zl : hd.length < 200 := by omega
  have hix : 0 ≤ (J 57 28 - 1 : Int32) ∧ (J 57 28 - 1 : Int32).toNatClampNeg < 200 := by rw [t2]; rw [show (1 : Int32) = nI 1 from rfl, ep]; exact jx_ixB zl (by decide)
  refine ⟨J, ?_, f, q⟩
  simp (disch := first | assumption | omega | exact jx_bz _ | exact jx_z0 | exact jx_z1 | (refine jx_ixB ?_ ?_; omega; omega) | (simp (disch := first | omega | fail) only [jx_lit, pk_mul, nI_add, nI_pred, pk_sub, jx_na, jx_add0, Nat.reduceMul, Nat.reduceAdd, Nat.reduceSub, Nat.reduceEqDiff, Nat.reduceLeDiff, Nat.reduceLT, k160K, hg4, e, k160J, t2, zn, ep, t1, kz, hz4]; refine jx_ixC ?_ ?_; omega; omega) | (simp (disch := first | omega | fail) only [jx_lit, pk_mul, nI_add, nI_pred, pk_sub, jx_na, jx_add0, Nat.reduceMul, Nat.reduceAdd, Nat.reduceSub, Nat.reduceEqDiff, Nat.reduceLeDiff, Nat.reduceLT, jx_cl, nI_leI, Nat.zero_le, true_and, k160K, hg4, e, k160J, t2, zn, ep, t1, kz, hz4]; omega) | fail) only [je_165, jb_165_0, jb_165_5, jb_165_9, jb_165_13, jb_165_17, jb_165_20, jb_165_24, jb_165_28, jb_165_35, jb_165_49, jb_165_53, jb_165_55, jb_165_60, jx_nl, jx_nlr, jx_thenS, jx_tlS, jx_tlN, jm_ite_go, jx_rds, jx_rdn, jx_lit, pk_mul, nI_add, nI_pred, pk_sub, jx_na, jx_add0, Nat.reduceMul, Nat.reduceAdd, Nat.reduceSub, Nat.reduceEqDiff, Nat.reduceLeDiff, Nat.reduceLT, Nat.not_lt_zero, jx_cl, nI_leI, nI_ltI, nI_eq, jx_neg, jx_neg', jx_negE, jx_negL, jx_negG, jx_negLE, jx_negN, sb_nlt, sb_nle, jx_b0, jx_b1, jx_bT, jx_bF, ite_true, ite_false, if_true, if_false, reduceIte, Bool.false_eq_true, Bool.true_eq_false, eq_self, Nat.one_ne_zero, Nat.add_sub_cancel, not_true_eq_false, not_false_eq_true, k160K, hg4, e, k160J, t2, zn, ep, t1, kz, hz4]
