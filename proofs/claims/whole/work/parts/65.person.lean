/-! PERSON -/
theorem jz_upC {a b m L : Nat} {I : Nat → Nat → Int32} : jm_up (jm_up (jm_up (jm_up (jz_N (a / 10) L I) (L + 80) 1 (nI (a % 10))) (L + 80) 2 (nI (b / 100))) (L + 80) 3 (nI (b % 100))) 0 3 (nI (m + 1)) = jz_C a b m L I := by
  funext x c
  unfold jz_C jz_N
  by_cases h : x = 0 ∧ c = 3
  · rw [if_pos h, jx_rd, if_pos h]
  · rw [if_neg h, jx_rd, if_neg h]
    by_cases hx : x = L + 80
    · subst hx
      rw [if_pos rfl]
      unfold jz_f
      by_cases h3 : c = 3
      · subst h3; rw [jx_rds, if_pos rfl]
      · rw [if_neg h3, jx_rdn (fun q => h3 q.2)]
        by_cases h2 : c = 2
        · subst h2; rw [jx_rds, if_pos rfl]
        · rw [if_neg h2, jx_rdn (fun q => h2 q.2)]
          by_cases h1 : c = 1
          · subst h1; rw [jx_rds, if_pos rfl]
          · rw [if_neg h1, jx_rdn (fun q => h1 q.2)]
            by_cases h0 : c = 0
            · subst h0; rw [jx_rds, if_pos rfl]
            · rw [if_neg h0, jx_rdn (fun q => h0 q.2)]
              by_cases h4 : c = 4
              · subst h4; rw [jx_rds, if_pos rfl]
              · rw [if_neg h4, jx_rdn (fun q => h4 q.2)]
                unfold jm_row
                rw [if_pos rfl]
    · rw [if_neg hx, jx_rdn (fun q => hx q.1), jx_rdn (fun q => hx q.1), jx_rdn (fun q => hx q.1), jx_rdn (fun q => hx q.1), jx_rdn (fun q => hx q.1)]
      unfold jm_row
      rw [if_neg hx]
theorem jf_87 {d a b m : Nat} {I : Nat → Nat → Int32} {rho : Nat → Option Nat} {mu : List (Nat × Nat)} (ha : a < 60) (hb : b < 800) (hI : I 0 3 = nI m) (hm : m < 6) : jm_ev (d + 5) 87 [.ref 0, .int (nI a), .int (nI b)] (jm_hp I rho mu) = some (some (.int (nI m)), jm_hp (jz_C a b m mu.length I) (jz_rh m (mu.length + 80) rho) (jz_mu a mu)) := by
  have k126 := @jf_126 d (a / 10) I rho mu (by omega)
  have e1 : nI a / nI 10 = nI (a / 10) := pk_div (by omega) (by decide) (by decide)
  have e2 : nI a - nI a / nI 10 * nI 10 = nI (a % 10) := pk_rem (by omega) (by decide) (by decide)
  have e3 : nI b / nI 100 = nI (b / 100) := pk_div (by omega) (by decide) (by decide)
  have e4 : nI b - nI b / nI 100 * nI 100 = nI (b % 100) := pk_rem (by omega) (by decide) (by decide)
  have hO : jm_isO (jz_mu a mu) (mu.length + 80) := by
    have h := jn_at mu (jn_kid (a / 10))
    refine jx_isOk h ?_
    rcases jm_lt6 (show a / 10 < 6 by omega) with q | q | q | q | q | q <;> rw [q] <;> rfl
  obtain ⟨K, hK⟩ : ∃ K, K = jm_up (jm_up (jm_up (jz_N (a / 10) mu.length I) (mu.length + 80) 1 (nI (a % 10))) (mu.length + 80) 2 (nI (b / 100))) (mu.length + 80) 3 (nI (b % 100)) := ⟨_, rfl⟩
  have hK3 : K 0 3 = nI m := by
    rw [hK]; unfold jz_N
    rw [jx_rdn (by omega), jx_rdn (by omega), jx_rdn (by omega), jx_rdn (by omega), jx_rdn (by omega)]
    unfold jm_row
    rw [if_neg (by omega)]; exact hI
  have hb6 : 0 ≤ K 0 3 ∧ (K 0 3).toNatClampNeg < 6 := by rw [hK3]; exact jx_ixB hm (by omega)
  have e1' : nI a / (10 : Int32) = nI (a / 10) := e1
  have e2' : nI a - nI a / (10 : Int32) * (10 : Int32) = nI (a % 10) := e2
  have e3' : nI b / (100 : Int32) = nI (b / 100) := e3
  have e4' : nI b - nI b / (100 : Int32) * (100 : Int32) = nI (b % 100) := e4
  have k49 : ∀ l3, jm_go (jm_ev (d + 4)) 87 (49, [some (.ref 0), some (.int (nI a)), some (.int (nI b)), l3], [.ref (mu.length + 80)], jm_hp (jz_N (a / 10) mu.length I) rho (jz_mu a mu)) = some (some (.int (nI m)), jm_hp (jz_C a b m mu.length I) (jz_rh m (mu.length + 80) rho) (jz_mu a mu)) := fun l3 => by
    have h := @jb_87_49 (jm_ev (d + 4)) (jz_N (a / 10) mu.length I) rho (jz_mu a mu) (nI a) (nI b) l3 (mu.length + 80) hO (by rw [e2', e4', e3', ← hK]; exact hb6)
    rw [e2', e4', e3', ← hK, hK3] at h
    rw [h, show (nI m).toNatClampNeg = m from jx_cl (by omega), jn_ur]
    have e5 : nI m + (1 : Int32) = nI (m + 1) := nI_add m 1
    have e6 : nI (m + 1) - (1 : Int32) = nI m := nI_pred m
    rw [e5, e6, hK, jz_upC]
    rfl
  have e9 : mu ++ [(jn_kid (a / 10), 0)] = jz_mu a mu := rfl
  rw [e9] at k126
  simp (disch := first | assumption | omega | exact jx_bz _ | exact jx_z0 | exact jx_z1 | (refine jx_ixB ?_ ?_; omega; omega) | (simp (disch := first | omega | fail) only [jx_lit, pk_mul, nI_add, nI_pred, pk_sub, jx_na, jx_add0, Nat.reduceMul, Nat.reduceAdd, Nat.reduceSub, Nat.reduceEqDiff, Nat.reduceLeDiff, Nat.reduceLT, ha, hb, hI, hm, e1, k126, k49]; refine jx_ixC ?_ ?_; omega; omega) | (simp (disch := first | omega | fail) only [jx_lit, pk_mul, nI_add, nI_pred, pk_sub, jx_na, jx_add0, Nat.reduceMul, Nat.reduceAdd, Nat.reduceSub, Nat.reduceEqDiff, Nat.reduceLeDiff, Nat.reduceLT, jx_cl, nI_leI, Nat.zero_le, true_and, ha, hb, hI, hm, e1, k126, k49]; omega) | fail) only [je_87, jb_87_0, jb_87_4, jb_87_10, jb_87_13, jb_87_17, jb_87_24, jb_87_27, jb_87_39, jb_87_42, jb_87_49, jx_nl, jx_nlr, jx_thenS, jx_tlS, jx_tlN, jm_ite_go, jx_rds, jx_rdn, jx_lit, pk_mul, nI_add, nI_pred, pk_sub, jx_na, jx_add0, Nat.reduceMul, Nat.reduceAdd, Nat.reduceSub, Nat.reduceEqDiff, Nat.reduceLeDiff, Nat.reduceLT, Nat.not_lt_zero, jx_cl, nI_leI, nI_ltI, nI_eq, jx_neg, jx_neg', jx_negE, jx_negL, jx_negG, jx_negLE, jx_negN, sb_nlt, sb_nle, jx_b0, jx_b1, jx_bT, jx_bF, ite_true, ite_false, if_true, if_false, reduceIte, Bool.false_eq_true, Bool.true_eq_false, eq_self, Nat.one_ne_zero, Nat.add_sub_cancel, not_true_eq_false, not_false_eq_true, ha, hb, hI, hm, e1, k126, k49]
theorem jz_upM {a b m : Nat} {I : Nat → Nat → Int32} : jm_up (jm_up (jm_up (jm_up (jm_up (jm_up (jm_up I 58 m (nI (a / 10))) 59 m (nI (a % 10))) 60 (4 * m) (nI (b / 100))) 60 (4 * m + 1) (nI (b % 100))) 60 (4 * m + 2) (-nI 1)) 60 (4 * m + 3) (nI 0)) 57 0 (nI (m + 1)) = jz_M a b m I := by
  funext x c
  unfold jz_M
  simp only [jx_rd]
theorem jf_174 {d a b m : Nat} {I : Nat → Nat → Int32} {rho : Nat → Option Nat} {mu : List (Nat × Nat)} (ha : a < 60) (hb : b < 800) (hI : I 57 0 = nI m) (hm : m < 6) : jm_ev (d + 2) 174 [.ref 57, .int (nI a), .int (nI b)] (jm_hp I rho mu) = some (some (.int (nI m)), jm_hp (jz_M a b m I) rho mu) := by
  have e1 : nI a / nI 10 = nI (a / 10) := pk_div (by omega) (by decide) (by decide)
  have e2 : nI a - nI a / nI 10 * nI 10 = nI (a % 10) := pk_rem (by omega) (by decide) (by decide)
  have e3 : nI b / nI 100 = nI (b / 100) := pk_div (by omega) (by decide) (by decide)
  have e4 : nI b - nI b / nI 100 * nI 100 = nI (b % 100) := pk_rem (by omega) (by decide) (by decide)
  have ka := @jf_143N d 59 I rho mu (nI a) (by decide)
  have kb := @jf_143N d 799 I rho mu (nI b) (by decide)
  rw [jx_in_nI (by omega) (by decide), decide_eq_true ha] at ka
  rw [jx_in_nI (by omega) (by decide), decide_eq_true hb] at kb
  have h6 : ¬ m = 6 := by omega
  have z1 : 4 * m < 24 := by omega
  have z2 : 4 * m + 1 < 24 := by omega
  have z3 : 4 * m + 2 < 24 := by omega
  have z4 : 4 * m + 3 < 24 := by omega
  rw [← jz_upM]
  have ea : a - a / 10 * 10 = a % 10 := by omega
  have eb : b - b / 100 * 100 = b % 100 := by omega
  simp (disch := first | assumption | omega | exact jx_bz _ | exact jx_z0 | exact jx_z1 | (refine jx_ixB ?_ ?_; omega; omega) | (simp (disch := first | omega | fail) only [jx_lit, pk_mul, nI_add, nI_pred, pk_sub, jx_na, jx_add0, Nat.reduceMul, Nat.reduceAdd, Nat.reduceSub, Nat.reduceEqDiff, Nat.reduceLeDiff, Nat.reduceLT, ka, kb, hI, h6, e1, e3, ea, eb]; refine jx_ixC ?_ ?_; omega; omega) | (simp (disch := first | omega | fail) only [jx_lit, pk_mul, nI_add, nI_pred, pk_sub, jx_na, jx_add0, Nat.reduceMul, Nat.reduceAdd, Nat.reduceSub, Nat.reduceEqDiff, Nat.reduceLeDiff, Nat.reduceLT, jx_cl, nI_leI, Nat.zero_le, true_and, ka, kb, hI, h6, e1, e3, ea, eb]; omega) | fail) only [je_174, jb_174_0, jb_174_7, jb_174_10, jb_174_18, jb_174_21, jb_174_24, jb_174_33, jb_174_36, jx_nl, jx_nlr, jx_thenS, jx_tlS, jx_tlN, jm_ite_go, jx_rds, jx_rdn, jx_lit, pk_mul, nI_add, nI_pred, pk_sub, jx_na, jx_add0, Nat.reduceMul, Nat.reduceAdd, Nat.reduceSub, Nat.reduceEqDiff, Nat.reduceLeDiff, Nat.reduceLT, Nat.not_lt_zero, jx_cl, nI_leI, nI_ltI, nI_eq, jx_neg, jx_neg', jx_negE, jx_negL, jx_negG, jx_negLE, jx_negN, sb_nlt, sb_nle, jx_b0, jx_b1, jx_bT, jx_bF, ite_true, ite_false, if_true, if_false, reduceIte, Bool.false_eq_true, Bool.true_eq_false, eq_self, Nat.one_ne_zero, Nat.add_sub_cancel, not_true_eq_false, not_false_eq_true, ka, kb, hI, h6, e1, e3, ea, eb]
/-- the two of them refuse, or take one in -/
theorem jx_per (x y : Int32) {m : Nat} (hm : m ≤ 6) : (∃ a b, a < 60 ∧ b < 800 ∧ m < 6 ∧ x = nI a ∧ y = nI b) ∨ (¬ (jx_in x 60 = true ∧ jx_in y 800 = true ∧ m < 6) ∧ ∃ r, 0 < r ∧ r < 100 ∧ (∀ d I rho mu, I 0 3 = nI m → jm_ev (d + 1) 87 [.ref 0, .int x, .int y] (jm_hp I rho mu) = some (some (.int (-nI r)), jm_hp I rho mu)) ∧ ∀ d I rho mu, I 57 0 = nI m → jm_ev (d + 2) 174 [.ref 57, .int x, .int y] (jm_hp I rho mu) = some (some (.int (-nI r)), jm_hp I rho mu)) := by
  rcases jx_rng x 59 (by decide) with ⟨hx, hx2, ka⟩ | ⟨a, ha, rfl, ka⟩
  · refine .inr ⟨(fun q => by rw [hx] at q; cases q.1), 2, by omega, by omega, fun d I rho mu h => ?_, fun d I rho mu h => ?_⟩
    · rcases hx2 with hx2 | ⟨hx2, hx3⟩
      · simp (disch := first | assumption | omega | exact jx_bz _ | exact jx_z0 | exact jx_z1 | (refine jx_ixB ?_ ?_; omega; omega) | (simp (disch := first | omega | fail) only [jx_lit, pk_mul, nI_add, nI_pred, pk_sub, jx_na, jx_add0, Nat.reduceMul, Nat.reduceAdd, Nat.reduceSub, Nat.reduceEqDiff, Nat.reduceLeDiff, Nat.reduceLT, hx2]; refine jx_ixC ?_ ?_; omega; omega) | (simp (disch := first | omega | fail) only [jx_lit, pk_mul, nI_add, nI_pred, pk_sub, jx_na, jx_add0, Nat.reduceMul, Nat.reduceAdd, Nat.reduceSub, Nat.reduceEqDiff, Nat.reduceLeDiff, Nat.reduceLT, jx_cl, nI_leI, Nat.zero_le, true_and, hx2]; omega) | fail) only [je_87, jb_87_0, jb_87_4, jb_87_10, jb_87_13, jb_87_17, jb_87_24, jb_87_27, jb_87_39, jb_87_42, jb_87_49, jx_nl, jx_nlr, jx_thenS, jx_tlS, jx_tlN, jm_ite_go, jx_rds, jx_rdn, jx_lit, pk_mul, nI_add, nI_pred, pk_sub, jx_na, jx_add0, Nat.reduceMul, Nat.reduceAdd, Nat.reduceSub, Nat.reduceEqDiff, Nat.reduceLeDiff, Nat.reduceLT, Nat.not_lt_zero, jx_cl, nI_leI, nI_ltI, nI_eq, jx_neg, jx_neg', jx_negE, jx_negL, jx_negG, jx_negLE, jx_negN, sb_nlt, sb_nle, jx_b0, jx_b1, jx_bT, jx_bF, ite_true, ite_false, if_true, if_false, reduceIte, Bool.false_eq_true, Bool.true_eq_false, eq_self, Nat.one_ne_zero, Nat.add_sub_cancel, not_true_eq_false, not_false_eq_true, hx2]
      · have hx4 : ¬ x < nI 60 := by replace hx3 : nI 60 ≤ x := hx3; rw [jx_lt]; rw [jx_le] at hx3; omega
        simp (disch := first | assumption | omega | exact jx_bz _ | exact jx_z0 | exact jx_z1 | (refine jx_ixB ?_ ?_; omega; omega) | (simp (disch := first | omega | fail) only [jx_lit, pk_mul, nI_add, nI_pred, pk_sub, jx_na, jx_add0, Nat.reduceMul, Nat.reduceAdd, Nat.reduceSub, Nat.reduceEqDiff, Nat.reduceLeDiff, Nat.reduceLT, hx2, hx4]; refine jx_ixC ?_ ?_; omega; omega) | (simp (disch := first | omega | fail) only [jx_lit, pk_mul, nI_add, nI_pred, pk_sub, jx_na, jx_add0, Nat.reduceMul, Nat.reduceAdd, Nat.reduceSub, Nat.reduceEqDiff, Nat.reduceLeDiff, Nat.reduceLT, jx_cl, nI_leI, Nat.zero_le, true_and, hx2, hx4]; omega) | fail) only [je_87, jb_87_0, jb_87_4, jb_87_10, jb_87_13, jb_87_17, jb_87_24, jb_87_27, jb_87_39, jb_87_42, jb_87_49, jx_nl, jx_nlr, jx_thenS, jx_tlS, jx_tlN, jm_ite_go, jx_rds, jx_rdn, jx_lit, pk_mul, nI_add, nI_pred, pk_sub, jx_na, jx_add0, Nat.reduceMul, Nat.reduceAdd, Nat.reduceSub, Nat.reduceEqDiff, Nat.reduceLeDiff, Nat.reduceLT, Nat.not_lt_zero, jx_cl, nI_leI, nI_ltI, nI_eq, jx_neg, jx_neg', jx_negE, jx_negL, jx_negG, jx_negLE, jx_negN, sb_nlt, sb_nle, jx_b0, jx_b1, jx_bT, jx_bF, ite_true, ite_false, if_true, if_false, reduceIte, Bool.false_eq_true, Bool.true_eq_false, eq_self, Nat.one_ne_zero, Nat.add_sub_cancel, not_true_eq_false, not_false_eq_true, hx2, hx4]
    · have ka := ka d I rho mu
      simp (disch := first | assumption | omega | exact jx_bz _ | exact jx_z0 | exact jx_z1 | (refine jx_ixB ?_ ?_; omega; omega) | (simp (disch := first | omega | fail) only [jx_lit, pk_mul, nI_add, nI_pred, pk_sub, jx_na, jx_add0, Nat.reduceMul, Nat.reduceAdd, Nat.reduceSub, Nat.reduceEqDiff, Nat.reduceLeDiff, Nat.reduceLT, ka]; refine jx_ixC ?_ ?_; omega; omega) | (simp (disch := first | omega | fail) only [jx_lit, pk_mul, nI_add, nI_pred, pk_sub, jx_na, jx_add0, Nat.reduceMul, Nat.reduceAdd, Nat.reduceSub, Nat.reduceEqDiff, Nat.reduceLeDiff, Nat.reduceLT, jx_cl, nI_leI, Nat.zero_le, true_and, ka]; omega) | fail) only [je_174, jb_174_0, jb_174_7, jb_174_10, jb_174_18, jb_174_21, jb_174_24, jb_174_33, jb_174_36, jx_nl, jx_nlr, jx_thenS, jx_tlS, jx_tlN, jm_ite_go, jx_rds, jx_rdn, jx_lit, pk_mul, nI_add, nI_pred, pk_sub, jx_na, jx_add0, Nat.reduceMul, Nat.reduceAdd, Nat.reduceSub, Nat.reduceEqDiff, Nat.reduceLeDiff, Nat.reduceLT, Nat.not_lt_zero, jx_cl, nI_leI, nI_ltI, nI_eq, jx_neg, jx_neg', jx_negE, jx_negL, jx_negG, jx_negLE, jx_negN, sb_nlt, sb_nle, jx_b0, jx_b1, jx_bT, jx_bF, ite_true, ite_false, if_true, if_false, reduceIte, Bool.false_eq_true, Bool.true_eq_false, eq_self, Nat.one_ne_zero, Nat.add_sub_cancel, not_true_eq_false, not_false_eq_true, ka]
  · rcases jx_rng y 799 (by decide) with ⟨hx, hx2, kb⟩ | ⟨b, hb, rfl, kb⟩
    · refine .inr ⟨(fun q => by rw [hx] at q; cases q.2.1), 2, by omega, by omega, fun d I rho mu h => ?_, fun d I rho mu h => ?_⟩
      · rcases hx2 with hx2 | ⟨hx2, hx3⟩
        · simp (disch := first | assumption | omega | exact jx_bz _ | exact jx_z0 | exact jx_z1 | (refine jx_ixB ?_ ?_; omega; omega) | (simp (disch := first | omega | fail) only [jx_lit, pk_mul, nI_add, nI_pred, pk_sub, jx_na, jx_add0, Nat.reduceMul, Nat.reduceAdd, Nat.reduceSub, Nat.reduceEqDiff, Nat.reduceLeDiff, Nat.reduceLT, ha, hx2]; refine jx_ixC ?_ ?_; omega; omega) | (simp (disch := first | omega | fail) only [jx_lit, pk_mul, nI_add, nI_pred, pk_sub, jx_na, jx_add0, Nat.reduceMul, Nat.reduceAdd, Nat.reduceSub, Nat.reduceEqDiff, Nat.reduceLeDiff, Nat.reduceLT, jx_cl, nI_leI, Nat.zero_le, true_and, ha, hx2]; omega) | fail) only [je_87, jb_87_0, jb_87_4, jb_87_10, jb_87_13, jb_87_17, jb_87_24, jb_87_27, jb_87_39, jb_87_42, jb_87_49, jx_nl, jx_nlr, jx_thenS, jx_tlS, jx_tlN, jm_ite_go, jx_rds, jx_rdn, jx_lit, pk_mul, nI_add, nI_pred, pk_sub, jx_na, jx_add0, Nat.reduceMul, Nat.reduceAdd, Nat.reduceSub, Nat.reduceEqDiff, Nat.reduceLeDiff, Nat.reduceLT, Nat.not_lt_zero, jx_cl, nI_leI, nI_ltI, nI_eq, jx_neg, jx_neg', jx_negE, jx_negL, jx_negG, jx_negLE, jx_negN, sb_nlt, sb_nle, jx_b0, jx_b1, jx_bT, jx_bF, ite_true, ite_false, if_true, if_false, reduceIte, Bool.false_eq_true, Bool.true_eq_false, eq_self, Nat.one_ne_zero, Nat.add_sub_cancel, not_true_eq_false, not_false_eq_true, ha, hx2]
        · have hx4 : ¬ y < nI 800 := by replace hx3 : nI 800 ≤ y := hx3; rw [jx_lt]; rw [jx_le] at hx3; omega
          simp (disch := first | assumption | omega | exact jx_bz _ | exact jx_z0 | exact jx_z1 | (refine jx_ixB ?_ ?_; omega; omega) | (simp (disch := first | omega | fail) only [jx_lit, pk_mul, nI_add, nI_pred, pk_sub, jx_na, jx_add0, Nat.reduceMul, Nat.reduceAdd, Nat.reduceSub, Nat.reduceEqDiff, Nat.reduceLeDiff, Nat.reduceLT, ha, hx2, hx4]; refine jx_ixC ?_ ?_; omega; omega) | (simp (disch := first | omega | fail) only [jx_lit, pk_mul, nI_add, nI_pred, pk_sub, jx_na, jx_add0, Nat.reduceMul, Nat.reduceAdd, Nat.reduceSub, Nat.reduceEqDiff, Nat.reduceLeDiff, Nat.reduceLT, jx_cl, nI_leI, Nat.zero_le, true_and, ha, hx2, hx4]; omega) | fail) only [je_87, jb_87_0, jb_87_4, jb_87_10, jb_87_13, jb_87_17, jb_87_24, jb_87_27, jb_87_39, jb_87_42, jb_87_49, jx_nl, jx_nlr, jx_thenS, jx_tlS, jx_tlN, jm_ite_go, jx_rds, jx_rdn, jx_lit, pk_mul, nI_add, nI_pred, pk_sub, jx_na, jx_add0, Nat.reduceMul, Nat.reduceAdd, Nat.reduceSub, Nat.reduceEqDiff, Nat.reduceLeDiff, Nat.reduceLT, Nat.not_lt_zero, jx_cl, nI_leI, nI_ltI, nI_eq, jx_neg, jx_neg', jx_negE, jx_negL, jx_negG, jx_negLE, jx_negN, sb_nlt, sb_nle, jx_b0, jx_b1, jx_bT, jx_bF, ite_true, ite_false, if_true, if_false, reduceIte, Bool.false_eq_true, Bool.true_eq_false, eq_self, Nat.one_ne_zero, Nat.add_sub_cancel, not_true_eq_false, not_false_eq_true, ha, hx2, hx4]
      · have ka := ka d I rho mu
        have kb := kb d I rho mu
        simp (disch := first | assumption | omega | exact jx_bz _ | exact jx_z0 | exact jx_z1 | (refine jx_ixB ?_ ?_; omega; omega) | (simp (disch := first | omega | fail) only [jx_lit, pk_mul, nI_add, nI_pred, pk_sub, jx_na, jx_add0, Nat.reduceMul, Nat.reduceAdd, Nat.reduceSub, Nat.reduceEqDiff, Nat.reduceLeDiff, Nat.reduceLT, ka, kb]; refine jx_ixC ?_ ?_; omega; omega) | (simp (disch := first | omega | fail) only [jx_lit, pk_mul, nI_add, nI_pred, pk_sub, jx_na, jx_add0, Nat.reduceMul, Nat.reduceAdd, Nat.reduceSub, Nat.reduceEqDiff, Nat.reduceLeDiff, Nat.reduceLT, jx_cl, nI_leI, Nat.zero_le, true_and, ka, kb]; omega) | fail) only [je_174, jb_174_0, jb_174_7, jb_174_10, jb_174_18, jb_174_21, jb_174_24, jb_174_33, jb_174_36, jx_nl, jx_nlr, jx_thenS, jx_tlS, jx_tlN, jm_ite_go, jx_rds, jx_rdn, jx_lit, pk_mul, nI_add, nI_pred, pk_sub, jx_na, jx_add0, Nat.reduceMul, Nat.reduceAdd, Nat.reduceSub, Nat.reduceEqDiff, Nat.reduceLeDiff, Nat.reduceLT, Nat.not_lt_zero, jx_cl, nI_leI, nI_ltI, nI_eq, jx_neg, jx_neg', jx_negE, jx_negL, jx_negG, jx_negLE, jx_negN, sb_nlt, sb_nle, jx_b0, jx_b1, jx_bT, jx_bF, ite_true, ite_false, if_true, if_false, reduceIte, Bool.false_eq_true, Bool.true_eq_false, eq_self, Nat.one_ne_zero, Nat.add_sub_cancel, not_true_eq_false, not_false_eq_true, ka, kb]
    · by_cases h6 : m < 6
      · exact .inl ⟨a, b, ha, hb, h6, rfl, rfl⟩
      · refine .inr ⟨fun q => h6 q.2.2, 4, by omega, by omega, fun d I rho mu h => ?_, fun d I rho mu h => ?_⟩
        · simp (disch := first | assumption | omega | exact jx_bz _ | exact jx_z0 | exact jx_z1 | (refine jx_ixB ?_ ?_; omega; omega) | (simp (disch := first | omega | fail) only [jx_lit, pk_mul, nI_add, nI_pred, pk_sub, jx_na, jx_add0, Nat.reduceMul, Nat.reduceAdd, Nat.reduceSub, Nat.reduceEqDiff, Nat.reduceLeDiff, Nat.reduceLT, ha, hb, h, h6]; refine jx_ixC ?_ ?_; omega; omega) | (simp (disch := first | omega | fail) only [jx_lit, pk_mul, nI_add, nI_pred, pk_sub, jx_na, jx_add0, Nat.reduceMul, Nat.reduceAdd, Nat.reduceSub, Nat.reduceEqDiff, Nat.reduceLeDiff, Nat.reduceLT, jx_cl, nI_leI, Nat.zero_le, true_and, ha, hb, h, h6]; omega) | fail) only [je_87, jb_87_0, jb_87_4, jb_87_10, jb_87_13, jb_87_17, jb_87_24, jb_87_27, jb_87_39, jb_87_42, jb_87_49, jx_nl, jx_nlr, jx_thenS, jx_tlS, jx_tlN, jm_ite_go, jx_rds, jx_rdn, jx_lit, pk_mul, nI_add, nI_pred, pk_sub, jx_na, jx_add0, Nat.reduceMul, Nat.reduceAdd, Nat.reduceSub, Nat.reduceEqDiff, Nat.reduceLeDiff, Nat.reduceLT, Nat.not_lt_zero, jx_cl, nI_leI, nI_ltI, nI_eq, jx_neg, jx_neg', jx_negE, jx_negL, jx_negG, jx_negLE, jx_negN, sb_nlt, sb_nle, jx_b0, jx_b1, jx_bT, jx_bF, ite_true, ite_false, if_true, if_false, reduceIte, Bool.false_eq_true, Bool.true_eq_false, eq_self, Nat.one_ne_zero, Nat.add_sub_cancel, not_true_eq_false, not_false_eq_true, ha, hb, h, h6]
        · have ka := ka d I rho mu
          have kb := kb d I rho mu
          have h7 : m = 6 := by omega
          simp (disch := first | assumption | omega | exact jx_bz _ | exact jx_z0 | exact jx_z1 | (refine jx_ixB ?_ ?_; omega; omega) | (simp (disch := first | omega | fail) only [jx_lit, pk_mul, nI_add, nI_pred, pk_sub, jx_na, jx_add0, Nat.reduceMul, Nat.reduceAdd, Nat.reduceSub, Nat.reduceEqDiff, Nat.reduceLeDiff, Nat.reduceLT, ka, kb, h, h7]; refine jx_ixC ?_ ?_; omega; omega) | (simp (disch := first | omega | fail) only [jx_lit, pk_mul, nI_add, nI_pred, pk_sub, jx_na, jx_add0, Nat.reduceMul, Nat.reduceAdd, Nat.reduceSub, Nat.reduceEqDiff, Nat.reduceLeDiff, Nat.reduceLT, jx_cl, nI_leI, Nat.zero_le, true_and, ka, kb, h, h7]; omega) | fail) only [je_174, jb_174_0, jb_174_7, jb_174_10, jb_174_18, jb_174_21, jb_174_24, jb_174_33, jb_174_36, jx_nl, jx_nlr, jx_thenS, jx_tlS, jx_tlN, jm_ite_go, jx_rds, jx_rdn, jx_lit, pk_mul, nI_add, nI_pred, pk_sub, jx_na, jx_add0, Nat.reduceMul, Nat.reduceAdd, Nat.reduceSub, Nat.reduceEqDiff, Nat.reduceLeDiff, Nat.reduceLT, Nat.not_lt_zero, jx_cl, nI_leI, nI_ltI, nI_eq, jx_neg, jx_neg', jx_negE, jx_negL, jx_negG, jx_negLE, jx_negN, sb_nlt, sb_nle, jx_b0, jx_b1, jx_bT, jx_bF, ite_true, ite_false, if_true, if_false, reduceIte, Bool.false_eq_true, Bool.true_eq_false, eq_self, Nat.one_ne_zero, Nat.add_sub_cancel, not_true_eq_false, not_false_eq_true, ka, kb, h, h7]
def jS_per (L m : Nat) : Nat → Nat → Bool := fun x c => decide (x = 0 ∧ c = 3 ∨ x = L + 80 ∨ x = 57 ∧ c = 0 ∨ x = 60 ∧ 4 * m ≤ c ∧ c < 4 * m + 4 ∨ (x = 58 ∨ x = 59) ∧ c = m)
theorem jS_perZ {L m x c : Nat} (h : ¬ (x = 0 ∧ c = 3 ∨ x = L + 80 ∨ x = 57 ∧ c = 0 ∨ x = 60 ∧ 4 * m ≤ c ∧ c < 4 * m + 4 ∨ (x = 58 ∨ x = 59) ∧ c = m)) : jS_per L m x c = false := decide_eq_false h
theorem jz_f_v {a b n : Nat} (hb : b < 800) : jPv n (jz_f a b) := ⟨⟨a % 10, by omega, rfl⟩, ⟨b / 100, by omega, rfl⟩, ⟨b % 100, by omega, rfl⟩, .inl rfl, ⟨0, Nat.two_pow_pos n, rfl⟩⟩
theorem jInv_per {a b : Nat} {H : Nat → Nat → Int32} {rho : Nat → Option Nat} {mu : List (Nat × Nat)} {w : jW} {m tc : Nat} {ad kd : Nat → Nat} {cds : Nat → Nat → List Nat} (hI : jInv H rho mu w m tc ad kd cds) (hmu : mu.length < 700006) (ha : a < 60) (hb : b < 800) (hm : m < 6) :
    jInv (jz_M a b m (jz_C a b m mu.length H)) (jz_rh m (mu.length + 80) rho) (jz_mu a mu) w (m + 1) tc (fun p => if p = m then mu.length + 80 else ad p) (fun p => if p = m then a / 10 else kd p) cds := by
  obtain ⟨i1, i2, i3, i4, i5, i6, i7, i8⟩ := hI
  obtain ⟨x1, x2, x3, x4, x5⟩ := id i2
  obtain ⟨K, hK⟩ : ∃ K, K = jz_M a b m (jz_C a b m mu.length H) := ⟨_, rfl⟩
  have g : jG (jS_per mu.length m) H K := fun x c zz => by
    have zz := of_decide_eq_false zz
    rw [hK, jz_M_o (by omega) (by omega) (by omega) (by omega), jz_C_o (by omega) (by omega)]
  have kA : K (mu.length + 80) = jz_f a b := funext fun c => by
    rw [hK, jz_M_o (by omega) (by omega) (by omega) (by omega)]
    unfold jz_C
    rw [if_neg (by omega), if_pos rfl]
  have k1 : ∀ p, p < m → K (ad p) = H (ad p) := fun p hp => by
    have := (x4 p hp).2.2.2.1
    have := (x4 p hp).2.2.1
    exact jG_o g fun c => jS_perZ (by omega)
  have mlen : (jz_mu a mu).length = mu.length + 1 := by unfold jz_mu; rw [List.length_append]; rfl
  rw [← hK]
  refine ⟨jR1_mo i1 g fun x c q => jS_perZ (by omega), ⟨?_, by omega, ?_, fun p hp => ?_, fun p q hp hq e => ?_⟩, jR3_mo i3 g fun x c q => jS_perZ (by omega), jR4_mo i4 g fun x c q => jS_perZ (by omega), jR5_mo i5 g fun x c q => jS_perZ (by omega), ?_, jR7_mo i7 g fun c => jS_perZ (by omega), fun q hq => ?_⟩
  · rw [hK, jz_M_o (by omega) (by omega) (by omega) (by omega)]
    unfold jz_C
    rw [if_pos ⟨rfl, rfl⟩]
  · rw [hK]
    unfold jz_M
    rw [if_pos ⟨rfl, rfl⟩]
  · by_cases zp : p = m
    · subst zp
      simp only [if_true]
      rw [kA]
      refine ⟨by unfold jz_rh; rw [if_pos rfl], ⟨by omega, jn_at mu _, by omega⟩, by omega, by omega, rfl, jz_f_v hb, ?_⟩
      unfold jQ
      rw [hK]
      unfold jz_M
      refine ⟨?_, ?_, ?_, ?_, ?_, ?_⟩
      · rw [if_neg (by omega), if_neg (by omega), if_neg (by omega), if_neg (by omega), if_neg (by omega), if_neg (by omega), if_pos ⟨rfl, rfl⟩]
      · rw [if_neg (by omega), if_neg (by omega), if_neg (by omega), if_neg (by omega), if_neg (by omega), if_pos ⟨rfl, rfl⟩]; rfl
      · rw [if_neg (by omega), if_neg (by omega), if_neg (by omega), if_neg (by omega), if_pos ⟨rfl, rfl⟩]; rfl
      · rw [if_neg (by omega), if_neg (by omega), if_neg (by omega), if_pos ⟨rfl, rfl⟩]; rfl
      · rw [if_neg (by omega), if_neg (by omega), if_pos ⟨rfl, rfl⟩]; rfl
      · rw [if_neg (by omega), if_pos ⟨rfl, rfl⟩]; rfl
    · have hp : p < m := by omega
      obtain ⟨z1, z2, z3, z4, z5, z6, z7⟩ := x4 p hp
      dsimp only
      rw [if_neg zp, if_neg zp, k1 p hp]
      refine ⟨by unfold jz_rh; rw [if_neg zp]; exact z1, ⟨z2.1, jm_hasK_ap z2.2.1, z2.2.2⟩, z3, by omega, z5, z6, ?_⟩
      obtain ⟨y1, y2, y3, y4, y5, y6⟩ := z7
      refine ⟨?_, ?_, ?_, ?_, ?_, ?_⟩
      · rw [g 58 p (jS_perZ (by omega))]; exact y1
      · rw [g 59 p (jS_perZ (by omega))]; exact y2
      · rw [g 60 _ (jS_perZ (by omega))]; exact y3
      · rw [g 60 _ (jS_perZ (by omega))]; exact y4
      · rw [g 60 _ (jS_perZ (by omega))]; exact y5
      · rw [g 60 _ (jS_perZ (by omega))]; exact y6
  · dsimp only at e
    by_cases zp : p = m
    · by_cases zq : q = m
      · rw [zp, zq]
      · rw [if_pos zp, if_neg zq] at e
        have := (x4 q (by omega)).2.2.2.1
        omega
    · by_cases zq : q = m
      · rw [if_neg zp, if_pos zq] at e
        have := (x4 p (by omega)).2.2.2.1
        omega
      · rw [if_neg zp, if_neg zq] at e
        exact x5 p q (by omega) (by omega) e
  · obtain ⟨r1, r2⟩ := jR6_m2 i6 g (fun x c q => jS_perZ (by omega)) x2 fun p hp => by rw [k1 p hp]
    refine ⟨r1, ?_⟩
    rcases r2 with r2 | ⟨r2, n, S2, y, l, q, b1, b2, b3, b4, b5, b6, b7, b8, b9, b10, b11, b12, b13, b14, b15, b16⟩
    · exact .inl r2
    · refine .inr ⟨r2, n, S2, y, l, q, b1, b2, b3, b4, by omega, b6, b7, b8, b9, b10, b11, b12, b13, b14, b15, fun p hp2 => ?_⟩
      dsimp only
      rw [if_neg (show ¬ p = m by omega)]
      exact b16 p hp2
  · unfold jz_mu at hq
    rcases List.mem_append.mp hq with h | h
    · exact i8 q h
    · rw [List.mem_singleton.mp h]; exact ⟨rfl, jn_kidL⟩
theorem jq_person (x y : Int32) : jCall 87 174 [.int x, .int y] := by
  intro d H rho mu hV hmu
  obtain ⟨w, m, tc, ad, kd, cds, hI⟩ := id hV
  obtain ⟨h1, h2, -⟩ := id hI
  rcases jx_per x y h2.2.1 with ⟨a, b, ha, hb, hm, rfl, rfl⟩ | ⟨-, r, hr0, hr, e1, e2⟩
  · have e1 := jf_87 (d := d + 55) (rho := rho) (mu := mu) ha hb h2.1 hm
    have e2 := jf_174 (d := d + 58) (I := jz_C a b m mu.length H) (rho := jz_rh m (mu.length + 80) rho) (mu := jz_mu a mu) ha hb (by rw [jz_C_o (by omega) (by omega)]; exact h2.2.2.1) hm
    refine ⟨_, _, _, _, _, e1, e2, ⟨w, m + 1, tc, _, _, cds, jInv_per hI (by omega) ha hb hm⟩, ?_, fun z hz => funext fun c => ?_⟩
    · unfold jz_mu; rw [List.length_append]; show mu.length + 1 ≤ _; omega
    · rw [jz_M_o (by omega) (by omega) (by omega) (by omega), jz_C_o (by omega) (by omega)]
  · exact jCall_no hV (e1 (d + 59) H rho mu h2.1) (e2 (d + 58) H rho mu h2.2.2.1)
