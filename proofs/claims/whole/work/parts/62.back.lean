/-! BACK -/
theorem jq_back : jCall 113 228 [] := by
  intro d H rho mu hV hmu
  obtain ⟨w, m, tc, ad, kd, cds, hI⟩ := id hV
  obtain ⟨h1, h2, h3, h4, h5, ⟨h6, h6'⟩, h7, h8⟩ := id hI
  have pm6 := h2.2.1
  have h80 : ∀ p, p < m → 80 ≤ ad p := fun p hp => (h2.2.2.2.1 p hp).2.2.1
  rcases h6' with h6' | ⟨h6', n, S, y, l, q, y1, y2, y3, y4, y5, c1, c2, c3, c4, c5, s0, s1, s2, s3, s6, s7⟩
  · have u15 : H 57 15 = nI 0 := by rw [← h6]; exact h6'
    exact jCall_no (v := .int (-nI 3)) hV (by simp (disch := first | assumption | omega | exact jx_bz _ | exact jx_z0 | exact jx_z1 | (refine jx_ixB ?_ ?_; omega; omega) | (simp (disch := first | omega | fail) only [jx_lit, pk_mul, nI_add, nI_pred, pk_sub, jx_na, jx_add0, Nat.reduceMul, Nat.reduceAdd, Nat.reduceSub, Nat.reduceEqDiff, Nat.reduceLeDiff, Nat.reduceLT, h6']; refine jx_ixC ?_ ?_; omega; omega) | (simp (disch := first | omega | fail) only [jx_lit, pk_mul, nI_add, nI_pred, pk_sub, jx_na, jx_add0, Nat.reduceMul, Nat.reduceAdd, Nat.reduceSub, Nat.reduceEqDiff, Nat.reduceLeDiff, Nat.reduceLT, jx_cl, nI_leI, Nat.zero_le, true_and, h6']; omega) | fail) only [je_113, jb_113_0, jb_113_10, jb_113_13, jb_113_90, jb_113_95, jb_113_95_1, jb_113_104, jb_113_104_1, jb_113_104_2, jb_113_104_3, jb_113_109, jb_113_109_1, jb_113_113_k0, jb_113_113_k1, jb_113_113_k10, jb_113_113_k2, jb_113_113_k4, jb_113_113_k6, jb_113_118, jb_113_124, jx_nl, jx_nlr, jx_thenS, jx_tlS, jx_tlN, jm_ite_go, jx_rds, jx_rdn, jx_lit, pk_mul, nI_add, nI_pred, pk_sub, jx_na, jx_add0, Nat.reduceMul, Nat.reduceAdd, Nat.reduceSub, Nat.reduceEqDiff, Nat.reduceLeDiff, Nat.reduceLT, Nat.not_lt_zero, jx_cl, nI_leI, nI_ltI, nI_eq, jx_neg, jx_neg', jx_negE, jx_negL, jx_negG, jx_negLE, jx_negN, sb_nlt, sb_nle, jx_b0, jx_b1, jx_bT, jx_bF, ite_true, ite_false, if_true, if_false, reduceIte, Bool.false_eq_true, Bool.true_eq_false, eq_self, Nat.one_ne_zero, Nat.add_sub_cancel, not_true_eq_false, not_false_eq_true, h6']) (by simp (disch := first | assumption | omega | exact jx_bz _ | exact jx_z0 | exact jx_z1 | (refine jx_ixB ?_ ?_; omega; omega) | (simp (disch := first | omega | fail) only [jx_lit, pk_mul, nI_add, nI_pred, pk_sub, jx_na, jx_add0, Nat.reduceMul, Nat.reduceAdd, Nat.reduceSub, Nat.reduceEqDiff, Nat.reduceLeDiff, Nat.reduceLT, u15]; refine jx_ixC ?_ ?_; omega; omega) | (simp (disch := first | omega | fail) only [jx_lit, pk_mul, nI_add, nI_pred, pk_sub, jx_na, jx_add0, Nat.reduceMul, Nat.reduceAdd, Nat.reduceSub, Nat.reduceEqDiff, Nat.reduceLeDiff, Nat.reduceLT, jx_cl, nI_leI, Nat.zero_le, true_and, u15]; omega) | fail) only [je_228, jb_228_0, jb_228_7, jb_228_10, jb_228_18, jb_228_36, jb_228_44, jb_228_95, jx_nl, jx_nlr, jx_thenS, jx_tlS, jx_tlN, jm_ite_go, jx_rds, jx_rdn, jx_lit, pk_mul, nI_add, nI_pred, pk_sub, jx_na, jx_add0, Nat.reduceMul, Nat.reduceAdd, Nat.reduceSub, Nat.reduceEqDiff, Nat.reduceLeDiff, Nat.reduceLT, Nat.not_lt_zero, jx_cl, nI_leI, nI_ltI, nI_eq, jx_neg, jx_neg', jx_negE, jx_negL, jx_negG, jx_negLE, jx_negN, sb_nlt, sb_nle, jx_b0, jx_b1, jx_bT, jx_bF, ite_true, ite_false, if_true, if_false, reduceIte, Bool.false_eq_true, Bool.true_eq_false, eq_self, Nat.one_ne_zero, Nat.add_sub_cancel, not_true_eq_false, not_false_eq_true, u15])
  · have u15 : H 57 15 = nI 1 := by rw [← h6]; exact h6'
    have tn12 := h1.1.1.2.1
    obtain ⟨H0, q0⟩ : ∃ H0, H0 = jm_up (jm_up (jm_up (jm_up (jm_up H 1 2 (nI n)) 1 3 (nI S)) 1 4 (nI y)) 1 7 (nI l)) 0 3 (nI q) := ⟨_, rfl⟩
    have o0 : ∀ a, ¬ a = 0 → ¬ a = 1 → H0 a = H a := fun a h g => by
      rw [q0]; funext c
      rw [jx_rdn (fun q => h q.1), jx_rdn (fun q => g q.1), jx_rdn (fun q => g q.1), jx_rdn (fun q => g q.1), jx_rdn (fun q => g q.1)]
    have H03 : H0 0 3 = nI q := by rw [q0, jx_rds]
    have e0 : jm_ev (d + 60) 113 [.ref 0] (jm_hp H rho mu) = jm_go (jm_ev (d + 59)) 113 (82, [some (.ref 0), some (.int (nI 0)), none, none], [], jm_hp H0 rho mu) := by
      rw [q0]; simp (disch := first | assumption | omega | exact jx_bz _ | exact jx_z0 | exact jx_z1 | (refine jx_ixB ?_ ?_; omega; omega) | (simp (disch := first | omega | fail) only [jx_lit, pk_mul, nI_add, nI_pred, pk_sub, jx_na, jx_add0, Nat.reduceMul, Nat.reduceAdd, Nat.reduceSub, Nat.reduceEqDiff, Nat.reduceLeDiff, Nat.reduceLT, h6', c1, c2, c3, c4, c5]; refine jx_ixC ?_ ?_; omega; omega) | (simp (disch := first | omega | fail) only [jx_lit, pk_mul, nI_add, nI_pred, pk_sub, jx_na, jx_add0, Nat.reduceMul, Nat.reduceAdd, Nat.reduceSub, Nat.reduceEqDiff, Nat.reduceLeDiff, Nat.reduceLT, jx_cl, nI_leI, Nat.zero_le, true_and, h6', c1, c2, c3, c4, c5]; omega) | fail) only [je_113, jb_113_0, jb_113_10, jb_113_13, jb_113_90, jb_113_95, jb_113_95_1, jb_113_104, jb_113_104_1, jb_113_104_2, jb_113_104_3, jb_113_109, jb_113_109_1, jb_113_113_k0, jb_113_113_k1, jb_113_113_k10, jb_113_113_k2, jb_113_113_k4, jb_113_113_k6, jb_113_118, jb_113_124, jx_nl, jx_nlr, jx_thenS, jx_tlS, jx_tlN, jm_ite_go, jx_rds, jx_rdn, jx_lit, pk_mul, nI_add, nI_pred, pk_sub, jx_na, jx_add0, Nat.reduceMul, Nat.reduceAdd, Nat.reduceSub, Nat.reduceEqDiff, Nat.reduceLeDiff, Nat.reduceLT, Nat.not_lt_zero, jx_cl, nI_leI, nI_ltI, nI_eq, jx_neg, jx_neg', jx_negE, jx_negL, jx_negG, jx_negLE, jx_negN, sb_nlt, sb_nle, jx_b0, jx_b1, jx_bT, jx_bF, ite_true, ite_false, if_true, if_false, reduceIte, Bool.false_eq_true, Bool.true_eq_false, eq_self, Nat.one_ne_zero, Nat.add_sub_cancel, not_true_eq_false, not_false_eq_true, h6', c1, c2, c3, c4, c5]
    obtain ⟨⟨J, l2, l3⟩, e1, gJ, rJ⟩ := jx_for (E := jm_ev (d + 59)) (y := 113) (σ := (Nat → Nat → Int32) × Option Value × Option Value) q (fun k s2 => (82, [some (.ref 0), some (.int (nI k)), s2.2.1, s2.2.2], [], jm_hp s2.1 rho mu)) (fun k s2 => (∀ a c, (∀ p, p < m → a = ad p → c = 0 ∨ 6 ≤ c ∨ k ≤ p) → s2.1 a c = H0 a c) ∧ ∀ p, p < k → ∀ j, 1 ≤ j → j < 6 → s2.1 (ad p) j = H (37 + p) j) (fun k s2 hk hg => by
      obtain ⟨J, l2, l3⟩ := s2
      dsimp only at hg ⊢
      obtain ⟨g1, g2⟩ := hg
      have lo : ∀ a, a < 80 → ∀ c, J a c = H0 a c := fun a h c => g1 a c fun p hp e => by have := h80 p hp; omega
      have hJ3 : J 0 3 = nI q := by rw [lo 0 (by omega)]; exact H03
      have hkm : k < m := by omega
      have zn : ¬ q ≤ k := by omega
      have h8k := h80 k hkm
      have k128 := jf_128 (d := d + 58) (I := J) (mu := mu) hJ3 (by omega) hk (h2.2.2.2.1 k hkm).1
      have k10 := @jf_10 (d + 58) k J rho mu (by omega)
      have hK := jx_keK (p := k) (mu := mu) (by omega)
      have hOk := (h2.2.2.2.1 k hkm).2.1
      have hO := jO_is hOk
      have k20 := jf_20 (d := d + 58) (I := J) (rho := rho) hO (jx_isOk hK rfl) (by omega)
      have jc : ∀ j, J (37 + k) j = H (37 + k) j := fun j => by rw [lo _ (by omega), o0 _ (by omega) (by omega)]
      refine ⟨(jm_up (jm_up (jm_up (jm_up (jm_up J (ad k) 1 (J (37 + k) 1)) (ad k) 2 (J (37 + k) 2)) (ad k) 3 (J (37 + k) 3)) (ad k) 4 (J (37 + k) 4)) (ad k) 5 (J (37 + k) 5), some (.ref (ad k)), some (.ref (37 + k))), ?_, fun a c h => ?_, fun p hp j hj1 hj6 => ?_⟩
      · rw [jb_113_82]
        obtain ⟨hk6, hKK, -⟩ := hOk
        rcases jm_lt6 hk6 with z | z | z | z | z | z <;> rw [z] at hKK
        · replace hKK : jm_hasK mu (ad k) 6 := hKK
          simp (disch := first | assumption | omega | exact jx_bz _ | exact jx_z0 | exact jx_z1 | (refine jx_ixB ?_ ?_; omega; omega) | (simp (disch := first | omega | fail) only [jx_lit, pk_mul, nI_add, nI_pred, pk_sub, jx_na, jx_add0, Nat.reduceMul, Nat.reduceAdd, Nat.reduceSub, Nat.reduceEqDiff, Nat.reduceLeDiff, Nat.reduceLT, hJ3, zn, k128, k10, k20]; refine jx_ixC ?_ ?_; omega; omega) | (simp (disch := first | omega | fail) only [jx_lit, pk_mul, nI_add, nI_pred, pk_sub, jx_na, jx_add0, Nat.reduceMul, Nat.reduceAdd, Nat.reduceSub, Nat.reduceEqDiff, Nat.reduceLeDiff, Nat.reduceLT, jx_cl, nI_leI, Nat.zero_le, true_and, hJ3, zn, k128, k10, k20]; omega) | fail) only [jb_113_0, jb_113_10, jb_113_13, jb_113_90, jb_113_95, jb_113_95_1, jb_113_104, jb_113_104_1, jb_113_104_2, jb_113_104_3, jb_113_109, jb_113_109_1, jb_113_113_k0, jb_113_113_k1, jb_113_113_k10, jb_113_113_k2, jb_113_113_k4, jb_113_113_k6, jb_113_118, jb_113_124, jx_nl, jx_nlr, jx_thenS, jx_tlS, jx_tlN, jm_ite_go, jx_rds, jx_rdn, jx_lit, pk_mul, nI_add, nI_pred, pk_sub, jx_na, jx_add0, Nat.reduceMul, Nat.reduceAdd, Nat.reduceSub, Nat.reduceEqDiff, Nat.reduceLeDiff, Nat.reduceLT, Nat.not_lt_zero, jx_cl, nI_leI, nI_ltI, nI_eq, jx_neg, jx_neg', jx_negE, jx_negL, jx_negG, jx_negLE, jx_negN, sb_nlt, sb_nle, jx_b0, jx_b1, jx_bT, jx_bF, ite_true, ite_false, if_true, if_false, reduceIte, Bool.false_eq_true, Bool.true_eq_false, eq_self, Nat.one_ne_zero, Nat.add_sub_cancel, not_true_eq_false, not_false_eq_true, hJ3, zn, k128, k10, k20]
        · replace hKK : jm_hasK mu (ad k) 1 := hKK
          simp (disch := first | assumption | omega | exact jx_bz _ | exact jx_z0 | exact jx_z1 | (refine jx_ixB ?_ ?_; omega; omega) | (simp (disch := first | omega | fail) only [jx_lit, pk_mul, nI_add, nI_pred, pk_sub, jx_na, jx_add0, Nat.reduceMul, Nat.reduceAdd, Nat.reduceSub, Nat.reduceEqDiff, Nat.reduceLeDiff, Nat.reduceLT, hJ3, zn, k128, k10, k20]; refine jx_ixC ?_ ?_; omega; omega) | (simp (disch := first | omega | fail) only [jx_lit, pk_mul, nI_add, nI_pred, pk_sub, jx_na, jx_add0, Nat.reduceMul, Nat.reduceAdd, Nat.reduceSub, Nat.reduceEqDiff, Nat.reduceLeDiff, Nat.reduceLT, jx_cl, nI_leI, Nat.zero_le, true_and, hJ3, zn, k128, k10, k20]; omega) | fail) only [jb_113_0, jb_113_10, jb_113_13, jb_113_90, jb_113_95, jb_113_95_1, jb_113_104, jb_113_104_1, jb_113_104_2, jb_113_104_3, jb_113_109, jb_113_109_1, jb_113_113_k0, jb_113_113_k1, jb_113_113_k10, jb_113_113_k2, jb_113_113_k4, jb_113_113_k6, jb_113_118, jb_113_124, jx_nl, jx_nlr, jx_thenS, jx_tlS, jx_tlN, jm_ite_go, jx_rds, jx_rdn, jx_lit, pk_mul, nI_add, nI_pred, pk_sub, jx_na, jx_add0, Nat.reduceMul, Nat.reduceAdd, Nat.reduceSub, Nat.reduceEqDiff, Nat.reduceLeDiff, Nat.reduceLT, Nat.not_lt_zero, jx_cl, nI_leI, nI_ltI, nI_eq, jx_neg, jx_neg', jx_negE, jx_negL, jx_negG, jx_negLE, jx_negN, sb_nlt, sb_nle, jx_b0, jx_b1, jx_bT, jx_bF, ite_true, ite_false, if_true, if_false, reduceIte, Bool.false_eq_true, Bool.true_eq_false, eq_self, Nat.one_ne_zero, Nat.add_sub_cancel, not_true_eq_false, not_false_eq_true, hJ3, zn, k128, k10, k20]
        · replace hKK : jm_hasK mu (ad k) 4 := hKK
          simp (disch := first | assumption | omega | exact jx_bz _ | exact jx_z0 | exact jx_z1 | (refine jx_ixB ?_ ?_; omega; omega) | (simp (disch := first | omega | fail) only [jx_lit, pk_mul, nI_add, nI_pred, pk_sub, jx_na, jx_add0, Nat.reduceMul, Nat.reduceAdd, Nat.reduceSub, Nat.reduceEqDiff, Nat.reduceLeDiff, Nat.reduceLT, hJ3, zn, k128, k10, k20]; refine jx_ixC ?_ ?_; omega; omega) | (simp (disch := first | omega | fail) only [jx_lit, pk_mul, nI_add, nI_pred, pk_sub, jx_na, jx_add0, Nat.reduceMul, Nat.reduceAdd, Nat.reduceSub, Nat.reduceEqDiff, Nat.reduceLeDiff, Nat.reduceLT, jx_cl, nI_leI, Nat.zero_le, true_and, hJ3, zn, k128, k10, k20]; omega) | fail) only [jb_113_0, jb_113_10, jb_113_13, jb_113_90, jb_113_95, jb_113_95_1, jb_113_104, jb_113_104_1, jb_113_104_2, jb_113_104_3, jb_113_109, jb_113_109_1, jb_113_113_k0, jb_113_113_k1, jb_113_113_k10, jb_113_113_k2, jb_113_113_k4, jb_113_113_k6, jb_113_118, jb_113_124, jx_nl, jx_nlr, jx_thenS, jx_tlS, jx_tlN, jm_ite_go, jx_rds, jx_rdn, jx_lit, pk_mul, nI_add, nI_pred, pk_sub, jx_na, jx_add0, Nat.reduceMul, Nat.reduceAdd, Nat.reduceSub, Nat.reduceEqDiff, Nat.reduceLeDiff, Nat.reduceLT, Nat.not_lt_zero, jx_cl, nI_leI, nI_ltI, nI_eq, jx_neg, jx_neg', jx_negE, jx_negL, jx_negG, jx_negLE, jx_negN, sb_nlt, sb_nle, jx_b0, jx_b1, jx_bT, jx_bF, ite_true, ite_false, if_true, if_false, reduceIte, Bool.false_eq_true, Bool.true_eq_false, eq_self, Nat.one_ne_zero, Nat.add_sub_cancel, not_true_eq_false, not_false_eq_true, hJ3, zn, k128, k10, k20]
        · replace hKK : jm_hasK mu (ad k) 0 := hKK
          simp (disch := first | assumption | omega | exact jx_bz _ | exact jx_z0 | exact jx_z1 | (refine jx_ixB ?_ ?_; omega; omega) | (simp (disch := first | omega | fail) only [jx_lit, pk_mul, nI_add, nI_pred, pk_sub, jx_na, jx_add0, Nat.reduceMul, Nat.reduceAdd, Nat.reduceSub, Nat.reduceEqDiff, Nat.reduceLeDiff, Nat.reduceLT, hJ3, zn, k128, k10, k20]; refine jx_ixC ?_ ?_; omega; omega) | (simp (disch := first | omega | fail) only [jx_lit, pk_mul, nI_add, nI_pred, pk_sub, jx_na, jx_add0, Nat.reduceMul, Nat.reduceAdd, Nat.reduceSub, Nat.reduceEqDiff, Nat.reduceLeDiff, Nat.reduceLT, jx_cl, nI_leI, Nat.zero_le, true_and, hJ3, zn, k128, k10, k20]; omega) | fail) only [jb_113_0, jb_113_10, jb_113_13, jb_113_90, jb_113_95, jb_113_95_1, jb_113_104, jb_113_104_1, jb_113_104_2, jb_113_104_3, jb_113_109, jb_113_109_1, jb_113_113_k0, jb_113_113_k1, jb_113_113_k10, jb_113_113_k2, jb_113_113_k4, jb_113_113_k6, jb_113_118, jb_113_124, jx_nl, jx_nlr, jx_thenS, jx_tlS, jx_tlN, jm_ite_go, jx_rds, jx_rdn, jx_lit, pk_mul, nI_add, nI_pred, pk_sub, jx_na, jx_add0, Nat.reduceMul, Nat.reduceAdd, Nat.reduceSub, Nat.reduceEqDiff, Nat.reduceLeDiff, Nat.reduceLT, Nat.not_lt_zero, jx_cl, nI_leI, nI_ltI, nI_eq, jx_neg, jx_neg', jx_negE, jx_negL, jx_negG, jx_negLE, jx_negN, sb_nlt, sb_nle, jx_b0, jx_b1, jx_bT, jx_bF, ite_true, ite_false, if_true, if_false, reduceIte, Bool.false_eq_true, Bool.true_eq_false, eq_self, Nat.one_ne_zero, Nat.add_sub_cancel, not_true_eq_false, not_false_eq_true, hJ3, zn, k128, k10, k20]
        · replace hKK : jm_hasK mu (ad k) 10 := hKK
          simp (disch := first | assumption | omega | exact jx_bz _ | exact jx_z0 | exact jx_z1 | (refine jx_ixB ?_ ?_; omega; omega) | (simp (disch := first | omega | fail) only [jx_lit, pk_mul, nI_add, nI_pred, pk_sub, jx_na, jx_add0, Nat.reduceMul, Nat.reduceAdd, Nat.reduceSub, Nat.reduceEqDiff, Nat.reduceLeDiff, Nat.reduceLT, hJ3, zn, k128, k10, k20]; refine jx_ixC ?_ ?_; omega; omega) | (simp (disch := first | omega | fail) only [jx_lit, pk_mul, nI_add, nI_pred, pk_sub, jx_na, jx_add0, Nat.reduceMul, Nat.reduceAdd, Nat.reduceSub, Nat.reduceEqDiff, Nat.reduceLeDiff, Nat.reduceLT, jx_cl, nI_leI, Nat.zero_le, true_and, hJ3, zn, k128, k10, k20]; omega) | fail) only [jb_113_0, jb_113_10, jb_113_13, jb_113_90, jb_113_95, jb_113_95_1, jb_113_104, jb_113_104_1, jb_113_104_2, jb_113_104_3, jb_113_109, jb_113_109_1, jb_113_113_k0, jb_113_113_k1, jb_113_113_k10, jb_113_113_k2, jb_113_113_k4, jb_113_113_k6, jb_113_118, jb_113_124, jx_nl, jx_nlr, jx_thenS, jx_tlS, jx_tlN, jm_ite_go, jx_rds, jx_rdn, jx_lit, pk_mul, nI_add, nI_pred, pk_sub, jx_na, jx_add0, Nat.reduceMul, Nat.reduceAdd, Nat.reduceSub, Nat.reduceEqDiff, Nat.reduceLeDiff, Nat.reduceLT, Nat.not_lt_zero, jx_cl, nI_leI, nI_ltI, nI_eq, jx_neg, jx_neg', jx_negE, jx_negL, jx_negG, jx_negLE, jx_negN, sb_nlt, sb_nle, jx_b0, jx_b1, jx_bT, jx_bF, ite_true, ite_false, if_true, if_false, reduceIte, Bool.false_eq_true, Bool.true_eq_false, eq_self, Nat.one_ne_zero, Nat.add_sub_cancel, not_true_eq_false, not_false_eq_true, hJ3, zn, k128, k10, k20]
        · replace hKK : jm_hasK mu (ad k) 2 := hKK
          simp (disch := first | assumption | omega | exact jx_bz _ | exact jx_z0 | exact jx_z1 | (refine jx_ixB ?_ ?_; omega; omega) | (simp (disch := first | omega | fail) only [jx_lit, pk_mul, nI_add, nI_pred, pk_sub, jx_na, jx_add0, Nat.reduceMul, Nat.reduceAdd, Nat.reduceSub, Nat.reduceEqDiff, Nat.reduceLeDiff, Nat.reduceLT, hJ3, zn, k128, k10, k20]; refine jx_ixC ?_ ?_; omega; omega) | (simp (disch := first | omega | fail) only [jx_lit, pk_mul, nI_add, nI_pred, pk_sub, jx_na, jx_add0, Nat.reduceMul, Nat.reduceAdd, Nat.reduceSub, Nat.reduceEqDiff, Nat.reduceLeDiff, Nat.reduceLT, jx_cl, nI_leI, Nat.zero_le, true_and, hJ3, zn, k128, k10, k20]; omega) | fail) only [jb_113_0, jb_113_10, jb_113_13, jb_113_90, jb_113_95, jb_113_95_1, jb_113_104, jb_113_104_1, jb_113_104_2, jb_113_104_3, jb_113_109, jb_113_109_1, jb_113_113_k0, jb_113_113_k1, jb_113_113_k10, jb_113_113_k2, jb_113_113_k4, jb_113_113_k6, jb_113_118, jb_113_124, jx_nl, jx_nlr, jx_thenS, jx_tlS, jx_tlN, jm_ite_go, jx_rds, jx_rdn, jx_lit, pk_mul, nI_add, nI_pred, pk_sub, jx_na, jx_add0, Nat.reduceMul, Nat.reduceAdd, Nat.reduceSub, Nat.reduceEqDiff, Nat.reduceLeDiff, Nat.reduceLT, Nat.not_lt_zero, jx_cl, nI_leI, nI_ltI, nI_eq, jx_neg, jx_neg', jx_negE, jx_negL, jx_negG, jx_negLE, jx_negN, sb_nlt, sb_nle, jx_b0, jx_b1, jx_bT, jx_bF, ite_true, ite_false, if_true, if_false, reduceIte, Bool.false_eq_true, Bool.true_eq_false, eq_self, Nat.one_ne_zero, Nat.add_sub_cancel, not_true_eq_false, not_false_eq_true, hJ3, zn, k128, k10, k20]
      · have hn : a = ad k → c = 0 ∨ 6 ≤ c := fun e => by
          rcases h k hkm e with z | z | z
          · exact .inl z
          · exact .inr z
          · omega
        rw [← g1 a c fun p hp e => by
          rcases h p hp e with z | z | z
          · exact .inl z
          · exact .inr (.inl z)
          · exact .inr (.inr (by omega))]
        have hn2 : ∀ j, 1 ≤ j → j < 6 → ¬ (a = ad k ∧ c = j) := fun j z1 z2 z3 => by
          rcases hn z3.1 with z | z <;> omega
        dsimp only
        rw [jx_rdn (hn2 5 (by omega) (by omega)), jx_rdn (hn2 4 (by omega) (by omega)), jx_rdn (hn2 3 (by omega) (by omega)), jx_rdn (hn2 2 (by omega) (by omega)), jx_rdn (hn2 1 (by omega) (by omega))]
      · by_cases zp : p = k
        · subst zp
          dsimp only
          rw [jc 1, jc 2, jc 3, jc 4, jc 5]
          rcases (show j = 1 ∨ j = 2 ∨ j = 3 ∨ j = 4 ∨ j = 5 by omega) with z | z | z | z | z <;> subst z <;> simp [jx_rd]
        · have hb := g2 p (by omega) j hj1 hj6
          have hne : ¬ ad p = ad k := fun e => zp (h2.2.2.2.2 p k (by omega) hkm e)
          dsimp only at hb ⊢
          rw [jx_rdn (fun q => hne q.1), jx_rdn (fun q => hne q.1), jx_rdn (fun q => hne q.1), jx_rdn (fun q => hne q.1), jx_rdn (fun q => hne q.1)]; exact hb) q 0 (H0, none, none) (Nat.zero_add _) ⟨fun a c _ => rfl, fun p hp => absurd hp (Nat.not_lt_zero _)⟩
    dsimp only at e1 gJ rJ
    have lo : ∀ a, a < 80 → ∀ c, J a c = H0 a c := fun a h c => gJ a c fun p hp e => by have := h80 p hp; omega
    have hJ3 : J 0 3 = nI q := by rw [lo 0 (by omega)]; exact H03
    have hc : jm_ev (d + 60) 113 [.ref 0] (jm_hp H rho mu) = some (some (.int (nI q)), jm_hp J rho mu) := by
      rw [e0, e1, jb_113_82]
      simp (disch := first | assumption | omega | exact jx_bz _ | exact jx_z0 | exact jx_z1 | (refine jx_ixB ?_ ?_; omega; omega) | (simp (disch := first | omega | fail) only [jx_lit, pk_mul, nI_add, nI_pred, pk_sub, jx_na, jx_add0, Nat.reduceMul, Nat.reduceAdd, Nat.reduceSub, Nat.reduceEqDiff, Nat.reduceLeDiff, Nat.reduceLT, hJ3, Nat.le_refl]; refine jx_ixC ?_ ?_; omega; omega) | (simp (disch := first | omega | fail) only [jx_lit, pk_mul, nI_add, nI_pred, pk_sub, jx_na, jx_add0, Nat.reduceMul, Nat.reduceAdd, Nat.reduceSub, Nat.reduceEqDiff, Nat.reduceLeDiff, Nat.reduceLT, jx_cl, nI_leI, Nat.zero_le, true_and, hJ3, Nat.le_refl]; omega) | fail) only [jb_113_0, jb_113_10, jb_113_13, jb_113_90, jb_113_95, jb_113_95_1, jb_113_104, jb_113_104_1, jb_113_104_2, jb_113_104_3, jb_113_109, jb_113_109_1, jb_113_113_k0, jb_113_113_k1, jb_113_113_k10, jb_113_113_k2, jb_113_113_k4, jb_113_113_k6, jb_113_118, jb_113_124, jx_nl, jx_nlr, jx_thenS, jx_tlS, jx_tlN, jm_ite_go, jx_rds, jx_rdn, jx_lit, pk_mul, nI_add, nI_pred, pk_sub, jx_na, jx_add0, Nat.reduceMul, Nat.reduceAdd, Nat.reduceSub, Nat.reduceEqDiff, Nat.reduceLeDiff, Nat.reduceLT, Nat.not_lt_zero, jx_cl, nI_leI, nI_ltI, nI_eq, jx_neg, jx_neg', jx_negE, jx_negL, jx_negG, jx_negLE, jx_negN, sb_nlt, sb_nle, jx_b0, jx_b1, jx_bT, jx_bF, ite_true, ite_false, if_true, if_false, reduceIte, Bool.false_eq_true, Bool.true_eq_false, eq_self, Nat.one_ne_zero, Nat.add_sub_cancel, not_true_eq_false, not_false_eq_true, hJ3, Nat.le_refl]
    have lo2 : ∀ a, 2 ≤ a → a < 80 → ∀ c, J a c = H a c := fun a h h' c => by rw [lo a h', o0 a (by omega) (by omega)]
    have far : ∀ a, 900000 ≤ a → J a = H a := fun a ha => funext fun c => by
      rw [gJ a c fun p hp e => by have := (h2.2.2.2.1 p hp).2.2.2.1; omega, o0 a (by omega) (by omega)]
    have j15 : J 57 15 = nI 1 := by rw [lo2 57 (by omega) (by omega)]; exact u15
    have f0 : jm_ev (d + 60) 228 [.ref 57] (jm_hp J rho mu) = jm_go (jm_ev (d + 59)) 228 (12, [some (.ref 57), some (.int (nI 0))], [], jm_hp J rho mu) := by
      simp (disch := first | assumption | omega | exact jx_bz _ | exact jx_z0 | exact jx_z1 | (refine jx_ixB ?_ ?_; omega; omega) | (simp (disch := first | omega | fail) only [jx_lit, pk_mul, nI_add, nI_pred, pk_sub, jx_na, jx_add0, Nat.reduceMul, Nat.reduceAdd, Nat.reduceSub, Nat.reduceEqDiff, Nat.reduceLeDiff, Nat.reduceLT, j15]; refine jx_ixC ?_ ?_; omega; omega) | (simp (disch := first | omega | fail) only [jx_lit, pk_mul, nI_add, nI_pred, pk_sub, jx_na, jx_add0, Nat.reduceMul, Nat.reduceAdd, Nat.reduceSub, Nat.reduceEqDiff, Nat.reduceLeDiff, Nat.reduceLT, jx_cl, nI_leI, Nat.zero_le, true_and, j15]; omega) | fail) only [je_228, jb_228_0, jb_228_7, jb_228_10, jb_228_18, jb_228_36, jb_228_44, jb_228_95, jx_nl, jx_nlr, jx_thenS, jx_tlS, jx_tlN, jm_ite_go, jx_rds, jx_rdn, jx_lit, pk_mul, nI_add, nI_pred, pk_sub, jx_na, jx_add0, Nat.reduceMul, Nat.reduceAdd, Nat.reduceSub, Nat.reduceEqDiff, Nat.reduceLeDiff, Nat.reduceLT, Nat.not_lt_zero, jx_cl, nI_leI, nI_ltI, nI_eq, jx_neg, jx_neg', jx_negE, jx_negL, jx_negG, jx_negLE, jx_negN, sb_nlt, sb_nle, jx_b0, jx_b1, jx_bT, jx_bF, ite_true, ite_false, if_true, if_false, reduceIte, Bool.false_eq_true, Bool.true_eq_false, eq_self, Nat.one_ne_zero, Nat.add_sub_cancel, not_true_eq_false, not_false_eq_true, j15]
    obtain ⟨M1, f1, a1, a2⟩ := jx_for (E := jm_ev (d + 59)) (y := 228) 24 (fun k K => (12, [some (.ref 57), some (.int (nI k))], [], jm_hp K rho mu)) (fun k K => (∀ a, ¬ a = 60 → K a = J a) ∧ ∀ j, j < k → K 60 j = H 67 j) (fun k K hk hg => by
      obtain ⟨g1, g2⟩ := hg
      have zn : ¬ 24 ≤ k := by omega
      have K67 : K 67 k = H 67 k := by rw [g1 67 (by omega), lo2 67 (by omega) (by omega)]
      have z60 : k < 60 := by omega
      refine ⟨jm_up K 60 k (H 67 k), ?_, fun a h => ?_, fun j hj => ?_⟩
      · rw [jb_228_12]
        simp (disch := first | assumption | omega | exact jx_bz _ | exact jx_z0 | exact jx_z1 | (refine jx_ixB ?_ ?_; omega; omega) | (simp (disch := first | omega | fail) only [jx_lit, pk_mul, nI_add, nI_pred, pk_sub, jx_na, jx_add0, Nat.reduceMul, Nat.reduceAdd, Nat.reduceSub, Nat.reduceEqDiff, Nat.reduceLeDiff, Nat.reduceLT, zn, K67]; refine jx_ixC ?_ ?_; omega; omega) | (simp (disch := first | omega | fail) only [jx_lit, pk_mul, nI_add, nI_pred, pk_sub, jx_na, jx_add0, Nat.reduceMul, Nat.reduceAdd, Nat.reduceSub, Nat.reduceEqDiff, Nat.reduceLeDiff, Nat.reduceLT, jx_cl, nI_leI, Nat.zero_le, true_and, zn, K67]; omega) | fail) only [jb_228_0, jb_228_7, jb_228_10, jb_228_18, jb_228_36, jb_228_44, jb_228_95, jx_nl, jx_nlr, jx_thenS, jx_tlS, jx_tlN, jm_ite_go, jx_rds, jx_rdn, jx_lit, pk_mul, nI_add, nI_pred, pk_sub, jx_na, jx_add0, Nat.reduceMul, Nat.reduceAdd, Nat.reduceSub, Nat.reduceEqDiff, Nat.reduceLeDiff, Nat.reduceLT, Nat.not_lt_zero, jx_cl, nI_leI, nI_ltI, nI_eq, jx_neg, jx_neg', jx_negE, jx_negL, jx_negG, jx_negLE, jx_negN, sb_nlt, sb_nle, jx_b0, jx_b1, jx_bT, jx_bF, ite_true, ite_false, if_true, if_false, reduceIte, Bool.false_eq_true, Bool.true_eq_false, eq_self, Nat.one_ne_zero, Nat.add_sub_cancel, not_true_eq_false, not_false_eq_true, zn, K67]
      · rw [← g1 a h]; exact funext fun c => jx_rdn fun q => h q.1
      · by_cases zj : j = k
        · subst zj; rw [jx_rds]
        · rw [jx_rdn fun q => zj q.2]; exact g2 j (by omega)) 24 0 J (Nat.zero_add _) ⟨fun a _ => rfl, fun j hj => absurd hj (Nat.not_lt_zero _)⟩
    have f2 : jm_go (jm_ev (d + 59)) 228 (12, [some (.ref 57), some (.int (nI 24))], [], jm_hp M1 rho mu) = jm_go (jm_ev (d + 59)) 228 (38, [some (.ref 57), some (.int (nI 0))], [], jm_hp M1 rho mu) := by
      rw [jb_228_12]
      simp (disch := first | assumption | omega | exact jx_bz _ | exact jx_z0 | exact jx_z1 | (refine jx_ixB ?_ ?_; omega; omega) | (simp (disch := first | omega | fail) only [jx_lit, pk_mul, nI_add, nI_pred, pk_sub, jx_na, jx_add0, Nat.reduceMul, Nat.reduceAdd, Nat.reduceSub, Nat.reduceEqDiff, Nat.reduceLeDiff, Nat.reduceLT, Nat.le_refl]; refine jx_ixC ?_ ?_; omega; omega) | (simp (disch := first | omega | fail) only [jx_lit, pk_mul, nI_add, nI_pred, pk_sub, jx_na, jx_add0, Nat.reduceMul, Nat.reduceAdd, Nat.reduceSub, Nat.reduceEqDiff, Nat.reduceLeDiff, Nat.reduceLT, jx_cl, nI_leI, Nat.zero_le, true_and, Nat.le_refl]; omega) | fail) only [jb_228_0, jb_228_7, jb_228_10, jb_228_18, jb_228_36, jb_228_44, jb_228_95, jx_nl, jx_nlr, jx_thenS, jx_tlS, jx_tlN, jm_ite_go, jx_rds, jx_rdn, jx_lit, pk_mul, nI_add, nI_pred, pk_sub, jx_na, jx_add0, Nat.reduceMul, Nat.reduceAdd, Nat.reduceSub, Nat.reduceEqDiff, Nat.reduceLeDiff, Nat.reduceLT, Nat.not_lt_zero, jx_cl, nI_leI, nI_ltI, nI_eq, jx_neg, jx_neg', jx_negE, jx_negL, jx_negG, jx_negLE, jx_negN, sb_nlt, sb_nle, jx_b0, jx_b1, jx_bT, jx_bF, ite_true, ite_false, if_true, if_false, reduceIte, Bool.false_eq_true, Bool.true_eq_false, eq_self, Nat.one_ne_zero, Nat.add_sub_cancel, not_true_eq_false, not_false_eq_true, Nat.le_refl]
    obtain ⟨M2, f3, b1, b3⟩ := jx_for (E := jm_ev (d + 59)) (y := 228) 12 (fun k K => (38, [some (.ref 57), some (.int (nI k))], [], jm_hp K rho mu)) (fun k K => (∀ a, ¬ (61 ≤ a ∧ a < 64) → K a = M1 a) ∧ ∀ j, j < k → K 61 j = H 67 (24 + j) ∧ K 62 j = H 67 (36 + j) ∧ K 63 j = H 67 (48 + j)) (fun k K hk hg => by
      obtain ⟨g1, g3⟩ := hg
      have zn : ¬ 12 ≤ k := by omega
      have kr : ∀ c, K 67 c = H 67 c := fun c => by rw [g1 67 (by omega), a1 67 (by omega), lo2 67 (by omega) (by omega)]
      have K61 := kr (24 + k)
      have K62 := kr (36 + k)
      have K63 := kr (48 + k)
      have z1 : 24 + k < 60 := by omega
      have z2 : 36 + k < 60 := by omega
      have z3 : 48 + k < 60 := by omega
      refine ⟨jm_up (jm_up (jm_up K 61 k (H 67 (24 + k))) 62 k (H 67 (36 + k))) 63 k (H 67 (48 + k)), ?_, fun a h => ?_, fun j hj => ?_⟩
      · rw [jb_228_38]
        simp (disch := first | assumption | omega | exact jx_bz _ | exact jx_z0 | exact jx_z1 | (refine jx_ixB ?_ ?_; omega; omega) | (simp (disch := first | omega | fail) only [jx_lit, pk_mul, nI_add, nI_pred, pk_sub, jx_na, jx_add0, Nat.reduceMul, Nat.reduceAdd, Nat.reduceSub, Nat.reduceEqDiff, Nat.reduceLeDiff, Nat.reduceLT, zn, K61, K62, K63]; refine jx_ixC ?_ ?_; omega; omega) | (simp (disch := first | omega | fail) only [jx_lit, pk_mul, nI_add, nI_pred, pk_sub, jx_na, jx_add0, Nat.reduceMul, Nat.reduceAdd, Nat.reduceSub, Nat.reduceEqDiff, Nat.reduceLeDiff, Nat.reduceLT, jx_cl, nI_leI, Nat.zero_le, true_and, zn, K61, K62, K63]; omega) | fail) only [jb_228_0, jb_228_7, jb_228_10, jb_228_18, jb_228_36, jb_228_44, jb_228_95, jx_nl, jx_nlr, jx_thenS, jx_tlS, jx_tlN, jm_ite_go, jx_rds, jx_rdn, jx_lit, pk_mul, nI_add, nI_pred, pk_sub, jx_na, jx_add0, Nat.reduceMul, Nat.reduceAdd, Nat.reduceSub, Nat.reduceEqDiff, Nat.reduceLeDiff, Nat.reduceLT, Nat.not_lt_zero, jx_cl, nI_leI, nI_ltI, nI_eq, jx_neg, jx_neg', jx_negE, jx_negL, jx_negG, jx_negLE, jx_negN, sb_nlt, sb_nle, jx_b0, jx_b1, jx_bT, jx_bF, ite_true, ite_false, if_true, if_false, reduceIte, Bool.false_eq_true, Bool.true_eq_false, eq_self, Nat.one_ne_zero, Nat.add_sub_cancel, not_true_eq_false, not_false_eq_true, zn, K61, K62, K63]
      · rw [← g1 a h]; exact funext fun c => by rw [jx_rdn (by omega), jx_rdn (by omega), jx_rdn (by omega)]
      · by_cases zj : j = k
        · subst zj
          refine ⟨?_, ?_, ?_⟩
          · rw [jx_rdn (by omega), jx_rdn (by omega), jx_rds]
          · rw [jx_rdn (by omega), jx_rds]
          · rw [jx_rds]
        · obtain ⟨z4, z5, z6⟩ := g3 j (by omega)
          refine ⟨?_, ?_, ?_⟩
          · rw [jx_rdn (by omega), jx_rdn (by omega), jx_rdn (by omega)]; exact z4
          · rw [jx_rdn (by omega), jx_rdn (by omega), jx_rdn (by omega)]; exact z5
          · rw [jx_rdn (by omega), jx_rdn (by omega), jx_rdn (by omega)]; exact z6) 12 0 M1 (Nat.zero_add _) ⟨fun a _ => rfl, fun j hj => absurd hj (Nat.not_lt_zero _)⟩
    have k68 : ∀ c, M2 68 c = H 68 c := fun c => by rw [b1 68 (by omega), a1 68 (by omega), lo2 68 (by omega) (by omega)]
    have v0 : M2 68 0 = nI q := (k68 0).trans s0
    have v1 : M2 68 1 = nI n := (k68 1).trans s1
    have v2 : M2 68 2 = nI y := (k68 2).trans s2
    have v3 : M2 68 3 = nI l := (k68 3).trans s3
    obtain ⟨M, hM⟩ : ∃ M, M = jm_up (jm_up (jm_up (jm_up M2 57 0 (nI q)) 57 7 (nI n)) 57 8 (nI y)) 57 14 (nI l) := ⟨_, rfl⟩
    have hm : jm_ev (d + 60) 228 [.ref 57] (jm_hp J rho mu) = some (some (.int (nI q)), jm_hp M rho mu) := by
      rw [f0, f1, f2, f3, jb_228_38, hM]
      simp (disch := first | assumption | omega | exact jx_bz _ | exact jx_z0 | exact jx_z1 | (refine jx_ixB ?_ ?_; omega; omega) | (simp (disch := first | omega | fail) only [jx_lit, pk_mul, nI_add, nI_pred, pk_sub, jx_na, jx_add0, Nat.reduceMul, Nat.reduceAdd, Nat.reduceSub, Nat.reduceEqDiff, Nat.reduceLeDiff, Nat.reduceLT, Nat.le_refl, v0, v1, v2, v3]; refine jx_ixC ?_ ?_; omega; omega) | (simp (disch := first | omega | fail) only [jx_lit, pk_mul, nI_add, nI_pred, pk_sub, jx_na, jx_add0, Nat.reduceMul, Nat.reduceAdd, Nat.reduceSub, Nat.reduceEqDiff, Nat.reduceLeDiff, Nat.reduceLT, jx_cl, nI_leI, Nat.zero_le, true_and, Nat.le_refl, v0, v1, v2, v3]; omega) | fail) only [jb_228_0, jb_228_7, jb_228_10, jb_228_18, jb_228_36, jb_228_44, jb_228_95, jx_nl, jx_nlr, jx_thenS, jx_tlS, jx_tlN, jm_ite_go, jx_rds, jx_rdn, jx_lit, pk_mul, nI_add, nI_pred, pk_sub, jx_na, jx_add0, Nat.reduceMul, Nat.reduceAdd, Nat.reduceSub, Nat.reduceEqDiff, Nat.reduceLeDiff, Nat.reduceLT, Nat.not_lt_zero, jx_cl, nI_leI, nI_ltI, nI_eq, jx_neg, jx_neg', jx_negE, jx_negL, jx_negG, jx_negLE, jx_negN, sb_nlt, sb_nle, jx_b0, jx_b1, jx_bT, jx_bF, ite_true, ite_false, if_true, if_false, reduceIte, Bool.false_eq_true, Bool.true_eq_false, eq_self, Nat.one_ne_zero, Nat.add_sub_cancel, not_true_eq_false, not_false_eq_true, Nat.le_refl, v0, v1, v2, v3]
    have mo : ∀ a c, ¬ (a = 57 ∧ (c = 0 ∨ c = 7 ∨ c = 8 ∨ c = 14)) → M a c = M2 a c := fun a c h => by rw [hM, jx_rdn (by omega), jx_rdn (by omega), jx_rdn (by omega), jx_rdn (by omega)]
    have mJ : ∀ a c, ¬ (a = 57 ∧ (c = 0 ∨ c = 7 ∨ c = 8 ∨ c = 14)) → ¬ (60 ≤ a ∧ a < 64) → M a c = J a c := fun a c h h' => by rw [mo a c h, b1 a (by omega), a1 a (by omega)]
    have mH : ∀ a c, 2 ≤ a → a < 80 → ¬ (a = 57 ∧ (c = 0 ∨ c = 7 ∨ c = 8 ∨ c = 14)) → ¬ (60 ≤ a ∧ a < 64) → M a c = H a c := fun a c z1 z2 z3 z4 => by rw [mJ a c z3 z4, lo2 a z1 z2]
    have m1 : ∀ c, M 1 c = H0 1 c := fun c => by rw [mJ 1 c (by omega) (by omega), lo 1 (by omega)]
    have hS : ∃ S' : Nat → Nat → Bool, S' = fun a k => decide (a = 0 ∨ a = 1 ∧ ¬ k = 6 ∨ a = 57 ∧ (k = 0 ∨ k = 7 ∨ k = 8 ∨ k = 14) ∨ 60 ≤ a ∧ a < 64 ∨ 80 ≤ a) := ⟨_, rfl⟩
    obtain ⟨S', hS'⟩ := hS
    have sZ : ∀ a k, ¬ (a = 0 ∨ a = 1 ∧ ¬ k = 6 ∨ a = 57 ∧ (k = 0 ∨ k = 7 ∨ k = 8 ∨ k = 14) ∨ 60 ≤ a ∧ a < 64 ∨ 80 ≤ a) → S' a k = false := fun a k h => by rw [hS']; exact decide_eq_false h
    have g : jG S' H M := fun a c zz => by
      rw [hS'] at zz
      have zz := of_decide_eq_false zz
      by_cases z1 : a = 1
      · subst z1
        have : c = 6 := by omega
        subst this
        rw [m1, q0]; simp [jx_rd]
      · exact mH a c (by omega) (by omega) (by omega) (by omega)
    have r3 := jR3_mo h3 g fun a k z => sZ a k (by omega)
    obtain ⟨x1, x2, x3⟩ := r3.2.2.2.2.2 l y4
    have hl6 : l < 6 := Nat.lt_of_lt_of_le y4 h3.1
    have mad : ∀ p, p < q → ∀ j, 1 ≤ j → j < 6 → M (ad p) j = H (37 + p) j := fun p hp j z1 z2 => by
      have := h80 p (by omega)
      rw [mJ _ j (by omega) (by omega)]; exact rJ p hp j z1 z2
    have mad0 : ∀ p, p < q → M (ad p) 0 = H (ad p) 0 := fun p hp => by
      have := h80 p (by omega)
      rw [mJ _ 0 (by omega) (by omega), gJ _ _ (fun _ _ _ => .inl rfl), o0 _ (by omega) (by omega)]
    have m67 : ∀ c, M 67 c = H 67 c := fun c => mH 67 c (by omega) (by omega) (by omega) (by omega)
    have m37 : ∀ p, p < 6 → M (37 + p) = H (37 + p) := fun p hp => funext fun c => mH _ c (by omega) (by omega) (by omega) (by omega)
    have m60 : ∀ j, j < 24 → M 60 j = H 67 j := fun j hj => by rw [mo 60 j (by omega), b1 60 (by omega)]; exact a2 j hj
    have m6123 : ∀ j, j < 12 → M 61 j = H 67 (24 + j) ∧ M 62 j = H 67 (36 + j) ∧ M 63 j = H 67 (48 + j) := fun j hj => by
      rw [mo 61 j (by omega), mo 62 j (by omega), mo 63 j (by omega)]; exact b3 j hj
    have n12 : n ≤ 12 := by omega
    refine ⟨.int (nI q), J, M, rho, mu, hc, hm, ⟨(n, jwa w, jwb w, S, y, l, cds l), q, tc, ad, kd, cds, ⟨⟨⟨?_, n12, ?_, y2, fun k hk => ?_⟩, ?_, y3, ?_, hl6, x1, x2⟩, ⟨⟨?_, n12, y2, fun k hk => ?_⟩, ?_, y3, ?_, hl6, x1, x3⟩⟩, ⟨?_, by omega, ?_, fun p hp => ?_, fun p p' hp hp' e => h2.2.2.2.2 p p' (by omega) (by omega) e⟩, ⟨r3.1, r3.2.1, r3.2.2.1, y4, rfl, r3.2.2.2.2.2⟩, jR4_mo h4 g fun a k z => sZ a k (by omega), jR5_mo h5 g fun a k z => sZ a k (by omega), ?_, jR7_mo h7 g fun k => sZ _ k (by omega), h8⟩, by omega, fun a ha => funext fun c => by rw [mJ a c (by omega) (by omega), far a ha]⟩
    · rw [m1, q0]; simp [jx_rd]
    · rw [m1, q0]; simp [jx_rd]
    · rw [mH 2 k (by omega) (by omega) (by omega) (by omega), mH 3 k (by omega) (by omega) (by omega) (by omega)]
      exact h1.1.1.2.2.2.2 k (Nat.lt_of_lt_of_le hk y1)
    · rw [m1, q0]; simp [jx_rd]
    · rw [m1, q0]; simp [jx_rd]
    · rw [hM]; simp [jx_rd]
    · have hk : k < n := hk
      obtain ⟨z1, z2, z3⟩ := m6123 k (by omega)
      obtain ⟨z4, z5, z6⟩ := s6 k hk
      obtain ⟨-, z8, -, z9, z7, -⟩ := h1.2.1.2.2.2 k (by omega)
      exact ⟨z1.trans z4, z8, z2.trans z5, z9, z7, z3.trans z6⟩
    · rw [hM]; simp [jx_rd]
    · rw [hM]; simp [jx_rd]
    · rw [mJ 0 3 (by omega) (by omega)]; exact hJ3
    · rw [hM]; simp [jx_rd]
    · obtain ⟨z1, z2, z3, z4, z5, z6, z7⟩ := h2.2.2.2.1 p (by omega)
      obtain ⟨i1, i2, i3, i4, i5, i6⟩ := s7 p hp
      refine ⟨z1, z2, z3, z4, (mad0 p hp).trans z5, jPv_e (Q := H (37 + p)) (fun j g1 g2 => mad p hp j g1 g2) i1, ?_, ?_, ?_, ?_, ?_, ?_⟩
      · rw [mH 58 p (by omega) (by omega) (by omega) (by omega)]; exact z7.1
      · rw [mH 59 p (by omega) (by omega) (by omega) (by omega), mad p hp 1 (by omega) (by omega), i2]; exact z7.2.1
      · rw [m60 _ (by omega), mad p hp 2 (by omega) (by omega)]; exact i3
      · rw [m60 _ (by omega), mad p hp 3 (by omega) (by omega)]; exact i4
      · rw [m60 _ (by omega), mad p hp 4 (by omega) (by omega)]; exact i5
      · rw [m60 _ (by omega), mad p hp 5 (by omega) (by omega)]; exact i6
    · have m35 : ∀ c, M 35 c = H 35 c := fun c => mH 35 c (by omega) (by omega) (by omega) (by omega)
      have m68 : ∀ c, M 68 c = H 68 c := fun c => mH 68 c (by omega) (by omega) (by omega) (by omega)
      refine ⟨?_, .inr ⟨(m35 0).trans h6', n, S, y, l, q, Nat.le_refl _, y2, y3, y4, Nat.le_refl _, (m35 1).trans c1, (m35 2).trans c2, (m35 3).trans c3, (m35 4).trans c4, (m35 5).trans c5, (m68 0).trans s0, (m68 1).trans s1, (m68 2).trans s2, (m68 3).trans s3, fun k hk => ?_, fun p hp => ?_⟩⟩
      · rw [m35, mH 57 15 (by omega) (by omega) (by omega) (by omega)]; exact h6
      · rw [m67, m67, m67]; exact s6 k hk
      · obtain ⟨i1, i2, i3, i4, i5, i6⟩ := s7 p hp
        rw [m37 p (by omega), m67, m67, m67, m67, mad p hp 1 (by omega) (by omega)]
        exact ⟨i1, rfl, i3, i4, i5, i6⟩
