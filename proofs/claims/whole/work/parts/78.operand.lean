/-! THE LEVELS of a text: a comparison, an operand; all of them -/
theorem jz_notL {b : Nat → Nat} {s t d o p : Nat} {rho : Nat → Option Nat} {mu : List (Nat × Nat)} (ht : t < 6) (hs : s ≤ 160) (ho : o ≤ 5) (hp : p ≤ s) (hsum : ∀ p2, p ≤ p2 → p2 ≤ s → jz_P b s t d rho mu 31 3 o p2) (hnot : o < 5 → ∀ p2, p < p2 → p2 ≤ s → jz_P b s t d rho mu 30 4 (o + 1) p2) : jz_P b s t d rho mu 30 4 o p := by
  intro e H C he hC hK hD
  obtain ⟨e0, rfl⟩ : ∃ e0, e = e0 + 1 := ⟨e - 1, by omega⟩
  have htv := jz_tv_of b s p
  have k3 := hK.2.2.2.1
  by_cases hT : jz_t b s p = 6
  · have h3 : H 30 3 = -nI 9 := by rw [k3, hT]; rfl
    have h0 := jz_t_0 hp (show jz_t b s p ≠ 0 by omega)
    have hq2 := (jz_e_le b hp).2.1
    by_cases h5 : o < 5
    · obtain ⟨J1, k34, K1, g1⟩ := jz_may (e := e0) (rho := rho) (mu := mu) (by omega) hK hp h5
      have D1 := jz_D_lx ht hD g1
      have hZ : ∀ K hd V0, jz_Z b s t d rho mu 4 o p C K hd V0 → ∃ K1, jz_Z b s t d rho mu 4 (o + 1) (jz_e b s p) C K1 (13 :: hd) V0 ∧ jG (jS_rm t) K K1 := fun K hd V0 z => by
        obtain ⟨mn, l3, z1, z2, z3, z4, z5⟩ := z
        rw [if_pos (by decide)] at z2
        subst z2
        obtain ⟨K1, r1, r2, r3⟩ := (jr_not (d := d) (rho := rho) (mu := mu) (l3 := l3) hp z3 z4 hT).1 h5
        exact ⟨K1, ⟨1, l3, z1.trans r1, by rw [if_pos (by decide)], r2, by rw [List.length_cons]; omega, fun g l hg => by cases hg; decide⟩, r3⟩
      rcases hnot h5 (jz_e b s p) (by omega) hq2 e0 J1 C (by omega) (by omega) K1 D1 with ⟨J2, q2, E2, E21, S2, v1, g2, K2, D2, hq3, hl2, hE2, hS2, hc2, hh2, hf2, ref2⟩ | ⟨J2, f, v1, g2, F2, ref2⟩
      · have hlen : (C ++ E2).length < 160 := by rw [List.length_append]; omega
        obtain ⟨J3, k47, K3, D3, g3⟩ := jz_add (e := e0) (c := 13) (rho := rho) (mu := mu) ht (by omega) K2 D2 hlen
        have ecl : jv_cl 13 = -nI 9 := by decide
        rw [ecl] at k47
        refine .inl ⟨J3, q2, E2 ++ [13], E21, S2 ++ [13], ?_, jG_tr (jG_tr (jG_lxrd g1) g2) g3, K3, by rw [← List.append_assoc]; exact D3, hq3, by rw [List.length_append]; show p + (E2.length + 1) ≤ q2; omega, by rw [hE2, List.append_assoc], fun g hg => ?_, fun c hc => ?_, fun h hb => ?_, jz_fl_app hf2 [13], fun K hd V0 z => ?_⟩
        · simp (disch := first | assumption | omega | exact jx_bz _ | exact jx_z0 | exact jx_z1 | (refine jx_ixB ?_ ?_; omega; omega) | (simp (disch := first | omega | fail) only [jx_lit, pk_mul, nI_add, nI_pred, pk_sub, jx_na, jx_add0, Nat.reduceMul, Nat.reduceAdd, Nat.reduceSub, Nat.reduceEqDiff, Nat.reduceLeDiff, Nat.reduceLT, h3, k34, v1, k47]; refine jx_ixC ?_ ?_; omega; omega) | (simp (disch := first | omega | fail) only [jx_lit, pk_mul, nI_add, nI_pred, pk_sub, jx_na, jx_add0, Nat.reduceMul, Nat.reduceAdd, Nat.reduceSub, Nat.reduceEqDiff, Nat.reduceLeDiff, Nat.reduceLT, jx_cl, nI_leI, Nat.zero_le, true_and, h3, k34, v1, k47]; omega) | fail) only [je_30, jb_30_0, jb_30_9, jb_30_14, jb_30_17, jb_30_18, jb_30_26, jb_30_32, jb_30_33, jb_30_39, jb_30_50, jb_30_56, jb_30_57, jb_30_61, jb_30_67, jb_30_74, jb_30_79, jb_30_81, jb_30_84, jx_nl, jx_nlr, jx_thenS, jx_tlS, jx_tlN, jm_ite_go, jx_rds, jx_rdn, jx_lit, pk_mul, nI_add, nI_pred, pk_sub, jx_na, jx_add0, Nat.reduceMul, Nat.reduceAdd, Nat.reduceSub, Nat.reduceEqDiff, Nat.reduceLeDiff, Nat.reduceLT, Nat.not_lt_zero, jx_cl, nI_leI, nI_ltI, nI_eq, jx_neg, jx_neg', jx_negE, jx_negL, jx_negG, jx_negLE, jx_negN, sb_nlt, sb_nle, jx_b0, jx_b1, jx_bT, jx_bF, ite_true, ite_false, if_true, if_false, reduceIte, Bool.false_eq_true, Bool.true_eq_false, eq_self, Nat.one_ne_zero, Nat.add_sub_cancel, not_true_eq_false, not_false_eq_true, h3, k34, v1, k47]
        · rcases List.mem_append.mp hg with h | h
          · exact hS2 g h
          · rw [List.mem_singleton.mp h]; decide
        · rcases List.mem_append.mp hc with h | h
          · exact hc2 c h
          · rw [List.mem_singleton.mp h]; exact .inr (.inl (by omega))
        · rw [jv_h_app, hh2 h (by omega)]
          show jv_h [13] (h + 1) = _
          rw [jv_h, show jv_n 13 = 1 from rfl, if_pos (by omega)]
          rfl
        · obtain ⟨K1', z1, r1⟩ := hZ K hd V0 z
          obtain ⟨K2', mn, l3, a1, a2, a3⟩ := ref2 K1' (13 :: hd) V0 z1
          refine ⟨K2', mn, l3, a1, ?_, jG_tr r1 a3⟩
          rw [List.append_assoc, List.singleton_append, jz_no_app, show jz_no [13] = 1 from rfl, show o + (jz_no S2 + 1) = o + 1 + jz_no S2 by omega]
          exact a2
      · obtain ⟨J3, k47, F3, g3⟩ := jz_F_add (e := e0) (x := -nI 9) (rho := rho) (mu := mu) ht (by omega) F2
        refine .inr ⟨J3, f, ?_, jG_tr (jG_tr (jG_lxrd g1) g2) g3, F3, fun K hd V0 z => ?_⟩
        · simp (disch := first | assumption | omega | exact jx_bz _ | exact jx_z0 | exact jx_z1 | (refine jx_ixB ?_ ?_; omega; omega) | (simp (disch := first | omega | fail) only [jx_lit, pk_mul, nI_add, nI_pred, pk_sub, jx_na, jx_add0, Nat.reduceMul, Nat.reduceAdd, Nat.reduceSub, Nat.reduceEqDiff, Nat.reduceLeDiff, Nat.reduceLT, h3, k34, v1, k47]; refine jx_ixC ?_ ?_; omega; omega) | (simp (disch := first | omega | fail) only [jx_lit, pk_mul, nI_add, nI_pred, pk_sub, jx_na, jx_add0, Nat.reduceMul, Nat.reduceAdd, Nat.reduceSub, Nat.reduceEqDiff, Nat.reduceLeDiff, Nat.reduceLT, jx_cl, nI_leI, Nat.zero_le, true_and, h3, k34, v1, k47]; omega) | fail) only [je_30, jb_30_0, jb_30_9, jb_30_14, jb_30_17, jb_30_18, jb_30_26, jb_30_32, jb_30_33, jb_30_39, jb_30_50, jb_30_56, jb_30_57, jb_30_61, jb_30_67, jb_30_74, jb_30_79, jb_30_81, jb_30_84, jx_nl, jx_nlr, jx_thenS, jx_tlS, jx_tlN, jm_ite_go, jx_rds, jx_rdn, jx_lit, pk_mul, nI_add, nI_pred, pk_sub, jx_na, jx_add0, Nat.reduceMul, Nat.reduceAdd, Nat.reduceSub, Nat.reduceEqDiff, Nat.reduceLeDiff, Nat.reduceLT, Nat.not_lt_zero, jx_cl, nI_leI, nI_ltI, nI_eq, jx_neg, jx_neg', jx_negE, jx_negL, jx_negG, jx_negLE, jx_negN, sb_nlt, sb_nle, jx_b0, jx_b1, jx_bT, jx_bF, ite_true, ite_false, if_true, if_false, reduceIte, Bool.false_eq_true, Bool.true_eq_false, eq_self, Nat.one_ne_zero, Nat.add_sub_cancel, not_true_eq_false, not_false_eq_true, h3, k34, v1, k47]
        · obtain ⟨K1', z1, r1⟩ := hZ K hd V0 z
          obtain ⟨K2', z2, a1, a2, a3⟩ := ref2 K1' (13 :: hd) V0 z1
          exact ⟨K2', z2, a1, jG_tr r1 a2, a3⟩
    · have h5' : o = 5 := by omega
      subst h5'
      obtain ⟨J1, k34, F1, g1⟩ := jz_mayN (e := e0) (rho := rho) (mu := mu) ht (by omega) hK hD hp
      refine .inr ⟨J1, _, ?_, g1, F1, fun K hd V0 z => ?_⟩
      · simp (disch := first | assumption | omega | exact jx_bz _ | exact jx_z0 | exact jx_z1 | (refine jx_ixB ?_ ?_; omega; omega) | (simp (disch := first | omega | fail) only [jx_lit, pk_mul, nI_add, nI_pred, pk_sub, jx_na, jx_add0, Nat.reduceMul, Nat.reduceAdd, Nat.reduceSub, Nat.reduceEqDiff, Nat.reduceLeDiff, Nat.reduceLT, h3, k34]; refine jx_ixC ?_ ?_; omega; omega) | (simp (disch := first | omega | fail) only [jx_lit, pk_mul, nI_add, nI_pred, pk_sub, jx_na, jx_add0, Nat.reduceMul, Nat.reduceAdd, Nat.reduceSub, Nat.reduceEqDiff, Nat.reduceLeDiff, Nat.reduceLT, jx_cl, nI_leI, Nat.zero_le, true_and, h3, k34]; omega) | fail) only [je_30, jb_30_0, jb_30_9, jb_30_14, jb_30_17, jb_30_18, jb_30_26, jb_30_32, jb_30_33, jb_30_39, jb_30_50, jb_30_56, jb_30_57, jb_30_61, jb_30_67, jb_30_74, jb_30_79, jb_30_81, jb_30_84, jx_nl, jx_nlr, jx_thenS, jx_tlS, jx_tlN, jm_ite_go, jx_rds, jx_rdn, jx_lit, pk_mul, nI_add, nI_pred, pk_sub, jx_na, jx_add0, Nat.reduceMul, Nat.reduceAdd, Nat.reduceSub, Nat.reduceEqDiff, Nat.reduceLeDiff, Nat.reduceLT, Nat.not_lt_zero, jx_cl, nI_leI, nI_ltI, nI_eq, jx_neg, jx_neg', jx_negE, jx_negL, jx_negG, jx_negLE, jx_negN, sb_nlt, sb_nle, jx_b0, jx_b1, jx_bT, jx_bF, ite_true, ite_false, if_true, if_false, reduceIte, Bool.false_eq_true, Bool.true_eq_false, eq_self, Nat.one_ne_zero, Nat.add_sub_cancel, not_true_eq_false, not_false_eq_true, h3, k34]
      · obtain ⟨mn, l3, z1, z2, z3, z4, z5⟩ := z
        rw [if_pos (by decide)] at z2
        subst z2
        obtain ⟨K1, r1, r2, r3, r4⟩ := (jr_not (d := d) (rho := rho) (mu := mu) (l3 := l3) hp z3 z4 hT).2 rfl
        exact ⟨K1, C.length, z1.trans r1, r2, r3, r4, by omega⟩
  · have h3 : ¬ H 30 3 = -nI 9 := by rw [k3, jz_ct_neg htv (by omega) (by omega)]; omega
    have hZ : ∀ K hd V0, jz_Z b s t d rho mu 4 o p C K hd V0 → jz_Z b s t d rho mu 3 o p C K hd V0 := fun K hd V0 z => by
      obtain ⟨mn, l3, z1, z2, z3, z4, z5⟩ := z
      exact ⟨mn, l3, z1, by rw [if_neg (by decide)]; exact .inr hT, z3, z4, fun g l hg => Nat.lt_of_lt_of_le (z5 g l hg) (by decide)⟩
    rcases hsum p (Nat.le_refl _) hp e0 H C (by omega) hC hK hD with ⟨J1, q1, E, E1, S, v1, g1, K1, D1, hq1, hl1, hE, hS, hc1, hh1, hf1, ref1⟩ | ⟨J1, f, v1, g1, F1, ref1⟩
    · have k31 := K1.2.2.2.1
      have htv1 := jz_tv_of b s q1
      by_cases hT1 : jz_t b s q1 = 60 ∨ jz_t b s q1 = 61
      · have h0 := jz_t_0 hq1 (show jz_t b s q1 ≠ 0 by omega)
        have hq2 := (jz_e_le b hq1).2.1
        obtain ⟨g, hg, hg4, hgn, hg15⟩ : ∃ g, jz_sg (jz_t b s q1) = g ∧ jz_rk g = 4 ∧ (g = 14 ∧ jz_t b s q1 = 60 ∨ g = 15 ∧ jz_t b s q1 = 61) ∧ jz_o1 g = 0 ∧ jv_n g = 2 := by
          rcases hT1 with h | h <;> rw [h]
          · exact ⟨14, rfl, rfl, .inl ⟨rfl, rfl⟩, rfl, rfl⟩
          · exact ⟨15, rfl, rfl, .inr ⟨rfl, rfl⟩, rfl, rfl⟩
        have hg1415 : 14 ≤ g ∧ g ≤ 15 := by omega
        obtain ⟨J2, k37, K2, g2⟩ := jz_next (e := e0) (rho := rho) (mu := mu) (by omega) K1 hq1
        have D2 := jz_D_lx ht D1 g2
        have hCE : (C ++ E).length ≤ jz_e b s q1 := by rw [List.length_append]; omega
        have hZ2 : ∀ K hd V0, jz_Z b s t d rho mu 4 o p C K hd V0 → ∃ K1, jz_Z b s t d rho mu 3 o (jz_e b s q1) (C ++ E) K1 (g :: hd) V0 ∧ jG (jS_rm t) K K1 := fun K hd V0 z => by
          obtain ⟨K1', mn, l3, a1, a2, a3⟩ := ref1 K hd V0 (hZ K hd V0 z)
          obtain ⟨_, _, _, _, _, z4, z5⟩ := z
          have hlen : (S ++ hd).length + (C ++ E1).length ≤ q1 := by
            rw [hE, List.length_append] at hl1
            simp only [List.length_append]; omega
          obtain ⟨K2', l4, r1, r2, r3⟩ := jr_op (d := d) (rho := rho) (mu := mu) (mn := mn) (l3 := l3) hq1 hg (by omega) a2 (fun x hx => by rw [if_pos hg4]; exact (hS x hx).1) (by rw [hg4]; exact z5) hlen
          refine ⟨K2', ⟨_, l4, a1.trans r1, ?_, by rw [hE, ← List.append_assoc]; exact r2, ?_, fun x l hx => by cases hx; rw [hg4]; decide⟩, jG_tr a3 r3⟩
          · rw [if_neg (by decide), if_neg (by omega)]; exact .inl rfl
          · rw [List.length_cons, List.length_append]
            omega
        have i3 : J1 30 3 = (if g = 14 then nI 60 else nI 61) := by
          rw [k31]
          rcases hgn with ⟨h1, h2⟩ | ⟨h1, h2⟩
          · rw [h2, if_pos h1]; rfl
          · rw [h2, if_neg (by omega)]; rfl
        rcases hsum (jz_e b s q1) (by omega) hq2 e0 J2 (C ++ E) (by omega) hCE K2 D2 with ⟨J3, q3, E3, E31, S3, v3, g3, K3, D3, hq3, hl3, hE3, hS3, hc3, hh3, hf3, ref3⟩ | ⟨J3, f, v3, g3, F3, ref3⟩
        · have hlen : (C ++ E ++ E3).length < 160 := by simp only [List.length_append]; omega
          obtain ⟨J4, k47, K4, D4, g4⟩ := jz_add (e := e0) (c := g) (rho := rho) (mu := mu) ht (by omega) K3 D3 hlen
          have hEl : (E ++ E3 ++ [g]).length = E.length + E3.length + 1 := by simp only [List.length_append]; rfl
          refine .inl ⟨J4, q3, E ++ E3 ++ [g], E ++ E31, S3 ++ [g], ?_, jG_tr (jG_tr (jG_tr g1 (jG_lxrd g2)) g3) g4, K4, by rw [show C ++ (E ++ E3 ++ [g]) = C ++ E ++ E3 ++ [g] by simp]; exact D4, hq3, by rw [hEl]; omega, by rw [hE3]; simp, fun x hx => ?_, fun c hc => ?_, fun h hb => ?_, ?_, fun K hd V0 z => ?_⟩
          · rcases hgn with ⟨h1, h2⟩ | ⟨h1, h2⟩
            · rw [if_pos h1] at i3
              rw [h1, show jv_cl 14 = -nI 10 by decide] at k47
              simp (disch := first | assumption | omega | exact jx_bz _ | exact jx_z0 | exact jx_z1 | (refine jx_ixB ?_ ?_; omega; omega) | (simp (disch := first | omega | fail) only [jx_lit, pk_mul, nI_add, nI_pred, pk_sub, jx_na, jx_add0, Nat.reduceMul, Nat.reduceAdd, Nat.reduceSub, Nat.reduceEqDiff, Nat.reduceLeDiff, Nat.reduceLT, h3, v1, i3, k37, v3, k47]; refine jx_ixC ?_ ?_; omega; omega) | (simp (disch := first | omega | fail) only [jx_lit, pk_mul, nI_add, nI_pred, pk_sub, jx_na, jx_add0, Nat.reduceMul, Nat.reduceAdd, Nat.reduceSub, Nat.reduceEqDiff, Nat.reduceLeDiff, Nat.reduceLT, jx_cl, nI_leI, Nat.zero_le, true_and, h3, v1, i3, k37, v3, k47]; omega) | fail) only [je_30, jb_30_0, jb_30_9, jb_30_14, jb_30_17, jb_30_18, jb_30_26, jb_30_32, jb_30_33, jb_30_39, jb_30_50, jb_30_56, jb_30_57, jb_30_61, jb_30_67, jb_30_74, jb_30_79, jb_30_81, jb_30_84, jx_nl, jx_nlr, jx_thenS, jx_tlS, jx_tlN, jm_ite_go, jx_rds, jx_rdn, jx_lit, pk_mul, nI_add, nI_pred, pk_sub, jx_na, jx_add0, Nat.reduceMul, Nat.reduceAdd, Nat.reduceSub, Nat.reduceEqDiff, Nat.reduceLeDiff, Nat.reduceLT, Nat.not_lt_zero, jx_cl, nI_leI, nI_ltI, nI_eq, jx_neg, jx_neg', jx_negE, jx_negL, jx_negG, jx_negLE, jx_negN, sb_nlt, sb_nle, jx_b0, jx_b1, jx_bT, jx_bF, ite_true, ite_false, if_true, if_false, reduceIte, Bool.false_eq_true, Bool.true_eq_false, eq_self, Nat.one_ne_zero, Nat.add_sub_cancel, not_true_eq_false, not_false_eq_true, h3, v1, i3, k37, v3, k47]
            · rw [if_neg (by omega)] at i3
              rw [h1, show jv_cl 15 = -nI 11 by decide] at k47
              simp (disch := first | assumption | omega | exact jx_bz _ | exact jx_z0 | exact jx_z1 | (refine jx_ixB ?_ ?_; omega; omega) | (simp (disch := first | omega | fail) only [jx_lit, pk_mul, nI_add, nI_pred, pk_sub, jx_na, jx_add0, Nat.reduceMul, Nat.reduceAdd, Nat.reduceSub, Nat.reduceEqDiff, Nat.reduceLeDiff, Nat.reduceLT, h3, v1, i3, k37, v3, k47]; refine jx_ixC ?_ ?_; omega; omega) | (simp (disch := first | omega | fail) only [jx_lit, pk_mul, nI_add, nI_pred, pk_sub, jx_na, jx_add0, Nat.reduceMul, Nat.reduceAdd, Nat.reduceSub, Nat.reduceEqDiff, Nat.reduceLeDiff, Nat.reduceLT, jx_cl, nI_leI, Nat.zero_le, true_and, h3, v1, i3, k37, v3, k47]; omega) | fail) only [je_30, jb_30_0, jb_30_9, jb_30_14, jb_30_17, jb_30_18, jb_30_26, jb_30_32, jb_30_33, jb_30_39, jb_30_50, jb_30_56, jb_30_57, jb_30_61, jb_30_67, jb_30_74, jb_30_79, jb_30_81, jb_30_84, jx_nl, jx_nlr, jx_thenS, jx_tlS, jx_tlN, jm_ite_go, jx_rds, jx_rdn, jx_lit, pk_mul, nI_add, nI_pred, pk_sub, jx_na, jx_add0, Nat.reduceMul, Nat.reduceAdd, Nat.reduceSub, Nat.reduceEqDiff, Nat.reduceLeDiff, Nat.reduceLT, Nat.not_lt_zero, jx_cl, nI_leI, nI_ltI, nI_eq, jx_neg, jx_neg', jx_negE, jx_negL, jx_negG, jx_negLE, jx_negN, sb_nlt, sb_nle, jx_b0, jx_b1, jx_bT, jx_bF, ite_true, ite_false, if_true, if_false, reduceIte, Bool.false_eq_true, Bool.true_eq_false, eq_self, Nat.one_ne_zero, Nat.add_sub_cancel, not_true_eq_false, not_false_eq_true, h3, v1, i3, k37, v3, k47]
          · rcases List.mem_append.mp hx with h | h
            · have h1 := hS3 x h
              have h2 : jz_lo 4 ≤ jz_lo 3 := by decide
              omega
            · rw [List.mem_singleton.mp h, hg4]
              have h2 : jz_lo 4 ≤ 4 := by decide
              omega
          · rcases List.mem_append.mp hc with h | h
            · rcases List.mem_append.mp h with h | h
              · exact hc1 c h
              · exact hc3 c h
            · rw [List.mem_singleton.mp h]; exact .inr (.inl (by omega))
          · rw [jv_h_app, jv_h_app, hh1 h (by omega)]
            show ((jv_h E3 (h + 1)).bind (jv_h [g])) = _
            rw [hh3 (h + 1) (by omega)]
            show jv_h [g] (h + 1 + 1) = _
            rw [jv_h, hg15.2, if_pos (by omega)]
            show jv_h [] _ = _
            rw [jv_h]; congr 1
          · obtain ⟨f1, f2, f3, f4, f5⟩ := hf3
            exact ⟨fun _ => f1 (by decide), fun _ => f2 (by decide), fun _ _ => ⟨S3, g, [], rfl, fun x hx => (hS3 x hx).1, hg4⟩, fun a => absurd a (by decide), fun a => absurd a (by decide)⟩
          · obtain ⟨K1', z1, r1⟩ := hZ2 K hd V0 z
            obtain ⟨K2', mn, l3, a1, a2, a3⟩ := ref3 K1' (g :: hd) V0 z1
            refine ⟨K2', mn, l3, a1, ?_, jG_tr r1 a3⟩
            rw [List.append_assoc, List.singleton_append, jz_no_app, show jz_no [g] = 0 by rw [jz_no, jz_no, hg15.1], Nat.add_zero]
            dsimp only at a2 ⊢
            rw [← List.append_assoc]
            exact a2
        · obtain ⟨J4, k47, F4, g4⟩ := jz_F_add (e := e0) (x := jv_cl g) (rho := rho) (mu := mu) ht (by omega) F3
          refine .inr ⟨J4, f, ?_, jG_tr (jG_tr (jG_tr g1 (jG_lxrd g2)) g3) g4, F4, fun K hd V0 z => ?_⟩
          · rcases hgn with ⟨h1, h2⟩ | ⟨h1, h2⟩
            · rw [if_pos h1] at i3
              rw [h1, show jv_cl 14 = -nI 10 by decide] at k47
              simp (disch := first | assumption | omega | exact jx_bz _ | exact jx_z0 | exact jx_z1 | (refine jx_ixB ?_ ?_; omega; omega) | (simp (disch := first | omega | fail) only [jx_lit, pk_mul, nI_add, nI_pred, pk_sub, jx_na, jx_add0, Nat.reduceMul, Nat.reduceAdd, Nat.reduceSub, Nat.reduceEqDiff, Nat.reduceLeDiff, Nat.reduceLT, h3, v1, i3, k37, v3, k47]; refine jx_ixC ?_ ?_; omega; omega) | (simp (disch := first | omega | fail) only [jx_lit, pk_mul, nI_add, nI_pred, pk_sub, jx_na, jx_add0, Nat.reduceMul, Nat.reduceAdd, Nat.reduceSub, Nat.reduceEqDiff, Nat.reduceLeDiff, Nat.reduceLT, jx_cl, nI_leI, Nat.zero_le, true_and, h3, v1, i3, k37, v3, k47]; omega) | fail) only [je_30, jb_30_0, jb_30_9, jb_30_14, jb_30_17, jb_30_18, jb_30_26, jb_30_32, jb_30_33, jb_30_39, jb_30_50, jb_30_56, jb_30_57, jb_30_61, jb_30_67, jb_30_74, jb_30_79, jb_30_81, jb_30_84, jx_nl, jx_nlr, jx_thenS, jx_tlS, jx_tlN, jm_ite_go, jx_rds, jx_rdn, jx_lit, pk_mul, nI_add, nI_pred, pk_sub, jx_na, jx_add0, Nat.reduceMul, Nat.reduceAdd, Nat.reduceSub, Nat.reduceEqDiff, Nat.reduceLeDiff, Nat.reduceLT, Nat.not_lt_zero, jx_cl, nI_leI, nI_ltI, nI_eq, jx_neg, jx_neg', jx_negE, jx_negL, jx_negG, jx_negLE, jx_negN, sb_nlt, sb_nle, jx_b0, jx_b1, jx_bT, jx_bF, ite_true, ite_false, if_true, if_false, reduceIte, Bool.false_eq_true, Bool.true_eq_false, eq_self, Nat.one_ne_zero, Nat.add_sub_cancel, not_true_eq_false, not_false_eq_true, h3, v1, i3, k37, v3, k47]
            · rw [if_neg (by omega)] at i3
              rw [h1, show jv_cl 15 = -nI 11 by decide] at k47
              simp (disch := first | assumption | omega | exact jx_bz _ | exact jx_z0 | exact jx_z1 | (refine jx_ixB ?_ ?_; omega; omega) | (simp (disch := first | omega | fail) only [jx_lit, pk_mul, nI_add, nI_pred, pk_sub, jx_na, jx_add0, Nat.reduceMul, Nat.reduceAdd, Nat.reduceSub, Nat.reduceEqDiff, Nat.reduceLeDiff, Nat.reduceLT, h3, v1, i3, k37, v3, k47]; refine jx_ixC ?_ ?_; omega; omega) | (simp (disch := first | omega | fail) only [jx_lit, pk_mul, nI_add, nI_pred, pk_sub, jx_na, jx_add0, Nat.reduceMul, Nat.reduceAdd, Nat.reduceSub, Nat.reduceEqDiff, Nat.reduceLeDiff, Nat.reduceLT, jx_cl, nI_leI, Nat.zero_le, true_and, h3, v1, i3, k37, v3, k47]; omega) | fail) only [je_30, jb_30_0, jb_30_9, jb_30_14, jb_30_17, jb_30_18, jb_30_26, jb_30_32, jb_30_33, jb_30_39, jb_30_50, jb_30_56, jb_30_57, jb_30_61, jb_30_67, jb_30_74, jb_30_79, jb_30_81, jb_30_84, jx_nl, jx_nlr, jx_thenS, jx_tlS, jx_tlN, jm_ite_go, jx_rds, jx_rdn, jx_lit, pk_mul, nI_add, nI_pred, pk_sub, jx_na, jx_add0, Nat.reduceMul, Nat.reduceAdd, Nat.reduceSub, Nat.reduceEqDiff, Nat.reduceLeDiff, Nat.reduceLT, Nat.not_lt_zero, jx_cl, nI_leI, nI_ltI, nI_eq, jx_neg, jx_neg', jx_negE, jx_negL, jx_negG, jx_negLE, jx_negN, sb_nlt, sb_nle, jx_b0, jx_b1, jx_bT, jx_bF, ite_true, ite_false, if_true, if_false, reduceIte, Bool.false_eq_true, Bool.true_eq_false, eq_self, Nat.one_ne_zero, Nat.add_sub_cancel, not_true_eq_false, not_false_eq_true, h3, v1, i3, k37, v3, k47]
          · obtain ⟨K1', z1, r1⟩ := hZ2 K hd V0 z
            obtain ⟨K2', z2, a1, a2, a3⟩ := ref3 K1' (g :: hd) V0 z1
            exact ⟨K2', z2, a1, jG_tr r1 a2, a3⟩
      · have n60 : ¬ J1 30 3 = nI 60 := by rw [k31, jz_ct_pos htv1 (by omega) (by omega)]; omega
        have n61 : ¬ J1 30 3 = nI 61 := by rw [k31, jz_ct_pos htv1 (by omega) (by omega)]; omega
        refine .inl ⟨J1, q1, E, E1, S, ?_, g1, K1, D1, hq1, hl1, hE, fun x hx => ?_, hc1, fun h hb => hh1 h (by omega), ?_, fun K hd V0 z => ref1 K hd V0 (hZ K hd V0 z)⟩
        · simp (disch := first | assumption | omega | exact jx_bz _ | exact jx_z0 | exact jx_z1 | (refine jx_ixB ?_ ?_; omega; omega) | (simp (disch := first | omega | fail) only [jx_lit, pk_mul, nI_add, nI_pred, pk_sub, jx_na, jx_add0, Nat.reduceMul, Nat.reduceAdd, Nat.reduceSub, Nat.reduceEqDiff, Nat.reduceLeDiff, Nat.reduceLT, h3, v1, n60, n61]; refine jx_ixC ?_ ?_; omega; omega) | (simp (disch := first | omega | fail) only [jx_lit, pk_mul, nI_add, nI_pred, pk_sub, jx_na, jx_add0, Nat.reduceMul, Nat.reduceAdd, Nat.reduceSub, Nat.reduceEqDiff, Nat.reduceLeDiff, Nat.reduceLT, jx_cl, nI_leI, Nat.zero_le, true_and, h3, v1, n60, n61]; omega) | fail) only [je_30, jb_30_0, jb_30_9, jb_30_14, jb_30_17, jb_30_18, jb_30_26, jb_30_32, jb_30_33, jb_30_39, jb_30_50, jb_30_56, jb_30_57, jb_30_61, jb_30_67, jb_30_74, jb_30_79, jb_30_81, jb_30_84, jx_nl, jx_nlr, jx_thenS, jx_tlS, jx_tlN, jm_ite_go, jx_rds, jx_rdn, jx_lit, pk_mul, nI_add, nI_pred, pk_sub, jx_na, jx_add0, Nat.reduceMul, Nat.reduceAdd, Nat.reduceSub, Nat.reduceEqDiff, Nat.reduceLeDiff, Nat.reduceLT, Nat.not_lt_zero, jx_cl, nI_leI, nI_ltI, nI_eq, jx_neg, jx_neg', jx_negE, jx_negL, jx_negG, jx_negLE, jx_negN, sb_nlt, sb_nle, jx_b0, jx_b1, jx_bT, jx_bF, ite_true, ite_false, if_true, if_false, reduceIte, Bool.false_eq_true, Bool.true_eq_false, eq_self, Nat.one_ne_zero, Nat.add_sub_cancel, not_true_eq_false, not_false_eq_true, h3, v1, n60, n61]
        · have h1 := hS x hx
          have h2 : jz_lo 4 ≤ jz_lo 3 := by decide
          omega
        · obtain ⟨f1, f2, f3, f4, f5⟩ := hf1
          exact ⟨fun _ => f1 (by decide), fun _ => f2 (by decide), fun _ a => absurd a hT1, fun a => absurd a (by decide), fun a => absurd a (by decide)⟩
    · have n60 : ¬ J1 30 3 = nI 60 := by rw [F1.2.2.1]; decide
      have n61 : ¬ J1 30 3 = nI 61 := by rw [F1.2.2.1]; decide
      refine .inr ⟨J1, f, ?_, g1, F1, fun K hd V0 z => ref1 K hd V0 (hZ K hd V0 z)⟩
      simp (disch := first | assumption | omega | exact jx_bz _ | exact jx_z0 | exact jx_z1 | (refine jx_ixB ?_ ?_; omega; omega) | (simp (disch := first | omega | fail) only [jx_lit, pk_mul, nI_add, nI_pred, pk_sub, jx_na, jx_add0, Nat.reduceMul, Nat.reduceAdd, Nat.reduceSub, Nat.reduceEqDiff, Nat.reduceLeDiff, Nat.reduceLT, h3, v1, n60, n61]; refine jx_ixC ?_ ?_; omega; omega) | (simp (disch := first | omega | fail) only [jx_lit, pk_mul, nI_add, nI_pred, pk_sub, jx_na, jx_add0, Nat.reduceMul, Nat.reduceAdd, Nat.reduceSub, Nat.reduceEqDiff, Nat.reduceLeDiff, Nat.reduceLT, jx_cl, nI_leI, Nat.zero_le, true_and, h3, v1, n60, n61]; omega) | fail) only [je_30, jb_30_0, jb_30_9, jb_30_14, jb_30_17, jb_30_18, jb_30_26, jb_30_32, jb_30_33, jb_30_39, jb_30_50, jb_30_56, jb_30_57, jb_30_61, jb_30_67, jb_30_74, jb_30_79, jb_30_81, jb_30_84, jx_nl, jx_nlr, jx_thenS, jx_tlS, jx_tlN, jm_ite_go, jx_rds, jx_rdn, jx_lit, pk_mul, nI_add, nI_pred, pk_sub, jx_na, jx_add0, Nat.reduceMul, Nat.reduceAdd, Nat.reduceSub, Nat.reduceEqDiff, Nat.reduceLeDiff, Nat.reduceLT, Nat.not_lt_zero, jx_cl, nI_leI, nI_ltI, nI_eq, jx_neg, jx_neg', jx_negE, jx_negL, jx_negG, jx_negLE, jx_negN, sb_nlt, sb_nle, jx_b0, jx_b1, jx_bT, jx_bF, ite_true, ite_false, if_true, if_false, reduceIte, Bool.false_eq_true, Bool.true_eq_false, eq_self, Nat.one_ne_zero, Nat.add_sub_cancel, not_true_eq_false, not_false_eq_true, h3, v1, n60, n61]
theorem jz_oneL {b : Nat → Nat} {s t d o p : Nat} {rho : Nat → Option Nat} {mu : List (Nat × Nat)} (ht : t < 6) (hs : s ≤ 160) (ho : o ≤ 5) (hp : p ≤ s) (hor : o < 5 → ∀ p2, p < p2 → p2 ≤ s → jz_P b s t d rho mu 28 6 (o + 1) p2) (hone : o < 5 → ∀ p2, p < p2 → p2 ≤ s → jz_P1 b s t d rho mu (o + 1) p2) : jz_P1 b s t d rho mu o p := by
  intro j hj e H C he hC hK hD
  obtain ⟨e0, rfl⟩ : ∃ e0, e = e0 + 1 := ⟨e - 1, by omega⟩
  have htv := jz_tv_of b s p
  have k3 := hK.2.2.2.1
  have c1 := jz_ct_1 htv
  have cn := jz_ct_nm htv
  have c45 := jz_ct_pos (n := 45) htv (by omega) (by omega)
  have c40 := jz_ct_pos (n := 40) htv (by omega) (by omega)
  have hq2 := (jz_e_le b hp).2.1
  rw [← k3] at c1 cn c45 c40
  by_cases hN : jz_t b s p = 1 ∨ jz_t b s p = 2
  · have h0 := jz_t_0 hp (show jz_t b s p ≠ 0 by omega)
    have hcd := jz_cd_ok hp hN
    obtain ⟨J1, k47, K1, D1, g1⟩ := jz_add (e := e0) (c := jz_cd b s p) (rho := rho) (mu := mu) ht (by omega) hK hD (by omega)
    obtain ⟨J2, k37, K2, g2⟩ := jz_next (e := e0) (rho := rho) (mu := mu) (by omega) K1 hp
    refine .inl ⟨J2, jz_e b s p, [jz_cd b s p], [jz_cd b s p], [], ?_, jG_tr g1 (jG_lxrd g2), K2, jz_D_lx ht D1 g2, hq2, by show p + 1 ≤ _; omega, by rw [List.append_nil], fun g hg => (by cases hg), fun c hc => by rw [List.mem_singleton.mp hc]; exact hcd.1, fun h hb => ?_, ⟨fun a => absurd a (by decide), fun a => absurd a (by decide), fun a => absurd a (by decide), fun a => absurd a (by decide), fun a => absurd a (by decide)⟩, fun K hd V0 z => ?_⟩
    · rcases hN with hN | hN
      · have h3 : H 30 3 = nI 1 := c1.mpr hN
        have h5 : H 30 5 = jv_cl (jz_cd b s p) := by
          rw [hK.2.2.2.2.2 hN]
          unfold jz_cd
          rw [if_pos hN, jv_cA (by omega), Nat.add_sub_cancel_left]
        simp (disch := first | assumption | omega | exact jx_bz _ | exact jx_z0 | exact jx_z1 | (refine jx_ixB ?_ ?_; omega; omega) | (simp (disch := first | omega | fail) only [jx_lit, pk_mul, nI_add, nI_pred, pk_sub, jx_na, jx_add0, Nat.reduceMul, Nat.reduceAdd, Nat.reduceSub, Nat.reduceEqDiff, Nat.reduceLeDiff, Nat.reduceLT, h3, h5, k47, k37]; refine jx_ixC ?_ ?_; omega; omega) | (simp (disch := first | omega | fail) only [jx_lit, pk_mul, nI_add, nI_pred, pk_sub, jx_na, jx_add0, Nat.reduceMul, Nat.reduceAdd, Nat.reduceSub, Nat.reduceEqDiff, Nat.reduceLeDiff, Nat.reduceLT, jx_cl, nI_leI, Nat.zero_le, true_and, h3, h5, k47, k37]; omega) | fail) only [je_33, jb_33_0, jb_33_8, jb_33_16, jb_33_20, jb_33_23, jb_33_31, jb_33_40, jb_33_48, jb_33_52, jb_33_55, jb_33_64, jb_33_69, jb_33_72, jb_33_73, jb_33_81, jb_33_87, jb_33_90, jb_33_99, jb_33_104, jb_33_107, jb_33_108, jb_33_116, jb_33_122, jb_33_125, jb_33_129, jx_nl, jx_nlr, jx_thenS, jx_tlS, jx_tlN, jm_ite_go, jx_rds, jx_rdn, jx_lit, pk_mul, nI_add, nI_pred, pk_sub, jx_na, jx_add0, Nat.reduceMul, Nat.reduceAdd, Nat.reduceSub, Nat.reduceEqDiff, Nat.reduceLeDiff, Nat.reduceLT, Nat.not_lt_zero, jx_cl, nI_leI, nI_ltI, nI_eq, jx_neg, jx_neg', jx_negE, jx_negL, jx_negG, jx_negLE, jx_negN, sb_nlt, sb_nle, jx_b0, jx_b1, jx_bT, jx_bF, ite_true, ite_false, if_true, if_false, reduceIte, Bool.false_eq_true, Bool.true_eq_false, eq_self, Nat.one_ne_zero, Nat.add_sub_cancel, not_true_eq_false, not_false_eq_true, h3, h5, k47, k37]
      · have h3 : ¬ H 30 3 = nI 1 := fun q => by have := c1.mp q; omega
        obtain ⟨h4, h5⟩ := cn.mpr hN
        have h6 : H 30 3 = jv_cl (jz_cd b s p) := by
          rw [k3, hN]
          unfold jz_cd
          rw [if_neg (by omega), jv_cB (jz_vw_lt hN)]
          rfl
        rw [← h6] at k47
        simp (disch := first | assumption | omega | exact jx_bz _ | exact jx_z0 | exact jx_z1 | (refine jx_ixB ?_ ?_; omega; omega) | (simp (disch := first | omega | fail) only [jx_lit, pk_mul, nI_add, nI_pred, pk_sub, jx_na, jx_add0, Nat.reduceMul, Nat.reduceAdd, Nat.reduceSub, Nat.reduceEqDiff, Nat.reduceLeDiff, Nat.reduceLT, h3, h4, h5, k47, k37]; refine jx_ixC ?_ ?_; omega; omega) | (simp (disch := first | omega | fail) only [jx_lit, pk_mul, nI_add, nI_pred, pk_sub, jx_na, jx_add0, Nat.reduceMul, Nat.reduceAdd, Nat.reduceSub, Nat.reduceEqDiff, Nat.reduceLeDiff, Nat.reduceLT, jx_cl, nI_leI, Nat.zero_le, true_and, h3, h4, h5, k47, k37]; omega) | fail) only [je_33, jb_33_0, jb_33_8, jb_33_16, jb_33_20, jb_33_23, jb_33_31, jb_33_40, jb_33_48, jb_33_52, jb_33_55, jb_33_64, jb_33_69, jb_33_72, jb_33_73, jb_33_81, jb_33_87, jb_33_90, jb_33_99, jb_33_104, jb_33_107, jb_33_108, jb_33_116, jb_33_122, jb_33_125, jb_33_129, jx_nl, jx_nlr, jx_thenS, jx_tlS, jx_tlN, jm_ite_go, jx_rds, jx_rdn, jx_lit, pk_mul, nI_add, nI_pred, pk_sub, jx_na, jx_add0, Nat.reduceMul, Nat.reduceAdd, Nat.reduceSub, Nat.reduceEqDiff, Nat.reduceLeDiff, Nat.reduceLT, Nat.not_lt_zero, jx_cl, nI_leI, nI_ltI, nI_eq, jx_neg, jx_neg', jx_negE, jx_negL, jx_negG, jx_negLE, jx_negN, sb_nlt, sb_nle, jx_b0, jx_b1, jx_bT, jx_bF, ite_true, ite_false, if_true, if_false, reduceIte, Bool.false_eq_true, Bool.true_eq_false, eq_self, Nat.one_ne_zero, Nat.add_sub_cancel, not_true_eq_false, not_false_eq_true, h3, h4, h5, k47, k37]
    · rw [jv_h, hcd.2, if_pos (by omega)]
      show jv_h [] _ = _
      rw [jv_h]; congr 1
    · obtain ⟨mn, l3, z1, z2, z3, z4, z5⟩ := z
      obtain ⟨K1', r1, r2, r3⟩ := jr_num (d := d) (rho := rho) (mu := mu) (mn := mn) (l3 := l3) (o := o - j) (j := j) hp (by rw [show o - j + j = o by omega]; exact z3) z5 z4 hN
      exact ⟨K1', mn, l3, z1.trans r1, r2, r3⟩
  · have h1 : ¬ H 30 3 = nI 1 := fun q => hN (.inl (c1.mp q))
    have hnm : -nI 1 < H 30 3 ∨ ¬ -nI 1 < H 30 3 ∧ H 30 3 < -nI 6 := by
      by_cases q : -nI 1 < H 30 3
      · exact .inl q
      · by_cases q2 : H 30 3 < -nI 6
        · exact .inr ⟨q, q2⟩
        · exact absurd (cn.mp ⟨q, q2⟩) fun q => hN (.inr q)
    -- up to 55
    have e55 : jm_ev (e0 + 1) 33 [.ref 30, .ref (6 + 4 * t), .int (nI o)] (jm_hp H rho mu) = jm_go (jm_ev e0) 33 (55, [some (.ref 30), some (.ref (6 + 4 * t)), some (.int (nI o))], [], jm_hp H rho mu) := by
      rw [je_33]
      rcases hnm with q | ⟨q, q2⟩
      · simp (disch := first | assumption | omega | fail) only [jb_33_0, jb_33_23, jx_lit, h1, q, if_true, if_false, ite_true, ite_false]
      · simp (disch := first | assumption | omega | fail) only [jb_33_0, jb_33_23, jb_33_31, jx_lit, h1, q, q2, if_true, if_false, ite_true, ite_false]
    rw [e55]
    by_cases h45 : jz_t b s p = 45
    · have h3 : H 30 3 = nI 45 := c45.mpr h45
      have h0 := jz_t_0 hp (show jz_t b s p ≠ 0 by omega)
      by_cases h5 : o < 5
      · obtain ⟨J1, k34, K1, g1⟩ := jz_may (e := e0) (rho := rho) (mu := mu) (by omega) hK hp h5
        have D1 := jz_D_lx ht hD g1
        have hZ : ∀ K hd V0, jz_Z1 b s t d rho mu j o p C K hd V0 → ∃ K1, jz_Z1 b s t d rho mu (j + 1) (o + 1) (jz_e b s p) C K1 hd V0 ∧ jG (jS_rm t) K K1 := fun K hd V0 z => by
          obtain ⟨mn, l3, z1, z2, z3, z4, z5⟩ := z
          obtain ⟨K1, r1, r2, r3⟩ := (jr_neg (d := d) (rho := rho) (mu := mu) (mn := mn) (l3 := l3) hp z3 z4 h45).1 h5
          exact ⟨K1, ⟨0, l3, z1.trans r1, .inl rfl, r2, by rw [List.replicate_succ, List.cons_append, List.length_cons]; omega, z5⟩, r3⟩
        rcases hone h5 (jz_e b s p) (by omega) hq2 (j + 1) (by omega) e0 J1 C (by omega) (by omega) K1 D1 with ⟨J2, q2, E2, E21, S2, v1, g2, K2, D2, hq3, hl2, hE2, hS2, hc2, hh2, hf2, ref2⟩ | ⟨J2, f, v1, g2, F2, ref2⟩
        · have hS0 : S2 = [] := by
            cases S2 with
            | nil => rfl
            | cons x l =>
              have h1 := (hS2 x List.mem_cons_self).1
              have h2 : jz_lo 1 = 8 := by decide
              have h3 := jz_rk_lt x
              omega
          subst hS0
          rw [List.append_nil] at hE2
          subst hE2
          have hlen : (C ++ E2).length < 160 := by rw [List.length_append]; omega
          obtain ⟨J3, k47, K3, D3, g3⟩ := jz_add (e := e0) (c := 19) (rho := rho) (mu := mu) ht (by omega) K2 D2 hlen
          have ecl : jv_cl 19 = -nI 15 := by decide
          rw [ecl] at k47
          refine .inl ⟨J3, q2, E2 ++ [19], E2 ++ [19], [], ?_, jG_tr (jG_tr (jG_lxrd g1) g2) g3, K3, by rw [← List.append_assoc]; exact D3, hq3, by rw [List.length_append]; show p + (E2.length + 1) ≤ q2; omega, by rw [List.append_nil], fun g hg => (by cases hg), fun c hc => ?_, fun h hb => ?_, hf2, fun K hd V0 z => ?_⟩
          · simp (disch := first | assumption | omega | exact jx_bz _ | exact jx_z0 | exact jx_z1 | (refine jx_ixB ?_ ?_; omega; omega) | (simp (disch := first | omega | fail) only [jx_lit, pk_mul, nI_add, nI_pred, pk_sub, jx_na, jx_add0, Nat.reduceMul, Nat.reduceAdd, Nat.reduceSub, Nat.reduceEqDiff, Nat.reduceLeDiff, Nat.reduceLT, h3, k34, v1, k47]; refine jx_ixC ?_ ?_; omega; omega) | (simp (disch := first | omega | fail) only [jx_lit, pk_mul, nI_add, nI_pred, pk_sub, jx_na, jx_add0, Nat.reduceMul, Nat.reduceAdd, Nat.reduceSub, Nat.reduceEqDiff, Nat.reduceLeDiff, Nat.reduceLT, jx_cl, nI_leI, Nat.zero_le, true_and, h3, k34, v1, k47]; omega) | fail) only [jb_33_0, jb_33_8, jb_33_16, jb_33_20, jb_33_23, jb_33_31, jb_33_40, jb_33_48, jb_33_52, jb_33_55, jb_33_64, jb_33_69, jb_33_72, jb_33_73, jb_33_81, jb_33_87, jb_33_90, jb_33_99, jb_33_104, jb_33_107, jb_33_108, jb_33_116, jb_33_122, jb_33_125, jb_33_129, jx_nl, jx_nlr, jx_thenS, jx_tlS, jx_tlN, jm_ite_go, jx_rds, jx_rdn, jx_lit, pk_mul, nI_add, nI_pred, pk_sub, jx_na, jx_add0, Nat.reduceMul, Nat.reduceAdd, Nat.reduceSub, Nat.reduceEqDiff, Nat.reduceLeDiff, Nat.reduceLT, Nat.not_lt_zero, jx_cl, nI_leI, nI_ltI, nI_eq, jx_neg, jx_neg', jx_negE, jx_negL, jx_negG, jx_negLE, jx_negN, sb_nlt, sb_nle, jx_b0, jx_b1, jx_bT, jx_bF, ite_true, ite_false, if_true, if_false, reduceIte, Bool.false_eq_true, Bool.true_eq_false, eq_self, Nat.one_ne_zero, Nat.add_sub_cancel, not_true_eq_false, not_false_eq_true, h3, k34, v1, k47]
          · rcases List.mem_append.mp hc with h | h
            · exact hc2 c h
            · rw [List.mem_singleton.mp h]; exact .inr (.inl (by omega))
          · rw [jv_h_app, hh2 h (by omega)]
            show jv_h [19] (h + 1) = _
            rw [jv_h, show jv_n 19 = 1 from rfl, if_pos (by omega)]
            rfl
          · obtain ⟨K1', z1, r1⟩ := hZ K hd V0 z
            obtain ⟨K2', mn, l3, a1, a2, a3⟩ := ref2 K1' hd V0 z1
            refine ⟨K2', mn, l3, a1, ?_, jG_tr r1 a3⟩
            dsimp only at a2 ⊢
            rw [show o + 1 - (j + 1) = o - j by omega, List.replicate_succ] at a2
            rw [List.append_assoc E2, List.singleton_append]
            exact a2
        · obtain ⟨J3, k47, F3, g3⟩ := jz_F_add (e := e0) (x := -nI 15) (rho := rho) (mu := mu) ht (by omega) F2
          refine .inr ⟨J3, f, ?_, jG_tr (jG_tr (jG_lxrd g1) g2) g3, F3, fun K hd V0 z => ?_⟩
          · simp (disch := first | assumption | omega | exact jx_bz _ | exact jx_z0 | exact jx_z1 | (refine jx_ixB ?_ ?_; omega; omega) | (simp (disch := first | omega | fail) only [jx_lit, pk_mul, nI_add, nI_pred, pk_sub, jx_na, jx_add0, Nat.reduceMul, Nat.reduceAdd, Nat.reduceSub, Nat.reduceEqDiff, Nat.reduceLeDiff, Nat.reduceLT, h3, k34, v1, k47]; refine jx_ixC ?_ ?_; omega; omega) | (simp (disch := first | omega | fail) only [jx_lit, pk_mul, nI_add, nI_pred, pk_sub, jx_na, jx_add0, Nat.reduceMul, Nat.reduceAdd, Nat.reduceSub, Nat.reduceEqDiff, Nat.reduceLeDiff, Nat.reduceLT, jx_cl, nI_leI, Nat.zero_le, true_and, h3, k34, v1, k47]; omega) | fail) only [jb_33_0, jb_33_8, jb_33_16, jb_33_20, jb_33_23, jb_33_31, jb_33_40, jb_33_48, jb_33_52, jb_33_55, jb_33_64, jb_33_69, jb_33_72, jb_33_73, jb_33_81, jb_33_87, jb_33_90, jb_33_99, jb_33_104, jb_33_107, jb_33_108, jb_33_116, jb_33_122, jb_33_125, jb_33_129, jx_nl, jx_nlr, jx_thenS, jx_tlS, jx_tlN, jm_ite_go, jx_rds, jx_rdn, jx_lit, pk_mul, nI_add, nI_pred, pk_sub, jx_na, jx_add0, Nat.reduceMul, Nat.reduceAdd, Nat.reduceSub, Nat.reduceEqDiff, Nat.reduceLeDiff, Nat.reduceLT, Nat.not_lt_zero, jx_cl, nI_leI, nI_ltI, nI_eq, jx_neg, jx_neg', jx_negE, jx_negL, jx_negG, jx_negLE, jx_negN, sb_nlt, sb_nle, jx_b0, jx_b1, jx_bT, jx_bF, ite_true, ite_false, if_true, if_false, reduceIte, Bool.false_eq_true, Bool.true_eq_false, eq_self, Nat.one_ne_zero, Nat.add_sub_cancel, not_true_eq_false, not_false_eq_true, h3, k34, v1, k47]
          · obtain ⟨K1', z1, r1⟩ := hZ K hd V0 z
            obtain ⟨K2', z2, a1, a2, a3⟩ := ref2 K1' hd V0 z1
            exact ⟨K2', z2, a1, jG_tr r1 a2, a3⟩
      · have h5' : o = 5 := by omega
        subst h5'
        obtain ⟨J1, k34, F1, g1⟩ := jz_mayN (e := e0) (rho := rho) (mu := mu) ht (by omega) hK hD hp
        refine .inr ⟨J1, _, ?_, g1, F1, fun K hd V0 z => ?_⟩
        · simp (disch := first | assumption | omega | exact jx_bz _ | exact jx_z0 | exact jx_z1 | (refine jx_ixB ?_ ?_; omega; omega) | (simp (disch := first | omega | fail) only [jx_lit, pk_mul, nI_add, nI_pred, pk_sub, jx_na, jx_add0, Nat.reduceMul, Nat.reduceAdd, Nat.reduceSub, Nat.reduceEqDiff, Nat.reduceLeDiff, Nat.reduceLT, h3, k34]; refine jx_ixC ?_ ?_; omega; omega) | (simp (disch := first | omega | fail) only [jx_lit, pk_mul, nI_add, nI_pred, pk_sub, jx_na, jx_add0, Nat.reduceMul, Nat.reduceAdd, Nat.reduceSub, Nat.reduceEqDiff, Nat.reduceLeDiff, Nat.reduceLT, jx_cl, nI_leI, Nat.zero_le, true_and, h3, k34]; omega) | fail) only [jb_33_0, jb_33_8, jb_33_16, jb_33_20, jb_33_23, jb_33_31, jb_33_40, jb_33_48, jb_33_52, jb_33_55, jb_33_64, jb_33_69, jb_33_72, jb_33_73, jb_33_81, jb_33_87, jb_33_90, jb_33_99, jb_33_104, jb_33_107, jb_33_108, jb_33_116, jb_33_122, jb_33_125, jb_33_129, jx_nl, jx_nlr, jx_thenS, jx_tlS, jx_tlN, jm_ite_go, jx_rds, jx_rdn, jx_lit, pk_mul, nI_add, nI_pred, pk_sub, jx_na, jx_add0, Nat.reduceMul, Nat.reduceAdd, Nat.reduceSub, Nat.reduceEqDiff, Nat.reduceLeDiff, Nat.reduceLT, Nat.not_lt_zero, jx_cl, nI_leI, nI_ltI, nI_eq, jx_neg, jx_neg', jx_negE, jx_negL, jx_negG, jx_negLE, jx_negN, sb_nlt, sb_nle, jx_b0, jx_b1, jx_bT, jx_bF, ite_true, ite_false, if_true, if_false, reduceIte, Bool.false_eq_true, Bool.true_eq_false, eq_self, Nat.one_ne_zero, Nat.add_sub_cancel, not_true_eq_false, not_false_eq_true, h3, k34]
        · obtain ⟨mn, l3, z1, z2, z3, z4, z5⟩ := z
          obtain ⟨K1, r1, r2, r3, r4⟩ := (jr_neg (d := d) (rho := rho) (mu := mu) (mn := mn) (l3 := l3) hp z3 z4 h45).2 rfl
          exact ⟨K1, C.length, z1.trans r1, r2, r3, r4, by omega⟩
    · have n45 : ¬ H 30 3 = nI 45 := fun q => h45 (c45.mp q)
      by_cases h40 : jz_t b s p = 40
      · have h3 : H 30 3 = nI 40 := c40.mpr h40
        have h0 := jz_t_0 hp (show jz_t b s p ≠ 0 by omega)
        by_cases h5 : o < 5
        · obtain ⟨J1, k34, K1, g1⟩ := jz_may (e := e0) (rho := rho) (mu := mu) (by omega) hK hp h5
          have D1 := jz_D_lx ht hD g1
          have hZ : ∀ K hd V0, jz_Z1 b s t d rho mu j o p C K hd V0 → ∃ K1, jz_Z b s t d rho mu 6 (o + 1) (jz_e b s p) C K1 (0 :: (List.replicate j 19 ++ hd)) V0 ∧ jG (jS_rm t) K K1 := fun K hd V0 z => by
            obtain ⟨mn, l3, z1, z2, z3, z4, z5⟩ := z
            obtain ⟨K1, r1, r2, r3⟩ := (jr_par (d := d) (rho := rho) (mu := mu) (mn := mn) (l3 := l3) hp z3 z4 h40).1 h5
            exact ⟨K1, ⟨1, l3, z1.trans r1, by rw [if_pos (by decide)], r2, by rw [List.length_cons]; omega, fun g l hg => by cases hg; decide⟩, r3⟩
          rcases hor h5 (jz_e b s p) (by omega) hq2 e0 J1 C (by omega) (by omega) K1 D1 with ⟨J2, q2, E2, E21, S2, v1, g2, K2, D2, hq3, hl2, hE2, hS2, hc2, hh2, hf2, ref2⟩ | ⟨J2, f, v1, g2, F2, ref2⟩
          · have htv2 := jz_tv_of b s q2
            have k32 := K2.2.2.2.1
            have hz5 : ∀ K hd V0, jz_Z1 b s t d rho mu j o p C K hd V0 → jz_hr hd 7 := fun K hd V0 z => by
              obtain ⟨_, _, _, _, _, _, z5⟩ := z
              exact z5
            have hS21 : ∀ x, x ∈ S2 → 1 ≤ jz_rk x := fun x hx => by
              have h1 := (hS2 x hx).1
              have h2 : jz_lo 6 = 1 := by decide
              omega
            by_cases h41 : jz_t b s q2 = 41
            · have i3 : J2 30 3 = nI 41 := by rw [k32]; exact (jz_ct_pos htv2 (by omega) (by omega)).mpr h41
              have h02 := jz_t_0 hq3 (show jz_t b s q2 ≠ 0 by omega)
              obtain ⟨J3, k35, K3, g3⟩ := jz_take (e := e0) (rho := rho) (mu := mu) (by omega) K2 hq3 i3
              refine .inl ⟨J3, jz_e b s q2, E2, E2, [], ?_, jG_tr (jG_tr (jG_lxrd g1) g2) (jG_lxrd g3), K3, jz_D_lx ht D2 g3, (jz_e_le b hq3).2.1, by omega, by rw [List.append_nil], fun g hg => (by cases hg), hc2, fun h hb => hh2 h (by omega), ⟨fun a => absurd a (by decide), fun a => absurd a (by decide), fun a => absurd a (by decide), fun a => absurd a (by decide), fun a => absurd a (by decide)⟩, fun K hd V0 z => ?_⟩
              · simp (disch := first | assumption | omega | exact jx_bz _ | exact jx_z0 | exact jx_z1 | (refine jx_ixB ?_ ?_; omega; omega) | (simp (disch := first | omega | fail) only [jx_lit, pk_mul, nI_add, nI_pred, pk_sub, jx_na, jx_add0, Nat.reduceMul, Nat.reduceAdd, Nat.reduceSub, Nat.reduceEqDiff, Nat.reduceLeDiff, Nat.reduceLT, n45, h3, k34, v1, k35]; refine jx_ixC ?_ ?_; omega; omega) | (simp (disch := first | omega | fail) only [jx_lit, pk_mul, nI_add, nI_pred, pk_sub, jx_na, jx_add0, Nat.reduceMul, Nat.reduceAdd, Nat.reduceSub, Nat.reduceEqDiff, Nat.reduceLeDiff, Nat.reduceLT, jx_cl, nI_leI, Nat.zero_le, true_and, n45, h3, k34, v1, k35]; omega) | fail) only [jb_33_0, jb_33_8, jb_33_16, jb_33_20, jb_33_23, jb_33_31, jb_33_40, jb_33_48, jb_33_52, jb_33_55, jb_33_64, jb_33_69, jb_33_72, jb_33_73, jb_33_81, jb_33_87, jb_33_90, jb_33_99, jb_33_104, jb_33_107, jb_33_108, jb_33_116, jb_33_122, jb_33_125, jb_33_129, jx_nl, jx_nlr, jx_thenS, jx_tlS, jx_tlN, jm_ite_go, jx_rds, jx_rdn, jx_lit, pk_mul, nI_add, nI_pred, pk_sub, jx_na, jx_add0, Nat.reduceMul, Nat.reduceAdd, Nat.reduceSub, Nat.reduceEqDiff, Nat.reduceLeDiff, Nat.reduceLT, Nat.not_lt_zero, jx_cl, nI_leI, nI_ltI, nI_eq, jx_neg, jx_neg', jx_negE, jx_negL, jx_negG, jx_negLE, jx_negN, sb_nlt, sb_nle, jx_b0, jx_b1, jx_bT, jx_bF, ite_true, ite_false, if_true, if_false, reduceIte, Bool.false_eq_true, Bool.true_eq_false, eq_self, Nat.one_ne_zero, Nat.add_sub_cancel, not_true_eq_false, not_false_eq_true, n45, h3, k34, v1, k35]
              · obtain ⟨K1', z1, r1⟩ := hZ K hd V0 z
                obtain ⟨K2', mn, l3, a1, a2, a3⟩ := ref2 K1' _ V0 z1
                obtain ⟨K3', b1, b2, b3⟩ := jr_close (d := d) (rho := rho) (mu := mu) (mn := mn) (l3 := l3) (o := o - j) (j := j) hq3 h41 (by rw [show o - j + j + 1 = o + 1 by omega]; exact a2) hS21 (hz5 K hd V0 z)
                refine ⟨K3', mn, l3, a1.trans b1, ?_, jG_tr (jG_tr r1 a3) b3⟩
                rw [hE2]
                dsimp only at b2 ⊢
                rw [show C ++ (E21 ++ S2 ++ List.replicate j 19) = C ++ E21 ++ S2 ++ List.replicate j 19 by simp]
                exact b2
            · have i3 : ¬ J2 30 3 = nI 41 := by rw [k32, jz_ct_pos htv2 (by omega) (by omega)]; exact h41
              obtain ⟨J3, k35, F3, g3⟩ := jz_takeN (e := e0) (rho := rho) (mu := mu) ht (by omega) K2 D2 hq3 i3
              refine .inr ⟨J3, _, ?_, jG_tr (jG_tr (jG_lxrd g1) g2) g3, F3, fun K hd V0 z => ?_⟩
              · simp (disch := first | assumption | omega | exact jx_bz _ | exact jx_z0 | exact jx_z1 | (refine jx_ixB ?_ ?_; omega; omega) | (simp (disch := first | omega | fail) only [jx_lit, pk_mul, nI_add, nI_pred, pk_sub, jx_na, jx_add0, Nat.reduceMul, Nat.reduceAdd, Nat.reduceSub, Nat.reduceEqDiff, Nat.reduceLeDiff, Nat.reduceLT, n45, h3, k34, v1, k35]; refine jx_ixC ?_ ?_; omega; omega) | (simp (disch := first | omega | fail) only [jx_lit, pk_mul, nI_add, nI_pred, pk_sub, jx_na, jx_add0, Nat.reduceMul, Nat.reduceAdd, Nat.reduceSub, Nat.reduceEqDiff, Nat.reduceLeDiff, Nat.reduceLT, jx_cl, nI_leI, Nat.zero_le, true_and, n45, h3, k34, v1, k35]; omega) | fail) only [jb_33_0, jb_33_8, jb_33_16, jb_33_20, jb_33_23, jb_33_31, jb_33_40, jb_33_48, jb_33_52, jb_33_55, jb_33_64, jb_33_69, jb_33_72, jb_33_73, jb_33_81, jb_33_87, jb_33_90, jb_33_99, jb_33_104, jb_33_107, jb_33_108, jb_33_116, jb_33_122, jb_33_125, jb_33_129, jx_nl, jx_nlr, jx_thenS, jx_tlS, jx_tlN, jm_ite_go, jx_rds, jx_rdn, jx_lit, pk_mul, nI_add, nI_pred, pk_sub, jx_na, jx_add0, Nat.reduceMul, Nat.reduceAdd, Nat.reduceSub, Nat.reduceEqDiff, Nat.reduceLeDiff, Nat.reduceLT, Nat.not_lt_zero, jx_cl, nI_leI, nI_ltI, nI_eq, jx_neg, jx_neg', jx_negE, jx_negL, jx_negG, jx_negLE, jx_negN, sb_nlt, sb_nle, jx_b0, jx_b1, jx_bT, jx_bF, ite_true, ite_false, if_true, if_false, reduceIte, Bool.false_eq_true, Bool.true_eq_false, eq_self, Nat.one_ne_zero, Nat.add_sub_cancel, not_true_eq_false, not_false_eq_true, n45, h3, k34, v1, k35]
              · obtain ⟨K1', z1, r1⟩ := hZ K hd V0 z
                obtain ⟨K2', mn, l3, a1, a2, a3⟩ := ref2 K1' _ V0 z1
                have hr := jG_tr r1 a3
                have hlen := a2.2.2.2.2.2.2.2.1
                dsimp only at a2 hlen
                have lo6 : jz_lo 6 = 1 := by decide
                obtain ⟨f1, f2, f3, f4, f5⟩ := hf2
                by_cases h59 : jz_t b s q2 = 59
                · obtain ⟨K3', b1, b2, b3, b4⟩ := jr_semi (d := d) (rho := rho) (mu := mu) (mn := mn) (l3 := l3) (o := o + 1) hq3 h59 a2 (fun x hx => by have := (hS2 x hx).1; omega) (fun g l hg => by cases hg; decide)
                  rw [List.length_cons, if_neg (by omega)] at b1
                  exact ⟨K3', _, a1.trans b1, jG_tr hr b2, b3, b4.2.2.2.2.2.1.1, by have := b4.2.2.2.2.2.2.2.1; omega⟩
                · by_cases h60 : jz_t b s q2 = 60 ∨ jz_t b s q2 = 61
                  · obtain ⟨S5, x, S6, hx1, hx2, hx3⟩ := f3 (by decide) h60
                    rw [hx1, List.append_assoc, List.cons_append] at a2
                    have a2' : jz_R K2' b s t q2 (S5 ++ x :: (S6 ++ 0 :: (List.replicate j 19 ++ hd))) (o + 1 + jz_no (x :: S6) + jz_no S5) (C ++ E21) := by
                      rw [jz_no_app] at a2
                      rw [show o + 1 + jz_no (x :: S6) + jz_no S5 = o + 1 + (jz_no S5 + jz_no (x :: S6)) by omega]
                      exact a2
                    obtain ⟨K3', b1, b2, b3, b4⟩ := jr_cmp2 (d := d) (rho := rho) (mu := mu) (mn := mn) (l3 := l3) hq3 h60 hx3 a2' hx2
                    refine ⟨K3', _, a1.trans b1, jG_tr hr b2, b3, b4, ?_⟩
                    rw [hx1] at hlen
                    simp only [List.length_append, List.length_cons] at hlen ⊢
                    omega
                  · have hsg : jz_sg (jz_t b s q2) = 0 := by
                      apply Classical.byContradiction
                      intro q
                      have h1 := (jz_sg_T q).1
                      have h2 := f1 (by decide)
                      have h3 := f2 (by decide)
                      have h4 := f4 (by decide)
                      have h5 := f5 (by decide)
                      omega
                    obtain ⟨K3', b1, b2, b3, b4⟩ := jr_bad0 (d := d) (rho := rho) (mu := mu) (mn := mn) (l3 := l3) hq3 a2 hsg h59 h41
                    exact ⟨K3', _, a1.trans b1, jG_tr hr b2, b3, b4, by omega⟩
          · obtain ⟨J3, k35, F3, g3⟩ := jz_F_take (e := e0) (due := nI 41) (rho := rho) (mu := mu) ht (by omega) F2 (by decide)
            refine .inr ⟨J3, f, ?_, jG_tr (jG_tr (jG_lxrd g1) g2) g3, F3, fun K hd V0 z => ?_⟩
            · simp (disch := first | assumption | omega | exact jx_bz _ | exact jx_z0 | exact jx_z1 | (refine jx_ixB ?_ ?_; omega; omega) | (simp (disch := first | omega | fail) only [jx_lit, pk_mul, nI_add, nI_pred, pk_sub, jx_na, jx_add0, Nat.reduceMul, Nat.reduceAdd, Nat.reduceSub, Nat.reduceEqDiff, Nat.reduceLeDiff, Nat.reduceLT, n45, h3, k34, v1, k35]; refine jx_ixC ?_ ?_; omega; omega) | (simp (disch := first | omega | fail) only [jx_lit, pk_mul, nI_add, nI_pred, pk_sub, jx_na, jx_add0, Nat.reduceMul, Nat.reduceAdd, Nat.reduceSub, Nat.reduceEqDiff, Nat.reduceLeDiff, Nat.reduceLT, jx_cl, nI_leI, Nat.zero_le, true_and, n45, h3, k34, v1, k35]; omega) | fail) only [jb_33_0, jb_33_8, jb_33_16, jb_33_20, jb_33_23, jb_33_31, jb_33_40, jb_33_48, jb_33_52, jb_33_55, jb_33_64, jb_33_69, jb_33_72, jb_33_73, jb_33_81, jb_33_87, jb_33_90, jb_33_99, jb_33_104, jb_33_107, jb_33_108, jb_33_116, jb_33_122, jb_33_125, jb_33_129, jx_nl, jx_nlr, jx_thenS, jx_tlS, jx_tlN, jm_ite_go, jx_rds, jx_rdn, jx_lit, pk_mul, nI_add, nI_pred, pk_sub, jx_na, jx_add0, Nat.reduceMul, Nat.reduceAdd, Nat.reduceSub, Nat.reduceEqDiff, Nat.reduceLeDiff, Nat.reduceLT, Nat.not_lt_zero, jx_cl, nI_leI, nI_ltI, nI_eq, jx_neg, jx_neg', jx_negE, jx_negL, jx_negG, jx_negLE, jx_negN, sb_nlt, sb_nle, jx_b0, jx_b1, jx_bT, jx_bF, ite_true, ite_false, if_true, if_false, reduceIte, Bool.false_eq_true, Bool.true_eq_false, eq_self, Nat.one_ne_zero, Nat.add_sub_cancel, not_true_eq_false, not_false_eq_true, n45, h3, k34, v1, k35]
            · obtain ⟨K1', z1, r1⟩ := hZ K hd V0 z
              obtain ⟨K2', z2, a1, a2, a3⟩ := ref2 K1' _ V0 z1
              exact ⟨K2', z2, a1, jG_tr r1 a2, a3⟩
        · have h5' : o = 5 := by omega
          subst h5'
          obtain ⟨J1, k34, F1, g1⟩ := jz_mayN (e := e0) (rho := rho) (mu := mu) ht (by omega) hK hD hp
          refine .inr ⟨J1, _, ?_, g1, F1, fun K hd V0 z => ?_⟩
          · simp (disch := first | assumption | omega | exact jx_bz _ | exact jx_z0 | exact jx_z1 | (refine jx_ixB ?_ ?_; omega; omega) | (simp (disch := first | omega | fail) only [jx_lit, pk_mul, nI_add, nI_pred, pk_sub, jx_na, jx_add0, Nat.reduceMul, Nat.reduceAdd, Nat.reduceSub, Nat.reduceEqDiff, Nat.reduceLeDiff, Nat.reduceLT, n45, h3, k34]; refine jx_ixC ?_ ?_; omega; omega) | (simp (disch := first | omega | fail) only [jx_lit, pk_mul, nI_add, nI_pred, pk_sub, jx_na, jx_add0, Nat.reduceMul, Nat.reduceAdd, Nat.reduceSub, Nat.reduceEqDiff, Nat.reduceLeDiff, Nat.reduceLT, jx_cl, nI_leI, Nat.zero_le, true_and, n45, h3, k34]; omega) | fail) only [jb_33_0, jb_33_8, jb_33_16, jb_33_20, jb_33_23, jb_33_31, jb_33_40, jb_33_48, jb_33_52, jb_33_55, jb_33_64, jb_33_69, jb_33_72, jb_33_73, jb_33_81, jb_33_87, jb_33_90, jb_33_99, jb_33_104, jb_33_107, jb_33_108, jb_33_116, jb_33_122, jb_33_125, jb_33_129, jx_nl, jx_nlr, jx_thenS, jx_tlS, jx_tlN, jm_ite_go, jx_rds, jx_rdn, jx_lit, pk_mul, nI_add, nI_pred, pk_sub, jx_na, jx_add0, Nat.reduceMul, Nat.reduceAdd, Nat.reduceSub, Nat.reduceEqDiff, Nat.reduceLeDiff, Nat.reduceLT, Nat.not_lt_zero, jx_cl, nI_leI, nI_ltI, nI_eq, jx_neg, jx_neg', jx_negE, jx_negL, jx_negG, jx_negLE, jx_negN, sb_nlt, sb_nle, jx_b0, jx_b1, jx_bT, jx_bF, ite_true, ite_false, if_true, if_false, reduceIte, Bool.false_eq_true, Bool.true_eq_false, eq_self, Nat.one_ne_zero, Nat.add_sub_cancel, not_true_eq_false, not_false_eq_true, n45, h3, k34]
          · obtain ⟨mn, l3, z1, z2, z3, z4, z5⟩ := z
            obtain ⟨K1, r1, r2, r3, r4⟩ := (jr_par (d := d) (rho := rho) (mu := mu) (mn := mn) (l3 := l3) hp z3 z4 h40).2 rfl
            exact ⟨K1, C.length, z1.trans r1, r2, r3, r4, by omega⟩
      · have n40 : ¬ H 30 3 = nI 40 := fun q => h40 (c40.mp q)
        obtain ⟨J1, k36, F1, g1⟩ := jz_fail (e := e0) (rho := rho) (mu := mu) ht (by omega) hK hD hp
        refine .inr ⟨J1, _, ?_, g1, F1, fun K hd V0 z => ?_⟩
        · simp (disch := first | assumption | omega | exact jx_bz _ | exact jx_z0 | exact jx_z1 | (refine jx_ixB ?_ ?_; omega; omega) | (simp (disch := first | omega | fail) only [jx_lit, pk_mul, nI_add, nI_pred, pk_sub, jx_na, jx_add0, Nat.reduceMul, Nat.reduceAdd, Nat.reduceSub, Nat.reduceEqDiff, Nat.reduceLeDiff, Nat.reduceLT, n45, n40, k36]; refine jx_ixC ?_ ?_; omega; omega) | (simp (disch := first | omega | fail) only [jx_lit, pk_mul, nI_add, nI_pred, pk_sub, jx_na, jx_add0, Nat.reduceMul, Nat.reduceAdd, Nat.reduceSub, Nat.reduceEqDiff, Nat.reduceLeDiff, Nat.reduceLT, jx_cl, nI_leI, Nat.zero_le, true_and, n45, n40, k36]; omega) | fail) only [jb_33_0, jb_33_8, jb_33_16, jb_33_20, jb_33_23, jb_33_31, jb_33_40, jb_33_48, jb_33_52, jb_33_55, jb_33_64, jb_33_69, jb_33_72, jb_33_73, jb_33_81, jb_33_87, jb_33_90, jb_33_99, jb_33_104, jb_33_107, jb_33_108, jb_33_116, jb_33_122, jb_33_125, jb_33_129, jx_nl, jx_nlr, jx_thenS, jx_tlS, jx_tlN, jm_ite_go, jx_rds, jx_rdn, jx_lit, pk_mul, nI_add, nI_pred, pk_sub, jx_na, jx_add0, Nat.reduceMul, Nat.reduceAdd, Nat.reduceSub, Nat.reduceEqDiff, Nat.reduceLeDiff, Nat.reduceLT, Nat.not_lt_zero, jx_cl, nI_leI, nI_ltI, nI_eq, jx_neg, jx_neg', jx_negE, jx_negL, jx_negG, jx_negLE, jx_negN, sb_nlt, sb_nle, jx_b0, jx_b1, jx_bT, jx_bF, ite_true, ite_false, if_true, if_false, reduceIte, Bool.false_eq_true, Bool.true_eq_false, eq_self, Nat.one_ne_zero, Nat.add_sub_cancel, not_true_eq_false, not_false_eq_true, n45, n40, k36]
        · obtain ⟨mn, l3, z1, z2, z3, z4, z5⟩ := z
          obtain ⟨K1, r1, r2, r3, r4⟩ := jr_bad1 (d := d) (rho := rho) (mu := mu) (mn := mn) (l3 := l3) hp z3 (fun q => hN (.inl q)) (fun q => hN (.inr q)) h45 h40 z2
          exact ⟨K1, C.length, z1.trans r1, r2, r3, r4, by omega⟩
/-- every level, wherever it begins -/
theorem jz_all {b : Nat → Nat} {s t d : Nat} {rho : Nat → Option Nat} {mu : List (Nat × Nat)} (ht : t < 6) (hs : s ≤ 160) : ∀ n p, s - p ≤ n → p ≤ s → ∀ o, o ≤ 5 → jz_P1 b s t d rho mu o p ∧ jz_P b s t d rho mu 32 2 o p ∧ jz_P b s t d rho mu 31 3 o p ∧ jz_P b s t d rho mu 30 4 o p ∧ jz_P b s t d rho mu 29 5 o p ∧ jz_P b s t d rho mu 28 6 o p := by
  intro n
  induction n with
  | zero =>
    intro p hn hp o ho
    have ab : ∀ p2, p < p2 → p2 ≤ s → False := fun p2 h1 h2 => by omega
    have eq : ∀ p2, p ≤ p2 → p2 ≤ s → p2 = p := fun p2 h1 h2 => by omega
    have a1 := jz_oneL (b := b) (d := d) (rho := rho) (mu := mu) ht hs ho hp (fun _ p2 h1 h2 => (ab p2 h1 h2).elim) (fun _ p2 h1 h2 => (ab p2 h1 h2).elim)
    have a2 := jz_term ht hs ho hp fun p2 h1 h2 => by rw [eq p2 h1 h2]; exact jz_P1_P a1
    have a3 := jz_sum ht hs ho hp fun p2 h1 h2 => by rw [eq p2 h1 h2]; exact a2
    have a4 := jz_notL ht hs ho hp (fun p2 h1 h2 => by rw [eq p2 h1 h2]; exact a3) (fun _ p2 h1 h2 => (ab p2 h1 h2).elim)
    have a5 := jz_and ht hs ho hp fun p2 h1 h2 => by rw [eq p2 h1 h2]; exact a4
    exact ⟨a1, a2, a3, a4, a5, jz_or ht hs ho hp fun p2 h1 h2 => by rw [eq p2 h1 h2]; exact a5⟩
  | succ n ih =>
    intro p hn hp o ho
    have up : ∀ p2, p < p2 → p2 ≤ s → ∀ o, o ≤ 5 → _ := fun p2 h1 h2 => ih p2 (by omega) h2
    have eq : ∀ p2, p ≤ p2 → ¬ p < p2 → p2 = p := fun p2 h1 h2 => by omega
    have a1 := jz_oneL (b := b) (d := d) (rho := rho) (mu := mu) ht hs ho hp (fun h5 p2 h1 h2 => (up p2 h1 h2 (o + 1) (by omega)).2.2.2.2.2) (fun h5 p2 h1 h2 => (up p2 h1 h2 (o + 1) (by omega)).1)
    have a2 := jz_term ht hs ho hp fun p2 h1 h2 => by
      by_cases z : p < p2
      · exact jz_P1_P (up p2 z h2 o ho).1
      · rw [eq p2 h1 z]; exact jz_P1_P a1
    have a3 := jz_sum ht hs ho hp fun p2 h1 h2 => by
      by_cases z : p < p2
      · exact (up p2 z h2 o ho).2.1
      · rw [eq p2 h1 z]; exact a2
    have a4 := jz_notL ht hs ho hp (fun p2 h1 h2 => by
      by_cases z : p < p2
      · exact (up p2 z h2 o ho).2.2.1
      · rw [eq p2 h1 z]; exact a3) (fun h5 p2 h1 h2 => (up p2 h1 h2 (o + 1) (by omega)).2.2.2.1)
    have a5 := jz_and ht hs ho hp fun p2 h1 h2 => by
      by_cases z : p < p2
      · exact (up p2 z h2 o ho).2.2.2.1
      · rw [eq p2 h1 z]; exact a4
    exact ⟨a1, a2, a3, a4, a5, jz_or ht hs ho hp fun p2 h1 h2 => by
      by_cases z : p < p2
      · exact (up p2 z h2 o ho).2.2.2.2.1
      · rw [eq p2 h1 z]; exact a5⟩
theorem jz_Or {b : Nat → Nat} {s t d p : Nat} {rho : Nat → Option Nat} {mu : List (Nat × Nat)} (ht : t < 6) (hs : s ≤ 160) (hp : p ≤ s) : jz_P b s t d rho mu 28 6 0 p := (jz_all ht hs (s - p) p (Nat.le_refl _) hp 0 (by omega)).2.2.2.2.2
