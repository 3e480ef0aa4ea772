/-! THE REFERENCE READS A TOKEN -/
theorem jx_wdW : ∀ j, j < 12 → ∀ c, c < 8 → jx_wds.getD (8 * j + c) 0 = (if c < (jz_W j).length then (jz_W j).getD c 0 else 32) := by decide
theorem jz_Wl : ∀ j, j < 12 → (jz_W j).length ≤ 6 := by decide
theorem jz_W32 : ∀ j, j < 12 → ∀ c, c < 8 → c < (jz_W j).length → (jz_W j).getD c 0 ≠ 32 ∧ (jz_W j).getD c 0 < 256 := by decide
def jz_pk (b : Nat → Nat) (r e j c : Nat) : Bool := decide (jx_wds.getD (8 * j + c) 0 = if r + c < e then b (r + c) else 32)
theorem jz_pk_T {b : Nat → Nat} {r e j : Nat} (hj : j < 12) (h : jz_wm b r e j = true) : e - r ≤ 8 ∧ ∀ c, c < 8 → jz_pk b r e j c = true := by
  obtain ⟨h1, h2⟩ := jz_wm_D h
  have hl := jz_Wl j hj
  refine ⟨by omega, fun c hc => ?_⟩
  unfold jz_pk
  rw [decide_eq_true_eq, jx_wdW j hj c hc]
  by_cases z : c < (jz_W j).length
  · rw [if_pos z, if_pos (by omega)]; exact h2 c z
  · rw [if_neg z, if_neg (by omega)]
theorem jz_pk_D {b : Nat → Nat} {r e j : Nat} (hj : j < 12) (hb : ∀ k, r ≤ k → k < e → b k ≠ 32) (h8 : e - r ≤ 8) (h : ∀ c, c < 8 → jz_pk b r e j c = true) : jz_wm b r e j = true := by
  have hl := jz_Wl j hj
  have h' : ∀ c, c < 8 → (if c < (jz_W j).length then (jz_W j).getD c 0 else 32) = if r + c < e then b (r + c) else 32 := fun c hc => by
    have := h c hc
    unfold jz_pk at this
    rw [decide_eq_true_eq, jx_wdW j hj c hc] at this
    exact this
  have hlen : e - r = (jz_W j).length := by
    apply Classical.byContradiction
    intro hn
    by_cases z : e - r < (jz_W j).length
    · have := h' (e - r) (by omega)
      rw [if_pos z, if_neg (by omega)] at this
      exact (jz_W32 j hj _ (by omega) z).1 this
    · have := h' (jz_W j).length (by omega)
      rw [if_neg (by omega), if_pos (by omega)] at this
      exact hb _ (by omega) (by omega) this.symm
  refine jz_wm_T hlen fun i hi => ?_
  have := h' i (by omega)
  rw [if_pos hi, if_pos (by omega)] at this
  exact this
theorem jf_158t {d s r e j : Nat} {b : Nat → Nat} {I : Nat → Nat → Int32} {rho : Nat → Option Nat} {mu : List (Nat × Nat)} {l4 l5 : Option Value} (h7 : jR7 I) (hb : ∀ k, k < s → I 64 k = nI (b k)) (hb2 : ∀ k, b k < 256) (hs2 : s ≤ 160) (hre : r ≤ e) (hes : e ≤ s) (hw : ∀ k, r ≤ k → k < e → b k ≠ 32) (hj : j < 12) :
    (jz_wm b r e j = true → jm_go (jm_ev d) 158 (2, [some (.ref 57), some (.int (nI r)), some (.int (nI e)), some (.int (nI j)), l4, l5], [], jm_hp I rho mu) = some (some (.int (nI j)), jm_hp I rho mu)) ∧
    (jz_wm b r e j = false → ∃ l4' l5', jm_go (jm_ev d) 158 (2, [some (.ref 57), some (.int (nI r)), some (.int (nI e)), some (.int (nI j)), l4, l5], [], jm_hp I rho mu) = jm_go (jm_ev d) 158 (2, [some (.ref 57), some (.int (nI r)), some (.int (nI e)), some (.int (nI (j + 1))), l4', l5'], [], jm_hp I rho mu)) := by
  have zn : ¬ 12 ≤ j := by omega
  have er : nI e - nI r = nI (e - r) := pk_sub hre
  have e0 : jm_go (jm_ev d) 158 (2, [some (.ref 57), some (.int (nI r)), some (.int (nI e)), some (.int (nI j)), l4, l5], [], jm_hp I rho mu) = jm_go (jm_ev d) 158 (26, [some (.ref 57), some (.int (nI r)), some (.int (nI e)), some (.int (nI j)), some (.int (jx_b (decide (e - r ≤ 8)))), some (.int (nI 0))], [], jm_hp I rho mu) := by
    rw [jb_158_2]
    by_cases z8 : e - r ≤ 8
    · have z9 : ¬ 8 < e - r := by omega
      rw [decide_eq_true z8]
      simp (disch := first | assumption | omega | exact jx_bz _ | exact jx_z0 | exact jx_z1 | (refine jx_ixB ?_ ?_; omega; omega) | (simp (disch := first | omega | fail) only [jx_lit, pk_mul, nI_add, nI_pred, pk_sub, jx_na, jx_add0, Nat.reduceMul, Nat.reduceAdd, Nat.reduceSub, Nat.reduceEqDiff, Nat.reduceLeDiff, Nat.reduceLT, zn, er, z9]; refine jx_ixC ?_ ?_; omega; omega) | (simp (disch := first | omega | fail) only [jx_lit, pk_mul, nI_add, nI_pred, pk_sub, jx_na, jx_add0, Nat.reduceMul, Nat.reduceAdd, Nat.reduceSub, Nat.reduceEqDiff, Nat.reduceLeDiff, Nat.reduceLT, jx_cl, nI_leI, Nat.zero_le, true_and, zn, er, z9]; omega) | fail) only [jb_158_0, jb_158_8, jb_158_16, jb_158_20, jb_158_21, jb_158_33, jb_158_38, jb_158_58, jb_158_70, jb_158_72, jb_158_75, jb_158_79, jb_158_80, jb_158_88, jb_158_93, jb_158_95, jb_158_101, jx_nl, jx_nlr, jx_thenS, jx_tlS, jx_tlN, jm_ite_go, jx_rds, jx_rdn, jx_lit, pk_mul, nI_add, nI_pred, pk_sub, jx_na, jx_add0, Nat.reduceMul, Nat.reduceAdd, Nat.reduceSub, Nat.reduceEqDiff, Nat.reduceLeDiff, Nat.reduceLT, Nat.not_lt_zero, jx_cl, nI_leI, nI_ltI, nI_eq, jx_neg, jx_neg', jx_negE, jx_negL, jx_negG, jx_negLE, jx_negN, sb_nlt, sb_nle, jx_b0, jx_b1, jx_bT, jx_bF, ite_true, ite_false, if_true, if_false, reduceIte, Bool.false_eq_true, Bool.true_eq_false, eq_self, Nat.one_ne_zero, Nat.add_sub_cancel, not_true_eq_false, not_false_eq_true, zn, er, z9]
    · have z9 : 8 < e - r := by omega
      rw [decide_eq_false z8]
      simp (disch := first | assumption | omega | exact jx_bz _ | exact jx_z0 | exact jx_z1 | (refine jx_ixB ?_ ?_; omega; omega) | (simp (disch := first | omega | fail) only [jx_lit, pk_mul, nI_add, nI_pred, pk_sub, jx_na, jx_add0, Nat.reduceMul, Nat.reduceAdd, Nat.reduceSub, Nat.reduceEqDiff, Nat.reduceLeDiff, Nat.reduceLT, zn, er, z9]; refine jx_ixC ?_ ?_; omega; omega) | (simp (disch := first | omega | fail) only [jx_lit, pk_mul, nI_add, nI_pred, pk_sub, jx_na, jx_add0, Nat.reduceMul, Nat.reduceAdd, Nat.reduceSub, Nat.reduceEqDiff, Nat.reduceLeDiff, Nat.reduceLT, jx_cl, nI_leI, Nat.zero_le, true_and, zn, er, z9]; omega) | fail) only [jb_158_0, jb_158_8, jb_158_16, jb_158_20, jb_158_21, jb_158_33, jb_158_38, jb_158_58, jb_158_70, jb_158_72, jb_158_75, jb_158_79, jb_158_80, jb_158_88, jb_158_93, jb_158_95, jb_158_101, jx_nl, jx_nlr, jx_thenS, jx_tlS, jx_tlN, jm_ite_go, jx_rds, jx_rdn, jx_lit, pk_mul, nI_add, nI_pred, pk_sub, jx_na, jx_add0, Nat.reduceMul, Nat.reduceAdd, Nat.reduceSub, Nat.reduceEqDiff, Nat.reduceLeDiff, Nat.reduceLT, Nat.not_lt_zero, jx_cl, nI_leI, nI_ltI, nI_eq, jx_neg, jx_neg', jx_negE, jx_negL, jx_negG, jx_negLE, jx_negN, sb_nlt, sb_nle, jx_b0, jx_b1, jx_bT, jx_bF, ite_true, ite_false, if_true, if_false, reduceIte, Bool.false_eq_true, Bool.true_eq_false, eq_self, Nat.one_ne_zero, Nat.add_sub_cancel, not_true_eq_false, not_false_eq_true, zn, er, z9]
  have st : ∀ c, c < 8 → jm_go (jm_ev d) 158 (26, [some (.ref 57), some (.int (nI r)), some (.int (nI e)), some (.int (nI j)), some (.int (nI 1)), some (.int (nI c))], [], jm_hp I rho mu) = jm_go (jm_ev d) 158 (26, [some (.ref 57), some (.int (nI r)), some (.int (nI e)), some (.int (nI j)), some (.int (jx_b (jz_pk b r e j c))), some (.int (nI (c + 1)))], [], jm_hp I rho mu) := fun c hc => by
    have z8 : ¬ 8 ≤ c := by omega
    have zi : 8 * j + c < 96 := by omega
    have hw := h7 (8 * j + c) zi
    have hwl : jx_wds.getD (8 * j + c) 0 < 256 := by
      rw [jx_wdW j hj c hc]
      split
      · next z => exact (jz_W32 j hj c hc z).2
      · omega
    rw [jb_158_26]
    by_cases ze : r + c < e
    · have ze2 : ¬ e ≤ r + c := by omega
      have hbk := hb (r + c) (by omega)
      have hb2k := hb2 (r + c)
      have zr : r + c < 160 := by omega
      cases hp : jz_pk b r e j c with
      | true =>
        unfold jz_pk at hp
        rw [decide_eq_true_eq, if_pos ze] at hp
        rw [hp] at hw
        simp (disch := first | assumption | omega | exact jx_bz _ | exact jx_z0 | exact jx_z1 | (refine jx_ixB ?_ ?_; omega; omega) | (simp (disch := first | omega | fail) only [jx_lit, pk_mul, nI_add, nI_pred, pk_sub, jx_na, jx_add0, Nat.reduceMul, Nat.reduceAdd, Nat.reduceSub, Nat.reduceEqDiff, Nat.reduceLeDiff, Nat.reduceLT, z8, hw, ze2, hbk]; refine jx_ixC ?_ ?_; omega; omega) | (simp (disch := first | omega | fail) only [jx_lit, pk_mul, nI_add, nI_pred, pk_sub, jx_na, jx_add0, Nat.reduceMul, Nat.reduceAdd, Nat.reduceSub, Nat.reduceEqDiff, Nat.reduceLeDiff, Nat.reduceLT, jx_cl, nI_leI, Nat.zero_le, true_and, z8, hw, ze2, hbk]; omega) | fail) only [jb_158_0, jb_158_8, jb_158_16, jb_158_20, jb_158_21, jb_158_33, jb_158_38, jb_158_58, jb_158_70, jb_158_72, jb_158_75, jb_158_79, jb_158_80, jb_158_88, jb_158_93, jb_158_95, jb_158_101, jx_nl, jx_nlr, jx_thenS, jx_tlS, jx_tlN, jm_ite_go, jx_rds, jx_rdn, jx_lit, pk_mul, nI_add, nI_pred, pk_sub, jx_na, jx_add0, Nat.reduceMul, Nat.reduceAdd, Nat.reduceSub, Nat.reduceEqDiff, Nat.reduceLeDiff, Nat.reduceLT, Nat.not_lt_zero, jx_cl, nI_leI, nI_ltI, nI_eq, jx_neg, jx_neg', jx_negE, jx_negL, jx_negG, jx_negLE, jx_negN, sb_nlt, sb_nle, jx_b0, jx_b1, jx_bT, jx_bF, ite_true, ite_false, if_true, if_false, reduceIte, Bool.false_eq_true, Bool.true_eq_false, eq_self, Nat.one_ne_zero, Nat.add_sub_cancel, not_true_eq_false, not_false_eq_true, z8, hw, ze2, hbk]
      | false =>
        unfold jz_pk at hp
        rw [decide_eq_false_iff_not, if_pos ze] at hp
        simp (disch := first | assumption | omega | exact jx_bz _ | exact jx_z0 | exact jx_z1 | (refine jx_ixB ?_ ?_; omega; omega) | (simp (disch := first | omega | fail) only [jx_lit, pk_mul, nI_add, nI_pred, pk_sub, jx_na, jx_add0, Nat.reduceMul, Nat.reduceAdd, Nat.reduceSub, Nat.reduceEqDiff, Nat.reduceLeDiff, Nat.reduceLT, z8, hw, ze2, hbk, hp]; refine jx_ixC ?_ ?_; omega; omega) | (simp (disch := first | omega | fail) only [jx_lit, pk_mul, nI_add, nI_pred, pk_sub, jx_na, jx_add0, Nat.reduceMul, Nat.reduceAdd, Nat.reduceSub, Nat.reduceEqDiff, Nat.reduceLeDiff, Nat.reduceLT, jx_cl, nI_leI, Nat.zero_le, true_and, z8, hw, ze2, hbk, hp]; omega) | fail) only [jb_158_0, jb_158_8, jb_158_16, jb_158_20, jb_158_21, jb_158_33, jb_158_38, jb_158_58, jb_158_70, jb_158_72, jb_158_75, jb_158_79, jb_158_80, jb_158_88, jb_158_93, jb_158_95, jb_158_101, jx_nl, jx_nlr, jx_thenS, jx_tlS, jx_tlN, jm_ite_go, jx_rds, jx_rdn, jx_lit, pk_mul, nI_add, nI_pred, pk_sub, jx_na, jx_add0, Nat.reduceMul, Nat.reduceAdd, Nat.reduceSub, Nat.reduceEqDiff, Nat.reduceLeDiff, Nat.reduceLT, Nat.not_lt_zero, jx_cl, nI_leI, nI_ltI, nI_eq, jx_neg, jx_neg', jx_negE, jx_negL, jx_negG, jx_negLE, jx_negN, sb_nlt, sb_nle, jx_b0, jx_b1, jx_bT, jx_bF, ite_true, ite_false, if_true, if_false, reduceIte, Bool.false_eq_true, Bool.true_eq_false, eq_self, Nat.one_ne_zero, Nat.add_sub_cancel, not_true_eq_false, not_false_eq_true, z8, hw, ze2, hbk, hp]
    · have ze2 : e ≤ r + c := by omega
      cases hp : jz_pk b r e j c with
      | true =>
        unfold jz_pk at hp
        rw [decide_eq_true_eq, if_neg ze] at hp
        rw [hp] at hw
        simp (disch := first | assumption | omega | exact jx_bz _ | exact jx_z0 | exact jx_z1 | (refine jx_ixB ?_ ?_; omega; omega) | (simp (disch := first | omega | fail) only [jx_lit, pk_mul, nI_add, nI_pred, pk_sub, jx_na, jx_add0, Nat.reduceMul, Nat.reduceAdd, Nat.reduceSub, Nat.reduceEqDiff, Nat.reduceLeDiff, Nat.reduceLT, z8, hw, ze2]; refine jx_ixC ?_ ?_; omega; omega) | (simp (disch := first | omega | fail) only [jx_lit, pk_mul, nI_add, nI_pred, pk_sub, jx_na, jx_add0, Nat.reduceMul, Nat.reduceAdd, Nat.reduceSub, Nat.reduceEqDiff, Nat.reduceLeDiff, Nat.reduceLT, jx_cl, nI_leI, Nat.zero_le, true_and, z8, hw, ze2]; omega) | fail) only [jb_158_0, jb_158_8, jb_158_16, jb_158_20, jb_158_21, jb_158_33, jb_158_38, jb_158_58, jb_158_70, jb_158_72, jb_158_75, jb_158_79, jb_158_80, jb_158_88, jb_158_93, jb_158_95, jb_158_101, jx_nl, jx_nlr, jx_thenS, jx_tlS, jx_tlN, jm_ite_go, jx_rds, jx_rdn, jx_lit, pk_mul, nI_add, nI_pred, pk_sub, jx_na, jx_add0, Nat.reduceMul, Nat.reduceAdd, Nat.reduceSub, Nat.reduceEqDiff, Nat.reduceLeDiff, Nat.reduceLT, Nat.not_lt_zero, jx_cl, nI_leI, nI_ltI, nI_eq, jx_neg, jx_neg', jx_negE, jx_negL, jx_negG, jx_negLE, jx_negN, sb_nlt, sb_nle, jx_b0, jx_b1, jx_bT, jx_bF, ite_true, ite_false, if_true, if_false, reduceIte, Bool.false_eq_true, Bool.true_eq_false, eq_self, Nat.one_ne_zero, Nat.add_sub_cancel, not_true_eq_false, not_false_eq_true, z8, hw, ze2]
      | false =>
        unfold jz_pk at hp
        rw [decide_eq_false_iff_not, if_neg ze] at hp
        simp (disch := first | assumption | omega | exact jx_bz _ | exact jx_z0 | exact jx_z1 | (refine jx_ixB ?_ ?_; omega; omega) | (simp (disch := first | omega | fail) only [jx_lit, pk_mul, nI_add, nI_pred, pk_sub, jx_na, jx_add0, Nat.reduceMul, Nat.reduceAdd, Nat.reduceSub, Nat.reduceEqDiff, Nat.reduceLeDiff, Nat.reduceLT, z8, hw, ze2, hp]; refine jx_ixC ?_ ?_; omega; omega) | (simp (disch := first | omega | fail) only [jx_lit, pk_mul, nI_add, nI_pred, pk_sub, jx_na, jx_add0, Nat.reduceMul, Nat.reduceAdd, Nat.reduceSub, Nat.reduceEqDiff, Nat.reduceLeDiff, Nat.reduceLT, jx_cl, nI_leI, Nat.zero_le, true_and, z8, hw, ze2, hp]; omega) | fail) only [jb_158_0, jb_158_8, jb_158_16, jb_158_20, jb_158_21, jb_158_33, jb_158_38, jb_158_58, jb_158_70, jb_158_72, jb_158_75, jb_158_79, jb_158_80, jb_158_88, jb_158_93, jb_158_95, jb_158_101, jx_nl, jx_nlr, jx_thenS, jx_tlS, jx_tlN, jm_ite_go, jx_rds, jx_rdn, jx_lit, pk_mul, nI_add, nI_pred, pk_sub, jx_na, jx_add0, Nat.reduceMul, Nat.reduceAdd, Nat.reduceSub, Nat.reduceEqDiff, Nat.reduceLeDiff, Nat.reduceLT, Nat.not_lt_zero, jx_cl, nI_leI, nI_ltI, nI_eq, jx_neg, jx_neg', jx_negE, jx_negL, jx_negG, jx_negLE, jx_negN, sb_nlt, sb_nle, jx_b0, jx_b1, jx_bT, jx_bF, ite_true, ite_false, if_true, if_false, reduceIte, Bool.false_eq_true, Bool.true_eq_false, eq_self, Nat.one_ne_zero, Nat.add_sub_cancel, not_true_eq_false, not_false_eq_true, z8, hw, ze2, hp]
  have out : ∀ c, jm_go (jm_ev d) 158 (26, [some (.ref 57), some (.int (nI r)), some (.int (nI e)), some (.int (nI j)), some (.int (nI 0)), some (.int (nI c))], [], jm_hp I rho mu) = jm_go (jm_ev d) 158 (2, [some (.ref 57), some (.int (nI r)), some (.int (nI e)), some (.int (nI (j + 1))), some (.int (nI 0)), some (.int (nI c))], [], jm_hp I rho mu) := fun c => by
    rw [jb_158_26]
    by_cases z8 : nI 8 ≤ nI c
    · simp (disch := first | assumption | omega | exact jx_bz _ | exact jx_z0 | exact jx_z1 | (refine jx_ixB ?_ ?_; omega; omega) | (simp (disch := first | omega | fail) only [jx_lit, pk_mul, nI_add, nI_pred, pk_sub, jx_na, jx_add0, Nat.reduceMul, Nat.reduceAdd, Nat.reduceSub, Nat.reduceEqDiff, Nat.reduceLeDiff, Nat.reduceLT, z8]; refine jx_ixC ?_ ?_; omega; omega) | (simp (disch := first | omega | fail) only [jx_lit, pk_mul, nI_add, nI_pred, pk_sub, jx_na, jx_add0, Nat.reduceMul, Nat.reduceAdd, Nat.reduceSub, Nat.reduceEqDiff, Nat.reduceLeDiff, Nat.reduceLT, jx_cl, nI_leI, Nat.zero_le, true_and, z8]; omega) | fail) only [jb_158_0, jb_158_8, jb_158_16, jb_158_20, jb_158_21, jb_158_33, jb_158_38, jb_158_58, jb_158_70, jb_158_72, jb_158_75, jb_158_79, jb_158_80, jb_158_88, jb_158_93, jb_158_95, jb_158_101, jx_nl, jx_nlr, jx_thenS, jx_tlS, jx_tlN, jm_ite_go, jx_rds, jx_rdn, jx_lit, pk_mul, nI_add, nI_pred, pk_sub, jx_na, jx_add0, Nat.reduceMul, Nat.reduceAdd, Nat.reduceSub, Nat.reduceEqDiff, Nat.reduceLeDiff, Nat.reduceLT, Nat.not_lt_zero, jx_cl, nI_leI, nI_ltI, nI_eq, jx_neg, jx_neg', jx_negE, jx_negL, jx_negG, jx_negLE, jx_negN, sb_nlt, sb_nle, jx_b0, jx_b1, jx_bT, jx_bF, ite_true, ite_false, if_true, if_false, reduceIte, Bool.false_eq_true, Bool.true_eq_false, eq_self, Nat.one_ne_zero, Nat.add_sub_cancel, not_true_eq_false, not_false_eq_true, z8]
    · simp (disch := first | assumption | omega | exact jx_bz _ | exact jx_z0 | exact jx_z1 | (refine jx_ixB ?_ ?_; omega; omega) | (simp (disch := first | omega | fail) only [jx_lit, pk_mul, nI_add, nI_pred, pk_sub, jx_na, jx_add0, Nat.reduceMul, Nat.reduceAdd, Nat.reduceSub, Nat.reduceEqDiff, Nat.reduceLeDiff, Nat.reduceLT, z8]; refine jx_ixC ?_ ?_; omega; omega) | (simp (disch := first | omega | fail) only [jx_lit, pk_mul, nI_add, nI_pred, pk_sub, jx_na, jx_add0, Nat.reduceMul, Nat.reduceAdd, Nat.reduceSub, Nat.reduceEqDiff, Nat.reduceLeDiff, Nat.reduceLT, jx_cl, nI_leI, Nat.zero_le, true_and, z8]; omega) | fail) only [jb_158_0, jb_158_8, jb_158_16, jb_158_20, jb_158_21, jb_158_33, jb_158_38, jb_158_58, jb_158_70, jb_158_72, jb_158_75, jb_158_79, jb_158_80, jb_158_88, jb_158_93, jb_158_95, jb_158_101, jx_nl, jx_nlr, jx_thenS, jx_tlS, jx_tlN, jm_ite_go, jx_rds, jx_rdn, jx_lit, pk_mul, nI_add, nI_pred, pk_sub, jx_na, jx_add0, Nat.reduceMul, Nat.reduceAdd, Nat.reduceSub, Nat.reduceEqDiff, Nat.reduceLeDiff, Nat.reduceLT, Nat.not_lt_zero, jx_cl, nI_leI, nI_ltI, nI_eq, jx_neg, jx_neg', jx_negE, jx_negL, jx_negG, jx_negLE, jx_negN, sb_nlt, sb_nle, jx_b0, jx_b1, jx_bT, jx_bF, ite_true, ite_false, if_true, if_false, reduceIte, Bool.false_eq_true, Bool.true_eq_false, eq_self, Nat.one_ne_zero, Nat.add_sub_cancel, not_true_eq_false, not_false_eq_true, z8]
  refine ⟨fun h => ?_, fun h => ?_⟩
  · obtain ⟨h8, hpk⟩ := jz_pk_T hj h
    rw [e0, decide_eq_true h8]
    have lp := jx_for0 (E := jm_ev d) (y := 158) 8 (fun c => (26, [some (.ref 57), some (.int (nI r)), some (.int (nI e)), some (.int (nI j)), some (.int (nI 1)), some (.int (nI c))], [], jm_hp I rho mu)) (fun c hc => by rw [st c hc, hpk c hc]; rfl) 8 (Nat.le_refl _)
    refine Eq.trans lp ?_
    rw [jb_158_26]
    simp (disch := first | assumption | omega | exact jx_bz _ | exact jx_z0 | exact jx_z1 | (refine jx_ixB ?_ ?_; omega; omega) | (simp (disch := first | omega | fail) only [jx_lit, pk_mul, nI_add, nI_pred, pk_sub, jx_na, jx_add0, Nat.reduceMul, Nat.reduceAdd, Nat.reduceSub, Nat.reduceEqDiff, Nat.reduceLeDiff, Nat.reduceLT]; refine jx_ixC ?_ ?_; omega; omega) | (simp (disch := first | omega | fail) only [jx_lit, pk_mul, nI_add, nI_pred, pk_sub, jx_na, jx_add0, Nat.reduceMul, Nat.reduceAdd, Nat.reduceSub, Nat.reduceEqDiff, Nat.reduceLeDiff, Nat.reduceLT, jx_cl, nI_leI, Nat.zero_le, true_and]; omega) | fail) only [jb_158_0, jb_158_8, jb_158_16, jb_158_20, jb_158_21, jb_158_33, jb_158_38, jb_158_58, jb_158_70, jb_158_72, jb_158_75, jb_158_79, jb_158_80, jb_158_88, jb_158_93, jb_158_95, jb_158_101, jx_nl, jx_nlr, jx_thenS, jx_tlS, jx_tlN, jm_ite_go, jx_rds, jx_rdn, jx_lit, pk_mul, nI_add, nI_pred, pk_sub, jx_na, jx_add0, Nat.reduceMul, Nat.reduceAdd, Nat.reduceSub, Nat.reduceEqDiff, Nat.reduceLeDiff, Nat.reduceLT, Nat.not_lt_zero, jx_cl, nI_leI, nI_ltI, nI_eq, jx_neg, jx_neg', jx_negE, jx_negL, jx_negG, jx_negLE, jx_negN, sb_nlt, sb_nle, jx_b0, jx_b1, jx_bT, jx_bF, ite_true, ite_false, if_true, if_false, reduceIte, Bool.false_eq_true, Bool.true_eq_false, eq_self, Nat.one_ne_zero, Nat.add_sub_cancel, not_true_eq_false, not_false_eq_true]
  · by_cases h8 : e - r ≤ 8
    · rcases jx_least (fun c => !jz_pk b r e j c) 8 with ⟨c, hc, h1, h2⟩ | h2
      · have h1 : jz_pk b r e j c = false := by simpa using h1
        have h2 : ∀ k, k < c → jz_pk b r e j k = true := fun k hk => by simpa using h2 k hk
        rw [e0, decide_eq_true h8]
        have lp := jx_for0 (E := jm_ev d) (y := 158) c (fun c => (26, [some (.ref 57), some (.int (nI r)), some (.int (nI e)), some (.int (nI j)), some (.int (nI 1)), some (.int (nI c))], [], jm_hp I rho mu)) (fun k hk => by rw [st k (by omega), h2 k hk]; rfl) c (Nat.le_refl _)
        refine ⟨some (.int (nI 0)), some (.int (nI (c + 1))), Eq.trans lp ?_⟩
        rw [st c hc, h1]
        exact out (c + 1)
      · exfalso
        rw [jz_pk_D hj hw h8 fun c hc => by simpa using h2 c hc] at h
        cases h
    · rw [e0, decide_eq_false h8]
      exact ⟨_, _, out 0⟩
theorem jf_158 {d s r e : Nat} {b : Nat → Nat} {I : Nat → Nat → Int32} {rho : Nat → Option Nat} {mu : List (Nat × Nat)} (h7 : jR7 I) (hb : ∀ k, k < s → I 64 k = nI (b k)) (hb2 : ∀ k, b k < 256) (hs2 : s ≤ 160) (hre : r ≤ e) (hes : e ≤ s) (hw : ∀ k, r ≤ k → k < e → b k ≠ 32) : jm_ev (d + 1) 158 [.ref 57, .int (nI r), .int (nI e)] (jm_hp I rho mu) = some (some (.int (nI (jz_w b r e))), jm_hp I rho mu) := by
  have e0 : jm_ev (d + 1) 158 [.ref 57, .int (nI r), .int (nI e)] (jm_hp I rho mu) = jm_go (jm_ev d) 158 (2, [some (.ref 57), some (.int (nI r)), some (.int (nI e)), some (.int (nI 0)), none, none], [], jm_hp I rho mu) := by
    simp (disch := first | assumption | omega | exact jx_bz _ | exact jx_z0 | exact jx_z1 | (refine jx_ixB ?_ ?_; omega; omega) | (simp (disch := first | omega | fail) only [jx_lit, pk_mul, nI_add, nI_pred, pk_sub, jx_na, jx_add0, Nat.reduceMul, Nat.reduceAdd, Nat.reduceSub, Nat.reduceEqDiff, Nat.reduceLeDiff, Nat.reduceLT]; refine jx_ixC ?_ ?_; omega; omega) | (simp (disch := first | omega | fail) only [jx_lit, pk_mul, nI_add, nI_pred, pk_sub, jx_na, jx_add0, Nat.reduceMul, Nat.reduceAdd, Nat.reduceSub, Nat.reduceEqDiff, Nat.reduceLeDiff, Nat.reduceLT, jx_cl, nI_leI, Nat.zero_le, true_and]; omega) | fail) only [je_158, jb_158_0, jb_158_8, jb_158_16, jb_158_20, jb_158_21, jb_158_33, jb_158_38, jb_158_58, jb_158_70, jb_158_72, jb_158_75, jb_158_79, jb_158_80, jb_158_88, jb_158_93, jb_158_95, jb_158_101, jx_nl, jx_nlr, jx_thenS, jx_tlS, jx_tlN, jm_ite_go, jx_rds, jx_rdn, jx_lit, pk_mul, nI_add, nI_pred, pk_sub, jx_na, jx_add0, Nat.reduceMul, Nat.reduceAdd, Nat.reduceSub, Nat.reduceEqDiff, Nat.reduceLeDiff, Nat.reduceLT, Nat.not_lt_zero, jx_cl, nI_leI, nI_ltI, nI_eq, jx_neg, jx_neg', jx_negE, jx_negL, jx_negG, jx_negLE, jx_negN, sb_nlt, sb_nle, jx_b0, jx_b1, jx_bT, jx_bF, ite_true, ite_false, if_true, if_false, reduceIte, Bool.false_eq_true, Bool.true_eq_false, eq_self, Nat.one_ne_zero, Nat.add_sub_cancel, not_true_eq_false, not_false_eq_true]
  have lp : ∀ k, k ≤ 12 → (∀ j, j < k → jz_wm b r e j = false) → ∃ l4 l5, jm_go (jm_ev d) 158 (2, [some (.ref 57), some (.int (nI r)), some (.int (nI e)), some (.int (nI 0)), none, none], [], jm_hp I rho mu) = jm_go (jm_ev d) 158 (2, [some (.ref 57), some (.int (nI r)), some (.int (nI e)), some (.int (nI k)), l4, l5], [], jm_hp I rho mu) := by
    intro k
    induction k with
    | zero => intro _ _; exact ⟨none, none, rfl⟩
    | succ k ih =>
      intro hk hz
      obtain ⟨l4, l5, e1⟩ := ih (by omega) fun j hj => hz j (by omega)
      obtain ⟨l6, l7, e2⟩ := (jf_158t (d := d) (rho := rho) (mu := mu) (l4 := l4) (l5 := l5) h7 hb hb2 hs2 hre hes hw (show k < 12 by omega)).2 (hz k (by omega))
      exact ⟨l6, l7, e1.trans e2⟩
  rw [e0]
  rcases jz_w_cases b r e with ⟨k, hk, hw2, ht⟩ | ⟨hw2, ht⟩
  · obtain ⟨l4, l5, e1⟩ := lp k (by omega) fun j hj => by rw [ht j (by omega), decide_eq_false (by omega)]
    rw [e1, hw2]
    exact (jf_158t (d := d) (rho := rho) (mu := mu) (l4 := l4) (l5 := l5) h7 hb hb2 hs2 hre hes hw hk).1 (by rw [ht k hk, decide_eq_true rfl])
  · obtain ⟨l4, l5, e1⟩ := lp 12 (by omega) ht
    rw [e1, hw2, jb_158_2]
    simp (disch := first | assumption | omega | exact jx_bz _ | exact jx_z0 | exact jx_z1 | (refine jx_ixB ?_ ?_; omega; omega) | (simp (disch := first | omega | fail) only [jx_lit, pk_mul, nI_add, nI_pred, pk_sub, jx_na, jx_add0, Nat.reduceMul, Nat.reduceAdd, Nat.reduceSub, Nat.reduceEqDiff, Nat.reduceLeDiff, Nat.reduceLT]; refine jx_ixC ?_ ?_; omega; omega) | (simp (disch := first | omega | fail) only [jx_lit, pk_mul, nI_add, nI_pred, pk_sub, jx_na, jx_add0, Nat.reduceMul, Nat.reduceAdd, Nat.reduceSub, Nat.reduceEqDiff, Nat.reduceLeDiff, Nat.reduceLT, jx_cl, nI_leI, Nat.zero_le, true_and]; omega) | fail) only [jb_158_0, jb_158_8, jb_158_16, jb_158_20, jb_158_21, jb_158_33, jb_158_38, jb_158_58, jb_158_70, jb_158_72, jb_158_75, jb_158_79, jb_158_80, jb_158_88, jb_158_93, jb_158_95, jb_158_101, jx_nl, jx_nlr, jx_thenS, jx_tlS, jx_tlN, jm_ite_go, jx_rds, jx_rdn, jx_lit, pk_mul, nI_add, nI_pred, pk_sub, jx_na, jx_add0, Nat.reduceMul, Nat.reduceAdd, Nat.reduceSub, Nat.reduceEqDiff, Nat.reduceLeDiff, Nat.reduceLT, Nat.not_lt_zero, jx_cl, nI_leI, nI_ltI, nI_eq, jx_neg, jx_neg', jx_negE, jx_negL, jx_negG, jx_negLE, jx_negN, sb_nlt, sb_nle, jx_b0, jx_b1, jx_bT, jx_bF, ite_true, ite_false, if_true, if_false, reduceIte, Bool.false_eq_true, Bool.true_eq_false, eq_self, Nat.one_ne_zero, Nat.add_sub_cancel, not_true_eq_false, not_false_eq_true]
def jS_lm : Nat → Nat → Bool := fun a k => decide (a = 57 ∧ 22 ≤ k ∧ k < 26)
theorem jS_lmY {a k : Nat} (h : a = 57 ∧ 22 ≤ k ∧ k < 26) : jS_lm a k = true := decide_eq_true h
/-- what stands on the reference's tape -/
def jz_NB (I : Nat → Nat → Int32) (b : Nat → Nat) (s : Nat) : Prop := I 57 10 = nI s ∧ s ≤ 160 ∧ (∀ k, k < s → I 64 k = nI (b k)) ∧ (∀ k, b k < 256) ∧ jR7 I
theorem jz_NB_up {I : Nat → Nat → Int32} {b : Nat → Nat} {s k : Nat} {v : Int32} (h : jz_NB I b s) (hk : ¬ k = 10) : jz_NB (jm_up I 57 k v) b s := by
  obtain ⟨h1, h2, h3, h4, h5⟩ := h
  exact ⟨by rw [jx_rdn (by omega)]; exact h1, h2, fun j hj => by rw [jx_rdn (by omega)]; exact h3 j hj, h4, fun i hi => by rw [jx_rdn (by omega)]; exact h5 i hi⟩
theorem jf_143le {d c : Nat} {I : Nat → Nat → Int32} {rho : Nat → Option Nat} {mu : List (Nat × Nat)} (hc : c < 256) : jm_ev (d + 1) 143 [.int (nI c), .int (nI 97), .int (nI 122)] (jm_hp I rho mu) = some (some (.int (jx_b (jz_le c))), jm_hp I rho mu) := by
  rw [jf_143]; simp only [nI_leI (show 97 < 2 ^ 31 by decide) (show c < 2 ^ 31 by omega), nI_leI (show c < 2 ^ 31 by omega) (show 122 < 2 ^ 31 by decide)]; rfl
theorem jf_143di {d c : Nat} {I : Nat → Nat → Int32} {rho : Nat → Option Nat} {mu : List (Nat × Nat)} (hc : c < 256) : jm_ev (d + 1) 143 [.int (nI c), .int (nI 48), .int (nI 57)] (jm_hp I rho mu) = some (some (.int (jx_b (jz_di c))), jm_hp I rho mu) := by
  rw [jf_143]; simp only [nI_leI (show 48 < 2 ^ 31 by decide) (show c < 2 ^ 31 by omega), nI_leI (show c < 2 ^ 31 by omega) (show 57 < 2 ^ 31 by decide)]; rfl
/-- the digits up to four -/
def jz_v4 (b : Nat → Nat) (r n : Nat) : Nat := if n ≤ 4 then jz_vl b r n else 0
theorem jf_159 {d s p : Nat} {b : Nat → Nat} {I : Nat → Nat → Int32} {rho : Nat → Option Nat} {mu : List (Nat × Nat)} (hB : jz_NB I b s) (h2 : I 57 22 = nI p) (hp : p ≤ s) :
    ∃ J, jm_ev (d + 2) 159 [.ref 57] (jm_hp I rho mu) = some (none, jm_hp J rho mu) ∧ jG jS_lm I J ∧ J 57 22 = nI (jz_e b s p) ∧ J 57 23 = nI (jz_r b s p) ∧ J 57 24 = jz_mt (jz_t b s p) ∧ (1 ≤ jz_t b s p → jz_t b s p ≤ 3 → J 57 25 = nI (jz_v b s p)) := by
  obtain ⟨b1, b2, b3, b4, b5⟩ := id hB
  have e0 : jm_ev (d + 2) 159 [.ref 57] (jm_hp I rho mu) = jm_go (jm_ev (d + 1)) 159 (0, [some (.ref 57), none, none], [], jm_hp (jm_up I 57 22 (nI p)) rho mu) := by
    rw [jx_upid h2, je_159]
  have lp := jz_sc_go (E := jm_ev (d + 1)) (y := 159) (Q := jz_bl) (b := b) (s := s) (fun k => (0, [some (.ref 57), none, none], [], jm_hp (jm_up I 57 22 (nI k)) rho mu)) p (fun k hk hks hq => by
    have zn : ¬ s ≤ k := by omega
    have hbk : (jm_up I 57 22 (nI k)) 64 k = nI (b k) := by rw [jx_rdn (by omega)]; exact b3 k hks
    have hbi := b3 k hks
    have hb4 := b4 k
    have zk : k < 160 := by omega
    have g22 : jm_up I 57 22 (nI k) 57 22 = nI k := jx_rds
    have hix : 0 ≤ jm_up I 57 22 (nI k) 57 22 ∧ (jm_up I 57 22 (nI k) 57 22).toNatClampNeg < 160 := by rw [g22]; exact jx_ixB zk (by decide)
    rw [jb_159_0]
    by_cases z32 : b k = 32
    · rw [z32] at hbi
      simp (disch := first | assumption | omega | exact jx_bz _ | exact jx_z0 | exact jx_z1 | (refine jx_ixB ?_ ?_; omega; omega) | (simp (disch := first | omega | fail) only [jx_lit, pk_mul, nI_add, nI_pred, pk_sub, jx_na, jx_add0, Nat.reduceMul, Nat.reduceAdd, Nat.reduceSub, Nat.reduceEqDiff, Nat.reduceLeDiff, Nat.reduceLT, b1, zn, hbi, jx_upup]; refine jx_ixC ?_ ?_; omega; omega) | (simp (disch := first | omega | fail) only [jx_lit, pk_mul, nI_add, nI_pred, pk_sub, jx_na, jx_add0, Nat.reduceMul, Nat.reduceAdd, Nat.reduceSub, Nat.reduceEqDiff, Nat.reduceLeDiff, Nat.reduceLT, jx_cl, nI_leI, Nat.zero_le, true_and, b1, zn, hbi, jx_upup]; omega) | fail) only [jb_159_11, jb_159_25, jb_159_39, jb_159_52, jb_159_81, jb_159_82, jb_159_100, jb_159_114, jb_159_130, jb_159_133, jb_159_146, jb_159_158, jb_159_165, jb_159_169, jb_159_175, jb_159_179, jb_159_185, jb_159_189, jb_159_195, jb_159_204, jb_159_208, jb_159_211, jb_159_217, jb_159_225, jb_159_228, jb_159_241, jb_159_257, jb_159_260, jb_159_266, jb_159_289, jb_159_290, jb_159_309, jb_159_315, jb_159_319, jb_159_320, jb_159_326, jb_159_332, jb_159_338, jb_159_344, jb_159_350, jb_159_356, jb_159_362, jb_159_368, jb_159_374, jb_159_378, jb_159_379, jb_159_385, jb_159_389, jb_159_390, jb_159_403, jx_nl, jx_nlr, jx_thenS, jx_tlS, jx_tlN, jm_ite_go, jx_rds, jx_rdn, jx_lit, pk_mul, nI_add, nI_pred, pk_sub, jx_na, jx_add0, Nat.reduceMul, Nat.reduceAdd, Nat.reduceSub, Nat.reduceEqDiff, Nat.reduceLeDiff, Nat.reduceLT, Nat.not_lt_zero, jx_cl, nI_leI, nI_ltI, nI_eq, jx_neg, jx_neg', jx_negE, jx_negL, jx_negG, jx_negLE, jx_negN, sb_nlt, sb_nle, jx_b0, jx_b1, jx_bT, jx_bF, ite_true, ite_false, if_true, if_false, reduceIte, Bool.false_eq_true, Bool.true_eq_false, eq_self, Nat.one_ne_zero, Nat.add_sub_cancel, not_true_eq_false, not_false_eq_true, b1, zn, hbi, jx_upup]
    · have z10 : b k = 10 := by
        simp only [jz_bl, Bool.or_eq_true, decide_eq_true_eq] at hq
        omega
      rw [z10] at hbi
      simp (disch := first | assumption | omega | exact jx_bz _ | exact jx_z0 | exact jx_z1 | (refine jx_ixB ?_ ?_; omega; omega) | (simp (disch := first | omega | fail) only [jx_lit, pk_mul, nI_add, nI_pred, pk_sub, jx_na, jx_add0, Nat.reduceMul, Nat.reduceAdd, Nat.reduceSub, Nat.reduceEqDiff, Nat.reduceLeDiff, Nat.reduceLT, b1, zn, hbi, jx_upup]; refine jx_ixC ?_ ?_; omega; omega) | (simp (disch := first | omega | fail) only [jx_lit, pk_mul, nI_add, nI_pred, pk_sub, jx_na, jx_add0, Nat.reduceMul, Nat.reduceAdd, Nat.reduceSub, Nat.reduceEqDiff, Nat.reduceLeDiff, Nat.reduceLT, jx_cl, nI_leI, Nat.zero_le, true_and, b1, zn, hbi, jx_upup]; omega) | fail) only [jb_159_11, jb_159_25, jb_159_39, jb_159_52, jb_159_81, jb_159_82, jb_159_100, jb_159_114, jb_159_130, jb_159_133, jb_159_146, jb_159_158, jb_159_165, jb_159_169, jb_159_175, jb_159_179, jb_159_185, jb_159_189, jb_159_195, jb_159_204, jb_159_208, jb_159_211, jb_159_217, jb_159_225, jb_159_228, jb_159_241, jb_159_257, jb_159_260, jb_159_266, jb_159_289, jb_159_290, jb_159_309, jb_159_315, jb_159_319, jb_159_320, jb_159_326, jb_159_332, jb_159_338, jb_159_344, jb_159_350, jb_159_356, jb_159_362, jb_159_368, jb_159_374, jb_159_378, jb_159_379, jb_159_385, jb_159_389, jb_159_390, jb_159_403, jx_nl, jx_nlr, jx_thenS, jx_tlS, jx_tlN, jm_ite_go, jx_rds, jx_rdn, jx_lit, pk_mul, nI_add, nI_pred, pk_sub, jx_na, jx_add0, Nat.reduceMul, Nat.reduceAdd, Nat.reduceSub, Nat.reduceEqDiff, Nat.reduceLeDiff, Nat.reduceLT, Nat.not_lt_zero, jx_cl, nI_leI, nI_ltI, nI_eq, jx_neg, jx_neg', jx_negE, jx_negL, jx_negG, jx_negLE, jx_negN, sb_nlt, sb_nle, jx_b0, jx_b1, jx_bT, jx_bF, ite_true, ite_false, if_true, if_false, reduceIte, Bool.false_eq_true, Bool.true_eq_false, eq_self, Nat.one_ne_zero, Nat.add_sub_cancel, not_true_eq_false, not_false_eq_true, b1, zn, hbi, jx_upup]) (s - p) p (Nat.le_refl _)
  rw [show jz_sc jz_bl b s (s - p) p = jz_r b s p from rfl] at lp
  have hr := jz_r_le b hp
  have hre := jz_r_end b hp
  obtain ⟨e', he⟩ : ∃ e', e' = jz_e b s p := ⟨_, rfl⟩
  obtain ⟨t', ht⟩ : ∃ t', t' = jz_t b s p := ⟨_, rfl⟩
  obtain ⟨v', hv⟩ : ∃ v', v' = jz_v b s p := ⟨_, rfl⟩
  rw [← he, ← ht, ← hv]
  unfold jz_t at ht
  unfold jz_v at hv
  rw [← he] at ht hv
  unfold jz_e at he
  generalize jz_r b s p = r at *
  have e1 : jm_go (jm_ev (d + 1)) 159 (0, [some (.ref 57), none, none], [], jm_hp (jm_up I 57 22 (nI r)) rho mu) = jm_go (jm_ev (d + 1)) 159 (52, [some (.ref 57), none, none], [], jm_hp (jm_up I 57 22 (nI r)) rho mu) := by
    rw [jb_159_0]
    by_cases zs : r < s
    · have zn : ¬ s ≤ r := by omega
      have hq : ¬ jz_bl (b r) = true := fun q => hre ⟨zs, q⟩
      simp only [jz_bl, Bool.or_eq_true, decide_eq_true_eq, not_or] at hq
      obtain ⟨q1, q2⟩ := hq
      have hbi := b3 r zs
      have hb4 := b4 r
      have zk : r < 160 := by omega
      have g22 : jm_up I 57 22 (nI r) 57 22 = nI r := jx_rds
      have hix : 0 ≤ jm_up I 57 22 (nI r) 57 22 ∧ (jm_up I 57 22 (nI r) 57 22).toNatClampNeg < 160 := by rw [g22]; exact jx_ixB zk (by decide)
      simp (disch := first | assumption | omega | fail) only [jb_159_11, jb_159_25, b1, zn, hbi, jx_rdn, jx_rds, jx_lit, nI_leI, nI_eq, jx_cl, q1, q2, if_true, if_false, ite_true, ite_false]
    · have zn : s ≤ r := by omega
      simp (disch := first | assumption | omega | fail) only [jx_rdn, jx_rds, b1, nI_leI, zn, if_true, ite_true]
  obtain ⟨F, hF⟩ : ∃ F, F = jm_up (jm_up (jm_up (jm_up I 57 22 (nI r)) 57 23 (nI r)) 57 24 (nI 0)) 57 25 (nI 0) := ⟨_, rfl⟩
  have hBF : jz_NB F b s := by rw [hF]; exact jz_NB_up (jz_NB_up (jz_NB_up (jz_NB_up hB (by omega)) (by omega)) (by omega)) (by omega)
  have F22 : F 57 22 = nI r := by rw [hF, jx_rdn (by omega), jx_rdn (by omega), jx_rdn (by omega), jx_rds]
  have F23 : F 57 23 = nI r := by rw [hF, jx_rdn (by omega), jx_rdn (by omega), jx_rds]
  have F24 : F 57 24 = nI 0 := by rw [hF, jx_rdn (by omega), jx_rds]
  have F25 : F 57 25 = nI 0 := by rw [hF, jx_rds]
  have gF : jG jS_lm I F := by rw [hF]; exact jG_up (jG_up (jG_up (jG_up jG_rf (jS_lmY (by omega))) (jS_lmY (by omega))) (jS_lmY (by omega))) (jS_lmY (by omega))
  have F10 : F 57 10 = nI s := hBF.1
  by_cases zs : r < s
  · rw [if_pos zs] at ht he
    have hbr := hBF.2.2.1 r zs
    have hb4 := b4 r
    have zr : r < 160 := by omega
    have zne : ¬ r = s := by omega
    have k143 := @jf_143le d (b r) F rho mu hb4
    have e2 : jm_go (jm_ev (d + 1)) 159 (52, [some (.ref 57), none, none], [], jm_hp (jm_up I 57 22 (nI r)) rho mu) = jm_go (jm_ev (d + 1)) 159 (82, [some (.ref 57), none, none], [], jm_hp F rho mu) := by
      rw [hF]
      simp (disch := first | assumption | omega | fail) only [jb_159_52, jx_rdn, jx_rds, b1, nI_eq, zne, if_false, ite_false, jx_lit]
    have hix : ∀ K : Nat → Nat → Int32, ∀ k, K 57 22 = nI k → k < 160 → 0 ≤ K 57 22 ∧ (K 57 22).toNatClampNeg < 160 := fun K k h h' => by rw [h]; exact jx_ixB h' (by decide)
    have hixF := hix F r F22 zr
    by_cases hl : jz_le (b r) = true
    · rw [if_pos hl] at ht he hv
      rw [hl] at k143
      have e3 : jm_go (jm_ev (d + 1)) 159 (82, [some (.ref 57), none, none], [], jm_hp F rho mu) = jm_go (jm_ev (d + 1)) 159 (103, [some (.ref 57), some (.int (nI (b r))), none], [], jm_hp (jm_up F 57 22 (nI r)) rho mu) := by
        rw [jx_upid F22]
        simp (disch := first | assumption | omega | exact jx_bz _ | exact jx_z0 | exact jx_z1 | (refine jx_ixB ?_ ?_; omega; omega) | (simp (disch := first | omega | fail) only [jx_lit, pk_mul, nI_add, nI_pred, pk_sub, jx_na, jx_add0, Nat.reduceMul, Nat.reduceAdd, Nat.reduceSub, Nat.reduceEqDiff, Nat.reduceLeDiff, Nat.reduceLT, F22, hbr, k143]; refine jx_ixC ?_ ?_; omega; omega) | (simp (disch := first | omega | fail) only [jx_lit, pk_mul, nI_add, nI_pred, pk_sub, jx_na, jx_add0, Nat.reduceMul, Nat.reduceAdd, Nat.reduceSub, Nat.reduceEqDiff, Nat.reduceLeDiff, Nat.reduceLT, jx_cl, nI_leI, Nat.zero_le, true_and, F22, hbr, k143]; omega) | fail) only [jb_159_11, jb_159_25, jb_159_39, jb_159_52, jb_159_81, jb_159_82, jb_159_100, jb_159_114, jb_159_130, jb_159_133, jb_159_146, jb_159_158, jb_159_165, jb_159_169, jb_159_175, jb_159_179, jb_159_185, jb_159_189, jb_159_195, jb_159_204, jb_159_208, jb_159_211, jb_159_217, jb_159_225, jb_159_228, jb_159_241, jb_159_257, jb_159_260, jb_159_266, jb_159_289, jb_159_290, jb_159_309, jb_159_315, jb_159_319, jb_159_320, jb_159_326, jb_159_332, jb_159_338, jb_159_344, jb_159_350, jb_159_356, jb_159_362, jb_159_368, jb_159_374, jb_159_378, jb_159_379, jb_159_385, jb_159_389, jb_159_390, jb_159_403, jx_nl, jx_nlr, jx_thenS, jx_tlS, jx_tlN, jm_ite_go, jx_rds, jx_rdn, jx_lit, pk_mul, nI_add, nI_pred, pk_sub, jx_na, jx_add0, Nat.reduceMul, Nat.reduceAdd, Nat.reduceSub, Nat.reduceEqDiff, Nat.reduceLeDiff, Nat.reduceLT, Nat.not_lt_zero, jx_cl, nI_leI, nI_ltI, nI_eq, jx_neg, jx_neg', jx_negE, jx_negL, jx_negG, jx_negLE, jx_negN, sb_nlt, sb_nle, jx_b0, jx_b1, jx_bT, jx_bF, ite_true, ite_false, if_true, if_false, reduceIte, Bool.false_eq_true, Bool.true_eq_false, eq_self, Nat.one_ne_zero, Nat.add_sub_cancel, not_true_eq_false, not_false_eq_true, F22, hbr, k143]
      have lp2 := jz_sc_go (E := jm_ev (d + 1)) (y := 159) (Q := jz_le) (b := b) (s := s) (fun k => (103, [some (.ref 57), some (.int (nI (b r))), none], [], jm_hp (jm_up F 57 22 (nI k)) rho mu)) r (fun k hk hks hq => by
        have zn : ¬ s ≤ k := by omega
        have hbi := hBF.2.2.1 k hks
        have hbk4 := b4 k
        have zk : k < 160 := by omega
        have hixk := hix (jm_up F 57 22 (nI k)) k jx_rds zk
        have k143k := @jf_143le d (b k) (jm_up F 57 22 (nI k)) rho mu hbk4
        rw [hq] at k143k
        rw [jb_159_103]
        simp (disch := first | assumption | omega | exact jx_bz _ | exact jx_z0 | exact jx_z1 | (refine jx_ixB ?_ ?_; omega; omega) | (simp (disch := first | omega | fail) only [jx_lit, pk_mul, nI_add, nI_pred, pk_sub, jx_na, jx_add0, Nat.reduceMul, Nat.reduceAdd, Nat.reduceSub, Nat.reduceEqDiff, Nat.reduceLeDiff, Nat.reduceLT, F10, zn, hbi, k143k, jx_upup]; refine jx_ixC ?_ ?_; omega; omega) | (simp (disch := first | omega | fail) only [jx_lit, pk_mul, nI_add, nI_pred, pk_sub, jx_na, jx_add0, Nat.reduceMul, Nat.reduceAdd, Nat.reduceSub, Nat.reduceEqDiff, Nat.reduceLeDiff, Nat.reduceLT, jx_cl, nI_leI, Nat.zero_le, true_and, F10, zn, hbi, k143k, jx_upup]; omega) | fail) only [jb_159_11, jb_159_25, jb_159_39, jb_159_52, jb_159_81, jb_159_82, jb_159_100, jb_159_114, jb_159_130, jb_159_133, jb_159_146, jb_159_158, jb_159_165, jb_159_169, jb_159_175, jb_159_179, jb_159_185, jb_159_189, jb_159_195, jb_159_204, jb_159_208, jb_159_211, jb_159_217, jb_159_225, jb_159_228, jb_159_241, jb_159_257, jb_159_260, jb_159_266, jb_159_289, jb_159_290, jb_159_309, jb_159_315, jb_159_319, jb_159_320, jb_159_326, jb_159_332, jb_159_338, jb_159_344, jb_159_350, jb_159_356, jb_159_362, jb_159_368, jb_159_374, jb_159_378, jb_159_379, jb_159_385, jb_159_389, jb_159_390, jb_159_403, jx_nl, jx_nlr, jx_thenS, jx_tlS, jx_tlN, jm_ite_go, jx_rds, jx_rdn, jx_lit, pk_mul, nI_add, nI_pred, pk_sub, jx_na, jx_add0, Nat.reduceMul, Nat.reduceAdd, Nat.reduceSub, Nat.reduceEqDiff, Nat.reduceLeDiff, Nat.reduceLT, Nat.not_lt_zero, jx_cl, nI_leI, nI_ltI, nI_eq, jx_neg, jx_neg', jx_negE, jx_negL, jx_negG, jx_negLE, jx_negN, sb_nlt, sb_nle, jx_b0, jx_b1, jx_bT, jx_bF, ite_true, ite_false, if_true, if_false, reduceIte, Bool.false_eq_true, Bool.true_eq_false, eq_self, Nat.one_ne_zero, Nat.add_sub_cancel, not_true_eq_false, not_false_eq_true, F10, zn, hbi, k143k, jx_upup]) (s - r) r (Nat.le_refl _)
      rw [show jz_sc jz_le b s (s - r) r = e' from he.symm] at lp2
      obtain ⟨x1, x2⟩ := jz_x_le jz_le b zs hl
      rw [← he] at x1 x2
      have hall : ∀ k, r ≤ k → k < e' → b k ≠ 32 := fun k k1 k2 q => by
        have := jz_x_all (Q := jz_le) (b := b) (s := s) (r := r) (k := k) k1 (by rw [← he]; exact k2)
        rw [q] at this
        cases this
      have hend : ¬ (e' < s ∧ jz_le (b e') = true) := by rw [he]; exact jz_sc_end _ _ (by omega)
      have hB3 := jz_NB_up (v := nI e') hBF (show ¬ 22 = 10 by omega)
      have e4 : jm_go (jm_ev (d + 1)) 159 (103, [some (.ref 57), some (.int (nI (b r))), none], [], jm_hp (jm_up F 57 22 (nI e')) rho mu) = jm_go (jm_ev (d + 1)) 159 (146, [some (.ref 57), some (.int (nI (b r))), none], [], jm_hp (jm_up F 57 22 (nI e')) rho mu) := by
        rw [jb_159_103]
        by_cases zs2 : e' < s
        · have zn : ¬ s ≤ e' := by omega
          have hq : jz_le (b e') = false := by
            cases q : jz_le (b e') with
            | false => rfl
            | true => exact absurd ⟨zs2, q⟩ hend
          have hbi := hBF.2.2.1 e' zs2
          have hbk4 := b4 e'
          have zk : e' < 160 := by omega
          have hixk := hix (jm_up F 57 22 (nI e')) e' jx_rds zk
          have k143k := @jf_143le d (b e') (jm_up F 57 22 (nI e')) rho mu hbk4
          rw [hq] at k143k
          simp (disch := first | assumption | omega | fail) only [jb_159_114, jb_159_130, jx_thenS, jx_tlS, F10, zn, hbi, k143k, jx_rdn, jx_rds, jx_lit, nI_leI, jx_cl, jx_b0, if_true, if_false, ite_true, ite_false, jx_bF]
        · have zn : s ≤ e' := by omega
          simp (disch := first | assumption | omega | fail) only [jx_rdn, jx_rds, F10, nI_leI, zn, if_true, ite_true]
      have k158 := jf_158 (d := d) (rho := rho) (mu := mu) hB3.2.2.2.2 hB3.2.2.1 b4 b2 (show r ≤ e' by omega) x2 hall
      refine ⟨jm_up (jm_up (jm_up F 57 22 (nI e')) 57 24 (jz_mt t')) 57 25 (nI v'), ?_, jG_up (jG_up (jG_up gF (jS_lmY (by omega))) (jS_lmY (by omega))) (jS_lmY (by omega)), ?_, ?_, ?_, fun _ _ => ?_⟩
      · rw [e0, lp, e1, e2, e3, lp2, e4]
        have hk : jz_w b r e' < 13 := by
          rcases jz_w_cases b r e' with ⟨k, hk, hw, -⟩ | ⟨hw, -⟩
          · rw [hw]; omega
          · rw [hw]; decide
        rw [ht, hv]
        generalize jz_w b r e' = k at *
        rcases (show k = 0 ∨ k = 1 ∨ k = 2 ∨ k = 3 ∨ k = 4 ∨ k = 5 ∨ k = 6 ∨ k = 7 ∨ k = 8 ∨ k = 9 ∨ k = 10 ∨ k = 11 ∨ k = 12 by omega) with z | z | z | z | z | z | z | z | z | z | z | z | z <;> subst z <;> simp (disch := first | assumption | omega | exact jx_bz _ | exact jx_z0 | exact jx_z1 | (refine jx_ixB ?_ ?_; omega; omega) | (simp (disch := first | omega | fail) only [jx_lit, pk_mul, nI_add, nI_pred, pk_sub, jx_na, jx_add0, Nat.reduceMul, Nat.reduceAdd, Nat.reduceSub, Nat.reduceEqDiff, Nat.reduceLeDiff, Nat.reduceLT, F23, k158, jz_mt, jz_tw, jz_vw]; refine jx_ixC ?_ ?_; omega; omega) | (simp (disch := first | omega | fail) only [jx_lit, pk_mul, nI_add, nI_pred, pk_sub, jx_na, jx_add0, Nat.reduceMul, Nat.reduceAdd, Nat.reduceSub, Nat.reduceEqDiff, Nat.reduceLeDiff, Nat.reduceLT, jx_cl, nI_leI, Nat.zero_le, true_and, F23, k158, jz_mt, jz_tw, jz_vw]; omega) | fail) only [jb_159_11, jb_159_25, jb_159_39, jb_159_52, jb_159_81, jb_159_82, jb_159_100, jb_159_114, jb_159_130, jb_159_133, jb_159_146, jb_159_158, jb_159_165, jb_159_169, jb_159_175, jb_159_179, jb_159_185, jb_159_189, jb_159_195, jb_159_204, jb_159_208, jb_159_211, jb_159_217, jb_159_225, jb_159_228, jb_159_241, jb_159_257, jb_159_260, jb_159_266, jb_159_289, jb_159_290, jb_159_309, jb_159_315, jb_159_319, jb_159_320, jb_159_326, jb_159_332, jb_159_338, jb_159_344, jb_159_350, jb_159_356, jb_159_362, jb_159_368, jb_159_374, jb_159_378, jb_159_379, jb_159_385, jb_159_389, jb_159_390, jb_159_403, jx_nl, jx_nlr, jx_thenS, jx_tlS, jx_tlN, jm_ite_go, jx_rds, jx_rdn, jx_lit, pk_mul, nI_add, nI_pred, pk_sub, jx_na, jx_add0, Nat.reduceMul, Nat.reduceAdd, Nat.reduceSub, Nat.reduceEqDiff, Nat.reduceLeDiff, Nat.reduceLT, Nat.not_lt_zero, jx_cl, nI_leI, nI_ltI, nI_eq, jx_neg, jx_neg', jx_negE, jx_negL, jx_negG, jx_negLE, jx_negN, sb_nlt, sb_nle, jx_b0, jx_b1, jx_bT, jx_bF, ite_true, ite_false, if_true, if_false, reduceIte, Bool.false_eq_true, Bool.true_eq_false, eq_self, Nat.one_ne_zero, Nat.add_sub_cancel, not_true_eq_false, not_false_eq_true, F23, k158, jz_mt, jz_tw, jz_vw]
      · rw [jx_rdn (by omega), jx_rdn (by omega), jx_rds]
      · rw [jx_rdn (by omega), jx_rdn (by omega), jx_rdn (by omega)]; exact F23
      · rw [jx_rdn (by omega), jx_rds]
      · rw [jx_rds]
    · have hl0 : jz_le (b r) = false := by simpa using hl
      rw [if_neg hl] at ht he hv
      rw [hl0] at k143
      have k143d := @jf_143di d (b r) F rho mu hb4
      by_cases hd : jz_di (b r) = true
      · rw [if_pos hd] at ht he
        rw [hd] at k143d
        have e3 : jm_go (jm_ev (d + 1)) 159 (82, [some (.ref 57), none, none], [], jm_hp F rho mu) = jm_go (jm_ev (d + 1)) 159 (230, [some (.ref 57), some (.int (nI (b r))), some (.int (nI (r - r)))], [], jm_hp (jm_up (jm_up F 57 25 (nI (jz_v4 b r (r - r)))) 57 22 (nI r)) rho mu) := by
          rw [Nat.sub_self, show jz_v4 b r 0 = 0 from rfl, jx_upid F25, jx_upid F22]
          simp (disch := first | assumption | omega | exact jx_bz _ | exact jx_z0 | exact jx_z1 | (refine jx_ixB ?_ ?_; omega; omega) | (simp (disch := first | omega | fail) only [jx_lit, pk_mul, nI_add, nI_pred, pk_sub, jx_na, jx_add0, Nat.reduceMul, Nat.reduceAdd, Nat.reduceSub, Nat.reduceEqDiff, Nat.reduceLeDiff, Nat.reduceLT, F22, hbr, k143, k143d]; refine jx_ixC ?_ ?_; omega; omega) | (simp (disch := first | omega | fail) only [jx_lit, pk_mul, nI_add, nI_pred, pk_sub, jx_na, jx_add0, Nat.reduceMul, Nat.reduceAdd, Nat.reduceSub, Nat.reduceEqDiff, Nat.reduceLeDiff, Nat.reduceLT, jx_cl, nI_leI, Nat.zero_le, true_and, F22, hbr, k143, k143d]; omega) | fail) only [jb_159_11, jb_159_25, jb_159_39, jb_159_52, jb_159_81, jb_159_82, jb_159_100, jb_159_114, jb_159_130, jb_159_133, jb_159_146, jb_159_158, jb_159_165, jb_159_169, jb_159_175, jb_159_179, jb_159_185, jb_159_189, jb_159_195, jb_159_204, jb_159_208, jb_159_211, jb_159_217, jb_159_225, jb_159_228, jb_159_241, jb_159_257, jb_159_260, jb_159_266, jb_159_289, jb_159_290, jb_159_309, jb_159_315, jb_159_319, jb_159_320, jb_159_326, jb_159_332, jb_159_338, jb_159_344, jb_159_350, jb_159_356, jb_159_362, jb_159_368, jb_159_374, jb_159_378, jb_159_379, jb_159_385, jb_159_389, jb_159_390, jb_159_403, jx_nl, jx_nlr, jx_thenS, jx_tlS, jx_tlN, jm_ite_go, jx_rds, jx_rdn, jx_lit, pk_mul, nI_add, nI_pred, pk_sub, jx_na, jx_add0, Nat.reduceMul, Nat.reduceAdd, Nat.reduceSub, Nat.reduceEqDiff, Nat.reduceLeDiff, Nat.reduceLT, Nat.not_lt_zero, jx_cl, nI_leI, nI_ltI, nI_eq, jx_neg, jx_neg', jx_negE, jx_negL, jx_negG, jx_negLE, jx_negN, sb_nlt, sb_nle, jx_b0, jx_b1, jx_bT, jx_bF, ite_true, ite_false, if_true, if_false, reduceIte, Bool.false_eq_true, Bool.true_eq_false, eq_self, Nat.one_ne_zero, Nat.add_sub_cancel, not_true_eq_false, not_false_eq_true, F22, hbr, k143, k143d]
        have lp2 := jz_sc_go (E := jm_ev (d + 1)) (y := 159) (Q := jz_di) (b := b) (s := s) (fun k => (230, [some (.ref 57), some (.int (nI (b r))), some (.int (nI (k - r)))], [], jm_hp (jm_up (jm_up F 57 25 (nI (jz_v4 b r (k - r)))) 57 22 (nI k)) rho mu)) r (fun k hk hks hq => by
          have zn : ¬ s ≤ k := by omega
          have hbi := hBF.2.2.1 k hks
          have hbk4 := b4 k
          have zk : k < 160 := by omega
          have hixk := hix (jm_up (jm_up F 57 25 (nI (jz_v4 b r (k - r)))) 57 22 (nI k)) k jx_rds zk
          have k143k := @jf_143di d (b k) (jm_up (jm_up F 57 25 (nI (jz_v4 b r (k - r)))) 57 22 (nI k)) rho mu hbk4
          rw [hq] at k143k
          have h48 : 48 ≤ b k := by
            unfold jz_di at hq
            rw [Bool.and_eq_true] at hq
            exact of_decide_eq_true hq.1
          have ek : k + 1 - r = k - r + 1 := by omega
          rw [ek, jb_159_230]
          by_cases z4 : 4 ≤ k - r
          · have ev : jz_v4 b r (k - r + 1) = 0 := if_neg (by omega)
            rw [ev]
            simp (disch := first | assumption | omega | exact jx_bz _ | exact jx_z0 | exact jx_z1 | (refine jx_ixB ?_ ?_; omega; omega) | (simp (disch := first | omega | fail) only [jx_lit, pk_mul, nI_add, nI_pred, pk_sub, jx_na, jx_add0, Nat.reduceMul, Nat.reduceAdd, Nat.reduceSub, Nat.reduceEqDiff, Nat.reduceLeDiff, Nat.reduceLT, F10, zn, hbi, k143k, z4, jx_up4]; refine jx_ixC ?_ ?_; omega; omega) | (simp (disch := first | omega | fail) only [jx_lit, pk_mul, nI_add, nI_pred, pk_sub, jx_na, jx_add0, Nat.reduceMul, Nat.reduceAdd, Nat.reduceSub, Nat.reduceEqDiff, Nat.reduceLeDiff, Nat.reduceLT, jx_cl, nI_leI, Nat.zero_le, true_and, F10, zn, hbi, k143k, z4, jx_up4]; omega) | fail) only [jb_159_11, jb_159_25, jb_159_39, jb_159_52, jb_159_81, jb_159_82, jb_159_100, jb_159_114, jb_159_130, jb_159_133, jb_159_146, jb_159_158, jb_159_165, jb_159_169, jb_159_175, jb_159_179, jb_159_185, jb_159_189, jb_159_195, jb_159_204, jb_159_208, jb_159_211, jb_159_217, jb_159_225, jb_159_228, jb_159_241, jb_159_257, jb_159_260, jb_159_266, jb_159_289, jb_159_290, jb_159_309, jb_159_315, jb_159_319, jb_159_320, jb_159_326, jb_159_332, jb_159_338, jb_159_344, jb_159_350, jb_159_356, jb_159_362, jb_159_368, jb_159_374, jb_159_378, jb_159_379, jb_159_385, jb_159_389, jb_159_390, jb_159_403, jx_nl, jx_nlr, jx_thenS, jx_tlS, jx_tlN, jm_ite_go, jx_rds, jx_rdn, jx_lit, pk_mul, nI_add, nI_pred, pk_sub, jx_na, jx_add0, Nat.reduceMul, Nat.reduceAdd, Nat.reduceSub, Nat.reduceEqDiff, Nat.reduceLeDiff, Nat.reduceLT, Nat.not_lt_zero, jx_cl, nI_leI, nI_ltI, nI_eq, jx_neg, jx_neg', jx_negE, jx_negL, jx_negG, jx_negLE, jx_negN, sb_nlt, sb_nle, jx_b0, jx_b1, jx_bT, jx_bF, ite_true, ite_false, if_true, if_false, reduceIte, Bool.false_eq_true, Bool.true_eq_false, eq_self, Nat.one_ne_zero, Nat.add_sub_cancel, not_true_eq_false, not_false_eq_true, F10, zn, hbi, k143k, z4, jx_up4]
          · have ev : jz_v4 b r (k - r + 1) = 10 * jz_v4 b r (k - r) + b k - 48 := by
              unfold jz_v4
              rw [if_pos (by omega), if_pos (by omega), jz_vl, show r + (k - r) = k by omega, Nat.mul_comm]
            rw [ev]
            simp (disch := first | assumption | omega | exact jx_bz _ | exact jx_z0 | exact jx_z1 | (refine jx_ixB ?_ ?_; omega; omega) | (simp (disch := first | omega | fail) only [jx_lit, pk_mul, nI_add, nI_pred, pk_sub, jx_na, jx_add0, Nat.reduceMul, Nat.reduceAdd, Nat.reduceSub, Nat.reduceEqDiff, Nat.reduceLeDiff, Nat.reduceLT, F10, zn, hbi, k143k, z4, jx_up4]; refine jx_ixC ?_ ?_; omega; omega) | (simp (disch := first | omega | fail) only [jx_lit, pk_mul, nI_add, nI_pred, pk_sub, jx_na, jx_add0, Nat.reduceMul, Nat.reduceAdd, Nat.reduceSub, Nat.reduceEqDiff, Nat.reduceLeDiff, Nat.reduceLT, jx_cl, nI_leI, Nat.zero_le, true_and, F10, zn, hbi, k143k, z4, jx_up4]; omega) | fail) only [jb_159_11, jb_159_25, jb_159_39, jb_159_52, jb_159_81, jb_159_82, jb_159_100, jb_159_114, jb_159_130, jb_159_133, jb_159_146, jb_159_158, jb_159_165, jb_159_169, jb_159_175, jb_159_179, jb_159_185, jb_159_189, jb_159_195, jb_159_204, jb_159_208, jb_159_211, jb_159_217, jb_159_225, jb_159_228, jb_159_241, jb_159_257, jb_159_260, jb_159_266, jb_159_289, jb_159_290, jb_159_309, jb_159_315, jb_159_319, jb_159_320, jb_159_326, jb_159_332, jb_159_338, jb_159_344, jb_159_350, jb_159_356, jb_159_362, jb_159_368, jb_159_374, jb_159_378, jb_159_379, jb_159_385, jb_159_389, jb_159_390, jb_159_403, jx_nl, jx_nlr, jx_thenS, jx_tlS, jx_tlN, jm_ite_go, jx_rds, jx_rdn, jx_lit, pk_mul, nI_add, nI_pred, pk_sub, jx_na, jx_add0, Nat.reduceMul, Nat.reduceAdd, Nat.reduceSub, Nat.reduceEqDiff, Nat.reduceLeDiff, Nat.reduceLT, Nat.not_lt_zero, jx_cl, nI_leI, nI_ltI, nI_eq, jx_neg, jx_neg', jx_negE, jx_negL, jx_negG, jx_negLE, jx_negN, sb_nlt, sb_nle, jx_b0, jx_b1, jx_bT, jx_bF, ite_true, ite_false, if_true, if_false, reduceIte, Bool.false_eq_true, Bool.true_eq_false, eq_self, Nat.one_ne_zero, Nat.add_sub_cancel, not_true_eq_false, not_false_eq_true, F10, zn, hbi, k143k, z4, jx_up4]) (s - r) r (Nat.le_refl _)
        rw [show jz_sc jz_di b s (s - r) r = e' from he.symm] at lp2
        obtain ⟨x1, x2⟩ := jz_x_le jz_di b zs hd
        rw [← he] at x1 x2
        have hend : ¬ (e' < s ∧ jz_di (b e') = true) := by rw [he]; exact jz_sc_end _ _ (by omega)
        have e4 : jm_go (jm_ev (d + 1)) 159 (230, [some (.ref 57), some (.int (nI (b r))), some (.int (nI (e' - r)))], [], jm_hp (jm_up (jm_up F 57 25 (nI (jz_v4 b r (e' - r)))) 57 22 (nI e')) rho mu) = jm_go (jm_ev (d + 1)) 159 (309, [some (.ref 57), some (.int (nI (b r))), some (.int (nI (e' - r)))], [], jm_hp (jm_up (jm_up F 57 25 (nI (jz_v4 b r (e' - r)))) 57 22 (nI e')) rho mu) := by
          rw [jb_159_230]
          by_cases zs2 : e' < s
          · have zn : ¬ s ≤ e' := by omega
            have hq : jz_di (b e') = false := by
              cases q : jz_di (b e') with
              | false => rfl
              | true => exact absurd ⟨zs2, q⟩ hend
            have hbi := hBF.2.2.1 e' zs2
            have hbk4 := b4 e'
            have zk : e' < 160 := by omega
            have hixk := hix (jm_up (jm_up F 57 25 (nI (jz_v4 b r (e' - r)))) 57 22 (nI e')) e' jx_rds zk
            have k143k := @jf_143di d (b e') (jm_up (jm_up F 57 25 (nI (jz_v4 b r (e' - r)))) 57 22 (nI e')) rho mu hbk4
            rw [hq] at k143k
            simp (disch := first | assumption | omega | fail) only [jb_159_241, jb_159_257, jx_thenS, jx_tlS, F10, zn, hbi, k143k, jx_rdn, jx_rds, jx_lit, nI_leI, jx_cl, jx_b0, if_true, if_false, ite_true, ite_false, jx_bF]
          · have zn : s ≤ e' := by omega
            simp (disch := first | assumption | omega | fail) only [jx_rdn, jx_rds, F10, nI_leI, zn, if_true, ite_true]
        refine ⟨jm_up (jm_up (jm_up F 57 25 (nI (jz_v4 b r (e' - r)))) 57 22 (nI e')) 57 24 (jz_mt t'), ?_, jG_up (jG_up (jG_up gF (jS_lmY (by omega))) (jS_lmY (by omega))) (jS_lmY (by omega)), ?_, ?_, ?_, fun t1 t2 => ?_⟩
        · rw [e0, lp, e1, e2, e3, lp2, e4]
          by_cases z4 : e' - r ≤ 4
          · rw [if_pos z4] at ht
            rw [ht]
            simp (disch := first | assumption | omega | exact jx_bz _ | exact jx_z0 | exact jx_z1 | (refine jx_ixB ?_ ?_; omega; omega) | (simp (disch := first | omega | fail) only [jx_lit, pk_mul, nI_add, nI_pred, pk_sub, jx_na, jx_add0, Nat.reduceMul, Nat.reduceAdd, Nat.reduceSub, Nat.reduceEqDiff, Nat.reduceLeDiff, Nat.reduceLT, z4, jz_mt]; refine jx_ixC ?_ ?_; omega; omega) | (simp (disch := first | omega | fail) only [jx_lit, pk_mul, nI_add, nI_pred, pk_sub, jx_na, jx_add0, Nat.reduceMul, Nat.reduceAdd, Nat.reduceSub, Nat.reduceEqDiff, Nat.reduceLeDiff, Nat.reduceLT, jx_cl, nI_leI, Nat.zero_le, true_and, z4, jz_mt]; omega) | fail) only [jb_159_11, jb_159_25, jb_159_39, jb_159_52, jb_159_81, jb_159_82, jb_159_100, jb_159_114, jb_159_130, jb_159_133, jb_159_146, jb_159_158, jb_159_165, jb_159_169, jb_159_175, jb_159_179, jb_159_185, jb_159_189, jb_159_195, jb_159_204, jb_159_208, jb_159_211, jb_159_217, jb_159_225, jb_159_228, jb_159_241, jb_159_257, jb_159_260, jb_159_266, jb_159_289, jb_159_290, jb_159_309, jb_159_315, jb_159_319, jb_159_320, jb_159_326, jb_159_332, jb_159_338, jb_159_344, jb_159_350, jb_159_356, jb_159_362, jb_159_368, jb_159_374, jb_159_378, jb_159_379, jb_159_385, jb_159_389, jb_159_390, jb_159_403, jx_nl, jx_nlr, jx_thenS, jx_tlS, jx_tlN, jm_ite_go, jx_rds, jx_rdn, jx_lit, pk_mul, nI_add, nI_pred, pk_sub, jx_na, jx_add0, Nat.reduceMul, Nat.reduceAdd, Nat.reduceSub, Nat.reduceEqDiff, Nat.reduceLeDiff, Nat.reduceLT, Nat.not_lt_zero, jx_cl, nI_leI, nI_ltI, nI_eq, jx_neg, jx_neg', jx_negE, jx_negL, jx_negG, jx_negLE, jx_negN, sb_nlt, sb_nle, jx_b0, jx_b1, jx_bT, jx_bF, ite_true, ite_false, if_true, if_false, reduceIte, Bool.false_eq_true, Bool.true_eq_false, eq_self, Nat.one_ne_zero, Nat.add_sub_cancel, not_true_eq_false, not_false_eq_true, z4, jz_mt]
          · rw [if_neg z4] at ht
            rw [ht]
            simp (disch := first | assumption | omega | exact jx_bz _ | exact jx_z0 | exact jx_z1 | (refine jx_ixB ?_ ?_; omega; omega) | (simp (disch := first | omega | fail) only [jx_lit, pk_mul, nI_add, nI_pred, pk_sub, jx_na, jx_add0, Nat.reduceMul, Nat.reduceAdd, Nat.reduceSub, Nat.reduceEqDiff, Nat.reduceLeDiff, Nat.reduceLT, z4, jz_mt]; refine jx_ixC ?_ ?_; omega; omega) | (simp (disch := first | omega | fail) only [jx_lit, pk_mul, nI_add, nI_pred, pk_sub, jx_na, jx_add0, Nat.reduceMul, Nat.reduceAdd, Nat.reduceSub, Nat.reduceEqDiff, Nat.reduceLeDiff, Nat.reduceLT, jx_cl, nI_leI, Nat.zero_le, true_and, z4, jz_mt]; omega) | fail) only [jb_159_11, jb_159_25, jb_159_39, jb_159_52, jb_159_81, jb_159_82, jb_159_100, jb_159_114, jb_159_130, jb_159_133, jb_159_146, jb_159_158, jb_159_165, jb_159_169, jb_159_175, jb_159_179, jb_159_185, jb_159_189, jb_159_195, jb_159_204, jb_159_208, jb_159_211, jb_159_217, jb_159_225, jb_159_228, jb_159_241, jb_159_257, jb_159_260, jb_159_266, jb_159_289, jb_159_290, jb_159_309, jb_159_315, jb_159_319, jb_159_320, jb_159_326, jb_159_332, jb_159_338, jb_159_344, jb_159_350, jb_159_356, jb_159_362, jb_159_368, jb_159_374, jb_159_378, jb_159_379, jb_159_385, jb_159_389, jb_159_390, jb_159_403, jx_nl, jx_nlr, jx_thenS, jx_tlS, jx_tlN, jm_ite_go, jx_rds, jx_rdn, jx_lit, pk_mul, nI_add, nI_pred, pk_sub, jx_na, jx_add0, Nat.reduceMul, Nat.reduceAdd, Nat.reduceSub, Nat.reduceEqDiff, Nat.reduceLeDiff, Nat.reduceLT, Nat.not_lt_zero, jx_cl, nI_leI, nI_ltI, nI_eq, jx_neg, jx_neg', jx_negE, jx_negL, jx_negG, jx_negLE, jx_negN, sb_nlt, sb_nle, jx_b0, jx_b1, jx_bT, jx_bF, ite_true, ite_false, if_true, if_false, reduceIte, Bool.false_eq_true, Bool.true_eq_false, eq_self, Nat.one_ne_zero, Nat.add_sub_cancel, not_true_eq_false, not_false_eq_true, z4, jz_mt]
        · rw [jx_rdn (by omega), jx_rds]
        · rw [jx_rdn (by omega), jx_rdn (by omega), jx_rdn (by omega)]; exact F23
        · rw [jx_rds]
        · have z4 : e' - r ≤ 4 := by
            apply Classical.byContradiction
            intro q
            rw [if_neg q] at ht
            omega
          rw [jx_rdn (by omega), jx_rdn (by omega), jx_rds, hv, jz_v4, if_pos z4]
      · have hd0 : jz_di (b r) = false := by simpa using hd
        rw [if_neg hd] at ht he
        rw [hd0] at k143d
        have e3 : jm_go (jm_ev (d + 1)) 159 (82, [some (.ref 57), none, none], [], jm_hp F rho mu) = jm_go (jm_ev (d + 1)) 159 (379, [some (.ref 57), some (.int (nI (b r))), none], [.int (jx_b (jz_si (b r)))], jm_hp F rho mu) := by
          have e30 : jm_go (jm_ev (d + 1)) 159 (82, [some (.ref 57), none, none], [], jm_hp F rho mu) = jm_go (jm_ev (d + 1)) 159 (326, [some (.ref 57), some (.int (nI (b r))), none], [], jm_hp F rho mu) := by
            simp (disch := first | assumption | omega | fail) only [jb_159_82, jb_159_100, jb_159_217, jb_159_225, jx_thenS, jx_tlS, F22, hbr, k143, k143d, jx_lit, jx_cl, jx_b0, if_true, if_false, ite_true, ite_false, jx_bF]
          rw [e30]
          by_cases h40 : b r = 40
          · rw [show jz_si (b r) = true by simp [jz_si, h40]]
            simp (disch := first | assumption | omega | fail) only [jb_159_326, jb_159_374, jx_lit, nI_eq, h40, if_true, ite_true, jx_bT]
          by_cases h41 : b r = 41
          · rw [show jz_si (b r) = true by simp [jz_si, h41]]
            simp (disch := first | assumption | omega | fail) only [jb_159_326, jb_159_332, jb_159_374, jx_lit, nI_eq, h40, h41, if_true, if_false, ite_true, ite_false, jx_bT, Nat.reduceEqDiff]
          by_cases h59 : b r = 59
          · rw [show jz_si (b r) = true by simp [jz_si, h59]]
            simp (disch := first | assumption | omega | fail) only [jb_159_326, jb_159_332, jb_159_338, jb_159_374, jx_lit, nI_eq, h59, if_true, if_false, ite_true, ite_false, jx_bT, Nat.reduceEqDiff]
          by_cases h43 : b r = 43
          · rw [show jz_si (b r) = true by simp [jz_si, h43]]
            simp (disch := first | assumption | omega | fail) only [jb_159_326, jb_159_332, jb_159_338, jb_159_344, jb_159_374, jx_lit, nI_eq, h43, if_true, if_false, ite_true, ite_false, jx_bT, Nat.reduceEqDiff]
          by_cases h45 : b r = 45
          · rw [show jz_si (b r) = true by simp [jz_si, h45]]
            simp (disch := first | assumption | omega | fail) only [jb_159_326, jb_159_332, jb_159_338, jb_159_344, jb_159_350, jb_159_374, jx_lit, nI_eq, h45, if_true, if_false, ite_true, ite_false, jx_bT, Nat.reduceEqDiff]
          by_cases h42 : b r = 42
          · rw [show jz_si (b r) = true by simp [jz_si, h42]]
            simp (disch := first | assumption | omega | fail) only [jb_159_326, jb_159_332, jb_159_338, jb_159_344, jb_159_350, jb_159_356, jb_159_374, jx_lit, nI_eq, h42, if_true, if_false, ite_true, ite_false, jx_bT, Nat.reduceEqDiff]
          by_cases h60 : b r = 60
          · rw [show jz_si (b r) = true by simp [jz_si, h60]]
            simp (disch := first | assumption | omega | fail) only [jb_159_326, jb_159_332, jb_159_338, jb_159_344, jb_159_350, jb_159_356, jb_159_362, jb_159_374, jx_lit, nI_eq, h60, if_true, if_false, ite_true, ite_false, jx_bT, Nat.reduceEqDiff]
          by_cases h61 : b r = 61
          · rw [show jz_si (b r) = true by simp [jz_si, h61]]
            simp (disch := first | assumption | omega | fail) only [jb_159_326, jb_159_332, jb_159_338, jb_159_344, jb_159_350, jb_159_356, jb_159_362, jb_159_368, jb_159_374, jx_lit, nI_eq, h61, if_true, if_false, ite_true, ite_false, jx_bT, Nat.reduceEqDiff]
          rw [show jz_si (b r) = false by simp [jz_si, h40, h41, h59, h43, h45, h42, h60, h61]]
          simp (disch := first | assumption | omega | fail) only [jb_159_326, jb_159_332, jb_159_338, jb_159_344, jb_159_350, jb_159_356, jb_159_362, jb_159_368, jb_159_378, jx_lit, nI_eq, h40, h41, h59, h43, h45, h42, h60, h61, if_true, if_false, ite_true, ite_false, jx_bF]
        refine ⟨jm_up (jm_up F 57 24 (jz_mt t')) 57 22 (nI e'), ?_, jG_up (jG_up gF (jS_lmY (by omega))) (jS_lmY (by omega)), ?_, ?_, ?_, fun t1 t2 => ?_⟩
        · rw [e0, lp, e1, e2, e3]
          by_cases hs : jz_si (b r) = true
          · rw [if_pos hs] at ht
            have hb8 : ¬ b r = 7 := by
              simp only [jz_si, Bool.or_eq_true, decide_eq_true_eq] at hs
              omega
            have ec : jz_mt (b r) = nI (b r) := if_neg hb8
            rw [ht, ec, he, hs]
            simp (disch := first | assumption | omega | exact jx_bz _ | exact jx_z0 | exact jx_z1 | (refine jx_ixB ?_ ?_; omega; omega) | (simp (disch := first | omega | fail) only [jx_lit, pk_mul, nI_add, nI_pred, pk_sub, jx_na, jx_add0, Nat.reduceMul, Nat.reduceAdd, Nat.reduceSub, Nat.reduceEqDiff, Nat.reduceLeDiff, Nat.reduceLT, F22]; refine jx_ixC ?_ ?_; omega; omega) | (simp (disch := first | omega | fail) only [jx_lit, pk_mul, nI_add, nI_pred, pk_sub, jx_na, jx_add0, Nat.reduceMul, Nat.reduceAdd, Nat.reduceSub, Nat.reduceEqDiff, Nat.reduceLeDiff, Nat.reduceLT, jx_cl, nI_leI, Nat.zero_le, true_and, F22]; omega) | fail) only [jb_159_11, jb_159_25, jb_159_39, jb_159_52, jb_159_81, jb_159_82, jb_159_100, jb_159_114, jb_159_130, jb_159_133, jb_159_146, jb_159_158, jb_159_165, jb_159_169, jb_159_175, jb_159_179, jb_159_185, jb_159_189, jb_159_195, jb_159_204, jb_159_208, jb_159_211, jb_159_217, jb_159_225, jb_159_228, jb_159_241, jb_159_257, jb_159_260, jb_159_266, jb_159_289, jb_159_290, jb_159_309, jb_159_315, jb_159_319, jb_159_320, jb_159_326, jb_159_332, jb_159_338, jb_159_344, jb_159_350, jb_159_356, jb_159_362, jb_159_368, jb_159_374, jb_159_378, jb_159_379, jb_159_385, jb_159_389, jb_159_390, jb_159_403, jx_nl, jx_nlr, jx_thenS, jx_tlS, jx_tlN, jm_ite_go, jx_rds, jx_rdn, jx_lit, pk_mul, nI_add, nI_pred, pk_sub, jx_na, jx_add0, Nat.reduceMul, Nat.reduceAdd, Nat.reduceSub, Nat.reduceEqDiff, Nat.reduceLeDiff, Nat.reduceLT, Nat.not_lt_zero, jx_cl, nI_leI, nI_ltI, nI_eq, jx_neg, jx_neg', jx_negE, jx_negL, jx_negG, jx_negLE, jx_negN, sb_nlt, sb_nle, jx_b0, jx_b1, jx_bT, jx_bF, ite_true, ite_false, if_true, if_false, reduceIte, Bool.false_eq_true, Bool.true_eq_false, eq_self, Nat.one_ne_zero, Nat.add_sub_cancel, not_true_eq_false, not_false_eq_true, F22]
          · have hs0 : jz_si (b r) = false := by simpa using hs
            rw [if_neg hs] at ht
            rw [ht, he, hs0]
            simp (disch := first | assumption | omega | exact jx_bz _ | exact jx_z0 | exact jx_z1 | (refine jx_ixB ?_ ?_; omega; omega) | (simp (disch := first | omega | fail) only [jx_lit, pk_mul, nI_add, nI_pred, pk_sub, jx_na, jx_add0, Nat.reduceMul, Nat.reduceAdd, Nat.reduceSub, Nat.reduceEqDiff, Nat.reduceLeDiff, Nat.reduceLT, F22, jz_mt]; refine jx_ixC ?_ ?_; omega; omega) | (simp (disch := first | omega | fail) only [jx_lit, pk_mul, nI_add, nI_pred, pk_sub, jx_na, jx_add0, Nat.reduceMul, Nat.reduceAdd, Nat.reduceSub, Nat.reduceEqDiff, Nat.reduceLeDiff, Nat.reduceLT, jx_cl, nI_leI, Nat.zero_le, true_and, F22, jz_mt]; omega) | fail) only [jb_159_11, jb_159_25, jb_159_39, jb_159_52, jb_159_81, jb_159_82, jb_159_100, jb_159_114, jb_159_130, jb_159_133, jb_159_146, jb_159_158, jb_159_165, jb_159_169, jb_159_175, jb_159_179, jb_159_185, jb_159_189, jb_159_195, jb_159_204, jb_159_208, jb_159_211, jb_159_217, jb_159_225, jb_159_228, jb_159_241, jb_159_257, jb_159_260, jb_159_266, jb_159_289, jb_159_290, jb_159_309, jb_159_315, jb_159_319, jb_159_320, jb_159_326, jb_159_332, jb_159_338, jb_159_344, jb_159_350, jb_159_356, jb_159_362, jb_159_368, jb_159_374, jb_159_378, jb_159_379, jb_159_385, jb_159_389, jb_159_390, jb_159_403, jx_nl, jx_nlr, jx_thenS, jx_tlS, jx_tlN, jm_ite_go, jx_rds, jx_rdn, jx_lit, pk_mul, nI_add, nI_pred, pk_sub, jx_na, jx_add0, Nat.reduceMul, Nat.reduceAdd, Nat.reduceSub, Nat.reduceEqDiff, Nat.reduceLeDiff, Nat.reduceLT, Nat.not_lt_zero, jx_cl, nI_leI, nI_ltI, nI_eq, jx_neg, jx_neg', jx_negE, jx_negL, jx_negG, jx_negLE, jx_negN, sb_nlt, sb_nle, jx_b0, jx_b1, jx_bT, jx_bF, ite_true, ite_false, if_true, if_false, reduceIte, Bool.false_eq_true, Bool.true_eq_false, eq_self, Nat.one_ne_zero, Nat.add_sub_cancel, not_true_eq_false, not_false_eq_true, F22, jz_mt]
        · rw [jx_rds]
        · rw [jx_rdn (by omega), jx_rdn (by omega)]; exact F23
        · rw [jx_rdn (by omega), jx_rds]
        · exfalso
          rw [ht] at t1 t2
          split at t2
          · next hs =>
            simp only [jz_si, Bool.or_eq_true, decide_eq_true_eq] at hs
            omega
          · omega
  · rw [if_neg zs] at ht he
    have zeq : r = s := by omega
    refine ⟨F, ?_, gF, ?_, F23, ?_, fun t1 _ => ?_⟩
    · rw [e0, lp, e1, hF]
      simp (disch := first | assumption | omega | exact jx_bz _ | exact jx_z0 | exact jx_z1 | (refine jx_ixB ?_ ?_; omega; omega) | (simp (disch := first | omega | fail) only [jx_lit, pk_mul, nI_add, nI_pred, pk_sub, jx_na, jx_add0, Nat.reduceMul, Nat.reduceAdd, Nat.reduceSub, Nat.reduceEqDiff, Nat.reduceLeDiff, Nat.reduceLT, b1, zeq]; refine jx_ixC ?_ ?_; omega; omega) | (simp (disch := first | omega | fail) only [jx_lit, pk_mul, nI_add, nI_pred, pk_sub, jx_na, jx_add0, Nat.reduceMul, Nat.reduceAdd, Nat.reduceSub, Nat.reduceEqDiff, Nat.reduceLeDiff, Nat.reduceLT, jx_cl, nI_leI, Nat.zero_le, true_and, b1, zeq]; omega) | fail) only [jb_159_11, jb_159_25, jb_159_39, jb_159_52, jb_159_81, jb_159_82, jb_159_100, jb_159_114, jb_159_130, jb_159_133, jb_159_146, jb_159_158, jb_159_165, jb_159_169, jb_159_175, jb_159_179, jb_159_185, jb_159_189, jb_159_195, jb_159_204, jb_159_208, jb_159_211, jb_159_217, jb_159_225, jb_159_228, jb_159_241, jb_159_257, jb_159_260, jb_159_266, jb_159_289, jb_159_290, jb_159_309, jb_159_315, jb_159_319, jb_159_320, jb_159_326, jb_159_332, jb_159_338, jb_159_344, jb_159_350, jb_159_356, jb_159_362, jb_159_368, jb_159_374, jb_159_378, jb_159_379, jb_159_385, jb_159_389, jb_159_390, jb_159_403, jx_nl, jx_nlr, jx_thenS, jx_tlS, jx_tlN, jm_ite_go, jx_rds, jx_rdn, jx_lit, pk_mul, nI_add, nI_pred, pk_sub, jx_na, jx_add0, Nat.reduceMul, Nat.reduceAdd, Nat.reduceSub, Nat.reduceEqDiff, Nat.reduceLeDiff, Nat.reduceLT, Nat.not_lt_zero, jx_cl, nI_leI, nI_ltI, nI_eq, jx_neg, jx_neg', jx_negE, jx_negL, jx_negG, jx_negLE, jx_negN, sb_nlt, sb_nle, jx_b0, jx_b1, jx_bT, jx_bF, ite_true, ite_false, if_true, if_false, reduceIte, Bool.false_eq_true, Bool.true_eq_false, eq_self, Nat.one_ne_zero, Nat.add_sub_cancel, not_true_eq_false, not_false_eq_true, b1, zeq]
    · rw [he]; exact F22
    · rw [ht]; exact F24
    · rw [ht] at t1; omega
