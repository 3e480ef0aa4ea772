/-! WHAT A TEXT SAYS of a person and a door -/
def jo (c : Nat → List Nat) : Nat → Nat
  | 0 => 0
  | k + 1 => jo c k + (c k).length
theorem jo_le (c : Nat → List Nat) {a b : Nat} (h : a ≤ b) : jo c a ≤ jo c b := by
  induction b with
  | zero => have : a = 0 := by omega
            subst this; exact Nat.le_refl _
  | succ b ih =>
    by_cases q : a = b + 1
    · subst q; exact Nat.le_refl _
    · exact Nat.le_trans (ih (by omega)) (Nat.le_add_right _ _)
/-- the codes of a text are sound -/
def jXw (c : Nat → List Nat) : Prop := jo c 3 ≤ 160 ∧ ∀ q, q < 3 → jv_h (c q) 0 = some 1 ∧ ∀ z, z ∈ c q → jv_code z
def jXc (I : Nat → Nat → Int32) (t : Nat) (c : Nat → List Nat) : Prop := ∀ q, q < 3 → I (8 + 4 * t) q = nI (jo c (q + 1)) ∧ ∀ j, j < (c q).length → I (7 + 4 * t) (jo c q + j) = jv_cl ((c q).getD j 0)
def jXm (I : Nat → Nat → Int32) (t : Nat) (c : Nat → List Nat) : Prop := (∀ q, q < 4 → I 66 (4 * t + q) = nI (jo c q)) ∧ ∀ q, q < 3 → ∀ j, j < (c q).length → I 65 (200 * t + (jo c q + j)) = nI ((c q).getD j 0)
theorem jf_49 {d t q : Nat} {I : Nat → Nat → Int32} {rho : Nat → Option Nat} {mu : List (Nat × Nat)} (ht : t < 6) (hq : q < 3) : jm_ev (d + 1) 49 [.ref (6 + 4 * t), .int (nI q)] (jm_hp I rho mu) = some (some (.int (I (8 + 4 * t) q)), jm_hp I rho mu) := by
  have h : ¬ 3 ≤ q := by omega
  simp (disch := first | assumption | omega | exact jx_bz _ | exact jx_z0 | exact jx_z1 | (refine jx_ixB ?_ ?_; omega; omega) | (simp (disch := first | omega | fail) only [jx_lit, pk_mul, nI_add, nI_pred, pk_sub, jx_na, jx_add0, Nat.reduceMul, Nat.reduceAdd, Nat.reduceSub, Nat.reduceEqDiff, Nat.reduceLeDiff, Nat.reduceLT, h]; refine jx_ixC ?_ ?_; omega; omega) | (simp (disch := first | omega | fail) only [jx_lit, pk_mul, nI_add, nI_pred, pk_sub, jx_na, jx_add0, Nat.reduceMul, Nat.reduceAdd, Nat.reduceSub, Nat.reduceEqDiff, Nat.reduceLeDiff, Nat.reduceLT, jx_cl, nI_leI, Nat.zero_le, true_and, h]; omega) | fail) only [je_49, jb_49_0, jb_49_4, jb_49_13, jb_49_22, jb_49_23, jx_nl, jx_nlr, jx_thenS, jx_tlS, jx_tlN, jm_ite_go, jx_rds, jx_rdn, jx_lit, pk_mul, nI_add, nI_pred, pk_sub, jx_na, jx_add0, Nat.reduceMul, Nat.reduceAdd, Nat.reduceSub, Nat.reduceEqDiff, Nat.reduceLeDiff, Nat.reduceLT, Nat.not_lt_zero, jx_cl, nI_leI, nI_ltI, nI_eq, jx_neg, jx_neg', jx_negE, jx_negL, jx_negG, jx_negLE, jx_negN, sb_nlt, sb_nle, jx_b0, jx_b1, jx_bT, jx_bF, ite_true, ite_false, if_true, if_false, reduceIte, Bool.false_eq_true, Bool.true_eq_false, eq_self, Nat.one_ne_zero, Nat.add_sub_cancel, not_true_eq_false, not_false_eq_true, h]
theorem jf_49n {d t : Nat} {I : Nat → Nat → Int32} {rho : Nat → Option Nat} {mu : List (Nat × Nat)} : jm_ev (d + 1) 49 [.ref (6 + 4 * t), .int (nI 0 - nI 1)] (jm_hp I rho mu) = some (some (.int (nI 0)), jm_hp I rho mu) := by
  have h : nI 0 - nI 1 < nI 0 := by decide
  simp (disch := first | assumption | omega | exact jx_bz _ | exact jx_z0 | exact jx_z1 | (refine jx_ixB ?_ ?_; omega; omega) | (simp (disch := first | omega | fail) only [jx_lit, pk_mul, nI_add, nI_pred, pk_sub, jx_na, jx_add0, Nat.reduceMul, Nat.reduceAdd, Nat.reduceSub, Nat.reduceEqDiff, Nat.reduceLeDiff, Nat.reduceLT, h]; refine jx_ixC ?_ ?_; omega; omega) | (simp (disch := first | omega | fail) only [jx_lit, pk_mul, nI_add, nI_pred, pk_sub, jx_na, jx_add0, Nat.reduceMul, Nat.reduceAdd, Nat.reduceSub, Nat.reduceEqDiff, Nat.reduceLeDiff, Nat.reduceLT, jx_cl, nI_leI, Nat.zero_le, true_and, h]; omega) | fail) only [je_49, jb_49_0, jb_49_4, jb_49_13, jb_49_22, jb_49_23, jx_nl, jx_nlr, jx_thenS, jx_tlS, jx_tlN, jm_ite_go, jx_rds, jx_rdn, jx_lit, pk_mul, nI_add, nI_pred, pk_sub, jx_na, jx_add0, Nat.reduceMul, Nat.reduceAdd, Nat.reduceSub, Nat.reduceEqDiff, Nat.reduceLeDiff, Nat.reduceLT, Nat.not_lt_zero, jx_cl, nI_leI, nI_ltI, nI_eq, jx_neg, jx_neg', jx_negE, jx_negL, jx_negG, jx_negLE, jx_negN, sb_nlt, sb_nle, jx_b0, jx_b1, jx_bT, jx_bF, ite_true, ite_false, if_true, if_false, reduceIte, Bool.false_eq_true, Bool.true_eq_false, eq_self, Nat.one_ne_zero, Nat.add_sub_cancel, not_true_eq_false, not_false_eq_true, h]
theorem jv_run0 {env : Nat → Int32} : ∀ (l : List Nat) (h h2 : Nat) (f g : Nat → Int32), jv_h l h = some h2 → (∀ j, j < h → f j = g j) → ∀ j, j < h2 → (jv_run env l (h, f)).2 j = (jv_run env l (h, g)).2 j := by
  intro l
  induction l with
  | nil => intro h h2 f g hh hf; rw [jv_h] at hh; cases hh; exact hf
  | cons c l ih =>
    intro h h2 f g hh hf
    rw [jv_h] at hh
    split at hh
    next hk =>
      refine ih (h - jv_n c + 1) h2 _ _ hh (fun j hj => ?_)
      show (if j = h - jv_n c then jv_val env c (f (h - jv_n c)) (f (h - jv_n c + 1)) else f j) = (if j = h - jv_n c then jv_val env c (g (h - jv_n c)) (g (h - jv_n c + 1)) else g j)
      rw [jv_cong hk.1 hf]
      split
      · rfl
      · exact hf j (by omega)
    next => cases hh
theorem jf_50 {d t q S o : Nat} {I : Nat → Nat → Int32} {rho : Nat → Option Nat} {mu : List (Nat × Nat)} {x y : Int32} {c : Nat → List Nat} (ht : t < 6) (hq : q < 3) (ho : jm_isO mu o) (ho9 : ¬ o = 9 + 4 * t) (hP5 : I o 5 = nI S) (hS : S < 4096) (hw : jXw c) (hc : jXc I t c) :
    ∃ J, jm_ev (d + 3) 50 [.ref (6 + 4 * t), .int (nI q), .ref o, .int x, .int y] (jm_hp I rho mu) = some (some (.int (js_val (js_env (I o) x y) (c q))), jm_hp J rho mu) ∧ jG (jS_at (9 + 4 * t)) I J := by
  have hle := jo_le c (a := q + 1) (b := 3) (by omega)
  have h3 := hw.1
  obtain ⟨J, e, g, s⟩ := jl_50 (d := d) (rho := rho) (x := x) (y := y) (P := I o) (e := jo c (q + 1)) (v1 := some (.int (nI q))) ht ho ho9 hP5 hS (by omega) (c q) (jo c q) 0 1 (fun _ => nI 0) I none none rfl (hc q hq).2 (hw.2 q hq).2 (hw.2 q hq).1 rfl (by omega) (fun j hj => absurd hj (Nat.not_lt_zero j))
  have e0 := g 0 (by omega)
  refine ⟨J, ?_, s⟩
  rw [show js_val (js_env (I o) x y) (c q) = J (9 + 4 * t) 0 from e0.symm, ← e]
  have h4 : ¬ 160 < jo c (q + 1) := by omega
  have h1 := (hc q hq).1
  have k49 := jf_49 (d := d + 1) (I := I) (rho := rho) (mu := mu) ht hq
  rw [h1] at k49
  cases q with
  | zero =>
    simp only [Nat.zero_add] at h4 k49 ⊢
    have j0 : jo c 0 = 0 := rfl
    simp (disch := first | assumption | omega | exact jx_bz _ | exact jx_z0 | exact jx_z1 | (refine jx_ixB ?_ ?_; omega; omega) | (simp (disch := first | omega | fail) only [jx_lit, pk_mul, nI_add, nI_pred, pk_sub, jx_na, jx_add0, Nat.reduceMul, Nat.reduceAdd, Nat.reduceSub, Nat.reduceEqDiff, Nat.reduceLeDiff, Nat.reduceLT, k49, jf_49n, h4, j0]; refine jx_ixC ?_ ?_; omega; omega) | (simp (disch := first | omega | fail) only [jx_lit, pk_mul, nI_add, nI_pred, pk_sub, jx_na, jx_add0, Nat.reduceMul, Nat.reduceAdd, Nat.reduceSub, Nat.reduceEqDiff, Nat.reduceLeDiff, Nat.reduceLT, jx_cl, nI_leI, Nat.zero_le, true_and, k49, jf_49n, h4, j0]; omega) | fail) only [je_50, jb_50_0, jb_50_8, jb_50_25, jb_50_32, jb_50_39, jb_50_55, jb_50_63, jb_50_75, jb_50_77, jb_50_88, jb_50_109, jb_50_114, jb_50_119, jb_50_128, jb_50_130, jb_50_148, jx_nl, jx_nlr, jx_thenS, jx_tlS, jx_tlN, jm_ite_go, jx_rds, jx_rdn, jx_lit, pk_mul, nI_add, nI_pred, pk_sub, jx_na, jx_add0, Nat.reduceMul, Nat.reduceAdd, Nat.reduceSub, Nat.reduceEqDiff, Nat.reduceLeDiff, Nat.reduceLT, Nat.not_lt_zero, jx_cl, nI_leI, nI_ltI, nI_eq, jx_neg, jx_neg', jx_negE, jx_negL, jx_negG, jx_negLE, jx_negN, sb_nlt, sb_nle, jx_b0, jx_b1, jx_bT, jx_bF, ite_true, ite_false, if_true, if_false, reduceIte, Bool.false_eq_true, Bool.true_eq_false, eq_self, Nat.one_ne_zero, Nat.add_sub_cancel, not_true_eq_false, not_false_eq_true, k49, jf_49n, h4, j0]
  | succ q =>
    have k49b := jf_49 (d := d + 1) (I := I) (rho := rho) (mu := mu) (q := q) ht (by omega)
    rw [(hc q (by omega)).1] at k49b
    simp (disch := first | assumption | omega | exact jx_bz _ | exact jx_z0 | exact jx_z1 | (refine jx_ixB ?_ ?_; omega; omega) | (simp (disch := first | omega | fail) only [jx_lit, pk_mul, nI_add, nI_pred, pk_sub, jx_na, jx_add0, Nat.reduceMul, Nat.reduceAdd, Nat.reduceSub, Nat.reduceEqDiff, Nat.reduceLeDiff, Nat.reduceLT, k49, k49b, h4]; refine jx_ixC ?_ ?_; omega; omega) | (simp (disch := first | omega | fail) only [jx_lit, pk_mul, nI_add, nI_pred, pk_sub, jx_na, jx_add0, Nat.reduceMul, Nat.reduceAdd, Nat.reduceSub, Nat.reduceEqDiff, Nat.reduceLeDiff, Nat.reduceLT, jx_cl, nI_leI, Nat.zero_le, true_and, k49, k49b, h4]; omega) | fail) only [je_50, jb_50_0, jb_50_8, jb_50_25, jb_50_32, jb_50_39, jb_50_55, jb_50_63, jb_50_75, jb_50_77, jb_50_88, jb_50_109, jb_50_114, jb_50_119, jb_50_128, jb_50_130, jb_50_148, jx_nl, jx_nlr, jx_thenS, jx_tlS, jx_tlN, jm_ite_go, jx_rds, jx_rdn, jx_lit, pk_mul, nI_add, nI_pred, pk_sub, jx_na, jx_add0, Nat.reduceMul, Nat.reduceAdd, Nat.reduceSub, Nat.reduceEqDiff, Nat.reduceLeDiff, Nat.reduceLT, Nat.not_lt_zero, jx_cl, nI_leI, nI_ltI, nI_eq, jx_neg, jx_neg', jx_negE, jx_negL, jx_negG, jx_negLE, jx_negN, sb_nlt, sb_nle, jx_b0, jx_b1, jx_bT, jx_bF, ite_true, ite_false, if_true, if_false, reduceIte, Bool.false_eq_true, Bool.true_eq_false, eq_self, Nat.one_ne_zero, Nat.add_sub_cancel, not_true_eq_false, not_false_eq_true, k49, k49b, h4]
def js_said (c : Nat → List Nat) (q : Nat) (P : Nat → Int32) (x y : Int32) : Int32 := if q = 1 then jx_b (!decide (js_val (js_env P x y) (c 1) = nI 0)) else js_bd (js_val (js_env P x y) (c q)) (if q = 0 then -nI 99 else nI 0) (nI 99)
theorem jx_txt {l : Nat} {rho : Nat → Option Nat} (h : l < 6) : jn_T rho 4 l = some (6 + 4 * l) := by
  rcases jm_lt6 h with h | h | h | h | h | h <;> subst h <;> rfl
theorem jx_txK {l : Nat} {mu : List (Nat × Nat)} (h : l < 6) : jm_hasK mu (6 + 4 * l) 8 := by
  rcases jm_lt6 h with h | h | h | h | h | h <;> subst h <;> rfl
theorem jx_lt3 {q : Nat} (h : q < 3) : q = 0 ∨ q = 1 ∨ q = 2 := by omega
/-- the rows on which texts are reckoned -/
def jS_st : Nat → Nat → Bool := fun a _ => a == 9 || a == 13 || a == 17 || a == 21 || a == 25 || a == 29
theorem jS_stN {a k : Nat} (h : jS_st a k = false) : a ≠ 9 ∧ a ≠ 13 ∧ a ≠ 17 ∧ a ≠ 21 ∧ a ≠ 25 ∧ a ≠ 29 := by simpa [jS_st, and_assoc] using h
theorem jG_st {t : Nat} {I J : Nat → Nat → Int32} (ht : t < 6) (h : jG (jS_at (9 + 4 * t)) I J) : jG jS_st I J := jG_mo h (fun a k q => by
  have := jS_stN q
  simp [jS_at]; omega)
theorem jf_63 {d t q S o : Nat} {I : Nat → Nat → Int32} {rho : Nat → Option Nat} {mu : List (Nat × Nat)} {x y : Int32} {c : Nat → List Nat} (ht : t < 6) (h7 : I 1 7 = nI t) (h4 : I 1 4 = y) (hq : q < 3) (ho : jm_isO mu o) (ho9 : jS_st o 0 = false) (hP5 : I o 5 = nI S) (hS : S < 4096) (hw : jXw c) (hc : jXc I t c) :
    ∃ J, jm_ev (d + 4) 63 [.ref 1, .int (nI q), .ref o, .int x] (jm_hp I rho mu) = some (some (.int (js_said c q (I o) x y)), jm_hp J rho mu) ∧ jG jS_st I J := by
  have hn := jS_stN ho9
  obtain ⟨J, e, s⟩ := jf_50 (d := d) (rho := rho) (x := x) (y := y) ht hq ho (by omega) hP5 hS hw hc
  refine ⟨J, ?_, jG_st ht s⟩
  have k1 := @jb_63_19 (jm_ev (d + 3)) I rho mu
  have k2 := @jx_txt t rho ht
  have k3 := @jx_txK t mu ht
  have h6 : ¬ 6 ≤ t := by omega
  have hb : 0 ≤ I 1 7 ∧ (I 1 7).toNatClampNeg < 6 := by rw [h7]; exact jx_ixB ht (by omega)
  have hT : jn_T rho 4 (I 1 7).toNatClampNeg = some (6 + 4 * t) := by rw [h7, jx_cl (by omega)]; exact k2
  have k1 := fun x1 a2 x3 l4 l5 => @jb_63_19 (jm_ev (d + 3)) I rho mu x1 a2 x3 l4 l5 (6 + 4 * t) hb hT
  unfold js_said
  rcases jx_lt3 hq with q0 | q0 | q0 <;> subst q0
  · have k124 := @jf_124 (d + 2) J rho mu (js_val (js_env (I o) x y) (c 0)) (-nI 99) (nI 99) (by decide)
    simp (disch := first | assumption | omega | exact jx_bz _ | exact jx_z0 | exact jx_z1 | (refine jx_ixB ?_ ?_; omega; omega) | (simp (disch := first | omega | fail) only [jx_lit, pk_mul, nI_add, nI_pred, pk_sub, jx_na, jx_add0, Nat.reduceMul, Nat.reduceAdd, Nat.reduceSub, Nat.reduceEqDiff, Nat.reduceLeDiff, Nat.reduceLT, h7, h4, h6, k1, k3, e, k124]; refine jx_ixC ?_ ?_; omega; omega) | (simp (disch := first | omega | fail) only [jx_lit, pk_mul, nI_add, nI_pred, pk_sub, jx_na, jx_add0, Nat.reduceMul, Nat.reduceAdd, Nat.reduceSub, Nat.reduceEqDiff, Nat.reduceLeDiff, Nat.reduceLT, jx_cl, nI_leI, Nat.zero_le, true_and, h7, h4, h6, k1, k3, e, k124]; omega) | fail) only [je_63, jb_63_0, jb_63_7, jb_63_19, jb_63_31, jb_63_32, jb_63_32_1, jb_63_39, jb_63_41, jb_63_53, jb_63_60, jb_63_65, jb_63_69, jb_63_70, jb_63_71, jb_63_77, jb_63_82, jb_63_83, jb_63_88, jx_nl, jx_nlr, jx_thenS, jx_tlS, jx_tlN, jm_ite_go, jx_rds, jx_rdn, jx_lit, pk_mul, nI_add, nI_pred, pk_sub, jx_na, jx_add0, Nat.reduceMul, Nat.reduceAdd, Nat.reduceSub, Nat.reduceEqDiff, Nat.reduceLeDiff, Nat.reduceLT, Nat.not_lt_zero, jx_cl, nI_leI, nI_ltI, nI_eq, jx_neg, jx_neg', jx_negE, jx_negL, jx_negG, jx_negLE, jx_negN, sb_nlt, sb_nle, jx_b0, jx_b1, jx_bT, jx_bF, ite_true, ite_false, if_true, if_false, reduceIte, Bool.false_eq_true, Bool.true_eq_false, eq_self, Nat.one_ne_zero, Nat.add_sub_cancel, not_true_eq_false, not_false_eq_true, h7, h4, h6, k1, k3, e, k124]
  · by_cases hv : js_val (js_env (I o) x y) (c 1) = nI 0
    · simp (disch := first | assumption | omega | exact jx_bz _ | exact jx_z0 | exact jx_z1 | (refine jx_ixB ?_ ?_; omega; omega) | (simp (disch := first | omega | fail) only [jx_lit, pk_mul, nI_add, nI_pred, pk_sub, jx_na, jx_add0, Nat.reduceMul, Nat.reduceAdd, Nat.reduceSub, Nat.reduceEqDiff, Nat.reduceLeDiff, Nat.reduceLT, h7, h4, h6, k1, k3, e, hv, decide_true, Bool.not_true]; refine jx_ixC ?_ ?_; omega; omega) | (simp (disch := first | omega | fail) only [jx_lit, pk_mul, nI_add, nI_pred, pk_sub, jx_na, jx_add0, Nat.reduceMul, Nat.reduceAdd, Nat.reduceSub, Nat.reduceEqDiff, Nat.reduceLeDiff, Nat.reduceLT, jx_cl, nI_leI, Nat.zero_le, true_and, h7, h4, h6, k1, k3, e, hv, decide_true, Bool.not_true]; omega) | fail) only [je_63, jb_63_0, jb_63_7, jb_63_19, jb_63_31, jb_63_32, jb_63_32_1, jb_63_39, jb_63_41, jb_63_53, jb_63_60, jb_63_65, jb_63_69, jb_63_70, jb_63_71, jb_63_77, jb_63_82, jb_63_83, jb_63_88, jx_nl, jx_nlr, jx_thenS, jx_tlS, jx_tlN, jm_ite_go, jx_rds, jx_rdn, jx_lit, pk_mul, nI_add, nI_pred, pk_sub, jx_na, jx_add0, Nat.reduceMul, Nat.reduceAdd, Nat.reduceSub, Nat.reduceEqDiff, Nat.reduceLeDiff, Nat.reduceLT, Nat.not_lt_zero, jx_cl, nI_leI, nI_ltI, nI_eq, jx_neg, jx_neg', jx_negE, jx_negL, jx_negG, jx_negLE, jx_negN, sb_nlt, sb_nle, jx_b0, jx_b1, jx_bT, jx_bF, ite_true, ite_false, if_true, if_false, reduceIte, Bool.false_eq_true, Bool.true_eq_false, eq_self, Nat.one_ne_zero, Nat.add_sub_cancel, not_true_eq_false, not_false_eq_true, h7, h4, h6, k1, k3, e, hv, decide_true, Bool.not_true]
    · simp (disch := first | assumption | omega | exact jx_bz _ | exact jx_z0 | exact jx_z1 | (refine jx_ixB ?_ ?_; omega; omega) | (simp (disch := first | omega | fail) only [jx_lit, pk_mul, nI_add, nI_pred, pk_sub, jx_na, jx_add0, Nat.reduceMul, Nat.reduceAdd, Nat.reduceSub, Nat.reduceEqDiff, Nat.reduceLeDiff, Nat.reduceLT, h7, h4, h6, k1, k3, e, hv, decide_false, Bool.not_false]; refine jx_ixC ?_ ?_; omega; omega) | (simp (disch := first | omega | fail) only [jx_lit, pk_mul, nI_add, nI_pred, pk_sub, jx_na, jx_add0, Nat.reduceMul, Nat.reduceAdd, Nat.reduceSub, Nat.reduceEqDiff, Nat.reduceLeDiff, Nat.reduceLT, jx_cl, nI_leI, Nat.zero_le, true_and, h7, h4, h6, k1, k3, e, hv, decide_false, Bool.not_false]; omega) | fail) only [je_63, jb_63_0, jb_63_7, jb_63_19, jb_63_31, jb_63_32, jb_63_32_1, jb_63_39, jb_63_41, jb_63_53, jb_63_60, jb_63_65, jb_63_69, jb_63_70, jb_63_71, jb_63_77, jb_63_82, jb_63_83, jb_63_88, jx_nl, jx_nlr, jx_thenS, jx_tlS, jx_tlN, jm_ite_go, jx_rds, jx_rdn, jx_lit, pk_mul, nI_add, nI_pred, pk_sub, jx_na, jx_add0, Nat.reduceMul, Nat.reduceAdd, Nat.reduceSub, Nat.reduceEqDiff, Nat.reduceLeDiff, Nat.reduceLT, Nat.not_lt_zero, jx_cl, nI_leI, nI_ltI, nI_eq, jx_neg, jx_neg', jx_negE, jx_negL, jx_negG, jx_negLE, jx_negN, sb_nlt, sb_nle, jx_b0, jx_b1, jx_bT, jx_bF, ite_true, ite_false, if_true, if_false, reduceIte, Bool.false_eq_true, Bool.true_eq_false, eq_self, Nat.one_ne_zero, Nat.add_sub_cancel, not_true_eq_false, not_false_eq_true, h7, h4, h6, k1, k3, e, hv, decide_false, Bool.not_false]
  · have k124 := @jf_124 (d + 2) J rho mu (js_val (js_env (I o) x y) (c 2)) (nI 0) (nI 99) (by decide)
    simp (disch := first | assumption | omega | exact jx_bz _ | exact jx_z0 | exact jx_z1 | (refine jx_ixB ?_ ?_; omega; omega) | (simp (disch := first | omega | fail) only [jx_lit, pk_mul, nI_add, nI_pred, pk_sub, jx_na, jx_add0, Nat.reduceMul, Nat.reduceAdd, Nat.reduceSub, Nat.reduceEqDiff, Nat.reduceLeDiff, Nat.reduceLT, h7, h4, h6, k1, k3, e, k124]; refine jx_ixC ?_ ?_; omega; omega) | (simp (disch := first | omega | fail) only [jx_lit, pk_mul, nI_add, nI_pred, pk_sub, jx_na, jx_add0, Nat.reduceMul, Nat.reduceAdd, Nat.reduceSub, Nat.reduceEqDiff, Nat.reduceLeDiff, Nat.reduceLT, jx_cl, nI_leI, Nat.zero_le, true_and, h7, h4, h6, k1, k3, e, k124]; omega) | fail) only [je_63, jb_63_0, jb_63_7, jb_63_19, jb_63_31, jb_63_32, jb_63_32_1, jb_63_39, jb_63_41, jb_63_53, jb_63_60, jb_63_65, jb_63_69, jb_63_70, jb_63_71, jb_63_77, jb_63_82, jb_63_83, jb_63_88, jx_nl, jx_nlr, jx_thenS, jx_tlS, jx_tlN, jm_ite_go, jx_rds, jx_rdn, jx_lit, pk_mul, nI_add, nI_pred, pk_sub, jx_na, jx_add0, Nat.reduceMul, Nat.reduceAdd, Nat.reduceSub, Nat.reduceEqDiff, Nat.reduceLeDiff, Nat.reduceLT, Nat.not_lt_zero, jx_cl, nI_leI, nI_ltI, nI_eq, jx_neg, jx_neg', jx_negE, jx_negL, jx_negG, jx_negLE, jx_negN, sb_nlt, sb_nle, jx_b0, jx_b1, jx_bT, jx_bF, ite_true, ite_false, if_true, if_false, reduceIte, Bool.false_eq_true, Bool.true_eq_false, eq_self, Nat.one_ne_zero, Nat.add_sub_cancel, not_true_eq_false, not_false_eq_true, h7, h4, h6, k1, k3, e, k124]
