/-! LOWEST TERMS, share -/
theorem jx_i2l {n : Nat} (h : n < 2 ^ 31) : (nI n).toInt64 = lN n := by
  rw [← Int64.toInt_inj, Int32.toInt_toInt64, nI_toInt h, pk_lT (by omega)]
theorem jx_l0 {n : Nat} (h : n < 2 ^ 31) : (lg_cmp (lN n) (0 : Int64) = nI 0) = (n = 0) := by
  rw [show nI 0 = (0 : Int32) from rfl, lg_cmp_eq, show (0 : Int64) = lN 0 from rfl, pk_lEQ (by omega) (by omega)]
def js_lt (a b q : Nat) : Nat := if q = 0 then a / Nat.gcd a b else b / Nat.gcd a b
theorem jx_rem {a b : Nat} (ha : a < 2 ^ 31) (h0 : 0 < b) (hb : b < 2 ^ 31) : nI a - nI a / nI b * nI b = nI (a % b) := by
  rw [pk_div ha h0 hb, pk_mul, pk_sub (Nat.div_mul_le_self a b)]
  congr 1
  have := Nat.mod_add_div a b
  rw [Nat.mul_comm] at this
  omega
theorem jt_125 {d A B q g : Nat} {v w u : Option Value} {I : Nat → Nat → Int32} {rho : Nat → Option Nat} {mu : List (Nat × Nat)} (hA : A < 2 ^ 31) (hB : B < 2 ^ 31) (hg : 0 < g) (hg2 : g < 2 ^ 31) (hq : q < 2) :
    jm_go (jm_ev d) 125 (39, [some (.int (nI A)), some (.int (nI B)), some (.int (nI q)), some (.int (nI g)), v, w, u], [], jm_hp I rho mu) = some (some (.long (lN (if q = 0 then A / g else B / g))), jm_hp I rho mu) := by
  have e1 : (nI A / nI g).toInt64 = lN (A / g) := by rw [pk_div hA hg hg2, jx_i2l (Nat.lt_of_le_of_lt (Nat.div_le_self _ _) hA)]
  have e2 : (nI B / nI g).toInt64 = lN (B / g) := by rw [pk_div hB hg hg2, jx_i2l (Nat.lt_of_le_of_lt (Nat.div_le_self _ _) hB)]
  have z : ¬ g = 0 := by omega
  have z2 : ¬ nI g = 0 := by rw [show (0 : Int32) = nI 0 from rfl, nI_eq (by omega) (by omega)]; exact z
  by_cases zq : q = 0
  · subst zq
    simp (disch := first | assumption | omega | exact jx_bz _ | exact jx_z0 | exact jx_z1 | (refine jx_ixB ?_ ?_; omega; omega) | (simp (disch := first | omega | fail) only [jx_lit, pk_mul, nI_add, nI_pred, pk_sub, jx_na, jx_add0, Nat.reduceMul, Nat.reduceAdd, Nat.reduceSub, Nat.reduceEqDiff, Nat.reduceLeDiff, Nat.reduceLT, z, e1]; refine jx_ixC ?_ ?_; omega; omega) | (simp (disch := first | omega | fail) only [jx_lit, pk_mul, nI_add, nI_pred, pk_sub, jx_na, jx_add0, Nat.reduceMul, Nat.reduceAdd, Nat.reduceSub, Nat.reduceEqDiff, Nat.reduceLeDiff, Nat.reduceLT, jx_cl, nI_leI, Nat.zero_le, true_and, z, e1]; omega) | fail) only [jb_125_0, jb_125_15, jb_125_20, jb_125_39, jb_125_43, jb_125_47, jb_125_51, jb_125_58, jb_125_62, jx_nl, jx_nlr, jx_thenS, jx_tlS, jx_tlN, jm_ite_go, jx_rds, jx_rdn, jx_lit, pk_mul, nI_add, nI_pred, pk_sub, jx_na, jx_add0, Nat.reduceMul, Nat.reduceAdd, Nat.reduceSub, Nat.reduceEqDiff, Nat.reduceLeDiff, Nat.reduceLT, Nat.not_lt_zero, jx_cl, nI_leI, nI_ltI, nI_eq, jx_neg, jx_neg', jx_negE, jx_negL, jx_negG, jx_negLE, jx_negN, sb_nlt, sb_nle, jx_b0, jx_b1, jx_bT, jx_bF, ite_true, ite_false, if_true, if_false, reduceIte, Bool.false_eq_true, Bool.true_eq_false, eq_self, Nat.one_ne_zero, Nat.add_sub_cancel, not_true_eq_false, not_false_eq_true, z, e1]
  · simp (disch := first | assumption | omega | exact jx_bz _ | exact jx_z0 | exact jx_z1 | (refine jx_ixB ?_ ?_; omega; omega) | (simp (disch := first | omega | fail) only [jx_lit, pk_mul, nI_add, nI_pred, pk_sub, jx_na, jx_add0, Nat.reduceMul, Nat.reduceAdd, Nat.reduceSub, Nat.reduceEqDiff, Nat.reduceLeDiff, Nat.reduceLT, z, zq, e2]; refine jx_ixC ?_ ?_; omega; omega) | (simp (disch := first | omega | fail) only [jx_lit, pk_mul, nI_add, nI_pred, pk_sub, jx_na, jx_add0, Nat.reduceMul, Nat.reduceAdd, Nat.reduceSub, Nat.reduceEqDiff, Nat.reduceLeDiff, Nat.reduceLT, jx_cl, nI_leI, Nat.zero_le, true_and, z, zq, e2]; omega) | fail) only [jb_125_0, jb_125_15, jb_125_20, jb_125_39, jb_125_43, jb_125_47, jb_125_51, jb_125_58, jb_125_62, jx_nl, jx_nlr, jx_thenS, jx_tlS, jx_tlN, jm_ite_go, jx_rds, jx_rdn, jx_lit, pk_mul, nI_add, nI_pred, pk_sub, jx_na, jx_add0, Nat.reduceMul, Nat.reduceAdd, Nat.reduceSub, Nat.reduceEqDiff, Nat.reduceLeDiff, Nat.reduceLT, Nat.not_lt_zero, jx_cl, nI_leI, nI_ltI, nI_eq, jx_neg, jx_neg', jx_negE, jx_negL, jx_negG, jx_negLE, jx_negN, sb_nlt, sb_nle, jx_b0, jx_b1, jx_bT, jx_bF, ite_true, ite_false, if_true, if_false, reduceIte, Bool.false_eq_true, Bool.true_eq_false, eq_self, Nat.one_ne_zero, Nat.add_sub_cancel, not_true_eq_false, not_false_eq_true, z, zq, e2]
theorem jx_half {a b : Nat} (h : 0 < b) : b % (a % b) * 2 < b ∨ a % b = 0 := by
  by_cases z : a % b = 0
  · exact .inr z
  · refine .inl ?_
    have h1 := Nat.mod_lt a h
    have h2 := Nat.mod_lt b (Nat.pos_of_ne_zero z)
    have h3 := Nat.mod_add_div b (a % b)
    have h4 : 1 ≤ b / (a % b) := (Nat.one_le_div_iff (Nat.pos_of_ne_zero z)).mpr (by omega)
    have h5 : a % b ≤ a % b * (b / (a % b)) := Nat.le_mul_of_pos_right _ h4
    omega
theorem jl_125 {d A B q : Nat} {I : Nat → Nat → Int32} {rho : Nat → Option Nat} {mu : List (Nat × Nat)} (hA : A < 2 ^ 31) (hB : B < 2 ^ 31) (hq : q < 2) : ∀ j a b i u, b < 2 ^ j → i + 2 * j < 62 → a < 2 ^ 31 → b < 2 ^ 31 → 0 < Nat.gcd a b →
    jm_go (jm_ev d) 125 (8, [some (.int (nI A)), some (.int (nI B)), some (.int (nI q)), some (.int (nI a)), some (.int (nI b)), some (.int (nI i)), u], [], jm_hp I rho mu) = some (some (.long (lN (if q = 0 then A / Nat.gcd a b else B / Nat.gcd a b))), jm_hp I rho mu) := by
  have last : ∀ a i u, i < 64 → a < 2 ^ 31 → 0 < a → jm_go (jm_ev d) 125 (8, [some (.int (nI A)), some (.int (nI B)), some (.int (nI q)), some (.int (nI a)), some (.int (nI 0)), some (.int (nI i)), u], [], jm_hp I rho mu) = some (some (.long (lN (if q = 0 then A / a else B / a))), jm_hp I rho mu) := by
    intro a i u hi ha h0
    have zn : ¬ 64 ≤ i := by omega
    have k := @jt_125 d A B q a (some (.int (nI 0))) (some (.int (nI i))) u I rho mu hA hB h0 ha hq
    rw [← k, jb_125_8]
    simp only [jb_125_15, jx_lit, nI_leI (show (64:Nat) < 2 ^ 31 by decide) (show i < 2 ^ 31 by omega), zn, if_false, if_true]
  have step : ∀ a b i u, i < 64 → a < 2 ^ 31 → b < 2 ^ 31 → 0 < b → jm_go (jm_ev d) 125 (8, [some (.int (nI A)), some (.int (nI B)), some (.int (nI q)), some (.int (nI a)), some (.int (nI b)), some (.int (nI i)), u], [], jm_hp I rho mu) = jm_go (jm_ev d) 125 (8, [some (.int (nI A)), some (.int (nI B)), some (.int (nI q)), some (.int (nI b)), some (.int (nI (a % b))), some (.int (nI (i + 1))), some (.int (nI (a % b)))], [], jm_hp I rho mu) := by
    intro a b i u hi ha hb h0
    have zn : ¬ 64 ≤ i := by omega
    have z : ¬ b = 0 := by omega
    have e := jx_rem ha h0 hb
    have z2 : ¬ nI b = 0 := by rw [show (0 : Int32) = nI 0 from rfl, nI_eq (by omega) (by omega)]; exact z
    rw [jb_125_8]
    simp (disch := first | assumption | omega | exact jx_bz _ | exact jx_z0 | exact jx_z1 | (refine jx_ixB ?_ ?_; omega; omega) | (simp (disch := first | omega | fail) only [jx_lit, pk_mul, nI_add, nI_pred, pk_sub, jx_na, jx_add0, Nat.reduceMul, Nat.reduceAdd, Nat.reduceSub, Nat.reduceEqDiff, Nat.reduceLeDiff, Nat.reduceLT, zn, z, e]; refine jx_ixC ?_ ?_; omega; omega) | (simp (disch := first | omega | fail) only [jx_lit, pk_mul, nI_add, nI_pred, pk_sub, jx_na, jx_add0, Nat.reduceMul, Nat.reduceAdd, Nat.reduceSub, Nat.reduceEqDiff, Nat.reduceLeDiff, Nat.reduceLT, jx_cl, nI_leI, Nat.zero_le, true_and, zn, z, e]; omega) | fail) only [jb_125_0, jb_125_15, jb_125_20, jb_125_39, jb_125_43, jb_125_47, jb_125_51, jb_125_58, jb_125_62, jx_nl, jx_nlr, jx_thenS, jx_tlS, jx_tlN, jm_ite_go, jx_rds, jx_rdn, jx_lit, pk_mul, nI_add, nI_pred, pk_sub, jx_na, jx_add0, Nat.reduceMul, Nat.reduceAdd, Nat.reduceSub, Nat.reduceEqDiff, Nat.reduceLeDiff, Nat.reduceLT, Nat.not_lt_zero, jx_cl, nI_leI, nI_ltI, nI_eq, jx_neg, jx_neg', jx_negE, jx_negL, jx_negG, jx_negLE, jx_negN, sb_nlt, sb_nle, jx_b0, jx_b1, jx_bT, jx_bF, ite_true, ite_false, if_true, if_false, reduceIte, Bool.false_eq_true, Bool.true_eq_false, eq_self, Nat.one_ne_zero, Nat.add_sub_cancel, not_true_eq_false, not_false_eq_true, zn, z, e]
  intro j
  induction j with
  | zero =>
    intro a b i u h1 h2 h3 h4 h5
    obtain rfl : b = 0 := by simpa using h1
    rw [Nat.gcd_zero_right] at h5 ⊢
    exact last a i u (by omega) h3 h5
  | succ j ih =>
    intro a b i u h1 h2 h3 h4 h5
    by_cases z : b = 0
    · subst z
      rw [Nat.gcd_zero_right] at h5 ⊢
      exact last a i u (by omega) h3 h5
    · have hb0 : 0 < b := by omega
      have hm := Nat.mod_lt a hb0
      have hg : Nat.gcd a b = Nat.gcd b (a % b) := by rw [Nat.gcd_comm a b, Nat.gcd_rec b a, Nat.gcd_comm]
      rw [step a b i u (by omega) h3 h4 hb0, hg]
      rw [hg] at h5
      rcases jx_half (a := a) hb0 with h6 | h6
      · by_cases z2 : a % b = 0
        · rw [z2, Nat.gcd_zero_right]
          exact last b (i + 1) _ (by omega) h4 hb0
        · have hm2 := Nat.mod_lt b (Nat.pos_of_ne_zero z2)
          have hg2 : Nat.gcd b (a % b) = Nat.gcd (a % b) (b % (a % b)) := by rw [Nat.gcd_comm b (a % b), Nat.gcd_rec (a % b) b, Nat.gcd_comm]
          rw [step b (a % b) (i + 1) _ (by omega) h4 (by omega) (by omega), hg2]
          rw [hg2] at h5
          rw [Nat.pow_succ] at h1
          exact ih _ _ _ _ (by omega) (by omega) (by omega) (by omega) h5
      · rw [h6, Nat.gcd_zero_right]
        exact last b (i + 1) _ (by omega) h4 hb0
theorem jf_125 {d a b q : Nat} {I : Nat → Nat → Int32} {rho : Nat → Option Nat} {mu : List (Nat × Nat)} (ha : a < 2 ^ 12) (h0 : 0 < b) (hb : b < 2 ^ 12) (hq : q < 2) :
    jm_ev (d + 1) 125 [.int (nI a), .int (nI b), .int (nI q)] (jm_hp I rho mu) = some (some (.long (lN (js_lt a b q))), jm_hp I rho mu) := by
  have k := @jl_125 d a b q I rho mu (by omega) (by omega) hq 12 a b 0 none hb (by omega) (by omega) (by omega) (Nat.gcd_pos_of_pos_right _ h0)
  unfold js_lt
  rw [← k]
  simp (disch := first | assumption | omega | exact jx_bz _ | exact jx_z0 | exact jx_z1 | (refine jx_ixB ?_ ?_; omega; omega) | (simp (disch := first | omega | fail) only [jx_lit, pk_mul, nI_add, nI_pred, pk_sub, jx_na, jx_add0, Nat.reduceMul, Nat.reduceAdd, Nat.reduceSub, Nat.reduceEqDiff, Nat.reduceLeDiff, Nat.reduceLT]; refine jx_ixC ?_ ?_; omega; omega) | (simp (disch := first | omega | fail) only [jx_lit, pk_mul, nI_add, nI_pred, pk_sub, jx_na, jx_add0, Nat.reduceMul, Nat.reduceAdd, Nat.reduceSub, Nat.reduceEqDiff, Nat.reduceLeDiff, Nat.reduceLT, jx_cl, nI_leI, Nat.zero_le, true_and]; omega) | fail) only [je_125, jb_125_0, jb_125_15, jb_125_20, jb_125_39, jb_125_43, jb_125_47, jb_125_51, jb_125_58, jb_125_62, jx_nl, jx_nlr, jx_thenS, jx_tlS, jx_tlN, jm_ite_go, jx_rds, jx_rdn, jx_lit, pk_mul, nI_add, nI_pred, pk_sub, jx_na, jx_add0, Nat.reduceMul, Nat.reduceAdd, Nat.reduceSub, Nat.reduceEqDiff, Nat.reduceLeDiff, Nat.reduceLT, Nat.not_lt_zero, jx_cl, nI_leI, nI_ltI, nI_eq, jx_neg, jx_neg', jx_negE, jx_negL, jx_negG, jx_negLE, jx_negN, sb_nlt, sb_nle, jx_b0, jx_b1, jx_bT, jx_bF, ite_true, ite_false, if_true, if_false, reduceIte, Bool.false_eq_true, Bool.true_eq_false, eq_self, Nat.one_ne_zero, Nat.add_sub_cancel, not_true_eq_false, not_false_eq_true]
/-! the reference -/
theorem jl_204 {d A B q : Nat} {I : Nat → Nat → Int32} {rho : Nat → Option Nat} {mu : List (Nat × Nat)} {l1 l3 : Option Value} (hA : A < 2 ^ 31) (hB : B < 2 ^ 31) (hq : q < 2) : ∀ j a b l6 l8 l9 l10, b < j → a < 2 ^ 31 → b < 2 ^ 31 → 0 < Nat.gcd a b →
    jm_go (jm_ev d) 204 (16, [some (.long (lN A)), l1, some (.long (lN B)), l3, some (.int (nI q)), some (.long (lN a)), l6, some (.long (lN b)), l8, l9, l10], [], jm_hp I rho mu) = some (some (.long (lN (if q = 0 then A / Nat.gcd a b else B / Nat.gcd a b))), jm_hp I rho mu) := by
  intro j
  induction j with
  | zero => intro a b l6 l8 l9 l10 h; exact absurd h (Nat.not_lt_zero _)
  | succ j ih =>
    intro a b l6 l8 l9 l10 h1 h3 h4 h5
    have e0 := jx_l0 h4
    by_cases z : b = 0
    · subst z
      rw [Nat.gcd_zero_right] at h5 ⊢
      have z2 : ¬ lN a = lN 0 := by rw [pk_lEQ (by omega) (by omega)]; omega
      have z3 : ¬ lN a = (0 : Int64) := z2
      have e1 := pk_lDiv (a := A) (b := a) (by omega) h5 (by omega)
      have e2 := pk_lDiv (a := B) (b := a) (by omega) h5 (by omega)
      rw [jb_204_16]
      by_cases zq : q = 0
      · subst zq
        simp (disch := first | assumption | omega | exact jx_bz _ | exact jx_z0 | exact jx_z1 | (refine jx_ixB ?_ ?_; omega; omega) | (simp (disch := first | omega | fail) only [jx_lit, pk_mul, nI_add, nI_pred, pk_sub, jx_na, jx_add0, Nat.reduceMul, Nat.reduceAdd, Nat.reduceSub, Nat.reduceEqDiff, Nat.reduceLeDiff, Nat.reduceLT, e0, e1, z3]; refine jx_ixC ?_ ?_; omega; omega) | (simp (disch := first | omega | fail) only [jx_lit, pk_mul, nI_add, nI_pred, pk_sub, jx_na, jx_add0, Nat.reduceMul, Nat.reduceAdd, Nat.reduceSub, Nat.reduceEqDiff, Nat.reduceLeDiff, Nat.reduceLT, jx_cl, nI_leI, Nat.zero_le, true_and, e0, e1, z3]; omega) | fail) only [jb_204_0, jb_204_6, jb_204_10, jb_204_23, jb_204_41, jb_204_46, jb_204_50, jb_204_51, jx_nl, jx_nlr, jx_thenS, jx_tlS, jx_tlN, jm_ite_go, jx_rds, jx_rdn, jx_lit, pk_mul, nI_add, nI_pred, pk_sub, jx_na, jx_add0, Nat.reduceMul, Nat.reduceAdd, Nat.reduceSub, Nat.reduceEqDiff, Nat.reduceLeDiff, Nat.reduceLT, Nat.not_lt_zero, jx_cl, nI_leI, nI_ltI, nI_eq, jx_neg, jx_neg', jx_negE, jx_negL, jx_negG, jx_negLE, jx_negN, sb_nlt, sb_nle, jx_b0, jx_b1, jx_bT, jx_bF, ite_true, ite_false, if_true, if_false, reduceIte, Bool.false_eq_true, Bool.true_eq_false, eq_self, Nat.one_ne_zero, Nat.add_sub_cancel, not_true_eq_false, not_false_eq_true, e0, e1, z3]
      · simp (disch := first | assumption | omega | exact jx_bz _ | exact jx_z0 | exact jx_z1 | (refine jx_ixB ?_ ?_; omega; omega) | (simp (disch := first | omega | fail) only [jx_lit, pk_mul, nI_add, nI_pred, pk_sub, jx_na, jx_add0, Nat.reduceMul, Nat.reduceAdd, Nat.reduceSub, Nat.reduceEqDiff, Nat.reduceLeDiff, Nat.reduceLT, e0, zq, e2, z3]; refine jx_ixC ?_ ?_; omega; omega) | (simp (disch := first | omega | fail) only [jx_lit, pk_mul, nI_add, nI_pred, pk_sub, jx_na, jx_add0, Nat.reduceMul, Nat.reduceAdd, Nat.reduceSub, Nat.reduceEqDiff, Nat.reduceLeDiff, Nat.reduceLT, jx_cl, nI_leI, Nat.zero_le, true_and, e0, zq, e2, z3]; omega) | fail) only [jb_204_0, jb_204_6, jb_204_10, jb_204_23, jb_204_41, jb_204_46, jb_204_50, jb_204_51, jx_nl, jx_nlr, jx_thenS, jx_tlS, jx_tlN, jm_ite_go, jx_rds, jx_rdn, jx_lit, pk_mul, nI_add, nI_pred, pk_sub, jx_na, jx_add0, Nat.reduceMul, Nat.reduceAdd, Nat.reduceSub, Nat.reduceEqDiff, Nat.reduceLeDiff, Nat.reduceLT, Nat.not_lt_zero, jx_cl, nI_leI, nI_ltI, nI_eq, jx_neg, jx_neg', jx_negE, jx_negL, jx_negG, jx_negLE, jx_negN, sb_nlt, sb_nle, jx_b0, jx_b1, jx_bT, jx_bF, ite_true, ite_false, if_true, if_false, reduceIte, Bool.false_eq_true, Bool.true_eq_false, eq_self, Nat.one_ne_zero, Nat.add_sub_cancel, not_true_eq_false, not_false_eq_true, e0, zq, e2, z3]
    · have hb0 : 0 < b := by omega
      have hm := Nat.mod_lt a hb0
      have hg : Nat.gcd a b = Nat.gcd b (a % b) := by rw [Nat.gcd_comm a b, Nat.gcd_rec b a, Nat.gcd_comm]
      have z3 : ¬ lN b = (0 : Int64) := by rw [show (0 : Int64) = lN 0 from rfl, pk_lEQ (by omega) (by omega)]; omega
      have e := pk_lRem (a := a) (b := b) (by omega) hb0 (by omega)
      rw [hg] at h5 ⊢
      rw [← ih b (a % b) none none (some (.long (lN (a % b)))) none (by omega) h4 (by omega) h5, jb_204_16]
      simp (disch := first | assumption | omega | exact jx_bz _ | exact jx_z0 | exact jx_z1 | (refine jx_ixB ?_ ?_; omega; omega) | (simp (disch := first | omega | fail) only [jx_lit, pk_mul, nI_add, nI_pred, pk_sub, jx_na, jx_add0, Nat.reduceMul, Nat.reduceAdd, Nat.reduceSub, Nat.reduceEqDiff, Nat.reduceLeDiff, Nat.reduceLT, e0, z, e, z3]; refine jx_ixC ?_ ?_; omega; omega) | (simp (disch := first | omega | fail) only [jx_lit, pk_mul, nI_add, nI_pred, pk_sub, jx_na, jx_add0, Nat.reduceMul, Nat.reduceAdd, Nat.reduceSub, Nat.reduceEqDiff, Nat.reduceLeDiff, Nat.reduceLT, jx_cl, nI_leI, Nat.zero_le, true_and, e0, z, e, z3]; omega) | fail) only [jb_204_0, jb_204_6, jb_204_10, jb_204_23, jb_204_41, jb_204_46, jb_204_50, jb_204_51, jx_nl, jx_nlr, jx_thenS, jx_tlS, jx_tlN, jm_ite_go, jx_rds, jx_rdn, jx_lit, pk_mul, nI_add, nI_pred, pk_sub, jx_na, jx_add0, Nat.reduceMul, Nat.reduceAdd, Nat.reduceSub, Nat.reduceEqDiff, Nat.reduceLeDiff, Nat.reduceLT, Nat.not_lt_zero, jx_cl, nI_leI, nI_ltI, nI_eq, jx_neg, jx_neg', jx_negE, jx_negL, jx_negG, jx_negLE, jx_negN, sb_nlt, sb_nle, jx_b0, jx_b1, jx_bT, jx_bF, ite_true, ite_false, if_true, if_false, reduceIte, Bool.false_eq_true, Bool.true_eq_false, eq_self, Nat.one_ne_zero, Nat.add_sub_cancel, not_true_eq_false, not_false_eq_true, e0, z, e, z3]
theorem jf_204 {d a b q : Nat} {I : Nat → Nat → Int32} {rho : Nat → Option Nat} {mu : List (Nat × Nat)} (ha : a < 2 ^ 12) (h0 : 0 < b) (hb : b < 2 ^ 12) (hq : q < 2) :
    jm_ev (d + 1) 204 [.long (lN a), .long (lN b), .int (nI q)] (jm_hp I rho mu) = some (some (.long (lN (js_lt a b q))), jm_hp I rho mu) := by
  have e0 := jx_l0 (n := a) (by omega)
  have eq := jx_i2l (n := q) (by omega)
  by_cases z : a = 0
  · subst z
    have : js_lt 0 b q = q := by
      unfold js_lt
      rw [Nat.gcd_zero_left, Nat.zero_div, Nat.div_self h0]
      split <;> omega
    rw [this]
    simp (disch := first | assumption | omega | exact jx_bz _ | exact jx_z0 | exact jx_z1 | (refine jx_ixB ?_ ?_; omega; omega) | (simp (disch := first | omega | fail) only [jx_lit, pk_mul, nI_add, nI_pred, pk_sub, jx_na, jx_add0, Nat.reduceMul, Nat.reduceAdd, Nat.reduceSub, Nat.reduceEqDiff, Nat.reduceLeDiff, Nat.reduceLT, e0, eq]; refine jx_ixC ?_ ?_; omega; omega) | (simp (disch := first | omega | fail) only [jx_lit, pk_mul, nI_add, nI_pred, pk_sub, jx_na, jx_add0, Nat.reduceMul, Nat.reduceAdd, Nat.reduceSub, Nat.reduceEqDiff, Nat.reduceLeDiff, Nat.reduceLT, jx_cl, nI_leI, Nat.zero_le, true_and, e0, eq]; omega) | fail) only [je_204, jb_204_0, jb_204_6, jb_204_10, jb_204_23, jb_204_41, jb_204_46, jb_204_50, jb_204_51, jx_nl, jx_nlr, jx_thenS, jx_tlS, jx_tlN, jm_ite_go, jx_rds, jx_rdn, jx_lit, pk_mul, nI_add, nI_pred, pk_sub, jx_na, jx_add0, Nat.reduceMul, Nat.reduceAdd, Nat.reduceSub, Nat.reduceEqDiff, Nat.reduceLeDiff, Nat.reduceLT, Nat.not_lt_zero, jx_cl, nI_leI, nI_ltI, nI_eq, jx_neg, jx_neg', jx_negE, jx_negL, jx_negG, jx_negLE, jx_negN, sb_nlt, sb_nle, jx_b0, jx_b1, jx_bT, jx_bF, ite_true, ite_false, if_true, if_false, reduceIte, Bool.false_eq_true, Bool.true_eq_false, eq_self, Nat.one_ne_zero, Nat.add_sub_cancel, not_true_eq_false, not_false_eq_true, e0, eq]
  · unfold js_lt
    rw [← @jl_204 d a b q I rho mu none none (by omega) (by omega) hq (b + 1) a b none none none none (by omega) (by omega) (by omega) (Nat.gcd_pos_of_pos_right _ h0)]
    simp (disch := first | assumption | omega | exact jx_bz _ | exact jx_z0 | exact jx_z1 | (refine jx_ixB ?_ ?_; omega; omega) | (simp (disch := first | omega | fail) only [jx_lit, pk_mul, nI_add, nI_pred, pk_sub, jx_na, jx_add0, Nat.reduceMul, Nat.reduceAdd, Nat.reduceSub, Nat.reduceEqDiff, Nat.reduceLeDiff, Nat.reduceLT, e0, z]; refine jx_ixC ?_ ?_; omega; omega) | (simp (disch := first | omega | fail) only [jx_lit, pk_mul, nI_add, nI_pred, pk_sub, jx_na, jx_add0, Nat.reduceMul, Nat.reduceAdd, Nat.reduceSub, Nat.reduceEqDiff, Nat.reduceLeDiff, Nat.reduceLT, jx_cl, nI_leI, Nat.zero_le, true_and, e0, z]; omega) | fail) only [je_204, jb_204_0, jb_204_6, jb_204_10, jb_204_23, jb_204_41, jb_204_46, jb_204_50, jb_204_51, jx_nl, jx_nlr, jx_thenS, jx_tlS, jx_tlN, jm_ite_go, jx_rds, jx_rdn, jx_lit, pk_mul, nI_add, nI_pred, pk_sub, jx_na, jx_add0, Nat.reduceMul, Nat.reduceAdd, Nat.reduceSub, Nat.reduceEqDiff, Nat.reduceLeDiff, Nat.reduceLT, Nat.not_lt_zero, jx_cl, nI_leI, nI_ltI, nI_eq, jx_neg, jx_neg', jx_negE, jx_negL, jx_negG, jx_negLE, jx_negN, sb_nlt, sb_nle, jx_b0, jx_b1, jx_bT, jx_bF, ite_true, ite_false, if_true, if_false, reduceIte, Bool.false_eq_true, Bool.true_eq_false, eq_self, Nat.one_ne_zero, Nat.add_sub_cancel, not_true_eq_false, not_false_eq_true, e0, z]
/-! share -/
def js_su (P : Nat → Nat → Int32) : Nat → Nat
  | 0 => 0
  | k + 1 => js_su P k + (P k 3).toNatClampNeg
theorem jq_share (x : Int32) : jCall 100 205 [.int x] := by
  refine jCall_ask fun d H rho mu w m tc ad kd cds hI hmu => ?_
  obtain ⟨h1, h2, -⟩ := hI
  have p3 := h2.1
  have p0 := h2.2.2.1
  have pm6 := h2.2.1
  obtain ⟨t2, u7, tn12⟩ := jR1_c h1
  rcases jx_rng x 1 (by decide) with ⟨hx, -, k143⟩ | ⟨q, hq, rfl, k143⟩
  · have z0 : ¬ x = nI 0 := jx_in_ne hx (by omega) (by decide)
    have z1 : ¬ x = nI 1 := jx_in_ne hx (by omega) (by decide)
    exact ⟨.long (-4611686018427387904), H, ⟨by simp (disch := first | assumption | omega | exact jx_bz _ | exact jx_z0 | exact jx_z1 | (refine jx_ixB ?_ ?_; omega; omega) | (simp (disch := first | omega | fail) only [jx_lit, pk_mul, nI_add, nI_pred, pk_sub, jx_na, jx_add0, Nat.reduceMul, Nat.reduceAdd, Nat.reduceSub, Nat.reduceEqDiff, Nat.reduceLeDiff, Nat.reduceLT, z0, z1]; refine jx_ixC ?_ ?_; omega; omega) | (simp (disch := first | omega | fail) only [jx_lit, pk_mul, nI_add, nI_pred, pk_sub, jx_na, jx_add0, Nat.reduceMul, Nat.reduceAdd, Nat.reduceSub, Nat.reduceEqDiff, Nat.reduceLeDiff, Nat.reduceLT, jx_cl, nI_leI, Nat.zero_le, true_and, z0, z1]; omega) | fail) only [je_100, jb_100_0, jb_100_4, jb_100_9, jb_100_17, jb_100_21, jb_100_33, jb_100_38, jb_100_38_1, jb_100_45, jb_100_53, jb_100_59, jb_100_71, jx_nl, jx_nlr, jx_thenS, jx_tlS, jx_tlN, jm_ite_go, jx_rds, jx_rdn, jx_lit, pk_mul, nI_add, nI_pred, pk_sub, jx_na, jx_add0, Nat.reduceMul, Nat.reduceAdd, Nat.reduceSub, Nat.reduceEqDiff, Nat.reduceLeDiff, Nat.reduceLT, Nat.not_lt_zero, jx_cl, nI_leI, nI_ltI, nI_eq, jx_neg, jx_neg', jx_negE, jx_negL, jx_negG, jx_negLE, jx_negN, sb_nlt, sb_nle, jx_b0, jx_b1, jx_bT, jx_bF, ite_true, ite_false, if_true, if_false, reduceIte, Bool.false_eq_true, Bool.true_eq_false, eq_self, Nat.one_ne_zero, Nat.add_sub_cancel, not_true_eq_false, not_false_eq_true, z0, z1], jG_rf⟩, H, by simp (disch := first | assumption | omega | exact jx_bz _ | exact jx_z0 | exact jx_z1 | (refine jx_ixB ?_ ?_; omega; omega) | (simp (disch := first | omega | fail) only [jx_lit, pk_mul, nI_add, nI_pred, pk_sub, jx_na, jx_add0, Nat.reduceMul, Nat.reduceAdd, Nat.reduceSub, Nat.reduceEqDiff, Nat.reduceLeDiff, Nat.reduceLT, k143]; refine jx_ixC ?_ ?_; omega; omega) | (simp (disch := first | omega | fail) only [jx_lit, pk_mul, nI_add, nI_pred, pk_sub, jx_na, jx_add0, Nat.reduceMul, Nat.reduceAdd, Nat.reduceSub, Nat.reduceEqDiff, Nat.reduceLeDiff, Nat.reduceLT, jx_cl, nI_leI, Nat.zero_le, true_and, k143]; omega) | fail) only [je_205, jb_205_0, jb_205_6, jb_205_9, jb_205_16, jb_205_20, jb_205_32, jb_205_51, jb_205_65, jx_nl, jx_nlr, jx_thenS, jx_tlS, jx_tlN, jm_ite_go, jx_rds, jx_rdn, jx_lit, pk_mul, nI_add, nI_pred, pk_sub, jx_na, jx_add0, Nat.reduceMul, Nat.reduceAdd, Nat.reduceSub, Nat.reduceEqDiff, Nat.reduceLeDiff, Nat.reduceLT, Nat.not_lt_zero, jx_cl, nI_leI, nI_ltI, nI_eq, jx_neg, jx_neg', jx_negE, jx_negL, jx_negG, jx_negLE, jx_negN, sb_nlt, sb_nle, jx_b0, jx_b1, jx_bT, jx_bF, ite_true, ite_false, if_true, if_false, reduceIte, Bool.false_eq_true, Bool.true_eq_false, eq_self, Nat.one_ne_zero, Nat.add_sub_cancel, not_true_eq_false, not_false_eq_true, k143], jG_rf⟩
  · have k143 := k143 (d + 58) H rho mu
    by_cases zm : m = 0
    · subst zm
      have hq1 : ¬ q = 0 → q = 1 := by omega
      refine ⟨.long (-4611686018427387904), H, ⟨?_, jG_rf⟩, H, by simp (disch := first | assumption | omega | exact jx_bz _ | exact jx_z0 | exact jx_z1 | (refine jx_ixB ?_ ?_; omega; omega) | (simp (disch := first | omega | fail) only [jx_lit, pk_mul, nI_add, nI_pred, pk_sub, jx_na, jx_add0, Nat.reduceMul, Nat.reduceAdd, Nat.reduceSub, Nat.reduceEqDiff, Nat.reduceLeDiff, Nat.reduceLT, k143, p0]; refine jx_ixC ?_ ?_; omega; omega) | (simp (disch := first | omega | fail) only [jx_lit, pk_mul, nI_add, nI_pred, pk_sub, jx_na, jx_add0, Nat.reduceMul, Nat.reduceAdd, Nat.reduceSub, Nat.reduceEqDiff, Nat.reduceLeDiff, Nat.reduceLT, jx_cl, nI_leI, Nat.zero_le, true_and, k143, p0]; omega) | fail) only [je_205, jb_205_0, jb_205_6, jb_205_9, jb_205_16, jb_205_20, jb_205_32, jb_205_51, jb_205_65, jx_nl, jx_nlr, jx_thenS, jx_tlS, jx_tlN, jm_ite_go, jx_rds, jx_rdn, jx_lit, pk_mul, nI_add, nI_pred, pk_sub, jx_na, jx_add0, Nat.reduceMul, Nat.reduceAdd, Nat.reduceSub, Nat.reduceEqDiff, Nat.reduceLeDiff, Nat.reduceLT, Nat.not_lt_zero, jx_cl, nI_leI, nI_ltI, nI_eq, jx_neg, jx_neg', jx_negE, jx_negL, jx_negG, jx_negLE, jx_negN, sb_nlt, sb_nle, jx_b0, jx_b1, jx_bT, jx_bF, ite_true, ite_false, if_true, if_false, reduceIte, Bool.false_eq_true, Bool.true_eq_false, eq_self, Nat.one_ne_zero, Nat.add_sub_cancel, not_true_eq_false, not_false_eq_true, k143, p0], jG_rf⟩
      rcases (show q = 0 ∨ q = 1 by omega) with zq | zq <;> subst zq
      · simp (disch := first | assumption | omega | exact jx_bz _ | exact jx_z0 | exact jx_z1 | (refine jx_ixB ?_ ?_; omega; omega) | (simp (disch := first | omega | fail) only [jx_lit, pk_mul, nI_add, nI_pred, pk_sub, jx_na, jx_add0, Nat.reduceMul, Nat.reduceAdd, Nat.reduceSub, Nat.reduceEqDiff, Nat.reduceLeDiff, Nat.reduceLT, p3]; refine jx_ixC ?_ ?_; omega; omega) | (simp (disch := first | omega | fail) only [jx_lit, pk_mul, nI_add, nI_pred, pk_sub, jx_na, jx_add0, Nat.reduceMul, Nat.reduceAdd, Nat.reduceSub, Nat.reduceEqDiff, Nat.reduceLeDiff, Nat.reduceLT, jx_cl, nI_leI, Nat.zero_le, true_and, p3]; omega) | fail) only [je_100, jb_100_0, jb_100_4, jb_100_9, jb_100_17, jb_100_21, jb_100_33, jb_100_38, jb_100_38_1, jb_100_45, jb_100_53, jb_100_59, jb_100_71, jx_nl, jx_nlr, jx_thenS, jx_tlS, jx_tlN, jm_ite_go, jx_rds, jx_rdn, jx_lit, pk_mul, nI_add, nI_pred, pk_sub, jx_na, jx_add0, Nat.reduceMul, Nat.reduceAdd, Nat.reduceSub, Nat.reduceEqDiff, Nat.reduceLeDiff, Nat.reduceLT, Nat.not_lt_zero, jx_cl, nI_leI, nI_ltI, nI_eq, jx_neg, jx_neg', jx_negE, jx_negL, jx_negG, jx_negLE, jx_negN, sb_nlt, sb_nle, jx_b0, jx_b1, jx_bT, jx_bF, ite_true, ite_false, if_true, if_false, reduceIte, Bool.false_eq_true, Bool.true_eq_false, eq_self, Nat.one_ne_zero, Nat.add_sub_cancel, not_true_eq_false, not_false_eq_true, p3]
      · simp (disch := first | assumption | omega | exact jx_bz _ | exact jx_z0 | exact jx_z1 | (refine jx_ixB ?_ ?_; omega; omega) | (simp (disch := first | omega | fail) only [jx_lit, pk_mul, nI_add, nI_pred, pk_sub, jx_na, jx_add0, Nat.reduceMul, Nat.reduceAdd, Nat.reduceSub, Nat.reduceEqDiff, Nat.reduceLeDiff, Nat.reduceLT, p3]; refine jx_ixC ?_ ?_; omega; omega) | (simp (disch := first | omega | fail) only [jx_lit, pk_mul, nI_add, nI_pred, pk_sub, jx_na, jx_add0, Nat.reduceMul, Nat.reduceAdd, Nat.reduceSub, Nat.reduceEqDiff, Nat.reduceLeDiff, Nat.reduceLT, jx_cl, nI_leI, Nat.zero_le, true_and, p3]; omega) | fail) only [je_100, jb_100_0, jb_100_4, jb_100_9, jb_100_17, jb_100_21, jb_100_33, jb_100_38, jb_100_38_1, jb_100_45, jb_100_53, jb_100_59, jb_100_71, jx_nl, jx_nlr, jx_thenS, jx_tlS, jx_tlN, jm_ite_go, jx_rds, jx_rdn, jx_lit, pk_mul, nI_add, nI_pred, pk_sub, jx_na, jx_add0, Nat.reduceMul, Nat.reduceAdd, Nat.reduceSub, Nat.reduceEqDiff, Nat.reduceLeDiff, Nat.reduceLT, Nat.not_lt_zero, jx_cl, nI_leI, nI_ltI, nI_eq, jx_neg, jx_neg', jx_negE, jx_negL, jx_negG, jx_negLE, jx_negN, sb_nlt, sb_nle, jx_b0, jx_b1, jx_bT, jx_bF, ite_true, ite_false, if_true, if_false, reduceIte, Bool.false_eq_true, Bool.true_eq_false, eq_self, Nat.one_ne_zero, Nat.add_sub_cancel, not_true_eq_false, not_false_eq_true, p3]
    · have zm1 : 1 ≤ m := by omega
      let P : Nat → Nat → Int32 := fun p => H (ad p)
      have hc : jPc H rho mu (jwn w) m ad kd P := jR2_c h2
      have hms : jPm H (jwn w) m kd P := jR2_m h2
      have hl : ∀ k, k < m → ∃ l, l < 100 ∧ P k 3 = nI l ∧ (P k 3).toNatClampNeg = l := fun k hk => by
        obtain ⟨l, h, e⟩ := (hc.2.2 k hk).2.2.2.1.2.2.1
        exact ⟨l, h, e, by rw [e, jx_cl (by omega)]⟩
      have hb : ∀ k, k ≤ m → js_su P k ≤ 99 * k := by
        intro k
        induction k with
        | zero => intro _; exact Nat.le_refl _
        | succ k ih =>
          intro hk
          obtain ⟨l, h, -, e⟩ := hl k (by omega)
          have := ih (by omega)
          rw [js_su, e]; omega
      have hbm := hb m (Nat.le_refl _)
      have k125 := @jf_125 (d + 58) (js_su P m) (99 * m) q H rho mu (by omega) (by omega) (by omega) (by omega)
      have k204 := @jf_204 (d + 58) (js_su P m) (99 * m) q H rho mu (by omega) (by omega) (by omega) (by omega)
      have i1 := jx_i2l (n := js_su P m) (by omega)
      have i2 := jx_i2l (n := 99 * m) (by omega)
      obtain ⟨v4, e5, -⟩ := jx_for (E := jm_ev (d + 59)) (y := 100) (σ := Option Value) m (fun k v => (25, [some (.ref 0), some (.int (nI q)), some (.int (nI (js_su P k))), some (.int (nI k)), v], [], jm_hp H rho mu)) (fun _ _ => True) (fun k v hk _ => by
        obtain ⟨a1, a2, a3, a4, a5⟩ := hc.2.2 k hk
        have k128 := @jf_128 (d + 58) m k (ad k) H rho mu p3 pm6 hk a1
        obtain ⟨l, h, e, e2⟩ := hl k hk
        have hO := jO_is a2
        have hH3 : H (ad k) 3 = nI l := e
        have zn : ¬ m ≤ k := by omega
        refine ⟨some (.ref (ad k)), ?_, trivial⟩
        rw [jb_100_25, js_su, e2]
        simp (disch := first | assumption | omega | exact jx_bz _ | exact jx_z0 | exact jx_z1 | (refine jx_ixB ?_ ?_; omega; omega) | (simp (disch := first | omega | fail) only [jx_lit, pk_mul, nI_add, nI_pred, pk_sub, jx_na, jx_add0, Nat.reduceMul, Nat.reduceAdd, Nat.reduceSub, Nat.reduceEqDiff, Nat.reduceLeDiff, Nat.reduceLT, p3, zn, k128, hH3]; refine jx_ixC ?_ ?_; omega; omega) | (simp (disch := first | omega | fail) only [jx_lit, pk_mul, nI_add, nI_pred, pk_sub, jx_na, jx_add0, Nat.reduceMul, Nat.reduceAdd, Nat.reduceSub, Nat.reduceEqDiff, Nat.reduceLeDiff, Nat.reduceLT, jx_cl, nI_leI, Nat.zero_le, true_and, p3, zn, k128, hH3]; omega) | fail) only [jb_100_0, jb_100_4, jb_100_9, jb_100_17, jb_100_21, jb_100_33, jb_100_38, jb_100_38_1, jb_100_45, jb_100_53, jb_100_59, jb_100_71, jx_nl, jx_nlr, jx_thenS, jx_tlS, jx_tlN, jm_ite_go, jx_rds, jx_rdn, jx_lit, pk_mul, nI_add, nI_pred, pk_sub, jx_na, jx_add0, Nat.reduceMul, Nat.reduceAdd, Nat.reduceSub, Nat.reduceEqDiff, Nat.reduceLeDiff, Nat.reduceLT, Nat.not_lt_zero, jx_cl, nI_leI, nI_ltI, nI_eq, jx_neg, jx_neg', jx_negE, jx_negL, jx_negG, jx_negLE, jx_negN, sb_nlt, sb_nle, jx_b0, jx_b1, jx_bT, jx_bF, ite_true, ite_false, if_true, if_false, reduceIte, Bool.false_eq_true, Bool.true_eq_false, eq_self, Nat.one_ne_zero, Nat.add_sub_cancel, not_true_eq_false, not_false_eq_true, p3, zn, k128, hH3]) m 0 none (Nat.zero_add _) trivial
      have e6 := jx_for0 (E := jm_ev (d + 59)) (y := 205) m (fun k => (24, [some (.ref 57), some (.int (nI q)), some (.int (nI (js_su P k))), some (.int (nI k))], [], jm_hp H rho mu)) (fun k hk => by
        obtain ⟨a1, a2, a3⟩ := hms.2.2 k hk
        obtain ⟨l, h, e, e2⟩ := hl k hk
        have q61 : H 60 (4 * k + 1) = nI l := a3.2.2.2.1.trans e
        have zn : ¬ m ≤ k := by omega
        rw [jb_205_24, js_su, e2]
        simp (disch := first | assumption | omega | exact jx_bz _ | exact jx_z0 | exact jx_z1 | (refine jx_ixB ?_ ?_; omega; omega) | (simp (disch := first | omega | fail) only [jx_lit, pk_mul, nI_add, nI_pred, pk_sub, jx_na, jx_add0, Nat.reduceMul, Nat.reduceAdd, Nat.reduceSub, Nat.reduceEqDiff, Nat.reduceLeDiff, Nat.reduceLT, p0, zn, q61]; refine jx_ixC ?_ ?_; omega; omega) | (simp (disch := first | omega | fail) only [jx_lit, pk_mul, nI_add, nI_pred, pk_sub, jx_na, jx_add0, Nat.reduceMul, Nat.reduceAdd, Nat.reduceSub, Nat.reduceEqDiff, Nat.reduceLeDiff, Nat.reduceLT, jx_cl, nI_leI, Nat.zero_le, true_and, p0, zn, q61]; omega) | fail) only [jb_205_0, jb_205_6, jb_205_9, jb_205_16, jb_205_20, jb_205_32, jb_205_51, jb_205_65, jx_nl, jx_nlr, jx_thenS, jx_tlS, jx_tlN, jm_ite_go, jx_rds, jx_rdn, jx_lit, pk_mul, nI_add, nI_pred, pk_sub, jx_na, jx_add0, Nat.reduceMul, Nat.reduceAdd, Nat.reduceSub, Nat.reduceEqDiff, Nat.reduceLeDiff, Nat.reduceLT, Nat.not_lt_zero, jx_cl, nI_leI, nI_ltI, nI_eq, jx_neg, jx_neg', jx_negE, jx_negL, jx_negG, jx_negLE, jx_negN, sb_nlt, sb_nle, jx_b0, jx_b1, jx_bT, jx_bF, ite_true, ite_false, if_true, if_false, reduceIte, Bool.false_eq_true, Bool.true_eq_false, eq_self, Nat.one_ne_zero, Nat.add_sub_cancel, not_true_eq_false, not_false_eq_true, p0, zn, q61]) m (Nat.le_refl _)
      refine ⟨.long (lN (js_lt (js_su P m) (99 * m) q)), H, ⟨?_, jG_rf⟩, H, ?_, jG_rf⟩
      · have hh : jm_ev (d + 60) 100 [.ref 0, .int (nI q)] (jm_hp H rho mu) = jm_go (jm_ev (d + 59)) 100 (25, [some (.ref 0), some (.int (nI q)), some (.int (nI (js_su P 0))), some (.int (nI 0)), none], [], jm_hp H rho mu) := by
          rcases (show q = 0 ∨ q = 1 by omega) with zq | zq <;> subst zq
          · simp (disch := first | assumption | omega | exact jx_bz _ | exact jx_z0 | exact jx_z1 | (refine jx_ixB ?_ ?_; omega; omega) | (simp (disch := first | omega | fail) only [jx_lit, pk_mul, nI_add, nI_pred, pk_sub, jx_na, jx_add0, Nat.reduceMul, Nat.reduceAdd, Nat.reduceSub, Nat.reduceEqDiff, Nat.reduceLeDiff, Nat.reduceLT, p3, zm1, js_su]; refine jx_ixC ?_ ?_; omega; omega) | (simp (disch := first | omega | fail) only [jx_lit, pk_mul, nI_add, nI_pred, pk_sub, jx_na, jx_add0, Nat.reduceMul, Nat.reduceAdd, Nat.reduceSub, Nat.reduceEqDiff, Nat.reduceLeDiff, Nat.reduceLT, jx_cl, nI_leI, Nat.zero_le, true_and, p3, zm1, js_su]; omega) | fail) only [je_100, jb_100_0, jb_100_4, jb_100_9, jb_100_17, jb_100_21, jb_100_33, jb_100_38, jb_100_38_1, jb_100_45, jb_100_53, jb_100_59, jb_100_71, jx_nl, jx_nlr, jx_thenS, jx_tlS, jx_tlN, jm_ite_go, jx_rds, jx_rdn, jx_lit, pk_mul, nI_add, nI_pred, pk_sub, jx_na, jx_add0, Nat.reduceMul, Nat.reduceAdd, Nat.reduceSub, Nat.reduceEqDiff, Nat.reduceLeDiff, Nat.reduceLT, Nat.not_lt_zero, jx_cl, nI_leI, nI_ltI, nI_eq, jx_neg, jx_neg', jx_negE, jx_negL, jx_negG, jx_negLE, jx_negN, sb_nlt, sb_nle, jx_b0, jx_b1, jx_bT, jx_bF, ite_true, ite_false, if_true, if_false, reduceIte, Bool.false_eq_true, Bool.true_eq_false, eq_self, Nat.one_ne_zero, Nat.add_sub_cancel, not_true_eq_false, not_false_eq_true, p3, zm1, js_su]
          · simp (disch := first | assumption | omega | exact jx_bz _ | exact jx_z0 | exact jx_z1 | (refine jx_ixB ?_ ?_; omega; omega) | (simp (disch := first | omega | fail) only [jx_lit, pk_mul, nI_add, nI_pred, pk_sub, jx_na, jx_add0, Nat.reduceMul, Nat.reduceAdd, Nat.reduceSub, Nat.reduceEqDiff, Nat.reduceLeDiff, Nat.reduceLT, p3, zm1, js_su]; refine jx_ixC ?_ ?_; omega; omega) | (simp (disch := first | omega | fail) only [jx_lit, pk_mul, nI_add, nI_pred, pk_sub, jx_na, jx_add0, Nat.reduceMul, Nat.reduceAdd, Nat.reduceSub, Nat.reduceEqDiff, Nat.reduceLeDiff, Nat.reduceLT, jx_cl, nI_leI, Nat.zero_le, true_and, p3, zm1, js_su]; omega) | fail) only [je_100, jb_100_0, jb_100_4, jb_100_9, jb_100_17, jb_100_21, jb_100_33, jb_100_38, jb_100_38_1, jb_100_45, jb_100_53, jb_100_59, jb_100_71, jx_nl, jx_nlr, jx_thenS, jx_tlS, jx_tlN, jm_ite_go, jx_rds, jx_rdn, jx_lit, pk_mul, nI_add, nI_pred, pk_sub, jx_na, jx_add0, Nat.reduceMul, Nat.reduceAdd, Nat.reduceSub, Nat.reduceEqDiff, Nat.reduceLeDiff, Nat.reduceLT, Nat.not_lt_zero, jx_cl, nI_leI, nI_ltI, nI_eq, jx_neg, jx_neg', jx_negE, jx_negL, jx_negG, jx_negLE, jx_negN, sb_nlt, sb_nle, jx_b0, jx_b1, jx_bT, jx_bF, ite_true, ite_false, if_true, if_false, reduceIte, Bool.false_eq_true, Bool.true_eq_false, eq_self, Nat.one_ne_zero, Nat.add_sub_cancel, not_true_eq_false, not_false_eq_true, p3, zm1, js_su]
        rw [hh, e5, jb_100_25]
        simp (disch := first | assumption | omega | exact jx_bz _ | exact jx_z0 | exact jx_z1 | (refine jx_ixB ?_ ?_; omega; omega) | (simp (disch := first | omega | fail) only [jx_lit, pk_mul, nI_add, nI_pred, pk_sub, jx_na, jx_add0, Nat.reduceMul, Nat.reduceAdd, Nat.reduceSub, Nat.reduceEqDiff, Nat.reduceLeDiff, Nat.reduceLT, p3, Nat.le_refl, k125]; refine jx_ixC ?_ ?_; omega; omega) | (simp (disch := first | omega | fail) only [jx_lit, pk_mul, nI_add, nI_pred, pk_sub, jx_na, jx_add0, Nat.reduceMul, Nat.reduceAdd, Nat.reduceSub, Nat.reduceEqDiff, Nat.reduceLeDiff, Nat.reduceLT, jx_cl, nI_leI, Nat.zero_le, true_and, p3, Nat.le_refl, k125]; omega) | fail) only [jb_100_0, jb_100_4, jb_100_9, jb_100_17, jb_100_21, jb_100_33, jb_100_38, jb_100_38_1, jb_100_45, jb_100_53, jb_100_59, jb_100_71, jx_nl, jx_nlr, jx_thenS, jx_tlS, jx_tlN, jm_ite_go, jx_rds, jx_rdn, jx_lit, pk_mul, nI_add, nI_pred, pk_sub, jx_na, jx_add0, Nat.reduceMul, Nat.reduceAdd, Nat.reduceSub, Nat.reduceEqDiff, Nat.reduceLeDiff, Nat.reduceLT, Nat.not_lt_zero, jx_cl, nI_leI, nI_ltI, nI_eq, jx_neg, jx_neg', jx_negE, jx_negL, jx_negG, jx_negLE, jx_negN, sb_nlt, sb_nle, jx_b0, jx_b1, jx_bT, jx_bF, ite_true, ite_false, if_true, if_false, reduceIte, Bool.false_eq_true, Bool.true_eq_false, eq_self, Nat.one_ne_zero, Nat.add_sub_cancel, not_true_eq_false, not_false_eq_true, p3, Nat.le_refl, k125]
      · have hh : jm_ev (d + 60) 205 [.ref 57, .int (nI q)] (jm_hp H rho mu) = jm_go (jm_ev (d + 59)) 205 (24, [some (.ref 57), some (.int (nI q)), some (.int (nI (js_su P 0))), some (.int (nI 0))], [], jm_hp H rho mu) := by
          simp (disch := first | assumption | omega | exact jx_bz _ | exact jx_z0 | exact jx_z1 | (refine jx_ixB ?_ ?_; omega; omega) | (simp (disch := first | omega | fail) only [jx_lit, pk_mul, nI_add, nI_pred, pk_sub, jx_na, jx_add0, Nat.reduceMul, Nat.reduceAdd, Nat.reduceSub, Nat.reduceEqDiff, Nat.reduceLeDiff, Nat.reduceLT, k143, p0, zm, js_su]; refine jx_ixC ?_ ?_; omega; omega) | (simp (disch := first | omega | fail) only [jx_lit, pk_mul, nI_add, nI_pred, pk_sub, jx_na, jx_add0, Nat.reduceMul, Nat.reduceAdd, Nat.reduceSub, Nat.reduceEqDiff, Nat.reduceLeDiff, Nat.reduceLT, jx_cl, nI_leI, Nat.zero_le, true_and, k143, p0, zm, js_su]; omega) | fail) only [je_205, jb_205_0, jb_205_6, jb_205_9, jb_205_16, jb_205_20, jb_205_32, jb_205_51, jb_205_65, jx_nl, jx_nlr, jx_thenS, jx_tlS, jx_tlN, jm_ite_go, jx_rds, jx_rdn, jx_lit, pk_mul, nI_add, nI_pred, pk_sub, jx_na, jx_add0, Nat.reduceMul, Nat.reduceAdd, Nat.reduceSub, Nat.reduceEqDiff, Nat.reduceLeDiff, Nat.reduceLT, Nat.not_lt_zero, jx_cl, nI_leI, nI_ltI, nI_eq, jx_neg, jx_neg', jx_negE, jx_negL, jx_negG, jx_negLE, jx_negN, sb_nlt, sb_nle, jx_b0, jx_b1, jx_bT, jx_bF, ite_true, ite_false, if_true, if_false, reduceIte, Bool.false_eq_true, Bool.true_eq_false, eq_self, Nat.one_ne_zero, Nat.add_sub_cancel, not_true_eq_false, not_false_eq_true, k143, p0, zm, js_su]
        rw [hh, e6, jb_205_24]
        simp (disch := first | assumption | omega | exact jx_bz _ | exact jx_z0 | exact jx_z1 | (refine jx_ixB ?_ ?_; omega; omega) | (simp (disch := first | omega | fail) only [jx_lit, pk_mul, nI_add, nI_pred, pk_sub, jx_na, jx_add0, Nat.reduceMul, Nat.reduceAdd, Nat.reduceSub, Nat.reduceEqDiff, Nat.reduceLeDiff, Nat.reduceLT, p0, Nat.le_refl, i1, i2, k204]; refine jx_ixC ?_ ?_; omega; omega) | (simp (disch := first | omega | fail) only [jx_lit, pk_mul, nI_add, nI_pred, pk_sub, jx_na, jx_add0, Nat.reduceMul, Nat.reduceAdd, Nat.reduceSub, Nat.reduceEqDiff, Nat.reduceLeDiff, Nat.reduceLT, jx_cl, nI_leI, Nat.zero_le, true_and, p0, Nat.le_refl, i1, i2, k204]; omega) | fail) only [jb_205_0, jb_205_6, jb_205_9, jb_205_16, jb_205_20, jb_205_32, jb_205_51, jb_205_65, jx_nl, jx_nlr, jx_thenS, jx_tlS, jx_tlN, jm_ite_go, jx_rds, jx_rdn, jx_lit, pk_mul, nI_add, nI_pred, pk_sub, jx_na, jx_add0, Nat.reduceMul, Nat.reduceAdd, Nat.reduceSub, Nat.reduceEqDiff, Nat.reduceLeDiff, Nat.reduceLT, Nat.not_lt_zero, jx_cl, nI_leI, nI_ltI, nI_eq, jx_neg, jx_neg', jx_negE, jx_negL, jx_negG, jx_negLE, jx_negN, sb_nlt, sb_nle, jx_b0, jx_b1, jx_bT, jx_bF, ite_true, ite_false, if_true, if_false, reduceIte, Bool.false_eq_true, Bool.true_eq_false, eq_self, Nat.one_ne_zero, Nat.add_sub_cancel, not_true_eq_false, not_false_eq_true, p0, Nat.le_refl, i1, i2, k204]
