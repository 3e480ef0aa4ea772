/-! STROLLS: the draws, the class's stroll, the reference's -/
def js_y (s : Nat) : Nat → Nat
  | 0 => s + 1
  | i + 1 => js_y s i * 48271 % 2147483647
def js_dd (n s : Nat) (i : Nat) : Nat := js_y s (i + 1) % n
def js_zz (n z : Nat) : Nat := if n = 0 then 0 else z
theorem js_y_lt {s : Nat} (h : s < 1000000) : ∀ i, js_y s i < 2147483647 := by
  intro i
  cases i with
  | zero => show s + 1 < _; omega
  | succ i => exact Nat.mod_lt _ (by decide)
theorem jx_l2i {n : Nat} (h : n < 2 ^ 31) : (lN n).toInt32 = nI n := by
  rw [← jx_i2l h, lg_l2i_i2l]
theorem jx_lmul (a b : Nat) : lN a * lN b = lN (a * b) := (Int64.ofNat_mul a b).symm
theorem jx_ladd (a b : Nat) : lN a + lN b = lN (a + b) := (Int64.ofNat_add a b).symm
theorem jx_draw {s k : Nat} (h : s < 1000000) : lN (js_y s k) * (48271 : Int64) - lN (js_y s k) * (48271 : Int64) / (2147483647 : Int64) * (2147483647 : Int64) = lN (js_y s (k + 1)) := by
  have hy := js_y_lt h k
  rw [show (48271 : Int64) = lN 48271 from rfl, show (2147483647 : Int64) = lN 2147483647 from rfl, jx_lmul, pk_lRem (by omega) (by decide) (by decide)]
  rfl
theorem jx_dr2 {s k n : Nat} (h : s < 1000000) (h0 : 0 < n) (hn : n ≤ 12) : (lN (js_y s (k + 1)) - lN (js_y s (k + 1)) / (nI n).toInt64 * (nI n).toInt64).toInt32 = nI (js_dd n s k) := by
  have hy := js_y_lt h (k + 1)
  rw [jx_i2l (by omega), pk_lRem (by omega) h0 (by omega), jx_l2i (Nat.lt_of_lt_of_le (Nat.mod_lt _ h0) (by omega))]
  rfl
theorem jx_s1 {s : Nat} (h : s < 1000000) : (nI s).toInt64 + (1 : Int64) = lN (js_y s 0) := by
  rw [jx_i2l (by omega), show (1 : Int64) = lN 1 from rfl, jx_ladd]; rfl
theorem jx_nz {n : Nat} (h0 : 0 < n) (hn : n ≤ 12) : ¬ (nI n).toInt64 = (0 : Int64) := by
  rw [jx_i2l (by omega), show (0 : Int64) = lN 0 from rfl, pk_lEQ (by omega) (by omega)]; omega
theorem jx_nln : jm_nl (none : Option Value) = none := rfl
theorem jf_135 {d o kd s z : Nat} {I : Nat → Nat → Int32} {rho : Nat → Option Nat} {mu : List (Nat × Nat)} {w : jW} (hw : jCt I w) (ho : jO mu o kd) (hv : jPv (jwn w) (I o)) (hs : s < 1000000) (hz : z < 100) :
    ∃ J, jm_ev (d + 7) 135 [.ref 0, .ref o, .int (nI s), .int (nI z)] (jm_hp I rho mu) = some (none, jm_hp J rho mu) ∧ J o = js_wk w kd (I o) (js_dd (jwn w) s) (js_zz (jwn w) z) ∧ jG (jS_so o) I J := by
  have h43 := ho.2.2
  have hH := jT_H hw.1
  have t2 : I 1 2 = nI (jwn w) := hw.1.1
  have tn : jwn w ≤ 12 := hw.1.2.1
  by_cases z0 : jwn w = 0
  · rw [z0] at t2
    refine ⟨I, ?_, by unfold js_zz; rw [if_pos z0]; rfl, jG_rf⟩
    simp (disch := first | assumption | omega | exact jx_bz _ | exact jx_z0 | exact jx_z1 | (refine jx_ixB ?_ ?_; omega; omega) | (simp (disch := first | omega | fail) only [jx_lit, pk_mul, nI_add, nI_pred, pk_sub, jx_na, jx_add0, Nat.reduceMul, Nat.reduceAdd, Nat.reduceSub, Nat.reduceEqDiff, Nat.reduceLeDiff, Nat.reduceLT, t2]; refine jx_ixC ?_ ?_; omega; omega) | (simp (disch := first | omega | fail) only [jx_lit, pk_mul, nI_add, nI_pred, pk_sub, jx_na, jx_add0, Nat.reduceMul, Nat.reduceAdd, Nat.reduceSub, Nat.reduceEqDiff, Nat.reduceLeDiff, Nat.reduceLT, jx_cl, nI_leI, Nat.zero_le, true_and, t2]; omega) | fail) only [je_135, jb_135_0, jb_135_15, jb_135_16, jb_135_31, jb_135_58, jb_135_65, jx_nl, jx_nlr, jx_thenS, jx_tlS, jx_tlN, jm_ite_go, jx_rds, jx_rdn, jx_lit, pk_mul, nI_add, nI_pred, pk_sub, jx_na, jx_add0, Nat.reduceMul, Nat.reduceAdd, Nat.reduceSub, Nat.reduceEqDiff, Nat.reduceLeDiff, Nat.reduceLT, Nat.not_lt_zero, jx_cl, nI_leI, nI_ltI, nI_eq, jx_neg, jx_neg', jx_negE, jx_negL, jx_negG, jx_negLE, jx_negN, sb_nlt, sb_nle, jx_b0, jx_b1, jx_bT, jx_bF, ite_true, ite_false, if_true, if_false, reduceIte, Bool.false_eq_true, Bool.true_eq_false, eq_self, Nat.one_ne_zero, Nat.add_sub_cancel, not_true_eq_false, not_false_eq_true, t2]
  · have zp : 0 < jwn w := by omega
    have zp1 : 1 ≤ jwn w := zp
    have hnz := jx_nz zp tn
    have hs1 := jx_s1 hs
    have hdl : ∀ k, js_dd (jwn w) s k < jwn w := fun k => Nat.mod_lt _ zp
    have e0 : jm_ev (d + 7) 135 [.ref 0, .ref o, .int (nI s), .int (nI z)] (jm_hp I rho mu) = jm_go (jm_ev (d + 6)) 135 (25, [some (.ref 0), some (.ref o), some (.int (nI s)), some (.int (nI z)), some (.int (nI (jwn w))), some (.long (lN (js_y s 0))), none, some (.int (nI 0))], [], jm_hp I rho mu) := by
      simp (disch := first | assumption | omega | exact jx_bz _ | exact jx_z0 | exact jx_z1 | (refine jx_ixB ?_ ?_; omega; omega) | (simp (disch := first | omega | fail) only [jx_lit, pk_mul, nI_add, nI_pred, pk_sub, jx_na, jx_add0, Nat.reduceMul, Nat.reduceAdd, Nat.reduceSub, Nat.reduceEqDiff, Nat.reduceLeDiff, Nat.reduceLT, t2, zp1, hs1]; refine jx_ixC ?_ ?_; omega; omega) | (simp (disch := first | omega | fail) only [jx_lit, pk_mul, nI_add, nI_pred, pk_sub, jx_na, jx_add0, Nat.reduceMul, Nat.reduceAdd, Nat.reduceSub, Nat.reduceEqDiff, Nat.reduceLeDiff, Nat.reduceLT, jx_cl, nI_leI, Nat.zero_le, true_and, t2, zp1, hs1]; omega) | fail) only [je_135, jb_135_0, jb_135_15, jb_135_16, jb_135_31, jb_135_58, jb_135_65, jx_nl, jx_nlr, jx_thenS, jx_tlS, jx_tlN, jm_ite_go, jx_rds, jx_rdn, jx_lit, pk_mul, nI_add, nI_pred, pk_sub, jx_na, jx_add0, Nat.reduceMul, Nat.reduceAdd, Nat.reduceSub, Nat.reduceEqDiff, Nat.reduceLeDiff, Nat.reduceLT, Nat.not_lt_zero, jx_cl, nI_leI, nI_ltI, nI_eq, jx_neg, jx_neg', jx_negE, jx_negL, jx_negG, jx_negLE, jx_negN, sb_nlt, sb_nle, jx_b0, jx_b1, jx_bT, jx_bF, ite_true, ite_false, if_true, if_false, reduceIte, Bool.false_eq_true, Bool.true_eq_false, eq_self, Nat.one_ne_zero, Nat.add_sub_cancel, not_true_eq_false, not_false_eq_true, t2, zp1, hs1]
    obtain ⟨J, e, g, r⟩ := jx_for (E := jm_ev (d + 6)) (y := 135) z (fun k J => (25, [some (.ref 0), some (.ref o), some (.int (nI s)), some (.int (nI z)), some (.int (nI (jwn w))), some (.long (lN (js_y s k))), none, some (.int (nI k))], [], jm_hp J rho mu)) (fun k J => jG (jS_so o) I J ∧ J o = js_wk w kd (I o) (js_dd (jwn w) s) k) (fun k J hk hZ => by
      have hvJ : jPv (jwn w) (J o) := by rw [hZ.2]; exact js_wk_v (z := z) hv hH (fun k hk => hdl k) k (by omega)
      obtain ⟨K, e, hKo, s2⟩ := jf_65 (d := d) (rho := rho) (jCt_so hw h43 hZ.1) (hdl k) ho hvJ
      have hd1 := jx_draw (k := k) hs
      have hd2 := jx_dr2 (k := k) hs zp tn
      have zn : ¬ z ≤ k := by omega
      refine ⟨K, ?_, jG_tr hZ.1 s2, by rw [hKo, hZ.2]; rfl⟩
      rw [jb_135_25]
      simp (disch := first | assumption | omega | exact jx_bz _ | exact jx_z0 | exact jx_z1 | (refine jx_ixB ?_ ?_; omega; omega) | (simp (disch := first | omega | fail) only [jx_lit, pk_mul, nI_add, nI_pred, pk_sub, jx_na, jx_add0, Nat.reduceMul, Nat.reduceAdd, Nat.reduceSub, Nat.reduceEqDiff, Nat.reduceLeDiff, Nat.reduceLT, jx_nln, zn, hd1, hd2, e]; refine jx_ixC ?_ ?_; omega; omega) | (simp (disch := first | omega | fail) only [jx_lit, pk_mul, nI_add, nI_pred, pk_sub, jx_na, jx_add0, Nat.reduceMul, Nat.reduceAdd, Nat.reduceSub, Nat.reduceEqDiff, Nat.reduceLeDiff, Nat.reduceLT, jx_cl, nI_leI, Nat.zero_le, true_and, jx_nln, zn, hd1, hd2, e]; omega) | fail) only [jb_135_0, jb_135_15, jb_135_16, jb_135_31, jb_135_58, jb_135_65, jx_nl, jx_nlr, jx_thenS, jx_tlS, jx_tlN, jm_ite_go, jx_rds, jx_rdn, jx_lit, pk_mul, nI_add, nI_pred, pk_sub, jx_na, jx_add0, Nat.reduceMul, Nat.reduceAdd, Nat.reduceSub, Nat.reduceEqDiff, Nat.reduceLeDiff, Nat.reduceLT, Nat.not_lt_zero, jx_cl, nI_leI, nI_ltI, nI_eq, jx_neg, jx_neg', jx_negE, jx_negL, jx_negG, jx_negLE, jx_negN, sb_nlt, sb_nle, jx_b0, jx_b1, jx_bT, jx_bF, ite_true, ite_false, if_true, if_false, reduceIte, Bool.false_eq_true, Bool.true_eq_false, eq_self, Nat.one_ne_zero, Nat.add_sub_cancel, not_true_eq_false, not_false_eq_true, jx_nln, zn, hd1, hd2, e]) z 0 I (Nat.zero_add _) ⟨jG_rf, rfl⟩
    refine ⟨J, ?_, by unfold js_zz; rw [if_neg z0]; exact r, g⟩
    rw [e0, e, jb_135_25]
    simp (disch := first | assumption | omega | exact jx_bz _ | exact jx_z0 | exact jx_z1 | (refine jx_ixB ?_ ?_; omega; omega) | (simp (disch := first | omega | fail) only [jx_lit, pk_mul, nI_add, nI_pred, pk_sub, jx_na, jx_add0, Nat.reduceMul, Nat.reduceAdd, Nat.reduceSub, Nat.reduceEqDiff, Nat.reduceLeDiff, Nat.reduceLT, Nat.le_refl]; refine jx_ixC ?_ ?_; omega; omega) | (simp (disch := first | omega | fail) only [jx_lit, pk_mul, nI_add, nI_pred, pk_sub, jx_na, jx_add0, Nat.reduceMul, Nat.reduceAdd, Nat.reduceSub, Nat.reduceEqDiff, Nat.reduceLeDiff, Nat.reduceLT, jx_cl, nI_leI, Nat.zero_le, true_and, Nat.le_refl]; omega) | fail) only [jb_135_0, jb_135_15, jb_135_16, jb_135_31, jb_135_58, jb_135_65, jx_nl, jx_nlr, jx_thenS, jx_tlS, jx_tlN, jm_ite_go, jx_rds, jx_rdn, jx_lit, pk_mul, nI_add, nI_pred, pk_sub, jx_na, jx_add0, Nat.reduceMul, Nat.reduceAdd, Nat.reduceSub, Nat.reduceEqDiff, Nat.reduceLeDiff, Nat.reduceLT, Nat.not_lt_zero, jx_cl, nI_leI, nI_ltI, nI_eq, jx_neg, jx_neg', jx_negE, jx_negL, jx_negG, jx_negLE, jx_negN, sb_nlt, sb_nle, jx_b0, jx_b1, jx_bT, jx_bF, ite_true, ite_false, if_true, if_false, reduceIte, Bool.false_eq_true, Bool.true_eq_false, eq_self, Nat.one_ne_zero, Nat.add_sub_cancel, not_true_eq_false, not_false_eq_true, Nat.le_refl]
theorem jf_224 {d p kd s z : Nat} {I : Nat → Nat → Int32} {rho : Nat → Option Nat} {mu : List (Nat × Nat)} {w : jW} {P : Nat → Int32} (hw : jMt I w) (hp : p < 6) (hkd : kd < 6) (hQ : jQ I p kd P) (hv : jPv (jwn w) P) (hs : s < 1000000) (hz : z < 100) :
    ∃ J, jm_ev (d + 7) 224 [.ref 57, .int (nI s), .int (nI p), .int (nI z)] (jm_hp I rho mu) = some (some (.int (js_wk w kd P (js_dd (jwn w) s) (js_zz (jwn w) z) 3)), jm_hp J rho mu) ∧ jG jS_w I J ∧ J 57 38 = js_wk w kd P (js_dd (jwn w) s) (js_zz (jwn w) z) 2 := by
  have hn12 := hw.1.2.1
  have u7 := hw.1.1
  have hH := jU_H hw.1
  obtain ⟨I1, e1, g1, r1⟩ := jf_208 (d := d + 5) (I := I) (rho := rho) (mu := mu) hp
  have hs1 := jx_s1 hs
  have e0 : jm_ev (d + 7) 224 [.ref 57, .int (nI s), .int (nI p), .int (nI z)] (jm_hp I rho mu) = jm_go (jm_ev (d + 6)) 224 (14, [some (.ref 57), some (.int (nI s)), some (.int (nI p)), some (.int (nI z)), some (.long (lN (js_y s 0))), none, some (.int (nI 0))], [], jm_hp I1 rho mu) := by
    simp (disch := first | assumption | omega | exact jx_bz _ | exact jx_z0 | exact jx_z1 | (refine jx_ixB ?_ ?_; omega; omega) | (simp (disch := first | omega | fail) only [jx_lit, pk_mul, nI_add, nI_pred, pk_sub, jx_na, jx_add0, Nat.reduceMul, Nat.reduceAdd, Nat.reduceSub, Nat.reduceEqDiff, Nat.reduceLeDiff, Nat.reduceLT, e1, hs1, jx_nln]; refine jx_ixC ?_ ?_; omega; omega) | (simp (disch := first | omega | fail) only [jx_lit, pk_mul, nI_add, nI_pred, pk_sub, jx_na, jx_add0, Nat.reduceMul, Nat.reduceAdd, Nat.reduceSub, Nat.reduceEqDiff, Nat.reduceLeDiff, Nat.reduceLT, jx_cl, nI_leI, Nat.zero_le, true_and, e1, hs1, jx_nln]; omega) | fail) only [je_224, jb_224_0, jb_224_11, jb_224_20, jb_224_27, jb_224_56, jb_224_59, jb_224_65, jb_224_94, jx_nl, jx_nlr, jx_thenS, jx_tlS, jx_tlN, jm_ite_go, jx_rds, jx_rdn, jx_lit, pk_mul, nI_add, nI_pred, pk_sub, jx_na, jx_add0, Nat.reduceMul, Nat.reduceAdd, Nat.reduceSub, Nat.reduceEqDiff, Nat.reduceLeDiff, Nat.reduceLT, Nat.not_lt_zero, jx_cl, nI_leI, nI_ltI, nI_eq, jx_neg, jx_neg', jx_negE, jx_negL, jx_negG, jx_negLE, jx_negN, sb_nlt, sb_nle, jx_b0, jx_b1, jx_bT, jx_bF, ite_true, ite_false, if_true, if_false, reduceIte, Bool.false_eq_true, Bool.true_eq_false, eq_self, Nat.one_ne_zero, Nat.add_sub_cancel, not_true_eq_false, not_false_eq_true, e1, hs1, jx_nln]
  have hQ1 : jQ I1 p kd P := jQ_e hQ fun a ha => jG_to g1 (by omega)
  have hw1 : jMt I1 w := jMt_mo hw g1 fun a k q => by simp [jS_at]; omega
  have fin : ∀ J y k Q, jG (jS_q p) I1 J → jQ J p kd Q → ∃ L, jm_go (jm_ev (d + 6)) 224 (65, [some (.ref 57), some (.int (nI s)), some (.int (nI p)), some (.int (nI z)), y, none, some (.int (nI k))], [], jm_hp J rho mu) = some (some (.int (Q 3)), jm_hp L rho mu) ∧ jG jS_w I L ∧ L 57 38 = Q 2 := by
    intro J y k Q g hQJ
    obtain ⟨L, e, r1', r2', r3'⟩ := jf_209 (d := d + 5) (I := jm_up J 57 38 (Q 2)) (rho := rho) (mu := mu) hp
    have q60 : J 60 (4 * p) = Q 2 := hQJ.2.2.1
    have q61 : J 60 (4 * p + 1) = Q 3 := hQJ.2.2.2.1
    have jo : ∀ a, a ≠ 57 → jm_up J 57 38 (Q 2) a = J a := fun a h => funext fun c => jx_rdn fun q => h q.1
    refine ⟨L, ?_, ?_, ?_⟩
    · simp (disch := first | assumption | omega | exact jx_bz _ | exact jx_z0 | exact jx_z1 | (refine jx_ixB ?_ ?_; omega; omega) | (simp (disch := first | omega | fail) only [jx_lit, pk_mul, nI_add, nI_pred, pk_sub, jx_na, jx_add0, Nat.reduceMul, Nat.reduceAdd, Nat.reduceSub, Nat.reduceEqDiff, Nat.reduceLeDiff, Nat.reduceLT, q60, q61, e]; refine jx_ixC ?_ ?_; omega; omega) | (simp (disch := first | omega | fail) only [jx_lit, pk_mul, nI_add, nI_pred, pk_sub, jx_na, jx_add0, Nat.reduceMul, Nat.reduceAdd, Nat.reduceSub, Nat.reduceEqDiff, Nat.reduceLeDiff, Nat.reduceLT, jx_cl, nI_leI, Nat.zero_le, true_and, q60, q61, e]; omega) | fail) only [jb_224_0, jb_224_11, jb_224_20, jb_224_27, jb_224_56, jb_224_59, jb_224_65, jb_224_94, jx_nl, jx_nlr, jx_thenS, jx_tlS, jx_tlN, jm_ite_go, jx_rds, jx_rdn, jx_lit, pk_mul, nI_add, nI_pred, pk_sub, jx_na, jx_add0, Nat.reduceMul, Nat.reduceAdd, Nat.reduceSub, Nat.reduceEqDiff, Nat.reduceLeDiff, Nat.reduceLT, Nat.not_lt_zero, jx_cl, nI_leI, nI_ltI, nI_eq, jx_neg, jx_neg', jx_negE, jx_negL, jx_negG, jx_negLE, jx_negN, sb_nlt, sb_nle, jx_b0, jx_b1, jx_bT, jx_bF, ite_true, ite_false, if_true, if_false, reduceIte, Bool.false_eq_true, Bool.true_eq_false, eq_self, Nat.one_ne_zero, Nat.add_sub_cancel, not_true_eq_false, not_false_eq_true, q60, q61, e]
    · have h60 : ∀ j, L 60 j = I 60 j := by
        intro j
        by_cases zq : 4 * p ≤ j ∧ j < 4 * p + 4
        · obtain ⟨i, hi⟩ : ∃ i, j = 4 * p + i := ⟨j - 4 * p, by omega⟩
          subst hi
          rw [r3' i (by omega), jo 79 (by omega), jG_o g (fun k => jS_qZ (by omega)), r1 i (by omega)]
        · rw [r2' j zq, jo 60 (by omega), g 60 j (jS_qZ (by omega)), jG_to g1 (by omega)]
      intro a k zq
      have zr := jS_wN zq
      by_cases h : a = 60
      · subst h; exact h60 k
      · rw [r1' a h, jx_rdn (by omega), g a k (jS_qZ (by omega)), jG_to g1 (by omega)]
    · rw [r1' 57 (by omega), jx_rds]
  have u71 : ∀ J, jG (jS_q p) I1 J → J 57 7 = nI (jwn w) := fun J g => by rw [g 57 7 (jS_qZ (by omega)), jG_to g1 (by omega)]; exact u7
  have hn1 := u71 I1 jG_rf
  by_cases z0 : jwn w = 0
  · have hzz : js_zz (jwn w) z = 0 := by unfold js_zz; rw [if_pos z0]
    rw [hzz]
    obtain ⟨L, e3, gL, hL⟩ := fin I1 (some (.long (lN (js_y s 0)))) 0 P jG_rf hQ1
    refine ⟨L, ?_, gL, hL⟩
    rw [z0] at hn1
    rw [e0, show js_wk w kd P (js_dd (jwn w) s) 0 3 = P 3 from rfl, ← e3, jb_224_14]
    have k20 := @jb_224_20 (jm_ev (d + 6)) I1 rho mu
    by_cases zz : z ≤ 0
    · simp (disch := first | assumption | omega | exact jx_bz _ | exact jx_z0 | exact jx_z1 | (refine jx_ixB ?_ ?_; omega; omega) | (simp (disch := first | omega | fail) only [jx_lit, pk_mul, nI_add, nI_pred, pk_sub, jx_na, jx_add0, Nat.reduceMul, Nat.reduceAdd, Nat.reduceSub, Nat.reduceEqDiff, Nat.reduceLeDiff, Nat.reduceLT, zz]; refine jx_ixC ?_ ?_; omega; omega) | (simp (disch := first | omega | fail) only [jx_lit, pk_mul, nI_add, nI_pred, pk_sub, jx_na, jx_add0, Nat.reduceMul, Nat.reduceAdd, Nat.reduceSub, Nat.reduceEqDiff, Nat.reduceLeDiff, Nat.reduceLT, jx_cl, nI_leI, Nat.zero_le, true_and, zz]; omega) | fail) only [jx_lit, pk_mul, nI_add, nI_pred, pk_sub, jx_na, jx_add0, Nat.reduceMul, Nat.reduceAdd, Nat.reduceSub, Nat.reduceEqDiff, Nat.reduceLeDiff, Nat.reduceLT, Nat.not_lt_zero, jx_cl, nI_leI, nI_ltI, nI_eq, jx_neg, jx_neg', jx_negE, jx_negL, jx_negG, jx_negLE, jx_negN, sb_nlt, sb_nle, jx_b0, jx_b1, jx_bT, jx_bF, ite_true, ite_false, if_true, if_false, reduceIte, Bool.false_eq_true, Bool.true_eq_false, eq_self, Nat.one_ne_zero, Nat.add_sub_cancel, not_true_eq_false, not_false_eq_true, jx_rds, jx_rdn, zz]
    · rw [if_neg (by rw [nI_leI (by omega) (by omega)]; exact zz), k20, hn1]
      simp (disch := first | assumption | omega | exact jx_bz _ | exact jx_z0 | exact jx_z1 | (refine jx_ixB ?_ ?_; omega; omega) | (simp (disch := first | omega | fail) only [jx_lit, pk_mul, nI_add, nI_pred, pk_sub, jx_na, jx_add0, Nat.reduceMul, Nat.reduceAdd, Nat.reduceSub, Nat.reduceEqDiff, Nat.reduceLeDiff, Nat.reduceLT, Nat.le_refl]; refine jx_ixC ?_ ?_; omega; omega) | (simp (disch := first | omega | fail) only [jx_lit, pk_mul, nI_add, nI_pred, pk_sub, jx_na, jx_add0, Nat.reduceMul, Nat.reduceAdd, Nat.reduceSub, Nat.reduceEqDiff, Nat.reduceLeDiff, Nat.reduceLT, jx_cl, nI_leI, Nat.zero_le, true_and, Nat.le_refl]; omega) | fail) only [jx_lit, pk_mul, nI_add, nI_pred, pk_sub, jx_na, jx_add0, Nat.reduceMul, Nat.reduceAdd, Nat.reduceSub, Nat.reduceEqDiff, Nat.reduceLeDiff, Nat.reduceLT, Nat.not_lt_zero, jx_cl, nI_leI, nI_ltI, nI_eq, jx_neg, jx_neg', jx_negE, jx_negL, jx_negG, jx_negLE, jx_negN, sb_nlt, sb_nle, jx_b0, jx_b1, jx_bT, jx_bF, ite_true, ite_false, if_true, if_false, reduceIte, Bool.false_eq_true, Bool.true_eq_false, eq_self, Nat.one_ne_zero, Nat.add_sub_cancel, not_true_eq_false, not_false_eq_true, jx_rds, jx_rdn, Nat.le_refl]
  · have zp : 0 < jwn w := by omega
    have zp1 : ¬ jwn w ≤ 0 := by omega
    have hnz := jx_nz zp hn12
    have hzz : js_zz (jwn w) z = z := by unfold js_zz; rw [if_neg z0]
    rw [hzz]
    have hdl : ∀ k, js_dd (jwn w) s k < jwn w := fun k => Nat.mod_lt _ zp
    obtain ⟨J, e, g, r⟩ := jx_for (E := jm_ev (d + 6)) (y := 224) z (fun k J => (14, [some (.ref 57), some (.int (nI s)), some (.int (nI p)), some (.int (nI z)), some (.long (lN (js_y s k))), none, some (.int (nI k))], [], jm_hp J rho mu)) (fun k J => jG (jS_q p) I1 J ∧ jQ J p kd (js_wk w kd P (js_dd (jwn w) s) k)) (fun k J hk hZ => by
      have hdk := hdl k
      have k144 : jm_ev (d + 6) 144 [.int (nI (js_dd (jwn w) s k)), .int (nI 0), .int (nI 11)] (jm_hp J rho mu) = some (some (.int (nI (js_dd (jwn w) s k))), jm_hp J rho mu) := by
        rw [@jf_144 (d + 5), js_bd_id (by omega) (by omega)]
      have hvk := js_wk_v (z := z) hv hH (fun k hk => hdl k) (kd := kd) k (by omega)
      obtain ⟨K, e, hQK, g2, -, -⟩ := jf_210 (d := d) (rho := rho) (mu := mu) (jMt_q hw1 hZ.1) hp hdk hkd hZ.2 hvk
      have hnJ := u71 J hZ.1
      have hd1 := jx_draw (k := k) hs
      have hd2 := jx_dr2 (k := k) hs zp hn12
      have zn : ¬ z ≤ k := by omega
      refine ⟨K, ?_, jG_tr hZ.1 g2, hQK⟩
      rw [jb_224_14]
      simp (disch := first | assumption | omega | exact jx_bz _ | exact jx_z0 | exact jx_z1 | (refine jx_ixB ?_ ?_; omega; omega) | (simp (disch := first | omega | fail) only [jx_lit, pk_mul, nI_add, nI_pred, pk_sub, jx_na, jx_add0, Nat.reduceMul, Nat.reduceAdd, Nat.reduceSub, Nat.reduceEqDiff, Nat.reduceLeDiff, Nat.reduceLT, jx_nln, zn, hnJ, zp1, hd1, hd2, k144, e]; refine jx_ixC ?_ ?_; omega; omega) | (simp (disch := first | omega | fail) only [jx_lit, pk_mul, nI_add, nI_pred, pk_sub, jx_na, jx_add0, Nat.reduceMul, Nat.reduceAdd, Nat.reduceSub, Nat.reduceEqDiff, Nat.reduceLeDiff, Nat.reduceLT, jx_cl, nI_leI, Nat.zero_le, true_and, jx_nln, zn, hnJ, zp1, hd1, hd2, k144, e]; omega) | fail) only [jb_224_0, jb_224_11, jb_224_20, jb_224_27, jb_224_56, jb_224_59, jb_224_65, jb_224_94, jx_nl, jx_nlr, jx_thenS, jx_tlS, jx_tlN, jm_ite_go, jx_rds, jx_rdn, jx_lit, pk_mul, nI_add, nI_pred, pk_sub, jx_na, jx_add0, Nat.reduceMul, Nat.reduceAdd, Nat.reduceSub, Nat.reduceEqDiff, Nat.reduceLeDiff, Nat.reduceLT, Nat.not_lt_zero, jx_cl, nI_leI, nI_ltI, nI_eq, jx_neg, jx_neg', jx_negE, jx_negL, jx_negG, jx_negLE, jx_negN, sb_nlt, sb_nle, jx_b0, jx_b1, jx_bT, jx_bF, ite_true, ite_false, if_true, if_false, reduceIte, Bool.false_eq_true, Bool.true_eq_false, eq_self, Nat.one_ne_zero, Nat.add_sub_cancel, not_true_eq_false, not_false_eq_true, jx_nln, zn, hnJ, zp1, hd1, hd2, k144, e]) z 0 I1 (Nat.zero_add _) ⟨jG_rf, hQ1⟩
    obtain ⟨L, e3, gL, hL⟩ := fin J (some (.long (lN (js_y s z)))) z _ g r
    refine ⟨L, ?_, gL, hL⟩
    rw [e0, e, ← e3, jb_224_14]
    simp (disch := first | assumption | omega | exact jx_bz _ | exact jx_z0 | exact jx_z1 | (refine jx_ixB ?_ ?_; omega; omega) | (simp (disch := first | omega | fail) only [jx_lit, pk_mul, nI_add, nI_pred, pk_sub, jx_na, jx_add0, Nat.reduceMul, Nat.reduceAdd, Nat.reduceSub, Nat.reduceEqDiff, Nat.reduceLeDiff, Nat.reduceLT, Nat.le_refl]; refine jx_ixC ?_ ?_; omega; omega) | (simp (disch := first | omega | fail) only [jx_lit, pk_mul, nI_add, nI_pred, pk_sub, jx_na, jx_add0, Nat.reduceMul, Nat.reduceAdd, Nat.reduceSub, Nat.reduceEqDiff, Nat.reduceLeDiff, Nat.reduceLT, jx_cl, nI_leI, Nat.zero_le, true_and, Nat.le_refl]; omega) | fail) only [jx_lit, pk_mul, nI_add, nI_pred, pk_sub, jx_na, jx_add0, Nat.reduceMul, Nat.reduceAdd, Nat.reduceSub, Nat.reduceEqDiff, Nat.reduceLeDiff, Nat.reduceLT, Nat.not_lt_zero, jx_cl, nI_leI, nI_ltI, nI_eq, jx_neg, jx_neg', jx_negE, jx_negL, jx_negG, jx_negLE, jx_negN, sb_nlt, sb_nle, jx_b0, jx_b1, jx_bT, jx_bF, ite_true, ite_false, if_true, if_false, reduceIte, Bool.false_eq_true, Bool.true_eq_false, eq_self, Nat.one_ne_zero, Nat.add_sub_cancel, not_true_eq_false, not_false_eq_true, jx_rds, jx_rdn, Nat.le_refl]
