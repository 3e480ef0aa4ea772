/-! a door opened, a door tried: the reference -/
def jS_q (p : Nat) : Nat → Nat → Bool := fun a k => decide (74 ≤ a ∧ a < 79 ∨ a = 60 ∧ 4 * p ≤ k ∧ k < 4 * p + 4 ∨ a = 57 ∧ 36 ≤ k ∧ k < 38)
theorem jS_qY {p a k : Nat} (h : 74 ≤ a ∧ a < 79 ∨ a = 60 ∧ 4 * p ≤ k ∧ k < 4 * p + 4 ∨ a = 57 ∧ 36 ≤ k ∧ k < 38) : jS_q p a k = true := decide_eq_true h
theorem jS_qZ {p a k : Nat} (h : ¬ (74 ≤ a ∧ a < 79 ∨ a = 60 ∧ 4 * p ≤ k ∧ k < 4 * p + 4 ∨ a = 57 ∧ 36 ≤ k ∧ k < 38)) : jS_q p a k = false := decide_eq_false h
theorem jS_qN {p a k : Nat} (h : jS_q p a k = false) : ¬ (74 ≤ a ∧ a < 79 ∨ a = 60 ∧ 4 * p ≤ k ∧ k < 4 * p + 4 ∨ a = 57 ∧ 36 ≤ k ∧ k < 38) := of_decide_eq_false h
theorem jG_mq {p : Nat} {I J : Nat → Nat → Int32} (h : jG jS_m I J) : jG (jS_q p) I J := jG_mo h fun a k q => by
  have := jS_qN q
  exact jS_mZ (by omega)
theorem jMt_q {p : Nat} {I J : Nat → Nat → Int32} {w : jW} (h : jMt I w) (g : jG (jS_q p) I J) : jMt J w := jMt_mo h g fun a k q => jS_qZ (by omega)
theorem jf_189 {d p k kd : Nat} {I : Nat → Nat → Int32} {rho : Nat → Option Nat} {mu : List (Nat × Nat)} {P : Nat → Int32} {w : jW} (hw : jMt I w) (hp : p < 6) (hk : k < jwn w) (hkd : kd < 6) (hQ : jQ I p kd P) (hv : jPv (jwn w) P) :
    ∃ J, jm_ev (d + 5) 189 [.ref 57, .int (nI p), .int (nI k)] (jm_hp I rho mu) = some (none, jm_hp J rho mu) ∧ jQ J p kd (js_new w kd P k) ∧ jG (jS_q p) I J ∧ J 57 = I 57 := by
  obtain ⟨-, ⟨h, hh, h2⟩, -, -, S, hS, h5⟩ := id hv
  obtain ⟨⟨hn, hn12, hSb, hF⟩, -⟩ := id hw
  obtain ⟨ha, ha8, hb, hb8, -⟩ := hF k hk
  have hS2 := Nat.lt_of_lt_of_le hS (jx_pow12 hn12)
  obtain ⟨q58, q59, q60, q61, q62, q63⟩ := id hQ
  let v : Int32 := if P 4 = nI k then js_leave w kd P k else P 3 + js_gain w kd P k
  let K : (Nat → Nat → Int32) → (Nat → Nat → Int32) := fun J => jm_up (jm_up (jm_up J 60 (4 * p + 1) (js_bd v (nI 0) (nI 99))) 60 (4 * p + 3) (nI (S ||| 2 ^ k))) 60 (4 * p) (nI (jx_thr (jwa w) (jwb w) k h))
  have main : ∀ J, jG jS_m I J → jQ (K J) p kd (js_new w kd P k) ∧ jG (jS_q p) I (K J) ∧ K J 57 = I 57 := by
    intro J s
    obtain ⟨r58, r59, r60, r61, r62, r63⟩ := jQ_mo hQ s
    refine ⟨⟨?_, ?_, ?_, ?_, ?_, ?_⟩, jG_up (jG_up (jG_up (jG_mq s) (jS_qY (by omega))) (jS_qY (by omega))) (jS_qY (by omega)), ?_⟩
    · simp only [K]; rw [jx_rdn (by omega), jx_rdn (by omega), jx_rdn (by omega)]; exact r58
    · simp only [K]; rw [jx_rdn (by omega), jx_rdn (by omega), jx_rdn (by omega)]; exact r59
    · simp only [K]; rw [jx_rds]; simp only [js_new, h2, jx_cl (show h < 2 ^ 31 by omega), if_true]
    · simp only [K]; rw [jx_rdn (by omega), jx_rdn (by omega), jx_rds]; rfl
    · simp only [K]; rw [jx_rdn (by omega), jx_rdn (by omega), jx_rdn (by omega)]; exact r62
    · simp only [K]; rw [jx_rdn (by omega), jx_rds]; show _ = P 5 ||| nI (2 ^ k); rw [h5, fa_or]
    · simp only [K]; rw [jx_rdo (by omega), jx_rdo (by omega), jx_rdo (by omega)]; exact jG_o s fun _ => jS_mZ (by omega)
  by_cases hq : P 4 = nI k
  · obtain ⟨J, e, s⟩ := jf_178 (d := d) (rho := rho) (mu := mu) (k := k) hw hp hkd hQ h5 hS2
    obtain ⟨r58, r59, r60, r61, r62, r63⟩ := jQ_mo hQ s
    have ha2 : J 61 k = nI (jwa w k) := by rw [jG_o s fun _ => jS_mZ (by omega)]; exact ha
    have hb2 : J 62 k = nI (jwb w k) := by rw [jG_o s fun _ => jS_mZ (by omega)]; exact hb
    obtain ⟨m1, m2, m3⟩ := main J s
    refine ⟨K J, ?_, m1, m2, m3⟩
    have hve : v = js_leave w kd P k := if_pos hq
    simp only [K, hve, jx_thr]
    by_cases hh2 : jwa w k = h
    · simp (disch := first | assumption | omega | exact jx_bz _ | exact jx_z0 | exact jx_z1 | (refine jx_ixB ?_ ?_; omega; omega) | (simp (disch := first | omega | fail) only [jx_lit, pk_mul, nI_add, nI_pred, pk_sub, jx_na, jx_add0, Nat.reduceMul, Nat.reduceAdd, Nat.reduceSub, Nat.reduceEqDiff, Nat.reduceLeDiff, Nat.reduceLT, q62, hq, e, jf_144, r60, r63, h5, h2, ha2, hb2, hh2, jx_one, fa_or]; refine jx_ixC ?_ ?_; omega; omega) | (simp (disch := first | omega | fail) only [jx_lit, pk_mul, nI_add, nI_pred, pk_sub, jx_na, jx_add0, Nat.reduceMul, Nat.reduceAdd, Nat.reduceSub, Nat.reduceEqDiff, Nat.reduceLeDiff, Nat.reduceLT, jx_cl, nI_leI, Nat.zero_le, true_and, q62, hq, e, jf_144, r60, r63, h5, h2, ha2, hb2, hh2, jx_one, fa_or]; omega) | fail) only [je_189, jb_189_0, jb_189_14, jb_189_20, jb_189_23, jb_189_39, jb_189_40, jb_189_57, jb_189_98, jb_189_107, jb_189_113, jx_nl, jx_nlr, jx_thenS, jx_tlS, jx_tlN, jm_ite_go, jx_rds, jx_rdn, jx_lit, pk_mul, nI_add, nI_pred, pk_sub, jx_na, jx_add0, Nat.reduceMul, Nat.reduceAdd, Nat.reduceSub, Nat.reduceEqDiff, Nat.reduceLeDiff, Nat.reduceLT, Nat.not_lt_zero, jx_cl, nI_leI, nI_ltI, nI_eq, jx_neg, jx_neg', jx_negE, jx_negL, jx_negG, jx_negLE, jx_negN, sb_nlt, sb_nle, jx_b0, jx_b1, jx_bT, jx_bF, ite_true, ite_false, if_true, if_false, reduceIte, Bool.false_eq_true, Bool.true_eq_false, eq_self, Nat.one_ne_zero, Nat.add_sub_cancel, not_true_eq_false, not_false_eq_true, q62, hq, e, jf_144, r60, r63, h5, h2, ha2, hb2, hh2, jx_one, fa_or]
    · have hh3 : ¬ h = jwa w k := fun x => hh2 x.symm
      simp (disch := first | assumption | omega | exact jx_bz _ | exact jx_z0 | exact jx_z1 | (refine jx_ixB ?_ ?_; omega; omega) | (simp (disch := first | omega | fail) only [jx_lit, pk_mul, nI_add, nI_pred, pk_sub, jx_na, jx_add0, Nat.reduceMul, Nat.reduceAdd, Nat.reduceSub, Nat.reduceEqDiff, Nat.reduceLeDiff, Nat.reduceLT, q62, hq, e, jf_144, r60, r63, h5, h2, ha2, hb2, hh2, hh3, jx_one, fa_or]; refine jx_ixC ?_ ?_; omega; omega) | (simp (disch := first | omega | fail) only [jx_lit, pk_mul, nI_add, nI_pred, pk_sub, jx_na, jx_add0, Nat.reduceMul, Nat.reduceAdd, Nat.reduceSub, Nat.reduceEqDiff, Nat.reduceLeDiff, Nat.reduceLT, jx_cl, nI_leI, Nat.zero_le, true_and, q62, hq, e, jf_144, r60, r63, h5, h2, ha2, hb2, hh2, hh3, jx_one, fa_or]; omega) | fail) only [je_189, jb_189_0, jb_189_14, jb_189_20, jb_189_23, jb_189_39, jb_189_40, jb_189_57, jb_189_98, jb_189_107, jb_189_113, jx_nl, jx_nlr, jx_thenS, jx_tlS, jx_tlN, jm_ite_go, jx_rds, jx_rdn, jx_lit, pk_mul, nI_add, nI_pred, pk_sub, jx_na, jx_add0, Nat.reduceMul, Nat.reduceAdd, Nat.reduceSub, Nat.reduceEqDiff, Nat.reduceLeDiff, Nat.reduceLT, Nat.not_lt_zero, jx_cl, nI_leI, nI_ltI, nI_eq, jx_neg, jx_neg', jx_negE, jx_negL, jx_negG, jx_negLE, jx_negN, sb_nlt, sb_nle, jx_b0, jx_b1, jx_bT, jx_bF, ite_true, ite_false, if_true, if_false, reduceIte, Bool.false_eq_true, Bool.true_eq_false, eq_self, Nat.one_ne_zero, Nat.add_sub_cancel, not_true_eq_false, not_false_eq_true, q62, hq, e, jf_144, r60, r63, h5, h2, ha2, hb2, hh2, hh3, jx_one, fa_or]
  · obtain ⟨J, e, s⟩ := jf_176 (d := d) (rho := rho) (mu := mu) (k := k) hw hp hkd hQ h5 hS2
    obtain ⟨r58, r59, r60, r61, r62, r63⟩ := jQ_mo hQ s
    have ha2 : J 61 k = nI (jwa w k) := by rw [jG_o s fun _ => jS_mZ (by omega)]; exact ha
    have hb2 : J 62 k = nI (jwb w k) := by rw [jG_o s fun _ => jS_mZ (by omega)]; exact hb
    obtain ⟨m1, m2, m3⟩ := main J s
    refine ⟨K J, ?_, m1, m2, m3⟩
    have hve : v = P 3 + js_gain w kd P k := if_neg hq
    simp only [K, hve, jx_thr]
    by_cases hh2 : jwa w k = h
    · simp (disch := first | assumption | omega | exact jx_bz _ | exact jx_z0 | exact jx_z1 | (refine jx_ixB ?_ ?_; omega; omega) | (simp (disch := first | omega | fail) only [jx_lit, pk_mul, nI_add, nI_pred, pk_sub, jx_na, jx_add0, Nat.reduceMul, Nat.reduceAdd, Nat.reduceSub, Nat.reduceEqDiff, Nat.reduceLeDiff, Nat.reduceLT, q61, q62, hq, e, jf_144, r60, r63, h5, h2, ha2, hb2, hh2, jx_one, fa_or]; refine jx_ixC ?_ ?_; omega; omega) | (simp (disch := first | omega | fail) only [jx_lit, pk_mul, nI_add, nI_pred, pk_sub, jx_na, jx_add0, Nat.reduceMul, Nat.reduceAdd, Nat.reduceSub, Nat.reduceEqDiff, Nat.reduceLeDiff, Nat.reduceLT, jx_cl, nI_leI, Nat.zero_le, true_and, q61, q62, hq, e, jf_144, r60, r63, h5, h2, ha2, hb2, hh2, jx_one, fa_or]; omega) | fail) only [je_189, jb_189_0, jb_189_14, jb_189_20, jb_189_23, jb_189_39, jb_189_40, jb_189_57, jb_189_98, jb_189_107, jb_189_113, jx_nl, jx_nlr, jx_thenS, jx_tlS, jx_tlN, jm_ite_go, jx_rds, jx_rdn, jx_lit, pk_mul, nI_add, nI_pred, pk_sub, jx_na, jx_add0, Nat.reduceMul, Nat.reduceAdd, Nat.reduceSub, Nat.reduceEqDiff, Nat.reduceLeDiff, Nat.reduceLT, Nat.not_lt_zero, jx_cl, nI_leI, nI_ltI, nI_eq, jx_neg, jx_neg', jx_negE, jx_negL, jx_negG, jx_negLE, jx_negN, sb_nlt, sb_nle, jx_b0, jx_b1, jx_bT, jx_bF, ite_true, ite_false, if_true, if_false, reduceIte, Bool.false_eq_true, Bool.true_eq_false, eq_self, Nat.one_ne_zero, Nat.add_sub_cancel, not_true_eq_false, not_false_eq_true, q61, q62, hq, e, jf_144, r60, r63, h5, h2, ha2, hb2, hh2, jx_one, fa_or]
    · have hh3 : ¬ h = jwa w k := fun x => hh2 x.symm
      simp (disch := first | assumption | omega | exact jx_bz _ | exact jx_z0 | exact jx_z1 | (refine jx_ixB ?_ ?_; omega; omega) | (simp (disch := first | omega | fail) only [jx_lit, pk_mul, nI_add, nI_pred, pk_sub, jx_na, jx_add0, Nat.reduceMul, Nat.reduceAdd, Nat.reduceSub, Nat.reduceEqDiff, Nat.reduceLeDiff, Nat.reduceLT, q61, q62, hq, e, jf_144, r60, r63, h5, h2, ha2, hb2, hh2, hh3, jx_one, fa_or]; refine jx_ixC ?_ ?_; omega; omega) | (simp (disch := first | omega | fail) only [jx_lit, pk_mul, nI_add, nI_pred, pk_sub, jx_na, jx_add0, Nat.reduceMul, Nat.reduceAdd, Nat.reduceSub, Nat.reduceEqDiff, Nat.reduceLeDiff, Nat.reduceLT, jx_cl, nI_leI, Nat.zero_le, true_and, q61, q62, hq, e, jf_144, r60, r63, h5, h2, ha2, hb2, hh2, hh3, jx_one, fa_or]; omega) | fail) only [je_189, jb_189_0, jb_189_14, jb_189_20, jb_189_23, jb_189_39, jb_189_40, jb_189_57, jb_189_98, jb_189_107, jb_189_113, jx_nl, jx_nlr, jx_thenS, jx_tlS, jx_tlN, jm_ite_go, jx_rds, jx_rdn, jx_lit, pk_mul, nI_add, nI_pred, pk_sub, jx_na, jx_add0, Nat.reduceMul, Nat.reduceAdd, Nat.reduceSub, Nat.reduceEqDiff, Nat.reduceLeDiff, Nat.reduceLT, Nat.not_lt_zero, jx_cl, nI_leI, nI_ltI, nI_eq, jx_neg, jx_neg', jx_negE, jx_negL, jx_negG, jx_negLE, jx_negN, sb_nlt, sb_nle, jx_b0, jx_b1, jx_bT, jx_bF, ite_true, ite_false, if_true, if_false, reduceIte, Bool.false_eq_true, Bool.true_eq_false, eq_self, Nat.one_ne_zero, Nat.add_sub_cancel, not_true_eq_false, not_false_eq_true, q61, q62, hq, e, jf_144, r60, r63, h5, h2, ha2, hb2, hh2, hh3, jx_one, fa_or]
theorem jQ_e {I J : Nat → Nat → Int32} {p kd : Nat} {P : Nat → Int32} (h : jQ I p kd P) (g : ∀ a, 58 ≤ a ∧ a < 61 → J a = I a) : jQ J p kd P := by
  unfold jQ; rw [g 58 (by omega), g 59 (by omega), g 60 (by omega)]; exact h
theorem jf_210 {d p k kd : Nat} {I : Nat → Nat → Int32} {rho : Nat → Option Nat} {mu : List (Nat × Nat)} {P : Nat → Int32} {w : jW} (hw : jMt I w) (hp : p < 6) (hk : k < jwn w) (hkd : kd < 6) (hQ : jQ I p kd P) (hv : jPv (jwn w) P) :
    ∃ J, jm_ev (d + 6) 210 [.ref 57, .int (nI p), .int (nI k)] (jm_hp I rho mu) = some (none, jm_hp J rho mu) ∧ jQ J p kd (js_try w kd P k) ∧ jG (jS_q p) I J ∧ J 57 36 = (if js_may w kd P k then I 57 36 + nI 1 else I 57 36) ∧ J 57 37 = (if js_may w kd P k then (if I 57 37 = -nI 1 then (if P 4 = nI k then I 57 36 + nI 1 else I 57 37) else I 57 37) else I 57 37) := by
  obtain ⟨J, e, s⟩ := jf_188 (d := d) (rho := rho) (mu := mu) hw hp hk hkd hQ hv
  have hJ57 : J 57 = I 57 := jG_o s fun _ => jS_mZ (by omega)
  unfold js_try
  cases hm : js_may w kd P k with
  | false =>
    rw [hm] at e
    refine ⟨J, by simp (disch := first | assumption | omega | exact jx_bz _ | exact jx_z0 | exact jx_z1 | (refine jx_ixB ?_ ?_; omega; omega) | (simp (disch := first | omega | fail) only [jx_lit, pk_mul, nI_add, nI_pred, pk_sub, jx_na, jx_add0, Nat.reduceMul, Nat.reduceAdd, Nat.reduceSub, Nat.reduceEqDiff, Nat.reduceLeDiff, Nat.reduceLT, e]; refine jx_ixC ?_ ?_; omega; omega) | (simp (disch := first | omega | fail) only [jx_lit, pk_mul, nI_add, nI_pred, pk_sub, jx_na, jx_add0, Nat.reduceMul, Nat.reduceAdd, Nat.reduceSub, Nat.reduceEqDiff, Nat.reduceLeDiff, Nat.reduceLT, jx_cl, nI_leI, Nat.zero_le, true_and, e]; omega) | fail) only [je_210, jb_210_0, jb_210_6, jb_210_9, jb_210_28, jb_210_42, jb_210_49, jb_210_53, jb_210_62, jx_nl, jx_nlr, jx_thenS, jx_tlS, jx_tlN, jm_ite_go, jx_rds, jx_rdn, jx_lit, pk_mul, nI_add, nI_pred, pk_sub, jx_na, jx_add0, Nat.reduceMul, Nat.reduceAdd, Nat.reduceSub, Nat.reduceEqDiff, Nat.reduceLeDiff, Nat.reduceLT, Nat.not_lt_zero, jx_cl, nI_leI, nI_ltI, nI_eq, jx_neg, jx_neg', jx_negE, jx_negL, jx_negG, jx_negLE, jx_negN, sb_nlt, sb_nle, jx_b0, jx_b1, jx_bT, jx_bF, ite_true, ite_false, if_true, if_false, reduceIte, Bool.false_eq_true, Bool.true_eq_false, eq_self, Nat.one_ne_zero, Nat.add_sub_cancel, not_true_eq_false, not_false_eq_true, e], jQ_mo hQ s, jG_mq s, ?_, ?_⟩
    · rw [hJ57]; rfl
    · rw [hJ57]; rfl
  | true =>
    rw [hm] at e
    let v : Int32 := if I 57 37 = -nI 1 then (if P 4 = nI k then I 57 36 + nI 1 else I 57 37) else I 57 37
    let K := jm_up (jm_up J 57 36 (I 57 36 + nI 1)) 57 37 v
    have g1 : jG (jS_q p) I K := jG_up (jG_up (jG_mq s) (jS_qY (by omega))) (jS_qY (by omega))
    have hK60 : ∀ a, ¬ a = 57 → K a = J a := fun a ha => by simp only [K]; rw [jx_rdo ha, jx_rdo ha]
    obtain ⟨L, e2, q2, g2, h57⟩ := jf_189 (d := d) (I := K) (rho := rho) (mu := mu) (jMt_q hw g1) hp hk hkd (jQ_e (jQ_mo hQ s) fun a ha => hK60 a (by omega)) hv
    have hJ36 : J 57 36 = I 57 36 := by rw [hJ57]
    have hJ37 : J 57 37 = I 57 37 := by rw [hJ57]
    have q62 : J 60 (4 * p + 2) = P 4 := (jQ_mo hQ s).2.2.2.2.1
    refine ⟨L, ?_, q2, jG_tr g1 g2, ?_, ?_⟩
    · by_cases h1 : I 57 37 = -nI 1
      · by_cases h2 : P 4 = nI k
        · have hve : v = I 57 36 + nI 1 := by simp only [v, h1, h2, if_true]
          simp only [K, hve] at e2
          simp (disch := first | assumption | omega | exact jx_bz _ | exact jx_z0 | exact jx_z1 | (refine jx_ixB ?_ ?_; omega; omega) | (simp (disch := first | omega | fail) only [jx_lit, pk_mul, nI_add, nI_pred, pk_sub, jx_na, jx_add0, Nat.reduceMul, Nat.reduceAdd, Nat.reduceSub, Nat.reduceEqDiff, Nat.reduceLeDiff, Nat.reduceLT, e, hJ36, hJ37, h1, q62, h2, e2]; refine jx_ixC ?_ ?_; omega; omega) | (simp (disch := first | omega | fail) only [jx_lit, pk_mul, nI_add, nI_pred, pk_sub, jx_na, jx_add0, Nat.reduceMul, Nat.reduceAdd, Nat.reduceSub, Nat.reduceEqDiff, Nat.reduceLeDiff, Nat.reduceLT, jx_cl, nI_leI, Nat.zero_le, true_and, e, hJ36, hJ37, h1, q62, h2, e2]; omega) | fail) only [je_210, jb_210_0, jb_210_6, jb_210_9, jb_210_28, jb_210_42, jb_210_49, jb_210_53, jb_210_62, jx_nl, jx_nlr, jx_thenS, jx_tlS, jx_tlN, jm_ite_go, jx_rds, jx_rdn, jx_lit, pk_mul, nI_add, nI_pred, pk_sub, jx_na, jx_add0, Nat.reduceMul, Nat.reduceAdd, Nat.reduceSub, Nat.reduceEqDiff, Nat.reduceLeDiff, Nat.reduceLT, Nat.not_lt_zero, jx_cl, nI_leI, nI_ltI, nI_eq, jx_neg, jx_neg', jx_negE, jx_negL, jx_negG, jx_negLE, jx_negN, sb_nlt, sb_nle, jx_b0, jx_b1, jx_bT, jx_bF, ite_true, ite_false, if_true, if_false, reduceIte, Bool.false_eq_true, Bool.true_eq_false, eq_self, Nat.one_ne_zero, Nat.add_sub_cancel, not_true_eq_false, not_false_eq_true, e, hJ36, hJ37, h1, q62, h2, e2]
        · have hve : v = -nI 1 := by simp only [v, h1, h2, if_true, if_false]
          simp only [K, hve] at e2
          simp (disch := first | assumption | omega | exact jx_bz _ | exact jx_z0 | exact jx_z1 | (refine jx_ixB ?_ ?_; omega; omega) | (simp (disch := first | omega | fail) only [jx_lit, pk_mul, nI_add, nI_pred, pk_sub, jx_na, jx_add0, Nat.reduceMul, Nat.reduceAdd, Nat.reduceSub, Nat.reduceEqDiff, Nat.reduceLeDiff, Nat.reduceLT, e, hJ36, hJ37, h1, q62, h2, e2]; refine jx_ixC ?_ ?_; omega; omega) | (simp (disch := first | omega | fail) only [jx_lit, pk_mul, nI_add, nI_pred, pk_sub, jx_na, jx_add0, Nat.reduceMul, Nat.reduceAdd, Nat.reduceSub, Nat.reduceEqDiff, Nat.reduceLeDiff, Nat.reduceLT, jx_cl, nI_leI, Nat.zero_le, true_and, e, hJ36, hJ37, h1, q62, h2, e2]; omega) | fail) only [je_210, jb_210_0, jb_210_6, jb_210_9, jb_210_28, jb_210_42, jb_210_49, jb_210_53, jb_210_62, jx_nl, jx_nlr, jx_thenS, jx_tlS, jx_tlN, jm_ite_go, jx_rds, jx_rdn, jx_lit, pk_mul, nI_add, nI_pred, pk_sub, jx_na, jx_add0, Nat.reduceMul, Nat.reduceAdd, Nat.reduceSub, Nat.reduceEqDiff, Nat.reduceLeDiff, Nat.reduceLT, Nat.not_lt_zero, jx_cl, nI_leI, nI_ltI, nI_eq, jx_neg, jx_neg', jx_negE, jx_negL, jx_negG, jx_negLE, jx_negN, sb_nlt, sb_nle, jx_b0, jx_b1, jx_bT, jx_bF, ite_true, ite_false, if_true, if_false, reduceIte, Bool.false_eq_true, Bool.true_eq_false, eq_self, Nat.one_ne_zero, Nat.add_sub_cancel, not_true_eq_false, not_false_eq_true, e, hJ36, hJ37, h1, q62, h2, e2]
      · have hve : v = I 57 37 := by simp only [v, h1, if_false]
        simp only [K, hve] at e2
        simp (disch := first | assumption | omega | exact jx_bz _ | exact jx_z0 | exact jx_z1 | (refine jx_ixB ?_ ?_; omega; omega) | (simp (disch := first | omega | fail) only [jx_lit, pk_mul, nI_add, nI_pred, pk_sub, jx_na, jx_add0, Nat.reduceMul, Nat.reduceAdd, Nat.reduceSub, Nat.reduceEqDiff, Nat.reduceLeDiff, Nat.reduceLT, e, hJ36, hJ37, h1, q62, e2]; refine jx_ixC ?_ ?_; omega; omega) | (simp (disch := first | omega | fail) only [jx_lit, pk_mul, nI_add, nI_pred, pk_sub, jx_na, jx_add0, Nat.reduceMul, Nat.reduceAdd, Nat.reduceSub, Nat.reduceEqDiff, Nat.reduceLeDiff, Nat.reduceLT, jx_cl, nI_leI, Nat.zero_le, true_and, e, hJ36, hJ37, h1, q62, e2]; omega) | fail) only [je_210, jb_210_0, jb_210_6, jb_210_9, jb_210_28, jb_210_42, jb_210_49, jb_210_53, jb_210_62, jx_nl, jx_nlr, jx_thenS, jx_tlS, jx_tlN, jm_ite_go, jx_rds, jx_rdn, jx_lit, pk_mul, nI_add, nI_pred, pk_sub, jx_na, jx_add0, Nat.reduceMul, Nat.reduceAdd, Nat.reduceSub, Nat.reduceEqDiff, Nat.reduceLeDiff, Nat.reduceLT, Nat.not_lt_zero, jx_cl, nI_leI, nI_ltI, nI_eq, jx_neg, jx_neg', jx_negE, jx_negL, jx_negG, jx_negLE, jx_negN, sb_nlt, sb_nle, jx_b0, jx_b1, jx_bT, jx_bF, ite_true, ite_false, if_true, if_false, reduceIte, Bool.false_eq_true, Bool.true_eq_false, eq_self, Nat.one_ne_zero, Nat.add_sub_cancel, not_true_eq_false, not_false_eq_true, e, hJ36, hJ37, h1, q62, e2]
    · rw [h57]; simp only [K]; rw [jx_rdn (by omega), jx_rds]; rfl
    · rw [h57]; simp only [K]; rw [jx_rds]; rfl
