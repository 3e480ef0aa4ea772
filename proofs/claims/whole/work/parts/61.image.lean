/-! IMAGE -/
def jS_im : Nat → Nat → Bool := fun a k => decide (a = 35 ∨ 37 ≤ a ∧ a < 43 ∨ a = 57 ∧ k = 15 ∨ a = 67 ∨ a = 68)
theorem jS_imZ {a k : Nat} (h : ¬ (a = 35 ∨ 37 ≤ a ∧ a < 43 ∨ a = 57 ∧ k = 15 ∨ a = 67 ∨ a = 68)) : jS_im a k = false := decide_eq_false h
theorem jInv_im {H J : Nat → Nat → Int32} {rho : Nat → Option Nat} {mu : List (Nat × Nat)} {w : jW} {m tc : Nat} {ad kd : Nat → Nat} {cds : Nat → Nat → List Nat} (hI : jInv H rho mu w m tc ad kd cds) (hmu : mu.length < 700000) (g : jG jS_im H J) (h6 : jR6 J w m tc ad) : jInv J rho mu w m tc ad kd cds := by
  obtain ⟨i1, i2, i3, i4, i5, i6, i7, i8⟩ := hI
  have hp : ∀ p, p < m → 80 ≤ ad p := fun p hp => (i2.2.2.2.1 p hp).2.2.1
  exact ⟨jR1_mo i1 g fun a k q => jS_imZ (by omega), jR2_mo i2 g (fun a k q => jS_imZ (by omega)) (by omega), jR3_mo i3 g fun a k q => jS_imZ (by omega), jR4_mo i4 g fun a k q => jS_imZ (by omega), jR5_mo i5 g fun a k q => jS_imZ (by omega), h6, jR7_mo i7 g fun k => jS_imZ (by omega), i8⟩
theorem jx_kep {p : Nat} {rho : Nat → Option Nat} (h : p < 6) : jn_T rho 36 p = some (37 + p) := by
  rcases jm_lt6 h with h | h | h | h | h | h <;> subst h <;> rfl
theorem jx_keK {p : Nat} {mu : List (Nat × Nat)} (h : p < 6) : jm_hasK mu (37 + p) 6 := by
  rcases jm_lt6 h with h | h | h | h | h | h <;> subst h <;> rfl
theorem jf_10 {d p : Nat} {I : Nat → Nat → Int32} {rho : Nat → Option Nat} {mu : List (Nat × Nat)} (hp : p < 6) : jm_ev (d + 1) 10 [.ref 35, .int (nI p)] (jm_hp I rho mu) = some (some (.ref (37 + p)), jm_hp I rho mu) := by
  have h6 : ¬ 6 ≤ p := by omega
  have hb : 0 ≤ nI p ∧ (nI p).toNatClampNeg < 6 := jx_ixB hp (by omega)
  have hT : jn_T rho 36 (nI p).toNatClampNeg = some (37 + p) := by rw [jx_cl (by omega)]; exact jx_kep hp
  have k1 := @jb_10_13 (jm_ev d) I rho mu (nI p) (37 + p) hb hT
  simp (disch := first | assumption | omega | exact jx_bz _ | exact jx_z0 | exact jx_z1 | (refine jx_ixB ?_ ?_; omega; omega) | (simp (disch := first | omega | fail) only [jx_lit, pk_mul, nI_add, nI_pred, pk_sub, jx_na, jx_add0, Nat.reduceMul, Nat.reduceAdd, Nat.reduceSub, Nat.reduceEqDiff, Nat.reduceLeDiff, Nat.reduceLT, h6, k1]; refine jx_ixC ?_ ?_; omega; omega) | (simp (disch := first | omega | fail) only [jx_lit, pk_mul, nI_add, nI_pred, pk_sub, jx_na, jx_add0, Nat.reduceMul, Nat.reduceAdd, Nat.reduceSub, Nat.reduceEqDiff, Nat.reduceLeDiff, Nat.reduceLT, jx_cl, nI_leI, Nat.zero_le, true_and, h6, k1]; omega) | fail) only [je_10, jb_10_0, jb_10_4, jb_10_13, jb_10_22, jb_10_23, jb_10_23_1, jx_nl, jx_nlr, jx_thenS, jx_tlS, jx_tlN, jm_ite_go, jx_rds, jx_rdn, jx_lit, pk_mul, nI_add, nI_pred, pk_sub, jx_na, jx_add0, Nat.reduceMul, Nat.reduceAdd, Nat.reduceSub, Nat.reduceEqDiff, Nat.reduceLeDiff, Nat.reduceLT, Nat.not_lt_zero, jx_cl, nI_leI, nI_ltI, nI_eq, jx_neg, jx_neg', jx_negE, jx_negL, jx_negG, jx_negLE, jx_negN, sb_nlt, sb_nle, jx_b0, jx_b1, jx_bT, jx_bF, ite_true, ite_false, if_true, if_false, reduceIte, Bool.false_eq_true, Bool.true_eq_false, eq_self, Nat.one_ne_zero, Nat.add_sub_cancel, not_true_eq_false, not_false_eq_true, h6, k1]
theorem jq_image : jCall 112 227 [] := by
  intro d H rho mu hV hmu
  obtain ⟨w, m, tc, ad, kd, cds, hI⟩ := id hV
  obtain ⟨h1, h2, h3, -, -, h6, -⟩ := id hI
  have p3 := h2.1
  have p0 := h2.2.2.1
  have pm6 := h2.2.1
  obtain ⟨t2, u7, tn12⟩ := jR1_c h1
  have t4 : H 1 4 = nI (jwy w) := h1.1.2.1
  have u8 : H 57 8 = nI (jwy w) := h1.2.2.1
  have t3 : H 1 3 = nI (jwS w) := h1.1.1.2.2.1
  have t7 : H 1 7 = nI (jwl w) := h1.1.2.2.2.1
  have u14 : H 57 14 = nI (jwl w) := h1.2.2.2.2.1
  have h80 : ∀ p, p < m → 80 ≤ ad p := fun p hp => (h2.2.2.2.1 p hp).2.2.1
  obtain ⟨H0, q0⟩ : ∃ H0, H0 = jm_up (jm_up (jm_up (jm_up (jm_up (jm_up H 35 0 (nI 1)) 35 1 (nI (jwn w))) 35 2 (nI (jwS w))) 35 3 (nI (jwy w))) 35 4 (nI (jwl w))) 35 5 (nI m) := ⟨_, rfl⟩
  have o0 : ∀ a, ¬ a = 35 → H0 a = H a := fun a h => by
    rw [q0]; funext c
    rw [jx_rdn (fun q => h q.1), jx_rdn (fun q => h q.1), jx_rdn (fun q => h q.1), jx_rdn (fun q => h q.1), jx_rdn (fun q => h q.1), jx_rdn (fun q => h q.1)]
  have e0 : jm_ev (d + 60) 112 [.ref 0] (jm_hp H rho mu) = jm_go (jm_ev (d + 59)) 112 (77, [some (.ref 0), some (.int (nI 0)), none, none], [], jm_hp H0 rho mu) := by
    rw [q0]; simp (disch := first | assumption | omega | exact jx_bz _ | exact jx_z0 | exact jx_z1 | (refine jx_ixB ?_ ?_; omega; omega) | (simp (disch := first | omega | fail) only [jx_lit, pk_mul, nI_add, nI_pred, pk_sub, jx_na, jx_add0, Nat.reduceMul, Nat.reduceAdd, Nat.reduceSub, Nat.reduceEqDiff, Nat.reduceLeDiff, Nat.reduceLT, t2, t3, t4, t7, p3]; refine jx_ixC ?_ ?_; omega; omega) | (simp (disch := first | omega | fail) only [jx_lit, pk_mul, nI_add, nI_pred, pk_sub, jx_na, jx_add0, Nat.reduceMul, Nat.reduceAdd, Nat.reduceSub, Nat.reduceEqDiff, Nat.reduceLeDiff, Nat.reduceLT, jx_cl, nI_leI, Nat.zero_le, true_and, t2, t3, t4, t7, p3]; omega) | fail) only [je_112, jb_112_0, jb_112_85, jb_112_90, jb_112_90_1, jb_112_99, jb_112_99_1, jb_112_99_2, jb_112_99_3, jb_112_104, jb_112_104_1, jb_112_108_k0, jb_112_108_k1, jb_112_108_k10, jb_112_108_k2, jb_112_108_k4, jb_112_108_k6, jb_112_113, jb_112_119, jx_nl, jx_nlr, jx_thenS, jx_tlS, jx_tlN, jm_ite_go, jx_rds, jx_rdn, jx_lit, pk_mul, nI_add, nI_pred, pk_sub, jx_na, jx_add0, Nat.reduceMul, Nat.reduceAdd, Nat.reduceSub, Nat.reduceEqDiff, Nat.reduceLeDiff, Nat.reduceLT, Nat.not_lt_zero, jx_cl, nI_leI, nI_ltI, nI_eq, jx_neg, jx_neg', jx_negE, jx_negL, jx_negG, jx_negLE, jx_negN, sb_nlt, sb_nle, jx_b0, jx_b1, jx_bT, jx_bF, ite_true, ite_false, if_true, if_false, reduceIte, Bool.false_eq_true, Bool.true_eq_false, eq_self, Nat.one_ne_zero, Nat.add_sub_cancel, not_true_eq_false, not_false_eq_true, t2, t3, t4, t7, p3]
  obtain ⟨⟨J, l2, l3⟩, e1, gJ, rJ⟩ := jx_for (E := jm_ev (d + 59)) (y := 112) (σ := (Nat → Nat → Int32) × Option Value × Option Value) m (fun k s2 => (77, [some (.ref 0), some (.int (nI k)), s2.2.1, s2.2.2], [], jm_hp s2.1 rho mu)) (fun k s2 => (∀ a, ¬ (37 ≤ a ∧ a < 43) → s2.1 a = H0 a) ∧ ∀ p, p < k → ∀ j, 1 ≤ j → j < 6 → s2.1 (37 + p) j = H (ad p) j) (fun k s2 hk hg => by
    obtain ⟨J, l2, l3⟩ := s2
    dsimp only at hg ⊢
    obtain ⟨g1, g2⟩ := hg
    have hJ3 : J 0 3 = nI m := by rw [g1 0 (by omega), o0 0 (by omega)]; exact p3
    have zn : ¬ m ≤ k := by omega
    have h8k := h80 k hk
    have k128 := jf_128 (d := d + 58) (I := J) (mu := mu) hJ3 pm6 hk (h2.2.2.2.1 k hk).1
    have k10 := @jf_10 (d + 58) k J rho mu (by omega)
    have hK := jx_keK (p := k) (mu := mu) (by omega)
    have hO := jO_is (h2.2.2.2.1 k hk).2.1
    have k20 := jf_20 (d := d + 58) (I := J) (rho := rho) (jx_isOk hK rfl) hO (by omega)
    refine ⟨(jm_up (jm_up (jm_up (jm_up (jm_up J (37 + k) 1 (J (ad k) 1)) (37 + k) 2 (J (ad k) 2)) (37 + k) 3 (J (ad k) 3)) (37 + k) 4 (J (ad k) 4)) (37 + k) 5 (J (ad k) 5), some (.ref (ad k)), some (.ref (37 + k))), ?_, fun a h => ?_, fun p hp j hj1 hj6 => ?_⟩
    · rw [jb_112_77]
      simp (disch := first | assumption | omega | exact jx_bz _ | exact jx_z0 | exact jx_z1 | (refine jx_ixB ?_ ?_; omega; omega) | (simp (disch := first | omega | fail) only [jx_lit, pk_mul, nI_add, nI_pred, pk_sub, jx_na, jx_add0, Nat.reduceMul, Nat.reduceAdd, Nat.reduceSub, Nat.reduceEqDiff, Nat.reduceLeDiff, Nat.reduceLT, hJ3, zn, k128, k10, k20]; refine jx_ixC ?_ ?_; omega; omega) | (simp (disch := first | omega | fail) only [jx_lit, pk_mul, nI_add, nI_pred, pk_sub, jx_na, jx_add0, Nat.reduceMul, Nat.reduceAdd, Nat.reduceSub, Nat.reduceEqDiff, Nat.reduceLeDiff, Nat.reduceLT, jx_cl, nI_leI, Nat.zero_le, true_and, hJ3, zn, k128, k10, k20]; omega) | fail) only [jb_112_0, jb_112_85, jb_112_90, jb_112_90_1, jb_112_99, jb_112_99_1, jb_112_99_2, jb_112_99_3, jb_112_104, jb_112_104_1, jb_112_108_k0, jb_112_108_k1, jb_112_108_k10, jb_112_108_k2, jb_112_108_k4, jb_112_108_k6, jb_112_113, jb_112_119, jx_nl, jx_nlr, jx_thenS, jx_tlS, jx_tlN, jm_ite_go, jx_rds, jx_rdn, jx_lit, pk_mul, nI_add, nI_pred, pk_sub, jx_na, jx_add0, Nat.reduceMul, Nat.reduceAdd, Nat.reduceSub, Nat.reduceEqDiff, Nat.reduceLeDiff, Nat.reduceLT, Nat.not_lt_zero, jx_cl, nI_leI, nI_ltI, nI_eq, jx_neg, jx_neg', jx_negE, jx_negL, jx_negG, jx_negLE, jx_negN, sb_nlt, sb_nle, jx_b0, jx_b1, jx_bT, jx_bF, ite_true, ite_false, if_true, if_false, reduceIte, Bool.false_eq_true, Bool.true_eq_false, eq_self, Nat.one_ne_zero, Nat.add_sub_cancel, not_true_eq_false, not_false_eq_true, hJ3, zn, k128, k10, k20]
    · rw [← g1 a h]; funext c
      dsimp only
      rw [jx_rdn (by omega), jx_rdn (by omega), jx_rdn (by omega), jx_rdn (by omega), jx_rdn (by omega)]
    · by_cases zp : p = k
      · subst zp
        have ea : J (ad p) = H (ad p) := by rw [g1 _ (by omega), o0 _ (by omega)]
        rw [ea]
        rcases (show j = 1 ∨ j = 2 ∨ j = 3 ∨ j = 4 ∨ j = 5 by omega) with z | z | z | z | z <;> subst z <;> simp [jx_rd]
      · have hb := g2 p (by omega) j hj1 hj6
        dsimp only at hb ⊢
        rw [jx_rdn (by omega), jx_rdn (by omega), jx_rdn (by omega), jx_rdn (by omega), jx_rdn (by omega)]; exact hb) m 0 (H0, none, none) (Nat.zero_add _) ⟨fun a _ => rfl, fun p hp => absurd hp (Nat.not_lt_zero _)⟩
  dsimp only at e1 gJ rJ
  have hJ3 : J 0 3 = nI m := by rw [gJ 0 (by omega), o0 0 (by omega)]; exact p3
  have hc : jm_ev (d + 60) 112 [.ref 0] (jm_hp H rho mu) = some (some (.int (nI m)), jm_hp J rho mu) := by
    rw [e0, e1, jb_112_77]
    simp (disch := first | assumption | omega | exact jx_bz _ | exact jx_z0 | exact jx_z1 | (refine jx_ixB ?_ ?_; omega; omega) | (simp (disch := first | omega | fail) only [jx_lit, pk_mul, nI_add, nI_pred, pk_sub, jx_na, jx_add0, Nat.reduceMul, Nat.reduceAdd, Nat.reduceSub, Nat.reduceEqDiff, Nat.reduceLeDiff, Nat.reduceLT, hJ3, Nat.le_refl]; refine jx_ixC ?_ ?_; omega; omega) | (simp (disch := first | omega | fail) only [jx_lit, pk_mul, nI_add, nI_pred, pk_sub, jx_na, jx_add0, Nat.reduceMul, Nat.reduceAdd, Nat.reduceSub, Nat.reduceEqDiff, Nat.reduceLeDiff, Nat.reduceLT, jx_cl, nI_leI, Nat.zero_le, true_and, hJ3, Nat.le_refl]; omega) | fail) only [jb_112_0, jb_112_85, jb_112_90, jb_112_90_1, jb_112_99, jb_112_99_1, jb_112_99_2, jb_112_99_3, jb_112_104, jb_112_104_1, jb_112_108_k0, jb_112_108_k1, jb_112_108_k10, jb_112_108_k2, jb_112_108_k4, jb_112_108_k6, jb_112_113, jb_112_119, jx_nl, jx_nlr, jx_thenS, jx_tlS, jx_tlN, jm_ite_go, jx_rds, jx_rdn, jx_lit, pk_mul, nI_add, nI_pred, pk_sub, jx_na, jx_add0, Nat.reduceMul, Nat.reduceAdd, Nat.reduceSub, Nat.reduceEqDiff, Nat.reduceLeDiff, Nat.reduceLT, Nat.not_lt_zero, jx_cl, nI_leI, nI_ltI, nI_eq, jx_neg, jx_neg', jx_negE, jx_negL, jx_negG, jx_negLE, jx_negN, sb_nlt, sb_nle, jx_b0, jx_b1, jx_bT, jx_bF, ite_true, ite_false, if_true, if_false, reduceIte, Bool.false_eq_true, Bool.true_eq_false, eq_self, Nat.one_ne_zero, Nat.add_sub_cancel, not_true_eq_false, not_false_eq_true, hJ3, Nat.le_refl]
  have ro : ∀ a, 43 ≤ a → J a = H a := fun a h => by rw [gJ a (by omega), o0 a (by omega)]
  obtain ⟨M0, hM0⟩ : ∃ M0, M0 = jm_up J 57 15 (nI 1) := ⟨_, rfl⟩
  have f0 : jm_ev (d + 60) 227 [.ref 57] (jm_hp J rho mu) = jm_go (jm_ev (d + 59)) 227 (7, [some (.ref 57), some (.int (nI 0))], [], jm_hp M0 rho mu) := by
    rw [hM0]; simp (disch := first | assumption | omega | exact jx_bz _ | exact jx_z0 | exact jx_z1 | (refine jx_ixB ?_ ?_; omega; omega) | (simp (disch := first | omega | fail) only [jx_lit, pk_mul, nI_add, nI_pred, pk_sub, jx_na, jx_add0, Nat.reduceMul, Nat.reduceAdd, Nat.reduceSub, Nat.reduceEqDiff, Nat.reduceLeDiff, Nat.reduceLT]; refine jx_ixC ?_ ?_; omega; omega) | (simp (disch := first | omega | fail) only [jx_lit, pk_mul, nI_add, nI_pred, pk_sub, jx_na, jx_add0, Nat.reduceMul, Nat.reduceAdd, Nat.reduceSub, Nat.reduceEqDiff, Nat.reduceLeDiff, Nat.reduceLT, jx_cl, nI_leI, Nat.zero_le, true_and]; omega) | fail) only [je_227, jb_227_0, jb_227_13, jb_227_31, jb_227_39, jb_227_90, jx_nl, jx_nlr, jx_thenS, jx_tlS, jx_tlN, jm_ite_go, jx_rds, jx_rdn, jx_lit, pk_mul, nI_add, nI_pred, pk_sub, jx_na, jx_add0, Nat.reduceMul, Nat.reduceAdd, Nat.reduceSub, Nat.reduceEqDiff, Nat.reduceLeDiff, Nat.reduceLT, Nat.not_lt_zero, jx_cl, nI_leI, nI_ltI, nI_eq, jx_neg, jx_neg', jx_negE, jx_negL, jx_negG, jx_negLE, jx_negN, sb_nlt, sb_nle, jx_b0, jx_b1, jx_bT, jx_bF, ite_true, ite_false, if_true, if_false, reduceIte, Bool.false_eq_true, Bool.true_eq_false, eq_self, Nat.one_ne_zero, Nat.add_sub_cancel, not_true_eq_false, not_false_eq_true]
  obtain ⟨M1, f1, a1, a2⟩ := jx_for (E := jm_ev (d + 59)) (y := 227) 24 (fun k K => (7, [some (.ref 57), some (.int (nI k))], [], jm_hp K rho mu)) (fun k K => (∀ a, ¬ a = 67 → K a = M0 a) ∧ ∀ j, j < k → K 67 j = H 60 j) (fun k K hk hg => by
    obtain ⟨g1, g2⟩ := hg
    have zn : ¬ 24 ≤ k := by omega
    have K60 : K 60 k = H 60 k := by rw [g1 60 (by omega), hM0, jx_rdn (by omega), ro 60 (by omega)]
    have z60 : k < 60 := by omega
    refine ⟨jm_up K 67 k (H 60 k), ?_, fun a h => ?_, fun j hj => ?_⟩
    · rw [jb_227_7]
      simp (disch := first | assumption | omega | exact jx_bz _ | exact jx_z0 | exact jx_z1 | (refine jx_ixB ?_ ?_; omega; omega) | (simp (disch := first | omega | fail) only [jx_lit, pk_mul, nI_add, nI_pred, pk_sub, jx_na, jx_add0, Nat.reduceMul, Nat.reduceAdd, Nat.reduceSub, Nat.reduceEqDiff, Nat.reduceLeDiff, Nat.reduceLT, zn, K60]; refine jx_ixC ?_ ?_; omega; omega) | (simp (disch := first | omega | fail) only [jx_lit, pk_mul, nI_add, nI_pred, pk_sub, jx_na, jx_add0, Nat.reduceMul, Nat.reduceAdd, Nat.reduceSub, Nat.reduceEqDiff, Nat.reduceLeDiff, Nat.reduceLT, jx_cl, nI_leI, Nat.zero_le, true_and, zn, K60]; omega) | fail) only [jb_227_0, jb_227_13, jb_227_31, jb_227_39, jb_227_90, jx_nl, jx_nlr, jx_thenS, jx_tlS, jx_tlN, jm_ite_go, jx_rds, jx_rdn, jx_lit, pk_mul, nI_add, nI_pred, pk_sub, jx_na, jx_add0, Nat.reduceMul, Nat.reduceAdd, Nat.reduceSub, Nat.reduceEqDiff, Nat.reduceLeDiff, Nat.reduceLT, Nat.not_lt_zero, jx_cl, nI_leI, nI_ltI, nI_eq, jx_neg, jx_neg', jx_negE, jx_negL, jx_negG, jx_negLE, jx_negN, sb_nlt, sb_nle, jx_b0, jx_b1, jx_bT, jx_bF, ite_true, ite_false, if_true, if_false, reduceIte, Bool.false_eq_true, Bool.true_eq_false, eq_self, Nat.one_ne_zero, Nat.add_sub_cancel, not_true_eq_false, not_false_eq_true, zn, K60]
    · rw [← g1 a h]; exact funext fun c => jx_rdn fun q => h q.1
    · by_cases zj : j = k
      · subst zj; rw [jx_rds]
      · rw [jx_rdn fun q => zj q.2]; exact g2 j (by omega)) 24 0 M0 (Nat.zero_add _) ⟨fun a _ => rfl, fun j hj => absurd hj (Nat.not_lt_zero _)⟩
  have f2 : jm_go (jm_ev (d + 59)) 227 (7, [some (.ref 57), some (.int (nI 24))], [], jm_hp M1 rho mu) = jm_go (jm_ev (d + 59)) 227 (33, [some (.ref 57), some (.int (nI 0))], [], jm_hp M1 rho mu) := by
    rw [jb_227_7]
    simp (disch := first | assumption | omega | exact jx_bz _ | exact jx_z0 | exact jx_z1 | (refine jx_ixB ?_ ?_; omega; omega) | (simp (disch := first | omega | fail) only [jx_lit, pk_mul, nI_add, nI_pred, pk_sub, jx_na, jx_add0, Nat.reduceMul, Nat.reduceAdd, Nat.reduceSub, Nat.reduceEqDiff, Nat.reduceLeDiff, Nat.reduceLT, Nat.le_refl]; refine jx_ixC ?_ ?_; omega; omega) | (simp (disch := first | omega | fail) only [jx_lit, pk_mul, nI_add, nI_pred, pk_sub, jx_na, jx_add0, Nat.reduceMul, Nat.reduceAdd, Nat.reduceSub, Nat.reduceEqDiff, Nat.reduceLeDiff, Nat.reduceLT, jx_cl, nI_leI, Nat.zero_le, true_and, Nat.le_refl]; omega) | fail) only [jb_227_0, jb_227_13, jb_227_31, jb_227_39, jb_227_90, jx_nl, jx_nlr, jx_thenS, jx_tlS, jx_tlN, jm_ite_go, jx_rds, jx_rdn, jx_lit, pk_mul, nI_add, nI_pred, pk_sub, jx_na, jx_add0, Nat.reduceMul, Nat.reduceAdd, Nat.reduceSub, Nat.reduceEqDiff, Nat.reduceLeDiff, Nat.reduceLT, Nat.not_lt_zero, jx_cl, nI_leI, nI_ltI, nI_eq, jx_neg, jx_neg', jx_negE, jx_negL, jx_negG, jx_negLE, jx_negN, sb_nlt, sb_nle, jx_b0, jx_b1, jx_bT, jx_bF, ite_true, ite_false, if_true, if_false, reduceIte, Bool.false_eq_true, Bool.true_eq_false, eq_self, Nat.one_ne_zero, Nat.add_sub_cancel, not_true_eq_false, not_false_eq_true, Nat.le_refl]
  obtain ⟨M2, f3, b1, b2, b3⟩ := jx_for (E := jm_ev (d + 59)) (y := 227) 12 (fun k K => (33, [some (.ref 57), some (.int (nI k))], [], jm_hp K rho mu)) (fun k K => (∀ a, ¬ a = 67 → K a = M1 a) ∧ (∀ j, j < 24 → K 67 j = M1 67 j) ∧ ∀ j, j < k → K 67 (24 + j) = H 61 j ∧ K 67 (36 + j) = H 62 j ∧ K 67 (48 + j) = H 63 j) (fun k K hk hg => by
    obtain ⟨g1, g2, g3⟩ := hg
    have zn : ¬ 12 ≤ k := by omega
    have kr : ∀ a, 58 ≤ a → ¬ a = 67 → K a = H a := fun a h h2 => by rw [g1 a h2, a1 a h2, hM0, ← ro a (by omega)]; exact funext fun c => jx_rdn (by omega)
    have K61 : K 61 k = H 61 k := by rw [kr 61 (by omega) (by omega)]
    have K62 : K 62 k = H 62 k := by rw [kr 62 (by omega) (by omega)]
    have K63 : K 63 k = H 63 k := by rw [kr 63 (by omega) (by omega)]
    have z1 : 24 + k < 60 := by omega
    have z2 : 36 + k < 60 := by omega
    have z3 : 48 + k < 60 := by omega
    refine ⟨jm_up (jm_up (jm_up K 67 (24 + k) (H 61 k)) 67 (36 + k) (H 62 k)) 67 (48 + k) (H 63 k), ?_, fun a h => ?_, fun j hj => ?_, fun j hj => ?_⟩
    · rw [jb_227_33]
      simp (disch := first | assumption | omega | exact jx_bz _ | exact jx_z0 | exact jx_z1 | (refine jx_ixB ?_ ?_; omega; omega) | (simp (disch := first | omega | fail) only [jx_lit, pk_mul, nI_add, nI_pred, pk_sub, jx_na, jx_add0, Nat.reduceMul, Nat.reduceAdd, Nat.reduceSub, Nat.reduceEqDiff, Nat.reduceLeDiff, Nat.reduceLT, zn, K61, K62, K63]; refine jx_ixC ?_ ?_; omega; omega) | (simp (disch := first | omega | fail) only [jx_lit, pk_mul, nI_add, nI_pred, pk_sub, jx_na, jx_add0, Nat.reduceMul, Nat.reduceAdd, Nat.reduceSub, Nat.reduceEqDiff, Nat.reduceLeDiff, Nat.reduceLT, jx_cl, nI_leI, Nat.zero_le, true_and, zn, K61, K62, K63]; omega) | fail) only [jb_227_0, jb_227_13, jb_227_31, jb_227_39, jb_227_90, jx_nl, jx_nlr, jx_thenS, jx_tlS, jx_tlN, jm_ite_go, jx_rds, jx_rdn, jx_lit, pk_mul, nI_add, nI_pred, pk_sub, jx_na, jx_add0, Nat.reduceMul, Nat.reduceAdd, Nat.reduceSub, Nat.reduceEqDiff, Nat.reduceLeDiff, Nat.reduceLT, Nat.not_lt_zero, jx_cl, nI_leI, nI_ltI, nI_eq, jx_neg, jx_neg', jx_negE, jx_negL, jx_negG, jx_negLE, jx_negN, sb_nlt, sb_nle, jx_b0, jx_b1, jx_bT, jx_bF, ite_true, ite_false, if_true, if_false, reduceIte, Bool.false_eq_true, Bool.true_eq_false, eq_self, Nat.one_ne_zero, Nat.add_sub_cancel, not_true_eq_false, not_false_eq_true, zn, K61, K62, K63]
    · rw [← g1 a h]; exact funext fun c => by rw [jx_rdn (fun q => h q.1), jx_rdn (fun q => h q.1), jx_rdn (fun q => h q.1)]
    · rw [jx_rdn (by omega), jx_rdn (by omega), jx_rdn (by omega)]; exact g2 j hj
    · by_cases zj : j = k
      · subst zj
        refine ⟨?_, ?_, ?_⟩
        · rw [jx_rdn (by omega), jx_rdn (by omega), jx_rds]
        · rw [jx_rdn (by omega), jx_rds]
        · rw [jx_rds]
      · obtain ⟨y1, y2, y3⟩ := g3 j (by omega)
        refine ⟨?_, ?_, ?_⟩
        · rw [jx_rdn (by omega), jx_rdn (by omega), jx_rdn (by omega)]; exact y1
        · rw [jx_rdn (by omega), jx_rdn (by omega), jx_rdn (by omega)]; exact y2
        · rw [jx_rdn (by omega), jx_rdn (by omega), jx_rdn (by omega)]; exact y3) 12 0 M1 (Nat.zero_add _) ⟨fun a _ => rfl, fun j _ => rfl, fun j hj => absurd hj (Nat.not_lt_zero _)⟩
  have w57 : ∀ c, ¬ c = 15 → M2 57 c = H 57 c := fun c hc => by rw [b1 57 (by omega), a1 57 (by omega), hM0, jx_rdn (by omega), ro 57 (by omega)]
  have v0 : M2 57 0 = nI m := by rw [w57 0 (by omega)]; exact p0
  have v7 : M2 57 7 = nI (jwn w) := by rw [w57 7 (by omega)]; exact u7
  have v8 : M2 57 8 = nI (jwy w) := by rw [w57 8 (by omega)]; exact u8
  have v14 : M2 57 14 = nI (jwl w) := by rw [w57 14 (by omega)]; exact u14
  obtain ⟨M, hM⟩ : ∃ M, M = jm_up (jm_up (jm_up (jm_up M2 68 0 (nI m)) 68 1 (nI (jwn w))) 68 2 (nI (jwy w))) 68 3 (nI (jwl w)) := ⟨_, rfl⟩
  have hm : jm_ev (d + 60) 227 [.ref 57] (jm_hp J rho mu) = some (some (.int (nI m)), jm_hp M rho mu) := by
    rw [f0, f1, f2, f3, jb_227_33, hM]
    simp (disch := first | assumption | omega | exact jx_bz _ | exact jx_z0 | exact jx_z1 | (refine jx_ixB ?_ ?_; omega; omega) | (simp (disch := first | omega | fail) only [jx_lit, pk_mul, nI_add, nI_pred, pk_sub, jx_na, jx_add0, Nat.reduceMul, Nat.reduceAdd, Nat.reduceSub, Nat.reduceEqDiff, Nat.reduceLeDiff, Nat.reduceLT, Nat.le_refl, v0, v7, v8, v14]; refine jx_ixC ?_ ?_; omega; omega) | (simp (disch := first | omega | fail) only [jx_lit, pk_mul, nI_add, nI_pred, pk_sub, jx_na, jx_add0, Nat.reduceMul, Nat.reduceAdd, Nat.reduceSub, Nat.reduceEqDiff, Nat.reduceLeDiff, Nat.reduceLT, jx_cl, nI_leI, Nat.zero_le, true_and, Nat.le_refl, v0, v7, v8, v14]; omega) | fail) only [jb_227_0, jb_227_13, jb_227_31, jb_227_39, jb_227_90, jx_nl, jx_nlr, jx_thenS, jx_tlS, jx_tlN, jm_ite_go, jx_rds, jx_rdn, jx_lit, pk_mul, nI_add, nI_pred, pk_sub, jx_na, jx_add0, Nat.reduceMul, Nat.reduceAdd, Nat.reduceSub, Nat.reduceEqDiff, Nat.reduceLeDiff, Nat.reduceLT, Nat.not_lt_zero, jx_cl, nI_leI, nI_ltI, nI_eq, jx_neg, jx_neg', jx_negE, jx_negL, jx_negG, jx_negLE, jx_negN, sb_nlt, sb_nle, jx_b0, jx_b1, jx_bT, jx_bF, ite_true, ite_false, if_true, if_false, reduceIte, Bool.false_eq_true, Bool.true_eq_false, eq_self, Nat.one_ne_zero, Nat.add_sub_cancel, not_true_eq_false, not_false_eq_true, Nat.le_refl, v0, v7, v8, v14]
  have mo : ∀ a, ¬ a = 68 → M a = M2 a := fun a h => by rw [hM]; exact funext fun c => by rw [jx_rdn (fun q => h q.1), jx_rdn (fun q => h q.1), jx_rdn (fun q => h q.1), jx_rdn (fun q => h q.1)]
  have mr : ∀ a c, ¬ a = 67 → ¬ a = 68 → ¬ (a = 57 ∧ c = 15) → M a c = J a c := fun a c z1 z2 z3 => by rw [mo a z2, b1 a z1, a1 a z1, hM0, jx_rdn z3]
  have g : jG jS_im H M := fun a c zz => by
    have zz := of_decide_eq_false zz
    rw [mr a c (by omega) (by omega) (by omega), gJ a (by omega), o0 a (by omega)]
  have M67 : ∀ j, M 67 j = M2 67 j := fun j => by rw [mo 67 (by omega)]
  have M35 : ∀ j, M 35 j = H0 35 j := fun j => by rw [mr 35 j (by omega) (by omega) (by omega), gJ 35 (by omega)]
  have M37 : ∀ p, p < m → ∀ j, 1 ≤ j → j < 6 → M (37 + p) j = H (ad p) j := fun p hp j z1 z2 => by rw [mr _ j (by omega) (by omega) (by omega)]; exact rJ p hp j z1 z2
  refine ⟨.int (nI m), J, M, rho, mu, hc, hm, ⟨_, _, _, _, _, _, jInv_im hI hmu g ⟨?_, .inr ⟨?_, jwn w, jwS w, jwy w, jwl w, m, Nat.le_refl _, h1.1.1.2.2.2.1, h1.1.2.2.1, h3.2.2.2.1, Nat.le_refl _, ?_, ?_, ?_, ?_, ?_, ?_, ?_, ?_, ?_, fun k hk => ?_, fun p hp => ?_⟩⟩⟩, by omega, fun a ha => jG_o g fun c => jS_imZ (by omega)⟩
  · rw [M35, mo 57 (by omega), b1 57 (by omega), a1 57 (by omega), hM0, jx_rds, q0]; simp [jx_rd]
  · rw [M35, q0]; simp [jx_rd]
  · rw [M35, q0]; simp [jx_rd]
  · rw [M35, q0]; simp [jx_rd]
  · rw [M35, q0]; simp [jx_rd]
  · rw [M35, q0]; simp [jx_rd]
  · rw [M35, q0]; simp [jx_rd]
  · rw [hM]; simp [jx_rd]
  · rw [hM]; simp [jx_rd]
  · rw [hM]; simp [jx_rd]
  · rw [hM]; simp [jx_rd]
  · obtain ⟨y1, y2, y3⟩ := b3 k (by omega)
    rw [M67, M67, M67, y1, y2, y3]
    have := h1.2.1.2.2.2 k hk
    exact ⟨this.1, this.2.2.1, this.2.2.2.2.2⟩
  · have e := M37 p hp
    obtain ⟨z1, z2, z3, z4, z5, z6, z7⟩ := h2.2.2.2.1 p hp
    have c67 : ∀ j, j < 4 → M 67 (4 * p + j) = H 60 (4 * p + j) := fun j hj => by rw [M67, b2 _ (by omega), a2 _ (by omega)]
    have ha : M (ad p) 1 = H (ad p) 1 := by rw [g _ _ (jS_imZ (by omega))]
    rw [e 1 (by omega) (by omega), e 2 (by omega) (by omega), e 3 (by omega) (by omega), e 4 (by omega) (by omega), e 5 (by omega) (by omega), ha]
    refine ⟨jPv_e (Q := H (ad p)) (fun j y1 y2 => e j y1 y2) z6, rfl, ?_, ?_, ?_, ?_⟩
    · have := c67 0 (by omega)
      rw [Nat.add_zero] at this
      rw [this]; exact z7.2.2.1
    · rw [c67 1 (by omega)]; exact z7.2.2.2.1
    · rw [c67 2 (by omega)]; exact z7.2.2.2.2.1
    · rw [c67 3 (by omega)]; exact z7.2.2.2.2.2
