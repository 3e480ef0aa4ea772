/-! CALLS THAT CHANGE THE TOWN: dawn, brick -/
def jS_2 (a1 k1 a2 k2 : Nat) : Nat → Nat → Bool := fun a k => decide ((a = a1 ∧ k = k1) ∨ (a = a2 ∧ k = k2))
theorem jS_2Y {a1 k1 a2 k2 a k : Nat} (h : (a = a1 ∧ k = k1) ∨ (a = a2 ∧ k = k2)) : jS_2 a1 k1 a2 k2 a k = true := decide_eq_true h
theorem jS_2Z {a1 k1 a2 k2 a k : Nat} (h : ¬ ((a = a1 ∧ k = k1) ∨ (a = a2 ∧ k = k2))) : jS_2 a1 k1 a2 k2 a k = false := decide_eq_false h
/-- nothing changed -/
theorem jCall_no {d yc ym : Nat} {args : List Value} {v : Value} {H : Nat → Nat → Int32} {rho : Nat → Option Nat} {mu : List (Nat × Nat)} (hV : jV H rho mu) (e1 : jm_ev (d + 60) yc (.ref 0 :: args) (jm_hp H rho mu) = some (some v, jm_hp H rho mu)) (e2 : jm_ev (d + 60) ym (.ref 57 :: args) (jm_hp H rho mu) = some (some v, jm_hp H rho mu)) :
    ∃ v H1 H2 rho2 mu2, jm_ev (d + 60) yc (.ref 0 :: args) (jm_hp H rho mu) = some (some v, jm_hp H1 rho2 mu2) ∧ jm_ev (d + 60) ym (.ref 57 :: args) (jm_hp H1 rho2 mu2) = some (some v, jm_hp H2 rho2 mu2) ∧ jV H2 rho2 mu2 ∧ mu2.length ≤ mu.length + 6 ∧ ∀ a, 900000 ≤ a → H2 a = H a :=
  ⟨v, H, H, rho, mu, e1, e2, hV, by omega, fun _ _ => rfl⟩
theorem jCt_re {H J : Nat → Nat → Int32} {w : jW} {S y : Nat} (h : jCt H w) (g : ∀ a k, jS_tw a = true → ¬ (a = 1 ∧ (k = 3 ∨ k = 4)) → J a k = H a k) (h3 : J 1 3 = nI S) (hS : S < 2 ^ jwn w) (h4 : J 1 4 = nI y) (hy : y < 1000) : jCt J (jwn w, jwa w, jwb w, S, y, jwl w, jwc w) := by
  have u2 : ∀ a, jS_tw a = true → a ≠ 1 → J a = H a := fun a h1 h2 => funext fun c => g a c h1 (fun q => h2 q.1)
  obtain ⟨⟨a1, a2, a3, a4, a5⟩, b1, b2, b3, b4, b5, b6⟩ := h
  refine ⟨⟨?_, a2, h3, hS, ?_⟩, h4, hy, ?_, b4, b5, ?_⟩
  · exact (g 1 2 rfl (by omega)).trans a1
  · rw [u2 2 rfl (by omega), u2 3 rfl (by omega)]; exact a5
  · exact (g 1 7 rfl (by omega)).trans b3
  · intro q hq
    have k1 : J (8 + 4 * jwl w) = H (8 + 4 * jwl w) := by
      apply u2 _ _ (by omega)
      rcases jm_lt6 b4 with h | h | h | h | h | h <;> rw [h] <;> rfl
    have k2 : J (7 + 4 * jwl w) = H (7 + 4 * jwl w) := by
      apply u2 _ _ (by omega)
      rcases jm_lt6 b4 with h | h | h | h | h | h <;> rw [h] <;> rfl
    show J (8 + 4 * jwl w) q = _ ∧ ∀ j, _ → J (7 + 4 * jwl w) _ = _
    rw [k1, k2]; exact b6 q hq
theorem jMt_re {H J : Nat → Nat → Int32} {w : jW} {S y : Nat} (h : jMt H w) (g : ∀ a k, (61 ≤ a ∧ a < 67 ∧ ¬ a = 63 ∨ a = 57 ∧ (k = 7 ∨ k = 14)) → J a k = H a k) (h63 : ∀ k, k < jwn w → J 63 k = jx_b (S.testBit k)) (hS : S < 2 ^ jwn w) (h8 : J 57 8 = nI y) (hy : y < 1000) : jMt J (jwn w, jwa w, jwb w, S, y, jwl w, jwc w) := by
  have u2 : ∀ a, 61 ≤ a → a < 67 → ¬ a = 63 → J a = H a := fun a h1 h2 h3 => funext fun c => g a c (.inl ⟨h1, h2, h3⟩)
  obtain ⟨⟨a1, a2, a3, a4⟩, b1, b2, b3, b4, b5, b6⟩ := h
  refine ⟨⟨?_, a2, hS, fun j hj => ?_⟩, h8, hy, ?_, b4, b5, ?_⟩
  · rw [g 57 7 (by omega)]; exact a1
  · obtain ⟨c1, c2, c3, c4, c5, c6⟩ := a4 j hj
    exact ⟨by rw [u2 61 (by omega) (by omega) (by omega)]; exact c1, c2, by rw [u2 62 (by omega) (by omega) (by omega)]; exact c3, c4, c5, h63 j hj⟩
  · rw [g 57 14 (by omega)]; exact b3
  · unfold jXm; rw [u2 65 (by omega) (by omega) (by omega), u2 66 (by omega) (by omega) (by omega)]; exact b6
/-- the town's day and bricks otherwise, all else as it was -/
theorem jInv_re {H J : Nat → Nat → Int32} {rho : Nat → Option Nat} {mu : List (Nat × Nat)} {w : jW} {m tc : Nat} {ad kd : Nat → Nat} {cds : Nat → Nat → List Nat} {S y k1 a2 k2 : Nat} (hI : jInv H rho mu w m tc ad kd cds) (hmu : mu.length < 700000) (g : jG (jS_2 1 k1 a2 k2) H J) (hk1 : k1 = 3 ∨ k1 = 4) (ha2 : a2 = 63 ∨ a2 = 57 ∧ k2 = 8)
    (h3 : J 1 3 = nI S) (hS : S < 2 ^ jwn w) (h4 : J 1 4 = nI y) (hy : y < 1000) (h63 : ∀ k, k < jwn w → J 63 k = jx_b (S.testBit k)) (h8 : J 57 8 = nI y) : jInv J rho mu (jwn w, jwa w, jwb w, S, y, jwl w, jwc w) m tc ad kd cds := by
  obtain ⟨h1, h2, h5, h6, h7, h9, h10, h11⟩ := hI
  have hp : ∀ p, p < m → 80 ≤ ad p := fun p hp => (h2.2.2.2.1 p hp).2.2.1
  refine ⟨⟨jCt_re h1.1 (fun a k q1 q2 => g a k (jS_2Z ?_)) h3 hS h4 hy, jMt_re h1.2 (fun a k q => g a k (jS_2Z (by omega))) h63 hS h8 hy⟩, jR2_mo h2 g (fun a k q => jS_2Z (by omega)) (by omega), jR3_mo h5 g (fun a k q => jS_2Z (by omega)), jR4_mo h6 g (fun a k q => jS_2Z (by omega)), jR5_mo h7 g (fun a k q => jS_2Z (by omega)), jR6_mo h9 g (fun a k q => jS_2Z (by omega)) h2.2.1 (fun p q => jS_2Z (by have := hp p q; omega)), jR7_mo h10 g (fun k => jS_2Z (by omega)), h11⟩
  simp only [jS_tw, Bool.or_eq_true, beq_iff_eq] at q1; omega
theorem jq_dawn (x : Int32) : jCall 79 150 [.int x] := by
  intro d H rho mu hV hmu
  obtain ⟨w, m, tc, ad, kd, cds, hI⟩ := id hV
  have h1 := hI.1
  have t4 : H 1 4 = nI (jwy w) := h1.1.2.1
  have u8 : H 57 8 = nI (jwy w) := h1.2.2.1
  have t3 : H 1 3 = nI (jwS w) := h1.1.1.2.2.1
  rcases jx_rng x 999 (by decide) with ⟨-, hx, ka⟩ | ⟨k, hk, rfl, ka⟩
  · have ka := ka (d + 58) H rho mu
    refine jCall_no (v := .int (-nI 2)) hV ?_ (by simp (disch := first | assumption | omega | exact jx_bz _ | exact jx_z0 | exact jx_z1 | (refine jx_ixB ?_ ?_; omega; omega) | (simp (disch := first | omega | fail) only [jx_lit, pk_mul, nI_add, nI_pred, pk_sub, jx_na, jx_add0, Nat.reduceMul, Nat.reduceAdd, Nat.reduceSub, Nat.reduceEqDiff, Nat.reduceLeDiff, Nat.reduceLT, ka]; refine jx_ixC ?_ ?_; omega; omega) | (simp (disch := first | omega | fail) only [jx_lit, pk_mul, nI_add, nI_pred, pk_sub, jx_na, jx_add0, Nat.reduceMul, Nat.reduceAdd, Nat.reduceSub, Nat.reduceEqDiff, Nat.reduceLeDiff, Nat.reduceLT, jx_cl, nI_leI, Nat.zero_le, true_and, ka]; omega) | fail) only [je_150, jb_150_0, jb_150_8, jb_150_11, jb_150_14, jx_nl, jx_nlr, jx_thenS, jx_tlS, jx_tlN, jm_ite_go, jx_rds, jx_rdn, jx_lit, pk_mul, nI_add, nI_pred, pk_sub, jx_na, jx_add0, Nat.reduceMul, Nat.reduceAdd, Nat.reduceSub, Nat.reduceEqDiff, Nat.reduceLeDiff, Nat.reduceLT, Nat.not_lt_zero, jx_cl, nI_leI, nI_ltI, nI_eq, jx_neg, jx_neg', jx_negE, jx_negL, jx_negG, jx_negLE, jx_negN, sb_nlt, sb_nle, jx_b0, jx_b1, jx_bT, jx_bF, ite_true, ite_false, if_true, if_false, reduceIte, Bool.false_eq_true, Bool.true_eq_false, eq_self, Nat.one_ne_zero, Nat.add_sub_cancel, not_true_eq_false, not_false_eq_true, ka])
    rcases hx with hx | ⟨hx, hx2⟩
    · simp (disch := first | assumption | omega | exact jx_bz _ | exact jx_z0 | exact jx_z1 | (refine jx_ixB ?_ ?_; omega; omega) | (simp (disch := first | omega | fail) only [jx_lit, pk_mul, nI_add, nI_pred, pk_sub, jx_na, jx_add0, Nat.reduceMul, Nat.reduceAdd, Nat.reduceSub, Nat.reduceEqDiff, Nat.reduceLeDiff, Nat.reduceLT, hx]; refine jx_ixC ?_ ?_; omega; omega) | (simp (disch := first | omega | fail) only [jx_lit, pk_mul, nI_add, nI_pred, pk_sub, jx_na, jx_add0, Nat.reduceMul, Nat.reduceAdd, Nat.reduceSub, Nat.reduceEqDiff, Nat.reduceLeDiff, Nat.reduceLT, jx_cl, nI_leI, Nat.zero_le, true_and, hx]; omega) | fail) only [je_79, jb_79_0, jb_79_4, jb_79_11, jb_79_14, jx_nl, jx_nlr, jx_thenS, jx_tlS, jx_tlN, jm_ite_go, jx_rds, jx_rdn, jx_lit, pk_mul, nI_add, nI_pred, pk_sub, jx_na, jx_add0, Nat.reduceMul, Nat.reduceAdd, Nat.reduceSub, Nat.reduceEqDiff, Nat.reduceLeDiff, Nat.reduceLT, Nat.not_lt_zero, jx_cl, nI_leI, nI_ltI, nI_eq, jx_neg, jx_neg', jx_negE, jx_negL, jx_negG, jx_negLE, jx_negN, sb_nlt, sb_nle, jx_b0, jx_b1, jx_bT, jx_bF, ite_true, ite_false, if_true, if_false, reduceIte, Bool.false_eq_true, Bool.true_eq_false, eq_self, Nat.one_ne_zero, Nat.add_sub_cancel, not_true_eq_false, not_false_eq_true, hx]
    · have hx3 : ¬ x ≤ nI 999 := by
        have := jx_gt hx2 (by omega)
        rw [jx_lt] at this; rw [jx_le]; omega
      simp (disch := first | assumption | omega | exact jx_bz _ | exact jx_z0 | exact jx_z1 | (refine jx_ixB ?_ ?_; omega; omega) | (simp (disch := first | omega | fail) only [jx_lit, pk_mul, nI_add, nI_pred, pk_sub, jx_na, jx_add0, Nat.reduceMul, Nat.reduceAdd, Nat.reduceSub, Nat.reduceEqDiff, Nat.reduceLeDiff, Nat.reduceLT, hx, hx3]; refine jx_ixC ?_ ?_; omega; omega) | (simp (disch := first | omega | fail) only [jx_lit, pk_mul, nI_add, nI_pred, pk_sub, jx_na, jx_add0, Nat.reduceMul, Nat.reduceAdd, Nat.reduceSub, Nat.reduceEqDiff, Nat.reduceLeDiff, Nat.reduceLT, jx_cl, nI_leI, Nat.zero_le, true_and, hx, hx3]; omega) | fail) only [je_79, jb_79_0, jb_79_4, jb_79_11, jb_79_14, jx_nl, jx_nlr, jx_thenS, jx_tlS, jx_tlN, jm_ite_go, jx_rds, jx_rdn, jx_lit, pk_mul, nI_add, nI_pred, pk_sub, jx_na, jx_add0, Nat.reduceMul, Nat.reduceAdd, Nat.reduceSub, Nat.reduceEqDiff, Nat.reduceLeDiff, Nat.reduceLT, Nat.not_lt_zero, jx_cl, nI_leI, nI_ltI, nI_eq, jx_neg, jx_neg', jx_negE, jx_negL, jx_negG, jx_negLE, jx_negN, sb_nlt, sb_nle, jx_b0, jx_b1, jx_bT, jx_bF, ite_true, ite_false, if_true, if_false, reduceIte, Bool.false_eq_true, Bool.true_eq_false, eq_self, Nat.one_ne_zero, Nat.add_sub_cancel, not_true_eq_false, not_false_eq_true, hx, hx3]
  · have hk2 : k ≤ 999 := by omega
    obtain ⟨H1, e1⟩ : ∃ H1, H1 = jm_up H 1 4 (nI k) := ⟨_, rfl⟩
    obtain ⟨H2, e2⟩ : ∃ H2, H2 = jm_up H1 57 8 (nI k) := ⟨_, rfl⟩
    have g : jG (jS_2 1 4 57 8) H H2 := by rw [e2, e1]; exact jG_up (jG_up jG_rf (jS_2Y (by omega))) (jS_2Y (by omega))
    have u8' : H1 57 8 = nI (jwy w) := by rw [e1, jx_rdn (by omega)]; exact u8
    have ka := ka (d + 58) H1 rho mu
    refine ⟨.int (nI (jwy w)), H1, H2, rho, mu, ?_, ?_, ⟨_, _, _, _, _, _, jInv_re (S := jwS w) (y := k) hI hmu g (by omega) (by omega) ?_ h1.1.1.2.2.2.1 ?_ (by omega) ?_ ?_⟩, by omega, fun a ha => ?_⟩
    · rw [e1]; simp (disch := first | assumption | omega | exact jx_bz _ | exact jx_z0 | exact jx_z1 | (refine jx_ixB ?_ ?_; omega; omega) | (simp (disch := first | omega | fail) only [jx_lit, pk_mul, nI_add, nI_pred, pk_sub, jx_na, jx_add0, Nat.reduceMul, Nat.reduceAdd, Nat.reduceSub, Nat.reduceEqDiff, Nat.reduceLeDiff, Nat.reduceLT, hk2, t4]; refine jx_ixC ?_ ?_; omega; omega) | (simp (disch := first | omega | fail) only [jx_lit, pk_mul, nI_add, nI_pred, pk_sub, jx_na, jx_add0, Nat.reduceMul, Nat.reduceAdd, Nat.reduceSub, Nat.reduceEqDiff, Nat.reduceLeDiff, Nat.reduceLT, jx_cl, nI_leI, Nat.zero_le, true_and, hk2, t4]; omega) | fail) only [je_79, jb_79_0, jb_79_4, jb_79_11, jb_79_14, jx_nl, jx_nlr, jx_thenS, jx_tlS, jx_tlN, jm_ite_go, jx_rds, jx_rdn, jx_lit, pk_mul, nI_add, nI_pred, pk_sub, jx_na, jx_add0, Nat.reduceMul, Nat.reduceAdd, Nat.reduceSub, Nat.reduceEqDiff, Nat.reduceLeDiff, Nat.reduceLT, Nat.not_lt_zero, jx_cl, nI_leI, nI_ltI, nI_eq, jx_neg, jx_neg', jx_negE, jx_negL, jx_negG, jx_negLE, jx_negN, sb_nlt, sb_nle, jx_b0, jx_b1, jx_bT, jx_bF, ite_true, ite_false, if_true, if_false, reduceIte, Bool.false_eq_true, Bool.true_eq_false, eq_self, Nat.one_ne_zero, Nat.add_sub_cancel, not_true_eq_false, not_false_eq_true, hk2, t4]
    · rw [e2]; simp (disch := first | assumption | omega | exact jx_bz _ | exact jx_z0 | exact jx_z1 | (refine jx_ixB ?_ ?_; omega; omega) | (simp (disch := first | omega | fail) only [jx_lit, pk_mul, nI_add, nI_pred, pk_sub, jx_na, jx_add0, Nat.reduceMul, Nat.reduceAdd, Nat.reduceSub, Nat.reduceEqDiff, Nat.reduceLeDiff, Nat.reduceLT, ka, u8']; refine jx_ixC ?_ ?_; omega; omega) | (simp (disch := first | omega | fail) only [jx_lit, pk_mul, nI_add, nI_pred, pk_sub, jx_na, jx_add0, Nat.reduceMul, Nat.reduceAdd, Nat.reduceSub, Nat.reduceEqDiff, Nat.reduceLeDiff, Nat.reduceLT, jx_cl, nI_leI, Nat.zero_le, true_and, ka, u8']; omega) | fail) only [je_150, jb_150_0, jb_150_8, jb_150_11, jb_150_14, jx_nl, jx_nlr, jx_thenS, jx_tlS, jx_tlN, jm_ite_go, jx_rds, jx_rdn, jx_lit, pk_mul, nI_add, nI_pred, pk_sub, jx_na, jx_add0, Nat.reduceMul, Nat.reduceAdd, Nat.reduceSub, Nat.reduceEqDiff, Nat.reduceLeDiff, Nat.reduceLT, Nat.not_lt_zero, jx_cl, nI_leI, nI_ltI, nI_eq, jx_neg, jx_neg', jx_negE, jx_negL, jx_negG, jx_negLE, jx_negN, sb_nlt, sb_nle, jx_b0, jx_b1, jx_bT, jx_bF, ite_true, ite_false, if_true, if_false, reduceIte, Bool.false_eq_true, Bool.true_eq_false, eq_self, Nat.one_ne_zero, Nat.add_sub_cancel, not_true_eq_false, not_false_eq_true, ka, u8']
    · rw [g 1 3 (jS_2Z (by omega))]; exact t3
    · rw [e2, jx_rdn (by omega), e1, jx_rds]
    · intro j hj
      rw [g 63 j (jS_2Z (by omega))]; exact (h1.2.1.2.2.2 j hj).2.2.2.2.2
    · rw [e2, jx_rds]
    · exact jG_o g fun c => jS_2Z (by omega)
theorem jx_shl0 : ∀ i, i < 31 → nI 0 <<< (nI i &&& nI 31) = nI 0 := by decide +kernel
theorem jq_brick (x y : Int32) : jCall 81 152 [.int x, .int y] := by
  intro d H rho mu hV hmu
  obtain ⟨w, m, tc, ad, kd, cds, hI⟩ := id hV
  have h1 := hI.1
  obtain ⟨t2, u7, tn12⟩ := jR1_c h1
  have t4 : H 1 4 = nI (jwy w) := h1.1.2.1
  have u8 : H 57 8 = nI (jwy w) := h1.2.2.1
  have t3 : H 1 3 = nI (jwS w) := h1.1.1.2.2.1
  have hS := h1.1.1.2.2.2.1
  have hS1 := Nat.lt_of_lt_of_le hS (jx_pow12 tn12)
  rcases jx_door h1 rho mu x with ⟨-, e, e2⟩ | ⟨k, hk, rfl, e, e2⟩
  · have e := e (d + 58) H t2
    have e2 := e2 (d + 57) H u7
    exact jCall_no (v := .int (-nI 5)) hV (by simp (disch := first | assumption | omega | exact jx_bz _ | exact jx_z0 | exact jx_z1 | (refine jx_ixB ?_ ?_; omega; omega) | (simp (disch := first | omega | fail) only [jx_lit, pk_mul, nI_add, nI_pred, pk_sub, jx_na, jx_add0, Nat.reduceMul, Nat.reduceAdd, Nat.reduceSub, Nat.reduceEqDiff, Nat.reduceLeDiff, Nat.reduceLT, e]; refine jx_ixC ?_ ?_; omega; omega) | (simp (disch := first | omega | fail) only [jx_lit, pk_mul, nI_add, nI_pred, pk_sub, jx_na, jx_add0, Nat.reduceMul, Nat.reduceAdd, Nat.reduceSub, Nat.reduceEqDiff, Nat.reduceLeDiff, Nat.reduceLT, jx_cl, nI_leI, Nat.zero_le, true_and, e]; omega) | fail) only [je_81, jb_81_0, jb_81_8, jb_81_11, jb_81_14, jb_81_18, jb_81_23, jb_81_26, jb_81_37, jx_nl, jx_nlr, jx_thenS, jx_tlS, jx_tlN, jm_ite_go, jx_rds, jx_rdn, jx_lit, pk_mul, nI_add, nI_pred, pk_sub, jx_na, jx_add0, Nat.reduceMul, Nat.reduceAdd, Nat.reduceSub, Nat.reduceEqDiff, Nat.reduceLeDiff, Nat.reduceLT, Nat.not_lt_zero, jx_cl, nI_leI, nI_ltI, nI_eq, jx_neg, jx_neg', jx_negE, jx_negL, jx_negG, jx_negLE, jx_negN, sb_nlt, sb_nle, jx_b0, jx_b1, jx_bT, jx_bF, ite_true, ite_false, if_true, if_false, reduceIte, Bool.false_eq_true, Bool.true_eq_false, eq_self, Nat.one_ne_zero, Nat.add_sub_cancel, not_true_eq_false, not_false_eq_true, e]) (by simp (disch := first | assumption | omega | exact jx_bz _ | exact jx_z0 | exact jx_z1 | (refine jx_ixB ?_ ?_; omega; omega) | (simp (disch := first | omega | fail) only [jx_lit, pk_mul, nI_add, nI_pred, pk_sub, jx_na, jx_add0, Nat.reduceMul, Nat.reduceAdd, Nat.reduceSub, Nat.reduceEqDiff, Nat.reduceLeDiff, Nat.reduceLT, e2]; refine jx_ixC ?_ ?_; omega; omega) | (simp (disch := first | omega | fail) only [jx_lit, pk_mul, nI_add, nI_pred, pk_sub, jx_na, jx_add0, Nat.reduceMul, Nat.reduceAdd, Nat.reduceSub, Nat.reduceEqDiff, Nat.reduceLeDiff, Nat.reduceLT, jx_cl, nI_leI, Nat.zero_le, true_and, e2]; omega) | fail) only [je_152, jb_152_0, jb_152_5, jb_152_8, jb_152_11, jb_152_17, jb_152_20, jb_152_23, jx_nl, jx_nlr, jx_thenS, jx_tlS, jx_tlN, jm_ite_go, jx_rds, jx_rdn, jx_lit, pk_mul, nI_add, nI_pred, pk_sub, jx_na, jx_add0, Nat.reduceMul, Nat.reduceAdd, Nat.reduceSub, Nat.reduceEqDiff, Nat.reduceLeDiff, Nat.reduceLT, Nat.not_lt_zero, jx_cl, nI_leI, nI_ltI, nI_eq, jx_neg, jx_neg', jx_negE, jx_negL, jx_negG, jx_negLE, jx_negN, sb_nlt, sb_nle, jx_b0, jx_b1, jx_bT, jx_bF, ite_true, ite_false, if_true, if_false, reduceIte, Bool.false_eq_true, Bool.true_eq_false, eq_self, Nat.one_ne_zero, Nat.add_sub_cancel, not_true_eq_false, not_false_eq_true, e2])
  · have e := e (d + 58) H t2
    have e2 := e2 (d + 57)
    rcases jx_rng y 1 (by decide) with ⟨hy, -, kb⟩ | ⟨b, hb, rfl, kb⟩
    · have kb := kb (d + 58) H rho mu
      have e2 := e2 H u7
      have z0 : ¬ y = nI 0 := jx_in_ne hy (by omega) (by decide)
      have z1 : ¬ y = nI 1 := jx_in_ne hy (by omega) (by decide)
      exact jCall_no (v := .int (-nI 7)) hV (by simp (disch := first | assumption | omega | exact jx_bz _ | exact jx_z0 | exact jx_z1 | (refine jx_ixB ?_ ?_; omega; omega) | (simp (disch := first | omega | fail) only [jx_lit, pk_mul, nI_add, nI_pred, pk_sub, jx_na, jx_add0, Nat.reduceMul, Nat.reduceAdd, Nat.reduceSub, Nat.reduceEqDiff, Nat.reduceLeDiff, Nat.reduceLT, e, z0, z1]; refine jx_ixC ?_ ?_; omega; omega) | (simp (disch := first | omega | fail) only [jx_lit, pk_mul, nI_add, nI_pred, pk_sub, jx_na, jx_add0, Nat.reduceMul, Nat.reduceAdd, Nat.reduceSub, Nat.reduceEqDiff, Nat.reduceLeDiff, Nat.reduceLT, jx_cl, nI_leI, Nat.zero_le, true_and, e, z0, z1]; omega) | fail) only [je_81, jb_81_0, jb_81_8, jb_81_11, jb_81_14, jb_81_18, jb_81_23, jb_81_26, jb_81_37, jx_nl, jx_nlr, jx_thenS, jx_tlS, jx_tlN, jm_ite_go, jx_rds, jx_rdn, jx_lit, pk_mul, nI_add, nI_pred, pk_sub, jx_na, jx_add0, Nat.reduceMul, Nat.reduceAdd, Nat.reduceSub, Nat.reduceEqDiff, Nat.reduceLeDiff, Nat.reduceLT, Nat.not_lt_zero, jx_cl, nI_leI, nI_ltI, nI_eq, jx_neg, jx_neg', jx_negE, jx_negL, jx_negG, jx_negLE, jx_negN, sb_nlt, sb_nle, jx_b0, jx_b1, jx_bT, jx_bF, ite_true, ite_false, if_true, if_false, reduceIte, Bool.false_eq_true, Bool.true_eq_false, eq_self, Nat.one_ne_zero, Nat.add_sub_cancel, not_true_eq_false, not_false_eq_true, e, z0, z1]) (by simp (disch := first | assumption | omega | exact jx_bz _ | exact jx_z0 | exact jx_z1 | (refine jx_ixB ?_ ?_; omega; omega) | (simp (disch := first | omega | fail) only [jx_lit, pk_mul, nI_add, nI_pred, pk_sub, jx_na, jx_add0, Nat.reduceMul, Nat.reduceAdd, Nat.reduceSub, Nat.reduceEqDiff, Nat.reduceLeDiff, Nat.reduceLT, e2, kb]; refine jx_ixC ?_ ?_; omega; omega) | (simp (disch := first | omega | fail) only [jx_lit, pk_mul, nI_add, nI_pred, pk_sub, jx_na, jx_add0, Nat.reduceMul, Nat.reduceAdd, Nat.reduceSub, Nat.reduceEqDiff, Nat.reduceLeDiff, Nat.reduceLT, jx_cl, nI_leI, Nat.zero_le, true_and, e2, kb]; omega) | fail) only [je_152, jb_152_0, jb_152_5, jb_152_8, jb_152_11, jb_152_17, jb_152_20, jb_152_23, jx_nl, jx_nlr, jx_thenS, jx_tlS, jx_tlN, jm_ite_go, jx_rds, jx_rdn, jx_lit, pk_mul, nI_add, nI_pred, pk_sub, jx_na, jx_add0, Nat.reduceMul, Nat.reduceAdd, Nat.reduceSub, Nat.reduceEqDiff, Nat.reduceLeDiff, Nat.reduceLT, Nat.not_lt_zero, jx_cl, nI_leI, nI_ltI, nI_eq, jx_neg, jx_neg', jx_negE, jx_negL, jx_negG, jx_negLE, jx_negN, sb_nlt, sb_nle, jx_b0, jx_b1, jx_bT, jx_bF, ite_true, ite_false, if_true, if_false, reduceIte, Bool.false_eq_true, Bool.true_eq_false, eq_self, Nat.one_ne_zero, Nat.add_sub_cancel, not_true_eq_false, not_false_eq_true, e2, kb])
    · have k123 := @jf_123N (d + 58) H rho mu (jwS w) k (by omega) (by omega)
      have u63 : H 63 k = jx_b ((jwS w).testBit k) := (h1.2.1.2.2.2 k hk).2.2.2.2.2
      have hm : js_mi (jwS w) (2 ^ k) < 2 ^ jwn w := Nat.lt_of_le_of_lt Nat.and_le_left hS
      have main : ∀ S, S < 2 ^ jwn w → (∀ j, j < jwn w → S.testBit j = if j = k then decide (b = 1) else (jwS w).testBit j) →
          jm_ev (d + 60) 81 [.ref 0, .int (nI k), .int (nI b)] (jm_hp H rho mu) = some (some (.int (jx_b ((jwS w).testBit k))), jm_hp (jm_up H 1 3 (nI S)) rho mu) →
          ∃ v H1 H2 rho2 mu2, jm_ev (d + 60) 81 (.ref 0 :: [.int (nI k), .int (nI b)]) (jm_hp H rho mu) = some (some v, jm_hp H1 rho2 mu2) ∧ jm_ev (d + 60) 152 (.ref 57 :: [.int (nI k), .int (nI b)]) (jm_hp H1 rho2 mu2) = some (some v, jm_hp H2 rho2 mu2) ∧ jV H2 rho2 mu2 ∧ mu2.length ≤ mu.length + 6 ∧ ∀ a, 900000 ≤ a → H2 a = H a := by
        intro S hS2 hbit ec
        obtain ⟨H1, q1⟩ : ∃ H1, H1 = jm_up H 1 3 (nI S) := ⟨_, rfl⟩
        obtain ⟨H2, q2⟩ : ∃ H2, H2 = jm_up H1 63 k (nI b) := ⟨_, rfl⟩
        have g : jG (jS_2 1 3 63 k) H H2 := by rw [q2, q1]; exact jG_up (jG_up jG_rf (jS_2Y (by omega))) (jS_2Y (by omega))
        have u7' : H1 57 7 = nI (jwn w) := by rw [q1, jx_rdn (by omega)]; exact u7
        have u63' : H1 63 k = jx_b ((jwS w).testBit k) := by rw [q1, jx_rdn (by omega)]; exact u63
        have kb := kb (d + 58) H1 rho mu
        have e2 := e2 H1 u7'
        refine ⟨.int (jx_b ((jwS w).testBit k)), H1, H2, rho, mu, by rw [q1]; exact ec, ?_, ⟨_, _, _, _, _, _, jInv_re (S := S) (y := jwy w) hI hmu g (by omega) (by omega) ?_ hS2 ?_ h1.1.2.2.1 ?_ ?_⟩, by omega, fun a ha => ?_⟩
        · rw [q2]; simp (disch := first | assumption | omega | exact jx_bz _ | exact jx_z0 | exact jx_z1 | (refine jx_ixB ?_ ?_; omega; omega) | (simp (disch := first | omega | fail) only [jx_lit, pk_mul, nI_add, nI_pred, pk_sub, jx_na, jx_add0, Nat.reduceMul, Nat.reduceAdd, Nat.reduceSub, Nat.reduceEqDiff, Nat.reduceLeDiff, Nat.reduceLT, e2, kb, u63']; refine jx_ixC ?_ ?_; omega; omega) | (simp (disch := first | omega | fail) only [jx_lit, pk_mul, nI_add, nI_pred, pk_sub, jx_na, jx_add0, Nat.reduceMul, Nat.reduceAdd, Nat.reduceSub, Nat.reduceEqDiff, Nat.reduceLeDiff, Nat.reduceLT, jx_cl, nI_leI, Nat.zero_le, true_and, e2, kb, u63']; omega) | fail) only [je_152, jb_152_0, jb_152_5, jb_152_8, jb_152_11, jb_152_17, jb_152_20, jb_152_23, jx_nl, jx_nlr, jx_thenS, jx_tlS, jx_tlN, jm_ite_go, jx_rds, jx_rdn, jx_lit, pk_mul, nI_add, nI_pred, pk_sub, jx_na, jx_add0, Nat.reduceMul, Nat.reduceAdd, Nat.reduceSub, Nat.reduceEqDiff, Nat.reduceLeDiff, Nat.reduceLT, Nat.not_lt_zero, jx_cl, nI_leI, nI_ltI, nI_eq, jx_neg, jx_neg', jx_negE, jx_negL, jx_negG, jx_negLE, jx_negN, sb_nlt, sb_nle, jx_b0, jx_b1, jx_bT, jx_bF, ite_true, ite_false, if_true, if_false, reduceIte, Bool.false_eq_true, Bool.true_eq_false, eq_self, Nat.one_ne_zero, Nat.add_sub_cancel, not_true_eq_false, not_false_eq_true, e2, kb, u63']
        · rw [q2, jx_rdn (by omega), q1, jx_rds]
        · rw [g 1 4 (jS_2Z (by omega))]; exact t4
        · intro j hj
          rw [hbit j hj, q2]
          by_cases zj : j = k
          · subst zj
            rw [jx_rds, if_pos rfl]
            rcases (show b = 0 ∨ b = 1 by omega) with zb | zb <;> subst zb <;> rfl
          · rw [jx_rdn (fun q => zj q.2), if_neg zj, q1, jx_rdn (by omega)]; exact (h1.2.1.2.2.2 j hj).2.2.2.2.2
        · rw [g 57 8 (jS_2Z (by omega))]; exact u8
        · exact jG_o g fun c => jS_2Z (by omega)
      rcases (show b = 0 ∨ b = 1 by omega) with zb | zb <;> subst zb
      · refine main (js_mi (jwS w) (2 ^ k)) hm (fun j hj => ?_) ?_
        · rw [js_mi_bit (by omega), Nat.testBit_two_pow]
          by_cases zj : j = k
          · subst zj; simp
          · rw [if_neg zj, decide_eq_false (fun q => zj q.symm)]; simp
        · simp (disch := first | assumption | omega | exact jx_bz _ | exact jx_z0 | exact jx_z1 | (refine jx_ixB ?_ ?_; omega; omega) | (simp (disch := first | omega | fail) only [jx_lit, pk_mul, nI_add, nI_pred, pk_sub, jx_na, jx_add0, Nat.reduceMul, Nat.reduceAdd, Nat.reduceSub, Nat.reduceEqDiff, Nat.reduceLeDiff, Nat.reduceLT, e, t3, k123, jx_one, jx_shl0, fa_not, fa_or, Nat.or_zero]; refine jx_ixC ?_ ?_; omega; omega) | (simp (disch := first | omega | fail) only [jx_lit, pk_mul, nI_add, nI_pred, pk_sub, jx_na, jx_add0, Nat.reduceMul, Nat.reduceAdd, Nat.reduceSub, Nat.reduceEqDiff, Nat.reduceLeDiff, Nat.reduceLT, jx_cl, nI_leI, Nat.zero_le, true_and, e, t3, k123, jx_one, jx_shl0, fa_not, fa_or, Nat.or_zero]; omega) | fail) only [je_81, jb_81_0, jb_81_8, jb_81_11, jb_81_14, jb_81_18, jb_81_23, jb_81_26, jb_81_37, jx_nl, jx_nlr, jx_thenS, jx_tlS, jx_tlN, jm_ite_go, jx_rds, jx_rdn, jx_lit, pk_mul, nI_add, nI_pred, pk_sub, jx_na, jx_add0, Nat.reduceMul, Nat.reduceAdd, Nat.reduceSub, Nat.reduceEqDiff, Nat.reduceLeDiff, Nat.reduceLT, Nat.not_lt_zero, jx_cl, nI_leI, nI_ltI, nI_eq, jx_neg, jx_neg', jx_negE, jx_negL, jx_negG, jx_negLE, jx_negN, sb_nlt, sb_nle, jx_b0, jx_b1, jx_bT, jx_bF, ite_true, ite_false, if_true, if_false, reduceIte, Bool.false_eq_true, Bool.true_eq_false, eq_self, Nat.one_ne_zero, Nat.add_sub_cancel, not_true_eq_false, not_false_eq_true, e, t3, k123, jx_one, jx_shl0, fa_not, fa_or, Nat.or_zero]
      · refine main (js_mi (jwS w) (2 ^ k) ||| 2 ^ k) (Nat.or_lt_two_pow hm (Nat.pow_lt_pow_right (by decide) hk)) (fun j hj => ?_) ?_
        · rw [Nat.testBit_or, js_mi_bit (by omega), Nat.testBit_two_pow]
          by_cases zj : j = k
          · subst zj; simp
          · rw [if_neg zj, decide_eq_false (fun q => zj q.symm)]; simp
        · simp (disch := first | assumption | omega | exact jx_bz _ | exact jx_z0 | exact jx_z1 | (refine jx_ixB ?_ ?_; omega; omega) | (simp (disch := first | omega | fail) only [jx_lit, pk_mul, nI_add, nI_pred, pk_sub, jx_na, jx_add0, Nat.reduceMul, Nat.reduceAdd, Nat.reduceSub, Nat.reduceEqDiff, Nat.reduceLeDiff, Nat.reduceLT, e, t3, k123, jx_one, fa_not, fa_or]; refine jx_ixC ?_ ?_; omega; omega) | (simp (disch := first | omega | fail) only [jx_lit, pk_mul, nI_add, nI_pred, pk_sub, jx_na, jx_add0, Nat.reduceMul, Nat.reduceAdd, Nat.reduceSub, Nat.reduceEqDiff, Nat.reduceLeDiff, Nat.reduceLT, jx_cl, nI_leI, Nat.zero_le, true_and, e, t3, k123, jx_one, fa_not, fa_or]; omega) | fail) only [je_81, jb_81_0, jb_81_8, jb_81_11, jb_81_14, jb_81_18, jb_81_23, jb_81_26, jb_81_37, jx_nl, jx_nlr, jx_thenS, jx_tlS, jx_tlN, jm_ite_go, jx_rds, jx_rdn, jx_lit, pk_mul, nI_add, nI_pred, pk_sub, jx_na, jx_add0, Nat.reduceMul, Nat.reduceAdd, Nat.reduceSub, Nat.reduceEqDiff, Nat.reduceLeDiff, Nat.reduceLT, Nat.not_lt_zero, jx_cl, nI_leI, nI_ltI, nI_eq, jx_neg, jx_neg', jx_negE, jx_negL, jx_negG, jx_negLE, jx_negN, sb_nlt, sb_nle, jx_b0, jx_b1, jx_bT, jx_bF, ite_true, ite_false, if_true, if_false, reduceIte, Bool.false_eq_true, Bool.true_eq_false, eq_self, Nat.one_ne_zero, Nat.add_sub_cancel, not_true_eq_false, not_false_eq_true, e, t3, k123, jx_one, fa_not, fa_or]
