/-! CALLS THAT CHANGE A PERSON: open -/
noncomputable def jS_pe (o p : Nat) : Nat → Nat → Bool := fun a k => jK a k || decide (a = o ∨ a = 60 ∧ 4 * p ≤ k ∧ k < 4 * p + 4)
theorem jS_peZ {o p a k : Nat} (h : ¬ jKp a k) (h2 : ¬ (a = o ∨ a = 60 ∧ 4 * p ≤ k ∧ k < 4 * p + 4)) : jS_pe o p a k = false := by
  unfold jS_pe; rw [jK_Z h, decide_eq_false h2]; rfl
theorem jS_peN {o p a k : Nat} (h : jS_pe o p a k = false) : jK a k = false ∧ ¬ (a = o ∨ a = 60 ∧ 4 * p ≤ k ∧ k < 4 * p + 4) := by
  unfold jS_pe at h
  rw [Bool.or_eq_false_iff] at h
  exact ⟨h.1, of_decide_eq_false h.2⟩
theorem jR6_m2 {S : Nat → Nat → Bool} {H K : Nat → Nat → Int32} {w : jW} {m tc : Nat} {ad : Nat → Nat} (h : jR6 H w m tc ad) (g : jG S H K) (hS : ∀ a k, (a = 35 ∨ 37 ≤ a ∧ a < 43 ∨ a = 57 ∧ k = 15 ∨ a = 67 ∨ a = 68) → S a k = false) (hm : m ≤ 6) (hp : ∀ p, p < m → K (ad p) 1 = H (ad p) 1) : jR6 K w m tc ad := by
  obtain ⟨h1, h2⟩ := h
  have e35 : ∀ k, K 35 k = H 35 k := fun k => g _ _ (hS _ _ (by omega))
  have e67 : ∀ k, K 67 k = H 67 k := fun k => g _ _ (hS _ _ (by omega))
  have e68 : ∀ k, K 68 k = H 68 k := fun k => g _ _ (hS _ _ (by omega))
  unfold jR6
  simp only [e35, e67, e68, g 57 15 (hS _ _ (by omega))]
  refine ⟨h1, ?_⟩
  rcases h2 with h2 | ⟨h2, n, S2, y, l, q, b1, b2, b3, b4, b5, b6, b7, b8, b9, b10, b11, b12, b13, b14, b15, b16⟩
  · exact .inl h2
  · refine .inr ⟨h2, n, S2, y, l, q, b1, b2, b3, b4, b5, b6, b7, b8, b9, b10, b11, b12, b13, b14, b15, fun p hp2 => ?_⟩
    rw [jG_o (o := 37 + p) g fun k => hS _ _ (by omega), hp p (by omega)]
    exact b16 p hp2
theorem jInv_pe {H J : Nat → Nat → Int32} {rho : Nat → Option Nat} {mu : List (Nat × Nat)} {w : jW} {m tc p : Nat} {ad kd : Nat → Nat} {cds : Nat → Nat → List Nat} {Q : Nat → Int32} (hI : jInv H rho mu w m tc ad kd cds) (hmu : mu.length < 700000) (hp : p < m) (g : jG (jS_pe (ad p) p) H J)
    (hJ : J (ad p) = Q) (h0 : Q 0 = nI (kd p)) (hq1 : Q 1 = H (ad p) 1) (hv : jPv (jwn w) Q) (hQ : jQ J p (kd p) Q) : jInv J rho mu w m tc ad kd cds := by
  obtain ⟨i1, i2, i3, i4, i5, i6, i7, i8⟩ := hI
  obtain ⟨x1, x2, x3, x4, x5⟩ := id i2
  have hp80 : 80 ≤ ad p := (x4 p hp).2.2.1
  have h1 : ∀ q, q < m → J (ad q) 1 = H (ad q) 1 := fun q hq => by
    by_cases zq : q = p
    · rw [zq, hJ]; exact hq1
    · have := (x4 q hq).2.2.1
      exact g _ _ (jS_peZ (by unfold jKp; omega) (by
        rintro (zr | zr)
        · exact zq (x5 q p hq hp zr)
        · omega))
  refine ⟨jR1_mo i1 g fun a k q => jS_peZ (by unfold jKp; omega) (by omega), ⟨?_, x2, ?_, fun q hq => ?_, x5⟩, jR3_mo i3 g fun a k q => jS_peZ (by unfold jKp; omega) (by omega), jR4_mo i4 g fun a k q => jS_peZ (by unfold jKp; omega) (by omega), jR5_mo i5 g fun a k q => jS_peZ (by unfold jKp; omega) (by omega), jR6_m2 i6 g (fun a k q => jS_peZ (by unfold jKp; omega) (by omega)) x2 h1, jR7_mo i7 g fun k => jS_peZ (by unfold jKp; omega) (by omega), i8⟩
  · rw [g 0 3 (jS_peZ (by unfold jKp; omega) (by omega))]; exact x1
  · rw [g 57 0 (jS_peZ (by unfold jKp; omega) (by omega))]; exact x3
  · obtain ⟨y1, y2, y3, y4, y5, y6, y7⟩ := x4 q hq
    by_cases zq : q = p
    · subst zq
      rw [hJ]; exact ⟨y1, y2, y3, y4, h0, hv, hQ⟩
    · have hne : ¬ ad q = ad p := fun e => zq (x5 q p hq hp e)
      have eq : J (ad q) = H (ad q) := jG_o g fun k => jS_peZ (by unfold jKp; omega) (by omega)
      rw [eq]
      refine ⟨y1, y2, y3, y4, y5, y6, ?_⟩
      obtain ⟨z1, z2, z3, z4, z5, z6⟩ := y7
      refine ⟨?_, ?_, ?_, ?_, ?_, ?_⟩
      · rw [g 58 q (jS_peZ (by unfold jKp; omega) (by omega))]; exact z1
      · rw [g 59 q (jS_peZ (by unfold jKp; omega) (by omega))]; exact z2
      · rw [g 60 _ (jS_peZ (by unfold jKp; omega) (by omega))]; exact z3
      · rw [g 60 _ (jS_peZ (by unfold jKp; omega) (by omega))]; exact z4
      · rw [g 60 _ (jS_peZ (by unfold jKp; omega) (by omega))]; exact z5
      · rw [g 60 _ (jS_peZ (by unfold jKp; omega) (by omega))]; exact z6
theorem js_try_0 {w : jW} {kd k : Nat} {P : Nat → Int32} : js_try w kd P k 0 = P 0 := by
  unfold js_try
  split
  · unfold js_new; simp
  · rfl
theorem js_try_1 {w : jW} {kd k : Nat} {P : Nat → Int32} : js_try w kd P k 1 = P 1 := by
  unfold js_try
  split
  · unfold js_new; simp
  · rfl
theorem jS_peS {o p a k : Nat} (h : jS_pe o p a k = false) : jS_st a 0 = false ∧ ¬ a = o := by
  obtain ⟨h1, h2⟩ := jS_peN h
  have := jK_N h1
  unfold jKp at this
  refine ⟨?_, fun e => h2 (.inl e)⟩
  simp only [jS_st, Bool.or_eq_false_iff, beq_eq_false_iff_ne]; omega
theorem jG_peS {o p : Nat} {I J : Nat → Nat → Int32} (h : jG (jS_so o) I J) : jG (jS_pe o p) I J := jG_mo h fun a k q => jS_soZ (jS_peS q).1 (jS_peS q).2
theorem jG_peM {o p : Nat} {I J : Nat → Nat → Int32} (h : jG jS_m I J) : jG (jS_pe o p) I J := jG_mo h fun a k q => jS_mZ (by have := jK_N (jS_peN q).1; unfold jKp at this; omega)
theorem jG_peQ {o p : Nat} {I J : Nat → Nat → Int32} (h : jG (jS_q p) I J) : jG (jS_pe o p) I J := jG_mo h fun a k q => jS_qZ (by have := jK_N (jS_peN q).1; have := (jS_peN q).2; unfold jKp at *; omega)
/-- a door opened by one: both sides -/
theorem jx_open {d p k m tc : Nat} {H : Nat → Nat → Int32} {rho : Nat → Option Nat} {mu : List (Nat × Nat)} {w : jW} {ad kd : Nat → Nat} {cds : Nat → Nat → List Nat} (hI : jInv H rho mu w m tc ad kd cds) (hmu : mu.length < 700000) (hp : p < m) (hk : k < jwn w) :
    ∃ J, jm_ev (d + 6) 65 [.ref 1, .ref (ad p), .int (nI k)] (jm_hp H rho mu) = some (some (.int (jx_b (js_may w (kd p) (H (ad p)) k))), jm_hp J rho mu) ∧ jG (jS_so (ad p)) H J ∧ J (ad p) = js_try w (kd p) (H (ad p)) k ∧
      ∀ J2, jG (jS_so (ad p)) J J2 → J2 (ad p) = js_try w (kd p) (H (ad p)) k → ∃ K, jm_ev (d + 6) 188 [.ref 57, .int (nI p), .int (nI k)] (jm_hp J2 rho mu) = some (some (.int (jx_b (js_may w (kd p) (H (ad p)) k))), jm_hp K rho mu) ∧ jG jS_m J2 K ∧
        (js_may w (kd p) (H (ad p)) k = false → jInv K rho mu w m tc ad kd cds) ∧
        (js_may w (kd p) (H (ad p)) k = true → ∃ L, jm_ev (d + 6) 189 [.ref 57, .int (nI p), .int (nI k)] (jm_hp K rho mu) = some (none, jm_hp L rho mu) ∧ jInv L rho mu w m tc ad kd cds ∧ jQ L p (kd p) (js_try w (kd p) (H (ad p)) k) ∧ jG (jS_pe (ad p) p) H L) := by
  obtain ⟨i1, i2, -⟩ := id hI
  obtain ⟨x1, x2, x3, x4, x5⟩ := id i2
  obtain ⟨y1, y2, y3, y4, y5, y6, y7⟩ := x4 p hp
  have hH := jT_H i1.1.1
  have hv := js_try_v (kd := kd p) y6 hk hH
  obtain ⟨J, f1, f2, f3⟩ := jf_65 (d := d) (rho := rho) (mu := mu) i1.1 hk y2 y6
  refine ⟨J, f1, f3, f2, fun J2 g2 hJ2 => ?_⟩
  have gJ := jG_tr f3 g2
  have ro : ∀ a, 57 ≤ a → a < 80 → J2 a = H a := fun a h1 h2 => jG_o gJ fun c => jS_soZ (by simp only [jS_st, Bool.or_eq_false_iff, beq_eq_false_iff_ne]; omega) (by omega)
  have hwM : jMt J2 w := jMt_mo i1.2 gJ fun a c q => jS_soZ (by simp only [jS_st, Bool.or_eq_false_iff, beq_eq_false_iff_ne]; omega) (by omega)
  have hQ2 : jQ J2 p (kd p) (H (ad p)) := by unfold jQ; rw [ro 58 (by omega) (by omega), ro 59 (by omega) (by omega), ro 60 (by omega) (by omega)]; exact y7
  have hp6 : p < 6 := by omega
  obtain ⟨K, e1, e2⟩ := jf_188 (d := d + 1) (rho := rho) (mu := mu) hwM hp6 hk y2.1 hQ2 y6
  have hKo : K (ad p) = js_try w (kd p) (H (ad p)) k := by rw [jG_o e2 fun c => jS_mZ (by omega)]; exact hJ2
  refine ⟨K, e1, e2, fun hm => ?_, fun hm => ?_⟩
  · have ht : js_try w (kd p) (H (ad p)) k = H (ad p) := by unfold js_try; rw [hm]; rfl
    exact jInv_pe hI hmu hp (jG_tr (jG_peS gJ) (jG_peM e2)) hKo (js_try_0.trans y5) js_try_1 hv (by rw [ht]; exact jQ_mo hQ2 e2)
  · have ht : js_new w (kd p) (H (ad p)) k = js_try w (kd p) (H (ad p)) k := by unfold js_try; rw [hm]; rfl
    obtain ⟨L, e3, e4, e5, e6⟩ := jf_189 (d := d + 1) (rho := rho) (mu := mu) (jMt_m hwM e2) hp6 hk y2.1 (jQ_mo hQ2 e2) y6
    rw [ht] at e4
    have gL := jG_tr (jG_tr (jG_peS gJ) (jG_peM e2)) (jG_peQ e5)
    have hLo : L (ad p) = js_try w (kd p) (H (ad p)) k := by rw [jG_o e5 fun c => jS_qZ (by omega)]; exact hKo
    exact ⟨L, e3, jInv_pe hI hmu hp gL hLo (js_try_0.trans y5) js_try_1 hv e4, e4, gL⟩
theorem jq_open (x y : Int32) : jCall 90 190 [.int x, .int y] := by
  intro d H rho mu hV hmu
  obtain ⟨w, m, tc, ad, kd, cds, hI⟩ := id hV
  obtain ⟨h1, h2, -⟩ := id hI
  have p3 := h2.1
  have p0 := h2.2.2.1
  obtain ⟨t2, u7, tn12⟩ := jR1_c h1
  rcases jx_who h2 x with ⟨-, e, e2⟩ | ⟨p, hp, rfl, e, e2⟩
  · have e := e (d + 58) H p3
    have e2 := e2 (d + 57) H p0
    exact jCall_no (v := .int (-nI 5)) hV (by simp (disch := first | assumption | omega | exact jx_bz _ | exact jx_z0 | exact jx_z1 | (refine jx_ixB ?_ ?_; omega; omega) | (simp (disch := first | omega | fail) only [jx_lit, pk_mul, nI_add, nI_pred, pk_sub, jx_na, jx_add0, Nat.reduceMul, Nat.reduceAdd, Nat.reduceSub, Nat.reduceEqDiff, Nat.reduceLeDiff, Nat.reduceLT, e]; refine jx_ixC ?_ ?_; omega; omega) | (simp (disch := first | omega | fail) only [jx_lit, pk_mul, nI_add, nI_pred, pk_sub, jx_na, jx_add0, Nat.reduceMul, Nat.reduceAdd, Nat.reduceSub, Nat.reduceEqDiff, Nat.reduceLeDiff, Nat.reduceLT, jx_cl, nI_leI, Nat.zero_le, true_and, e]; omega) | fail) only [je_90, jb_90_0, jb_90_5, jb_90_5_1, jb_90_10, jb_90_13, jb_90_21, jb_90_24, jb_90_27, jb_90_36, jb_90_39, jb_90_46, jb_90_48, jx_nl, jx_nlr, jx_thenS, jx_tlS, jx_tlN, jm_ite_go, jx_rds, jx_rdn, jx_lit, pk_mul, nI_add, nI_pred, pk_sub, jx_na, jx_add0, Nat.reduceMul, Nat.reduceAdd, Nat.reduceSub, Nat.reduceEqDiff, Nat.reduceLeDiff, Nat.reduceLT, Nat.not_lt_zero, jx_cl, nI_leI, nI_ltI, nI_eq, jx_neg, jx_neg', jx_negE, jx_negL, jx_negG, jx_negLE, jx_negN, sb_nlt, sb_nle, jx_b0, jx_b1, jx_bT, jx_bF, ite_true, ite_false, if_true, if_false, reduceIte, Bool.false_eq_true, Bool.true_eq_false, eq_self, Nat.one_ne_zero, Nat.add_sub_cancel, not_true_eq_false, not_false_eq_true, e]) (by simp (disch := first | assumption | omega | exact jx_bz _ | exact jx_z0 | exact jx_z1 | (refine jx_ixB ?_ ?_; omega; omega) | (simp (disch := first | omega | fail) only [jx_lit, pk_mul, nI_add, nI_pred, pk_sub, jx_na, jx_add0, Nat.reduceMul, Nat.reduceAdd, Nat.reduceSub, Nat.reduceEqDiff, Nat.reduceLeDiff, Nat.reduceLT, e2]; refine jx_ixC ?_ ?_; omega; omega) | (simp (disch := first | omega | fail) only [jx_lit, pk_mul, nI_add, nI_pred, pk_sub, jx_na, jx_add0, Nat.reduceMul, Nat.reduceAdd, Nat.reduceSub, Nat.reduceEqDiff, Nat.reduceLeDiff, Nat.reduceLT, jx_cl, nI_leI, Nat.zero_le, true_and, e2]; omega) | fail) only [je_190, jb_190_0, jb_190_5, jb_190_8, jb_190_11, jb_190_16, jb_190_19, jb_190_22, jb_190_28, jb_190_31, jb_190_34, jb_190_40, jx_nl, jx_nlr, jx_thenS, jx_tlS, jx_tlN, jm_ite_go, jx_rds, jx_rdn, jx_lit, pk_mul, nI_add, nI_pred, pk_sub, jx_na, jx_add0, Nat.reduceMul, Nat.reduceAdd, Nat.reduceSub, Nat.reduceEqDiff, Nat.reduceLeDiff, Nat.reduceLT, Nat.not_lt_zero, jx_cl, nI_leI, nI_ltI, nI_eq, jx_neg, jx_neg', jx_negE, jx_negL, jx_negG, jx_negLE, jx_negN, sb_nlt, sb_nle, jx_b0, jx_b1, jx_bT, jx_bF, ite_true, ite_false, if_true, if_false, reduceIte, Bool.false_eq_true, Bool.true_eq_false, eq_self, Nat.one_ne_zero, Nat.add_sub_cancel, not_true_eq_false, not_false_eq_true, e2])
  · have e := e (d + 58) H p3
    have e2 := e2 (d + 57)
    rcases jx_door h1 rho mu y with ⟨-, f, f2⟩ | ⟨k, hk, rfl, f, f2⟩
    · have f := f (d + 58) H t2
      have f2 := f2 (d + 57) H u7
      have e2 := e2 H p0
      exact jCall_no (v := .int (-nI 6)) hV (by simp (disch := first | assumption | omega | exact jx_bz _ | exact jx_z0 | exact jx_z1 | (refine jx_ixB ?_ ?_; omega; omega) | (simp (disch := first | omega | fail) only [jx_lit, pk_mul, nI_add, nI_pred, pk_sub, jx_na, jx_add0, Nat.reduceMul, Nat.reduceAdd, Nat.reduceSub, Nat.reduceEqDiff, Nat.reduceLeDiff, Nat.reduceLT, e, f]; refine jx_ixC ?_ ?_; omega; omega) | (simp (disch := first | omega | fail) only [jx_lit, pk_mul, nI_add, nI_pred, pk_sub, jx_na, jx_add0, Nat.reduceMul, Nat.reduceAdd, Nat.reduceSub, Nat.reduceEqDiff, Nat.reduceLeDiff, Nat.reduceLT, jx_cl, nI_leI, Nat.zero_le, true_and, e, f]; omega) | fail) only [je_90, jb_90_0, jb_90_5, jb_90_5_1, jb_90_10, jb_90_13, jb_90_21, jb_90_24, jb_90_27, jb_90_36, jb_90_39, jb_90_46, jb_90_48, jx_nl, jx_nlr, jx_thenS, jx_tlS, jx_tlN, jm_ite_go, jx_rds, jx_rdn, jx_lit, pk_mul, nI_add, nI_pred, pk_sub, jx_na, jx_add0, Nat.reduceMul, Nat.reduceAdd, Nat.reduceSub, Nat.reduceEqDiff, Nat.reduceLeDiff, Nat.reduceLT, Nat.not_lt_zero, jx_cl, nI_leI, nI_ltI, nI_eq, jx_neg, jx_neg', jx_negE, jx_negL, jx_negG, jx_negLE, jx_negN, sb_nlt, sb_nle, jx_b0, jx_b1, jx_bT, jx_bF, ite_true, ite_false, if_true, if_false, reduceIte, Bool.false_eq_true, Bool.true_eq_false, eq_self, Nat.one_ne_zero, Nat.add_sub_cancel, not_true_eq_false, not_false_eq_true, e, f]) (by simp (disch := first | assumption | omega | exact jx_bz _ | exact jx_z0 | exact jx_z1 | (refine jx_ixB ?_ ?_; omega; omega) | (simp (disch := first | omega | fail) only [jx_lit, pk_mul, nI_add, nI_pred, pk_sub, jx_na, jx_add0, Nat.reduceMul, Nat.reduceAdd, Nat.reduceSub, Nat.reduceEqDiff, Nat.reduceLeDiff, Nat.reduceLT, e2, f2]; refine jx_ixC ?_ ?_; omega; omega) | (simp (disch := first | omega | fail) only [jx_lit, pk_mul, nI_add, nI_pred, pk_sub, jx_na, jx_add0, Nat.reduceMul, Nat.reduceAdd, Nat.reduceSub, Nat.reduceEqDiff, Nat.reduceLeDiff, Nat.reduceLT, jx_cl, nI_leI, Nat.zero_le, true_and, e2, f2]; omega) | fail) only [je_190, jb_190_0, jb_190_5, jb_190_8, jb_190_11, jb_190_16, jb_190_19, jb_190_22, jb_190_28, jb_190_31, jb_190_34, jb_190_40, jx_nl, jx_nlr, jx_thenS, jx_tlS, jx_tlN, jm_ite_go, jx_rds, jx_rdn, jx_lit, pk_mul, nI_add, nI_pred, pk_sub, jx_na, jx_add0, Nat.reduceMul, Nat.reduceAdd, Nat.reduceSub, Nat.reduceEqDiff, Nat.reduceLeDiff, Nat.reduceLT, Nat.not_lt_zero, jx_cl, nI_leI, nI_ltI, nI_eq, jx_neg, jx_neg', jx_negE, jx_negL, jx_negG, jx_negLE, jx_negN, sb_nlt, sb_nle, jx_b0, jx_b1, jx_bT, jx_bF, ite_true, ite_false, if_true, if_false, reduceIte, Bool.false_eq_true, Bool.true_eq_false, eq_self, Nat.one_ne_zero, Nat.add_sub_cancel, not_true_eq_false, not_false_eq_true, e2, f2])
    · have f := f (d + 58) H t2
      have f2 := f2 (d + 57)
      obtain ⟨J, a1, a2, a3, a4⟩ := jx_open (d := d + 53) hI hmu hp hk
      obtain ⟨K, b1, b2, b3, b4⟩ := a4 J jG_rf a3
      have hO := jO_is (h2.2.2.2.1 p hp).2.1
      have h80 := (h2.2.2.2.1 p hp).2.2.1
      have h80' := (h2.2.2.2.1 p hp).2.2.2.1
      have p0J : J 57 0 = nI m := by rw [a2 57 0 (jS_soZ rfl (by omega))]; exact p0
      have u7J : J 57 7 = nI (jwn w) := by rw [a2 57 7 (jS_soZ rfl (by omega))]; exact u7
      have e2 := e2 J p0J
      have f2 := f2 J u7J
      have far : ∀ K2, jG (jS_pe (ad p) p) H K2 → ∀ a, 900000 ≤ a → K2 a = H a := fun K2 g a ha => jG_o g fun c => jS_peZ (by unfold jKp; omega) (by omega)
      rcases Bool.eq_false_or_eq_true (js_may w (kd p) (H (ad p)) k) with zf | zf
      · obtain ⟨L, c1, c2, c3, c4⟩ := b4 zf
        rw [zf] at a1 b1
        have hJ3 : J (ad p) 3 = js_try w (kd p) (H (ad p)) k 3 := by rw [a3]
        have q61 : L 60 (4 * p + 1) = js_try w (kd p) (H (ad p)) k 3 := c3.2.2.2.1
        have hp6 : 4 * p + 1 < 24 := by have := h2.2.1; omega
        refine ⟨.int (js_try w (kd p) (H (ad p)) k 3), J, L, rho, mu, ?_, ?_, ⟨_, _, _, _, _, _, c2⟩, by omega, far L c4⟩
        · simp (disch := first | assumption | omega | exact jx_bz _ | exact jx_z0 | exact jx_z1 | (refine jx_ixB ?_ ?_; omega; omega) | (simp (disch := first | omega | fail) only [jx_lit, pk_mul, nI_add, nI_pred, pk_sub, jx_na, jx_add0, Nat.reduceMul, Nat.reduceAdd, Nat.reduceSub, Nat.reduceEqDiff, Nat.reduceLeDiff, Nat.reduceLT, e, f, a1, hJ3]; refine jx_ixC ?_ ?_; omega; omega) | (simp (disch := first | omega | fail) only [jx_lit, pk_mul, nI_add, nI_pred, pk_sub, jx_na, jx_add0, Nat.reduceMul, Nat.reduceAdd, Nat.reduceSub, Nat.reduceEqDiff, Nat.reduceLeDiff, Nat.reduceLT, jx_cl, nI_leI, Nat.zero_le, true_and, e, f, a1, hJ3]; omega) | fail) only [je_90, jb_90_0, jb_90_5, jb_90_5_1, jb_90_10, jb_90_13, jb_90_21, jb_90_24, jb_90_27, jb_90_36, jb_90_39, jb_90_46, jb_90_48, jx_nl, jx_nlr, jx_thenS, jx_tlS, jx_tlN, jm_ite_go, jx_rds, jx_rdn, jx_lit, pk_mul, nI_add, nI_pred, pk_sub, jx_na, jx_add0, Nat.reduceMul, Nat.reduceAdd, Nat.reduceSub, Nat.reduceEqDiff, Nat.reduceLeDiff, Nat.reduceLT, Nat.not_lt_zero, jx_cl, nI_leI, nI_ltI, nI_eq, jx_neg, jx_neg', jx_negE, jx_negL, jx_negG, jx_negLE, jx_negN, sb_nlt, sb_nle, jx_b0, jx_b1, jx_bT, jx_bF, ite_true, ite_false, if_true, if_false, reduceIte, Bool.false_eq_true, Bool.true_eq_false, eq_self, Nat.one_ne_zero, Nat.add_sub_cancel, not_true_eq_false, not_false_eq_true, e, f, a1, hJ3]
        · simp (disch := first | assumption | omega | exact jx_bz _ | exact jx_z0 | exact jx_z1 | (refine jx_ixB ?_ ?_; omega; omega) | (simp (disch := first | omega | fail) only [jx_lit, pk_mul, nI_add, nI_pred, pk_sub, jx_na, jx_add0, Nat.reduceMul, Nat.reduceAdd, Nat.reduceSub, Nat.reduceEqDiff, Nat.reduceLeDiff, Nat.reduceLT, e2, f2, b1, c1, q61]; refine jx_ixC ?_ ?_; omega; omega) | (simp (disch := first | omega | fail) only [jx_lit, pk_mul, nI_add, nI_pred, pk_sub, jx_na, jx_add0, Nat.reduceMul, Nat.reduceAdd, Nat.reduceSub, Nat.reduceEqDiff, Nat.reduceLeDiff, Nat.reduceLT, jx_cl, nI_leI, Nat.zero_le, true_and, e2, f2, b1, c1, q61]; omega) | fail) only [je_190, jb_190_0, jb_190_5, jb_190_8, jb_190_11, jb_190_16, jb_190_19, jb_190_22, jb_190_28, jb_190_31, jb_190_34, jb_190_40, jx_nl, jx_nlr, jx_thenS, jx_tlS, jx_tlN, jm_ite_go, jx_rds, jx_rdn, jx_lit, pk_mul, nI_add, nI_pred, pk_sub, jx_na, jx_add0, Nat.reduceMul, Nat.reduceAdd, Nat.reduceSub, Nat.reduceEqDiff, Nat.reduceLeDiff, Nat.reduceLT, Nat.not_lt_zero, jx_cl, nI_leI, nI_ltI, nI_eq, jx_neg, jx_neg', jx_negE, jx_negL, jx_negG, jx_negLE, jx_negN, sb_nlt, sb_nle, jx_b0, jx_b1, jx_bT, jx_bF, ite_true, ite_false, if_true, if_false, reduceIte, Bool.false_eq_true, Bool.true_eq_false, eq_self, Nat.one_ne_zero, Nat.add_sub_cancel, not_true_eq_false, not_false_eq_true, e2, f2, b1, c1, q61]
      · rw [zf] at a1 b1
        refine ⟨.int (-nI 3), J, K, rho, mu, ?_, ?_, ⟨_, _, _, _, _, _, b3 zf⟩, by omega, far K (jG_tr (jG_peS a2) (jG_peM b2))⟩
        · simp (disch := first | assumption | omega | exact jx_bz _ | exact jx_z0 | exact jx_z1 | (refine jx_ixB ?_ ?_; omega; omega) | (simp (disch := first | omega | fail) only [jx_lit, pk_mul, nI_add, nI_pred, pk_sub, jx_na, jx_add0, Nat.reduceMul, Nat.reduceAdd, Nat.reduceSub, Nat.reduceEqDiff, Nat.reduceLeDiff, Nat.reduceLT, e, f, a1]; refine jx_ixC ?_ ?_; omega; omega) | (simp (disch := first | omega | fail) only [jx_lit, pk_mul, nI_add, nI_pred, pk_sub, jx_na, jx_add0, Nat.reduceMul, Nat.reduceAdd, Nat.reduceSub, Nat.reduceEqDiff, Nat.reduceLeDiff, Nat.reduceLT, jx_cl, nI_leI, Nat.zero_le, true_and, e, f, a1]; omega) | fail) only [je_90, jb_90_0, jb_90_5, jb_90_5_1, jb_90_10, jb_90_13, jb_90_21, jb_90_24, jb_90_27, jb_90_36, jb_90_39, jb_90_46, jb_90_48, jx_nl, jx_nlr, jx_thenS, jx_tlS, jx_tlN, jm_ite_go, jx_rds, jx_rdn, jx_lit, pk_mul, nI_add, nI_pred, pk_sub, jx_na, jx_add0, Nat.reduceMul, Nat.reduceAdd, Nat.reduceSub, Nat.reduceEqDiff, Nat.reduceLeDiff, Nat.reduceLT, Nat.not_lt_zero, jx_cl, nI_leI, nI_ltI, nI_eq, jx_neg, jx_neg', jx_negE, jx_negL, jx_negG, jx_negLE, jx_negN, sb_nlt, sb_nle, jx_b0, jx_b1, jx_bT, jx_bF, ite_true, ite_false, if_true, if_false, reduceIte, Bool.false_eq_true, Bool.true_eq_false, eq_self, Nat.one_ne_zero, Nat.add_sub_cancel, not_true_eq_false, not_false_eq_true, e, f, a1]
        · simp (disch := first | assumption | omega | exact jx_bz _ | exact jx_z0 | exact jx_z1 | (refine jx_ixB ?_ ?_; omega; omega) | (simp (disch := first | omega | fail) only [jx_lit, pk_mul, nI_add, nI_pred, pk_sub, jx_na, jx_add0, Nat.reduceMul, Nat.reduceAdd, Nat.reduceSub, Nat.reduceEqDiff, Nat.reduceLeDiff, Nat.reduceLT, e2, f2, b1]; refine jx_ixC ?_ ?_; omega; omega) | (simp (disch := first | omega | fail) only [jx_lit, pk_mul, nI_add, nI_pred, pk_sub, jx_na, jx_add0, Nat.reduceMul, Nat.reduceAdd, Nat.reduceSub, Nat.reduceEqDiff, Nat.reduceLeDiff, Nat.reduceLT, jx_cl, nI_leI, Nat.zero_le, true_and, e2, f2, b1]; omega) | fail) only [je_190, jb_190_0, jb_190_5, jb_190_8, jb_190_11, jb_190_16, jb_190_19, jb_190_22, jb_190_28, jb_190_31, jb_190_34, jb_190_40, jx_nl, jx_nlr, jx_thenS, jx_tlS, jx_tlN, jm_ite_go, jx_rds, jx_rdn, jx_lit, pk_mul, nI_add, nI_pred, pk_sub, jx_na, jx_add0, Nat.reduceMul, Nat.reduceAdd, Nat.reduceSub, Nat.reduceEqDiff, Nat.reduceLeDiff, Nat.reduceLT, Nat.not_lt_zero, jx_cl, nI_leI, nI_ltI, nI_eq, jx_neg, jx_neg', jx_negE, jx_negL, jx_negG, jx_negLE, jx_negN, sb_nlt, sb_nle, jx_b0, jx_b1, jx_bT, jx_bF, ite_true, ite_false, if_true, if_false, reduceIte, Bool.false_eq_true, Bool.true_eq_false, eq_self, Nat.one_ne_zero, Nat.add_sub_cancel, not_true_eq_false, not_false_eq_true, e2, f2, b1]
