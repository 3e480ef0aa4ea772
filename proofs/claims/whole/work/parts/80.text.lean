/-! TEXT -/
theorem jt_dead {e0 : Nat} {b : Nat → Nat} {s t k f : Nat} {H : Nat → Nat → Int32} {rho : Nat → Option Nat} {mu : List (Nat × Nat)} (ht : t < 6) (hk : k < 3) (he : 58 ≤ e0) (hF : jz_F H b s t f) : ∃ H2, jt_c e0 t k rho mu H = jt_c e0 t (k + 1) rho mu H2 ∧ jG (jS_rt t) H H2 ∧ jz_F H2 b s t f := by
  obtain ⟨d0, hd0⟩ : ∃ d0, e0 = d0 + 1 := ⟨e0 - 1, by omega⟩
  have z3 : ¬ 3 ≤ k := by omega
  obtain ⟨J1, k35, F1, g1⟩ := jz_F_take (e := e0) (due := nI (4 + k)) (rho := rho) (mu := mu) ht (by omega) hF (by rw [nI_eq (by omega) (by omega)]; omega)
  obtain ⟨J2, k28, F2, g2⟩ := jd_28 (e := e0) (o := 0) (rho := rho) (mu := mu) ht (by omega) F1
  obtain ⟨J3, k35b, F3, g3⟩ := jz_F_take (e := e0) (due := nI 59) (rho := rho) (mu := mu) ht (by omega) F2 (by decide)
  obtain ⟨z, hz, hz2⟩ := F3.2.2.2.2
  have k48 := @jf_48 d0 t k z J3 rho mu ht hk hz2
  rw [← hd0] at k48
  have gz : jG (jS_rt t) J3 (jm_up J3 (8 + 4 * t) k (nI z)) := jG_up jG_rf jS_rtY
  obtain ⟨f1, f2, f3, f4, f5⟩ := F3
  refine ⟨jm_up J3 (8 + 4 * t) k (nI z), ?_, jG_tr (jG_tr (jG_tr (jG_rdt g1) (jG_rdt g2)) (jG_rdt g3)) gz, ⟨?_, by rw [jx_rdn (by omega)]; exact f2, by rw [jx_rdn (by omega)]; exact f3, f4, z, hz, by rw [jx_rdn (by omega)]; exact hz2⟩⟩
  · unfold jt_c
    rw [jb_27_20]
    simp (disch := first | assumption | omega | fail) only [jb_27_25, jb_27_32, jb_27_38, jb_27_44, jb_27_49, jx_thenS, jx_tlN, jx_lit, nI_leI, z3, if_false, ite_false, nI_add, k35, k28, k35b, k48, List.append_nil, List.nil_append, Option.toList]
  · obtain ⟨b1, b2, b3, b4⟩ := f1
    exact ⟨by rw [jx_rdn (by omega)]; exact b1, b2, fun q hq => by rw [jx_rdn (by omega)]; exact b3 q hq, b4⟩
theorem jt_run {d e0 : Nat} {b : Nat → Nat} {s t p : Nat} {c : Nat → List Nat} {H : Nat → Nat → Int32} {rho : Nat → Option Nat} {mu : List (Nat × Nat)} (ht : t < 6) (he : 58 ≤ e0) (hg : jt_good b s t 0 H p c) :
    (∃ H2 p2 c2, jt_c e0 t 0 rho mu H = jt_c e0 t 3 rho mu H2 ∧ jG (jS_rt t) H H2 ∧ jt_good b s t 3 H2 p2 c2 ∧ ∀ K, jt_gr b s t 0 K p c → ∃ K2, jt_m d 0 1 rho mu K = jt_m d 3 1 rho mu K2 ∧ jt_gr b s t 3 K2 p2 c2 ∧ jG (jS_rs t) K K2) ∨
    (∃ H2 f, jt_c e0 t 0 rho mu H = jt_c e0 t 3 rho mu H2 ∧ jG (jS_rt t) H H2 ∧ jz_F H2 b s t f ∧ ∀ K, jt_gr b s t 0 K p c → ∃ k K2, jt_m d 0 1 rho mu K = jt_m d k 0 rho mu K2 ∧ jt_fr t f K2 ∧ jG (jS_rs t) K K2) := by
  rcases jt_step (d := d) (rho := rho) (mu := mu) ht (by omega) he hg with ⟨H1, p1, E1, e1, g1, q1, r1⟩ | ⟨H1, f, e1, g1, F1, r1⟩
  · rcases jt_step (d := d) (rho := rho) (mu := mu) ht (by omega) he q1 with ⟨H2, p2, E2, e2, g2, q2, r2⟩ | ⟨H2, f, e2, g2, F2, r2⟩
    · rcases jt_step (d := d) (rho := rho) (mu := mu) ht (by omega) he q2 with ⟨H3, p3, E3, e3, g3, q3, r3⟩ | ⟨H3, f, e3, g3, F3, r3⟩
      · refine .inl ⟨H3, p3, _, e1.trans (e2.trans e3), jG_tr (jG_tr g1 g2) g3, q3, fun K hK => ?_⟩
        obtain ⟨A, a1, a2, a3⟩ := r1 K hK
        obtain ⟨B, b1, b2, b3⟩ := r2 A a2
        obtain ⟨D, d1, d2, d3⟩ := r3 B b2
        exact ⟨D, a1.trans (b1.trans d1), d2, jG_tr (jG_tr a3 b3) d3⟩
      · refine .inr ⟨H3, f, e1.trans (e2.trans e3), jG_tr (jG_tr g1 g2) g3, F3, fun K hK => ?_⟩
        obtain ⟨A, a1, a2, a3⟩ := r1 K hK
        obtain ⟨B, b1, b2, b3⟩ := r2 A a2
        obtain ⟨D, d1, d2, d3⟩ := r3 B b2
        exact ⟨_, D, a1.trans (b1.trans d1), d2, jG_tr (jG_tr a3 b3) d3⟩
    · obtain ⟨H3, e3, g3, F3⟩ := jt_dead (k := 2) (rho := rho) (mu := mu) ht (by omega) he F2
      refine .inr ⟨H3, f, e1.trans (e2.trans e3), jG_tr (jG_tr g1 g2) g3, F3, fun K hK => ?_⟩
      obtain ⟨A, a1, a2, a3⟩ := r1 K hK
      obtain ⟨B, b1, b2, b3⟩ := r2 A a2
      exact ⟨_, B, a1.trans b1, b2, jG_tr a3 b3⟩
  · obtain ⟨H2, e2, g2, F2⟩ := jt_dead (k := 1) (rho := rho) (mu := mu) ht (by omega) he F1
    obtain ⟨H3, e3, g3, F3⟩ := jt_dead (k := 2) (rho := rho) (mu := mu) ht (by omega) he F2
    refine .inr ⟨H3, f, e1.trans (e2.trans e3), jG_tr (jG_tr g1 g2) g3, F3, fun K hK => ?_⟩
    obtain ⟨A, a1, a2, a3⟩ := r1 K hK
    exact ⟨_, A, a1, a2, a3⟩
def jS_tx (t : Nat) : Nat → Nat → Bool := fun a k => decide (a = 30 ∧ 1 ≤ k ∧ k < 7 ∨ a = 6 + 4 * t ∧ k = 1 ∨ a = 7 + 4 * t ∨ a = 8 + 4 * t ∨ a = 1 ∧ k = 6 ∨ a = 57 ∧ (22 ≤ k ∧ k < 26 ∨ 28 ≤ k ∧ k < 31 ∨ k = 10 ∨ k = 13) ∨ a = 74 ∨ a = 65 ∧ 200 * t ≤ k ∧ k < 200 * t + 200 ∨ a = 66 ∧ 4 * t ≤ k ∧ k < 4 * t + 4)
theorem jS_txY {t a k : Nat} (h : a = 30 ∧ 1 ≤ k ∧ k < 7 ∨ a = 6 + 4 * t ∧ k = 1 ∨ a = 7 + 4 * t ∨ a = 8 + 4 * t ∨ a = 1 ∧ k = 6 ∨ a = 57 ∧ (22 ≤ k ∧ k < 26 ∨ 28 ≤ k ∧ k < 31 ∨ k = 10 ∨ k = 13) ∨ a = 74 ∨ a = 65 ∧ 200 * t ≤ k ∧ k < 200 * t + 200 ∨ a = 66 ∧ 4 * t ≤ k ∧ k < 4 * t + 4) : jS_tx t a k = true := decide_eq_true h
theorem jS_txZ {t a k : Nat} (h : ¬ (a = 30 ∧ 1 ≤ k ∧ k < 7 ∨ a = 6 + 4 * t ∧ k = 1 ∨ a = 7 + 4 * t ∨ a = 8 + 4 * t ∨ a = 1 ∧ k = 6 ∨ a = 57 ∧ (22 ≤ k ∧ k < 26 ∨ 28 ≤ k ∧ k < 31 ∨ k = 10 ∨ k = 13) ∨ a = 74 ∨ a = 65 ∧ 200 * t ≤ k ∧ k < 200 * t + 200 ∨ a = 66 ∧ 4 * t ≤ k ∧ k < 4 * t + 4)) : jS_tx t a k = false := decide_eq_false h
theorem jG_txr {t : Nat} {I J : Nat → Nat → Int32} (h : jG (jS_rt t) I J) : jG (jS_tx t) I J := jG_mo h fun a k q => by
  have := of_decide_eq_false q
  unfold jS_rt jS_rd
  rw [decide_eq_false (by omega), decide_eq_false (by omega)]; rfl
theorem jG_txs {t : Nat} {I J : Nat → Nat → Int32} (h : jG (jS_rs t) I J) : jG (jS_tx t) I J := jG_mo h fun a k q => by
  have := of_decide_eq_false q
  unfold jS_rs jS_rm
  rw [decide_eq_false (by omega), decide_eq_false (by omega)]; rfl
theorem jXc_tx {t l : Nat} {H J : Nat → Nat → Int32} {c : Nat → List Nat} (g : jG (jS_tx t) H J) (hl : l < t) (ht : t < 6) (h : jXc H l c) : jXc J l c := fun q hq => by
  obtain ⟨h1, h2⟩ := h q hq
  exact ⟨by rw [g _ _ (jS_txZ (by omega))]; exact h1, fun j hj => by rw [g _ _ (jS_txZ (by omega))]; exact h2 j hj⟩
theorem jXm_tx {t l : Nat} {H J : Nat → Nat → Int32} {c : Nat → List Nat} (g : jG (jS_tx t) H J) (hl : l < t) (ht : t < 6) (hw : jXw c) (h : jXm H l c) : jXm J l c := by
  refine ⟨fun q hq => by rw [g _ _ (jS_txZ (by omega))]; exact h.1 q hq, fun q hq j hj => ?_⟩
  have h1 := jo_le c (show q + 1 ≤ 3 by omega)
  have h2 : jo c (q + 1) = jo c q + (c q).length := rfl
  have h3 := hw.1
  rw [g _ _ (jS_txZ (by omega))]; exact h.2 q hq j hj
theorem jInv_tx {H J : Nat → Nat → Int32} {rho : Nat → Option Nat} {mu : List (Nat × Nat)} {w : jW} {m tc tc2 : Nat} {ad kd : Nat → Nat} {cds cds2 : Nat → Nat → List Nat} (hI : jInv H rho mu w m tc ad kd cds) (hmu : mu.length < 700000) (htc : tc < 6) (g : jG (jS_tx tc) H J) (h4 : jR4 J) (hle : tc ≤ tc2) (h3 : jR3 J w tc2 cds2) : jInv J rho mu w m tc2 ad kd cds2 := by
  obtain ⟨i1, i2, i3, i4, i5, i6, i7, i8⟩ := hI
  have hp : ∀ p, p < m → 80 ≤ ad p := fun p hp => (i2.2.2.2.1 p hp).2.2.1
  have hl := i3.2.2.2.1
  obtain ⟨⟨⟨a1, a2, a3, a4, a5⟩, b1, b2, b3, b4, b5, b6⟩, ⟨⟨d1, d2, d3, d4⟩, f1, f2, f3, f4, f5, f6⟩⟩ := i1
  have m6 := jR6_mo i6 g (fun a k q => jS_txZ (by omega)) i2.2.1 (fun p q => jS_txZ (by have := hp p q; omega))
  refine ⟨⟨⟨⟨?_, a2, ?_, a4, fun k hk => ?_⟩, ?_, b2, ?_, b4, b5, jXc_tx g hl htc b6⟩, ⟨⟨?_, d2, d3, fun k hk => ?_⟩, ?_, f2, ?_, f4, f5, jXm_tx g hl htc f5 f6⟩⟩, jR2_mo i2 g (fun a k q => jS_txZ (by omega)) (by omega), h3, h4, jR5_mo i5 g fun a k q => jS_txZ (by omega), ?_, jR7_mo i7 g fun k => jS_txZ (by omega), i8⟩
  · rw [g _ _ (jS_txZ (by omega))]; exact a1
  · rw [g _ _ (jS_txZ (by omega))]; exact a3
  · rw [g 2 k (jS_txZ (by omega)), g 3 k (jS_txZ (by omega))]; exact a5 k hk
  · rw [g _ _ (jS_txZ (by omega))]; exact b1
  · rw [g _ _ (jS_txZ (by omega))]; exact b3
  · rw [g _ _ (jS_txZ (by omega))]; exact d1
  · rw [g 61 k (jS_txZ (by omega)), g 62 k (jS_txZ (by omega)), g 63 k (jS_txZ (by omega))]; exact d4 k hk
  · rw [g _ _ (jS_txZ (by omega))]; exact f1
  · rw [g _ _ (jS_txZ (by omega))]; exact f3
  · obtain ⟨r1, r2⟩ := m6
    refine ⟨r1, ?_⟩
    rcases r2 with r2 | ⟨r2, n, S2, y, l, q, c1, c2, c3, c4, c5, c6⟩
    · exact .inl r2
    · exact .inr ⟨r2, n, S2, y, l, q, c1, c2, c3, by omega, c5, c6⟩
theorem jf_62 {d t : Nat} {I : Nat → Nat → Int32} {rho : Nat → Option Nat} {mu : List (Nat × Nat)} (h : I 1 6 = nI t) (ht : t < 6) : jm_ev (d + 1) 62 [.ref 1] (jm_hp I rho mu) = some (some (.ref (6 + 4 * t)), jm_hp I rho mu) := by
  have h0 : ¬ t < 0 := by omega
  have h6 : ¬ 6 ≤ t := by omega
  have hb : 0 ≤ I 1 6 ∧ (I 1 6).toNatClampNeg < 6 := by rw [h]; exact jx_ixB ht (by omega)
  have hT : jn_T rho 4 (I 1 6).toNatClampNeg = some (6 + 4 * t) := by rw [h, jx_cl (by omega)]; exact jx_txt ht
  have k1 := @jb_62_19 (jm_ev d) I rho mu (6 + 4 * t) hb hT
  simp (disch := first | assumption | omega | exact jx_bz _ | exact jx_z0 | exact jx_z1 | (refine jx_ixB ?_ ?_; omega; omega) | (simp (disch := first | omega | fail) only [jx_lit, pk_mul, nI_add, nI_pred, pk_sub, jx_na, jx_add0, Nat.reduceMul, Nat.reduceAdd, Nat.reduceSub, Nat.reduceEqDiff, Nat.reduceLeDiff, Nat.reduceLT, h, h0, h6, k1]; refine jx_ixC ?_ ?_; omega; omega) | (simp (disch := first | omega | fail) only [jx_lit, pk_mul, nI_add, nI_pred, pk_sub, jx_na, jx_add0, Nat.reduceMul, Nat.reduceAdd, Nat.reduceSub, Nat.reduceEqDiff, Nat.reduceLeDiff, Nat.reduceLT, jx_cl, nI_leI, Nat.zero_le, true_and, h, h0, h6, k1]; omega) | fail) only [je_62, jb_62_0, jb_62_7, jb_62_19, jb_62_31, jb_62_32, jb_62_32_1, jx_nl, jx_nlr, jx_thenS, jx_tlS, jx_tlN, jm_ite_go, jx_rds, jx_rdn, jx_lit, pk_mul, nI_add, nI_pred, pk_sub, jx_na, jx_add0, Nat.reduceMul, Nat.reduceAdd, Nat.reduceSub, Nat.reduceEqDiff, Nat.reduceLeDiff, Nat.reduceLT, Nat.not_lt_zero, jx_cl, nI_leI, nI_ltI, nI_eq, jx_neg, jx_neg', jx_negE, jx_negL, jx_negG, jx_negLE, jx_negN, sb_nlt, sb_nle, jx_b0, jx_b1, jx_bT, jx_bF, ite_true, ite_false, if_true, if_false, reduceIte, Bool.false_eq_true, Bool.true_eq_false, eq_self, Nat.one_ne_zero, Nat.add_sub_cancel, not_true_eq_false, not_false_eq_true, h, h0, h6, k1]
theorem jf_62n {d : Nat} {I : Nat → Nat → Int32} {rho : Nat → Option Nat} {mu : List (Nat × Nat)} (h : I 1 6 = nI 6) : jm_ev (d + 1) 62 [.ref 1] (jm_hp I rho mu) = some (some .null, jm_hp I rho mu) := by
  simp (disch := first | assumption | omega | exact jx_bz _ | exact jx_z0 | exact jx_z1 | (refine jx_ixB ?_ ?_; omega; omega) | (simp (disch := first | omega | fail) only [jx_lit, pk_mul, nI_add, nI_pred, pk_sub, jx_na, jx_add0, Nat.reduceMul, Nat.reduceAdd, Nat.reduceSub, Nat.reduceEqDiff, Nat.reduceLeDiff, Nat.reduceLT, h]; refine jx_ixC ?_ ?_; omega; omega) | (simp (disch := first | omega | fail) only [jx_lit, pk_mul, nI_add, nI_pred, pk_sub, jx_na, jx_add0, Nat.reduceMul, Nat.reduceAdd, Nat.reduceSub, Nat.reduceEqDiff, Nat.reduceLeDiff, Nat.reduceLT, jx_cl, nI_leI, Nat.zero_le, true_and, h]; omega) | fail) only [je_62, jb_62_0, jb_62_7, jb_62_19, jb_62_31, jb_62_32, jb_62_32_1, jx_nl, jx_nlr, jx_thenS, jx_tlS, jx_tlN, jm_ite_go, jx_rds, jx_rdn, jx_lit, pk_mul, nI_add, nI_pred, pk_sub, jx_na, jx_add0, Nat.reduceMul, Nat.reduceAdd, Nat.reduceSub, Nat.reduceEqDiff, Nat.reduceLeDiff, Nat.reduceLT, Nat.not_lt_zero, jx_cl, nI_leI, nI_ltI, nI_eq, jx_neg, jx_neg', jx_negE, jx_negL, jx_negG, jx_negLE, jx_negN, sb_nlt, sb_nle, jx_b0, jx_b1, jx_bT, jx_bF, ite_true, ite_false, if_true, if_false, reduceIte, Bool.false_eq_true, Bool.true_eq_false, eq_self, Nat.one_ne_zero, Nat.add_sub_cancel, not_true_eq_false, not_false_eq_true, h]
theorem jf_46 {d t : Nat} {I : Nat → Nat → Int32} {rho : Nat → Option Nat} {mu : List (Nat × Nat)} (ht : t < 6) : jm_ev (d + 1) 46 [.ref (6 + 4 * t)] (jm_hp I rho mu) = some (none, jm_hp (jm_up I (6 + 4 * t) 1 (nI 0)) rho mu) := by
  simp (disch := first | assumption | omega | exact jx_bz _ | exact jx_z0 | exact jx_z1 | (refine jx_ixB ?_ ?_; omega; omega) | (simp (disch := first | omega | fail) only [jx_lit, pk_mul, nI_add, nI_pred, pk_sub, jx_na, jx_add0, Nat.reduceMul, Nat.reduceAdd, Nat.reduceSub, Nat.reduceEqDiff, Nat.reduceLeDiff, Nat.reduceLT]; refine jx_ixC ?_ ?_; omega; omega) | (simp (disch := first | omega | fail) only [jx_lit, pk_mul, nI_add, nI_pred, pk_sub, jx_na, jx_add0, Nat.reduceMul, Nat.reduceAdd, Nat.reduceSub, Nat.reduceEqDiff, Nat.reduceLeDiff, Nat.reduceLT, jx_cl, nI_leI, Nat.zero_le, true_and]; omega) | fail) only [je_46, jb_46_0, jx_nl, jx_nlr, jx_thenS, jx_tlS, jx_tlN, jm_ite_go, jx_rds, jx_rdn, jx_lit, pk_mul, nI_add, nI_pred, pk_sub, jx_na, jx_add0, Nat.reduceMul, Nat.reduceAdd, Nat.reduceSub, Nat.reduceEqDiff, Nat.reduceLeDiff, Nat.reduceLT, Nat.not_lt_zero, jx_cl, nI_leI, nI_ltI, nI_eq, jx_neg, jx_neg', jx_negE, jx_negL, jx_negG, jx_negLE, jx_negN, sb_nlt, sb_nle, jx_b0, jx_b1, jx_bT, jx_bF, ite_true, ite_false, if_true, if_false, reduceIte, Bool.false_eq_true, Bool.true_eq_false, eq_self, Nat.one_ne_zero, Nat.add_sub_cancel, not_true_eq_false, not_false_eq_true]
theorem jq_text : jCall 84 168 [] := by
  intro d H rho mu hV hmu
  obtain ⟨w, m, tc, ad, kd, cds, hI⟩ := id hV
  obtain ⟨h1, h2, h3, h4, h5, h6, h7, h8⟩ := id hI
  obtain ⟨c1, c2, c3, c4, c5, c6⟩ := id h3
  by_cases z6 : tc = 6
  · subst z6
    have k62 := @jf_62n (d + 58) H rho mu c2
    exact jCall_no (v := .int (-nI 4)) hV (by simp (disch := first | assumption | omega | exact jx_bz _ | exact jx_z0 | exact jx_z1 | (refine jx_ixB ?_ ?_; omega; omega) | (simp (disch := first | omega | fail) only [jx_lit, pk_mul, nI_add, nI_pred, pk_sub, jx_na, jx_add0, Nat.reduceMul, Nat.reduceAdd, Nat.reduceSub, Nat.reduceEqDiff, Nat.reduceLeDiff, Nat.reduceLT, k62]; refine jx_ixC ?_ ?_; omega; omega) | (simp (disch := first | omega | fail) only [jx_lit, pk_mul, nI_add, nI_pred, pk_sub, jx_na, jx_add0, Nat.reduceMul, Nat.reduceAdd, Nat.reduceSub, Nat.reduceEqDiff, Nat.reduceLeDiff, Nat.reduceLT, jx_cl, nI_leI, Nat.zero_le, true_and, k62]; omega) | fail) only [je_84, jb_84_0, jb_84_7, jb_84_7_1, jb_84_12, jb_84_15, jb_84_23, jb_84_36, jb_84_41, jx_nl, jx_nlr, jx_thenS, jx_tlS, jx_tlN, jm_ite_go, jx_rds, jx_rdn, jx_lit, pk_mul, nI_add, nI_pred, pk_sub, jx_na, jx_add0, Nat.reduceMul, Nat.reduceAdd, Nat.reduceSub, Nat.reduceEqDiff, Nat.reduceLeDiff, Nat.reduceLT, Nat.not_lt_zero, jx_cl, nI_leI, nI_ltI, nI_eq, jx_neg, jx_neg', jx_negE, jx_negL, jx_negG, jx_negLE, jx_negN, sb_nlt, sb_nle, jx_b0, jx_b1, jx_bT, jx_bF, ite_true, ite_false, if_true, if_false, reduceIte, Bool.false_eq_true, Bool.true_eq_false, eq_self, Nat.one_ne_zero, Nat.add_sub_cancel, not_true_eq_false, not_false_eq_true, k62]) (by simp (disch := first | assumption | omega | exact jx_bz _ | exact jx_z0 | exact jx_z1 | (refine jx_ixB ?_ ?_; omega; omega) | (simp (disch := first | omega | fail) only [jx_lit, pk_mul, nI_add, nI_pred, pk_sub, jx_na, jx_add0, Nat.reduceMul, Nat.reduceAdd, Nat.reduceSub, Nat.reduceEqDiff, Nat.reduceLeDiff, Nat.reduceLT, c3]; refine jx_ixC ?_ ?_; omega; omega) | (simp (disch := first | omega | fail) only [jx_lit, pk_mul, nI_add, nI_pred, pk_sub, jx_na, jx_add0, Nat.reduceMul, Nat.reduceAdd, Nat.reduceSub, Nat.reduceEqDiff, Nat.reduceLeDiff, Nat.reduceLT, jx_cl, nI_leI, Nat.zero_le, true_and, c3]; omega) | fail) only [je_168, jb_168_0, jb_168_9, jb_168_12, jb_168_31, jb_168_35, jb_168_39, jb_168_47, jb_168_55, jb_168_59, jb_168_60, jb_168_82, jb_168_86, jb_168_89, jb_168_93, jb_168_94, jb_168_101, jb_168_105, jb_168_109, jb_168_116, jb_168_120, jb_168_121, jb_168_122, jb_168_148, jb_168_156, jx_nl, jx_nlr, jx_thenS, jx_tlS, jx_tlN, jm_ite_go, jx_rds, jx_rdn, jx_lit, pk_mul, nI_add, nI_pred, pk_sub, jx_na, jx_add0, Nat.reduceMul, Nat.reduceAdd, Nat.reduceSub, Nat.reduceEqDiff, Nat.reduceLeDiff, Nat.reduceLT, Nat.not_lt_zero, jx_cl, nI_leI, nI_ltI, nI_eq, jx_neg, jx_neg', jx_negE, jx_negL, jx_negG, jx_negLE, jx_negN, sb_nlt, sb_nle, jx_b0, jx_b1, jx_bT, jx_bF, ite_true, ite_false, if_true, if_false, reduceIte, Bool.false_eq_true, Bool.true_eq_false, eq_self, Nat.one_ne_zero, Nat.add_sub_cancel, not_true_eq_false, not_false_eq_true, c3])
  · have ht : tc < 6 := by omega
    have k62 := @jf_62 (d + 58) tc H rho mu c2 ht
    obtain ⟨s, s160, c30, c57, cT⟩ := h4
    obtain ⟨b, hb⟩ : ∃ b : Nat → Nat, b = fun k => if k < s then (H 31 k).toNatClampNeg else 0 := ⟨_, rfl⟩
    have hbk : ∀ k, k < s → H 31 k = nI (b k) ∧ b k < 256 := fun k hk => by
      obtain ⟨x, hx, e⟩ := jx_in_of (by decide) (cT k hk).2
      have : b k = x := by rw [hb]; dsimp only; rw [if_pos hk, e, jx_cl (by omega)]
      rw [this]; exact ⟨e, hx⟩
    have hb4 : ∀ k, b k < 256 := fun k => by
      by_cases z : k < s
      · exact (hbk k z).2
      · rw [hb]; dsimp only; rw [if_neg z]; decide
    -- the class begins
    obtain ⟨A, hA⟩ : ∃ A, A = jm_up (jm_up (jm_up H 30 2 (nI 0)) 30 6 (-nI 1)) (6 + 4 * tc) 1 (nI 0) := ⟨_, rfl⟩
    have hBA : jz_B A b s := by
      rw [hA]
      exact ⟨by rw [jx_rdn (by omega), jx_rdn (by omega), jx_rdn (by omega)]; exact c30, s160, fun k hk => by rw [jx_rdn (by omega), jx_rdn (by omega), jx_rdn (by omega)]; exact (hbk k hk).1, hb4⟩
    have gA : jG (jS_tx tc) H A := by rw [hA]; exact jG_up (jG_up (jG_up jG_rf (jS_txY (by omega))) (jS_txY (by omega))) (jS_txY (by omega))
    obtain ⟨B, k37, gB, e1, e2, e3, e4⟩ := jf_37 (d := d + 51) (p := 0) (rho := rho) (mu := mu) hBA (by rw [hA, jx_rdn (by omega), jx_rds]) (by rw [hA, jx_rdn (by omega), jx_rdn (by omega), jx_rds]) (Nat.zero_le s)
    have hKB : jz_K B b s 0 := ⟨jz_B_mo hBA gB fun a k q => jS_lxZ (by omega), by rw [gB _ _ (jS_lxZ (by omega)), hA, jx_rdn (by omega), jx_rds], e1, e2, e3, e4⟩
    have hDB : jz_D B tc [] := ⟨by rw [gB _ _ (jS_lxZ (by omega)), hA, jx_rds]; rfl, by decide, fun j hj => absurd hj (Nat.not_lt_zero _)⟩
    have k46 := @jf_46 (d + 57) tc (jm_up (jm_up H 30 2 (nI 0)) 30 6 (-nI 1)) rho mu ht
    rw [← hA] at k46
    have c27 : jm_ev (d + 59) 27 [.ref 30, .ref (6 + 4 * tc)] (jm_hp H rho mu) = jt_c (d + 58) tc 0 rho mu B := by
      unfold jt_c
      simp (disch := first | assumption | omega | exact jx_bz _ | exact jx_z0 | exact jx_z1 | (refine jx_ixB ?_ ?_; omega; omega) | (simp (disch := first | omega | fail) only [jx_lit, pk_mul, nI_add, nI_pred, pk_sub, jx_na, jx_add0, Nat.reduceMul, Nat.reduceAdd, Nat.reduceSub, Nat.reduceEqDiff, Nat.reduceLeDiff, Nat.reduceLT, k46, k37]; refine jx_ixC ?_ ?_; omega; omega) | (simp (disch := first | omega | fail) only [jx_lit, pk_mul, nI_add, nI_pred, pk_sub, jx_na, jx_add0, Nat.reduceMul, Nat.reduceAdd, Nat.reduceSub, Nat.reduceEqDiff, Nat.reduceLeDiff, Nat.reduceLT, jx_cl, nI_leI, Nat.zero_le, true_and, k46, k37]; omega) | fail) only [je_27, jb_27_0, jb_27_14, jb_27_18, jb_27_25, jb_27_32, jb_27_38, jb_27_44, jb_27_49, jb_27_55, jb_27_60, jx_nl, jx_nlr, jx_thenS, jx_tlS, jx_tlN, jm_ite_go, jx_rds, jx_rdn, jx_lit, pk_mul, nI_add, nI_pred, pk_sub, jx_na, jx_add0, Nat.reduceMul, Nat.reduceAdd, Nat.reduceSub, Nat.reduceEqDiff, Nat.reduceLeDiff, Nat.reduceLT, Nat.not_lt_zero, jx_cl, nI_leI, nI_ltI, nI_eq, jx_neg, jx_neg', jx_negE, jx_negL, jx_negG, jx_negLE, jx_negN, sb_nlt, sb_nle, jx_b0, jx_b1, jx_bT, jx_bF, ite_true, ite_false, if_true, if_false, reduceIte, Bool.false_eq_true, Bool.true_eq_false, eq_self, Nat.one_ne_zero, Nat.add_sub_cancel, not_true_eq_false, not_false_eq_true, k46, k37]
    have hgood : jt_good b s tc 0 B 0 (fun _ => []) := ⟨hKB, Nat.zero_le s, hDB, Nat.le_refl _, fun q hq => absurd hq (Nat.not_lt_zero _), fun q hq => absurd hq (Nat.not_lt_zero _)⟩
    have gHB : jG (jS_tx tc) H B := jG_tr gA (jG_txr (jG_rdt (jG_lxrd gB)))
    -- where the reference begins
    have href : ∀ J : Nat → Nat → Int32, (∀ a k, 57 ≤ a → a < 80 → J a k = H a k) → ∃ K0, jm_ev (d + 60) 168 [.ref 57] (jm_hp J rho mu) = jt_m (d + 54) 0 1 rho mu K0 ∧ jt_gr b s tc 0 K0 0 (fun _ => []) ∧ jG (jS_tx tc) J K0 ∧ ∀ a k, a < 57 → K0 a k = J a k := fun J hJ => by
      have j13 : J 57 13 = nI tc := by rw [hJ _ _ (by omega) (by omega)]; exact c3
      refine ⟨jm_up (jm_up J 57 22 (nI 0)) 57 30 (nI 0), ?_, ⟨⟨⟨?_, s160, fun k hk => ?_, hb4, fun i hi => ?_⟩, ?_, ?_, ⟨?_, fun j hj => absurd hj (Nat.not_lt_zero _)⟩, by decide, ht⟩, fun q hq => absurd hq (Nat.not_lt_zero _)⟩, jG_up (jG_up jG_rf (jS_txY (by omega))) (jS_txY (by omega)), fun a k h1 => ?_⟩
      · unfold jt_m
        simp (disch := first | assumption | omega | exact jx_bz _ | exact jx_z0 | exact jx_z1 | (refine jx_ixB ?_ ?_; omega; omega) | (simp (disch := first | omega | fail) only [jx_lit, pk_mul, nI_add, nI_pred, pk_sub, jx_na, jx_add0, Nat.reduceMul, Nat.reduceAdd, Nat.reduceSub, Nat.reduceEqDiff, Nat.reduceLeDiff, Nat.reduceLT, j13, z6]; refine jx_ixC ?_ ?_; omega; omega) | (simp (disch := first | omega | fail) only [jx_lit, pk_mul, nI_add, nI_pred, pk_sub, jx_na, jx_add0, Nat.reduceMul, Nat.reduceAdd, Nat.reduceSub, Nat.reduceEqDiff, Nat.reduceLeDiff, Nat.reduceLT, jx_cl, nI_leI, Nat.zero_le, true_and, j13, z6]; omega) | fail) only [je_168, jb_168_0, jb_168_9, jb_168_12, jb_168_31, jb_168_35, jb_168_39, jb_168_47, jb_168_55, jb_168_59, jb_168_60, jb_168_82, jb_168_86, jb_168_89, jb_168_93, jb_168_94, jb_168_101, jb_168_105, jb_168_109, jb_168_116, jb_168_120, jb_168_121, jb_168_122, jb_168_148, jb_168_156, jx_nl, jx_nlr, jx_thenS, jx_tlS, jx_tlN, jm_ite_go, jx_rds, jx_rdn, jx_lit, pk_mul, nI_add, nI_pred, pk_sub, jx_na, jx_add0, Nat.reduceMul, Nat.reduceAdd, Nat.reduceSub, Nat.reduceEqDiff, Nat.reduceLeDiff, Nat.reduceLT, Nat.not_lt_zero, jx_cl, nI_leI, nI_ltI, nI_eq, jx_neg, jx_neg', jx_negE, jx_negL, jx_negG, jx_negLE, jx_negN, sb_nlt, sb_nle, jx_b0, jx_b1, jx_bT, jx_bF, ite_true, ite_false, if_true, if_false, reduceIte, Bool.false_eq_true, Bool.true_eq_false, eq_self, Nat.one_ne_zero, Nat.add_sub_cancel, not_true_eq_false, not_false_eq_true, j13, z6]
      · rw [jx_rdn (by omega), jx_rdn (by omega), hJ _ _ (by omega) (by omega)]; exact c57
      · rw [jx_rdn (by omega), jx_rdn (by omega), hJ _ _ (by omega) (by omega), (cT k hk).1]; exact (hbk k hk).1
      · rw [jx_rdn (by omega), jx_rdn (by omega), hJ _ _ (by omega) (by omega)]; exact h7 i hi
      · rw [jx_rdn (by omega), jx_rdn (by omega)]; exact j13
      · rw [jx_rdn (by omega), jx_rds]
      · rw [jx_rds]; rfl
      · rw [jx_rdn (by omega), jx_rdn (by omega)]
    have rsl : ∀ {I J : Nat → Nat → Int32}, jG (jS_rs tc) I J → ∀ a k, a < 57 → J a k = I a k := fun g a k h => g a k (by unfold jS_rs jS_rm; rw [decide_eq_false (by omega), decide_eq_false (by omega)]; rfl)
    have rtl : ∀ {I J : Nat → Nat → Int32}, jG (jS_rt tc) I J → ∀ a k, ¬ a = 30 → ¬ (6 ≤ a ∧ a < 31) → J a k = I a k := fun g a k h h2 => g a k (by unfold jS_rt jS_rd; rw [decide_eq_false (by omega), decide_eq_false (by omega)]; rfl)
    have BH : ∀ a k, ¬ a = 30 → ¬ (6 ≤ a ∧ a < 31) → B a k = H a k := fun a k h h2 => by rw [gB a k (jS_lxZ (by omega)), hA, jx_rdn (by omega), jx_rdn (by omega), jx_rdn (by omega)]
    -- a fault in both
    have bad : ∀ X f, jm_ev (d + 59) 27 [.ref 30, .ref (6 + 4 * tc)] (jm_hp H rho mu) = some (some (.int (nI f)), jm_hp X rho mu) → f ≤ 160 → jG (jS_rt tc) B X → (∀ K, jt_gr b s tc 0 K 0 (fun _ => []) → ∃ l2 K2, jt_m (d + 54) 0 1 rho mu K = jm_go (jm_ev (d + 59)) 168 (122, [some (.ref 57), some (.int (nI 0)), l2], [], jm_hp K2 rho mu) ∧ jt_fr tc f K2 ∧ jG (jS_rs tc) K K2) →
        ∃ v H1 H2 rho2 mu2, jm_ev (d + 60) 84 (.ref 0 :: []) (jm_hp H rho mu) = some (some v, jm_hp H1 rho2 mu2) ∧ jm_ev (d + 60) 168 (.ref 57 :: []) (jm_hp H1 rho2 mu2) = some (some v, jm_hp H2 rho2 mu2) ∧ jV H2 rho2 mu2 ∧ mu2.length ≤ mu.length + 6 ∧ ∀ a, 900000 ≤ a → H2 a = H a := fun X f eX hf gX hr => by
      have gHX : jG (jS_tx tc) H X := jG_tr gHB (jG_txr gX)
      obtain ⟨J, hJ⟩ : ∃ J, J = jm_up X 30 1 (nI 0) := ⟨_, rfl⟩
      have gJ : jG (jS_tx tc) H J := by rw [hJ]; exact jG_up gHX (jS_txY (by omega))
      have lo : ∀ a k, 57 ≤ a → a < 80 → J a k = H a k := fun a k h1 h2 => by
        rw [hJ, jx_rdn (by omega), rtl gX a k (by omega) (by omega), BH a k (by omega) (by omega)]
      have lo1 : J 1 6 = nI tc := by rw [hJ, jx_rdn (by omega), rtl gX 1 6 (by omega) (by omega), BH 1 6 (by omega) (by omega)]; exact c2
      obtain ⟨K0, m0, r0, g0, l0⟩ := href J lo
      obtain ⟨l2, K2, m1, ⟨f1, f2, z, hz, f3⟩, g1⟩ := hr K0 r0
      obtain ⟨M, hM⟩ : ∃ M, M = jm_up (jm_up K2 66 (4 * tc + 3) (nI z)) 57 10 (nI 0) := ⟨_, rfl⟩
      have hc : jm_ev (d + 60) 84 [.ref 0] (jm_hp H rho mu) = some (some (.int (-nI 100 - nI f)), jm_hp J rho mu) := by
        have z0 : ¬ f < 0 := by omega
        rw [hJ]
        simp (disch := first | assumption | omega | exact jx_bz _ | exact jx_z0 | exact jx_z1 | (refine jx_ixB ?_ ?_; omega; omega) | (simp (disch := first | omega | fail) only [jx_lit, pk_mul, nI_add, nI_pred, pk_sub, jx_na, jx_add0, Nat.reduceMul, Nat.reduceAdd, Nat.reduceSub, Nat.reduceEqDiff, Nat.reduceLeDiff, Nat.reduceLT, k62, eX, z0]; refine jx_ixC ?_ ?_; omega; omega) | (simp (disch := first | omega | fail) only [jx_lit, pk_mul, nI_add, nI_pred, pk_sub, jx_na, jx_add0, Nat.reduceMul, Nat.reduceAdd, Nat.reduceSub, Nat.reduceEqDiff, Nat.reduceLeDiff, Nat.reduceLT, jx_cl, nI_leI, Nat.zero_le, true_and, k62, eX, z0]; omega) | fail) only [je_84, jb_84_0, jb_84_7, jb_84_7_1, jb_84_12, jb_84_15, jb_84_23, jb_84_36, jb_84_41, jx_nl, jx_nlr, jx_thenS, jx_tlS, jx_tlN, jm_ite_go, jx_rds, jx_rdn, jx_lit, pk_mul, nI_add, nI_pred, pk_sub, jx_na, jx_add0, Nat.reduceMul, Nat.reduceAdd, Nat.reduceSub, Nat.reduceEqDiff, Nat.reduceLeDiff, Nat.reduceLT, Nat.not_lt_zero, jx_cl, nI_leI, nI_ltI, nI_eq, jx_neg, jx_neg', jx_negE, jx_negL, jx_negG, jx_negLE, jx_negN, sb_nlt, sb_nle, jx_b0, jx_b1, jx_bT, jx_bF, ite_true, ite_false, if_true, if_false, reduceIte, Bool.false_eq_true, Bool.true_eq_false, eq_self, Nat.one_ne_zero, Nat.add_sub_cancel, not_true_eq_false, not_false_eq_true, k62, eX, z0]
      have zi : 4 * tc + 3 < 24 := by omega
      have hm : jm_ev (d + 60) 168 [.ref 57] (jm_hp J rho mu) = some (some (.int (-nI 100 - nI f)), jm_hp M rho mu) := by
        rw [m0, m1, hM]
        simp (disch := first | assumption | omega | exact jx_bz _ | exact jx_z0 | exact jx_z1 | (refine jx_ixB ?_ ?_; omega; omega) | (simp (disch := first | omega | fail) only [jx_lit, pk_mul, nI_add, nI_pred, pk_sub, jx_na, jx_add0, Nat.reduceMul, Nat.reduceAdd, Nat.reduceSub, Nat.reduceEqDiff, Nat.reduceLeDiff, Nat.reduceLT, f1, f2, f3]; refine jx_ixC ?_ ?_; omega; omega) | (simp (disch := first | omega | fail) only [jx_lit, pk_mul, nI_add, nI_pred, pk_sub, jx_na, jx_add0, Nat.reduceMul, Nat.reduceAdd, Nat.reduceSub, Nat.reduceEqDiff, Nat.reduceLeDiff, Nat.reduceLT, jx_cl, nI_leI, Nat.zero_le, true_and, f1, f2, f3]; omega) | fail) only [jb_168_0, jb_168_9, jb_168_12, jb_168_31, jb_168_35, jb_168_39, jb_168_47, jb_168_55, jb_168_59, jb_168_60, jb_168_82, jb_168_86, jb_168_89, jb_168_93, jb_168_94, jb_168_101, jb_168_105, jb_168_109, jb_168_116, jb_168_120, jb_168_121, jb_168_122, jb_168_148, jb_168_156, jx_nl, jx_nlr, jx_thenS, jx_tlS, jx_tlN, jm_ite_go, jx_rds, jx_rdn, jx_lit, pk_mul, nI_add, nI_pred, pk_sub, jx_na, jx_add0, Nat.reduceMul, Nat.reduceAdd, Nat.reduceSub, Nat.reduceEqDiff, Nat.reduceLeDiff, Nat.reduceLT, Nat.not_lt_zero, jx_cl, nI_leI, nI_ltI, nI_eq, jx_neg, jx_neg', jx_negE, jx_negL, jx_negG, jx_negLE, jx_negN, sb_nlt, sb_nle, jx_b0, jx_b1, jx_bT, jx_bF, ite_true, ite_false, if_true, if_false, reduceIte, Bool.false_eq_true, Bool.true_eq_false, eq_self, Nat.one_ne_zero, Nat.add_sub_cancel, not_true_eq_false, not_false_eq_true, f1, f2, f3]
      have gM : jG (jS_tx tc) H M := by rw [hM]; exact jG_up (jG_up (jG_tr (jG_tr gJ g0) (jG_txs g1)) (jS_txY (by omega))) (jS_txY (by omega))
      have Ml : ∀ a k, a < 57 → M a k = J a k := fun a k h => by rw [hM, jx_rdn (by omega), jx_rdn (by omega), rsl g1 a k h, l0 a k h]
      refine ⟨.int (-nI 100 - nI f), J, M, rho, mu, hc, hm, ⟨_, _, _, _, _, _, jInv_tx hI hmu ht gM ⟨0, by omega, ?_, ?_, fun k hk => absurd hk (Nat.not_lt_zero _)⟩ (Nat.le_refl _) ⟨c1, ?_, ?_, c4, c5, fun q hq => ?_⟩⟩, by omega, fun a ha => jG_o gM fun k => jS_txZ (by omega)⟩
      · rw [Ml _ _ (by omega), hJ, jx_rds]
      · rw [hM, jx_rds]
      · rw [Ml _ _ (by omega)]; exact lo1
      · rw [hM, jx_rdn (by omega), jx_rdn (by omega)]; exact f1
      · obtain ⟨x1, x2, x3⟩ := c6 q hq
        exact ⟨x1, jXc_tx gM hq ht x2, jXm_tx gM hq ht x1 x3⟩
    rcases jt_run (d := d + 54) (e0 := d + 58) (rho := rho) (mu := mu) ht (by omega) hgood with ⟨D, p2, c, q1, gD, q2, q3⟩ | ⟨D, f, q1, gD, FD, q3⟩
    · obtain ⟨KD, hp2, DD, hCD, hEnd, hcodes⟩ := q2
      have htv := jz_tv_of b s p2
      have i2 := jz_ct_2 htv
      rw [← KD.2.2.2.1] at i2
      by_cases hT : jz_t b s p2 = 0
      · -- a text in both
        obtain ⟨D2, k35, KD2, gD2⟩ := jz_take (e := d + 58) (due := nI 2) (rho := rho) (mu := mu) (by omega) KD hp2 (i2.mpr hT)
        have D26 := KD2.2.1
        have eX : jm_ev (d + 59) 27 [.ref 30, .ref (6 + 4 * tc)] (jm_hp H rho mu) = some (some (.int (-nI 1)), jm_hp D2 rho mu) := by
          rw [c27, q1]
          unfold jt_c
          rw [jb_27_20]
          simp (disch := first | assumption | omega | exact jx_bz _ | exact jx_z0 | exact jx_z1 | (refine jx_ixB ?_ ?_; omega; omega) | (simp (disch := first | omega | fail) only [jx_lit, pk_mul, nI_add, nI_pred, pk_sub, jx_na, jx_add0, Nat.reduceMul, Nat.reduceAdd, Nat.reduceSub, Nat.reduceEqDiff, Nat.reduceLeDiff, Nat.reduceLT, Nat.le_refl, k35, D26]; refine jx_ixC ?_ ?_; omega; omega) | (simp (disch := first | omega | fail) only [jx_lit, pk_mul, nI_add, nI_pred, pk_sub, jx_na, jx_add0, Nat.reduceMul, Nat.reduceAdd, Nat.reduceSub, Nat.reduceEqDiff, Nat.reduceLeDiff, Nat.reduceLT, jx_cl, nI_leI, Nat.zero_le, true_and, Nat.le_refl, k35, D26]; omega) | fail) only [jb_27_0, jb_27_14, jb_27_18, jb_27_25, jb_27_32, jb_27_38, jb_27_44, jb_27_49, jb_27_55, jb_27_60, jx_nl, jx_nlr, jx_thenS, jx_tlS, jx_tlN, jm_ite_go, jx_rds, jx_rdn, jx_lit, pk_mul, nI_add, nI_pred, pk_sub, jx_na, jx_add0, Nat.reduceMul, Nat.reduceAdd, Nat.reduceSub, Nat.reduceEqDiff, Nat.reduceLeDiff, Nat.reduceLT, Nat.not_lt_zero, jx_cl, nI_leI, nI_ltI, nI_eq, jx_neg, jx_neg', jx_negE, jx_negL, jx_negG, jx_negLE, jx_negN, sb_nlt, sb_nle, jx_b0, jx_b1, jx_bT, jx_bF, ite_true, ite_false, if_true, if_false, reduceIte, Bool.false_eq_true, Bool.true_eq_false, eq_self, Nat.one_ne_zero, Nat.add_sub_cancel, not_true_eq_false, not_false_eq_true, Nat.le_refl, k35, D26]
        have gX : jG (jS_rt tc) B D2 := jG_tr gD (jG_rdt (jG_lxrd gD2))
        have lo16 : D2 1 6 = nI tc := by rw [rtl gX 1 6 (by omega) (by omega), BH 1 6 (by omega) (by omega)]; exact c2
        obtain ⟨J, hJ⟩ : ∃ J, J = jm_up (jm_up D2 30 1 (nI 0)) 1 6 (nI (tc + 1)) := ⟨_, rfl⟩
        have gJ : jG (jS_tx tc) H J := by rw [hJ]; exact jG_up (jG_up (jG_tr gHB (jG_txr gX)) (jS_txY (by omega))) (jS_txY (by omega))
        have lo : ∀ a k, 57 ≤ a → a < 80 → J a k = H a k := fun a k h1 h2 => by
          rw [hJ, jx_rdn (by omega), jx_rdn (by omega), rtl gX a k (by omega) (by omega), BH a k (by omega) (by omega)]
        obtain ⟨K0, m0, r0, g0, l0⟩ := href J lo
        obtain ⟨K2, m1, ⟨m2, m3⟩, g1⟩ := q3 K0 r0
        obtain ⟨K3, k159, g3, y1, y2, y3, y4⟩ := jf_159 (d := d + 57) (rho := rho) (mu := mu) m2.1 m2.2.2.1 hp2
        have Q3 := jt_Q_lm m2 g3 y1
        have y3 : K3 57 24 = nI 0 := by rw [y3, hT]; rfl
        have v13 := Q3.2.1
        have v30 := Q3.2.2.2.1.1
        have vlen := Q3.2.2.2.2.1
        obtain ⟨M, hM⟩ : ∃ M, M = jm_up (jm_up (jm_up K3 66 (4 * tc + 3) (nI (jz_cat c 3).length)) 57 10 (nI 0)) 57 13 (nI (tc + 1)) := ⟨_, rfl⟩
        have hc : jm_ev (d + 60) 84 [.ref 0] (jm_hp H rho mu) = some (some (.int (nI tc)), jm_hp J rho mu) := by
          rw [hJ]
          simp (disch := first | assumption | omega | exact jx_bz _ | exact jx_z0 | exact jx_z1 | (refine jx_ixB ?_ ?_; omega; omega) | (simp (disch := first | omega | fail) only [jx_lit, pk_mul, nI_add, nI_pred, pk_sub, jx_na, jx_add0, Nat.reduceMul, Nat.reduceAdd, Nat.reduceSub, Nat.reduceEqDiff, Nat.reduceLeDiff, Nat.reduceLT, k62, eX, lo16]; refine jx_ixC ?_ ?_; omega; omega) | (simp (disch := first | omega | fail) only [jx_lit, pk_mul, nI_add, nI_pred, pk_sub, jx_na, jx_add0, Nat.reduceMul, Nat.reduceAdd, Nat.reduceSub, Nat.reduceEqDiff, Nat.reduceLeDiff, Nat.reduceLT, jx_cl, nI_leI, Nat.zero_le, true_and, k62, eX, lo16]; omega) | fail) only [je_84, jb_84_0, jb_84_7, jb_84_7_1, jb_84_12, jb_84_15, jb_84_23, jb_84_36, jb_84_41, jx_nl, jx_nlr, jx_thenS, jx_tlS, jx_tlN, jm_ite_go, jx_rds, jx_rdn, jx_lit, pk_mul, nI_add, nI_pred, pk_sub, jx_na, jx_add0, Nat.reduceMul, Nat.reduceAdd, Nat.reduceSub, Nat.reduceEqDiff, Nat.reduceLeDiff, Nat.reduceLT, Nat.not_lt_zero, jx_cl, nI_leI, nI_ltI, nI_eq, jx_neg, jx_neg', jx_negE, jx_negL, jx_negG, jx_negLE, jx_negN, sb_nlt, sb_nle, jx_b0, jx_b1, jx_bT, jx_bF, ite_true, ite_false, if_true, if_false, reduceIte, Bool.false_eq_true, Bool.true_eq_false, eq_self, Nat.one_ne_zero, Nat.add_sub_cancel, not_true_eq_false, not_false_eq_true, k62, eX, lo16]
        have zi : 4 * tc + 3 < 24 := by omega
        have hm : jm_ev (d + 60) 168 [.ref 57] (jm_hp J rho mu) = some (some (.int (nI tc)), jm_hp M rho mu) := by
          rw [m0, m1, hM]
          unfold jt_m
          rw [jb_168_26]
          simp (disch := first | assumption | omega | exact jx_bz _ | exact jx_z0 | exact jx_z1 | (refine jx_ixB ?_ ?_; omega; omega) | (simp (disch := first | omega | fail) only [jx_lit, pk_mul, nI_add, nI_pred, pk_sub, jx_na, jx_add0, Nat.reduceMul, Nat.reduceAdd, Nat.reduceSub, Nat.reduceEqDiff, Nat.reduceLeDiff, Nat.reduceLT, Nat.le_refl, k159, y3, v13, v30]; refine jx_ixC ?_ ?_; omega; omega) | (simp (disch := first | omega | fail) only [jx_lit, pk_mul, nI_add, nI_pred, pk_sub, jx_na, jx_add0, Nat.reduceMul, Nat.reduceAdd, Nat.reduceSub, Nat.reduceEqDiff, Nat.reduceLeDiff, Nat.reduceLT, jx_cl, nI_leI, Nat.zero_le, true_and, Nat.le_refl, k159, y3, v13, v30]; omega) | fail) only [jb_168_0, jb_168_9, jb_168_12, jb_168_31, jb_168_35, jb_168_39, jb_168_47, jb_168_55, jb_168_59, jb_168_60, jb_168_82, jb_168_86, jb_168_89, jb_168_93, jb_168_94, jb_168_101, jb_168_105, jb_168_109, jb_168_116, jb_168_120, jb_168_121, jb_168_122, jb_168_148, jb_168_156, jx_nl, jx_nlr, jx_thenS, jx_tlS, jx_tlN, jm_ite_go, jx_rds, jx_rdn, jx_lit, pk_mul, nI_add, nI_pred, pk_sub, jx_na, jx_add0, Nat.reduceMul, Nat.reduceAdd, Nat.reduceSub, Nat.reduceEqDiff, Nat.reduceLeDiff, Nat.reduceLT, Nat.not_lt_zero, jx_cl, nI_leI, nI_ltI, nI_eq, jx_neg, jx_neg', jx_negE, jx_negL, jx_negG, jx_negLE, jx_negN, sb_nlt, sb_nle, jx_b0, jx_b1, jx_bT, jx_bF, ite_true, ite_false, if_true, if_false, reduceIte, Bool.false_eq_true, Bool.true_eq_false, eq_self, Nat.one_ne_zero, Nat.add_sub_cancel, not_true_eq_false, not_false_eq_true, Nat.le_refl, k159, y3, v13, v30]
        have gM : jG (jS_tx tc) H M := by rw [hM]; exact jG_up (jG_up (jG_up (jG_tr (jG_tr gJ g0) (jG_tr (jG_txs g1) (jG_txs (jG_rms (jG_lmm g3))))) (jS_txY (by omega))) (jS_txY (by omega))) (jS_txY (by omega))
        have Ml : ∀ a k, a < 57 → M a k = J a k := fun a k h => by rw [hM, jx_rdn (by omega), jx_rdn (by omega), jx_rdn (by omega), g3 a k (decide_eq_false (by omega)), rsl g1 a k h, l0 a k h]
        have Jt : ∀ a k, ¬ a = 30 → ¬ a = 1 → J a k = D a k := fun a k h h2 => by rw [hJ, jx_rdn (by omega), jx_rdn (by omega), gD2 a k (jS_lxZ (by omega))]
        have hlen3 : jo c 3 ≤ 160 := by rw [← jz_cat_len]; exact DD.2.1
        have hw : jXw c := ⟨hlen3, fun q hq => hcodes q hq⟩
        have hcat : ∀ q, q < 3 → ∀ j, j < (c q).length → jo c q + j < (jz_cat c 3).length ∧ (jz_cat c 3).getD (jo c q + j) 0 = (c q).getD j 0 := fun q hq j hj => by
          refine ⟨?_, jz_cat_get c 3 q j hq hj⟩
          have h1 := jo_le c (show q + 1 ≤ 3 by omega)
          have h2 : jo c (q + 1) = jo c q + (c q).length := rfl
          rw [jz_cat_len]; omega
        refine ⟨.int (nI tc), J, M, rho, mu, hc, hm, ⟨_, _, _, _, _, (fun q => if q = tc then c else cds q), jInv_tx hI hmu ht gM ⟨0, by omega, ?_, ?_, fun k hk => absurd hk (Nat.not_lt_zero _)⟩ (Nat.le_succ _) ⟨by omega, ?_, ?_, by omega, ?_, fun q hq => ?_⟩⟩, by omega, fun a ha => jG_o gM fun k => jS_txZ (by omega)⟩
        · rw [Ml _ _ (by omega), hJ, jx_rdn (by omega), jx_rds]
        · rw [hM, jx_rdn (by omega), jx_rds]
        · rw [Ml _ _ (by omega), hJ, jx_rds]
        · rw [hM, jx_rds]
        · dsimp only
          rw [if_neg (by omega)]; exact c5
        · by_cases zq : q = tc
          · subst zq
            dsimp only
            rw [if_pos rfl]
            refine ⟨hw, fun r hr => ⟨?_, fun j hj => ?_⟩, fun r hr => ?_, fun r hr j hj => ?_⟩
            · rw [Ml _ _ (by omega), Jt _ _ (by omega) (by omega)]; exact hEnd r hr
            · obtain ⟨x1, x2⟩ := hcat r hr j hj
              rw [Ml _ _ (by omega), Jt _ _ (by omega) (by omega), DD.2.2 _ x1, x2]
            · by_cases z3 : r = 3
              · subst z3
                rw [hM, jx_rdn (by omega), jx_rdn (by omega), jx_rds, jz_cat_len]
              · rw [hM, jx_rdn (by omega), jx_rdn (by omega), jx_rdn (by omega), g3 66 _ (decide_eq_false (by omega))]; exact m3 r (by omega)
            · obtain ⟨x1, x2⟩ := hcat r hr j hj
              rw [hM, jx_rdn (by omega), jx_rdn (by omega), jx_rdn (by omega), Q3.2.2.2.1.2 _ x1, x2]
          · dsimp only
            rw [if_neg zq]
            obtain ⟨x1, x2, x3⟩ := c6 q (by omega)
            exact ⟨x1, jXc_tx gM (by omega) ht x2, jXm_tx gM (by omega) ht x1 x3⟩
      · obtain ⟨D2, k35, FD2, gD2⟩ := jz_takeN (e := d + 58) (due := nI 2) (rho := rho) (mu := mu) ht (by omega) KD DD hp2 (fun q => hT (i2.mp q))
        have D26 := FD2.2.1
        refine bad D2 (jz_r b s p2) ?_ (by have := (jz_r_le b hp2).2; omega) (jG_tr gD (jG_rdt gD2)) fun K hK => ?_
        · rw [c27, q1]
          unfold jt_c
          rw [jb_27_20]
          simp (disch := first | assumption | omega | exact jx_bz _ | exact jx_z0 | exact jx_z1 | (refine jx_ixB ?_ ?_; omega; omega) | (simp (disch := first | omega | fail) only [jx_lit, pk_mul, nI_add, nI_pred, pk_sub, jx_na, jx_add0, Nat.reduceMul, Nat.reduceAdd, Nat.reduceSub, Nat.reduceEqDiff, Nat.reduceLeDiff, Nat.reduceLT, Nat.le_refl, k35, D26]; refine jx_ixC ?_ ?_; omega; omega) | (simp (disch := first | omega | fail) only [jx_lit, pk_mul, nI_add, nI_pred, pk_sub, jx_na, jx_add0, Nat.reduceMul, Nat.reduceAdd, Nat.reduceSub, Nat.reduceEqDiff, Nat.reduceLeDiff, Nat.reduceLT, jx_cl, nI_leI, Nat.zero_le, true_and, Nat.le_refl, k35, D26]; omega) | fail) only [jb_27_0, jb_27_14, jb_27_18, jb_27_25, jb_27_32, jb_27_38, jb_27_44, jb_27_49, jb_27_55, jb_27_60, jx_nl, jx_nlr, jx_thenS, jx_tlS, jx_tlN, jm_ite_go, jx_rds, jx_rdn, jx_lit, pk_mul, nI_add, nI_pred, pk_sub, jx_na, jx_add0, Nat.reduceMul, Nat.reduceAdd, Nat.reduceSub, Nat.reduceEqDiff, Nat.reduceLeDiff, Nat.reduceLT, Nat.not_lt_zero, jx_cl, nI_leI, nI_ltI, nI_eq, jx_neg, jx_neg', jx_negE, jx_negL, jx_negG, jx_negLE, jx_negN, sb_nlt, sb_nle, jx_b0, jx_b1, jx_bT, jx_bF, ite_true, ite_false, if_true, if_false, reduceIte, Bool.false_eq_true, Bool.true_eq_false, eq_self, Nat.one_ne_zero, Nat.add_sub_cancel, not_true_eq_false, not_false_eq_true, Nat.le_refl, k35, D26]
        · obtain ⟨K2, m1, ⟨m2, m3⟩, g1⟩ := q3 K hK
          obtain ⟨K3, k159, g3, y1, y2, y3, y4⟩ := jf_159 (d := d + 57) (rho := rho) (mu := mu) m2.1 m2.2.2.1 hp2
          have Q3 := jt_Q_lm m2 g3 y1
          have n0 := jz_mt_ne (jz_t_lt b s p2 hb4) (show 0 < 256 by omega) hT (by omega)
          rw [← y3] at n0
          refine ⟨some (.int (nI 3)), K3, ?_, ⟨Q3.2.1, y2, _, Q3.2.2.2.2.1, Q3.2.2.2.1.1⟩, jG_tr g1 (jG_rms (jG_lmm g3))⟩
          rw [m1]
          unfold jt_m
          rw [jb_168_26]
          simp (disch := first | assumption | omega | fail) only [jb_168_101, jb_168_105, jb_168_109, jb_168_120, jb_168_121, jx_thenS, jx_tlN, List.append_nil, List.nil_append, Option.toList, jx_lit, nI_leI, nI_eq, Nat.le_refl, Nat.one_ne_zero, if_true, if_false, ite_true, ite_false, k159, n0]
    · have F6 := FD.2.1
      obtain ⟨D2, k35, FD2, gD2⟩ := jz_F_take (e := d + 58) (due := nI 2) (rho := rho) (mu := mu) ht (by omega) FD (by decide)
      have D26 := FD2.2.1
      refine bad D2 f ?_ FD.2.2.2.1 (jG_tr gD (jG_rdt gD2)) fun K hK => ?_
      · rw [c27, q1]
        unfold jt_c
        rw [jb_27_20]
        simp (disch := first | assumption | omega | exact jx_bz _ | exact jx_z0 | exact jx_z1 | (refine jx_ixB ?_ ?_; omega; omega) | (simp (disch := first | omega | fail) only [jx_lit, pk_mul, nI_add, nI_pred, pk_sub, jx_na, jx_add0, Nat.reduceMul, Nat.reduceAdd, Nat.reduceSub, Nat.reduceEqDiff, Nat.reduceLeDiff, Nat.reduceLT, Nat.le_refl, k35, D26]; refine jx_ixC ?_ ?_; omega; omega) | (simp (disch := first | omega | fail) only [jx_lit, pk_mul, nI_add, nI_pred, pk_sub, jx_na, jx_add0, Nat.reduceMul, Nat.reduceAdd, Nat.reduceSub, Nat.reduceEqDiff, Nat.reduceLeDiff, Nat.reduceLT, jx_cl, nI_leI, Nat.zero_le, true_and, Nat.le_refl, k35, D26]; omega) | fail) only [jb_27_0, jb_27_14, jb_27_18, jb_27_25, jb_27_32, jb_27_38, jb_27_44, jb_27_49, jb_27_55, jb_27_60, jx_nl, jx_nlr, jx_thenS, jx_tlS, jx_tlN, jm_ite_go, jx_rds, jx_rdn, jx_lit, pk_mul, nI_add, nI_pred, pk_sub, jx_na, jx_add0, Nat.reduceMul, Nat.reduceAdd, Nat.reduceSub, Nat.reduceEqDiff, Nat.reduceLeDiff, Nat.reduceLT, Nat.not_lt_zero, jx_cl, nI_leI, nI_ltI, nI_eq, jx_neg, jx_neg', jx_negE, jx_negL, jx_negG, jx_negLE, jx_negN, sb_nlt, sb_nle, jx_b0, jx_b1, jx_bT, jx_bF, ite_true, ite_false, if_true, if_false, reduceIte, Bool.false_eq_true, Bool.true_eq_false, eq_self, Nat.one_ne_zero, Nat.add_sub_cancel, not_true_eq_false, not_false_eq_true, Nat.le_refl, k35, D26]
      · obtain ⟨k, K2, m1, fr, g1⟩ := q3 K hK
        refine ⟨some (.int (nI k)), K2, ?_, fr, g1⟩
        rw [m1]
        unfold jt_m
        rw [jb_168_26]
        by_cases z3 : nI 3 ≤ nI k
        · simp (disch := first | assumption | omega | fail) only [jb_168_101, jx_lit, z3, if_true, ite_true]
        · simp (disch := first | assumption | omega | fail) only [jb_168_31, jb_168_101, jx_lit, z3, if_true, ite_true, if_false, ite_false]
