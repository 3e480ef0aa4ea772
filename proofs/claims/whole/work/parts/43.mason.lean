/-! MASON -/
def js_fl (w : jW) (k : Nat) : jW := (jwn w, jwa w, jwb w, jwS w ^^^ 2 ^ k, jwy w, jwl w, jwc w)
theorem js_each_le (w : jW) (kd : Nat → Nat) (P : Nat → Nat → Int32) : ∀ m, js_each w kd P m ≤ 12 * m := by
  intro m
  induction m with
  | zero => exact Nat.le_refl _
  | succ m ih => rw [js_each]; have := jx_cnt_le (js_reach w (kd m) (P m)) 12; omega
def jS_b : Nat → Nat → Bool := fun a k => jS_st a k || (a == 1 && k == 3)
theorem jS_bN {a k : Nat} (h : jS_st a k = false) (h2 : ¬ (a = 1 ∧ k = 3)) : jS_b a k = false := by
  unfold jS_b; rw [h]; simp; omega
theorem jS_bst {a k : Nat} (h : jS_b a k = false) : jS_st a k = false ∧ ¬ (a = 1 ∧ k = 3) := by
  unfold jS_b at h; simp at h; exact ⟨h.1, by omega⟩
theorem jCt_fl {H I : Nat → Nat → Int32} {w : jW} {k : Nat} (h : jCt H w) (g : jG jS_b H I) (hk : k < jwn w) : jCt (jm_up I 1 3 (nI (jwS w ^^^ 2 ^ k))) (js_fl w k) := by
  have u : ∀ a c, jS_st a c = false → ¬ (a = 1 ∧ c = 3) → jm_up I 1 3 (nI (jwS w ^^^ 2 ^ k)) a c = H a c := fun a c h1 h2 => by
    rw [jx_rdn h2, g a c (jS_bN h1 h2)]
  have u2 : ∀ a, jS_st a 0 = false → a ≠ 1 → jm_up I 1 3 (nI (jwS w ^^^ 2 ^ k)) a = H a := fun a h1 h2 => funext fun c => u a c h1 (fun q => h2 q.1)
  obtain ⟨⟨a1, a2, a3, a4, a5⟩, b1, b2, b3, b4, b5, b6⟩ := h
  refine ⟨⟨?_, a2, jx_rds, Nat.xor_lt_two_pow a4 (Nat.pow_lt_pow_right (by decide) hk), ?_⟩, ?_, b2, ?_, b4, b5, ?_⟩
  · exact (u 1 2 rfl (by omega)).trans a1
  · rw [u2 2 rfl (by omega), u2 3 rfl (by omega)]; exact a5
  · exact (u 1 4 rfl (by omega)).trans b1
  · exact (u 1 7 rfl (by omega)).trans b3
  · intro q hq
    have k1 : jm_up I 1 3 (nI (jwS w ^^^ 2 ^ k)) (8 + 4 * jwl w) = H (8 + 4 * jwl w) := by
      apply u2 _ _ (by omega)
      rcases jm_lt6 b4 with h | h | h | h | h | h <;> rw [h] <;> rfl
    have k2 : jm_up I 1 3 (nI (jwS w ^^^ 2 ^ k)) (7 + 4 * jwl w) = H (7 + 4 * jwl w) := by
      apply u2 _ _ (by omega)
      rcases jm_lt6 b4 with h | h | h | h | h | h <;> rw [h] <;> rfl
    show jm_up I 1 3 (nI (jwS w ^^^ 2 ^ k)) (8 + 4 * jwl w) q = _ ∧ ∀ j, _ → jm_up I 1 3 (nI (jwS w ^^^ 2 ^ k)) (7 + 4 * jwl w) _ = _
    rw [k1, k2]; exact b6 q hq
theorem js_flb {w : jW} {k j : Nat} : (jwS (js_fl w k)).testBit j = ((jwS w).testBit j != decide (k = j)) := by
  show (jwS w ^^^ 2 ^ k).testBit j = _
  rw [Nat.testBit_xor, Nat.testBit_two_pow]
theorem jx_bn (b : Bool) : nI 1 - jx_b b = jx_b (!b) := by cases b <;> rfl
theorem jMt_fl {I : Nat → Nat → Int32} {w : jW} {k : Nat} (h : jMt I w) (hk : k < jwn w) : jMt (jm_up I 63 k (jx_b (!(jwS w).testBit k))) (js_fl w k) := by
  have u2 : ∀ a, a ≠ 63 → jm_up I 63 k (jx_b (!(jwS w).testBit k)) a = I a := fun a h2 => funext fun c => jx_rdn (fun q => h2 q.1)
  obtain ⟨⟨a1, a2, a3, a4⟩, b1, b2, b3, b4, b5, b6⟩ := h
  refine ⟨⟨?_, a2, Nat.xor_lt_two_pow a3 (Nat.pow_lt_pow_right (by decide) hk), fun j hj => ?_⟩, ?_, b2, ?_, b4, b5, ?_⟩
  · rw [u2 57 (by omega)]; exact a1
  · obtain ⟨c1, c2, c3, c4, c5, c6⟩ := a4 j hj
    refine ⟨?_, c2, ?_, c4, c5, ?_⟩
    · rw [u2 61 (by omega)]; exact c1
    · rw [u2 62 (by omega)]; exact c3
    · rw [js_flb]
      by_cases q : k = j
      · subst q
        rw [jx_rds, decide_eq_true rfl]; cases (jwS w).testBit k <;> rfl
      · rw [jx_rdn (fun z => q z.2.symm), c6, decide_eq_false q]; cases (jwS w).testBit j <;> rfl
  · rw [u2 57 (by omega)]; exact b1
  · rw [u2 57 (by omega)]; exact b3
  · unfold jXm; rw [u2 65 (by omega), u2 66 (by omega)]; exact b6
theorem jq_mason (x : Int32) : jCall 97 200 [.int x] := by
  refine jCall_ask fun d H rho mu w m tc ad kd cds hI hmu => ?_
  obtain ⟨h1, h2, -⟩ := hI
  have pm6 := h2.2.1
  obtain ⟨t2, u7, tn12⟩ := jR1_c h1
  have t3 : H 1 3 = nI (jwS w) := h1.1.1.2.2.1
  have hS0 : jwS w < 2 ^ jwn w := h1.1.1.2.2.2.1
  have hS1 := Nat.lt_of_lt_of_le hS0 (jx_pow12 tn12)
  rcases jx_rng x 1 (by decide) with ⟨hx, -, k143⟩ | ⟨q, hq, rfl, k143⟩
  · have z0 : ¬ x = nI 0 := jx_in_ne hx (by omega) (by decide)
    have z1 : ¬ x = nI 1 := jx_in_ne hx (by omega) (by decide)
    exact ⟨.int (-nI 2), H, ⟨by simp (disch := first | assumption | omega | exact jx_bz _ | exact jx_z0 | exact jx_z1 | (refine jx_ixB ?_ ?_; omega; omega) | (simp (disch := first | omega | fail) only [jx_lit, pk_mul, nI_add, nI_pred, pk_sub, jx_na, jx_add0, Nat.reduceMul, Nat.reduceAdd, Nat.reduceSub, Nat.reduceEqDiff, Nat.reduceLeDiff, Nat.reduceLT, z0, z1]; refine jx_ixC ?_ ?_; omega; omega) | (simp (disch := first | omega | fail) only [jx_lit, pk_mul, nI_add, nI_pred, pk_sub, jx_na, jx_add0, Nat.reduceMul, Nat.reduceAdd, Nat.reduceSub, Nat.reduceEqDiff, Nat.reduceLeDiff, Nat.reduceLT, jx_cl, nI_leI, Nat.zero_le, true_and, z0, z1]; omega) | fail) only [je_97, jb_97_0, jb_97_4, jb_97_9, jb_97_12, jb_97_18, jb_97_43, jb_97_61, jb_97_69, jb_97_75, jb_97_81, jb_97_94, jb_97_98, jb_97_99, jx_nl, jx_nlr, jx_thenS, jx_tlS, jx_tlN, jm_ite_go, jx_rds, jx_rdn, jx_lit, pk_mul, nI_add, nI_pred, pk_sub, jx_na, jx_add0, Nat.reduceMul, Nat.reduceAdd, Nat.reduceSub, Nat.reduceEqDiff, Nat.reduceLeDiff, Nat.reduceLT, Nat.not_lt_zero, jx_cl, nI_leI, nI_ltI, nI_eq, jx_neg, jx_neg', jx_negE, jx_negL, jx_negG, jx_negLE, jx_negN, sb_nlt, sb_nle, jx_b0, jx_b1, jx_bT, jx_bF, ite_true, ite_false, if_true, if_false, reduceIte, Bool.false_eq_true, Bool.true_eq_false, eq_self, Nat.one_ne_zero, Nat.add_sub_cancel, not_true_eq_false, not_false_eq_true, z0, z1], jG_rf⟩, H, by simp (disch := first | assumption | omega | exact jx_bz _ | exact jx_z0 | exact jx_z1 | (refine jx_ixB ?_ ?_; omega; omega) | (simp (disch := first | omega | fail) only [jx_lit, pk_mul, nI_add, nI_pred, pk_sub, jx_na, jx_add0, Nat.reduceMul, Nat.reduceAdd, Nat.reduceSub, Nat.reduceEqDiff, Nat.reduceLeDiff, Nat.reduceLT, k143]; refine jx_ixC ?_ ?_; omega; omega) | (simp (disch := first | omega | fail) only [jx_lit, pk_mul, nI_add, nI_pred, pk_sub, jx_na, jx_add0, Nat.reduceMul, Nat.reduceAdd, Nat.reduceSub, Nat.reduceEqDiff, Nat.reduceLeDiff, Nat.reduceLT, jx_cl, nI_leI, Nat.zero_le, true_and, k143]; omega) | fail) only [je_200, jb_200_0, jb_200_6, jb_200_9, jb_200_12, jb_200_18, jb_200_31, jb_200_51, jb_200_75, jb_200_80, jb_200_81, jb_200_88, jb_200_93, jb_200_94, jb_200_101, jb_200_105, jb_200_109, jb_200_110, jx_nl, jx_nlr, jx_thenS, jx_tlS, jx_tlN, jm_ite_go, jx_rds, jx_rdn, jx_lit, pk_mul, nI_add, nI_pred, pk_sub, jx_na, jx_add0, Nat.reduceMul, Nat.reduceAdd, Nat.reduceSub, Nat.reduceEqDiff, Nat.reduceLeDiff, Nat.reduceLT, Nat.not_lt_zero, jx_cl, nI_leI, nI_ltI, nI_eq, jx_neg, jx_neg', jx_negE, jx_negL, jx_negG, jx_negLE, jx_negN, sb_nlt, sb_nle, jx_b0, jx_b1, jx_bT, jx_bF, ite_true, ite_false, if_true, if_false, reduceIte, Bool.false_eq_true, Bool.true_eq_false, eq_self, Nat.one_ne_zero, Nat.add_sub_cancel, not_true_eq_false, not_false_eq_true, k143], jG_rf⟩
  · let P : Nat → Nat → Int32 := fun p => H (ad p)
    have hc : jPc H rho mu (jwn w) m ad kd P := jR2_c h2
    let m0 := js_each w kd P m
    let F : Nat → Nat := fun k => js_each (js_fl w k) kd P m
    have hm0 : m0 < 100 := by have := js_each_le w kd P m; show js_each w kd P m < 100; omega
    have hF : ∀ k, F k < 100 := fun k => by have := js_each_le (js_fl w k) kd P m; show js_each (js_fl w k) kd P m < 100; omega
    have hb13 : ∀ k, (js_bm F m0 k).2 < 100 := fun k => js_bm_lt hm0 k fun j _ => hF j
    obtain ⟨J1, c1, c2⟩ := jf_133 (d := d + 52) h1.1 hc
    rw [show js_each w kd P m = m0 from rfl] at c1
    have t3J : J1 1 3 = nI (jwS w) := by rw [c2 1 3 rfl]; exact t3
    have lc : ∃ J v6, jm_go (jm_ev (d + 59)) 97 (31, [some (.ref 0), some (.int (nI q)), some (.int (-nI 1)), some (.int (nI m0)), some (.int (nI (jwS w))), some (.int (nI 0)), none], [], jm_hp J1 rho mu) = jm_go (jm_ev (d + 59)) 97 (31, [some (.ref 0), some (.int (nI q)), some (.int (js_bm F m0 (jwn w)).1), some (.int (nI (js_bm F m0 (jwn w)).2)), some (.int (nI (jwS w))), some (.int (nI (jwn w))), v6], [], jm_hp J rho mu) ∧ jG jS_b H J := by
      obtain ⟨⟨J, v6⟩, e, g⟩ := jx_for (E := jm_ev (d + 59)) (y := 97) (σ := (Nat → Nat → Int32) × Option Value) (jwn w) (fun k s => (31, [some (.ref 0), some (.int (nI q)), some (.int (js_bm F m0 k).1), some (.int (nI (js_bm F m0 k).2)), some (.int (nI (jwS w))), some (.int (nI k)), s.2], [], jm_hp s.1 rho mu)) (fun k s => jG jS_b H s.1) (fun k s hk hg => by
        obtain ⟨J, v6⟩ := s
        dsimp only at hg ⊢
        have hn : J 1 2 = nI (jwn w) := by rw [hg 1 2 (jS_bN rfl (by omega))]; exact t2
        have hcu : jPc (jm_up J 1 3 (nI (jwS w ^^^ 2 ^ k))) rho mu (jwn w) m ad kd P := jPc_mo hc (jG_up hg rfl) (jS_bN rfl (by omega)) fun p c hp => jS_bN (jS_43 (by have := (hc.2.2 p hp).2.2.1; omega)) (by have := (hc.2.2 p hp).2.2.1; omega)
        obtain ⟨K, f1, f2⟩ := jf_133 (d := d + 52) (w := js_fl w k) (jCt_fl h1.1 hg hk) hcu
        rw [show js_each (js_fl w k) kd P m = F k from rfl] at f1
        have gK : jG jS_b H K := jG_tr (jG_up hg rfl) (jG_mo f2 fun a c z => (jS_bst z).1)
        have zn : ¬ jwn w ≤ k := by omega
        have hb := hb13 k
        have hFk := hF k
        refine ⟨(K, some (.int (nI (F k)))), ?_, gK⟩
        rw [jb_97_31]
        by_cases zq : F k ≤ (js_bm F m0 k).2
        · rw [js_bm_F (by omega)]
          simp (disch := first | assumption | omega | exact jx_bz _ | exact jx_z0 | exact jx_z1 | (refine jx_ixB ?_ ?_; omega; omega) | (simp (disch := first | omega | fail) only [jx_lit, pk_mul, nI_add, nI_pred, pk_sub, jx_na, jx_add0, Nat.reduceMul, Nat.reduceAdd, Nat.reduceSub, Nat.reduceEqDiff, Nat.reduceLeDiff, Nat.reduceLT, hn, zn, jx_one, fa_xor, f1, zq]; refine jx_ixC ?_ ?_; omega; omega) | (simp (disch := first | omega | fail) only [jx_lit, pk_mul, nI_add, nI_pred, pk_sub, jx_na, jx_add0, Nat.reduceMul, Nat.reduceAdd, Nat.reduceSub, Nat.reduceEqDiff, Nat.reduceLeDiff, Nat.reduceLT, jx_cl, nI_leI, Nat.zero_le, true_and, hn, zn, jx_one, fa_xor, f1, zq]; omega) | fail) only [jb_97_0, jb_97_4, jb_97_9, jb_97_12, jb_97_18, jb_97_43, jb_97_61, jb_97_69, jb_97_75, jb_97_81, jb_97_94, jb_97_98, jb_97_99, jx_nl, jx_nlr, jx_thenS, jx_tlS, jx_tlN, jm_ite_go, jx_rds, jx_rdn, jx_lit, pk_mul, nI_add, nI_pred, pk_sub, jx_na, jx_add0, Nat.reduceMul, Nat.reduceAdd, Nat.reduceSub, Nat.reduceEqDiff, Nat.reduceLeDiff, Nat.reduceLT, Nat.not_lt_zero, jx_cl, nI_leI, nI_ltI, nI_eq, jx_neg, jx_neg', jx_negE, jx_negL, jx_negG, jx_negLE, jx_negN, sb_nlt, sb_nle, jx_b0, jx_b1, jx_bT, jx_bF, ite_true, ite_false, if_true, if_false, reduceIte, Bool.false_eq_true, Bool.true_eq_false, eq_self, Nat.one_ne_zero, Nat.add_sub_cancel, not_true_eq_false, not_false_eq_true, hn, zn, jx_one, fa_xor, f1, zq]
        · rw [js_bm_T (by omega)]
          simp (disch := first | assumption | omega | exact jx_bz _ | exact jx_z0 | exact jx_z1 | (refine jx_ixB ?_ ?_; omega; omega) | (simp (disch := first | omega | fail) only [jx_lit, pk_mul, nI_add, nI_pred, pk_sub, jx_na, jx_add0, Nat.reduceMul, Nat.reduceAdd, Nat.reduceSub, Nat.reduceEqDiff, Nat.reduceLeDiff, Nat.reduceLT, hn, zn, jx_one, fa_xor, f1, zq]; refine jx_ixC ?_ ?_; omega; omega) | (simp (disch := first | omega | fail) only [jx_lit, pk_mul, nI_add, nI_pred, pk_sub, jx_na, jx_add0, Nat.reduceMul, Nat.reduceAdd, Nat.reduceSub, Nat.reduceEqDiff, Nat.reduceLeDiff, Nat.reduceLT, jx_cl, nI_leI, Nat.zero_le, true_and, hn, zn, jx_one, fa_xor, f1, zq]; omega) | fail) only [jb_97_0, jb_97_4, jb_97_9, jb_97_12, jb_97_18, jb_97_43, jb_97_61, jb_97_69, jb_97_75, jb_97_81, jb_97_94, jb_97_98, jb_97_99, jx_nl, jx_nlr, jx_thenS, jx_tlS, jx_tlN, jm_ite_go, jx_rds, jx_rdn, jx_lit, pk_mul, nI_add, nI_pred, pk_sub, jx_na, jx_add0, Nat.reduceMul, Nat.reduceAdd, Nat.reduceSub, Nat.reduceEqDiff, Nat.reduceLeDiff, Nat.reduceLT, Nat.not_lt_zero, jx_cl, nI_leI, nI_ltI, nI_eq, jx_neg, jx_neg', jx_negE, jx_negL, jx_negG, jx_negLE, jx_negN, sb_nlt, sb_nle, jx_b0, jx_b1, jx_bT, jx_bF, ite_true, ite_false, if_true, if_false, reduceIte, Bool.false_eq_true, Bool.true_eq_false, eq_self, Nat.one_ne_zero, Nat.add_sub_cancel, not_true_eq_false, not_false_eq_true, hn, zn, jx_one, fa_xor, f1, zq]) (jwn w) 0 (J1, none) (Nat.zero_add _) (jG_mo c2 fun a c z => (jS_bst z).1)
      exact ⟨J, v6, e, g⟩
    obtain ⟨J0, v6, e5, gJ0⟩ := lc
    have t2J0 : J0 1 2 = nI (jwn w) := by rw [gJ0 1 2 (jS_bN rfl (by omega))]; exact t2
    have gJs : jG jS_st H (jm_up J0 1 3 (nI (jwS w))) := fun a c z => by
      by_cases h : a = 1 ∧ c = 3
      · obtain ⟨rfl, rfl⟩ := h
        rw [jx_rds]; exact t3.symm
      · rw [jx_rdn h]; exact gJ0 a c (jS_bN z h)
    obtain ⟨J, hJ⟩ : ∃ J, J = jm_up J0 1 3 (nI (jwS w)) := ⟨_, rfl⟩
    rw [← hJ] at gJs
    have gJ := jG_Kst gJs
    obtain ⟨r1, r2, r3⟩ := jR_K h1 h2 gJ hmu
    have hpm : jPm J (jwn w) m kd P := ⟨r2.2.2.1, pm6, fun p hp => by
      obtain ⟨a1, a2, a3, a4, a5, a6, a7⟩ := r2.2.2.2.1 p hp
      rw [r3 p hp] at a6 a7
      exact ⟨a2.1, a6, a7⟩⟩
    obtain ⟨L1, m1, m2⟩ := jf_199 (d := d + 51) (rho := rho) (mu := mu) r1.2 hpm
    rw [show js_each w kd P m = m0 from rfl] at m1
    have lm : ∃ L v5, jm_go (jm_ev (d + 59)) 200 (22, [some (.ref 57), some (.int (nI q)), some (.int (-nI 1)), some (.int (nI m0)), some (.int (nI 0)), none], [], jm_hp L1 rho mu) = jm_go (jm_ev (d + 59)) 200 (22, [some (.ref 57), some (.int (nI q)), some (.int (js_bm F m0 (jwn w)).1), some (.int (nI (js_bm F m0 (jwn w)).2)), some (.int (nI (jwn w))), v5], [], jm_hp L rho mu) ∧ jG jS_m J L := by
      obtain ⟨⟨L, v5⟩, e, g⟩ := jx_for (E := jm_ev (d + 59)) (y := 200) (σ := (Nat → Nat → Int32) × Option Value) (jwn w) (fun k s => (22, [some (.ref 57), some (.int (nI q)), some (.int (js_bm F m0 k).1), some (.int (nI (js_bm F m0 k).2)), some (.int (nI k)), s.2], [], jm_hp s.1 rho mu)) (fun k s => jG jS_m J s.1) (fun k s hk hg => by
        obtain ⟨L, v5⟩ := s
        dsimp only at hg ⊢
        have hw := jMt_m r1.2 hg
        have hn : L 57 7 = nI (jwn w) := hw.1.1
        have u63 : L 63 k = jx_b ((jwS w).testBit k) := (hw.1.2.2.2 k hk).2.2.2.2.2
        have hpL := jPm_m hpm hg
        have hpu : jPm (jm_up L 63 k (jx_b (!(jwS w).testBit k))) (jwn w) m kd P := jPm_mo (S := fun a _ => decide (a = 63)) hpL (jG_up jG_rf (decide_eq_true rfl)) fun a c z => decide_eq_false (by omega)
        obtain ⟨K, f1, f2⟩ := jf_199 (d := d + 51) (rho := rho) (mu := mu) (w := js_fl w k) (jMt_fl hw hk) hpu
        rw [show js_each (js_fl w k) kd P m = F k from rfl] at f1
        have uK : K 63 k = jx_b (!(jwS w).testBit k) := by rw [f2 63 k (jS_mZ (by omega)), jx_rds]
        have gK : jG jS_m J (jm_up K 63 k (jx_b ((jwS w).testBit k))) := jG_tr hg fun a c z => by
          by_cases h : a = 63 ∧ c = k
          · obtain ⟨rfl, rfl⟩ := h
            rw [jx_rds]; exact u63.symm
          · rw [jx_rdn h, f2 a c z, jx_rdn h]
        have zn : ¬ jwn w ≤ k := by omega
        have hb := hb13 k
        have hFk := hF k
        refine ⟨(jm_up K 63 k (jx_b ((jwS w).testBit k)), some (.int (nI (F k)))), ?_, gK⟩
        rw [jb_200_22]
        by_cases zq : F k ≤ (js_bm F m0 k).2
        · rw [js_bm_F (by omega)]
          simp (disch := first | assumption | omega | exact jx_bz _ | exact jx_z0 | exact jx_z1 | (refine jx_ixB ?_ ?_; omega; omega) | (simp (disch := first | omega | fail) only [jx_lit, pk_mul, nI_add, nI_pred, pk_sub, jx_na, jx_add0, Nat.reduceMul, Nat.reduceAdd, Nat.reduceSub, Nat.reduceEqDiff, Nat.reduceLeDiff, Nat.reduceLT, hn, zn, u63, uK, jx_bn, Bool.not_not, f1, zq]; refine jx_ixC ?_ ?_; omega; omega) | (simp (disch := first | omega | fail) only [jx_lit, pk_mul, nI_add, nI_pred, pk_sub, jx_na, jx_add0, Nat.reduceMul, Nat.reduceAdd, Nat.reduceSub, Nat.reduceEqDiff, Nat.reduceLeDiff, Nat.reduceLT, jx_cl, nI_leI, Nat.zero_le, true_and, hn, zn, u63, uK, jx_bn, Bool.not_not, f1, zq]; omega) | fail) only [jb_200_0, jb_200_6, jb_200_9, jb_200_12, jb_200_18, jb_200_31, jb_200_51, jb_200_75, jb_200_80, jb_200_81, jb_200_88, jb_200_93, jb_200_94, jb_200_101, jb_200_105, jb_200_109, jb_200_110, jx_nl, jx_nlr, jx_thenS, jx_tlS, jx_tlN, jm_ite_go, jx_rds, jx_rdn, jx_lit, pk_mul, nI_add, nI_pred, pk_sub, jx_na, jx_add0, Nat.reduceMul, Nat.reduceAdd, Nat.reduceSub, Nat.reduceEqDiff, Nat.reduceLeDiff, Nat.reduceLT, Nat.not_lt_zero, jx_cl, nI_leI, nI_ltI, nI_eq, jx_neg, jx_neg', jx_negE, jx_negL, jx_negG, jx_negLE, jx_negN, sb_nlt, sb_nle, jx_b0, jx_b1, jx_bT, jx_bF, ite_true, ite_false, if_true, if_false, reduceIte, Bool.false_eq_true, Bool.true_eq_false, eq_self, Nat.one_ne_zero, Nat.add_sub_cancel, not_true_eq_false, not_false_eq_true, hn, zn, u63, uK, jx_bn, Bool.not_not, f1, zq]
        · rw [js_bm_T (by omega)]
          simp (disch := first | assumption | omega | exact jx_bz _ | exact jx_z0 | exact jx_z1 | (refine jx_ixB ?_ ?_; omega; omega) | (simp (disch := first | omega | fail) only [jx_lit, pk_mul, nI_add, nI_pred, pk_sub, jx_na, jx_add0, Nat.reduceMul, Nat.reduceAdd, Nat.reduceSub, Nat.reduceEqDiff, Nat.reduceLeDiff, Nat.reduceLT, hn, zn, u63, uK, jx_bn, Bool.not_not, f1, zq]; refine jx_ixC ?_ ?_; omega; omega) | (simp (disch := first | omega | fail) only [jx_lit, pk_mul, nI_add, nI_pred, pk_sub, jx_na, jx_add0, Nat.reduceMul, Nat.reduceAdd, Nat.reduceSub, Nat.reduceEqDiff, Nat.reduceLeDiff, Nat.reduceLT, jx_cl, nI_leI, Nat.zero_le, true_and, hn, zn, u63, uK, jx_bn, Bool.not_not, f1, zq]; omega) | fail) only [jb_200_0, jb_200_6, jb_200_9, jb_200_12, jb_200_18, jb_200_31, jb_200_51, jb_200_75, jb_200_80, jb_200_81, jb_200_88, jb_200_93, jb_200_94, jb_200_101, jb_200_105, jb_200_109, jb_200_110, jx_nl, jx_nlr, jx_thenS, jx_tlS, jx_tlN, jm_ite_go, jx_rds, jx_rdn, jx_lit, pk_mul, nI_add, nI_pred, pk_sub, jx_na, jx_add0, Nat.reduceMul, Nat.reduceAdd, Nat.reduceSub, Nat.reduceEqDiff, Nat.reduceLeDiff, Nat.reduceLT, Nat.not_lt_zero, jx_cl, nI_leI, nI_ltI, nI_eq, jx_neg, jx_neg', jx_negE, jx_negL, jx_negG, jx_negLE, jx_negN, sb_nlt, sb_nle, jx_b0, jx_b1, jx_bT, jx_bF, ite_true, ite_false, if_true, if_false, reduceIte, Bool.false_eq_true, Bool.true_eq_false, eq_self, Nat.one_ne_zero, Nat.add_sub_cancel, not_true_eq_false, not_false_eq_true, hn, zn, u63, uK, jx_bn, Bool.not_not, f1, zq]) (jwn w) 0 (L1, none) (Nat.zero_add _) m2
      exact ⟨L, v5, e, g⟩
    obtain ⟨L, v5, e6, gL⟩ := lm
    have hnL : L 57 7 = nI (jwn w) := (jMt_m r1.2 gL).1.1
    have hb := hb13 (jwn w)
    have k143 := k143 (d + 58) J rho mu
    rcases (show q = 0 ∨ q = 1 by omega) with zq | zq <;> subst zq
    · refine ⟨.int (js_bm F m0 (jwn w)).1, J, ⟨?_, gJ⟩, L, ?_, jG_Km gL⟩
      · simp (disch := first | assumption | omega | exact jx_bz _ | exact jx_z0 | exact jx_z1 | (refine jx_ixB ?_ ?_; omega; omega) | (simp (disch := first | omega | fail) only [jx_lit, pk_mul, nI_add, nI_pred, pk_sub, jx_na, jx_add0, Nat.reduceMul, Nat.reduceAdd, Nat.reduceSub, Nat.reduceEqDiff, Nat.reduceLeDiff, Nat.reduceLT, c1, t3J]; refine jx_ixC ?_ ?_; omega; omega) | (simp (disch := first | omega | fail) only [jx_lit, pk_mul, nI_add, nI_pred, pk_sub, jx_na, jx_add0, Nat.reduceMul, Nat.reduceAdd, Nat.reduceSub, Nat.reduceEqDiff, Nat.reduceLeDiff, Nat.reduceLT, jx_cl, nI_leI, Nat.zero_le, true_and, c1, t3J]; omega) | fail) only [je_97, jb_97_0, jb_97_4, jb_97_9, jb_97_12, jb_97_18, jb_97_43, jb_97_61, jb_97_69, jb_97_75, jb_97_81, jb_97_94, jb_97_98, jb_97_99, jx_nl, jx_nlr, jx_thenS, jx_tlS, jx_tlN, jm_ite_go, jx_rds, jx_rdn, jx_lit, pk_mul, nI_add, nI_pred, pk_sub, jx_na, jx_add0, Nat.reduceMul, Nat.reduceAdd, Nat.reduceSub, Nat.reduceEqDiff, Nat.reduceLeDiff, Nat.reduceLT, Nat.not_lt_zero, jx_cl, nI_leI, nI_ltI, nI_eq, jx_neg, jx_neg', jx_negE, jx_negL, jx_negG, jx_negLE, jx_negN, sb_nlt, sb_nle, jx_b0, jx_b1, jx_bT, jx_bF, ite_true, ite_false, if_true, if_false, reduceIte, Bool.false_eq_true, Bool.true_eq_false, eq_self, Nat.one_ne_zero, Nat.add_sub_cancel, not_true_eq_false, not_false_eq_true, c1, t3J]
        refine Eq.trans e5 ?_
        rw [jb_97_31, hJ]
        simp (disch := first | assumption | omega | exact jx_bz _ | exact jx_z0 | exact jx_z1 | (refine jx_ixB ?_ ?_; omega; omega) | (simp (disch := first | omega | fail) only [jx_lit, pk_mul, nI_add, nI_pred, pk_sub, jx_na, jx_add0, Nat.reduceMul, Nat.reduceAdd, Nat.reduceSub, Nat.reduceEqDiff, Nat.reduceLeDiff, Nat.reduceLT, t2J0, Nat.le_refl]; refine jx_ixC ?_ ?_; omega; omega) | (simp (disch := first | omega | fail) only [jx_lit, pk_mul, nI_add, nI_pred, pk_sub, jx_na, jx_add0, Nat.reduceMul, Nat.reduceAdd, Nat.reduceSub, Nat.reduceEqDiff, Nat.reduceLeDiff, Nat.reduceLT, jx_cl, nI_leI, Nat.zero_le, true_and, t2J0, Nat.le_refl]; omega) | fail) only [jb_97_0, jb_97_4, jb_97_9, jb_97_12, jb_97_18, jb_97_43, jb_97_61, jb_97_69, jb_97_75, jb_97_81, jb_97_94, jb_97_98, jb_97_99, jx_nl, jx_nlr, jx_thenS, jx_tlS, jx_tlN, jm_ite_go, jx_rds, jx_rdn, jx_lit, pk_mul, nI_add, nI_pred, pk_sub, jx_na, jx_add0, Nat.reduceMul, Nat.reduceAdd, Nat.reduceSub, Nat.reduceEqDiff, Nat.reduceLeDiff, Nat.reduceLT, Nat.not_lt_zero, jx_cl, nI_leI, nI_ltI, nI_eq, jx_neg, jx_neg', jx_negE, jx_negL, jx_negG, jx_negLE, jx_negN, sb_nlt, sb_nle, jx_b0, jx_b1, jx_bT, jx_bF, ite_true, ite_false, if_true, if_false, reduceIte, Bool.false_eq_true, Bool.true_eq_false, eq_self, Nat.one_ne_zero, Nat.add_sub_cancel, not_true_eq_false, not_false_eq_true, t2J0, Nat.le_refl]
      · simp (disch := first | assumption | omega | exact jx_bz _ | exact jx_z0 | exact jx_z1 | (refine jx_ixB ?_ ?_; omega; omega) | (simp (disch := first | omega | fail) only [jx_lit, pk_mul, nI_add, nI_pred, pk_sub, jx_na, jx_add0, Nat.reduceMul, Nat.reduceAdd, Nat.reduceSub, Nat.reduceEqDiff, Nat.reduceLeDiff, Nat.reduceLT, k143, m1]; refine jx_ixC ?_ ?_; omega; omega) | (simp (disch := first | omega | fail) only [jx_lit, pk_mul, nI_add, nI_pred, pk_sub, jx_na, jx_add0, Nat.reduceMul, Nat.reduceAdd, Nat.reduceSub, Nat.reduceEqDiff, Nat.reduceLeDiff, Nat.reduceLT, jx_cl, nI_leI, Nat.zero_le, true_and, k143, m1]; omega) | fail) only [je_200, jb_200_0, jb_200_6, jb_200_9, jb_200_12, jb_200_18, jb_200_31, jb_200_51, jb_200_75, jb_200_80, jb_200_81, jb_200_88, jb_200_93, jb_200_94, jb_200_101, jb_200_105, jb_200_109, jb_200_110, jx_nl, jx_nlr, jx_thenS, jx_tlS, jx_tlN, jm_ite_go, jx_rds, jx_rdn, jx_lit, pk_mul, nI_add, nI_pred, pk_sub, jx_na, jx_add0, Nat.reduceMul, Nat.reduceAdd, Nat.reduceSub, Nat.reduceEqDiff, Nat.reduceLeDiff, Nat.reduceLT, Nat.not_lt_zero, jx_cl, nI_leI, nI_ltI, nI_eq, jx_neg, jx_neg', jx_negE, jx_negL, jx_negG, jx_negLE, jx_negN, sb_nlt, sb_nle, jx_b0, jx_b1, jx_bT, jx_bF, ite_true, ite_false, if_true, if_false, reduceIte, Bool.false_eq_true, Bool.true_eq_false, eq_self, Nat.one_ne_zero, Nat.add_sub_cancel, not_true_eq_false, not_false_eq_true, k143, m1]
        refine Eq.trans e6 ?_
        rw [jb_200_22]
        simp (disch := first | assumption | omega | exact jx_bz _ | exact jx_z0 | exact jx_z1 | (refine jx_ixB ?_ ?_; omega; omega) | (simp (disch := first | omega | fail) only [jx_lit, pk_mul, nI_add, nI_pred, pk_sub, jx_na, jx_add0, Nat.reduceMul, Nat.reduceAdd, Nat.reduceSub, Nat.reduceEqDiff, Nat.reduceLeDiff, Nat.reduceLT, hnL, Nat.le_refl]; refine jx_ixC ?_ ?_; omega; omega) | (simp (disch := first | omega | fail) only [jx_lit, pk_mul, nI_add, nI_pred, pk_sub, jx_na, jx_add0, Nat.reduceMul, Nat.reduceAdd, Nat.reduceSub, Nat.reduceEqDiff, Nat.reduceLeDiff, Nat.reduceLT, jx_cl, nI_leI, Nat.zero_le, true_and, hnL, Nat.le_refl]; omega) | fail) only [jb_200_0, jb_200_6, jb_200_9, jb_200_12, jb_200_18, jb_200_31, jb_200_51, jb_200_75, jb_200_80, jb_200_81, jb_200_88, jb_200_93, jb_200_94, jb_200_101, jb_200_105, jb_200_109, jb_200_110, jx_nl, jx_nlr, jx_thenS, jx_tlS, jx_tlN, jm_ite_go, jx_rds, jx_rdn, jx_lit, pk_mul, nI_add, nI_pred, pk_sub, jx_na, jx_add0, Nat.reduceMul, Nat.reduceAdd, Nat.reduceSub, Nat.reduceEqDiff, Nat.reduceLeDiff, Nat.reduceLT, Nat.not_lt_zero, jx_cl, nI_leI, nI_ltI, nI_eq, jx_neg, jx_neg', jx_negE, jx_negL, jx_negG, jx_negLE, jx_negN, sb_nlt, sb_nle, jx_b0, jx_b1, jx_bT, jx_bF, ite_true, ite_false, if_true, if_false, reduceIte, Bool.false_eq_true, Bool.true_eq_false, eq_self, Nat.one_ne_zero, Nat.add_sub_cancel, not_true_eq_false, not_false_eq_true, hnL, Nat.le_refl]
    · refine ⟨.int (nI (js_bm F m0 (jwn w)).2), J, ⟨?_, gJ⟩, L, ?_, jG_Km gL⟩
      · simp (disch := first | assumption | omega | exact jx_bz _ | exact jx_z0 | exact jx_z1 | (refine jx_ixB ?_ ?_; omega; omega) | (simp (disch := first | omega | fail) only [jx_lit, pk_mul, nI_add, nI_pred, pk_sub, jx_na, jx_add0, Nat.reduceMul, Nat.reduceAdd, Nat.reduceSub, Nat.reduceEqDiff, Nat.reduceLeDiff, Nat.reduceLT, c1, t3J]; refine jx_ixC ?_ ?_; omega; omega) | (simp (disch := first | omega | fail) only [jx_lit, pk_mul, nI_add, nI_pred, pk_sub, jx_na, jx_add0, Nat.reduceMul, Nat.reduceAdd, Nat.reduceSub, Nat.reduceEqDiff, Nat.reduceLeDiff, Nat.reduceLT, jx_cl, nI_leI, Nat.zero_le, true_and, c1, t3J]; omega) | fail) only [je_97, jb_97_0, jb_97_4, jb_97_9, jb_97_12, jb_97_18, jb_97_43, jb_97_61, jb_97_69, jb_97_75, jb_97_81, jb_97_94, jb_97_98, jb_97_99, jx_nl, jx_nlr, jx_thenS, jx_tlS, jx_tlN, jm_ite_go, jx_rds, jx_rdn, jx_lit, pk_mul, nI_add, nI_pred, pk_sub, jx_na, jx_add0, Nat.reduceMul, Nat.reduceAdd, Nat.reduceSub, Nat.reduceEqDiff, Nat.reduceLeDiff, Nat.reduceLT, Nat.not_lt_zero, jx_cl, nI_leI, nI_ltI, nI_eq, jx_neg, jx_neg', jx_negE, jx_negL, jx_negG, jx_negLE, jx_negN, sb_nlt, sb_nle, jx_b0, jx_b1, jx_bT, jx_bF, ite_true, ite_false, if_true, if_false, reduceIte, Bool.false_eq_true, Bool.true_eq_false, eq_self, Nat.one_ne_zero, Nat.add_sub_cancel, not_true_eq_false, not_false_eq_true, c1, t3J]
        refine Eq.trans e5 ?_
        rw [jb_97_31, hJ]
        simp (disch := first | assumption | omega | exact jx_bz _ | exact jx_z0 | exact jx_z1 | (refine jx_ixB ?_ ?_; omega; omega) | (simp (disch := first | omega | fail) only [jx_lit, pk_mul, nI_add, nI_pred, pk_sub, jx_na, jx_add0, Nat.reduceMul, Nat.reduceAdd, Nat.reduceSub, Nat.reduceEqDiff, Nat.reduceLeDiff, Nat.reduceLT, t2J0, Nat.le_refl]; refine jx_ixC ?_ ?_; omega; omega) | (simp (disch := first | omega | fail) only [jx_lit, pk_mul, nI_add, nI_pred, pk_sub, jx_na, jx_add0, Nat.reduceMul, Nat.reduceAdd, Nat.reduceSub, Nat.reduceEqDiff, Nat.reduceLeDiff, Nat.reduceLT, jx_cl, nI_leI, Nat.zero_le, true_and, t2J0, Nat.le_refl]; omega) | fail) only [jb_97_0, jb_97_4, jb_97_9, jb_97_12, jb_97_18, jb_97_43, jb_97_61, jb_97_69, jb_97_75, jb_97_81, jb_97_94, jb_97_98, jb_97_99, jx_nl, jx_nlr, jx_thenS, jx_tlS, jx_tlN, jm_ite_go, jx_rds, jx_rdn, jx_lit, pk_mul, nI_add, nI_pred, pk_sub, jx_na, jx_add0, Nat.reduceMul, Nat.reduceAdd, Nat.reduceSub, Nat.reduceEqDiff, Nat.reduceLeDiff, Nat.reduceLT, Nat.not_lt_zero, jx_cl, nI_leI, nI_ltI, nI_eq, jx_neg, jx_neg', jx_negE, jx_negL, jx_negG, jx_negLE, jx_negN, sb_nlt, sb_nle, jx_b0, jx_b1, jx_bT, jx_bF, ite_true, ite_false, if_true, if_false, reduceIte, Bool.false_eq_true, Bool.true_eq_false, eq_self, Nat.one_ne_zero, Nat.add_sub_cancel, not_true_eq_false, not_false_eq_true, t2J0, Nat.le_refl]
      · simp (disch := first | assumption | omega | exact jx_bz _ | exact jx_z0 | exact jx_z1 | (refine jx_ixB ?_ ?_; omega; omega) | (simp (disch := first | omega | fail) only [jx_lit, pk_mul, nI_add, nI_pred, pk_sub, jx_na, jx_add0, Nat.reduceMul, Nat.reduceAdd, Nat.reduceSub, Nat.reduceEqDiff, Nat.reduceLeDiff, Nat.reduceLT, k143, m1]; refine jx_ixC ?_ ?_; omega; omega) | (simp (disch := first | omega | fail) only [jx_lit, pk_mul, nI_add, nI_pred, pk_sub, jx_na, jx_add0, Nat.reduceMul, Nat.reduceAdd, Nat.reduceSub, Nat.reduceEqDiff, Nat.reduceLeDiff, Nat.reduceLT, jx_cl, nI_leI, Nat.zero_le, true_and, k143, m1]; omega) | fail) only [je_200, jb_200_0, jb_200_6, jb_200_9, jb_200_12, jb_200_18, jb_200_31, jb_200_51, jb_200_75, jb_200_80, jb_200_81, jb_200_88, jb_200_93, jb_200_94, jb_200_101, jb_200_105, jb_200_109, jb_200_110, jx_nl, jx_nlr, jx_thenS, jx_tlS, jx_tlN, jm_ite_go, jx_rds, jx_rdn, jx_lit, pk_mul, nI_add, nI_pred, pk_sub, jx_na, jx_add0, Nat.reduceMul, Nat.reduceAdd, Nat.reduceSub, Nat.reduceEqDiff, Nat.reduceLeDiff, Nat.reduceLT, Nat.not_lt_zero, jx_cl, nI_leI, nI_ltI, nI_eq, jx_neg, jx_neg', jx_negE, jx_negL, jx_negG, jx_negLE, jx_negN, sb_nlt, sb_nle, jx_b0, jx_b1, jx_bT, jx_bF, ite_true, ite_false, if_true, if_false, reduceIte, Bool.false_eq_true, Bool.true_eq_false, eq_self, Nat.one_ne_zero, Nat.add_sub_cancel, not_true_eq_false, not_false_eq_true, k143, m1]
        refine Eq.trans e6 ?_
        rw [jb_200_22]
        simp (disch := first | assumption | omega | exact jx_bz _ | exact jx_z0 | exact jx_z1 | (refine jx_ixB ?_ ?_; omega; omega) | (simp (disch := first | omega | fail) only [jx_lit, pk_mul, nI_add, nI_pred, pk_sub, jx_na, jx_add0, Nat.reduceMul, Nat.reduceAdd, Nat.reduceSub, Nat.reduceEqDiff, Nat.reduceLeDiff, Nat.reduceLT, hnL, Nat.le_refl]; refine jx_ixC ?_ ?_; omega; omega) | (simp (disch := first | omega | fail) only [jx_lit, pk_mul, nI_add, nI_pred, pk_sub, jx_na, jx_add0, Nat.reduceMul, Nat.reduceAdd, Nat.reduceSub, Nat.reduceEqDiff, Nat.reduceLeDiff, Nat.reduceLT, jx_cl, nI_leI, Nat.zero_le, true_and, hnL, Nat.le_refl]; omega) | fail) only [jb_200_0, jb_200_6, jb_200_9, jb_200_12, jb_200_18, jb_200_31, jb_200_51, jb_200_75, jb_200_80, jb_200_81, jb_200_88, jb_200_93, jb_200_94, jb_200_101, jb_200_105, jb_200_109, jb_200_110, jx_nl, jx_nlr, jx_thenS, jx_tlS, jx_tlN, jm_ite_go, jx_rds, jx_rdn, jx_lit, pk_mul, nI_add, nI_pred, pk_sub, jx_na, jx_add0, Nat.reduceMul, Nat.reduceAdd, Nat.reduceSub, Nat.reduceEqDiff, Nat.reduceLeDiff, Nat.reduceLT, Nat.not_lt_zero, jx_cl, nI_leI, nI_ltI, nI_eq, jx_neg, jx_neg', jx_negE, jx_negL, jx_negG, jx_negLE, jx_negN, sb_nlt, sb_nle, jx_b0, jx_b1, jx_bT, jx_bF, ite_true, ite_false, if_true, if_false, reduceIte, Bool.false_eq_true, Bool.true_eq_false, eq_self, Nat.one_ne_zero, Nat.add_sub_cancel, not_true_eq_false, not_false_eq_true, hnL, Nat.le_refl]
