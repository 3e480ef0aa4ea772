/-! THE NUMBER of a way -/
theorem js_lay_H {w : jW} (hH : jHs w) {B f j h : Nat} (hf : f < 8) (q : (js_lay w B f j).testBit h = true) : h < 8 := by
  apply Classical.byContradiction
  intro hn
  rw [Nat.testBit_lt_two_pow (Nat.lt_of_lt_of_le (js_lay_lt hH hf j) (Nat.pow_le_pow_right (by decide) (by omega)))] at q
  cases q
def js_thr (w : jW) (k h : Nat) : Nat := jx_thr (jwa w) (jwb w) k h
/-- a door by which one comes to a house from one of a layer -/
def js_ld (w : jW) (B f at_ j k : Nat) : Bool := B.testBit k && (decide (jwa w k = at_) || decide (jwb w k = at_)) && (js_lay w B f j).testBit (js_thr w k at_)
theorem js_thr_ne {w : jW} {k h : Nat} (hab : jwa w k ≠ jwb w k) (hs : jwa w k = h ∨ jwb w k = h) : (jwa w k = h ∧ jwb w k = js_thr w k h) ∨ (jwa w k = js_thr w k h ∧ jwb w k = h) := by
  unfold js_thr jx_thr
  by_cases q : h = jwa w k
  · rw [if_pos q]; exact .inl ⟨q.symm, rfl⟩
  · rw [if_neg q]
    rcases hs with r | r
    · exact absurd r.symm q
    · exact .inr ⟨rfl, r⟩
/-- doors have two houses -/
def jHd (w : jW) : Prop := ∀ k, k < jwn w → jwa w k ≠ jwb w k
theorem js_ld_ex {w : jW} (hd : jHd w) {B f h j : Nat} (h1 : (js_lay w B f (j + 1)).testBit h = true) (h2 : (js_lay w B f j).testBit h = false) : ∃ k, k < jwn w ∧ js_ld w B f h j k = true := by
  rcases (js_fur_bit w B (js_lay w B f j) h (jwn w)).mp h1 with q | ⟨e, he, hB, hs, ht⟩
  · rw [h2] at q; cases q
  · refine ⟨e, he, ?_⟩
    unfold js_ld
    rw [hB]
    have hx : (decide (jwa w e = h) || decide (jwb w e = h)) = true := by simpa using ht
    rw [hx, Bool.true_and, Bool.true_and]
    rcases js_thr_ne (hd e he) ht with ⟨a, b⟩ | ⟨a, b⟩
    · rw [← b]; rcases hs with r | r
      · rw [a, h2] at r; cases r
      · exact r
    · rw [← a]; rcases hs with r | r
      · exact r
      · rw [b, h2] at r; cases r
/-- the doors of the way, the last one first -/
def js_wd (w : jW) (B f : Nat) : Nat → Nat → List Nat → Prop
  | 0, _, l => l = []
  | j + 1, h, l => ∃ k m, l = k :: m ∧ k < jwn w ∧ js_ld w B f h j k = true ∧ (∀ i, i < k → js_ld w B f h j i = false) ∧ js_wd w B f j (js_thr w k h) m
def js_num : List Nat → Nat
  | [] => 0
  | k :: l => 17 * js_num l + (k + 1)
theorem js_ld_dist {w : jW} (hd : jHd w) {B f h j k : Nat} (hk : k < jwn w) (h3 : js_ld w B f h j k = true) (h2 : ∀ i, i < j + 1 → (js_lay w B f i).testBit h = false) : (js_lay w B f j).testBit (js_thr w k h) = true ∧ ∀ i, i < j → (js_lay w B f i).testBit (js_thr w k h) = false := by
  unfold js_ld at h3
  simp only [Bool.and_eq_true, Bool.or_eq_true, decide_eq_true_eq] at h3
  refine ⟨h3.2, fun i hi => ?_⟩
  cases q : (js_lay w B f i).testBit (js_thr w k h) with
  | false => rfl
  | true =>
    exfalso
    have hno := h2 (i + 1) (by omega)
    rcases js_thr_ne (hd k hk) h3.1.2 with ⟨a, b⟩ | ⟨a, b⟩
    · have := (js_lay_by hk h3.1.1 (.inr (by rw [b]; exact q))).1
      rw [a, hno] at this; cases this
    · have := (js_lay_by hk h3.1.1 (.inl (by rw [a]; exact q))).2
      rw [b, hno] at this; cases this
theorem js_wd_ex {w : jW} (hd : jHd w) {B f : Nat} : ∀ j h, (js_lay w B f j).testBit h = true → (∀ i, i < j → (js_lay w B f i).testBit h = false) → ∃ l, js_wd w B f j h l ∧ l.length = j := by
  intro j
  induction j with
  | zero => intro h _ _; exact ⟨[], rfl, rfl⟩
  | succ j ih =>
    intro h h1 h2
    obtain ⟨k0, hk0, hl0⟩ := js_ld_ex hd h1 (h2 j (by omega))
    rcases jx_least (js_ld w B f h j) (jwn w) with ⟨k, hk, hp, hl⟩ | hn
    · obtain ⟨d1, d2⟩ := js_ld_dist hd hk hp h2
      obtain ⟨m, hm, hml⟩ := ih _ d1 d2
      exact ⟨k :: m, ⟨k, m, rfl, hk, hp, hl, hm⟩, by rw [List.length_cons, hml]⟩
    · rw [hn k0 hk0] at hl0; cases hl0
theorem jT_d {I : Nat → Nat → Int32} {w : jW} (h : jT I (jwn w) (jwa w) (jwb w) (jwS w)) : jHd w := fun k hk => (h.2.2.2.2 k hk).2.2.2.2
theorem jU_d {I : Nat → Nat → Int32} {w : jW} (h : jU I (jwn w) (jwa w) (jwb w) (jwS w)) : jHd w := fun k hk => (h.2.2.2 k hk).2.2.2.2.1
theorem jx_thr_lt {w : jW} (hH : jHs w) {k h : Nat} (hk : k < jwn w) : jx_thr (jwa w) (jwb w) k h < 8 := by
  unfold jx_thr; have := hH k hk; split <;> omega
/-! the class -/
theorem jf_73 {d B f h j k : Nat} {I : Nat → Nat → Int32} {rho : Nat → Option Nat} {mu : List (Nat × Nat)} {w : jW} (hw : jT I (jwn w) (jwa w) (jwb w) (jwS w)) (hB : B < 4096) (hf : f < 8) (hh : h < 8) (hj : j < 8) (h5 : I 5 j = nI (js_lay w B f j)) (hk : k < jwn w) (hp : js_ld w B f h j k = true) (hl : ∀ i, i < k → js_ld w B f h j i = false) :
    jm_ev (d + 4) 73 [.ref 1, .int (nI h), .int (nI B), .int (nI j)] (jm_hp I rho mu) = some (some (.int (nI k)), jm_hp I rho mu) := by
  obtain ⟨hn, hn12, -⟩ := id hw
  have hH := jT_H hw
  have h8 : ¬ 8 ≤ j := by omega
  have e0 : jm_ev (d + 4) 73 [.ref 1, .int (nI h), .int (nI B), .int (nI j)] (jm_hp I rho mu) = jm_go (jm_ev (d + 3)) 73 (28, [some (.ref 1), some (.int (nI h)), some (.int (nI B)), some (.int (nI j)), some (.int (nI (js_lay w B f j))), some (.int (nI 0))], [], jm_hp I rho mu) := by
    simp (disch := first | assumption | omega | exact jx_bz _ | exact jx_z0 | exact jx_z1 | (refine jx_ixB ?_ ?_; omega; omega) | (simp (disch := first | omega | fail) only [jx_lit, pk_mul, nI_add, nI_pred, pk_sub, jx_na, jx_add0, Nat.reduceMul, Nat.reduceAdd, Nat.reduceSub, Nat.reduceEqDiff, Nat.reduceLeDiff, Nat.reduceLT, h8, h5]; refine jx_ixC ?_ ?_; omega; omega) | (simp (disch := first | omega | fail) only [jx_lit, pk_mul, nI_add, nI_pred, pk_sub, jx_na, jx_add0, Nat.reduceMul, Nat.reduceAdd, Nat.reduceSub, Nat.reduceEqDiff, Nat.reduceLeDiff, Nat.reduceLT, jx_cl, nI_leI, Nat.zero_le, true_and, h8, h5]; omega) | fail) only [je_73, jb_73_0, jb_73_4, jb_73_13, jb_73_22, jb_73_23, jb_73_37, jb_73_43, jb_73_47, jb_73_53, jb_73_57, jb_73_61, jb_73_70, jb_73_73, jb_73_77, jb_73_80, jb_73_86, jx_nl, jx_nlr, jx_thenS, jx_tlS, jx_tlN, jm_ite_go, jx_rds, jx_rdn, jx_lit, pk_mul, nI_add, nI_pred, pk_sub, jx_na, jx_add0, Nat.reduceMul, Nat.reduceAdd, Nat.reduceSub, Nat.reduceEqDiff, Nat.reduceLeDiff, Nat.reduceLT, Nat.not_lt_zero, jx_cl, nI_leI, nI_ltI, nI_eq, jx_neg, jx_neg', jx_negE, jx_negL, jx_negG, jx_negLE, jx_negN, sb_nlt, sb_nle, jx_b0, jx_b1, jx_bT, jx_bF, ite_true, ite_false, if_true, if_false, reduceIte, Bool.false_eq_true, Bool.true_eq_false, eq_self, Nat.one_ne_zero, Nat.add_sub_cancel, not_true_eq_false, not_false_eq_true, h8, h5]
  have turn : ∀ i, i < jwn w → jm_go (jm_ev (d + 3)) 73 (28, [some (.ref 1), some (.int (nI h)), some (.int (nI B)), some (.int (nI j)), some (.int (nI (js_lay w B f j))), some (.int (nI i))], [], jm_hp I rho mu) = if js_ld w B f h j i = true then some (some (.int (nI i)), jm_hp I rho mu) else jm_go (jm_ev (d + 3)) 73 (28, [some (.ref 1), some (.int (nI h)), some (.int (nI B)), some (.int (nI j)), some (.int (nI (js_lay w B f j))), some (.int (nI (i + 1)))], [], jm_hp I rho mu) := by
    intro i hi
    have h1 : ¬ jwn w ≤ i := by omega
    have k60 := @jf_60 (d + 1) (jwn w) i (jwS w) (jwa w) (jwb w) I rho mu hw hi
    have k61 := @jf_61 (d + 1) (jwn w) i (jwS w) h (jwa w) (jwb w) I rho mu hw hi hh
    have k123 := @jf_123N (d + 2) I rho mu B i (by omega) (by omega)
    have hsd := js_sd_lt hH hi
    have hsd2 : 2 ^ jwa w i ||| 2 ^ jwb w i < 2 ^ 31 := Nat.lt_trans hsd (by decide)
    have k123b := @jf_123N (d + 2) I rho mu (2 ^ jwa w i ||| 2 ^ jwb w i) h hsd2 (by omega)
    have hsb : Nat.testBit (2 ^ jwa w i ||| 2 ^ jwb w i) h = (decide (jwa w i = h) || decide (jwb w i = h)) := js_sd_bit w i h
    rw [hsb] at k123b
    have hlt := js_lay_lt (B := B) hH hf j
    have k123c := @jf_123N (d + 2) I rho mu (js_lay w B f j) (jx_thr (jwa w) (jwb w) i h) (by omega) (by have := jx_thr_lt hH (h := h) hi; omega)
    rw [jb_73_28]
    unfold js_ld js_thr
    cases q1 : B.testBit i with
    | false =>
      rw [q1] at k123
      simp (disch := first | assumption | omega | exact jx_bz _ | exact jx_z0 | exact jx_z1 | (refine jx_ixB ?_ ?_; omega; omega) | (simp (disch := first | omega | fail) only [jx_lit, pk_mul, nI_add, nI_pred, pk_sub, jx_na, jx_add0, Nat.reduceMul, Nat.reduceAdd, Nat.reduceSub, Nat.reduceEqDiff, Nat.reduceLeDiff, Nat.reduceLT, hn, h1, k123, Bool.false_and]; refine jx_ixC ?_ ?_; omega; omega) | (simp (disch := first | omega | fail) only [jx_lit, pk_mul, nI_add, nI_pred, pk_sub, jx_na, jx_add0, Nat.reduceMul, Nat.reduceAdd, Nat.reduceSub, Nat.reduceEqDiff, Nat.reduceLeDiff, Nat.reduceLT, jx_cl, nI_leI, Nat.zero_le, true_and, hn, h1, k123, Bool.false_and]; omega) | fail) only [jb_73_0, jb_73_4, jb_73_13, jb_73_22, jb_73_23, jb_73_37, jb_73_43, jb_73_47, jb_73_53, jb_73_57, jb_73_61, jb_73_70, jb_73_73, jb_73_77, jb_73_80, jb_73_86, jx_nl, jx_nlr, jx_thenS, jx_tlS, jx_tlN, jm_ite_go, jx_rds, jx_rdn, jx_lit, pk_mul, nI_add, nI_pred, pk_sub, jx_na, jx_add0, Nat.reduceMul, Nat.reduceAdd, Nat.reduceSub, Nat.reduceEqDiff, Nat.reduceLeDiff, Nat.reduceLT, Nat.not_lt_zero, jx_cl, nI_leI, nI_ltI, nI_eq, jx_neg, jx_neg', jx_negE, jx_negL, jx_negG, jx_negLE, jx_negN, sb_nlt, sb_nle, jx_b0, jx_b1, jx_bT, jx_bF, ite_true, ite_false, if_true, if_false, reduceIte, Bool.false_eq_true, Bool.true_eq_false, eq_self, Nat.one_ne_zero, Nat.add_sub_cancel, not_true_eq_false, not_false_eq_true, hn, h1, k123, Bool.false_and]
    | true =>
      rw [q1] at k123
      cases q2 : (decide (jwa w i = h) || decide (jwb w i = h)) with
      | false =>
        rw [q2] at k123b
        simp (disch := first | assumption | omega | exact jx_bz _ | exact jx_z0 | exact jx_z1 | (refine jx_ixB ?_ ?_; omega; omega) | (simp (disch := first | omega | fail) only [jx_lit, pk_mul, nI_add, nI_pred, pk_sub, jx_na, jx_add0, Nat.reduceMul, Nat.reduceAdd, Nat.reduceSub, Nat.reduceEqDiff, Nat.reduceLeDiff, Nat.reduceLT, hn, h1, k123, k60, k123b, Bool.and_false, Bool.false_and]; refine jx_ixC ?_ ?_; omega; omega) | (simp (disch := first | omega | fail) only [jx_lit, pk_mul, nI_add, nI_pred, pk_sub, jx_na, jx_add0, Nat.reduceMul, Nat.reduceAdd, Nat.reduceSub, Nat.reduceEqDiff, Nat.reduceLeDiff, Nat.reduceLT, jx_cl, nI_leI, Nat.zero_le, true_and, hn, h1, k123, k60, k123b, Bool.and_false, Bool.false_and]; omega) | fail) only [jb_73_0, jb_73_4, jb_73_13, jb_73_22, jb_73_23, jb_73_37, jb_73_43, jb_73_47, jb_73_53, jb_73_57, jb_73_61, jb_73_70, jb_73_73, jb_73_77, jb_73_80, jb_73_86, jx_nl, jx_nlr, jx_thenS, jx_tlS, jx_tlN, jm_ite_go, jx_rds, jx_rdn, jx_lit, pk_mul, nI_add, nI_pred, pk_sub, jx_na, jx_add0, Nat.reduceMul, Nat.reduceAdd, Nat.reduceSub, Nat.reduceEqDiff, Nat.reduceLeDiff, Nat.reduceLT, Nat.not_lt_zero, jx_cl, nI_leI, nI_ltI, nI_eq, jx_neg, jx_neg', jx_negE, jx_negL, jx_negG, jx_negLE, jx_negN, sb_nlt, sb_nle, jx_b0, jx_b1, jx_bT, jx_bF, ite_true, ite_false, if_true, if_false, reduceIte, Bool.false_eq_true, Bool.true_eq_false, eq_self, Nat.one_ne_zero, Nat.add_sub_cancel, not_true_eq_false, not_false_eq_true, hn, h1, k123, k60, k123b, Bool.and_false, Bool.false_and]
      | true =>
        rw [q2] at k123b
        cases q3 : (js_lay w B f j).testBit (jx_thr (jwa w) (jwb w) i h) <;> rw [q3] at k123c <;> simp (disch := first | assumption | omega | exact jx_bz _ | exact jx_z0 | exact jx_z1 | (refine jx_ixB ?_ ?_; omega; omega) | (simp (disch := first | omega | fail) only [jx_lit, pk_mul, nI_add, nI_pred, pk_sub, jx_na, jx_add0, Nat.reduceMul, Nat.reduceAdd, Nat.reduceSub, Nat.reduceEqDiff, Nat.reduceLeDiff, Nat.reduceLT, hn, h1, k123, k60, k123b, k61, k123c, Bool.and_false, Bool.and_true]; refine jx_ixC ?_ ?_; omega; omega) | (simp (disch := first | omega | fail) only [jx_lit, pk_mul, nI_add, nI_pred, pk_sub, jx_na, jx_add0, Nat.reduceMul, Nat.reduceAdd, Nat.reduceSub, Nat.reduceEqDiff, Nat.reduceLeDiff, Nat.reduceLT, jx_cl, nI_leI, Nat.zero_le, true_and, hn, h1, k123, k60, k123b, k61, k123c, Bool.and_false, Bool.and_true]; omega) | fail) only [jb_73_0, jb_73_4, jb_73_13, jb_73_22, jb_73_23, jb_73_37, jb_73_43, jb_73_47, jb_73_53, jb_73_57, jb_73_61, jb_73_70, jb_73_73, jb_73_77, jb_73_80, jb_73_86, jx_nl, jx_nlr, jx_thenS, jx_tlS, jx_tlN, jm_ite_go, jx_rds, jx_rdn, jx_lit, pk_mul, nI_add, nI_pred, pk_sub, jx_na, jx_add0, Nat.reduceMul, Nat.reduceAdd, Nat.reduceSub, Nat.reduceEqDiff, Nat.reduceLeDiff, Nat.reduceLT, Nat.not_lt_zero, jx_cl, nI_leI, nI_ltI, nI_eq, jx_neg, jx_neg', jx_negE, jx_negL, jx_negG, jx_negLE, jx_negN, sb_nlt, sb_nle, jx_b0, jx_b1, jx_bT, jx_bF, ite_true, ite_false, if_true, if_false, reduceIte, Bool.false_eq_true, Bool.true_eq_false, eq_self, Nat.one_ne_zero, Nat.add_sub_cancel, not_true_eq_false, not_false_eq_true, hn, h1, k123, k60, k123b, k61, k123c, Bool.and_false, Bool.and_true]
  have kk := jx_for0 (E := jm_ev (d + 3)) (y := 73) k (fun k => (28, [some (.ref 1), some (.int (nI h)), some (.int (nI B)), some (.int (nI j)), some (.int (nI (js_lay w B f j))), some (.int (nI k))], [], jm_hp I rho mu)) (fun i hi => by
    rw [turn i (by omega), if_neg (by rw [hl i hi]; simp)]) k (Nat.le_refl _)
  rw [e0]
  refine Eq.trans kk ?_
  rw [turn k hk, if_pos hp]
theorem jl_72 {d B f : Nat} {I : Nat → Nat → Int32} {rho : Nat → Option Nat} {mu : List (Nat × Nat)} {w : jW} {v1 v2 : Option Value} (hw : jT I (jwn w) (jwa w) (jwb w) (jwS w)) (hB : B < 4096) (hf : f < 8) :
    ∀ (j h : Nat) (l : List Nat) (N W : Nat) (v7 v9 : Option Value), j < 8 → h < 8 → (∀ i, i < j → I 5 i = nI (js_lay w B f i)) → js_wd w B f j h l →
    jm_go (jm_ev (d + 4)) 72 (31, [some (.ref 1), v1, v2, some (.int (nI B)), some (.int (nI h)), some (.int (nI N)), some (.int (nI W)), v7, some (.int (nI j - nI 1)), v9], [], jm_hp I rho mu) = some (some (.int (nI (N + W * js_num l))), jm_hp I rho mu) := by
  have hH := jT_H hw
  intro j
  induction j with
  | zero =>
    intro h l N W v7 v9 _ _ _ hl
    have : l = [] := hl
    subst this
    have h1 : nI 0 - nI 1 < nI 0 := by decide
    rw [jb_72_31]
    simp (disch := first | assumption | omega | exact jx_bz _ | exact jx_z0 | exact jx_z1 | (refine jx_ixB ?_ ?_; omega; omega) | (simp (disch := first | omega | fail) only [jx_lit, pk_mul, nI_add, nI_pred, pk_sub, jx_na, jx_add0, Nat.reduceMul, Nat.reduceAdd, Nat.reduceSub, Nat.reduceEqDiff, Nat.reduceLeDiff, Nat.reduceLT, h1, js_num, Nat.mul_zero, Nat.add_zero]; refine jx_ixC ?_ ?_; omega; omega) | (simp (disch := first | omega | fail) only [jx_lit, pk_mul, nI_add, nI_pred, pk_sub, jx_na, jx_add0, Nat.reduceMul, Nat.reduceAdd, Nat.reduceSub, Nat.reduceEqDiff, Nat.reduceLeDiff, Nat.reduceLT, jx_cl, nI_leI, Nat.zero_le, true_and, h1, js_num, Nat.mul_zero, Nat.add_zero]; omega) | fail) only [jb_72_0, jb_72_16, jb_72_23, jb_72_25, jb_72_36, jb_72_45, jb_72_74, jb_72_82, jx_nl, jx_nlr, jx_thenS, jx_tlS, jx_tlN, jm_ite_go, jx_rds, jx_rdn, jx_lit, pk_mul, nI_add, nI_pred, pk_sub, jx_na, jx_add0, Nat.reduceMul, Nat.reduceAdd, Nat.reduceSub, Nat.reduceEqDiff, Nat.reduceLeDiff, Nat.reduceLT, Nat.not_lt_zero, jx_cl, nI_leI, nI_ltI, nI_eq, jx_neg, jx_neg', jx_negE, jx_negL, jx_negG, jx_negLE, jx_negN, sb_nlt, sb_nle, jx_b0, jx_b1, jx_bT, jx_bF, ite_true, ite_false, if_true, if_false, reduceIte, Bool.false_eq_true, Bool.true_eq_false, eq_self, Nat.one_ne_zero, Nat.add_sub_cancel, not_true_eq_false, not_false_eq_true, h1, js_num, Nat.mul_zero, Nat.add_zero]
  | succ j ih =>
    intro h l N W v7 v9 hj hh hI hl
    obtain ⟨k, m, rfl, hk, hp, hlq, hm⟩ := hl
    have k73 := @jf_73 d B f h j k I rho mu w hw hB hf hh (by omega) (hI j (by omega)) hk hp hlq
    have k61 := @jf_61 (d + 2) (jwn w) k (jwS w) h (jwa w) (jwb w) I rho mu hw hk hh
    have := ih (js_thr w k h) m (N + W * (k + 1)) (W * 17) (jm_nl v7) (some (.int (nI k))) (by omega) (jx_thr_lt hH hk) (fun i hi => hI i (by omega)) hm
    unfold js_thr at this
    have e1 : nI j - nI 1 = nI j + -nI 1 := by rw [Int32.sub_eq_add_neg]
    have e2 : N + W * (k + 1) + W * 17 * js_num m = N + W * js_num (k :: m) := by
      rw [js_num, Nat.mul_add W (17 * js_num m), Nat.mul_assoc]; omega
    rw [e2, e1] at this
    have e3 : nI (j + 1) - nI 1 = nI j := nI_pred j
    rw [e3, jb_72_31, ← this]
    have h1 : ¬ nI j < nI 0 := by rw [nI_ltI (by omega) (by omega)]; omega
    simp only [jx_lit, h1, if_false]
    rw [jb_72_36, k73]
    simp only [jx_thenS, jx_tlS]
    rw [jb_72_45, k61]
    simp only [jx_thenS, jx_tlS]
    rw [jb_72_74]
    simp only [jx_lit, nI_add, pk_mul]
theorem jf_72 {d B f h j : Nat} {I : Nat → Nat → Int32} {rho : Nat → Option Nat} {mu : List (Nat × Nat)} {w : jW} {l : List Nat} (hw : jT I (jwn w) (jwa w) (jwb w) (jwS w)) (hB : B < 4096) (hf : f < 8) (hh : h < 8) (hj : j < 8) (h1 : (js_lay w B f j).testBit h = true) (h2 : ∀ i, i < j → (js_lay w B f i).testBit h = false) (hl : js_wd w B f j h l) :
    ∃ J, jm_ev (d + 5) 72 [.ref 1, .int (nI f), .int (nI h), .int (nI B)] (jm_hp I rho mu) = some (some (.int (nI (js_num l))), jm_hp J rho mu) ∧ jG jS_5 I J := by
  obtain ⟨J, e, g, r⟩ := jf_71 (d := d) (rho := rho) (mu := mu) hw hB hf hh
  have ef := js_ft_at h1 h2 8 (by omega)
  rw [ef] at e
  have hwJ := jT_mo hw g (fun a k q => by simp [jS_5]; omega)
  have k72 := fun v1 v2 v7 v9 => @jl_72 d B f J rho mu w v1 v2 hwJ hB hf j h l 0 1 v7 v9 hj hh (fun i hi => r j ef hj i (by omega)) hl
  refine ⟨J, ?_, g⟩
  simp (disch := first | assumption | omega | exact jx_bz _ | exact jx_z0 | exact jx_z1 | (refine jx_ixB ?_ ?_; omega; omega) | (simp (disch := first | omega | fail) only [jx_lit, pk_mul, nI_add, nI_pred, pk_sub, jx_na, jx_add0, Nat.reduceMul, Nat.reduceAdd, Nat.reduceSub, Nat.reduceEqDiff, Nat.reduceLeDiff, Nat.reduceLT, e, Nat.zero_le]; refine jx_ixC ?_ ?_; omega; omega) | (simp (disch := first | omega | fail) only [jx_lit, pk_mul, nI_add, nI_pred, pk_sub, jx_na, jx_add0, Nat.reduceMul, Nat.reduceAdd, Nat.reduceSub, Nat.reduceEqDiff, Nat.reduceLeDiff, Nat.reduceLT, jx_cl, nI_leI, Nat.zero_le, true_and, e, Nat.zero_le]; omega) | fail) only [je_72, jb_72_0, jb_72_16, jb_72_23, jb_72_25, jb_72_36, jb_72_45, jb_72_74, jb_72_82, jx_nl, jx_nlr, jx_thenS, jx_tlS, jx_tlN, jm_ite_go, jx_rds, jx_rdn, jx_lit, pk_mul, nI_add, nI_pred, pk_sub, jx_na, jx_add0, Nat.reduceMul, Nat.reduceAdd, Nat.reduceSub, Nat.reduceEqDiff, Nat.reduceLeDiff, Nat.reduceLT, Nat.not_lt_zero, jx_cl, nI_leI, nI_ltI, nI_eq, jx_neg, jx_neg', jx_negE, jx_negL, jx_negG, jx_negLE, jx_negN, sb_nlt, sb_nle, jx_b0, jx_b1, jx_bT, jx_bF, ite_true, ite_false, if_true, if_false, reduceIte, Bool.false_eq_true, Bool.true_eq_false, eq_self, Nat.one_ne_zero, Nat.add_sub_cancel, not_true_eq_false, not_false_eq_true, e, Nat.zero_le]
  have := k72 (some (.int (nI f))) (some (.int (nI h))) (some (.int (nI j))) none
  rw [Nat.zero_add, Nat.one_mul] at this
  rw [← this]
theorem jf_72n {d B f h : Nat} {I : Nat → Nat → Int32} {rho : Nat → Option Nat} {mu : List (Nat × Nat)} {w : jW} (hw : jT I (jwn w) (jwa w) (jwb w) (jwS w)) (hB : B < 4096) (hf : f < 8) (hh : h < 8) (h1 : (js_lay w B f 8).testBit h = false) :
    ∃ J, jm_ev (d + 5) 72 [.ref 1, .int (nI f), .int (nI h), .int (nI B)] (jm_hp I rho mu) = some (some (.int (-nI 1)), jm_hp J rho mu) ∧ jG jS_5 I J := by
  obtain ⟨J, e, g, r⟩ := jf_71 (d := d) (rho := rho) (mu := mu) hw hB hf hh
  rw [js_ft_no h1] at e
  exact ⟨J, by simp (disch := first | assumption | omega | exact jx_bz _ | exact jx_z0 | exact jx_z1 | (refine jx_ixB ?_ ?_; omega; omega) | (simp (disch := first | omega | fail) only [jx_lit, pk_mul, nI_add, nI_pred, pk_sub, jx_na, jx_add0, Nat.reduceMul, Nat.reduceAdd, Nat.reduceSub, Nat.reduceEqDiff, Nat.reduceLeDiff, Nat.reduceLT, e]; refine jx_ixC ?_ ?_; omega; omega) | (simp (disch := first | omega | fail) only [jx_lit, pk_mul, nI_add, nI_pred, pk_sub, jx_na, jx_add0, Nat.reduceMul, Nat.reduceAdd, Nat.reduceSub, Nat.reduceEqDiff, Nat.reduceLeDiff, Nat.reduceLT, jx_cl, nI_leI, Nat.zero_le, true_and, e]; omega) | fail) only [je_72, jb_72_0, jb_72_16, jb_72_23, jb_72_25, jb_72_36, jb_72_45, jb_72_74, jb_72_82, jx_nl, jx_nlr, jx_thenS, jx_tlS, jx_tlN, jm_ite_go, jx_rds, jx_rdn, jx_lit, pk_mul, nI_add, nI_pred, pk_sub, jx_na, jx_add0, Nat.reduceMul, Nat.reduceAdd, Nat.reduceSub, Nat.reduceEqDiff, Nat.reduceLeDiff, Nat.reduceLT, Nat.not_lt_zero, jx_cl, nI_leI, nI_ltI, nI_eq, jx_neg, jx_neg', jx_negE, jx_negL, jx_negG, jx_negLE, jx_negN, sb_nlt, sb_nle, jx_b0, jx_b1, jx_bT, jx_bF, ite_true, ite_false, if_true, if_false, reduceIte, Bool.false_eq_true, Bool.true_eq_false, eq_self, Nat.one_ne_zero, Nat.add_sub_cancel, not_true_eq_false, not_false_eq_true, e], g⟩
/-! the reference -/
theorem jf_193 {d B f h j k : Nat} {I : Nat → Nat → Int32} {rho : Nat → Option Nat} {mu : List (Nat × Nat)} {w : jW} (hw : jMt I w) (hB : B < 4096) (hf : f < 8) (hh : h < 8) (hj : j < 8) (hJ : ∀ h, h < 8 → I 77 h = js_ft w B f 8 h) (h1 : (js_lay w B f (j + 1)).testBit h = true) (h2 : ∀ i, i < j + 1 → (js_lay w B f i).testBit h = false) (hk : k < jwn w) (hp : js_ld w B f h j k = true) (hl : ∀ i, i < k → js_ld w B f h j i = false) :
    jm_ev (d + 2) 193 [.ref 57, .int (nI h), .int (nI B)] (jm_hp I rho mu) = some (some (.int (nI k)), jm_hp I rho mu) := by
  have hU := hw.1
  obtain ⟨hn, hn12, hSb, hF⟩ := id hU
  have hH := jU_H hU
  have hd := jU_d hU
  have e0 : jm_ev (d + 2) 193 [.ref 57, .int (nI h), .int (nI B)] (jm_hp I rho mu) = jm_go (jm_ev (d + 1)) 193 (2, [some (.ref 57), some (.int (nI h)), some (.int (nI B)), some (.int (nI 0)), none], [], jm_hp I rho mu) := by
    simp (disch := first | assumption | omega | exact jx_bz _ | exact jx_z0 | exact jx_z1 | (refine jx_ixB ?_ ?_; omega; omega) | (simp (disch := first | omega | fail) only [jx_lit, pk_mul, nI_add, nI_pred, pk_sub, jx_na, jx_add0, Nat.reduceMul, Nat.reduceAdd, Nat.reduceSub, Nat.reduceEqDiff, Nat.reduceLeDiff, Nat.reduceLT]; refine jx_ixC ?_ ?_; omega; omega) | (simp (disch := first | omega | fail) only [jx_lit, pk_mul, nI_add, nI_pred, pk_sub, jx_na, jx_add0, Nat.reduceMul, Nat.reduceAdd, Nat.reduceSub, Nat.reduceEqDiff, Nat.reduceLeDiff, Nat.reduceLT, jx_cl, nI_leI, Nat.zero_le, true_and]; omega) | fail) only [je_193, jb_193_0, jb_193_10, jb_193_19, jb_193_25, jb_193_28, jb_193_38, jb_193_47, jb_193_53, jb_193_73, jb_193_84, jb_193_86, jb_193_92, jx_nl, jx_nlr, jx_thenS, jx_tlS, jx_tlN, jm_ite_go, jx_rds, jx_rdn, jx_lit, pk_mul, nI_add, nI_pred, pk_sub, jx_na, jx_add0, Nat.reduceMul, Nat.reduceAdd, Nat.reduceSub, Nat.reduceEqDiff, Nat.reduceLeDiff, Nat.reduceLT, Nat.not_lt_zero, jx_cl, nI_leI, nI_ltI, nI_eq, jx_neg, jx_neg', jx_negE, jx_negL, jx_negG, jx_negLE, jx_negN, sb_nlt, sb_nle, jx_b0, jx_b1, jx_bT, jx_bF, ite_true, ite_false, if_true, if_false, reduceIte, Bool.false_eq_true, Bool.true_eq_false, eq_self, Nat.one_ne_zero, Nat.add_sub_cancel, not_true_eq_false, not_false_eq_true]
  have hfh := hJ h hh
  rw [js_ft_at h1 h2 8 (by omega)] at hfh
  have ep : nI (j + 1) - nI 1 = nI j := nI_pred j
  have turn : ∀ i v4, i < jwn w → ∃ v5, jm_go (jm_ev (d + 1)) 193 (2, [some (.ref 57), some (.int (nI h)), some (.int (nI B)), some (.int (nI i)), v4], [], jm_hp I rho mu) = if js_ld w B f h j i = true then some (some (.int (nI i)), jm_hp I rho mu) else jm_go (jm_ev (d + 1)) 193 (2, [some (.ref 57), some (.int (nI h)), some (.int (nI B)), some (.int (nI (i + 1))), v5], [], jm_hp I rho mu) := by
    intro i v4 hi
    obtain ⟨ha, ha8, hb, hb8, hab, -⟩ := hF i hi
    have hq : ¬ jwn w ≤ i := by omega
    have hbit := jx_bit (S := B) (i := i) (by omega) (by omega)
    have k187 := @jf_187 d i h I rho mu w hw hi hh
    rw [jb_193_2]
    cases q1 : B.testBit i with
    | false =>
      rw [q1] at hbit
      have hld : js_ld w B f h j i = false := by unfold js_ld; rw [q1]; simp
      exact ⟨v4, by simp (disch := first | assumption | omega | exact jx_bz _ | exact jx_z0 | exact jx_z1 | (refine jx_ixB ?_ ?_; omega; omega) | (simp (disch := first | omega | fail) only [jx_lit, pk_mul, nI_add, nI_pred, pk_sub, jx_na, jx_add0, Nat.reduceMul, Nat.reduceAdd, Nat.reduceSub, Nat.reduceEqDiff, Nat.reduceLeDiff, Nat.reduceLT, hn, hq, hbit, hld]; refine jx_ixC ?_ ?_; omega; omega) | (simp (disch := first | omega | fail) only [jx_lit, pk_mul, nI_add, nI_pred, pk_sub, jx_na, jx_add0, Nat.reduceMul, Nat.reduceAdd, Nat.reduceSub, Nat.reduceEqDiff, Nat.reduceLeDiff, Nat.reduceLT, jx_cl, nI_leI, Nat.zero_le, true_and, hn, hq, hbit, hld]; omega) | fail) only [jb_193_0, jb_193_10, jb_193_19, jb_193_25, jb_193_28, jb_193_38, jb_193_47, jb_193_53, jb_193_73, jb_193_84, jb_193_86, jb_193_92, jx_nl, jx_nlr, jx_thenS, jx_tlS, jx_tlN, jm_ite_go, jx_rds, jx_rdn, jx_lit, pk_mul, nI_add, nI_pred, pk_sub, jx_na, jx_add0, Nat.reduceMul, Nat.reduceAdd, Nat.reduceSub, Nat.reduceEqDiff, Nat.reduceLeDiff, Nat.reduceLT, Nat.not_lt_zero, jx_cl, nI_leI, nI_ltI, nI_eq, jx_neg, jx_neg', jx_negE, jx_negL, jx_negG, jx_negLE, jx_negN, sb_nlt, sb_nle, jx_b0, jx_b1, jx_bT, jx_bF, ite_true, ite_false, if_true, if_false, reduceIte, Bool.false_eq_true, Bool.true_eq_false, eq_self, Nat.one_ne_zero, Nat.add_sub_cancel, not_true_eq_false, not_false_eq_true, hn, hq, hbit, hld]⟩
    | true =>
      rw [q1] at hbit
      cases q2 : (decide (jwa w i = h) || decide (jwb w i = h)) with
      | false =>
        rw [q2] at k187
        have hld : js_ld w B f h j i = false := by unfold js_ld; rw [q2]; simp
        exact ⟨v4, by simp (disch := first | assumption | omega | exact jx_bz _ | exact jx_z0 | exact jx_z1 | (refine jx_ixB ?_ ?_; omega; omega) | (simp (disch := first | omega | fail) only [jx_lit, pk_mul, nI_add, nI_pred, pk_sub, jx_na, jx_add0, Nat.reduceMul, Nat.reduceAdd, Nat.reduceSub, Nat.reduceEqDiff, Nat.reduceLeDiff, Nat.reduceLT, hn, hq, hbit, k187, hld]; refine jx_ixC ?_ ?_; omega; omega) | (simp (disch := first | omega | fail) only [jx_lit, pk_mul, nI_add, nI_pred, pk_sub, jx_na, jx_add0, Nat.reduceMul, Nat.reduceAdd, Nat.reduceSub, Nat.reduceEqDiff, Nat.reduceLeDiff, Nat.reduceLT, jx_cl, nI_leI, Nat.zero_le, true_and, hn, hq, hbit, k187, hld]; omega) | fail) only [jb_193_0, jb_193_10, jb_193_19, jb_193_25, jb_193_28, jb_193_38, jb_193_47, jb_193_53, jb_193_73, jb_193_84, jb_193_86, jb_193_92, jx_nl, jx_nlr, jx_thenS, jx_tlS, jx_tlN, jm_ite_go, jx_rds, jx_rdn, jx_lit, pk_mul, nI_add, nI_pred, pk_sub, jx_na, jx_add0, Nat.reduceMul, Nat.reduceAdd, Nat.reduceSub, Nat.reduceEqDiff, Nat.reduceLeDiff, Nat.reduceLT, Nat.not_lt_zero, jx_cl, nI_leI, nI_ltI, nI_eq, jx_neg, jx_neg', jx_negE, jx_negL, jx_negG, jx_negLE, jx_negN, sb_nlt, sb_nle, jx_b0, jx_b1, jx_bT, jx_bF, ite_true, ite_false, if_true, if_false, reduceIte, Bool.false_eq_true, Bool.true_eq_false, eq_self, Nat.one_ne_zero, Nat.add_sub_cancel, not_true_eq_false, not_false_eq_true, hn, hq, hbit, k187, hld]⟩
      | true =>
        rw [q2] at k187
        have q2' : jwa w i = h ∨ jwb w i = h := by simpa using q2
        have ht8 : js_thr w i h < 8 := jx_thr_lt hH hi
        have hft := hJ (js_thr w i h) ht8
        have key : (js_ld w B f h j i = true ∧ js_ft w B f 8 (js_thr w i h) = nI j) ∨ (js_ld w B f h j i = false ∧ ¬ js_ft w B f 8 (js_thr w i h) = nI j) := by
          cases q3 : js_ld w B f h j i with
          | true =>
            obtain ⟨d1, d2⟩ := js_ld_dist hd hi q3 h2
            exact .inl ⟨rfl, js_ft_at d1 d2 8 (by omega)⟩
          | false =>
            refine .inr ⟨rfl, fun q => ?_⟩
            have q4 : (js_lay w B f j).testBit (js_thr w i h) = false := by
              unfold js_ld at q3; rw [q1, q2] at q3; simpa using q3
            cases q5 : (js_lay w B f 8).testBit (js_thr w i h) with
            | false =>
              rw [js_ft_no q5, jx_neg' (by omega) (by omega) (by omega)] at q; exact q
            | true =>
              obtain ⟨z, hz, e, r, -⟩ := js_ft_yes q5
              rw [e, nI_eq (by omega) (by omega)] at q
              subst q; rw [q4] at r; cases r
        refine ⟨some (.int (nI (js_thr w i h))), ?_⟩
        rcases key with ⟨hld, hfe⟩ | ⟨hld, hfe⟩
        · rw [hfe] at hft
          by_cases qa : jwa w i = h
          · have et : js_thr w i h = jwb w i := by unfold js_thr jx_thr; rw [if_pos qa.symm]
            rw [et] at hft ⊢
            simp (disch := first | assumption | omega | exact jx_bz _ | exact jx_z0 | exact jx_z1 | (refine jx_ixB ?_ ?_; omega; omega) | (simp (disch := first | omega | fail) only [jx_lit, pk_mul, nI_add, nI_pred, pk_sub, jx_na, jx_add0, Nat.reduceMul, Nat.reduceAdd, Nat.reduceSub, Nat.reduceEqDiff, Nat.reduceLeDiff, Nat.reduceLT, hn, hq, hbit, k187, hld, ha, hb, qa, hfh, hft, ep]; refine jx_ixC ?_ ?_; omega; omega) | (simp (disch := first | omega | fail) only [jx_lit, pk_mul, nI_add, nI_pred, pk_sub, jx_na, jx_add0, Nat.reduceMul, Nat.reduceAdd, Nat.reduceSub, Nat.reduceEqDiff, Nat.reduceLeDiff, Nat.reduceLT, jx_cl, nI_leI, Nat.zero_le, true_and, hn, hq, hbit, k187, hld, ha, hb, qa, hfh, hft, ep]; omega) | fail) only [jb_193_0, jb_193_10, jb_193_19, jb_193_25, jb_193_28, jb_193_38, jb_193_47, jb_193_53, jb_193_73, jb_193_84, jb_193_86, jb_193_92, jx_nl, jx_nlr, jx_thenS, jx_tlS, jx_tlN, jm_ite_go, jx_rds, jx_rdn, jx_lit, pk_mul, nI_add, nI_pred, pk_sub, jx_na, jx_add0, Nat.reduceMul, Nat.reduceAdd, Nat.reduceSub, Nat.reduceEqDiff, Nat.reduceLeDiff, Nat.reduceLT, Nat.not_lt_zero, jx_cl, nI_leI, nI_ltI, nI_eq, jx_neg, jx_neg', jx_negE, jx_negL, jx_negG, jx_negLE, jx_negN, sb_nlt, sb_nle, jx_b0, jx_b1, jx_bT, jx_bF, ite_true, ite_false, if_true, if_false, reduceIte, Bool.false_eq_true, Bool.true_eq_false, eq_self, Nat.one_ne_zero, Nat.add_sub_cancel, not_true_eq_false, not_false_eq_true, hn, hq, hbit, k187, hld, ha, hb, qa, hfh, hft, ep]
          · have et : js_thr w i h = jwa w i := by unfold js_thr jx_thr; rw [if_neg fun x => qa x.symm]
            rw [et] at hft ⊢
            simp (disch := first | assumption | omega | exact jx_bz _ | exact jx_z0 | exact jx_z1 | (refine jx_ixB ?_ ?_; omega; omega) | (simp (disch := first | omega | fail) only [jx_lit, pk_mul, nI_add, nI_pred, pk_sub, jx_na, jx_add0, Nat.reduceMul, Nat.reduceAdd, Nat.reduceSub, Nat.reduceEqDiff, Nat.reduceLeDiff, Nat.reduceLT, hn, hq, hbit, k187, hld, ha, hb, qa, hfh, hft, ep]; refine jx_ixC ?_ ?_; omega; omega) | (simp (disch := first | omega | fail) only [jx_lit, pk_mul, nI_add, nI_pred, pk_sub, jx_na, jx_add0, Nat.reduceMul, Nat.reduceAdd, Nat.reduceSub, Nat.reduceEqDiff, Nat.reduceLeDiff, Nat.reduceLT, jx_cl, nI_leI, Nat.zero_le, true_and, hn, hq, hbit, k187, hld, ha, hb, qa, hfh, hft, ep]; omega) | fail) only [jb_193_0, jb_193_10, jb_193_19, jb_193_25, jb_193_28, jb_193_38, jb_193_47, jb_193_53, jb_193_73, jb_193_84, jb_193_86, jb_193_92, jx_nl, jx_nlr, jx_thenS, jx_tlS, jx_tlN, jm_ite_go, jx_rds, jx_rdn, jx_lit, pk_mul, nI_add, nI_pred, pk_sub, jx_na, jx_add0, Nat.reduceMul, Nat.reduceAdd, Nat.reduceSub, Nat.reduceEqDiff, Nat.reduceLeDiff, Nat.reduceLT, Nat.not_lt_zero, jx_cl, nI_leI, nI_ltI, nI_eq, jx_neg, jx_neg', jx_negE, jx_negL, jx_negG, jx_negLE, jx_negN, sb_nlt, sb_nle, jx_b0, jx_b1, jx_bT, jx_bF, ite_true, ite_false, if_true, if_false, reduceIte, Bool.false_eq_true, Bool.true_eq_false, eq_self, Nat.one_ne_zero, Nat.add_sub_cancel, not_true_eq_false, not_false_eq_true, hn, hq, hbit, k187, hld, ha, hb, qa, hfh, hft, ep]
        · by_cases qa : jwa w i = h
          · have et : js_thr w i h = jwb w i := by unfold js_thr jx_thr; rw [if_pos qa.symm]
            rw [et] at hft hfe ⊢
            rw [← hft] at hfe
            simp (disch := first | assumption | omega | exact jx_bz _ | exact jx_z0 | exact jx_z1 | (refine jx_ixB ?_ ?_; omega; omega) | (simp (disch := first | omega | fail) only [jx_lit, pk_mul, nI_add, nI_pred, pk_sub, jx_na, jx_add0, Nat.reduceMul, Nat.reduceAdd, Nat.reduceSub, Nat.reduceEqDiff, Nat.reduceLeDiff, Nat.reduceLT, hn, hq, hbit, k187, hld, ha, hb, qa, hfh, hfe, ep]; refine jx_ixC ?_ ?_; omega; omega) | (simp (disch := first | omega | fail) only [jx_lit, pk_mul, nI_add, nI_pred, pk_sub, jx_na, jx_add0, Nat.reduceMul, Nat.reduceAdd, Nat.reduceSub, Nat.reduceEqDiff, Nat.reduceLeDiff, Nat.reduceLT, jx_cl, nI_leI, Nat.zero_le, true_and, hn, hq, hbit, k187, hld, ha, hb, qa, hfh, hfe, ep]; omega) | fail) only [jb_193_0, jb_193_10, jb_193_19, jb_193_25, jb_193_28, jb_193_38, jb_193_47, jb_193_53, jb_193_73, jb_193_84, jb_193_86, jb_193_92, jx_nl, jx_nlr, jx_thenS, jx_tlS, jx_tlN, jm_ite_go, jx_rds, jx_rdn, jx_lit, pk_mul, nI_add, nI_pred, pk_sub, jx_na, jx_add0, Nat.reduceMul, Nat.reduceAdd, Nat.reduceSub, Nat.reduceEqDiff, Nat.reduceLeDiff, Nat.reduceLT, Nat.not_lt_zero, jx_cl, nI_leI, nI_ltI, nI_eq, jx_neg, jx_neg', jx_negE, jx_negL, jx_negG, jx_negLE, jx_negN, sb_nlt, sb_nle, jx_b0, jx_b1, jx_bT, jx_bF, ite_true, ite_false, if_true, if_false, reduceIte, Bool.false_eq_true, Bool.true_eq_false, eq_self, Nat.one_ne_zero, Nat.add_sub_cancel, not_true_eq_false, not_false_eq_true, hn, hq, hbit, k187, hld, ha, hb, qa, hfh, hfe, ep]
          · have et : js_thr w i h = jwa w i := by unfold js_thr jx_thr; rw [if_neg fun x => qa x.symm]
            rw [et] at hft hfe ⊢
            rw [← hft] at hfe
            simp (disch := first | assumption | omega | exact jx_bz _ | exact jx_z0 | exact jx_z1 | (refine jx_ixB ?_ ?_; omega; omega) | (simp (disch := first | omega | fail) only [jx_lit, pk_mul, nI_add, nI_pred, pk_sub, jx_na, jx_add0, Nat.reduceMul, Nat.reduceAdd, Nat.reduceSub, Nat.reduceEqDiff, Nat.reduceLeDiff, Nat.reduceLT, hn, hq, hbit, k187, hld, ha, hb, qa, hfh, hfe, ep]; refine jx_ixC ?_ ?_; omega; omega) | (simp (disch := first | omega | fail) only [jx_lit, pk_mul, nI_add, nI_pred, pk_sub, jx_na, jx_add0, Nat.reduceMul, Nat.reduceAdd, Nat.reduceSub, Nat.reduceEqDiff, Nat.reduceLeDiff, Nat.reduceLT, jx_cl, nI_leI, Nat.zero_le, true_and, hn, hq, hbit, k187, hld, ha, hb, qa, hfh, hfe, ep]; omega) | fail) only [jb_193_0, jb_193_10, jb_193_19, jb_193_25, jb_193_28, jb_193_38, jb_193_47, jb_193_53, jb_193_73, jb_193_84, jb_193_86, jb_193_92, jx_nl, jx_nlr, jx_thenS, jx_tlS, jx_tlN, jm_ite_go, jx_rds, jx_rdn, jx_lit, pk_mul, nI_add, nI_pred, pk_sub, jx_na, jx_add0, Nat.reduceMul, Nat.reduceAdd, Nat.reduceSub, Nat.reduceEqDiff, Nat.reduceLeDiff, Nat.reduceLT, Nat.not_lt_zero, jx_cl, nI_leI, nI_ltI, nI_eq, jx_neg, jx_neg', jx_negE, jx_negL, jx_negG, jx_negLE, jx_negN, sb_nlt, sb_nle, jx_b0, jx_b1, jx_bT, jx_bF, ite_true, ite_false, if_true, if_false, reduceIte, Bool.false_eq_true, Bool.true_eq_false, eq_self, Nat.one_ne_zero, Nat.add_sub_cancel, not_true_eq_false, not_false_eq_true, hn, hq, hbit, k187, hld, ha, hb, qa, hfh, hfe, ep]
  obtain ⟨v4, e1, -⟩ := jx_for (E := jm_ev (d + 1)) (y := 193) (σ := Option Value) k (fun k v4 => (2, [some (.ref 57), some (.int (nI h)), some (.int (nI B)), some (.int (nI k)), v4], [], jm_hp I rho mu)) (fun _ _ => True) (fun i v4 hi _ => by
    obtain ⟨v5, e⟩ := turn i v4 (by omega)
    rw [hl i hi] at e
    exact ⟨v5, by rw [e]; simp, trivial⟩) k 0 none (Nat.zero_add _) trivial
  obtain ⟨v5, e2⟩ := turn k v4 hk
  rw [e0, e1, e2, hp]; simp
theorem jl_194a {d B f : Nat} {rho : Nat → Option Nat} {mu : List (Nat × Nat)} {w : jW} {v1 : Option Value} (hB : B < 4096) (hf : f < 8) :
    ∀ (j h : Nat) (l : List Nat) (n : Nat) (I : Nat → Nat → Int32) (v5 v6 : Option Value), jMt I w → (∀ h, h < 8 → I 77 h = js_ft w B f 8 h) → h < 8 → n + j < 8 → (js_lay w B f j).testBit h = true → (∀ i, i < j → (js_lay w B f i).testBit h = false) → js_wd w B f j h l →
    ∃ J v4' v5', jm_go (jm_ev (d + 2)) 194 (5, [some (.ref 57), v1, some (.int (nI B)), some (.int (nI n)), some (.int (nI h)), v5, v6], [], jm_hp I rho mu) = jm_go (jm_ev (d + 2)) 194 (75, [some (.ref 57), v1, some (.int (nI B)), some (.int (nI (n + j))), v4', v5', v6], [], jm_hp J rho mu) ∧ jG (jS_at 78) I J ∧ (∀ i, i < n → J 78 i = I 78 i) ∧ ∀ i, i < j → J 78 (n + i) = nI (l.getD i 0) := by
  intro j
  induction j with
  | zero =>
    intro h l n I v5 v6 hw hJ hh hn8 h1 h2 hl
    have hfh := hJ h hh
    rw [js_ft_at h1 h2 8 (by omega)] at hfh
    refine ⟨I, some (.int (nI h)), v5, ?_, jG_rf, fun i _ => rfl, fun i hi => by omega⟩
    rw [jb_194_5 (jx_ixB hh (by omega)), jx_cl (by omega), hfh]
    simp (disch := first | assumption | omega | exact jx_bz _ | exact jx_z0 | exact jx_z1 | (refine jx_ixB ?_ ?_; omega; omega) | (simp (disch := first | omega | fail) only [jx_lit, pk_mul, nI_add, nI_pred, pk_sub, jx_na, jx_add0, Nat.reduceMul, Nat.reduceAdd, Nat.reduceSub, Nat.reduceEqDiff, Nat.reduceLeDiff, Nat.reduceLT, Nat.le_refl, Nat.add_zero]; refine jx_ixC ?_ ?_; omega; omega) | (simp (disch := first | omega | fail) only [jx_lit, pk_mul, nI_add, nI_pred, pk_sub, jx_na, jx_add0, Nat.reduceMul, Nat.reduceAdd, Nat.reduceSub, Nat.reduceEqDiff, Nat.reduceLeDiff, Nat.reduceLT, jx_cl, nI_leI, Nat.zero_le, true_and, Nat.le_refl, Nat.add_zero]; omega) | fail) only [jx_lit, pk_mul, nI_add, nI_pred, pk_sub, jx_na, jx_add0, Nat.reduceMul, Nat.reduceAdd, Nat.reduceSub, Nat.reduceEqDiff, Nat.reduceLeDiff, Nat.reduceLT, Nat.not_lt_zero, jx_cl, nI_leI, nI_ltI, nI_eq, jx_neg, jx_neg', jx_negE, jx_negL, jx_negG, jx_negLE, jx_negN, sb_nlt, sb_nle, jx_b0, jx_b1, jx_bT, jx_bF, ite_true, ite_false, if_true, if_false, reduceIte, Bool.false_eq_true, Bool.true_eq_false, eq_self, Nat.one_ne_zero, Nat.add_sub_cancel, not_true_eq_false, not_false_eq_true, jx_rds, jx_rdn, Nat.le_refl, Nat.add_zero]
  | succ j ih =>
    intro h l n I v5 v6 hw hJ hh hn8 h1 h2 hl
    obtain ⟨k, m, rfl, hk, hp, hlq, hm⟩ := hl
    have hU := hw.1
    obtain ⟨hn, hn12, hSb, hF⟩ := id hU
    obtain ⟨ha, ha8, hb, hb8, hab, -⟩ := hF k hk
    have hd := jU_d hU
    have hH := jU_H hU
    have hfh := hJ h hh
    rw [js_ft_at h1 h2 8 (by omega)] at hfh
    obtain ⟨d1, d2⟩ := js_ld_dist hd hk hp h2
    have k193 := @jf_193 d B f h j k I rho mu w hw hB hf hh (by omega) hJ h1 h2 hk hp hlq
    have k144 : jm_ev (d + 2) 144 [.int (nI k), .int (nI 0), .int (nI 11)] (jm_hp I rho mu) = some (some (.int (nI k)), jm_hp I rho mu) := by
      rw [@jf_144 (d + 1), js_bd_id (by omega) (by omega)]
    have hwJ : jMt (jm_up I 78 n (nI k)) w := jMt_mo hw (jG_at (a := 78)) fun a k q => by simp [jS_at]; omega
    obtain ⟨J, v4', v5', e, g, r1, r2⟩ := ih (js_thr w k h) m (n + 1) (jm_up I 78 n (nI k)) (some (.int (nI k))) v6 hwJ (fun x hx => by rw [jx_rdn (by omega)]; exact hJ x hx) (jx_thr_lt hH hk) (by omega) d1 d2 hm
    refine ⟨J, v4', v5', ?_, jG_tr jG_at g, fun i hi => by rw [r1 i (by omega), jx_rdn (by omega)], fun i hi => ?_⟩
    · rw [show n + (j + 1) = n + 1 + j by omega, ← e]
      have hpos : ¬ j + 1 ≤ 0 := by omega
      have ha2 : jm_up I 78 n (nI k) 61 k = nI (jwa w k) := by rw [jx_rdn (by omega)]; exact ha
      have hb2 : jm_up I 78 n (nI k) 62 k = nI (jwb w k) := by rw [jx_rdn (by omega)]; exact hb
      rw [jb_194_5 (jx_ixB hh (by omega)), jx_cl (by omega), hfh]
      by_cases qa : jwa w k = h
      · have et : js_thr w k h = jwb w k := by unfold js_thr jx_thr; rw [if_pos qa.symm]
        rw [et]
        simp (disch := first | assumption | omega | exact jx_bz _ | exact jx_z0 | exact jx_z1 | (refine jx_ixB ?_ ?_; omega; omega) | (simp (disch := first | omega | fail) only [jx_lit, pk_mul, nI_add, nI_pred, pk_sub, jx_na, jx_add0, Nat.reduceMul, Nat.reduceAdd, Nat.reduceSub, Nat.reduceEqDiff, Nat.reduceLeDiff, Nat.reduceLT, hpos, k193, k144, ha, hb, ha2, hb2, qa]; refine jx_ixC ?_ ?_; omega; omega) | (simp (disch := first | omega | fail) only [jx_lit, pk_mul, nI_add, nI_pred, pk_sub, jx_na, jx_add0, Nat.reduceMul, Nat.reduceAdd, Nat.reduceSub, Nat.reduceEqDiff, Nat.reduceLeDiff, Nat.reduceLT, jx_cl, nI_leI, Nat.zero_le, true_and, hpos, k193, k144, ha, hb, ha2, hb2, qa]; omega) | fail) only [jb_194_0, jb_194_15, jb_194_22, jb_194_28, jb_194_53, jb_194_63, jb_194_70, jb_194_75, jb_194_88, jb_194_111, jx_nl, jx_nlr, jx_thenS, jx_tlS, jx_tlN, jm_ite_go, jx_rds, jx_rdn, jx_lit, pk_mul, nI_add, nI_pred, pk_sub, jx_na, jx_add0, Nat.reduceMul, Nat.reduceAdd, Nat.reduceSub, Nat.reduceEqDiff, Nat.reduceLeDiff, Nat.reduceLT, Nat.not_lt_zero, jx_cl, nI_leI, nI_ltI, nI_eq, jx_neg, jx_neg', jx_negE, jx_negL, jx_negG, jx_negLE, jx_negN, sb_nlt, sb_nle, jx_b0, jx_b1, jx_bT, jx_bF, ite_true, ite_false, if_true, if_false, reduceIte, Bool.false_eq_true, Bool.true_eq_false, eq_self, Nat.one_ne_zero, Nat.add_sub_cancel, not_true_eq_false, not_false_eq_true, hpos, k193, k144, ha, hb, ha2, hb2, qa]
      · have et : js_thr w k h = jwa w k := by unfold js_thr jx_thr; rw [if_neg fun x => qa x.symm]
        rw [et]
        simp (disch := first | assumption | omega | exact jx_bz _ | exact jx_z0 | exact jx_z1 | (refine jx_ixB ?_ ?_; omega; omega) | (simp (disch := first | omega | fail) only [jx_lit, pk_mul, nI_add, nI_pred, pk_sub, jx_na, jx_add0, Nat.reduceMul, Nat.reduceAdd, Nat.reduceSub, Nat.reduceEqDiff, Nat.reduceLeDiff, Nat.reduceLT, hpos, k193, k144, ha, hb, ha2, hb2, qa]; refine jx_ixC ?_ ?_; omega; omega) | (simp (disch := first | omega | fail) only [jx_lit, pk_mul, nI_add, nI_pred, pk_sub, jx_na, jx_add0, Nat.reduceMul, Nat.reduceAdd, Nat.reduceSub, Nat.reduceEqDiff, Nat.reduceLeDiff, Nat.reduceLT, jx_cl, nI_leI, Nat.zero_le, true_and, hpos, k193, k144, ha, hb, ha2, hb2, qa]; omega) | fail) only [jb_194_0, jb_194_15, jb_194_22, jb_194_28, jb_194_53, jb_194_63, jb_194_70, jb_194_75, jb_194_88, jb_194_111, jx_nl, jx_nlr, jx_thenS, jx_tlS, jx_tlN, jm_ite_go, jx_rds, jx_rdn, jx_lit, pk_mul, nI_add, nI_pred, pk_sub, jx_na, jx_add0, Nat.reduceMul, Nat.reduceAdd, Nat.reduceSub, Nat.reduceEqDiff, Nat.reduceLeDiff, Nat.reduceLT, Nat.not_lt_zero, jx_cl, nI_leI, nI_ltI, nI_eq, jx_neg, jx_neg', jx_negE, jx_negL, jx_negG, jx_negLE, jx_negN, sb_nlt, sb_nle, jx_b0, jx_b1, jx_bT, jx_bF, ite_true, ite_false, if_true, if_false, reduceIte, Bool.false_eq_true, Bool.true_eq_false, eq_self, Nat.one_ne_zero, Nat.add_sub_cancel, not_true_eq_false, not_false_eq_true, hpos, k193, k144, ha, hb, ha2, hb2, qa]
    · cases i with
      | zero => rw [Nat.add_zero, r1 n (by omega), jx_rds]; rfl
      | succ i => rw [show n + (i + 1) = n + 1 + i by omega, r2 i (by omega), List.getD_cons_succ]
theorem js_num_drop {l : List Nat} {m : Nat} (h : m < l.length) : js_num (l.drop m) = 17 * js_num (l.drop (m + 1)) + (l.getD m 0 + 1) := by
  rw [List.drop_eq_getElem_cons h, js_num, List.getD_eq_getElem?_getD, List.getElem?_eq_getElem h]; rfl
theorem jl_194b {d : Nat} {rho : Nat → Option Nat} {mu : List (Nat × Nat)} {I : Nat → Nat → Int32} {v1 v2 v3 : Option Value} {l : List Nat} (hl : l.length < 8) (hI : ∀ i, i < l.length → I 78 i = nI (l.getD i 0)) :
    ∀ (m : Nat) (v4 : Option Value), m ≤ l.length → jm_go (jm_ev d) 194 (83, [some (.ref 57), v1, v2, v3, v4, some (.int (nI (js_num (l.drop m)))), some (.int (nI m - nI 1))], [], jm_hp I rho mu) = some (some (.int (nI (js_num l))), jm_hp I rho mu) := by
  intro m
  induction m with
  | zero =>
    intro v4 hm
    have h1 : nI 0 - nI 1 < nI 0 := by decide
    rw [jb_194_83]
    simp (disch := first | assumption | omega | exact jx_bz _ | exact jx_z0 | exact jx_z1 | (refine jx_ixB ?_ ?_; omega; omega) | (simp (disch := first | omega | fail) only [jx_lit, pk_mul, nI_add, nI_pred, pk_sub, jx_na, jx_add0, Nat.reduceMul, Nat.reduceAdd, Nat.reduceSub, Nat.reduceEqDiff, Nat.reduceLeDiff, Nat.reduceLT, h1, List.drop_zero]; refine jx_ixC ?_ ?_; omega; omega) | (simp (disch := first | omega | fail) only [jx_lit, pk_mul, nI_add, nI_pred, pk_sub, jx_na, jx_add0, Nat.reduceMul, Nat.reduceAdd, Nat.reduceSub, Nat.reduceEqDiff, Nat.reduceLeDiff, Nat.reduceLT, jx_cl, nI_leI, Nat.zero_le, true_and, h1, List.drop_zero]; omega) | fail) only [jb_194_0, jb_194_15, jb_194_22, jb_194_28, jb_194_53, jb_194_63, jb_194_70, jb_194_75, jb_194_88, jb_194_111, jx_nl, jx_nlr, jx_thenS, jx_tlS, jx_tlN, jm_ite_go, jx_rds, jx_rdn, jx_lit, pk_mul, nI_add, nI_pred, pk_sub, jx_na, jx_add0, Nat.reduceMul, Nat.reduceAdd, Nat.reduceSub, Nat.reduceEqDiff, Nat.reduceLeDiff, Nat.reduceLT, Nat.not_lt_zero, jx_cl, nI_leI, nI_ltI, nI_eq, jx_neg, jx_neg', jx_negE, jx_negL, jx_negG, jx_negLE, jx_negN, sb_nlt, sb_nle, jx_b0, jx_b1, jx_bT, jx_bF, ite_true, ite_false, if_true, if_false, reduceIte, Bool.false_eq_true, Bool.true_eq_false, eq_self, Nat.one_ne_zero, Nat.add_sub_cancel, not_true_eq_false, not_false_eq_true, h1, List.drop_zero]
  | succ m ih =>
    intro v4 hm
    have := ih (jm_nl v4) (by omega)
    rw [js_num_drop (by omega)] at this
    rw [show nI (m + 1) - nI 1 = nI m from nI_pred m, ← this, jb_194_83]
    have h1 : ¬ nI m < nI 0 := by rw [nI_ltI (by omega) (by omega)]; omega
    simp only [jx_lit, h1, if_false]
    rw [jb_194_88 (jx_ixB (by omega) (by omega)), jx_cl (by omega), hI m (by omega), Int32.sub_eq_add_neg]
    simp only [jx_lit, nI_add, pk_mul, Nat.add_assoc]
theorem jf_194 {d B f h j : Nat} {I : Nat → Nat → Int32} {rho : Nat → Option Nat} {mu : List (Nat × Nat)} {w : jW} {l : List Nat} (hw : jMt I w) (hB : B < 4096) (hf : f < 8) (hh : h < 8) (hj : j < 8) (hJ : ∀ h, h < 8 → I 77 h = js_ft w B f 8 h) (h1 : (js_lay w B f j).testBit h = true) (h2 : ∀ i, i < j → (js_lay w B f i).testBit h = false) (hl : js_wd w B f j h l) (hlen : l.length = j) :
    ∃ J, jm_ev (d + 3) 194 [.ref 57, .int (nI h), .int (nI B)] (jm_hp I rho mu) = some (some (.int (nI (js_num l))), jm_hp J rho mu) ∧ jG (jS_at 78) I J := by
  obtain ⟨J, v4, v5, e, g, -, r⟩ := jl_194a (d := d) (rho := rho) (mu := mu) (v1 := some (.int (nI h))) hB hf j h l 0 I none none hw hJ hh (by omega) h1 h2 hl
  refine ⟨J, ?_, g⟩
  have e0 : jm_ev (d + 3) 194 [.ref 57, .int (nI h), .int (nI B)] (jm_hp I rho mu) = jm_go (jm_ev (d + 2)) 194 (5, [some (.ref 57), some (.int (nI h)), some (.int (nI B)), some (.int (nI 0)), some (.int (nI h)), none, none], [], jm_hp I rho mu) := by
    simp (disch := first | assumption | omega | exact jx_bz _ | exact jx_z0 | exact jx_z1 | (refine jx_ixB ?_ ?_; omega; omega) | (simp (disch := first | omega | fail) only [jx_lit, pk_mul, nI_add, nI_pred, pk_sub, jx_na, jx_add0, Nat.reduceMul, Nat.reduceAdd, Nat.reduceSub, Nat.reduceEqDiff, Nat.reduceLeDiff, Nat.reduceLT]; refine jx_ixC ?_ ?_; omega; omega) | (simp (disch := first | omega | fail) only [jx_lit, pk_mul, nI_add, nI_pred, pk_sub, jx_na, jx_add0, Nat.reduceMul, Nat.reduceAdd, Nat.reduceSub, Nat.reduceEqDiff, Nat.reduceLeDiff, Nat.reduceLT, jx_cl, nI_leI, Nat.zero_le, true_and]; omega) | fail) only [je_194, jb_194_0, jb_194_15, jb_194_22, jb_194_28, jb_194_53, jb_194_63, jb_194_70, jb_194_75, jb_194_88, jb_194_111, jx_nl, jx_nlr, jx_thenS, jx_tlS, jx_tlN, jm_ite_go, jx_rds, jx_rdn, jx_lit, pk_mul, nI_add, nI_pred, pk_sub, jx_na, jx_add0, Nat.reduceMul, Nat.reduceAdd, Nat.reduceSub, Nat.reduceEqDiff, Nat.reduceLeDiff, Nat.reduceLT, Nat.not_lt_zero, jx_cl, nI_leI, nI_ltI, nI_eq, jx_neg, jx_neg', jx_negE, jx_negL, jx_negG, jx_negLE, jx_negN, sb_nlt, sb_nle, jx_b0, jx_b1, jx_bT, jx_bF, ite_true, ite_false, if_true, if_false, reduceIte, Bool.false_eq_true, Bool.true_eq_false, eq_self, Nat.one_ne_zero, Nat.add_sub_cancel, not_true_eq_false, not_false_eq_true]
  have k := jl_194b (d := d + 2) (rho := rho) (mu := mu) (I := J) (v1 := some (.int (nI h))) (v2 := some (.int (nI B))) (v3 := some (.int (nI (0 + j)))) (l := l) (by omega) (fun i hi => by have := r i (by omega); rw [Nat.zero_add] at this; exact this) l.length (jm_nl v4) (Nat.le_refl _)
  rw [List.drop_length] at k
  rw [e0, e, jb_194_75, ← k, hlen, Nat.zero_add]
  rfl
