/-! one code, then a row of codes -/
def jS_at (a : Nat) : Nat → Nat → Bool := fun x _ => decide (x = a)
theorem jS_atN {a x k : Nat} (h : jS_at a x k = false) : ¬ x = a := by simpa [jS_at] using h
theorem jG_at {a k : Nat} {I : Nat → Nat → Int32} {v : Int32} : jG (jS_at a) I (jm_up I a k v) := jG_up jG_rf (by simp [jS_at])
theorem jG_to {a x : Nat} {I J : Nat → Nat → Int32} (h : jG (jS_at a) I J) (hx : ¬ x = a) : J x = I x := by
  funext k; exact h x k (by simp [jS_at, hx])
theorem jv_nA {c : Nat} (h : 100000 ≤ c) : jv_n c = 0 := by rw [jv_n, if_pos h]
theorem jv_nB {c : Nat} (h : c < 11) : jv_n c = 0 := by rw [jv_n, if_neg (by omega), if_pos h]
theorem jv_vA {c : Nat} {env : Nat → Int32} {a b : Int32} (h : 100000 ≤ c) : jv_val env c a b = nI (c - 100000) := by rw [jv_val, if_pos h]
theorem jv_vB {c : Nat} {env : Nat → Int32} {a b : Int32} (h : c < 11) : jv_val env c a b = env c := by rw [jv_val, if_neg (by omega), if_pos h]
theorem jv_vc {c : Nat} {env : Nat → Int32} {a b b2 : Int32} (h : jv_n c ≤ 1) : jv_val env c a b = jv_val env c a b2 := by
  unfold jv_n at h
  unfold jv_val
  by_cases h1 : 100000 ≤ c
  · rw [if_pos h1, if_pos h1]
  · by_cases h2 : c < 11
    · rw [if_neg h1, if_neg h1, if_pos h2, if_pos h2]
    · by_cases h3 : c = 13
      · rw [if_neg h1, if_neg h1, if_neg h2, if_neg h2, if_pos h3, if_pos h3]
      · by_cases h4 : c = 19
        · rw [if_neg h1, if_neg h1, if_neg h2, if_neg h2, if_neg h3, if_neg h3, if_pos h4, if_pos h4]
        · rw [if_neg h1, if_neg h2, if_neg h3, if_neg h4] at h; omega
theorem jv_vc0 {c : Nat} {env : Nat → Int32} {a b a2 b2 : Int32} (h : jv_n c = 0) : jv_val env c a b = jv_val env c a2 b2 := by
  unfold jv_n at h
  unfold jv_val
  by_cases h1 : 100000 ≤ c
  · rw [if_pos h1, if_pos h1]
  · by_cases h2 : c < 11
    · rw [if_neg h1, if_neg h1, if_pos h2, if_pos h2]
    · exfalso
      rw [if_neg h1, if_neg h2] at h
      split at h
      · omega
      · split at h <;> omega
/-- the value does not see what lies from h on -/
theorem jv_cong {env : Nat → Int32} {c h : Nat} {f g : Nat → Int32} (hn : jv_n c ≤ h) (hfg : ∀ j, j < h → f j = g j) : jv_val env c (f (h - jv_n c)) (f (h - jv_n c + 1)) = jv_val env c (g (h - jv_n c)) (g (h - jv_n c + 1)) := by
  by_cases h0 : jv_n c = 0
  · exact jv_vc0 h0
  · rw [hfg (h - jv_n c) (by omega)]
    by_cases h1 : jv_n c ≤ 1
    · exact jv_vc h1
    · rw [hfg (h - jv_n c + 1) (by
        have : jv_n c ≤ 2 := by unfold jv_n; repeat' split
                                all_goals omega
        omega)]
theorem jl_50t {d t S o e i h c : Nat} {rho : Nat → Option Nat} {mu : List (Nat × Nat)} {x y : Int32} {I : Nat → Nat → Int32} {v1 v8 v9 : Option Value} (ht : t < 6) (ho : jm_isO mu o) (h5 : I o 5 = nI S) (hS : S < 4096) (he : e ≤ 160) (hi : i < e) (hc : jv_code c) (hI : I (7 + 4 * t) i = jv_cl c) (hn : jv_n c ≤ h) (hh : h - jv_n c < 39) :
    ∃ w8 w9, jm_go (jm_ev (d + 2)) 50 (27, [some (.ref (6 + 4 * t)), v1, some (.ref o), some (.int x), some (.int y), some (.int (nI h)), some (.int (nI e)), some (.int (nI i)), v8, v9], [], jm_hp I rho mu) = jm_go (jm_ev (d + 2)) 50 (27, [some (.ref (6 + 4 * t)), v1, some (.ref o), some (.int x), some (.int y), some (.int (nI (h - jv_n c + 1))), some (.int (nI e)), some (.int (nI (i + 1))), w8, w9], [], jm_hp (jm_up I (9 + 4 * t) (h - jv_n c) (jv_val (js_env (I o) x y) c (I (9 + 4 * t) (h - jv_n c)) (I (9 + 4 * t) (h - jv_n c + 1)))) rho mu) := by
  refine ⟨some (.int (jv_cl c)), some (.int (jv_val (js_env (I o) x y) c (I (9 + 4 * t) (h - jv_n c)) (I (9 + 4 * t) (h - jv_n c + 1)))), ?_⟩
  have hi2 : ¬ e ≤ i := by omega
  have hh2 : h - jv_n c + 1 < 40 := by omega
  have k51 := jf_51 (d := d + 1) (I := I) (rho := rho) (mu := mu) hc
  rcases hc with hc | hc | hc
  · have h6 : c + 1 ≤ 6 := by omega
    have k52 := jf_52 (d := d) (I := I) (rho := rho) (mu := mu) (x := x) (y := y) hc ho h5 hS
    rw [jv_vB (by omega)]
    rw [jv_cB hc] at hI k51 ⊢
    rw [jb_50_27]
    simp (disch := first | assumption | omega | exact jx_bz _ | exact jx_z0 | exact jx_z1 | (refine jx_ixB ?_ ?_; omega; omega) | (simp (disch := first | omega | fail) only [jx_lit, pk_mul, nI_add, nI_pred, pk_sub, jx_na, jx_add0, Nat.reduceMul, Nat.reduceAdd, Nat.reduceSub, Nat.reduceEqDiff, Nat.reduceLeDiff, Nat.reduceLT, hi2, hh2, hI, k51, k52, h6]; refine jx_ixC ?_ ?_; omega; omega) | (simp (disch := first | omega | fail) only [jx_lit, pk_mul, nI_add, nI_pred, pk_sub, jx_na, jx_add0, Nat.reduceMul, Nat.reduceAdd, Nat.reduceSub, Nat.reduceEqDiff, Nat.reduceLeDiff, Nat.reduceLT, jx_cl, nI_leI, Nat.zero_le, true_and, hi2, hh2, hI, k51, k52, h6]; omega) | fail) only [jb_50_0, jb_50_8, jb_50_25, jb_50_32, jb_50_39, jb_50_55, jb_50_63, jb_50_75, jb_50_77, jb_50_88, jb_50_109, jb_50_114, jb_50_119, jb_50_128, jb_50_130, jb_50_148, jx_nl, jx_nlr, jx_thenS, jx_tlS, jx_tlN, jm_ite_go, jx_rds, jx_rdn, jx_lit, pk_mul, nI_add, nI_pred, pk_sub, jx_na, jx_add0, Nat.reduceMul, Nat.reduceAdd, Nat.reduceSub, Nat.reduceEqDiff, Nat.reduceLeDiff, Nat.reduceLT, Nat.not_lt_zero, jx_cl, nI_leI, nI_ltI, nI_eq, jx_neg, jx_neg', jx_negE, jx_negL, jx_negG, jx_negLE, jx_negN, sb_nlt, sb_nle, jx_b0, jx_b1, jx_bT, jx_bF, ite_true, ite_false, if_true, if_false, reduceIte, Bool.false_eq_true, Bool.true_eq_false, eq_self, Nat.one_ne_zero, Nat.add_sub_cancel, not_true_eq_false, not_false_eq_true, hi2, hh2, hI, k51, k52, h6]
  · have h6 : ¬ c - 4 ≤ 6 := by omega
    have k53 := jf_53 (d := d) (I := I) (rho := rho) (mu := mu) (x := I (9 + 4 * t) (h - jv_n c)) (y := I (9 + 4 * t) (h - jv_n c + 1)) (env := js_env (I o) x y) hc.1 hc.2
    rw [jv_cC hc.1 hc.2] at hI k51 ⊢
    rw [jb_50_27]
    simp (disch := first | assumption | omega | exact jx_bz _ | exact jx_z0 | exact jx_z1 | (refine jx_ixB ?_ ?_; omega; omega) | (simp (disch := first | omega | fail) only [jx_lit, pk_mul, nI_add, nI_pred, pk_sub, jx_na, jx_add0, Nat.reduceMul, Nat.reduceAdd, Nat.reduceSub, Nat.reduceEqDiff, Nat.reduceLeDiff, Nat.reduceLT, hi2, hh2, hI, k51, k53, h6]; refine jx_ixC ?_ ?_; omega; omega) | (simp (disch := first | omega | fail) only [jx_lit, pk_mul, nI_add, nI_pred, pk_sub, jx_na, jx_add0, Nat.reduceMul, Nat.reduceAdd, Nat.reduceSub, Nat.reduceEqDiff, Nat.reduceLeDiff, Nat.reduceLT, jx_cl, nI_leI, Nat.zero_le, true_and, hi2, hh2, hI, k51, k53, h6]; omega) | fail) only [jb_50_0, jb_50_8, jb_50_25, jb_50_32, jb_50_39, jb_50_55, jb_50_63, jb_50_75, jb_50_77, jb_50_88, jb_50_109, jb_50_114, jb_50_119, jb_50_128, jb_50_130, jb_50_148, jx_nl, jx_nlr, jx_thenS, jx_tlS, jx_tlN, jm_ite_go, jx_rds, jx_rdn, jx_lit, pk_mul, nI_add, nI_pred, pk_sub, jx_na, jx_add0, Nat.reduceMul, Nat.reduceAdd, Nat.reduceSub, Nat.reduceEqDiff, Nat.reduceLeDiff, Nat.reduceLT, Nat.not_lt_zero, jx_cl, nI_leI, nI_ltI, nI_eq, jx_neg, jx_neg', jx_negE, jx_negL, jx_negG, jx_negLE, jx_negN, sb_nlt, sb_nle, jx_b0, jx_b1, jx_bT, jx_bF, ite_true, ite_false, if_true, if_false, reduceIte, Bool.false_eq_true, Bool.true_eq_false, eq_self, Nat.one_ne_zero, Nat.add_sub_cancel, not_true_eq_false, not_false_eq_true, hi2, hh2, hI, k51, k53, h6]
  · rw [jv_vA hc.1]
    rw [jv_cA hc.1] at hI k51 ⊢
    rw [jb_50_27]
    simp (disch := first | assumption | omega | exact jx_bz _ | exact jx_z0 | exact jx_z1 | (refine jx_ixB ?_ ?_; omega; omega) | (simp (disch := first | omega | fail) only [jx_lit, pk_mul, nI_add, nI_pred, pk_sub, jx_na, jx_add0, Nat.reduceMul, Nat.reduceAdd, Nat.reduceSub, Nat.reduceEqDiff, Nat.reduceLeDiff, Nat.reduceLT, hi2, hh2, hI, k51, Nat.zero_le]; refine jx_ixC ?_ ?_; omega; omega) | (simp (disch := first | omega | fail) only [jx_lit, pk_mul, nI_add, nI_pred, pk_sub, jx_na, jx_add0, Nat.reduceMul, Nat.reduceAdd, Nat.reduceSub, Nat.reduceEqDiff, Nat.reduceLeDiff, Nat.reduceLT, jx_cl, nI_leI, Nat.zero_le, true_and, hi2, hh2, hI, k51, Nat.zero_le]; omega) | fail) only [jb_50_0, jb_50_8, jb_50_25, jb_50_32, jb_50_39, jb_50_55, jb_50_63, jb_50_75, jb_50_77, jb_50_88, jb_50_109, jb_50_114, jb_50_119, jb_50_128, jb_50_130, jb_50_148, jx_nl, jx_nlr, jx_thenS, jx_tlS, jx_tlN, jm_ite_go, jx_rds, jx_rdn, jx_lit, pk_mul, nI_add, nI_pred, pk_sub, jx_na, jx_add0, Nat.reduceMul, Nat.reduceAdd, Nat.reduceSub, Nat.reduceEqDiff, Nat.reduceLeDiff, Nat.reduceLT, Nat.not_lt_zero, jx_cl, nI_leI, nI_ltI, nI_eq, jx_neg, jx_neg', jx_negE, jx_negL, jx_negG, jx_negLE, jx_negN, sb_nlt, sb_nle, jx_b0, jx_b1, jx_bT, jx_bF, ite_true, ite_false, if_true, if_false, reduceIte, Bool.false_eq_true, Bool.true_eq_false, eq_self, Nat.one_ne_zero, Nat.add_sub_cancel, not_true_eq_false, not_false_eq_true, hi2, hh2, hI, k51, Nat.zero_le]
theorem jl_50 {d t S o e : Nat} {rho : Nat → Option Nat} {mu : List (Nat × Nat)} {x y : Int32} {P : Nat → Int32} {v1 : Option Value} (ht : t < 6) (ho : jm_isO mu o) (ho9 : ¬ o = 9 + 4 * t) (hP5 : P 5 = nI S) (hS : S < 4096) (he : e ≤ 160) :
    ∀ (l : List Nat) (i h h2 : Nat) (f : Nat → Int32) (I : Nat → Nat → Int32) (v8 v9 : Option Value), i + l.length = e → (∀ j, j < l.length → I (7 + 4 * t) (i + j) = jv_cl (l.getD j 0)) → (∀ c, c ∈ l → jv_code c) → jv_h l h = some h2 → I o = P → h ≤ 39 → (∀ j, j < h → I (9 + 4 * t) j = f j) →
    ∃ J, jm_go (jm_ev (d + 2)) 50 (27, [some (.ref (6 + 4 * t)), v1, some (.ref o), some (.int x), some (.int y), some (.int (nI h)), some (.int (nI e)), some (.int (nI i)), v8, v9], [], jm_hp I rho mu) = some (some (.int (J (9 + 4 * t) 0)), jm_hp J rho mu) ∧ (∀ j, j < h2 → J (9 + 4 * t) j = (jv_run (js_env P x y) l (h, f)).2 j) ∧ jG (jS_at (9 + 4 * t)) I J := by
  intro l
  induction l with
  | nil =>
    intro i h h2 f I v8 v9 hi hI hc hh hP hh39 hf
    refine ⟨I, ?_, ?_, jG_rf⟩
    · have : e ≤ i := by simp at hi; omega
      rw [jb_50_27]
      simp (disch := first | assumption | omega | exact jx_bz _ | exact jx_z0 | exact jx_z1 | (refine jx_ixB ?_ ?_; omega; omega) | (simp (disch := first | omega | fail) only [jx_lit, pk_mul, nI_add, nI_pred, pk_sub, jx_na, jx_add0, Nat.reduceMul, Nat.reduceAdd, Nat.reduceSub, Nat.reduceEqDiff, Nat.reduceLeDiff, Nat.reduceLT, this]; refine jx_ixC ?_ ?_; omega; omega) | (simp (disch := first | omega | fail) only [jx_lit, pk_mul, nI_add, nI_pred, pk_sub, jx_na, jx_add0, Nat.reduceMul, Nat.reduceAdd, Nat.reduceSub, Nat.reduceEqDiff, Nat.reduceLeDiff, Nat.reduceLT, jx_cl, nI_leI, Nat.zero_le, true_and, this]; omega) | fail) only [jb_50_0, jb_50_8, jb_50_25, jb_50_32, jb_50_39, jb_50_55, jb_50_63, jb_50_75, jb_50_77, jb_50_88, jb_50_109, jb_50_114, jb_50_119, jb_50_128, jb_50_130, jb_50_148, jx_nl, jx_nlr, jx_thenS, jx_tlS, jx_tlN, jm_ite_go, jx_rds, jx_rdn, jx_lit, pk_mul, nI_add, nI_pred, pk_sub, jx_na, jx_add0, Nat.reduceMul, Nat.reduceAdd, Nat.reduceSub, Nat.reduceEqDiff, Nat.reduceLeDiff, Nat.reduceLT, Nat.not_lt_zero, jx_cl, nI_leI, nI_ltI, nI_eq, jx_neg, jx_neg', jx_negE, jx_negL, jx_negG, jx_negLE, jx_negN, sb_nlt, sb_nle, jx_b0, jx_b1, jx_bT, jx_bF, ite_true, ite_false, if_true, if_false, reduceIte, Bool.false_eq_true, Bool.true_eq_false, eq_self, Nat.one_ne_zero, Nat.add_sub_cancel, not_true_eq_false, not_false_eq_true, this]
    · rw [jv_h] at hh; cases hh; exact hf
  | cons c l ih =>
    intro i h h2 f I v8 v9 hi hI hc hh hP hh39 hf
    rw [jv_h] at hh
    split at hh
    next hk =>
      have hc0 := hc c List.mem_cons_self
      have hI0 := hI 0 (by simp)
      rw [Nat.add_zero] at hI0
      rw [List.length_cons] at hi
      obtain ⟨w8, w9, e1⟩ := jl_50t (d := d) (rho := rho) (x := x) (y := y) (v1 := v1) (v8 := v8) (v9 := v9) ht ho (by rw [hP]; exact hP5) hS he (by omega) hc0 hI0 hk.1 hk.2
      rw [hP] at e1
      obtain ⟨J, e2, g2, s2⟩ := ih (i + 1) (h - jv_n c + 1) h2 (jv_st (js_env P x y) (h, f) c).2 (jm_up I (9 + 4 * t) (h - jv_n c) (jv_val (js_env P x y) c (I (9 + 4 * t) (h - jv_n c)) (I (9 + 4 * t) (h - jv_n c + 1)))) w8 w9 (by omega) (fun j hj => by
          rw [jx_rdo (by omega)]
          have := hI (j + 1) (by rw [List.length_cons]; omega)
          rw [List.getD_cons_succ, show i + (j + 1) = i + 1 + j by omega] at this
          exact this) (fun z hz => hc z (List.mem_cons_of_mem _ hz)) hh (by rw [jx_rdo ho9]; exact hP) (by omega) (fun j hj => by
          show _ = if j = h - jv_n c then _ else f j
          by_cases q : j = h - jv_n c
          · subst q; rw [jx_rds, if_pos rfl]; exact jv_cong hk.1 hf
          · rw [jx_rdn (by omega), if_neg q]; exact hf j (by omega))
      exact ⟨J, e1.trans e2, g2, jG_tr jG_at s2⟩
    next => cases hh
