/-! THE REFERENCE's turns over a text -/
theorem jz_t_lt (b : Nat → Nat) (s p : Nat) (hb : ∀ k, b k < 256) : jz_t b s p < 256 := by
  unfold jz_t jz_tw
  have := hb (jz_r b s p)
  repeat' split
  all_goals omega
theorem jz_no_rep (j : Nat) : jz_no (List.replicate j 19) = j := by
  induction j with
  | zero => rfl
  | succ j ih => rw [List.replicate_succ, jz_no, ih, show jz_o1 19 = 1 from rfl, Nat.add_comm]
noncomputable def jz_g1 (d : Nat) (rho : Nat → Option Nat) (mu : List (Nat × Nat)) (K : Nat → Nat → Int32) (w mn : Nat) (l3 : Option Value) : jm_V := jm_go (jm_ev (d + 4)) 167 (14, [some (.ref 57), some (.int (nI w)), some (.int (nI mn)), l3], [], jm_hp K rho mu)
theorem jz_nx {d : Nat} {b : Nat → Nat} {s t p o : Nat} {hd C : List Nat} {K : Nat → Nat → Int32} {rho : Nat → Option Nat} {mu : List (Nat × Nat)} (hR : jz_R K b s t p hd o C) (hp : p ≤ s) :
    ∃ J, jm_ev (d + 2) 159 [.ref 57] (jm_hp K rho mu) = some (none, jm_hp J rho mu) ∧ jz_R J b s t (jz_e b s p) hd o C ∧ J 57 23 = nI (jz_r b s p) ∧ J 57 24 = jz_mt (jz_t b s p) ∧ (1 ≤ jz_t b s p → jz_t b s p ≤ 3 → J 57 25 = nI (jz_v b s p)) ∧ jG (jS_rm t) K J := by
  obtain ⟨J, e, g, h1, h2, h3, h4⟩ := jf_159 (d := d) (rho := rho) (mu := mu) hR.1 hR.2.2.1 hp
  exact ⟨J, e, jz_R_lm hR g h1, h2, h3, h4, jG_lmm g⟩
theorem jz_vw_lt {b : Nat → Nat} {s p : Nat} (h : jz_t b s p = 2) : jz_v b s p < 6 := by
  unfold jz_t at h
  unfold jz_v
  have h7 : ∀ k, jz_tw k = 2 → jz_vw k < 6 := by
    intro k hk
    unfold jz_tw at hk
    unfold jz_vw
    repeat' split at hk
    all_goals (split <;> omega)
  by_cases h1 : jz_r b s p < s
  · rw [if_pos h1] at h
    by_cases h2 : jz_le (b (jz_r b s p)) = true
    · rw [if_pos h2] at h ⊢; exact h7 _ h
    · rw [if_neg h2] at h
      exfalso
      by_cases h3 : jz_di (b (jz_r b s p)) = true
      · rw [if_pos h3] at h; split at h <;> omega
      · rw [if_neg h3] at h
        by_cases h4 : jz_si (b (jz_r b s p)) = true
        · rw [if_pos h4] at h
          simp only [jz_si, Bool.or_eq_true, decide_eq_true_eq] at h4
          omega
        · rw [if_neg h4] at h; omega
  · rw [if_neg h1] at h; omega
theorem jz_vl_lt {b : Nat → Nat} {r : Nat} : ∀ n, (∀ k, k < n → 48 ≤ b (r + k) ∧ b (r + k) ≤ 57) → jz_vl b r n < 10 ^ n := by
  intro n
  induction n with
  | zero => intro _; show 0 < 10 ^ 0; decide
  | succ n ih =>
    intro h
    have h1 := ih fun k hk => h k (by omega)
    have h2 := h n (by omega)
    rw [jz_vl, Nat.pow_succ]
    omega
theorem jz_v1_lt {b : Nat → Nat} {s p : Nat} (hp : p ≤ s) (h : jz_t b s p = 1) : jz_v b s p < 10000 := by
  have hr := jz_r_le b hp
  obtain ⟨e', he⟩ : ∃ e', e' = jz_e b s p := ⟨_, rfl⟩
  unfold jz_t at h
  unfold jz_v
  rw [← he] at h ⊢
  unfold jz_e at he
  have h7 : ∀ k, jz_tw k = 1 → False := by
    intro k hk
    unfold jz_tw at hk
    repeat' split at hk
    all_goals omega
  by_cases h1 : jz_r b s p < s
  · rw [if_pos h1] at h he
    by_cases h2 : jz_le (b (jz_r b s p)) = true
    · rw [if_pos h2] at h; exact (h7 _ h).elim
    · rw [if_neg h2] at h he ⊢
      by_cases h3 : jz_di (b (jz_r b s p)) = true
      · rw [if_pos h3] at h he
        split at h
        · next h4 =>
          have h5 := jz_vl_lt (b := b) (r := jz_r b s p) (e' - jz_r b s p) fun k hk => by
            have := jz_x_all (Q := jz_di) (b := b) (s := s) (r := jz_r b s p) (k := jz_r b s p + k) (by omega) (by rw [← he]; omega)
            unfold jz_di at this
            rw [Bool.and_eq_true] at this
            exact ⟨of_decide_eq_true this.1, of_decide_eq_true this.2⟩
          exact Nat.lt_of_lt_of_le h5 (Nat.le_trans (Nat.pow_le_pow_right (by decide) h4) (by decide))
        · omega
      · rw [if_neg h3] at h
        by_cases h4 : jz_si (b (jz_r b s p)) = true
        · rw [if_pos h4] at h
          simp only [jz_si, Bool.or_eq_true, decide_eq_true_eq] at h4
          omega
        · rw [if_neg h4] at h; omega
  · rw [if_neg h1] at h; omega
def jz_cd (b : Nat → Nat) (s p : Nat) : Nat := if jz_t b s p = 1 then 100000 + jz_v b s p else jz_v b s p
theorem jz_cd_ok {b : Nat → Nat} {s p : Nat} (hp : p ≤ s) (h : jz_t b s p = 1 ∨ jz_t b s p = 2) : jv_code (jz_cd b s p) ∧ jv_n (jz_cd b s p) = 0 := by
  unfold jz_cd
  rcases h with h | h
  · have := jz_v1_lt hp h
    rw [if_pos h]; exact ⟨.inr (.inr ⟨by omega, by omega⟩), jv_nA (by omega)⟩
  · have := jz_vw_lt h
    rw [if_neg (by omega)]; exact ⟨.inl this, jv_nB (by omega)⟩
/-- an operand -/
theorem jr_num {d : Nat} {b : Nat → Nat} {s t p o j mn : Nat} {hd C : List Nat} {K : Nat → Nat → Int32} {rho : Nat → Option Nat} {mu : List (Nat × Nat)} {l3 : Option Value} (hp : p ≤ s) (hR : jz_R K b s t p (List.replicate j 19 ++ hd) (o + j) C) (hh : jz_hr hd 7) (hn : (List.replicate j 19 ++ hd).length + C.length ≤ p) (hT : jz_t b s p = 1 ∨ jz_t b s p = 2) :
    ∃ J, jz_g1 d rho mu K 1 mn l3 = jz_g1 d rho mu J 0 mn l3 ∧ jz_R J b s t (jz_e b s p) hd o (C ++ (jz_cd b s p :: List.replicate j 19)) ∧ jG (jS_rm t) K J := by
  obtain ⟨J, k159, r1, -, r3, r4, g1⟩ := jz_nx (d := d + 2) (rho := rho) (mu := mu) hR hp
  have hs := hR.1.2.1
  have h0 := jz_t_0 hp (show jz_t b s p ≠ 0 by omega)
  have r4 := r4 (by omega) (by omega)
  have hlt : p < 160 := by have := (jz_r_le b hp).1; omega
  have k161 := @jf_161 (d + 3) C.length t (nI (jz_cd b s p)) J rho mu r1.2.1 r1.2.2.2.2.2.1.1 r1.2.2.2.2.2.2.2.2.2 (by omega)
  have r5 := jz_R_put (c := jz_cd b s p) r1 (by omega)
  obtain ⟨J1, hJ1⟩ : ∃ J1, J1 = jm_up (jm_up J 65 (200 * t + C.length) (nI (jz_cd b s p))) 57 30 (nI (C.length + 1)) := ⟨_, rfl⟩
  rw [← hJ1] at k161 r5
  have g2 : jG (jS_rm t) J J1 := by rw [hJ1]; exact jG_up (jG_up jG_rf (jS_rmY (by omega))) (jS_rmY (by omega))
  obtain ⟨J2, k162, r6, g3⟩ := jf_162 (d := d + 2) (least := 7) (S := List.replicate j 19) (hd := hd) (o := o) (rho := rho) (mu := mu) (by omega) (by rw [jz_no_rep]; exact r5) (fun g hg => by rw [(List.mem_replicate.mp hg).2]; decide) hh
  refine ⟨J2, ?_, by rw [List.append_assoc] at r6; exact r6, jG_tr (jG_tr g1 g2) (jG_rum g3)⟩
  unfold jz_g1
  rw [jb_167_14]
  rcases hT with hT | hT
  · have r3 : J 57 24 = nI 1 := by rw [r3, hT]; rfl
    have ec : jz_cd b s p = 100000 + jz_v b s p := by unfold jz_cd; rw [if_pos hT]
    rw [ec] at k161
    simp (disch := first | assumption | omega | exact jx_bz _ | exact jx_z0 | exact jx_z1 | (refine jx_ixB ?_ ?_; omega; omega) | (simp (disch := first | omega | fail) only [jx_lit, pk_mul, nI_add, nI_pred, pk_sub, jx_na, jx_add0, Nat.reduceMul, Nat.reduceAdd, Nat.reduceSub, Nat.reduceEqDiff, Nat.reduceLeDiff, Nat.reduceLT, k159, r3, r4, k161, k162]; refine jx_ixC ?_ ?_; omega; omega) | (simp (disch := first | omega | fail) only [jx_lit, pk_mul, nI_add, nI_pred, pk_sub, jx_na, jx_add0, Nat.reduceMul, Nat.reduceAdd, Nat.reduceSub, Nat.reduceEqDiff, Nat.reduceLeDiff, Nat.reduceLT, jx_cl, nI_leI, Nat.zero_le, true_and, k159, r3, r4, k161, k162]; omega) | fail) only [jb_167_0, jb_167_18, jb_167_22, jb_167_30, jb_167_38, jb_167_47, jb_167_57, jb_167_61, jb_167_64, jb_167_70, jb_167_75, jb_167_84, jb_167_88, jb_167_94, jb_167_97, jb_167_99, jb_167_108, jb_167_114, jb_167_117, jb_167_119, jb_167_124, jb_167_133, jb_167_138, jb_167_141, jb_167_143, jb_167_148, jb_167_150, jb_167_159, jb_167_164, jb_167_171, jb_167_175, jb_167_176, jb_167_177, jb_167_186, jb_167_191, jb_167_198, jb_167_200, jb_167_226, jb_167_229, jb_167_233, jb_167_239, jb_167_244, jb_167_247, jb_167_249, jb_167_257, jb_167_261, jb_167_262, jx_nl, jx_nlr, jx_thenS, jx_tlS, jx_tlN, jm_ite_go, jx_rds, jx_rdn, jx_lit, pk_mul, nI_add, nI_pred, pk_sub, jx_na, jx_add0, Nat.reduceMul, Nat.reduceAdd, Nat.reduceSub, Nat.reduceEqDiff, Nat.reduceLeDiff, Nat.reduceLT, Nat.not_lt_zero, jx_cl, nI_leI, nI_ltI, nI_eq, jx_neg, jx_neg', jx_negE, jx_negL, jx_negG, jx_negLE, jx_negN, sb_nlt, sb_nle, jx_b0, jx_b1, jx_bT, jx_bF, ite_true, ite_false, if_true, if_false, reduceIte, Bool.false_eq_true, Bool.true_eq_false, eq_self, Nat.one_ne_zero, Nat.add_sub_cancel, not_true_eq_false, not_false_eq_true, k159, r3, r4, k161, k162]
  · have r3 : J 57 24 = nI 2 := by rw [r3, hT]; rfl
    have ec : jz_cd b s p = jz_v b s p := by unfold jz_cd; rw [if_neg (by omega)]
    rw [ec] at k161
    simp (disch := first | assumption | omega | exact jx_bz _ | exact jx_z0 | exact jx_z1 | (refine jx_ixB ?_ ?_; omega; omega) | (simp (disch := first | omega | fail) only [jx_lit, pk_mul, nI_add, nI_pred, pk_sub, jx_na, jx_add0, Nat.reduceMul, Nat.reduceAdd, Nat.reduceSub, Nat.reduceEqDiff, Nat.reduceLeDiff, Nat.reduceLT, k159, r3, r4, k161, k162]; refine jx_ixC ?_ ?_; omega; omega) | (simp (disch := first | omega | fail) only [jx_lit, pk_mul, nI_add, nI_pred, pk_sub, jx_na, jx_add0, Nat.reduceMul, Nat.reduceAdd, Nat.reduceSub, Nat.reduceEqDiff, Nat.reduceLeDiff, Nat.reduceLT, jx_cl, nI_leI, Nat.zero_le, true_and, k159, r3, r4, k161, k162]; omega) | fail) only [jb_167_0, jb_167_18, jb_167_22, jb_167_30, jb_167_38, jb_167_47, jb_167_57, jb_167_61, jb_167_64, jb_167_70, jb_167_75, jb_167_84, jb_167_88, jb_167_94, jb_167_97, jb_167_99, jb_167_108, jb_167_114, jb_167_117, jb_167_119, jb_167_124, jb_167_133, jb_167_138, jb_167_141, jb_167_143, jb_167_148, jb_167_150, jb_167_159, jb_167_164, jb_167_171, jb_167_175, jb_167_176, jb_167_177, jb_167_186, jb_167_191, jb_167_198, jb_167_200, jb_167_226, jb_167_229, jb_167_233, jb_167_239, jb_167_244, jb_167_247, jb_167_249, jb_167_257, jb_167_261, jb_167_262, jx_nl, jx_nlr, jx_thenS, jx_tlS, jx_tlN, jm_ite_go, jx_rds, jx_rdn, jx_lit, pk_mul, nI_add, nI_pred, pk_sub, jx_na, jx_add0, Nat.reduceMul, Nat.reduceAdd, Nat.reduceSub, Nat.reduceEqDiff, Nat.reduceLeDiff, Nat.reduceLT, Nat.not_lt_zero, jx_cl, nI_leI, nI_ltI, nI_eq, jx_neg, jx_neg', jx_negE, jx_negL, jx_negG, jx_negLE, jx_negN, sb_nlt, sb_nle, jx_b0, jx_b1, jx_bT, jx_bF, ite_true, ite_false, if_true, if_false, reduceIte, Bool.false_eq_true, Bool.true_eq_false, eq_self, Nat.one_ne_zero, Nat.add_sub_cancel, not_true_eq_false, not_false_eq_true, k159, r3, r4, k161, k162]
/-- a not -/
theorem jr_not {d : Nat} {b : Nat → Nat} {s t p o : Nat} {hd C : List Nat} {K : Nat → Nat → Int32} {rho : Nat → Option Nat} {mu : List (Nat × Nat)} {l3 : Option Value} (hp : p ≤ s) (hR : jz_R K b s t p hd o C) (hn : hd.length + C.length ≤ p) (hT : jz_t b s p = 6) :
    (o < 5 → ∃ J, jz_g1 d rho mu K 1 1 l3 = jz_g1 d rho mu J 1 1 l3 ∧ jz_R J b s t (jz_e b s p) (13 :: hd) (o + 1) C ∧ jG (jS_rm t) K J) ∧
    (o = 5 → ∃ J, jz_g1 d rho mu K 1 1 l3 = some (some (.int (nI 0)), jm_hp J rho mu) ∧ jG (jS_rm t) K J ∧ J 57 23 = nI (jz_r b s p) ∧ J 57 30 = nI C.length) := by
  obtain ⟨J, k159, r1, r2, r3, -, g1⟩ := jz_nx (d := d + 2) (rho := rho) (mu := mu) hR hp
  have hs := hR.1.2.1
  have h0 := jz_t_0 hp (show jz_t b s p ≠ 0 by omega)
  have hlt : p < 160 := by have := (jz_r_le b hp).1; omega
  have r3 : J 57 24 = nI 6 := by rw [r3, hT]; rfl
  refine ⟨fun ho => ?_, fun ho => ?_⟩
  · obtain ⟨J2, k164, r6, g3⟩ := jf_164 (d := d + 2) (g := 13) (rho := rho) (mu := mu) r1 (by omega) ho (by omega)
    refine ⟨J2, ?_, r6, jG_tr g1 g3⟩
    unfold jz_g1
    rw [jb_167_14]
    simp (disch := first | assumption | omega | exact jx_bz _ | exact jx_z0 | exact jx_z1 | (refine jx_ixB ?_ ?_; omega; omega) | (simp (disch := first | omega | fail) only [jx_lit, pk_mul, nI_add, nI_pred, pk_sub, jx_na, jx_add0, Nat.reduceMul, Nat.reduceAdd, Nat.reduceSub, Nat.reduceEqDiff, Nat.reduceLeDiff, Nat.reduceLT, k159, r3, k164]; refine jx_ixC ?_ ?_; omega; omega) | (simp (disch := first | omega | fail) only [jx_lit, pk_mul, nI_add, nI_pred, pk_sub, jx_na, jx_add0, Nat.reduceMul, Nat.reduceAdd, Nat.reduceSub, Nat.reduceEqDiff, Nat.reduceLeDiff, Nat.reduceLT, jx_cl, nI_leI, Nat.zero_le, true_and, k159, r3, k164]; omega) | fail) only [jb_167_0, jb_167_18, jb_167_22, jb_167_30, jb_167_38, jb_167_47, jb_167_57, jb_167_61, jb_167_64, jb_167_70, jb_167_75, jb_167_84, jb_167_88, jb_167_94, jb_167_97, jb_167_99, jb_167_108, jb_167_114, jb_167_117, jb_167_119, jb_167_124, jb_167_133, jb_167_138, jb_167_141, jb_167_143, jb_167_148, jb_167_150, jb_167_159, jb_167_164, jb_167_171, jb_167_175, jb_167_176, jb_167_177, jb_167_186, jb_167_191, jb_167_198, jb_167_200, jb_167_226, jb_167_229, jb_167_233, jb_167_239, jb_167_244, jb_167_247, jb_167_249, jb_167_257, jb_167_261, jb_167_262, jx_nl, jx_nlr, jx_thenS, jx_tlS, jx_tlN, jm_ite_go, jx_rds, jx_rdn, jx_lit, pk_mul, nI_add, nI_pred, pk_sub, jx_na, jx_add0, Nat.reduceMul, Nat.reduceAdd, Nat.reduceSub, Nat.reduceEqDiff, Nat.reduceLeDiff, Nat.reduceLT, Nat.not_lt_zero, jx_cl, nI_leI, nI_ltI, nI_eq, jx_neg, jx_neg', jx_negE, jx_negL, jx_negG, jx_negLE, jx_negN, sb_nlt, sb_nle, jx_b0, jx_b1, jx_bT, jx_bF, ite_true, ite_false, if_true, if_false, reduceIte, Bool.false_eq_true, Bool.true_eq_false, eq_self, Nat.one_ne_zero, Nat.add_sub_cancel, not_true_eq_false, not_false_eq_true, k159, r3, k164]
  · subst ho
    have k164 := @jf_164n (d + 2) 13 J rho mu r1.2.2.2.2.1
    refine ⟨J, ?_, g1, r2, r1.2.2.2.2.2.1.1⟩
    unfold jz_g1
    rw [jb_167_14]
    simp (disch := first | assumption | omega | exact jx_bz _ | exact jx_z0 | exact jx_z1 | (refine jx_ixB ?_ ?_; omega; omega) | (simp (disch := first | omega | fail) only [jx_lit, pk_mul, nI_add, nI_pred, pk_sub, jx_na, jx_add0, Nat.reduceMul, Nat.reduceAdd, Nat.reduceSub, Nat.reduceEqDiff, Nat.reduceLeDiff, Nat.reduceLT, k159, r3, k164]; refine jx_ixC ?_ ?_; omega; omega) | (simp (disch := first | omega | fail) only [jx_lit, pk_mul, nI_add, nI_pred, pk_sub, jx_na, jx_add0, Nat.reduceMul, Nat.reduceAdd, Nat.reduceSub, Nat.reduceEqDiff, Nat.reduceLeDiff, Nat.reduceLT, jx_cl, nI_leI, Nat.zero_le, true_and, k159, r3, k164]; omega) | fail) only [jb_167_0, jb_167_18, jb_167_22, jb_167_30, jb_167_38, jb_167_47, jb_167_57, jb_167_61, jb_167_64, jb_167_70, jb_167_75, jb_167_84, jb_167_88, jb_167_94, jb_167_97, jb_167_99, jb_167_108, jb_167_114, jb_167_117, jb_167_119, jb_167_124, jb_167_133, jb_167_138, jb_167_141, jb_167_143, jb_167_148, jb_167_150, jb_167_159, jb_167_164, jb_167_171, jb_167_175, jb_167_176, jb_167_177, jb_167_186, jb_167_191, jb_167_198, jb_167_200, jb_167_226, jb_167_229, jb_167_233, jb_167_239, jb_167_244, jb_167_247, jb_167_249, jb_167_257, jb_167_261, jb_167_262, jx_nl, jx_nlr, jx_thenS, jx_tlS, jx_tlN, jm_ite_go, jx_rds, jx_rdn, jx_lit, pk_mul, nI_add, nI_pred, pk_sub, jx_na, jx_add0, Nat.reduceMul, Nat.reduceAdd, Nat.reduceSub, Nat.reduceEqDiff, Nat.reduceLeDiff, Nat.reduceLT, Nat.not_lt_zero, jx_cl, nI_leI, nI_ltI, nI_eq, jx_neg, jx_neg', jx_negE, jx_negL, jx_negG, jx_negLE, jx_negN, sb_nlt, sb_nle, jx_b0, jx_b1, jx_bT, jx_bF, ite_true, ite_false, if_true, if_false, reduceIte, Bool.false_eq_true, Bool.true_eq_false, eq_self, Nat.one_ne_zero, Nat.add_sub_cancel, not_true_eq_false, not_false_eq_true, k159, r3, k164]
/-- a - ahead of an operand -/
theorem jr_neg {d : Nat} {b : Nat → Nat} {s t p o mn : Nat} {hd C : List Nat} {K : Nat → Nat → Int32} {rho : Nat → Option Nat} {mu : List (Nat × Nat)} {l3 : Option Value} (hp : p ≤ s) (hR : jz_R K b s t p hd o C) (hn : hd.length + C.length ≤ p) (hT : jz_t b s p = 45) :
    (o < 5 → ∃ J, jz_g1 d rho mu K 1 mn l3 = jz_g1 d rho mu J 1 0 l3 ∧ jz_R J b s t (jz_e b s p) (19 :: hd) (o + 1) C ∧ jG (jS_rm t) K J) ∧
    (o = 5 → ∃ J, jz_g1 d rho mu K 1 mn l3 = some (some (.int (nI 0)), jm_hp J rho mu) ∧ jG (jS_rm t) K J ∧ J 57 23 = nI (jz_r b s p) ∧ J 57 30 = nI C.length) := by
  obtain ⟨J, k159, r1, r2, r3, -, g1⟩ := jz_nx (d := d + 2) (rho := rho) (mu := mu) hR hp
  have hs := hR.1.2.1
  have h0 := jz_t_0 hp (show jz_t b s p ≠ 0 by omega)
  have hlt : p < 160 := by have := (jz_r_le b hp).1; omega
  have r3 : J 57 24 = nI 45 := by rw [r3, hT]; rfl
  refine ⟨fun ho => ?_, fun ho => ?_⟩
  · obtain ⟨J2, k164, r6, g3⟩ := jf_164 (d := d + 2) (g := 19) (rho := rho) (mu := mu) r1 (by omega) ho (by omega)
    refine ⟨J2, ?_, r6, jG_tr g1 g3⟩
    unfold jz_g1
    rw [jb_167_14]
    simp (disch := first | assumption | omega | exact jx_bz _ | exact jx_z0 | exact jx_z1 | (refine jx_ixB ?_ ?_; omega; omega) | (simp (disch := first | omega | fail) only [jx_lit, pk_mul, nI_add, nI_pred, pk_sub, jx_na, jx_add0, Nat.reduceMul, Nat.reduceAdd, Nat.reduceSub, Nat.reduceEqDiff, Nat.reduceLeDiff, Nat.reduceLT, k159, r3, k164]; refine jx_ixC ?_ ?_; omega; omega) | (simp (disch := first | omega | fail) only [jx_lit, pk_mul, nI_add, nI_pred, pk_sub, jx_na, jx_add0, Nat.reduceMul, Nat.reduceAdd, Nat.reduceSub, Nat.reduceEqDiff, Nat.reduceLeDiff, Nat.reduceLT, jx_cl, nI_leI, Nat.zero_le, true_and, k159, r3, k164]; omega) | fail) only [jb_167_0, jb_167_18, jb_167_22, jb_167_30, jb_167_38, jb_167_47, jb_167_57, jb_167_61, jb_167_64, jb_167_70, jb_167_75, jb_167_84, jb_167_88, jb_167_94, jb_167_97, jb_167_99, jb_167_108, jb_167_114, jb_167_117, jb_167_119, jb_167_124, jb_167_133, jb_167_138, jb_167_141, jb_167_143, jb_167_148, jb_167_150, jb_167_159, jb_167_164, jb_167_171, jb_167_175, jb_167_176, jb_167_177, jb_167_186, jb_167_191, jb_167_198, jb_167_200, jb_167_226, jb_167_229, jb_167_233, jb_167_239, jb_167_244, jb_167_247, jb_167_249, jb_167_257, jb_167_261, jb_167_262, jx_nl, jx_nlr, jx_thenS, jx_tlS, jx_tlN, jm_ite_go, jx_rds, jx_rdn, jx_lit, pk_mul, nI_add, nI_pred, pk_sub, jx_na, jx_add0, Nat.reduceMul, Nat.reduceAdd, Nat.reduceSub, Nat.reduceEqDiff, Nat.reduceLeDiff, Nat.reduceLT, Nat.not_lt_zero, jx_cl, nI_leI, nI_ltI, nI_eq, jx_neg, jx_neg', jx_negE, jx_negL, jx_negG, jx_negLE, jx_negN, sb_nlt, sb_nle, jx_b0, jx_b1, jx_bT, jx_bF, ite_true, ite_false, if_true, if_false, reduceIte, Bool.false_eq_true, Bool.true_eq_false, eq_self, Nat.one_ne_zero, Nat.add_sub_cancel, not_true_eq_false, not_false_eq_true, k159, r3, k164]
  · subst ho
    have k164 := @jf_164n (d + 2) 19 J rho mu r1.2.2.2.2.1
    refine ⟨J, ?_, g1, r2, r1.2.2.2.2.2.1.1⟩
    unfold jz_g1
    rw [jb_167_14]
    simp (disch := first | assumption | omega | exact jx_bz _ | exact jx_z0 | exact jx_z1 | (refine jx_ixB ?_ ?_; omega; omega) | (simp (disch := first | omega | fail) only [jx_lit, pk_mul, nI_add, nI_pred, pk_sub, jx_na, jx_add0, Nat.reduceMul, Nat.reduceAdd, Nat.reduceSub, Nat.reduceEqDiff, Nat.reduceLeDiff, Nat.reduceLT, k159, r3, k164]; refine jx_ixC ?_ ?_; omega; omega) | (simp (disch := first | omega | fail) only [jx_lit, pk_mul, nI_add, nI_pred, pk_sub, jx_na, jx_add0, Nat.reduceMul, Nat.reduceAdd, Nat.reduceSub, Nat.reduceEqDiff, Nat.reduceLeDiff, Nat.reduceLT, jx_cl, nI_leI, Nat.zero_le, true_and, k159, r3, k164]; omega) | fail) only [jb_167_0, jb_167_18, jb_167_22, jb_167_30, jb_167_38, jb_167_47, jb_167_57, jb_167_61, jb_167_64, jb_167_70, jb_167_75, jb_167_84, jb_167_88, jb_167_94, jb_167_97, jb_167_99, jb_167_108, jb_167_114, jb_167_117, jb_167_119, jb_167_124, jb_167_133, jb_167_138, jb_167_141, jb_167_143, jb_167_148, jb_167_150, jb_167_159, jb_167_164, jb_167_171, jb_167_175, jb_167_176, jb_167_177, jb_167_186, jb_167_191, jb_167_198, jb_167_200, jb_167_226, jb_167_229, jb_167_233, jb_167_239, jb_167_244, jb_167_247, jb_167_249, jb_167_257, jb_167_261, jb_167_262, jx_nl, jx_nlr, jx_thenS, jx_tlS, jx_tlN, jm_ite_go, jx_rds, jx_rdn, jx_lit, pk_mul, nI_add, nI_pred, pk_sub, jx_na, jx_add0, Nat.reduceMul, Nat.reduceAdd, Nat.reduceSub, Nat.reduceEqDiff, Nat.reduceLeDiff, Nat.reduceLT, Nat.not_lt_zero, jx_cl, nI_leI, nI_ltI, nI_eq, jx_neg, jx_neg', jx_negE, jx_negL, jx_negG, jx_negLE, jx_negN, sb_nlt, sb_nle, jx_b0, jx_b1, jx_bT, jx_bF, ite_true, ite_false, if_true, if_false, reduceIte, Bool.false_eq_true, Bool.true_eq_false, eq_self, Nat.one_ne_zero, Nat.add_sub_cancel, not_true_eq_false, not_false_eq_true, k159, r3, k164]
/-- a ( -/
theorem jr_par {d : Nat} {b : Nat → Nat} {s t p o mn : Nat} {hd C : List Nat} {K : Nat → Nat → Int32} {rho : Nat → Option Nat} {mu : List (Nat × Nat)} {l3 : Option Value} (hp : p ≤ s) (hR : jz_R K b s t p hd o C) (hn : hd.length + C.length ≤ p) (hT : jz_t b s p = 40) :
    (o < 5 → ∃ J, jz_g1 d rho mu K 1 mn l3 = jz_g1 d rho mu J 1 1 l3 ∧ jz_R J b s t (jz_e b s p) (0 :: hd) (o + 1) C ∧ jG (jS_rm t) K J) ∧
    (o = 5 → ∃ J, jz_g1 d rho mu K 1 mn l3 = some (some (.int (nI 0)), jm_hp J rho mu) ∧ jG (jS_rm t) K J ∧ J 57 23 = nI (jz_r b s p) ∧ J 57 30 = nI C.length) := by
  obtain ⟨J, k159, r1, r2, r3, -, g1⟩ := jz_nx (d := d + 2) (rho := rho) (mu := mu) hR hp
  have hs := hR.1.2.1
  have h0 := jz_t_0 hp (show jz_t b s p ≠ 0 by omega)
  have hlt : p < 160 := by have := (jz_r_le b hp).1; omega
  have r3 : J 57 24 = nI 40 := by rw [r3, hT]; rfl
  refine ⟨fun ho => ?_, fun ho => ?_⟩
  · obtain ⟨J2, k164, r6, g3⟩ := jf_164 (d := d + 2) (g := 0) (rho := rho) (mu := mu) r1 (by omega) ho (by omega)
    refine ⟨J2, ?_, r6, jG_tr g1 g3⟩
    unfold jz_g1
    rw [jb_167_14]
    simp (disch := first | assumption | omega | exact jx_bz _ | exact jx_z0 | exact jx_z1 | (refine jx_ixB ?_ ?_; omega; omega) | (simp (disch := first | omega | fail) only [jx_lit, pk_mul, nI_add, nI_pred, pk_sub, jx_na, jx_add0, Nat.reduceMul, Nat.reduceAdd, Nat.reduceSub, Nat.reduceEqDiff, Nat.reduceLeDiff, Nat.reduceLT, k159, r3, k164]; refine jx_ixC ?_ ?_; omega; omega) | (simp (disch := first | omega | fail) only [jx_lit, pk_mul, nI_add, nI_pred, pk_sub, jx_na, jx_add0, Nat.reduceMul, Nat.reduceAdd, Nat.reduceSub, Nat.reduceEqDiff, Nat.reduceLeDiff, Nat.reduceLT, jx_cl, nI_leI, Nat.zero_le, true_and, k159, r3, k164]; omega) | fail) only [jb_167_0, jb_167_18, jb_167_22, jb_167_30, jb_167_38, jb_167_47, jb_167_57, jb_167_61, jb_167_64, jb_167_70, jb_167_75, jb_167_84, jb_167_88, jb_167_94, jb_167_97, jb_167_99, jb_167_108, jb_167_114, jb_167_117, jb_167_119, jb_167_124, jb_167_133, jb_167_138, jb_167_141, jb_167_143, jb_167_148, jb_167_150, jb_167_159, jb_167_164, jb_167_171, jb_167_175, jb_167_176, jb_167_177, jb_167_186, jb_167_191, jb_167_198, jb_167_200, jb_167_226, jb_167_229, jb_167_233, jb_167_239, jb_167_244, jb_167_247, jb_167_249, jb_167_257, jb_167_261, jb_167_262, jx_nl, jx_nlr, jx_thenS, jx_tlS, jx_tlN, jm_ite_go, jx_rds, jx_rdn, jx_lit, pk_mul, nI_add, nI_pred, pk_sub, jx_na, jx_add0, Nat.reduceMul, Nat.reduceAdd, Nat.reduceSub, Nat.reduceEqDiff, Nat.reduceLeDiff, Nat.reduceLT, Nat.not_lt_zero, jx_cl, nI_leI, nI_ltI, nI_eq, jx_neg, jx_neg', jx_negE, jx_negL, jx_negG, jx_negLE, jx_negN, sb_nlt, sb_nle, jx_b0, jx_b1, jx_bT, jx_bF, ite_true, ite_false, if_true, if_false, reduceIte, Bool.false_eq_true, Bool.true_eq_false, eq_self, Nat.one_ne_zero, Nat.add_sub_cancel, not_true_eq_false, not_false_eq_true, k159, r3, k164]
  · subst ho
    have k164 := @jf_164n (d + 2) 0 J rho mu r1.2.2.2.2.1
    refine ⟨J, ?_, g1, r2, r1.2.2.2.2.2.1.1⟩
    unfold jz_g1
    rw [jb_167_14]
    simp (disch := first | assumption | omega | exact jx_bz _ | exact jx_z0 | exact jx_z1 | (refine jx_ixB ?_ ?_; omega; omega) | (simp (disch := first | omega | fail) only [jx_lit, pk_mul, nI_add, nI_pred, pk_sub, jx_na, jx_add0, Nat.reduceMul, Nat.reduceAdd, Nat.reduceSub, Nat.reduceEqDiff, Nat.reduceLeDiff, Nat.reduceLT, k159, r3, k164]; refine jx_ixC ?_ ?_; omega; omega) | (simp (disch := first | omega | fail) only [jx_lit, pk_mul, nI_add, nI_pred, pk_sub, jx_na, jx_add0, Nat.reduceMul, Nat.reduceAdd, Nat.reduceSub, Nat.reduceEqDiff, Nat.reduceLeDiff, Nat.reduceLT, jx_cl, nI_leI, Nat.zero_le, true_and, k159, r3, k164]; omega) | fail) only [jb_167_0, jb_167_18, jb_167_22, jb_167_30, jb_167_38, jb_167_47, jb_167_57, jb_167_61, jb_167_64, jb_167_70, jb_167_75, jb_167_84, jb_167_88, jb_167_94, jb_167_97, jb_167_99, jb_167_108, jb_167_114, jb_167_117, jb_167_119, jb_167_124, jb_167_133, jb_167_138, jb_167_141, jb_167_143, jb_167_148, jb_167_150, jb_167_159, jb_167_164, jb_167_171, jb_167_175, jb_167_176, jb_167_177, jb_167_186, jb_167_191, jb_167_198, jb_167_200, jb_167_226, jb_167_229, jb_167_233, jb_167_239, jb_167_244, jb_167_247, jb_167_249, jb_167_257, jb_167_261, jb_167_262, jx_nl, jx_nlr, jx_thenS, jx_tlS, jx_tlN, jm_ite_go, jx_rds, jx_rdn, jx_lit, pk_mul, nI_add, nI_pred, pk_sub, jx_na, jx_add0, Nat.reduceMul, Nat.reduceAdd, Nat.reduceSub, Nat.reduceEqDiff, Nat.reduceLeDiff, Nat.reduceLT, Nat.not_lt_zero, jx_cl, nI_leI, nI_ltI, nI_eq, jx_neg, jx_neg', jx_negE, jx_negL, jx_negG, jx_negLE, jx_negN, sb_nlt, sb_nle, jx_b0, jx_b1, jx_bT, jx_bF, ite_true, ite_false, if_true, if_false, reduceIte, Bool.false_eq_true, Bool.true_eq_false, eq_self, Nat.one_ne_zero, Nat.add_sub_cancel, not_true_eq_false, not_false_eq_true, k159, r3, k164]
theorem jz_mt_ne {T n : Nat} (hT : T < 256) (hn : n < 256) (h : T ≠ n) (h7 : n ≠ 7) : ¬ jz_mt T = nI n := by
  unfold jz_mt
  by_cases z : T = 7
  · rw [if_pos z, jx_neg' (by omega) (by omega) (by omega)]; exact id
  · rw [if_neg z, nI_eq (by omega) (by omega)]; exact h
/-- where an operand is due, what is none -/
theorem jr_bad1 {d : Nat} {b : Nat → Nat} {s t p o mn : Nat} {hd C : List Nat} {K : Nat → Nat → Int32} {rho : Nat → Option Nat} {mu : List (Nat × Nat)} {l3 : Option Value} (hp : p ≤ s) (hR : jz_R K b s t p hd o C) (h1 : jz_t b s p ≠ 1) (h2 : jz_t b s p ≠ 2) (h45 : jz_t b s p ≠ 45) (h40 : jz_t b s p ≠ 40) (h6 : mn = 0 ∨ jz_t b s p ≠ 6) :
    ∃ J, jz_g1 d rho mu K 1 mn l3 = some (some (.int (nI 0)), jm_hp J rho mu) ∧ jG (jS_rm t) K J ∧ J 57 23 = nI (jz_r b s p) ∧ J 57 30 = nI C.length := by
  obtain ⟨J, k159, r1, r2, r3, -, g1⟩ := jz_nx (d := d + 2) (rho := rho) (mu := mu) hR hp
  have hlt := jz_t_lt b s p hR.1.2.2.2.1
  have n1 := jz_mt_ne hlt (show 1 < 256 by omega) h1 (by omega)
  have n2 := jz_mt_ne hlt (show 2 < 256 by omega) h2 (by omega)
  have n45 := jz_mt_ne hlt (show 45 < 256 by omega) h45 (by omega)
  have n40 := jz_mt_ne hlt (show 40 < 256 by omega) h40 (by omega)
  rw [← r3] at n1 n2 n45 n40
  refine ⟨J, ?_, g1, r2, r1.2.2.2.2.2.1.1⟩
  unfold jz_g1
  rw [jb_167_14]
  by_cases z6 : jz_t b s p = 6
  · have hmn : mn = 0 := by omega
    subst hmn
    have r3 : J 57 24 = nI 6 := by rw [r3, z6]; rfl
    simp (disch := first | assumption | omega | exact jx_bz _ | exact jx_z0 | exact jx_z1 | (refine jx_ixB ?_ ?_; omega; omega) | (simp (disch := first | omega | fail) only [jx_lit, pk_mul, nI_add, nI_pred, pk_sub, jx_na, jx_add0, Nat.reduceMul, Nat.reduceAdd, Nat.reduceSub, Nat.reduceEqDiff, Nat.reduceLeDiff, Nat.reduceLT, k159, r3]; refine jx_ixC ?_ ?_; omega; omega) | (simp (disch := first | omega | fail) only [jx_lit, pk_mul, nI_add, nI_pred, pk_sub, jx_na, jx_add0, Nat.reduceMul, Nat.reduceAdd, Nat.reduceSub, Nat.reduceEqDiff, Nat.reduceLeDiff, Nat.reduceLT, jx_cl, nI_leI, Nat.zero_le, true_and, k159, r3]; omega) | fail) only [jb_167_0, jb_167_18, jb_167_22, jb_167_30, jb_167_38, jb_167_47, jb_167_57, jb_167_61, jb_167_64, jb_167_70, jb_167_75, jb_167_84, jb_167_88, jb_167_94, jb_167_97, jb_167_99, jb_167_108, jb_167_114, jb_167_117, jb_167_119, jb_167_124, jb_167_133, jb_167_138, jb_167_141, jb_167_143, jb_167_148, jb_167_150, jb_167_159, jb_167_164, jb_167_171, jb_167_175, jb_167_176, jb_167_177, jb_167_186, jb_167_191, jb_167_198, jb_167_200, jb_167_226, jb_167_229, jb_167_233, jb_167_239, jb_167_244, jb_167_247, jb_167_249, jb_167_257, jb_167_261, jb_167_262, jx_nl, jx_nlr, jx_thenS, jx_tlS, jx_tlN, jm_ite_go, jx_rds, jx_rdn, jx_lit, pk_mul, nI_add, nI_pred, pk_sub, jx_na, jx_add0, Nat.reduceMul, Nat.reduceAdd, Nat.reduceSub, Nat.reduceEqDiff, Nat.reduceLeDiff, Nat.reduceLT, Nat.not_lt_zero, jx_cl, nI_leI, nI_ltI, nI_eq, jx_neg, jx_neg', jx_negE, jx_negL, jx_negG, jx_negLE, jx_negN, sb_nlt, sb_nle, jx_b0, jx_b1, jx_bT, jx_bF, ite_true, ite_false, if_true, if_false, reduceIte, Bool.false_eq_true, Bool.true_eq_false, eq_self, Nat.one_ne_zero, Nat.add_sub_cancel, not_true_eq_false, not_false_eq_true, k159, r3]
  · have n6 := jz_mt_ne hlt (show 6 < 256 by omega) z6 (by omega)
    rw [← r3] at n6
    simp (disch := first | assumption | omega | exact jx_bz _ | exact jx_z0 | exact jx_z1 | (refine jx_ixB ?_ ?_; omega; omega) | (simp (disch := first | omega | fail) only [jx_lit, pk_mul, nI_add, nI_pred, pk_sub, jx_na, jx_add0, Nat.reduceMul, Nat.reduceAdd, Nat.reduceSub, Nat.reduceEqDiff, Nat.reduceLeDiff, Nat.reduceLT, k159, n1, n2, n6, n45, n40]; refine jx_ixC ?_ ?_; omega; omega) | (simp (disch := first | omega | fail) only [jx_lit, pk_mul, nI_add, nI_pred, pk_sub, jx_na, jx_add0, Nat.reduceMul, Nat.reduceAdd, Nat.reduceSub, Nat.reduceEqDiff, Nat.reduceLeDiff, Nat.reduceLT, jx_cl, nI_leI, Nat.zero_le, true_and, k159, n1, n2, n6, n45, n40]; omega) | fail) only [jb_167_0, jb_167_18, jb_167_22, jb_167_30, jb_167_38, jb_167_47, jb_167_57, jb_167_61, jb_167_64, jb_167_70, jb_167_75, jb_167_84, jb_167_88, jb_167_94, jb_167_97, jb_167_99, jb_167_108, jb_167_114, jb_167_117, jb_167_119, jb_167_124, jb_167_133, jb_167_138, jb_167_141, jb_167_143, jb_167_148, jb_167_150, jb_167_159, jb_167_164, jb_167_171, jb_167_175, jb_167_176, jb_167_177, jb_167_186, jb_167_191, jb_167_198, jb_167_200, jb_167_226, jb_167_229, jb_167_233, jb_167_239, jb_167_244, jb_167_247, jb_167_249, jb_167_257, jb_167_261, jb_167_262, jx_nl, jx_nlr, jx_thenS, jx_tlS, jx_tlN, jm_ite_go, jx_rds, jx_rdn, jx_lit, pk_mul, nI_add, nI_pred, pk_sub, jx_na, jx_add0, Nat.reduceMul, Nat.reduceAdd, Nat.reduceSub, Nat.reduceEqDiff, Nat.reduceLeDiff, Nat.reduceLT, Nat.not_lt_zero, jx_cl, nI_leI, nI_ltI, nI_eq, jx_neg, jx_neg', jx_negE, jx_negL, jx_negG, jx_negLE, jx_negN, sb_nlt, sb_nle, jx_b0, jx_b1, jx_bT, jx_bF, ite_true, ite_false, if_true, if_false, reduceIte, Bool.false_eq_true, Bool.true_eq_false, eq_self, Nat.one_ne_zero, Nat.add_sub_cancel, not_true_eq_false, not_false_eq_true, k159, n1, n2, n6, n45, n40]
def jz_sg (T : Nat) : Nat := if T = 4 then 11 else if T = 5 then 12 else if T = 60 then 14 else if T = 61 then 15 else if T = 43 then 16 else if T = 45 then 17 else if T = 42 then 18 else 0
theorem jf_166 {d T : Nat} {K : Nat → Nat → Int32} {rho : Nat → Option Nat} {mu : List (Nat × Nat)} (hT : T < 256) (h : K 57 24 = jz_mt T) : jm_ev (d + 1) 166 [.ref 57] (jm_hp K rho mu) = some (some (.int (if jz_sg T = 0 then -nI 1 else nI (jz_sg T))), jm_hp K rho mu) := by
  unfold jz_sg
  have n : ∀ n, n < 256 → n ≠ 7 → T ≠ n → ¬ K 57 24 = nI n := fun n h1 h2 h3 => by rw [h]; exact jz_mt_ne hT h1 h3 h2
  have q : ∀ n, n ≠ 7 → T = n → K 57 24 = nI n := fun n h1 h2 => by rw [h, h2]; exact if_neg h1
  by_cases h4 : T = 4
  · have q4 := q 4 (by omega) h4
    rw [if_pos h4]; simp (disch := first | assumption | omega | exact jx_bz _ | exact jx_z0 | exact jx_z1 | (refine jx_ixB ?_ ?_; omega; omega) | (simp (disch := first | omega | fail) only [jx_lit, pk_mul, nI_add, nI_pred, pk_sub, jx_na, jx_add0, Nat.reduceMul, Nat.reduceAdd, Nat.reduceSub, Nat.reduceEqDiff, Nat.reduceLeDiff, Nat.reduceLT, q4]; refine jx_ixC ?_ ?_; omega; omega) | (simp (disch := first | omega | fail) only [jx_lit, pk_mul, nI_add, nI_pred, pk_sub, jx_na, jx_add0, Nat.reduceMul, Nat.reduceAdd, Nat.reduceSub, Nat.reduceEqDiff, Nat.reduceLeDiff, Nat.reduceLT, jx_cl, nI_leI, Nat.zero_le, true_and, q4]; omega) | fail) only [je_166, jb_166_0, jb_166_8, jb_166_13, jb_166_21, jb_166_26, jb_166_35, jb_166_40, jb_166_49, jb_166_54, jb_166_63, jb_166_68, jb_166_77, jb_166_82, jb_166_91, jb_166_96, jb_166_97, jx_nl, jx_nlr, jx_thenS, jx_tlS, jx_tlN, jm_ite_go, jx_rds, jx_rdn, jx_lit, pk_mul, nI_add, nI_pred, pk_sub, jx_na, jx_add0, Nat.reduceMul, Nat.reduceAdd, Nat.reduceSub, Nat.reduceEqDiff, Nat.reduceLeDiff, Nat.reduceLT, Nat.not_lt_zero, jx_cl, nI_leI, nI_ltI, nI_eq, jx_neg, jx_neg', jx_negE, jx_negL, jx_negG, jx_negLE, jx_negN, sb_nlt, sb_nle, jx_b0, jx_b1, jx_bT, jx_bF, ite_true, ite_false, if_true, if_false, reduceIte, Bool.false_eq_true, Bool.true_eq_false, eq_self, Nat.one_ne_zero, Nat.add_sub_cancel, not_true_eq_false, not_false_eq_true, q4]
  have n4 := n 4 (by omega) (by omega) h4
  by_cases h5 : T = 5
  · have q5 := q 5 (by omega) h5
    rw [if_neg h4, if_pos h5]; simp (disch := first | assumption | omega | exact jx_bz _ | exact jx_z0 | exact jx_z1 | (refine jx_ixB ?_ ?_; omega; omega) | (simp (disch := first | omega | fail) only [jx_lit, pk_mul, nI_add, nI_pred, pk_sub, jx_na, jx_add0, Nat.reduceMul, Nat.reduceAdd, Nat.reduceSub, Nat.reduceEqDiff, Nat.reduceLeDiff, Nat.reduceLT, q5]; refine jx_ixC ?_ ?_; omega; omega) | (simp (disch := first | omega | fail) only [jx_lit, pk_mul, nI_add, nI_pred, pk_sub, jx_na, jx_add0, Nat.reduceMul, Nat.reduceAdd, Nat.reduceSub, Nat.reduceEqDiff, Nat.reduceLeDiff, Nat.reduceLT, jx_cl, nI_leI, Nat.zero_le, true_and, q5]; omega) | fail) only [je_166, jb_166_0, jb_166_8, jb_166_13, jb_166_21, jb_166_26, jb_166_35, jb_166_40, jb_166_49, jb_166_54, jb_166_63, jb_166_68, jb_166_77, jb_166_82, jb_166_91, jb_166_96, jb_166_97, jx_nl, jx_nlr, jx_thenS, jx_tlS, jx_tlN, jm_ite_go, jx_rds, jx_rdn, jx_lit, pk_mul, nI_add, nI_pred, pk_sub, jx_na, jx_add0, Nat.reduceMul, Nat.reduceAdd, Nat.reduceSub, Nat.reduceEqDiff, Nat.reduceLeDiff, Nat.reduceLT, Nat.not_lt_zero, jx_cl, nI_leI, nI_ltI, nI_eq, jx_neg, jx_neg', jx_negE, jx_negL, jx_negG, jx_negLE, jx_negN, sb_nlt, sb_nle, jx_b0, jx_b1, jx_bT, jx_bF, ite_true, ite_false, if_true, if_false, reduceIte, Bool.false_eq_true, Bool.true_eq_false, eq_self, Nat.one_ne_zero, Nat.add_sub_cancel, not_true_eq_false, not_false_eq_true, q5]
  have n5 := n 5 (by omega) (by omega) h5
  by_cases h60 : T = 60
  · have q60 := q 60 (by omega) h60
    rw [if_neg h4, if_neg h5, if_pos h60]; simp (disch := first | assumption | omega | exact jx_bz _ | exact jx_z0 | exact jx_z1 | (refine jx_ixB ?_ ?_; omega; omega) | (simp (disch := first | omega | fail) only [jx_lit, pk_mul, nI_add, nI_pred, pk_sub, jx_na, jx_add0, Nat.reduceMul, Nat.reduceAdd, Nat.reduceSub, Nat.reduceEqDiff, Nat.reduceLeDiff, Nat.reduceLT, q60]; refine jx_ixC ?_ ?_; omega; omega) | (simp (disch := first | omega | fail) only [jx_lit, pk_mul, nI_add, nI_pred, pk_sub, jx_na, jx_add0, Nat.reduceMul, Nat.reduceAdd, Nat.reduceSub, Nat.reduceEqDiff, Nat.reduceLeDiff, Nat.reduceLT, jx_cl, nI_leI, Nat.zero_le, true_and, q60]; omega) | fail) only [je_166, jb_166_0, jb_166_8, jb_166_13, jb_166_21, jb_166_26, jb_166_35, jb_166_40, jb_166_49, jb_166_54, jb_166_63, jb_166_68, jb_166_77, jb_166_82, jb_166_91, jb_166_96, jb_166_97, jx_nl, jx_nlr, jx_thenS, jx_tlS, jx_tlN, jm_ite_go, jx_rds, jx_rdn, jx_lit, pk_mul, nI_add, nI_pred, pk_sub, jx_na, jx_add0, Nat.reduceMul, Nat.reduceAdd, Nat.reduceSub, Nat.reduceEqDiff, Nat.reduceLeDiff, Nat.reduceLT, Nat.not_lt_zero, jx_cl, nI_leI, nI_ltI, nI_eq, jx_neg, jx_neg', jx_negE, jx_negL, jx_negG, jx_negLE, jx_negN, sb_nlt, sb_nle, jx_b0, jx_b1, jx_bT, jx_bF, ite_true, ite_false, if_true, if_false, reduceIte, Bool.false_eq_true, Bool.true_eq_false, eq_self, Nat.one_ne_zero, Nat.add_sub_cancel, not_true_eq_false, not_false_eq_true, q60]
  have n60 := n 60 (by omega) (by omega) h60
  by_cases h61 : T = 61
  · have q61 := q 61 (by omega) h61
    rw [if_neg h4, if_neg h5, if_neg h60, if_pos h61]; simp (disch := first | assumption | omega | exact jx_bz _ | exact jx_z0 | exact jx_z1 | (refine jx_ixB ?_ ?_; omega; omega) | (simp (disch := first | omega | fail) only [jx_lit, pk_mul, nI_add, nI_pred, pk_sub, jx_na, jx_add0, Nat.reduceMul, Nat.reduceAdd, Nat.reduceSub, Nat.reduceEqDiff, Nat.reduceLeDiff, Nat.reduceLT, q61]; refine jx_ixC ?_ ?_; omega; omega) | (simp (disch := first | omega | fail) only [jx_lit, pk_mul, nI_add, nI_pred, pk_sub, jx_na, jx_add0, Nat.reduceMul, Nat.reduceAdd, Nat.reduceSub, Nat.reduceEqDiff, Nat.reduceLeDiff, Nat.reduceLT, jx_cl, nI_leI, Nat.zero_le, true_and, q61]; omega) | fail) only [je_166, jb_166_0, jb_166_8, jb_166_13, jb_166_21, jb_166_26, jb_166_35, jb_166_40, jb_166_49, jb_166_54, jb_166_63, jb_166_68, jb_166_77, jb_166_82, jb_166_91, jb_166_96, jb_166_97, jx_nl, jx_nlr, jx_thenS, jx_tlS, jx_tlN, jm_ite_go, jx_rds, jx_rdn, jx_lit, pk_mul, nI_add, nI_pred, pk_sub, jx_na, jx_add0, Nat.reduceMul, Nat.reduceAdd, Nat.reduceSub, Nat.reduceEqDiff, Nat.reduceLeDiff, Nat.reduceLT, Nat.not_lt_zero, jx_cl, nI_leI, nI_ltI, nI_eq, jx_neg, jx_neg', jx_negE, jx_negL, jx_negG, jx_negLE, jx_negN, sb_nlt, sb_nle, jx_b0, jx_b1, jx_bT, jx_bF, ite_true, ite_false, if_true, if_false, reduceIte, Bool.false_eq_true, Bool.true_eq_false, eq_self, Nat.one_ne_zero, Nat.add_sub_cancel, not_true_eq_false, not_false_eq_true, q61]
  have n61 := n 61 (by omega) (by omega) h61
  by_cases h43 : T = 43
  · have q43 := q 43 (by omega) h43
    rw [if_neg h4, if_neg h5, if_neg h60, if_neg h61, if_pos h43]; simp (disch := first | assumption | omega | exact jx_bz _ | exact jx_z0 | exact jx_z1 | (refine jx_ixB ?_ ?_; omega; omega) | (simp (disch := first | omega | fail) only [jx_lit, pk_mul, nI_add, nI_pred, pk_sub, jx_na, jx_add0, Nat.reduceMul, Nat.reduceAdd, Nat.reduceSub, Nat.reduceEqDiff, Nat.reduceLeDiff, Nat.reduceLT, q43]; refine jx_ixC ?_ ?_; omega; omega) | (simp (disch := first | omega | fail) only [jx_lit, pk_mul, nI_add, nI_pred, pk_sub, jx_na, jx_add0, Nat.reduceMul, Nat.reduceAdd, Nat.reduceSub, Nat.reduceEqDiff, Nat.reduceLeDiff, Nat.reduceLT, jx_cl, nI_leI, Nat.zero_le, true_and, q43]; omega) | fail) only [je_166, jb_166_0, jb_166_8, jb_166_13, jb_166_21, jb_166_26, jb_166_35, jb_166_40, jb_166_49, jb_166_54, jb_166_63, jb_166_68, jb_166_77, jb_166_82, jb_166_91, jb_166_96, jb_166_97, jx_nl, jx_nlr, jx_thenS, jx_tlS, jx_tlN, jm_ite_go, jx_rds, jx_rdn, jx_lit, pk_mul, nI_add, nI_pred, pk_sub, jx_na, jx_add0, Nat.reduceMul, Nat.reduceAdd, Nat.reduceSub, Nat.reduceEqDiff, Nat.reduceLeDiff, Nat.reduceLT, Nat.not_lt_zero, jx_cl, nI_leI, nI_ltI, nI_eq, jx_neg, jx_neg', jx_negE, jx_negL, jx_negG, jx_negLE, jx_negN, sb_nlt, sb_nle, jx_b0, jx_b1, jx_bT, jx_bF, ite_true, ite_false, if_true, if_false, reduceIte, Bool.false_eq_true, Bool.true_eq_false, eq_self, Nat.one_ne_zero, Nat.add_sub_cancel, not_true_eq_false, not_false_eq_true, q43]
  have n43 := n 43 (by omega) (by omega) h43
  by_cases h45 : T = 45
  · have q45 := q 45 (by omega) h45
    rw [if_neg h4, if_neg h5, if_neg h60, if_neg h61, if_neg h43, if_pos h45]; simp (disch := first | assumption | omega | exact jx_bz _ | exact jx_z0 | exact jx_z1 | (refine jx_ixB ?_ ?_; omega; omega) | (simp (disch := first | omega | fail) only [jx_lit, pk_mul, nI_add, nI_pred, pk_sub, jx_na, jx_add0, Nat.reduceMul, Nat.reduceAdd, Nat.reduceSub, Nat.reduceEqDiff, Nat.reduceLeDiff, Nat.reduceLT, q45]; refine jx_ixC ?_ ?_; omega; omega) | (simp (disch := first | omega | fail) only [jx_lit, pk_mul, nI_add, nI_pred, pk_sub, jx_na, jx_add0, Nat.reduceMul, Nat.reduceAdd, Nat.reduceSub, Nat.reduceEqDiff, Nat.reduceLeDiff, Nat.reduceLT, jx_cl, nI_leI, Nat.zero_le, true_and, q45]; omega) | fail) only [je_166, jb_166_0, jb_166_8, jb_166_13, jb_166_21, jb_166_26, jb_166_35, jb_166_40, jb_166_49, jb_166_54, jb_166_63, jb_166_68, jb_166_77, jb_166_82, jb_166_91, jb_166_96, jb_166_97, jx_nl, jx_nlr, jx_thenS, jx_tlS, jx_tlN, jm_ite_go, jx_rds, jx_rdn, jx_lit, pk_mul, nI_add, nI_pred, pk_sub, jx_na, jx_add0, Nat.reduceMul, Nat.reduceAdd, Nat.reduceSub, Nat.reduceEqDiff, Nat.reduceLeDiff, Nat.reduceLT, Nat.not_lt_zero, jx_cl, nI_leI, nI_ltI, nI_eq, jx_neg, jx_neg', jx_negE, jx_negL, jx_negG, jx_negLE, jx_negN, sb_nlt, sb_nle, jx_b0, jx_b1, jx_bT, jx_bF, ite_true, ite_false, if_true, if_false, reduceIte, Bool.false_eq_true, Bool.true_eq_false, eq_self, Nat.one_ne_zero, Nat.add_sub_cancel, not_true_eq_false, not_false_eq_true, q45]
  have n45 := n 45 (by omega) (by omega) h45
  by_cases h42 : T = 42
  · have q42 := q 42 (by omega) h42
    rw [if_neg h4, if_neg h5, if_neg h60, if_neg h61, if_neg h43, if_neg h45, if_pos h42]; simp (disch := first | assumption | omega | exact jx_bz _ | exact jx_z0 | exact jx_z1 | (refine jx_ixB ?_ ?_; omega; omega) | (simp (disch := first | omega | fail) only [jx_lit, pk_mul, nI_add, nI_pred, pk_sub, jx_na, jx_add0, Nat.reduceMul, Nat.reduceAdd, Nat.reduceSub, Nat.reduceEqDiff, Nat.reduceLeDiff, Nat.reduceLT, q42]; refine jx_ixC ?_ ?_; omega; omega) | (simp (disch := first | omega | fail) only [jx_lit, pk_mul, nI_add, nI_pred, pk_sub, jx_na, jx_add0, Nat.reduceMul, Nat.reduceAdd, Nat.reduceSub, Nat.reduceEqDiff, Nat.reduceLeDiff, Nat.reduceLT, jx_cl, nI_leI, Nat.zero_le, true_and, q42]; omega) | fail) only [je_166, jb_166_0, jb_166_8, jb_166_13, jb_166_21, jb_166_26, jb_166_35, jb_166_40, jb_166_49, jb_166_54, jb_166_63, jb_166_68, jb_166_77, jb_166_82, jb_166_91, jb_166_96, jb_166_97, jx_nl, jx_nlr, jx_thenS, jx_tlS, jx_tlN, jm_ite_go, jx_rds, jx_rdn, jx_lit, pk_mul, nI_add, nI_pred, pk_sub, jx_na, jx_add0, Nat.reduceMul, Nat.reduceAdd, Nat.reduceSub, Nat.reduceEqDiff, Nat.reduceLeDiff, Nat.reduceLT, Nat.not_lt_zero, jx_cl, nI_leI, nI_ltI, nI_eq, jx_neg, jx_neg', jx_negE, jx_negL, jx_negG, jx_negLE, jx_negN, sb_nlt, sb_nle, jx_b0, jx_b1, jx_bT, jx_bF, ite_true, ite_false, if_true, if_false, reduceIte, Bool.false_eq_true, Bool.true_eq_false, eq_self, Nat.one_ne_zero, Nat.add_sub_cancel, not_true_eq_false, not_false_eq_true, q42]
  have n42 := n 42 (by omega) (by omega) h42
  rw [if_neg h4, if_neg h5, if_neg h60, if_neg h61, if_neg h43, if_neg h45, if_neg h42, if_pos rfl]
  simp (disch := first | assumption | omega | exact jx_bz _ | exact jx_z0 | exact jx_z1 | (refine jx_ixB ?_ ?_; omega; omega) | (simp (disch := first | omega | fail) only [jx_lit, pk_mul, nI_add, nI_pred, pk_sub, jx_na, jx_add0, Nat.reduceMul, Nat.reduceAdd, Nat.reduceSub, Nat.reduceEqDiff, Nat.reduceLeDiff, Nat.reduceLT, n4, n5, n60, n61, n43, n45, n42]; refine jx_ixC ?_ ?_; omega; omega) | (simp (disch := first | omega | fail) only [jx_lit, pk_mul, nI_add, nI_pred, pk_sub, jx_na, jx_add0, Nat.reduceMul, Nat.reduceAdd, Nat.reduceSub, Nat.reduceEqDiff, Nat.reduceLeDiff, Nat.reduceLT, jx_cl, nI_leI, Nat.zero_le, true_and, n4, n5, n60, n61, n43, n45, n42]; omega) | fail) only [je_166, jb_166_0, jb_166_8, jb_166_13, jb_166_21, jb_166_26, jb_166_35, jb_166_40, jb_166_49, jb_166_54, jb_166_63, jb_166_68, jb_166_77, jb_166_82, jb_166_91, jb_166_96, jb_166_97, jx_nl, jx_nlr, jx_thenS, jx_tlS, jx_tlN, jm_ite_go, jx_rds, jx_rdn, jx_lit, pk_mul, nI_add, nI_pred, pk_sub, jx_na, jx_add0, Nat.reduceMul, Nat.reduceAdd, Nat.reduceSub, Nat.reduceEqDiff, Nat.reduceLeDiff, Nat.reduceLT, Nat.not_lt_zero, jx_cl, nI_leI, nI_ltI, nI_eq, jx_neg, jx_neg', jx_negE, jx_negL, jx_negG, jx_negLE, jx_negN, sb_nlt, sb_nle, jx_b0, jx_b1, jx_bT, jx_bF, ite_true, ite_false, if_true, if_false, reduceIte, Bool.false_eq_true, Bool.true_eq_false, eq_self, Nat.one_ne_zero, Nat.add_sub_cancel, not_true_eq_false, not_false_eq_true, n4, n5, n60, n61, n43, n45, n42]
theorem jz_sg_T {T : Nat} (h : jz_sg T ≠ 0) : (T = 4 ∨ T = 5 ∨ T = 60 ∨ T = 61 ∨ T = 43 ∨ T = 45 ∨ T = 42) ∧ 11 ≤ jz_sg T ∧ jz_sg T < 19 ∧ jz_sg T ≠ 13 := by
  unfold jz_sg at *
  repeat' split at h
  all_goals first | (exfalso; exact h rfl) | (next => subst_vars; refine ⟨by omega, by decide, by decide, by decide⟩)
/-- a sign between two that can stand -/
theorem jr_op {d : Nat} {b : Nat → Nat} {s t p o mn g : Nat} {S hd C : List Nat} {K : Nat → Nat → Int32} {rho : Nat → Option Nat} {mu : List (Nat × Nat)} {l3 : Option Value} (hp : p ≤ s) (hg : jz_sg (jz_t b s p) = g) (hg0 : g ≠ 0) (hR : jz_R K b s t p (S ++ hd) (o + jz_no S) C) (hS : ∀ z, z ∈ S → (if jz_rk g = 4 then 5 else jz_rk g) ≤ jz_rk z) (hh : jz_hr hd (jz_rk g)) (hn : (S ++ hd).length + C.length ≤ p) :
    ∃ J l3', jz_g1 d rho mu K 0 mn l3 = jz_g1 d rho mu J 1 (if g ≤ 12 then 1 else 0) l3' ∧ jz_R J b s t (jz_e b s p) (g :: hd) o (C ++ S) ∧ jG (jS_rm t) K J := by
  obtain ⟨J, k159, r1, r2, r3, -, g1⟩ := jz_nx (d := d + 2) (rho := rho) (mu := mu) hR hp
  have hs := hR.1.2.1
  have hT := jz_sg_T (T := jz_t b s p) (by rw [hg]; exact hg0)
  rw [hg] at hT
  have h0 := jz_t_0 hp (show jz_t b s p ≠ 0 by omega)
  have hlt := jz_t_lt b s p hR.1.2.2.2.1
  have hp160 : p < 160 := by have := (jz_r_le b hp).1; omega
  have k166 := @jf_166 (d + 3) (jz_t b s p) J rho mu hlt r3
  rw [hg, if_neg hg0] at k166
  obtain ⟨J2, k165, r6, g3⟩ := jf_165 (d := d + 1) (g := g) (rho := rho) (mu := mu) (by omega) r1 hS hh (by omega)
  have n59 := jz_mt_ne hlt (show 59 < 256 by omega) (show jz_t b s p ≠ 59 by omega) (by omega)
  have n41 := jz_mt_ne hlt (show 41 < 256 by omega) (show jz_t b s p ≠ 41 by omega) (by omega)
  rw [← r3] at n59 n41
  have hg20 : g < 20 := by omega
  refine ⟨J2, some (.int (nI g)), ?_, r6, jG_tr g1 g3⟩
  unfold jz_g1
  rw [jb_167_14]
  by_cases z12 : g ≤ 12
  · have z13 : ¬ 12 < g := by omega
    rw [if_pos z12]
    simp (disch := first | assumption | omega | exact jx_bz _ | exact jx_z0 | exact jx_z1 | (refine jx_ixB ?_ ?_; omega; omega) | (simp (disch := first | omega | fail) only [jx_lit, pk_mul, nI_add, nI_pred, pk_sub, jx_na, jx_add0, Nat.reduceMul, Nat.reduceAdd, Nat.reduceSub, Nat.reduceEqDiff, Nat.reduceLeDiff, Nat.reduceLT, k159, n59, n41, k166, k165, z13, jm_nli]; refine jx_ixC ?_ ?_; omega; omega) | (simp (disch := first | omega | fail) only [jx_lit, pk_mul, nI_add, nI_pred, pk_sub, jx_na, jx_add0, Nat.reduceMul, Nat.reduceAdd, Nat.reduceSub, Nat.reduceEqDiff, Nat.reduceLeDiff, Nat.reduceLT, jx_cl, nI_leI, Nat.zero_le, true_and, k159, n59, n41, k166, k165, z13, jm_nli]; omega) | fail) only [jb_167_0, jb_167_18, jb_167_22, jb_167_30, jb_167_38, jb_167_47, jb_167_57, jb_167_61, jb_167_64, jb_167_70, jb_167_75, jb_167_84, jb_167_88, jb_167_94, jb_167_97, jb_167_99, jb_167_108, jb_167_114, jb_167_117, jb_167_119, jb_167_124, jb_167_133, jb_167_138, jb_167_141, jb_167_143, jb_167_148, jb_167_150, jb_167_159, jb_167_164, jb_167_171, jb_167_175, jb_167_176, jb_167_177, jb_167_186, jb_167_191, jb_167_198, jb_167_200, jb_167_226, jb_167_229, jb_167_233, jb_167_239, jb_167_244, jb_167_247, jb_167_249, jb_167_257, jb_167_261, jb_167_262, jx_nl, jx_nlr, jx_thenS, jx_tlS, jx_tlN, jm_ite_go, jx_rds, jx_rdn, jx_lit, pk_mul, nI_add, nI_pred, pk_sub, jx_na, jx_add0, Nat.reduceMul, Nat.reduceAdd, Nat.reduceSub, Nat.reduceEqDiff, Nat.reduceLeDiff, Nat.reduceLT, Nat.not_lt_zero, jx_cl, nI_leI, nI_ltI, nI_eq, jx_neg, jx_neg', jx_negE, jx_negL, jx_negG, jx_negLE, jx_negN, sb_nlt, sb_nle, jx_b0, jx_b1, jx_bT, jx_bF, ite_true, ite_false, if_true, if_false, reduceIte, Bool.false_eq_true, Bool.true_eq_false, eq_self, Nat.one_ne_zero, Nat.add_sub_cancel, not_true_eq_false, not_false_eq_true, k159, n59, n41, k166, k165, z13, jm_nli]
  · have z13 : 12 < g := by omega
    rw [if_neg z12]
    simp (disch := first | assumption | omega | exact jx_bz _ | exact jx_z0 | exact jx_z1 | (refine jx_ixB ?_ ?_; omega; omega) | (simp (disch := first | omega | fail) only [jx_lit, pk_mul, nI_add, nI_pred, pk_sub, jx_na, jx_add0, Nat.reduceMul, Nat.reduceAdd, Nat.reduceSub, Nat.reduceEqDiff, Nat.reduceLeDiff, Nat.reduceLT, k159, n59, n41, k166, k165, z13, jm_nli]; refine jx_ixC ?_ ?_; omega; omega) | (simp (disch := first | omega | fail) only [jx_lit, pk_mul, nI_add, nI_pred, pk_sub, jx_na, jx_add0, Nat.reduceMul, Nat.reduceAdd, Nat.reduceSub, Nat.reduceEqDiff, Nat.reduceLeDiff, Nat.reduceLT, jx_cl, nI_leI, Nat.zero_le, true_and, k159, n59, n41, k166, k165, z13, jm_nli]; omega) | fail) only [jb_167_0, jb_167_18, jb_167_22, jb_167_30, jb_167_38, jb_167_47, jb_167_57, jb_167_61, jb_167_64, jb_167_70, jb_167_75, jb_167_84, jb_167_88, jb_167_94, jb_167_97, jb_167_99, jb_167_108, jb_167_114, jb_167_117, jb_167_119, jb_167_124, jb_167_133, jb_167_138, jb_167_141, jb_167_143, jb_167_148, jb_167_150, jb_167_159, jb_167_164, jb_167_171, jb_167_175, jb_167_176, jb_167_177, jb_167_186, jb_167_191, jb_167_198, jb_167_200, jb_167_226, jb_167_229, jb_167_233, jb_167_239, jb_167_244, jb_167_247, jb_167_249, jb_167_257, jb_167_261, jb_167_262, jx_nl, jx_nlr, jx_thenS, jx_tlS, jx_tlN, jm_ite_go, jx_rds, jx_rdn, jx_lit, pk_mul, nI_add, nI_pred, pk_sub, jx_na, jx_add0, Nat.reduceMul, Nat.reduceAdd, Nat.reduceSub, Nat.reduceEqDiff, Nat.reduceLeDiff, Nat.reduceLT, Nat.not_lt_zero, jx_cl, nI_leI, nI_ltI, nI_eq, jx_neg, jx_neg', jx_negE, jx_negL, jx_negG, jx_negLE, jx_negN, sb_nlt, sb_nle, jx_b0, jx_b1, jx_bT, jx_bF, ite_true, ite_false, if_true, if_false, reduceIte, Bool.false_eq_true, Bool.true_eq_false, eq_self, Nat.one_ne_zero, Nat.add_sub_cancel, not_true_eq_false, not_false_eq_true, k159, n59, n41, k166, k165, z13, jm_nli]
/-- a second comparison can't stand -/
theorem jr_cmp2 {d : Nat} {b : Nat → Nat} {s t p o mn z : Nat} {S hd C : List Nat} {K : Nat → Nat → Int32} {rho : Nat → Option Nat} {mu : List (Nat × Nat)} {l3 : Option Value} (hp : p ≤ s) (hT : jz_t b s p = 60 ∨ jz_t b s p = 61) (hz4 : jz_rk z = 4) (hR : jz_R K b s t p (S ++ z :: hd) (o + jz_no S) C) (hS : ∀ z, z ∈ S → 5 ≤ jz_rk z) :
    ∃ J, jz_g1 d rho mu K 0 mn l3 = some (some (.int (nI 0)), jm_hp J rho mu) ∧ jG (jS_rm t) K J ∧ J 57 23 = nI (jz_r b s p) ∧ J 57 30 = nI (C ++ S).length := by
  obtain ⟨J, k159, r1, r2, r3, -, g1⟩ := jz_nx (d := d + 2) (rho := rho) (mu := mu) hR hp
  have hlt := jz_t_lt b s p hR.1.2.2.2.1
  have k166 := @jf_166 (d + 3) (jz_t b s p) J rho mu hlt r3
  obtain ⟨g, hg, hg4, hg20⟩ : ∃ g, jz_sg (jz_t b s p) = g ∧ jz_rk g = 4 ∧ g < 20 ∧ g ≠ 0 := by
    rcases hT with h | h <;> rw [h]
    · exact ⟨14, rfl, rfl, by omega, by omega⟩
    · exact ⟨15, rfl, rfl, by omega, by omega⟩
  rw [hg, if_neg hg20.2] at k166
  have hg20' := hg20.1
  obtain ⟨J2, k165, r6, g3⟩ := jf_165n (d := d + 1) (g := g) (rho := rho) (mu := mu) hg20.1 hg4 hz4 r1 hS
  have n59 := jz_mt_ne hlt (show 59 < 256 by omega) (show jz_t b s p ≠ 59 by omega) (by omega)
  have n41 := jz_mt_ne hlt (show 41 < 256 by omega) (show jz_t b s p ≠ 41 by omega) (by omega)
  rw [← r3] at n59 n41
  refine ⟨J2, ?_, jG_tr g1 (jG_rum g3), by rw [g3 57 23 (jS_ruZ (by omega))]; exact r2, r6.2.2.2.2.2.1.1⟩
  unfold jz_g1
  rw [jb_167_14]
  simp (disch := first | assumption | omega | exact jx_bz _ | exact jx_z0 | exact jx_z1 | (refine jx_ixB ?_ ?_; omega; omega) | (simp (disch := first | omega | fail) only [jx_lit, pk_mul, nI_add, nI_pred, pk_sub, jx_na, jx_add0, Nat.reduceMul, Nat.reduceAdd, Nat.reduceSub, Nat.reduceEqDiff, Nat.reduceLeDiff, Nat.reduceLT, k159, n59, n41, k166, k165, jm_nli]; refine jx_ixC ?_ ?_; omega; omega) | (simp (disch := first | omega | fail) only [jx_lit, pk_mul, nI_add, nI_pred, pk_sub, jx_na, jx_add0, Nat.reduceMul, Nat.reduceAdd, Nat.reduceSub, Nat.reduceEqDiff, Nat.reduceLeDiff, Nat.reduceLT, jx_cl, nI_leI, Nat.zero_le, true_and, k159, n59, n41, k166, k165, jm_nli]; omega) | fail) only [jb_167_0, jb_167_18, jb_167_22, jb_167_30, jb_167_38, jb_167_47, jb_167_57, jb_167_61, jb_167_64, jb_167_70, jb_167_75, jb_167_84, jb_167_88, jb_167_94, jb_167_97, jb_167_99, jb_167_108, jb_167_114, jb_167_117, jb_167_119, jb_167_124, jb_167_133, jb_167_138, jb_167_141, jb_167_143, jb_167_148, jb_167_150, jb_167_159, jb_167_164, jb_167_171, jb_167_175, jb_167_176, jb_167_177, jb_167_186, jb_167_191, jb_167_198, jb_167_200, jb_167_226, jb_167_229, jb_167_233, jb_167_239, jb_167_244, jb_167_247, jb_167_249, jb_167_257, jb_167_261, jb_167_262, jx_nl, jx_nlr, jx_thenS, jx_tlS, jx_tlN, jm_ite_go, jx_rds, jx_rdn, jx_lit, pk_mul, nI_add, nI_pred, pk_sub, jx_na, jx_add0, Nat.reduceMul, Nat.reduceAdd, Nat.reduceSub, Nat.reduceEqDiff, Nat.reduceLeDiff, Nat.reduceLT, Nat.not_lt_zero, jx_cl, nI_leI, nI_ltI, nI_eq, jx_neg, jx_neg', jx_negE, jx_negL, jx_negG, jx_negLE, jx_negN, sb_nlt, sb_nle, jx_b0, jx_b1, jx_bT, jx_bF, ite_true, ite_false, if_true, if_false, reduceIte, Bool.false_eq_true, Bool.true_eq_false, eq_self, Nat.one_ne_zero, Nat.add_sub_cancel, not_true_eq_false, not_false_eq_true, k159, n59, n41, k166, k165, jm_nli]
/-- a ) with its ( -/
theorem jr_close {d : Nat} {b : Nat → Nat} {s t p o j mn : Nat} {S hd C : List Nat} {K : Nat → Nat → Int32} {rho : Nat → Option Nat} {mu : List (Nat × Nat)} {l3 : Option Value} (hp : p ≤ s) (hT : jz_t b s p = 41) (hR : jz_R K b s t p (S ++ 0 :: (List.replicate j 19 ++ hd)) (o + j + 1 + jz_no S) C) (hS : ∀ z, z ∈ S → 1 ≤ jz_rk z) (hh : jz_hr hd 7) :
    ∃ J, jz_g1 d rho mu K 0 mn l3 = jz_g1 d rho mu J 0 mn l3 ∧ jz_R J b s t (jz_e b s p) hd o (C ++ S ++ List.replicate j 19) ∧ jG (jS_rm t) K J := by
  obtain ⟨J, k159, r1, r2, r3, -, g1⟩ := jz_nx (d := d + 2) (rho := rho) (mu := mu) hR hp
  have r3 : J 57 24 = nI 41 := by rw [r3, hT]; rfl
  obtain ⟨J2, k162, r4, g2⟩ := jf_162 (d := d + 2) (least := 1) (rho := rho) (mu := mu) (by omega) r1 hS (fun z l hz => by cases hz; decide)
  obtain ⟨t1, t2, t3, t4⟩ := jz_R_top r4
  obtain ⟨J3, hJ3⟩ : ∃ J3, J3 = jm_up J2 57 28 (nI (List.replicate j 19 ++ hd).length) := ⟨_, rfl⟩
  have r5 := jz_R_pop r4
  rw [← hJ3] at r5
  obtain ⟨J4, hJ4⟩ : ∃ J4, J4 = jm_up J3 57 29 (nI (o + j)) := ⟨_, rfl⟩
  have ho := r4.2.2.2.2.2.2.2.2.1
  have r6 := jz_R_op (q := o + j) r5 (by omega)
  rw [← hJ4] at r6
  have g3 : jG (jS_rm t) J2 J4 := by rw [hJ4, hJ3]; exact jG_up (jG_up jG_rf (jS_rmY (by omega))) (jS_rmY (by omega))
  obtain ⟨J5, k162b, r7, g4⟩ := jf_162 (d := d + 2) (least := 7) (S := List.replicate j 19) (hd := hd) (o := o) (rho := rho) (mu := mu) (by omega) (by rw [jz_no_rep]; exact r6) (fun g hg => by rw [(List.mem_replicate.mp hg).2]; decide) hh
  refine ⟨J5, ?_, r7, jG_tr (jG_tr (jG_tr g1 (jG_rum g2)) g3) (jG_rum g4)⟩
  have ep : nI ((List.replicate j 19 ++ hd).length + 1) - nI 1 = nI (List.replicate j 19 ++ hd).length := nI_pred _
  have eo : nI (o + j + 1) - nI 1 = nI (o + j) := nI_pred _
  have h29 : J2 57 29 = nI (o + j + 1) := r4.2.2.2.2.1
  have z0 : ¬ (List.replicate j 19 ++ hd).length + 1 = 0 := by omega
  have zb : (List.replicate j 19 ++ hd).length + 1 < 200 := by omega
  rw [hJ4, hJ3] at k162b
  unfold jz_g1
  rw [jb_167_14]
  generalize (List.replicate j 19 ++ hd).length = L at *
  simp (disch := first | assumption | omega | exact jx_bz _ | exact jx_z0 | exact jx_z1 | (refine jx_ixB ?_ ?_; omega; omega) | (simp (disch := first | omega | fail) only [jx_lit, pk_mul, nI_add, nI_pred, pk_sub, jx_na, jx_add0, Nat.reduceMul, Nat.reduceAdd, Nat.reduceSub, Nat.reduceEqDiff, Nat.reduceLeDiff, Nat.reduceLT, k159, r3, k162, t2, z0, ep, h29, eo, k162b]; refine jx_ixC ?_ ?_; omega; omega) | (simp (disch := first | omega | fail) only [jx_lit, pk_mul, nI_add, nI_pred, pk_sub, jx_na, jx_add0, Nat.reduceMul, Nat.reduceAdd, Nat.reduceSub, Nat.reduceEqDiff, Nat.reduceLeDiff, Nat.reduceLT, jx_cl, nI_leI, Nat.zero_le, true_and, k159, r3, k162, t2, z0, ep, h29, eo, k162b]; omega) | fail) only [jb_167_0, jb_167_18, jb_167_22, jb_167_30, jb_167_38, jb_167_47, jb_167_57, jb_167_61, jb_167_64, jb_167_70, jb_167_75, jb_167_84, jb_167_88, jb_167_94, jb_167_97, jb_167_99, jb_167_108, jb_167_114, jb_167_117, jb_167_119, jb_167_124, jb_167_133, jb_167_138, jb_167_141, jb_167_143, jb_167_148, jb_167_150, jb_167_159, jb_167_164, jb_167_171, jb_167_175, jb_167_176, jb_167_177, jb_167_186, jb_167_191, jb_167_198, jb_167_200, jb_167_226, jb_167_229, jb_167_233, jb_167_239, jb_167_244, jb_167_247, jb_167_249, jb_167_257, jb_167_261, jb_167_262, jx_nl, jx_nlr, jx_thenS, jx_tlS, jx_tlN, jm_ite_go, jx_rds, jx_rdn, jx_lit, pk_mul, nI_add, nI_pred, pk_sub, jx_na, jx_add0, Nat.reduceMul, Nat.reduceAdd, Nat.reduceSub, Nat.reduceEqDiff, Nat.reduceLeDiff, Nat.reduceLT, Nat.not_lt_zero, jx_cl, nI_leI, nI_ltI, nI_eq, jx_neg, jx_neg', jx_negE, jx_negL, jx_negG, jx_negLE, jx_negN, sb_nlt, sb_nle, jx_b0, jx_b1, jx_bT, jx_bF, ite_true, ite_false, if_true, if_false, reduceIte, Bool.false_eq_true, Bool.true_eq_false, eq_self, Nat.one_ne_zero, Nat.add_sub_cancel, not_true_eq_false, not_false_eq_true, k159, r3, k162, t2, z0, ep, h29, eo, k162b]
/-- a ) without one -/
theorem jr_close0 {d : Nat} {b : Nat → Nat} {s t p o mn : Nat} {S C : List Nat} {K : Nat → Nat → Int32} {rho : Nat → Option Nat} {mu : List (Nat × Nat)} {l3 : Option Value} (hp : p ≤ s) (hT : jz_t b s p = 41) (hR : jz_R K b s t p (S ++ []) (o + jz_no S) C) (hS : ∀ z, z ∈ S → 1 ≤ jz_rk z) :
    ∃ J, jz_g1 d rho mu K 0 mn l3 = some (some (.int (nI 0)), jm_hp J rho mu) ∧ jG (jS_rm t) K J ∧ J 57 23 = nI (jz_r b s p) ∧ J 57 30 = nI (C ++ S).length := by
  obtain ⟨J, k159, r1, r2, r3, -, g1⟩ := jz_nx (d := d + 2) (rho := rho) (mu := mu) hR hp
  have r3 : J 57 24 = nI 41 := by rw [r3, hT]; rfl
  obtain ⟨J2, k162, r4, g2⟩ := jf_162 (d := d + 2) (least := 1) (rho := rho) (mu := mu) (by omega) r1 hS (fun z l hz => by cases hz)
  have h28 : J2 57 28 = nI 0 := r4.2.2.2.1.1
  refine ⟨J2, ?_, jG_tr g1 (jG_rum g2), by rw [g2 57 23 (jS_ruZ (by omega))]; exact r2, r4.2.2.2.2.2.1.1⟩
  unfold jz_g1
  rw [jb_167_14]
  simp (disch := first | assumption | omega | exact jx_bz _ | exact jx_z0 | exact jx_z1 | (refine jx_ixB ?_ ?_; omega; omega) | (simp (disch := first | omega | fail) only [jx_lit, pk_mul, nI_add, nI_pred, pk_sub, jx_na, jx_add0, Nat.reduceMul, Nat.reduceAdd, Nat.reduceSub, Nat.reduceEqDiff, Nat.reduceLeDiff, Nat.reduceLT, k159, r3, k162, h28]; refine jx_ixC ?_ ?_; omega; omega) | (simp (disch := first | omega | fail) only [jx_lit, pk_mul, nI_add, nI_pred, pk_sub, jx_na, jx_add0, Nat.reduceMul, Nat.reduceAdd, Nat.reduceSub, Nat.reduceEqDiff, Nat.reduceLeDiff, Nat.reduceLT, jx_cl, nI_leI, Nat.zero_le, true_and, k159, r3, k162, h28]; omega) | fail) only [jb_167_0, jb_167_18, jb_167_22, jb_167_30, jb_167_38, jb_167_47, jb_167_57, jb_167_61, jb_167_64, jb_167_70, jb_167_75, jb_167_84, jb_167_88, jb_167_94, jb_167_97, jb_167_99, jb_167_108, jb_167_114, jb_167_117, jb_167_119, jb_167_124, jb_167_133, jb_167_138, jb_167_141, jb_167_143, jb_167_148, jb_167_150, jb_167_159, jb_167_164, jb_167_171, jb_167_175, jb_167_176, jb_167_177, jb_167_186, jb_167_191, jb_167_198, jb_167_200, jb_167_226, jb_167_229, jb_167_233, jb_167_239, jb_167_244, jb_167_247, jb_167_249, jb_167_257, jb_167_261, jb_167_262, jx_nl, jx_nlr, jx_thenS, jx_tlS, jx_tlN, jm_ite_go, jx_rds, jx_rdn, jx_lit, pk_mul, nI_add, nI_pred, pk_sub, jx_na, jx_add0, Nat.reduceMul, Nat.reduceAdd, Nat.reduceSub, Nat.reduceEqDiff, Nat.reduceLeDiff, Nat.reduceLT, Nat.not_lt_zero, jx_cl, nI_leI, nI_ltI, nI_eq, jx_neg, jx_neg', jx_negE, jx_negL, jx_negG, jx_negLE, jx_negN, sb_nlt, sb_nle, jx_b0, jx_b1, jx_bT, jx_bF, ite_true, ite_false, if_true, if_false, reduceIte, Bool.false_eq_true, Bool.true_eq_false, eq_self, Nat.one_ne_zero, Nat.add_sub_cancel, not_true_eq_false, not_false_eq_true, k159, r3, k162, h28]
/-- a ; -/
theorem jr_semi {d : Nat} {b : Nat → Nat} {s t p o mn : Nat} {S hd C : List Nat} {K : Nat → Nat → Int32} {rho : Nat → Option Nat} {mu : List (Nat × Nat)} {l3 : Option Value} (hp : p ≤ s) (hT : jz_t b s p = 59) (hR : jz_R K b s t p (S ++ hd) (o + jz_no S) C) (hS : ∀ z, z ∈ S → 1 ≤ jz_rk z) (hh : jz_hr hd 1) :
    ∃ J, jz_g1 d rho mu K 0 mn l3 = some (some (.int (if hd.length = 0 then nI 1 else nI 0)), jm_hp J rho mu) ∧ jG (jS_rm t) K J ∧ J 57 23 = nI (jz_r b s p) ∧ jz_R J b s t (jz_e b s p) hd o (C ++ S) := by
  obtain ⟨J, k159, r1, r2, r3, -, g1⟩ := jz_nx (d := d + 2) (rho := rho) (mu := mu) hR hp
  have r3 : J 57 24 = nI 59 := by rw [r3, hT]; rfl
  obtain ⟨J2, k162, r4, g2⟩ := jf_162 (d := d + 2) (least := 1) (rho := rho) (mu := mu) (by omega) r1 hS hh
  have h28 : J2 57 28 = nI hd.length := r4.2.2.2.1.1
  have hlen : hd.length ≤ 160 := by have := r4.2.2.2.2.2.2.2.1; omega
  refine ⟨J2, ?_, jG_tr g1 (jG_rum g2), by rw [g2 57 23 (jS_ruZ (by omega))]; exact r2, r4⟩
  unfold jz_g1
  rw [jb_167_14]
  by_cases z0 : hd.length = 0
  · rw [if_pos z0]
    rw [z0] at h28
    simp (disch := first | assumption | omega | exact jx_bz _ | exact jx_z0 | exact jx_z1 | (refine jx_ixB ?_ ?_; omega; omega) | (simp (disch := first | omega | fail) only [jx_lit, pk_mul, nI_add, nI_pred, pk_sub, jx_na, jx_add0, Nat.reduceMul, Nat.reduceAdd, Nat.reduceSub, Nat.reduceEqDiff, Nat.reduceLeDiff, Nat.reduceLT, k159, r3, k162, h28]; refine jx_ixC ?_ ?_; omega; omega) | (simp (disch := first | omega | fail) only [jx_lit, pk_mul, nI_add, nI_pred, pk_sub, jx_na, jx_add0, Nat.reduceMul, Nat.reduceAdd, Nat.reduceSub, Nat.reduceEqDiff, Nat.reduceLeDiff, Nat.reduceLT, jx_cl, nI_leI, Nat.zero_le, true_and, k159, r3, k162, h28]; omega) | fail) only [jb_167_0, jb_167_18, jb_167_22, jb_167_30, jb_167_38, jb_167_47, jb_167_57, jb_167_61, jb_167_64, jb_167_70, jb_167_75, jb_167_84, jb_167_88, jb_167_94, jb_167_97, jb_167_99, jb_167_108, jb_167_114, jb_167_117, jb_167_119, jb_167_124, jb_167_133, jb_167_138, jb_167_141, jb_167_143, jb_167_148, jb_167_150, jb_167_159, jb_167_164, jb_167_171, jb_167_175, jb_167_176, jb_167_177, jb_167_186, jb_167_191, jb_167_198, jb_167_200, jb_167_226, jb_167_229, jb_167_233, jb_167_239, jb_167_244, jb_167_247, jb_167_249, jb_167_257, jb_167_261, jb_167_262, jx_nl, jx_nlr, jx_thenS, jx_tlS, jx_tlN, jm_ite_go, jx_rds, jx_rdn, jx_lit, pk_mul, nI_add, nI_pred, pk_sub, jx_na, jx_add0, Nat.reduceMul, Nat.reduceAdd, Nat.reduceSub, Nat.reduceEqDiff, Nat.reduceLeDiff, Nat.reduceLT, Nat.not_lt_zero, jx_cl, nI_leI, nI_ltI, nI_eq, jx_neg, jx_neg', jx_negE, jx_negL, jx_negG, jx_negLE, jx_negN, sb_nlt, sb_nle, jx_b0, jx_b1, jx_bT, jx_bF, ite_true, ite_false, if_true, if_false, reduceIte, Bool.false_eq_true, Bool.true_eq_false, eq_self, Nat.one_ne_zero, Nat.add_sub_cancel, not_true_eq_false, not_false_eq_true, k159, r3, k162, h28]
  · rw [if_neg z0]
    simp (disch := first | assumption | omega | exact jx_bz _ | exact jx_z0 | exact jx_z1 | (refine jx_ixB ?_ ?_; omega; omega) | (simp (disch := first | omega | fail) only [jx_lit, pk_mul, nI_add, nI_pred, pk_sub, jx_na, jx_add0, Nat.reduceMul, Nat.reduceAdd, Nat.reduceSub, Nat.reduceEqDiff, Nat.reduceLeDiff, Nat.reduceLT, k159, r3, k162, h28, z0]; refine jx_ixC ?_ ?_; omega; omega) | (simp (disch := first | omega | fail) only [jx_lit, pk_mul, nI_add, nI_pred, pk_sub, jx_na, jx_add0, Nat.reduceMul, Nat.reduceAdd, Nat.reduceSub, Nat.reduceEqDiff, Nat.reduceLeDiff, Nat.reduceLT, jx_cl, nI_leI, Nat.zero_le, true_and, k159, r3, k162, h28, z0]; omega) | fail) only [jb_167_0, jb_167_18, jb_167_22, jb_167_30, jb_167_38, jb_167_47, jb_167_57, jb_167_61, jb_167_64, jb_167_70, jb_167_75, jb_167_84, jb_167_88, jb_167_94, jb_167_97, jb_167_99, jb_167_108, jb_167_114, jb_167_117, jb_167_119, jb_167_124, jb_167_133, jb_167_138, jb_167_141, jb_167_143, jb_167_148, jb_167_150, jb_167_159, jb_167_164, jb_167_171, jb_167_175, jb_167_176, jb_167_177, jb_167_186, jb_167_191, jb_167_198, jb_167_200, jb_167_226, jb_167_229, jb_167_233, jb_167_239, jb_167_244, jb_167_247, jb_167_249, jb_167_257, jb_167_261, jb_167_262, jx_nl, jx_nlr, jx_thenS, jx_tlS, jx_tlN, jm_ite_go, jx_rds, jx_rdn, jx_lit, pk_mul, nI_add, nI_pred, pk_sub, jx_na, jx_add0, Nat.reduceMul, Nat.reduceAdd, Nat.reduceSub, Nat.reduceEqDiff, Nat.reduceLeDiff, Nat.reduceLT, Nat.not_lt_zero, jx_cl, nI_leI, nI_ltI, nI_eq, jx_neg, jx_neg', jx_negE, jx_negL, jx_negG, jx_negLE, jx_negN, sb_nlt, sb_nle, jx_b0, jx_b1, jx_bT, jx_bF, ite_true, ite_false, if_true, if_false, reduceIte, Bool.false_eq_true, Bool.true_eq_false, eq_self, Nat.one_ne_zero, Nat.add_sub_cancel, not_true_eq_false, not_false_eq_true, k159, r3, k162, h28, z0]
/-- where a sign is due, what is none -/
theorem jr_bad0 {d : Nat} {b : Nat → Nat} {s t p o mn : Nat} {hd C : List Nat} {K : Nat → Nat → Int32} {rho : Nat → Option Nat} {mu : List (Nat × Nat)} {l3 : Option Value} (hp : p ≤ s) (hR : jz_R K b s t p hd o C) (hsg : jz_sg (jz_t b s p) = 0) (h59 : jz_t b s p ≠ 59) (h41 : jz_t b s p ≠ 41) :
    ∃ J, jz_g1 d rho mu K 0 mn l3 = some (some (.int (nI 0)), jm_hp J rho mu) ∧ jG (jS_rm t) K J ∧ J 57 23 = nI (jz_r b s p) ∧ J 57 30 = nI C.length := by
  obtain ⟨J, k159, r1, r2, r3, -, g1⟩ := jz_nx (d := d + 2) (rho := rho) (mu := mu) hR hp
  have hlt := jz_t_lt b s p hR.1.2.2.2.1
  have n59 := jz_mt_ne hlt (show 59 < 256 by omega) h59 (by omega)
  have n41 := jz_mt_ne hlt (show 41 < 256 by omega) h41 (by omega)
  have k166 := @jf_166 (d + 3) (jz_t b s p) J rho mu hlt r3
  rw [hsg, if_pos rfl] at k166
  rw [← r3] at n59 n41
  refine ⟨J, ?_, g1, r2, r1.2.2.2.2.2.1.1⟩
  unfold jz_g1
  rw [jb_167_14]
  simp (disch := first | assumption | omega | exact jx_bz _ | exact jx_z0 | exact jx_z1 | (refine jx_ixB ?_ ?_; omega; omega) | (simp (disch := first | omega | fail) only [jx_lit, pk_mul, nI_add, nI_pred, pk_sub, jx_na, jx_add0, Nat.reduceMul, Nat.reduceAdd, Nat.reduceSub, Nat.reduceEqDiff, Nat.reduceLeDiff, Nat.reduceLT, k159, n59, n41, k166, jm_nli]; refine jx_ixC ?_ ?_; omega; omega) | (simp (disch := first | omega | fail) only [jx_lit, pk_mul, nI_add, nI_pred, pk_sub, jx_na, jx_add0, Nat.reduceMul, Nat.reduceAdd, Nat.reduceSub, Nat.reduceEqDiff, Nat.reduceLeDiff, Nat.reduceLT, jx_cl, nI_leI, Nat.zero_le, true_and, k159, n59, n41, k166, jm_nli]; omega) | fail) only [jb_167_0, jb_167_18, jb_167_22, jb_167_30, jb_167_38, jb_167_47, jb_167_57, jb_167_61, jb_167_64, jb_167_70, jb_167_75, jb_167_84, jb_167_88, jb_167_94, jb_167_97, jb_167_99, jb_167_108, jb_167_114, jb_167_117, jb_167_119, jb_167_124, jb_167_133, jb_167_138, jb_167_141, jb_167_143, jb_167_148, jb_167_150, jb_167_159, jb_167_164, jb_167_171, jb_167_175, jb_167_176, jb_167_177, jb_167_186, jb_167_191, jb_167_198, jb_167_200, jb_167_226, jb_167_229, jb_167_233, jb_167_239, jb_167_244, jb_167_247, jb_167_249, jb_167_257, jb_167_261, jb_167_262, jx_nl, jx_nlr, jx_thenS, jx_tlS, jx_tlN, jm_ite_go, jx_rds, jx_rdn, jx_lit, pk_mul, nI_add, nI_pred, pk_sub, jx_na, jx_add0, Nat.reduceMul, Nat.reduceAdd, Nat.reduceSub, Nat.reduceEqDiff, Nat.reduceLeDiff, Nat.reduceLT, Nat.not_lt_zero, jx_cl, nI_leI, nI_ltI, nI_eq, jx_neg, jx_neg', jx_negE, jx_negL, jx_negG, jx_negLE, jx_negN, sb_nlt, sb_nle, jx_b0, jx_b1, jx_bT, jx_bF, ite_true, ite_false, if_true, if_false, reduceIte, Bool.false_eq_true, Bool.true_eq_false, eq_self, Nat.one_ne_zero, Nat.add_sub_cancel, not_true_eq_false, not_false_eq_true, k159, n59, n41, k166, jm_nli]
