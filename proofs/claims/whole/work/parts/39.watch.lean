/-! WHICH FEW TO WATCH -/
def js_mi (D S : Nat) : Nat := D &&& (S ^^^ 4294967295)
theorem fa_not (D S : Nat) : nI D &&& (nI S ^^^ -nI 1) = nI (js_mi D S) := by
  rw [show -nI 1 = nI 4294967295 by decide, fa_xor, fa_and]; rfl
theorem js_mi_lt {D S : Nat} (h : D < 4096) : js_mi D S < 4096 := Nat.lt_of_le_of_lt Nat.and_le_left h
theorem js_mi_bit {D S i : Nat} (hi : i < 32) : (js_mi D S).testBit i = (D.testBit i && !S.testBit i) := by
  unfold js_mi
  rw [Nat.testBit_and, Nat.testBit_xor, show (4294967295 : Nat) = 2 ^ 32 - 1 by rfl, Nat.testBit_two_pow_sub_one, decide_eq_true hi, Bool.xor_true]
theorem js_mi_0 {D : Nat} (h : D < 4096) : js_mi D 0 = D := by
  apply Nat.eq_of_testBit_eq
  intro i
  by_cases hi : i < 32
  · rw [js_mi_bit hi, Nat.zero_testBit]; simp
  · have e : ∀ x, x < 4096 → Nat.testBit x i = false := fun x hx => Nat.testBit_lt_two_pow (Nat.lt_of_lt_of_le hx (Nat.le_trans (show 4096 ≤ 2 ^ 32 by decide) (Nat.pow_le_pow_right (by decide) (by omega))))
    rw [e _ (js_mi_lt h), e _ h]
theorem jx_cnt0' : ∀ a, a < 64 → ∀ b, b < 64 → jx_cnt (64 * a + b) 12 = 0 → 64 * a + b = 0 := by decide +kernel
theorem jx_cnt0 {S : Nat} (h : S < 4096) (h0 : jx_cnt S 12 = 0) : S = 0 := by
  have := jx_cnt0' (S / 64) (by omega) (S % 64) (by omega)
  rw [show 64 * (S / 64) + S % 64 = S by omega] at this
  exact this h0
theorem jx_cnt1' : ∀ a, a < 64 → ∀ b, b < 64 → jx_cnt (64 * a + b) 12 = 1 → ∃ d, d < 12 ∧ 64 * a + b = 2 ^ d := by decide +kernel
theorem jx_cnt1 {S : Nat} (h : S < 4096) (h0 : jx_cnt S 12 = 1) : ∃ d, d < 12 ∧ S = 2 ^ d := by
  have := jx_cnt1' (S / 64) (by omega) (S % 64) (by omega)
  rw [show 64 * (S / 64) + S % 64 = S by omega] at this
  exact this h0
theorem jx_cntp : ∀ d, d < 12 → jx_cnt (2 ^ d) 12 = 1 := by decide +kernel
theorem jx_cntz : jx_cnt 0 12 = 0 := by decide
/-- which few: the set -/
def js_few (w : jW) (D : Nat) (P : Nat → Int32) (W : Nat) : Prop :=
  (js_dg w D P = false ∧ W = 0) ∨ (js_dg w D P = true ∧ ∃ d0, d0 < jwn w ∧ W = 2 ^ d0 ∧ js_dg w (js_mi D (2 ^ d0)) P = false ∧ ∀ j, j < d0 → js_dg w (js_mi D (2 ^ j)) P = true)
theorem js_few_ex {w : jW} {D : Nat} {P : Nat → Int32} (hv : jPv (jwn w) P) (hn : jwn w ≤ 12) : ∃ W, js_few w D P W := by
  cases h : js_dg w D P with
  | false => exact ⟨0, .inl ⟨h, rfl⟩⟩
  | true =>
    have he : ∃ e, e < jwn w ∧ js_dg w (js_mi D (2 ^ e)) P = false := by
      rcases hv.2.2.2.1 with q | ⟨e, he, q⟩
      · unfold js_dg at h; rw [if_pos q] at h; cases h
      · refine ⟨e, he, ?_⟩
        unfold js_dg js_dgb
        rw [if_neg (by rw [q, jx_neg (by omega) (by omega) (by omega)]; exact id), q, jx_cl (by omega), js_mi_bit (by omega), Nat.testBit_two_pow]
        simp
    obtain ⟨e, he, hf⟩ := he
    rcases jx_least (fun j => !js_dg w (js_mi D (2 ^ j)) P) (jwn w) with ⟨d0, hd, hp, hl⟩ | hno
    · refine ⟨2 ^ d0, .inr ⟨h, d0, hd, rfl, by simpa using hp, fun j hj => by simpa using hl j hj⟩⟩
    · have := hno e he; simp only [hf, Bool.not_false] at this; cases this
theorem jf_134 {d o kd S W : Nat} {I : Nat → Nat → Int32} {rho : Nat → Option Nat} {mu : List (Nat × Nat)} {w : jW} (hw : jCt I w) (ho : jO mu o kd) (hv : jPv (jwn w) (I o)) (h5 : I o 5 = nI S) (hS : S < 4096) (hW : js_few w (js_dared w kd (I o)) (I o) W) :
    ∃ J, jm_ev (d + 7) 134 [.ref 0, .ref o] (jm_hp I rho mu) = some (some (.int (nI W)), jm_hp J rho mu) ∧ jG jS_st I J := by
  have hn12 := hw.1.2.1
  obtain ⟨J, e, s⟩ := jf_66 (d := d) (rho := rho) hw ho h5 hS
  have hwJ := jCt_st hw s
  have hoJ : J o = I o := jG_o s fun _ => jS_43 ho.2.2
  have hD := js_dared_12 (w := w) (kd := kd) (P := I o) hn12
  have k68 : ∀ B, B < 4096 → jm_ev (d + 6) 68 [.ref 1, .ref o, .int (nI B)] (jm_hp J rho mu) = some (some (.int (jx_b (js_dg w B (I o)))), jm_hp J rho mu) := fun B hB => by
    have := @jf_68 (d + 1) B o kd J rho mu w hwJ.1 hB ho (by rw [hoJ]; exact hv)
    rw [hoJ] at this; exact this
  have k0 := k68 _ hD
  refine ⟨J, ?_, s⟩
  rcases hW with ⟨h, rfl⟩ | ⟨h, d0, hd, rfl, hp, hl⟩
  · rw [h] at k0
    simp (disch := first | assumption | omega | exact jx_bz _ | exact jx_z0 | exact jx_z1 | (refine jx_ixB ?_ ?_; omega; omega) | (simp (disch := first | omega | fail) only [jx_lit, pk_mul, nI_add, nI_pred, pk_sub, jx_na, jx_add0, Nat.reduceMul, Nat.reduceAdd, Nat.reduceSub, Nat.reduceEqDiff, Nat.reduceLeDiff, Nat.reduceLT, e, k0]; refine jx_ixC ?_ ?_; omega; omega) | (simp (disch := first | omega | fail) only [jx_lit, pk_mul, nI_add, nI_pred, pk_sub, jx_na, jx_add0, Nat.reduceMul, Nat.reduceAdd, Nat.reduceSub, Nat.reduceEqDiff, Nat.reduceLeDiff, Nat.reduceLT, jx_cl, nI_leI, Nat.zero_le, true_and, e, k0]; omega) | fail) only [je_134, jb_134_0, jb_134_8, jb_134_18, jb_134_21, jb_134_23, jb_134_36, jb_134_51, jb_134_54, jb_134_58, jb_134_64, jx_nl, jx_nlr, jx_thenS, jx_tlS, jx_tlN, jm_ite_go, jx_rds, jx_rdn, jx_lit, pk_mul, nI_add, nI_pred, pk_sub, jx_na, jx_add0, Nat.reduceMul, Nat.reduceAdd, Nat.reduceSub, Nat.reduceEqDiff, Nat.reduceLeDiff, Nat.reduceLT, Nat.not_lt_zero, jx_cl, nI_leI, nI_ltI, nI_eq, jx_neg, jx_neg', jx_negE, jx_negL, jx_negG, jx_negLE, jx_negN, sb_nlt, sb_nle, jx_b0, jx_b1, jx_bT, jx_bF, ite_true, ite_false, if_true, if_false, reduceIte, Bool.false_eq_true, Bool.true_eq_false, eq_self, Nat.one_ne_zero, Nat.add_sub_cancel, not_true_eq_false, not_false_eq_true, e, k0]
  · rw [h] at k0
    have hnJ := hwJ.1.1
    have e0 : jm_ev (d + 7) 134 [.ref 0, .ref o] (jm_hp I rho mu) = jm_go (jm_ev (d + 6)) 134 (25, [some (.ref 0), some (.ref o), some (.int (nI (js_dared w kd (I o)))), some (.int (nI 0))], [], jm_hp J rho mu) := by
      simp (disch := first | assumption | omega | exact jx_bz _ | exact jx_z0 | exact jx_z1 | (refine jx_ixB ?_ ?_; omega; omega) | (simp (disch := first | omega | fail) only [jx_lit, pk_mul, nI_add, nI_pred, pk_sub, jx_na, jx_add0, Nat.reduceMul, Nat.reduceAdd, Nat.reduceSub, Nat.reduceEqDiff, Nat.reduceLeDiff, Nat.reduceLT, e, k0]; refine jx_ixC ?_ ?_; omega; omega) | (simp (disch := first | omega | fail) only [jx_lit, pk_mul, nI_add, nI_pred, pk_sub, jx_na, jx_add0, Nat.reduceMul, Nat.reduceAdd, Nat.reduceSub, Nat.reduceEqDiff, Nat.reduceLeDiff, Nat.reduceLT, jx_cl, nI_leI, Nat.zero_le, true_and, e, k0]; omega) | fail) only [je_134, jb_134_0, jb_134_8, jb_134_18, jb_134_21, jb_134_23, jb_134_36, jb_134_51, jb_134_54, jb_134_58, jb_134_64, jx_nl, jx_nlr, jx_thenS, jx_tlS, jx_tlN, jm_ite_go, jx_rds, jx_rdn, jx_lit, pk_mul, nI_add, nI_pred, pk_sub, jx_na, jx_add0, Nat.reduceMul, Nat.reduceAdd, Nat.reduceSub, Nat.reduceEqDiff, Nat.reduceLeDiff, Nat.reduceLT, Nat.not_lt_zero, jx_cl, nI_leI, nI_ltI, nI_eq, jx_neg, jx_neg', jx_negE, jx_negL, jx_negG, jx_negLE, jx_negN, sb_nlt, sb_nle, jx_b0, jx_b1, jx_bT, jx_bF, ite_true, ite_false, if_true, if_false, reduceIte, Bool.false_eq_true, Bool.true_eq_false, eq_self, Nat.one_ne_zero, Nat.add_sub_cancel, not_true_eq_false, not_false_eq_true, e, k0]
    have kk := jx_for0 (E := jm_ev (d + 6)) (y := 134) d0 (fun k => (25, [some (.ref 0), some (.ref o), some (.int (nI (js_dared w kd (I o)))), some (.int (nI k))], [], jm_hp J rho mu)) (fun k hk => by
      have zn : ¬ jwn w ≤ k := by omega
      have kb := k68 (js_mi (js_dared w kd (I o)) (2 ^ k)) (js_mi_lt hD)
      rw [hl k hk] at kb
      rw [jb_134_25]
      simp (disch := first | assumption | omega | exact jx_bz _ | exact jx_z0 | exact jx_z1 | (refine jx_ixB ?_ ?_; omega; omega) | (simp (disch := first | omega | fail) only [jx_lit, pk_mul, nI_add, nI_pred, pk_sub, jx_na, jx_add0, Nat.reduceMul, Nat.reduceAdd, Nat.reduceSub, Nat.reduceEqDiff, Nat.reduceLeDiff, Nat.reduceLT, hnJ, zn, jx_one, fa_not, kb]; refine jx_ixC ?_ ?_; omega; omega) | (simp (disch := first | omega | fail) only [jx_lit, pk_mul, nI_add, nI_pred, pk_sub, jx_na, jx_add0, Nat.reduceMul, Nat.reduceAdd, Nat.reduceSub, Nat.reduceEqDiff, Nat.reduceLeDiff, Nat.reduceLT, jx_cl, nI_leI, Nat.zero_le, true_and, hnJ, zn, jx_one, fa_not, kb]; omega) | fail) only [jb_134_0, jb_134_8, jb_134_18, jb_134_21, jb_134_23, jb_134_36, jb_134_51, jb_134_54, jb_134_58, jb_134_64, jx_nl, jx_nlr, jx_thenS, jx_tlS, jx_tlN, jm_ite_go, jx_rds, jx_rdn, jx_lit, pk_mul, nI_add, nI_pred, pk_sub, jx_na, jx_add0, Nat.reduceMul, Nat.reduceAdd, Nat.reduceSub, Nat.reduceEqDiff, Nat.reduceLeDiff, Nat.reduceLT, Nat.not_lt_zero, jx_cl, nI_leI, nI_ltI, nI_eq, jx_neg, jx_neg', jx_negE, jx_negL, jx_negG, jx_negLE, jx_negN, sb_nlt, sb_nle, jx_b0, jx_b1, jx_bT, jx_bF, ite_true, ite_false, if_true, if_false, reduceIte, Bool.false_eq_true, Bool.true_eq_false, eq_self, Nat.one_ne_zero, Nat.add_sub_cancel, not_true_eq_false, not_false_eq_true, hnJ, zn, jx_one, fa_not, kb]) d0 (Nat.le_refl _)
    have zn : ¬ jwn w ≤ d0 := by omega
    have kb := k68 (js_mi (js_dared w kd (I o)) (2 ^ d0)) (js_mi_lt hD)
    rw [hp] at kb
    rw [e0]
    refine Eq.trans kk ?_
    rw [jb_134_25]
    simp (disch := first | assumption | omega | exact jx_bz _ | exact jx_z0 | exact jx_z1 | (refine jx_ixB ?_ ?_; omega; omega) | (simp (disch := first | omega | fail) only [jx_lit, pk_mul, nI_add, nI_pred, pk_sub, jx_na, jx_add0, Nat.reduceMul, Nat.reduceAdd, Nat.reduceSub, Nat.reduceEqDiff, Nat.reduceLeDiff, Nat.reduceLT, hnJ, zn, jx_one, fa_not, kb]; refine jx_ixC ?_ ?_; omega; omega) | (simp (disch := first | omega | fail) only [jx_lit, pk_mul, nI_add, nI_pred, pk_sub, jx_na, jx_add0, Nat.reduceMul, Nat.reduceAdd, Nat.reduceSub, Nat.reduceEqDiff, Nat.reduceLeDiff, Nat.reduceLT, jx_cl, nI_leI, Nat.zero_le, true_and, hnJ, zn, jx_one, fa_not, kb]; omega) | fail) only [jb_134_0, jb_134_8, jb_134_18, jb_134_21, jb_134_23, jb_134_36, jb_134_51, jb_134_54, jb_134_58, jb_134_64, jx_nl, jx_nlr, jx_thenS, jx_tlS, jx_tlN, jm_ite_go, jx_rds, jx_rdn, jx_lit, pk_mul, nI_add, nI_pred, pk_sub, jx_na, jx_add0, Nat.reduceMul, Nat.reduceAdd, Nat.reduceSub, Nat.reduceEqDiff, Nat.reduceLeDiff, Nat.reduceLT, Nat.not_lt_zero, jx_cl, nI_leI, nI_ltI, nI_eq, jx_neg, jx_neg', jx_negE, jx_negL, jx_negG, jx_negLE, jx_negN, sb_nlt, sb_nle, jx_b0, jx_b1, jx_bT, jx_bF, ite_true, ite_false, if_true, if_false, reduceIte, Bool.false_eq_true, Bool.true_eq_false, eq_self, Nat.one_ne_zero, Nat.add_sub_cancel, not_true_eq_false, not_false_eq_true, hnJ, zn, jx_one, fa_not, kb]
/-- the reference goes through all sets -/
theorem jl_202 {d p kd W D : Nat} {x : Int32} {I : Nat → Nat → Int32} {rho : Nat → Option Nat} {mu : List (Nat × Nat)} {w : jW} {P : Nat → Int32} (hw : jMt I w) (hp : p < 6) (hQ : jQ I p kd P) (hv : jPv (jwn w) P) (hD : D < 4096) (hW : js_few w D P W) :
    ∃ J v7, jm_go (jm_ev (d + 2)) 202 (38, [some (.ref 57), some (.int (nI p)), some (.int x), some (.int (nI D)), some (.int (-nI 1)), some (.int (nI 0)), some (.int (nI 0)), none], [], jm_hp I rho mu) = jm_go (jm_ev (d + 2)) 202 (38, [some (.ref 57), some (.int (nI p)), some (.int x), some (.int (nI D)), some (.int (nI W)), some (.int (nI (jx_cnt W 12))), some (.int (nI (2 ^ jwn w))), v7], [], jm_hp J rho mu) ∧ jG jS_m I J := by
  have hn12 := hw.1.2.1
  have hpn := jx_pow12 hn12
  let Z : Nat → (Int32 × Nat) → Prop := fun s b =>
    (b = (-nI 1, 0) ∧ s ≤ W) ∨ (s ≤ W ∧ ∃ c, c < s ∧ b = (nI c, jx_cnt c 12) ∧ 2 ≤ jx_cnt c 12 ∧ 1 ≤ jx_cnt W 12 ∧ jx_cnt W 12 ≤ 1) ∨ (W < s ∧ b = (nI W, jx_cnt W 12))
  obtain ⟨⟨J, v7, b⟩, e, g, hZ⟩ := jx_for (E := jm_ev (d + 2)) (y := 202) (σ := (Nat → Nat → Int32) × Option Value × (Int32 × Nat)) (2 ^ jwn w) (fun s q => (38, [some (.ref 57), some (.int (nI p)), some (.int x), some (.int (nI D)), some (.int q.2.2.1), some (.int (nI q.2.2.2)), some (.int (nI s)), q.2.1], [], jm_hp q.1 rho mu)) (fun s q => jG jS_m I q.1 ∧ Z s q.2.2) (fun s q hs hq => by
    obtain ⟨J, v7, b⟩ := q
    obtain ⟨g, hZ⟩ := hq
    dsimp only at g hZ ⊢
    have hwJ := jMt_m hw g
    have hnJ := hwJ.1.1
    have zn : ¬ 2 ^ jwn w ≤ s := by omega
    have k145 := @jf_145 (d + 1) s J rho mu (by omega)
    have hc13 := jx_cnt12 s
    have hcW := jx_cnt12 W
    obtain ⟨K, e2, g2⟩ := jf_201 (d := d) (rho := rho) (mu := mu) (B := js_mi D s) hwJ (js_mi_lt hD) hp (jQ_mo hQ g) hv
    rw [jb_202_38]
    -- a set that is tried
    have tried : (b.1 = -nI 1 ∨ ¬ b.2 ≤ jx_cnt s 12) → b.2 < 13 → (b.1 = -nI 1 ∨ ¬ b.1 = -nI 1) → ∃ t : (Nat → Nat → Int32) × Option Value × (Int32 × Nat), (if (nI 1 <<< (nI (jwn w) &&& nI 31)) ≤ nI s then jm_go (jm_ev (d + 2)) 202 (97, [some (.ref 57), some (.int (nI p)), some (.int x), some (.int (nI D)), some (.int b.1), some (.int (nI b.2)), some (.int (nI s)), v7], [], jm_hp J rho mu) else jm_go (jm_ev (d + 2)) 202 (49, [some (.ref 57), some (.int (nI p)), some (.int x), some (.int (nI D)), some (.int b.1), some (.int (nI b.2)), some (.int (nI s)), v7], [], jm_hp J rho mu)) = jm_go (jm_ev (d + 2)) 202 (38, [some (.ref 57), some (.int (nI p)), some (.int x), some (.int (nI D)), some (.int t.2.2.1), some (.int (nI t.2.2.2)), some (.int (nI (s + 1))), t.2.1], [], jm_hp t.1 rho mu) ∧ jG jS_m I t.1 ∧ t.2.2 = if js_dg w (js_mi D s) P = false then (nI s, jx_cnt s 12) else b := by
      intro hb hb13 hb2
      refine ⟨(K, some (.int (nI (jx_cnt s 12))), if js_dg w (js_mi D s) P = false then (nI s, jx_cnt s 12) else b), ?_, jG_tr g g2, rfl⟩
      rcases Bool.eq_false_or_eq_true (js_dg w (js_mi D s) P) with zq | zq <;> rw [zq] at e2
      · rw [zq]
        rcases hb2 with hb1 | hb1
        · simp (disch := first | assumption | omega | exact jx_bz _ | exact jx_z0 | exact jx_z1 | (refine jx_ixB ?_ ?_; omega; omega) | (simp (disch := first | omega | fail) only [jx_lit, pk_mul, nI_add, nI_pred, pk_sub, jx_na, jx_add0, Nat.reduceMul, Nat.reduceAdd, Nat.reduceSub, Nat.reduceEqDiff, Nat.reduceLeDiff, Nat.reduceLT, jx_one, zn, k145, hb1, fa_not, e2]; refine jx_ixC ?_ ?_; omega; omega) | (simp (disch := first | omega | fail) only [jx_lit, pk_mul, nI_add, nI_pred, pk_sub, jx_na, jx_add0, Nat.reduceMul, Nat.reduceAdd, Nat.reduceSub, Nat.reduceEqDiff, Nat.reduceLeDiff, Nat.reduceLT, jx_cl, nI_leI, Nat.zero_le, true_and, jx_one, zn, k145, hb1, fa_not, e2]; omega) | fail) only [jb_202_0, jb_202_5, jb_202_8, jb_202_11, jb_202_17, jb_202_20, jb_202_23, jb_202_28, jb_202_49, jb_202_54, jb_202_62, jb_202_69, jb_202_80, jb_202_83, jb_202_91, jb_202_97, jb_202_101, jb_202_106, jb_202_108, jx_nl, jx_nlr, jx_thenS, jx_tlS, jx_tlN, jm_ite_go, jx_rds, jx_rdn, jx_lit, pk_mul, nI_add, nI_pred, pk_sub, jx_na, jx_add0, Nat.reduceMul, Nat.reduceAdd, Nat.reduceSub, Nat.reduceEqDiff, Nat.reduceLeDiff, Nat.reduceLT, Nat.not_lt_zero, jx_cl, nI_leI, nI_ltI, nI_eq, jx_neg, jx_neg', jx_negE, jx_negL, jx_negG, jx_negLE, jx_negN, sb_nlt, sb_nle, jx_b0, jx_b1, jx_bT, jx_bF, ite_true, ite_false, if_true, if_false, reduceIte, Bool.false_eq_true, Bool.true_eq_false, eq_self, Nat.one_ne_zero, Nat.add_sub_cancel, not_true_eq_false, not_false_eq_true, jx_one, zn, k145, hb1, fa_not, e2]
        · have hb3 : ¬ b.2 ≤ jx_cnt s 12 := by rcases hb with q | q; exact absurd q hb1; exact q
          simp (disch := first | assumption | omega | exact jx_bz _ | exact jx_z0 | exact jx_z1 | (refine jx_ixB ?_ ?_; omega; omega) | (simp (disch := first | omega | fail) only [jx_lit, pk_mul, nI_add, nI_pred, pk_sub, jx_na, jx_add0, Nat.reduceMul, Nat.reduceAdd, Nat.reduceSub, Nat.reduceEqDiff, Nat.reduceLeDiff, Nat.reduceLT, jx_one, zn, k145, hb1, hb3, fa_not, e2]; refine jx_ixC ?_ ?_; omega; omega) | (simp (disch := first | omega | fail) only [jx_lit, pk_mul, nI_add, nI_pred, pk_sub, jx_na, jx_add0, Nat.reduceMul, Nat.reduceAdd, Nat.reduceSub, Nat.reduceEqDiff, Nat.reduceLeDiff, Nat.reduceLT, jx_cl, nI_leI, Nat.zero_le, true_and, jx_one, zn, k145, hb1, hb3, fa_not, e2]; omega) | fail) only [jb_202_0, jb_202_5, jb_202_8, jb_202_11, jb_202_17, jb_202_20, jb_202_23, jb_202_28, jb_202_49, jb_202_54, jb_202_62, jb_202_69, jb_202_80, jb_202_83, jb_202_91, jb_202_97, jb_202_101, jb_202_106, jb_202_108, jx_nl, jx_nlr, jx_thenS, jx_tlS, jx_tlN, jm_ite_go, jx_rds, jx_rdn, jx_lit, pk_mul, nI_add, nI_pred, pk_sub, jx_na, jx_add0, Nat.reduceMul, Nat.reduceAdd, Nat.reduceSub, Nat.reduceEqDiff, Nat.reduceLeDiff, Nat.reduceLT, Nat.not_lt_zero, jx_cl, nI_leI, nI_ltI, nI_eq, jx_neg, jx_neg', jx_negE, jx_negL, jx_negG, jx_negLE, jx_negN, sb_nlt, sb_nle, jx_b0, jx_b1, jx_bT, jx_bF, ite_true, ite_false, if_true, if_false, reduceIte, Bool.false_eq_true, Bool.true_eq_false, eq_self, Nat.one_ne_zero, Nat.add_sub_cancel, not_true_eq_false, not_false_eq_true, jx_one, zn, k145, hb1, hb3, fa_not, e2]
      · rw [zq]
        rcases hb2 with hb1 | hb1
        · simp (disch := first | assumption | omega | exact jx_bz _ | exact jx_z0 | exact jx_z1 | (refine jx_ixB ?_ ?_; omega; omega) | (simp (disch := first | omega | fail) only [jx_lit, pk_mul, nI_add, nI_pred, pk_sub, jx_na, jx_add0, Nat.reduceMul, Nat.reduceAdd, Nat.reduceSub, Nat.reduceEqDiff, Nat.reduceLeDiff, Nat.reduceLT, jx_one, zn, k145, hb1, fa_not, e2]; refine jx_ixC ?_ ?_; omega; omega) | (simp (disch := first | omega | fail) only [jx_lit, pk_mul, nI_add, nI_pred, pk_sub, jx_na, jx_add0, Nat.reduceMul, Nat.reduceAdd, Nat.reduceSub, Nat.reduceEqDiff, Nat.reduceLeDiff, Nat.reduceLT, jx_cl, nI_leI, Nat.zero_le, true_and, jx_one, zn, k145, hb1, fa_not, e2]; omega) | fail) only [jb_202_0, jb_202_5, jb_202_8, jb_202_11, jb_202_17, jb_202_20, jb_202_23, jb_202_28, jb_202_49, jb_202_54, jb_202_62, jb_202_69, jb_202_80, jb_202_83, jb_202_91, jb_202_97, jb_202_101, jb_202_106, jb_202_108, jx_nl, jx_nlr, jx_thenS, jx_tlS, jx_tlN, jm_ite_go, jx_rds, jx_rdn, jx_lit, pk_mul, nI_add, nI_pred, pk_sub, jx_na, jx_add0, Nat.reduceMul, Nat.reduceAdd, Nat.reduceSub, Nat.reduceEqDiff, Nat.reduceLeDiff, Nat.reduceLT, Nat.not_lt_zero, jx_cl, nI_leI, nI_ltI, nI_eq, jx_neg, jx_neg', jx_negE, jx_negL, jx_negG, jx_negLE, jx_negN, sb_nlt, sb_nle, jx_b0, jx_b1, jx_bT, jx_bF, ite_true, ite_false, if_true, if_false, reduceIte, Bool.false_eq_true, Bool.true_eq_false, eq_self, Nat.one_ne_zero, Nat.add_sub_cancel, not_true_eq_false, not_false_eq_true, jx_one, zn, k145, hb1, fa_not, e2]
        · have hb3 : ¬ b.2 ≤ jx_cnt s 12 := by rcases hb with q | q; exact absurd q hb1; exact q
          simp (disch := first | assumption | omega | exact jx_bz _ | exact jx_z0 | exact jx_z1 | (refine jx_ixB ?_ ?_; omega; omega) | (simp (disch := first | omega | fail) only [jx_lit, pk_mul, nI_add, nI_pred, pk_sub, jx_na, jx_add0, Nat.reduceMul, Nat.reduceAdd, Nat.reduceSub, Nat.reduceEqDiff, Nat.reduceLeDiff, Nat.reduceLT, jx_one, zn, k145, hb1, hb3, fa_not, e2]; refine jx_ixC ?_ ?_; omega; omega) | (simp (disch := first | omega | fail) only [jx_lit, pk_mul, nI_add, nI_pred, pk_sub, jx_na, jx_add0, Nat.reduceMul, Nat.reduceAdd, Nat.reduceSub, Nat.reduceEqDiff, Nat.reduceLeDiff, Nat.reduceLT, jx_cl, nI_leI, Nat.zero_le, true_and, jx_one, zn, k145, hb1, hb3, fa_not, e2]; omega) | fail) only [jb_202_0, jb_202_5, jb_202_8, jb_202_11, jb_202_17, jb_202_20, jb_202_23, jb_202_28, jb_202_49, jb_202_54, jb_202_62, jb_202_69, jb_202_80, jb_202_83, jb_202_91, jb_202_97, jb_202_101, jb_202_106, jb_202_108, jx_nl, jx_nlr, jx_thenS, jx_tlS, jx_tlN, jm_ite_go, jx_rds, jx_rdn, jx_lit, pk_mul, nI_add, nI_pred, pk_sub, jx_na, jx_add0, Nat.reduceMul, Nat.reduceAdd, Nat.reduceSub, Nat.reduceEqDiff, Nat.reduceLeDiff, Nat.reduceLT, Nat.not_lt_zero, jx_cl, nI_leI, nI_ltI, nI_eq, jx_neg, jx_neg', jx_negE, jx_negL, jx_negG, jx_negLE, jx_negN, sb_nlt, sb_nle, jx_b0, jx_b1, jx_bT, jx_bF, ite_true, ite_false, if_true, if_false, reduceIte, Bool.false_eq_true, Bool.true_eq_false, eq_self, Nat.one_ne_zero, Nat.add_sub_cancel, not_true_eq_false, not_false_eq_true, jx_one, zn, k145, hb1, hb3, fa_not, e2]
    have skip : ¬ b.1 = -nI 1 → b.2 ≤ jx_cnt s 12 → b.2 < 13 → (if (nI 1 <<< (nI (jwn w) &&& nI 31)) ≤ nI s then jm_go (jm_ev (d + 2)) 202 (97, [some (.ref 57), some (.int (nI p)), some (.int x), some (.int (nI D)), some (.int b.1), some (.int (nI b.2)), some (.int (nI s)), v7], [], jm_hp J rho mu) else jm_go (jm_ev (d + 2)) 202 (49, [some (.ref 57), some (.int (nI p)), some (.int x), some (.int (nI D)), some (.int b.1), some (.int (nI b.2)), some (.int (nI s)), v7], [], jm_hp J rho mu)) = jm_go (jm_ev (d + 2)) 202 (38, [some (.ref 57), some (.int (nI p)), some (.int x), some (.int (nI D)), some (.int b.1), some (.int (nI b.2)), some (.int (nI (s + 1))), some (.int (nI (jx_cnt s 12)))], [], jm_hp J rho mu) := by
      intro hb1 hb3 hb13
      simp (disch := first | assumption | omega | exact jx_bz _ | exact jx_z0 | exact jx_z1 | (refine jx_ixB ?_ ?_; omega; omega) | (simp (disch := first | omega | fail) only [jx_lit, pk_mul, nI_add, nI_pred, pk_sub, jx_na, jx_add0, Nat.reduceMul, Nat.reduceAdd, Nat.reduceSub, Nat.reduceEqDiff, Nat.reduceLeDiff, Nat.reduceLT, jx_one, zn, k145, hb1, hb3]; refine jx_ixC ?_ ?_; omega; omega) | (simp (disch := first | omega | fail) only [jx_lit, pk_mul, nI_add, nI_pred, pk_sub, jx_na, jx_add0, Nat.reduceMul, Nat.reduceAdd, Nat.reduceSub, Nat.reduceEqDiff, Nat.reduceLeDiff, Nat.reduceLT, jx_cl, nI_leI, Nat.zero_le, true_and, jx_one, zn, k145, hb1, hb3]; omega) | fail) only [jb_202_0, jb_202_5, jb_202_8, jb_202_11, jb_202_17, jb_202_20, jb_202_23, jb_202_28, jb_202_49, jb_202_54, jb_202_62, jb_202_69, jb_202_80, jb_202_83, jb_202_91, jb_202_97, jb_202_101, jb_202_106, jb_202_108, jx_nl, jx_nlr, jx_thenS, jx_tlS, jx_tlN, jm_ite_go, jx_rds, jx_rdn, jx_lit, pk_mul, nI_add, nI_pred, pk_sub, jx_na, jx_add0, Nat.reduceMul, Nat.reduceAdd, Nat.reduceSub, Nat.reduceEqDiff, Nat.reduceLeDiff, Nat.reduceLT, Nat.not_lt_zero, jx_cl, nI_leI, nI_ltI, nI_eq, jx_neg, jx_neg', jx_negE, jx_negL, jx_negG, jx_negLE, jx_negN, sb_nlt, sb_nle, jx_b0, jx_b1, jx_bT, jx_bF, ite_true, ite_false, if_true, if_false, reduceIte, Bool.false_eq_true, Bool.true_eq_false, eq_self, Nat.one_ne_zero, Nat.add_sub_cancel, not_true_eq_false, not_false_eq_true, jx_one, zn, k145, hb1, hb3]
    have hnn : ∀ c, c < 4096 → ¬ nI c = -nI 1 := fun c hc => by rw [jx_neg (by omega) (by omega) (by omega)]; exact id
    have hW4 : W < 4096 := by
      rcases hW with ⟨-, rfl⟩ | ⟨-, d0, hd, rfl, -⟩
      · omega
      · exact Nat.lt_of_lt_of_le (Nat.pow_lt_pow_right (by decide) hd) hpn
    -- what lies below W is in danger, or of two at least
    have low : s < W → js_dg w (js_mi D s) P = false → 2 ≤ jx_cnt s 12 := by
      intro hsW hf
      rcases hW with ⟨-, rfl⟩ | ⟨h, d0, hd, rfl, hp0, hl⟩
      · omega
      · apply Classical.byContradiction
        intro hlt
        rcases (show jx_cnt s 12 = 0 ∨ jx_cnt s 12 = 1 by omega) with q | q
        · have := jx_cnt0 (by omega) q
          subst this
          rw [js_mi_0 hD, h] at hf; cases hf
        · obtain ⟨j, hj, rfl⟩ := jx_cnt1 (by omega) q
          have hjd : j < d0 := (Nat.pow_lt_pow_iff_right (by decide)).mp hsW
          rw [hl j hjd] at hf; cases hf
    have atW : s = W → js_dg w (js_mi D s) P = false := by
      rintro rfl
      rcases hW with ⟨h, rfl⟩ | ⟨h, d0, hd, rfl, hp0, hl⟩
      · rw [js_mi_0 hD]; exact h
      · exact hp0
    have cW : s < W → 1 ≤ jx_cnt W 12 ∧ jx_cnt W 12 ≤ 1 := by
      intro hsW
      rcases hW with ⟨-, rfl⟩ | ⟨h, d0, hd, rfl, hp0, hl⟩
      · omega
      · rw [jx_cntp d0 (by omega)]; omega
    have hn1 : (I 57 7 = I 57 7) := rfl
    rw [show (J 57 7) = nI (jwn w) from hnJ]
    rcases hZ with ⟨rfl, hsW⟩ | ⟨hsW, c, hc, rfl, hc2, hw1, hw2⟩ | ⟨hsW, rfl⟩
    · obtain ⟨t, e3, g3, ht⟩ := tried (.inl rfl) (by decide) (.inl rfl)
      refine ⟨t, e3, g3, ?_⟩
      rw [ht]
      by_cases q : s = W
      · rw [if_pos (atW q), q]
        exact .inr (.inr ⟨by omega, rfl⟩)
      · split
        next hf => exact .inr (.inl ⟨by omega, s, by omega, rfl, low (by omega) hf, cW (by omega)⟩)
        next hf => exact .inl ⟨rfl, by omega⟩
    · have hcc := hnn c (by omega)
      by_cases q : s = W
      · obtain ⟨t, e3, g3, ht⟩ := tried (.inr (by rw [q]; dsimp only; omega)) (jx_cnt12 c) (.inr hcc)
        refine ⟨t, e3, g3, ?_⟩
        rw [ht, if_pos (atW q), q]
        exact .inr (.inr ⟨by omega, rfl⟩)
      · by_cases r : jx_cnt c 12 ≤ jx_cnt s 12
        · exact ⟨(J, some (.int (nI (jx_cnt s 12))), (nI c, jx_cnt c 12)), skip hcc r (jx_cnt12 c), g, .inr (.inl ⟨by omega, c, by omega, rfl, hc2, hw1, hw2⟩)⟩
        · obtain ⟨t, e3, g3, ht⟩ := tried (.inr r) (jx_cnt12 c) (.inr hcc)
          refine ⟨t, e3, g3, ?_⟩
          rw [ht]
          split
          next hf => exact .inr (.inl ⟨by omega, s, by omega, rfl, low (by omega) hf, hw1, hw2⟩)
          next hf => exact .inr (.inl ⟨by omega, c, by omega, rfl, hc2, hw1, hw2⟩)
    · have hcc := hnn W hW4
      have hle : jx_cnt W 12 ≤ jx_cnt s 12 := by
        rcases hW with ⟨-, rfl⟩ | ⟨h, d0, hd, rfl, hp0, hl⟩
        · rw [jx_cntz]; omega
        · rw [jx_cntp d0 (by omega)]
          apply Classical.byContradiction
          intro hlt
          have := jx_cnt0 (S := s) (by omega) (by omega)
          have := Nat.two_pow_pos d0
          omega
      exact ⟨(J, some (.int (nI (jx_cnt s 12))), (nI W, jx_cnt W 12)), skip hcc hle hcW, g, .inr (.inr ⟨by omega, rfl⟩)⟩) (2 ^ jwn w) 0 (I, none, (-nI 1, 0)) (Nat.zero_add _) ⟨jG_rf, .inl ⟨rfl, Nat.zero_le _⟩⟩
  have hWn : W < 2 ^ jwn w := by
    rcases hW with ⟨-, rfl⟩ | ⟨-, d0, hd, rfl, -⟩
    · exact Nat.two_pow_pos _
    · exact Nat.pow_lt_pow_right (by decide) hd
  have hb : b = (nI W, jx_cnt W 12) := by
    rcases hZ with ⟨-, h⟩ | ⟨h, -⟩ | ⟨-, h⟩
    · omega
    · omega
    · exact h
  dsimp only at e g hb
  subst hb
  exact ⟨J, v7, e, g⟩
theorem jq_watch (x y : Int32) : jCall 98 202 [.int x, .int y] := by
  refine jCall_ask fun d H rho mu w m tc ad kd cds hI hmu => ?_
  obtain ⟨h1, h2, -⟩ := hI
  have p3 := h2.1
  have p0 := h2.2.2.1
  have pm6 := h2.2.1
  obtain ⟨t2, u7, tn12⟩ := jR1_c h1
  rcases jx_who h2 x with ⟨-, e, e2⟩ | ⟨p, hp, rfl, e, e2⟩
  · have e := e (d + 58) H p3
    have e2 := e2 (d + 57) H p0
    exact ⟨.int (-nI 5), H, ⟨by simp (disch := first | assumption | omega | exact jx_bz _ | exact jx_z0 | exact jx_z1 | (refine jx_ixB ?_ ?_; omega; omega) | (simp (disch := first | omega | fail) only [jx_lit, pk_mul, nI_add, nI_pred, pk_sub, jx_na, jx_add0, Nat.reduceMul, Nat.reduceAdd, Nat.reduceSub, Nat.reduceEqDiff, Nat.reduceLeDiff, Nat.reduceLT, e]; refine jx_ixC ?_ ?_; omega; omega) | (simp (disch := first | omega | fail) only [jx_lit, pk_mul, nI_add, nI_pred, pk_sub, jx_na, jx_add0, Nat.reduceMul, Nat.reduceAdd, Nat.reduceSub, Nat.reduceEqDiff, Nat.reduceLeDiff, Nat.reduceLT, jx_cl, nI_leI, Nat.zero_le, true_and, e]; omega) | fail) only [je_98, jb_98_0, jb_98_5, jb_98_5_1, jb_98_10, jb_98_13, jb_98_17, jb_98_22, jb_98_25, jb_98_30, jb_98_36, jb_98_41, jb_98_46, jx_nl, jx_nlr, jx_thenS, jx_tlS, jx_tlN, jm_ite_go, jx_rds, jx_rdn, jx_lit, pk_mul, nI_add, nI_pred, pk_sub, jx_na, jx_add0, Nat.reduceMul, Nat.reduceAdd, Nat.reduceSub, Nat.reduceEqDiff, Nat.reduceLeDiff, Nat.reduceLT, Nat.not_lt_zero, jx_cl, nI_leI, nI_ltI, nI_eq, jx_neg, jx_neg', jx_negE, jx_negL, jx_negG, jx_negLE, jx_negN, sb_nlt, sb_nle, jx_b0, jx_b1, jx_bT, jx_bF, ite_true, ite_false, if_true, if_false, reduceIte, Bool.false_eq_true, Bool.true_eq_false, eq_self, Nat.one_ne_zero, Nat.add_sub_cancel, not_true_eq_false, not_false_eq_true, e], jG_rf⟩, H, by simp (disch := first | assumption | omega | exact jx_bz _ | exact jx_z0 | exact jx_z1 | (refine jx_ixB ?_ ?_; omega; omega) | (simp (disch := first | omega | fail) only [jx_lit, pk_mul, nI_add, nI_pred, pk_sub, jx_na, jx_add0, Nat.reduceMul, Nat.reduceAdd, Nat.reduceSub, Nat.reduceEqDiff, Nat.reduceLeDiff, Nat.reduceLT, e2]; refine jx_ixC ?_ ?_; omega; omega) | (simp (disch := first | omega | fail) only [jx_lit, pk_mul, nI_add, nI_pred, pk_sub, jx_na, jx_add0, Nat.reduceMul, Nat.reduceAdd, Nat.reduceSub, Nat.reduceEqDiff, Nat.reduceLeDiff, Nat.reduceLT, jx_cl, nI_leI, Nat.zero_le, true_and, e2]; omega) | fail) only [je_202, jb_202_0, jb_202_5, jb_202_8, jb_202_11, jb_202_17, jb_202_20, jb_202_23, jb_202_28, jb_202_49, jb_202_54, jb_202_62, jb_202_69, jb_202_80, jb_202_83, jb_202_91, jb_202_97, jb_202_101, jb_202_106, jb_202_108, jx_nl, jx_nlr, jx_thenS, jx_tlS, jx_tlN, jm_ite_go, jx_rds, jx_rdn, jx_lit, pk_mul, nI_add, nI_pred, pk_sub, jx_na, jx_add0, Nat.reduceMul, Nat.reduceAdd, Nat.reduceSub, Nat.reduceEqDiff, Nat.reduceLeDiff, Nat.reduceLT, Nat.not_lt_zero, jx_cl, nI_leI, nI_ltI, nI_eq, jx_neg, jx_neg', jx_negE, jx_negL, jx_negG, jx_negLE, jx_negN, sb_nlt, sb_nle, jx_b0, jx_b1, jx_bT, jx_bF, ite_true, ite_false, if_true, if_false, reduceIte, Bool.false_eq_true, Bool.true_eq_false, eq_self, Nat.one_ne_zero, Nat.add_sub_cancel, not_true_eq_false, not_false_eq_true, e2], jG_rf⟩
  · have e := e (d + 58) H p3
    obtain ⟨b1, b2, b3, b4, b5, b6, b7⟩ := h2.2.2.2.1 p hp
    rcases jx_rng y 1 (by decide) with ⟨hx, hq, k143⟩ | ⟨q, hq, rfl, k143⟩
    · have z0 : ¬ y = nI 0 := jx_in_ne hx (by omega) (by decide)
      have z1 : ¬ y = nI 1 := jx_in_ne hx (by omega) (by decide)
      have e2 := e2 (d + 57) H p0
      exact ⟨.int (-nI 7), H, ⟨by simp (disch := first | assumption | omega | exact jx_bz _ | exact jx_z0 | exact jx_z1 | (refine jx_ixB ?_ ?_; omega; omega) | (simp (disch := first | omega | fail) only [jx_lit, pk_mul, nI_add, nI_pred, pk_sub, jx_na, jx_add0, Nat.reduceMul, Nat.reduceAdd, Nat.reduceSub, Nat.reduceEqDiff, Nat.reduceLeDiff, Nat.reduceLT, e, z0, z1]; refine jx_ixC ?_ ?_; omega; omega) | (simp (disch := first | omega | fail) only [jx_lit, pk_mul, nI_add, nI_pred, pk_sub, jx_na, jx_add0, Nat.reduceMul, Nat.reduceAdd, Nat.reduceSub, Nat.reduceEqDiff, Nat.reduceLeDiff, Nat.reduceLT, jx_cl, nI_leI, Nat.zero_le, true_and, e, z0, z1]; omega) | fail) only [je_98, jb_98_0, jb_98_5, jb_98_5_1, jb_98_10, jb_98_13, jb_98_17, jb_98_22, jb_98_25, jb_98_30, jb_98_36, jb_98_41, jb_98_46, jx_nl, jx_nlr, jx_thenS, jx_tlS, jx_tlN, jm_ite_go, jx_rds, jx_rdn, jx_lit, pk_mul, nI_add, nI_pred, pk_sub, jx_na, jx_add0, Nat.reduceMul, Nat.reduceAdd, Nat.reduceSub, Nat.reduceEqDiff, Nat.reduceLeDiff, Nat.reduceLT, Nat.not_lt_zero, jx_cl, nI_leI, nI_ltI, nI_eq, jx_neg, jx_neg', jx_negE, jx_negL, jx_negG, jx_negLE, jx_negN, sb_nlt, sb_nle, jx_b0, jx_b1, jx_bT, jx_bF, ite_true, ite_false, if_true, if_false, reduceIte, Bool.false_eq_true, Bool.true_eq_false, eq_self, Nat.one_ne_zero, Nat.add_sub_cancel, not_true_eq_false, not_false_eq_true, e, z0, z1], jG_rf⟩, H, by simp (disch := first | assumption | omega | exact jx_bz _ | exact jx_z0 | exact jx_z1 | (refine jx_ixB ?_ ?_; omega; omega) | (simp (disch := first | omega | fail) only [jx_lit, pk_mul, nI_add, nI_pred, pk_sub, jx_na, jx_add0, Nat.reduceMul, Nat.reduceAdd, Nat.reduceSub, Nat.reduceEqDiff, Nat.reduceLeDiff, Nat.reduceLT, e2, k143]; refine jx_ixC ?_ ?_; omega; omega) | (simp (disch := first | omega | fail) only [jx_lit, pk_mul, nI_add, nI_pred, pk_sub, jx_na, jx_add0, Nat.reduceMul, Nat.reduceAdd, Nat.reduceSub, Nat.reduceEqDiff, Nat.reduceLeDiff, Nat.reduceLT, jx_cl, nI_leI, Nat.zero_le, true_and, e2, k143]; omega) | fail) only [je_202, jb_202_0, jb_202_5, jb_202_8, jb_202_11, jb_202_17, jb_202_20, jb_202_23, jb_202_28, jb_202_49, jb_202_54, jb_202_62, jb_202_69, jb_202_80, jb_202_83, jb_202_91, jb_202_97, jb_202_101, jb_202_106, jb_202_108, jx_nl, jx_nlr, jx_thenS, jx_tlS, jx_tlN, jm_ite_go, jx_rds, jx_rdn, jx_lit, pk_mul, nI_add, nI_pred, pk_sub, jx_na, jx_add0, Nat.reduceMul, Nat.reduceAdd, Nat.reduceSub, Nat.reduceEqDiff, Nat.reduceLeDiff, Nat.reduceLT, Nat.not_lt_zero, jx_cl, nI_leI, nI_ltI, nI_eq, jx_neg, jx_neg', jx_negE, jx_negL, jx_negG, jx_negLE, jx_negN, sb_nlt, sb_nle, jx_b0, jx_b1, jx_bT, jx_bF, ite_true, ite_false, if_true, if_false, reduceIte, Bool.false_eq_true, Bool.true_eq_false, eq_self, Nat.one_ne_zero, Nat.add_sub_cancel, not_true_eq_false, not_false_eq_true, e2, k143], jG_rf⟩
    · obtain ⟨-, -, -, -, S, hS, h5⟩ := id b6
      have hS2 := Nat.lt_of_lt_of_le hS (jx_pow12 tn12)
      obtain ⟨W, hW⟩ := js_few_ex (w := w) (D := js_dared w (kd p) (H (ad p))) b6 tn12
      obtain ⟨J, c1, c2⟩ := jf_134 (d := d + 52) (rho := rho) (mu := mu) h1.1 b2 b6 h5 hS2 hW
      have gJ := jG_Kst c2
      obtain ⟨r1, r2, r3⟩ := jR_K h1 h2 gJ hmu
      have hQ := (r2.2.2.2.1 p hp).2.2.2.2.2.2
      rw [r3 p hp] at hQ
      have hD := js_dared_12 (w := w) (kd := kd p) (P := H (ad p)) tn12
      obtain ⟨K, c3, c4⟩ := jf_181 (d := d + 54) (rho := rho) (mu := mu) r1.2 (show p < 6 by omega) b2.1 hQ h5 hS2
      obtain ⟨L, v7, c5, c6⟩ := jl_202 (d := d + 57) (x := nI q) (rho := rho) (mu := mu) (jMt_m r1.2 c4) (show p < 6 by omega) (jQ_mo hQ c4) b6 hD hW
      have hnL := (jMt_m (jMt_m r1.2 c4) c6).1.1
      have e2 := e2 (d + 57) J r2.2.2.1
      have hW4 : W < 4096 := by
        have hpn := jx_pow12 tn12
        rcases hW with ⟨-, rfl⟩ | ⟨-, d0, hd, rfl, -⟩
        · omega
        · exact Nat.lt_of_lt_of_le (Nat.pow_lt_pow_right (by decide) hd) hpn
      have k235 := @jf_235 (d + 58) W J rho mu hW4
      have hp12 := jx_pow12 tn12
      rcases (show q = 0 ∨ q = 1 by omega) with zq | zq <;> subst zq
      · refine ⟨.int (nI W), J, ⟨by simp (disch := first | assumption | omega | exact jx_bz _ | exact jx_z0 | exact jx_z1 | (refine jx_ixB ?_ ?_; omega; omega) | (simp (disch := first | omega | fail) only [jx_lit, pk_mul, nI_add, nI_pred, pk_sub, jx_na, jx_add0, Nat.reduceMul, Nat.reduceAdd, Nat.reduceSub, Nat.reduceEqDiff, Nat.reduceLeDiff, Nat.reduceLT, e, c1]; refine jx_ixC ?_ ?_; omega; omega) | (simp (disch := first | omega | fail) only [jx_lit, pk_mul, nI_add, nI_pred, pk_sub, jx_na, jx_add0, Nat.reduceMul, Nat.reduceAdd, Nat.reduceSub, Nat.reduceEqDiff, Nat.reduceLeDiff, Nat.reduceLT, jx_cl, nI_leI, Nat.zero_le, true_and, e, c1]; omega) | fail) only [je_98, jb_98_0, jb_98_5, jb_98_5_1, jb_98_10, jb_98_13, jb_98_17, jb_98_22, jb_98_25, jb_98_30, jb_98_36, jb_98_41, jb_98_46, jx_nl, jx_nlr, jx_thenS, jx_tlS, jx_tlN, jm_ite_go, jx_rds, jx_rdn, jx_lit, pk_mul, nI_add, nI_pred, pk_sub, jx_na, jx_add0, Nat.reduceMul, Nat.reduceAdd, Nat.reduceSub, Nat.reduceEqDiff, Nat.reduceLeDiff, Nat.reduceLT, Nat.not_lt_zero, jx_cl, nI_leI, nI_ltI, nI_eq, jx_neg, jx_neg', jx_negE, jx_negL, jx_negG, jx_negLE, jx_negN, sb_nlt, sb_nle, jx_b0, jx_b1, jx_bT, jx_bF, ite_true, ite_false, if_true, if_false, reduceIte, Bool.false_eq_true, Bool.true_eq_false, eq_self, Nat.one_ne_zero, Nat.add_sub_cancel, not_true_eq_false, not_false_eq_true, e, c1], gJ⟩, L, ?_, jG_Km (jG_tr c4 c6)⟩
        simp (disch := first | assumption | omega | exact jx_bz _ | exact jx_z0 | exact jx_z1 | (refine jx_ixB ?_ ?_; omega; omega) | (simp (disch := first | omega | fail) only [jx_lit, pk_mul, nI_add, nI_pred, pk_sub, jx_na, jx_add0, Nat.reduceMul, Nat.reduceAdd, Nat.reduceSub, Nat.reduceEqDiff, Nat.reduceLeDiff, Nat.reduceLT, e2, k143, c3]; refine jx_ixC ?_ ?_; omega; omega) | (simp (disch := first | omega | fail) only [jx_lit, pk_mul, nI_add, nI_pred, pk_sub, jx_na, jx_add0, Nat.reduceMul, Nat.reduceAdd, Nat.reduceSub, Nat.reduceEqDiff, Nat.reduceLeDiff, Nat.reduceLT, jx_cl, nI_leI, Nat.zero_le, true_and, e2, k143, c3]; omega) | fail) only [je_202, jb_202_0, jb_202_5, jb_202_8, jb_202_11, jb_202_17, jb_202_20, jb_202_23, jb_202_28, jb_202_49, jb_202_54, jb_202_62, jb_202_69, jb_202_80, jb_202_83, jb_202_91, jb_202_97, jb_202_101, jb_202_106, jb_202_108, jx_nl, jx_nlr, jx_thenS, jx_tlS, jx_tlN, jm_ite_go, jx_rds, jx_rdn, jx_lit, pk_mul, nI_add, nI_pred, pk_sub, jx_na, jx_add0, Nat.reduceMul, Nat.reduceAdd, Nat.reduceSub, Nat.reduceEqDiff, Nat.reduceLeDiff, Nat.reduceLT, Nat.not_lt_zero, jx_cl, nI_leI, nI_ltI, nI_eq, jx_neg, jx_neg', jx_negE, jx_negL, jx_negG, jx_negLE, jx_negN, sb_nlt, sb_nle, jx_b0, jx_b1, jx_bT, jx_bF, ite_true, ite_false, if_true, if_false, reduceIte, Bool.false_eq_true, Bool.true_eq_false, eq_self, Nat.one_ne_zero, Nat.add_sub_cancel, not_true_eq_false, not_false_eq_true, e2, k143, c3]
        refine Eq.trans c5 ?_
        rw [jb_202_38]
        simp (disch := first | assumption | omega | exact jx_bz _ | exact jx_z0 | exact jx_z1 | (refine jx_ixB ?_ ?_; omega; omega) | (simp (disch := first | omega | fail) only [jx_lit, pk_mul, nI_add, nI_pred, pk_sub, jx_na, jx_add0, Nat.reduceMul, Nat.reduceAdd, Nat.reduceSub, Nat.reduceEqDiff, Nat.reduceLeDiff, Nat.reduceLT, hnL, jx_one, Nat.le_refl]; refine jx_ixC ?_ ?_; omega; omega) | (simp (disch := first | omega | fail) only [jx_lit, pk_mul, nI_add, nI_pred, pk_sub, jx_na, jx_add0, Nat.reduceMul, Nat.reduceAdd, Nat.reduceSub, Nat.reduceEqDiff, Nat.reduceLeDiff, Nat.reduceLT, jx_cl, nI_leI, Nat.zero_le, true_and, hnL, jx_one, Nat.le_refl]; omega) | fail) only [jb_202_0, jb_202_5, jb_202_8, jb_202_11, jb_202_17, jb_202_20, jb_202_23, jb_202_28, jb_202_49, jb_202_54, jb_202_62, jb_202_69, jb_202_80, jb_202_83, jb_202_91, jb_202_97, jb_202_101, jb_202_106, jb_202_108, jx_nl, jx_nlr, jx_thenS, jx_tlS, jx_tlN, jm_ite_go, jx_rds, jx_rdn, jx_lit, pk_mul, nI_add, nI_pred, pk_sub, jx_na, jx_add0, Nat.reduceMul, Nat.reduceAdd, Nat.reduceSub, Nat.reduceEqDiff, Nat.reduceLeDiff, Nat.reduceLT, Nat.not_lt_zero, jx_cl, nI_leI, nI_ltI, nI_eq, jx_neg, jx_neg', jx_negE, jx_negL, jx_negG, jx_negLE, jx_negN, sb_nlt, sb_nle, jx_b0, jx_b1, jx_bT, jx_bF, ite_true, ite_false, if_true, if_false, reduceIte, Bool.false_eq_true, Bool.true_eq_false, eq_self, Nat.one_ne_zero, Nat.add_sub_cancel, not_true_eq_false, not_false_eq_true, hnL, jx_one, Nat.le_refl]
      · refine ⟨.int (nI (jx_cnt W 12)), J, ⟨by simp (disch := first | assumption | omega | exact jx_bz _ | exact jx_z0 | exact jx_z1 | (refine jx_ixB ?_ ?_; omega; omega) | (simp (disch := first | omega | fail) only [jx_lit, pk_mul, nI_add, nI_pred, pk_sub, jx_na, jx_add0, Nat.reduceMul, Nat.reduceAdd, Nat.reduceSub, Nat.reduceEqDiff, Nat.reduceLeDiff, Nat.reduceLT, e, c1, k235]; refine jx_ixC ?_ ?_; omega; omega) | (simp (disch := first | omega | fail) only [jx_lit, pk_mul, nI_add, nI_pred, pk_sub, jx_na, jx_add0, Nat.reduceMul, Nat.reduceAdd, Nat.reduceSub, Nat.reduceEqDiff, Nat.reduceLeDiff, Nat.reduceLT, jx_cl, nI_leI, Nat.zero_le, true_and, e, c1, k235]; omega) | fail) only [je_98, jb_98_0, jb_98_5, jb_98_5_1, jb_98_10, jb_98_13, jb_98_17, jb_98_22, jb_98_25, jb_98_30, jb_98_36, jb_98_41, jb_98_46, jx_nl, jx_nlr, jx_thenS, jx_tlS, jx_tlN, jm_ite_go, jx_rds, jx_rdn, jx_lit, pk_mul, nI_add, nI_pred, pk_sub, jx_na, jx_add0, Nat.reduceMul, Nat.reduceAdd, Nat.reduceSub, Nat.reduceEqDiff, Nat.reduceLeDiff, Nat.reduceLT, Nat.not_lt_zero, jx_cl, nI_leI, nI_ltI, nI_eq, jx_neg, jx_neg', jx_negE, jx_negL, jx_negG, jx_negLE, jx_negN, sb_nlt, sb_nle, jx_b0, jx_b1, jx_bT, jx_bF, ite_true, ite_false, if_true, if_false, reduceIte, Bool.false_eq_true, Bool.true_eq_false, eq_self, Nat.one_ne_zero, Nat.add_sub_cancel, not_true_eq_false, not_false_eq_true, e, c1, k235], gJ⟩, L, ?_, jG_Km (jG_tr c4 c6)⟩
        simp (disch := first | assumption | omega | exact jx_bz _ | exact jx_z0 | exact jx_z1 | (refine jx_ixB ?_ ?_; omega; omega) | (simp (disch := first | omega | fail) only [jx_lit, pk_mul, nI_add, nI_pred, pk_sub, jx_na, jx_add0, Nat.reduceMul, Nat.reduceAdd, Nat.reduceSub, Nat.reduceEqDiff, Nat.reduceLeDiff, Nat.reduceLT, e2, k143, c3]; refine jx_ixC ?_ ?_; omega; omega) | (simp (disch := first | omega | fail) only [jx_lit, pk_mul, nI_add, nI_pred, pk_sub, jx_na, jx_add0, Nat.reduceMul, Nat.reduceAdd, Nat.reduceSub, Nat.reduceEqDiff, Nat.reduceLeDiff, Nat.reduceLT, jx_cl, nI_leI, Nat.zero_le, true_and, e2, k143, c3]; omega) | fail) only [je_202, jb_202_0, jb_202_5, jb_202_8, jb_202_11, jb_202_17, jb_202_20, jb_202_23, jb_202_28, jb_202_49, jb_202_54, jb_202_62, jb_202_69, jb_202_80, jb_202_83, jb_202_91, jb_202_97, jb_202_101, jb_202_106, jb_202_108, jx_nl, jx_nlr, jx_thenS, jx_tlS, jx_tlN, jm_ite_go, jx_rds, jx_rdn, jx_lit, pk_mul, nI_add, nI_pred, pk_sub, jx_na, jx_add0, Nat.reduceMul, Nat.reduceAdd, Nat.reduceSub, Nat.reduceEqDiff, Nat.reduceLeDiff, Nat.reduceLT, Nat.not_lt_zero, jx_cl, nI_leI, nI_ltI, nI_eq, jx_neg, jx_neg', jx_negE, jx_negL, jx_negG, jx_negLE, jx_negN, sb_nlt, sb_nle, jx_b0, jx_b1, jx_bT, jx_bF, ite_true, ite_false, if_true, if_false, reduceIte, Bool.false_eq_true, Bool.true_eq_false, eq_self, Nat.one_ne_zero, Nat.add_sub_cancel, not_true_eq_false, not_false_eq_true, e2, k143, c3]
        refine Eq.trans c5 ?_
        rw [jb_202_38]
        simp (disch := first | assumption | omega | exact jx_bz _ | exact jx_z0 | exact jx_z1 | (refine jx_ixB ?_ ?_; omega; omega) | (simp (disch := first | omega | fail) only [jx_lit, pk_mul, nI_add, nI_pred, pk_sub, jx_na, jx_add0, Nat.reduceMul, Nat.reduceAdd, Nat.reduceSub, Nat.reduceEqDiff, Nat.reduceLeDiff, Nat.reduceLT, hnL, jx_one, Nat.le_refl]; refine jx_ixC ?_ ?_; omega; omega) | (simp (disch := first | omega | fail) only [jx_lit, pk_mul, nI_add, nI_pred, pk_sub, jx_na, jx_add0, Nat.reduceMul, Nat.reduceAdd, Nat.reduceSub, Nat.reduceEqDiff, Nat.reduceLeDiff, Nat.reduceLT, jx_cl, nI_leI, Nat.zero_le, true_and, hnL, jx_one, Nat.le_refl]; omega) | fail) only [jb_202_0, jb_202_5, jb_202_8, jb_202_11, jb_202_17, jb_202_20, jb_202_23, jb_202_28, jb_202_49, jb_202_54, jb_202_62, jb_202_69, jb_202_80, jb_202_83, jb_202_91, jb_202_97, jb_202_101, jb_202_106, jb_202_108, jx_nl, jx_nlr, jx_thenS, jx_tlS, jx_tlN, jm_ite_go, jx_rds, jx_rdn, jx_lit, pk_mul, nI_add, nI_pred, pk_sub, jx_na, jx_add0, Nat.reduceMul, Nat.reduceAdd, Nat.reduceSub, Nat.reduceEqDiff, Nat.reduceLeDiff, Nat.reduceLT, Nat.not_lt_zero, jx_cl, nI_leI, nI_ltI, nI_eq, jx_neg, jx_neg', jx_negE, jx_negL, jx_negG, jx_negLE, jx_negN, sb_nlt, sb_nle, jx_b0, jx_b1, jx_bT, jx_bF, ite_true, ite_false, if_true, if_false, reduceIte, Bool.false_eq_true, Bool.true_eq_false, eq_self, Nat.one_ne_zero, Nat.add_sub_cancel, not_true_eq_false, not_false_eq_true, hnL, jx_one, Nat.le_refl]
