/-! WALK -/
def js_we (f g : Nat → Bool) : Nat → Nat × Int32
  | 0 => (0, -nI 1)
  | k + 1 => if f k = true then ((js_we f g k).1 + 1, if (js_we f g k).2 = -nI 1 then (if g k = true then nI ((js_we f g k).1 + 1) else (js_we f g k).2) else (js_we f g k).2) else js_we f g k
theorem js_we_F {f g : Nat → Bool} {k : Nat} (h : f k = false) : js_we f g (k + 1) = js_we f g k := by rw [js_we, h]; rfl
theorem js_we_1 {f g : Nat → Bool} {k : Nat} (h : f k = true) (h8 : (js_we f g k).2 = -nI 1) (hg : g k = true) : js_we f g (k + 1) = ((js_we f g k).1 + 1, nI ((js_we f g k).1 + 1)) := by rw [js_we, if_pos h, if_pos h8, if_pos hg]
theorem js_we_2 {f g : Nat → Bool} {k : Nat} (h : f k = true) (h8 : ¬ (js_we f g k).2 = -nI 1) : js_we f g (k + 1) = ((js_we f g k).1 + 1, (js_we f g k).2) := by rw [js_we, if_pos h, if_neg h8]
theorem js_we_3 {f g : Nat → Bool} {k : Nat} (h : f k = true) (hg : g k = false) : js_we f g (k + 1) = ((js_we f g k).1 + 1, (js_we f g k).2) := by
  rw [js_we, if_pos h, hg]
  by_cases h8 : (js_we f g k).2 = -nI 1
  · rw [if_pos h8]; rfl
  · rw [if_neg h8]
theorem js_we_le {f g : Nat → Bool} : ∀ k, (js_we f g k).1 ≤ k := by
  intro k
  induction k with
  | zero => exact Nat.le_refl _
  | succ k ih => rw [js_we]; split
                 · exact Nat.succ_le_succ ih
                 · omega
def js_wf1 (w : jW) (kd : Nat) (P : Nat → Int32) (dd : Nat → Nat) (k : Nat) : Bool := js_may w kd (js_wk w kd P dd k) (dd k)
def js_wf2 (w : jW) (kd : Nat) (P : Nat → Int32) (dd : Nat → Nat) (k : Nat) : Bool := decide (js_wk w kd P dd k 4 = nI (dd k))
def js_wev (w : jW) (kd : Nat) (P : Nat → Int32) (dd : Nat → Nat) : Nat → Nat × Int32 := js_we (js_wf1 w kd P dd) (js_wf2 w kd P dd)
theorem js_try_4 {w : jW} {kd k : Nat} {P : Nat → Int32} : js_try w kd P k 4 = P 4 := by
  unfold js_try
  split
  · unfold js_new; simp
  · rfl
theorem jf_211 {d p kd s z : Nat} {I : Nat → Nat → Int32} {rho : Nat → Option Nat} {mu : List (Nat × Nat)} {w : jW} {P : Nat → Int32} {dd : Nat → Nat} (hw : jMt I w) (hp : p < 6) (hkd : kd < 6) (hQ : jQ I p kd P) (hv : jPv (jwn w) P) (hs : s < 4) (hz : I 70 s = nI z) (h40 : z ≤ 40) (hd : ∀ k, k < z → I 71 (40 * s + k) = nI (dd k) ∧ dd k < jwn w) :
    ∃ J, jm_ev (d + 7) 211 [.ref 57, .int (nI s), .int (nI p)] (jm_hp I rho mu) = some (none, jm_hp J rho mu) ∧ jG (jS_q p) I J ∧ jQ J p kd (js_wk w kd P dd z) ∧ J 57 36 = nI (js_wev w kd P dd z).1 ∧ J 57 37 = (js_wev w kd P dd z).2 := by
  have hn12 := hw.1.2.1
  have hH := jU_H hw.1
  obtain ⟨I2, hI2⟩ : ∃ I2, I2 = jm_up (jm_up I 57 36 (nI 0)) 57 37 (-nI 1) := ⟨_, rfl⟩
  have g2 : jG (jS_q p) I I2 := by rw [hI2]; exact jG_up (jG_up jG_rf (jS_qY (by omega))) (jS_qY (by omega))
  have c36 : I2 57 36 = nI 0 := by rw [hI2, jx_rdn (by omega), jx_rds]
  have c37 : I2 57 37 = -nI 1 := by rw [hI2, jx_rds]
  have o60 : ∀ a, a ≠ 57 → I2 a = I a := fun a h => by rw [hI2]; funext c; rw [jx_rdn (fun q => h q.1), jx_rdn (fun q => h q.1)]
  have e0 : jm_ev (d + 7) 211 [.ref 57, .int (nI s), .int (nI p)] (jm_hp I rho mu) = jm_go (jm_ev (d + 6)) 211 (12, [some (.ref 57), some (.int (nI s)), some (.int (nI p)), some (.int (nI 0))], [], jm_hp I2 rho mu) := by
    rw [hI2]; simp (disch := first | assumption | omega | exact jx_bz _ | exact jx_z0 | exact jx_z1 | (refine jx_ixB ?_ ?_; omega; omega) | (simp (disch := first | omega | fail) only [jx_lit, pk_mul, nI_add, nI_pred, pk_sub, jx_na, jx_add0, Nat.reduceMul, Nat.reduceAdd, Nat.reduceSub, Nat.reduceEqDiff, Nat.reduceLeDiff, Nat.reduceLT]; refine jx_ixC ?_ ?_; omega; omega) | (simp (disch := first | omega | fail) only [jx_lit, pk_mul, nI_add, nI_pred, pk_sub, jx_na, jx_add0, Nat.reduceMul, Nat.reduceAdd, Nat.reduceSub, Nat.reduceEqDiff, Nat.reduceLeDiff, Nat.reduceLT, jx_cl, nI_leI, Nat.zero_le, true_and]; omega) | fail) only [je_211, jb_211_0, jb_211_22, jb_211_41, jb_211_44, jb_211_50, jx_nl, jx_nlr, jx_thenS, jx_tlS, jx_tlN, jm_ite_go, jx_rds, jx_rdn, jx_lit, pk_mul, nI_add, nI_pred, pk_sub, jx_na, jx_add0, Nat.reduceMul, Nat.reduceAdd, Nat.reduceSub, Nat.reduceEqDiff, Nat.reduceLeDiff, Nat.reduceLT, Nat.not_lt_zero, jx_cl, nI_leI, nI_ltI, nI_eq, jx_neg, jx_neg', jx_negE, jx_negL, jx_negG, jx_negLE, jx_negN, sb_nlt, sb_nle, jx_b0, jx_b1, jx_bT, jx_bF, ite_true, ite_false, if_true, if_false, reduceIte, Bool.false_eq_true, Bool.true_eq_false, eq_self, Nat.one_ne_zero, Nat.add_sub_cancel, not_true_eq_false, not_false_eq_true]
  have hQ2 : jQ I2 p kd P := by unfold jQ; rw [o60 58 (by omega), o60 59 (by omega), o60 60 (by omega)]; exact hQ
  have keep : ∀ J, jG (jS_q p) I J → ∀ a, 69 ≤ a → a < 72 → J a = I a := fun J g a h1 h2 => jG_o g fun k => jS_qZ (by omega)
  obtain ⟨J, e, g, r1, r2, r3⟩ := jx_for (E := jm_ev (d + 6)) (y := 211) z (fun k J => (12, [some (.ref 57), some (.int (nI s)), some (.int (nI p)), some (.int (nI k))], [], jm_hp J rho mu)) (fun k J => jG (jS_q p) I J ∧ jQ J p kd (js_wk w kd P dd k) ∧ J 57 36 = nI (js_wev w kd P dd k).1 ∧ J 57 37 = (js_wev w kd P dd k).2) (fun k J hk hZ => by
    obtain ⟨g, hQJ, h36, h37⟩ := hZ
    obtain ⟨hd1, hdk⟩ := hd k hk
    have h70 : J 70 s = nI z := by rw [keep J g _ (by omega) (by omega)]; exact hz
    have h71 : J 71 (40 * s + k) = nI (dd k) := by rw [keep J g _ (by omega) (by omega)]; exact hd1
    have k144 : jm_ev (d + 6) 144 [.int (nI (dd k)), .int (nI 0), .int (nI 11)] (jm_hp J rho mu) = some (some (.int (nI (dd k))), jm_hp J rho mu) := by
      rw [@jf_144 (d + 5), js_bd_id (by omega) (by omega)]
    have hvk := js_wk_v (z := z) hv hH (fun k hk => (hd k hk).2) (kd := kd) k (by omega)
    obtain ⟨K, e, hQK, g3, k36, k37⟩ := jf_210 (d := d) (rho := rho) (mu := mu) (jMt_q hw g) hp hdk hkd hQJ hvk
    rw [h36] at k36 k37
    rw [h37] at k37
    have zn : ¬ z ≤ k := by omega
    have zi : 40 * s + k < 160 := by omega
    refine ⟨K, ?_, jG_tr g g3, hQK, ?_, ?_⟩
    · rw [jb_211_12 (jx_ixB hs (by omega)), jx_cl (by omega), h70]
      simp (disch := first | assumption | omega | exact jx_bz _ | exact jx_z0 | exact jx_z1 | (refine jx_ixB ?_ ?_; omega; omega) | (simp (disch := first | omega | fail) only [jx_lit, pk_mul, nI_add, nI_pred, pk_sub, jx_na, jx_add0, Nat.reduceMul, Nat.reduceAdd, Nat.reduceSub, Nat.reduceEqDiff, Nat.reduceLeDiff, Nat.reduceLT, zn, h71, k144, e]; refine jx_ixC ?_ ?_; omega; omega) | (simp (disch := first | omega | fail) only [jx_lit, pk_mul, nI_add, nI_pred, pk_sub, jx_na, jx_add0, Nat.reduceMul, Nat.reduceAdd, Nat.reduceSub, Nat.reduceEqDiff, Nat.reduceLeDiff, Nat.reduceLT, jx_cl, nI_leI, Nat.zero_le, true_and, zn, h71, k144, e]; omega) | fail) only [jb_211_0, jb_211_22, jb_211_41, jb_211_44, jb_211_50, jx_nl, jx_nlr, jx_thenS, jx_tlS, jx_tlN, jm_ite_go, jx_rds, jx_rdn, jx_lit, pk_mul, nI_add, nI_pred, pk_sub, jx_na, jx_add0, Nat.reduceMul, Nat.reduceAdd, Nat.reduceSub, Nat.reduceEqDiff, Nat.reduceLeDiff, Nat.reduceLT, Nat.not_lt_zero, jx_cl, nI_leI, nI_ltI, nI_eq, jx_neg, jx_neg', jx_negE, jx_negL, jx_negG, jx_negLE, jx_negN, sb_nlt, sb_nle, jx_b0, jx_b1, jx_bT, jx_bF, ite_true, ite_false, if_true, if_false, reduceIte, Bool.false_eq_true, Bool.true_eq_false, eq_self, Nat.one_ne_zero, Nat.add_sub_cancel, not_true_eq_false, not_false_eq_true, zn, h71, k144, e]
    · rw [k36]
      unfold js_wev
      rcases Bool.eq_false_or_eq_true (js_wf1 w kd P dd k) with zf | zf
      · have zf2 : js_may w kd (js_wk w kd P dd k) (dd k) = true := zf
        rw [if_pos zf2, js_we, if_pos zf, nI_add]
      · have zf2 : ¬ js_may w kd (js_wk w kd P dd k) (dd k) = true := by rw [show js_may w kd (js_wk w kd P dd k) (dd k) = false from zf]; decide
        rw [if_neg zf2, js_we_F zf]
    · rw [k37]
      unfold js_wev
      rcases Bool.eq_false_or_eq_true (js_wf1 w kd P dd k) with zf | zf
      · have zf2 : js_may w kd (js_wk w kd P dd k) (dd k) = true := zf
        rw [if_pos zf2]
        by_cases h8 : (js_we (js_wf1 w kd P dd) (js_wf2 w kd P dd) k).2 = -nI 1
        · rw [if_pos h8]
          by_cases h4 : js_wk w kd P dd k 4 = nI (dd k)
          · rw [if_pos h4, js_we_1 zf h8 (decide_eq_true h4), nI_add]
          · rw [if_neg h4, js_we_3 zf (decide_eq_false h4)]
        · rw [if_neg h8, js_we_2 zf h8]
      · have zf2 : ¬ js_may w kd (js_wk w kd P dd k) (dd k) = true := by rw [show js_may w kd (js_wk w kd P dd k) (dd k) = false from zf]; decide
        rw [if_neg zf2, js_we_F zf]) z 0 I2 (Nat.zero_add _) ⟨g2, hQ2, c36, c37⟩
  refine ⟨J, ?_, g, r1, r2, r3⟩
  have h70 : J 70 s = nI z := by rw [keep J g _ (by omega) (by omega)]; exact hz
  rw [e0, e, jb_211_12 (jx_ixB hs (by omega)), jx_cl (by omega), h70]
  simp (disch := first | assumption | omega | exact jx_bz _ | exact jx_z0 | exact jx_z1 | (refine jx_ixB ?_ ?_; omega; omega) | (simp (disch := first | omega | fail) only [jx_lit, pk_mul, nI_add, nI_pred, pk_sub, jx_na, jx_add0, Nat.reduceMul, Nat.reduceAdd, Nat.reduceSub, Nat.reduceEqDiff, Nat.reduceLeDiff, Nat.reduceLT, Nat.le_refl]; refine jx_ixC ?_ ?_; omega; omega) | (simp (disch := first | omega | fail) only [jx_lit, pk_mul, nI_add, nI_pred, pk_sub, jx_na, jx_add0, Nat.reduceMul, Nat.reduceAdd, Nat.reduceSub, Nat.reduceEqDiff, Nat.reduceLeDiff, Nat.reduceLT, jx_cl, nI_leI, Nat.zero_le, true_and, Nat.le_refl]; omega) | fail) only [jb_211_0, jb_211_22, jb_211_41, jb_211_44, jb_211_50, jx_nl, jx_nlr, jx_thenS, jx_tlS, jx_tlN, jm_ite_go, jx_rds, jx_rdn, jx_lit, pk_mul, nI_add, nI_pred, pk_sub, jx_na, jx_add0, Nat.reduceMul, Nat.reduceAdd, Nat.reduceSub, Nat.reduceEqDiff, Nat.reduceLeDiff, Nat.reduceLT, Nat.not_lt_zero, jx_cl, nI_leI, nI_ltI, nI_eq, jx_neg, jx_neg', jx_negE, jx_negL, jx_negG, jx_negLE, jx_negN, sb_nlt, sb_nle, jx_b0, jx_b1, jx_bT, jx_bF, ite_true, ite_false, if_true, if_false, reduceIte, Bool.false_eq_true, Bool.true_eq_false, eq_self, Nat.one_ne_zero, Nat.add_sub_cancel, not_true_eq_false, not_false_eq_true, Nat.le_refl]
