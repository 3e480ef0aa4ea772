/-! THE WORDS of a text -/
def jz_WW : List (List Nat) := [[103, 97, 105, 110, 115], [100, 97, 114, 101, 115], [108, 101, 97, 118, 101, 115], [108, 117, 99, 107], [100, 111, 111, 114], [104, 111, 117, 115, 101], [100, 97, 121], [111, 112, 101, 110, 101, 100], [109, 111, 114, 101], [111, 114], [97, 110, 100], [110, 111, 116]]
def jz_W (k : Nat) : List Nat := jz_WW.getD k []
/-- whether a word stands from r to e -/
def jz_wm (b : Nat → Nat) (r e k : Nat) : Bool := decide (e - r = (jz_W k).length) && decide (∀ i, i < (jz_W k).length → (jz_W k).getD i 0 = b (r + i))
theorem jz_wm_len {b : Nat → Nat} {r e k : Nat} (h : ¬ e - r = (jz_W k).length) : jz_wm b r e k = false := by
  unfold jz_wm; rw [decide_eq_false h]; rfl
theorem jz_wm_ne {b : Nat → Nat} {r e k i : Nat} (h : i < (jz_W k).length) (hn : ¬ (jz_W k).getD i 0 = b (r + i)) : jz_wm b r e k = false := by
  unfold jz_wm; rw [Bool.and_eq_false_iff]; exact .inr (decide_eq_false fun q => hn (q i h))
theorem jz_wm_T {b : Nat → Nat} {r e k : Nat} (h : e - r = (jz_W k).length) (hn : ∀ i, i < (jz_W k).length → (jz_W k).getD i 0 = b (r + i)) : jz_wm b r e k = true := by
  unfold jz_wm; rw [decide_eq_true h, decide_eq_true hn]; rfl
theorem jz_wm_D {b : Nat → Nat} {r e k : Nat} (h : jz_wm b r e k = true) : e - r = (jz_W k).length ∧ ∀ i, i < (jz_W k).length → (jz_W k).getD i 0 = b (r + i) := by
  unfold jz_wm at h
  rw [Bool.and_eq_true] at h
  exact ⟨of_decide_eq_true h.1, of_decide_eq_true h.2⟩
theorem jz_Wne : ∀ j, j < 12 → ∀ k, k < 12 → j ≠ k → (jz_W j).length = (jz_W k).length → ∃ i, i < (jz_W k).length ∧ (jz_W j).getD i 0 ≠ (jz_W k).getD i 0 := by
  have h : ∀ j, j < 12 → ∀ k, k < 12 → j ≠ k → (jz_W j).length = (jz_W k).length → (List.range 8).any (fun i => decide (i < (jz_W k).length) && decide ((jz_W j).getD i 0 ≠ (jz_W k).getD i 0)) = true := by decide
  intro j hj k hk hn hl
  obtain ⟨i, -, hi⟩ := List.any_eq_true.mp (h j hj k hk hn hl)
  rw [Bool.and_eq_true] at hi
  exact ⟨i, of_decide_eq_true hi.1, of_decide_eq_true hi.2⟩
theorem jz_wm_one {b : Nat → Nat} {r e j k : Nat} (hj : j < 12) (hk : k < 12) (h : jz_wm b r e j = true) (h2 : jz_wm b r e k = true) : j = k := by
  apply Classical.byContradiction
  intro hn
  obtain ⟨l1, c1⟩ := jz_wm_D h
  obtain ⟨l2, c2⟩ := jz_wm_D h2
  obtain ⟨i, hi, hne⟩ := jz_Wne j hj k hk hn (by omega)
  exact hne ((c1 i (by omega)).trans (c2 i hi).symm)
def jz_w (b : Nat → Nat) (r e : Nat) : Nat := if jz_wm b r e 0 = true then 0 else if jz_wm b r e 1 = true then 1 else if jz_wm b r e 2 = true then 2 else if jz_wm b r e 3 = true then 3 else if jz_wm b r e 4 = true then 4 else if jz_wm b r e 5 = true then 5 else if jz_wm b r e 6 = true then 6 else if jz_wm b r e 7 = true then 7 else if jz_wm b r e 8 = true then 8 else if jz_wm b r e 9 = true then 9 else if jz_wm b r e 10 = true then 10 else if jz_wm b r e 11 = true then 11 else 12
theorem jz_w_at {b : Nat → Nat} {r e k : Nat} (hk : k < 12) (h : jz_wm b r e k = true) : jz_w b r e = k := by
  have hz : ∀ j, j < 12 → j ≠ k → jz_wm b r e j = false := fun j hj hn => by
    cases q : jz_wm b r e j with
    | false => rfl
    | true => exact absurd (jz_wm_one hj hk q h) hn
  unfold jz_w
  rcases (show k = 0 ∨ k = 1 ∨ k = 2 ∨ k = 3 ∨ k = 4 ∨ k = 5 ∨ k = 6 ∨ k = 7 ∨ k = 8 ∨ k = 9 ∨ k = 10 ∨ k = 11 by omega) with z | z | z | z | z | z | z | z | z | z | z | z <;> subst z <;> simp [h, hz]
theorem jz_w_no {b : Nat → Nat} {r e : Nat} (h : ∀ j, j < 12 → jz_wm b r e j = false) : jz_w b r e = 12 := by
  unfold jz_w
  simp [h]
theorem jz_w_cases (b : Nat → Nat) (r e : Nat) : (∃ k, k < 12 ∧ jz_w b r e = k ∧ ∀ j, j < 12 → jz_wm b r e j = decide (j = k)) ∨ (jz_w b r e = 12 ∧ ∀ j, j < 12 → jz_wm b r e j = false) := by
  rcases jx_least (jz_wm b r e) 12 with ⟨k, hk, h1, -⟩ | h
  · refine .inl ⟨k, hk, jz_w_at hk h1, fun j hj => ?_⟩
    by_cases q : j = k
    · rw [q, h1, decide_eq_true rfl]
    · rw [decide_eq_false q]
      cases z : jz_wm b r e j with
      | false => rfl
      | true => exact absurd (jz_wm_one hj hk z h1) q
  · exact .inr ⟨jz_w_no h, h⟩
theorem je_244z {d : Nat} {x y : Int32} {h : jm_H} : jm_ev (d + 1) 244 [.int x, .int y, .retAddr 0] h = jm_go (jm_ev d) 244 (0, [some (.int x), some (.int y), some (.retAddr 0)], [], h) := if_pos (Nat.le_of_ble_eq_true rfl)
theorem jf_244 {d : Nat} {x y : Int32} {h : jm_H} (h1 : ¬ x < 0) (h2 : x < y) : jm_ev (d + 1) 244 [.int x, .int y, .retAddr 0] h = some (some (.int x), h) :=
  je_244z.trans ((jm_go_steps (c2 := (if x < 0 then 9 else 4, [some (.int x), some (.int y), some (.retAddr 0)], [], h)) 2 rfl).trans (jm_ite_go.trans ((if_neg h1).trans ((jm_go_steps (c2 := (if x < y then 16 else 9, [some (.int x), some (.int y), some (.retAddr 0)], [], h)) 3 rfl).trans (jm_ite_go.trans ((if_pos h2).trans ((jm_go_steps (c2 := (17, [some (.int x), some (.int y), some (.retAddr 0)], [.int x], h)) 1 rfl).trans (jm_go_ret (v := some (.int x)) rfl))))))))
theorem jf_242 {d : Nat} {x y : Int32} {h : jm_H} (h1 : ¬ x < 0) (h2 : x < y) : jm_ev (d + 2) 242 [.int x, .int y] h = some (none, h) := by
  refine je_242.trans ((jm_go_steps (c2 := (5, [some (.int x), some (.int y)], [.retAddr 0, .int y, .int x], h)) 3 rfl).trans ((jm_go_call (q := (244, [.int x, .int y, .retAddr 0], [])) rfl).trans ?_))
  rw [jf_244 h1 h2]
  exact (jm_go_steps (c2 := (9, [some (.int x), some (.int y)], [], h)) 1 rfl).trans (jm_go_ret (v := none) rfl)
theorem jf_26 {d s k : Nat} {I : Nat → Nat → Int32} {rho : Nat → Option Nat} {mu : List (Nat × Nat)} (hs : I 30 1 = nI s) (hs2 : s ≤ 160) (hk : k < s) : jm_ev (d + 1) 26 [.ref 30, .int (nI k)] (jm_hp I rho mu) = some (some (.int (I 31 k)), jm_hp I rho mu) := by
  have z0 : ¬ k < 0 := by omega
  have z1 : ¬ s ≤ k := by omega
  have z2 : ¬ 160 ≤ k := by omega
  simp (disch := first | assumption | omega | exact jx_bz _ | exact jx_z0 | exact jx_z1 | (refine jx_ixB ?_ ?_; omega; omega) | (simp (disch := first | omega | fail) only [jx_lit, pk_mul, nI_add, nI_pred, pk_sub, jx_na, jx_add0, Nat.reduceMul, Nat.reduceAdd, Nat.reduceSub, Nat.reduceEqDiff, Nat.reduceLeDiff, Nat.reduceLT, hs, z0, z1, z2]; refine jx_ixC ?_ ?_; omega; omega) | (simp (disch := first | omega | fail) only [jx_lit, pk_mul, nI_add, nI_pred, pk_sub, jx_na, jx_add0, Nat.reduceMul, Nat.reduceAdd, Nat.reduceSub, Nat.reduceEqDiff, Nat.reduceLeDiff, Nat.reduceLT, jx_cl, nI_leI, Nat.zero_le, true_and, hs, z0, z1, z2]; omega) | fail) only [je_26, jb_26_0, jb_26_4, jb_26_12, jb_26_21, jb_26_30, jb_26_31, jx_nl, jx_nlr, jx_thenS, jx_tlS, jx_tlN, jm_ite_go, jx_rds, jx_rdn, jx_lit, pk_mul, nI_add, nI_pred, pk_sub, jx_na, jx_add0, Nat.reduceMul, Nat.reduceAdd, Nat.reduceSub, Nat.reduceEqDiff, Nat.reduceLeDiff, Nat.reduceLT, Nat.not_lt_zero, jx_cl, nI_leI, nI_ltI, nI_eq, jx_neg, jx_neg', jx_negE, jx_negL, jx_negG, jx_negLE, jx_negN, sb_nlt, sb_nle, jx_b0, jx_b1, jx_bT, jx_bF, ite_true, ite_false, if_true, if_false, reduceIte, Bool.false_eq_true, Bool.true_eq_false, eq_self, Nat.one_ne_zero, Nat.add_sub_cancel, not_true_eq_false, not_false_eq_true, hs, z0, z1, z2]
/-! gains -/
theorem jf_240_0 {d : Nat} {h : jm_H} : jm_ev (d + 1) 240 [.ref 1000001] h = some (some (.int 0), h) :=
  je_240.trans ((jm_go_steps (c2 := (14, [some (.ref 1000001)], [.int 0], h)) 5 rfl).trans (jm_go_ret (v := some (.int 0)) rfl))
theorem jf_241_0 {d : Nat} {h : jm_H} : jm_ev (d + 1) 241 [.ref 1000001] h = some (some (.int 1), h) :=
  je_241.trans ((jm_go_steps (c2 := (18, [some (.ref 1000001)], [.int 1], h)) 7 rfl).trans (jm_go_ret (v := some (.int 1)) rfl))
theorem jf_238_0 {d : Nat} {h : jm_H} : jm_ev (d + 2) 238 [.ref 1000001] h = some (some (.int (nI 5)), h) := by
  refine je_238.trans ((jm_go_steps (c2 := (6, [some (.ref 1000001)], [.ref 1000001, .int (Int32.ofNat 5)], h)) 4 rfl).trans ((jm_go_call (q := (240, [.ref 1000001], [.int (Int32.ofNat 5)])) rfl).trans ?_))
  rw [jf_240_0]
  refine ((jm_go_steps (c2 := (10, [some (.ref 1000001)], [.int (Int32.ofNat 5 >>> ((0 : Int32) &&& 31))], h)) 1 rfl).trans (jm_go_ret (v := some (.int (Int32.ofNat 5 >>> ((0 : Int32) &&& 31)))) rfl)).trans ?_
  rw [show Int32.ofNat 5 >>> ((0 : Int32) &&& 31) = nI 5 by decide]
theorem jf_243_0 {d i : Nat} {h : jm_H} (hi : i < 5) : jm_ev (d + 3) 243 [.ref 1000101, .int (nI i)] h = some (some (.int (nI ((jz_W 0).getD i 0))), h) := by
  have h1 : ¬ nI i < 0 := by rw [show (0 : Int32) = nI 0 from rfl, nI_ltI (by omega) (by decide)]; omega
  have h2 : nI i < nI 5 := by rw [nI_ltI (by omega) (by decide)]; exact hi
  have h3 : 0 ≤ nI i ∧ (nI i).toNatClampNeg < 5 := jx_ixB hi (by decide)
  have h4 : (nI i).toNatClampNeg = i := jx_cl (by omega)
  refine je_243.trans ((jm_go_steps (c2 := (3, [some (.ref 1000101), some (.int (nI i))], [.int (nI 5), .int (nI i)], h)) 3 rfl).trans ((jm_go_call (q := (242, [.int (nI i), .int (nI 5)], [])) rfl).trans ?_))
  rw [jf_242 h1 h2]
  refine (jm_go_steps (c2 := (8, [some (.ref 1000101), some (.int (nI i))], [.int (nI i), .ref 1000101], h)) 2 rfl).trans ?_
  refine (jm_go_next (c2 := (9, [some (.ref 1000101), some (.int (nI i))], [.int (([103, 97, 105, 110, 115] : List Int32).getD (nI i).toNatClampNeg 0)], h)) (Eq.trans (b := if jm_STB ≤ 1000101 ∧ 1000101 - jm_STB < jm_sn ∧ 0 ≤ nI i ∧ (nI i).toNatClampNeg < 5 then some (Sum.inl (9, [some (.ref 1000101), some (.int (nI i))], [.int (([103, 97, 105, 110, 115] : List Int32).getD (nI i).toNatClampNeg 0)], h)) else none) rfl (if_pos ⟨by decide, by decide, h3.1, h3.2⟩))).trans ?_
  rw [h4]
  have h5 : ∀ i, i < 5 → 0 ≤ ((([103, 97, 105, 110, 115] : List Int32).getD i 0 &&& 255).toUInt32 % 65536).toInt32 ∧ ((([103, 97, 105, 110, 115] : List Int32).getD i 0 &&& 255).toUInt32 % 65536).toInt32 ≤ 255 ∧ ((([103, 97, 105, 110, 115] : List Int32).getD i 0 &&& 255).toUInt32 % 65536).toInt32 = nI ((jz_W 0).getD i 0) := by decide
  obtain ⟨h6, h7, h8⟩ := h5 i hi
  refine (jm_go_steps (c2 := (14, [some (.ref 1000101), some (.int (nI i))], [.int ((([103, 97, 105, 110, 115] : List Int32).getD i 0 &&& 255).toUInt32 % 65536).toInt32], h)) 3 rfl).trans ?_
  rw [h8] at h6 h7 ⊢
  exact jm_go_ret (v := some (.int (nI ((jz_W 0).getD i 0)))) (Eq.trans (b := if 0 ≤ nI ((jz_W 0).getD i 0) ∧ nI ((jz_W 0).getD i 0) ≤ 255 then some (Sum.inr (Sum.inr (some (.int (nI ((jz_W 0).getD i 0)))))) else none) rfl (if_pos ⟨h6, h7⟩))
theorem jf_239_0 {d i : Nat} {h : jm_H} (hi : i < 5) : jm_ev (d + 4) 239 [.ref 1000001, .int (nI i)] h = some (some (.int (nI ((jz_W 0).getD i 0))), h) := by
  refine je_239.trans ((jm_go_steps (c2 := (1, [some (.ref 1000001), some (.int (nI i))], [.ref 1000001], h)) 1 rfl).trans ((jm_go_call (q := (241, [.ref 1000001], [])) rfl).trans ?_))
  rw [jf_241_0]
  refine (jm_go_steps (c2 := (12, [some (.ref 1000001), some (.int (nI i))], [.int (nI i), .ref 1000101], h)) 4 rfl).trans ((jm_go_call (q := (243, [.ref 1000101, .int (nI i)], [])) rfl).trans ?_)
  rw [jf_243_0 hi]
  have h5 : ∀ i, i < 5 → 0 ≤ nI ((jz_W 0).getD i 0) ∧ nI ((jz_W 0).getD i 0) ≤ 255 := by decide
  exact jm_go_ret (v := some (.int (nI ((jz_W 0).getD i 0)))) (Eq.trans (b := if 0 ≤ nI ((jz_W 0).getD i 0) ∧ nI ((jz_W 0).getD i 0) ≤ 255 then some (Sum.inr (Sum.inr (some (.int (nI ((jz_W 0).getD i 0)))))) else none) rfl (if_pos (h5 i hi)))
theorem jf_40_0 {d s r e : Nat} {b : Nat → Nat} {I : Nat → Nat → Int32} {rho : Nat → Option Nat} {mu : List (Nat × Nat)} (hs : I 30 1 = nI s) (hs2 : s ≤ 160) (hb : ∀ k, k < s → I 31 k = nI (b k)) (hb2 : ∀ k, b k < 256) (he : I 30 2 = nI e) (hr : I 30 4 = nI r) (hre : r ≤ e) (hes : e ≤ s) : jm_ev (d + 5) 40 [.ref 30, .ref 1000001] (jm_hp I rho mu) = some (some (.int (jx_b (jz_wm b r e 0))), jm_hp I rho mu) := by
  have hA : jm_STR ≤ 1000001 ∧ 1000001 - jm_STR < jm_sn := by decide
  have k238 := @jf_238_0 (d + 2) (jm_hp I rho mu)
  have hWl : (jz_W 0).length = 5 := rfl
  have er : nI e - nI r = nI (e - r) := pk_sub hre
  by_cases hl : e - r = 5
  · have e0 : jm_ev (d + 5) 40 [.ref 30, .ref 1000001] (jm_hp I rho mu) = jm_go (jm_ev (d + 4)) 40 (20, [some (.ref 30), some (.ref 1000001), some (.int (nI 0))], [], jm_hp I rho mu) := by
      simp (disch := first | assumption | omega | exact jx_bz _ | exact jx_z0 | exact jx_z1 | (refine jx_ixB ?_ ?_; omega; omega) | (simp (disch := first | omega | fail) only [jx_lit, pk_mul, nI_add, nI_pred, pk_sub, jx_na, jx_add0, Nat.reduceMul, Nat.reduceAdd, Nat.reduceSub, Nat.reduceEqDiff, Nat.reduceLeDiff, Nat.reduceLT, k238, he, hr, er, hl]; refine jx_ixC ?_ ?_; omega; omega) | (simp (disch := first | omega | fail) only [jx_lit, pk_mul, nI_add, nI_pred, pk_sub, jx_na, jx_add0, Nat.reduceMul, Nat.reduceAdd, Nat.reduceSub, Nat.reduceEqDiff, Nat.reduceLeDiff, Nat.reduceLT, jx_cl, nI_leI, Nat.zero_le, true_and, k238, he, hr, er, hl]; omega) | fail) only [je_40, jb_40_0, jb_40_4, jb_40_16, jb_40_18, jb_40_25, jb_40_28, jb_40_33, jb_40_43, jb_40_46, jb_40_48, jb_40_54, jx_nl, jx_nlr, jx_thenS, jx_tlS, jx_tlN, jm_ite_go, jx_rds, jx_rdn, jx_lit, pk_mul, nI_add, nI_pred, pk_sub, jx_na, jx_add0, Nat.reduceMul, Nat.reduceAdd, Nat.reduceSub, Nat.reduceEqDiff, Nat.reduceLeDiff, Nat.reduceLT, Nat.not_lt_zero, jx_cl, nI_leI, nI_ltI, nI_eq, jx_neg, jx_neg', jx_negE, jx_negL, jx_negG, jx_negLE, jx_negN, sb_nlt, sb_nle, jx_b0, jx_b1, jx_bT, jx_bF, ite_true, ite_false, if_true, if_false, reduceIte, Bool.false_eq_true, Bool.true_eq_false, eq_self, Nat.one_ne_zero, Nat.add_sub_cancel, not_true_eq_false, not_false_eq_true, k238, he, hr, er, hl]
    have st : ∀ i, i < 5 → jm_go (jm_ev (d + 4)) 40 (20, [some (.ref 30), some (.ref 1000001), some (.int (nI i))], [], jm_hp I rho mu) = if (jz_W 0).getD i 0 = b (r + i) then jm_go (jm_ev (d + 4)) 40 (20, [some (.ref 30), some (.ref 1000001), some (.int (nI (i + 1)))], [], jm_hp I rho mu) else some (some (.int (nI 0)), jm_hp I rho mu) := fun i hi => by
      have zn : ¬ 5 ≤ i := by omega
      have k239 := @jf_239_0 d i (jm_hp I rho mu) hi
      have k26 := @jf_26 (d + 3) s (r + i) I rho mu hs hs2 (by omega)
      rw [hb _ (by omega)] at k26
      have hc : (jz_W 0).getD i 0 < 256 := by
        have : ∀ i, i < 5 → (jz_W 0).getD i 0 < 256 := by decide
        exact this i hi
      have hc2 := hb2 (r + i)
      rw [jb_40_20 hA]
      by_cases q : (jz_W 0).getD i 0 = b (r + i)
      · rw [if_pos q]
        rw [q] at k239
        simp (disch := first | assumption | omega | exact jx_bz _ | exact jx_z0 | exact jx_z1 | (refine jx_ixB ?_ ?_; omega; omega) | (simp (disch := first | omega | fail) only [jx_lit, pk_mul, nI_add, nI_pred, pk_sub, jx_na, jx_add0, Nat.reduceMul, Nat.reduceAdd, Nat.reduceSub, Nat.reduceEqDiff, Nat.reduceLeDiff, Nat.reduceLT, k238, zn, k239, hr, k26]; refine jx_ixC ?_ ?_; omega; omega) | (simp (disch := first | omega | fail) only [jx_lit, pk_mul, nI_add, nI_pred, pk_sub, jx_na, jx_add0, Nat.reduceMul, Nat.reduceAdd, Nat.reduceSub, Nat.reduceEqDiff, Nat.reduceLeDiff, Nat.reduceLT, jx_cl, nI_leI, Nat.zero_le, true_and, k238, zn, k239, hr, k26]; omega) | fail) only [jb_40_0, jb_40_4, jb_40_16, jb_40_18, jb_40_25, jb_40_28, jb_40_33, jb_40_43, jb_40_46, jb_40_48, jb_40_54, jx_nl, jx_nlr, jx_thenS, jx_tlS, jx_tlN, jm_ite_go, jx_rds, jx_rdn, jx_lit, pk_mul, nI_add, nI_pred, pk_sub, jx_na, jx_add0, Nat.reduceMul, Nat.reduceAdd, Nat.reduceSub, Nat.reduceEqDiff, Nat.reduceLeDiff, Nat.reduceLT, Nat.not_lt_zero, jx_cl, nI_leI, nI_ltI, nI_eq, jx_neg, jx_neg', jx_negE, jx_negL, jx_negG, jx_negLE, jx_negN, sb_nlt, sb_nle, jx_b0, jx_b1, jx_bT, jx_bF, ite_true, ite_false, if_true, if_false, reduceIte, Bool.false_eq_true, Bool.true_eq_false, eq_self, Nat.one_ne_zero, Nat.add_sub_cancel, not_true_eq_false, not_false_eq_true, k238, zn, k239, hr, k26]
      · rw [if_neg q]
        simp (disch := first | assumption | omega | exact jx_bz _ | exact jx_z0 | exact jx_z1 | (refine jx_ixB ?_ ?_; omega; omega) | (simp (disch := first | omega | fail) only [jx_lit, pk_mul, nI_add, nI_pred, pk_sub, jx_na, jx_add0, Nat.reduceMul, Nat.reduceAdd, Nat.reduceSub, Nat.reduceEqDiff, Nat.reduceLeDiff, Nat.reduceLT, k238, zn, k239, hr, k26, q]; refine jx_ixC ?_ ?_; omega; omega) | (simp (disch := first | omega | fail) only [jx_lit, pk_mul, nI_add, nI_pred, pk_sub, jx_na, jx_add0, Nat.reduceMul, Nat.reduceAdd, Nat.reduceSub, Nat.reduceEqDiff, Nat.reduceLeDiff, Nat.reduceLT, jx_cl, nI_leI, Nat.zero_le, true_and, k238, zn, k239, hr, k26, q]; omega) | fail) only [jb_40_0, jb_40_4, jb_40_16, jb_40_18, jb_40_25, jb_40_28, jb_40_33, jb_40_43, jb_40_46, jb_40_48, jb_40_54, jx_nl, jx_nlr, jx_thenS, jx_tlS, jx_tlN, jm_ite_go, jx_rds, jx_rdn, jx_lit, pk_mul, nI_add, nI_pred, pk_sub, jx_na, jx_add0, Nat.reduceMul, Nat.reduceAdd, Nat.reduceSub, Nat.reduceEqDiff, Nat.reduceLeDiff, Nat.reduceLT, Nat.not_lt_zero, jx_cl, nI_leI, nI_ltI, nI_eq, jx_neg, jx_neg', jx_negE, jx_negL, jx_negG, jx_negLE, jx_negN, sb_nlt, sb_nle, jx_b0, jx_b1, jx_bT, jx_bF, ite_true, ite_false, if_true, if_false, reduceIte, Bool.false_eq_true, Bool.true_eq_false, eq_self, Nat.one_ne_zero, Nat.add_sub_cancel, not_true_eq_false, not_false_eq_true, k238, zn, k239, hr, k26, q]
    rcases jx_least (fun i => !decide ((jz_W 0).getD i 0 = b (r + i))) 5 with ⟨k, hk, h1, h2⟩ | h2
    · have h1 : ¬ (jz_W 0).getD k 0 = b (r + k) := by simpa using h1
      have h2 : ∀ j, j < k → (jz_W 0).getD j 0 = b (r + j) := fun j hj => by simpa using h2 j hj
      rw [jz_wm_ne (i := k) (by rw [hWl]; exact hk) h1]
      have lp := jx_for0 (E := jm_ev (d + 4)) (y := 40) k (fun i => (20, [some (.ref 30), some (.ref 1000001), some (.int (nI i))], [], jm_hp I rho mu)) (fun i hi => by rw [st i (by omega), if_pos (h2 i hi)]) k (Nat.le_refl _)
      rw [e0]
      refine Eq.trans lp ?_
      rw [st k hk, if_neg h1]
      rfl
    · have h2 : ∀ j, j < 5 → (jz_W 0).getD j 0 = b (r + j) := fun j hj => by simpa using h2 j hj
      rw [jz_wm_T (by rw [hWl]; exact hl) fun i hi => h2 i (by rw [hWl] at hi; exact hi)]
      have lp := jx_for0 (E := jm_ev (d + 4)) (y := 40) 5 (fun i => (20, [some (.ref 30), some (.ref 1000001), some (.int (nI i))], [], jm_hp I rho mu)) (fun i hi => by rw [st i (by omega), if_pos (h2 i hi)]) 5 (Nat.le_refl _)
      rw [e0]
      refine Eq.trans lp ?_
      rw [jb_40_20 hA]
      simp (disch := first | assumption | omega | exact jx_bz _ | exact jx_z0 | exact jx_z1 | (refine jx_ixB ?_ ?_; omega; omega) | (simp (disch := first | omega | fail) only [jx_lit, pk_mul, nI_add, nI_pred, pk_sub, jx_na, jx_add0, Nat.reduceMul, Nat.reduceAdd, Nat.reduceSub, Nat.reduceEqDiff, Nat.reduceLeDiff, Nat.reduceLT, k238]; refine jx_ixC ?_ ?_; omega; omega) | (simp (disch := first | omega | fail) only [jx_lit, pk_mul, nI_add, nI_pred, pk_sub, jx_na, jx_add0, Nat.reduceMul, Nat.reduceAdd, Nat.reduceSub, Nat.reduceEqDiff, Nat.reduceLeDiff, Nat.reduceLT, jx_cl, nI_leI, Nat.zero_le, true_and, k238]; omega) | fail) only [jb_40_0, jb_40_4, jb_40_16, jb_40_18, jb_40_25, jb_40_28, jb_40_33, jb_40_43, jb_40_46, jb_40_48, jb_40_54, jx_nl, jx_nlr, jx_thenS, jx_tlS, jx_tlN, jm_ite_go, jx_rds, jx_rdn, jx_lit, pk_mul, nI_add, nI_pred, pk_sub, jx_na, jx_add0, Nat.reduceMul, Nat.reduceAdd, Nat.reduceSub, Nat.reduceEqDiff, Nat.reduceLeDiff, Nat.reduceLT, Nat.not_lt_zero, jx_cl, nI_leI, nI_ltI, nI_eq, jx_neg, jx_neg', jx_negE, jx_negL, jx_negG, jx_negLE, jx_negN, sb_nlt, sb_nle, jx_b0, jx_b1, jx_bT, jx_bF, ite_true, ite_false, if_true, if_false, reduceIte, Bool.false_eq_true, Bool.true_eq_false, eq_self, Nat.one_ne_zero, Nat.add_sub_cancel, not_true_eq_false, not_false_eq_true, k238]
  · rw [jz_wm_len (by rw [hWl]; exact hl)]
    have hl2 : ¬ 5 = e - r := fun q => hl q.symm
    simp (disch := first | assumption | omega | exact jx_bz _ | exact jx_z0 | exact jx_z1 | (refine jx_ixB ?_ ?_; omega; omega) | (simp (disch := first | omega | fail) only [jx_lit, pk_mul, nI_add, nI_pred, pk_sub, jx_na, jx_add0, Nat.reduceMul, Nat.reduceAdd, Nat.reduceSub, Nat.reduceEqDiff, Nat.reduceLeDiff, Nat.reduceLT, k238, he, hr, er, hl2]; refine jx_ixC ?_ ?_; omega; omega) | (simp (disch := first | omega | fail) only [jx_lit, pk_mul, nI_add, nI_pred, pk_sub, jx_na, jx_add0, Nat.reduceMul, Nat.reduceAdd, Nat.reduceSub, Nat.reduceEqDiff, Nat.reduceLeDiff, Nat.reduceLT, jx_cl, nI_leI, Nat.zero_le, true_and, k238, he, hr, er, hl2]; omega) | fail) only [je_40, jb_40_0, jb_40_4, jb_40_16, jb_40_18, jb_40_25, jb_40_28, jb_40_33, jb_40_43, jb_40_46, jb_40_48, jb_40_54, jx_nl, jx_nlr, jx_thenS, jx_tlS, jx_tlN, jm_ite_go, jx_rds, jx_rdn, jx_lit, pk_mul, nI_add, nI_pred, pk_sub, jx_na, jx_add0, Nat.reduceMul, Nat.reduceAdd, Nat.reduceSub, Nat.reduceEqDiff, Nat.reduceLeDiff, Nat.reduceLT, Nat.not_lt_zero, jx_cl, nI_leI, nI_ltI, nI_eq, jx_neg, jx_neg', jx_negE, jx_negL, jx_negG, jx_negLE, jx_negN, sb_nlt, sb_nle, jx_b0, jx_b1, jx_bT, jx_bF, ite_true, ite_false, if_true, if_false, reduceIte, Bool.false_eq_true, Bool.true_eq_false, eq_self, Nat.one_ne_zero, Nat.add_sub_cancel, not_true_eq_false, not_false_eq_true, k238, he, hr, er, hl2]
/-! dares -/
theorem jf_240_1 {d : Nat} {h : jm_H} : jm_ev (d + 1) 240 [.ref 1000002] h = some (some (.int 0), h) :=
  je_240.trans ((jm_go_steps (c2 := (14, [some (.ref 1000002)], [.int 0], h)) 5 rfl).trans (jm_go_ret (v := some (.int 0)) rfl))
theorem jf_241_1 {d : Nat} {h : jm_H} : jm_ev (d + 1) 241 [.ref 1000002] h = some (some (.int 1), h) :=
  je_241.trans ((jm_go_steps (c2 := (18, [some (.ref 1000002)], [.int 1], h)) 7 rfl).trans (jm_go_ret (v := some (.int 1)) rfl))
theorem jf_238_1 {d : Nat} {h : jm_H} : jm_ev (d + 2) 238 [.ref 1000002] h = some (some (.int (nI 5)), h) := by
  refine je_238.trans ((jm_go_steps (c2 := (6, [some (.ref 1000002)], [.ref 1000002, .int (Int32.ofNat 5)], h)) 4 rfl).trans ((jm_go_call (q := (240, [.ref 1000002], [.int (Int32.ofNat 5)])) rfl).trans ?_))
  rw [jf_240_1]
  refine ((jm_go_steps (c2 := (10, [some (.ref 1000002)], [.int (Int32.ofNat 5 >>> ((0 : Int32) &&& 31))], h)) 1 rfl).trans (jm_go_ret (v := some (.int (Int32.ofNat 5 >>> ((0 : Int32) &&& 31)))) rfl)).trans ?_
  rw [show Int32.ofNat 5 >>> ((0 : Int32) &&& 31) = nI 5 by decide]
theorem jf_243_1 {d i : Nat} {h : jm_H} (hi : i < 5) : jm_ev (d + 3) 243 [.ref 1000102, .int (nI i)] h = some (some (.int (nI ((jz_W 1).getD i 0))), h) := by
  have h1 : ¬ nI i < 0 := by rw [show (0 : Int32) = nI 0 from rfl, nI_ltI (by omega) (by decide)]; omega
  have h2 : nI i < nI 5 := by rw [nI_ltI (by omega) (by decide)]; exact hi
  have h3 : 0 ≤ nI i ∧ (nI i).toNatClampNeg < 5 := jx_ixB hi (by decide)
  have h4 : (nI i).toNatClampNeg = i := jx_cl (by omega)
  refine je_243.trans ((jm_go_steps (c2 := (3, [some (.ref 1000102), some (.int (nI i))], [.int (nI 5), .int (nI i)], h)) 3 rfl).trans ((jm_go_call (q := (242, [.int (nI i), .int (nI 5)], [])) rfl).trans ?_))
  rw [jf_242 h1 h2]
  refine (jm_go_steps (c2 := (8, [some (.ref 1000102), some (.int (nI i))], [.int (nI i), .ref 1000102], h)) 2 rfl).trans ?_
  refine (jm_go_next (c2 := (9, [some (.ref 1000102), some (.int (nI i))], [.int (([100, 97, 114, 101, 115] : List Int32).getD (nI i).toNatClampNeg 0)], h)) (Eq.trans (b := if jm_STB ≤ 1000102 ∧ 1000102 - jm_STB < jm_sn ∧ 0 ≤ nI i ∧ (nI i).toNatClampNeg < 5 then some (Sum.inl (9, [some (.ref 1000102), some (.int (nI i))], [.int (([100, 97, 114, 101, 115] : List Int32).getD (nI i).toNatClampNeg 0)], h)) else none) rfl (if_pos ⟨by decide, by decide, h3.1, h3.2⟩))).trans ?_
  rw [h4]
  have h5 : ∀ i, i < 5 → 0 ≤ ((([100, 97, 114, 101, 115] : List Int32).getD i 0 &&& 255).toUInt32 % 65536).toInt32 ∧ ((([100, 97, 114, 101, 115] : List Int32).getD i 0 &&& 255).toUInt32 % 65536).toInt32 ≤ 255 ∧ ((([100, 97, 114, 101, 115] : List Int32).getD i 0 &&& 255).toUInt32 % 65536).toInt32 = nI ((jz_W 1).getD i 0) := by decide
  obtain ⟨h6, h7, h8⟩ := h5 i hi
  refine (jm_go_steps (c2 := (14, [some (.ref 1000102), some (.int (nI i))], [.int ((([100, 97, 114, 101, 115] : List Int32).getD i 0 &&& 255).toUInt32 % 65536).toInt32], h)) 3 rfl).trans ?_
  rw [h8] at h6 h7 ⊢
  exact jm_go_ret (v := some (.int (nI ((jz_W 1).getD i 0)))) (Eq.trans (b := if 0 ≤ nI ((jz_W 1).getD i 0) ∧ nI ((jz_W 1).getD i 0) ≤ 255 then some (Sum.inr (Sum.inr (some (.int (nI ((jz_W 1).getD i 0)))))) else none) rfl (if_pos ⟨h6, h7⟩))
theorem jf_239_1 {d i : Nat} {h : jm_H} (hi : i < 5) : jm_ev (d + 4) 239 [.ref 1000002, .int (nI i)] h = some (some (.int (nI ((jz_W 1).getD i 0))), h) := by
  refine je_239.trans ((jm_go_steps (c2 := (1, [some (.ref 1000002), some (.int (nI i))], [.ref 1000002], h)) 1 rfl).trans ((jm_go_call (q := (241, [.ref 1000002], [])) rfl).trans ?_))
  rw [jf_241_1]
  refine (jm_go_steps (c2 := (12, [some (.ref 1000002), some (.int (nI i))], [.int (nI i), .ref 1000102], h)) 4 rfl).trans ((jm_go_call (q := (243, [.ref 1000102, .int (nI i)], [])) rfl).trans ?_)
  rw [jf_243_1 hi]
  have h5 : ∀ i, i < 5 → 0 ≤ nI ((jz_W 1).getD i 0) ∧ nI ((jz_W 1).getD i 0) ≤ 255 := by decide
  exact jm_go_ret (v := some (.int (nI ((jz_W 1).getD i 0)))) (Eq.trans (b := if 0 ≤ nI ((jz_W 1).getD i 0) ∧ nI ((jz_W 1).getD i 0) ≤ 255 then some (Sum.inr (Sum.inr (some (.int (nI ((jz_W 1).getD i 0)))))) else none) rfl (if_pos (h5 i hi)))
theorem jf_40_1 {d s r e : Nat} {b : Nat → Nat} {I : Nat → Nat → Int32} {rho : Nat → Option Nat} {mu : List (Nat × Nat)} (hs : I 30 1 = nI s) (hs2 : s ≤ 160) (hb : ∀ k, k < s → I 31 k = nI (b k)) (hb2 : ∀ k, b k < 256) (he : I 30 2 = nI e) (hr : I 30 4 = nI r) (hre : r ≤ e) (hes : e ≤ s) : jm_ev (d + 5) 40 [.ref 30, .ref 1000002] (jm_hp I rho mu) = some (some (.int (jx_b (jz_wm b r e 1))), jm_hp I rho mu) := by
  have hA : jm_STR ≤ 1000002 ∧ 1000002 - jm_STR < jm_sn := by decide
  have k238 := @jf_238_1 (d + 2) (jm_hp I rho mu)
  have hWl : (jz_W 1).length = 5 := rfl
  have er : nI e - nI r = nI (e - r) := pk_sub hre
  by_cases hl : e - r = 5
  · have e0 : jm_ev (d + 5) 40 [.ref 30, .ref 1000002] (jm_hp I rho mu) = jm_go (jm_ev (d + 4)) 40 (20, [some (.ref 30), some (.ref 1000002), some (.int (nI 0))], [], jm_hp I rho mu) := by
      simp (disch := first | assumption | omega | exact jx_bz _ | exact jx_z0 | exact jx_z1 | (refine jx_ixB ?_ ?_; omega; omega) | (simp (disch := first | omega | fail) only [jx_lit, pk_mul, nI_add, nI_pred, pk_sub, jx_na, jx_add0, Nat.reduceMul, Nat.reduceAdd, Nat.reduceSub, Nat.reduceEqDiff, Nat.reduceLeDiff, Nat.reduceLT, k238, he, hr, er, hl]; refine jx_ixC ?_ ?_; omega; omega) | (simp (disch := first | omega | fail) only [jx_lit, pk_mul, nI_add, nI_pred, pk_sub, jx_na, jx_add0, Nat.reduceMul, Nat.reduceAdd, Nat.reduceSub, Nat.reduceEqDiff, Nat.reduceLeDiff, Nat.reduceLT, jx_cl, nI_leI, Nat.zero_le, true_and, k238, he, hr, er, hl]; omega) | fail) only [je_40, jb_40_0, jb_40_4, jb_40_16, jb_40_18, jb_40_25, jb_40_28, jb_40_33, jb_40_43, jb_40_46, jb_40_48, jb_40_54, jx_nl, jx_nlr, jx_thenS, jx_tlS, jx_tlN, jm_ite_go, jx_rds, jx_rdn, jx_lit, pk_mul, nI_add, nI_pred, pk_sub, jx_na, jx_add0, Nat.reduceMul, Nat.reduceAdd, Nat.reduceSub, Nat.reduceEqDiff, Nat.reduceLeDiff, Nat.reduceLT, Nat.not_lt_zero, jx_cl, nI_leI, nI_ltI, nI_eq, jx_neg, jx_neg', jx_negE, jx_negL, jx_negG, jx_negLE, jx_negN, sb_nlt, sb_nle, jx_b0, jx_b1, jx_bT, jx_bF, ite_true, ite_false, if_true, if_false, reduceIte, Bool.false_eq_true, Bool.true_eq_false, eq_self, Nat.one_ne_zero, Nat.add_sub_cancel, not_true_eq_false, not_false_eq_true, k238, he, hr, er, hl]
    have st : ∀ i, i < 5 → jm_go (jm_ev (d + 4)) 40 (20, [some (.ref 30), some (.ref 1000002), some (.int (nI i))], [], jm_hp I rho mu) = if (jz_W 1).getD i 0 = b (r + i) then jm_go (jm_ev (d + 4)) 40 (20, [some (.ref 30), some (.ref 1000002), some (.int (nI (i + 1)))], [], jm_hp I rho mu) else some (some (.int (nI 0)), jm_hp I rho mu) := fun i hi => by
      have zn : ¬ 5 ≤ i := by omega
      have k239 := @jf_239_1 d i (jm_hp I rho mu) hi
      have k26 := @jf_26 (d + 3) s (r + i) I rho mu hs hs2 (by omega)
      rw [hb _ (by omega)] at k26
      have hc : (jz_W 1).getD i 0 < 256 := by
        have : ∀ i, i < 5 → (jz_W 1).getD i 0 < 256 := by decide
        exact this i hi
      have hc2 := hb2 (r + i)
      rw [jb_40_20 hA]
      by_cases q : (jz_W 1).getD i 0 = b (r + i)
      · rw [if_pos q]
        rw [q] at k239
        simp (disch := first | assumption | omega | exact jx_bz _ | exact jx_z0 | exact jx_z1 | (refine jx_ixB ?_ ?_; omega; omega) | (simp (disch := first | omega | fail) only [jx_lit, pk_mul, nI_add, nI_pred, pk_sub, jx_na, jx_add0, Nat.reduceMul, Nat.reduceAdd, Nat.reduceSub, Nat.reduceEqDiff, Nat.reduceLeDiff, Nat.reduceLT, k238, zn, k239, hr, k26]; refine jx_ixC ?_ ?_; omega; omega) | (simp (disch := first | omega | fail) only [jx_lit, pk_mul, nI_add, nI_pred, pk_sub, jx_na, jx_add0, Nat.reduceMul, Nat.reduceAdd, Nat.reduceSub, Nat.reduceEqDiff, Nat.reduceLeDiff, Nat.reduceLT, jx_cl, nI_leI, Nat.zero_le, true_and, k238, zn, k239, hr, k26]; omega) | fail) only [jb_40_0, jb_40_4, jb_40_16, jb_40_18, jb_40_25, jb_40_28, jb_40_33, jb_40_43, jb_40_46, jb_40_48, jb_40_54, jx_nl, jx_nlr, jx_thenS, jx_tlS, jx_tlN, jm_ite_go, jx_rds, jx_rdn, jx_lit, pk_mul, nI_add, nI_pred, pk_sub, jx_na, jx_add0, Nat.reduceMul, Nat.reduceAdd, Nat.reduceSub, Nat.reduceEqDiff, Nat.reduceLeDiff, Nat.reduceLT, Nat.not_lt_zero, jx_cl, nI_leI, nI_ltI, nI_eq, jx_neg, jx_neg', jx_negE, jx_negL, jx_negG, jx_negLE, jx_negN, sb_nlt, sb_nle, jx_b0, jx_b1, jx_bT, jx_bF, ite_true, ite_false, if_true, if_false, reduceIte, Bool.false_eq_true, Bool.true_eq_false, eq_self, Nat.one_ne_zero, Nat.add_sub_cancel, not_true_eq_false, not_false_eq_true, k238, zn, k239, hr, k26]
      · rw [if_neg q]
        simp (disch := first | assumption | omega | exact jx_bz _ | exact jx_z0 | exact jx_z1 | (refine jx_ixB ?_ ?_; omega; omega) | (simp (disch := first | omega | fail) only [jx_lit, pk_mul, nI_add, nI_pred, pk_sub, jx_na, jx_add0, Nat.reduceMul, Nat.reduceAdd, Nat.reduceSub, Nat.reduceEqDiff, Nat.reduceLeDiff, Nat.reduceLT, k238, zn, k239, hr, k26, q]; refine jx_ixC ?_ ?_; omega; omega) | (simp (disch := first | omega | fail) only [jx_lit, pk_mul, nI_add, nI_pred, pk_sub, jx_na, jx_add0, Nat.reduceMul, Nat.reduceAdd, Nat.reduceSub, Nat.reduceEqDiff, Nat.reduceLeDiff, Nat.reduceLT, jx_cl, nI_leI, Nat.zero_le, true_and, k238, zn, k239, hr, k26, q]; omega) | fail) only [jb_40_0, jb_40_4, jb_40_16, jb_40_18, jb_40_25, jb_40_28, jb_40_33, jb_40_43, jb_40_46, jb_40_48, jb_40_54, jx_nl, jx_nlr, jx_thenS, jx_tlS, jx_tlN, jm_ite_go, jx_rds, jx_rdn, jx_lit, pk_mul, nI_add, nI_pred, pk_sub, jx_na, jx_add0, Nat.reduceMul, Nat.reduceAdd, Nat.reduceSub, Nat.reduceEqDiff, Nat.reduceLeDiff, Nat.reduceLT, Nat.not_lt_zero, jx_cl, nI_leI, nI_ltI, nI_eq, jx_neg, jx_neg', jx_negE, jx_negL, jx_negG, jx_negLE, jx_negN, sb_nlt, sb_nle, jx_b0, jx_b1, jx_bT, jx_bF, ite_true, ite_false, if_true, if_false, reduceIte, Bool.false_eq_true, Bool.true_eq_false, eq_self, Nat.one_ne_zero, Nat.add_sub_cancel, not_true_eq_false, not_false_eq_true, k238, zn, k239, hr, k26, q]
    rcases jx_least (fun i => !decide ((jz_W 1).getD i 0 = b (r + i))) 5 with ⟨k, hk, h1, h2⟩ | h2
    · have h1 : ¬ (jz_W 1).getD k 0 = b (r + k) := by simpa using h1
      have h2 : ∀ j, j < k → (jz_W 1).getD j 0 = b (r + j) := fun j hj => by simpa using h2 j hj
      rw [jz_wm_ne (i := k) (by rw [hWl]; exact hk) h1]
      have lp := jx_for0 (E := jm_ev (d + 4)) (y := 40) k (fun i => (20, [some (.ref 30), some (.ref 1000002), some (.int (nI i))], [], jm_hp I rho mu)) (fun i hi => by rw [st i (by omega), if_pos (h2 i hi)]) k (Nat.le_refl _)
      rw [e0]
      refine Eq.trans lp ?_
      rw [st k hk, if_neg h1]
      rfl
    · have h2 : ∀ j, j < 5 → (jz_W 1).getD j 0 = b (r + j) := fun j hj => by simpa using h2 j hj
      rw [jz_wm_T (by rw [hWl]; exact hl) fun i hi => h2 i (by rw [hWl] at hi; exact hi)]
      have lp := jx_for0 (E := jm_ev (d + 4)) (y := 40) 5 (fun i => (20, [some (.ref 30), some (.ref 1000002), some (.int (nI i))], [], jm_hp I rho mu)) (fun i hi => by rw [st i (by omega), if_pos (h2 i hi)]) 5 (Nat.le_refl _)
      rw [e0]
      refine Eq.trans lp ?_
      rw [jb_40_20 hA]
      simp (disch := first | assumption | omega | exact jx_bz _ | exact jx_z0 | exact jx_z1 | (refine jx_ixB ?_ ?_; omega; omega) | (simp (disch := first | omega | fail) only [jx_lit, pk_mul, nI_add, nI_pred, pk_sub, jx_na, jx_add0, Nat.reduceMul, Nat.reduceAdd, Nat.reduceSub, Nat.reduceEqDiff, Nat.reduceLeDiff, Nat.reduceLT, k238]; refine jx_ixC ?_ ?_; omega; omega) | (simp (disch := first | omega | fail) only [jx_lit, pk_mul, nI_add, nI_pred, pk_sub, jx_na, jx_add0, Nat.reduceMul, Nat.reduceAdd, Nat.reduceSub, Nat.reduceEqDiff, Nat.reduceLeDiff, Nat.reduceLT, jx_cl, nI_leI, Nat.zero_le, true_and, k238]; omega) | fail) only [jb_40_0, jb_40_4, jb_40_16, jb_40_18, jb_40_25, jb_40_28, jb_40_33, jb_40_43, jb_40_46, jb_40_48, jb_40_54, jx_nl, jx_nlr, jx_thenS, jx_tlS, jx_tlN, jm_ite_go, jx_rds, jx_rdn, jx_lit, pk_mul, nI_add, nI_pred, pk_sub, jx_na, jx_add0, Nat.reduceMul, Nat.reduceAdd, Nat.reduceSub, Nat.reduceEqDiff, Nat.reduceLeDiff, Nat.reduceLT, Nat.not_lt_zero, jx_cl, nI_leI, nI_ltI, nI_eq, jx_neg, jx_neg', jx_negE, jx_negL, jx_negG, jx_negLE, jx_negN, sb_nlt, sb_nle, jx_b0, jx_b1, jx_bT, jx_bF, ite_true, ite_false, if_true, if_false, reduceIte, Bool.false_eq_true, Bool.true_eq_false, eq_self, Nat.one_ne_zero, Nat.add_sub_cancel, not_true_eq_false, not_false_eq_true, k238]
  · rw [jz_wm_len (by rw [hWl]; exact hl)]
    have hl2 : ¬ 5 = e - r := fun q => hl q.symm
    simp (disch := first | assumption | omega | exact jx_bz _ | exact jx_z0 | exact jx_z1 | (refine jx_ixB ?_ ?_; omega; omega) | (simp (disch := first | omega | fail) only [jx_lit, pk_mul, nI_add, nI_pred, pk_sub, jx_na, jx_add0, Nat.reduceMul, Nat.reduceAdd, Nat.reduceSub, Nat.reduceEqDiff, Nat.reduceLeDiff, Nat.reduceLT, k238, he, hr, er, hl2]; refine jx_ixC ?_ ?_; omega; omega) | (simp (disch := first | omega | fail) only [jx_lit, pk_mul, nI_add, nI_pred, pk_sub, jx_na, jx_add0, Nat.reduceMul, Nat.reduceAdd, Nat.reduceSub, Nat.reduceEqDiff, Nat.reduceLeDiff, Nat.reduceLT, jx_cl, nI_leI, Nat.zero_le, true_and, k238, he, hr, er, hl2]; omega) | fail) only [je_40, jb_40_0, jb_40_4, jb_40_16, jb_40_18, jb_40_25, jb_40_28, jb_40_33, jb_40_43, jb_40_46, jb_40_48, jb_40_54, jx_nl, jx_nlr, jx_thenS, jx_tlS, jx_tlN, jm_ite_go, jx_rds, jx_rdn, jx_lit, pk_mul, nI_add, nI_pred, pk_sub, jx_na, jx_add0, Nat.reduceMul, Nat.reduceAdd, Nat.reduceSub, Nat.reduceEqDiff, Nat.reduceLeDiff, Nat.reduceLT, Nat.not_lt_zero, jx_cl, nI_leI, nI_ltI, nI_eq, jx_neg, jx_neg', jx_negE, jx_negL, jx_negG, jx_negLE, jx_negN, sb_nlt, sb_nle, jx_b0, jx_b1, jx_bT, jx_bF, ite_true, ite_false, if_true, if_false, reduceIte, Bool.false_eq_true, Bool.true_eq_false, eq_self, Nat.one_ne_zero, Nat.add_sub_cancel, not_true_eq_false, not_false_eq_true, k238, he, hr, er, hl2]
/-! leaves -/
theorem jf_240_2 {d : Nat} {h : jm_H} : jm_ev (d + 1) 240 [.ref 1000003] h = some (some (.int 0), h) :=
  je_240.trans ((jm_go_steps (c2 := (14, [some (.ref 1000003)], [.int 0], h)) 5 rfl).trans (jm_go_ret (v := some (.int 0)) rfl))
theorem jf_241_2 {d : Nat} {h : jm_H} : jm_ev (d + 1) 241 [.ref 1000003] h = some (some (.int 1), h) :=
  je_241.trans ((jm_go_steps (c2 := (18, [some (.ref 1000003)], [.int 1], h)) 7 rfl).trans (jm_go_ret (v := some (.int 1)) rfl))
theorem jf_238_2 {d : Nat} {h : jm_H} : jm_ev (d + 2) 238 [.ref 1000003] h = some (some (.int (nI 6)), h) := by
  refine je_238.trans ((jm_go_steps (c2 := (6, [some (.ref 1000003)], [.ref 1000003, .int (Int32.ofNat 6)], h)) 4 rfl).trans ((jm_go_call (q := (240, [.ref 1000003], [.int (Int32.ofNat 6)])) rfl).trans ?_))
  rw [jf_240_2]
  refine ((jm_go_steps (c2 := (10, [some (.ref 1000003)], [.int (Int32.ofNat 6 >>> ((0 : Int32) &&& 31))], h)) 1 rfl).trans (jm_go_ret (v := some (.int (Int32.ofNat 6 >>> ((0 : Int32) &&& 31)))) rfl)).trans ?_
  rw [show Int32.ofNat 6 >>> ((0 : Int32) &&& 31) = nI 6 by decide]
theorem jf_243_2 {d i : Nat} {h : jm_H} (hi : i < 6) : jm_ev (d + 3) 243 [.ref 1000103, .int (nI i)] h = some (some (.int (nI ((jz_W 2).getD i 0))), h) := by
  have h1 : ¬ nI i < 0 := by rw [show (0 : Int32) = nI 0 from rfl, nI_ltI (by omega) (by decide)]; omega
  have h2 : nI i < nI 6 := by rw [nI_ltI (by omega) (by decide)]; exact hi
  have h3 : 0 ≤ nI i ∧ (nI i).toNatClampNeg < 6 := jx_ixB hi (by decide)
  have h4 : (nI i).toNatClampNeg = i := jx_cl (by omega)
  refine je_243.trans ((jm_go_steps (c2 := (3, [some (.ref 1000103), some (.int (nI i))], [.int (nI 6), .int (nI i)], h)) 3 rfl).trans ((jm_go_call (q := (242, [.int (nI i), .int (nI 6)], [])) rfl).trans ?_))
  rw [jf_242 h1 h2]
  refine (jm_go_steps (c2 := (8, [some (.ref 1000103), some (.int (nI i))], [.int (nI i), .ref 1000103], h)) 2 rfl).trans ?_
  refine (jm_go_next (c2 := (9, [some (.ref 1000103), some (.int (nI i))], [.int (([108, 101, 97, 118, 101, 115] : List Int32).getD (nI i).toNatClampNeg 0)], h)) (Eq.trans (b := if jm_STB ≤ 1000103 ∧ 1000103 - jm_STB < jm_sn ∧ 0 ≤ nI i ∧ (nI i).toNatClampNeg < 6 then some (Sum.inl (9, [some (.ref 1000103), some (.int (nI i))], [.int (([108, 101, 97, 118, 101, 115] : List Int32).getD (nI i).toNatClampNeg 0)], h)) else none) rfl (if_pos ⟨by decide, by decide, h3.1, h3.2⟩))).trans ?_
  rw [h4]
  have h5 : ∀ i, i < 6 → 0 ≤ ((([108, 101, 97, 118, 101, 115] : List Int32).getD i 0 &&& 255).toUInt32 % 65536).toInt32 ∧ ((([108, 101, 97, 118, 101, 115] : List Int32).getD i 0 &&& 255).toUInt32 % 65536).toInt32 ≤ 255 ∧ ((([108, 101, 97, 118, 101, 115] : List Int32).getD i 0 &&& 255).toUInt32 % 65536).toInt32 = nI ((jz_W 2).getD i 0) := by decide
  obtain ⟨h6, h7, h8⟩ := h5 i hi
  refine (jm_go_steps (c2 := (14, [some (.ref 1000103), some (.int (nI i))], [.int ((([108, 101, 97, 118, 101, 115] : List Int32).getD i 0 &&& 255).toUInt32 % 65536).toInt32], h)) 3 rfl).trans ?_
  rw [h8] at h6 h7 ⊢
  exact jm_go_ret (v := some (.int (nI ((jz_W 2).getD i 0)))) (Eq.trans (b := if 0 ≤ nI ((jz_W 2).getD i 0) ∧ nI ((jz_W 2).getD i 0) ≤ 255 then some (Sum.inr (Sum.inr (some (.int (nI ((jz_W 2).getD i 0)))))) else none) rfl (if_pos ⟨h6, h7⟩))
theorem jf_239_2 {d i : Nat} {h : jm_H} (hi : i < 6) : jm_ev (d + 4) 239 [.ref 1000003, .int (nI i)] h = some (some (.int (nI ((jz_W 2).getD i 0))), h) := by
  refine je_239.trans ((jm_go_steps (c2 := (1, [some (.ref 1000003), some (.int (nI i))], [.ref 1000003], h)) 1 rfl).trans ((jm_go_call (q := (241, [.ref 1000003], [])) rfl).trans ?_))
  rw [jf_241_2]
  refine (jm_go_steps (c2 := (12, [some (.ref 1000003), some (.int (nI i))], [.int (nI i), .ref 1000103], h)) 4 rfl).trans ((jm_go_call (q := (243, [.ref 1000103, .int (nI i)], [])) rfl).trans ?_)
  rw [jf_243_2 hi]
  have h5 : ∀ i, i < 6 → 0 ≤ nI ((jz_W 2).getD i 0) ∧ nI ((jz_W 2).getD i 0) ≤ 255 := by decide
  exact jm_go_ret (v := some (.int (nI ((jz_W 2).getD i 0)))) (Eq.trans (b := if 0 ≤ nI ((jz_W 2).getD i 0) ∧ nI ((jz_W 2).getD i 0) ≤ 255 then some (Sum.inr (Sum.inr (some (.int (nI ((jz_W 2).getD i 0)))))) else none) rfl (if_pos (h5 i hi)))
theorem jf_40_2 {d s r e : Nat} {b : Nat → Nat} {I : Nat → Nat → Int32} {rho : Nat → Option Nat} {mu : List (Nat × Nat)} (hs : I 30 1 = nI s) (hs2 : s ≤ 160) (hb : ∀ k, k < s → I 31 k = nI (b k)) (hb2 : ∀ k, b k < 256) (he : I 30 2 = nI e) (hr : I 30 4 = nI r) (hre : r ≤ e) (hes : e ≤ s) : jm_ev (d + 5) 40 [.ref 30, .ref 1000003] (jm_hp I rho mu) = some (some (.int (jx_b (jz_wm b r e 2))), jm_hp I rho mu) := by
  have hA : jm_STR ≤ 1000003 ∧ 1000003 - jm_STR < jm_sn := by decide
  have k238 := @jf_238_2 (d + 2) (jm_hp I rho mu)
  have hWl : (jz_W 2).length = 6 := rfl
  have er : nI e - nI r = nI (e - r) := pk_sub hre
  by_cases hl : e - r = 6
  · have e0 : jm_ev (d + 5) 40 [.ref 30, .ref 1000003] (jm_hp I rho mu) = jm_go (jm_ev (d + 4)) 40 (20, [some (.ref 30), some (.ref 1000003), some (.int (nI 0))], [], jm_hp I rho mu) := by
      simp (disch := first | assumption | omega | exact jx_bz _ | exact jx_z0 | exact jx_z1 | (refine jx_ixB ?_ ?_; omega; omega) | (simp (disch := first | omega | fail) only [jx_lit, pk_mul, nI_add, nI_pred, pk_sub, jx_na, jx_add0, Nat.reduceMul, Nat.reduceAdd, Nat.reduceSub, Nat.reduceEqDiff, Nat.reduceLeDiff, Nat.reduceLT, k238, he, hr, er, hl]; refine jx_ixC ?_ ?_; omega; omega) | (simp (disch := first | omega | fail) only [jx_lit, pk_mul, nI_add, nI_pred, pk_sub, jx_na, jx_add0, Nat.reduceMul, Nat.reduceAdd, Nat.reduceSub, Nat.reduceEqDiff, Nat.reduceLeDiff, Nat.reduceLT, jx_cl, nI_leI, Nat.zero_le, true_and, k238, he, hr, er, hl]; omega) | fail) only [je_40, jb_40_0, jb_40_4, jb_40_16, jb_40_18, jb_40_25, jb_40_28, jb_40_33, jb_40_43, jb_40_46, jb_40_48, jb_40_54, jx_nl, jx_nlr, jx_thenS, jx_tlS, jx_tlN, jm_ite_go, jx_rds, jx_rdn, jx_lit, pk_mul, nI_add, nI_pred, pk_sub, jx_na, jx_add0, Nat.reduceMul, Nat.reduceAdd, Nat.reduceSub, Nat.reduceEqDiff, Nat.reduceLeDiff, Nat.reduceLT, Nat.not_lt_zero, jx_cl, nI_leI, nI_ltI, nI_eq, jx_neg, jx_neg', jx_negE, jx_negL, jx_negG, jx_negLE, jx_negN, sb_nlt, sb_nle, jx_b0, jx_b1, jx_bT, jx_bF, ite_true, ite_false, if_true, if_false, reduceIte, Bool.false_eq_true, Bool.true_eq_false, eq_self, Nat.one_ne_zero, Nat.add_sub_cancel, not_true_eq_false, not_false_eq_true, k238, he, hr, er, hl]
    have st : ∀ i, i < 6 → jm_go (jm_ev (d + 4)) 40 (20, [some (.ref 30), some (.ref 1000003), some (.int (nI i))], [], jm_hp I rho mu) = if (jz_W 2).getD i 0 = b (r + i) then jm_go (jm_ev (d + 4)) 40 (20, [some (.ref 30), some (.ref 1000003), some (.int (nI (i + 1)))], [], jm_hp I rho mu) else some (some (.int (nI 0)), jm_hp I rho mu) := fun i hi => by
      have zn : ¬ 6 ≤ i := by omega
      have k239 := @jf_239_2 d i (jm_hp I rho mu) hi
      have k26 := @jf_26 (d + 3) s (r + i) I rho mu hs hs2 (by omega)
      rw [hb _ (by omega)] at k26
      have hc : (jz_W 2).getD i 0 < 256 := by
        have : ∀ i, i < 6 → (jz_W 2).getD i 0 < 256 := by decide
        exact this i hi
      have hc2 := hb2 (r + i)
      rw [jb_40_20 hA]
      by_cases q : (jz_W 2).getD i 0 = b (r + i)
      · rw [if_pos q]
        rw [q] at k239
        simp (disch := first | assumption | omega | exact jx_bz _ | exact jx_z0 | exact jx_z1 | (refine jx_ixB ?_ ?_; omega; omega) | (simp (disch := first | omega | fail) only [jx_lit, pk_mul, nI_add, nI_pred, pk_sub, jx_na, jx_add0, Nat.reduceMul, Nat.reduceAdd, Nat.reduceSub, Nat.reduceEqDiff, Nat.reduceLeDiff, Nat.reduceLT, k238, zn, k239, hr, k26]; refine jx_ixC ?_ ?_; omega; omega) | (simp (disch := first | omega | fail) only [jx_lit, pk_mul, nI_add, nI_pred, pk_sub, jx_na, jx_add0, Nat.reduceMul, Nat.reduceAdd, Nat.reduceSub, Nat.reduceEqDiff, Nat.reduceLeDiff, Nat.reduceLT, jx_cl, nI_leI, Nat.zero_le, true_and, k238, zn, k239, hr, k26]; omega) | fail) only [jb_40_0, jb_40_4, jb_40_16, jb_40_18, jb_40_25, jb_40_28, jb_40_33, jb_40_43, jb_40_46, jb_40_48, jb_40_54, jx_nl, jx_nlr, jx_thenS, jx_tlS, jx_tlN, jm_ite_go, jx_rds, jx_rdn, jx_lit, pk_mul, nI_add, nI_pred, pk_sub, jx_na, jx_add0, Nat.reduceMul, Nat.reduceAdd, Nat.reduceSub, Nat.reduceEqDiff, Nat.reduceLeDiff, Nat.reduceLT, Nat.not_lt_zero, jx_cl, nI_leI, nI_ltI, nI_eq, jx_neg, jx_neg', jx_negE, jx_negL, jx_negG, jx_negLE, jx_negN, sb_nlt, sb_nle, jx_b0, jx_b1, jx_bT, jx_bF, ite_true, ite_false, if_true, if_false, reduceIte, Bool.false_eq_true, Bool.true_eq_false, eq_self, Nat.one_ne_zero, Nat.add_sub_cancel, not_true_eq_false, not_false_eq_true, k238, zn, k239, hr, k26]
      · rw [if_neg q]
        simp (disch := first | assumption | omega | exact jx_bz _ | exact jx_z0 | exact jx_z1 | (refine jx_ixB ?_ ?_; omega; omega) | (simp (disch := first | omega | fail) only [jx_lit, pk_mul, nI_add, nI_pred, pk_sub, jx_na, jx_add0, Nat.reduceMul, Nat.reduceAdd, Nat.reduceSub, Nat.reduceEqDiff, Nat.reduceLeDiff, Nat.reduceLT, k238, zn, k239, hr, k26, q]; refine jx_ixC ?_ ?_; omega; omega) | (simp (disch := first | omega | fail) only [jx_lit, pk_mul, nI_add, nI_pred, pk_sub, jx_na, jx_add0, Nat.reduceMul, Nat.reduceAdd, Nat.reduceSub, Nat.reduceEqDiff, Nat.reduceLeDiff, Nat.reduceLT, jx_cl, nI_leI, Nat.zero_le, true_and, k238, zn, k239, hr, k26, q]; omega) | fail) only [jb_40_0, jb_40_4, jb_40_16, jb_40_18, jb_40_25, jb_40_28, jb_40_33, jb_40_43, jb_40_46, jb_40_48, jb_40_54, jx_nl, jx_nlr, jx_thenS, jx_tlS, jx_tlN, jm_ite_go, jx_rds, jx_rdn, jx_lit, pk_mul, nI_add, nI_pred, pk_sub, jx_na, jx_add0, Nat.reduceMul, Nat.reduceAdd, Nat.reduceSub, Nat.reduceEqDiff, Nat.reduceLeDiff, Nat.reduceLT, Nat.not_lt_zero, jx_cl, nI_leI, nI_ltI, nI_eq, jx_neg, jx_neg', jx_negE, jx_negL, jx_negG, jx_negLE, jx_negN, sb_nlt, sb_nle, jx_b0, jx_b1, jx_bT, jx_bF, ite_true, ite_false, if_true, if_false, reduceIte, Bool.false_eq_true, Bool.true_eq_false, eq_self, Nat.one_ne_zero, Nat.add_sub_cancel, not_true_eq_false, not_false_eq_true, k238, zn, k239, hr, k26, q]
    rcases jx_least (fun i => !decide ((jz_W 2).getD i 0 = b (r + i))) 6 with ⟨k, hk, h1, h2⟩ | h2
    · have h1 : ¬ (jz_W 2).getD k 0 = b (r + k) := by simpa using h1
      have h2 : ∀ j, j < k → (jz_W 2).getD j 0 = b (r + j) := fun j hj => by simpa using h2 j hj
      rw [jz_wm_ne (i := k) (by rw [hWl]; exact hk) h1]
      have lp := jx_for0 (E := jm_ev (d + 4)) (y := 40) k (fun i => (20, [some (.ref 30), some (.ref 1000003), some (.int (nI i))], [], jm_hp I rho mu)) (fun i hi => by rw [st i (by omega), if_pos (h2 i hi)]) k (Nat.le_refl _)
      rw [e0]
      refine Eq.trans lp ?_
      rw [st k hk, if_neg h1]
      rfl
    · have h2 : ∀ j, j < 6 → (jz_W 2).getD j 0 = b (r + j) := fun j hj => by simpa using h2 j hj
      rw [jz_wm_T (by rw [hWl]; exact hl) fun i hi => h2 i (by rw [hWl] at hi; exact hi)]
      have lp := jx_for0 (E := jm_ev (d + 4)) (y := 40) 6 (fun i => (20, [some (.ref 30), some (.ref 1000003), some (.int (nI i))], [], jm_hp I rho mu)) (fun i hi => by rw [st i (by omega), if_pos (h2 i hi)]) 6 (Nat.le_refl _)
      rw [e0]
      refine Eq.trans lp ?_
      rw [jb_40_20 hA]
      simp (disch := first | assumption | omega | exact jx_bz _ | exact jx_z0 | exact jx_z1 | (refine jx_ixB ?_ ?_; omega; omega) | (simp (disch := first | omega | fail) only [jx_lit, pk_mul, nI_add, nI_pred, pk_sub, jx_na, jx_add0, Nat.reduceMul, Nat.reduceAdd, Nat.reduceSub, Nat.reduceEqDiff, Nat.reduceLeDiff, Nat.reduceLT, k238]; refine jx_ixC ?_ ?_; omega; omega) | (simp (disch := first | omega | fail) only [jx_lit, pk_mul, nI_add, nI_pred, pk_sub, jx_na, jx_add0, Nat.reduceMul, Nat.reduceAdd, Nat.reduceSub, Nat.reduceEqDiff, Nat.reduceLeDiff, Nat.reduceLT, jx_cl, nI_leI, Nat.zero_le, true_and, k238]; omega) | fail) only [jb_40_0, jb_40_4, jb_40_16, jb_40_18, jb_40_25, jb_40_28, jb_40_33, jb_40_43, jb_40_46, jb_40_48, jb_40_54, jx_nl, jx_nlr, jx_thenS, jx_tlS, jx_tlN, jm_ite_go, jx_rds, jx_rdn, jx_lit, pk_mul, nI_add, nI_pred, pk_sub, jx_na, jx_add0, Nat.reduceMul, Nat.reduceAdd, Nat.reduceSub, Nat.reduceEqDiff, Nat.reduceLeDiff, Nat.reduceLT, Nat.not_lt_zero, jx_cl, nI_leI, nI_ltI, nI_eq, jx_neg, jx_neg', jx_negE, jx_negL, jx_negG, jx_negLE, jx_negN, sb_nlt, sb_nle, jx_b0, jx_b1, jx_bT, jx_bF, ite_true, ite_false, if_true, if_false, reduceIte, Bool.false_eq_true, Bool.true_eq_false, eq_self, Nat.one_ne_zero, Nat.add_sub_cancel, not_true_eq_false, not_false_eq_true, k238]
  · rw [jz_wm_len (by rw [hWl]; exact hl)]
    have hl2 : ¬ 6 = e - r := fun q => hl q.symm
    simp (disch := first | assumption | omega | exact jx_bz _ | exact jx_z0 | exact jx_z1 | (refine jx_ixB ?_ ?_; omega; omega) | (simp (disch := first | omega | fail) only [jx_lit, pk_mul, nI_add, nI_pred, pk_sub, jx_na, jx_add0, Nat.reduceMul, Nat.reduceAdd, Nat.reduceSub, Nat.reduceEqDiff, Nat.reduceLeDiff, Nat.reduceLT, k238, he, hr, er, hl2]; refine jx_ixC ?_ ?_; omega; omega) | (simp (disch := first | omega | fail) only [jx_lit, pk_mul, nI_add, nI_pred, pk_sub, jx_na, jx_add0, Nat.reduceMul, Nat.reduceAdd, Nat.reduceSub, Nat.reduceEqDiff, Nat.reduceLeDiff, Nat.reduceLT, jx_cl, nI_leI, Nat.zero_le, true_and, k238, he, hr, er, hl2]; omega) | fail) only [je_40, jb_40_0, jb_40_4, jb_40_16, jb_40_18, jb_40_25, jb_40_28, jb_40_33, jb_40_43, jb_40_46, jb_40_48, jb_40_54, jx_nl, jx_nlr, jx_thenS, jx_tlS, jx_tlN, jm_ite_go, jx_rds, jx_rdn, jx_lit, pk_mul, nI_add, nI_pred, pk_sub, jx_na, jx_add0, Nat.reduceMul, Nat.reduceAdd, Nat.reduceSub, Nat.reduceEqDiff, Nat.reduceLeDiff, Nat.reduceLT, Nat.not_lt_zero, jx_cl, nI_leI, nI_ltI, nI_eq, jx_neg, jx_neg', jx_negE, jx_negL, jx_negG, jx_negLE, jx_negN, sb_nlt, sb_nle, jx_b0, jx_b1, jx_bT, jx_bF, ite_true, ite_false, if_true, if_false, reduceIte, Bool.false_eq_true, Bool.true_eq_false, eq_self, Nat.one_ne_zero, Nat.add_sub_cancel, not_true_eq_false, not_false_eq_true, k238, he, hr, er, hl2]
/-! or -/
theorem jf_240_3 {d : Nat} {h : jm_H} : jm_ev (d + 1) 240 [.ref 1000004] h = some (some (.int 0), h) :=
  je_240.trans ((jm_go_steps (c2 := (14, [some (.ref 1000004)], [.int 0], h)) 5 rfl).trans (jm_go_ret (v := some (.int 0)) rfl))
theorem jf_241_3 {d : Nat} {h : jm_H} : jm_ev (d + 1) 241 [.ref 1000004] h = some (some (.int 1), h) :=
  je_241.trans ((jm_go_steps (c2 := (18, [some (.ref 1000004)], [.int 1], h)) 7 rfl).trans (jm_go_ret (v := some (.int 1)) rfl))
theorem jf_238_3 {d : Nat} {h : jm_H} : jm_ev (d + 2) 238 [.ref 1000004] h = some (some (.int (nI 2)), h) := by
  refine je_238.trans ((jm_go_steps (c2 := (6, [some (.ref 1000004)], [.ref 1000004, .int (Int32.ofNat 2)], h)) 4 rfl).trans ((jm_go_call (q := (240, [.ref 1000004], [.int (Int32.ofNat 2)])) rfl).trans ?_))
  rw [jf_240_3]
  refine ((jm_go_steps (c2 := (10, [some (.ref 1000004)], [.int (Int32.ofNat 2 >>> ((0 : Int32) &&& 31))], h)) 1 rfl).trans (jm_go_ret (v := some (.int (Int32.ofNat 2 >>> ((0 : Int32) &&& 31)))) rfl)).trans ?_
  rw [show Int32.ofNat 2 >>> ((0 : Int32) &&& 31) = nI 2 by decide]
theorem jf_243_3 {d i : Nat} {h : jm_H} (hi : i < 2) : jm_ev (d + 3) 243 [.ref 1000104, .int (nI i)] h = some (some (.int (nI ((jz_W 9).getD i 0))), h) := by
  have h1 : ¬ nI i < 0 := by rw [show (0 : Int32) = nI 0 from rfl, nI_ltI (by omega) (by decide)]; omega
  have h2 : nI i < nI 2 := by rw [nI_ltI (by omega) (by decide)]; exact hi
  have h3 : 0 ≤ nI i ∧ (nI i).toNatClampNeg < 2 := jx_ixB hi (by decide)
  have h4 : (nI i).toNatClampNeg = i := jx_cl (by omega)
  refine je_243.trans ((jm_go_steps (c2 := (3, [some (.ref 1000104), some (.int (nI i))], [.int (nI 2), .int (nI i)], h)) 3 rfl).trans ((jm_go_call (q := (242, [.int (nI i), .int (nI 2)], [])) rfl).trans ?_))
  rw [jf_242 h1 h2]
  refine (jm_go_steps (c2 := (8, [some (.ref 1000104), some (.int (nI i))], [.int (nI i), .ref 1000104], h)) 2 rfl).trans ?_
  refine (jm_go_next (c2 := (9, [some (.ref 1000104), some (.int (nI i))], [.int (([111, 114] : List Int32).getD (nI i).toNatClampNeg 0)], h)) (Eq.trans (b := if jm_STB ≤ 1000104 ∧ 1000104 - jm_STB < jm_sn ∧ 0 ≤ nI i ∧ (nI i).toNatClampNeg < 2 then some (Sum.inl (9, [some (.ref 1000104), some (.int (nI i))], [.int (([111, 114] : List Int32).getD (nI i).toNatClampNeg 0)], h)) else none) rfl (if_pos ⟨by decide, by decide, h3.1, h3.2⟩))).trans ?_
  rw [h4]
  have h5 : ∀ i, i < 2 → 0 ≤ ((([111, 114] : List Int32).getD i 0 &&& 255).toUInt32 % 65536).toInt32 ∧ ((([111, 114] : List Int32).getD i 0 &&& 255).toUInt32 % 65536).toInt32 ≤ 255 ∧ ((([111, 114] : List Int32).getD i 0 &&& 255).toUInt32 % 65536).toInt32 = nI ((jz_W 9).getD i 0) := by decide
  obtain ⟨h6, h7, h8⟩ := h5 i hi
  refine (jm_go_steps (c2 := (14, [some (.ref 1000104), some (.int (nI i))], [.int ((([111, 114] : List Int32).getD i 0 &&& 255).toUInt32 % 65536).toInt32], h)) 3 rfl).trans ?_
  rw [h8] at h6 h7 ⊢
  exact jm_go_ret (v := some (.int (nI ((jz_W 9).getD i 0)))) (Eq.trans (b := if 0 ≤ nI ((jz_W 9).getD i 0) ∧ nI ((jz_W 9).getD i 0) ≤ 255 then some (Sum.inr (Sum.inr (some (.int (nI ((jz_W 9).getD i 0)))))) else none) rfl (if_pos ⟨h6, h7⟩))
theorem jf_239_3 {d i : Nat} {h : jm_H} (hi : i < 2) : jm_ev (d + 4) 239 [.ref 1000004, .int (nI i)] h = some (some (.int (nI ((jz_W 9).getD i 0))), h) := by
  refine je_239.trans ((jm_go_steps (c2 := (1, [some (.ref 1000004), some (.int (nI i))], [.ref 1000004], h)) 1 rfl).trans ((jm_go_call (q := (241, [.ref 1000004], [])) rfl).trans ?_))
  rw [jf_241_3]
  refine (jm_go_steps (c2 := (12, [some (.ref 1000004), some (.int (nI i))], [.int (nI i), .ref 1000104], h)) 4 rfl).trans ((jm_go_call (q := (243, [.ref 1000104, .int (nI i)], [])) rfl).trans ?_)
  rw [jf_243_3 hi]
  have h5 : ∀ i, i < 2 → 0 ≤ nI ((jz_W 9).getD i 0) ∧ nI ((jz_W 9).getD i 0) ≤ 255 := by decide
  exact jm_go_ret (v := some (.int (nI ((jz_W 9).getD i 0)))) (Eq.trans (b := if 0 ≤ nI ((jz_W 9).getD i 0) ∧ nI ((jz_W 9).getD i 0) ≤ 255 then some (Sum.inr (Sum.inr (some (.int (nI ((jz_W 9).getD i 0)))))) else none) rfl (if_pos (h5 i hi)))
theorem jf_40_3 {d s r e : Nat} {b : Nat → Nat} {I : Nat → Nat → Int32} {rho : Nat → Option Nat} {mu : List (Nat × Nat)} (hs : I 30 1 = nI s) (hs2 : s ≤ 160) (hb : ∀ k, k < s → I 31 k = nI (b k)) (hb2 : ∀ k, b k < 256) (he : I 30 2 = nI e) (hr : I 30 4 = nI r) (hre : r ≤ e) (hes : e ≤ s) : jm_ev (d + 5) 40 [.ref 30, .ref 1000004] (jm_hp I rho mu) = some (some (.int (jx_b (jz_wm b r e 9))), jm_hp I rho mu) := by
  have hA : jm_STR ≤ 1000004 ∧ 1000004 - jm_STR < jm_sn := by decide
  have k238 := @jf_238_3 (d + 2) (jm_hp I rho mu)
  have hWl : (jz_W 9).length = 2 := rfl
  have er : nI e - nI r = nI (e - r) := pk_sub hre
  by_cases hl : e - r = 2
  · have e0 : jm_ev (d + 5) 40 [.ref 30, .ref 1000004] (jm_hp I rho mu) = jm_go (jm_ev (d + 4)) 40 (20, [some (.ref 30), some (.ref 1000004), some (.int (nI 0))], [], jm_hp I rho mu) := by
      simp (disch := first | assumption | omega | exact jx_bz _ | exact jx_z0 | exact jx_z1 | (refine jx_ixB ?_ ?_; omega; omega) | (simp (disch := first | omega | fail) only [jx_lit, pk_mul, nI_add, nI_pred, pk_sub, jx_na, jx_add0, Nat.reduceMul, Nat.reduceAdd, Nat.reduceSub, Nat.reduceEqDiff, Nat.reduceLeDiff, Nat.reduceLT, k238, he, hr, er, hl]; refine jx_ixC ?_ ?_; omega; omega) | (simp (disch := first | omega | fail) only [jx_lit, pk_mul, nI_add, nI_pred, pk_sub, jx_na, jx_add0, Nat.reduceMul, Nat.reduceAdd, Nat.reduceSub, Nat.reduceEqDiff, Nat.reduceLeDiff, Nat.reduceLT, jx_cl, nI_leI, Nat.zero_le, true_and, k238, he, hr, er, hl]; omega) | fail) only [je_40, jb_40_0, jb_40_4, jb_40_16, jb_40_18, jb_40_25, jb_40_28, jb_40_33, jb_40_43, jb_40_46, jb_40_48, jb_40_54, jx_nl, jx_nlr, jx_thenS, jx_tlS, jx_tlN, jm_ite_go, jx_rds, jx_rdn, jx_lit, pk_mul, nI_add, nI_pred, pk_sub, jx_na, jx_add0, Nat.reduceMul, Nat.reduceAdd, Nat.reduceSub, Nat.reduceEqDiff, Nat.reduceLeDiff, Nat.reduceLT, Nat.not_lt_zero, jx_cl, nI_leI, nI_ltI, nI_eq, jx_neg, jx_neg', jx_negE, jx_negL, jx_negG, jx_negLE, jx_negN, sb_nlt, sb_nle, jx_b0, jx_b1, jx_bT, jx_bF, ite_true, ite_false, if_true, if_false, reduceIte, Bool.false_eq_true, Bool.true_eq_false, eq_self, Nat.one_ne_zero, Nat.add_sub_cancel, not_true_eq_false, not_false_eq_true, k238, he, hr, er, hl]
    have st : ∀ i, i < 2 → jm_go (jm_ev (d + 4)) 40 (20, [some (.ref 30), some (.ref 1000004), some (.int (nI i))], [], jm_hp I rho mu) = if (jz_W 9).getD i 0 = b (r + i) then jm_go (jm_ev (d + 4)) 40 (20, [some (.ref 30), some (.ref 1000004), some (.int (nI (i + 1)))], [], jm_hp I rho mu) else some (some (.int (nI 0)), jm_hp I rho mu) := fun i hi => by
      have zn : ¬ 2 ≤ i := by omega
      have k239 := @jf_239_3 d i (jm_hp I rho mu) hi
      have k26 := @jf_26 (d + 3) s (r + i) I rho mu hs hs2 (by omega)
      rw [hb _ (by omega)] at k26
      have hc : (jz_W 9).getD i 0 < 256 := by
        have : ∀ i, i < 2 → (jz_W 9).getD i 0 < 256 := by decide
        exact this i hi
      have hc2 := hb2 (r + i)
      rw [jb_40_20 hA]
      by_cases q : (jz_W 9).getD i 0 = b (r + i)
      · rw [if_pos q]
        rw [q] at k239
        simp (disch := first | assumption | omega | exact jx_bz _ | exact jx_z0 | exact jx_z1 | (refine jx_ixB ?_ ?_; omega; omega) | (simp (disch := first | omega | fail) only [jx_lit, pk_mul, nI_add, nI_pred, pk_sub, jx_na, jx_add0, Nat.reduceMul, Nat.reduceAdd, Nat.reduceSub, Nat.reduceEqDiff, Nat.reduceLeDiff, Nat.reduceLT, k238, zn, k239, hr, k26]; refine jx_ixC ?_ ?_; omega; omega) | (simp (disch := first | omega | fail) only [jx_lit, pk_mul, nI_add, nI_pred, pk_sub, jx_na, jx_add0, Nat.reduceMul, Nat.reduceAdd, Nat.reduceSub, Nat.reduceEqDiff, Nat.reduceLeDiff, Nat.reduceLT, jx_cl, nI_leI, Nat.zero_le, true_and, k238, zn, k239, hr, k26]; omega) | fail) only [jb_40_0, jb_40_4, jb_40_16, jb_40_18, jb_40_25, jb_40_28, jb_40_33, jb_40_43, jb_40_46, jb_40_48, jb_40_54, jx_nl, jx_nlr, jx_thenS, jx_tlS, jx_tlN, jm_ite_go, jx_rds, jx_rdn, jx_lit, pk_mul, nI_add, nI_pred, pk_sub, jx_na, jx_add0, Nat.reduceMul, Nat.reduceAdd, Nat.reduceSub, Nat.reduceEqDiff, Nat.reduceLeDiff, Nat.reduceLT, Nat.not_lt_zero, jx_cl, nI_leI, nI_ltI, nI_eq, jx_neg, jx_neg', jx_negE, jx_negL, jx_negG, jx_negLE, jx_negN, sb_nlt, sb_nle, jx_b0, jx_b1, jx_bT, jx_bF, ite_true, ite_false, if_true, if_false, reduceIte, Bool.false_eq_true, Bool.true_eq_false, eq_self, Nat.one_ne_zero, Nat.add_sub_cancel, not_true_eq_false, not_false_eq_true, k238, zn, k239, hr, k26]
      · rw [if_neg q]
        simp (disch := first | assumption | omega | exact jx_bz _ | exact jx_z0 | exact jx_z1 | (refine jx_ixB ?_ ?_; omega; omega) | (simp (disch := first | omega | fail) only [jx_lit, pk_mul, nI_add, nI_pred, pk_sub, jx_na, jx_add0, Nat.reduceMul, Nat.reduceAdd, Nat.reduceSub, Nat.reduceEqDiff, Nat.reduceLeDiff, Nat.reduceLT, k238, zn, k239, hr, k26, q]; refine jx_ixC ?_ ?_; omega; omega) | (simp (disch := first | omega | fail) only [jx_lit, pk_mul, nI_add, nI_pred, pk_sub, jx_na, jx_add0, Nat.reduceMul, Nat.reduceAdd, Nat.reduceSub, Nat.reduceEqDiff, Nat.reduceLeDiff, Nat.reduceLT, jx_cl, nI_leI, Nat.zero_le, true_and, k238, zn, k239, hr, k26, q]; omega) | fail) only [jb_40_0, jb_40_4, jb_40_16, jb_40_18, jb_40_25, jb_40_28, jb_40_33, jb_40_43, jb_40_46, jb_40_48, jb_40_54, jx_nl, jx_nlr, jx_thenS, jx_tlS, jx_tlN, jm_ite_go, jx_rds, jx_rdn, jx_lit, pk_mul, nI_add, nI_pred, pk_sub, jx_na, jx_add0, Nat.reduceMul, Nat.reduceAdd, Nat.reduceSub, Nat.reduceEqDiff, Nat.reduceLeDiff, Nat.reduceLT, Nat.not_lt_zero, jx_cl, nI_leI, nI_ltI, nI_eq, jx_neg, jx_neg', jx_negE, jx_negL, jx_negG, jx_negLE, jx_negN, sb_nlt, sb_nle, jx_b0, jx_b1, jx_bT, jx_bF, ite_true, ite_false, if_true, if_false, reduceIte, Bool.false_eq_true, Bool.true_eq_false, eq_self, Nat.one_ne_zero, Nat.add_sub_cancel, not_true_eq_false, not_false_eq_true, k238, zn, k239, hr, k26, q]
    rcases jx_least (fun i => !decide ((jz_W 9).getD i 0 = b (r + i))) 2 with ⟨k, hk, h1, h2⟩ | h2
    · have h1 : ¬ (jz_W 9).getD k 0 = b (r + k) := by simpa using h1
      have h2 : ∀ j, j < k → (jz_W 9).getD j 0 = b (r + j) := fun j hj => by simpa using h2 j hj
      rw [jz_wm_ne (i := k) (by rw [hWl]; exact hk) h1]
      have lp := jx_for0 (E := jm_ev (d + 4)) (y := 40) k (fun i => (20, [some (.ref 30), some (.ref 1000004), some (.int (nI i))], [], jm_hp I rho mu)) (fun i hi => by rw [st i (by omega), if_pos (h2 i hi)]) k (Nat.le_refl _)
      rw [e0]
      refine Eq.trans lp ?_
      rw [st k hk, if_neg h1]
      rfl
    · have h2 : ∀ j, j < 2 → (jz_W 9).getD j 0 = b (r + j) := fun j hj => by simpa using h2 j hj
      rw [jz_wm_T (by rw [hWl]; exact hl) fun i hi => h2 i (by rw [hWl] at hi; exact hi)]
      have lp := jx_for0 (E := jm_ev (d + 4)) (y := 40) 2 (fun i => (20, [some (.ref 30), some (.ref 1000004), some (.int (nI i))], [], jm_hp I rho mu)) (fun i hi => by rw [st i (by omega), if_pos (h2 i hi)]) 2 (Nat.le_refl _)
      rw [e0]
      refine Eq.trans lp ?_
      rw [jb_40_20 hA]
      simp (disch := first | assumption | omega | exact jx_bz _ | exact jx_z0 | exact jx_z1 | (refine jx_ixB ?_ ?_; omega; omega) | (simp (disch := first | omega | fail) only [jx_lit, pk_mul, nI_add, nI_pred, pk_sub, jx_na, jx_add0, Nat.reduceMul, Nat.reduceAdd, Nat.reduceSub, Nat.reduceEqDiff, Nat.reduceLeDiff, Nat.reduceLT, k238]; refine jx_ixC ?_ ?_; omega; omega) | (simp (disch := first | omega | fail) only [jx_lit, pk_mul, nI_add, nI_pred, pk_sub, jx_na, jx_add0, Nat.reduceMul, Nat.reduceAdd, Nat.reduceSub, Nat.reduceEqDiff, Nat.reduceLeDiff, Nat.reduceLT, jx_cl, nI_leI, Nat.zero_le, true_and, k238]; omega) | fail) only [jb_40_0, jb_40_4, jb_40_16, jb_40_18, jb_40_25, jb_40_28, jb_40_33, jb_40_43, jb_40_46, jb_40_48, jb_40_54, jx_nl, jx_nlr, jx_thenS, jx_tlS, jx_tlN, jm_ite_go, jx_rds, jx_rdn, jx_lit, pk_mul, nI_add, nI_pred, pk_sub, jx_na, jx_add0, Nat.reduceMul, Nat.reduceAdd, Nat.reduceSub, Nat.reduceEqDiff, Nat.reduceLeDiff, Nat.reduceLT, Nat.not_lt_zero, jx_cl, nI_leI, nI_ltI, nI_eq, jx_neg, jx_neg', jx_negE, jx_negL, jx_negG, jx_negLE, jx_negN, sb_nlt, sb_nle, jx_b0, jx_b1, jx_bT, jx_bF, ite_true, ite_false, if_true, if_false, reduceIte, Bool.false_eq_true, Bool.true_eq_false, eq_self, Nat.one_ne_zero, Nat.add_sub_cancel, not_true_eq_false, not_false_eq_true, k238]
  · rw [jz_wm_len (by rw [hWl]; exact hl)]
    have hl2 : ¬ 2 = e - r := fun q => hl q.symm
    simp (disch := first | assumption | omega | exact jx_bz _ | exact jx_z0 | exact jx_z1 | (refine jx_ixB ?_ ?_; omega; omega) | (simp (disch := first | omega | fail) only [jx_lit, pk_mul, nI_add, nI_pred, pk_sub, jx_na, jx_add0, Nat.reduceMul, Nat.reduceAdd, Nat.reduceSub, Nat.reduceEqDiff, Nat.reduceLeDiff, Nat.reduceLT, k238, he, hr, er, hl2]; refine jx_ixC ?_ ?_; omega; omega) | (simp (disch := first | omega | fail) only [jx_lit, pk_mul, nI_add, nI_pred, pk_sub, jx_na, jx_add0, Nat.reduceMul, Nat.reduceAdd, Nat.reduceSub, Nat.reduceEqDiff, Nat.reduceLeDiff, Nat.reduceLT, jx_cl, nI_leI, Nat.zero_le, true_and, k238, he, hr, er, hl2]; omega) | fail) only [je_40, jb_40_0, jb_40_4, jb_40_16, jb_40_18, jb_40_25, jb_40_28, jb_40_33, jb_40_43, jb_40_46, jb_40_48, jb_40_54, jx_nl, jx_nlr, jx_thenS, jx_tlS, jx_tlN, jm_ite_go, jx_rds, jx_rdn, jx_lit, pk_mul, nI_add, nI_pred, pk_sub, jx_na, jx_add0, Nat.reduceMul, Nat.reduceAdd, Nat.reduceSub, Nat.reduceEqDiff, Nat.reduceLeDiff, Nat.reduceLT, Nat.not_lt_zero, jx_cl, nI_leI, nI_ltI, nI_eq, jx_neg, jx_neg', jx_negE, jx_negL, jx_negG, jx_negLE, jx_negN, sb_nlt, sb_nle, jx_b0, jx_b1, jx_bT, jx_bF, ite_true, ite_false, if_true, if_false, reduceIte, Bool.false_eq_true, Bool.true_eq_false, eq_self, Nat.one_ne_zero, Nat.add_sub_cancel, not_true_eq_false, not_false_eq_true, k238, he, hr, er, hl2]
/-! and -/
theorem jf_240_4 {d : Nat} {h : jm_H} : jm_ev (d + 1) 240 [.ref 1000005] h = some (some (.int 0), h) :=
  je_240.trans ((jm_go_steps (c2 := (14, [some (.ref 1000005)], [.int 0], h)) 5 rfl).trans (jm_go_ret (v := some (.int 0)) rfl))
theorem jf_241_4 {d : Nat} {h : jm_H} : jm_ev (d + 1) 241 [.ref 1000005] h = some (some (.int 1), h) :=
  je_241.trans ((jm_go_steps (c2 := (18, [some (.ref 1000005)], [.int 1], h)) 7 rfl).trans (jm_go_ret (v := some (.int 1)) rfl))
theorem jf_238_4 {d : Nat} {h : jm_H} : jm_ev (d + 2) 238 [.ref 1000005] h = some (some (.int (nI 3)), h) := by
  refine je_238.trans ((jm_go_steps (c2 := (6, [some (.ref 1000005)], [.ref 1000005, .int (Int32.ofNat 3)], h)) 4 rfl).trans ((jm_go_call (q := (240, [.ref 1000005], [.int (Int32.ofNat 3)])) rfl).trans ?_))
  rw [jf_240_4]
  refine ((jm_go_steps (c2 := (10, [some (.ref 1000005)], [.int (Int32.ofNat 3 >>> ((0 : Int32) &&& 31))], h)) 1 rfl).trans (jm_go_ret (v := some (.int (Int32.ofNat 3 >>> ((0 : Int32) &&& 31)))) rfl)).trans ?_
  rw [show Int32.ofNat 3 >>> ((0 : Int32) &&& 31) = nI 3 by decide]
theorem jf_243_4 {d i : Nat} {h : jm_H} (hi : i < 3) : jm_ev (d + 3) 243 [.ref 1000105, .int (nI i)] h = some (some (.int (nI ((jz_W 10).getD i 0))), h) := by
  have h1 : ¬ nI i < 0 := by rw [show (0 : Int32) = nI 0 from rfl, nI_ltI (by omega) (by decide)]; omega
  have h2 : nI i < nI 3 := by rw [nI_ltI (by omega) (by decide)]; exact hi
  have h3 : 0 ≤ nI i ∧ (nI i).toNatClampNeg < 3 := jx_ixB hi (by decide)
  have h4 : (nI i).toNatClampNeg = i := jx_cl (by omega)
  refine je_243.trans ((jm_go_steps (c2 := (3, [some (.ref 1000105), some (.int (nI i))], [.int (nI 3), .int (nI i)], h)) 3 rfl).trans ((jm_go_call (q := (242, [.int (nI i), .int (nI 3)], [])) rfl).trans ?_))
  rw [jf_242 h1 h2]
  refine (jm_go_steps (c2 := (8, [some (.ref 1000105), some (.int (nI i))], [.int (nI i), .ref 1000105], h)) 2 rfl).trans ?_
  refine (jm_go_next (c2 := (9, [some (.ref 1000105), some (.int (nI i))], [.int (([97, 110, 100] : List Int32).getD (nI i).toNatClampNeg 0)], h)) (Eq.trans (b := if jm_STB ≤ 1000105 ∧ 1000105 - jm_STB < jm_sn ∧ 0 ≤ nI i ∧ (nI i).toNatClampNeg < 3 then some (Sum.inl (9, [some (.ref 1000105), some (.int (nI i))], [.int (([97, 110, 100] : List Int32).getD (nI i).toNatClampNeg 0)], h)) else none) rfl (if_pos ⟨by decide, by decide, h3.1, h3.2⟩))).trans ?_
  rw [h4]
  have h5 : ∀ i, i < 3 → 0 ≤ ((([97, 110, 100] : List Int32).getD i 0 &&& 255).toUInt32 % 65536).toInt32 ∧ ((([97, 110, 100] : List Int32).getD i 0 &&& 255).toUInt32 % 65536).toInt32 ≤ 255 ∧ ((([97, 110, 100] : List Int32).getD i 0 &&& 255).toUInt32 % 65536).toInt32 = nI ((jz_W 10).getD i 0) := by decide
  obtain ⟨h6, h7, h8⟩ := h5 i hi
  refine (jm_go_steps (c2 := (14, [some (.ref 1000105), some (.int (nI i))], [.int ((([97, 110, 100] : List Int32).getD i 0 &&& 255).toUInt32 % 65536).toInt32], h)) 3 rfl).trans ?_
  rw [h8] at h6 h7 ⊢
  exact jm_go_ret (v := some (.int (nI ((jz_W 10).getD i 0)))) (Eq.trans (b := if 0 ≤ nI ((jz_W 10).getD i 0) ∧ nI ((jz_W 10).getD i 0) ≤ 255 then some (Sum.inr (Sum.inr (some (.int (nI ((jz_W 10).getD i 0)))))) else none) rfl (if_pos ⟨h6, h7⟩))
theorem jf_239_4 {d i : Nat} {h : jm_H} (hi : i < 3) : jm_ev (d + 4) 239 [.ref 1000005, .int (nI i)] h = some (some (.int (nI ((jz_W 10).getD i 0))), h) := by
  refine je_239.trans ((jm_go_steps (c2 := (1, [some (.ref 1000005), some (.int (nI i))], [.ref 1000005], h)) 1 rfl).trans ((jm_go_call (q := (241, [.ref 1000005], [])) rfl).trans ?_))
  rw [jf_241_4]
  refine (jm_go_steps (c2 := (12, [some (.ref 1000005), some (.int (nI i))], [.int (nI i), .ref 1000105], h)) 4 rfl).trans ((jm_go_call (q := (243, [.ref 1000105, .int (nI i)], [])) rfl).trans ?_)
  rw [jf_243_4 hi]
  have h5 : ∀ i, i < 3 → 0 ≤ nI ((jz_W 10).getD i 0) ∧ nI ((jz_W 10).getD i 0) ≤ 255 := by decide
  exact jm_go_ret (v := some (.int (nI ((jz_W 10).getD i 0)))) (Eq.trans (b := if 0 ≤ nI ((jz_W 10).getD i 0) ∧ nI ((jz_W 10).getD i 0) ≤ 255 then some (Sum.inr (Sum.inr (some (.int (nI ((jz_W 10).getD i 0)))))) else none) rfl (if_pos (h5 i hi)))
theorem jf_40_4 {d s r e : Nat} {b : Nat → Nat} {I : Nat → Nat → Int32} {rho : Nat → Option Nat} {mu : List (Nat × Nat)} (hs : I 30 1 = nI s) (hs2 : s ≤ 160) (hb : ∀ k, k < s → I 31 k = nI (b k)) (hb2 : ∀ k, b k < 256) (he : I 30 2 = nI e) (hr : I 30 4 = nI r) (hre : r ≤ e) (hes : e ≤ s) : jm_ev (d + 5) 40 [.ref 30, .ref 1000005] (jm_hp I rho mu) = some (some (.int (jx_b (jz_wm b r e 10))), jm_hp I rho mu) := by
  have hA : jm_STR ≤ 1000005 ∧ 1000005 - jm_STR < jm_sn := by decide
  have k238 := @jf_238_4 (d + 2) (jm_hp I rho mu)
  have hWl : (jz_W 10).length = 3 := rfl
  have er : nI e - nI r = nI (e - r) := pk_sub hre
  by_cases hl : e - r = 3
  · have e0 : jm_ev (d + 5) 40 [.ref 30, .ref 1000005] (jm_hp I rho mu) = jm_go (jm_ev (d + 4)) 40 (20, [some (.ref 30), some (.ref 1000005), some (.int (nI 0))], [], jm_hp I rho mu) := by
      simp (disch := first | assumption | omega | exact jx_bz _ | exact jx_z0 | exact jx_z1 | (refine jx_ixB ?_ ?_; omega; omega) | (simp (disch := first | omega | fail) only [jx_lit, pk_mul, nI_add, nI_pred, pk_sub, jx_na, jx_add0, Nat.reduceMul, Nat.reduceAdd, Nat.reduceSub, Nat.reduceEqDiff, Nat.reduceLeDiff, Nat.reduceLT, k238, he, hr, er, hl]; refine jx_ixC ?_ ?_; omega; omega) | (simp (disch := first | omega | fail) only [jx_lit, pk_mul, nI_add, nI_pred, pk_sub, jx_na, jx_add0, Nat.reduceMul, Nat.reduceAdd, Nat.reduceSub, Nat.reduceEqDiff, Nat.reduceLeDiff, Nat.reduceLT, jx_cl, nI_leI, Nat.zero_le, true_and, k238, he, hr, er, hl]; omega) | fail) only [je_40, jb_40_0, jb_40_4, jb_40_16, jb_40_18, jb_40_25, jb_40_28, jb_40_33, jb_40_43, jb_40_46, jb_40_48, jb_40_54, jx_nl, jx_nlr, jx_thenS, jx_tlS, jx_tlN, jm_ite_go, jx_rds, jx_rdn, jx_lit, pk_mul, nI_add, nI_pred, pk_sub, jx_na, jx_add0, Nat.reduceMul, Nat.reduceAdd, Nat.reduceSub, Nat.reduceEqDiff, Nat.reduceLeDiff, Nat.reduceLT, Nat.not_lt_zero, jx_cl, nI_leI, nI_ltI, nI_eq, jx_neg, jx_neg', jx_negE, jx_negL, jx_negG, jx_negLE, jx_negN, sb_nlt, sb_nle, jx_b0, jx_b1, jx_bT, jx_bF, ite_true, ite_false, if_true, if_false, reduceIte, Bool.false_eq_true, Bool.true_eq_false, eq_self, Nat.one_ne_zero, Nat.add_sub_cancel, not_true_eq_false, not_false_eq_true, k238, he, hr, er, hl]
    have st : ∀ i, i < 3 → jm_go (jm_ev (d + 4)) 40 (20, [some (.ref 30), some (.ref 1000005), some (.int (nI i))], [], jm_hp I rho mu) = if (jz_W 10).getD i 0 = b (r + i) then jm_go (jm_ev (d + 4)) 40 (20, [some (.ref 30), some (.ref 1000005), some (.int (nI (i + 1)))], [], jm_hp I rho mu) else some (some (.int (nI 0)), jm_hp I rho mu) := fun i hi => by
      have zn : ¬ 3 ≤ i := by omega
      have k239 := @jf_239_4 d i (jm_hp I rho mu) hi
      have k26 := @jf_26 (d + 3) s (r + i) I rho mu hs hs2 (by omega)
      rw [hb _ (by omega)] at k26
      have hc : (jz_W 10).getD i 0 < 256 := by
        have : ∀ i, i < 3 → (jz_W 10).getD i 0 < 256 := by decide
        exact this i hi
      have hc2 := hb2 (r + i)
      rw [jb_40_20 hA]
      by_cases q : (jz_W 10).getD i 0 = b (r + i)
      · rw [if_pos q]
        rw [q] at k239
        simp (disch := first | assumption | omega | exact jx_bz _ | exact jx_z0 | exact jx_z1 | (refine jx_ixB ?_ ?_; omega; omega) | (simp (disch := first | omega | fail) only [jx_lit, pk_mul, nI_add, nI_pred, pk_sub, jx_na, jx_add0, Nat.reduceMul, Nat.reduceAdd, Nat.reduceSub, Nat.reduceEqDiff, Nat.reduceLeDiff, Nat.reduceLT, k238, zn, k239, hr, k26]; refine jx_ixC ?_ ?_; omega; omega) | (simp (disch := first | omega | fail) only [jx_lit, pk_mul, nI_add, nI_pred, pk_sub, jx_na, jx_add0, Nat.reduceMul, Nat.reduceAdd, Nat.reduceSub, Nat.reduceEqDiff, Nat.reduceLeDiff, Nat.reduceLT, jx_cl, nI_leI, Nat.zero_le, true_and, k238, zn, k239, hr, k26]; omega) | fail) only [jb_40_0, jb_40_4, jb_40_16, jb_40_18, jb_40_25, jb_40_28, jb_40_33, jb_40_43, jb_40_46, jb_40_48, jb_40_54, jx_nl, jx_nlr, jx_thenS, jx_tlS, jx_tlN, jm_ite_go, jx_rds, jx_rdn, jx_lit, pk_mul, nI_add, nI_pred, pk_sub, jx_na, jx_add0, Nat.reduceMul, Nat.reduceAdd, Nat.reduceSub, Nat.reduceEqDiff, Nat.reduceLeDiff, Nat.reduceLT, Nat.not_lt_zero, jx_cl, nI_leI, nI_ltI, nI_eq, jx_neg, jx_neg', jx_negE, jx_negL, jx_negG, jx_negLE, jx_negN, sb_nlt, sb_nle, jx_b0, jx_b1, jx_bT, jx_bF, ite_true, ite_false, if_true, if_false, reduceIte, Bool.false_eq_true, Bool.true_eq_false, eq_self, Nat.one_ne_zero, Nat.add_sub_cancel, not_true_eq_false, not_false_eq_true, k238, zn, k239, hr, k26]
      · rw [if_neg q]
        simp (disch := first | assumption | omega | exact jx_bz _ | exact jx_z0 | exact jx_z1 | (refine jx_ixB ?_ ?_; omega; omega) | (simp (disch := first | omega | fail) only [jx_lit, pk_mul, nI_add, nI_pred, pk_sub, jx_na, jx_add0, Nat.reduceMul, Nat.reduceAdd, Nat.reduceSub, Nat.reduceEqDiff, Nat.reduceLeDiff, Nat.reduceLT, k238, zn, k239, hr, k26, q]; refine jx_ixC ?_ ?_; omega; omega) | (simp (disch := first | omega | fail) only [jx_lit, pk_mul, nI_add, nI_pred, pk_sub, jx_na, jx_add0, Nat.reduceMul, Nat.reduceAdd, Nat.reduceSub, Nat.reduceEqDiff, Nat.reduceLeDiff, Nat.reduceLT, jx_cl, nI_leI, Nat.zero_le, true_and, k238, zn, k239, hr, k26, q]; omega) | fail) only [jb_40_0, jb_40_4, jb_40_16, jb_40_18, jb_40_25, jb_40_28, jb_40_33, jb_40_43, jb_40_46, jb_40_48, jb_40_54, jx_nl, jx_nlr, jx_thenS, jx_tlS, jx_tlN, jm_ite_go, jx_rds, jx_rdn, jx_lit, pk_mul, nI_add, nI_pred, pk_sub, jx_na, jx_add0, Nat.reduceMul, Nat.reduceAdd, Nat.reduceSub, Nat.reduceEqDiff, Nat.reduceLeDiff, Nat.reduceLT, Nat.not_lt_zero, jx_cl, nI_leI, nI_ltI, nI_eq, jx_neg, jx_neg', jx_negE, jx_negL, jx_negG, jx_negLE, jx_negN, sb_nlt, sb_nle, jx_b0, jx_b1, jx_bT, jx_bF, ite_true, ite_false, if_true, if_false, reduceIte, Bool.false_eq_true, Bool.true_eq_false, eq_self, Nat.one_ne_zero, Nat.add_sub_cancel, not_true_eq_false, not_false_eq_true, k238, zn, k239, hr, k26, q]
    rcases jx_least (fun i => !decide ((jz_W 10).getD i 0 = b (r + i))) 3 with ⟨k, hk, h1, h2⟩ | h2
    · have h1 : ¬ (jz_W 10).getD k 0 = b (r + k) := by simpa using h1
      have h2 : ∀ j, j < k → (jz_W 10).getD j 0 = b (r + j) := fun j hj => by simpa using h2 j hj
      rw [jz_wm_ne (i := k) (by rw [hWl]; exact hk) h1]
      have lp := jx_for0 (E := jm_ev (d + 4)) (y := 40) k (fun i => (20, [some (.ref 30), some (.ref 1000005), some (.int (nI i))], [], jm_hp I rho mu)) (fun i hi => by rw [st i (by omega), if_pos (h2 i hi)]) k (Nat.le_refl _)
      rw [e0]
      refine Eq.trans lp ?_
      rw [st k hk, if_neg h1]
      rfl
    · have h2 : ∀ j, j < 3 → (jz_W 10).getD j 0 = b (r + j) := fun j hj => by simpa using h2 j hj
      rw [jz_wm_T (by rw [hWl]; exact hl) fun i hi => h2 i (by rw [hWl] at hi; exact hi)]
      have lp := jx_for0 (E := jm_ev (d + 4)) (y := 40) 3 (fun i => (20, [some (.ref 30), some (.ref 1000005), some (.int (nI i))], [], jm_hp I rho mu)) (fun i hi => by rw [st i (by omega), if_pos (h2 i hi)]) 3 (Nat.le_refl _)
      rw [e0]
      refine Eq.trans lp ?_
      rw [jb_40_20 hA]
      simp (disch := first | assumption | omega | exact jx_bz _ | exact jx_z0 | exact jx_z1 | (refine jx_ixB ?_ ?_; omega; omega) | (simp (disch := first | omega | fail) only [jx_lit, pk_mul, nI_add, nI_pred, pk_sub, jx_na, jx_add0, Nat.reduceMul, Nat.reduceAdd, Nat.reduceSub, Nat.reduceEqDiff, Nat.reduceLeDiff, Nat.reduceLT, k238]; refine jx_ixC ?_ ?_; omega; omega) | (simp (disch := first | omega | fail) only [jx_lit, pk_mul, nI_add, nI_pred, pk_sub, jx_na, jx_add0, Nat.reduceMul, Nat.reduceAdd, Nat.reduceSub, Nat.reduceEqDiff, Nat.reduceLeDiff, Nat.reduceLT, jx_cl, nI_leI, Nat.zero_le, true_and, k238]; omega) | fail) only [jb_40_0, jb_40_4, jb_40_16, jb_40_18, jb_40_25, jb_40_28, jb_40_33, jb_40_43, jb_40_46, jb_40_48, jb_40_54, jx_nl, jx_nlr, jx_thenS, jx_tlS, jx_tlN, jm_ite_go, jx_rds, jx_rdn, jx_lit, pk_mul, nI_add, nI_pred, pk_sub, jx_na, jx_add0, Nat.reduceMul, Nat.reduceAdd, Nat.reduceSub, Nat.reduceEqDiff, Nat.reduceLeDiff, Nat.reduceLT, Nat.not_lt_zero, jx_cl, nI_leI, nI_ltI, nI_eq, jx_neg, jx_neg', jx_negE, jx_negL, jx_negG, jx_negLE, jx_negN, sb_nlt, sb_nle, jx_b0, jx_b1, jx_bT, jx_bF, ite_true, ite_false, if_true, if_false, reduceIte, Bool.false_eq_true, Bool.true_eq_false, eq_self, Nat.one_ne_zero, Nat.add_sub_cancel, not_true_eq_false, not_false_eq_true, k238]
  · rw [jz_wm_len (by rw [hWl]; exact hl)]
    have hl2 : ¬ 3 = e - r := fun q => hl q.symm
    simp (disch := first | assumption | omega | exact jx_bz _ | exact jx_z0 | exact jx_z1 | (refine jx_ixB ?_ ?_; omega; omega) | (simp (disch := first | omega | fail) only [jx_lit, pk_mul, nI_add, nI_pred, pk_sub, jx_na, jx_add0, Nat.reduceMul, Nat.reduceAdd, Nat.reduceSub, Nat.reduceEqDiff, Nat.reduceLeDiff, Nat.reduceLT, k238, he, hr, er, hl2]; refine jx_ixC ?_ ?_; omega; omega) | (simp (disch := first | omega | fail) only [jx_lit, pk_mul, nI_add, nI_pred, pk_sub, jx_na, jx_add0, Nat.reduceMul, Nat.reduceAdd, Nat.reduceSub, Nat.reduceEqDiff, Nat.reduceLeDiff, Nat.reduceLT, jx_cl, nI_leI, Nat.zero_le, true_and, k238, he, hr, er, hl2]; omega) | fail) only [je_40, jb_40_0, jb_40_4, jb_40_16, jb_40_18, jb_40_25, jb_40_28, jb_40_33, jb_40_43, jb_40_46, jb_40_48, jb_40_54, jx_nl, jx_nlr, jx_thenS, jx_tlS, jx_tlN, jm_ite_go, jx_rds, jx_rdn, jx_lit, pk_mul, nI_add, nI_pred, pk_sub, jx_na, jx_add0, Nat.reduceMul, Nat.reduceAdd, Nat.reduceSub, Nat.reduceEqDiff, Nat.reduceLeDiff, Nat.reduceLT, Nat.not_lt_zero, jx_cl, nI_leI, nI_ltI, nI_eq, jx_neg, jx_neg', jx_negE, jx_negL, jx_negG, jx_negLE, jx_negN, sb_nlt, sb_nle, jx_b0, jx_b1, jx_bT, jx_bF, ite_true, ite_false, if_true, if_false, reduceIte, Bool.false_eq_true, Bool.true_eq_false, eq_self, Nat.one_ne_zero, Nat.add_sub_cancel, not_true_eq_false, not_false_eq_true, k238, he, hr, er, hl2]
/-! not -/
theorem jf_240_5 {d : Nat} {h : jm_H} : jm_ev (d + 1) 240 [.ref 1000006] h = some (some (.int 0), h) :=
  je_240.trans ((jm_go_steps (c2 := (14, [some (.ref 1000006)], [.int 0], h)) 5 rfl).trans (jm_go_ret (v := some (.int 0)) rfl))
theorem jf_241_5 {d : Nat} {h : jm_H} : jm_ev (d + 1) 241 [.ref 1000006] h = some (some (.int 1), h) :=
  je_241.trans ((jm_go_steps (c2 := (18, [some (.ref 1000006)], [.int 1], h)) 7 rfl).trans (jm_go_ret (v := some (.int 1)) rfl))
theorem jf_238_5 {d : Nat} {h : jm_H} : jm_ev (d + 2) 238 [.ref 1000006] h = some (some (.int (nI 3)), h) := by
  refine je_238.trans ((jm_go_steps (c2 := (6, [some (.ref 1000006)], [.ref 1000006, .int (Int32.ofNat 3)], h)) 4 rfl).trans ((jm_go_call (q := (240, [.ref 1000006], [.int (Int32.ofNat 3)])) rfl).trans ?_))
  rw [jf_240_5]
  refine ((jm_go_steps (c2 := (10, [some (.ref 1000006)], [.int (Int32.ofNat 3 >>> ((0 : Int32) &&& 31))], h)) 1 rfl).trans (jm_go_ret (v := some (.int (Int32.ofNat 3 >>> ((0 : Int32) &&& 31)))) rfl)).trans ?_
  rw [show Int32.ofNat 3 >>> ((0 : Int32) &&& 31) = nI 3 by decide]
theorem jf_243_5 {d i : Nat} {h : jm_H} (hi : i < 3) : jm_ev (d + 3) 243 [.ref 1000106, .int (nI i)] h = some (some (.int (nI ((jz_W 11).getD i 0))), h) := by
  have h1 : ¬ nI i < 0 := by rw [show (0 : Int32) = nI 0 from rfl, nI_ltI (by omega) (by decide)]; omega
  have h2 : nI i < nI 3 := by rw [nI_ltI (by omega) (by decide)]; exact hi
  have h3 : 0 ≤ nI i ∧ (nI i).toNatClampNeg < 3 := jx_ixB hi (by decide)
  have h4 : (nI i).toNatClampNeg = i := jx_cl (by omega)
  refine je_243.trans ((jm_go_steps (c2 := (3, [some (.ref 1000106), some (.int (nI i))], [.int (nI 3), .int (nI i)], h)) 3 rfl).trans ((jm_go_call (q := (242, [.int (nI i), .int (nI 3)], [])) rfl).trans ?_))
  rw [jf_242 h1 h2]
  refine (jm_go_steps (c2 := (8, [some (.ref 1000106), some (.int (nI i))], [.int (nI i), .ref 1000106], h)) 2 rfl).trans ?_
  refine (jm_go_next (c2 := (9, [some (.ref 1000106), some (.int (nI i))], [.int (([110, 111, 116] : List Int32).getD (nI i).toNatClampNeg 0)], h)) (Eq.trans (b := if jm_STB ≤ 1000106 ∧ 1000106 - jm_STB < jm_sn ∧ 0 ≤ nI i ∧ (nI i).toNatClampNeg < 3 then some (Sum.inl (9, [some (.ref 1000106), some (.int (nI i))], [.int (([110, 111, 116] : List Int32).getD (nI i).toNatClampNeg 0)], h)) else none) rfl (if_pos ⟨by decide, by decide, h3.1, h3.2⟩))).trans ?_
  rw [h4]
  have h5 : ∀ i, i < 3 → 0 ≤ ((([110, 111, 116] : List Int32).getD i 0 &&& 255).toUInt32 % 65536).toInt32 ∧ ((([110, 111, 116] : List Int32).getD i 0 &&& 255).toUInt32 % 65536).toInt32 ≤ 255 ∧ ((([110, 111, 116] : List Int32).getD i 0 &&& 255).toUInt32 % 65536).toInt32 = nI ((jz_W 11).getD i 0) := by decide
  obtain ⟨h6, h7, h8⟩ := h5 i hi
  refine (jm_go_steps (c2 := (14, [some (.ref 1000106), some (.int (nI i))], [.int ((([110, 111, 116] : List Int32).getD i 0 &&& 255).toUInt32 % 65536).toInt32], h)) 3 rfl).trans ?_
  rw [h8] at h6 h7 ⊢
  exact jm_go_ret (v := some (.int (nI ((jz_W 11).getD i 0)))) (Eq.trans (b := if 0 ≤ nI ((jz_W 11).getD i 0) ∧ nI ((jz_W 11).getD i 0) ≤ 255 then some (Sum.inr (Sum.inr (some (.int (nI ((jz_W 11).getD i 0)))))) else none) rfl (if_pos ⟨h6, h7⟩))
theorem jf_239_5 {d i : Nat} {h : jm_H} (hi : i < 3) : jm_ev (d + 4) 239 [.ref 1000006, .int (nI i)] h = some (some (.int (nI ((jz_W 11).getD i 0))), h) := by
  refine je_239.trans ((jm_go_steps (c2 := (1, [some (.ref 1000006), some (.int (nI i))], [.ref 1000006], h)) 1 rfl).trans ((jm_go_call (q := (241, [.ref 1000006], [])) rfl).trans ?_))
  rw [jf_241_5]
  refine (jm_go_steps (c2 := (12, [some (.ref 1000006), some (.int (nI i))], [.int (nI i), .ref 1000106], h)) 4 rfl).trans ((jm_go_call (q := (243, [.ref 1000106, .int (nI i)], [])) rfl).trans ?_)
  rw [jf_243_5 hi]
  have h5 : ∀ i, i < 3 → 0 ≤ nI ((jz_W 11).getD i 0) ∧ nI ((jz_W 11).getD i 0) ≤ 255 := by decide
  exact jm_go_ret (v := some (.int (nI ((jz_W 11).getD i 0)))) (Eq.trans (b := if 0 ≤ nI ((jz_W 11).getD i 0) ∧ nI ((jz_W 11).getD i 0) ≤ 255 then some (Sum.inr (Sum.inr (some (.int (nI ((jz_W 11).getD i 0)))))) else none) rfl (if_pos (h5 i hi)))
theorem jf_40_5 {d s r e : Nat} {b : Nat → Nat} {I : Nat → Nat → Int32} {rho : Nat → Option Nat} {mu : List (Nat × Nat)} (hs : I 30 1 = nI s) (hs2 : s ≤ 160) (hb : ∀ k, k < s → I 31 k = nI (b k)) (hb2 : ∀ k, b k < 256) (he : I 30 2 = nI e) (hr : I 30 4 = nI r) (hre : r ≤ e) (hes : e ≤ s) : jm_ev (d + 5) 40 [.ref 30, .ref 1000006] (jm_hp I rho mu) = some (some (.int (jx_b (jz_wm b r e 11))), jm_hp I rho mu) := by
  have hA : jm_STR ≤ 1000006 ∧ 1000006 - jm_STR < jm_sn := by decide
  have k238 := @jf_238_5 (d + 2) (jm_hp I rho mu)
  have hWl : (jz_W 11).length = 3 := rfl
  have er : nI e - nI r = nI (e - r) := pk_sub hre
  by_cases hl : e - r = 3
  · have e0 : jm_ev (d + 5) 40 [.ref 30, .ref 1000006] (jm_hp I rho mu) = jm_go (jm_ev (d + 4)) 40 (20, [some (.ref 30), some (.ref 1000006), some (.int (nI 0))], [], jm_hp I rho mu) := by
      simp (disch := first | assumption | omega | exact jx_bz _ | exact jx_z0 | exact jx_z1 | (refine jx_ixB ?_ ?_; omega; omega) | (simp (disch := first | omega | fail) only [jx_lit, pk_mul, nI_add, nI_pred, pk_sub, jx_na, jx_add0, Nat.reduceMul, Nat.reduceAdd, Nat.reduceSub, Nat.reduceEqDiff, Nat.reduceLeDiff, Nat.reduceLT, k238, he, hr, er, hl]; refine jx_ixC ?_ ?_; omega; omega) | (simp (disch := first | omega | fail) only [jx_lit, pk_mul, nI_add, nI_pred, pk_sub, jx_na, jx_add0, Nat.reduceMul, Nat.reduceAdd, Nat.reduceSub, Nat.reduceEqDiff, Nat.reduceLeDiff, Nat.reduceLT, jx_cl, nI_leI, Nat.zero_le, true_and, k238, he, hr, er, hl]; omega) | fail) only [je_40, jb_40_0, jb_40_4, jb_40_16, jb_40_18, jb_40_25, jb_40_28, jb_40_33, jb_40_43, jb_40_46, jb_40_48, jb_40_54, jx_nl, jx_nlr, jx_thenS, jx_tlS, jx_tlN, jm_ite_go, jx_rds, jx_rdn, jx_lit, pk_mul, nI_add, nI_pred, pk_sub, jx_na, jx_add0, Nat.reduceMul, Nat.reduceAdd, Nat.reduceSub, Nat.reduceEqDiff, Nat.reduceLeDiff, Nat.reduceLT, Nat.not_lt_zero, jx_cl, nI_leI, nI_ltI, nI_eq, jx_neg, jx_neg', jx_negE, jx_negL, jx_negG, jx_negLE, jx_negN, sb_nlt, sb_nle, jx_b0, jx_b1, jx_bT, jx_bF, ite_true, ite_false, if_true, if_false, reduceIte, Bool.false_eq_true, Bool.true_eq_false, eq_self, Nat.one_ne_zero, Nat.add_sub_cancel, not_true_eq_false, not_false_eq_true, k238, he, hr, er, hl]
    have st : ∀ i, i < 3 → jm_go (jm_ev (d + 4)) 40 (20, [some (.ref 30), some (.ref 1000006), some (.int (nI i))], [], jm_hp I rho mu) = if (jz_W 11).getD i 0 = b (r + i) then jm_go (jm_ev (d + 4)) 40 (20, [some (.ref 30), some (.ref 1000006), some (.int (nI (i + 1)))], [], jm_hp I rho mu) else some (some (.int (nI 0)), jm_hp I rho mu) := fun i hi => by
      have zn : ¬ 3 ≤ i := by omega
      have k239 := @jf_239_5 d i (jm_hp I rho mu) hi
      have k26 := @jf_26 (d + 3) s (r + i) I rho mu hs hs2 (by omega)
      rw [hb _ (by omega)] at k26
      have hc : (jz_W 11).getD i 0 < 256 := by
        have : ∀ i, i < 3 → (jz_W 11).getD i 0 < 256 := by decide
        exact this i hi
      have hc2 := hb2 (r + i)
      rw [jb_40_20 hA]
      by_cases q : (jz_W 11).getD i 0 = b (r + i)
      · rw [if_pos q]
        rw [q] at k239
        simp (disch := first | assumption | omega | exact jx_bz _ | exact jx_z0 | exact jx_z1 | (refine jx_ixB ?_ ?_; omega; omega) | (simp (disch := first | omega | fail) only [jx_lit, pk_mul, nI_add, nI_pred, pk_sub, jx_na, jx_add0, Nat.reduceMul, Nat.reduceAdd, Nat.reduceSub, Nat.reduceEqDiff, Nat.reduceLeDiff, Nat.reduceLT, k238, zn, k239, hr, k26]; refine jx_ixC ?_ ?_; omega; omega) | (simp (disch := first | omega | fail) only [jx_lit, pk_mul, nI_add, nI_pred, pk_sub, jx_na, jx_add0, Nat.reduceMul, Nat.reduceAdd, Nat.reduceSub, Nat.reduceEqDiff, Nat.reduceLeDiff, Nat.reduceLT, jx_cl, nI_leI, Nat.zero_le, true_and, k238, zn, k239, hr, k26]; omega) | fail) only [jb_40_0, jb_40_4, jb_40_16, jb_40_18, jb_40_25, jb_40_28, jb_40_33, jb_40_43, jb_40_46, jb_40_48, jb_40_54, jx_nl, jx_nlr, jx_thenS, jx_tlS, jx_tlN, jm_ite_go, jx_rds, jx_rdn, jx_lit, pk_mul, nI_add, nI_pred, pk_sub, jx_na, jx_add0, Nat.reduceMul, Nat.reduceAdd, Nat.reduceSub, Nat.reduceEqDiff, Nat.reduceLeDiff, Nat.reduceLT, Nat.not_lt_zero, jx_cl, nI_leI, nI_ltI, nI_eq, jx_neg, jx_neg', jx_negE, jx_negL, jx_negG, jx_negLE, jx_negN, sb_nlt, sb_nle, jx_b0, jx_b1, jx_bT, jx_bF, ite_true, ite_false, if_true, if_false, reduceIte, Bool.false_eq_true, Bool.true_eq_false, eq_self, Nat.one_ne_zero, Nat.add_sub_cancel, not_true_eq_false, not_false_eq_true, k238, zn, k239, hr, k26]
      · rw [if_neg q]
        simp (disch := first | assumption | omega | exact jx_bz _ | exact jx_z0 | exact jx_z1 | (refine jx_ixB ?_ ?_; omega; omega) | (simp (disch := first | omega | fail) only [jx_lit, pk_mul, nI_add, nI_pred, pk_sub, jx_na, jx_add0, Nat.reduceMul, Nat.reduceAdd, Nat.reduceSub, Nat.reduceEqDiff, Nat.reduceLeDiff, Nat.reduceLT, k238, zn, k239, hr, k26, q]; refine jx_ixC ?_ ?_; omega; omega) | (simp (disch := first | omega | fail) only [jx_lit, pk_mul, nI_add, nI_pred, pk_sub, jx_na, jx_add0, Nat.reduceMul, Nat.reduceAdd, Nat.reduceSub, Nat.reduceEqDiff, Nat.reduceLeDiff, Nat.reduceLT, jx_cl, nI_leI, Nat.zero_le, true_and, k238, zn, k239, hr, k26, q]; omega) | fail) only [jb_40_0, jb_40_4, jb_40_16, jb_40_18, jb_40_25, jb_40_28, jb_40_33, jb_40_43, jb_40_46, jb_40_48, jb_40_54, jx_nl, jx_nlr, jx_thenS, jx_tlS, jx_tlN, jm_ite_go, jx_rds, jx_rdn, jx_lit, pk_mul, nI_add, nI_pred, pk_sub, jx_na, jx_add0, Nat.reduceMul, Nat.reduceAdd, Nat.reduceSub, Nat.reduceEqDiff, Nat.reduceLeDiff, Nat.reduceLT, Nat.not_lt_zero, jx_cl, nI_leI, nI_ltI, nI_eq, jx_neg, jx_neg', jx_negE, jx_negL, jx_negG, jx_negLE, jx_negN, sb_nlt, sb_nle, jx_b0, jx_b1, jx_bT, jx_bF, ite_true, ite_false, if_true, if_false, reduceIte, Bool.false_eq_true, Bool.true_eq_false, eq_self, Nat.one_ne_zero, Nat.add_sub_cancel, not_true_eq_false, not_false_eq_true, k238, zn, k239, hr, k26, q]
    rcases jx_least (fun i => !decide ((jz_W 11).getD i 0 = b (r + i))) 3 with ⟨k, hk, h1, h2⟩ | h2
    · have h1 : ¬ (jz_W 11).getD k 0 = b (r + k) := by simpa using h1
      have h2 : ∀ j, j < k → (jz_W 11).getD j 0 = b (r + j) := fun j hj => by simpa using h2 j hj
      rw [jz_wm_ne (i := k) (by rw [hWl]; exact hk) h1]
      have lp := jx_for0 (E := jm_ev (d + 4)) (y := 40) k (fun i => (20, [some (.ref 30), some (.ref 1000006), some (.int (nI i))], [], jm_hp I rho mu)) (fun i hi => by rw [st i (by omega), if_pos (h2 i hi)]) k (Nat.le_refl _)
      rw [e0]
      refine Eq.trans lp ?_
      rw [st k hk, if_neg h1]
      rfl
    · have h2 : ∀ j, j < 3 → (jz_W 11).getD j 0 = b (r + j) := fun j hj => by simpa using h2 j hj
      rw [jz_wm_T (by rw [hWl]; exact hl) fun i hi => h2 i (by rw [hWl] at hi; exact hi)]
      have lp := jx_for0 (E := jm_ev (d + 4)) (y := 40) 3 (fun i => (20, [some (.ref 30), some (.ref 1000006), some (.int (nI i))], [], jm_hp I rho mu)) (fun i hi => by rw [st i (by omega), if_pos (h2 i hi)]) 3 (Nat.le_refl _)
      rw [e0]
      refine Eq.trans lp ?_
      rw [jb_40_20 hA]
      simp (disch := first | assumption | omega | exact jx_bz _ | exact jx_z0 | exact jx_z1 | (refine jx_ixB ?_ ?_; omega; omega) | (simp (disch := first | omega | fail) only [jx_lit, pk_mul, nI_add, nI_pred, pk_sub, jx_na, jx_add0, Nat.reduceMul, Nat.reduceAdd, Nat.reduceSub, Nat.reduceEqDiff, Nat.reduceLeDiff, Nat.reduceLT, k238]; refine jx_ixC ?_ ?_; omega; omega) | (simp (disch := first | omega | fail) only [jx_lit, pk_mul, nI_add, nI_pred, pk_sub, jx_na, jx_add0, Nat.reduceMul, Nat.reduceAdd, Nat.reduceSub, Nat.reduceEqDiff, Nat.reduceLeDiff, Nat.reduceLT, jx_cl, nI_leI, Nat.zero_le, true_and, k238]; omega) | fail) only [jb_40_0, jb_40_4, jb_40_16, jb_40_18, jb_40_25, jb_40_28, jb_40_33, jb_40_43, jb_40_46, jb_40_48, jb_40_54, jx_nl, jx_nlr, jx_thenS, jx_tlS, jx_tlN, jm_ite_go, jx_rds, jx_rdn, jx_lit, pk_mul, nI_add, nI_pred, pk_sub, jx_na, jx_add0, Nat.reduceMul, Nat.reduceAdd, Nat.reduceSub, Nat.reduceEqDiff, Nat.reduceLeDiff, Nat.reduceLT, Nat.not_lt_zero, jx_cl, nI_leI, nI_ltI, nI_eq, jx_neg, jx_neg', jx_negE, jx_negL, jx_negG, jx_negLE, jx_negN, sb_nlt, sb_nle, jx_b0, jx_b1, jx_bT, jx_bF, ite_true, ite_false, if_true, if_false, reduceIte, Bool.false_eq_true, Bool.true_eq_false, eq_self, Nat.one_ne_zero, Nat.add_sub_cancel, not_true_eq_false, not_false_eq_true, k238]
  · rw [jz_wm_len (by rw [hWl]; exact hl)]
    have hl2 : ¬ 3 = e - r := fun q => hl q.symm
    simp (disch := first | assumption | omega | exact jx_bz _ | exact jx_z0 | exact jx_z1 | (refine jx_ixB ?_ ?_; omega; omega) | (simp (disch := first | omega | fail) only [jx_lit, pk_mul, nI_add, nI_pred, pk_sub, jx_na, jx_add0, Nat.reduceMul, Nat.reduceAdd, Nat.reduceSub, Nat.reduceEqDiff, Nat.reduceLeDiff, Nat.reduceLT, k238, he, hr, er, hl2]; refine jx_ixC ?_ ?_; omega; omega) | (simp (disch := first | omega | fail) only [jx_lit, pk_mul, nI_add, nI_pred, pk_sub, jx_na, jx_add0, Nat.reduceMul, Nat.reduceAdd, Nat.reduceSub, Nat.reduceEqDiff, Nat.reduceLeDiff, Nat.reduceLT, jx_cl, nI_leI, Nat.zero_le, true_and, k238, he, hr, er, hl2]; omega) | fail) only [je_40, jb_40_0, jb_40_4, jb_40_16, jb_40_18, jb_40_25, jb_40_28, jb_40_33, jb_40_43, jb_40_46, jb_40_48, jb_40_54, jx_nl, jx_nlr, jx_thenS, jx_tlS, jx_tlN, jm_ite_go, jx_rds, jx_rdn, jx_lit, pk_mul, nI_add, nI_pred, pk_sub, jx_na, jx_add0, Nat.reduceMul, Nat.reduceAdd, Nat.reduceSub, Nat.reduceEqDiff, Nat.reduceLeDiff, Nat.reduceLT, Nat.not_lt_zero, jx_cl, nI_leI, nI_ltI, nI_eq, jx_neg, jx_neg', jx_negE, jx_negL, jx_negG, jx_negLE, jx_negN, sb_nlt, sb_nle, jx_b0, jx_b1, jx_bT, jx_bF, ite_true, ite_false, if_true, if_false, reduceIte, Bool.false_eq_true, Bool.true_eq_false, eq_self, Nat.one_ne_zero, Nat.add_sub_cancel, not_true_eq_false, not_false_eq_true, k238, he, hr, er, hl2]
/-! luck -/
theorem jf_240_6 {d : Nat} {h : jm_H} : jm_ev (d + 1) 240 [.ref 1000007] h = some (some (.int 0), h) :=
  je_240.trans ((jm_go_steps (c2 := (14, [some (.ref 1000007)], [.int 0], h)) 5 rfl).trans (jm_go_ret (v := some (.int 0)) rfl))
theorem jf_241_6 {d : Nat} {h : jm_H} : jm_ev (d + 1) 241 [.ref 1000007] h = some (some (.int 1), h) :=
  je_241.trans ((jm_go_steps (c2 := (18, [some (.ref 1000007)], [.int 1], h)) 7 rfl).trans (jm_go_ret (v := some (.int 1)) rfl))
theorem jf_238_6 {d : Nat} {h : jm_H} : jm_ev (d + 2) 238 [.ref 1000007] h = some (some (.int (nI 4)), h) := by
  refine je_238.trans ((jm_go_steps (c2 := (6, [some (.ref 1000007)], [.ref 1000007, .int (Int32.ofNat 4)], h)) 4 rfl).trans ((jm_go_call (q := (240, [.ref 1000007], [.int (Int32.ofNat 4)])) rfl).trans ?_))
  rw [jf_240_6]
  refine ((jm_go_steps (c2 := (10, [some (.ref 1000007)], [.int (Int32.ofNat 4 >>> ((0 : Int32) &&& 31))], h)) 1 rfl).trans (jm_go_ret (v := some (.int (Int32.ofNat 4 >>> ((0 : Int32) &&& 31)))) rfl)).trans ?_
  rw [show Int32.ofNat 4 >>> ((0 : Int32) &&& 31) = nI 4 by decide]
theorem jf_243_6 {d i : Nat} {h : jm_H} (hi : i < 4) : jm_ev (d + 3) 243 [.ref 1000107, .int (nI i)] h = some (some (.int (nI ((jz_W 3).getD i 0))), h) := by
  have h1 : ¬ nI i < 0 := by rw [show (0 : Int32) = nI 0 from rfl, nI_ltI (by omega) (by decide)]; omega
  have h2 : nI i < nI 4 := by rw [nI_ltI (by omega) (by decide)]; exact hi
  have h3 : 0 ≤ nI i ∧ (nI i).toNatClampNeg < 4 := jx_ixB hi (by decide)
  have h4 : (nI i).toNatClampNeg = i := jx_cl (by omega)
  refine je_243.trans ((jm_go_steps (c2 := (3, [some (.ref 1000107), some (.int (nI i))], [.int (nI 4), .int (nI i)], h)) 3 rfl).trans ((jm_go_call (q := (242, [.int (nI i), .int (nI 4)], [])) rfl).trans ?_))
  rw [jf_242 h1 h2]
  refine (jm_go_steps (c2 := (8, [some (.ref 1000107), some (.int (nI i))], [.int (nI i), .ref 1000107], h)) 2 rfl).trans ?_
  refine (jm_go_next (c2 := (9, [some (.ref 1000107), some (.int (nI i))], [.int (([108, 117, 99, 107] : List Int32).getD (nI i).toNatClampNeg 0)], h)) (Eq.trans (b := if jm_STB ≤ 1000107 ∧ 1000107 - jm_STB < jm_sn ∧ 0 ≤ nI i ∧ (nI i).toNatClampNeg < 4 then some (Sum.inl (9, [some (.ref 1000107), some (.int (nI i))], [.int (([108, 117, 99, 107] : List Int32).getD (nI i).toNatClampNeg 0)], h)) else none) rfl (if_pos ⟨by decide, by decide, h3.1, h3.2⟩))).trans ?_
  rw [h4]
  have h5 : ∀ i, i < 4 → 0 ≤ ((([108, 117, 99, 107] : List Int32).getD i 0 &&& 255).toUInt32 % 65536).toInt32 ∧ ((([108, 117, 99, 107] : List Int32).getD i 0 &&& 255).toUInt32 % 65536).toInt32 ≤ 255 ∧ ((([108, 117, 99, 107] : List Int32).getD i 0 &&& 255).toUInt32 % 65536).toInt32 = nI ((jz_W 3).getD i 0) := by decide
  obtain ⟨h6, h7, h8⟩ := h5 i hi
  refine (jm_go_steps (c2 := (14, [some (.ref 1000107), some (.int (nI i))], [.int ((([108, 117, 99, 107] : List Int32).getD i 0 &&& 255).toUInt32 % 65536).toInt32], h)) 3 rfl).trans ?_
  rw [h8] at h6 h7 ⊢
  exact jm_go_ret (v := some (.int (nI ((jz_W 3).getD i 0)))) (Eq.trans (b := if 0 ≤ nI ((jz_W 3).getD i 0) ∧ nI ((jz_W 3).getD i 0) ≤ 255 then some (Sum.inr (Sum.inr (some (.int (nI ((jz_W 3).getD i 0)))))) else none) rfl (if_pos ⟨h6, h7⟩))
theorem jf_239_6 {d i : Nat} {h : jm_H} (hi : i < 4) : jm_ev (d + 4) 239 [.ref 1000007, .int (nI i)] h = some (some (.int (nI ((jz_W 3).getD i 0))), h) := by
  refine je_239.trans ((jm_go_steps (c2 := (1, [some (.ref 1000007), some (.int (nI i))], [.ref 1000007], h)) 1 rfl).trans ((jm_go_call (q := (241, [.ref 1000007], [])) rfl).trans ?_))
  rw [jf_241_6]
  refine (jm_go_steps (c2 := (12, [some (.ref 1000007), some (.int (nI i))], [.int (nI i), .ref 1000107], h)) 4 rfl).trans ((jm_go_call (q := (243, [.ref 1000107, .int (nI i)], [])) rfl).trans ?_)
  rw [jf_243_6 hi]
  have h5 : ∀ i, i < 4 → 0 ≤ nI ((jz_W 3).getD i 0) ∧ nI ((jz_W 3).getD i 0) ≤ 255 := by decide
  exact jm_go_ret (v := some (.int (nI ((jz_W 3).getD i 0)))) (Eq.trans (b := if 0 ≤ nI ((jz_W 3).getD i 0) ∧ nI ((jz_W 3).getD i 0) ≤ 255 then some (Sum.inr (Sum.inr (some (.int (nI ((jz_W 3).getD i 0)))))) else none) rfl (if_pos (h5 i hi)))
theorem jf_40_6 {d s r e : Nat} {b : Nat → Nat} {I : Nat → Nat → Int32} {rho : Nat → Option Nat} {mu : List (Nat × Nat)} (hs : I 30 1 = nI s) (hs2 : s ≤ 160) (hb : ∀ k, k < s → I 31 k = nI (b k)) (hb2 : ∀ k, b k < 256) (he : I 30 2 = nI e) (hr : I 30 4 = nI r) (hre : r ≤ e) (hes : e ≤ s) : jm_ev (d + 5) 40 [.ref 30, .ref 1000007] (jm_hp I rho mu) = some (some (.int (jx_b (jz_wm b r e 3))), jm_hp I rho mu) := by
  have hA : jm_STR ≤ 1000007 ∧ 1000007 - jm_STR < jm_sn := by decide
  have k238 := @jf_238_6 (d + 2) (jm_hp I rho mu)
  have hWl : (jz_W 3).length = 4 := rfl
  have er : nI e - nI r = nI (e - r) := pk_sub hre
  by_cases hl : e - r = 4
  · have e0 : jm_ev (d + 5) 40 [.ref 30, .ref 1000007] (jm_hp I rho mu) = jm_go (jm_ev (d + 4)) 40 (20, [some (.ref 30), some (.ref 1000007), some (.int (nI 0))], [], jm_hp I rho mu) := by
      simp (disch := first | assumption | omega | exact jx_bz _ | exact jx_z0 | exact jx_z1 | (refine jx_ixB ?_ ?_; omega; omega) | (simp (disch := first | omega | fail) only [jx_lit, pk_mul, nI_add, nI_pred, pk_sub, jx_na, jx_add0, Nat.reduceMul, Nat.reduceAdd, Nat.reduceSub, Nat.reduceEqDiff, Nat.reduceLeDiff, Nat.reduceLT, k238, he, hr, er, hl]; refine jx_ixC ?_ ?_; omega; omega) | (simp (disch := first | omega | fail) only [jx_lit, pk_mul, nI_add, nI_pred, pk_sub, jx_na, jx_add0, Nat.reduceMul, Nat.reduceAdd, Nat.reduceSub, Nat.reduceEqDiff, Nat.reduceLeDiff, Nat.reduceLT, jx_cl, nI_leI, Nat.zero_le, true_and, k238, he, hr, er, hl]; omega) | fail) only [je_40, jb_40_0, jb_40_4, jb_40_16, jb_40_18, jb_40_25, jb_40_28, jb_40_33, jb_40_43, jb_40_46, jb_40_48, jb_40_54, jx_nl, jx_nlr, jx_thenS, jx_tlS, jx_tlN, jm_ite_go, jx_rds, jx_rdn, jx_lit, pk_mul, nI_add, nI_pred, pk_sub, jx_na, jx_add0, Nat.reduceMul, Nat.reduceAdd, Nat.reduceSub, Nat.reduceEqDiff, Nat.reduceLeDiff, Nat.reduceLT, Nat.not_lt_zero, jx_cl, nI_leI, nI_ltI, nI_eq, jx_neg, jx_neg', jx_negE, jx_negL, jx_negG, jx_negLE, jx_negN, sb_nlt, sb_nle, jx_b0, jx_b1, jx_bT, jx_bF, ite_true, ite_false, if_true, if_false, reduceIte, Bool.false_eq_true, Bool.true_eq_false, eq_self, Nat.one_ne_zero, Nat.add_sub_cancel, not_true_eq_false, not_false_eq_true, k238, he, hr, er, hl]
    have st : ∀ i, i < 4 → jm_go (jm_ev (d + 4)) 40 (20, [some (.ref 30), some (.ref 1000007), some (.int (nI i))], [], jm_hp I rho mu) = if (jz_W 3).getD i 0 = b (r + i) then jm_go (jm_ev (d + 4)) 40 (20, [some (.ref 30), some (.ref 1000007), some (.int (nI (i + 1)))], [], jm_hp I rho mu) else some (some (.int (nI 0)), jm_hp I rho mu) := fun i hi => by
      have zn : ¬ 4 ≤ i := by omega
      have k239 := @jf_239_6 d i (jm_hp I rho mu) hi
      have k26 := @jf_26 (d + 3) s (r + i) I rho mu hs hs2 (by omega)
      rw [hb _ (by omega)] at k26
      have hc : (jz_W 3).getD i 0 < 256 := by
        have : ∀ i, i < 4 → (jz_W 3).getD i 0 < 256 := by decide
        exact this i hi
      have hc2 := hb2 (r + i)
      rw [jb_40_20 hA]
      by_cases q : (jz_W 3).getD i 0 = b (r + i)
      · rw [if_pos q]
        rw [q] at k239
        simp (disch := first | assumption | omega | exact jx_bz _ | exact jx_z0 | exact jx_z1 | (refine jx_ixB ?_ ?_; omega; omega) | (simp (disch := first | omega | fail) only [jx_lit, pk_mul, nI_add, nI_pred, pk_sub, jx_na, jx_add0, Nat.reduceMul, Nat.reduceAdd, Nat.reduceSub, Nat.reduceEqDiff, Nat.reduceLeDiff, Nat.reduceLT, k238, zn, k239, hr, k26]; refine jx_ixC ?_ ?_; omega; omega) | (simp (disch := first | omega | fail) only [jx_lit, pk_mul, nI_add, nI_pred, pk_sub, jx_na, jx_add0, Nat.reduceMul, Nat.reduceAdd, Nat.reduceSub, Nat.reduceEqDiff, Nat.reduceLeDiff, Nat.reduceLT, jx_cl, nI_leI, Nat.zero_le, true_and, k238, zn, k239, hr, k26]; omega) | fail) only [jb_40_0, jb_40_4, jb_40_16, jb_40_18, jb_40_25, jb_40_28, jb_40_33, jb_40_43, jb_40_46, jb_40_48, jb_40_54, jx_nl, jx_nlr, jx_thenS, jx_tlS, jx_tlN, jm_ite_go, jx_rds, jx_rdn, jx_lit, pk_mul, nI_add, nI_pred, pk_sub, jx_na, jx_add0, Nat.reduceMul, Nat.reduceAdd, Nat.reduceSub, Nat.reduceEqDiff, Nat.reduceLeDiff, Nat.reduceLT, Nat.not_lt_zero, jx_cl, nI_leI, nI_ltI, nI_eq, jx_neg, jx_neg', jx_negE, jx_negL, jx_negG, jx_negLE, jx_negN, sb_nlt, sb_nle, jx_b0, jx_b1, jx_bT, jx_bF, ite_true, ite_false, if_true, if_false, reduceIte, Bool.false_eq_true, Bool.true_eq_false, eq_self, Nat.one_ne_zero, Nat.add_sub_cancel, not_true_eq_false, not_false_eq_true, k238, zn, k239, hr, k26]
      · rw [if_neg q]
        simp (disch := first | assumption | omega | exact jx_bz _ | exact jx_z0 | exact jx_z1 | (refine jx_ixB ?_ ?_; omega; omega) | (simp (disch := first | omega | fail) only [jx_lit, pk_mul, nI_add, nI_pred, pk_sub, jx_na, jx_add0, Nat.reduceMul, Nat.reduceAdd, Nat.reduceSub, Nat.reduceEqDiff, Nat.reduceLeDiff, Nat.reduceLT, k238, zn, k239, hr, k26, q]; refine jx_ixC ?_ ?_; omega; omega) | (simp (disch := first | omega | fail) only [jx_lit, pk_mul, nI_add, nI_pred, pk_sub, jx_na, jx_add0, Nat.reduceMul, Nat.reduceAdd, Nat.reduceSub, Nat.reduceEqDiff, Nat.reduceLeDiff, Nat.reduceLT, jx_cl, nI_leI, Nat.zero_le, true_and, k238, zn, k239, hr, k26, q]; omega) | fail) only [jb_40_0, jb_40_4, jb_40_16, jb_40_18, jb_40_25, jb_40_28, jb_40_33, jb_40_43, jb_40_46, jb_40_48, jb_40_54, jx_nl, jx_nlr, jx_thenS, jx_tlS, jx_tlN, jm_ite_go, jx_rds, jx_rdn, jx_lit, pk_mul, nI_add, nI_pred, pk_sub, jx_na, jx_add0, Nat.reduceMul, Nat.reduceAdd, Nat.reduceSub, Nat.reduceEqDiff, Nat.reduceLeDiff, Nat.reduceLT, Nat.not_lt_zero, jx_cl, nI_leI, nI_ltI, nI_eq, jx_neg, jx_neg', jx_negE, jx_negL, jx_negG, jx_negLE, jx_negN, sb_nlt, sb_nle, jx_b0, jx_b1, jx_bT, jx_bF, ite_true, ite_false, if_true, if_false, reduceIte, Bool.false_eq_true, Bool.true_eq_false, eq_self, Nat.one_ne_zero, Nat.add_sub_cancel, not_true_eq_false, not_false_eq_true, k238, zn, k239, hr, k26, q]
    rcases jx_least (fun i => !decide ((jz_W 3).getD i 0 = b (r + i))) 4 with ⟨k, hk, h1, h2⟩ | h2
    · have h1 : ¬ (jz_W 3).getD k 0 = b (r + k) := by simpa using h1
      have h2 : ∀ j, j < k → (jz_W 3).getD j 0 = b (r + j) := fun j hj => by simpa using h2 j hj
      rw [jz_wm_ne (i := k) (by rw [hWl]; exact hk) h1]
      have lp := jx_for0 (E := jm_ev (d + 4)) (y := 40) k (fun i => (20, [some (.ref 30), some (.ref 1000007), some (.int (nI i))], [], jm_hp I rho mu)) (fun i hi => by rw [st i (by omega), if_pos (h2 i hi)]) k (Nat.le_refl _)
      rw [e0]
      refine Eq.trans lp ?_
      rw [st k hk, if_neg h1]
      rfl
    · have h2 : ∀ j, j < 4 → (jz_W 3).getD j 0 = b (r + j) := fun j hj => by simpa using h2 j hj
      rw [jz_wm_T (by rw [hWl]; exact hl) fun i hi => h2 i (by rw [hWl] at hi; exact hi)]
      have lp := jx_for0 (E := jm_ev (d + 4)) (y := 40) 4 (fun i => (20, [some (.ref 30), some (.ref 1000007), some (.int (nI i))], [], jm_hp I rho mu)) (fun i hi => by rw [st i (by omega), if_pos (h2 i hi)]) 4 (Nat.le_refl _)
      rw [e0]
      refine Eq.trans lp ?_
      rw [jb_40_20 hA]
      simp (disch := first | assumption | omega | exact jx_bz _ | exact jx_z0 | exact jx_z1 | (refine jx_ixB ?_ ?_; omega; omega) | (simp (disch := first | omega | fail) only [jx_lit, pk_mul, nI_add, nI_pred, pk_sub, jx_na, jx_add0, Nat.reduceMul, Nat.reduceAdd, Nat.reduceSub, Nat.reduceEqDiff, Nat.reduceLeDiff, Nat.reduceLT, k238]; refine jx_ixC ?_ ?_; omega; omega) | (simp (disch := first | omega | fail) only [jx_lit, pk_mul, nI_add, nI_pred, pk_sub, jx_na, jx_add0, Nat.reduceMul, Nat.reduceAdd, Nat.reduceSub, Nat.reduceEqDiff, Nat.reduceLeDiff, Nat.reduceLT, jx_cl, nI_leI, Nat.zero_le, true_and, k238]; omega) | fail) only [jb_40_0, jb_40_4, jb_40_16, jb_40_18, jb_40_25, jb_40_28, jb_40_33, jb_40_43, jb_40_46, jb_40_48, jb_40_54, jx_nl, jx_nlr, jx_thenS, jx_tlS, jx_tlN, jm_ite_go, jx_rds, jx_rdn, jx_lit, pk_mul, nI_add, nI_pred, pk_sub, jx_na, jx_add0, Nat.reduceMul, Nat.reduceAdd, Nat.reduceSub, Nat.reduceEqDiff, Nat.reduceLeDiff, Nat.reduceLT, Nat.not_lt_zero, jx_cl, nI_leI, nI_ltI, nI_eq, jx_neg, jx_neg', jx_negE, jx_negL, jx_negG, jx_negLE, jx_negN, sb_nlt, sb_nle, jx_b0, jx_b1, jx_bT, jx_bF, ite_true, ite_false, if_true, if_false, reduceIte, Bool.false_eq_true, Bool.true_eq_false, eq_self, Nat.one_ne_zero, Nat.add_sub_cancel, not_true_eq_false, not_false_eq_true, k238]
  · rw [jz_wm_len (by rw [hWl]; exact hl)]
    have hl2 : ¬ 4 = e - r := fun q => hl q.symm
    simp (disch := first | assumption | omega | exact jx_bz _ | exact jx_z0 | exact jx_z1 | (refine jx_ixB ?_ ?_; omega; omega) | (simp (disch := first | omega | fail) only [jx_lit, pk_mul, nI_add, nI_pred, pk_sub, jx_na, jx_add0, Nat.reduceMul, Nat.reduceAdd, Nat.reduceSub, Nat.reduceEqDiff, Nat.reduceLeDiff, Nat.reduceLT, k238, he, hr, er, hl2]; refine jx_ixC ?_ ?_; omega; omega) | (simp (disch := first | omega | fail) only [jx_lit, pk_mul, nI_add, nI_pred, pk_sub, jx_na, jx_add0, Nat.reduceMul, Nat.reduceAdd, Nat.reduceSub, Nat.reduceEqDiff, Nat.reduceLeDiff, Nat.reduceLT, jx_cl, nI_leI, Nat.zero_le, true_and, k238, he, hr, er, hl2]; omega) | fail) only [je_40, jb_40_0, jb_40_4, jb_40_16, jb_40_18, jb_40_25, jb_40_28, jb_40_33, jb_40_43, jb_40_46, jb_40_48, jb_40_54, jx_nl, jx_nlr, jx_thenS, jx_tlS, jx_tlN, jm_ite_go, jx_rds, jx_rdn, jx_lit, pk_mul, nI_add, nI_pred, pk_sub, jx_na, jx_add0, Nat.reduceMul, Nat.reduceAdd, Nat.reduceSub, Nat.reduceEqDiff, Nat.reduceLeDiff, Nat.reduceLT, Nat.not_lt_zero, jx_cl, nI_leI, nI_ltI, nI_eq, jx_neg, jx_neg', jx_negE, jx_negL, jx_negG, jx_negLE, jx_negN, sb_nlt, sb_nle, jx_b0, jx_b1, jx_bT, jx_bF, ite_true, ite_false, if_true, if_false, reduceIte, Bool.false_eq_true, Bool.true_eq_false, eq_self, Nat.one_ne_zero, Nat.add_sub_cancel, not_true_eq_false, not_false_eq_true, k238, he, hr, er, hl2]
/-! door -/
theorem jf_240_7 {d : Nat} {h : jm_H} : jm_ev (d + 1) 240 [.ref 1000008] h = some (some (.int 0), h) :=
  je_240.trans ((jm_go_steps (c2 := (14, [some (.ref 1000008)], [.int 0], h)) 5 rfl).trans (jm_go_ret (v := some (.int 0)) rfl))
theorem jf_241_7 {d : Nat} {h : jm_H} : jm_ev (d + 1) 241 [.ref 1000008] h = some (some (.int 1), h) :=
  je_241.trans ((jm_go_steps (c2 := (18, [some (.ref 1000008)], [.int 1], h)) 7 rfl).trans (jm_go_ret (v := some (.int 1)) rfl))
theorem jf_238_7 {d : Nat} {h : jm_H} : jm_ev (d + 2) 238 [.ref 1000008] h = some (some (.int (nI 4)), h) := by
  refine je_238.trans ((jm_go_steps (c2 := (6, [some (.ref 1000008)], [.ref 1000008, .int (Int32.ofNat 4)], h)) 4 rfl).trans ((jm_go_call (q := (240, [.ref 1000008], [.int (Int32.ofNat 4)])) rfl).trans ?_))
  rw [jf_240_7]
  refine ((jm_go_steps (c2 := (10, [some (.ref 1000008)], [.int (Int32.ofNat 4 >>> ((0 : Int32) &&& 31))], h)) 1 rfl).trans (jm_go_ret (v := some (.int (Int32.ofNat 4 >>> ((0 : Int32) &&& 31)))) rfl)).trans ?_
  rw [show Int32.ofNat 4 >>> ((0 : Int32) &&& 31) = nI 4 by decide]
theorem jf_243_7 {d i : Nat} {h : jm_H} (hi : i < 4) : jm_ev (d + 3) 243 [.ref 1000108, .int (nI i)] h = some (some (.int (nI ((jz_W 4).getD i 0))), h) := by
  have h1 : ¬ nI i < 0 := by rw [show (0 : Int32) = nI 0 from rfl, nI_ltI (by omega) (by decide)]; omega
  have h2 : nI i < nI 4 := by rw [nI_ltI (by omega) (by decide)]; exact hi
  have h3 : 0 ≤ nI i ∧ (nI i).toNatClampNeg < 4 := jx_ixB hi (by decide)
  have h4 : (nI i).toNatClampNeg = i := jx_cl (by omega)
  refine je_243.trans ((jm_go_steps (c2 := (3, [some (.ref 1000108), some (.int (nI i))], [.int (nI 4), .int (nI i)], h)) 3 rfl).trans ((jm_go_call (q := (242, [.int (nI i), .int (nI 4)], [])) rfl).trans ?_))
  rw [jf_242 h1 h2]
  refine (jm_go_steps (c2 := (8, [some (.ref 1000108), some (.int (nI i))], [.int (nI i), .ref 1000108], h)) 2 rfl).trans ?_
  refine (jm_go_next (c2 := (9, [some (.ref 1000108), some (.int (nI i))], [.int (([100, 111, 111, 114] : List Int32).getD (nI i).toNatClampNeg 0)], h)) (Eq.trans (b := if jm_STB ≤ 1000108 ∧ 1000108 - jm_STB < jm_sn ∧ 0 ≤ nI i ∧ (nI i).toNatClampNeg < 4 then some (Sum.inl (9, [some (.ref 1000108), some (.int (nI i))], [.int (([100, 111, 111, 114] : List Int32).getD (nI i).toNatClampNeg 0)], h)) else none) rfl (if_pos ⟨by decide, by decide, h3.1, h3.2⟩))).trans ?_
  rw [h4]
  have h5 : ∀ i, i < 4 → 0 ≤ ((([100, 111, 111, 114] : List Int32).getD i 0 &&& 255).toUInt32 % 65536).toInt32 ∧ ((([100, 111, 111, 114] : List Int32).getD i 0 &&& 255).toUInt32 % 65536).toInt32 ≤ 255 ∧ ((([100, 111, 111, 114] : List Int32).getD i 0 &&& 255).toUInt32 % 65536).toInt32 = nI ((jz_W 4).getD i 0) := by decide
  obtain ⟨h6, h7, h8⟩ := h5 i hi
  refine (jm_go_steps (c2 := (14, [some (.ref 1000108), some (.int (nI i))], [.int ((([100, 111, 111, 114] : List Int32).getD i 0 &&& 255).toUInt32 % 65536).toInt32], h)) 3 rfl).trans ?_
  rw [h8] at h6 h7 ⊢
  exact jm_go_ret (v := some (.int (nI ((jz_W 4).getD i 0)))) (Eq.trans (b := if 0 ≤ nI ((jz_W 4).getD i 0) ∧ nI ((jz_W 4).getD i 0) ≤ 255 then some (Sum.inr (Sum.inr (some (.int (nI ((jz_W 4).getD i 0)))))) else none) rfl (if_pos ⟨h6, h7⟩))
theorem jf_239_7 {d i : Nat} {h : jm_H} (hi : i < 4) : jm_ev (d + 4) 239 [.ref 1000008, .int (nI i)] h = some (some (.int (nI ((jz_W 4).getD i 0))), h) := by
  refine je_239.trans ((jm_go_steps (c2 := (1, [some (.ref 1000008), some (.int (nI i))], [.ref 1000008], h)) 1 rfl).trans ((jm_go_call (q := (241, [.ref 1000008], [])) rfl).trans ?_))
  rw [jf_241_7]
  refine (jm_go_steps (c2 := (12, [some (.ref 1000008), some (.int (nI i))], [.int (nI i), .ref 1000108], h)) 4 rfl).trans ((jm_go_call (q := (243, [.ref 1000108, .int (nI i)], [])) rfl).trans ?_)
  rw [jf_243_7 hi]
  have h5 : ∀ i, i < 4 → 0 ≤ nI ((jz_W 4).getD i 0) ∧ nI ((jz_W 4).getD i 0) ≤ 255 := by decide
  exact jm_go_ret (v := some (.int (nI ((jz_W 4).getD i 0)))) (Eq.trans (b := if 0 ≤ nI ((jz_W 4).getD i 0) ∧ nI ((jz_W 4).getD i 0) ≤ 255 then some (Sum.inr (Sum.inr (some (.int (nI ((jz_W 4).getD i 0)))))) else none) rfl (if_pos (h5 i hi)))
theorem jf_40_7 {d s r e : Nat} {b : Nat → Nat} {I : Nat → Nat → Int32} {rho : Nat → Option Nat} {mu : List (Nat × Nat)} (hs : I 30 1 = nI s) (hs2 : s ≤ 160) (hb : ∀ k, k < s → I 31 k = nI (b k)) (hb2 : ∀ k, b k < 256) (he : I 30 2 = nI e) (hr : I 30 4 = nI r) (hre : r ≤ e) (hes : e ≤ s) : jm_ev (d + 5) 40 [.ref 30, .ref 1000008] (jm_hp I rho mu) = some (some (.int (jx_b (jz_wm b r e 4))), jm_hp I rho mu) := by
  have hA : jm_STR ≤ 1000008 ∧ 1000008 - jm_STR < jm_sn := by decide
  have k238 := @jf_238_7 (d + 2) (jm_hp I rho mu)
  have hWl : (jz_W 4).length = 4 := rfl
  have er : nI e - nI r = nI (e - r) := pk_sub hre
  by_cases hl : e - r = 4
  · have e0 : jm_ev (d + 5) 40 [.ref 30, .ref 1000008] (jm_hp I rho mu) = jm_go (jm_ev (d + 4)) 40 (20, [some (.ref 30), some (.ref 1000008), some (.int (nI 0))], [], jm_hp I rho mu) := by
      simp (disch := first | assumption | omega | exact jx_bz _ | exact jx_z0 | exact jx_z1 | (refine jx_ixB ?_ ?_; omega; omega) | (simp (disch := first | omega | fail) only [jx_lit, pk_mul, nI_add, nI_pred, pk_sub, jx_na, jx_add0, Nat.reduceMul, Nat.reduceAdd, Nat.reduceSub, Nat.reduceEqDiff, Nat.reduceLeDiff, Nat.reduceLT, k238, he, hr, er, hl]; refine jx_ixC ?_ ?_; omega; omega) | (simp (disch := first | omega | fail) only [jx_lit, pk_mul, nI_add, nI_pred, pk_sub, jx_na, jx_add0, Nat.reduceMul, Nat.reduceAdd, Nat.reduceSub, Nat.reduceEqDiff, Nat.reduceLeDiff, Nat.reduceLT, jx_cl, nI_leI, Nat.zero_le, true_and, k238, he, hr, er, hl]; omega) | fail) only [je_40, jb_40_0, jb_40_4, jb_40_16, jb_40_18, jb_40_25, jb_40_28, jb_40_33, jb_40_43, jb_40_46, jb_40_48, jb_40_54, jx_nl, jx_nlr, jx_thenS, jx_tlS, jx_tlN, jm_ite_go, jx_rds, jx_rdn, jx_lit, pk_mul, nI_add, nI_pred, pk_sub, jx_na, jx_add0, Nat.reduceMul, Nat.reduceAdd, Nat.reduceSub, Nat.reduceEqDiff, Nat.reduceLeDiff, Nat.reduceLT, Nat.not_lt_zero, jx_cl, nI_leI, nI_ltI, nI_eq, jx_neg, jx_neg', jx_negE, jx_negL, jx_negG, jx_negLE, jx_negN, sb_nlt, sb_nle, jx_b0, jx_b1, jx_bT, jx_bF, ite_true, ite_false, if_true, if_false, reduceIte, Bool.false_eq_true, Bool.true_eq_false, eq_self, Nat.one_ne_zero, Nat.add_sub_cancel, not_true_eq_false, not_false_eq_true, k238, he, hr, er, hl]
    have st : ∀ i, i < 4 → jm_go (jm_ev (d + 4)) 40 (20, [some (.ref 30), some (.ref 1000008), some (.int (nI i))], [], jm_hp I rho mu) = if (jz_W 4).getD i 0 = b (r + i) then jm_go (jm_ev (d + 4)) 40 (20, [some (.ref 30), some (.ref 1000008), some (.int (nI (i + 1)))], [], jm_hp I rho mu) else some (some (.int (nI 0)), jm_hp I rho mu) := fun i hi => by
      have zn : ¬ 4 ≤ i := by omega
      have k239 := @jf_239_7 d i (jm_hp I rho mu) hi
      have k26 := @jf_26 (d + 3) s (r + i) I rho mu hs hs2 (by omega)
      rw [hb _ (by omega)] at k26
      have hc : (jz_W 4).getD i 0 < 256 := by
        have : ∀ i, i < 4 → (jz_W 4).getD i 0 < 256 := by decide
        exact this i hi
      have hc2 := hb2 (r + i)
      rw [jb_40_20 hA]
      by_cases q : (jz_W 4).getD i 0 = b (r + i)
      · rw [if_pos q]
        rw [q] at k239
        simp (disch := first | assumption | omega | exact jx_bz _ | exact jx_z0 | exact jx_z1 | (refine jx_ixB ?_ ?_; omega; omega) | (simp (disch := first | omega | fail) only [jx_lit, pk_mul, nI_add, nI_pred, pk_sub, jx_na, jx_add0, Nat.reduceMul, Nat.reduceAdd, Nat.reduceSub, Nat.reduceEqDiff, Nat.reduceLeDiff, Nat.reduceLT, k238, zn, k239, hr, k26]; refine jx_ixC ?_ ?_; omega; omega) | (simp (disch := first | omega | fail) only [jx_lit, pk_mul, nI_add, nI_pred, pk_sub, jx_na, jx_add0, Nat.reduceMul, Nat.reduceAdd, Nat.reduceSub, Nat.reduceEqDiff, Nat.reduceLeDiff, Nat.reduceLT, jx_cl, nI_leI, Nat.zero_le, true_and, k238, zn, k239, hr, k26]; omega) | fail) only [jb_40_0, jb_40_4, jb_40_16, jb_40_18, jb_40_25, jb_40_28, jb_40_33, jb_40_43, jb_40_46, jb_40_48, jb_40_54, jx_nl, jx_nlr, jx_thenS, jx_tlS, jx_tlN, jm_ite_go, jx_rds, jx_rdn, jx_lit, pk_mul, nI_add, nI_pred, pk_sub, jx_na, jx_add0, Nat.reduceMul, Nat.reduceAdd, Nat.reduceSub, Nat.reduceEqDiff, Nat.reduceLeDiff, Nat.reduceLT, Nat.not_lt_zero, jx_cl, nI_leI, nI_ltI, nI_eq, jx_neg, jx_neg', jx_negE, jx_negL, jx_negG, jx_negLE, jx_negN, sb_nlt, sb_nle, jx_b0, jx_b1, jx_bT, jx_bF, ite_true, ite_false, if_true, if_false, reduceIte, Bool.false_eq_true, Bool.true_eq_false, eq_self, Nat.one_ne_zero, Nat.add_sub_cancel, not_true_eq_false, not_false_eq_true, k238, zn, k239, hr, k26]
      · rw [if_neg q]
        simp (disch := first | assumption | omega | exact jx_bz _ | exact jx_z0 | exact jx_z1 | (refine jx_ixB ?_ ?_; omega; omega) | (simp (disch := first | omega | fail) only [jx_lit, pk_mul, nI_add, nI_pred, pk_sub, jx_na, jx_add0, Nat.reduceMul, Nat.reduceAdd, Nat.reduceSub, Nat.reduceEqDiff, Nat.reduceLeDiff, Nat.reduceLT, k238, zn, k239, hr, k26, q]; refine jx_ixC ?_ ?_; omega; omega) | (simp (disch := first | omega | fail) only [jx_lit, pk_mul, nI_add, nI_pred, pk_sub, jx_na, jx_add0, Nat.reduceMul, Nat.reduceAdd, Nat.reduceSub, Nat.reduceEqDiff, Nat.reduceLeDiff, Nat.reduceLT, jx_cl, nI_leI, Nat.zero_le, true_and, k238, zn, k239, hr, k26, q]; omega) | fail) only [jb_40_0, jb_40_4, jb_40_16, jb_40_18, jb_40_25, jb_40_28, jb_40_33, jb_40_43, jb_40_46, jb_40_48, jb_40_54, jx_nl, jx_nlr, jx_thenS, jx_tlS, jx_tlN, jm_ite_go, jx_rds, jx_rdn, jx_lit, pk_mul, nI_add, nI_pred, pk_sub, jx_na, jx_add0, Nat.reduceMul, Nat.reduceAdd, Nat.reduceSub, Nat.reduceEqDiff, Nat.reduceLeDiff, Nat.reduceLT, Nat.not_lt_zero, jx_cl, nI_leI, nI_ltI, nI_eq, jx_neg, jx_neg', jx_negE, jx_negL, jx_negG, jx_negLE, jx_negN, sb_nlt, sb_nle, jx_b0, jx_b1, jx_bT, jx_bF, ite_true, ite_false, if_true, if_false, reduceIte, Bool.false_eq_true, Bool.true_eq_false, eq_self, Nat.one_ne_zero, Nat.add_sub_cancel, not_true_eq_false, not_false_eq_true, k238, zn, k239, hr, k26, q]
    rcases jx_least (fun i => !decide ((jz_W 4).getD i 0 = b (r + i))) 4 with ⟨k, hk, h1, h2⟩ | h2
    · have h1 : ¬ (jz_W 4).getD k 0 = b (r + k) := by simpa using h1
      have h2 : ∀ j, j < k → (jz_W 4).getD j 0 = b (r + j) := fun j hj => by simpa using h2 j hj
      rw [jz_wm_ne (i := k) (by rw [hWl]; exact hk) h1]
      have lp := jx_for0 (E := jm_ev (d + 4)) (y := 40) k (fun i => (20, [some (.ref 30), some (.ref 1000008), some (.int (nI i))], [], jm_hp I rho mu)) (fun i hi => by rw [st i (by omega), if_pos (h2 i hi)]) k (Nat.le_refl _)
      rw [e0]
      refine Eq.trans lp ?_
      rw [st k hk, if_neg h1]
      rfl
    · have h2 : ∀ j, j < 4 → (jz_W 4).getD j 0 = b (r + j) := fun j hj => by simpa using h2 j hj
      rw [jz_wm_T (by rw [hWl]; exact hl) fun i hi => h2 i (by rw [hWl] at hi; exact hi)]
      have lp := jx_for0 (E := jm_ev (d + 4)) (y := 40) 4 (fun i => (20, [some (.ref 30), some (.ref 1000008), some (.int (nI i))], [], jm_hp I rho mu)) (fun i hi => by rw [st i (by omega), if_pos (h2 i hi)]) 4 (Nat.le_refl _)
      rw [e0]
      refine Eq.trans lp ?_
      rw [jb_40_20 hA]
      simp (disch := first | assumption | omega | exact jx_bz _ | exact jx_z0 | exact jx_z1 | (refine jx_ixB ?_ ?_; omega; omega) | (simp (disch := first | omega | fail) only [jx_lit, pk_mul, nI_add, nI_pred, pk_sub, jx_na, jx_add0, Nat.reduceMul, Nat.reduceAdd, Nat.reduceSub, Nat.reduceEqDiff, Nat.reduceLeDiff, Nat.reduceLT, k238]; refine jx_ixC ?_ ?_; omega; omega) | (simp (disch := first | omega | fail) only [jx_lit, pk_mul, nI_add, nI_pred, pk_sub, jx_na, jx_add0, Nat.reduceMul, Nat.reduceAdd, Nat.reduceSub, Nat.reduceEqDiff, Nat.reduceLeDiff, Nat.reduceLT, jx_cl, nI_leI, Nat.zero_le, true_and, k238]; omega) | fail) only [jb_40_0, jb_40_4, jb_40_16, jb_40_18, jb_40_25, jb_40_28, jb_40_33, jb_40_43, jb_40_46, jb_40_48, jb_40_54, jx_nl, jx_nlr, jx_thenS, jx_tlS, jx_tlN, jm_ite_go, jx_rds, jx_rdn, jx_lit, pk_mul, nI_add, nI_pred, pk_sub, jx_na, jx_add0, Nat.reduceMul, Nat.reduceAdd, Nat.reduceSub, Nat.reduceEqDiff, Nat.reduceLeDiff, Nat.reduceLT, Nat.not_lt_zero, jx_cl, nI_leI, nI_ltI, nI_eq, jx_neg, jx_neg', jx_negE, jx_negL, jx_negG, jx_negLE, jx_negN, sb_nlt, sb_nle, jx_b0, jx_b1, jx_bT, jx_bF, ite_true, ite_false, if_true, if_false, reduceIte, Bool.false_eq_true, Bool.true_eq_false, eq_self, Nat.one_ne_zero, Nat.add_sub_cancel, not_true_eq_false, not_false_eq_true, k238]
  · rw [jz_wm_len (by rw [hWl]; exact hl)]
    have hl2 : ¬ 4 = e - r := fun q => hl q.symm
    simp (disch := first | assumption | omega | exact jx_bz _ | exact jx_z0 | exact jx_z1 | (refine jx_ixB ?_ ?_; omega; omega) | (simp (disch := first | omega | fail) only [jx_lit, pk_mul, nI_add, nI_pred, pk_sub, jx_na, jx_add0, Nat.reduceMul, Nat.reduceAdd, Nat.reduceSub, Nat.reduceEqDiff, Nat.reduceLeDiff, Nat.reduceLT, k238, he, hr, er, hl2]; refine jx_ixC ?_ ?_; omega; omega) | (simp (disch := first | omega | fail) only [jx_lit, pk_mul, nI_add, nI_pred, pk_sub, jx_na, jx_add0, Nat.reduceMul, Nat.reduceAdd, Nat.reduceSub, Nat.reduceEqDiff, Nat.reduceLeDiff, Nat.reduceLT, jx_cl, nI_leI, Nat.zero_le, true_and, k238, he, hr, er, hl2]; omega) | fail) only [je_40, jb_40_0, jb_40_4, jb_40_16, jb_40_18, jb_40_25, jb_40_28, jb_40_33, jb_40_43, jb_40_46, jb_40_48, jb_40_54, jx_nl, jx_nlr, jx_thenS, jx_tlS, jx_tlN, jm_ite_go, jx_rds, jx_rdn, jx_lit, pk_mul, nI_add, nI_pred, pk_sub, jx_na, jx_add0, Nat.reduceMul, Nat.reduceAdd, Nat.reduceSub, Nat.reduceEqDiff, Nat.reduceLeDiff, Nat.reduceLT, Nat.not_lt_zero, jx_cl, nI_leI, nI_ltI, nI_eq, jx_neg, jx_neg', jx_negE, jx_negL, jx_negG, jx_negLE, jx_negN, sb_nlt, sb_nle, jx_b0, jx_b1, jx_bT, jx_bF, ite_true, ite_false, if_true, if_false, reduceIte, Bool.false_eq_true, Bool.true_eq_false, eq_self, Nat.one_ne_zero, Nat.add_sub_cancel, not_true_eq_false, not_false_eq_true, k238, he, hr, er, hl2]
/-! house -/
theorem jf_240_8 {d : Nat} {h : jm_H} : jm_ev (d + 1) 240 [.ref 1000009] h = some (some (.int 0), h) :=
  je_240.trans ((jm_go_steps (c2 := (14, [some (.ref 1000009)], [.int 0], h)) 5 rfl).trans (jm_go_ret (v := some (.int 0)) rfl))
theorem jf_241_8 {d : Nat} {h : jm_H} : jm_ev (d + 1) 241 [.ref 1000009] h = some (some (.int 1), h) :=
  je_241.trans ((jm_go_steps (c2 := (18, [some (.ref 1000009)], [.int 1], h)) 7 rfl).trans (jm_go_ret (v := some (.int 1)) rfl))
theorem jf_238_8 {d : Nat} {h : jm_H} : jm_ev (d + 2) 238 [.ref 1000009] h = some (some (.int (nI 5)), h) := by
  refine je_238.trans ((jm_go_steps (c2 := (6, [some (.ref 1000009)], [.ref 1000009, .int (Int32.ofNat 5)], h)) 4 rfl).trans ((jm_go_call (q := (240, [.ref 1000009], [.int (Int32.ofNat 5)])) rfl).trans ?_))
  rw [jf_240_8]
  refine ((jm_go_steps (c2 := (10, [some (.ref 1000009)], [.int (Int32.ofNat 5 >>> ((0 : Int32) &&& 31))], h)) 1 rfl).trans (jm_go_ret (v := some (.int (Int32.ofNat 5 >>> ((0 : Int32) &&& 31)))) rfl)).trans ?_
  rw [show Int32.ofNat 5 >>> ((0 : Int32) &&& 31) = nI 5 by decide]
theorem jf_243_8 {d i : Nat} {h : jm_H} (hi : i < 5) : jm_ev (d + 3) 243 [.ref 1000109, .int (nI i)] h = some (some (.int (nI ((jz_W 5).getD i 0))), h) := by
  have h1 : ¬ nI i < 0 := by rw [show (0 : Int32) = nI 0 from rfl, nI_ltI (by omega) (by decide)]; omega
  have h2 : nI i < nI 5 := by rw [nI_ltI (by omega) (by decide)]; exact hi
  have h3 : 0 ≤ nI i ∧ (nI i).toNatClampNeg < 5 := jx_ixB hi (by decide)
  have h4 : (nI i).toNatClampNeg = i := jx_cl (by omega)
  refine je_243.trans ((jm_go_steps (c2 := (3, [some (.ref 1000109), some (.int (nI i))], [.int (nI 5), .int (nI i)], h)) 3 rfl).trans ((jm_go_call (q := (242, [.int (nI i), .int (nI 5)], [])) rfl).trans ?_))
  rw [jf_242 h1 h2]
  refine (jm_go_steps (c2 := (8, [some (.ref 1000109), some (.int (nI i))], [.int (nI i), .ref 1000109], h)) 2 rfl).trans ?_
  refine (jm_go_next (c2 := (9, [some (.ref 1000109), some (.int (nI i))], [.int (([104, 111, 117, 115, 101] : List Int32).getD (nI i).toNatClampNeg 0)], h)) (Eq.trans (b := if jm_STB ≤ 1000109 ∧ 1000109 - jm_STB < jm_sn ∧ 0 ≤ nI i ∧ (nI i).toNatClampNeg < 5 then some (Sum.inl (9, [some (.ref 1000109), some (.int (nI i))], [.int (([104, 111, 117, 115, 101] : List Int32).getD (nI i).toNatClampNeg 0)], h)) else none) rfl (if_pos ⟨by decide, by decide, h3.1, h3.2⟩))).trans ?_
  rw [h4]
  have h5 : ∀ i, i < 5 → 0 ≤ ((([104, 111, 117, 115, 101] : List Int32).getD i 0 &&& 255).toUInt32 % 65536).toInt32 ∧ ((([104, 111, 117, 115, 101] : List Int32).getD i 0 &&& 255).toUInt32 % 65536).toInt32 ≤ 255 ∧ ((([104, 111, 117, 115, 101] : List Int32).getD i 0 &&& 255).toUInt32 % 65536).toInt32 = nI ((jz_W 5).getD i 0) := by decide
  obtain ⟨h6, h7, h8⟩ := h5 i hi
  refine (jm_go_steps (c2 := (14, [some (.ref 1000109), some (.int (nI i))], [.int ((([104, 111, 117, 115, 101] : List Int32).getD i 0 &&& 255).toUInt32 % 65536).toInt32], h)) 3 rfl).trans ?_
  rw [h8] at h6 h7 ⊢
  exact jm_go_ret (v := some (.int (nI ((jz_W 5).getD i 0)))) (Eq.trans (b := if 0 ≤ nI ((jz_W 5).getD i 0) ∧ nI ((jz_W 5).getD i 0) ≤ 255 then some (Sum.inr (Sum.inr (some (.int (nI ((jz_W 5).getD i 0)))))) else none) rfl (if_pos ⟨h6, h7⟩))
theorem jf_239_8 {d i : Nat} {h : jm_H} (hi : i < 5) : jm_ev (d + 4) 239 [.ref 1000009, .int (nI i)] h = some (some (.int (nI ((jz_W 5).getD i 0))), h) := by
  refine je_239.trans ((jm_go_steps (c2 := (1, [some (.ref 1000009), some (.int (nI i))], [.ref 1000009], h)) 1 rfl).trans ((jm_go_call (q := (241, [.ref 1000009], [])) rfl).trans ?_))
  rw [jf_241_8]
  refine (jm_go_steps (c2 := (12, [some (.ref 1000009), some (.int (nI i))], [.int (nI i), .ref 1000109], h)) 4 rfl).trans ((jm_go_call (q := (243, [.ref 1000109, .int (nI i)], [])) rfl).trans ?_)
  rw [jf_243_8 hi]
  have h5 : ∀ i, i < 5 → 0 ≤ nI ((jz_W 5).getD i 0) ∧ nI ((jz_W 5).getD i 0) ≤ 255 := by decide
  exact jm_go_ret (v := some (.int (nI ((jz_W 5).getD i 0)))) (Eq.trans (b := if 0 ≤ nI ((jz_W 5).getD i 0) ∧ nI ((jz_W 5).getD i 0) ≤ 255 then some (Sum.inr (Sum.inr (some (.int (nI ((jz_W 5).getD i 0)))))) else none) rfl (if_pos (h5 i hi)))
theorem jf_40_8 {d s r e : Nat} {b : Nat → Nat} {I : Nat → Nat → Int32} {rho : Nat → Option Nat} {mu : List (Nat × Nat)} (hs : I 30 1 = nI s) (hs2 : s ≤ 160) (hb : ∀ k, k < s → I 31 k = nI (b k)) (hb2 : ∀ k, b k < 256) (he : I 30 2 = nI e) (hr : I 30 4 = nI r) (hre : r ≤ e) (hes : e ≤ s) : jm_ev (d + 5) 40 [.ref 30, .ref 1000009] (jm_hp I rho mu) = some (some (.int (jx_b (jz_wm b r e 5))), jm_hp I rho mu) := by
  have hA : jm_STR ≤ 1000009 ∧ 1000009 - jm_STR < jm_sn := by decide
  have k238 := @jf_238_8 (d + 2) (jm_hp I rho mu)
  have hWl : (jz_W 5).length = 5 := rfl
  have er : nI e - nI r = nI (e - r) := pk_sub hre
  by_cases hl : e - r = 5
  · have e0 : jm_ev (d + 5) 40 [.ref 30, .ref 1000009] (jm_hp I rho mu) = jm_go (jm_ev (d + 4)) 40 (20, [some (.ref 30), some (.ref 1000009), some (.int (nI 0))], [], jm_hp I rho mu) := by
      simp (disch := first | assumption | omega | exact jx_bz _ | exact jx_z0 | exact jx_z1 | (refine jx_ixB ?_ ?_; omega; omega) | (simp (disch := first | omega | fail) only [jx_lit, pk_mul, nI_add, nI_pred, pk_sub, jx_na, jx_add0, Nat.reduceMul, Nat.reduceAdd, Nat.reduceSub, Nat.reduceEqDiff, Nat.reduceLeDiff, Nat.reduceLT, k238, he, hr, er, hl]; refine jx_ixC ?_ ?_; omega; omega) | (simp (disch := first | omega | fail) only [jx_lit, pk_mul, nI_add, nI_pred, pk_sub, jx_na, jx_add0, Nat.reduceMul, Nat.reduceAdd, Nat.reduceSub, Nat.reduceEqDiff, Nat.reduceLeDiff, Nat.reduceLT, jx_cl, nI_leI, Nat.zero_le, true_and, k238, he, hr, er, hl]; omega) | fail) only [je_40, jb_40_0, jb_40_4, jb_40_16, jb_40_18, jb_40_25, jb_40_28, jb_40_33, jb_40_43, jb_40_46, jb_40_48, jb_40_54, jx_nl, jx_nlr, jx_thenS, jx_tlS, jx_tlN, jm_ite_go, jx_rds, jx_rdn, jx_lit, pk_mul, nI_add, nI_pred, pk_sub, jx_na, jx_add0, Nat.reduceMul, Nat.reduceAdd, Nat.reduceSub, Nat.reduceEqDiff, Nat.reduceLeDiff, Nat.reduceLT, Nat.not_lt_zero, jx_cl, nI_leI, nI_ltI, nI_eq, jx_neg, jx_neg', jx_negE, jx_negL, jx_negG, jx_negLE, jx_negN, sb_nlt, sb_nle, jx_b0, jx_b1, jx_bT, jx_bF, ite_true, ite_false, if_true, if_false, reduceIte, Bool.false_eq_true, Bool.true_eq_false, eq_self, Nat.one_ne_zero, Nat.add_sub_cancel, not_true_eq_false, not_false_eq_true, k238, he, hr, er, hl]
    have st : ∀ i, i < 5 → jm_go (jm_ev (d + 4)) 40 (20, [some (.ref 30), some (.ref 1000009), some (.int (nI i))], [], jm_hp I rho mu) = if (jz_W 5).getD i 0 = b (r + i) then jm_go (jm_ev (d + 4)) 40 (20, [some (.ref 30), some (.ref 1000009), some (.int (nI (i + 1)))], [], jm_hp I rho mu) else some (some (.int (nI 0)), jm_hp I rho mu) := fun i hi => by
      have zn : ¬ 5 ≤ i := by omega
      have k239 := @jf_239_8 d i (jm_hp I rho mu) hi
      have k26 := @jf_26 (d + 3) s (r + i) I rho mu hs hs2 (by omega)
      rw [hb _ (by omega)] at k26
      have hc : (jz_W 5).getD i 0 < 256 := by
        have : ∀ i, i < 5 → (jz_W 5).getD i 0 < 256 := by decide
        exact this i hi
      have hc2 := hb2 (r + i)
      rw [jb_40_20 hA]
      by_cases q : (jz_W 5).getD i 0 = b (r + i)
      · rw [if_pos q]
        rw [q] at k239
        simp (disch := first | assumption | omega | exact jx_bz _ | exact jx_z0 | exact jx_z1 | (refine jx_ixB ?_ ?_; omega; omega) | (simp (disch := first | omega | fail) only [jx_lit, pk_mul, nI_add, nI_pred, pk_sub, jx_na, jx_add0, Nat.reduceMul, Nat.reduceAdd, Nat.reduceSub, Nat.reduceEqDiff, Nat.reduceLeDiff, Nat.reduceLT, k238, zn, k239, hr, k26]; refine jx_ixC ?_ ?_; omega; omega) | (simp (disch := first | omega | fail) only [jx_lit, pk_mul, nI_add, nI_pred, pk_sub, jx_na, jx_add0, Nat.reduceMul, Nat.reduceAdd, Nat.reduceSub, Nat.reduceEqDiff, Nat.reduceLeDiff, Nat.reduceLT, jx_cl, nI_leI, Nat.zero_le, true_and, k238, zn, k239, hr, k26]; omega) | fail) only [jb_40_0, jb_40_4, jb_40_16, jb_40_18, jb_40_25, jb_40_28, jb_40_33, jb_40_43, jb_40_46, jb_40_48, jb_40_54, jx_nl, jx_nlr, jx_thenS, jx_tlS, jx_tlN, jm_ite_go, jx_rds, jx_rdn, jx_lit, pk_mul, nI_add, nI_pred, pk_sub, jx_na, jx_add0, Nat.reduceMul, Nat.reduceAdd, Nat.reduceSub, Nat.reduceEqDiff, Nat.reduceLeDiff, Nat.reduceLT, Nat.not_lt_zero, jx_cl, nI_leI, nI_ltI, nI_eq, jx_neg, jx_neg', jx_negE, jx_negL, jx_negG, jx_negLE, jx_negN, sb_nlt, sb_nle, jx_b0, jx_b1, jx_bT, jx_bF, ite_true, ite_false, if_true, if_false, reduceIte, Bool.false_eq_true, Bool.true_eq_false, eq_self, Nat.one_ne_zero, Nat.add_sub_cancel, not_true_eq_false, not_false_eq_true, k238, zn, k239, hr, k26]
      · rw [if_neg q]
        simp (disch := first | assumption | omega | exact jx_bz _ | exact jx_z0 | exact jx_z1 | (refine jx_ixB ?_ ?_; omega; omega) | (simp (disch := first | omega | fail) only [jx_lit, pk_mul, nI_add, nI_pred, pk_sub, jx_na, jx_add0, Nat.reduceMul, Nat.reduceAdd, Nat.reduceSub, Nat.reduceEqDiff, Nat.reduceLeDiff, Nat.reduceLT, k238, zn, k239, hr, k26, q]; refine jx_ixC ?_ ?_; omega; omega) | (simp (disch := first | omega | fail) only [jx_lit, pk_mul, nI_add, nI_pred, pk_sub, jx_na, jx_add0, Nat.reduceMul, Nat.reduceAdd, Nat.reduceSub, Nat.reduceEqDiff, Nat.reduceLeDiff, Nat.reduceLT, jx_cl, nI_leI, Nat.zero_le, true_and, k238, zn, k239, hr, k26, q]; omega) | fail) only [jb_40_0, jb_40_4, jb_40_16, jb_40_18, jb_40_25, jb_40_28, jb_40_33, jb_40_43, jb_40_46, jb_40_48, jb_40_54, jx_nl, jx_nlr, jx_thenS, jx_tlS, jx_tlN, jm_ite_go, jx_rds, jx_rdn, jx_lit, pk_mul, nI_add, nI_pred, pk_sub, jx_na, jx_add0, Nat.reduceMul, Nat.reduceAdd, Nat.reduceSub, Nat.reduceEqDiff, Nat.reduceLeDiff, Nat.reduceLT, Nat.not_lt_zero, jx_cl, nI_leI, nI_ltI, nI_eq, jx_neg, jx_neg', jx_negE, jx_negL, jx_negG, jx_negLE, jx_negN, sb_nlt, sb_nle, jx_b0, jx_b1, jx_bT, jx_bF, ite_true, ite_false, if_true, if_false, reduceIte, Bool.false_eq_true, Bool.true_eq_false, eq_self, Nat.one_ne_zero, Nat.add_sub_cancel, not_true_eq_false, not_false_eq_true, k238, zn, k239, hr, k26, q]
    rcases jx_least (fun i => !decide ((jz_W 5).getD i 0 = b (r + i))) 5 with ⟨k, hk, h1, h2⟩ | h2
    · have h1 : ¬ (jz_W 5).getD k 0 = b (r + k) := by simpa using h1
      have h2 : ∀ j, j < k → (jz_W 5).getD j 0 = b (r + j) := fun j hj => by simpa using h2 j hj
      rw [jz_wm_ne (i := k) (by rw [hWl]; exact hk) h1]
      have lp := jx_for0 (E := jm_ev (d + 4)) (y := 40) k (fun i => (20, [some (.ref 30), some (.ref 1000009), some (.int (nI i))], [], jm_hp I rho mu)) (fun i hi => by rw [st i (by omega), if_pos (h2 i hi)]) k (Nat.le_refl _)
      rw [e0]
      refine Eq.trans lp ?_
      rw [st k hk, if_neg h1]
      rfl
    · have h2 : ∀ j, j < 5 → (jz_W 5).getD j 0 = b (r + j) := fun j hj => by simpa using h2 j hj
      rw [jz_wm_T (by rw [hWl]; exact hl) fun i hi => h2 i (by rw [hWl] at hi; exact hi)]
      have lp := jx_for0 (E := jm_ev (d + 4)) (y := 40) 5 (fun i => (20, [some (.ref 30), some (.ref 1000009), some (.int (nI i))], [], jm_hp I rho mu)) (fun i hi => by rw [st i (by omega), if_pos (h2 i hi)]) 5 (Nat.le_refl _)
      rw [e0]
      refine Eq.trans lp ?_
      rw [jb_40_20 hA]
      simp (disch := first | assumption | omega | exact jx_bz _ | exact jx_z0 | exact jx_z1 | (refine jx_ixB ?_ ?_; omega; omega) | (simp (disch := first | omega | fail) only [jx_lit, pk_mul, nI_add, nI_pred, pk_sub, jx_na, jx_add0, Nat.reduceMul, Nat.reduceAdd, Nat.reduceSub, Nat.reduceEqDiff, Nat.reduceLeDiff, Nat.reduceLT, k238]; refine jx_ixC ?_ ?_; omega; omega) | (simp (disch := first | omega | fail) only [jx_lit, pk_mul, nI_add, nI_pred, pk_sub, jx_na, jx_add0, Nat.reduceMul, Nat.reduceAdd, Nat.reduceSub, Nat.reduceEqDiff, Nat.reduceLeDiff, Nat.reduceLT, jx_cl, nI_leI, Nat.zero_le, true_and, k238]; omega) | fail) only [jb_40_0, jb_40_4, jb_40_16, jb_40_18, jb_40_25, jb_40_28, jb_40_33, jb_40_43, jb_40_46, jb_40_48, jb_40_54, jx_nl, jx_nlr, jx_thenS, jx_tlS, jx_tlN, jm_ite_go, jx_rds, jx_rdn, jx_lit, pk_mul, nI_add, nI_pred, pk_sub, jx_na, jx_add0, Nat.reduceMul, Nat.reduceAdd, Nat.reduceSub, Nat.reduceEqDiff, Nat.reduceLeDiff, Nat.reduceLT, Nat.not_lt_zero, jx_cl, nI_leI, nI_ltI, nI_eq, jx_neg, jx_neg', jx_negE, jx_negL, jx_negG, jx_negLE, jx_negN, sb_nlt, sb_nle, jx_b0, jx_b1, jx_bT, jx_bF, ite_true, ite_false, if_true, if_false, reduceIte, Bool.false_eq_true, Bool.true_eq_false, eq_self, Nat.one_ne_zero, Nat.add_sub_cancel, not_true_eq_false, not_false_eq_true, k238]
  · rw [jz_wm_len (by rw [hWl]; exact hl)]
    have hl2 : ¬ 5 = e - r := fun q => hl q.symm
    simp (disch := first | assumption | omega | exact jx_bz _ | exact jx_z0 | exact jx_z1 | (refine jx_ixB ?_ ?_; omega; omega) | (simp (disch := first | omega | fail) only [jx_lit, pk_mul, nI_add, nI_pred, pk_sub, jx_na, jx_add0, Nat.reduceMul, Nat.reduceAdd, Nat.reduceSub, Nat.reduceEqDiff, Nat.reduceLeDiff, Nat.reduceLT, k238, he, hr, er, hl2]; refine jx_ixC ?_ ?_; omega; omega) | (simp (disch := first | omega | fail) only [jx_lit, pk_mul, nI_add, nI_pred, pk_sub, jx_na, jx_add0, Nat.reduceMul, Nat.reduceAdd, Nat.reduceSub, Nat.reduceEqDiff, Nat.reduceLeDiff, Nat.reduceLT, jx_cl, nI_leI, Nat.zero_le, true_and, k238, he, hr, er, hl2]; omega) | fail) only [je_40, jb_40_0, jb_40_4, jb_40_16, jb_40_18, jb_40_25, jb_40_28, jb_40_33, jb_40_43, jb_40_46, jb_40_48, jb_40_54, jx_nl, jx_nlr, jx_thenS, jx_tlS, jx_tlN, jm_ite_go, jx_rds, jx_rdn, jx_lit, pk_mul, nI_add, nI_pred, pk_sub, jx_na, jx_add0, Nat.reduceMul, Nat.reduceAdd, Nat.reduceSub, Nat.reduceEqDiff, Nat.reduceLeDiff, Nat.reduceLT, Nat.not_lt_zero, jx_cl, nI_leI, nI_ltI, nI_eq, jx_neg, jx_neg', jx_negE, jx_negL, jx_negG, jx_negLE, jx_negN, sb_nlt, sb_nle, jx_b0, jx_b1, jx_bT, jx_bF, ite_true, ite_false, if_true, if_false, reduceIte, Bool.false_eq_true, Bool.true_eq_false, eq_self, Nat.one_ne_zero, Nat.add_sub_cancel, not_true_eq_false, not_false_eq_true, k238, he, hr, er, hl2]
/-! day -/
theorem jf_240_9 {d : Nat} {h : jm_H} : jm_ev (d + 1) 240 [.ref 1000010] h = some (some (.int 0), h) :=
  je_240.trans ((jm_go_steps (c2 := (14, [some (.ref 1000010)], [.int 0], h)) 5 rfl).trans (jm_go_ret (v := some (.int 0)) rfl))
theorem jf_241_9 {d : Nat} {h : jm_H} : jm_ev (d + 1) 241 [.ref 1000010] h = some (some (.int 1), h) :=
  je_241.trans ((jm_go_steps (c2 := (18, [some (.ref 1000010)], [.int 1], h)) 7 rfl).trans (jm_go_ret (v := some (.int 1)) rfl))
theorem jf_238_9 {d : Nat} {h : jm_H} : jm_ev (d + 2) 238 [.ref 1000010] h = some (some (.int (nI 3)), h) := by
  refine je_238.trans ((jm_go_steps (c2 := (6, [some (.ref 1000010)], [.ref 1000010, .int (Int32.ofNat 3)], h)) 4 rfl).trans ((jm_go_call (q := (240, [.ref 1000010], [.int (Int32.ofNat 3)])) rfl).trans ?_))
  rw [jf_240_9]
  refine ((jm_go_steps (c2 := (10, [some (.ref 1000010)], [.int (Int32.ofNat 3 >>> ((0 : Int32) &&& 31))], h)) 1 rfl).trans (jm_go_ret (v := some (.int (Int32.ofNat 3 >>> ((0 : Int32) &&& 31)))) rfl)).trans ?_
  rw [show Int32.ofNat 3 >>> ((0 : Int32) &&& 31) = nI 3 by decide]
theorem jf_243_9 {d i : Nat} {h : jm_H} (hi : i < 3) : jm_ev (d + 3) 243 [.ref 1000110, .int (nI i)] h = some (some (.int (nI ((jz_W 6).getD i 0))), h) := by
  have h1 : ¬ nI i < 0 := by rw [show (0 : Int32) = nI 0 from rfl, nI_ltI (by omega) (by decide)]; omega
  have h2 : nI i < nI 3 := by rw [nI_ltI (by omega) (by decide)]; exact hi
  have h3 : 0 ≤ nI i ∧ (nI i).toNatClampNeg < 3 := jx_ixB hi (by decide)
  have h4 : (nI i).toNatClampNeg = i := jx_cl (by omega)
  refine je_243.trans ((jm_go_steps (c2 := (3, [some (.ref 1000110), some (.int (nI i))], [.int (nI 3), .int (nI i)], h)) 3 rfl).trans ((jm_go_call (q := (242, [.int (nI i), .int (nI 3)], [])) rfl).trans ?_))
  rw [jf_242 h1 h2]
  refine (jm_go_steps (c2 := (8, [some (.ref 1000110), some (.int (nI i))], [.int (nI i), .ref 1000110], h)) 2 rfl).trans ?_
  refine (jm_go_next (c2 := (9, [some (.ref 1000110), some (.int (nI i))], [.int (([100, 97, 121] : List Int32).getD (nI i).toNatClampNeg 0)], h)) (Eq.trans (b := if jm_STB ≤ 1000110 ∧ 1000110 - jm_STB < jm_sn ∧ 0 ≤ nI i ∧ (nI i).toNatClampNeg < 3 then some (Sum.inl (9, [some (.ref 1000110), some (.int (nI i))], [.int (([100, 97, 121] : List Int32).getD (nI i).toNatClampNeg 0)], h)) else none) rfl (if_pos ⟨by decide, by decide, h3.1, h3.2⟩))).trans ?_
  rw [h4]
  have h5 : ∀ i, i < 3 → 0 ≤ ((([100, 97, 121] : List Int32).getD i 0 &&& 255).toUInt32 % 65536).toInt32 ∧ ((([100, 97, 121] : List Int32).getD i 0 &&& 255).toUInt32 % 65536).toInt32 ≤ 255 ∧ ((([100, 97, 121] : List Int32).getD i 0 &&& 255).toUInt32 % 65536).toInt32 = nI ((jz_W 6).getD i 0) := by decide
  obtain ⟨h6, h7, h8⟩ := h5 i hi
  refine (jm_go_steps (c2 := (14, [some (.ref 1000110), some (.int (nI i))], [.int ((([100, 97, 121] : List Int32).getD i 0 &&& 255).toUInt32 % 65536).toInt32], h)) 3 rfl).trans ?_
  rw [h8] at h6 h7 ⊢
  exact jm_go_ret (v := some (.int (nI ((jz_W 6).getD i 0)))) (Eq.trans (b := if 0 ≤ nI ((jz_W 6).getD i 0) ∧ nI ((jz_W 6).getD i 0) ≤ 255 then some (Sum.inr (Sum.inr (some (.int (nI ((jz_W 6).getD i 0)))))) else none) rfl (if_pos ⟨h6, h7⟩))
theorem jf_239_9 {d i : Nat} {h : jm_H} (hi : i < 3) : jm_ev (d + 4) 239 [.ref 1000010, .int (nI i)] h = some (some (.int (nI ((jz_W 6).getD i 0))), h) := by
  refine je_239.trans ((jm_go_steps (c2 := (1, [some (.ref 1000010), some (.int (nI i))], [.ref 1000010], h)) 1 rfl).trans ((jm_go_call (q := (241, [.ref 1000010], [])) rfl).trans ?_))
  rw [jf_241_9]
  refine (jm_go_steps (c2 := (12, [some (.ref 1000010), some (.int (nI i))], [.int (nI i), .ref 1000110], h)) 4 rfl).trans ((jm_go_call (q := (243, [.ref 1000110, .int (nI i)], [])) rfl).trans ?_)
  rw [jf_243_9 hi]
  have h5 : ∀ i, i < 3 → 0 ≤ nI ((jz_W 6).getD i 0) ∧ nI ((jz_W 6).getD i 0) ≤ 255 := by decide
  exact jm_go_ret (v := some (.int (nI ((jz_W 6).getD i 0)))) (Eq.trans (b := if 0 ≤ nI ((jz_W 6).getD i 0) ∧ nI ((jz_W 6).getD i 0) ≤ 255 then some (Sum.inr (Sum.inr (some (.int (nI ((jz_W 6).getD i 0)))))) else none) rfl (if_pos (h5 i hi)))
theorem jf_40_9 {d s r e : Nat} {b : Nat → Nat} {I : Nat → Nat → Int32} {rho : Nat → Option Nat} {mu : List (Nat × Nat)} (hs : I 30 1 = nI s) (hs2 : s ≤ 160) (hb : ∀ k, k < s → I 31 k = nI (b k)) (hb2 : ∀ k, b k < 256) (he : I 30 2 = nI e) (hr : I 30 4 = nI r) (hre : r ≤ e) (hes : e ≤ s) : jm_ev (d + 5) 40 [.ref 30, .ref 1000010] (jm_hp I rho mu) = some (some (.int (jx_b (jz_wm b r e 6))), jm_hp I rho mu) := by
  have hA : jm_STR ≤ 1000010 ∧ 1000010 - jm_STR < jm_sn := by decide
  have k238 := @jf_238_9 (d + 2) (jm_hp I rho mu)
  have hWl : (jz_W 6).length = 3 := rfl
  have er : nI e - nI r = nI (e - r) := pk_sub hre
  by_cases hl : e - r = 3
  · have e0 : jm_ev (d + 5) 40 [.ref 30, .ref 1000010] (jm_hp I rho mu) = jm_go (jm_ev (d + 4)) 40 (20, [some (.ref 30), some (.ref 1000010), some (.int (nI 0))], [], jm_hp I rho mu) := by
      simp (disch := first | assumption | omega | exact jx_bz _ | exact jx_z0 | exact jx_z1 | (refine jx_ixB ?_ ?_; omega; omega) | (simp (disch := first | omega | fail) only [jx_lit, pk_mul, nI_add, nI_pred, pk_sub, jx_na, jx_add0, Nat.reduceMul, Nat.reduceAdd, Nat.reduceSub, Nat.reduceEqDiff, Nat.reduceLeDiff, Nat.reduceLT, k238, he, hr, er, hl]; refine jx_ixC ?_ ?_; omega; omega) | (simp (disch := first | omega | fail) only [jx_lit, pk_mul, nI_add, nI_pred, pk_sub, jx_na, jx_add0, Nat.reduceMul, Nat.reduceAdd, Nat.reduceSub, Nat.reduceEqDiff, Nat.reduceLeDiff, Nat.reduceLT, jx_cl, nI_leI, Nat.zero_le, true_and, k238, he, hr, er, hl]; omega) | fail) only [je_40, jb_40_0, jb_40_4, jb_40_16, jb_40_18, jb_40_25, jb_40_28, jb_40_33, jb_40_43, jb_40_46, jb_40_48, jb_40_54, jx_nl, jx_nlr, jx_thenS, jx_tlS, jx_tlN, jm_ite_go, jx_rds, jx_rdn, jx_lit, pk_mul, nI_add, nI_pred, pk_sub, jx_na, jx_add0, Nat.reduceMul, Nat.reduceAdd, Nat.reduceSub, Nat.reduceEqDiff, Nat.reduceLeDiff, Nat.reduceLT, Nat.not_lt_zero, jx_cl, nI_leI, nI_ltI, nI_eq, jx_neg, jx_neg', jx_negE, jx_negL, jx_negG, jx_negLE, jx_negN, sb_nlt, sb_nle, jx_b0, jx_b1, jx_bT, jx_bF, ite_true, ite_false, if_true, if_false, reduceIte, Bool.false_eq_true, Bool.true_eq_false, eq_self, Nat.one_ne_zero, Nat.add_sub_cancel, not_true_eq_false, not_false_eq_true, k238, he, hr, er, hl]
    have st : ∀ i, i < 3 → jm_go (jm_ev (d + 4)) 40 (20, [some (.ref 30), some (.ref 1000010), some (.int (nI i))], [], jm_hp I rho mu) = if (jz_W 6).getD i 0 = b (r + i) then jm_go (jm_ev (d + 4)) 40 (20, [some (.ref 30), some (.ref 1000010), some (.int (nI (i + 1)))], [], jm_hp I rho mu) else some (some (.int (nI 0)), jm_hp I rho mu) := fun i hi => by
      have zn : ¬ 3 ≤ i := by omega
      have k239 := @jf_239_9 d i (jm_hp I rho mu) hi
      have k26 := @jf_26 (d + 3) s (r + i) I rho mu hs hs2 (by omega)
      rw [hb _ (by omega)] at k26
      have hc : (jz_W 6).getD i 0 < 256 := by
        have : ∀ i, i < 3 → (jz_W 6).getD i 0 < 256 := by decide
        exact this i hi
      have hc2 := hb2 (r + i)
      rw [jb_40_20 hA]
      by_cases q : (jz_W 6).getD i 0 = b (r + i)
      · rw [if_pos q]
        rw [q] at k239
        simp (disch := first | assumption | omega | exact jx_bz _ | exact jx_z0 | exact jx_z1 | (refine jx_ixB ?_ ?_; omega; omega) | (simp (disch := first | omega | fail) only [jx_lit, pk_mul, nI_add, nI_pred, pk_sub, jx_na, jx_add0, Nat.reduceMul, Nat.reduceAdd, Nat.reduceSub, Nat.reduceEqDiff, Nat.reduceLeDiff, Nat.reduceLT, k238, zn, k239, hr, k26]; refine jx_ixC ?_ ?_; omega; omega) | (simp (disch := first | omega | fail) only [jx_lit, pk_mul, nI_add, nI_pred, pk_sub, jx_na, jx_add0, Nat.reduceMul, Nat.reduceAdd, Nat.reduceSub, Nat.reduceEqDiff, Nat.reduceLeDiff, Nat.reduceLT, jx_cl, nI_leI, Nat.zero_le, true_and, k238, zn, k239, hr, k26]; omega) | fail) only [jb_40_0, jb_40_4, jb_40_16, jb_40_18, jb_40_25, jb_40_28, jb_40_33, jb_40_43, jb_40_46, jb_40_48, jb_40_54, jx_nl, jx_nlr, jx_thenS, jx_tlS, jx_tlN, jm_ite_go, jx_rds, jx_rdn, jx_lit, pk_mul, nI_add, nI_pred, pk_sub, jx_na, jx_add0, Nat.reduceMul, Nat.reduceAdd, Nat.reduceSub, Nat.reduceEqDiff, Nat.reduceLeDiff, Nat.reduceLT, Nat.not_lt_zero, jx_cl, nI_leI, nI_ltI, nI_eq, jx_neg, jx_neg', jx_negE, jx_negL, jx_negG, jx_negLE, jx_negN, sb_nlt, sb_nle, jx_b0, jx_b1, jx_bT, jx_bF, ite_true, ite_false, if_true, if_false, reduceIte, Bool.false_eq_true, Bool.true_eq_false, eq_self, Nat.one_ne_zero, Nat.add_sub_cancel, not_true_eq_false, not_false_eq_true, k238, zn, k239, hr, k26]
      · rw [if_neg q]
        simp (disch := first | assumption | omega | exact jx_bz _ | exact jx_z0 | exact jx_z1 | (refine jx_ixB ?_ ?_; omega; omega) | (simp (disch := first | omega | fail) only [jx_lit, pk_mul, nI_add, nI_pred, pk_sub, jx_na, jx_add0, Nat.reduceMul, Nat.reduceAdd, Nat.reduceSub, Nat.reduceEqDiff, Nat.reduceLeDiff, Nat.reduceLT, k238, zn, k239, hr, k26, q]; refine jx_ixC ?_ ?_; omega; omega) | (simp (disch := first | omega | fail) only [jx_lit, pk_mul, nI_add, nI_pred, pk_sub, jx_na, jx_add0, Nat.reduceMul, Nat.reduceAdd, Nat.reduceSub, Nat.reduceEqDiff, Nat.reduceLeDiff, Nat.reduceLT, jx_cl, nI_leI, Nat.zero_le, true_and, k238, zn, k239, hr, k26, q]; omega) | fail) only [jb_40_0, jb_40_4, jb_40_16, jb_40_18, jb_40_25, jb_40_28, jb_40_33, jb_40_43, jb_40_46, jb_40_48, jb_40_54, jx_nl, jx_nlr, jx_thenS, jx_tlS, jx_tlN, jm_ite_go, jx_rds, jx_rdn, jx_lit, pk_mul, nI_add, nI_pred, pk_sub, jx_na, jx_add0, Nat.reduceMul, Nat.reduceAdd, Nat.reduceSub, Nat.reduceEqDiff, Nat.reduceLeDiff, Nat.reduceLT, Nat.not_lt_zero, jx_cl, nI_leI, nI_ltI, nI_eq, jx_neg, jx_neg', jx_negE, jx_negL, jx_negG, jx_negLE, jx_negN, sb_nlt, sb_nle, jx_b0, jx_b1, jx_bT, jx_bF, ite_true, ite_false, if_true, if_false, reduceIte, Bool.false_eq_true, Bool.true_eq_false, eq_self, Nat.one_ne_zero, Nat.add_sub_cancel, not_true_eq_false, not_false_eq_true, k238, zn, k239, hr, k26, q]
    rcases jx_least (fun i => !decide ((jz_W 6).getD i 0 = b (r + i))) 3 with ⟨k, hk, h1, h2⟩ | h2
    · have h1 : ¬ (jz_W 6).getD k 0 = b (r + k) := by simpa using h1
      have h2 : ∀ j, j < k → (jz_W 6).getD j 0 = b (r + j) := fun j hj => by simpa using h2 j hj
      rw [jz_wm_ne (i := k) (by rw [hWl]; exact hk) h1]
      have lp := jx_for0 (E := jm_ev (d + 4)) (y := 40) k (fun i => (20, [some (.ref 30), some (.ref 1000010), some (.int (nI i))], [], jm_hp I rho mu)) (fun i hi => by rw [st i (by omega), if_pos (h2 i hi)]) k (Nat.le_refl _)
      rw [e0]
      refine Eq.trans lp ?_
      rw [st k hk, if_neg h1]
      rfl
    · have h2 : ∀ j, j < 3 → (jz_W 6).getD j 0 = b (r + j) := fun j hj => by simpa using h2 j hj
      rw [jz_wm_T (by rw [hWl]; exact hl) fun i hi => h2 i (by rw [hWl] at hi; exact hi)]
      have lp := jx_for0 (E := jm_ev (d + 4)) (y := 40) 3 (fun i => (20, [some (.ref 30), some (.ref 1000010), some (.int (nI i))], [], jm_hp I rho mu)) (fun i hi => by rw [st i (by omega), if_pos (h2 i hi)]) 3 (Nat.le_refl _)
      rw [e0]
      refine Eq.trans lp ?_
      rw [jb_40_20 hA]
      simp (disch := first | assumption | omega | exact jx_bz _ | exact jx_z0 | exact jx_z1 | (refine jx_ixB ?_ ?_; omega; omega) | (simp (disch := first | omega | fail) only [jx_lit, pk_mul, nI_add, nI_pred, pk_sub, jx_na, jx_add0, Nat.reduceMul, Nat.reduceAdd, Nat.reduceSub, Nat.reduceEqDiff, Nat.reduceLeDiff, Nat.reduceLT, k238]; refine jx_ixC ?_ ?_; omega; omega) | (simp (disch := first | omega | fail) only [jx_lit, pk_mul, nI_add, nI_pred, pk_sub, jx_na, jx_add0, Nat.reduceMul, Nat.reduceAdd, Nat.reduceSub, Nat.reduceEqDiff, Nat.reduceLeDiff, Nat.reduceLT, jx_cl, nI_leI, Nat.zero_le, true_and, k238]; omega) | fail) only [jb_40_0, jb_40_4, jb_40_16, jb_40_18, jb_40_25, jb_40_28, jb_40_33, jb_40_43, jb_40_46, jb_40_48, jb_40_54, jx_nl, jx_nlr, jx_thenS, jx_tlS, jx_tlN, jm_ite_go, jx_rds, jx_rdn, jx_lit, pk_mul, nI_add, nI_pred, pk_sub, jx_na, jx_add0, Nat.reduceMul, Nat.reduceAdd, Nat.reduceSub, Nat.reduceEqDiff, Nat.reduceLeDiff, Nat.reduceLT, Nat.not_lt_zero, jx_cl, nI_leI, nI_ltI, nI_eq, jx_neg, jx_neg', jx_negE, jx_negL, jx_negG, jx_negLE, jx_negN, sb_nlt, sb_nle, jx_b0, jx_b1, jx_bT, jx_bF, ite_true, ite_false, if_true, if_false, reduceIte, Bool.false_eq_true, Bool.true_eq_false, eq_self, Nat.one_ne_zero, Nat.add_sub_cancel, not_true_eq_false, not_false_eq_true, k238]
  · rw [jz_wm_len (by rw [hWl]; exact hl)]
    have hl2 : ¬ 3 = e - r := fun q => hl q.symm
    simp (disch := first | assumption | omega | exact jx_bz _ | exact jx_z0 | exact jx_z1 | (refine jx_ixB ?_ ?_; omega; omega) | (simp (disch := first | omega | fail) only [jx_lit, pk_mul, nI_add, nI_pred, pk_sub, jx_na, jx_add0, Nat.reduceMul, Nat.reduceAdd, Nat.reduceSub, Nat.reduceEqDiff, Nat.reduceLeDiff, Nat.reduceLT, k238, he, hr, er, hl2]; refine jx_ixC ?_ ?_; omega; omega) | (simp (disch := first | omega | fail) only [jx_lit, pk_mul, nI_add, nI_pred, pk_sub, jx_na, jx_add0, Nat.reduceMul, Nat.reduceAdd, Nat.reduceSub, Nat.reduceEqDiff, Nat.reduceLeDiff, Nat.reduceLT, jx_cl, nI_leI, Nat.zero_le, true_and, k238, he, hr, er, hl2]; omega) | fail) only [je_40, jb_40_0, jb_40_4, jb_40_16, jb_40_18, jb_40_25, jb_40_28, jb_40_33, jb_40_43, jb_40_46, jb_40_48, jb_40_54, jx_nl, jx_nlr, jx_thenS, jx_tlS, jx_tlN, jm_ite_go, jx_rds, jx_rdn, jx_lit, pk_mul, nI_add, nI_pred, pk_sub, jx_na, jx_add0, Nat.reduceMul, Nat.reduceAdd, Nat.reduceSub, Nat.reduceEqDiff, Nat.reduceLeDiff, Nat.reduceLT, Nat.not_lt_zero, jx_cl, nI_leI, nI_ltI, nI_eq, jx_neg, jx_neg', jx_negE, jx_negL, jx_negG, jx_negLE, jx_negN, sb_nlt, sb_nle, jx_b0, jx_b1, jx_bT, jx_bF, ite_true, ite_false, if_true, if_false, reduceIte, Bool.false_eq_true, Bool.true_eq_false, eq_self, Nat.one_ne_zero, Nat.add_sub_cancel, not_true_eq_false, not_false_eq_true, k238, he, hr, er, hl2]
/-! opened -/
theorem jf_240_10 {d : Nat} {h : jm_H} : jm_ev (d + 1) 240 [.ref 1000011] h = some (some (.int 0), h) :=
  je_240.trans ((jm_go_steps (c2 := (14, [some (.ref 1000011)], [.int 0], h)) 5 rfl).trans (jm_go_ret (v := some (.int 0)) rfl))
theorem jf_241_10 {d : Nat} {h : jm_H} : jm_ev (d + 1) 241 [.ref 1000011] h = some (some (.int 1), h) :=
  je_241.trans ((jm_go_steps (c2 := (18, [some (.ref 1000011)], [.int 1], h)) 7 rfl).trans (jm_go_ret (v := some (.int 1)) rfl))
theorem jf_238_10 {d : Nat} {h : jm_H} : jm_ev (d + 2) 238 [.ref 1000011] h = some (some (.int (nI 6)), h) := by
  refine je_238.trans ((jm_go_steps (c2 := (6, [some (.ref 1000011)], [.ref 1000011, .int (Int32.ofNat 6)], h)) 4 rfl).trans ((jm_go_call (q := (240, [.ref 1000011], [.int (Int32.ofNat 6)])) rfl).trans ?_))
  rw [jf_240_10]
  refine ((jm_go_steps (c2 := (10, [some (.ref 1000011)], [.int (Int32.ofNat 6 >>> ((0 : Int32) &&& 31))], h)) 1 rfl).trans (jm_go_ret (v := some (.int (Int32.ofNat 6 >>> ((0 : Int32) &&& 31)))) rfl)).trans ?_
  rw [show Int32.ofNat 6 >>> ((0 : Int32) &&& 31) = nI 6 by decide]
theorem jf_243_10 {d i : Nat} {h : jm_H} (hi : i < 6) : jm_ev (d + 3) 243 [.ref 1000111, .int (nI i)] h = some (some (.int (nI ((jz_W 7).getD i 0))), h) := by
  have h1 : ¬ nI i < 0 := by rw [show (0 : Int32) = nI 0 from rfl, nI_ltI (by omega) (by decide)]; omega
  have h2 : nI i < nI 6 := by rw [nI_ltI (by omega) (by decide)]; exact hi
  have h3 : 0 ≤ nI i ∧ (nI i).toNatClampNeg < 6 := jx_ixB hi (by decide)
  have h4 : (nI i).toNatClampNeg = i := jx_cl (by omega)
  refine je_243.trans ((jm_go_steps (c2 := (3, [some (.ref 1000111), some (.int (nI i))], [.int (nI 6), .int (nI i)], h)) 3 rfl).trans ((jm_go_call (q := (242, [.int (nI i), .int (nI 6)], [])) rfl).trans ?_))
  rw [jf_242 h1 h2]
  refine (jm_go_steps (c2 := (8, [some (.ref 1000111), some (.int (nI i))], [.int (nI i), .ref 1000111], h)) 2 rfl).trans ?_
  refine (jm_go_next (c2 := (9, [some (.ref 1000111), some (.int (nI i))], [.int (([111, 112, 101, 110, 101, 100] : List Int32).getD (nI i).toNatClampNeg 0)], h)) (Eq.trans (b := if jm_STB ≤ 1000111 ∧ 1000111 - jm_STB < jm_sn ∧ 0 ≤ nI i ∧ (nI i).toNatClampNeg < 6 then some (Sum.inl (9, [some (.ref 1000111), some (.int (nI i))], [.int (([111, 112, 101, 110, 101, 100] : List Int32).getD (nI i).toNatClampNeg 0)], h)) else none) rfl (if_pos ⟨by decide, by decide, h3.1, h3.2⟩))).trans ?_
  rw [h4]
  have h5 : ∀ i, i < 6 → 0 ≤ ((([111, 112, 101, 110, 101, 100] : List Int32).getD i 0 &&& 255).toUInt32 % 65536).toInt32 ∧ ((([111, 112, 101, 110, 101, 100] : List Int32).getD i 0 &&& 255).toUInt32 % 65536).toInt32 ≤ 255 ∧ ((([111, 112, 101, 110, 101, 100] : List Int32).getD i 0 &&& 255).toUInt32 % 65536).toInt32 = nI ((jz_W 7).getD i 0) := by decide
  obtain ⟨h6, h7, h8⟩ := h5 i hi
  refine (jm_go_steps (c2 := (14, [some (.ref 1000111), some (.int (nI i))], [.int ((([111, 112, 101, 110, 101, 100] : List Int32).getD i 0 &&& 255).toUInt32 % 65536).toInt32], h)) 3 rfl).trans ?_
  rw [h8] at h6 h7 ⊢
  exact jm_go_ret (v := some (.int (nI ((jz_W 7).getD i 0)))) (Eq.trans (b := if 0 ≤ nI ((jz_W 7).getD i 0) ∧ nI ((jz_W 7).getD i 0) ≤ 255 then some (Sum.inr (Sum.inr (some (.int (nI ((jz_W 7).getD i 0)))))) else none) rfl (if_pos ⟨h6, h7⟩))
theorem jf_239_10 {d i : Nat} {h : jm_H} (hi : i < 6) : jm_ev (d + 4) 239 [.ref 1000011, .int (nI i)] h = some (some (.int (nI ((jz_W 7).getD i 0))), h) := by
  refine je_239.trans ((jm_go_steps (c2 := (1, [some (.ref 1000011), some (.int (nI i))], [.ref 1000011], h)) 1 rfl).trans ((jm_go_call (q := (241, [.ref 1000011], [])) rfl).trans ?_))
  rw [jf_241_10]
  refine (jm_go_steps (c2 := (12, [some (.ref 1000011), some (.int (nI i))], [.int (nI i), .ref 1000111], h)) 4 rfl).trans ((jm_go_call (q := (243, [.ref 1000111, .int (nI i)], [])) rfl).trans ?_)
  rw [jf_243_10 hi]
  have h5 : ∀ i, i < 6 → 0 ≤ nI ((jz_W 7).getD i 0) ∧ nI ((jz_W 7).getD i 0) ≤ 255 := by decide
  exact jm_go_ret (v := some (.int (nI ((jz_W 7).getD i 0)))) (Eq.trans (b := if 0 ≤ nI ((jz_W 7).getD i 0) ∧ nI ((jz_W 7).getD i 0) ≤ 255 then some (Sum.inr (Sum.inr (some (.int (nI ((jz_W 7).getD i 0)))))) else none) rfl (if_pos (h5 i hi)))
theorem jf_40_10 {d s r e : Nat} {b : Nat → Nat} {I : Nat → Nat → Int32} {rho : Nat → Option Nat} {mu : List (Nat × Nat)} (hs : I 30 1 = nI s) (hs2 : s ≤ 160) (hb : ∀ k, k < s → I 31 k = nI (b k)) (hb2 : ∀ k, b k < 256) (he : I 30 2 = nI e) (hr : I 30 4 = nI r) (hre : r ≤ e) (hes : e ≤ s) : jm_ev (d + 5) 40 [.ref 30, .ref 1000011] (jm_hp I rho mu) = some (some (.int (jx_b (jz_wm b r e 7))), jm_hp I rho mu) := by
  have hA : jm_STR ≤ 1000011 ∧ 1000011 - jm_STR < jm_sn := by decide
  have k238 := @jf_238_10 (d + 2) (jm_hp I rho mu)
  have hWl : (jz_W 7).length = 6 := rfl
  have er : nI e - nI r = nI (e - r) := pk_sub hre
  by_cases hl : e - r = 6
  · have e0 : jm_ev (d + 5) 40 [.ref 30, .ref 1000011] (jm_hp I rho mu) = jm_go (jm_ev (d + 4)) 40 (20, [some (.ref 30), some (.ref 1000011), some (.int (nI 0))], [], jm_hp I rho mu) := by
      simp (disch := first | assumption | omega | exact jx_bz _ | exact jx_z0 | exact jx_z1 | (refine jx_ixB ?_ ?_; omega; omega) | (simp (disch := first | omega | fail) only [jx_lit, pk_mul, nI_add, nI_pred, pk_sub, jx_na, jx_add0, Nat.reduceMul, Nat.reduceAdd, Nat.reduceSub, Nat.reduceEqDiff, Nat.reduceLeDiff, Nat.reduceLT, k238, he, hr, er, hl]; refine jx_ixC ?_ ?_; omega; omega) | (simp (disch := first | omega | fail) only [jx_lit, pk_mul, nI_add, nI_pred, pk_sub, jx_na, jx_add0, Nat.reduceMul, Nat.reduceAdd, Nat.reduceSub, Nat.reduceEqDiff, Nat.reduceLeDiff, Nat.reduceLT, jx_cl, nI_leI, Nat.zero_le, true_and, k238, he, hr, er, hl]; omega) | fail) only [je_40, jb_40_0, jb_40_4, jb_40_16, jb_40_18, jb_40_25, jb_40_28, jb_40_33, jb_40_43, jb_40_46, jb_40_48, jb_40_54, jx_nl, jx_nlr, jx_thenS, jx_tlS, jx_tlN, jm_ite_go, jx_rds, jx_rdn, jx_lit, pk_mul, nI_add, nI_pred, pk_sub, jx_na, jx_add0, Nat.reduceMul, Nat.reduceAdd, Nat.reduceSub, Nat.reduceEqDiff, Nat.reduceLeDiff, Nat.reduceLT, Nat.not_lt_zero, jx_cl, nI_leI, nI_ltI, nI_eq, jx_neg, jx_neg', jx_negE, jx_negL, jx_negG, jx_negLE, jx_negN, sb_nlt, sb_nle, jx_b0, jx_b1, jx_bT, jx_bF, ite_true, ite_false, if_true, if_false, reduceIte, Bool.false_eq_true, Bool.true_eq_false, eq_self, Nat.one_ne_zero, Nat.add_sub_cancel, not_true_eq_false, not_false_eq_true, k238, he, hr, er, hl]
    have st : ∀ i, i < 6 → jm_go (jm_ev (d + 4)) 40 (20, [some (.ref 30), some (.ref 1000011), some (.int (nI i))], [], jm_hp I rho mu) = if (jz_W 7).getD i 0 = b (r + i) then jm_go (jm_ev (d + 4)) 40 (20, [some (.ref 30), some (.ref 1000011), some (.int (nI (i + 1)))], [], jm_hp I rho mu) else some (some (.int (nI 0)), jm_hp I rho mu) := fun i hi => by
      have zn : ¬ 6 ≤ i := by omega
      have k239 := @jf_239_10 d i (jm_hp I rho mu) hi
      have k26 := @jf_26 (d + 3) s (r + i) I rho mu hs hs2 (by omega)
      rw [hb _ (by omega)] at k26
      have hc : (jz_W 7).getD i 0 < 256 := by
        have : ∀ i, i < 6 → (jz_W 7).getD i 0 < 256 := by decide
        exact this i hi
      have hc2 := hb2 (r + i)
      rw [jb_40_20 hA]
      by_cases q : (jz_W 7).getD i 0 = b (r + i)
      · rw [if_pos q]
        rw [q] at k239
        simp (disch := first | assumption | omega | exact jx_bz _ | exact jx_z0 | exact jx_z1 | (refine jx_ixB ?_ ?_; omega; omega) | (simp (disch := first | omega | fail) only [jx_lit, pk_mul, nI_add, nI_pred, pk_sub, jx_na, jx_add0, Nat.reduceMul, Nat.reduceAdd, Nat.reduceSub, Nat.reduceEqDiff, Nat.reduceLeDiff, Nat.reduceLT, k238, zn, k239, hr, k26]; refine jx_ixC ?_ ?_; omega; omega) | (simp (disch := first | omega | fail) only [jx_lit, pk_mul, nI_add, nI_pred, pk_sub, jx_na, jx_add0, Nat.reduceMul, Nat.reduceAdd, Nat.reduceSub, Nat.reduceEqDiff, Nat.reduceLeDiff, Nat.reduceLT, jx_cl, nI_leI, Nat.zero_le, true_and, k238, zn, k239, hr, k26]; omega) | fail) only [jb_40_0, jb_40_4, jb_40_16, jb_40_18, jb_40_25, jb_40_28, jb_40_33, jb_40_43, jb_40_46, jb_40_48, jb_40_54, jx_nl, jx_nlr, jx_thenS, jx_tlS, jx_tlN, jm_ite_go, jx_rds, jx_rdn, jx_lit, pk_mul, nI_add, nI_pred, pk_sub, jx_na, jx_add0, Nat.reduceMul, Nat.reduceAdd, Nat.reduceSub, Nat.reduceEqDiff, Nat.reduceLeDiff, Nat.reduceLT, Nat.not_lt_zero, jx_cl, nI_leI, nI_ltI, nI_eq, jx_neg, jx_neg', jx_negE, jx_negL, jx_negG, jx_negLE, jx_negN, sb_nlt, sb_nle, jx_b0, jx_b1, jx_bT, jx_bF, ite_true, ite_false, if_true, if_false, reduceIte, Bool.false_eq_true, Bool.true_eq_false, eq_self, Nat.one_ne_zero, Nat.add_sub_cancel, not_true_eq_false, not_false_eq_true, k238, zn, k239, hr, k26]
      · rw [if_neg q]
        simp (disch := first | assumption | omega | exact jx_bz _ | exact jx_z0 | exact jx_z1 | (refine jx_ixB ?_ ?_; omega; omega) | (simp (disch := first | omega | fail) only [jx_lit, pk_mul, nI_add, nI_pred, pk_sub, jx_na, jx_add0, Nat.reduceMul, Nat.reduceAdd, Nat.reduceSub, Nat.reduceEqDiff, Nat.reduceLeDiff, Nat.reduceLT, k238, zn, k239, hr, k26, q]; refine jx_ixC ?_ ?_; omega; omega) | (simp (disch := first | omega | fail) only [jx_lit, pk_mul, nI_add, nI_pred, pk_sub, jx_na, jx_add0, Nat.reduceMul, Nat.reduceAdd, Nat.reduceSub, Nat.reduceEqDiff, Nat.reduceLeDiff, Nat.reduceLT, jx_cl, nI_leI, Nat.zero_le, true_and, k238, zn, k239, hr, k26, q]; omega) | fail) only [jb_40_0, jb_40_4, jb_40_16, jb_40_18, jb_40_25, jb_40_28, jb_40_33, jb_40_43, jb_40_46, jb_40_48, jb_40_54, jx_nl, jx_nlr, jx_thenS, jx_tlS, jx_tlN, jm_ite_go, jx_rds, jx_rdn, jx_lit, pk_mul, nI_add, nI_pred, pk_sub, jx_na, jx_add0, Nat.reduceMul, Nat.reduceAdd, Nat.reduceSub, Nat.reduceEqDiff, Nat.reduceLeDiff, Nat.reduceLT, Nat.not_lt_zero, jx_cl, nI_leI, nI_ltI, nI_eq, jx_neg, jx_neg', jx_negE, jx_negL, jx_negG, jx_negLE, jx_negN, sb_nlt, sb_nle, jx_b0, jx_b1, jx_bT, jx_bF, ite_true, ite_false, if_true, if_false, reduceIte, Bool.false_eq_true, Bool.true_eq_false, eq_self, Nat.one_ne_zero, Nat.add_sub_cancel, not_true_eq_false, not_false_eq_true, k238, zn, k239, hr, k26, q]
    rcases jx_least (fun i => !decide ((jz_W 7).getD i 0 = b (r + i))) 6 with ⟨k, hk, h1, h2⟩ | h2
    · have h1 : ¬ (jz_W 7).getD k 0 = b (r + k) := by simpa using h1
      have h2 : ∀ j, j < k → (jz_W 7).getD j 0 = b (r + j) := fun j hj => by simpa using h2 j hj
      rw [jz_wm_ne (i := k) (by rw [hWl]; exact hk) h1]
      have lp := jx_for0 (E := jm_ev (d + 4)) (y := 40) k (fun i => (20, [some (.ref 30), some (.ref 1000011), some (.int (nI i))], [], jm_hp I rho mu)) (fun i hi => by rw [st i (by omega), if_pos (h2 i hi)]) k (Nat.le_refl _)
      rw [e0]
      refine Eq.trans lp ?_
      rw [st k hk, if_neg h1]
      rfl
    · have h2 : ∀ j, j < 6 → (jz_W 7).getD j 0 = b (r + j) := fun j hj => by simpa using h2 j hj
      rw [jz_wm_T (by rw [hWl]; exact hl) fun i hi => h2 i (by rw [hWl] at hi; exact hi)]
      have lp := jx_for0 (E := jm_ev (d + 4)) (y := 40) 6 (fun i => (20, [some (.ref 30), some (.ref 1000011), some (.int (nI i))], [], jm_hp I rho mu)) (fun i hi => by rw [st i (by omega), if_pos (h2 i hi)]) 6 (Nat.le_refl _)
      rw [e0]
      refine Eq.trans lp ?_
      rw [jb_40_20 hA]
      simp (disch := first | assumption | omega | exact jx_bz _ | exact jx_z0 | exact jx_z1 | (refine jx_ixB ?_ ?_; omega; omega) | (simp (disch := first | omega | fail) only [jx_lit, pk_mul, nI_add, nI_pred, pk_sub, jx_na, jx_add0, Nat.reduceMul, Nat.reduceAdd, Nat.reduceSub, Nat.reduceEqDiff, Nat.reduceLeDiff, Nat.reduceLT, k238]; refine jx_ixC ?_ ?_; omega; omega) | (simp (disch := first | omega | fail) only [jx_lit, pk_mul, nI_add, nI_pred, pk_sub, jx_na, jx_add0, Nat.reduceMul, Nat.reduceAdd, Nat.reduceSub, Nat.reduceEqDiff, Nat.reduceLeDiff, Nat.reduceLT, jx_cl, nI_leI, Nat.zero_le, true_and, k238]; omega) | fail) only [jb_40_0, jb_40_4, jb_40_16, jb_40_18, jb_40_25, jb_40_28, jb_40_33, jb_40_43, jb_40_46, jb_40_48, jb_40_54, jx_nl, jx_nlr, jx_thenS, jx_tlS, jx_tlN, jm_ite_go, jx_rds, jx_rdn, jx_lit, pk_mul, nI_add, nI_pred, pk_sub, jx_na, jx_add0, Nat.reduceMul, Nat.reduceAdd, Nat.reduceSub, Nat.reduceEqDiff, Nat.reduceLeDiff, Nat.reduceLT, Nat.not_lt_zero, jx_cl, nI_leI, nI_ltI, nI_eq, jx_neg, jx_neg', jx_negE, jx_negL, jx_negG, jx_negLE, jx_negN, sb_nlt, sb_nle, jx_b0, jx_b1, jx_bT, jx_bF, ite_true, ite_false, if_true, if_false, reduceIte, Bool.false_eq_true, Bool.true_eq_false, eq_self, Nat.one_ne_zero, Nat.add_sub_cancel, not_true_eq_false, not_false_eq_true, k238]
  · rw [jz_wm_len (by rw [hWl]; exact hl)]
    have hl2 : ¬ 6 = e - r := fun q => hl q.symm
    simp (disch := first | assumption | omega | exact jx_bz _ | exact jx_z0 | exact jx_z1 | (refine jx_ixB ?_ ?_; omega; omega) | (simp (disch := first | omega | fail) only [jx_lit, pk_mul, nI_add, nI_pred, pk_sub, jx_na, jx_add0, Nat.reduceMul, Nat.reduceAdd, Nat.reduceSub, Nat.reduceEqDiff, Nat.reduceLeDiff, Nat.reduceLT, k238, he, hr, er, hl2]; refine jx_ixC ?_ ?_; omega; omega) | (simp (disch := first | omega | fail) only [jx_lit, pk_mul, nI_add, nI_pred, pk_sub, jx_na, jx_add0, Nat.reduceMul, Nat.reduceAdd, Nat.reduceSub, Nat.reduceEqDiff, Nat.reduceLeDiff, Nat.reduceLT, jx_cl, nI_leI, Nat.zero_le, true_and, k238, he, hr, er, hl2]; omega) | fail) only [je_40, jb_40_0, jb_40_4, jb_40_16, jb_40_18, jb_40_25, jb_40_28, jb_40_33, jb_40_43, jb_40_46, jb_40_48, jb_40_54, jx_nl, jx_nlr, jx_thenS, jx_tlS, jx_tlN, jm_ite_go, jx_rds, jx_rdn, jx_lit, pk_mul, nI_add, nI_pred, pk_sub, jx_na, jx_add0, Nat.reduceMul, Nat.reduceAdd, Nat.reduceSub, Nat.reduceEqDiff, Nat.reduceLeDiff, Nat.reduceLT, Nat.not_lt_zero, jx_cl, nI_leI, nI_ltI, nI_eq, jx_neg, jx_neg', jx_negE, jx_negL, jx_negG, jx_negLE, jx_negN, sb_nlt, sb_nle, jx_b0, jx_b1, jx_bT, jx_bF, ite_true, ite_false, if_true, if_false, reduceIte, Bool.false_eq_true, Bool.true_eq_false, eq_self, Nat.one_ne_zero, Nat.add_sub_cancel, not_true_eq_false, not_false_eq_true, k238, he, hr, er, hl2]
/-! more -/
theorem jf_240_11 {d : Nat} {h : jm_H} : jm_ev (d + 1) 240 [.ref 1000012] h = some (some (.int 0), h) :=
  je_240.trans ((jm_go_steps (c2 := (14, [some (.ref 1000012)], [.int 0], h)) 5 rfl).trans (jm_go_ret (v := some (.int 0)) rfl))
theorem jf_241_11 {d : Nat} {h : jm_H} : jm_ev (d + 1) 241 [.ref 1000012] h = some (some (.int 1), h) :=
  je_241.trans ((jm_go_steps (c2 := (18, [some (.ref 1000012)], [.int 1], h)) 7 rfl).trans (jm_go_ret (v := some (.int 1)) rfl))
theorem jf_238_11 {d : Nat} {h : jm_H} : jm_ev (d + 2) 238 [.ref 1000012] h = some (some (.int (nI 4)), h) := by
  refine je_238.trans ((jm_go_steps (c2 := (6, [some (.ref 1000012)], [.ref 1000012, .int (Int32.ofNat 4)], h)) 4 rfl).trans ((jm_go_call (q := (240, [.ref 1000012], [.int (Int32.ofNat 4)])) rfl).trans ?_))
  rw [jf_240_11]
  refine ((jm_go_steps (c2 := (10, [some (.ref 1000012)], [.int (Int32.ofNat 4 >>> ((0 : Int32) &&& 31))], h)) 1 rfl).trans (jm_go_ret (v := some (.int (Int32.ofNat 4 >>> ((0 : Int32) &&& 31)))) rfl)).trans ?_
  rw [show Int32.ofNat 4 >>> ((0 : Int32) &&& 31) = nI 4 by decide]
theorem jf_243_11 {d i : Nat} {h : jm_H} (hi : i < 4) : jm_ev (d + 3) 243 [.ref 1000112, .int (nI i)] h = some (some (.int (nI ((jz_W 8).getD i 0))), h) := by
  have h1 : ¬ nI i < 0 := by rw [show (0 : Int32) = nI 0 from rfl, nI_ltI (by omega) (by decide)]; omega
  have h2 : nI i < nI 4 := by rw [nI_ltI (by omega) (by decide)]; exact hi
  have h3 : 0 ≤ nI i ∧ (nI i).toNatClampNeg < 4 := jx_ixB hi (by decide)
  have h4 : (nI i).toNatClampNeg = i := jx_cl (by omega)
  refine je_243.trans ((jm_go_steps (c2 := (3, [some (.ref 1000112), some (.int (nI i))], [.int (nI 4), .int (nI i)], h)) 3 rfl).trans ((jm_go_call (q := (242, [.int (nI i), .int (nI 4)], [])) rfl).trans ?_))
  rw [jf_242 h1 h2]
  refine (jm_go_steps (c2 := (8, [some (.ref 1000112), some (.int (nI i))], [.int (nI i), .ref 1000112], h)) 2 rfl).trans ?_
  refine (jm_go_next (c2 := (9, [some (.ref 1000112), some (.int (nI i))], [.int (([109, 111, 114, 101] : List Int32).getD (nI i).toNatClampNeg 0)], h)) (Eq.trans (b := if jm_STB ≤ 1000112 ∧ 1000112 - jm_STB < jm_sn ∧ 0 ≤ nI i ∧ (nI i).toNatClampNeg < 4 then some (Sum.inl (9, [some (.ref 1000112), some (.int (nI i))], [.int (([109, 111, 114, 101] : List Int32).getD (nI i).toNatClampNeg 0)], h)) else none) rfl (if_pos ⟨by decide, by decide, h3.1, h3.2⟩))).trans ?_
  rw [h4]
  have h5 : ∀ i, i < 4 → 0 ≤ ((([109, 111, 114, 101] : List Int32).getD i 0 &&& 255).toUInt32 % 65536).toInt32 ∧ ((([109, 111, 114, 101] : List Int32).getD i 0 &&& 255).toUInt32 % 65536).toInt32 ≤ 255 ∧ ((([109, 111, 114, 101] : List Int32).getD i 0 &&& 255).toUInt32 % 65536).toInt32 = nI ((jz_W 8).getD i 0) := by decide
  obtain ⟨h6, h7, h8⟩ := h5 i hi
  refine (jm_go_steps (c2 := (14, [some (.ref 1000112), some (.int (nI i))], [.int ((([109, 111, 114, 101] : List Int32).getD i 0 &&& 255).toUInt32 % 65536).toInt32], h)) 3 rfl).trans ?_
  rw [h8] at h6 h7 ⊢
  exact jm_go_ret (v := some (.int (nI ((jz_W 8).getD i 0)))) (Eq.trans (b := if 0 ≤ nI ((jz_W 8).getD i 0) ∧ nI ((jz_W 8).getD i 0) ≤ 255 then some (Sum.inr (Sum.inr (some (.int (nI ((jz_W 8).getD i 0)))))) else none) rfl (if_pos ⟨h6, h7⟩))
theorem jf_239_11 {d i : Nat} {h : jm_H} (hi : i < 4) : jm_ev (d + 4) 239 [.ref 1000012, .int (nI i)] h = some (some (.int (nI ((jz_W 8).getD i 0))), h) := by
  refine je_239.trans ((jm_go_steps (c2 := (1, [some (.ref 1000012), some (.int (nI i))], [.ref 1000012], h)) 1 rfl).trans ((jm_go_call (q := (241, [.ref 1000012], [])) rfl).trans ?_))
  rw [jf_241_11]
  refine (jm_go_steps (c2 := (12, [some (.ref 1000012), some (.int (nI i))], [.int (nI i), .ref 1000112], h)) 4 rfl).trans ((jm_go_call (q := (243, [.ref 1000112, .int (nI i)], [])) rfl).trans ?_)
  rw [jf_243_11 hi]
  have h5 : ∀ i, i < 4 → 0 ≤ nI ((jz_W 8).getD i 0) ∧ nI ((jz_W 8).getD i 0) ≤ 255 := by decide
  exact jm_go_ret (v := some (.int (nI ((jz_W 8).getD i 0)))) (Eq.trans (b := if 0 ≤ nI ((jz_W 8).getD i 0) ∧ nI ((jz_W 8).getD i 0) ≤ 255 then some (Sum.inr (Sum.inr (some (.int (nI ((jz_W 8).getD i 0)))))) else none) rfl (if_pos (h5 i hi)))
theorem jf_40_11 {d s r e : Nat} {b : Nat → Nat} {I : Nat → Nat → Int32} {rho : Nat → Option Nat} {mu : List (Nat × Nat)} (hs : I 30 1 = nI s) (hs2 : s ≤ 160) (hb : ∀ k, k < s → I 31 k = nI (b k)) (hb2 : ∀ k, b k < 256) (he : I 30 2 = nI e) (hr : I 30 4 = nI r) (hre : r ≤ e) (hes : e ≤ s) : jm_ev (d + 5) 40 [.ref 30, .ref 1000012] (jm_hp I rho mu) = some (some (.int (jx_b (jz_wm b r e 8))), jm_hp I rho mu) := by
  have hA : jm_STR ≤ 1000012 ∧ 1000012 - jm_STR < jm_sn := by decide
  have k238 := @jf_238_11 (d + 2) (jm_hp I rho mu)
  have hWl : (jz_W 8).length = 4 := rfl
  have er : nI e - nI r = nI (e - r) := pk_sub hre
  by_cases hl : e - r = 4
  · have e0 : jm_ev (d + 5) 40 [.ref 30, .ref 1000012] (jm_hp I rho mu) = jm_go (jm_ev (d + 4)) 40 (20, [some (.ref 30), some (.ref 1000012), some (.int (nI 0))], [], jm_hp I rho mu) := by
      simp (disch := first | assumption | omega | exact jx_bz _ | exact jx_z0 | exact jx_z1 | (refine jx_ixB ?_ ?_; omega; omega) | (simp (disch := first | omega | fail) only [jx_lit, pk_mul, nI_add, nI_pred, pk_sub, jx_na, jx_add0, Nat.reduceMul, Nat.reduceAdd, Nat.reduceSub, Nat.reduceEqDiff, Nat.reduceLeDiff, Nat.reduceLT, k238, he, hr, er, hl]; refine jx_ixC ?_ ?_; omega; omega) | (simp (disch := first | omega | fail) only [jx_lit, pk_mul, nI_add, nI_pred, pk_sub, jx_na, jx_add0, Nat.reduceMul, Nat.reduceAdd, Nat.reduceSub, Nat.reduceEqDiff, Nat.reduceLeDiff, Nat.reduceLT, jx_cl, nI_leI, Nat.zero_le, true_and, k238, he, hr, er, hl]; omega) | fail) only [je_40, jb_40_0, jb_40_4, jb_40_16, jb_40_18, jb_40_25, jb_40_28, jb_40_33, jb_40_43, jb_40_46, jb_40_48, jb_40_54, jx_nl, jx_nlr, jx_thenS, jx_tlS, jx_tlN, jm_ite_go, jx_rds, jx_rdn, jx_lit, pk_mul, nI_add, nI_pred, pk_sub, jx_na, jx_add0, Nat.reduceMul, Nat.reduceAdd, Nat.reduceSub, Nat.reduceEqDiff, Nat.reduceLeDiff, Nat.reduceLT, Nat.not_lt_zero, jx_cl, nI_leI, nI_ltI, nI_eq, jx_neg, jx_neg', jx_negE, jx_negL, jx_negG, jx_negLE, jx_negN, sb_nlt, sb_nle, jx_b0, jx_b1, jx_bT, jx_bF, ite_true, ite_false, if_true, if_false, reduceIte, Bool.false_eq_true, Bool.true_eq_false, eq_self, Nat.one_ne_zero, Nat.add_sub_cancel, not_true_eq_false, not_false_eq_true, k238, he, hr, er, hl]
    have st : ∀ i, i < 4 → jm_go (jm_ev (d + 4)) 40 (20, [some (.ref 30), some (.ref 1000012), some (.int (nI i))], [], jm_hp I rho mu) = if (jz_W 8).getD i 0 = b (r + i) then jm_go (jm_ev (d + 4)) 40 (20, [some (.ref 30), some (.ref 1000012), some (.int (nI (i + 1)))], [], jm_hp I rho mu) else some (some (.int (nI 0)), jm_hp I rho mu) := fun i hi => by
      have zn : ¬ 4 ≤ i := by omega
      have k239 := @jf_239_11 d i (jm_hp I rho mu) hi
      have k26 := @jf_26 (d + 3) s (r + i) I rho mu hs hs2 (by omega)
      rw [hb _ (by omega)] at k26
      have hc : (jz_W 8).getD i 0 < 256 := by
        have : ∀ i, i < 4 → (jz_W 8).getD i 0 < 256 := by decide
        exact this i hi
      have hc2 := hb2 (r + i)
      rw [jb_40_20 hA]
      by_cases q : (jz_W 8).getD i 0 = b (r + i)
      · rw [if_pos q]
        rw [q] at k239
        simp (disch := first | assumption | omega | exact jx_bz _ | exact jx_z0 | exact jx_z1 | (refine jx_ixB ?_ ?_; omega; omega) | (simp (disch := first | omega | fail) only [jx_lit, pk_mul, nI_add, nI_pred, pk_sub, jx_na, jx_add0, Nat.reduceMul, Nat.reduceAdd, Nat.reduceSub, Nat.reduceEqDiff, Nat.reduceLeDiff, Nat.reduceLT, k238, zn, k239, hr, k26]; refine jx_ixC ?_ ?_; omega; omega) | (simp (disch := first | omega | fail) only [jx_lit, pk_mul, nI_add, nI_pred, pk_sub, jx_na, jx_add0, Nat.reduceMul, Nat.reduceAdd, Nat.reduceSub, Nat.reduceEqDiff, Nat.reduceLeDiff, Nat.reduceLT, jx_cl, nI_leI, Nat.zero_le, true_and, k238, zn, k239, hr, k26]; omega) | fail) only [jb_40_0, jb_40_4, jb_40_16, jb_40_18, jb_40_25, jb_40_28, jb_40_33, jb_40_43, jb_40_46, jb_40_48, jb_40_54, jx_nl, jx_nlr, jx_thenS, jx_tlS, jx_tlN, jm_ite_go, jx_rds, jx_rdn, jx_lit, pk_mul, nI_add, nI_pred, pk_sub, jx_na, jx_add0, Nat.reduceMul, Nat.reduceAdd, Nat.reduceSub, Nat.reduceEqDiff, Nat.reduceLeDiff, Nat.reduceLT, Nat.not_lt_zero, jx_cl, nI_leI, nI_ltI, nI_eq, jx_neg, jx_neg', jx_negE, jx_negL, jx_negG, jx_negLE, jx_negN, sb_nlt, sb_nle, jx_b0, jx_b1, jx_bT, jx_bF, ite_true, ite_false, if_true, if_false, reduceIte, Bool.false_eq_true, Bool.true_eq_false, eq_self, Nat.one_ne_zero, Nat.add_sub_cancel, not_true_eq_false, not_false_eq_true, k238, zn, k239, hr, k26]
      · rw [if_neg q]
        simp (disch := first | assumption | omega | exact jx_bz _ | exact jx_z0 | exact jx_z1 | (refine jx_ixB ?_ ?_; omega; omega) | (simp (disch := first | omega | fail) only [jx_lit, pk_mul, nI_add, nI_pred, pk_sub, jx_na, jx_add0, Nat.reduceMul, Nat.reduceAdd, Nat.reduceSub, Nat.reduceEqDiff, Nat.reduceLeDiff, Nat.reduceLT, k238, zn, k239, hr, k26, q]; refine jx_ixC ?_ ?_; omega; omega) | (simp (disch := first | omega | fail) only [jx_lit, pk_mul, nI_add, nI_pred, pk_sub, jx_na, jx_add0, Nat.reduceMul, Nat.reduceAdd, Nat.reduceSub, Nat.reduceEqDiff, Nat.reduceLeDiff, Nat.reduceLT, jx_cl, nI_leI, Nat.zero_le, true_and, k238, zn, k239, hr, k26, q]; omega) | fail) only [jb_40_0, jb_40_4, jb_40_16, jb_40_18, jb_40_25, jb_40_28, jb_40_33, jb_40_43, jb_40_46, jb_40_48, jb_40_54, jx_nl, jx_nlr, jx_thenS, jx_tlS, jx_tlN, jm_ite_go, jx_rds, jx_rdn, jx_lit, pk_mul, nI_add, nI_pred, pk_sub, jx_na, jx_add0, Nat.reduceMul, Nat.reduceAdd, Nat.reduceSub, Nat.reduceEqDiff, Nat.reduceLeDiff, Nat.reduceLT, Nat.not_lt_zero, jx_cl, nI_leI, nI_ltI, nI_eq, jx_neg, jx_neg', jx_negE, jx_negL, jx_negG, jx_negLE, jx_negN, sb_nlt, sb_nle, jx_b0, jx_b1, jx_bT, jx_bF, ite_true, ite_false, if_true, if_false, reduceIte, Bool.false_eq_true, Bool.true_eq_false, eq_self, Nat.one_ne_zero, Nat.add_sub_cancel, not_true_eq_false, not_false_eq_true, k238, zn, k239, hr, k26, q]
    rcases jx_least (fun i => !decide ((jz_W 8).getD i 0 = b (r + i))) 4 with ⟨k, hk, h1, h2⟩ | h2
    · have h1 : ¬ (jz_W 8).getD k 0 = b (r + k) := by simpa using h1
      have h2 : ∀ j, j < k → (jz_W 8).getD j 0 = b (r + j) := fun j hj => by simpa using h2 j hj
      rw [jz_wm_ne (i := k) (by rw [hWl]; exact hk) h1]
      have lp := jx_for0 (E := jm_ev (d + 4)) (y := 40) k (fun i => (20, [some (.ref 30), some (.ref 1000012), some (.int (nI i))], [], jm_hp I rho mu)) (fun i hi => by rw [st i (by omega), if_pos (h2 i hi)]) k (Nat.le_refl _)
      rw [e0]
      refine Eq.trans lp ?_
      rw [st k hk, if_neg h1]
      rfl
    · have h2 : ∀ j, j < 4 → (jz_W 8).getD j 0 = b (r + j) := fun j hj => by simpa using h2 j hj
      rw [jz_wm_T (by rw [hWl]; exact hl) fun i hi => h2 i (by rw [hWl] at hi; exact hi)]
      have lp := jx_for0 (E := jm_ev (d + 4)) (y := 40) 4 (fun i => (20, [some (.ref 30), some (.ref 1000012), some (.int (nI i))], [], jm_hp I rho mu)) (fun i hi => by rw [st i (by omega), if_pos (h2 i hi)]) 4 (Nat.le_refl _)
      rw [e0]
      refine Eq.trans lp ?_
      rw [jb_40_20 hA]
      simp (disch := first | assumption | omega | exact jx_bz _ | exact jx_z0 | exact jx_z1 | (refine jx_ixB ?_ ?_; omega; omega) | (simp (disch := first | omega | fail) only [jx_lit, pk_mul, nI_add, nI_pred, pk_sub, jx_na, jx_add0, Nat.reduceMul, Nat.reduceAdd, Nat.reduceSub, Nat.reduceEqDiff, Nat.reduceLeDiff, Nat.reduceLT, k238]; refine jx_ixC ?_ ?_; omega; omega) | (simp (disch := first | omega | fail) only [jx_lit, pk_mul, nI_add, nI_pred, pk_sub, jx_na, jx_add0, Nat.reduceMul, Nat.reduceAdd, Nat.reduceSub, Nat.reduceEqDiff, Nat.reduceLeDiff, Nat.reduceLT, jx_cl, nI_leI, Nat.zero_le, true_and, k238]; omega) | fail) only [jb_40_0, jb_40_4, jb_40_16, jb_40_18, jb_40_25, jb_40_28, jb_40_33, jb_40_43, jb_40_46, jb_40_48, jb_40_54, jx_nl, jx_nlr, jx_thenS, jx_tlS, jx_tlN, jm_ite_go, jx_rds, jx_rdn, jx_lit, pk_mul, nI_add, nI_pred, pk_sub, jx_na, jx_add0, Nat.reduceMul, Nat.reduceAdd, Nat.reduceSub, Nat.reduceEqDiff, Nat.reduceLeDiff, Nat.reduceLT, Nat.not_lt_zero, jx_cl, nI_leI, nI_ltI, nI_eq, jx_neg, jx_neg', jx_negE, jx_negL, jx_negG, jx_negLE, jx_negN, sb_nlt, sb_nle, jx_b0, jx_b1, jx_bT, jx_bF, ite_true, ite_false, if_true, if_false, reduceIte, Bool.false_eq_true, Bool.true_eq_false, eq_self, Nat.one_ne_zero, Nat.add_sub_cancel, not_true_eq_false, not_false_eq_true, k238]
  · rw [jz_wm_len (by rw [hWl]; exact hl)]
    have hl2 : ¬ 4 = e - r := fun q => hl q.symm
    simp (disch := first | assumption | omega | exact jx_bz _ | exact jx_z0 | exact jx_z1 | (refine jx_ixB ?_ ?_; omega; omega) | (simp (disch := first | omega | fail) only [jx_lit, pk_mul, nI_add, nI_pred, pk_sub, jx_na, jx_add0, Nat.reduceMul, Nat.reduceAdd, Nat.reduceSub, Nat.reduceEqDiff, Nat.reduceLeDiff, Nat.reduceLT, k238, he, hr, er, hl2]; refine jx_ixC ?_ ?_; omega; omega) | (simp (disch := first | omega | fail) only [jx_lit, pk_mul, nI_add, nI_pred, pk_sub, jx_na, jx_add0, Nat.reduceMul, Nat.reduceAdd, Nat.reduceSub, Nat.reduceEqDiff, Nat.reduceLeDiff, Nat.reduceLT, jx_cl, nI_leI, Nat.zero_le, true_and, k238, he, hr, er, hl2]; omega) | fail) only [je_40, jb_40_0, jb_40_4, jb_40_16, jb_40_18, jb_40_25, jb_40_28, jb_40_33, jb_40_43, jb_40_46, jb_40_48, jb_40_54, jx_nl, jx_nlr, jx_thenS, jx_tlS, jx_tlN, jm_ite_go, jx_rds, jx_rdn, jx_lit, pk_mul, nI_add, nI_pred, pk_sub, jx_na, jx_add0, Nat.reduceMul, Nat.reduceAdd, Nat.reduceSub, Nat.reduceEqDiff, Nat.reduceLeDiff, Nat.reduceLT, Nat.not_lt_zero, jx_cl, nI_leI, nI_ltI, nI_eq, jx_neg, jx_neg', jx_negE, jx_negL, jx_negG, jx_negLE, jx_negN, sb_nlt, sb_nle, jx_b0, jx_b1, jx_bT, jx_bF, ite_true, ite_false, if_true, if_false, reduceIte, Bool.false_eq_true, Bool.true_eq_false, eq_self, Nat.one_ne_zero, Nat.add_sub_cancel, not_true_eq_false, not_false_eq_true, k238, he, hr, er, hl2]
