/-! TOKENS: where the next one begins, where it ends, what it is -/
def jz_bl (c : Nat) : Bool := decide (c = 32) || decide (c = 10)
def jz_le (c : Nat) : Bool := decide (97 ≤ c) && decide (c ≤ 122)
def jz_di (c : Nat) : Bool := decide (48 ≤ c) && decide (c ≤ 57)
def jz_si (c : Nat) : Bool := decide (c = 40) || decide (c = 41) || decide (c = 59) || decide (c = 43) || decide (c = 45) || decide (c = 42) || decide (c = 60) || decide (c = 61)
def jz_sc (Q : Nat → Bool) (b : Nat → Nat) (s : Nat) : Nat → Nat → Nat
  | 0, p => p
  | n + 1, p => if p < s ∧ Q (b p) = true then jz_sc Q b s n (p + 1) else p
theorem jz_sc_le {Q : Nat → Bool} {b : Nat → Nat} {s : Nat} : ∀ n p, p ≤ jz_sc Q b s n p ∧ (p ≤ s → jz_sc Q b s n p ≤ s) ∧ ∀ k, p ≤ k → k < jz_sc Q b s n p → k < s ∧ Q (b k) = true := by
  intro n
  induction n with
  | zero => intro p; exact ⟨Nat.le_refl _, id, fun k h1 h2 => absurd h2 (by show ¬ k < p; omega)⟩
  | succ n ih =>
    intro p
    rw [jz_sc]
    by_cases h : p < s ∧ Q (b p) = true
    · rw [if_pos h]
      obtain ⟨h1, h2, h3⟩ := ih (p + 1)
      refine ⟨by omega, fun _ => h2 (by omega), fun k k1 k2 => ?_⟩
      by_cases z : k = p
      · rw [z]; exact h
      · exact h3 k (by omega) k2
    · rw [if_neg h]; exact ⟨Nat.le_refl _, id, fun k h1 h2 => by omega⟩
theorem jz_sc_end {Q : Nat → Bool} {b : Nat → Nat} {s : Nat} : ∀ n p, s ≤ p + n → ¬ (jz_sc Q b s n p < s ∧ Q (b (jz_sc Q b s n p)) = true) := by
  intro n
  induction n with
  | zero => intro p h q; have : jz_sc Q b s 0 p = p := rfl
            rw [this] at q; omega
  | succ n ih =>
    intro p h
    rw [jz_sc]
    by_cases z : p < s ∧ Q (b p) = true
    · rw [if_pos z]; exact ih (p + 1) (by omega)
    · rw [if_neg z]; exact z
theorem jz_sc_lt {Q : Nat → Bool} {b : Nat → Nat} {s n p : Nat} (h : p < s) (hq : Q (b p) = true) (hn : 0 < n) : p < jz_sc Q b s n p := by
  obtain ⟨n, rfl⟩ : ∃ k, n = k + 1 := ⟨n - 1, by omega⟩
  rw [jz_sc, if_pos ⟨h, hq⟩]
  have := (jz_sc_le (Q := Q) (b := b) (s := s) n (p + 1)).1
  omega
theorem jz_sc_go {E : Nat → List Value → jm_H → jm_V} {y : Nat} {Q : Nat → Bool} {b : Nat → Nat} {s : Nat} (S : Nat → jm_C) (p0 : Nat) (hs : ∀ k, p0 ≤ k → k < s → Q (b k) = true → jm_go E y (S k) = jm_go E y (S (k + 1))) : ∀ n p, p0 ≤ p → jm_go E y (S p) = jm_go E y (S (jz_sc Q b s n p)) := by
  intro n
  induction n with
  | zero => intro p _; rfl
  | succ n ih =>
    intro p hp
    rw [jz_sc]
    by_cases h : p < s ∧ Q (b p) = true
    · rw [if_pos h, hs p hp h.1 h.2]; exact ih (p + 1) (by omega)
    · rw [if_neg h]
/-- a number's digits -/
def jz_vl (b : Nat → Nat) (r : Nat) : Nat → Nat
  | 0 => 0
  | k + 1 => jz_vl b r k * 10 + b (r + k) - 48
def jz_r (b : Nat → Nat) (s p : Nat) : Nat := jz_sc jz_bl b s (s - p) p
def jz_x (Q : Nat → Bool) (b : Nat → Nat) (s r : Nat) : Nat := jz_sc Q b s (s - r) r
def jz_e (b : Nat → Nat) (s p : Nat) : Nat := if jz_r b s p < s then (if jz_le (b (jz_r b s p)) = true then jz_x jz_le b s (jz_r b s p) else if jz_di (b (jz_r b s p)) = true then jz_x jz_di b s (jz_r b s p) else jz_r b s p + 1) else jz_r b s p
/-- tokens: 0 end, 1 number, 2 name, 3 key, 4 or, 5 and, 6 not, 7 wrong, else the sign's byte -/
def jz_tw (k : Nat) : Nat := if k < 3 then 3 else if k < 9 then 2 else if k < 12 then k - 5 else 7
def jz_vw (k : Nat) : Nat := if k < 3 then k else k - 3
def jz_t (b : Nat → Nat) (s p : Nat) : Nat := if jz_r b s p < s then (if jz_le (b (jz_r b s p)) = true then jz_tw (jz_w b (jz_r b s p) (jz_e b s p)) else if jz_di (b (jz_r b s p)) = true then (if jz_e b s p - jz_r b s p ≤ 4 then 1 else 7) else if jz_si (b (jz_r b s p)) = true then b (jz_r b s p) else 7) else 0
def jz_v (b : Nat → Nat) (s p : Nat) : Nat := if jz_le (b (jz_r b s p)) = true then jz_vw (jz_w b (jz_r b s p) (jz_e b s p)) else jz_vl b (jz_r b s p) (jz_e b s p - jz_r b s p)
def jz_ct (t v : Nat) : Int32 := if t = 0 then nI 2 else if t = 1 then nI 1 else if t = 2 then -nI (v + 1) else if t = 3 then nI (4 + v) else if t = 4 then -nI 7 else if t = 5 then -nI 8 else if t = 6 then -nI 9 else if t = 7 then nI 3 else nI t
def jz_mt (t : Nat) : Int32 := if t = 7 then -nI 1 else nI t
theorem jz_r_le (b : Nat → Nat) {s p : Nat} (h : p ≤ s) : p ≤ jz_r b s p ∧ jz_r b s p ≤ s := ⟨(jz_sc_le _ _).1, (jz_sc_le _ _).2.1 h⟩
theorem jz_r_end (b : Nat → Nat) {s p : Nat} (h : p ≤ s) : ¬ (jz_r b s p < s ∧ jz_bl (b (jz_r b s p)) = true) := jz_sc_end _ _ (by omega)
theorem jz_x_le (Q : Nat → Bool) (b : Nat → Nat) {s r : Nat} (h : r < s) (hq : Q (b r) = true) : r < jz_x Q b s r ∧ jz_x Q b s r ≤ s := ⟨jz_sc_lt h hq (by omega), (jz_sc_le _ _).2.1 (by omega)⟩
theorem jz_x_all {Q : Nat → Bool} {b : Nat → Nat} {s r k : Nat} (h1 : r ≤ k) (h2 : k < jz_x Q b s r) : Q (b k) = true := ((jz_sc_le _ _).2.2 k h1 h2).2
theorem jz_e_le (b : Nat → Nat) {s p : Nat} (h : p ≤ s) : jz_r b s p ≤ jz_e b s p ∧ jz_e b s p ≤ s ∧ (jz_r b s p < s → jz_r b s p < jz_e b s p) := by
  have h0 := jz_r_le b h
  unfold jz_e
  by_cases h1 : jz_r b s p < s
  · rw [if_pos h1]
    by_cases h2 : jz_le (b (jz_r b s p)) = true
    · rw [if_pos h2]
      have := jz_x_le jz_le b h1 h2
      exact ⟨by omega, by omega, fun _ => this.1⟩
    · rw [if_neg h2]
      by_cases h3 : jz_di (b (jz_r b s p)) = true
      · rw [if_pos h3]
        have := jz_x_le jz_di b h1 h3
        exact ⟨by omega, by omega, fun _ => this.1⟩
      · rw [if_neg h3]; exact ⟨by omega, by omega, fun _ => by omega⟩
  · rw [if_neg h1]; exact ⟨Nat.le_refl _, by omega, fun q => absurd q h1⟩
theorem jz_t_0 {b : Nat → Nat} {s p : Nat} (hp : p ≤ s) (h : jz_t b s p ≠ 0) : p < jz_e b s p ∧ jz_r b s p < s := by
  have h0 := jz_r_le b hp
  have h1 : jz_r b s p < s := by
    apply Classical.byContradiction
    intro q
    unfold jz_t at h
    rw [if_neg q] at h
    exact h rfl
  have := (jz_e_le b hp).2.2 h1
  exact ⟨by omega, h1⟩
theorem jx_upid {I : Nat → Nat → Int32} {a k : Nat} {v : Int32} (h : I a k = v) : jm_up I a k v = I := by
  funext x j
  rw [jx_rd]
  by_cases q : x = a ∧ j = k
  · rw [if_pos q, q.1, q.2, h]
  · rw [if_neg q]
theorem jx_upup {I : Nat → Nat → Int32} {a k : Nat} {v z : Int32} : jm_up (jm_up I a k v) a k z = jm_up I a k z := by
  funext x j
  rw [jx_rd, jx_rd, jx_rd]
  by_cases q : x = a ∧ j = k
  · rw [if_pos q, if_pos q]
  · rw [if_neg q, if_neg q, if_neg q]
theorem jx_up4 {I : Nat → Nat → Int32} {a c e : Nat} {v k v2 k2 : Int32} (h : ¬ c = e) : jm_up (jm_up (jm_up (jm_up I a c v) a e k) a c v2) a e k2 = jm_up (jm_up I a c v2) a e k2 := by
  funext x j
  by_cases q : x = a ∧ j = e
  · simp only [jx_rd, if_pos q]
  · by_cases q2 : x = a ∧ j = c
    · simp only [jx_rd, if_neg q, if_pos q2]
    · simp only [jx_rd, if_neg q, if_neg q2]
def jS_lx : Nat → Nat → Bool := fun a k => decide (a = 30 ∧ 2 ≤ k ∧ k < 6)
theorem jS_lxY {a k : Nat} (h : a = 30 ∧ 2 ≤ k ∧ k < 6) : jS_lx a k = true := decide_eq_true h
theorem jf_41 {d c : Nat} {I : Nat → Nat → Int32} {rho : Nat → Option Nat} {mu : List (Nat × Nat)} (hc : c < 256) : jm_ev (d + 1) 41 [.int (nI c)] (jm_hp I rho mu) = some (some (.int (jx_b (jz_bl c))), jm_hp I rho mu) := by
  by_cases h1 : c = 32
  · rw [show jz_bl c = true by simp [jz_bl, h1]]
    simp (disch := first | assumption | omega | exact jx_bz _ | exact jx_z0 | exact jx_z1 | (refine jx_ixB ?_ ?_; omega; omega) | (simp (disch := first | omega | fail) only [jx_lit, pk_mul, nI_add, nI_pred, pk_sub, jx_na, jx_add0, Nat.reduceMul, Nat.reduceAdd, Nat.reduceSub, Nat.reduceEqDiff, Nat.reduceLeDiff, Nat.reduceLT, h1]; refine jx_ixC ?_ ?_; omega; omega) | (simp (disch := first | omega | fail) only [jx_lit, pk_mul, nI_add, nI_pred, pk_sub, jx_na, jx_add0, Nat.reduceMul, Nat.reduceAdd, Nat.reduceSub, Nat.reduceEqDiff, Nat.reduceLeDiff, Nat.reduceLT, jx_cl, nI_leI, Nat.zero_le, true_and, h1]; omega) | fail) only [je_41, jb_41_0, jb_41_6, jb_41_12, jb_41_16, jb_41_17, jx_nl, jx_nlr, jx_thenS, jx_tlS, jx_tlN, jm_ite_go, jx_rds, jx_rdn, jx_lit, pk_mul, nI_add, nI_pred, pk_sub, jx_na, jx_add0, Nat.reduceMul, Nat.reduceAdd, Nat.reduceSub, Nat.reduceEqDiff, Nat.reduceLeDiff, Nat.reduceLT, Nat.not_lt_zero, jx_cl, nI_leI, nI_ltI, nI_eq, jx_neg, jx_neg', jx_negE, jx_negL, jx_negG, jx_negLE, jx_negN, sb_nlt, sb_nle, jx_b0, jx_b1, jx_bT, jx_bF, ite_true, ite_false, if_true, if_false, reduceIte, Bool.false_eq_true, Bool.true_eq_false, eq_self, Nat.one_ne_zero, Nat.add_sub_cancel, not_true_eq_false, not_false_eq_true, h1]
  · by_cases h2 : c = 10
    · rw [show jz_bl c = true by simp [jz_bl, h2]]
      simp (disch := first | assumption | omega | exact jx_bz _ | exact jx_z0 | exact jx_z1 | (refine jx_ixB ?_ ?_; omega; omega) | (simp (disch := first | omega | fail) only [jx_lit, pk_mul, nI_add, nI_pred, pk_sub, jx_na, jx_add0, Nat.reduceMul, Nat.reduceAdd, Nat.reduceSub, Nat.reduceEqDiff, Nat.reduceLeDiff, Nat.reduceLT, h1, h2]; refine jx_ixC ?_ ?_; omega; omega) | (simp (disch := first | omega | fail) only [jx_lit, pk_mul, nI_add, nI_pred, pk_sub, jx_na, jx_add0, Nat.reduceMul, Nat.reduceAdd, Nat.reduceSub, Nat.reduceEqDiff, Nat.reduceLeDiff, Nat.reduceLT, jx_cl, nI_leI, Nat.zero_le, true_and, h1, h2]; omega) | fail) only [je_41, jb_41_0, jb_41_6, jb_41_12, jb_41_16, jb_41_17, jx_nl, jx_nlr, jx_thenS, jx_tlS, jx_tlN, jm_ite_go, jx_rds, jx_rdn, jx_lit, pk_mul, nI_add, nI_pred, pk_sub, jx_na, jx_add0, Nat.reduceMul, Nat.reduceAdd, Nat.reduceSub, Nat.reduceEqDiff, Nat.reduceLeDiff, Nat.reduceLT, Nat.not_lt_zero, jx_cl, nI_leI, nI_ltI, nI_eq, jx_neg, jx_neg', jx_negE, jx_negL, jx_negG, jx_negLE, jx_negN, sb_nlt, sb_nle, jx_b0, jx_b1, jx_bT, jx_bF, ite_true, ite_false, if_true, if_false, reduceIte, Bool.false_eq_true, Bool.true_eq_false, eq_self, Nat.one_ne_zero, Nat.add_sub_cancel, not_true_eq_false, not_false_eq_true, h1, h2]
    · rw [show jz_bl c = false by simp [jz_bl, h1, h2]]
      simp (disch := first | assumption | omega | exact jx_bz _ | exact jx_z0 | exact jx_z1 | (refine jx_ixB ?_ ?_; omega; omega) | (simp (disch := first | omega | fail) only [jx_lit, pk_mul, nI_add, nI_pred, pk_sub, jx_na, jx_add0, Nat.reduceMul, Nat.reduceAdd, Nat.reduceSub, Nat.reduceEqDiff, Nat.reduceLeDiff, Nat.reduceLT, h1, h2]; refine jx_ixC ?_ ?_; omega; omega) | (simp (disch := first | omega | fail) only [jx_lit, pk_mul, nI_add, nI_pred, pk_sub, jx_na, jx_add0, Nat.reduceMul, Nat.reduceAdd, Nat.reduceSub, Nat.reduceEqDiff, Nat.reduceLeDiff, Nat.reduceLT, jx_cl, nI_leI, Nat.zero_le, true_and, h1, h2]; omega) | fail) only [je_41, jb_41_0, jb_41_6, jb_41_12, jb_41_16, jb_41_17, jx_nl, jx_nlr, jx_thenS, jx_tlS, jx_tlN, jm_ite_go, jx_rds, jx_rdn, jx_lit, pk_mul, nI_add, nI_pred, pk_sub, jx_na, jx_add0, Nat.reduceMul, Nat.reduceAdd, Nat.reduceSub, Nat.reduceEqDiff, Nat.reduceLeDiff, Nat.reduceLT, Nat.not_lt_zero, jx_cl, nI_leI, nI_ltI, nI_eq, jx_neg, jx_neg', jx_negE, jx_negL, jx_negG, jx_negLE, jx_negN, sb_nlt, sb_nle, jx_b0, jx_b1, jx_bT, jx_bF, ite_true, ite_false, if_true, if_false, reduceIte, Bool.false_eq_true, Bool.true_eq_false, eq_self, Nat.one_ne_zero, Nat.add_sub_cancel, not_true_eq_false, not_false_eq_true, h1, h2]
theorem jf_42 {d c : Nat} {I : Nat → Nat → Int32} {rho : Nat → Option Nat} {mu : List (Nat × Nat)} (hc : c < 256) : jm_ev (d + 1) 42 [.int (nI c)] (jm_hp I rho mu) = some (some (.int (jx_b (jz_le c))), jm_hp I rho mu) := by
  by_cases h1 : c < 97
  · rw [show jz_le c = false by simp [jz_le]; omega]
    simp (disch := first | assumption | omega | exact jx_bz _ | exact jx_z0 | exact jx_z1 | (refine jx_ixB ?_ ?_; omega; omega) | (simp (disch := first | omega | fail) only [jx_lit, pk_mul, nI_add, nI_pred, pk_sub, jx_na, jx_add0, Nat.reduceMul, Nat.reduceAdd, Nat.reduceSub, Nat.reduceEqDiff, Nat.reduceLeDiff, Nat.reduceLT, h1]; refine jx_ixC ?_ ?_; omega; omega) | (simp (disch := first | omega | fail) only [jx_lit, pk_mul, nI_add, nI_pred, pk_sub, jx_na, jx_add0, Nat.reduceMul, Nat.reduceAdd, Nat.reduceSub, Nat.reduceEqDiff, Nat.reduceLeDiff, Nat.reduceLT, jx_cl, nI_leI, Nat.zero_le, true_and, h1]; omega) | fail) only [je_42, jb_42_0, jb_42_6, jb_42_12, jb_42_16, jb_42_17, jx_nl, jx_nlr, jx_thenS, jx_tlS, jx_tlN, jm_ite_go, jx_rds, jx_rdn, jx_lit, pk_mul, nI_add, nI_pred, pk_sub, jx_na, jx_add0, Nat.reduceMul, Nat.reduceAdd, Nat.reduceSub, Nat.reduceEqDiff, Nat.reduceLeDiff, Nat.reduceLT, Nat.not_lt_zero, jx_cl, nI_leI, nI_ltI, nI_eq, jx_neg, jx_neg', jx_negE, jx_negL, jx_negG, jx_negLE, jx_negN, sb_nlt, sb_nle, jx_b0, jx_b1, jx_bT, jx_bF, ite_true, ite_false, if_true, if_false, reduceIte, Bool.false_eq_true, Bool.true_eq_false, eq_self, Nat.one_ne_zero, Nat.add_sub_cancel, not_true_eq_false, not_false_eq_true, h1]
  · by_cases h2 : 122 < c
    · rw [show jz_le c = false by simp [jz_le]; omega]
      simp (disch := first | assumption | omega | exact jx_bz _ | exact jx_z0 | exact jx_z1 | (refine jx_ixB ?_ ?_; omega; omega) | (simp (disch := first | omega | fail) only [jx_lit, pk_mul, nI_add, nI_pred, pk_sub, jx_na, jx_add0, Nat.reduceMul, Nat.reduceAdd, Nat.reduceSub, Nat.reduceEqDiff, Nat.reduceLeDiff, Nat.reduceLT, h1, h2]; refine jx_ixC ?_ ?_; omega; omega) | (simp (disch := first | omega | fail) only [jx_lit, pk_mul, nI_add, nI_pred, pk_sub, jx_na, jx_add0, Nat.reduceMul, Nat.reduceAdd, Nat.reduceSub, Nat.reduceEqDiff, Nat.reduceLeDiff, Nat.reduceLT, jx_cl, nI_leI, Nat.zero_le, true_and, h1, h2]; omega) | fail) only [je_42, jb_42_0, jb_42_6, jb_42_12, jb_42_16, jb_42_17, jx_nl, jx_nlr, jx_thenS, jx_tlS, jx_tlN, jm_ite_go, jx_rds, jx_rdn, jx_lit, pk_mul, nI_add, nI_pred, pk_sub, jx_na, jx_add0, Nat.reduceMul, Nat.reduceAdd, Nat.reduceSub, Nat.reduceEqDiff, Nat.reduceLeDiff, Nat.reduceLT, Nat.not_lt_zero, jx_cl, nI_leI, nI_ltI, nI_eq, jx_neg, jx_neg', jx_negE, jx_negL, jx_negG, jx_negLE, jx_negN, sb_nlt, sb_nle, jx_b0, jx_b1, jx_bT, jx_bF, ite_true, ite_false, if_true, if_false, reduceIte, Bool.false_eq_true, Bool.true_eq_false, eq_self, Nat.one_ne_zero, Nat.add_sub_cancel, not_true_eq_false, not_false_eq_true, h1, h2]
    · rw [show jz_le c = true by simp [jz_le]; omega]
      simp (disch := first | assumption | omega | exact jx_bz _ | exact jx_z0 | exact jx_z1 | (refine jx_ixB ?_ ?_; omega; omega) | (simp (disch := first | omega | fail) only [jx_lit, pk_mul, nI_add, nI_pred, pk_sub, jx_na, jx_add0, Nat.reduceMul, Nat.reduceAdd, Nat.reduceSub, Nat.reduceEqDiff, Nat.reduceLeDiff, Nat.reduceLT, h1, h2]; refine jx_ixC ?_ ?_; omega; omega) | (simp (disch := first | omega | fail) only [jx_lit, pk_mul, nI_add, nI_pred, pk_sub, jx_na, jx_add0, Nat.reduceMul, Nat.reduceAdd, Nat.reduceSub, Nat.reduceEqDiff, Nat.reduceLeDiff, Nat.reduceLT, jx_cl, nI_leI, Nat.zero_le, true_and, h1, h2]; omega) | fail) only [je_42, jb_42_0, jb_42_6, jb_42_12, jb_42_16, jb_42_17, jx_nl, jx_nlr, jx_thenS, jx_tlS, jx_tlN, jm_ite_go, jx_rds, jx_rdn, jx_lit, pk_mul, nI_add, nI_pred, pk_sub, jx_na, jx_add0, Nat.reduceMul, Nat.reduceAdd, Nat.reduceSub, Nat.reduceEqDiff, Nat.reduceLeDiff, Nat.reduceLT, Nat.not_lt_zero, jx_cl, nI_leI, nI_ltI, nI_eq, jx_neg, jx_neg', jx_negE, jx_negL, jx_negG, jx_negLE, jx_negN, sb_nlt, sb_nle, jx_b0, jx_b1, jx_bT, jx_bF, ite_true, ite_false, if_true, if_false, reduceIte, Bool.false_eq_true, Bool.true_eq_false, eq_self, Nat.one_ne_zero, Nat.add_sub_cancel, not_true_eq_false, not_false_eq_true, h1, h2]
theorem jf_43 {d c : Nat} {I : Nat → Nat → Int32} {rho : Nat → Option Nat} {mu : List (Nat × Nat)} (hc : c < 256) : jm_ev (d + 1) 43 [.int (nI c)] (jm_hp I rho mu) = some (some (.int (jx_b (jz_di c))), jm_hp I rho mu) := by
  by_cases h1 : c < 48
  · rw [show jz_di c = false by simp [jz_di]; omega]
    simp (disch := first | assumption | omega | exact jx_bz _ | exact jx_z0 | exact jx_z1 | (refine jx_ixB ?_ ?_; omega; omega) | (simp (disch := first | omega | fail) only [jx_lit, pk_mul, nI_add, nI_pred, pk_sub, jx_na, jx_add0, Nat.reduceMul, Nat.reduceAdd, Nat.reduceSub, Nat.reduceEqDiff, Nat.reduceLeDiff, Nat.reduceLT, h1]; refine jx_ixC ?_ ?_; omega; omega) | (simp (disch := first | omega | fail) only [jx_lit, pk_mul, nI_add, nI_pred, pk_sub, jx_na, jx_add0, Nat.reduceMul, Nat.reduceAdd, Nat.reduceSub, Nat.reduceEqDiff, Nat.reduceLeDiff, Nat.reduceLT, jx_cl, nI_leI, Nat.zero_le, true_and, h1]; omega) | fail) only [je_43, jb_43_0, jb_43_6, jb_43_12, jb_43_16, jb_43_17, jx_nl, jx_nlr, jx_thenS, jx_tlS, jx_tlN, jm_ite_go, jx_rds, jx_rdn, jx_lit, pk_mul, nI_add, nI_pred, pk_sub, jx_na, jx_add0, Nat.reduceMul, Nat.reduceAdd, Nat.reduceSub, Nat.reduceEqDiff, Nat.reduceLeDiff, Nat.reduceLT, Nat.not_lt_zero, jx_cl, nI_leI, nI_ltI, nI_eq, jx_neg, jx_neg', jx_negE, jx_negL, jx_negG, jx_negLE, jx_negN, sb_nlt, sb_nle, jx_b0, jx_b1, jx_bT, jx_bF, ite_true, ite_false, if_true, if_false, reduceIte, Bool.false_eq_true, Bool.true_eq_false, eq_self, Nat.one_ne_zero, Nat.add_sub_cancel, not_true_eq_false, not_false_eq_true, h1]
  · by_cases h2 : 57 < c
    · rw [show jz_di c = false by simp [jz_di]; omega]
      simp (disch := first | assumption | omega | exact jx_bz _ | exact jx_z0 | exact jx_z1 | (refine jx_ixB ?_ ?_; omega; omega) | (simp (disch := first | omega | fail) only [jx_lit, pk_mul, nI_add, nI_pred, pk_sub, jx_na, jx_add0, Nat.reduceMul, Nat.reduceAdd, Nat.reduceSub, Nat.reduceEqDiff, Nat.reduceLeDiff, Nat.reduceLT, h1, h2]; refine jx_ixC ?_ ?_; omega; omega) | (simp (disch := first | omega | fail) only [jx_lit, pk_mul, nI_add, nI_pred, pk_sub, jx_na, jx_add0, Nat.reduceMul, Nat.reduceAdd, Nat.reduceSub, Nat.reduceEqDiff, Nat.reduceLeDiff, Nat.reduceLT, jx_cl, nI_leI, Nat.zero_le, true_and, h1, h2]; omega) | fail) only [je_43, jb_43_0, jb_43_6, jb_43_12, jb_43_16, jb_43_17, jx_nl, jx_nlr, jx_thenS, jx_tlS, jx_tlN, jm_ite_go, jx_rds, jx_rdn, jx_lit, pk_mul, nI_add, nI_pred, pk_sub, jx_na, jx_add0, Nat.reduceMul, Nat.reduceAdd, Nat.reduceSub, Nat.reduceEqDiff, Nat.reduceLeDiff, Nat.reduceLT, Nat.not_lt_zero, jx_cl, nI_leI, nI_ltI, nI_eq, jx_neg, jx_neg', jx_negE, jx_negL, jx_negG, jx_negLE, jx_negN, sb_nlt, sb_nle, jx_b0, jx_b1, jx_bT, jx_bF, ite_true, ite_false, if_true, if_false, reduceIte, Bool.false_eq_true, Bool.true_eq_false, eq_self, Nat.one_ne_zero, Nat.add_sub_cancel, not_true_eq_false, not_false_eq_true, h1, h2]
    · rw [show jz_di c = true by simp [jz_di]; omega]
      simp (disch := first | assumption | omega | exact jx_bz _ | exact jx_z0 | exact jx_z1 | (refine jx_ixB ?_ ?_; omega; omega) | (simp (disch := first | omega | fail) only [jx_lit, pk_mul, nI_add, nI_pred, pk_sub, jx_na, jx_add0, Nat.reduceMul, Nat.reduceAdd, Nat.reduceSub, Nat.reduceEqDiff, Nat.reduceLeDiff, Nat.reduceLT, h1, h2]; refine jx_ixC ?_ ?_; omega; omega) | (simp (disch := first | omega | fail) only [jx_lit, pk_mul, nI_add, nI_pred, pk_sub, jx_na, jx_add0, Nat.reduceMul, Nat.reduceAdd, Nat.reduceSub, Nat.reduceEqDiff, Nat.reduceLeDiff, Nat.reduceLT, jx_cl, nI_leI, Nat.zero_le, true_and, h1, h2]; omega) | fail) only [je_43, jb_43_0, jb_43_6, jb_43_12, jb_43_16, jb_43_17, jx_nl, jx_nlr, jx_thenS, jx_tlS, jx_tlN, jm_ite_go, jx_rds, jx_rdn, jx_lit, pk_mul, nI_add, nI_pred, pk_sub, jx_na, jx_add0, Nat.reduceMul, Nat.reduceAdd, Nat.reduceSub, Nat.reduceEqDiff, Nat.reduceLeDiff, Nat.reduceLT, Nat.not_lt_zero, jx_cl, nI_leI, nI_ltI, nI_eq, jx_neg, jx_neg', jx_negE, jx_negL, jx_negG, jx_negLE, jx_negN, sb_nlt, sb_nle, jx_b0, jx_b1, jx_bT, jx_bF, ite_true, ite_false, if_true, if_false, reduceIte, Bool.false_eq_true, Bool.true_eq_false, eq_self, Nat.one_ne_zero, Nat.add_sub_cancel, not_true_eq_false, not_false_eq_true, h1, h2]
theorem jf_44 {d c : Nat} {I : Nat → Nat → Int32} {rho : Nat → Option Nat} {mu : List (Nat × Nat)} (hc : c < 256) : jm_ev (d + 1) 44 [.int (nI c)] (jm_hp I rho mu) = some (some (.int (jx_b (jz_si c))), jm_hp I rho mu) := by
  by_cases h40 : c = 40
  · rw [show jz_si c = true by simp [jz_si, h40]]
    simp (disch := first | assumption | omega | exact jx_bz _ | exact jx_z0 | exact jx_z1 | (refine jx_ixB ?_ ?_; omega; omega) | (simp (disch := first | omega | fail) only [jx_lit, pk_mul, nI_add, nI_pred, pk_sub, jx_na, jx_add0, Nat.reduceMul, Nat.reduceAdd, Nat.reduceSub, Nat.reduceEqDiff, Nat.reduceLeDiff, Nat.reduceLT, h40]; refine jx_ixC ?_ ?_; omega; omega) | (simp (disch := first | omega | fail) only [jx_lit, pk_mul, nI_add, nI_pred, pk_sub, jx_na, jx_add0, Nat.reduceMul, Nat.reduceAdd, Nat.reduceSub, Nat.reduceEqDiff, Nat.reduceLeDiff, Nat.reduceLT, jx_cl, nI_leI, Nat.zero_le, true_and, h40]; omega) | fail) only [je_44, jb_44_0, jb_44_6, jb_44_12, jb_44_18, jb_44_24, jb_44_30, jb_44_36, jb_44_42, jb_44_48, jb_44_52, jb_44_53, jx_nl, jx_nlr, jx_thenS, jx_tlS, jx_tlN, jm_ite_go, jx_rds, jx_rdn, jx_lit, pk_mul, nI_add, nI_pred, pk_sub, jx_na, jx_add0, Nat.reduceMul, Nat.reduceAdd, Nat.reduceSub, Nat.reduceEqDiff, Nat.reduceLeDiff, Nat.reduceLT, Nat.not_lt_zero, jx_cl, nI_leI, nI_ltI, nI_eq, jx_neg, jx_neg', jx_negE, jx_negL, jx_negG, jx_negLE, jx_negN, sb_nlt, sb_nle, jx_b0, jx_b1, jx_bT, jx_bF, ite_true, ite_false, if_true, if_false, reduceIte, Bool.false_eq_true, Bool.true_eq_false, eq_self, Nat.one_ne_zero, Nat.add_sub_cancel, not_true_eq_false, not_false_eq_true, h40]
  · skip
    by_cases h41 : c = 41
    · rw [show jz_si c = true by simp [jz_si, h41]]
      simp (disch := first | assumption | omega | exact jx_bz _ | exact jx_z0 | exact jx_z1 | (refine jx_ixB ?_ ?_; omega; omega) | (simp (disch := first | omega | fail) only [jx_lit, pk_mul, nI_add, nI_pred, pk_sub, jx_na, jx_add0, Nat.reduceMul, Nat.reduceAdd, Nat.reduceSub, Nat.reduceEqDiff, Nat.reduceLeDiff, Nat.reduceLT, h40, h41]; refine jx_ixC ?_ ?_; omega; omega) | (simp (disch := first | omega | fail) only [jx_lit, pk_mul, nI_add, nI_pred, pk_sub, jx_na, jx_add0, Nat.reduceMul, Nat.reduceAdd, Nat.reduceSub, Nat.reduceEqDiff, Nat.reduceLeDiff, Nat.reduceLT, jx_cl, nI_leI, Nat.zero_le, true_and, h40, h41]; omega) | fail) only [je_44, jb_44_0, jb_44_6, jb_44_12, jb_44_18, jb_44_24, jb_44_30, jb_44_36, jb_44_42, jb_44_48, jb_44_52, jb_44_53, jx_nl, jx_nlr, jx_thenS, jx_tlS, jx_tlN, jm_ite_go, jx_rds, jx_rdn, jx_lit, pk_mul, nI_add, nI_pred, pk_sub, jx_na, jx_add0, Nat.reduceMul, Nat.reduceAdd, Nat.reduceSub, Nat.reduceEqDiff, Nat.reduceLeDiff, Nat.reduceLT, Nat.not_lt_zero, jx_cl, nI_leI, nI_ltI, nI_eq, jx_neg, jx_neg', jx_negE, jx_negL, jx_negG, jx_negLE, jx_negN, sb_nlt, sb_nle, jx_b0, jx_b1, jx_bT, jx_bF, ite_true, ite_false, if_true, if_false, reduceIte, Bool.false_eq_true, Bool.true_eq_false, eq_self, Nat.one_ne_zero, Nat.add_sub_cancel, not_true_eq_false, not_false_eq_true, h40, h41]
    · skip
      by_cases h59 : c = 59
      · rw [show jz_si c = true by simp [jz_si, h59]]
        simp (disch := first | assumption | omega | exact jx_bz _ | exact jx_z0 | exact jx_z1 | (refine jx_ixB ?_ ?_; omega; omega) | (simp (disch := first | omega | fail) only [jx_lit, pk_mul, nI_add, nI_pred, pk_sub, jx_na, jx_add0, Nat.reduceMul, Nat.reduceAdd, Nat.reduceSub, Nat.reduceEqDiff, Nat.reduceLeDiff, Nat.reduceLT, h40, h41, h59]; refine jx_ixC ?_ ?_; omega; omega) | (simp (disch := first | omega | fail) only [jx_lit, pk_mul, nI_add, nI_pred, pk_sub, jx_na, jx_add0, Nat.reduceMul, Nat.reduceAdd, Nat.reduceSub, Nat.reduceEqDiff, Nat.reduceLeDiff, Nat.reduceLT, jx_cl, nI_leI, Nat.zero_le, true_and, h40, h41, h59]; omega) | fail) only [je_44, jb_44_0, jb_44_6, jb_44_12, jb_44_18, jb_44_24, jb_44_30, jb_44_36, jb_44_42, jb_44_48, jb_44_52, jb_44_53, jx_nl, jx_nlr, jx_thenS, jx_tlS, jx_tlN, jm_ite_go, jx_rds, jx_rdn, jx_lit, pk_mul, nI_add, nI_pred, pk_sub, jx_na, jx_add0, Nat.reduceMul, Nat.reduceAdd, Nat.reduceSub, Nat.reduceEqDiff, Nat.reduceLeDiff, Nat.reduceLT, Nat.not_lt_zero, jx_cl, nI_leI, nI_ltI, nI_eq, jx_neg, jx_neg', jx_negE, jx_negL, jx_negG, jx_negLE, jx_negN, sb_nlt, sb_nle, jx_b0, jx_b1, jx_bT, jx_bF, ite_true, ite_false, if_true, if_false, reduceIte, Bool.false_eq_true, Bool.true_eq_false, eq_self, Nat.one_ne_zero, Nat.add_sub_cancel, not_true_eq_false, not_false_eq_true, h40, h41, h59]
      · skip
        by_cases h43 : c = 43
        · rw [show jz_si c = true by simp [jz_si, h43]]
          simp (disch := first | assumption | omega | exact jx_bz _ | exact jx_z0 | exact jx_z1 | (refine jx_ixB ?_ ?_; omega; omega) | (simp (disch := first | omega | fail) only [jx_lit, pk_mul, nI_add, nI_pred, pk_sub, jx_na, jx_add0, Nat.reduceMul, Nat.reduceAdd, Nat.reduceSub, Nat.reduceEqDiff, Nat.reduceLeDiff, Nat.reduceLT, h40, h41, h59, h43]; refine jx_ixC ?_ ?_; omega; omega) | (simp (disch := first | omega | fail) only [jx_lit, pk_mul, nI_add, nI_pred, pk_sub, jx_na, jx_add0, Nat.reduceMul, Nat.reduceAdd, Nat.reduceSub, Nat.reduceEqDiff, Nat.reduceLeDiff, Nat.reduceLT, jx_cl, nI_leI, Nat.zero_le, true_and, h40, h41, h59, h43]; omega) | fail) only [je_44, jb_44_0, jb_44_6, jb_44_12, jb_44_18, jb_44_24, jb_44_30, jb_44_36, jb_44_42, jb_44_48, jb_44_52, jb_44_53, jx_nl, jx_nlr, jx_thenS, jx_tlS, jx_tlN, jm_ite_go, jx_rds, jx_rdn, jx_lit, pk_mul, nI_add, nI_pred, pk_sub, jx_na, jx_add0, Nat.reduceMul, Nat.reduceAdd, Nat.reduceSub, Nat.reduceEqDiff, Nat.reduceLeDiff, Nat.reduceLT, Nat.not_lt_zero, jx_cl, nI_leI, nI_ltI, nI_eq, jx_neg, jx_neg', jx_negE, jx_negL, jx_negG, jx_negLE, jx_negN, sb_nlt, sb_nle, jx_b0, jx_b1, jx_bT, jx_bF, ite_true, ite_false, if_true, if_false, reduceIte, Bool.false_eq_true, Bool.true_eq_false, eq_self, Nat.one_ne_zero, Nat.add_sub_cancel, not_true_eq_false, not_false_eq_true, h40, h41, h59, h43]
        · skip
          by_cases h45 : c = 45
          · rw [show jz_si c = true by simp [jz_si, h45]]
            simp (disch := first | assumption | omega | exact jx_bz _ | exact jx_z0 | exact jx_z1 | (refine jx_ixB ?_ ?_; omega; omega) | (simp (disch := first | omega | fail) only [jx_lit, pk_mul, nI_add, nI_pred, pk_sub, jx_na, jx_add0, Nat.reduceMul, Nat.reduceAdd, Nat.reduceSub, Nat.reduceEqDiff, Nat.reduceLeDiff, Nat.reduceLT, h40, h41, h59, h43, h45]; refine jx_ixC ?_ ?_; omega; omega) | (simp (disch := first | omega | fail) only [jx_lit, pk_mul, nI_add, nI_pred, pk_sub, jx_na, jx_add0, Nat.reduceMul, Nat.reduceAdd, Nat.reduceSub, Nat.reduceEqDiff, Nat.reduceLeDiff, Nat.reduceLT, jx_cl, nI_leI, Nat.zero_le, true_and, h40, h41, h59, h43, h45]; omega) | fail) only [je_44, jb_44_0, jb_44_6, jb_44_12, jb_44_18, jb_44_24, jb_44_30, jb_44_36, jb_44_42, jb_44_48, jb_44_52, jb_44_53, jx_nl, jx_nlr, jx_thenS, jx_tlS, jx_tlN, jm_ite_go, jx_rds, jx_rdn, jx_lit, pk_mul, nI_add, nI_pred, pk_sub, jx_na, jx_add0, Nat.reduceMul, Nat.reduceAdd, Nat.reduceSub, Nat.reduceEqDiff, Nat.reduceLeDiff, Nat.reduceLT, Nat.not_lt_zero, jx_cl, nI_leI, nI_ltI, nI_eq, jx_neg, jx_neg', jx_negE, jx_negL, jx_negG, jx_negLE, jx_negN, sb_nlt, sb_nle, jx_b0, jx_b1, jx_bT, jx_bF, ite_true, ite_false, if_true, if_false, reduceIte, Bool.false_eq_true, Bool.true_eq_false, eq_self, Nat.one_ne_zero, Nat.add_sub_cancel, not_true_eq_false, not_false_eq_true, h40, h41, h59, h43, h45]
          · skip
            by_cases h42 : c = 42
            · rw [show jz_si c = true by simp [jz_si, h42]]
              simp (disch := first | assumption | omega | exact jx_bz _ | exact jx_z0 | exact jx_z1 | (refine jx_ixB ?_ ?_; omega; omega) | (simp (disch := first | omega | fail) only [jx_lit, pk_mul, nI_add, nI_pred, pk_sub, jx_na, jx_add0, Nat.reduceMul, Nat.reduceAdd, Nat.reduceSub, Nat.reduceEqDiff, Nat.reduceLeDiff, Nat.reduceLT, h40, h41, h59, h43, h45, h42]; refine jx_ixC ?_ ?_; omega; omega) | (simp (disch := first | omega | fail) only [jx_lit, pk_mul, nI_add, nI_pred, pk_sub, jx_na, jx_add0, Nat.reduceMul, Nat.reduceAdd, Nat.reduceSub, Nat.reduceEqDiff, Nat.reduceLeDiff, Nat.reduceLT, jx_cl, nI_leI, Nat.zero_le, true_and, h40, h41, h59, h43, h45, h42]; omega) | fail) only [je_44, jb_44_0, jb_44_6, jb_44_12, jb_44_18, jb_44_24, jb_44_30, jb_44_36, jb_44_42, jb_44_48, jb_44_52, jb_44_53, jx_nl, jx_nlr, jx_thenS, jx_tlS, jx_tlN, jm_ite_go, jx_rds, jx_rdn, jx_lit, pk_mul, nI_add, nI_pred, pk_sub, jx_na, jx_add0, Nat.reduceMul, Nat.reduceAdd, Nat.reduceSub, Nat.reduceEqDiff, Nat.reduceLeDiff, Nat.reduceLT, Nat.not_lt_zero, jx_cl, nI_leI, nI_ltI, nI_eq, jx_neg, jx_neg', jx_negE, jx_negL, jx_negG, jx_negLE, jx_negN, sb_nlt, sb_nle, jx_b0, jx_b1, jx_bT, jx_bF, ite_true, ite_false, if_true, if_false, reduceIte, Bool.false_eq_true, Bool.true_eq_false, eq_self, Nat.one_ne_zero, Nat.add_sub_cancel, not_true_eq_false, not_false_eq_true, h40, h41, h59, h43, h45, h42]
            · skip
              by_cases h60 : c = 60
              · rw [show jz_si c = true by simp [jz_si, h60]]
                simp (disch := first | assumption | omega | exact jx_bz _ | exact jx_z0 | exact jx_z1 | (refine jx_ixB ?_ ?_; omega; omega) | (simp (disch := first | omega | fail) only [jx_lit, pk_mul, nI_add, nI_pred, pk_sub, jx_na, jx_add0, Nat.reduceMul, Nat.reduceAdd, Nat.reduceSub, Nat.reduceEqDiff, Nat.reduceLeDiff, Nat.reduceLT, h40, h41, h59, h43, h45, h42, h60]; refine jx_ixC ?_ ?_; omega; omega) | (simp (disch := first | omega | fail) only [jx_lit, pk_mul, nI_add, nI_pred, pk_sub, jx_na, jx_add0, Nat.reduceMul, Nat.reduceAdd, Nat.reduceSub, Nat.reduceEqDiff, Nat.reduceLeDiff, Nat.reduceLT, jx_cl, nI_leI, Nat.zero_le, true_and, h40, h41, h59, h43, h45, h42, h60]; omega) | fail) only [je_44, jb_44_0, jb_44_6, jb_44_12, jb_44_18, jb_44_24, jb_44_30, jb_44_36, jb_44_42, jb_44_48, jb_44_52, jb_44_53, jx_nl, jx_nlr, jx_thenS, jx_tlS, jx_tlN, jm_ite_go, jx_rds, jx_rdn, jx_lit, pk_mul, nI_add, nI_pred, pk_sub, jx_na, jx_add0, Nat.reduceMul, Nat.reduceAdd, Nat.reduceSub, Nat.reduceEqDiff, Nat.reduceLeDiff, Nat.reduceLT, Nat.not_lt_zero, jx_cl, nI_leI, nI_ltI, nI_eq, jx_neg, jx_neg', jx_negE, jx_negL, jx_negG, jx_negLE, jx_negN, sb_nlt, sb_nle, jx_b0, jx_b1, jx_bT, jx_bF, ite_true, ite_false, if_true, if_false, reduceIte, Bool.false_eq_true, Bool.true_eq_false, eq_self, Nat.one_ne_zero, Nat.add_sub_cancel, not_true_eq_false, not_false_eq_true, h40, h41, h59, h43, h45, h42, h60]
              · skip
                by_cases h61 : c = 61
                · rw [show jz_si c = true by simp [jz_si, h61]]
                  simp (disch := first | assumption | omega | exact jx_bz _ | exact jx_z0 | exact jx_z1 | (refine jx_ixB ?_ ?_; omega; omega) | (simp (disch := first | omega | fail) only [jx_lit, pk_mul, nI_add, nI_pred, pk_sub, jx_na, jx_add0, Nat.reduceMul, Nat.reduceAdd, Nat.reduceSub, Nat.reduceEqDiff, Nat.reduceLeDiff, Nat.reduceLT, h40, h41, h59, h43, h45, h42, h60, h61]; refine jx_ixC ?_ ?_; omega; omega) | (simp (disch := first | omega | fail) only [jx_lit, pk_mul, nI_add, nI_pred, pk_sub, jx_na, jx_add0, Nat.reduceMul, Nat.reduceAdd, Nat.reduceSub, Nat.reduceEqDiff, Nat.reduceLeDiff, Nat.reduceLT, jx_cl, nI_leI, Nat.zero_le, true_and, h40, h41, h59, h43, h45, h42, h60, h61]; omega) | fail) only [je_44, jb_44_0, jb_44_6, jb_44_12, jb_44_18, jb_44_24, jb_44_30, jb_44_36, jb_44_42, jb_44_48, jb_44_52, jb_44_53, jx_nl, jx_nlr, jx_thenS, jx_tlS, jx_tlN, jm_ite_go, jx_rds, jx_rdn, jx_lit, pk_mul, nI_add, nI_pred, pk_sub, jx_na, jx_add0, Nat.reduceMul, Nat.reduceAdd, Nat.reduceSub, Nat.reduceEqDiff, Nat.reduceLeDiff, Nat.reduceLT, Nat.not_lt_zero, jx_cl, nI_leI, nI_ltI, nI_eq, jx_neg, jx_neg', jx_negE, jx_negL, jx_negG, jx_negLE, jx_negN, sb_nlt, sb_nle, jx_b0, jx_b1, jx_bT, jx_bF, ite_true, ite_false, if_true, if_false, reduceIte, Bool.false_eq_true, Bool.true_eq_false, eq_self, Nat.one_ne_zero, Nat.add_sub_cancel, not_true_eq_false, not_false_eq_true, h40, h41, h59, h43, h45, h42, h60, h61]
                · skip
                  rw [show jz_si c = false by simp [jz_si, h40, h41, h59, h43, h45, h42, h60, h61]]
                  simp (disch := first | assumption | omega | exact jx_bz _ | exact jx_z0 | exact jx_z1 | (refine jx_ixB ?_ ?_; omega; omega) | (simp (disch := first | omega | fail) only [jx_lit, pk_mul, nI_add, nI_pred, pk_sub, jx_na, jx_add0, Nat.reduceMul, Nat.reduceAdd, Nat.reduceSub, Nat.reduceEqDiff, Nat.reduceLeDiff, Nat.reduceLT, h40, h41, h59, h43, h45, h42, h60, h61]; refine jx_ixC ?_ ?_; omega; omega) | (simp (disch := first | omega | fail) only [jx_lit, pk_mul, nI_add, nI_pred, pk_sub, jx_na, jx_add0, Nat.reduceMul, Nat.reduceAdd, Nat.reduceSub, Nat.reduceEqDiff, Nat.reduceLeDiff, Nat.reduceLT, jx_cl, nI_leI, Nat.zero_le, true_and, h40, h41, h59, h43, h45, h42, h60, h61]; omega) | fail) only [je_44, jb_44_0, jb_44_6, jb_44_12, jb_44_18, jb_44_24, jb_44_30, jb_44_36, jb_44_42, jb_44_48, jb_44_52, jb_44_53, jx_nl, jx_nlr, jx_thenS, jx_tlS, jx_tlN, jm_ite_go, jx_rds, jx_rdn, jx_lit, pk_mul, nI_add, nI_pred, pk_sub, jx_na, jx_add0, Nat.reduceMul, Nat.reduceAdd, Nat.reduceSub, Nat.reduceEqDiff, Nat.reduceLeDiff, Nat.reduceLT, Nat.not_lt_zero, jx_cl, nI_leI, nI_ltI, nI_eq, jx_neg, jx_neg', jx_negE, jx_negL, jx_negG, jx_negLE, jx_negN, sb_nlt, sb_nle, jx_b0, jx_b1, jx_bT, jx_bF, ite_true, ite_false, if_true, if_false, reduceIte, Bool.false_eq_true, Bool.true_eq_false, eq_self, Nat.one_ne_zero, Nat.add_sub_cancel, not_true_eq_false, not_false_eq_true, h40, h41, h59, h43, h45, h42, h60, h61]
/-- what stands on the tape: so many bytes -/
def jz_B (I : Nat → Nat → Int32) (b : Nat → Nat) (s : Nat) : Prop := I 30 1 = nI s ∧ s ≤ 160 ∧ (∀ k, k < s → I 31 k = nI (b k)) ∧ ∀ k, b k < 256
theorem jz_B_up {I : Nat → Nat → Int32} {b : Nat → Nat} {s k : Nat} {v : Int32} (h : jz_B I b s) (hk : ¬ k = 1) : jz_B (jm_up I 30 k v) b s := by
  obtain ⟨h1, h2, h3, h4⟩ := h
  exact ⟨by rw [jx_rdn (by omega)]; exact h1, h2, fun j hj => by rw [jx_rdn (by omega)]; exact h3 j hj, h4⟩
theorem jf_39 {d s r : Nat} {b : Nat → Nat} {I : Nat → Nat → Int32} {rho : Nat → Option Nat} {mu : List (Nat × Nat)} (hB : jz_B I b s) (h2 : I 30 2 = nI r) (h4 : I 30 4 = nI r) (hr : r < s) (hl : jz_le (b r) = true) : jm_ev (d + 6) 39 [.ref 30] (jm_hp I rho mu) = some (some (.int (jz_ct (jz_tw (jz_w b r (jz_x jz_le b s r))) (jz_vw (jz_w b r (jz_x jz_le b s r))))), jm_hp (jm_up I 30 2 (nI (jz_x jz_le b s r))) rho mu) := by
  obtain ⟨b1, b2, b3, b4⟩ := id hB
  have e0 : jm_ev (d + 6) 39 [.ref 30] (jm_hp I rho mu) = jm_go (jm_ev (d + 5)) 39 (0, [some (.ref 30)], [], jm_hp (jm_up I 30 2 (nI r)) rho mu) := by
    rw [jx_upid h2, je_39]
  have lp := jz_sc_go (E := jm_ev (d + 5)) (y := 39) (Q := jz_le) (b := b) (s := s) (fun k => (0, [some (.ref 30)], [], jm_hp (jm_up I 30 2 (nI k)) rho mu)) r (fun k hk hks hq => by
    have zn : ¬ s ≤ k := by omega
    have k26 := @jf_26 (d + 4) s k (jm_up I 30 2 (nI k)) rho mu (jz_B_up hB (by omega)).1 b2 hks
    rw [jx_rdn (by omega), b3 k hks] at k26
    have k42 := @jf_42 (d + 4) (b k) (jm_up I 30 2 (nI k)) rho mu (b4 k)
    rw [hq] at k42
    rw [jb_39_0]
    simp (disch := first | assumption | omega | exact jx_bz _ | exact jx_z0 | exact jx_z1 | (refine jx_ixB ?_ ?_; omega; omega) | (simp (disch := first | omega | fail) only [jx_lit, pk_mul, nI_add, nI_pred, pk_sub, jx_na, jx_add0, Nat.reduceMul, Nat.reduceAdd, Nat.reduceSub, Nat.reduceEqDiff, Nat.reduceLeDiff, Nat.reduceLT, b1, zn, k26, k42, jx_upup]; refine jx_ixC ?_ ?_; omega; omega) | (simp (disch := first | omega | fail) only [jx_lit, pk_mul, nI_add, nI_pred, pk_sub, jx_na, jx_add0, Nat.reduceMul, Nat.reduceAdd, Nat.reduceSub, Nat.reduceEqDiff, Nat.reduceLeDiff, Nat.reduceLT, jx_cl, nI_leI, Nat.zero_le, true_and, b1, zn, k26, k42, jx_upup]; omega) | fail) only [jb_39_11, jb_39_19, jb_39_22, jb_39_25, jb_39_38, jb_39_44, jb_39_47, jb_39_49, jb_39_55, jb_39_58, jb_39_60, jb_39_66, jb_39_69, jb_39_72, jb_39_78, jb_39_81, jb_39_84, jb_39_90, jb_39_93, jb_39_96, jb_39_102, jb_39_105, jb_39_108, jb_39_114, jb_39_117, jb_39_119, jb_39_125, jb_39_128, jb_39_131, jb_39_137, jb_39_140, jb_39_143, jb_39_149, jb_39_152, jb_39_155, jb_39_161, jb_39_164, jb_39_167, jb_39_173, jb_39_176, jb_39_179, jx_nl, jx_nlr, jx_thenS, jx_tlS, jx_tlN, jm_ite_go, jx_rds, jx_rdn, jx_lit, pk_mul, nI_add, nI_pred, pk_sub, jx_na, jx_add0, Nat.reduceMul, Nat.reduceAdd, Nat.reduceSub, Nat.reduceEqDiff, Nat.reduceLeDiff, Nat.reduceLT, Nat.not_lt_zero, jx_cl, nI_leI, nI_ltI, nI_eq, jx_neg, jx_neg', jx_negE, jx_negL, jx_negG, jx_negLE, jx_negN, sb_nlt, sb_nle, jx_b0, jx_b1, jx_bT, jx_bF, ite_true, ite_false, if_true, if_false, reduceIte, Bool.false_eq_true, Bool.true_eq_false, eq_self, Nat.one_ne_zero, Nat.add_sub_cancel, not_true_eq_false, not_false_eq_true, b1, zn, k26, k42, jx_upup]) (s - r) r (Nat.le_refl _)
  rw [e0]
  refine Eq.trans lp ?_
  rw [show jz_sc jz_le b s (s - r) r = jz_x jz_le b s r from rfl]
  obtain ⟨x1, x2⟩ := jz_x_le jz_le b hr hl
  have hend : ¬ (jz_x jz_le b s r < s ∧ jz_le (b (jz_x jz_le b s r)) = true) := jz_sc_end _ _ (by omega)
  generalize jz_x jz_le b s r = e at *
  have hB2 := jz_B_up (v := nI e) hB (show ¬ 2 = 1 by omega)
  have g2 : jm_up I 30 2 (nI e) 30 2 = nI e := jx_rds
  have g4 : jm_up I 30 2 (nI e) 30 4 = nI r := by rw [jx_rdn (by omega)]; exact h4
  have e1 : jm_go (jm_ev (d + 5)) 39 (0, [some (.ref 30)], [], jm_hp (jm_up I 30 2 (nI e)) rho mu) = jm_go (jm_ev (d + 5)) 39 (38, [some (.ref 30)], [], jm_hp (jm_up I 30 2 (nI e)) rho mu) := by
    rw [jb_39_0]
    by_cases zs : e < s
    · have zn : ¬ s ≤ e := by omega
      have hq : jz_le (b e) = false := by
        cases q : jz_le (b e) with
        | false => rfl
        | true => exact absurd ⟨zs, q⟩ hend
      have k26 := @jf_26 (d + 4) s e (jm_up I 30 2 (nI e)) rho mu hB2.1 b2 zs
      rw [jx_rdn (by omega), b3 e zs] at k26
      have k42 := @jf_42 (d + 4) (b e) (jm_up I 30 2 (nI e)) rho mu (b4 e)
      rw [hq] at k42
      simp (disch := first | assumption | omega | fail) only [jb_39_11, jb_39_19, jb_39_22, jx_thenS, jx_tlS, jm_ite_go, b1, zn, k26, k42, jx_rdn, jx_rds, jx_lit, nI_leI, jx_b0, if_true, if_false, ite_true, ite_false, jx_bF]
    · have zn : s ≤ e := by omega
      simp (disch := first | assumption | omega | fail) only [jx_rdn, jx_rds, b1, nI_leI, zn, if_true, ite_true]
  rw [e1]
  have s0 := @jf_40_0 d s r e b (jm_up I 30 2 (nI e)) rho mu hB2.1 b2 hB2.2.2.1 b4 g2 g4 (by omega) x2
  have s1 := @jf_40_1 d s r e b (jm_up I 30 2 (nI e)) rho mu hB2.1 b2 hB2.2.2.1 b4 g2 g4 (by omega) x2
  have s2 := @jf_40_2 d s r e b (jm_up I 30 2 (nI e)) rho mu hB2.1 b2 hB2.2.2.1 b4 g2 g4 (by omega) x2
  have s3 := @jf_40_3 d s r e b (jm_up I 30 2 (nI e)) rho mu hB2.1 b2 hB2.2.2.1 b4 g2 g4 (by omega) x2
  have s4 := @jf_40_4 d s r e b (jm_up I 30 2 (nI e)) rho mu hB2.1 b2 hB2.2.2.1 b4 g2 g4 (by omega) x2
  have s5 := @jf_40_5 d s r e b (jm_up I 30 2 (nI e)) rho mu hB2.1 b2 hB2.2.2.1 b4 g2 g4 (by omega) x2
  have s6 := @jf_40_6 d s r e b (jm_up I 30 2 (nI e)) rho mu hB2.1 b2 hB2.2.2.1 b4 g2 g4 (by omega) x2
  have s7 := @jf_40_7 d s r e b (jm_up I 30 2 (nI e)) rho mu hB2.1 b2 hB2.2.2.1 b4 g2 g4 (by omega) x2
  have s8 := @jf_40_8 d s r e b (jm_up I 30 2 (nI e)) rho mu hB2.1 b2 hB2.2.2.1 b4 g2 g4 (by omega) x2
  have s9 := @jf_40_9 d s r e b (jm_up I 30 2 (nI e)) rho mu hB2.1 b2 hB2.2.2.1 b4 g2 g4 (by omega) x2
  have s10 := @jf_40_10 d s r e b (jm_up I 30 2 (nI e)) rho mu hB2.1 b2 hB2.2.2.1 b4 g2 g4 (by omega) x2
  have s11 := @jf_40_11 d s r e b (jm_up I 30 2 (nI e)) rho mu hB2.1 b2 hB2.2.2.1 b4 g2 g4 (by omega) x2
  rcases jz_w_cases b r e with ⟨k, hk, hw, ht⟩ | ⟨hw, ht⟩
  · rw [hw]
    have kv : k = 0 ∨ k = 1 ∨ k = 2 ∨ k = 3 ∨ k = 4 ∨ k = 5 ∨ k = 6 ∨ k = 7 ∨ k = 8 ∨ k = 9 ∨ k = 10 ∨ k = 11 := by omega
    rcases kv with z | z | z | z | z | z | z | z | z | z | z | z
    · subst z
      have w0 : jz_wm b r e 0 = true := ht 0 (by decide)
      rw [w0] at s0
      have w1 : jz_wm b r e 1 = false := ht 1 (by decide)
      rw [w1] at s1
      have w2 : jz_wm b r e 2 = false := ht 2 (by decide)
      rw [w2] at s2
      have w9 : jz_wm b r e 9 = false := ht 9 (by decide)
      rw [w9] at s3
      have w10 : jz_wm b r e 10 = false := ht 10 (by decide)
      rw [w10] at s4
      have w11 : jz_wm b r e 11 = false := ht 11 (by decide)
      rw [w11] at s5
      have w3 : jz_wm b r e 3 = false := ht 3 (by decide)
      rw [w3] at s6
      have w4 : jz_wm b r e 4 = false := ht 4 (by decide)
      rw [w4] at s7
      have w5 : jz_wm b r e 5 = false := ht 5 (by decide)
      rw [w5] at s8
      have w6 : jz_wm b r e 6 = false := ht 6 (by decide)
      rw [w6] at s9
      have w7 : jz_wm b r e 7 = false := ht 7 (by decide)
      rw [w7] at s10
      have w8 : jz_wm b r e 8 = false := ht 8 (by decide)
      rw [w8] at s11
      simp (disch := first | assumption | omega | exact jx_bz _ | exact jx_z0 | exact jx_z1 | (refine jx_ixB ?_ ?_; omega; omega) | (simp (disch := first | omega | fail) only [jx_lit, pk_mul, nI_add, nI_pred, pk_sub, jx_na, jx_add0, Nat.reduceMul, Nat.reduceAdd, Nat.reduceSub, Nat.reduceEqDiff, Nat.reduceLeDiff, Nat.reduceLT, s0, s1, s2, s3, s4, s5, s6, s7, s8, s9, s10, s11, jz_ct, jz_tw, jz_vw]; refine jx_ixC ?_ ?_; omega; omega) | (simp (disch := first | omega | fail) only [jx_lit, pk_mul, nI_add, nI_pred, pk_sub, jx_na, jx_add0, Nat.reduceMul, Nat.reduceAdd, Nat.reduceSub, Nat.reduceEqDiff, Nat.reduceLeDiff, Nat.reduceLT, jx_cl, nI_leI, Nat.zero_le, true_and, s0, s1, s2, s3, s4, s5, s6, s7, s8, s9, s10, s11, jz_ct, jz_tw, jz_vw]; omega) | fail) only [jb_39_11, jb_39_19, jb_39_22, jb_39_25, jb_39_38, jb_39_44, jb_39_47, jb_39_49, jb_39_55, jb_39_58, jb_39_60, jb_39_66, jb_39_69, jb_39_72, jb_39_78, jb_39_81, jb_39_84, jb_39_90, jb_39_93, jb_39_96, jb_39_102, jb_39_105, jb_39_108, jb_39_114, jb_39_117, jb_39_119, jb_39_125, jb_39_128, jb_39_131, jb_39_137, jb_39_140, jb_39_143, jb_39_149, jb_39_152, jb_39_155, jb_39_161, jb_39_164, jb_39_167, jb_39_173, jb_39_176, jb_39_179, jx_nl, jx_nlr, jx_thenS, jx_tlS, jx_tlN, jm_ite_go, jx_rds, jx_rdn, jx_lit, pk_mul, nI_add, nI_pred, pk_sub, jx_na, jx_add0, Nat.reduceMul, Nat.reduceAdd, Nat.reduceSub, Nat.reduceEqDiff, Nat.reduceLeDiff, Nat.reduceLT, Nat.not_lt_zero, jx_cl, nI_leI, nI_ltI, nI_eq, jx_neg, jx_neg', jx_negE, jx_negL, jx_negG, jx_negLE, jx_negN, sb_nlt, sb_nle, jx_b0, jx_b1, jx_bT, jx_bF, ite_true, ite_false, if_true, if_false, reduceIte, Bool.false_eq_true, Bool.true_eq_false, eq_self, Nat.one_ne_zero, Nat.add_sub_cancel, not_true_eq_false, not_false_eq_true, s0, s1, s2, s3, s4, s5, s6, s7, s8, s9, s10, s11, jz_ct, jz_tw, jz_vw]
    · subst z
      have w0 : jz_wm b r e 0 = false := ht 0 (by decide)
      rw [w0] at s0
      have w1 : jz_wm b r e 1 = true := ht 1 (by decide)
      rw [w1] at s1
      have w2 : jz_wm b r e 2 = false := ht 2 (by decide)
      rw [w2] at s2
      have w9 : jz_wm b r e 9 = false := ht 9 (by decide)
      rw [w9] at s3
      have w10 : jz_wm b r e 10 = false := ht 10 (by decide)
      rw [w10] at s4
      have w11 : jz_wm b r e 11 = false := ht 11 (by decide)
      rw [w11] at s5
      have w3 : jz_wm b r e 3 = false := ht 3 (by decide)
      rw [w3] at s6
      have w4 : jz_wm b r e 4 = false := ht 4 (by decide)
      rw [w4] at s7
      have w5 : jz_wm b r e 5 = false := ht 5 (by decide)
      rw [w5] at s8
      have w6 : jz_wm b r e 6 = false := ht 6 (by decide)
      rw [w6] at s9
      have w7 : jz_wm b r e 7 = false := ht 7 (by decide)
      rw [w7] at s10
      have w8 : jz_wm b r e 8 = false := ht 8 (by decide)
      rw [w8] at s11
      simp (disch := first | assumption | omega | exact jx_bz _ | exact jx_z0 | exact jx_z1 | (refine jx_ixB ?_ ?_; omega; omega) | (simp (disch := first | omega | fail) only [jx_lit, pk_mul, nI_add, nI_pred, pk_sub, jx_na, jx_add0, Nat.reduceMul, Nat.reduceAdd, Nat.reduceSub, Nat.reduceEqDiff, Nat.reduceLeDiff, Nat.reduceLT, s0, s1, s2, s3, s4, s5, s6, s7, s8, s9, s10, s11, jz_ct, jz_tw, jz_vw]; refine jx_ixC ?_ ?_; omega; omega) | (simp (disch := first | omega | fail) only [jx_lit, pk_mul, nI_add, nI_pred, pk_sub, jx_na, jx_add0, Nat.reduceMul, Nat.reduceAdd, Nat.reduceSub, Nat.reduceEqDiff, Nat.reduceLeDiff, Nat.reduceLT, jx_cl, nI_leI, Nat.zero_le, true_and, s0, s1, s2, s3, s4, s5, s6, s7, s8, s9, s10, s11, jz_ct, jz_tw, jz_vw]; omega) | fail) only [jb_39_11, jb_39_19, jb_39_22, jb_39_25, jb_39_38, jb_39_44, jb_39_47, jb_39_49, jb_39_55, jb_39_58, jb_39_60, jb_39_66, jb_39_69, jb_39_72, jb_39_78, jb_39_81, jb_39_84, jb_39_90, jb_39_93, jb_39_96, jb_39_102, jb_39_105, jb_39_108, jb_39_114, jb_39_117, jb_39_119, jb_39_125, jb_39_128, jb_39_131, jb_39_137, jb_39_140, jb_39_143, jb_39_149, jb_39_152, jb_39_155, jb_39_161, jb_39_164, jb_39_167, jb_39_173, jb_39_176, jb_39_179, jx_nl, jx_nlr, jx_thenS, jx_tlS, jx_tlN, jm_ite_go, jx_rds, jx_rdn, jx_lit, pk_mul, nI_add, nI_pred, pk_sub, jx_na, jx_add0, Nat.reduceMul, Nat.reduceAdd, Nat.reduceSub, Nat.reduceEqDiff, Nat.reduceLeDiff, Nat.reduceLT, Nat.not_lt_zero, jx_cl, nI_leI, nI_ltI, nI_eq, jx_neg, jx_neg', jx_negE, jx_negL, jx_negG, jx_negLE, jx_negN, sb_nlt, sb_nle, jx_b0, jx_b1, jx_bT, jx_bF, ite_true, ite_false, if_true, if_false, reduceIte, Bool.false_eq_true, Bool.true_eq_false, eq_self, Nat.one_ne_zero, Nat.add_sub_cancel, not_true_eq_false, not_false_eq_true, s0, s1, s2, s3, s4, s5, s6, s7, s8, s9, s10, s11, jz_ct, jz_tw, jz_vw]
    · subst z
      have w0 : jz_wm b r e 0 = false := ht 0 (by decide)
      rw [w0] at s0
      have w1 : jz_wm b r e 1 = false := ht 1 (by decide)
      rw [w1] at s1
      have w2 : jz_wm b r e 2 = true := ht 2 (by decide)
      rw [w2] at s2
      have w9 : jz_wm b r e 9 = false := ht 9 (by decide)
      rw [w9] at s3
      have w10 : jz_wm b r e 10 = false := ht 10 (by decide)
      rw [w10] at s4
      have w11 : jz_wm b r e 11 = false := ht 11 (by decide)
      rw [w11] at s5
      have w3 : jz_wm b r e 3 = false := ht 3 (by decide)
      rw [w3] at s6
      have w4 : jz_wm b r e 4 = false := ht 4 (by decide)
      rw [w4] at s7
      have w5 : jz_wm b r e 5 = false := ht 5 (by decide)
      rw [w5] at s8
      have w6 : jz_wm b r e 6 = false := ht 6 (by decide)
      rw [w6] at s9
      have w7 : jz_wm b r e 7 = false := ht 7 (by decide)
      rw [w7] at s10
      have w8 : jz_wm b r e 8 = false := ht 8 (by decide)
      rw [w8] at s11
      simp (disch := first | assumption | omega | exact jx_bz _ | exact jx_z0 | exact jx_z1 | (refine jx_ixB ?_ ?_; omega; omega) | (simp (disch := first | omega | fail) only [jx_lit, pk_mul, nI_add, nI_pred, pk_sub, jx_na, jx_add0, Nat.reduceMul, Nat.reduceAdd, Nat.reduceSub, Nat.reduceEqDiff, Nat.reduceLeDiff, Nat.reduceLT, s0, s1, s2, s3, s4, s5, s6, s7, s8, s9, s10, s11, jz_ct, jz_tw, jz_vw]; refine jx_ixC ?_ ?_; omega; omega) | (simp (disch := first | omega | fail) only [jx_lit, pk_mul, nI_add, nI_pred, pk_sub, jx_na, jx_add0, Nat.reduceMul, Nat.reduceAdd, Nat.reduceSub, Nat.reduceEqDiff, Nat.reduceLeDiff, Nat.reduceLT, jx_cl, nI_leI, Nat.zero_le, true_and, s0, s1, s2, s3, s4, s5, s6, s7, s8, s9, s10, s11, jz_ct, jz_tw, jz_vw]; omega) | fail) only [jb_39_11, jb_39_19, jb_39_22, jb_39_25, jb_39_38, jb_39_44, jb_39_47, jb_39_49, jb_39_55, jb_39_58, jb_39_60, jb_39_66, jb_39_69, jb_39_72, jb_39_78, jb_39_81, jb_39_84, jb_39_90, jb_39_93, jb_39_96, jb_39_102, jb_39_105, jb_39_108, jb_39_114, jb_39_117, jb_39_119, jb_39_125, jb_39_128, jb_39_131, jb_39_137, jb_39_140, jb_39_143, jb_39_149, jb_39_152, jb_39_155, jb_39_161, jb_39_164, jb_39_167, jb_39_173, jb_39_176, jb_39_179, jx_nl, jx_nlr, jx_thenS, jx_tlS, jx_tlN, jm_ite_go, jx_rds, jx_rdn, jx_lit, pk_mul, nI_add, nI_pred, pk_sub, jx_na, jx_add0, Nat.reduceMul, Nat.reduceAdd, Nat.reduceSub, Nat.reduceEqDiff, Nat.reduceLeDiff, Nat.reduceLT, Nat.not_lt_zero, jx_cl, nI_leI, nI_ltI, nI_eq, jx_neg, jx_neg', jx_negE, jx_negL, jx_negG, jx_negLE, jx_negN, sb_nlt, sb_nle, jx_b0, jx_b1, jx_bT, jx_bF, ite_true, ite_false, if_true, if_false, reduceIte, Bool.false_eq_true, Bool.true_eq_false, eq_self, Nat.one_ne_zero, Nat.add_sub_cancel, not_true_eq_false, not_false_eq_true, s0, s1, s2, s3, s4, s5, s6, s7, s8, s9, s10, s11, jz_ct, jz_tw, jz_vw]
    · subst z
      have w0 : jz_wm b r e 0 = false := ht 0 (by decide)
      rw [w0] at s0
      have w1 : jz_wm b r e 1 = false := ht 1 (by decide)
      rw [w1] at s1
      have w2 : jz_wm b r e 2 = false := ht 2 (by decide)
      rw [w2] at s2
      have w9 : jz_wm b r e 9 = false := ht 9 (by decide)
      rw [w9] at s3
      have w10 : jz_wm b r e 10 = false := ht 10 (by decide)
      rw [w10] at s4
      have w11 : jz_wm b r e 11 = false := ht 11 (by decide)
      rw [w11] at s5
      have w3 : jz_wm b r e 3 = true := ht 3 (by decide)
      rw [w3] at s6
      have w4 : jz_wm b r e 4 = false := ht 4 (by decide)
      rw [w4] at s7
      have w5 : jz_wm b r e 5 = false := ht 5 (by decide)
      rw [w5] at s8
      have w6 : jz_wm b r e 6 = false := ht 6 (by decide)
      rw [w6] at s9
      have w7 : jz_wm b r e 7 = false := ht 7 (by decide)
      rw [w7] at s10
      have w8 : jz_wm b r e 8 = false := ht 8 (by decide)
      rw [w8] at s11
      simp (disch := first | assumption | omega | exact jx_bz _ | exact jx_z0 | exact jx_z1 | (refine jx_ixB ?_ ?_; omega; omega) | (simp (disch := first | omega | fail) only [jx_lit, pk_mul, nI_add, nI_pred, pk_sub, jx_na, jx_add0, Nat.reduceMul, Nat.reduceAdd, Nat.reduceSub, Nat.reduceEqDiff, Nat.reduceLeDiff, Nat.reduceLT, s0, s1, s2, s3, s4, s5, s6, s7, s8, s9, s10, s11, jz_ct, jz_tw, jz_vw]; refine jx_ixC ?_ ?_; omega; omega) | (simp (disch := first | omega | fail) only [jx_lit, pk_mul, nI_add, nI_pred, pk_sub, jx_na, jx_add0, Nat.reduceMul, Nat.reduceAdd, Nat.reduceSub, Nat.reduceEqDiff, Nat.reduceLeDiff, Nat.reduceLT, jx_cl, nI_leI, Nat.zero_le, true_and, s0, s1, s2, s3, s4, s5, s6, s7, s8, s9, s10, s11, jz_ct, jz_tw, jz_vw]; omega) | fail) only [jb_39_11, jb_39_19, jb_39_22, jb_39_25, jb_39_38, jb_39_44, jb_39_47, jb_39_49, jb_39_55, jb_39_58, jb_39_60, jb_39_66, jb_39_69, jb_39_72, jb_39_78, jb_39_81, jb_39_84, jb_39_90, jb_39_93, jb_39_96, jb_39_102, jb_39_105, jb_39_108, jb_39_114, jb_39_117, jb_39_119, jb_39_125, jb_39_128, jb_39_131, jb_39_137, jb_39_140, jb_39_143, jb_39_149, jb_39_152, jb_39_155, jb_39_161, jb_39_164, jb_39_167, jb_39_173, jb_39_176, jb_39_179, jx_nl, jx_nlr, jx_thenS, jx_tlS, jx_tlN, jm_ite_go, jx_rds, jx_rdn, jx_lit, pk_mul, nI_add, nI_pred, pk_sub, jx_na, jx_add0, Nat.reduceMul, Nat.reduceAdd, Nat.reduceSub, Nat.reduceEqDiff, Nat.reduceLeDiff, Nat.reduceLT, Nat.not_lt_zero, jx_cl, nI_leI, nI_ltI, nI_eq, jx_neg, jx_neg', jx_negE, jx_negL, jx_negG, jx_negLE, jx_negN, sb_nlt, sb_nle, jx_b0, jx_b1, jx_bT, jx_bF, ite_true, ite_false, if_true, if_false, reduceIte, Bool.false_eq_true, Bool.true_eq_false, eq_self, Nat.one_ne_zero, Nat.add_sub_cancel, not_true_eq_false, not_false_eq_true, s0, s1, s2, s3, s4, s5, s6, s7, s8, s9, s10, s11, jz_ct, jz_tw, jz_vw]
    · subst z
      have w0 : jz_wm b r e 0 = false := ht 0 (by decide)
      rw [w0] at s0
      have w1 : jz_wm b r e 1 = false := ht 1 (by decide)
      rw [w1] at s1
      have w2 : jz_wm b r e 2 = false := ht 2 (by decide)
      rw [w2] at s2
      have w9 : jz_wm b r e 9 = false := ht 9 (by decide)
      rw [w9] at s3
      have w10 : jz_wm b r e 10 = false := ht 10 (by decide)
      rw [w10] at s4
      have w11 : jz_wm b r e 11 = false := ht 11 (by decide)
      rw [w11] at s5
      have w3 : jz_wm b r e 3 = false := ht 3 (by decide)
      rw [w3] at s6
      have w4 : jz_wm b r e 4 = true := ht 4 (by decide)
      rw [w4] at s7
      have w5 : jz_wm b r e 5 = false := ht 5 (by decide)
      rw [w5] at s8
      have w6 : jz_wm b r e 6 = false := ht 6 (by decide)
      rw [w6] at s9
      have w7 : jz_wm b r e 7 = false := ht 7 (by decide)
      rw [w7] at s10
      have w8 : jz_wm b r e 8 = false := ht 8 (by decide)
      rw [w8] at s11
      simp (disch := first | assumption | omega | exact jx_bz _ | exact jx_z0 | exact jx_z1 | (refine jx_ixB ?_ ?_; omega; omega) | (simp (disch := first | omega | fail) only [jx_lit, pk_mul, nI_add, nI_pred, pk_sub, jx_na, jx_add0, Nat.reduceMul, Nat.reduceAdd, Nat.reduceSub, Nat.reduceEqDiff, Nat.reduceLeDiff, Nat.reduceLT, s0, s1, s2, s3, s4, s5, s6, s7, s8, s9, s10, s11, jz_ct, jz_tw, jz_vw]; refine jx_ixC ?_ ?_; omega; omega) | (simp (disch := first | omega | fail) only [jx_lit, pk_mul, nI_add, nI_pred, pk_sub, jx_na, jx_add0, Nat.reduceMul, Nat.reduceAdd, Nat.reduceSub, Nat.reduceEqDiff, Nat.reduceLeDiff, Nat.reduceLT, jx_cl, nI_leI, Nat.zero_le, true_and, s0, s1, s2, s3, s4, s5, s6, s7, s8, s9, s10, s11, jz_ct, jz_tw, jz_vw]; omega) | fail) only [jb_39_11, jb_39_19, jb_39_22, jb_39_25, jb_39_38, jb_39_44, jb_39_47, jb_39_49, jb_39_55, jb_39_58, jb_39_60, jb_39_66, jb_39_69, jb_39_72, jb_39_78, jb_39_81, jb_39_84, jb_39_90, jb_39_93, jb_39_96, jb_39_102, jb_39_105, jb_39_108, jb_39_114, jb_39_117, jb_39_119, jb_39_125, jb_39_128, jb_39_131, jb_39_137, jb_39_140, jb_39_143, jb_39_149, jb_39_152, jb_39_155, jb_39_161, jb_39_164, jb_39_167, jb_39_173, jb_39_176, jb_39_179, jx_nl, jx_nlr, jx_thenS, jx_tlS, jx_tlN, jm_ite_go, jx_rds, jx_rdn, jx_lit, pk_mul, nI_add, nI_pred, pk_sub, jx_na, jx_add0, Nat.reduceMul, Nat.reduceAdd, Nat.reduceSub, Nat.reduceEqDiff, Nat.reduceLeDiff, Nat.reduceLT, Nat.not_lt_zero, jx_cl, nI_leI, nI_ltI, nI_eq, jx_neg, jx_neg', jx_negE, jx_negL, jx_negG, jx_negLE, jx_negN, sb_nlt, sb_nle, jx_b0, jx_b1, jx_bT, jx_bF, ite_true, ite_false, if_true, if_false, reduceIte, Bool.false_eq_true, Bool.true_eq_false, eq_self, Nat.one_ne_zero, Nat.add_sub_cancel, not_true_eq_false, not_false_eq_true, s0, s1, s2, s3, s4, s5, s6, s7, s8, s9, s10, s11, jz_ct, jz_tw, jz_vw]
    · subst z
      have w0 : jz_wm b r e 0 = false := ht 0 (by decide)
      rw [w0] at s0
      have w1 : jz_wm b r e 1 = false := ht 1 (by decide)
      rw [w1] at s1
      have w2 : jz_wm b r e 2 = false := ht 2 (by decide)
      rw [w2] at s2
      have w9 : jz_wm b r e 9 = false := ht 9 (by decide)
      rw [w9] at s3
      have w10 : jz_wm b r e 10 = false := ht 10 (by decide)
      rw [w10] at s4
      have w11 : jz_wm b r e 11 = false := ht 11 (by decide)
      rw [w11] at s5
      have w3 : jz_wm b r e 3 = false := ht 3 (by decide)
      rw [w3] at s6
      have w4 : jz_wm b r e 4 = false := ht 4 (by decide)
      rw [w4] at s7
      have w5 : jz_wm b r e 5 = true := ht 5 (by decide)
      rw [w5] at s8
      have w6 : jz_wm b r e 6 = false := ht 6 (by decide)
      rw [w6] at s9
      have w7 : jz_wm b r e 7 = false := ht 7 (by decide)
      rw [w7] at s10
      have w8 : jz_wm b r e 8 = false := ht 8 (by decide)
      rw [w8] at s11
      simp (disch := first | assumption | omega | exact jx_bz _ | exact jx_z0 | exact jx_z1 | (refine jx_ixB ?_ ?_; omega; omega) | (simp (disch := first | omega | fail) only [jx_lit, pk_mul, nI_add, nI_pred, pk_sub, jx_na, jx_add0, Nat.reduceMul, Nat.reduceAdd, Nat.reduceSub, Nat.reduceEqDiff, Nat.reduceLeDiff, Nat.reduceLT, s0, s1, s2, s3, s4, s5, s6, s7, s8, s9, s10, s11, jz_ct, jz_tw, jz_vw]; refine jx_ixC ?_ ?_; omega; omega) | (simp (disch := first | omega | fail) only [jx_lit, pk_mul, nI_add, nI_pred, pk_sub, jx_na, jx_add0, Nat.reduceMul, Nat.reduceAdd, Nat.reduceSub, Nat.reduceEqDiff, Nat.reduceLeDiff, Nat.reduceLT, jx_cl, nI_leI, Nat.zero_le, true_and, s0, s1, s2, s3, s4, s5, s6, s7, s8, s9, s10, s11, jz_ct, jz_tw, jz_vw]; omega) | fail) only [jb_39_11, jb_39_19, jb_39_22, jb_39_25, jb_39_38, jb_39_44, jb_39_47, jb_39_49, jb_39_55, jb_39_58, jb_39_60, jb_39_66, jb_39_69, jb_39_72, jb_39_78, jb_39_81, jb_39_84, jb_39_90, jb_39_93, jb_39_96, jb_39_102, jb_39_105, jb_39_108, jb_39_114, jb_39_117, jb_39_119, jb_39_125, jb_39_128, jb_39_131, jb_39_137, jb_39_140, jb_39_143, jb_39_149, jb_39_152, jb_39_155, jb_39_161, jb_39_164, jb_39_167, jb_39_173, jb_39_176, jb_39_179, jx_nl, jx_nlr, jx_thenS, jx_tlS, jx_tlN, jm_ite_go, jx_rds, jx_rdn, jx_lit, pk_mul, nI_add, nI_pred, pk_sub, jx_na, jx_add0, Nat.reduceMul, Nat.reduceAdd, Nat.reduceSub, Nat.reduceEqDiff, Nat.reduceLeDiff, Nat.reduceLT, Nat.not_lt_zero, jx_cl, nI_leI, nI_ltI, nI_eq, jx_neg, jx_neg', jx_negE, jx_negL, jx_negG, jx_negLE, jx_negN, sb_nlt, sb_nle, jx_b0, jx_b1, jx_bT, jx_bF, ite_true, ite_false, if_true, if_false, reduceIte, Bool.false_eq_true, Bool.true_eq_false, eq_self, Nat.one_ne_zero, Nat.add_sub_cancel, not_true_eq_false, not_false_eq_true, s0, s1, s2, s3, s4, s5, s6, s7, s8, s9, s10, s11, jz_ct, jz_tw, jz_vw]
    · subst z
      have w0 : jz_wm b r e 0 = false := ht 0 (by decide)
      rw [w0] at s0
      have w1 : jz_wm b r e 1 = false := ht 1 (by decide)
      rw [w1] at s1
      have w2 : jz_wm b r e 2 = false := ht 2 (by decide)
      rw [w2] at s2
      have w9 : jz_wm b r e 9 = false := ht 9 (by decide)
      rw [w9] at s3
      have w10 : jz_wm b r e 10 = false := ht 10 (by decide)
      rw [w10] at s4
      have w11 : jz_wm b r e 11 = false := ht 11 (by decide)
      rw [w11] at s5
      have w3 : jz_wm b r e 3 = false := ht 3 (by decide)
      rw [w3] at s6
      have w4 : jz_wm b r e 4 = false := ht 4 (by decide)
      rw [w4] at s7
      have w5 : jz_wm b r e 5 = false := ht 5 (by decide)
      rw [w5] at s8
      have w6 : jz_wm b r e 6 = true := ht 6 (by decide)
      rw [w6] at s9
      have w7 : jz_wm b r e 7 = false := ht 7 (by decide)
      rw [w7] at s10
      have w8 : jz_wm b r e 8 = false := ht 8 (by decide)
      rw [w8] at s11
      simp (disch := first | assumption | omega | exact jx_bz _ | exact jx_z0 | exact jx_z1 | (refine jx_ixB ?_ ?_; omega; omega) | (simp (disch := first | omega | fail) only [jx_lit, pk_mul, nI_add, nI_pred, pk_sub, jx_na, jx_add0, Nat.reduceMul, Nat.reduceAdd, Nat.reduceSub, Nat.reduceEqDiff, Nat.reduceLeDiff, Nat.reduceLT, s0, s1, s2, s3, s4, s5, s6, s7, s8, s9, s10, s11, jz_ct, jz_tw, jz_vw]; refine jx_ixC ?_ ?_; omega; omega) | (simp (disch := first | omega | fail) only [jx_lit, pk_mul, nI_add, nI_pred, pk_sub, jx_na, jx_add0, Nat.reduceMul, Nat.reduceAdd, Nat.reduceSub, Nat.reduceEqDiff, Nat.reduceLeDiff, Nat.reduceLT, jx_cl, nI_leI, Nat.zero_le, true_and, s0, s1, s2, s3, s4, s5, s6, s7, s8, s9, s10, s11, jz_ct, jz_tw, jz_vw]; omega) | fail) only [jb_39_11, jb_39_19, jb_39_22, jb_39_25, jb_39_38, jb_39_44, jb_39_47, jb_39_49, jb_39_55, jb_39_58, jb_39_60, jb_39_66, jb_39_69, jb_39_72, jb_39_78, jb_39_81, jb_39_84, jb_39_90, jb_39_93, jb_39_96, jb_39_102, jb_39_105, jb_39_108, jb_39_114, jb_39_117, jb_39_119, jb_39_125, jb_39_128, jb_39_131, jb_39_137, jb_39_140, jb_39_143, jb_39_149, jb_39_152, jb_39_155, jb_39_161, jb_39_164, jb_39_167, jb_39_173, jb_39_176, jb_39_179, jx_nl, jx_nlr, jx_thenS, jx_tlS, jx_tlN, jm_ite_go, jx_rds, jx_rdn, jx_lit, pk_mul, nI_add, nI_pred, pk_sub, jx_na, jx_add0, Nat.reduceMul, Nat.reduceAdd, Nat.reduceSub, Nat.reduceEqDiff, Nat.reduceLeDiff, Nat.reduceLT, Nat.not_lt_zero, jx_cl, nI_leI, nI_ltI, nI_eq, jx_neg, jx_neg', jx_negE, jx_negL, jx_negG, jx_negLE, jx_negN, sb_nlt, sb_nle, jx_b0, jx_b1, jx_bT, jx_bF, ite_true, ite_false, if_true, if_false, reduceIte, Bool.false_eq_true, Bool.true_eq_false, eq_self, Nat.one_ne_zero, Nat.add_sub_cancel, not_true_eq_false, not_false_eq_true, s0, s1, s2, s3, s4, s5, s6, s7, s8, s9, s10, s11, jz_ct, jz_tw, jz_vw]
    · subst z
      have w0 : jz_wm b r e 0 = false := ht 0 (by decide)
      rw [w0] at s0
      have w1 : jz_wm b r e 1 = false := ht 1 (by decide)
      rw [w1] at s1
      have w2 : jz_wm b r e 2 = false := ht 2 (by decide)
      rw [w2] at s2
      have w9 : jz_wm b r e 9 = false := ht 9 (by decide)
      rw [w9] at s3
      have w10 : jz_wm b r e 10 = false := ht 10 (by decide)
      rw [w10] at s4
      have w11 : jz_wm b r e 11 = false := ht 11 (by decide)
      rw [w11] at s5
      have w3 : jz_wm b r e 3 = false := ht 3 (by decide)
      rw [w3] at s6
      have w4 : jz_wm b r e 4 = false := ht 4 (by decide)
      rw [w4] at s7
      have w5 : jz_wm b r e 5 = false := ht 5 (by decide)
      rw [w5] at s8
      have w6 : jz_wm b r e 6 = false := ht 6 (by decide)
      rw [w6] at s9
      have w7 : jz_wm b r e 7 = true := ht 7 (by decide)
      rw [w7] at s10
      have w8 : jz_wm b r e 8 = false := ht 8 (by decide)
      rw [w8] at s11
      simp (disch := first | assumption | omega | exact jx_bz _ | exact jx_z0 | exact jx_z1 | (refine jx_ixB ?_ ?_; omega; omega) | (simp (disch := first | omega | fail) only [jx_lit, pk_mul, nI_add, nI_pred, pk_sub, jx_na, jx_add0, Nat.reduceMul, Nat.reduceAdd, Nat.reduceSub, Nat.reduceEqDiff, Nat.reduceLeDiff, Nat.reduceLT, s0, s1, s2, s3, s4, s5, s6, s7, s8, s9, s10, s11, jz_ct, jz_tw, jz_vw]; refine jx_ixC ?_ ?_; omega; omega) | (simp (disch := first | omega | fail) only [jx_lit, pk_mul, nI_add, nI_pred, pk_sub, jx_na, jx_add0, Nat.reduceMul, Nat.reduceAdd, Nat.reduceSub, Nat.reduceEqDiff, Nat.reduceLeDiff, Nat.reduceLT, jx_cl, nI_leI, Nat.zero_le, true_and, s0, s1, s2, s3, s4, s5, s6, s7, s8, s9, s10, s11, jz_ct, jz_tw, jz_vw]; omega) | fail) only [jb_39_11, jb_39_19, jb_39_22, jb_39_25, jb_39_38, jb_39_44, jb_39_47, jb_39_49, jb_39_55, jb_39_58, jb_39_60, jb_39_66, jb_39_69, jb_39_72, jb_39_78, jb_39_81, jb_39_84, jb_39_90, jb_39_93, jb_39_96, jb_39_102, jb_39_105, jb_39_108, jb_39_114, jb_39_117, jb_39_119, jb_39_125, jb_39_128, jb_39_131, jb_39_137, jb_39_140, jb_39_143, jb_39_149, jb_39_152, jb_39_155, jb_39_161, jb_39_164, jb_39_167, jb_39_173, jb_39_176, jb_39_179, jx_nl, jx_nlr, jx_thenS, jx_tlS, jx_tlN, jm_ite_go, jx_rds, jx_rdn, jx_lit, pk_mul, nI_add, nI_pred, pk_sub, jx_na, jx_add0, Nat.reduceMul, Nat.reduceAdd, Nat.reduceSub, Nat.reduceEqDiff, Nat.reduceLeDiff, Nat.reduceLT, Nat.not_lt_zero, jx_cl, nI_leI, nI_ltI, nI_eq, jx_neg, jx_neg', jx_negE, jx_negL, jx_negG, jx_negLE, jx_negN, sb_nlt, sb_nle, jx_b0, jx_b1, jx_bT, jx_bF, ite_true, ite_false, if_true, if_false, reduceIte, Bool.false_eq_true, Bool.true_eq_false, eq_self, Nat.one_ne_zero, Nat.add_sub_cancel, not_true_eq_false, not_false_eq_true, s0, s1, s2, s3, s4, s5, s6, s7, s8, s9, s10, s11, jz_ct, jz_tw, jz_vw]
    · subst z
      have w0 : jz_wm b r e 0 = false := ht 0 (by decide)
      rw [w0] at s0
      have w1 : jz_wm b r e 1 = false := ht 1 (by decide)
      rw [w1] at s1
      have w2 : jz_wm b r e 2 = false := ht 2 (by decide)
      rw [w2] at s2
      have w9 : jz_wm b r e 9 = false := ht 9 (by decide)
      rw [w9] at s3
      have w10 : jz_wm b r e 10 = false := ht 10 (by decide)
      rw [w10] at s4
      have w11 : jz_wm b r e 11 = false := ht 11 (by decide)
      rw [w11] at s5
      have w3 : jz_wm b r e 3 = false := ht 3 (by decide)
      rw [w3] at s6
      have w4 : jz_wm b r e 4 = false := ht 4 (by decide)
      rw [w4] at s7
      have w5 : jz_wm b r e 5 = false := ht 5 (by decide)
      rw [w5] at s8
      have w6 : jz_wm b r e 6 = false := ht 6 (by decide)
      rw [w6] at s9
      have w7 : jz_wm b r e 7 = false := ht 7 (by decide)
      rw [w7] at s10
      have w8 : jz_wm b r e 8 = true := ht 8 (by decide)
      rw [w8] at s11
      simp (disch := first | assumption | omega | exact jx_bz _ | exact jx_z0 | exact jx_z1 | (refine jx_ixB ?_ ?_; omega; omega) | (simp (disch := first | omega | fail) only [jx_lit, pk_mul, nI_add, nI_pred, pk_sub, jx_na, jx_add0, Nat.reduceMul, Nat.reduceAdd, Nat.reduceSub, Nat.reduceEqDiff, Nat.reduceLeDiff, Nat.reduceLT, s0, s1, s2, s3, s4, s5, s6, s7, s8, s9, s10, s11, jz_ct, jz_tw, jz_vw]; refine jx_ixC ?_ ?_; omega; omega) | (simp (disch := first | omega | fail) only [jx_lit, pk_mul, nI_add, nI_pred, pk_sub, jx_na, jx_add0, Nat.reduceMul, Nat.reduceAdd, Nat.reduceSub, Nat.reduceEqDiff, Nat.reduceLeDiff, Nat.reduceLT, jx_cl, nI_leI, Nat.zero_le, true_and, s0, s1, s2, s3, s4, s5, s6, s7, s8, s9, s10, s11, jz_ct, jz_tw, jz_vw]; omega) | fail) only [jb_39_11, jb_39_19, jb_39_22, jb_39_25, jb_39_38, jb_39_44, jb_39_47, jb_39_49, jb_39_55, jb_39_58, jb_39_60, jb_39_66, jb_39_69, jb_39_72, jb_39_78, jb_39_81, jb_39_84, jb_39_90, jb_39_93, jb_39_96, jb_39_102, jb_39_105, jb_39_108, jb_39_114, jb_39_117, jb_39_119, jb_39_125, jb_39_128, jb_39_131, jb_39_137, jb_39_140, jb_39_143, jb_39_149, jb_39_152, jb_39_155, jb_39_161, jb_39_164, jb_39_167, jb_39_173, jb_39_176, jb_39_179, jx_nl, jx_nlr, jx_thenS, jx_tlS, jx_tlN, jm_ite_go, jx_rds, jx_rdn, jx_lit, pk_mul, nI_add, nI_pred, pk_sub, jx_na, jx_add0, Nat.reduceMul, Nat.reduceAdd, Nat.reduceSub, Nat.reduceEqDiff, Nat.reduceLeDiff, Nat.reduceLT, Nat.not_lt_zero, jx_cl, nI_leI, nI_ltI, nI_eq, jx_neg, jx_neg', jx_negE, jx_negL, jx_negG, jx_negLE, jx_negN, sb_nlt, sb_nle, jx_b0, jx_b1, jx_bT, jx_bF, ite_true, ite_false, if_true, if_false, reduceIte, Bool.false_eq_true, Bool.true_eq_false, eq_self, Nat.one_ne_zero, Nat.add_sub_cancel, not_true_eq_false, not_false_eq_true, s0, s1, s2, s3, s4, s5, s6, s7, s8, s9, s10, s11, jz_ct, jz_tw, jz_vw]
    · subst z
      have w0 : jz_wm b r e 0 = false := ht 0 (by decide)
      rw [w0] at s0
      have w1 : jz_wm b r e 1 = false := ht 1 (by decide)
      rw [w1] at s1
      have w2 : jz_wm b r e 2 = false := ht 2 (by decide)
      rw [w2] at s2
      have w9 : jz_wm b r e 9 = true := ht 9 (by decide)
      rw [w9] at s3
      have w10 : jz_wm b r e 10 = false := ht 10 (by decide)
      rw [w10] at s4
      have w11 : jz_wm b r e 11 = false := ht 11 (by decide)
      rw [w11] at s5
      have w3 : jz_wm b r e 3 = false := ht 3 (by decide)
      rw [w3] at s6
      have w4 : jz_wm b r e 4 = false := ht 4 (by decide)
      rw [w4] at s7
      have w5 : jz_wm b r e 5 = false := ht 5 (by decide)
      rw [w5] at s8
      have w6 : jz_wm b r e 6 = false := ht 6 (by decide)
      rw [w6] at s9
      have w7 : jz_wm b r e 7 = false := ht 7 (by decide)
      rw [w7] at s10
      have w8 : jz_wm b r e 8 = false := ht 8 (by decide)
      rw [w8] at s11
      simp (disch := first | assumption | omega | exact jx_bz _ | exact jx_z0 | exact jx_z1 | (refine jx_ixB ?_ ?_; omega; omega) | (simp (disch := first | omega | fail) only [jx_lit, pk_mul, nI_add, nI_pred, pk_sub, jx_na, jx_add0, Nat.reduceMul, Nat.reduceAdd, Nat.reduceSub, Nat.reduceEqDiff, Nat.reduceLeDiff, Nat.reduceLT, s0, s1, s2, s3, s4, s5, s6, s7, s8, s9, s10, s11, jz_ct, jz_tw, jz_vw]; refine jx_ixC ?_ ?_; omega; omega) | (simp (disch := first | omega | fail) only [jx_lit, pk_mul, nI_add, nI_pred, pk_sub, jx_na, jx_add0, Nat.reduceMul, Nat.reduceAdd, Nat.reduceSub, Nat.reduceEqDiff, Nat.reduceLeDiff, Nat.reduceLT, jx_cl, nI_leI, Nat.zero_le, true_and, s0, s1, s2, s3, s4, s5, s6, s7, s8, s9, s10, s11, jz_ct, jz_tw, jz_vw]; omega) | fail) only [jb_39_11, jb_39_19, jb_39_22, jb_39_25, jb_39_38, jb_39_44, jb_39_47, jb_39_49, jb_39_55, jb_39_58, jb_39_60, jb_39_66, jb_39_69, jb_39_72, jb_39_78, jb_39_81, jb_39_84, jb_39_90, jb_39_93, jb_39_96, jb_39_102, jb_39_105, jb_39_108, jb_39_114, jb_39_117, jb_39_119, jb_39_125, jb_39_128, jb_39_131, jb_39_137, jb_39_140, jb_39_143, jb_39_149, jb_39_152, jb_39_155, jb_39_161, jb_39_164, jb_39_167, jb_39_173, jb_39_176, jb_39_179, jx_nl, jx_nlr, jx_thenS, jx_tlS, jx_tlN, jm_ite_go, jx_rds, jx_rdn, jx_lit, pk_mul, nI_add, nI_pred, pk_sub, jx_na, jx_add0, Nat.reduceMul, Nat.reduceAdd, Nat.reduceSub, Nat.reduceEqDiff, Nat.reduceLeDiff, Nat.reduceLT, Nat.not_lt_zero, jx_cl, nI_leI, nI_ltI, nI_eq, jx_neg, jx_neg', jx_negE, jx_negL, jx_negG, jx_negLE, jx_negN, sb_nlt, sb_nle, jx_b0, jx_b1, jx_bT, jx_bF, ite_true, ite_false, if_true, if_false, reduceIte, Bool.false_eq_true, Bool.true_eq_false, eq_self, Nat.one_ne_zero, Nat.add_sub_cancel, not_true_eq_false, not_false_eq_true, s0, s1, s2, s3, s4, s5, s6, s7, s8, s9, s10, s11, jz_ct, jz_tw, jz_vw]
    · subst z
      have w0 : jz_wm b r e 0 = false := ht 0 (by decide)
      rw [w0] at s0
      have w1 : jz_wm b r e 1 = false := ht 1 (by decide)
      rw [w1] at s1
      have w2 : jz_wm b r e 2 = false := ht 2 (by decide)
      rw [w2] at s2
      have w9 : jz_wm b r e 9 = false := ht 9 (by decide)
      rw [w9] at s3
      have w10 : jz_wm b r e 10 = true := ht 10 (by decide)
      rw [w10] at s4
      have w11 : jz_wm b r e 11 = false := ht 11 (by decide)
      rw [w11] at s5
      have w3 : jz_wm b r e 3 = false := ht 3 (by decide)
      rw [w3] at s6
      have w4 : jz_wm b r e 4 = false := ht 4 (by decide)
      rw [w4] at s7
      have w5 : jz_wm b r e 5 = false := ht 5 (by decide)
      rw [w5] at s8
      have w6 : jz_wm b r e 6 = false := ht 6 (by decide)
      rw [w6] at s9
      have w7 : jz_wm b r e 7 = false := ht 7 (by decide)
      rw [w7] at s10
      have w8 : jz_wm b r e 8 = false := ht 8 (by decide)
      rw [w8] at s11
      simp (disch := first | assumption | omega | exact jx_bz _ | exact jx_z0 | exact jx_z1 | (refine jx_ixB ?_ ?_; omega; omega) | (simp (disch := first | omega | fail) only [jx_lit, pk_mul, nI_add, nI_pred, pk_sub, jx_na, jx_add0, Nat.reduceMul, Nat.reduceAdd, Nat.reduceSub, Nat.reduceEqDiff, Nat.reduceLeDiff, Nat.reduceLT, s0, s1, s2, s3, s4, s5, s6, s7, s8, s9, s10, s11, jz_ct, jz_tw, jz_vw]; refine jx_ixC ?_ ?_; omega; omega) | (simp (disch := first | omega | fail) only [jx_lit, pk_mul, nI_add, nI_pred, pk_sub, jx_na, jx_add0, Nat.reduceMul, Nat.reduceAdd, Nat.reduceSub, Nat.reduceEqDiff, Nat.reduceLeDiff, Nat.reduceLT, jx_cl, nI_leI, Nat.zero_le, true_and, s0, s1, s2, s3, s4, s5, s6, s7, s8, s9, s10, s11, jz_ct, jz_tw, jz_vw]; omega) | fail) only [jb_39_11, jb_39_19, jb_39_22, jb_39_25, jb_39_38, jb_39_44, jb_39_47, jb_39_49, jb_39_55, jb_39_58, jb_39_60, jb_39_66, jb_39_69, jb_39_72, jb_39_78, jb_39_81, jb_39_84, jb_39_90, jb_39_93, jb_39_96, jb_39_102, jb_39_105, jb_39_108, jb_39_114, jb_39_117, jb_39_119, jb_39_125, jb_39_128, jb_39_131, jb_39_137, jb_39_140, jb_39_143, jb_39_149, jb_39_152, jb_39_155, jb_39_161, jb_39_164, jb_39_167, jb_39_173, jb_39_176, jb_39_179, jx_nl, jx_nlr, jx_thenS, jx_tlS, jx_tlN, jm_ite_go, jx_rds, jx_rdn, jx_lit, pk_mul, nI_add, nI_pred, pk_sub, jx_na, jx_add0, Nat.reduceMul, Nat.reduceAdd, Nat.reduceSub, Nat.reduceEqDiff, Nat.reduceLeDiff, Nat.reduceLT, Nat.not_lt_zero, jx_cl, nI_leI, nI_ltI, nI_eq, jx_neg, jx_neg', jx_negE, jx_negL, jx_negG, jx_negLE, jx_negN, sb_nlt, sb_nle, jx_b0, jx_b1, jx_bT, jx_bF, ite_true, ite_false, if_true, if_false, reduceIte, Bool.false_eq_true, Bool.true_eq_false, eq_self, Nat.one_ne_zero, Nat.add_sub_cancel, not_true_eq_false, not_false_eq_true, s0, s1, s2, s3, s4, s5, s6, s7, s8, s9, s10, s11, jz_ct, jz_tw, jz_vw]
    · subst z
      have w0 : jz_wm b r e 0 = false := ht 0 (by decide)
      rw [w0] at s0
      have w1 : jz_wm b r e 1 = false := ht 1 (by decide)
      rw [w1] at s1
      have w2 : jz_wm b r e 2 = false := ht 2 (by decide)
      rw [w2] at s2
      have w9 : jz_wm b r e 9 = false := ht 9 (by decide)
      rw [w9] at s3
      have w10 : jz_wm b r e 10 = false := ht 10 (by decide)
      rw [w10] at s4
      have w11 : jz_wm b r e 11 = true := ht 11 (by decide)
      rw [w11] at s5
      have w3 : jz_wm b r e 3 = false := ht 3 (by decide)
      rw [w3] at s6
      have w4 : jz_wm b r e 4 = false := ht 4 (by decide)
      rw [w4] at s7
      have w5 : jz_wm b r e 5 = false := ht 5 (by decide)
      rw [w5] at s8
      have w6 : jz_wm b r e 6 = false := ht 6 (by decide)
      rw [w6] at s9
      have w7 : jz_wm b r e 7 = false := ht 7 (by decide)
      rw [w7] at s10
      have w8 : jz_wm b r e 8 = false := ht 8 (by decide)
      rw [w8] at s11
      simp (disch := first | assumption | omega | exact jx_bz _ | exact jx_z0 | exact jx_z1 | (refine jx_ixB ?_ ?_; omega; omega) | (simp (disch := first | omega | fail) only [jx_lit, pk_mul, nI_add, nI_pred, pk_sub, jx_na, jx_add0, Nat.reduceMul, Nat.reduceAdd, Nat.reduceSub, Nat.reduceEqDiff, Nat.reduceLeDiff, Nat.reduceLT, s0, s1, s2, s3, s4, s5, s6, s7, s8, s9, s10, s11, jz_ct, jz_tw, jz_vw]; refine jx_ixC ?_ ?_; omega; omega) | (simp (disch := first | omega | fail) only [jx_lit, pk_mul, nI_add, nI_pred, pk_sub, jx_na, jx_add0, Nat.reduceMul, Nat.reduceAdd, Nat.reduceSub, Nat.reduceEqDiff, Nat.reduceLeDiff, Nat.reduceLT, jx_cl, nI_leI, Nat.zero_le, true_and, s0, s1, s2, s3, s4, s5, s6, s7, s8, s9, s10, s11, jz_ct, jz_tw, jz_vw]; omega) | fail) only [jb_39_11, jb_39_19, jb_39_22, jb_39_25, jb_39_38, jb_39_44, jb_39_47, jb_39_49, jb_39_55, jb_39_58, jb_39_60, jb_39_66, jb_39_69, jb_39_72, jb_39_78, jb_39_81, jb_39_84, jb_39_90, jb_39_93, jb_39_96, jb_39_102, jb_39_105, jb_39_108, jb_39_114, jb_39_117, jb_39_119, jb_39_125, jb_39_128, jb_39_131, jb_39_137, jb_39_140, jb_39_143, jb_39_149, jb_39_152, jb_39_155, jb_39_161, jb_39_164, jb_39_167, jb_39_173, jb_39_176, jb_39_179, jx_nl, jx_nlr, jx_thenS, jx_tlS, jx_tlN, jm_ite_go, jx_rds, jx_rdn, jx_lit, pk_mul, nI_add, nI_pred, pk_sub, jx_na, jx_add0, Nat.reduceMul, Nat.reduceAdd, Nat.reduceSub, Nat.reduceEqDiff, Nat.reduceLeDiff, Nat.reduceLT, Nat.not_lt_zero, jx_cl, nI_leI, nI_ltI, nI_eq, jx_neg, jx_neg', jx_negE, jx_negL, jx_negG, jx_negLE, jx_negN, sb_nlt, sb_nle, jx_b0, jx_b1, jx_bT, jx_bF, ite_true, ite_false, if_true, if_false, reduceIte, Bool.false_eq_true, Bool.true_eq_false, eq_self, Nat.one_ne_zero, Nat.add_sub_cancel, not_true_eq_false, not_false_eq_true, s0, s1, s2, s3, s4, s5, s6, s7, s8, s9, s10, s11, jz_ct, jz_tw, jz_vw]
  · rw [hw]
    have w0 : jz_wm b r e 0 = false := ht 0 (by decide)
    rw [w0] at s0
    have w1 : jz_wm b r e 1 = false := ht 1 (by decide)
    rw [w1] at s1
    have w2 : jz_wm b r e 2 = false := ht 2 (by decide)
    rw [w2] at s2
    have w9 : jz_wm b r e 9 = false := ht 9 (by decide)
    rw [w9] at s3
    have w10 : jz_wm b r e 10 = false := ht 10 (by decide)
    rw [w10] at s4
    have w11 : jz_wm b r e 11 = false := ht 11 (by decide)
    rw [w11] at s5
    have w3 : jz_wm b r e 3 = false := ht 3 (by decide)
    rw [w3] at s6
    have w4 : jz_wm b r e 4 = false := ht 4 (by decide)
    rw [w4] at s7
    have w5 : jz_wm b r e 5 = false := ht 5 (by decide)
    rw [w5] at s8
    have w6 : jz_wm b r e 6 = false := ht 6 (by decide)
    rw [w6] at s9
    have w7 : jz_wm b r e 7 = false := ht 7 (by decide)
    rw [w7] at s10
    have w8 : jz_wm b r e 8 = false := ht 8 (by decide)
    rw [w8] at s11
    simp (disch := first | assumption | omega | exact jx_bz _ | exact jx_z0 | exact jx_z1 | (refine jx_ixB ?_ ?_; omega; omega) | (simp (disch := first | omega | fail) only [jx_lit, pk_mul, nI_add, nI_pred, pk_sub, jx_na, jx_add0, Nat.reduceMul, Nat.reduceAdd, Nat.reduceSub, Nat.reduceEqDiff, Nat.reduceLeDiff, Nat.reduceLT, s0, s1, s2, s3, s4, s5, s6, s7, s8, s9, s10, s11, jz_ct, jz_tw, jz_vw]; refine jx_ixC ?_ ?_; omega; omega) | (simp (disch := first | omega | fail) only [jx_lit, pk_mul, nI_add, nI_pred, pk_sub, jx_na, jx_add0, Nat.reduceMul, Nat.reduceAdd, Nat.reduceSub, Nat.reduceEqDiff, Nat.reduceLeDiff, Nat.reduceLT, jx_cl, nI_leI, Nat.zero_le, true_and, s0, s1, s2, s3, s4, s5, s6, s7, s8, s9, s10, s11, jz_ct, jz_tw, jz_vw]; omega) | fail) only [jb_39_11, jb_39_19, jb_39_22, jb_39_25, jb_39_38, jb_39_44, jb_39_47, jb_39_49, jb_39_55, jb_39_58, jb_39_60, jb_39_66, jb_39_69, jb_39_72, jb_39_78, jb_39_81, jb_39_84, jb_39_90, jb_39_93, jb_39_96, jb_39_102, jb_39_105, jb_39_108, jb_39_114, jb_39_117, jb_39_119, jb_39_125, jb_39_128, jb_39_131, jb_39_137, jb_39_140, jb_39_143, jb_39_149, jb_39_152, jb_39_155, jb_39_161, jb_39_164, jb_39_167, jb_39_173, jb_39_176, jb_39_179, jx_nl, jx_nlr, jx_thenS, jx_tlS, jx_tlN, jm_ite_go, jx_rds, jx_rdn, jx_lit, pk_mul, nI_add, nI_pred, pk_sub, jx_na, jx_add0, Nat.reduceMul, Nat.reduceAdd, Nat.reduceSub, Nat.reduceEqDiff, Nat.reduceLeDiff, Nat.reduceLT, Nat.not_lt_zero, jx_cl, nI_leI, nI_ltI, nI_eq, jx_neg, jx_neg', jx_negE, jx_negL, jx_negG, jx_negLE, jx_negN, sb_nlt, sb_nle, jx_b0, jx_b1, jx_bT, jx_bF, ite_true, ite_false, if_true, if_false, reduceIte, Bool.false_eq_true, Bool.true_eq_false, eq_self, Nat.one_ne_zero, Nat.add_sub_cancel, not_true_eq_false, not_false_eq_true, s0, s1, s2, s3, s4, s5, s6, s7, s8, s9, s10, s11, jz_ct, jz_tw, jz_vw]
theorem jf_38 {d s r : Nat} {b : Nat → Nat} {I : Nat → Nat → Int32} {rho : Nat → Option Nat} {mu : List (Nat × Nat)} (hB : jz_B I b s) (h2 : I 30 2 = nI r) (h4 : I 30 4 = nI r) (hr : r < s) (hl : jz_di (b r) = true) : jm_ev (d + 2) 38 [.ref 30] (jm_hp I rho mu) = some (some (.int (if jz_x jz_di b s r - r ≤ 4 then nI 1 else nI 3)), jm_hp (jm_up (jm_up I 30 5 (nI (jz_vl b r (jz_x jz_di b s r - r)))) 30 2 (nI (jz_x jz_di b s r))) rho mu) := by
  obtain ⟨b1, b2, b3, b4⟩ := id hB
  have e0 : jm_ev (d + 2) 38 [.ref 30] (jm_hp I rho mu) = jm_go (jm_ev (d + 1)) 38 (5, [some (.ref 30)], [], jm_hp (jm_up (jm_up I 30 5 (nI (jz_vl b r (r - r)))) 30 2 (nI r)) rho mu) := by
    have ei : jm_up (jm_up I 30 5 (nI 0)) 30 2 (nI r) = jm_up I 30 5 (nI 0) := jx_upid (by rw [jx_rdn (by omega)]; exact h2)
    rw [Nat.sub_self, show jz_vl b r 0 = 0 from rfl, ei]
    simp (disch := first | assumption | omega | exact jx_bz _ | exact jx_z0 | exact jx_z1 | (refine jx_ixB ?_ ?_; omega; omega) | (simp (disch := first | omega | fail) only [jx_lit, pk_mul, nI_add, nI_pred, pk_sub, jx_na, jx_add0, Nat.reduceMul, Nat.reduceAdd, Nat.reduceSub, Nat.reduceEqDiff, Nat.reduceLeDiff, Nat.reduceLT]; refine jx_ixC ?_ ?_; omega; omega) | (simp (disch := first | omega | fail) only [jx_lit, pk_mul, nI_add, nI_pred, pk_sub, jx_na, jx_add0, Nat.reduceMul, Nat.reduceAdd, Nat.reduceSub, Nat.reduceEqDiff, Nat.reduceLeDiff, Nat.reduceLT, jx_cl, nI_leI, Nat.zero_le, true_and]; omega) | fail) only [je_38, jb_38_0, jb_38_16, jb_38_24, jb_38_27, jb_38_30, jb_38_46, jb_38_66, jb_38_79, jb_38_83, jb_38_84, jx_nl, jx_nlr, jx_thenS, jx_tlS, jx_tlN, jm_ite_go, jx_rds, jx_rdn, jx_lit, pk_mul, nI_add, nI_pred, pk_sub, jx_na, jx_add0, Nat.reduceMul, Nat.reduceAdd, Nat.reduceSub, Nat.reduceEqDiff, Nat.reduceLeDiff, Nat.reduceLT, Nat.not_lt_zero, jx_cl, nI_leI, nI_ltI, nI_eq, jx_neg, jx_neg', jx_negE, jx_negL, jx_negG, jx_negLE, jx_negN, sb_nlt, sb_nle, jx_b0, jx_b1, jx_bT, jx_bF, ite_true, ite_false, if_true, if_false, reduceIte, Bool.false_eq_true, Bool.true_eq_false, eq_self, Nat.one_ne_zero, Nat.add_sub_cancel, not_true_eq_false, not_false_eq_true]
  have lp := jz_sc_go (E := jm_ev (d + 1)) (y := 38) (Q := jz_di) (b := b) (s := s) (fun k => (5, [some (.ref 30)], [], jm_hp (jm_up (jm_up I 30 5 (nI (jz_vl b r (k - r)))) 30 2 (nI k)) rho mu)) r (fun k hk hks hq => by
    have zn : ¬ s ≤ k := by omega
    have hB2 := jz_B_up (v := nI k) (jz_B_up (v := nI (jz_vl b r (k - r))) hB (show ¬ 5 = 1 by omega)) (show ¬ 2 = 1 by omega)
    have k26 := @jf_26 d s k _ rho mu hB2.1 b2 hks
    rw [hB2.2.2.1 k hks] at k26
    have k43 := @jf_43 d (b k) (jm_up (jm_up I 30 5 (nI (jz_vl b r (k - r)))) 30 2 (nI k)) rho mu (b4 k)
    rw [hq] at k43
    have hd : 48 ≤ b k := by
      unfold jz_di at hq
      rw [Bool.and_eq_true] at hq
      exact of_decide_eq_true hq.1
    have ev : jz_vl b r (k + 1 - r) = jz_vl b r (k - r) * 10 + b k - 48 := by
      rw [show k + 1 - r = (k - r) + 1 by omega, jz_vl, show r + (k - r) = k by omega]
    rw [ev, jb_38_5]
    simp (disch := first | assumption | omega | exact jx_bz _ | exact jx_z0 | exact jx_z1 | (refine jx_ixB ?_ ?_; omega; omega) | (simp (disch := first | omega | fail) only [jx_lit, pk_mul, nI_add, nI_pred, pk_sub, jx_na, jx_add0, Nat.reduceMul, Nat.reduceAdd, Nat.reduceSub, Nat.reduceEqDiff, Nat.reduceLeDiff, Nat.reduceLT, b1, zn, k26, k43, jx_up4]; refine jx_ixC ?_ ?_; omega; omega) | (simp (disch := first | omega | fail) only [jx_lit, pk_mul, nI_add, nI_pred, pk_sub, jx_na, jx_add0, Nat.reduceMul, Nat.reduceAdd, Nat.reduceSub, Nat.reduceEqDiff, Nat.reduceLeDiff, Nat.reduceLT, jx_cl, nI_leI, Nat.zero_le, true_and, b1, zn, k26, k43, jx_up4]; omega) | fail) only [jb_38_0, jb_38_16, jb_38_24, jb_38_27, jb_38_30, jb_38_46, jb_38_66, jb_38_79, jb_38_83, jb_38_84, jx_nl, jx_nlr, jx_thenS, jx_tlS, jx_tlN, jm_ite_go, jx_rds, jx_rdn, jx_lit, pk_mul, nI_add, nI_pred, pk_sub, jx_na, jx_add0, Nat.reduceMul, Nat.reduceAdd, Nat.reduceSub, Nat.reduceEqDiff, Nat.reduceLeDiff, Nat.reduceLT, Nat.not_lt_zero, jx_cl, nI_leI, nI_ltI, nI_eq, jx_neg, jx_neg', jx_negE, jx_negL, jx_negG, jx_negLE, jx_negN, sb_nlt, sb_nle, jx_b0, jx_b1, jx_bT, jx_bF, ite_true, ite_false, if_true, if_false, reduceIte, Bool.false_eq_true, Bool.true_eq_false, eq_self, Nat.one_ne_zero, Nat.add_sub_cancel, not_true_eq_false, not_false_eq_true, b1, zn, k26, k43, jx_up4]) (s - r) r (Nat.le_refl _)
  rw [e0]
  refine Eq.trans lp ?_
  rw [show jz_sc jz_di b s (s - r) r = jz_x jz_di b s r from rfl]
  obtain ⟨x1, x2⟩ := jz_x_le jz_di b hr hl
  have hend : ¬ (jz_x jz_di b s r < s ∧ jz_di (b (jz_x jz_di b s r)) = true) := jz_sc_end _ _ (by omega)
  generalize jz_x jz_di b s r = e at *
  have hB2 := jz_B_up (v := nI e) (jz_B_up (v := nI (jz_vl b r (e - r))) hB (show ¬ 5 = 1 by omega)) (show ¬ 2 = 1 by omega)
  have e1 : jm_go (jm_ev (d + 1)) 38 (5, [some (.ref 30)], [], jm_hp (jm_up (jm_up I 30 5 (nI (jz_vl b r (e - r)))) 30 2 (nI e)) rho mu) = jm_go (jm_ev (d + 1)) 38 (66, [some (.ref 30)], [], jm_hp (jm_up (jm_up I 30 5 (nI (jz_vl b r (e - r)))) 30 2 (nI e)) rho mu) := by
    rw [jb_38_5]
    by_cases zs : e < s
    · have zn : ¬ s ≤ e := by omega
      have hq : jz_di (b e) = false := by
        cases q : jz_di (b e) with
        | false => rfl
        | true => exact absurd ⟨zs, q⟩ hend
      have k26 := @jf_26 d s e _ rho mu hB2.1 b2 zs
      rw [hB2.2.2.1 e zs] at k26
      have k43 := @jf_43 d (b e) (jm_up (jm_up I 30 5 (nI (jz_vl b r (e - r)))) 30 2 (nI e)) rho mu (b4 e)
      rw [hq] at k43
      simp (disch := first | assumption | omega | fail) only [jb_38_16, jb_38_24, jb_38_27, jx_thenS, jx_tlS, jm_ite_go, b1, zn, k26, k43, jx_rdn, jx_rds, jx_lit, nI_leI, jx_b0, if_true, if_false, ite_true, ite_false, jx_bF]
    · have zn : s ≤ e := by omega
      simp (disch := first | assumption | omega | fail) only [jx_rdn, jx_rds, b1, nI_leI, zn, if_true, ite_true]
  rw [e1]
  have er : nI e - nI r = nI (e - r) := pk_sub (by omega)
  by_cases z4 : e - r ≤ 4
  · rw [if_pos z4]
    simp (disch := first | assumption | omega | exact jx_bz _ | exact jx_z0 | exact jx_z1 | (refine jx_ixB ?_ ?_; omega; omega) | (simp (disch := first | omega | fail) only [jx_lit, pk_mul, nI_add, nI_pred, pk_sub, jx_na, jx_add0, Nat.reduceMul, Nat.reduceAdd, Nat.reduceSub, Nat.reduceEqDiff, Nat.reduceLeDiff, Nat.reduceLT, h4, er, z4]; refine jx_ixC ?_ ?_; omega; omega) | (simp (disch := first | omega | fail) only [jx_lit, pk_mul, nI_add, nI_pred, pk_sub, jx_na, jx_add0, Nat.reduceMul, Nat.reduceAdd, Nat.reduceSub, Nat.reduceEqDiff, Nat.reduceLeDiff, Nat.reduceLT, jx_cl, nI_leI, Nat.zero_le, true_and, h4, er, z4]; omega) | fail) only [jb_38_0, jb_38_16, jb_38_24, jb_38_27, jb_38_30, jb_38_46, jb_38_66, jb_38_79, jb_38_83, jb_38_84, jx_nl, jx_nlr, jx_thenS, jx_tlS, jx_tlN, jm_ite_go, jx_rds, jx_rdn, jx_lit, pk_mul, nI_add, nI_pred, pk_sub, jx_na, jx_add0, Nat.reduceMul, Nat.reduceAdd, Nat.reduceSub, Nat.reduceEqDiff, Nat.reduceLeDiff, Nat.reduceLT, Nat.not_lt_zero, jx_cl, nI_leI, nI_ltI, nI_eq, jx_neg, jx_neg', jx_negE, jx_negL, jx_negG, jx_negLE, jx_negN, sb_nlt, sb_nle, jx_b0, jx_b1, jx_bT, jx_bF, ite_true, ite_false, if_true, if_false, reduceIte, Bool.false_eq_true, Bool.true_eq_false, eq_self, Nat.one_ne_zero, Nat.add_sub_cancel, not_true_eq_false, not_false_eq_true, h4, er, z4]
  · rw [if_neg z4]
    simp (disch := first | assumption | omega | exact jx_bz _ | exact jx_z0 | exact jx_z1 | (refine jx_ixB ?_ ?_; omega; omega) | (simp (disch := first | omega | fail) only [jx_lit, pk_mul, nI_add, nI_pred, pk_sub, jx_na, jx_add0, Nat.reduceMul, Nat.reduceAdd, Nat.reduceSub, Nat.reduceEqDiff, Nat.reduceLeDiff, Nat.reduceLT, h4, er, z4]; refine jx_ixC ?_ ?_; omega; omega) | (simp (disch := first | omega | fail) only [jx_lit, pk_mul, nI_add, nI_pred, pk_sub, jx_na, jx_add0, Nat.reduceMul, Nat.reduceAdd, Nat.reduceSub, Nat.reduceEqDiff, Nat.reduceLeDiff, Nat.reduceLT, jx_cl, nI_leI, Nat.zero_le, true_and, h4, er, z4]; omega) | fail) only [jb_38_0, jb_38_16, jb_38_24, jb_38_27, jb_38_30, jb_38_46, jb_38_66, jb_38_79, jb_38_83, jb_38_84, jx_nl, jx_nlr, jx_thenS, jx_tlS, jx_tlN, jm_ite_go, jx_rds, jx_rdn, jx_lit, pk_mul, nI_add, nI_pred, pk_sub, jx_na, jx_add0, Nat.reduceMul, Nat.reduceAdd, Nat.reduceSub, Nat.reduceEqDiff, Nat.reduceLeDiff, Nat.reduceLT, Nat.not_lt_zero, jx_cl, nI_leI, nI_ltI, nI_eq, jx_neg, jx_neg', jx_negE, jx_negL, jx_negG, jx_negLE, jx_negN, sb_nlt, sb_nle, jx_b0, jx_b1, jx_bT, jx_bF, ite_true, ite_false, if_true, if_false, reduceIte, Bool.false_eq_true, Bool.true_eq_false, eq_self, Nat.one_ne_zero, Nat.add_sub_cancel, not_true_eq_false, not_false_eq_true, h4, er, z4]
theorem jf_37 {d s p : Nat} {b : Nat → Nat} {I : Nat → Nat → Int32} {rho : Nat → Option Nat} {mu : List (Nat × Nat)} (hB : jz_B I b s) (h6 : I 30 6 = -nI 1) (h2 : I 30 2 = nI p) (hp : p ≤ s) :
    ∃ J, jm_ev (d + 7) 37 [.ref 30] (jm_hp I rho mu) = some (none, jm_hp J rho mu) ∧ jG jS_lx I J ∧ J 30 2 = nI (jz_e b s p) ∧ J 30 3 = jz_ct (jz_t b s p) (jz_v b s p) ∧ J 30 4 = nI (jz_r b s p) ∧ (jz_t b s p = 1 → J 30 5 = nI (jz_v b s p)) := by
  obtain ⟨b1, b2, b3, b4⟩ := id hB
  have e0 : jm_ev (d + 7) 37 [.ref 30] (jm_hp I rho mu) = jm_go (jm_ev (d + 6)) 37 (9, [some (.ref 30)], [], jm_hp (jm_up I 30 2 (nI p)) rho mu) := by
    rw [jx_upid h2]
    simp (disch := first | assumption | omega | exact jx_bz _ | exact jx_z0 | exact jx_z1 | (refine jx_ixB ?_ ?_; omega; omega) | (simp (disch := first | omega | fail) only [jx_lit, pk_mul, nI_add, nI_pred, pk_sub, jx_na, jx_add0, Nat.reduceMul, Nat.reduceAdd, Nat.reduceSub, Nat.reduceEqDiff, Nat.reduceLeDiff, Nat.reduceLT, h6]; refine jx_ixC ?_ ?_; omega; omega) | (simp (disch := first | omega | fail) only [jx_lit, pk_mul, nI_add, nI_pred, pk_sub, jx_na, jx_add0, Nat.reduceMul, Nat.reduceAdd, Nat.reduceSub, Nat.reduceEqDiff, Nat.reduceLeDiff, Nat.reduceLT, jx_cl, nI_leI, Nat.zero_le, true_and, h6]; omega) | fail) only [je_37, jb_37_0, jb_37_8, jb_37_20, jb_37_28, jb_37_31, jb_37_34, jb_37_47, jb_37_66, jb_37_74, jb_37_82, jb_37_85, jb_37_88, jb_37_93, jb_37_99, jb_37_107, jb_37_110, jb_37_113, jb_37_118, jb_37_124, jb_37_133, jb_37_136, jb_37_139, jb_37_147, jb_37_150, jb_37_151, jb_37_164, jx_nl, jx_nlr, jx_thenS, jx_tlS, jx_tlN, jm_ite_go, jx_rds, jx_rdn, jx_lit, pk_mul, nI_add, nI_pred, pk_sub, jx_na, jx_add0, Nat.reduceMul, Nat.reduceAdd, Nat.reduceSub, Nat.reduceEqDiff, Nat.reduceLeDiff, Nat.reduceLT, Nat.not_lt_zero, jx_cl, nI_leI, nI_ltI, nI_eq, jx_neg, jx_neg', jx_negE, jx_negL, jx_negG, jx_negLE, jx_negN, sb_nlt, sb_nle, jx_b0, jx_b1, jx_bT, jx_bF, ite_true, ite_false, if_true, if_false, reduceIte, Bool.false_eq_true, Bool.true_eq_false, eq_self, Nat.one_ne_zero, Nat.add_sub_cancel, not_true_eq_false, not_false_eq_true, h6]
  have lp := jz_sc_go (E := jm_ev (d + 6)) (y := 37) (Q := jz_bl) (b := b) (s := s) (fun k => (9, [some (.ref 30)], [], jm_hp (jm_up I 30 2 (nI k)) rho mu)) p (fun k hk hks hq => by
    have zn : ¬ s ≤ k := by omega
    have k26 := @jf_26 (d + 5) s k (jm_up I 30 2 (nI k)) rho mu (jz_B_up hB (by omega)).1 b2 hks
    rw [jx_rdn (by omega), b3 k hks] at k26
    have k41 := @jf_41 (d + 5) (b k) (jm_up I 30 2 (nI k)) rho mu (b4 k)
    rw [hq] at k41
    rw [jb_37_9]
    simp (disch := first | assumption | omega | exact jx_bz _ | exact jx_z0 | exact jx_z1 | (refine jx_ixB ?_ ?_; omega; omega) | (simp (disch := first | omega | fail) only [jx_lit, pk_mul, nI_add, nI_pred, pk_sub, jx_na, jx_add0, Nat.reduceMul, Nat.reduceAdd, Nat.reduceSub, Nat.reduceEqDiff, Nat.reduceLeDiff, Nat.reduceLT, b1, zn, k26, k41, jx_upup]; refine jx_ixC ?_ ?_; omega; omega) | (simp (disch := first | omega | fail) only [jx_lit, pk_mul, nI_add, nI_pred, pk_sub, jx_na, jx_add0, Nat.reduceMul, Nat.reduceAdd, Nat.reduceSub, Nat.reduceEqDiff, Nat.reduceLeDiff, Nat.reduceLT, jx_cl, nI_leI, Nat.zero_le, true_and, b1, zn, k26, k41, jx_upup]; omega) | fail) only [jb_37_0, jb_37_8, jb_37_20, jb_37_28, jb_37_31, jb_37_34, jb_37_47, jb_37_66, jb_37_74, jb_37_82, jb_37_85, jb_37_88, jb_37_93, jb_37_99, jb_37_107, jb_37_110, jb_37_113, jb_37_118, jb_37_124, jb_37_133, jb_37_136, jb_37_139, jb_37_147, jb_37_150, jb_37_151, jb_37_164, jx_nl, jx_nlr, jx_thenS, jx_tlS, jx_tlN, jm_ite_go, jx_rds, jx_rdn, jx_lit, pk_mul, nI_add, nI_pred, pk_sub, jx_na, jx_add0, Nat.reduceMul, Nat.reduceAdd, Nat.reduceSub, Nat.reduceEqDiff, Nat.reduceLeDiff, Nat.reduceLT, Nat.not_lt_zero, jx_cl, nI_leI, nI_ltI, nI_eq, jx_neg, jx_neg', jx_negE, jx_negL, jx_negG, jx_negLE, jx_negN, sb_nlt, sb_nle, jx_b0, jx_b1, jx_bT, jx_bF, ite_true, ite_false, if_true, if_false, reduceIte, Bool.false_eq_true, Bool.true_eq_false, eq_self, Nat.one_ne_zero, Nat.add_sub_cancel, not_true_eq_false, not_false_eq_true, b1, zn, k26, k41, jx_upup]) (s - p) p (Nat.le_refl _)
  rw [show jz_sc jz_bl b s (s - p) p = jz_r b s p from rfl] at lp
  have hr := jz_r_le b hp
  have hre := jz_r_end b hp
  obtain ⟨e', he⟩ : ∃ e', e' = jz_e b s p := ⟨_, rfl⟩
  obtain ⟨t', ht⟩ : ∃ t', t' = jz_t b s p := ⟨_, rfl⟩
  obtain ⟨v', hv⟩ : ∃ v', v' = jz_v b s p := ⟨_, rfl⟩
  rw [← he, ← ht, ← hv]
  unfold jz_t at ht
  unfold jz_v at hv
  rw [← he] at ht hv
  unfold jz_e at he
  generalize jz_r b s p = r at *
  have hB2 := jz_B_up (v := nI r) hB (show ¬ 2 = 1 by omega)
  have e1 : jm_go (jm_ev (d + 6)) 37 (9, [some (.ref 30)], [], jm_hp (jm_up I 30 2 (nI r)) rho mu) = jm_go (jm_ev (d + 6)) 37 (47, [some (.ref 30)], [], jm_hp (jm_up I 30 2 (nI r)) rho mu) := by
    rw [jb_37_9]
    by_cases zs : r < s
    · have zn : ¬ s ≤ r := by omega
      have hq : jz_bl (b r) = false := by
        cases q : jz_bl (b r) with
        | false => rfl
        | true => exact absurd ⟨zs, q⟩ hre
      have k26 := @jf_26 (d + 5) s r (jm_up I 30 2 (nI r)) rho mu hB2.1 b2 zs
      rw [jx_rdn (by omega), b3 r zs] at k26
      have k41 := @jf_41 (d + 5) (b r) (jm_up I 30 2 (nI r)) rho mu (b4 r)
      rw [hq] at k41
      simp (disch := first | assumption | omega | fail) only [jb_37_20, jb_37_28, jb_37_31, jx_thenS, jx_tlS, jm_ite_go, b1, zn, k26, k41, jx_rdn, jx_rds, jx_lit, nI_leI, jx_b0, if_true, if_false, ite_true, ite_false, jx_bF]
    · have zn : s ≤ r := by omega
      simp (disch := first | assumption | omega | fail) only [jx_rdn, jx_rds, b1, nI_leI, zn, if_true, ite_true]
  obtain ⟨F, hF⟩ : ∃ F, F = jm_up (jm_up I 30 2 (nI r)) 30 4 (nI r) := ⟨_, rfl⟩
  have hBF : jz_B F b s := by rw [hF]; exact jz_B_up hB2 (by omega)
  have F2 : F 30 2 = nI r := by rw [hF, jx_rdn (by omega), jx_rds]
  have F4 : F 30 4 = nI r := by rw [hF, jx_rds]
  have gF : jG jS_lx I F := by rw [hF]; exact jG_up (jG_up jG_rf (jS_lxY (by omega))) (jS_lxY (by omega))
  by_cases zs : r < s
  · rw [if_pos zs] at ht he
    have k26 := @jf_26 (d + 5) s r F rho mu hBF.1 b2 zs
    rw [hBF.2.2.1 r zs] at k26
    have k42 := @jf_42 (d + 5) (b r) F rho mu (b4 r)
    have e2 : jm_go (jm_ev (d + 6)) 37 (47, [some (.ref 30)], [], jm_hp (jm_up I 30 2 (nI r)) rho mu) = jm_go (jm_ev (d + 6)) 37 (74, [some (.ref 30)], [], jm_hp F rho mu) := by
      rw [hF]
      simp (disch := first | assumption | omega | fail) only [jb_37_47, jx_rdn, jx_rds, b1, nI_ltI, zs, if_true, ite_true]
    by_cases hl : jz_le (b r) = true
    · rw [if_pos hl] at ht he hv
      rw [hl] at k42
      have k39 := @jf_39 d s r b F rho mu hBF F2 F4 zs hl
      rw [← he, ← ht, ← hv] at k39
      refine ⟨jm_up (jm_up F 30 2 (nI (e'))) 30 3 (jz_ct (t') (v')), ?_, jG_up (jG_up gF (jS_lxY (by omega))) (jS_lxY (by omega)), ?_, ?_, ?_, fun h1 => ?_⟩
      · rw [e0, lp, e1, e2]
        simp (disch := first | assumption | omega | exact jx_bz _ | exact jx_z0 | exact jx_z1 | (refine jx_ixB ?_ ?_; omega; omega) | (simp (disch := first | omega | fail) only [jx_lit, pk_mul, nI_add, nI_pred, pk_sub, jx_na, jx_add0, Nat.reduceMul, Nat.reduceAdd, Nat.reduceSub, Nat.reduceEqDiff, Nat.reduceLeDiff, Nat.reduceLT, F2, k26, k42, k39]; refine jx_ixC ?_ ?_; omega; omega) | (simp (disch := first | omega | fail) only [jx_lit, pk_mul, nI_add, nI_pred, pk_sub, jx_na, jx_add0, Nat.reduceMul, Nat.reduceAdd, Nat.reduceSub, Nat.reduceEqDiff, Nat.reduceLeDiff, Nat.reduceLT, jx_cl, nI_leI, Nat.zero_le, true_and, F2, k26, k42, k39]; omega) | fail) only [jb_37_0, jb_37_8, jb_37_20, jb_37_28, jb_37_31, jb_37_34, jb_37_47, jb_37_66, jb_37_74, jb_37_82, jb_37_85, jb_37_88, jb_37_93, jb_37_99, jb_37_107, jb_37_110, jb_37_113, jb_37_118, jb_37_124, jb_37_133, jb_37_136, jb_37_139, jb_37_147, jb_37_150, jb_37_151, jb_37_164, jx_nl, jx_nlr, jx_thenS, jx_tlS, jx_tlN, jm_ite_go, jx_rds, jx_rdn, jx_lit, pk_mul, nI_add, nI_pred, pk_sub, jx_na, jx_add0, Nat.reduceMul, Nat.reduceAdd, Nat.reduceSub, Nat.reduceEqDiff, Nat.reduceLeDiff, Nat.reduceLT, Nat.not_lt_zero, jx_cl, nI_leI, nI_ltI, nI_eq, jx_neg, jx_neg', jx_negE, jx_negL, jx_negG, jx_negLE, jx_negN, sb_nlt, sb_nle, jx_b0, jx_b1, jx_bT, jx_bF, ite_true, ite_false, if_true, if_false, reduceIte, Bool.false_eq_true, Bool.true_eq_false, eq_self, Nat.one_ne_zero, Nat.add_sub_cancel, not_true_eq_false, not_false_eq_true, F2, k26, k42, k39]
      · rw [jx_rdn (by omega), jx_rds]
      · rw [jx_rds]
      · rw [jx_rdn (by omega), jx_rdn (by omega)]; exact F4
      · exfalso
        rw [ht] at h1
        unfold jz_tw at h1
        repeat' split at h1
        all_goals omega
    · have hl0 : jz_le (b r) = false := by simpa using hl
      rw [if_neg hl] at ht he hv
      rw [hl0] at k42
      have k43 := @jf_43 (d + 5) (b r) F rho mu (b4 r)
      by_cases hd : jz_di (b r) = true
      · rw [if_pos hd] at ht he
        rw [hd] at k43
        have k38 := @jf_38 (d + 4) s r b F rho mu hBF F2 F4 zs hd
        rw [← he, ← hv] at k38
        refine ⟨jm_up (jm_up (jm_up F 30 5 (nI (v'))) 30 2 (nI (e'))) 30 3 (jz_ct (t') (v')), ?_, jG_up (jG_up (jG_up gF (jS_lxY (by omega))) (jS_lxY (by omega))) (jS_lxY (by omega)), ?_, ?_, ?_, fun h1 => ?_⟩
        · rw [e0, lp, e1, e2]
          by_cases z4 : e' - r ≤ 4
          · rw [if_pos z4] at ht k38
            rw [ht]
            simp (disch := first | assumption | omega | exact jx_bz _ | exact jx_z0 | exact jx_z1 | (refine jx_ixB ?_ ?_; omega; omega) | (simp (disch := first | omega | fail) only [jx_lit, pk_mul, nI_add, nI_pred, pk_sub, jx_na, jx_add0, Nat.reduceMul, Nat.reduceAdd, Nat.reduceSub, Nat.reduceEqDiff, Nat.reduceLeDiff, Nat.reduceLT, F2, k26, k42, k43, k38, jz_ct]; refine jx_ixC ?_ ?_; omega; omega) | (simp (disch := first | omega | fail) only [jx_lit, pk_mul, nI_add, nI_pred, pk_sub, jx_na, jx_add0, Nat.reduceMul, Nat.reduceAdd, Nat.reduceSub, Nat.reduceEqDiff, Nat.reduceLeDiff, Nat.reduceLT, jx_cl, nI_leI, Nat.zero_le, true_and, F2, k26, k42, k43, k38, jz_ct]; omega) | fail) only [jb_37_0, jb_37_8, jb_37_20, jb_37_28, jb_37_31, jb_37_34, jb_37_47, jb_37_66, jb_37_74, jb_37_82, jb_37_85, jb_37_88, jb_37_93, jb_37_99, jb_37_107, jb_37_110, jb_37_113, jb_37_118, jb_37_124, jb_37_133, jb_37_136, jb_37_139, jb_37_147, jb_37_150, jb_37_151, jb_37_164, jx_nl, jx_nlr, jx_thenS, jx_tlS, jx_tlN, jm_ite_go, jx_rds, jx_rdn, jx_lit, pk_mul, nI_add, nI_pred, pk_sub, jx_na, jx_add0, Nat.reduceMul, Nat.reduceAdd, Nat.reduceSub, Nat.reduceEqDiff, Nat.reduceLeDiff, Nat.reduceLT, Nat.not_lt_zero, jx_cl, nI_leI, nI_ltI, nI_eq, jx_neg, jx_neg', jx_negE, jx_negL, jx_negG, jx_negLE, jx_negN, sb_nlt, sb_nle, jx_b0, jx_b1, jx_bT, jx_bF, ite_true, ite_false, if_true, if_false, reduceIte, Bool.false_eq_true, Bool.true_eq_false, eq_self, Nat.one_ne_zero, Nat.add_sub_cancel, not_true_eq_false, not_false_eq_true, F2, k26, k42, k43, k38, jz_ct]
          · rw [if_neg z4] at ht k38
            rw [ht]
            simp (disch := first | assumption | omega | exact jx_bz _ | exact jx_z0 | exact jx_z1 | (refine jx_ixB ?_ ?_; omega; omega) | (simp (disch := first | omega | fail) only [jx_lit, pk_mul, nI_add, nI_pred, pk_sub, jx_na, jx_add0, Nat.reduceMul, Nat.reduceAdd, Nat.reduceSub, Nat.reduceEqDiff, Nat.reduceLeDiff, Nat.reduceLT, F2, k26, k42, k43, k38, jz_ct]; refine jx_ixC ?_ ?_; omega; omega) | (simp (disch := first | omega | fail) only [jx_lit, pk_mul, nI_add, nI_pred, pk_sub, jx_na, jx_add0, Nat.reduceMul, Nat.reduceAdd, Nat.reduceSub, Nat.reduceEqDiff, Nat.reduceLeDiff, Nat.reduceLT, jx_cl, nI_leI, Nat.zero_le, true_and, F2, k26, k42, k43, k38, jz_ct]; omega) | fail) only [jb_37_0, jb_37_8, jb_37_20, jb_37_28, jb_37_31, jb_37_34, jb_37_47, jb_37_66, jb_37_74, jb_37_82, jb_37_85, jb_37_88, jb_37_93, jb_37_99, jb_37_107, jb_37_110, jb_37_113, jb_37_118, jb_37_124, jb_37_133, jb_37_136, jb_37_139, jb_37_147, jb_37_150, jb_37_151, jb_37_164, jx_nl, jx_nlr, jx_thenS, jx_tlS, jx_tlN, jm_ite_go, jx_rds, jx_rdn, jx_lit, pk_mul, nI_add, nI_pred, pk_sub, jx_na, jx_add0, Nat.reduceMul, Nat.reduceAdd, Nat.reduceSub, Nat.reduceEqDiff, Nat.reduceLeDiff, Nat.reduceLT, Nat.not_lt_zero, jx_cl, nI_leI, nI_ltI, nI_eq, jx_neg, jx_neg', jx_negE, jx_negL, jx_negG, jx_negLE, jx_negN, sb_nlt, sb_nle, jx_b0, jx_b1, jx_bT, jx_bF, ite_true, ite_false, if_true, if_false, reduceIte, Bool.false_eq_true, Bool.true_eq_false, eq_self, Nat.one_ne_zero, Nat.add_sub_cancel, not_true_eq_false, not_false_eq_true, F2, k26, k42, k43, k38, jz_ct]
        · rw [jx_rdn (by omega), jx_rds]
        · rw [jx_rds]
        · rw [jx_rdn (by omega), jx_rdn (by omega), jx_rdn (by omega)]; exact F4
        · rw [jx_rdn (by omega), jx_rdn (by omega), jx_rds]
      · have hd0 : jz_di (b r) = false := by simpa using hd
        rw [if_neg hd] at ht he
        rw [hd0] at k43
        have k44 := @jf_44 (d + 5) (b r) F rho mu (b4 r)
        refine ⟨jm_up (jm_up F 30 3 (jz_ct (t') (v'))) 30 2 (nI (e')), ?_, jG_up (jG_up gF (jS_lxY (by omega))) (jS_lxY (by omega)), ?_, ?_, ?_, fun h1 => ?_⟩
        · rw [e0, lp, e1, e2]
          by_cases hs : jz_si (b r) = true
          · rw [if_pos hs] at ht
            rw [hs] at k44
            have hb8 : 8 ≤ b r := by
              simp only [jz_si, Bool.or_eq_true, decide_eq_true_eq] at hs
              omega
            have ec : jz_ct (b r) (v') = nI (b r) := by
              unfold jz_ct
              rw [if_neg (by omega), if_neg (by omega), if_neg (by omega), if_neg (by omega), if_neg (by omega), if_neg (by omega), if_neg (by omega), if_neg (by omega)]
            rw [ht, ec, he]
            simp (disch := first | assumption | omega | exact jx_bz _ | exact jx_z0 | exact jx_z1 | (refine jx_ixB ?_ ?_; omega; omega) | (simp (disch := first | omega | fail) only [jx_lit, pk_mul, nI_add, nI_pred, pk_sub, jx_na, jx_add0, Nat.reduceMul, Nat.reduceAdd, Nat.reduceSub, Nat.reduceEqDiff, Nat.reduceLeDiff, Nat.reduceLT, F2, k26, k42, k43, k44]; refine jx_ixC ?_ ?_; omega; omega) | (simp (disch := first | omega | fail) only [jx_lit, pk_mul, nI_add, nI_pred, pk_sub, jx_na, jx_add0, Nat.reduceMul, Nat.reduceAdd, Nat.reduceSub, Nat.reduceEqDiff, Nat.reduceLeDiff, Nat.reduceLT, jx_cl, nI_leI, Nat.zero_le, true_and, F2, k26, k42, k43, k44]; omega) | fail) only [jb_37_0, jb_37_8, jb_37_20, jb_37_28, jb_37_31, jb_37_34, jb_37_47, jb_37_66, jb_37_74, jb_37_82, jb_37_85, jb_37_88, jb_37_93, jb_37_99, jb_37_107, jb_37_110, jb_37_113, jb_37_118, jb_37_124, jb_37_133, jb_37_136, jb_37_139, jb_37_147, jb_37_150, jb_37_151, jb_37_164, jx_nl, jx_nlr, jx_thenS, jx_tlS, jx_tlN, jm_ite_go, jx_rds, jx_rdn, jx_lit, pk_mul, nI_add, nI_pred, pk_sub, jx_na, jx_add0, Nat.reduceMul, Nat.reduceAdd, Nat.reduceSub, Nat.reduceEqDiff, Nat.reduceLeDiff, Nat.reduceLT, Nat.not_lt_zero, jx_cl, nI_leI, nI_ltI, nI_eq, jx_neg, jx_neg', jx_negE, jx_negL, jx_negG, jx_negLE, jx_negN, sb_nlt, sb_nle, jx_b0, jx_b1, jx_bT, jx_bF, ite_true, ite_false, if_true, if_false, reduceIte, Bool.false_eq_true, Bool.true_eq_false, eq_self, Nat.one_ne_zero, Nat.add_sub_cancel, not_true_eq_false, not_false_eq_true, F2, k26, k42, k43, k44]
          · have hs0 : jz_si (b r) = false := by simpa using hs
            rw [if_neg hs] at ht
            rw [hs0] at k44
            rw [ht, he]
            simp (disch := first | assumption | omega | exact jx_bz _ | exact jx_z0 | exact jx_z1 | (refine jx_ixB ?_ ?_; omega; omega) | (simp (disch := first | omega | fail) only [jx_lit, pk_mul, nI_add, nI_pred, pk_sub, jx_na, jx_add0, Nat.reduceMul, Nat.reduceAdd, Nat.reduceSub, Nat.reduceEqDiff, Nat.reduceLeDiff, Nat.reduceLT, F2, k26, k42, k43, k44, jz_ct]; refine jx_ixC ?_ ?_; omega; omega) | (simp (disch := first | omega | fail) only [jx_lit, pk_mul, nI_add, nI_pred, pk_sub, jx_na, jx_add0, Nat.reduceMul, Nat.reduceAdd, Nat.reduceSub, Nat.reduceEqDiff, Nat.reduceLeDiff, Nat.reduceLT, jx_cl, nI_leI, Nat.zero_le, true_and, F2, k26, k42, k43, k44, jz_ct]; omega) | fail) only [jb_37_0, jb_37_8, jb_37_20, jb_37_28, jb_37_31, jb_37_34, jb_37_47, jb_37_66, jb_37_74, jb_37_82, jb_37_85, jb_37_88, jb_37_93, jb_37_99, jb_37_107, jb_37_110, jb_37_113, jb_37_118, jb_37_124, jb_37_133, jb_37_136, jb_37_139, jb_37_147, jb_37_150, jb_37_151, jb_37_164, jx_nl, jx_nlr, jx_thenS, jx_tlS, jx_tlN, jm_ite_go, jx_rds, jx_rdn, jx_lit, pk_mul, nI_add, nI_pred, pk_sub, jx_na, jx_add0, Nat.reduceMul, Nat.reduceAdd, Nat.reduceSub, Nat.reduceEqDiff, Nat.reduceLeDiff, Nat.reduceLT, Nat.not_lt_zero, jx_cl, nI_leI, nI_ltI, nI_eq, jx_neg, jx_neg', jx_negE, jx_negL, jx_negG, jx_negLE, jx_negN, sb_nlt, sb_nle, jx_b0, jx_b1, jx_bT, jx_bF, ite_true, ite_false, if_true, if_false, reduceIte, Bool.false_eq_true, Bool.true_eq_false, eq_self, Nat.one_ne_zero, Nat.add_sub_cancel, not_true_eq_false, not_false_eq_true, F2, k26, k42, k43, k44, jz_ct]
        · rw [jx_rds]
        · rw [jx_rdn (by omega), jx_rds]
        · rw [jx_rdn (by omega), jx_rdn (by omega)]; exact F4
        · exfalso
          rw [ht] at h1
          split at h1
          · next hs =>
            simp only [jz_si, Bool.or_eq_true, decide_eq_true_eq] at hs
            omega
          · omega
  · rw [if_neg zs] at ht he
    refine ⟨jm_up F 30 3 (nI 2), ?_, jG_up gF (jS_lxY (by omega)), ?_, ?_, ?_, fun h1 => ?_⟩
    · rw [e0, lp, e1, hF]
      simp (disch := first | assumption | omega | exact jx_bz _ | exact jx_z0 | exact jx_z1 | (refine jx_ixB ?_ ?_; omega; omega) | (simp (disch := first | omega | fail) only [jx_lit, pk_mul, nI_add, nI_pred, pk_sub, jx_na, jx_add0, Nat.reduceMul, Nat.reduceAdd, Nat.reduceSub, Nat.reduceEqDiff, Nat.reduceLeDiff, Nat.reduceLT, b1, zs]; refine jx_ixC ?_ ?_; omega; omega) | (simp (disch := first | omega | fail) only [jx_lit, pk_mul, nI_add, nI_pred, pk_sub, jx_na, jx_add0, Nat.reduceMul, Nat.reduceAdd, Nat.reduceSub, Nat.reduceEqDiff, Nat.reduceLeDiff, Nat.reduceLT, jx_cl, nI_leI, Nat.zero_le, true_and, b1, zs]; omega) | fail) only [jb_37_0, jb_37_8, jb_37_20, jb_37_28, jb_37_31, jb_37_34, jb_37_47, jb_37_66, jb_37_74, jb_37_82, jb_37_85, jb_37_88, jb_37_93, jb_37_99, jb_37_107, jb_37_110, jb_37_113, jb_37_118, jb_37_124, jb_37_133, jb_37_136, jb_37_139, jb_37_147, jb_37_150, jb_37_151, jb_37_164, jx_nl, jx_nlr, jx_thenS, jx_tlS, jx_tlN, jm_ite_go, jx_rds, jx_rdn, jx_lit, pk_mul, nI_add, nI_pred, pk_sub, jx_na, jx_add0, Nat.reduceMul, Nat.reduceAdd, Nat.reduceSub, Nat.reduceEqDiff, Nat.reduceLeDiff, Nat.reduceLT, Nat.not_lt_zero, jx_cl, nI_leI, nI_ltI, nI_eq, jx_neg, jx_neg', jx_negE, jx_negL, jx_negG, jx_negLE, jx_negN, sb_nlt, sb_nle, jx_b0, jx_b1, jx_bT, jx_bF, ite_true, ite_false, if_true, if_false, reduceIte, Bool.false_eq_true, Bool.true_eq_false, eq_self, Nat.one_ne_zero, Nat.add_sub_cancel, not_true_eq_false, not_false_eq_true, b1, zs]
    · rw [jx_rdn (by omega), he]; exact F2
    · rw [jx_rds, ht]; rfl
    · rw [jx_rdn (by omega)]; exact F4
    · rw [ht] at h1; cases h1
