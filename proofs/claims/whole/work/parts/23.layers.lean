/-! WAYS: layers of houses, how far they are (nothing of the machine here) -/
def js_sd (w : jW) (k : Nat) : Nat := 2 ^ jwa w k ||| 2 ^ jwb w k
theorem js_sd_bit (w : jW) (k h : Nat) : (js_sd w k).testBit h = (decide (jwa w k = h) || decide (jwb w k = h)) := by
  unfold js_sd; rw [Nat.testBit_or, Nat.testBit_two_pow, Nat.testBit_two_pow]
/-- the houses one door further, doors below k -/
def js_fur (w : jW) (B hs : Nat) : Nat → Nat
  | 0 => hs
  | k + 1 => if B.testBit k = true ∧ ¬ hs &&& js_sd w k = 0 then js_fur w B hs k ||| js_sd w k else js_fur w B hs k
def js_lay (w : jW) (B f : Nat) : Nat → Nat
  | 0 => 2 ^ f
  | k + 1 => js_fur w B (js_lay w B f k) (jwn w)
theorem js_sd_ne {w : jW} {hs k : Nat} : ¬ hs &&& js_sd w k = 0 ↔ (hs.testBit (jwa w k) = true ∨ hs.testBit (jwb w k) = true) := by
  constructor
  · intro h
    obtain ⟨i, hi⟩ := Nat.exists_testBit_of_ne_zero h
    rw [Nat.testBit_and, js_sd_bit, Bool.and_eq_true, Bool.or_eq_true, decide_eq_true_eq, decide_eq_true_eq] at hi
    rcases hi.2 with q | q
    · left; rw [q]; exact hi.1
    · right; rw [q]; exact hi.1
  · rintro (h | h) e
    · have : (hs &&& js_sd w k).testBit (jwa w k) = true := by rw [Nat.testBit_and, js_sd_bit, h]; simp
      rw [e] at this; simp at this
    · have : (hs &&& js_sd w k).testBit (jwb w k) = true := by rw [Nat.testBit_and, js_sd_bit, h]; simp
      rw [e] at this; simp at this
theorem js_fur_bit (w : jW) (B hs : Nat) (h : Nat) : ∀ k, (js_fur w B hs k).testBit h = true ↔ (hs.testBit h = true ∨ ∃ e, e < k ∧ B.testBit e = true ∧ (hs.testBit (jwa w e) = true ∨ hs.testBit (jwb w e) = true) ∧ (jwa w e = h ∨ jwb w e = h)) := by
  intro k
  induction k with
  | zero => simp [js_fur]
  | succ k ih =>
    rw [js_fur]
    split
    next hc =>
      rw [Nat.testBit_or, Bool.or_eq_true, ih, js_sd_bit, Bool.or_eq_true, decide_eq_true_eq, decide_eq_true_eq]
      constructor
      · rintro ((q | ⟨e, h1, h2⟩) | q)
        · exact .inl q
        · exact .inr ⟨e, by omega, h2⟩
        · exact .inr ⟨k, by omega, hc.1, js_sd_ne.mp hc.2, q⟩
      · rintro (q | ⟨e, h1, h2, h3, h4⟩)
        · exact .inl (.inl q)
        · by_cases he : e = k
          · subst he; exact .inr h4
          · exact .inl (.inr ⟨e, by omega, h2, h3, h4⟩)
    next hc =>
      rw [ih]
      constructor
      · rintro (q | ⟨e, h1, h2⟩)
        · exact .inl q
        · exact .inr ⟨e, by omega, h2⟩
      · rintro (q | ⟨e, h1, h2, h3, h4⟩)
        · exact .inl q
        · by_cases he : e = k
          · subst he; exact absurd ⟨h2, js_sd_ne.mpr h3⟩ hc
          · exact .inr ⟨e, by omega, h2, h3, h4⟩
/-- houses lie below 8 -/
def jHs (w : jW) : Prop := ∀ k, k < jwn w → jwa w k < 8 ∧ jwb w k < 8
theorem js_sd_lt {w : jW} (hH : jHs w) {k : Nat} (hk : k < jwn w) : js_sd w k < 2 ^ 8 :=
  Nat.or_lt_two_pow (Nat.pow_lt_pow_right (by decide) (hH k hk).1) (Nat.pow_lt_pow_right (by decide) (hH k hk).2)
theorem js_fur_lt {w : jW} (hH : jHs w) {B hs : Nat} (h : hs < 2 ^ 8) : ∀ k, k ≤ jwn w → js_fur w B hs k < 2 ^ 8 := by
  intro k
  induction k with
  | zero => intro _; exact h
  | succ k ih => intro hk; rw [js_fur]; split
                 · exact Nat.or_lt_two_pow (ih (by omega)) (js_sd_lt hH (by omega))
                 · exact ih (by omega)
theorem js_lay_lt {w : jW} (hH : jHs w) {B f : Nat} (hf : f < 8) : ∀ k, js_lay w B f k < 2 ^ 8 := by
  intro k
  induction k with
  | zero => exact Nat.pow_lt_pow_right (by decide) hf
  | succ k ih => exact js_fur_lt hH ih _ (Nat.le_refl _)
theorem js_lay_up {w : jW} {B f k h : Nat} (q : (js_lay w B f k).testBit h = true) : (js_lay w B f (k + 1)).testBit h = true := (js_fur_bit _ _ _ _ _).mpr (.inl q)
theorem js_lay_le {w : jW} {B f h : Nat} : ∀ {j k : Nat}, j ≤ k → (js_lay w B f j).testBit h = true → (js_lay w B f k).testBit h = true := by
  intro j k
  induction k with
  | zero => intro hj q; have : j = 0 := by omega
            subst this; exact q
  | succ k ih =>
    intro hj q
    by_cases h1 : j = k + 1
    · subst h1; exact q
    · exact js_lay_up (ih (by omega) q)
theorem js_lay_by {w : jW} {B f k e : Nat} (he : e < jwn w) (hB : B.testBit e = true) (hq : (js_lay w B f k).testBit (jwa w e) = true ∨ (js_lay w B f k).testBit (jwb w e) = true) : (js_lay w B f (k + 1)).testBit (jwa w e) = true ∧ (js_lay w B f (k + 1)).testBit (jwb w e) = true :=
  ⟨(js_fur_bit _ _ _ _ _).mpr (.inr ⟨e, he, hB, hq, .inl rfl⟩), (js_fur_bit _ _ _ _ _).mpr (.inr ⟨e, he, hB, hq, .inr rfl⟩)⟩
theorem jx_cnt_mono {A B : Nat} (h : ∀ i, A.testBit i = true → B.testBit i = true) : ∀ k, jx_cnt A k ≤ jx_cnt B k := by
  intro k
  induction k with
  | zero => exact Nat.le_refl _
  | succ k ih =>
    rw [jx_cnt, jx_cnt]
    by_cases q : A.testBit k = true
    · rw [if_pos q, if_pos (h k q)]; omega
    · rw [if_neg q]; omega
theorem jx_cnt_more {A B i : Nat} (h : ∀ i, A.testBit i = true → B.testBit i = true) (hA : A.testBit i = false) (hB : B.testBit i = true) : ∀ k, i < k → jx_cnt A k < jx_cnt B k := by
  intro k
  induction k with
  | zero => intro q; omega
  | succ k ih =>
    intro hi
    rw [jx_cnt, jx_cnt]
    by_cases e : i = k
    · subst e
      rw [hA, hB]
      have := jx_cnt_mono h i
      simp; omega
    · have := ih (by omega)
      by_cases q : A.testBit k = true
      · rw [if_pos q, if_pos (h k q)]; omega
      · rw [if_neg q]; omega
theorem jx_bits_ne {A B n : Nat} (hA : A < 2 ^ n) (hB : B < 2 ^ n) (h : A ≠ B) : ∃ i, i < n ∧ A.testBit i ≠ B.testBit i := by
  apply Classical.byContradiction
  intro q
  apply h
  apply Nat.eq_of_testBit_eq
  intro i
  by_cases hi : i < n
  · exact Classical.byContradiction fun e => q ⟨i, hi, e⟩
  · rw [Nat.testBit_lt_two_pow (Nat.lt_of_lt_of_le hA (Nat.pow_le_pow_right (by decide) (by omega))), Nat.testBit_lt_two_pow (Nat.lt_of_lt_of_le hB (Nat.pow_le_pow_right (by decide) (by omega)))]
theorem js_lay_stop {w : jW} {B f k : Nat} (h : js_lay w B f (k + 1) = js_lay w B f k) : ∀ j, k ≤ j → js_lay w B f j = js_lay w B f k := by
  intro j
  induction j with
  | zero => intro q; have : k = 0 := by omega
            subst this; rfl
  | succ j ih =>
    intro q
    by_cases e : k = j + 1
    · subst e; rfl
    · have := ih (by omega)
      show js_fur w B (js_lay w B f j) (jwn w) = _
      rw [this]; exact h
theorem js_lay_8 {w : jW} (hH : jHs w) {B f : Nat} (hf : f < 8) : js_lay w B f 8 = js_lay w B f 7 := by
  apply Classical.byContradiction
  intro hne
  have step : ∀ k, k < 8 → jx_cnt (js_lay w B f k) 8 < jx_cnt (js_lay w B f (k + 1)) 8 := by
    intro k hk
    have h1 : js_lay w B f k ≠ js_lay w B f (k + 1) := by
      intro e
      have s := js_lay_stop e.symm
      exact hne ((s 8 (by omega)).trans (s 7 (by omega)).symm)
    obtain ⟨i, hi, hb⟩ := jx_bits_ne (js_lay_lt hH hf k) (js_lay_lt hH hf (k + 1)) h1
    cases hA : (js_lay w B f k).testBit i with
    | true => rw [hA, js_lay_up hA] at hb; exact absurd rfl hb
    | false =>
      cases hB : (js_lay w B f (k + 1)).testBit i with
      | false => rw [hA, hB] at hb; exact absurd rfl hb
      | true => exact jx_cnt_more (fun j q => js_lay_up q) hA hB 8 hi
  have h0 : 1 ≤ jx_cnt (js_lay w B f 0) 8 := by
    have : (js_lay w B f 0).testBit f = true := by show (2 ^ f).testBit f = true; rw [Nat.testBit_two_pow]; simp
    have := jx_cnt_more (A := 0) (fun i q => by simp at q) (Nat.zero_testBit f) this 8 hf
    omega
  have s0 : jx_cnt (js_lay w B f 0) 8 < jx_cnt (js_lay w B f 1) 8 := step 0 (by omega)
  have s1 : jx_cnt (js_lay w B f 1) 8 < jx_cnt (js_lay w B f 2) 8 := step 1 (by omega)
  have s2 : jx_cnt (js_lay w B f 2) 8 < jx_cnt (js_lay w B f 3) 8 := step 2 (by omega)
  have s3 : jx_cnt (js_lay w B f 3) 8 < jx_cnt (js_lay w B f 4) 8 := step 3 (by omega)
  have s4 : jx_cnt (js_lay w B f 4) 8 < jx_cnt (js_lay w B f 5) 8 := step 4 (by omega)
  have s5 : jx_cnt (js_lay w B f 5) 8 < jx_cnt (js_lay w B f 6) 8 := step 5 (by omega)
  have s6 : jx_cnt (js_lay w B f 6) 8 < jx_cnt (js_lay w B f 7) 8 := step 6 (by omega)
  have s7 : jx_cnt (js_lay w B f 7) 8 < jx_cnt (js_lay w B f 8) 8 := step 7 (by omega)
  have := jx_cnt_le (js_lay w B f 8) 8
  omega
/-- how far a house is after so many waves; -1: not reached -/
def js_ft (w : jW) (B f : Nat) : Nat → Nat → Int32
  | 0, h => if h = f then nI 0 else -nI 1
  | k + 1, h => if (js_lay w B f k).testBit h = true then js_ft w B f k h else if (js_lay w B f (k + 1)).testBit h = true then nI (k + 1) else -nI 1
theorem js_lay0 {w : jW} {B f h : Nat} : (js_lay w B f 0).testBit h = true ↔ h = f := by
  show (2 ^ f).testBit h = true ↔ _
  rw [Nat.testBit_two_pow, decide_eq_true_eq]; exact eq_comm
/-- reached, first after j doors -/
theorem js_ft_at {w : jW} {B f h j : Nat} (h1 : (js_lay w B f j).testBit h = true) (h2 : ∀ i, i < j → (js_lay w B f i).testBit h = false) : ∀ k, j ≤ k → js_ft w B f k h = nI j := by
  intro k
  induction k with
  | zero =>
    intro hk
    have : j = 0 := by omega
    subst this
    rw [js_ft, if_pos (js_lay0.mp h1)]
  | succ k ih =>
    intro hk
    rw [js_ft]
    by_cases e : j = k + 1
    · subst e
      rw [if_neg (by rw [h2 k (by omega)]; simp), if_pos h1]
    · rw [if_pos (js_lay_le (by omega) h1)]; exact ih (by omega)
theorem js_ft_no {w : jW} {B f h k : Nat} (h1 : (js_lay w B f k).testBit h = false) : js_ft w B f k h = -nI 1 := by
  cases k with
  | zero => rw [js_ft, if_neg (fun e => by rw [js_lay0.mpr e] at h1; cases h1)]
  | succ k =>
    rw [js_ft, if_neg (fun e => by rw [js_lay_up e] at h1; cases h1), if_neg (by rw [h1]; simp)]
theorem js_ft_yes {w : jW} {B f h k : Nat} (h1 : (js_lay w B f k).testBit h = true) : ∃ j, j ≤ k ∧ js_ft w B f k h = nI j ∧ (js_lay w B f j).testBit h = true ∧ ∀ i, i < j → (js_lay w B f i).testBit h = false := by
  rcases jx_least (fun i => (js_lay w B f i).testBit h) (k + 1) with ⟨j, hj, hp, hl⟩ | hn
  · exact ⟨j, by omega, js_ft_at hp hl k (by omega), hp, hl⟩
  · have := hn k (by omega); rw [h1] at this; cases this
theorem js_ft_neg {w : jW} {B f h k : Nat} (hk : k < 2 ^ 31) : js_ft w B f k h = -nI 1 ↔ (js_lay w B f k).testBit h = false := by
  cases q : (js_lay w B f k).testBit h with
  | false => simp [js_ft_no q]
  | true =>
    obtain ⟨j, hj, e, -⟩ := js_ft_yes q
    rw [e]
    have : ¬ nI j = -nI 1 := by rw [jx_neg (by omega) (by omega) (by omega)]; exact id
    simp [this]
/-- who is reached in the last wave alone has been last -/
theorem js_ft_last {w : jW} {B f h k : Nat} (h1 : (js_lay w B f k).testBit h = true) (h2 : ∀ i, i < k → (js_lay w B f i).testBit h = false) : js_ft w B f k h = nI k := js_ft_at h1 h2 k (Nat.le_refl _)
