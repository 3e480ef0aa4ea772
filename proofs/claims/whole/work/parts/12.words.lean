/-! NUMBERS AND BITS, frames, loops (rows fa_ begin as the kit's paste text) -/
theorem jx_lit (n : Nat) : (OfNat.ofNat n : Int32) = nI (OfNat.ofNat n) := rfl
theorem jx_litL (n : Nat) : (OfNat.ofNat n : Int64) = lN (OfNat.ofNat n) := rfl
theorem fa_and (a b : Nat) : nI a &&& nI b = nI (a &&& b) := by
  apply Int32.toBitVec_inj.mp
  rw [Int32.toBitVec_and]
  show BitVec.ofNat 32 a &&& BitVec.ofNat 32 b = BitVec.ofNat 32 (a &&& b)
  apply BitVec.eq_of_toNat_eq
  simp [BitVec.toNat_and, Nat.and_mod_two_pow]
theorem fa_or (a b : Nat) : nI a ||| nI b = nI (a ||| b) := by
  apply Int32.toBitVec_inj.mp
  rw [Int32.toBitVec_or]
  show BitVec.ofNat 32 a ||| BitVec.ofNat 32 b = BitVec.ofNat 32 (a ||| b)
  apply BitVec.eq_of_toNat_eq
  simp [BitVec.toNat_or, Nat.or_mod_two_pow]
theorem fa_xor (a b : Nat) : nI a ^^^ nI b = nI (a ^^^ b) := by
  apply Int32.toBitVec_inj.mp
  rw [Int32.toBitVec_xor]
  show BitVec.ofNat 32 a ^^^ BitVec.ofNat 32 b = BitVec.ofNat 32 (a ^^^ b)
  apply BitVec.eq_of_toNat_eq
  simp [BitVec.toNat_xor, Nat.xor_mod_two_pow]
theorem jx_one : ∀ i, i < 31 → nI 1 <<< (nI i &&& nI 31) = nI (2 ^ i) := by decide +kernel
theorem jx_sm : ∀ i, i < 32 → ((nI i &&& 31).toBitVec.smod 32).toNat = i := by decide +kernel
def jx_b (b : Bool) : Int32 := if b then 1 else 0
theorem jx_bit {S i : Nat} (hS : S < 2 ^ 31) (hi : i < 32) : (nI S >>> (nI i &&& nI 31)) &&& nI 1 = jx_b (S.testBit i) := by
  show nI S >>> (nI i &&& 31) &&& 1 = jx_b (S.testBit i)
  rw [pk_shrN hS _ i (jx_sm i hi), pk_andN (n := S / 2 ^ i) (Nat.lt_of_le_of_lt (Nat.div_le_self _ _) (Nat.lt_of_lt_of_le hS (by decide))) 1 (by decide), Nat.testBit_eq_decide_div_mod_eq, jx_b]
  rcases Nat.mod_two_eq_zero_or_one (S / 2 ^ i) with h | h <;> rw [Nat.pow_one, h] <;> rfl
theorem jx_b0 {b : Bool} : (jx_b b = nI 0) = (b = false) := by cases b <;> simp [jx_b] <;> decide
theorem jx_b1 {b : Bool} : (jx_b b = nI 1) = (b = true) := by cases b <;> simp [jx_b] <;> decide
theorem jx_bz (b : Bool) : jm_z01 (jx_b b) = true := by cases b <;> rfl
theorem jx_z0 : jm_z01 (nI 0) = true := rfl
theorem jx_z1 : jm_z01 (nI 1) = true := rfl
theorem jx_bT : jx_b true = nI 1 := rfl
theorem jx_bF : jx_b false = nI 0 := rfl
theorem jx_cl {n : Nat} (h : n < 2 ^ 31) : (nI n).toNatClampNeg = n := nI_clamp h
theorem jx_ixA {x : Int32} {N : Nat} (k : Nat) (hx : x = nI k) (hk : k < N) (hN : N < 2 ^ 31) : 0 ≤ x ∧ x.toNatClampNeg < N := by
  subst hx
  have h : k < 2 ^ 31 := Nat.lt_trans hk hN
  exact ⟨nI_pos' h, by rw [nI_clamp h]; exact hk⟩
theorem jx_ixB {k N : Nat} (hk : k < N) (hN : N < 2 ^ 31) : 0 ≤ nI k ∧ (nI k).toNatClampNeg < N := jx_ixA k rfl hk hN
theorem jx_ixC {k N : Nat} (hk : k < N) (hN : N < 2 ^ 31) : nI 0 ≤ nI k ∧ (nI k).toNatClampNeg < N := jx_ixA k rfl hk hN
theorem jx_lt (x y : Int32) : x < y ↔ x.toInt < y.toInt := Int32.lt_iff_toInt_lt
theorem jx_le (x y : Int32) : x ≤ y ↔ x.toInt ≤ y.toInt := Int32.le_iff_toInt_le
theorem jx_ti {n : Nat} (h : n < 2 ^ 31) : (nI n).toInt = (n : Int) := nI_toInt h
theorem jx_ei (x y : Int32) : x = y ↔ x.toInt = y.toInt := ⟨fun h => by rw [h], fun h => Int32.toInt_inj.mp h⟩
theorem jx_tn {n : Nat} (h : n < 2 ^ 31) : (-nI n).toInt = -(n : Int) := sb_negT h
/-- a number from 0 on, below n -/
def jx_in (x : Int32) (n : Nat) : Bool := decide (nI 0 ≤ x) && decide (x < nI n)
theorem jx_in_nI {k n : Nat} (hk : k < 2 ^ 31) (hn : n < 2 ^ 31) : jx_in (nI k) n = decide (k < n) := by
  simp only [jx_in, nI_leI (by decide : 0 < 2 ^ 31) hk, nI_ltI hk hn, Nat.zero_le, decide_true, Bool.true_and]
theorem jx_in_neg {k n : Nat} (h0 : 0 < k) (hk : k < 2 ^ 31) : jx_in (-nI k) n = false := by
  have : ¬ nI 0 ≤ -nI k := by rw [jx_le, jx_ti (by decide), jx_tn hk]; omega
  simp [jx_in, this]
theorem jx_in_of {x : Int32} {n : Nat} (hn : n < 2 ^ 31) (h : jx_in x n = true) : ∃ k, k < n ∧ x = nI k := by
  simp only [jx_in, Bool.and_eq_true, decide_eq_true_eq] at h
  rcases pk_ix x hn with h1 | h1 | h1
  · exfalso
    have h2 := h.1
    rw [jx_lt] at h1; rw [jx_le] at h2
    have : (0 : Int32).toInt = (nI 0).toInt := rfl
    omega
  · exfalso
    have h2 := h.2
    rw [jx_le] at h1; rw [jx_lt] at h2; omega
  · exact h1
theorem jx_in_0 {x : Int32} {n : Nat} (h : x < nI 0) : jx_in x n = false := by
  have : ¬ nI 0 ≤ x := by rw [jx_le]; rw [jx_lt] at h; omega
  simp [jx_in, this]
theorem jx_in_n {x : Int32} {n : Nat} (h : nI n ≤ x) : jx_in x n = false := by
  have : ¬ x < nI n := by rw [jx_lt]; rw [jx_le] at h; omega
  simp [jx_in, this]
theorem jx_in_1 {x : Int32} {n : Nat} (h0 : ¬ x < nI 0) (h : ¬ nI n ≤ x) : jx_in x n = true := by
  have h1 : nI 0 ≤ x := by rw [jx_le]; rw [jx_lt] at h0; omega
  have h2 : x < nI n := by rw [jx_lt]; rw [jx_le] at h; omega
  simp [jx_in, h1, h2]
theorem jx_in_le {x : Int32} {n : Nat} (hn : n + 1 < 2 ^ 31) : (decide (nI 0 ≤ x) && decide (x ≤ nI n)) = jx_in x (n + 1) := by
  have : (x ≤ nI n) ↔ (x < nI (n + 1)) := by rw [jx_le, jx_lt, jx_ti (by omega), jx_ti hn]; omega
  simp only [jx_in, this]
theorem jx_in_pr {x : Int32} {n : Nat} (hn : n < 2 ^ 31) : (decide (nI 0 ≤ x) && decide (x ≤ nI n - nI 1)) = jx_in x n := by
  cases n with
  | zero =>
    have e : nI 0 - nI 1 = -nI 1 := by decide
    by_cases h : nI 0 ≤ x
    · have h1 : ¬ x ≤ nI 0 - nI 1 := by
        rw [e, jx_le, jx_tn (by decide)]; rw [jx_le, jx_ti (by decide)] at h; omega
      have h2 : ¬ x < nI 0 := by rw [jx_lt]; rw [jx_le] at h; omega
      simp [jx_in, h1, h2]
    · simp [jx_in, h]
  | succ n => rw [show nI (n + 1) - nI 1 = nI n from nI_pred n]; exact jx_in_le hn
theorem jx_neg {k n : Nat} (h0 : 0 < k) (hk : k < 2 ^ 31) (hn : n < 2 ^ 31) : (nI n = -nI k) = False := by
  exact eq_false (by rw [jx_ei, jx_ti hn, jx_tn hk]; omega)
theorem jx_neg' {k n : Nat} (h0 : 0 < k) (hk : k < 2 ^ 31) (hn : n < 2 ^ 31) : (-nI k = nI n) = False := by
  exact eq_false (by rw [jx_ei, jx_ti hn, jx_tn hk]; omega)
theorem jx_negE {k n : Nat} (hk : k < 2 ^ 31) (hn : n < 2 ^ 31) : (-nI k = -nI n) = (k = n) := by
  rw [eq_iff_iff, jx_ei, jx_tn hn, jx_tn hk]; omega
theorem jx_negL {k n : Nat} (h0 : 0 < k) (hk : k < 2 ^ 31) (hn : n < 2 ^ 31) : (-nI k < nI n) = True := by
  exact eq_true (by rw [jx_lt, jx_ti hn, jx_tn hk]; omega)
theorem jx_negG {k n : Nat} (h0 : 0 < k) (hk : k < 2 ^ 31) (hn : n < 2 ^ 31) : (nI n ≤ -nI k) = False := by
  exact eq_false (by rw [jx_le, jx_ti hn, jx_tn hk]; omega)
theorem jx_negLE {k n : Nat} (hk : k < 2 ^ 31) (hn : n < 2 ^ 31) : (-nI k ≤ nI n) = True := by
  exact eq_true (by rw [jx_le, jx_ti hn, jx_tn hk]; omega)
theorem jx_negN {k n : Nat} (hk : k < 2 ^ 31) (hn : n < 2 ^ 31) : (nI n < -nI k) = False := by
  exact eq_false (by rw [jx_lt, jx_ti hn, jx_tn hk]; omega)
theorem jx_na (k : Nat) : -nI (k + 1) + nI 1 = -nI k := by
  rw [nI_succ, show (1 : Int32) = nI 1 from rfl, Int32.neg_add, Int32.sub_eq_add_neg, Int32.add_assoc, Int32.add_left_neg, Int32.add_zero]
theorem jx_add0 {k : Nat} (h : 0 < k) : nI k + -nI 1 = nI (k - 1) := by
  rw [← pk_sub h, Int32.sub_eq_add_neg]
/-- a number between two -/
def js_bd (v lo hi : Int32) : Int32 := if v < lo then lo else if hi < v then hi else v
theorem js_bd_eq {v lo hi : Int32} (h : lo ≤ hi) : (if lo < (if v < hi then v else hi) then (if v < hi then v else hi) else lo) = js_bd v lo hi := by
  unfold js_bd
  rw [jx_le] at h
  by_cases h1 : v < lo
  · have h2 : v < hi := by rw [jx_lt] at h1 ⊢; omega
    have h3 : ¬ lo < v := by rw [jx_lt] at h1 ⊢; omega
    simp only [h1, h2, h3, if_true, if_false]
  · by_cases h2 : hi < v
    · have h3 : ¬ v < hi := by rw [jx_lt] at h2 ⊢; omega
      by_cases h4 : lo < hi
      · simp only [h1, h2, h3, h4, if_true, if_false]
      · have : lo = hi := by rw [jx_ei]; rw [jx_lt] at h4; omega
        simp only [h1, h2, h3, h4, if_true, if_false]; exact this
    · by_cases h3 : v < hi
      · by_cases h4 : lo < v
        · simp only [h1, h2, h3, h4, if_true, if_false]
        · have : lo = v := by rw [jx_ei]; rw [jx_lt] at h4 h1; omega
          simp only [h1, h2, h3, h4, if_true, if_false]; exact this
      · have e : v = hi := by rw [jx_ei]; rw [jx_lt] at h2 h3; omega
        subst e
        by_cases h4 : lo < v
        · simp only [h1, h2, h4, if_true, if_false]
        · have : lo = v := by rw [jx_ei]; rw [jx_lt] at h4 h1; omega
          simp only [h1, h2, h4, if_true, if_false]; exact this
theorem js_bd_in {v : Int32} {n : Nat} (hn : n + 1 < 2 ^ 31) : ∃ k, k < n + 1 ∧ js_bd v (nI 0) (nI n) = nI k := by
  unfold js_bd
  split
  · exact ⟨0, by omega, rfl⟩
  · split
    · exact ⟨n, by omega, rfl⟩
    · next h1 h2 =>
      refine jx_in_of hn (jx_in_1 h1 ?_)
      rw [jx_le, jx_ti hn]; rw [jx_lt, jx_ti (by omega)] at h2; omega
theorem js_bd_id {k n : Nat} (hk : k ≤ n) (hn : n < 2 ^ 31) : js_bd (nI k) (nI 0) (nI n) = nI k := by
  unfold js_bd
  rw [if_neg (by rw [nI_ltI (by omega) (by decide)]; omega), if_neg (by rw [nI_ltI (by omega) (by omega)]; omega)]
/-- the bits of a set of numbers below n -/
def jx_set (P : Nat → Bool) : Nat → Nat
  | 0 => 0
  | n + 1 => jx_set P n ||| (if P n then 2 ^ n else 0)
theorem jx_set_bit (P : Nat → Bool) : ∀ n i, (jx_set P n).testBit i = (decide (i < n) && P i) := by
  intro n
  induction n with
  | zero => intro i; simp [jx_set]
  | succ n ih =>
    intro i
    rw [jx_set, Nat.testBit_or, ih]
    by_cases hP : P n
    · rw [if_pos hP, Nat.testBit_two_pow]
      by_cases h : n = i
      · subst h; simp [hP]
      · have : (i < n + 1) ↔ i < n := by omega
        simp [h, this]
    · rw [if_neg hP, Nat.zero_testBit]
      by_cases h : n = i
      · subst h; simp [hP]
      · have : (i < n + 1) ↔ i < n := by omega
        simp [this]
theorem jx_set_lt (P : Nat → Bool) : ∀ n, jx_set P n < 2 ^ n := by
  intro n
  induction n with
  | zero => simp [jx_set]
  | succ n ih =>
    rw [jx_set]
    apply Nat.or_lt_two_pow
    · exact Nat.lt_of_lt_of_le ih (Nat.pow_le_pow_right (by decide) (by omega))
    · split
      · exact Nat.pow_lt_pow_right (by decide) (by omega)
      · exact Nat.two_pow_pos _
theorem jx_set_cong {P Q : Nat → Bool} : ∀ {n}, (∀ k, k < n → P k = Q k) → jx_set P n = jx_set Q n := by
  intro n
  induction n with
  | zero => intro _; rfl
  | succ n ih => intro h; rw [jx_set, jx_set, ih (fun k hk => h k (by omega)), h n (by omega)]
theorem jx_pow12 {n : Nat} (h : n ≤ 12) : 2 ^ n ≤ 4096 := Nat.le_trans (Nat.pow_le_pow_right (by decide) h) (by decide)
theorem jx_sN {S n : Nat} (h : S < 2 ^ n) (hn : n ≤ 12) : S < 2 ^ 31 := Nat.lt_of_lt_of_le h (Nat.le_trans (jx_pow12 hn) (by decide))
theorem jx_setN (P : Nat → Bool) {n : Nat} (h : n ≤ 12) : jx_set P n < 4096 := Nat.lt_of_lt_of_le (jx_set_lt P n) (jx_pow12 h)
theorem jx_setS (P : Nat → Bool) (n : Nat) : jx_set P (n + 1) = if P n then jx_set P n ||| 2 ^ n else jx_set P n := by
  rw [jx_set]; split <;> simp
/-- what is left of a call -/
theorem jx_thenS {v : Option Value} {h : jm_H} {k : Option Value → jm_H → jm_V} : jm_then (some (v, h)) k = k v h := rfl
theorem jx_tlS {v : Value} {st : List Value} : (some v).toList ++ st = v :: st := rfl
theorem jx_tlN {st : List Value} : (none : Option Value).toList ++ st = st := rfl
theorem jx_nl {x : Int32} : jm_nl (some (.int x)) = some (.int x) := rfl
theorem jx_nlr {x : Nat} : jm_nl (some (.ref x)) = some (.ref x) := rfl
/-- cells read behind a write -/
theorem jx_rds {I : Nat → Nat → Int32} {a k : Nat} {v : Int32} : jm_up I a k v a k = v := by simp [jm_up]
theorem jx_rdn {I : Nat → Nat → Int32} {a k x j : Nat} {v : Int32} (h : ¬ (x = a ∧ j = k)) : jm_up I a k v x j = I x j := by
  simp only [jm_up]
  by_cases h1 : x = a
  · by_cases h2 : j = k
    · exact absurd ⟨h1, h2⟩ h
    · rw [if_pos h1, if_neg h2]
  · rw [if_neg h1]
theorem jx_rd {I : Nat → Nat → Int32} {a k x j : Nat} {v : Int32} : jm_up I a k v x j = if x = a ∧ j = k then v else I x j := by
  by_cases h : x = a ∧ j = k
  · rw [if_pos h]; obtain ⟨rfl, rfl⟩ := h; exact jx_rds
  · rw [if_neg h]; exact jx_rdn h
/-- cells but for some stay -/
def jG (S : Nat → Nat → Bool) (I J : Nat → Nat → Int32) : Prop := ∀ a k, S a k = false → J a k = I a k
theorem jG_rf {S : Nat → Nat → Bool} {I : Nat → Nat → Int32} : jG S I I := fun _ _ _ => rfl
theorem jG_tr {S : Nat → Nat → Bool} {I J K : Nat → Nat → Int32} (h : jG S I J) (g : jG S J K) : jG S I K := fun a k q => (g a k q).trans (h a k q)
theorem jG_up {S : Nat → Nat → Bool} {I J : Nat → Nat → Int32} {a k : Nat} {v : Int32} (h : jG S I J) (hS : S a k = true) : jG S I (jm_up J a k v) := by
  intro x j q
  rw [jx_rdn (by rintro ⟨rfl, rfl⟩; rw [hS] at q; cases q)]
  exact h x j q
theorem jG_mo {S Z : Nat → Nat → Bool} {I J : Nat → Nat → Int32} (h : jG S I J) (g : ∀ a k, Z a k = false → S a k = false) : jG Z I J := fun a k q => h a k (g a k q)
/-- a loop whose turns are told -/
theorem jx_for {E : Nat → List Value → jm_H → jm_V} {y : Nat} {σ : Type} (n : Nat) (S : Nat → σ → jm_C) (Z : Nat → σ → Prop)
    (hs : ∀ k I, k < n → Z k I → ∃ J, jm_go E y (S k I) = jm_go E y (S (k + 1) J) ∧ Z (k + 1) J) :
    ∀ j k I, k + j = n → Z k I → ∃ J, jm_go E y (S k I) = jm_go E y (S n J) ∧ Z n J := by
  intro j
  induction j with
  | zero => intro k I hk hZ; have : k = n := by omega
            subst this; exact ⟨I, rfl, hZ⟩
  | succ j ih =>
    intro k I hk hZ
    obtain ⟨J, e, hJ⟩ := hs k I (by omega) hZ
    obtain ⟨K, e2, hK⟩ := ih (k + 1) J (by omega) hJ
    exact ⟨K, e.trans e2, hK⟩
theorem jx_for0 {E : Nat → List Value → jm_H → jm_V} {y : Nat} (n : Nat) (S : Nat → jm_C) (hs : ∀ k, k < n → jm_go E y (S k) = jm_go E y (S (k + 1))) : ∀ k, k ≤ n → jm_go E y (S 0) = jm_go E y (S k) := by
  intro k
  induction k with
  | zero => intro _; rfl
  | succ k ih => intro hk; rw [ih (by omega), hs k (by omega)]
/-- the first number with a property -/
theorem jx_least (P : Nat → Bool) (n : Nat) : (∃ k, k < n ∧ P k = true ∧ ∀ j, j < k → P j = false) ∨ (∀ j, j < n → P j = false) := by
  induction n with
  | zero => exact .inr (fun j h => absurd h (Nat.not_lt_zero _))
  | succ n ih =>
    rcases ih with ⟨k, h1, h2, h3⟩ | h
    · exact .inl ⟨k, by omega, h2, h3⟩
    · cases hP : P n with
      | true => exact .inl ⟨n, by omega, hP, h⟩
      | false => exact .inr (fun j hj => by
          rcases Nat.lt_succ_iff_lt_or_eq.mp hj with h1 | h1
          · exact h j h1
          · subst h1; exact hP)
