/-! WHAT THE CONSTRUCTORS LEAVE: the heap as the calls want it, and the law over it all -/
theorem jk_ftb {a k : Nat} : ∀ tl : List (Nat × Option (Nat × Nat)), (tl.all fun e => decide (e.1 < 80) && (match e.2 with | none => true | some q => decide (q.1 < 40))) = true → (80 ≤ a ∨ 40 ≤ k) → jk_ft tl a k = none := by
  intro tl
  induction tl with
  | nil => intro _ _; rfl
  | cons e l ih =>
    intro h hak
    rw [List.all_cons, Bool.and_eq_true, Bool.and_eq_true] at h
    obtain ⟨⟨h1, h2⟩, h3⟩ := h
    have h1 := of_decide_eq_true h1
    have h4 := ih h3 hak
    obtain ⟨b, o⟩ := e
    cases o with
    | none =>
      show jm_rr (jk_ft l) b (fun _ => none) a k = none
      rw [jm_rr]
      by_cases q : a = b
      · rw [if_pos q]
      · rw [if_neg q]; exact h4
    | some r =>
      obtain ⟨j, v⟩ := r
      have h2 : j < 40 := of_decide_eq_true h2
      have h1 : b < 80 := h1
      show jm_ur (jk_ft l) b j (some v) a k = none
      rw [jm_ur]
      by_cases q : a = b
      · rw [if_pos q, if_neg (by omega)]; exact h4
      · rw [if_neg q]; exact h4
theorem jn_Tb {a k : Nat} (h : 80 ≤ a ∨ 40 ≤ k) : jn_T (fun _ => none) a k = none := by
  unfold jn_T
  repeat' split
  all_goals first | rfl | (exfalso; omega)
theorem jk_T : jk_ft jk_T55 = jn_T (fun _ => none) := by
  funext a k
  by_cases h : 80 ≤ a ∨ 40 ≤ k
  · rw [jk_ftb _ (by decide +kernel) h, jn_Tb h]
  · have z : ∀ a, a < 80 → ∀ k, k < 40 → jk_ft jk_T55 a k = jn_T (fun _ => none) a k := by decide +kernel
    exact z a (by omega) k (by omega)
theorem jk_fib {I J : Nat → Nat → Int32} {a : Nat} : ∀ il : List (Nat × Option (Nat × Int32)), (il.any fun e => decide (e.1 = a) && (match e.2 with | none => true | some _ => false)) = true → jk_fi il I a = jk_fi il J a := by
  intro il
  induction il with
  | nil => intro h; cases h
  | cons e l ih =>
    intro h
    rw [List.any_cons, Bool.or_eq_true, Bool.and_eq_true] at h
    obtain ⟨b, o⟩ := e
    cases o with
    | none =>
      show jm_row (jk_fi l I) b (fun _ => 0) a = jm_row (jk_fi l J) b (fun _ => 0) a
      rw [jm_row, jm_row]
      by_cases q : a = b
      · rw [if_pos q, if_pos q]
      · rw [if_neg q, if_neg q]
        rcases h with h | h
        · exact absurd (of_decide_eq_true h.1).symm q
        · exact ih h
    | some r =>
      obtain ⟨j, v⟩ := r
      rcases h with h | h
      · cases h.2
      · funext k
        show jm_up (jk_fi l I) b j v a k = jm_up (jk_fi l J) b j v a k
        rw [jm_up, jm_up, ih h]
theorem jk_fif {I : Nat → Nat → Int32} {a : Nat} (ha : 80 ≤ a) : ∀ il : List (Nat × Option (Nat × Int32)), (il.all fun e => decide (e.1 < 80)) = true → jk_fi il I a = I a := by
  intro il
  induction il with
  | nil => intro _; rfl
  | cons e l ih =>
    intro h
    rw [List.all_cons, Bool.and_eq_true] at h
    have h1 := of_decide_eq_true h.1
    have h4 := ih h.2
    obtain ⟨b, o⟩ := e
    have h1 : b < 80 := h1
    cases o with
    | none =>
      show jm_row (jk_fi l I) b (fun _ => 0) a = I a
      rw [jm_row, if_neg (by omega), h4]
    | some r =>
      obtain ⟨j, v⟩ := r
      funext k
      show jm_up (jk_fi l I) b j v a k = I a k
      rw [jm_up, if_neg (by omega), h4]
/-- the same over nothing at all -/
abbrev jk_Z : Nat → Nat → Int32 := jk_fi jk_I176 (fun _ _ => 0)
theorem jk_IZ {I : Nat → Nat → Int32} {a : Nat} (ha : a < 80) : jk_fi jk_I176 I a = jk_Z a := by
  have z : ∀ a, a < 80 → (jk_I176.any fun e => decide (e.1 = a) && (match e.2 with | none => true | some _ => false)) = true := by decide +kernel
  exact jk_fib _ (z a ha)
theorem jk_IF {I : Nat → Nat → Int32} {a : Nat} (ha : 80 ≤ a) : jk_fi jk_I176 I a = I a := jk_fif ha _ (by decide +kernel)
def jk_cd (q : Nat) : List Nat := if q = 0 then [100003] else if q = 1 then [100001] else [100000]
abbrev jk_w : jW := (0, fun _ => 0, fun _ => 0, 0, 0, 0, jk_cd)
theorem jk_q3 {P : Nat → Prop} (h0 : P 0) (h1 : P 1) (h2 : P 2) : ∀ q, q < 3 → P q := fun q hq => by
  have : q = 0 ∨ q = 1 ∨ q = 2 := by omega
  rcases this with rfl | rfl | rfl <;> assumption
theorem jk_Xw : jXw jk_cd := by
  have c : ∀ z, z = 100003 ∨ z = 100001 ∨ z = 100000 → jv_code z := fun z hz => by unfold jv_code; omega
  refine ⟨by decide, jk_q3 ⟨by decide, fun z hz => c z ?_⟩ ⟨by decide, fun z hz => c z ?_⟩ ⟨by decide, fun z hz => c z ?_⟩⟩
  · have : z ∈ [100003] := hz
    rw [List.mem_singleton] at this; exact .inl this
  · have : z ∈ [100001] := hz
    rw [List.mem_singleton] at this; exact .inr (.inl this)
  · have : z ∈ [100000] := hz
    rw [List.mem_singleton] at this; exact .inr (.inr this)
theorem jk_j1 {P : Nat → Prop} (h0 : P 0) : ∀ q, q < 1 → P q := fun q hq => by
  have : q = 0 := by omega
  rw [this]; exact h0
theorem jk_Xc : jXc jk_Z 0 jk_cd := by
  refine jk_q3 ⟨by decide +kernel, ?_⟩ ⟨by decide +kernel, ?_⟩ ⟨by decide +kernel, ?_⟩
  all_goals exact jk_j1 (by decide +kernel)
theorem jk_Xm : jXm jk_Z 0 jk_cd := by
  refine ⟨by decide +kernel, jk_q3 ?_ ?_ ?_⟩
  all_goals exact jk_j1 (by decide +kernel)
theorem jk_VZ : jInv jk_Z (fun _ => none) [] jk_w 0 1 (fun _ => 0) (fun _ => 0) (fun _ => jk_cd) := by
  have n0 : ∀ {P : Nat → Prop}, ∀ p, p < 0 → P p := fun p hp => absurd hp (by omega)
  refine ⟨⟨⟨⟨by decide +kernel, by decide, by decide +kernel, by decide, n0⟩, by decide +kernel, by decide, by decide +kernel, by decide, jk_Xw, jk_Xc⟩, ⟨⟨by decide +kernel, by decide, by decide, n0⟩, by decide +kernel, by decide, by decide +kernel, by decide, jk_Xw, jk_Xm⟩⟩,
    ⟨by decide +kernel, by decide, by decide +kernel, n0, fun p q hp => absurd hp (by omega)⟩,
    ⟨by decide, by decide +kernel, by decide +kernel, by decide, rfl, jk_j1 ⟨jk_Xw, jk_Xc, jk_Xm⟩⟩,
    ⟨0, by decide, by decide +kernel, by decide +kernel, n0⟩, fun s hs => ?_, ⟨by decide +kernel, .inl (by decide +kernel)⟩, (show ∀ i, i < 96 → jk_Z 73 i = nI (jx_wds.getD i 0) by decide +kernel), fun q hq => by cases hq⟩
  have z : ∀ s, s < 4 → jk_Z (49 + 2 * s) 1 = nI 0 ∧ jk_Z 70 s = nI 0 ∧ jk_Z 69 s = jk_Z (49 + 2 * s) 0 ∧ jk_Z (49 + 2 * s) 0 = -nI 1 ∧ ∀ k, k < 40 → jk_Z 71 (40 * s + k) = jk_Z (50 + 2 * s) k := by decide +kernel
  obtain ⟨z1, z2, z3, z4, z5⟩ := z s hs
  exact ⟨0, by decide, z1, z2, z3, .inl ⟨z4, rfl⟩, z5⟩
theorem jk_V {I : Nat → Nat → Int32} : jV (jk_fi jk_I176 I) (fun _ => none) [] := by
  have g : jG (fun a _ => decide (80 ≤ a)) jk_Z (jk_fi jk_I176 I) := fun a k q => by
    have : a < 80 := by have := of_decide_eq_false q; omega
    rw [jk_IZ this]
  obtain ⟨h1, h2, h3, h4, h5, h6, h7, h8⟩ := jk_VZ
  have n0 : ∀ {P : Nat → Prop}, ∀ p, p < 0 → P p := fun p hp => absurd hp (by omega)
  have e : ∀ {a : Nat}, a < 80 → jk_fi jk_I176 I a = jk_Z a := fun ha => jk_IZ ha
  refine ⟨jk_w, 0, 1, fun _ => 0, fun _ => 0, fun _ => jk_cd, jR1_mo h1 g fun a k q => decide_eq_false (by omega), ⟨?_, by decide, ?_, n0, fun p q hp => absurd hp (by omega)⟩, jR3_mo h3 g fun a k q => decide_eq_false (by omega), ?_, jR5_mo h5 g fun a k q => decide_eq_false (by omega), jR6_mo h6 g (fun a k q => decide_eq_false (by omega)) (by decide) n0, jR7_mo h7 g fun k => decide_eq_false (by omega), h8⟩
  · rw [e (by decide)]; exact h2.1
  · rw [e (by decide)]; exact h2.2.2.1
  · exact ⟨0, by decide, by rw [e (by decide)]; decide +kernel, by rw [e (by decide)]; decide +kernel, n0⟩
theorem jk_wt : ∀ mu : List (Nat × Nat), jR8 mu → (mu.map jm_sz).sum ≤ 50 * mu.length := by
  intro mu
  induction mu with
  | nil => intro _; exact Nat.le_refl _
  | cons q l ih =>
    intro h
    have h1 := ih fun r hr => h r (List.mem_cons_of_mem _ hr)
    obtain ⟨h2, h3⟩ := h q List.mem_cons_self
    have z : ∀ k, k < 13 → (jm_fk.getD k []).length ≤ 50 := by decide
    have h4 : jm_sz q ≤ 50 := by rw [jm_sz, if_pos h3]; exact z _ h3
    rw [List.map_cons, List.sum_cons, List.length_cons]
    omega
theorem jm_law {L : Nat} {xs : Nat → Int32} (hL : L ≤ 3584) : ∃ h2 : jm_H, jm_go (jm_ev 1000) 245 (0, [some (.ref jm_SCR), none, none, none], [], jm_h0 L xs) = some (some (.int 1), h2) ∧ h2.2.2.length ≤ 600000 ∧ jm_wt h2 ≤ 7302250 := by
  have e1 : jm_go (jm_ev 1000) 245 (0, [some (.ref jm_SCR), none, none, none], [], jm_h0 L xs) = _ := jk_law (I0 := (jm_h0 L xs).1)
  have eM : jk_M46 = jn_M ++ [] := by decide +kernel
  have eH : jk_h (jm_h0 L xs).1 jk_I176 jk_T55 jk_M46 = jm_hp (jk_fi jk_I176 (jm_h0 L xs).1) (fun _ => none) [] := by
    show (jk_fi jk_I176 (jm_h0 L xs).1, jk_ft jk_T55, jk_M46) = _
    rw [jk_T, eM]
  have eL : jk_fi jk_I176 (jm_h0 L xs).1 jm_SCL 0 = nI L := by
    rw [jk_IF (by decide)]
    show (if jm_SCL = jm_SCR then xs 0 else if jm_SCL = jm_SCL then Int32.ofNat L else 0) = nI L
    rw [if_neg (by decide), if_pos rfl]
    rfl
  obtain ⟨H2, rho2, mu2, zg, ⟨w, m, tc, ad, kd, cds, zI⟩, zm⟩ := jlw_go 512 0 L _ _ _ (by omega) (by omega) hL eL jk_V (by decide)
  refine ⟨jm_hp H2 rho2 mu2, ?_, ?_, ?_⟩
  · rw [e1, eH]
    exact zg
  · rw [jlw_M0]
    omega
  · have h1 := jk_wt mu2 zI.2.2.2.2.2.2.2
    have h2 : (jn_M.map jm_sz).sum ≤ 100000 := by decide +kernel
    show ((jn_M ++ mu2).map jm_sz).sum ≤ _
    rw [List.map_append, List.sum_append]
    omega
