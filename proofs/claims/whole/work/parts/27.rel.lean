/-! WHAT HOLDS between the class's cells and the reference's, between calls -/
/-- cells on which the two reckon -/
def jKp (a k : Nat) : Prop := a = 5 ∨ a = 9 ∨ a = 13 ∨ a = 17 ∨ a = 21 ∨ a = 25 ∨ a = 29 ∨ (43 ≤ a ∧ a < 49) ∨ (a = 30 ∧ 2 ≤ k ∧ k < 7) ∨ (74 ≤ a ∧ a < 80) ∨ (a = 57 ∧ (22 ≤ k ∧ k < 26 ∨ 28 ≤ k ∧ k < 31 ∨ 36 ≤ k ∧ k < 39))
noncomputable def jK : Nat → Nat → Bool := fun a k => @decide (jKp a k) (Classical.propDecidable _)
theorem jK_N {a k : Nat} (h : jK a k = false) : ¬ jKp a k := by
  unfold jK at h; exact @of_decide_eq_false _ (Classical.propDecidable _) h
theorem jK_Y {a k : Nat} (h : jKp a k) : jK a k = true := by
  unfold jK; exact @decide_eq_true _ (Classical.propDecidable _) h
theorem jK_Z {a k : Nat} (h : ¬ jKp a k) : jK a k = false := by
  unfold jK; exact @decide_eq_false _ (Classical.propDecidable _) h
theorem jG_K {S : Nat → Nat → Bool} {I J : Nat → Nat → Int32} (h : jG S I J) (g : ∀ a k, S a k = true → jKp a k) : jG jK I J := jG_mo h fun a k q => by
  cases r : S a k with
  | false => rfl
  | true => exact absurd (g a k r) (jK_N q)
theorem jG_Kst {I J : Nat → Nat → Int32} (h : jG jS_st I J) : jG jK I J := jG_K h fun a k q => by
  simp only [jS_st, Bool.or_eq_true, beq_iff_eq] at q; unfold jKp; omega
theorem jG_Km {I J : Nat → Nat → Int32} (h : jG jS_m I J) : jG jK I J := jG_K h fun a k q => by
  have := of_decide_eq_true q; unfold jKp; omega
theorem jG_K5 {I J : Nat → Nat → Int32} (h : jG jS_5 I J) : jG jK I J := jG_K h fun a k q => by
  have := of_decide_eq_true q; unfold jKp; omega
theorem jG_Kat {x : Nat} {I J : Nat → Nat → Int32} (h : jG (jS_at x) I J) (hx : ∀ k, jKp x k) : jG jK I J := jG_K h fun a k q => by
  have := of_decide_eq_true q; subst this; exact hx k
/-- the town -/
def jR1 (H : Nat → Nat → Int32) (w : jW) : Prop := jCt H w ∧ jMt H w
/-- the people -/
def jR2 (H : Nat → Nat → Int32) (rho : Nat → Option Nat) (mu : List (Nat × Nat)) (n m : Nat) (ad kd : Nat → Nat) : Prop :=
  H 0 3 = nI m ∧ m ≤ 6 ∧ H 57 0 = nI m ∧ (∀ p, p < m → rho p = some (ad p) ∧ jO mu (ad p) (kd p) ∧ 80 ≤ ad p ∧ ad p < 80 + mu.length ∧ H (ad p) 0 = nI (kd p) ∧ jPv n (H (ad p)) ∧ jQ H p (kd p) (H (ad p))) ∧ ∀ p q, p < m → q < m → ad p = ad q → p = q
/-- the texts -/
def jR3 (H : Nat → Nat → Int32) (w : jW) (tc : Nat) (cds : Nat → Nat → List Nat) : Prop :=
  tc ≤ 6 ∧ H 1 6 = nI tc ∧ H 57 13 = nI tc ∧ jwl w < tc ∧ jwc w = cds (jwl w) ∧ ∀ t, t < tc → jXw (cds t) ∧ jXc H t (cds t) ∧ jXm H t (cds t)
/-- the tape -/
def jR4 (H : Nat → Nat → Int32) : Prop := ∃ s, s ≤ 160 ∧ H 30 1 = nI s ∧ H 57 10 = nI s ∧ ∀ k, k < s → H 64 k = H 31 k ∧ jx_in (H 31 k) 256 = true
/-- the sheets -/
def jR5 (H : Nat → Nat → Int32) : Prop := ∀ s, s < 4 → ∃ z, z ≤ 40 ∧ H (49 + 2 * s) 1 = nI z ∧ H 70 s = nI z ∧ H 69 s = H (49 + 2 * s) 0 ∧ (H (49 + 2 * s) 0 = -nI 1 ∧ z = 0 ∨ ∃ q, q < 3 ∧ H (49 + 2 * s) 0 = nI q) ∧ ∀ k, k < 40 → H 71 (40 * s + k) = H (50 + 2 * s) k
/-- the image -/
def jR6 (H : Nat → Nat → Int32) (w : jW) (m tc : Nat) (ad : Nat → Nat) : Prop :=
  H 35 0 = H 57 15 ∧ (H 35 0 = nI 0 ∨ H 35 0 = nI 1 ∧ ∃ n S y l q, n ≤ jwn w ∧ S < 2 ^ n ∧ y < 1000 ∧ l < tc ∧ q ≤ m ∧
    H 35 1 = nI n ∧ H 35 2 = nI S ∧ H 35 3 = nI y ∧ H 35 4 = nI l ∧ H 35 5 = nI q ∧ H 68 0 = nI q ∧ H 68 1 = nI n ∧ H 68 2 = nI y ∧ H 68 3 = nI l ∧
    (∀ k, k < n → H 67 (24 + k) = nI (jwa w k) ∧ H 67 (36 + k) = nI (jwb w k) ∧ H 67 (48 + k) = jx_b (S.testBit k)) ∧
    ∀ p, p < q → jPv n (H (37 + p)) ∧ H (37 + p) 1 = H (ad p) 1 ∧ H 67 (4 * p) = H (37 + p) 2 ∧ H 67 (4 * p + 1) = H (37 + p) 3 ∧ H 67 (4 * p + 2) = H (37 + p) 4 ∧ H 67 (4 * p + 3) = H (37 + p) 5)
/-- the reference's words -/
def jx_wds : List Nat := [103, 97, 105, 110, 115, 32, 32, 32, 100, 97, 114, 101, 115, 32, 32, 32, 108, 101, 97, 118, 101, 115, 32, 32, 108, 117, 99, 107, 32, 32, 32, 32, 100, 111, 111, 114, 32, 32, 32, 32, 104, 111, 117, 115, 101, 32, 32, 32, 100, 97, 121, 32, 32, 32, 32, 32, 111, 112, 101, 110, 101, 100, 32, 32, 109, 111, 114, 101, 32, 32, 32, 32, 111, 114, 32, 32, 32, 32, 32, 32, 97, 110, 100, 32, 32, 32, 32, 32, 110, 111, 116, 32, 32, 32, 32, 32]
def jR7 (H : Nat → Nat → Int32) : Prop := ∀ i, i < 96 → H 73 i = nI (jx_wds.getD i 0)
/-- the new ones are people alone -/
def jR8 (mu : List (Nat × Nat)) : Prop := ∀ q, q ∈ mu → q.2 = 0 ∧ q.1 < 13
def jInv (H : Nat → Nat → Int32) (rho : Nat → Option Nat) (mu : List (Nat × Nat)) (w : jW) (m tc : Nat) (ad kd : Nat → Nat) (cds : Nat → Nat → List Nat) : Prop :=
  jR1 H w ∧ jR2 H rho mu (jwn w) m ad kd ∧ jR3 H w tc cds ∧ jR4 H ∧ jR5 H ∧ jR6 H w m tc ad ∧ jR7 H ∧ jR8 mu
def jV (H : Nat → Nat → Int32) (rho : Nat → Option Nat) (mu : List (Nat × Nat)) : Prop := ∃ w m tc ad kd cds, jInv H rho mu w m tc ad kd cds
/-! what does not touch it keeps it -/
theorem jR1_mo {S : Nat → Nat → Bool} {H K : Nat → Nat → Int32} {w : jW} (h : jR1 H w) (g : jG S H K) (hS : ∀ a k, (1 ≤ a ∧ a < 4 ∨ a = 7 ∨ a = 8 ∨ a = 11 ∨ a = 12 ∨ a = 15 ∨ a = 16 ∨ a = 19 ∨ a = 20 ∨ a = 23 ∨ a = 24 ∨ a = 27 ∨ a = 28 ∨ 61 ≤ a ∧ a < 67 ∨ a = 57 ∧ (k = 7 ∨ k = 8 ∨ k = 14)) → S a k = false) : jR1 K w :=
  ⟨jCt_mo h.1 g fun a k q => hS a k (by simp only [jS_tw, Bool.or_eq_true, beq_iff_eq] at q; omega), jMt_mo h.2 g fun a k q => hS a k (by omega)⟩
theorem jQ_S {S : Nat → Nat → Bool} {I J : Nat → Nat → Int32} {p kd : Nat} {P : Nat → Int32} (h : jQ I p kd P) (g : jG S I J) (hS : ∀ a k, 58 ≤ a ∧ a < 61 → S a k = false) : jQ J p kd P :=
  jQ_e h fun a ha => jG_o g fun k => hS a k ha
theorem jR2_mo {S : Nat → Nat → Bool} {H K : Nat → Nat → Int32} {rho : Nat → Option Nat} {mu : List (Nat × Nat)} {n m : Nat} {ad kd : Nat → Nat} (h : jR2 H rho mu n m ad kd) (g : jG S H K) (hS : ∀ a k, (a = 0 ∧ k = 3 ∨ 80 ≤ a ∧ a < 900000 ∨ 58 ≤ a ∧ a < 61 ∨ a = 57 ∧ k = 0) → S a k = false) (hmu : mu.length < 800000) : jR2 K rho mu n m ad kd := by
  obtain ⟨h1, h2, h3, h4, h5⟩ := h
  refine ⟨by rw [g 0 3 (hS _ _ (by omega))]; exact h1, h2, by rw [g 57 0 (hS _ _ (by omega))]; exact h3, fun p hp => ?_, h5⟩
  obtain ⟨a1, a2, a3, a4, a5, a6, a7⟩ := h4 p hp
  have e : K (ad p) = H (ad p) := jG_o g fun k => hS _ _ (by omega)
  rw [e]
  exact ⟨a1, a2, a3, a4, a5, a6, jQ_S a7 g fun a k q => hS a k (by omega)⟩
theorem jR3_mo {S : Nat → Nat → Bool} {H K : Nat → Nat → Int32} {w : jW} {tc : Nat} {cds : Nat → Nat → List Nat} (h : jR3 H w tc cds) (g : jG S H K) (hS : ∀ a k, (a = 1 ∧ k = 6 ∨ a = 7 ∨ a = 8 ∨ a = 11 ∨ a = 12 ∨ a = 15 ∨ a = 16 ∨ a = 19 ∨ a = 20 ∨ a = 23 ∨ a = 24 ∨ a = 27 ∨ a = 28 ∨ a = 57 ∧ k = 13 ∨ a = 65 ∨ a = 66) → S a k = false) : jR3 K w tc cds := by
  obtain ⟨h1, h2, h3, h4, h5, h6⟩ := h
  refine ⟨h1, by rw [g 1 6 (hS _ _ (by omega))]; exact h2, by rw [g 57 13 (hS _ _ (by omega))]; exact h3, h4, h5, fun t ht => ?_⟩
  obtain ⟨a1, a2, a3⟩ := h6 t ht
  have ht6 : t < 6 := by omega
  refine ⟨a1, ?_, ?_⟩
  · unfold jXc
    rw [jG_o (o := 8 + 4 * t) g fun k => hS _ _ (by omega), jG_o (o := 7 + 4 * t) g fun k => hS _ _ (by omega)]; exact a2
  · unfold jXm
    rw [jG_o (o := 66) g fun k => hS _ _ (by omega), jG_o (o := 65) g fun k => hS _ _ (by omega)]; exact a3
theorem jR4_mo {S : Nat → Nat → Bool} {H K : Nat → Nat → Int32} (h : jR4 H) (g : jG S H K) (hS : ∀ a k, (a = 30 ∧ k = 1 ∨ a = 31 ∨ a = 57 ∧ k = 10 ∨ a = 64) → S a k = false) : jR4 K := by
  obtain ⟨s, h1, h2, h3, h4⟩ := h
  refine ⟨s, h1, by rw [g _ _ (hS _ _ (by omega))]; exact h2, by rw [g _ _ (hS _ _ (by omega))]; exact h3, fun k hk => ?_⟩
  rw [g _ _ (hS _ _ (by omega)), g _ _ (hS _ _ (by omega))]; exact h4 k hk
theorem jR5_mo {S : Nat → Nat → Bool} {H K : Nat → Nat → Int32} (h : jR5 H) (g : jG S H K) (hS : ∀ a k, (49 ≤ a ∧ a < 57 ∨ 69 ≤ a ∧ a < 72) → S a k = false) : jR5 K := by
  intro s hs
  obtain ⟨z, h1, h2, h3, h4, h5, h6⟩ := h s hs
  refine ⟨z, h1, by rw [g _ _ (hS _ _ (by omega))]; exact h2, by rw [g _ _ (hS _ _ (by omega))]; exact h3, by rw [g _ _ (hS _ _ (by omega)), g _ _ (hS _ _ (by omega))]; exact h4, by rw [g _ _ (hS _ _ (by omega))]; exact h5, fun k hk => ?_⟩
  rw [g _ _ (hS _ _ (by omega)), g _ _ (hS _ _ (by omega))]; exact h6 k hk
theorem jR6_mo {S : Nat → Nat → Bool} {H K : Nat → Nat → Int32} {w : jW} {m tc : Nat} {ad : Nat → Nat} (h : jR6 H w m tc ad) (g : jG S H K) (hS : ∀ a k, (a = 35 ∨ 37 ≤ a ∧ a < 43 ∨ a = 57 ∧ k = 15 ∨ a = 67 ∨ a = 68) → S a k = false) (hm : m ≤ 6) (hp : ∀ p, p < m → S (ad p) 1 = false) : jR6 K w m tc ad := by
  obtain ⟨h1, h2⟩ := h
  have e35 : ∀ k, K 35 k = H 35 k := fun k => g _ _ (hS _ _ (by omega))
  have e67 : ∀ k, K 67 k = H 67 k := fun k => g _ _ (hS _ _ (by omega))
  have e68 : ∀ k, K 68 k = H 68 k := fun k => g _ _ (hS _ _ (by omega))
  unfold jR6
  simp only [e35, e67, e68, g 57 15 (hS _ _ (by omega))]
  refine ⟨h1, ?_⟩
  rcases h2 with h2 | ⟨h2, n, S2, y, l, q, b1, b2, b3, b4, b5, b6, b7, b8, b9, b10, b11, b12, b13, b14, b15, b16⟩
  · exact .inl h2
  · refine .inr ⟨h2, n, S2, y, l, q, b1, b2, b3, b4, b5, b6, b7, b8, b9, b10, b11, b12, b13, b14, b15, fun p hp2 => ?_⟩
    rw [jG_o (o := 37 + p) g fun k => hS _ _ (by omega), g (ad p) 1 (hp p (by omega))]
    exact b16 p hp2
theorem jR7_mo {S : Nat → Nat → Bool} {H K : Nat → Nat → Int32} (h : jR7 H) (g : jG S H K) (hS : ∀ k, S 73 k = false) : jR7 K := fun i hi => by
  rw [g 73 i (hS _)]; exact h i hi
theorem jInv_K {H K : Nat → Nat → Int32} {rho : Nat → Option Nat} {mu : List (Nat × Nat)} {w : jW} {m tc : Nat} {ad kd : Nat → Nat} {cds : Nat → Nat → List Nat} (h : jInv H rho mu w m tc ad kd cds) (g : jG jK H K) (hmu : mu.length < 800000) : jInv K rho mu w m tc ad kd cds := by
  obtain ⟨h1, h2, h3, h4, h5, h6, h7, h8⟩ := h
  refine ⟨jR1_mo h1 g fun a k q => jK_Z (by unfold jKp; omega), jR2_mo h2 g (fun a k q => jK_Z (by unfold jKp; omega)) hmu, jR3_mo h3 g fun a k q => jK_Z (by unfold jKp; omega), jR4_mo h4 g fun a k q => jK_Z (by unfold jKp; omega), jR5_mo h5 g fun a k q => jK_Z (by unfold jKp; omega), jR6_mo h6 g (fun a k q => jK_Z (by unfold jKp; omega)) h2.2.1 fun p hp => jK_Z (by have := (h2.2.2.2.1 p hp).2.2.1; unfold jKp; omega), jR7_mo h7 g fun k => jK_Z (by unfold jKp; omega), h8⟩
/-- a call of both: they answer alike, and it holds again -/
def jCall (yc ym : Nat) (args : List Value) : Prop := ∀ (d : Nat) (H : Nat → Nat → Int32) (rho : Nat → Option Nat) (mu : List (Nat × Nat)), jV H rho mu → mu.length < 700000 →
  ∃ v H1 H2 rho2 mu2, jm_ev (d + 60) yc (.ref 0 :: args) (jm_hp H rho mu) = some (some v, jm_hp H1 rho2 mu2) ∧ jm_ev (d + 60) ym (.ref 57 :: args) (jm_hp H1 rho2 mu2) = some (some v, jm_hp H2 rho2 mu2) ∧ jV H2 rho2 mu2 ∧ mu2.length ≤ mu.length + 6 ∧ ∀ a, 900000 ≤ a → H2 a = H a
/-- it is a number -/
theorem jK_scr {H K : Nat → Nat → Int32} (g : jG jK H K) {a : Nat} (ha : 900000 ≤ a) : K a = H a := jG_o g fun k => jK_Z (by unfold jKp; omega)
/-- what is asked changes cells of reckoning alone -/
theorem jCall_ask {yc ym : Nat} {args : List Value} (h : ∀ (d : Nat) (H : Nat → Nat → Int32) (rho : Nat → Option Nat) (mu : List (Nat × Nat)) (w : jW) (m tc : Nat) (ad kd : Nat → Nat) (cds : Nat → Nat → List Nat), jInv H rho mu w m tc ad kd cds → mu.length < 700000 →
    ∃ v H1, (jm_ev (d + 60) yc (.ref 0 :: args) (jm_hp H rho mu) = some (some v, jm_hp H1 rho mu) ∧ jG jK H H1) ∧ ∃ H2, jm_ev (d + 60) ym (.ref 57 :: args) (jm_hp H1 rho mu) = some (some v, jm_hp H2 rho mu) ∧ jG jK H1 H2) : jCall yc ym args := by
  intro d H rho mu hV hmu
  obtain ⟨w, m, tc, ad, kd, cds, hI⟩ := hV
  obtain ⟨v, H1, ⟨e1, g1⟩, H2, e2, g2⟩ := h d H rho mu w m tc ad kd cds hI hmu
  have g := jG_tr g1 g2
  exact ⟨v, H1, H2, rho, mu, e1, e2, ⟨w, m, tc, ad, kd, cds, jInv_K hI g (by omega)⟩, by omega, fun a ha => jK_scr g ha⟩
