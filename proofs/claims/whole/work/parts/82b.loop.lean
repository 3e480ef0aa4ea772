/-! THE LAW'S LOOP -/
set_option maxRecDepth 20000 in
theorem jlw_c41 {c : Nat} (h : c < 41) : c = 0 ∨ c = 1 ∨ c = 2 ∨ c = 3 ∨ c = 4 ∨ c = 5 ∨ c = 6 ∨ c = 7 ∨ c = 8 ∨ c = 9 ∨ c = 10 ∨ c = 11 ∨ c = 12 ∨ c = 13 ∨ c = 14 ∨ c = 15 ∨ c = 16 ∨ c = 17 ∨ c = 18 ∨ c = 19 ∨ c = 20 ∨ c = 21 ∨ c = 22 ∨ c = 23 ∨ c = 24 ∨ c = 25 ∨ c = 26 ∨ c = 27 ∨ c = 28 ∨ c = 29 ∨ c = 30 ∨ c = 31 ∨ c = 32 ∨ c = 33 ∨ c = 34 ∨ c = 35 ∨ c = 36 ∨ c = 37 ∨ c = 38 ∨ c = 39 ∨ c = 40 := by omega
set_option maxRecDepth 20000 in
theorem jlw_all {i L : Nat} {H : Nat → Nat → Int32} {rho : Nat → Option Nat} {mu : List (Nat × Nat)} (hi : i + 7 ≤ L) (hL2 : L ≤ 3584) (hL : H jm_SCL 0 = nI L) (hV : jV H rho mu) (hmu : mu.length < 600000) :
    ∃ (H2 : Nat → Nat → Int32) (rho2 : Nat → Option Nat) (mu2 : List (Nat × Nat)), jm_go jlw_E 245 (27, jlw_L i, [], jm_hp H rho mu) = jm_go jlw_E 245 (1729, jlw_L i, [], jm_hp H2 rho2 mu2) ∧ jV H2 rho2 mu2 ∧ mu2.length ≤ mu.length + 6 ∧ H2 jm_SCR = H jm_SCR ∧ H2 jm_SCL = H jm_SCL := by
  have k1 : jm_go jlw_E 245 (27, jlw_L i, [], jm_hp H rho mu) = jm_go jlw_E 245 (30, jlw_L i, [.int (H jm_SCR i)], jm_hp H rho mu) := by
    rw [jm_go_steps 2 (show jm_steps 245 2 (27, jlw_L i, [], jm_hp H rho mu) = some (29, jlw_L i, [.int (nI i), .ref jm_SCR], jm_hp H rho mu) from rfl)]
    refine jm_go_next ?_
    have s5 : jm_step 245 (29, jlw_L i, [.int (nI i), .ref jm_SCR], jm_hp H rho mu) = if 0 ≤ nI i ∧ (nI i).toNatClampNeg < (H jm_SCL 0).toNatClampNeg then some (.inl (30, jlw_L i, [.int (H jm_SCR (nI i).toNatClampNeg)], jm_hp H rho mu)) else none := rfl
    rw [s5, hL, nI_clamp (by omega : i < 2 ^ 31), nI_clamp (by omega : L < 2 ^ 31)]
    exact if_pos ⟨nI_pos' (by omega), by omega⟩
  have k2 : jm_go jlw_E 245 (27, jlw_L i, [], jm_hp H rho mu) = jm_go jlw_E 245 (jm_swt (H jm_SCR i &&& 63) (nI 0) [212, 235, 258, 291, 324, 357, 432, 445, 468, 511, 544, 587, 620, 653, 696, 729, 772, 805, 838, 861, 884, 917, 930, 954, 997, 1030, 1073, 1126, 1179, 1232, 1265, 1308, 1351, 1404, 1468, 1481, 1494, 1537, 1580, 1643, 1696] 1729, jlw_L i, [], jm_hp H rho mu) := by
    rw [k1]
    exact jm_go_steps 3 rfl
  rcases Bool.eq_false_or_eq_true (jx_in (H jm_SCR i &&& 63) 41) with zq | zq
  · obtain ⟨c, hc, zc⟩ := jx_in_of (by decide) zq
    rw [zc] at k2
    have k3 : ∀ t, jm_swt (nI c) (nI 0) [212, 235, 258, 291, 324, 357, 432, 445, 468, 511, 544, 587, 620, 653, 696, 729, 772, 805, 838, 861, 884, 917, 930, 954, 997, 1030, 1073, 1126, 1179, 1232, 1265, 1308, 1351, 1404, 1468, 1481, 1494, 1537, 1580, 1643, 1696] 1729 = t → jm_go jlw_E 245 (27, jlw_L i, [], jm_hp H rho mu) = jm_go jlw_E 245 (t, jlw_L i, [], jm_hp H rho mu) := fun t q => by rw [k2, q]
    clear k1 k2 zq zc
    rcases jlw_c41 hc with rfl | rfl | rfl | rfl | rfl | rfl | rfl | rfl | rfl | rfl | rfl | rfl | rfl | rfl | rfl | rfl | rfl | rfl | rfl | rfl | rfl | rfl | rfl | rfl | rfl | rfl | rfl | rfl | rfl | rfl | rfl | rfl | rfl | rfl | rfl | rfl | rfl | rfl | rfl | rfl | rfl
    · obtain ⟨H2, rho2, mu2, zg, r⟩ := jlw_count i L H rho mu hi hL2 hL hV hmu
      exact ⟨H2, rho2, mu2, (k3 212 rfl).trans zg, r⟩
    · obtain ⟨H2, rho2, mu2, zg, r⟩ := jlw_dawn i L H rho mu hi hL2 hL hV hmu
      exact ⟨H2, rho2, mu2, (k3 235 rfl).trans zg, r⟩
    · obtain ⟨H2, rho2, mu2, zg, r⟩ := jlw_door i L H rho mu hi hL2 hL hV hmu
      exact ⟨H2, rho2, mu2, (k3 258 rfl).trans zg, r⟩
    · obtain ⟨H2, rho2, mu2, zg, r⟩ := jlw_brick i L H rho mu hi hL2 hL hV hmu
      exact ⟨H2, rho2, mu2, (k3 291 rfl).trans zg, r⟩
    · obtain ⟨H2, rho2, mu2, zg, r⟩ := jlw_hung i L H rho mu hi hL2 hL hV hmu
      exact ⟨H2, rho2, mu2, (k3 324 rfl).trans zg, r⟩
    · obtain ⟨H2, rho2, mu2, zg, r⟩ := jlw_feed i L H rho mu hi hL2 hL hV hmu
      exact ⟨H2, rho2, mu2, (k3 357 rfl).trans zg, r⟩
    · obtain ⟨H2, rho2, mu2, zg, r⟩ := jlw_text i L H rho mu hi hL2 hL hV hmu
      exact ⟨H2, rho2, mu2, (k3 432 rfl).trans zg, r⟩
    · obtain ⟨H2, rho2, mu2, zg, r⟩ := jlw_force i L H rho mu hi hL2 hL hV hmu
      exact ⟨H2, rho2, mu2, (k3 445 rfl).trans zg, r⟩
    · obtain ⟨H2, rho2, mu2, zg, r⟩ := jlw_asks i L H rho mu hi hL2 hL hV hmu
      exact ⟨H2, rho2, mu2, (k3 468 rfl).trans zg, r⟩
    · obtain ⟨H2, rho2, mu2, zg, r⟩ := jlw_person i L H rho mu hi hL2 hL hV hmu
      exact ⟨H2, rho2, mu2, (k3 511 rfl).trans zg, r⟩
    · obtain ⟨H2, rho2, mu2, zg, r⟩ := jlw_put i L H rho mu hi hL2 hL hV hmu
      exact ⟨H2, rho2, mu2, (k3 544 rfl).trans zg, r⟩
    · obtain ⟨H2, rho2, mu2, zg, r⟩ := jlw_told i L H rho mu hi hL2 hL hV hmu
      exact ⟨H2, rho2, mu2, (k3 587 rfl).trans zg, r⟩
    · obtain ⟨H2, rho2, mu2, zg, r⟩ := jlw_open i L H rho mu hi hL2 hL hV hmu
      exact ⟨H2, rho2, mu2, (k3 620 rfl).trans zg, r⟩
    · obtain ⟨H2, rho2, mu2, zg, r⟩ := jlw_after i L H rho mu hi hL2 hL hV hmu
      exact ⟨H2, rho2, mu2, (k3 653 rfl).trans zg, r⟩
    · obtain ⟨H2, rho2, mu2, zg, r⟩ := jlw_safe i L H rho mu hi hL2 hL hV hmu
      exact ⟨H2, rho2, mu2, (k3 696 rfl).trans zg, r⟩
    · obtain ⟨H2, rho2, mu2, zg, r⟩ := jlw_way i L H rho mu hi hL2 hL hV hmu
      exact ⟨H2, rho2, mu2, (k3 729 rfl).trans zg, r⟩
    · obtain ⟨H2, rho2, mu2, zg, r⟩ := jlw_together i L H rho mu hi hL2 hL hV hmu
      exact ⟨H2, rho2, mu2, (k3 772 rfl).trans zg, r⟩
    · obtain ⟨H2, rho2, mu2, zg, r⟩ := jlw_friend i L H rho mu hi hL2 hL hV hmu
      exact ⟨H2, rho2, mu2, (k3 805 rfl).trans zg, r⟩
    · obtain ⟨H2, rho2, mu2, zg, r⟩ := jlw_worst i L H rho mu hi hL2 hL hV hmu
      exact ⟨H2, rho2, mu2, (k3 838 rfl).trans zg, r⟩
    · obtain ⟨H2, rho2, mu2, zg, r⟩ := jlw_mason i L H rho mu hi hL2 hL hV hmu
      exact ⟨H2, rho2, mu2, (k3 861 rfl).trans zg, r⟩
    · obtain ⟨H2, rho2, mu2, zg, r⟩ := jlw_watch i L H rho mu hi hL2 hL hV hmu
      exact ⟨H2, rho2, mu2, (k3 884 rfl).trans zg, r⟩
    · obtain ⟨H2, rho2, mu2, zg, r⟩ := jlw_doomed i L H rho mu hi hL2 hL hV hmu
      exact ⟨H2, rho2, mu2, (k3 917 rfl).trans zg, r⟩
    · obtain ⟨H2, rho2, mu2, zg, r⟩ := jlw_share i L H rho mu hi hL2 hL hV hmu
      exact ⟨H2, rho2, mu2, (k3 930 rfl).trans zg, r⟩
    · obtain ⟨H2, rho2, mu2, zg, r⟩ := jlw_walk i L H rho mu hi hL2 hL hV hmu
      exact ⟨H2, rho2, mu2, (k3 954 rfl).trans zg, r⟩
    · obtain ⟨H2, rho2, mu2, zg, r⟩ := jlw_goes i L H rho mu hi hL2 hL hV hmu
      exact ⟨H2, rho2, mu2, (k3 997 rfl).trans zg, r⟩
    · obtain ⟨H2, rho2, mu2, zg, r⟩ := jlw_judge i L H rho mu hi hL2 hL hV hmu
      exact ⟨H2, rho2, mu2, (k3 1030 rfl).trans zg, r⟩
    · obtain ⟨H2, rho2, mu2, zg, r⟩ := jlw_kinds i L H rho mu hi hL2 hL hV hmu
      exact ⟨H2, rho2, mu2, (k3 1073 rfl).trans zg, r⟩
    · obtain ⟨H2, rho2, mu2, zg, r⟩ := jlw_states i L H rho mu hi hL2 hL hV hmu
      exact ⟨H2, rho2, mu2, (k3 1126 rfl).trans zg, r⟩
    · obtain ⟨H2, rho2, mu2, zg, r⟩ := jlw_lucks i L H rho mu hi hL2 hL hV hmu
      exact ⟨H2, rho2, mu2, (k3 1179 rfl).trans zg, r⟩
    · obtain ⟨H2, rho2, mu2, zg, r⟩ := jlw_whose i L H rho mu hi hL2 hL hV hmu
      exact ⟨H2, rho2, mu2, (k3 1232 rfl).trans zg, r⟩
    · obtain ⟨H2, rho2, mu2, zg, r⟩ := jlw_laws i L H rho mu hi hL2 hL hV hmu
      exact ⟨H2, rho2, mu2, (k3 1265 rfl).trans zg, r⟩
    · obtain ⟨H2, rho2, mu2, zg, r⟩ := jlw_film i L H rho mu hi hL2 hL hV hmu
      exact ⟨H2, rho2, mu2, (k3 1308 rfl).trans zg, r⟩
    · obtain ⟨H2, rho2, mu2, zg, r⟩ := jlw_drawn i L H rho mu hi hL2 hL hV hmu
      exact ⟨H2, rho2, mu2, (k3 1351 rfl).trans zg, r⟩
    · obtain ⟨H2, rho2, mu2, zg, r⟩ := jlw_odds i L H rho mu hi hL2 hL hV hmu
      exact ⟨H2, rho2, mu2, (k3 1404 rfl).trans zg, r⟩
    · obtain ⟨H2, rho2, mu2, zg, r⟩ := jlw_image i L H rho mu hi hL2 hL hV hmu
      exact ⟨H2, rho2, mu2, (k3 1468 rfl).trans zg, r⟩
    · obtain ⟨H2, rho2, mu2, zg, r⟩ := jlw_back i L H rho mu hi hL2 hL hV hmu
      exact ⟨H2, rho2, mu2, (k3 1481 rfl).trans zg, r⟩
    · obtain ⟨H2, rho2, mu2, zg, r⟩ := jlw_sheet i L H rho mu hi hL2 hL hV hmu
      exact ⟨H2, rho2, mu2, (k3 1494 rfl).trans zg, r⟩
    · obtain ⟨H2, rho2, mu2, zg, r⟩ := jlw_cell i L H rho mu hi hL2 hL hV hmu
      exact ⟨H2, rho2, mu2, (k3 1537 rfl).trans zg, r⟩
    · obtain ⟨H2, rho2, mu2, zg, r⟩ := jlw_copy i L H rho mu hi hL2 hL hV hmu
      exact ⟨H2, rho2, mu2, (k3 1580 rfl).trans zg, r⟩
    · obtain ⟨H2, rho2, mu2, zg, r⟩ := jlw_peopleBy i L H rho mu hi hL2 hL hV hmu
      exact ⟨H2, rho2, mu2, (k3 1643 rfl).trans zg, r⟩
    · obtain ⟨H2, rho2, mu2, zg, r⟩ := jlw_taken i L H rho mu hi hL2 hL hV hmu
      exact ⟨H2, rho2, mu2, (k3 1696 rfl).trans zg, r⟩
  · rw [jx_swn zq (by decide) (by decide)] at k2
    exact ⟨H, rho, mu, k2, hV, by omega, rfl, rfl⟩
set_option maxRecDepth 20000 in
theorem jlw_hd {i L : Nat} {H : Nat → Nat → Int32} {rho : Nat → Option Nat} {mu : List (Nat × Nat)} : jm_go jlw_E 245 (18, jlw_L i, [], jm_hp H rho mu) = if H jm_SCL 0 - nI 7 < nI i then jm_go jlw_E 245 (1735, jlw_L i, [], jm_hp H rho mu) else jm_go jlw_E 245 (27, jlw_L i, [], jm_hp H rho mu) := by
  rw [← jm_ite_go]
  exact jm_go_steps 6 rfl
set_option maxRecDepth 20000 in
theorem jlw_cp {i L : Nat} (hi : 7 * i ≤ L) (hL : L ≤ 3584) : (nI L - nI 7 < nI (7 * i)) ↔ L < 7 * i + 7 := by
  by_cases h : 7 ≤ L
  · rw [pk_sub h, nI_ltI (by omega) (by omega)]
    omega
  · have : i = 0 := by omega
    subst this
    have h2 : L = 0 ∨ L = 1 ∨ L = 2 ∨ L = 3 ∨ L = 4 ∨ L = 5 ∨ L = 6 := by omega
    rcases h2 with rfl | rfl | rfl | rfl | rfl | rfl | rfl <;> decide
set_option maxRecDepth 20000 in
theorem jlw_on {t L : Nat} {H : Nat → Nat → Int32} {rho : Nat → Option Nat} {mu : List (Nat × Nat)} (hi : 7 * t + 7 ≤ L) (hL2 : L ≤ 3584) (hL : H jm_SCL 0 = nI L) : jm_go jlw_E 245 (18, jlw_L (7 * t), [], jm_hp H rho mu) = jm_go jlw_E 245 (27, jlw_L (7 * t), [], jm_hp H rho mu) := by
  rw [jlw_hd (L := L), hL, if_neg]
  rw [jlw_cp (by omega) hL2]
  omega
set_option maxRecDepth 20000 in
theorem jlw_end {t L : Nat} {H : Nat → Nat → Int32} {rho : Nat → Option Nat} {mu : List (Nat × Nat)} (h1 : 7 * t ≤ L) (h4 : L < 7 * t + 7) (hL2 : L ≤ 3584) (hL : H jm_SCL 0 = nI L) : jm_go jlw_E 245 (18, jlw_L (7 * t), [], jm_hp H rho mu) = some (some (.int 1), jm_hp H rho mu) := by
  rw [jlw_hd (L := L), hL, if_pos ((jlw_cp h1 hL2).mpr h4), jm_go_steps 1 (show jm_steps 245 1 (1735, jlw_L (7 * t), [], jm_hp H rho mu) = some (1736, jlw_L (7 * t), [.int 1], jm_hp H rho mu) from rfl)]
  exact jm_go_ret rfl
set_option maxRecDepth 20000 in
theorem jlw_go : ∀ (n t L : Nat) (H : Nat → Nat → Int32) (rho : Nat → Option Nat) (mu : List (Nat × Nat)), 7 * t ≤ L → L < 7 * t + 7 * n + 7 → L ≤ 3584 → H jm_SCL 0 = nI L → jV H rho mu → mu.length ≤ 6 * t →
    ∃ (H2 : Nat → Nat → Int32) (rho2 : Nat → Option Nat) (mu2 : List (Nat × Nat)), jm_go jlw_E 245 (18, jlw_L (7 * t), [], jm_hp H rho mu) = some (some (.int 1), jm_hp H2 rho2 mu2) ∧ jV H2 rho2 mu2 ∧ mu2.length ≤ 3072 := by
  intro n
  induction n with
  | zero =>
    intro t L H rho mu h1 h2 h3 hL hV hmu
    exact ⟨H, rho, mu, jlw_end h1 (by omega) h3 hL, hV, by omega⟩
  | succ n ih =>
    intro t L H rho mu h1 h2 h3 hL hV hmu
    by_cases h4 : 7 * t + 7 ≤ L
    · obtain ⟨H2, rho2, mu2, zg, zV, zm, zs, zl⟩ := jlw_all (i := 7 * t) h4 h3 hL hV (by omega)
      obtain ⟨H3, rho3, mu3, yg, r⟩ := ih (t + 1) L H2 rho2 mu2 (by omega) (by omega) h3 ((congrFun zl 0).trans hL) zV (by omega)
      refine ⟨H3, rho3, mu3, ?_, r⟩
      rw [jlw_on h4 h3 hL, zg, ← yg]
      rw [jm_go_steps 2 (show jm_steps 245 2 (1729, jlw_L (7 * t), [], jm_hp H2 rho2 mu2) = some (18, [some (.ref jm_SCR), some (.ref 0), some (.ref 57), some (.int (nI (7 * t) + nI 7))], [], jm_hp H2 rho2 mu2) from rfl), nI_add]
      rfl
    · exact ⟨H, rho, mu, jlw_end h1 (by omega) h3 hL, hV, by omega⟩
