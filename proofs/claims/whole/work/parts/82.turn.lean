/-! A TURN OF THE LAW: each of its calls, made of the class and of the reference, and the two answers held together -/
abbrev jlw_L (i : Nat) : jm_L := [some (.ref jm_SCR), some (.ref 0), some (.ref 57), some (.int (nI i))]
noncomputable abbrev jlw_E : Nat → List Value → jm_H → jm_V := jm_ev (940 + 60)
set_option maxRecDepth 20000 in
/-- an int of the script comes to the stack -/
theorem jlw_g {pc p4 p5 k i L : Nat} {st : List Value} {h : jm_H} (s4 : jm_steps 245 4 (pc, jlw_L i, st, h) = some (p4, jlw_L i, .int (nI i + nI k) :: .ref jm_SCR :: st, h)) (s5 : jm_step 245 (p4, jlw_L i, .int (nI i + nI k) :: .ref jm_SCR :: st, h) = if 0 ≤ nI i + nI k ∧ (nI i + nI k).toNatClampNeg < (h.1 jm_SCL 0).toNatClampNeg then some (.inl (p5, jlw_L i, .int (h.1 jm_SCR (nI i + nI k).toNatClampNeg) :: st, h)) else none)
    (hL : h.1 jm_SCL 0 = nI L) (hi : i + 7 ≤ L) (hL2 : L ≤ 3584) (hk : k < 7) : jm_go jlw_E 245 (pc, jlw_L i, st, h) = jm_go jlw_E 245 (p5, jlw_L i, .int (h.1 jm_SCR (i + k)) :: st, h) := by
  rw [jm_go_steps 4 s4]
  refine jm_go_next ?_
  rw [s5, nI_add, hL, nI_clamp (by omega : i + k < 2 ^ 31), nI_clamp (by omega : L < 2 ^ 31)]
  exact if_pos ⟨nI_pos' (by omega), by omega⟩
set_option maxRecDepth 20000 in
theorem jlw_lc (x : Int64) : lg_cmp x x = 0 := by
  have : ¬ x > x := fun h => absurd (Int64.lt_iff_toInt_lt.mp h) (by omega)
  rw [lg_cmp, if_neg this, if_pos rfl]
set_option maxRecDepth 20000 in
theorem jlw_M0 {mu : List (Nat × Nat)} {I : Nat → Nat → Int32} {rho : Nat → Option Nat} : (jm_hp I rho mu).2.2.length = 80 + mu.length := by
  show (jn_M ++ mu).length = _
  rw [List.length_append]
  rfl
/-- what a turn asks for and leaves -/
def jlw_Z (p : Nat) : Prop := ∀ (i L : Nat) (H : Nat → Nat → Int32) (rho : Nat → Option Nat) (mu : List (Nat × Nat)), i + 7 ≤ L → L ≤ 3584 → H jm_SCL 0 = nI L → jV H rho mu → mu.length < 600000 →
  ∃ (H2 : Nat → Nat → Int32) (rho2 : Nat → Option Nat) (mu2 : List (Nat × Nat)), jm_go jlw_E 245 (p, jlw_L i, [], jm_hp H rho mu) = jm_go jlw_E 245 (1729, jlw_L i, [], jm_hp H2 rho2 mu2) ∧ jV H2 rho2 mu2 ∧ mu2.length ≤ mu.length + 6 ∧ H2 jm_SCR = H jm_SCR ∧ H2 jm_SCL = H jm_SCL

set_option maxRecDepth 20000 in
theorem jlw_ti {p p2 p3 yc ym i : Nat} {H : Nat → Nat → Int32} {rho : Nat → Option Nat} {mu : List (Nat × Nat)} {as : List Value} (hq : jCall yc ym as) (hr : jm_ret yc = some .int) (hV : jV H rho mu) (hmu : mu.length < 600000)
    (c1 : jm_go jlw_E 245 (p, jlw_L i, [], jm_hp H rho mu) = jm_then (jlw_E yc (.ref 0 :: as) (jm_hp H rho mu)) fun v h2 => jm_go jlw_E 245 (p2, jlw_L i, v.toList ++ [], h2))
    (c2 : ∀ (x : Int32) (H1 : Nat → Nat → Int32) (rho1 : Nat → Option Nat) (mu1 : List (Nat × Nat)), H1 jm_SCR = H jm_SCR → H1 jm_SCL = H jm_SCL → jm_go jlw_E 245 (p2, jlw_L i, [.int x], jm_hp H1 rho1 mu1) = jm_then (jlw_E ym (.ref 57 :: as) (jm_hp H1 rho1 mu1)) fun v h2 => jm_go jlw_E 245 (p3, jlw_L i, v.toList ++ [.int x], h2))
    (c3 : ∀ (x : Int32) (h : jm_H), jm_go jlw_E 245 (p3, jlw_L i, [.int x, .int x], h) = jm_go jlw_E 245 (1729, jlw_L i, [], h)) :
    ∃ (H2 : Nat → Nat → Int32) (rho2 : Nat → Option Nat) (mu2 : List (Nat × Nat)), jm_go jlw_E 245 (p, jlw_L i, [], jm_hp H rho mu) = jm_go jlw_E 245 (1729, jlw_L i, [], jm_hp H2 rho2 mu2) ∧ jV H2 rho2 mu2 ∧ mu2.length ≤ mu.length + 6 ∧ H2 jm_SCR = H jm_SCR ∧ H2 jm_SCL = H jm_SCL := by
  obtain ⟨v, H1, H2, rho2, mu2, e1, e2, hV2, hm2, hf⟩ := hq 940 H rho mu hV (by omega)
  obtain ⟨x, zx⟩ := (jfr_evk e1).1 hr
  have f1 := jfr_ev _ _ _ _ _ _ e1
  have f2 : ∀ a, 900000 ≤ a → H1 a = H a := fun a ha => f1 a (by rw [jlw_M0]; omega)
  cases zx
  refine ⟨H2, rho2, mu2, ?_, hV2, hm2, hf _ (by decide), hf _ (by decide)⟩
  rw [c1, show jlw_E yc (.ref 0 :: as) (jm_hp H rho mu) = _ from e1]
  show jm_go jlw_E 245 (p2, jlw_L i, [.int x], jm_hp H1 rho2 mu2) = _
  rw [c2 x H1 rho2 mu2 (f2 _ (by decide)) (f2 _ (by decide)), show jlw_E ym (.ref 57 :: as) (jm_hp H1 rho2 mu2) = _ from e2]
  exact c3 x _

set_option maxRecDepth 20000 in
theorem jlw_tl {p p2 p3 yc ym i : Nat} {H : Nat → Nat → Int32} {rho : Nat → Option Nat} {mu : List (Nat × Nat)} {as : List Value} (hq : jCall yc ym as) (hr : jm_ret yc = some .long) (hV : jV H rho mu) (hmu : mu.length < 600000)
    (c1 : jm_go jlw_E 245 (p, jlw_L i, [], jm_hp H rho mu) = jm_then (jlw_E yc (.ref 0 :: as) (jm_hp H rho mu)) fun v h2 => jm_go jlw_E 245 (p2, jlw_L i, v.toList ++ [], h2))
    (c2 : ∀ (x : Int64) (H1 : Nat → Nat → Int32) (rho1 : Nat → Option Nat) (mu1 : List (Nat × Nat)), H1 jm_SCR = H jm_SCR → H1 jm_SCL = H jm_SCL → jm_go jlw_E 245 (p2, jlw_L i, [.long x], jm_hp H1 rho1 mu1) = jm_then (jlw_E ym (.ref 57 :: as) (jm_hp H1 rho1 mu1)) fun v h2 => jm_go jlw_E 245 (p3, jlw_L i, v.toList ++ [.long x], h2))
    (c3 : ∀ (x : Int64) (h : jm_H), jm_go jlw_E 245 (p3, jlw_L i, [.long x, .long x], h) = jm_go jlw_E 245 (1729, jlw_L i, [], h)) :
    ∃ (H2 : Nat → Nat → Int32) (rho2 : Nat → Option Nat) (mu2 : List (Nat × Nat)), jm_go jlw_E 245 (p, jlw_L i, [], jm_hp H rho mu) = jm_go jlw_E 245 (1729, jlw_L i, [], jm_hp H2 rho2 mu2) ∧ jV H2 rho2 mu2 ∧ mu2.length ≤ mu.length + 6 ∧ H2 jm_SCR = H jm_SCR ∧ H2 jm_SCL = H jm_SCL := by
  obtain ⟨v, H1, H2, rho2, mu2, e1, e2, hV2, hm2, hf⟩ := hq 940 H rho mu hV (by omega)
  obtain ⟨x, zx⟩ := (jfr_evk e1).2 hr
  have f1 := jfr_ev _ _ _ _ _ _ e1
  have f2 : ∀ a, 900000 ≤ a → H1 a = H a := fun a ha => f1 a (by rw [jlw_M0]; omega)
  cases zx
  refine ⟨H2, rho2, mu2, ?_, hV2, hm2, hf _ (by decide), hf _ (by decide)⟩
  rw [c1, show jlw_E yc (.ref 0 :: as) (jm_hp H rho mu) = _ from e1]
  show jm_go jlw_E 245 (p2, jlw_L i, [.long x], jm_hp H1 rho2 mu2) = _
  rw [c2 x H1 rho2 mu2 (f2 _ (by decide)) (f2 _ (by decide)), show jlw_E ym (.ref 57 :: as) (jm_hp H1 rho2 mu2) = _ from e2]
  exact c3 x _

set_option maxRecDepth 20000 in
theorem jlw_count : jlw_Z 212 := by
  intro i L H rho mu hi hL2 hL hV hmu
  refine jlw_ti (p2 := 221) (p3 := 230) (yc := 78) (ym := 149) (jq_count (H jm_SCR (i + 1))) rfl hV hmu ?_ ?_ ?_
  · rw [jm_go_steps 1 (show jm_steps 245 1 (212, jlw_L i, [], (jm_hp H rho mu)) = some (213, jlw_L i, .ref 0 :: [], (jm_hp H rho mu)) from rfl)]
    rw [jlw_g (pc := 213) (p4 := 217) (p5 := 218) (k := 1) (st := .ref 0 :: []) (h := (jm_hp H rho mu)) rfl rfl hL hi hL2 (by decide)]
    exact jm_go_call (q := (78, .ref 0 :: [.int (H jm_SCR (i + 1))], [])) rfl
  · intro x H1 rho1 mu1 hS hC
    have hL3 : (jm_hp H1 rho1 mu1).1 jm_SCL 0 = nI L := (congrFun hC 0).trans hL
    rw [jm_go_steps 1 (show jm_steps 245 1 (221, jlw_L i, [.int x], (jm_hp H1 rho1 mu1)) = some (222, jlw_L i, .ref 57 :: [.int x], (jm_hp H1 rho1 mu1)) from rfl)]
    rw [jlw_g (pc := 222) (p4 := 226) (p5 := 227) (k := 1) (st := .ref 57 :: [.int x]) (h := (jm_hp H1 rho1 mu1)) rfl rfl hL3 hi hL2 (by decide)]
    rw [← hS]
    exact jm_go_call (q := (149, .ref 57 :: [.int (H1 jm_SCR (i + 1))], [.int x])) rfl
  · intro x h
    refine jm_go_next (show jm_step 245 (230, jlw_L i, [.int x, .int x], h) = some (.inl (1729, jlw_L i, [], h)) from ?_)
    exact (show jm_step 245 (230, jlw_L i, [.int x, .int x], h) = some (.inl (if x = x then 1729 else 233, jlw_L i, [], h)) from rfl).trans (by rw [if_pos rfl])
set_option maxRecDepth 20000 in
theorem jlw_dawn : jlw_Z 235 := by
  intro i L H rho mu hi hL2 hL hV hmu
  refine jlw_ti (p2 := 244) (p3 := 253) (yc := 79) (ym := 150) (jq_dawn (H jm_SCR (i + 1))) rfl hV hmu ?_ ?_ ?_
  · rw [jm_go_steps 1 (show jm_steps 245 1 (235, jlw_L i, [], (jm_hp H rho mu)) = some (236, jlw_L i, .ref 0 :: [], (jm_hp H rho mu)) from rfl)]
    rw [jlw_g (pc := 236) (p4 := 240) (p5 := 241) (k := 1) (st := .ref 0 :: []) (h := (jm_hp H rho mu)) rfl rfl hL hi hL2 (by decide)]
    exact jm_go_call (q := (79, .ref 0 :: [.int (H jm_SCR (i + 1))], [])) rfl
  · intro x H1 rho1 mu1 hS hC
    have hL3 : (jm_hp H1 rho1 mu1).1 jm_SCL 0 = nI L := (congrFun hC 0).trans hL
    rw [jm_go_steps 1 (show jm_steps 245 1 (244, jlw_L i, [.int x], (jm_hp H1 rho1 mu1)) = some (245, jlw_L i, .ref 57 :: [.int x], (jm_hp H1 rho1 mu1)) from rfl)]
    rw [jlw_g (pc := 245) (p4 := 249) (p5 := 250) (k := 1) (st := .ref 57 :: [.int x]) (h := (jm_hp H1 rho1 mu1)) rfl rfl hL3 hi hL2 (by decide)]
    rw [← hS]
    exact jm_go_call (q := (150, .ref 57 :: [.int (H1 jm_SCR (i + 1))], [.int x])) rfl
  · intro x h
    refine jm_go_next (show jm_step 245 (253, jlw_L i, [.int x, .int x], h) = some (.inl (1729, jlw_L i, [], h)) from ?_)
    exact (show jm_step 245 (253, jlw_L i, [.int x, .int x], h) = some (.inl (if x = x then 1729 else 256, jlw_L i, [], h)) from rfl).trans (by rw [if_pos rfl])
set_option maxRecDepth 20000 in
theorem jlw_door : jlw_Z 258 := by
  intro i L H rho mu hi hL2 hL hV hmu
  refine jlw_ti (p2 := 272) (p3 := 286) (yc := 80) (ym := 151) (jq_door (H jm_SCR (i + 1)) (H jm_SCR (i + 2))) rfl hV hmu ?_ ?_ ?_
  · rw [jm_go_steps 1 (show jm_steps 245 1 (258, jlw_L i, [], (jm_hp H rho mu)) = some (259, jlw_L i, .ref 0 :: [], (jm_hp H rho mu)) from rfl)]
    rw [jlw_g (pc := 259) (p4 := 263) (p5 := 264) (k := 1) (st := .ref 0 :: []) (h := (jm_hp H rho mu)) rfl rfl hL hi hL2 (by decide)]
    rw [jlw_g (pc := 264) (p4 := 268) (p5 := 269) (k := 2) (st := .int (H jm_SCR (i + 1)) :: .ref 0 :: []) (h := (jm_hp H rho mu)) rfl rfl hL hi hL2 (by decide)]
    exact jm_go_call (q := (80, .ref 0 :: [.int (H jm_SCR (i + 1)), .int (H jm_SCR (i + 2))], [])) rfl
  · intro x H1 rho1 mu1 hS hC
    have hL3 : (jm_hp H1 rho1 mu1).1 jm_SCL 0 = nI L := (congrFun hC 0).trans hL
    rw [jm_go_steps 1 (show jm_steps 245 1 (272, jlw_L i, [.int x], (jm_hp H1 rho1 mu1)) = some (273, jlw_L i, .ref 57 :: [.int x], (jm_hp H1 rho1 mu1)) from rfl)]
    rw [jlw_g (pc := 273) (p4 := 277) (p5 := 278) (k := 1) (st := .ref 57 :: [.int x]) (h := (jm_hp H1 rho1 mu1)) rfl rfl hL3 hi hL2 (by decide)]
    rw [jlw_g (pc := 278) (p4 := 282) (p5 := 283) (k := 2) (st := .int (H1 jm_SCR (i + 1)) :: .ref 57 :: [.int x]) (h := (jm_hp H1 rho1 mu1)) rfl rfl hL3 hi hL2 (by decide)]
    rw [← hS]
    exact jm_go_call (q := (151, .ref 57 :: [.int (H1 jm_SCR (i + 1)), .int (H1 jm_SCR (i + 2))], [.int x])) rfl
  · intro x h
    refine jm_go_next (show jm_step 245 (286, jlw_L i, [.int x, .int x], h) = some (.inl (1729, jlw_L i, [], h)) from ?_)
    exact (show jm_step 245 (286, jlw_L i, [.int x, .int x], h) = some (.inl (if x = x then 1729 else 289, jlw_L i, [], h)) from rfl).trans (by rw [if_pos rfl])
set_option maxRecDepth 20000 in
theorem jlw_brick : jlw_Z 291 := by
  intro i L H rho mu hi hL2 hL hV hmu
  refine jlw_ti (p2 := 305) (p3 := 319) (yc := 81) (ym := 152) (jq_brick (H jm_SCR (i + 1)) (H jm_SCR (i + 2))) rfl hV hmu ?_ ?_ ?_
  · rw [jm_go_steps 1 (show jm_steps 245 1 (291, jlw_L i, [], (jm_hp H rho mu)) = some (292, jlw_L i, .ref 0 :: [], (jm_hp H rho mu)) from rfl)]
    rw [jlw_g (pc := 292) (p4 := 296) (p5 := 297) (k := 1) (st := .ref 0 :: []) (h := (jm_hp H rho mu)) rfl rfl hL hi hL2 (by decide)]
    rw [jlw_g (pc := 297) (p4 := 301) (p5 := 302) (k := 2) (st := .int (H jm_SCR (i + 1)) :: .ref 0 :: []) (h := (jm_hp H rho mu)) rfl rfl hL hi hL2 (by decide)]
    exact jm_go_call (q := (81, .ref 0 :: [.int (H jm_SCR (i + 1)), .int (H jm_SCR (i + 2))], [])) rfl
  · intro x H1 rho1 mu1 hS hC
    have hL3 : (jm_hp H1 rho1 mu1).1 jm_SCL 0 = nI L := (congrFun hC 0).trans hL
    rw [jm_go_steps 1 (show jm_steps 245 1 (305, jlw_L i, [.int x], (jm_hp H1 rho1 mu1)) = some (306, jlw_L i, .ref 57 :: [.int x], (jm_hp H1 rho1 mu1)) from rfl)]
    rw [jlw_g (pc := 306) (p4 := 310) (p5 := 311) (k := 1) (st := .ref 57 :: [.int x]) (h := (jm_hp H1 rho1 mu1)) rfl rfl hL3 hi hL2 (by decide)]
    rw [jlw_g (pc := 311) (p4 := 315) (p5 := 316) (k := 2) (st := .int (H1 jm_SCR (i + 1)) :: .ref 57 :: [.int x]) (h := (jm_hp H1 rho1 mu1)) rfl rfl hL3 hi hL2 (by decide)]
    rw [← hS]
    exact jm_go_call (q := (152, .ref 57 :: [.int (H1 jm_SCR (i + 1)), .int (H1 jm_SCR (i + 2))], [.int x])) rfl
  · intro x h
    refine jm_go_next (show jm_step 245 (319, jlw_L i, [.int x, .int x], h) = some (.inl (1729, jlw_L i, [], h)) from ?_)
    exact (show jm_step 245 (319, jlw_L i, [.int x, .int x], h) = some (.inl (if x = x then 1729 else 322, jlw_L i, [], h)) from rfl).trans (by rw [if_pos rfl])
set_option maxRecDepth 20000 in
theorem jlw_hung : jlw_Z 324 := by
  intro i L H rho mu hi hL2 hL hV hmu
  refine jlw_ti (p2 := 338) (p3 := 352) (yc := 82) (ym := 155) (jq_hung (H jm_SCR (i + 1)) (H jm_SCR (i + 2))) rfl hV hmu ?_ ?_ ?_
  · rw [jm_go_steps 1 (show jm_steps 245 1 (324, jlw_L i, [], (jm_hp H rho mu)) = some (325, jlw_L i, .ref 0 :: [], (jm_hp H rho mu)) from rfl)]
    rw [jlw_g (pc := 325) (p4 := 329) (p5 := 330) (k := 1) (st := .ref 0 :: []) (h := (jm_hp H rho mu)) rfl rfl hL hi hL2 (by decide)]
    rw [jlw_g (pc := 330) (p4 := 334) (p5 := 335) (k := 2) (st := .int (H jm_SCR (i + 1)) :: .ref 0 :: []) (h := (jm_hp H rho mu)) rfl rfl hL hi hL2 (by decide)]
    exact jm_go_call (q := (82, .ref 0 :: [.int (H jm_SCR (i + 1)), .int (H jm_SCR (i + 2))], [])) rfl
  · intro x H1 rho1 mu1 hS hC
    have hL3 : (jm_hp H1 rho1 mu1).1 jm_SCL 0 = nI L := (congrFun hC 0).trans hL
    rw [jm_go_steps 1 (show jm_steps 245 1 (338, jlw_L i, [.int x], (jm_hp H1 rho1 mu1)) = some (339, jlw_L i, .ref 57 :: [.int x], (jm_hp H1 rho1 mu1)) from rfl)]
    rw [jlw_g (pc := 339) (p4 := 343) (p5 := 344) (k := 1) (st := .ref 57 :: [.int x]) (h := (jm_hp H1 rho1 mu1)) rfl rfl hL3 hi hL2 (by decide)]
    rw [jlw_g (pc := 344) (p4 := 348) (p5 := 349) (k := 2) (st := .int (H1 jm_SCR (i + 1)) :: .ref 57 :: [.int x]) (h := (jm_hp H1 rho1 mu1)) rfl rfl hL3 hi hL2 (by decide)]
    rw [← hS]
    exact jm_go_call (q := (155, .ref 57 :: [.int (H1 jm_SCR (i + 1)), .int (H1 jm_SCR (i + 2))], [.int x])) rfl
  · intro x h
    refine jm_go_next (show jm_step 245 (352, jlw_L i, [.int x, .int x], h) = some (.inl (1729, jlw_L i, [], h)) from ?_)
    exact (show jm_step 245 (352, jlw_L i, [.int x, .int x], h) = some (.inl (if x = x then 1729 else 355, jlw_L i, [], h)) from rfl).trans (by rw [if_pos rfl])
set_option maxRecDepth 20000 in
theorem jlw_feed : jlw_Z 357 := by
  intro i L H rho mu hi hL2 hL hV hmu
  refine jlw_ti (p2 := 392) (p3 := 427) (yc := 83) (ym := 157) (jq_feed (H jm_SCR (i + 1)) (H jm_SCR (i + 2)) (H jm_SCR (i + 3)) (H jm_SCR (i + 4)) (H jm_SCR (i + 5)) (H jm_SCR (i + 6))) rfl hV hmu ?_ ?_ ?_
  · rw [jm_go_steps 1 (show jm_steps 245 1 (357, jlw_L i, [], (jm_hp H rho mu)) = some (358, jlw_L i, .ref 0 :: [], (jm_hp H rho mu)) from rfl)]
    rw [jlw_g (pc := 358) (p4 := 362) (p5 := 363) (k := 1) (st := .ref 0 :: []) (h := (jm_hp H rho mu)) rfl rfl hL hi hL2 (by decide)]
    rw [jlw_g (pc := 363) (p4 := 367) (p5 := 368) (k := 2) (st := .int (H jm_SCR (i + 1)) :: .ref 0 :: []) (h := (jm_hp H rho mu)) rfl rfl hL hi hL2 (by decide)]
    rw [jlw_g (pc := 368) (p4 := 372) (p5 := 373) (k := 3) (st := .int (H jm_SCR (i + 2)) :: .int (H jm_SCR (i + 1)) :: .ref 0 :: []) (h := (jm_hp H rho mu)) rfl rfl hL hi hL2 (by decide)]
    rw [jlw_g (pc := 373) (p4 := 377) (p5 := 378) (k := 4) (st := .int (H jm_SCR (i + 3)) :: .int (H jm_SCR (i + 2)) :: .int (H jm_SCR (i + 1)) :: .ref 0 :: []) (h := (jm_hp H rho mu)) rfl rfl hL hi hL2 (by decide)]
    rw [jlw_g (pc := 378) (p4 := 382) (p5 := 383) (k := 5) (st := .int (H jm_SCR (i + 4)) :: .int (H jm_SCR (i + 3)) :: .int (H jm_SCR (i + 2)) :: .int (H jm_SCR (i + 1)) :: .ref 0 :: []) (h := (jm_hp H rho mu)) rfl rfl hL hi hL2 (by decide)]
    rw [jlw_g (pc := 383) (p4 := 388) (p5 := 389) (k := 6) (st := .int (H jm_SCR (i + 5)) :: .int (H jm_SCR (i + 4)) :: .int (H jm_SCR (i + 3)) :: .int (H jm_SCR (i + 2)) :: .int (H jm_SCR (i + 1)) :: .ref 0 :: []) (h := (jm_hp H rho mu)) rfl rfl hL hi hL2 (by decide)]
    exact jm_go_call (q := (83, .ref 0 :: [.int (H jm_SCR (i + 1)), .int (H jm_SCR (i + 2)), .int (H jm_SCR (i + 3)), .int (H jm_SCR (i + 4)), .int (H jm_SCR (i + 5)), .int (H jm_SCR (i + 6))], [])) rfl
  · intro x H1 rho1 mu1 hS hC
    have hL3 : (jm_hp H1 rho1 mu1).1 jm_SCL 0 = nI L := (congrFun hC 0).trans hL
    rw [jm_go_steps 1 (show jm_steps 245 1 (392, jlw_L i, [.int x], (jm_hp H1 rho1 mu1)) = some (393, jlw_L i, .ref 57 :: [.int x], (jm_hp H1 rho1 mu1)) from rfl)]
    rw [jlw_g (pc := 393) (p4 := 397) (p5 := 398) (k := 1) (st := .ref 57 :: [.int x]) (h := (jm_hp H1 rho1 mu1)) rfl rfl hL3 hi hL2 (by decide)]
    rw [jlw_g (pc := 398) (p4 := 402) (p5 := 403) (k := 2) (st := .int (H1 jm_SCR (i + 1)) :: .ref 57 :: [.int x]) (h := (jm_hp H1 rho1 mu1)) rfl rfl hL3 hi hL2 (by decide)]
    rw [jlw_g (pc := 403) (p4 := 407) (p5 := 408) (k := 3) (st := .int (H1 jm_SCR (i + 2)) :: .int (H1 jm_SCR (i + 1)) :: .ref 57 :: [.int x]) (h := (jm_hp H1 rho1 mu1)) rfl rfl hL3 hi hL2 (by decide)]
    rw [jlw_g (pc := 408) (p4 := 412) (p5 := 413) (k := 4) (st := .int (H1 jm_SCR (i + 3)) :: .int (H1 jm_SCR (i + 2)) :: .int (H1 jm_SCR (i + 1)) :: .ref 57 :: [.int x]) (h := (jm_hp H1 rho1 mu1)) rfl rfl hL3 hi hL2 (by decide)]
    rw [jlw_g (pc := 413) (p4 := 417) (p5 := 418) (k := 5) (st := .int (H1 jm_SCR (i + 4)) :: .int (H1 jm_SCR (i + 3)) :: .int (H1 jm_SCR (i + 2)) :: .int (H1 jm_SCR (i + 1)) :: .ref 57 :: [.int x]) (h := (jm_hp H1 rho1 mu1)) rfl rfl hL3 hi hL2 (by decide)]
    rw [jlw_g (pc := 418) (p4 := 423) (p5 := 424) (k := 6) (st := .int (H1 jm_SCR (i + 5)) :: .int (H1 jm_SCR (i + 4)) :: .int (H1 jm_SCR (i + 3)) :: .int (H1 jm_SCR (i + 2)) :: .int (H1 jm_SCR (i + 1)) :: .ref 57 :: [.int x]) (h := (jm_hp H1 rho1 mu1)) rfl rfl hL3 hi hL2 (by decide)]
    rw [← hS]
    exact jm_go_call (q := (157, .ref 57 :: [.int (H1 jm_SCR (i + 1)), .int (H1 jm_SCR (i + 2)), .int (H1 jm_SCR (i + 3)), .int (H1 jm_SCR (i + 4)), .int (H1 jm_SCR (i + 5)), .int (H1 jm_SCR (i + 6))], [.int x])) rfl
  · intro x h
    refine jm_go_next (show jm_step 245 (427, jlw_L i, [.int x, .int x], h) = some (.inl (1729, jlw_L i, [], h)) from ?_)
    exact (show jm_step 245 (427, jlw_L i, [.int x, .int x], h) = some (.inl (if x = x then 1729 else 430, jlw_L i, [], h)) from rfl).trans (by rw [if_pos rfl])
set_option maxRecDepth 20000 in
theorem jlw_text : jlw_Z 432 := by
  intro i L H rho mu hi hL2 hL hV hmu
  refine jlw_ti (p2 := 436) (p3 := 440) (yc := 84) (ym := 168) (jq_text) rfl hV hmu ?_ ?_ ?_
  · rw [jm_go_steps 1 (show jm_steps 245 1 (432, jlw_L i, [], (jm_hp H rho mu)) = some (433, jlw_L i, .ref 0 :: [], (jm_hp H rho mu)) from rfl)]
    exact jm_go_call (q := (84, .ref 0 :: [], [])) rfl
  · intro x H1 rho1 mu1 hS hC
    have hL3 : (jm_hp H1 rho1 mu1).1 jm_SCL 0 = nI L := (congrFun hC 0).trans hL
    rw [jm_go_steps 1 (show jm_steps 245 1 (436, jlw_L i, [.int x], (jm_hp H1 rho1 mu1)) = some (437, jlw_L i, .ref 57 :: [.int x], (jm_hp H1 rho1 mu1)) from rfl)]
    exact jm_go_call (q := (168, .ref 57 :: [], [.int x])) rfl
  · intro x h
    refine jm_go_next (show jm_step 245 (440, jlw_L i, [.int x, .int x], h) = some (.inl (1729, jlw_L i, [], h)) from ?_)
    exact (show jm_step 245 (440, jlw_L i, [.int x, .int x], h) = some (.inl (if x = x then 1729 else 443, jlw_L i, [], h)) from rfl).trans (by rw [if_pos rfl])
set_option maxRecDepth 20000 in
theorem jlw_force : jlw_Z 445 := by
  intro i L H rho mu hi hL2 hL hV hmu
  refine jlw_ti (p2 := 454) (p3 := 463) (yc := 85) (ym := 171) (jq_force (H jm_SCR (i + 1))) rfl hV hmu ?_ ?_ ?_
  · rw [jm_go_steps 1 (show jm_steps 245 1 (445, jlw_L i, [], (jm_hp H rho mu)) = some (446, jlw_L i, .ref 0 :: [], (jm_hp H rho mu)) from rfl)]
    rw [jlw_g (pc := 446) (p4 := 450) (p5 := 451) (k := 1) (st := .ref 0 :: []) (h := (jm_hp H rho mu)) rfl rfl hL hi hL2 (by decide)]
    exact jm_go_call (q := (85, .ref 0 :: [.int (H jm_SCR (i + 1))], [])) rfl
  · intro x H1 rho1 mu1 hS hC
    have hL3 : (jm_hp H1 rho1 mu1).1 jm_SCL 0 = nI L := (congrFun hC 0).trans hL
    rw [jm_go_steps 1 (show jm_steps 245 1 (454, jlw_L i, [.int x], (jm_hp H1 rho1 mu1)) = some (455, jlw_L i, .ref 57 :: [.int x], (jm_hp H1 rho1 mu1)) from rfl)]
    rw [jlw_g (pc := 455) (p4 := 459) (p5 := 460) (k := 1) (st := .ref 57 :: [.int x]) (h := (jm_hp H1 rho1 mu1)) rfl rfl hL3 hi hL2 (by decide)]
    rw [← hS]
    exact jm_go_call (q := (171, .ref 57 :: [.int (H1 jm_SCR (i + 1))], [.int x])) rfl
  · intro x h
    refine jm_go_next (show jm_step 245 (463, jlw_L i, [.int x, .int x], h) = some (.inl (1729, jlw_L i, [], h)) from ?_)
    exact (show jm_step 245 (463, jlw_L i, [.int x, .int x], h) = some (.inl (if x = x then 1729 else 466, jlw_L i, [], h)) from rfl).trans (by rw [if_pos rfl])
set_option maxRecDepth 20000 in
theorem jlw_asks : jlw_Z 468 := by
  intro i L H rho mu hi hL2 hL hV hmu
  refine jlw_ti (p2 := 487) (p3 := 506) (yc := 86) (ym := 173) (jq_asks (H jm_SCR (i + 1)) (H jm_SCR (i + 2)) (H jm_SCR (i + 3))) rfl hV hmu ?_ ?_ ?_
  · rw [jm_go_steps 1 (show jm_steps 245 1 (468, jlw_L i, [], (jm_hp H rho mu)) = some (469, jlw_L i, .ref 0 :: [], (jm_hp H rho mu)) from rfl)]
    rw [jlw_g (pc := 469) (p4 := 473) (p5 := 474) (k := 1) (st := .ref 0 :: []) (h := (jm_hp H rho mu)) rfl rfl hL hi hL2 (by decide)]
    rw [jlw_g (pc := 474) (p4 := 478) (p5 := 479) (k := 2) (st := .int (H jm_SCR (i + 1)) :: .ref 0 :: []) (h := (jm_hp H rho mu)) rfl rfl hL hi hL2 (by decide)]
    rw [jlw_g (pc := 479) (p4 := 483) (p5 := 484) (k := 3) (st := .int (H jm_SCR (i + 2)) :: .int (H jm_SCR (i + 1)) :: .ref 0 :: []) (h := (jm_hp H rho mu)) rfl rfl hL hi hL2 (by decide)]
    exact jm_go_call (q := (86, .ref 0 :: [.int (H jm_SCR (i + 1)), .int (H jm_SCR (i + 2)), .int (H jm_SCR (i + 3))], [])) rfl
  · intro x H1 rho1 mu1 hS hC
    have hL3 : (jm_hp H1 rho1 mu1).1 jm_SCL 0 = nI L := (congrFun hC 0).trans hL
    rw [jm_go_steps 1 (show jm_steps 245 1 (487, jlw_L i, [.int x], (jm_hp H1 rho1 mu1)) = some (488, jlw_L i, .ref 57 :: [.int x], (jm_hp H1 rho1 mu1)) from rfl)]
    rw [jlw_g (pc := 488) (p4 := 492) (p5 := 493) (k := 1) (st := .ref 57 :: [.int x]) (h := (jm_hp H1 rho1 mu1)) rfl rfl hL3 hi hL2 (by decide)]
    rw [jlw_g (pc := 493) (p4 := 497) (p5 := 498) (k := 2) (st := .int (H1 jm_SCR (i + 1)) :: .ref 57 :: [.int x]) (h := (jm_hp H1 rho1 mu1)) rfl rfl hL3 hi hL2 (by decide)]
    rw [jlw_g (pc := 498) (p4 := 502) (p5 := 503) (k := 3) (st := .int (H1 jm_SCR (i + 2)) :: .int (H1 jm_SCR (i + 1)) :: .ref 57 :: [.int x]) (h := (jm_hp H1 rho1 mu1)) rfl rfl hL3 hi hL2 (by decide)]
    rw [← hS]
    exact jm_go_call (q := (173, .ref 57 :: [.int (H1 jm_SCR (i + 1)), .int (H1 jm_SCR (i + 2)), .int (H1 jm_SCR (i + 3))], [.int x])) rfl
  · intro x h
    refine jm_go_next (show jm_step 245 (506, jlw_L i, [.int x, .int x], h) = some (.inl (1729, jlw_L i, [], h)) from ?_)
    exact (show jm_step 245 (506, jlw_L i, [.int x, .int x], h) = some (.inl (if x = x then 1729 else 509, jlw_L i, [], h)) from rfl).trans (by rw [if_pos rfl])
set_option maxRecDepth 20000 in
theorem jlw_person : jlw_Z 511 := by
  intro i L H rho mu hi hL2 hL hV hmu
  refine jlw_ti (p2 := 525) (p3 := 539) (yc := 87) (ym := 174) (jq_person (H jm_SCR (i + 1)) (H jm_SCR (i + 2))) rfl hV hmu ?_ ?_ ?_
  · rw [jm_go_steps 1 (show jm_steps 245 1 (511, jlw_L i, [], (jm_hp H rho mu)) = some (512, jlw_L i, .ref 0 :: [], (jm_hp H rho mu)) from rfl)]
    rw [jlw_g (pc := 512) (p4 := 516) (p5 := 517) (k := 1) (st := .ref 0 :: []) (h := (jm_hp H rho mu)) rfl rfl hL hi hL2 (by decide)]
    rw [jlw_g (pc := 517) (p4 := 521) (p5 := 522) (k := 2) (st := .int (H jm_SCR (i + 1)) :: .ref 0 :: []) (h := (jm_hp H rho mu)) rfl rfl hL hi hL2 (by decide)]
    exact jm_go_call (q := (87, .ref 0 :: [.int (H jm_SCR (i + 1)), .int (H jm_SCR (i + 2))], [])) rfl
  · intro x H1 rho1 mu1 hS hC
    have hL3 : (jm_hp H1 rho1 mu1).1 jm_SCL 0 = nI L := (congrFun hC 0).trans hL
    rw [jm_go_steps 1 (show jm_steps 245 1 (525, jlw_L i, [.int x], (jm_hp H1 rho1 mu1)) = some (526, jlw_L i, .ref 57 :: [.int x], (jm_hp H1 rho1 mu1)) from rfl)]
    rw [jlw_g (pc := 526) (p4 := 530) (p5 := 531) (k := 1) (st := .ref 57 :: [.int x]) (h := (jm_hp H1 rho1 mu1)) rfl rfl hL3 hi hL2 (by decide)]
    rw [jlw_g (pc := 531) (p4 := 535) (p5 := 536) (k := 2) (st := .int (H1 jm_SCR (i + 1)) :: .ref 57 :: [.int x]) (h := (jm_hp H1 rho1 mu1)) rfl rfl hL3 hi hL2 (by decide)]
    rw [← hS]
    exact jm_go_call (q := (174, .ref 57 :: [.int (H1 jm_SCR (i + 1)), .int (H1 jm_SCR (i + 2))], [.int x])) rfl
  · intro x h
    refine jm_go_next (show jm_step 245 (539, jlw_L i, [.int x, .int x], h) = some (.inl (1729, jlw_L i, [], h)) from ?_)
    exact (show jm_step 245 (539, jlw_L i, [.int x, .int x], h) = some (.inl (if x = x then 1729 else 542, jlw_L i, [], h)) from rfl).trans (by rw [if_pos rfl])
set_option maxRecDepth 20000 in
theorem jlw_put : jlw_Z 544 := by
  intro i L H rho mu hi hL2 hL hV hmu
  refine jlw_ti (p2 := 563) (p3 := 582) (yc := 88) (ym := 175) (jq_put (H jm_SCR (i + 1)) (H jm_SCR (i + 2)) (H jm_SCR (i + 3))) rfl hV hmu ?_ ?_ ?_
  · rw [jm_go_steps 1 (show jm_steps 245 1 (544, jlw_L i, [], (jm_hp H rho mu)) = some (545, jlw_L i, .ref 0 :: [], (jm_hp H rho mu)) from rfl)]
    rw [jlw_g (pc := 545) (p4 := 549) (p5 := 550) (k := 1) (st := .ref 0 :: []) (h := (jm_hp H rho mu)) rfl rfl hL hi hL2 (by decide)]
    rw [jlw_g (pc := 550) (p4 := 554) (p5 := 555) (k := 2) (st := .int (H jm_SCR (i + 1)) :: .ref 0 :: []) (h := (jm_hp H rho mu)) rfl rfl hL hi hL2 (by decide)]
    rw [jlw_g (pc := 555) (p4 := 559) (p5 := 560) (k := 3) (st := .int (H jm_SCR (i + 2)) :: .int (H jm_SCR (i + 1)) :: .ref 0 :: []) (h := (jm_hp H rho mu)) rfl rfl hL hi hL2 (by decide)]
    exact jm_go_call (q := (88, .ref 0 :: [.int (H jm_SCR (i + 1)), .int (H jm_SCR (i + 2)), .int (H jm_SCR (i + 3))], [])) rfl
  · intro x H1 rho1 mu1 hS hC
    have hL3 : (jm_hp H1 rho1 mu1).1 jm_SCL 0 = nI L := (congrFun hC 0).trans hL
    rw [jm_go_steps 1 (show jm_steps 245 1 (563, jlw_L i, [.int x], (jm_hp H1 rho1 mu1)) = some (564, jlw_L i, .ref 57 :: [.int x], (jm_hp H1 rho1 mu1)) from rfl)]
    rw [jlw_g (pc := 564) (p4 := 568) (p5 := 569) (k := 1) (st := .ref 57 :: [.int x]) (h := (jm_hp H1 rho1 mu1)) rfl rfl hL3 hi hL2 (by decide)]
    rw [jlw_g (pc := 569) (p4 := 573) (p5 := 574) (k := 2) (st := .int (H1 jm_SCR (i + 1)) :: .ref 57 :: [.int x]) (h := (jm_hp H1 rho1 mu1)) rfl rfl hL3 hi hL2 (by decide)]
    rw [jlw_g (pc := 574) (p4 := 578) (p5 := 579) (k := 3) (st := .int (H1 jm_SCR (i + 2)) :: .int (H1 jm_SCR (i + 1)) :: .ref 57 :: [.int x]) (h := (jm_hp H1 rho1 mu1)) rfl rfl hL3 hi hL2 (by decide)]
    rw [← hS]
    exact jm_go_call (q := (175, .ref 57 :: [.int (H1 jm_SCR (i + 1)), .int (H1 jm_SCR (i + 2)), .int (H1 jm_SCR (i + 3))], [.int x])) rfl
  · intro x h
    refine jm_go_next (show jm_step 245 (582, jlw_L i, [.int x, .int x], h) = some (.inl (1729, jlw_L i, [], h)) from ?_)
    exact (show jm_step 245 (582, jlw_L i, [.int x, .int x], h) = some (.inl (if x = x then 1729 else 585, jlw_L i, [], h)) from rfl).trans (by rw [if_pos rfl])
set_option maxRecDepth 20000 in
theorem jlw_told : jlw_Z 587 := by
  intro i L H rho mu hi hL2 hL hV hmu
  refine jlw_ti (p2 := 601) (p3 := 615) (yc := 89) (ym := 186) (jq_told (H jm_SCR (i + 1)) (H jm_SCR (i + 2))) rfl hV hmu ?_ ?_ ?_
  · rw [jm_go_steps 1 (show jm_steps 245 1 (587, jlw_L i, [], (jm_hp H rho mu)) = some (588, jlw_L i, .ref 0 :: [], (jm_hp H rho mu)) from rfl)]
    rw [jlw_g (pc := 588) (p4 := 592) (p5 := 593) (k := 1) (st := .ref 0 :: []) (h := (jm_hp H rho mu)) rfl rfl hL hi hL2 (by decide)]
    rw [jlw_g (pc := 593) (p4 := 597) (p5 := 598) (k := 2) (st := .int (H jm_SCR (i + 1)) :: .ref 0 :: []) (h := (jm_hp H rho mu)) rfl rfl hL hi hL2 (by decide)]
    exact jm_go_call (q := (89, .ref 0 :: [.int (H jm_SCR (i + 1)), .int (H jm_SCR (i + 2))], [])) rfl
  · intro x H1 rho1 mu1 hS hC
    have hL3 : (jm_hp H1 rho1 mu1).1 jm_SCL 0 = nI L := (congrFun hC 0).trans hL
    rw [jm_go_steps 1 (show jm_steps 245 1 (601, jlw_L i, [.int x], (jm_hp H1 rho1 mu1)) = some (602, jlw_L i, .ref 57 :: [.int x], (jm_hp H1 rho1 mu1)) from rfl)]
    rw [jlw_g (pc := 602) (p4 := 606) (p5 := 607) (k := 1) (st := .ref 57 :: [.int x]) (h := (jm_hp H1 rho1 mu1)) rfl rfl hL3 hi hL2 (by decide)]
    rw [jlw_g (pc := 607) (p4 := 611) (p5 := 612) (k := 2) (st := .int (H1 jm_SCR (i + 1)) :: .ref 57 :: [.int x]) (h := (jm_hp H1 rho1 mu1)) rfl rfl hL3 hi hL2 (by decide)]
    rw [← hS]
    exact jm_go_call (q := (186, .ref 57 :: [.int (H1 jm_SCR (i + 1)), .int (H1 jm_SCR (i + 2))], [.int x])) rfl
  · intro x h
    refine jm_go_next (show jm_step 245 (615, jlw_L i, [.int x, .int x], h) = some (.inl (1729, jlw_L i, [], h)) from ?_)
    exact (show jm_step 245 (615, jlw_L i, [.int x, .int x], h) = some (.inl (if x = x then 1729 else 618, jlw_L i, [], h)) from rfl).trans (by rw [if_pos rfl])
set_option maxRecDepth 20000 in
theorem jlw_open : jlw_Z 620 := by
  intro i L H rho mu hi hL2 hL hV hmu
  refine jlw_ti (p2 := 634) (p3 := 648) (yc := 90) (ym := 190) (jq_open (H jm_SCR (i + 1)) (H jm_SCR (i + 2))) rfl hV hmu ?_ ?_ ?_
  · rw [jm_go_steps 1 (show jm_steps 245 1 (620, jlw_L i, [], (jm_hp H rho mu)) = some (621, jlw_L i, .ref 0 :: [], (jm_hp H rho mu)) from rfl)]
    rw [jlw_g (pc := 621) (p4 := 625) (p5 := 626) (k := 1) (st := .ref 0 :: []) (h := (jm_hp H rho mu)) rfl rfl hL hi hL2 (by decide)]
    rw [jlw_g (pc := 626) (p4 := 630) (p5 := 631) (k := 2) (st := .int (H jm_SCR (i + 1)) :: .ref 0 :: []) (h := (jm_hp H rho mu)) rfl rfl hL hi hL2 (by decide)]
    exact jm_go_call (q := (90, .ref 0 :: [.int (H jm_SCR (i + 1)), .int (H jm_SCR (i + 2))], [])) rfl
  · intro x H1 rho1 mu1 hS hC
    have hL3 : (jm_hp H1 rho1 mu1).1 jm_SCL 0 = nI L := (congrFun hC 0).trans hL
    rw [jm_go_steps 1 (show jm_steps 245 1 (634, jlw_L i, [.int x], (jm_hp H1 rho1 mu1)) = some (635, jlw_L i, .ref 57 :: [.int x], (jm_hp H1 rho1 mu1)) from rfl)]
    rw [jlw_g (pc := 635) (p4 := 639) (p5 := 640) (k := 1) (st := .ref 57 :: [.int x]) (h := (jm_hp H1 rho1 mu1)) rfl rfl hL3 hi hL2 (by decide)]
    rw [jlw_g (pc := 640) (p4 := 644) (p5 := 645) (k := 2) (st := .int (H1 jm_SCR (i + 1)) :: .ref 57 :: [.int x]) (h := (jm_hp H1 rho1 mu1)) rfl rfl hL3 hi hL2 (by decide)]
    rw [← hS]
    exact jm_go_call (q := (190, .ref 57 :: [.int (H1 jm_SCR (i + 1)), .int (H1 jm_SCR (i + 2))], [.int x])) rfl
  · intro x h
    refine jm_go_next (show jm_step 245 (648, jlw_L i, [.int x, .int x], h) = some (.inl (1729, jlw_L i, [], h)) from ?_)
    exact (show jm_step 245 (648, jlw_L i, [.int x, .int x], h) = some (.inl (if x = x then 1729 else 651, jlw_L i, [], h)) from rfl).trans (by rw [if_pos rfl])
set_option maxRecDepth 20000 in
theorem jlw_after : jlw_Z 653 := by
  intro i L H rho mu hi hL2 hL hV hmu
  refine jlw_ti (p2 := 672) (p3 := 691) (yc := 91) (ym := 191) (jq_after (H jm_SCR (i + 1)) (H jm_SCR (i + 2)) (H jm_SCR (i + 3))) rfl hV hmu ?_ ?_ ?_
  · rw [jm_go_steps 1 (show jm_steps 245 1 (653, jlw_L i, [], (jm_hp H rho mu)) = some (654, jlw_L i, .ref 0 :: [], (jm_hp H rho mu)) from rfl)]
    rw [jlw_g (pc := 654) (p4 := 658) (p5 := 659) (k := 1) (st := .ref 0 :: []) (h := (jm_hp H rho mu)) rfl rfl hL hi hL2 (by decide)]
    rw [jlw_g (pc := 659) (p4 := 663) (p5 := 664) (k := 2) (st := .int (H jm_SCR (i + 1)) :: .ref 0 :: []) (h := (jm_hp H rho mu)) rfl rfl hL hi hL2 (by decide)]
    rw [jlw_g (pc := 664) (p4 := 668) (p5 := 669) (k := 3) (st := .int (H jm_SCR (i + 2)) :: .int (H jm_SCR (i + 1)) :: .ref 0 :: []) (h := (jm_hp H rho mu)) rfl rfl hL hi hL2 (by decide)]
    exact jm_go_call (q := (91, .ref 0 :: [.int (H jm_SCR (i + 1)), .int (H jm_SCR (i + 2)), .int (H jm_SCR (i + 3))], [])) rfl
  · intro x H1 rho1 mu1 hS hC
    have hL3 : (jm_hp H1 rho1 mu1).1 jm_SCL 0 = nI L := (congrFun hC 0).trans hL
    rw [jm_go_steps 1 (show jm_steps 245 1 (672, jlw_L i, [.int x], (jm_hp H1 rho1 mu1)) = some (673, jlw_L i, .ref 57 :: [.int x], (jm_hp H1 rho1 mu1)) from rfl)]
    rw [jlw_g (pc := 673) (p4 := 677) (p5 := 678) (k := 1) (st := .ref 57 :: [.int x]) (h := (jm_hp H1 rho1 mu1)) rfl rfl hL3 hi hL2 (by decide)]
    rw [jlw_g (pc := 678) (p4 := 682) (p5 := 683) (k := 2) (st := .int (H1 jm_SCR (i + 1)) :: .ref 57 :: [.int x]) (h := (jm_hp H1 rho1 mu1)) rfl rfl hL3 hi hL2 (by decide)]
    rw [jlw_g (pc := 683) (p4 := 687) (p5 := 688) (k := 3) (st := .int (H1 jm_SCR (i + 2)) :: .int (H1 jm_SCR (i + 1)) :: .ref 57 :: [.int x]) (h := (jm_hp H1 rho1 mu1)) rfl rfl hL3 hi hL2 (by decide)]
    rw [← hS]
    exact jm_go_call (q := (191, .ref 57 :: [.int (H1 jm_SCR (i + 1)), .int (H1 jm_SCR (i + 2)), .int (H1 jm_SCR (i + 3))], [.int x])) rfl
  · intro x h
    refine jm_go_next (show jm_step 245 (691, jlw_L i, [.int x, .int x], h) = some (.inl (1729, jlw_L i, [], h)) from ?_)
    exact (show jm_step 245 (691, jlw_L i, [.int x, .int x], h) = some (.inl (if x = x then 1729 else 694, jlw_L i, [], h)) from rfl).trans (by rw [if_pos rfl])
set_option maxRecDepth 20000 in
theorem jlw_safe : jlw_Z 696 := by
  intro i L H rho mu hi hL2 hL hV hmu
  refine jlw_ti (p2 := 710) (p3 := 724) (yc := 92) (ym := 192) (jq_safe (H jm_SCR (i + 1)) (H jm_SCR (i + 2))) rfl hV hmu ?_ ?_ ?_
  · rw [jm_go_steps 1 (show jm_steps 245 1 (696, jlw_L i, [], (jm_hp H rho mu)) = some (697, jlw_L i, .ref 0 :: [], (jm_hp H rho mu)) from rfl)]
    rw [jlw_g (pc := 697) (p4 := 701) (p5 := 702) (k := 1) (st := .ref 0 :: []) (h := (jm_hp H rho mu)) rfl rfl hL hi hL2 (by decide)]
    rw [jlw_g (pc := 702) (p4 := 706) (p5 := 707) (k := 2) (st := .int (H jm_SCR (i + 1)) :: .ref 0 :: []) (h := (jm_hp H rho mu)) rfl rfl hL hi hL2 (by decide)]
    exact jm_go_call (q := (92, .ref 0 :: [.int (H jm_SCR (i + 1)), .int (H jm_SCR (i + 2))], [])) rfl
  · intro x H1 rho1 mu1 hS hC
    have hL3 : (jm_hp H1 rho1 mu1).1 jm_SCL 0 = nI L := (congrFun hC 0).trans hL
    rw [jm_go_steps 1 (show jm_steps 245 1 (710, jlw_L i, [.int x], (jm_hp H1 rho1 mu1)) = some (711, jlw_L i, .ref 57 :: [.int x], (jm_hp H1 rho1 mu1)) from rfl)]
    rw [jlw_g (pc := 711) (p4 := 715) (p5 := 716) (k := 1) (st := .ref 57 :: [.int x]) (h := (jm_hp H1 rho1 mu1)) rfl rfl hL3 hi hL2 (by decide)]
    rw [jlw_g (pc := 716) (p4 := 720) (p5 := 721) (k := 2) (st := .int (H1 jm_SCR (i + 1)) :: .ref 57 :: [.int x]) (h := (jm_hp H1 rho1 mu1)) rfl rfl hL3 hi hL2 (by decide)]
    rw [← hS]
    exact jm_go_call (q := (192, .ref 57 :: [.int (H1 jm_SCR (i + 1)), .int (H1 jm_SCR (i + 2))], [.int x])) rfl
  · intro x h
    refine jm_go_next (show jm_step 245 (724, jlw_L i, [.int x, .int x], h) = some (.inl (1729, jlw_L i, [], h)) from ?_)
    exact (show jm_step 245 (724, jlw_L i, [.int x, .int x], h) = some (.inl (if x = x then 1729 else 727, jlw_L i, [], h)) from rfl).trans (by rw [if_pos rfl])
set_option maxRecDepth 20000 in
theorem jlw_way : jlw_Z 729 := by
  intro i L H rho mu hi hL2 hL hV hmu
  refine jlw_ti (p2 := 748) (p3 := 767) (yc := 93) (ym := 195) (jq_way (H jm_SCR (i + 1)) (H jm_SCR (i + 2)) (H jm_SCR (i + 3))) rfl hV hmu ?_ ?_ ?_
  · rw [jm_go_steps 1 (show jm_steps 245 1 (729, jlw_L i, [], (jm_hp H rho mu)) = some (730, jlw_L i, .ref 0 :: [], (jm_hp H rho mu)) from rfl)]
    rw [jlw_g (pc := 730) (p4 := 734) (p5 := 735) (k := 1) (st := .ref 0 :: []) (h := (jm_hp H rho mu)) rfl rfl hL hi hL2 (by decide)]
    rw [jlw_g (pc := 735) (p4 := 739) (p5 := 740) (k := 2) (st := .int (H jm_SCR (i + 1)) :: .ref 0 :: []) (h := (jm_hp H rho mu)) rfl rfl hL hi hL2 (by decide)]
    rw [jlw_g (pc := 740) (p4 := 744) (p5 := 745) (k := 3) (st := .int (H jm_SCR (i + 2)) :: .int (H jm_SCR (i + 1)) :: .ref 0 :: []) (h := (jm_hp H rho mu)) rfl rfl hL hi hL2 (by decide)]
    exact jm_go_call (q := (93, .ref 0 :: [.int (H jm_SCR (i + 1)), .int (H jm_SCR (i + 2)), .int (H jm_SCR (i + 3))], [])) rfl
  · intro x H1 rho1 mu1 hS hC
    have hL3 : (jm_hp H1 rho1 mu1).1 jm_SCL 0 = nI L := (congrFun hC 0).trans hL
    rw [jm_go_steps 1 (show jm_steps 245 1 (748, jlw_L i, [.int x], (jm_hp H1 rho1 mu1)) = some (749, jlw_L i, .ref 57 :: [.int x], (jm_hp H1 rho1 mu1)) from rfl)]
    rw [jlw_g (pc := 749) (p4 := 753) (p5 := 754) (k := 1) (st := .ref 57 :: [.int x]) (h := (jm_hp H1 rho1 mu1)) rfl rfl hL3 hi hL2 (by decide)]
    rw [jlw_g (pc := 754) (p4 := 758) (p5 := 759) (k := 2) (st := .int (H1 jm_SCR (i + 1)) :: .ref 57 :: [.int x]) (h := (jm_hp H1 rho1 mu1)) rfl rfl hL3 hi hL2 (by decide)]
    rw [jlw_g (pc := 759) (p4 := 763) (p5 := 764) (k := 3) (st := .int (H1 jm_SCR (i + 2)) :: .int (H1 jm_SCR (i + 1)) :: .ref 57 :: [.int x]) (h := (jm_hp H1 rho1 mu1)) rfl rfl hL3 hi hL2 (by decide)]
    rw [← hS]
    exact jm_go_call (q := (195, .ref 57 :: [.int (H1 jm_SCR (i + 1)), .int (H1 jm_SCR (i + 2)), .int (H1 jm_SCR (i + 3))], [.int x])) rfl
  · intro x h
    refine jm_go_next (show jm_step 245 (767, jlw_L i, [.int x, .int x], h) = some (.inl (1729, jlw_L i, [], h)) from ?_)
    exact (show jm_step 245 (767, jlw_L i, [.int x, .int x], h) = some (.inl (if x = x then 1729 else 770, jlw_L i, [], h)) from rfl).trans (by rw [if_pos rfl])
set_option maxRecDepth 20000 in
theorem jlw_together : jlw_Z 772 := by
  intro i L H rho mu hi hL2 hL hV hmu
  refine jlw_ti (p2 := 786) (p3 := 800) (yc := 94) (ym := 196) (jq_together (H jm_SCR (i + 1)) (H jm_SCR (i + 2))) rfl hV hmu ?_ ?_ ?_
  · rw [jm_go_steps 1 (show jm_steps 245 1 (772, jlw_L i, [], (jm_hp H rho mu)) = some (773, jlw_L i, .ref 0 :: [], (jm_hp H rho mu)) from rfl)]
    rw [jlw_g (pc := 773) (p4 := 777) (p5 := 778) (k := 1) (st := .ref 0 :: []) (h := (jm_hp H rho mu)) rfl rfl hL hi hL2 (by decide)]
    rw [jlw_g (pc := 778) (p4 := 782) (p5 := 783) (k := 2) (st := .int (H jm_SCR (i + 1)) :: .ref 0 :: []) (h := (jm_hp H rho mu)) rfl rfl hL hi hL2 (by decide)]
    exact jm_go_call (q := (94, .ref 0 :: [.int (H jm_SCR (i + 1)), .int (H jm_SCR (i + 2))], [])) rfl
  · intro x H1 rho1 mu1 hS hC
    have hL3 : (jm_hp H1 rho1 mu1).1 jm_SCL 0 = nI L := (congrFun hC 0).trans hL
    rw [jm_go_steps 1 (show jm_steps 245 1 (786, jlw_L i, [.int x], (jm_hp H1 rho1 mu1)) = some (787, jlw_L i, .ref 57 :: [.int x], (jm_hp H1 rho1 mu1)) from rfl)]
    rw [jlw_g (pc := 787) (p4 := 791) (p5 := 792) (k := 1) (st := .ref 57 :: [.int x]) (h := (jm_hp H1 rho1 mu1)) rfl rfl hL3 hi hL2 (by decide)]
    rw [jlw_g (pc := 792) (p4 := 796) (p5 := 797) (k := 2) (st := .int (H1 jm_SCR (i + 1)) :: .ref 57 :: [.int x]) (h := (jm_hp H1 rho1 mu1)) rfl rfl hL3 hi hL2 (by decide)]
    rw [← hS]
    exact jm_go_call (q := (196, .ref 57 :: [.int (H1 jm_SCR (i + 1)), .int (H1 jm_SCR (i + 2))], [.int x])) rfl
  · intro x h
    refine jm_go_next (show jm_step 245 (800, jlw_L i, [.int x, .int x], h) = some (.inl (1729, jlw_L i, [], h)) from ?_)
    exact (show jm_step 245 (800, jlw_L i, [.int x, .int x], h) = some (.inl (if x = x then 1729 else 803, jlw_L i, [], h)) from rfl).trans (by rw [if_pos rfl])
set_option maxRecDepth 20000 in
theorem jlw_friend : jlw_Z 805 := by
  intro i L H rho mu hi hL2 hL hV hmu
  refine jlw_ti (p2 := 819) (p3 := 833) (yc := 95) (ym := 197) (jq_friend (H jm_SCR (i + 1)) (H jm_SCR (i + 2))) rfl hV hmu ?_ ?_ ?_
  · rw [jm_go_steps 1 (show jm_steps 245 1 (805, jlw_L i, [], (jm_hp H rho mu)) = some (806, jlw_L i, .ref 0 :: [], (jm_hp H rho mu)) from rfl)]
    rw [jlw_g (pc := 806) (p4 := 810) (p5 := 811) (k := 1) (st := .ref 0 :: []) (h := (jm_hp H rho mu)) rfl rfl hL hi hL2 (by decide)]
    rw [jlw_g (pc := 811) (p4 := 815) (p5 := 816) (k := 2) (st := .int (H jm_SCR (i + 1)) :: .ref 0 :: []) (h := (jm_hp H rho mu)) rfl rfl hL hi hL2 (by decide)]
    exact jm_go_call (q := (95, .ref 0 :: [.int (H jm_SCR (i + 1)), .int (H jm_SCR (i + 2))], [])) rfl
  · intro x H1 rho1 mu1 hS hC
    have hL3 : (jm_hp H1 rho1 mu1).1 jm_SCL 0 = nI L := (congrFun hC 0).trans hL
    rw [jm_go_steps 1 (show jm_steps 245 1 (819, jlw_L i, [.int x], (jm_hp H1 rho1 mu1)) = some (820, jlw_L i, .ref 57 :: [.int x], (jm_hp H1 rho1 mu1)) from rfl)]
    rw [jlw_g (pc := 820) (p4 := 824) (p5 := 825) (k := 1) (st := .ref 57 :: [.int x]) (h := (jm_hp H1 rho1 mu1)) rfl rfl hL3 hi hL2 (by decide)]
    rw [jlw_g (pc := 825) (p4 := 829) (p5 := 830) (k := 2) (st := .int (H1 jm_SCR (i + 1)) :: .ref 57 :: [.int x]) (h := (jm_hp H1 rho1 mu1)) rfl rfl hL3 hi hL2 (by decide)]
    rw [← hS]
    exact jm_go_call (q := (197, .ref 57 :: [.int (H1 jm_SCR (i + 1)), .int (H1 jm_SCR (i + 2))], [.int x])) rfl
  · intro x h
    refine jm_go_next (show jm_step 245 (833, jlw_L i, [.int x, .int x], h) = some (.inl (1729, jlw_L i, [], h)) from ?_)
    exact (show jm_step 245 (833, jlw_L i, [.int x, .int x], h) = some (.inl (if x = x then 1729 else 836, jlw_L i, [], h)) from rfl).trans (by rw [if_pos rfl])
set_option maxRecDepth 20000 in
theorem jlw_worst : jlw_Z 838 := by
  intro i L H rho mu hi hL2 hL hV hmu
  refine jlw_ti (p2 := 847) (p3 := 856) (yc := 96) (ym := 198) (jq_worst (H jm_SCR (i + 1))) rfl hV hmu ?_ ?_ ?_
  · rw [jm_go_steps 1 (show jm_steps 245 1 (838, jlw_L i, [], (jm_hp H rho mu)) = some (839, jlw_L i, .ref 0 :: [], (jm_hp H rho mu)) from rfl)]
    rw [jlw_g (pc := 839) (p4 := 843) (p5 := 844) (k := 1) (st := .ref 0 :: []) (h := (jm_hp H rho mu)) rfl rfl hL hi hL2 (by decide)]
    exact jm_go_call (q := (96, .ref 0 :: [.int (H jm_SCR (i + 1))], [])) rfl
  · intro x H1 rho1 mu1 hS hC
    have hL3 : (jm_hp H1 rho1 mu1).1 jm_SCL 0 = nI L := (congrFun hC 0).trans hL
    rw [jm_go_steps 1 (show jm_steps 245 1 (847, jlw_L i, [.int x], (jm_hp H1 rho1 mu1)) = some (848, jlw_L i, .ref 57 :: [.int x], (jm_hp H1 rho1 mu1)) from rfl)]
    rw [jlw_g (pc := 848) (p4 := 852) (p5 := 853) (k := 1) (st := .ref 57 :: [.int x]) (h := (jm_hp H1 rho1 mu1)) rfl rfl hL3 hi hL2 (by decide)]
    rw [← hS]
    exact jm_go_call (q := (198, .ref 57 :: [.int (H1 jm_SCR (i + 1))], [.int x])) rfl
  · intro x h
    refine jm_go_next (show jm_step 245 (856, jlw_L i, [.int x, .int x], h) = some (.inl (1729, jlw_L i, [], h)) from ?_)
    exact (show jm_step 245 (856, jlw_L i, [.int x, .int x], h) = some (.inl (if x = x then 1729 else 859, jlw_L i, [], h)) from rfl).trans (by rw [if_pos rfl])
set_option maxRecDepth 20000 in
theorem jlw_mason : jlw_Z 861 := by
  intro i L H rho mu hi hL2 hL hV hmu
  refine jlw_ti (p2 := 870) (p3 := 879) (yc := 97) (ym := 200) (jq_mason (H jm_SCR (i + 1))) rfl hV hmu ?_ ?_ ?_
  · rw [jm_go_steps 1 (show jm_steps 245 1 (861, jlw_L i, [], (jm_hp H rho mu)) = some (862, jlw_L i, .ref 0 :: [], (jm_hp H rho mu)) from rfl)]
    rw [jlw_g (pc := 862) (p4 := 866) (p5 := 867) (k := 1) (st := .ref 0 :: []) (h := (jm_hp H rho mu)) rfl rfl hL hi hL2 (by decide)]
    exact jm_go_call (q := (97, .ref 0 :: [.int (H jm_SCR (i + 1))], [])) rfl
  · intro x H1 rho1 mu1 hS hC
    have hL3 : (jm_hp H1 rho1 mu1).1 jm_SCL 0 = nI L := (congrFun hC 0).trans hL
    rw [jm_go_steps 1 (show jm_steps 245 1 (870, jlw_L i, [.int x], (jm_hp H1 rho1 mu1)) = some (871, jlw_L i, .ref 57 :: [.int x], (jm_hp H1 rho1 mu1)) from rfl)]
    rw [jlw_g (pc := 871) (p4 := 875) (p5 := 876) (k := 1) (st := .ref 57 :: [.int x]) (h := (jm_hp H1 rho1 mu1)) rfl rfl hL3 hi hL2 (by decide)]
    rw [← hS]
    exact jm_go_call (q := (200, .ref 57 :: [.int (H1 jm_SCR (i + 1))], [.int x])) rfl
  · intro x h
    refine jm_go_next (show jm_step 245 (879, jlw_L i, [.int x, .int x], h) = some (.inl (1729, jlw_L i, [], h)) from ?_)
    exact (show jm_step 245 (879, jlw_L i, [.int x, .int x], h) = some (.inl (if x = x then 1729 else 882, jlw_L i, [], h)) from rfl).trans (by rw [if_pos rfl])
set_option maxRecDepth 20000 in
theorem jlw_watch : jlw_Z 884 := by
  intro i L H rho mu hi hL2 hL hV hmu
  refine jlw_ti (p2 := 898) (p3 := 912) (yc := 98) (ym := 202) (jq_watch (H jm_SCR (i + 1)) (H jm_SCR (i + 2))) rfl hV hmu ?_ ?_ ?_
  · rw [jm_go_steps 1 (show jm_steps 245 1 (884, jlw_L i, [], (jm_hp H rho mu)) = some (885, jlw_L i, .ref 0 :: [], (jm_hp H rho mu)) from rfl)]
    rw [jlw_g (pc := 885) (p4 := 889) (p5 := 890) (k := 1) (st := .ref 0 :: []) (h := (jm_hp H rho mu)) rfl rfl hL hi hL2 (by decide)]
    rw [jlw_g (pc := 890) (p4 := 894) (p5 := 895) (k := 2) (st := .int (H jm_SCR (i + 1)) :: .ref 0 :: []) (h := (jm_hp H rho mu)) rfl rfl hL hi hL2 (by decide)]
    exact jm_go_call (q := (98, .ref 0 :: [.int (H jm_SCR (i + 1)), .int (H jm_SCR (i + 2))], [])) rfl
  · intro x H1 rho1 mu1 hS hC
    have hL3 : (jm_hp H1 rho1 mu1).1 jm_SCL 0 = nI L := (congrFun hC 0).trans hL
    rw [jm_go_steps 1 (show jm_steps 245 1 (898, jlw_L i, [.int x], (jm_hp H1 rho1 mu1)) = some (899, jlw_L i, .ref 57 :: [.int x], (jm_hp H1 rho1 mu1)) from rfl)]
    rw [jlw_g (pc := 899) (p4 := 903) (p5 := 904) (k := 1) (st := .ref 57 :: [.int x]) (h := (jm_hp H1 rho1 mu1)) rfl rfl hL3 hi hL2 (by decide)]
    rw [jlw_g (pc := 904) (p4 := 908) (p5 := 909) (k := 2) (st := .int (H1 jm_SCR (i + 1)) :: .ref 57 :: [.int x]) (h := (jm_hp H1 rho1 mu1)) rfl rfl hL3 hi hL2 (by decide)]
    rw [← hS]
    exact jm_go_call (q := (202, .ref 57 :: [.int (H1 jm_SCR (i + 1)), .int (H1 jm_SCR (i + 2))], [.int x])) rfl
  · intro x h
    refine jm_go_next (show jm_step 245 (912, jlw_L i, [.int x, .int x], h) = some (.inl (1729, jlw_L i, [], h)) from ?_)
    exact (show jm_step 245 (912, jlw_L i, [.int x, .int x], h) = some (.inl (if x = x then 1729 else 915, jlw_L i, [], h)) from rfl).trans (by rw [if_pos rfl])
set_option maxRecDepth 20000 in
theorem jlw_doomed : jlw_Z 917 := by
  intro i L H rho mu hi hL2 hL hV hmu
  refine jlw_ti (p2 := 921) (p3 := 925) (yc := 99) (ym := 203) (jq_doomed) rfl hV hmu ?_ ?_ ?_
  · rw [jm_go_steps 1 (show jm_steps 245 1 (917, jlw_L i, [], (jm_hp H rho mu)) = some (918, jlw_L i, .ref 0 :: [], (jm_hp H rho mu)) from rfl)]
    exact jm_go_call (q := (99, .ref 0 :: [], [])) rfl
  · intro x H1 rho1 mu1 hS hC
    have hL3 : (jm_hp H1 rho1 mu1).1 jm_SCL 0 = nI L := (congrFun hC 0).trans hL
    rw [jm_go_steps 1 (show jm_steps 245 1 (921, jlw_L i, [.int x], (jm_hp H1 rho1 mu1)) = some (922, jlw_L i, .ref 57 :: [.int x], (jm_hp H1 rho1 mu1)) from rfl)]
    exact jm_go_call (q := (203, .ref 57 :: [], [.int x])) rfl
  · intro x h
    refine jm_go_next (show jm_step 245 (925, jlw_L i, [.int x, .int x], h) = some (.inl (1729, jlw_L i, [], h)) from ?_)
    exact (show jm_step 245 (925, jlw_L i, [.int x, .int x], h) = some (.inl (if x = x then 1729 else 928, jlw_L i, [], h)) from rfl).trans (by rw [if_pos rfl])
set_option maxRecDepth 20000 in
theorem jlw_share : jlw_Z 930 := by
  intro i L H rho mu hi hL2 hL hV hmu
  refine jlw_tl (p2 := 939) (p3 := 948) (yc := 100) (ym := 205) (jq_share (H jm_SCR (i + 1))) rfl hV hmu ?_ ?_ ?_
  · rw [jm_go_steps 1 (show jm_steps 245 1 (930, jlw_L i, [], (jm_hp H rho mu)) = some (931, jlw_L i, .ref 0 :: [], (jm_hp H rho mu)) from rfl)]
    rw [jlw_g (pc := 931) (p4 := 935) (p5 := 936) (k := 1) (st := .ref 0 :: []) (h := (jm_hp H rho mu)) rfl rfl hL hi hL2 (by decide)]
    exact jm_go_call (q := (100, .ref 0 :: [.int (H jm_SCR (i + 1))], [])) rfl
  · intro x H1 rho1 mu1 hS hC
    have hL3 : (jm_hp H1 rho1 mu1).1 jm_SCL 0 = nI L := (congrFun hC 0).trans hL
    rw [jm_go_steps 1 (show jm_steps 245 1 (939, jlw_L i, [.long x], (jm_hp H1 rho1 mu1)) = some (940, jlw_L i, .ref 57 :: [.long x], (jm_hp H1 rho1 mu1)) from rfl)]
    rw [jlw_g (pc := 940) (p4 := 944) (p5 := 945) (k := 1) (st := .ref 57 :: [.long x]) (h := (jm_hp H1 rho1 mu1)) rfl rfl hL3 hi hL2 (by decide)]
    rw [← hS]
    exact jm_go_call (q := (205, .ref 57 :: [.int (H1 jm_SCR (i + 1))], [.long x])) rfl
  · intro x h
    rw [jm_go_next (show jm_step 245 (948, jlw_L i, [.long x, .long x], h) = some (.inl (949, jlw_L i, [.int (lg_cmp x x)], h)) from rfl), jlw_lc]
    exact jm_go_next (show jm_step 245 (949, jlw_L i, [.int 0], h) = some (.inl (1729, jlw_L i, [], h)) from rfl)
set_option maxRecDepth 20000 in
theorem jlw_walk : jlw_Z 954 := by
  intro i L H rho mu hi hL2 hL hV hmu
  refine jlw_ti (p2 := 973) (p3 := 992) (yc := 101) (ym := 212) (jq_walk (H jm_SCR (i + 1)) (H jm_SCR (i + 2)) (H jm_SCR (i + 3))) rfl hV hmu ?_ ?_ ?_
  · rw [jm_go_steps 1 (show jm_steps 245 1 (954, jlw_L i, [], (jm_hp H rho mu)) = some (955, jlw_L i, .ref 0 :: [], (jm_hp H rho mu)) from rfl)]
    rw [jlw_g (pc := 955) (p4 := 959) (p5 := 960) (k := 1) (st := .ref 0 :: []) (h := (jm_hp H rho mu)) rfl rfl hL hi hL2 (by decide)]
    rw [jlw_g (pc := 960) (p4 := 964) (p5 := 965) (k := 2) (st := .int (H jm_SCR (i + 1)) :: .ref 0 :: []) (h := (jm_hp H rho mu)) rfl rfl hL hi hL2 (by decide)]
    rw [jlw_g (pc := 965) (p4 := 969) (p5 := 970) (k := 3) (st := .int (H jm_SCR (i + 2)) :: .int (H jm_SCR (i + 1)) :: .ref 0 :: []) (h := (jm_hp H rho mu)) rfl rfl hL hi hL2 (by decide)]
    exact jm_go_call (q := (101, .ref 0 :: [.int (H jm_SCR (i + 1)), .int (H jm_SCR (i + 2)), .int (H jm_SCR (i + 3))], [])) rfl
  · intro x H1 rho1 mu1 hS hC
    have hL3 : (jm_hp H1 rho1 mu1).1 jm_SCL 0 = nI L := (congrFun hC 0).trans hL
    rw [jm_go_steps 1 (show jm_steps 245 1 (973, jlw_L i, [.int x], (jm_hp H1 rho1 mu1)) = some (974, jlw_L i, .ref 57 :: [.int x], (jm_hp H1 rho1 mu1)) from rfl)]
    rw [jlw_g (pc := 974) (p4 := 978) (p5 := 979) (k := 1) (st := .ref 57 :: [.int x]) (h := (jm_hp H1 rho1 mu1)) rfl rfl hL3 hi hL2 (by decide)]
    rw [jlw_g (pc := 979) (p4 := 983) (p5 := 984) (k := 2) (st := .int (H1 jm_SCR (i + 1)) :: .ref 57 :: [.int x]) (h := (jm_hp H1 rho1 mu1)) rfl rfl hL3 hi hL2 (by decide)]
    rw [jlw_g (pc := 984) (p4 := 988) (p5 := 989) (k := 3) (st := .int (H1 jm_SCR (i + 2)) :: .int (H1 jm_SCR (i + 1)) :: .ref 57 :: [.int x]) (h := (jm_hp H1 rho1 mu1)) rfl rfl hL3 hi hL2 (by decide)]
    rw [← hS]
    exact jm_go_call (q := (212, .ref 57 :: [.int (H1 jm_SCR (i + 1)), .int (H1 jm_SCR (i + 2)), .int (H1 jm_SCR (i + 3))], [.int x])) rfl
  · intro x h
    refine jm_go_next (show jm_step 245 (992, jlw_L i, [.int x, .int x], h) = some (.inl (1729, jlw_L i, [], h)) from ?_)
    exact (show jm_step 245 (992, jlw_L i, [.int x, .int x], h) = some (.inl (if x = x then 1729 else 995, jlw_L i, [], h)) from rfl).trans (by rw [if_pos rfl])
set_option maxRecDepth 20000 in
theorem jlw_goes : jlw_Z 997 := by
  intro i L H rho mu hi hL2 hL hV hmu
  refine jlw_ti (p2 := 1011) (p3 := 1025) (yc := 102) (ym := 213) (jq_goes (H jm_SCR (i + 1)) (H jm_SCR (i + 2))) rfl hV hmu ?_ ?_ ?_
  · rw [jm_go_steps 1 (show jm_steps 245 1 (997, jlw_L i, [], (jm_hp H rho mu)) = some (998, jlw_L i, .ref 0 :: [], (jm_hp H rho mu)) from rfl)]
    rw [jlw_g (pc := 998) (p4 := 1002) (p5 := 1003) (k := 1) (st := .ref 0 :: []) (h := (jm_hp H rho mu)) rfl rfl hL hi hL2 (by decide)]
    rw [jlw_g (pc := 1003) (p4 := 1007) (p5 := 1008) (k := 2) (st := .int (H jm_SCR (i + 1)) :: .ref 0 :: []) (h := (jm_hp H rho mu)) rfl rfl hL hi hL2 (by decide)]
    exact jm_go_call (q := (102, .ref 0 :: [.int (H jm_SCR (i + 1)), .int (H jm_SCR (i + 2))], [])) rfl
  · intro x H1 rho1 mu1 hS hC
    have hL3 : (jm_hp H1 rho1 mu1).1 jm_SCL 0 = nI L := (congrFun hC 0).trans hL
    rw [jm_go_steps 1 (show jm_steps 245 1 (1011, jlw_L i, [.int x], (jm_hp H1 rho1 mu1)) = some (1012, jlw_L i, .ref 57 :: [.int x], (jm_hp H1 rho1 mu1)) from rfl)]
    rw [jlw_g (pc := 1012) (p4 := 1016) (p5 := 1017) (k := 1) (st := .ref 57 :: [.int x]) (h := (jm_hp H1 rho1 mu1)) rfl rfl hL3 hi hL2 (by decide)]
    rw [jlw_g (pc := 1017) (p4 := 1021) (p5 := 1022) (k := 2) (st := .int (H1 jm_SCR (i + 1)) :: .ref 57 :: [.int x]) (h := (jm_hp H1 rho1 mu1)) rfl rfl hL3 hi hL2 (by decide)]
    rw [← hS]
    exact jm_go_call (q := (213, .ref 57 :: [.int (H1 jm_SCR (i + 1)), .int (H1 jm_SCR (i + 2))], [.int x])) rfl
  · intro x h
    refine jm_go_next (show jm_step 245 (1025, jlw_L i, [.int x, .int x], h) = some (.inl (1729, jlw_L i, [], h)) from ?_)
    exact (show jm_step 245 (1025, jlw_L i, [.int x, .int x], h) = some (.inl (if x = x then 1729 else 1028, jlw_L i, [], h)) from rfl).trans (by rw [if_pos rfl])
set_option maxRecDepth 20000 in
theorem jlw_judge : jlw_Z 1030 := by
  intro i L H rho mu hi hL2 hL hV hmu
  refine jlw_ti (p2 := 1049) (p3 := 1068) (yc := 103) (ym := 217) (jq_judge (H jm_SCR (i + 1)) (H jm_SCR (i + 2)) (H jm_SCR (i + 3))) rfl hV hmu ?_ ?_ ?_
  · rw [jm_go_steps 1 (show jm_steps 245 1 (1030, jlw_L i, [], (jm_hp H rho mu)) = some (1031, jlw_L i, .ref 0 :: [], (jm_hp H rho mu)) from rfl)]
    rw [jlw_g (pc := 1031) (p4 := 1035) (p5 := 1036) (k := 1) (st := .ref 0 :: []) (h := (jm_hp H rho mu)) rfl rfl hL hi hL2 (by decide)]
    rw [jlw_g (pc := 1036) (p4 := 1040) (p5 := 1041) (k := 2) (st := .int (H jm_SCR (i + 1)) :: .ref 0 :: []) (h := (jm_hp H rho mu)) rfl rfl hL hi hL2 (by decide)]
    rw [jlw_g (pc := 1041) (p4 := 1045) (p5 := 1046) (k := 3) (st := .int (H jm_SCR (i + 2)) :: .int (H jm_SCR (i + 1)) :: .ref 0 :: []) (h := (jm_hp H rho mu)) rfl rfl hL hi hL2 (by decide)]
    exact jm_go_call (q := (103, .ref 0 :: [.int (H jm_SCR (i + 1)), .int (H jm_SCR (i + 2)), .int (H jm_SCR (i + 3))], [])) rfl
  · intro x H1 rho1 mu1 hS hC
    have hL3 : (jm_hp H1 rho1 mu1).1 jm_SCL 0 = nI L := (congrFun hC 0).trans hL
    rw [jm_go_steps 1 (show jm_steps 245 1 (1049, jlw_L i, [.int x], (jm_hp H1 rho1 mu1)) = some (1050, jlw_L i, .ref 57 :: [.int x], (jm_hp H1 rho1 mu1)) from rfl)]
    rw [jlw_g (pc := 1050) (p4 := 1054) (p5 := 1055) (k := 1) (st := .ref 57 :: [.int x]) (h := (jm_hp H1 rho1 mu1)) rfl rfl hL3 hi hL2 (by decide)]
    rw [jlw_g (pc := 1055) (p4 := 1059) (p5 := 1060) (k := 2) (st := .int (H1 jm_SCR (i + 1)) :: .ref 57 :: [.int x]) (h := (jm_hp H1 rho1 mu1)) rfl rfl hL3 hi hL2 (by decide)]
    rw [jlw_g (pc := 1060) (p4 := 1064) (p5 := 1065) (k := 3) (st := .int (H1 jm_SCR (i + 2)) :: .int (H1 jm_SCR (i + 1)) :: .ref 57 :: [.int x]) (h := (jm_hp H1 rho1 mu1)) rfl rfl hL3 hi hL2 (by decide)]
    rw [← hS]
    exact jm_go_call (q := (217, .ref 57 :: [.int (H1 jm_SCR (i + 1)), .int (H1 jm_SCR (i + 2)), .int (H1 jm_SCR (i + 3))], [.int x])) rfl
  · intro x h
    refine jm_go_next (show jm_step 245 (1068, jlw_L i, [.int x, .int x], h) = some (.inl (1729, jlw_L i, [], h)) from ?_)
    exact (show jm_step 245 (1068, jlw_L i, [.int x, .int x], h) = some (.inl (if x = x then 1729 else 1071, jlw_L i, [], h)) from rfl).trans (by rw [if_pos rfl])
set_option maxRecDepth 20000 in
theorem jlw_kinds : jlw_Z 1073 := by
  intro i L H rho mu hi hL2 hL hV hmu
  refine jlw_ti (p2 := 1097) (p3 := 1121) (yc := 104) (ym := 218) (jq_kinds (H jm_SCR (i + 1)) (H jm_SCR (i + 2)) (H jm_SCR (i + 3)) (H jm_SCR (i + 4))) rfl hV hmu ?_ ?_ ?_
  · rw [jm_go_steps 1 (show jm_steps 245 1 (1073, jlw_L i, [], (jm_hp H rho mu)) = some (1074, jlw_L i, .ref 0 :: [], (jm_hp H rho mu)) from rfl)]
    rw [jlw_g (pc := 1074) (p4 := 1078) (p5 := 1079) (k := 1) (st := .ref 0 :: []) (h := (jm_hp H rho mu)) rfl rfl hL hi hL2 (by decide)]
    rw [jlw_g (pc := 1079) (p4 := 1083) (p5 := 1084) (k := 2) (st := .int (H jm_SCR (i + 1)) :: .ref 0 :: []) (h := (jm_hp H rho mu)) rfl rfl hL hi hL2 (by decide)]
    rw [jlw_g (pc := 1084) (p4 := 1088) (p5 := 1089) (k := 3) (st := .int (H jm_SCR (i + 2)) :: .int (H jm_SCR (i + 1)) :: .ref 0 :: []) (h := (jm_hp H rho mu)) rfl rfl hL hi hL2 (by decide)]
    rw [jlw_g (pc := 1089) (p4 := 1093) (p5 := 1094) (k := 4) (st := .int (H jm_SCR (i + 3)) :: .int (H jm_SCR (i + 2)) :: .int (H jm_SCR (i + 1)) :: .ref 0 :: []) (h := (jm_hp H rho mu)) rfl rfl hL hi hL2 (by decide)]
    exact jm_go_call (q := (104, .ref 0 :: [.int (H jm_SCR (i + 1)), .int (H jm_SCR (i + 2)), .int (H jm_SCR (i + 3)), .int (H jm_SCR (i + 4))], [])) rfl
  · intro x H1 rho1 mu1 hS hC
    have hL3 : (jm_hp H1 rho1 mu1).1 jm_SCL 0 = nI L := (congrFun hC 0).trans hL
    rw [jm_go_steps 1 (show jm_steps 245 1 (1097, jlw_L i, [.int x], (jm_hp H1 rho1 mu1)) = some (1098, jlw_L i, .ref 57 :: [.int x], (jm_hp H1 rho1 mu1)) from rfl)]
    rw [jlw_g (pc := 1098) (p4 := 1102) (p5 := 1103) (k := 1) (st := .ref 57 :: [.int x]) (h := (jm_hp H1 rho1 mu1)) rfl rfl hL3 hi hL2 (by decide)]
    rw [jlw_g (pc := 1103) (p4 := 1107) (p5 := 1108) (k := 2) (st := .int (H1 jm_SCR (i + 1)) :: .ref 57 :: [.int x]) (h := (jm_hp H1 rho1 mu1)) rfl rfl hL3 hi hL2 (by decide)]
    rw [jlw_g (pc := 1108) (p4 := 1112) (p5 := 1113) (k := 3) (st := .int (H1 jm_SCR (i + 2)) :: .int (H1 jm_SCR (i + 1)) :: .ref 57 :: [.int x]) (h := (jm_hp H1 rho1 mu1)) rfl rfl hL3 hi hL2 (by decide)]
    rw [jlw_g (pc := 1113) (p4 := 1117) (p5 := 1118) (k := 4) (st := .int (H1 jm_SCR (i + 3)) :: .int (H1 jm_SCR (i + 2)) :: .int (H1 jm_SCR (i + 1)) :: .ref 57 :: [.int x]) (h := (jm_hp H1 rho1 mu1)) rfl rfl hL3 hi hL2 (by decide)]
    rw [← hS]
    exact jm_go_call (q := (218, .ref 57 :: [.int (H1 jm_SCR (i + 1)), .int (H1 jm_SCR (i + 2)), .int (H1 jm_SCR (i + 3)), .int (H1 jm_SCR (i + 4))], [.int x])) rfl
  · intro x h
    refine jm_go_next (show jm_step 245 (1121, jlw_L i, [.int x, .int x], h) = some (.inl (1729, jlw_L i, [], h)) from ?_)
    exact (show jm_step 245 (1121, jlw_L i, [.int x, .int x], h) = some (.inl (if x = x then 1729 else 1124, jlw_L i, [], h)) from rfl).trans (by rw [if_pos rfl])
set_option maxRecDepth 20000 in
theorem jlw_states : jlw_Z 1126 := by
  intro i L H rho mu hi hL2 hL hV hmu
  refine jlw_ti (p2 := 1150) (p3 := 1174) (yc := 105) (ym := 219) (jq_states (H jm_SCR (i + 1)) (H jm_SCR (i + 2)) (H jm_SCR (i + 3)) (H jm_SCR (i + 4))) rfl hV hmu ?_ ?_ ?_
  · rw [jm_go_steps 1 (show jm_steps 245 1 (1126, jlw_L i, [], (jm_hp H rho mu)) = some (1127, jlw_L i, .ref 0 :: [], (jm_hp H rho mu)) from rfl)]
    rw [jlw_g (pc := 1127) (p4 := 1131) (p5 := 1132) (k := 1) (st := .ref 0 :: []) (h := (jm_hp H rho mu)) rfl rfl hL hi hL2 (by decide)]
    rw [jlw_g (pc := 1132) (p4 := 1136) (p5 := 1137) (k := 2) (st := .int (H jm_SCR (i + 1)) :: .ref 0 :: []) (h := (jm_hp H rho mu)) rfl rfl hL hi hL2 (by decide)]
    rw [jlw_g (pc := 1137) (p4 := 1141) (p5 := 1142) (k := 3) (st := .int (H jm_SCR (i + 2)) :: .int (H jm_SCR (i + 1)) :: .ref 0 :: []) (h := (jm_hp H rho mu)) rfl rfl hL hi hL2 (by decide)]
    rw [jlw_g (pc := 1142) (p4 := 1146) (p5 := 1147) (k := 4) (st := .int (H jm_SCR (i + 3)) :: .int (H jm_SCR (i + 2)) :: .int (H jm_SCR (i + 1)) :: .ref 0 :: []) (h := (jm_hp H rho mu)) rfl rfl hL hi hL2 (by decide)]
    exact jm_go_call (q := (105, .ref 0 :: [.int (H jm_SCR (i + 1)), .int (H jm_SCR (i + 2)), .int (H jm_SCR (i + 3)), .int (H jm_SCR (i + 4))], [])) rfl
  · intro x H1 rho1 mu1 hS hC
    have hL3 : (jm_hp H1 rho1 mu1).1 jm_SCL 0 = nI L := (congrFun hC 0).trans hL
    rw [jm_go_steps 1 (show jm_steps 245 1 (1150, jlw_L i, [.int x], (jm_hp H1 rho1 mu1)) = some (1151, jlw_L i, .ref 57 :: [.int x], (jm_hp H1 rho1 mu1)) from rfl)]
    rw [jlw_g (pc := 1151) (p4 := 1155) (p5 := 1156) (k := 1) (st := .ref 57 :: [.int x]) (h := (jm_hp H1 rho1 mu1)) rfl rfl hL3 hi hL2 (by decide)]
    rw [jlw_g (pc := 1156) (p4 := 1160) (p5 := 1161) (k := 2) (st := .int (H1 jm_SCR (i + 1)) :: .ref 57 :: [.int x]) (h := (jm_hp H1 rho1 mu1)) rfl rfl hL3 hi hL2 (by decide)]
    rw [jlw_g (pc := 1161) (p4 := 1165) (p5 := 1166) (k := 3) (st := .int (H1 jm_SCR (i + 2)) :: .int (H1 jm_SCR (i + 1)) :: .ref 57 :: [.int x]) (h := (jm_hp H1 rho1 mu1)) rfl rfl hL3 hi hL2 (by decide)]
    rw [jlw_g (pc := 1166) (p4 := 1170) (p5 := 1171) (k := 4) (st := .int (H1 jm_SCR (i + 3)) :: .int (H1 jm_SCR (i + 2)) :: .int (H1 jm_SCR (i + 1)) :: .ref 57 :: [.int x]) (h := (jm_hp H1 rho1 mu1)) rfl rfl hL3 hi hL2 (by decide)]
    rw [← hS]
    exact jm_go_call (q := (219, .ref 57 :: [.int (H1 jm_SCR (i + 1)), .int (H1 jm_SCR (i + 2)), .int (H1 jm_SCR (i + 3)), .int (H1 jm_SCR (i + 4))], [.int x])) rfl
  · intro x h
    refine jm_go_next (show jm_step 245 (1174, jlw_L i, [.int x, .int x], h) = some (.inl (1729, jlw_L i, [], h)) from ?_)
    exact (show jm_step 245 (1174, jlw_L i, [.int x, .int x], h) = some (.inl (if x = x then 1729 else 1177, jlw_L i, [], h)) from rfl).trans (by rw [if_pos rfl])
set_option maxRecDepth 20000 in
theorem jlw_lucks : jlw_Z 1179 := by
  intro i L H rho mu hi hL2 hL hV hmu
  refine jlw_ti (p2 := 1203) (p3 := 1227) (yc := 106) (ym := 220) (jq_lucks (H jm_SCR (i + 1)) (H jm_SCR (i + 2)) (H jm_SCR (i + 3)) (H jm_SCR (i + 4))) rfl hV hmu ?_ ?_ ?_
  · rw [jm_go_steps 1 (show jm_steps 245 1 (1179, jlw_L i, [], (jm_hp H rho mu)) = some (1180, jlw_L i, .ref 0 :: [], (jm_hp H rho mu)) from rfl)]
    rw [jlw_g (pc := 1180) (p4 := 1184) (p5 := 1185) (k := 1) (st := .ref 0 :: []) (h := (jm_hp H rho mu)) rfl rfl hL hi hL2 (by decide)]
    rw [jlw_g (pc := 1185) (p4 := 1189) (p5 := 1190) (k := 2) (st := .int (H jm_SCR (i + 1)) :: .ref 0 :: []) (h := (jm_hp H rho mu)) rfl rfl hL hi hL2 (by decide)]
    rw [jlw_g (pc := 1190) (p4 := 1194) (p5 := 1195) (k := 3) (st := .int (H jm_SCR (i + 2)) :: .int (H jm_SCR (i + 1)) :: .ref 0 :: []) (h := (jm_hp H rho mu)) rfl rfl hL hi hL2 (by decide)]
    rw [jlw_g (pc := 1195) (p4 := 1199) (p5 := 1200) (k := 4) (st := .int (H jm_SCR (i + 3)) :: .int (H jm_SCR (i + 2)) :: .int (H jm_SCR (i + 1)) :: .ref 0 :: []) (h := (jm_hp H rho mu)) rfl rfl hL hi hL2 (by decide)]
    exact jm_go_call (q := (106, .ref 0 :: [.int (H jm_SCR (i + 1)), .int (H jm_SCR (i + 2)), .int (H jm_SCR (i + 3)), .int (H jm_SCR (i + 4))], [])) rfl
  · intro x H1 rho1 mu1 hS hC
    have hL3 : (jm_hp H1 rho1 mu1).1 jm_SCL 0 = nI L := (congrFun hC 0).trans hL
    rw [jm_go_steps 1 (show jm_steps 245 1 (1203, jlw_L i, [.int x], (jm_hp H1 rho1 mu1)) = some (1204, jlw_L i, .ref 57 :: [.int x], (jm_hp H1 rho1 mu1)) from rfl)]
    rw [jlw_g (pc := 1204) (p4 := 1208) (p5 := 1209) (k := 1) (st := .ref 57 :: [.int x]) (h := (jm_hp H1 rho1 mu1)) rfl rfl hL3 hi hL2 (by decide)]
    rw [jlw_g (pc := 1209) (p4 := 1213) (p5 := 1214) (k := 2) (st := .int (H1 jm_SCR (i + 1)) :: .ref 57 :: [.int x]) (h := (jm_hp H1 rho1 mu1)) rfl rfl hL3 hi hL2 (by decide)]
    rw [jlw_g (pc := 1214) (p4 := 1218) (p5 := 1219) (k := 3) (st := .int (H1 jm_SCR (i + 2)) :: .int (H1 jm_SCR (i + 1)) :: .ref 57 :: [.int x]) (h := (jm_hp H1 rho1 mu1)) rfl rfl hL3 hi hL2 (by decide)]
    rw [jlw_g (pc := 1219) (p4 := 1223) (p5 := 1224) (k := 4) (st := .int (H1 jm_SCR (i + 3)) :: .int (H1 jm_SCR (i + 2)) :: .int (H1 jm_SCR (i + 1)) :: .ref 57 :: [.int x]) (h := (jm_hp H1 rho1 mu1)) rfl rfl hL3 hi hL2 (by decide)]
    rw [← hS]
    exact jm_go_call (q := (220, .ref 57 :: [.int (H1 jm_SCR (i + 1)), .int (H1 jm_SCR (i + 2)), .int (H1 jm_SCR (i + 3)), .int (H1 jm_SCR (i + 4))], [.int x])) rfl
  · intro x h
    refine jm_go_next (show jm_step 245 (1227, jlw_L i, [.int x, .int x], h) = some (.inl (1729, jlw_L i, [], h)) from ?_)
    exact (show jm_step 245 (1227, jlw_L i, [.int x, .int x], h) = some (.inl (if x = x then 1729 else 1230, jlw_L i, [], h)) from rfl).trans (by rw [if_pos rfl])
set_option maxRecDepth 20000 in
theorem jlw_whose : jlw_Z 1232 := by
  intro i L H rho mu hi hL2 hL hV hmu
  refine jlw_ti (p2 := 1246) (p3 := 1260) (yc := 107) (ym := 221) (jq_whose (H jm_SCR (i + 1)) (H jm_SCR (i + 2))) rfl hV hmu ?_ ?_ ?_
  · rw [jm_go_steps 1 (show jm_steps 245 1 (1232, jlw_L i, [], (jm_hp H rho mu)) = some (1233, jlw_L i, .ref 0 :: [], (jm_hp H rho mu)) from rfl)]
    rw [jlw_g (pc := 1233) (p4 := 1237) (p5 := 1238) (k := 1) (st := .ref 0 :: []) (h := (jm_hp H rho mu)) rfl rfl hL hi hL2 (by decide)]
    rw [jlw_g (pc := 1238) (p4 := 1242) (p5 := 1243) (k := 2) (st := .int (H jm_SCR (i + 1)) :: .ref 0 :: []) (h := (jm_hp H rho mu)) rfl rfl hL hi hL2 (by decide)]
    exact jm_go_call (q := (107, .ref 0 :: [.int (H jm_SCR (i + 1)), .int (H jm_SCR (i + 2))], [])) rfl
  · intro x H1 rho1 mu1 hS hC
    have hL3 : (jm_hp H1 rho1 mu1).1 jm_SCL 0 = nI L := (congrFun hC 0).trans hL
    rw [jm_go_steps 1 (show jm_steps 245 1 (1246, jlw_L i, [.int x], (jm_hp H1 rho1 mu1)) = some (1247, jlw_L i, .ref 57 :: [.int x], (jm_hp H1 rho1 mu1)) from rfl)]
    rw [jlw_g (pc := 1247) (p4 := 1251) (p5 := 1252) (k := 1) (st := .ref 57 :: [.int x]) (h := (jm_hp H1 rho1 mu1)) rfl rfl hL3 hi hL2 (by decide)]
    rw [jlw_g (pc := 1252) (p4 := 1256) (p5 := 1257) (k := 2) (st := .int (H1 jm_SCR (i + 1)) :: .ref 57 :: [.int x]) (h := (jm_hp H1 rho1 mu1)) rfl rfl hL3 hi hL2 (by decide)]
    rw [← hS]
    exact jm_go_call (q := (221, .ref 57 :: [.int (H1 jm_SCR (i + 1)), .int (H1 jm_SCR (i + 2))], [.int x])) rfl
  · intro x h
    refine jm_go_next (show jm_step 245 (1260, jlw_L i, [.int x, .int x], h) = some (.inl (1729, jlw_L i, [], h)) from ?_)
    exact (show jm_step 245 (1260, jlw_L i, [.int x, .int x], h) = some (.inl (if x = x then 1729 else 1263, jlw_L i, [], h)) from rfl).trans (by rw [if_pos rfl])
set_option maxRecDepth 20000 in
theorem jlw_laws : jlw_Z 1265 := by
  intro i L H rho mu hi hL2 hL hV hmu
  refine jlw_ti (p2 := 1284) (p3 := 1303) (yc := 108) (ym := 222) (jq_laws (H jm_SCR (i + 1)) (H jm_SCR (i + 2)) (H jm_SCR (i + 3))) rfl hV hmu ?_ ?_ ?_
  · rw [jm_go_steps 1 (show jm_steps 245 1 (1265, jlw_L i, [], (jm_hp H rho mu)) = some (1266, jlw_L i, .ref 0 :: [], (jm_hp H rho mu)) from rfl)]
    rw [jlw_g (pc := 1266) (p4 := 1270) (p5 := 1271) (k := 1) (st := .ref 0 :: []) (h := (jm_hp H rho mu)) rfl rfl hL hi hL2 (by decide)]
    rw [jlw_g (pc := 1271) (p4 := 1275) (p5 := 1276) (k := 2) (st := .int (H jm_SCR (i + 1)) :: .ref 0 :: []) (h := (jm_hp H rho mu)) rfl rfl hL hi hL2 (by decide)]
    rw [jlw_g (pc := 1276) (p4 := 1280) (p5 := 1281) (k := 3) (st := .int (H jm_SCR (i + 2)) :: .int (H jm_SCR (i + 1)) :: .ref 0 :: []) (h := (jm_hp H rho mu)) rfl rfl hL hi hL2 (by decide)]
    exact jm_go_call (q := (108, .ref 0 :: [.int (H jm_SCR (i + 1)), .int (H jm_SCR (i + 2)), .int (H jm_SCR (i + 3))], [])) rfl
  · intro x H1 rho1 mu1 hS hC
    have hL3 : (jm_hp H1 rho1 mu1).1 jm_SCL 0 = nI L := (congrFun hC 0).trans hL
    rw [jm_go_steps 1 (show jm_steps 245 1 (1284, jlw_L i, [.int x], (jm_hp H1 rho1 mu1)) = some (1285, jlw_L i, .ref 57 :: [.int x], (jm_hp H1 rho1 mu1)) from rfl)]
    rw [jlw_g (pc := 1285) (p4 := 1289) (p5 := 1290) (k := 1) (st := .ref 57 :: [.int x]) (h := (jm_hp H1 rho1 mu1)) rfl rfl hL3 hi hL2 (by decide)]
    rw [jlw_g (pc := 1290) (p4 := 1294) (p5 := 1295) (k := 2) (st := .int (H1 jm_SCR (i + 1)) :: .ref 57 :: [.int x]) (h := (jm_hp H1 rho1 mu1)) rfl rfl hL3 hi hL2 (by decide)]
    rw [jlw_g (pc := 1295) (p4 := 1299) (p5 := 1300) (k := 3) (st := .int (H1 jm_SCR (i + 2)) :: .int (H1 jm_SCR (i + 1)) :: .ref 57 :: [.int x]) (h := (jm_hp H1 rho1 mu1)) rfl rfl hL3 hi hL2 (by decide)]
    rw [← hS]
    exact jm_go_call (q := (222, .ref 57 :: [.int (H1 jm_SCR (i + 1)), .int (H1 jm_SCR (i + 2)), .int (H1 jm_SCR (i + 3))], [.int x])) rfl
  · intro x h
    refine jm_go_next (show jm_step 245 (1303, jlw_L i, [.int x, .int x], h) = some (.inl (1729, jlw_L i, [], h)) from ?_)
    exact (show jm_step 245 (1303, jlw_L i, [.int x, .int x], h) = some (.inl (if x = x then 1729 else 1306, jlw_L i, [], h)) from rfl).trans (by rw [if_pos rfl])
set_option maxRecDepth 20000 in
theorem jlw_film : jlw_Z 1308 := by
  intro i L H rho mu hi hL2 hL hV hmu
  refine jlw_ti (p2 := 1327) (p3 := 1346) (yc := 109) (ym := 223) (jq_film (H jm_SCR (i + 1)) (H jm_SCR (i + 2)) (H jm_SCR (i + 3))) rfl hV hmu ?_ ?_ ?_
  · rw [jm_go_steps 1 (show jm_steps 245 1 (1308, jlw_L i, [], (jm_hp H rho mu)) = some (1309, jlw_L i, .ref 0 :: [], (jm_hp H rho mu)) from rfl)]
    rw [jlw_g (pc := 1309) (p4 := 1313) (p5 := 1314) (k := 1) (st := .ref 0 :: []) (h := (jm_hp H rho mu)) rfl rfl hL hi hL2 (by decide)]
    rw [jlw_g (pc := 1314) (p4 := 1318) (p5 := 1319) (k := 2) (st := .int (H jm_SCR (i + 1)) :: .ref 0 :: []) (h := (jm_hp H rho mu)) rfl rfl hL hi hL2 (by decide)]
    rw [jlw_g (pc := 1319) (p4 := 1323) (p5 := 1324) (k := 3) (st := .int (H jm_SCR (i + 2)) :: .int (H jm_SCR (i + 1)) :: .ref 0 :: []) (h := (jm_hp H rho mu)) rfl rfl hL hi hL2 (by decide)]
    exact jm_go_call (q := (109, .ref 0 :: [.int (H jm_SCR (i + 1)), .int (H jm_SCR (i + 2)), .int (H jm_SCR (i + 3))], [])) rfl
  · intro x H1 rho1 mu1 hS hC
    have hL3 : (jm_hp H1 rho1 mu1).1 jm_SCL 0 = nI L := (congrFun hC 0).trans hL
    rw [jm_go_steps 1 (show jm_steps 245 1 (1327, jlw_L i, [.int x], (jm_hp H1 rho1 mu1)) = some (1328, jlw_L i, .ref 57 :: [.int x], (jm_hp H1 rho1 mu1)) from rfl)]
    rw [jlw_g (pc := 1328) (p4 := 1332) (p5 := 1333) (k := 1) (st := .ref 57 :: [.int x]) (h := (jm_hp H1 rho1 mu1)) rfl rfl hL3 hi hL2 (by decide)]
    rw [jlw_g (pc := 1333) (p4 := 1337) (p5 := 1338) (k := 2) (st := .int (H1 jm_SCR (i + 1)) :: .ref 57 :: [.int x]) (h := (jm_hp H1 rho1 mu1)) rfl rfl hL3 hi hL2 (by decide)]
    rw [jlw_g (pc := 1338) (p4 := 1342) (p5 := 1343) (k := 3) (st := .int (H1 jm_SCR (i + 2)) :: .int (H1 jm_SCR (i + 1)) :: .ref 57 :: [.int x]) (h := (jm_hp H1 rho1 mu1)) rfl rfl hL3 hi hL2 (by decide)]
    rw [← hS]
    exact jm_go_call (q := (223, .ref 57 :: [.int (H1 jm_SCR (i + 1)), .int (H1 jm_SCR (i + 2)), .int (H1 jm_SCR (i + 3))], [.int x])) rfl
  · intro x h
    refine jm_go_next (show jm_step 245 (1346, jlw_L i, [.int x, .int x], h) = some (.inl (1729, jlw_L i, [], h)) from ?_)
    exact (show jm_step 245 (1346, jlw_L i, [.int x, .int x], h) = some (.inl (if x = x then 1729 else 1349, jlw_L i, [], h)) from rfl).trans (by rw [if_pos rfl])
set_option maxRecDepth 20000 in
theorem jlw_drawn : jlw_Z 1351 := by
  intro i L H rho mu hi hL2 hL hV hmu
  refine jlw_ti (p2 := 1375) (p3 := 1399) (yc := 110) (ym := 225) (jq_drawn (H jm_SCR (i + 1)) (H jm_SCR (i + 2)) (H jm_SCR (i + 3)) (H jm_SCR (i + 4))) rfl hV hmu ?_ ?_ ?_
  · rw [jm_go_steps 1 (show jm_steps 245 1 (1351, jlw_L i, [], (jm_hp H rho mu)) = some (1352, jlw_L i, .ref 0 :: [], (jm_hp H rho mu)) from rfl)]
    rw [jlw_g (pc := 1352) (p4 := 1356) (p5 := 1357) (k := 1) (st := .ref 0 :: []) (h := (jm_hp H rho mu)) rfl rfl hL hi hL2 (by decide)]
    rw [jlw_g (pc := 1357) (p4 := 1361) (p5 := 1362) (k := 2) (st := .int (H jm_SCR (i + 1)) :: .ref 0 :: []) (h := (jm_hp H rho mu)) rfl rfl hL hi hL2 (by decide)]
    rw [jlw_g (pc := 1362) (p4 := 1366) (p5 := 1367) (k := 3) (st := .int (H jm_SCR (i + 2)) :: .int (H jm_SCR (i + 1)) :: .ref 0 :: []) (h := (jm_hp H rho mu)) rfl rfl hL hi hL2 (by decide)]
    rw [jlw_g (pc := 1367) (p4 := 1371) (p5 := 1372) (k := 4) (st := .int (H jm_SCR (i + 3)) :: .int (H jm_SCR (i + 2)) :: .int (H jm_SCR (i + 1)) :: .ref 0 :: []) (h := (jm_hp H rho mu)) rfl rfl hL hi hL2 (by decide)]
    exact jm_go_call (q := (110, .ref 0 :: [.int (H jm_SCR (i + 1)), .int (H jm_SCR (i + 2)), .int (H jm_SCR (i + 3)), .int (H jm_SCR (i + 4))], [])) rfl
  · intro x H1 rho1 mu1 hS hC
    have hL3 : (jm_hp H1 rho1 mu1).1 jm_SCL 0 = nI L := (congrFun hC 0).trans hL
    rw [jm_go_steps 1 (show jm_steps 245 1 (1375, jlw_L i, [.int x], (jm_hp H1 rho1 mu1)) = some (1376, jlw_L i, .ref 57 :: [.int x], (jm_hp H1 rho1 mu1)) from rfl)]
    rw [jlw_g (pc := 1376) (p4 := 1380) (p5 := 1381) (k := 1) (st := .ref 57 :: [.int x]) (h := (jm_hp H1 rho1 mu1)) rfl rfl hL3 hi hL2 (by decide)]
    rw [jlw_g (pc := 1381) (p4 := 1385) (p5 := 1386) (k := 2) (st := .int (H1 jm_SCR (i + 1)) :: .ref 57 :: [.int x]) (h := (jm_hp H1 rho1 mu1)) rfl rfl hL3 hi hL2 (by decide)]
    rw [jlw_g (pc := 1386) (p4 := 1390) (p5 := 1391) (k := 3) (st := .int (H1 jm_SCR (i + 2)) :: .int (H1 jm_SCR (i + 1)) :: .ref 57 :: [.int x]) (h := (jm_hp H1 rho1 mu1)) rfl rfl hL3 hi hL2 (by decide)]
    rw [jlw_g (pc := 1391) (p4 := 1395) (p5 := 1396) (k := 4) (st := .int (H1 jm_SCR (i + 3)) :: .int (H1 jm_SCR (i + 2)) :: .int (H1 jm_SCR (i + 1)) :: .ref 57 :: [.int x]) (h := (jm_hp H1 rho1 mu1)) rfl rfl hL3 hi hL2 (by decide)]
    rw [← hS]
    exact jm_go_call (q := (225, .ref 57 :: [.int (H1 jm_SCR (i + 1)), .int (H1 jm_SCR (i + 2)), .int (H1 jm_SCR (i + 3)), .int (H1 jm_SCR (i + 4))], [.int x])) rfl
  · intro x h
    refine jm_go_next (show jm_step 245 (1399, jlw_L i, [.int x, .int x], h) = some (.inl (1729, jlw_L i, [], h)) from ?_)
    exact (show jm_step 245 (1399, jlw_L i, [.int x, .int x], h) = some (.inl (if x = x then 1729 else 1402, jlw_L i, [], h)) from rfl).trans (by rw [if_pos rfl])
set_option maxRecDepth 20000 in
theorem jlw_odds : jlw_Z 1404 := by
  intro i L H rho mu hi hL2 hL hV hmu
  refine jlw_tl (p2 := 1433) (p3 := 1462) (yc := 111) (ym := 226) (jq_odds (H jm_SCR (i + 1)) (H jm_SCR (i + 2)) (H jm_SCR (i + 3)) (H jm_SCR (i + 4)) (H jm_SCR (i + 5))) rfl hV hmu ?_ ?_ ?_
  · rw [jm_go_steps 1 (show jm_steps 245 1 (1404, jlw_L i, [], (jm_hp H rho mu)) = some (1405, jlw_L i, .ref 0 :: [], (jm_hp H rho mu)) from rfl)]
    rw [jlw_g (pc := 1405) (p4 := 1409) (p5 := 1410) (k := 1) (st := .ref 0 :: []) (h := (jm_hp H rho mu)) rfl rfl hL hi hL2 (by decide)]
    rw [jlw_g (pc := 1410) (p4 := 1414) (p5 := 1415) (k := 2) (st := .int (H jm_SCR (i + 1)) :: .ref 0 :: []) (h := (jm_hp H rho mu)) rfl rfl hL hi hL2 (by decide)]
    rw [jlw_g (pc := 1415) (p4 := 1419) (p5 := 1420) (k := 3) (st := .int (H jm_SCR (i + 2)) :: .int (H jm_SCR (i + 1)) :: .ref 0 :: []) (h := (jm_hp H rho mu)) rfl rfl hL hi hL2 (by decide)]
    rw [jlw_g (pc := 1420) (p4 := 1424) (p5 := 1425) (k := 4) (st := .int (H jm_SCR (i + 3)) :: .int (H jm_SCR (i + 2)) :: .int (H jm_SCR (i + 1)) :: .ref 0 :: []) (h := (jm_hp H rho mu)) rfl rfl hL hi hL2 (by decide)]
    rw [jlw_g (pc := 1425) (p4 := 1429) (p5 := 1430) (k := 5) (st := .int (H jm_SCR (i + 4)) :: .int (H jm_SCR (i + 3)) :: .int (H jm_SCR (i + 2)) :: .int (H jm_SCR (i + 1)) :: .ref 0 :: []) (h := (jm_hp H rho mu)) rfl rfl hL hi hL2 (by decide)]
    exact jm_go_call (q := (111, .ref 0 :: [.int (H jm_SCR (i + 1)), .int (H jm_SCR (i + 2)), .int (H jm_SCR (i + 3)), .int (H jm_SCR (i + 4)), .int (H jm_SCR (i + 5))], [])) rfl
  · intro x H1 rho1 mu1 hS hC
    have hL3 : (jm_hp H1 rho1 mu1).1 jm_SCL 0 = nI L := (congrFun hC 0).trans hL
    rw [jm_go_steps 1 (show jm_steps 245 1 (1433, jlw_L i, [.long x], (jm_hp H1 rho1 mu1)) = some (1434, jlw_L i, .ref 57 :: [.long x], (jm_hp H1 rho1 mu1)) from rfl)]
    rw [jlw_g (pc := 1434) (p4 := 1438) (p5 := 1439) (k := 1) (st := .ref 57 :: [.long x]) (h := (jm_hp H1 rho1 mu1)) rfl rfl hL3 hi hL2 (by decide)]
    rw [jlw_g (pc := 1439) (p4 := 1443) (p5 := 1444) (k := 2) (st := .int (H1 jm_SCR (i + 1)) :: .ref 57 :: [.long x]) (h := (jm_hp H1 rho1 mu1)) rfl rfl hL3 hi hL2 (by decide)]
    rw [jlw_g (pc := 1444) (p4 := 1448) (p5 := 1449) (k := 3) (st := .int (H1 jm_SCR (i + 2)) :: .int (H1 jm_SCR (i + 1)) :: .ref 57 :: [.long x]) (h := (jm_hp H1 rho1 mu1)) rfl rfl hL3 hi hL2 (by decide)]
    rw [jlw_g (pc := 1449) (p4 := 1453) (p5 := 1454) (k := 4) (st := .int (H1 jm_SCR (i + 3)) :: .int (H1 jm_SCR (i + 2)) :: .int (H1 jm_SCR (i + 1)) :: .ref 57 :: [.long x]) (h := (jm_hp H1 rho1 mu1)) rfl rfl hL3 hi hL2 (by decide)]
    rw [jlw_g (pc := 1454) (p4 := 1458) (p5 := 1459) (k := 5) (st := .int (H1 jm_SCR (i + 4)) :: .int (H1 jm_SCR (i + 3)) :: .int (H1 jm_SCR (i + 2)) :: .int (H1 jm_SCR (i + 1)) :: .ref 57 :: [.long x]) (h := (jm_hp H1 rho1 mu1)) rfl rfl hL3 hi hL2 (by decide)]
    rw [← hS]
    exact jm_go_call (q := (226, .ref 57 :: [.int (H1 jm_SCR (i + 1)), .int (H1 jm_SCR (i + 2)), .int (H1 jm_SCR (i + 3)), .int (H1 jm_SCR (i + 4)), .int (H1 jm_SCR (i + 5))], [.long x])) rfl
  · intro x h
    rw [jm_go_next (show jm_step 245 (1462, jlw_L i, [.long x, .long x], h) = some (.inl (1463, jlw_L i, [.int (lg_cmp x x)], h)) from rfl), jlw_lc]
    exact jm_go_next (show jm_step 245 (1463, jlw_L i, [.int 0], h) = some (.inl (1729, jlw_L i, [], h)) from rfl)
set_option maxRecDepth 20000 in
theorem jlw_image : jlw_Z 1468 := by
  intro i L H rho mu hi hL2 hL hV hmu
  refine jlw_ti (p2 := 1472) (p3 := 1476) (yc := 112) (ym := 227) (jq_image) rfl hV hmu ?_ ?_ ?_
  · rw [jm_go_steps 1 (show jm_steps 245 1 (1468, jlw_L i, [], (jm_hp H rho mu)) = some (1469, jlw_L i, .ref 0 :: [], (jm_hp H rho mu)) from rfl)]
    exact jm_go_call (q := (112, .ref 0 :: [], [])) rfl
  · intro x H1 rho1 mu1 hS hC
    have hL3 : (jm_hp H1 rho1 mu1).1 jm_SCL 0 = nI L := (congrFun hC 0).trans hL
    rw [jm_go_steps 1 (show jm_steps 245 1 (1472, jlw_L i, [.int x], (jm_hp H1 rho1 mu1)) = some (1473, jlw_L i, .ref 57 :: [.int x], (jm_hp H1 rho1 mu1)) from rfl)]
    exact jm_go_call (q := (227, .ref 57 :: [], [.int x])) rfl
  · intro x h
    refine jm_go_next (show jm_step 245 (1476, jlw_L i, [.int x, .int x], h) = some (.inl (1729, jlw_L i, [], h)) from ?_)
    exact (show jm_step 245 (1476, jlw_L i, [.int x, .int x], h) = some (.inl (if x = x then 1729 else 1479, jlw_L i, [], h)) from rfl).trans (by rw [if_pos rfl])
set_option maxRecDepth 20000 in
theorem jlw_back : jlw_Z 1481 := by
  intro i L H rho mu hi hL2 hL hV hmu
  refine jlw_ti (p2 := 1485) (p3 := 1489) (yc := 113) (ym := 228) (jq_back) rfl hV hmu ?_ ?_ ?_
  · rw [jm_go_steps 1 (show jm_steps 245 1 (1481, jlw_L i, [], (jm_hp H rho mu)) = some (1482, jlw_L i, .ref 0 :: [], (jm_hp H rho mu)) from rfl)]
    exact jm_go_call (q := (113, .ref 0 :: [], [])) rfl
  · intro x H1 rho1 mu1 hS hC
    have hL3 : (jm_hp H1 rho1 mu1).1 jm_SCL 0 = nI L := (congrFun hC 0).trans hL
    rw [jm_go_steps 1 (show jm_steps 245 1 (1485, jlw_L i, [.int x], (jm_hp H1 rho1 mu1)) = some (1486, jlw_L i, .ref 57 :: [.int x], (jm_hp H1 rho1 mu1)) from rfl)]
    exact jm_go_call (q := (228, .ref 57 :: [], [.int x])) rfl
  · intro x h
    refine jm_go_next (show jm_step 245 (1489, jlw_L i, [.int x, .int x], h) = some (.inl (1729, jlw_L i, [], h)) from ?_)
    exact (show jm_step 245 (1489, jlw_L i, [.int x, .int x], h) = some (.inl (if x = x then 1729 else 1492, jlw_L i, [], h)) from rfl).trans (by rw [if_pos rfl])
set_option maxRecDepth 20000 in
theorem jlw_sheet : jlw_Z 1494 := by
  intro i L H rho mu hi hL2 hL hV hmu
  refine jlw_ti (p2 := 1513) (p3 := 1532) (yc := 114) (ym := 229) (jq_sheet (H jm_SCR (i + 1)) (H jm_SCR (i + 2)) (H jm_SCR (i + 3))) rfl hV hmu ?_ ?_ ?_
  · rw [jm_go_steps 1 (show jm_steps 245 1 (1494, jlw_L i, [], (jm_hp H rho mu)) = some (1495, jlw_L i, .ref 0 :: [], (jm_hp H rho mu)) from rfl)]
    rw [jlw_g (pc := 1495) (p4 := 1499) (p5 := 1500) (k := 1) (st := .ref 0 :: []) (h := (jm_hp H rho mu)) rfl rfl hL hi hL2 (by decide)]
    rw [jlw_g (pc := 1500) (p4 := 1504) (p5 := 1505) (k := 2) (st := .int (H jm_SCR (i + 1)) :: .ref 0 :: []) (h := (jm_hp H rho mu)) rfl rfl hL hi hL2 (by decide)]
    rw [jlw_g (pc := 1505) (p4 := 1509) (p5 := 1510) (k := 3) (st := .int (H jm_SCR (i + 2)) :: .int (H jm_SCR (i + 1)) :: .ref 0 :: []) (h := (jm_hp H rho mu)) rfl rfl hL hi hL2 (by decide)]
    exact jm_go_call (q := (114, .ref 0 :: [.int (H jm_SCR (i + 1)), .int (H jm_SCR (i + 2)), .int (H jm_SCR (i + 3))], [])) rfl
  · intro x H1 rho1 mu1 hS hC
    have hL3 : (jm_hp H1 rho1 mu1).1 jm_SCL 0 = nI L := (congrFun hC 0).trans hL
    rw [jm_go_steps 1 (show jm_steps 245 1 (1513, jlw_L i, [.int x], (jm_hp H1 rho1 mu1)) = some (1514, jlw_L i, .ref 57 :: [.int x], (jm_hp H1 rho1 mu1)) from rfl)]
    rw [jlw_g (pc := 1514) (p4 := 1518) (p5 := 1519) (k := 1) (st := .ref 57 :: [.int x]) (h := (jm_hp H1 rho1 mu1)) rfl rfl hL3 hi hL2 (by decide)]
    rw [jlw_g (pc := 1519) (p4 := 1523) (p5 := 1524) (k := 2) (st := .int (H1 jm_SCR (i + 1)) :: .ref 57 :: [.int x]) (h := (jm_hp H1 rho1 mu1)) rfl rfl hL3 hi hL2 (by decide)]
    rw [jlw_g (pc := 1524) (p4 := 1528) (p5 := 1529) (k := 3) (st := .int (H1 jm_SCR (i + 2)) :: .int (H1 jm_SCR (i + 1)) :: .ref 57 :: [.int x]) (h := (jm_hp H1 rho1 mu1)) rfl rfl hL3 hi hL2 (by decide)]
    rw [← hS]
    exact jm_go_call (q := (229, .ref 57 :: [.int (H1 jm_SCR (i + 1)), .int (H1 jm_SCR (i + 2)), .int (H1 jm_SCR (i + 3))], [.int x])) rfl
  · intro x h
    refine jm_go_next (show jm_step 245 (1532, jlw_L i, [.int x, .int x], h) = some (.inl (1729, jlw_L i, [], h)) from ?_)
    exact (show jm_step 245 (1532, jlw_L i, [.int x, .int x], h) = some (.inl (if x = x then 1729 else 1535, jlw_L i, [], h)) from rfl).trans (by rw [if_pos rfl])
set_option maxRecDepth 20000 in
theorem jlw_cell : jlw_Z 1537 := by
  intro i L H rho mu hi hL2 hL hV hmu
  refine jlw_ti (p2 := 1556) (p3 := 1575) (yc := 115) (ym := 230) (jq_cell (H jm_SCR (i + 1)) (H jm_SCR (i + 2)) (H jm_SCR (i + 3))) rfl hV hmu ?_ ?_ ?_
  · rw [jm_go_steps 1 (show jm_steps 245 1 (1537, jlw_L i, [], (jm_hp H rho mu)) = some (1538, jlw_L i, .ref 0 :: [], (jm_hp H rho mu)) from rfl)]
    rw [jlw_g (pc := 1538) (p4 := 1542) (p5 := 1543) (k := 1) (st := .ref 0 :: []) (h := (jm_hp H rho mu)) rfl rfl hL hi hL2 (by decide)]
    rw [jlw_g (pc := 1543) (p4 := 1547) (p5 := 1548) (k := 2) (st := .int (H jm_SCR (i + 1)) :: .ref 0 :: []) (h := (jm_hp H rho mu)) rfl rfl hL hi hL2 (by decide)]
    rw [jlw_g (pc := 1548) (p4 := 1552) (p5 := 1553) (k := 3) (st := .int (H jm_SCR (i + 2)) :: .int (H jm_SCR (i + 1)) :: .ref 0 :: []) (h := (jm_hp H rho mu)) rfl rfl hL hi hL2 (by decide)]
    exact jm_go_call (q := (115, .ref 0 :: [.int (H jm_SCR (i + 1)), .int (H jm_SCR (i + 2)), .int (H jm_SCR (i + 3))], [])) rfl
  · intro x H1 rho1 mu1 hS hC
    have hL3 : (jm_hp H1 rho1 mu1).1 jm_SCL 0 = nI L := (congrFun hC 0).trans hL
    rw [jm_go_steps 1 (show jm_steps 245 1 (1556, jlw_L i, [.int x], (jm_hp H1 rho1 mu1)) = some (1557, jlw_L i, .ref 57 :: [.int x], (jm_hp H1 rho1 mu1)) from rfl)]
    rw [jlw_g (pc := 1557) (p4 := 1561) (p5 := 1562) (k := 1) (st := .ref 57 :: [.int x]) (h := (jm_hp H1 rho1 mu1)) rfl rfl hL3 hi hL2 (by decide)]
    rw [jlw_g (pc := 1562) (p4 := 1566) (p5 := 1567) (k := 2) (st := .int (H1 jm_SCR (i + 1)) :: .ref 57 :: [.int x]) (h := (jm_hp H1 rho1 mu1)) rfl rfl hL3 hi hL2 (by decide)]
    rw [jlw_g (pc := 1567) (p4 := 1571) (p5 := 1572) (k := 3) (st := .int (H1 jm_SCR (i + 2)) :: .int (H1 jm_SCR (i + 1)) :: .ref 57 :: [.int x]) (h := (jm_hp H1 rho1 mu1)) rfl rfl hL3 hi hL2 (by decide)]
    rw [← hS]
    exact jm_go_call (q := (230, .ref 57 :: [.int (H1 jm_SCR (i + 1)), .int (H1 jm_SCR (i + 2)), .int (H1 jm_SCR (i + 3))], [.int x])) rfl
  · intro x h
    refine jm_go_next (show jm_step 245 (1575, jlw_L i, [.int x, .int x], h) = some (.inl (1729, jlw_L i, [], h)) from ?_)
    exact (show jm_step 245 (1575, jlw_L i, [.int x, .int x], h) = some (.inl (if x = x then 1729 else 1578, jlw_L i, [], h)) from rfl).trans (by rw [if_pos rfl])
set_option maxRecDepth 20000 in
theorem jlw_copy : jlw_Z 1580 := by
  intro i L H rho mu hi hL2 hL hV hmu
  refine jlw_ti (p2 := 1609) (p3 := 1638) (yc := 116) (ym := 231) (jq_copy (H jm_SCR (i + 1)) (H jm_SCR (i + 2)) (H jm_SCR (i + 3)) (H jm_SCR (i + 4)) (H jm_SCR (i + 5))) rfl hV hmu ?_ ?_ ?_
  · rw [jm_go_steps 1 (show jm_steps 245 1 (1580, jlw_L i, [], (jm_hp H rho mu)) = some (1581, jlw_L i, .ref 0 :: [], (jm_hp H rho mu)) from rfl)]
    rw [jlw_g (pc := 1581) (p4 := 1585) (p5 := 1586) (k := 1) (st := .ref 0 :: []) (h := (jm_hp H rho mu)) rfl rfl hL hi hL2 (by decide)]
    rw [jlw_g (pc := 1586) (p4 := 1590) (p5 := 1591) (k := 2) (st := .int (H jm_SCR (i + 1)) :: .ref 0 :: []) (h := (jm_hp H rho mu)) rfl rfl hL hi hL2 (by decide)]
    rw [jlw_g (pc := 1591) (p4 := 1595) (p5 := 1596) (k := 3) (st := .int (H jm_SCR (i + 2)) :: .int (H jm_SCR (i + 1)) :: .ref 0 :: []) (h := (jm_hp H rho mu)) rfl rfl hL hi hL2 (by decide)]
    rw [jlw_g (pc := 1596) (p4 := 1600) (p5 := 1601) (k := 4) (st := .int (H jm_SCR (i + 3)) :: .int (H jm_SCR (i + 2)) :: .int (H jm_SCR (i + 1)) :: .ref 0 :: []) (h := (jm_hp H rho mu)) rfl rfl hL hi hL2 (by decide)]
    rw [jlw_g (pc := 1601) (p4 := 1605) (p5 := 1606) (k := 5) (st := .int (H jm_SCR (i + 4)) :: .int (H jm_SCR (i + 3)) :: .int (H jm_SCR (i + 2)) :: .int (H jm_SCR (i + 1)) :: .ref 0 :: []) (h := (jm_hp H rho mu)) rfl rfl hL hi hL2 (by decide)]
    exact jm_go_call (q := (116, .ref 0 :: [.int (H jm_SCR (i + 1)), .int (H jm_SCR (i + 2)), .int (H jm_SCR (i + 3)), .int (H jm_SCR (i + 4)), .int (H jm_SCR (i + 5))], [])) rfl
  · intro x H1 rho1 mu1 hS hC
    have hL3 : (jm_hp H1 rho1 mu1).1 jm_SCL 0 = nI L := (congrFun hC 0).trans hL
    rw [jm_go_steps 1 (show jm_steps 245 1 (1609, jlw_L i, [.int x], (jm_hp H1 rho1 mu1)) = some (1610, jlw_L i, .ref 57 :: [.int x], (jm_hp H1 rho1 mu1)) from rfl)]
    rw [jlw_g (pc := 1610) (p4 := 1614) (p5 := 1615) (k := 1) (st := .ref 57 :: [.int x]) (h := (jm_hp H1 rho1 mu1)) rfl rfl hL3 hi hL2 (by decide)]
    rw [jlw_g (pc := 1615) (p4 := 1619) (p5 := 1620) (k := 2) (st := .int (H1 jm_SCR (i + 1)) :: .ref 57 :: [.int x]) (h := (jm_hp H1 rho1 mu1)) rfl rfl hL3 hi hL2 (by decide)]
    rw [jlw_g (pc := 1620) (p4 := 1624) (p5 := 1625) (k := 3) (st := .int (H1 jm_SCR (i + 2)) :: .int (H1 jm_SCR (i + 1)) :: .ref 57 :: [.int x]) (h := (jm_hp H1 rho1 mu1)) rfl rfl hL3 hi hL2 (by decide)]
    rw [jlw_g (pc := 1625) (p4 := 1629) (p5 := 1630) (k := 4) (st := .int (H1 jm_SCR (i + 3)) :: .int (H1 jm_SCR (i + 2)) :: .int (H1 jm_SCR (i + 1)) :: .ref 57 :: [.int x]) (h := (jm_hp H1 rho1 mu1)) rfl rfl hL3 hi hL2 (by decide)]
    rw [jlw_g (pc := 1630) (p4 := 1634) (p5 := 1635) (k := 5) (st := .int (H1 jm_SCR (i + 4)) :: .int (H1 jm_SCR (i + 3)) :: .int (H1 jm_SCR (i + 2)) :: .int (H1 jm_SCR (i + 1)) :: .ref 57 :: [.int x]) (h := (jm_hp H1 rho1 mu1)) rfl rfl hL3 hi hL2 (by decide)]
    rw [← hS]
    exact jm_go_call (q := (231, .ref 57 :: [.int (H1 jm_SCR (i + 1)), .int (H1 jm_SCR (i + 2)), .int (H1 jm_SCR (i + 3)), .int (H1 jm_SCR (i + 4)), .int (H1 jm_SCR (i + 5))], [.int x])) rfl
  · intro x h
    refine jm_go_next (show jm_step 245 (1638, jlw_L i, [.int x, .int x], h) = some (.inl (1729, jlw_L i, [], h)) from ?_)
    exact (show jm_step 245 (1638, jlw_L i, [.int x, .int x], h) = some (.inl (if x = x then 1729 else 1641, jlw_L i, [], h)) from rfl).trans (by rw [if_pos rfl])
set_option maxRecDepth 20000 in
theorem jlw_peopleBy : jlw_Z 1643 := by
  intro i L H rho mu hi hL2 hL hV hmu
  refine jlw_ti (p2 := 1667) (p3 := 1691) (yc := 117) (ym := 232) (jq_peopleBy (H jm_SCR (i + 1)) (H jm_SCR (i + 2)) (H jm_SCR (i + 3)) (H jm_SCR (i + 4))) rfl hV hmu ?_ ?_ ?_
  · rw [jm_go_steps 1 (show jm_steps 245 1 (1643, jlw_L i, [], (jm_hp H rho mu)) = some (1644, jlw_L i, .ref 0 :: [], (jm_hp H rho mu)) from rfl)]
    rw [jlw_g (pc := 1644) (p4 := 1648) (p5 := 1649) (k := 1) (st := .ref 0 :: []) (h := (jm_hp H rho mu)) rfl rfl hL hi hL2 (by decide)]
    rw [jlw_g (pc := 1649) (p4 := 1653) (p5 := 1654) (k := 2) (st := .int (H jm_SCR (i + 1)) :: .ref 0 :: []) (h := (jm_hp H rho mu)) rfl rfl hL hi hL2 (by decide)]
    rw [jlw_g (pc := 1654) (p4 := 1658) (p5 := 1659) (k := 3) (st := .int (H jm_SCR (i + 2)) :: .int (H jm_SCR (i + 1)) :: .ref 0 :: []) (h := (jm_hp H rho mu)) rfl rfl hL hi hL2 (by decide)]
    rw [jlw_g (pc := 1659) (p4 := 1663) (p5 := 1664) (k := 4) (st := .int (H jm_SCR (i + 3)) :: .int (H jm_SCR (i + 2)) :: .int (H jm_SCR (i + 1)) :: .ref 0 :: []) (h := (jm_hp H rho mu)) rfl rfl hL hi hL2 (by decide)]
    exact jm_go_call (q := (117, .ref 0 :: [.int (H jm_SCR (i + 1)), .int (H jm_SCR (i + 2)), .int (H jm_SCR (i + 3)), .int (H jm_SCR (i + 4))], [])) rfl
  · intro x H1 rho1 mu1 hS hC
    have hL3 : (jm_hp H1 rho1 mu1).1 jm_SCL 0 = nI L := (congrFun hC 0).trans hL
    rw [jm_go_steps 1 (show jm_steps 245 1 (1667, jlw_L i, [.int x], (jm_hp H1 rho1 mu1)) = some (1668, jlw_L i, .ref 57 :: [.int x], (jm_hp H1 rho1 mu1)) from rfl)]
    rw [jlw_g (pc := 1668) (p4 := 1672) (p5 := 1673) (k := 1) (st := .ref 57 :: [.int x]) (h := (jm_hp H1 rho1 mu1)) rfl rfl hL3 hi hL2 (by decide)]
    rw [jlw_g (pc := 1673) (p4 := 1677) (p5 := 1678) (k := 2) (st := .int (H1 jm_SCR (i + 1)) :: .ref 57 :: [.int x]) (h := (jm_hp H1 rho1 mu1)) rfl rfl hL3 hi hL2 (by decide)]
    rw [jlw_g (pc := 1678) (p4 := 1682) (p5 := 1683) (k := 3) (st := .int (H1 jm_SCR (i + 2)) :: .int (H1 jm_SCR (i + 1)) :: .ref 57 :: [.int x]) (h := (jm_hp H1 rho1 mu1)) rfl rfl hL3 hi hL2 (by decide)]
    rw [jlw_g (pc := 1683) (p4 := 1687) (p5 := 1688) (k := 4) (st := .int (H1 jm_SCR (i + 3)) :: .int (H1 jm_SCR (i + 2)) :: .int (H1 jm_SCR (i + 1)) :: .ref 57 :: [.int x]) (h := (jm_hp H1 rho1 mu1)) rfl rfl hL3 hi hL2 (by decide)]
    rw [← hS]
    exact jm_go_call (q := (232, .ref 57 :: [.int (H1 jm_SCR (i + 1)), .int (H1 jm_SCR (i + 2)), .int (H1 jm_SCR (i + 3)), .int (H1 jm_SCR (i + 4))], [.int x])) rfl
  · intro x h
    refine jm_go_next (show jm_step 245 (1691, jlw_L i, [.int x, .int x], h) = some (.inl (1729, jlw_L i, [], h)) from ?_)
    exact (show jm_step 245 (1691, jlw_L i, [.int x, .int x], h) = some (.inl (if x = x then 1729 else 1694, jlw_L i, [], h)) from rfl).trans (by rw [if_pos rfl])
set_option maxRecDepth 20000 in
theorem jlw_taken : jlw_Z 1696 := by
  intro i L H rho mu hi hL2 hL hV hmu
  refine jlw_ti (p2 := 1710) (p3 := 1724) (yc := 118) (ym := 234) (jq_taken (H jm_SCR (i + 1)) (H jm_SCR (i + 2))) rfl hV hmu ?_ ?_ ?_
  · rw [jm_go_steps 1 (show jm_steps 245 1 (1696, jlw_L i, [], (jm_hp H rho mu)) = some (1697, jlw_L i, .ref 0 :: [], (jm_hp H rho mu)) from rfl)]
    rw [jlw_g (pc := 1697) (p4 := 1701) (p5 := 1702) (k := 1) (st := .ref 0 :: []) (h := (jm_hp H rho mu)) rfl rfl hL hi hL2 (by decide)]
    rw [jlw_g (pc := 1702) (p4 := 1706) (p5 := 1707) (k := 2) (st := .int (H jm_SCR (i + 1)) :: .ref 0 :: []) (h := (jm_hp H rho mu)) rfl rfl hL hi hL2 (by decide)]
    exact jm_go_call (q := (118, .ref 0 :: [.int (H jm_SCR (i + 1)), .int (H jm_SCR (i + 2))], [])) rfl
  · intro x H1 rho1 mu1 hS hC
    have hL3 : (jm_hp H1 rho1 mu1).1 jm_SCL 0 = nI L := (congrFun hC 0).trans hL
    rw [jm_go_steps 1 (show jm_steps 245 1 (1710, jlw_L i, [.int x], (jm_hp H1 rho1 mu1)) = some (1711, jlw_L i, .ref 57 :: [.int x], (jm_hp H1 rho1 mu1)) from rfl)]
    rw [jlw_g (pc := 1711) (p4 := 1715) (p5 := 1716) (k := 1) (st := .ref 57 :: [.int x]) (h := (jm_hp H1 rho1 mu1)) rfl rfl hL3 hi hL2 (by decide)]
    rw [jlw_g (pc := 1716) (p4 := 1720) (p5 := 1721) (k := 2) (st := .int (H1 jm_SCR (i + 1)) :: .ref 57 :: [.int x]) (h := (jm_hp H1 rho1 mu1)) rfl rfl hL3 hi hL2 (by decide)]
    rw [← hS]
    exact jm_go_call (q := (234, .ref 57 :: [.int (H1 jm_SCR (i + 1)), .int (H1 jm_SCR (i + 2))], [.int x])) rfl
  · intro x h
    refine jm_go_next (show jm_step 245 (1724, jlw_L i, [.int x, .int x], h) = some (.inl (1729, jlw_L i, [], h)) from ?_)
    exact (show jm_step 245 (1724, jlw_L i, [.int x, .int x], h) = some (.inl (if x = x then 1729 else 1727, jlw_L i, [], h)) from rfl).trans (by rw [if_pos rfl])
