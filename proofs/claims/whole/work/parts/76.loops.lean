/-! THE LOOPS of a text's levels -/
def jz_tv (T v : Nat) : Prop := T = 0 ∨ T = 1 ∨ T = 2 ∧ v < 6 ∨ T = 3 ∧ v < 3 ∨ T = 4 ∨ T = 5 ∨ T = 6 ∨ T = 7 ∨ T = 40 ∨ T = 41 ∨ T = 42 ∨ T = 43 ∨ T = 45 ∨ T = 59 ∨ T = 60 ∨ T = 61
theorem jz_tv_of (b : Nat → Nat) (s p : Nat) : jz_tv (jz_t b s p) (jz_v b s p) := by
  have h7 : ∀ k, jz_tw k = 3 ∧ jz_vw k < 3 ∨ jz_tw k = 2 ∧ jz_vw k < 6 ∨ jz_tw k = 4 ∨ jz_tw k = 5 ∨ jz_tw k = 6 ∨ jz_tw k = 7 := by
    intro k
    unfold jz_tw jz_vw
    repeat' split
    all_goals omega
  unfold jz_tv jz_t jz_v
  by_cases h1 : jz_r b s p < s
  · rw [if_pos h1]
    by_cases h2 : jz_le (b (jz_r b s p)) = true
    · rw [if_pos h2, if_pos h2]
      have := h7 (jz_w b (jz_r b s p) (jz_e b s p))
      omega
    · rw [if_neg h2, if_neg h2]
      by_cases h3 : jz_di (b (jz_r b s p)) = true
      · rw [if_pos h3]; split <;> omega
      · rw [if_neg h3]
        by_cases h4 : jz_si (b (jz_r b s p)) = true
        · rw [if_pos h4]
          simp only [jz_si, Bool.or_eq_true, decide_eq_true_eq] at h4
          omega
        · rw [if_neg h4]; omega
  · rw [if_neg h1]; omega
theorem jz_ct_i {T v : Nat} (h : jz_tv T v) : T = 0 ∧ (jz_ct T v).toInt = 2 ∨ T = 1 ∧ (jz_ct T v).toInt = 1 ∨ T = 2 ∧ v < 6 ∧ (jz_ct T v).toInt = -((v : Int) + 1) ∨ T = 3 ∧ v < 3 ∧ (jz_ct T v).toInt = 4 + v ∨ T = 4 ∧ (jz_ct T v).toInt = -7 ∨ T = 5 ∧ (jz_ct T v).toInt = -8 ∨ T = 6 ∧ (jz_ct T v).toInt = -9 ∨ T = 7 ∧ (jz_ct T v).toInt = 3 ∨ 40 ≤ T ∧ T < 256 ∧ (jz_ct T v).toInt = T := by
  unfold jz_tv at h
  unfold jz_ct
  by_cases h0 : T = 0
  · rw [if_pos h0, jx_ti (by decide)]; omega
  by_cases h1 : T = 1
  · rw [if_neg h0, if_pos h1, jx_ti (by decide)]; omega
  by_cases h2 : T = 2
  · rw [if_neg h0, if_neg h1, if_pos h2, jx_tn (by omega)]; omega
  by_cases h3 : T = 3
  · rw [if_neg h0, if_neg h1, if_neg h2, if_pos h3, jx_ti (by omega)]; omega
  by_cases h4 : T = 4
  · rw [if_neg h0, if_neg h1, if_neg h2, if_neg h3, if_pos h4, jx_tn (by decide)]; omega
  by_cases h5 : T = 5
  · rw [if_neg h0, if_neg h1, if_neg h2, if_neg h3, if_neg h4, if_pos h5, jx_tn (by decide)]; omega
  by_cases h6 : T = 6
  · rw [if_neg h0, if_neg h1, if_neg h2, if_neg h3, if_neg h4, if_neg h5, if_pos h6, jx_tn (by decide)]; omega
  by_cases h7 : T = 7
  · rw [if_neg h0, if_neg h1, if_neg h2, if_neg h3, if_neg h4, if_neg h5, if_neg h6, if_pos h7, jx_ti (by decide)]; omega
  · rw [if_neg h0, if_neg h1, if_neg h2, if_neg h3, if_neg h4, if_neg h5, if_neg h6, if_neg h7, jx_ti (by omega)]; omega
theorem jz_ct_neg {T v n : Nat} (h : jz_tv T v) (h7 : 7 ≤ n) (h9 : n ≤ 9) : jz_ct T v = -nI n ↔ T + 3 = n := by
  have := jz_ct_i h
  rw [jx_ei, jx_tn (by omega)]; omega
theorem jz_ct_pos {T v n : Nat} (h : jz_tv T v) (h7 : 40 ≤ n) (h9 : n < 256) : jz_ct T v = nI n ↔ T = n := by
  have := jz_ct_i h
  rw [jx_ei, jx_ti (by omega)]; omega
theorem jz_ct_1 {T v : Nat} (h : jz_tv T v) : jz_ct T v = nI 1 ↔ T = 1 := by
  have := jz_ct_i h
  rw [jx_ei, jx_ti (by omega)]; omega
theorem jz_ct_2 {T v : Nat} (h : jz_tv T v) : jz_ct T v = nI 2 ↔ T = 0 := by
  have := jz_ct_i h
  rw [jx_ei, jx_ti (by omega)]; omega
theorem jz_ct_key {T v k : Nat} (h : jz_tv T v) (hk : k < 3) : jz_ct T v = nI (4 + k) ↔ T = 3 ∧ v = k := by
  have := jz_ct_i h
  rw [jx_ei, jx_ti (by omega)]; omega
theorem jz_ct_nm {T v : Nat} (h : jz_tv T v) : (¬ -nI 1 < jz_ct T v ∧ ¬ jz_ct T v < -nI 6) ↔ T = 2 := by
  have := jz_ct_i h
  rw [jx_lt, jx_lt, jx_tn (by omega), jx_tn (by omega)]; omega
theorem jz_out_mo {b : Nat → Nat} {s t d : Nat} {rho : Nat → Option Nat} {mu : List (Nat × Nat)} {Z Z2 : (Nat → Nat → Int32) → List Nat → jm_V → Prop} {lev o om : Nat} {fo : List Nat → List Nat} {C : List Nat} {p : Nat} {H H2 : Nat → Nat → Int32} {V : jm_V} (hz : ∀ K hd V0, Z K hd V0 → ∃ K1, Z2 K1 hd V0 ∧ jG (jS_rm t) K K1) (g : jG (jS_rd t) H H2) (h : jz_out b s t d rho mu Z2 lev o om fo C p H2 V) : jz_out b s t d rho mu Z lev o om fo C p H V := by
  rcases h with ⟨J, q, E, E1, S, h1, h2, h3, h4, h5, h6, h7, h8, h9, h10, h11, h12⟩ | ⟨J, f, h1, h2, h3, h4⟩
  · refine .inl ⟨J, q, E, E1, S, h1, jG_tr g h2, h3, h4, h5, h6, h7, h8, h9, h10, h11, fun K hd V0 z => ?_⟩
    obtain ⟨K1, z1, g1⟩ := hz K hd V0 z
    obtain ⟨K2, mn, l3, a1, a2, a3⟩ := h12 K1 hd V0 z1
    exact ⟨K2, mn, l3, a1, a2, jG_tr g1 a3⟩
  · refine .inr ⟨J, f, h1, jG_tr g h2, h3, fun K hd V0 z => ?_⟩
    obtain ⟨K1, z1, g1⟩ := hz K hd V0 z
    obtain ⟨K2, z2, a1, a2, a3⟩ := h4 K1 hd V0 z1
    exact ⟨K2, z2, a1, jG_tr g1 a2, a3⟩
/-- where a loop goes on, in the reference -/
def jz_Zl (b : Nat → Nat) (s t d : Nat) (rho : Nat → Option Nat) (mu : List (Nat × Nat)) (hi o q : Nat) (C E1 S : List Nat) (K : Nat → Nat → Int32) (hd : List Nat) (V0 : jm_V) : Prop :=
  ∃ mn l3, V0 = jz_g1 d rho mu K 0 mn l3 ∧ jz_R K b s t q (S ++ hd) (o + jz_no S) (C ++ E1) ∧ (S ++ hd).length + (C ++ E1).length ≤ q ∧ jz_hr hd hi
theorem jz_lp {b : Nat → Nat} {s t d : Nat} {rho : Nat → Option Nat} {mu : List (Nat × Nat)} {ys lev o p e0 : Nat} {op : Nat → Prop} {TL : List (Option Value) → Prop} {LH : Nat → List (Option Value) → (Nat → Nat → Int32) → jm_V} (ht : t < 6) (hs : s ≤ 160) (hlev : lev = 2 ∨ lev = 3 ∨ lev = 5 ∨ lev = 6)
    (hop : ∀ T, op T → jz_sg T ≠ 0 ∧ jz_rk (jz_sg T) = jz_lo lev ∧ (jz_sg T ≤ 12 ↔ 5 ≤ lev) ∧ jz_o1 (jz_sg T) = 0 ∧ jv_n (jz_sg T) = 2)
    (hfl : ∀ q S, jz_fl b s (lev - 1) q S → ¬ op (jz_t b s q) → jz_fl b s lev q S)
    (hstop : ∀ i tl J, i ≤ 160 → TL tl → (∀ T v, op T → ¬ J 30 3 = jz_ct T v) → LH i tl J = some (none, jm_hp J rho mu))
    (hcont : ∀ i tl J T v J1 J2 J3, i < 160 → TL tl → op T → J 30 3 = jz_ct T v → jm_ev e0 37 [.ref 30] (jm_hp J rho mu) = some (none, jm_hp J1 rho mu) → jm_ev e0 ys [.ref 30, .ref (6 + 4 * t), .int (nI o)] (jm_hp J1 rho mu) = some (none, jm_hp J2 rho mu) → jm_ev e0 47 [.ref (6 + 4 * t), .int (jv_cl (jz_sg T))] (jm_hp J2 rho mu) = some (none, jm_hp J3 rho mu) → ∃ tl2, TL tl2 ∧ LH i tl J = LH (i + 1) tl2 J3)
    (hopn : ∀ T v q, op T → jz_tv (jz_t b s q) (jz_v b s q) → jz_ct (jz_t b s q) (jz_v b s q) = jz_ct T v → op (jz_t b s q))
    (hopF : ∀ T v, op T → ¬ nI 3 = jz_ct T v)
    (he : 8 * (5 - o) + (lev - 1) + 12 ≤ e0) (hsub : ∀ p2, p ≤ p2 → p2 ≤ s → jz_P b s t d rho mu ys (lev - 1) o p2) :
    ∀ n q, s - q ≤ n → q ≤ s → ∀ i tl H E E1 S C, C.length ≤ p → TL tl → i ≤ q → jz_K H b s q → jz_D H t (C ++ E) → p + E.length ≤ q → E = E1 ++ S → (∀ g, g ∈ S → jz_lo lev ≤ jz_rk g ∧ 11 ≤ g ∧ g < 20) → (∀ c, c ∈ E → jv_code c) → (∀ h, h + (5 * (5 - o) + lev) ≤ 39 → jv_h E h = some (h + 1)) → jz_fl b s (lev - 1) q S →
      jz_out b s t d rho mu (jz_Zl b s t d rho mu (jz_hi lev) o q C E1 S) lev o o (fun E1 => C ++ E1) C p H (LH i tl H) := by
  have lo1 : jz_lo lev ≤ jz_lo (lev - 1) := by rcases hlev with h | h | h | h <;> subst h <;> decide
  have lo2 : jz_lo lev < jz_hi (lev - 1) := by rcases hlev with h | h | h | h <;> subst h <;> decide
  have lo3 : jz_hi lev = jz_lo lev := by rcases hlev with h | h | h | h <;> subst h <;> decide
  have lo4 : jz_lo lev ≠ 4 := by rcases hlev with h | h | h | h <;> subst h <;> decide
  have lo5 : 5 ≤ lev ↔ 4 ≤ lev - 1 := by omega
  intro n
  induction n with
  | zero =>
    intro q hn hq i tl H E E1 S C hC htl hi hK hD hl hE hS hc hh hf
    have hTn : ¬ op (jz_t b s q) := fun h => by
      have h0 : jz_t b s q ≠ 0 := fun h0 => (hop _ h).1 (by rw [h0]; rfl)
      have h1 := jz_t_0 hq h0
      have h2 := (jz_r_le b hq).1
      omega
    rw [hstop i tl H (by omega) htl fun T v hT hne => hTn (hopn T v q hT (jz_tv_of b s q) (by rw [← hK.2.2.2.1]; exact hne))]
    refine .inl ⟨H, q, E, E1, S, rfl, jG_rf, hK, hD, hq, hl, hE, hS, hc, hh, hfl q S hf hTn, fun K hd V0 z => ?_⟩
    obtain ⟨mn, l3, z1, z2, -, -⟩ := z
    exact ⟨K, mn, l3, z1, z2, jG_rf⟩
  | succ n ih =>
    intro q hn hq i tl H E E1 S C hC htl hi hK hD hl hE hS hc hh hf
    by_cases hT : op (jz_t b s q)
    · obtain ⟨o1, o2, o3, o4, o5⟩ := hop _ hT
      have h0 : jz_t b s q ≠ 0 := fun h0 => o1 (by rw [h0]; rfl)
      have h1 := jz_t_0 hq h0
      have h2 := jz_r_le b hq
      have hq2 := (jz_e_le b hq).2.1
      obtain ⟨g, hg⟩ : ∃ g, g = jz_sg (jz_t b s q) := ⟨_, rfl⟩
      have hgT := jz_sg_T o1
      rw [← hg] at o1 o2 o3 o4 o5 hgT
      obtain ⟨J1, k37, K1, g1⟩ := jz_next (e := e0) (rho := rho) (mu := mu) (by omega) hK hq
      have D1 := jz_D_lx ht hD g1
      have hCE : (C ++ E).length ≤ jz_e b s q := by rw [List.length_append]; omega
      -- the reference takes the sign
      have hZ : ∀ K hd V0, jz_Zl b s t d rho mu (jz_hi lev) o q C E1 S K hd V0 → ∃ K1, jz_Z b s t d rho mu (lev - 1) o (jz_e b s q) (C ++ E) K1 (g :: hd) V0 ∧ jG (jS_rm t) K K1 := fun K hd V0 z => by
        obtain ⟨mn, l3, z1, z2, z3, z4⟩ := z
        obtain ⟨K1, l4, r1, r2, r3⟩ := jr_op (d := d) (rho := rho) (mu := mu) (mn := mn) (l3 := l3) hq hg.symm o1 z2 (fun x hx => by rw [o2, if_neg lo4]; exact (hS x hx).1) (by rw [o2, ← lo3]; exact z4) z3
        refine ⟨K1, ⟨_, l4, z1.trans r1, ?_, by rw [hE, ← List.append_assoc]; exact r2, ?_, fun x l hx => ?_⟩, r3⟩
        · by_cases h5 : 5 ≤ lev
          · rw [if_pos (lo5.mp h5), if_pos (o3.mpr h5)]
          · rw [if_neg (fun h => h5 (lo5.mpr h)), if_neg (fun h => h5 (o3.mp h))]; exact .inl rfl
        · simp only [List.length_append] at z3 hCE ⊢
          rw [hE, List.length_append]
          rw [List.length_cons]
          omega
        · cases hx
          rw [o2]; exact lo2
      rcases hsub (jz_e b s q) (by omega) hq2 e0 J1 (C ++ E) he hCE K1 D1 with ⟨J2, q2, E2, E21, S2, v1, g2, K2, D2, hq3, hl2, hE2, hS2, hc2, hh2, hf2, ref2⟩ | ⟨J2, f, v1, g2, F2, ref2⟩
      · have hlen : (C ++ E ++ E2).length < 160 := by
          simp only [List.length_append]; omega
        obtain ⟨J3, k47, K3, D3, g3⟩ := jz_add (e := e0) (c := g) (rho := rho) (mu := mu) ht (by omega) K2 D2 hlen
        obtain ⟨tl2, htl2, eL⟩ := hcont i tl H (jz_t b s q) (jz_v b s q) J1 J2 J3 (by omega) htl hT hK.2.2.2.1 k37 v1 (by rw [← hg]; exact k47)
        rw [eL]
        have hEl : (E ++ E2 ++ [g]).length = E.length + E2.length + 1 := by simp only [List.length_append]; rfl
        have IH := ih q2 (by omega) hq3 (i + 1) tl2 J3 (E ++ E2 ++ [g]) (E ++ E21) (S2 ++ [g]) C hC htl2 (by omega) K3 (by rw [show C ++ (E ++ E2 ++ [g]) = C ++ E ++ E2 ++ [g] by simp]; exact D3) (by rw [hEl]; omega) (by rw [hE2]; simp) (fun x hx => by
            rcases List.mem_append.mp hx with h | h
            · have := hS2 x h; omega
            · rw [List.mem_singleton.mp h, o2]; omega) (fun c hcc => by
            rcases List.mem_append.mp hcc with h | h
            · rcases List.mem_append.mp h with h | h
              · exact hc c h
              · exact hc2 c h
            · rw [List.mem_singleton.mp h]; exact .inr (.inl (by omega))) (fun h hb => by
            rw [jv_h_app, jv_h_app, hh h hb]
            show ((jv_h E2 (h + 1)).bind (jv_h [g])) = _
            rw [hh2 (h + 1) (by omega)]
            show jv_h [g] (h + 1 + 1) = _
            rw [jv_h, o5, if_pos (by omega)]
            show jv_h [] _ = _
            rw [jv_h]; congr 1) (jz_fl_app hf2 [g])
        refine jz_out_mo (fun K hd V0 z => ?_) (jG_tr (jG_tr (jG_lxrd g1) g2) g3) IH
        obtain ⟨K1', z1, r1⟩ := hZ K hd V0 z
        obtain ⟨K2', mn, l3, a1, a2, a3⟩ := ref2 K1' (g :: hd) V0 z1
        obtain ⟨-, -, -, -, -, zl, -⟩ := z1
        refine ⟨K2', ⟨mn, l3, a1, ?_, ?_, by obtain ⟨_, _, _, _, _, z4⟩ := z; exact z4⟩, jG_tr r1 a3⟩
        · rw [show S2 ++ [g] ++ hd = S2 ++ g :: hd by simp, jz_no_app, show jz_no [g] = 0 by rw [jz_no, jz_no, o4], Nat.add_zero, ← List.append_assoc]
          exact a2
        · simp only [List.length_append, List.length_cons] at zl ⊢
          rw [hE2, List.length_append] at hl2
          show S2.length + (0 + 1) + hd.length + _ ≤ _
          omega
      · obtain ⟨J3, k47, F3, g3⟩ := jz_F_add (e := e0) (x := jv_cl g) (rho := rho) (mu := mu) ht (by omega) F2
        obtain ⟨tl2, htl2, eL⟩ := hcont i tl H (jz_t b s q) (jz_v b s q) J1 J2 J3 (by omega) htl hT hK.2.2.2.1 k37 v1 (by rw [← hg]; exact k47)
        rw [eL, hstop (i + 1) tl2 J3 (by omega) htl2 fun T v hT2 => by rw [F3.2.2.1]; exact hopF T v hT2]
        refine .inr ⟨J3, f, rfl, jG_tr (jG_tr (jG_lxrd g1) g2) g3, F3, fun K hd V0 z => ?_⟩
        obtain ⟨K1', z1, r1⟩ := hZ K hd V0 z
        obtain ⟨K2', z2, a1, a2, a3⟩ := ref2 K1' (g :: hd) V0 z1
        exact ⟨K2', z2, a1, jG_tr r1 a2, a3⟩
    · rw [hstop i tl H (by omega) htl fun T v hT2 hne => hT (hopn T v q hT2 (jz_tv_of b s q) (by rw [← hK.2.2.2.1]; exact hne))]
      refine .inl ⟨H, q, E, E1, S, rfl, jG_rf, hK, hD, hq, hl, hE, hS, hc, hh, hfl q S hf hT, fun K hd V0 z => ?_⟩
      obtain ⟨mn, l3, z1, z2, -, -⟩ := z
      exact ⟨K, mn, l3, z1, z2, jG_rf⟩
/-- a level out of the one below -/
theorem jz_lv {b : Nat → Nat} {s t d : Nat} {rho : Nat → Option Nat} {mu : List (Nat × Nat)} {y ys lev o p : Nat} {op : Nat → Prop} {TL : List (Option Value) → Prop} {LH : Nat → Nat → List (Option Value) → (Nat → Nat → Int32) → jm_V} (ht : t < 6) (hs : s ≤ 160) (hp : p ≤ s) (hlev : lev = 2 ∨ lev = 3 ∨ lev = 5 ∨ lev = 6)
    (hop : ∀ T, op T → jz_sg T ≠ 0 ∧ jz_rk (jz_sg T) = jz_lo lev ∧ (jz_sg T ≤ 12 ↔ 5 ≤ lev) ∧ jz_o1 (jz_sg T) = 0 ∧ jv_n (jz_sg T) = 2)
    (hfl : ∀ q S, jz_fl b s (lev - 1) q S → ¬ op (jz_t b s q) → jz_fl b s lev q S)
    (hent : ∀ e0 H J, jm_ev e0 ys [.ref 30, .ref (6 + 4 * t), .int (nI o)] (jm_hp H rho mu) = some (none, jm_hp J rho mu) → ∃ tl, TL tl ∧ jm_ev (e0 + 1) y [.ref 30, .ref (6 + 4 * t), .int (nI o)] (jm_hp H rho mu) = LH e0 0 tl J)
    (hstop : ∀ e0 i tl J, i ≤ 160 → TL tl → (∀ T v, op T → ¬ J 30 3 = jz_ct T v) → LH e0 i tl J = some (none, jm_hp J rho mu))
    (hcont : ∀ e0 i tl J T v J1 J2 J3, i < 160 → TL tl → op T → J 30 3 = jz_ct T v → jm_ev e0 37 [.ref 30] (jm_hp J rho mu) = some (none, jm_hp J1 rho mu) → jm_ev e0 ys [.ref 30, .ref (6 + 4 * t), .int (nI o)] (jm_hp J1 rho mu) = some (none, jm_hp J2 rho mu) → jm_ev e0 47 [.ref (6 + 4 * t), .int (jv_cl (jz_sg T))] (jm_hp J2 rho mu) = some (none, jm_hp J3 rho mu) → ∃ tl2, TL tl2 ∧ LH e0 i tl J = LH e0 (i + 1) tl2 J3)
    (hopn : ∀ T v q, op T → jz_tv (jz_t b s q) (jz_v b s q) → jz_ct (jz_t b s q) (jz_v b s q) = jz_ct T v → op (jz_t b s q))
    (hopF : ∀ T v, op T → ¬ nI 3 = jz_ct T v)
    (hsub : ∀ p2, p ≤ p2 → p2 ≤ s → jz_P b s t d rho mu ys (lev - 1) o p2) : jz_P b s t d rho mu y lev o p := by
  have lo1 : jz_lo lev ≤ jz_lo (lev - 1) := by rcases hlev with h | h | h | h <;> subst h <;> decide
  have lo2 : jz_hi lev ≤ jz_hi (lev - 1) := by rcases hlev with h | h | h | h <;> subst h <;> decide
  intro e H C he hC hK hD
  obtain ⟨e0, rfl⟩ : ∃ e0, e = e0 + 1 := ⟨e - 1, by omega⟩
  have hZ : ∀ K hd V0, jz_Z b s t d rho mu lev o p C K hd V0 → jz_Z b s t d rho mu (lev - 1) o p C K hd V0 := fun K hd V0 z => by
    obtain ⟨mn, l3, z1, z2, z3, z4, z5⟩ := z
    refine ⟨mn, l3, z1, ?_, z3, z4, fun g l hg => Nat.lt_of_lt_of_le (z5 g l hg) lo2⟩
    by_cases h5 : 5 ≤ lev
    · rw [if_pos (show 4 ≤ lev - 1 by omega)]
      rw [if_pos (show 4 ≤ lev by omega)] at z2
      exact z2
    · rw [if_neg (show ¬ 4 ≤ lev - 1 by omega)]
      rw [if_neg (show ¬ 4 ≤ lev by omega)] at z2
      exact z2
  rcases hsub p (Nat.le_refl _) hp e0 H C (by omega) hC hK hD with ⟨J, q, E, E1, S, v1, g2, K2, D2, hq3, hl2, hE2, hS2, hc2, hh2, hf2, ref2⟩ | ⟨J, f, v1, g2, F2, ref2⟩
  · obtain ⟨tl, htl, eL⟩ := hent e0 H J v1
    rw [eL]
    have L := jz_lp (d := d) (LH := LH e0) ht hs hlev hop hfl (hstop e0) (hcont e0) hopn hopF (by omega) hsub (s - q) q (Nat.le_refl _) hq3 0 tl J E E1 S C hC htl (Nat.zero_le _) K2 D2 hl2 hE2 (fun g hg => by have := hS2 g hg; omega) hc2 (fun h hb => hh2 h (by omega)) hf2
    refine jz_out_mo (fun K hd V0 z => ?_) g2 L
    obtain ⟨K2', mn, l3, a1, a2, a3⟩ := ref2 K hd V0 (hZ K hd V0 z)
    obtain ⟨_, _, _, _, _, z4, z5⟩ := z
    refine ⟨K2', ⟨mn, l3, a1, a2, ?_, z5⟩, a3⟩
    rw [hE2, List.length_append] at hl2
    simp only [List.length_append]
    omega
  · obtain ⟨tl, htl, eL⟩ := hent e0 H J v1
    rw [eL, hstop e0 0 tl J (by omega) htl fun T v hT2 => by rw [F2.2.2.1]; exact hopF T v hT2]
    refine .inr ⟨J, f, rfl, g2, F2, fun K hd V0 z => ref2 K hd V0 (hZ K hd V0 z)⟩
