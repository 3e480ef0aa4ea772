/-! what is asked of a person looks at five fields alone -/
def jPe (P Q : Nat → Int32) : Prop := ∀ j, 1 ≤ j → j < 6 → P j = Q j
theorem jPe_rf {P : Nat → Int32} : jPe P P := fun _ _ _ => rfl
theorem js_env_e {P Q : Nat → Int32} (h : jPe P Q) (x y : Int32) : js_env P x y = js_env Q x y := by
  funext c
  unfold js_env
  rw [h 3 (by omega) (by omega), h 2 (by omega) (by omega), h 5 (by omega) (by omega), h 1 (by omega) (by omega)]
theorem js_said_e {P Q : Nat → Int32} (h : jPe P Q) (c : Nat → List Nat) (q : Nat) (x y : Int32) : js_said c q P x y = js_said c q Q x y := by
  unfold js_said; rw [js_env_e h]
theorem js_dare_e {P Q : Nat → Int32} (h : jPe P Q) (w : jW) (kd k : Nat) : js_dare w kd P k = js_dare w kd Q k := by
  unfold js_dare js_db js_d1
  rw [js_said_e h, h 4 (by omega) (by omega), h 1 (by omega) (by omega)]
theorem js_may_e {P Q : Nat → Int32} (h : jPe P Q) (w : jW) (kd k : Nat) : js_may w kd P k = js_may w kd Q k := by
  unfold js_may js_at
  rw [js_dare_e h, h 2 (by omega) (by omega)]
theorem js_new_e {P Q : Nat → Int32} (h : jPe P Q) (w : jW) (kd k : Nat) : jPe (js_new w kd P k) (js_new w kd Q k) := by
  intro j h1 h6
  unfold js_new js_leave js_gain js_gb js_lb
  rw [js_said_e h, js_said_e h, h 2 (by omega) (by omega), h 4 (by omega) (by omega), h 3 (by omega) (by omega), h 5 (by omega) (by omega), h 1 (by omega) (by omega), h j h1 h6]
theorem js_try_e {P Q : Nat → Int32} (h : jPe P Q) (w : jW) (kd k : Nat) : jPe (js_try w kd P k) (js_try w kd Q k) := by
  unfold js_try
  rw [js_may_e h]
  split
  · exact js_new_e h w kd k
  · exact h
theorem js_wk_e {P Q : Nat → Int32} (h : jPe P Q) (w : jW) (kd : Nat) (dd : Nat → Nat) : ∀ k, jPe (js_wk w kd P dd k) (js_wk w kd Q dd k) := by
  intro k
  induction k with
  | zero => exact h
  | succ k ih => exact js_try_e ih w kd (dd k)
theorem js_ot_e {P Q : Nat → Int32} (h : jPe P Q) (w : jW) (kd : Nat) (dd : Nat → Nat) (tl : Nat → Int32) : js_ot w kd P dd tl = js_ot w kd Q dd tl := by
  funext k
  unfold js_ot
  rw [js_wk_e h w kd dd (k + 1) 3 (by omega) (by omega)]
theorem js_ff_e {f g : Nat → Bool} : ∀ {n : Nat}, (∀ j, j < n → f j = g j) → js_ff f n = js_ff g n := by
  intro n
  induction n with
  | zero => intro _; rfl
  | succ n ih => intro h; rw [js_ff, js_ff, ih fun j hj => h j (by omega), h n (by omega)]
theorem js_ot_t {P : Nat → Int32} {w : jW} {kd : Nat} {dd : Nat → Nat} {s t : Nat → Int32} {z : Nat} (h : ∀ k, k < z → s k = t k) : js_ff (js_ot w kd P dd s) z = js_ff (js_ot w kd P dd t) z := js_ff_e fun j hj => by
  unfold js_ot; rw [h j hj]
theorem jPv_e {P Q : Nat → Int32} {n : Nat} (h : jPe P Q) (hv : jPv n Q) : jPv n P := by
  unfold jPv at hv ⊢
  rw [h 1 (by omega) (by omega), h 2 (by omega) (by omega), h 3 (by omega) (by omega), h 4 (by omega) (by omega), h 5 (by omega) (by omega)]; exact hv
theorem jQ_P {I : Nat → Nat → Int32} {p kd : Nat} {P Q : Nat → Int32} (h : jPe P Q) (hQ : jQ I p kd Q) : jQ I p kd P := by
  unfold jQ at hQ ⊢
  rw [h 1 (by omega) (by omega), h 2 (by omega) (by omega), h 3 (by omega) (by omega), h 4 (by omega) (by omega), h 5 (by omega) (by omega)]; exact hQ
/-- a field otherwise -/
def js_set (P : Nat → Int32) (j : Nat) (v : Int32) : Nat → Int32 := fun i => if i = j then v else P i
theorem js_set_e {P Q : Nat → Int32} (h : jPe P Q) (j : Nat) (v : Int32) : jPe (js_set P j v) (js_set Q j v) := fun i h1 h6 => by
  unfold js_set; rw [h i h1 h6]
theorem jm_up_o {I : Nat → Nat → Int32} {o j : Nat} {v : Int32} : jm_up I o j v o = js_set (I o) j v := by
  funext i; simp [jx_rd, js_set]
/-- the answer of a told walk -/
def js_ans (w : jW) (kd : Nat) (P : Nat → Int32) (dd : Nat → Nat) (tl : Nat → Int32) (z : Nat) : Int32 := js_ff (js_ot w kd P dd tl) z
theorem js_ans_e {P Q : Nat → Int32} (h : jPe P Q) (w : jW) (kd : Nat) (dd : Nat → Nat) (tl : Nat → Int32) (z : Nat) : js_ans w kd P dd tl z = js_ans w kd Q dd tl z := by
  unfold js_ans; rw [js_ot_e h]
