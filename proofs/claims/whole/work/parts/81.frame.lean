/-! WHAT LIES BEYOND THE HEAP is left alone by any call; what a call that tells an int gives -/
def jfr_k (h h2 : jm_H) : Prop := ∀ a, h2.2.2.length ≤ a → h2.1 a = h.1 a
theorem jfr_up {h : jm_H} {b k : Nat} {v : Int32} {T : Nat → Nat → Option Nat} (hb : b < h.2.2.length) : jfr_k h (jm_up h.1 b k v, T, h.2.2) := by
  intro a ha
  have ha : h.2.2.length ≤ a := ha
  funext j
  show jm_up h.1 b k v a j = h.1 a j
  rw [jm_up, if_neg (by omega)]
theorem jfr_row {h : jm_H} {b : Nat} {f : Nat → Int32} {T : Nat → Nat → Option Nat} (hb : b < h.2.2.length) : jfr_k h (jm_row h.1 b f, T, h.2.2) := by
  intro a ha
  have ha : h.2.2.length ≤ a := ha
  show jm_row h.1 b f a = h.1 a
  rw [jm_row, if_neg (by omega)]
theorem jfr_new {h : jm_H} {k n : Nat} : jfr_k h (jm_new h k n) := by
  intro a ha
  have ha : (h.2.2 ++ [(k, n)]).length ≤ a := ha
  rw [List.length_append, List.length_singleton] at ha
  show jm_row h.1 h.2.2.length (fun _ => 0) a = h.1 a
  rw [jm_row, if_neg (by omega)]
theorem jfr_A {h : jm_H} {a : Nat} {cs : List Nat} (hi : jm_isA h a cs = true) : a < h.2.2.length := by
  obtain ⟨q, hq, -⟩ := jm_isA_at hi
  exact (List.getElem?_eq_some_iff.mp hq).1
theorem jfr_R {h : jm_H} {a k n : Nat} (hi : jm_isR h a k = some n) : a < h.2.2.length := (List.getElem?_eq_some_iff.mp (jm_isR_at hi)).1
theorem jfr_step {ret : Option FieldType} {o : jm_op} {pc : Nat} {ls : jm_L} {st : List Value} {h : jm_H} {c2 : jm_C} (hs : jm_stepI ret o pc ls st h = some (.inl c2)) : jfr_k h c2.2.2.2 := by
  obtain ⟨i, w⟩ := o
  cases i <;>
    (simp only [jm_stepI, jm_nx, jm_bin, jm_lin, jm_un, jm_lodi, jm_lodl, jm_loda, jm_stoi, jm_stol, jm_stoa, jm_br0, jm_br2, jm_brn, jm_swc, jm_ald, jm_ast, jm_aal, jm_aas, jm_len, jm_bal, jm_gf, jm_pf, jm_ins, jm_nar, jm_ire, jm_are, jm_cal] at hs
     repeat' split at hs
     all_goals first | (cases hs; done) | (cases hs; exact fun _ _ => rfl) | (cases hs; exact jfr_up (jfr_R (by assumption))) | (cases hs; exact jfr_up (jfr_A (by assumption))) | (cases hs; exact jfr_row (jfr_R (by assumption))) | (cases hs; exact jfr_new))
theorem jfr_run {d : Nat} (hd : ∀ y a h v h2, jm_ev d y a h = some (v, h2) → jfr_k h h2) {y : Nat} : ∀ (n : Nat) (C : jm_C) (v : Option Value) (h2 : jm_H), jm_runN (jm_ev d) y n C = some (v, h2) → jfr_k C.2.2.2 h2 := by
  intro n
  induction n with
  | zero => intro C v h2 h; cases h
  | succ n ih =>
    intro C v h2 hr
    rw [jm_runN] at hr
    cases hs : jm_step y C with
    | none => rw [hs] at hr; cases hr
    | some r =>
      rw [hs] at hr
      rcases r with c2 | q | v'
      · obtain ⟨o, -, zz, -⟩ := jm_step_op hs
        have h1 := jfr_step zz
        have h3 := ih _ _ _ hr
        have h4 := (jm_run_mono (jm_sound d) _ _ _ _ hr).1
        exact fun a ha => (h3 a ha).trans (h1 a (by omega))
      · dsimp only at hr
        cases hE : jm_ev d q.1 q.2.1 C.2.2.2 with
        | none => rw [hE] at hr; cases hr
        | some r2 =>
          rw [hE] at hr
          obtain ⟨v2, h3⟩ := r2
          have h1 := hd _ _ _ _ _ hE
          have h5 := ih _ _ _ hr
          have h4 := (jm_run_mono (jm_sound d) _ _ _ _ hr).1
          dsimp only at h4
          exact fun a ha => (h5 a ha).trans (h1 a (by omega))
      · cases hr
        exact fun _ _ => rfl
theorem jfr_ev : ∀ (d y : Nat) (a : List Value) (h : jm_H) (v : Option Value) (h2 : jm_H), jm_ev d y a h = some (v, h2) → jfr_k h h2 := by
  intro d
  induction d with
  | zero => intro y a h v h2 hh; cases hh
  | succ d ih =>
    intro y a h v h2 hh
    rw [jm_ev] at hh
    split at hh
    · obtain ⟨n, hn⟩ := jm_go_iff.mp hh
      exact jfr_run ih n _ _ _ hn
    · cases hh
/-- the step that ended a run -/
theorem jfr_end {E : Nat → List Value → jm_H → jm_V} {y : Nat} : ∀ (n : Nat) (C : jm_C) (v : Option Value) (h2 : jm_H), jm_runN E y n C = some (v, h2) → ∃ C2, jm_step y C2 = some (.inr (.inr v)) := by
  intro n
  induction n with
  | zero => intro C v h2 h; cases h
  | succ n ih =>
    intro C v h2 hr
    rw [jm_runN] at hr
    cases hs : jm_step y C with
    | none => rw [hs] at hr; cases hr
    | some r =>
      rw [hs] at hr
      rcases r with c2 | q | v'
      · exact ih _ _ _ hr
      · dsimp only at hr
        cases hE : E q.1 q.2.1 C.2.2.2 with
        | none => rw [hE] at hr; cases hr
        | some r2 => rw [hE] at hr; exact ih _ _ _ hr
      · cases hr
        exact ⟨C, hs⟩
theorem jfr_kind {y : Nat} {C : jm_C} {v : Option Value} (hs : jm_step y C = some (.inr (.inr v))) : (jm_ret y = some .int → ∃ x, v = some (.int x)) ∧ (jm_ret y = some .long → ∃ x, v = some (.long x)) := by
  obtain ⟨pc, ls, st, h⟩ := C
  obtain ⟨o, -, hs2, -⟩ := jm_step_op hs
  dsimp only at hs2
  obtain ⟨i, w⟩ := o
  by_cases i1 : i = .ireturn
  · subst i1
    have hs3 : jm_ire (jm_ret y) st = some (.inr (.inr v)) := hs2
    unfold jm_ire at hs3
    split at hs3
    next _ vv =>
      constructor
      · intro q
        rw [q] at hs3
        cases hs3
        exact ⟨_, rfl⟩
      · intro q
        rw [q] at hs3
        cases hs3
    next => cases hs3
  · by_cases i2 : i = .lreturn
    · subst i2
      have hs3 : (match (generalizing := false) st with | [.long v] => if jm_ret y = some .long then some (.inr (.inr (some (.long v)))) else none | _ => none) = some (Sum.inr (.inr v) : jm_R) := hs2
      split at hs3
      · split at hs3
        next q =>
          cases hs3
          exact ⟨fun z => (by rw [q] at z; cases z), fun _ => ⟨_, rfl⟩⟩
        next => cases hs3
      · cases hs3
    · by_cases i3 : i = .areturn
      · subst i3
        have hs3 : jm_are (jm_ret y) st = some (.inr (.inr v)) := hs2
        constructor
        · intro q
          rw [q] at hs3
          cases hs3
        · intro q
          rw [q] at hs3
          cases hs3
      · by_cases i4 : i = .return_
        · subst i4
          have hs3 : (match (generalizing := false) st with | [] => if jm_ret y = none then some (.inr (.inr none)) else none | _ => none) = some (Sum.inr (.inr v) : jm_R) := hs2
          split at hs3
          · split at hs3
            next q => exact ⟨fun z => (by rw [q] at z; cases z), fun z => (by rw [q] at z; cases z)⟩
            next => cases hs3
          · cases hs3
        · exact absurd hs2 (jm_ret_no i1 i2 i3 i4)
theorem jfr_evk {d y : Nat} {a : List Value} {h h2 : jm_H} {v : Option Value} (hh : jm_ev d y a h = some (v, h2)) : (jm_ret y = some .int → ∃ x, v = some (.int x)) ∧ (jm_ret y = some .long → ∃ x, v = some (.long x)) := by
  cases d with
  | zero => cases hh
  | succ d =>
    rw [jm_ev] at hh
    split at hh
    · obtain ⟨n, hn⟩ := jm_go_iff.mp hh
      obtain ⟨C2, hC⟩ := jfr_end n _ _ _ hn
      exact jfr_kind hC
    · cases hh
