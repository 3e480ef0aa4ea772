/-! THE HEAP behind the constructors: its cells, its references -/
def jn_M : List (Nat × Nat) := [(11, 0), (9, 0), (13, 12), (13, 12), (16, 6), (13, 8), (8, 0), (13, 160), (13, 3), (13, 40), (8, 0), (13, 160), (13, 3), (13, 40), (8, 0), (13, 160), (13, 3), (13, 40), (8, 0), (13, 160), (13, 3), (13, 40), (8, 0), (13, 160), (13, 3), (13, 40), (8, 0), (13, 160), (13, 3), (13, 40), (7, 0), (13, 160), (15, 6), (15, 6), (14, 4), (3, 0), (15, 6), (6, 0), (6, 0), (6, 0), (6, 0), (6, 0), (6, 0), (6, 0), (1, 0), (4, 0), (0, 0), (10, 0), (2, 0), (5, 0), (13, 40), (5, 0), (13, 40), (5, 0), (13, 40), (5, 0), (13, 40), (12, 0), (13, 6), (13, 6), (13, 24), (13, 12), (13, 12), (13, 12), (13, 160), (13, 1200), (13, 24), (13, 60), (13, 4), (13, 4), (13, 4), (13, 160), (13, 30), (13, 96), (13, 200), (13, 200), (13, 6), (13, 8), (13, 8), (13, 4)]
/-- references: the people's row is rho's, all else stays -/
def jn_T (rho : Nat → Option Nat) (a k : Nat) : Option Nat := match a with
  | 0 => (match k with | 0 => some 1 | 1 => some 30 | 2 => some 32 | 4 => some 33 | 5 => some 34 | 6 => some 35 | _ => none)
  | 1 => (match k with | 0 => some 2 | 1 => some 3 | 5 => some 4 | 8 => some 5 | _ => none)
  | 4 => (match k with | 0 => some 6 | 1 => some 10 | 2 => some 14 | 3 => some 18 | 4 => some 22 | 5 => some 26 | _ => none)
  | 6 => (match k with | 0 => some 7 | 2 => some 8 | 3 => some 9 | _ => none)
  | 10 => (match k with | 0 => some 11 | 2 => some 12 | 3 => some 13 | _ => none)
  | 14 => (match k with | 0 => some 15 | 2 => some 16 | 3 => some 17 | _ => none)
  | 18 => (match k with | 0 => some 19 | 2 => some 20 | 3 => some 21 | _ => none)
  | 22 => (match k with | 0 => some 23 | 2 => some 24 | 3 => some 25 | _ => none)
  | 26 => (match k with | 0 => some 27 | 2 => some 28 | 3 => some 29 | _ => none)
  | 30 => (match k with | 0 => some 31 | _ => none)
  | 32 => rho k
  | 33 => (match k with | 0 => some 43 | 1 => some 44 | 2 => some 45 | 3 => some 46 | 4 => some 47 | 5 => some 48 | _ => none)
  | 34 => (match k with | 0 => some 49 | 1 => some 51 | 2 => some 53 | 3 => some 55 | _ => none)
  | 35 => (match k with | 6 => some 36 | _ => none)
  | 36 => (match k with | 0 => some 37 | 1 => some 38 | 2 => some 39 | 3 => some 40 | 4 => some 41 | 5 => some 42 | _ => none)
  | 49 => (match k with | 2 => some 50 | _ => none)
  | 51 => (match k with | 2 => some 52 | _ => none)
  | 53 => (match k with | 2 => some 54 | _ => none)
  | 55 => (match k with | 2 => some 56 | _ => none)
  | 57 => (match k with | 1 => some 58 | 2 => some 59 | 3 => some 60 | 4 => some 61 | 5 => some 62 | 6 => some 63 | 9 => some 64 | 11 => some 65 | 12 => some 66 | 16 => some 67 | 17 => some 68 | 18 => some 69 | 19 => some 70 | 20 => some 71 | 21 => some 72 | 26 => some 73 | 27 => some 74 | 31 => some 75 | 32 => some 76 | 33 => some 77 | 34 => some 78 | 35 => some 79 | _ => none)
  | _ => none
abbrev jm_hp (I : Nat → Nat → Int32) (rho : Nat → Option Nat) (mu : List (Nat × Nat)) : jm_H := (I, jn_T rho, jn_M ++ mu)
/-- one of the people, or of those thought of, or kept -/
def jm_isO (mu : List (Nat × Nat)) (a : Nat) : Prop := jm_isA (fun _ _ => 0, fun _ _ => none, jn_M ++ mu) a [0, 1, 2, 4, 6, 10] = true
theorem jm_isOh {mu : List (Nat × Nat)} {a : Nat} (h : jm_isO mu a) (I : Nat → Nat → Int32) (rho : Nat → Option Nat) : jm_isA (jm_hp I rho mu) a [0, 1, 2, 4, 6, 10] = true := h
def jm_hasK (mu : List (Nat × Nat)) (a k : Nat) : Prop := (jn_M ++ mu)[a]? = some (k, 0)
theorem jm_ite_go {E : Nat → List Value → jm_H → jm_V} {y : Nat} {c : Prop} [Decidable c] {t f : Nat} {ls : jm_L} {st : List Value} {h : jm_H} : jm_go E y (if c then t else f, ls, st, h) = if c then jm_go E y (t, ls, st, h) else jm_go E y (f, ls, st, h) := by split <;> rfl
theorem jm_lt6 {t : Nat} (h : t < 6) : t = 0 ∨ t = 1 ∨ t = 2 ∨ t = 3 ∨ t = 4 ∨ t = 5 := by omega
theorem jm_lt4 {t : Nat} (h : t < 4) : t = 0 ∨ t = 1 ∨ t = 2 ∨ t = 3 := by omega
def jm_kd (q : Option (Nat × Nat)) (tg : List (Nat × Nat)) (a r : List Value) : Option jm_R := match q with
  | some q => (match tg.lookup q.1 with
    | some y => some (.inr (.inl (y, a, r)))
    | none => none)
  | none => none
theorem jm_kcall1 {I : Nat → Nat → Int32} {rho : Nat → Option Nat} {mu : List (Nat × Nat)} {a k y t : Nat} {C : jm_C} {tg : List (Nat × Nat)} {as r : List Value} (hk : jm_hasK mu a k) (h : jm_step y C = jm_kd (jm_kind (jm_hp I rho mu) a) tg as r) (h2 : tg.lookup k = some t) : jm_step y C = some (.inr (.inl (t, as, r))) := by
  rw [h, show jm_kind (jm_hp I rho mu) a = some (k, 0) from hk, jm_kd]
  dsimp only
  rw [h2]
theorem jm_kinds {mu : List (Nat × Nat)} {a : Nat} {k : Nat} (h : jm_hasK mu a k) (I : Nat → Nat → Int32) (rho : Nat → Option Nat) : jm_kind (jm_hp I rho mu) a = some (k, 0) := h
