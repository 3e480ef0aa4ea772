/-! THE CONSTRUCTORS, run on the small machine: what they write, in the order of its writing -/
/-- a log of ints: rows that are new, cells that are written -/
def jk_fi : List (Nat × Option (Nat × Int32)) → (Nat → Nat → Int32) → Nat → Nat → Int32
  | [], I => I
  | (a, none) :: l, I => jm_row (jk_fi l I) a (fun _ => 0)
  | (a, some (k, v)) :: l, I => jm_up (jk_fi l I) a k v
def jk_ft : List (Nat × Option (Nat × Nat)) → Nat → Nat → Option Nat
  | [] => fun _ _ => none
  | (a, none) :: l => jm_rr (jk_ft l) a (fun _ => none)
  | (a, some (k, v)) :: l => jm_ur (jk_ft l) a k (some v)
abbrev jk_h (I0 : Nat → Nat → Int32) (il : List (Nat × Option (Nat × Int32))) (tl : List (Nat × Option (Nat × Nat))) (M : List (Nat × Nat)) : jm_H := (jk_fi il I0, jk_ft tl, M)
theorem jk_ev {d y : Nat} {a : List Value} {h : jm_H} (hl : (jm_argl a).length ≤ jm_max y) : jm_ev (d + 1) y a h = jm_go (jm_ev d) y (jm_entry y a h) := if_pos hl
def jk_I1 : List (Nat × Option (Nat × Int32)) := (0, none) :: []
def jk_T1 : List (Nat × Option (Nat × Nat)) := (0, none) :: []
def jk_M1 : List (Nat × Nat) := [(11, 0)]
def jk_I2 : List (Nat × Option (Nat × Int32)) := (1, none) :: jk_I1
def jk_T2 : List (Nat × Option (Nat × Nat)) := (1, none) :: jk_T1
def jk_M2 : List (Nat × Nat) := [(11, 0), (9, 0)]
def jk_I3 : List (Nat × Option (Nat × Int32)) := (5, none) :: (1, some (6, 1)) :: (4, none) :: (3, none) :: (2, none) :: jk_I2
def jk_T3 : List (Nat × Option (Nat × Nat)) := (1, some (8, 5)) :: (5, none) :: (1, some (5, 4)) :: (4, none) :: (1, some (1, 3)) :: (3, none) :: (1, some (0, 2)) :: (2, none) :: jk_T2
def jk_M3 : List (Nat × Nat) := [(11, 0), (9, 0), (13, 12), (13, 12), (16, 6), (13, 8)]
def jk_I4 : List (Nat × Option (Nat × Int32)) := (6, none) :: jk_I3
def jk_T4 : List (Nat × Option (Nat × Nat)) := (6, none) :: jk_T3
def jk_M4 : List (Nat × Nat) := [(11, 0), (9, 0), (13, 12), (13, 12), (16, 6), (13, 8), (8, 0)]
def jk_I5 : List (Nat × Option (Nat × Int32)) := (7, some (1, 1)) :: (7, some (0, 3)) :: (9, none) :: (8, none) :: (7, none) :: jk_I4
def jk_T5 : List (Nat × Option (Nat × Nat)) := (6, some (3, 9)) :: (9, none) :: (6, some (2, 8)) :: (8, none) :: (6, some (0, 7)) :: (7, none) :: jk_T4
def jk_M5 : List (Nat × Nat) := [(11, 0), (9, 0), (13, 12), (13, 12), (16, 6), (13, 8), (8, 0), (13, 160), (13, 3), (13, 40)]
def jk_I6 : List (Nat × Option (Nat × Int32)) := (8, some (2, 3)) :: (8, some (1, 2)) :: (8, some (0, 1)) :: (6, some (1, 3)) :: (7, some (2, 0)) :: jk_I5
set_option maxRecDepth 20000 in
theorem jk_1 {I0 : Nat → Nat → Int32} : jm_ev 998 45 [.ref 6] (jk_h I0 jk_I4 jk_T4 jk_M4) = some (none, (jk_h I0 jk_I6 jk_T5 jk_M5)) := by
  refine (jk_ev (d := 997) (by decide)).trans ?_
  refine (jm_go_steps 24 (show jm_steps 45 24 (jm_entry 45 [.ref 6] (jk_h I0 jk_I4 jk_T4 jk_M4)) = some (42, [some (.ref 6)], [], (jk_h I0 jk_I5 jk_T5 jk_M5)) from rfl)).trans ?_
  refine (jm_go_steps 23 (show jm_steps 45 23 (42, [some (.ref 6)], [], (jk_h I0 jk_I5 jk_T5 jk_M5)) = some (75, [some (.ref 6)], [], (jk_h I0 jk_I6 jk_T5 jk_M5)) from rfl)).trans ?_
  exact jm_go_ret rfl
def jk_I7 : List (Nat × Option (Nat × Int32)) := (10, none) :: jk_I6
def jk_T6 : List (Nat × Option (Nat × Nat)) := (10, none) :: (4, some (0, 6)) :: jk_T5
def jk_M6 : List (Nat × Nat) := [(11, 0), (9, 0), (13, 12), (13, 12), (16, 6), (13, 8), (8, 0), (13, 160), (13, 3), (13, 40), (8, 0)]
def jk_I8 : List (Nat × Option (Nat × Int32)) := (11, some (1, 1)) :: (11, some (0, 3)) :: (13, none) :: (12, none) :: (11, none) :: jk_I7
def jk_T7 : List (Nat × Option (Nat × Nat)) := (10, some (3, 13)) :: (13, none) :: (10, some (2, 12)) :: (12, none) :: (10, some (0, 11)) :: (11, none) :: jk_T6
def jk_M7 : List (Nat × Nat) := [(11, 0), (9, 0), (13, 12), (13, 12), (16, 6), (13, 8), (8, 0), (13, 160), (13, 3), (13, 40), (8, 0), (13, 160), (13, 3), (13, 40)]
def jk_I9 : List (Nat × Option (Nat × Int32)) := (12, some (2, 3)) :: (12, some (1, 2)) :: (12, some (0, 1)) :: (10, some (1, 3)) :: (11, some (2, 0)) :: jk_I8
set_option maxRecDepth 20000 in
theorem jk_2 {I0 : Nat → Nat → Int32} : jm_ev 998 45 [.ref 10] (jk_h I0 jk_I7 jk_T6 jk_M6) = some (none, (jk_h I0 jk_I9 jk_T7 jk_M7)) := by
  refine (jk_ev (d := 997) (by decide)).trans ?_
  refine (jm_go_steps 24 (show jm_steps 45 24 (jm_entry 45 [.ref 10] (jk_h I0 jk_I7 jk_T6 jk_M6)) = some (42, [some (.ref 10)], [], (jk_h I0 jk_I8 jk_T7 jk_M7)) from rfl)).trans ?_
  refine (jm_go_steps 23 (show jm_steps 45 23 (42, [some (.ref 10)], [], (jk_h I0 jk_I8 jk_T7 jk_M7)) = some (75, [some (.ref 10)], [], (jk_h I0 jk_I9 jk_T7 jk_M7)) from rfl)).trans ?_
  exact jm_go_ret rfl
def jk_I10 : List (Nat × Option (Nat × Int32)) := (14, none) :: jk_I9
def jk_T8 : List (Nat × Option (Nat × Nat)) := (14, none) :: (4, some (1, 10)) :: jk_T7
def jk_M8 : List (Nat × Nat) := [(11, 0), (9, 0), (13, 12), (13, 12), (16, 6), (13, 8), (8, 0), (13, 160), (13, 3), (13, 40), (8, 0), (13, 160), (13, 3), (13, 40), (8, 0)]
def jk_I11 : List (Nat × Option (Nat × Int32)) := (15, some (1, 1)) :: (15, some (0, 3)) :: (17, none) :: (16, none) :: (15, none) :: jk_I10
def jk_T9 : List (Nat × Option (Nat × Nat)) := (14, some (3, 17)) :: (17, none) :: (14, some (2, 16)) :: (16, none) :: (14, some (0, 15)) :: (15, none) :: jk_T8
def jk_M9 : List (Nat × Nat) := [(11, 0), (9, 0), (13, 12), (13, 12), (16, 6), (13, 8), (8, 0), (13, 160), (13, 3), (13, 40), (8, 0), (13, 160), (13, 3), (13, 40), (8, 0), (13, 160), (13, 3), (13, 40)]
def jk_I12 : List (Nat × Option (Nat × Int32)) := (16, some (2, 3)) :: (16, some (1, 2)) :: (16, some (0, 1)) :: (14, some (1, 3)) :: (15, some (2, 0)) :: jk_I11
set_option maxRecDepth 20000 in
theorem jk_3 {I0 : Nat → Nat → Int32} : jm_ev 998 45 [.ref 14] (jk_h I0 jk_I10 jk_T8 jk_M8) = some (none, (jk_h I0 jk_I12 jk_T9 jk_M9)) := by
  refine (jk_ev (d := 997) (by decide)).trans ?_
  refine (jm_go_steps 24 (show jm_steps 45 24 (jm_entry 45 [.ref 14] (jk_h I0 jk_I10 jk_T8 jk_M8)) = some (42, [some (.ref 14)], [], (jk_h I0 jk_I11 jk_T9 jk_M9)) from rfl)).trans ?_
  refine (jm_go_steps 23 (show jm_steps 45 23 (42, [some (.ref 14)], [], (jk_h I0 jk_I11 jk_T9 jk_M9)) = some (75, [some (.ref 14)], [], (jk_h I0 jk_I12 jk_T9 jk_M9)) from rfl)).trans ?_
  exact jm_go_ret rfl
def jk_I13 : List (Nat × Option (Nat × Int32)) := (18, none) :: jk_I12
def jk_T10 : List (Nat × Option (Nat × Nat)) := (18, none) :: (4, some (2, 14)) :: jk_T9
def jk_M10 : List (Nat × Nat) := [(11, 0), (9, 0), (13, 12), (13, 12), (16, 6), (13, 8), (8, 0), (13, 160), (13, 3), (13, 40), (8, 0), (13, 160), (13, 3), (13, 40), (8, 0), (13, 160), (13, 3), (13, 40), (8, 0)]
def jk_I14 : List (Nat × Option (Nat × Int32)) := (19, some (1, 1)) :: (19, some (0, 3)) :: (21, none) :: (20, none) :: (19, none) :: jk_I13
def jk_T11 : List (Nat × Option (Nat × Nat)) := (18, some (3, 21)) :: (21, none) :: (18, some (2, 20)) :: (20, none) :: (18, some (0, 19)) :: (19, none) :: jk_T10
def jk_M11 : List (Nat × Nat) := [(11, 0), (9, 0), (13, 12), (13, 12), (16, 6), (13, 8), (8, 0), (13, 160), (13, 3), (13, 40), (8, 0), (13, 160), (13, 3), (13, 40), (8, 0), (13, 160), (13, 3), (13, 40), (8, 0), (13, 160), (13, 3), (13, 40)]
def jk_I15 : List (Nat × Option (Nat × Int32)) := (20, some (2, 3)) :: (20, some (1, 2)) :: (20, some (0, 1)) :: (18, some (1, 3)) :: (19, some (2, 0)) :: jk_I14
set_option maxRecDepth 20000 in
theorem jk_4 {I0 : Nat → Nat → Int32} : jm_ev 998 45 [.ref 18] (jk_h I0 jk_I13 jk_T10 jk_M10) = some (none, (jk_h I0 jk_I15 jk_T11 jk_M11)) := by
  refine (jk_ev (d := 997) (by decide)).trans ?_
  refine (jm_go_steps 24 (show jm_steps 45 24 (jm_entry 45 [.ref 18] (jk_h I0 jk_I13 jk_T10 jk_M10)) = some (42, [some (.ref 18)], [], (jk_h I0 jk_I14 jk_T11 jk_M11)) from rfl)).trans ?_
  refine (jm_go_steps 23 (show jm_steps 45 23 (42, [some (.ref 18)], [], (jk_h I0 jk_I14 jk_T11 jk_M11)) = some (75, [some (.ref 18)], [], (jk_h I0 jk_I15 jk_T11 jk_M11)) from rfl)).trans ?_
  exact jm_go_ret rfl
def jk_I16 : List (Nat × Option (Nat × Int32)) := (22, none) :: jk_I15
def jk_T12 : List (Nat × Option (Nat × Nat)) := (22, none) :: (4, some (3, 18)) :: jk_T11
def jk_M12 : List (Nat × Nat) := [(11, 0), (9, 0), (13, 12), (13, 12), (16, 6), (13, 8), (8, 0), (13, 160), (13, 3), (13, 40), (8, 0), (13, 160), (13, 3), (13, 40), (8, 0), (13, 160), (13, 3), (13, 40), (8, 0), (13, 160), (13, 3), (13, 40), (8, 0)]
def jk_I17 : List (Nat × Option (Nat × Int32)) := (23, some (1, 1)) :: (23, some (0, 3)) :: (25, none) :: (24, none) :: (23, none) :: jk_I16
def jk_T13 : List (Nat × Option (Nat × Nat)) := (22, some (3, 25)) :: (25, none) :: (22, some (2, 24)) :: (24, none) :: (22, some (0, 23)) :: (23, none) :: jk_T12
def jk_M13 : List (Nat × Nat) := [(11, 0), (9, 0), (13, 12), (13, 12), (16, 6), (13, 8), (8, 0), (13, 160), (13, 3), (13, 40), (8, 0), (13, 160), (13, 3), (13, 40), (8, 0), (13, 160), (13, 3), (13, 40), (8, 0), (13, 160), (13, 3), (13, 40), (8, 0), (13, 160), (13, 3), (13, 40)]
def jk_I18 : List (Nat × Option (Nat × Int32)) := (24, some (2, 3)) :: (24, some (1, 2)) :: (24, some (0, 1)) :: (22, some (1, 3)) :: (23, some (2, 0)) :: jk_I17
set_option maxRecDepth 20000 in
theorem jk_5 {I0 : Nat → Nat → Int32} : jm_ev 998 45 [.ref 22] (jk_h I0 jk_I16 jk_T12 jk_M12) = some (none, (jk_h I0 jk_I18 jk_T13 jk_M13)) := by
  refine (jk_ev (d := 997) (by decide)).trans ?_
  refine (jm_go_steps 24 (show jm_steps 45 24 (jm_entry 45 [.ref 22] (jk_h I0 jk_I16 jk_T12 jk_M12)) = some (42, [some (.ref 22)], [], (jk_h I0 jk_I17 jk_T13 jk_M13)) from rfl)).trans ?_
  refine (jm_go_steps 23 (show jm_steps 45 23 (42, [some (.ref 22)], [], (jk_h I0 jk_I17 jk_T13 jk_M13)) = some (75, [some (.ref 22)], [], (jk_h I0 jk_I18 jk_T13 jk_M13)) from rfl)).trans ?_
  exact jm_go_ret rfl
def jk_I19 : List (Nat × Option (Nat × Int32)) := (26, none) :: jk_I18
def jk_T14 : List (Nat × Option (Nat × Nat)) := (26, none) :: (4, some (4, 22)) :: jk_T13
def jk_M14 : List (Nat × Nat) := [(11, 0), (9, 0), (13, 12), (13, 12), (16, 6), (13, 8), (8, 0), (13, 160), (13, 3), (13, 40), (8, 0), (13, 160), (13, 3), (13, 40), (8, 0), (13, 160), (13, 3), (13, 40), (8, 0), (13, 160), (13, 3), (13, 40), (8, 0), (13, 160), (13, 3), (13, 40), (8, 0)]
def jk_I20 : List (Nat × Option (Nat × Int32)) := (27, some (1, 1)) :: (27, some (0, 3)) :: (29, none) :: (28, none) :: (27, none) :: jk_I19
def jk_T15 : List (Nat × Option (Nat × Nat)) := (26, some (3, 29)) :: (29, none) :: (26, some (2, 28)) :: (28, none) :: (26, some (0, 27)) :: (27, none) :: jk_T14
def jk_M15 : List (Nat × Nat) := [(11, 0), (9, 0), (13, 12), (13, 12), (16, 6), (13, 8), (8, 0), (13, 160), (13, 3), (13, 40), (8, 0), (13, 160), (13, 3), (13, 40), (8, 0), (13, 160), (13, 3), (13, 40), (8, 0), (13, 160), (13, 3), (13, 40), (8, 0), (13, 160), (13, 3), (13, 40), (8, 0), (13, 160), (13, 3), (13, 40)]
def jk_I21 : List (Nat × Option (Nat × Int32)) := (28, some (2, 3)) :: (28, some (1, 2)) :: (28, some (0, 1)) :: (26, some (1, 3)) :: (27, some (2, 0)) :: jk_I20
set_option maxRecDepth 20000 in
theorem jk_6 {I0 : Nat → Nat → Int32} : jm_ev 998 45 [.ref 26] (jk_h I0 jk_I19 jk_T14 jk_M14) = some (none, (jk_h I0 jk_I21 jk_T15 jk_M15)) := by
  refine (jk_ev (d := 997) (by decide)).trans ?_
  refine (jm_go_steps 24 (show jm_steps 45 24 (jm_entry 45 [.ref 26] (jk_h I0 jk_I19 jk_T14 jk_M14)) = some (42, [some (.ref 26)], [], (jk_h I0 jk_I20 jk_T15 jk_M15)) from rfl)).trans ?_
  refine (jm_go_steps 23 (show jm_steps 45 23 (42, [some (.ref 26)], [], (jk_h I0 jk_I20 jk_T15 jk_M15)) = some (75, [some (.ref 26)], [], (jk_h I0 jk_I21 jk_T15 jk_M15)) from rfl)).trans ?_
  exact jm_go_ret rfl
def jk_T16 : List (Nat × Option (Nat × Nat)) := (4, some (5, 26)) :: jk_T15
set_option maxRecDepth 20000 in
theorem jk_7 {I0 : Nat → Nat → Int32} : jm_ev 999 54 [.ref 1] (jk_h I0 jk_I2 jk_T2 jk_M2) = some (none, (jk_h I0 jk_I21 jk_T16 jk_M15)) := by
  refine (jk_ev (d := 998) (by decide)).trans ?_
  refine (jm_go_steps 24 (show jm_steps 54 24 (jm_entry 54 [.ref 1] (jk_h I0 jk_I2 jk_T2 jk_M2)) = some (45, [some (.ref 1), some (.int 0)], [.int 0], (jk_h I0 jk_I3 jk_T3 jk_M3)) from rfl)).trans ?_
  refine (jm_go_steps 9 (show jm_steps 54 9 (45, [some (.ref 1), some (.int 0)], [.int 0], (jk_h I0 jk_I3 jk_T3 jk_M3)) = some (62, [some (.ref 1), some (.int 0)], [.ref 6, .ref 6, .int 0, .ref 4], (jk_h I0 jk_I4 jk_T4 jk_M4)) from rfl)).trans ?_
  refine (jm_go_call (show jm_step 54 (62, [some (.ref 1), some (.int 0)], [.ref 6, .ref 6, .int 0, .ref 4], (jk_h I0 jk_I4 jk_T4 jk_M4)) = some (.inr (.inl (45, [.ref 6], [.ref 6, .int 0, .ref 4]))) from rfl)).trans ?_
  refine (congrArg (fun z => jm_then z _) (jk_1 (I0 := I0))).trans ?_
  show jm_go (jm_ev 998) 54 (65, [some (.ref 1), some (.int 0)], [.ref 6, .int 0, .ref 4], (jk_h I0 jk_I6 jk_T5 jk_M5)) = _
  refine (jm_go_steps 13 (show jm_steps 54 13 (65, [some (.ref 1), some (.int 0)], [.ref 6, .int 0, .ref 4], (jk_h I0 jk_I6 jk_T5 jk_M5)) = some (62, [some (.ref 1), some (.int 1)], [.ref 10, .ref 10, .int 1, .ref 4], (jk_h I0 jk_I7 jk_T6 jk_M6)) from rfl)).trans ?_
  refine (jm_go_call (show jm_step 54 (62, [some (.ref 1), some (.int 1)], [.ref 10, .ref 10, .int 1, .ref 4], (jk_h I0 jk_I7 jk_T6 jk_M6)) = some (.inr (.inl (45, [.ref 10], [.ref 10, .int 1, .ref 4]))) from rfl)).trans ?_
  refine (congrArg (fun z => jm_then z _) (jk_2 (I0 := I0))).trans ?_
  show jm_go (jm_ev 998) 54 (65, [some (.ref 1), some (.int 1)], [.ref 10, .int 1, .ref 4], (jk_h I0 jk_I9 jk_T7 jk_M7)) = _
  refine (jm_go_steps 13 (show jm_steps 54 13 (65, [some (.ref 1), some (.int 1)], [.ref 10, .int 1, .ref 4], (jk_h I0 jk_I9 jk_T7 jk_M7)) = some (62, [some (.ref 1), some (.int 2)], [.ref 14, .ref 14, .int 2, .ref 4], (jk_h I0 jk_I10 jk_T8 jk_M8)) from rfl)).trans ?_
  refine (jm_go_call (show jm_step 54 (62, [some (.ref 1), some (.int 2)], [.ref 14, .ref 14, .int 2, .ref 4], (jk_h I0 jk_I10 jk_T8 jk_M8)) = some (.inr (.inl (45, [.ref 14], [.ref 14, .int 2, .ref 4]))) from rfl)).trans ?_
  refine (congrArg (fun z => jm_then z _) (jk_3 (I0 := I0))).trans ?_
  show jm_go (jm_ev 998) 54 (65, [some (.ref 1), some (.int 2)], [.ref 14, .int 2, .ref 4], (jk_h I0 jk_I12 jk_T9 jk_M9)) = _
  refine (jm_go_steps 13 (show jm_steps 54 13 (65, [some (.ref 1), some (.int 2)], [.ref 14, .int 2, .ref 4], (jk_h I0 jk_I12 jk_T9 jk_M9)) = some (62, [some (.ref 1), some (.int 3)], [.ref 18, .ref 18, .int 3, .ref 4], (jk_h I0 jk_I13 jk_T10 jk_M10)) from rfl)).trans ?_
  refine (jm_go_call (show jm_step 54 (62, [some (.ref 1), some (.int 3)], [.ref 18, .ref 18, .int 3, .ref 4], (jk_h I0 jk_I13 jk_T10 jk_M10)) = some (.inr (.inl (45, [.ref 18], [.ref 18, .int 3, .ref 4]))) from rfl)).trans ?_
  refine (congrArg (fun z => jm_then z _) (jk_4 (I0 := I0))).trans ?_
  show jm_go (jm_ev 998) 54 (65, [some (.ref 1), some (.int 3)], [.ref 18, .int 3, .ref 4], (jk_h I0 jk_I15 jk_T11 jk_M11)) = _
  refine (jm_go_steps 13 (show jm_steps 54 13 (65, [some (.ref 1), some (.int 3)], [.ref 18, .int 3, .ref 4], (jk_h I0 jk_I15 jk_T11 jk_M11)) = some (62, [some (.ref 1), some (.int 4)], [.ref 22, .ref 22, .int 4, .ref 4], (jk_h I0 jk_I16 jk_T12 jk_M12)) from rfl)).trans ?_
  refine (jm_go_call (show jm_step 54 (62, [some (.ref 1), some (.int 4)], [.ref 22, .ref 22, .int 4, .ref 4], (jk_h I0 jk_I16 jk_T12 jk_M12)) = some (.inr (.inl (45, [.ref 22], [.ref 22, .int 4, .ref 4]))) from rfl)).trans ?_
  refine (congrArg (fun z => jm_then z _) (jk_5 (I0 := I0))).trans ?_
  show jm_go (jm_ev 998) 54 (65, [some (.ref 1), some (.int 4)], [.ref 22, .int 4, .ref 4], (jk_h I0 jk_I18 jk_T13 jk_M13)) = _
  refine (jm_go_steps 13 (show jm_steps 54 13 (65, [some (.ref 1), some (.int 4)], [.ref 22, .int 4, .ref 4], (jk_h I0 jk_I18 jk_T13 jk_M13)) = some (62, [some (.ref 1), some (.int 5)], [.ref 26, .ref 26, .int 5, .ref 4], (jk_h I0 jk_I19 jk_T14 jk_M14)) from rfl)).trans ?_
  refine (jm_go_call (show jm_step 54 (62, [some (.ref 1), some (.int 5)], [.ref 26, .ref 26, .int 5, .ref 4], (jk_h I0 jk_I19 jk_T14 jk_M14)) = some (.inr (.inl (45, [.ref 26], [.ref 26, .int 5, .ref 4]))) from rfl)).trans ?_
  refine (congrArg (fun z => jm_then z _) (jk_6 (I0 := I0))).trans ?_
  show jm_go (jm_ev 998) 54 (65, [some (.ref 1), some (.int 5)], [.ref 26, .int 5, .ref 4], (jk_h I0 jk_I21 jk_T15 jk_M15)) = _
  refine (jm_go_steps 8 (show jm_steps 54 8 (65, [some (.ref 1), some (.int 5)], [.ref 26, .int 5, .ref 4], (jk_h I0 jk_I21 jk_T15 jk_M15)) = some (72, [some (.ref 1), some (.int 6)], [], (jk_h I0 jk_I21 jk_T16 jk_M15)) from rfl)).trans ?_
  exact jm_go_ret rfl
def jk_I22 : List (Nat × Option (Nat × Int32)) := (30, none) :: jk_I21
def jk_T17 : List (Nat × Option (Nat × Nat)) := (30, none) :: (0, some (0, 1)) :: jk_T16
def jk_M16 : List (Nat × Nat) := [(11, 0), (9, 0), (13, 12), (13, 12), (16, 6), (13, 8), (8, 0), (13, 160), (13, 3), (13, 40), (8, 0), (13, 160), (13, 3), (13, 40), (8, 0), (13, 160), (13, 3), (13, 40), (8, 0), (13, 160), (13, 3), (13, 40), (8, 0), (13, 160), (13, 3), (13, 40), (8, 0), (13, 160), (13, 3), (13, 40), (7, 0)]
def jk_I23 : List (Nat × Option (Nat × Int32)) := (31, none) :: jk_I22
def jk_T18 : List (Nat × Option (Nat × Nat)) := (30, some (0, 31)) :: (31, none) :: jk_T17
def jk_M17 : List (Nat × Nat) := [(11, 0), (9, 0), (13, 12), (13, 12), (16, 6), (13, 8), (8, 0), (13, 160), (13, 3), (13, 40), (8, 0), (13, 160), (13, 3), (13, 40), (8, 0), (13, 160), (13, 3), (13, 40), (8, 0), (13, 160), (13, 3), (13, 40), (8, 0), (13, 160), (13, 3), (13, 40), (8, 0), (13, 160), (13, 3), (13, 40), (7, 0), (13, 160)]
set_option maxRecDepth 20000 in
theorem jk_8 {I0 : Nat → Nat → Int32} : jm_ev 999 24 [.ref 30] (jk_h I0 jk_I22 jk_T17 jk_M16) = some (none, (jk_h I0 jk_I23 jk_T18 jk_M17)) := by
  refine (jk_ev (d := 998) (by decide)).trans ?_
  refine (jm_go_steps 6 (show jm_steps 24 6 (jm_entry 24 [.ref 30] (jk_h I0 jk_I22 jk_T17 jk_M16)) = some (13, [some (.ref 30)], [], (jk_h I0 jk_I23 jk_T18 jk_M17)) from rfl)).trans ?_
  exact jm_go_ret rfl
def jk_I24 : List (Nat × Option (Nat × Int32)) := (35, none) :: (34, none) :: (33, none) :: (32, none) :: jk_I23
def jk_T19 : List (Nat × Option (Nat × Nat)) := (35, none) :: (0, some (5, 34)) :: (34, none) :: (0, some (4, 33)) :: (33, none) :: (0, some (2, 32)) :: (32, none) :: (0, some (1, 30)) :: jk_T18
def jk_M18 : List (Nat × Nat) := [(11, 0), (9, 0), (13, 12), (13, 12), (16, 6), (13, 8), (8, 0), (13, 160), (13, 3), (13, 40), (8, 0), (13, 160), (13, 3), (13, 40), (8, 0), (13, 160), (13, 3), (13, 40), (8, 0), (13, 160), (13, 3), (13, 40), (8, 0), (13, 160), (13, 3), (13, 40), (8, 0), (13, 160), (13, 3), (13, 40), (7, 0), (13, 160), (15, 6), (15, 6), (14, 4), (3, 0)]
def jk_I25 : List (Nat × Option (Nat × Int32)) := (37, none) :: (36, none) :: jk_I24
def jk_T20 : List (Nat × Option (Nat × Nat)) := (37, none) :: (35, some (6, 36)) :: (36, none) :: jk_T19
def jk_M19 : List (Nat × Nat) := [(11, 0), (9, 0), (13, 12), (13, 12), (16, 6), (13, 8), (8, 0), (13, 160), (13, 3), (13, 40), (8, 0), (13, 160), (13, 3), (13, 40), (8, 0), (13, 160), (13, 3), (13, 40), (8, 0), (13, 160), (13, 3), (13, 40), (8, 0), (13, 160), (13, 3), (13, 40), (8, 0), (13, 160), (13, 3), (13, 40), (7, 0), (13, 160), (15, 6), (15, 6), (14, 4), (3, 0), (15, 6), (6, 0)]
def jk_I26 : List (Nat × Option (Nat × Int32)) := (37, some (0, 0)) :: (37, some (4, (-1))) :: jk_I25
set_option maxRecDepth 20000 in
theorem jk_9 {I0 : Nat → Nat → Int32} : jm_ev 998 19 [.ref 37, .int 0] (jk_h I0 jk_I25 jk_T20 jk_M19) = some (none, (jk_h I0 jk_I26 jk_T20 jk_M19)) := by
  refine (jk_ev (d := 997) (by decide)).trans ?_
  refine (jm_go_steps 8 (show jm_steps 19 8 (jm_entry 19 [.ref 37, .int 0] (jk_h I0 jk_I25 jk_T20 jk_M19)) = some (14, [some (.ref 37), some (.int 0)], [], (jk_h I0 jk_I26 jk_T20 jk_M19)) from rfl)).trans ?_
  exact jm_go_ret rfl
def jk_I27 : List (Nat × Option (Nat × Int32)) := (38, none) :: jk_I26
def jk_T21 : List (Nat × Option (Nat × Nat)) := (38, none) :: (36, some (0, 37)) :: jk_T20
def jk_M20 : List (Nat × Nat) := [(11, 0), (9, 0), (13, 12), (13, 12), (16, 6), (13, 8), (8, 0), (13, 160), (13, 3), (13, 40), (8, 0), (13, 160), (13, 3), (13, 40), (8, 0), (13, 160), (13, 3), (13, 40), (8, 0), (13, 160), (13, 3), (13, 40), (8, 0), (13, 160), (13, 3), (13, 40), (8, 0), (13, 160), (13, 3), (13, 40), (7, 0), (13, 160), (15, 6), (15, 6), (14, 4), (3, 0), (15, 6), (6, 0), (6, 0)]
def jk_I28 : List (Nat × Option (Nat × Int32)) := (38, some (0, 0)) :: (38, some (4, (-1))) :: jk_I27
set_option maxRecDepth 20000 in
theorem jk_10 {I0 : Nat → Nat → Int32} : jm_ev 998 19 [.ref 38, .int 0] (jk_h I0 jk_I27 jk_T21 jk_M20) = some (none, (jk_h I0 jk_I28 jk_T21 jk_M20)) := by
  refine (jk_ev (d := 997) (by decide)).trans ?_
  refine (jm_go_steps 8 (show jm_steps 19 8 (jm_entry 19 [.ref 38, .int 0] (jk_h I0 jk_I27 jk_T21 jk_M20)) = some (14, [some (.ref 38), some (.int 0)], [], (jk_h I0 jk_I28 jk_T21 jk_M20)) from rfl)).trans ?_
  exact jm_go_ret rfl
def jk_I29 : List (Nat × Option (Nat × Int32)) := (39, none) :: jk_I28
def jk_T22 : List (Nat × Option (Nat × Nat)) := (39, none) :: (36, some (1, 38)) :: jk_T21
def jk_M21 : List (Nat × Nat) := [(11, 0), (9, 0), (13, 12), (13, 12), (16, 6), (13, 8), (8, 0), (13, 160), (13, 3), (13, 40), (8, 0), (13, 160), (13, 3), (13, 40), (8, 0), (13, 160), (13, 3), (13, 40), (8, 0), (13, 160), (13, 3), (13, 40), (8, 0), (13, 160), (13, 3), (13, 40), (8, 0), (13, 160), (13, 3), (13, 40), (7, 0), (13, 160), (15, 6), (15, 6), (14, 4), (3, 0), (15, 6), (6, 0), (6, 0), (6, 0)]
def jk_I30 : List (Nat × Option (Nat × Int32)) := (39, some (0, 0)) :: (39, some (4, (-1))) :: jk_I29
set_option maxRecDepth 20000 in
theorem jk_11 {I0 : Nat → Nat → Int32} : jm_ev 998 19 [.ref 39, .int 0] (jk_h I0 jk_I29 jk_T22 jk_M21) = some (none, (jk_h I0 jk_I30 jk_T22 jk_M21)) := by
  refine (jk_ev (d := 997) (by decide)).trans ?_
  refine (jm_go_steps 8 (show jm_steps 19 8 (jm_entry 19 [.ref 39, .int 0] (jk_h I0 jk_I29 jk_T22 jk_M21)) = some (14, [some (.ref 39), some (.int 0)], [], (jk_h I0 jk_I30 jk_T22 jk_M21)) from rfl)).trans ?_
  exact jm_go_ret rfl
def jk_I31 : List (Nat × Option (Nat × Int32)) := (40, none) :: jk_I30
def jk_T23 : List (Nat × Option (Nat × Nat)) := (40, none) :: (36, some (2, 39)) :: jk_T22
def jk_M22 : List (Nat × Nat) := [(11, 0), (9, 0), (13, 12), (13, 12), (16, 6), (13, 8), (8, 0), (13, 160), (13, 3), (13, 40), (8, 0), (13, 160), (13, 3), (13, 40), (8, 0), (13, 160), (13, 3), (13, 40), (8, 0), (13, 160), (13, 3), (13, 40), (8, 0), (13, 160), (13, 3), (13, 40), (8, 0), (13, 160), (13, 3), (13, 40), (7, 0), (13, 160), (15, 6), (15, 6), (14, 4), (3, 0), (15, 6), (6, 0), (6, 0), (6, 0), (6, 0)]
def jk_I32 : List (Nat × Option (Nat × Int32)) := (40, some (0, 0)) :: (40, some (4, (-1))) :: jk_I31
set_option maxRecDepth 20000 in
theorem jk_12 {I0 : Nat → Nat → Int32} : jm_ev 998 19 [.ref 40, .int 0] (jk_h I0 jk_I31 jk_T23 jk_M22) = some (none, (jk_h I0 jk_I32 jk_T23 jk_M22)) := by
  refine (jk_ev (d := 997) (by decide)).trans ?_
  refine (jm_go_steps 8 (show jm_steps 19 8 (jm_entry 19 [.ref 40, .int 0] (jk_h I0 jk_I31 jk_T23 jk_M22)) = some (14, [some (.ref 40), some (.int 0)], [], (jk_h I0 jk_I32 jk_T23 jk_M22)) from rfl)).trans ?_
  exact jm_go_ret rfl
def jk_I33 : List (Nat × Option (Nat × Int32)) := (41, none) :: jk_I32
def jk_T24 : List (Nat × Option (Nat × Nat)) := (41, none) :: (36, some (3, 40)) :: jk_T23
def jk_M23 : List (Nat × Nat) := [(11, 0), (9, 0), (13, 12), (13, 12), (16, 6), (13, 8), (8, 0), (13, 160), (13, 3), (13, 40), (8, 0), (13, 160), (13, 3), (13, 40), (8, 0), (13, 160), (13, 3), (13, 40), (8, 0), (13, 160), (13, 3), (13, 40), (8, 0), (13, 160), (13, 3), (13, 40), (8, 0), (13, 160), (13, 3), (13, 40), (7, 0), (13, 160), (15, 6), (15, 6), (14, 4), (3, 0), (15, 6), (6, 0), (6, 0), (6, 0), (6, 0), (6, 0)]
def jk_I34 : List (Nat × Option (Nat × Int32)) := (41, some (0, 0)) :: (41, some (4, (-1))) :: jk_I33
set_option maxRecDepth 20000 in
theorem jk_13 {I0 : Nat → Nat → Int32} : jm_ev 998 19 [.ref 41, .int 0] (jk_h I0 jk_I33 jk_T24 jk_M23) = some (none, (jk_h I0 jk_I34 jk_T24 jk_M23)) := by
  refine (jk_ev (d := 997) (by decide)).trans ?_
  refine (jm_go_steps 8 (show jm_steps 19 8 (jm_entry 19 [.ref 41, .int 0] (jk_h I0 jk_I33 jk_T24 jk_M23)) = some (14, [some (.ref 41), some (.int 0)], [], (jk_h I0 jk_I34 jk_T24 jk_M23)) from rfl)).trans ?_
  exact jm_go_ret rfl
def jk_I35 : List (Nat × Option (Nat × Int32)) := (42, none) :: jk_I34
def jk_T25 : List (Nat × Option (Nat × Nat)) := (42, none) :: (36, some (4, 41)) :: jk_T24
def jk_M24 : List (Nat × Nat) := [(11, 0), (9, 0), (13, 12), (13, 12), (16, 6), (13, 8), (8, 0), (13, 160), (13, 3), (13, 40), (8, 0), (13, 160), (13, 3), (13, 40), (8, 0), (13, 160), (13, 3), (13, 40), (8, 0), (13, 160), (13, 3), (13, 40), (8, 0), (13, 160), (13, 3), (13, 40), (8, 0), (13, 160), (13, 3), (13, 40), (7, 0), (13, 160), (15, 6), (15, 6), (14, 4), (3, 0), (15, 6), (6, 0), (6, 0), (6, 0), (6, 0), (6, 0), (6, 0)]
def jk_I36 : List (Nat × Option (Nat × Int32)) := (42, some (0, 0)) :: (42, some (4, (-1))) :: jk_I35
set_option maxRecDepth 20000 in
theorem jk_14 {I0 : Nat → Nat → Int32} : jm_ev 998 19 [.ref 42, .int 0] (jk_h I0 jk_I35 jk_T25 jk_M24) = some (none, (jk_h I0 jk_I36 jk_T25 jk_M24)) := by
  refine (jk_ev (d := 997) (by decide)).trans ?_
  refine (jm_go_steps 8 (show jm_steps 19 8 (jm_entry 19 [.ref 42, .int 0] (jk_h I0 jk_I35 jk_T25 jk_M24)) = some (14, [some (.ref 42), some (.int 0)], [], (jk_h I0 jk_I36 jk_T25 jk_M24)) from rfl)).trans ?_
  exact jm_go_ret rfl
def jk_T26 : List (Nat × Option (Nat × Nat)) := (36, some (5, 42)) :: jk_T25
set_option maxRecDepth 20000 in
theorem jk_15 {I0 : Nat → Nat → Int32} : jm_ev 999 9 [.ref 35] (jk_h I0 jk_I24 jk_T19 jk_M18) = some (none, (jk_h I0 jk_I36 jk_T26 jk_M24)) := by
  refine (jk_ev (d := 998) (by decide)).trans ?_
  refine (jm_go_steps 19 (show jm_steps 9 19 (jm_entry 9 [.ref 35] (jk_h I0 jk_I24 jk_T19 jk_M18)) = some (34, [some (.ref 35), some (.int 0)], [.int 0, .ref 37, .ref 37, .int 0, .ref 36], (jk_h I0 jk_I25 jk_T20 jk_M19)) from rfl)).trans ?_
  refine (jm_go_call (show jm_step 9 (34, [some (.ref 35), some (.int 0)], [.int 0, .ref 37, .ref 37, .int 0, .ref 36], (jk_h I0 jk_I25 jk_T20 jk_M19)) = some (.inr (.inl (19, [.ref 37, .int 0], [.ref 37, .int 0, .ref 36]))) from rfl)).trans ?_
  refine (congrArg (fun z => jm_then z _) (jk_9 (I0 := I0))).trans ?_
  show jm_go (jm_ev 998) 9 (37, [some (.ref 35), some (.int 0)], [.ref 37, .int 0, .ref 36], (jk_h I0 jk_I26 jk_T20 jk_M19)) = _
  refine (jm_go_steps 14 (show jm_steps 9 14 (37, [some (.ref 35), some (.int 0)], [.ref 37, .int 0, .ref 36], (jk_h I0 jk_I26 jk_T20 jk_M19)) = some (34, [some (.ref 35), some (.int 1)], [.int 0, .ref 38, .ref 38, .int 1, .ref 36], (jk_h I0 jk_I27 jk_T21 jk_M20)) from rfl)).trans ?_
  refine (jm_go_call (show jm_step 9 (34, [some (.ref 35), some (.int 1)], [.int 0, .ref 38, .ref 38, .int 1, .ref 36], (jk_h I0 jk_I27 jk_T21 jk_M20)) = some (.inr (.inl (19, [.ref 38, .int 0], [.ref 38, .int 1, .ref 36]))) from rfl)).trans ?_
  refine (congrArg (fun z => jm_then z _) (jk_10 (I0 := I0))).trans ?_
  show jm_go (jm_ev 998) 9 (37, [some (.ref 35), some (.int 1)], [.ref 38, .int 1, .ref 36], (jk_h I0 jk_I28 jk_T21 jk_M20)) = _
  refine (jm_go_steps 14 (show jm_steps 9 14 (37, [some (.ref 35), some (.int 1)], [.ref 38, .int 1, .ref 36], (jk_h I0 jk_I28 jk_T21 jk_M20)) = some (34, [some (.ref 35), some (.int 2)], [.int 0, .ref 39, .ref 39, .int 2, .ref 36], (jk_h I0 jk_I29 jk_T22 jk_M21)) from rfl)).trans ?_
  refine (jm_go_call (show jm_step 9 (34, [some (.ref 35), some (.int 2)], [.int 0, .ref 39, .ref 39, .int 2, .ref 36], (jk_h I0 jk_I29 jk_T22 jk_M21)) = some (.inr (.inl (19, [.ref 39, .int 0], [.ref 39, .int 2, .ref 36]))) from rfl)).trans ?_
  refine (congrArg (fun z => jm_then z _) (jk_11 (I0 := I0))).trans ?_
  show jm_go (jm_ev 998) 9 (37, [some (.ref 35), some (.int 2)], [.ref 39, .int 2, .ref 36], (jk_h I0 jk_I30 jk_T22 jk_M21)) = _
  refine (jm_go_steps 14 (show jm_steps 9 14 (37, [some (.ref 35), some (.int 2)], [.ref 39, .int 2, .ref 36], (jk_h I0 jk_I30 jk_T22 jk_M21)) = some (34, [some (.ref 35), some (.int 3)], [.int 0, .ref 40, .ref 40, .int 3, .ref 36], (jk_h I0 jk_I31 jk_T23 jk_M22)) from rfl)).trans ?_
  refine (jm_go_call (show jm_step 9 (34, [some (.ref 35), some (.int 3)], [.int 0, .ref 40, .ref 40, .int 3, .ref 36], (jk_h I0 jk_I31 jk_T23 jk_M22)) = some (.inr (.inl (19, [.ref 40, .int 0], [.ref 40, .int 3, .ref 36]))) from rfl)).trans ?_
  refine (congrArg (fun z => jm_then z _) (jk_12 (I0 := I0))).trans ?_
  show jm_go (jm_ev 998) 9 (37, [some (.ref 35), some (.int 3)], [.ref 40, .int 3, .ref 36], (jk_h I0 jk_I32 jk_T23 jk_M22)) = _
  refine (jm_go_steps 14 (show jm_steps 9 14 (37, [some (.ref 35), some (.int 3)], [.ref 40, .int 3, .ref 36], (jk_h I0 jk_I32 jk_T23 jk_M22)) = some (34, [some (.ref 35), some (.int 4)], [.int 0, .ref 41, .ref 41, .int 4, .ref 36], (jk_h I0 jk_I33 jk_T24 jk_M23)) from rfl)).trans ?_
  refine (jm_go_call (show jm_step 9 (34, [some (.ref 35), some (.int 4)], [.int 0, .ref 41, .ref 41, .int 4, .ref 36], (jk_h I0 jk_I33 jk_T24 jk_M23)) = some (.inr (.inl (19, [.ref 41, .int 0], [.ref 41, .int 4, .ref 36]))) from rfl)).trans ?_
  refine (congrArg (fun z => jm_then z _) (jk_13 (I0 := I0))).trans ?_
  show jm_go (jm_ev 998) 9 (37, [some (.ref 35), some (.int 4)], [.ref 41, .int 4, .ref 36], (jk_h I0 jk_I34 jk_T24 jk_M23)) = _
  refine (jm_go_steps 14 (show jm_steps 9 14 (37, [some (.ref 35), some (.int 4)], [.ref 41, .int 4, .ref 36], (jk_h I0 jk_I34 jk_T24 jk_M23)) = some (34, [some (.ref 35), some (.int 5)], [.int 0, .ref 42, .ref 42, .int 5, .ref 36], (jk_h I0 jk_I35 jk_T25 jk_M24)) from rfl)).trans ?_
  refine (jm_go_call (show jm_step 9 (34, [some (.ref 35), some (.int 5)], [.int 0, .ref 42, .ref 42, .int 5, .ref 36], (jk_h I0 jk_I35 jk_T25 jk_M24)) = some (.inr (.inl (19, [.ref 42, .int 0], [.ref 42, .int 5, .ref 36]))) from rfl)).trans ?_
  refine (congrArg (fun z => jm_then z _) (jk_14 (I0 := I0))).trans ?_
  show jm_go (jm_ev 998) 9 (37, [some (.ref 35), some (.int 5)], [.ref 42, .int 5, .ref 36], (jk_h I0 jk_I36 jk_T25 jk_M24)) = _
  refine (jm_go_steps 8 (show jm_steps 9 8 (37, [some (.ref 35), some (.int 5)], [.ref 42, .int 5, .ref 36], (jk_h I0 jk_I36 jk_T25 jk_M24)) = some (44, [some (.ref 35), some (.int 6)], [], (jk_h I0 jk_I36 jk_T26 jk_M24)) from rfl)).trans ?_
  exact jm_go_ret rfl
def jk_T27 : List (Nat × Option (Nat × Nat)) := (0, some (6, 35)) :: jk_T26
def jk_I37 : List (Nat × Option (Nat × Int32)) := (43, none) :: jk_I36
def jk_T28 : List (Nat × Option (Nat × Nat)) := (43, none) :: jk_T27
def jk_M25 : List (Nat × Nat) := [(11, 0), (9, 0), (13, 12), (13, 12), (16, 6), (13, 8), (8, 0), (13, 160), (13, 3), (13, 40), (8, 0), (13, 160), (13, 3), (13, 40), (8, 0), (13, 160), (13, 3), (13, 40), (8, 0), (13, 160), (13, 3), (13, 40), (8, 0), (13, 160), (13, 3), (13, 40), (8, 0), (13, 160), (13, 3), (13, 40), (7, 0), (13, 160), (15, 6), (15, 6), (14, 4), (3, 0), (15, 6), (6, 0), (6, 0), (6, 0), (6, 0), (6, 0), (6, 0), (6, 0)]
def jk_I38 : List (Nat × Option (Nat × Int32)) := (43, some (0, 0)) :: (43, some (4, (-1))) :: jk_I37
set_option maxRecDepth 20000 in
theorem jk_16 {I0 : Nat → Nat → Int32} : jm_ev 998 19 [.ref 43, .int 0] (jk_h I0 jk_I37 jk_T28 jk_M25) = some (none, (jk_h I0 jk_I38 jk_T28 jk_M25)) := by
  refine (jk_ev (d := 997) (by decide)).trans ?_
  refine (jm_go_steps 8 (show jm_steps 19 8 (jm_entry 19 [.ref 43, .int 0] (jk_h I0 jk_I37 jk_T28 jk_M25)) = some (14, [some (.ref 43), some (.int 0)], [], (jk_h I0 jk_I38 jk_T28 jk_M25)) from rfl)).trans ?_
  exact jm_go_ret rfl
set_option maxRecDepth 20000 in
theorem jk_17 {I0 : Nat → Nat → Int32} : jm_ev 999 126 [.int 0] (jk_h I0 jk_I36 jk_T27 jk_M24) = some (some (.ref 43), (jk_h I0 jk_I38 jk_T28 jk_M25)) := by
  refine (jk_ev (d := 998) (by decide)).trans ?_
  refine (jm_go_steps 5 (show jm_steps 126 5 (jm_entry 126 [.int 0] (jk_h I0 jk_I36 jk_T27 jk_M24)) = some (86, [some (.int 0)], [.int 0, .ref 43, .ref 43], (jk_h I0 jk_I37 jk_T28 jk_M25)) from rfl)).trans ?_
  refine (jm_go_call (show jm_step 126 (86, [some (.int 0)], [.int 0, .ref 43, .ref 43], (jk_h I0 jk_I37 jk_T28 jk_M25)) = some (.inr (.inl (19, [.ref 43, .int 0], [.ref 43]))) from rfl)).trans ?_
  refine (congrArg (fun z => jm_then z _) (jk_16 (I0 := I0))).trans ?_
  show jm_go (jm_ev 998) 126 (89, [some (.int 0)], [.ref 43], (jk_h I0 jk_I38 jk_T28 jk_M25)) = _
  exact jm_go_ret rfl
def jk_T29 : List (Nat × Option (Nat × Nat)) := (33, some (0, 43)) :: jk_T28
def jk_I39 : List (Nat × Option (Nat × Int32)) := (44, none) :: jk_I38
def jk_T30 : List (Nat × Option (Nat × Nat)) := (44, none) :: jk_T29
def jk_M26 : List (Nat × Nat) := [(11, 0), (9, 0), (13, 12), (13, 12), (16, 6), (13, 8), (8, 0), (13, 160), (13, 3), (13, 40), (8, 0), (13, 160), (13, 3), (13, 40), (8, 0), (13, 160), (13, 3), (13, 40), (8, 0), (13, 160), (13, 3), (13, 40), (8, 0), (13, 160), (13, 3), (13, 40), (8, 0), (13, 160), (13, 3), (13, 40), (7, 0), (13, 160), (15, 6), (15, 6), (14, 4), (3, 0), (15, 6), (6, 0), (6, 0), (6, 0), (6, 0), (6, 0), (6, 0), (6, 0), (1, 0)]
def jk_I40 : List (Nat × Option (Nat × Int32)) := (44, some (0, 1)) :: (44, some (4, (-1))) :: jk_I39
set_option maxRecDepth 20000 in
theorem jk_18 {I0 : Nat → Nat → Int32} : jm_ev 997 19 [.ref 44, .int 1] (jk_h I0 jk_I39 jk_T30 jk_M26) = some (none, (jk_h I0 jk_I40 jk_T30 jk_M26)) := by
  refine (jk_ev (d := 996) (by decide)).trans ?_
  refine (jm_go_steps 8 (show jm_steps 19 8 (jm_entry 19 [.ref 44, .int 1] (jk_h I0 jk_I39 jk_T30 jk_M26)) = some (14, [some (.ref 44), some (.int 1)], [], (jk_h I0 jk_I40 jk_T30 jk_M26)) from rfl)).trans ?_
  exact jm_go_ret rfl
set_option maxRecDepth 20000 in
theorem jk_19 {I0 : Nat → Nat → Int32} : jm_ev 998 3 [.ref 44, .int 1] (jk_h I0 jk_I39 jk_T30 jk_M26) = some (none, (jk_h I0 jk_I40 jk_T30 jk_M26)) := by
  refine (jk_ev (d := 997) (by decide)).trans ?_
  refine (jm_go_steps 2 (show jm_steps 3 2 (jm_entry 3 [.ref 44, .int 1] (jk_h I0 jk_I39 jk_T30 jk_M26)) = some (2, [some (.ref 44), some (.int 1)], [.int 1, .ref 44], (jk_h I0 jk_I39 jk_T30 jk_M26)) from rfl)).trans ?_
  refine (jm_go_call (show jm_step 3 (2, [some (.ref 44), some (.int 1)], [.int 1, .ref 44], (jk_h I0 jk_I39 jk_T30 jk_M26)) = some (.inr (.inl (19, [.ref 44, .int 1], []))) from rfl)).trans ?_
  refine (congrArg (fun z => jm_then z _) (jk_18 (I0 := I0))).trans ?_
  show jm_go (jm_ev 997) 3 (5, [some (.ref 44), some (.int 1)], [], (jk_h I0 jk_I40 jk_T30 jk_M26)) = _
  exact jm_go_ret rfl
set_option maxRecDepth 20000 in
theorem jk_20 {I0 : Nat → Nat → Int32} : jm_ev 999 126 [.int 1] (jk_h I0 jk_I38 jk_T29 jk_M25) = some (some (.ref 44), (jk_h I0 jk_I40 jk_T30 jk_M26)) := by
  refine (jk_ev (d := 998) (by decide)).trans ?_
  refine (jm_go_steps 5 (show jm_steps 126 5 (jm_entry 126 [.int 1] (jk_h I0 jk_I38 jk_T29 jk_M25)) = some (41, [some (.int 1)], [.int 1, .ref 44, .ref 44], (jk_h I0 jk_I39 jk_T30 jk_M26)) from rfl)).trans ?_
  refine (jm_go_call (show jm_step 126 (41, [some (.int 1)], [.int 1, .ref 44, .ref 44], (jk_h I0 jk_I39 jk_T30 jk_M26)) = some (.inr (.inl (3, [.ref 44, .int 1], [.ref 44]))) from rfl)).trans ?_
  refine (congrArg (fun z => jm_then z _) (jk_19 (I0 := I0))).trans ?_
  show jm_go (jm_ev 998) 126 (44, [some (.int 1)], [.ref 44], (jk_h I0 jk_I40 jk_T30 jk_M26)) = _
  exact jm_go_ret rfl
def jk_T31 : List (Nat × Option (Nat × Nat)) := (33, some (1, 44)) :: jk_T30
def jk_I41 : List (Nat × Option (Nat × Int32)) := (45, none) :: jk_I40
def jk_T32 : List (Nat × Option (Nat × Nat)) := (45, none) :: jk_T31
def jk_M27 : List (Nat × Nat) := [(11, 0), (9, 0), (13, 12), (13, 12), (16, 6), (13, 8), (8, 0), (13, 160), (13, 3), (13, 40), (8, 0), (13, 160), (13, 3), (13, 40), (8, 0), (13, 160), (13, 3), (13, 40), (8, 0), (13, 160), (13, 3), (13, 40), (8, 0), (13, 160), (13, 3), (13, 40), (8, 0), (13, 160), (13, 3), (13, 40), (7, 0), (13, 160), (15, 6), (15, 6), (14, 4), (3, 0), (15, 6), (6, 0), (6, 0), (6, 0), (6, 0), (6, 0), (6, 0), (6, 0), (1, 0), (4, 0)]
def jk_I42 : List (Nat × Option (Nat × Int32)) := (45, some (0, 2)) :: (45, some (4, (-1))) :: jk_I41
set_option maxRecDepth 20000 in
theorem jk_21 {I0 : Nat → Nat → Int32} : jm_ev 997 19 [.ref 45, .int 2] (jk_h I0 jk_I41 jk_T32 jk_M27) = some (none, (jk_h I0 jk_I42 jk_T32 jk_M27)) := by
  refine (jk_ev (d := 996) (by decide)).trans ?_
  refine (jm_go_steps 8 (show jm_steps 19 8 (jm_entry 19 [.ref 45, .int 2] (jk_h I0 jk_I41 jk_T32 jk_M27)) = some (14, [some (.ref 45), some (.int 2)], [], (jk_h I0 jk_I42 jk_T32 jk_M27)) from rfl)).trans ?_
  exact jm_go_ret rfl
set_option maxRecDepth 20000 in
theorem jk_22 {I0 : Nat → Nat → Int32} : jm_ev 998 11 [.ref 45, .int 2] (jk_h I0 jk_I41 jk_T32 jk_M27) = some (none, (jk_h I0 jk_I42 jk_T32 jk_M27)) := by
  refine (jk_ev (d := 997) (by decide)).trans ?_
  refine (jm_go_steps 2 (show jm_steps 11 2 (jm_entry 11 [.ref 45, .int 2] (jk_h I0 jk_I41 jk_T32 jk_M27)) = some (2, [some (.ref 45), some (.int 2)], [.int 2, .ref 45], (jk_h I0 jk_I41 jk_T32 jk_M27)) from rfl)).trans ?_
  refine (jm_go_call (show jm_step 11 (2, [some (.ref 45), some (.int 2)], [.int 2, .ref 45], (jk_h I0 jk_I41 jk_T32 jk_M27)) = some (.inr (.inl (19, [.ref 45, .int 2], []))) from rfl)).trans ?_
  refine (congrArg (fun z => jm_then z _) (jk_21 (I0 := I0))).trans ?_
  show jm_go (jm_ev 997) 11 (5, [some (.ref 45), some (.int 2)], [], (jk_h I0 jk_I42 jk_T32 jk_M27)) = _
  exact jm_go_ret rfl
set_option maxRecDepth 20000 in
theorem jk_23 {I0 : Nat → Nat → Int32} : jm_ev 999 126 [.int 2] (jk_h I0 jk_I40 jk_T31 jk_M26) = some (some (.ref 45), (jk_h I0 jk_I42 jk_T32 jk_M27)) := by
  refine (jk_ev (d := 998) (by decide)).trans ?_
  refine (jm_go_steps 5 (show jm_steps 126 5 (jm_entry 126 [.int 2] (jk_h I0 jk_I40 jk_T31 jk_M26)) = some (50, [some (.int 2)], [.int 2, .ref 45, .ref 45], (jk_h I0 jk_I41 jk_T32 jk_M27)) from rfl)).trans ?_
  refine (jm_go_call (show jm_step 126 (50, [some (.int 2)], [.int 2, .ref 45, .ref 45], (jk_h I0 jk_I41 jk_T32 jk_M27)) = some (.inr (.inl (11, [.ref 45, .int 2], [.ref 45]))) from rfl)).trans ?_
  refine (congrArg (fun z => jm_then z _) (jk_22 (I0 := I0))).trans ?_
  show jm_go (jm_ev 998) 126 (53, [some (.int 2)], [.ref 45], (jk_h I0 jk_I42 jk_T32 jk_M27)) = _
  exact jm_go_ret rfl
def jk_T33 : List (Nat × Option (Nat × Nat)) := (33, some (2, 45)) :: jk_T32
def jk_I43 : List (Nat × Option (Nat × Int32)) := (46, none) :: jk_I42
def jk_T34 : List (Nat × Option (Nat × Nat)) := (46, none) :: jk_T33
def jk_M28 : List (Nat × Nat) := [(11, 0), (9, 0), (13, 12), (13, 12), (16, 6), (13, 8), (8, 0), (13, 160), (13, 3), (13, 40), (8, 0), (13, 160), (13, 3), (13, 40), (8, 0), (13, 160), (13, 3), (13, 40), (8, 0), (13, 160), (13, 3), (13, 40), (8, 0), (13, 160), (13, 3), (13, 40), (8, 0), (13, 160), (13, 3), (13, 40), (7, 0), (13, 160), (15, 6), (15, 6), (14, 4), (3, 0), (15, 6), (6, 0), (6, 0), (6, 0), (6, 0), (6, 0), (6, 0), (6, 0), (1, 0), (4, 0), (0, 0)]
def jk_I44 : List (Nat × Option (Nat × Int32)) := (46, some (0, 3)) :: (46, some (4, (-1))) :: jk_I43
set_option maxRecDepth 20000 in
theorem jk_24 {I0 : Nat → Nat → Int32} : jm_ev 996 19 [.ref 46, .int 3] (jk_h I0 jk_I43 jk_T34 jk_M28) = some (none, (jk_h I0 jk_I44 jk_T34 jk_M28)) := by
  refine (jk_ev (d := 995) (by decide)).trans ?_
  refine (jm_go_steps 8 (show jm_steps 19 8 (jm_entry 19 [.ref 46, .int 3] (jk_h I0 jk_I43 jk_T34 jk_M28)) = some (14, [some (.ref 46), some (.int 3)], [], (jk_h I0 jk_I44 jk_T34 jk_M28)) from rfl)).trans ?_
  exact jm_go_ret rfl
set_option maxRecDepth 20000 in
theorem jk_25 {I0 : Nat → Nat → Int32} : jm_ev 997 3 [.ref 46, .int 3] (jk_h I0 jk_I43 jk_T34 jk_M28) = some (none, (jk_h I0 jk_I44 jk_T34 jk_M28)) := by
  refine (jk_ev (d := 996) (by decide)).trans ?_
  refine (jm_go_steps 2 (show jm_steps 3 2 (jm_entry 3 [.ref 46, .int 3] (jk_h I0 jk_I43 jk_T34 jk_M28)) = some (2, [some (.ref 46), some (.int 3)], [.int 3, .ref 46], (jk_h I0 jk_I43 jk_T34 jk_M28)) from rfl)).trans ?_
  refine (jm_go_call (show jm_step 3 (2, [some (.ref 46), some (.int 3)], [.int 3, .ref 46], (jk_h I0 jk_I43 jk_T34 jk_M28)) = some (.inr (.inl (19, [.ref 46, .int 3], []))) from rfl)).trans ?_
  refine (congrArg (fun z => jm_then z _) (jk_24 (I0 := I0))).trans ?_
  show jm_go (jm_ev 996) 3 (5, [some (.ref 46), some (.int 3)], [], (jk_h I0 jk_I44 jk_T34 jk_M28)) = _
  exact jm_go_ret rfl
set_option maxRecDepth 20000 in
theorem jk_26 {I0 : Nat → Nat → Int32} : jm_ev 998 0 [.ref 46, .int 3] (jk_h I0 jk_I43 jk_T34 jk_M28) = some (none, (jk_h I0 jk_I44 jk_T34 jk_M28)) := by
  refine (jk_ev (d := 997) (by decide)).trans ?_
  refine (jm_go_steps 2 (show jm_steps 0 2 (jm_entry 0 [.ref 46, .int 3] (jk_h I0 jk_I43 jk_T34 jk_M28)) = some (2, [some (.ref 46), some (.int 3)], [.int 3, .ref 46], (jk_h I0 jk_I43 jk_T34 jk_M28)) from rfl)).trans ?_
  refine (jm_go_call (show jm_step 0 (2, [some (.ref 46), some (.int 3)], [.int 3, .ref 46], (jk_h I0 jk_I43 jk_T34 jk_M28)) = some (.inr (.inl (3, [.ref 46, .int 3], []))) from rfl)).trans ?_
  refine (congrArg (fun z => jm_then z _) (jk_25 (I0 := I0))).trans ?_
  show jm_go (jm_ev 997) 0 (5, [some (.ref 46), some (.int 3)], [], (jk_h I0 jk_I44 jk_T34 jk_M28)) = _
  exact jm_go_ret rfl
set_option maxRecDepth 20000 in
theorem jk_27 {I0 : Nat → Nat → Int32} : jm_ev 999 126 [.int 3] (jk_h I0 jk_I42 jk_T33 jk_M27) = some (some (.ref 46), (jk_h I0 jk_I44 jk_T34 jk_M28)) := by
  refine (jk_ev (d := 998) (by decide)).trans ?_
  refine (jm_go_steps 5 (show jm_steps 126 5 (jm_entry 126 [.int 3] (jk_h I0 jk_I42 jk_T33 jk_M27)) = some (59, [some (.int 3)], [.int 3, .ref 46, .ref 46], (jk_h I0 jk_I43 jk_T34 jk_M28)) from rfl)).trans ?_
  refine (jm_go_call (show jm_step 126 (59, [some (.int 3)], [.int 3, .ref 46, .ref 46], (jk_h I0 jk_I43 jk_T34 jk_M28)) = some (.inr (.inl (0, [.ref 46, .int 3], [.ref 46]))) from rfl)).trans ?_
  refine (congrArg (fun z => jm_then z _) (jk_26 (I0 := I0))).trans ?_
  show jm_go (jm_ev 998) 126 (62, [some (.int 3)], [.ref 46], (jk_h I0 jk_I44 jk_T34 jk_M28)) = _
  exact jm_go_ret rfl
def jk_T35 : List (Nat × Option (Nat × Nat)) := (33, some (3, 46)) :: jk_T34
def jk_I45 : List (Nat × Option (Nat × Int32)) := (47, none) :: jk_I44
def jk_T36 : List (Nat × Option (Nat × Nat)) := (47, none) :: jk_T35
def jk_M29 : List (Nat × Nat) := [(11, 0), (9, 0), (13, 12), (13, 12), (16, 6), (13, 8), (8, 0), (13, 160), (13, 3), (13, 40), (8, 0), (13, 160), (13, 3), (13, 40), (8, 0), (13, 160), (13, 3), (13, 40), (8, 0), (13, 160), (13, 3), (13, 40), (8, 0), (13, 160), (13, 3), (13, 40), (8, 0), (13, 160), (13, 3), (13, 40), (7, 0), (13, 160), (15, 6), (15, 6), (14, 4), (3, 0), (15, 6), (6, 0), (6, 0), (6, 0), (6, 0), (6, 0), (6, 0), (6, 0), (1, 0), (4, 0), (0, 0), (10, 0)]
def jk_I46 : List (Nat × Option (Nat × Int32)) := (47, some (0, 4)) :: (47, some (4, (-1))) :: jk_I45
set_option maxRecDepth 20000 in
theorem jk_28 {I0 : Nat → Nat → Int32} : jm_ev 996 19 [.ref 47, .int 4] (jk_h I0 jk_I45 jk_T36 jk_M29) = some (none, (jk_h I0 jk_I46 jk_T36 jk_M29)) := by
  refine (jk_ev (d := 995) (by decide)).trans ?_
  refine (jm_go_steps 8 (show jm_steps 19 8 (jm_entry 19 [.ref 47, .int 4] (jk_h I0 jk_I45 jk_T36 jk_M29)) = some (14, [some (.ref 47), some (.int 4)], [], (jk_h I0 jk_I46 jk_T36 jk_M29)) from rfl)).trans ?_
  exact jm_go_ret rfl
set_option maxRecDepth 20000 in
theorem jk_29 {I0 : Nat → Nat → Int32} : jm_ev 997 11 [.ref 47, .int 4] (jk_h I0 jk_I45 jk_T36 jk_M29) = some (none, (jk_h I0 jk_I46 jk_T36 jk_M29)) := by
  refine (jk_ev (d := 996) (by decide)).trans ?_
  refine (jm_go_steps 2 (show jm_steps 11 2 (jm_entry 11 [.ref 47, .int 4] (jk_h I0 jk_I45 jk_T36 jk_M29)) = some (2, [some (.ref 47), some (.int 4)], [.int 4, .ref 47], (jk_h I0 jk_I45 jk_T36 jk_M29)) from rfl)).trans ?_
  refine (jm_go_call (show jm_step 11 (2, [some (.ref 47), some (.int 4)], [.int 4, .ref 47], (jk_h I0 jk_I45 jk_T36 jk_M29)) = some (.inr (.inl (19, [.ref 47, .int 4], []))) from rfl)).trans ?_
  refine (congrArg (fun z => jm_then z _) (jk_28 (I0 := I0))).trans ?_
  show jm_go (jm_ev 996) 11 (5, [some (.ref 47), some (.int 4)], [], (jk_h I0 jk_I46 jk_T36 jk_M29)) = _
  exact jm_go_ret rfl
set_option maxRecDepth 20000 in
theorem jk_30 {I0 : Nat → Nat → Int32} : jm_ev 998 74 [.ref 47, .int 4] (jk_h I0 jk_I45 jk_T36 jk_M29) = some (none, (jk_h I0 jk_I46 jk_T36 jk_M29)) := by
  refine (jk_ev (d := 997) (by decide)).trans ?_
  refine (jm_go_steps 2 (show jm_steps 74 2 (jm_entry 74 [.ref 47, .int 4] (jk_h I0 jk_I45 jk_T36 jk_M29)) = some (2, [some (.ref 47), some (.int 4)], [.int 4, .ref 47], (jk_h I0 jk_I45 jk_T36 jk_M29)) from rfl)).trans ?_
  refine (jm_go_call (show jm_step 74 (2, [some (.ref 47), some (.int 4)], [.int 4, .ref 47], (jk_h I0 jk_I45 jk_T36 jk_M29)) = some (.inr (.inl (11, [.ref 47, .int 4], []))) from rfl)).trans ?_
  refine (congrArg (fun z => jm_then z _) (jk_29 (I0 := I0))).trans ?_
  show jm_go (jm_ev 997) 74 (5, [some (.ref 47), some (.int 4)], [], (jk_h I0 jk_I46 jk_T36 jk_M29)) = _
  exact jm_go_ret rfl
set_option maxRecDepth 20000 in
theorem jk_31 {I0 : Nat → Nat → Int32} : jm_ev 999 126 [.int 4] (jk_h I0 jk_I44 jk_T35 jk_M28) = some (some (.ref 47), (jk_h I0 jk_I46 jk_T36 jk_M29)) := by
  refine (jk_ev (d := 998) (by decide)).trans ?_
  refine (jm_go_steps 5 (show jm_steps 126 5 (jm_entry 126 [.int 4] (jk_h I0 jk_I44 jk_T35 jk_M28)) = some (68, [some (.int 4)], [.int 4, .ref 47, .ref 47], (jk_h I0 jk_I45 jk_T36 jk_M29)) from rfl)).trans ?_
  refine (jm_go_call (show jm_step 126 (68, [some (.int 4)], [.int 4, .ref 47, .ref 47], (jk_h I0 jk_I45 jk_T36 jk_M29)) = some (.inr (.inl (74, [.ref 47, .int 4], [.ref 47]))) from rfl)).trans ?_
  refine (congrArg (fun z => jm_then z _) (jk_30 (I0 := I0))).trans ?_
  show jm_go (jm_ev 998) 126 (71, [some (.int 4)], [.ref 47], (jk_h I0 jk_I46 jk_T36 jk_M29)) = _
  exact jm_go_ret rfl
def jk_T37 : List (Nat × Option (Nat × Nat)) := (33, some (4, 47)) :: jk_T36
def jk_I47 : List (Nat × Option (Nat × Int32)) := (48, none) :: jk_I46
def jk_T38 : List (Nat × Option (Nat × Nat)) := (48, none) :: jk_T37
def jk_M30 : List (Nat × Nat) := [(11, 0), (9, 0), (13, 12), (13, 12), (16, 6), (13, 8), (8, 0), (13, 160), (13, 3), (13, 40), (8, 0), (13, 160), (13, 3), (13, 40), (8, 0), (13, 160), (13, 3), (13, 40), (8, 0), (13, 160), (13, 3), (13, 40), (8, 0), (13, 160), (13, 3), (13, 40), (8, 0), (13, 160), (13, 3), (13, 40), (7, 0), (13, 160), (15, 6), (15, 6), (14, 4), (3, 0), (15, 6), (6, 0), (6, 0), (6, 0), (6, 0), (6, 0), (6, 0), (6, 0), (1, 0), (4, 0), (0, 0), (10, 0), (2, 0)]
def jk_I48 : List (Nat × Option (Nat × Int32)) := (48, some (0, 5)) :: (48, some (4, (-1))) :: jk_I47
set_option maxRecDepth 20000 in
theorem jk_32 {I0 : Nat → Nat → Int32} : jm_ev 997 19 [.ref 48, .int 5] (jk_h I0 jk_I47 jk_T38 jk_M30) = some (none, (jk_h I0 jk_I48 jk_T38 jk_M30)) := by
  refine (jk_ev (d := 996) (by decide)).trans ?_
  refine (jm_go_steps 8 (show jm_steps 19 8 (jm_entry 19 [.ref 48, .int 5] (jk_h I0 jk_I47 jk_T38 jk_M30)) = some (14, [some (.ref 48), some (.int 5)], [], (jk_h I0 jk_I48 jk_T38 jk_M30)) from rfl)).trans ?_
  exact jm_go_ret rfl
set_option maxRecDepth 20000 in
theorem jk_33 {I0 : Nat → Nat → Int32} : jm_ev 998 6 [.ref 48, .int 5] (jk_h I0 jk_I47 jk_T38 jk_M30) = some (none, (jk_h I0 jk_I48 jk_T38 jk_M30)) := by
  refine (jk_ev (d := 997) (by decide)).trans ?_
  refine (jm_go_steps 2 (show jm_steps 6 2 (jm_entry 6 [.ref 48, .int 5] (jk_h I0 jk_I47 jk_T38 jk_M30)) = some (2, [some (.ref 48), some (.int 5)], [.int 5, .ref 48], (jk_h I0 jk_I47 jk_T38 jk_M30)) from rfl)).trans ?_
  refine (jm_go_call (show jm_step 6 (2, [some (.ref 48), some (.int 5)], [.int 5, .ref 48], (jk_h I0 jk_I47 jk_T38 jk_M30)) = some (.inr (.inl (19, [.ref 48, .int 5], []))) from rfl)).trans ?_
  refine (congrArg (fun z => jm_then z _) (jk_32 (I0 := I0))).trans ?_
  show jm_go (jm_ev 997) 6 (5, [some (.ref 48), some (.int 5)], [], (jk_h I0 jk_I48 jk_T38 jk_M30)) = _
  exact jm_go_ret rfl
set_option maxRecDepth 20000 in
theorem jk_34 {I0 : Nat → Nat → Int32} : jm_ev 999 126 [.int 5] (jk_h I0 jk_I46 jk_T37 jk_M29) = some (some (.ref 48), (jk_h I0 jk_I48 jk_T38 jk_M30)) := by
  refine (jk_ev (d := 998) (by decide)).trans ?_
  refine (jm_go_steps 5 (show jm_steps 126 5 (jm_entry 126 [.int 5] (jk_h I0 jk_I46 jk_T37 jk_M29)) = some (77, [some (.int 5)], [.int 5, .ref 48, .ref 48], (jk_h I0 jk_I47 jk_T38 jk_M30)) from rfl)).trans ?_
  refine (jm_go_call (show jm_step 126 (77, [some (.int 5)], [.int 5, .ref 48, .ref 48], (jk_h I0 jk_I47 jk_T38 jk_M30)) = some (.inr (.inl (6, [.ref 48, .int 5], [.ref 48]))) from rfl)).trans ?_
  refine (congrArg (fun z => jm_then z _) (jk_33 (I0 := I0))).trans ?_
  show jm_go (jm_ev 998) 126 (80, [some (.int 5)], [.ref 48], (jk_h I0 jk_I48 jk_T38 jk_M30)) = _
  exact jm_go_ret rfl
def jk_I49 : List (Nat × Option (Nat × Int32)) := (49, none) :: jk_I48
def jk_T39 : List (Nat × Option (Nat × Nat)) := (49, none) :: (33, some (5, 48)) :: jk_T38
def jk_M31 : List (Nat × Nat) := [(11, 0), (9, 0), (13, 12), (13, 12), (16, 6), (13, 8), (8, 0), (13, 160), (13, 3), (13, 40), (8, 0), (13, 160), (13, 3), (13, 40), (8, 0), (13, 160), (13, 3), (13, 40), (8, 0), (13, 160), (13, 3), (13, 40), (8, 0), (13, 160), (13, 3), (13, 40), (8, 0), (13, 160), (13, 3), (13, 40), (7, 0), (13, 160), (15, 6), (15, 6), (14, 4), (3, 0), (15, 6), (6, 0), (6, 0), (6, 0), (6, 0), (6, 0), (6, 0), (6, 0), (1, 0), (4, 0), (0, 0), (10, 0), (2, 0), (5, 0)]
def jk_I50 : List (Nat × Option (Nat × Int32)) := (50, none) :: (49, some (0, (-1))) :: jk_I49
def jk_T40 : List (Nat × Option (Nat × Nat)) := (49, some (2, 50)) :: (50, none) :: jk_T39
def jk_M32 : List (Nat × Nat) := [(11, 0), (9, 0), (13, 12), (13, 12), (16, 6), (13, 8), (8, 0), (13, 160), (13, 3), (13, 40), (8, 0), (13, 160), (13, 3), (13, 40), (8, 0), (13, 160), (13, 3), (13, 40), (8, 0), (13, 160), (13, 3), (13, 40), (8, 0), (13, 160), (13, 3), (13, 40), (8, 0), (13, 160), (13, 3), (13, 40), (7, 0), (13, 160), (15, 6), (15, 6), (14, 4), (3, 0), (15, 6), (6, 0), (6, 0), (6, 0), (6, 0), (6, 0), (6, 0), (6, 0), (1, 0), (4, 0), (0, 0), (10, 0), (2, 0), (5, 0), (13, 40)]
set_option maxRecDepth 20000 in
theorem jk_35 {I0 : Nat → Nat → Int32} : jm_ev 999 14 [.ref 49] (jk_h I0 jk_I49 jk_T39 jk_M31) = some (none, (jk_h I0 jk_I50 jk_T40 jk_M32)) := by
  refine (jk_ev (d := 998) (by decide)).trans ?_
  refine (jm_go_steps 9 (show jm_steps 14 9 (jm_entry 14 [.ref 49] (jk_h I0 jk_I49 jk_T39 jk_M31)) = some (17, [some (.ref 49)], [], (jk_h I0 jk_I50 jk_T40 jk_M32)) from rfl)).trans ?_
  exact jm_go_ret rfl
def jk_I51 : List (Nat × Option (Nat × Int32)) := (51, none) :: jk_I50
def jk_T41 : List (Nat × Option (Nat × Nat)) := (51, none) :: (34, some (0, 49)) :: jk_T40
def jk_M33 : List (Nat × Nat) := [(11, 0), (9, 0), (13, 12), (13, 12), (16, 6), (13, 8), (8, 0), (13, 160), (13, 3), (13, 40), (8, 0), (13, 160), (13, 3), (13, 40), (8, 0), (13, 160), (13, 3), (13, 40), (8, 0), (13, 160), (13, 3), (13, 40), (8, 0), (13, 160), (13, 3), (13, 40), (8, 0), (13, 160), (13, 3), (13, 40), (7, 0), (13, 160), (15, 6), (15, 6), (14, 4), (3, 0), (15, 6), (6, 0), (6, 0), (6, 0), (6, 0), (6, 0), (6, 0), (6, 0), (1, 0), (4, 0), (0, 0), (10, 0), (2, 0), (5, 0), (13, 40), (5, 0)]
def jk_I52 : List (Nat × Option (Nat × Int32)) := (52, none) :: (51, some (0, (-1))) :: jk_I51
def jk_T42 : List (Nat × Option (Nat × Nat)) := (51, some (2, 52)) :: (52, none) :: jk_T41
def jk_M34 : List (Nat × Nat) := [(11, 0), (9, 0), (13, 12), (13, 12), (16, 6), (13, 8), (8, 0), (13, 160), (13, 3), (13, 40), (8, 0), (13, 160), (13, 3), (13, 40), (8, 0), (13, 160), (13, 3), (13, 40), (8, 0), (13, 160), (13, 3), (13, 40), (8, 0), (13, 160), (13, 3), (13, 40), (8, 0), (13, 160), (13, 3), (13, 40), (7, 0), (13, 160), (15, 6), (15, 6), (14, 4), (3, 0), (15, 6), (6, 0), (6, 0), (6, 0), (6, 0), (6, 0), (6, 0), (6, 0), (1, 0), (4, 0), (0, 0), (10, 0), (2, 0), (5, 0), (13, 40), (5, 0), (13, 40)]
set_option maxRecDepth 20000 in
theorem jk_36 {I0 : Nat → Nat → Int32} : jm_ev 999 14 [.ref 51] (jk_h I0 jk_I51 jk_T41 jk_M33) = some (none, (jk_h I0 jk_I52 jk_T42 jk_M34)) := by
  refine (jk_ev (d := 998) (by decide)).trans ?_
  refine (jm_go_steps 9 (show jm_steps 14 9 (jm_entry 14 [.ref 51] (jk_h I0 jk_I51 jk_T41 jk_M33)) = some (17, [some (.ref 51)], [], (jk_h I0 jk_I52 jk_T42 jk_M34)) from rfl)).trans ?_
  exact jm_go_ret rfl
def jk_I53 : List (Nat × Option (Nat × Int32)) := (53, none) :: jk_I52
def jk_T43 : List (Nat × Option (Nat × Nat)) := (53, none) :: (34, some (1, 51)) :: jk_T42
def jk_M35 : List (Nat × Nat) := [(11, 0), (9, 0), (13, 12), (13, 12), (16, 6), (13, 8), (8, 0), (13, 160), (13, 3), (13, 40), (8, 0), (13, 160), (13, 3), (13, 40), (8, 0), (13, 160), (13, 3), (13, 40), (8, 0), (13, 160), (13, 3), (13, 40), (8, 0), (13, 160), (13, 3), (13, 40), (8, 0), (13, 160), (13, 3), (13, 40), (7, 0), (13, 160), (15, 6), (15, 6), (14, 4), (3, 0), (15, 6), (6, 0), (6, 0), (6, 0), (6, 0), (6, 0), (6, 0), (6, 0), (1, 0), (4, 0), (0, 0), (10, 0), (2, 0), (5, 0), (13, 40), (5, 0), (13, 40), (5, 0)]
def jk_I54 : List (Nat × Option (Nat × Int32)) := (54, none) :: (53, some (0, (-1))) :: jk_I53
def jk_T44 : List (Nat × Option (Nat × Nat)) := (53, some (2, 54)) :: (54, none) :: jk_T43
def jk_M36 : List (Nat × Nat) := [(11, 0), (9, 0), (13, 12), (13, 12), (16, 6), (13, 8), (8, 0), (13, 160), (13, 3), (13, 40), (8, 0), (13, 160), (13, 3), (13, 40), (8, 0), (13, 160), (13, 3), (13, 40), (8, 0), (13, 160), (13, 3), (13, 40), (8, 0), (13, 160), (13, 3), (13, 40), (8, 0), (13, 160), (13, 3), (13, 40), (7, 0), (13, 160), (15, 6), (15, 6), (14, 4), (3, 0), (15, 6), (6, 0), (6, 0), (6, 0), (6, 0), (6, 0), (6, 0), (6, 0), (1, 0), (4, 0), (0, 0), (10, 0), (2, 0), (5, 0), (13, 40), (5, 0), (13, 40), (5, 0), (13, 40)]
set_option maxRecDepth 20000 in
theorem jk_37 {I0 : Nat → Nat → Int32} : jm_ev 999 14 [.ref 53] (jk_h I0 jk_I53 jk_T43 jk_M35) = some (none, (jk_h I0 jk_I54 jk_T44 jk_M36)) := by
  refine (jk_ev (d := 998) (by decide)).trans ?_
  refine (jm_go_steps 9 (show jm_steps 14 9 (jm_entry 14 [.ref 53] (jk_h I0 jk_I53 jk_T43 jk_M35)) = some (17, [some (.ref 53)], [], (jk_h I0 jk_I54 jk_T44 jk_M36)) from rfl)).trans ?_
  exact jm_go_ret rfl
def jk_I55 : List (Nat × Option (Nat × Int32)) := (55, none) :: jk_I54
def jk_T45 : List (Nat × Option (Nat × Nat)) := (55, none) :: (34, some (2, 53)) :: jk_T44
def jk_M37 : List (Nat × Nat) := [(11, 0), (9, 0), (13, 12), (13, 12), (16, 6), (13, 8), (8, 0), (13, 160), (13, 3), (13, 40), (8, 0), (13, 160), (13, 3), (13, 40), (8, 0), (13, 160), (13, 3), (13, 40), (8, 0), (13, 160), (13, 3), (13, 40), (8, 0), (13, 160), (13, 3), (13, 40), (8, 0), (13, 160), (13, 3), (13, 40), (7, 0), (13, 160), (15, 6), (15, 6), (14, 4), (3, 0), (15, 6), (6, 0), (6, 0), (6, 0), (6, 0), (6, 0), (6, 0), (6, 0), (1, 0), (4, 0), (0, 0), (10, 0), (2, 0), (5, 0), (13, 40), (5, 0), (13, 40), (5, 0), (13, 40), (5, 0)]
def jk_I56 : List (Nat × Option (Nat × Int32)) := (56, none) :: (55, some (0, (-1))) :: jk_I55
def jk_T46 : List (Nat × Option (Nat × Nat)) := (55, some (2, 56)) :: (56, none) :: jk_T45
def jk_M38 : List (Nat × Nat) := [(11, 0), (9, 0), (13, 12), (13, 12), (16, 6), (13, 8), (8, 0), (13, 160), (13, 3), (13, 40), (8, 0), (13, 160), (13, 3), (13, 40), (8, 0), (13, 160), (13, 3), (13, 40), (8, 0), (13, 160), (13, 3), (13, 40), (8, 0), (13, 160), (13, 3), (13, 40), (8, 0), (13, 160), (13, 3), (13, 40), (7, 0), (13, 160), (15, 6), (15, 6), (14, 4), (3, 0), (15, 6), (6, 0), (6, 0), (6, 0), (6, 0), (6, 0), (6, 0), (6, 0), (1, 0), (4, 0), (0, 0), (10, 0), (2, 0), (5, 0), (13, 40), (5, 0), (13, 40), (5, 0), (13, 40), (5, 0), (13, 40)]
set_option maxRecDepth 20000 in
theorem jk_38 {I0 : Nat → Nat → Int32} : jm_ev 999 14 [.ref 55] (jk_h I0 jk_I55 jk_T45 jk_M37) = some (none, (jk_h I0 jk_I56 jk_T46 jk_M38)) := by
  refine (jk_ev (d := 998) (by decide)).trans ?_
  refine (jm_go_steps 9 (show jm_steps 14 9 (jm_entry 14 [.ref 55] (jk_h I0 jk_I55 jk_T45 jk_M37)) = some (17, [some (.ref 55)], [], (jk_h I0 jk_I56 jk_T46 jk_M38)) from rfl)).trans ?_
  exact jm_go_ret rfl
def jk_T47 : List (Nat × Option (Nat × Nat)) := (34, some (3, 55)) :: jk_T46
set_option maxRecDepth 20000 in
theorem jk_39 {I0 : Nat → Nat → Int32} : jm_ev 1000 77 [.ref 0] (jk_h I0 jk_I1 jk_T1 jk_M1) = some (none, (jk_h I0 jk_I56 jk_T47 jk_M38)) := by
  refine (jk_ev (d := 999) (by decide)).trans ?_
  refine (jm_go_steps 5 (show jm_steps 77 5 (jm_entry 77 [.ref 0] (jk_h I0 jk_I1 jk_T1 jk_M1)) = some (9, [some (.ref 0), none], [.ref 1, .ref 1, .ref 0], (jk_h I0 jk_I2 jk_T2 jk_M2)) from rfl)).trans ?_
  refine (jm_go_call (show jm_step 77 (9, [some (.ref 0), none], [.ref 1, .ref 1, .ref 0], (jk_h I0 jk_I2 jk_T2 jk_M2)) = some (.inr (.inl (54, [.ref 1], [.ref 1, .ref 0]))) from rfl)).trans ?_
  refine (congrArg (fun z => jm_then z _) (jk_7 (I0 := I0))).trans ?_
  show jm_go (jm_ev 999) 77 (12, [some (.ref 0), none], [.ref 1, .ref 0], (jk_h I0 jk_I21 jk_T16 jk_M15)) = _
  refine (jm_go_steps 4 (show jm_steps 77 4 (12, [some (.ref 0), none], [.ref 1, .ref 0], (jk_h I0 jk_I21 jk_T16 jk_M15)) = some (20, [some (.ref 0), none], [.ref 30, .ref 30, .ref 0], (jk_h I0 jk_I22 jk_T17 jk_M16)) from rfl)).trans ?_
  refine (jm_go_call (show jm_step 77 (20, [some (.ref 0), none], [.ref 30, .ref 30, .ref 0], (jk_h I0 jk_I22 jk_T17 jk_M16)) = some (.inr (.inl (24, [.ref 30], [.ref 30, .ref 0]))) from rfl)).trans ?_
  refine (congrArg (fun z => jm_then z _) (jk_8 (I0 := I0))).trans ?_
  show jm_go (jm_ev 999) 77 (23, [some (.ref 0), none], [.ref 30, .ref 0], (jk_h I0 jk_I23 jk_T18 jk_M17)) = _
  refine (jm_go_steps 16 (show jm_steps 77 16 (23, [some (.ref 0), none], [.ref 30, .ref 0], (jk_h I0 jk_I23 jk_T18 jk_M17)) = some (57, [some (.ref 0), none], [.ref 35, .ref 35, .ref 0], (jk_h I0 jk_I24 jk_T19 jk_M18)) from rfl)).trans ?_
  refine (jm_go_call (show jm_step 77 (57, [some (.ref 0), none], [.ref 35, .ref 35, .ref 0], (jk_h I0 jk_I24 jk_T19 jk_M18)) = some (.inr (.inl (9, [.ref 35], [.ref 35, .ref 0]))) from rfl)).trans ?_
  refine (congrArg (fun z => jm_then z _) (jk_15 (I0 := I0))).trans ?_
  show jm_go (jm_ev 999) 77 (60, [some (.ref 0), none], [.ref 35, .ref 0], (jk_h I0 jk_I36 jk_T26 jk_M24)) = _
  refine (jm_go_steps 12 (show jm_steps 77 12 (60, [some (.ref 0), none], [.ref 35, .ref 0], (jk_h I0 jk_I36 jk_T26 jk_M24)) = some (80, [some (.ref 0), some (.int 0)], [.int 0, .int 0, .ref 33], (jk_h I0 jk_I36 jk_T27 jk_M24)) from rfl)).trans ?_
  refine (jm_go_call (show jm_step 77 (80, [some (.ref 0), some (.int 0)], [.int 0, .int 0, .ref 33], (jk_h I0 jk_I36 jk_T27 jk_M24)) = some (.inr (.inl (126, [.int 0], [.int 0, .ref 33]))) from rfl)).trans ?_
  refine (congrArg (fun z => jm_then z _) (jk_17 (I0 := I0))).trans ?_
  show jm_go (jm_ev 999) 77 (83, [some (.ref 0), some (.int 0)], [.ref 43, .int 0, .ref 33], (jk_h I0 jk_I38 jk_T28 jk_M25)) = _
  refine (jm_go_steps 12 (show jm_steps 77 12 (83, [some (.ref 0), some (.int 0)], [.ref 43, .int 0, .ref 33], (jk_h I0 jk_I38 jk_T28 jk_M25)) = some (80, [some (.ref 0), some (.int 1)], [.int 1, .int 1, .ref 33], (jk_h I0 jk_I38 jk_T29 jk_M25)) from rfl)).trans ?_
  refine (jm_go_call (show jm_step 77 (80, [some (.ref 0), some (.int 1)], [.int 1, .int 1, .ref 33], (jk_h I0 jk_I38 jk_T29 jk_M25)) = some (.inr (.inl (126, [.int 1], [.int 1, .ref 33]))) from rfl)).trans ?_
  refine (congrArg (fun z => jm_then z _) (jk_20 (I0 := I0))).trans ?_
  show jm_go (jm_ev 999) 77 (83, [some (.ref 0), some (.int 1)], [.ref 44, .int 1, .ref 33], (jk_h I0 jk_I40 jk_T30 jk_M26)) = _
  refine (jm_go_steps 12 (show jm_steps 77 12 (83, [some (.ref 0), some (.int 1)], [.ref 44, .int 1, .ref 33], (jk_h I0 jk_I40 jk_T30 jk_M26)) = some (80, [some (.ref 0), some (.int 2)], [.int 2, .int 2, .ref 33], (jk_h I0 jk_I40 jk_T31 jk_M26)) from rfl)).trans ?_
  refine (jm_go_call (show jm_step 77 (80, [some (.ref 0), some (.int 2)], [.int 2, .int 2, .ref 33], (jk_h I0 jk_I40 jk_T31 jk_M26)) = some (.inr (.inl (126, [.int 2], [.int 2, .ref 33]))) from rfl)).trans ?_
  refine (congrArg (fun z => jm_then z _) (jk_23 (I0 := I0))).trans ?_
  show jm_go (jm_ev 999) 77 (83, [some (.ref 0), some (.int 2)], [.ref 45, .int 2, .ref 33], (jk_h I0 jk_I42 jk_T32 jk_M27)) = _
  refine (jm_go_steps 12 (show jm_steps 77 12 (83, [some (.ref 0), some (.int 2)], [.ref 45, .int 2, .ref 33], (jk_h I0 jk_I42 jk_T32 jk_M27)) = some (80, [some (.ref 0), some (.int 3)], [.int 3, .int 3, .ref 33], (jk_h I0 jk_I42 jk_T33 jk_M27)) from rfl)).trans ?_
  refine (jm_go_call (show jm_step 77 (80, [some (.ref 0), some (.int 3)], [.int 3, .int 3, .ref 33], (jk_h I0 jk_I42 jk_T33 jk_M27)) = some (.inr (.inl (126, [.int 3], [.int 3, .ref 33]))) from rfl)).trans ?_
  refine (congrArg (fun z => jm_then z _) (jk_27 (I0 := I0))).trans ?_
  show jm_go (jm_ev 999) 77 (83, [some (.ref 0), some (.int 3)], [.ref 46, .int 3, .ref 33], (jk_h I0 jk_I44 jk_T34 jk_M28)) = _
  refine (jm_go_steps 12 (show jm_steps 77 12 (83, [some (.ref 0), some (.int 3)], [.ref 46, .int 3, .ref 33], (jk_h I0 jk_I44 jk_T34 jk_M28)) = some (80, [some (.ref 0), some (.int 4)], [.int 4, .int 4, .ref 33], (jk_h I0 jk_I44 jk_T35 jk_M28)) from rfl)).trans ?_
  refine (jm_go_call (show jm_step 77 (80, [some (.ref 0), some (.int 4)], [.int 4, .int 4, .ref 33], (jk_h I0 jk_I44 jk_T35 jk_M28)) = some (.inr (.inl (126, [.int 4], [.int 4, .ref 33]))) from rfl)).trans ?_
  refine (congrArg (fun z => jm_then z _) (jk_31 (I0 := I0))).trans ?_
  show jm_go (jm_ev 999) 77 (83, [some (.ref 0), some (.int 4)], [.ref 47, .int 4, .ref 33], (jk_h I0 jk_I46 jk_T36 jk_M29)) = _
  refine (jm_go_steps 12 (show jm_steps 77 12 (83, [some (.ref 0), some (.int 4)], [.ref 47, .int 4, .ref 33], (jk_h I0 jk_I46 jk_T36 jk_M29)) = some (80, [some (.ref 0), some (.int 5)], [.int 5, .int 5, .ref 33], (jk_h I0 jk_I46 jk_T37 jk_M29)) from rfl)).trans ?_
  refine (jm_go_call (show jm_step 77 (80, [some (.ref 0), some (.int 5)], [.int 5, .int 5, .ref 33], (jk_h I0 jk_I46 jk_T37 jk_M29)) = some (.inr (.inl (126, [.int 5], [.int 5, .ref 33]))) from rfl)).trans ?_
  refine (congrArg (fun z => jm_then z _) (jk_34 (I0 := I0))).trans ?_
  show jm_go (jm_ev 999) 77 (83, [some (.ref 0), some (.int 5)], [.ref 48, .int 5, .ref 33], (jk_h I0 jk_I48 jk_T38 jk_M30)) = _
  refine (jm_go_steps 20 (show jm_steps 77 20 (83, [some (.ref 0), some (.int 5)], [.ref 48, .int 5, .ref 33], (jk_h I0 jk_I48 jk_T38 jk_M30)) = some (110, [some (.ref 0), some (.int 0)], [.ref 49, .ref 49, .int 0, .ref 34], (jk_h I0 jk_I49 jk_T39 jk_M31)) from rfl)).trans ?_
  refine (jm_go_call (show jm_step 77 (110, [some (.ref 0), some (.int 0)], [.ref 49, .ref 49, .int 0, .ref 34], (jk_h I0 jk_I49 jk_T39 jk_M31)) = some (.inr (.inl (14, [.ref 49], [.ref 49, .int 0, .ref 34]))) from rfl)).trans ?_
  refine (congrArg (fun z => jm_then z _) (jk_35 (I0 := I0))).trans ?_
  show jm_go (jm_ev 999) 77 (113, [some (.ref 0), some (.int 0)], [.ref 49, .int 0, .ref 34], (jk_h I0 jk_I50 jk_T40 jk_M32)) = _
  refine (jm_go_steps 13 (show jm_steps 77 13 (113, [some (.ref 0), some (.int 0)], [.ref 49, .int 0, .ref 34], (jk_h I0 jk_I50 jk_T40 jk_M32)) = some (110, [some (.ref 0), some (.int 1)], [.ref 51, .ref 51, .int 1, .ref 34], (jk_h I0 jk_I51 jk_T41 jk_M33)) from rfl)).trans ?_
  refine (jm_go_call (show jm_step 77 (110, [some (.ref 0), some (.int 1)], [.ref 51, .ref 51, .int 1, .ref 34], (jk_h I0 jk_I51 jk_T41 jk_M33)) = some (.inr (.inl (14, [.ref 51], [.ref 51, .int 1, .ref 34]))) from rfl)).trans ?_
  refine (congrArg (fun z => jm_then z _) (jk_36 (I0 := I0))).trans ?_
  show jm_go (jm_ev 999) 77 (113, [some (.ref 0), some (.int 1)], [.ref 51, .int 1, .ref 34], (jk_h I0 jk_I52 jk_T42 jk_M34)) = _
  refine (jm_go_steps 13 (show jm_steps 77 13 (113, [some (.ref 0), some (.int 1)], [.ref 51, .int 1, .ref 34], (jk_h I0 jk_I52 jk_T42 jk_M34)) = some (110, [some (.ref 0), some (.int 2)], [.ref 53, .ref 53, .int 2, .ref 34], (jk_h I0 jk_I53 jk_T43 jk_M35)) from rfl)).trans ?_
  refine (jm_go_call (show jm_step 77 (110, [some (.ref 0), some (.int 2)], [.ref 53, .ref 53, .int 2, .ref 34], (jk_h I0 jk_I53 jk_T43 jk_M35)) = some (.inr (.inl (14, [.ref 53], [.ref 53, .int 2, .ref 34]))) from rfl)).trans ?_
  refine (congrArg (fun z => jm_then z _) (jk_37 (I0 := I0))).trans ?_
  show jm_go (jm_ev 999) 77 (113, [some (.ref 0), some (.int 2)], [.ref 53, .int 2, .ref 34], (jk_h I0 jk_I54 jk_T44 jk_M36)) = _
  refine (jm_go_steps 13 (show jm_steps 77 13 (113, [some (.ref 0), some (.int 2)], [.ref 53, .int 2, .ref 34], (jk_h I0 jk_I54 jk_T44 jk_M36)) = some (110, [some (.ref 0), some (.int 3)], [.ref 55, .ref 55, .int 3, .ref 34], (jk_h I0 jk_I55 jk_T45 jk_M37)) from rfl)).trans ?_
  refine (jm_go_call (show jm_step 77 (110, [some (.ref 0), some (.int 3)], [.ref 55, .ref 55, .int 3, .ref 34], (jk_h I0 jk_I55 jk_T45 jk_M37)) = some (.inr (.inl (14, [.ref 55], [.ref 55, .int 3, .ref 34]))) from rfl)).trans ?_
  refine (congrArg (fun z => jm_then z _) (jk_38 (I0 := I0))).trans ?_
  show jm_go (jm_ev 999) 77 (113, [some (.ref 0), some (.int 3)], [.ref 55, .int 3, .ref 34], (jk_h I0 jk_I56 jk_T46 jk_M38)) = _
  refine (jm_go_steps 8 (show jm_steps 77 8 (113, [some (.ref 0), some (.int 3)], [.ref 55, .int 3, .ref 34], (jk_h I0 jk_I56 jk_T46 jk_M38)) = some (120, [some (.ref 0), some (.int 4)], [], (jk_h I0 jk_I56 jk_T47 jk_M38)) from rfl)).trans ?_
  exact jm_go_ret rfl
