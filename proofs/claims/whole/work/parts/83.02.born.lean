/-! the constructors, on -/
set_option maxRecDepth 20000 in
theorem jk_62 {I0 : Nat → Nat → Int32} : jm_ev 997 143 [.int 100, .int 97, .int 122] (jk_h I0 jk_I126 jk_T55 jk_M46) = some (some (.int 1), (jk_h I0 jk_I126 jk_T55 jk_M46)) := by
  refine (jk_ev (d := 996) (by decide)).trans ?_
  refine (jm_go_steps 8 (show jm_steps 143 8 (jm_entry 143 [.int 100, .int 97, .int 122] (jk_h I0 jk_I126 jk_T55 jk_M46)) = some (15, [some (.int 100), some (.int 97), some (.int 122)], [.int 1], (jk_h I0 jk_I126 jk_T55 jk_M46)) from rfl)).trans ?_
  exact jm_go_ret rfl
def jk_I127 : List (Nat × Option (Nat × Int32)) := (57, some (22, 11)) :: jk_I126
set_option maxRecDepth 20000 in
theorem jk_63 {I0 : Nat → Nat → Int32} : jm_ev 997 143 [.int 97, .int 97, .int 122] (jk_h I0 jk_I127 jk_T55 jk_M46) = some (some (.int 1), (jk_h I0 jk_I127 jk_T55 jk_M46)) := by
  refine (jk_ev (d := 996) (by decide)).trans ?_
  refine (jm_go_steps 8 (show jm_steps 143 8 (jm_entry 143 [.int 97, .int 97, .int 122] (jk_h I0 jk_I127 jk_T55 jk_M46)) = some (15, [some (.int 97), some (.int 97), some (.int 122)], [.int 1], (jk_h I0 jk_I127 jk_T55 jk_M46)) from rfl)).trans ?_
  exact jm_go_ret rfl
def jk_I128 : List (Nat × Option (Nat × Int32)) := (57, some (22, 12)) :: jk_I127
set_option maxRecDepth 20000 in
theorem jk_64 {I0 : Nat → Nat → Int32} : jm_ev 997 143 [.int 114, .int 97, .int 122] (jk_h I0 jk_I128 jk_T55 jk_M46) = some (some (.int 1), (jk_h I0 jk_I128 jk_T55 jk_M46)) := by
  refine (jk_ev (d := 996) (by decide)).trans ?_
  refine (jm_go_steps 8 (show jm_steps 143 8 (jm_entry 143 [.int 114, .int 97, .int 122] (jk_h I0 jk_I128 jk_T55 jk_M46)) = some (15, [some (.int 114), some (.int 97), some (.int 122)], [.int 1], (jk_h I0 jk_I128 jk_T55 jk_M46)) from rfl)).trans ?_
  exact jm_go_ret rfl
def jk_I129 : List (Nat × Option (Nat × Int32)) := (57, some (22, 13)) :: jk_I128
set_option maxRecDepth 20000 in
theorem jk_65 {I0 : Nat → Nat → Int32} : jm_ev 997 143 [.int 101, .int 97, .int 122] (jk_h I0 jk_I129 jk_T55 jk_M46) = some (some (.int 1), (jk_h I0 jk_I129 jk_T55 jk_M46)) := by
  refine (jk_ev (d := 996) (by decide)).trans ?_
  refine (jm_go_steps 8 (show jm_steps 143 8 (jm_entry 143 [.int 101, .int 97, .int 122] (jk_h I0 jk_I129 jk_T55 jk_M46)) = some (15, [some (.int 101), some (.int 97), some (.int 122)], [.int 1], (jk_h I0 jk_I129 jk_T55 jk_M46)) from rfl)).trans ?_
  exact jm_go_ret rfl
def jk_I130 : List (Nat × Option (Nat × Int32)) := (57, some (22, 14)) :: jk_I129
set_option maxRecDepth 20000 in
theorem jk_66 {I0 : Nat → Nat → Int32} : jm_ev 997 143 [.int 115, .int 97, .int 122] (jk_h I0 jk_I130 jk_T55 jk_M46) = some (some (.int 1), (jk_h I0 jk_I130 jk_T55 jk_M46)) := by
  refine (jk_ev (d := 996) (by decide)).trans ?_
  refine (jm_go_steps 8 (show jm_steps 143 8 (jm_entry 143 [.int 115, .int 97, .int 122] (jk_h I0 jk_I130 jk_T55 jk_M46)) = some (15, [some (.int 115), some (.int 97), some (.int 122)], [.int 1], (jk_h I0 jk_I130 jk_T55 jk_M46)) from rfl)).trans ?_
  exact jm_go_ret rfl
def jk_I131 : List (Nat × Option (Nat × Int32)) := (57, some (22, 15)) :: jk_I130
set_option maxRecDepth 20000 in
theorem jk_67 {I0 : Nat → Nat → Int32} : jm_ev 997 143 [.int 32, .int 97, .int 122] (jk_h I0 jk_I131 jk_T55 jk_M46) = some (some (.int 0), (jk_h I0 jk_I131 jk_T55 jk_M46)) := by
  refine (jk_ev (d := 996) (by decide)).trans ?_
  refine (jm_go_steps 4 (show jm_steps 143 4 (jm_entry 143 [.int 32, .int 97, .int 122] (jk_h I0 jk_I131 jk_T55 jk_M46)) = some (15, [some (.int 32), some (.int 97), some (.int 122)], [.int 0], (jk_h I0 jk_I131 jk_T55 jk_M46)) from rfl)).trans ?_
  exact jm_go_ret rfl
set_option maxRecDepth 20000 in
theorem jk_68 {I0 : Nat → Nat → Int32} : jm_ev 997 158 [.ref 57, .int 10, .int 15] (jk_h I0 jk_I131 jk_T55 jk_M46) = some (some (.int 1), (jk_h I0 jk_I131 jk_T55 jk_M46)) := by
  refine (jk_ev (d := 996) (by decide)).trans ?_
  refine (jm_go_steps 24 (show jm_steps 158 24 (jm_entry 158 [.ref 57, .int 10, .int 15] (jk_h I0 jk_I131 jk_T55 jk_M46)) = some (45, [some (.ref 57), some (.int 10), some (.int 15), some (.int 0), some (.int 1), some (.int 0)], [.int 0, .int 8, .ref 73], (jk_h I0 jk_I131 jk_T55 jk_M46)) from rfl)).trans ?_
  refine (jm_go_steps 24 (show jm_steps 158 24 (45, [some (.ref 57), some (.int 10), some (.int 15), some (.int 0), some (.int 1), some (.int 0)], [.int 0, .int 8, .ref 73], (jk_h I0 jk_I131 jk_T55 jk_M46)) = some (33, [some (.ref 57), some (.int 10), some (.int 15), some (.int 0), some (.int 0), some (.int 1)], [], (jk_h I0 jk_I131 jk_T55 jk_M46)) from rfl)).trans ?_
  refine (jm_go_steps 24 (show jm_steps 158 24 (33, [some (.ref 57), some (.int 10), some (.int 15), some (.int 0), some (.int 0), some (.int 1)], [], (jk_h I0 jk_I131 jk_T55 jk_M46)) = some (38, [some (.ref 57), some (.int 10), some (.int 15), some (.int 1), some (.int 1), some (.int 0)], [], (jk_h I0 jk_I131 jk_T55 jk_M46)) from rfl)).trans ?_
  refine (jm_go_steps 24 (show jm_steps 158 24 (38, [some (.ref 57), some (.int 10), some (.int 15), some (.int 1), some (.int 1), some (.int 0)], [], (jk_h I0 jk_I131 jk_T55 jk_M46)) = some (82, [some (.ref 57), some (.int 10), some (.int 15), some (.int 1), some (.int 1), some (.int 0)], [], (jk_h I0 jk_I131 jk_T55 jk_M46)) from rfl)).trans ?_
  refine (jm_go_steps 24 (show jm_steps 158 24 (82, [some (.ref 57), some (.int 10), some (.int 15), some (.int 1), some (.int 1), some (.int 0)], [], (jk_h I0 jk_I131 jk_T55 jk_M46)) = some (65, [some (.ref 57), some (.int 10), some (.int 15), some (.int 1), some (.int 1), some (.int 1)], [.int 1, .int 10, .ref 64, .int 97], (jk_h I0 jk_I131 jk_T55 jk_M46)) from rfl)).trans ?_
  refine (jm_go_steps 24 (show jm_steps 158 24 (65, [some (.ref 57), some (.int 10), some (.int 15), some (.int 1), some (.int 1), some (.int 1)], [.int 1, .int 10, .ref 64, .int 97], (jk_h I0 jk_I131 jk_T55 jk_M46)) = some (53, [some (.ref 57), some (.int 10), some (.int 15), some (.int 1), some (.int 1), some (.int 2)], [.int 2, .int 10, .int 114], (jk_h I0 jk_I131 jk_T55 jk_M46)) from rfl)).trans ?_
  refine (jm_go_steps 24 (show jm_steps 158 24 (53, [some (.ref 57), some (.int 10), some (.int 15), some (.int 1), some (.int 1), some (.int 2)], [.int 2, .int 10, .int 114], (jk_h I0 jk_I131 jk_T55 jk_M46)) = some (44, [some (.ref 57), some (.int 10), some (.int 15), some (.int 1), some (.int 1), some (.int 3)], [.int 8, .ref 73], (jk_h I0 jk_I131 jk_T55 jk_M46)) from rfl)).trans ?_
  refine (jm_go_steps 24 (show jm_steps 158 24 (44, [some (.ref 57), some (.int 10), some (.int 15), some (.int 1), some (.int 1), some (.int 3)], [.int 8, .ref 73], (jk_h I0 jk_I131 jk_T55 jk_M46)) = some (28, [some (.ref 57), some (.int 10), some (.int 15), some (.int 1), some (.int 1), some (.int 4)], [.int 4], (jk_h I0 jk_I131 jk_T55 jk_M46)) from rfl)).trans ?_
  refine (jm_go_steps 24 (show jm_steps 158 24 (28, [some (.ref 57), some (.int 10), some (.int 15), some (.int 1), some (.int 1), some (.int 4)], [.int 4], (jk_h I0 jk_I131 jk_T55 jk_M46)) = some (72, [some (.ref 57), some (.int 10), some (.int 15), some (.int 1), some (.int 1), some (.int 4)], [.int 115, .int 115], (jk_h I0 jk_I131 jk_T55 jk_M46)) from rfl)).trans ?_
  refine (jm_go_steps 24 (show jm_steps 158 24 (72, [some (.ref 57), some (.int 10), some (.int 15), some (.int 1), some (.int 1), some (.int 4)], [.int 115, .int 115], (jk_h I0 jk_I131 jk_T55 jk_M46)) = some (70, [some (.ref 57), some (.int 10), some (.int 15), some (.int 1), some (.int 1), some (.int 5)], [.int 32], (jk_h I0 jk_I131 jk_T55 jk_M46)) from rfl)).trans ?_
  refine (jm_go_steps 24 (show jm_steps 158 24 (70, [some (.ref 57), some (.int 10), some (.int 15), some (.int 1), some (.int 1), some (.int 5)], [.int 32], (jk_h I0 jk_I131 jk_T55 jk_M46)) = some (55, [some (.ref 57), some (.int 10), some (.int 15), some (.int 1), some (.int 1), some (.int 6)], [.int 15, .int 16, .int 32], (jk_h I0 jk_I131 jk_T55 jk_M46)) from rfl)).trans ?_
  refine (jm_go_steps 24 (show jm_steps 158 24 (55, [some (.ref 57), some (.int 10), some (.int 15), some (.int 1), some (.int 1), some (.int 6)], [.int 15, .int 16, .int 32], (jk_h I0 jk_I131 jk_T55 jk_M46)) = some (54, [some (.ref 57), some (.int 10), some (.int 15), some (.int 1), some (.int 1), some (.int 7)], [.int 17, .int 32], (jk_h I0 jk_I131 jk_T55 jk_M46)) from rfl)).trans ?_
  refine (jm_go_steps 15 (show jm_steps 158 15 (54, [some (.ref 57), some (.int 10), some (.int 15), some (.int 1), some (.int 1), some (.int 7)], [.int 17, .int 32], (jk_h I0 jk_I131 jk_T55 jk_M46)) = some (94, [some (.ref 57), some (.int 10), some (.int 15), some (.int 1), some (.int 1), some (.int 8)], [.int 1], (jk_h I0 jk_I131 jk_T55 jk_M46)) from rfl)).trans ?_
  exact jm_go_ret rfl
def jk_I132 : List (Nat × Option (Nat × Int32)) := (57, some (24, 3)) :: jk_I131
def jk_I133 : List (Nat × Option (Nat × Int32)) := (57, some (25, 1)) :: jk_I132
set_option maxRecDepth 20000 in
theorem jk_69 {I0 : Nat → Nat → Int32} : jm_ev 998 159 [.ref 57] (jk_h I0 jk_I123 jk_T55 jk_M46) = some (none, (jk_h I0 jk_I133 jk_T55 jk_M46)) := by
  refine (jk_ev (d := 997) (by decide)).trans ?_
  refine (jm_go_steps 6 (show jm_steps 159 6 (jm_entry 159 [.ref 57] (jk_h I0 jk_I123 jk_T55 jk_M46)) = some (12, [some (.ref 57), none, none], [.ref 57], (jk_h I0 jk_I123 jk_T55 jk_M46)) from rfl)).trans ?_
  refine (jm_go_steps 4 (show jm_steps 159 4 (12, [some (.ref 57), none, none], [.ref 57], (jk_h I0 jk_I123 jk_T55 jk_M46)) = some (20, [some (.ref 57), none, none], [.int 32], (jk_h I0 jk_I123 jk_T55 jk_M46)) from rfl)).trans ?_
  refine (jm_go_steps 6 (show jm_steps 159 6 (20, [some (.ref 57), none, none], [.int 32], (jk_h I0 jk_I123 jk_T55 jk_M46)) = some (45, [some (.ref 57), none, none], [.int 1, .int 9, .ref 57], (jk_h I0 jk_I123 jk_T55 jk_M46)) from rfl)).trans ?_
  refine (jm_go_steps 1 (show jm_steps 159 1 (45, [some (.ref 57), none, none], [.int 1, .int 9, .ref 57], (jk_h I0 jk_I123 jk_T55 jk_M46)) = some (46, [some (.ref 57), none, none], [.int 10, .ref 57], (jk_h I0 jk_I123 jk_T55 jk_M46)) from rfl)).trans ?_
  refine (jm_go_steps 6 (show jm_steps 159 6 (46, [some (.ref 57), none, none], [.int 10, .ref 57], (jk_h I0 jk_I123 jk_T55 jk_M46)) = some (8, [some (.ref 57), none, none], [.int 30, .int 10], (jk_h I0 jk_I124 jk_T55 jk_M46)) from rfl)).trans ?_
  refine (jm_go_steps 6 (show jm_steps 159 6 (8, [some (.ref 57), none, none], [.int 30, .int 10], (jk_h I0 jk_I124 jk_T55 jk_M46)) = some (20, [some (.ref 57), none, none], [.int 100], (jk_h I0 jk_I124 jk_T55 jk_M46)) from rfl)).trans ?_
  refine (jm_go_steps 6 (show jm_steps 159 6 (20, [some (.ref 57), none, none], [.int 100], (jk_h I0 jk_I124 jk_T55 jk_M46)) = some (33, [some (.ref 57), none, none], [.int 10, .ref 64], (jk_h I0 jk_I124 jk_T55 jk_M46)) from rfl)).trans ?_
  refine (jm_go_steps 1 (show jm_steps 159 1 (33, [some (.ref 57), none, none], [.int 10, .ref 64], (jk_h I0 jk_I124 jk_T55 jk_M46)) = some (34, [some (.ref 57), none, none], [.int 100], (jk_h I0 jk_I124 jk_T55 jk_M46)) from rfl)).trans ?_
  refine (jm_go_steps 6 (show jm_steps 159 6 (34, [some (.ref 57), none, none], [.int 100], (jk_h I0 jk_I124 jk_T55 jk_M46)) = some (60, [some (.ref 57), none, none], [], (jk_h I0 jk_I125 jk_T55 jk_M46)) from rfl)).trans ?_
  refine (jm_go_steps 6 (show jm_steps 159 6 (60, [some (.ref 57), none, none], [], (jk_h I0 jk_I125 jk_T55 jk_M46)) = some (70, [some (.ref 57), none, none], [], (jk_h I0 jk_I126 jk_T55 jk_M46)) from rfl)).trans ?_
  refine (jm_go_steps 6 (show jm_steps 159 6 (70, [some (.ref 57), none, none], [], (jk_h I0 jk_I126 jk_T55 jk_M46)) = some (83, [some (.ref 57), none, none], [.ref 57], (jk_h I0 jk_I126 jk_T55 jk_M46)) from rfl)).trans ?_
  refine (jm_go_steps 4 (show jm_steps 159 4 (83, [some (.ref 57), none, none], [.ref 57], (jk_h I0 jk_I126 jk_T55 jk_M46)) = some (91, [some (.ref 57), none, none], [.int 100], (jk_h I0 jk_I126 jk_T55 jk_M46)) from rfl)).trans ?_
  refine (jm_go_steps 4 (show jm_steps 159 4 (91, [some (.ref 57), none, none], [.int 100], (jk_h I0 jk_I126 jk_T55 jk_M46)) = some (97, [some (.ref 57), some (.int 100), none], [.int 122, .int 97, .int 100], (jk_h I0 jk_I126 jk_T55 jk_M46)) from rfl)).trans ?_
  refine (jm_go_call (show jm_step 159 (97, [some (.ref 57), some (.int 100), none], [.int 122, .int 97, .int 100], (jk_h I0 jk_I126 jk_T55 jk_M46)) = some (.inr (.inl (143, [.int 100, .int 97, .int 122], []))) from rfl)).trans ?_
  refine (congrArg (fun z => jm_then z _) (jk_61 (I0 := I0))).trans ?_
  show jm_go (jm_ev 997) 159 (100, [some (.ref 57), some (.int 100), none], [.int 1], (jk_h I0 jk_I126 jk_T55 jk_M46)) = _
  refine (jm_go_steps 6 (show jm_steps 159 6 (100, [some (.ref 57), some (.int 100), none], [.int 1], (jk_h I0 jk_I126 jk_T55 jk_M46)) = some (114, [some (.ref 57), some (.int 100), none], [], (jk_h I0 jk_I126 jk_T55 jk_M46)) from rfl)).trans ?_
  refine (jm_go_steps 5 (show jm_steps 159 5 (114, [some (.ref 57), some (.int 100), none], [], (jk_h I0 jk_I126 jk_T55 jk_M46)) = some (123, [some (.ref 57), some (.int 100), none], [.int 100], (jk_h I0 jk_I126 jk_T55 jk_M46)) from rfl)).trans ?_
  refine (jm_go_steps 2 (show jm_steps 159 2 (123, [some (.ref 57), some (.int 100), none], [.int 100], (jk_h I0 jk_I126 jk_T55 jk_M46)) = some (127, [some (.ref 57), some (.int 100), none], [.int 122, .int 97, .int 100], (jk_h I0 jk_I126 jk_T55 jk_M46)) from rfl)).trans ?_
  refine (jm_go_call (show jm_step 159 (127, [some (.ref 57), some (.int 100), none], [.int 122, .int 97, .int 100], (jk_h I0 jk_I126 jk_T55 jk_M46)) = some (.inr (.inl (143, [.int 100, .int 97, .int 122], []))) from rfl)).trans ?_
  refine (congrArg (fun z => jm_then z _) (jk_62 (I0 := I0))).trans ?_
  show jm_go (jm_ev 997) 159 (130, [some (.ref 57), some (.int 100), none], [.int 1], (jk_h I0 jk_I126 jk_T55 jk_M46)) = _
  refine (jm_go_steps 6 (show jm_steps 159 6 (130, [some (.ref 57), some (.int 100), none], [.int 1], (jk_h I0 jk_I126 jk_T55 jk_M46)) = some (140, [some (.ref 57), some (.int 100), none], [.int 11, .ref 57], (jk_h I0 jk_I126 jk_T55 jk_M46)) from rfl)).trans ?_
  refine (jm_go_steps 6 (show jm_steps 159 6 (140, [some (.ref 57), some (.int 100), none], [.int 11, .ref 57], (jk_h I0 jk_I126 jk_T55 jk_M46)) = some (111, [some (.ref 57), some (.int 100), none], [.int 30, .int 11], (jk_h I0 jk_I127 jk_T55 jk_M46)) from rfl)).trans ?_
  refine (jm_go_steps 6 (show jm_steps 159 6 (111, [some (.ref 57), some (.int 100), none], [.int 30, .int 11], (jk_h I0 jk_I127 jk_T55 jk_M46)) = some (123, [some (.ref 57), some (.int 100), none], [.int 97], (jk_h I0 jk_I127 jk_T55 jk_M46)) from rfl)).trans ?_
  refine (jm_go_steps 2 (show jm_steps 159 2 (123, [some (.ref 57), some (.int 100), none], [.int 97], (jk_h I0 jk_I127 jk_T55 jk_M46)) = some (127, [some (.ref 57), some (.int 100), none], [.int 122, .int 97, .int 97], (jk_h I0 jk_I127 jk_T55 jk_M46)) from rfl)).trans ?_
  refine (jm_go_call (show jm_step 159 (127, [some (.ref 57), some (.int 100), none], [.int 122, .int 97, .int 97], (jk_h I0 jk_I127 jk_T55 jk_M46)) = some (.inr (.inl (143, [.int 97, .int 97, .int 122], []))) from rfl)).trans ?_
  refine (congrArg (fun z => jm_then z _) (jk_63 (I0 := I0))).trans ?_
  show jm_go (jm_ev 997) 159 (130, [some (.ref 57), some (.int 100), none], [.int 1], (jk_h I0 jk_I127 jk_T55 jk_M46)) = _
  refine (jm_go_steps 6 (show jm_steps 159 6 (130, [some (.ref 57), some (.int 100), none], [.int 1], (jk_h I0 jk_I127 jk_T55 jk_M46)) = some (140, [some (.ref 57), some (.int 100), none], [.int 12, .ref 57], (jk_h I0 jk_I127 jk_T55 jk_M46)) from rfl)).trans ?_
  refine (jm_go_steps 6 (show jm_steps 159 6 (140, [some (.ref 57), some (.int 100), none], [.int 12, .ref 57], (jk_h I0 jk_I127 jk_T55 jk_M46)) = some (111, [some (.ref 57), some (.int 100), none], [.int 30, .int 12], (jk_h I0 jk_I128 jk_T55 jk_M46)) from rfl)).trans ?_
  refine (jm_go_steps 6 (show jm_steps 159 6 (111, [some (.ref 57), some (.int 100), none], [.int 30, .int 12], (jk_h I0 jk_I128 jk_T55 jk_M46)) = some (123, [some (.ref 57), some (.int 100), none], [.int 114], (jk_h I0 jk_I128 jk_T55 jk_M46)) from rfl)).trans ?_
  refine (jm_go_steps 2 (show jm_steps 159 2 (123, [some (.ref 57), some (.int 100), none], [.int 114], (jk_h I0 jk_I128 jk_T55 jk_M46)) = some (127, [some (.ref 57), some (.int 100), none], [.int 122, .int 97, .int 114], (jk_h I0 jk_I128 jk_T55 jk_M46)) from rfl)).trans ?_
  refine (jm_go_call (show jm_step 159 (127, [some (.ref 57), some (.int 100), none], [.int 122, .int 97, .int 114], (jk_h I0 jk_I128 jk_T55 jk_M46)) = some (.inr (.inl (143, [.int 114, .int 97, .int 122], []))) from rfl)).trans ?_
  refine (congrArg (fun z => jm_then z _) (jk_64 (I0 := I0))).trans ?_
  show jm_go (jm_ev 997) 159 (130, [some (.ref 57), some (.int 100), none], [.int 1], (jk_h I0 jk_I128 jk_T55 jk_M46)) = _
  refine (jm_go_steps 6 (show jm_steps 159 6 (130, [some (.ref 57), some (.int 100), none], [.int 1], (jk_h I0 jk_I128 jk_T55 jk_M46)) = some (140, [some (.ref 57), some (.int 100), none], [.int 13, .ref 57], (jk_h I0 jk_I128 jk_T55 jk_M46)) from rfl)).trans ?_
  refine (jm_go_steps 6 (show jm_steps 159 6 (140, [some (.ref 57), some (.int 100), none], [.int 13, .ref 57], (jk_h I0 jk_I128 jk_T55 jk_M46)) = some (111, [some (.ref 57), some (.int 100), none], [.int 30, .int 13], (jk_h I0 jk_I129 jk_T55 jk_M46)) from rfl)).trans ?_
  refine (jm_go_steps 6 (show jm_steps 159 6 (111, [some (.ref 57), some (.int 100), none], [.int 30, .int 13], (jk_h I0 jk_I129 jk_T55 jk_M46)) = some (123, [some (.ref 57), some (.int 100), none], [.int 101], (jk_h I0 jk_I129 jk_T55 jk_M46)) from rfl)).trans ?_
  refine (jm_go_steps 2 (show jm_steps 159 2 (123, [some (.ref 57), some (.int 100), none], [.int 101], (jk_h I0 jk_I129 jk_T55 jk_M46)) = some (127, [some (.ref 57), some (.int 100), none], [.int 122, .int 97, .int 101], (jk_h I0 jk_I129 jk_T55 jk_M46)) from rfl)).trans ?_
  refine (jm_go_call (show jm_step 159 (127, [some (.ref 57), some (.int 100), none], [.int 122, .int 97, .int 101], (jk_h I0 jk_I129 jk_T55 jk_M46)) = some (.inr (.inl (143, [.int 101, .int 97, .int 122], []))) from rfl)).trans ?_
  refine (congrArg (fun z => jm_then z _) (jk_65 (I0 := I0))).trans ?_
  show jm_go (jm_ev 997) 159 (130, [some (.ref 57), some (.int 100), none], [.int 1], (jk_h I0 jk_I129 jk_T55 jk_M46)) = _
  refine (jm_go_steps 6 (show jm_steps 159 6 (130, [some (.ref 57), some (.int 100), none], [.int 1], (jk_h I0 jk_I129 jk_T55 jk_M46)) = some (140, [some (.ref 57), some (.int 100), none], [.int 14, .ref 57], (jk_h I0 jk_I129 jk_T55 jk_M46)) from rfl)).trans ?_
  refine (jm_go_steps 6 (show jm_steps 159 6 (140, [some (.ref 57), some (.int 100), none], [.int 14, .ref 57], (jk_h I0 jk_I129 jk_T55 jk_M46)) = some (111, [some (.ref 57), some (.int 100), none], [.int 30, .int 14], (jk_h I0 jk_I130 jk_T55 jk_M46)) from rfl)).trans ?_
  refine (jm_go_steps 6 (show jm_steps 159 6 (111, [some (.ref 57), some (.int 100), none], [.int 30, .int 14], (jk_h I0 jk_I130 jk_T55 jk_M46)) = some (123, [some (.ref 57), some (.int 100), none], [.int 115], (jk_h I0 jk_I130 jk_T55 jk_M46)) from rfl)).trans ?_
  refine (jm_go_steps 2 (show jm_steps 159 2 (123, [some (.ref 57), some (.int 100), none], [.int 115], (jk_h I0 jk_I130 jk_T55 jk_M46)) = some (127, [some (.ref 57), some (.int 100), none], [.int 122, .int 97, .int 115], (jk_h I0 jk_I130 jk_T55 jk_M46)) from rfl)).trans ?_
  refine (jm_go_call (show jm_step 159 (127, [some (.ref 57), some (.int 100), none], [.int 122, .int 97, .int 115], (jk_h I0 jk_I130 jk_T55 jk_M46)) = some (.inr (.inl (143, [.int 115, .int 97, .int 122], []))) from rfl)).trans ?_
  refine (congrArg (fun z => jm_then z _) (jk_66 (I0 := I0))).trans ?_
  show jm_go (jm_ev 997) 159 (130, [some (.ref 57), some (.int 100), none], [.int 1], (jk_h I0 jk_I130 jk_T55 jk_M46)) = _
  refine (jm_go_steps 6 (show jm_steps 159 6 (130, [some (.ref 57), some (.int 100), none], [.int 1], (jk_h I0 jk_I130 jk_T55 jk_M46)) = some (140, [some (.ref 57), some (.int 100), none], [.int 15, .ref 57], (jk_h I0 jk_I130 jk_T55 jk_M46)) from rfl)).trans ?_
  refine (jm_go_steps 6 (show jm_steps 159 6 (140, [some (.ref 57), some (.int 100), none], [.int 15, .ref 57], (jk_h I0 jk_I130 jk_T55 jk_M46)) = some (111, [some (.ref 57), some (.int 100), none], [.int 30, .int 15], (jk_h I0 jk_I131 jk_T55 jk_M46)) from rfl)).trans ?_
  refine (jm_go_steps 6 (show jm_steps 159 6 (111, [some (.ref 57), some (.int 100), none], [.int 30, .int 15], (jk_h I0 jk_I131 jk_T55 jk_M46)) = some (123, [some (.ref 57), some (.int 100), none], [.int 32], (jk_h I0 jk_I131 jk_T55 jk_M46)) from rfl)).trans ?_
  refine (jm_go_steps 2 (show jm_steps 159 2 (123, [some (.ref 57), some (.int 100), none], [.int 32], (jk_h I0 jk_I131 jk_T55 jk_M46)) = some (127, [some (.ref 57), some (.int 100), none], [.int 122, .int 97, .int 32], (jk_h I0 jk_I131 jk_T55 jk_M46)) from rfl)).trans ?_
  refine (jm_go_call (show jm_step 159 (127, [some (.ref 57), some (.int 100), none], [.int 122, .int 97, .int 32], (jk_h I0 jk_I131 jk_T55 jk_M46)) = some (.inr (.inl (143, [.int 32, .int 97, .int 122], []))) from rfl)).trans ?_
  refine (congrArg (fun z => jm_then z _) (jk_67 (I0 := I0))).trans ?_
  show jm_go (jm_ev 997) 159 (130, [some (.ref 57), some (.int 100), none], [.int 0], (jk_h I0 jk_I131 jk_T55 jk_M46)) = _
  refine (jm_go_steps 6 (show jm_steps 159 6 (130, [some (.ref 57), some (.int 100), none], [.int 0], (jk_h I0 jk_I131 jk_T55 jk_M46)) = some (155, [some (.ref 57), some (.int 100), none], [.int 15, .int 10, .ref 57], (jk_h I0 jk_I131 jk_T55 jk_M46)) from rfl)).trans ?_
  refine (jm_go_call (show jm_step 159 (155, [some (.ref 57), some (.int 100), none], [.int 15, .int 10, .ref 57], (jk_h I0 jk_I131 jk_T55 jk_M46)) = some (.inr (.inl (158, [.ref 57, .int 10, .int 15], []))) from rfl)).trans ?_
  refine (congrArg (fun z => jm_then z _) (jk_68 (I0 := I0))).trans ?_
  show jm_go (jm_ev 997) 159 (158, [some (.ref 57), some (.int 100), none], [.int 1], (jk_h I0 jk_I131 jk_T55 jk_M46)) = _
  refine (jm_go_steps 6 (show jm_steps 159 6 (158, [some (.ref 57), some (.int 100), none], [.int 1], (jk_h I0 jk_I131 jk_T55 jk_M46)) = some (166, [some (.ref 57), some (.int 100), some (.int 1)], [.int 3, .ref 57], (jk_h I0 jk_I131 jk_T55 jk_M46)) from rfl)).trans ?_
  refine (jm_go_steps 6 (show jm_steps 159 6 (166, [some (.ref 57), some (.int 100), some (.int 1)], [.int 3, .ref 57], (jk_h I0 jk_I131 jk_T55 jk_M46)) = some (204, [some (.ref 57), some (.int 100), some (.int 1)], [.ref 57], (jk_h I0 jk_I132 jk_T55 jk_M46)) from rfl)).trans ?_
  refine (jm_go_steps 4 (show jm_steps 159 4 (204, [some (.ref 57), some (.int 100), some (.int 1)], [.ref 57], (jk_h I0 jk_I132 jk_T55 jk_M46)) = some (403, [some (.ref 57), some (.int 100), some (.int 1)], [], (jk_h I0 jk_I133 jk_T55 jk_M46)) from rfl)).trans ?_
  exact jm_go_ret rfl
def jk_I134 : List (Nat × Option (Nat × Int32)) := (66, some (1, 1)) :: jk_I133
def jk_I135 : List (Nat × Option (Nat × Int32)) := (57, some (29, 0)) :: (57, some (28, 0)) :: jk_I134
def jk_I136 : List (Nat × Option (Nat × Int32)) := (57, some (22, 16)) :: jk_I135
def jk_I137 : List (Nat × Option (Nat × Int32)) := (57, some (23, 16)) :: jk_I136
def jk_I138 : List (Nat × Option (Nat × Int32)) := (57, some (25, 0)) :: (57, some (24, 0)) :: jk_I137
set_option maxRecDepth 20000 in
theorem jk_70 {I0 : Nat → Nat → Int32} : jm_ev 996 143 [.int 49, .int 97, .int 122] (jk_h I0 jk_I138 jk_T55 jk_M46) = some (some (.int 0), (jk_h I0 jk_I138 jk_T55 jk_M46)) := by
  refine (jk_ev (d := 995) (by decide)).trans ?_
  refine (jm_go_steps 4 (show jm_steps 143 4 (jm_entry 143 [.int 49, .int 97, .int 122] (jk_h I0 jk_I138 jk_T55 jk_M46)) = some (15, [some (.int 49), some (.int 97), some (.int 122)], [.int 0], (jk_h I0 jk_I138 jk_T55 jk_M46)) from rfl)).trans ?_
  exact jm_go_ret rfl
set_option maxRecDepth 20000 in
theorem jk_71 {I0 : Nat → Nat → Int32} : jm_ev 996 143 [.int 49, .int 48, .int 57] (jk_h I0 jk_I138 jk_T55 jk_M46) = some (some (.int 1), (jk_h I0 jk_I138 jk_T55 jk_M46)) := by
  refine (jk_ev (d := 995) (by decide)).trans ?_
  refine (jm_go_steps 8 (show jm_steps 143 8 (jm_entry 143 [.int 49, .int 48, .int 57] (jk_h I0 jk_I138 jk_T55 jk_M46)) = some (15, [some (.int 49), some (.int 48), some (.int 57)], [.int 1], (jk_h I0 jk_I138 jk_T55 jk_M46)) from rfl)).trans ?_
  exact jm_go_ret rfl
set_option maxRecDepth 20000 in
theorem jk_72 {I0 : Nat → Nat → Int32} : jm_ev 996 143 [.int 49, .int 48, .int 57] (jk_h I0 jk_I138 jk_T55 jk_M46) = some (some (.int 1), (jk_h I0 jk_I138 jk_T55 jk_M46)) := by
  refine (jk_ev (d := 995) (by decide)).trans ?_
  refine (jm_go_steps 8 (show jm_steps 143 8 (jm_entry 143 [.int 49, .int 48, .int 57] (jk_h I0 jk_I138 jk_T55 jk_M46)) = some (15, [some (.int 49), some (.int 48), some (.int 57)], [.int 1], (jk_h I0 jk_I138 jk_T55 jk_M46)) from rfl)).trans ?_
  exact jm_go_ret rfl
def jk_I139 : List (Nat × Option (Nat × Int32)) := (57, some (25, 1)) :: jk_I138
def jk_I140 : List (Nat × Option (Nat × Int32)) := (57, some (22, 17)) :: jk_I139
set_option maxRecDepth 20000 in
theorem jk_73 {I0 : Nat → Nat → Int32} : jm_ev 996 143 [.int 32, .int 48, .int 57] (jk_h I0 jk_I140 jk_T55 jk_M46) = some (some (.int 0), (jk_h I0 jk_I140 jk_T55 jk_M46)) := by
  refine (jk_ev (d := 995) (by decide)).trans ?_
  refine (jm_go_steps 4 (show jm_steps 143 4 (jm_entry 143 [.int 32, .int 48, .int 57] (jk_h I0 jk_I140 jk_T55 jk_M46)) = some (15, [some (.int 32), some (.int 48), some (.int 57)], [.int 0], (jk_h I0 jk_I140 jk_T55 jk_M46)) from rfl)).trans ?_
  exact jm_go_ret rfl
def jk_I141 : List (Nat × Option (Nat × Int32)) := (57, some (24, 1)) :: jk_I140
set_option maxRecDepth 20000 in
theorem jk_74 {I0 : Nat → Nat → Int32} : jm_ev 997 159 [.ref 57] (jk_h I0 jk_I135 jk_T55 jk_M46) = some (none, (jk_h I0 jk_I141 jk_T55 jk_M46)) := by
  refine (jk_ev (d := 996) (by decide)).trans ?_
  refine (jm_go_steps 6 (show jm_steps 159 6 (jm_entry 159 [.ref 57] (jk_h I0 jk_I135 jk_T55 jk_M46)) = some (12, [some (.ref 57), none, none], [.ref 57], (jk_h I0 jk_I135 jk_T55 jk_M46)) from rfl)).trans ?_
  refine (jm_go_steps 4 (show jm_steps 159 4 (12, [some (.ref 57), none, none], [.ref 57], (jk_h I0 jk_I135 jk_T55 jk_M46)) = some (20, [some (.ref 57), none, none], [.int 32], (jk_h I0 jk_I135 jk_T55 jk_M46)) from rfl)).trans ?_
  refine (jm_go_steps 6 (show jm_steps 159 6 (20, [some (.ref 57), none, none], [.int 32], (jk_h I0 jk_I135 jk_T55 jk_M46)) = some (45, [some (.ref 57), none, none], [.int 1, .int 15, .ref 57], (jk_h I0 jk_I135 jk_T55 jk_M46)) from rfl)).trans ?_
  refine (jm_go_steps 1 (show jm_steps 159 1 (45, [some (.ref 57), none, none], [.int 1, .int 15, .ref 57], (jk_h I0 jk_I135 jk_T55 jk_M46)) = some (46, [some (.ref 57), none, none], [.int 16, .ref 57], (jk_h I0 jk_I135 jk_T55 jk_M46)) from rfl)).trans ?_
  refine (jm_go_steps 6 (show jm_steps 159 6 (46, [some (.ref 57), none, none], [.int 16, .ref 57], (jk_h I0 jk_I135 jk_T55 jk_M46)) = some (8, [some (.ref 57), none, none], [.int 30, .int 16], (jk_h I0 jk_I136 jk_T55 jk_M46)) from rfl)).trans ?_
  refine (jm_go_steps 6 (show jm_steps 159 6 (8, [some (.ref 57), none, none], [.int 30, .int 16], (jk_h I0 jk_I136 jk_T55 jk_M46)) = some (20, [some (.ref 57), none, none], [.int 49], (jk_h I0 jk_I136 jk_T55 jk_M46)) from rfl)).trans ?_
  refine (jm_go_steps 6 (show jm_steps 159 6 (20, [some (.ref 57), none, none], [.int 49], (jk_h I0 jk_I136 jk_T55 jk_M46)) = some (33, [some (.ref 57), none, none], [.int 16, .ref 64], (jk_h I0 jk_I136 jk_T55 jk_M46)) from rfl)).trans ?_
  refine (jm_go_steps 1 (show jm_steps 159 1 (33, [some (.ref 57), none, none], [.int 16, .ref 64], (jk_h I0 jk_I136 jk_T55 jk_M46)) = some (34, [some (.ref 57), none, none], [.int 49], (jk_h I0 jk_I136 jk_T55 jk_M46)) from rfl)).trans ?_
  refine (jm_go_steps 6 (show jm_steps 159 6 (34, [some (.ref 57), none, none], [.int 49], (jk_h I0 jk_I136 jk_T55 jk_M46)) = some (60, [some (.ref 57), none, none], [], (jk_h I0 jk_I137 jk_T55 jk_M46)) from rfl)).trans ?_
  refine (jm_go_steps 6 (show jm_steps 159 6 (60, [some (.ref 57), none, none], [], (jk_h I0 jk_I137 jk_T55 jk_M46)) = some (70, [some (.ref 57), none, none], [], (jk_h I0 jk_I138 jk_T55 jk_M46)) from rfl)).trans ?_
  refine (jm_go_steps 6 (show jm_steps 159 6 (70, [some (.ref 57), none, none], [], (jk_h I0 jk_I138 jk_T55 jk_M46)) = some (83, [some (.ref 57), none, none], [.ref 57], (jk_h I0 jk_I138 jk_T55 jk_M46)) from rfl)).trans ?_
  refine (jm_go_steps 4 (show jm_steps 159 4 (83, [some (.ref 57), none, none], [.ref 57], (jk_h I0 jk_I138 jk_T55 jk_M46)) = some (91, [some (.ref 57), none, none], [.int 49], (jk_h I0 jk_I138 jk_T55 jk_M46)) from rfl)).trans ?_
  refine (jm_go_steps 4 (show jm_steps 159 4 (91, [some (.ref 57), none, none], [.int 49], (jk_h I0 jk_I138 jk_T55 jk_M46)) = some (97, [some (.ref 57), some (.int 49), none], [.int 122, .int 97, .int 49], (jk_h I0 jk_I138 jk_T55 jk_M46)) from rfl)).trans ?_
  refine (jm_go_call (show jm_step 159 (97, [some (.ref 57), some (.int 49), none], [.int 122, .int 97, .int 49], (jk_h I0 jk_I138 jk_T55 jk_M46)) = some (.inr (.inl (143, [.int 49, .int 97, .int 122], []))) from rfl)).trans ?_
  refine (congrArg (fun z => jm_then z _) (jk_70 (I0 := I0))).trans ?_
  show jm_go (jm_ev 996) 159 (100, [some (.ref 57), some (.int 49), none], [.int 0], (jk_h I0 jk_I138 jk_T55 jk_M46)) = _
  refine (jm_go_steps 4 (show jm_steps 159 4 (100, [some (.ref 57), some (.int 49), none], [.int 0], (jk_h I0 jk_I138 jk_T55 jk_M46)) = some (222, [some (.ref 57), some (.int 49), none], [.int 57, .int 48, .int 49], (jk_h I0 jk_I138 jk_T55 jk_M46)) from rfl)).trans ?_
  refine (jm_go_call (show jm_step 159 (222, [some (.ref 57), some (.int 49), none], [.int 57, .int 48, .int 49], (jk_h I0 jk_I138 jk_T55 jk_M46)) = some (.inr (.inl (143, [.int 49, .int 48, .int 57], []))) from rfl)).trans ?_
  refine (congrArg (fun z => jm_then z _) (jk_71 (I0 := I0))).trans ?_
  show jm_go (jm_ev 996) 159 (225, [some (.ref 57), some (.int 49), none], [.int 1], (jk_h I0 jk_I138 jk_T55 jk_M46)) = _
  refine (jm_go_steps 6 (show jm_steps 159 6 (225, [some (.ref 57), some (.int 49), none], [.int 1], (jk_h I0 jk_I138 jk_T55 jk_M46)) = some (235, [some (.ref 57), some (.int 49), some (.int 0)], [.ref 57, .int 16], (jk_h I0 jk_I138 jk_T55 jk_M46)) from rfl)).trans ?_
  refine (jm_go_steps 6 (show jm_steps 159 6 (235, [some (.ref 57), some (.int 49), some (.int 0)], [.ref 57, .int 16], (jk_h I0 jk_I138 jk_T55 jk_M46)) = some (249, [some (.ref 57), some (.int 49), some (.int 0)], [.int 16, .ref 64], (jk_h I0 jk_I138 jk_T55 jk_M46)) from rfl)).trans ?_
  refine (jm_go_steps 1 (show jm_steps 159 1 (249, [some (.ref 57), some (.int 49), some (.int 0)], [.int 16, .ref 64], (jk_h I0 jk_I138 jk_T55 jk_M46)) = some (250, [some (.ref 57), some (.int 49), some (.int 0)], [.int 49], (jk_h I0 jk_I138 jk_T55 jk_M46)) from rfl)).trans ?_
  refine (jm_go_steps 2 (show jm_steps 159 2 (250, [some (.ref 57), some (.int 49), some (.int 0)], [.int 49], (jk_h I0 jk_I138 jk_T55 jk_M46)) = some (254, [some (.ref 57), some (.int 49), some (.int 0)], [.int 57, .int 48, .int 49], (jk_h I0 jk_I138 jk_T55 jk_M46)) from rfl)).trans ?_
  refine (jm_go_call (show jm_step 159 (254, [some (.ref 57), some (.int 49), some (.int 0)], [.int 57, .int 48, .int 49], (jk_h I0 jk_I138 jk_T55 jk_M46)) = some (.inr (.inl (143, [.int 49, .int 48, .int 57], []))) from rfl)).trans ?_
  refine (congrArg (fun z => jm_then z _) (jk_72 (I0 := I0))).trans ?_
  show jm_go (jm_ev 996) 159 (257, [some (.ref 57), some (.int 49), some (.int 0)], [.int 1], (jk_h I0 jk_I138 jk_T55 jk_M46)) = _
  refine (jm_go_steps 6 (show jm_steps 159 6 (257, [some (.ref 57), some (.int 49), some (.int 0)], [.int 1], (jk_h I0 jk_I138 jk_T55 jk_M46)) = some (268, [some (.ref 57), some (.int 49), some (.int 0)], [.int 10, .ref 57], (jk_h I0 jk_I138 jk_T55 jk_M46)) from rfl)).trans ?_
  refine (jm_go_steps 3 (show jm_steps 159 3 (268, [some (.ref 57), some (.int 49), some (.int 0)], [.int 10, .ref 57], (jk_h I0 jk_I138 jk_T55 jk_M46)) = some (273, [some (.ref 57), some (.int 49), some (.int 0)], [.int 0, .ref 57], (jk_h I0 jk_I138 jk_T55 jk_M46)) from rfl)).trans ?_
  refine (jm_go_steps 5 (show jm_steps 159 5 (273, [some (.ref 57), some (.int 49), some (.int 0)], [.int 0, .ref 57], (jk_h I0 jk_I138 jk_T55 jk_M46)) = some (282, [some (.ref 57), some (.int 49), some (.int 0)], [.int 49, .int 0, .ref 57], (jk_h I0 jk_I138 jk_T55 jk_M46)) from rfl)).trans ?_
  refine (jm_go_steps 1 (show jm_steps 159 1 (282, [some (.ref 57), some (.int 49), some (.int 0)], [.int 49, .int 0, .ref 57], (jk_h I0 jk_I138 jk_T55 jk_M46)) = some (283, [some (.ref 57), some (.int 49), some (.int 0)], [.int 49, .ref 57], (jk_h I0 jk_I138 jk_T55 jk_M46)) from rfl)).trans ?_
  refine (jm_go_steps 2 (show jm_steps 159 2 (283, [some (.ref 57), some (.int 49), some (.int 0)], [.int 49, .ref 57], (jk_h I0 jk_I138 jk_T55 jk_M46)) = some (286, [some (.ref 57), some (.int 49), some (.int 0)], [.int 1, .ref 57], (jk_h I0 jk_I138 jk_T55 jk_M46)) from rfl)).trans ?_
  refine (jm_go_steps 6 (show jm_steps 159 6 (286, [some (.ref 57), some (.int 49), some (.int 0)], [.int 1, .ref 57], (jk_h I0 jk_I138 jk_T55 jk_M46)) = some (301, [some (.ref 57), some (.int 49), some (.int 1)], [.int 16, .ref 57], (jk_h I0 jk_I139 jk_T55 jk_M46)) from rfl)).trans ?_
  refine (jm_go_steps 2 (show jm_steps 159 2 (301, [some (.ref 57), some (.int 49), some (.int 1)], [.int 16, .ref 57], (jk_h I0 jk_I139 jk_T55 jk_M46)) = some (303, [some (.ref 57), some (.int 49), some (.int 1)], [.int 17, .ref 57], (jk_h I0 jk_I139 jk_T55 jk_M46)) from rfl)).trans ?_
  refine (jm_go_steps 6 (show jm_steps 159 6 (303, [some (.ref 57), some (.int 49), some (.int 1)], [.int 17, .ref 57], (jk_h I0 jk_I139 jk_T55 jk_M46)) = some (238, [some (.ref 57), some (.int 49), some (.int 1)], [.int 30, .int 17], (jk_h I0 jk_I140 jk_T55 jk_M46)) from rfl)).trans ?_
  refine (jm_go_steps 6 (show jm_steps 159 6 (238, [some (.ref 57), some (.int 49), some (.int 1)], [.int 30, .int 17], (jk_h I0 jk_I140 jk_T55 jk_M46)) = some (250, [some (.ref 57), some (.int 49), some (.int 1)], [.int 32], (jk_h I0 jk_I140 jk_T55 jk_M46)) from rfl)).trans ?_
  refine (jm_go_steps 2 (show jm_steps 159 2 (250, [some (.ref 57), some (.int 49), some (.int 1)], [.int 32], (jk_h I0 jk_I140 jk_T55 jk_M46)) = some (254, [some (.ref 57), some (.int 49), some (.int 1)], [.int 57, .int 48, .int 32], (jk_h I0 jk_I140 jk_T55 jk_M46)) from rfl)).trans ?_
  refine (jm_go_call (show jm_step 159 (254, [some (.ref 57), some (.int 49), some (.int 1)], [.int 57, .int 48, .int 32], (jk_h I0 jk_I140 jk_T55 jk_M46)) = some (.inr (.inl (143, [.int 32, .int 48, .int 57], []))) from rfl)).trans ?_
  refine (congrArg (fun z => jm_then z _) (jk_73 (I0 := I0))).trans ?_
  show jm_go (jm_ev 996) 159 (257, [some (.ref 57), some (.int 49), some (.int 1)], [.int 0], (jk_h I0 jk_I140 jk_T55 jk_M46)) = _
  refine (jm_go_steps 6 (show jm_steps 159 6 (257, [some (.ref 57), some (.int 49), some (.int 1)], [.int 0], (jk_h I0 jk_I140 jk_T55 jk_M46)) = some (320, [some (.ref 57), some (.int 49), some (.int 1)], [.int 1, .ref 57], (jk_h I0 jk_I140 jk_T55 jk_M46)) from rfl)).trans ?_
  refine (jm_go_steps 2 (show jm_steps 159 2 (320, [some (.ref 57), some (.int 49), some (.int 1)], [.int 1, .ref 57], (jk_h I0 jk_I140 jk_T55 jk_M46)) = some (403, [some (.ref 57), some (.int 49), some (.int 1)], [], (jk_h I0 jk_I141 jk_T55 jk_M46)) from rfl)).trans ?_
  exact jm_go_ret rfl
def jk_I142 : List (Nat × Option (Nat × Int32)) := (57, some (30, 2)) :: (65, some (1, 100001)) :: jk_I141
set_option maxRecDepth 20000 in
theorem jk_75 {I0 : Nat → Nat → Int32} : jm_ev 997 161 [.ref 57, .int 100001] (jk_h I0 jk_I141 jk_T55 jk_M46) = some (none, (jk_h I0 jk_I142 jk_T55 jk_M46)) := by
  refine (jk_ev (d := 996) (by decide)).trans ?_
  refine (jm_go_steps 17 (show jm_steps 161 17 (jm_entry 161 [.ref 57, .int 100001] (jk_h I0 jk_I141 jk_T55 jk_M46)) = some (29, [some (.ref 57), some (.int 100001)], [], (jk_h I0 jk_I142 jk_T55 jk_M46)) from rfl)).trans ?_
  exact jm_go_ret rfl
set_option maxRecDepth 20000 in
theorem jk_76 {I0 : Nat → Nat → Int32} : jm_ev 997 162 [.ref 57, .int 7] (jk_h I0 jk_I142 jk_T55 jk_M46) = some (none, (jk_h I0 jk_I142 jk_T55 jk_M46)) := by
  refine (jk_ev (d := 996) (by decide)).trans ?_
  refine (jm_go_steps 3 (show jm_steps 162 3 (jm_entry 162 [.ref 57, .int 7] (jk_h I0 jk_I142 jk_T55 jk_M46)) = some (79, [some (.ref 57), some (.int 7), none], [], (jk_h I0 jk_I142 jk_T55 jk_M46)) from rfl)).trans ?_
  exact jm_go_ret rfl
def jk_I143 : List (Nat × Option (Nat × Int32)) := (57, some (22, 18)) :: jk_I142
def jk_I144 : List (Nat × Option (Nat × Int32)) := (57, some (23, 18)) :: jk_I143
def jk_I145 : List (Nat × Option (Nat × Int32)) := (57, some (25, 0)) :: (57, some (24, 0)) :: jk_I144
set_option maxRecDepth 20000 in
theorem jk_77 {I0 : Nat → Nat → Int32} : jm_ev 996 143 [.int 59, .int 97, .int 122] (jk_h I0 jk_I145 jk_T55 jk_M46) = some (some (.int 0), (jk_h I0 jk_I145 jk_T55 jk_M46)) := by
  refine (jk_ev (d := 995) (by decide)).trans ?_
  refine (jm_go_steps 4 (show jm_steps 143 4 (jm_entry 143 [.int 59, .int 97, .int 122] (jk_h I0 jk_I145 jk_T55 jk_M46)) = some (15, [some (.int 59), some (.int 97), some (.int 122)], [.int 0], (jk_h I0 jk_I145 jk_T55 jk_M46)) from rfl)).trans ?_
  exact jm_go_ret rfl
set_option maxRecDepth 20000 in
theorem jk_78 {I0 : Nat → Nat → Int32} : jm_ev 996 143 [.int 59, .int 48, .int 57] (jk_h I0 jk_I145 jk_T55 jk_M46) = some (some (.int 0), (jk_h I0 jk_I145 jk_T55 jk_M46)) := by
  refine (jk_ev (d := 995) (by decide)).trans ?_
  refine (jm_go_steps 7 (show jm_steps 143 7 (jm_entry 143 [.int 59, .int 48, .int 57] (jk_h I0 jk_I145 jk_T55 jk_M46)) = some (15, [some (.int 59), some (.int 48), some (.int 57)], [.int 0], (jk_h I0 jk_I145 jk_T55 jk_M46)) from rfl)).trans ?_
  exact jm_go_ret rfl
def jk_I146 : List (Nat × Option (Nat × Int32)) := (57, some (24, 59)) :: jk_I145
def jk_I147 : List (Nat × Option (Nat × Int32)) := (57, some (22, 19)) :: jk_I146
set_option maxRecDepth 20000 in
theorem jk_79 {I0 : Nat → Nat → Int32} : jm_ev 997 159 [.ref 57] (jk_h I0 jk_I142 jk_T55 jk_M46) = some (none, (jk_h I0 jk_I147 jk_T55 jk_M46)) := by
  refine (jk_ev (d := 996) (by decide)).trans ?_
  refine (jm_go_steps 6 (show jm_steps 159 6 (jm_entry 159 [.ref 57] (jk_h I0 jk_I142 jk_T55 jk_M46)) = some (12, [some (.ref 57), none, none], [.ref 57], (jk_h I0 jk_I142 jk_T55 jk_M46)) from rfl)).trans ?_
  refine (jm_go_steps 4 (show jm_steps 159 4 (12, [some (.ref 57), none, none], [.ref 57], (jk_h I0 jk_I142 jk_T55 jk_M46)) = some (20, [some (.ref 57), none, none], [.int 32], (jk_h I0 jk_I142 jk_T55 jk_M46)) from rfl)).trans ?_
  refine (jm_go_steps 6 (show jm_steps 159 6 (20, [some (.ref 57), none, none], [.int 32], (jk_h I0 jk_I142 jk_T55 jk_M46)) = some (45, [some (.ref 57), none, none], [.int 1, .int 17, .ref 57], (jk_h I0 jk_I142 jk_T55 jk_M46)) from rfl)).trans ?_
  refine (jm_go_steps 1 (show jm_steps 159 1 (45, [some (.ref 57), none, none], [.int 1, .int 17, .ref 57], (jk_h I0 jk_I142 jk_T55 jk_M46)) = some (46, [some (.ref 57), none, none], [.int 18, .ref 57], (jk_h I0 jk_I142 jk_T55 jk_M46)) from rfl)).trans ?_
  refine (jm_go_steps 6 (show jm_steps 159 6 (46, [some (.ref 57), none, none], [.int 18, .ref 57], (jk_h I0 jk_I142 jk_T55 jk_M46)) = some (8, [some (.ref 57), none, none], [.int 30, .int 18], (jk_h I0 jk_I143 jk_T55 jk_M46)) from rfl)).trans ?_
  refine (jm_go_steps 6 (show jm_steps 159 6 (8, [some (.ref 57), none, none], [.int 30, .int 18], (jk_h I0 jk_I143 jk_T55 jk_M46)) = some (20, [some (.ref 57), none, none], [.int 59], (jk_h I0 jk_I143 jk_T55 jk_M46)) from rfl)).trans ?_
  refine (jm_go_steps 6 (show jm_steps 159 6 (20, [some (.ref 57), none, none], [.int 59], (jk_h I0 jk_I143 jk_T55 jk_M46)) = some (33, [some (.ref 57), none, none], [.int 18, .ref 64], (jk_h I0 jk_I143 jk_T55 jk_M46)) from rfl)).trans ?_
  refine (jm_go_steps 1 (show jm_steps 159 1 (33, [some (.ref 57), none, none], [.int 18, .ref 64], (jk_h I0 jk_I143 jk_T55 jk_M46)) = some (34, [some (.ref 57), none, none], [.int 59], (jk_h I0 jk_I143 jk_T55 jk_M46)) from rfl)).trans ?_
  refine (jm_go_steps 6 (show jm_steps 159 6 (34, [some (.ref 57), none, none], [.int 59], (jk_h I0 jk_I143 jk_T55 jk_M46)) = some (60, [some (.ref 57), none, none], [], (jk_h I0 jk_I144 jk_T55 jk_M46)) from rfl)).trans ?_
  refine (jm_go_steps 6 (show jm_steps 159 6 (60, [some (.ref 57), none, none], [], (jk_h I0 jk_I144 jk_T55 jk_M46)) = some (70, [some (.ref 57), none, none], [], (jk_h I0 jk_I145 jk_T55 jk_M46)) from rfl)).trans ?_
  refine (jm_go_steps 6 (show jm_steps 159 6 (70, [some (.ref 57), none, none], [], (jk_h I0 jk_I145 jk_T55 jk_M46)) = some (83, [some (.ref 57), none, none], [.ref 57], (jk_h I0 jk_I145 jk_T55 jk_M46)) from rfl)).trans ?_
  refine (jm_go_steps 4 (show jm_steps 159 4 (83, [some (.ref 57), none, none], [.ref 57], (jk_h I0 jk_I145 jk_T55 jk_M46)) = some (91, [some (.ref 57), none, none], [.int 59], (jk_h I0 jk_I145 jk_T55 jk_M46)) from rfl)).trans ?_
  refine (jm_go_steps 4 (show jm_steps 159 4 (91, [some (.ref 57), none, none], [.int 59], (jk_h I0 jk_I145 jk_T55 jk_M46)) = some (97, [some (.ref 57), some (.int 59), none], [.int 122, .int 97, .int 59], (jk_h I0 jk_I145 jk_T55 jk_M46)) from rfl)).trans ?_
  refine (jm_go_call (show jm_step 159 (97, [some (.ref 57), some (.int 59), none], [.int 122, .int 97, .int 59], (jk_h I0 jk_I145 jk_T55 jk_M46)) = some (.inr (.inl (143, [.int 59, .int 97, .int 122], []))) from rfl)).trans ?_
  refine (congrArg (fun z => jm_then z _) (jk_77 (I0 := I0))).trans ?_
  show jm_go (jm_ev 996) 159 (100, [some (.ref 57), some (.int 59), none], [.int 0], (jk_h I0 jk_I145 jk_T55 jk_M46)) = _
  refine (jm_go_steps 4 (show jm_steps 159 4 (100, [some (.ref 57), some (.int 59), none], [.int 0], (jk_h I0 jk_I145 jk_T55 jk_M46)) = some (222, [some (.ref 57), some (.int 59), none], [.int 57, .int 48, .int 59], (jk_h I0 jk_I145 jk_T55 jk_M46)) from rfl)).trans ?_
  refine (jm_go_call (show jm_step 159 (222, [some (.ref 57), some (.int 59), none], [.int 57, .int 48, .int 59], (jk_h I0 jk_I145 jk_T55 jk_M46)) = some (.inr (.inl (143, [.int 59, .int 48, .int 57], []))) from rfl)).trans ?_
  refine (congrArg (fun z => jm_then z _) (jk_78 (I0 := I0))).trans ?_
  show jm_go (jm_ev 996) 159 (225, [some (.ref 57), some (.int 59), none], [.int 0], (jk_h I0 jk_I145 jk_T55 jk_M46)) = _
  refine (jm_go_steps 6 (show jm_steps 159 6 (225, [some (.ref 57), some (.int 59), none], [.int 0], (jk_h I0 jk_I145 jk_T55 jk_M46)) = some (335, [some (.ref 57), some (.int 59), none], [.int 41, .int 59], (jk_h I0 jk_I145 jk_T55 jk_M46)) from rfl)).trans ?_
  refine (jm_go_steps 6 (show jm_steps 159 6 (335, [some (.ref 57), some (.int 59), none], [.int 41, .int 59], (jk_h I0 jk_I145 jk_T55 jk_M46)) = some (379, [some (.ref 57), some (.int 59), none], [.int 1], (jk_h I0 jk_I145 jk_T55 jk_M46)) from rfl)).trans ?_
  refine (jm_go_steps 6 (show jm_steps 159 6 (379, [some (.ref 57), some (.int 59), none], [.int 1], (jk_h I0 jk_I145 jk_T55 jk_M46)) = some (390, [some (.ref 57), some (.int 59), some (.int 1)], [.int 59, .ref 57], (jk_h I0 jk_I145 jk_T55 jk_M46)) from rfl)).trans ?_
  refine (jm_go_steps 6 (show jm_steps 159 6 (390, [some (.ref 57), some (.int 59), some (.int 1)], [.int 59, .ref 57], (jk_h I0 jk_I145 jk_T55 jk_M46)) = some (400, [some (.ref 57), some (.int 59), some (.int 1)], [.int 19, .ref 57], (jk_h I0 jk_I146 jk_T55 jk_M46)) from rfl)).trans ?_
  refine (jm_go_steps 1 (show jm_steps 159 1 (400, [some (.ref 57), some (.int 59), some (.int 1)], [.int 19, .ref 57], (jk_h I0 jk_I146 jk_T55 jk_M46)) = some (403, [some (.ref 57), some (.int 59), some (.int 1)], [], (jk_h I0 jk_I147 jk_T55 jk_M46)) from rfl)).trans ?_
  exact jm_go_ret rfl
set_option maxRecDepth 20000 in
theorem jk_80 {I0 : Nat → Nat → Int32} : jm_ev 997 162 [.ref 57, .int 1] (jk_h I0 jk_I147 jk_T55 jk_M46) = some (none, (jk_h I0 jk_I147 jk_T55 jk_M46)) := by
  refine (jk_ev (d := 996) (by decide)).trans ?_
  refine (jm_go_steps 3 (show jm_steps 162 3 (jm_entry 162 [.ref 57, .int 1] (jk_h I0 jk_I147 jk_T55 jk_M46)) = some (79, [some (.ref 57), some (.int 1), none], [], (jk_h I0 jk_I147 jk_T55 jk_M46)) from rfl)).trans ?_
  exact jm_go_ret rfl
set_option maxRecDepth 20000 in
theorem jk_81 {I0 : Nat → Nat → Int32} : jm_ev 998 167 [.ref 57] (jk_h I0 jk_I134 jk_T55 jk_M46) = some (some (.int 1), (jk_h I0 jk_I147 jk_T55 jk_M46)) := by
  refine (jk_ev (d := 997) (by decide)).trans ?_
  refine (jm_go_steps 11 (show jm_steps 167 11 (jm_entry 167 [.ref 57] (jk_h I0 jk_I134 jk_T55 jk_M46)) = some (15, [some (.ref 57), some (.int 1), some (.int 1), none], [.ref 57], (jk_h I0 jk_I135 jk_T55 jk_M46)) from rfl)).trans ?_
  refine (jm_go_call (show jm_step 167 (15, [some (.ref 57), some (.int 1), some (.int 1), none], [.ref 57], (jk_h I0 jk_I135 jk_T55 jk_M46)) = some (.inr (.inl (159, [.ref 57], []))) from rfl)).trans ?_
  refine (congrArg (fun z => jm_then z _) (jk_74 (I0 := I0))).trans ?_
  show jm_go (jm_ev 997) 167 (18, [some (.ref 57), some (.int 1), some (.int 1), none], [], (jk_h I0 jk_I141 jk_T55 jk_M46)) = _
  refine (jm_go_steps 16 (show jm_steps 167 16 (18, [some (.ref 57), some (.int 1), some (.int 1), none], [], (jk_h I0 jk_I141 jk_T55 jk_M46)) = some (61, [some (.ref 57), some (.int 1), some (.int 1), none], [.int 100001, .ref 57], (jk_h I0 jk_I141 jk_T55 jk_M46)) from rfl)).trans ?_
  refine (jm_go_call (show jm_step 167 (61, [some (.ref 57), some (.int 1), some (.int 1), none], [.int 100001, .ref 57], (jk_h I0 jk_I141 jk_T55 jk_M46)) = some (.inr (.inl (161, [.ref 57, .int 100001], []))) from rfl)).trans ?_
  refine (congrArg (fun z => jm_then z _) (jk_75 (I0 := I0))).trans ?_
  show jm_go (jm_ev 997) 167 (64, [some (.ref 57), some (.int 1), some (.int 1), none], [], (jk_h I0 jk_I142 jk_T55 jk_M46)) = _
  refine (jm_go_steps 2 (show jm_steps 167 2 (64, [some (.ref 57), some (.int 1), some (.int 1), none], [], (jk_h I0 jk_I142 jk_T55 jk_M46)) = some (67, [some (.ref 57), some (.int 1), some (.int 1), none], [.int 7, .ref 57], (jk_h I0 jk_I142 jk_T55 jk_M46)) from rfl)).trans ?_
  refine (jm_go_call (show jm_step 167 (67, [some (.ref 57), some (.int 1), some (.int 1), none], [.int 7, .ref 57], (jk_h I0 jk_I142 jk_T55 jk_M46)) = some (.inr (.inl (162, [.ref 57, .int 7], []))) from rfl)).trans ?_
  refine (congrArg (fun z => jm_then z _) (jk_76 (I0 := I0))).trans ?_
  show jm_go (jm_ev 997) 167 (70, [some (.ref 57), some (.int 1), some (.int 1), none], [], (jk_h I0 jk_I142 jk_T55 jk_M46)) = _
  refine (jm_go_steps 4 (show jm_steps 167 4 (70, [some (.ref 57), some (.int 1), some (.int 1), none], [], (jk_h I0 jk_I142 jk_T55 jk_M46)) = some (15, [some (.ref 57), some (.int 0), some (.int 1), none], [.ref 57], (jk_h I0 jk_I142 jk_T55 jk_M46)) from rfl)).trans ?_
  refine (jm_go_call (show jm_step 167 (15, [some (.ref 57), some (.int 0), some (.int 1), none], [.ref 57], (jk_h I0 jk_I142 jk_T55 jk_M46)) = some (.inr (.inl (159, [.ref 57], []))) from rfl)).trans ?_
  refine (congrArg (fun z => jm_then z _) (jk_79 (I0 := I0))).trans ?_
  show jm_go (jm_ev 997) 167 (18, [some (.ref 57), some (.int 0), some (.int 1), none], [], (jk_h I0 jk_I147 jk_T55 jk_M46)) = _
  refine (jm_go_steps 8 (show jm_steps 167 8 (18, [some (.ref 57), some (.int 0), some (.int 1), none], [], (jk_h I0 jk_I147 jk_T55 jk_M46)) = some (161, [some (.ref 57), some (.int 0), some (.int 1), none], [.int 1, .ref 57], (jk_h I0 jk_I147 jk_T55 jk_M46)) from rfl)).trans ?_
  refine (jm_go_call (show jm_step 167 (161, [some (.ref 57), some (.int 0), some (.int 1), none], [.int 1, .ref 57], (jk_h I0 jk_I147 jk_T55 jk_M46)) = some (.inr (.inl (162, [.ref 57, .int 1], []))) from rfl)).trans ?_
  refine (congrArg (fun z => jm_then z _) (jk_80 (I0 := I0))).trans ?_
  show jm_go (jm_ev 997) 167 (164, [some (.ref 57), some (.int 0), some (.int 1), none], [], (jk_h I0 jk_I147 jk_T55 jk_M46)) = _
  refine (jm_go_steps 5 (show jm_steps 167 5 (164, [some (.ref 57), some (.int 0), some (.int 1), none], [], (jk_h I0 jk_I147 jk_T55 jk_M46)) = some (176, [some (.ref 57), some (.int 0), some (.int 1), none], [.int 1], (jk_h I0 jk_I147 jk_T55 jk_M46)) from rfl)).trans ?_
  exact jm_go_ret rfl
def jk_I148 : List (Nat × Option (Nat × Int32)) := (57, some (22, 20)) :: jk_I147
def jk_I149 : List (Nat × Option (Nat × Int32)) := (57, some (23, 20)) :: jk_I148
def jk_I150 : List (Nat × Option (Nat × Int32)) := (57, some (25, 0)) :: (57, some (24, 0)) :: jk_I149
set_option maxRecDepth 20000 in
theorem jk_82 {I0 : Nat → Nat → Int32} : jm_ev 997 143 [.int 108, .int 97, .int 122] (jk_h I0 jk_I150 jk_T55 jk_M46) = some (some (.int 1), (jk_h I0 jk_I150 jk_T55 jk_M46)) := by
  refine (jk_ev (d := 996) (by decide)).trans ?_
  refine (jm_go_steps 8 (show jm_steps 143 8 (jm_entry 143 [.int 108, .int 97, .int 122] (jk_h I0 jk_I150 jk_T55 jk_M46)) = some (15, [some (.int 108), some (.int 97), some (.int 122)], [.int 1], (jk_h I0 jk_I150 jk_T55 jk_M46)) from rfl)).trans ?_
  exact jm_go_ret rfl
set_option maxRecDepth 20000 in
theorem jk_83 {I0 : Nat → Nat → Int32} : jm_ev 997 143 [.int 108, .int 97, .int 122] (jk_h I0 jk_I150 jk_T55 jk_M46) = some (some (.int 1), (jk_h I0 jk_I150 jk_T55 jk_M46)) := by
  refine (jk_ev (d := 996) (by decide)).trans ?_
  refine (jm_go_steps 8 (show jm_steps 143 8 (jm_entry 143 [.int 108, .int 97, .int 122] (jk_h I0 jk_I150 jk_T55 jk_M46)) = some (15, [some (.int 108), some (.int 97), some (.int 122)], [.int 1], (jk_h I0 jk_I150 jk_T55 jk_M46)) from rfl)).trans ?_
  exact jm_go_ret rfl
def jk_I151 : List (Nat × Option (Nat × Int32)) := (57, some (22, 21)) :: jk_I150
set_option maxRecDepth 20000 in
theorem jk_84 {I0 : Nat → Nat → Int32} : jm_ev 997 143 [.int 101, .int 97, .int 122] (jk_h I0 jk_I151 jk_T55 jk_M46) = some (some (.int 1), (jk_h I0 jk_I151 jk_T55 jk_M46)) := by
  refine (jk_ev (d := 996) (by decide)).trans ?_
  refine (jm_go_steps 8 (show jm_steps 143 8 (jm_entry 143 [.int 101, .int 97, .int 122] (jk_h I0 jk_I151 jk_T55 jk_M46)) = some (15, [some (.int 101), some (.int 97), some (.int 122)], [.int 1], (jk_h I0 jk_I151 jk_T55 jk_M46)) from rfl)).trans ?_
  exact jm_go_ret rfl
def jk_I152 : List (Nat × Option (Nat × Int32)) := (57, some (22, 22)) :: jk_I151
set_option maxRecDepth 20000 in
theorem jk_85 {I0 : Nat → Nat → Int32} : jm_ev 997 143 [.int 97, .int 97, .int 122] (jk_h I0 jk_I152 jk_T55 jk_M46) = some (some (.int 1), (jk_h I0 jk_I152 jk_T55 jk_M46)) := by
  refine (jk_ev (d := 996) (by decide)).trans ?_
  refine (jm_go_steps 8 (show jm_steps 143 8 (jm_entry 143 [.int 97, .int 97, .int 122] (jk_h I0 jk_I152 jk_T55 jk_M46)) = some (15, [some (.int 97), some (.int 97), some (.int 122)], [.int 1], (jk_h I0 jk_I152 jk_T55 jk_M46)) from rfl)).trans ?_
  exact jm_go_ret rfl
def jk_I153 : List (Nat × Option (Nat × Int32)) := (57, some (22, 23)) :: jk_I152
set_option maxRecDepth 20000 in
theorem jk_86 {I0 : Nat → Nat → Int32} : jm_ev 997 143 [.int 118, .int 97, .int 122] (jk_h I0 jk_I153 jk_T55 jk_M46) = some (some (.int 1), (jk_h I0 jk_I153 jk_T55 jk_M46)) := by
  refine (jk_ev (d := 996) (by decide)).trans ?_
  refine (jm_go_steps 8 (show jm_steps 143 8 (jm_entry 143 [.int 118, .int 97, .int 122] (jk_h I0 jk_I153 jk_T55 jk_M46)) = some (15, [some (.int 118), some (.int 97), some (.int 122)], [.int 1], (jk_h I0 jk_I153 jk_T55 jk_M46)) from rfl)).trans ?_
  exact jm_go_ret rfl
def jk_I154 : List (Nat × Option (Nat × Int32)) := (57, some (22, 24)) :: jk_I153
set_option maxRecDepth 20000 in
theorem jk_87 {I0 : Nat → Nat → Int32} : jm_ev 997 143 [.int 101, .int 97, .int 122] (jk_h I0 jk_I154 jk_T55 jk_M46) = some (some (.int 1), (jk_h I0 jk_I154 jk_T55 jk_M46)) := by
  refine (jk_ev (d := 996) (by decide)).trans ?_
  refine (jm_go_steps 8 (show jm_steps 143 8 (jm_entry 143 [.int 101, .int 97, .int 122] (jk_h I0 jk_I154 jk_T55 jk_M46)) = some (15, [some (.int 101), some (.int 97), some (.int 122)], [.int 1], (jk_h I0 jk_I154 jk_T55 jk_M46)) from rfl)).trans ?_
  exact jm_go_ret rfl
def jk_I155 : List (Nat × Option (Nat × Int32)) := (57, some (22, 25)) :: jk_I154
set_option maxRecDepth 20000 in
theorem jk_88 {I0 : Nat → Nat → Int32} : jm_ev 997 143 [.int 115, .int 97, .int 122] (jk_h I0 jk_I155 jk_T55 jk_M46) = some (some (.int 1), (jk_h I0 jk_I155 jk_T55 jk_M46)) := by
  refine (jk_ev (d := 996) (by decide)).trans ?_
  refine (jm_go_steps 8 (show jm_steps 143 8 (jm_entry 143 [.int 115, .int 97, .int 122] (jk_h I0 jk_I155 jk_T55 jk_M46)) = some (15, [some (.int 115), some (.int 97), some (.int 122)], [.int 1], (jk_h I0 jk_I155 jk_T55 jk_M46)) from rfl)).trans ?_
  exact jm_go_ret rfl
def jk_I156 : List (Nat × Option (Nat × Int32)) := (57, some (22, 26)) :: jk_I155
set_option maxRecDepth 20000 in
theorem jk_89 {I0 : Nat → Nat → Int32} : jm_ev 997 143 [.int 32, .int 97, .int 122] (jk_h I0 jk_I156 jk_T55 jk_M46) = some (some (.int 0), (jk_h I0 jk_I156 jk_T55 jk_M46)) := by
  refine (jk_ev (d := 996) (by decide)).trans ?_
  refine (jm_go_steps 4 (show jm_steps 143 4 (jm_entry 143 [.int 32, .int 97, .int 122] (jk_h I0 jk_I156 jk_T55 jk_M46)) = some (15, [some (.int 32), some (.int 97), some (.int 122)], [.int 0], (jk_h I0 jk_I156 jk_T55 jk_M46)) from rfl)).trans ?_
  exact jm_go_ret rfl
set_option maxRecDepth 20000 in
theorem jk_90 {I0 : Nat → Nat → Int32} : jm_ev 997 158 [.ref 57, .int 20, .int 26] (jk_h I0 jk_I156 jk_T55 jk_M46) = some (some (.int 2), (jk_h I0 jk_I156 jk_T55 jk_M46)) := by
  refine (jk_ev (d := 996) (by decide)).trans ?_
  refine (jm_go_steps 24 (show jm_steps 158 24 (jm_entry 158 [.ref 57, .int 20, .int 26] (jk_h I0 jk_I156 jk_T55 jk_M46)) = some (45, [some (.ref 57), some (.int 20), some (.int 26), some (.int 0), some (.int 1), some (.int 0)], [.int 0, .int 8, .ref 73], (jk_h I0 jk_I156 jk_T55 jk_M46)) from rfl)).trans ?_
  refine (jm_go_steps 24 (show jm_steps 158 24 (45, [some (.ref 57), some (.int 20), some (.int 26), some (.int 0), some (.int 1), some (.int 0)], [.int 0, .int 8, .ref 73], (jk_h I0 jk_I156 jk_T55 jk_M46)) = some (33, [some (.ref 57), some (.int 20), some (.int 26), some (.int 0), some (.int 0), some (.int 1)], [], (jk_h I0 jk_I156 jk_T55 jk_M46)) from rfl)).trans ?_
  refine (jm_go_steps 24 (show jm_steps 158 24 (33, [some (.ref 57), some (.int 20), some (.int 26), some (.int 0), some (.int 0), some (.int 1)], [], (jk_h I0 jk_I156 jk_T55 jk_M46)) = some (38, [some (.ref 57), some (.int 20), some (.int 26), some (.int 1), some (.int 1), some (.int 0)], [], (jk_h I0 jk_I156 jk_T55 jk_M46)) from rfl)).trans ?_
  refine (jm_go_steps 24 (show jm_steps 158 24 (38, [some (.ref 57), some (.int 20), some (.int 26), some (.int 1), some (.int 1), some (.int 0)], [], (jk_h I0 jk_I156 jk_T55 jk_M46)) = some (85, [some (.ref 57), some (.int 20), some (.int 26), some (.int 1), some (.int 0), some (.int 1)], [], (jk_h I0 jk_I156 jk_T55 jk_M46)) from rfl)).trans ?_
  refine (jm_go_steps 24 (show jm_steps 158 24 (85, [some (.ref 57), some (.int 20), some (.int 26), some (.int 1), some (.int 0), some (.int 1)], [], (jk_h I0 jk_I156 jk_T55 jk_M46)) = some (28, [some (.ref 57), some (.int 20), some (.int 26), some (.int 2), some (.int 1), some (.int 0)], [.int 0], (jk_h I0 jk_I156 jk_T55 jk_M46)) from rfl)).trans ?_
  refine (jm_go_steps 24 (show jm_steps 158 24 (28, [some (.ref 57), some (.int 20), some (.int 26), some (.int 2), some (.int 1), some (.int 0)], [.int 0], (jk_h I0 jk_I156 jk_T55 jk_M46)) = some (72, [some (.ref 57), some (.int 20), some (.int 26), some (.int 2), some (.int 1), some (.int 0)], [.int 108, .int 108], (jk_h I0 jk_I156 jk_T55 jk_M46)) from rfl)).trans ?_
  refine (jm_go_steps 24 (show jm_steps 158 24 (72, [some (.ref 57), some (.int 20), some (.int 26), some (.int 2), some (.int 1), some (.int 0)], [.int 108, .int 108], (jk_h I0 jk_I156 jk_T55 jk_M46)) = some (58, [some (.ref 57), some (.int 20), some (.int 26), some (.int 2), some (.int 1), some (.int 1)], [.int 101], (jk_h I0 jk_I156 jk_T55 jk_M46)) from rfl)).trans ?_
  refine (jm_go_steps 24 (show jm_steps 158 24 (58, [some (.ref 57), some (.int 20), some (.int 26), some (.int 2), some (.int 1), some (.int 1)], [.int 101], (jk_h I0 jk_I156 jk_T55 jk_M46)) = some (48, [some (.ref 57), some (.int 20), some (.int 26), some (.int 2), some (.int 1), some (.int 2)], [.int 2, .int 16, .ref 73], (jk_h I0 jk_I156 jk_T55 jk_M46)) from rfl)).trans ?_
  refine (jm_go_steps 24 (show jm_steps 158 24 (48, [some (.ref 57), some (.int 20), some (.int 26), some (.int 2), some (.int 1), some (.int 2)], [.int 2, .int 16, .ref 73], (jk_h I0 jk_I156 jk_T55 jk_M46)) = some (35, [some (.ref 57), some (.int 20), some (.int 26), some (.int 2), some (.int 1), some (.int 3)], [.int 1], (jk_h I0 jk_I156 jk_T55 jk_M46)) from rfl)).trans ?_
  refine (jm_go_steps 24 (show jm_steps 158 24 (35, [some (.ref 57), some (.int 20), some (.int 26), some (.int 2), some (.int 1), some (.int 3)], [.int 1], (jk_h I0 jk_I156 jk_T55 jk_M46)) = some (80, [some (.ref 57), some (.int 20), some (.int 26), some (.int 2), some (.int 1), some (.int 3)], [.int 1], (jk_h I0 jk_I156 jk_T55 jk_M46)) from rfl)).trans ?_
  refine (jm_go_steps 24 (show jm_steps 158 24 (80, [some (.ref 57), some (.int 20), some (.int 26), some (.int 2), some (.int 1), some (.int 3)], [.int 1], (jk_h I0 jk_I156 jk_T55 jk_M46)) = some (63, [some (.ref 57), some (.int 20), some (.int 26), some (.int 2), some (.int 1), some (.int 4)], [.int 20, .ref 64, .int 101], (jk_h I0 jk_I156 jk_T55 jk_M46)) from rfl)).trans ?_
  refine (jm_go_steps 24 (show jm_steps 158 24 (63, [some (.ref 57), some (.int 20), some (.int 26), some (.int 2), some (.int 1), some (.int 4)], [.int 20, .ref 64, .int 101], (jk_h I0 jk_I156 jk_T55 jk_M46)) = some (51, [some (.ref 57), some (.int 20), some (.int 26), some (.int 2), some (.int 1), some (.int 5)], [.int 20, .int 115], (jk_h I0 jk_I156 jk_T55 jk_M46)) from rfl)).trans ?_
  refine (jm_go_steps 24 (show jm_steps 158 24 (51, [some (.ref 57), some (.int 20), some (.int 26), some (.int 2), some (.int 1), some (.int 5)], [.int 20, .int 115], (jk_h I0 jk_I156 jk_T55 jk_M46)) = some (42, [some (.ref 57), some (.int 20), some (.int 26), some (.int 2), some (.int 1), some (.int 6)], [.ref 73], (jk_h I0 jk_I156 jk_T55 jk_M46)) from rfl)).trans ?_
  refine (jm_go_steps 24 (show jm_steps 158 24 (42, [some (.ref 57), some (.int 20), some (.int 26), some (.int 2), some (.int 1), some (.int 6)], [.ref 73], (jk_h I0 jk_I156 jk_T55 jk_M46)) = some (39, [some (.ref 57), some (.int 20), some (.int 26), some (.int 2), some (.int 1), some (.int 7)], [.ref 57], (jk_h I0 jk_I156 jk_T55 jk_M46)) from rfl)).trans ?_
  refine (jm_go_steps 24 (show jm_steps 158 24 (39, [some (.ref 57), some (.int 20), some (.int 26), some (.int 2), some (.int 1), some (.int 7)], [.ref 57], (jk_h I0 jk_I156 jk_T55 jk_M46)) = some (93, [some (.ref 57), some (.int 20), some (.int 26), some (.int 2), some (.int 1), some (.int 8)], [], (jk_h I0 jk_I156 jk_T55 jk_M46)) from rfl)).trans ?_
  refine (jm_go_steps 1 (show jm_steps 158 1 (93, [some (.ref 57), some (.int 20), some (.int 26), some (.int 2), some (.int 1), some (.int 8)], [], (jk_h I0 jk_I156 jk_T55 jk_M46)) = some (94, [some (.ref 57), some (.int 20), some (.int 26), some (.int 2), some (.int 1), some (.int 8)], [.int 2], (jk_h I0 jk_I156 jk_T55 jk_M46)) from rfl)).trans ?_
  exact jm_go_ret rfl
def jk_I157 : List (Nat × Option (Nat × Int32)) := (57, some (24, 3)) :: jk_I156
def jk_I158 : List (Nat × Option (Nat × Int32)) := (57, some (25, 2)) :: jk_I157
set_option maxRecDepth 20000 in
theorem jk_91 {I0 : Nat → Nat → Int32} : jm_ev 998 159 [.ref 57] (jk_h I0 jk_I147 jk_T55 jk_M46) = some (none, (jk_h I0 jk_I158 jk_T55 jk_M46)) := by
  refine (jk_ev (d := 997) (by decide)).trans ?_
  refine (jm_go_steps 6 (show jm_steps 159 6 (jm_entry 159 [.ref 57] (jk_h I0 jk_I147 jk_T55 jk_M46)) = some (12, [some (.ref 57), none, none], [.ref 57], (jk_h I0 jk_I147 jk_T55 jk_M46)) from rfl)).trans ?_
  refine (jm_go_steps 4 (show jm_steps 159 4 (12, [some (.ref 57), none, none], [.ref 57], (jk_h I0 jk_I147 jk_T55 jk_M46)) = some (20, [some (.ref 57), none, none], [.int 32], (jk_h I0 jk_I147 jk_T55 jk_M46)) from rfl)).trans ?_
  refine (jm_go_steps 6 (show jm_steps 159 6 (20, [some (.ref 57), none, none], [.int 32], (jk_h I0 jk_I147 jk_T55 jk_M46)) = some (45, [some (.ref 57), none, none], [.int 1, .int 19, .ref 57], (jk_h I0 jk_I147 jk_T55 jk_M46)) from rfl)).trans ?_
  refine (jm_go_steps 1 (show jm_steps 159 1 (45, [some (.ref 57), none, none], [.int 1, .int 19, .ref 57], (jk_h I0 jk_I147 jk_T55 jk_M46)) = some (46, [some (.ref 57), none, none], [.int 20, .ref 57], (jk_h I0 jk_I147 jk_T55 jk_M46)) from rfl)).trans ?_
  refine (jm_go_steps 6 (show jm_steps 159 6 (46, [some (.ref 57), none, none], [.int 20, .ref 57], (jk_h I0 jk_I147 jk_T55 jk_M46)) = some (8, [some (.ref 57), none, none], [.int 30, .int 20], (jk_h I0 jk_I148 jk_T55 jk_M46)) from rfl)).trans ?_
  refine (jm_go_steps 6 (show jm_steps 159 6 (8, [some (.ref 57), none, none], [.int 30, .int 20], (jk_h I0 jk_I148 jk_T55 jk_M46)) = some (20, [some (.ref 57), none, none], [.int 108], (jk_h I0 jk_I148 jk_T55 jk_M46)) from rfl)).trans ?_
  refine (jm_go_steps 6 (show jm_steps 159 6 (20, [some (.ref 57), none, none], [.int 108], (jk_h I0 jk_I148 jk_T55 jk_M46)) = some (33, [some (.ref 57), none, none], [.int 20, .ref 64], (jk_h I0 jk_I148 jk_T55 jk_M46)) from rfl)).trans ?_
  refine (jm_go_steps 1 (show jm_steps 159 1 (33, [some (.ref 57), none, none], [.int 20, .ref 64], (jk_h I0 jk_I148 jk_T55 jk_M46)) = some (34, [some (.ref 57), none, none], [.int 108], (jk_h I0 jk_I148 jk_T55 jk_M46)) from rfl)).trans ?_
  refine (jm_go_steps 6 (show jm_steps 159 6 (34, [some (.ref 57), none, none], [.int 108], (jk_h I0 jk_I148 jk_T55 jk_M46)) = some (60, [some (.ref 57), none, none], [], (jk_h I0 jk_I149 jk_T55 jk_M46)) from rfl)).trans ?_
  refine (jm_go_steps 6 (show jm_steps 159 6 (60, [some (.ref 57), none, none], [], (jk_h I0 jk_I149 jk_T55 jk_M46)) = some (70, [some (.ref 57), none, none], [], (jk_h I0 jk_I150 jk_T55 jk_M46)) from rfl)).trans ?_
  refine (jm_go_steps 6 (show jm_steps 159 6 (70, [some (.ref 57), none, none], [], (jk_h I0 jk_I150 jk_T55 jk_M46)) = some (83, [some (.ref 57), none, none], [.ref 57], (jk_h I0 jk_I150 jk_T55 jk_M46)) from rfl)).trans ?_
  refine (jm_go_steps 4 (show jm_steps 159 4 (83, [some (.ref 57), none, none], [.ref 57], (jk_h I0 jk_I150 jk_T55 jk_M46)) = some (91, [some (.ref 57), none, none], [.int 108], (jk_h I0 jk_I150 jk_T55 jk_M46)) from rfl)).trans ?_
  refine (jm_go_steps 4 (show jm_steps 159 4 (91, [some (.ref 57), none, none], [.int 108], (jk_h I0 jk_I150 jk_T55 jk_M46)) = some (97, [some (.ref 57), some (.int 108), none], [.int 122, .int 97, .int 108], (jk_h I0 jk_I150 jk_T55 jk_M46)) from rfl)).trans ?_
  refine (jm_go_call (show jm_step 159 (97, [some (.ref 57), some (.int 108), none], [.int 122, .int 97, .int 108], (jk_h I0 jk_I150 jk_T55 jk_M46)) = some (.inr (.inl (143, [.int 108, .int 97, .int 122], []))) from rfl)).trans ?_
  refine (congrArg (fun z => jm_then z _) (jk_82 (I0 := I0))).trans ?_
  show jm_go (jm_ev 997) 159 (100, [some (.ref 57), some (.int 108), none], [.int 1], (jk_h I0 jk_I150 jk_T55 jk_M46)) = _
  refine (jm_go_steps 6 (show jm_steps 159 6 (100, [some (.ref 57), some (.int 108), none], [.int 1], (jk_h I0 jk_I150 jk_T55 jk_M46)) = some (114, [some (.ref 57), some (.int 108), none], [], (jk_h I0 jk_I150 jk_T55 jk_M46)) from rfl)).trans ?_
  refine (jm_go_steps 5 (show jm_steps 159 5 (114, [some (.ref 57), some (.int 108), none], [], (jk_h I0 jk_I150 jk_T55 jk_M46)) = some (123, [some (.ref 57), some (.int 108), none], [.int 108], (jk_h I0 jk_I150 jk_T55 jk_M46)) from rfl)).trans ?_
  refine (jm_go_steps 2 (show jm_steps 159 2 (123, [some (.ref 57), some (.int 108), none], [.int 108], (jk_h I0 jk_I150 jk_T55 jk_M46)) = some (127, [some (.ref 57), some (.int 108), none], [.int 122, .int 97, .int 108], (jk_h I0 jk_I150 jk_T55 jk_M46)) from rfl)).trans ?_
  refine (jm_go_call (show jm_step 159 (127, [some (.ref 57), some (.int 108), none], [.int 122, .int 97, .int 108], (jk_h I0 jk_I150 jk_T55 jk_M46)) = some (.inr (.inl (143, [.int 108, .int 97, .int 122], []))) from rfl)).trans ?_
  refine (congrArg (fun z => jm_then z _) (jk_83 (I0 := I0))).trans ?_
  show jm_go (jm_ev 997) 159 (130, [some (.ref 57), some (.int 108), none], [.int 1], (jk_h I0 jk_I150 jk_T55 jk_M46)) = _
  refine (jm_go_steps 6 (show jm_steps 159 6 (130, [some (.ref 57), some (.int 108), none], [.int 1], (jk_h I0 jk_I150 jk_T55 jk_M46)) = some (140, [some (.ref 57), some (.int 108), none], [.int 21, .ref 57], (jk_h I0 jk_I150 jk_T55 jk_M46)) from rfl)).trans ?_
  refine (jm_go_steps 6 (show jm_steps 159 6 (140, [some (.ref 57), some (.int 108), none], [.int 21, .ref 57], (jk_h I0 jk_I150 jk_T55 jk_M46)) = some (111, [some (.ref 57), some (.int 108), none], [.int 30, .int 21], (jk_h I0 jk_I151 jk_T55 jk_M46)) from rfl)).trans ?_
  refine (jm_go_steps 6 (show jm_steps 159 6 (111, [some (.ref 57), some (.int 108), none], [.int 30, .int 21], (jk_h I0 jk_I151 jk_T55 jk_M46)) = some (123, [some (.ref 57), some (.int 108), none], [.int 101], (jk_h I0 jk_I151 jk_T55 jk_M46)) from rfl)).trans ?_
  refine (jm_go_steps 2 (show jm_steps 159 2 (123, [some (.ref 57), some (.int 108), none], [.int 101], (jk_h I0 jk_I151 jk_T55 jk_M46)) = some (127, [some (.ref 57), some (.int 108), none], [.int 122, .int 97, .int 101], (jk_h I0 jk_I151 jk_T55 jk_M46)) from rfl)).trans ?_
  refine (jm_go_call (show jm_step 159 (127, [some (.ref 57), some (.int 108), none], [.int 122, .int 97, .int 101], (jk_h I0 jk_I151 jk_T55 jk_M46)) = some (.inr (.inl (143, [.int 101, .int 97, .int 122], []))) from rfl)).trans ?_
  refine (congrArg (fun z => jm_then z _) (jk_84 (I0 := I0))).trans ?_
  show jm_go (jm_ev 997) 159 (130, [some (.ref 57), some (.int 108), none], [.int 1], (jk_h I0 jk_I151 jk_T55 jk_M46)) = _
  refine (jm_go_steps 6 (show jm_steps 159 6 (130, [some (.ref 57), some (.int 108), none], [.int 1], (jk_h I0 jk_I151 jk_T55 jk_M46)) = some (140, [some (.ref 57), some (.int 108), none], [.int 22, .ref 57], (jk_h I0 jk_I151 jk_T55 jk_M46)) from rfl)).trans ?_
  refine (jm_go_steps 6 (show jm_steps 159 6 (140, [some (.ref 57), some (.int 108), none], [.int 22, .ref 57], (jk_h I0 jk_I151 jk_T55 jk_M46)) = some (111, [some (.ref 57), some (.int 108), none], [.int 30, .int 22], (jk_h I0 jk_I152 jk_T55 jk_M46)) from rfl)).trans ?_
  refine (jm_go_steps 6 (show jm_steps 159 6 (111, [some (.ref 57), some (.int 108), none], [.int 30, .int 22], (jk_h I0 jk_I152 jk_T55 jk_M46)) = some (123, [some (.ref 57), some (.int 108), none], [.int 97], (jk_h I0 jk_I152 jk_T55 jk_M46)) from rfl)).trans ?_
  refine (jm_go_steps 2 (show jm_steps 159 2 (123, [some (.ref 57), some (.int 108), none], [.int 97], (jk_h I0 jk_I152 jk_T55 jk_M46)) = some (127, [some (.ref 57), some (.int 108), none], [.int 122, .int 97, .int 97], (jk_h I0 jk_I152 jk_T55 jk_M46)) from rfl)).trans ?_
  refine (jm_go_call (show jm_step 159 (127, [some (.ref 57), some (.int 108), none], [.int 122, .int 97, .int 97], (jk_h I0 jk_I152 jk_T55 jk_M46)) = some (.inr (.inl (143, [.int 97, .int 97, .int 122], []))) from rfl)).trans ?_
  refine (congrArg (fun z => jm_then z _) (jk_85 (I0 := I0))).trans ?_
  show jm_go (jm_ev 997) 159 (130, [some (.ref 57), some (.int 108), none], [.int 1], (jk_h I0 jk_I152 jk_T55 jk_M46)) = _
  refine (jm_go_steps 6 (show jm_steps 159 6 (130, [some (.ref 57), some (.int 108), none], [.int 1], (jk_h I0 jk_I152 jk_T55 jk_M46)) = some (140, [some (.ref 57), some (.int 108), none], [.int 23, .ref 57], (jk_h I0 jk_I152 jk_T55 jk_M46)) from rfl)).trans ?_
  refine (jm_go_steps 6 (show jm_steps 159 6 (140, [some (.ref 57), some (.int 108), none], [.int 23, .ref 57], (jk_h I0 jk_I152 jk_T55 jk_M46)) = some (111, [some (.ref 57), some (.int 108), none], [.int 30, .int 23], (jk_h I0 jk_I153 jk_T55 jk_M46)) from rfl)).trans ?_
  refine (jm_go_steps 6 (show jm_steps 159 6 (111, [some (.ref 57), some (.int 108), none], [.int 30, .int 23], (jk_h I0 jk_I153 jk_T55 jk_M46)) = some (123, [some (.ref 57), some (.int 108), none], [.int 118], (jk_h I0 jk_I153 jk_T55 jk_M46)) from rfl)).trans ?_
  refine (jm_go_steps 2 (show jm_steps 159 2 (123, [some (.ref 57), some (.int 108), none], [.int 118], (jk_h I0 jk_I153 jk_T55 jk_M46)) = some (127, [some (.ref 57), some (.int 108), none], [.int 122, .int 97, .int 118], (jk_h I0 jk_I153 jk_T55 jk_M46)) from rfl)).trans ?_
  refine (jm_go_call (show jm_step 159 (127, [some (.ref 57), some (.int 108), none], [.int 122, .int 97, .int 118], (jk_h I0 jk_I153 jk_T55 jk_M46)) = some (.inr (.inl (143, [.int 118, .int 97, .int 122], []))) from rfl)).trans ?_
  refine (congrArg (fun z => jm_then z _) (jk_86 (I0 := I0))).trans ?_
  show jm_go (jm_ev 997) 159 (130, [some (.ref 57), some (.int 108), none], [.int 1], (jk_h I0 jk_I153 jk_T55 jk_M46)) = _
  refine (jm_go_steps 6 (show jm_steps 159 6 (130, [some (.ref 57), some (.int 108), none], [.int 1], (jk_h I0 jk_I153 jk_T55 jk_M46)) = some (140, [some (.ref 57), some (.int 108), none], [.int 24, .ref 57], (jk_h I0 jk_I153 jk_T55 jk_M46)) from rfl)).trans ?_
  refine (jm_go_steps 6 (show jm_steps 159 6 (140, [some (.ref 57), some (.int 108), none], [.int 24, .ref 57], (jk_h I0 jk_I153 jk_T55 jk_M46)) = some (111, [some (.ref 57), some (.int 108), none], [.int 30, .int 24], (jk_h I0 jk_I154 jk_T55 jk_M46)) from rfl)).trans ?_
  refine (jm_go_steps 6 (show jm_steps 159 6 (111, [some (.ref 57), some (.int 108), none], [.int 30, .int 24], (jk_h I0 jk_I154 jk_T55 jk_M46)) = some (123, [some (.ref 57), some (.int 108), none], [.int 101], (jk_h I0 jk_I154 jk_T55 jk_M46)) from rfl)).trans ?_
  refine (jm_go_steps 2 (show jm_steps 159 2 (123, [some (.ref 57), some (.int 108), none], [.int 101], (jk_h I0 jk_I154 jk_T55 jk_M46)) = some (127, [some (.ref 57), some (.int 108), none], [.int 122, .int 97, .int 101], (jk_h I0 jk_I154 jk_T55 jk_M46)) from rfl)).trans ?_
  refine (jm_go_call (show jm_step 159 (127, [some (.ref 57), some (.int 108), none], [.int 122, .int 97, .int 101], (jk_h I0 jk_I154 jk_T55 jk_M46)) = some (.inr (.inl (143, [.int 101, .int 97, .int 122], []))) from rfl)).trans ?_
  refine (congrArg (fun z => jm_then z _) (jk_87 (I0 := I0))).trans ?_
  show jm_go (jm_ev 997) 159 (130, [some (.ref 57), some (.int 108), none], [.int 1], (jk_h I0 jk_I154 jk_T55 jk_M46)) = _
  refine (jm_go_steps 6 (show jm_steps 159 6 (130, [some (.ref 57), some (.int 108), none], [.int 1], (jk_h I0 jk_I154 jk_T55 jk_M46)) = some (140, [some (.ref 57), some (.int 108), none], [.int 25, .ref 57], (jk_h I0 jk_I154 jk_T55 jk_M46)) from rfl)).trans ?_
  refine (jm_go_steps 6 (show jm_steps 159 6 (140, [some (.ref 57), some (.int 108), none], [.int 25, .ref 57], (jk_h I0 jk_I154 jk_T55 jk_M46)) = some (111, [some (.ref 57), some (.int 108), none], [.int 30, .int 25], (jk_h I0 jk_I155 jk_T55 jk_M46)) from rfl)).trans ?_
  refine (jm_go_steps 6 (show jm_steps 159 6 (111, [some (.ref 57), some (.int 108), none], [.int 30, .int 25], (jk_h I0 jk_I155 jk_T55 jk_M46)) = some (123, [some (.ref 57), some (.int 108), none], [.int 115], (jk_h I0 jk_I155 jk_T55 jk_M46)) from rfl)).trans ?_
  refine (jm_go_steps 2 (show jm_steps 159 2 (123, [some (.ref 57), some (.int 108), none], [.int 115], (jk_h I0 jk_I155 jk_T55 jk_M46)) = some (127, [some (.ref 57), some (.int 108), none], [.int 122, .int 97, .int 115], (jk_h I0 jk_I155 jk_T55 jk_M46)) from rfl)).trans ?_
  refine (jm_go_call (show jm_step 159 (127, [some (.ref 57), some (.int 108), none], [.int 122, .int 97, .int 115], (jk_h I0 jk_I155 jk_T55 jk_M46)) = some (.inr (.inl (143, [.int 115, .int 97, .int 122], []))) from rfl)).trans ?_
  refine (congrArg (fun z => jm_then z _) (jk_88 (I0 := I0))).trans ?_
  show jm_go (jm_ev 997) 159 (130, [some (.ref 57), some (.int 108), none], [.int 1], (jk_h I0 jk_I155 jk_T55 jk_M46)) = _
  refine (jm_go_steps 6 (show jm_steps 159 6 (130, [some (.ref 57), some (.int 108), none], [.int 1], (jk_h I0 jk_I155 jk_T55 jk_M46)) = some (140, [some (.ref 57), some (.int 108), none], [.int 26, .ref 57], (jk_h I0 jk_I155 jk_T55 jk_M46)) from rfl)).trans ?_
  refine (jm_go_steps 6 (show jm_steps 159 6 (140, [some (.ref 57), some (.int 108), none], [.int 26, .ref 57], (jk_h I0 jk_I155 jk_T55 jk_M46)) = some (111, [some (.ref 57), some (.int 108), none], [.int 30, .int 26], (jk_h I0 jk_I156 jk_T55 jk_M46)) from rfl)).trans ?_
  refine (jm_go_steps 6 (show jm_steps 159 6 (111, [some (.ref 57), some (.int 108), none], [.int 30, .int 26], (jk_h I0 jk_I156 jk_T55 jk_M46)) = some (123, [some (.ref 57), some (.int 108), none], [.int 32], (jk_h I0 jk_I156 jk_T55 jk_M46)) from rfl)).trans ?_
  refine (jm_go_steps 2 (show jm_steps 159 2 (123, [some (.ref 57), some (.int 108), none], [.int 32], (jk_h I0 jk_I156 jk_T55 jk_M46)) = some (127, [some (.ref 57), some (.int 108), none], [.int 122, .int 97, .int 32], (jk_h I0 jk_I156 jk_T55 jk_M46)) from rfl)).trans ?_
  refine (jm_go_call (show jm_step 159 (127, [some (.ref 57), some (.int 108), none], [.int 122, .int 97, .int 32], (jk_h I0 jk_I156 jk_T55 jk_M46)) = some (.inr (.inl (143, [.int 32, .int 97, .int 122], []))) from rfl)).trans ?_
  refine (congrArg (fun z => jm_then z _) (jk_89 (I0 := I0))).trans ?_
  show jm_go (jm_ev 997) 159 (130, [some (.ref 57), some (.int 108), none], [.int 0], (jk_h I0 jk_I156 jk_T55 jk_M46)) = _
  refine (jm_go_steps 6 (show jm_steps 159 6 (130, [some (.ref 57), some (.int 108), none], [.int 0], (jk_h I0 jk_I156 jk_T55 jk_M46)) = some (155, [some (.ref 57), some (.int 108), none], [.int 26, .int 20, .ref 57], (jk_h I0 jk_I156 jk_T55 jk_M46)) from rfl)).trans ?_
  refine (jm_go_call (show jm_step 159 (155, [some (.ref 57), some (.int 108), none], [.int 26, .int 20, .ref 57], (jk_h I0 jk_I156 jk_T55 jk_M46)) = some (.inr (.inl (158, [.ref 57, .int 20, .int 26], []))) from rfl)).trans ?_
  refine (congrArg (fun z => jm_then z _) (jk_90 (I0 := I0))).trans ?_
  show jm_go (jm_ev 997) 159 (158, [some (.ref 57), some (.int 108), none], [.int 2], (jk_h I0 jk_I156 jk_T55 jk_M46)) = _
  refine (jm_go_steps 6 (show jm_steps 159 6 (158, [some (.ref 57), some (.int 108), none], [.int 2], (jk_h I0 jk_I156 jk_T55 jk_M46)) = some (166, [some (.ref 57), some (.int 108), some (.int 2)], [.int 3, .ref 57], (jk_h I0 jk_I156 jk_T55 jk_M46)) from rfl)).trans ?_
  refine (jm_go_steps 6 (show jm_steps 159 6 (166, [some (.ref 57), some (.int 108), some (.int 2)], [.int 3, .ref 57], (jk_h I0 jk_I156 jk_T55 jk_M46)) = some (204, [some (.ref 57), some (.int 108), some (.int 2)], [.ref 57], (jk_h I0 jk_I157 jk_T55 jk_M46)) from rfl)).trans ?_
  refine (jm_go_steps 4 (show jm_steps 159 4 (204, [some (.ref 57), some (.int 108), some (.int 2)], [.ref 57], (jk_h I0 jk_I157 jk_T55 jk_M46)) = some (403, [some (.ref 57), some (.int 108), some (.int 2)], [], (jk_h I0 jk_I158 jk_T55 jk_M46)) from rfl)).trans ?_
  exact jm_go_ret rfl
