/-! the constructors, on -/
def jk_I159 : List (Nat × Option (Nat × Int32)) := (66, some (2, 2)) :: jk_I158
def jk_I160 : List (Nat × Option (Nat × Int32)) := (57, some (29, 0)) :: (57, some (28, 0)) :: jk_I159
def jk_I161 : List (Nat × Option (Nat × Int32)) := (57, some (22, 27)) :: jk_I160
def jk_I162 : List (Nat × Option (Nat × Int32)) := (57, some (23, 27)) :: jk_I161
def jk_I163 : List (Nat × Option (Nat × Int32)) := (57, some (25, 0)) :: (57, some (24, 0)) :: jk_I162
set_option maxRecDepth 20000 in
theorem jk_92 {I0 : Nat → Nat → Int32} : jm_ev 996 143 [.int 48, .int 97, .int 122] (jk_h I0 jk_I163 jk_T55 jk_M46) = some (some (.int 0), (jk_h I0 jk_I163 jk_T55 jk_M46)) := by
  refine (jk_ev (d := 995) (by decide)).trans ?_
  refine (jm_go_steps 4 (show jm_steps 143 4 (jm_entry 143 [.int 48, .int 97, .int 122] (jk_h I0 jk_I163 jk_T55 jk_M46)) = some (15, [some (.int 48), some (.int 97), some (.int 122)], [.int 0], (jk_h I0 jk_I163 jk_T55 jk_M46)) from rfl)).trans ?_
  exact jm_go_ret rfl
set_option maxRecDepth 20000 in
theorem jk_93 {I0 : Nat → Nat → Int32} : jm_ev 996 143 [.int 48, .int 48, .int 57] (jk_h I0 jk_I163 jk_T55 jk_M46) = some (some (.int 1), (jk_h I0 jk_I163 jk_T55 jk_M46)) := by
  refine (jk_ev (d := 995) (by decide)).trans ?_
  refine (jm_go_steps 8 (show jm_steps 143 8 (jm_entry 143 [.int 48, .int 48, .int 57] (jk_h I0 jk_I163 jk_T55 jk_M46)) = some (15, [some (.int 48), some (.int 48), some (.int 57)], [.int 1], (jk_h I0 jk_I163 jk_T55 jk_M46)) from rfl)).trans ?_
  exact jm_go_ret rfl
set_option maxRecDepth 20000 in
theorem jk_94 {I0 : Nat → Nat → Int32} : jm_ev 996 143 [.int 48, .int 48, .int 57] (jk_h I0 jk_I163 jk_T55 jk_M46) = some (some (.int 1), (jk_h I0 jk_I163 jk_T55 jk_M46)) := by
  refine (jk_ev (d := 995) (by decide)).trans ?_
  refine (jm_go_steps 8 (show jm_steps 143 8 (jm_entry 143 [.int 48, .int 48, .int 57] (jk_h I0 jk_I163 jk_T55 jk_M46)) = some (15, [some (.int 48), some (.int 48), some (.int 57)], [.int 1], (jk_h I0 jk_I163 jk_T55 jk_M46)) from rfl)).trans ?_
  exact jm_go_ret rfl
def jk_I164 : List (Nat × Option (Nat × Int32)) := (57, some (25, 0)) :: jk_I163
def jk_I165 : List (Nat × Option (Nat × Int32)) := (57, some (22, 28)) :: jk_I164
set_option maxRecDepth 20000 in
theorem jk_95 {I0 : Nat → Nat → Int32} : jm_ev 996 143 [.int 32, .int 48, .int 57] (jk_h I0 jk_I165 jk_T55 jk_M46) = some (some (.int 0), (jk_h I0 jk_I165 jk_T55 jk_M46)) := by
  refine (jk_ev (d := 995) (by decide)).trans ?_
  refine (jm_go_steps 4 (show jm_steps 143 4 (jm_entry 143 [.int 32, .int 48, .int 57] (jk_h I0 jk_I165 jk_T55 jk_M46)) = some (15, [some (.int 32), some (.int 48), some (.int 57)], [.int 0], (jk_h I0 jk_I165 jk_T55 jk_M46)) from rfl)).trans ?_
  exact jm_go_ret rfl
def jk_I166 : List (Nat × Option (Nat × Int32)) := (57, some (24, 1)) :: jk_I165
set_option maxRecDepth 20000 in
theorem jk_96 {I0 : Nat → Nat → Int32} : jm_ev 997 159 [.ref 57] (jk_h I0 jk_I160 jk_T55 jk_M46) = some (none, (jk_h I0 jk_I166 jk_T55 jk_M46)) := by
  refine (jk_ev (d := 996) (by decide)).trans ?_
  refine (jm_go_steps 6 (show jm_steps 159 6 (jm_entry 159 [.ref 57] (jk_h I0 jk_I160 jk_T55 jk_M46)) = some (12, [some (.ref 57), none, none], [.ref 57], (jk_h I0 jk_I160 jk_T55 jk_M46)) from rfl)).trans ?_
  refine (jm_go_steps 4 (show jm_steps 159 4 (12, [some (.ref 57), none, none], [.ref 57], (jk_h I0 jk_I160 jk_T55 jk_M46)) = some (20, [some (.ref 57), none, none], [.int 32], (jk_h I0 jk_I160 jk_T55 jk_M46)) from rfl)).trans ?_
  refine (jm_go_steps 6 (show jm_steps 159 6 (20, [some (.ref 57), none, none], [.int 32], (jk_h I0 jk_I160 jk_T55 jk_M46)) = some (45, [some (.ref 57), none, none], [.int 1, .int 26, .ref 57], (jk_h I0 jk_I160 jk_T55 jk_M46)) from rfl)).trans ?_
  refine (jm_go_steps 1 (show jm_steps 159 1 (45, [some (.ref 57), none, none], [.int 1, .int 26, .ref 57], (jk_h I0 jk_I160 jk_T55 jk_M46)) = some (46, [some (.ref 57), none, none], [.int 27, .ref 57], (jk_h I0 jk_I160 jk_T55 jk_M46)) from rfl)).trans ?_
  refine (jm_go_steps 6 (show jm_steps 159 6 (46, [some (.ref 57), none, none], [.int 27, .ref 57], (jk_h I0 jk_I160 jk_T55 jk_M46)) = some (8, [some (.ref 57), none, none], [.int 30, .int 27], (jk_h I0 jk_I161 jk_T55 jk_M46)) from rfl)).trans ?_
  refine (jm_go_steps 6 (show jm_steps 159 6 (8, [some (.ref 57), none, none], [.int 30, .int 27], (jk_h I0 jk_I161 jk_T55 jk_M46)) = some (20, [some (.ref 57), none, none], [.int 48], (jk_h I0 jk_I161 jk_T55 jk_M46)) from rfl)).trans ?_
  refine (jm_go_steps 6 (show jm_steps 159 6 (20, [some (.ref 57), none, none], [.int 48], (jk_h I0 jk_I161 jk_T55 jk_M46)) = some (33, [some (.ref 57), none, none], [.int 27, .ref 64], (jk_h I0 jk_I161 jk_T55 jk_M46)) from rfl)).trans ?_
  refine (jm_go_steps 1 (show jm_steps 159 1 (33, [some (.ref 57), none, none], [.int 27, .ref 64], (jk_h I0 jk_I161 jk_T55 jk_M46)) = some (34, [some (.ref 57), none, none], [.int 48], (jk_h I0 jk_I161 jk_T55 jk_M46)) from rfl)).trans ?_
  refine (jm_go_steps 6 (show jm_steps 159 6 (34, [some (.ref 57), none, none], [.int 48], (jk_h I0 jk_I161 jk_T55 jk_M46)) = some (60, [some (.ref 57), none, none], [], (jk_h I0 jk_I162 jk_T55 jk_M46)) from rfl)).trans ?_
  refine (jm_go_steps 6 (show jm_steps 159 6 (60, [some (.ref 57), none, none], [], (jk_h I0 jk_I162 jk_T55 jk_M46)) = some (70, [some (.ref 57), none, none], [], (jk_h I0 jk_I163 jk_T55 jk_M46)) from rfl)).trans ?_
  refine (jm_go_steps 6 (show jm_steps 159 6 (70, [some (.ref 57), none, none], [], (jk_h I0 jk_I163 jk_T55 jk_M46)) = some (83, [some (.ref 57), none, none], [.ref 57], (jk_h I0 jk_I163 jk_T55 jk_M46)) from rfl)).trans ?_
  refine (jm_go_steps 4 (show jm_steps 159 4 (83, [some (.ref 57), none, none], [.ref 57], (jk_h I0 jk_I163 jk_T55 jk_M46)) = some (91, [some (.ref 57), none, none], [.int 48], (jk_h I0 jk_I163 jk_T55 jk_M46)) from rfl)).trans ?_
  refine (jm_go_steps 4 (show jm_steps 159 4 (91, [some (.ref 57), none, none], [.int 48], (jk_h I0 jk_I163 jk_T55 jk_M46)) = some (97, [some (.ref 57), some (.int 48), none], [.int 122, .int 97, .int 48], (jk_h I0 jk_I163 jk_T55 jk_M46)) from rfl)).trans ?_
  refine (jm_go_call (show jm_step 159 (97, [some (.ref 57), some (.int 48), none], [.int 122, .int 97, .int 48], (jk_h I0 jk_I163 jk_T55 jk_M46)) = some (.inr (.inl (143, [.int 48, .int 97, .int 122], []))) from rfl)).trans ?_
  refine (congrArg (fun z => jm_then z _) (jk_92 (I0 := I0))).trans ?_
  show jm_go (jm_ev 996) 159 (100, [some (.ref 57), some (.int 48), none], [.int 0], (jk_h I0 jk_I163 jk_T55 jk_M46)) = _
  refine (jm_go_steps 4 (show jm_steps 159 4 (100, [some (.ref 57), some (.int 48), none], [.int 0], (jk_h I0 jk_I163 jk_T55 jk_M46)) = some (222, [some (.ref 57), some (.int 48), none], [.int 57, .int 48, .int 48], (jk_h I0 jk_I163 jk_T55 jk_M46)) from rfl)).trans ?_
  refine (jm_go_call (show jm_step 159 (222, [some (.ref 57), some (.int 48), none], [.int 57, .int 48, .int 48], (jk_h I0 jk_I163 jk_T55 jk_M46)) = some (.inr (.inl (143, [.int 48, .int 48, .int 57], []))) from rfl)).trans ?_
  refine (congrArg (fun z => jm_then z _) (jk_93 (I0 := I0))).trans ?_
  show jm_go (jm_ev 996) 159 (225, [some (.ref 57), some (.int 48), none], [.int 1], (jk_h I0 jk_I163 jk_T55 jk_M46)) = _
  refine (jm_go_steps 6 (show jm_steps 159 6 (225, [some (.ref 57), some (.int 48), none], [.int 1], (jk_h I0 jk_I163 jk_T55 jk_M46)) = some (235, [some (.ref 57), some (.int 48), some (.int 0)], [.ref 57, .int 27], (jk_h I0 jk_I163 jk_T55 jk_M46)) from rfl)).trans ?_
  refine (jm_go_steps 6 (show jm_steps 159 6 (235, [some (.ref 57), some (.int 48), some (.int 0)], [.ref 57, .int 27], (jk_h I0 jk_I163 jk_T55 jk_M46)) = some (249, [some (.ref 57), some (.int 48), some (.int 0)], [.int 27, .ref 64], (jk_h I0 jk_I163 jk_T55 jk_M46)) from rfl)).trans ?_
  refine (jm_go_steps 1 (show jm_steps 159 1 (249, [some (.ref 57), some (.int 48), some (.int 0)], [.int 27, .ref 64], (jk_h I0 jk_I163 jk_T55 jk_M46)) = some (250, [some (.ref 57), some (.int 48), some (.int 0)], [.int 48], (jk_h I0 jk_I163 jk_T55 jk_M46)) from rfl)).trans ?_
  refine (jm_go_steps 2 (show jm_steps 159 2 (250, [some (.ref 57), some (.int 48), some (.int 0)], [.int 48], (jk_h I0 jk_I163 jk_T55 jk_M46)) = some (254, [some (.ref 57), some (.int 48), some (.int 0)], [.int 57, .int 48, .int 48], (jk_h I0 jk_I163 jk_T55 jk_M46)) from rfl)).trans ?_
  refine (jm_go_call (show jm_step 159 (254, [some (.ref 57), some (.int 48), some (.int 0)], [.int 57, .int 48, .int 48], (jk_h I0 jk_I163 jk_T55 jk_M46)) = some (.inr (.inl (143, [.int 48, .int 48, .int 57], []))) from rfl)).trans ?_
  refine (congrArg (fun z => jm_then z _) (jk_94 (I0 := I0))).trans ?_
  show jm_go (jm_ev 996) 159 (257, [some (.ref 57), some (.int 48), some (.int 0)], [.int 1], (jk_h I0 jk_I163 jk_T55 jk_M46)) = _
  refine (jm_go_steps 6 (show jm_steps 159 6 (257, [some (.ref 57), some (.int 48), some (.int 0)], [.int 1], (jk_h I0 jk_I163 jk_T55 jk_M46)) = some (268, [some (.ref 57), some (.int 48), some (.int 0)], [.int 10, .ref 57], (jk_h I0 jk_I163 jk_T55 jk_M46)) from rfl)).trans ?_
  refine (jm_go_steps 3 (show jm_steps 159 3 (268, [some (.ref 57), some (.int 48), some (.int 0)], [.int 10, .ref 57], (jk_h I0 jk_I163 jk_T55 jk_M46)) = some (273, [some (.ref 57), some (.int 48), some (.int 0)], [.int 0, .ref 57], (jk_h I0 jk_I163 jk_T55 jk_M46)) from rfl)).trans ?_
  refine (jm_go_steps 5 (show jm_steps 159 5 (273, [some (.ref 57), some (.int 48), some (.int 0)], [.int 0, .ref 57], (jk_h I0 jk_I163 jk_T55 jk_M46)) = some (282, [some (.ref 57), some (.int 48), some (.int 0)], [.int 48, .int 0, .ref 57], (jk_h I0 jk_I163 jk_T55 jk_M46)) from rfl)).trans ?_
  refine (jm_go_steps 1 (show jm_steps 159 1 (282, [some (.ref 57), some (.int 48), some (.int 0)], [.int 48, .int 0, .ref 57], (jk_h I0 jk_I163 jk_T55 jk_M46)) = some (283, [some (.ref 57), some (.int 48), some (.int 0)], [.int 48, .ref 57], (jk_h I0 jk_I163 jk_T55 jk_M46)) from rfl)).trans ?_
  refine (jm_go_steps 2 (show jm_steps 159 2 (283, [some (.ref 57), some (.int 48), some (.int 0)], [.int 48, .ref 57], (jk_h I0 jk_I163 jk_T55 jk_M46)) = some (286, [some (.ref 57), some (.int 48), some (.int 0)], [.int 0, .ref 57], (jk_h I0 jk_I163 jk_T55 jk_M46)) from rfl)).trans ?_
  refine (jm_go_steps 6 (show jm_steps 159 6 (286, [some (.ref 57), some (.int 48), some (.int 0)], [.int 0, .ref 57], (jk_h I0 jk_I163 jk_T55 jk_M46)) = some (301, [some (.ref 57), some (.int 48), some (.int 1)], [.int 27, .ref 57], (jk_h I0 jk_I164 jk_T55 jk_M46)) from rfl)).trans ?_
  refine (jm_go_steps 2 (show jm_steps 159 2 (301, [some (.ref 57), some (.int 48), some (.int 1)], [.int 27, .ref 57], (jk_h I0 jk_I164 jk_T55 jk_M46)) = some (303, [some (.ref 57), some (.int 48), some (.int 1)], [.int 28, .ref 57], (jk_h I0 jk_I164 jk_T55 jk_M46)) from rfl)).trans ?_
  refine (jm_go_steps 6 (show jm_steps 159 6 (303, [some (.ref 57), some (.int 48), some (.int 1)], [.int 28, .ref 57], (jk_h I0 jk_I164 jk_T55 jk_M46)) = some (238, [some (.ref 57), some (.int 48), some (.int 1)], [.int 30, .int 28], (jk_h I0 jk_I165 jk_T55 jk_M46)) from rfl)).trans ?_
  refine (jm_go_steps 6 (show jm_steps 159 6 (238, [some (.ref 57), some (.int 48), some (.int 1)], [.int 30, .int 28], (jk_h I0 jk_I165 jk_T55 jk_M46)) = some (250, [some (.ref 57), some (.int 48), some (.int 1)], [.int 32], (jk_h I0 jk_I165 jk_T55 jk_M46)) from rfl)).trans ?_
  refine (jm_go_steps 2 (show jm_steps 159 2 (250, [some (.ref 57), some (.int 48), some (.int 1)], [.int 32], (jk_h I0 jk_I165 jk_T55 jk_M46)) = some (254, [some (.ref 57), some (.int 48), some (.int 1)], [.int 57, .int 48, .int 32], (jk_h I0 jk_I165 jk_T55 jk_M46)) from rfl)).trans ?_
  refine (jm_go_call (show jm_step 159 (254, [some (.ref 57), some (.int 48), some (.int 1)], [.int 57, .int 48, .int 32], (jk_h I0 jk_I165 jk_T55 jk_M46)) = some (.inr (.inl (143, [.int 32, .int 48, .int 57], []))) from rfl)).trans ?_
  refine (congrArg (fun z => jm_then z _) (jk_95 (I0 := I0))).trans ?_
  show jm_go (jm_ev 996) 159 (257, [some (.ref 57), some (.int 48), some (.int 1)], [.int 0], (jk_h I0 jk_I165 jk_T55 jk_M46)) = _
  refine (jm_go_steps 6 (show jm_steps 159 6 (257, [some (.ref 57), some (.int 48), some (.int 1)], [.int 0], (jk_h I0 jk_I165 jk_T55 jk_M46)) = some (320, [some (.ref 57), some (.int 48), some (.int 1)], [.int 1, .ref 57], (jk_h I0 jk_I165 jk_T55 jk_M46)) from rfl)).trans ?_
  refine (jm_go_steps 2 (show jm_steps 159 2 (320, [some (.ref 57), some (.int 48), some (.int 1)], [.int 1, .ref 57], (jk_h I0 jk_I165 jk_T55 jk_M46)) = some (403, [some (.ref 57), some (.int 48), some (.int 1)], [], (jk_h I0 jk_I166 jk_T55 jk_M46)) from rfl)).trans ?_
  exact jm_go_ret rfl
def jk_I167 : List (Nat × Option (Nat × Int32)) := (57, some (30, 3)) :: (65, some (2, 100000)) :: jk_I166
set_option maxRecDepth 20000 in
theorem jk_97 {I0 : Nat → Nat → Int32} : jm_ev 997 161 [.ref 57, .int 100000] (jk_h I0 jk_I166 jk_T55 jk_M46) = some (none, (jk_h I0 jk_I167 jk_T55 jk_M46)) := by
  refine (jk_ev (d := 996) (by decide)).trans ?_
  refine (jm_go_steps 17 (show jm_steps 161 17 (jm_entry 161 [.ref 57, .int 100000] (jk_h I0 jk_I166 jk_T55 jk_M46)) = some (29, [some (.ref 57), some (.int 100000)], [], (jk_h I0 jk_I167 jk_T55 jk_M46)) from rfl)).trans ?_
  exact jm_go_ret rfl
set_option maxRecDepth 20000 in
theorem jk_98 {I0 : Nat → Nat → Int32} : jm_ev 997 162 [.ref 57, .int 7] (jk_h I0 jk_I167 jk_T55 jk_M46) = some (none, (jk_h I0 jk_I167 jk_T55 jk_M46)) := by
  refine (jk_ev (d := 996) (by decide)).trans ?_
  refine (jm_go_steps 3 (show jm_steps 162 3 (jm_entry 162 [.ref 57, .int 7] (jk_h I0 jk_I167 jk_T55 jk_M46)) = some (79, [some (.ref 57), some (.int 7), none], [], (jk_h I0 jk_I167 jk_T55 jk_M46)) from rfl)).trans ?_
  exact jm_go_ret rfl
def jk_I168 : List (Nat × Option (Nat × Int32)) := (57, some (22, 29)) :: jk_I167
def jk_I169 : List (Nat × Option (Nat × Int32)) := (57, some (23, 29)) :: jk_I168
def jk_I170 : List (Nat × Option (Nat × Int32)) := (57, some (25, 0)) :: (57, some (24, 0)) :: jk_I169
set_option maxRecDepth 20000 in
theorem jk_99 {I0 : Nat → Nat → Int32} : jm_ev 996 143 [.int 59, .int 97, .int 122] (jk_h I0 jk_I170 jk_T55 jk_M46) = some (some (.int 0), (jk_h I0 jk_I170 jk_T55 jk_M46)) := by
  refine (jk_ev (d := 995) (by decide)).trans ?_
  refine (jm_go_steps 4 (show jm_steps 143 4 (jm_entry 143 [.int 59, .int 97, .int 122] (jk_h I0 jk_I170 jk_T55 jk_M46)) = some (15, [some (.int 59), some (.int 97), some (.int 122)], [.int 0], (jk_h I0 jk_I170 jk_T55 jk_M46)) from rfl)).trans ?_
  exact jm_go_ret rfl
set_option maxRecDepth 20000 in
theorem jk_100 {I0 : Nat → Nat → Int32} : jm_ev 996 143 [.int 59, .int 48, .int 57] (jk_h I0 jk_I170 jk_T55 jk_M46) = some (some (.int 0), (jk_h I0 jk_I170 jk_T55 jk_M46)) := by
  refine (jk_ev (d := 995) (by decide)).trans ?_
  refine (jm_go_steps 7 (show jm_steps 143 7 (jm_entry 143 [.int 59, .int 48, .int 57] (jk_h I0 jk_I170 jk_T55 jk_M46)) = some (15, [some (.int 59), some (.int 48), some (.int 57)], [.int 0], (jk_h I0 jk_I170 jk_T55 jk_M46)) from rfl)).trans ?_
  exact jm_go_ret rfl
def jk_I171 : List (Nat × Option (Nat × Int32)) := (57, some (24, 59)) :: jk_I170
def jk_I172 : List (Nat × Option (Nat × Int32)) := (57, some (22, 30)) :: jk_I171
set_option maxRecDepth 20000 in
theorem jk_101 {I0 : Nat → Nat → Int32} : jm_ev 997 159 [.ref 57] (jk_h I0 jk_I167 jk_T55 jk_M46) = some (none, (jk_h I0 jk_I172 jk_T55 jk_M46)) := by
  refine (jk_ev (d := 996) (by decide)).trans ?_
  refine (jm_go_steps 6 (show jm_steps 159 6 (jm_entry 159 [.ref 57] (jk_h I0 jk_I167 jk_T55 jk_M46)) = some (12, [some (.ref 57), none, none], [.ref 57], (jk_h I0 jk_I167 jk_T55 jk_M46)) from rfl)).trans ?_
  refine (jm_go_steps 4 (show jm_steps 159 4 (12, [some (.ref 57), none, none], [.ref 57], (jk_h I0 jk_I167 jk_T55 jk_M46)) = some (20, [some (.ref 57), none, none], [.int 32], (jk_h I0 jk_I167 jk_T55 jk_M46)) from rfl)).trans ?_
  refine (jm_go_steps 6 (show jm_steps 159 6 (20, [some (.ref 57), none, none], [.int 32], (jk_h I0 jk_I167 jk_T55 jk_M46)) = some (45, [some (.ref 57), none, none], [.int 1, .int 28, .ref 57], (jk_h I0 jk_I167 jk_T55 jk_M46)) from rfl)).trans ?_
  refine (jm_go_steps 1 (show jm_steps 159 1 (45, [some (.ref 57), none, none], [.int 1, .int 28, .ref 57], (jk_h I0 jk_I167 jk_T55 jk_M46)) = some (46, [some (.ref 57), none, none], [.int 29, .ref 57], (jk_h I0 jk_I167 jk_T55 jk_M46)) from rfl)).trans ?_
  refine (jm_go_steps 6 (show jm_steps 159 6 (46, [some (.ref 57), none, none], [.int 29, .ref 57], (jk_h I0 jk_I167 jk_T55 jk_M46)) = some (8, [some (.ref 57), none, none], [.int 30, .int 29], (jk_h I0 jk_I168 jk_T55 jk_M46)) from rfl)).trans ?_
  refine (jm_go_steps 6 (show jm_steps 159 6 (8, [some (.ref 57), none, none], [.int 30, .int 29], (jk_h I0 jk_I168 jk_T55 jk_M46)) = some (20, [some (.ref 57), none, none], [.int 59], (jk_h I0 jk_I168 jk_T55 jk_M46)) from rfl)).trans ?_
  refine (jm_go_steps 6 (show jm_steps 159 6 (20, [some (.ref 57), none, none], [.int 59], (jk_h I0 jk_I168 jk_T55 jk_M46)) = some (33, [some (.ref 57), none, none], [.int 29, .ref 64], (jk_h I0 jk_I168 jk_T55 jk_M46)) from rfl)).trans ?_
  refine (jm_go_steps 1 (show jm_steps 159 1 (33, [some (.ref 57), none, none], [.int 29, .ref 64], (jk_h I0 jk_I168 jk_T55 jk_M46)) = some (34, [some (.ref 57), none, none], [.int 59], (jk_h I0 jk_I168 jk_T55 jk_M46)) from rfl)).trans ?_
  refine (jm_go_steps 6 (show jm_steps 159 6 (34, [some (.ref 57), none, none], [.int 59], (jk_h I0 jk_I168 jk_T55 jk_M46)) = some (60, [some (.ref 57), none, none], [], (jk_h I0 jk_I169 jk_T55 jk_M46)) from rfl)).trans ?_
  refine (jm_go_steps 6 (show jm_steps 159 6 (60, [some (.ref 57), none, none], [], (jk_h I0 jk_I169 jk_T55 jk_M46)) = some (70, [some (.ref 57), none, none], [], (jk_h I0 jk_I170 jk_T55 jk_M46)) from rfl)).trans ?_
  refine (jm_go_steps 6 (show jm_steps 159 6 (70, [some (.ref 57), none, none], [], (jk_h I0 jk_I170 jk_T55 jk_M46)) = some (83, [some (.ref 57), none, none], [.ref 57], (jk_h I0 jk_I170 jk_T55 jk_M46)) from rfl)).trans ?_
  refine (jm_go_steps 4 (show jm_steps 159 4 (83, [some (.ref 57), none, none], [.ref 57], (jk_h I0 jk_I170 jk_T55 jk_M46)) = some (91, [some (.ref 57), none, none], [.int 59], (jk_h I0 jk_I170 jk_T55 jk_M46)) from rfl)).trans ?_
  refine (jm_go_steps 4 (show jm_steps 159 4 (91, [some (.ref 57), none, none], [.int 59], (jk_h I0 jk_I170 jk_T55 jk_M46)) = some (97, [some (.ref 57), some (.int 59), none], [.int 122, .int 97, .int 59], (jk_h I0 jk_I170 jk_T55 jk_M46)) from rfl)).trans ?_
  refine (jm_go_call (show jm_step 159 (97, [some (.ref 57), some (.int 59), none], [.int 122, .int 97, .int 59], (jk_h I0 jk_I170 jk_T55 jk_M46)) = some (.inr (.inl (143, [.int 59, .int 97, .int 122], []))) from rfl)).trans ?_
  refine (congrArg (fun z => jm_then z _) (jk_99 (I0 := I0))).trans ?_
  show jm_go (jm_ev 996) 159 (100, [some (.ref 57), some (.int 59), none], [.int 0], (jk_h I0 jk_I170 jk_T55 jk_M46)) = _
  refine (jm_go_steps 4 (show jm_steps 159 4 (100, [some (.ref 57), some (.int 59), none], [.int 0], (jk_h I0 jk_I170 jk_T55 jk_M46)) = some (222, [some (.ref 57), some (.int 59), none], [.int 57, .int 48, .int 59], (jk_h I0 jk_I170 jk_T55 jk_M46)) from rfl)).trans ?_
  refine (jm_go_call (show jm_step 159 (222, [some (.ref 57), some (.int 59), none], [.int 57, .int 48, .int 59], (jk_h I0 jk_I170 jk_T55 jk_M46)) = some (.inr (.inl (143, [.int 59, .int 48, .int 57], []))) from rfl)).trans ?_
  refine (congrArg (fun z => jm_then z _) (jk_100 (I0 := I0))).trans ?_
  show jm_go (jm_ev 996) 159 (225, [some (.ref 57), some (.int 59), none], [.int 0], (jk_h I0 jk_I170 jk_T55 jk_M46)) = _
  refine (jm_go_steps 6 (show jm_steps 159 6 (225, [some (.ref 57), some (.int 59), none], [.int 0], (jk_h I0 jk_I170 jk_T55 jk_M46)) = some (335, [some (.ref 57), some (.int 59), none], [.int 41, .int 59], (jk_h I0 jk_I170 jk_T55 jk_M46)) from rfl)).trans ?_
  refine (jm_go_steps 6 (show jm_steps 159 6 (335, [some (.ref 57), some (.int 59), none], [.int 41, .int 59], (jk_h I0 jk_I170 jk_T55 jk_M46)) = some (379, [some (.ref 57), some (.int 59), none], [.int 1], (jk_h I0 jk_I170 jk_T55 jk_M46)) from rfl)).trans ?_
  refine (jm_go_steps 6 (show jm_steps 159 6 (379, [some (.ref 57), some (.int 59), none], [.int 1], (jk_h I0 jk_I170 jk_T55 jk_M46)) = some (390, [some (.ref 57), some (.int 59), some (.int 1)], [.int 59, .ref 57], (jk_h I0 jk_I170 jk_T55 jk_M46)) from rfl)).trans ?_
  refine (jm_go_steps 6 (show jm_steps 159 6 (390, [some (.ref 57), some (.int 59), some (.int 1)], [.int 59, .ref 57], (jk_h I0 jk_I170 jk_T55 jk_M46)) = some (400, [some (.ref 57), some (.int 59), some (.int 1)], [.int 30, .ref 57], (jk_h I0 jk_I171 jk_T55 jk_M46)) from rfl)).trans ?_
  refine (jm_go_steps 1 (show jm_steps 159 1 (400, [some (.ref 57), some (.int 59), some (.int 1)], [.int 30, .ref 57], (jk_h I0 jk_I171 jk_T55 jk_M46)) = some (403, [some (.ref 57), some (.int 59), some (.int 1)], [], (jk_h I0 jk_I172 jk_T55 jk_M46)) from rfl)).trans ?_
  exact jm_go_ret rfl
set_option maxRecDepth 20000 in
theorem jk_102 {I0 : Nat → Nat → Int32} : jm_ev 997 162 [.ref 57, .int 1] (jk_h I0 jk_I172 jk_T55 jk_M46) = some (none, (jk_h I0 jk_I172 jk_T55 jk_M46)) := by
  refine (jk_ev (d := 996) (by decide)).trans ?_
  refine (jm_go_steps 3 (show jm_steps 162 3 (jm_entry 162 [.ref 57, .int 1] (jk_h I0 jk_I172 jk_T55 jk_M46)) = some (79, [some (.ref 57), some (.int 1), none], [], (jk_h I0 jk_I172 jk_T55 jk_M46)) from rfl)).trans ?_
  exact jm_go_ret rfl
set_option maxRecDepth 20000 in
theorem jk_103 {I0 : Nat → Nat → Int32} : jm_ev 998 167 [.ref 57] (jk_h I0 jk_I159 jk_T55 jk_M46) = some (some (.int 1), (jk_h I0 jk_I172 jk_T55 jk_M46)) := by
  refine (jk_ev (d := 997) (by decide)).trans ?_
  refine (jm_go_steps 11 (show jm_steps 167 11 (jm_entry 167 [.ref 57] (jk_h I0 jk_I159 jk_T55 jk_M46)) = some (15, [some (.ref 57), some (.int 1), some (.int 1), none], [.ref 57], (jk_h I0 jk_I160 jk_T55 jk_M46)) from rfl)).trans ?_
  refine (jm_go_call (show jm_step 167 (15, [some (.ref 57), some (.int 1), some (.int 1), none], [.ref 57], (jk_h I0 jk_I160 jk_T55 jk_M46)) = some (.inr (.inl (159, [.ref 57], []))) from rfl)).trans ?_
  refine (congrArg (fun z => jm_then z _) (jk_96 (I0 := I0))).trans ?_
  show jm_go (jm_ev 997) 167 (18, [some (.ref 57), some (.int 1), some (.int 1), none], [], (jk_h I0 jk_I166 jk_T55 jk_M46)) = _
  refine (jm_go_steps 16 (show jm_steps 167 16 (18, [some (.ref 57), some (.int 1), some (.int 1), none], [], (jk_h I0 jk_I166 jk_T55 jk_M46)) = some (61, [some (.ref 57), some (.int 1), some (.int 1), none], [.int 100000, .ref 57], (jk_h I0 jk_I166 jk_T55 jk_M46)) from rfl)).trans ?_
  refine (jm_go_call (show jm_step 167 (61, [some (.ref 57), some (.int 1), some (.int 1), none], [.int 100000, .ref 57], (jk_h I0 jk_I166 jk_T55 jk_M46)) = some (.inr (.inl (161, [.ref 57, .int 100000], []))) from rfl)).trans ?_
  refine (congrArg (fun z => jm_then z _) (jk_97 (I0 := I0))).trans ?_
  show jm_go (jm_ev 997) 167 (64, [some (.ref 57), some (.int 1), some (.int 1), none], [], (jk_h I0 jk_I167 jk_T55 jk_M46)) = _
  refine (jm_go_steps 2 (show jm_steps 167 2 (64, [some (.ref 57), some (.int 1), some (.int 1), none], [], (jk_h I0 jk_I167 jk_T55 jk_M46)) = some (67, [some (.ref 57), some (.int 1), some (.int 1), none], [.int 7, .ref 57], (jk_h I0 jk_I167 jk_T55 jk_M46)) from rfl)).trans ?_
  refine (jm_go_call (show jm_step 167 (67, [some (.ref 57), some (.int 1), some (.int 1), none], [.int 7, .ref 57], (jk_h I0 jk_I167 jk_T55 jk_M46)) = some (.inr (.inl (162, [.ref 57, .int 7], []))) from rfl)).trans ?_
  refine (congrArg (fun z => jm_then z _) (jk_98 (I0 := I0))).trans ?_
  show jm_go (jm_ev 997) 167 (70, [some (.ref 57), some (.int 1), some (.int 1), none], [], (jk_h I0 jk_I167 jk_T55 jk_M46)) = _
  refine (jm_go_steps 4 (show jm_steps 167 4 (70, [some (.ref 57), some (.int 1), some (.int 1), none], [], (jk_h I0 jk_I167 jk_T55 jk_M46)) = some (15, [some (.ref 57), some (.int 0), some (.int 1), none], [.ref 57], (jk_h I0 jk_I167 jk_T55 jk_M46)) from rfl)).trans ?_
  refine (jm_go_call (show jm_step 167 (15, [some (.ref 57), some (.int 0), some (.int 1), none], [.ref 57], (jk_h I0 jk_I167 jk_T55 jk_M46)) = some (.inr (.inl (159, [.ref 57], []))) from rfl)).trans ?_
  refine (congrArg (fun z => jm_then z _) (jk_101 (I0 := I0))).trans ?_
  show jm_go (jm_ev 997) 167 (18, [some (.ref 57), some (.int 0), some (.int 1), none], [], (jk_h I0 jk_I172 jk_T55 jk_M46)) = _
  refine (jm_go_steps 8 (show jm_steps 167 8 (18, [some (.ref 57), some (.int 0), some (.int 1), none], [], (jk_h I0 jk_I172 jk_T55 jk_M46)) = some (161, [some (.ref 57), some (.int 0), some (.int 1), none], [.int 1, .ref 57], (jk_h I0 jk_I172 jk_T55 jk_M46)) from rfl)).trans ?_
  refine (jm_go_call (show jm_step 167 (161, [some (.ref 57), some (.int 0), some (.int 1), none], [.int 1, .ref 57], (jk_h I0 jk_I172 jk_T55 jk_M46)) = some (.inr (.inl (162, [.ref 57, .int 1], []))) from rfl)).trans ?_
  refine (congrArg (fun z => jm_then z _) (jk_102 (I0 := I0))).trans ?_
  show jm_go (jm_ev 997) 167 (164, [some (.ref 57), some (.int 0), some (.int 1), none], [], (jk_h I0 jk_I172 jk_T55 jk_M46)) = _
  refine (jm_go_steps 5 (show jm_steps 167 5 (164, [some (.ref 57), some (.int 0), some (.int 1), none], [], (jk_h I0 jk_I172 jk_T55 jk_M46)) = some (176, [some (.ref 57), some (.int 0), some (.int 1), none], [.int 1], (jk_h I0 jk_I172 jk_T55 jk_M46)) from rfl)).trans ?_
  exact jm_go_ret rfl
def jk_I173 : List (Nat × Option (Nat × Int32)) := (57, some (24, 0)) :: (57, some (23, 30)) :: jk_I172
def jk_I174 : List (Nat × Option (Nat × Int32)) := (57, some (25, 0)) :: jk_I173
set_option maxRecDepth 20000 in
theorem jk_104 {I0 : Nat → Nat → Int32} : jm_ev 998 159 [.ref 57] (jk_h I0 jk_I172 jk_T55 jk_M46) = some (none, (jk_h I0 jk_I174 jk_T55 jk_M46)) := by
  refine (jk_ev (d := 997) (by decide)).trans ?_
  refine (jm_go_steps 6 (show jm_steps 159 6 (jm_entry 159 [.ref 57] (jk_h I0 jk_I172 jk_T55 jk_M46)) = some (53, [some (.ref 57), none, none], [.ref 57], (jk_h I0 jk_I172 jk_T55 jk_M46)) from rfl)).trans ?_
  refine (jm_go_steps 6 (show jm_steps 159 6 (53, [some (.ref 57), none, none], [.ref 57], (jk_h I0 jk_I172 jk_T55 jk_M46)) = some (65, [some (.ref 57), none, none], [], (jk_h I0 jk_I173 jk_T55 jk_M46)) from rfl)).trans ?_
  refine (jm_go_steps 6 (show jm_steps 159 6 (65, [some (.ref 57), none, none], [], (jk_h I0 jk_I173 jk_T55 jk_M46)) = some (75, [some (.ref 57), none, none], [.ref 57, .int 30], (jk_h I0 jk_I174 jk_T55 jk_M46)) from rfl)).trans ?_
  refine (jm_go_steps 2 (show jm_steps 159 2 (75, [some (.ref 57), none, none], [.ref 57, .int 30], (jk_h I0 jk_I174 jk_T55 jk_M46)) = some (81, [some (.ref 57), none, none], [], (jk_h I0 jk_I174 jk_T55 jk_M46)) from rfl)).trans ?_
  exact jm_go_ret rfl
def jk_I175 : List (Nat × Option (Nat × Int32)) := (57, some (10, 0)) :: (66, some (3, 3)) :: jk_I174
def jk_I176 : List (Nat × Option (Nat × Int32)) := (57, some (13, 1)) :: jk_I175
set_option maxRecDepth 20000 in
theorem jk_105 {I0 : Nat → Nat → Int32} : jm_ev 999 168 [.ref 57] (jk_h I0 jk_I99 jk_T55 jk_M46) = some (some (.int 0), (jk_h I0 jk_I176 jk_T55 jk_M46)) := by
  refine (jk_ev (d := 998) (by decide)).trans ?_
  refine (jm_go_steps 2 (show jm_steps 168 2 (jm_entry 168 [.ref 57] (jk_h I0 jk_I99 jk_T55 jk_M46)) = some (4, [some (.ref 57), none, none], [.int 0], (jk_h I0 jk_I99 jk_T55 jk_M46)) from rfl)).trans ?_
  refine (jm_go_steps 18 (show jm_steps 168 18 (4, [some (.ref 57), none, none], [.int 0], (jk_h I0 jk_I99 jk_T55 jk_M46)) = some (36, [some (.ref 57), some (.int 1), some (.int 0)], [.ref 57], (jk_h I0 jk_I100 jk_T55 jk_M46)) from rfl)).trans ?_
  refine (jm_go_call (show jm_step 168 (36, [some (.ref 57), some (.int 1), some (.int 0)], [.ref 57], (jk_h I0 jk_I100 jk_T55 jk_M46)) = some (.inr (.inl (159, [.ref 57], []))) from rfl)).trans ?_
  refine (congrArg (fun z => jm_then z _) (jk_48 (I0 := I0))).trans ?_
  show jm_go (jm_ev 998) 168 (39, [some (.ref 57), some (.int 1), some (.int 0)], [], (jk_h I0 jk_I109 jk_T55 jk_M46)) = _
  refine (jm_go_steps 2 (show jm_steps 168 2 (39, [some (.ref 57), some (.int 1), some (.int 0)], [], (jk_h I0 jk_I109 jk_T55 jk_M46)) = some (43, [some (.ref 57), some (.int 1), some (.int 0)], [.int 3], (jk_h I0 jk_I109 jk_T55 jk_M46)) from rfl)).trans ?_
  refine (jm_go_steps 4 (show jm_steps 168 4 (43, [some (.ref 57), some (.int 1), some (.int 0)], [.int 3], (jk_h I0 jk_I109 jk_T55 jk_M46)) = some (51, [some (.ref 57), some (.int 1), some (.int 0)], [.int 0], (jk_h I0 jk_I109 jk_T55 jk_M46)) from rfl)).trans ?_
  refine (jm_go_steps 7 (show jm_steps 168 7 (51, [some (.ref 57), some (.int 1), some (.int 0)], [.int 0], (jk_h I0 jk_I109 jk_T55 jk_M46)) = some (65, [some (.ref 57), some (.int 1), some (.int 0)], [.ref 66], (jk_h I0 jk_I109 jk_T55 jk_M46)) from rfl)).trans ?_
  refine (jm_go_steps 3 (show jm_steps 168 3 (65, [some (.ref 57), some (.int 1), some (.int 0)], [.ref 66], (jk_h I0 jk_I109 jk_T55 jk_M46)) = some (70, [some (.ref 57), some (.int 1), some (.int 0)], [.int 0, .int 4, .ref 66], (jk_h I0 jk_I109 jk_T55 jk_M46)) from rfl)).trans ?_
  refine (jm_go_steps 1 (show jm_steps 168 1 (70, [some (.ref 57), some (.int 1), some (.int 0)], [.int 0, .int 4, .ref 66], (jk_h I0 jk_I109 jk_T55 jk_M46)) = some (71, [some (.ref 57), some (.int 1), some (.int 0)], [.int 0, .ref 66], (jk_h I0 jk_I109 jk_T55 jk_M46)) from rfl)).trans ?_
  refine (jm_go_steps 2 (show jm_steps 168 2 (71, [some (.ref 57), some (.int 1), some (.int 0)], [.int 0, .ref 66], (jk_h I0 jk_I109 jk_T55 jk_M46)) = some (73, [some (.ref 57), some (.int 1), some (.int 0)], [.int 0, .ref 66], (jk_h I0 jk_I109 jk_T55 jk_M46)) from rfl)).trans ?_
  refine (jm_go_steps 2 (show jm_steps 168 2 (73, [some (.ref 57), some (.int 1), some (.int 0)], [.int 0, .ref 66], (jk_h I0 jk_I109 jk_T55 jk_M46)) = some (77, [some (.ref 57), some (.int 1), some (.int 0)], [.int 0, .int 0, .ref 66], (jk_h I0 jk_I109 jk_T55 jk_M46)) from rfl)).trans ?_
  refine (jm_go_steps 4 (show jm_steps 168 4 (77, [some (.ref 57), some (.int 1), some (.int 0)], [.int 0, .int 0, .ref 66], (jk_h I0 jk_I109 jk_T55 jk_M46)) = some (83, [some (.ref 57), some (.int 1), some (.int 0)], [.ref 57], (jk_h I0 jk_I110 jk_T55 jk_M46)) from rfl)).trans ?_
  refine (jm_go_call (show jm_step 168 (83, [some (.ref 57), some (.int 1), some (.int 0)], [.ref 57], (jk_h I0 jk_I110 jk_T55 jk_M46)) = some (.inr (.inl (167, [.ref 57], []))) from rfl)).trans ?_
  refine (congrArg (fun z => jm_then z _) (jk_60 (I0 := I0))).trans ?_
  show jm_go (jm_ev 998) 168 (86, [some (.ref 57), some (.int 1), some (.int 0)], [.int 1], (jk_h I0 jk_I123 jk_T55 jk_M46)) = _
  refine (jm_go_steps 12 (show jm_steps 168 12 (86, [some (.ref 57), some (.int 1), some (.int 0)], [.int 1], (jk_h I0 jk_I123 jk_T55 jk_M46)) = some (36, [some (.ref 57), some (.int 1), some (.int 1)], [.ref 57], (jk_h I0 jk_I123 jk_T55 jk_M46)) from rfl)).trans ?_
  refine (jm_go_call (show jm_step 168 (36, [some (.ref 57), some (.int 1), some (.int 1)], [.ref 57], (jk_h I0 jk_I123 jk_T55 jk_M46)) = some (.inr (.inl (159, [.ref 57], []))) from rfl)).trans ?_
  refine (congrArg (fun z => jm_then z _) (jk_69 (I0 := I0))).trans ?_
  show jm_go (jm_ev 998) 168 (39, [some (.ref 57), some (.int 1), some (.int 1)], [], (jk_h I0 jk_I133 jk_T55 jk_M46)) = _
  refine (jm_go_steps 2 (show jm_steps 168 2 (39, [some (.ref 57), some (.int 1), some (.int 1)], [], (jk_h I0 jk_I133 jk_T55 jk_M46)) = some (43, [some (.ref 57), some (.int 1), some (.int 1)], [.int 3], (jk_h I0 jk_I133 jk_T55 jk_M46)) from rfl)).trans ?_
  refine (jm_go_steps 4 (show jm_steps 168 4 (43, [some (.ref 57), some (.int 1), some (.int 1)], [.int 3], (jk_h I0 jk_I133 jk_T55 jk_M46)) = some (51, [some (.ref 57), some (.int 1), some (.int 1)], [.int 1], (jk_h I0 jk_I133 jk_T55 jk_M46)) from rfl)).trans ?_
  refine (jm_go_steps 7 (show jm_steps 168 7 (51, [some (.ref 57), some (.int 1), some (.int 1)], [.int 1], (jk_h I0 jk_I133 jk_T55 jk_M46)) = some (65, [some (.ref 57), some (.int 1), some (.int 1)], [.ref 66], (jk_h I0 jk_I133 jk_T55 jk_M46)) from rfl)).trans ?_
  refine (jm_go_steps 3 (show jm_steps 168 3 (65, [some (.ref 57), some (.int 1), some (.int 1)], [.ref 66], (jk_h I0 jk_I133 jk_T55 jk_M46)) = some (70, [some (.ref 57), some (.int 1), some (.int 1)], [.int 0, .int 4, .ref 66], (jk_h I0 jk_I133 jk_T55 jk_M46)) from rfl)).trans ?_
  refine (jm_go_steps 1 (show jm_steps 168 1 (70, [some (.ref 57), some (.int 1), some (.int 1)], [.int 0, .int 4, .ref 66], (jk_h I0 jk_I133 jk_T55 jk_M46)) = some (71, [some (.ref 57), some (.int 1), some (.int 1)], [.int 0, .ref 66], (jk_h I0 jk_I133 jk_T55 jk_M46)) from rfl)).trans ?_
  refine (jm_go_steps 2 (show jm_steps 168 2 (71, [some (.ref 57), some (.int 1), some (.int 1)], [.int 0, .ref 66], (jk_h I0 jk_I133 jk_T55 jk_M46)) = some (73, [some (.ref 57), some (.int 1), some (.int 1)], [.int 1, .ref 66], (jk_h I0 jk_I133 jk_T55 jk_M46)) from rfl)).trans ?_
  refine (jm_go_steps 2 (show jm_steps 168 2 (73, [some (.ref 57), some (.int 1), some (.int 1)], [.int 1, .ref 66], (jk_h I0 jk_I133 jk_T55 jk_M46)) = some (77, [some (.ref 57), some (.int 1), some (.int 1)], [.int 1, .int 1, .ref 66], (jk_h I0 jk_I133 jk_T55 jk_M46)) from rfl)).trans ?_
  refine (jm_go_steps 4 (show jm_steps 168 4 (77, [some (.ref 57), some (.int 1), some (.int 1)], [.int 1, .int 1, .ref 66], (jk_h I0 jk_I133 jk_T55 jk_M46)) = some (83, [some (.ref 57), some (.int 1), some (.int 1)], [.ref 57], (jk_h I0 jk_I134 jk_T55 jk_M46)) from rfl)).trans ?_
  refine (jm_go_call (show jm_step 168 (83, [some (.ref 57), some (.int 1), some (.int 1)], [.ref 57], (jk_h I0 jk_I134 jk_T55 jk_M46)) = some (.inr (.inl (167, [.ref 57], []))) from rfl)).trans ?_
  refine (congrArg (fun z => jm_then z _) (jk_81 (I0 := I0))).trans ?_
  show jm_go (jm_ev 998) 168 (86, [some (.ref 57), some (.int 1), some (.int 1)], [.int 1], (jk_h I0 jk_I147 jk_T55 jk_M46)) = _
  refine (jm_go_steps 12 (show jm_steps 168 12 (86, [some (.ref 57), some (.int 1), some (.int 1)], [.int 1], (jk_h I0 jk_I147 jk_T55 jk_M46)) = some (36, [some (.ref 57), some (.int 1), some (.int 2)], [.ref 57], (jk_h I0 jk_I147 jk_T55 jk_M46)) from rfl)).trans ?_
  refine (jm_go_call (show jm_step 168 (36, [some (.ref 57), some (.int 1), some (.int 2)], [.ref 57], (jk_h I0 jk_I147 jk_T55 jk_M46)) = some (.inr (.inl (159, [.ref 57], []))) from rfl)).trans ?_
  refine (congrArg (fun z => jm_then z _) (jk_91 (I0 := I0))).trans ?_
  show jm_go (jm_ev 998) 168 (39, [some (.ref 57), some (.int 1), some (.int 2)], [], (jk_h I0 jk_I158 jk_T55 jk_M46)) = _
  refine (jm_go_steps 2 (show jm_steps 168 2 (39, [some (.ref 57), some (.int 1), some (.int 2)], [], (jk_h I0 jk_I158 jk_T55 jk_M46)) = some (43, [some (.ref 57), some (.int 1), some (.int 2)], [.int 3], (jk_h I0 jk_I158 jk_T55 jk_M46)) from rfl)).trans ?_
  refine (jm_go_steps 4 (show jm_steps 168 4 (43, [some (.ref 57), some (.int 1), some (.int 2)], [.int 3], (jk_h I0 jk_I158 jk_T55 jk_M46)) = some (51, [some (.ref 57), some (.int 1), some (.int 2)], [.int 2], (jk_h I0 jk_I158 jk_T55 jk_M46)) from rfl)).trans ?_
  refine (jm_go_steps 7 (show jm_steps 168 7 (51, [some (.ref 57), some (.int 1), some (.int 2)], [.int 2], (jk_h I0 jk_I158 jk_T55 jk_M46)) = some (65, [some (.ref 57), some (.int 1), some (.int 2)], [.ref 66], (jk_h I0 jk_I158 jk_T55 jk_M46)) from rfl)).trans ?_
  refine (jm_go_steps 3 (show jm_steps 168 3 (65, [some (.ref 57), some (.int 1), some (.int 2)], [.ref 66], (jk_h I0 jk_I158 jk_T55 jk_M46)) = some (70, [some (.ref 57), some (.int 1), some (.int 2)], [.int 0, .int 4, .ref 66], (jk_h I0 jk_I158 jk_T55 jk_M46)) from rfl)).trans ?_
  refine (jm_go_steps 1 (show jm_steps 168 1 (70, [some (.ref 57), some (.int 1), some (.int 2)], [.int 0, .int 4, .ref 66], (jk_h I0 jk_I158 jk_T55 jk_M46)) = some (71, [some (.ref 57), some (.int 1), some (.int 2)], [.int 0, .ref 66], (jk_h I0 jk_I158 jk_T55 jk_M46)) from rfl)).trans ?_
  refine (jm_go_steps 2 (show jm_steps 168 2 (71, [some (.ref 57), some (.int 1), some (.int 2)], [.int 0, .ref 66], (jk_h I0 jk_I158 jk_T55 jk_M46)) = some (73, [some (.ref 57), some (.int 1), some (.int 2)], [.int 2, .ref 66], (jk_h I0 jk_I158 jk_T55 jk_M46)) from rfl)).trans ?_
  refine (jm_go_steps 2 (show jm_steps 168 2 (73, [some (.ref 57), some (.int 1), some (.int 2)], [.int 2, .ref 66], (jk_h I0 jk_I158 jk_T55 jk_M46)) = some (77, [some (.ref 57), some (.int 1), some (.int 2)], [.int 2, .int 2, .ref 66], (jk_h I0 jk_I158 jk_T55 jk_M46)) from rfl)).trans ?_
  refine (jm_go_steps 4 (show jm_steps 168 4 (77, [some (.ref 57), some (.int 1), some (.int 2)], [.int 2, .int 2, .ref 66], (jk_h I0 jk_I158 jk_T55 jk_M46)) = some (83, [some (.ref 57), some (.int 1), some (.int 2)], [.ref 57], (jk_h I0 jk_I159 jk_T55 jk_M46)) from rfl)).trans ?_
  refine (jm_go_call (show jm_step 168 (83, [some (.ref 57), some (.int 1), some (.int 2)], [.ref 57], (jk_h I0 jk_I159 jk_T55 jk_M46)) = some (.inr (.inl (167, [.ref 57], []))) from rfl)).trans ?_
  refine (congrArg (fun z => jm_then z _) (jk_103 (I0 := I0))).trans ?_
  show jm_go (jm_ev 998) 168 (86, [some (.ref 57), some (.int 1), some (.int 2)], [.int 1], (jk_h I0 jk_I172 jk_T55 jk_M46)) = _
  refine (jm_go_steps 12 (show jm_steps 168 12 (86, [some (.ref 57), some (.int 1), some (.int 2)], [.int 1], (jk_h I0 jk_I172 jk_T55 jk_M46)) = some (106, [some (.ref 57), some (.int 1), some (.int 3)], [.ref 57], (jk_h I0 jk_I172 jk_T55 jk_M46)) from rfl)).trans ?_
  refine (jm_go_call (show jm_step 168 (106, [some (.ref 57), some (.int 1), some (.int 3)], [.ref 57], (jk_h I0 jk_I172 jk_T55 jk_M46)) = some (.inr (.inl (159, [.ref 57], []))) from rfl)).trans ?_
  refine (congrArg (fun z => jm_then z _) (jk_104 (I0 := I0))).trans ?_
  show jm_go (jm_ev 998) 168 (109, [some (.ref 57), some (.int 1), some (.int 3)], [], (jk_h I0 jk_I174 jk_T55 jk_M46)) = _
  refine (jm_go_steps 2 (show jm_steps 168 2 (109, [some (.ref 57), some (.int 1), some (.int 3)], [], (jk_h I0 jk_I174 jk_T55 jk_M46)) = some (113, [some (.ref 57), some (.int 1), some (.int 3)], [.int 0], (jk_h I0 jk_I174 jk_T55 jk_M46)) from rfl)).trans ?_
  refine (jm_go_steps 6 (show jm_steps 168 6 (113, [some (.ref 57), some (.int 1), some (.int 3)], [.int 0], (jk_h I0 jk_I174 jk_T55 jk_M46)) = some (126, [some (.ref 57), some (.int 1), some (.int 3)], [.ref 66], (jk_h I0 jk_I174 jk_T55 jk_M46)) from rfl)).trans ?_
  refine (jm_go_steps 3 (show jm_steps 168 3 (126, [some (.ref 57), some (.int 1), some (.int 3)], [.ref 66], (jk_h I0 jk_I174 jk_T55 jk_M46)) = some (131, [some (.ref 57), some (.int 1), some (.int 3)], [.int 0, .int 4, .ref 66], (jk_h I0 jk_I174 jk_T55 jk_M46)) from rfl)).trans ?_
  refine (jm_go_steps 1 (show jm_steps 168 1 (131, [some (.ref 57), some (.int 1), some (.int 3)], [.int 0, .int 4, .ref 66], (jk_h I0 jk_I174 jk_T55 jk_M46)) = some (132, [some (.ref 57), some (.int 1), some (.int 3)], [.int 0, .ref 66], (jk_h I0 jk_I174 jk_T55 jk_M46)) from rfl)).trans ?_
  refine (jm_go_steps 2 (show jm_steps 168 2 (132, [some (.ref 57), some (.int 1), some (.int 3)], [.int 0, .ref 66], (jk_h I0 jk_I174 jk_T55 jk_M46)) = some (134, [some (.ref 57), some (.int 1), some (.int 3)], [.int 3, .ref 66], (jk_h I0 jk_I174 jk_T55 jk_M46)) from rfl)).trans ?_
  refine (jm_go_steps 2 (show jm_steps 168 2 (134, [some (.ref 57), some (.int 1), some (.int 3)], [.int 3, .ref 66], (jk_h I0 jk_I174 jk_T55 jk_M46)) = some (138, [some (.ref 57), some (.int 1), some (.int 3)], [.int 3, .int 3, .ref 66], (jk_h I0 jk_I174 jk_T55 jk_M46)) from rfl)).trans ?_
  refine (jm_go_steps 9 (show jm_steps 168 9 (138, [some (.ref 57), some (.int 1), some (.int 3)], [.int 3, .int 3, .ref 66], (jk_h I0 jk_I174 jk_T55 jk_M46)) = some (161, [some (.ref 57), some (.int 1), some (.int 3)], [.int 0, .ref 57], (jk_h I0 jk_I175 jk_T55 jk_M46)) from rfl)).trans ?_
  refine (jm_go_steps 2 (show jm_steps 168 2 (161, [some (.ref 57), some (.int 1), some (.int 3)], [.int 0, .ref 57], (jk_h I0 jk_I175 jk_T55 jk_M46)) = some (163, [some (.ref 57), some (.int 1), some (.int 3)], [.int 1, .ref 57], (jk_h I0 jk_I175 jk_T55 jk_M46)) from rfl)).trans ?_
  refine (jm_go_steps 3 (show jm_steps 168 3 (163, [some (.ref 57), some (.int 1), some (.int 3)], [.int 1, .ref 57], (jk_h I0 jk_I175 jk_T55 jk_M46)) = some (170, [some (.ref 57), some (.int 1), some (.int 3)], [.int 1], (jk_h I0 jk_I176 jk_T55 jk_M46)) from rfl)).trans ?_
  refine (jm_go_steps 2 (show jm_steps 168 2 (170, [some (.ref 57), some (.int 1), some (.int 3)], [.int 1], (jk_h I0 jk_I176 jk_T55 jk_M46)) = some (172, [some (.ref 57), some (.int 1), some (.int 3)], [.int 0], (jk_h I0 jk_I176 jk_T55 jk_M46)) from rfl)).trans ?_
  exact jm_go_ret rfl
set_option maxRecDepth 20000 in
theorem jk_106 {I0 : Nat → Nat → Int32} : jm_ev 1000 142 [.ref 57] (jk_h I0 jk_I57 jk_T48 jk_M39) = some (none, (jk_h I0 jk_I176 jk_T55 jk_M46)) := by
  refine (jk_ev (d := 999) (by decide)).trans ?_
  refine (jm_go_steps 24 (show jm_steps 142 24 (jm_entry 142 [.ref 57] (jk_h I0 jk_I57 jk_T48 jk_M39)) = some (47, [some (.ref 57), none], [.int 12, .ref 57], (jk_h I0 jk_I58 jk_T49 jk_M40)) from rfl)).trans ?_
  refine (jm_go_steps 24 (show jm_steps 142 24 (47, [some (.ref 57), none], [.int 12, .ref 57], (jk_h I0 jk_I58 jk_T49 jk_M40)) = some (95, [some (.ref 57), none], [.int 4, .ref 57], (jk_h I0 jk_I59 jk_T50 jk_M41)) from rfl)).trans ?_
  refine (jm_go_steps 24 (show jm_steps 142 24 (95, [some (.ref 57), none], [.int 4, .ref 57], (jk_h I0 jk_I59 jk_T50 jk_M41)) = some (127, [some (.ref 57), none], [.int 160, .ref 57], (jk_h I0 jk_I60 jk_T51 jk_M42)) from rfl)).trans ?_
  refine (jm_go_steps 24 (show jm_steps 142 24 (127, [some (.ref 57), none], [.int 160, .ref 57], (jk_h I0 jk_I60 jk_T51 jk_M42)) = some (161, [some (.ref 57), none], [.int 115, .int 4, .ref 72, .ref 72, .ref 57], (jk_h I0 jk_I61 jk_T52 jk_M43)) from rfl)).trans ?_
  refine (jm_go_steps 24 (show jm_steps 142 24 (161, [some (.ref 57), none], [.int 115, .int 4, .ref 72, .ref 72, .ref 57], (jk_h I0 jk_I61 jk_T52 jk_M43)) = some (196, [some (.ref 57), none], [.int 100, .int 10, .ref 72, .ref 72, .ref 57], (jk_h I0 jk_I62 jk_T52 jk_M43)) from rfl)).trans ?_
  refine (jm_go_steps 24 (show jm_steps 142 24 (196, [some (.ref 57), none], [.int 100, .int 10, .ref 72, .ref 72, .ref 57], (jk_h I0 jk_I62 jk_T52 jk_M43)) = some (232, [some (.ref 57), none], [.int 49, .int 16, .ref 72, .ref 72, .ref 57], (jk_h I0 jk_I63 jk_T52 jk_M43)) from rfl)).trans ?_
  refine (jm_go_steps 24 (show jm_steps 142 24 (232, [some (.ref 57), none], [.int 49, .int 16, .ref 72, .ref 72, .ref 57], (jk_h I0 jk_I63 jk_T52 jk_M43)) = some (268, [some (.ref 57), none], [.int 97, .int 22, .ref 72, .ref 72, .ref 57], (jk_h I0 jk_I64 jk_T52 jk_M43)) from rfl)).trans ?_
  refine (jm_go_steps 24 (show jm_steps 142 24 (268, [some (.ref 57), none], [.int 97, .int 22, .ref 72, .ref 72, .ref 57], (jk_h I0 jk_I64 jk_T52 jk_M43)) = some (304, [some (.ref 57), none], [.int 32, .int 28, .ref 72, .ref 72, .ref 57], (jk_h I0 jk_I65 jk_T52 jk_M43)) from rfl)).trans ?_
  refine (jm_go_steps 24 (show jm_steps 142 24 (304, [some (.ref 57), none], [.int 32, .int 28, .ref 72, .ref 72, .ref 57], (jk_h I0 jk_I65 jk_T52 jk_M43)) = some (338, [some (.ref 57), none], [.int 110, .int 3, .ref 73, .ref 73, .ref 57], (jk_h I0 jk_I66 jk_T53 jk_M44)) from rfl)).trans ?_
  refine (jm_go_steps 24 (show jm_steps 142 24 (338, [some (.ref 57), none], [.int 110, .int 3, .ref 73, .ref 73, .ref 57], (jk_h I0 jk_I66 jk_T53 jk_M44)) = some (372, [some (.ref 57), none], [.int 97, .int 9, .ref 73, .ref 73, .ref 57], (jk_h I0 jk_I67 jk_T53 jk_M44)) from rfl)).trans ?_
  refine (jm_go_steps 24 (show jm_steps 142 24 (372, [some (.ref 57), none], [.int 97, .int 9, .ref 73, .ref 73, .ref 57], (jk_h I0 jk_I67 jk_T53 jk_M44)) = some (408, [some (.ref 57), none], [.int 32, .int 15, .ref 73, .ref 73, .ref 57], (jk_h I0 jk_I68 jk_T53 jk_M44)) from rfl)).trans ?_
  refine (jm_go_steps 24 (show jm_steps 142 24 (408, [some (.ref 57), none], [.int 32, .int 15, .ref 73, .ref 73, .ref 57], (jk_h I0 jk_I68 jk_T53 jk_M44)) = some (444, [some (.ref 57), none], [.int 115, .int 21, .ref 73, .ref 73, .ref 57], (jk_h I0 jk_I69 jk_T53 jk_M44)) from rfl)).trans ?_
  refine (jm_go_steps 24 (show jm_steps 142 24 (444, [some (.ref 57), none], [.int 115, .int 21, .ref 73, .ref 73, .ref 57], (jk_h I0 jk_I69 jk_T53 jk_M44)) = some (480, [some (.ref 57), none], [.int 107, .int 27, .ref 73, .ref 73, .ref 57], (jk_h I0 jk_I70 jk_T53 jk_M44)) from rfl)).trans ?_
  refine (jm_go_steps 24 (show jm_steps 142 24 (480, [some (.ref 57), none], [.int 107, .int 27, .ref 73, .ref 73, .ref 57], (jk_h I0 jk_I70 jk_T53 jk_M44)) = some (516, [some (.ref 57), none], [.int 111, .int 33, .ref 73, .ref 73, .ref 57], (jk_h I0 jk_I71 jk_T53 jk_M44)) from rfl)).trans ?_
  refine (jm_go_steps 24 (show jm_steps 142 24 (516, [some (.ref 57), none], [.int 111, .int 33, .ref 73, .ref 73, .ref 57], (jk_h I0 jk_I71 jk_T53 jk_M44)) = some (552, [some (.ref 57), none], [.int 32, .int 39, .ref 73, .ref 73, .ref 57], (jk_h I0 jk_I72 jk_T53 jk_M44)) from rfl)).trans ?_
  refine (jm_go_steps 24 (show jm_steps 142 24 (552, [some (.ref 57), none], [.int 32, .int 39, .ref 73, .ref 73, .ref 57], (jk_h I0 jk_I72 jk_T53 jk_M44)) = some (588, [some (.ref 57), none], [.int 32, .int 45, .ref 73, .ref 73, .ref 57], (jk_h I0 jk_I73 jk_T53 jk_M44)) from rfl)).trans ?_
  refine (jm_go_steps 24 (show jm_steps 142 24 (588, [some (.ref 57), none], [.int 32, .int 45, .ref 73, .ref 73, .ref 57], (jk_h I0 jk_I73 jk_T53 jk_M44)) = some (624, [some (.ref 57), none], [.int 32, .int 51, .ref 73, .ref 73, .ref 57], (jk_h I0 jk_I74 jk_T53 jk_M44)) from rfl)).trans ?_
  refine (jm_go_steps 24 (show jm_steps 142 24 (624, [some (.ref 57), none], [.int 32, .int 51, .ref 73, .ref 73, .ref 57], (jk_h I0 jk_I74 jk_T53 jk_M44)) = some (660, [some (.ref 57), none], [.int 112, .int 57, .ref 73, .ref 73, .ref 57], (jk_h I0 jk_I75 jk_T53 jk_M44)) from rfl)).trans ?_
  refine (jm_go_steps 24 (show jm_steps 142 24 (660, [some (.ref 57), none], [.int 112, .int 57, .ref 73, .ref 73, .ref 57], (jk_h I0 jk_I75 jk_T53 jk_M44)) = some (696, [some (.ref 57), none], [.int 32, .int 63, .ref 73, .ref 73, .ref 57], (jk_h I0 jk_I76 jk_T53 jk_M44)) from rfl)).trans ?_
  refine (jm_go_steps 24 (show jm_steps 142 24 (696, [some (.ref 57), none], [.int 32, .int 63, .ref 73, .ref 73, .ref 57], (jk_h I0 jk_I76 jk_T53 jk_M44)) = some (732, [some (.ref 57), none], [.int 32, .int 69, .ref 73, .ref 73, .ref 57], (jk_h I0 jk_I77 jk_T53 jk_M44)) from rfl)).trans ?_
  refine (jm_go_steps 24 (show jm_steps 142 24 (732, [some (.ref 57), none], [.int 32, .int 69, .ref 73, .ref 73, .ref 57], (jk_h I0 jk_I77 jk_T53 jk_M44)) = some (768, [some (.ref 57), none], [.int 32, .int 75, .ref 73, .ref 73, .ref 57], (jk_h I0 jk_I78 jk_T53 jk_M44)) from rfl)).trans ?_
  refine (jm_go_steps 24 (show jm_steps 142 24 (768, [some (.ref 57), none], [.int 32, .int 75, .ref 73, .ref 73, .ref 57], (jk_h I0 jk_I78 jk_T53 jk_M44)) = some (804, [some (.ref 57), none], [.int 110, .int 81, .ref 73, .ref 73, .ref 57], (jk_h I0 jk_I79 jk_T53 jk_M44)) from rfl)).trans ?_
  refine (jm_go_steps 24 (show jm_steps 142 24 (804, [some (.ref 57), none], [.int 110, .int 81, .ref 73, .ref 73, .ref 57], (jk_h I0 jk_I79 jk_T53 jk_M44)) = some (840, [some (.ref 57), none], [.int 32, .int 87, .ref 73, .ref 73, .ref 57], (jk_h I0 jk_I80 jk_T53 jk_M44)) from rfl)).trans ?_
  refine (jm_go_steps 24 (show jm_steps 142 24 (840, [some (.ref 57), none], [.int 32, .int 87, .ref 73, .ref 73, .ref 57], (jk_h I0 jk_I80 jk_T53 jk_M44)) = some (876, [some (.ref 57), none], [.int 32, .int 93, .ref 73, .ref 73, .ref 57], (jk_h I0 jk_I81 jk_T53 jk_M44)) from rfl)).trans ?_
  refine (jm_go_steps 24 (show jm_steps 142 24 (876, [some (.ref 57), none], [.int 32, .int 93, .ref 73, .ref 73, .ref 57], (jk_h I0 jk_I81 jk_T53 jk_M44)) = some (921, [some (.ref 57), none], [.int 8, .ref 57], (jk_h I0 jk_I82 jk_T54 jk_M45)) from rfl)).trans ?_
  refine (jm_go_steps 24 (show jm_steps 142 24 (921, [some (.ref 57), none], [.int 8, .ref 57], (jk_h I0 jk_I82 jk_T54 jk_M45)) = some (964, [some (.ref 57), some (.int 1)], [], (jk_h I0 jk_I83 jk_T55 jk_M46)) from rfl)).trans ?_
  refine (jm_go_steps 24 (show jm_steps 142 24 (964, [some (.ref 57), some (.int 1)], [], (jk_h I0 jk_I83 jk_T55 jk_M46)) = some (960, [some (.ref 57), some (.int 2)], [.int 105, .int 2, .ref 64], (jk_h I0 jk_I84 jk_T55 jk_M46)) from rfl)).trans ?_
  refine (jm_go_steps 24 (show jm_steps 142 24 (960, [some (.ref 57), some (.int 2)], [.int 105, .int 2, .ref 64], (jk_h I0 jk_I84 jk_T55 jk_M46)) = some (958, [some (.ref 57), some (.int 4)], [.ref 72, .int 4, .ref 64], (jk_h I0 jk_I85 jk_T55 jk_M46)) from rfl)).trans ?_
  refine (jm_go_steps 24 (show jm_steps 142 24 (958, [some (.ref 57), some (.int 4)], [.ref 72, .int 4, .ref 64], (jk_h I0 jk_I85 jk_T55 jk_M46)) = some (954, [some (.ref 57), some (.int 6)], [.int 6, .ref 64], (jk_h I0 jk_I86 jk_T55 jk_M46)) from rfl)).trans ?_
  refine (jm_go_steps 24 (show jm_steps 142 24 (954, [some (.ref 57), some (.int 6)], [.int 6, .ref 64], (jk_h I0 jk_I86 jk_T55 jk_M46)) = some (950, [some (.ref 57), some (.int 8)], [.ref 57], (jk_h I0 jk_I87 jk_T55 jk_M46)) from rfl)).trans ?_
  refine (jm_go_steps 24 (show jm_steps 142 24 (950, [some (.ref 57), some (.int 8)], [.ref 57], (jk_h I0 jk_I87 jk_T55 jk_M46)) = some (946, [some (.ref 57), some (.int 10)], [.int 30, .int 10], (jk_h I0 jk_I88 jk_T55 jk_M46)) from rfl)).trans ?_
  refine (jm_go_steps 24 (show jm_steps 142 24 (946, [some (.ref 57), some (.int 10)], [.int 30, .int 10], (jk_h I0 jk_I88 jk_T55 jk_M46)) = some (943, [some (.ref 57), some (.int 12)], [], (jk_h I0 jk_I89 jk_T55 jk_M46)) from rfl)).trans ?_
  refine (jm_go_steps 24 (show jm_steps 142 24 (943, [some (.ref 57), some (.int 12)], [], (jk_h I0 jk_I89 jk_T55 jk_M46)) = some (961, [some (.ref 57), some (.int 13)], [], (jk_h I0 jk_I90 jk_T55 jk_M46)) from rfl)).trans ?_
  refine (jm_go_steps 24 (show jm_steps 142 24 (961, [some (.ref 57), some (.int 13)], [], (jk_h I0 jk_I90 jk_T55 jk_M46)) = some (959, [some (.ref 57), some (.int 15)], [.int 15, .ref 72, .int 15, .ref 64], (jk_h I0 jk_I91 jk_T55 jk_M46)) from rfl)).trans ?_
  refine (jm_go_steps 24 (show jm_steps 142 24 (959, [some (.ref 57), some (.int 15)], [.int 15, .ref 72, .int 15, .ref 64], (jk_h I0 jk_I91 jk_T55 jk_M46)) = some (955, [some (.ref 57), some (.int 17)], [.ref 57, .int 17, .ref 64], (jk_h I0 jk_I92 jk_T55 jk_M46)) from rfl)).trans ?_
  refine (jm_go_steps 24 (show jm_steps 142 24 (955, [some (.ref 57), some (.int 17)], [.ref 57, .int 17, .ref 64], (jk_h I0 jk_I92 jk_T55 jk_M46)) = some (953, [some (.ref 57), some (.int 19)], [.ref 64], (jk_h I0 jk_I93 jk_T55 jk_M46)) from rfl)).trans ?_
  refine (jm_go_steps 24 (show jm_steps 142 24 (953, [some (.ref 57), some (.int 19)], [.ref 64], (jk_h I0 jk_I93 jk_T55 jk_M46)) = some (949, [some (.ref 57), some (.int 21)], [], (jk_h I0 jk_I94 jk_T55 jk_M46)) from rfl)).trans ?_
  refine (jm_go_steps 24 (show jm_steps 142 24 (949, [some (.ref 57), some (.int 21)], [], (jk_h I0 jk_I94 jk_T55 jk_M46)) = some (944, [some (.ref 57), some (.int 23)], [.int 23], (jk_h I0 jk_I95 jk_T55 jk_M46)) from rfl)).trans ?_
  refine (jm_go_steps 24 (show jm_steps 142 24 (944, [some (.ref 57), some (.int 23)], [.int 23], (jk_h I0 jk_I95 jk_T55 jk_M46)) = some (964, [some (.ref 57), some (.int 25)], [], (jk_h I0 jk_I96 jk_T55 jk_M46)) from rfl)).trans ?_
  refine (jm_go_steps 24 (show jm_steps 142 24 (964, [some (.ref 57), some (.int 25)], [], (jk_h I0 jk_I96 jk_T55 jk_M46)) = some (960, [some (.ref 57), some (.int 26)], [.int 32, .int 26, .ref 64], (jk_h I0 jk_I97 jk_T55 jk_M46)) from rfl)).trans ?_
  refine (jm_go_steps 24 (show jm_steps 142 24 (960, [some (.ref 57), some (.int 26)], [.int 32, .int 26, .ref 64], (jk_h I0 jk_I97 jk_T55 jk_M46)) = some (958, [some (.ref 57), some (.int 28)], [.ref 72, .int 28, .ref 64], (jk_h I0 jk_I98 jk_T55 jk_M46)) from rfl)).trans ?_
  refine (jm_go_steps 24 (show jm_steps 142 24 (958, [some (.ref 57), some (.int 28)], [.ref 72, .int 28, .ref 64], (jk_h I0 jk_I98 jk_T55 jk_M46)) = some (973, [some (.ref 57), some (.int 30)], [], (jk_h I0 jk_I99 jk_T55 jk_M46)) from rfl)).trans ?_
  refine (jm_go_steps 1 (show jm_steps 142 1 (973, [some (.ref 57), some (.int 30)], [], (jk_h I0 jk_I99 jk_T55 jk_M46)) = some (974, [some (.ref 57), some (.int 30)], [.ref 57], (jk_h I0 jk_I99 jk_T55 jk_M46)) from rfl)).trans ?_
  refine (jm_go_call (show jm_step 142 (974, [some (.ref 57), some (.int 30)], [.ref 57], (jk_h I0 jk_I99 jk_T55 jk_M46)) = some (.inr (.inl (168, [.ref 57], []))) from rfl)).trans ?_
  refine (congrArg (fun z => jm_then z _) (jk_105 (I0 := I0))).trans ?_
  show jm_go (jm_ev 999) 142 (977, [some (.ref 57), some (.int 30)], [.int 0], (jk_h I0 jk_I176 jk_T55 jk_M46)) = _
  refine (jm_go_steps 1 (show jm_steps 142 1 (977, [some (.ref 57), some (.int 30)], [.int 0], (jk_h I0 jk_I176 jk_T55 jk_M46)) = some (978, [some (.ref 57), some (.int 30)], [], (jk_h I0 jk_I176 jk_T55 jk_M46)) from rfl)).trans ?_
  exact jm_go_ret rfl
set_option maxRecDepth 20000 in
theorem jk_law {I0 : Nat → Nat → Int32} : jm_go (jm_ev 1000) 245 (0, [some (.ref jm_SCR), none, none, none], [], (jk_h I0 [] [] [])) = jm_go (jm_ev 1000) 245 (18, [some (.ref jm_SCR), some (.ref 0), some (.ref 57), some (.int 0)], [], (jk_h I0 jk_I176 jk_T55 jk_M46)) := by
  refine (jm_go_steps 2 (show jm_steps 245 2 (0, [some (.ref jm_SCR), none, none, none], [], (jk_h I0 [] [] [])) = some (4, [some (.ref jm_SCR), none, none, none], [.ref 0, .ref 0], (jk_h I0 jk_I1 jk_T1 jk_M1)) from rfl)).trans ?_
  refine (jm_go_call (show jm_step 245 (4, [some (.ref jm_SCR), none, none, none], [.ref 0, .ref 0], (jk_h I0 jk_I1 jk_T1 jk_M1)) = some (.inr (.inl (77, [.ref 0], [.ref 0]))) from rfl)).trans ?_
  refine (congrArg (fun z => jm_then z _) (jk_39 (I0 := I0))).trans ?_
  show jm_go (jm_ev 1000) 245 (7, [some (.ref jm_SCR), none, none, none], [.ref 0], (jk_h I0 jk_I56 jk_T47 jk_M38)) = _
  refine (jm_go_steps 3 (show jm_steps 245 3 (7, [some (.ref jm_SCR), none, none, none], [.ref 0], (jk_h I0 jk_I56 jk_T47 jk_M38)) = some (12, [some (.ref jm_SCR), some (.ref 0), none, none], [.ref 57, .ref 57], (jk_h I0 jk_I57 jk_T48 jk_M39)) from rfl)).trans ?_
  refine (jm_go_call (show jm_step 245 (12, [some (.ref jm_SCR), some (.ref 0), none, none], [.ref 57, .ref 57], (jk_h I0 jk_I57 jk_T48 jk_M39)) = some (.inr (.inl (142, [.ref 57], [.ref 57]))) from rfl)).trans ?_
  refine (congrArg (fun z => jm_then z _) (jk_106 (I0 := I0))).trans ?_
  show jm_go (jm_ev 1000) 245 (15, [some (.ref jm_SCR), some (.ref 0), none, none], [.ref 57], (jk_h I0 jk_I176 jk_T55 jk_M46)) = _
  refine (jm_go_steps 3 (show jm_steps 245 3 (15, [some (.ref jm_SCR), some (.ref 0), none, none], [.ref 57], (jk_h I0 jk_I176 jk_T55 jk_M46)) = some (18, [some (.ref jm_SCR), some (.ref 0), some (.ref 57), some (.int 0)], [], (jk_h I0 jk_I176 jk_T55 jk_M46)) from rfl)).trans ?_
  rfl
