/-! the constructors, on -/
def jk_I57 : List (Nat × Option (Nat × Int32)) := (57, none) :: jk_I56
def jk_T48 : List (Nat × Option (Nat × Nat)) := (57, none) :: jk_T47
def jk_M39 : List (Nat × Nat) := [(11, 0), (9, 0), (13, 12), (13, 12), (16, 6), (13, 8), (8, 0), (13, 160), (13, 3), (13, 40), (8, 0), (13, 160), (13, 3), (13, 40), (8, 0), (13, 160), (13, 3), (13, 40), (8, 0), (13, 160), (13, 3), (13, 40), (8, 0), (13, 160), (13, 3), (13, 40), (8, 0), (13, 160), (13, 3), (13, 40), (7, 0), (13, 160), (15, 6), (15, 6), (14, 4), (3, 0), (15, 6), (6, 0), (6, 0), (6, 0), (6, 0), (6, 0), (6, 0), (6, 0), (1, 0), (4, 0), (0, 0), (10, 0), (2, 0), (5, 0), (13, 40), (5, 0), (13, 40), (5, 0), (13, 40), (5, 0), (13, 40), (12, 0)]
def jk_I58 : List (Nat × Option (Nat × Int32)) := (62, none) :: (61, none) :: (60, none) :: (59, none) :: (58, none) :: jk_I57
def jk_T49 : List (Nat × Option (Nat × Nat)) := (57, some (5, 62)) :: (62, none) :: (57, some (4, 61)) :: (61, none) :: (57, some (3, 60)) :: (60, none) :: (57, some (2, 59)) :: (59, none) :: (57, some (1, 58)) :: (58, none) :: jk_T48
def jk_M40 : List (Nat × Nat) := [(11, 0), (9, 0), (13, 12), (13, 12), (16, 6), (13, 8), (8, 0), (13, 160), (13, 3), (13, 40), (8, 0), (13, 160), (13, 3), (13, 40), (8, 0), (13, 160), (13, 3), (13, 40), (8, 0), (13, 160), (13, 3), (13, 40), (8, 0), (13, 160), (13, 3), (13, 40), (8, 0), (13, 160), (13, 3), (13, 40), (7, 0), (13, 160), (15, 6), (15, 6), (14, 4), (3, 0), (15, 6), (6, 0), (6, 0), (6, 0), (6, 0), (6, 0), (6, 0), (6, 0), (1, 0), (4, 0), (0, 0), (10, 0), (2, 0), (5, 0), (13, 40), (5, 0), (13, 40), (5, 0), (13, 40), (5, 0), (13, 40), (12, 0), (13, 6), (13, 6), (13, 24), (13, 12), (13, 12)]
def jk_I59 : List (Nat × Option (Nat × Int32)) := (68, none) :: (67, none) :: (66, none) :: (65, none) :: (64, none) :: (63, none) :: jk_I58
def jk_T50 : List (Nat × Option (Nat × Nat)) := (57, some (17, 68)) :: (68, none) :: (57, some (16, 67)) :: (67, none) :: (57, some (12, 66)) :: (66, none) :: (57, some (11, 65)) :: (65, none) :: (57, some (9, 64)) :: (64, none) :: (57, some (6, 63)) :: (63, none) :: jk_T49
def jk_M41 : List (Nat × Nat) := [(11, 0), (9, 0), (13, 12), (13, 12), (16, 6), (13, 8), (8, 0), (13, 160), (13, 3), (13, 40), (8, 0), (13, 160), (13, 3), (13, 40), (8, 0), (13, 160), (13, 3), (13, 40), (8, 0), (13, 160), (13, 3), (13, 40), (8, 0), (13, 160), (13, 3), (13, 40), (8, 0), (13, 160), (13, 3), (13, 40), (7, 0), (13, 160), (15, 6), (15, 6), (14, 4), (3, 0), (15, 6), (6, 0), (6, 0), (6, 0), (6, 0), (6, 0), (6, 0), (6, 0), (1, 0), (4, 0), (0, 0), (10, 0), (2, 0), (5, 0), (13, 40), (5, 0), (13, 40), (5, 0), (13, 40), (5, 0), (13, 40), (12, 0), (13, 6), (13, 6), (13, 24), (13, 12), (13, 12), (13, 12), (13, 160), (13, 1200), (13, 24), (13, 60), (13, 4)]
def jk_I60 : List (Nat × Option (Nat × Int32)) := (70, none) :: (69, some (3, (-1))) :: (69, some (2, (-1))) :: (69, some (1, (-1))) :: (69, some (0, (-1))) :: (69, none) :: jk_I59
def jk_T51 : List (Nat × Option (Nat × Nat)) := (57, some (19, 70)) :: (70, none) :: (57, some (18, 69)) :: (69, none) :: jk_T50
def jk_M42 : List (Nat × Nat) := [(11, 0), (9, 0), (13, 12), (13, 12), (16, 6), (13, 8), (8, 0), (13, 160), (13, 3), (13, 40), (8, 0), (13, 160), (13, 3), (13, 40), (8, 0), (13, 160), (13, 3), (13, 40), (8, 0), (13, 160), (13, 3), (13, 40), (8, 0), (13, 160), (13, 3), (13, 40), (8, 0), (13, 160), (13, 3), (13, 40), (7, 0), (13, 160), (15, 6), (15, 6), (14, 4), (3, 0), (15, 6), (6, 0), (6, 0), (6, 0), (6, 0), (6, 0), (6, 0), (6, 0), (1, 0), (4, 0), (0, 0), (10, 0), (2, 0), (5, 0), (13, 40), (5, 0), (13, 40), (5, 0), (13, 40), (5, 0), (13, 40), (12, 0), (13, 6), (13, 6), (13, 24), (13, 12), (13, 12), (13, 12), (13, 160), (13, 1200), (13, 24), (13, 60), (13, 4), (13, 4), (13, 4)]
def jk_I61 : List (Nat × Option (Nat × Int32)) := (72, some (3, 110)) :: (72, some (2, 105)) :: (72, some (1, 97)) :: (72, some (0, 103)) :: (72, none) :: (71, none) :: jk_I60
def jk_T52 : List (Nat × Option (Nat × Nat)) := (72, none) :: (57, some (20, 71)) :: (71, none) :: jk_T51
def jk_M43 : List (Nat × Nat) := [(11, 0), (9, 0), (13, 12), (13, 12), (16, 6), (13, 8), (8, 0), (13, 160), (13, 3), (13, 40), (8, 0), (13, 160), (13, 3), (13, 40), (8, 0), (13, 160), (13, 3), (13, 40), (8, 0), (13, 160), (13, 3), (13, 40), (8, 0), (13, 160), (13, 3), (13, 40), (8, 0), (13, 160), (13, 3), (13, 40), (7, 0), (13, 160), (15, 6), (15, 6), (14, 4), (3, 0), (15, 6), (6, 0), (6, 0), (6, 0), (6, 0), (6, 0), (6, 0), (6, 0), (1, 0), (4, 0), (0, 0), (10, 0), (2, 0), (5, 0), (13, 40), (5, 0), (13, 40), (5, 0), (13, 40), (5, 0), (13, 40), (12, 0), (13, 6), (13, 6), (13, 24), (13, 12), (13, 12), (13, 12), (13, 160), (13, 1200), (13, 24), (13, 60), (13, 4), (13, 4), (13, 4), (13, 160), (13, 30)]
def jk_I62 : List (Nat × Option (Nat × Int32)) := (72, some (9, 32)) :: (72, some (8, 59)) :: (72, some (7, 32)) :: (72, some (6, 51)) :: (72, some (5, 32)) :: (72, some (4, 115)) :: jk_I61
def jk_I63 : List (Nat × Option (Nat × Int32)) := (72, some (15, 32)) :: (72, some (14, 115)) :: (72, some (13, 101)) :: (72, some (12, 114)) :: (72, some (11, 97)) :: (72, some (10, 100)) :: jk_I62
def jk_I64 : List (Nat × Option (Nat × Int32)) := (72, some (21, 101)) :: (72, some (20, 108)) :: (72, some (19, 32)) :: (72, some (18, 59)) :: (72, some (17, 32)) :: (72, some (16, 49)) :: jk_I63
def jk_I65 : List (Nat × Option (Nat × Int32)) := (72, some (27, 48)) :: (72, some (26, 32)) :: (72, some (25, 115)) :: (72, some (24, 101)) :: (72, some (23, 118)) :: (72, some (22, 97)) :: jk_I64
def jk_I66 : List (Nat × Option (Nat × Int32)) := (73, some (2, 105)) :: (73, some (1, 97)) :: (73, some (0, 103)) :: (73, none) :: (72, some (29, 59)) :: (72, some (28, 32)) :: jk_I65
def jk_T53 : List (Nat × Option (Nat × Nat)) := (73, none) :: (57, some (21, 72)) :: jk_T52
def jk_M44 : List (Nat × Nat) := [(11, 0), (9, 0), (13, 12), (13, 12), (16, 6), (13, 8), (8, 0), (13, 160), (13, 3), (13, 40), (8, 0), (13, 160), (13, 3), (13, 40), (8, 0), (13, 160), (13, 3), (13, 40), (8, 0), (13, 160), (13, 3), (13, 40), (8, 0), (13, 160), (13, 3), (13, 40), (8, 0), (13, 160), (13, 3), (13, 40), (7, 0), (13, 160), (15, 6), (15, 6), (14, 4), (3, 0), (15, 6), (6, 0), (6, 0), (6, 0), (6, 0), (6, 0), (6, 0), (6, 0), (1, 0), (4, 0), (0, 0), (10, 0), (2, 0), (5, 0), (13, 40), (5, 0), (13, 40), (5, 0), (13, 40), (5, 0), (13, 40), (12, 0), (13, 6), (13, 6), (13, 24), (13, 12), (13, 12), (13, 12), (13, 160), (13, 1200), (13, 24), (13, 60), (13, 4), (13, 4), (13, 4), (13, 160), (13, 30), (13, 96)]
def jk_I67 : List (Nat × Option (Nat × Int32)) := (73, some (8, 100)) :: (73, some (7, 32)) :: (73, some (6, 32)) :: (73, some (5, 32)) :: (73, some (4, 115)) :: (73, some (3, 110)) :: jk_I66
def jk_I68 : List (Nat × Option (Nat × Int32)) := (73, some (14, 32)) :: (73, some (13, 32)) :: (73, some (12, 115)) :: (73, some (11, 101)) :: (73, some (10, 114)) :: (73, some (9, 97)) :: jk_I67
def jk_I69 : List (Nat × Option (Nat × Int32)) := (73, some (20, 101)) :: (73, some (19, 118)) :: (73, some (18, 97)) :: (73, some (17, 101)) :: (73, some (16, 108)) :: (73, some (15, 32)) :: jk_I68
def jk_I70 : List (Nat × Option (Nat × Int32)) := (73, some (26, 99)) :: (73, some (25, 117)) :: (73, some (24, 108)) :: (73, some (23, 32)) :: (73, some (22, 32)) :: (73, some (21, 115)) :: jk_I69
def jk_I71 : List (Nat × Option (Nat × Int32)) := (73, some (32, 100)) :: (73, some (31, 32)) :: (73, some (30, 32)) :: (73, some (29, 32)) :: (73, some (28, 32)) :: (73, some (27, 107)) :: jk_I70
def jk_I72 : List (Nat × Option (Nat × Int32)) := (73, some (38, 32)) :: (73, some (37, 32)) :: (73, some (36, 32)) :: (73, some (35, 114)) :: (73, some (34, 111)) :: (73, some (33, 111)) :: jk_I71
def jk_I73 : List (Nat × Option (Nat × Int32)) := (73, some (44, 101)) :: (73, some (43, 115)) :: (73, some (42, 117)) :: (73, some (41, 111)) :: (73, some (40, 104)) :: (73, some (39, 32)) :: jk_I72
def jk_I74 : List (Nat × Option (Nat × Int32)) := (73, some (50, 121)) :: (73, some (49, 97)) :: (73, some (48, 100)) :: (73, some (47, 32)) :: (73, some (46, 32)) :: (73, some (45, 32)) :: jk_I73
def jk_I75 : List (Nat × Option (Nat × Int32)) := (73, some (56, 111)) :: (73, some (55, 32)) :: (73, some (54, 32)) :: (73, some (53, 32)) :: (73, some (52, 32)) :: (73, some (51, 32)) :: jk_I74
def jk_I76 : List (Nat × Option (Nat × Int32)) := (73, some (62, 32)) :: (73, some (61, 100)) :: (73, some (60, 101)) :: (73, some (59, 110)) :: (73, some (58, 101)) :: (73, some (57, 112)) :: jk_I75
def jk_I77 : List (Nat × Option (Nat × Int32)) := (73, some (68, 32)) :: (73, some (67, 101)) :: (73, some (66, 114)) :: (73, some (65, 111)) :: (73, some (64, 109)) :: (73, some (63, 32)) :: jk_I76
def jk_I78 : List (Nat × Option (Nat × Int32)) := (73, some (74, 32)) :: (73, some (73, 114)) :: (73, some (72, 111)) :: (73, some (71, 32)) :: (73, some (70, 32)) :: (73, some (69, 32)) :: jk_I77
def jk_I79 : List (Nat × Option (Nat × Int32)) := (73, some (80, 97)) :: (73, some (79, 32)) :: (73, some (78, 32)) :: (73, some (77, 32)) :: (73, some (76, 32)) :: (73, some (75, 32)) :: jk_I78
def jk_I80 : List (Nat × Option (Nat × Int32)) := (73, some (86, 32)) :: (73, some (85, 32)) :: (73, some (84, 32)) :: (73, some (83, 32)) :: (73, some (82, 100)) :: (73, some (81, 110)) :: jk_I79
def jk_I81 : List (Nat × Option (Nat × Int32)) := (73, some (92, 32)) :: (73, some (91, 32)) :: (73, some (90, 116)) :: (73, some (89, 111)) :: (73, some (88, 110)) :: (73, some (87, 32)) :: jk_I80
def jk_I82 : List (Nat × Option (Nat × Int32)) := (76, none) :: (75, none) :: (74, none) :: (73, some (95, 32)) :: (73, some (94, 32)) :: (73, some (93, 32)) :: jk_I81
def jk_T54 : List (Nat × Option (Nat × Nat)) := (57, some (32, 76)) :: (76, none) :: (57, some (31, 75)) :: (75, none) :: (57, some (27, 74)) :: (74, none) :: (57, some (26, 73)) :: jk_T53
def jk_M45 : List (Nat × Nat) := [(11, 0), (9, 0), (13, 12), (13, 12), (16, 6), (13, 8), (8, 0), (13, 160), (13, 3), (13, 40), (8, 0), (13, 160), (13, 3), (13, 40), (8, 0), (13, 160), (13, 3), (13, 40), (8, 0), (13, 160), (13, 3), (13, 40), (8, 0), (13, 160), (13, 3), (13, 40), (8, 0), (13, 160), (13, 3), (13, 40), (7, 0), (13, 160), (15, 6), (15, 6), (14, 4), (3, 0), (15, 6), (6, 0), (6, 0), (6, 0), (6, 0), (6, 0), (6, 0), (6, 0), (1, 0), (4, 0), (0, 0), (10, 0), (2, 0), (5, 0), (13, 40), (5, 0), (13, 40), (5, 0), (13, 40), (5, 0), (13, 40), (12, 0), (13, 6), (13, 6), (13, 24), (13, 12), (13, 12), (13, 12), (13, 160), (13, 1200), (13, 24), (13, 60), (13, 4), (13, 4), (13, 4), (13, 160), (13, 30), (13, 96), (13, 200), (13, 200), (13, 6)]
def jk_I83 : List (Nat × Option (Nat × Int32)) := (64, some (0, 103)) :: (79, none) :: (78, none) :: (77, none) :: jk_I82
def jk_T55 : List (Nat × Option (Nat × Nat)) := (57, some (35, 79)) :: (79, none) :: (57, some (34, 78)) :: (78, none) :: (57, some (33, 77)) :: (77, none) :: jk_T54
def jk_M46 : List (Nat × Nat) := [(11, 0), (9, 0), (13, 12), (13, 12), (16, 6), (13, 8), (8, 0), (13, 160), (13, 3), (13, 40), (8, 0), (13, 160), (13, 3), (13, 40), (8, 0), (13, 160), (13, 3), (13, 40), (8, 0), (13, 160), (13, 3), (13, 40), (8, 0), (13, 160), (13, 3), (13, 40), (8, 0), (13, 160), (13, 3), (13, 40), (7, 0), (13, 160), (15, 6), (15, 6), (14, 4), (3, 0), (15, 6), (6, 0), (6, 0), (6, 0), (6, 0), (6, 0), (6, 0), (6, 0), (1, 0), (4, 0), (0, 0), (10, 0), (2, 0), (5, 0), (13, 40), (5, 0), (13, 40), (5, 0), (13, 40), (5, 0), (13, 40), (12, 0), (13, 6), (13, 6), (13, 24), (13, 12), (13, 12), (13, 12), (13, 160), (13, 1200), (13, 24), (13, 60), (13, 4), (13, 4), (13, 4), (13, 160), (13, 30), (13, 96), (13, 200), (13, 200), (13, 6), (13, 8), (13, 8), (13, 4)]
def jk_I84 : List (Nat × Option (Nat × Int32)) := (64, some (1, 97)) :: jk_I83
def jk_I85 : List (Nat × Option (Nat × Int32)) := (64, some (3, 110)) :: (64, some (2, 105)) :: jk_I84
def jk_I86 : List (Nat × Option (Nat × Int32)) := (64, some (5, 32)) :: (64, some (4, 115)) :: jk_I85
def jk_I87 : List (Nat × Option (Nat × Int32)) := (64, some (7, 32)) :: (64, some (6, 51)) :: jk_I86
def jk_I88 : List (Nat × Option (Nat × Int32)) := (64, some (9, 32)) :: (64, some (8, 59)) :: jk_I87
def jk_I89 : List (Nat × Option (Nat × Int32)) := (64, some (11, 97)) :: (64, some (10, 100)) :: jk_I88
def jk_I90 : List (Nat × Option (Nat × Int32)) := (64, some (13, 101)) :: (64, some (12, 114)) :: jk_I89
def jk_I91 : List (Nat × Option (Nat × Int32)) := (64, some (14, 115)) :: jk_I90
def jk_I92 : List (Nat × Option (Nat × Int32)) := (64, some (16, 49)) :: (64, some (15, 32)) :: jk_I91
def jk_I93 : List (Nat × Option (Nat × Int32)) := (64, some (18, 59)) :: (64, some (17, 32)) :: jk_I92
def jk_I94 : List (Nat × Option (Nat × Int32)) := (64, some (20, 108)) :: (64, some (19, 32)) :: jk_I93
def jk_I95 : List (Nat × Option (Nat × Int32)) := (64, some (22, 97)) :: (64, some (21, 101)) :: jk_I94
def jk_I96 : List (Nat × Option (Nat × Int32)) := (64, some (24, 101)) :: (64, some (23, 118)) :: jk_I95
def jk_I97 : List (Nat × Option (Nat × Int32)) := (64, some (25, 115)) :: jk_I96
def jk_I98 : List (Nat × Option (Nat × Int32)) := (64, some (27, 48)) :: (64, some (26, 32)) :: jk_I97
def jk_I99 : List (Nat × Option (Nat × Int32)) := (57, some (10, 30)) :: (64, some (29, 59)) :: (64, some (28, 32)) :: jk_I98
def jk_I100 : List (Nat × Option (Nat × Int32)) := (57, some (30, 0)) :: (57, some (22, 0)) :: jk_I99
def jk_I101 : List (Nat × Option (Nat × Int32)) := (57, some (23, 0)) :: jk_I100
def jk_I102 : List (Nat × Option (Nat × Int32)) := (57, some (25, 0)) :: (57, some (24, 0)) :: jk_I101
set_option maxRecDepth 20000 in
theorem jk_40 {I0 : Nat → Nat → Int32} : jm_ev 997 143 [.int 103, .int 97, .int 122] (jk_h I0 jk_I102 jk_T55 jk_M46) = some (some (.int 1), (jk_h I0 jk_I102 jk_T55 jk_M46)) := by
  refine (jk_ev (d := 996) (by decide)).trans ?_
  refine (jm_go_steps 8 (show jm_steps 143 8 (jm_entry 143 [.int 103, .int 97, .int 122] (jk_h I0 jk_I102 jk_T55 jk_M46)) = some (15, [some (.int 103), some (.int 97), some (.int 122)], [.int 1], (jk_h I0 jk_I102 jk_T55 jk_M46)) from rfl)).trans ?_
  exact jm_go_ret rfl
set_option maxRecDepth 20000 in
theorem jk_41 {I0 : Nat → Nat → Int32} : jm_ev 997 143 [.int 103, .int 97, .int 122] (jk_h I0 jk_I102 jk_T55 jk_M46) = some (some (.int 1), (jk_h I0 jk_I102 jk_T55 jk_M46)) := by
  refine (jk_ev (d := 996) (by decide)).trans ?_
  refine (jm_go_steps 8 (show jm_steps 143 8 (jm_entry 143 [.int 103, .int 97, .int 122] (jk_h I0 jk_I102 jk_T55 jk_M46)) = some (15, [some (.int 103), some (.int 97), some (.int 122)], [.int 1], (jk_h I0 jk_I102 jk_T55 jk_M46)) from rfl)).trans ?_
  exact jm_go_ret rfl
def jk_I103 : List (Nat × Option (Nat × Int32)) := (57, some (22, 1)) :: jk_I102
set_option maxRecDepth 20000 in
theorem jk_42 {I0 : Nat → Nat → Int32} : jm_ev 997 143 [.int 97, .int 97, .int 122] (jk_h I0 jk_I103 jk_T55 jk_M46) = some (some (.int 1), (jk_h I0 jk_I103 jk_T55 jk_M46)) := by
  refine (jk_ev (d := 996) (by decide)).trans ?_
  refine (jm_go_steps 8 (show jm_steps 143 8 (jm_entry 143 [.int 97, .int 97, .int 122] (jk_h I0 jk_I103 jk_T55 jk_M46)) = some (15, [some (.int 97), some (.int 97), some (.int 122)], [.int 1], (jk_h I0 jk_I103 jk_T55 jk_M46)) from rfl)).trans ?_
  exact jm_go_ret rfl
def jk_I104 : List (Nat × Option (Nat × Int32)) := (57, some (22, 2)) :: jk_I103
set_option maxRecDepth 20000 in
theorem jk_43 {I0 : Nat → Nat → Int32} : jm_ev 997 143 [.int 105, .int 97, .int 122] (jk_h I0 jk_I104 jk_T55 jk_M46) = some (some (.int 1), (jk_h I0 jk_I104 jk_T55 jk_M46)) := by
  refine (jk_ev (d := 996) (by decide)).trans ?_
  refine (jm_go_steps 8 (show jm_steps 143 8 (jm_entry 143 [.int 105, .int 97, .int 122] (jk_h I0 jk_I104 jk_T55 jk_M46)) = some (15, [some (.int 105), some (.int 97), some (.int 122)], [.int 1], (jk_h I0 jk_I104 jk_T55 jk_M46)) from rfl)).trans ?_
  exact jm_go_ret rfl
def jk_I105 : List (Nat × Option (Nat × Int32)) := (57, some (22, 3)) :: jk_I104
set_option maxRecDepth 20000 in
theorem jk_44 {I0 : Nat → Nat → Int32} : jm_ev 997 143 [.int 110, .int 97, .int 122] (jk_h I0 jk_I105 jk_T55 jk_M46) = some (some (.int 1), (jk_h I0 jk_I105 jk_T55 jk_M46)) := by
  refine (jk_ev (d := 996) (by decide)).trans ?_
  refine (jm_go_steps 8 (show jm_steps 143 8 (jm_entry 143 [.int 110, .int 97, .int 122] (jk_h I0 jk_I105 jk_T55 jk_M46)) = some (15, [some (.int 110), some (.int 97), some (.int 122)], [.int 1], (jk_h I0 jk_I105 jk_T55 jk_M46)) from rfl)).trans ?_
  exact jm_go_ret rfl
def jk_I106 : List (Nat × Option (Nat × Int32)) := (57, some (22, 4)) :: jk_I105
set_option maxRecDepth 20000 in
theorem jk_45 {I0 : Nat → Nat → Int32} : jm_ev 997 143 [.int 115, .int 97, .int 122] (jk_h I0 jk_I106 jk_T55 jk_M46) = some (some (.int 1), (jk_h I0 jk_I106 jk_T55 jk_M46)) := by
  refine (jk_ev (d := 996) (by decide)).trans ?_
  refine (jm_go_steps 8 (show jm_steps 143 8 (jm_entry 143 [.int 115, .int 97, .int 122] (jk_h I0 jk_I106 jk_T55 jk_M46)) = some (15, [some (.int 115), some (.int 97), some (.int 122)], [.int 1], (jk_h I0 jk_I106 jk_T55 jk_M46)) from rfl)).trans ?_
  exact jm_go_ret rfl
def jk_I107 : List (Nat × Option (Nat × Int32)) := (57, some (22, 5)) :: jk_I106
set_option maxRecDepth 20000 in
theorem jk_46 {I0 : Nat → Nat → Int32} : jm_ev 997 143 [.int 32, .int 97, .int 122] (jk_h I0 jk_I107 jk_T55 jk_M46) = some (some (.int 0), (jk_h I0 jk_I107 jk_T55 jk_M46)) := by
  refine (jk_ev (d := 996) (by decide)).trans ?_
  refine (jm_go_steps 4 (show jm_steps 143 4 (jm_entry 143 [.int 32, .int 97, .int 122] (jk_h I0 jk_I107 jk_T55 jk_M46)) = some (15, [some (.int 32), some (.int 97), some (.int 122)], [.int 0], (jk_h I0 jk_I107 jk_T55 jk_M46)) from rfl)).trans ?_
  exact jm_go_ret rfl
set_option maxRecDepth 20000 in
theorem jk_47 {I0 : Nat → Nat → Int32} : jm_ev 997 158 [.ref 57, .int 0, .int 5] (jk_h I0 jk_I107 jk_T55 jk_M46) = some (some (.int 0), (jk_h I0 jk_I107 jk_T55 jk_M46)) := by
  refine (jk_ev (d := 996) (by decide)).trans ?_
  refine (jm_go_steps 24 (show jm_steps 158 24 (jm_entry 158 [.ref 57, .int 0, .int 5] (jk_h I0 jk_I107 jk_T55 jk_M46)) = some (45, [some (.ref 57), some (.int 0), some (.int 5), some (.int 0), some (.int 1), some (.int 0)], [.int 0, .int 8, .ref 73], (jk_h I0 jk_I107 jk_T55 jk_M46)) from rfl)).trans ?_
  refine (jm_go_steps 24 (show jm_steps 158 24 (45, [some (.ref 57), some (.int 0), some (.int 5), some (.int 0), some (.int 1), some (.int 0)], [.int 0, .int 8, .ref 73], (jk_h I0 jk_I107 jk_T55 jk_M46)) = some (30, [some (.ref 57), some (.int 0), some (.int 5), some (.int 0), some (.int 1), some (.int 1)], [.int 8, .int 1], (jk_h I0 jk_I107 jk_T55 jk_M46)) from rfl)).trans ?_
  refine (jm_go_steps 24 (show jm_steps 158 24 (30, [some (.ref 57), some (.int 0), some (.int 5), some (.int 0), some (.int 1), some (.int 1)], [.int 8, .int 1], (jk_h I0 jk_I107 jk_T55 jk_M46)) = some (75, [some (.ref 57), some (.int 0), some (.int 5), some (.int 0), some (.int 1), some (.int 1)], [], (jk_h I0 jk_I107 jk_T55 jk_M46)) from rfl)).trans ?_
  refine (jm_go_steps 24 (show jm_steps 158 24 (75, [some (.ref 57), some (.int 0), some (.int 5), some (.int 0), some (.int 1), some (.int 1)], [], (jk_h I0 jk_I107 jk_T55 jk_M46)) = some (59, [some (.ref 57), some (.int 0), some (.int 5), some (.int 0), some (.int 1), some (.int 2)], [.ref 57, .int 105], (jk_h I0 jk_I107 jk_T55 jk_M46)) from rfl)).trans ?_
  refine (jm_go_steps 24 (show jm_steps 158 24 (59, [some (.ref 57), some (.int 0), some (.int 5), some (.int 0), some (.int 1), some (.int 2)], [.ref 57, .int 105], (jk_h I0 jk_I107 jk_T55 jk_M46)) = some (49, [some (.ref 57), some (.int 0), some (.int 5), some (.int 0), some (.int 1), some (.int 3)], [.int 3, .ref 73], (jk_h I0 jk_I107 jk_T55 jk_M46)) from rfl)).trans ?_
  refine (jm_go_steps 24 (show jm_steps 158 24 (49, [some (.ref 57), some (.int 0), some (.int 5), some (.int 0), some (.int 1), some (.int 3)], [.int 3, .ref 73], (jk_h I0 jk_I107 jk_T55 jk_M46)) = some (38, [some (.ref 57), some (.int 0), some (.int 5), some (.int 0), some (.int 1), some (.int 4)], [], (jk_h I0 jk_I107 jk_T55 jk_M46)) from rfl)).trans ?_
  refine (jm_go_steps 24 (show jm_steps 158 24 (38, [some (.ref 57), some (.int 0), some (.int 5), some (.int 0), some (.int 1), some (.int 4)], [], (jk_h I0 jk_I107 jk_T55 jk_M46)) = some (82, [some (.ref 57), some (.int 0), some (.int 5), some (.int 0), some (.int 1), some (.int 4)], [], (jk_h I0 jk_I107 jk_T55 jk_M46)) from rfl)).trans ?_
  refine (jm_go_steps 24 (show jm_steps 158 24 (82, [some (.ref 57), some (.int 0), some (.int 5), some (.int 0), some (.int 1), some (.int 4)], [], (jk_h I0 jk_I107 jk_T55 jk_M46)) = some (80, [some (.ref 57), some (.int 0), some (.int 5), some (.int 0), some (.int 1), some (.int 5)], [.int 1], (jk_h I0 jk_I107 jk_T55 jk_M46)) from rfl)).trans ?_
  refine (jm_go_steps 24 (show jm_steps 158 24 (80, [some (.ref 57), some (.int 0), some (.int 5), some (.int 0), some (.int 1), some (.int 5)], [.int 1], (jk_h I0 jk_I107 jk_T55 jk_M46)) = some (76, [some (.ref 57), some (.int 0), some (.int 5), some (.int 0), some (.int 1), some (.int 6)], [.int 1], (jk_h I0 jk_I107 jk_T55 jk_M46)) from rfl)).trans ?_
  refine (jm_go_steps 24 (show jm_steps 158 24 (76, [some (.ref 57), some (.int 0), some (.int 5), some (.int 0), some (.int 1), some (.int 6)], [.int 1], (jk_h I0 jk_I107 jk_T55 jk_M46)) = some (75, [some (.ref 57), some (.int 0), some (.int 5), some (.int 0), some (.int 1), some (.int 7)], [], (jk_h I0 jk_I107 jk_T55 jk_M46)) from rfl)).trans ?_
  refine (jm_go_steps 11 (show jm_steps 158 11 (75, [some (.ref 57), some (.int 0), some (.int 5), some (.int 0), some (.int 1), some (.int 7)], [], (jk_h I0 jk_I107 jk_T55 jk_M46)) = some (94, [some (.ref 57), some (.int 0), some (.int 5), some (.int 0), some (.int 1), some (.int 8)], [.int 0], (jk_h I0 jk_I107 jk_T55 jk_M46)) from rfl)).trans ?_
  exact jm_go_ret rfl
def jk_I108 : List (Nat × Option (Nat × Int32)) := (57, some (24, 3)) :: jk_I107
def jk_I109 : List (Nat × Option (Nat × Int32)) := (57, some (25, 0)) :: jk_I108
set_option maxRecDepth 20000 in
theorem jk_48 {I0 : Nat → Nat → Int32} : jm_ev 998 159 [.ref 57] (jk_h I0 jk_I100 jk_T55 jk_M46) = some (none, (jk_h I0 jk_I109 jk_T55 jk_M46)) := by
  refine (jk_ev (d := 997) (by decide)).trans ?_
  refine (jm_go_steps 6 (show jm_steps 159 6 (jm_entry 159 [.ref 57] (jk_h I0 jk_I100 jk_T55 jk_M46)) = some (12, [some (.ref 57), none, none], [.ref 57], (jk_h I0 jk_I100 jk_T55 jk_M46)) from rfl)).trans ?_
  refine (jm_go_steps 4 (show jm_steps 159 4 (12, [some (.ref 57), none, none], [.ref 57], (jk_h I0 jk_I100 jk_T55 jk_M46)) = some (20, [some (.ref 57), none, none], [.int 103], (jk_h I0 jk_I100 jk_T55 jk_M46)) from rfl)).trans ?_
  refine (jm_go_steps 6 (show jm_steps 159 6 (20, [some (.ref 57), none, none], [.int 103], (jk_h I0 jk_I100 jk_T55 jk_M46)) = some (33, [some (.ref 57), none, none], [.int 0, .ref 64], (jk_h I0 jk_I100 jk_T55 jk_M46)) from rfl)).trans ?_
  refine (jm_go_steps 1 (show jm_steps 159 1 (33, [some (.ref 57), none, none], [.int 0, .ref 64], (jk_h I0 jk_I100 jk_T55 jk_M46)) = some (34, [some (.ref 57), none, none], [.int 103], (jk_h I0 jk_I100 jk_T55 jk_M46)) from rfl)).trans ?_
  refine (jm_go_steps 6 (show jm_steps 159 6 (34, [some (.ref 57), none, none], [.int 103], (jk_h I0 jk_I100 jk_T55 jk_M46)) = some (60, [some (.ref 57), none, none], [], (jk_h I0 jk_I101 jk_T55 jk_M46)) from rfl)).trans ?_
  refine (jm_go_steps 6 (show jm_steps 159 6 (60, [some (.ref 57), none, none], [], (jk_h I0 jk_I101 jk_T55 jk_M46)) = some (70, [some (.ref 57), none, none], [], (jk_h I0 jk_I102 jk_T55 jk_M46)) from rfl)).trans ?_
  refine (jm_go_steps 6 (show jm_steps 159 6 (70, [some (.ref 57), none, none], [], (jk_h I0 jk_I102 jk_T55 jk_M46)) = some (83, [some (.ref 57), none, none], [.ref 57], (jk_h I0 jk_I102 jk_T55 jk_M46)) from rfl)).trans ?_
  refine (jm_go_steps 4 (show jm_steps 159 4 (83, [some (.ref 57), none, none], [.ref 57], (jk_h I0 jk_I102 jk_T55 jk_M46)) = some (91, [some (.ref 57), none, none], [.int 103], (jk_h I0 jk_I102 jk_T55 jk_M46)) from rfl)).trans ?_
  refine (jm_go_steps 4 (show jm_steps 159 4 (91, [some (.ref 57), none, none], [.int 103], (jk_h I0 jk_I102 jk_T55 jk_M46)) = some (97, [some (.ref 57), some (.int 103), none], [.int 122, .int 97, .int 103], (jk_h I0 jk_I102 jk_T55 jk_M46)) from rfl)).trans ?_
  refine (jm_go_call (show jm_step 159 (97, [some (.ref 57), some (.int 103), none], [.int 122, .int 97, .int 103], (jk_h I0 jk_I102 jk_T55 jk_M46)) = some (.inr (.inl (143, [.int 103, .int 97, .int 122], []))) from rfl)).trans ?_
  refine (congrArg (fun z => jm_then z _) (jk_40 (I0 := I0))).trans ?_
  show jm_go (jm_ev 997) 159 (100, [some (.ref 57), some (.int 103), none], [.int 1], (jk_h I0 jk_I102 jk_T55 jk_M46)) = _
  refine (jm_go_steps 6 (show jm_steps 159 6 (100, [some (.ref 57), some (.int 103), none], [.int 1], (jk_h I0 jk_I102 jk_T55 jk_M46)) = some (114, [some (.ref 57), some (.int 103), none], [], (jk_h I0 jk_I102 jk_T55 jk_M46)) from rfl)).trans ?_
  refine (jm_go_steps 5 (show jm_steps 159 5 (114, [some (.ref 57), some (.int 103), none], [], (jk_h I0 jk_I102 jk_T55 jk_M46)) = some (123, [some (.ref 57), some (.int 103), none], [.int 103], (jk_h I0 jk_I102 jk_T55 jk_M46)) from rfl)).trans ?_
  refine (jm_go_steps 2 (show jm_steps 159 2 (123, [some (.ref 57), some (.int 103), none], [.int 103], (jk_h I0 jk_I102 jk_T55 jk_M46)) = some (127, [some (.ref 57), some (.int 103), none], [.int 122, .int 97, .int 103], (jk_h I0 jk_I102 jk_T55 jk_M46)) from rfl)).trans ?_
  refine (jm_go_call (show jm_step 159 (127, [some (.ref 57), some (.int 103), none], [.int 122, .int 97, .int 103], (jk_h I0 jk_I102 jk_T55 jk_M46)) = some (.inr (.inl (143, [.int 103, .int 97, .int 122], []))) from rfl)).trans ?_
  refine (congrArg (fun z => jm_then z _) (jk_41 (I0 := I0))).trans ?_
  show jm_go (jm_ev 997) 159 (130, [some (.ref 57), some (.int 103), none], [.int 1], (jk_h I0 jk_I102 jk_T55 jk_M46)) = _
  refine (jm_go_steps 6 (show jm_steps 159 6 (130, [some (.ref 57), some (.int 103), none], [.int 1], (jk_h I0 jk_I102 jk_T55 jk_M46)) = some (140, [some (.ref 57), some (.int 103), none], [.int 1, .ref 57], (jk_h I0 jk_I102 jk_T55 jk_M46)) from rfl)).trans ?_
  refine (jm_go_steps 6 (show jm_steps 159 6 (140, [some (.ref 57), some (.int 103), none], [.int 1, .ref 57], (jk_h I0 jk_I102 jk_T55 jk_M46)) = some (111, [some (.ref 57), some (.int 103), none], [.int 30, .int 1], (jk_h I0 jk_I103 jk_T55 jk_M46)) from rfl)).trans ?_
  refine (jm_go_steps 6 (show jm_steps 159 6 (111, [some (.ref 57), some (.int 103), none], [.int 30, .int 1], (jk_h I0 jk_I103 jk_T55 jk_M46)) = some (123, [some (.ref 57), some (.int 103), none], [.int 97], (jk_h I0 jk_I103 jk_T55 jk_M46)) from rfl)).trans ?_
  refine (jm_go_steps 2 (show jm_steps 159 2 (123, [some (.ref 57), some (.int 103), none], [.int 97], (jk_h I0 jk_I103 jk_T55 jk_M46)) = some (127, [some (.ref 57), some (.int 103), none], [.int 122, .int 97, .int 97], (jk_h I0 jk_I103 jk_T55 jk_M46)) from rfl)).trans ?_
  refine (jm_go_call (show jm_step 159 (127, [some (.ref 57), some (.int 103), none], [.int 122, .int 97, .int 97], (jk_h I0 jk_I103 jk_T55 jk_M46)) = some (.inr (.inl (143, [.int 97, .int 97, .int 122], []))) from rfl)).trans ?_
  refine (congrArg (fun z => jm_then z _) (jk_42 (I0 := I0))).trans ?_
  show jm_go (jm_ev 997) 159 (130, [some (.ref 57), some (.int 103), none], [.int 1], (jk_h I0 jk_I103 jk_T55 jk_M46)) = _
  refine (jm_go_steps 6 (show jm_steps 159 6 (130, [some (.ref 57), some (.int 103), none], [.int 1], (jk_h I0 jk_I103 jk_T55 jk_M46)) = some (140, [some (.ref 57), some (.int 103), none], [.int 2, .ref 57], (jk_h I0 jk_I103 jk_T55 jk_M46)) from rfl)).trans ?_
  refine (jm_go_steps 6 (show jm_steps 159 6 (140, [some (.ref 57), some (.int 103), none], [.int 2, .ref 57], (jk_h I0 jk_I103 jk_T55 jk_M46)) = some (111, [some (.ref 57), some (.int 103), none], [.int 30, .int 2], (jk_h I0 jk_I104 jk_T55 jk_M46)) from rfl)).trans ?_
  refine (jm_go_steps 6 (show jm_steps 159 6 (111, [some (.ref 57), some (.int 103), none], [.int 30, .int 2], (jk_h I0 jk_I104 jk_T55 jk_M46)) = some (123, [some (.ref 57), some (.int 103), none], [.int 105], (jk_h I0 jk_I104 jk_T55 jk_M46)) from rfl)).trans ?_
  refine (jm_go_steps 2 (show jm_steps 159 2 (123, [some (.ref 57), some (.int 103), none], [.int 105], (jk_h I0 jk_I104 jk_T55 jk_M46)) = some (127, [some (.ref 57), some (.int 103), none], [.int 122, .int 97, .int 105], (jk_h I0 jk_I104 jk_T55 jk_M46)) from rfl)).trans ?_
  refine (jm_go_call (show jm_step 159 (127, [some (.ref 57), some (.int 103), none], [.int 122, .int 97, .int 105], (jk_h I0 jk_I104 jk_T55 jk_M46)) = some (.inr (.inl (143, [.int 105, .int 97, .int 122], []))) from rfl)).trans ?_
  refine (congrArg (fun z => jm_then z _) (jk_43 (I0 := I0))).trans ?_
  show jm_go (jm_ev 997) 159 (130, [some (.ref 57), some (.int 103), none], [.int 1], (jk_h I0 jk_I104 jk_T55 jk_M46)) = _
  refine (jm_go_steps 6 (show jm_steps 159 6 (130, [some (.ref 57), some (.int 103), none], [.int 1], (jk_h I0 jk_I104 jk_T55 jk_M46)) = some (140, [some (.ref 57), some (.int 103), none], [.int 3, .ref 57], (jk_h I0 jk_I104 jk_T55 jk_M46)) from rfl)).trans ?_
  refine (jm_go_steps 6 (show jm_steps 159 6 (140, [some (.ref 57), some (.int 103), none], [.int 3, .ref 57], (jk_h I0 jk_I104 jk_T55 jk_M46)) = some (111, [some (.ref 57), some (.int 103), none], [.int 30, .int 3], (jk_h I0 jk_I105 jk_T55 jk_M46)) from rfl)).trans ?_
  refine (jm_go_steps 6 (show jm_steps 159 6 (111, [some (.ref 57), some (.int 103), none], [.int 30, .int 3], (jk_h I0 jk_I105 jk_T55 jk_M46)) = some (123, [some (.ref 57), some (.int 103), none], [.int 110], (jk_h I0 jk_I105 jk_T55 jk_M46)) from rfl)).trans ?_
  refine (jm_go_steps 2 (show jm_steps 159 2 (123, [some (.ref 57), some (.int 103), none], [.int 110], (jk_h I0 jk_I105 jk_T55 jk_M46)) = some (127, [some (.ref 57), some (.int 103), none], [.int 122, .int 97, .int 110], (jk_h I0 jk_I105 jk_T55 jk_M46)) from rfl)).trans ?_
  refine (jm_go_call (show jm_step 159 (127, [some (.ref 57), some (.int 103), none], [.int 122, .int 97, .int 110], (jk_h I0 jk_I105 jk_T55 jk_M46)) = some (.inr (.inl (143, [.int 110, .int 97, .int 122], []))) from rfl)).trans ?_
  refine (congrArg (fun z => jm_then z _) (jk_44 (I0 := I0))).trans ?_
  show jm_go (jm_ev 997) 159 (130, [some (.ref 57), some (.int 103), none], [.int 1], (jk_h I0 jk_I105 jk_T55 jk_M46)) = _
  refine (jm_go_steps 6 (show jm_steps 159 6 (130, [some (.ref 57), some (.int 103), none], [.int 1], (jk_h I0 jk_I105 jk_T55 jk_M46)) = some (140, [some (.ref 57), some (.int 103), none], [.int 4, .ref 57], (jk_h I0 jk_I105 jk_T55 jk_M46)) from rfl)).trans ?_
  refine (jm_go_steps 6 (show jm_steps 159 6 (140, [some (.ref 57), some (.int 103), none], [.int 4, .ref 57], (jk_h I0 jk_I105 jk_T55 jk_M46)) = some (111, [some (.ref 57), some (.int 103), none], [.int 30, .int 4], (jk_h I0 jk_I106 jk_T55 jk_M46)) from rfl)).trans ?_
  refine (jm_go_steps 6 (show jm_steps 159 6 (111, [some (.ref 57), some (.int 103), none], [.int 30, .int 4], (jk_h I0 jk_I106 jk_T55 jk_M46)) = some (123, [some (.ref 57), some (.int 103), none], [.int 115], (jk_h I0 jk_I106 jk_T55 jk_M46)) from rfl)).trans ?_
  refine (jm_go_steps 2 (show jm_steps 159 2 (123, [some (.ref 57), some (.int 103), none], [.int 115], (jk_h I0 jk_I106 jk_T55 jk_M46)) = some (127, [some (.ref 57), some (.int 103), none], [.int 122, .int 97, .int 115], (jk_h I0 jk_I106 jk_T55 jk_M46)) from rfl)).trans ?_
  refine (jm_go_call (show jm_step 159 (127, [some (.ref 57), some (.int 103), none], [.int 122, .int 97, .int 115], (jk_h I0 jk_I106 jk_T55 jk_M46)) = some (.inr (.inl (143, [.int 115, .int 97, .int 122], []))) from rfl)).trans ?_
  refine (congrArg (fun z => jm_then z _) (jk_45 (I0 := I0))).trans ?_
  show jm_go (jm_ev 997) 159 (130, [some (.ref 57), some (.int 103), none], [.int 1], (jk_h I0 jk_I106 jk_T55 jk_M46)) = _
  refine (jm_go_steps 6 (show jm_steps 159 6 (130, [some (.ref 57), some (.int 103), none], [.int 1], (jk_h I0 jk_I106 jk_T55 jk_M46)) = some (140, [some (.ref 57), some (.int 103), none], [.int 5, .ref 57], (jk_h I0 jk_I106 jk_T55 jk_M46)) from rfl)).trans ?_
  refine (jm_go_steps 6 (show jm_steps 159 6 (140, [some (.ref 57), some (.int 103), none], [.int 5, .ref 57], (jk_h I0 jk_I106 jk_T55 jk_M46)) = some (111, [some (.ref 57), some (.int 103), none], [.int 30, .int 5], (jk_h I0 jk_I107 jk_T55 jk_M46)) from rfl)).trans ?_
  refine (jm_go_steps 6 (show jm_steps 159 6 (111, [some (.ref 57), some (.int 103), none], [.int 30, .int 5], (jk_h I0 jk_I107 jk_T55 jk_M46)) = some (123, [some (.ref 57), some (.int 103), none], [.int 32], (jk_h I0 jk_I107 jk_T55 jk_M46)) from rfl)).trans ?_
  refine (jm_go_steps 2 (show jm_steps 159 2 (123, [some (.ref 57), some (.int 103), none], [.int 32], (jk_h I0 jk_I107 jk_T55 jk_M46)) = some (127, [some (.ref 57), some (.int 103), none], [.int 122, .int 97, .int 32], (jk_h I0 jk_I107 jk_T55 jk_M46)) from rfl)).trans ?_
  refine (jm_go_call (show jm_step 159 (127, [some (.ref 57), some (.int 103), none], [.int 122, .int 97, .int 32], (jk_h I0 jk_I107 jk_T55 jk_M46)) = some (.inr (.inl (143, [.int 32, .int 97, .int 122], []))) from rfl)).trans ?_
  refine (congrArg (fun z => jm_then z _) (jk_46 (I0 := I0))).trans ?_
  show jm_go (jm_ev 997) 159 (130, [some (.ref 57), some (.int 103), none], [.int 0], (jk_h I0 jk_I107 jk_T55 jk_M46)) = _
  refine (jm_go_steps 6 (show jm_steps 159 6 (130, [some (.ref 57), some (.int 103), none], [.int 0], (jk_h I0 jk_I107 jk_T55 jk_M46)) = some (155, [some (.ref 57), some (.int 103), none], [.int 5, .int 0, .ref 57], (jk_h I0 jk_I107 jk_T55 jk_M46)) from rfl)).trans ?_
  refine (jm_go_call (show jm_step 159 (155, [some (.ref 57), some (.int 103), none], [.int 5, .int 0, .ref 57], (jk_h I0 jk_I107 jk_T55 jk_M46)) = some (.inr (.inl (158, [.ref 57, .int 0, .int 5], []))) from rfl)).trans ?_
  refine (congrArg (fun z => jm_then z _) (jk_47 (I0 := I0))).trans ?_
  show jm_go (jm_ev 997) 159 (158, [some (.ref 57), some (.int 103), none], [.int 0], (jk_h I0 jk_I107 jk_T55 jk_M46)) = _
  refine (jm_go_steps 6 (show jm_steps 159 6 (158, [some (.ref 57), some (.int 103), none], [.int 0], (jk_h I0 jk_I107 jk_T55 jk_M46)) = some (166, [some (.ref 57), some (.int 103), some (.int 0)], [.int 3, .ref 57], (jk_h I0 jk_I107 jk_T55 jk_M46)) from rfl)).trans ?_
  refine (jm_go_steps 6 (show jm_steps 159 6 (166, [some (.ref 57), some (.int 103), some (.int 0)], [.int 3, .ref 57], (jk_h I0 jk_I107 jk_T55 jk_M46)) = some (204, [some (.ref 57), some (.int 103), some (.int 0)], [.ref 57], (jk_h I0 jk_I108 jk_T55 jk_M46)) from rfl)).trans ?_
  refine (jm_go_steps 4 (show jm_steps 159 4 (204, [some (.ref 57), some (.int 103), some (.int 0)], [.ref 57], (jk_h I0 jk_I108 jk_T55 jk_M46)) = some (403, [some (.ref 57), some (.int 103), some (.int 0)], [], (jk_h I0 jk_I109 jk_T55 jk_M46)) from rfl)).trans ?_
  exact jm_go_ret rfl
def jk_I110 : List (Nat × Option (Nat × Int32)) := (66, some (0, 0)) :: jk_I109
def jk_I111 : List (Nat × Option (Nat × Int32)) := (57, some (29, 0)) :: (57, some (28, 0)) :: jk_I110
def jk_I112 : List (Nat × Option (Nat × Int32)) := (57, some (22, 6)) :: jk_I111
def jk_I113 : List (Nat × Option (Nat × Int32)) := (57, some (23, 6)) :: jk_I112
def jk_I114 : List (Nat × Option (Nat × Int32)) := (57, some (25, 0)) :: (57, some (24, 0)) :: jk_I113
set_option maxRecDepth 20000 in
theorem jk_49 {I0 : Nat → Nat → Int32} : jm_ev 996 143 [.int 51, .int 97, .int 122] (jk_h I0 jk_I114 jk_T55 jk_M46) = some (some (.int 0), (jk_h I0 jk_I114 jk_T55 jk_M46)) := by
  refine (jk_ev (d := 995) (by decide)).trans ?_
  refine (jm_go_steps 4 (show jm_steps 143 4 (jm_entry 143 [.int 51, .int 97, .int 122] (jk_h I0 jk_I114 jk_T55 jk_M46)) = some (15, [some (.int 51), some (.int 97), some (.int 122)], [.int 0], (jk_h I0 jk_I114 jk_T55 jk_M46)) from rfl)).trans ?_
  exact jm_go_ret rfl
set_option maxRecDepth 20000 in
theorem jk_50 {I0 : Nat → Nat → Int32} : jm_ev 996 143 [.int 51, .int 48, .int 57] (jk_h I0 jk_I114 jk_T55 jk_M46) = some (some (.int 1), (jk_h I0 jk_I114 jk_T55 jk_M46)) := by
  refine (jk_ev (d := 995) (by decide)).trans ?_
  refine (jm_go_steps 8 (show jm_steps 143 8 (jm_entry 143 [.int 51, .int 48, .int 57] (jk_h I0 jk_I114 jk_T55 jk_M46)) = some (15, [some (.int 51), some (.int 48), some (.int 57)], [.int 1], (jk_h I0 jk_I114 jk_T55 jk_M46)) from rfl)).trans ?_
  exact jm_go_ret rfl
set_option maxRecDepth 20000 in
theorem jk_51 {I0 : Nat → Nat → Int32} : jm_ev 996 143 [.int 51, .int 48, .int 57] (jk_h I0 jk_I114 jk_T55 jk_M46) = some (some (.int 1), (jk_h I0 jk_I114 jk_T55 jk_M46)) := by
  refine (jk_ev (d := 995) (by decide)).trans ?_
  refine (jm_go_steps 8 (show jm_steps 143 8 (jm_entry 143 [.int 51, .int 48, .int 57] (jk_h I0 jk_I114 jk_T55 jk_M46)) = some (15, [some (.int 51), some (.int 48), some (.int 57)], [.int 1], (jk_h I0 jk_I114 jk_T55 jk_M46)) from rfl)).trans ?_
  exact jm_go_ret rfl
def jk_I115 : List (Nat × Option (Nat × Int32)) := (57, some (25, 3)) :: jk_I114
def jk_I116 : List (Nat × Option (Nat × Int32)) := (57, some (22, 7)) :: jk_I115
set_option maxRecDepth 20000 in
theorem jk_52 {I0 : Nat → Nat → Int32} : jm_ev 996 143 [.int 32, .int 48, .int 57] (jk_h I0 jk_I116 jk_T55 jk_M46) = some (some (.int 0), (jk_h I0 jk_I116 jk_T55 jk_M46)) := by
  refine (jk_ev (d := 995) (by decide)).trans ?_
  refine (jm_go_steps 4 (show jm_steps 143 4 (jm_entry 143 [.int 32, .int 48, .int 57] (jk_h I0 jk_I116 jk_T55 jk_M46)) = some (15, [some (.int 32), some (.int 48), some (.int 57)], [.int 0], (jk_h I0 jk_I116 jk_T55 jk_M46)) from rfl)).trans ?_
  exact jm_go_ret rfl
def jk_I117 : List (Nat × Option (Nat × Int32)) := (57, some (24, 1)) :: jk_I116
set_option maxRecDepth 20000 in
theorem jk_53 {I0 : Nat → Nat → Int32} : jm_ev 997 159 [.ref 57] (jk_h I0 jk_I111 jk_T55 jk_M46) = some (none, (jk_h I0 jk_I117 jk_T55 jk_M46)) := by
  refine (jk_ev (d := 996) (by decide)).trans ?_
  refine (jm_go_steps 6 (show jm_steps 159 6 (jm_entry 159 [.ref 57] (jk_h I0 jk_I111 jk_T55 jk_M46)) = some (12, [some (.ref 57), none, none], [.ref 57], (jk_h I0 jk_I111 jk_T55 jk_M46)) from rfl)).trans ?_
  refine (jm_go_steps 4 (show jm_steps 159 4 (12, [some (.ref 57), none, none], [.ref 57], (jk_h I0 jk_I111 jk_T55 jk_M46)) = some (20, [some (.ref 57), none, none], [.int 32], (jk_h I0 jk_I111 jk_T55 jk_M46)) from rfl)).trans ?_
  refine (jm_go_steps 6 (show jm_steps 159 6 (20, [some (.ref 57), none, none], [.int 32], (jk_h I0 jk_I111 jk_T55 jk_M46)) = some (45, [some (.ref 57), none, none], [.int 1, .int 5, .ref 57], (jk_h I0 jk_I111 jk_T55 jk_M46)) from rfl)).trans ?_
  refine (jm_go_steps 1 (show jm_steps 159 1 (45, [some (.ref 57), none, none], [.int 1, .int 5, .ref 57], (jk_h I0 jk_I111 jk_T55 jk_M46)) = some (46, [some (.ref 57), none, none], [.int 6, .ref 57], (jk_h I0 jk_I111 jk_T55 jk_M46)) from rfl)).trans ?_
  refine (jm_go_steps 6 (show jm_steps 159 6 (46, [some (.ref 57), none, none], [.int 6, .ref 57], (jk_h I0 jk_I111 jk_T55 jk_M46)) = some (8, [some (.ref 57), none, none], [.int 30, .int 6], (jk_h I0 jk_I112 jk_T55 jk_M46)) from rfl)).trans ?_
  refine (jm_go_steps 6 (show jm_steps 159 6 (8, [some (.ref 57), none, none], [.int 30, .int 6], (jk_h I0 jk_I112 jk_T55 jk_M46)) = some (20, [some (.ref 57), none, none], [.int 51], (jk_h I0 jk_I112 jk_T55 jk_M46)) from rfl)).trans ?_
  refine (jm_go_steps 6 (show jm_steps 159 6 (20, [some (.ref 57), none, none], [.int 51], (jk_h I0 jk_I112 jk_T55 jk_M46)) = some (33, [some (.ref 57), none, none], [.int 6, .ref 64], (jk_h I0 jk_I112 jk_T55 jk_M46)) from rfl)).trans ?_
  refine (jm_go_steps 1 (show jm_steps 159 1 (33, [some (.ref 57), none, none], [.int 6, .ref 64], (jk_h I0 jk_I112 jk_T55 jk_M46)) = some (34, [some (.ref 57), none, none], [.int 51], (jk_h I0 jk_I112 jk_T55 jk_M46)) from rfl)).trans ?_
  refine (jm_go_steps 6 (show jm_steps 159 6 (34, [some (.ref 57), none, none], [.int 51], (jk_h I0 jk_I112 jk_T55 jk_M46)) = some (60, [some (.ref 57), none, none], [], (jk_h I0 jk_I113 jk_T55 jk_M46)) from rfl)).trans ?_
  refine (jm_go_steps 6 (show jm_steps 159 6 (60, [some (.ref 57), none, none], [], (jk_h I0 jk_I113 jk_T55 jk_M46)) = some (70, [some (.ref 57), none, none], [], (jk_h I0 jk_I114 jk_T55 jk_M46)) from rfl)).trans ?_
  refine (jm_go_steps 6 (show jm_steps 159 6 (70, [some (.ref 57), none, none], [], (jk_h I0 jk_I114 jk_T55 jk_M46)) = some (83, [some (.ref 57), none, none], [.ref 57], (jk_h I0 jk_I114 jk_T55 jk_M46)) from rfl)).trans ?_
  refine (jm_go_steps 4 (show jm_steps 159 4 (83, [some (.ref 57), none, none], [.ref 57], (jk_h I0 jk_I114 jk_T55 jk_M46)) = some (91, [some (.ref 57), none, none], [.int 51], (jk_h I0 jk_I114 jk_T55 jk_M46)) from rfl)).trans ?_
  refine (jm_go_steps 4 (show jm_steps 159 4 (91, [some (.ref 57), none, none], [.int 51], (jk_h I0 jk_I114 jk_T55 jk_M46)) = some (97, [some (.ref 57), some (.int 51), none], [.int 122, .int 97, .int 51], (jk_h I0 jk_I114 jk_T55 jk_M46)) from rfl)).trans ?_
  refine (jm_go_call (show jm_step 159 (97, [some (.ref 57), some (.int 51), none], [.int 122, .int 97, .int 51], (jk_h I0 jk_I114 jk_T55 jk_M46)) = some (.inr (.inl (143, [.int 51, .int 97, .int 122], []))) from rfl)).trans ?_
  refine (congrArg (fun z => jm_then z _) (jk_49 (I0 := I0))).trans ?_
  show jm_go (jm_ev 996) 159 (100, [some (.ref 57), some (.int 51), none], [.int 0], (jk_h I0 jk_I114 jk_T55 jk_M46)) = _
  refine (jm_go_steps 4 (show jm_steps 159 4 (100, [some (.ref 57), some (.int 51), none], [.int 0], (jk_h I0 jk_I114 jk_T55 jk_M46)) = some (222, [some (.ref 57), some (.int 51), none], [.int 57, .int 48, .int 51], (jk_h I0 jk_I114 jk_T55 jk_M46)) from rfl)).trans ?_
  refine (jm_go_call (show jm_step 159 (222, [some (.ref 57), some (.int 51), none], [.int 57, .int 48, .int 51], (jk_h I0 jk_I114 jk_T55 jk_M46)) = some (.inr (.inl (143, [.int 51, .int 48, .int 57], []))) from rfl)).trans ?_
  refine (congrArg (fun z => jm_then z _) (jk_50 (I0 := I0))).trans ?_
  show jm_go (jm_ev 996) 159 (225, [some (.ref 57), some (.int 51), none], [.int 1], (jk_h I0 jk_I114 jk_T55 jk_M46)) = _
  refine (jm_go_steps 6 (show jm_steps 159 6 (225, [some (.ref 57), some (.int 51), none], [.int 1], (jk_h I0 jk_I114 jk_T55 jk_M46)) = some (235, [some (.ref 57), some (.int 51), some (.int 0)], [.ref 57, .int 6], (jk_h I0 jk_I114 jk_T55 jk_M46)) from rfl)).trans ?_
  refine (jm_go_steps 6 (show jm_steps 159 6 (235, [some (.ref 57), some (.int 51), some (.int 0)], [.ref 57, .int 6], (jk_h I0 jk_I114 jk_T55 jk_M46)) = some (249, [some (.ref 57), some (.int 51), some (.int 0)], [.int 6, .ref 64], (jk_h I0 jk_I114 jk_T55 jk_M46)) from rfl)).trans ?_
  refine (jm_go_steps 1 (show jm_steps 159 1 (249, [some (.ref 57), some (.int 51), some (.int 0)], [.int 6, .ref 64], (jk_h I0 jk_I114 jk_T55 jk_M46)) = some (250, [some (.ref 57), some (.int 51), some (.int 0)], [.int 51], (jk_h I0 jk_I114 jk_T55 jk_M46)) from rfl)).trans ?_
  refine (jm_go_steps 2 (show jm_steps 159 2 (250, [some (.ref 57), some (.int 51), some (.int 0)], [.int 51], (jk_h I0 jk_I114 jk_T55 jk_M46)) = some (254, [some (.ref 57), some (.int 51), some (.int 0)], [.int 57, .int 48, .int 51], (jk_h I0 jk_I114 jk_T55 jk_M46)) from rfl)).trans ?_
  refine (jm_go_call (show jm_step 159 (254, [some (.ref 57), some (.int 51), some (.int 0)], [.int 57, .int 48, .int 51], (jk_h I0 jk_I114 jk_T55 jk_M46)) = some (.inr (.inl (143, [.int 51, .int 48, .int 57], []))) from rfl)).trans ?_
  refine (congrArg (fun z => jm_then z _) (jk_51 (I0 := I0))).trans ?_
  show jm_go (jm_ev 996) 159 (257, [some (.ref 57), some (.int 51), some (.int 0)], [.int 1], (jk_h I0 jk_I114 jk_T55 jk_M46)) = _
  refine (jm_go_steps 6 (show jm_steps 159 6 (257, [some (.ref 57), some (.int 51), some (.int 0)], [.int 1], (jk_h I0 jk_I114 jk_T55 jk_M46)) = some (268, [some (.ref 57), some (.int 51), some (.int 0)], [.int 10, .ref 57], (jk_h I0 jk_I114 jk_T55 jk_M46)) from rfl)).trans ?_
  refine (jm_go_steps 3 (show jm_steps 159 3 (268, [some (.ref 57), some (.int 51), some (.int 0)], [.int 10, .ref 57], (jk_h I0 jk_I114 jk_T55 jk_M46)) = some (273, [some (.ref 57), some (.int 51), some (.int 0)], [.int 0, .ref 57], (jk_h I0 jk_I114 jk_T55 jk_M46)) from rfl)).trans ?_
  refine (jm_go_steps 5 (show jm_steps 159 5 (273, [some (.ref 57), some (.int 51), some (.int 0)], [.int 0, .ref 57], (jk_h I0 jk_I114 jk_T55 jk_M46)) = some (282, [some (.ref 57), some (.int 51), some (.int 0)], [.int 51, .int 0, .ref 57], (jk_h I0 jk_I114 jk_T55 jk_M46)) from rfl)).trans ?_
  refine (jm_go_steps 1 (show jm_steps 159 1 (282, [some (.ref 57), some (.int 51), some (.int 0)], [.int 51, .int 0, .ref 57], (jk_h I0 jk_I114 jk_T55 jk_M46)) = some (283, [some (.ref 57), some (.int 51), some (.int 0)], [.int 51, .ref 57], (jk_h I0 jk_I114 jk_T55 jk_M46)) from rfl)).trans ?_
  refine (jm_go_steps 2 (show jm_steps 159 2 (283, [some (.ref 57), some (.int 51), some (.int 0)], [.int 51, .ref 57], (jk_h I0 jk_I114 jk_T55 jk_M46)) = some (286, [some (.ref 57), some (.int 51), some (.int 0)], [.int 3, .ref 57], (jk_h I0 jk_I114 jk_T55 jk_M46)) from rfl)).trans ?_
  refine (jm_go_steps 6 (show jm_steps 159 6 (286, [some (.ref 57), some (.int 51), some (.int 0)], [.int 3, .ref 57], (jk_h I0 jk_I114 jk_T55 jk_M46)) = some (301, [some (.ref 57), some (.int 51), some (.int 1)], [.int 6, .ref 57], (jk_h I0 jk_I115 jk_T55 jk_M46)) from rfl)).trans ?_
  refine (jm_go_steps 2 (show jm_steps 159 2 (301, [some (.ref 57), some (.int 51), some (.int 1)], [.int 6, .ref 57], (jk_h I0 jk_I115 jk_T55 jk_M46)) = some (303, [some (.ref 57), some (.int 51), some (.int 1)], [.int 7, .ref 57], (jk_h I0 jk_I115 jk_T55 jk_M46)) from rfl)).trans ?_
  refine (jm_go_steps 6 (show jm_steps 159 6 (303, [some (.ref 57), some (.int 51), some (.int 1)], [.int 7, .ref 57], (jk_h I0 jk_I115 jk_T55 jk_M46)) = some (238, [some (.ref 57), some (.int 51), some (.int 1)], [.int 30, .int 7], (jk_h I0 jk_I116 jk_T55 jk_M46)) from rfl)).trans ?_
  refine (jm_go_steps 6 (show jm_steps 159 6 (238, [some (.ref 57), some (.int 51), some (.int 1)], [.int 30, .int 7], (jk_h I0 jk_I116 jk_T55 jk_M46)) = some (250, [some (.ref 57), some (.int 51), some (.int 1)], [.int 32], (jk_h I0 jk_I116 jk_T55 jk_M46)) from rfl)).trans ?_
  refine (jm_go_steps 2 (show jm_steps 159 2 (250, [some (.ref 57), some (.int 51), some (.int 1)], [.int 32], (jk_h I0 jk_I116 jk_T55 jk_M46)) = some (254, [some (.ref 57), some (.int 51), some (.int 1)], [.int 57, .int 48, .int 32], (jk_h I0 jk_I116 jk_T55 jk_M46)) from rfl)).trans ?_
  refine (jm_go_call (show jm_step 159 (254, [some (.ref 57), some (.int 51), some (.int 1)], [.int 57, .int 48, .int 32], (jk_h I0 jk_I116 jk_T55 jk_M46)) = some (.inr (.inl (143, [.int 32, .int 48, .int 57], []))) from rfl)).trans ?_
  refine (congrArg (fun z => jm_then z _) (jk_52 (I0 := I0))).trans ?_
  show jm_go (jm_ev 996) 159 (257, [some (.ref 57), some (.int 51), some (.int 1)], [.int 0], (jk_h I0 jk_I116 jk_T55 jk_M46)) = _
  refine (jm_go_steps 6 (show jm_steps 159 6 (257, [some (.ref 57), some (.int 51), some (.int 1)], [.int 0], (jk_h I0 jk_I116 jk_T55 jk_M46)) = some (320, [some (.ref 57), some (.int 51), some (.int 1)], [.int 1, .ref 57], (jk_h I0 jk_I116 jk_T55 jk_M46)) from rfl)).trans ?_
  refine (jm_go_steps 2 (show jm_steps 159 2 (320, [some (.ref 57), some (.int 51), some (.int 1)], [.int 1, .ref 57], (jk_h I0 jk_I116 jk_T55 jk_M46)) = some (403, [some (.ref 57), some (.int 51), some (.int 1)], [], (jk_h I0 jk_I117 jk_T55 jk_M46)) from rfl)).trans ?_
  exact jm_go_ret rfl
def jk_I118 : List (Nat × Option (Nat × Int32)) := (57, some (30, 1)) :: (65, some (0, 100003)) :: jk_I117
set_option maxRecDepth 20000 in
theorem jk_54 {I0 : Nat → Nat → Int32} : jm_ev 997 161 [.ref 57, .int 100003] (jk_h I0 jk_I117 jk_T55 jk_M46) = some (none, (jk_h I0 jk_I118 jk_T55 jk_M46)) := by
  refine (jk_ev (d := 996) (by decide)).trans ?_
  refine (jm_go_steps 17 (show jm_steps 161 17 (jm_entry 161 [.ref 57, .int 100003] (jk_h I0 jk_I117 jk_T55 jk_M46)) = some (29, [some (.ref 57), some (.int 100003)], [], (jk_h I0 jk_I118 jk_T55 jk_M46)) from rfl)).trans ?_
  exact jm_go_ret rfl
set_option maxRecDepth 20000 in
theorem jk_55 {I0 : Nat → Nat → Int32} : jm_ev 997 162 [.ref 57, .int 7] (jk_h I0 jk_I118 jk_T55 jk_M46) = some (none, (jk_h I0 jk_I118 jk_T55 jk_M46)) := by
  refine (jk_ev (d := 996) (by decide)).trans ?_
  refine (jm_go_steps 3 (show jm_steps 162 3 (jm_entry 162 [.ref 57, .int 7] (jk_h I0 jk_I118 jk_T55 jk_M46)) = some (79, [some (.ref 57), some (.int 7), none], [], (jk_h I0 jk_I118 jk_T55 jk_M46)) from rfl)).trans ?_
  exact jm_go_ret rfl
def jk_I119 : List (Nat × Option (Nat × Int32)) := (57, some (22, 8)) :: jk_I118
def jk_I120 : List (Nat × Option (Nat × Int32)) := (57, some (23, 8)) :: jk_I119
def jk_I121 : List (Nat × Option (Nat × Int32)) := (57, some (25, 0)) :: (57, some (24, 0)) :: jk_I120
set_option maxRecDepth 20000 in
theorem jk_56 {I0 : Nat → Nat → Int32} : jm_ev 996 143 [.int 59, .int 97, .int 122] (jk_h I0 jk_I121 jk_T55 jk_M46) = some (some (.int 0), (jk_h I0 jk_I121 jk_T55 jk_M46)) := by
  refine (jk_ev (d := 995) (by decide)).trans ?_
  refine (jm_go_steps 4 (show jm_steps 143 4 (jm_entry 143 [.int 59, .int 97, .int 122] (jk_h I0 jk_I121 jk_T55 jk_M46)) = some (15, [some (.int 59), some (.int 97), some (.int 122)], [.int 0], (jk_h I0 jk_I121 jk_T55 jk_M46)) from rfl)).trans ?_
  exact jm_go_ret rfl
set_option maxRecDepth 20000 in
theorem jk_57 {I0 : Nat → Nat → Int32} : jm_ev 996 143 [.int 59, .int 48, .int 57] (jk_h I0 jk_I121 jk_T55 jk_M46) = some (some (.int 0), (jk_h I0 jk_I121 jk_T55 jk_M46)) := by
  refine (jk_ev (d := 995) (by decide)).trans ?_
  refine (jm_go_steps 7 (show jm_steps 143 7 (jm_entry 143 [.int 59, .int 48, .int 57] (jk_h I0 jk_I121 jk_T55 jk_M46)) = some (15, [some (.int 59), some (.int 48), some (.int 57)], [.int 0], (jk_h I0 jk_I121 jk_T55 jk_M46)) from rfl)).trans ?_
  exact jm_go_ret rfl
def jk_I122 : List (Nat × Option (Nat × Int32)) := (57, some (24, 59)) :: jk_I121
def jk_I123 : List (Nat × Option (Nat × Int32)) := (57, some (22, 9)) :: jk_I122
set_option maxRecDepth 20000 in
theorem jk_58 {I0 : Nat → Nat → Int32} : jm_ev 997 159 [.ref 57] (jk_h I0 jk_I118 jk_T55 jk_M46) = some (none, (jk_h I0 jk_I123 jk_T55 jk_M46)) := by
  refine (jk_ev (d := 996) (by decide)).trans ?_
  refine (jm_go_steps 6 (show jm_steps 159 6 (jm_entry 159 [.ref 57] (jk_h I0 jk_I118 jk_T55 jk_M46)) = some (12, [some (.ref 57), none, none], [.ref 57], (jk_h I0 jk_I118 jk_T55 jk_M46)) from rfl)).trans ?_
  refine (jm_go_steps 4 (show jm_steps 159 4 (12, [some (.ref 57), none, none], [.ref 57], (jk_h I0 jk_I118 jk_T55 jk_M46)) = some (20, [some (.ref 57), none, none], [.int 32], (jk_h I0 jk_I118 jk_T55 jk_M46)) from rfl)).trans ?_
  refine (jm_go_steps 6 (show jm_steps 159 6 (20, [some (.ref 57), none, none], [.int 32], (jk_h I0 jk_I118 jk_T55 jk_M46)) = some (45, [some (.ref 57), none, none], [.int 1, .int 7, .ref 57], (jk_h I0 jk_I118 jk_T55 jk_M46)) from rfl)).trans ?_
  refine (jm_go_steps 1 (show jm_steps 159 1 (45, [some (.ref 57), none, none], [.int 1, .int 7, .ref 57], (jk_h I0 jk_I118 jk_T55 jk_M46)) = some (46, [some (.ref 57), none, none], [.int 8, .ref 57], (jk_h I0 jk_I118 jk_T55 jk_M46)) from rfl)).trans ?_
  refine (jm_go_steps 6 (show jm_steps 159 6 (46, [some (.ref 57), none, none], [.int 8, .ref 57], (jk_h I0 jk_I118 jk_T55 jk_M46)) = some (8, [some (.ref 57), none, none], [.int 30, .int 8], (jk_h I0 jk_I119 jk_T55 jk_M46)) from rfl)).trans ?_
  refine (jm_go_steps 6 (show jm_steps 159 6 (8, [some (.ref 57), none, none], [.int 30, .int 8], (jk_h I0 jk_I119 jk_T55 jk_M46)) = some (20, [some (.ref 57), none, none], [.int 59], (jk_h I0 jk_I119 jk_T55 jk_M46)) from rfl)).trans ?_
  refine (jm_go_steps 6 (show jm_steps 159 6 (20, [some (.ref 57), none, none], [.int 59], (jk_h I0 jk_I119 jk_T55 jk_M46)) = some (33, [some (.ref 57), none, none], [.int 8, .ref 64], (jk_h I0 jk_I119 jk_T55 jk_M46)) from rfl)).trans ?_
  refine (jm_go_steps 1 (show jm_steps 159 1 (33, [some (.ref 57), none, none], [.int 8, .ref 64], (jk_h I0 jk_I119 jk_T55 jk_M46)) = some (34, [some (.ref 57), none, none], [.int 59], (jk_h I0 jk_I119 jk_T55 jk_M46)) from rfl)).trans ?_
  refine (jm_go_steps 6 (show jm_steps 159 6 (34, [some (.ref 57), none, none], [.int 59], (jk_h I0 jk_I119 jk_T55 jk_M46)) = some (60, [some (.ref 57), none, none], [], (jk_h I0 jk_I120 jk_T55 jk_M46)) from rfl)).trans ?_
  refine (jm_go_steps 6 (show jm_steps 159 6 (60, [some (.ref 57), none, none], [], (jk_h I0 jk_I120 jk_T55 jk_M46)) = some (70, [some (.ref 57), none, none], [], (jk_h I0 jk_I121 jk_T55 jk_M46)) from rfl)).trans ?_
  refine (jm_go_steps 6 (show jm_steps 159 6 (70, [some (.ref 57), none, none], [], (jk_h I0 jk_I121 jk_T55 jk_M46)) = some (83, [some (.ref 57), none, none], [.ref 57], (jk_h I0 jk_I121 jk_T55 jk_M46)) from rfl)).trans ?_
  refine (jm_go_steps 4 (show jm_steps 159 4 (83, [some (.ref 57), none, none], [.ref 57], (jk_h I0 jk_I121 jk_T55 jk_M46)) = some (91, [some (.ref 57), none, none], [.int 59], (jk_h I0 jk_I121 jk_T55 jk_M46)) from rfl)).trans ?_
  refine (jm_go_steps 4 (show jm_steps 159 4 (91, [some (.ref 57), none, none], [.int 59], (jk_h I0 jk_I121 jk_T55 jk_M46)) = some (97, [some (.ref 57), some (.int 59), none], [.int 122, .int 97, .int 59], (jk_h I0 jk_I121 jk_T55 jk_M46)) from rfl)).trans ?_
  refine (jm_go_call (show jm_step 159 (97, [some (.ref 57), some (.int 59), none], [.int 122, .int 97, .int 59], (jk_h I0 jk_I121 jk_T55 jk_M46)) = some (.inr (.inl (143, [.int 59, .int 97, .int 122], []))) from rfl)).trans ?_
  refine (congrArg (fun z => jm_then z _) (jk_56 (I0 := I0))).trans ?_
  show jm_go (jm_ev 996) 159 (100, [some (.ref 57), some (.int 59), none], [.int 0], (jk_h I0 jk_I121 jk_T55 jk_M46)) = _
  refine (jm_go_steps 4 (show jm_steps 159 4 (100, [some (.ref 57), some (.int 59), none], [.int 0], (jk_h I0 jk_I121 jk_T55 jk_M46)) = some (222, [some (.ref 57), some (.int 59), none], [.int 57, .int 48, .int 59], (jk_h I0 jk_I121 jk_T55 jk_M46)) from rfl)).trans ?_
  refine (jm_go_call (show jm_step 159 (222, [some (.ref 57), some (.int 59), none], [.int 57, .int 48, .int 59], (jk_h I0 jk_I121 jk_T55 jk_M46)) = some (.inr (.inl (143, [.int 59, .int 48, .int 57], []))) from rfl)).trans ?_
  refine (congrArg (fun z => jm_then z _) (jk_57 (I0 := I0))).trans ?_
  show jm_go (jm_ev 996) 159 (225, [some (.ref 57), some (.int 59), none], [.int 0], (jk_h I0 jk_I121 jk_T55 jk_M46)) = _
  refine (jm_go_steps 6 (show jm_steps 159 6 (225, [some (.ref 57), some (.int 59), none], [.int 0], (jk_h I0 jk_I121 jk_T55 jk_M46)) = some (335, [some (.ref 57), some (.int 59), none], [.int 41, .int 59], (jk_h I0 jk_I121 jk_T55 jk_M46)) from rfl)).trans ?_
  refine (jm_go_steps 6 (show jm_steps 159 6 (335, [some (.ref 57), some (.int 59), none], [.int 41, .int 59], (jk_h I0 jk_I121 jk_T55 jk_M46)) = some (379, [some (.ref 57), some (.int 59), none], [.int 1], (jk_h I0 jk_I121 jk_T55 jk_M46)) from rfl)).trans ?_
  refine (jm_go_steps 6 (show jm_steps 159 6 (379, [some (.ref 57), some (.int 59), none], [.int 1], (jk_h I0 jk_I121 jk_T55 jk_M46)) = some (390, [some (.ref 57), some (.int 59), some (.int 1)], [.int 59, .ref 57], (jk_h I0 jk_I121 jk_T55 jk_M46)) from rfl)).trans ?_
  refine (jm_go_steps 6 (show jm_steps 159 6 (390, [some (.ref 57), some (.int 59), some (.int 1)], [.int 59, .ref 57], (jk_h I0 jk_I121 jk_T55 jk_M46)) = some (400, [some (.ref 57), some (.int 59), some (.int 1)], [.int 9, .ref 57], (jk_h I0 jk_I122 jk_T55 jk_M46)) from rfl)).trans ?_
  refine (jm_go_steps 1 (show jm_steps 159 1 (400, [some (.ref 57), some (.int 59), some (.int 1)], [.int 9, .ref 57], (jk_h I0 jk_I122 jk_T55 jk_M46)) = some (403, [some (.ref 57), some (.int 59), some (.int 1)], [], (jk_h I0 jk_I123 jk_T55 jk_M46)) from rfl)).trans ?_
  exact jm_go_ret rfl
set_option maxRecDepth 20000 in
theorem jk_59 {I0 : Nat → Nat → Int32} : jm_ev 997 162 [.ref 57, .int 1] (jk_h I0 jk_I123 jk_T55 jk_M46) = some (none, (jk_h I0 jk_I123 jk_T55 jk_M46)) := by
  refine (jk_ev (d := 996) (by decide)).trans ?_
  refine (jm_go_steps 3 (show jm_steps 162 3 (jm_entry 162 [.ref 57, .int 1] (jk_h I0 jk_I123 jk_T55 jk_M46)) = some (79, [some (.ref 57), some (.int 1), none], [], (jk_h I0 jk_I123 jk_T55 jk_M46)) from rfl)).trans ?_
  exact jm_go_ret rfl
set_option maxRecDepth 20000 in
theorem jk_60 {I0 : Nat → Nat → Int32} : jm_ev 998 167 [.ref 57] (jk_h I0 jk_I110 jk_T55 jk_M46) = some (some (.int 1), (jk_h I0 jk_I123 jk_T55 jk_M46)) := by
  refine (jk_ev (d := 997) (by decide)).trans ?_
  refine (jm_go_steps 11 (show jm_steps 167 11 (jm_entry 167 [.ref 57] (jk_h I0 jk_I110 jk_T55 jk_M46)) = some (15, [some (.ref 57), some (.int 1), some (.int 1), none], [.ref 57], (jk_h I0 jk_I111 jk_T55 jk_M46)) from rfl)).trans ?_
  refine (jm_go_call (show jm_step 167 (15, [some (.ref 57), some (.int 1), some (.int 1), none], [.ref 57], (jk_h I0 jk_I111 jk_T55 jk_M46)) = some (.inr (.inl (159, [.ref 57], []))) from rfl)).trans ?_
  refine (congrArg (fun z => jm_then z _) (jk_53 (I0 := I0))).trans ?_
  show jm_go (jm_ev 997) 167 (18, [some (.ref 57), some (.int 1), some (.int 1), none], [], (jk_h I0 jk_I117 jk_T55 jk_M46)) = _
  refine (jm_go_steps 16 (show jm_steps 167 16 (18, [some (.ref 57), some (.int 1), some (.int 1), none], [], (jk_h I0 jk_I117 jk_T55 jk_M46)) = some (61, [some (.ref 57), some (.int 1), some (.int 1), none], [.int 100003, .ref 57], (jk_h I0 jk_I117 jk_T55 jk_M46)) from rfl)).trans ?_
  refine (jm_go_call (show jm_step 167 (61, [some (.ref 57), some (.int 1), some (.int 1), none], [.int 100003, .ref 57], (jk_h I0 jk_I117 jk_T55 jk_M46)) = some (.inr (.inl (161, [.ref 57, .int 100003], []))) from rfl)).trans ?_
  refine (congrArg (fun z => jm_then z _) (jk_54 (I0 := I0))).trans ?_
  show jm_go (jm_ev 997) 167 (64, [some (.ref 57), some (.int 1), some (.int 1), none], [], (jk_h I0 jk_I118 jk_T55 jk_M46)) = _
  refine (jm_go_steps 2 (show jm_steps 167 2 (64, [some (.ref 57), some (.int 1), some (.int 1), none], [], (jk_h I0 jk_I118 jk_T55 jk_M46)) = some (67, [some (.ref 57), some (.int 1), some (.int 1), none], [.int 7, .ref 57], (jk_h I0 jk_I118 jk_T55 jk_M46)) from rfl)).trans ?_
  refine (jm_go_call (show jm_step 167 (67, [some (.ref 57), some (.int 1), some (.int 1), none], [.int 7, .ref 57], (jk_h I0 jk_I118 jk_T55 jk_M46)) = some (.inr (.inl (162, [.ref 57, .int 7], []))) from rfl)).trans ?_
  refine (congrArg (fun z => jm_then z _) (jk_55 (I0 := I0))).trans ?_
  show jm_go (jm_ev 997) 167 (70, [some (.ref 57), some (.int 1), some (.int 1), none], [], (jk_h I0 jk_I118 jk_T55 jk_M46)) = _
  refine (jm_go_steps 4 (show jm_steps 167 4 (70, [some (.ref 57), some (.int 1), some (.int 1), none], [], (jk_h I0 jk_I118 jk_T55 jk_M46)) = some (15, [some (.ref 57), some (.int 0), some (.int 1), none], [.ref 57], (jk_h I0 jk_I118 jk_T55 jk_M46)) from rfl)).trans ?_
  refine (jm_go_call (show jm_step 167 (15, [some (.ref 57), some (.int 0), some (.int 1), none], [.ref 57], (jk_h I0 jk_I118 jk_T55 jk_M46)) = some (.inr (.inl (159, [.ref 57], []))) from rfl)).trans ?_
  refine (congrArg (fun z => jm_then z _) (jk_58 (I0 := I0))).trans ?_
  show jm_go (jm_ev 997) 167 (18, [some (.ref 57), some (.int 0), some (.int 1), none], [], (jk_h I0 jk_I123 jk_T55 jk_M46)) = _
  refine (jm_go_steps 8 (show jm_steps 167 8 (18, [some (.ref 57), some (.int 0), some (.int 1), none], [], (jk_h I0 jk_I123 jk_T55 jk_M46)) = some (161, [some (.ref 57), some (.int 0), some (.int 1), none], [.int 1, .ref 57], (jk_h I0 jk_I123 jk_T55 jk_M46)) from rfl)).trans ?_
  refine (jm_go_call (show jm_step 167 (161, [some (.ref 57), some (.int 0), some (.int 1), none], [.int 1, .ref 57], (jk_h I0 jk_I123 jk_T55 jk_M46)) = some (.inr (.inl (162, [.ref 57, .int 1], []))) from rfl)).trans ?_
  refine (congrArg (fun z => jm_then z _) (jk_59 (I0 := I0))).trans ?_
  show jm_go (jm_ev 997) 167 (164, [some (.ref 57), some (.int 0), some (.int 1), none], [], (jk_h I0 jk_I123 jk_T55 jk_M46)) = _
  refine (jm_go_steps 5 (show jm_steps 167 5 (164, [some (.ref 57), some (.int 0), some (.int 1), none], [], (jk_h I0 jk_I123 jk_T55 jk_M46)) = some (176, [some (.ref 57), some (.int 0), some (.int 1), none], [.int 1], (jk_h I0 jk_I123 jk_T55 jk_M46)) from rfl)).trans ?_
  exact jm_go_ret rfl
def jk_I124 : List (Nat × Option (Nat × Int32)) := (57, some (22, 10)) :: jk_I123
def jk_I125 : List (Nat × Option (Nat × Int32)) := (57, some (23, 10)) :: jk_I124
def jk_I126 : List (Nat × Option (Nat × Int32)) := (57, some (25, 0)) :: (57, some (24, 0)) :: jk_I125
set_option maxRecDepth 20000 in
theorem jk_61 {I0 : Nat → Nat → Int32} : jm_ev 997 143 [.int 100, .int 97, .int 122] (jk_h I0 jk_I126 jk_T55 jk_M46) = some (some (.int 1), (jk_h I0 jk_I126 jk_T55 jk_M46)) := by
  refine (jk_ev (d := 996) (by decide)).trans ?_
  refine (jm_go_steps 8 (show jm_steps 143 8 (jm_entry 143 [.int 100, .int 97, .int 122] (jk_h I0 jk_I126 jk_T55 jk_M46)) = some (15, [some (.int 100), some (.int 97), some (.int 122)], [.int 1], (jk_h I0 jk_I126 jk_T55 jk_M46)) from rfl)).trans ?_
  exact jm_go_ret rfl
