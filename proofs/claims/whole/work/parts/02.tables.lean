/-! TABLES of the small machine, printed by wip/gen/tables.py out of the claim's names and words -/
def jm_R0 : String := "DoorOfLuck$Butler"
def jm_T0 : u_T := fun k => match k with
  | 0 => ("DoorOfLuck$Soul", "kind", "I", true)
  | 1 => ("DoorOfLuck$Soul", "more", "I", false)
  | 2 => ("DoorOfLuck$Soul", "house", "I", false)
  | 3 => ("DoorOfLuck$Soul", "luck", "I", false)
  | 4 => ("DoorOfLuck$Soul", "end", "I", false)
  | _ => ("DoorOfLuck$Soul", "opened", "I", false)
def jm_R1 : String := "DoorOfLuck$Footman"
def jm_T1 : u_T := fun k => match k with
  | 0 => ("DoorOfLuck$Soul", "kind", "I", true)
  | 1 => ("DoorOfLuck$Soul", "more", "I", false)
  | 2 => ("DoorOfLuck$Soul", "house", "I", false)
  | 3 => ("DoorOfLuck$Soul", "luck", "I", false)
  | 4 => ("DoorOfLuck$Soul", "end", "I", false)
  | _ => ("DoorOfLuck$Soul", "opened", "I", false)
def jm_R2 : String := "DoorOfLuck$Gypsy"
def jm_T2 : u_T := fun k => match k with
  | 0 => ("DoorOfLuck$Soul", "kind", "I", true)
  | 1 => ("DoorOfLuck$Soul", "more", "I", false)
  | 2 => ("DoorOfLuck$Soul", "house", "I", false)
  | 3 => ("DoorOfLuck$Soul", "luck", "I", false)
  | 4 => ("DoorOfLuck$Soul", "end", "I", false)
  | _ => ("DoorOfLuck$Soul", "opened", "I", false)
def jm_R3 : String := "DoorOfLuck$Image"
def jm_T3 : u_T := fun k => match k with
  | 0 => ("DoorOfLuck$Image", "there", "Z", false)
  | 1 => ("DoorOfLuck$Image", "doors", "I", false)
  | 2 => ("DoorOfLuck$Image", "bricked", "I", false)
  | 3 => ("DoorOfLuck$Image", "day", "I", false)
  | 4 => ("DoorOfLuck$Image", "law", "I", false)
  | 5 => ("DoorOfLuck$Image", "peopleCount", "I", false)
  | _ => ("DoorOfLuck$Image", "souls", "[LDoorOfLuck$Soul;", true)
def jm_R4 : String := "DoorOfLuck$Lady"
def jm_T4 : u_T := fun k => match k with
  | 0 => ("DoorOfLuck$Soul", "kind", "I", true)
  | 1 => ("DoorOfLuck$Soul", "more", "I", false)
  | 2 => ("DoorOfLuck$Soul", "house", "I", false)
  | 3 => ("DoorOfLuck$Soul", "luck", "I", false)
  | 4 => ("DoorOfLuck$Soul", "end", "I", false)
  | _ => ("DoorOfLuck$Soul", "opened", "I", false)
def jm_R5 : String := "DoorOfLuck$Sheet"
def jm_T5 : u_T := fun k => match k with
  | 0 => ("DoorOfLuck$Sheet", "sort", "I", false)
  | 1 => ("DoorOfLuck$Sheet", "size", "I", false)
  | _ => ("DoorOfLuck$Sheet", "row", "[I", true)
def jm_R6 : String := "DoorOfLuck$Soul"
def jm_T6 : u_T := fun k => match k with
  | 0 => ("DoorOfLuck$Soul", "kind", "I", true)
  | 1 => ("DoorOfLuck$Soul", "more", "I", false)
  | 2 => ("DoorOfLuck$Soul", "house", "I", false)
  | 3 => ("DoorOfLuck$Soul", "luck", "I", false)
  | 4 => ("DoorOfLuck$Soul", "end", "I", false)
  | _ => ("DoorOfLuck$Soul", "opened", "I", false)
def jm_R7 : String := "DoorOfLuck$Tape"
def jm_T7 : u_T := fun k => match k with
  | 0 => ("DoorOfLuck$Tape", "bytes", "[I", true)
  | 1 => ("DoorOfLuck$Tape", "size", "I", false)
  | 2 => ("DoorOfLuck$Tape", "ahead", "I", false)
  | 3 => ("DoorOfLuck$Tape", "token", "I", false)
  | 4 => ("DoorOfLuck$Tape", "place", "I", false)
  | 5 => ("DoorOfLuck$Tape", "value", "I", false)
  | _ => ("DoorOfLuck$Tape", "fault", "I", false)
def jm_R8 : String := "DoorOfLuck$Text"
def jm_T8 : u_T := fun k => match k with
  | 0 => ("DoorOfLuck$Text", "steps", "[I", true)
  | 1 => ("DoorOfLuck$Text", "size", "I", false)
  | 2 => ("DoorOfLuck$Text", "ends", "[I", true)
  | _ => ("DoorOfLuck$Text", "stack", "[I", true)
def jm_R9 : String := "DoorOfLuck$Town"
def jm_T9 : u_T := fun k => match k with
  | 0 => ("DoorOfLuck$Town", "first", "[I", true)
  | 1 => ("DoorOfLuck$Town", "second", "[I", true)
  | 2 => ("DoorOfLuck$Town", "doors", "I", false)
  | 3 => ("DoorOfLuck$Town", "bricked", "I", false)
  | 4 => ("DoorOfLuck$Town", "day", "I", false)
  | 5 => ("DoorOfLuck$Town", "texts", "[LDoorOfLuck$Text;", true)
  | 6 => ("DoorOfLuck$Town", "textCount", "I", false)
  | 7 => ("DoorOfLuck$Town", "law", "I", false)
  | _ => ("DoorOfLuck$Town", "within", "[I", true)
def jm_R10 : String := "DoorOfLuck$Widow"
def jm_T10 : u_T := fun k => match k with
  | 0 => ("DoorOfLuck$Soul", "kind", "I", true)
  | 1 => ("DoorOfLuck$Soul", "more", "I", false)
  | 2 => ("DoorOfLuck$Soul", "house", "I", false)
  | 3 => ("DoorOfLuck$Soul", "luck", "I", false)
  | 4 => ("DoorOfLuck$Soul", "end", "I", false)
  | _ => ("DoorOfLuck$Soul", "opened", "I", false)
def jm_R11 : String := "DoorOfLuck"
def jm_T11 : u_T := fun k => match k with
  | 0 => ("DoorOfLuck", "town", "LDoorOfLuck$Town;", true)
  | 1 => ("DoorOfLuck", "tape", "LDoorOfLuck$Tape;", true)
  | 2 => ("DoorOfLuck", "people", "[LDoorOfLuck$Soul;", true)
  | 3 => ("DoorOfLuck", "peopleCount", "I", false)
  | 4 => ("DoorOfLuck", "thoughts", "[LDoorOfLuck$Soul;", true)
  | 5 => ("DoorOfLuck", "sheets", "[LDoorOfLuck$Sheet;", true)
  | _ => ("DoorOfLuck", "kept", "LDoorOfLuck$Image;", true)
def jm_R12 : String := "DoorOfLuckModel"
def jm_T12 : u_T := fun k => match k with
  | 0 => ("DoorOfLuckModel", "people", "I", false)
  | 1 => ("DoorOfLuckModel", "kind", "[I", true)
  | 2 => ("DoorOfLuckModel", "moreOf", "[I", true)
  | 3 => ("DoorOfLuckModel", "rows", "[I", true)
  | 4 => ("DoorOfLuckModel", "ones", "[I", true)
  | 5 => ("DoorOfLuckModel", "others", "[I", true)
  | 6 => ("DoorOfLuckModel", "bricked", "[I", true)
  | 7 => ("DoorOfLuckModel", "doors", "I", false)
  | 8 => ("DoorOfLuckModel", "days", "I", false)
  | 9 => ("DoorOfLuckModel", "tape", "[I", true)
  | 10 => ("DoorOfLuckModel", "taped", "I", false)
  | 11 => ("DoorOfLuckModel", "codes", "[I", true)
  | 12 => ("DoorOfLuckModel", "starts", "[I", true)
  | 13 => ("DoorOfLuckModel", "texts", "I", false)
  | 14 => ("DoorOfLuckModel", "rule", "I", false)
  | 15 => ("DoorOfLuckModel", "hasImage", "Z", false)
  | 16 => ("DoorOfLuckModel", "imageRows", "[I", true)
  | 17 => ("DoorOfLuckModel", "imageHeld", "[I", true)
  | 18 => ("DoorOfLuckModel", "sheetSort", "[I", true)
  | 19 => ("DoorOfLuckModel", "sheetSize", "[I", true)
  | 20 => ("DoorOfLuckModel", "cells", "[I", true)
  | 21 => ("DoorOfLuckModel", "law", "[I", true)
  | 22 => ("DoorOfLuckModel", "at", "I", false)
  | 23 => ("DoorOfLuckModel", "begun", "I", false)
  | 24 => ("DoorOfLuckModel", "token", "I", false)
  | 25 => ("DoorOfLuckModel", "value", "I", false)
  | 26 => ("DoorOfLuckModel", "words", "[I", true)
  | 27 => ("DoorOfLuckModel", "held", "[I", true)
  | 28 => ("DoorOfLuckModel", "heldMany", "I", false)
  | 29 => ("DoorOfLuckModel", "opens", "I", false)
  | 30 => ("DoorOfLuckModel", "out", "I", false)
  | 31 => ("DoorOfLuckModel", "stack", "[I", true)
  | 32 => ("DoorOfLuckModel", "named", "[I", true)
  | 33 => ("DoorOfLuckModel", "farFrom", "[I", true)
  | 34 => ("DoorOfLuckModel", "wayDoors", "[I", true)
  | 35 => ("DoorOfLuckModel", "kept", "[I", true)
  | 36 => ("DoorOfLuckModel", "opensMany", "I", false)
  | 37 => ("DoorOfLuckModel", "endAt", "I", false)
  | _ => ("DoorOfLuckModel", "houseThen", "I", false)
abbrev jm_cl : List vw_C := [(jm_R0, jm_T0, 6), (jm_R1, jm_T1, 6), (jm_R2, jm_T2, 6), (jm_R3, jm_T3, 7), (jm_R4, jm_T4, 6), (jm_R5, jm_T5, 3), (jm_R6, jm_T6, 6), (jm_R7, jm_T7, 7), (jm_R8, jm_T8, 4), (jm_R9, jm_T9, 9), (jm_R10, jm_T10, 6), (jm_R11, jm_T11, 7), (jm_R12, jm_T12, 39)]
/-- the places of each kind of object's words: fields, instantiable, initialized -/
def jm_kw : List (List Nat × Nat × Nat) := [([313, 314, 315, 316, 317, 318], 308, 84), ([287, 288, 289, 290, 291, 292], 282, 82), ([339, 340, 341, 342, 343, 344], 334, 86), ([263, 265, 267, 269, 271, 273, 275], 198, 80), ([300, 301, 302, 303, 304, 305], 295, 83), ([358, 360, 362], 347, 87), ([243, 245, 247, 249, 251, 253], 204, 81), ([178, 180, 182, 184, 186, 188, 190], 165, 79), ([121, 123, 125, 127], 112, 78), ([145, 147, 149, 151, 153, 155, 157, 159, 161], 105, 77), ([326, 327, 328, 329, 330, 331], 321, 85), ([372, 374, 376, 378, 380, 382, 384], 97, 76), ([1084, 1086, 1088, 1090, 1092, 1094, 1096, 1098, 1100, 1102, 1104, 1106, 1108, 1110, 1112, 1114, 1116, 1118, 1120, 1122, 1124, 1126, 1128, 1130, 1132, 1134, 1136, 1138, 1140, 1142, 1144, 1146, 1148, 1150, 1152, 1154, 1156, 1158, 1160], 993, 88)]
/-- the methods in the order of their codes' words -/
def jm_cids : List Nat := [77, 54, 45, 24, 9, 19, 126, 3, 11, 0, 74, 6, 14, 78, 79, 80, 119, 56, 81, 55, 123, 82, 57, 58, 130, 128, 131, 83, 121, 25, 84, 62, 27, 46, 37, 26, 41, 42, 39, 40, 238, 240, 239, 241, 243, 242, 244, 43, 38, 44, 35, 36, 28, 29, 30, 34, 47, 31, 32, 33, 48, 85, 86, 63, 50, 49, 237, 51, 53, 52, 235, 124, 236, 87, 88, 120, 89, 59, 67, 64, 2, 4, 7, 12, 22, 70, 69, 60, 90, 65, 1, 76, 23, 5, 8, 13, 75, 21, 61, 91, 92, 93, 71, 72, 73, 94, 132, 95, 96, 97, 133, 98, 134, 66, 68, 99, 100, 125, 101, 139, 136, 16, 129, 20, 137, 138, 102, 103, 140, 141, 104, 105, 106, 107, 108, 109, 15, 17, 110, 122, 135, 111, 112, 10, 113, 114, 115, 116, 18, 117, 118, 127, 142, 168, 159, 143, 158, 167, 161, 162, 160, 164, 163, 166, 165, 149, 150, 151, 148, 152, 147, 155, 153, 154, 157, 156, 171, 173, 146, 172, 145, 170, 169, 144, 174, 175, 186, 185, 184, 180, 179, 177, 182, 183, 190, 188, 187, 189, 178, 176, 191, 192, 195, 194, 193, 196, 197, 198, 200, 199, 202, 181, 201, 203, 205, 204, 212, 207, 206, 208, 211, 210, 209, 213, 217, 215, 214, 216, 218, 219, 220, 221, 222, 223, 225, 224, 226, 227, 228, 229, 230, 231, 232, 234, 233]
def jm_cn : List String := ["DoorOfLuck$Butler", "DoorOfLuck$Footman", "DoorOfLuck$Gypsy", "DoorOfLuck$Image", "DoorOfLuck$Lady", "DoorOfLuck$Sheet", "DoorOfLuck$Soul", "DoorOfLuck$Tape", "DoorOfLuck$Text", "DoorOfLuck$Town", "DoorOfLuck$Widow", "DoorOfLuck", "DoorOfLuckModel", "java/lang/Integer", "java/lang/Math", "java/lang/String", "java/lang/StringLatin1", "jdk/internal/util/Preconditions", "DoorOfLuckLaw", "java/lang/Object", "java/lang/System"]
/-- of a class's fields: which are references (2), truths (1), ints (0) -/
def jm_fk : List (List Nat) := [[0, 0, 0, 0, 0, 0], [0, 0, 0, 0, 0, 0], [0, 0, 0, 0, 0, 0], [1, 0, 0, 0, 0, 0, 2], [0, 0, 0, 0, 0, 0], [0, 0, 2], [0, 0, 0, 0, 0, 0], [2, 0, 0, 0, 0, 0, 0], [2, 0, 2, 2], [2, 2, 0, 0, 0, 2, 0, 0, 2], [0, 0, 0, 0, 0, 0], [2, 2, 2, 0, 2, 2, 2], [0, 2, 2, 2, 2, 2, 2, 0, 0, 2, 0, 2, 2, 0, 0, 1, 2, 2, 2, 2, 2, 2, 0, 0, 0, 0, 2, 2, 0, 0, 0, 2, 2, 2, 2, 2, 0, 0, 0]]
abbrev jm_op : Type := Instr × Nat × Nat × Int32
def jm_n : Option jm_op := none
abbrev jm_o (i : Instr) (p q : Nat) (k : Int32) : Option jm_op := some (i, p, q, k)
/-- fields: (class and entry of the pool), place, sort (3, 4: a String's), kinds of object, words by place in lw_tbl, (ref, name, desc) -/
def jm_ft : List ((Nat × Nat) × Nat × Nat × List Nat × List Nat × String × String × String) := [
  ((0, 11), 3, 0, [0, 1, 2, 4, 6, 10], [224, 225], "DoorOfLuck$Butler", "luck", "I"),
  ((0, 17), 1, 0, [0, 1, 2, 4, 6, 10], [216, 217], "DoorOfLuck$Butler", "more", "I"),
  ((1, 7), 1, 0, [0, 1, 2, 4, 6, 10], [214, 215], "DoorOfLuck$Footman", "more", "I"),
  ((2, 7), 4, 0, [0, 1, 2, 4, 6, 10], [233, 234], "DoorOfLuck$Gypsy", "end", "I"),
  ((3, 11), 6, 2, [3], [262], "DoorOfLuck$Image", "souls", "[LDoorOfLuck$Soul;"),
  ((4, 7), 4, 0, [0, 1, 2, 4, 6, 10], [235, 236], "DoorOfLuck$Lady", "end", "I"),
  ((5, 11), 0, 0, [5], [352], "DoorOfLuck$Sheet", "sort", "I"),
  ((5, 15), 2, 2, [5], [356], "DoorOfLuck$Sheet", "row", "[I"),
  ((5, 23), 1, 0, [5], [354], "DoorOfLuck$Sheet", "size", "I"),
  ((6, 9), 4, 0, [0, 1, 2, 4, 6, 10], [232], "DoorOfLuck$Soul", "end", "I"),
  ((6, 15), 0, 0, [0, 1, 2, 4, 6, 10], [209], "DoorOfLuck$Soul", "kind", "I"),
  ((6, 18), 1, 0, [0, 1, 2, 4, 6, 10], [211], "DoorOfLuck$Soul", "more", "I"),
  ((6, 21), 2, 0, [0, 1, 2, 4, 6, 10], [220], "DoorOfLuck$Soul", "house", "I"),
  ((6, 24), 3, 0, [0, 1, 2, 4, 6, 10], [228], "DoorOfLuck$Soul", "luck", "I"),
  ((6, 27), 5, 0, [0, 1, 2, 4, 6, 10], [239], "DoorOfLuck$Soul", "opened", "I"),
  ((7, 9), 0, 2, [7], [170], "DoorOfLuck$Tape", "bytes", "[I"),
  ((7, 15), 1, 0, [7], [171], "DoorOfLuck$Tape", "size", "I"),
  ((7, 19), 2, 0, [7], [173], "DoorOfLuck$Tape", "ahead", "I"),
  ((7, 22), 6, 0, [7], [177], "DoorOfLuck$Tape", "fault", "I"),
  ((7, 47), 3, 0, [7], [174], "DoorOfLuck$Tape", "token", "I"),
  ((7, 69), 5, 0, [7], [176], "DoorOfLuck$Tape", "value", "I"),
  ((7, 75), 4, 0, [7], [175], "DoorOfLuck$Tape", "place", "I"),
  ((8, 9), 0, 2, [8], [117], "DoorOfLuck$Text", "steps", "[I"),
  ((8, 15), 2, 2, [8], [119], "DoorOfLuck$Text", "ends", "[I"),
  ((8, 18), 3, 2, [8], [120], "DoorOfLuck$Text", "stack", "[I"),
  ((8, 21), 1, 0, [8], [118], "DoorOfLuck$Text", "size", "I"),
  ((8, 46), 3, 0, [0, 1, 2, 4, 6, 10], [229], "DoorOfLuck$Soul", "luck", "I"),
  ((8, 51), 2, 0, [0, 1, 2, 4, 6, 10], [221], "DoorOfLuck$Soul", "house", "I"),
  ((8, 54), 5, 0, [0, 1, 2, 4, 6, 10], [240], "DoorOfLuck$Soul", "opened", "I"),
  ((8, 62), 1, 0, [0, 1, 2, 4, 6, 10], [218], "DoorOfLuck$Soul", "more", "I"),
  ((9, 9), 0, 2, [9], [131], "DoorOfLuck$Town", "first", "[I"),
  ((9, 15), 1, 2, [9], [132], "DoorOfLuck$Town", "second", "[I"),
  ((9, 20), 5, 2, [9], [139], "DoorOfLuck$Town", "texts", "[LDoorOfLuck$Text;"),
  ((9, 24), 6, 0, [9], [140], "DoorOfLuck$Town", "textCount", "I"),
  ((9, 28), 8, 2, [9], [144], "DoorOfLuck$Town", "within", "[I"),
  ((9, 32), 2, 0, [9], [133], "DoorOfLuck$Town", "doors", "I"),
  ((9, 46), 7, 0, [9], [143], "DoorOfLuck$Town", "law", "I"),
  ((9, 49), 4, 0, [9], [138], "DoorOfLuck$Town", "day", "I"),
  ((9, 60), 3, 0, [9], [136], "DoorOfLuck$Town", "bricked", "I"),
  ((9, 80), 2, 0, [0, 1, 2, 4, 6, 10], [223], "DoorOfLuck$Soul", "house", "I"),
  ((9, 87), 4, 0, [0, 1, 2, 4, 6, 10], [237], "DoorOfLuck$Soul", "end", "I"),
  ((9, 93), 3, 0, [0, 1, 2, 4, 6, 10], [231], "DoorOfLuck$Soul", "luck", "I"),
  ((9, 99), 5, 0, [0, 1, 2, 4, 6, 10], [241], "DoorOfLuck$Soul", "opened", "I"),
  ((10, 11), 3, 0, [0, 1, 2, 4, 6, 10], [226, 227], "DoorOfLuck$Widow", "luck", "I"),
  ((10, 17), 1, 0, [0, 1, 2, 4, 6, 10], [212, 213], "DoorOfLuck$Widow", "more", "I"),
  ((11, 10), 0, 2, [11], [365], "DoorOfLuck", "town", "LDoorOfLuck$Town;"),
  ((11, 19), 1, 2, [11], [366], "DoorOfLuck", "tape", "LDoorOfLuck$Tape;"),
  ((11, 25), 2, 2, [11], [367], "DoorOfLuck", "people", "[LDoorOfLuck$Soul;"),
  ((11, 29), 4, 2, [11], [369], "DoorOfLuck", "thoughts", "[LDoorOfLuck$Soul;"),
  ((11, 34), 5, 2, [11], [370], "DoorOfLuck", "sheets", "[LDoorOfLuck$Sheet;"),
  ((11, 41), 6, 2, [11], [371], "DoorOfLuck", "kept", "LDoorOfLuck$Image;"),
  ((11, 50), 3, 0, [11], [368], "DoorOfLuck", "peopleCount", "I"),
  ((11, 54), 2, 0, [9], [134], "DoorOfLuck$Town", "doors", "I"),
  ((11, 57), 4, 0, [9], [137], "DoorOfLuck$Town", "day", "I"),
  ((11, 60), 6, 0, [9], [141], "DoorOfLuck$Town", "textCount", "I"),
  ((11, 63), 7, 0, [9], [142], "DoorOfLuck$Town", "law", "I"),
  ((11, 66), 1, 0, [7], [172], "DoorOfLuck$Tape", "size", "I"),
  ((11, 80), 3, 0, [9], [135], "DoorOfLuck$Town", "bricked", "I"),
  ((11, 122), 1, 0, [0, 1, 2, 4, 6, 10], [219], "DoorOfLuck$Soul", "more", "I"),
  ((11, 125), 2, 0, [0, 1, 2, 4, 6, 10], [222], "DoorOfLuck$Soul", "house", "I"),
  ((11, 128), 3, 0, [0, 1, 2, 4, 6, 10], [230], "DoorOfLuck$Soul", "luck", "I"),
  ((11, 134), 4, 0, [0, 1, 2, 4, 6, 10], [238], "DoorOfLuck$Soul", "end", "I"),
  ((11, 137), 0, 0, [0, 1, 2, 4, 6, 10], [210], "DoorOfLuck$Soul", "kind", "I"),
  ((11, 140), 5, 0, [0, 1, 2, 4, 6, 10], [242], "DoorOfLuck$Soul", "opened", "I"),
  ((11, 229), 0, 1, [3], [256], "DoorOfLuck$Image", "there", "Z"),
  ((11, 233), 1, 0, [3], [257], "DoorOfLuck$Image", "doors", "I"),
  ((11, 234), 2, 0, [3], [258], "DoorOfLuck$Image", "bricked", "I"),
  ((11, 235), 3, 0, [3], [259], "DoorOfLuck$Image", "day", "I"),
  ((11, 236), 4, 0, [3], [260], "DoorOfLuck$Image", "law", "I"),
  ((11, 237), 5, 0, [3], [261], "DoorOfLuck$Image", "peopleCount", "I"),
  ((11, 242), 0, 0, [5], [353], "DoorOfLuck$Sheet", "sort", "I"),
  ((11, 248), 2, 2, [5], [357], "DoorOfLuck$Sheet", "row", "[I"),
  ((11, 297), 1, 0, [5], [355], "DoorOfLuck$Sheet", "size", "I"),
  ((12, 7), 1, 2, [12], [1046], "DoorOfLuckModel", "kind", "[I"),
  ((12, 13), 2, 2, [12], [1047], "DoorOfLuckModel", "moreOf", "[I"),
  ((12, 16), 3, 2, [12], [1048], "DoorOfLuckModel", "rows", "[I"),
  ((12, 19), 4, 2, [12], [1049], "DoorOfLuckModel", "ones", "[I"),
  ((12, 22), 5, 2, [12], [1050], "DoorOfLuckModel", "others", "[I"),
  ((12, 25), 6, 2, [12], [1051], "DoorOfLuckModel", "bricked", "[I"),
  ((12, 28), 9, 2, [12], [1054], "DoorOfLuckModel", "tape", "[I"),
  ((12, 31), 11, 2, [12], [1056], "DoorOfLuckModel", "codes", "[I"),
  ((12, 34), 12, 2, [12], [1057], "DoorOfLuckModel", "starts", "[I"),
  ((12, 37), 16, 2, [12], [1061], "DoorOfLuckModel", "imageRows", "[I"),
  ((12, 40), 17, 2, [12], [1062], "DoorOfLuckModel", "imageHeld", "[I"),
  ((12, 43), 18, 2, [12], [1063], "DoorOfLuckModel", "sheetSort", "[I"),
  ((12, 46), 19, 2, [12], [1064], "DoorOfLuckModel", "sheetSize", "[I"),
  ((12, 49), 20, 2, [12], [1065], "DoorOfLuckModel", "cells", "[I"),
  ((12, 52), 21, 2, [12], [1066], "DoorOfLuckModel", "law", "[I"),
  ((12, 55), 26, 2, [12], [1071], "DoorOfLuckModel", "words", "[I"),
  ((12, 58), 27, 2, [12], [1072], "DoorOfLuckModel", "held", "[I"),
  ((12, 61), 31, 2, [12], [1076], "DoorOfLuckModel", "stack", "[I"),
  ((12, 64), 32, 2, [12], [1077], "DoorOfLuckModel", "named", "[I"),
  ((12, 67), 33, 2, [12], [1078], "DoorOfLuckModel", "farFrom", "[I"),
  ((12, 70), 34, 2, [12], [1079], "DoorOfLuckModel", "wayDoors", "[I"),
  ((12, 73), 35, 2, [12], [1080], "DoorOfLuckModel", "kept", "[I"),
  ((12, 76), 10, 0, [12], [1055], "DoorOfLuckModel", "taped", "I"),
  ((12, 84), 0, 0, [12], [1045], "DoorOfLuckModel", "people", "I"),
  ((12, 91), 7, 0, [12], [1052], "DoorOfLuckModel", "doors", "I"),
  ((12, 94), 8, 0, [12], [1053], "DoorOfLuckModel", "days", "I"),
  ((12, 97), 13, 0, [12], [1058], "DoorOfLuckModel", "texts", "I"),
  ((12, 100), 14, 0, [12], [1059], "DoorOfLuckModel", "rule", "I"),
  ((12, 120), 22, 0, [12], [1067], "DoorOfLuckModel", "at", "I"),
  ((12, 123), 23, 0, [12], [1068], "DoorOfLuckModel", "begun", "I"),
  ((12, 126), 24, 0, [12], [1069], "DoorOfLuckModel", "token", "I"),
  ((12, 129), 25, 0, [12], [1070], "DoorOfLuckModel", "value", "I"),
  ((12, 136), 30, 0, [12], [1075], "DoorOfLuckModel", "out", "I"),
  ((12, 139), 28, 0, [12], [1073], "DoorOfLuckModel", "heldMany", "I"),
  ((12, 145), 29, 0, [12], [1074], "DoorOfLuckModel", "opens", "I"),
  ((12, 256), 36, 0, [12], [1081], "DoorOfLuckModel", "opensMany", "I"),
  ((12, 259), 37, 0, [12], [1082], "DoorOfLuckModel", "endAt", "I"),
  ((12, 290), 38, 0, [12], [1083], "DoorOfLuckModel", "houseThen", "I"),
  ((12, 297), 15, 1, [12], [1060], "DoorOfLuckModel", "hasImage", "Z"),
  ((15, 9), 0, 3, [], [1491], "java/lang/String", "value", "[B"),
  ((15, 15), 0, 4, [], [1492], "java/lang/String", "coder", "B")]
/-- calls: kind, (class and entry of the pool), how many arguments, method, methods by kind of object, words by place in lw_tbl, the named method -/
def jm_cs : List (Nat × (Nat × Nat) × Nat × Nat × List (Nat × Nat) × List Nat × String × String × String) := [
  (2, (0, 1), 1, 3, [], [312, 284, 82], "DoorOfLuck$Footman", "<init>", "(I)V"),
  (7, (0, 7), 1, 23, [(0, 23)], [729, 730, 319, 293, 723, 81], "DoorOfLuck$Footman", "leaveBy", "(I)I"),
  (4, (0, 20), 3, 4, [(0, 4)], [686, 1482, 319, 687, 82], "DoorOfLuck$Footman", "daresBy", "(ZII)Z"),
  (2, (1, 1), 1, 19, [], [286, 206, 81], "DoorOfLuck$Soul", "<init>", "(I)V"),
  (2, (2, 1), 1, 19, [], [338, 206, 81], "DoorOfLuck$Soul", "<init>", "(I)V"),
  (8, (3, 3), 0, 0, [], [202, 102, 103], "java/lang/Object", "<init>", "()V"),
  (2, (3, 17), 1, 19, [], [205, 206, 81], "DoorOfLuck$Soul", "<init>", "(I)V"),
  (2, (4, 1), 1, 19, [], [299, 206, 81], "DoorOfLuck$Soul", "<init>", "(I)V"),
  (4, (4, 13), 3, 22, [(4, 22), (10, 22)], [696, 682, 306, 680, 81], "DoorOfLuck$Soul", "daresBy", "(ZII)Z"),
  (8, (5, 3), 0, 0, [], [351, 102, 103], "java/lang/Object", "<init>", "()V"),
  (1, (5, 19), 3, 124, [], [926, 644, 76], "DoorOfLuck", "bounded", "(III)I"),
  (8, (6, 3), 0, 0, [], [208, 102, 103], "java/lang/Object", "<init>", "()V"),
  (8, (7, 3), 0, 0, [], [169, 102, 103], "java/lang/Object", "<init>", "()V"),
  (5, (7, 25), 0, 46, [(8, 46)], [464, 465, 466, 78], "DoorOfLuck$Text", "clear", "()V"),
  (5, (7, 30), 0, 37, [(7, 37)], [468, 470, 3, 79], "DoorOfLuck$Tape", "next", "()V"),
  (5, (7, 33), 1, 35, [(7, 35)], [560, 562, 8, 79], "DoorOfLuck$Tape", "take", "(I)V"),
  (5, (7, 37), 2, 28, [(7, 28)], [568, 570, 10, 79], "DoorOfLuck$Tape", "readOr", "(LDoorOfLuck$Text;I)V"),
  (5, (7, 41), 1, 48, [(8, 48)], [600, 601, 602, 78], "DoorOfLuck$Text", "endPart", "(I)V"),
  (5, (7, 44), 2, 29, [(7, 29)], [572, 574, 11, 79], "DoorOfLuck$Tape", "readAnd", "(LDoorOfLuck$Text;I)V"),
  (5, (7, 50), 1, 47, [(8, 47)], [584, 585, 586, 78], "DoorOfLuck$Text", "add", "(I)V"),
  (5, (7, 53), 2, 30, [(7, 30)], [576, 578, 12, 79], "DoorOfLuck$Tape", "readNot", "(LDoorOfLuck$Text;I)V"),
  (5, (7, 56), 1, 34, [(7, 34)], [580, 582, 13, 79], "DoorOfLuck$Tape", "mayOpen", "(I)Z"),
  (5, (7, 60), 2, 31, [(7, 31)], [588, 590, 14, 79], "DoorOfLuck$Tape", "readSum", "(LDoorOfLuck$Text;I)V"),
  (5, (7, 63), 2, 32, [(7, 32)], [592, 594, 15, 79], "DoorOfLuck$Tape", "readTerm", "(LDoorOfLuck$Text;I)V"),
  (5, (7, 66), 2, 33, [(7, 33)], [596, 598, 16, 79], "DoorOfLuck$Tape", "readOne", "(LDoorOfLuck$Text;I)V"),
  (5, (7, 72), 0, 36, [(7, 36)], [564, 566, 9, 79], "DoorOfLuck$Tape", "fail", "()V"),
  (5, (7, 78), 1, 26, [(7, 26)], [472, 474, 4, 79], "DoorOfLuck$Tape", "byteAt", "(I)I"),
  (0, (7, 82), 1, 41, [], [476, 477, 79], "DoorOfLuck$Tape", "isBlank", "(I)Z"),
  (0, (7, 85), 1, 42, [], [479, 480, 79], "DoorOfLuck$Tape", "isLetter", "(I)Z"),
  (5, (7, 88), 0, 39, [(7, 39)], [482, 484, 5, 79], "DoorOfLuck$Tape", "readWord", "()I"),
  (0, (7, 92), 1, 43, [], [550, 551, 79], "DoorOfLuck$Tape", "isDigit", "(I)Z"),
  (5, (7, 95), 0, 38, [(7, 38)], [553, 555, 7, 79], "DoorOfLuck$Tape", "readNumber", "()I"),
  (0, (7, 98), 1, 44, [], [557, 558, 79], "DoorOfLuck$Tape", "isSign", "(I)Z"),
  (5, (7, 103), 1, 40, [(7, 40)], [487, 489, 6, 79], "DoorOfLuck$Tape", "spells", "(Ljava/lang/String;)Z"),
  (9, (7, 129), 0, 238, [], [491, 492, 493, 89], "java/lang/String", "length", "()I"),
  (9, (7, 134), 1, 239, [], [501, 502, 503, 89], "java/lang/String", "charAt", "(I)C"),
  (8, (8, 3), 0, 0, [], [116, 102, 103], "java/lang/Object", "<init>", "()V"),
  (5, (8, 25), 1, 49, [(8, 49)], [621, 623, 17, 78], "DoorOfLuck$Text", "endOfPart", "(I)I"),
  (12, (8, 29), 2, 0, [], [625, 626, 93, 627], "java/lang/Math", "min", "(II)I"),
  (0, (8, 35), 1, 51, [], [628, 629, 78], "DoorOfLuck$Text", "operands", "(I)I"),
  (0, (8, 38), 3, 53, [], [631, 632, 78], "DoorOfLuck$Text", "reckoned", "(III)I"),
  (0, (8, 42), 4, 52, [], [634, 635, 78], "DoorOfLuck$Text", "named", "(ILDoorOfLuck$Soul;II)I"),
  (0, (8, 57), 1, 235, [], [637, 638, 94], "java/lang/Integer", "bitCount", "(I)I"),
  (8, (9, 3), 0, 0, [], [109, 102, 103], "java/lang/Object", "<init>", "()V"),
  (2, (9, 31), 0, 45, [], [113, 114, 78], "DoorOfLuck$Text", "<init>", "()V"),
  (5, (9, 35), 1, 55, [(9, 55)], [711, 411, 412, 77], "DoorOfLuck$Town", "isDoor", "(I)Z"),
  (5, (9, 39), 1, 57, [(9, 57)], [712, 422, 423, 77], "DoorOfLuck$Town", "firstHouse", "(I)I"),
  (5, (9, 43), 1, 58, [(9, 58)], [713, 426, 427, 77], "DoorOfLuck$Town", "otherHouse", "(I)I"),
  (5, (9, 52), 4, 50, [(8, 50)], [617, 618, 619, 78], "DoorOfLuck$Text", "value", "(ILDoorOfLuck$Soul;II)I"),
  (1, (9, 56), 3, 124, [], [643, 644, 76], "DoorOfLuck", "bounded", "(III)I"),
  (1, (9, 63), 2, 123, [], [677, 415, 76], "DoorOfLuck", "bit", "(II)I"),
  (5, (9, 67), 3, 63, [(9, 63)], [678, 614, 615, 77], "DoorOfLuck$Town", "said", "(ILDoorOfLuck$Soul;I)I"),
  (6, (9, 71), 3, 22, [(0, 2), (1, 4), (2, 7), (4, 12), (6, 22), (10, 12)], [679, 682, 680, 683, 684, 84, 689, 687, 82, 690, 691, 86, 693, 694, 83, 681, 680, 81, 697, 694, 83], "DoorOfLuck$Soul", "daresBy", "(ZII)Z"),
  (5, (9, 77), 1, 60, [(9, 60)], [707, 709, 19, 77], "DoorOfLuck$Town", "sides", "(I)I"),
  (5, (9, 83), 2, 64, [(9, 64)], [673, 674, 675, 77], "DoorOfLuck$Town", "dares", "(LDoorOfLuck$Soul;I)Z"),
  (6, (9, 90), 1, 23, [(0, 1), (1, 23), (2, 23), (4, 23), (6, 23), (10, 76)], [722, 725, 723, 726, 727, 84, 732, 723, 81, 733, 723, 81, 734, 723, 81, 724, 723, 81, 735, 736, 85], "DoorOfLuck$Soul", "leaveBy", "(I)I"),
  (6, (9, 96), 1, 21, [(0, 5), (1, 5), (2, 8), (4, 13), (6, 21), (10, 75)], [742, 745, 743, 746, 747, 82, 749, 747, 82, 750, 751, 86, 753, 754, 83, 744, 743, 81, 756, 757, 85], "DoorOfLuck$Soul", "gainBy", "(I)I"),
  (5, (9, 102), 2, 61, [(9, 61)], [761, 763, 20, 77], "DoorOfLuck$Town", "through", "(II)I"),
  (5, (9, 105), 2, 70, [(9, 70)], [831, 700, 701, 77], "DoorOfLuck$Town", "reached", "(II)I"),
  (5, (9, 108), 2, 69, [(9, 69)], [703, 705, 18, 77], "DoorOfLuck$Town", "oneDoorFurther", "(II)I"),
  (5, (9, 111), 3, 71, [(9, 71)], [785, 778, 779, 77], "DoorOfLuck$Town", "away", "(III)I"),
  (5, (9, 114), 3, 73, [(9, 73)], [786, 788, 21, 77], "DoorOfLuck$Town", "lastDoor", "(III)I"),
  (2, (10, 1), 1, 11, [], [325, 297, 83], "DoorOfLuck$Lady", "<init>", "(I)V"),
  (4, (10, 7), 1, 13, [(10, 13)], [759, 1483, 332, 754, 83], "DoorOfLuck$Lady", "gainBy", "(I)I"),
  (7, (10, 20), 1, 23, [(10, 23)], [738, 739, 332, 306, 723, 81], "DoorOfLuck$Lady", "leaveBy", "(I)I"),
  (11, (10, 23), 2, 0, [], [740, 648, 93, 649], "java/lang/Math", "max", "(II)I"),
  (8, (11, 1), 0, 0, [], [101, 102, 103], "java/lang/Object", "<init>", "()V"),
  (2, (11, 9), 0, 54, [], [106, 107, 77], "DoorOfLuck$Town", "<init>", "()V"),
  (3, (11, 18), 0, 24, [], [166, 167, 79], "DoorOfLuck$Tape", "<init>", "()V"),
  (2, (11, 40), 0, 9, [], [199, 200, 80], "DoorOfLuck$Image", "<init>", "()V"),
  (0, (11, 45), 1, 126, [], [278, 279, 76], "DoorOfLuck", "soulOf", "(I)LDoorOfLuck$Soul;"),
  (3, (11, 49), 0, 14, [], [348, 349, 87], "DoorOfLuck$Sheet", "<init>", "()V"),
  (0, (11, 69), 1, 119, [], [399, 400, 76], "DoorOfLuck", "isHouse", "(I)Z"),
  (5, (11, 73), 2, 56, [(9, 56)], [402, 403, 404, 77], "DoorOfLuck$Town", "hang", "(II)Z"),
  (5, (11, 77), 1, 55, [(9, 55)], [410, 411, 412, 77], "DoorOfLuck$Town", "isDoor", "(I)Z"),
  (0, (11, 83), 2, 123, [], [414, 415, 76], "DoorOfLuck", "bit", "(II)I"),
  (5, (11, 87), 1, 57, [(9, 57)], [421, 422, 423, 77], "DoorOfLuck$Town", "firstHouse", "(I)I"),
  (5, (11, 91), 1, 58, [(9, 58)], [425, 426, 427, 77], "DoorOfLuck$Town", "otherHouse", "(I)I"),
  (5, (11, 94), 1, 130, [(11, 130)], [429, 431, 0, 76], "DoorOfLuck", "endOf", "(I)I"),
  (5, (11, 97), 1, 131, [(11, 131)], [437, 439, 2, 76], "DoorOfLuck", "openersOf", "(I)I"),
  (0, (11, 100), 1, 121, [], [445, 446, 76], "DoorOfLuck", "isByte", "(I)Z"),
  (5, (11, 103), 1, 25, [(7, 25)], [448, 449, 450, 79], "DoorOfLuck$Tape", "add", "(I)V"),
  (5, (11, 107), 0, 62, [(9, 62)], [456, 457, 458, 77], "DoorOfLuck$Town", "nextText", "()LDoorOfLuck$Text;"),
  (5, (11, 111), 1, 27, [(7, 27)], [460, 461, 462, 79], "DoorOfLuck$Tape", "readInto", "(LDoorOfLuck$Text;)I"),
  (5, (11, 115), 1, 128, [(11, 128)], [433, 435, 1, 76], "DoorOfLuck", "personAt", "(I)LDoorOfLuck$Soul;"),
  (5, (11, 118), 3, 63, [(9, 63)], [613, 614, 615, 77], "DoorOfLuck$Town", "said", "(ILDoorOfLuck$Soul;I)I"),
  (0, (11, 131), 1, 120, [], [658, 659, 76], "DoorOfLuck", "isLuck", "(I)Z"),
  (5, (11, 143), 0, 59, [(9, 59)], [665, 666, 667, 77], "DoorOfLuck$Town", "allDoors", "()I"),
  (5, (11, 147), 1, 67, [(9, 67)], [669, 670, 671, 77], "DoorOfLuck$Town", "safeDoors", "(LDoorOfLuck$Soul;)I"),
  (5, (11, 151), 2, 70, [(9, 70)], [699, 700, 701, 77], "DoorOfLuck$Town", "reached", "(II)I"),
  (5, (11, 154), 2, 65, [(9, 65)], [718, 719, 720, 77], "DoorOfLuck$Town", "tries", "(LDoorOfLuck$Soul;I)Z"),
  (5, (11, 158), 3, 71, [(9, 71)], [777, 778, 779, 77], "DoorOfLuck$Town", "away", "(III)I"),
  (5, (11, 162), 3, 72, [(9, 72)], [781, 782, 783, 77], "DoorOfLuck$Town", "wayNumber", "(III)I"),
  (5, (11, 165), 1, 132, [(11, 132)], [794, 796, 22, 76], "DoorOfLuck", "houseOfAll", "(I)I"),
  (0, (11, 168), 1, 235, [], [802, 638, 94], "java/lang/Integer", "bitCount", "(I)I"),
  (5, (11, 173), 0, 133, [(11, 133)], [811, 813, 23, 76], "DoorOfLuck", "housesOfEach", "()I"),
  (5, (11, 176), 1, 134, [(11, 134)], [819, 821, 24, 76], "DoorOfLuck", "fewestToWatch", "(LDoorOfLuck$Soul;)I"),
  (5, (11, 179), 1, 66, [(9, 66)], [823, 824, 825, 77], "DoorOfLuck$Town", "daredDoors", "(LDoorOfLuck$Soul;)I"),
  (5, (11, 182), 2, 68, [(9, 68)], [827, 828, 829, 77], "DoorOfLuck$Town", "inDanger", "(LDoorOfLuck$Soul;I)Z"),
  (0, (11, 187), 3, 125, [], [841, 842, 76], "DoorOfLuck", "inLowestTerms", "(III)J"),
  (5, (11, 191), 1, 139, [(11, 139)], [848, 850, 25, 76], "DoorOfLuck", "refusedDoors", "(I)I"),
  (5, (11, 194), 2, 129, [(11, 129)], [860, 862, 27, 76], "DoorOfLuck", "thoughtOf", "(LDoorOfLuck$Soul;I)LDoorOfLuck$Soul;"),
  (5, (11, 198), 1, 137, [(11, 137)], [874, 876, 28, 76], "DoorOfLuck", "sizeOf", "(I)I"),
  (5, (11, 201), 2, 138, [(11, 138)], [878, 880, 29, 76], "DoorOfLuck", "cellOf", "(II)I"),
  (5, (11, 204), 2, 140, [(11, 140)], [890, 892, 30, 76], "DoorOfLuck", "refusedTold", "(II)I"),
  (5, (11, 207), 3, 141, [(11, 141)], [894, 896, 31, 76], "DoorOfLuck", "firstOtherwise", "(IILDoorOfLuck$Soul;)I"),
  (5, (11, 211), 1, 136, [(11, 136)], [852, 854, 26, 76], "DoorOfLuck", "sheetAt", "(I)LDoorOfLuck$Sheet;"),
  (5, (11, 215), 2, 15, [(5, 15)], [922, 923, 924, 87], "DoorOfLuck$Sheet", "become", "(II)V"),
  (5, (11, 219), 2, 17, [(5, 17)], [927, 928, 929, 87], "DoorOfLuck$Sheet", "write", "(II)Z"),
  (0, (11, 222), 1, 122, [], [935, 936, 76], "DoorOfLuck", "isSeed", "(I)Z"),
  (5, (11, 225), 3, 135, [(11, 135)], [939, 941, 32, 76], "DoorOfLuck", "stroll", "(LDoorOfLuck$Soul;II)V"),
  (5, (11, 238), 1, 10, [(3, 10)], [953, 954, 955, 80], "DoorOfLuck$Image", "personAt", "(I)LDoorOfLuck$Soul;"),
  (6, (11, 239), 1, 20, [(0, 20), (1, 20), (2, 20), (4, 20), (6, 20), (10, 20)], [864, 867, 865, 868, 865, 81, 869, 865, 81, 870, 865, 81, 871, 865, 81, 866, 865, 81, 872, 865, 81], "DoorOfLuck$Soul", "become", "(LDoorOfLuck$Soul;)V"),
  (5, (11, 245), 2, 18, [(5, 18)], [973, 974, 975, 87], "DoorOfLuck$Sheet", "holds", "(II)Z"),
  (10, (11, 252), 5, 0, [], [977, 979, 978, 95], "java/lang/System", "arraycopy", "(Ljava/lang/Object;ILjava/lang/Object;II)V"),
  (5, (11, 258), 1, 16, [(5, 16)], [856, 857, 858, 87], "DoorOfLuck$Sheet", "at", "(I)I"),
  (5, (11, 261), 2, 87, [(11, 87)], [984, 651, 652, 76], "DoorOfLuck", "person", "(II)I"),
  (0, (11, 264), 2, 127, [], [989, 990, 76], "DoorOfLuck", "isOfKind", "(LDoorOfLuck$Soul;I)Z"),
  (12, (11, 268), 2, 0, [], [646, 626, 93, 627], "java/lang/Math", "min", "(II)I"),
  (11, (11, 273), 2, 0, [], [647, 648, 93, 649], "java/lang/Math", "max", "(II)I"),
  (2, (11, 278), 1, 3, [], [283, 284, 82], "DoorOfLuck$Footman", "<init>", "(I)V"),
  (2, (11, 282), 1, 11, [], [296, 297, 83], "DoorOfLuck$Lady", "<init>", "(I)V"),
  (2, (11, 285), 1, 0, [], [309, 310, 84], "DoorOfLuck$Butler", "<init>", "(I)V"),
  (2, (11, 288), 1, 74, [], [322, 323, 85], "DoorOfLuck$Widow", "<init>", "(I)V"),
  (2, (11, 291), 1, 6, [], [335, 336, 86], "DoorOfLuck$Gypsy", "<init>", "(I)V"),
  (2, (11, 292), 1, 19, [], [346, 206, 81], "DoorOfLuck$Soul", "<init>", "(I)V"),
  (8, (12, 1), 0, 0, [], [997, 102, 103], "java/lang/Object", "<init>", "()V"),
  (5, (12, 80), 0, 168, [(12, 168)], [998, 999, 1000, 88], "DoorOfLuckModel", "text", "()I"),
  (0, (12, 87), 3, 143, [], [1006, 1007, 88], "DoorOfLuckModel", "in", "(III)Z"),
  (0, (12, 103), 1, 148, [], [1175, 1176, 88], "DoorOfLuckModel", "isHouse", "(I)Z"),
  (5, (12, 107), 1, 147, [(12, 147)], [1182, 1184, 42, 88], "DoorOfLuckModel", "isDoor", "(I)Z"),
  (5, (12, 110), 1, 153, [(12, 153)], [1190, 1192, 43, 88], "DoorOfLuckModel", "endOf", "(I)I"),
  (5, (12, 114), 1, 154, [(12, 154)], [1194, 1196, 44, 88], "DoorOfLuckModel", "openedBy", "(I)I"),
  (0, (12, 117), 1, 156, [], [1202, 1203, 88], "DoorOfLuckModel", "isByte", "(I)Z"),
  (5, (12, 132), 2, 158, [(12, 158)], [1009, 1011, 34, 88], "DoorOfLuckModel", "wordFrom", "(II)I"),
  (0, (12, 142), 1, 160, [], [1026, 1027, 88], "DoorOfLuckModel", "rank", "(I)I"),
  (5, (12, 148), 1, 161, [(12, 161)], [1018, 1020, 36, 88], "DoorOfLuckModel", "puts", "(I)V"),
  (5, (12, 152), 1, 163, [(12, 163)], [1033, 1035, 39, 88], "DoorOfLuckModel", "holds", "(I)V"),
  (5, (12, 155), 1, 162, [(12, 162)], [1022, 1024, 37, 88], "DoorOfLuckModel", "unwinds", "(I)V"),
  (5, (12, 158), 0, 159, [(12, 159)], [1002, 1004, 33, 88], "DoorOfLuckModel", "next", "()V"),
  (5, (12, 162), 1, 164, [(12, 164)], [1029, 1031, 38, 88], "DoorOfLuckModel", "opensOne", "(I)Z"),
  (5, (12, 165), 0, 166, [(12, 166)], [1037, 1039, 40, 88], "DoorOfLuckModel", "signOf", "()I"),
  (5, (12, 168), 1, 165, [(12, 165)], [1041, 1043, 41, 88], "DoorOfLuckModel", "between", "(I)Z"),
  (5, (12, 171), 0, 167, [(12, 167)], [1013, 1015, 35, 88], "DoorOfLuckModel", "eRead", "()Z"),
  (0, (12, 175), 3, 169, [], [1229, 1230, 88], "DoorOfLuckModel", "two", "(III)I"),
  (0, (12, 179), 1, 145, [], [1222, 1223, 88], "DoorOfLuckModel", "bitsOf", "(I)I"),
  (5, (12, 182), 1, 170, [(12, 170)], [1225, 1227, 47, 88], "DoorOfLuckModel", "says", "(I)I"),
  (0, (12, 185), 3, 144, [], [1232, 1233, 88], "DoorOfLuckModel", "within", "(III)I"),
  (5, (12, 188), 1, 146, [(12, 146)], [1214, 1216, 45, 88], "DoorOfLuckModel", "isOne", "(I)Z"),
  (5, (12, 191), 3, 172, [(12, 172)], [1218, 1220, 46, 88], "DoorOfLuckModel", "asksOf", "(III)I"),
  (5, (12, 194), 2, 177, [(12, 177)], [1263, 1265, 52, 88], "DoorOfLuckModel", "doesDare", "(II)Z"),
  (5, (12, 198), 2, 179, [(12, 179)], [1259, 1261, 51, 88], "DoorOfLuckModel", "isSafe", "(II)Z"),
  (5, (12, 201), 1, 180, [(12, 180)], [1255, 1257, 50, 88], "DoorOfLuckModel", "safeFor", "(I)I"),
  (5, (12, 204), 2, 182, [(12, 182)], [1267, 1269, 53, 88], "DoorOfLuckModel", "goesOut", "(II)V"),
  (5, (12, 208), 0, 183, [(12, 183)], [1271, 1273, 54, 88], "DoorOfLuckModel", "reached", "()I"),
  (5, (12, 211), 1, 185, [(12, 185)], [1247, 1249, 48, 88], "DoorOfLuckModel", "mayBeEnd", "(I)I"),
  (5, (12, 214), 1, 184, [(12, 184)], [1251, 1253, 49, 88], "DoorOfLuckModel", "reachedBy", "(I)I"),
  (5, (12, 217), 2, 187, [(12, 187)], [1283, 1285, 56, 88], "DoorOfLuckModel", "isOf", "(II)Z"),
  (5, (12, 220), 2, 178, [(12, 178)], [1291, 1293, 58, 88], "DoorOfLuckModel", "leavesOf", "(II)I"),
  (5, (12, 223), 2, 176, [(12, 176)], [1295, 1297, 59, 88], "DoorOfLuckModel", "gainsOf", "(II)I"),
  (5, (12, 226), 2, 188, [(12, 188)], [1279, 1281, 55, 88], "DoorOfLuckModel", "mayOpen", "(II)Z"),
  (5, (12, 229), 2, 189, [(12, 189)], [1287, 1289, 57, 88], "DoorOfLuckModel", "opens0", "(II)V"),
  (5, (12, 232), 2, 193, [(12, 193)], [1315, 1317, 61, 88], "DoorOfLuckModel", "lastDoor", "(II)I"),
  (5, (12, 235), 2, 194, [(12, 194)], [1311, 1313, 60, 88], "DoorOfLuckModel", "wayNumber", "(II)I"),
  (5, (12, 238), 0, 199, [(12, 199)], [1335, 1337, 62, 88], "DoorOfLuckModel", "reachedAll", "()I"),
  (5, (12, 241), 1, 181, [(12, 181)], [1343, 1345, 63, 88], "DoorOfLuckModel", "daredBy", "(I)I"),
  (5, (12, 244), 2, 201, [(12, 201)], [1347, 1349, 64, 88], "DoorOfLuckModel", "isInDanger", "(II)Z"),
  (0, (12, 249), 3, 204, [], [1360, 1361, 88], "DoorOfLuckModel", "lowest", "(JJI)J"),
  (5, (12, 253), 1, 206, [(12, 206)], [1371, 1373, 66, 88], "DoorOfLuckModel", "walkWrong", "(I)I"),
  (5, (12, 262), 2, 210, [(12, 210)], [1383, 1385, 69, 88], "DoorOfLuckModel", "tries", "(II)V"),
  (5, (12, 265), 2, 207, [(12, 207)], [1367, 1369, 65, 88], "DoorOfLuckModel", "oneWrong", "(II)I"),
  (5, (12, 268), 1, 208, [(12, 208)], [1375, 1377, 67, 88], "DoorOfLuckModel", "keeps", "(I)V"),
  (5, (12, 271), 2, 211, [(12, 211)], [1379, 1381, 68, 88], "DoorOfLuckModel", "triesAll", "(II)V"),
  (5, (12, 274), 1, 209, [(12, 209)], [1387, 1389, 70, 88], "DoorOfLuckModel", "lays", "(I)V"),
  (5, (12, 277), 2, 214, [(12, 214)], [1403, 1405, 72, 88], "DoorOfLuckModel", "twoWrong", "(II)I"),
  (5, (12, 280), 3, 215, [(12, 215)], [1399, 1401, 71, 88], "DoorOfLuckModel", "toldWrong", "(III)I"),
  (5, (12, 283), 3, 216, [(12, 216)], [1407, 1409, 73, 88], "DoorOfLuckModel", "unlike", "(III)I"),
  (5, (12, 294), 3, 224, [(12, 224)], [1440, 1442, 74, 88], "DoorOfLuckModel", "strolls", "(III)I"),
  (5, (12, 301), 2, 174, [(12, 174)], [1474, 1236, 1237, 88], "DoorOfLuckModel", "person", "(II)I"),
  (0, (12, 304), 2, 233, [], [1479, 1480, 88], "DoorOfLuckModel", "isUnder", "(II)Z"),
  (9, (15, 335), 0, 240, [], [495, 496, 497, 89], "java/lang/String", "coder", "()B"),
  (9, (15, 492), 0, 241, [], [505, 506, 507, 89], "java/lang/String", "isLatin1", "()Z"),
  (0, (15, 495), 2, 243, [], [509, 510, 90], "java/lang/StringLatin1", "charAt", "([BI)C"),
  (0, (15, 1059), 3, 244, [], [517, 518, 91], "jdk/internal/util/Preconditions", "checkIndex", "(IILjava/util/function/BiFunction;)I"),
  (0, (16, 9), 2, 242, [], [512, 513, 89], "java/lang/String", "checkIndex", "(II)V"),
  (2, (18, 9), 0, 77, [], [98, 99, 76], "DoorOfLuck", "<init>", "()V"),
  (2, (18, 12), 0, 142, [], [994, 995, 88], "DoorOfLuckModel", "<init>", "()V"),
  (5, (18, 13), 1, 78, [(11, 78)], [387, 388, 389, 76], "DoorOfLuck", "count", "(I)I"),
  (5, (18, 17), 1, 149, [(12, 149)], [1163, 1164, 1165, 88], "DoorOfLuckModel", "count", "(I)I"),
  (5, (18, 18), 1, 79, [(11, 79)], [391, 392, 393, 76], "DoorOfLuck", "dawn", "(I)I"),
  (5, (18, 21), 1, 150, [(12, 150)], [1167, 1168, 1169, 88], "DoorOfLuckModel", "dawn", "(I)I"),
  (5, (18, 22), 2, 80, [(11, 80)], [395, 396, 397, 76], "DoorOfLuck", "door", "(II)I"),
  (5, (18, 26), 2, 151, [(12, 151)], [1171, 1172, 1173, 88], "DoorOfLuckModel", "door", "(II)I"),
  (5, (18, 27), 2, 81, [(11, 81)], [406, 407, 408, 76], "DoorOfLuck", "brick", "(II)I"),
  (5, (18, 30), 2, 152, [(12, 152)], [1178, 1179, 1180, 88], "DoorOfLuckModel", "brick", "(II)I"),
  (5, (18, 31), 2, 82, [(11, 82)], [417, 418, 419, 76], "DoorOfLuck", "hung", "(II)I"),
  (5, (18, 34), 2, 155, [(12, 155)], [1186, 1187, 1188, 88], "DoorOfLuckModel", "hung", "(II)I"),
  (5, (18, 35), 6, 83, [(11, 83)], [441, 442, 443, 76], "DoorOfLuck", "feed", "(IIIIII)I"),
  (5, (18, 39), 6, 157, [(12, 157)], [1198, 1199, 1200, 88], "DoorOfLuckModel", "feed", "(IIIIII)I"),
  (5, (18, 40), 0, 84, [(11, 84)], [452, 453, 454, 76], "DoorOfLuck", "text", "()I"),
  (5, (18, 44), 0, 168, [(12, 168)], [1205, 999, 1000, 88], "DoorOfLuckModel", "text", "()I"),
  (5, (18, 45), 1, 85, [(11, 85)], [605, 606, 607, 76], "DoorOfLuck", "force", "(I)I"),
  (5, (18, 48), 1, 171, [(12, 171)], [1206, 1207, 1208, 88], "DoorOfLuckModel", "force", "(I)I"),
  (5, (18, 49), 3, 86, [(11, 86)], [609, 610, 611, 76], "DoorOfLuck", "asks", "(III)I"),
  (5, (18, 53), 3, 173, [(12, 173)], [1210, 1211, 1212, 88], "DoorOfLuckModel", "asks", "(III)I"),
  (5, (18, 54), 2, 87, [(11, 87)], [650, 651, 652, 76], "DoorOfLuck", "person", "(II)I"),
  (5, (18, 57), 2, 174, [(12, 174)], [1235, 1236, 1237, 88], "DoorOfLuckModel", "person", "(II)I"),
  (5, (18, 58), 3, 88, [(11, 88)], [654, 655, 656, 76], "DoorOfLuck", "put", "(III)I"),
  (5, (18, 61), 3, 175, [(12, 175)], [1239, 1240, 1241, 88], "DoorOfLuckModel", "put", "(III)I"),
  (5, (18, 62), 2, 89, [(11, 89)], [661, 662, 663, 76], "DoorOfLuck", "told", "(II)I"),
  (5, (18, 65), 2, 186, [(12, 186)], [1243, 1244, 1245, 88], "DoorOfLuckModel", "told", "(II)I"),
  (5, (18, 66), 2, 90, [(11, 90)], [714, 715, 716, 76], "DoorOfLuck", "open", "(II)I"),
  (5, (18, 69), 2, 190, [(12, 190)], [1275, 1276, 1277, 88], "DoorOfLuckModel", "open", "(II)I"),
  (5, (18, 70), 3, 91, [(11, 91)], [765, 766, 767, 76], "DoorOfLuck", "after", "(III)I"),
  (5, (18, 73), 3, 191, [(12, 191)], [1299, 1300, 1301, 88], "DoorOfLuckModel", "after", "(III)I"),
  (5, (18, 74), 2, 92, [(11, 92)], [769, 770, 771, 76], "DoorOfLuck", "safe", "(II)I"),
  (5, (18, 77), 2, 192, [(12, 192)], [1303, 1304, 1305, 88], "DoorOfLuckModel", "safe", "(II)I"),
  (5, (18, 78), 3, 93, [(11, 93)], [773, 774, 775, 76], "DoorOfLuck", "way", "(III)I"),
  (5, (18, 81), 3, 195, [(12, 195)], [1307, 1308, 1309, 88], "DoorOfLuckModel", "way", "(III)I"),
  (5, (18, 82), 2, 94, [(11, 94)], [790, 791, 792, 76], "DoorOfLuck", "together", "(II)I"),
  (5, (18, 85), 2, 196, [(12, 196)], [1319, 1320, 1321, 88], "DoorOfLuckModel", "together", "(II)I"),
  (5, (18, 86), 2, 95, [(11, 95)], [798, 799, 800, 76], "DoorOfLuck", "friend", "(II)I"),
  (5, (18, 89), 2, 197, [(12, 197)], [1323, 1324, 1325, 88], "DoorOfLuckModel", "friend", "(II)I"),
  (5, (18, 90), 1, 96, [(11, 96)], [803, 804, 805, 76], "DoorOfLuck", "worst", "(I)I"),
  (5, (18, 93), 1, 198, [(12, 198)], [1327, 1328, 1329, 88], "DoorOfLuckModel", "worst", "(I)I"),
  (5, (18, 94), 1, 97, [(11, 97)], [807, 808, 809, 76], "DoorOfLuck", "mason", "(I)I"),
  (5, (18, 97), 1, 200, [(12, 200)], [1331, 1332, 1333, 88], "DoorOfLuckModel", "mason", "(I)I"),
  (5, (18, 98), 2, 98, [(11, 98)], [815, 816, 817, 76], "DoorOfLuck", "watch", "(II)I"),
  (5, (18, 101), 2, 202, [(12, 202)], [1339, 1340, 1341, 88], "DoorOfLuckModel", "watch", "(II)I"),
  (5, (18, 102), 0, 99, [(11, 99)], [832, 833, 834, 76], "DoorOfLuck", "doomed", "()I"),
  (5, (18, 105), 0, 203, [(12, 203)], [1351, 1352, 1353, 88], "DoorOfLuckModel", "doomed", "()I"),
  (5, (18, 106), 1, 100, [(11, 100)], [836, 837, 838, 76], "DoorOfLuck", "share", "(I)J"),
  (5, (18, 110), 1, 205, [(12, 205)], [1355, 1356, 1357, 88], "DoorOfLuckModel", "share", "(I)J"),
  (5, (18, 111), 3, 101, [(11, 101)], [844, 845, 846, 76], "DoorOfLuck", "walk", "(III)I"),
  (5, (18, 114), 3, 212, [(12, 212)], [1363, 1364, 1365, 88], "DoorOfLuckModel", "walk", "(III)I"),
  (5, (18, 115), 2, 102, [(11, 102)], [882, 883, 884, 76], "DoorOfLuck", "goes", "(II)I"),
  (5, (18, 118), 2, 213, [(12, 213)], [1391, 1392, 1393, 88], "DoorOfLuckModel", "goes", "(II)I"),
  (5, (18, 119), 3, 103, [(11, 103)], [886, 887, 888, 76], "DoorOfLuck", "judge", "(III)I"),
  (5, (18, 122), 3, 217, [(12, 217)], [1395, 1396, 1397, 88], "DoorOfLuckModel", "judge", "(III)I"),
  (5, (18, 123), 4, 104, [(11, 104)], [898, 899, 900, 76], "DoorOfLuck", "kinds", "(IIII)I"),
  (5, (18, 127), 4, 218, [(12, 218)], [1411, 1412, 1413, 88], "DoorOfLuckModel", "kinds", "(IIII)I"),
  (5, (18, 128), 4, 105, [(11, 105)], [902, 903, 904, 76], "DoorOfLuck", "states", "(IIII)I"),
  (5, (18, 131), 4, 219, [(12, 219)], [1415, 1416, 1417, 88], "DoorOfLuckModel", "states", "(IIII)I"),
  (5, (18, 132), 4, 106, [(11, 106)], [906, 907, 908, 76], "DoorOfLuck", "lucks", "(IIII)I"),
  (5, (18, 135), 4, 220, [(12, 220)], [1419, 1420, 1421, 88], "DoorOfLuckModel", "lucks", "(IIII)I"),
  (5, (18, 136), 2, 107, [(11, 107)], [910, 911, 912, 76], "DoorOfLuck", "whose", "(II)I"),
  (5, (18, 139), 2, 221, [(12, 221)], [1423, 1424, 1425, 88], "DoorOfLuckModel", "whose", "(II)I"),
  (5, (18, 140), 3, 108, [(11, 108)], [914, 915, 916, 76], "DoorOfLuck", "laws", "(III)I"),
  (5, (18, 143), 3, 222, [(12, 222)], [1427, 1428, 1429, 88], "DoorOfLuckModel", "laws", "(III)I"),
  (5, (18, 144), 3, 109, [(11, 109)], [918, 919, 920, 76], "DoorOfLuck", "film", "(III)I"),
  (5, (18, 147), 3, 223, [(12, 223)], [1431, 1432, 1433, 88], "DoorOfLuckModel", "film", "(III)I"),
  (5, (18, 148), 4, 110, [(11, 110)], [931, 932, 933, 76], "DoorOfLuck", "drawn", "(IIII)I"),
  (5, (18, 151), 4, 225, [(12, 225)], [1435, 1436, 1437, 88], "DoorOfLuckModel", "drawn", "(IIII)I"),
  (5, (18, 152), 5, 111, [(11, 111)], [945, 946, 947, 76], "DoorOfLuck", "odds", "(IIIII)J"),
  (5, (18, 156), 5, 226, [(12, 226)], [1446, 1447, 1448, 88], "DoorOfLuckModel", "odds", "(IIIII)J"),
  (5, (18, 157), 0, 112, [(11, 112)], [949, 950, 951, 76], "DoorOfLuck", "image", "()I"),
  (5, (18, 160), 0, 227, [(12, 227)], [1450, 1451, 1452, 88], "DoorOfLuckModel", "image", "()I"),
  (5, (18, 161), 0, 113, [(11, 113)], [957, 958, 959, 76], "DoorOfLuck", "back", "()I"),
  (5, (18, 164), 0, 228, [(12, 228)], [1454, 1455, 1456, 88], "DoorOfLuckModel", "back", "()I"),
  (5, (18, 165), 3, 114, [(11, 114)], [961, 962, 963, 76], "DoorOfLuck", "sheet", "(III)I"),
  (5, (18, 168), 3, 229, [(12, 229)], [1458, 1459, 1460, 88], "DoorOfLuckModel", "sheet", "(III)I"),
  (5, (18, 169), 3, 115, [(11, 115)], [965, 966, 967, 76], "DoorOfLuck", "cell", "(III)I"),
  (5, (18, 172), 3, 230, [(12, 230)], [1462, 1463, 1464, 88], "DoorOfLuckModel", "cell", "(III)I"),
  (5, (18, 173), 5, 116, [(11, 116)], [969, 970, 971, 76], "DoorOfLuck", "copy", "(IIIII)I"),
  (5, (18, 177), 5, 231, [(12, 231)], [1466, 1467, 1468, 88], "DoorOfLuckModel", "copy", "(IIIII)I"),
  (5, (18, 178), 4, 117, [(11, 117)], [980, 981, 982, 76], "DoorOfLuck", "peopleBy", "(IIII)I"),
  (5, (18, 181), 4, 232, [(12, 232)], [1470, 1471, 1472, 88], "DoorOfLuckModel", "peopleBy", "(IIII)I"),
  (5, (18, 182), 2, 118, [(11, 118)], [985, 986, 987, 76], "DoorOfLuck", "taken", "(II)I"),
  (5, (18, 185), 2, 234, [(12, 234)], [1475, 1476, 1477, 88], "DoorOfLuckModel", "taken", "(II)I")]
def jm_lks : List Int64 := [(-4611686018427387904), 1, 48271, 2147483647, 0]
def jm_sws : List (Int32 × List Nat × Nat) := [((-5), [50, 48, 43, 41, 36], 58), ((-14), [116, 112, 108, 97, 86, 76, 62, 48], 120), (0, [40, 45, 53, 61, 69, 77], 85), (0, [48, 57, 66, 78, 84], 90), (0, [60, 65, 70, 75, 80, 85, 90, 119], 139), (0, [156, 162, 168], 171), (1, [36, 45, 54, 63, 72], 81), (0, [40, 42, 47, 52, 57, 62], 67), (0, [40, 45, 50, 55, 60, 65], 70), (0, [48, 55, 62, 69, 75], 81), (11, [44, 58, 102, 72, 83, 94, 98], 102), (1, [60, 69, 60, 72], 104), (1, [72, 106, 74, 106, 96], 127), (3, [40, 55], 76), (0, [60, 60, 60, 71, 78, 85, 96, 102], 108), (0, [212, 235, 258, 291, 324, 357, 432, 445, 468, 511, 544, 587, 620, 653, 696, 729, 772, 805, 838, 861, 884, 917, 930, 954, 997, 1030, 1073, 1126, 1179, 1232, 1265, 1308, 1351, 1404, 1468, 1481, 1494, 1537, 1580, 1643, 1696], 1729)]
def jm_ist : List (String × List Nat) := [("DoorOfLuck$Footman", [0, 1]), ("DoorOfLuck$Lady", [4, 10]), ("DoorOfLuck$Butler", [0]), ("DoorOfLuck$Widow", [10]), ("DoorOfLuck$Gypsy", [2])]
def jm_sn : Nat := 12
def jm_sow : List (Nat × String) := [(101, "gains"), (107, "dares"), (109, "leaves"), (111, "or"), (113, "and"), (115, "not"), (117, "luck"), (119, "door"), (121, "house"), (123, "day"), (125, "opened"), (127, "more")]
def jm_slen : List Nat := [5, 5, 6, 2, 3, 3, 4, 4, 5, 3, 6, 4]
def jm_sbyt : List (List Int32) := [[103, 97, 105, 110, 115], [100, 97, 114, 101, 115], [108, 101, 97, 118, 101, 115], [111, 114], [97, 110, 100], [110, 111, 116], [108, 117, 99, 107], [100, 111, 111, 114], [104, 111, 117, 115, 101], [100, 97, 121], [111, 112, 101, 110, 101, 100], [109, 111, 114, 101]]
def jm_b : List ByteArray := [prog_2_method_1_code, prog_2_method_2_code, prog_2_method_3_code, prog_3_method_1_code, prog_3_method_2_code, prog_3_method_3_code, prog_4_method_1_code, prog_4_method_2_code, prog_4_method_3_code, prog_5_method_1_code, prog_5_method_2_code, prog_6_method_1_code, prog_6_method_2_code, prog_6_method_3_code, prog_7_method_1_code, prog_7_method_2_code, prog_7_method_3_code, prog_7_method_4_code, prog_7_method_5_code, prog_8_method_1_code, prog_8_method_2_code, prog_8_method_3_code, prog_8_method_4_code, prog_8_method_5_code, prog_9_method_1_code, prog_9_method_2_code, prog_9_method_3_code, prog_9_method_4_code, prog_9_method_5_code, prog_9_method_6_code, prog_9_method_7_code, prog_9_method_8_code, prog_9_method_9_code, prog_9_method_10_code, prog_9_method_11_code, prog_9_method_12_code, prog_9_method_13_code, prog_9_method_14_code, prog_9_method_15_code, prog_9_method_16_code, prog_9_method_17_code, prog_9_method_18_code, prog_9_method_19_code, prog_9_method_20_code, prog_9_method_21_code, prog_10_method_1_code, prog_10_method_2_code, prog_10_method_3_code, prog_10_method_4_code, prog_10_method_5_code, prog_10_method_6_code, prog_10_method_7_code, prog_10_method_8_code, prog_10_method_9_code, prog_11_method_1_code, prog_11_method_2_code, prog_11_method_3_code, prog_11_method_4_code, prog_11_method_5_code, prog_11_method_6_code, prog_11_method_7_code, prog_11_method_8_code, prog_11_method_9_code, prog_11_method_10_code, prog_11_method_11_code, prog_11_method_12_code, prog_11_method_13_code, prog_11_method_14_code, prog_11_method_15_code, prog_11_method_16_code, prog_11_method_17_code, prog_11_method_18_code, prog_11_method_19_code, prog_11_method_20_code, prog_12_method_1_code, prog_12_method_2_code, prog_12_method_3_code, prog_1_method_1_code, prog_1_method_2_code, prog_1_method_3_code, prog_1_method_4_code, prog_1_method_5_code, prog_1_method_6_code, prog_1_method_7_code, prog_1_method_8_code, prog_1_method_9_code, prog_1_method_10_code, prog_1_method_11_code, prog_1_method_12_code, prog_1_method_13_code, prog_1_method_14_code, prog_1_method_15_code, prog_1_method_16_code, prog_1_method_17_code, prog_1_method_18_code, prog_1_method_19_code, prog_1_method_20_code, prog_1_method_21_code, prog_1_method_22_code, prog_1_method_23_code, prog_1_method_24_code, prog_1_method_25_code, prog_1_method_26_code, prog_1_method_27_code, prog_1_method_28_code, prog_1_method_29_code, prog_1_method_30_code, prog_1_method_31_code, prog_1_method_32_code, prog_1_method_33_code, prog_1_method_34_code, prog_1_method_35_code, prog_1_method_36_code, prog_1_method_37_code, prog_1_method_38_code, prog_1_method_39_code, prog_1_method_40_code, prog_1_method_41_code, prog_1_method_42_code, prog_1_method_43_code, prog_1_method_44_code, prog_1_method_45_code, prog_1_method_46_code, prog_1_method_47_code, prog_1_method_48_code, prog_1_method_49_code, prog_1_method_50_code, prog_1_method_51_code, prog_1_method_52_code, prog_1_method_53_code, prog_1_method_54_code, prog_1_method_55_code, prog_1_method_56_code, prog_1_method_57_code, prog_1_method_58_code, prog_1_method_59_code, prog_1_method_60_code, prog_1_method_61_code, prog_1_method_62_code, prog_1_method_63_code, prog_1_method_64_code, prog_1_method_65_code, prog_14_method_1_code, prog_14_method_3_code, prog_14_method_4_code, prog_14_method_5_code, prog_14_method_6_code, prog_14_method_7_code, prog_14_method_8_code, prog_14_method_9_code, prog_14_method_10_code, prog_14_method_11_code, prog_14_method_12_code, prog_14_method_13_code, prog_14_method_14_code, prog_14_method_15_code, prog_14_method_16_code, prog_14_method_17_code, prog_14_method_18_code, prog_14_method_19_code, prog_14_method_20_code, prog_14_method_21_code, prog_14_method_22_code, prog_14_method_23_code, prog_14_method_24_code, prog_14_method_25_code, prog_14_method_26_code, prog_14_method_27_code, prog_14_method_28_code, prog_14_method_29_code, prog_14_method_30_code, prog_14_method_31_code, prog_14_method_32_code, prog_14_method_33_code, prog_14_method_34_code, prog_14_method_35_code, prog_14_method_36_code, prog_14_method_37_code, prog_14_method_38_code, prog_14_method_39_code, prog_14_method_40_code, prog_14_method_41_code, prog_14_method_42_code, prog_14_method_43_code, prog_14_method_44_code, prog_14_method_45_code, prog_14_method_46_code, prog_14_method_47_code, prog_14_method_48_code, prog_14_method_49_code, prog_14_method_50_code, prog_14_method_51_code, prog_14_method_52_code, prog_14_method_53_code, prog_14_method_54_code, prog_14_method_55_code, prog_14_method_56_code, prog_14_method_57_code, prog_14_method_58_code, prog_14_method_59_code, prog_14_method_60_code, prog_14_method_61_code, prog_14_method_62_code, prog_14_method_63_code, prog_14_method_64_code, prog_14_method_65_code, prog_14_method_66_code, prog_14_method_67_code, prog_14_method_68_code, prog_14_method_69_code, prog_14_method_70_code, prog_14_method_71_code, prog_14_method_72_code, prog_14_method_73_code, prog_14_method_74_code, prog_14_method_75_code, prog_14_method_76_code, prog_14_method_77_code, prog_14_method_78_code, prog_14_method_79_code, prog_14_method_80_code, prog_14_method_81_code, prog_14_method_82_code, prog_14_method_83_code, prog_14_method_84_code, prog_14_method_85_code, prog_14_method_86_code, prog_14_method_87_code, prog_14_method_88_code, prog_14_method_89_code, prog_14_method_90_code, prog_14_method_91_code, prog_14_method_92_code, prog_14_method_93_code, prog_14_method_94_code, prog_15_method_49_code, prog_16_method_65_code, prog_16_method_69_code, prog_17_method_54_code, prog_17_method_56_code, prog_17_method_152_code, prog_17_method_154_code, prog_17_method_155_code, prog_18_method_2_code, prog_21_method_11_code, code]
/-- methods: class, name, descriptor, slots, what it returns, its code's word in lw_tbl -/
def jm_ms : List ((Nat × String × String) × Nat × Option FieldType × Nat) := [
  ((0, "<init>", "(I)V"), 2, none, 84),
  ((0, "leaveBy", "(I)I"), 2, some .int, 84),
  ((0, "daresBy", "(ZII)Z"), 4, some .boolean, 84),
  ((1, "<init>", "(I)V"), 2, none, 82),
  ((1, "daresBy", "(ZII)Z"), 4, some .boolean, 82),
  ((1, "gainBy", "(I)I"), 2, some .int, 82),
  ((2, "<init>", "(I)V"), 2, none, 86),
  ((2, "daresBy", "(ZII)Z"), 4, some .boolean, 86),
  ((2, "gainBy", "(I)I"), 2, some .int, 86),
  ((3, "<init>", "()V"), 2, none, 80),
  ((3, "personAt", "(I)LDoorOfLuck$Soul;"), 2, some (.object "DoorOfLuck$Soul"), 80),
  ((4, "<init>", "(I)V"), 2, none, 83),
  ((4, "daresBy", "(ZII)Z"), 4, some .boolean, 83),
  ((4, "gainBy", "(I)I"), 2, some .int, 83),
  ((5, "<init>", "()V"), 1, none, 87),
  ((5, "become", "(II)V"), 4, none, 87),
  ((5, "at", "(I)I"), 2, some .int, 87),
  ((5, "write", "(II)Z"), 3, some .boolean, 87),
  ((5, "holds", "(II)Z"), 3, some .boolean, 87),
  ((6, "<init>", "(I)V"), 2, none, 81),
  ((6, "become", "(LDoorOfLuck$Soul;)V"), 2, none, 81),
  ((6, "gainBy", "(I)I"), 2, some .int, 81),
  ((6, "daresBy", "(ZII)Z"), 4, some .boolean, 81),
  ((6, "leaveBy", "(I)I"), 2, some .int, 81),
  ((7, "<init>", "()V"), 1, none, 79),
  ((7, "add", "(I)V"), 2, none, 79),
  ((7, "byteAt", "(I)I"), 2, some .int, 79),
  ((7, "readInto", "(LDoorOfLuck$Text;)I"), 3, some .int, 79),
  ((7, "readOr", "(LDoorOfLuck$Text;I)V"), 4, none, 79),
  ((7, "readAnd", "(LDoorOfLuck$Text;I)V"), 4, none, 79),
  ((7, "readNot", "(LDoorOfLuck$Text;I)V"), 4, none, 79),
  ((7, "readSum", "(LDoorOfLuck$Text;I)V"), 5, none, 79),
  ((7, "readTerm", "(LDoorOfLuck$Text;I)V"), 4, none, 79),
  ((7, "readOne", "(LDoorOfLuck$Text;I)V"), 3, none, 79),
  ((7, "mayOpen", "(I)Z"), 2, some .boolean, 79),
  ((7, "take", "(I)V"), 2, none, 79),
  ((7, "fail", "()V"), 1, none, 79),
  ((7, "next", "()V"), 1, none, 79),
  ((7, "readNumber", "()I"), 1, some .int, 79),
  ((7, "readWord", "()I"), 1, some .int, 79),
  ((7, "spells", "(Ljava/lang/String;)Z"), 3, some .boolean, 79),
  ((7, "isBlank", "(I)Z"), 1, some .boolean, 79),
  ((7, "isLetter", "(I)Z"), 1, some .boolean, 79),
  ((7, "isDigit", "(I)Z"), 1, some .boolean, 79),
  ((7, "isSign", "(I)Z"), 1, some .boolean, 79),
  ((8, "<init>", "()V"), 1, none, 78),
  ((8, "clear", "()V"), 1, none, 78),
  ((8, "add", "(I)V"), 2, none, 78),
  ((8, "endPart", "(I)V"), 2, none, 78),
  ((8, "endOfPart", "(I)I"), 2, some .int, 78),
  ((8, "value", "(ILDoorOfLuck$Soul;II)I"), 10, some .int, 78),
  ((8, "operands", "(I)I"), 1, some .int, 78),
  ((8, "named", "(ILDoorOfLuck$Soul;II)I"), 4, some .int, 78),
  ((8, "reckoned", "(III)I"), 3, some .int, 78),
  ((9, "<init>", "()V"), 2, none, 77),
  ((9, "isDoor", "(I)Z"), 2, some .boolean, 77),
  ((9, "hang", "(II)Z"), 3, some .boolean, 77),
  ((9, "firstHouse", "(I)I"), 2, some .int, 77),
  ((9, "otherHouse", "(I)I"), 2, some .int, 77),
  ((9, "allDoors", "()I"), 1, some .int, 77),
  ((9, "sides", "(I)I"), 2, some .int, 77),
  ((9, "through", "(II)I"), 3, some .int, 77),
  ((9, "nextText", "()LDoorOfLuck$Text;"), 1, some (.object "DoorOfLuck$Text"), 77),
  ((9, "said", "(ILDoorOfLuck$Soul;I)I"), 6, some .int, 77),
  ((9, "dares", "(LDoorOfLuck$Soul;I)Z"), 3, some .boolean, 77),
  ((9, "tries", "(LDoorOfLuck$Soul;I)Z"), 4, some .boolean, 77),
  ((9, "daredDoors", "(LDoorOfLuck$Soul;)I"), 4, some .int, 77),
  ((9, "safeDoors", "(LDoorOfLuck$Soul;)I"), 4, some .int, 77),
  ((9, "inDanger", "(LDoorOfLuck$Soul;I)Z"), 3, some .boolean, 77),
  ((9, "oneDoorFurther", "(II)I"), 5, some .int, 77),
  ((9, "reached", "(II)I"), 5, some .int, 77),
  ((9, "away", "(III)I"), 6, some .int, 77),
  ((9, "wayNumber", "(III)I"), 10, some .int, 77),
  ((9, "lastDoor", "(III)I"), 6, some .int, 77),
  ((10, "<init>", "(I)V"), 2, none, 85),
  ((10, "gainBy", "(I)I"), 3, some .int, 85),
  ((10, "leaveBy", "(I)I"), 2, some .int, 85),
  ((11, "<init>", "()V"), 2, none, 76),
  ((11, "count", "(I)I"), 2, some .int, 76),
  ((11, "dawn", "(I)I"), 3, some .int, 76),
  ((11, "door", "(II)I"), 3, some .int, 76),
  ((11, "brick", "(II)I"), 4, some .int, 76),
  ((11, "hung", "(II)I"), 3, some .int, 76),
  ((11, "feed", "(IIIIII)I"), 7, some .int, 76),
  ((11, "text", "()I"), 3, some .int, 76),
  ((11, "force", "(I)I"), 3, some .int, 76),
  ((11, "asks", "(III)I"), 5, some .int, 76),
  ((11, "person", "(II)I"), 4, some .int, 76),
  ((11, "put", "(III)I"), 6, some .int, 76),
  ((11, "told", "(II)I"), 4, some .int, 76),
  ((11, "open", "(II)I"), 4, some .int, 76),
  ((11, "after", "(III)I"), 6, some .int, 76),
  ((11, "safe", "(II)I"), 4, some .int, 76),
  ((11, "way", "(III)I"), 6, some .int, 76),
  ((11, "together", "(II)I"), 7, some .int, 76),
  ((11, "friend", "(II)I"), 10, some .int, 76),
  ((11, "worst", "(I)I"), 6, some .int, 76),
  ((11, "mason", "(I)I"), 7, some .int, 76),
  ((11, "watch", "(II)I"), 5, some .int, 76),
  ((11, "doomed", "()I"), 4, some .int, 76),
  ((11, "share", "(I)J"), 5, some .long, 76),
  ((11, "walk", "(III)I"), 11, some .int, 76),
  ((11, "goes", "(II)I"), 6, some .int, 76),
  ((11, "judge", "(III)I"), 6, some .int, 76),
  ((11, "kinds", "(IIII)I"), 10, some .int, 76),
  ((11, "states", "(IIII)I"), 10, some .int, 76),
  ((11, "lucks", "(IIII)I"), 11, some .int, 76),
  ((11, "whose", "(II)I"), 7, some .int, 76),
  ((11, "laws", "(III)I"), 9, some .int, 76),
  ((11, "film", "(III)I"), 10, some .int, 76),
  ((11, "drawn", "(IIII)I"), 7, some .int, 76),
  ((11, "odds", "(IIIII)J"), 10, some .long, 76),
  ((11, "image", "()I"), 4, some .int, 76),
  ((11, "back", "()I"), 4, some .int, 76),
  ((11, "sheet", "(III)I"), 5, some .int, 76),
  ((11, "cell", "(III)I"), 5, some .int, 76),
  ((11, "copy", "(IIIII)I"), 8, some .int, 76),
  ((11, "peopleBy", "(IIII)I"), 8, some .int, 76),
  ((11, "taken", "(II)I"), 4, some .int, 76),
  ((11, "isHouse", "(I)Z"), 1, some .boolean, 76),
  ((11, "isLuck", "(I)Z"), 1, some .boolean, 76),
  ((11, "isByte", "(I)Z"), 1, some .boolean, 76),
  ((11, "isSeed", "(I)Z"), 1, some .boolean, 76),
  ((11, "bit", "(II)I"), 2, some .int, 76),
  ((11, "bounded", "(III)I"), 3, some .int, 76),
  ((11, "inLowestTerms", "(III)J"), 7, some .long, 76),
  ((11, "soulOf", "(I)LDoorOfLuck$Soul;"), 1, some (.object "DoorOfLuck$Soul"), 76),
  ((11, "isOfKind", "(LDoorOfLuck$Soul;I)Z"), 2, some .boolean, 76),
  ((11, "personAt", "(I)LDoorOfLuck$Soul;"), 2, some (.object "DoorOfLuck$Soul"), 76),
  ((11, "thoughtOf", "(LDoorOfLuck$Soul;I)LDoorOfLuck$Soul;"), 4, some (.object "DoorOfLuck$Soul"), 76),
  ((11, "endOf", "(I)I"), 5, some .int, 76),
  ((11, "openersOf", "(I)I"), 5, some .int, 76),
  ((11, "houseOfAll", "(I)I"), 5, some .int, 76),
  ((11, "housesOfEach", "()I"), 4, some .int, 76),
  ((11, "fewestToWatch", "(LDoorOfLuck$Soul;)I"), 4, some .int, 76),
  ((11, "stroll", "(LDoorOfLuck$Soul;II)V"), 8, none, 76),
  ((11, "sheetAt", "(I)LDoorOfLuck$Sheet;"), 2, some (.object "DoorOfLuck$Sheet"), 76),
  ((11, "sizeOf", "(I)I"), 3, some .int, 76),
  ((11, "cellOf", "(II)I"), 4, some .int, 76),
  ((11, "refusedDoors", "(I)I"), 4, some .int, 76),
  ((11, "refusedTold", "(II)I"), 5, some .int, 76),
  ((11, "firstOtherwise", "(IILDoorOfLuck$Soul;)I"), 5, some .int, 76),
  ((12, "<init>", "()V"), 2, none, 88),
  ((12, "in", "(III)Z"), 3, some .boolean, 88),
  ((12, "within", "(III)I"), 3, some .int, 88),
  ((12, "bitsOf", "(I)I"), 3, some .int, 88),
  ((12, "isOne", "(I)Z"), 2, some .boolean, 88),
  ((12, "isDoor", "(I)Z"), 2, some .boolean, 88),
  ((12, "isHouse", "(I)Z"), 1, some .boolean, 88),
  ((12, "count", "(I)I"), 2, some .int, 88),
  ((12, "dawn", "(I)I"), 3, some .int, 88),
  ((12, "door", "(II)I"), 3, some .int, 88),
  ((12, "brick", "(II)I"), 4, some .int, 88),
  ((12, "endOf", "(I)I"), 4, some .int, 88),
  ((12, "openedBy", "(I)I"), 4, some .int, 88),
  ((12, "hung", "(II)I"), 3, some .int, 88),
  ((12, "isByte", "(I)Z"), 1, some .boolean, 88),
  ((12, "feed", "(IIIIII)I"), 8, some .int, 88),
  ((12, "wordFrom", "(II)I"), 6, some .int, 88),
  ((12, "next", "()V"), 3, none, 88),
  ((12, "rank", "(I)I"), 1, some .int, 88),
  ((12, "puts", "(I)V"), 2, none, 88),
  ((12, "unwinds", "(I)V"), 3, none, 88),
  ((12, "holds", "(I)V"), 2, none, 88),
  ((12, "opensOne", "(I)Z"), 2, some .boolean, 88),
  ((12, "between", "(I)Z"), 2, some .boolean, 88),
  ((12, "signOf", "()I"), 1, some .int, 88),
  ((12, "eRead", "()Z"), 4, some .boolean, 88),
  ((12, "text", "()I"), 3, some .int, 88),
  ((12, "two", "(III)I"), 3, some .int, 88),
  ((12, "says", "(I)I"), 5, some .int, 88),
  ((12, "force", "(I)I"), 3, some .int, 88),
  ((12, "asksOf", "(III)I"), 5, some .int, 88),
  ((12, "asks", "(III)I"), 4, some .int, 88),
  ((12, "person", "(II)I"), 3, some .int, 88),
  ((12, "put", "(III)I"), 6, some .int, 88),
  ((12, "gainsOf", "(II)I"), 5, some .int, 88),
  ((12, "doesDare", "(II)Z"), 4, some .boolean, 88),
  ((12, "leavesOf", "(II)I"), 4, some .int, 88),
  ((12, "isSafe", "(II)Z"), 3, some .boolean, 88),
  ((12, "safeFor", "(I)I"), 4, some .int, 88),
  ((12, "daredBy", "(I)I"), 4, some .int, 88),
  ((12, "goesOut", "(II)V"), 6, none, 88),
  ((12, "reached", "()I"), 3, some .int, 88),
  ((12, "reachedBy", "(I)I"), 2, some .int, 88),
  ((12, "mayBeEnd", "(I)I"), 4, some .int, 88),
  ((12, "told", "(II)I"), 3, some .int, 88),
  ((12, "isOf", "(II)Z"), 3, some .boolean, 88),
  ((12, "mayOpen", "(II)Z"), 3, some .boolean, 88),
  ((12, "opens0", "(II)V"), 4, none, 88),
  ((12, "open", "(II)I"), 3, some .int, 88),
  ((12, "after", "(III)I"), 4, some .int, 88),
  ((12, "safe", "(II)I"), 3, some .int, 88),
  ((12, "lastDoor", "(II)I"), 5, some .int, 88),
  ((12, "wayNumber", "(II)I"), 7, some .int, 88),
  ((12, "way", "(III)I"), 5, some .int, 88),
  ((12, "together", "(II)I"), 7, some .int, 88),
  ((12, "friend", "(II)I"), 8, some .int, 88),
  ((12, "worst", "(I)I"), 6, some .int, 88),
  ((12, "reachedAll", "()I"), 3, some .int, 88),
  ((12, "mason", "(I)I"), 6, some .int, 88),
  ((12, "isInDanger", "(II)Z"), 4, some .boolean, 88),
  ((12, "watch", "(II)I"), 8, some .int, 88),
  ((12, "doomed", "()I"), 3, some .int, 88),
  ((12, "lowest", "(JJI)J"), 11, some .long, 88),
  ((12, "share", "(I)J"), 4, some .long, 88),
  ((12, "walkWrong", "(I)I"), 3, some .int, 88),
  ((12, "oneWrong", "(II)I"), 4, some .int, 88),
  ((12, "keeps", "(I)V"), 3, none, 88),
  ((12, "lays", "(I)V"), 3, none, 88),
  ((12, "tries", "(II)V"), 3, none, 88),
  ((12, "triesAll", "(II)V"), 4, none, 88),
  ((12, "walk", "(III)I"), 6, some .int, 88),
  ((12, "goes", "(II)I"), 4, some .int, 88),
  ((12, "twoWrong", "(II)I"), 4, some .int, 88),
  ((12, "toldWrong", "(III)I"), 5, some .int, 88),
  ((12, "unlike", "(III)I"), 6, some .int, 88),
  ((12, "judge", "(III)I"), 5, some .int, 88),
  ((12, "kinds", "(IIII)I"), 10, some .int, 88),
  ((12, "states", "(IIII)I"), 9, some .int, 88),
  ((12, "lucks", "(IIII)I"), 11, some .int, 88),
  ((12, "whose", "(II)I"), 6, some .int, 88),
  ((12, "laws", "(III)I"), 8, some .int, 88),
  ((12, "film", "(III)I"), 6, some .int, 88),
  ((12, "strolls", "(III)I"), 7, some .int, 88),
  ((12, "drawn", "(IIII)I"), 6, some .int, 88),
  ((12, "odds", "(IIIII)J"), 10, some .long, 88),
  ((12, "image", "()I"), 2, some .int, 88),
  ((12, "back", "()I"), 2, some .int, 88),
  ((12, "sheet", "(III)I"), 5, some .int, 88),
  ((12, "cell", "(III)I"), 4, some .int, 88),
  ((12, "copy", "(IIIII)I"), 10, some .int, 88),
  ((12, "peopleBy", "(IIII)I"), 9, some .int, 88),
  ((12, "isUnder", "(II)Z"), 2, some .boolean, 88),
  ((12, "taken", "(II)I"), 4, some .int, 88),
  ((13, "bitCount", "(I)I"), 1, some .int, 94),
  ((14, "max", "(II)I"), 2, some .int, 93),
  ((14, "min", "(II)I"), 2, some .int, 93),
  ((15, "length", "()I"), 1, some .int, 89),
  ((15, "charAt", "(I)C"), 2, some .char, 89),
  ((15, "coder", "()B"), 1, some .byte, 89),
  ((15, "isLatin1", "()Z"), 1, some .boolean, 89),
  ((15, "checkIndex", "(II)V"), 2, none, 89),
  ((16, "charAt", "([BI)C"), 2, some .char, 90),
  ((17, "checkIndex", "(IILjava/util/function/BiFunction;)I"), 3, some .int, 91),
  ((18, "law", "([I)Z"), 4, some .boolean, 75)]
