/-! THE CHECKS, by computation -/
set_option maxRecDepth 100000 in
theorem jm_kf : jm_ft.all jm_fok = true := by decide +kernel
set_option maxRecDepth 100000 in
theorem jm_kcode : lw_tbl.filter jm_isC = jm_cids.map jm_code := rfl
set_option maxRecDepth 100000 in
theorem jm_kk : jm_cl.zipIdx.all (fun q => jm_kok q.2 q.1) = true := by decide +kernel
theorem jm_chkL_app {y : Nat} : ∀ (a b : List (Option jm_op)) (pc : Nat), jm_chkL y pc a = true → jm_chkL y (pc + a.length) b = true → jm_chkL y pc (a ++ b) = true := by
  intro a
  induction a with
  | nil => intro b pc _ h; exact h
  | cons x a ih =>
    intro b pc h1 h2
    have h3 : jm_chkL y (pc + 1 + a.length) b = true := by rw [show pc + 1 + a.length = pc + (a.length + 1) by omega]; exact h2
    cases x with
    | none => exact ih b (pc + 1) h1 h3
    | some o =>
      simp only [jm_chkL, Bool.and_eq_true] at h1
      simp only [List.cons_append, jm_chkL, Bool.and_eq_true]
      exact ⟨h1.1, ih b (pc + 1) h1.2 h3⟩
theorem jm_chkL_cut {y pc : Nat} (n : Nat) {l : List (Option jm_op)} (hn : n ≤ l.length) (h1 : jm_chkL y pc (l.take n) = true) (h2 : jm_chkL y (pc + n) (l.drop n) = true) : jm_chkL y pc l = true := by
  rw [← List.take_append_drop n l]
  refine jm_chkL_app _ _ _ h1 ?_
  rw [List.length_take, Nat.min_eq_left hn]
  exact h2
theorem jm_tab_out {y : Nat} (hy : 256 ≤ y) : jm_tab y = [] := by
  have h : jm_tgs.getD (y / 16) [] = [] := by
    rw [List.getD_eq_getElem?_getD, List.getElem?_eq_none]
    · rfl
    · have : jm_tgs.length = 16 := rfl
      omega
  simp only [jm_tab, h]
  rfl
set_option maxRecDepth 100000 in
theorem jm_kc0 : ((jm_cs.drop 0).take 16).all jm_cok = true := by decide +kernel
set_option maxRecDepth 100000 in
theorem jm_kc1 : ((jm_cs.drop 16).take 16).all jm_cok = true := by decide +kernel
set_option maxRecDepth 100000 in
theorem jm_kc2 : ((jm_cs.drop 32).take 16).all jm_cok = true := by decide +kernel
set_option maxRecDepth 100000 in
theorem jm_kc3 : ((jm_cs.drop 48).take 16).all jm_cok = true := by decide +kernel
set_option maxRecDepth 100000 in
theorem jm_kc4 : ((jm_cs.drop 64).take 16).all jm_cok = true := by decide +kernel
set_option maxRecDepth 100000 in
theorem jm_kc5 : ((jm_cs.drop 80).take 16).all jm_cok = true := by decide +kernel
set_option maxRecDepth 100000 in
theorem jm_kc6 : ((jm_cs.drop 96).take 16).all jm_cok = true := by decide +kernel
set_option maxRecDepth 100000 in
theorem jm_kc7 : ((jm_cs.drop 112).take 16).all jm_cok = true := by decide +kernel
set_option maxRecDepth 100000 in
theorem jm_kc8 : ((jm_cs.drop 128).take 16).all jm_cok = true := by decide +kernel
set_option maxRecDepth 100000 in
theorem jm_kc9 : ((jm_cs.drop 144).take 16).all jm_cok = true := by decide +kernel
set_option maxRecDepth 100000 in
theorem jm_kc10 : ((jm_cs.drop 160).take 16).all jm_cok = true := by decide +kernel
set_option maxRecDepth 100000 in
theorem jm_kc11 : ((jm_cs.drop 176).take 16).all jm_cok = true := by decide +kernel
set_option maxRecDepth 100000 in
theorem jm_kc12 : ((jm_cs.drop 192).take 16).all jm_cok = true := by decide +kernel
set_option maxRecDepth 100000 in
theorem jm_kc13 : ((jm_cs.drop 208).take 16).all jm_cok = true := by decide +kernel
set_option maxRecDepth 100000 in
theorem jm_kc14 : ((jm_cs.drop 224).take 16).all jm_cok = true := by decide +kernel
set_option maxRecDepth 100000 in
theorem jm_kc15 : ((jm_cs.drop 240).take 16).all jm_cok = true := by decide +kernel
set_option maxRecDepth 100000 in
theorem jm_kc16 : ((jm_cs.drop 256).take 16).all jm_cok = true := by decide +kernel
theorem jm_kcall {i : Nat} {e : jm_ce} (h : jm_cs[i]? = some e) : jm_cok e = true := by
  have key : ∀ g j : Nat, j < 16 → i = 16 * g + j → ((jm_cs.drop (16 * g)).take 16).all jm_cok = true → jm_cok e = true := by
    intro g j hj hi ha
    refine List.all_eq_true.mp ha e (List.mem_of_getElem? (i := j) ?_)
    rw [List.getElem?_take, if_pos hj, List.getElem?_drop, ← hi, h]
  have hl : i < 269 := by
    have := (List.getElem?_eq_some_iff.mp h).1
    have e2 : jm_cs.length = 269 := by decide +kernel
    omega
  have e3 : i = 16 * (i / 16) + i % 16 := (Nat.div_add_mod i 16).symm
  have hm : i % 16 < 16 := Nat.mod_lt _ (by decide)
  have hd : i / 16 < 17 := by omega
  generalize i / 16 = g at e3 hd
  generalize i % 16 = j at e3 hm
  match g, hd with
  | 0, _ => exact key 0 j hm e3 jm_kc0
  | 1, _ => exact key 1 j hm e3 jm_kc1
  | 2, _ => exact key 2 j hm e3 jm_kc2
  | 3, _ => exact key 3 j hm e3 jm_kc3
  | 4, _ => exact key 4 j hm e3 jm_kc4
  | 5, _ => exact key 5 j hm e3 jm_kc5
  | 6, _ => exact key 6 j hm e3 jm_kc6
  | 7, _ => exact key 7 j hm e3 jm_kc7
  | 8, _ => exact key 8 j hm e3 jm_kc8
  | 9, _ => exact key 9 j hm e3 jm_kc9
  | 10, _ => exact key 10 j hm e3 jm_kc10
  | 11, _ => exact key 11 j hm e3 jm_kc11
  | 12, _ => exact key 12 j hm e3 jm_kc12
  | 13, _ => exact key 13 j hm e3 jm_kc13
  | 14, _ => exact key 14 j hm e3 jm_kc14
  | 15, _ => exact key 15 j hm e3 jm_kc15
  | 16, _ => exact key 16 j hm e3 jm_kc16
  | n + 17, h => exact absurd h (by omega)
set_option maxRecDepth 100000 in
theorem jm_kb142_0 : jm_chkL 142 0 (((jm_tab 142).drop 0).take 150) = true := by decide +kernel
set_option maxRecDepth 100000 in
theorem jm_kb142_150 : jm_chkL 142 150 (((jm_tab 142).drop 150).take 150) = true := by decide +kernel
set_option maxRecDepth 100000 in
theorem jm_kb142_300 : jm_chkL 142 300 (((jm_tab 142).drop 300).take 150) = true := by decide +kernel
set_option maxRecDepth 100000 in
theorem jm_kb142_450 : jm_chkL 142 450 (((jm_tab 142).drop 450).take 150) = true := by decide +kernel
set_option maxRecDepth 100000 in
theorem jm_kb142_600 : jm_chkL 142 600 (((jm_tab 142).drop 600).take 150) = true := by decide +kernel
set_option maxRecDepth 100000 in
theorem jm_kb142_750 : jm_chkL 142 750 (((jm_tab 142).drop 750).take 150) = true := by decide +kernel
set_option maxRecDepth 100000 in
theorem jm_kb142_900 : jm_chkL 142 900 (((jm_tab 142).drop 900).take 150) = true := by decide +kernel
theorem jm_kb142 : jm_chkL 142 0 (jm_tab 142) = true := by
  have z : jm_chkL 142 1050 ((jm_tab 142).drop 1050) = true := by rw [show (jm_tab 142).drop 1050 = [] from List.drop_eq_nil_iff.mpr (by decide +kernel)]; rfl
  have z : jm_chkL 142 900 ((jm_tab 142).drop 900) = true := by rw [← List.take_of_length_le (i := 150) (l := (jm_tab 142).drop 900) (by decide +kernel)]; exact jm_kb142_900
  have z : jm_chkL 142 750 ((jm_tab 142).drop 750) = true := jm_chkL_cut 150 (by decide +kernel) jm_kb142_750 (by rw [List.drop_drop]; exact z)
  have z : jm_chkL 142 600 ((jm_tab 142).drop 600) = true := jm_chkL_cut 150 (by decide +kernel) jm_kb142_600 (by rw [List.drop_drop]; exact z)
  have z : jm_chkL 142 450 ((jm_tab 142).drop 450) = true := jm_chkL_cut 150 (by decide +kernel) jm_kb142_450 (by rw [List.drop_drop]; exact z)
  have z : jm_chkL 142 300 ((jm_tab 142).drop 300) = true := jm_chkL_cut 150 (by decide +kernel) jm_kb142_300 (by rw [List.drop_drop]; exact z)
  have z : jm_chkL 142 150 ((jm_tab 142).drop 150) = true := jm_chkL_cut 150 (by decide +kernel) jm_kb142_150 (by rw [List.drop_drop]; exact z)
  have z : jm_chkL 142 0 ((jm_tab 142).drop 0) = true := jm_chkL_cut 150 (by decide +kernel) jm_kb142_0 (by rw [List.drop_drop]; exact z)
  exact z
set_option maxRecDepth 100000 in
theorem jm_kb159_0 : jm_chkL 159 0 (((jm_tab 159).drop 0).take 150) = true := by decide +kernel
set_option maxRecDepth 100000 in
theorem jm_kb159_150 : jm_chkL 159 150 (((jm_tab 159).drop 150).take 150) = true := by decide +kernel
set_option maxRecDepth 100000 in
theorem jm_kb159_300 : jm_chkL 159 300 (((jm_tab 159).drop 300).take 150) = true := by decide +kernel
theorem jm_kb159 : jm_chkL 159 0 (jm_tab 159) = true := by
  have z : jm_chkL 159 450 ((jm_tab 159).drop 450) = true := by rw [show (jm_tab 159).drop 450 = [] from List.drop_eq_nil_iff.mpr (by decide +kernel)]; rfl
  have z : jm_chkL 159 300 ((jm_tab 159).drop 300) = true := by rw [← List.take_of_length_le (i := 150) (l := (jm_tab 159).drop 300) (by decide +kernel)]; exact jm_kb159_300
  have z : jm_chkL 159 150 ((jm_tab 159).drop 150) = true := jm_chkL_cut 150 (by decide +kernel) jm_kb159_150 (by rw [List.drop_drop]; exact z)
  have z : jm_chkL 159 0 ((jm_tab 159).drop 0) = true := jm_chkL_cut 150 (by decide +kernel) jm_kb159_0 (by rw [List.drop_drop]; exact z)
  exact z
set_option maxRecDepth 100000 in
theorem jm_kb245_0 : jm_chkL 245 0 (((jm_tab 245).drop 0).take 150) = true := by decide +kernel
set_option maxRecDepth 100000 in
theorem jm_kb245_150 : jm_chkL 245 150 (((jm_tab 245).drop 150).take 150) = true := by decide +kernel
set_option maxRecDepth 100000 in
theorem jm_kb245_300 : jm_chkL 245 300 (((jm_tab 245).drop 300).take 150) = true := by decide +kernel
set_option maxRecDepth 100000 in
theorem jm_kb245_450 : jm_chkL 245 450 (((jm_tab 245).drop 450).take 150) = true := by decide +kernel
set_option maxRecDepth 100000 in
theorem jm_kb245_600 : jm_chkL 245 600 (((jm_tab 245).drop 600).take 150) = true := by decide +kernel
set_option maxRecDepth 100000 in
theorem jm_kb245_750 : jm_chkL 245 750 (((jm_tab 245).drop 750).take 150) = true := by decide +kernel
set_option maxRecDepth 100000 in
theorem jm_kb245_900 : jm_chkL 245 900 (((jm_tab 245).drop 900).take 150) = true := by decide +kernel
set_option maxRecDepth 100000 in
theorem jm_kb245_1050 : jm_chkL 245 1050 (((jm_tab 245).drop 1050).take 150) = true := by decide +kernel
set_option maxRecDepth 100000 in
theorem jm_kb245_1200 : jm_chkL 245 1200 (((jm_tab 245).drop 1200).take 150) = true := by decide +kernel
set_option maxRecDepth 100000 in
theorem jm_kb245_1350 : jm_chkL 245 1350 (((jm_tab 245).drop 1350).take 150) = true := by decide +kernel
set_option maxRecDepth 100000 in
theorem jm_kb245_1500 : jm_chkL 245 1500 (((jm_tab 245).drop 1500).take 150) = true := by decide +kernel
set_option maxRecDepth 100000 in
theorem jm_kb245_1650 : jm_chkL 245 1650 (((jm_tab 245).drop 1650).take 150) = true := by decide +kernel
theorem jm_kb245 : jm_chkL 245 0 (jm_tab 245) = true := by
  have z : jm_chkL 245 1800 ((jm_tab 245).drop 1800) = true := by rw [show (jm_tab 245).drop 1800 = [] from List.drop_eq_nil_iff.mpr (by decide +kernel)]; rfl
  have z : jm_chkL 245 1650 ((jm_tab 245).drop 1650) = true := by rw [← List.take_of_length_le (i := 150) (l := (jm_tab 245).drop 1650) (by decide +kernel)]; exact jm_kb245_1650
  have z : jm_chkL 245 1500 ((jm_tab 245).drop 1500) = true := jm_chkL_cut 150 (by decide +kernel) jm_kb245_1500 (by rw [List.drop_drop]; exact z)
  have z : jm_chkL 245 1350 ((jm_tab 245).drop 1350) = true := jm_chkL_cut 150 (by decide +kernel) jm_kb245_1350 (by rw [List.drop_drop]; exact z)
  have z : jm_chkL 245 1200 ((jm_tab 245).drop 1200) = true := jm_chkL_cut 150 (by decide +kernel) jm_kb245_1200 (by rw [List.drop_drop]; exact z)
  have z : jm_chkL 245 1050 ((jm_tab 245).drop 1050) = true := jm_chkL_cut 150 (by decide +kernel) jm_kb245_1050 (by rw [List.drop_drop]; exact z)
  have z : jm_chkL 245 900 ((jm_tab 245).drop 900) = true := jm_chkL_cut 150 (by decide +kernel) jm_kb245_900 (by rw [List.drop_drop]; exact z)
  have z : jm_chkL 245 750 ((jm_tab 245).drop 750) = true := jm_chkL_cut 150 (by decide +kernel) jm_kb245_750 (by rw [List.drop_drop]; exact z)
  have z : jm_chkL 245 600 ((jm_tab 245).drop 600) = true := jm_chkL_cut 150 (by decide +kernel) jm_kb245_600 (by rw [List.drop_drop]; exact z)
  have z : jm_chkL 245 450 ((jm_tab 245).drop 450) = true := jm_chkL_cut 150 (by decide +kernel) jm_kb245_450 (by rw [List.drop_drop]; exact z)
  have z : jm_chkL 245 300 ((jm_tab 245).drop 300) = true := jm_chkL_cut 150 (by decide +kernel) jm_kb245_300 (by rw [List.drop_drop]; exact z)
  have z : jm_chkL 245 150 ((jm_tab 245).drop 150) = true := jm_chkL_cut 150 (by decide +kernel) jm_kb245_150 (by rw [List.drop_drop]; exact z)
  have z : jm_chkL 245 0 ((jm_tab 245).drop 0) = true := jm_chkL_cut 150 (by decide +kernel) jm_kb245_0 (by rw [List.drop_drop]; exact z)
  exact z
set_option maxRecDepth 100000 in
theorem jm_kg0 : [0, 1, 2, 3, 4, 5, 6, 7].all (fun j => jm_chkL j 0 (jm_tab j)) = true := by decide +kernel
set_option maxRecDepth 100000 in
theorem jm_kg1 : [8, 9, 10, 11, 12, 13, 14, 15].all (fun j => jm_chkL j 0 (jm_tab j)) = true := by decide +kernel
set_option maxRecDepth 100000 in
theorem jm_kg2 : [16, 17, 18, 19, 20, 21, 22, 23].all (fun j => jm_chkL j 0 (jm_tab j)) = true := by decide +kernel
set_option maxRecDepth 100000 in
theorem jm_kg3 : [24, 25, 26, 27, 28, 29, 30, 31].all (fun j => jm_chkL j 0 (jm_tab j)) = true := by decide +kernel
set_option maxRecDepth 100000 in
theorem jm_kg4 : [32, 33, 34, 35, 36, 37, 38, 39].all (fun j => jm_chkL j 0 (jm_tab j)) = true := by decide +kernel
set_option maxRecDepth 100000 in
theorem jm_kg5 : [40, 41, 42, 43, 44, 45, 46, 47].all (fun j => jm_chkL j 0 (jm_tab j)) = true := by decide +kernel
set_option maxRecDepth 100000 in
theorem jm_kg6 : [48, 49, 50, 51, 52, 53, 54, 55].all (fun j => jm_chkL j 0 (jm_tab j)) = true := by decide +kernel
set_option maxRecDepth 100000 in
theorem jm_kg7 : [56, 57, 58, 59, 60, 61, 62, 63].all (fun j => jm_chkL j 0 (jm_tab j)) = true := by decide +kernel
set_option maxRecDepth 100000 in
theorem jm_kg8 : [64, 65, 66, 67, 68, 69, 70, 71].all (fun j => jm_chkL j 0 (jm_tab j)) = true := by decide +kernel
set_option maxRecDepth 100000 in
theorem jm_kg9 : [72, 73, 74, 75, 76, 77, 78, 79].all (fun j => jm_chkL j 0 (jm_tab j)) = true := by decide +kernel
set_option maxRecDepth 100000 in
theorem jm_kg10 : [80, 81, 82, 83, 84, 85, 86, 87].all (fun j => jm_chkL j 0 (jm_tab j)) = true := by decide +kernel
set_option maxRecDepth 100000 in
theorem jm_kg11 : [88, 89, 90, 91, 92, 93, 94, 95].all (fun j => jm_chkL j 0 (jm_tab j)) = true := by decide +kernel
set_option maxRecDepth 100000 in
theorem jm_kg12 : [96, 97, 98, 99, 100, 101, 102, 103].all (fun j => jm_chkL j 0 (jm_tab j)) = true := by decide +kernel
set_option maxRecDepth 100000 in
theorem jm_kg13 : [104, 105, 106, 107, 108, 109, 110, 111].all (fun j => jm_chkL j 0 (jm_tab j)) = true := by decide +kernel
set_option maxRecDepth 100000 in
theorem jm_kg14 : [112, 113, 114, 115, 116, 117, 118, 119].all (fun j => jm_chkL j 0 (jm_tab j)) = true := by decide +kernel
set_option maxRecDepth 100000 in
theorem jm_kg15 : [120, 121, 122, 123, 124, 125, 126, 127].all (fun j => jm_chkL j 0 (jm_tab j)) = true := by decide +kernel
set_option maxRecDepth 100000 in
theorem jm_kg16 : [128, 129, 130, 131, 132, 133, 134, 135].all (fun j => jm_chkL j 0 (jm_tab j)) = true := by decide +kernel
set_option maxRecDepth 100000 in
theorem jm_kg17 : [136, 137, 138, 139, 140, 141, 143].all (fun j => jm_chkL j 0 (jm_tab j)) = true := by decide +kernel
set_option maxRecDepth 100000 in
theorem jm_kg18 : [144, 145, 146, 147, 148, 149, 150, 151].all (fun j => jm_chkL j 0 (jm_tab j)) = true := by decide +kernel
set_option maxRecDepth 100000 in
theorem jm_kg19 : [152, 153, 154, 155, 156, 157, 158].all (fun j => jm_chkL j 0 (jm_tab j)) = true := by decide +kernel
set_option maxRecDepth 100000 in
theorem jm_kg20 : [160, 161, 162, 163, 164, 165, 166, 167].all (fun j => jm_chkL j 0 (jm_tab j)) = true := by decide +kernel
set_option maxRecDepth 100000 in
theorem jm_kg21 : [168, 169, 170, 171, 172, 173, 174, 175].all (fun j => jm_chkL j 0 (jm_tab j)) = true := by decide +kernel
set_option maxRecDepth 100000 in
theorem jm_kg22 : [176, 177, 178, 179, 180, 181, 182, 183].all (fun j => jm_chkL j 0 (jm_tab j)) = true := by decide +kernel
set_option maxRecDepth 100000 in
theorem jm_kg23 : [184, 185, 186, 187, 188, 189, 190, 191].all (fun j => jm_chkL j 0 (jm_tab j)) = true := by decide +kernel
set_option maxRecDepth 100000 in
theorem jm_kg24 : [192, 193, 194, 195, 196, 197, 198, 199].all (fun j => jm_chkL j 0 (jm_tab j)) = true := by decide +kernel
set_option maxRecDepth 100000 in
theorem jm_kg25 : [200, 201, 202, 203, 204, 205, 206, 207].all (fun j => jm_chkL j 0 (jm_tab j)) = true := by decide +kernel
set_option maxRecDepth 100000 in
theorem jm_kg26 : [208, 209, 210, 211, 212, 213, 214, 215].all (fun j => jm_chkL j 0 (jm_tab j)) = true := by decide +kernel
set_option maxRecDepth 100000 in
theorem jm_kg27 : [216, 217, 218, 219, 220, 221, 222, 223].all (fun j => jm_chkL j 0 (jm_tab j)) = true := by decide +kernel
set_option maxRecDepth 100000 in
theorem jm_kg28 : [224, 225, 226, 227, 228, 229, 230, 231].all (fun j => jm_chkL j 0 (jm_tab j)) = true := by decide +kernel
set_option maxRecDepth 100000 in
theorem jm_kg29 : [232, 233, 234, 235, 236, 237, 238, 239].all (fun j => jm_chkL j 0 (jm_tab j)) = true := by decide +kernel
set_option maxRecDepth 100000 in
theorem jm_kg30 : [240, 241, 242, 243, 244].all (fun j => jm_chkL j 0 (jm_tab j)) = true := by decide +kernel
theorem jm_kall (y : Nat) : jm_chkL y 0 (jm_tab y) = true := by
  have key : ∀ l : List Nat, l.all (fun j => jm_chkL j 0 (jm_tab j)) = true → ∀ j, j ∈ l → jm_chkL j 0 (jm_tab j) = true := fun l h j hj => List.all_eq_true.mp h j hj
  by_cases hy : y < 256
  · match y, hy with
    | 0, _ => exact key _ jm_kg0 0 (by decide)
    | 1, _ => exact key _ jm_kg0 1 (by decide)
    | 2, _ => exact key _ jm_kg0 2 (by decide)
    | 3, _ => exact key _ jm_kg0 3 (by decide)
    | 4, _ => exact key _ jm_kg0 4 (by decide)
    | 5, _ => exact key _ jm_kg0 5 (by decide)
    | 6, _ => exact key _ jm_kg0 6 (by decide)
    | 7, _ => exact key _ jm_kg0 7 (by decide)
    | 8, _ => exact key _ jm_kg1 8 (by decide)
    | 9, _ => exact key _ jm_kg1 9 (by decide)
    | 10, _ => exact key _ jm_kg1 10 (by decide)
    | 11, _ => exact key _ jm_kg1 11 (by decide)
    | 12, _ => exact key _ jm_kg1 12 (by decide)
    | 13, _ => exact key _ jm_kg1 13 (by decide)
    | 14, _ => exact key _ jm_kg1 14 (by decide)
    | 15, _ => exact key _ jm_kg1 15 (by decide)
    | 16, _ => exact key _ jm_kg2 16 (by decide)
    | 17, _ => exact key _ jm_kg2 17 (by decide)
    | 18, _ => exact key _ jm_kg2 18 (by decide)
    | 19, _ => exact key _ jm_kg2 19 (by decide)
    | 20, _ => exact key _ jm_kg2 20 (by decide)
    | 21, _ => exact key _ jm_kg2 21 (by decide)
    | 22, _ => exact key _ jm_kg2 22 (by decide)
    | 23, _ => exact key _ jm_kg2 23 (by decide)
    | 24, _ => exact key _ jm_kg3 24 (by decide)
    | 25, _ => exact key _ jm_kg3 25 (by decide)
    | 26, _ => exact key _ jm_kg3 26 (by decide)
    | 27, _ => exact key _ jm_kg3 27 (by decide)
    | 28, _ => exact key _ jm_kg3 28 (by decide)
    | 29, _ => exact key _ jm_kg3 29 (by decide)
    | 30, _ => exact key _ jm_kg3 30 (by decide)
    | 31, _ => exact key _ jm_kg3 31 (by decide)
    | 32, _ => exact key _ jm_kg4 32 (by decide)
    | 33, _ => exact key _ jm_kg4 33 (by decide)
    | 34, _ => exact key _ jm_kg4 34 (by decide)
    | 35, _ => exact key _ jm_kg4 35 (by decide)
    | 36, _ => exact key _ jm_kg4 36 (by decide)
    | 37, _ => exact key _ jm_kg4 37 (by decide)
    | 38, _ => exact key _ jm_kg4 38 (by decide)
    | 39, _ => exact key _ jm_kg4 39 (by decide)
    | 40, _ => exact key _ jm_kg5 40 (by decide)
    | 41, _ => exact key _ jm_kg5 41 (by decide)
    | 42, _ => exact key _ jm_kg5 42 (by decide)
    | 43, _ => exact key _ jm_kg5 43 (by decide)
    | 44, _ => exact key _ jm_kg5 44 (by decide)
    | 45, _ => exact key _ jm_kg5 45 (by decide)
    | 46, _ => exact key _ jm_kg5 46 (by decide)
    | 47, _ => exact key _ jm_kg5 47 (by decide)
    | 48, _ => exact key _ jm_kg6 48 (by decide)
    | 49, _ => exact key _ jm_kg6 49 (by decide)
    | 50, _ => exact key _ jm_kg6 50 (by decide)
    | 51, _ => exact key _ jm_kg6 51 (by decide)
    | 52, _ => exact key _ jm_kg6 52 (by decide)
    | 53, _ => exact key _ jm_kg6 53 (by decide)
    | 54, _ => exact key _ jm_kg6 54 (by decide)
    | 55, _ => exact key _ jm_kg6 55 (by decide)
    | 56, _ => exact key _ jm_kg7 56 (by decide)
    | 57, _ => exact key _ jm_kg7 57 (by decide)
    | 58, _ => exact key _ jm_kg7 58 (by decide)
    | 59, _ => exact key _ jm_kg7 59 (by decide)
    | 60, _ => exact key _ jm_kg7 60 (by decide)
    | 61, _ => exact key _ jm_kg7 61 (by decide)
    | 62, _ => exact key _ jm_kg7 62 (by decide)
    | 63, _ => exact key _ jm_kg7 63 (by decide)
    | 64, _ => exact key _ jm_kg8 64 (by decide)
    | 65, _ => exact key _ jm_kg8 65 (by decide)
    | 66, _ => exact key _ jm_kg8 66 (by decide)
    | 67, _ => exact key _ jm_kg8 67 (by decide)
    | 68, _ => exact key _ jm_kg8 68 (by decide)
    | 69, _ => exact key _ jm_kg8 69 (by decide)
    | 70, _ => exact key _ jm_kg8 70 (by decide)
    | 71, _ => exact key _ jm_kg8 71 (by decide)
    | 72, _ => exact key _ jm_kg9 72 (by decide)
    | 73, _ => exact key _ jm_kg9 73 (by decide)
    | 74, _ => exact key _ jm_kg9 74 (by decide)
    | 75, _ => exact key _ jm_kg9 75 (by decide)
    | 76, _ => exact key _ jm_kg9 76 (by decide)
    | 77, _ => exact key _ jm_kg9 77 (by decide)
    | 78, _ => exact key _ jm_kg9 78 (by decide)
    | 79, _ => exact key _ jm_kg9 79 (by decide)
    | 80, _ => exact key _ jm_kg10 80 (by decide)
    | 81, _ => exact key _ jm_kg10 81 (by decide)
    | 82, _ => exact key _ jm_kg10 82 (by decide)
    | 83, _ => exact key _ jm_kg10 83 (by decide)
    | 84, _ => exact key _ jm_kg10 84 (by decide)
    | 85, _ => exact key _ jm_kg10 85 (by decide)
    | 86, _ => exact key _ jm_kg10 86 (by decide)
    | 87, _ => exact key _ jm_kg10 87 (by decide)
    | 88, _ => exact key _ jm_kg11 88 (by decide)
    | 89, _ => exact key _ jm_kg11 89 (by decide)
    | 90, _ => exact key _ jm_kg11 90 (by decide)
    | 91, _ => exact key _ jm_kg11 91 (by decide)
    | 92, _ => exact key _ jm_kg11 92 (by decide)
    | 93, _ => exact key _ jm_kg11 93 (by decide)
    | 94, _ => exact key _ jm_kg11 94 (by decide)
    | 95, _ => exact key _ jm_kg11 95 (by decide)
    | 96, _ => exact key _ jm_kg12 96 (by decide)
    | 97, _ => exact key _ jm_kg12 97 (by decide)
    | 98, _ => exact key _ jm_kg12 98 (by decide)
    | 99, _ => exact key _ jm_kg12 99 (by decide)
    | 100, _ => exact key _ jm_kg12 100 (by decide)
    | 101, _ => exact key _ jm_kg12 101 (by decide)
    | 102, _ => exact key _ jm_kg12 102 (by decide)
    | 103, _ => exact key _ jm_kg12 103 (by decide)
    | 104, _ => exact key _ jm_kg13 104 (by decide)
    | 105, _ => exact key _ jm_kg13 105 (by decide)
    | 106, _ => exact key _ jm_kg13 106 (by decide)
    | 107, _ => exact key _ jm_kg13 107 (by decide)
    | 108, _ => exact key _ jm_kg13 108 (by decide)
    | 109, _ => exact key _ jm_kg13 109 (by decide)
    | 110, _ => exact key _ jm_kg13 110 (by decide)
    | 111, _ => exact key _ jm_kg13 111 (by decide)
    | 112, _ => exact key _ jm_kg14 112 (by decide)
    | 113, _ => exact key _ jm_kg14 113 (by decide)
    | 114, _ => exact key _ jm_kg14 114 (by decide)
    | 115, _ => exact key _ jm_kg14 115 (by decide)
    | 116, _ => exact key _ jm_kg14 116 (by decide)
    | 117, _ => exact key _ jm_kg14 117 (by decide)
    | 118, _ => exact key _ jm_kg14 118 (by decide)
    | 119, _ => exact key _ jm_kg14 119 (by decide)
    | 120, _ => exact key _ jm_kg15 120 (by decide)
    | 121, _ => exact key _ jm_kg15 121 (by decide)
    | 122, _ => exact key _ jm_kg15 122 (by decide)
    | 123, _ => exact key _ jm_kg15 123 (by decide)
    | 124, _ => exact key _ jm_kg15 124 (by decide)
    | 125, _ => exact key _ jm_kg15 125 (by decide)
    | 126, _ => exact key _ jm_kg15 126 (by decide)
    | 127, _ => exact key _ jm_kg15 127 (by decide)
    | 128, _ => exact key _ jm_kg16 128 (by decide)
    | 129, _ => exact key _ jm_kg16 129 (by decide)
    | 130, _ => exact key _ jm_kg16 130 (by decide)
    | 131, _ => exact key _ jm_kg16 131 (by decide)
    | 132, _ => exact key _ jm_kg16 132 (by decide)
    | 133, _ => exact key _ jm_kg16 133 (by decide)
    | 134, _ => exact key _ jm_kg16 134 (by decide)
    | 135, _ => exact key _ jm_kg16 135 (by decide)
    | 136, _ => exact key _ jm_kg17 136 (by decide)
    | 137, _ => exact key _ jm_kg17 137 (by decide)
    | 138, _ => exact key _ jm_kg17 138 (by decide)
    | 139, _ => exact key _ jm_kg17 139 (by decide)
    | 140, _ => exact key _ jm_kg17 140 (by decide)
    | 141, _ => exact key _ jm_kg17 141 (by decide)
    | 142, _ => exact jm_kb142
    | 143, _ => exact key _ jm_kg17 143 (by decide)
    | 144, _ => exact key _ jm_kg18 144 (by decide)
    | 145, _ => exact key _ jm_kg18 145 (by decide)
    | 146, _ => exact key _ jm_kg18 146 (by decide)
    | 147, _ => exact key _ jm_kg18 147 (by decide)
    | 148, _ => exact key _ jm_kg18 148 (by decide)
    | 149, _ => exact key _ jm_kg18 149 (by decide)
    | 150, _ => exact key _ jm_kg18 150 (by decide)
    | 151, _ => exact key _ jm_kg18 151 (by decide)
    | 152, _ => exact key _ jm_kg19 152 (by decide)
    | 153, _ => exact key _ jm_kg19 153 (by decide)
    | 154, _ => exact key _ jm_kg19 154 (by decide)
    | 155, _ => exact key _ jm_kg19 155 (by decide)
    | 156, _ => exact key _ jm_kg19 156 (by decide)
    | 157, _ => exact key _ jm_kg19 157 (by decide)
    | 158, _ => exact key _ jm_kg19 158 (by decide)
    | 159, _ => exact jm_kb159
    | 160, _ => exact key _ jm_kg20 160 (by decide)
    | 161, _ => exact key _ jm_kg20 161 (by decide)
    | 162, _ => exact key _ jm_kg20 162 (by decide)
    | 163, _ => exact key _ jm_kg20 163 (by decide)
    | 164, _ => exact key _ jm_kg20 164 (by decide)
    | 165, _ => exact key _ jm_kg20 165 (by decide)
    | 166, _ => exact key _ jm_kg20 166 (by decide)
    | 167, _ => exact key _ jm_kg20 167 (by decide)
    | 168, _ => exact key _ jm_kg21 168 (by decide)
    | 169, _ => exact key _ jm_kg21 169 (by decide)
    | 170, _ => exact key _ jm_kg21 170 (by decide)
    | 171, _ => exact key _ jm_kg21 171 (by decide)
    | 172, _ => exact key _ jm_kg21 172 (by decide)
    | 173, _ => exact key _ jm_kg21 173 (by decide)
    | 174, _ => exact key _ jm_kg21 174 (by decide)
    | 175, _ => exact key _ jm_kg21 175 (by decide)
    | 176, _ => exact key _ jm_kg22 176 (by decide)
    | 177, _ => exact key _ jm_kg22 177 (by decide)
    | 178, _ => exact key _ jm_kg22 178 (by decide)
    | 179, _ => exact key _ jm_kg22 179 (by decide)
    | 180, _ => exact key _ jm_kg22 180 (by decide)
    | 181, _ => exact key _ jm_kg22 181 (by decide)
    | 182, _ => exact key _ jm_kg22 182 (by decide)
    | 183, _ => exact key _ jm_kg22 183 (by decide)
    | 184, _ => exact key _ jm_kg23 184 (by decide)
    | 185, _ => exact key _ jm_kg23 185 (by decide)
    | 186, _ => exact key _ jm_kg23 186 (by decide)
    | 187, _ => exact key _ jm_kg23 187 (by decide)
    | 188, _ => exact key _ jm_kg23 188 (by decide)
    | 189, _ => exact key _ jm_kg23 189 (by decide)
    | 190, _ => exact key _ jm_kg23 190 (by decide)
    | 191, _ => exact key _ jm_kg23 191 (by decide)
    | 192, _ => exact key _ jm_kg24 192 (by decide)
    | 193, _ => exact key _ jm_kg24 193 (by decide)
    | 194, _ => exact key _ jm_kg24 194 (by decide)
    | 195, _ => exact key _ jm_kg24 195 (by decide)
    | 196, _ => exact key _ jm_kg24 196 (by decide)
    | 197, _ => exact key _ jm_kg24 197 (by decide)
    | 198, _ => exact key _ jm_kg24 198 (by decide)
    | 199, _ => exact key _ jm_kg24 199 (by decide)
    | 200, _ => exact key _ jm_kg25 200 (by decide)
    | 201, _ => exact key _ jm_kg25 201 (by decide)
    | 202, _ => exact key _ jm_kg25 202 (by decide)
    | 203, _ => exact key _ jm_kg25 203 (by decide)
    | 204, _ => exact key _ jm_kg25 204 (by decide)
    | 205, _ => exact key _ jm_kg25 205 (by decide)
    | 206, _ => exact key _ jm_kg25 206 (by decide)
    | 207, _ => exact key _ jm_kg25 207 (by decide)
    | 208, _ => exact key _ jm_kg26 208 (by decide)
    | 209, _ => exact key _ jm_kg26 209 (by decide)
    | 210, _ => exact key _ jm_kg26 210 (by decide)
    | 211, _ => exact key _ jm_kg26 211 (by decide)
    | 212, _ => exact key _ jm_kg26 212 (by decide)
    | 213, _ => exact key _ jm_kg26 213 (by decide)
    | 214, _ => exact key _ jm_kg26 214 (by decide)
    | 215, _ => exact key _ jm_kg26 215 (by decide)
    | 216, _ => exact key _ jm_kg27 216 (by decide)
    | 217, _ => exact key _ jm_kg27 217 (by decide)
    | 218, _ => exact key _ jm_kg27 218 (by decide)
    | 219, _ => exact key _ jm_kg27 219 (by decide)
    | 220, _ => exact key _ jm_kg27 220 (by decide)
    | 221, _ => exact key _ jm_kg27 221 (by decide)
    | 222, _ => exact key _ jm_kg27 222 (by decide)
    | 223, _ => exact key _ jm_kg27 223 (by decide)
    | 224, _ => exact key _ jm_kg28 224 (by decide)
    | 225, _ => exact key _ jm_kg28 225 (by decide)
    | 226, _ => exact key _ jm_kg28 226 (by decide)
    | 227, _ => exact key _ jm_kg28 227 (by decide)
    | 228, _ => exact key _ jm_kg28 228 (by decide)
    | 229, _ => exact key _ jm_kg28 229 (by decide)
    | 230, _ => exact key _ jm_kg28 230 (by decide)
    | 231, _ => exact key _ jm_kg28 231 (by decide)
    | 232, _ => exact key _ jm_kg29 232 (by decide)
    | 233, _ => exact key _ jm_kg29 233 (by decide)
    | 234, _ => exact key _ jm_kg29 234 (by decide)
    | 235, _ => exact key _ jm_kg29 235 (by decide)
    | 236, _ => exact key _ jm_kg29 236 (by decide)
    | 237, _ => exact key _ jm_kg29 237 (by decide)
    | 238, _ => exact key _ jm_kg29 238 (by decide)
    | 239, _ => exact key _ jm_kg29 239 (by decide)
    | 240, _ => exact key _ jm_kg30 240 (by decide)
    | 241, _ => exact key _ jm_kg30 241 (by decide)
    | 242, _ => exact key _ jm_kg30 242 (by decide)
    | 243, _ => exact key _ jm_kg30 243 (by decide)
    | 244, _ => exact key _ jm_kg30 244 (by decide)
    | 245, _ => exact jm_kb245
    | 246, _ => rfl
    | 247, _ => rfl
    | 248, _ => rfl
    | 249, _ => rfl
    | 250, _ => rfl
    | 251, _ => rfl
    | 252, _ => rfl
    | 253, _ => rfl
    | 254, _ => rfl
    | 255, _ => rfl
    | n + 256, h => exact absurd h (by omega)
  · rw [jm_tab_out (by omega)]; rfl
