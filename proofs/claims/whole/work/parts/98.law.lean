/-! THE LAW, out of its run on the small machine -/
theorem whole_start {p : Program} {e : Env} {s : State} {m : MethodId} {below : List Frame} {meth : Method} {c : Code} (l : Launch) (hflags : l.flags = flags0) {b L : Nat} {xs : Nat → Int32} (hL : L ≤ 3584) (C0 : lw_At p s m meth c b L xs) : W p l e room_1 s m #[Value.ref b] below meth c s.heap [] 0 0 (lw_Z below #[Value.ref b] s) (entryFrame m ([Value.ref b] : List Value).toArray 4) := by
  obtain ⟨hx, hb, hr, hml, hown, hts, hX, hbl, hlocks, hgv⟩ := id C0
  obtain ⟨G, hGB, hGb, hK, hH⟩ := jm_start hL C0
  obtain ⟨h2, hgo, hc1, hc2⟩ := jm_law (xs := xs) hL
  obtain ⟨n, hn⟩ := jm_go_iff.mp hgo
  have hF : (jm_gF G).category = 1 := hK.2.2.2.2.2.2.2.2.2.2.2.2.2.1
  have hbc : jm_bc 245 = code := rfl
  have hret : jm_ret 245 = ret := rfl
  have hA : jm_At p s m #[Value.ref b] meth c 245 G := ⟨hx, by rw [hbc]; exact hb, hml, hown, fun w hw => hts w (List.mem_filter.mp hw).1, hK, Nat.le_of_eq hGB, fun h => absurd h (by decide +kernel)⟩
  have hW := jm_run_sound (l := l) (e := e) (R := room_1) (below := below) (Q := lw_Z below #[Value.ref b] s) (n0 := 0) (w0 := 0) (jm_sound 1000) hA ⟨by decide, by decide⟩ ⟨hc1, hc2, by omega⟩ (fun C hs hh => ?_) n _ hn (Nat.zero_le _) (Nat.zero_le _)
  · have hls : jm_hasL G (jm_max 245) [some (.ref jm_SCR), none, none, none] ((lg_sl ([.ref b]) ++ List.replicate (4 - (lg_sl ([.ref b])).length) Slot.unset).toArray) := by
      have := jm_entry_has (G := G) (y := 245) hF [.ref jm_SCR] (by decide)
      have e1 : ([Value.ref jm_SCR] : List Value).map (jm_cv G) = [.ref b] := by
        show [Value.ref (jm_cr G jm_SCR)] = _
        rw [jm_cr_scr, hGb]
      rw [e1] at this
      exact this
    rw [lg_entry_eq]
    exact hW s.heap [] _ hH hls va_S.rf
  · obtain ⟨pc, ls, st, h⟩ := C
    dsimp only at hh
    subst hh
    obtain ⟨o, -, hs2, hc⟩ := jm_step_op hs
    dsimp only at hs2 hc
    intro H locs arr hH2 hl2 hS
    obtain ⟨i, w⟩ := o
    have hi : i = .ireturn ∧ st = [.int 1] := by
      by_cases i1 : i = .ireturn
      · subst i1
        refine ⟨rfl, ?_⟩
        have hs3 : jm_ire (jm_ret 245) st = some (.inr (.inr (some (.int 1)))) := hs2
        unfold jm_ire at hs3
        split at hs3
        next _ vv => repeat' split at hs3
                     all_goals first | (cases hs3; done) | (cases hs3; rfl)
        next => cases hs3
      · exfalso
        by_cases i2 : i = .lreturn
        · subst i2
          have hs3 : (match (generalizing := false) st with | [.long v] => if jm_ret 245 = some .long then some (.inr (.inr (some (.long v)))) else none | _ => none) = some (Sum.inr (.inr (some (.int 1))) : jm_R) := hs2
          split at hs3
          · split at hs3 <;> cases hs3
          · cases hs3
        · by_cases i3 : i = .areturn
          · subst i3
            have hs3 : jm_are (jm_ret 245) st = some (.inr (.inr (some (.int 1)))) := hs2
            unfold jm_are at hs3
            repeat' split at hs3
            all_goals cases hs3
          · by_cases i4 : i = .return_
            · subst i4
              have hs3 : (match (generalizing := false) st with | [] => if jm_ret 245 = none then some (.inr (.inr none)) else none | _ => none) = some (Sum.inr (.inr (some (.int 1))) : jm_R) := hs2
              split at hs3
              · split at hs3 <;> cases hs3
              · cases hs3
            · exact absurd hs2 (jm_ret_no i1 i2 i3 i4)
    obtain ⟨rfl, rfl⟩ := hi
    have hd := jm_chk_op hc rfl
    rw [hbc] at hd
    refine va_forget (fun q hq => by rw [← hGB]; exact hS.2.2 q hq) ?_
    refine W.widen (k := 600000) (n := 7302250) (by show h.2.2.length - 0 ≤ 600000; omega) (by show jm_wt h - 0 ≤ 7302250; omega) ?_
    exact lw_ret hx hb hr hlocks hd
