/-! CALLS: what is known of a method that is called, and the step over a call -/
def jm_rm (d mc ms : Nat) : Room := { frames := d, cells := mc, slots := ms, locals := 42 * d }
/-- a method's start, its end -/
def jm_Pc (G : jm_G) (a : List Value) (h : jm_H) : Array Value → State → Prop := va_Pc (a.map (jm_cv G)) (fun U => jm_HP G h U.heap ∧ jm_KX G U)
def jm_Qc (G : jm_G) (v : Option Value) (h : jm_H) : Array Value → State → Outcome → State → Prop := fun _ st oc t => (oc = .returned (v.map (jm_cv G)) ∧ jm_HP G h t.heap) ∧ va_F (jm_A G) st t
abbrev jm_Met (l : Launch) (G : jm_G) (d y : Nat) (a : List Value) (h : jm_H) (v : Option Value) (h2 : jm_H) : Prop :=
  Met l (jm_name y) (jm_code y :: jm_Ts) (jm_rm d (h2.2.2.length - h.2.2.length) (jm_wt h2 - jm_wt h)) (jm_Pc G a h) (jm_Qc G v h2) (h2.2.2.length - h.2.2.length) (jm_wt h2 - jm_wt h) (jm_A G)
/-- what the small machine says of calls d deep holds of the real one -/
def jm_Sound (d : Nat) : Prop := ∀ (y : Nat) (a : List Value) (h : jm_H) (v : Option Value) (h2 : jm_H), jm_ev d y a h = some (v, h2) → h.2.2.length ≤ h2.2.2.length ∧ jm_wt h ≤ jm_wt h2 ∧ (plainName (jm_name y).cls = true → h2.2.2.length < 900000 → ∀ (l : Launch) (G : jm_G), jm_Met l G d y a h v h2)
theorem jm_blind (G : jm_G) (a : List Value) (h : jm_H) : FrameBlind (jm_Pc G a h) := by
  intro a' U g mk q
  obtain ⟨q1, q2, q3⟩ := q
  exact ⟨q1, q2, q3.same rfl rfl⟩
theorem jm_cids_in {y : Nat} (h : jm_cids.contains y = true) : jm_code y ∈ jm_Ts := by
  have h1 : jm_code y ∈ jm_cids.map jm_code := List.mem_map.mpr ⟨y, by simpa using h, rfl⟩
  rw [← jm_kcode] at h1
  exact List.mem_filter.mpr ⟨(List.mem_filter.mp h1).1, rfl⟩
/-- what is checked of a method that is called -/
theorem jm_mok_use {y n : Nat} {d : String} (h : jm_mok y n d = true) : jm_code y ∈ jm_Ts ∧ (jm_name y).cls ≠ "java/lang/invoke/MethodHandle" ∧ (jm_name y).cls ≠ "java/lang/invoke/VarHandle" ∧ (∀ sig, parseMethodDescriptor d = some sig → n = sig.parameters.length) ∧ jm_max y ≤ 22 ∧ plainName (jm_name y).cls = true ∧ Cond.initialized (jm_name y).cls ∈ jm_Ts := by
  simp only [jm_mok, Bool.and_eq_true, decide_eq_true_eq] at h
  obtain ⟨⟨⟨⟨⟨⟨h1, h2⟩, h3⟩, h4⟩, h5⟩, h6⟩, h7⟩ := h
  refine ⟨jm_cids_in h1, h2, h3, fun sig hs => ?_, h5, h6, jm_hasAt_in h7⟩
  rw [hs] at h4
  exact (Option.some.inj h4).symm
theorem jm_good {y : Nat} (h : jm_code y ∈ jm_Ts) : GoodIn jm_Ts (jm_code y :: jm_Ts) := by
  intro w hw
  rcases List.mem_cons.mp hw with rfl | hw
  · exact ⟨h, good_of_word rfl⟩
  · exact ⟨hw, good_of_word (List.mem_filter.mp hw).2⟩
section JM5
variable {p : Program} {l : Launch} {e : Env} {R : Room} {s : State} {m : MethodId} {args : Array Value} {below : List Frame} {meth : Method} {c : Code} {y : Nat} {G : jm_G} {Q : State → Prop} {n0 w0 : Nat} {pc : Nat} {ls : jm_L} {st : List Value} {h : jm_H}
/-- behind a call -/
theorem jm_run_on {H : Heap} {locs : List Loc} {cells slots mc ms : Nat} {arr : Array Slot} {st0 rest : List Value} {a : Array Value} {v : Option Value} {h2 : jm_H} (hr : va_Run p l e R s m args below meth c H locs cells slots mc ms (F0 m pc arr st0) rest (jm_Qc G v h2 a) (jm_A G)) (hS : va_S (jm_A G) s.heap H locs)
    (kk : ∀ (H1 : Heap) (locs1 : List Loc), jm_HP G h2 H1 → va_S (jm_A G) s.heap H1 locs1 → W p l e R s m args below meth c H1 locs1 (cells + mc) (slots + ms) Q (F0 m (pc + 3) arr ((v.map (jm_cv G)).toList ++ rest))) : W p l e R s m args below meth c H locs cells slots Q (F0 m pc arr st0) := by
  intro T hT X
  obtain ⟨v', st₀, t, T', L, h0, X', hL, e1, e2, ⟨⟨hv, hb⟩, hz, hk⟩, st⟩ := hr T hT X
  cases hv
  rw [h0] at hz hk
  rw [← e1] at hb
  obtain ⟨t2, a1, b1⟩ := kk T'.heap (locs ++ L) hb
    ⟨Nat.le_trans hS.1 (by rw [e1]; exact hz), fun q h1 h2 => by rw [e1, hk q (Nat.lt_of_lt_of_le h1 hS.1) h2]; exact hS.2.1 q h1 h2, fun q hq => by
      rcases List.mem_append.mp hq with h | h
      · exact hS.2.2 q h
      · exact hL q h⟩ T' rfl X'
  exact ⟨t2, st t2 a1, b1⟩
/-- the callee's start holds -/
theorem jm_pre {H : Heap} {locs : List Loc} {a : List Value} (hK : jm_KX G s) (hB : jm_gB G ≤ s.heap.size) (hS : va_S (jm_A G) s.heap H locs) (hH : jm_HP G h H) : ∀ U : State, U.heap = H → s.WarmedH U.vm → jm_Pc G a h (a.map (jm_cv G)).toArray U := by
  intro U hU hW
  refine ⟨rfl, by rw [hU]; exact hH, hK.warm hW hB fun q h1 h2 => ?_⟩
  rw [hU]
  exact hS.2.1 q h1 h2
theorem jm_cat_map (hF : (jm_gF G).category = 1) (st : List Value) : ((st.map (jm_cv G)).map fun v => v.category).sum = jm_cat st := by
  rw [List.map_map, jm_cat]
  congr 1
  apply List.map_congr_left
  intro v _
  exact jm_cv_cat hF v
theorem jm_args_eq (n : Nat) (st : List Value) : ((jm_arg n st).map (jm_cv G)).reverse ++ (st.drop n).map (jm_cv G) = st.map (jm_cv G) := by
  rw [jm_arg, ← List.map_reverse, List.reverse_reverse, ← List.map_append, List.take_append_drop]
/-- what a caller's checks, and the callee's contract give -/
theorem jm_callB {d n index : Nat} {t : Nat} {h2 : jm_H} {ret : Option FieldType} (hts : ∀ w ∈ jm_Ts, w.before args s = true) (hm : jm_mok t n (jm_name t).desc = true) (hret : ret = jm_ret t) (hl : Cond.methodLink (jm_own y) index (jm_name t) ∈ jm_Ts) (hR : d + 1 ≤ R.frames ∧ 42 * d + 41 ≤ R.locals) :
    CallB R s args (jm_own y) index (jm_name t) (jm_bc t) (jm_max t) ret (jm_code t :: jm_Ts) (jm_rm d (h2.2.2.length - h.2.2.length) (jm_wt h2 - jm_wt h)) (h2.2.2.length - h.2.2.length) (jm_wt h2 - jm_wt h) n := by
  obtain ⟨m1, m2, m3, m4, m5, m6, m7⟩ := jm_mok_use hm
  subst hret
  exact ⟨rfl, rfl, hR.1, by show 8 + (jm_max t + 11) + 42 * d ≤ _; omega, pay_in hts (jm_good m1), List.mem_cons_self, hts _ m1, hts _ m7, ⟨m2, m3⟩, m4, hts _ hl⟩
theorem jm_callN {d n index : Nat} {t : Nat} {h2 : jm_H} {ret : Option FieldType} (hts : ∀ w ∈ jm_Ts, w.before args s = true) (hm : jm_mok t n (jm_name t).desc = true) (hret : ret = jm_ret t) (hl : va_Nw (.methodLinkNest (jm_own y) index (jm_name t) "DoorOfLuck") s) (hR : d + 1 ≤ R.frames ∧ 42 * d + 41 ≤ R.locals) :
    va_CN R s args (jm_own y) index (jm_name t) "DoorOfLuck" (jm_bc t) (jm_max t) ret (jm_code t :: jm_Ts) (jm_rm d (h2.2.2.length - h.2.2.length) (jm_wt h2 - jm_wt h)) (h2.2.2.length - h.2.2.length) (jm_wt h2 - jm_wt h) n := by
  obtain ⟨m1, m2, m3, m4, m5, m6, m7⟩ := jm_mok_use hm
  subst hret
  exact ⟨⟨rfl, rfl, hR.1, by show 8 + (jm_max t + 11) + 42 * d ≤ _; omega, pay_in hts (jm_good m1), List.mem_cons_self⟩, hts _ m1, hts _ m7, ⟨m2, m3⟩, m4, va_Nw.use rfl hl⟩
/-- an object of a kind receives -/
theorem jm_recv {H : Heap} {a : Nat} {q : Nat × Nat} (hK : jm_KX G s) (hH : jm_HP G h H) (hq : h.2.2[a]? = some q) (h13 : q.1 < 13) : ∃ cell : Cell, H[jm_cr G a]? = some cell ∧ cell.vm.isStatics = false ∧ s.vm.findClass (jm_cn.getD q.1 "") = some cell.cls := by
  have hal : a < h.2.2.length := (List.getElem?_eq_some_iff.mp hq).1
  have hlt : h.2.2.length < 900000 := hH.2.1
  have hg := jm_ws_get (G := G) hq
  have e1 : jm_en G h a q = .inr (q.1, jm_fs G h a q.1) := by simp only [jm_en, if_pos h13]
  rw [e1] at hg
  obtain ⟨rr, hr⟩ : ∃ rr, jm_cl[q.1]? = some rr := ⟨_, List.getElem?_eq_getElem (by have : jm_cl.length = 13 := rfl; omega)⟩
  obtain ⟨u1, u2, u3, -⟩ := jm_cl_use hr
  rw [jm_cr_lt (a := a) (Nat.lt_trans hal hlt), u3]
  exact va_recv hK.1 hH.2.2.1 hr hg
theorem jm_classAt {ci : Nat} (hK : jm_KX G s) (h13 : ci < 13) : ∃ cC, ClassAt s (jm_cn.getD ci "") cC := by
  obtain ⟨rr, hr⟩ : ∃ rr, jm_cl[ci]? = some rr := ⟨_, List.getElem?_eq_getElem (by have : jm_cl.length = 13 := rfl; omega)⟩
  obtain ⟨u1, u2, u3, -⟩ := jm_cl_use hr
  rw [u3]
  exact ⟨_, (hK.1.1 ci rr hr).2⟩
/-- super.m of a method that the superclass inherits -/
theorem jm_runSI {H : Heap} {locs : List Loc} {cells slots mc ms n index : Nat} {x yy : MethodName} {bytes cc : ByteArray} {maxL nL : Nat} {ret : Option FieldType} {ws : List Cond} {rm : Room} {Pc : Array Value → State → Prop} {Qc : Array Value → State → Outcome → State → Prop} {free : Addr → Prop} {Ts : List Cond} {own C : String} {cC : ClassId} {b : Addr} {As rest : List Value} {g : JFrame}
    (hat : ClassAt s C cC) (S : CallFix p m c cc nL s args Ts own) (hM : Met l yy ws rm Pc Qc mc ms free)
    (hbase : rm.cells = mc ∧ rm.slots = ms ∧ rm.frames + 1 ≤ R.frames ∧ 8 + (maxL + 11) + rm.locals ≤ R.locals ∧ (∀ w ∈ ws, ∀ (a' : Array Value) (U : State), s.WarmedH U.vm → w.before a' U = true) ∧ Cond.code yy bytes maxL ret ∈ ws)
    (hl1 : (Cond.methodLink own index x).before args s = true) (hl2 : (Cond.sameMethod x.cls yy.cls x.name x.desc).before args s = true) (hyx : yy = ⟨yy.cls, x.name, x.desc⟩) (hl3 : (Cond.superclass own x.cls).before args s = true) (hl3b : (Cond.superclass x.cls yy.cls).before args s = true) (hl4 : (Cond.instanceMethod yy).before args s = true) (hini : (Cond.initialized yy.cls).before args s = true) (hcode : (Cond.code yy bytes maxL ret).before args s = true) (hno : x.name ≠ "<init>") (hlen : ∀ sig, parseMethodDescriptor x.desc = some sig → n = sig.parameters.length)
    (hp : PreV s H C b Pc As) (hg : g.method = m) (hn : As.length = n) (hsize : g.locals.size = nL) (hstack : g.stack = As.reverse ++ .ref b :: rest) (hW : 2 * g.monitorRoom + (rest.map fun v => v.category).sum ≤ 8) (hdg : decode cc g.pc = .ok (.invokespecial index, 3)) (hf : cells + mc ≤ R.cells ∧ slots + ms ≤ R.slots) :
    va_Run p l e R s m args below meth c H locs cells slots mc ms g rest (Qc (Value.ref b :: As).toArray) (free) := by
  obtain ⟨hrc, hrs, hfr, hlo, hws, hcw⟩ := hbase
  have hK : Back l R p e below s args yy 3 8 (PreOf R mc ms Pc) (PostOf Qc mc ms free) := back_of (bytes := bytes) (maxL := maxL) (ret := ret) hM hp.1 hrc hrs hfr hlo hws hcw (fun a' U hW => word_at hW (Or.inl (by first | rfl | simp [Cond.onTables, Cond.keeps, Cond.steady])) hini)
  obtain ⟨hx, hb, hml, ho, -⟩ := S
  obtain ⟨-, ⟨cellB, hcB, hoB, hclB⟩, hPc⟩ := hp
  obtain ⟨hfc, kB, hkB, -⟩ := hat
  cases hfc.symm.trans hclB
  intro T hT X
  obtain ⟨mk, methM, hnamed, hmethM, hstM, habM⟩ := Cond.instanceMethod_spec hl4
  obtain ⟨methM', cM, hmethM', -, -, -, -, -, -, hsigM⟩ := Cond.code_spec hnamed hcode
  cases hmethM.symm.trans hmethM'
  obtain ⟨ps, dk, kp, hps, hdk, hkp, hsuper, -, -, hnid⟩ := Cond.superclass_spec ho hl3
  obtain ⟨qs, dk2, kq, hqs, hdk2, hkq, hsuper2, -, -, hnid2⟩ := Cond.superclass_spec hps hl3b
  have hn2 : s.methodNamed? ⟨yy.cls, x.name, x.desc⟩ = some mk := by rw [← hyx]; exact hnamed
  have hpm : qs = mk.cls := Option.some.inj (hqs.symm.trans (findClass_of_methodNamed hnamed))
  have hsub : s.vm.isSubclass ps mk.cls = true := by
    rw [← hpm]
    have hz : ps < s.vm.classes.size := (Array.getElem?_eq_some_iff.mp hdk2).1
    simp [Vm.isSubclass, Vm.isSubclassAux, hdk2, hsuper2]
    refine Or.inr ?_
    cases hs : s.vm.classes.size with
    | zero => exact absurd hz (by rw [hs]; exact Nat.not_lt_zero _)
    | succ n => simp [Vm.isSubclassAux]
  have hdx : x.desc = yy.desc := by rw [hyx]
  obtain ⟨vm₁, X₁, hstep₁⟩ := X.invokespecialUp hx (owner := yy.cls) ho hl1 hl2 hn2 hmethM hstM habM hno hdk hnid hps hsuper hsub (a := b) (cell := cellB) (by rw [hT]; exact hcB)
    (fun z h => by rw [h] at hoB; cases hoB) hkB (g := g) hg (argsL := As) (rest := rest) (hn.trans (hlen _ (by rw [hdx]; exact hsigM))) hstack (by rw [hb]; exact hdg)
  obtain ⟨v, ⟨U', l2, c2, s2⟩, X', ⟨g', mk', t, L, e1, e2, hq, h1, hL, h2, h3⟩, hsteps⟩ := hK m meth c ⟨T.setVm vm₁, locs, cells, slots⟩ { g with stack := rest } (.invokespecial index) mk (Value.ref b :: As).toArray X₁ hg (hsize.trans hml.symm) (by rw [hb]; exact hdg) hW (X₁.named hnamed) ⟨hf.1, hf.2, hPc (T.setVm vm₁) hT X₁.warmed⟩
  dsimp only [Pt.U, Pt.locs, Pt.cells, Pt.slots] at X' e1 e2 h1 h2 h3 hsteps
  subst h1; subst h2; subst h3
  exact ⟨v, (T.setVm vm₁).calling g' mk' (Value.ref b :: As).toArray, t, U', L, hT, X', hL, e1, e2, hq, fun target h => hstep₁ _ (by rw [doInvoke_state]; exact hsteps.trans h)⟩
end JM5
