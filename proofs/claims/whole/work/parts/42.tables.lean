/-! THE CLAIM OUT OF ONE WALK OF THE LAW'S BODY. Your part is whole_start (and what it stands on); all else here is the same for every law, but numbers. -/
def R_law : String := "HalfTablesLaw"
def lw_P (b : Addr) (xs : List Int32) (args : Array Value) (s : State) : Prop := args = #[.ref b] ∧ s.IntsAt b xs ∧ xs.length ≤ 3072 ∧ (Jvm.Cond.and given_1 narrow_1).before args s = true
/-- what a walk over the start with the record d0 says of its end, said of the start itself -/
theorem lw_closed {s t : State} {o : Outcome} {d0 : Drawn} {L : List Loc} {k n : Nat} (hd0 : s.drawn.sameBut d0 lw_cs) (hv : ∃ v, o = .returned v) (hW : (s.setDrawn d0).WarmedH t.vm) (hs : (s.setDrawn d0).sameButNew ({ t with vm := s.vm } : State) L k n) : State.butDraws s t lw_cs (fun t1 => Framed s o t1 L k n) := by
  have h2 : t.drawn = d0 := congrArg State.drawn hs.1
  refine ⟨⟨hv, hW, State.sameButNew.setDrawn hs s.drawn⟩, ?_, by decide⟩
  rw [h2]
  exact hd0
def lw_Q (_ : Array Value) (s : State) (o : Outcome) (t : State) : Prop := o = .returned (some (.int 1)) ∧ State.butDraws s t lw_cs (fun t1 => Framed s o t1 [] 601024 7293034)
def lw_Z (below : List Frame) (a : Array Value) (s : State) : State → Prop := fun t => ∃ o, t.status = .running ∧ Ended t below o ∧ lw_Q a s o t
/-- the law's own end, with 1 on the stack, nothing written that was there before, its room as the claim has it; d0: the record of draws at this point (at the entry s.drawn: begin with 'refine W.base ?_' and 'have hd0 := Drawn.sameBut.refl s.drawn lw_cs') -/
theorem lw_ret {p : Program} {l : Launch} {e : Env} {s : State} {m : MethodId} {below : List Frame} {meth : Method} {c : Code} {b : Nat} {d0 : Drawn} (hd0 : s.drawn.sameBut d0 lw_cs) (hx : p.tables.exec = Jvm.exec) (hb : c.code = code) (hr : meth.sig.returnType = ret) (hlocks : meth.locks = false) {pc : Nat} {H : Heap} {ls : Array Slot} (hdg : decode code pc = .ok (.ireturn, 1)) : W p l e room_1 (s.setDrawn d0) m #[Value.ref b] below meth c H [] 601024 7293034 (lw_Z below #[Value.ref b] s) (F0 m pc ls [.int 1]) := by
  intro T hT X
  obtain ⟨fs, hret, hrun, hended, hW, hframe⟩ := X.leave (v := some (.int 1)) (hlocks := hlocks) (fun h => by rw [hr] at h; cases h)
  have hmeth' : T.vm.method? m = some meth := X.method'
  refine ⟨T.setFrames fs, ?_, .returned (some (.int 1)), hrun, hended, rfl, lw_closed hd0 ⟨_, rfl⟩ hW hframe⟩
  jvm_step X.here [X.here.top, hx, hb, hdg, hmeth', hr, ret, narrow_b1]
  (try refine ⟨rfl, ?_⟩); (try refine ⟨rfl, ?_⟩)
  first | (intro acts; rw [hret _ acts rfl rfl rfl]) | rw [hret _ _ rfl rfl rfl]
  exact Steps.refl _
/-- what holds at the law's entry: the machine, the code, the tables' words (any of lw_tbl by 'hts w (by decide +kernel)'), the script of L ints xs at the cell b, what the Statement gives of the start (any of its parts by flat_of_before) -/
def lw_At (p : Program) (s : State) (m : MethodId) (meth : Method) (c : Code) (b L : Nat) (xs : Nat → Int32) : Prop :=
  p.tables.exec = Jvm.exec ∧ c.code = code ∧ meth.sig.returnType = ret ∧ c.maxLocals = 9 ∧ s.vm.findClass R_law = some m.cls ∧ (∀ w ∈ lw_tbl, w.before #[Value.ref b] s = true) ∧ va_X b L xs s s.heap ∧ b < s.heap.size ∧ meth.locks = false ∧ (Jvm.Cond.and given_1 narrow_1).before #[Value.ref b] s = true
/-! THE LAW'S START: what the tables and the Statement give; printed by wip/whole/gen/spec_walk.py -/
theorem ar_of {s : State} {args : Array Value} {ty : FieldType} (h : (Cond.arrayClass ty).before args s = true) : ∃ cA : ClassId, ArrOfT s cA ty ∧ s.vm.findClass ("[" ++ ty.toString) = some cA := by
  obtain ⟨cA, kA, comp, h1, h2, h3⟩ := Cond.arrayClass_spec h
  exact ⟨cA, fun n z => ⟨fun k h => (by cases h), kA, h2, comp, h3⟩, h1⟩
theorem arO_of {s : State} {args : Array Value} {C : String} (h : (Cond.arrayOver (.object C)).before args s = true) : ∃ cA : ClassId, ArrOfT s cA (.object C) ∧ va_RA s cA (.object C) := by
  obtain ⟨comp, c, k, h1, h2, h3, h4, h5⟩ := Cond.arrayOver_spec h
  exact ⟨c, fun n z => ⟨fun k h => (by cases h), k, h3, comp, h4⟩, ⟨k, comp, h3, h4, h1, h5⟩⟩
theorem st_of {s : State} {args : Array Value} {own tx : String} {k : Nat} (h1 : (Cond.stringRef own k tx).before args s = true) (h2 : (Cond.exactly (.string own k) "java/lang/String").before args s = true) : ∃ a : Nat, vk_R own k tx a s := by
  obtain ⟨a, c0, cell, kA, ha, -⟩ := Cond.exactly_spec h2
  exact ⟨a, vk_R.of h1 ha⟩
set_option maxRecDepth 100000 in
set_option maxHeartbeats 4000000 in
theorem g_of {s : State} {args : Array Value} (hts : ∀ w ∈ lw_tbl, w.before args s = true) (hgv : (Jvm.Cond.and given_1 narrow_1).before args s = true) : (∃ g : GT, gE g s) ∧ zE noA s s.heap ∧ nE s ∧ va_AO "HalfTables$State" s := by
  have hs := flat_of_before _ hgv
  obtain ⟨k0, i0, hK0⟩ := u_known (C := RX0) (T := TX0) (N := 3) (n := 3) hts inX0 (hts _ (List.mem_of_getElem? (i := 115) rfl))
  obtain ⟨k1, i1, hK1⟩ := u_known (C := RX1) (T := TX1) (N := 13) (n := 13) hts inX1 (hts _ (List.mem_of_getElem? (i := 135) rfl))
  obtain ⟨k2, i2, hK2⟩ := u_known (C := RX2) (T := TX2) (N := 5) (n := 5) hts inX2 (hts _ (List.mem_of_getElem? (i := 70) rfl))
  obtain ⟨k3, i3, hK3⟩ := u_known (C := RX3) (T := TX3) (N := 4) (n := 4) hts inX3 (hts _ (List.mem_of_getElem? (i := 62) rfl))
  obtain ⟨k4, i4, hK4⟩ := u_known (C := RX4) (T := TX4) (N := 11) (n := 11) hts inX4 (hts _ (List.mem_of_getElem? (i := 631) rfl))
  obtain ⟨dC, dI, hKc⟩ : ∃ (dC : Nat → ClassId) (dI : Nat → Nat → Nat), ∀ (k : Nat) (q : vw_C), vwCl[k]? = some q → u_Kn s q.1 q.2.1 q.2.2 (dC k) (dI k) := by
    refine ⟨fun k => if k = 0 then k0 else if k = 1 then k1 else if k = 2 then k2 else if k = 3 then k3 else k4, fun k => if k = 0 then i0 else if k = 1 then i1 else if k = 2 then i2 else if k = 3 then i3 else i4, ?_⟩
    intro k q hq
    match k, hq with
    | 0, hq => cases hq; exact hK0
    | 1, hq => cases hq; exact hK1
    | 2, hq => cases hq; exact hK2
    | 3, hq => cases hq; exact hK3
    | 4, hq => cases hq; exact hK4
    | k + 5, hq => simp at hq
  obtain ⟨aI, hI1, hI2⟩ := ar_of (hts _ (List.mem_of_getElem? (i := 113) rfl))
  obtain ⟨aJ, hJ1, hJ2⟩ := ar_of (hts _ (List.mem_of_getElem? (i := 685) rfl))
  obtain ⟨aD, hD1, hD2⟩ := ar_of (hts _ (List.mem_of_getElem? (i := 935) rfl))
  have hov : (Cond.arrayOver (.object "HalfTables$State")).before args s = true := (hts _ (List.mem_of_getElem? (i := 121) rfl))
  obtain ⟨aO, hO1, hO2⟩ := arO_of hov
  obtain ⟨t0, hT0⟩ := st_of (own := RX3) (k := 125) (tx := "the text is full") (hts _ (List.mem_of_getElem? (i := 611) rfl)) (hs _ (by decide +kernel))
  obtain ⟨t1, hT1⟩ := st_of (own := RX3) (k := 158) (tx := "there is no saved state") (hts _ (List.mem_of_getElem? (i := 625) rfl)) (hs _ (by decide +kernel))
  obtain ⟨t2, hT2⟩ := st_of (own := RX3) (k := 175) (tx := "there is no such entry") (hts _ (List.mem_of_getElem? (i := 485) rfl)) (hs _ (by decide +kernel))
  obtain ⟨t3, hT3⟩ := st_of (own := RX3) (k := 178) (tx := "there is no such register") (hts _ (List.mem_of_getElem? (i := 510) rfl)) (hs _ (by decide +kernel))
  obtain ⟨t4, hT4⟩ := st_of (own := RX3) (k := 182) (tx := "an argument is out of range") (hts _ (List.mem_of_getElem? (i := 429) rfl)) (hs _ (by decide +kernel))
  have hty : ∀ (k : Nat) (q : ClassId × FieldType), (gT ((dC, dI), (fun k => if k = 0 then aI else if k = 1 then aJ else if k = 2 then aO else aD), (fun k => if k = 0 then t0 else if k = 1 then t1 else if k = 2 then t2 else if k = 3 then t3 else t4)))[k]? = some q → ArrOfT s q.1 q.2 ∧ va_RA s q.1 q.2 := by
    intro k q hq
    match k, hq with
    | 0, hq => cases hq; exact ⟨hI1, hI2⟩
    | 1, hq => cases hq; exact ⟨hJ1, hJ2⟩
    | 2, hq => cases hq; exact ⟨hO1, hO2⟩
    | 3, hq => cases hq; exact ⟨hD1, hD2⟩
    | k + 4, hq => simp at hq
  refine ⟨⟨((dC, dI), (fun k => if k = 0 then aI else if k = 1 then aJ else if k = 2 then aO else aD), (fun k => if k = 0 then t0 else if k = 1 then t1 else if k = 2 then t2 else if k = 3 then t3 else t4)), ⟨hKc, hty⟩, ⟨va_Nw.of rfl (hts _ (List.mem_of_getElem? (i := 87) rfl)), va_Nw.of rfl (hts _ (List.mem_of_getElem? (i := 223) rfl))⟩, ⟨va_Nw.of rfl (hts _ (List.mem_of_getElem? (i := 392) rfl)), va_Nw.of rfl (hts _ (List.mem_of_getElem? (i := 394) rfl)), va_Nw.of rfl (hts _ (List.mem_of_getElem? (i := 396) rfl))⟩, ⟨va_Nw.of rfl (hts _ (List.mem_of_getElem? (i := 390) rfl)), va_Nw.of rfl (hts _ (List.mem_of_getElem? (i := 478) rfl)), va_Nw.of rfl (hts _ (List.mem_of_getElem? (i := 604) rfl))⟩, hT0, hT1, hT2, hT3, hT4⟩, ⟨?_, ?_⟩, ⟨?_, ?_⟩, va_AO.of hov⟩
  · exact vx_Zqof (hts _ (List.mem_of_getElem? (i := 415) rfl)) (hts _ (List.mem_of_getElem? (i := 52) rfl)) (hs _ (by decide +kernel)) (fun _ _ h => h)
  · exact vx_Zqof (hts _ (List.mem_of_getElem? (i := 417) rfl)) (hts _ (List.mem_of_getElem? (i := 52) rfl)) (hs _ (by decide +kernel)) (fun _ _ h => h)
  · exact va_Nc.of (hs _ (by decide +kernel))
  · exact va_Nc.of (hs _ (by decide +kernel))
theorem in_law_X0 : ∀ w ∈ wsX00, w ∈ wsL_law := inlX0
theorem in_law_X1 : ∀ w ∈ wsX10, w ∈ wsL_law := inlX1
theorem in_law_X2 : ∀ w ∈ wsX20, w ∈ wsL_law := inlX2
theorem in_law_X3 : ∀ w ∈ wsX30, w ∈ wsL_law := inlX3
theorem in_law_X4 : ∀ w ∈ wsX40, w ∈ wsL_law := inlX4
