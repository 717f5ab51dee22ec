/-! CALLS AND CELLS: the kit's rows over worlds whose order stays -/
theorem va_D_fst {A : Nat → Prop} {ws ws' : va_W} (h : va_D A ws) (e : ws'.map (·.1) = ws.map (·.1)) : va_D A ws' := by
  have key : ∀ (k : Nat) (p : Nat × va_E), ws'[k]? = some p → ∃ p', ws[k]? = some p' ∧ p'.1 = p.1 := by
    intro k p hp
    have h1 : (ws'.map (·.1))[k]? = some p.1 := by rw [List.getElem?_map, hp]; rfl
    rw [e, List.getElem?_map] at h1
    rcases hq : ws[k]? with _ | p'
    · rw [hq] at h1; cases h1
    · rw [hq] at h1
      exact ⟨p', rfl, Option.some.inj h1⟩
  refine ⟨fun i j p q hp hq hpq => ?_, fun k q hq => ?_⟩
  · obtain ⟨p', h1, h2⟩ := key i p hp
    obtain ⟨q', h3, h4⟩ := key j q hq
    exact h.1 i j p' q' h1 h3 (by rw [h2, h4, hpq])
  · obtain ⟨q', h1, h2⟩ := key k q hq
    rw [← h2]
    exact h.2 k q' h1
theorem fm_of_map {α β : Type} {f : α → Option β} : ∀ {is : List α} {wc : List β}, is.map f = wc.map some → is.filterMap f = wc
  | [], [], _ => rfl
  | [], _ :: _, h => by simp at h
  | _ :: _, [], h => by simp at h
  | i :: is, w :: wc, h => by
    simp only [List.map_cons, List.cons.injEq] at h
    rw [List.filterMap_cons, h.1, fm_of_map h.2]
theorem at_map {α β : Type} {f : α → Option β} {is : List α} {wc : List β} (hC : is.map f = wc.map some) {j : Nat} {i : α} (hi : is[j]? = some i) : ∃ e, wc[j]? = some e ∧ f i = some e := by
  have h1 : (is.map f)[j]? = some (f i) := by rw [List.getElem?_map, hi]; rfl
  rw [hC, List.getElem?_map] at h1
  rcases hw : wc[j]? with _ | e
  · rw [hw] at h1; cases h1
  · rw [hw] at h1
    exact ⟨e, rfl, (Option.some.inj h1).symm⟩
theorem at_map' {α β : Type} {f : α → Option β} {is : List α} {wc : List β} (hC : is.map f = wc.map some) {j : Nat} {e : β} (he : wc[j]? = some e) : ∃ i, is[j]? = some i ∧ f i = some e := by
  have h1 : (is.map f)[j]? = some (some e) := by rw [hC, List.getElem?_map, he]; rfl
  rw [List.getElem?_map] at h1
  rcases hj : is[j]? with _ | i
  · rw [hj] at h1; cases h1
  · rw [hj] at h1
    exact ⟨i, rfl, Option.some.inj h1⟩
/-- every place below n is in one of two lists, none in both -/
def va_two (is isR : List Nat) (n : Nat) : Bool := (List.range n).all (fun k => is.contains k || isR.contains k) && isR.all (fun k => !is.contains k)
/-- behind a call: wsn has the callee's cells at the places is, the old ones at isR -/
theorem va_saP {A0 : Nat → Prop} {D : va_G} {cl : List vw_C} {ws wsn wc wr w1 : va_W} {H H1 : Heap} {al : List Nat} (hP : va_P D cl ws H) (hD : va_D A0 ws) (is isR : List Nat) (n : Nat) (hC : is.map (fun i => ws[i]?) = wc.map some) (hR : isR.map (fun i => ws[i]?) = wr.map some) (hA : ws.map (·.1) = al) (hA2 : wsn.map (·.1) = al) (h2 : is.map (fun i => wsn[i]?) = w1.map some) (h3r : isR.map (fun i => wsn[i]?) = wr.map some) (hn : al.length = n) (htwo : va_two is isR n = true) (hk : ∀ q : Nat, q < H.size → ¬ va_Ad wc q → H1[q]? = H[q]?) (hP1 : va_P D cl w1 H1) : va_P D cl wsn H1 ∧ va_D A0 wsn := by
  have hfst : wsn.map (·.1) = ws.map (·.1) := hA2.trans hA.symm
  have h3 : isR.map (fun i => wsn[i]?) = isR.map (fun i => ws[i]?) := h3r.trans hR.symm
  have hlen : wsn.length = n := by have := congrArg List.length hA2; simp only [List.length_map] at this; rw [this, hn]
  simp only [va_two, Bool.and_eq_true, List.all_eq_true, Bool.or_eq_true, List.contains_iff_mem, List.mem_range] at htwo
  refine ⟨fun k q hq => ?_, va_D_fst hD hfst⟩
  have hkn : k < n := by rw [← hlen]; exact (List.getElem?_eq_some_iff.mp hq).1
  rcases htwo.1 k hkn with h | h
  · obtain ⟨j, hj⟩ := List.getElem?_of_mem h
    obtain ⟨e, he, hw⟩ := at_map h2 hj
    rw [hq] at hw
    cases hw
    exact hP1 j q he
  · obtain ⟨j, hj⟩ := List.getElem?_of_mem h
    have hw : ws[k]? = some q := by
      have h4 : (isR.map (fun i => wsn[i]?))[j]? = some (wsn[k]?) := by rw [List.getElem?_map, hj]; rfl
      rw [h3, List.getElem?_map, hj] at h4
      exact (Option.some.inj h4).trans hq
    have hat := hP k q hw
    refine hat.kept (hk q.1 hat.lt ?_)
    rintro ⟨j2, e, he⟩
    obtain ⟨i, hi, hwi⟩ := at_map' hC he
    have := hD.1 k i q (q.1, e) hw hwi rfl
    subst this
    have h5 := htwo.2 k h
    have h6 : k ∈ is := List.mem_of_getElem? hi
    simp [h6] at h5
theorem va_Ad_sub {A0 : Nat → Prop} {ws wc : va_W} (hD : va_D A0 ws) {is : List Nat} (hC : is.map (fun i => ws[i]?) = wc.map some) : ∀ q, va_Ad wc q → A0 q := by
  rintro q ⟨j, e, he⟩
  have h1 : (is.map (fun i => ws[i]?))[j]? = some (some (q, e)) := by rw [hC, List.getElem?_map, he]; rfl
  rw [List.getElem?_map] at h1
  rcases hj : is[j]? with _ | i
  · rw [hj] at h1; cases h1
  · rw [hj] at h1
    exact hD.2 i (q, e) (Option.some.inj h1)
section Calls
variable {p : Program} {l : Launch} {e : Env} {R : Room} {s : State} {m : MethodId} {args : Array Value} {below : List Frame} {meth : Method} {c : Code} {H : Heap} {locs : List Loc} {cells slots : Nat} {Q : State → Prop}
variable {g : GT} {A0 : Nat → Prop} {H0 : Heap} {a : Array Value} {pc : Nat} {ls : Array Slot} {st0 rest : List Value} {ws wc : va_W}
-- what a callee asks for, at the places is of the caller's world
theorem preV {b : Addr} {As : List Value} {ci : Nat} {fs : List Value} {wc' : va_W} (q : vw_C) (hE : gE g s) (hP : va_P g.1 vwCl ws H) (is : List Nat) (hC : is.map (fun i => ws[i]?) = ((b, .inr (ci, fs)) :: wc').map some) (hcl : vwCl[ci]? = some q) : PreV s H q.1 b (cP g (.ref b :: As) ((b, .inr (ci, fs)) :: wc')) As := by
  have hPc := hP.sub (ws' := (b, .inr (ci, fs)) :: wc') is (fm_of_map hC)
  exact ⟨cP_blind, va_recv hE.1 hPc (q0 := 0) hcl rfl, fun U hU hW => ⟨rfl, hE.moved hW, by rw [hU]; exact hPc⟩⟩
theorem preVd {b : Addr} {As : List Value} {ci : Nat} {fs : List Value} {wc' : va_W} (q : vw_C) (hE : gE g s) (hP : va_P g.1 vwCl ws H) (hD : va_D A0 ws) (is : List Nat) (hn : va_nd is = true) (hC : is.map (fun i => ws[i]?) = ((b, .inr (ci, fs)) :: wc').map some) (hcl : vwCl[ci]? = some q) : PreV s H q.1 b (cPd g (.ref b :: As) ((b, .inr (ci, fs)) :: wc')) As := by
  have hPc := hP.sub (ws' := (b, .inr (ci, fs)) :: wc') is (fm_of_map hC)
  have hDc := (hD.sub (ws' := (b, .inr (ci, fs)) :: wc') is hn hC).weaken (B := fun _ => True) (fun _ _ _ _ => trivial)
  exact ⟨cPd_blind, va_recv hE.1 hPc (q0 := 0) hcl rfl, fun U hU hW => ⟨rfl, hE.moved hW, by rw [hU]; exact hPc, hDc⟩⟩
theorem preVx {b : Addr} {As : List Value} {ci : Nat} {fs : List Value} {wc' : va_W} (q : vw_C) (hE : gE g s) (hZ : zE noA s s.heap) (hS : va_S noA s.heap H locs) (hP : va_P g.1 vwCl ws H) (hD : va_D A0 ws) (is : List Nat) (hn : va_nd is = true) (hC : is.map (fun i => ws[i]?) = ((b, .inr (ci, fs)) :: wc').map some) (hcl : vwCl[ci]? = some q) : PreV s H q.1 b (cPx g (.ref b :: As) ((b, .inr (ci, fs)) :: wc')) As := by
  have hPc := hP.sub (ws' := (b, .inr (ci, fs)) :: wc') is (fm_of_map hC)
  have hDc := (hD.sub (ws' := (b, .inr (ci, fs)) :: wc') is hn hC).weaken (B := fun _ => True) (fun _ _ _ _ => trivial)
  exact ⟨cPx_blind, va_recv hE.1 hPc (q0 := 0) hcl rfl, fun U hU hW => ⟨rfl, hE.moved hW, by rw [hU]; exact hPc, hDc, by rw [hU]; exact zE.moved hW.alike (hZ.kept hS.2.1)⟩⟩
theorem preS {As : List Value} (hE : gE g s) (hP : va_P g.1 vwCl ws H) (is : List Nat) (hC : is.map (fun i => ws[i]?) = wc.map some) : PreS s H (cP g As wc) As :=
  ⟨cP_blind, fun U hU hW => ⟨rfl, hE.moved hW, by rw [hU]; exact hP.sub is (fm_of_map hC)⟩⟩
theorem preSd {As : List Value} (hE : gE g s) (hP : va_P g.1 vwCl ws H) (hD : va_D A0 ws) (is : List Nat) (hn : va_nd is = true) (hC : is.map (fun i => ws[i]?) = wc.map some) : PreS s H (cPd g As wc) As :=
  ⟨cPd_blind, fun U hU hW => ⟨rfl, hE.moved hW, by rw [hU]; exact hP.sub is (fm_of_map hC), (hD.sub is hn hC).weaken (fun _ _ _ _ => trivial)⟩⟩
theorem preSx {As : List Value} (hE : gE g s) (hZ : zE noA s s.heap) (hS : va_S noA s.heap H locs) (hP : va_P g.1 vwCl ws H) (hD : va_D A0 ws) (is : List Nat) (hn : va_nd is = true) (hC : is.map (fun i => ws[i]?) = wc.map some) : PreS s H (cPx g As wc) As :=
  ⟨cPx_blind, fun U hU hW => ⟨rfl, hE.moved hW, by rw [hU]; exact hP.sub is (fm_of_map hC), (hD.sub is hn hC).weaken (fun _ _ _ _ => trivial), by rw [hU]; exact zE.moved hW.alike (hZ.kept hS.2.1)⟩⟩
-- behind a call that reads
theorem kRi {post : Int32 → Prop} (hr : va_Run p l e R s m args below meth c H locs cells slots 0 0 (F0 m pc ls st0) rest (va_Qi (fun r (_ : Unit) => post r) noB noA a) noA) (hP : va_P g.1 vwCl ws H) (hS : va_S A0 H0 H locs)
    (kk : ∀ (r : Int32) (H1 : Heap) (locs1 : List Loc), post r → va_P g.1 vwCl ws H1 → va_S A0 H0 H1 locs1 → W p l e R s m args below meth c H1 locs1 cells slots Q (F0 m (pc + 3) ls (.int r :: rest))) : W p l e R s m args below meth c H locs cells slots Q (F0 m pc ls st0) :=
  va_calli hr hS (fun _ _ h => h.elim) (fun _ h => h.elim) (fun r _ _ H1 locs1 _ _ hp _ _ hk hS1 => kk r H1 locs1 hp (hP.kept (fun k q hq => hk q.1 (hP k q hq).lt (fun h => h))) hS1)
theorem kRl {post : Int64 → Prop} (hr : va_Run p l e R s m args below meth c H locs cells slots 0 0 (F0 m pc ls st0) rest (va_Ql (fun r (_ : Unit) => post r) noB noA a) noA) (hP : va_P g.1 vwCl ws H) (hS : va_S A0 H0 H locs)
    (kk : ∀ (r : Int64) (H1 : Heap) (locs1 : List Loc), post r → va_P g.1 vwCl ws H1 → va_S A0 H0 H1 locs1 → W p l e R s m args below meth c H1 locs1 cells slots Q (F0 m (pc + 3) ls (.long r :: rest))) : W p l e R s m args below meth c H locs cells slots Q (F0 m pc ls st0) :=
  va_calll hr hS (fun _ _ h => h.elim) (fun _ h => h.elim) (fun r _ _ H1 locs1 _ _ hp _ _ hk hS1 => kk r H1 locs1 hp (hP.kept (fun k q hq => hk q.1 (hP k q hq).lt (fun h => h))) hS1)
-- behind a call that changes the cells at the places is
theorem kUv {S : Type} {post : S → Prop} {wd' : S → va_W} (wsn : S → va_W) (hr : va_Run p l e R s m args below meth c H locs cells slots 0 0 (F0 m pc ls st0) rest (va_Qv post (fun u t => va_P g.1 vwCl (wd' u) t.heap) (va_Ad wc) a) (va_Ad wc)) (hP : va_P g.1 vwCl ws H) (hD : va_D A0 ws) (hS : va_S A0 H0 H locs) (is isR : List Nat) (n : Nat) (al : List Nat) (wr : va_W) (hC : is.map (fun i => ws[i]?) = wc.map some) (hR : isR.map (fun i => ws[i]?) = wr.map some) (hA : ws.map (·.1) = al) (hA2 : ∀ u, (wsn u).map (·.1) = al) (h2 : ∀ u, is.map (fun i => (wsn u)[i]?) = (wd' u).map some) (h3 : ∀ u, isR.map (fun i => (wsn u)[i]?) = wr.map some) (hn : al.length = n) (htwo : va_two is isR n = true)
    (kk : ∀ (u : S) (H1 : Heap) (locs1 : List Loc), post u → va_P g.1 vwCl (wsn u) H1 → va_D A0 (wsn u) → va_S A0 H0 H1 locs1 → W p l e R s m args below meth c H1 locs1 cells slots Q (F0 m (pc + 3) ls rest)) : W p l e R s m args below meth c H locs cells slots Q (F0 m pc ls st0) :=
  va_callv hr hS (fun q _ h => va_Ad_sub hD hC q h) (va_Ad_sub hD hC) (fun u t H1 locs1 ht _ hp hB _ hk hS1 => by
    rw [ht] at hB
    obtain ⟨h1, h2⟩ := va_saP hP hD is isR n hC hR hA (hA2 u) (h2 u) (h3 u) hn htwo hk hB
    exact kk u H1 locs1 hp h1 h2 hS1)
theorem kUi {S : Type} {post : Int32 → S → Prop} {wd' : S → va_W} (wsn : S → va_W) (hr : va_Run p l e R s m args below meth c H locs cells slots 0 0 (F0 m pc ls st0) rest (va_Qi post (fun u t => va_P g.1 vwCl (wd' u) t.heap) (va_Ad wc) a) (va_Ad wc)) (hP : va_P g.1 vwCl ws H) (hD : va_D A0 ws) (hS : va_S A0 H0 H locs) (is isR : List Nat) (n : Nat) (al : List Nat) (wr : va_W) (hC : is.map (fun i => ws[i]?) = wc.map some) (hR : isR.map (fun i => ws[i]?) = wr.map some) (hA : ws.map (·.1) = al) (hA2 : ∀ u, (wsn u).map (·.1) = al) (h2 : ∀ u, is.map (fun i => (wsn u)[i]?) = (wd' u).map some) (h3 : ∀ u, isR.map (fun i => (wsn u)[i]?) = wr.map some) (hn : al.length = n) (htwo : va_two is isR n = true)
    (kk : ∀ (r : Int32) (u : S) (H1 : Heap) (locs1 : List Loc), post r u → va_P g.1 vwCl (wsn u) H1 → va_D A0 (wsn u) → va_S A0 H0 H1 locs1 → W p l e R s m args below meth c H1 locs1 cells slots Q (F0 m (pc + 3) ls (.int r :: rest))) : W p l e R s m args below meth c H locs cells slots Q (F0 m pc ls st0) :=
  va_calli hr hS (fun q _ h => va_Ad_sub hD hC q h) (va_Ad_sub hD hC) (fun r u t H1 locs1 ht _ hp hB _ hk hS1 => by
    rw [ht] at hB
    obtain ⟨h1, h2⟩ := va_saP hP hD is isR n hC hR hA (hA2 u) (h2 u) (h3 u) hn htwo hk hB
    exact kk r u H1 locs1 hp h1 h2 hS1)
theorem kUl {S : Type} {post : Int64 → S → Prop} {wd' : S → va_W} (wsn : S → va_W) (hr : va_Run p l e R s m args below meth c H locs cells slots 0 0 (F0 m pc ls st0) rest (va_Ql post (fun u t => va_P g.1 vwCl (wd' u) t.heap) (va_Ad wc) a) (va_Ad wc)) (hP : va_P g.1 vwCl ws H) (hD : va_D A0 ws) (hS : va_S A0 H0 H locs) (is isR : List Nat) (n : Nat) (al : List Nat) (wr : va_W) (hC : is.map (fun i => ws[i]?) = wc.map some) (hR : isR.map (fun i => ws[i]?) = wr.map some) (hA : ws.map (·.1) = al) (hA2 : ∀ u, (wsn u).map (·.1) = al) (h2 : ∀ u, is.map (fun i => (wsn u)[i]?) = (wd' u).map some) (h3 : ∀ u, isR.map (fun i => (wsn u)[i]?) = wr.map some) (hn : al.length = n) (htwo : va_two is isR n = true)
    (kk : ∀ (r : Int64) (u : S) (H1 : Heap) (locs1 : List Loc), post r u → va_P g.1 vwCl (wsn u) H1 → va_D A0 (wsn u) → va_S A0 H0 H1 locs1 → W p l e R s m args below meth c H1 locs1 cells slots Q (F0 m (pc + 3) ls (.long r :: rest))) : W p l e R s m args below meth c H locs cells slots Q (F0 m pc ls st0) :=
  va_calll hr hS (fun q _ h => va_Ad_sub hD hC q h) (va_Ad_sub hD hC) (fun r u t H1 locs1 ht _ hp hB _ hk hS1 => by
    rw [ht] at hB
    obtain ⟨h1, h2⟩ := va_saP hP hD is isR n hC hR hA (hA2 u) (h2 u) (h3 u) hn htwo hk hB
    exact kk r u H1 locs1 hp h1 h2 hS1)
theorem kUd {S : Type} {post : UInt64 → S → Prop} {wd' : S → va_W} (wsn : S → va_W) (hr : va_Run p l e R s m args below meth c H locs cells slots 0 0 (F0 m pc ls st0) rest (va_Qd post (fun u t => va_P g.1 vwCl (wd' u) t.heap) (va_Ad wc) a) (va_Ad wc)) (hP : va_P g.1 vwCl ws H) (hD : va_D A0 ws) (hS : va_S A0 H0 H locs) (is isR : List Nat) (n : Nat) (al : List Nat) (wr : va_W) (hC : is.map (fun i => ws[i]?) = wc.map some) (hR : isR.map (fun i => ws[i]?) = wr.map some) (hA : ws.map (·.1) = al) (hA2 : ∀ u, (wsn u).map (·.1) = al) (h2 : ∀ u, is.map (fun i => (wsn u)[i]?) = (wd' u).map some) (h3 : ∀ u, isR.map (fun i => (wsn u)[i]?) = wr.map some) (hn : al.length = n) (htwo : va_two is isR n = true)
    (kk : ∀ (r : UInt64) (u : S) (H1 : Heap) (locs1 : List Loc), post r u → va_P g.1 vwCl (wsn u) H1 → va_D A0 (wsn u) → va_S A0 H0 H1 locs1 → W p l e R s m args below meth c H1 locs1 cells slots Q (F0 m (pc + 3) ls (.double r :: rest))) : W p l e R s m args below meth c H locs cells slots Q (F0 m pc ls st0) :=
  va_calld hr hS (fun q _ h => va_Ad_sub hD hC q h) (va_Ad_sub hD hC) (fun r u t H1 locs1 ht _ hp hB _ hk hS1 => by
    rw [ht] at hB
    obtain ⟨h1, h2⟩ := va_saP hP hD is isR n hC hR hA (hA2 u) (h2 u) (h3 u) hn htwo hk hB
    exact kk r u H1 locs1 hp h1 h2 hS1)
-- behind a call of a void method that may throw; what it throws leaves this method too
theorem kXv {Qc : Array Value → State → Outcome → State → Prop} {k kk0 mc ms : Nat} {post : Prop} {px px0 : String → Prop} {free : Addr → Prop} (hr : vx_Run p l e R s m args below meth c H locs cells slots k kk0 (F0 m pc ls st0) rest (va_Qv (fun (_ : Unit) => post) noB noA a) (xX px) noA) (hP : va_P g.1 vwCl ws H) (hS : va_S noA s.heap H locs) (ht : ∀ x ∈ c.exceptionTable.toList, False) (hlocks : meth.locks = false) (hc : cells + k ≤ mc) (hs : slots + kk0 ≤ ms) (hpx : ∀ E, px E → px0 E)
    (kk : ∀ (H1 : Heap) (locs1 : List Loc), post → va_P g.1 vwCl ws H1 → va_S noA s.heap H1 locs1 → W p l e R s m args below meth c H1 locs1 (cells + k) (slots + kk0) (vx_MQ below Qc (xX px0) args s mc ms free) (F0 m (pc + 3) ls rest)) : W p l e R s m args below meth c H locs cells slots (vx_MQ below Qc (xX px0) args s mc ms free) (F0 m pc ls st0) :=
  vx_callv hr hS (fun _ _ h => h.elim) (fun _ h => h.elim) (fun _ _ h => h.elim)
    (fun E ce q9 _ t H1 locs1 _ _ _ hE _ _ hS1 hce hv hcl => vx_out (Qc := Qc) (fun x hx => (ht x hx).elim) hlocks hce hv hcl (fun t' ht' _ => ⟨(), trivial, hpx E hE, hS1.F ht'⟩) (fun z hz => (hS1.2.2 z hz).elim) hc hs)
    (fun _ _ H1 locs1 _ _ hp _ _ hk hS1 => kk H1 locs1 hp (hP.kept (fun k q hq => hk q.1 (hP k q hq).lt (fun h => h))) hS1)
-- arrays by numbers
theorem gIald {cc : ByteArray} (hx : p.tables.exec = Jvm.exec) (hb : c.code = cc) (hE : gE g s) (hP : va_P g.1 vwCl ws H) (q0 : Nat) {b n k : Nat} {f : Nat → Int32} (ha : ws[q0]? = some (b, .inl (g.2.1 0, n, .inl f))) (hk : k < n) (hn : n < 2 ^ 31) (hdg : decode cc pc = .ok (.iaload, 1))
    (kk : W p l e R s m args below meth c H locs cells slots Q (F0 m (pc + 1) ls (.int (f k) :: rest))) : W p l e R s m args below meth c H locs cells slots Q (F0 m pc ls (.int (nI k) :: .ref b :: rest)) :=
  va_iald hx hb hE.1 hP q0 0 ha rfl (vp_in_nI hk hn) hdg (by rw [nI_clamp (Nat.lt_trans hk hn)]; exact kk)
theorem gIast {cc : ByteArray} (hx : p.tables.exec = Jvm.exec) (hb : c.code = cc) (hE : gE g s) (hP : va_P g.1 vwCl ws H) (hD : va_D A0 ws) (hS : va_S A0 H0 H locs) (q0 : Nat) {b n k : Nat} {x : Int32} {f : Nat → Int32} (ha : ws[q0]? = some (b, .inl (g.2.1 0, n, .inl f))) (hk : k < n) (hn : n < 2 ^ 31) (hdg : decode cc pc = .ok (.iastore, 1)) (wsn : va_W) (hw : ws.set q0 (b, .inl (g.2.1 0, n, .inl (upd f k x))) = wsn)
    (kk : ∀ (H1 : Heap) (locs1 : List Loc), va_P g.1 vwCl wsn H1 → va_D A0 wsn → va_S A0 H0 H1 locs1 → W p l e R s m args below meth c H1 locs1 cells slots Q (F0 m (pc + 1) ls rest)) : W p l e R s m args below meth c H locs cells slots Q (F0 m pc ls (.int x :: .int (nI k) :: .ref b :: rest)) :=
  va_iast hx hb hE.1 hP hD hS q0 0 ha rfl (vp_in_nI hk hn) hdg (fun H1 locs1 h1 h2 h3 => by rw [nI_clamp (Nat.lt_trans hk hn), hw] at h1 h2; exact kk H1 locs1 h1 h2 h3)
theorem gLald {cc : ByteArray} (hx : p.tables.exec = Jvm.exec) (hb : c.code = cc) (hE : gE g s) (hP : va_P g.1 vwCl ws H) (q0 : Nat) {b n k : Nat} {f : Nat → Int64} (ha : ws[q0]? = some (b, .inl (g.2.1 1, n, .inr (.inl f)))) (hk : k < n) (hn : n < 2 ^ 31) (hdg : decode cc pc = .ok (.laload, 1))
    (kk : W p l e R s m args below meth c H locs cells slots Q (F0 m (pc + 1) ls (.long (f k) :: rest))) : W p l e R s m args below meth c H locs cells slots Q (F0 m pc ls (.int (nI k) :: .ref b :: rest)) :=
  va_lald hx hb hE.1 hP q0 1 ha rfl (vp_in_nI hk hn) hdg (by rw [nI_clamp (Nat.lt_trans hk hn)]; exact kk)
theorem gLast {cc : ByteArray} (hx : p.tables.exec = Jvm.exec) (hb : c.code = cc) (hE : gE g s) (hP : va_P g.1 vwCl ws H) (hD : va_D A0 ws) (hS : va_S A0 H0 H locs) (q0 : Nat) {b n k : Nat} {x : Int64} {f : Nat → Int64} (ha : ws[q0]? = some (b, .inl (g.2.1 1, n, .inr (.inl f)))) (hk : k < n) (hn : n < 2 ^ 31) (hdg : decode cc pc = .ok (.lastore, 1)) (wsn : va_W) (hw : ws.set q0 (b, .inl (g.2.1 1, n, .inr (.inl (vp_updL f k x)))) = wsn)
    (kk : ∀ (H1 : Heap) (locs1 : List Loc), va_P g.1 vwCl wsn H1 → va_D A0 wsn → va_S A0 H0 H1 locs1 → W p l e R s m args below meth c H1 locs1 cells slots Q (F0 m (pc + 1) ls rest)) : W p l e R s m args below meth c H locs cells slots Q (F0 m pc ls (.long x :: .int (nI k) :: .ref b :: rest)) :=
  va_last hx hb hE.1 hP hD hS q0 1 ha rfl (vp_in_nI hk hn) hdg (fun H1 locs1 h1 h2 h3 => by rw [nI_clamp (Nat.lt_trans hk hn), hw] at h1 h2; exact kk H1 locs1 h1 h2 h3)
theorem gDald {cc : ByteArray} (hx : p.tables.exec = Jvm.exec) (hb : c.code = cc) (hE : gE g s) (hP : va_P g.1 vwCl ws H) (q0 : Nat) {b n k : Nat} {f : Nat → UInt64} (ha : ws[q0]? = some (b, .inl (g.2.1 3, n, .inr (.inr (.inr (.inl f)))))) (hk : k < n) (hn : n < 2 ^ 31) (hdg : decode cc pc = .ok (.daload, 1))
    (kk : W p l e R s m args below meth c H locs cells slots Q (F0 m (pc + 1) ls (.double (f k) :: rest))) : W p l e R s m args below meth c H locs cells slots Q (F0 m pc ls (.int (nI k) :: .ref b :: rest)) :=
  va_dald hx hb hE.1 hP q0 3 ha rfl (vp_in_nI hk hn) hdg (by rw [nI_clamp (Nat.lt_trans hk hn)]; exact kk)
theorem gDast {cc : ByteArray} (hx : p.tables.exec = Jvm.exec) (hb : c.code = cc) (hE : gE g s) (hP : va_P g.1 vwCl ws H) (hD : va_D A0 ws) (hS : va_S A0 H0 H locs) (q0 : Nat) {b n k : Nat} {x : UInt64} {f : Nat → UInt64} (ha : ws[q0]? = some (b, .inl (g.2.1 3, n, .inr (.inr (.inr (.inl f)))))) (hk : k < n) (hn : n < 2 ^ 31) (hdg : decode cc pc = .ok (.dastore, 1)) (wsn : va_W) (hw : ws.set q0 (b, .inl (g.2.1 3, n, .inr (.inr (.inr (.inl (vf_upd f k x)))))) = wsn)
    (kk : ∀ (H1 : Heap) (locs1 : List Loc), va_P g.1 vwCl wsn H1 → va_D A0 wsn → va_S A0 H0 H1 locs1 → W p l e R s m args below meth c H1 locs1 cells slots Q (F0 m (pc + 1) ls rest)) : W p l e R s m args below meth c H locs cells slots Q (F0 m pc ls (.double x :: .int (nI k) :: .ref b :: rest)) :=
  va_dast hx hb hE.1 hP hD hS q0 3 ha rfl (vp_in_nI hk hn) hdg (fun H1 locs1 h1 h2 h3 => by rw [nI_clamp (Nat.lt_trans hk hn), hw] at h1 h2; exact kk H1 locs1 h1 h2 h3)
/-- the number on top, told otherwise -/
theorem lv_tope {x y : Int32} (h : x = y) (kk : W p l e R s m args below meth c H locs cells slots Q (F0 m pc ls (.int y :: rest))) : W p l e R s m args below meth c H locs cells slots Q (F0 m pc ls (.int x :: rest)) := by rw [h]; exact kk
theorem lv_topeL {x y : Int64} (h : x = y) (kk : W p l e R s m args below meth c H locs cells slots Q (F0 m pc ls (.long y :: rest))) : W p l e R s m args below meth c H locs cells slots Q (F0 m pc ls (.long x :: rest)) := by rw [h]; exact kk
end Calls
-- throwing
abbrev xIAE : String := "java/lang/IllegalArgumentException"
abbrev xIOB : String := "java/lang/IndexOutOfBoundsException"
abbrev xISE : String := "java/lang/IllegalStateException"
abbrev xUp : List String := ["java/lang/RuntimeException", "java/lang/Exception"]
def xB (E : String) : List Cond := [.castable E E, .declares (Bundle.initS "java/lang/RuntimeException"), .declares (Bundle.initS "java/lang/Exception"), .declares (Bundle.initS Bundle.tN)]
theorem xB_IAE : ∀ w ∈ (vx_atS RX3 184 xIAE xUp).filter (fun w => !goodWord w), w ∈ xB xIAE := by decide +kernel
theorem xB_IOB : ∀ w ∈ (vx_atS RX3 177 xIOB xUp).filter (fun w => !goodWord w), w ∈ xB xIOB := by decide +kernel
theorem xB_ISE : ∀ w ∈ (vx_atS RX3 127 xISE xUp).filter (fun w => !goodWord w), w ∈ xB xISE := by decide +kernel
theorem xG_IAE : ∀ w ∈ Cond.classLink RX3 180 xIAE :: Cond.initialized xIAE :: vx_atS RX3 184 xIAE xUp, vx_ot w = true := by decide +kernel
theorem xG_IOB : ∀ w ∈ Cond.classLink RX3 173 xIOB :: Cond.initialized xIOB :: vx_atS RX3 177 xIOB xUp, vx_ot w = true := by decide +kernel
theorem xG_ISE : ∀ w ∈ Cond.classLink RX3 123 xISE :: Cond.initialized xISE :: vx_atS RX3 127 xISE xUp, vx_ot w = true := by decide +kernel
theorem xF_IAE : Bundle.fit xIAE = true := by decide +kernel
theorem xF_IOB : Bundle.fit xIOB = true := by decide +kernel
theorem xF_ISE : Bundle.fit xISE = true := by decide +kernel
theorem xF_up : ∀ n ∈ xUp, Bundle.fit n = true := by decide +kernel
theorem xBw_IAE {g : GT} {s : State} {args : Array Value} (h : gE g s) : ∀ w ∈ xB xIAE, w.before args s = true := by
  obtain ⟨-, -, ⟨h4, h5, h6⟩, ⟨h7, h8, h9⟩, -⟩ := h
  exact vx_c (va_Nw.use rfl h7) (vx_c (va_Nw.use rfl h4) (vx_c (va_Nw.use rfl h5) (vx_c (va_Nw.use rfl h6) vx_n)))
theorem xBw_IOB {g : GT} {s : State} {args : Array Value} (h : gE g s) : ∀ w ∈ xB xIOB, w.before args s = true := by
  obtain ⟨-, -, ⟨h4, h5, h6⟩, ⟨h7, h8, h9⟩, -⟩ := h
  exact vx_c (va_Nw.use rfl h8) (vx_c (va_Nw.use rfl h4) (vx_c (va_Nw.use rfl h5) (vx_c (va_Nw.use rfl h6) vx_n)))
theorem xBw_ISE {g : GT} {s : State} {args : Array Value} (h : gE g s) : ∀ w ∈ xB xISE, w.before args s = true := by
  obtain ⟨-, -, ⟨h4, h5, h6⟩, ⟨h7, h8, h9⟩, -⟩ := h
  exact vx_c (va_Nw.use rfl h9) (vx_c (va_Nw.use rfl h4) (vx_c (va_Nw.use rfl h5) (vx_c (va_Nw.use rfl h6) vx_n)))
