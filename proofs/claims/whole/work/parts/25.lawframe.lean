/-! THE LAW'S HELPERS: methods that catch; calls of them -/
def nE (U : State) : Prop := va_Nc xIAE xIOB U ∧ va_Nc xISE xIAE U
theorem nE.moved {u U : State} (hvm : u.vm.Alike U.vm) (h : nE u) : nE U := ⟨va_Nc.moved hvm h.1, va_Nc.moved hvm h.2⟩
def cPl (g : GT) (av : List Value) (wd : va_W) : Array Value → State → Prop := va_Pc av (fun U => gE g U ∧ va_P g.1 vwCl wd U.heap ∧ va_D (fun _ => True) wd ∧ zE noA U U.heap ∧ nE U)
theorem cPl_blind {g : GT} {av : List Value} {wd : va_W} : FrameBlind (cPl g av wd) := fun a U f mk h => ⟨h.1, gE_calling h.2.1, h.2.2.1, h.2.2.2.1, zE.moved (u := U) (U := U.calling f mk a) (Vm.Alike.refl U.vm) h.2.2.2.2.1, nE.moved (u := U) (U := U.calling f mk a) (Vm.Alike.refl U.vm) h.2.2.2.2.2⟩
abbrev cLi {S : Type} (k ks : Nat) (l : Launch) (g : GT) (y : MethodName) (ws : List Cond) (rm : Room) (av : List Value) (wd : va_W) (post : Int32 → S → Prop) (wd' : S → va_W) : Prop := Met l y ws rm (cPl g av wd) (va_Qi post (fun u t => va_P g.1 vwCl (wd' u) t.heap) (va_Ad wd)) k ks (va_Ad wd)
theorem enL {l : Launch} {y : MethodName} {ws ws' : List Cond} {rm : Room} {g : GT} {av : List Value} {wd : va_W} {Qc : Array Value → State → Outcome → State → Prop} {mc ms : Nat} {free : Addr → Prop} {cc : ByteArray} {maxL : Nat} {ret : Option FieldType} {lv : List (Nat × Value)} {hh : List (Nat × Nat × Nat × Nat)}
    (hy : plainName y.cls = true) (hw : ws = Cond.codeWith y cc maxL ret hh :: ws') (hn : (lg_sl av).length ≤ maxL) (hlv : lv_args 0 av = lv)
    (body : ∀ (p : Program) (e : Env) (s : State) (m : MethodId) (below : List Frame) (meth : Method) (c : Code) (ls : Array Slot), p.tables.exec = Jvm.exec → c.code = cc → meth.sig.returnType = ret → c.maxLocals = maxL → s.vm.findClass y.cls = some m.cls → (∀ w ∈ ws, w.before av.toArray s = true) → meth.locks = false → gE g s → va_P g.1 vwCl wd s.heap → va_D (va_Ad wd) wd → zE noA s s.heap → nE s → c.exceptionTable.toList = tableOf hh → lv_has ls maxL lv →
      W p l e rm s m av.toArray below meth c s.heap [] 0 0 (MQ below Qc av.toArray s mc ms free) (F0 m 0 ls [])) : Met l y ws rm (cPl g av wd) Qc mc ms free := by
  refine va_MetW (hh := hh) (cc := cc) (maxL := maxL) (ret := ret) hy hw ?_
  intro p e s m args below meth c s₁ B hml hv
  obtain ⟨rfl, hE, hP, hD, hZ, hN⟩ := hv
  rw [lg_entry_eq]
  have hts := atoms_spec (ws := ws) B.pre
  exact body p e s m below meth c _ B.exec B.bytes B.returns hml (findClass_of_methodNamed B.named) hts B.notSynchronized hE hP (va_Ad_D hD) hZ hN (vx_table (x := y) B (hts _ (by rw [hw]; exact List.mem_cons_self))) (hlv ▸ lv_entry av hn)
section Caught
variable {p : Program} {l : Launch} {e : Env} {R : Room} {s : State} {m : MethodId} {args : Array Value} {below : List Frame} {meth : Method} {c : Code} {H : Heap} {locs : List Loc} {cells slots : Nat} {Q : State → Prop}
variable {g : GT} {A0 : Nat → Prop} {H0 : Heap} {a : Array Value} {pc : Nat} {ls : Array Slot} {st0 rest : List Value} {ws wc : va_W}
theorem kCU {S : Type} {post : Int32 → S → Prop} {wd' : S → va_W} {px : String → Prop} {k kk0 : Nat} (wsn : S → va_W) (hr : vx_Run p l e R s m args below meth c H locs cells slots k kk0 (F0 m pc ls st0) rest (va_Qi post (fun u t => va_P g.1 vwCl (wd' u) t.heap) (va_Ad wc) a) (xX px) (va_Ad wc)) (hP : va_P g.1 vwCl ws H) (hD : va_D A0 ws) (hS : va_S A0 H0 H locs) (is isR : List Nat) (n : Nat) (al : List Nat) (wr : va_W) (hC : is.map (fun i => ws[i]?) = wc.map some) (hR : isR.map (fun i => ws[i]?) = wr.map some) (hA : ws.map (·.1) = al) (hA2 : ∀ u, (wsn u).map (·.1) = al) (h2 : ∀ u, is.map (fun i => (wsn u)[i]?) = (wd' u).map some) (h3 : ∀ u, isR.map (fun i => (wsn u)[i]?) = wr.map some) (hn : al.length = n) (htwo : va_two is isR n = true)
    (kx : ∀ (E : String) (ce : Cell) (q9 : Addr) (H1 : Heap) (locs1 : List Loc), px E → va_P g.1 vwCl ws H1 → va_S A0 H0 H1 locs1 → H1[q9]? = some ce → ce.vm = .none → s.vm.findClass E = some ce.cls → vx_W p l e R s m args below meth c H1 locs1 (cells + k) (slots + kk0) Q (F0 m pc ls rest) q9)
    (kk : ∀ (r : Int32) (u : S) (H1 : Heap) (locs1 : List Loc), post r u → va_P g.1 vwCl (wsn u) H1 → va_D A0 (wsn u) → va_S A0 H0 H1 locs1 → W p l e R s m args below meth c H1 locs1 (cells + k) (slots + kk0) Q (F0 m (pc + 3) ls (.int r :: rest))) : W p l e R s m args below meth c H locs cells slots Q (F0 m pc ls st0) :=
  vx_calli hr hS (fun q _ h => va_Ad_sub hD hC q h) (va_Ad_sub hD hC) (fun _ _ h => h.elim)
    (fun E ce q9 _ t H1 locs1 _ _ _ hpx _ hk hS1 hce hv hcl => kx E ce q9 H1 locs1 hpx (hP.kept (fun k q hq => hk q.1 (hP k q hq).lt (fun h => h))) hS1 hce hv hcl)
    (fun r u t H1 locs1 ht _ hp hB _ hk hS1 => by
      rw [ht] at hB
      obtain ⟨h1, h2⟩ := va_saP hP hD is isR n hC hR hA (hA2 u) (h2 u) (h3 u) hn htwo hk hB
      exact kk r u H1 locs1 hp h1 h2 hS1)
theorem kCi {post : Int32 → Prop} {px : String → Prop} {k kk0 : Nat} (hr : vx_Run p l e R s m args below meth c H locs cells slots k kk0 (F0 m pc ls st0) rest (va_Qi (fun r (_ : Unit) => post r) noB noA a) (xX px) noA) (hP : va_P g.1 vwCl ws H) (hS : va_S A0 H0 H locs)
    (kx : ∀ (E : String) (ce : Cell) (q9 : Addr) (H1 : Heap) (locs1 : List Loc), px E → va_P g.1 vwCl ws H1 → va_S A0 H0 H1 locs1 → H1[q9]? = some ce → ce.vm = .none → s.vm.findClass E = some ce.cls → vx_W p l e R s m args below meth c H1 locs1 (cells + k) (slots + kk0) Q (F0 m pc ls rest) q9)
    (kk : ∀ (r : Int32) (H1 : Heap) (locs1 : List Loc), post r → va_P g.1 vwCl ws H1 → va_S A0 H0 H1 locs1 → W p l e R s m args below meth c H1 locs1 (cells + k) (slots + kk0) Q (F0 m (pc + 3) ls (.int r :: rest))) : W p l e R s m args below meth c H locs cells slots Q (F0 m pc ls st0) :=
  vx_calli hr hS (fun _ _ h => h.elim) (fun _ h => h.elim) (fun _ _ h => h.elim)
    (fun E ce q9 _ t H1 locs1 _ _ _ hpx _ hk hS1 hce hv hcl => kx E ce q9 H1 locs1 hpx (hP.kept (fun k q hq => hk q.1 (hP k q hq).lt (fun h => h))) hS1 hce hv hcl)
    (fun r _ t H1 locs1 ht _ hp _ _ hk hS1 => kk r H1 locs1 hp (hP.kept (fun k q hq => hk q.1 (hP k q hq).lt (fun h => h))) hS1)
theorem kCd {post : UInt64 → Prop} {px : String → Prop} {k kk0 : Nat} (hr : vx_Run p l e R s m args below meth c H locs cells slots k kk0 (F0 m pc ls st0) rest (va_Qd (fun r (_ : Unit) => post r) noB noA a) (xX px) noA) (hP : va_P g.1 vwCl ws H) (hS : va_S A0 H0 H locs)
    (kx : ∀ (E : String) (ce : Cell) (q9 : Addr) (H1 : Heap) (locs1 : List Loc), px E → va_P g.1 vwCl ws H1 → va_S A0 H0 H1 locs1 → H1[q9]? = some ce → ce.vm = .none → s.vm.findClass E = some ce.cls → vx_W p l e R s m args below meth c H1 locs1 (cells + k) (slots + kk0) Q (F0 m pc ls rest) q9)
    (kk : ∀ (r : UInt64) (H1 : Heap) (locs1 : List Loc), post r → va_P g.1 vwCl ws H1 → va_S A0 H0 H1 locs1 → W p l e R s m args below meth c H1 locs1 (cells + k) (slots + kk0) Q (F0 m (pc + 3) ls (.double r :: rest))) : W p l e R s m args below meth c H locs cells slots Q (F0 m pc ls st0) :=
  vx_calld hr hS (fun _ _ h => h.elim) (fun _ h => h.elim) (fun _ _ h => h.elim)
    (fun E ce q9 _ t H1 locs1 _ _ _ hpx _ hk hS1 hce hv hcl => kx E ce q9 H1 locs1 hpx (hP.kept (fun k q hq => hk q.1 (hP k q hq).lt (fun h => h))) hS1 hce hv hcl)
    (fun r _ t H1 locs1 ht _ hp _ _ hk hS1 => kk r H1 locs1 hp (hP.kept (fun k q hq => hk q.1 (hP k q hq).lt (fun h => h))) hS1)
-- behind a call of a helper
theorem kLi {S : Type} {post : Int32 → S → Prop} {wd' : S → va_W} {mc ms : Nat} (wsn : S → va_W) (hr : va_Run p l e R s m args below meth c H locs cells slots mc ms (F0 m pc ls st0) rest (va_Qi post (fun u t => va_P g.1 vwCl (wd' u) t.heap) (va_Ad wc) a) (va_Ad wc)) (hP : va_P g.1 vwCl ws H) (hD : va_D A0 ws) (hS : va_S A0 H0 H locs) (is isR : List Nat) (n : Nat) (al : List Nat) (wr : va_W) (hC : is.map (fun i => ws[i]?) = wc.map some) (hR : isR.map (fun i => ws[i]?) = wr.map some) (hA : ws.map (·.1) = al) (hA2 : ∀ u, (wsn u).map (·.1) = al) (h2 : ∀ u, is.map (fun i => (wsn u)[i]?) = (wd' u).map some) (h3 : ∀ u, isR.map (fun i => (wsn u)[i]?) = wr.map some) (hn : al.length = n) (htwo : va_two is isR n = true)
    (kk : ∀ (r : Int32) (u : S) (H1 : Heap) (locs1 : List Loc), post r u → va_P g.1 vwCl (wsn u) H1 → va_D A0 (wsn u) → va_S A0 H0 H1 locs1 → W p l e R s m args below meth c H1 locs1 (cells + mc) (slots + ms) Q (F0 m (pc + 3) ls (.int r :: rest))) : W p l e R s m args below meth c H locs cells slots Q (F0 m pc ls st0) :=
  va_calli hr hS (fun q _ h => va_Ad_sub hD hC q h) (va_Ad_sub hD hC) (fun r u t H1 locs1 ht _ hp hB _ hk hS1 => by
    rw [ht] at hB
    obtain ⟨h1, h2⟩ := va_saP hP hD is isR n hC hR hA (hA2 u) (h2 u) (h3 u) hn htwo hk hB
    exact kk r u H1 locs1 hp h1 h2 hS1)
theorem preL {As : List Value} (hE : gE g s) (hZ : zE noA s s.heap) (hN : nE s) (hS : va_S A0 s.heap H locs) (hA0 : ∀ q : Nat, q < s.heap.size → ¬ A0 q) (hP : va_P g.1 vwCl ws H) (hD : va_D A0 ws) (is : List Nat) (hn : va_nd is = true) (hC : is.map (fun i => ws[i]?) = wc.map some) : PreS s H (cPl g As wc) As :=
  ⟨cPl_blind, fun U hU hW => ⟨rfl, hE.moved hW, by rw [hU]; exact hP.sub is (fm_of_map hC), (hD.sub is hn hC).weaken (fun _ _ _ _ => trivial), by rw [hU]; exact zE.moved hW.alike (hZ.kept (fun q h1 _ => hS.2.1 q h1 (hA0 q h1))), nE.moved hW.alike hN⟩⟩
end Caught
