/-! FRAME: what every contract here speaks of. GT: the tables' numbers (classes, slots; the array classes of int, long, State, double; the addresses of the texts of exceptions) -/
abbrev GT : Type := va_G × (Nat → ClassId) × (Nat → Nat)
abbrev gT (g : GT) : List (ClassId × FieldType) := [(g.2.1 0, .int), (g.2.1 1, .long), (g.2.1 2, .object "HalfTables$State"), (g.2.1 3, .double)]
/-- what is so of the tables in every state of the run -/
def gE (g : GT) (U : State) : Prop :=
  va_K g.1 vwCl (gT g) U ∧ (va_Nw (.methodLinkNest RX2 37 yX3_trueValue RX3) U ∧ va_Nw (.methodLinkNest RX2 61 yX3_parity RX3) U) ∧
  (va_Nw (.declares (Bundle.initS "java/lang/RuntimeException")) U ∧ va_Nw (.declares (Bundle.initS "java/lang/Exception")) U ∧ va_Nw (.declares (Bundle.initS Bundle.tN)) U) ∧
  (va_Nw (.castable "java/lang/IllegalArgumentException" "java/lang/IllegalArgumentException") U ∧ va_Nw (.castable "java/lang/IndexOutOfBoundsException" "java/lang/IndexOutOfBoundsException") U ∧ va_Nw (.castable "java/lang/IllegalStateException" "java/lang/IllegalStateException") U) ∧
  (vk_R RX3 125 "the text is full" (g.2.2 0) U ∧ vk_R RX3 158 "there is no saved state" (g.2.2 1) U ∧ vk_R RX3 175 "there is no such entry" (g.2.2 2) U ∧ vk_R RX3 178 "there is no such register" (g.2.2 3) U ∧ vk_R RX3 182 "an argument is out of range" (g.2.2 4) U)
theorem gE.moved {g : GT} {s U : State} (hW : s.WarmedH U.vm) (h : gE g s) : gE g U := by
  obtain ⟨h1, ⟨h2, h3⟩, ⟨h4, h5, h6⟩, ⟨h7, h8, h9⟩, h10, h11, h12, h13, h14⟩ := h
  exact ⟨va_K.moved hW.alike h1, ⟨va_Nw.warmM hW h2, va_Nw.warmM hW h3⟩, ⟨va_Nw.warmD hW h4, va_Nw.warmD hW h5, va_Nw.warmD hW h6⟩, ⟨va_Nw.warmC hW h7, va_Nw.warmC hW h8, va_Nw.warmC hW h9⟩, vk_R.warm hW h10, vk_R.warm hW h11, vk_R.warm hW h12, vk_R.warm hW h13, vk_R.warm hW h14⟩
/-- the two statics of Throwable's, out of A -/
def zE (A : Nat → Prop) (U : State) (H : Heap) : Prop := vx_Zq Bundle.tN "UNASSIGNED_STACK" Bundle.steD A U H ∧ vx_Zq Bundle.tN "SUPPRESSED_SENTINEL" Bundle.listD A U H
abbrev noA : Nat → Prop := fun _ => False
abbrev noB : Unit → State → Prop := fun _ _ => True
theorem zE.moved {A : Nat → Prop} {u U : State} {H : Heap} (hvm : u.vm.Alike U.vm) (h : zE A u H) : zE A U H := ⟨vx_Zq.moved hvm h.1, vx_Zq.moved hvm h.2⟩
theorem zE.kept {A : Nat → Prop} {U : State} {H H1 : Heap} (h : zE A U H) (hq : ∀ a : Nat, a < H.size → ¬ A a → H1[a]? = H[a]?) : zE A U H1 := ⟨vx_Zq.kept h.1 hq, vx_Zq.kept h.2 hq⟩
theorem zE.narrow {A B : Nat → Prop} {U : State} {H : Heap} (h : zE A U H) (hAB : ∀ q, B q → A q) : zE B U H := ⟨vx_Zq.narrow h.1 hAB, vx_Zq.narrow h.2 hAB⟩
/-- the cells of a world, by their addresses -/
def va_Ad (wd : va_W) : Nat → Prop := fun q => ∃ (k : Nat) (e : va_E), wd[k]? = some (q, e)
theorem va_Ad_D {wd : va_W} {A : Nat → Prop} (h : va_D A wd) : va_D (va_Ad wd) wd := h.weaken (fun k q hk _ => ⟨k, q.2, hk⟩)
theorem va_Smono {A B : Nat → Prop} {H0 H : Heap} {locs : List Loc} (h : va_S A H0 H locs) (hAB : ∀ q, A q → B q) : va_S B H0 H locs := ⟨h.1, fun q h1 h2 => h.2.1 q h1 (fun h3 => h2 (hAB q h3)), fun l hl => hAB _ (h.2.2 l hl)⟩
theorem va_Sno {B : Nat → Prop} {H0 H : Heap} {locs : List Loc} (h : va_S noA H0 H locs) : va_S B H0 H locs := va_Smono h (fun _ h => h.elim)
-- the starts of contracts: reading, writing, throwing
def cP (g : GT) (av : List Value) (wd : va_W) : Array Value → State → Prop := va_Pc av (fun U => gE g U ∧ va_P g.1 vwCl wd U.heap)
def cPd (g : GT) (av : List Value) (wd : va_W) : Array Value → State → Prop := va_Pc av (fun U => gE g U ∧ va_P g.1 vwCl wd U.heap ∧ va_D (fun _ => True) wd)
def cPx (g : GT) (av : List Value) (wd : va_W) : Array Value → State → Prop := va_Pc av (fun U => gE g U ∧ va_P g.1 vwCl wd U.heap ∧ va_D (fun _ => True) wd ∧ zE noA U U.heap)
theorem gE_calling {g : GT} {U : State} {f : JFrame} {mk : MethodId} {a : Array Value} (h : gE g U) : gE g (U.calling f mk a) := gE.moved (s := U) (U := U.calling f mk a) (State.WarmedH.refl U) h
theorem cP_blind {g : GT} {av : List Value} {wd : va_W} : FrameBlind (cP g av wd) := fun _ _ _ _ h => ⟨h.1, gE_calling h.2.1, h.2.2⟩
theorem cPd_blind {g : GT} {av : List Value} {wd : va_W} : FrameBlind (cPd g av wd) := fun _ _ _ _ h => ⟨h.1, gE_calling h.2.1, h.2.2⟩
theorem cPx_blind {g : GT} {av : List Value} {wd : va_W} : FrameBlind (cPx g av wd) := fun a U f mk h => ⟨h.1, gE_calling h.2.1, h.2.2.1, h.2.2.2.1, zE.moved (u := U) (U := U.calling f mk a) (Vm.Alike.refl U.vm) h.2.2.2.2⟩
-- contracts: R reads alone, U changes its cells (wd' says what they are then), X may throw ahead of any change
abbrev cRi (l : Launch) (g : GT) (y : MethodName) (ws : List Cond) (rm : Room) (av : List Value) (wd : va_W) (post : Int32 → Prop) : Prop := Met l y ws rm (cP g av wd) (va_Qi (fun r (_ : Unit) => post r) noB noA) 0 0 noA
abbrev cRl (l : Launch) (g : GT) (y : MethodName) (ws : List Cond) (rm : Room) (av : List Value) (wd : va_W) (post : Int64 → Prop) : Prop := Met l y ws rm (cP g av wd) (va_Ql (fun r (_ : Unit) => post r) noB noA) 0 0 noA
abbrev cUv {S : Type} (l : Launch) (g : GT) (y : MethodName) (ws : List Cond) (rm : Room) (av : List Value) (wd : va_W) (post : S → Prop) (wd' : S → va_W) : Prop := Met l y ws rm (cPd g av wd) (va_Qv post (fun u t => va_P g.1 vwCl (wd' u) t.heap) (va_Ad wd)) 0 0 (va_Ad wd)
abbrev cUi {S : Type} (l : Launch) (g : GT) (y : MethodName) (ws : List Cond) (rm : Room) (av : List Value) (wd : va_W) (post : Int32 → S → Prop) (wd' : S → va_W) : Prop := Met l y ws rm (cPd g av wd) (va_Qi post (fun u t => va_P g.1 vwCl (wd' u) t.heap) (va_Ad wd)) 0 0 (va_Ad wd)
abbrev cUl {S : Type} (l : Launch) (g : GT) (y : MethodName) (ws : List Cond) (rm : Room) (av : List Value) (wd : va_W) (post : Int64 → S → Prop) (wd' : S → va_W) : Prop := Met l y ws rm (cPd g av wd) (va_Ql post (fun u t => va_P g.1 vwCl (wd' u) t.heap) (va_Ad wd)) 0 0 (va_Ad wd)
abbrev cUd {S : Type} (l : Launch) (g : GT) (y : MethodName) (ws : List Cond) (rm : Room) (av : List Value) (wd : va_W) (post : UInt64 → S → Prop) (wd' : S → va_W) : Prop := Met l y ws rm (cPd g av wd) (va_Qd post (fun u t => va_P g.1 vwCl (wd' u) t.heap) (va_Ad wd)) 0 0 (va_Ad wd)
abbrev xX (px : String → Prop) : String → State → State → Prop := vx_X (fun (_ : Unit) => True) (fun E _ _ => px E) noA
abbrev cXv (k ks : Nat) (l : Launch) (g : GT) (y : MethodName) (ws : List Cond) (rm : Room) (av : List Value) (wd : va_W) (post : Prop) (px : String → Prop) : Prop := vx_Met l y ws rm (cPx g av wd) (va_Qv (fun (_ : Unit) => post) noB noA) (xX px) k ks noA
abbrev cXi (k ks : Nat) (l : Launch) (g : GT) (y : MethodName) (ws : List Cond) (rm : Room) (av : List Value) (wd : va_W) (post : Int32 → Prop) (px : String → Prop) : Prop := vx_Met l y ws rm (cPx g av wd) (va_Qi (fun r (_ : Unit) => post r) noB noA) (xX px) k ks noA
abbrev cXd (k ks : Nat) (l : Launch) (g : GT) (y : MethodName) (ws : List Cond) (rm : Room) (av : List Value) (wd : va_W) (post : UInt64 → Prop) (px : String → Prop) : Prop := vx_Met l y ws rm (cPx g av wd) (va_Qd (fun r (_ : Unit) => post r) noB noA) (xX px) k ks noA
abbrev cXUi {S : Type} (k ks : Nat) (l : Launch) (g : GT) (y : MethodName) (ws : List Cond) (rm : Room) (av : List Value) (wd : va_W) (post : Int32 → S → Prop) (wd' : S → va_W) (px : String → Prop) : Prop := vx_Met l y ws rm (cPx g av wd) (va_Qi post (fun u t => va_P g.1 vwCl (wd' u) t.heap) (va_Ad wd)) (xX px) k ks (va_Ad wd)
-- bodies, from their entry
theorem enR {l : Launch} {y : MethodName} {ws ws' : List Cond} {rm : Room} {g : GT} {av : List Value} {wd : va_W} {Qc : Array Value → State → Outcome → State → Prop} {mc ms : Nat} {free : Addr → Prop} {cc : ByteArray} {maxL : Nat} {ret : Option FieldType} {lv : List (Nat × Value)}
    (hy : plainName y.cls = true) (hw : ws = Cond.code y cc maxL ret :: ws') (hn : (lg_sl av).length ≤ maxL) (hlv : lv_args 0 av = lv)
    (body : ∀ (p : Program) (e : Env) (s : State) (m : MethodId) (below : List Frame) (meth : Method) (c : Code) (ls : Array Slot), p.tables.exec = Jvm.exec → c.code = cc → meth.sig.returnType = ret → c.maxLocals = maxL → s.vm.findClass y.cls = some m.cls → (∀ w ∈ ws, w.before av.toArray s = true) → meth.locks = false → gE g s → va_P g.1 vwCl wd s.heap → lv_has ls maxL lv →
      W p l e rm s m av.toArray below meth c s.heap [] 0 0 (MQ below Qc av.toArray s mc ms free) (F0 m 0 ls [])) : Met l y ws rm (cP g av wd) Qc mc ms free := by
  refine Met.ofW (cc := cc) (maxL := maxL) (ret := ret) hy hw ?_
  intro p e s m args below meth c s₁ B hml hv
  obtain ⟨rfl, hE, hP⟩ := hv
  rw [lg_entry_eq]
  exact body p e s m below meth c _ B.exec B.bytes B.returns hml (findClass_of_methodNamed B.named) (atoms_spec (ws := ws) B.pre) B.notSynchronized hE hP (hlv ▸ lv_entry av hn)
theorem enU {l : Launch} {y : MethodName} {ws ws' : List Cond} {rm : Room} {g : GT} {av : List Value} {wd : va_W} {Qc : Array Value → State → Outcome → State → Prop} {mc ms : Nat} {free : Addr → Prop} {cc : ByteArray} {maxL : Nat} {ret : Option FieldType} {lv : List (Nat × Value)}
    (hy : plainName y.cls = true) (hw : ws = Cond.code y cc maxL ret :: ws') (hn : (lg_sl av).length ≤ maxL) (hlv : lv_args 0 av = lv)
    (body : ∀ (p : Program) (e : Env) (s : State) (m : MethodId) (below : List Frame) (meth : Method) (c : Code) (ls : Array Slot), p.tables.exec = Jvm.exec → c.code = cc → meth.sig.returnType = ret → c.maxLocals = maxL → s.vm.findClass y.cls = some m.cls → (∀ w ∈ ws, w.before av.toArray s = true) → meth.locks = false → gE g s → va_P g.1 vwCl wd s.heap → va_D (va_Ad wd) wd → lv_has ls maxL lv →
      W p l e rm s m av.toArray below meth c s.heap [] 0 0 (MQ below Qc av.toArray s mc ms free) (F0 m 0 ls [])) : Met l y ws rm (cPd g av wd) Qc mc ms free := by
  refine Met.ofW (cc := cc) (maxL := maxL) (ret := ret) hy hw ?_
  intro p e s m args below meth c s₁ B hml hv
  obtain ⟨rfl, hE, hP, hD⟩ := hv
  rw [lg_entry_eq]
  exact body p e s m below meth c _ B.exec B.bytes B.returns hml (findClass_of_methodNamed B.named) (atoms_spec (ws := ws) B.pre) B.notSynchronized hE hP (va_Ad_D hD) (hlv ▸ lv_entry av hn)
theorem enX {l : Launch} {y : MethodName} {ws ws' : List Cond} {rm : Room} {g : GT} {av : List Value} {wd : va_W} {Qc : Array Value → State → Outcome → State → Prop} {XC : String → State → State → Prop} {mc ms : Nat} {free : Addr → Prop} {cc : ByteArray} {maxL : Nat} {ret : Option FieldType} {lv : List (Nat × Value)}
    (hy : plainName y.cls = true) (hw : ws = Cond.code y cc maxL ret :: ws') (hn : (lg_sl av).length ≤ maxL) (hlv : lv_args 0 av = lv)
    (body : ∀ (p : Program) (e : Env) (s : State) (m : MethodId) (below : List Frame) (meth : Method) (c : Code) (ls : Array Slot), p.tables.exec = Jvm.exec → c.code = cc → meth.sig.returnType = ret → c.maxLocals = maxL → s.vm.findClass y.cls = some m.cls → (∀ w ∈ ws, w.before av.toArray s = true) → meth.locks = false → gE g s → va_P g.1 vwCl wd s.heap → va_D (va_Ad wd) wd → zE noA s s.heap → (∀ x ∈ c.exceptionTable.toList, False) → lv_has ls maxL lv →
      W p l e rm s m av.toArray below meth c s.heap [] 0 0 (vx_MQ below Qc XC av.toArray s mc ms free) (F0 m 0 ls [])) : vx_Met l y ws rm (cPx g av wd) Qc XC mc ms free := by
  refine vx_ofW (cc := cc) (maxL := maxL) (ret := ret) hy hw ?_
  intro p e s m args below meth c s₁ B hml ht hv
  obtain ⟨rfl, hE, hP, hD, hZ⟩ := hv
  rw [lg_entry_eq]
  exact body p e s m below meth c _ B.exec B.bytes B.returns hml (findClass_of_methodNamed B.named) (atoms_spec (ws := ws) B.pre) B.notSynchronized hE hP (va_Ad_D hD) hZ ht (hlv ▸ lv_entry av hn)
