/-! MAKING: contracts of constructors, rows of new cells -/
def cPn (g : GT) (av : List Value) (wd : va_W) (sz : Nat) : Array Value → State → Prop := va_Pc av (fun U => U.heap.size = sz ∧ gE g U ∧ va_AO "HalfTables$State" U ∧ va_P g.1 vwCl wd U.heap ∧ va_D (fun _ => True) wd)
theorem cPn_blind {g : GT} {av : List Value} {wd : va_W} {sz : Nat} : FrameBlind (cPn g av wd sz) := fun a U f mk h => ⟨h.1, h.2.1, gE_calling h.2.2.1, va_AO.moved (u := U) (U := U.calling f mk a) (Vm.Alike.refl U.vm) h.2.2.2.1, h.2.2.2.2⟩
abbrev cNv {S : Type} (k ks : Nat) (l : Launch) (g : GT) (y : MethodName) (ws : List Cond) (rm : Room) (av : List Value) (wd : va_W) (sz : Nat) (wd' : S → va_W) : Prop := Met l y ws rm (cPn g av wd sz) (va_Qv (fun (_ : S) => True) (fun u t => va_P g.1 vwCl (wd' u) t.heap ∧ va_D (va_A wd sz) (wd' u)) (va_A wd sz)) k ks (va_A wd sz)
theorem enN {l : Launch} {y : MethodName} {ws ws' : List Cond} {rm : Room} {g : GT} {av : List Value} {wd : va_W} {sz : Nat} {Qc : Array Value → State → Outcome → State → Prop} {mc ms : Nat} {free : Addr → Prop} {cc : ByteArray} {maxL : Nat} {ret : Option FieldType} {lv : List (Nat × Value)}
    (hy : plainName y.cls = true) (hw : ws = Cond.code y cc maxL ret :: ws') (hn : (lg_sl av).length ≤ maxL) (hlv : lv_args 0 av = lv) (hi : y.name = "<init>")
    (body : ∀ (p : Program) (e : Env) (s : State) (m : MethodId) (below : List Frame) (meth : Method) (c : Code) (ls : Array Slot), p.tables.exec = Jvm.exec → c.code = cc → meth.sig.returnType = ret → c.maxLocals = maxL → s.vm.findClass y.cls = some m.cls → (∀ w ∈ ws, w.before av.toArray s = true) → meth.locks = false → meth.name = "<init>" → gE g s → va_AO "HalfTables$State" s → va_P g.1 vwCl wd s.heap → va_D (va_A wd sz) wd → (∀ q : Nat, s.heap.size ≤ q → va_A wd sz q) → lv_has ls maxL lv →
      W p l e rm s m av.toArray below meth c s.heap [] 0 0 (MQ below Qc av.toArray s mc ms free) (F0 m 0 ls [])) : Met l y ws rm (cPn g av wd sz) Qc mc ms free := by
  refine Met.ofW (cc := cc) (maxL := maxL) (ret := ret) hy hw ?_
  intro p e s m args below meth c s₁ B hml hv
  obtain ⟨rfl, hsz, hE, hO, hP, hD⟩ := hv
  rw [lg_entry_eq]
  have hnm : meth.name = y.name := (name_of_methodNamed B.named B.method).1
  exact body p e s m below meth c _ B.exec B.bytes B.returns hml (findClass_of_methodNamed B.named) (atoms_spec (ws := ws) B.pre) B.notSynchronized (hnm.trans hi) hE hO hP hD.self (fun q h => Or.inr (hsz ▸ h)) (hlv ▸ lv_entry av hn)
theorem vp_cell_congrQ {cA : ClassId} {n : Nat} {f f' : Nat → Option Nat} (h : ∀ k, k < n → f k = f' k) : vp_cell cA (n, .inr (.inr (.inr (.inr f)))) = vp_cell cA (n, .inr (.inr (.inr (.inr f')))) := by
  rw [vp_cell_q, vp_cell_q]
  unfold arrV
  congr 1
  congr 1
  funext j
  exact congrArg _ (h j.val j.isLt)
theorem va_tellQ {D : va_G} {cl : List vw_C} {ws wsn : va_W} {H : Heap} (hP : va_P D cl ws H) (q0 : Nat) {b n : Nat} {cA : ClassId} {f f' : Nat → Option Nat} (h0 : ws[q0]? = some (b, .inl (cA, n, .inr (.inr (.inr (.inr f)))))) (hf : ∀ k, k < n → f k = f' k) (hw : ws.set q0 (b, .inl (cA, n, .inr (.inr (.inr (.inr f'))))) = wsn) : va_P D cl wsn H :=
  va_setP hP q0 _ (by have h1 := hP q0 _ h0; show H[b]? = some (vp_cell cA (n, .inr (.inr (.inr (.inr f'))))); rw [← vp_cell_congrQ hf]; exact h1) hw
section Makes
variable {p : Program} {l : Launch} {e : Env} {R : Room} {s : State} {m : MethodId} {args : Array Value} {below : List Frame} {meth : Method} {c : Code} {H : Heap} {locs : List Loc} {cells slots : Nat} {Q : State → Prop}
variable {g : GT} {A0 : Nat → Prop} {H0 : Heap} {a : Array Value} {pc : Nat} {ls : Array Slot} {st0 rest : List Value} {ws wc : va_W}
theorem preI {av : List Value} (hE : gE g s) (hO : va_AO "HalfTables$State" s) (hP : va_P g.1 vwCl ws H) (hD : va_D A0 ws) (is : List Nat) (hn : va_nd is = true) (hC : is.map (fun i => ws[i]?) = wc.map some) : PreS s H (cPn g av wc H.size) av :=
  ⟨cPn_blind, fun U hU hW => ⟨rfl, by rw [hU], hE.moved hW, va_AO.moved hW.alike hO, by rw [hU]; exact hP.sub is (fm_of_map hC), (hD.sub is hn hC).weaken (fun _ _ _ _ => trivial)⟩⟩
theorem kNv {S : Type} {wd' : S → va_W} {mc ms : Nat} (hr : va_Run p l e R s m args below meth c H locs cells slots mc ms (F0 m pc ls st0) rest (va_Qv (fun (_ : S) => True) (fun u t => va_P g.1 vwCl (wd' u) t.heap ∧ va_D (va_A wc H.size) (wd' u)) (va_A wc H.size) a) (va_A wc H.size)) (hP : va_P g.1 vwCl ws H) (hD : va_D A0 ws) (hS : va_S A0 H0 H locs) (hA : ∀ q : Nat, H0.size ≤ q → A0 q) (is isR : List Nat) (wr : va_W) (hC : is.map (fun i => ws[i]?) = wc.map some) (hR : isR.map (fun i => ws[i]?) = wr.map some) (hn : va_nd isR = true) (hdis : ∀ i ∈ isR, i ∉ is)
    (kk : ∀ (u : S) (H1 : Heap) (locs1 : List Loc), va_P g.1 vwCl (wr ++ wd' u) H1 → va_D A0 (wr ++ wd' u) → va_S A0 H0 H1 locs1 → W p l e R s m args below meth c H1 locs1 (cells + mc) (slots + ms) Q (F0 m (pc + 3) ls rest)) : W p l e R s m args below meth c H locs cells slots Q (F0 m pc ls st0) :=
  va_callv hr hS (fun q _ h => va_free hD hS hA is hC q h) (va_free hD hS hA is hC) (fun u t H1 locs1 ht _ _ hB _ hk hS1 => by
    obtain ⟨hP1, hD1⟩ := hB
    rw [ht] at hP1
    obtain ⟨h1, h2⟩ := va_join hP hD is isR hC hR hn hdis hk (va_free hD hS hA is hC) hP1 hD1
    exact kk u H1 locs1 h1 h2 hS1)
theorem gNewI {cc : ByteArray} (hx : p.tables.exec = Jvm.exec) (hb : c.code = cc) (harr : (Cond.arrayClass .int).before args s = true) (hE : gE g s) (hP : va_P g.1 vwCl ws H) (hD : va_D A0 ws) (hS : va_S A0 H0 H locs) (hA : ∀ q : Nat, H0.size ≤ q → A0 q) {n : Int32} {N : Nat} (hn : n = nI N) (hN : N < 10000) (hc : cells + 1 ≤ R.cells) (hs : slots + N ≤ R.slots) (hdg : decode cc pc = .ok (.newarray .int, 2))
    (kk : ∀ (q : Nat) (H1 : Heap), va_P g.1 vwCl (ws ++ [(q, .inl (g.2.1 0, N, .inl (fun _ => 0)))]) H1 → va_D A0 (ws ++ [(q, .inl (g.2.1 0, N, .inl (fun _ => 0)))]) → va_S A0 H0 H1 locs → W p l e R s m args below meth c H1 locs (cells + 1) (slots + N) Q (F0 m (pc + 2) ls (.ref q :: rest))) : W p l e R s m args below meth c H locs cells slots Q (F0 m pc ls (.int n :: rest)) := by
  subst hn
  refine va_newa (atype := .int) (N' := N) (a0 := (N, .inl (fun _ => 0))) hx hb harr (ty := .int) rfl hE.1 hP hD hS hA (fun cA => rfl) (nI_pos (by omega)) (nI_clamp (by omega)) (by show N * 4 ≤ 536870912; omega) hc hs hdg (fun q cA H1 hK1 hP1 hD1 hS1 => ?_)
  have hcA := gT_one hK1 (t0 := 0) rfl (fun C h => by cases h)
  subst hcA
  exact kk q H1 hP1 hD1 hS1
theorem gNewJ {cc : ByteArray} (hx : p.tables.exec = Jvm.exec) (hb : c.code = cc) (harr : (Cond.arrayClass .long).before args s = true) (hE : gE g s) (hP : va_P g.1 vwCl ws H) (hD : va_D A0 ws) (hS : va_S A0 H0 H locs) (hA : ∀ q : Nat, H0.size ≤ q → A0 q) {n : Int32} {N : Nat} (hn : n = nI N) (hN : N < 10000) (hc : cells + 1 ≤ R.cells) (hs : slots + N ≤ R.slots) (hdg : decode cc pc = .ok (.newarray .long, 2))
    (kk : ∀ (q : Nat) (H1 : Heap), va_P g.1 vwCl (ws ++ [(q, .inl (g.2.1 1, N, .inr (.inl (fun _ => 0))))]) H1 → va_D A0 (ws ++ [(q, .inl (g.2.1 1, N, .inr (.inl (fun _ => 0))))]) → va_S A0 H0 H1 locs → W p l e R s m args below meth c H1 locs (cells + 1) (slots + N) Q (F0 m (pc + 2) ls (.ref q :: rest))) : W p l e R s m args below meth c H locs cells slots Q (F0 m pc ls (.int n :: rest)) := by
  subst hn
  refine va_newa (atype := .long) (N' := N) (a0 := (N, .inr (.inl (fun _ => 0)))) hx hb harr (ty := .long) rfl hE.1 hP hD hS hA (fun cA => rfl) (nI_pos (by omega)) (nI_clamp (by omega)) (by show N * 8 ≤ 536870912; omega) hc hs hdg (fun q cA H1 hK1 hP1 hD1 hS1 => ?_)
  have hcA := gT_one hK1 (t0 := 1) rfl (fun C h => by cases h)
  subst hcA
  exact kk q H1 hP1 hD1 hS1
theorem gNewD {cc : ByteArray} (hx : p.tables.exec = Jvm.exec) (hb : c.code = cc) (harr : (Cond.arrayClass .double).before args s = true) (hE : gE g s) (hP : va_P g.1 vwCl ws H) (hD : va_D A0 ws) (hS : va_S A0 H0 H locs) (hA : ∀ q : Nat, H0.size ≤ q → A0 q) {n : Int32} {N : Nat} (hn : n = nI N) (hN : N < 10000) (hc : cells + 1 ≤ R.cells) (hs : slots + N ≤ R.slots) (hdg : decode cc pc = .ok (.newarray .double, 2))
    (kk : ∀ (q : Nat) (H1 : Heap), va_P g.1 vwCl (ws ++ [(q, .inl (g.2.1 3, N, .inr (.inr (.inr (.inl (fun _ => 0))))))]) H1 → va_D A0 (ws ++ [(q, .inl (g.2.1 3, N, .inr (.inr (.inr (.inl (fun _ => 0))))))]) → va_S A0 H0 H1 locs → W p l e R s m args below meth c H1 locs (cells + 1) (slots + N) Q (F0 m (pc + 2) ls (.ref q :: rest))) : W p l e R s m args below meth c H locs cells slots Q (F0 m pc ls (.int n :: rest)) := by
  subst hn
  refine va_newa (atype := .double) (N' := N) (a0 := (N, .inr (.inr (.inr (.inl (fun _ => 0)))))) hx hb harr (ty := .double) rfl hE.1 hP hD hS hA (fun cA => rfl) (nI_pos (by omega)) (nI_clamp (by omega)) (by show N * 8 ≤ 536870912; omega) hc hs hdg (fun q cA H1 hK1 hP1 hD1 hS1 => ?_)
  have hcA := gT_one hK1 (t0 := 3) rfl (fun C h => by cases h)
  subst hcA
  exact kk q H1 hP1 hD1 hS1
theorem gNewR {cc : ByteArray} (hx : p.tables.exec = Jvm.exec) (hb : c.code = cc) {own : String} {index : Nat} (hown : s.vm.findClass own = some m.cls) (hcl : (Cond.classLink own index "HalfTables$State").before args s = true) (hO : va_AO "HalfTables$State" s) (hE : gE g s) (hP : va_P g.1 vwCl ws H) (hD : va_D A0 ws) (hS : va_S A0 H0 H locs) (hA : ∀ q : Nat, H0.size ≤ q → A0 q) {n : Int32} {N : Nat} (hn : n = nI N) (hN : N < 10000) (hc : cells + 1 ≤ R.cells) (hs : slots + N ≤ R.slots) (hdg : decode cc pc = .ok (.anewarray index, 3))
    (kk : ∀ (q : Nat) (H1 : Heap), va_P g.1 vwCl (ws ++ [(q, .inl (g.2.1 2, N, .inr (.inr (.inr (.inr (fun _ => none))))))]) H1 → va_D A0 (ws ++ [(q, .inl (g.2.1 2, N, .inr (.inr (.inr (.inr (fun _ => none))))))]) → va_S A0 H0 H1 locs → W p l e R s m args below meth c H1 locs (cells + 1) (slots + N) Q (F0 m (pc + 3) ls (.ref q :: rest))) : W p l e R s m args below meth c H locs cells slots Q (F0 m pc ls (.int n :: rest)) := by
  subst hn
  refine va_newq (N' := N) hx hb hown hcl hO hE.1 hP hD hS hA (nI_pos (by omega)) (nI_clamp (by omega)) (by omega) hc hs hdg (fun q cA H1 hK1 hP1 hD1 hS1 => ?_)
  have hcA := gT_oneO hK1
  subst hcA
  exact kk q H1 hP1 hD1 hS1
theorem gAast {cc : ByteArray} (hx : p.tables.exec = Jvm.exec) (hb : c.code = cc) (hE : gE g s) (hP : va_P g.1 vwCl ws H) (hD : va_D A0 ws) (hS : va_S A0 H0 H locs) (q0 qk : Nat) {b n v : Nat} {vs : List Value} {f : Nat → Option Nat} (ha : ws[q0]? = some (b, .inl (g.2.1 2, n, .inr (.inr (.inr (.inr f)))))) (hv : ws[qk]? = some (v, .inr (2, vs))) {i : Int32} {k : Nat} (hi : i = nI k) (hk : k < n) (hn : n < 2 ^ 31) (hdg : decode cc pc = .ok (.aastore, 1)) (wsn : va_W) (hw : ws.set q0 (b, .inl (g.2.1 2, n, .inr (.inr (.inr (.inr (va_up f k (some v))))))) = wsn)
    (kk : ∀ (H1 : Heap) (locs1 : List Loc), va_P g.1 vwCl wsn H1 → va_D A0 wsn → va_S A0 H0 H1 locs1 → W p l e R s m args below meth c H1 locs1 cells slots Q (F0 m (pc + 1) ls rest)) : W p l e R s m args below meth c H locs cells slots Q (F0 m pc ls (.ref v :: .int i :: .ref b :: rest)) := by
  subst hi
  have hc : (nI k).toNatClampNeg = k := nI_clamp (Nat.lt_trans hk hn)
  refine va_astq hx hb hE.1 hP hD hS q0 2 qk 2 ha rfl hv rfl (vp_in_nI hk hn) hdg (fun H1 locs1 h1 h2 h3 => ?_)
  rw [hc, hw] at h1 h2
  exact kk H1 locs1 h1 h2 h3
end Makes
def fc0 : Nat → Int32 := upd (upd (upd (fun _ => 0) 0 4) 1 2) 2 1
