/-! THE LAW'S LOOP: what holds at its head; printed by wip/whole/gen/spec_walk.py -/
/-- the class's state and the reference's agree -/
abbrev LInv (w : Nat) (ac : Int64) (fc fs fr : Nat → Int32) (cnt nx : Nat) (sw : Nat → Nat) (sa : Nat → Int64) (sc ss sr : Nat → Nat → Int32) (len : Nat) (u : PSt) (ma : Int64) (rw pst : Nat → Int32) (pa : Nat → Int64) : Prop :=
  StRel w ac fc fs fr rw ma ∧ HRel cnt nx sw sa sc ss sr pst pa ∧ cnt ≤ 4 ∧ nx < 4 ∧ len ≤ 100 ∧ uDg u ≤ 3
theorem kc_le {cnt : Nat} : kcF cnt ≤ 4 := by unfold kcF; split <;> omega
theorem nn_lt {nx : Nat} : nnF nx < 4 := by unfold nnF; omega
theorem pn_lt {nx : Nat} : pnF nx < 4 := by unfold pnF; omega
/-- what is so all along the law -/
def LF (p : Program) (l : Launch) (s : State) (m : MethodId) (args : Array Value) (c : Code) (b L : Nat) (xs : Nat → Int32) (g : GT) : Prop :=
  p.tables.exec = Jvm.exec ∧ c.code = code ∧ c.maxLocals = 9 ∧ s.vm.findClass RL = some m.cls ∧ (∀ w ∈ wsL_law, w.before args s = true) ∧ l.stackTraces = false ∧ gE g s ∧ zE noA s s.heap ∧ nE s ∧ va_X b L xs s s.heap ∧ b < s.heap.size ∧ L ≤ 3072
/-- the law goes on from its loop's head -/
def LG (p : Program) (l : Launch) (e : Env) (s : State) (m : MethodId) (args : Array Value) (below : List Frame) (meth : Method) (c : Code) (Q : State → Prop) (g : GT) (b x0 h0 p0 r0 a0 a1 a2 a3 h1 p1 p2 p3 p4 p5 m0 m1 m2 m3 m4 m5 o0 o1 : Nat) (pp : Nat → Nat → Nat) (kc ks j : Nat) : Prop :=
  ∀ (w : Nat) (ac : Int64) (fc : Nat → Int32) (fs : Nat → Int32) (fr : Nat → Int32) (cnt : Nat) (nx : Nat) (sw : Nat → Nat) (sa : Nat → Int64) (sc : Nat → Nat → Int32) (ss : Nat → Nat → Int32) (sr : Nat → Nat → Int32) (len : Nat) (tx : Nat → Int32) (u : PSt) (ma : Int64) (rw : Nat → Int32) (pst : Nat → Int32) (pa : Nat → Int64) (fw : Nat → Int32) (th : Int32) (at_ : Nat) (hs : Int64) (rd : Nat → Int32) (fo : Nat → Int64) (fd : Nat → UInt64) (H : Heap) (locs : List Loc) (ls : Array Slot), LInv w ac fc fs fr cnt nx sw sa sc ss sr len u ma rw pst pa → va_P g.1 vwCl [(x0, .inr (3, [.ref a0, .ref h0, .ref p0, .ref r0])), (a0, .inr (2, [.int (nI w), .long ac, .ref a1, .ref a2, .ref a3])), (a1, .inl (g.2.1 0, 3, .inl fc)), (a2, .inl (g.2.1 0, 511, .inl fs)), (a3, .inl (g.2.1 0, 8, .inl fr)), (h0, .inr (0, [.int (nI cnt), .int (nI nx), .ref h1])), (h1, .inl (g.2.1 2, 4, .inr (.inr (.inr (.inr (fun k => some (pp k 0))))))), ((pp 0 0), .inr (2, [.int (nI (sw 0)), .long (sa 0), .ref (pp 0 1), .ref (pp 0 2), .ref (pp 0 3)])), ((pp 0 1), .inl (g.2.1 0, 3, .inl (sc 0))), ((pp 0 2), .inl (g.2.1 0, 511, .inl (ss 0))), ((pp 0 3), .inl (g.2.1 0, 8, .inl (sr 0))), ((pp 1 0), .inr (2, [.int (nI (sw 1)), .long (sa 1), .ref (pp 1 1), .ref (pp 1 2), .ref (pp 1 3)])), ((pp 1 1), .inl (g.2.1 0, 3, .inl (sc 1))), ((pp 1 2), .inl (g.2.1 0, 511, .inl (ss 1))), ((pp 1 3), .inl (g.2.1 0, 8, .inl (sr 1))), ((pp 2 0), .inr (2, [.int (nI (sw 2)), .long (sa 2), .ref (pp 2 1), .ref (pp 2 2), .ref (pp 2 3)])), ((pp 2 1), .inl (g.2.1 0, 3, .inl (sc 2))), ((pp 2 2), .inl (g.2.1 0, 511, .inl (ss 2))), ((pp 2 3), .inl (g.2.1 0, 8, .inl (sr 2))), ((pp 3 0), .inr (2, [.int (nI (sw 3)), .long (sa 3), .ref (pp 3 1), .ref (pp 3 2), .ref (pp 3 3)])), ((pp 3 1), .inl (g.2.1 0, 3, .inl (sc 3))), ((pp 3 2), .inl (g.2.1 0, 511, .inl (ss 3))), ((pp 3 3), .inl (g.2.1 0, 8, .inl (sr 3))), (p0, .inr (1, [.ref p1, .int (nI len), .ref p2, .ref p3, .ref p4, .ref p5, .int (nI ((uNs u))), .int (nI ((uPl u))), .int (nI ((uDg u))), .int (uTg u), .int (uSn u), .int (uFi u), .int (uSe u)])), (p1, .inl (g.2.1 0, 100, .inl tx)), (p2, .inl (g.2.1 0, 25, .inl (uT u))), (p3, .inl (g.2.1 0, 25, .inl (uG u))), (p4, .inl (g.2.1 0, 25, .inl (uF u))), (p5, .inl (g.2.1 0, 25, .inl (uE u))), (r0, .inl (g.2.1 0, 511, .inl fw)), (m0, .inr (4, [.ref m1, .long ma, .ref m2, .ref m3, .int (nI cnt), .ref m4, .int (nI len), .int th, .ref m5, .int (nI at_), .long hs])), (m1, .inl (g.2.1 0, 523, .inl rw)), (m2, .inl (g.2.1 0, 2092, .inl pst)), (m3, .inl (g.2.1 1, 4, .inr (.inl pa))), (m4, .inl (g.2.1 0, 100, .inl tx)), (m5, .inl (g.2.1 0, 511, .inl rd)), (o0, .inl (g.2.1 1, 1, .inr (.inl fo))), (o1, .inl (g.2.1 3, 1, .inr (.inr (.inr (.inl fd)))))] H → va_D (fun q : Nat => s.heap.size ≤ q) [(x0, .inr (3, [.ref a0, .ref h0, .ref p0, .ref r0])), (a0, .inr (2, [.int (nI w), .long ac, .ref a1, .ref a2, .ref a3])), (a1, .inl (g.2.1 0, 3, .inl fc)), (a2, .inl (g.2.1 0, 511, .inl fs)), (a3, .inl (g.2.1 0, 8, .inl fr)), (h0, .inr (0, [.int (nI cnt), .int (nI nx), .ref h1])), (h1, .inl (g.2.1 2, 4, .inr (.inr (.inr (.inr (fun k => some (pp k 0))))))), ((pp 0 0), .inr (2, [.int (nI (sw 0)), .long (sa 0), .ref (pp 0 1), .ref (pp 0 2), .ref (pp 0 3)])), ((pp 0 1), .inl (g.2.1 0, 3, .inl (sc 0))), ((pp 0 2), .inl (g.2.1 0, 511, .inl (ss 0))), ((pp 0 3), .inl (g.2.1 0, 8, .inl (sr 0))), ((pp 1 0), .inr (2, [.int (nI (sw 1)), .long (sa 1), .ref (pp 1 1), .ref (pp 1 2), .ref (pp 1 3)])), ((pp 1 1), .inl (g.2.1 0, 3, .inl (sc 1))), ((pp 1 2), .inl (g.2.1 0, 511, .inl (ss 1))), ((pp 1 3), .inl (g.2.1 0, 8, .inl (sr 1))), ((pp 2 0), .inr (2, [.int (nI (sw 2)), .long (sa 2), .ref (pp 2 1), .ref (pp 2 2), .ref (pp 2 3)])), ((pp 2 1), .inl (g.2.1 0, 3, .inl (sc 2))), ((pp 2 2), .inl (g.2.1 0, 511, .inl (ss 2))), ((pp 2 3), .inl (g.2.1 0, 8, .inl (sr 2))), ((pp 3 0), .inr (2, [.int (nI (sw 3)), .long (sa 3), .ref (pp 3 1), .ref (pp 3 2), .ref (pp 3 3)])), ((pp 3 1), .inl (g.2.1 0, 3, .inl (sc 3))), ((pp 3 2), .inl (g.2.1 0, 511, .inl (ss 3))), ((pp 3 3), .inl (g.2.1 0, 8, .inl (sr 3))), (p0, .inr (1, [.ref p1, .int (nI len), .ref p2, .ref p3, .ref p4, .ref p5, .int (nI ((uNs u))), .int (nI ((uPl u))), .int (nI ((uDg u))), .int (uTg u), .int (uSn u), .int (uFi u), .int (uSe u)])), (p1, .inl (g.2.1 0, 100, .inl tx)), (p2, .inl (g.2.1 0, 25, .inl (uT u))), (p3, .inl (g.2.1 0, 25, .inl (uG u))), (p4, .inl (g.2.1 0, 25, .inl (uF u))), (p5, .inl (g.2.1 0, 25, .inl (uE u))), (r0, .inl (g.2.1 0, 511, .inl fw)), (m0, .inr (4, [.ref m1, .long ma, .ref m2, .ref m3, .int (nI cnt), .ref m4, .int (nI len), .int th, .ref m5, .int (nI at_), .long hs])), (m1, .inl (g.2.1 0, 523, .inl rw)), (m2, .inl (g.2.1 0, 2092, .inl pst)), (m3, .inl (g.2.1 1, 4, .inr (.inl pa))), (m4, .inl (g.2.1 0, 100, .inl tx)), (m5, .inl (g.2.1 0, 511, .inl rd)), (o0, .inl (g.2.1 1, 1, .inr (.inl fo))), (o1, .inl (g.2.1 3, 1, .inr (.inr (.inr (.inl fd)))))] → va_S (fun q : Nat => s.heap.size ≤ q) s.heap H locs → lv_has ls 9 [(0, .ref b), (1, .ref x0), (2, .ref m0), (3, .ref o0), (4, .ref o1), (5, .int (nI (6 * j)))] → W p l e room_1 s m args below meth c H locs kc ks Q (F0 m 28 ls [])
theorem kc_n {kc n R : Nat} (h : kc + 5 ≤ R) (hn : n ≤ 5) : kc + n ≤ R := by omega
theorem ks_n {ks n R : Nat} (h : ks + 30 ≤ R) (hn : n ≤ 30) : ks + n ≤ R := by omega
theorem updL_s {f : Nat → Int64} {x : Int64} : vp_updL f 0 x 0 = x := if_pos rfl
theorem updD_s {f : Nat → UInt64} {x : UInt64} : vf_upd f 0 x 0 = x := if_pos rfl
theorem cmp_s {x y : Int64} (h : x = y) : lg_cmp x y = 0 := by
  subst h
  exact Int32.le_antisymm ((lg_cmp_le x x).mpr (Int64.le_refl x)) ((lg_cmp_ge x x).mpr (Int64.le_refl x))
theorem lv_topeD {p : Program} {l : Launch} {e : Env} {R : Room} {s : State} {m : MethodId} {args : Array Value} {below : List Frame} {meth : Method} {c : Code} {H : Heap} {locs : List Loc} {cells slots : Nat} {Q : State → Prop} {pc : Nat} {ls : Array Slot} {rest : List Value} {x y : UInt64} (h : x = y) (kk : W p l e R s m args below meth c H locs cells slots Q (F0 m pc ls (.double y :: rest))) : W p l e R s m args below meth c H locs cells slots Q (F0 m pc ls (.double x :: rest)) := by rw [h]; exact kk
theorem wd_of {x : Int32} (h : okR 3 8 x) : 3 ≤ tn x ∧ tn x ≤ 8 := by
  obtain ⟨k, hk, rfl⟩ := rN_of (n := 8) (by omega) ⟨Int32.le_trans (by decide) h.1, h.2⟩
  have h3 : 3 ≤ k := (nI_leI (a := 3) (b := k) (by omega) (by omega)).mp h.1
  rw [tn_nI (by omega)]
  exact ⟨h3, hk⟩
theorem wh_of {x : Int32} (h : okR 0 2 x) : tn x < 3 := by
  obtain ⟨k, hk, rfl⟩ := rN_of (n := 2) (by omega) h
  rw [tn_nI (by omega)]
  omega
theorem ev_of {w : Nat} {x : Int32} (hw8 : w ≤ 8) (h : okE w x) : tn x < ents w := by
  obtain ⟨k, hk, rfl⟩ := en_of hw8 h
  have := ents_le w hw8
  rw [tn_nI (by omega)]
  exact hk
theorem rg_tn {x : Int32} (h : okG x) : tn x < 8 := by
  obtain ⟨k, hk, rfl⟩ := rg_of h
  rw [tn_nI (by omega)]
  exact hk
theorem op_tn {w : Nat} {x : Int32} (hw8 : w ≤ 8) (h : okR 0 (nI (gr w)) x) : tn x ≤ gr w := by
  obtain ⟨k, hk, rfl⟩ := op_of hw8 h
  have := gr_le w hw8
  rw [tn_nI (by omega)]
  exact hk
theorem wr_flip {w : Nat} {ac ma : Int64} {fc fs fr rw : Nat → Int32} (h : StRel w ac fc fs fr rw ma) {k : Nat} {bt : Int32} (hk : k < ents w) (hb : okR 0 16 bt) : ∃ a, a < 131072 ∧ fs k ^^^ ((1 : Int32) <<< (bt &&& 31)) = nI a := by
  obtain ⟨a, ha, e⟩ := h.bd k hk
  rw [e]
  exact flip_b ha hb
theorem tv_ok {w : Nat} {ac ma : Int64} {fc fs fr rw : Nat → Int32} (h : StRel w ac fc fs fr rw ma) {k : Nat} (hk : k < ents w) : ∃ a, a < 131072 ∧ tv k = nI a := by
  have := ents_le w h.w8
  exact ⟨k * k / 4, tv_b (by omega), rfl⟩
theorem rel_wb1 {w : Nat} {ac ma : Int64} {fc fs fr rw : Nat → Int32} (h : StRel w ac fc fs fr rw ma) {k : Nat} (hk : k < ents w) : wbF fs k = mwF rw k := by
  obtain ⟨a, ha, e⟩ := h.bd k hk
  have := ents_le w h.w8
  exact (wb_e (by omega) ha e (h.rs k hk)).1
theorem rel_mG {w : Nat} {ac ma : Int64} {fc fs fr rw : Nat → Int32} (h : StRel w ac fc fs fr rw ma) : regOK w (mG rw) := fun j hj => by
  show rw (4 + j) = nI (tn (rw (4 + j))) ∧ tn (rw (4 + j)) ≤ gr w
  rw [h.rr j hj]
  exact h.rg j hj
theorem wr_acs {w : Nat} {ac ma ac' ma' : Int64} {fc fs fr rw : Nat → Int32} (h : StRel w ac fc fs fr rw ma) (e : ma' = ac') : StRel w ac' fc fs fr rw ma' := ⟨h.1, h.r0, h.rc, h.rr, h.rs, h.bd, h.rg, e⟩
