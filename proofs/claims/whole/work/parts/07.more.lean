/-! rows of arrays: a row is what it holds below its length; the whole of one into another; places with objects -/
theorem vp_cell_congr {cA : ClassId} {n : Nat} {f f' : Nat → Int32} (h : ∀ k, k < n → f k = f' k) : vp_cell cA (n, .inl f) = vp_cell cA (n, .inl f') := by
  rw [vp_cell_i, vp_cell_i]
  unfold arrV
  congr 1
  congr 1
  funext j
  exact congrArg _ (h j.val j.isLt)
theorem vp_cell_congrL {cA : ClassId} {n : Nat} {f f' : Nat → Int64} (h : ∀ k, k < n → f k = f' k) : vp_cell cA (n, .inr (.inl f)) = vp_cell cA (n, .inr (.inl f')) := by
  rw [vp_cell_l, vp_cell_l]
  unfold arrV
  congr 1
  congr 1
  funext j
  exact congrArg _ (h j.val j.isLt)
theorem va_setP {D : va_G} {cl : List vw_C} {ws wsn : va_W} {H : Heap} (hP : va_P D cl ws H) (q0 : Nat) (e : Nat × va_E) (hat : va_at D cl e H) (hw : ws.set q0 e = wsn) : va_P D cl wsn H := by
  subst hw
  intro k q hk
  rw [List.getElem?_set] at hk
  by_cases h : q0 = k
  · subst h
    rw [if_pos rfl] at hk
    split at hk
    · cases hk; exact hat
    · cases hk
  · rw [if_neg h] at hk
    exact hP k q hk
theorem va_setD {A : Nat → Prop} {ws wsn : va_W} (hD : va_D A ws) (q0 : Nat) {b : Nat} {e0 e : va_E} (h0 : ws[q0]? = some (b, e0)) (hw : ws.set q0 (b, e) = wsn) : va_D A wsn := by
  subst hw
  refine va_D_fst hD ?_
  apply List.ext_getElem?
  intro k
  rw [List.getElem?_map, List.getElem?_map, List.getElem?_set]
  by_cases h : q0 = k
  · subst h
    rw [if_pos rfl, h0]
    split
    · rfl
    · rename_i hn
      exact absurd (List.getElem?_eq_some_iff.mp h0).1 hn
  · rw [if_neg h]
/-- an int row, told otherwise below its length -/
theorem va_tellP {D : va_G} {cl : List vw_C} {ws wsn : va_W} {H : Heap} (hP : va_P D cl ws H) (q0 : Nat) {b n : Nat} {cA : ClassId} {f f' : Nat → Int32} (h0 : ws[q0]? = some (b, .inl (cA, n, .inl f))) (hf : ∀ k, k < n → f k = f' k) (hw : ws.set q0 (b, .inl (cA, n, .inl f')) = wsn) : va_P D cl wsn H :=
  va_setP hP q0 _ (by have h1 := hP q0 _ h0; show H[b]? = some (vp_cell cA (n, .inl f')); rw [← vp_cell_congr hf]; exact h1) hw
theorem va_tellL {D : va_G} {cl : List vw_C} {ws wsn : va_W} {H : Heap} (hP : va_P D cl ws H) (q0 : Nat) {b n : Nat} {cA : ClassId} {f f' : Nat → Int64} (h0 : ws[q0]? = some (b, .inl (cA, n, .inr (.inl f)))) (hf : ∀ k, k < n → f k = f' k) (hw : ws.set q0 (b, .inl (cA, n, .inr (.inl f'))) = wsn) : va_P D cl wsn H :=
  va_setP hP q0 _ (by have h1 := hP q0 _ h0; show H[b]? = some (vp_cell cA (n, .inr (.inl f'))); rw [← vp_cell_congrL hf]; exact h1) hw
section More
variable {p : Program} {l : Launch} {e : Env} {R : Room} {s : State} {m : MethodId} {args : Array Value} {below : List Frame} {meth : Method} {c : Code} {H : Heap} {locs : List Loc} {cells slots : Nat} {Q : State → Prop}
variable {g : GT} {A0 : Nat → Prop} {H0 : Heap} {pc : Nat} {ls : Array Slot} {rest : List Value} {ws : va_W}
theorem gCopy {cc : ByteArray} (hx : p.tables.exec = Jvm.exec) (hb : c.code = cc) (hml : c.maxLocals = ls.size) {own : String} {index : Nat} (hown : s.vm.findClass own = some m.cls) (hlink : (Cond.methodLink own index arraycopyName).before args s = true) (hnat : (Cond.native arraycopyName).before args s = true) (hstat : (Cond.static arraycopyName).before args s = true) (hini : (Cond.initialized "java/lang/System").before args s = true)
    (hE : gE g s) (hP : va_P g.1 vwCl ws H) (hD : va_D A0 ws) (hS : va_S A0 H0 H locs) (q0 q1 : Nat) {a0 a N : Nat} {f f' : Nat → Int32} (ha0 : ws[q0]? = some (a0, .inl (g.2.1 0, N, .inl f))) (ha1 : ws[q1]? = some (a, .inl (g.2.1 0, N, .inl f'))) (hN : N < 1000) {n : Int32} (hn : n = nI N)
    (hframes : 1 ≤ R.frames) (hlocals : (rest.map fun v => v.category).sum + (nativeFrameWords "java/lang/System" "arraycopy" 5 + 11) ≤ R.locals) (hdg : decode cc pc = .ok (.invokestatic index, 3)) (wsn : va_W) (hw : ws.set q1 (a, .inl (g.2.1 0, N, .inl f)) = wsn)
    (hc : cells ≤ R.cells) (hs : slots ≤ R.slots)
    (kk : ∀ (H1 : Heap) (locs1 : List Loc), va_P g.1 vwCl wsn H1 → va_D A0 wsn → va_S A0 H0 H1 locs1 → W p l e R s m args below meth c H1 locs1 cells slots Q (F0 m (pc + 3) ls rest)) : W p l e R s m args below meth c H locs cells slots Q (F0 m pc ls (.int n :: .int 0 :: .ref a :: .int 0 :: .ref a0 :: rest)) := by
  subst hn
  have hcl : (nI N).toNatClampNeg = N := nI_clamp (by omega)
  have h0 : (0 : Int32).toNatClampNeg = 0 := by decide
  refine va_copyi hx hb hml hown hlink hnat hstat hini hE.1 hP hD hS q0 q1 0 0 ha0 ha1 rfl rfl rfl (by decide) (by decide) (nI_pos (by omega)) (by rw [hcl, h0]; omega) (by rw [hcl, h0]; omega) (fun i _ => rfl) hframes hlocals hdg (fun H1 locs1 h1 h2 h3 => ?_)
  rw [hcl, h0] at h1 h2
  have hlt : q1 < ws.length := (List.getElem?_eq_some_iff.mp ha1).1
  have hset : (ws.set q1 (a, .inl (g.2.1 0, N, .inl (va_cpy f f' 0 0 N))))[q1]? = some (a, .inl (g.2.1 0, N, .inl (va_cpy f f' 0 0 N))) := by
    rw [List.getElem?_set, if_pos rfl, if_pos hlt]
  have hw2 : (ws.set q1 (a, .inl (g.2.1 0, N, .inl (va_cpy f f' 0 0 N)))).set q1 (a, .inl (g.2.1 0, N, .inl f)) = wsn := by rw [List.set_set, hw]
  exact kk H1 locs1 (va_tellP h1 q1 hset (fun k hk => sb_cpy0 hk) hw2) (va_setD h2 q1 hset hw2) h3
theorem gAald {cc : ByteArray} (hx : p.tables.exec = Jvm.exec) (hb : c.code = cc) (hE : gE g s) (hP : va_P g.1 vwCl ws H) (q0 : Nat) {b n k x : Nat} {f : Nat → Option Nat} (ha : ws[q0]? = some (b, .inl (g.2.1 2, n, .inr (.inr (.inr (.inr f)))))) (hk : k < n) (hn : n < 2 ^ 31) (hf : f k = some x) (hdg : decode cc pc = .ok (.aaload, 1))
    (kk : W p l e R s m args below meth c H locs cells slots Q (F0 m (pc + 1) ls (.ref x :: rest))) : W p l e R s m args below meth c H locs cells slots Q (F0 m pc ls (.int (nI k) :: .ref b :: rest)) :=
  va_aldq hx hb hE.1 hP q0 2 ha rfl (vp_in_nI hk hn) hdg (by rw [nI_clamp (Nat.lt_trans hk hn), hf]; exact kk)
/-- the class of a row is what the tables say of its type -/
theorem gT_one {cA : ClassId} {t0 : Nat} {ty : FieldType} (hK : va_K g.1 vwCl (gT g ++ [(cA, ty)]) s) (ht : (gT g)[t0]? = some (g.2.1 t0, ty)) (h : ∀ C, ty ≠ .object C) : cA = g.2.1 t0 := by
  have h1 := (hK.2 4 (cA, ty) rfl).2
  have hlt : t0 < (gT g).length := (List.getElem?_eq_some_iff.mp ht).1
  have h2 := (hK.2 t0 (g.2.1 t0, ty) (by rw [List.getElem?_append_left hlt]; exact ht)).2
  cases ty with
  | object C => exact absurd rfl (h C)
  | _ => exact Option.some.inj ((show s.vm.findClass _ = some cA from h1).symm.trans h2)
theorem gT_oneO {cA : ClassId} (hK : va_K g.1 vwCl (gT g ++ [(cA, .object "HalfTables$State")]) s) : cA = g.2.1 2 := by
  obtain ⟨k1, c1, -, -, -, h1⟩ := (hK.2 4 (cA, .object "HalfTables$State") rfl).2
  obtain ⟨k2, c2, -, -, -, h2⟩ := (hK.2 2 (g.2.1 2, .object "HalfTables$State") rfl).2
  exact Option.some.inj (h1.symm.trans h2)
end More
