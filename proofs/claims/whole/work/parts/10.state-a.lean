/-! STATE, its counting methods: printed by wip/whole/gen/spec_state.py -/
abbrev rm_J6_bitCount_0f7a4 : Room := { frames := 0, cells := 0, slots := 0, locals := 0 }
set_option maxRecDepth 100000 in
set_option maxHeartbeats 4000000 in
theorem c_J6_bitCount_0f7a4 (l : Launch) (g : GT) (x : Int32) : cRi l g yJ6_bitCount_0f7a4 wsJ6_bitCount_0f7a4 rm_J6_bitCount_0f7a4 [.int x] [] (fun r => r = (bc x)) := by
  refine enR (y := yJ6_bitCount_0f7a4) (ws := wsJ6_bitCount_0f7a4) (av := [.int x]) (cc := cJ6_bitCount_0f7a4) (maxL := 1) (ret := (some .int)) (by decide) rfl (Nat.le_of_ble_eq_true rfl) rfl ?_
  intro p e s m below meth c ls hx hb hr hml hown hts hlocks hE hP hl
  have hK := hE.1
  have hS : va_S noA s.heap s.heap [] := va_S.rf
  generalize hQ : MQ below _ _ s _ _ _ = Q9
  have hl : lv_has ls 1 [(0, .int x)] := hl
  refine lv_iload_n hx hb dJ6_bitCount_0f7a4_0 rfl (lv_at hl 0 rfl) ?_
  refine lv_iload_n hx hb dJ6_bitCount_0f7a4_1 rfl (lv_at hl 0 rfl) ?_
  refine lv_iconst (v := 1) hx hb dJ6_bitCount_0f7a4_2 (by decide) ?_
  refine lv_iushr (v := (x.toUInt32 >>> (Int32.toUInt32 1 &&& Int32.toUInt32 31)).toInt32) hx hb dJ6_bitCount_0f7a4_3 rfl ?_
  refine lv_ldcw (v := 1431655765) hx hb hown (hts _ (List.mem_of_getElem? (i := 1) rfl)) dJ6_bitCount_0f7a4_4 ?_
  refine lv_iand hx hb dJ6_bitCount_0f7a4_7 ?_
  refine lv_isub hx hb dJ6_bitCount_0f7a4_8 ?_
  refine lv_tope (y := (bc1 x)) rfl ?_
  refine lv_istore_n (lv' := [(0, .int (bc1 x))]) hx hb dJ6_bitCount_0f7a4_9 rfl hl (by decide) rfl (fun ls hl => ?_)
  refine lv_iload_n hx hb dJ6_bitCount_0f7a4_10 rfl (lv_at hl 0 rfl) ?_
  refine lv_ldcw (v := 858993459) hx hb hown (hts _ (List.mem_of_getElem? (i := 2) rfl)) dJ6_bitCount_0f7a4_11 ?_
  refine lv_iand hx hb dJ6_bitCount_0f7a4_14 ?_
  refine lv_iload_n hx hb dJ6_bitCount_0f7a4_15 rfl (lv_at hl 0 rfl) ?_
  refine lv_iconst (v := 2) hx hb dJ6_bitCount_0f7a4_16 (by decide) ?_
  refine lv_iushr (v := ((bc1 x).toUInt32 >>> (Int32.toUInt32 2 &&& Int32.toUInt32 31)).toInt32) hx hb dJ6_bitCount_0f7a4_17 rfl ?_
  refine lv_ldcw (v := 858993459) hx hb hown (hts _ (List.mem_of_getElem? (i := 2) rfl)) dJ6_bitCount_0f7a4_18 ?_
  refine lv_iand hx hb dJ6_bitCount_0f7a4_21 ?_
  refine lv_iadd hx hb dJ6_bitCount_0f7a4_22 ?_
  refine lv_tope (y := (bc2 (bc1 x))) rfl ?_
  refine lv_istore_n (lv' := [(0, .int (bc2 (bc1 x)))]) hx hb dJ6_bitCount_0f7a4_23 rfl hl (by decide) rfl (fun ls hl => ?_)
  refine lv_iload_n hx hb dJ6_bitCount_0f7a4_24 rfl (lv_at hl 0 rfl) ?_
  refine lv_iload_n hx hb dJ6_bitCount_0f7a4_25 rfl (lv_at hl 0 rfl) ?_
  refine lv_iconst (v := 4) hx hb dJ6_bitCount_0f7a4_26 (by decide) ?_
  refine lv_iushr (v := ((bc2 (bc1 x)).toUInt32 >>> (Int32.toUInt32 4 &&& Int32.toUInt32 31)).toInt32) hx hb dJ6_bitCount_0f7a4_27 rfl ?_
  refine lv_iadd hx hb dJ6_bitCount_0f7a4_28 ?_
  refine lv_ldcw (v := 252645135) hx hb hown (hts _ (List.mem_of_getElem? (i := 3) rfl)) dJ6_bitCount_0f7a4_29 ?_
  refine lv_iand hx hb dJ6_bitCount_0f7a4_32 ?_
  refine lv_tope (y := (bc3 (bc2 (bc1 x)))) rfl ?_
  refine lv_istore_n (lv' := [(0, .int (bc3 (bc2 (bc1 x))))]) hx hb dJ6_bitCount_0f7a4_33 rfl hl (by decide) rfl (fun ls hl => ?_)
  refine lv_iload_n hx hb dJ6_bitCount_0f7a4_34 rfl (lv_at hl 0 rfl) ?_
  refine lv_iload_n hx hb dJ6_bitCount_0f7a4_35 rfl (lv_at hl 0 rfl) ?_
  refine lv_bipush (v := 8) hx hb dJ6_bitCount_0f7a4_36 (by decide) ?_
  refine lv_iushr (v := ((bc3 (bc2 (bc1 x))).toUInt32 >>> (Int32.toUInt32 8 &&& Int32.toUInt32 31)).toInt32) hx hb dJ6_bitCount_0f7a4_38 rfl ?_
  refine lv_iadd hx hb dJ6_bitCount_0f7a4_39 ?_
  refine lv_tope (y := (bc4 (bc3 (bc2 (bc1 x))))) rfl ?_
  refine lv_istore_n (lv' := [(0, .int (bc4 (bc3 (bc2 (bc1 x)))))]) hx hb dJ6_bitCount_0f7a4_40 rfl hl (by decide) rfl (fun ls hl => ?_)
  refine lv_iload_n hx hb dJ6_bitCount_0f7a4_41 rfl (lv_at hl 0 rfl) ?_
  refine lv_iload_n hx hb dJ6_bitCount_0f7a4_42 rfl (lv_at hl 0 rfl) ?_
  refine lv_bipush (v := 16) hx hb dJ6_bitCount_0f7a4_43 (by decide) ?_
  refine lv_iushr (v := ((bc4 (bc3 (bc2 (bc1 x)))).toUInt32 >>> (Int32.toUInt32 16 &&& Int32.toUInt32 31)).toInt32) hx hb dJ6_bitCount_0f7a4_45 rfl ?_
  refine lv_iadd hx hb dJ6_bitCount_0f7a4_46 ?_
  refine lv_tope (y := (bc5 (bc4 (bc3 (bc2 (bc1 x)))))) rfl ?_
  refine lv_istore_n (lv' := [(0, .int (bc5 (bc4 (bc3 (bc2 (bc1 x))))))]) hx hb dJ6_bitCount_0f7a4_47 rfl hl (by decide) rfl (fun ls hl => ?_)
  refine lv_iload_n hx hb dJ6_bitCount_0f7a4_48 rfl (lv_at hl 0 rfl) ?_
  refine lv_bipush (v := 63) hx hb dJ6_bitCount_0f7a4_49 (by decide) ?_
  refine lv_iand hx hb dJ6_bitCount_0f7a4_51 ?_
  refine lv_tope (y := (bc x)) rfl ?_
  subst hQ
  exact W.iret (v := (bc x)) hx hb hr (fun t ht hW => ⟨⟨(bc x), (), rfl, rfl, trivial⟩, hS.F ht⟩) hS.2.2 dJ6_bitCount_0f7a4_52
abbrev rm_J7_fill_53178 : Room := { frames := 0, cells := 0, slots := 0, locals := 0 }
set_option maxRecDepth 100000 in
set_option maxHeartbeats 4000000 in
theorem c_J7_fill_53178 (l : Launch) (g : GT) (b0 : Nat) (n : Nat) (f : Nat → Int32) (x : Int32) (hn : n < 1000) : cUv l g yJ7_fill_53178 wsJ7_fill_53178 rm_J7_fill_53178 [.ref b0, .int x] [(b0, .inl (g.2.1 0, n, .inl f))] (fun (_ : Unit) => True) (fun _ => [(b0, .inl (g.2.1 0, n, .inl (fun _ => x)))]) := by
  refine enU (y := yJ7_fill_53178) (ws := wsJ7_fill_53178) (av := [.ref b0, .int x]) (cc := cJ7_fill_53178) (maxL := 4) (ret := none) (by decide) rfl (Nat.le_of_ble_eq_true rfl) rfl ?_
  intro p e s m below meth c ls hx hb hr hml hown hts hlocks hE hP hD hl
  have hK := hE.1
  have hS : va_S (va_Ad [(b0, .inl (g.2.1 0, n, .inl f))]) s.heap s.heap [] := va_S.rf
  generalize hQ : MQ below _ _ s _ _ _ = Q9
  have hl : lv_has ls 4 [(0, .ref b0), (1, .int x)] := hl
  refine lv_iconst (v := 0) hx hb dJ7_fill_53178_0 (by decide) ?_
  refine lv_istore_n (lv' := [(2, .int 0), (0, .ref b0), (1, .int x)]) hx hb dJ7_fill_53178_1 rfl hl (by decide) rfl (fun ls hl => ?_)
  refine lv_aload_n hx hb dJ7_fill_53178_2 rfl (lv_at hl 1 rfl) ?_
  refine va_alen (v := nI n) hx hb hK hP 0 0 rfl rfl rfl dJ7_fill_53178_3 ?_
  refine lv_istore_n (lv' := [(3, .int (nI n)), (2, .int 0), (0, .ref b0), (1, .int x)]) hx hb dJ7_fill_53178_4 rfl hl (by decide) rfl (fun ls hl => ?_)
  have lp5 : ∀ (n9 : Nat) (i : Nat), n - i < n9 → (i ≤ n) → ∀ (f5 : Nat → Int32), f5 = fillC f i x → ∀ (H : Heap) (locs : List Loc), va_P g.1 vwCl [(b0, .inl (g.2.1 0, n, .inl f5))] H → va_D (va_Ad [(b0, .inl (g.2.1 0, n, .inl f))]) [(b0, .inl (g.2.1 0, n, .inl f5))] → va_S (va_Ad [(b0, .inl (g.2.1 0, n, .inl f))]) s.heap H locs → ∀ (ls : Array Slot), lv_has ls 4 [(3, .int (nI n)), (2, .int (nI i)), (0, .ref b0), (1, .int x)] → W p l e rm_J7_fill_53178 s m [Value.ref b0, .int x].toArray below meth c H locs 0 0 Q9 (F0 m 5 ls []) := by
    intro n9
    induction n9 with
    | zero => intro i h9; exact absurd h9 (Nat.not_lt_zero _)
    | succ n9 ih5 =>
      intro i hm5 hi
      intro f5 e_f5; subst e_f5
      intro H locs hP hD hS ls hl
      refine lv_iload_n hx hb dJ7_fill_53178_5 rfl (lv_at hl 1 rfl) ?_
      refine lv_iload_n hx hb dJ7_fill_53178_6 rfl (lv_at hl 0 rfl) ?_
      refine lv_icmp_ge (tgt := 20) hx hb dJ7_fill_53178_7 (by decide) (fun c7 => ?_) (fun c7 => ?_)
      · have n7 : n ≤ i := (nI_leI (a := n) (b := i) (by omega) (by omega)).mp c7
        have e20 : i = n := by omega
        rw [e20] at hP
        subst hQ
        have hP9 : va_P g.1 vwCl [(b0, .inl (g.2.1 0, n, .inl (fun _ => x)))] H := va_tellP hP 0 rfl (fun k hk => if_pos hk) rfl
        exact W.vret hx hb hr (fun t ht hW => ⟨⟨(), rfl, trivial, by show va_P g.1 vwCl _ t.heap; rw [ht]; exact hP9⟩, hS.F ht⟩) hS.2.2 dJ7_fill_53178_20
      · have n7 : i < n := Nat.lt_of_not_le (fun h9 => c7 ((nI_leI (a := n) (b := i) (by omega) (by omega)).mpr h9))
        refine lv_aload_n hx hb dJ7_fill_53178_10 rfl (lv_at hl 2 rfl) ?_
        refine lv_iload_n hx hb dJ7_fill_53178_11 rfl (lv_at hl 1 rfl) ?_
        refine lv_iload_n hx hb dJ7_fill_53178_12 rfl (lv_at hl 3 rfl) ?_
        refine gIast (k := i) (x := x) (wsn := [(b0, .inl (g.2.1 0, n, .inl (upd (fillC f i x) i x)))]) hx hb hE hP hD hS 0 rfl (by omega) (by omega) dJ7_fill_53178_13 (hw := rfl) (kk := fun H locs hP hD hS => ?_)
        refine lv_iinc (v := (nI (i + 1))) (lv' := [(2, .int (nI (i + 1))), (3, .int (nI n)), (0, .ref b0), (1, .int x)]) hx hb dJ7_fill_53178_14 hl (k := 1) rfl (nI_add (i) 1) (by decide) rfl (fun ls hl => ?_)
        refine lv_goto (tgt := 5) hx hb dJ7_fill_53178_17 (by decide) ?_
        exact ih5 (i + 1) (by omega) (by omega) (upd (fillC f i x) i x) (fillC_s f i x) _ _ hP hD hS _ (lv_sub hl [1, 0, 2, 3] rfl)
  exact lp5 ((n - 0) + 1) 0 (Nat.lt_succ_self _) (by omega) f rfl _ _ hP hD hS _ (lv_sub hl [0, 1, 2, 3] rfl)
abbrev rm_X3_trueValue : Room := { frames := 0, cells := 0, slots := 0, locals := 0 }
set_option maxRecDepth 100000 in
set_option maxHeartbeats 4000000 in
theorem c_X3_trueValue (l : Launch) (g : GT) (n : Nat) (hn : n < 1024) : cRi l g yX3_trueValue wsX3_trueValue rm_X3_trueValue [.int (nI n)] [] (fun r => r = (tv n)) := by
  refine enR (y := yX3_trueValue) (ws := wsX3_trueValue) (av := [.int (nI n)]) (cc := cX3_trueValue) (maxL := 1) (ret := (some .int)) (by decide) rfl (Nat.le_of_ble_eq_true rfl) rfl ?_
  intro p e s m below meth c ls hx hb hr hml hown hts hlocks hE hP hl
  have hK := hE.1
  have hS : va_S noA s.heap s.heap [] := va_S.rf
  generalize hQ : MQ below _ _ s _ _ _ = Q9
  have hl : lv_has ls 1 [(0, .int (nI n))] := hl
  refine lv_iload_n hx hb dX3_trueValue_0 rfl (lv_at hl 0 rfl) ?_
  refine lv_iload_n hx hb dX3_trueValue_1 rfl (lv_at hl 0 rfl) ?_
  refine lv_imul hx hb dX3_trueValue_2 ?_
  refine lv_tope (y := (nI (n * n))) (show ((nI n) * (nI n) : Int32) = nI (n * n) from pk_mul (n) (n)) ?_
  refine lv_iconst (v := 4) hx hb dX3_trueValue_3 (by decide) ?_
  refine lv_idiv hx hb dX3_trueValue_4 (by decide) ?_
  refine lv_tope (y := (tv n)) (tv_e hn) ?_
  subst hQ
  exact W.iret (v := (tv n)) hx hb hr (fun t ht hW => ⟨⟨(tv n), (), rfl, rfl, trivial⟩, hS.F ht⟩) hS.2.2 dX3_trueValue_5
abbrev rm_X3_parity : Room := { frames := 1, cells := 0, slots := 0, locals := 20 }
set_option maxRecDepth 100000 in
set_option maxHeartbeats 4000000 in
theorem c_X3_parity (l : Launch) (g : GT) (x : Int32) : cRi l g yX3_parity wsX3_parity rm_X3_parity [.int x] [] (fun r => r = (bc x &&& 1)) := by
  refine enR (y := yX3_parity) (ws := wsX3_parity) (av := [.int x]) (cc := cX3_parity) (maxL := 1) (ret := (some .int)) (by decide) rfl (Nat.le_of_ble_eq_true rfl) rfl ?_
  intro p e s m below meth c ls hx hb hr hml hown hts hlocks hE hP hl
  have hK := hE.1
  have hS : va_S noA s.heap s.heap [] := va_S.rf
  generalize hQ : MQ below _ _ s _ _ _ = Q9
  have hl : lv_has ls 1 [(0, .int x)] := hl
  refine lv_iload_n hx hb dX3_parity_0 rfl (lv_at hl 0 rfl) ?_
  refine kRi (va_runS (As := [.int x]) (rest := []) ⟨hx, hb, hml, hown, hts⟩ (c_J6_bitCount_0f7a4 l g x) (va_cwS 1 hts gX3_parity_J6_bitCount_0f7a4 rfl rfl rfl (by decide +kernel) ⟨(Nat.le_of_ble_eq_true rfl), (Nat.le_of_ble_eq_true rfl)⟩) (preS hE hP [] rfl) rfl rfl hl.1 rfl (lv_room (Nat.le_of_ble_eq_true rfl)) dX3_parity_1 ⟨(Nat.le_of_ble_eq_true rfl), (Nat.le_of_ble_eq_true rfl)⟩) hP hS (fun r9 H locs hr9 hP hS => ?_)
  subst hr9
  refine lv_iconst (v := 1) hx hb dX3_parity_4 (by decide) ?_
  refine lv_iand hx hb dX3_parity_5 ?_
  subst hQ
  exact W.iret (v := ((bc x) &&& 1)) hx hb hr (fun t ht hW => ⟨⟨((bc x) &&& 1), (), rfl, rfl, trivial⟩, hS.F ht⟩) hS.2.2 dX3_parity_6
theorem in_X2_greatest_X2 : ∀ w ∈ wsX20, w ∈ wsX2_greatest := by decide +kernel
abbrev rm_X2_greatest : Room := { frames := 0, cells := 0, slots := 0, locals := 0 }
set_option maxRecDepth 100000 in
set_option maxHeartbeats 4000000 in
theorem c_X2_greatest (l : Launch) (g : GT) (a0 : Nat) (a1 : Nat) (a2 : Nat) (a3 : Nat) (w : Nat) (ac : Int64) (fc : Nat → Int32) (fs : Nat → Int32) (fr : Nat → Int32) (hw8 : w ≤ 8) : cRi l g yX2_greatest wsX2_greatest rm_X2_greatest [.ref a0] [(a0, .inr (2, [.int (nI w), .long ac, .ref a1, .ref a2, .ref a3])), (a1, .inl (g.2.1 0, 3, .inl fc)), (a2, .inl (g.2.1 0, 511, .inl fs)), (a3, .inl (g.2.1 0, 8, .inl fr))] (fun r => r = (nI (gr w))) := by
  refine enR (y := yX2_greatest) (ws := wsX2_greatest) (av := [.ref a0]) (cc := cX2_greatest) (maxL := 1) (ret := (some .int)) (by decide) rfl (Nat.le_of_ble_eq_true rfl) rfl ?_
  intro p e s m below meth c ls hx hb hr hml hown hts hlocks hE hP hl
  have hK := hE.1
  have hS : va_S noA s.heap s.heap [] := va_S.rf
  generalize hQ : MQ below _ _ s _ _ _ = Q9
  have hl : lv_has ls 1 [(0, .ref a0)] := hl
  refine lv_iconst (v := 1) hx hb dX2_greatest_0 (by decide) ?_
  refine lv_aload_n hx hb dX2_greatest_1 rfl (lv_at hl 0 rfl) ?_
  refine va_get (D := g.1) (ci := 2) (v := .int (nI w)) (C := RX2) (T := TX2) (N := 5) hx hb hts in_X2_greatest_X2 hown hK hP 0 rfl rfl 0 (by decide) (hts _ (List.mem_of_getElem? (i := 1) rfl)) (fun _ h9 => h9) rfl dX2_greatest_2 ?_
  refine lv_ishl hx hb dX2_greatest_5 ?_
  refine lv_iconst (v := 1) hx hb dX2_greatest_6 (by decide) ?_
  refine lv_isub hx hb dX2_greatest_7 ?_
  refine lv_tope (y := (nI (gr w))) (gr_e w hw8) ?_
  subst hQ
  exact W.iret (v := (nI (gr w))) hx hb hr (fun t ht hW => ⟨⟨(nI (gr w)), (), rfl, rfl, trivial⟩, hS.F ht⟩) hS.2.2 dX2_greatest_8
abbrev rm_X2_entries : Room := { frames := 1, cells := 0, slots := 0, locals := 20 }
set_option maxRecDepth 100000 in
set_option maxHeartbeats 4000000 in
theorem c_X2_entries (l : Launch) (g : GT) (a0 : Nat) (a1 : Nat) (a2 : Nat) (a3 : Nat) (w : Nat) (ac : Int64) (fc : Nat → Int32) (fs : Nat → Int32) (fr : Nat → Int32) (hw8 : w ≤ 8) : cRi l g yX2_entries wsX2_entries rm_X2_entries [.ref a0] [(a0, .inr (2, [.int (nI w), .long ac, .ref a1, .ref a2, .ref a3])), (a1, .inl (g.2.1 0, 3, .inl fc)), (a2, .inl (g.2.1 0, 511, .inl fs)), (a3, .inl (g.2.1 0, 8, .inl fr))] (fun r => r = (nI (ents w))) := by
  refine enR (y := yX2_entries) (ws := wsX2_entries) (av := [.ref a0]) (cc := cX2_entries) (maxL := 1) (ret := (some .int)) (by decide) rfl (Nat.le_of_ble_eq_true rfl) rfl ?_
  intro p e s m below meth c ls hx hb hr hml hown hts hlocks hE hP hl
  have hK := hE.1
  have hS : va_S noA s.heap s.heap [] := va_S.rf
  generalize hQ : MQ below _ _ s _ _ _ = Q9
  have hl : lv_has ls 1 [(0, .ref a0)] := hl
  refine lv_iconst (v := 2) hx hb dX2_entries_0 (by decide) ?_
  refine lv_aload_n hx hb dX2_entries_1 rfl (lv_at hl 0 rfl) ?_
  refine kRi (va_runV (As := []) (rest := [.int 2]) ⟨hx, hb, hml, hown, hts⟩ (c_X2_greatest l g a0 a1 a2 a3 w ac fc fs fr (by first | assumption | omega | exact Nat.le_of_ble_eq_true rfl)) (cwV 0 hts gX2_entries_X2_greatest rfl rfl rfl (by decide +kernel) ⟨(Nat.le_of_ble_eq_true rfl), (Nat.le_of_ble_eq_true rfl)⟩) (preV (RX2, TX2, 5) hE hP [0, 1, 2, 3] rfl rfl) rfl rfl hl.1 rfl (lv_room (Nat.le_of_ble_eq_true rfl)) dX2_entries_2 ⟨(Nat.le_of_ble_eq_true rfl), (Nat.le_of_ble_eq_true rfl)⟩) hP hS (fun r9 H locs hr9 hP hS => ?_)
  subst hr9
  refine lv_imul hx hb dX2_entries_5 ?_
  refine lv_tope (y := (nI (2 * (gr w)))) (show (2 * (nI (gr w)) : Int32) = nI (2 * (gr w)) from pk_mul (2) (gr w)) ?_
  refine lv_iconst (v := 1) hx hb dX2_entries_6 (by decide) ?_
  refine lv_iadd hx hb dX2_entries_7 ?_
  refine lv_tope (y := (nI (ents w))) (nI_add (2 * gr w) 1) ?_
  subst hQ
  exact W.iret (v := (nI (ents w))) hx hb hr (fun t ht hW => ⟨⟨(nI (ents w)), (), rfl, rfl, trivial⟩, hS.F ht⟩) hS.2.2 dX2_entries_8
theorem in_X2_wrongBits_X2 : ∀ w ∈ wsX20, w ∈ wsX2_wrongBits := by decide +kernel
abbrev rm_X2_wrongBits : Room := { frames := 1, cells := 0, slots := 0, locals := 20 }
set_option maxRecDepth 100000 in
set_option maxHeartbeats 4000000 in
theorem c_X2_wrongBits (l : Launch) (g : GT) (a0 : Nat) (a1 : Nat) (a2 : Nat) (a3 : Nat) (w : Nat) (ac : Int64) (fc : Nat → Int32) (fs : Nat → Int32) (fr : Nat → Int32) (n : Nat) (hn : n < 511) : cRi l g yX2_wrongBits wsX2_wrongBits rm_X2_wrongBits [.ref a0, .int (nI n)] [(a0, .inr (2, [.int (nI w), .long ac, .ref a1, .ref a2, .ref a3])), (a1, .inl (g.2.1 0, 3, .inl fc)), (a2, .inl (g.2.1 0, 511, .inl fs)), (a3, .inl (g.2.1 0, 8, .inl fr))] (fun r => r = (wbF fs n)) := by
  refine enR (y := yX2_wrongBits) (ws := wsX2_wrongBits) (av := [.ref a0, .int (nI n)]) (cc := cX2_wrongBits) (maxL := 2) (ret := (some .int)) (by decide) rfl (Nat.le_of_ble_eq_true rfl) rfl ?_
  intro p e s m below meth c ls hx hb hr hml hown hts hlocks hE hP hl
  have hK := hE.1
  have hS : va_S noA s.heap s.heap [] := va_S.rf
  generalize hQ : MQ below _ _ s _ _ _ = Q9
  have hl : lv_has ls 2 [(0, .ref a0), (1, .int (nI n))] := hl
  refine lv_aload_n hx hb dX2_wrongBits_0 rfl (lv_at hl 0 rfl) ?_
  refine va_get (D := g.1) (ci := 2) (v := .ref a2) (C := RX2) (T := TX2) (N := 5) hx hb hts in_X2_wrongBits_X2 hown hK hP 0 rfl rfl 3 (by decide) (hts _ (List.mem_of_getElem? (i := 1) rfl)) (fun _ h9 => h9) rfl dX2_wrongBits_1 ?_
  refine lv_iload_n hx hb dX2_wrongBits_4 rfl (lv_at hl 1 rfl) ?_
  refine gIald (k := n) hx hb hE hP 2 rfl (by omega) (by omega) dX2_wrongBits_5 ?_
  refine lv_iload_n hx hb dX2_wrongBits_6 rfl (lv_at hl 1 rfl) ?_
  refine kRi (va_runSN (As := [.int (nI n)]) (rest := [.int (fs n)]) ⟨hx, hb, hml, hown, hts⟩ (c_X3_trueValue l g n (by first | assumption | omega | exact Nat.le_of_ble_eq_true rfl)) ⟨va_cnB 1 hts gX2_wrongBits_X3_trueValue_n37 rfl rfl rfl hE.2.1.1 (hts _ (List.mem_of_getElem? (i := 3) rfl)) (by decide +kernel) ⟨(Nat.le_of_ble_eq_true rfl), (Nat.le_of_ble_eq_true rfl)⟩, (hts _ (List.mem_of_getElem? (i := 2) rfl)), trivial⟩ (preS hE hP [] rfl) rfl rfl hl.1 rfl (lv_room (Nat.le_of_ble_eq_true rfl)) dX2_wrongBits_7 ⟨(Nat.le_of_ble_eq_true rfl), (Nat.le_of_ble_eq_true rfl)⟩) hP hS (fun r9 H locs hr9 hP hS => ?_)
  subst hr9
  refine lv_ixor hx hb dX2_wrongBits_10 ?_
  refine kRi (va_runS (As := [.int ((fs n) ^^^ (tv n))]) (rest := []) ⟨hx, hb, hml, hown, hts⟩ (c_J6_bitCount_0f7a4 l g ((fs n) ^^^ (tv n))) (va_cwS 1 hts gX2_wrongBits_J6_bitCount_0f7a4 rfl rfl rfl (by decide +kernel) ⟨(Nat.le_of_ble_eq_true rfl), (Nat.le_of_ble_eq_true rfl)⟩) (preS hE hP [] rfl) rfl rfl hl.1 rfl (lv_room (Nat.le_of_ble_eq_true rfl)) dX2_wrongBits_11 ⟨(Nat.le_of_ble_eq_true rfl), (Nat.le_of_ble_eq_true rfl)⟩) hP hS (fun r9 H locs hr9 hP hS => ?_)
  subst hr9
  subst hQ
  exact W.iret (v := (bc ((fs n) ^^^ (tv n)))) hx hb hr (fun t ht hW => ⟨⟨(bc ((fs n) ^^^ (tv n))), (), rfl, rfl, trivial⟩, hS.F ht⟩) hS.2.2 dX2_wrongBits_14
theorem in_X2_hasStoredParity_X2 : ∀ w ∈ wsX20, w ∈ wsX2_hasStoredParity := by decide +kernel
abbrev rm_X2_hasStoredParity : Room := { frames := 2, cells := 0, slots := 0, locals := 40 }
set_option maxRecDepth 100000 in
set_option maxHeartbeats 4000000 in
theorem c_X2_hasStoredParity (l : Launch) (g : GT) (a0 : Nat) (a1 : Nat) (a2 : Nat) (a3 : Nat) (w : Nat) (ac : Int64) (fc : Nat → Int32) (fs : Nat → Int32) (fr : Nat → Int32) (n : Nat) (hn : n < 511) : cRi l g yX2_hasStoredParity wsX2_hasStoredParity rm_X2_hasStoredParity [.ref a0, .int (nI n)] [(a0, .inr (2, [.int (nI w), .long ac, .ref a1, .ref a2, .ref a3])), (a1, .inl (g.2.1 0, 3, .inl fc)), (a2, .inl (g.2.1 0, 511, .inl fs)), (a3, .inl (g.2.1 0, 8, .inl fr))] (fun r => r = (if hsP fs n then (1 : Int32) else 0)) := by
  refine enR (y := yX2_hasStoredParity) (ws := wsX2_hasStoredParity) (av := [.ref a0, .int (nI n)]) (cc := cX2_hasStoredParity) (maxL := 2) (ret := (some .boolean)) (by decide) rfl (Nat.le_of_ble_eq_true rfl) rfl ?_
  intro p e s m below meth c ls hx hb hr hml hown hts hlocks hE hP hl
  have hK := hE.1
  have hS : va_S noA s.heap s.heap [] := va_S.rf
  generalize hQ : MQ below _ _ s _ _ _ = Q9
  have hl : lv_has ls 2 [(0, .ref a0), (1, .int (nI n))] := hl
  refine lv_aload_n hx hb dX2_hasStoredParity_0 rfl (lv_at hl 0 rfl) ?_
  refine va_get (D := g.1) (ci := 2) (v := .ref a2) (C := RX2) (T := TX2) (N := 5) hx hb hts in_X2_hasStoredParity_X2 hown hK hP 0 rfl rfl 3 (by decide) (hts _ (List.mem_of_getElem? (i := 1) rfl)) (fun _ h9 => h9) rfl dX2_hasStoredParity_1 ?_
  refine lv_iload_n hx hb dX2_hasStoredParity_4 rfl (lv_at hl 1 rfl) ?_
  refine gIald (k := n) hx hb hE hP 2 rfl (by omega) (by omega) dX2_hasStoredParity_5 ?_
  refine kRi (va_runSN (As := [.int (fs n)]) (rest := []) ⟨hx, hb, hml, hown, hts⟩ (c_X3_parity l g (fs n)) ⟨va_cnB 1 hts gX2_hasStoredParity_X3_parity_n61 rfl rfl rfl hE.2.1.2 (hts _ (List.mem_of_getElem? (i := 3) rfl)) (by decide +kernel) ⟨(Nat.le_of_ble_eq_true rfl), (Nat.le_of_ble_eq_true rfl)⟩, (hts _ (List.mem_of_getElem? (i := 2) rfl)), trivial⟩ (preS hE hP [] rfl) rfl rfl hl.1 rfl (lv_room (Nat.le_of_ble_eq_true rfl)) dX2_hasStoredParity_6 ⟨(Nat.le_of_ble_eq_true rfl), (Nat.le_of_ble_eq_true rfl)⟩) hP hS (fun r9 H locs hr9 hP hS => ?_)
  subst hr9
  refine lv_iload_n hx hb dX2_hasStoredParity_9 rfl (lv_at hl 1 rfl) ?_
  refine kRi (va_runSN (As := [.int (nI n)]) (rest := [.int (bc (fs n) &&& 1)]) ⟨hx, hb, hml, hown, hts⟩ (c_X3_trueValue l g n (by first | assumption | omega | exact Nat.le_of_ble_eq_true rfl)) ⟨va_cnB 1 hts gX2_hasStoredParity_X3_trueValue_n37 rfl rfl rfl hE.2.1.1 (hts _ (List.mem_of_getElem? (i := 3) rfl)) (by decide +kernel) ⟨(Nat.le_of_ble_eq_true rfl), (Nat.le_of_ble_eq_true rfl)⟩, (hts _ (List.mem_of_getElem? (i := 12) rfl)), trivial⟩ (preS hE hP [] rfl) rfl rfl hl.1 rfl (lv_room (Nat.le_of_ble_eq_true rfl)) dX2_hasStoredParity_10 ⟨(Nat.le_of_ble_eq_true rfl), (Nat.le_of_ble_eq_true rfl)⟩) hP hS (fun r9 H locs hr9 hP hS => ?_)
  subst hr9
  refine kRi (va_runSN (As := [.int (tv n)]) (rest := [.int (bc (fs n) &&& 1)]) ⟨hx, hb, hml, hown, hts⟩ (c_X3_parity l g (tv n)) ⟨va_cnB 1 hts gX2_hasStoredParity_X3_parity_n61 rfl rfl rfl hE.2.1.2 (hts _ (List.mem_of_getElem? (i := 3) rfl)) (by decide +kernel) ⟨(Nat.le_of_ble_eq_true rfl), (Nat.le_of_ble_eq_true rfl)⟩, (hts _ (List.mem_of_getElem? (i := 2) rfl)), trivial⟩ (preS hE hP [] rfl) rfl rfl hl.1 rfl (lv_room (Nat.le_of_ble_eq_true rfl)) dX2_hasStoredParity_13 ⟨(Nat.le_of_ble_eq_true rfl), (Nat.le_of_ble_eq_true rfl)⟩) hP hS (fun r9 H locs hr9 hP hS => ?_)
  subst hr9
  refine lv_icmp_ne (tgt := 23) hx hb dX2_hasStoredParity_16 (by decide) (fun c16 => ?_) (fun c16 => ?_)
  · refine lv_iconst (v := 0) hx hb dX2_hasStoredParity_23 (by decide) ?_
    subst hQ
    exact W.zret (v := 0) hx hb hr rfl (fun t ht hW => ⟨⟨0, (), rfl, by first | exact (if_pos (by assumption)).symm | exact (if_neg (by assumption)).symm, trivial⟩, hS.F ht⟩) hS.2.2 dX2_hasStoredParity_24
  · refine lv_iconst (v := 1) hx hb dX2_hasStoredParity_19 (by decide) ?_
    refine lv_goto (tgt := 24) hx hb dX2_hasStoredParity_20 (by decide) ?_
    subst hQ
    exact W.zret (v := 1) hx hb hr rfl (fun t ht hW => ⟨⟨1, (), rfl, by first | exact (if_pos (by assumption)).symm | exact (if_neg (by assumption)).symm, trivial⟩, hS.F ht⟩) hS.2.2 dX2_hasStoredParity_24
theorem in_X2_wrongEntries_X2 : ∀ w ∈ wsX20, w ∈ wsX2_wrongEntries := by decide +kernel
abbrev rm_X2_wrongEntries : Room := { frames := 2, cells := 0, slots := 0, locals := 40 }
set_option maxRecDepth 100000 in
set_option maxHeartbeats 4000000 in
theorem c_X2_wrongEntries (l : Launch) (g : GT) (a0 : Nat) (a1 : Nat) (a2 : Nat) (a3 : Nat) (w : Nat) (ac : Int64) (fc : Nat → Int32) (fs : Nat → Int32) (fr : Nat → Int32) (hw8 : w ≤ 8) : cRi l g yX2_wrongEntries wsX2_wrongEntries rm_X2_wrongEntries [.ref a0] [(a0, .inr (2, [.int (nI w), .long ac, .ref a1, .ref a2, .ref a3])), (a1, .inl (g.2.1 0, 3, .inl fc)), (a2, .inl (g.2.1 0, 511, .inl fs)), (a3, .inl (g.2.1 0, 8, .inl fr))] (fun r => r = (sI (weF fs) (ents w))) := by
  refine enR (y := yX2_wrongEntries) (ws := wsX2_wrongEntries) (av := [.ref a0]) (cc := cX2_wrongEntries) (maxL := 3) (ret := (some .int)) (by decide) rfl (Nat.le_of_ble_eq_true rfl) rfl ?_
  intro p e s m below meth c ls hx hb hr hml hown hts hlocks hE hP hl
  have hK := hE.1
  have hS : va_S noA s.heap s.heap [] := va_S.rf
  generalize hQ : MQ below _ _ s _ _ _ = Q9
  have hl : lv_has ls 3 [(0, .ref a0)] := hl
  have hgr := gr_le w hw8
  have hen := ents_le w hw8
  refine lv_iconst (v := 0) hx hb dX2_wrongEntries_0 (by decide) ?_
  refine lv_istore_n (lv' := [(1, .int 0), (0, .ref a0)]) hx hb dX2_wrongEntries_1 rfl hl (by decide) rfl (fun ls hl => ?_)
  refine lv_iconst (v := 0) hx hb dX2_wrongEntries_2 (by decide) ?_
  refine lv_istore_n (lv' := [(2, .int 0), (1, .int 0), (0, .ref a0)]) hx hb dX2_wrongEntries_3 rfl hl (by decide) rfl (fun ls hl => ?_)
  have lp4 : ∀ (n9 : Nat) (i : Nat), ents w - i < n9 → (i ≤ ents w) → ∀ (x1 : Int32), x1 = sI (weF fs) i → ∀ (H : Heap) (locs : List Loc), va_P g.1 vwCl [(a0, .inr (2, [.int (nI w), .long ac, .ref a1, .ref a2, .ref a3])), (a1, .inl (g.2.1 0, 3, .inl fc)), (a2, .inl (g.2.1 0, 511, .inl fs)), (a3, .inl (g.2.1 0, 8, .inl fr))] H → va_S noA s.heap H locs → ∀ (ls : Array Slot), lv_has ls 3 [(2, .int (nI i)), (1, .int x1), (0, .ref a0)] → W p l e rm_X2_wrongEntries s m [Value.ref a0].toArray below meth c H locs 0 0 Q9 (F0 m 4 ls []) := by
    intro n9
    induction n9 with
    | zero => intro i h9; exact absurd h9 (Nat.not_lt_zero _)
    | succ n9 ih4 =>
      intro i hm4 hi
      intro x1 e_x1; subst e_x1
      intro H locs hP hS ls hl
      refine lv_iload_n hx hb dX2_wrongEntries_4 rfl (lv_at hl 0 rfl) ?_
      refine lv_aload_n hx hb dX2_wrongEntries_5 rfl (lv_at hl 2 rfl) ?_
      refine kRi (va_runV (As := []) (rest := [.int (nI i)]) ⟨hx, hb, hml, hown, hts⟩ (c_X2_entries l g a0 a1 a2 a3 w ac fc fs fr (by first | assumption | omega | exact Nat.le_of_ble_eq_true rfl)) (cwV 0 hts gX2_wrongEntries_X2_entries rfl rfl rfl (by decide +kernel) ⟨(Nat.le_of_ble_eq_true rfl), (Nat.le_of_ble_eq_true rfl)⟩) (preV (RX2, TX2, 5) hE hP [0, 1, 2, 3] rfl rfl) rfl rfl hl.1 rfl (lv_room (Nat.le_of_ble_eq_true rfl)) dX2_wrongEntries_6 ⟨(Nat.le_of_ble_eq_true rfl), (Nat.le_of_ble_eq_true rfl)⟩) hP hS (fun r9 H locs hr9 hP hS => ?_)
      subst hr9
      refine lv_icmp_ge (tgt := 34) hx hb dX2_wrongEntries_9 (by decide) (fun c9 => ?_) (fun c9 => ?_)
      · have n9 : ents w ≤ i := (nI_leI (a := ents w) (b := i) (by omega) (by omega)).mp c9
        refine lv_iload_n hx hb dX2_wrongEntries_34 rfl (lv_at hl 1 rfl) ?_
        have e9 : i = ents w := by omega
        subst hQ
        exact W.iret (v := (sI (weF fs) i)) hx hb hr (fun t ht hW => ⟨⟨(sI (weF fs) i), (), rfl, by rw [e9], trivial⟩, hS.F ht⟩) hS.2.2 dX2_wrongEntries_35
      · have n9 : i < ents w := Nat.lt_of_not_le (fun h9 => c9 ((nI_leI (a := ents w) (b := i) (by omega) (by omega)).mpr h9))
        refine lv_aload_n hx hb dX2_wrongEntries_12 rfl (lv_at hl 2 rfl) ?_
        refine va_get (D := g.1) (ci := 2) (v := .ref a2) (C := RX2) (T := TX2) (N := 5) hx hb hts in_X2_wrongEntries_X2 hown hK hP 0 rfl rfl 3 (by decide) (hts _ (List.mem_of_getElem? (i := 1) rfl)) (fun _ h9 => h9) rfl dX2_wrongEntries_13 ?_
        refine lv_iload_n hx hb dX2_wrongEntries_16 rfl (lv_at hl 0 rfl) ?_
        refine gIald (k := i) hx hb hE hP 2 rfl (by omega) (by omega) dX2_wrongEntries_17 ?_
        refine lv_iload_n hx hb dX2_wrongEntries_18 rfl (lv_at hl 0 rfl) ?_
        refine kRi (va_runSN (As := [.int (nI i)]) (rest := [.int (fs i)]) ⟨hx, hb, hml, hown, hts⟩ (c_X3_trueValue l g i (by first | assumption | omega | exact Nat.le_of_ble_eq_true rfl)) ⟨va_cnB 1 hts gX2_wrongEntries_X3_trueValue_n37 rfl rfl rfl hE.2.1.1 (hts _ (List.mem_of_getElem? (i := 13) rfl)) (by decide +kernel) ⟨(Nat.le_of_ble_eq_true rfl), (Nat.le_of_ble_eq_true rfl)⟩, (hts _ (List.mem_of_getElem? (i := 12) rfl)), trivial⟩ (preS hE hP [] rfl) rfl rfl hl.1 rfl (lv_room (Nat.le_of_ble_eq_true rfl)) dX2_wrongEntries_19 ⟨(Nat.le_of_ble_eq_true rfl), (Nat.le_of_ble_eq_true rfl)⟩) hP hS (fun r9 H locs hr9 hP hS => ?_)
        subst hr9
        refine lv_icmp_eq (tgt := 28) hx hb dX2_wrongEntries_22 (by decide) (fun c22 => ?_) (fun c22 => ?_)
        · refine lv_iinc (v := (nI (i + 1))) (lv' := [(2, .int (nI (i + 1))), (1, .int (sI (weF fs) i)), (0, .ref a0)]) hx hb dX2_wrongEntries_28 hl (k := 0) rfl (nI_add (i) 1) (by decide) rfl (fun ls hl => ?_)
          refine lv_goto (tgt := 4) hx hb dX2_wrongEntries_31 (by decide) ?_
          exact ih4 (i + 1) (by omega) (by omega) (sI (weF fs) i) (by first | (show _ = sI (weF fs) i + weF fs i; rw [weF, if_pos (by assumption), Int32.add_zero]) | (show _ = sI (weF fs) i + weF fs i; rw [weF, if_neg (by assumption)])) _ _ hP hS _ (lv_sub hl [0, 1, 2] rfl)
        · refine lv_iinc (v := (sI (weF fs) i) + 1) (lv' := [(1, .int ((sI (weF fs) i) + 1)), (2, .int (nI i)), (0, .ref a0)]) hx hb dX2_wrongEntries_25 hl (k := 1) rfl rfl (by decide) rfl (fun ls hl => ?_)
          refine lv_iinc (v := (nI (i + 1))) (lv' := [(2, .int (nI (i + 1))), (1, .int ((sI (weF fs) i) + 1)), (0, .ref a0)]) hx hb dX2_wrongEntries_28 hl (k := 1) rfl (nI_add (i) 1) (by decide) rfl (fun ls hl => ?_)
          refine lv_goto (tgt := 4) hx hb dX2_wrongEntries_31 (by decide) ?_
          exact ih4 (i + 1) (by omega) (by omega) ((sI (weF fs) i) + 1) (by first | (show _ = sI (weF fs) i + weF fs i; rw [weF, if_pos (by assumption), Int32.add_zero]) | (show _ = sI (weF fs) i + weF fs i; rw [weF, if_neg (by assumption)])) _ _ hP hS _ (lv_sub hl [0, 1, 2] rfl)
  exact lp4 ((ents w - 0) + 1) 0 (Nat.lt_succ_self _) (by omega) 0 rfl _ _ hP hS _ (lv_sub hl [0, 1, 2] rfl)
abbrev rm_X2_entriesFoundByParity : Room := { frames := 3, cells := 0, slots := 0, locals := 61 }
set_option maxRecDepth 100000 in
set_option maxHeartbeats 4000000 in
theorem c_X2_entriesFoundByParity (l : Launch) (g : GT) (a0 : Nat) (a1 : Nat) (a2 : Nat) (a3 : Nat) (w : Nat) (ac : Int64) (fc : Nat → Int32) (fs : Nat → Int32) (fr : Nat → Int32) (hw8 : w ≤ 8) : cRi l g yX2_entriesFoundByParity wsX2_entriesFoundByParity rm_X2_entriesFoundByParity [.ref a0] [(a0, .inr (2, [.int (nI w), .long ac, .ref a1, .ref a2, .ref a3])), (a1, .inl (g.2.1 0, 3, .inl fc)), (a2, .inl (g.2.1 0, 511, .inl fs)), (a3, .inl (g.2.1 0, 8, .inl fr))] (fun r => r = (sI (epF fs) (ents w))) := by
  refine enR (y := yX2_entriesFoundByParity) (ws := wsX2_entriesFoundByParity) (av := [.ref a0]) (cc := cX2_entriesFoundByParity) (maxL := 3) (ret := (some .int)) (by decide) rfl (Nat.le_of_ble_eq_true rfl) rfl ?_
  intro p e s m below meth c ls hx hb hr hml hown hts hlocks hE hP hl
  have hK := hE.1
  have hS : va_S noA s.heap s.heap [] := va_S.rf
  generalize hQ : MQ below _ _ s _ _ _ = Q9
  have hl : lv_has ls 3 [(0, .ref a0)] := hl
  have hgr := gr_le w hw8
  have hen := ents_le w hw8
  refine lv_iconst (v := 0) hx hb dX2_entriesFoundByParity_0 (by decide) ?_
  refine lv_istore_n (lv' := [(1, .int 0), (0, .ref a0)]) hx hb dX2_entriesFoundByParity_1 rfl hl (by decide) rfl (fun ls hl => ?_)
  refine lv_iconst (v := 0) hx hb dX2_entriesFoundByParity_2 (by decide) ?_
  refine lv_istore_n (lv' := [(2, .int 0), (1, .int 0), (0, .ref a0)]) hx hb dX2_entriesFoundByParity_3 rfl hl (by decide) rfl (fun ls hl => ?_)
  have lp4 : ∀ (n9 : Nat) (i : Nat), ents w - i < n9 → (i ≤ ents w) → ∀ (x1 : Int32), x1 = sI (epF fs) i → ∀ (H : Heap) (locs : List Loc), va_P g.1 vwCl [(a0, .inr (2, [.int (nI w), .long ac, .ref a1, .ref a2, .ref a3])), (a1, .inl (g.2.1 0, 3, .inl fc)), (a2, .inl (g.2.1 0, 511, .inl fs)), (a3, .inl (g.2.1 0, 8, .inl fr))] H → va_S noA s.heap H locs → ∀ (ls : Array Slot), lv_has ls 3 [(2, .int (nI i)), (1, .int x1), (0, .ref a0)] → W p l e rm_X2_entriesFoundByParity s m [Value.ref a0].toArray below meth c H locs 0 0 Q9 (F0 m 4 ls []) := by
    intro n9
    induction n9 with
    | zero => intro i h9; exact absurd h9 (Nat.not_lt_zero _)
    | succ n9 ih4 =>
      intro i hm4 hi
      intro x1 e_x1; subst e_x1
      intro H locs hP hS ls hl
      refine lv_iload_n hx hb dX2_entriesFoundByParity_4 rfl (lv_at hl 0 rfl) ?_
      refine lv_aload_n hx hb dX2_entriesFoundByParity_5 rfl (lv_at hl 2 rfl) ?_
      refine kRi (va_runV (As := []) (rest := [.int (nI i)]) ⟨hx, hb, hml, hown, hts⟩ (c_X2_entries l g a0 a1 a2 a3 w ac fc fs fr (by first | assumption | omega | exact Nat.le_of_ble_eq_true rfl)) (cwV 0 hts gX2_entriesFoundByParity_X2_entries rfl rfl rfl (by decide +kernel) ⟨(Nat.le_of_ble_eq_true rfl), (Nat.le_of_ble_eq_true rfl)⟩) (preV (RX2, TX2, 5) hE hP [0, 1, 2, 3] rfl rfl) rfl rfl hl.1 rfl (lv_room (Nat.le_of_ble_eq_true rfl)) dX2_entriesFoundByParity_6 ⟨(Nat.le_of_ble_eq_true rfl), (Nat.le_of_ble_eq_true rfl)⟩) hP hS (fun r9 H locs hr9 hP hS => ?_)
      subst hr9
      refine lv_icmp_ge (tgt := 29) hx hb dX2_entriesFoundByParity_9 (by decide) (fun c9 => ?_) (fun c9 => ?_)
      · have n9 : ents w ≤ i := (nI_leI (a := ents w) (b := i) (by omega) (by omega)).mp c9
        refine lv_iload_n hx hb dX2_entriesFoundByParity_29 rfl (lv_at hl 1 rfl) ?_
        have e9 : i = ents w := by omega
        subst hQ
        exact W.iret (v := (sI (epF fs) i)) hx hb hr (fun t ht hW => ⟨⟨(sI (epF fs) i), (), rfl, by rw [e9], trivial⟩, hS.F ht⟩) hS.2.2 dX2_entriesFoundByParity_30
      · have n9 : i < ents w := Nat.lt_of_not_le (fun h9 => c9 ((nI_leI (a := ents w) (b := i) (by omega) (by omega)).mpr h9))
        refine lv_aload_n hx hb dX2_entriesFoundByParity_12 rfl (lv_at hl 2 rfl) ?_
        refine lv_iload_n hx hb dX2_entriesFoundByParity_13 rfl (lv_at hl 0 rfl) ?_
        refine kRi (va_runV (As := [.int (nI i)]) (rest := []) ⟨hx, hb, hml, hown, hts⟩ (c_X2_hasStoredParity l g a0 a1 a2 a3 w ac fc fs fr i (by first | assumption | omega | exact Nat.le_of_ble_eq_true rfl)) (cwV 1 hts gX2_entriesFoundByParity_X2_hasStoredParity rfl rfl rfl (by decide +kernel) ⟨(Nat.le_of_ble_eq_true rfl), (Nat.le_of_ble_eq_true rfl)⟩) (preV (RX2, TX2, 5) hE hP [0, 1, 2, 3] rfl rfl) rfl rfl hl.1 rfl (lv_room (Nat.le_of_ble_eq_true rfl)) dX2_entriesFoundByParity_14 ⟨(Nat.le_of_ble_eq_true rfl), (Nat.le_of_ble_eq_true rfl)⟩) hP hS (fun r9 H locs hr9 hP hS => ?_)
        subst hr9
        refine lv_if_ne (tgt := 23) hx hb dX2_entriesFoundByParity_17 (by decide) (fun c17 => ?_) (fun c17 => ?_)
        · have b17 : hsP fs i := bz_t c17
          refine lv_iinc (v := (nI (i + 1))) (lv' := [(2, .int (nI (i + 1))), (1, .int (sI (epF fs) i)), (0, .ref a0)]) hx hb dX2_entriesFoundByParity_23 hl (k := 0) rfl (nI_add (i) 1) (by decide) rfl (fun ls hl => ?_)
          refine lv_goto (tgt := 4) hx hb dX2_entriesFoundByParity_26 (by decide) ?_
          exact ih4 (i + 1) (by omega) (by omega) (sI (epF fs) i) (by first | (show _ = sI (epF fs) i + epF fs i; rw [epF, if_pos (by assumption), Int32.add_zero]) | (show _ = sI (epF fs) i + epF fs i; rw [epF, if_neg (by assumption)])) _ _ hP hS _ (lv_sub hl [0, 1, 2] rfl)
        · have b17 : ¬ (hsP fs i) := bz_f c17
          refine lv_iinc (v := (sI (epF fs) i) + 1) (lv' := [(1, .int ((sI (epF fs) i) + 1)), (2, .int (nI i)), (0, .ref a0)]) hx hb dX2_entriesFoundByParity_20 hl (k := 1) rfl rfl (by decide) rfl (fun ls hl => ?_)
          refine lv_iinc (v := (nI (i + 1))) (lv' := [(2, .int (nI (i + 1))), (1, .int ((sI (epF fs) i) + 1)), (0, .ref a0)]) hx hb dX2_entriesFoundByParity_23 hl (k := 1) rfl (nI_add (i) 1) (by decide) rfl (fun ls hl => ?_)
          refine lv_goto (tgt := 4) hx hb dX2_entriesFoundByParity_26 (by decide) ?_
          exact ih4 (i + 1) (by omega) (by omega) ((sI (epF fs) i) + 1) (by first | (show _ = sI (epF fs) i + epF fs i; rw [epF, if_pos (by assumption), Int32.add_zero]) | (show _ = sI (epF fs) i + epF fs i; rw [epF, if_neg (by assumption)])) _ _ hP hS _ (lv_sub hl [0, 1, 2] rfl)
  exact lp4 ((ents w - 0) + 1) 0 (Nat.lt_succ_self _) (by omega) 0 rfl _ _ hP hS _ (lv_sub hl [0, 1, 2] rfl)
abbrev rm_X2_allWrongBits : Room := { frames := 2, cells := 0, slots := 0, locals := 41 }
set_option maxRecDepth 100000 in
set_option maxHeartbeats 4000000 in
theorem c_X2_allWrongBits (l : Launch) (g : GT) (a0 : Nat) (a1 : Nat) (a2 : Nat) (a3 : Nat) (w : Nat) (ac : Int64) (fc : Nat → Int32) (fs : Nat → Int32) (fr : Nat → Int32) (hw8 : w ≤ 8) : cRi l g yX2_allWrongBits wsX2_allWrongBits rm_X2_allWrongBits [.ref a0] [(a0, .inr (2, [.int (nI w), .long ac, .ref a1, .ref a2, .ref a3])), (a1, .inl (g.2.1 0, 3, .inl fc)), (a2, .inl (g.2.1 0, 511, .inl fs)), (a3, .inl (g.2.1 0, 8, .inl fr))] (fun r => r = (sI (wbF fs) (ents w))) := by
  refine enR (y := yX2_allWrongBits) (ws := wsX2_allWrongBits) (av := [.ref a0]) (cc := cX2_allWrongBits) (maxL := 3) (ret := (some .int)) (by decide) rfl (Nat.le_of_ble_eq_true rfl) rfl ?_
  intro p e s m below meth c ls hx hb hr hml hown hts hlocks hE hP hl
  have hK := hE.1
  have hS : va_S noA s.heap s.heap [] := va_S.rf
  generalize hQ : MQ below _ _ s _ _ _ = Q9
  have hl : lv_has ls 3 [(0, .ref a0)] := hl
  have hgr := gr_le w hw8
  have hen := ents_le w hw8
  refine lv_iconst (v := 0) hx hb dX2_allWrongBits_0 (by decide) ?_
  refine lv_istore_n (lv' := [(1, .int 0), (0, .ref a0)]) hx hb dX2_allWrongBits_1 rfl hl (by decide) rfl (fun ls hl => ?_)
  refine lv_iconst (v := 0) hx hb dX2_allWrongBits_2 (by decide) ?_
  refine lv_istore_n (lv' := [(2, .int 0), (1, .int 0), (0, .ref a0)]) hx hb dX2_allWrongBits_3 rfl hl (by decide) rfl (fun ls hl => ?_)
  have lp4 : ∀ (n9 : Nat) (i : Nat), ents w - i < n9 → (i ≤ ents w) → ∀ (x1 : Int32), x1 = sI (wbF fs) i → ∀ (H : Heap) (locs : List Loc), va_P g.1 vwCl [(a0, .inr (2, [.int (nI w), .long ac, .ref a1, .ref a2, .ref a3])), (a1, .inl (g.2.1 0, 3, .inl fc)), (a2, .inl (g.2.1 0, 511, .inl fs)), (a3, .inl (g.2.1 0, 8, .inl fr))] H → va_S noA s.heap H locs → ∀ (ls : Array Slot), lv_has ls 3 [(2, .int (nI i)), (1, .int x1), (0, .ref a0)] → W p l e rm_X2_allWrongBits s m [Value.ref a0].toArray below meth c H locs 0 0 Q9 (F0 m 4 ls []) := by
    intro n9
    induction n9 with
    | zero => intro i h9; exact absurd h9 (Nat.not_lt_zero _)
    | succ n9 ih4 =>
      intro i hm4 hi
      intro x1 e_x1; subst e_x1
      intro H locs hP hS ls hl
      refine lv_iload_n hx hb dX2_allWrongBits_4 rfl (lv_at hl 0 rfl) ?_
      refine lv_aload_n hx hb dX2_allWrongBits_5 rfl (lv_at hl 2 rfl) ?_
      refine kRi (va_runV (As := []) (rest := [.int (nI i)]) ⟨hx, hb, hml, hown, hts⟩ (c_X2_entries l g a0 a1 a2 a3 w ac fc fs fr (by first | assumption | omega | exact Nat.le_of_ble_eq_true rfl)) (cwV 0 hts gX2_allWrongBits_X2_entries rfl rfl rfl (by decide +kernel) ⟨(Nat.le_of_ble_eq_true rfl), (Nat.le_of_ble_eq_true rfl)⟩) (preV (RX2, TX2, 5) hE hP [0, 1, 2, 3] rfl rfl) rfl rfl hl.1 rfl (lv_room (Nat.le_of_ble_eq_true rfl)) dX2_allWrongBits_6 ⟨(Nat.le_of_ble_eq_true rfl), (Nat.le_of_ble_eq_true rfl)⟩) hP hS (fun r9 H locs hr9 hP hS => ?_)
      subst hr9
      refine lv_icmp_ge (tgt := 26) hx hb dX2_allWrongBits_9 (by decide) (fun c9 => ?_) (fun c9 => ?_)
      · have n9 : ents w ≤ i := (nI_leI (a := ents w) (b := i) (by omega) (by omega)).mp c9
        refine lv_iload_n hx hb dX2_allWrongBits_26 rfl (lv_at hl 1 rfl) ?_
        have e9 : i = ents w := by omega
        subst hQ
        exact W.iret (v := (sI (wbF fs) i)) hx hb hr (fun t ht hW => ⟨⟨(sI (wbF fs) i), (), rfl, by rw [e9], trivial⟩, hS.F ht⟩) hS.2.2 dX2_allWrongBits_27
      · have n9 : i < ents w := Nat.lt_of_not_le (fun h9 => c9 ((nI_leI (a := ents w) (b := i) (by omega) (by omega)).mpr h9))
        refine lv_iload_n hx hb dX2_allWrongBits_12 rfl (lv_at hl 1 rfl) ?_
        refine lv_aload_n hx hb dX2_allWrongBits_13 rfl (lv_at hl 2 rfl) ?_
        refine lv_iload_n hx hb dX2_allWrongBits_14 rfl (lv_at hl 0 rfl) ?_
        refine kRi (va_runV (As := [.int (nI i)]) (rest := [.int (sI (wbF fs) i)]) ⟨hx, hb, hml, hown, hts⟩ (c_X2_wrongBits l g a0 a1 a2 a3 w ac fc fs fr i (by first | assumption | omega | exact Nat.le_of_ble_eq_true rfl)) (cwV 1 hts gX2_allWrongBits_X2_wrongBits rfl rfl rfl (by decide +kernel) ⟨(Nat.le_of_ble_eq_true rfl), (Nat.le_of_ble_eq_true rfl)⟩) (preV (RX2, TX2, 5) hE hP [0, 1, 2, 3] rfl rfl) rfl rfl hl.1 rfl (lv_room (Nat.le_of_ble_eq_true rfl)) dX2_allWrongBits_15 ⟨(Nat.le_of_ble_eq_true rfl), (Nat.le_of_ble_eq_true rfl)⟩) hP hS (fun r9 H locs hr9 hP hS => ?_)
        subst hr9
        refine lv_iadd hx hb dX2_allWrongBits_18 ?_
        refine lv_istore_n (lv' := [(1, .int ((sI (wbF fs) i) + (wbF fs i))), (2, .int (nI i)), (0, .ref a0)]) hx hb dX2_allWrongBits_19 rfl hl (by decide) rfl (fun ls hl => ?_)
        refine lv_iinc (v := (nI (i + 1))) (lv' := [(2, .int (nI (i + 1))), (1, .int ((sI (wbF fs) i) + (wbF fs i))), (0, .ref a0)]) hx hb dX2_allWrongBits_20 hl (k := 1) rfl (nI_add (i) 1) (by decide) rfl (fun ls hl => ?_)
        refine lv_goto (tgt := 4) hx hb dX2_allWrongBits_23 (by decide) ?_
        exact ih4 (i + 1) (by omega) (by omega) ((sI (wbF fs) i) + (wbF fs i)) rfl _ _ hP hS _ (lv_sub hl [0, 1, 2] rfl)
  exact lp4 ((ents w - 0) + 1) 0 (Nat.lt_succ_self _) (by omega) 0 rfl _ _ hP hS _ (lv_sub hl [0, 1, 2] rfl)
