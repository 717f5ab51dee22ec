/-! STATE, the other methods: printed by wip/whole/gen/spec_state.py -/
theorem in_X2_start_X2 : ∀ w ∈ wsX20, w ∈ wsX2_start := by decide +kernel
abbrev rm_X2_start : Room := { frames := 2, cells := 0, slots := 0, locals := 40 }
set_option maxRecDepth 100000 in
set_option maxHeartbeats 4000000 in
theorem c_X2_start (l : Launch) (g : GT) (a0 : Nat) (a1 : Nat) (a2 : Nat) (a3 : Nat) (w : Nat) (ac : Int64) (fc : Nat → Int32) (fs : Nat → Int32) (fr : Nat → Int32) (w2 : Nat) (hw2 : w2 ≤ 8) : cUv l g yX2_start wsX2_start rm_X2_start [.ref a0, .int (nI w2)] [(a0, .inr (2, [.int (nI w), .long ac, .ref a1, .ref a2, .ref a3])), (a1, .inl (g.2.1 0, 3, .inl fc)), (a2, .inl (g.2.1 0, 511, .inl fs)), (a3, .inl (g.2.1 0, 8, .inl fr))] (fun (_ : Unit) => True) (fun _ => [(a0, .inr (2, [.int (nI w2), .long 0, .ref a1, .ref a2, .ref a3])), (a1, .inl (g.2.1 0, 3, .inl fc)), (a2, .inl (g.2.1 0, 511, .inl (fillT fs (ents w2)))), (a3, .inl (g.2.1 0, 8, .inl (fun _ => 0)))]) := by
  refine enU (y := yX2_start) (ws := wsX2_start) (av := [.ref a0, .int (nI w2)]) (cc := cX2_start) (maxL := 3) (ret := none) (by decide) rfl (Nat.le_of_ble_eq_true rfl) rfl ?_
  intro p e s m below meth c ls hx hb hr hml hown hts hlocks hE hP hD hl
  have hK := hE.1
  have hS : va_S (va_Ad [(a0, .inr (2, [.int (nI w), .long ac, .ref a1, .ref a2, .ref a3])), (a1, .inl (g.2.1 0, 3, .inl fc)), (a2, .inl (g.2.1 0, 511, .inl fs)), (a3, .inl (g.2.1 0, 8, .inl fr))]) s.heap s.heap [] := va_S.rf
  generalize hQ : MQ below _ _ s _ _ _ = Q9
  have hl : lv_has ls 3 [(0, .ref a0), (1, .int (nI w2))] := hl
  have hen := ents_le w2 hw2
  refine lv_aload_n hx hb dX2_start_0 rfl (lv_at hl 0 rfl) ?_
  refine lv_iload_n hx hb dX2_start_1 rfl (lv_at hl 1 rfl) ?_
  refine va_put (D := g.1) (ci := 2) (v := .int (nI w2)) (ty := .int) (C := RX2) (T := TX2) (N := 5) hx hb hts in_X2_start_X2 tyX2 tyX2_ok nmX2 hown hK hP hD hS 0 rfl rfl 0 (by decide) (hts _ (List.mem_of_getElem? (i := 1) rfl)) (fun _ h9 => h9) rfl (by decide +kernel) rfl rfl (Nat.le_of_ble_eq_true rfl) dX2_start_2 (fun H locs hP hD hS => ?_)
  have hP : va_P g.1 vwCl [(a0, .inr (2, [.int (nI w2), .long ac, .ref a1, .ref a2, .ref a3])), (a1, .inl (g.2.1 0, 3, .inl fc)), (a2, .inl (g.2.1 0, 511, .inl fs)), (a3, .inl (g.2.1 0, 8, .inl fr))] _ := hP
  have hD : va_D (va_Ad [(a0, .inr (2, [.int (nI w), .long ac, .ref a1, .ref a2, .ref a3])), (a1, .inl (g.2.1 0, 3, .inl fc)), (a2, .inl (g.2.1 0, 511, .inl fs)), (a3, .inl (g.2.1 0, 8, .inl fr))]) [(a0, .inr (2, [.int (nI w2), .long ac, .ref a1, .ref a2, .ref a3])), (a1, .inl (g.2.1 0, 3, .inl fc)), (a2, .inl (g.2.1 0, 511, .inl fs)), (a3, .inl (g.2.1 0, 8, .inl fr))] := hD
  refine lv_aload_n hx hb dX2_start_5 rfl (lv_at hl 0 rfl) ?_
  refine lv_lconst (v := 0) hx hb dX2_start_6 (by decide) ?_
  refine va_put (D := g.1) (ci := 2) (v := .long 0) (ty := .long) (C := RX2) (T := TX2) (N := 5) hx hb hts in_X2_start_X2 tyX2 tyX2_ok nmX2 hown hK hP hD hS 0 rfl rfl 1 (by decide) (hts _ (List.mem_of_getElem? (i := 2) rfl)) (fun _ h9 => h9) rfl (by decide +kernel) rfl rfl (Nat.le_of_ble_eq_true rfl) dX2_start_7 (fun H locs hP hD hS => ?_)
  have hP : va_P g.1 vwCl [(a0, .inr (2, [.int (nI w2), .long 0, .ref a1, .ref a2, .ref a3])), (a1, .inl (g.2.1 0, 3, .inl fc)), (a2, .inl (g.2.1 0, 511, .inl fs)), (a3, .inl (g.2.1 0, 8, .inl fr))] _ := hP
  have hD : va_D (va_Ad [(a0, .inr (2, [.int (nI w), .long ac, .ref a1, .ref a2, .ref a3])), (a1, .inl (g.2.1 0, 3, .inl fc)), (a2, .inl (g.2.1 0, 511, .inl fs)), (a3, .inl (g.2.1 0, 8, .inl fr))]) [(a0, .inr (2, [.int (nI w2), .long 0, .ref a1, .ref a2, .ref a3])), (a1, .inl (g.2.1 0, 3, .inl fc)), (a2, .inl (g.2.1 0, 511, .inl fs)), (a3, .inl (g.2.1 0, 8, .inl fr))] := hD
  refine lv_iconst (v := 0) hx hb dX2_start_10 (by decide) ?_
  refine lv_istore_n (lv' := [(2, .int 0), (0, .ref a0), (1, .int (nI w2))]) hx hb dX2_start_11 rfl hl (by decide) rfl (fun ls hl => ?_)
  have lp12 : ∀ (n9 : Nat) (i : Nat), ents w2 - i < n9 → (i ≤ ents w2) → ∀ (f2 : Nat → Int32), f2 = fillT fs i → ∀ (H : Heap) (locs : List Loc), va_P g.1 vwCl [(a0, .inr (2, [.int (nI w2), .long 0, .ref a1, .ref a2, .ref a3])), (a1, .inl (g.2.1 0, 3, .inl fc)), (a2, .inl (g.2.1 0, 511, .inl f2)), (a3, .inl (g.2.1 0, 8, .inl fr))] H → va_D (va_Ad [(a0, .inr (2, [.int (nI w), .long ac, .ref a1, .ref a2, .ref a3])), (a1, .inl (g.2.1 0, 3, .inl fc)), (a2, .inl (g.2.1 0, 511, .inl fs)), (a3, .inl (g.2.1 0, 8, .inl fr))]) [(a0, .inr (2, [.int (nI w2), .long 0, .ref a1, .ref a2, .ref a3])), (a1, .inl (g.2.1 0, 3, .inl fc)), (a2, .inl (g.2.1 0, 511, .inl f2)), (a3, .inl (g.2.1 0, 8, .inl fr))] → va_S (va_Ad [(a0, .inr (2, [.int (nI w), .long ac, .ref a1, .ref a2, .ref a3])), (a1, .inl (g.2.1 0, 3, .inl fc)), (a2, .inl (g.2.1 0, 511, .inl fs)), (a3, .inl (g.2.1 0, 8, .inl fr))]) s.heap H locs → ∀ (ls : Array Slot), lv_has ls 3 [(2, .int (nI i)), (0, .ref a0), (1, .int (nI w2))] → W p l e rm_X2_start s m [Value.ref a0, .int (nI w2)].toArray below meth c H locs 0 0 Q9 (F0 m 12 ls []) := by
    intro n9
    induction n9 with
    | zero => intro i h9; exact absurd h9 (Nat.not_lt_zero _)
    | succ n9 ih12 =>
      intro i hm12 hi
      intro f2 e_f2; subst e_f2
      intro H locs hP hD hS ls hl
      refine lv_iload_n hx hb dX2_start_12 rfl (lv_at hl 0 rfl) ?_
      refine lv_aload_n hx hb dX2_start_13 rfl (lv_at hl 1 rfl) ?_
      refine kRi (va_runV (As := []) (rest := [.int (nI i)]) ⟨hx, hb, hml, hown, hts⟩ (c_X2_entries l g a0 a1 a2 a3 w2 0 fc (fillT fs i) fr (by first | assumption | omega | exact Nat.le_of_ble_eq_true rfl)) (cwV 0 hts gX2_start_X2_entries rfl rfl rfl (by decide +kernel) ⟨(Nat.le_of_ble_eq_true rfl), (Nat.le_of_ble_eq_true rfl)⟩) (preV (RX2, TX2, 5) hE hP [0, 1, 2, 3] rfl rfl) rfl rfl hl.1 rfl (lv_room (Nat.le_of_ble_eq_true rfl)) dX2_start_14 ⟨(Nat.le_of_ble_eq_true rfl), (Nat.le_of_ble_eq_true rfl)⟩) hP hS (fun r9 H locs hr9 hP hS => ?_)
      subst hr9
      refine lv_icmp_ge (tgt := 36) hx hb dX2_start_17 (by decide) (fun c17 => ?_) (fun c17 => ?_)
      · have n17 : ents w2 ≤ i := (nI_leI (a := ents w2) (b := i) (by omega) (by omega)).mp c17
        have e9 : i = ents w2 := by omega
        refine lv_aload_n hx hb dX2_start_36 rfl (lv_at hl 1 rfl) ?_
        refine va_get (D := g.1) (ci := 2) (v := .ref a3) (C := RX2) (T := TX2) (N := 5) hx hb hts in_X2_start_X2 hown hK hP 0 rfl rfl 4 (by decide) (hts _ (List.mem_of_getElem? (i := 4) rfl)) (fun _ h9 => h9) rfl dX2_start_37 ?_
        refine lv_iconst (v := 0) hx hb dX2_start_40 (by decide) ?_
        refine kUv (fun _ => [(a0, .inr (2, [.int (nI w2), .long 0, .ref a1, .ref a2, .ref a3])), (a1, .inl (g.2.1 0, 3, .inl fc)), (a2, .inl (g.2.1 0, 511, .inl (fillT fs i))), (a3, .inl (g.2.1 0, 8, .inl (fun _ => 0)))]) (va_runS (As := [.ref a3, .int 0]) (rest := []) ⟨hx, hb, hml, hown, hts⟩ (c_J7_fill_53178 l g a3 8 fr 0 (by first | assumption | omega | exact Nat.le_of_ble_eq_true rfl)) (va_cwS 2 hts gX2_start_J7_fill_53178 rfl rfl rfl (by decide +kernel) ⟨(Nat.le_of_ble_eq_true rfl), (Nat.le_of_ble_eq_true rfl)⟩) (preSd hE hP hD [3] (by decide) rfl) rfl rfl hl.1 rfl (lv_room (Nat.le_of_ble_eq_true rfl)) dX2_start_41 ⟨(Nat.le_of_ble_eq_true rfl), (Nat.le_of_ble_eq_true rfl)⟩) hP hD hS [3] [0, 1, 2] 4 [a0, a1, a2, a3] [(a0, .inr (2, [.int (nI w2), .long 0, .ref a1, .ref a2, .ref a3])), (a1, .inl (g.2.1 0, 3, .inl fc)), (a2, .inl (g.2.1 0, 511, .inl (fillT fs i)))] rfl rfl rfl (fun _ => rfl) (fun _ => rfl) (fun _ => rfl) rfl (by decide) (fun _ H locs hr9 hP hD hS => ?_)
        subst hQ
        have hP9 : va_P g.1 vwCl [(a0, .inr (2, [.int (nI w2), .long 0, .ref a1, .ref a2, .ref a3])), (a1, .inl (g.2.1 0, 3, .inl fc)), (a2, .inl (g.2.1 0, 511, .inl (fillT fs (ents w2)))), (a3, .inl (g.2.1 0, 8, .inl (fun _ => 0)))] H := by rw [e9] at hP; exact hP
        exact W.vret hx hb hr (fun t ht hW => ⟨⟨(), rfl, trivial, by show va_P g.1 vwCl _ t.heap; rw [ht]; exact hP9⟩, hS.F ht⟩) hS.2.2 dX2_start_44
      · have n17 : i < ents w2 := Nat.lt_of_not_le (fun h9 => c17 ((nI_leI (a := ents w2) (b := i) (by omega) (by omega)).mpr h9))
        refine lv_aload_n hx hb dX2_start_20 rfl (lv_at hl 1 rfl) ?_
        refine va_get (D := g.1) (ci := 2) (v := .ref a2) (C := RX2) (T := TX2) (N := 5) hx hb hts in_X2_start_X2 hown hK hP 0 rfl rfl 3 (by decide) (hts _ (List.mem_of_getElem? (i := 3) rfl)) (fun _ h9 => h9) rfl dX2_start_21 ?_
        refine lv_iload_n hx hb dX2_start_24 rfl (lv_at hl 0 rfl) ?_
        refine lv_iload_n hx hb dX2_start_25 rfl (lv_at hl 0 rfl) ?_
        refine kRi (va_runSN (As := [.int (nI i)]) (rest := [.int (nI i), .ref a2]) ⟨hx, hb, hml, hown, hts⟩ (c_X3_trueValue l g i (by first | assumption | omega | exact Nat.le_of_ble_eq_true rfl)) ⟨va_cnB 1 hts gX2_start_X3_trueValue_n37 rfl rfl rfl hE.2.1.1 (hts _ (List.mem_of_getElem? (i := 15) rfl)) (by decide +kernel) ⟨(Nat.le_of_ble_eq_true rfl), (Nat.le_of_ble_eq_true rfl)⟩, (hts _ (List.mem_of_getElem? (i := 14) rfl)), trivial⟩ (preS hE hP [] rfl) rfl rfl hl.1 rfl (lv_room (Nat.le_of_ble_eq_true rfl)) dX2_start_26 ⟨(Nat.le_of_ble_eq_true rfl), (Nat.le_of_ble_eq_true rfl)⟩) hP hS (fun r9 H locs hr9 hP hS => ?_)
        subst hr9
        refine gIast (k := i) (x := (tv i)) (wsn := [(a0, .inr (2, [.int (nI w2), .long 0, .ref a1, .ref a2, .ref a3])), (a1, .inl (g.2.1 0, 3, .inl fc)), (a2, .inl (g.2.1 0, 511, .inl (upd (fillT fs i) i (tv i)))), (a3, .inl (g.2.1 0, 8, .inl fr))]) hx hb hE hP hD hS 2 rfl (by omega) (by omega) dX2_start_29 (hw := rfl) (kk := fun H locs hP hD hS => ?_)
        refine lv_iinc (v := (nI (i + 1))) (lv' := [(2, .int (nI (i + 1))), (0, .ref a0), (1, .int (nI w2))]) hx hb dX2_start_30 hl (k := 0) rfl (nI_add (i) 1) (by decide) rfl (fun ls hl => ?_)
        refine lv_goto (tgt := 12) hx hb dX2_start_33 (by decide) ?_
        exact ih12 (i + 1) (by omega) (by omega) (upd (fillT fs i) i (tv i)) (fillT_s fs i) _ _ hP hD hS _ (lv_sub hl [0, 1, 2] rfl)
  exact lp12 ((ents w2 - 0) + 1) 0 (Nat.lt_succ_self _) (by omega) fs rfl _ _ hP hD hS _ (lv_sub hl [0, 1, 2] rfl)
theorem in_X2_copyFrom_X2 : ∀ w ∈ wsX20, w ∈ wsX2_copyFrom := by decide +kernel
abbrev rm_X2_copyFrom : Room := { frames := 1, cells := 0, slots := 0, locals := 32 }
set_option maxRecDepth 100000 in
set_option maxHeartbeats 4000000 in
theorem c_X2_copyFrom (l : Launch) (g : GT) (a0 : Nat) (a1 : Nat) (a2 : Nat) (a3 : Nat) (w : Nat) (ac : Int64) (fc : Nat → Int32) (fs : Nat → Int32) (fr : Nat → Int32) (b0 : Nat) (b1 : Nat) (b2 : Nat) (b3 : Nat) (w2 : Nat) (ac2 : Int64) (fc2 : Nat → Int32) (fs2 : Nat → Int32) (fr2 : Nat → Int32) : cUv l g yX2_copyFrom wsX2_copyFrom rm_X2_copyFrom [.ref a0, .ref b0] [(a0, .inr (2, [.int (nI w), .long ac, .ref a1, .ref a2, .ref a3])), (a1, .inl (g.2.1 0, 3, .inl fc)), (a2, .inl (g.2.1 0, 511, .inl fs)), (a3, .inl (g.2.1 0, 8, .inl fr)), (b0, .inr (2, [.int (nI w2), .long ac2, .ref b1, .ref b2, .ref b3])), (b1, .inl (g.2.1 0, 3, .inl fc2)), (b2, .inl (g.2.1 0, 511, .inl fs2)), (b3, .inl (g.2.1 0, 8, .inl fr2))] (fun (_ : Unit) => True) (fun _ => [(a0, .inr (2, [.int (nI w2), .long ac2, .ref a1, .ref a2, .ref a3])), (a1, .inl (g.2.1 0, 3, .inl fc2)), (a2, .inl (g.2.1 0, 511, .inl fs2)), (a3, .inl (g.2.1 0, 8, .inl fr2)), (b0, .inr (2, [.int (nI w2), .long ac2, .ref b1, .ref b2, .ref b3])), (b1, .inl (g.2.1 0, 3, .inl fc2)), (b2, .inl (g.2.1 0, 511, .inl fs2)), (b3, .inl (g.2.1 0, 8, .inl fr2))]) := by
  refine enU (y := yX2_copyFrom) (ws := wsX2_copyFrom) (av := [.ref a0, .ref b0]) (cc := cX2_copyFrom) (maxL := 2) (ret := none) (by decide) rfl (Nat.le_of_ble_eq_true rfl) rfl ?_
  intro p e s m below meth c ls hx hb hr hml hown hts hlocks hE hP hD hl
  have hK := hE.1
  have hS : va_S (va_Ad [(a0, .inr (2, [.int (nI w), .long ac, .ref a1, .ref a2, .ref a3])), (a1, .inl (g.2.1 0, 3, .inl fc)), (a2, .inl (g.2.1 0, 511, .inl fs)), (a3, .inl (g.2.1 0, 8, .inl fr)), (b0, .inr (2, [.int (nI w2), .long ac2, .ref b1, .ref b2, .ref b3])), (b1, .inl (g.2.1 0, 3, .inl fc2)), (b2, .inl (g.2.1 0, 511, .inl fs2)), (b3, .inl (g.2.1 0, 8, .inl fr2))]) s.heap s.heap [] := va_S.rf
  generalize hQ : MQ below _ _ s _ _ _ = Q9
  have hl : lv_has ls 2 [(0, .ref a0), (1, .ref b0)] := hl
  refine lv_aload_n hx hb dX2_copyFrom_0 rfl (lv_at hl 0 rfl) ?_
  refine lv_aload_n hx hb dX2_copyFrom_1 rfl (lv_at hl 1 rfl) ?_
  refine va_get (D := g.1) (ci := 2) (v := .int (nI w2)) (C := RX2) (T := TX2) (N := 5) hx hb hts in_X2_copyFrom_X2 hown hK hP 4 rfl rfl 0 (by decide) (hts _ (List.mem_of_getElem? (i := 1) rfl)) (fun _ h9 => h9) rfl dX2_copyFrom_2 ?_
  refine va_put (D := g.1) (ci := 2) (v := .int (nI w2)) (ty := .int) (C := RX2) (T := TX2) (N := 5) hx hb hts in_X2_copyFrom_X2 tyX2 tyX2_ok nmX2 hown hK hP hD hS 0 rfl rfl 0 (by decide) (hts _ (List.mem_of_getElem? (i := 1) rfl)) (fun _ h9 => h9) rfl (by decide +kernel) rfl rfl (Nat.le_of_ble_eq_true rfl) dX2_copyFrom_5 (fun H locs hP hD hS => ?_)
  have hP : va_P g.1 vwCl [(a0, .inr (2, [.int (nI w2), .long ac, .ref a1, .ref a2, .ref a3])), (a1, .inl (g.2.1 0, 3, .inl fc)), (a2, .inl (g.2.1 0, 511, .inl fs)), (a3, .inl (g.2.1 0, 8, .inl fr)), (b0, .inr (2, [.int (nI w2), .long ac2, .ref b1, .ref b2, .ref b3])), (b1, .inl (g.2.1 0, 3, .inl fc2)), (b2, .inl (g.2.1 0, 511, .inl fs2)), (b3, .inl (g.2.1 0, 8, .inl fr2))] _ := hP
  have hD : va_D (va_Ad [(a0, .inr (2, [.int (nI w), .long ac, .ref a1, .ref a2, .ref a3])), (a1, .inl (g.2.1 0, 3, .inl fc)), (a2, .inl (g.2.1 0, 511, .inl fs)), (a3, .inl (g.2.1 0, 8, .inl fr)), (b0, .inr (2, [.int (nI w2), .long ac2, .ref b1, .ref b2, .ref b3])), (b1, .inl (g.2.1 0, 3, .inl fc2)), (b2, .inl (g.2.1 0, 511, .inl fs2)), (b3, .inl (g.2.1 0, 8, .inl fr2))]) [(a0, .inr (2, [.int (nI w2), .long ac, .ref a1, .ref a2, .ref a3])), (a1, .inl (g.2.1 0, 3, .inl fc)), (a2, .inl (g.2.1 0, 511, .inl fs)), (a3, .inl (g.2.1 0, 8, .inl fr)), (b0, .inr (2, [.int (nI w2), .long ac2, .ref b1, .ref b2, .ref b3])), (b1, .inl (g.2.1 0, 3, .inl fc2)), (b2, .inl (g.2.1 0, 511, .inl fs2)), (b3, .inl (g.2.1 0, 8, .inl fr2))] := hD
  refine lv_aload_n hx hb dX2_copyFrom_8 rfl (lv_at hl 0 rfl) ?_
  refine lv_aload_n hx hb dX2_copyFrom_9 rfl (lv_at hl 1 rfl) ?_
  refine va_get (D := g.1) (ci := 2) (v := .long ac2) (C := RX2) (T := TX2) (N := 5) hx hb hts in_X2_copyFrom_X2 hown hK hP 4 rfl rfl 1 (by decide) (hts _ (List.mem_of_getElem? (i := 2) rfl)) (fun _ h9 => h9) rfl dX2_copyFrom_10 ?_
  refine va_put (D := g.1) (ci := 2) (v := .long ac2) (ty := .long) (C := RX2) (T := TX2) (N := 5) hx hb hts in_X2_copyFrom_X2 tyX2 tyX2_ok nmX2 hown hK hP hD hS 0 rfl rfl 1 (by decide) (hts _ (List.mem_of_getElem? (i := 2) rfl)) (fun _ h9 => h9) rfl (by decide +kernel) rfl rfl (Nat.le_of_ble_eq_true rfl) dX2_copyFrom_13 (fun H locs hP hD hS => ?_)
  have hP : va_P g.1 vwCl [(a0, .inr (2, [.int (nI w2), .long ac2, .ref a1, .ref a2, .ref a3])), (a1, .inl (g.2.1 0, 3, .inl fc)), (a2, .inl (g.2.1 0, 511, .inl fs)), (a3, .inl (g.2.1 0, 8, .inl fr)), (b0, .inr (2, [.int (nI w2), .long ac2, .ref b1, .ref b2, .ref b3])), (b1, .inl (g.2.1 0, 3, .inl fc2)), (b2, .inl (g.2.1 0, 511, .inl fs2)), (b3, .inl (g.2.1 0, 8, .inl fr2))] _ := hP
  have hD : va_D (va_Ad [(a0, .inr (2, [.int (nI w), .long ac, .ref a1, .ref a2, .ref a3])), (a1, .inl (g.2.1 0, 3, .inl fc)), (a2, .inl (g.2.1 0, 511, .inl fs)), (a3, .inl (g.2.1 0, 8, .inl fr)), (b0, .inr (2, [.int (nI w2), .long ac2, .ref b1, .ref b2, .ref b3])), (b1, .inl (g.2.1 0, 3, .inl fc2)), (b2, .inl (g.2.1 0, 511, .inl fs2)), (b3, .inl (g.2.1 0, 8, .inl fr2))]) [(a0, .inr (2, [.int (nI w2), .long ac2, .ref a1, .ref a2, .ref a3])), (a1, .inl (g.2.1 0, 3, .inl fc)), (a2, .inl (g.2.1 0, 511, .inl fs)), (a3, .inl (g.2.1 0, 8, .inl fr)), (b0, .inr (2, [.int (nI w2), .long ac2, .ref b1, .ref b2, .ref b3])), (b1, .inl (g.2.1 0, 3, .inl fc2)), (b2, .inl (g.2.1 0, 511, .inl fs2)), (b3, .inl (g.2.1 0, 8, .inl fr2))] := hD
  refine lv_aload_n hx hb dX2_copyFrom_16 rfl (lv_at hl 1 rfl) ?_
  refine va_get (D := g.1) (ci := 2) (v := .ref b1) (C := RX2) (T := TX2) (N := 5) hx hb hts in_X2_copyFrom_X2 hown hK hP 4 rfl rfl 2 (by decide) (hts _ (List.mem_of_getElem? (i := 3) rfl)) (fun _ h9 => h9) rfl dX2_copyFrom_17 ?_
  refine lv_iconst (v := 0) hx hb dX2_copyFrom_20 (by decide) ?_
  refine lv_aload_n hx hb dX2_copyFrom_21 rfl (lv_at hl 0 rfl) ?_
  refine va_get (D := g.1) (ci := 2) (v := .ref a1) (C := RX2) (T := TX2) (N := 5) hx hb hts in_X2_copyFrom_X2 hown hK hP 0 rfl rfl 2 (by decide) (hts _ (List.mem_of_getElem? (i := 3) rfl)) (fun _ h9 => h9) rfl dX2_copyFrom_22 ?_
  refine lv_iconst (v := 0) hx hb dX2_copyFrom_25 (by decide) ?_
  refine lv_iconst (v := 3) hx hb dX2_copyFrom_26 (by decide) ?_
  refine gCopy (N := 3) hx hb (hml.trans hl.1.symm) hown (hts _ (List.mem_of_getElem? (i := 4) rfl)) (hts _ (List.mem_of_getElem? (i := 5) rfl)) (hts _ (List.mem_of_getElem? (i := 6) rfl)) (hts _ (List.mem_of_getElem? (i := 7) rfl)) hE hP hD hS 5 1 rfl rfl (by omega) rfl (Nat.le_of_ble_eq_true rfl) (by decide) dX2_copyFrom_27 [(a0, .inr (2, [.int (nI w2), .long ac2, .ref a1, .ref a2, .ref a3])), (a1, .inl (g.2.1 0, 3, .inl fc2)), (a2, .inl (g.2.1 0, 511, .inl fs)), (a3, .inl (g.2.1 0, 8, .inl fr)), (b0, .inr (2, [.int (nI w2), .long ac2, .ref b1, .ref b2, .ref b3])), (b1, .inl (g.2.1 0, 3, .inl fc2)), (b2, .inl (g.2.1 0, 511, .inl fs2)), (b3, .inl (g.2.1 0, 8, .inl fr2))] rfl (Nat.le_of_ble_eq_true rfl) (Nat.le_of_ble_eq_true rfl) (fun H locs hP hD hS => ?_)
  refine lv_aload_n hx hb dX2_copyFrom_30 rfl (lv_at hl 1 rfl) ?_
  refine va_get (D := g.1) (ci := 2) (v := .ref b2) (C := RX2) (T := TX2) (N := 5) hx hb hts in_X2_copyFrom_X2 hown hK hP 4 rfl rfl 3 (by decide) (hts _ (List.mem_of_getElem? (i := 8) rfl)) (fun _ h9 => h9) rfl dX2_copyFrom_31 ?_
  refine lv_iconst (v := 0) hx hb dX2_copyFrom_34 (by decide) ?_
  refine lv_aload_n hx hb dX2_copyFrom_35 rfl (lv_at hl 0 rfl) ?_
  refine va_get (D := g.1) (ci := 2) (v := .ref a2) (C := RX2) (T := TX2) (N := 5) hx hb hts in_X2_copyFrom_X2 hown hK hP 0 rfl rfl 3 (by decide) (hts _ (List.mem_of_getElem? (i := 8) rfl)) (fun _ h9 => h9) rfl dX2_copyFrom_36 ?_
  refine lv_iconst (v := 0) hx hb dX2_copyFrom_39 (by decide) ?_
  refine lv_sipush (v := 511) hx hb dX2_copyFrom_40 (by decide) ?_
  refine gCopy (N := 511) hx hb (hml.trans hl.1.symm) hown (hts _ (List.mem_of_getElem? (i := 4) rfl)) (hts _ (List.mem_of_getElem? (i := 5) rfl)) (hts _ (List.mem_of_getElem? (i := 6) rfl)) (hts _ (List.mem_of_getElem? (i := 7) rfl)) hE hP hD hS 6 2 rfl rfl (by omega) rfl (Nat.le_of_ble_eq_true rfl) (by decide) dX2_copyFrom_43 [(a0, .inr (2, [.int (nI w2), .long ac2, .ref a1, .ref a2, .ref a3])), (a1, .inl (g.2.1 0, 3, .inl fc2)), (a2, .inl (g.2.1 0, 511, .inl fs2)), (a3, .inl (g.2.1 0, 8, .inl fr)), (b0, .inr (2, [.int (nI w2), .long ac2, .ref b1, .ref b2, .ref b3])), (b1, .inl (g.2.1 0, 3, .inl fc2)), (b2, .inl (g.2.1 0, 511, .inl fs2)), (b3, .inl (g.2.1 0, 8, .inl fr2))] rfl (Nat.le_of_ble_eq_true rfl) (Nat.le_of_ble_eq_true rfl) (fun H locs hP hD hS => ?_)
  refine lv_aload_n hx hb dX2_copyFrom_46 rfl (lv_at hl 1 rfl) ?_
  refine va_get (D := g.1) (ci := 2) (v := .ref b3) (C := RX2) (T := TX2) (N := 5) hx hb hts in_X2_copyFrom_X2 hown hK hP 4 rfl rfl 4 (by decide) (hts _ (List.mem_of_getElem? (i := 9) rfl)) (fun _ h9 => h9) rfl dX2_copyFrom_47 ?_
  refine lv_iconst (v := 0) hx hb dX2_copyFrom_50 (by decide) ?_
  refine lv_aload_n hx hb dX2_copyFrom_51 rfl (lv_at hl 0 rfl) ?_
  refine va_get (D := g.1) (ci := 2) (v := .ref a3) (C := RX2) (T := TX2) (N := 5) hx hb hts in_X2_copyFrom_X2 hown hK hP 0 rfl rfl 4 (by decide) (hts _ (List.mem_of_getElem? (i := 9) rfl)) (fun _ h9 => h9) rfl dX2_copyFrom_52 ?_
  refine lv_iconst (v := 0) hx hb dX2_copyFrom_55 (by decide) ?_
  refine lv_bipush (v := 8) hx hb dX2_copyFrom_56 (by decide) ?_
  refine gCopy (N := 8) hx hb (hml.trans hl.1.symm) hown (hts _ (List.mem_of_getElem? (i := 4) rfl)) (hts _ (List.mem_of_getElem? (i := 5) rfl)) (hts _ (List.mem_of_getElem? (i := 6) rfl)) (hts _ (List.mem_of_getElem? (i := 7) rfl)) hE hP hD hS 7 3 rfl rfl (by omega) rfl (Nat.le_of_ble_eq_true rfl) (by decide) dX2_copyFrom_58 [(a0, .inr (2, [.int (nI w2), .long ac2, .ref a1, .ref a2, .ref a3])), (a1, .inl (g.2.1 0, 3, .inl fc2)), (a2, .inl (g.2.1 0, 511, .inl fs2)), (a3, .inl (g.2.1 0, 8, .inl fr2)), (b0, .inr (2, [.int (nI w2), .long ac2, .ref b1, .ref b2, .ref b3])), (b1, .inl (g.2.1 0, 3, .inl fc2)), (b2, .inl (g.2.1 0, 511, .inl fs2)), (b3, .inl (g.2.1 0, 8, .inl fr2))] rfl (Nat.le_of_ble_eq_true rfl) (Nat.le_of_ble_eq_true rfl) (fun H locs hP hD hS => ?_)
  subst hQ
  have hP9 : va_P g.1 vwCl [(a0, .inr (2, [.int (nI w2), .long ac2, .ref a1, .ref a2, .ref a3])), (a1, .inl (g.2.1 0, 3, .inl fc2)), (a2, .inl (g.2.1 0, 511, .inl fs2)), (a3, .inl (g.2.1 0, 8, .inl fr2)), (b0, .inr (2, [.int (nI w2), .long ac2, .ref b1, .ref b2, .ref b3])), (b1, .inl (g.2.1 0, 3, .inl fc2)), (b2, .inl (g.2.1 0, 511, .inl fs2)), (b3, .inl (g.2.1 0, 8, .inl fr2))] H := hP
  exact W.vret hx hb hr (fun t ht hW => ⟨⟨(), rfl, trivial, by show va_P g.1 vwCl _ t.heap; rw [ht]; exact hP9⟩, hS.F ht⟩) hS.2.2 dX2_copyFrom_61
theorem in_X2_number_X2 : ∀ w ∈ wsX20, w ∈ wsX2_number := by decide +kernel
abbrev rm_X2_number : Room := { frames := 4, cells := 0, slots := 0, locals := 83 }
set_option maxRecDepth 100000 in
set_option maxHeartbeats 4000000 in
theorem c_X2_number (l : Launch) (g : GT) (a0 : Nat) (a1 : Nat) (a2 : Nat) (a3 : Nat) (w : Nat) (ac : Int64) (fc : Nat → Int32) (fs : Nat → Int32) (fr : Nat → Int32) (n : Nat) (hw8 : w ≤ 8) (hn : n ≤ 7) : cRi l g yX2_number wsX2_number rm_X2_number [.ref a0, .int (nI n)] [(a0, .inr (2, [.int (nI w), .long ac, .ref a1, .ref a2, .ref a3])), (a1, .inl (g.2.1 0, 3, .inl fc)), (a2, .inl (g.2.1 0, 511, .inl fs)), (a3, .inl (g.2.1 0, 8, .inl fr))] (fun r => r = (numF w fc fs n)) := by
  refine enR (y := yX2_number) (ws := wsX2_number) (av := [.ref a0, .int (nI n)]) (cc := cX2_number) (maxL := 2) (ret := (some .int)) (by decide) rfl (Nat.le_of_ble_eq_true rfl) rfl ?_
  intro p e s m below meth c ls hx hb hr hml hown hts hlocks hE hP hl
  have hK := hE.1
  have hS : va_S noA s.heap s.heap [] := va_S.rf
  generalize hQ : MQ below _ _ s _ _ _ = Q9
  have hl : lv_has ls 2 [(0, .ref a0), (1, .int (nI n))] := hl
  have hgr := gr_le w hw8
  have hen := ents_le w hw8
  refine lv_iload_n hx hb dX2_number_0 rfl (lv_at hl 1 rfl) ?_
  rcases (show n = 0 ∨ n = 1 ∨ n = 2 ∨ n = 3 ∨ n = 4 ∨ n = 5 ∨ n = 6 ∨ n = 7 by omega) with rfl | rfl | rfl | rfl | rfl | rfl | rfl | rfl
  · refine lv_tope (y := 0) rfl ?_
    refine lv_tableIn (tgt := 44) (off := 43) hx hb dX2_number_1 (by decide) (by decide) rfl (by decide) ?_
    refine lv_aload_n hx hb dX2_number_44 rfl (lv_at hl 0 rfl) ?_
    refine va_get (D := g.1) (ci := 2) (v := .int (nI w)) (C := RX2) (T := TX2) (N := 5) hx hb hts in_X2_number_X2 hown hK hP 0 rfl rfl 0 (by decide) (hts _ (List.mem_of_getElem? (i := 1) rfl)) (fun _ h9 => h9) rfl dX2_number_45 ?_
    subst hQ
    exact W.iret (v := (nI w)) hx hb hr (fun t ht hW => ⟨⟨(nI w), (), rfl, rfl, trivial⟩, hS.F ht⟩) hS.2.2 dX2_number_48
  · refine lv_tope (y := 1) rfl ?_
    refine lv_tableIn (tgt := 49) (off := 48) hx hb dX2_number_1 (by decide) (by decide) rfl (by decide) ?_
    refine lv_aload_n hx hb dX2_number_49 rfl (lv_at hl 0 rfl) ?_
    refine kRi (va_runV (As := []) (rest := []) ⟨hx, hb, hml, hown, hts⟩ (c_X2_entries l g a0 a1 a2 a3 w ac fc fs fr (by first | assumption | omega | exact Nat.le_of_ble_eq_true rfl)) (cwV 0 hts gX2_number_X2_entries rfl rfl rfl (by decide +kernel) ⟨(Nat.le_of_ble_eq_true rfl), (Nat.le_of_ble_eq_true rfl)⟩) (preV (RX2, TX2, 5) hE hP [0, 1, 2, 3] rfl rfl) rfl rfl hl.1 rfl (lv_room (Nat.le_of_ble_eq_true rfl)) dX2_number_50 ⟨(Nat.le_of_ble_eq_true rfl), (Nat.le_of_ble_eq_true rfl)⟩) hP hS (fun r9 H locs hr9 hP hS => ?_)
    subst hr9
    subst hQ
    exact W.iret (v := (nI (ents w))) hx hb hr (fun t ht hW => ⟨⟨(nI (ents w)), (), rfl, rfl, trivial⟩, hS.F ht⟩) hS.2.2 dX2_number_53
  · refine lv_tope (y := 2) rfl ?_
    refine lv_tableIn (tgt := 54) (off := 53) hx hb dX2_number_1 (by decide) (by decide) rfl (by decide) ?_
    refine lv_aload_n hx hb dX2_number_54 rfl (lv_at hl 0 rfl) ?_
    refine va_get (D := g.1) (ci := 2) (v := .ref a1) (C := RX2) (T := TX2) (N := 5) hx hb hts in_X2_number_X2 hown hK hP 0 rfl rfl 2 (by decide) (hts _ (List.mem_of_getElem? (i := 2) rfl)) (fun _ h9 => h9) rfl dX2_number_55 ?_
    refine lv_iconst (v := 0) hx hb dX2_number_58 (by decide) ?_
    refine lv_tope (y := (nI 0)) rfl ?_
    refine gIald (k := 0) hx hb hE hP 1 rfl (by omega) (by omega) dX2_number_59 ?_
    subst hQ
    exact W.iret (v := (fc 0)) hx hb hr (fun t ht hW => ⟨⟨(fc 0), (), rfl, rfl, trivial⟩, hS.F ht⟩) hS.2.2 dX2_number_60
  · refine lv_tope (y := 3) rfl ?_
    refine lv_tableIn (tgt := 61) (off := 60) hx hb dX2_number_1 (by decide) (by decide) rfl (by decide) ?_
    refine lv_aload_n hx hb dX2_number_61 rfl (lv_at hl 0 rfl) ?_
    refine va_get (D := g.1) (ci := 2) (v := .ref a1) (C := RX2) (T := TX2) (N := 5) hx hb hts in_X2_number_X2 hown hK hP 0 rfl rfl 2 (by decide) (hts _ (List.mem_of_getElem? (i := 2) rfl)) (fun _ h9 => h9) rfl dX2_number_62 ?_
    refine lv_iconst (v := 1) hx hb dX2_number_65 (by decide) ?_
    refine lv_tope (y := (nI 1)) rfl ?_
    refine gIald (k := 1) hx hb hE hP 1 rfl (by omega) (by omega) dX2_number_66 ?_
    subst hQ
    exact W.iret (v := (fc 1)) hx hb hr (fun t ht hW => ⟨⟨(fc 1), (), rfl, rfl, trivial⟩, hS.F ht⟩) hS.2.2 dX2_number_67
  · refine lv_tope (y := 4) rfl ?_
    refine lv_tableIn (tgt := 68) (off := 67) hx hb dX2_number_1 (by decide) (by decide) rfl (by decide) ?_
    refine lv_aload_n hx hb dX2_number_68 rfl (lv_at hl 0 rfl) ?_
    refine va_get (D := g.1) (ci := 2) (v := .ref a1) (C := RX2) (T := TX2) (N := 5) hx hb hts in_X2_number_X2 hown hK hP 0 rfl rfl 2 (by decide) (hts _ (List.mem_of_getElem? (i := 2) rfl)) (fun _ h9 => h9) rfl dX2_number_69 ?_
    refine lv_iconst (v := 2) hx hb dX2_number_72 (by decide) ?_
    refine lv_tope (y := (nI 2)) rfl ?_
    refine gIald (k := 2) hx hb hE hP 1 rfl (by omega) (by omega) dX2_number_73 ?_
    subst hQ
    exact W.iret (v := (fc 2)) hx hb hr (fun t ht hW => ⟨⟨(fc 2), (), rfl, rfl, trivial⟩, hS.F ht⟩) hS.2.2 dX2_number_74
  · refine lv_tope (y := 5) rfl ?_
    refine lv_tableIn (tgt := 75) (off := 74) hx hb dX2_number_1 (by decide) (by decide) rfl (by decide) ?_
    refine lv_aload_n hx hb dX2_number_75 rfl (lv_at hl 0 rfl) ?_
    refine kRi (va_runV (As := []) (rest := []) ⟨hx, hb, hml, hown, hts⟩ (c_X2_wrongEntries l g a0 a1 a2 a3 w ac fc fs fr (by first | assumption | omega | exact Nat.le_of_ble_eq_true rfl)) (cwV 0 hts gX2_number_X2_wrongEntries rfl rfl rfl (by decide +kernel) ⟨(Nat.le_of_ble_eq_true rfl), (Nat.le_of_ble_eq_true rfl)⟩) (preV (RX2, TX2, 5) hE hP [0, 1, 2, 3] rfl rfl) rfl rfl hl.1 rfl (lv_room (Nat.le_of_ble_eq_true rfl)) dX2_number_76 ⟨(Nat.le_of_ble_eq_true rfl), (Nat.le_of_ble_eq_true rfl)⟩) hP hS (fun r9 H locs hr9 hP hS => ?_)
    subst hr9
    subst hQ
    exact W.iret (v := (sI (weF fs) (ents w))) hx hb hr (fun t ht hW => ⟨⟨(sI (weF fs) (ents w)), (), rfl, rfl, trivial⟩, hS.F ht⟩) hS.2.2 dX2_number_79
  · refine lv_tope (y := 6) rfl ?_
    refine lv_tableIn (tgt := 80) (off := 79) hx hb dX2_number_1 (by decide) (by decide) rfl (by decide) ?_
    refine lv_aload_n hx hb dX2_number_80 rfl (lv_at hl 0 rfl) ?_
    refine kRi (va_runV (As := []) (rest := []) ⟨hx, hb, hml, hown, hts⟩ (c_X2_entriesFoundByParity l g a0 a1 a2 a3 w ac fc fs fr (by first | assumption | omega | exact Nat.le_of_ble_eq_true rfl)) (cwV 0 hts gX2_number_X2_entriesFoundByParity rfl rfl rfl (by decide +kernel) ⟨(Nat.le_of_ble_eq_true rfl), (Nat.le_of_ble_eq_true rfl)⟩) (preV (RX2, TX2, 5) hE hP [0, 1, 2, 3] rfl rfl) rfl rfl hl.1 rfl (lv_room (Nat.le_of_ble_eq_true rfl)) dX2_number_81 ⟨(Nat.le_of_ble_eq_true rfl), (Nat.le_of_ble_eq_true rfl)⟩) hP hS (fun r9 H locs hr9 hP hS => ?_)
    subst hr9
    subst hQ
    exact W.iret (v := (sI (epF fs) (ents w))) hx hb hr (fun t ht hW => ⟨⟨(sI (epF fs) (ents w)), (), rfl, rfl, trivial⟩, hS.F ht⟩) hS.2.2 dX2_number_84
  · refine lv_tope (y := 7) rfl ?_
    refine lv_tableOut (tgt := 85) hx hb dX2_number_1 (by decide) (by decide) ?_
    refine lv_aload_n hx hb dX2_number_85 rfl (lv_at hl 0 rfl) ?_
    refine kRi (va_runV (As := []) (rest := []) ⟨hx, hb, hml, hown, hts⟩ (c_X2_allWrongBits l g a0 a1 a2 a3 w ac fc fs fr (by first | assumption | omega | exact Nat.le_of_ble_eq_true rfl)) (cwV 0 hts gX2_number_X2_allWrongBits rfl rfl rfl (by decide +kernel) ⟨(Nat.le_of_ble_eq_true rfl), (Nat.le_of_ble_eq_true rfl)⟩) (preV (RX2, TX2, 5) hE hP [0, 1, 2, 3] rfl rfl) rfl rfl hl.1 rfl (lv_room (Nat.le_of_ble_eq_true rfl)) dX2_number_86 ⟨(Nat.le_of_ble_eq_true rfl), (Nat.le_of_ble_eq_true rfl)⟩) hP hS (fun r9 H locs hr9 hP hS => ?_)
    subst hr9
    subst hQ
    exact W.iret (v := (sI (wbF fs) (ents w))) hx hb hr (fun t ht hW => ⟨⟨(sI (wbF fs) (ents w)), (), rfl, rfl, trivial⟩, hS.F ht⟩) hS.2.2 dX2_number_89
theorem in_X2_product_X2 : ∀ w ∈ wsX20, w ∈ wsX2_product := by decide +kernel
abbrev rm_X2_product : Room := { frames := 1, cells := 0, slots := 0, locals := 15 }
set_option maxRecDepth 100000 in
set_option maxHeartbeats 4000000 in
theorem c_X2_product (l : Launch) (g : GT) (a0 : Nat) (a1 : Nat) (a2 : Nat) (a3 : Nat) (w : Nat) (ac : Int64) (fc : Nat → Int32) (fs : Nat → Int32) (fr : Nat → Int32) (a : Nat) (b : Nat) (mt : Int32) (hA5 : a ≤ 255) (hB5 : b ≤ 255) : cRi l g yX2_product wsX2_product rm_X2_product [.ref a0, .int (nI a), .int (nI b), .int mt] [(a0, .inr (2, [.int (nI w), .long ac, .ref a1, .ref a2, .ref a3])), (a1, .inl (g.2.1 0, 3, .inl fc)), (a2, .inl (g.2.1 0, 511, .inl fs)), (a3, .inl (g.2.1 0, 8, .inl fr))] (fun r => r = (prF fs a b mt)) := by
  refine enR (y := yX2_product) (ws := wsX2_product) (av := [.ref a0, .int (nI a), .int (nI b), .int mt]) (cc := cX2_product) (maxL := 4) (ret := (some .int)) (by decide) rfl (Nat.le_of_ble_eq_true rfl) rfl ?_
  intro p e s m below meth c ls hx hb hr hml hown hts hlocks hE hP hl
  have hK := hE.1
  have hS : va_S noA s.heap s.heap [] := va_S.rf
  generalize hQ : MQ below _ _ s _ _ _ = Q9
  have hl : lv_has ls 4 [(0, .ref a0), (1, .int (nI a)), (2, .int (nI b)), (3, .int mt)] := hl
  refine lv_iload_n hx hb dX2_product_0 rfl (lv_at hl 3 rfl) ?_
  refine lv_if_ne (tgt := 27) hx hb dX2_product_1 (by decide) (fun c1 => ?_) (fun c1 => ?_)
  · refine lv_iload_n hx hb dX2_product_27 rfl (lv_at hl 1 rfl) ?_
    refine lv_iload_n hx hb dX2_product_28 rfl (lv_at hl 2 rfl) ?_
    refine lv_imul hx hb dX2_product_29 ?_
    refine lv_tope (y := (nI (a * b))) (show ((nI a) * (nI b) : Int32) = nI (a * b) from pk_mul (a) (b)) ?_
    subst hQ
    exact W.iret (v := (nI (a * b))) hx hb hr (fun t ht hW => ⟨⟨(nI (a * b)), (), rfl, by first | exact (if_pos c1).symm | exact (if_neg c1).symm, trivial⟩, hS.F ht⟩) hS.2.2 dX2_product_30
  · refine lv_aload_n hx hb dX2_product_4 rfl (lv_at hl 0 rfl) ?_
    refine va_get (D := g.1) (ci := 2) (v := .ref a2) (C := RX2) (T := TX2) (N := 5) hx hb hts in_X2_product_X2 hown hK hP 0 rfl rfl 3 (by decide) (hts _ (List.mem_of_getElem? (i := 1) rfl)) (fun _ h9 => h9) rfl dX2_product_5 ?_
    refine lv_iload_n hx hb dX2_product_8 rfl (lv_at hl 1 rfl) ?_
    refine lv_iload_n hx hb dX2_product_9 rfl (lv_at hl 2 rfl) ?_
    refine lv_iadd hx hb dX2_product_10 ?_
    refine lv_tope (y := (nI (a + b))) (show ((nI a) + (nI b) : Int32) = nI (a + b) from nI_add (a) (b)) ?_
    refine gIald (k := (a + b)) hx hb hE hP 2 rfl (by omega) (by omega) dX2_product_11 ?_
    refine lv_aload_n hx hb dX2_product_12 rfl (lv_at hl 0 rfl) ?_
    refine va_get (D := g.1) (ci := 2) (v := .ref a2) (C := RX2) (T := TX2) (N := 5) hx hb hts in_X2_product_X2 hown hK hP 0 rfl rfl 3 (by decide) (hts _ (List.mem_of_getElem? (i := 1) rfl)) (fun _ h9 => h9) rfl dX2_product_13 ?_
    refine lv_iload_n hx hb dX2_product_16 rfl (lv_at hl 1 rfl) ?_
    refine lv_iload_n hx hb dX2_product_17 rfl (lv_at hl 2 rfl) ?_
    refine lv_isub hx hb dX2_product_18 ?_
    refine va_mabs hx hb (hml.trans hl.1.symm) hown (hts _ (List.mem_of_getElem? (i := 2) rfl)) (hts _ (List.mem_of_getElem? (i := 3) rfl)) (hts _ (List.mem_of_getElem? (i := 4) rfl)) (hts _ (List.mem_of_getElem? (i := 5) rfl)) (Nat.le_of_ble_eq_true rfl) (Nat.le_of_ble_eq_true rfl) (Nat.le_of_ble_eq_true rfl) (Nat.le_of_ble_eq_true rfl) dX2_product_19 ?_
    refine lv_tope (y := (nI (ad a b))) (ad_e hA5 hB5) ?_
    refine gIald (k := (ad a b)) hx hb hE hP 2 rfl (ad_le hA5 hB5) (by omega) dX2_product_22 ?_
    refine lv_isub hx hb dX2_product_23 ?_
    refine lv_goto (tgt := 30) hx hb dX2_product_24 (by decide) ?_
    subst hQ
    exact W.iret (v := ((fs (a + b)) - (fs (ad a b)))) hx hb hr (fun t ht hW => ⟨⟨((fs (a + b)) - (fs (ad a b))), (), rfl, by first | exact (if_pos c1).symm | exact (if_neg c1).symm, trivial⟩, hS.F ht⟩) hS.2.2 dX2_product_30
abbrev rm_X2_isWrongPair : Room := { frames := 2, cells := 0, slots := 0, locals := 38 }
set_option maxRecDepth 100000 in
set_option maxHeartbeats 4000000 in
theorem c_X2_isWrongPair (l : Launch) (g : GT) (a0 : Nat) (a1 : Nat) (a2 : Nat) (a3 : Nat) (w : Nat) (ac : Int64) (fc : Nat → Int32) (fs : Nat → Int32) (fr : Nat → Int32) (a : Nat) (b : Nat) (hA5 : a ≤ 255) (hB5 : b ≤ 255) : cRi l g yX2_isWrongPair wsX2_isWrongPair rm_X2_isWrongPair [.ref a0, .int (nI a), .int (nI b)] [(a0, .inr (2, [.int (nI w), .long ac, .ref a1, .ref a2, .ref a3])), (a1, .inl (g.2.1 0, 3, .inl fc)), (a2, .inl (g.2.1 0, 511, .inl fs)), (a3, .inl (g.2.1 0, 8, .inl fr))] (fun r => r = (if wpP fs a b then (1 : Int32) else 0)) := by
  refine enR (y := yX2_isWrongPair) (ws := wsX2_isWrongPair) (av := [.ref a0, .int (nI a), .int (nI b)]) (cc := cX2_isWrongPair) (maxL := 3) (ret := (some .boolean)) (by decide) rfl (Nat.le_of_ble_eq_true rfl) rfl ?_
  intro p e s m below meth c ls hx hb hr hml hown hts hlocks hE hP hl
  have hK := hE.1
  have hS : va_S noA s.heap s.heap [] := va_S.rf
  generalize hQ : MQ below _ _ s _ _ _ = Q9
  have hl : lv_has ls 3 [(0, .ref a0), (1, .int (nI a)), (2, .int (nI b))] := hl
  refine lv_aload_n hx hb dX2_isWrongPair_0 rfl (lv_at hl 0 rfl) ?_
  refine lv_iload_n hx hb dX2_isWrongPair_1 rfl (lv_at hl 1 rfl) ?_
  refine lv_iload_n hx hb dX2_isWrongPair_2 rfl (lv_at hl 2 rfl) ?_
  refine lv_iconst (v := 0) hx hb dX2_isWrongPair_3 (by decide) ?_
  refine kRi (va_runV (As := [.int (nI a), .int (nI b), .int 0]) (rest := []) ⟨hx, hb, hml, hown, hts⟩ (c_X2_product l g a0 a1 a2 a3 w ac fc fs fr a b 0 (by first | assumption | omega | exact Nat.le_of_ble_eq_true rfl) (by first | assumption | omega | exact Nat.le_of_ble_eq_true rfl)) (cwV 3 hts gX2_isWrongPair_X2_product rfl rfl rfl (by decide +kernel) ⟨(Nat.le_of_ble_eq_true rfl), (Nat.le_of_ble_eq_true rfl)⟩) (preV (RX2, TX2, 5) hE hP [0, 1, 2, 3] rfl rfl) rfl rfl hl.1 rfl (lv_room (Nat.le_of_ble_eq_true rfl)) dX2_isWrongPair_4 ⟨(Nat.le_of_ble_eq_true rfl), (Nat.le_of_ble_eq_true rfl)⟩) hP hS (fun r9 H locs hr9 hP hS => ?_)
  subst hr9
  refine lv_tope (y := (fs (a + b) - fs (ad a b))) (if_pos rfl) ?_
  refine lv_iload_n hx hb dX2_isWrongPair_7 rfl (lv_at hl 1 rfl) ?_
  refine lv_iload_n hx hb dX2_isWrongPair_8 rfl (lv_at hl 2 rfl) ?_
  refine lv_imul hx hb dX2_isWrongPair_9 ?_
  refine lv_tope (y := (nI (a * b))) (show ((nI a) * (nI b) : Int32) = nI (a * b) from pk_mul (a) (b)) ?_
  refine lv_icmp_eq (tgt := 17) hx hb dX2_isWrongPair_10 (by decide) (fun c10 => ?_) (fun c10 => ?_)
  · refine lv_iconst (v := 0) hx hb dX2_isWrongPair_17 (by decide) ?_
    subst hQ
    exact W.zret (v := 0) hx hb hr rfl (fun t ht hW => ⟨⟨0, (), rfl, by first | exact (if_pos c10).symm | exact (if_neg (fun h => h c10)).symm, trivial⟩, hS.F ht⟩) hS.2.2 dX2_isWrongPair_18
  · refine lv_iconst (v := 1) hx hb dX2_isWrongPair_13 (by decide) ?_
    refine lv_goto (tgt := 18) hx hb dX2_isWrongPair_14 (by decide) ?_
    subst hQ
    exact W.zret (v := 1) hx hb hr rfl (fun t ht hW => ⟨⟨1, (), rfl, by first | exact (if_pos c10).symm | exact (if_neg (fun h => h c10)).symm, trivial⟩, hS.F ht⟩) hS.2.2 dX2_isWrongPair_18
abbrev rm_X2_firstWrongPair : Room := { frames := 3, cells := 0, slots := 0, locals := 62 }
set_option maxRecDepth 100000 in
set_option maxHeartbeats 4000000 in
theorem c_X2_firstWrongPair (l : Launch) (g : GT) (a0 : Nat) (a1 : Nat) (a2 : Nat) (a3 : Nat) (w : Nat) (ac : Int64) (fc : Nat → Int32) (fs : Nat → Int32) (fr : Nat → Int32) (hw8 : w ≤ 8) : cRi l g yX2_firstWrongPair wsX2_firstWrongPair rm_X2_firstWrongPair [.ref a0] [(a0, .inr (2, [.int (nI w), .long ac, .ref a1, .ref a2, .ref a3])), (a1, .inl (g.2.1 0, 3, .inl fc)), (a2, .inl (g.2.1 0, 511, .inl fs)), (a3, .inl (g.2.1 0, 8, .inl fr))] (fun r => r = (fwF fs (gr w))) := by
  refine enR (y := yX2_firstWrongPair) (ws := wsX2_firstWrongPair) (av := [.ref a0]) (cc := cX2_firstWrongPair) (maxL := 3) (ret := (some .int)) (by decide) rfl (Nat.le_of_ble_eq_true rfl) rfl ?_
  intro p e s m below meth c ls hx hb hr hml hown hts hlocks hE hP hl
  have hK := hE.1
  have hS : va_S noA s.heap s.heap [] := va_S.rf
  generalize hQ : MQ below _ _ s _ _ _ = Q9
  have hl : lv_has ls 3 [(0, .ref a0)] := hl
  have hgr := gr_le w hw8
  have hen := ents_le w hw8
  refine lv_aload_n hx hb dX2_firstWrongPair_0 rfl (lv_at hl 0 rfl) ?_
  refine kRi (va_runV (As := []) (rest := []) ⟨hx, hb, hml, hown, hts⟩ (c_X2_wrongEntries l g a0 a1 a2 a3 w ac fc fs fr (by first | assumption | omega | exact Nat.le_of_ble_eq_true rfl)) (cwV 0 hts gX2_firstWrongPair_X2_wrongEntries rfl rfl rfl (by decide +kernel) ⟨(Nat.le_of_ble_eq_true rfl), (Nat.le_of_ble_eq_true rfl)⟩) (preV (RX2, TX2, 5) hE hP [0, 1, 2, 3] rfl rfl) rfl rfl hl.1 rfl (lv_room (Nat.le_of_ble_eq_true rfl)) dX2_firstWrongPair_1 ⟨(Nat.le_of_ble_eq_true rfl), (Nat.le_of_ble_eq_true rfl)⟩) hP hS (fun r9 H locs hr9 hP hS => ?_)
  subst hr9
  refine lv_if_ne (tgt := 9) hx hb dX2_firstWrongPair_4 (by decide) (fun c4 => ?_) (fun c4 => ?_)
  · refine lv_iconst (v := 0) hx hb dX2_firstWrongPair_9 (by decide) ?_
    refine lv_istore_n (lv' := [(1, .int 0), (0, .ref a0)]) hx hb dX2_firstWrongPair_10 rfl hl (by decide) rfl (fun ls hl => ?_)
    have lp11 : ∀ (n9 : Nat) (a : Nat), gr w + 1 - a < n9 → (a ≤ gr w + 1) → (∀ a', a' < a → ∀ b', b' ≤ gr w → ¬ wpP fs a' b') → ∀ (H : Heap) (locs : List Loc), va_P g.1 vwCl [(a0, .inr (2, [.int (nI w), .long ac, .ref a1, .ref a2, .ref a3])), (a1, .inl (g.2.1 0, 3, .inl fc)), (a2, .inl (g.2.1 0, 511, .inl fs)), (a3, .inl (g.2.1 0, 8, .inl fr))] H → va_S noA s.heap H locs → ∀ (ls : Array Slot), lv_has ls 3 [(1, .int (nI a)), (0, .ref a0)] → W p l e rm_X2_firstWrongPair s m [Value.ref a0].toArray below meth c H locs 0 0 Q9 (F0 m 11 ls []) := by
      intro n9
      induction n9 with
      | zero => intro a h9; exact absurd h9 (Nat.not_lt_zero _)
      | succ n9 ih11 =>
        intro a hm11 ha H1
        intro H locs hP hS ls hl
        refine lv_iload_n hx hb dX2_firstWrongPair_11 rfl (lv_at hl 0 rfl) ?_
        refine lv_aload_n hx hb dX2_firstWrongPair_12 rfl (lv_at hl 1 rfl) ?_
        refine kRi (va_runV (As := []) (rest := [.int (nI a)]) ⟨hx, hb, hml, hown, hts⟩ (c_X2_greatest l g a0 a1 a2 a3 w ac fc fs fr (by first | assumption | omega | exact Nat.le_of_ble_eq_true rfl)) (cwV 0 hts gX2_firstWrongPair_X2_greatest rfl rfl rfl (by decide +kernel) ⟨(Nat.le_of_ble_eq_true rfl), (Nat.le_of_ble_eq_true rfl)⟩) (preV (RX2, TX2, 5) hE hP [0, 1, 2, 3] rfl rfl) rfl rfl hl.1 rfl (lv_room (Nat.le_of_ble_eq_true rfl)) dX2_firstWrongPair_13 ⟨(Nat.le_of_ble_eq_true rfl), (Nat.le_of_ble_eq_true rfl)⟩) hP hS (fun r9 H locs hr9 hP hS => ?_)
        subst hr9
        refine lv_icmp_gt (tgt := 58) hx hb dX2_firstWrongPair_16 (by decide) (fun c16 => ?_) (fun c16 => ?_)
        · have n16 : gr w < a := (nI_ltI (a := gr w) (b := a) (by omega) (by omega)).mp c16
          refine lv_iconst (v := -1) hx hb dX2_firstWrongPair_58 (by decide) ?_
          subst hQ
          exact W.iret (v := (-1)) hx hb hr (fun t ht hW => ⟨⟨(-1), (), rfl, (fwF_none (fun a9 ha9 b9 hb9 => H1 a9 (by omega) b9 hb9)).symm, trivial⟩, hS.F ht⟩) hS.2.2 dX2_firstWrongPair_59
        · have n16 : a ≤ gr w := Nat.le_of_not_lt (fun h9 => c16 ((nI_ltI (a := gr w) (b := a) (by omega) (by omega)).mpr h9))
          refine lv_iconst (v := 0) hx hb dX2_firstWrongPair_19 (by decide) ?_
          refine lv_istore_n (lv' := [(2, .int 0), (1, .int (nI a)), (0, .ref a0)]) hx hb dX2_firstWrongPair_20 rfl hl (by decide) rfl (fun ls hl => ?_)
          have lp21 : ∀ (n9 : Nat) (b : Nat), gr w + 1 - b < n9 → (b ≤ gr w + 1) → (∀ b', b' < b → ¬ wpP fs a b') → ∀ (H : Heap) (locs : List Loc), va_P g.1 vwCl [(a0, .inr (2, [.int (nI w), .long ac, .ref a1, .ref a2, .ref a3])), (a1, .inl (g.2.1 0, 3, .inl fc)), (a2, .inl (g.2.1 0, 511, .inl fs)), (a3, .inl (g.2.1 0, 8, .inl fr))] H → va_S noA s.heap H locs → ∀ (ls : Array Slot), lv_has ls 3 [(2, .int (nI b)), (1, .int (nI a)), (0, .ref a0)] → W p l e rm_X2_firstWrongPair s m [Value.ref a0].toArray below meth c H locs 0 0 Q9 (F0 m 21 ls []) := by
            intro n9
            induction n9 with
            | zero => intro b h9; exact absurd h9 (Nat.not_lt_zero _)
            | succ n9 ih21 =>
              intro b hm21 hb9 h2
              intro H locs hP hS ls hl
              refine lv_iload_n hx hb dX2_firstWrongPair_21 rfl (lv_at hl 0 rfl) ?_
              refine lv_aload_n hx hb dX2_firstWrongPair_22 rfl (lv_at hl 2 rfl) ?_
              refine kRi (va_runV (As := []) (rest := [.int (nI b)]) ⟨hx, hb, hml, hown, hts⟩ (c_X2_greatest l g a0 a1 a2 a3 w ac fc fs fr (by first | assumption | omega | exact Nat.le_of_ble_eq_true rfl)) (cwV 0 hts gX2_firstWrongPair_X2_greatest rfl rfl rfl (by decide +kernel) ⟨(Nat.le_of_ble_eq_true rfl), (Nat.le_of_ble_eq_true rfl)⟩) (preV (RX2, TX2, 5) hE hP [0, 1, 2, 3] rfl rfl) rfl rfl hl.1 rfl (lv_room (Nat.le_of_ble_eq_true rfl)) dX2_firstWrongPair_23 ⟨(Nat.le_of_ble_eq_true rfl), (Nat.le_of_ble_eq_true rfl)⟩) hP hS (fun r9 H locs hr9 hP hS => ?_)
              subst hr9
              refine lv_icmp_gt (tgt := 52) hx hb dX2_firstWrongPair_26 (by decide) (fun c26 => ?_) (fun c26 => ?_)
              · have n26 : gr w < b := (nI_ltI (a := gr w) (b := b) (by omega) (by omega)).mp c26
                refine lv_iinc (v := (nI (a + 1))) (lv' := [(1, .int (nI (a + 1))), (2, .int (nI b)), (0, .ref a0)]) hx hb dX2_firstWrongPair_52 hl (k := 1) rfl (nI_add (a) 1) (by decide) rfl (fun ls hl => ?_)
                refine lv_goto (tgt := 11) hx hb dX2_firstWrongPair_55 (by decide) ?_
                exact ih11 (a + 1) (by omega) (by omega) (fun a' ha' b' hb' => (Nat.lt_succ_iff_lt_or_eq.mp ha').elim (fun h => H1 a' h b' hb') (fun e => by rw [e]; exact h2 b' (by omega)))  _ _ hP hS _ (lv_sub hl [0, 2] rfl)
              · have n26 : b ≤ gr w := Nat.le_of_not_lt (fun h9 => c26 ((nI_ltI (a := gr w) (b := b) (by omega) (by omega)).mpr h9))
                refine lv_aload_n hx hb dX2_firstWrongPair_29 rfl (lv_at hl 2 rfl) ?_
                refine lv_iload_n hx hb dX2_firstWrongPair_30 rfl (lv_at hl 1 rfl) ?_
                refine lv_iload_n hx hb dX2_firstWrongPair_31 rfl (lv_at hl 0 rfl) ?_
                refine kRi (va_runV (As := [.int (nI a), .int (nI b)]) (rest := []) ⟨hx, hb, hml, hown, hts⟩ (c_X2_isWrongPair l g a0 a1 a2 a3 w ac fc fs fr a b (by first | assumption | omega | exact Nat.le_of_ble_eq_true rfl) (by first | assumption | omega | exact Nat.le_of_ble_eq_true rfl)) (cwV 2 hts gX2_firstWrongPair_X2_isWrongPair rfl rfl rfl (by decide +kernel) ⟨(Nat.le_of_ble_eq_true rfl), (Nat.le_of_ble_eq_true rfl)⟩) (preV (RX2, TX2, 5) hE hP [0, 1, 2, 3] rfl rfl) rfl rfl hl.1 rfl (lv_room (Nat.le_of_ble_eq_true rfl)) dX2_firstWrongPair_32 ⟨(Nat.le_of_ble_eq_true rfl), (Nat.le_of_ble_eq_true rfl)⟩) hP hS (fun r9 H locs hr9 hP hS => ?_)
                subst hr9
                refine lv_if_eq (tgt := 46) hx hb dX2_firstWrongPair_35 (by decide) (fun c35 => ?_) (fun c35 => ?_)
                · have b35 : ¬ (wpP fs a b) := bz_f c35
                  refine lv_iinc (v := (nI (b + 1))) (lv' := [(2, .int (nI (b + 1))), (1, .int (nI a)), (0, .ref a0)]) hx hb dX2_firstWrongPair_46 hl (k := 0) rfl (nI_add (b) 1) (by decide) rfl (fun ls hl => ?_)
                  refine lv_goto (tgt := 21) hx hb dX2_firstWrongPair_49 (by decide) ?_
                  exact ih21 (b + 1) (by omega) (by omega) (fun b' hb' => (Nat.lt_succ_iff_lt_or_eq.mp hb').elim (h2 b') (fun e => by rw [e]; exact b35))  _ _ hP hS _ (lv_sub hl [0, 1, 2] rfl)
                · have b35 : wpP fs a b := bz_t c35
                  refine lv_sipush (v := 1000) hx hb dX2_firstWrongPair_38 (by decide) ?_
                  refine lv_iload_n hx hb dX2_firstWrongPair_41 rfl (lv_at hl 1 rfl) ?_
                  refine lv_imul hx hb dX2_firstWrongPair_42 ?_
                  refine lv_tope (y := (nI (1000 * a))) (show (1000 * (nI a) : Int32) = nI (1000 * a) from pk_mul (1000) (a)) ?_
                  refine lv_iload_n hx hb dX2_firstWrongPair_43 rfl (lv_at hl 0 rfl) ?_
                  refine lv_iadd hx hb dX2_firstWrongPair_44 ?_
                  refine lv_tope (y := (nI ((1000 * a) + b))) (show ((nI (1000 * a)) + (nI b) : Int32) = nI ((1000 * a) + b) from nI_add (1000 * a) (b)) ?_
                  subst hQ
                  exact W.iret (v := (nI ((1000 * a) + b))) hx hb hr (fun t ht hW => ⟨⟨(nI ((1000 * a) + b)), (), rfl, (fwF_some n16 n26 b35 H1 h2).symm, trivial⟩, hS.F ht⟩) hS.2.2 dX2_firstWrongPair_45
          exact lp21 ((gr w + 1 - 0) + 1) 0 (Nat.lt_succ_self _) (by omega) (fun b' h => absurd h (Nat.not_lt_zero _))  _ _ hP hS _ (lv_sub hl [0, 1, 2] rfl)
    exact lp11 ((gr w + 1 - 0) + 1) 0 (Nat.lt_succ_self _) (by omega) (fun a' h => absurd h (Nat.not_lt_zero _))  _ _ hP hS _ (lv_sub hl [0, 1] rfl)
  · refine lv_iconst (v := -1) hx hb dX2_firstWrongPair_7 (by decide) ?_
    subst hQ
    exact W.iret (v := (-1)) hx hb hr (fun t ht hW => ⟨⟨(-1), (), rfl, (fw_zero hw8 c4).symm, trivial⟩, hS.F ht⟩) hS.2.2 dX2_firstWrongPair_8
theorem in_X2_powersPrice_X2 : ∀ w ∈ wsX20, w ∈ wsX2_powersPrice := by decide +kernel
abbrev rm_X2_powersPrice : Room := { frames := 1, cells := 0, slots := 0, locals := 20 }
set_option maxRecDepth 100000 in
set_option maxHeartbeats 4000000 in
theorem c_X2_powersPrice (l : Launch) (g : GT) (a0 : Nat) (a1 : Nat) (a2 : Nat) (a3 : Nat) (w : Nat) (ac : Int64) (fc : Nat → Int32) (fs : Nat → Int32) (fr : Nat → Int32) (x : Int32) : cRi l g yX2_powersPrice wsX2_powersPrice rm_X2_powersPrice [.ref a0, .int x] [(a0, .inr (2, [.int (nI w), .long ac, .ref a1, .ref a2, .ref a3])), (a1, .inl (g.2.1 0, 3, .inl fc)), (a2, .inl (g.2.1 0, 511, .inl fs)), (a3, .inl (g.2.1 0, 8, .inl fr))] (fun r => r = (ppF fc x)) := by
  refine enR (y := yX2_powersPrice) (ws := wsX2_powersPrice) (av := [.ref a0, .int x]) (cc := cX2_powersPrice) (maxL := 4) (ret := (some .int)) (by decide) rfl (Nat.le_of_ble_eq_true rfl) rfl ?_
  intro p e s m below meth c ls hx hb hr hml hown hts hlocks hE hP hl
  have hK := hE.1
  have hS : va_S noA s.heap s.heap [] := va_S.rf
  generalize hQ : MQ below _ _ s _ _ _ = Q9
  have hl : lv_has ls 4 [(0, .ref a0), (1, .int x)] := hl
  refine lv_iconst (v := 0) hx hb dX2_powersPrice_0 (by decide) ?_
  refine lv_istore_n (lv' := [(2, .int 0), (0, .ref a0), (1, .int x)]) hx hb dX2_powersPrice_1 rfl hl (by decide) rfl (fun ls hl => ?_)
  refine lv_iconst (v := 1) hx hb dX2_powersPrice_2 (by decide) ?_
  refine lv_istore_n (lv' := [(3, .int 1), (2, .int 0), (0, .ref a0), (1, .int x)]) hx hb dX2_powersPrice_3 rfl hl (by decide) rfl (fun ls hl => ?_)
  have lp4 : ∀ (n9 : Nat) (k : Nat), 8 - k < n9 → (k ≤ 8) → ∀ (x2 : Int32), x2 = hiF x k → ∀ (H : Heap) (locs : List Loc), va_P g.1 vwCl [(a0, .inr (2, [.int (nI w), .long ac, .ref a1, .ref a2, .ref a3])), (a1, .inl (g.2.1 0, 3, .inl fc)), (a2, .inl (g.2.1 0, 511, .inl fs)), (a3, .inl (g.2.1 0, 8, .inl fr))] H → va_S noA s.heap H locs → ∀ (ls : Array Slot), lv_has ls 4 [(3, .int (nI (k + 1))), (2, .int x2), (0, .ref a0), (1, .int x)] → W p l e rm_X2_powersPrice s m [Value.ref a0, .int x].toArray below meth c H locs 0 0 Q9 (F0 m 4 ls []) := by
    intro n9
    induction n9 with
    | zero => intro k h9; exact absurd h9 (Nat.not_lt_zero _)
    | succ n9 ih4 =>
      intro k hm4 hk
      intro x2 e_x2; subst e_x2
      intro H locs hP hS ls hl
      refine lv_iload_n hx hb dX2_powersPrice_4 rfl (lv_at hl 0 rfl) ?_
      refine lv_bipush (v := 8) hx hb dX2_powersPrice_5 (by decide) ?_
      refine lv_icmp_gt (tgt := 27) hx hb dX2_powersPrice_7 (by decide) (fun c7 => ?_) (fun c7 => ?_)
      · have n7 : 8 < k + 1 := (nI_ltI (a := 8) (b := k + 1) (by omega) (by omega)).mp c7
        have e9 : k = 8 := by omega
        refine lv_iload_n hx hb dX2_powersPrice_27 rfl (lv_at hl 3 rfl) ?_
        refine kRi (va_runS (As := [.int x]) (rest := []) ⟨hx, hb, hml, hown, hts⟩ (c_J6_bitCount_0f7a4 l g x) (va_cwS 1 hts gX2_powersPrice_J6_bitCount_0f7a4 rfl rfl rfl (by decide +kernel) ⟨(Nat.le_of_ble_eq_true rfl), (Nat.le_of_ble_eq_true rfl)⟩) (preS hE hP [] rfl) rfl rfl hl.1 rfl (lv_room (Nat.le_of_ble_eq_true rfl)) dX2_powersPrice_28 ⟨(Nat.le_of_ble_eq_true rfl), (Nat.le_of_ble_eq_true rfl)⟩) hP hS (fun r9 H locs hr9 hP hS => ?_)
        subst hr9
        refine lv_aload_n hx hb dX2_powersPrice_31 rfl (lv_at hl 2 rfl) ?_
        refine va_get (D := g.1) (ci := 2) (v := .ref a1) (C := RX2) (T := TX2) (N := 5) hx hb hts in_X2_powersPrice_X2 hown hK hP 0 rfl rfl 2 (by decide) (hts _ (List.mem_of_getElem? (i := 1) rfl)) (fun _ h9 => h9) rfl dX2_powersPrice_32 ?_
        refine lv_iconst (v := 1) hx hb dX2_powersPrice_35 (by decide) ?_
        refine lv_tope (y := (nI 1)) rfl ?_
        refine gIald (k := 1) hx hb hE hP 1 rfl (by omega) (by omega) dX2_powersPrice_36 ?_
        refine lv_imul hx hb dX2_powersPrice_37 ?_
        refine lv_iload_n hx hb dX2_powersPrice_38 rfl (lv_at hl 1 rfl) ?_
        refine lv_aload_n hx hb dX2_powersPrice_39 rfl (lv_at hl 2 rfl) ?_
        refine va_get (D := g.1) (ci := 2) (v := .ref a1) (C := RX2) (T := TX2) (N := 5) hx hb hts in_X2_powersPrice_X2 hown hK hP 0 rfl rfl 2 (by decide) (hts _ (List.mem_of_getElem? (i := 1) rfl)) (fun _ h9 => h9) rfl dX2_powersPrice_40 ?_
        refine lv_iconst (v := 2) hx hb dX2_powersPrice_43 (by decide) ?_
        refine lv_tope (y := (nI 2)) rfl ?_
        refine gIald (k := 2) hx hb hE hP 1 rfl (by omega) (by omega) dX2_powersPrice_44 ?_
        refine lv_imul hx hb dX2_powersPrice_45 ?_
        refine lv_iadd hx hb dX2_powersPrice_46 ?_
        subst hQ
        exact W.iret (v := (((bc x) * (fc 1)) + ((hiF x k) * (fc 2)))) hx hb hr (fun t ht hW => ⟨⟨(((bc x) * (fc 1)) + ((hiF x k) * (fc 2))), (), rfl, by rw [e9]; rfl, trivial⟩, hS.F ht⟩) hS.2.2 dX2_powersPrice_47
      · have n7 : k + 1 ≤ 8 := Nat.le_of_not_lt (fun h9 => c7 ((nI_ltI (a := 8) (b := k + 1) (by omega) (by omega)).mpr h9))
        refine lv_iload_n hx hb dX2_powersPrice_10 rfl (lv_at hl 3 rfl) ?_
        refine lv_iload_n hx hb dX2_powersPrice_11 rfl (lv_at hl 0 rfl) ?_
        refine lv_ishr hx hb dX2_powersPrice_12 ?_
        refine lv_iconst (v := 1) hx hb dX2_powersPrice_13 (by decide) ?_
        refine lv_iand hx hb dX2_powersPrice_14 ?_
        refine lv_iconst (v := 1) hx hb dX2_powersPrice_15 (by decide) ?_
        refine lv_icmp_ne (tgt := 21) hx hb dX2_powersPrice_16 (by decide) (fun c16 => ?_) (fun c16 => ?_)
        · refine lv_iinc (v := (nI (k + 1 + 1))) (lv' := [(3, .int (nI (k + 1 + 1))), (2, .int (hiF x k)), (0, .ref a0), (1, .int x)]) hx hb dX2_powersPrice_21 hl (k := 0) rfl (nI_add (k + 1) 1) (by decide) rfl (fun ls hl => ?_)
          refine lv_goto (tgt := 4) hx hb dX2_powersPrice_24 (by decide) ?_
          exact ih4 (k + 1) (by omega) (by omega) (hiF x k) (by first | rw [hiF, if_neg c16] | rw [hiF, if_pos c16]) _ _ hP hS _ (lv_sub hl [0, 1, 2, 3] rfl)
        · refine lv_iload_n hx hb dX2_powersPrice_19 rfl (lv_at hl 0 rfl) ?_
          refine lv_istore_n (lv' := [(2, .int (nI (k + 1))), (3, .int (nI (k + 1))), (0, .ref a0), (1, .int x)]) hx hb dX2_powersPrice_20 rfl hl (by decide) rfl (fun ls hl => ?_)
          refine lv_iinc (v := (nI (k + 1 + 1))) (lv' := [(3, .int (nI (k + 1 + 1))), (2, .int (nI (k + 1))), (0, .ref a0), (1, .int x)]) hx hb dX2_powersPrice_21 hl (k := 1) rfl (nI_add (k + 1) 1) (by decide) rfl (fun ls hl => ?_)
          refine lv_goto (tgt := 4) hx hb dX2_powersPrice_24 (by decide) ?_
          exact ih4 (k + 1) (by omega) (by omega) (nI (k + 1)) (by first | rw [hiF, if_neg c16] | rw [hiF, if_pos c16]) _ _ hP hS _ (lv_sub hl [0, 1, 2, 3] rfl)
  exact lp4 ((8 - 0) + 1) 0 (Nat.lt_succ_self _) (by omega) 0 rfl _ _ hP hS _ (lv_sub hl [0, 1, 2, 3] rfl)
theorem in_X2_price_X2 : ∀ w ∈ wsX20, w ∈ wsX2_price := by decide +kernel
abbrev rm_X2_price : Room := { frames := 2, cells := 0, slots := 0, locals := 43 }
set_option maxRecDepth 100000 in
set_option maxHeartbeats 4000000 in
theorem c_X2_price (l : Launch) (g : GT) (a0 : Nat) (a1 : Nat) (a2 : Nat) (a3 : Nat) (w : Nat) (ac : Int64) (fc : Nat → Int32) (fs : Nat → Int32) (fr : Nat → Int32) (b : Nat) (mt : Int32) : cRi l g yX2_price wsX2_price rm_X2_price [.ref a0, .int (nI b), .int mt] [(a0, .inr (2, [.int (nI w), .long ac, .ref a1, .ref a2, .ref a3])), (a1, .inl (g.2.1 0, 3, .inl fc)), (a2, .inl (g.2.1 0, 511, .inl fs)), (a3, .inl (g.2.1 0, 8, .inl fr))] (fun r => r = (pcF fc b mt)) := by
  refine enR (y := yX2_price) (ws := wsX2_price) (av := [.ref a0, .int (nI b), .int mt]) (cc := cX2_price) (maxL := 3) (ret := (some .int)) (by decide) rfl (Nat.le_of_ble_eq_true rfl) rfl ?_
  intro p e s m below meth c ls hx hb hr hml hown hts hlocks hE hP hl
  have hK := hE.1
  have hS : va_S noA s.heap s.heap [] := va_S.rf
  generalize hQ : MQ below _ _ s _ _ _ = Q9
  have hl : lv_has ls 3 [(0, .ref a0), (1, .int (nI b)), (2, .int mt)] := hl
  refine lv_iload_n hx hb dX2_price_0 rfl (lv_at hl 2 rfl) ?_
  refine lv_if_ne (tgt := 22) hx hb dX2_price_1 (by decide) (fun c1 => ?_) (fun c1 => ?_)
  · refine lv_aload_n hx hb dX2_price_22 rfl (lv_at hl 0 rfl) ?_
    refine lv_iload_n hx hb dX2_price_23 rfl (lv_at hl 2 rfl) ?_
    refine lv_iconst (v := 1) hx hb dX2_price_24 (by decide) ?_
    refine lv_icmp_ne (tgt := 32) hx hb dX2_price_25 (by decide) (fun c25 => ?_) (fun c25 => ?_)
    · refine lv_iload_n hx hb dX2_price_32 rfl (lv_at hl 1 rfl) ?_
      refine lv_iload_n hx hb dX2_price_33 rfl (lv_at hl 1 rfl) ?_
      refine lv_iconst (v := 1) hx hb dX2_price_34 (by decide) ?_
      refine lv_ishl hx hb dX2_price_35 ?_
      refine lv_ixor hx hb dX2_price_36 ?_
      refine kRi (va_runV (As := [.int ((nI b) ^^^ ((nI b) <<< (1 &&& 31)))]) (rest := []) ⟨hx, hb, hml, hown, hts⟩ (c_X2_powersPrice l g a0 a1 a2 a3 w ac fc fs fr ((nI b) ^^^ ((nI b) <<< (1 &&& 31)))) (cwV 1 hts gX2_price_X2_powersPrice rfl rfl rfl (by decide +kernel) ⟨(Nat.le_of_ble_eq_true rfl), (Nat.le_of_ble_eq_true rfl)⟩) (preV (RX2, TX2, 5) hE hP [0, 1, 2, 3] rfl rfl) rfl rfl hl.1 rfl (lv_room (Nat.le_of_ble_eq_true rfl)) dX2_price_37 ⟨(Nat.le_of_ble_eq_true rfl), (Nat.le_of_ble_eq_true rfl)⟩) hP hS (fun r9 H locs hr9 hP hS => ?_)
      subst hr9
      subst hQ
      exact W.iret (v := (ppF fc ((nI b) ^^^ ((nI b) <<< (1 &&& 31))))) hx hb hr (fun t ht hW => ⟨⟨(ppF fc ((nI b) ^^^ ((nI b) <<< (1 &&& 31)))), (), rfl, by first | exact ((if_neg c1).trans (if_pos c25)).symm | exact ((if_neg c1).trans (if_neg c25)).symm, trivial⟩, hS.F ht⟩) hS.2.2 dX2_price_40
    · refine lv_iload_n hx hb dX2_price_28 rfl (lv_at hl 1 rfl) ?_
      refine lv_goto (tgt := 37) hx hb dX2_price_29 (by decide) ?_
      refine kRi (va_runV (As := [.int (nI b)]) (rest := []) ⟨hx, hb, hml, hown, hts⟩ (c_X2_powersPrice l g a0 a1 a2 a3 w ac fc fs fr (nI b)) (cwV 1 hts gX2_price_X2_powersPrice rfl rfl rfl (by decide +kernel) ⟨(Nat.le_of_ble_eq_true rfl), (Nat.le_of_ble_eq_true rfl)⟩) (preV (RX2, TX2, 5) hE hP [0, 1, 2, 3] rfl rfl) rfl rfl hl.1 rfl (lv_room (Nat.le_of_ble_eq_true rfl)) dX2_price_37 ⟨(Nat.le_of_ble_eq_true rfl), (Nat.le_of_ble_eq_true rfl)⟩) hP hS (fun r9 H locs hr9 hP hS => ?_)
      subst hr9
      subst hQ
      exact W.iret (v := (ppF fc (nI b))) hx hb hr (fun t ht hW => ⟨⟨(ppF fc (nI b)), (), rfl, by first | exact ((if_neg c1).trans (if_pos c25)).symm | exact ((if_neg c1).trans (if_neg c25)).symm, trivial⟩, hS.F ht⟩) hS.2.2 dX2_price_40
  · refine lv_iconst (v := 2) hx hb dX2_price_4 (by decide) ?_
    refine lv_aload_n hx hb dX2_price_5 rfl (lv_at hl 0 rfl) ?_
    refine va_get (D := g.1) (ci := 2) (v := .ref a1) (C := RX2) (T := TX2) (N := 5) hx hb hts in_X2_price_X2 hown hK hP 0 rfl rfl 2 (by decide) (hts _ (List.mem_of_getElem? (i := 1) rfl)) (fun _ h9 => h9) rfl dX2_price_6 ?_
    refine lv_iconst (v := 0) hx hb dX2_price_9 (by decide) ?_
    refine lv_tope (y := (nI 0)) rfl ?_
    refine gIald (k := 0) hx hb hE hP 1 rfl (by omega) (by omega) dX2_price_10 ?_
    refine lv_imul hx hb dX2_price_11 ?_
    refine lv_iconst (v := 3) hx hb dX2_price_12 (by decide) ?_
    refine lv_aload_n hx hb dX2_price_13 rfl (lv_at hl 0 rfl) ?_
    refine va_get (D := g.1) (ci := 2) (v := .ref a1) (C := RX2) (T := TX2) (N := 5) hx hb hts in_X2_price_X2 hown hK hP 0 rfl rfl 2 (by decide) (hts _ (List.mem_of_getElem? (i := 1) rfl)) (fun _ h9 => h9) rfl dX2_price_14 ?_
    refine lv_iconst (v := 1) hx hb dX2_price_17 (by decide) ?_
    refine lv_tope (y := (nI 1)) rfl ?_
    refine gIald (k := 1) hx hb hE hP 1 rfl (by omega) (by omega) dX2_price_18 ?_
    refine lv_imul hx hb dX2_price_19 ?_
    refine lv_iadd hx hb dX2_price_20 ?_
    subst hQ
    exact W.iret (v := ((2 * (fc 0)) + (3 * (fc 1)))) hx hb hr (fun t ht hW => ⟨⟨((2 * (fc 0)) + (3 * (fc 1))), (), rfl, (if_pos c1).symm, trivial⟩, hS.F ht⟩) hS.2.2 dX2_price_21
abbrev rm_X2_methodOf : Room := { frames := 0, cells := 0, slots := 0, locals := 0 }
set_option maxRecDepth 100000 in
set_option maxHeartbeats 4000000 in
theorem c_X2_methodOf (l : Launch) (g : GT) (sg : Int32) : cRi l g yX2_methodOf wsX2_methodOf rm_X2_methodOf [.int sg] [] (fun r => r = (moF sg)) := by
  refine enR (y := yX2_methodOf) (ws := wsX2_methodOf) (av := [.int sg]) (cc := cX2_methodOf) (maxL := 1) (ret := (some .int)) (by decide) rfl (Nat.le_of_ble_eq_true rfl) rfl ?_
  intro p e s m below meth c ls hx hb hr hml hown hts hlocks hE hP hl
  have hK := hE.1
  have hS : va_S noA s.heap s.heap [] := va_S.rf
  generalize hQ : MQ below _ _ s _ _ _ = Q9
  have hl : lv_has ls 1 [(0, .int sg)] := hl
  refine lv_iload_n hx hb dX2_methodOf_0 rfl (lv_at hl 0 rfl) ?_
  by_cases q1_42 : sg = 42
  · refine lv_tope (y := 42) q1_42 ?_
    refine lv_lookup (tgt := 28) (off := 27) hx hb dX2_methodOf_1 (by decide) (by decide) (by decide) ?_
    refine lv_iconst (v := 0) hx hb dX2_methodOf_28 (by decide) ?_
    subst hQ
    exact W.iret (v := 0) hx hb hr (fun t ht hW => ⟨⟨0, (), rfl, (if_pos q1_42).symm, trivial⟩, hS.F ht⟩) hS.2.2 dX2_methodOf_29
  · skip
    by_cases q1_120 : sg = 120
    · refine lv_tope (y := 120) q1_120 ?_
      refine lv_lookup (tgt := 30) (off := 29) hx hb dX2_methodOf_1 (by decide) (by decide) (by decide) ?_
      refine lv_iconst (v := 1) hx hb dX2_methodOf_30 (by decide) ?_
      subst hQ
      exact W.iret (v := 1) hx hb hr (fun t ht hW => ⟨⟨1, (), rfl, ((if_neg q1_42).trans (if_pos q1_120)).symm, trivial⟩, hS.F ht⟩) hS.2.2 dX2_methodOf_31
    · skip
      refine lv_lookup (tgt := 32) (off := 31) hx hb dX2_methodOf_1 (by decide) ((lv_osw q1_42 (by decide)).trans ((lv_osw q1_120 (by decide)).trans rfl)) (by decide) ?_
      refine lv_iconst (v := 2) hx hb dX2_methodOf_32 (by decide) ?_
      subst hQ
      exact W.iret (v := 2) hx hb hr (fun t ht hW => ⟨⟨2, (), rfl, ((if_neg q1_42).trans (if_neg q1_120)).symm, trivial⟩, hS.F ht⟩) hS.2.2 dX2_methodOf_33
abbrev rm_X2_result : Room := { frames := 2, cells := 0, slots := 0, locals := 38 }
set_option maxRecDepth 100000 in
set_option maxHeartbeats 4000000 in
theorem c_X2_result (l : Launch) (g : GT) (a0 : Nat) (a1 : Nat) (a2 : Nat) (a3 : Nat) (w : Nat) (ac : Int64) (fc : Nat → Int32) (fs : Nat → Int32) (fr : Nat → Int32) (a : Nat) (sg : Int32) (b : Nat) (hA5 : a ≤ 255) (hB5 : b ≤ 255) : cRi l g yX2_result wsX2_result rm_X2_result [.ref a0, .int (nI a), .int sg, .int (nI b)] [(a0, .inr (2, [.int (nI w), .long ac, .ref a1, .ref a2, .ref a3])), (a1, .inl (g.2.1 0, 3, .inl fc)), (a2, .inl (g.2.1 0, 511, .inl fs)), (a3, .inl (g.2.1 0, 8, .inl fr))] (fun r => r = (xrF fs a sg b)) := by
  refine enR (y := yX2_result) (ws := wsX2_result) (av := [.ref a0, .int (nI a), .int sg, .int (nI b)]) (cc := cX2_result) (maxL := 4) (ret := (some .int)) (by decide) rfl (Nat.le_of_ble_eq_true rfl) rfl ?_
  intro p e s m below meth c ls hx hb hr hml hown hts hlocks hE hP hl
  have hK := hE.1
  have hS : va_S noA s.heap s.heap [] := va_S.rf
  generalize hQ : MQ below _ _ s _ _ _ = Q9
  have hl : lv_has ls 4 [(0, .ref a0), (1, .int (nI a)), (2, .int sg), (3, .int (nI b))] := hl
  refine lv_iload_n hx hb dX2_result_0 rfl (lv_at hl 2 rfl) ?_
  by_cases q1_43 : sg = 43
  · refine lv_tope (y := 43) q1_43 ?_
    refine lv_lookup (tgt := 36) (off := 35) hx hb dX2_result_1 (by decide) (by decide) (by decide) ?_
    refine lv_iload_n hx hb dX2_result_36 rfl (lv_at hl 1 rfl) ?_
    refine lv_iload_n hx hb dX2_result_37 rfl (lv_at hl 3 rfl) ?_
    refine lv_iadd hx hb dX2_result_38 ?_
    subst hQ
    exact W.iret (v := ((nI a) + (nI b))) hx hb hr (fun t ht hW => ⟨⟨((nI a) + (nI b)), (), rfl, (if_pos q1_43).symm, trivial⟩, hS.F ht⟩) hS.2.2 dX2_result_39
  · skip
    by_cases q1_45 : sg = 45
    · refine lv_tope (y := 45) q1_45 ?_
      refine lv_lookup (tgt := 40) (off := 39) hx hb dX2_result_1 (by decide) (by decide) (by decide) ?_
      refine lv_iload_n hx hb dX2_result_40 rfl (lv_at hl 1 rfl) ?_
      refine lv_iload_n hx hb dX2_result_41 rfl (lv_at hl 3 rfl) ?_
      refine lv_isub hx hb dX2_result_42 ?_
      subst hQ
      exact W.iret (v := ((nI a) - (nI b))) hx hb hr (fun t ht hW => ⟨⟨((nI a) - (nI b)), (), rfl, ((if_neg q1_43).trans (if_pos q1_45)).symm, trivial⟩, hS.F ht⟩) hS.2.2 dX2_result_43
    · skip
      by_cases q1_62 : sg = 62
      · refine lv_tope (y := 62) q1_62 ?_
        refine lv_lookup (tgt := 44) (off := 43) hx hb dX2_result_1 (by decide) (by decide) (by decide) ?_
        refine lv_iload_n hx hb dX2_result_44 rfl (lv_at hl 1 rfl) ?_
        refine lv_iload_n hx hb dX2_result_45 rfl (lv_at hl 3 rfl) ?_
        refine lv_bipush (v := 31) hx hb dX2_result_46 (by decide) ?_
        refine va_mmin hx hb (hml.trans hl.1.symm) hown (hts _ (List.mem_of_getElem? (i := 1) rfl)) (hts _ (List.mem_of_getElem? (i := 2) rfl)) (hts _ (List.mem_of_getElem? (i := 3) rfl)) (hts _ (List.mem_of_getElem? (i := 4) rfl)) (Nat.le_of_ble_eq_true rfl) (Nat.le_of_ble_eq_true rfl) (Nat.le_of_ble_eq_true rfl) (Nat.le_of_ble_eq_true rfl) dX2_result_48 ?_
        refine lv_tope (y := (mnF b)) rfl ?_
        refine lv_ishr hx hb dX2_result_51 ?_
        subst hQ
        exact W.iret (v := ((nI a) >>> ((mnF b) &&& 31))) hx hb hr (fun t ht hW => ⟨⟨((nI a) >>> ((mnF b) &&& 31)), (), rfl, ((if_neg q1_43).trans ((if_neg q1_45).trans (if_pos q1_62))).symm, trivial⟩, hS.F ht⟩) hS.2.2 dX2_result_52
      · skip
        refine lv_lookup (tgt := 53) (off := 52) hx hb dX2_result_1 (by decide) ((lv_osw q1_43 (by decide)).trans ((lv_osw q1_45 (by decide)).trans ((lv_osw q1_62 (by decide)).trans rfl))) (by decide) ?_
        refine lv_aload_n hx hb dX2_result_53 rfl (lv_at hl 0 rfl) ?_
        refine lv_iload_n hx hb dX2_result_54 rfl (lv_at hl 1 rfl) ?_
        refine lv_iload_n hx hb dX2_result_55 rfl (lv_at hl 3 rfl) ?_
        refine lv_iload_n hx hb dX2_result_56 rfl (lv_at hl 2 rfl) ?_
        refine kRi (va_runS (As := [.int sg]) (rest := [.int (nI b), .int (nI a), .ref a0]) ⟨hx, hb, hml, hown, hts⟩ (c_X2_methodOf l g sg) (va_cwS 1 hts gX2_result_X2_methodOf rfl rfl rfl (by decide +kernel) ⟨(Nat.le_of_ble_eq_true rfl), (Nat.le_of_ble_eq_true rfl)⟩) (preS hE hP [] rfl) rfl rfl hl.1 rfl (lv_room (Nat.le_of_ble_eq_true rfl)) dX2_result_57 ⟨(Nat.le_of_ble_eq_true rfl), (Nat.le_of_ble_eq_true rfl)⟩) hP hS (fun r9 H locs hr9 hP hS => ?_)
        subst hr9
        refine kRi (va_runV (As := [.int (nI a), .int (nI b), .int (moF sg)]) (rest := []) ⟨hx, hb, hml, hown, hts⟩ (c_X2_product l g a0 a1 a2 a3 w ac fc fs fr a b (moF sg) (by first | assumption | omega | exact Nat.le_of_ble_eq_true rfl) (by first | assumption | omega | exact Nat.le_of_ble_eq_true rfl)) (cwV 3 hts gX2_result_X2_product rfl rfl rfl (by decide +kernel) ⟨(Nat.le_of_ble_eq_true rfl), (Nat.le_of_ble_eq_true rfl)⟩) (preV (RX2, TX2, 5) hE hP [0, 1, 2, 3] rfl rfl) rfl rfl hl.1 rfl (lv_room (Nat.le_of_ble_eq_true rfl)) dX2_result_60 ⟨(Nat.le_of_ble_eq_true rfl), (Nat.le_of_ble_eq_true rfl)⟩) hP hS (fun r9 H locs hr9 hP hS => ?_)
        subst hr9
        subst hQ
        exact W.iret (v := (prF fs a b (moF sg))) hx hb hr (fun t ht hW => ⟨⟨(prF fs a b (moF sg)), (), rfl, ((if_neg q1_43).trans ((if_neg q1_45).trans (if_neg q1_62))).symm, trivial⟩, hS.F ht⟩) hS.2.2 dX2_result_63
theorem in_X2_statementPrice_X2 : ∀ w ∈ wsX20, w ∈ wsX2_statementPrice := by decide +kernel
abbrev rm_X2_statementPrice : Room := { frames := 3, cells := 0, slots := 0, locals := 65 }
set_option maxRecDepth 100000 in
set_option maxHeartbeats 4000000 in
theorem c_X2_statementPrice (l : Launch) (g : GT) (a0 : Nat) (a1 : Nat) (a2 : Nat) (a3 : Nat) (w : Nat) (ac : Int64) (fc : Nat → Int32) (fs : Nat → Int32) (fr : Nat → Int32) (sg : Int32) (b : Nat) : cRi l g yX2_statementPrice wsX2_statementPrice rm_X2_statementPrice [.ref a0, .int sg, .int (nI b)] [(a0, .inr (2, [.int (nI w), .long ac, .ref a1, .ref a2, .ref a3])), (a1, .inl (g.2.1 0, 3, .inl fc)), (a2, .inl (g.2.1 0, 511, .inl fs)), (a3, .inl (g.2.1 0, 8, .inl fr))] (fun r => r = (xcF fc sg b)) := by
  refine enR (y := yX2_statementPrice) (ws := wsX2_statementPrice) (av := [.ref a0, .int sg, .int (nI b)]) (cc := cX2_statementPrice) (maxL := 3) (ret := (some .int)) (by decide) rfl (Nat.le_of_ble_eq_true rfl) rfl ?_
  intro p e s m below meth c ls hx hb hr hml hown hts hlocks hE hP hl
  have hK := hE.1
  have hS : va_S noA s.heap s.heap [] := va_S.rf
  generalize hQ : MQ below _ _ s _ _ _ = Q9
  have hl : lv_has ls 3 [(0, .ref a0), (1, .int sg), (2, .int (nI b))] := hl
  refine lv_iload_n hx hb dX2_statementPrice_0 rfl (lv_at hl 1 rfl) ?_
  by_cases q1_43 : sg = 43
  · refine lv_tope (y := 43) q1_43 ?_
    refine lv_lookup (tgt := 36) (off := 35) hx hb dX2_statementPrice_1 (by decide) (by decide) (by decide) ?_
    refine lv_aload_n hx hb dX2_statementPrice_36 rfl (lv_at hl 0 rfl) ?_
    refine va_get (D := g.1) (ci := 2) (v := .ref a1) (C := RX2) (T := TX2) (N := 5) hx hb hts in_X2_statementPrice_X2 hown hK hP 0 rfl rfl 2 (by decide) (hts _ (List.mem_of_getElem? (i := 1) rfl)) (fun _ h9 => h9) rfl dX2_statementPrice_37 ?_
    refine lv_iconst (v := 1) hx hb dX2_statementPrice_40 (by decide) ?_
    refine lv_tope (y := (nI 1)) rfl ?_
    refine gIald (k := 1) hx hb hE hP 1 rfl (by omega) (by omega) dX2_statementPrice_41 ?_
    subst hQ
    exact W.iret (v := (fc 1)) hx hb hr (fun t ht hW => ⟨⟨(fc 1), (), rfl, by first | exact (if_pos q1_43).symm | exact ((if_neg q1_43).trans (if_pos q1_45)).symm, trivial⟩, hS.F ht⟩) hS.2.2 dX2_statementPrice_42
  · skip
    by_cases q1_45 : sg = 45
    · refine lv_tope (y := 45) q1_45 ?_
      refine lv_lookup (tgt := 36) (off := 35) hx hb dX2_statementPrice_1 (by decide) (by decide) (by decide) ?_
      refine lv_aload_n hx hb dX2_statementPrice_36 rfl (lv_at hl 0 rfl) ?_
      refine va_get (D := g.1) (ci := 2) (v := .ref a1) (C := RX2) (T := TX2) (N := 5) hx hb hts in_X2_statementPrice_X2 hown hK hP 0 rfl rfl 2 (by decide) (hts _ (List.mem_of_getElem? (i := 1) rfl)) (fun _ h9 => h9) rfl dX2_statementPrice_37 ?_
      refine lv_iconst (v := 1) hx hb dX2_statementPrice_40 (by decide) ?_
      refine lv_tope (y := (nI 1)) rfl ?_
      refine gIald (k := 1) hx hb hE hP 1 rfl (by omega) (by omega) dX2_statementPrice_41 ?_
      subst hQ
      exact W.iret (v := (fc 1)) hx hb hr (fun t ht hW => ⟨⟨(fc 1), (), rfl, by first | exact (if_pos q1_43).symm | exact ((if_neg q1_43).trans (if_pos q1_45)).symm, trivial⟩, hS.F ht⟩) hS.2.2 dX2_statementPrice_42
    · skip
      by_cases q1_62 : sg = 62
      · refine lv_tope (y := 62) q1_62 ?_
        refine lv_lookup (tgt := 43) (off := 42) hx hb dX2_statementPrice_1 (by decide) (by decide) (by decide) ?_
        refine lv_iload_n hx hb dX2_statementPrice_43 rfl (lv_at hl 2 rfl) ?_
        refine lv_bipush (v := 31) hx hb dX2_statementPrice_44 (by decide) ?_
        refine va_mmin hx hb (hml.trans hl.1.symm) hown (hts _ (List.mem_of_getElem? (i := 2) rfl)) (hts _ (List.mem_of_getElem? (i := 3) rfl)) (hts _ (List.mem_of_getElem? (i := 4) rfl)) (hts _ (List.mem_of_getElem? (i := 5) rfl)) (Nat.le_of_ble_eq_true rfl) (Nat.le_of_ble_eq_true rfl) (Nat.le_of_ble_eq_true rfl) (Nat.le_of_ble_eq_true rfl) dX2_statementPrice_46 ?_
        refine lv_tope (y := (mnF b)) rfl ?_
        refine lv_aload_n hx hb dX2_statementPrice_49 rfl (lv_at hl 0 rfl) ?_
        refine va_get (D := g.1) (ci := 2) (v := .ref a1) (C := RX2) (T := TX2) (N := 5) hx hb hts in_X2_statementPrice_X2 hown hK hP 0 rfl rfl 2 (by decide) (hts _ (List.mem_of_getElem? (i := 1) rfl)) (fun _ h9 => h9) rfl dX2_statementPrice_50 ?_
        refine lv_iconst (v := 2) hx hb dX2_statementPrice_53 (by decide) ?_
        refine lv_tope (y := (nI 2)) rfl ?_
        refine gIald (k := 2) hx hb hE hP 1 rfl (by omega) (by omega) dX2_statementPrice_54 ?_
        refine lv_imul hx hb dX2_statementPrice_55 ?_
        subst hQ
        exact W.iret (v := ((mnF b) * (fc 2))) hx hb hr (fun t ht hW => ⟨⟨((mnF b) * (fc 2)), (), rfl, ((if_neg q1_43).trans ((if_neg q1_45).trans (if_pos q1_62))).symm, trivial⟩, hS.F ht⟩) hS.2.2 dX2_statementPrice_56
      · skip
        refine lv_lookup (tgt := 57) (off := 56) hx hb dX2_statementPrice_1 (by decide) ((lv_osw q1_43 (by decide)).trans ((lv_osw q1_45 (by decide)).trans ((lv_osw q1_62 (by decide)).trans rfl))) (by decide) ?_
        refine lv_aload_n hx hb dX2_statementPrice_57 rfl (lv_at hl 0 rfl) ?_
        refine lv_iload_n hx hb dX2_statementPrice_58 rfl (lv_at hl 2 rfl) ?_
        refine lv_iload_n hx hb dX2_statementPrice_59 rfl (lv_at hl 1 rfl) ?_
        refine kRi (va_runS (As := [.int sg]) (rest := [.int (nI b), .ref a0]) ⟨hx, hb, hml, hown, hts⟩ (c_X2_methodOf l g sg) (va_cwS 1 hts gX2_statementPrice_X2_methodOf rfl rfl rfl (by decide +kernel) ⟨(Nat.le_of_ble_eq_true rfl), (Nat.le_of_ble_eq_true rfl)⟩) (preS hE hP [] rfl) rfl rfl hl.1 rfl (lv_room (Nat.le_of_ble_eq_true rfl)) dX2_statementPrice_60 ⟨(Nat.le_of_ble_eq_true rfl), (Nat.le_of_ble_eq_true rfl)⟩) hP hS (fun r9 H locs hr9 hP hS => ?_)
        subst hr9
        refine kRi (va_runV (As := [.int (nI b), .int (moF sg)]) (rest := []) ⟨hx, hb, hml, hown, hts⟩ (c_X2_price l g a0 a1 a2 a3 w ac fc fs fr b (moF sg)) (cwV 2 hts gX2_statementPrice_X2_price rfl rfl rfl (by decide +kernel) ⟨(Nat.le_of_ble_eq_true rfl), (Nat.le_of_ble_eq_true rfl)⟩) (preV (RX2, TX2, 5) hE hP [0, 1, 2, 3] rfl rfl) rfl rfl hl.1 rfl (lv_room (Nat.le_of_ble_eq_true rfl)) dX2_statementPrice_63 ⟨(Nat.le_of_ble_eq_true rfl), (Nat.le_of_ble_eq_true rfl)⟩) hP hS (fun r9 H locs hr9 hP hS => ?_)
        subst hr9
        subst hQ
        exact W.iret (v := (pcF fc b (moF sg))) hx hb hr (fun t ht hW => ⟨⟨(pcF fc b (moF sg)), (), rfl, ((if_neg q1_43).trans ((if_neg q1_45).trans (if_neg q1_62))).symm, trivial⟩, hS.F ht⟩) hS.2.2 dX2_statementPrice_66
theorem in_X2_execute_X2 : ∀ w ∈ wsX20, w ∈ wsX2_execute := by decide +kernel
abbrev rm_X2_execute : Room := { frames := 4, cells := 0, slots := 0, locals := 87 }
set_option maxRecDepth 100000 in
set_option maxHeartbeats 4000000 in
theorem c_X2_execute (l : Launch) (g : GT) (a0 : Nat) (a1 : Nat) (a2 : Nat) (a3 : Nat) (w : Nat) (ac : Int64) (fc : Nat → Int32) (fs : Nat → Int32) (fr : Nat → Int32) (t : Nat) (sg : Int32) (f : Nat) (sd : Nat) (rv : Nat → Nat) (hw8 : w ≤ 8) (ht8 : t < 8) (hsd : sd < 8) (hf : ¬ sg = 61 → f < 8) (hrv : ∀ k, k < 8 → fr k = nI (rv k) ∧ rv k ≤ gr w) : cUi l g yX2_execute wsX2_execute rm_X2_execute [.ref a0, .int (nI t), .int sg, .int (nI f), .int (nI sd)] [(a0, .inr (2, [.int (nI w), .long ac, .ref a1, .ref a2, .ref a3])), (a1, .inl (g.2.1 0, 3, .inl fc)), (a2, .inl (g.2.1 0, 511, .inl fs)), (a3, .inl (g.2.1 0, 8, .inl fr))] (fun r (_ : Unit) => r = (xkF fc rv sg sd)) (fun _ => [(a0, .inr (2, [.int (nI w), .long ac, .ref a1, .ref a2, .ref a3])), (a1, .inl (g.2.1 0, 3, .inl fc)), (a2, .inl (g.2.1 0, 511, .inl fs)), (a3, .inl (g.2.1 0, 8, .inl (upd fr t (xvF w fs rv sg f sd))))]) := by
  refine enU (y := yX2_execute) (ws := wsX2_execute) (av := [.ref a0, .int (nI t), .int sg, .int (nI f), .int (nI sd)]) (cc := cX2_execute) (maxL := 7) (ret := (some .int)) (by decide) rfl (Nat.le_of_ble_eq_true rfl) rfl ?_
  intro p e s m below meth c ls hx hb hr hml hown hts hlocks hE hP hD hl
  have hK := hE.1
  have hS : va_S (va_Ad [(a0, .inr (2, [.int (nI w), .long ac, .ref a1, .ref a2, .ref a3])), (a1, .inl (g.2.1 0, 3, .inl fc)), (a2, .inl (g.2.1 0, 511, .inl fs)), (a3, .inl (g.2.1 0, 8, .inl fr))]) s.heap s.heap [] := va_S.rf
  generalize hQ : MQ below _ _ s _ _ _ = Q9
  have hl : lv_has ls 7 [(0, .ref a0), (1, .int (nI t)), (2, .int sg), (3, .int (nI f)), (4, .int (nI sd))] := hl
  have hgr := gr_le w hw8
  have hen := ents_le w hw8
  refine lv_iload_n hx hb dX2_execute_0 rfl (lv_at hl 2 rfl) ?_
  refine lv_bipush (v := 61) hx hb dX2_execute_1 (by decide) ?_
  refine lv_icmp_ne (tgt := 20) hx hb dX2_execute_3 (by decide) (fun c3 => ?_) (fun c3 => ?_)
  · have hf8 := hf c3
    have hv1 := hrv f hf8
    have hv2 := hrv sd hsd
    have hu1 : rv f ≤ 255 := by omega
    have hu2 : rv sd ≤ 255 := by omega
    refine lv_aload_n hx hb dX2_execute_20 rfl (lv_at hl 0 rfl) ?_
    refine va_get (D := g.1) (ci := 2) (v := .ref a3) (C := RX2) (T := TX2) (N := 5) hx hb hts in_X2_execute_X2 hown hK hP 0 rfl rfl 4 (by decide) (hts _ (List.mem_of_getElem? (i := 1) rfl)) (fun _ h9 => h9) rfl dX2_execute_21 ?_
    refine lv_iload_n hx hb dX2_execute_24 rfl (lv_at hl 3 rfl) ?_
    refine gIald (k := f) hx hb hE hP 3 rfl (by omega) (by omega) dX2_execute_25 ?_
    refine lv_tope (y := (nI (rv f))) hv1.1 ?_
    refine lv_istore (lv' := [(5, .int (nI (rv f))), (0, .ref a0), (1, .int (nI t)), (2, .int sg), (3, .int (nI f)), (4, .int (nI sd))]) hx hb dX2_execute_26 hl (by decide) rfl (fun ls hl => ?_)
    refine lv_aload_n hx hb dX2_execute_28 rfl (lv_at hl 1 rfl) ?_
    refine va_get (D := g.1) (ci := 2) (v := .ref a3) (C := RX2) (T := TX2) (N := 5) hx hb hts in_X2_execute_X2 hown hK hP 0 rfl rfl 4 (by decide) (hts _ (List.mem_of_getElem? (i := 1) rfl)) (fun _ h9 => h9) rfl dX2_execute_29 ?_
    refine lv_iload hx hb dX2_execute_32 (lv_at hl 5 rfl) ?_
    refine gIald (k := sd) hx hb hE hP 3 rfl (by omega) (by omega) dX2_execute_34 ?_
    refine lv_tope (y := (nI (rv sd))) hv2.1 ?_
    refine lv_istore (lv' := [(6, .int (nI (rv sd))), (5, .int (nI (rv f))), (0, .ref a0), (1, .int (nI t)), (2, .int sg), (3, .int (nI f)), (4, .int (nI sd))]) hx hb dX2_execute_35 hl (by decide) rfl (fun ls hl => ?_)
    refine lv_aload_n hx hb dX2_execute_37 rfl (lv_at hl 2 rfl) ?_
    refine va_get (D := g.1) (ci := 2) (v := .ref a3) (C := RX2) (T := TX2) (N := 5) hx hb hts in_X2_execute_X2 hown hK hP 0 rfl rfl 4 (by decide) (hts _ (List.mem_of_getElem? (i := 1) rfl)) (fun _ h9 => h9) rfl dX2_execute_38 ?_
    refine lv_iload_n hx hb dX2_execute_41 rfl (lv_at hl 3 rfl) ?_
    refine lv_aload_n hx hb dX2_execute_42 rfl (lv_at hl 2 rfl) ?_
    refine lv_iload hx hb dX2_execute_43 (lv_at hl 1 rfl) ?_
    refine lv_iload_n hx hb dX2_execute_45 rfl (lv_at hl 4 rfl) ?_
    refine lv_iload hx hb dX2_execute_46 (lv_at hl 0 rfl) ?_
    refine kRi (va_runV (As := [.int (nI (rv f)), .int sg, .int (nI (rv sd))]) (rest := [.int (nI t), .ref a3]) ⟨hx, hb, hml, hown, hts⟩ (c_X2_result l g a0 a1 a2 a3 w ac fc fs fr (rv f) sg (rv sd) (by first | assumption | omega | exact Nat.le_of_ble_eq_true rfl) (by first | assumption | omega | exact Nat.le_of_ble_eq_true rfl)) (cwV 3 hts gX2_execute_X2_result rfl rfl rfl (by decide +kernel) ⟨(Nat.le_of_ble_eq_true rfl), (Nat.le_of_ble_eq_true rfl)⟩) (preV (RX2, TX2, 5) hE hP [0, 1, 2, 3] rfl rfl) rfl rfl hl.1 rfl (lv_room (Nat.le_of_ble_eq_true rfl)) dX2_execute_48 ⟨(Nat.le_of_ble_eq_true rfl), (Nat.le_of_ble_eq_true rfl)⟩) hP hS (fun r9 H locs hr9 hP hS => ?_)
    subst hr9
    refine lv_aload_n hx hb dX2_execute_51 rfl (lv_at hl 2 rfl) ?_
    refine kRi (va_runV (As := []) (rest := [.int (xrF fs (rv f) sg (rv sd)), .int (nI t), .ref a3]) ⟨hx, hb, hml, hown, hts⟩ (c_X2_greatest l g a0 a1 a2 a3 w ac fc fs fr (by first | assumption | omega | exact Nat.le_of_ble_eq_true rfl)) (cwV 0 hts gX2_execute_X2_greatest rfl rfl rfl (by decide +kernel) ⟨(Nat.le_of_ble_eq_true rfl), (Nat.le_of_ble_eq_true rfl)⟩) (preV (RX2, TX2, 5) hE hP [0, 1, 2, 3] rfl rfl) rfl rfl hl.1 rfl (lv_room (Nat.le_of_ble_eq_true rfl)) dX2_execute_52 ⟨(Nat.le_of_ble_eq_true rfl), (Nat.le_of_ble_eq_true rfl)⟩) hP hS (fun r9 H locs hr9 hP hS => ?_)
    subst hr9
    refine lv_iand hx hb dX2_execute_55 ?_
    refine gIast (k := t) (x := ((xrF fs (rv f) sg (rv sd)) &&& (nI (gr w)))) (wsn := [(a0, .inr (2, [.int (nI w), .long ac, .ref a1, .ref a2, .ref a3])), (a1, .inl (g.2.1 0, 3, .inl fc)), (a2, .inl (g.2.1 0, 511, .inl fs)), (a3, .inl (g.2.1 0, 8, .inl (upd fr t ((xrF fs (rv f) sg (rv sd)) &&& (nI (gr w))))))]) hx hb hE hP hD hS 3 rfl (by omega) (by omega) dX2_execute_56 (hw := rfl) (kk := fun H locs hP hD hS => ?_)
    refine lv_aload_n hx hb dX2_execute_57 rfl (lv_at hl 2 rfl) ?_
    refine lv_iload_n hx hb dX2_execute_58 rfl (lv_at hl 4 rfl) ?_
    refine lv_iload hx hb dX2_execute_59 (lv_at hl 0 rfl) ?_
    refine kRi (va_runV (As := [.int sg, .int (nI (rv sd))]) (rest := []) ⟨hx, hb, hml, hown, hts⟩ (c_X2_statementPrice l g a0 a1 a2 a3 w ac fc fs (upd fr t ((xrF fs (rv f) sg (rv sd)) &&& (nI (gr w)))) sg (rv sd)) (cwV 2 hts gX2_execute_X2_statementPrice rfl rfl rfl (by decide +kernel) ⟨(Nat.le_of_ble_eq_true rfl), (Nat.le_of_ble_eq_true rfl)⟩) (preV (RX2, TX2, 5) hE hP [0, 1, 2, 3] rfl rfl) rfl rfl hl.1 rfl (lv_room (Nat.le_of_ble_eq_true rfl)) dX2_execute_61 ⟨(Nat.le_of_ble_eq_true rfl), (Nat.le_of_ble_eq_true rfl)⟩) hP hS (fun r9 H locs hr9 hP hS => ?_)
    subst hr9
    subst hQ
    have hP9 : va_P g.1 vwCl [(a0, .inr (2, [.int (nI w), .long ac, .ref a1, .ref a2, .ref a3])), (a1, .inl (g.2.1 0, 3, .inl fc)), (a2, .inl (g.2.1 0, 511, .inl fs)), (a3, .inl (g.2.1 0, 8, .inl (upd fr t (xvF w fs rv sg f sd))))] H := by rw [xvF, if_neg c3]; exact hP
    exact W.iret (v := (xcF fc sg (rv sd))) hx hb hr (fun t ht hW => ⟨⟨(xcF fc sg (rv sd)), (), rfl, (if_neg c3).symm, by show va_P g.1 vwCl _ t.heap; rw [ht]; exact hP9⟩, hS.F ht⟩) hS.2.2 dX2_execute_64
  · refine lv_aload_n hx hb dX2_execute_6 rfl (lv_at hl 0 rfl) ?_
    refine va_get (D := g.1) (ci := 2) (v := .ref a3) (C := RX2) (T := TX2) (N := 5) hx hb hts in_X2_execute_X2 hown hK hP 0 rfl rfl 4 (by decide) (hts _ (List.mem_of_getElem? (i := 1) rfl)) (fun _ h9 => h9) rfl dX2_execute_7 ?_
    refine lv_iload_n hx hb dX2_execute_10 rfl (lv_at hl 1 rfl) ?_
    refine lv_iload_n hx hb dX2_execute_11 rfl (lv_at hl 3 rfl) ?_
    refine lv_aload_n hx hb dX2_execute_12 rfl (lv_at hl 0 rfl) ?_
    refine kRi (va_runV (As := []) (rest := [.int (nI f), .int (nI t), .ref a3]) ⟨hx, hb, hml, hown, hts⟩ (c_X2_greatest l g a0 a1 a2 a3 w ac fc fs fr (by first | assumption | omega | exact Nat.le_of_ble_eq_true rfl)) (cwV 0 hts gX2_execute_X2_greatest rfl rfl rfl (by decide +kernel) ⟨(Nat.le_of_ble_eq_true rfl), (Nat.le_of_ble_eq_true rfl)⟩) (preV (RX2, TX2, 5) hE hP [0, 1, 2, 3] rfl rfl) rfl rfl hl.1 rfl (lv_room (Nat.le_of_ble_eq_true rfl)) dX2_execute_13 ⟨(Nat.le_of_ble_eq_true rfl), (Nat.le_of_ble_eq_true rfl)⟩) hP hS (fun r9 H locs hr9 hP hS => ?_)
    subst hr9
    refine lv_iand hx hb dX2_execute_16 ?_
    refine gIast (k := t) (x := ((nI f) &&& (nI (gr w)))) (wsn := [(a0, .inr (2, [.int (nI w), .long ac, .ref a1, .ref a2, .ref a3])), (a1, .inl (g.2.1 0, 3, .inl fc)), (a2, .inl (g.2.1 0, 511, .inl fs)), (a3, .inl (g.2.1 0, 8, .inl (upd fr t ((nI f) &&& (nI (gr w))))))]) hx hb hE hP hD hS 3 rfl (by omega) (by omega) dX2_execute_17 (hw := rfl) (kk := fun H locs hP hD hS => ?_)
    refine lv_iconst (v := 0) hx hb dX2_execute_18 (by decide) ?_
    subst hQ
    have hP9 : va_P g.1 vwCl [(a0, .inr (2, [.int (nI w), .long ac, .ref a1, .ref a2, .ref a3])), (a1, .inl (g.2.1 0, 3, .inl fc)), (a2, .inl (g.2.1 0, 511, .inl fs)), (a3, .inl (g.2.1 0, 8, .inl (upd fr t (xvF w fs rv sg f sd))))] H := by rw [xvF, if_pos c3]; exact hP
    exact W.iret (v := 0) hx hb hr (fun t ht hW => ⟨⟨0, (), rfl, (if_pos c3).symm, by show va_P g.1 vwCl _ t.heap; rw [ht]; exact hP9⟩, hS.F ht⟩) hS.2.2 dX2_execute_19
