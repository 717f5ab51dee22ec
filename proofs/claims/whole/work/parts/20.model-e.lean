/-! MODEL, the text: printed by wip/whole/gen/spec_model5.py -/
theorem in_X4_sees_X4 : ∀ w ∈ wsX40, w ∈ wsX4_sees := by decide +kernel
abbrev rm_X4_sees : Room := { frames := 1, cells := 0, slots := 0, locals := 22 }
set_option maxRecDepth 100000 in
set_option maxHeartbeats 4000000 in
theorem c_X4_sees (l : Launch) (g : GT) (m0 : Nat) (m1 : Nat) (m2 : Nat) (m3 : Nat) (m4 : Nat) (m5 : Nat) (ma : Int64) (np : Nat) (ln : Nat) (th : Int32) (at_ : Nat) (hs : Int64) (tx : Nat → Int32) (lo : Int32) (hi : Int32) (hat : at_ ≤ 100) (hln : ln ≤ 100) : cRi l g yX4_sees wsX4_sees rm_X4_sees [.ref m0, .int lo, .int hi] [(m0, .inr (4, [.ref m1, .long ma, .ref m2, .ref m3, .int (nI np), .ref m4, .int (nI ln), .int th, .ref m5, .int (nI at_), .long hs])), (m4, .inl (g.2.1 0, 100, .inl tx))] (fun r => r = (if seP tx ln at_ lo hi then (1 : Int32) else 0)) := by
  refine enR (y := yX4_sees) (ws := wsX4_sees) (av := [.ref m0, .int lo, .int hi]) (cc := cX4_sees) (maxL := 3) (ret := (some .boolean)) (by decide) rfl (Nat.le_of_ble_eq_true rfl) rfl ?_
  intro p e s m below meth c ls hx hb hr hml hown hts hlocks hE hP hl
  have hK := hE.1
  have hS : va_S noA s.heap s.heap [] := va_S.rf
  generalize hQ : MQ below _ _ s _ _ _ = Q9
  have hl : lv_has ls 3 [(0, .ref m0), (1, .int lo), (2, .int hi)] := hl
  refine lv_aload_n hx hb dX4_sees_0 rfl (lv_at hl 0 rfl) ?_
  refine va_get (D := g.1) (ci := 4) (v := .int (nI at_)) (C := RX4) (T := TX4) (N := 11) hx hb hts in_X4_sees_X4 hown hK hP 0 rfl rfl 9 (by decide) (hts _ (List.mem_of_getElem? (i := 1) rfl)) (fun _ h9 => h9) rfl dX4_sees_1 ?_
  refine lv_aload_n hx hb dX4_sees_4 rfl (lv_at hl 0 rfl) ?_
  refine va_get (D := g.1) (ci := 4) (v := .int (nI ln)) (C := RX4) (T := TX4) (N := 11) hx hb hts in_X4_sees_X4 hown hK hP 0 rfl rfl 6 (by decide) (hts _ (List.mem_of_getElem? (i := 2) rfl)) (fun _ h9 => h9) rfl dX4_sees_5 ?_
  refine lv_icmp_ge (tgt := 32) hx hb dX4_sees_8 (by decide) (fun c8 => ?_) (fun c8 => ?_)
  · have n8 : ln ≤ at_ := (nI_leI (a := ln) (b := at_) (by omega) (by omega)).mp c8
    refine lv_iconst (v := 0) hx hb dX4_sees_32 (by decide) ?_
    subst hQ
    exact W.zret (v := 0) hx hb hr rfl (fun t ht hW => ⟨⟨0, (), rfl, by first | exact (if_pos ⟨n8, b25⟩).symm | exact (if_neg (fun h => absurd h.1 (by omega))).symm | exact (if_neg (fun h => b25 h.2)).symm, trivial⟩, hS.F ht⟩) hS.2.2 dX4_sees_33
  · have n8 : at_ < ln := Nat.lt_of_not_le (fun h9 => c8 ((nI_leI (a := ln) (b := at_) (by omega) (by omega)).mpr h9))
    refine lv_aload_n hx hb dX4_sees_11 rfl (lv_at hl 0 rfl) ?_
    refine va_get (D := g.1) (ci := 4) (v := .ref m4) (C := RX4) (T := TX4) (N := 11) hx hb hts in_X4_sees_X4 hown hK hP 0 rfl rfl 5 (by decide) (hts _ (List.mem_of_getElem? (i := 3) rfl)) (fun _ h9 => h9) rfl dX4_sees_12 ?_
    refine lv_aload_n hx hb dX4_sees_15 rfl (lv_at hl 0 rfl) ?_
    refine va_get (D := g.1) (ci := 4) (v := .int (nI at_)) (C := RX4) (T := TX4) (N := 11) hx hb hts in_X4_sees_X4 hown hK hP 0 rfl rfl 9 (by decide) (hts _ (List.mem_of_getElem? (i := 1) rfl)) (fun _ h9 => h9) rfl dX4_sees_16 ?_
    refine gIald (k := at_) hx hb hE hP 1 rfl (by omega) (by omega) dX4_sees_19 ?_
    refine lv_iload_n hx hb dX4_sees_20 rfl (lv_at hl 1 rfl) ?_
    refine lv_iload_n hx hb dX4_sees_21 rfl (lv_at hl 2 rfl) ?_
    refine kRi (va_runS (As := [.int (tx at_), .int lo, .int hi]) (rest := []) ⟨hx, hb, hml, hown, hts⟩ (c_X4_in l g (tx at_) lo hi) (va_cwS 3 hts gX4_sees_X4_in rfl rfl rfl (by decide +kernel) ⟨(Nat.le_of_ble_eq_true rfl), (Nat.le_of_ble_eq_true rfl)⟩) (preS hE hP [] rfl) rfl rfl hl.1 rfl (lv_room (Nat.le_of_ble_eq_true rfl)) dX4_sees_22 ⟨(Nat.le_of_ble_eq_true rfl), (Nat.le_of_ble_eq_true rfl)⟩) hP hS (fun r9 H locs hr9 hP hS => ?_)
    subst hr9
    refine lv_if_eq (tgt := 32) hx hb dX4_sees_25 (by decide) (fun c25 => ?_) (fun c25 => ?_)
    · have b25 : ¬ (okR lo hi (tx at_)) := bz_f c25
      refine lv_iconst (v := 0) hx hb dX4_sees_32 (by decide) ?_
      subst hQ
      exact W.zret (v := 0) hx hb hr rfl (fun t ht hW => ⟨⟨0, (), rfl, by first | exact (if_pos ⟨n8, b25⟩).symm | exact (if_neg (fun h => absurd h.1 (by omega))).symm | exact (if_neg (fun h => b25 h.2)).symm, trivial⟩, hS.F ht⟩) hS.2.2 dX4_sees_33
    · have b25 : okR lo hi (tx at_) := bz_t c25
      refine lv_iconst (v := 1) hx hb dX4_sees_28 (by decide) ?_
      refine lv_goto (tgt := 33) hx hb dX4_sees_29 (by decide) ?_
      subst hQ
      exact W.zret (v := 1) hx hb hr rfl (fun t ht hW => ⟨⟨1, (), rfl, by first | exact (if_pos ⟨n8, b25⟩).symm | exact (if_neg (fun h => absurd h.1 (by omega))).symm | exact (if_neg (fun h => b25 h.2)).symm, trivial⟩, hS.F ht⟩) hS.2.2 dX4_sees_33
theorem in_X4_passes_X4 : ∀ w ∈ wsX40, w ∈ wsX4_passes := by decide +kernel
abbrev rm_X4_passes : Room := { frames := 2, cells := 0, slots := 0, locals := 44 }
set_option maxRecDepth 100000 in
set_option maxHeartbeats 4000000 in
theorem c_X4_passes (l : Launch) (g : GT) (m0 : Nat) (m1 : Nat) (m2 : Nat) (m3 : Nat) (m4 : Nat) (m5 : Nat) (ma : Int64) (np : Nat) (ln : Nat) (th : Int32) (at_ : Nat) (hs : Int64) (tx : Nat → Int32) (lo : Int32) (hi : Int32) (hat : at_ ≤ 100) (hln : ln ≤ 100) : cUi l g yX4_passes wsX4_passes rm_X4_passes [.ref m0, .int lo, .int hi] [(m0, .inr (4, [.ref m1, .long ma, .ref m2, .ref m3, .int (nI np), .ref m4, .int (nI ln), .int th, .ref m5, .int (nI at_), .long hs])), (m4, .inl (g.2.1 0, 100, .inl tx))] (fun r (_ : Unit) => r = (if seP tx ln at_ lo hi then (1 : Int32) else 0)) (fun _ => [(m0, .inr (4, [.ref m1, .long ma, .ref m2, .ref m3, .int (nI np), .ref m4, .int (nI ln), .int th, .ref m5, .int (nI (paF tx ln at_ lo hi)), .long hs])), (m4, .inl (g.2.1 0, 100, .inl tx))]) := by
  refine enU (y := yX4_passes) (ws := wsX4_passes) (av := [.ref m0, .int lo, .int hi]) (cc := cX4_passes) (maxL := 4) (ret := (some .boolean)) (by decide) rfl (Nat.le_of_ble_eq_true rfl) rfl ?_
  intro p e s m below meth c ls hx hb hr hml hown hts hlocks hE hP hD hl
  have hK := hE.1
  have hS : va_S (va_Ad [(m0, .inr (4, [.ref m1, .long ma, .ref m2, .ref m3, .int (nI np), .ref m4, .int (nI ln), .int th, .ref m5, .int (nI at_), .long hs])), (m4, .inl (g.2.1 0, 100, .inl tx))]) s.heap s.heap [] := va_S.rf
  generalize hQ : MQ below _ _ s _ _ _ = Q9
  have hl : lv_has ls 4 [(0, .ref m0), (1, .int lo), (2, .int hi)] := hl
  refine lv_aload_n hx hb dX4_passes_0 rfl (lv_at hl 0 rfl) ?_
  refine lv_iload_n hx hb dX4_passes_1 rfl (lv_at hl 1 rfl) ?_
  refine lv_iload_n hx hb dX4_passes_2 rfl (lv_at hl 2 rfl) ?_
  refine kRi (va_runV (As := [.int lo, .int hi]) (rest := []) ⟨hx, hb, hml, hown, hts⟩ (c_X4_sees l g m0 m1 m2 m3 m4 m5 ma np ln th at_ hs tx lo hi (by first | assumption | omega | exact Nat.le_of_ble_eq_true rfl) (by first | assumption | omega | exact Nat.le_of_ble_eq_true rfl)) (cwV 2 hts gX4_passes_X4_sees rfl rfl rfl (by decide +kernel) ⟨(Nat.le_of_ble_eq_true rfl), (Nat.le_of_ble_eq_true rfl)⟩) (preV (RX4, TX4, 11) hE hP [0, 1] rfl rfl) rfl rfl hl.1 rfl (lv_room (Nat.le_of_ble_eq_true rfl)) dX4_passes_3 ⟨(Nat.le_of_ble_eq_true rfl), (Nat.le_of_ble_eq_true rfl)⟩) hP hS (fun r9 H locs hr9 hP hS => ?_)
  subst hr9
  refine lv_istore_n (lv' := [(3, .int (if seP tx ln at_ lo hi then (1 : Int32) else 0)), (0, .ref m0), (1, .int lo), (2, .int hi)]) hx hb dX4_passes_6 rfl hl (by decide) rfl (fun ls hl => ?_)
  refine lv_aload_n hx hb dX4_passes_7 rfl (lv_at hl 1 rfl) ?_
  refine lv_dup hx hb dX4_passes_8 rfl ?_
  refine va_get (D := g.1) (ci := 4) (v := .int (nI at_)) (C := RX4) (T := TX4) (N := 11) hx hb hts in_X4_passes_X4 hown hK hP 0 rfl rfl 9 (by decide) (hts _ (List.mem_of_getElem? (i := 1) rfl)) (fun _ h9 => h9) rfl dX4_passes_9 ?_
  refine lv_iload_n hx hb dX4_passes_12 rfl (lv_at hl 0 rfl) ?_
  refine lv_if_eq (tgt := 20) hx hb dX4_passes_13 (by decide) (fun c13 => ?_) (fun c13 => ?_)
  · have b13 : ¬ (seP tx ln at_ lo hi) := bz_f c13
    refine lv_iconst (v := 0) hx hb dX4_passes_20 (by decide) ?_
    refine lv_iadd hx hb dX4_passes_21 ?_
    refine lv_tope (y := (nI at_)) (Int32.add_zero _) ?_
    refine va_put (D := g.1) (ci := 4) (v := .int (nI at_)) (ty := .int) (C := RX4) (T := TX4) (N := 11) hx hb hts in_X4_passes_X4 tyX4 tyX4_ok nmX4 hown hK hP hD hS 0 rfl rfl 9 (by decide) (hts _ (List.mem_of_getElem? (i := 1) rfl)) (fun _ h9 => h9) rfl (by decide +kernel) rfl rfl (Nat.le_of_ble_eq_true rfl) dX4_passes_22 (fun H locs hP hD hS => ?_)
    have hP : va_P g.1 vwCl [(m0, .inr (4, [.ref m1, .long ma, .ref m2, .ref m3, .int (nI np), .ref m4, .int (nI ln), .int th, .ref m5, .int (nI at_), .long hs])), (m4, .inl (g.2.1 0, 100, .inl tx))] _ := hP
    have hD : va_D (va_Ad [(m0, .inr (4, [.ref m1, .long ma, .ref m2, .ref m3, .int (nI np), .ref m4, .int (nI ln), .int th, .ref m5, .int (nI at_), .long hs])), (m4, .inl (g.2.1 0, 100, .inl tx))]) [(m0, .inr (4, [.ref m1, .long ma, .ref m2, .ref m3, .int (nI np), .ref m4, .int (nI ln), .int th, .ref m5, .int (nI at_), .long hs])), (m4, .inl (g.2.1 0, 100, .inl tx))] := hD
    refine lv_iload_n hx hb dX4_passes_25 rfl (lv_at hl 0 rfl) ?_
    subst hQ
    have hP9 : va_P g.1 vwCl [(m0, .inr (4, [.ref m1, .long ma, .ref m2, .ref m3, .int (nI np), .ref m4, .int (nI ln), .int th, .ref m5, .int (nI (paF tx ln at_ lo hi)), .long hs])), (m4, .inl (g.2.1 0, 100, .inl tx))] H := by first | (rw [paF, if_pos b13]; exact hP) | (rw [paF, if_neg b13]; exact hP)
    exact W.zret (v := (if seP tx ln at_ lo hi then (1 : Int32) else 0)) hx hb hr bz_n (fun t ht hW => ⟨⟨(if seP tx ln at_ lo hi then (1 : Int32) else 0), (), rfl, rfl, by show va_P g.1 vwCl _ t.heap; rw [ht]; exact hP9⟩, hS.F ht⟩) hS.2.2 dX4_passes_26
  · have b13 : seP tx ln at_ lo hi := bz_t c13
    refine lv_iconst (v := 1) hx hb dX4_passes_16 (by decide) ?_
    refine lv_goto (tgt := 21) hx hb dX4_passes_17 (by decide) ?_
    refine lv_iadd hx hb dX4_passes_21 ?_
    refine lv_tope (y := (nI (at_ + 1))) (show ((nI at_) + 1 : Int32) = nI (at_ + 1) from nI_add (at_) (1)) ?_
    refine va_put (D := g.1) (ci := 4) (v := .int (nI (at_ + 1))) (ty := .int) (C := RX4) (T := TX4) (N := 11) hx hb hts in_X4_passes_X4 tyX4 tyX4_ok nmX4 hown hK hP hD hS 0 rfl rfl 9 (by decide) (hts _ (List.mem_of_getElem? (i := 1) rfl)) (fun _ h9 => h9) rfl (by decide +kernel) rfl rfl (Nat.le_of_ble_eq_true rfl) dX4_passes_22 (fun H locs hP hD hS => ?_)
    have hP : va_P g.1 vwCl [(m0, .inr (4, [.ref m1, .long ma, .ref m2, .ref m3, .int (nI np), .ref m4, .int (nI ln), .int th, .ref m5, .int (nI (at_ + 1)), .long hs])), (m4, .inl (g.2.1 0, 100, .inl tx))] _ := hP
    have hD : va_D (va_Ad [(m0, .inr (4, [.ref m1, .long ma, .ref m2, .ref m3, .int (nI np), .ref m4, .int (nI ln), .int th, .ref m5, .int (nI at_), .long hs])), (m4, .inl (g.2.1 0, 100, .inl tx))]) [(m0, .inr (4, [.ref m1, .long ma, .ref m2, .ref m3, .int (nI np), .ref m4, .int (nI ln), .int th, .ref m5, .int (nI (at_ + 1)), .long hs])), (m4, .inl (g.2.1 0, 100, .inl tx))] := hD
    refine lv_iload_n hx hb dX4_passes_25 rfl (lv_at hl 0 rfl) ?_
    subst hQ
    have hP9 : va_P g.1 vwCl [(m0, .inr (4, [.ref m1, .long ma, .ref m2, .ref m3, .int (nI np), .ref m4, .int (nI ln), .int th, .ref m5, .int (nI (paF tx ln at_ lo hi)), .long hs])), (m4, .inl (g.2.1 0, 100, .inl tx))] H := by first | (rw [paF, if_pos b13]; exact hP) | (rw [paF, if_neg b13]; exact hP)
    exact W.zret (v := (if seP tx ln at_ lo hi then (1 : Int32) else 0)) hx hb hr bz_n (fun t ht hW => ⟨⟨(if seP tx ln at_ lo hi then (1 : Int32) else 0), (), rfl, rfl, by show va_P g.1 vwCl _ t.heap; rw [ht]; exact hP9⟩, hS.F ht⟩) hS.2.2 dX4_passes_26
theorem in_X4_number_X4 : ∀ w ∈ wsX40, w ∈ wsX4_number := by decide +kernel
abbrev rm_X4_number : Room := { frames := 2, cells := 0, slots := 0, locals := 44 }
set_option maxRecDepth 100000 in
set_option maxHeartbeats 4000000 in
theorem c_X4_number (l : Launch) (g : GT) (m0 : Nat) (m1 : Nat) (m2 : Nat) (m3 : Nat) (m4 : Nat) (m5 : Nat) (ma : Int64) (np : Nat) (ln : Nat) (th : Int32) (at_ : Nat) (hs : Int64) (tx : Nat → Int32) (hat : at_ ≤ 100) (hln : ln ≤ 100) : cUi l g yX4_number wsX4_number rm_X4_number [.ref m0] [(m0, .inr (4, [.ref m1, .long ma, .ref m2, .ref m3, .int (nI np), .ref m4, .int (nI ln), .int th, .ref m5, .int (nI at_), .long hs])), (m4, .inl (g.2.1 0, 100, .inl tx))] (fun r (_ : Unit) => r = ((nuS tx ln 3 at_ 0).1)) (fun _ => [(m0, .inr (4, [.ref m1, .long ma, .ref m2, .ref m3, .int (nI np), .ref m4, .int (nI ln), .int th, .ref m5, .int (nI ((nuS tx ln 3 at_ 0).2)), .long hs])), (m4, .inl (g.2.1 0, 100, .inl tx))]) := by
  refine enU (y := yX4_number) (ws := wsX4_number) (av := [.ref m0]) (cc := cX4_number) (maxL := 3) (ret := (some .int)) (by decide) rfl (Nat.le_of_ble_eq_true rfl) rfl ?_
  intro p e s m below meth c ls hx hb hr hml hown hts hlocks hE hP hD hl
  have hK := hE.1
  have hS : va_S (va_Ad [(m0, .inr (4, [.ref m1, .long ma, .ref m2, .ref m3, .int (nI np), .ref m4, .int (nI ln), .int th, .ref m5, .int (nI at_), .long hs])), (m4, .inl (g.2.1 0, 100, .inl tx))]) s.heap s.heap [] := va_S.rf
  generalize hQ : MQ below _ _ s _ _ _ = Q9
  have hl : lv_has ls 3 [(0, .ref m0)] := hl
  refine lv_iconst (v := 0) hx hb dX4_number_0 (by decide) ?_
  refine lv_istore_n (lv' := [(1, .int 0), (0, .ref m0)]) hx hb dX4_number_1 rfl hl (by decide) rfl (fun ls hl => ?_)
  refine lv_iconst (v := 0) hx hb dX4_number_2 (by decide) ?_
  refine lv_istore_n (lv' := [(2, .int 0), (1, .int 0), (0, .ref m0)]) hx hb dX4_number_3 rfl hl (by decide) rfl (fun ls hl => ?_)
  have lp4 : ∀ (n9 : Nat) (k : Nat) (q : Nat) (v : Int32), 3 - k < n9 → (k ≤ 3) → (q ≤ 100) → (nuS tx ln (3 - k) q v = nuS tx ln 3 at_ 0) → ∀ (H : Heap) (locs : List Loc), va_P g.1 vwCl [(m0, .inr (4, [.ref m1, .long ma, .ref m2, .ref m3, .int (nI np), .ref m4, .int (nI ln), .int th, .ref m5, .int (nI q), .long hs])), (m4, .inl (g.2.1 0, 100, .inl tx))] H → va_D (va_Ad [(m0, .inr (4, [.ref m1, .long ma, .ref m2, .ref m3, .int (nI np), .ref m4, .int (nI ln), .int th, .ref m5, .int (nI at_), .long hs])), (m4, .inl (g.2.1 0, 100, .inl tx))]) [(m0, .inr (4, [.ref m1, .long ma, .ref m2, .ref m3, .int (nI np), .ref m4, .int (nI ln), .int th, .ref m5, .int (nI q), .long hs])), (m4, .inl (g.2.1 0, 100, .inl tx))] → va_S (va_Ad [(m0, .inr (4, [.ref m1, .long ma, .ref m2, .ref m3, .int (nI np), .ref m4, .int (nI ln), .int th, .ref m5, .int (nI at_), .long hs])), (m4, .inl (g.2.1 0, 100, .inl tx))]) s.heap H locs → ∀ (ls : Array Slot), lv_has ls 3 [(2, .int (nI k)), (1, .int v), (0, .ref m0)] → W p l e rm_X4_number s m [Value.ref m0].toArray below meth c H locs 0 0 Q9 (F0 m 4 ls []) := by
    intro n9
    induction n9 with
    | zero => intro k q v h9; exact absurd h9 (Nat.not_lt_zero _)
    | succ n9 ih4 =>
      intro k q v hm4 hk hq hres
      intro H locs hP hD hS ls hl
      refine lv_iload_n hx hb dX4_number_4 rfl (lv_at hl 0 rfl) ?_
      refine lv_iconst (v := 3) hx hb dX4_number_5 (by decide) ?_
      refine lv_icmp_ge (tgt := 54) hx hb dX4_number_6 (by decide) (fun c6 => ?_) (fun c6 => ?_)
      · have n6 : 3 ≤ k := (nI_leI (a := 3) (b := k) (by omega) (by omega)).mp c6
        refine lv_iload_n hx hb dX4_number_54 rfl (lv_at hl 1 rfl) ?_
        have e9 : nuS tx ln 3 at_ 0 = (v, q) := by first | exact hres.symm.trans (nuS_x b17) | exact hres.symm.trans (by rw [show 3 - k = 0 by omega]; rfl)
        subst hQ
        have hP9 : va_P g.1 vwCl [(m0, .inr (4, [.ref m1, .long ma, .ref m2, .ref m3, .int (nI np), .ref m4, .int (nI ln), .int th, .ref m5, .int (nI ((nuS tx ln 3 at_ 0).2)), .long hs])), (m4, .inl (g.2.1 0, 100, .inl tx))] H := by rw [e9]; exact hP
        exact W.iret (v := v) hx hb hr (fun t ht hW => ⟨⟨v, (), rfl, by rw [e9], by show va_P g.1 vwCl _ t.heap; rw [ht]; exact hP9⟩, hS.F ht⟩) hS.2.2 dX4_number_55
      · have n6 : k < 3 := Nat.lt_of_not_le (fun h9 => c6 ((nI_leI (a := 3) (b := k) (by omega) (by omega)).mpr h9))
        refine lv_aload_n hx hb dX4_number_9 rfl (lv_at hl 2 rfl) ?_
        refine lv_bipush (v := 48) hx hb dX4_number_10 (by decide) ?_
        refine lv_bipush (v := 57) hx hb dX4_number_12 (by decide) ?_
        refine kRi (va_runV (As := [.int 48, .int 57]) (rest := []) ⟨hx, hb, hml, hown, hts⟩ (c_X4_sees l g m0 m1 m2 m3 m4 m5 ma np ln th q hs tx 48 57 (by first | assumption | omega | exact Nat.le_of_ble_eq_true rfl) (by first | assumption | omega | exact Nat.le_of_ble_eq_true rfl)) (cwV 2 hts gX4_number_X4_sees rfl rfl rfl (by decide +kernel) ⟨(Nat.le_of_ble_eq_true rfl), (Nat.le_of_ble_eq_true rfl)⟩) (preV (RX4, TX4, 11) hE hP [0, 1] rfl rfl) rfl rfl hl.1 rfl (lv_room (Nat.le_of_ble_eq_true rfl)) dX4_number_14 ⟨(Nat.le_of_ble_eq_true rfl), (Nat.le_of_ble_eq_true rfl)⟩) hP hS (fun r9 H locs hr9 hP hS => ?_)
        subst hr9
        refine lv_if_eq (tgt := 54) hx hb dX4_number_17 (by decide) (fun c17 => ?_) (fun c17 => ?_)
        · have b17 : ¬ (seP tx ln q 48 57) := bz_f c17
          refine lv_iload_n hx hb dX4_number_54 rfl (lv_at hl 1 rfl) ?_
          have e9 : nuS tx ln 3 at_ 0 = (v, q) := by first | exact hres.symm.trans (nuS_x b17) | exact hres.symm.trans (by rw [show 3 - k = 0 by omega]; rfl)
          subst hQ
          have hP9 : va_P g.1 vwCl [(m0, .inr (4, [.ref m1, .long ma, .ref m2, .ref m3, .int (nI np), .ref m4, .int (nI ln), .int th, .ref m5, .int (nI ((nuS tx ln 3 at_ 0).2)), .long hs])), (m4, .inl (g.2.1 0, 100, .inl tx))] H := by rw [e9]; exact hP
          exact W.iret (v := v) hx hb hr (fun t ht hW => ⟨⟨v, (), rfl, by rw [e9], by show va_P g.1 vwCl _ t.heap; rw [ht]; exact hP9⟩, hS.F ht⟩) hS.2.2 dX4_number_55
        · have b17 : seP tx ln q 48 57 := bz_t c17
          refine lv_bipush (v := 10) hx hb dX4_number_20 (by decide) ?_
          refine lv_iload_n hx hb dX4_number_22 rfl (lv_at hl 1 rfl) ?_
          refine lv_imul hx hb dX4_number_23 ?_
          refine lv_aload_n hx hb dX4_number_24 rfl (lv_at hl 2 rfl) ?_
          refine va_get (D := g.1) (ci := 4) (v := .ref m4) (C := RX4) (T := TX4) (N := 11) hx hb hts in_X4_number_X4 hown hK hP 0 rfl rfl 5 (by decide) (hts _ (List.mem_of_getElem? (i := 1) rfl)) (fun _ h9 => h9) rfl dX4_number_25 ?_
          refine lv_aload_n hx hb dX4_number_28 rfl (lv_at hl 2 rfl) ?_
          refine va_get (D := g.1) (ci := 4) (v := .int (nI q)) (C := RX4) (T := TX4) (N := 11) hx hb hts in_X4_number_X4 hown hK hP 0 rfl rfl 9 (by decide) (hts _ (List.mem_of_getElem? (i := 2) rfl)) (fun _ h9 => h9) rfl dX4_number_29 ?_
          refine gIald (k := q) hx hb hE hP 1 rfl (by have := b17.1; omega) (by omega) dX4_number_32 ?_
          refine lv_iadd hx hb dX4_number_33 ?_
          refine lv_bipush (v := 48) hx hb dX4_number_34 (by decide) ?_
          refine lv_isub hx hb dX4_number_36 ?_
          refine lv_istore_n (lv' := [(1, .int (((10 * v) + (tx q)) - 48)), (2, .int (nI k)), (0, .ref m0)]) hx hb dX4_number_37 rfl hl (by decide) rfl (fun ls hl => ?_)
          refine lv_aload_n hx hb dX4_number_38 rfl (lv_at hl 2 rfl) ?_
          refine lv_dup hx hb dX4_number_39 rfl ?_
          refine va_get (D := g.1) (ci := 4) (v := .int (nI q)) (C := RX4) (T := TX4) (N := 11) hx hb hts in_X4_number_X4 hown hK hP 0 rfl rfl 9 (by decide) (hts _ (List.mem_of_getElem? (i := 2) rfl)) (fun _ h9 => h9) rfl dX4_number_40 ?_
          refine lv_iconst (v := 1) hx hb dX4_number_43 (by decide) ?_
          refine lv_iadd hx hb dX4_number_44 ?_
          refine lv_tope (y := (nI (q + 1))) (nI_add q 1) ?_
          refine va_put (D := g.1) (ci := 4) (v := .int (nI (q + 1))) (ty := .int) (C := RX4) (T := TX4) (N := 11) hx hb hts in_X4_number_X4 tyX4 tyX4_ok nmX4 hown hK hP hD hS 0 rfl rfl 9 (by decide) (hts _ (List.mem_of_getElem? (i := 2) rfl)) (fun _ h9 => h9) rfl (by decide +kernel) rfl rfl (Nat.le_of_ble_eq_true rfl) dX4_number_45 (fun H locs hP hD hS => ?_)
          have hP : va_P g.1 vwCl [(m0, .inr (4, [.ref m1, .long ma, .ref m2, .ref m3, .int (nI np), .ref m4, .int (nI ln), .int th, .ref m5, .int (nI (q + 1)), .long hs])), (m4, .inl (g.2.1 0, 100, .inl tx))] _ := hP
          have hD : va_D (va_Ad [(m0, .inr (4, [.ref m1, .long ma, .ref m2, .ref m3, .int (nI np), .ref m4, .int (nI ln), .int th, .ref m5, .int (nI at_), .long hs])), (m4, .inl (g.2.1 0, 100, .inl tx))]) [(m0, .inr (4, [.ref m1, .long ma, .ref m2, .ref m3, .int (nI np), .ref m4, .int (nI ln), .int th, .ref m5, .int (nI (q + 1)), .long hs])), (m4, .inl (g.2.1 0, 100, .inl tx))] := hD
          refine lv_iinc (v := (nI (k + 1))) (lv' := [(2, .int (nI (k + 1))), (1, .int (((10 * v) + (tx q)) - 48)), (0, .ref m0)]) hx hb dX4_number_48 hl (k := 1) rfl (nI_add (k) 1) (by decide) rfl (fun ls hl => ?_)
          refine lv_goto (tgt := 4) hx hb dX4_number_51 (by decide) ?_
          exact ih4 (k + 1) (q + 1) (10 * v + tx q - 48) (by omega) (by omega) (by have := b17.1; omega) ((nuS_n n6 b17).symm.trans hres)  _ _ hP hD hS _ (lv_sub hl [0, 1, 2] rfl)
  exact lp4 ((3 - 0) + 1) 0 at_ 0 (Nat.lt_succ_self _) (by omega) hat rfl  _ _ hP hD hS _ (lv_sub hl [0, 1, 2] rfl)
abbrev rm_X4_passesSign : Room := { frames := 3, cells := 0, slots := 0, locals := 67 }
set_option maxRecDepth 100000 in
set_option maxHeartbeats 4000000 in
theorem c_X4_passesSign (l : Launch) (g : GT) (m0 : Nat) (m1 : Nat) (m2 : Nat) (m3 : Nat) (m4 : Nat) (m5 : Nat) (ma : Int64) (np : Nat) (ln : Nat) (th : Int32) (at_ : Nat) (hs : Int64) (tx : Nat → Int32) (hat : at_ ≤ 100) (hln : ln ≤ 100) : cUi l g yX4_passesSign wsX4_passesSign rm_X4_passesSign [.ref m0] [(m0, .inr (4, [.ref m1, .long ma, .ref m2, .ref m3, .int (nI np), .ref m4, .int (nI ln), .int th, .ref m5, .int (nI at_), .long hs])), (m4, .inl (g.2.1 0, 100, .inl tx))] (fun r (_ : Unit) => r = (if siP tx ln at_ then (1 : Int32) else 0)) (fun _ => [(m0, .inr (4, [.ref m1, .long ma, .ref m2, .ref m3, .int (nI np), .ref m4, .int (nI ln), .int th, .ref m5, .int (nI (sgF tx ln at_)), .long hs])), (m4, .inl (g.2.1 0, 100, .inl tx))]) := by
  refine enU (y := yX4_passesSign) (ws := wsX4_passesSign) (av := [.ref m0]) (cc := cX4_passesSign) (maxL := 1) (ret := (some .boolean)) (by decide) rfl (Nat.le_of_ble_eq_true rfl) rfl ?_
  intro p e s m below meth c ls hx hb hr hml hown hts hlocks hE hP hD hl
  have hK := hE.1
  have hS : va_S (va_Ad [(m0, .inr (4, [.ref m1, .long ma, .ref m2, .ref m3, .int (nI np), .ref m4, .int (nI ln), .int th, .ref m5, .int (nI at_), .long hs])), (m4, .inl (g.2.1 0, 100, .inl tx))]) s.heap s.heap [] := va_S.rf
  generalize hQ : MQ below _ _ s _ _ _ = Q9
  have hl : lv_has ls 1 [(0, .ref m0)] := hl
  refine lv_aload_n hx hb dX4_passesSign_0 rfl (lv_at hl 0 rfl) ?_
  refine lv_bipush (v := 42) hx hb dX4_passesSign_1 (by decide) ?_
  refine lv_bipush (v := 42) hx hb dX4_passesSign_3 (by decide) ?_
  refine kUi (fun _ => [(m0, .inr (4, [.ref m1, .long ma, .ref m2, .ref m3, .int (nI np), .ref m4, .int (nI ln), .int th, .ref m5, .int (nI (paF tx ln at_ 42 42)), .long hs])), (m4, .inl (g.2.1 0, 100, .inl tx))]) (va_runV (As := [.int 42, .int 42]) (rest := []) ⟨hx, hb, hml, hown, hts⟩ (c_X4_passes l g m0 m1 m2 m3 m4 m5 ma np ln th at_ hs tx 42 42 (by first | assumption | omega | exact Nat.le_of_ble_eq_true rfl) (by first | assumption | omega | exact Nat.le_of_ble_eq_true rfl)) (cwV 2 hts gX4_passesSign_X4_passes rfl rfl rfl (by decide +kernel) ⟨(Nat.le_of_ble_eq_true rfl), (Nat.le_of_ble_eq_true rfl)⟩) (preVd (RX4, TX4, 11) hE hP hD [0, 1] (by decide) rfl rfl) rfl rfl hl.1 rfl (lv_room (Nat.le_of_ble_eq_true rfl)) dX4_passesSign_5 ⟨(Nat.le_of_ble_eq_true rfl), (Nat.le_of_ble_eq_true rfl)⟩) hP hD hS [0, 1] [] 2 [m0, m4] [] rfl rfl rfl (fun _ => rfl) (fun _ => rfl) (fun _ => rfl) rfl (by decide) (fun r9 _ H locs hr9 hP hD hS => ?_)
  subst hr9
  refine lv_if_ne (tgt := 66) hx hb dX4_passesSign_8 (by decide) (fun c8 => ?_) (fun c8 => ?_)
  · have b8 : seP tx ln at_ 42 42 := bz_t c8
    rw [paF_t b8] at hP hD
    refine lv_iconst (v := 1) hx hb dX4_passesSign_66 (by decide) ?_
    refine lv_goto (tgt := 71) hx hb dX4_passesSign_67 (by decide) ?_
    subst hQ
    have hP9 : va_P g.1 vwCl [(m0, .inr (4, [.ref m1, .long ma, .ref m2, .ref m3, .int (nI np), .ref m4, .int (nI ln), .int th, .ref m5, .int (nI (sgF tx ln at_)), .long hs])), (m4, .inl (g.2.1 0, 100, .inl tx))] H := by rw [sgF_t (sg_in b8 (by decide))]; exact hP
    exact W.zret (v := 1) hx hb hr rfl (fun t ht hW => ⟨⟨1, (), rfl, (if_pos (sg_in b8 (by decide))).symm, by show va_P g.1 vwCl _ t.heap; rw [ht]; exact hP9⟩, hS.F ht⟩) hS.2.2 dX4_passesSign_71
  · have b8 : ¬ (seP tx ln at_ 42 42) := bz_f c8
    rw [paF_f b8] at hP hD
    refine lv_aload_n hx hb dX4_passesSign_11 rfl (lv_at hl 0 rfl) ?_
    refine lv_bipush (v := 120) hx hb dX4_passesSign_12 (by decide) ?_
    refine lv_bipush (v := 120) hx hb dX4_passesSign_14 (by decide) ?_
    refine kUi (fun _ => [(m0, .inr (4, [.ref m1, .long ma, .ref m2, .ref m3, .int (nI np), .ref m4, .int (nI ln), .int th, .ref m5, .int (nI (paF tx ln at_ 120 120)), .long hs])), (m4, .inl (g.2.1 0, 100, .inl tx))]) (va_runV (As := [.int 120, .int 120]) (rest := []) ⟨hx, hb, hml, hown, hts⟩ (c_X4_passes l g m0 m1 m2 m3 m4 m5 ma np ln th at_ hs tx 120 120 (by first | assumption | omega | exact Nat.le_of_ble_eq_true rfl) (by first | assumption | omega | exact Nat.le_of_ble_eq_true rfl)) (cwV 2 hts gX4_passesSign_X4_passes rfl rfl rfl (by decide +kernel) ⟨(Nat.le_of_ble_eq_true rfl), (Nat.le_of_ble_eq_true rfl)⟩) (preVd (RX4, TX4, 11) hE hP hD [0, 1] (by decide) rfl rfl) rfl rfl hl.1 rfl (lv_room (Nat.le_of_ble_eq_true rfl)) dX4_passesSign_16 ⟨(Nat.le_of_ble_eq_true rfl), (Nat.le_of_ble_eq_true rfl)⟩) hP hD hS [0, 1] [] 2 [m0, m4] [] rfl rfl rfl (fun _ => rfl) (fun _ => rfl) (fun _ => rfl) rfl (by decide) (fun r9 _ H locs hr9 hP hD hS => ?_)
    subst hr9
    refine lv_if_ne (tgt := 66) hx hb dX4_passesSign_19 (by decide) (fun c19 => ?_) (fun c19 => ?_)
    · have b19 : seP tx ln at_ 120 120 := bz_t c19
      rw [paF_t b19] at hP hD
      refine lv_iconst (v := 1) hx hb dX4_passesSign_66 (by decide) ?_
      refine lv_goto (tgt := 71) hx hb dX4_passesSign_67 (by decide) ?_
      subst hQ
      have hP9 : va_P g.1 vwCl [(m0, .inr (4, [.ref m1, .long ma, .ref m2, .ref m3, .int (nI np), .ref m4, .int (nI ln), .int th, .ref m5, .int (nI (sgF tx ln at_)), .long hs])), (m4, .inl (g.2.1 0, 100, .inl tx))] H := by rw [sgF_t (sg_in b19 (by decide))]; exact hP
      exact W.zret (v := 1) hx hb hr rfl (fun t ht hW => ⟨⟨1, (), rfl, (if_pos (sg_in b19 (by decide))).symm, by show va_P g.1 vwCl _ t.heap; rw [ht]; exact hP9⟩, hS.F ht⟩) hS.2.2 dX4_passesSign_71
    · have b19 : ¬ (seP tx ln at_ 120 120) := bz_f c19
      rw [paF_f b19] at hP hD
      refine lv_aload_n hx hb dX4_passesSign_22 rfl (lv_at hl 0 rfl) ?_
      refine lv_bipush (v := 35) hx hb dX4_passesSign_23 (by decide) ?_
      refine lv_bipush (v := 35) hx hb dX4_passesSign_25 (by decide) ?_
      refine kUi (fun _ => [(m0, .inr (4, [.ref m1, .long ma, .ref m2, .ref m3, .int (nI np), .ref m4, .int (nI ln), .int th, .ref m5, .int (nI (paF tx ln at_ 35 35)), .long hs])), (m4, .inl (g.2.1 0, 100, .inl tx))]) (va_runV (As := [.int 35, .int 35]) (rest := []) ⟨hx, hb, hml, hown, hts⟩ (c_X4_passes l g m0 m1 m2 m3 m4 m5 ma np ln th at_ hs tx 35 35 (by first | assumption | omega | exact Nat.le_of_ble_eq_true rfl) (by first | assumption | omega | exact Nat.le_of_ble_eq_true rfl)) (cwV 2 hts gX4_passesSign_X4_passes rfl rfl rfl (by decide +kernel) ⟨(Nat.le_of_ble_eq_true rfl), (Nat.le_of_ble_eq_true rfl)⟩) (preVd (RX4, TX4, 11) hE hP hD [0, 1] (by decide) rfl rfl) rfl rfl hl.1 rfl (lv_room (Nat.le_of_ble_eq_true rfl)) dX4_passesSign_27 ⟨(Nat.le_of_ble_eq_true rfl), (Nat.le_of_ble_eq_true rfl)⟩) hP hD hS [0, 1] [] 2 [m0, m4] [] rfl rfl rfl (fun _ => rfl) (fun _ => rfl) (fun _ => rfl) rfl (by decide) (fun r9 _ H locs hr9 hP hD hS => ?_)
      subst hr9
      refine lv_if_ne (tgt := 66) hx hb dX4_passesSign_30 (by decide) (fun c30 => ?_) (fun c30 => ?_)
      · have b30 : seP tx ln at_ 35 35 := bz_t c30
        rw [paF_t b30] at hP hD
        refine lv_iconst (v := 1) hx hb dX4_passesSign_66 (by decide) ?_
        refine lv_goto (tgt := 71) hx hb dX4_passesSign_67 (by decide) ?_
        subst hQ
        have hP9 : va_P g.1 vwCl [(m0, .inr (4, [.ref m1, .long ma, .ref m2, .ref m3, .int (nI np), .ref m4, .int (nI ln), .int th, .ref m5, .int (nI (sgF tx ln at_)), .long hs])), (m4, .inl (g.2.1 0, 100, .inl tx))] H := by rw [sgF_t (sg_in b30 (by decide))]; exact hP
        exact W.zret (v := 1) hx hb hr rfl (fun t ht hW => ⟨⟨1, (), rfl, (if_pos (sg_in b30 (by decide))).symm, by show va_P g.1 vwCl _ t.heap; rw [ht]; exact hP9⟩, hS.F ht⟩) hS.2.2 dX4_passesSign_71
      · have b30 : ¬ (seP tx ln at_ 35 35) := bz_f c30
        rw [paF_f b30] at hP hD
        refine lv_aload_n hx hb dX4_passesSign_33 rfl (lv_at hl 0 rfl) ?_
        refine lv_bipush (v := 43) hx hb dX4_passesSign_34 (by decide) ?_
        refine lv_bipush (v := 43) hx hb dX4_passesSign_36 (by decide) ?_
        refine kUi (fun _ => [(m0, .inr (4, [.ref m1, .long ma, .ref m2, .ref m3, .int (nI np), .ref m4, .int (nI ln), .int th, .ref m5, .int (nI (paF tx ln at_ 43 43)), .long hs])), (m4, .inl (g.2.1 0, 100, .inl tx))]) (va_runV (As := [.int 43, .int 43]) (rest := []) ⟨hx, hb, hml, hown, hts⟩ (c_X4_passes l g m0 m1 m2 m3 m4 m5 ma np ln th at_ hs tx 43 43 (by first | assumption | omega | exact Nat.le_of_ble_eq_true rfl) (by first | assumption | omega | exact Nat.le_of_ble_eq_true rfl)) (cwV 2 hts gX4_passesSign_X4_passes rfl rfl rfl (by decide +kernel) ⟨(Nat.le_of_ble_eq_true rfl), (Nat.le_of_ble_eq_true rfl)⟩) (preVd (RX4, TX4, 11) hE hP hD [0, 1] (by decide) rfl rfl) rfl rfl hl.1 rfl (lv_room (Nat.le_of_ble_eq_true rfl)) dX4_passesSign_38 ⟨(Nat.le_of_ble_eq_true rfl), (Nat.le_of_ble_eq_true rfl)⟩) hP hD hS [0, 1] [] 2 [m0, m4] [] rfl rfl rfl (fun _ => rfl) (fun _ => rfl) (fun _ => rfl) rfl (by decide) (fun r9 _ H locs hr9 hP hD hS => ?_)
        subst hr9
        refine lv_if_ne (tgt := 66) hx hb dX4_passesSign_41 (by decide) (fun c41 => ?_) (fun c41 => ?_)
        · have b41 : seP tx ln at_ 43 43 := bz_t c41
          rw [paF_t b41] at hP hD
          refine lv_iconst (v := 1) hx hb dX4_passesSign_66 (by decide) ?_
          refine lv_goto (tgt := 71) hx hb dX4_passesSign_67 (by decide) ?_
          subst hQ
          have hP9 : va_P g.1 vwCl [(m0, .inr (4, [.ref m1, .long ma, .ref m2, .ref m3, .int (nI np), .ref m4, .int (nI ln), .int th, .ref m5, .int (nI (sgF tx ln at_)), .long hs])), (m4, .inl (g.2.1 0, 100, .inl tx))] H := by rw [sgF_t (sg_in b41 (by decide))]; exact hP
          exact W.zret (v := 1) hx hb hr rfl (fun t ht hW => ⟨⟨1, (), rfl, (if_pos (sg_in b41 (by decide))).symm, by show va_P g.1 vwCl _ t.heap; rw [ht]; exact hP9⟩, hS.F ht⟩) hS.2.2 dX4_passesSign_71
        · have b41 : ¬ (seP tx ln at_ 43 43) := bz_f c41
          rw [paF_f b41] at hP hD
          refine lv_aload_n hx hb dX4_passesSign_44 rfl (lv_at hl 0 rfl) ?_
          refine lv_bipush (v := 45) hx hb dX4_passesSign_45 (by decide) ?_
          refine lv_bipush (v := 45) hx hb dX4_passesSign_47 (by decide) ?_
          refine kUi (fun _ => [(m0, .inr (4, [.ref m1, .long ma, .ref m2, .ref m3, .int (nI np), .ref m4, .int (nI ln), .int th, .ref m5, .int (nI (paF tx ln at_ 45 45)), .long hs])), (m4, .inl (g.2.1 0, 100, .inl tx))]) (va_runV (As := [.int 45, .int 45]) (rest := []) ⟨hx, hb, hml, hown, hts⟩ (c_X4_passes l g m0 m1 m2 m3 m4 m5 ma np ln th at_ hs tx 45 45 (by first | assumption | omega | exact Nat.le_of_ble_eq_true rfl) (by first | assumption | omega | exact Nat.le_of_ble_eq_true rfl)) (cwV 2 hts gX4_passesSign_X4_passes rfl rfl rfl (by decide +kernel) ⟨(Nat.le_of_ble_eq_true rfl), (Nat.le_of_ble_eq_true rfl)⟩) (preVd (RX4, TX4, 11) hE hP hD [0, 1] (by decide) rfl rfl) rfl rfl hl.1 rfl (lv_room (Nat.le_of_ble_eq_true rfl)) dX4_passesSign_49 ⟨(Nat.le_of_ble_eq_true rfl), (Nat.le_of_ble_eq_true rfl)⟩) hP hD hS [0, 1] [] 2 [m0, m4] [] rfl rfl rfl (fun _ => rfl) (fun _ => rfl) (fun _ => rfl) rfl (by decide) (fun r9 _ H locs hr9 hP hD hS => ?_)
          subst hr9
          refine lv_if_ne (tgt := 66) hx hb dX4_passesSign_52 (by decide) (fun c52 => ?_) (fun c52 => ?_)
          · have b52 : seP tx ln at_ 45 45 := bz_t c52
            rw [paF_t b52] at hP hD
            refine lv_iconst (v := 1) hx hb dX4_passesSign_66 (by decide) ?_
            refine lv_goto (tgt := 71) hx hb dX4_passesSign_67 (by decide) ?_
            subst hQ
            have hP9 : va_P g.1 vwCl [(m0, .inr (4, [.ref m1, .long ma, .ref m2, .ref m3, .int (nI np), .ref m4, .int (nI ln), .int th, .ref m5, .int (nI (sgF tx ln at_)), .long hs])), (m4, .inl (g.2.1 0, 100, .inl tx))] H := by rw [sgF_t (sg_in b52 (by decide))]; exact hP
            exact W.zret (v := 1) hx hb hr rfl (fun t ht hW => ⟨⟨1, (), rfl, (if_pos (sg_in b52 (by decide))).symm, by show va_P g.1 vwCl _ t.heap; rw [ht]; exact hP9⟩, hS.F ht⟩) hS.2.2 dX4_passesSign_71
          · have b52 : ¬ (seP tx ln at_ 45 45) := bz_f c52
            rw [paF_f b52] at hP hD
            refine lv_aload_n hx hb dX4_passesSign_55 rfl (lv_at hl 0 rfl) ?_
            refine lv_bipush (v := 62) hx hb dX4_passesSign_56 (by decide) ?_
            refine lv_bipush (v := 62) hx hb dX4_passesSign_58 (by decide) ?_
            refine kUi (fun _ => [(m0, .inr (4, [.ref m1, .long ma, .ref m2, .ref m3, .int (nI np), .ref m4, .int (nI ln), .int th, .ref m5, .int (nI (paF tx ln at_ 62 62)), .long hs])), (m4, .inl (g.2.1 0, 100, .inl tx))]) (va_runV (As := [.int 62, .int 62]) (rest := []) ⟨hx, hb, hml, hown, hts⟩ (c_X4_passes l g m0 m1 m2 m3 m4 m5 ma np ln th at_ hs tx 62 62 (by first | assumption | omega | exact Nat.le_of_ble_eq_true rfl) (by first | assumption | omega | exact Nat.le_of_ble_eq_true rfl)) (cwV 2 hts gX4_passesSign_X4_passes rfl rfl rfl (by decide +kernel) ⟨(Nat.le_of_ble_eq_true rfl), (Nat.le_of_ble_eq_true rfl)⟩) (preVd (RX4, TX4, 11) hE hP hD [0, 1] (by decide) rfl rfl) rfl rfl hl.1 rfl (lv_room (Nat.le_of_ble_eq_true rfl)) dX4_passesSign_60 ⟨(Nat.le_of_ble_eq_true rfl), (Nat.le_of_ble_eq_true rfl)⟩) hP hD hS [0, 1] [] 2 [m0, m4] [] rfl rfl rfl (fun _ => rfl) (fun _ => rfl) (fun _ => rfl) rfl (by decide) (fun r9 _ H locs hr9 hP hD hS => ?_)
            subst hr9
            refine lv_if_eq (tgt := 70) hx hb dX4_passesSign_63 (by decide) (fun c63 => ?_) (fun c63 => ?_)
            · have b63 : ¬ (seP tx ln at_ 62 62) := bz_f c63
              rw [paF_f b63] at hP hD
              refine lv_iconst (v := 0) hx hb dX4_passesSign_70 (by decide) ?_
              subst hQ
              have hP9 : va_P g.1 vwCl [(m0, .inr (4, [.ref m1, .long ma, .ref m2, .ref m3, .int (nI np), .ref m4, .int (nI ln), .int th, .ref m5, .int (nI (sgF tx ln at_)), .long hs])), (m4, .inl (g.2.1 0, 100, .inl tx))] H := by rw [sgF_f (sg_no b8 b19 b30 b41 b52 b63)]; exact hP
              exact W.zret (v := 0) hx hb hr rfl (fun t ht hW => ⟨⟨0, (), rfl, (if_neg (sg_no b8 b19 b30 b41 b52 b63)).symm, by show va_P g.1 vwCl _ t.heap; rw [ht]; exact hP9⟩, hS.F ht⟩) hS.2.2 dX4_passesSign_71
            · have b63 : seP tx ln at_ 62 62 := bz_t c63
              rw [paF_t b63] at hP hD
              refine lv_iconst (v := 1) hx hb dX4_passesSign_66 (by decide) ?_
              refine lv_goto (tgt := 71) hx hb dX4_passesSign_67 (by decide) ?_
              subst hQ
              have hP9 : va_P g.1 vwCl [(m0, .inr (4, [.ref m1, .long ma, .ref m2, .ref m3, .int (nI np), .ref m4, .int (nI ln), .int th, .ref m5, .int (nI (sgF tx ln at_)), .long hs])), (m4, .inl (g.2.1 0, 100, .inl tx))] H := by rw [sgF_t (sg_in b63 (by decide))]; exact hP
              exact W.zret (v := 1) hx hb hr rfl (fun t ht hW => ⟨⟨1, (), rfl, (if_pos (sg_in b63 (by decide))).symm, by show va_P g.1 vwCl _ t.heap; rw [ht]; exact hP9⟩, hS.F ht⟩) hS.2.2 dX4_passesSign_71
theorem in_X4_faultOfOne_X4 : ∀ w ∈ wsX40, w ∈ wsX4_faultOfOne := by decide +kernel
abbrev rm_X4_faultOfOne : Room := { frames := 4, cells := 0, slots := 0, locals := 87 }
set_option maxRecDepth 100000 in
set_option maxHeartbeats 4000000 in
theorem c_X4_faultOfOne (l : Launch) (g : GT) (m0 : Nat) (m1 : Nat) (m2 : Nat) (m3 : Nat) (m4 : Nat) (m5 : Nat) (ma : Int64) (np : Nat) (ln : Nat) (th : Int32) (at_ : Nat) (hs : Int64) (tx : Nat → Int32) (hat : at_ ≤ 100) (hln : ln ≤ 100) : cUi l g yX4_faultOfOne wsX4_faultOfOne rm_X4_faultOfOne [.ref m0] [(m0, .inr (4, [.ref m1, .long ma, .ref m2, .ref m3, .int (nI np), .ref m4, .int (nI ln), .int th, .ref m5, .int (nI at_), .long hs])), (m4, .inl (g.2.1 0, 100, .inl tx))] (fun r (_ : Unit) => r = ((foF tx ln at_).1)) (fun _ => [(m0, .inr (4, [.ref m1, .long ma, .ref m2, .ref m3, .int (nI np), .ref m4, .int (nI ln), .int th, .ref m5, .int (nI ((foF tx ln at_).2)), .long hs])), (m4, .inl (g.2.1 0, 100, .inl tx))]) := by
  refine enU (y := yX4_faultOfOne) (ws := wsX4_faultOfOne) (av := [.ref m0]) (cc := cX4_faultOfOne) (maxL := 3) (ret := (some .int)) (by decide) rfl (Nat.le_of_ble_eq_true rfl) rfl ?_
  intro p e s m below meth c ls hx hb hr hml hown hts hlocks hE hP hD hl
  have hK := hE.1
  have hS : va_S (va_Ad [(m0, .inr (4, [.ref m1, .long ma, .ref m2, .ref m3, .int (nI np), .ref m4, .int (nI ln), .int th, .ref m5, .int (nI at_), .long hs])), (m4, .inl (g.2.1 0, 100, .inl tx))]) s.heap s.heap [] := va_S.rf
  generalize hQ : MQ below _ _ s _ _ _ = Q9
  have hl : lv_has ls 3 [(0, .ref m0)] := hl
  refine lv_aload_n hx hb dX4_faultOfOne_0 rfl (lv_at hl 0 rfl) ?_
  refine lv_bipush (v := 97) hx hb dX4_faultOfOne_1 (by decide) ?_
  refine lv_bipush (v := 104) hx hb dX4_faultOfOne_3 (by decide) ?_
  refine kUi (fun _ => [(m0, .inr (4, [.ref m1, .long ma, .ref m2, .ref m3, .int (nI np), .ref m4, .int (nI ln), .int th, .ref m5, .int (nI (paF tx ln at_ 97 104)), .long hs])), (m4, .inl (g.2.1 0, 100, .inl tx))]) (va_runV (As := [.int 97, .int 104]) (rest := []) ⟨hx, hb, hml, hown, hts⟩ (c_X4_passes l g m0 m1 m2 m3 m4 m5 ma np ln th at_ hs tx 97 104 (by first | assumption | omega | exact Nat.le_of_ble_eq_true rfl) (by first | assumption | omega | exact Nat.le_of_ble_eq_true rfl)) (cwV 2 hts gX4_faultOfOne_X4_passes rfl rfl rfl (by decide +kernel) ⟨(Nat.le_of_ble_eq_true rfl), (Nat.le_of_ble_eq_true rfl)⟩) (preVd (RX4, TX4, 11) hE hP hD [0, 1] (by decide) rfl rfl) rfl rfl hl.1 rfl (lv_room (Nat.le_of_ble_eq_true rfl)) dX4_faultOfOne_5 ⟨(Nat.le_of_ble_eq_true rfl), (Nat.le_of_ble_eq_true rfl)⟩) hP hD hS [0, 1] [] 2 [m0, m4] [] rfl rfl rfl (fun _ => rfl) (fun _ => rfl) (fun _ => rfl) rfl (by decide) (fun r9 _ H locs hr9 hP hD hS => ?_)
  subst hr9
  refine lv_if_eq (tgt := 22) hx hb dX4_faultOfOne_8 (by decide) (fun c8 => ?_) (fun c8 => ?_)
  · have b8 : ¬ (seP tx ln at_ 97 104) := bz_f c8
    rw [paF_f b8] at hP hD
    refine lv_aload_n hx hb dX4_faultOfOne_22 rfl (lv_at hl 0 rfl) ?_
    refine va_get (D := g.1) (ci := 4) (v := .int (nI at_)) (C := RX4) (T := TX4) (N := 11) hx hb hts in_X4_faultOfOne_X4 hown hK hP 0 rfl rfl 9 (by decide) (hts _ (List.mem_of_getElem? (i := 1) rfl)) (fun _ h9 => h9) rfl dX4_faultOfOne_23 ?_
    have e9 : foF tx ln at_ = ((nI at_), at_) := by rw [foF, if_neg b8]
    subst hQ
    have hP9 : va_P g.1 vwCl [(m0, .inr (4, [.ref m1, .long ma, .ref m2, .ref m3, .int (nI np), .ref m4, .int (nI ln), .int th, .ref m5, .int (nI ((foF tx ln at_).2)), .long hs])), (m4, .inl (g.2.1 0, 100, .inl tx))] H := by rw [e9]; exact hP
    exact W.iret (v := (nI at_)) hx hb hr (fun t ht hW => ⟨⟨(nI at_), (), rfl, by rw [e9], by show va_P g.1 vwCl _ t.heap; rw [ht]; exact hP9⟩, hS.F ht⟩) hS.2.2 dX4_faultOfOne_26
  · have b8 : seP tx ln at_ 97 104 := bz_t c8
    rw [paF_t b8] at hP hD
    refine lv_aload_n hx hb dX4_faultOfOne_11 rfl (lv_at hl 0 rfl) ?_
    refine lv_bipush (v := 61) hx hb dX4_faultOfOne_12 (by decide) ?_
    refine lv_bipush (v := 61) hx hb dX4_faultOfOne_14 (by decide) ?_
    refine kUi (fun _ => [(m0, .inr (4, [.ref m1, .long ma, .ref m2, .ref m3, .int (nI np), .ref m4, .int (nI ln), .int th, .ref m5, .int (nI (paF tx ln (at_ + 1) 61 61)), .long hs])), (m4, .inl (g.2.1 0, 100, .inl tx))]) (va_runV (As := [.int 61, .int 61]) (rest := []) ⟨hx, hb, hml, hown, hts⟩ (c_X4_passes l g m0 m1 m2 m3 m4 m5 ma np ln th (at_ + 1) hs tx 61 61 (by first | assumption | omega | exact Nat.le_of_ble_eq_true rfl) (by first | assumption | omega | exact Nat.le_of_ble_eq_true rfl)) (cwV 2 hts gX4_faultOfOne_X4_passes rfl rfl rfl (by decide +kernel) ⟨(Nat.le_of_ble_eq_true rfl), (Nat.le_of_ble_eq_true rfl)⟩) (preVd (RX4, TX4, 11) hE hP hD [0, 1] (by decide) rfl rfl) rfl rfl hl.1 rfl (lv_room (Nat.le_of_ble_eq_true rfl)) dX4_faultOfOne_16 ⟨(Nat.le_of_ble_eq_true rfl), (Nat.le_of_ble_eq_true rfl)⟩) hP hD hS [0, 1] [] 2 [m0, m4] [] rfl rfl rfl (fun _ => rfl) (fun _ => rfl) (fun _ => rfl) rfl (by decide) (fun r9 _ H locs hr9 hP hD hS => ?_)
    subst hr9
    refine lv_if_ne (tgt := 27) hx hb dX4_faultOfOne_19 (by decide) (fun c19 => ?_) (fun c19 => ?_)
    · have b19 : seP tx ln (at_ + 1) 61 61 := bz_t c19
      rw [paF_t b19] at hP hD
      have g1 := b8.1
      have g2 := b19.1
      refine lv_aload_n hx hb dX4_faultOfOne_27 rfl (lv_at hl 0 rfl) ?_
      refine lv_bipush (v := 48) hx hb dX4_faultOfOne_28 (by decide) ?_
      refine lv_bipush (v := 57) hx hb dX4_faultOfOne_30 (by decide) ?_
      refine kRi (va_runV (As := [.int 48, .int 57]) (rest := []) ⟨hx, hb, hml, hown, hts⟩ (c_X4_sees l g m0 m1 m2 m3 m4 m5 ma np ln th (at_ + 1 + 1) hs tx 48 57 (by first | assumption | omega | exact Nat.le_of_ble_eq_true rfl) (by first | assumption | omega | exact Nat.le_of_ble_eq_true rfl)) (cwV 2 hts gX4_faultOfOne_X4_sees rfl rfl rfl (by decide +kernel) ⟨(Nat.le_of_ble_eq_true rfl), (Nat.le_of_ble_eq_true rfl)⟩) (preV (RX4, TX4, 11) hE hP [0, 1] rfl rfl) rfl rfl hl.1 rfl (lv_room (Nat.le_of_ble_eq_true rfl)) dX4_faultOfOne_32 ⟨(Nat.le_of_ble_eq_true rfl), (Nat.le_of_ble_eq_true rfl)⟩) hP hS (fun r9 H locs hr9 hP hS => ?_)
      subst hr9
      refine lv_if_eq (tgt := 71) hx hb dX4_faultOfOne_35 (by decide) (fun c35 => ?_) (fun c35 => ?_)
      · have b35 : ¬ (seP tx ln (at_ + 1 + 1) 48 57) := bz_f c35
        refine lv_aload_n hx hb dX4_faultOfOne_71 rfl (lv_at hl 0 rfl) ?_
        refine lv_bipush (v := 97) hx hb dX4_faultOfOne_72 (by decide) ?_
        refine lv_bipush (v := 104) hx hb dX4_faultOfOne_74 (by decide) ?_
        refine kUi (fun _ => [(m0, .inr (4, [.ref m1, .long ma, .ref m2, .ref m3, .int (nI np), .ref m4, .int (nI ln), .int th, .ref m5, .int (nI (paF tx ln (at_ + 1 + 1) 97 104)), .long hs])), (m4, .inl (g.2.1 0, 100, .inl tx))]) (va_runV (As := [.int 97, .int 104]) (rest := []) ⟨hx, hb, hml, hown, hts⟩ (c_X4_passes l g m0 m1 m2 m3 m4 m5 ma np ln th (at_ + 1 + 1) hs tx 97 104 (by first | assumption | omega | exact Nat.le_of_ble_eq_true rfl) (by first | assumption | omega | exact Nat.le_of_ble_eq_true rfl)) (cwV 2 hts gX4_faultOfOne_X4_passes rfl rfl rfl (by decide +kernel) ⟨(Nat.le_of_ble_eq_true rfl), (Nat.le_of_ble_eq_true rfl)⟩) (preVd (RX4, TX4, 11) hE hP hD [0, 1] (by decide) rfl rfl) rfl rfl hl.1 rfl (lv_room (Nat.le_of_ble_eq_true rfl)) dX4_faultOfOne_76 ⟨(Nat.le_of_ble_eq_true rfl), (Nat.le_of_ble_eq_true rfl)⟩) hP hD hS [0, 1] [] 2 [m0, m4] [] rfl rfl rfl (fun _ => rfl) (fun _ => rfl) (fun _ => rfl) rfl (by decide) (fun r9 _ H locs hr9 hP hD hS => ?_)
        subst hr9
        refine lv_if_eq (tgt := 100) hx hb dX4_faultOfOne_79 (by decide) (fun c79 => ?_) (fun c79 => ?_)
        · have b79 : ¬ (seP tx ln (at_ + 1 + 1) 97 104) := bz_f c79
          rw [paF_f b79] at hP hD
          refine lv_aload_n hx hb dX4_faultOfOne_100 rfl (lv_at hl 0 rfl) ?_
          refine va_get (D := g.1) (ci := 4) (v := .int (nI (at_ + 1 + 1))) (C := RX4) (T := TX4) (N := 11) hx hb hts in_X4_faultOfOne_X4 hown hK hP 0 rfl rfl 9 (by decide) (hts _ (List.mem_of_getElem? (i := 1) rfl)) (fun _ h9 => h9) rfl dX4_faultOfOne_101 ?_
          have e9 : foF tx ln at_ = ((nI (at_ + 1 + 1)), at_ + 1 + 1) := by rw [foF, if_pos b8, if_pos b19, if_neg b35, if_neg b79]
          subst hQ
          have hP9 : va_P g.1 vwCl [(m0, .inr (4, [.ref m1, .long ma, .ref m2, .ref m3, .int (nI np), .ref m4, .int (nI ln), .int th, .ref m5, .int (nI ((foF tx ln at_).2)), .long hs])), (m4, .inl (g.2.1 0, 100, .inl tx))] H := by rw [e9]; exact hP
          exact W.iret (v := (nI (at_ + 1 + 1))) hx hb hr (fun t ht hW => ⟨⟨(nI (at_ + 1 + 1)), (), rfl, by rw [e9], by show va_P g.1 vwCl _ t.heap; rw [ht]; exact hP9⟩, hS.F ht⟩) hS.2.2 dX4_faultOfOne_104
        · have b79 : seP tx ln (at_ + 1 + 1) 97 104 := bz_t c79
          rw [paF_t b79] at hP hD
          have g4 := b79.1
          refine lv_aload_n hx hb dX4_faultOfOne_82 rfl (lv_at hl 0 rfl) ?_
          refine kUi (fun _ => [(m0, .inr (4, [.ref m1, .long ma, .ref m2, .ref m3, .int (nI np), .ref m4, .int (nI ln), .int th, .ref m5, .int (nI (sgF tx ln (at_ + 1 + 1 + 1))), .long hs])), (m4, .inl (g.2.1 0, 100, .inl tx))]) (va_runV (As := []) (rest := []) ⟨hx, hb, hml, hown, hts⟩ (c_X4_passesSign l g m0 m1 m2 m3 m4 m5 ma np ln th (at_ + 1 + 1 + 1) hs tx (by first | assumption | omega | exact Nat.le_of_ble_eq_true rfl) (by first | assumption | omega | exact Nat.le_of_ble_eq_true rfl)) (cwV 0 hts gX4_faultOfOne_X4_passesSign rfl rfl rfl (by decide +kernel) ⟨(Nat.le_of_ble_eq_true rfl), (Nat.le_of_ble_eq_true rfl)⟩) (preVd (RX4, TX4, 11) hE hP hD [0, 1] (by decide) rfl rfl) rfl rfl hl.1 rfl (lv_room (Nat.le_of_ble_eq_true rfl)) dX4_faultOfOne_83 ⟨(Nat.le_of_ble_eq_true rfl), (Nat.le_of_ble_eq_true rfl)⟩) hP hD hS [0, 1] [] 2 [m0, m4] [] rfl rfl rfl (fun _ => rfl) (fun _ => rfl) (fun _ => rfl) rfl (by decide) (fun r9 _ H locs hr9 hP hD hS => ?_)
          subst hr9
          refine lv_if_eq (tgt := 100) hx hb dX4_faultOfOne_86 (by decide) (fun c86 => ?_) (fun c86 => ?_)
          · have b86 : ¬ (siP tx ln (at_ + 1 + 1 + 1)) := bz_f c86
            rw [sgF_f b86] at hP hD
            refine lv_aload_n hx hb dX4_faultOfOne_100 rfl (lv_at hl 0 rfl) ?_
            refine va_get (D := g.1) (ci := 4) (v := .int (nI (at_ + 1 + 1 + 1))) (C := RX4) (T := TX4) (N := 11) hx hb hts in_X4_faultOfOne_X4 hown hK hP 0 rfl rfl 9 (by decide) (hts _ (List.mem_of_getElem? (i := 1) rfl)) (fun _ h9 => h9) rfl dX4_faultOfOne_101 ?_
            have e9 : foF tx ln at_ = ((nI (at_ + 1 + 1 + 1)), at_ + 1 + 1 + 1) := by rw [foF, if_pos b8, if_pos b19, if_neg b35, if_pos b79, if_neg b86]
            subst hQ
            have hP9 : va_P g.1 vwCl [(m0, .inr (4, [.ref m1, .long ma, .ref m2, .ref m3, .int (nI np), .ref m4, .int (nI ln), .int th, .ref m5, .int (nI ((foF tx ln at_).2)), .long hs])), (m4, .inl (g.2.1 0, 100, .inl tx))] H := by rw [e9]; exact hP
            exact W.iret (v := (nI (at_ + 1 + 1 + 1))) hx hb hr (fun t ht hW => ⟨⟨(nI (at_ + 1 + 1 + 1)), (), rfl, by rw [e9], by show va_P g.1 vwCl _ t.heap; rw [ht]; exact hP9⟩, hS.F ht⟩) hS.2.2 dX4_faultOfOne_104
          · have b86 : siP tx ln (at_ + 1 + 1 + 1) := bz_t c86
            rw [sgF_t b86] at hP hD
            have g5 := b86.1
            refine lv_aload_n hx hb dX4_faultOfOne_89 rfl (lv_at hl 0 rfl) ?_
            refine lv_bipush (v := 97) hx hb dX4_faultOfOne_90 (by decide) ?_
            refine lv_bipush (v := 104) hx hb dX4_faultOfOne_92 (by decide) ?_
            refine kUi (fun _ => [(m0, .inr (4, [.ref m1, .long ma, .ref m2, .ref m3, .int (nI np), .ref m4, .int (nI ln), .int th, .ref m5, .int (nI (paF tx ln (at_ + 1 + 1 + 1 + 1) 97 104)), .long hs])), (m4, .inl (g.2.1 0, 100, .inl tx))]) (va_runV (As := [.int 97, .int 104]) (rest := []) ⟨hx, hb, hml, hown, hts⟩ (c_X4_passes l g m0 m1 m2 m3 m4 m5 ma np ln th (at_ + 1 + 1 + 1 + 1) hs tx 97 104 (by first | assumption | omega | exact Nat.le_of_ble_eq_true rfl) (by first | assumption | omega | exact Nat.le_of_ble_eq_true rfl)) (cwV 2 hts gX4_faultOfOne_X4_passes rfl rfl rfl (by decide +kernel) ⟨(Nat.le_of_ble_eq_true rfl), (Nat.le_of_ble_eq_true rfl)⟩) (preVd (RX4, TX4, 11) hE hP hD [0, 1] (by decide) rfl rfl) rfl rfl hl.1 rfl (lv_room (Nat.le_of_ble_eq_true rfl)) dX4_faultOfOne_94 ⟨(Nat.le_of_ble_eq_true rfl), (Nat.le_of_ble_eq_true rfl)⟩) hP hD hS [0, 1] [] 2 [m0, m4] [] rfl rfl rfl (fun _ => rfl) (fun _ => rfl) (fun _ => rfl) rfl (by decide) (fun r9 _ H locs hr9 hP hD hS => ?_)
            subst hr9
            refine lv_if_ne (tgt := 105) hx hb dX4_faultOfOne_97 (by decide) (fun c97 => ?_) (fun c97 => ?_)
            · have b97 : seP tx ln (at_ + 1 + 1 + 1 + 1) 97 104 := bz_t c97
              rw [paF_t b97] at hP hD
              have g6 := b97.1
              refine lv_aload_n hx hb dX4_faultOfOne_105 rfl (lv_at hl 0 rfl) ?_
              refine lv_bipush (v := 59) hx hb dX4_faultOfOne_106 (by decide) ?_
              refine lv_bipush (v := 59) hx hb dX4_faultOfOne_108 (by decide) ?_
              refine kUi (fun _ => [(m0, .inr (4, [.ref m1, .long ma, .ref m2, .ref m3, .int (nI np), .ref m4, .int (nI ln), .int th, .ref m5, .int (nI (paF tx ln (at_ + 1 + 1 + 1 + 1 + 1) 59 59)), .long hs])), (m4, .inl (g.2.1 0, 100, .inl tx))]) (va_runV (As := [.int 59, .int 59]) (rest := []) ⟨hx, hb, hml, hown, hts⟩ (c_X4_passes l g m0 m1 m2 m3 m4 m5 ma np ln th (at_ + 1 + 1 + 1 + 1 + 1) hs tx 59 59 (by first | assumption | omega | exact Nat.le_of_ble_eq_true rfl) (by first | assumption | omega | exact Nat.le_of_ble_eq_true rfl)) (cwV 2 hts gX4_faultOfOne_X4_passes rfl rfl rfl (by decide +kernel) ⟨(Nat.le_of_ble_eq_true rfl), (Nat.le_of_ble_eq_true rfl)⟩) (preVd (RX4, TX4, 11) hE hP hD [0, 1] (by decide) rfl rfl) rfl rfl hl.1 rfl (lv_room (Nat.le_of_ble_eq_true rfl)) dX4_faultOfOne_110 ⟨(Nat.le_of_ble_eq_true rfl), (Nat.le_of_ble_eq_true rfl)⟩) hP hD hS [0, 1] [] 2 [m0, m4] [] rfl rfl rfl (fun _ => rfl) (fun _ => rfl) (fun _ => rfl) rfl (by decide) (fun r9 _ H locs hr9 hP hD hS => ?_)
              subst hr9
              refine lv_if_eq (tgt := 120) hx hb dX4_faultOfOne_113 (by decide) (fun c113 => ?_) (fun c113 => ?_)
              · have b113 : ¬ (seP tx ln (at_ + 1 + 1 + 1 + 1 + 1) 59 59) := bz_f c113
                rw [paF_f b113] at hP hD
                refine lv_aload_n hx hb dX4_faultOfOne_120 rfl (lv_at hl 0 rfl) ?_
                refine va_get (D := g.1) (ci := 4) (v := .int (nI (at_ + 1 + 1 + 1 + 1 + 1))) (C := RX4) (T := TX4) (N := 11) hx hb hts in_X4_faultOfOne_X4 hown hK hP 0 rfl rfl 9 (by decide) (hts _ (List.mem_of_getElem? (i := 1) rfl)) (fun _ h9 => h9) rfl dX4_faultOfOne_121 ?_
                have e9 : foF tx ln at_ = ((nI (at_ + 1 + 1 + 1 + 1 + 1)), at_ + 1 + 1 + 1 + 1 + 1) := by rw [foF, if_pos b8, if_pos b19, if_neg b35, if_pos b79, if_pos b86, if_pos b97, if_neg b113]
                subst hQ
                have hP9 : va_P g.1 vwCl [(m0, .inr (4, [.ref m1, .long ma, .ref m2, .ref m3, .int (nI np), .ref m4, .int (nI ln), .int th, .ref m5, .int (nI ((foF tx ln at_).2)), .long hs])), (m4, .inl (g.2.1 0, 100, .inl tx))] H := by rw [e9]; exact hP
                exact W.iret (v := (nI (at_ + 1 + 1 + 1 + 1 + 1))) hx hb hr (fun t ht hW => ⟨⟨(nI (at_ + 1 + 1 + 1 + 1 + 1)), (), rfl, by rw [e9], by show va_P g.1 vwCl _ t.heap; rw [ht]; exact hP9⟩, hS.F ht⟩) hS.2.2 dX4_faultOfOne_124
              · have b113 : seP tx ln (at_ + 1 + 1 + 1 + 1 + 1) 59 59 := bz_t c113
                rw [paF_t b113] at hP hD
                refine lv_iconst (v := -1) hx hb dX4_faultOfOne_116 (by decide) ?_
                refine lv_goto (tgt := 124) hx hb dX4_faultOfOne_117 (by decide) ?_
                have e9 : foF tx ln at_ = ((-1), at_ + 1 + 1 + 1 + 1 + 1 + 1) := by rw [foF, if_pos b8, if_pos b19, if_neg b35, if_pos b79, if_pos b86, if_pos b97, if_pos b113]
                subst hQ
                have hP9 : va_P g.1 vwCl [(m0, .inr (4, [.ref m1, .long ma, .ref m2, .ref m3, .int (nI np), .ref m4, .int (nI ln), .int th, .ref m5, .int (nI ((foF tx ln at_).2)), .long hs])), (m4, .inl (g.2.1 0, 100, .inl tx))] H := by rw [e9]; exact hP
                exact W.iret (v := (-1)) hx hb hr (fun t ht hW => ⟨⟨(-1), (), rfl, by rw [e9], by show va_P g.1 vwCl _ t.heap; rw [ht]; exact hP9⟩, hS.F ht⟩) hS.2.2 dX4_faultOfOne_124
            · have b97 : ¬ (seP tx ln (at_ + 1 + 1 + 1 + 1) 97 104) := bz_f c97
              rw [paF_f b97] at hP hD
              refine lv_aload_n hx hb dX4_faultOfOne_100 rfl (lv_at hl 0 rfl) ?_
              refine va_get (D := g.1) (ci := 4) (v := .int (nI (at_ + 1 + 1 + 1 + 1))) (C := RX4) (T := TX4) (N := 11) hx hb hts in_X4_faultOfOne_X4 hown hK hP 0 rfl rfl 9 (by decide) (hts _ (List.mem_of_getElem? (i := 1) rfl)) (fun _ h9 => h9) rfl dX4_faultOfOne_101 ?_
              have e9 : foF tx ln at_ = ((nI (at_ + 1 + 1 + 1 + 1)), at_ + 1 + 1 + 1 + 1) := by rw [foF, if_pos b8, if_pos b19, if_neg b35, if_pos b79, if_pos b86, if_neg b97]
              subst hQ
              have hP9 : va_P g.1 vwCl [(m0, .inr (4, [.ref m1, .long ma, .ref m2, .ref m3, .int (nI np), .ref m4, .int (nI ln), .int th, .ref m5, .int (nI ((foF tx ln at_).2)), .long hs])), (m4, .inl (g.2.1 0, 100, .inl tx))] H := by rw [e9]; exact hP
              exact W.iret (v := (nI (at_ + 1 + 1 + 1 + 1))) hx hb hr (fun t ht hW => ⟨⟨(nI (at_ + 1 + 1 + 1 + 1)), (), rfl, by rw [e9], by show va_P g.1 vwCl _ t.heap; rw [ht]; exact hP9⟩, hS.F ht⟩) hS.2.2 dX4_faultOfOne_104
      · have b35 : seP tx ln (at_ + 1 + 1) 48 57 := bz_t c35
        refine lv_aload_n hx hb dX4_faultOfOne_38 rfl (lv_at hl 0 rfl) ?_
        refine va_get (D := g.1) (ci := 4) (v := .int (nI (at_ + 1 + 1))) (C := RX4) (T := TX4) (N := 11) hx hb hts in_X4_faultOfOne_X4 hown hK hP 0 rfl rfl 9 (by decide) (hts _ (List.mem_of_getElem? (i := 1) rfl)) (fun _ h9 => h9) rfl dX4_faultOfOne_39 ?_
        refine lv_istore_n (lv' := [(1, .int (nI (at_ + 1 + 1))), (0, .ref m0)]) hx hb dX4_faultOfOne_42 rfl hl (by decide) rfl (fun ls hl => ?_)
        refine lv_aload_n hx hb dX4_faultOfOne_43 rfl (lv_at hl 1 rfl) ?_
        refine kUi (fun _ => [(m0, .inr (4, [.ref m1, .long ma, .ref m2, .ref m3, .int (nI np), .ref m4, .int (nI ln), .int th, .ref m5, .int (nI ((nuS tx ln 3 (at_ + 1 + 1) 0).2)), .long hs])), (m4, .inl (g.2.1 0, 100, .inl tx))]) (va_runV (As := []) (rest := []) ⟨hx, hb, hml, hown, hts⟩ (c_X4_number l g m0 m1 m2 m3 m4 m5 ma np ln th (at_ + 1 + 1) hs tx (by first | assumption | omega | exact Nat.le_of_ble_eq_true rfl) (by first | assumption | omega | exact Nat.le_of_ble_eq_true rfl)) (cwV 0 hts gX4_faultOfOne_X4_number rfl rfl rfl (by decide +kernel) ⟨(Nat.le_of_ble_eq_true rfl), (Nat.le_of_ble_eq_true rfl)⟩) (preVd (RX4, TX4, 11) hE hP hD [0, 1] (by decide) rfl rfl) rfl rfl hl.1 rfl (lv_room (Nat.le_of_ble_eq_true rfl)) dX4_faultOfOne_44 ⟨(Nat.le_of_ble_eq_true rfl), (Nat.le_of_ble_eq_true rfl)⟩) hP hD hS [0, 1] [] 2 [m0, m4] [] rfl rfl rfl (fun _ => rfl) (fun _ => rfl) (fun _ => rfl) rfl (by decide) (fun r9 _ H locs hr9 hP hD hS => ?_)
        subst hr9
        have g3 := nuS_b (tx := tx) (ln := ln) 3 (at_ + 1 + 1) 0 (by omega)
        refine lv_istore_n (lv' := [(2, .int ((nuS tx ln 3 (at_ + 1 + 1) 0).1)), (1, .int (nI (at_ + 1 + 1))), (0, .ref m0)]) hx hb dX4_faultOfOne_47 rfl hl (by decide) rfl (fun ls hl => ?_)
        refine lv_iload_n hx hb dX4_faultOfOne_48 rfl (lv_at hl 0 rfl) ?_
        refine lv_sipush (v := 255) hx hb dX4_faultOfOne_49 (by decide) ?_
        refine lv_icmp_le (tgt := 68) hx hb dX4_faultOfOne_52 (by decide) (fun c52 => ?_) (fun c52 => ?_)
        · refine lv_goto (tgt := 105) hx hb dX4_faultOfOne_68 (by decide) ?_
          refine lv_aload_n hx hb dX4_faultOfOne_105 rfl (lv_at hl 2 rfl) ?_
          refine lv_bipush (v := 59) hx hb dX4_faultOfOne_106 (by decide) ?_
          refine lv_bipush (v := 59) hx hb dX4_faultOfOne_108 (by decide) ?_
          refine kUi (fun _ => [(m0, .inr (4, [.ref m1, .long ma, .ref m2, .ref m3, .int (nI np), .ref m4, .int (nI ln), .int th, .ref m5, .int (nI (paF tx ln ((nuS tx ln 3 (at_ + 1 + 1) 0).2) 59 59)), .long hs])), (m4, .inl (g.2.1 0, 100, .inl tx))]) (va_runV (As := [.int 59, .int 59]) (rest := []) ⟨hx, hb, hml, hown, hts⟩ (c_X4_passes l g m0 m1 m2 m3 m4 m5 ma np ln th ((nuS tx ln 3 (at_ + 1 + 1) 0).2) hs tx 59 59 (by first | assumption | omega | exact Nat.le_of_ble_eq_true rfl) (by first | assumption | omega | exact Nat.le_of_ble_eq_true rfl)) (cwV 2 hts gX4_faultOfOne_X4_passes rfl rfl rfl (by decide +kernel) ⟨(Nat.le_of_ble_eq_true rfl), (Nat.le_of_ble_eq_true rfl)⟩) (preVd (RX4, TX4, 11) hE hP hD [0, 1] (by decide) rfl rfl) rfl rfl hl.1 rfl (lv_room (Nat.le_of_ble_eq_true rfl)) dX4_faultOfOne_110 ⟨(Nat.le_of_ble_eq_true rfl), (Nat.le_of_ble_eq_true rfl)⟩) hP hD hS [0, 1] [] 2 [m0, m4] [] rfl rfl rfl (fun _ => rfl) (fun _ => rfl) (fun _ => rfl) rfl (by decide) (fun r9 _ H locs hr9 hP hD hS => ?_)
          subst hr9
          refine lv_if_eq (tgt := 120) hx hb dX4_faultOfOne_113 (by decide) (fun c113 => ?_) (fun c113 => ?_)
          · have b113 : ¬ (seP tx ln ((nuS tx ln 3 (at_ + 1 + 1) 0).2) 59 59) := bz_f c113
            rw [paF_f b113] at hP hD
            refine lv_aload_n hx hb dX4_faultOfOne_120 rfl (lv_at hl 2 rfl) ?_
            refine va_get (D := g.1) (ci := 4) (v := .int (nI ((nuS tx ln 3 (at_ + 1 + 1) 0).2))) (C := RX4) (T := TX4) (N := 11) hx hb hts in_X4_faultOfOne_X4 hown hK hP 0 rfl rfl 9 (by decide) (hts _ (List.mem_of_getElem? (i := 1) rfl)) (fun _ h9 => h9) rfl dX4_faultOfOne_121 ?_
            have e9 : foF tx ln at_ = ((nI ((nuS tx ln 3 (at_ + 1 + 1) 0).2)), (nuS tx ln 3 (at_ + 1 + 1) 0).2) := by rw [foF, if_pos b8, if_pos b19, if_pos b35, if_neg (fun h => h.1 c52), if_neg b113]
            subst hQ
            have hP9 : va_P g.1 vwCl [(m0, .inr (4, [.ref m1, .long ma, .ref m2, .ref m3, .int (nI np), .ref m4, .int (nI ln), .int th, .ref m5, .int (nI ((foF tx ln at_).2)), .long hs])), (m4, .inl (g.2.1 0, 100, .inl tx))] H := by rw [e9]; exact hP
            exact W.iret (v := (nI ((nuS tx ln 3 (at_ + 1 + 1) 0).2))) hx hb hr (fun t ht hW => ⟨⟨(nI ((nuS tx ln 3 (at_ + 1 + 1) 0).2)), (), rfl, by rw [e9], by show va_P g.1 vwCl _ t.heap; rw [ht]; exact hP9⟩, hS.F ht⟩) hS.2.2 dX4_faultOfOne_124
          · have b113 : seP tx ln ((nuS tx ln 3 (at_ + 1 + 1) 0).2) 59 59 := bz_t c113
            rw [paF_t b113] at hP hD
            refine lv_iconst (v := -1) hx hb dX4_faultOfOne_116 (by decide) ?_
            refine lv_goto (tgt := 124) hx hb dX4_faultOfOne_117 (by decide) ?_
            have e9 : foF tx ln at_ = ((-1), (nuS tx ln 3 (at_ + 1 + 1) 0).2 + 1) := by rw [foF, if_pos b8, if_pos b19, if_pos b35, if_neg (fun h => h.1 c52), if_pos b113]
            subst hQ
            have hP9 : va_P g.1 vwCl [(m0, .inr (4, [.ref m1, .long ma, .ref m2, .ref m3, .int (nI np), .ref m4, .int (nI ln), .int th, .ref m5, .int (nI ((foF tx ln at_).2)), .long hs])), (m4, .inl (g.2.1 0, 100, .inl tx))] H := by rw [e9]; exact hP
            exact W.iret (v := (-1)) hx hb hr (fun t ht hW => ⟨⟨(-1), (), rfl, by rw [e9], by show va_P g.1 vwCl _ t.heap; rw [ht]; exact hP9⟩, hS.F ht⟩) hS.2.2 dX4_faultOfOne_124
        · refine lv_aload_n hx hb dX4_faultOfOne_55 rfl (lv_at hl 2 rfl) ?_
          refine lv_bipush (v := 48) hx hb dX4_faultOfOne_56 (by decide) ?_
          refine lv_bipush (v := 57) hx hb dX4_faultOfOne_58 (by decide) ?_
          refine kRi (va_runV (As := [.int 48, .int 57]) (rest := []) ⟨hx, hb, hml, hown, hts⟩ (c_X4_sees l g m0 m1 m2 m3 m4 m5 ma np ln th ((nuS tx ln 3 (at_ + 1 + 1) 0).2) hs tx 48 57 (by first | assumption | omega | exact Nat.le_of_ble_eq_true rfl) (by first | assumption | omega | exact Nat.le_of_ble_eq_true rfl)) (cwV 2 hts gX4_faultOfOne_X4_sees rfl rfl rfl (by decide +kernel) ⟨(Nat.le_of_ble_eq_true rfl), (Nat.le_of_ble_eq_true rfl)⟩) (preV (RX4, TX4, 11) hE hP [0, 1] rfl rfl) rfl rfl hl.1 rfl (lv_room (Nat.le_of_ble_eq_true rfl)) dX4_faultOfOne_60 ⟨(Nat.le_of_ble_eq_true rfl), (Nat.le_of_ble_eq_true rfl)⟩) hP hS (fun r9 H locs hr9 hP hS => ?_)
          subst hr9
          refine lv_if_ne (tgt := 68) hx hb dX4_faultOfOne_63 (by decide) (fun c63 => ?_) (fun c63 => ?_)
          · have b63 : seP tx ln ((nuS tx ln 3 (at_ + 1 + 1) 0).2) 48 57 := bz_t c63
            refine lv_goto (tgt := 105) hx hb dX4_faultOfOne_68 (by decide) ?_
            refine lv_aload_n hx hb dX4_faultOfOne_105 rfl (lv_at hl 2 rfl) ?_
            refine lv_bipush (v := 59) hx hb dX4_faultOfOne_106 (by decide) ?_
            refine lv_bipush (v := 59) hx hb dX4_faultOfOne_108 (by decide) ?_
            refine kUi (fun _ => [(m0, .inr (4, [.ref m1, .long ma, .ref m2, .ref m3, .int (nI np), .ref m4, .int (nI ln), .int th, .ref m5, .int (nI (paF tx ln ((nuS tx ln 3 (at_ + 1 + 1) 0).2) 59 59)), .long hs])), (m4, .inl (g.2.1 0, 100, .inl tx))]) (va_runV (As := [.int 59, .int 59]) (rest := []) ⟨hx, hb, hml, hown, hts⟩ (c_X4_passes l g m0 m1 m2 m3 m4 m5 ma np ln th ((nuS tx ln 3 (at_ + 1 + 1) 0).2) hs tx 59 59 (by first | assumption | omega | exact Nat.le_of_ble_eq_true rfl) (by first | assumption | omega | exact Nat.le_of_ble_eq_true rfl)) (cwV 2 hts gX4_faultOfOne_X4_passes rfl rfl rfl (by decide +kernel) ⟨(Nat.le_of_ble_eq_true rfl), (Nat.le_of_ble_eq_true rfl)⟩) (preVd (RX4, TX4, 11) hE hP hD [0, 1] (by decide) rfl rfl) rfl rfl hl.1 rfl (lv_room (Nat.le_of_ble_eq_true rfl)) dX4_faultOfOne_110 ⟨(Nat.le_of_ble_eq_true rfl), (Nat.le_of_ble_eq_true rfl)⟩) hP hD hS [0, 1] [] 2 [m0, m4] [] rfl rfl rfl (fun _ => rfl) (fun _ => rfl) (fun _ => rfl) rfl (by decide) (fun r9 _ H locs hr9 hP hD hS => ?_)
            subst hr9
            refine lv_if_eq (tgt := 120) hx hb dX4_faultOfOne_113 (by decide) (fun c113 => ?_) (fun c113 => ?_)
            · have b113 : ¬ (seP tx ln ((nuS tx ln 3 (at_ + 1 + 1) 0).2) 59 59) := bz_f c113
              rw [paF_f b113] at hP hD
              refine lv_aload_n hx hb dX4_faultOfOne_120 rfl (lv_at hl 2 rfl) ?_
              refine va_get (D := g.1) (ci := 4) (v := .int (nI ((nuS tx ln 3 (at_ + 1 + 1) 0).2))) (C := RX4) (T := TX4) (N := 11) hx hb hts in_X4_faultOfOne_X4 hown hK hP 0 rfl rfl 9 (by decide) (hts _ (List.mem_of_getElem? (i := 1) rfl)) (fun _ h9 => h9) rfl dX4_faultOfOne_121 ?_
              have e9 : foF tx ln at_ = ((nI ((nuS tx ln 3 (at_ + 1 + 1) 0).2)), (nuS tx ln 3 (at_ + 1 + 1) 0).2) := by rw [foF, if_pos b8, if_pos b19, if_pos b35, if_neg (fun h => h.2 b63), if_neg b113]
              subst hQ
              have hP9 : va_P g.1 vwCl [(m0, .inr (4, [.ref m1, .long ma, .ref m2, .ref m3, .int (nI np), .ref m4, .int (nI ln), .int th, .ref m5, .int (nI ((foF tx ln at_).2)), .long hs])), (m4, .inl (g.2.1 0, 100, .inl tx))] H := by rw [e9]; exact hP
              exact W.iret (v := (nI ((nuS tx ln 3 (at_ + 1 + 1) 0).2))) hx hb hr (fun t ht hW => ⟨⟨(nI ((nuS tx ln 3 (at_ + 1 + 1) 0).2)), (), rfl, by rw [e9], by show va_P g.1 vwCl _ t.heap; rw [ht]; exact hP9⟩, hS.F ht⟩) hS.2.2 dX4_faultOfOne_124
            · have b113 : seP tx ln ((nuS tx ln 3 (at_ + 1 + 1) 0).2) 59 59 := bz_t c113
              rw [paF_t b113] at hP hD
              refine lv_iconst (v := -1) hx hb dX4_faultOfOne_116 (by decide) ?_
              refine lv_goto (tgt := 124) hx hb dX4_faultOfOne_117 (by decide) ?_
              have e9 : foF tx ln at_ = ((-1), (nuS tx ln 3 (at_ + 1 + 1) 0).2 + 1) := by rw [foF, if_pos b8, if_pos b19, if_pos b35, if_neg (fun h => h.2 b63), if_pos b113]
              subst hQ
              have hP9 : va_P g.1 vwCl [(m0, .inr (4, [.ref m1, .long ma, .ref m2, .ref m3, .int (nI np), .ref m4, .int (nI ln), .int th, .ref m5, .int (nI ((foF tx ln at_).2)), .long hs])), (m4, .inl (g.2.1 0, 100, .inl tx))] H := by rw [e9]; exact hP
              exact W.iret (v := (-1)) hx hb hr (fun t ht hW => ⟨⟨(-1), (), rfl, by rw [e9], by show va_P g.1 vwCl _ t.heap; rw [ht]; exact hP9⟩, hS.F ht⟩) hS.2.2 dX4_faultOfOne_124
          · have b63 : ¬ (seP tx ln ((nuS tx ln 3 (at_ + 1 + 1) 0).2) 48 57) := bz_f c63
            refine lv_iload_n hx hb dX4_faultOfOne_66 rfl (lv_at hl 1 rfl) ?_
            have e9 : foF tx ln at_ = ((nI (at_ + 1 + 1)), (nuS tx ln 3 (at_ + 1 + 1) 0).2) := by rw [foF, if_pos b8, if_pos b19, if_pos b35, if_pos ⟨c52, b63⟩]
            subst hQ
            have hP9 : va_P g.1 vwCl [(m0, .inr (4, [.ref m1, .long ma, .ref m2, .ref m3, .int (nI np), .ref m4, .int (nI ln), .int th, .ref m5, .int (nI ((foF tx ln at_).2)), .long hs])), (m4, .inl (g.2.1 0, 100, .inl tx))] H := by rw [e9]; exact hP
            exact W.iret (v := (nI (at_ + 1 + 1))) hx hb hr (fun t ht hW => ⟨⟨(nI (at_ + 1 + 1)), (), rfl, by rw [e9], by show va_P g.1 vwCl _ t.heap; rw [ht]; exact hP9⟩, hS.F ht⟩) hS.2.2 dX4_faultOfOne_67
    · have b19 : ¬ (seP tx ln (at_ + 1) 61 61) := bz_f c19
      rw [paF_f b19] at hP hD
      refine lv_aload_n hx hb dX4_faultOfOne_22 rfl (lv_at hl 0 rfl) ?_
      refine va_get (D := g.1) (ci := 4) (v := .int (nI (at_ + 1))) (C := RX4) (T := TX4) (N := 11) hx hb hts in_X4_faultOfOne_X4 hown hK hP 0 rfl rfl 9 (by decide) (hts _ (List.mem_of_getElem? (i := 1) rfl)) (fun _ h9 => h9) rfl dX4_faultOfOne_23 ?_
      have e9 : foF tx ln at_ = ((nI (at_ + 1)), at_ + 1) := by rw [foF, if_pos b8, if_neg b19]
      subst hQ
      have hP9 : va_P g.1 vwCl [(m0, .inr (4, [.ref m1, .long ma, .ref m2, .ref m3, .int (nI np), .ref m4, .int (nI ln), .int th, .ref m5, .int (nI ((foF tx ln at_).2)), .long hs])), (m4, .inl (g.2.1 0, 100, .inl tx))] H := by rw [e9]; exact hP
      exact W.iret (v := (nI (at_ + 1))) hx hb hr (fun t ht hW => ⟨⟨(nI (at_ + 1)), (), rfl, by rw [e9], by show va_P g.1 vwCl _ t.heap; rw [ht]; exact hP9⟩, hS.F ht⟩) hS.2.2 dX4_faultOfOne_26
theorem in_X4_fault_X4 : ∀ w ∈ wsX40, w ∈ wsX4_fault := by decide +kernel
abbrev rm_X4_fault : Room := { frames := 5, cells := 0, slots := 0, locals := 109 }
set_option maxRecDepth 100000 in
set_option maxHeartbeats 4000000 in
theorem c_X4_fault (l : Launch) (g : GT) (m0 : Nat) (m1 : Nat) (m2 : Nat) (m3 : Nat) (m4 : Nat) (m5 : Nat) (ma : Int64) (np : Nat) (ln : Nat) (th : Int32) (at_ : Nat) (hs : Int64) (tx : Nat → Int32) (hln : ln ≤ 100) : cUi l g yX4_fault wsX4_fault rm_X4_fault [.ref m0] [(m0, .inr (4, [.ref m1, .long ma, .ref m2, .ref m3, .int (nI np), .ref m4, .int (nI ln), .int th, .ref m5, .int (nI at_), .long hs])), (m4, .inl (g.2.1 0, 100, .inl tx))] (fun r (_ : Unit) => r = ((faS tx ln ln 0).1)) (fun _ => [(m0, .inr (4, [.ref m1, .long ma, .ref m2, .ref m3, .int (nI np), .ref m4, .int (nI ln), .int th, .ref m5, .int (nI ((faS tx ln ln 0).2)), .long hs])), (m4, .inl (g.2.1 0, 100, .inl tx))]) := by
  refine enU (y := yX4_fault) (ws := wsX4_fault) (av := [.ref m0]) (cc := cX4_fault) (maxL := 2) (ret := (some .int)) (by decide) rfl (Nat.le_of_ble_eq_true rfl) rfl ?_
  intro p e s m below meth c ls hx hb hr hml hown hts hlocks hE hP hD hl
  have hK := hE.1
  have hS : va_S (va_Ad [(m0, .inr (4, [.ref m1, .long ma, .ref m2, .ref m3, .int (nI np), .ref m4, .int (nI ln), .int th, .ref m5, .int (nI at_), .long hs])), (m4, .inl (g.2.1 0, 100, .inl tx))]) s.heap s.heap [] := va_S.rf
  generalize hQ : MQ below _ _ s _ _ _ = Q9
  have hl : lv_has ls 2 [(0, .ref m0)] := hl
  refine lv_aload_n hx hb dX4_fault_0 rfl (lv_at hl 0 rfl) ?_
  refine lv_iconst (v := 0) hx hb dX4_fault_1 (by decide) ?_
  refine lv_tope (y := (nI 0)) rfl ?_
  refine va_put (D := g.1) (ci := 4) (v := .int (nI 0)) (ty := .int) (C := RX4) (T := TX4) (N := 11) hx hb hts in_X4_fault_X4 tyX4 tyX4_ok nmX4 hown hK hP hD hS 0 rfl rfl 9 (by decide) (hts _ (List.mem_of_getElem? (i := 1) rfl)) (fun _ h9 => h9) rfl (by decide +kernel) rfl rfl (Nat.le_of_ble_eq_true rfl) dX4_fault_2 (fun H locs hP hD hS => ?_)
  have hP : va_P g.1 vwCl [(m0, .inr (4, [.ref m1, .long ma, .ref m2, .ref m3, .int (nI np), .ref m4, .int (nI ln), .int th, .ref m5, .int (nI 0), .long hs])), (m4, .inl (g.2.1 0, 100, .inl tx))] _ := hP
  have hD : va_D (va_Ad [(m0, .inr (4, [.ref m1, .long ma, .ref m2, .ref m3, .int (nI np), .ref m4, .int (nI ln), .int th, .ref m5, .int (nI at_), .long hs])), (m4, .inl (g.2.1 0, 100, .inl tx))]) [(m0, .inr (4, [.ref m1, .long ma, .ref m2, .ref m3, .int (nI np), .ref m4, .int (nI ln), .int th, .ref m5, .int (nI 0), .long hs])), (m4, .inl (g.2.1 0, 100, .inl tx))] := hD
  refine lv_iconst (v := -1) hx hb dX4_fault_5 (by decide) ?_
  refine lv_istore_n (lv' := [(1, .int (-1)), (0, .ref m0)]) hx hb dX4_fault_6 rfl hl (by decide) rfl (fun ls hl => ?_)
  have lp7 : ∀ (n9 : Nat) (q : Nat) (wr : Int32), (if wr = -1 then ln - q + 1 else 0) < n9 → (q ≤ ln) → ((if wr = -1 then faS tx ln ln q else (wr, q)) = faS tx ln ln 0) → ∀ (H : Heap) (locs : List Loc), va_P g.1 vwCl [(m0, .inr (4, [.ref m1, .long ma, .ref m2, .ref m3, .int (nI np), .ref m4, .int (nI ln), .int th, .ref m5, .int (nI q), .long hs])), (m4, .inl (g.2.1 0, 100, .inl tx))] H → va_D (va_Ad [(m0, .inr (4, [.ref m1, .long ma, .ref m2, .ref m3, .int (nI np), .ref m4, .int (nI ln), .int th, .ref m5, .int (nI at_), .long hs])), (m4, .inl (g.2.1 0, 100, .inl tx))]) [(m0, .inr (4, [.ref m1, .long ma, .ref m2, .ref m3, .int (nI np), .ref m4, .int (nI ln), .int th, .ref m5, .int (nI q), .long hs])), (m4, .inl (g.2.1 0, 100, .inl tx))] → va_S (va_Ad [(m0, .inr (4, [.ref m1, .long ma, .ref m2, .ref m3, .int (nI np), .ref m4, .int (nI ln), .int th, .ref m5, .int (nI at_), .long hs])), (m4, .inl (g.2.1 0, 100, .inl tx))]) s.heap H locs → ∀ (ls : Array Slot), lv_has ls 2 [(1, .int wr), (0, .ref m0)] → W p l e rm_X4_fault s m [Value.ref m0].toArray below meth c H locs 0 0 Q9 (F0 m 7 ls []) := by
    intro n9
    induction n9 with
    | zero => intro q wr h9; exact absurd h9 (Nat.not_lt_zero _)
    | succ n9 ih7 =>
      intro q wr hm7 hq hres
      intro H locs hP hD hS ls hl
      refine lv_aload_n hx hb dX4_fault_7 rfl (lv_at hl 1 rfl) ?_
      refine va_get (D := g.1) (ci := 4) (v := .int (nI q)) (C := RX4) (T := TX4) (N := 11) hx hb hts in_X4_fault_X4 hown hK hP 0 rfl rfl 9 (by decide) (hts _ (List.mem_of_getElem? (i := 1) rfl)) (fun _ h9 => h9) rfl dX4_fault_8 ?_
      refine lv_aload_n hx hb dX4_fault_11 rfl (lv_at hl 1 rfl) ?_
      refine va_get (D := g.1) (ci := 4) (v := .int (nI ln)) (C := RX4) (T := TX4) (N := 11) hx hb hts in_X4_fault_X4 hown hK hP 0 rfl rfl 6 (by decide) (hts _ (List.mem_of_getElem? (i := 2) rfl)) (fun _ h9 => h9) rfl dX4_fault_12 ?_
      refine lv_icmp_ge (tgt := 31) hx hb dX4_fault_15 (by decide) (fun c15 => ?_) (fun c15 => ?_)
      · have n15 : ln ≤ q := (nI_leI (a := ln) (b := q) (by omega) (by omega)).mp c15
        refine lv_iload_n hx hb dX4_fault_31 rfl (lv_at hl 0 rfl) ?_
        have e9 : faS tx ln ln 0 = (wr, q) := by first | exact hres.symm.trans (if_neg c20) | exact hres.symm.trans (fa_e (by omega))
        subst hQ
        have hP9 : va_P g.1 vwCl [(m0, .inr (4, [.ref m1, .long ma, .ref m2, .ref m3, .int (nI np), .ref m4, .int (nI ln), .int th, .ref m5, .int (nI ((faS tx ln ln 0).2)), .long hs])), (m4, .inl (g.2.1 0, 100, .inl tx))] H := by rw [e9]; exact hP
        exact W.iret (v := wr) hx hb hr (fun t ht hW => ⟨⟨wr, (), rfl, by rw [e9], by show va_P g.1 vwCl _ t.heap; rw [ht]; exact hP9⟩, hS.F ht⟩) hS.2.2 dX4_fault_32
      · have n15 : q < ln := Nat.lt_of_not_le (fun h9 => c15 ((nI_leI (a := ln) (b := q) (by omega) (by omega)).mpr h9))
        refine lv_iload_n hx hb dX4_fault_18 rfl (lv_at hl 0 rfl) ?_
        refine lv_iconst (v := -1) hx hb dX4_fault_19 (by decide) ?_
        refine lv_icmp_ne (tgt := 31) hx hb dX4_fault_20 (by decide) (fun c20 => ?_) (fun c20 => ?_)
        · refine lv_iload_n hx hb dX4_fault_31 rfl (lv_at hl 0 rfl) ?_
          have e9 : faS tx ln ln 0 = (wr, q) := by first | exact hres.symm.trans (if_neg c20) | exact hres.symm.trans (fa_e (by omega))
          subst hQ
          have hP9 : va_P g.1 vwCl [(m0, .inr (4, [.ref m1, .long ma, .ref m2, .ref m3, .int (nI np), .ref m4, .int (nI ln), .int th, .ref m5, .int (nI ((faS tx ln ln 0).2)), .long hs])), (m4, .inl (g.2.1 0, 100, .inl tx))] H := by rw [e9]; exact hP
          exact W.iret (v := wr) hx hb hr (fun t ht hW => ⟨⟨wr, (), rfl, by rw [e9], by show va_P g.1 vwCl _ t.heap; rw [ht]; exact hP9⟩, hS.F ht⟩) hS.2.2 dX4_fault_32
        · refine lv_aload_n hx hb dX4_fault_23 rfl (lv_at hl 1 rfl) ?_
          refine kUi (fun _ => [(m0, .inr (4, [.ref m1, .long ma, .ref m2, .ref m3, .int (nI np), .ref m4, .int (nI ln), .int th, .ref m5, .int (nI ((foF tx ln q).2)), .long hs])), (m4, .inl (g.2.1 0, 100, .inl tx))]) (va_runV (As := []) (rest := []) ⟨hx, hb, hml, hown, hts⟩ (c_X4_faultOfOne l g m0 m1 m2 m3 m4 m5 ma np ln th q hs tx (by first | assumption | omega | exact Nat.le_of_ble_eq_true rfl) (by first | assumption | omega | exact Nat.le_of_ble_eq_true rfl)) (cwV 0 hts gX4_fault_X4_faultOfOne rfl rfl rfl (by decide +kernel) ⟨(Nat.le_of_ble_eq_true rfl), (Nat.le_of_ble_eq_true rfl)⟩) (preVd (RX4, TX4, 11) hE hP hD [0, 1] (by decide) rfl rfl) rfl rfl hl.1 rfl (lv_room (Nat.le_of_ble_eq_true rfl)) dX4_fault_24 ⟨(Nat.le_of_ble_eq_true rfl), (Nat.le_of_ble_eq_true rfl)⟩) hP hD hS [0, 1] [] 2 [m0, m4] [] rfl rfl rfl (fun _ => rfl) (fun _ => rfl) (fun _ => rfl) rfl (by decide) (fun r9 _ H locs hr9 hP hD hS => ?_)
          subst hr9
          refine lv_istore_n (lv' := [(1, .int ((foF tx ln q).1)), (0, .ref m0)]) hx hb dX4_fault_27 rfl hl (by decide) rfl (fun ls hl => ?_)
          refine lv_goto (tgt := 7) hx hb dX4_fault_28 (by decide) ?_
          have g1 := foF_b (tx := tx) n15 hln
          exact ih7 ((foF tx ln q).2) ((foF tx ln q).1) (fa_lt hm7 c20 n15 g1.2.2) g1.2.1 ((fa_s hln n15 c20).symm.trans hres)  _ _ hP hD hS _ (lv_sub hl [0, 1] rfl)
  exact lp7 (((if (-1) = -1 then ln - 0 + 1 else 0)) + 1) 0 (-1) (Nat.lt_succ_self _) (Nat.zero_le _) (if_pos rfl)  _ _ hP hD hS _ (lv_sub hl [0, 1] rfl)
abbrev rm_X4_by : Room := { frames := 3, cells := 0, slots := 0, locals := 67 }
set_option maxRecDepth 100000 in
set_option maxHeartbeats 4000000 in
theorem c_X4_by (l : Launch) (g : GT) (m0 : Nat) (m1 : Nat) (m2 : Nat) (m3 : Nat) (m4 : Nat) (m5 : Nat) (ma : Int64) (np : Nat) (ln : Nat) (th : Int32) (at_ : Nat) (hs : Int64) (rw : Nat → Int32) (w : Nat) (sg : Int32) (a : Nat) (b : Nat) (hA5 : a ≤ 255) (hB5 : b ≤ 255) : cRi l g yX4_by wsX4_by rm_X4_by [.ref m0, .int sg, .int (nI a), .int (nI b)] [(m0, .inr (4, [.ref m1, .long ma, .ref m2, .ref m3, .int (nI np), .ref m4, .int (nI ln), .int th, .ref m5, .int (nI at_), .long hs])), (m1, .inl (g.2.1 0, 523, .inl rw))] (fun r => r = (byF rw a sg b)) := by
  refine enR (y := yX4_by) (ws := wsX4_by) (av := [.ref m0, .int sg, .int (nI a), .int (nI b)]) (cc := cX4_by) (maxL := 4) (ret := (some .int)) (by decide) rfl (Nat.le_of_ble_eq_true rfl) rfl ?_
  intro p e s m below meth c ls hx hb hr hml hown hts hlocks hE hP hl
  have hK := hE.1
  have hS : va_S noA s.heap s.heap [] := va_S.rf
  generalize hQ : MQ below _ _ s _ _ _ = Q9
  have hl : lv_has ls 4 [(0, .ref m0), (1, .int sg), (2, .int (nI a)), (3, .int (nI b))] := hl
  refine lv_iload_n hx hb dX4_by_0 rfl (lv_at hl 1 rfl) ?_
  by_cases q1_35 : sg = 35
  · refine lv_tope (y := 35) q1_35 ?_
    refine lv_lookup (tgt := 66) (off := 65) hx hb dX4_by_1 (by decide) (by decide) (by decide) ?_
    refine lv_iload_n hx hb dX4_by_66 rfl (lv_at hl 2 rfl) ?_
    refine lv_iload_n hx hb dX4_by_67 rfl (lv_at hl 3 rfl) ?_
    refine lv_iconst (v := 2) hx hb dX4_by_68 (by decide) ?_
    refine kRi (va_runS (As := [.int (nI a), .int (nI b), .int 2]) (rest := []) ⟨hx, hb, hml, hown, hts⟩ (c_X4_byShifts l g a b 2) (va_cwS 3 hts gX4_by_X4_byShifts rfl rfl rfl (by decide +kernel) ⟨(Nat.le_of_ble_eq_true rfl), (Nat.le_of_ble_eq_true rfl)⟩) (preS hE hP [] rfl) rfl rfl hl.1 rfl (lv_room (Nat.le_of_ble_eq_true rfl)) dX4_by_69 ⟨(Nat.le_of_ble_eq_true rfl), (Nat.le_of_ble_eq_true rfl)⟩) hP hS (fun r9 H locs hr9 hP hS => ?_)
    subst hr9
    subst hQ
    exact W.iret (v := (bsF a b 2)) hx hb hr (fun t ht hW => ⟨⟨(bsF a b 2), (), rfl, (if_pos q1_35).symm, trivial⟩, hS.F ht⟩) hS.2.2 dX4_by_72
  · skip
    by_cases q1_42 : sg = 42
    · refine lv_tope (y := 42) q1_42 ?_
      refine lv_lookup (tgt := 52) (off := 51) hx hb dX4_by_1 (by decide) (by decide) (by decide) ?_
      refine lv_aload_n hx hb dX4_by_52 rfl (lv_at hl 0 rfl) ?_
      refine lv_iload_n hx hb dX4_by_53 rfl (lv_at hl 2 rfl) ?_
      refine lv_iload_n hx hb dX4_by_54 rfl (lv_at hl 3 rfl) ?_
      refine kRi (va_runV (As := [.int (nI a), .int (nI b)]) (rest := []) ⟨hx, hb, hml, hown, hts⟩ (c_X4_byTable l g m0 m1 m2 m3 m4 m5 ma np ln th at_ hs rw w a b (by first | assumption | omega | exact Nat.le_of_ble_eq_true rfl) (by first | assumption | omega | exact Nat.le_of_ble_eq_true rfl)) (cwV 2 hts gX4_by_X4_byTable rfl rfl rfl (by decide +kernel) ⟨(Nat.le_of_ble_eq_true rfl), (Nat.le_of_ble_eq_true rfl)⟩) (preV (RX4, TX4, 11) hE hP [0, 1] rfl rfl) rfl rfl hl.1 rfl (lv_room (Nat.le_of_ble_eq_true rfl)) dX4_by_55 ⟨(Nat.le_of_ble_eq_true rfl), (Nat.le_of_ble_eq_true rfl)⟩) hP hS (fun r9 H locs hr9 hP hS => ?_)
      subst hr9
      subst hQ
      exact W.iret (v := (mbF rw a b)) hx hb hr (fun t ht hW => ⟨⟨(mbF rw a b), (), rfl, ((if_neg q1_35).trans (if_pos q1_42)).symm, trivial⟩, hS.F ht⟩) hS.2.2 dX4_by_58
    · skip
      by_cases q1_43 : sg = 43
      · refine lv_tope (y := 43) q1_43 ?_
        refine lv_lookup (tgt := 73) (off := 72) hx hb dX4_by_1 (by decide) (by decide) (by decide) ?_
        refine lv_iload_n hx hb dX4_by_73 rfl (lv_at hl 2 rfl) ?_
        refine lv_iload_n hx hb dX4_by_74 rfl (lv_at hl 3 rfl) ?_
        refine lv_iadd hx hb dX4_by_75 ?_
        subst hQ
        exact W.iret (v := ((nI a) + (nI b))) hx hb hr (fun t ht hW => ⟨⟨((nI a) + (nI b)), (), rfl, ((if_neg q1_35).trans ((if_neg q1_42).trans (if_pos q1_43))).symm, trivial⟩, hS.F ht⟩) hS.2.2 dX4_by_76
      · skip
        by_cases q1_45 : sg = 45
        · refine lv_tope (y := 45) q1_45 ?_
          refine lv_lookup (tgt := 77) (off := 76) hx hb dX4_by_1 (by decide) (by decide) (by decide) ?_
          refine lv_iload_n hx hb dX4_by_77 rfl (lv_at hl 2 rfl) ?_
          refine lv_iload_n hx hb dX4_by_78 rfl (lv_at hl 3 rfl) ?_
          refine lv_isub hx hb dX4_by_79 ?_
          subst hQ
          exact W.iret (v := ((nI a) - (nI b))) hx hb hr (fun t ht hW => ⟨⟨((nI a) - (nI b)), (), rfl, ((if_neg q1_35).trans ((if_neg q1_42).trans ((if_neg q1_43).trans (if_pos q1_45)))).symm, trivial⟩, hS.F ht⟩) hS.2.2 dX4_by_80
        · skip
          by_cases q1_120 : sg = 120
          · refine lv_tope (y := 120) q1_120 ?_
            refine lv_lookup (tgt := 59) (off := 58) hx hb dX4_by_1 (by decide) (by decide) (by decide) ?_
            refine lv_iload_n hx hb dX4_by_59 rfl (lv_at hl 2 rfl) ?_
            refine lv_iload_n hx hb dX4_by_60 rfl (lv_at hl 3 rfl) ?_
            refine lv_iconst (v := 1) hx hb dX4_by_61 (by decide) ?_
            refine kRi (va_runS (As := [.int (nI a), .int (nI b), .int 1]) (rest := []) ⟨hx, hb, hml, hown, hts⟩ (c_X4_byShifts l g a b 1) (va_cwS 3 hts gX4_by_X4_byShifts rfl rfl rfl (by decide +kernel) ⟨(Nat.le_of_ble_eq_true rfl), (Nat.le_of_ble_eq_true rfl)⟩) (preS hE hP [] rfl) rfl rfl hl.1 rfl (lv_room (Nat.le_of_ble_eq_true rfl)) dX4_by_62 ⟨(Nat.le_of_ble_eq_true rfl), (Nat.le_of_ble_eq_true rfl)⟩) hP hS (fun r9 H locs hr9 hP hS => ?_)
            subst hr9
            subst hQ
            exact W.iret (v := (bsF a b 1)) hx hb hr (fun t ht hW => ⟨⟨(bsF a b 1), (), rfl, ((if_neg q1_35).trans ((if_neg q1_42).trans ((if_neg q1_43).trans ((if_neg q1_45).trans (if_pos q1_120))))).symm, trivial⟩, hS.F ht⟩) hS.2.2 dX4_by_65
          · skip
            refine lv_lookup (tgt := 81) (off := 80) hx hb dX4_by_1 (by decide) ((lv_osw q1_35 (by decide)).trans ((lv_osw q1_42 (by decide)).trans ((lv_osw q1_43 (by decide)).trans ((lv_osw q1_45 (by decide)).trans ((lv_osw q1_120 (by decide)).trans rfl))))) (by decide) ?_
            refine lv_iload_n hx hb dX4_by_81 rfl (lv_at hl 2 rfl) ?_
            refine lv_iload_n hx hb dX4_by_82 rfl (lv_at hl 3 rfl) ?_
            refine lv_bipush (v := 31) hx hb dX4_by_83 (by decide) ?_
            refine lv_icmp_le (tgt := 93) hx hb dX4_by_85 (by decide) (fun c85 => ?_) (fun c85 => ?_)
            · have n85 : b ≤ 31 := (nI_leI (a := b) (b := 31) (by omega) (by omega)).mp c85
              refine lv_iload_n hx hb dX4_by_93 rfl (lv_at hl 3 rfl) ?_
              refine lv_tope (y := mxF b) (by first | exact (if_pos c85).symm | exact (if_neg c85).symm) ?_
              refine lv_ishr hx hb dX4_by_94 ?_
              subst hQ
              exact W.iret (v := ((nI a) >>> ((mxF b) &&& 31))) hx hb hr (fun t ht hW => ⟨⟨((nI a) >>> ((mxF b) &&& 31)), (), rfl, ((if_neg q1_35).trans ((if_neg q1_42).trans ((if_neg q1_43).trans ((if_neg q1_45).trans (if_neg q1_120))))).symm, trivial⟩, hS.F ht⟩) hS.2.2 dX4_by_95
            · have n85 : 31 < b := Nat.lt_of_not_le (fun h9 => c85 ((nI_leI (a := b) (b := 31) (by omega) (by omega)).mpr h9))
              refine lv_bipush (v := 31) hx hb dX4_by_88 (by decide) ?_
              refine lv_goto (tgt := 94) hx hb dX4_by_90 (by decide) ?_
              refine lv_tope (y := mxF b) (by first | exact (if_pos c85).symm | exact (if_neg c85).symm) ?_
              refine lv_ishr hx hb dX4_by_94 ?_
              subst hQ
              exact W.iret (v := ((nI a) >>> ((mxF b) &&& 31))) hx hb hr (fun t ht hW => ⟨⟨((nI a) >>> ((mxF b) &&& 31)), (), rfl, ((if_neg q1_35).trans ((if_neg q1_42).trans ((if_neg q1_43).trans ((if_neg q1_45).trans (if_neg q1_120))))).symm, trivial⟩, hS.F ht⟩) hS.2.2 dX4_by_95
theorem in_X4_priceBy_X4 : ∀ w ∈ wsX40, w ∈ wsX4_priceBy := by decide +kernel
abbrev rm_X4_priceBy : Room := { frames := 3, cells := 0, slots := 0, locals := 69 }
set_option maxRecDepth 100000 in
set_option maxHeartbeats 4000000 in
theorem c_X4_priceBy (l : Launch) (g : GT) (m0 : Nat) (m1 : Nat) (m2 : Nat) (m3 : Nat) (m4 : Nat) (m5 : Nat) (ma : Int64) (np : Nat) (ln : Nat) (th : Int32) (at_ : Nat) (hs : Int64) (rw : Nat → Int32) (w : Nat) (sg : Int32) (b : Nat) (hB5 : b ≤ 255) : cRi l g yX4_priceBy wsX4_priceBy rm_X4_priceBy [.ref m0, .int sg, .int (nI b)] [(m0, .inr (4, [.ref m1, .long ma, .ref m2, .ref m3, .int (nI np), .ref m4, .int (nI ln), .int th, .ref m5, .int (nI at_), .long hs])), (m1, .inl (g.2.1 0, 523, .inl rw))] (fun r => r = (pbF rw sg b)) := by
  refine enR (y := yX4_priceBy) (ws := wsX4_priceBy) (av := [.ref m0, .int sg, .int (nI b)]) (cc := cX4_priceBy) (maxL := 3) (ret := (some .int)) (by decide) rfl (Nat.le_of_ble_eq_true rfl) rfl ?_
  intro p e s m below meth c ls hx hb hr hml hown hts hlocks hE hP hl
  have hK := hE.1
  have hS : va_S noA s.heap s.heap [] := va_S.rf
  generalize hQ : MQ below _ _ s _ _ _ = Q9
  have hl : lv_has ls 3 [(0, .ref m0), (1, .int sg), (2, .int (nI b))] := hl
  refine lv_iload_n hx hb dX4_priceBy_0 rfl (lv_at hl 1 rfl) ?_
  by_cases q1_35 : sg = 35
  · refine lv_tope (y := 35) q1_35 ?_
    refine lv_lookup (tgt := 66) (off := 65) hx hb dX4_priceBy_1 (by decide) (by decide) (by decide) ?_
    refine lv_aload_n hx hb dX4_priceBy_66 rfl (lv_at hl 0 rfl) ?_
    refine lv_iload_n hx hb dX4_priceBy_67 rfl (lv_at hl 2 rfl) ?_
    refine lv_iconst (v := 2) hx hb dX4_priceBy_68 (by decide) ?_
    refine kRi (va_runV (As := [.int (nI b), .int 2]) (rest := []) ⟨hx, hb, hml, hown, hts⟩ (c_X4_price l g m0 m1 m2 m3 m4 m5 ma np ln th at_ hs rw w b 2) (cwV 2 hts gX4_priceBy_X4_price rfl rfl rfl (by decide +kernel) ⟨(Nat.le_of_ble_eq_true rfl), (Nat.le_of_ble_eq_true rfl)⟩) (preV (RX4, TX4, 11) hE hP [0, 1] rfl rfl) rfl rfl hl.1 rfl (lv_room (Nat.le_of_ble_eq_true rfl)) dX4_priceBy_69 ⟨(Nat.le_of_ble_eq_true rfl), (Nat.le_of_ble_eq_true rfl)⟩) hP hS (fun r9 H locs hr9 hP hS => ?_)
    subst hr9
    subst hQ
    exact W.iret (v := (mcF rw b 2)) hx hb hr (fun t ht hW => ⟨⟨(mcF rw b 2), (), rfl, (if_pos q1_35).symm, trivial⟩, hS.F ht⟩) hS.2.2 dX4_priceBy_72
  · skip
    by_cases q1_42 : sg = 42
    · refine lv_tope (y := 42) q1_42 ?_
      refine lv_lookup (tgt := 52) (off := 51) hx hb dX4_priceBy_1 (by decide) (by decide) (by decide) ?_
      refine lv_aload_n hx hb dX4_priceBy_52 rfl (lv_at hl 0 rfl) ?_
      refine lv_iload_n hx hb dX4_priceBy_53 rfl (lv_at hl 2 rfl) ?_
      refine lv_iconst (v := 0) hx hb dX4_priceBy_54 (by decide) ?_
      refine kRi (va_runV (As := [.int (nI b), .int 0]) (rest := []) ⟨hx, hb, hml, hown, hts⟩ (c_X4_price l g m0 m1 m2 m3 m4 m5 ma np ln th at_ hs rw w b 0) (cwV 2 hts gX4_priceBy_X4_price rfl rfl rfl (by decide +kernel) ⟨(Nat.le_of_ble_eq_true rfl), (Nat.le_of_ble_eq_true rfl)⟩) (preV (RX4, TX4, 11) hE hP [0, 1] rfl rfl) rfl rfl hl.1 rfl (lv_room (Nat.le_of_ble_eq_true rfl)) dX4_priceBy_55 ⟨(Nat.le_of_ble_eq_true rfl), (Nat.le_of_ble_eq_true rfl)⟩) hP hS (fun r9 H locs hr9 hP hS => ?_)
      subst hr9
      subst hQ
      exact W.iret (v := (mcF rw b 0)) hx hb hr (fun t ht hW => ⟨⟨(mcF rw b 0), (), rfl, ((if_neg q1_35).trans (if_pos q1_42)).symm, trivial⟩, hS.F ht⟩) hS.2.2 dX4_priceBy_58
    · skip
      by_cases q1_43 : sg = 43
      · refine lv_tope (y := 43) q1_43 ?_
        refine lv_lookup (tgt := 73) (off := 72) hx hb dX4_priceBy_1 (by decide) (by decide) (by decide) ?_
        refine lv_aload_n hx hb dX4_priceBy_73 rfl (lv_at hl 0 rfl) ?_
        refine va_get (D := g.1) (ci := 4) (v := .ref m1) (C := RX4) (T := TX4) (N := 11) hx hb hts in_X4_priceBy_X4 hown hK hP 0 rfl rfl 0 (by decide) (hts _ (List.mem_of_getElem? (i := 1) rfl)) (fun _ h9 => h9) rfl dX4_priceBy_74 ?_
        refine lv_iconst (v := 2) hx hb dX4_priceBy_77 (by decide) ?_
        refine lv_tope (y := (nI 2)) rfl ?_
        refine gIald (k := 2) hx hb hE hP 1 rfl (by omega) (by omega) dX4_priceBy_78 ?_
        subst hQ
        exact W.iret (v := (rw 2)) hx hb hr (fun t ht hW => ⟨⟨(rw 2), (), rfl, ((if_neg q1_35).trans ((if_neg q1_42).trans (if_pos q1_43))).symm, trivial⟩, hS.F ht⟩) hS.2.2 dX4_priceBy_79
      · skip
        by_cases q1_45 : sg = 45
        · refine lv_tope (y := 45) q1_45 ?_
          refine lv_lookup (tgt := 73) (off := 72) hx hb dX4_priceBy_1 (by decide) (by decide) (by decide) ?_
          refine lv_aload_n hx hb dX4_priceBy_73 rfl (lv_at hl 0 rfl) ?_
          refine va_get (D := g.1) (ci := 4) (v := .ref m1) (C := RX4) (T := TX4) (N := 11) hx hb hts in_X4_priceBy_X4 hown hK hP 0 rfl rfl 0 (by decide) (hts _ (List.mem_of_getElem? (i := 1) rfl)) (fun _ h9 => h9) rfl dX4_priceBy_74 ?_
          refine lv_iconst (v := 2) hx hb dX4_priceBy_77 (by decide) ?_
          refine lv_tope (y := (nI 2)) rfl ?_
          refine gIald (k := 2) hx hb hE hP 1 rfl (by omega) (by omega) dX4_priceBy_78 ?_
          subst hQ
          exact W.iret (v := (rw 2)) hx hb hr (fun t ht hW => ⟨⟨(rw 2), (), rfl, ((if_neg q1_35).trans ((if_neg q1_42).trans ((if_neg q1_43).trans (if_pos q1_45)))).symm, trivial⟩, hS.F ht⟩) hS.2.2 dX4_priceBy_79
        · skip
          by_cases q1_120 : sg = 120
          · refine lv_tope (y := 120) q1_120 ?_
            refine lv_lookup (tgt := 59) (off := 58) hx hb dX4_priceBy_1 (by decide) (by decide) (by decide) ?_
            refine lv_aload_n hx hb dX4_priceBy_59 rfl (lv_at hl 0 rfl) ?_
            refine lv_iload_n hx hb dX4_priceBy_60 rfl (lv_at hl 2 rfl) ?_
            refine lv_iconst (v := 1) hx hb dX4_priceBy_61 (by decide) ?_
            refine kRi (va_runV (As := [.int (nI b), .int 1]) (rest := []) ⟨hx, hb, hml, hown, hts⟩ (c_X4_price l g m0 m1 m2 m3 m4 m5 ma np ln th at_ hs rw w b 1) (cwV 2 hts gX4_priceBy_X4_price rfl rfl rfl (by decide +kernel) ⟨(Nat.le_of_ble_eq_true rfl), (Nat.le_of_ble_eq_true rfl)⟩) (preV (RX4, TX4, 11) hE hP [0, 1] rfl rfl) rfl rfl hl.1 rfl (lv_room (Nat.le_of_ble_eq_true rfl)) dX4_priceBy_62 ⟨(Nat.le_of_ble_eq_true rfl), (Nat.le_of_ble_eq_true rfl)⟩) hP hS (fun r9 H locs hr9 hP hS => ?_)
            subst hr9
            subst hQ
            exact W.iret (v := (mcF rw b 1)) hx hb hr (fun t ht hW => ⟨⟨(mcF rw b 1), (), rfl, ((if_neg q1_35).trans ((if_neg q1_42).trans ((if_neg q1_43).trans ((if_neg q1_45).trans (if_pos q1_120))))).symm, trivial⟩, hS.F ht⟩) hS.2.2 dX4_priceBy_65
          · skip
            refine lv_lookup (tgt := 80) (off := 79) hx hb dX4_priceBy_1 (by decide) ((lv_osw q1_35 (by decide)).trans ((lv_osw q1_42 (by decide)).trans ((lv_osw q1_43 (by decide)).trans ((lv_osw q1_45 (by decide)).trans ((lv_osw q1_120 (by decide)).trans rfl))))) (by decide) ?_
            refine lv_aload_n hx hb dX4_priceBy_80 rfl (lv_at hl 0 rfl) ?_
            refine va_get (D := g.1) (ci := 4) (v := .ref m1) (C := RX4) (T := TX4) (N := 11) hx hb hts in_X4_priceBy_X4 hown hK hP 0 rfl rfl 0 (by decide) (hts _ (List.mem_of_getElem? (i := 1) rfl)) (fun _ h9 => h9) rfl dX4_priceBy_81 ?_
            refine lv_iconst (v := 3) hx hb dX4_priceBy_84 (by decide) ?_
            refine lv_tope (y := (nI 3)) rfl ?_
            refine gIald (k := 3) hx hb hE hP 1 rfl (by omega) (by omega) dX4_priceBy_85 ?_
            refine lv_iload_n hx hb dX4_priceBy_86 rfl (lv_at hl 2 rfl) ?_
            refine lv_bipush (v := 31) hx hb dX4_priceBy_87 (by decide) ?_
            refine lv_icmp_le (tgt := 97) hx hb dX4_priceBy_89 (by decide) (fun c89 => ?_) (fun c89 => ?_)
            · have n89 : b ≤ 31 := (nI_leI (a := b) (b := 31) (by omega) (by omega)).mp c89
              refine lv_iload_n hx hb dX4_priceBy_97 rfl (lv_at hl 2 rfl) ?_
              refine lv_tope (y := mxF b) (by first | exact (if_pos c89).symm | exact (if_neg c89).symm) ?_
              refine lv_imul hx hb dX4_priceBy_98 ?_
              subst hQ
              exact W.iret (v := ((rw 3) * (mxF b))) hx hb hr (fun t ht hW => ⟨⟨((rw 3) * (mxF b)), (), rfl, ((if_neg q1_35).trans ((if_neg q1_42).trans ((if_neg q1_43).trans ((if_neg q1_45).trans (if_neg q1_120))))).symm, trivial⟩, hS.F ht⟩) hS.2.2 dX4_priceBy_99
            · have n89 : 31 < b := Nat.lt_of_not_le (fun h9 => c89 ((nI_leI (a := b) (b := 31) (by omega) (by omega)).mpr h9))
              refine lv_bipush (v := 31) hx hb dX4_priceBy_92 (by decide) ?_
              refine lv_goto (tgt := 98) hx hb dX4_priceBy_94 (by decide) ?_
              refine lv_tope (y := mxF b) (by first | exact (if_pos c89).symm | exact (if_neg c89).symm) ?_
              refine lv_imul hx hb dX4_priceBy_98 ?_
              subst hQ
              exact W.iret (v := ((rw 3) * (mxF b))) hx hb hr (fun t ht hW => ⟨⟨((rw 3) * (mxF b)), (), rfl, ((if_neg q1_35).trans ((if_neg q1_42).trans ((if_neg q1_43).trans ((if_neg q1_45).trans (if_neg q1_120))))).symm, trivial⟩, hS.F ht⟩) hS.2.2 dX4_priceBy_99
